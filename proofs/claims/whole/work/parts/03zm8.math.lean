section ZQRZ
variable {fa m_rounds rd_last v_facts v_applies v_falls v_sureBodies v_neverBodies c_shut rc_isSettled x1 x2 : Int32} {rd_came v_known v_fresh v_strictFor v_forwardFor v_allFor v_above v_reach c_kind c_head c_body c_excepts c_power c_beats m_came m_known m_fresh m_reached m_kind m_head m_body m_except m_strength m_off m_over : Nat → Int32} {N : Nat}
theorem e_tag (hN : N ≤ 16) (hfa : zLo fa) (hs : zSame N c_kind c_head c_body c_excepts c_power c_beats c_shut m_kind m_head m_body m_except m_strength m_off m_over) (hv : zVal N m_kind m_head m_body m_except m_strength m_over) (hset : ¬ rc_isSettled = 0 → zSt m_kind m_head m_body m_except m_strength m_off m_over fa N (rd_came, rd_last, v_known, v_fresh, v_strictFor, v_forwardFor, v_allFor, v_above, v_facts, v_applies, v_falls, v_sureBodies, v_neverBodies)) : ((FX8_tag rc_isSettled c_kind c_head c_body c_excepts c_power c_beats fa (nI N) c_shut rd_came rd_last v_known v_fresh v_strictFor v_forwardFor v_allFor v_above v_facts v_applies v_falls v_sureBodies v_neverBodies x1 x2)).1 = ((FX9_tag fa (nI N) m_kind m_head m_body m_except m_strength m_off m_over m_came m_known m_fresh m_rounds x1 x2)).1 ∧ (¬ ((FX8_tag rc_isSettled c_kind c_head c_body c_excepts c_power c_beats fa (nI N) c_shut rd_came rd_last v_known v_fresh v_strictFor v_forwardFor v_allFor v_above v_facts v_applies v_falls v_sureBodies v_neverBodies x1 x2)).2.1 = 0 → zSt m_kind m_head m_body m_except m_strength m_off m_over fa N ((FX8_tag rc_isSettled c_kind c_head c_body c_excepts c_power c_beats fa (nI N) c_shut rd_came rd_last v_known v_fresh v_strictFor v_forwardFor v_allFor v_above v_facts v_applies v_falls v_sureBodies v_neverBodies x1 x2)).2.2) := by
  obtain ⟨s1, s2⟩ := k_settled hN hfa hs hv hset
  have h := s2 m_came m_known m_fresh m_rounds
  unfold FX8_tag FX9_tag
  generalize (FX8_settled rc_isSettled c_kind c_head c_body c_excepts c_power c_beats fa (nI N) c_shut rd_came rd_last v_known v_fresh v_strictFor v_forwardFor v_allFor v_above v_facts v_applies v_falls v_sureBodies v_neverBodies) = S at s1 s2 h ⊢
  generalize (FX9_tags fa (nI N) m_kind m_head m_body m_except m_strength m_off m_over m_came m_known m_fresh m_rounds) = U at h ⊢
  simp only [bnd, e_lit, e_tag9]
  by_cases c1 : FX8_isLiteral x1 = 0
  · rw [if_pos c1, if_pos c1]; exact ⟨rfl, hset⟩
  · rw [if_neg c1, if_neg c1]
    by_cases c2 : FX8_isTag x2 = 0
    · rw [if_pos c2, if_pos c2]; exact ⟨rfl, hset⟩
    · rw [if_neg c2, if_neg c2]
      obtain ⟨q, hq, rfl⟩ := is_lit c1
      obtain ⟨t, ht, rfl⟩ := is_tag c2
      refine ⟨?_, fun _ => s2⟩
      show FX4_roundOf S.2.1 (nI t) (nI q) = U.1 _
      unfold FX4_roundOf
      rw [z20' ht hq, z20 ht hq]
      exact h.1 _ (by omega)
theorem e_tagged (hN : N ≤ 16) (hfa : zLo fa) (hs : zSame N c_kind c_head c_body c_excepts c_power c_beats c_shut m_kind m_head m_body m_except m_strength m_off m_over) (hv : zVal N m_kind m_head m_body m_except m_strength m_over) (hset : ¬ rc_isSettled = 0 → zSt m_kind m_head m_body m_except m_strength m_off m_over fa N (rd_came, rd_last, v_known, v_fresh, v_strictFor, v_forwardFor, v_allFor, v_above, v_facts, v_applies, v_falls, v_sureBodies, v_neverBodies)) : ((FX8_tagged rc_isSettled c_kind c_head c_body c_excepts c_power c_beats fa (nI N) c_shut rd_came rd_last v_known v_fresh v_strictFor v_forwardFor v_allFor v_above v_facts v_applies v_falls v_sureBodies v_neverBodies x1 x2)).1 = ((FX9_tagged fa (nI N) m_kind m_head m_body m_except m_strength m_off m_over m_came m_known m_fresh m_rounds x1 x2)).1 ∧ (¬ ((FX8_tagged rc_isSettled c_kind c_head c_body c_excepts c_power c_beats fa (nI N) c_shut rd_came rd_last v_known v_fresh v_strictFor v_forwardFor v_allFor v_above v_facts v_applies v_falls v_sureBodies v_neverBodies x1 x2)).2.1 = 0 → zSt m_kind m_head m_body m_except m_strength m_off m_over fa N ((FX8_tagged rc_isSettled c_kind c_head c_body c_excepts c_power c_beats fa (nI N) c_shut rd_came rd_last v_known v_fresh v_strictFor v_forwardFor v_allFor v_above v_facts v_applies v_falls v_sureBodies v_neverBodies x1 x2)).2.2) := by
  obtain ⟨s1, s2⟩ := k_settled hN hfa hs hv hset
  have h := s2 m_came m_known m_fresh m_rounds
  unfold FX8_tagged FX9_tagged
  generalize (FX8_settled rc_isSettled c_kind c_head c_body c_excepts c_power c_beats fa (nI N) c_shut rd_came rd_last v_known v_fresh v_strictFor v_forwardFor v_allFor v_above v_facts v_applies v_falls v_sureBodies v_neverBodies) = S at s1 s2 h ⊢
  generalize (FX9_tags fa (nI N) m_kind m_head m_body m_except m_strength m_off m_over m_came m_known m_fresh m_rounds) = U at h ⊢
  simp only [bnd, e_tag9]
  by_cases c1 : FX8_isTag x1 = 0
  · rw [if_pos c1, if_pos c1]; exact ⟨rfl, hset⟩
  · rw [if_neg c1, if_neg c1]
    obtain ⟨t, ht, rfl⟩ := is_tag c1
    by_cases c2 : 0 ≤ x2
    · rw [if_pos c2, if_pos c2]
      by_cases c3 : x2 = 0
      · rw [if_pos c3, if_pos c3]
        refine ⟨?_, fun _ => s2⟩
        show S.2.2.2.1 (nI t).toNatClampNeg = U.2.1 (nI t).toNatClampNeg
        rw [nI_clamp (by omega)]
        exact h.2.1 t ht
      · rw [if_neg c3, if_neg c3]
        refine ⟨?_, fun _ => s2⟩
        show FX4_broughtBy S.2.1 (nI t) x2 = FX9_cameIn U.1 (nI t) x2 0
        refine zM_eq (k_broughtBy ht) (r_cameIn ht) (fun q hq => ?_)
        rw [if_pos rfl, h.1 _ (by omega)]
        by_cases d : U.1 (20 * t + q) = x2
        · rw [decide_eq_true d, d, decide_eq_false (fun z => c3 (Int32.le_antisymm z c2))]; rfl
        · rw [decide_eq_false d, Bool.and_false]
    · rw [if_neg c2, if_neg c2]; exact ⟨rfl, hset⟩
theorem e_state (hN : N ≤ 16) (hfa : zLo fa) (hs : zSame N c_kind c_head c_body c_excepts c_power c_beats c_shut m_kind m_head m_body m_except m_strength m_off m_over) (hv : zVal N m_kind m_head m_body m_except m_strength m_over) (hset : ¬ rc_isSettled = 0 → zSt m_kind m_head m_body m_except m_strength m_off m_over fa N (rd_came, rd_last, v_known, v_fresh, v_strictFor, v_forwardFor, v_allFor, v_above, v_facts, v_applies, v_falls, v_sureBodies, v_neverBodies)) : ((FX8_state rc_isSettled c_kind c_head c_body c_excepts c_power c_beats fa (nI N) c_shut rd_came rd_last v_known v_fresh v_strictFor v_forwardFor v_allFor v_above v_facts v_applies v_falls v_sureBodies v_neverBodies x1)).1 = ((FX9_state fa (nI N) m_kind m_head m_body m_except m_strength m_off m_over m_came m_known m_fresh m_rounds x1)).1 ∧ (¬ ((FX8_state rc_isSettled c_kind c_head c_body c_excepts c_power c_beats fa (nI N) c_shut rd_came rd_last v_known v_fresh v_strictFor v_forwardFor v_allFor v_above v_facts v_applies v_falls v_sureBodies v_neverBodies x1)).2.1 = 0 → zSt m_kind m_head m_body m_except m_strength m_off m_over fa N ((FX8_state rc_isSettled c_kind c_head c_body c_excepts c_power c_beats fa (nI N) c_shut rd_came rd_last v_known v_fresh v_strictFor v_forwardFor v_allFor v_above v_facts v_applies v_falls v_sureBodies v_neverBodies x1)).2.2) := by
  obtain ⟨s1, s2⟩ := k_settled hN hfa hs hv hset
  have h := s2 m_came m_known m_fresh m_rounds
  unfold FX8_state FX9_state
  generalize (FX8_settled rc_isSettled c_kind c_head c_body c_excepts c_power c_beats fa (nI N) c_shut rd_came rd_last v_known v_fresh v_strictFor v_forwardFor v_allFor v_above v_facts v_applies v_falls v_sureBodies v_neverBodies) = S at s1 s2 h ⊢
  generalize (FX9_tags fa (nI N) m_kind m_head m_body m_except m_strength m_off m_over m_came m_known m_fresh m_rounds) = U at h ⊢
  simp only [bnd, e_rule hN]
  by_cases c1 : FX0_hasRule (nI N) x1 = 0
  · rw [if_pos c1, if_pos c1]; exact ⟨rfl, hset⟩
  · rw [if_neg c1, if_neg c1]
    obtain ⟨r, hr, rfl⟩ := has_rule hN c1
    refine ⟨?_, fun _ => s2⟩
    obtain ⟨g1, g2, -, -⟩ := zWg_congr (K' := U.2.1) h.2.1 h.2.2.2.2.1
    simp only [FX9_state_27, bnd, z_bit (show r < 32 by omega), r_applies (show r < 16 by omega), r_falls (show r < 16 by omega)]
    show zi (zb S.2.2.2.2.2.2.2.2.2.2.1 r) + 2 * zi (zb S.2.2.2.2.2.2.2.2.2.2.2.1 r) = _
    rw [zM_b g1 hr, zM_b g2 hr]
    cases aApp m_body m_except U.2.1 r <;> cases aFal m_body m_except U.2.1 r <;> rfl
theorem e_sides (hN : N ≤ 16) (hfa : zLo fa) (hs : zSame N c_kind c_head c_body c_excepts c_power c_beats c_shut m_kind m_head m_body m_except m_strength m_off m_over) (hv : zVal N m_kind m_head m_body m_except m_strength m_over) (hset : ¬ rc_isSettled = 0 → zSt m_kind m_head m_body m_except m_strength m_off m_over fa N (rd_came, rd_last, v_known, v_fresh, v_strictFor, v_forwardFor, v_allFor, v_above, v_facts, v_applies, v_falls, v_sureBodies, v_neverBodies)) : ((FX8_sides rc_isSettled c_kind c_head c_body c_excepts c_power c_beats fa (nI N) c_shut rd_came rd_last v_known v_fresh v_strictFor v_forwardFor v_allFor v_above v_facts v_applies v_falls v_sureBodies v_neverBodies x1 x2)).1 = ((FX9_sides fa (nI N) m_kind m_head m_body m_except m_strength m_off m_over m_came m_known m_fresh m_rounds x1 x2)).1 ∧ (¬ ((FX8_sides rc_isSettled c_kind c_head c_body c_excepts c_power c_beats fa (nI N) c_shut rd_came rd_last v_known v_fresh v_strictFor v_forwardFor v_allFor v_above v_facts v_applies v_falls v_sureBodies v_neverBodies x1 x2)).2.1 = 0 → zSt m_kind m_head m_body m_except m_strength m_off m_over fa N ((FX8_sides rc_isSettled c_kind c_head c_body c_excepts c_power c_beats fa (nI N) c_shut rd_came rd_last v_known v_fresh v_strictFor v_forwardFor v_allFor v_above v_facts v_applies v_falls v_sureBodies v_neverBodies x1 x2)).2.2) := by
  obtain ⟨s1, s2⟩ := k_settled hN hfa hs hv hset
  have h := s2 m_came m_known m_fresh m_rounds
  unfold FX8_sides FX9_sides
  generalize (FX8_settled rc_isSettled c_kind c_head c_body c_excepts c_power c_beats fa (nI N) c_shut rd_came rd_last v_known v_fresh v_strictFor v_forwardFor v_allFor v_above v_facts v_applies v_falls v_sureBodies v_neverBodies) = S at s1 s2 h ⊢
  generalize (FX9_tags fa (nI N) m_kind m_head m_body m_except m_strength m_off m_over m_came m_known m_fresh m_rounds) = U at h ⊢
  simp only [bnd, e_lit, e_bit]
  by_cases c1 : FX8_isLiteral x1 = 0
  · rw [if_pos c1, if_pos c1]; exact ⟨rfl, hset⟩
  · rw [if_neg c1, if_neg c1]
    by_cases c2 : FX8_isYesOrNo x2 = 0
    · rw [if_pos c2, if_pos c2]; exact ⟨rfl, hset⟩
    · rw [if_neg c2, if_neg c2]
      obtain ⟨q, hq, rfl⟩ := is_lit c1
      obtain ⟨g1, g2, -, -⟩ := zWg_congr (K' := U.2.1) h.2.1 h.2.2.2.2.1
      by_cases c3 : x2 = 0
      · rw [if_pos c3, if_pos c3]
        refine ⟨?_, fun _ => s2⟩
        exact zM_eq (k_threats hN hq h.2.2.2.1 g1 g2) (r_threats hN hq) (fun _ _ => rfl)
      · rw [if_neg c3, if_neg c3]
        refine ⟨?_, fun _ => s2⟩
        exact zM_eq (k_team hq h.2.2.2.1 g1) (r_team hN) (fun _ _ => rfl)
theorem e_rulesFor (hN : N ≤ 16) (hfa : zLo fa) (hs : zSame N c_kind c_head c_body c_excepts c_power c_beats c_shut m_kind m_head m_body m_except m_strength m_off m_over) (hv : zVal N m_kind m_head m_body m_except m_strength m_over) (hset : ¬ rc_isSettled = 0 → zSt m_kind m_head m_body m_except m_strength m_off m_over fa N (rd_came, rd_last, v_known, v_fresh, v_strictFor, v_forwardFor, v_allFor, v_above, v_facts, v_applies, v_falls, v_sureBodies, v_neverBodies)) : ((FX8_rulesFor rc_isSettled c_kind c_head c_body c_excepts c_power c_beats fa (nI N) c_shut rd_came rd_last v_known v_fresh v_strictFor v_forwardFor v_allFor v_above v_facts v_applies v_falls v_sureBodies v_neverBodies x1)).1 = (FX9_rulesFor (nI N) m_head m_off x1) ∧ (¬ ((FX8_rulesFor rc_isSettled c_kind c_head c_body c_excepts c_power c_beats fa (nI N) c_shut rd_came rd_last v_known v_fresh v_strictFor v_forwardFor v_allFor v_above v_facts v_applies v_falls v_sureBodies v_neverBodies x1)).2.1 = 0 → zSt m_kind m_head m_body m_except m_strength m_off m_over fa N ((FX8_rulesFor rc_isSettled c_kind c_head c_body c_excepts c_power c_beats fa (nI N) c_shut rd_came rd_last v_known v_fresh v_strictFor v_forwardFor v_allFor v_above v_facts v_applies v_falls v_sureBodies v_neverBodies x1)).2.2) := by
  obtain ⟨s1, s2⟩ := k_settled hN hfa hs hv hset
  have h := s2 (fun _ => 0) (fun _ => 0) (fun _ => 0) 0
  unfold FX8_rulesFor FX9_rulesFor
  generalize (FX8_settled rc_isSettled c_kind c_head c_body c_excepts c_power c_beats fa (nI N) c_shut rd_came rd_last v_known v_fresh v_strictFor v_forwardFor v_allFor v_above v_facts v_applies v_falls v_sureBodies v_neverBodies) = S at s1 s2 h ⊢
  simp only [bnd, e_lit]
  by_cases c1 : FX8_isLiteral x1 = 0
  · rw [if_pos c1, if_pos c1]; exact ⟨rfl, hset⟩
  · rw [if_neg c1, if_neg c1]
    obtain ⟨q, hq, rfl⟩ := is_lit c1
    refine ⟨?_, fun _ => s2⟩
    show S.2.2.2.2.2.2.2.1 (nI q).toNatClampNeg = _
    rw [nI_clamp (show q < 2 ^ 31 by omega)]
    exact zM_eq (h.2.2.2.1.2.1 q hq).2.2 (r_rulesFor hN) (fun _ _ => rfl)
/-! rules that are above themselves -/
theorem r_aboveOf {r : Nat} (hN : N ≤ 16) (hr : r < N) (hv : ∀ o, zb (m_over r) o = true → o ≠ r) : zM (FX9_aboveOf (nI N) m_strength m_over (nI r)) N (aAbv m_strength m_over r) := by
  have hself : aAbv m_strength m_over r r = false := by
    unfold aAbv
    cases h : zb (m_over r) r
    · rw [decide_eq_true (Int32.le_refl _)]; rfl
    · exact absurd rfl (hv r h)
  obtain ⟨s, hs, e⟩ := zloopI (L := fun n i s => (FX9_aboveOf_4 (nI N) m_strength m_over (nI r)) ((FX9_aboveOf_42 (nI N) m_strength m_over (nI r))) n s i) (kt := fun s => s) N (I := fun i s => zM s i (aAbv m_strength m_over r)) (by
    intro n s _
    show (FX9_aboveOf_4 (nI N) m_strength m_over (nI r)) _ (n + 1) s (nI N) = s
    rw [FX9_aboveOf_4, if_pos (nI_le (Nat.le_refl N) (by omega))]; rfl) (by
    intro n i s hi h
    show ∃ s' : Int32, _ ∧ (FX9_aboveOf_4 (nI N) m_strength m_over (nI r)) ((FX9_aboveOf_42 (nI N) m_strength m_over (nI r))) (n + 1) s (nI i) = (FX9_aboveOf_4 (nI N) m_strength m_over (nI r)) ((FX9_aboveOf_42 (nI N) m_strength m_over (nI r))) n s' (nI (i + 1))
    rw [FX9_aboveOf_4, if_neg (nI_ge hi (by omega))]
    simp only [bnd, FX9_aboveOf_33, zi0, r_isAbove (show r < 16 by omega) (show i < 16 by omega), nI_1]
    by_cases c : nI i = nI r
    · rw [if_pos c]
      rw [nI_eq (by omega) (by omega)] at c
      subst c
      exact ⟨_, zM_n0 h hself, rfl⟩
    · rw [if_neg c]
      cases h1 : aAbv m_strength m_over r i
      · exact ⟨_, zM_n0 h h1, rfl⟩
      · exact ⟨_, zM_y h (by omega) h1, rfl⟩) 17 0 0 (by omega) (by omega) (zM_0 _)
  unfold FX9_aboveOf
  rw [show (FX9_aboveOf_4 (nI N) m_strength m_over (nI r)) ((FX9_aboveOf_42 (nI N) m_strength m_over (nI r))) 17 0 0 = s from e]
  exact hs
/-- one step of the closing by one rule -/
def zst (by_ : Nat) (f : Nat → Int32) (i : Nat) : Nat → Int32 := if zb (f i) by_ = true then upd f i (f i ||| f by_) else f
/-- a row of steps, by one rule, over all -/
def zrow (b n : Nat) (f : Nat → Int32) : Nat → Int32 := (List.range n).foldl (zst b) f
def zclo (m n : Nat) (f : Nat → Int32) : Nat → Int32 := (List.range m).foldl (fun g b => zrow b n g) f
theorem zrow_s (b n : Nat) (f : Nat → Int32) : zrow b (n + 1) f = zst b (zrow b n f) n := by unfold zrow; rw [List.range_succ, List.foldl_append]; rfl
theorem zclo_s (m n : Nat) (f : Nat → Int32) : zclo (m + 1) n f = zrow m n (zclo m n f) := by unfold zclo; rw [List.range_succ, List.foldl_append]; rfl
theorem zup_id (f : Nat → Int32) (i : Nat) : upd f i (f i ||| 0) = f := by
  funext j
  by_cases e : j = i
  · subst e; rw [pk_us, Int32.or_zero]
  · rw [pk_un e]
theorem r_c39 {rc29 : (Int32) → (Nat → Int32) → (Int32 × (Nat → Int32))} {kt29 : (Nat → Int32) → (Int32 × (Nat → Int32))} {kt39 : (Int32) → (Nat → Int32) → (Int32 × (Nat → Int32))} {b : Nat} (hN : N ≤ 16) (hb : b < 16) (f : Nat → Int32) : (FX9_circles_39 (nI N) m_strength m_over m_reached) rc29 kt29 kt39 17 (nI b) 0 f = kt39 (nI b) (zrow b N f) := by
  obtain ⟨s, hs, e⟩ := zloopI (L := fun n x g => (FX9_circles_39 (nI N) m_strength m_over m_reached) rc29 kt29 kt39 n (nI b) x g) (kt := fun g => kt39 (nI b) g) N (I := fun i g => g = zrow b i f) (by
    intro n g _
    show (FX9_circles_39 (nI N) m_strength m_over m_reached) rc29 kt29 kt39 (n + 1) (nI b) (nI N) g = _
    rw [FX9_circles_39, if_pos (nI_le (Nat.le_refl N) (by omega))]) (by
    intro n i g hi h
    subst h
    show ∃ s' : Nat → Int32, _ ∧ (FX9_circles_39 (nI N) m_strength m_over m_reached) rc29 kt29 kt39 (n + 1) (nI b) (nI i) (zrow b i f) = (FX9_circles_39 (nI N) m_strength m_over m_reached) rc29 kt29 kt39 n (nI b) (nI (i + 1)) s'
    rw [FX9_circles_39, if_neg (nI_ge hi (by omega))]
    simp only [bnd, zh9 (show b < 32 by omega), zi0, nI_clamp (show i < 2 ^ 31 by omega), nI_clamp (show b < 2 ^ 31 by omega), nI_1, zup_id]
    rw [zrow_s]
    unfold zst
    cases zb (zrow b i f i) b
    · exact ⟨_, rfl, rfl⟩
    · exact ⟨_, rfl, rfl⟩) 17 0 f (by omega) (by omega) rfl
  subst hs
  exact e
theorem r_c29 {kt29 : (Nat → Int32) → (Int32 × (Nat → Int32))} (hN : N ≤ 16) (f : Nat → Int32) : (FX9_circles_29 (nI N) m_strength m_over m_reached) kt29 17 0 f = kt29 (zclo N N f) := by
  obtain ⟨s, hs, e⟩ := zloopI (L := fun n x g => (FX9_circles_29 (nI N) m_strength m_over m_reached) kt29 n x g) (kt := fun g => kt29 g) N (I := fun i g => g = zclo i N f) (by
    intro n g _
    show (FX9_circles_29 (nI N) m_strength m_over m_reached) kt29 (n + 1) (nI N) g = _
    rw [FX9_circles_29, if_pos (nI_le (Nat.le_refl N) (by omega))]) (by
    intro n i g hi h
    subst h
    show ∃ s' : Nat → Int32, _ ∧ (FX9_circles_29 (nI N) m_strength m_over m_reached) kt29 (n + 1) (nI i) (zclo i N f) = (FX9_circles_29 (nI N) m_strength m_over m_reached) kt29 n (nI (i + 1)) s'
    rw [FX9_circles_29, if_neg (nI_ge hi (by omega)), r_c39 hN (show i < 16 by omega)]
    exact ⟨_, (zclo_s i N f).symm, by unfold FX9_circles_85; rw [nI_1]⟩) 17 0 f (by omega) (by omega) rfl
  subst hs
  exact e
theorem r_c2 {kt2 : (Nat → Int32) → (Int32 × (Nat → Int32))} (hN : N ≤ 16) (hv : ∀ r, r < N → ∀ o, zb (m_over r) o = true → o ≠ r) (f : Nat → Int32) : ∃ g : Nat → Int32, (∀ r, r < N → zM (g r) N (aAbv m_strength m_over r)) ∧ (FX9_circles_2 (nI N) m_strength m_over m_reached) kt2 17 0 f = kt2 g := by
  refine zloopI (L := fun n x g => (FX9_circles_2 (nI N) m_strength m_over m_reached) kt2 n x g) (kt := fun g => kt2 g) N (I := fun i g => ∀ r, r < i → zM (g r) N (aAbv m_strength m_over r)) ?_ ?_ 17 0 f (by omega) (by omega) (fun r h => absurd h (Nat.not_lt_zero r))
  · intro n g _
    show (FX9_circles_2 (nI N) m_strength m_over m_reached) kt2 (n + 1) (nI N) g = _
    rw [FX9_circles_2, if_pos (nI_le (Nat.le_refl N) (by omega))]
  · intro n i g hi h
    show ∃ s' : Nat → Int32, _ ∧ (FX9_circles_2 (nI N) m_strength m_over m_reached) kt2 (n + 1) (nI i) g = (FX9_circles_2 (nI N) m_strength m_over m_reached) kt2 n (nI (i + 1)) s'
    rw [FX9_circles_2, if_neg (nI_ge hi (by omega))]
    simp only [bnd, nI_clamp (show i < 2 ^ 31 by omega), nI_1]
    refine ⟨_, fun r hr => ?_, rfl⟩
    by_cases c : r = i
    · subst c
      rw [pk_us]
      exact r_aboveOf hN hi (hv r hi)
    · rw [pk_un c]
      exact h r (by omega)
theorem r_c95 {kt95 : (Int32) → (Nat → Int32) → (Int32 × (Nat → Int32))} (hN : N ≤ 16) (f : Nat → Int32) : ∃ s : Int32, zM s N (fun r => zb (f r) r) ∧ (FX9_circles_95 (nI N) m_strength m_over m_reached) kt95 17 0 0 f = kt95 s f := by
  refine zloopI (L := fun n x s => (FX9_circles_95 (nI N) m_strength m_over m_reached) kt95 n s x f) (kt := fun s => kt95 s f) N (I := fun i s => zM s i (fun r => zb (f r) r)) ?_ ?_ 17 0 0 (by omega) (by omega) (zM_0 _)
  · intro n s _
    show (FX9_circles_95 (nI N) m_strength m_over m_reached) kt95 (n + 1) s (nI N) f = _
    rw [FX9_circles_95, if_pos (nI_le (Nat.le_refl N) (by omega))]
  · intro n i s hi h
    show ∃ s' : Int32, _ ∧ (FX9_circles_95 (nI N) m_strength m_over m_reached) kt95 (n + 1) s (nI i) f = (FX9_circles_95 (nI N) m_strength m_over m_reached) kt95 n s' (nI (i + 1)) f
    rw [FX9_circles_95, if_neg (nI_ge hi (by omega))]
    simp only [bnd, zh9 (show i < 32 by omega), zi0, nI_clamp (show i < 2 ^ 31 by omega), nI_1]
    cases h1 : zb (f i) i
    · exact ⟨_, zM_n0 h h1, rfl⟩
    · exact ⟨_, zM_y h (by omega) h1, rfl⟩
theorem r_circles (hN : N ≤ 16) (hv : ∀ r, r < N → ∀ o, zb (m_over r) o = true → o ≠ r) : ∃ g : Nat → Int32, (∀ r, r < N → zM (g r) N (aAbv m_strength m_over r)) ∧ zM ((FX9_circles (nI N) m_strength m_over m_reached)).1 N (fun r => zb (zclo N N g r) r) := by
  obtain ⟨g, hg, e⟩ := r_c2 (m_reached := m_reached) (kt2 := (FX9_circles_27 (nI N) m_strength m_over m_reached)) hN hv m_reached
  refine ⟨g, hg, ?_⟩
  unfold FX9_circles
  rw [e]
  unfold FX9_circles_27
  rw [r_c29 hN]
  unfold FX9_circles_91
  obtain ⟨s, hs, e2⟩ := r_c95 (m_strength := m_strength) (m_over := m_over) (m_reached := m_reached) (kt95 := (FX9_circles_132 (nI N) m_strength m_over m_reached)) hN (zclo N N g)
  rw [e2]
  exact hs
theorem k_c25 {rc17 : (Int32) → (Nat → Int32) → (Int32 × (Nat → Int32))} {kt17 : (Nat → Int32) → (Int32 × (Nat → Int32))} {kt25 : (Int32) → (Nat → Int32) → (Int32 × (Nat → Int32))} {b : Nat} (hb : b < 16) (f : Nat → Int32) : (FX6_circles_25 v_above v_reach) rc17 kt17 kt25 17 (nI b) 0 f = kt25 (nI b) (zrow b 16 f) := by
  obtain ⟨s, hs, e⟩ := zloopI (L := fun n x g => (FX6_circles_25 v_above v_reach) rc17 kt17 kt25 n (nI b) x g) (kt := fun g => kt25 (nI b) g) 16 (I := fun i g => g = zrow b i f) (by
    intro n g _
    show (FX6_circles_25 v_above v_reach) rc17 kt17 kt25 (n + 1) (nI b) (nI 16) g = _
    rw [FX6_circles_25, if_pos (show (16 : Int32) ≤ nI 16 by decide)]) (by
    intro n i g hi h
    subst h
    show ∃ s' : Nat → Int32, _ ∧ (FX6_circles_25 v_above v_reach) rc17 kt17 kt25 (n + 1) (nI b) (nI i) (zrow b i f) = (FX6_circles_25 v_above v_reach) rc17 kt17 kt25 n (nI b) (nI (i + 1)) s'
    rw [FX6_circles_25, if_neg (show ¬ (16 : Int32) ≤ nI i from nI_ge (b := 16) hi (by decide))]
    simp only [bnd, zh8 (show b < 32 by omega), zi0, nI_clamp (show i < 2 ^ 31 by omega), nI_clamp (show b < 2 ^ 31 by omega), nI_1]
    rw [zrow_s]
    unfold zst
    cases zb (zrow b i f i) b
    · exact ⟨_, rfl, rfl⟩
    · exact ⟨_, rfl, rfl⟩) 17 0 f (by omega) (by omega) rfl
  subst hs
  exact e
theorem k_c17 {kt17 : (Nat → Int32) → (Int32 × (Nat → Int32))} (f : Nat → Int32) : (FX6_circles_17 v_above v_reach) kt17 17 0 f = kt17 (zclo 16 16 f) := by
  obtain ⟨s, hs, e⟩ := zloopI (L := fun n x g => (FX6_circles_17 v_above v_reach) kt17 n x g) (kt := fun g => kt17 g) 16 (I := fun i g => g = zclo i 16 f) (by
    intro n g _
    show (FX6_circles_17 v_above v_reach) kt17 (n + 1) (nI 16) g = _
    rw [FX6_circles_17, if_pos (show (16 : Int32) ≤ nI 16 by decide)]) (by
    intro n i g hi h
    subst h
    show ∃ s' : Nat → Int32, _ ∧ (FX6_circles_17 v_above v_reach) kt17 (n + 1) (nI i) (zclo i 16 f) = (FX6_circles_17 v_above v_reach) kt17 n (nI (i + 1)) s'
    rw [FX6_circles_17, if_neg (show ¬ (16 : Int32) ≤ nI i from nI_ge (b := 16) hi (by decide)), k_c25 (show i < 16 by omega)]
    exact ⟨_, (zclo_s i 16 f).symm, by unfold FX6_circles_65; rw [nI_1]⟩) 17 0 f (by omega) (by omega) rfl
  subst hs
  exact e
theorem k_c75 {kt75 : (Int32) → (Nat → Int32) → (Int32 × (Nat → Int32))} (f : Nat → Int32) : ∃ s : Int32, zM s 16 (fun r => zb (f r) r) ∧ (FX6_circles_75 v_above v_reach) kt75 17 0 0 f = kt75 s f := by
  refine zloopI (L := fun n x s => (FX6_circles_75 v_above v_reach) kt75 n s x f) (kt := fun s => kt75 s f) 16 (I := fun i s => zM s i (fun r => zb (f r) r)) ?_ ?_ 17 0 0 (by omega) (by omega) (zM_0 _)
  · intro n s _
    show (FX6_circles_75 v_above v_reach) kt75 (n + 1) s (nI 16) f = _
    rw [FX6_circles_75, if_pos (show (16 : Int32) ≤ nI 16 by decide)]
  · intro n i s hi h
    show ∃ s' : Int32, _ ∧ (FX6_circles_75 v_above v_reach) kt75 (n + 1) s (nI i) f = (FX6_circles_75 v_above v_reach) kt75 n s' (nI (i + 1)) f
    rw [FX6_circles_75, if_neg (show ¬ (16 : Int32) ≤ nI i from nI_ge (b := 16) hi (by decide))]
    simp only [nI_clamp (show i < 2 ^ 31 by omega), nI_1]
    refine ⟨_, fun q => ?_, rfl⟩
    rw [zb_or, zb_and, zb_one (show i < 32 by omega), h q]
    rcases Nat.lt_trichotomy q i with c | c | c
    · rw [decide_eq_true c, decide_eq_true (show q < i + 1 by omega), decide_eq_false (Nat.ne_of_lt c), Bool.and_false, Bool.or_false]
    · subst c
      rw [decide_eq_false (Nat.lt_irrefl q), decide_eq_true (Nat.lt_succ_self q), decide_eq_true rfl, Bool.false_and, Bool.false_or, Bool.true_and, Bool.and_true]
    · rw [decide_eq_false (show ¬ q < i by omega), decide_eq_false (show ¬ q < i + 1 by omega), decide_eq_false (show ¬ q = i by omega)]
      cases zb (f i) q <;> rfl
theorem k_circles : zM ((FX6_circles v_above v_reach)).1 16 (fun r => zb (zclo 16 16 (va_cpy v_above v_reach (0 : Int32).toNatClampNeg (0 : Int32).toNatClampNeg (16 : Int32).toNatClampNeg) r) r) := by
  unfold FX6_circles
  rw [k_c17]
  unfold FX6_circles_71
  obtain ⟨s, hs, e2⟩ := k_c75 (v_above := v_above) (v_reach := v_reach) (kt75 := (FX6_circles_100 v_above v_reach)) (zclo 16 16 (va_cpy v_above v_reach (0 : Int32).toNatClampNeg (0 : Int32).toNatClampNeg (16 : Int32).toNatClampNeg))
  rw [e2]
  exact hs
/-- rows below N alike, bits below N; the others empty -/
def zcl (N : Nat) (f g : Nat → Int32) : Prop := (∀ r, r < N → f r = g r ∧ ∀ o, N ≤ o → zb (g r) o = false) ∧ ∀ r, N ≤ r → r < 16 → f r = 0
theorem zcl_st {N b i : Nat} {f g : Nat → Int32} (h : zcl N f g) (hb : b < N) (hi : i < N) : zcl N (zst b f i) (zst b g i) := by
  unfold zst
  rw [(h.1 i hi).1, (h.1 b hb).1]
  split
  · refine ⟨fun r hr => ?_, fun r h1 h2 => ?_⟩
    · by_cases e : r = i
      · subst e
        rw [pk_us, pk_us]
        exact ⟨rfl, fun o ho => by rw [zb_or, (h.1 r hr).2 o ho, (h.1 b hb).2 o ho]; rfl⟩
      · rw [pk_un e, pk_un e]; exact h.1 r hr
    · rw [pk_un (by omega)]; exact h.2 r h1 h2
  · exact h
theorem zst_hi {N b i : Nat} {f g : Nat → Int32} (h : zcl N f g) (hi : N ≤ i) (h16 : i < 16) : zst b f i = f := by
  unfold zst
  rw [h.2 i hi h16, zb_0, if_neg Bool.false_ne_true]
theorem zst_by {N b i : Nat} {f g : Nat → Int32} (h : zcl N f g) (hb : N ≤ b) (h16 : i < 16) : zst b f i = f := by
  unfold zst
  by_cases c : i < N
  · rw [(h.1 i c).1, (h.1 i c).2 b hb, if_neg Bool.false_ne_true]
  · rw [h.2 i (by omega) h16, zb_0, if_neg Bool.false_ne_true]
theorem zcl_row {N b : Nat} {f g : Nat → Int32} (hN : N ≤ 16) (h : zcl N f g) (hb : b < N) : zcl N (zrow b 16 f) (zrow b N g) := by
  have k1 : ∀ n, n ≤ N → zcl N (zrow b n f) (zrow b n g) := by
    intro n
    induction n with
    | zero => intro _; exact h
    | succ n ih => intro hn; rw [zrow_s, zrow_s]; exact zcl_st (ih (by omega)) hb (by omega)
  have k2 : ∀ k, N + k ≤ 16 → zrow b (N + k) f = zrow b N f := by
    intro k
    induction k with
    | zero => intro _; rfl
    | succ k ih =>
      intro hk
      rw [show N + (k + 1) = (N + k) + 1 by omega, zrow_s, ih (by omega)]
      exact zst_hi (k1 N (Nat.le_refl N)) (by omega) (by omega)
  have := k2 (16 - N) (by omega)
  rw [show N + (16 - N) = 16 by omega] at this
  rw [this]
  exact k1 N (Nat.le_refl N)
theorem zrow_by {N b : Nat} {f g : Nat → Int32} (h : zcl N f g) (hb : N ≤ b) : zrow b 16 f = f := by
  have : ∀ n, n ≤ 16 → zrow b n f = f := by
    intro n
    induction n with
    | zero => intro _; rfl
    | succ n ih => intro hn; rw [zrow_s, ih (by omega)]; exact zst_by h hb (by omega)
  exact this 16 (Nat.le_refl 16)
theorem zcl_clo {N : Nat} {f g : Nat → Int32} (hN : N ≤ 16) (h : zcl N f g) : zcl N (zclo 16 16 f) (zclo N N g) := by
  have k1 : ∀ n, n ≤ N → zcl N (zclo n 16 f) (zclo n N g) := by
    intro n
    induction n with
    | zero => intro _; exact h
    | succ n ih => intro hn; rw [zclo_s, zclo_s]; exact zcl_row hN (ih (by omega)) (by omega)
  have k2 : ∀ k, N + k ≤ 16 → zclo (N + k) 16 f = zclo N 16 f := by
    intro k
    induction k with
    | zero => intro _; rfl
    | succ k ih =>
      intro hk
      rw [show N + (k + 1) = (N + k) + 1 by omega, zclo_s, ih (by omega)]
      exact zrow_by (k1 N (Nat.le_refl N)) (by omega)
  have := k2 (16 - N) (by omega)
  rw [show N + (16 - N) = 16 by omega] at this
  rw [this]
  exact k1 N (Nat.le_refl N)
theorem e_circles (hN : N ≤ 16) (hv : ∀ r, r < N → ∀ o, zb (m_over r) o = true → o ≠ r) (hab : ∀ r, r < 16 → zM (v_above r) N (fun o => decide (r < N) && aAbv m_strength m_over r o)) : ((FX6_circles v_above v_reach)).1 = ((FX9_circles (nI N) m_strength m_over m_reached)).1 := by
  obtain ⟨g, hg, hr⟩ := r_circles (m_reached := m_reached) hN hv
  have hk := k_circles (v_above := v_above) (v_reach := v_reach)
  generalize hf : va_cpy v_above v_reach (0 : Int32).toNatClampNeg (0 : Int32).toNatClampNeg (16 : Int32).toNatClampNeg = f at hk
  have hfa : ∀ r, r < 16 → f r = v_above r := fun r hr => by
    rw [← hf, zc0, show (16 : Int32).toNatClampNeg = 16 from by decide, pk_cpy_in (Nat.zero_le r) (by omega), Nat.sub_zero, Nat.zero_add]
  have hcl : zcl N f g := by
    refine ⟨fun r hr => ⟨?_, fun o ho => zM_o (hg r hr) ho⟩, fun r h1 h2 => ?_⟩
    · rw [hfa r (by omega)]
      exact zM_eq (hab r (by omega)) (hg r hr) (fun o _ => by rw [decide_eq_true hr, Bool.true_and])
    · rw [hfa r h2]
      refine (zM_00 (hab r h2)).mpr (zE_f.mpr (fun o _ => by rw [decide_eq_false (by omega), Bool.false_and]))
  have hz := zcl_clo hN hcl
  refine zb_ext (fun q _ => ?_)
  rw [hk q, hr q]
  dsimp only
  by_cases c : q < N
  · rw [decide_eq_true c, decide_eq_true (show q < 16 by omega), (hz.1 q c).1]
  · rw [decide_eq_false c, Bool.false_and]
    by_cases c2 : q < 16
    · rw [hz.2 q (by omega) c2, zb_0, Bool.and_false]
    · rw [decide_eq_false c2, Bool.false_and]
end ZQRZ
