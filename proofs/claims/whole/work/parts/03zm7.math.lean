/-! queries: the class's answer is the reference's -/
theorem e_in {x : Int32} {k : Nat} (hk : k + 1 < 2 ^ 31) : FX9_in x 0 (nI k) = if x < 0 then 0 else if nI (k + 1) ≤ x then 0 else 1 := by
  unfold FX9_in
  by_cases h : x < 0
  · rw [if_pos h, if_pos h]
  · rw [if_neg h, if_neg h]
    obtain ⟨j, hj, rfl⟩ := nI_of h
    by_cases c : k < j
    · rw [if_pos (nI_lt c hj), if_pos (nI_le (by omega) hj)]
    · rw [if_neg (nI_nlt (by omega) (by omega)), if_neg (nI_ge (by omega) (by omega))]
theorem e_lit (x : Int32) : FX9_isLiteral x = FX8_isLiteral x := e_in (k := 19) (by decide)
theorem e_tag9 (x : Int32) : FX9_isTag x = FX8_isTag x := e_in (k := 3) (by decide)
theorem e_list9 (x : Int32) : FX9_isList x = FX8_isList x := e_in (k := 3) (by decide)
theorem e_str (x : Int32) : FX9_in x 0 9 = FX8_isStrength x := rfl
theorem e_are (x : Int32) : FX9_in x 0 1048575 = FX8_areLiterals x := rfl
theorem e_bit (x : Int32) : FX9_isBit x = FX8_isYesOrNo x := by
  show FX9_in x 0 1 = _
  unfold FX9_in FX8_isYesOrNo
  by_cases h : x < 0
  · rw [if_pos h, if_neg (fun e => by rw [e] at h; exact absurd h (by decide)), if_neg (fun e => by rw [e] at h; exact absurd h (by decide))]
  · obtain ⟨j, hj, rfl⟩ := nI_of h
    rw [if_neg h]
    rcases (show j = 0 ∨ j = 1 ∨ 1 < j by omega) with rfl | rfl | c
    · rfl
    · rfl
    · rw [if_pos (show (1 : Int32) < nI j from nI_lt (a := 1) c hj), if_neg (fun e => by rw [show (0 : Int32) = nI 0 from rfl, nI_eq hj (by decide)] at e; omega), if_neg (fun e => by rw [show (1 : Int32) = nI 1 from rfl, nI_eq hj (by decide)] at e; omega)]
theorem e_rule {N : Nat} (hN : N ≤ 16) (x : Int32) : FX9_isRule (nI N) x = FX0_hasRule (nI N) x := by
  show FX9_in x 0 (nI N - 1) = _
  rcases Nat.eq_zero_or_pos N with rfl | h0
  · unfold FX9_in FX0_hasRule
    by_cases h : x < 0
    · rw [if_pos h, if_pos h]
    · rw [if_neg h, if_neg h]
      obtain ⟨j, hj, rfl⟩ := nI_of h
      rw [if_pos (show nI 0 - 1 < nI j by rw [Int32.lt_iff_toInt_lt, nI_toInt hj, show (nI 0 - 1).toInt = -1 from by decide]; omega), if_pos (nI_le (Nat.zero_le j) hj)]
  · obtain ⟨k, rfl⟩ : ∃ k, N = k + 1 := ⟨N - 1, by omega⟩
    rw [nI_pred, e_in (by omega)]
    rfl
theorem has_rule {N : Nat} (hN : N ≤ 16) {x : Int32} (c : ¬ FX0_hasRule (nI N) x = 0) : ∃ r : Nat, r < N ∧ x = nI r := by
  unfold FX0_hasRule at c
  by_cases h : x < 0
  · rw [if_pos h] at c; exact absurd rfl c
  · rw [if_neg h] at c
    obtain ⟨j, hj, rfl⟩ := nI_of h
    by_cases h2 : nI N ≤ nI j
    · rw [if_pos h2] at c; exact absurd rfl c
    · rw [nI_leI (by omega) hj] at h2
      exact ⟨j, by omega, rfl⟩
theorem is_lit {x : Int32} (c : ¬ FX8_isLiteral x = 0) : ∃ q : Nat, q < 20 ∧ x = nI q := by
  obtain ⟨q, hq, e⟩ := vp_in_of (zisLit c) (by decide)
  exact ⟨q, hq, e⟩
theorem is_tag {x : Int32} (c : ¬ FX8_isTag x = 0) : ∃ q : Nat, q < 4 ∧ x = nI q := by
  obtain ⟨q, hq, e⟩ := vp_in_of (zisTag c) (by decide)
  exact ⟨q, hq, e⟩
theorem is_list {x : Int32} (c : ¬ FX8_isList x = 0) : ∃ q : Nat, q < 4 ∧ x = nI q := by
  obtain ⟨q, hq, e⟩ := vp_in_of (zisList c) (by decide)
  exact ⟨q, hq, e⟩
theorem is_yn {x : Int32} (c : ¬ FX8_isYesOrNo x = 0) : x = 0 ∨ x = 1 := by
  unfold FX8_isYesOrNo at c
  by_cases h : x = 0
  · exact Or.inl h
  · rw [if_neg h] at c
    by_cases h1 : x = 1
    · exact Or.inr h1
    · rw [if_neg h1] at c; exact absurd rfl c
theorem z_bit {x : Int32} {q : Nat} (h : q < 32) : FX8_bit x (nI q) = zi (zb x q) := by
  have hb : ∀ y : Int32, y &&& 1 = zi (zb y 0) := fun y => by
    cases hy : zb y 0
    · refine zb_ext (fun q _ => ?_)
      rw [zb_and, zi_f, zb_0]
      rcases Nat.eq_zero_or_pos q with rfl | h0
      · rw [hy]; rfl
      · have key : ∀ q : Nat, q < 32 → 0 < q → zb 1 q = false := by decide +kernel
        by_cases h32 : q < 32
        · rw [key q h32 h0, Bool.and_false]
        · rw [zb_big (x := 1) (by omega), Bool.and_false]
    · exact (zand1 y).mpr hy
  show (x >>> (nI q &&& 31)) &&& 1 = _
  rw [hb, zshr h]
theorem zWg_congr {N : Nat} {bd ex K K' : Nat → Int32} {ap fl sb nb : Int32} (h : ∀ t, t < 4 → K t = K' t) (hg : zWg N bd ex K ap fl sb nb) : zWg N bd ex K' ap fl sb nb := by
  have e1 : aApp bd ex K = aApp bd ex K' := by funext r; unfold aApp; rw [h 2 (by decide), h 3 (by decide)]
  have e2 : aFal bd ex K = aFal bd ex K' := by funext r; unfold aFal; rw [h 2 (by decide), h 3 (by decide)]
  have e3 : aSb bd K = aSb bd K' := by funext r; unfold aSb; rw [h 0 (by decide)]
  have e4 : aNb bd K = aNb bd K' := by funext r; unfold aNb; rw [h 1 (by decide)]
  unfold zWg at hg ⊢
  rw [← e1, ← e2, ← e3, ← e4]
  exact hg
/-- what the rounds hold once the court is settled -/
def zSt (kd hd bd ex sg of ov : Nat → Int32) (fa : Int32) (N : Nat) (T : ((Nat → Int32) × (Int32) × (Nat → Int32) × (Nat → Int32) × (Nat → Int32) × (Nat → Int32) × (Nat → Int32) × (Nat → Int32) × (Int32) × (Int32) × (Int32) × (Int32) × (Int32))) : Prop := ∀ (m_came m_known m_fresh : Nat → Int32) (m_rounds : Int32), zEnd kd hd bd ex sg of ov fa N T (FX9_tags fa (nI N) kd hd bd ex sg of ov m_came m_known m_fresh m_rounds)
section ZQRY
variable {fa m_rounds rd_last v_facts v_applies v_falls v_sureBodies v_neverBodies c_shut rc_isSettled x1 x2 : Int32} {rd_came v_known v_fresh v_strictFor v_forwardFor v_allFor v_above v_reach c_kind c_head c_body c_excepts c_power c_beats m_came m_known m_fresh m_reached m_kind m_head m_body m_except m_strength m_off m_over : Nat → Int32} {N : Nat}
theorem k_settled (hN : N ≤ 16) (hfa : zLo fa) (hs : zSame N c_kind c_head c_body c_excepts c_power c_beats c_shut m_kind m_head m_body m_except m_strength m_off m_over) (hv : zVal N m_kind m_head m_body m_except m_strength m_over) (hset : ¬ rc_isSettled = 0 → zSt m_kind m_head m_body m_except m_strength m_off m_over fa N (rd_came, rd_last, v_known, v_fresh, v_strictFor, v_forwardFor, v_allFor, v_above, v_facts, v_applies, v_falls, v_sureBodies, v_neverBodies)) : ¬ ((FX8_settled rc_isSettled c_kind c_head c_body c_excepts c_power c_beats fa (nI N) c_shut rd_came rd_last v_known v_fresh v_strictFor v_forwardFor v_allFor v_above v_facts v_applies v_falls v_sureBodies v_neverBodies)).1 = 0 ∧ zSt m_kind m_head m_body m_except m_strength m_off m_over fa N ((FX8_settled rc_isSettled c_kind c_head c_body c_excepts c_power c_beats fa (nI N) c_shut rd_came rd_last v_known v_fresh v_strictFor v_forwardFor v_allFor v_above v_facts v_applies v_falls v_sureBodies v_neverBodies)).2 := by
  unfold FX8_settled
  by_cases c : rc_isSettled = 0
  · rw [if_pos c]
    have h : zSt m_kind m_head m_body m_except m_strength m_off m_over fa N (FX4_come rd_came rd_last v_known v_fresh v_strictFor v_forwardFor v_allFor v_above v_facts v_applies v_falls v_sureBodies v_neverBodies c_kind c_head c_body c_excepts c_power c_beats fa (nI N) c_shut) := fun _ _ _ _ => k_come hN hfa hs hv
    generalize (FX4_come rd_came rd_last v_known v_fresh v_strictFor v_forwardFor v_allFor v_above v_facts v_applies v_falls v_sureBodies v_neverBodies c_kind c_head c_body c_excepts c_power c_beats fa (nI N) c_shut) = X at h ⊢
    exact ⟨by show ¬ (1 : Int32) = 0; decide, h⟩
  · rw [if_neg c]
    exact ⟨c, hset c⟩
theorem k_broughtBy {t : Nat} (ht : t < 4) : zM (FX4_broughtBy rd_came (nI t) x2) 20 (fun q => decide (rd_came (20 * t + q) = x2)) := by
  obtain ⟨s, hs, e⟩ := zloopI (L := fun n i s => (FX4_broughtBy_5 rd_came (nI t) x2) ((FX4_broughtBy_36 rd_came (nI t) x2)) n s i) (kt := fun s => s) 20 (I := fun i s => zM s i (fun q => decide (rd_came (20 * t + q) = x2))) (by
    intro n s _
    show (FX4_broughtBy_5 rd_came (nI t) x2) _ (n + 1) s (nI 20) = s
    rw [FX4_broughtBy_5, if_pos (show (20 : Int32) ≤ nI 20 by decide)]; rfl) (by
    intro n i s hi h
    show ∃ s' : Int32, _ ∧ (FX4_broughtBy_5 rd_came (nI t) x2) ((FX4_broughtBy_36 rd_came (nI t) x2)) (n + 1) s (nI i) = (FX4_broughtBy_5 rd_came (nI t) x2) ((FX4_broughtBy_36 rd_came (nI t) x2)) n s' (nI (i + 1))
    rw [FX4_broughtBy_5, if_neg (show ¬ (20 : Int32) ≤ nI i from nI_ge (b := 20) hi (by decide))]
    simp only [bnd, FX4_roundOf, z20' ht hi, nI_1]
    by_cases c : rd_came (20 * t + i) = x2
    · rw [if_pos c]; exact ⟨_, zM_y h (by omega) (decide_eq_true c), rfl⟩
    · rw [if_neg c]; exact ⟨_, zM_n h (decide_eq_false c), rfl⟩) 21 0 0 (by omega) (by omega) (zM_0 _)
  unfold FX4_broughtBy
  rw [show (FX4_broughtBy_5 rd_came (nI t) x2) ((FX4_broughtBy_36 rd_came (nI t) x2)) 21 0 0 = s from e]
  exact hs
theorem k_ahead {t : Nat} (ht : t < 4) : zM (FX4_broughtAheadOf rd_came (nI t) x2) 20 (fun q => !decide (rd_came (20 * t + q) ≤ 0) && !decide (x2 ≤ rd_came (20 * t + q))) := by
  obtain ⟨s, hs, e⟩ := zloopI (L := fun n i s => (FX4_broughtAheadOf_5 rd_came (nI t) x2) ((FX4_broughtAheadOf_45 rd_came (nI t) x2)) n s i) (kt := fun s => s) 20 (I := fun i s => zM s i (fun q => !decide (rd_came (20 * t + q) ≤ 0) && !decide (x2 ≤ rd_came (20 * t + q)))) (by
    intro n s _
    show (FX4_broughtAheadOf_5 rd_came (nI t) x2) _ (n + 1) s (nI 20) = s
    rw [FX4_broughtAheadOf_5, if_pos (show (20 : Int32) ≤ nI 20 by decide)]; rfl) (by
    intro n i s hi h
    show ∃ s' : Int32, _ ∧ (FX4_broughtAheadOf_5 rd_came (nI t) x2) ((FX4_broughtAheadOf_45 rd_came (nI t) x2)) (n + 1) s (nI i) = (FX4_broughtAheadOf_5 rd_came (nI t) x2) ((FX4_broughtAheadOf_45 rd_came (nI t) x2)) n s' (nI (i + 1))
    rw [FX4_broughtAheadOf_5, if_neg (show ¬ (20 : Int32) ≤ nI i from nI_ge (b := 20) hi (by decide))]
    simp only [bnd, FX4_roundOf, z20' ht hi, nI_1]
    by_cases c : rd_came (20 * t + i) ≤ 0
    · rw [if_pos c]; exact ⟨_, zM_n h (by show (!decide _ && _) = false; rw [decide_eq_true c]; rfl), rfl⟩
    · rw [if_neg c]
      by_cases d : x2 ≤ rd_came (20 * t + i)
      · rw [if_pos d]; exact ⟨_, zM_n h (by show (_ && !decide (x2 ≤ _)) = false; rw [decide_eq_true d]; exact Bool.and_false _), rfl⟩
      · rw [if_neg d]; exact ⟨_, zM_y h (by omega) (by show (!decide _ && !decide _) = true; rw [decide_eq_false c, decide_eq_false d]; rfl), rfl⟩) 21 0 0 (by omega) (by omega) (zM_0 _)
  unfold FX4_broughtAheadOf
  rw [show (FX4_broughtAheadOf_5 rd_came (nI t) x2) ((FX4_broughtAheadOf_45 rd_came (nI t) x2)) 21 0 0 = s from e]
  exact hs
theorem r_cameIn {t : Nat} {x3 : Int32} (ht : t < 4) : zM (FX9_cameIn m_came (nI t) x2 x3) 20 (fun q => !decide (m_came (20 * t + q) ≤ 0) && (if x3 = 0 then decide (m_came (20 * t + q) = x2) else !decide (x2 ≤ m_came (20 * t + q)))) := by
  obtain ⟨s, hs, e⟩ := zloopI (L := fun n i s => (FX9_cameIn_6 m_came (nI t) x2 x3) ((FX9_cameIn_70 m_came (nI t) x2 x3)) n s i) (kt := fun s => s) 20 (I := fun i s => zM s i (fun q => !decide (m_came (20 * t + q) ≤ 0) && (if x3 = 0 then decide (m_came (20 * t + q) = x2) else !decide (x2 ≤ m_came (20 * t + q))))) (by
    intro n s _
    show (FX9_cameIn_6 m_came (nI t) x2 x3) _ (n + 1) s (nI 20) = s
    rw [FX9_cameIn_6, if_pos (show (20 : Int32) ≤ nI 20 by decide)]; rfl) (by
    intro n i s hi h
    show ∃ s' : Int32, _ ∧ (FX9_cameIn_6 m_came (nI t) x2 x3) ((FX9_cameIn_70 m_came (nI t) x2 x3)) (n + 1) s (nI i) = (FX9_cameIn_6 m_came (nI t) x2 x3) ((FX9_cameIn_70 m_came (nI t) x2 x3)) n s' (nI (i + 1))
    rw [FX9_cameIn_6, if_neg (show ¬ (20 : Int32) ≤ nI i from nI_ge (b := 20) hi (by decide))]
    simp only [FX9_cameIn_60, FX9_cameIn_53, z20 ht hi, nI_1]
    by_cases c : m_came (20 * t + i) ≤ 0
    · rw [if_pos c]; exact ⟨_, zM_n0 h (by show (!decide _ && _) = false; rw [decide_eq_true c]; rfl), rfl⟩
    · rw [if_neg c]
      by_cases c3 : x3 = 0
      · rw [if_pos c3]
        by_cases d : m_came (20 * t + i) = x2
        · rw [if_pos d]; exact ⟨_, zM_y h (by omega) (by show (!decide _ && ite _ _ _) = true; rw [decide_eq_false c, if_pos c3, decide_eq_true d]; rfl), rfl⟩
        · rw [if_neg d]; exact ⟨_, zM_n0 h (by show (_ && ite _ _ _) = false; rw [if_pos c3, decide_eq_false d]; exact Bool.and_false _), rfl⟩
      · rw [if_neg c3]
        by_cases d : x2 ≤ m_came (20 * t + i)
        · rw [if_pos d]; exact ⟨_, zM_n0 h (by show (_ && ite _ _ _) = false; rw [if_neg c3, decide_eq_true d]; exact Bool.and_false _), rfl⟩
        · rw [if_neg d]; exact ⟨_, zM_y h (by omega) (by show (!decide _ && ite _ _ _) = true; rw [decide_eq_false c, if_neg c3, decide_eq_false d]; rfl), rfl⟩) 21 0 0 (by omega) (by omega) (zM_0 _)
  unfold FX9_cameIn
  rw [show (FX9_cameIn_6 m_came (nI t) x2 x3) ((FX9_cameIn_70 m_came (nI t) x2 x3)) 21 0 0 = s from e]
  exact hs
theorem r_threats {q : Nat} (hN : N ≤ 16) (hq : q < 20) : zM (FX9_threats (nI N) m_kind m_head m_body m_except m_strength m_off m_over m_known (nI q)) N (aThr m_kind m_head m_body m_except m_strength m_off m_over N m_known q) := by
  obtain ⟨s, hs, e⟩ := zloopI (L := fun n i s => (FX9_threats_4 (nI N) m_kind m_head m_body m_except m_strength m_off m_over m_known (nI q)) ((FX9_threats_57 (nI N) m_kind m_head m_body m_except m_strength m_off m_over m_known (nI q))) n s i) (kt := fun s => s) N (I := fun i s => zM s i (aThr m_kind m_head m_body m_except m_strength m_off m_over N m_known q)) (by
    intro n s _
    show (FX9_threats_4 (nI N) m_kind m_head m_body m_except m_strength m_off m_over m_known (nI q)) _ (n + 1) s (nI N) = s
    rw [FX9_threats_4, if_pos (nI_le (Nat.le_refl N) (by omega))]; rfl) (by
    intro n i s hi h
    show ∃ s' : Int32, _ ∧ (FX9_threats_4 (nI N) m_kind m_head m_body m_except m_strength m_off m_over m_known (nI q)) ((FX9_threats_57 (nI N) m_kind m_head m_body m_except m_strength m_off m_over m_known (nI q))) (n + 1) s (nI i) = (FX9_threats_4 (nI N) m_kind m_head m_body m_except m_strength m_off m_over m_known (nI q)) ((FX9_threats_57 (nI N) m_kind m_head m_body m_except m_strength m_off m_over m_known (nI q))) n s' (nI (i + 1))
    rw [FX9_threats_4, if_neg (nI_ge hi (by omega))]
    simp only [bnd, FX9_threats_48, zi0, aOth9 hq, r_isFor (show i < 16 by omega), r_falls (show i < 16 by omega), r_forcing2 hN (show i < 16 by omega), aFr2_0 hN, nI_1]
    cases h1 : aFor m_head m_off i (nI (aOth q))
    · exact ⟨_, zM_n0 h (by unfold aThr; rw [h1]; rfl), rfl⟩
    · cases h2 : aFal m_body m_except m_known i
      · cases h3 : zE (fun s => aFrc m_kind m_head m_body m_except m_off m_known q s && aAbv m_strength m_over s i) N
        · exact ⟨_, zM_y h (by omega) (by unfold aThr; rw [h1, h2, h3]; rfl), rfl⟩
        · exact ⟨_, zM_n0 h (by unfold aThr; rw [h3]; exact Bool.and_false _), rfl⟩
      · exact ⟨_, zM_n0 h (by unfold aThr; rw [h1, h2]; rfl), rfl⟩) 17 0 0 (by omega) (by omega) (zM_0 _)
  unfold FX9_threats
  rw [show (FX9_threats_4 (nI N) m_kind m_head m_body m_except m_strength m_off m_over m_known (nI q)) ((FX9_threats_57 (nI N) m_kind m_head m_body m_except m_strength m_off m_over m_known (nI q))) 17 0 0 = s from e]
  exact hs
theorem r_team {q : Nat} (hN : N ≤ 16) : zM (FX9_team (nI N) m_kind m_head m_body m_except m_off m_known (nI q)) N (aFrc m_kind m_head m_body m_except m_off m_known q) := by
  obtain ⟨s, hs, e⟩ := zloopI (L := fun n i s => (FX9_team_4 (nI N) m_kind m_head m_body m_except m_off m_known (nI q)) ((FX9_team_45 (nI N) m_kind m_head m_body m_except m_off m_known (nI q))) n s i) (kt := fun s => s) N (I := fun i s => zM s i (aFrc m_kind m_head m_body m_except m_off m_known q)) (by
    intro n s _
    show (FX9_team_4 (nI N) m_kind m_head m_body m_except m_off m_known (nI q)) _ (n + 1) s (nI N) = s
    rw [FX9_team_4, if_pos (nI_le (Nat.le_refl N) (by omega))]; rfl) (by
    intro n i s hi h
    show ∃ s' : Int32, _ ∧ (FX9_team_4 (nI N) m_kind m_head m_body m_except m_off m_known (nI q)) ((FX9_team_45 (nI N) m_kind m_head m_body m_except m_off m_known (nI q))) (n + 1) s (nI i) = (FX9_team_4 (nI N) m_kind m_head m_body m_except m_off m_known (nI q)) ((FX9_team_45 (nI N) m_kind m_head m_body m_except m_off m_known (nI q))) n s' (nI (i + 1))
    rw [FX9_team_4, if_neg (nI_ge hi (by omega))]
    simp only [bnd, FX9_team_36, zi0, r_isForward (show i < 16 by omega), r_applies (show i < 16 by omega), nI_1]
    cases h1 : aFwd m_kind m_head m_off i (nI q)
    · exact ⟨_, zM_n0 h (by unfold aFrc; rw [h1]; rfl), rfl⟩
    · cases h2 : aApp m_body m_except m_known i
      · exact ⟨_, zM_n0 h (by unfold aFrc; rw [h1, h2]; rfl), rfl⟩
      · exact ⟨_, zM_y h (by omega) (by unfold aFrc; rw [h1, h2]; rfl), rfl⟩) 17 0 0 (by omega) (by omega) (zM_0 _)
  unfold FX9_team
  rw [show (FX9_team_4 (nI N) m_kind m_head m_body m_except m_off m_known (nI q)) ((FX9_team_45 (nI N) m_kind m_head m_body m_except m_off m_known (nI q))) 17 0 0 = s from e]
  exact hs
theorem r_rulesFor {q : Nat} (hN : N ≤ 16) : zM ((FX9_rulesFor_13 (nI N) m_head m_off (nI q)) ((FX9_rulesFor_46 (nI N) m_head m_off (nI q))) 17 0 0) N (fun r => aFor m_head m_off r (nI q)) := by
  obtain ⟨s, hs, e⟩ := zloopI (L := fun n i s => (FX9_rulesFor_13 (nI N) m_head m_off (nI q)) ((FX9_rulesFor_46 (nI N) m_head m_off (nI q))) n s i) (kt := fun s => s) N (I := fun i s => zM s i (fun r => aFor m_head m_off r (nI q))) (by
    intro n s _
    show (FX9_rulesFor_13 (nI N) m_head m_off (nI q)) _ (n + 1) s (nI N) = s
    rw [FX9_rulesFor_13, if_pos (nI_le (Nat.le_refl N) (by omega))]; rfl) (by
    intro n i s hi h
    show ∃ s' : Int32, _ ∧ (FX9_rulesFor_13 (nI N) m_head m_off (nI q)) ((FX9_rulesFor_46 (nI N) m_head m_off (nI q))) (n + 1) s (nI i) = (FX9_rulesFor_13 (nI N) m_head m_off (nI q)) ((FX9_rulesFor_46 (nI N) m_head m_off (nI q))) n s' (nI (i + 1))
    rw [FX9_rulesFor_13, if_neg (nI_ge hi (by omega))]
    simp only [bnd, zi0, r_isFor (show i < 16 by omega), nI_1]
    cases h1 : aFor m_head m_off i (nI q)
    · exact ⟨_, zM_n0 h h1, rfl⟩
    · exact ⟨_, zM_y h (by omega) h1, rfl⟩) 17 0 0 (by omega) (by omega) (zM_0 _)
  rw [show (FX9_rulesFor_13 (nI N) m_head m_off (nI q)) ((FX9_rulesFor_46 (nI N) m_head m_off (nI q))) 17 0 0 = s from e]
  exact hs
end ZQRY
