section ZQRZ
variable {fa m_rounds rd_last v_facts v_applies v_falls v_sureBodies v_neverBodies c_shut rc_isSettled x1 x2 : Int32} {rd_came v_known v_fresh v_strictFor v_forwardFor v_allFor v_above v_reach c_kind c_head c_body c_excepts c_power c_beats m_came m_known m_fresh m_reached m_kind m_head m_body m_except m_strength m_off m_over : Nat → Int32} {N : Nat}
/-! rules that are above themselves -/
/-- one step of the closing by one rule -/
def zst (by_ : Nat) (f : Nat → Int32) (i : Nat) : Nat → Int32 := if zb (f i) by_ = true then upd f i (f i ||| f by_) else f
/-- a row of steps, by one rule, over all -/
def zrow (b n : Nat) (f : Nat → Int32) : Nat → Int32 := (List.range n).foldl (zst b) f
def zclo (m n : Nat) (f : Nat → Int32) : Nat → Int32 := (List.range m).foldl (fun g b => zrow b n g) f
theorem zrow_s (b n : Nat) (f : Nat → Int32) : zrow b (n + 1) f = zst b (zrow b n f) n := by unfold zrow; rw [List.range_succ, List.foldl_append]; rfl
theorem zclo_s (m n : Nat) (f : Nat → Int32) : zclo (m + 1) n f = zrow m n (zclo m n f) := by unfold zclo; rw [List.range_succ, List.foldl_append]; rfl
theorem zup_id (f : Nat → Int32) (i : Nat) : upd f i (f i ||| 0) = f := by
  funext j
  by_cases e : j = i
  · subst e; rw [pk_us, Int32.or_zero]
  · rw [pk_un e]
theorem k_c25 {rc17 : (Int32) → (Nat → Int32) → (Int32 × (Nat → Int32))} {kt17 : (Nat → Int32) → (Int32 × (Nat → Int32))} {kt25 : (Int32) → (Nat → Int32) → (Int32 × (Nat → Int32))} {b : Nat} (hb : b < 16) (f : Nat → Int32) : (FX6_circles_25 v_above v_reach) rc17 kt17 kt25 17 (nI b) 0 f = kt25 (nI b) (zrow b 16 f) := by
  obtain ⟨s, hs, e⟩ := zloopI (L := fun n x g => (FX6_circles_25 v_above v_reach) rc17 kt17 kt25 n (nI b) x g) (kt := fun g => kt25 (nI b) g) 16 (I := fun i g => g = zrow b i f) (by
    intro n g _
    show (FX6_circles_25 v_above v_reach) rc17 kt17 kt25 (n + 1) (nI b) (nI 16) g = _
    rw [FX6_circles_25, if_pos (show (16 : Int32) ≤ nI 16 by decide)]) (by
    intro n i g hi h
    subst h
    show ∃ s' : Nat → Int32, _ ∧ (FX6_circles_25 v_above v_reach) rc17 kt17 kt25 (n + 1) (nI b) (nI i) (zrow b i f) = (FX6_circles_25 v_above v_reach) rc17 kt17 kt25 n (nI b) (nI (i + 1)) s'
    rw [FX6_circles_25, if_neg (show ¬ (16 : Int32) ≤ nI i from nI_ge (b := 16) hi (by decide))]
    simp only [bnd, zh8 (show b < 32 by omega), zi0, nI_clamp (show i < 2 ^ 31 by omega), nI_clamp (show b < 2 ^ 31 by omega), nI_1]
    rw [zrow_s]
    unfold zst
    cases zb (zrow b i f i) b
    · exact ⟨_, rfl, rfl⟩
    · exact ⟨_, rfl, rfl⟩) 17 0 f (by omega) (by omega) rfl
  subst hs
  exact e
theorem k_c17 {kt17 : (Nat → Int32) → (Int32 × (Nat → Int32))} (f : Nat → Int32) : (FX6_circles_17 v_above v_reach) kt17 17 0 f = kt17 (zclo 16 16 f) := by
  obtain ⟨s, hs, e⟩ := zloopI (L := fun n x g => (FX6_circles_17 v_above v_reach) kt17 n x g) (kt := fun g => kt17 g) 16 (I := fun i g => g = zclo i 16 f) (by
    intro n g _
    show (FX6_circles_17 v_above v_reach) kt17 (n + 1) (nI 16) g = _
    rw [FX6_circles_17, if_pos (show (16 : Int32) ≤ nI 16 by decide)]) (by
    intro n i g hi h
    subst h
    show ∃ s' : Nat → Int32, _ ∧ (FX6_circles_17 v_above v_reach) kt17 (n + 1) (nI i) (zclo i 16 f) = (FX6_circles_17 v_above v_reach) kt17 n (nI (i + 1)) s'
    rw [FX6_circles_17, if_neg (show ¬ (16 : Int32) ≤ nI i from nI_ge (b := 16) hi (by decide)), k_c25 (show i < 16 by omega)]
    exact ⟨_, (zclo_s i 16 f).symm, by unfold FX6_circles_65; rw [nI_1]⟩) 17 0 f (by omega) (by omega) rfl
  subst hs
  exact e
theorem k_c75 {kt75 : (Int32) → (Nat → Int32) → (Int32 × (Nat → Int32))} (f : Nat → Int32) : ∃ s : Int32, zM s 16 (fun r => zb (f r) r) ∧ (FX6_circles_75 v_above v_reach) kt75 17 0 0 f = kt75 s f := by
  refine zloopI (L := fun n x s => (FX6_circles_75 v_above v_reach) kt75 n s x f) (kt := fun s => kt75 s f) 16 (I := fun i s => zM s i (fun r => zb (f r) r)) ?_ ?_ 17 0 0 (by omega) (by omega) (zM_0 _)
  · intro n s _
    show (FX6_circles_75 v_above v_reach) kt75 (n + 1) s (nI 16) f = _
    rw [FX6_circles_75, if_pos (show (16 : Int32) ≤ nI 16 by decide)]
  · intro n i s hi h
    show ∃ s' : Int32, _ ∧ (FX6_circles_75 v_above v_reach) kt75 (n + 1) s (nI i) f = (FX6_circles_75 v_above v_reach) kt75 n s' (nI (i + 1)) f
    rw [FX6_circles_75, if_neg (show ¬ (16 : Int32) ≤ nI i from nI_ge (b := 16) hi (by decide))]
    simp only [nI_clamp (show i < 2 ^ 31 by omega), nI_1]
    refine ⟨_, fun q => ?_, rfl⟩
    rw [zb_or, zb_and, zb_one (show i < 32 by omega), h q]
    rcases Nat.lt_trichotomy q i with c | c | c
    · rw [decide_eq_true c, decide_eq_true (show q < i + 1 by omega), decide_eq_false (Nat.ne_of_lt c), Bool.and_false, Bool.or_false]
    · subst c
      rw [decide_eq_false (Nat.lt_irrefl q), decide_eq_true (Nat.lt_succ_self q), decide_eq_true rfl, Bool.false_and, Bool.false_or, Bool.true_and, Bool.and_true]
    · rw [decide_eq_false (show ¬ q < i by omega), decide_eq_false (show ¬ q < i + 1 by omega), decide_eq_false (show ¬ q = i by omega)]
      cases zb (f i) q <;> rfl
theorem k_circles : zM ((FX6_circles v_above v_reach)).1 16 (fun r => zb (zclo 16 16 (va_cpy v_above v_reach (0 : Int32).toNatClampNeg (0 : Int32).toNatClampNeg (16 : Int32).toNatClampNeg) r) r) := by
  unfold FX6_circles
  rw [k_c17]
  unfold FX6_circles_71
  obtain ⟨s, hs, e2⟩ := k_c75 (v_above := v_above) (v_reach := v_reach) (kt75 := (FX6_circles_100 v_above v_reach)) (zclo 16 16 (va_cpy v_above v_reach (0 : Int32).toNatClampNeg (0 : Int32).toNatClampNeg (16 : Int32).toNatClampNeg))
  rw [e2]
  exact hs
/-- rows below N alike, bits below N; the others empty -/
def zcl (N : Nat) (f g : Nat → Int32) : Prop := (∀ r, r < N → f r = g r ∧ ∀ o, N ≤ o → zb (g r) o = false) ∧ ∀ r, N ≤ r → r < 16 → f r = 0
theorem zcl_st {N b i : Nat} {f g : Nat → Int32} (h : zcl N f g) (hb : b < N) (hi : i < N) : zcl N (zst b f i) (zst b g i) := by
  unfold zst
  rw [(h.1 i hi).1, (h.1 b hb).1]
  split
  · refine ⟨fun r hr => ?_, fun r h1 h2 => ?_⟩
    · by_cases e : r = i
      · subst e
        rw [pk_us, pk_us]
        exact ⟨rfl, fun o ho => by rw [zb_or, (h.1 r hr).2 o ho, (h.1 b hb).2 o ho]; rfl⟩
      · rw [pk_un e, pk_un e]; exact h.1 r hr
    · rw [pk_un (by omega)]; exact h.2 r h1 h2
  · exact h
theorem zst_hi {N b i : Nat} {f g : Nat → Int32} (h : zcl N f g) (hi : N ≤ i) (h16 : i < 16) : zst b f i = f := by
  unfold zst
  rw [h.2 i hi h16, zb_0, if_neg Bool.false_ne_true]
theorem zst_by {N b i : Nat} {f g : Nat → Int32} (h : zcl N f g) (hb : N ≤ b) (h16 : i < 16) : zst b f i = f := by
  unfold zst
  by_cases c : i < N
  · rw [(h.1 i c).1, (h.1 i c).2 b hb, if_neg Bool.false_ne_true]
  · rw [h.2 i (by omega) h16, zb_0, if_neg Bool.false_ne_true]
theorem zcl_row {N b : Nat} {f g : Nat → Int32} (hN : N ≤ 16) (h : zcl N f g) (hb : b < N) : zcl N (zrow b 16 f) (zrow b N g) := by
  have k1 : ∀ n, n ≤ N → zcl N (zrow b n f) (zrow b n g) := by
    intro n
    induction n with
    | zero => intro _; exact h
    | succ n ih => intro hn; rw [zrow_s, zrow_s]; exact zcl_st (ih (by omega)) hb (by omega)
  have k2 : ∀ k, N + k ≤ 16 → zrow b (N + k) f = zrow b N f := by
    intro k
    induction k with
    | zero => intro _; rfl
    | succ k ih =>
      intro hk
      rw [show N + (k + 1) = (N + k) + 1 by omega, zrow_s, ih (by omega)]
      exact zst_hi (k1 N (Nat.le_refl N)) (by omega) (by omega)
  have := k2 (16 - N) (by omega)
  rw [show N + (16 - N) = 16 by omega] at this
  rw [this]
  exact k1 N (Nat.le_refl N)
theorem zrow_by {N b : Nat} {f g : Nat → Int32} (h : zcl N f g) (hb : N ≤ b) : zrow b 16 f = f := by
  have : ∀ n, n ≤ 16 → zrow b n f = f := by
    intro n
    induction n with
    | zero => intro _; rfl
    | succ n ih => intro hn; rw [zrow_s, ih (by omega)]; exact zst_by h hb (by omega)
  exact this 16 (Nat.le_refl 16)
theorem zcl_clo {N : Nat} {f g : Nat → Int32} (hN : N ≤ 16) (h : zcl N f g) : zcl N (zclo 16 16 f) (zclo N N g) := by
  have k1 : ∀ n, n ≤ N → zcl N (zclo n 16 f) (zclo n N g) := by
    intro n
    induction n with
    | zero => intro _; exact h
    | succ n ih => intro hn; rw [zclo_s, zclo_s]; exact zcl_row hN (ih (by omega)) (by omega)
  have k2 : ∀ k, N + k ≤ 16 → zclo (N + k) 16 f = zclo N 16 f := by
    intro k
    induction k with
    | zero => intro _; rfl
    | succ k ih =>
      intro hk
      rw [show N + (k + 1) = (N + k) + 1 by omega, zclo_s, ih (by omega)]
      exact zrow_by (k1 N (Nat.le_refl N)) (by omega)
  have := k2 (16 - N) (by omega)
  rw [show N + (16 - N) = 16 by omega] at this
  rw [this]
  exact k1 N (Nat.le_refl N)
end ZQRZ

