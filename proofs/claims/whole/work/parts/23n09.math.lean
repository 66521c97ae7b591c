/-! rows, the tape's bytes, the paper's bytes, what there is -/
theorem e_rng {M : Nat} (hM : M ≤ 24) (x : Int32) : FX9_in x 0 (nI M - 1) = if x < 0 then 0 else if nI M ≤ x then 0 else 1 := by
  cases M with
  | zero =>
    unfold FX9_in
    by_cases h : x < 0
    · rw [if_pos h, if_pos h]
    · rw [if_neg h, if_neg h]
      obtain ⟨j, hj, rfl⟩ := nI_of h
      rw [if_pos (show nI 0 - 1 < nI j by rw [Int32.lt_iff_toInt_lt, nI_toInt hj, show (nI 0 - 1).toInt = -1 from by decide]; omega), if_pos (nI_le (Nat.zero_le j) hj)]
  | succ k =>
    rw [nI_pred, e_in (by omega)]
def zRows (vals : Nat → Nat → Int32) (size msize told : Nat → Int32) : Prop := ∀ t : Nat, t < 4 → size t = msize t ∧ (size t = -1 ∨ ∃ M : Nat, M ≤ 24 ∧ size t = nI M) ∧ ∀ i : Nat, i < 24 → told (24 * t + i) = vals t i
theorem z24 {t i : Nat} (ht : t < 4) (hi : i < 24) : ((24 : Int32) * nI t + nI i).toNatClampNeg = 24 * t + i := by
  rw [show (24 : Int32) = nI 24 from rfl, pk_mul, nI_add, nI_clamp (by omega)]
theorem zm1_le {x : Int32} (h : x = -1) : ¬ 0 ≤ x := by rw [h]; decide
theorem zM_ne {M : Nat} (h : M ≤ 24) : ¬ nI M = (-1 : Int32) := fun e => nI_pos (n := M) (by omega) (by rw [e]; decide)
theorem e_list {vals : Nat → Nat → Int32} {size msize told : Nat → Int32} {x1 x2 : Int32} (h : zRows vals size msize told) {T : (Int32 × (Nat → Nat → Int32) × (Nat → Int32))} {V : (Int32 × (Nat → Int32) × (Nat → Int32))} (hT : FX8_list vals size x1 x2 = T) (hV : FX9_list msize told x1 x2 = V) : T.1 = V.1 ∧ zRows T.2.1 T.2.2 V.2.1 V.2.2 := by
  unfold FX8_list at hT
  unfold FX9_list at hV
  simp only [bnd, e_list9] at hT hV
  by_cases c1 : FX8_isList x1 = 0
  · rw [if_pos c1] at hT hV; subst hT hV; exact ⟨rfl, h⟩
  rw [if_neg c1] at hT hV
  by_cases c2 : x2 ≤ 24
  · rw [if_pos c2] at hT hV
    by_cases c3 : 0 ≤ x2
    · rw [if_pos c3] at hT hV
      obtain ⟨t, ht, rfl⟩ := is_list c1
      obtain ⟨M, hM, rfl⟩ := nI_of2 (M := 24) (n := 24) (by decide) (znl c3) c2
      obtain ⟨s, hs, e⟩ := zloopI (L := fun n x (g : Nat → Int32) => FX9_list_31 msize told (nI t) (nI M) (FX9_list_55 msize told (nI t) (nI M)) n x (upd msize (nI t).toNatClampNeg (nI M)) g) (kt := fun g => FX9_list_55 msize told (nI t) (nI M) (upd msize (nI t).toNatClampNeg (nI M)) g) 24 (I := fun i g => g = fun p => if 24 * t ≤ p ∧ p < 24 * t + i then 0 else told p) (by
        intro n g _
        show FX9_list_31 msize told (nI t) (nI M) _ (n + 1) (nI 24) _ g = _
        rw [FX9_list_31, if_pos (show (24 : Int32) ≤ nI 24 from nI_le (Nat.le_refl 24) (by omega))]) (by
        intro n i g hi h
        subst h
        refine ⟨_, rfl, ?_⟩
        show FX9_list_31 msize told (nI t) (nI M) _ (n + 1) (nI i) _ (fun p => if 24 * t ≤ p ∧ p < 24 * t + i then 0 else told p) = FX9_list_31 msize told (nI t) (nI M) _ n (nI (i + 1)) _ (fun p => if 24 * t ≤ p ∧ p < 24 * t + (i + 1) then 0 else told p)
        rw [FX9_list_31, if_neg (show ¬ (24 : Int32) ≤ nI i from nI_ge (b := 24) hi (by omega)), z24 ht hi, nI_1]
        congr 1
        funext p
        by_cases a : p = 24 * t + i
        · subst a
          rw [pk_us, if_pos ⟨by omega, by omega⟩]
        · rw [pk_un a]
          by_cases b : 24 * t ≤ p ∧ p < 24 * t + i
          · rw [if_pos b, if_pos ⟨by omega, by omega⟩]
          · rw [if_neg b, if_neg (by omega)]) 25 0 told (by omega) (by omega) (by funext p; rw [if_neg (by omega)])
      subst hs
      have hV := hV.symm.trans e
      unfold FX5_make at hT
      rw [nI_clamp (show t < 2 ^ 31 by omega)] at hT hV
      rw [← hT, hV]
      refine ⟨rfl, fun u hu => ?_⟩
      show upd size t (nI M) u = upd msize t (nI M) u ∧ (upd size t (nI M) u = -1 ∨ ∃ M' : Nat, M' ≤ 24 ∧ upd size t (nI M) u = nI M') ∧ ∀ i : Nat, i < 24 → (if 24 * t ≤ 24 * u + i ∧ 24 * u + i < 24 * t + 24 then 0 else told (24 * u + i)) = va_up vals t (zfill 24 0 (vals t)) u i
      obtain ⟨a1, a2, a3⟩ := h u hu
      by_cases e : u = t
      · subst e
        rw [pk_us, pk_us, va_up_self]
        refine ⟨rfl, Or.inr ⟨M, hM, rfl⟩, fun i hi => ?_⟩
        rw [if_pos ⟨by omega, by omega⟩]
        exact (if_pos hi).symm
      · rw [pk_un e, pk_un e, va_up_ne _ _ e]
        refine ⟨a1, a2, fun i hi => ?_⟩
        rw [if_neg (by omega)]
        exact a3 i hi
    · rw [if_neg c3] at hT hV; subst hT hV; exact ⟨rfl, h⟩
  · rw [if_neg c2] at hT hV; subst hT hV; exact ⟨rfl, h⟩
theorem e_set {vals : Nat → Nat → Int32} {size msize told : Nat → Int32} {x1 x2 x3 : Int32} (h : zRows vals size msize told) {T : (Int32 × (Nat → Nat → Int32))} {V : (Int32 × (Nat → Int32))} (hT : FX8_set vals size x1 x2 x3 = T) (hV : FX9_set msize told x1 x2 x3 = V) : T.1 = V.1 ∧ zRows T.2 size msize V.2 := by
  unfold FX8_set FX5_holds FX5_hasPlace at hT
  unfold FX9_set at hV
  simp only [bnd, e_list9] at hT hV
  by_cases c1 : FX8_isList x1 = 0
  · rw [if_pos c1] at hT hV; subst hT hV; exact ⟨rfl, h⟩
  rw [if_neg c1] at hT hV
  obtain ⟨t, ht, rfl⟩ := is_list c1
  obtain ⟨a1, a2, a3⟩ := id (h t ht)
  rw [nI_clamp (show t < 2 ^ 31 by omega)] at hT hV
  rw [← a1] at hV
  rcases a2 with q | ⟨M, hM, q⟩
  · rw [if_pos q, if_pos rfl] at hT
    rw [if_neg (zm1_le q)] at hV
    subst hT hV; exact ⟨rfl, h⟩
  · rw [q] at hT hV
    rw [if_neg (zM_ne hM), if_neg (show ¬ (1 : Int32) = 0 by decide)] at hT
    rw [if_pos (nI_pos' (by omega)), e_rng hM] at hV
    by_cases c2 : x2 < 0
    · rw [if_pos c2, if_pos rfl] at hT hV
      subst hT hV; exact ⟨rfl, h⟩
    · rw [if_neg c2] at hT hV
      by_cases c3 : nI M ≤ x2
      · rw [if_pos c3, if_pos rfl] at hT hV
        subst hT hV; exact ⟨rfl, h⟩
      · rw [if_neg c3, if_neg (show ¬ (1 : Int32) = 0 by decide)] at hT hV
        obtain ⟨j, hj, rfl⟩ := nI_of c2
        rw [nI_leI (by omega) hj] at c3
        rw [z24 ht (by omega)] at hV
        unfold FX5_put at hT
        rw [nI_clamp (show t < 2 ^ 31 by omega), nI_clamp (show j < 2 ^ 31 by omega)] at hT
        subst hT hV
        refine ⟨rfl, fun u hu => ?_⟩
        obtain ⟨b1, b2, b3⟩ := h u hu
        refine ⟨b1, b2, fun i hi => ?_⟩
        show upd told (24 * t + j) x3 (24 * u + i) = va_up vals t (upd (vals t) j x3) u i
        by_cases e : u = t
        · subst e
          rw [va_up_self]
          by_cases e2 : i = j
          · subst e2; rw [pk_us, pk_us]
          · rw [pk_un e2, pk_un (by omega)]; exact b3 i hi
        · rw [va_up_ne _ _ e, pk_un (by omega)]
          exact b3 i hi
theorem e_get {vals : Nat → Nat → Int32} {size msize told : Nat → Int32} {x1 x2 : Int32} (h : zRows vals size msize told) : FX8_get vals size x1 x2 = FX9_get msize told x1 x2 := by
  unfold FX8_get FX5_holds FX5_hasPlace FX5_at FX9_get
  simp only [bnd, e_list9]
  by_cases c1 : FX8_isList x1 = 0
  · rw [if_pos c1, if_pos c1]
  rw [if_neg c1, if_neg c1]
  obtain ⟨t, ht, rfl⟩ := is_list c1
  obtain ⟨a1, a2, a3⟩ := h t ht
  rw [nI_clamp (show t < 2 ^ 31 by omega), ← a1]
  rcases a2 with q | ⟨M, hM, q⟩
  · rw [if_pos q, if_pos rfl, q]
    have : FX9_in x2 0 (-1 - 1) = 0 := by
      unfold FX9_in
      by_cases h : x2 < 0
      · rw [if_pos h]
      · rw [if_neg h]
        obtain ⟨j, hj, rfl⟩ := nI_of h
        rw [if_pos (show (-1 - 1 : Int32) < nI j by rw [Int32.lt_iff_toInt_lt, nI_toInt hj, show (-1 - 1 : Int32).toInt = -2 from by decide]; omega)]
    rw [if_pos this]
  · rw [q, if_neg (zM_ne hM), if_neg (show ¬ (1 : Int32) = 0 by decide), e_rng hM]
    by_cases c2 : x2 < 0
    · rw [if_pos c2, if_pos rfl]; rfl
    · rw [if_neg c2]
      by_cases c3 : nI M ≤ x2
      · rw [if_pos c3, if_pos rfl]; rfl
      · rw [if_neg c3, if_neg (show ¬ (1 : Int32) = 0 by decide)]
        obtain ⟨j, hj, rfl⟩ := nI_of c2
        rw [nI_leI (by omega) hj] at c3
        rw [z24 ht (by omega), nI_clamp (show j < 2 ^ 31 by omega), a3 j (by omega)]
        rfl
/-- the tape -/
def zTape (tape mtape : Nat → Int32) (len at_ taped : Int32) : Prop := zTp len at_ ∧ taped = len ∧ ∀ i : Nat, i < 120 → nI i < len → tape i = mtape i
theorem e_feed {tape mtape : Nat → Int32} {len at_ taped x1 : Int32} (h : zTape tape mtape len at_ taped) {T : (Int32 × (Nat → Int32) × (Int32))} {V : (Int32 × (Nat → Int32) × (Int32))} (hT : FX8_feed tape len x1 = T) (hV : FX9_feed mtape taped x1 = V) : T.1 = V.1 ∧ zTape T.2.1 V.2.1 T.2.2 at_ V.2.2 := by
  have ein : FX9_in x1 1 127 = if x1 < 1 then 0 else if 127 < x1 then 0 else 1 := rfl
  unfold FX8_feed FX7_add at hT
  unfold FX9_feed at hV
  simp only [bnd, ein] at hT hV
  obtain ⟨⟨L, a, hL, ha, rfl, rfl⟩, rfl, h3⟩ := id h
  by_cases c1 : x1 < 1
  · rw [if_pos c1] at hT hV
    rw [if_pos rfl] at hV
    subst hT hV; exact ⟨rfl, h⟩
  rw [if_neg c1] at hT hV
  by_cases c2 : x1 ≤ 127
  · rw [if_pos c2] at hT
    rw [if_neg (show ¬ (127 : Int32) < x1 from Int32.not_lt.mpr c2), if_neg (show ¬ (1 : Int32) = 0 by decide)] at hV
    by_cases c3 : L < 120
    · rw [if_pos (show nI L < (120 : Int32) from nI_lt c3 (by decide)), if_neg (show ¬ (1 : Int32) = 0 by decide)] at hT
      rw [if_neg (show ¬ nI L = (120 : Int32) from fun e => by have := (nI_eq (by omega) (by decide)).mp (show nI L = nI 120 from e); omega)] at hV
      rw [nI_clamp (show L < 2 ^ 31 by omega), nI_1] at hT hV
      subst hT hV
      refine ⟨rfl, ⟨L + 1, a, by omega, by omega, rfl, rfl⟩, rfl, fun i hi hl => ?_⟩
      show upd tape L x1 i = upd mtape L x1 i
      have hl : i < L + 1 := (nI_ltI (by omega) (by omega)).mp hl
      by_cases e : i = L
      · subst e; rw [pk_us, pk_us]
      · rw [pk_un e, pk_un e]
        exact h3 i hi (nI_lt (by omega) (by omega))
    · obtain rfl : L = 120 := by omega
      rw [if_neg (show ¬ nI 120 < (120 : Int32) by decide), if_pos rfl] at hT
      rw [if_pos (show nI 120 = (120 : Int32) from rfl)] at hV
      subst hT hV; exact ⟨rfl, h⟩
  · rw [if_neg c2] at hT
    rw [if_pos (show (127 : Int32) < x1 from Int32.not_le.mp c2), if_pos rfl] at hV
    subst hT hV; exact ⟨rfl, h⟩
/-- the paper -/
def zPap (bytes paper : Nat → Int32) (len papers : Int32) : Prop := papers = len ∧ ∃ P : Nat, P ≤ 2000 ∧ len = nI P ∧ ∀ i : Nat, i < P → bytes i = paper i
theorem e_paper {bytes paper : Nat → Int32} {len papers x1 : Int32} (h : zPap bytes paper len papers) : FX8_paper bytes len x1 = FX9_paper paper papers x1 := by
  obtain ⟨rfl, P, hP, rfl, h3⟩ := h
  unfold FX8_paper FX9_paper
  by_cases c1 : 0 ≤ x1
  · rw [if_pos c1, if_pos c1]
    by_cases c2 : nI P ≤ x1
    · rw [if_pos c2, if_pos c2]
    · rw [if_neg c2, if_neg c2]
      obtain ⟨j, hj, rfl⟩ := nI_of (znl c1)
      rw [nI_leI (by omega) hj] at c2
      rw [nI_clamp hj, h3 j (by omega)]
  · rw [if_neg c1, if_neg c1]
theorem e_ruleOf {bc : S0} {R : zC} {x1 x2 : Int32} (hR : zRel bc R) : FX8_ruleOf (g0_kind bc) (g0_head bc) (g0_body bc) (g0_excepts bc) (g0_power bc) (g0_beats bc) (g0_size bc) (g0_shut bc) x1 x2 = FX9_ruleOf (qru R) (qkd R) (qhd R) (qbd R) (qex R) (qsg R) (qof R) (qov R) x1 x2 := by
  obtain ⟨N, hN, h1, h2, h3, h4, h5, h6, h7, h8, h9⟩ := hR
  unfold FX8_ruleOf FX9_ruleOf
  simp only [bnd, h1, h2, e_rule hN]
  by_cases c1 : FX0_hasRule (nI N) x1 = 0
  · rw [if_pos c1, if_pos c1]
  rw [if_neg c1, if_neg c1]
  obtain ⟨r, hr, rfl⟩ := has_rule hN c1
  obtain ⟨a1, a2, a3, a4, a5, a6, a7⟩ := h5 r hr
  have hab : FX0_rulesBelow (g0_power bc) (g0_beats bc) (nI N) (nI r) = FX9_aboveOf (nI N) (qsg R) (qov R) (nI r) := by
    have e1 := k_rulesBelow (c_power := g0_power bc) (c_beats := g0_beats bc) hN hr (fun o ho => (h6 r hr).2.2.2.2.2 o (by rw [← a6]; exact ho))
    have e2 := r_aboveOf (m_strength := qsg R) (m_over := qov R) hN hr (fun o ho => ((h6 r hr).2.2.2.2.2 o ho).2)
    exact zM_eq e1 e2 (fun o ho => aAbv_congr (fun j hj => ⟨(h5 j hj).2.2.2.2.1, (h5 j hj).2.2.2.2.2.1⟩) hr ho)
  rw [nI_clamp (show r < 2 ^ 31 by omega), a1, a2, a3, a4, a5, a6, a7, hab, z_bit (by omega)]
