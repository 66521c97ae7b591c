/-! history: what the rules are as a value, the changes as steps between such values -/
abbrev zC : Type := (Nat → Int32) × (Nat → Int32) × (Nat → Int32) × (Nat → Int32) × (Nat → Int32) × (Nat → Int32) × (Nat → Int32) × Int32 × Int32
abbrev qkd (X : zC) : Nat → Int32 := X.1
abbrev qhd (X : zC) : Nat → Int32 := X.2.1
abbrev qbd (X : zC) : Nat → Int32 := X.2.2.1
abbrev qex (X : zC) : Nat → Int32 := X.2.2.2.1
abbrev qsg (X : zC) : Nat → Int32 := X.2.2.2.2.1
abbrev qof (X : zC) : Nat → Int32 := X.2.2.2.2.2.1
abbrev qov (X : zC) : Nat → Int32 := X.2.2.2.2.2.2.1
abbrev qfa (X : zC) : Int32 := X.2.2.2.2.2.2.2.1
abbrev qru (X : zC) : Int32 := X.2.2.2.2.2.2.2.2
def qbec (X : zC) (w o wi v : Int32) : zC := (qkd X, qhd X, qbd X, qex X, (FX9_becomes (qfa X) (qru X) (qsg X) (qof X) (qov X) w o wi v).2.2.1, (FX9_becomes (qfa X) (qru X) (qsg X) (qof X) (qov X) w o wi v).2.2.2.1, (FX9_becomes (qfa X) (qru X) (qsg X) (qof X) (qov X) w o wi v).2.2.2.2, (FX9_becomes (qfa X) (qru X) (qsg X) (qof X) (qov X) w o wi v).1, (FX9_becomes (qfa X) (qru X) (qsg X) (qof X) (qov X) w o wi v).2.1)
/-- the same rules -/
def qeq (X Y : zC) : Prop := (∀ r : Nat, r < 16 → qkd X r = qkd Y r ∧ qhd X r = qhd Y r ∧ qbd X r = qbd Y r ∧ qex X r = qex Y r ∧ qsg X r = qsg Y r ∧ qof X r = qof Y r ∧ qov X r = qov Y r) ∧ qfa X = qfa Y ∧ qru X = qru Y
theorem qeq_r (X : zC) : qeq X X := ⟨fun _ _ => ⟨rfl, rfl, rfl, rfl, rfl, rfl, rfl⟩, rfl, rfl⟩
theorem qeq_s {X Y : zC} (h : qeq X Y) : qeq Y X := ⟨fun r hr => by obtain ⟨a, b, c, d, e, f, g⟩ := h.1 r hr; exact ⟨a.symm, b.symm, c.symm, d.symm, e.symm, f.symm, g.symm⟩, h.2.1.symm, h.2.2.symm⟩
theorem qeq_t {X Y Z : zC} (h : qeq X Y) (k : qeq Y Z) : qeq X Z := ⟨fun r hr => by
  obtain ⟨a, b, c, d, e, f, g⟩ := h.1 r hr
  obtain ⟨a', b', c', d', e', f', g'⟩ := k.1 r hr
  exact ⟨a.trans a', b.trans b', c.trans c', d.trans d', e.trans e', f.trans f', g.trans g'⟩, h.2.1.trans k.2.1, h.2.2.trans k.2.2⟩
/-- a court of the class holds these rules -/
def zRel (C : S0) (X : zC) : Prop := ∃ N : Nat, N ≤ 16 ∧ qru X = nI N ∧ g0_size C = nI N ∧ g0_facts C = qfa X ∧ zLo (qfa X) ∧ zSame N (g0_kind C) (g0_head C) (g0_body C) (g0_excepts C) (g0_power C) (g0_beats C) (g0_shut C) (qkd X) (qhd X) (qbd X) (qex X) (qsg X) (qof X) (qov X) ∧ zVal N (qkd X) (qhd X) (qbd X) (qex X) (qsg X) (qov X) ∧ (∀ q, N ≤ q → zb (g0_shut C) q = false) ∧ (∀ r : Nat, r < 16 → vp_in (g0_head C r) 20) ∧ (∀ r : Nat, r < 16 → vp_in (g0_kind C r) 3)
theorem zRel_eq {C : S0} {X Y : zC} (e : qeq X Y) (h : zRel C X) : zRel C Y := by
  obtain ⟨N, hN, h1, h2, h3, h4, h5, h6, h7, h8, h9⟩ := h
  refine ⟨N, hN, e.2.2 ▸ h1, h2, h3.trans e.2.1, by rw [← e.2.1]; exact h4, fun r hr => ?_, fun r hr => ?_, h7, h8, h9⟩
  · obtain ⟨a, b, c, d, f, g, i⟩ := e.1 r (by omega)
    rw [← a, ← b, ← c, ← d, ← f, ← g, ← i]
    exact h5 r hr
  · obtain ⟨a, b, c, d, f, g, i⟩ := e.1 r (by omega)
    rw [← a, ← b, ← c, ← d, ← f, ← i]
    exact h6 r hr
/-- two courts that hold the same -/
def ceq (C B : S0) : Prop := (∀ r : Nat, r < 16 → g0_kind C r = g0_kind B r ∧ g0_head C r = g0_head B r ∧ g0_body C r = g0_body B r ∧ g0_excepts C r = g0_excepts B r ∧ g0_power C r = g0_power B r ∧ g0_beats C r = g0_beats B r) ∧ g0_facts C = g0_facts B ∧ g0_size C = g0_size B ∧ g0_shut C = g0_shut B
theorem zRel_ceq {C B : S0} {X : zC} (e : ceq C B) (h : zRel B X) : zRel C X := by
  obtain ⟨N, hN, h1, h2, h3, h4, h5, h6, h7, h8, h9⟩ := h
  refine ⟨N, hN, h1, e.2.2.1.trans h2, e.2.1.trans h3, h4, fun r hr => ?_, h6, by rw [e.2.2.2]; exact h7, fun r hr => ?_, fun r hr => ?_⟩
  · obtain ⟨a, b, c, d, f, g⟩ := e.1 r (by omega)
    rw [a, b, c, d, f, g, e.2.2.2]
    exact h5 r hr
  · rw [(e.1 r hr).2.1]; exact h8 r hr
  · rw [(e.1 r hr).1]; exact h9 r hr
theorem zcp16 (f g : Nat → Int32) {r : Nat} (hr : r < 16) : va_cpy f g (0 : Int32).toNatClampNeg (0 : Int32).toNatClampNeg (16 : Int32).toNatClampNeg r = f r := by
  rw [show (0 : Int32).toNatClampNeg = 0 from by decide, show (16 : Int32).toNatClampNeg = 16 from by decide, pk_cpy_in (Nat.zero_le r) (by omega)]
  congr 1
  omega
theorem ceq_cq (B : S0) (kind head body excepts power beats : Nat → Int32) (facts size shut : Int32) {C : S0} (h : g0_kind C = kind ∧ g0_head C = head ∧ g0_body C = body ∧ g0_excepts C = excepts ∧ g0_power C = power ∧ g0_beats C = beats ∧ g0_facts C = facts ∧ g0_size C = size ∧ g0_shut C = shut) : ceq (zcq B kind head body excepts power beats facts size shut) C := by
  obtain ⟨rfl, rfl, rfl, rfl, rfl, rfl, rfl, rfl, rfl⟩ := h
  exact ⟨fun r hr => ⟨zcp16 _ _ hr, zcp16 _ _ hr, zcp16 _ _ hr, zcp16 _ _ hr, zcp16 _ _ hr, zcp16 _ _ hr⟩, rfl, rfl, rfl⟩
/-- what a change may be about -/
def qwf (Y : zC) (w o wi : Int32) : Prop := w = 0 ∨ w = 1 ∨ ((w = 2 ∨ w = 3 ∨ w = 4) ∧ ∃ N k q : Nat, N ≤ 16 ∧ qru Y = nI N ∧ k < N ∧ q < N ∧ o = nI k ∧ (w = 4 → wi = nI q))
def qstep (X Y : zC) (w o wi was is : Int32) : Prop := Y = qbec X w o wi is ∧ X = qbec Y w o wi was ∧ qwf Y w o wi ∧ ∃ M N : Nat, M ≤ N ∧ N ≤ 16 ∧ qru X = nI M ∧ qru Y = nI N
theorem qwf_in {Y : zC} {w o wi : Int32} (h : qwf Y w o wi) (h0 : ¬ w = 0) (h1 : ¬ w = 1) : ∃ k : Nat, k < 16 ∧ o = nI k := by
  rcases h with h | h | ⟨_, N, k, q, hN, -, hk, -, e, -⟩
  · exact absurd h h0
  · exact absurd h h1
  · exact ⟨k, by omega, e⟩
theorem qupd_eq {f g : Nat → Int32} {o v v' : Int32} (ho : ∃ k : Nat, k < 16 ∧ o = nI k) (h : ∀ r : Nat, r < 16 → f r = g r) (hv : v = v') : ∀ r : Nat, r < 16 → upd f o.toNatClampNeg v r = upd g o.toNatClampNeg v' r := by
  obtain ⟨k, hk, rfl⟩ := ho
  intro r hr
  rw [nI_clamp (by omega)]
  by_cases e : r = k
  · subst e; rw [pk_us, pk_us, hv]
  · rw [pk_un e, pk_un e]; exact h r hr
theorem qbec_eq {X Y : zC} {w o wi v : Int32} (h : qeq X Y) (ho : ¬ w = 0 → ¬ w = 1 → ∃ k : Nat, k < 16 ∧ o = nI k) : qeq (qbec X w o wi v) (qbec Y w o wi v) := by
  obtain ⟨h1, h2, h3⟩ := h
  by_cases c0 : w = 0
  · subst c0
    refine ⟨fun r hr => ?_, ?_, ?_⟩
    · unfold qbec FX9_becomes
      simp only [if_true]
      split <;> exact h1 r hr
    · unfold qbec FX9_becomes
      simp only [if_true]
      rw [h2]
      split <;> rfl
    · unfold qbec FX9_becomes
      simp only [if_true]
      split <;> exact h3
  · by_cases c1 : w = 1
    · subst c1
      unfold qbec FX9_becomes
      simp only [if_neg c0, if_true]
      exact ⟨h1, h2, rfl⟩
    · have hk := ho c0 c1
      have hs := fun (r : Nat) (hr : r < 16) => (h1 r hr).2.2.2.2.1
      have hf := fun (r : Nat) (hr : r < 16) => (h1 r hr).2.2.2.2.2.1
      have hv := fun (r : Nat) (hr : r < 16) => (h1 r hr).2.2.2.2.2.2
      unfold qbec FX9_becomes
      simp only [if_neg c0, if_neg c1]
      by_cases c2 : w = 2
      · simp only [if_pos c2]
        exact ⟨fun r hr => ⟨(h1 r hr).1, (h1 r hr).2.1, (h1 r hr).2.2.1, (h1 r hr).2.2.2.1, hs r hr, qupd_eq hk hf rfl r hr, hv r hr⟩, h2, h3⟩
      · simp only [if_neg c2]
        by_cases c3 : w = 3
        · simp only [if_pos c3]
          exact ⟨fun r hr => ⟨(h1 r hr).1, (h1 r hr).2.1, (h1 r hr).2.2.1, (h1 r hr).2.2.2.1, qupd_eq hk hs rfl r hr, hf r hr, hv r hr⟩, h2, h3⟩
        · simp only [if_neg c3]
          have e : qov X o.toNatClampNeg = qov Y o.toNatClampNeg := by
            obtain ⟨k, hk, rfl⟩ := hk
            rw [nI_clamp (by omega)]
            exact hv k hk
          by_cases c4 : v = 1
          · simp only [if_pos c4]
            exact ⟨fun r hr => ⟨(h1 r hr).1, (h1 r hr).2.1, (h1 r hr).2.2.1, (h1 r hr).2.2.2.1, hs r hr, hf r hr, qupd_eq hk hv (by rw [e]) r hr⟩, h2, h3⟩
          · simp only [if_neg c4]
            exact ⟨fun r hr => ⟨(h1 r hr).1, (h1 r hr).2.1, (h1 r hr).2.2.1, (h1 r hr).2.2.2.1, hs r hr, hf r hr, qupd_eq hk hv (by rw [e]) r hr⟩, h2, h3⟩
/-- the history: the states that are kept, and the reference's row of changes between them -/
def zHis (sg : Nat → Nat) (y : Nat → S0) (D U : Nat) (ch : Nat → Int32) (R : zC) : Prop :=
  (∀ j : Nat, j < 13 → sg j < 13) ∧ (∀ i j : Nat, i < 13 → j < 13 → sg i = sg j → i = j) ∧ D + U ≤ 12 ∧ ∃ X : Nat → zC, qeq R (X D) ∧ (∀ j : Nat, j ≤ D + U → zRel (y (sg j)) (X j)) ∧ ∀ j : Nat, j < D + U → qstep (X j) (X (j + 1)) (ch (5 * j)) (ch (5 * j + 1)) (ch (5 * j + 2)) (ch (5 * j + 3)) (ch (5 * j + 4))
theorem zHis_cong {sg : Nat → Nat} {y : Nat → S0} {D U : Nat} {ch ch' : Nat → Int32} {R R' : zC} (h : zHis sg y D U ch R) (hc : ∀ k, k < 60 → ch' k = ch k) (hR : qeq R' R) : zHis sg y D U ch' R' := by
  obtain ⟨h1, h2, h3, X, x1, x2, x3⟩ := h
  refine ⟨h1, h2, h3, X, qeq_t hR x1, x2, fun j hj => ?_⟩
  rw [hc _ (by omega), hc _ (by omega), hc _ (by omega), hc _ (by omega), hc _ (by omega)]
  exact x3 j hj
theorem zHis_trunc {sg : Nat → Nat} {y : Nat → S0} {D U : Nat} {ch : Nat → Int32} {R : zC} (h : zHis sg y D U ch R) : zHis sg y D 0 ch R := by
  obtain ⟨h1, h2, h3, X, x1, x2, x3⟩ := h
  exact ⟨h1, h2, by omega, X, x1, fun j hj => x2 j (by omega), fun j hj => x3 j (by omega)⟩
theorem zHis_undo {sg : Nat → Nat} {y : Nat → S0} {D U : Nat} {ch : Nat → Int32} {R : zC} (h : zHis sg y (D + 1) U ch R) : zHis sg y D (U + 1) ch (qbec R (ch (5 * D)) (ch (5 * D + 1)) (ch (5 * D + 2)) (ch (5 * D + 3))) ∧ zRel (y (sg D)) (qbec R (ch (5 * D)) (ch (5 * D + 1)) (ch (5 * D + 2)) (ch (5 * D + 3))) := by
  obtain ⟨h1, h2, h3, X, x1, x2, x3⟩ := h
  have hs := x3 D (by omega)
  have e : qeq (qbec R (ch (5 * D)) (ch (5 * D + 1)) (ch (5 * D + 2)) (ch (5 * D + 3))) (X D) := by
    rw [hs.2.1]
    exact qbec_eq x1 (qwf_in hs.2.2.1)
  exact ⟨⟨h1, h2, by omega, X, e, fun j hj => x2 j (by omega), fun j hj => x3 j (by omega)⟩, zRel_eq (qeq_s e) (x2 D (by omega))⟩
theorem zHis_redo {sg : Nat → Nat} {y : Nat → S0} {D U : Nat} {ch : Nat → Int32} {R : zC} (h : zHis sg y D (U + 1) ch R) : zHis sg y (D + 1) U ch (qbec R (ch (5 * D)) (ch (5 * D + 1)) (ch (5 * D + 2)) (ch (5 * D + 4))) ∧ zRel (y (sg (D + 1))) (qbec R (ch (5 * D)) (ch (5 * D + 1)) (ch (5 * D + 2)) (ch (5 * D + 4))) := by
  obtain ⟨h1, h2, h3, X, x1, x2, x3⟩ := h
  have hs := x3 D (by omega)
  have e : qeq (qbec R (ch (5 * D)) (ch (5 * D + 1)) (ch (5 * D + 2)) (ch (5 * D + 4))) (X (D + 1)) := by
    rw [hs.1]
    exact qbec_eq x1 (qwf_in hs.2.2.1)
  exact ⟨⟨h1, h2, by omega, X, e, fun j hj => x2 j (by omega), fun j hj => x3 j (by omega)⟩, zRel_eq (qeq_s e) (x2 (D + 1) (by omega))⟩
theorem zHis_new {sg : Nat → Nat} {y : Nat → S0} {ch : Nat → Int32} {R : zC} (h1 : ∀ j : Nat, j < 13 → sg j < 13) (h2 : ∀ i j : Nat, i < 13 → j < 13 → sg i = sg j → i = j) (h : zRel (y (sg 0)) R) : zHis sg y 0 0 ch R :=
  ⟨h1, h2, by omega, fun _ => R, qeq_r R, fun j hj => by obtain rfl : j = 0 := by omega
                                                         exact h, fun j hj => absurd hj (Nat.not_lt_zero j)⟩
/-- how the row of changes goes on -/
def zchs (D : Nat) (ch ch' : Nat → Int32) (w o wi was is : Int32) : Prop := (∀ j k : Nat, j < zkD D - 1 → k < 5 → ch' (5 * j + k) = ch (5 * (if D < 12 then j else j + 1) + k)) ∧ ch' (5 * (zkD D - 1)) = w ∧ ch' (5 * (zkD D - 1) + 1) = o ∧ ch' (5 * (zkD D - 1) + 2) = wi ∧ ch' (5 * (zkD D - 1) + 3) = was ∧ ch' (5 * (zkD D - 1) + 4) = is ∧ ∀ j k : Nat, zkD D ≤ j → j < 12 → k < 5 → ch' (5 * j + k) = ch (5 * j + k)
theorem zkS_lt2 {sg : Nat → Nat} (D : Nat) (h : ∀ j : Nat, j < 13 → sg j < 13) : ∀ j : Nat, j < 13 → zkS sg D j < 13 := by
  intro j hj
  unfold zkS zrot
  split
  · exact h j hj
  · show (if j < 12 then sg (j + 1) else if j = 12 then sg 0 else sg j) < 13
    split
    · exact h _ (by omega)
    · split
      · exact h _ (by omega)
      · exact h j hj
theorem zkS_inj {sg : Nat → Nat} (D : Nat) (h : ∀ i j : Nat, i < 13 → j < 13 → sg i = sg j → i = j) : ∀ i j : Nat, i < 13 → j < 13 → zkS sg D i = zkS sg D j → i = j := by
  intro i j hi hj
  unfold zkS
  by_cases c : D < 12
  · rw [if_pos c]; exact h i j hi hj
  · rw [if_neg c]
    unfold zrot
    intro e
    by_cases ci : i < 12
    · rw [if_pos ci] at e
      by_cases cj : j < 12
      · rw [if_pos cj] at e
        have := h _ _ (by omega) (by omega) e
        omega
      · rw [if_neg cj, if_pos (by omega)] at e
        have := h _ _ (by omega) (by omega) e
        omega
    · rw [if_neg ci, if_pos (by omega)] at e
      by_cases cj : j < 12
      · rw [if_pos cj] at e
        have := h _ _ (by omega) (by omega) e
        omega
      · omega
/-- a new change comes -/
theorem zHis_push {sg : Nat → Nat} {y y' : Nat → S0} {D U : Nat} {ch ch' : Nat → Int32} {R : zC} {w o wi was is : Int32} {C : S0} (h : zHis sg y D U ch R) (hD : D ≤ 12) (hc : zchs D ch ch' w o wi was is) (ho : ¬ w = 0 → ¬ w = 1 → ∃ k : Nat, k < 16 ∧ o = nI k)
    (hs : ∀ X : zC, qeq R X → qstep X (qbec X w o wi is) w o wi was is) (hR : zRel C (qbec R w o wi is)) (hC : ceq (y' (zkS sg D (zkD D))) C) (hy : ∀ j : Nat, j < 13 → ¬ j = zkS sg D (zkD D) → y' j = y j) : zHis (zkS sg D) y' (zkD D) 0 ch' (qbec R w o wi is) := by
  obtain ⟨h1, h2, h3, X, x1, x2, x3⟩ := zHis_trunc h
  have i1 := zkS_lt2 D h1
  have i2 := zkS_inj D h2
  have hsX := hs (X D) x1
  have eR := qbec_eq (v := is) (wi := wi) x1 ho
  by_cases c : D < 12
  · have e1 : zkD D = D + 1 := if_pos c
    have e2 : zkS sg D = sg := if_pos c
    obtain ⟨c1, c2, c3, c4, c5, c6, c7⟩ := hc
    rw [e1] at c1 c2 c3 c4 c5 c6 hC hy ⊢
    rw [e2] at hC hy i1 i2 ⊢
    refine ⟨i1, i2, by omega, fun j => if j ≤ D then X j else qbec (X D) w o wi is, ?_, fun j hj => ?_, fun j hj => ?_⟩
    · show qeq _ (if D + 1 ≤ D then _ else _)
      rw [if_neg (by omega)]
      exact eR
    · show zRel _ (if j ≤ D then _ else _)
      by_cases hjD : j ≤ D
      · rw [if_pos hjD, hy _ (h1 j (by omega)) (fun e => by have := h2 j (D + 1) (by omega) (by omega) e; omega)]
        exact x2 j (by omega)
      · rw [if_neg hjD]
        obtain rfl : j = D + 1 := by omega
        exact zRel_ceq hC (zRel_eq eR hR)
    · show qstep (if j ≤ D then _ else _) (if j + 1 ≤ D then _ else _) _ _ _ _ _
      rw [if_pos (by omega)]
      by_cases hjD : j + 1 ≤ D
      · rw [if_pos hjD]
        have g := fun (k : Nat) (hk : k < 5) => c1 j k (by omega) hk
        simp only [if_pos c] at g
        rw [g 1 (by omega), g 2 (by omega), g 3 (by omega), g 4 (by omega), show ch' (5 * j) = ch (5 * j) from g 0 (by omega)]
        exact x3 j (by omega)
      · rw [if_neg hjD]
        obtain rfl : j = D := by omega
        rw [Nat.add_sub_cancel] at c2 c3 c4 c5 c6
        rw [c2, c3, c4, c5, c6]
        exact hsX
  · have e1 : zkD D = 12 := if_neg c
    obtain rfl : D = 12 := by omega
    obtain ⟨c1, c2, c3, c4, c5, c6, c7⟩ := hc
    rw [e1] at c1 c2 c3 c4 c5 c6 hC hy ⊢
    have s1 : ∀ j : Nat, j < 12 → zkS sg 12 j = sg (j + 1) := fun j hj => by
      unfold zkS zrot
      rw [if_neg (by omega)]
      exact if_pos hj
    refine ⟨i1, i2, by omega, fun j => if j < 12 then X (j + 1) else qbec (X 12) w o wi is, ?_, fun j hj => ?_, fun j hj => ?_⟩
    · show qeq _ (if 12 < 12 then _ else _)
      rw [if_neg (by omega)]
      exact eR
    · show zRel _ (if j < 12 then _ else _)
      by_cases hj2 : j < 12
      · rw [if_pos hj2, hy _ (i1 j (by omega)) (fun e => by have := i2 j 12 (by omega) (by omega) e; omega), s1 j hj2]
        exact x2 (j + 1) (by omega)
      · rw [if_neg hj2]
        obtain rfl : j = 12 := by omega
        exact zRel_ceq hC (zRel_eq eR hR)
    · show qstep (if j < 12 then _ else _) (if j + 1 < 12 then _ else _) _ _ _ _ _
      rw [if_pos (by omega)]
      by_cases hj2 : j + 1 < 12
      · rw [if_pos hj2]
        have g := fun (k : Nat) (hk : k < 5) => c1 j k (by omega) hk
        simp only [if_neg c] at g
        rw [g 1 (by omega), g 2 (by omega), g 3 (by omega), g 4 (by omega), show ch' (5 * j) = ch (5 * (j + 1)) from g 0 (by omega)]
        exact x3 (j + 1) (by omega)
      · rw [if_neg hj2]
        obtain rfl : j = 11 := by omega
        rw [c2, c3, c4, c5, c6]
        exact hsX
