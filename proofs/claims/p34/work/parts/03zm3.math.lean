/-! the reference's rounds -/
theorem zx {α R S : Type} {A : α → Prop} {X : R} {g : α → R} {I : S → Prop} {k : S → R} (h : ∃ a, A a ∧ X = g a) (h2 : ∀ a, A a → ∃ s, I s ∧ g a = k s) : ∃ s, I s ∧ X = k s := by
  obtain ⟨a, ha, e⟩ := h
  obtain ⟨s, hs, e2⟩ := h2 a ha
  exact ⟨s, hs, e.trans e2⟩
theorem aHolds_congr {kd hd bd ex sg of ov : Nat → Int32} {fa : Int32} {N : Nat} {K K' : Nat → Int32} (h : ∀ t : Nat, t < 4 → K t = K' t) (t q : Nat) : aHolds kd hd bd ex sg of ov fa N K t q = aHolds kd hd bd ex sg of ov fa N K' t q := by
  have h0 := h 0 (by decide)
  have h1 := h 1 (by decide)
  have h2 := h 2 (by decide)
  have h3 := h 3 (by decide)
  have e1 : aApp bd ex K = aApp bd ex K' := by funext r; unfold aApp; rw [h2, h3]
  have e2 : aFal bd ex K = aFal bd ex K' := by funext r; unfold aFal; rw [h2, h3]
  have e3 : aSb bd K = aSb bd K' := by funext r; unfold aSb; rw [h0]
  have e4 : aNb bd K = aNb bd K' := by funext r; unfold aNb; rw [h1]
  have e5 : aFrc kd hd bd ex of K = aFrc kd hd bd ex of K' := by funext q r; unfold aFrc; rw [e1]
  have e6 : aUnf kd hd bd ex of K = aUnf kd hd bd ex of K' := by funext q r; unfold aUnf; rw [e2]
  have e7 : aThr kd hd bd ex sg of ov N K = aThr kd hd bd ex sg of ov N K' := by funext q r; unfold aThr; rw [e2, e5]
  have e8 : aVic kd hd bd ex sg of ov N K = aVic kd hd bd ex sg of ov N K' := by funext q r; unfold aVic; rw [e1, e6]
  have f0 : aSure kd hd bd of fa N K q = aSure kd hd bd of fa N K' q := by unfold aSure; rw [e3]
  have f1 : aNever kd hd bd of fa N K q = aNever kd hd bd of fa N K' q := by unfold aNever; rw [e4]
  have f2 : aLikely kd hd bd ex sg of ov N K q = aLikely kd hd bd ex sg of ov N K' q := by unfold aLikely; rw [h0, h1, e5, e7]
  have f3 : aUnlikely kd hd bd ex sg of ov N K q = aUnlikely kd hd bd ex sg of ov N K' q := by unfold aUnlikely; rw [h0, h1, e6, e8]
  unfold aHolds
  split
  · exact f0
  · exact f1
  · exact f2
  · exact f3
theorem aNew_congr {kd hd bd ex sg of ov : Nat → Int32} {fa : Int32} {N : Nat} {K K' : Nat → Int32} (h : ∀ t : Nat, t < 4 → K t = K' t) {t : Nat} (ht : t < 4) (q : Nat) : aNew kd hd bd ex sg of ov fa N K t q = aNew kd hd bd ex sg of ov fa N K' t q := by
  unfold aNew
  rw [h t ht, aHolds_congr h t q]
section ZTAGS
variable {m_facts m_rounds : Int32} {m_kind m_head m_body m_except m_strength m_off m_over m_came m_known m_fresh : Nat → Int32} {N : Nat}
def zfl (x : Int32) (i : Nat) (f : Nat → Int32) : Prop := (x = 0 ∧ ∀ t, t < i → f t = 0) ∨ (x = 1 ∧ ∃ t, t < i ∧ ¬ f t = 0)
theorem z20 {t i : Nat} (ht : t < 4) (hi : i < 20) : ((20 : Int32) * nI t + nI i).toNatClampNeg = 20 * t + i := by
  rw [show (20 : Int32) = nI 20 from rfl, pk_mul, nI_add, nI_clamp (by omega)]
theorem z20' {t i : Nat} (ht : t < 4) (hi : i < 20) : (nI t * (20 : Int32) + nI i).toNatClampNeg = 20 * t + i := by
  rw [show (20 : Int32) = nI 20 from rfl, pk_mul, nI_add, nI_clamp (by omega), Nat.mul_comm]
def zcm (c0 : Nat → Int32) (m x : Int32) (t i j : Nat) : Int32 := if 20 * t ≤ j ∧ j < 20 * t + i ∧ zb m (j - 20 * t) = true then x else c0 j
theorem zcm_0 (c0 : Nat → Int32) (m x : Int32) (t : Nat) : zcm c0 m x t 0 = c0 := by
  funext j
  unfold zcm
  rw [if_neg (fun h => by omega)]
theorem zcm_y {c0 : Nat → Int32} {m x : Int32} {t i : Nat} (h : zb m i = true) : upd (zcm c0 m x t i) (20 * t + i) x = zcm c0 m x t (i + 1) := by
  funext j
  by_cases e : j = 20 * t + i
  · subst e
    rw [pk_us]
    unfold zcm
    rw [if_pos ⟨by omega, by omega, by rw [Nat.add_sub_cancel_left]; exact h⟩]
  · rw [pk_un e]
    unfold zcm
    by_cases c : 20 * t ≤ j ∧ j < 20 * t + i ∧ zb m (j - 20 * t) = true
    · rw [if_pos c, if_pos ⟨c.1, by omega, c.2.2⟩]
    · rw [if_neg c, if_neg (fun z => c ⟨z.1, by omega, z.2.2⟩)]
theorem zcm_n {c0 : Nat → Int32} {m x : Int32} {t i : Nat} (h : zb m i = false) : zcm c0 m x t i = zcm c0 m x t (i + 1) := by
  funext j
  unfold zcm
  by_cases c : 20 * t ≤ j ∧ j < 20 * t + i ∧ zb m (j - 20 * t) = true
  · rw [if_pos c, if_pos ⟨c.1, by omega, c.2.2⟩]
  · rw [if_neg c, if_neg (fun z => by
      by_cases e : j = 20 * t + i
      · subst e
        rw [Nat.add_sub_cancel_left, h] at z
        exact Bool.false_ne_true z.2.2
      · exact c ⟨z.1, by omega, z.2.2⟩)]
theorem zcm_at {c0 : Nat → Int32} {m x : Int32} {t t' q : Nat} (hq : q < 20) : zcm c0 m x t 20 (20 * t' + q) = if t' = t ∧ zb m q = true then x else c0 (20 * t' + q) := by
  unfold zcm
  by_cases e : t' = t
  · subst e
    rw [Nat.add_sub_cancel_left]
    by_cases h : zb m q = true
    · rw [if_pos ⟨by omega, by omega, h⟩, if_pos ⟨rfl, h⟩]
    · rw [if_neg (fun z => h z.2.2), if_neg (fun z => h z.2)]
  · rw [if_neg (fun z => by omega), if_neg (fun z => e z.1)]
/-- one round of the reference: flag, came, known, fresh, rounds behind it -/
def zrnd (kd hd bd ex sg of ov : Nat → Int32) (fa : Int32) (N : Nat) (came known : Nat → Int32) (rounds : Int32) (s : Int32 × (Nat → Int32) × (Nat → Int32) × (Nat → Int32) × Int32) : Prop :=
  (∀ t, t < 4 → zM (s.2.2.2.1 t) 20 (aNew kd hd bd ex sg of ov fa N known t)) ∧ zfl s.1 4 s.2.2.2.1 ∧ s.2.2.2.2 = rounds + s.1 ∧ (∀ t, t < 4 → s.2.2.1 t = known t ||| s.2.2.2.1 t) ∧ ∀ t q, t < 4 → q < 20 → s.2.1 (20 * t + q) = if zb (s.2.2.2.1 t) q = true then s.2.2.2.2 else came (20 * t + q)
end ZTAGS

