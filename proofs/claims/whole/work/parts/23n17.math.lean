/-! a proof: the list -/
theorem zorf_at (w f : Nat → Int32) (t : Nat) : zorf w f t = w t ||| f t := rfl
theorem zfs_congr {R : zC} {N : Nat} {c : Nat → Int32} {ρ : Nat} {w w' : Nat → Int32} (h : ∀ t, t < 4 → w t = w' t) : ∀ k, k < 80 → zfs R N c ρ w k = zfs R N c ρ w' k := fun k hk => by
  unfold zfs
  rw [h (k / 20) (by omega)]
theorem zdn_congr {R : zC} {N : Nat} {c : Nat → Int32} : ∀ (ρ : Nat) {w w' : Nat → Int32}, (∀ t, t < 4 → w t = w' t) → ∀ t, t < 4 → zdn R N c ρ w t = zdn R N c ρ w' t
  | 0, _, _, h => h
  | ρ + 1, w, w', h => fun t ht => by
    show zdn R N c ρ _ t = zdn R N c ρ _ t
    refine zdn_congr ρ (fun t ht => ?_) t ht
    rw [zorf_at, zorf_at, h t ht, zfa_eq 80 (zfs_congr h)]
/-- the list after the places of a round below k -/
def zli (c w : Nat → Int32) (ρ : Nat) : Nat → (Nat → Int32) × Nat → (Nat → Int32) × Nat
  | 0, s => s
  | k + 1, s => if (decide (c k = nI ρ) && zb (w (k / 20)) (k % 20)) = true then (upd (zli c w ρ k s).1 (zli c w ρ k s).2 (nI k), (zli c w ρ k s).2 + 1) else zli c w ρ k s
theorem zli_b {c w : Nat → Int32} {ρ : Nat} {s : (Nat → Int32) × Nat} (hr : ρ ≤ 80) (h : s.2 ≤ zlc c ρ 0) : ∀ k : Nat, k ≤ 80 → (zli c w ρ k s).2 ≤ zlc c ρ k
  | 0, _ => h
  | k + 1, hk => by
    have ih := zli_b (w := w) hr h k (by omega)
    have hu : zlc c ρ k ≤ zlc c ρ (k + 1) := zlc_up (Nat.le_succ k)
    show (if (decide (c k = nI ρ) && zb (w (k / 20)) (k % 20)) = true then (upd (zli c w ρ k s).1 (zli c w ρ k s).2 (nI k), (zli c w ρ k s).2 + 1) else zli c w ρ k s).2 ≤ _
    split
    · rename_i e
      rw [Bool.and_eq_true] at e
      have := zlc_s (f := c) (ρ := ρ) (i := k) (by omega) (by rw [of_decide_eq_true e.1, nI_clamp (by omega)])
      show (zli c w ρ k s).2 + 1 ≤ _
      omega
    · omega
theorem zli_lt {c w : Nat → Int32} {ρ : Nat} {s : (Nat → Int32) × Nat} (hr : ρ ≤ 80) (h : s.2 ≤ zlc c ρ 0) {k : Nat} (hk : k < 80) (hc : c k = nI ρ) : (zli c w ρ k s).2 < 80 := by
  have h1 := zli_b (w := w) hr h k (by omega)
  have h2 := zlc_s (f := c) (ρ := ρ) (i := k) hk (by rw [hc, nI_clamp (by omega)])
  have h3 := zlc_le c ρ (k + 1)
  omega
theorem zli_80 {c w : Nat → Int32} {ρ : Nat} {s : (Nat → Int32) × Nat} (hr : ρ ≤ 80) (h : s.2 ≤ zlc c ρ 0) {k : Nat} (hk : k ≤ 80) : (zli c w ρ k s).2 ≤ 80 := Nat.le_trans (zli_b hr h k hk) (zlc_le c ρ k)
/-- two lists that agree go on agreeing -/
def zlq (s s' : (Nat → Int32) × Nat) : Prop := s.2 = s'.2 ∧ ∀ j, j < s.2 → s.1 j = s'.1 j
theorem zli_congr {c w w' : Nat → Int32} {ρ : Nat} {s s' : (Nat → Int32) × Nat} (hw : ∀ t, t < 4 → w t = w' t) (h : zlq s s') : ∀ k : Nat, k ≤ 80 → zlq (zli c w ρ k s) (zli c w' ρ k s')
  | 0, _ => h
  | k + 1, hk => by
    obtain ⟨h1, h2⟩ := zli_congr (c := c) (ρ := ρ) hw h k (by omega)
    show zlq (if (decide (c k = nI ρ) && zb (w (k / 20)) (k % 20)) = true then (upd (zli c w ρ k s).1 (zli c w ρ k s).2 (nI k), (zli c w ρ k s).2 + 1) else zli c w ρ k s) (if (decide (c k = nI ρ) && zb (w' (k / 20)) (k % 20)) = true then (upd (zli c w' ρ k s').1 (zli c w' ρ k s').2 (nI k), (zli c w' ρ k s').2 + 1) else zli c w' ρ k s')
    rw [← hw (k / 20) (by omega)]
    split
    · refine ⟨congrArg (· + 1) h1, fun j hj => ?_⟩
      show upd (zli c w ρ k s).1 (zli c w ρ k s).2 (nI k) j = upd (zli c w' ρ k s').1 (zli c w' ρ k s').2 (nI k) j
      have hj : j < (zli c w ρ k s).2 + 1 := hj
      rw [← h1]
      by_cases e : j = (zli c w ρ k s).2
      · subst e; rw [pk_us, pk_us]
      · rw [pk_un e, pk_un e]; exact h2 j (by omega)
    · exact ⟨h1, h2⟩
/-- the list after the rounds to ρ -/
def zlis (c w : Nat → Int32) : Nat → (Nat → Int32) × Nat → (Nat → Int32) × Nat
  | 0, s => s
  | ρ + 1, s => zli c w (ρ + 1) 80 (zlis c w ρ s)
theorem zlis_b {c w f : Nat → Int32} : ∀ ρ : Nat, ρ ≤ 80 → (zlis c w ρ (f, 0)).2 ≤ zlc c (ρ + 1) 0
  | 0, _ => Nat.zero_le _
  | ρ + 1, h => Nat.le_trans (zli_b h (zlis_b ρ (by omega)) 80 (Nat.le_refl 80)) zlc_n
theorem zlis_80 {c w f : Nat → Int32} {ρ : Nat} (h : ρ ≤ 80) : (zlis c w ρ (f, 0)).2 ≤ 80 := Nat.le_trans (zlis_b ρ h) (zlc_le _ _ _)
theorem zlis_congr {c w w' f f' : Nat → Int32} (hw : ∀ t, t < 4 → w t = w' t) : ∀ ρ : Nat, zlq (zlis c w ρ (f, 0)) (zlis c w' ρ (f', 0))
  | 0 => ⟨rfl, fun j hj => absurd hj (Nat.not_lt_zero j)⟩
  | ρ + 1 => zli_congr hw (zlis_congr hw ρ) 80 (Nat.le_refl 80)
section ZR170
variable {m_facts : Int32} {m_rules : Int32} {m_kind : Nat → Int32} {m_head : Nat → Int32} {m_body : Nat → Int32} {m_except : Nat → Int32} {m_strength : Nat → Int32} {m_off : Nat → Int32} {m_over : Nat → Int32} {m_came : Nat → Int32} {m_known : Nat → Int32} {m_fresh : Nat → Int32} {m_rounds : Int32} {m_needed : Nat → Int32} {m_listed : Nat → Int32} {m_lists : Int32} {x1 : Int32} {x2 : Int32}
theorem r_p179 {rc170 : (Int32) → (Int32) → (Nat → Int32) → (Nat → Int32) → (Nat → Int32) → (Int32) → (Nat → Int32) → (Nat → Int32) → (Int32) → (Int32 × (Nat → Int32) × (Nat → Int32) × (Nat → Int32) × (Int32) × (Nat → Int32) × (Nat → Int32) × (Int32))} {kt170 : (Nat → Int32) → (Nat → Int32) → (Nat → Int32) → (Int32) → (Nat → Int32) → (Nat → Int32) → (Int32) → (Int32 × (Nat → Int32) × (Nat → Int32) × (Nat → Int32) × (Int32) × (Nat → Int32) × (Nat → Int32) × (Int32))} {kt179 : (Int32) → (Int32) → (Nat → Int32) → (Nat → Int32) → (Nat → Int32) → (Int32) → (Nat → Int32) → (Nat → Int32) → (Int32) → (Int32 × (Nat → Int32) × (Nat → Int32) × (Nat → Int32) × (Int32) × (Nat → Int32) × (Nat → Int32) × (Int32))} {ρ : Nat} {c K fr w : Nat → Int32} {x3 rd : Int32} {s0 : (Nat → Int32) × Nat} (h2 : ρ ≤ 80) (hs0 : s0.2 ≤ zlc c ρ 0) : (FX9_proves_179 m_facts m_rules m_kind m_head m_body m_except m_strength m_off m_over m_came m_known m_fresh m_rounds m_needed m_listed m_lists x1 x2) rc170 kt170 kt179 81 x3 (nI ρ) 0 c K fr rd w s0.1 (nI s0.2) = kt179 x3 (nI ρ) c K fr rd w (zli c w ρ 80 s0).1 (nI (zli c w ρ 80 s0).2) := by
  obtain ⟨s, hs, e⟩ := zloopI (S := (Nat → Int32) × Nat) (L := fun n x s => (FX9_proves_179 m_facts m_rules m_kind m_head m_body m_except m_strength m_off m_over m_came m_known m_fresh m_rounds m_needed m_listed m_lists x1 x2) rc170 kt170 kt179 n x3 (nI ρ) x c K fr rd w s.1 (nI s.2)) (kt := fun s => kt179 x3 (nI ρ) c K fr rd w s.1 (nI s.2)) 80 (I := fun i s => s = zli c w ρ i s0) (by
    intro n s _
    show (FX9_proves_179 m_facts m_rules m_kind m_head m_body m_except m_strength m_off m_over m_came m_known m_fresh m_rounds m_needed m_listed m_lists x1 x2) rc170 kt170 kt179 (n + 1) x3 (nI ρ) (nI 80) c K fr rd w s.1 (nI s.2) = _
    rw [FX9_proves_179, if_pos (show (80 : Int32) ≤ nI 80 from nI_le (Nat.le_refl 80) (by omega))]) (by
    intro n i s hi hs
    subst hs
    refine ⟨_, rfl, ?_⟩
    have hun : (FX9_proves_179 m_facts m_rules m_kind m_head m_body m_except m_strength m_off m_over m_came m_known m_fresh m_rounds m_needed m_listed m_lists x1 x2) rc170 kt170 kt179 (n + 1) x3 (nI ρ) (nI i) c K fr rd w (zli c w ρ i s0).1 (nI (zli c w ρ i s0).2) = _ := FX9_proves_179.eq_2 ..
    rw [if_neg (show ¬ (80 : Int32) ≤ nI i from nI_ge (b := 80) hi (by omega))] at hun
    simp only [bndx, nI_1] at hun
    have hL := zli_80 (w := w) h2 hs0 (show i ≤ 80 by omega)
    rw [(z_i20 hi).2, (z_i20 hi).1, nI_clamp (show i < 2 ^ 31 by omega), nI_clamp (show i / 20 < 2 ^ 31 by omega), zh9 (show i % 20 < 32 by omega), nI_clamp (show (zli c w ρ i s0).2 < 2 ^ 31 by omega)] at hun
    refine hun.trans ?_
    show _ = (FX9_proves_179 m_facts m_rules m_kind m_head m_body m_except m_strength m_off m_over m_came m_known m_fresh m_rounds m_needed m_listed m_lists x1 x2) rc170 kt170 kt179 n x3 (nI ρ) (nI (i + 1)) c K fr rd w (if (decide (c i = nI ρ) && zb (w (i / 20)) (i % 20)) = true then (upd (zli c w ρ i s0).1 (zli c w ρ i s0).2 (nI i), (zli c w ρ i s0).2 + 1) else zli c w ρ i s0).1 (nI (if (decide (c i = nI ρ) && zb (w (i / 20)) (i % 20)) = true then (upd (zli c w ρ i s0).1 (zli c w ρ i s0).2 (nI i), (zli c w ρ i s0).2 + 1) else zli c w ρ i s0).2)
    by_cases c1 : c i = nI ρ
    · rw [if_pos c1, decide_eq_true c1, Bool.true_and]
      cases c2 : zb (w (i / 20)) (i % 20)
      · rw [if_pos zi_f, if_neg Bool.false_ne_true]
      · rw [if_neg (show ¬ zi true = 0 by decide), if_pos rfl]
    · rw [if_neg c1, decide_eq_false c1, Bool.false_and, if_neg Bool.false_ne_true]) 81 0 s0 (by omega) (by omega) rfl
  subst hs
  exact e
theorem r_p170 {kt170 : (Nat → Int32) → (Nat → Int32) → (Nat → Int32) → (Int32) → (Nat → Int32) → (Nat → Int32) → (Int32) → (Int32 × (Nat → Int32) × (Nat → Int32) × (Nat → Int32) × (Int32) × (Nat → Int32) × (Nat → Int32) × (Int32))} {h : Nat} {c K fr w : Nat → Int32} {rd : Int32} {f : Nat → Int32} (hh : h ≤ 80) : ∀ (j ρ n : Nat), ρ + j = h → j + 1 < n → (FX9_proves_170 m_facts m_rules m_kind m_head m_body m_except m_strength m_off m_over m_came m_known m_fresh m_rounds m_needed m_listed m_lists x1 x2) kt170 n (nI h) (nI (ρ + 1)) c K fr rd w (zlis c w ρ (f, 0)).1 (nI (zlis c w ρ (f, 0)).2) = kt170 c K fr rd w (zlis c w h (f, 0)).1 (nI (zlis c w h (f, 0)).2)
  | _, _, 0, _, hn => absurd hn (Nat.not_lt_zero _)
  | 0, ρ, n + 1, e, _ => by
    obtain rfl : ρ = h := e
    rw [FX9_proves_170, if_pos (show nI ρ < nI (ρ + 1) from (nI_ltI (by omega) (by omega)).mpr (Nat.lt_succ_self ρ))]
  | j + 1, ρ, n + 1, e, hn => by
    have hun : (FX9_proves_170 m_facts m_rules m_kind m_head m_body m_except m_strength m_off m_over m_came m_known m_fresh m_rounds m_needed m_listed m_lists x1 x2) kt170 (n + 1) (nI h) (nI (ρ + 1)) c K fr rd w (zlis c w ρ (f, 0)).1 (nI (zlis c w ρ (f, 0)).2) = _ := FX9_proves_170.eq_2 ..
    rw [if_neg (show ¬ nI h < nI (ρ + 1) from fun q => by have := (nI_ltI (by omega) (by omega)).mp q; omega), r_p179 (by omega) (zlis_b ρ (by omega))] at hun
    unfold FX9_proves_246 at hun
    rw [nI_1] at hun
    exact hun.trans (r_p170 hh j (ρ + 1) n (by omega) (by omega))
end ZR170
