/-! a proof: the list of the class, and both proofs whole -/
section ZL10
variable {pr_wanted : Nat → Int32} {pr_steps : Nat → Int32} {pr_length : Int32} {rd_came : Nat → Int32} {x1 : Int32}
theorem k_l10 {rc2 : (Int32) → (Nat → Int32) → (Int32) → ((Nat → Int32) × (Int32))} {kt2 : (Nat → Int32) → (Int32) → ((Nat → Int32) × (Int32))} {kt10 : (Int32) → (Nat → Int32) → (Int32) → ((Nat → Int32) × (Int32))} {c : Nat → Int32} {ρ t : Nat} {s0 : (Nat → Int32) × Nat} (h2 : ρ ≤ 80) (ht : t < 4) (hs0 : s0.2 ≤ zlc c ρ 0) (hc8 : ∀ j : Nat, j < 80 → rd_came j = c j) : (FX3_listRound_10 pr_wanted pr_steps pr_length rd_came (nI ρ)) rc2 kt2 kt10 21 (nI t) 0 (zli c pr_wanted ρ (20 * t) s0).1 (nI (zli c pr_wanted ρ (20 * t) s0).2) = kt10 (nI t) (zli c pr_wanted ρ (20 * (t + 1)) s0).1 (nI (zli c pr_wanted ρ (20 * (t + 1)) s0).2) := by
  obtain ⟨s, hs, e⟩ := zloopI (S := (Nat → Int32) × Nat) (L := fun n y s => (FX3_listRound_10 pr_wanted pr_steps pr_length rd_came (nI ρ)) rc2 kt2 kt10 n (nI t) y s.1 (nI s.2)) (kt := fun s => kt10 (nI t) s.1 (nI s.2)) 20 (I := fun i s => s = zli c pr_wanted ρ (20 * t + i) s0) (by
    intro n s _
    show (FX3_listRound_10 pr_wanted pr_steps pr_length rd_came (nI ρ)) rc2 kt2 kt10 (n + 1) (nI t) (nI 20) s.1 (nI s.2) = _
    rw [FX3_listRound_10, if_pos (show (20 : Int32) ≤ nI 20 from nI_le (Nat.le_refl 20) (by omega))]) (by
    intro n i s hi hs
    subst hs
    refine ⟨_, rfl, ?_⟩
    have hun : (FX3_listRound_10 pr_wanted pr_steps pr_length rd_came (nI ρ)) rc2 kt2 kt10 (n + 1) (nI t) (nI i) (zli c pr_wanted ρ (20 * t + i) s0).1 (nI (zli c pr_wanted ρ (20 * t + i) s0).2) = _ := FX3_listRound_10.eq_2 ..
    rw [if_neg (show ¬ (20 : Int32) ≤ nI i from nI_ge (b := 20) hi (by omega))] at hun
    simp only [bndx, nI_1] at hun
    have hL := zli_80 (w := pr_wanted) h2 hs0 (show 20 * t + i ≤ 80 by omega)
    rw [k_isWanted rfl ht hi hc8, nI_clamp (show (zli c pr_wanted ρ (20 * t + i) s0).2 < 2 ^ 31 by omega), show (20 : Int32) = nI 20 from rfl, pk_mul, nI_add, Nat.mul_comm t 20] at hun
    refine hun.trans ?_
    have e1 : (20 * t + i) / 20 = t := by omega
    have e2 : (20 * t + i) % 20 = i := by omega
    have ez : zli c pr_wanted ρ (20 * t + (i + 1)) s0 = if (decide (c (20 * t + i) = nI ρ) && zb (pr_wanted t) i) = true then (upd (zli c pr_wanted ρ (20 * t + i) s0).1 (zli c pr_wanted ρ (20 * t + i) s0).2 (nI (20 * t + i)), (zli c pr_wanted ρ (20 * t + i) s0).2 + 1) else zli c pr_wanted ρ (20 * t + i) s0 := by
      show (if (decide (c (20 * t + i) = nI ρ) && zb (pr_wanted ((20 * t + i) / 20)) ((20 * t + i) % 20)) = true then _ else _) = _
      rw [e1, e2]
      rfl
    show _ = (FX3_listRound_10 pr_wanted pr_steps pr_length rd_came (nI ρ)) rc2 kt2 kt10 n (nI t) (nI (i + 1)) (zli c pr_wanted ρ (20 * t + (i + 1)) s0).1 (nI (zli c pr_wanted ρ (20 * t + (i + 1)) s0).2)
    rw [ez]
    cases c1 : (decide (c (20 * t + i) = nI ρ) && zb (pr_wanted t) i)
    · rw [if_pos zi_f, if_neg Bool.false_ne_true]
    · rw [Bool.and_eq_true] at c1
      have hlt := zli_lt (w := pr_wanted) h2 hs0 (show 20 * t + i < 80 by omega) (of_decide_eq_true c1.1)
      rw [if_neg (show ¬ zi true = 0 by decide), if_neg (show ¬ (80 : Int32) ≤ nI (zli c pr_wanted ρ (20 * t + i) s0).2 from nI_ge (b := 80) hlt (by omega)), if_pos rfl]) 21 0 (zli c pr_wanted ρ (20 * t) s0) (by omega) (by omega) rfl
  subst hs
  rw [show 20 * (t + 1) = 20 * t + 20 by omega]
  exact e
end ZL10
theorem k_listRound {pr_wanted rd_came c : Nat → Int32} {ρ : Nat} {s0 : (Nat → Int32) × Nat} (h2 : ρ ≤ 80) (hs0 : s0.2 ≤ zlc c ρ 0) (hc8 : ∀ j : Nat, j < 80 → rd_came j = c j) : FX3_listRound pr_wanted s0.1 (nI s0.2) rd_came (nI ρ) = ((zli c pr_wanted ρ 80 s0).1, nI (zli c pr_wanted ρ 80 s0).2) := by
  unfold FX3_listRound
  obtain ⟨s, hs, e⟩ := zloopI (S := (Nat → Int32) × Nat) (L := fun n y s => FX3_listRound_2 pr_wanted s0.1 (nI s0.2) rd_came (nI ρ) (FX3_listRound_76 pr_wanted s0.1 (nI s0.2) rd_came (nI ρ)) n y s.1 (nI s.2)) (kt := fun s => (s.1, nI s.2)) 4 (I := fun i s => s = zli c pr_wanted ρ (20 * i) s0) (by
    intro n s _
    show FX3_listRound_2 pr_wanted s0.1 (nI s0.2) rd_came (nI ρ) _ (n + 1) (nI 4) s.1 (nI s.2) = (s.1, nI s.2)
    rw [FX3_listRound_2, if_pos (show (4 : Int32) ≤ nI 4 from nI_le (Nat.le_refl 4) (by omega))]; rfl) (by
    intro n t s ht hs
    subst hs
    refine ⟨_, rfl, ?_⟩
    have hun : FX3_listRound_2 pr_wanted s0.1 (nI s0.2) rd_came (nI ρ) (FX3_listRound_76 pr_wanted s0.1 (nI s0.2) rd_came (nI ρ)) (n + 1) (nI t) (zli c pr_wanted ρ (20 * t) s0).1 (nI (zli c pr_wanted ρ (20 * t) s0).2) = _ := FX3_listRound_2.eq_2 ..
    rw [if_neg (show ¬ (4 : Int32) ≤ nI t from nI_ge (b := 4) ht (by omega)), k_l10 h2 ht hs0 hc8] at hun
    unfold FX3_listRound_70 at hun
    rw [nI_1] at hun
    exact hun) 5 0 s0 (by omega) (by omega) rfl
  subst hs
  exact e
section ZB74
variable {pr_wanted : Nat → Int32} {pr_steps : Nat → Int32} {pr_length : Int32} {v_known : Nat → Int32} {v_strictFor : Nat → Int32} {v_forwardFor : Nat → Int32} {v_allFor : Nat → Int32} {v_above : Nat → Int32} {v_facts : Int32} {v_applies : Int32} {v_falls : Int32} {v_sureBodies : Int32} {v_neverBodies : Int32} {c_kind : Nat → Int32} {c_head : Nat → Int32} {c_body : Nat → Int32} {c_excepts : Nat → Int32} {c_power : Nat → Int32} {c_beats : Nat → Int32} {c_facts : Int32} {c_size : Int32} {c_shut : Int32} {rd_came : Nat → Int32} {x3 : Int32} {x4 : Int32}
theorem k_b74 {kt74 : (Nat → Int32) → (Nat → Int32) → (Int32) → (Nat → Int32) → (Nat → Int32) → (Nat → Int32) → (Nat → Int32) → (Nat → Int32) → (Int32) → (Int32) → (Int32) → (Int32) → (Int32) → ((Nat → Int32) × (Nat → Int32) × (Int32) × (Nat → Int32) × (Nat → Int32) × (Nat → Int32) × (Nat → Int32) × (Nat → Int32) × (Int32) × (Int32) × (Int32) × (Int32) × (Int32))} {h : Nat} {c w K st fw al ab f : Nat → Int32} {vf ap fl sb nb : Int32} (hh : h ≤ 80) (hc8 : ∀ j : Nat, j < 80 → rd_came j = c j) : ∀ (j ρ n : Nat), ρ + j = h → j + 1 < n → (FX3_build_74 pr_wanted pr_steps pr_length v_known v_strictFor v_forwardFor v_allFor v_above v_facts v_applies v_falls v_sureBodies v_neverBodies c_kind c_head c_body c_excepts c_power c_beats c_facts c_size c_shut rd_came x3 x4) kt74 n (nI h) (nI (ρ + 1)) w (zlis c w ρ (f, 0)).1 (nI (zlis c w ρ (f, 0)).2) K st fw al ab vf ap fl sb nb = kt74 w (zlis c w h (f, 0)).1 (nI (zlis c w h (f, 0)).2) K st fw al ab vf ap fl sb nb
  | _, _, 0, _, hn => absurd hn (Nat.not_lt_zero _)
  | 0, ρ, n + 1, e, _ => by
    obtain rfl : ρ = h := e
    rw [FX3_build_74, if_pos (show nI ρ < nI (ρ + 1) from (nI_ltI (by omega) (by omega)).mpr (Nat.lt_succ_self ρ))]
  | j + 1, ρ, n + 1, e, hn => by
    have hun : (FX3_build_74 pr_wanted pr_steps pr_length v_known v_strictFor v_forwardFor v_allFor v_above v_facts v_applies v_falls v_sureBodies v_neverBodies c_kind c_head c_body c_excepts c_power c_beats c_facts c_size c_shut rd_came x3 x4) kt74 (n + 1) (nI h) (nI (ρ + 1)) w (zlis c w ρ (f, 0)).1 (nI (zlis c w ρ (f, 0)).2) K st fw al ab vf ap fl sb nb = _ := FX3_build_74.eq_2 ..
    rw [if_neg (show ¬ nI h < nI (ρ + 1) from fun q => by have := (nI_ltI (by omega) (by omega)).mp q; omega), bndx, k_listRound (by omega) (zlis_b ρ (by omega)) hc8, nI_1] at hun
    exact hun.trans (k_b74 hh hc8 j (ρ + 1) n (by omega) (by omega))
end ZB74
