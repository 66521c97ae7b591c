section ZNK2
variable {kd hd bd ex sg of ov K c_body c_excepts st fw al ab : Nat → Int32} {N : Nat} {fa vf ap fl sb nb : Int32}
theorem bndx {α β : Type} (x : α) (f : α → β) : bnd x f = f x := (show bnd x f = f x from rfl).trans (Eq.refl _)
theorem k_needsLikely {w : Nat → Int32} {q : Nat} (hN : N ≤ 16) (hq : q < 20) (hw : zVw N kd hd sg of ov fa st fw al ab vf) (hg : zWg N bd ex K ap fl sb nb) (hb : ∀ r, r < N → c_body r = bd r ∧ c_excepts r = ex r) (h : aLikely kd hd bd ex sg of ov N K q = true) : FX3_wantForLikely w K fw al ab ap fl c_body c_excepts (nI q) = zorf w (aNL kd hd bd ex sg of ov N K q) := by
  have ho := aOth_lt hq
  unfold FX3_wantForLikely aNL
  simp only [bndx]
  rw [zc0, zc1, zh8 (by omega), aOth8 hq]
  cases c : zb (K 0) q
  · rw [if_pos zi_f, if_neg Bool.false_ne_true]
    unfold aLikely at h
    rw [c, Bool.false_or] at h
    simp only [Bool.and_eq_true] at h
    obtain ⟨⟨h1, h2⟩, h3⟩ := h
    have h3 : zE (aThr kd hd bd ex sg of ov N K q) N = false := by
      cases e : zE (aThr kd hd bd ex sg of ov N K q) N
      · rfl
      · rw [e] at h3; cases h3
    have ht := k_team (v_known := K) (v_forwardFor := fw) (v_applies := ap) (bd := bd) (ex := ex) hq hw hg.1
    rw [k_first hN ht, if_pos h2, k_force (by have := (zE_F h2).1; omega) (hb _ (zE_F h2).1), zorf_u, zorf_2, ← zorf_2 w _ (zfa _ N)]
    generalize zorf w (zorf (aForce bd ex (zF (aFrc kd hd bd ex of K q) N)) (zone1 1 (1 <<< (nI (aOth q) &&& 31)))) = w1
    obtain ⟨s, hs, e⟩ := zloopI (L := fun n x s => FX3_wantForLikely_65 w K fw al ab ap fl c_body c_excepts (nI q) (FX3_wantForLikely_152 w K fw al ab ap fl c_body c_excepts (nI q)) n (nI (aOth q)) x s) (kt := fun s => s) 16 (I := fun i s => s = zorf w1 (zfa (fun r => if (decide (r < N) && aFor hd of r (nI (aOth q))) = true then (if aFal bd ex K r = true then aFall bd ex K r else aForce bd ex (zF (fun s => aFrc kd hd bd ex of K q s && aAbv sg ov s r) N)) else zno) i)) (by
      intro n s _
      show FX3_wantForLikely_65 w K fw al ab ap fl c_body c_excepts (nI q) _ (n + 1) (nI (aOth q)) (nI 16) s = s
      rw [FX3_wantForLikely_65, if_pos (show (16 : Int32) ≤ nI 16 from nI_le (Nat.le_refl 16) (by omega))]; rfl) (by
      intro n i s hi hs
      subst hs
      refine ⟨_, rfl, ?_⟩
      rw [← zfa_s]
      show FX3_wantForLikely_65 w K fw al ab ap fl c_body c_excepts (nI q) _ (n + 1) (nI (aOth q)) (nI i) _ = FX3_wantForLikely_65 w K fw al ab ap fl c_body c_excepts (nI q) _ n (nI (aOth q)) (nI (i + 1)) (zorf _ (if (decide (i < N) && aFor hd of i (nI (aOth q))) = true then (if aFal bd ex K i = true then aFall bd ex K i else aForce bd ex (zF (fun s => aFrc kd hd bd ex of K q s && aAbv sg ov s i) N)) else zno))
      rw [FX3_wantForLikely_65, if_neg (show ¬ (16 : Int32) ≤ nI i from nI_ge (b := 16) hi (by omega))]
      simp only [bndx, nI_1]
      have hal : zb (al (aOth q)) i = (decide (i < N) && aFor hd of i (nI (aOth q))) := (hw.2.1 _ ho).2.2 i
      have hfl : zb fl i = (decide (i < N) && aFal bd ex K i) := hg.2.1 i
      rw [zh8 (by omega), zh8 (by omega), nI_clamp (show aOth q < 2 ^ 31 by omega), zb_and, hal, hfl]
      by_cases cN : i < N
      · rw [decide_eq_true cN, Bool.true_and, Bool.true_and]
        have h4 := zE_f.mp h3 i cN
        unfold aThr at h4
        cases c1 : aFor hd of i (nI (aOth q))
        · rw [Bool.false_and, if_pos zi_f, if_pos zi_f, if_neg Bool.false_ne_true, zorf_no]
        · rw [Bool.true_and, if_pos rfl]
          cases c2 : aFal bd ex K i
          · rw [if_pos zi_f, if_neg (show ¬ zi true = 0 by decide), if_neg Bool.false_ne_true]
            rw [c1, c2] at h4
            have h5 : zE (fun s => aFrc kd hd bd ex of K q s && aAbv sg ov s i) N = true := by
              cases e : zE (fun s => aFrc kd hd bd ex of K q s && aAbv sg ov s i) N
              · rw [e] at h4; cases h4
              · rfl
            rw [k_first hN (k_allAbove hN cN ht hw), if_pos h5, k_force (by have := (zE_F h5).1; omega) (hb _ (zE_F h5).1)]
          · rw [if_neg (show ¬ zi true = 0 by decide), if_pos rfl, k_fall (by omega) (hb i cN)]
      · rw [decide_eq_false cN, Bool.false_and, Bool.false_and, if_pos zi_f, if_pos zi_f, if_neg Bool.false_ne_true, zorf_no]) 17 0 w1 (by omega) (by omega) (zorf_no w1).symm
    have e : FX3_wantForLikely_65 w K fw al ab ap fl c_body c_excepts (nI q) (FX3_wantForLikely_152 w K fw al ab ap fl c_body c_excepts (nI q)) 17 (nI (aOth q)) 0 w1 = s := e
    rw [e, hs, zfa_16 hN (fun i h1 h2 => by rw [decide_eq_false (by omega), Bool.false_and, if_neg Bool.false_ne_true]), zfa_eq N (fun i hi => by rw [decide_eq_true hi, Bool.true_and])]
  · rw [if_neg (show ¬ zi true = 0 by decide), if_pos rfl, zorf_u]
theorem k_falls {w : Nat → Int32} {x : Int32} {p : Nat → Bool} (hN : N ≤ 16) (hx : zM x N p) (hb : ∀ r, r < N → c_body r = bd r ∧ c_excepts r = ex r) : FX3_wantFalls w K c_body c_excepts x = zorf w (zfa (fun r => if p r = true then aFall bd ex K r else zno) N) := by
  unfold FX3_wantFalls
  obtain ⟨s, hs, e⟩ := zloopI (L := fun n y s => FX3_wantFalls_2 w K c_body c_excepts x (FX3_wantFalls_28 w K c_body c_excepts x) n y s) (kt := fun s => s) 16 (I := fun i s => s = zorf w (zfa (fun r => if (decide (r < N) && p r) = true then aFall bd ex K r else zno) i)) (by
    intro n s _
    show FX3_wantFalls_2 w K c_body c_excepts x _ (n + 1) (nI 16) s = s
    rw [FX3_wantFalls_2, if_pos (show (16 : Int32) ≤ nI 16 from nI_le (Nat.le_refl 16) (by omega))]; rfl) (by
    intro n i s hi hs
    subst hs
    refine ⟨_, rfl, ?_⟩
    rw [← zfa_s]
    show FX3_wantFalls_2 w K c_body c_excepts x _ (n + 1) (nI i) _ = FX3_wantFalls_2 w K c_body c_excepts x _ n (nI (i + 1)) (zorf _ (if (decide (i < N) && p i) = true then aFall bd ex K i else zno))
    rw [FX3_wantFalls_2, if_neg (show ¬ (16 : Int32) ≤ nI i from nI_ge (b := 16) hi (by omega))]
    simp only [bndx, nI_1]
    rw [zh8 (by omega), hx i]
    cases c : (decide (i < N) && p i)
    · rw [if_pos zi_f, if_neg Bool.false_ne_true, zorf_no]
    · rw [if_neg (show ¬ zi true = 0 by decide), if_pos rfl]
      rw [Bool.and_eq_true] at c
      rw [k_fall (by omega) (hb i (of_decide_eq_true c.1))]) 17 0 w (by omega) (by omega) (zorf_no w).symm
  have e : FX3_wantFalls_2 w K c_body c_excepts x (FX3_wantFalls_28 w K c_body c_excepts x) 17 0 w = s := e
  rw [e, hs, zfa_16 hN (fun i h1 h2 => by rw [decide_eq_false (by omega), Bool.false_and, if_neg Bool.false_ne_true]), zfa_eq N (fun i hi => by rw [decide_eq_true hi, Bool.true_and])]
theorem k_needsUnlikely {w : Nat → Int32} {q : Nat} (hN : N ≤ 16) (hq : q < 20) (hw : zVw N kd hd sg of ov fa st fw al ab vf) (hg : zWg N bd ex K ap fl sb nb) (hb : ∀ r, r < N → c_body r = bd r ∧ c_excepts r = ex r) (h : aUnlikely kd hd bd ex sg of ov N K q = true) : FX3_wantForUnlikely w K fw al ab ap fl c_body c_excepts (nI q) = zorf w (aNU kd hd bd ex sg of ov N K q) := by
  have ho := aOth_lt hq
  have hu := k_unfallen (v_known := K) (v_forwardFor := fw) (v_falls := fl) (bd := bd) (ex := ex) hN hq hw hg.2.1
  have hv := k_victors (v_known := K) (v_forwardFor := fw) (v_allFor := al) (v_above := ab) (v_applies := ap) (v_falls := fl) (bd := bd) (ex := ex) hN hq hw hg.1 hg.2.1
  unfold FX3_wantForUnlikely aNU
  simp only [bndx]
  rw [zc0, zc1, aOth8 hq, zh8 (by omega), nI_clamp (show q < 2 ^ 31 by omega), zorf_u, ← zorf_2]
  generalize zorf w (zone1 1 (1 <<< (nI q &&& 31))) = w1
  unfold aUnlikely at h
  simp only [Bool.or_eq_true, Bool.and_eq_true] at h
  obtain ⟨h1, h2⟩ := h
  cases c : zE (aUnf kd hd bd ex of K q) N
  · rw [if_pos ((zM_00 hu).mpr c), if_pos rfl, k_falls hN (hw.2.1 q hq).2.1 hb]
  · rw [if_neg (fun z => by rw [(zM_00 hu).mp z] at c; cases c), if_neg (show ¬ (true = false) by decide)]
    cases c2 : zb (K 0) (aOth q)
    · rw [if_pos zi_f, if_neg Bool.false_ne_true]
      have h3 : zE (aVic kd hd bd ex sg of ov N K q) N = true := by
        rcases h2 with (h2 | h2) | h2
        · rw [c] at h2; cases h2
        · rw [c2] at h2; cases h2
        · exact h2
      have hvF := zE_F h3
      rw [k_first hN hv, if_pos h3, k_force (by omega) (hb _ hvF.1), k_falls hN (k_allAbove hN hvF.1 (hw.2.1 q hq).2.1 hw) hb, zorf_2]
    · rw [if_neg (show ¬ zi true = 0 by decide), if_pos rfl, zorf_u]
/-- what the class lays for a tag of a literal -/
def kNd (t : Nat) (w K st fw al ab : Nat → Int32) (vf ap fl sb : Int32) (c_body c_excepts : Nat → Int32) (q : Int32) : Nat → Int32 := match t with
  | 0 => FX3_wantForSure w st vf sb c_body q
  | 1 => FX3_wantForNever w K st c_body q
  | 2 => FX3_wantForLikely w K fw al ab ap fl c_body c_excepts q
  | _ => FX3_wantForUnlikely w K fw al ab ap fl c_body c_excepts q
theorem k_needs {w : Nat → Int32} {t q : Nat} (hN : N ≤ 16) (ht : t < 4) (hq : q < 20) (hw : zVw N kd hd sg of ov fa st fw al ab vf) (hg : zWg N bd ex K ap fl sb nb) (hb : ∀ r, r < N → c_body r = bd r ∧ c_excepts r = ex r) (h : aHolds kd hd bd ex sg of ov fa N K t q = true) : kNd t w K st fw al ab vf ap fl sb c_body c_excepts (nI q) = zorf w (aNeed kd hd bd ex sg of ov fa N K t q) := by
  match t, ht, h with
  | 0, _, h => exact k_needsSure hN hq hw hg hb
  | 1, _, h => exact k_needsNever hN hq hw hb
  | 2, _, h => exact k_needsLikely hN hq hw hg hb h
  | 3, _, h => exact k_needsUnlikely hN hq hw hg hb h
end ZNK2
