section ZNK
variable {kd hd bd ex sg of ov K c_body c_excepts st fw al ab : Nat → Int32} {N : Nat} {fa vf ap fl sb nb : Int32}
theorem k_first {b : Int32} {p : Nat → Bool} (hN : N ≤ 16) (h : zM b N p) : FX8_firstRule b = if zE p N = true then nI (zF p N) else 16 := by
  obtain ⟨M, hM⟩ : ∃ M : Nat, M = 16 := ⟨16, rfl⟩
  have h16 : (16 : Int32) = nI M := by rw [hM]; rfl
  have k := zfindL (L := fun n x => FX8_firstRule_2 b (FX8_firstRule_22 b) n x) (kt := (16 : Int32)) (out := fun i => nI i) (p := fun r => zb b r) M (by
    intro n
    show FX8_firstRule_2 b _ (n + 1) (nI M) = 16
    rw [FX8_firstRule_2, if_pos (show (16 : Int32) ≤ nI M from by rw [h16]; exact nI_le (Nat.le_refl M) (by omega))]
    exact h16.symm) (by
    intro n i hi
    show FX8_firstRule_2 b _ (n + 1) (nI i) = _
    rw [FX8_firstRule_2, if_neg (show ¬ (16 : Int32) ≤ nI i from by rw [h16]; exact nI_ge hi (by omega))]
    simp only [bnd, nI_1]
    rw [zh8 (by omega)]
    cases zb b i
    · rw [if_pos zi_f, if_neg Bool.false_ne_true]
    · rw [if_neg (show ¬ zi true = 0 by decide), if_pos rfl]; rfl) 17 0 (by omega) (by omega)
  rw [Nat.sub_zero] at k
  have k : FX8_firstRule b = if zF (fun r => zb b r) M < M then nI (zF (fun r => zb b r) M) else 16 := k
  rw [k]
  cases e : zE p N
  · have e1 : zF (fun r => zb b r) M = M := zF_uniq (Nat.le_refl M) (fun h => absurd h (Nat.lt_irrefl _)) (fun i hi => by
      rw [h i]
      by_cases c : i < N
      · rw [zE_f.mp e i c, Bool.and_false]
      · rw [decide_eq_false c]; rfl)
    rw [e1, if_neg (Nat.lt_irrefl _), if_neg Bool.false_ne_true]
  · obtain ⟨e1, e2⟩ := zE_F e
    have e3 : zF (fun r => zb b r) M = zF p N := zF_uniq (by omega) (fun _ => by rw [h (zF p N), decide_eq_true e1, e2]; rfl) (fun i hi => by rw [h i, zF_no hi, Bool.and_false])
    rw [e3, if_pos (by omega), if_pos rfl]
theorem k_force {w : Nat → Int32} {r : Nat} (hr : r < 16) (h : c_body r = bd r ∧ c_excepts r = ex r) : FX3_wantForce w c_body c_excepts (nI r) = zorf w (aForce bd ex r) := by
  unfold FX3_wantForce aForce
  rw [if_neg (show ¬ (16 : Int32) ≤ nI r from nI_ge (b := 16) hr (by omega)), nI_clamp (by omega), zc2, zc3, zorf_u, zorf_u, zorf_2, h.1, h.2]
theorem k_fall {w : Nat → Int32} {r : Nat} (hr : r < 16) (h : c_body r = bd r ∧ c_excepts r = ex r) : FX3_wantFall w K c_body c_excepts (nI r) = zorf w (aFall bd ex K r) := by
  unfold FX3_wantFall aFall
  rw [nI_clamp (by omega), zc2, zc3, h.1, h.2]
  split
  · simp only [bnd]; rw [zorf_u]
  · simp only [bnd]; rw [zorf_u]
theorem k_allAbove {x : Int32} {o : Nat} {p : Nat → Bool} (hN : N ≤ 16) (ho : o < N) (hx : zM x N p) (hw : zVw N kd hd sg of ov fa st fw al ab vf) : zM (FX3_allAbove ab x (nI o)) N (fun r => p r && aAbv sg ov r o) := by
  obtain ⟨s, hs, e⟩ := zloopI (L := fun n y s => FX3_allAbove_5 ab x (nI o) (FX3_allAbove_51 ab x (nI o)) n s y) (kt := fun s => s) 16 (I := fun i s => zM s i (fun r => zb x r && zb (ab r) o)) (by
    intro n s _
    show FX3_allAbove_5 ab x (nI o) _ (n + 1) s (nI 16) = s
    rw [FX3_allAbove_5, if_pos (show (16 : Int32) ≤ nI 16 from nI_le (Nat.le_refl 16) (by omega))]; rfl) (by
    intro n i s hi h
    show ∃ s' : Int32, _ ∧ FX3_allAbove_5 ab x (nI o) _ (n + 1) s (nI i) = FX3_allAbove_5 ab x (nI o) _ n s' (nI (i + 1))
    rw [FX3_allAbove_5, if_neg (show ¬ (16 : Int32) ≤ nI i from nI_ge (b := 16) hi (by omega))]
    simp only [bnd, nI_1]
    rw [zh8 (by omega), zh8 (by omega), nI_clamp (show i < 2 ^ 31 by omega)]
    cases c1 : zb x i
    · rw [if_pos zi_f]
      exact ⟨_, zM_n h (by rw [c1]; rfl), rfl⟩
    · rw [if_neg (show ¬ zi true = 0 by decide)]
      cases c2 : zb (ab i) o
      · rw [if_pos zi_f]
        exact ⟨_, zM_n h (by rw [c1, c2]; rfl), rfl⟩
      · rw [if_neg (show ¬ zi true = 0 by decide)]
        exact ⟨_, zM_y h (by omega) (by rw [c1, c2]; rfl), rfl⟩) 17 0 0 (by omega) (by omega) (zM_0 _)
  have e : FX3_allAbove ab x (nI o) = s := e
  rw [e]
  intro r
  rw [hs r]
  show (decide (r < 16) && (zb x r && zb (ab r) o)) = (decide (r < N) && (p r && aAbv sg ov r o))
  rw [hx r]
  by_cases c : r < N
  · rw [decide_eq_true (show r < 16 by omega), decide_eq_true c, hw.2.2 r (by omega) o, decide_eq_true ho, decide_eq_true c]
    simp
  · rw [decide_eq_false c]
    simp
theorem k_needsSure {w : Nat → Int32} {q : Nat} (hN : N ≤ 16) (hq : q < 20) (hw : zVw N kd hd sg of ov fa st fw al ab vf) (hg : zWg N bd ex K ap fl sb nb) (hb : ∀ r, r < N → c_body r = bd r ∧ c_excepts r = ex r) : FX3_wantForSure w st vf sb c_body (nI q) = zorf w (aNS kd hd bd of fa N K q) := by
  unfold FX3_wantForSure aNS
  simp only [bnd]
  rw [zh8 (by omega), nI_clamp (by omega), hw.1, k_first hN (zM_and (hw.2.1 q hq).1 hg.2.2.1)]
  by_cases c : zb fa q = true
  · rw [c, if_neg (show ¬ zi true = 0 by decide), if_pos rfl, zorf_no]
  · rw [if_neg c, (Bool.not_eq_true _).mp c, if_pos zi_f, zc0]
    cases e : zE (fun r => aStr kd hd of r (nI q) && aSb bd K r) N
    · rw [if_neg Bool.false_ne_true, if_pos (show (16 : Int32) ≤ 16 by decide), if_neg (by
        unfold zE at e
        exact of_decide_eq_false e), zorf_no]
    · obtain ⟨e1, e2⟩ := zE_F e
      rw [if_pos rfl, if_neg (show ¬ (16 : Int32) ≤ nI _ from nI_ge (b := 16) (by omega) (by omega)), if_pos e1, nI_clamp (by omega), (hb _ e1).1, zorf_u]
theorem k_needsNever {w : Nat → Int32} {q : Nat} (hN : N ≤ 16) (hq : q < 20) (hw : zVw N kd hd sg of ov fa st fw al ab vf) (hb : ∀ r, r < N → c_body r = bd r ∧ c_excepts r = ex r) : FX3_wantForNever w K st c_body (nI q) = zorf w (aNN kd hd bd of N K q) := by
  unfold FX3_wantForNever aNN
  obtain ⟨s, hs, e⟩ := zloopI (L := fun n x s => FX3_wantForNever_2 w K st c_body (nI q) (FX3_wantForNever_58 w K st c_body (nI q)) n x s) (kt := fun s => s) 16 (I := fun i s => s = zorf w (zfa (fun r => if (decide (r < N) && aStr kd hd of r (nI q)) = true then zone1 1 (FX8_lowestBit (bd r &&& K 1)) else zno) i)) (by
    intro n s _
    show FX3_wantForNever_2 w K st c_body (nI q) _ (n + 1) (nI 16) s = s
    rw [FX3_wantForNever_2, if_pos (show (16 : Int32) ≤ nI 16 from nI_le (Nat.le_refl 16) (by omega))]; rfl) (by
    intro n i s hi h
    subst h
    refine ⟨_, rfl, ?_⟩
    rw [← zfa_s]
    show FX3_wantForNever_2 w K st c_body (nI q) _ (n + 1) (nI i) _ = FX3_wantForNever_2 w K st c_body (nI q) _ n (nI (i + 1)) (zorf _ (if (decide (i < N) && aStr kd hd of i (nI q)) = true then zone1 1 (FX8_lowestBit (bd i &&& K 1)) else zno))
    rw [FX3_wantForNever_2, if_neg (show ¬ (16 : Int32) ≤ nI i from nI_ge (b := 16) hi (by omega))]
    simp only [bnd, nI_1]
    rw [zh8 (by omega), nI_clamp (show i < 2 ^ 31 by omega), nI_clamp (show q < 2 ^ 31 by omega), (hw.2.1 q hq).1 i, zc1]
    cases c : (decide (i < N) && aStr kd hd of i (nI q))
    · rw [if_pos zi_f, if_neg Bool.false_ne_true, zorf_no]
    · rw [if_neg (show ¬ zi true = 0 by decide), if_pos rfl, zorf_u]
      rw [Bool.and_eq_true] at c
      rw [(hb i (of_decide_eq_true c.1)).1]) 17 0 w (by omega) (by omega) (zorf_no w).symm
  have e : FX3_wantForNever_2 w K st c_body (nI q) (FX3_wantForNever_58 w K st c_body (nI q)) 17 0 w = s := e
  rw [e, hs, zfa_16 hN (fun i h1 h2 => by rw [decide_eq_false (by omega), Bool.false_and, if_neg Bool.false_ne_true]), zfa_eq N (fun i hi => by rw [decide_eq_true hi, Bool.true_and])]
end ZNK
