/-! the class's sentences by masks -/
theorem zsb {x : Int32} {q : Nat} (h : q < 32) : ((x >>> (nI q &&& 31)) &&& 1 = 1) ↔ zb x q = true := by rw [zand1, zshr h]
theorem zdi {b : Bool} : decide (zi b = 0) = !b := by cases b <;> decide
/-- a loop over the literals that puts bits ahead of which s0's stand -/
def zO (s s0 : Int32) (i : Nat) (p : Nat → Bool) : Prop := ∀ q, zb s q = (zb s0 q || (decide (q < i) && p q))
theorem zO_0 (s : Int32) (p : Nat → Bool) : zO s s 0 p := fun q => by rw [decide_eq_false (Nat.not_lt_zero q)]; cases zb s q <;> rfl
theorem zO_n {s s0 : Int32} {i : Nat} {p : Nat → Bool} (h : zO s s0 i p) (hp : p i = false) : zO s s0 (i + 1) p := fun q => by
  rw [h q]
  rcases Nat.lt_trichotomy q i with c | c | c
  · rw [decide_eq_true c, decide_eq_true (show q < i + 1 by omega)]
  · subst c
    rw [hp, Bool.and_false, Bool.and_false]
  · rw [decide_eq_false (show ¬ q < i by omega), decide_eq_false (show ¬ q < i + 1 by omega)]
theorem zO_y {s s0 : Int32} {i : Nat} {p : Nat → Bool} (h : zO s s0 i p) (hi : i < 32) (hp : p i = true) : zO (s ||| (1 <<< (nI i &&& 31))) s0 (i + 1) p := fun q => by
  rw [zb_or, zb_one hi, h q]
  rcases Nat.lt_trichotomy q i with c | c | c
  · rw [decide_eq_true c, decide_eq_false (Nat.ne_of_lt c), decide_eq_true (show q < i + 1 by omega), Bool.or_false]
  · subst c
    rw [decide_eq_false (Nat.lt_irrefl q), decide_eq_true rfl, decide_eq_true (Nat.lt_succ_self q), hp]
    cases zb s0 q <;> rfl
  · rw [decide_eq_false (show ¬ q < i by omega), decide_eq_false (show ¬ q = i by omega), decide_eq_false (show ¬ q < i + 1 by omega), Bool.or_false]
section ZSEN
variable {v_facts v_applies v_falls v_sureBodies v_neverBodies fa : Int32} {v_known v_fresh v_strictFor v_forwardFor v_allFor v_above kd hd bd ex sg of ov : Nat → Int32} {N : Nat}
theorem k_belowAny {x : Int32} : ∀ o, zb (FX6_belowAny v_above x) o = zE (fun r => zb x r && zb (v_above r) o) 16 := by
  obtain ⟨s, hs, e⟩ := zloopI (L := fun n i s => (FX6_belowAny_4 v_above x) ((FX6_belowAny_34 v_above x)) n s i) (kt := fun s => s) 16 (I := fun i s => ∀ o, zb s o = zE (fun r => zb x r && zb (v_above r) o) i) (by
    intro n s _
    show (FX6_belowAny_4 v_above x) _ (n + 1) s (nI 16) = s
    rw [FX6_belowAny_4, if_pos (show (16 : Int32) ≤ nI 16 by decide)]; rfl) (by
    intro n i s hi h
    show ∃ s' : Int32, _ ∧ (FX6_belowAny_4 v_above x) ((FX6_belowAny_34 v_above x)) (n + 1) s (nI i) = (FX6_belowAny_4 v_above x) ((FX6_belowAny_34 v_above x)) n s' (nI (i + 1))
    rw [FX6_belowAny_4, if_neg (show ¬ (16 : Int32) ≤ nI i from nI_ge (b := 16) hi (by decide))]
    simp only [zsb (show i < 32 by omega), nI_1, nI_clamp (show i < 2 ^ 31 by omega)]
    have hex : ∀ o, zE (fun r => zb x r && zb (v_above r) o) (i + 1) = (zE (fun r => zb x r && zb (v_above r) o) i || (zb x i && zb (v_above i) o)) := by
      intro o
      refine Bool.eq_iff_iff.mpr ?_
      rw [Bool.or_eq_true, zE_t, zE_t]
      constructor
      · rintro ⟨r, hr, hp⟩
        rcases Nat.lt_succ_iff_lt_or_eq.mp hr with h | rfl
        · exact Or.inl ⟨r, h, hp⟩
        · exact Or.inr hp
      · rintro (⟨r, hr, hp⟩ | hp)
        · exact ⟨r, by omega, hp⟩
        · exact ⟨i, by omega, hp⟩
    cases hx : zb x i
    · refine ⟨s, fun o => ?_, rfl⟩
      rw [hex o, hx, Bool.false_and, Bool.or_false]; exact h o
    · refine ⟨s ||| v_above i, fun o => ?_, rfl⟩
      rw [zb_or, hex o, hx, Bool.true_and, h o]) 17 0 0 (by omega) (by omega) (fun o => by rw [zb_0]; rfl)
  unfold FX6_belowAny
  intro o
  rw [show (FX6_belowAny_4 v_above x) ((FX6_belowAny_34 v_above x)) 17 0 0 = s from e]
  exact hs o
theorem k_team {q : Nat} (hq : q < 20) (hw : zVw N kd hd sg of ov fa v_strictFor v_forwardFor v_allFor v_above v_facts) (hg : zM v_applies N (aApp bd ex v_known)) : zM (FX6_team v_forwardFor v_applies (nI q)) N (aFrc kd hd bd ex of v_known q) := by
  unfold FX6_team
  rw [nI_clamp (show q < 2 ^ 31 by omega)]
  exact zM_and (hw.2.1 q hq).2.1 hg
theorem k_unfallen {q : Nat} (hN : N ≤ 16) (hq : q < 20) (hw : zVw N kd hd sg of ov fa v_strictFor v_forwardFor v_allFor v_above v_facts) (hg : zM v_falls N (aFal bd ex v_known)) : zM (FX6_unfallen v_forwardFor v_falls (nI q)) N (aUnf kd hd bd ex of v_known q) := by
  unfold FX6_unfallen
  rw [nI_clamp (show q < 2 ^ 31 by omega)]
  exact zM_andn (by omega) (hw.2.1 q hq).2.1 hg
/-- what is below some rules of a mask -/
theorem k_below {x : Int32} {p : Nat → Bool} (hN : N ≤ 16) (hw : zVw N kd hd sg of ov fa v_strictFor v_forwardFor v_allFor v_above v_facts) (hx : zM x N p) : zM (FX6_belowAny v_above x) N (fun o => zE (fun s => p s && aAbv sg ov s o) N) := by
  intro o
  rw [k_belowAny o]
  by_cases ho : o < N
  · rw [decide_eq_true ho, Bool.true_and]
    refine Bool.eq_iff_iff.mpr ?_
    rw [zE_t, zE_t]
    constructor
    · rintro ⟨r, hr, hp⟩
      rw [Bool.and_eq_true, hx r, hw.2.2 r hr o, decide_eq_true ho] at hp
      obtain ⟨h1, h2⟩ := hp
      rw [Bool.and_eq_true] at h1
      have hrN := of_decide_eq_true h1.1
      rw [decide_eq_true hrN] at h2
      exact ⟨r, hrN, by rw [Bool.and_eq_true]; exact ⟨h1.2, h2⟩⟩
    · rintro ⟨r, hr, hp⟩
      rw [Bool.and_eq_true] at hp
      refine ⟨r, by omega, ?_⟩
      rw [Bool.and_eq_true, hx r, hw.2.2 r (by omega) o, decide_eq_true ho, decide_eq_true hr]
      exact ⟨hp.1, hp.2⟩
  · rw [decide_eq_false ho, Bool.false_and]
    refine zE_f.mpr (fun r hr => ?_)
    rw [hw.2.2 r hr o, decide_eq_false ho, Bool.false_and, Bool.and_false]
theorem k_threats {q : Nat} (hN : N ≤ 16) (hq : q < 20) (hw : zVw N kd hd sg of ov fa v_strictFor v_forwardFor v_allFor v_above v_facts) (hg : zM v_applies N (aApp bd ex v_known)) (hf : zM v_falls N (aFal bd ex v_known)) : zM (FX6_threats v_forwardFor v_allFor v_above v_applies v_falls (nI q)) N (aThr kd hd bd ex sg of ov N v_known q) := by
  have ho := aOth_lt hq
  unfold FX6_threats
  simp only [bnd, aOth8 hq, nI_clamp (show aOth q < 2 ^ 31 by omega)]
  exact zM_andn (by omega) (zM_andn (by omega) (hw.2.1 _ ho).2.2 hf) (k_below hN hw (k_team hq hw hg))
theorem k_victors {q : Nat} (hN : N ≤ 16) (hq : q < 20) (hw : zVw N kd hd sg of ov fa v_strictFor v_forwardFor v_allFor v_above v_facts) (hg : zM v_applies N (aApp bd ex v_known)) (hf : zM v_falls N (aFal bd ex v_known)) : zM (FX6_victors v_forwardFor v_allFor v_above v_applies v_falls (nI q)) N (aVic kd hd bd ex sg of ov N v_known q) := by
  have ho := aOth_lt hq
  unfold FX6_victors
  simp only [bnd, aOth8 hq, nI_clamp (show aOth q < 2 ^ 31 by omega)]
  exact zM_andn (by omega) (zM_and (hw.2.1 _ ho).2.2 hg) (k_below hN hw (k_unfallen hN hq hw hf))
theorem k_sureOnes (hN : N ≤ 16) (hw : zVw N kd hd sg of ov fa v_strictFor v_forwardFor v_allFor v_above v_facts) (hs : zM v_sureBodies N (aSb bd v_known)) : zO (FX6_sureOnes v_strictFor v_facts v_sureBodies) fa 20 (fun q => zE (fun r => aStr kd hd of r (nI q) && aSb bd v_known r) N) := by
  have hv : v_facts = fa := hw.1
  subst hv
  obtain ⟨s, hs, e⟩ := zloopI (L := fun n i s => (FX6_sureOnes_7 v_strictFor v_facts v_sureBodies) ((FX6_sureOnes_39 v_strictFor v_facts v_sureBodies)) n s i) (kt := fun s => s) 20 (I := fun i s => zO s v_facts i (fun q => zE (fun r => aStr kd hd of r (nI q) && aSb bd v_known r) N)) (by
    intro n s _
    show (FX6_sureOnes_7 v_strictFor v_facts v_sureBodies) _ (n + 1) s (nI 20) = s
    rw [FX6_sureOnes_7, if_pos (show (20 : Int32) ≤ nI 20 by decide)]; rfl) (by
    intro n i s hi h
    show ∃ s' : Int32, _ ∧ (FX6_sureOnes_7 v_strictFor v_facts v_sureBodies) ((FX6_sureOnes_39 v_strictFor v_facts v_sureBodies)) (n + 1) s (nI i) = (FX6_sureOnes_7 v_strictFor v_facts v_sureBodies) ((FX6_sureOnes_39 v_strictFor v_facts v_sureBodies)) n s' (nI (i + 1))
    rw [FX6_sureOnes_7, if_neg (show ¬ (20 : Int32) ≤ nI i from nI_ge (b := 20) hi (by decide))]
    simp only [zM_00 (zM_and (hw.2.1 i hi).1 hs), nI_1, nI_clamp (show i < 2 ^ 31 by omega)]
    cases hx : zE (fun r => aStr kd hd of r (nI i) && aSb bd v_known r) N
    · exact ⟨s, zO_n h hx, rfl⟩
    · exact ⟨_, zO_y h (by omega) hx, rfl⟩) 21 0 v_facts (by omega) (by omega) (zO_0 _ _)
  unfold FX6_sureOnes
  rw [show (FX6_sureOnes_7 v_strictFor v_facts v_sureBodies) ((FX6_sureOnes_39 v_strictFor v_facts v_sureBodies)) 21 v_facts 0 = s from e]
  exact hs
theorem k_neverOnes (hN : N ≤ 16) (hw : zVw N kd hd sg of ov fa v_strictFor v_forwardFor v_allFor v_above v_facts) (hs : zM v_neverBodies N (aNb bd v_known)) : zM (FX6_neverOnes v_strictFor v_facts v_neverBodies) 20 (fun q => !zb fa q && !zE (fun r => aStr kd hd of r (nI q) && !aNb bd v_known r) N) := by
  have hv : v_facts = fa := hw.1
  subst hv
  obtain ⟨s, hs, e⟩ := zloopI (L := fun n i s => (FX6_neverOnes_4 v_strictFor v_facts v_neverBodies) ((FX6_neverOnes_49 v_strictFor v_facts v_neverBodies)) n s i) (kt := fun s => s) 20 (I := fun i s => zM s i (fun q => !zb v_facts q && !zE (fun r => aStr kd hd of r (nI q) && !aNb bd v_known r) N)) (by
    intro n s _
    show (FX6_neverOnes_4 v_strictFor v_facts v_neverBodies) _ (n + 1) s (nI 20) = s
    rw [FX6_neverOnes_4, if_pos (show (20 : Int32) ≤ nI 20 by decide)]; rfl) (by
    intro n i s hi h
    show ∃ s' : Int32, _ ∧ (FX6_neverOnes_4 v_strictFor v_facts v_neverBodies) ((FX6_neverOnes_49 v_strictFor v_facts v_neverBodies)) (n + 1) s (nI i) = (FX6_neverOnes_4 v_strictFor v_facts v_neverBodies) ((FX6_neverOnes_49 v_strictFor v_facts v_neverBodies)) n s' (nI (i + 1))
    rw [FX6_neverOnes_4, if_neg (show ¬ (20 : Int32) ≤ nI i from nI_ge (b := 20) hi (by decide))]
    simp only [bnd, zh8 (show i < 32 by omega), zi0, zM_00 (zM_andn (show N ≤ 32 by omega) (hw.2.1 i hi).1 hs), nI_1, nI_clamp (show i < 2 ^ 31 by omega)]
    cases hf : zb v_facts i
    · cases hx : zE (fun r => aStr kd hd of r (nI i) && !aNb bd v_known r) N
      · exact ⟨_, zM_y h (by omega) (by show (!zb v_facts i && !zE _ N) = true; rw [hf, hx]; rfl), rfl⟩
      · exact ⟨s, zM_n h (by show (!zb v_facts i && !zE _ N) = false; rw [hf, hx]; rfl), rfl⟩
    · exact ⟨s, zM_n h (by show (!zb v_facts i && !zE _ N) = false; rw [hf]; rfl), rfl⟩) 21 0 0 (by omega) (by omega) (zM_0 _)
  unfold FX6_neverOnes
  rw [show (FX6_neverOnes_4 v_strictFor v_facts v_neverBodies) ((FX6_neverOnes_49 v_strictFor v_facts v_neverBodies)) 21 0 0 = s from e]
  exact hs
theorem k_likelyOnes (hN : N ≤ 16) (hw : zVw N kd hd sg of ov fa v_strictFor v_forwardFor v_allFor v_above v_facts) (hg : zM v_applies N (aApp bd ex v_known)) (hf : zM v_falls N (aFal bd ex v_known)) : zO (FX6_likelyOnes v_known v_forwardFor v_allFor v_above v_applies v_falls) (v_known 0) 20 (fun q => zb (v_known 1) (aOth q) && zE (aFrc kd hd bd ex of v_known q) N && !zE (aThr kd hd bd ex sg of ov N v_known q) N) := by
  obtain ⟨s, hs, e⟩ := zloopI (L := fun n i s => (FX6_likelyOnes_9 v_known v_forwardFor v_allFor v_above v_applies v_falls) ((FX6_likelyOnes_59 v_known v_forwardFor v_allFor v_above v_applies v_falls)) n s i) (kt := fun s => s) 20 (I := fun i s => zO s (v_known 0) i (fun q => zb (v_known 1) (aOth q) && zE (aFrc kd hd bd ex of v_known q) N && !zE (aThr kd hd bd ex sg of ov N v_known q) N)) (by
    intro n s _
    show (FX6_likelyOnes_9 v_known v_forwardFor v_allFor v_above v_applies v_falls) _ (n + 1) s (nI 20) = s
    rw [FX6_likelyOnes_9, if_pos (show (20 : Int32) ≤ nI 20 by decide)]; rfl) (by
    intro n i s hi h
    have ho := aOth_lt hi
    show ∃ s' : Int32, _ ∧ (FX6_likelyOnes_9 v_known v_forwardFor v_allFor v_above v_applies v_falls) ((FX6_likelyOnes_59 v_known v_forwardFor v_allFor v_above v_applies v_falls)) (n + 1) s (nI i) = (FX6_likelyOnes_9 v_known v_forwardFor v_allFor v_above v_applies v_falls) ((FX6_likelyOnes_59 v_known v_forwardFor v_allFor v_above v_applies v_falls)) n s' (nI (i + 1))
    rw [FX6_likelyOnes_9, if_neg (show ¬ (20 : Int32) ≤ nI i from nI_ge (b := 20) hi (by decide))]
    simp only [bnd, aOth8 hi, zc1, zh8 (show aOth i < 32 by omega), zi0, zM_00 (k_team hi hw hg), zM_00 (k_threats hN hi hw hg hf), nI_1]
    cases h1 : zE (aFrc kd hd bd ex of v_known i) N
    · exact ⟨s, zO_n h (by show (zb (v_known 1) (aOth i) && zE _ N && !zE _ N) = false; rw [h1, Bool.and_false]; rfl), rfl⟩
    · cases h2 : zb (v_known 1) (aOth i)
      · exact ⟨s, zO_n h (by show (zb (v_known 1) (aOth i) && zE _ N && !zE _ N) = false; rw [h2]; rfl), rfl⟩
      · cases h3 : zE (aThr kd hd bd ex sg of ov N v_known i) N
        · exact ⟨_, zO_y h (by omega) (by show (zb (v_known 1) (aOth i) && zE _ N && !zE _ N) = true; rw [h1, h2, h3]; rfl), rfl⟩
        · exact ⟨s, zO_n h (by show (zb (v_known 1) (aOth i) && zE _ N && !zE _ N) = false; rw [h3, Bool.not_true, Bool.and_false]), rfl⟩) 21 0 (v_known 0) (by omega) (by omega) (zO_0 _ _)
  unfold FX6_likelyOnes
  rw [zc0, show (FX6_likelyOnes_9 v_known v_forwardFor v_allFor v_above v_applies v_falls) ((FX6_likelyOnes_59 v_known v_forwardFor v_allFor v_above v_applies v_falls)) 21 (v_known 0) 0 = s from e]
  exact hs
theorem k_unlikelyOnes (hN : N ≤ 16) (hw : zVw N kd hd sg of ov fa v_strictFor v_forwardFor v_allFor v_above v_facts) (hg : zM v_applies N (aApp bd ex v_known)) (hf : zM v_falls N (aFal bd ex v_known)) : zM (FX6_unlikelyOnes v_known v_forwardFor v_allFor v_above v_applies v_falls) 20 (fun q => aUnlikely kd hd bd ex sg of ov N v_known q) := by
  obtain ⟨s, hs, e⟩ := zloopI (L := fun n i s => (FX6_unlikelyOnes_4 v_known v_forwardFor v_allFor v_above v_applies v_falls) ((FX6_unlikelyOnes_54 v_known v_forwardFor v_allFor v_above v_applies v_falls)) n s i) (kt := fun s => s &&& v_known 1) 20 (I := fun i s => zM s i (fun q => !zE (aUnf kd hd bd ex of v_known q) N || zb (v_known 0) (aOth q) || zE (aVic kd hd bd ex sg of ov N v_known q) N)) (by
    intro n s _
    show (FX6_unlikelyOnes_4 v_known v_forwardFor v_allFor v_above v_applies v_falls) _ (n + 1) s (nI 20) = _
    rw [FX6_unlikelyOnes_4, if_pos (show (20 : Int32) ≤ nI 20 by decide)]; rfl) (by
    intro n i s hi h
    have ho := aOth_lt hi
    show ∃ s' : Int32, _ ∧ (FX6_unlikelyOnes_4 v_known v_forwardFor v_allFor v_above v_applies v_falls) ((FX6_unlikelyOnes_54 v_known v_forwardFor v_allFor v_above v_applies v_falls)) (n + 1) s (nI i) = (FX6_unlikelyOnes_4 v_known v_forwardFor v_allFor v_above v_applies v_falls) ((FX6_unlikelyOnes_54 v_known v_forwardFor v_allFor v_above v_applies v_falls)) n s' (nI (i + 1))
    rw [FX6_unlikelyOnes_4, if_neg (show ¬ (20 : Int32) ≤ nI i from nI_ge (b := 20) hi (by decide))]
    simp only [bnd, FX6_unlikelyOnes_42, aOth8 hi, zc0, zh8 (show aOth i < 32 by omega), zi0, zM_00 (k_unfallen hN hi hw hf), zM_00 (k_victors hN hi hw hg hf), nI_1]
    cases h1 : zE (aUnf kd hd bd ex of v_known i) N
    · exact ⟨_, zM_y h (by omega) (by show (!zE _ N || zb (v_known 0) (aOth i) || zE _ N) = true; rw [h1]; rfl), rfl⟩
    · cases h2 : zb (v_known 0) (aOth i)
      · cases h3 : zE (aVic kd hd bd ex sg of ov N v_known i) N
        · exact ⟨s, zM_n h (by show (!zE _ N || zb (v_known 0) (aOth i) || zE _ N) = false; rw [h1, h2, h3]; rfl), rfl⟩
        · exact ⟨_, zM_y h (by omega) (by show (!zE _ N || zb (v_known 0) (aOth i) || zE _ N) = true; rw [h1, h2, h3]; rfl), rfl⟩
      · exact ⟨_, zM_y h (by omega) (by show (!zE _ N || zb (v_known 0) (aOth i) || zE _ N) = true; rw [h1, h2]; rfl), rfl⟩) 21 0 0 (by omega) (by omega) (zM_0 _)
  unfold FX6_unlikelyOnes
  rw [show (FX6_unlikelyOnes_4 v_known v_forwardFor v_allFor v_above v_applies v_falls) ((FX6_unlikelyOnes_54 v_known v_forwardFor v_allFor v_above v_applies v_falls)) 21 0 0 = s &&& v_known 1 from e]
  intro q
  rw [zb_and, hs q]
  unfold aUnlikely
  dsimp only
  cases decide (q < 20) <;> cases zb (v_known 1) q <;> cases zE (aUnf kd hd bd ex of v_known q) N <;> cases zb (v_known 0) (aOth q) <;> cases zE (aVic kd hd bd ex sg of ov N v_known q) N <;> rfl
/-- bits that lie below 20 -/
def zLo (x : Int32) : Prop := ∀ q, 20 ≤ q → zb x q = false
theorem zM_L {x : Int32} {p : Nat → Bool} (h : zM x 20 p) : zLo x := fun q hq => zM_o h hq
theorem zLo_or {x y : Int32} (h : zLo x) (h' : zLo y) : zLo (x ||| y) := fun q hq => by rw [zb_or, h q hq, h' q hq]; rfl
theorem zO_M {s s0 k : Int32} {p p' : Nat → Bool} (h : zO s s0 20 p) (h0 : zLo s0) (hp : ∀ q, q < 20 → p' q = (!zb k q && (zb s0 q || p q))) : zM (s &&& (k ^^^ (-1))) 20 p' := fun q => by
  by_cases c : q < 20
  · rw [zb_and, zb_not (by omega), h q, decide_eq_true c, hp q c]
    cases zb s0 q <;> cases p q <;> cases zb k q <;> rfl
  · rw [zb_and, h q, h0 q (by omega), decide_eq_false c]; rfl
theorem zM_M {s k : Int32} {p p' : Nat → Bool} (h : zM s 20 p) (hp : ∀ q, q < 20 → p' q = (!zb k q && p q)) : zM (s &&& (k ^^^ (-1))) 20 p' := fun q => by
  by_cases c : q < 20
  · rw [zb_and, zb_not (by omega), h q, decide_eq_true c, hp q c]
    cases p q <;> cases zb k q <;> rfl
  · rw [zb_and, h q, decide_eq_false c]; rfl
theorem zor4 {a b c d : Int32} : (a ||| b ||| c ||| d) = 0 ↔ a = 0 ∧ b = 0 ∧ c = 0 ∧ d = 0 := by
  constructor
  · intro h
    have k : ∀ q, (zb a q || zb b q || zb c q || zb d q) = false := fun q => by
      rw [← zb_or, ← zb_or, ← zb_or, h, zb_0]
    refine ⟨zb_ext (fun q _ => ?_), zb_ext (fun q _ => ?_), zb_ext (fun q _ => ?_), zb_ext (fun q _ => ?_)⟩ <;> (have := k q; rw [zb_0]; revert this; cases zb a q <;> cases zb b q <;> cases zb c q <;> cases zb d q <;> decide)
  · rintro ⟨rfl, rfl, rfl, rfl⟩; decide
theorem k_brings (hN : N ≤ 16) (hfa : zLo fa) (hk : ∀ t, t < 4 → zLo (v_known t)) (hw : zVw N kd hd sg of ov fa v_strictFor v_forwardFor v_allFor v_above v_facts) (hg : zWg N bd ex v_known v_applies v_falls v_sureBodies v_neverBodies) : ∃ s : Int32 × (Nat → Int32), ((∀ t, t < 4 → zM (s.2 t) 20 (aNew kd hd bd ex sg of ov fa N v_known t)) ∧ zfl s.1 4 s.2) ∧ (FX6_brings v_known v_fresh v_strictFor v_forwardFor v_allFor v_above v_facts v_applies v_falls v_sureBodies v_neverBodies) = s := by
  obtain ⟨g1, g2, g3, g4⟩ := hg
  have m0 := zO_M (k := v_known 0) (p' := aNew kd hd bd ex sg of ov fa N v_known 0) (k_sureOnes hN hw g3) hfa (fun q _ => rfl)
  have m1 := zM_M (k := v_known 1) (p' := aNew kd hd bd ex sg of ov fa N v_known 1) (k_neverOnes hN hw g4) (fun q _ => rfl)
  have m2 := zO_M (k := v_known 2) (p' := aNew kd hd bd ex sg of ov fa N v_known 2) (k_likelyOnes hN hw g1 g2) (hk 0 (by decide)) (fun q _ => rfl)
  have m3 := zM_M (k := v_known 3) (p' := aNew kd hd bd ex sg of ov fa N v_known 3) (k_unlikelyOnes hN hw g1 g2) (fun q _ => rfl)
  unfold FX6_brings
  simp only [bnd, zc0, zc1, zc2, zc3]
  generalize (FX6_sureOnes v_strictFor v_facts v_sureBodies) &&& (v_known 0 ^^^ (-1)) = f0 at m0 ⊢
  generalize (FX6_neverOnes v_strictFor v_facts v_neverBodies) &&& (v_known 1 ^^^ (-1)) = f1 at m1 ⊢
  generalize (FX6_likelyOnes v_known v_forwardFor v_allFor v_above v_applies v_falls) &&& (v_known 2 ^^^ (-1)) = f2 at m2 ⊢
  generalize (FX6_unlikelyOnes v_known v_forwardFor v_allFor v_above v_applies v_falls) &&& (v_known 3 ^^^ (-1)) = f3 at m3 ⊢
  have e0 : upd (upd (upd (upd v_fresh 0 f0) 1 f1) 2 f2) 3 f3 0 = f0 := by rw [pk_un (by decide), pk_un (by decide), pk_un (by decide), pk_us]
  have e1 : upd (upd (upd (upd v_fresh 0 f0) 1 f1) 2 f2) 3 f3 1 = f1 := by rw [pk_un (by decide), pk_un (by decide), pk_us]
  have e2 : upd (upd (upd (upd v_fresh 0 f0) 1 f1) 2 f2) 3 f3 2 = f2 := by rw [pk_un (by decide), pk_us]
  have e3 : upd (upd (upd (upd v_fresh 0 f0) 1 f1) 2 f2) 3 f3 3 = f3 := pk_us
  have hall : ∀ t, t < 4 → zM (upd (upd (upd (upd v_fresh 0 f0) 1 f1) 2 f2) 3 f3 t) 20 (aNew kd hd bd ex sg of ov fa N v_known t) := fun t ht => by
    rcases (show t = 0 ∨ t = 1 ∨ t = 2 ∨ t = 3 by omega) with rfl | rfl | rfl | rfl
    · rw [e0]; exact m0
    · rw [e1]; exact m1
    · rw [e2]; exact m2
    · rw [e3]; exact m3
  rw [e0, e1, e2, e3]
  by_cases h : (f0 ||| f1 ||| f2 ||| f3) = 0
  · rw [if_pos h]
    obtain ⟨rfl, rfl, rfl, rfl⟩ := zor4.mp h
    refine ⟨_, ⟨hall, Or.inl ⟨rfl, fun t ht => ?_⟩⟩, rfl⟩
    rcases (show t = 0 ∨ t = 1 ∨ t = 2 ∨ t = 3 by omega) with rfl | rfl | rfl | rfl
    · exact e0
    · exact e1
    · exact e2
    · exact e3
  · rw [if_neg h]
    refine ⟨_, ⟨hall, Or.inr ⟨rfl, ?_⟩⟩, rfl⟩
    by_cases a0 : f0 = 0
    · by_cases a1 : f1 = 0
      · by_cases a2 : f2 = 0
        · by_cases a3 : f3 = 0
          · exact absurd (zor4.mpr ⟨a0, a1, a2, a3⟩) h
          · exact ⟨3, by decide, fun z => a3 (e3.symm.trans z)⟩
        · exact ⟨2, by decide, fun z => a2 (e2.symm.trans z)⟩
      · exact ⟨1, by decide, fun z => a1 (e1.symm.trans z)⟩
    · exact ⟨0, by decide, fun z => a0 (e0.symm.trans z)⟩
end ZSEN

