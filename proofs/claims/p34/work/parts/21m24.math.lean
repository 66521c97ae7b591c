/-! the law's own reading of a tag's sentence -/
theorem bndx {α β : Type} (x : α) (f : α → β) : bnd x f = f x := (show bnd x f = f x from rfl).trans (Eq.refl _)
theorem zif1 {α : Type} {P : Prop} {inst : Decidable P} {b : Bool} {F : Int32 → α} (h : P ↔ b = true) : (@ite α P inst (F 1) (F 0)) = F (zi b) := by
  cases b
  · rw [if_neg (fun z => absurd (h.mp z) Bool.false_ne_true)]; rfl
  · rw [if_pos (h.mpr rfl)]; rfl
theorem zif0 {α : Type} {P : Prop} {inst : Decidable P} {b : Bool} {F : Int32 → α} (h : P ↔ b = false) : (@ite α P inst (F 0) (F 1)) = F (zi b) := by
  cases b
  · rw [if_pos (h.mpr rfl)]; rfl
  · rw [if_neg (fun z => absurd (h.mp z).symm Bool.false_ne_true)]; rfl
def zpSr (kd hd bd of K : Nat → Int32) (q r : Nat) : Bool := aStr kd hd of r (nI q) && aSb bd K r
def zpN (kd hd bd of K : Nat → Int32) (q r : Nat) : Bool := aStr kd hd of r (nI q) && !aNb bd K r
/-- what the law gathers over the rules for a literal -/
def zh1 (kd hd bd ex of K : Nat → Int32) (f : Bool) (q i : Nat) : Int32 × Int32 × Int32 × Int32 :=
  (zi (f || zex (zpSr kd hd bd of K q) i), zi (!f && !zex (zpN kd hd bd of K q) i), zi (zex (aFrc kd hd bd ex of K q) i), zi (!zex (aUnf kd hd bd ex of K q) i))
theorem zh1_s (kd hd bd ex of K : Nat → Int32) (f : Bool) (q i : Nat) : ∃ a b c d : Bool, zh1 kd hd bd ex of K f q i = (zi a, zi b, zi c, zi d) ∧ zh1 kd hd bd ex of K f q (i + 1) = (zi (a || zpSr kd hd bd of K q i), zi (b && !zpN kd hd bd of K q i), zi (c || aFrc kd hd bd ex of K q i), zi (d && !aUnf kd hd bd ex of K q i)) := by
  refine ⟨f || zex (zpSr kd hd bd of K q) i, !f && !zex (zpN kd hd bd of K q) i, zex (aFrc kd hd bd ex of K q) i, !zex (aUnf kd hd bd ex of K q) i, rfl, ?_⟩
  show (zi (f || (zex (zpSr kd hd bd of K q) i || zpSr kd hd bd of K q i)), zi (!f && !(zex (zpN kd hd bd of K q) i || zpN kd hd bd of K q i)), zi (zex (aFrc kd hd bd ex of K q) i || aFrc kd hd bd ex of K q i), zi (!(zex (aUnf kd hd bd ex of K q) i || aUnf kd hd bd ex of K q i))) = _
  rw [Bool.or_assoc, Bool.not_or, Bool.not_or, Bool.and_assoc]
section ZHOLDS
variable {c_kind c_head c_body c_excepts c_power c_beats v_allFor tf : Nat → Int32} {c_facts c_shut : Int32} {N : Nat}
theorem q_h143 {rc60 : (Int32) → (Int32) → (Int32) → (Int32) → (Int32) → (Int32) → (Int32) → (Int32) → (Int32)} {kt60 : (Int32) → (Int32) → (Int32) → (Int32) → (Int32) → (Int32) → (Int32) → (Int32)} {q i : Nat} {x1 x5 mine x7 X8 X9 : Int32} {a b : Bool} (hN : N ≤ 16) (hi : i < N) (hkd : c_kind i = 0 ∨ c_kind i = 1 ∨ c_kind i = 2) : (FL_holds_143 c_kind c_head c_body c_excepts c_power c_beats c_facts (nI N) c_shut v_allFor tf x1 (nI q)) rc60 kt60 x5 mine x7 X8 X9 (zi a) (zi b) (nI i) = rc60 x5 mine x7 X8 X9 (zi (a || (!decide (2 ≤ c_kind i) && aApp c_body c_excepts tf i))) (zi (b && !(!decide (2 ≤ c_kind i) && !aFal c_body c_excepts tf i))) (nI (i + 1)) := by
  unfold FL_holds_143
  simp only [bndx, nI_1]
  rw [q_r0 hN hi, q_app hN hi, q_fal hN hi]
  have h2 : c_kind i = 2 ∨ (¬ c_kind i = 2 ∧ decide (2 ≤ c_kind i) = false) := by
    rcases hkd with h | h | h
    · exact Or.inr ⟨by rw [h]; decide, by rw [h]; decide⟩
    · exact Or.inr ⟨by rw [h]; decide, by rw [h]; decide⟩
    · exact Or.inl h
  rcases h2 with h | ⟨h, e⟩
  · rw [if_pos h, h, show decide ((2 : Int32) ≤ 2) = true by decide, Bool.not_true, Bool.false_and, Bool.false_and, Bool.or_false, Bool.not_false, Bool.and_true]
  · rw [if_neg h, e, Bool.not_false, Bool.true_and, Bool.true_and, Bool.not_not, zi_or, zi_and]
theorem q_h116 {rc60 : (Int32) → (Int32) → (Int32) → (Int32) → (Int32) → (Int32) → (Int32) → (Int32) → (Int32)} {kt60 : (Int32) → (Int32) → (Int32) → (Int32) → (Int32) → (Int32) → (Int32) → (Int32)} {q i : Nat} {x1 x5 mine x7 : Int32} {a b c d k : Bool} (hN : N ≤ 16) (hi : i < N) (hkd : c_kind i = 0 ∨ c_kind i = 1 ∨ c_kind i = 2) : (FL_holds_116 c_kind c_head c_body c_excepts c_power c_beats c_facts (nI N) c_shut v_allFor tf x1 (nI q)) rc60 kt60 x5 mine x7 (zi b) (zi c) (zi d) (nI i) (zi a) (zi k) = rc60 x5 mine x7 (zi (a || k)) (zi (b && aNb c_body tf i)) (zi (c || (!decide (2 ≤ c_kind i) && aApp c_body c_excepts tf i))) (zi (d && !(!decide (2 ≤ c_kind i) && !aFal c_body c_excepts tf i))) (nI (i + 1)) := by
  unfold FL_holds_116
  rw [bndx, q_r2 hN hi, zc1, zif0 (b := aNb c_body tf i) (by
    unfold aNb
    constructor
    · intro h; rw [decide_eq_true h]; rfl
    · intro h
      by_cases z : c_body i &&& tf 1 = 0
      · exact z
      · rw [decide_eq_false z] at h; cases h)]
  unfold FL_holds_140
  rw [zi_or, zi_and]
  exact q_h143 hN hi hkd
theorem q_h60 {kt60 : (Int32) → (Int32) → (Int32) → (Int32) → (Int32) → (Int32) → (Int32) → (Int32)} {q : Nat} {x1 x5 x7 mine : Int32} {of : Nat → Int32} {f : Bool} (hN : N ≤ 16) (hkd : ∀ r : Nat, r < N → c_kind r = 0 ∨ c_kind r = 1 ∨ c_kind r = 2) (hm : zM mine N (fun r => aFor c_head of r (nI q))) : (FL_holds_60 c_kind c_head c_body c_excepts c_power c_beats c_facts (nI N) c_shut v_allFor tf x1 (nI q)) kt60 17 x5 mine x7 (zi f) (zi (!f)) 0 1 0 = kt60 x5 mine x7 (zh1 c_kind c_head c_body c_excepts of tf f q N).1 (zh1 c_kind c_head c_body c_excepts of tf f q N).2.1 (zh1 c_kind c_head c_body c_excepts of tf f q N).2.2.1 (zh1 c_kind c_head c_body c_excepts of tf f q N).2.2.2 := by
  obtain ⟨s, hs, e⟩ := zloopI (S := Int32 × Int32 × Int32 × Int32) (L := fun n i s => (FL_holds_60 c_kind c_head c_body c_excepts c_power c_beats c_facts (nI N) c_shut v_allFor tf x1 (nI q)) kt60 n x5 mine x7 s.1 s.2.1 s.2.2.1 s.2.2.2 i) (kt := fun s => kt60 x5 mine x7 s.1 s.2.1 s.2.2.1 s.2.2.2) N (I := fun i s => s = zh1 c_kind c_head c_body c_excepts of tf f q i) (by
    intro n s _
    have hun : (FL_holds_60 c_kind c_head c_body c_excepts c_power c_beats c_facts (nI N) c_shut v_allFor tf x1 (nI q)) kt60 (n + 1) x5 mine x7 s.1 s.2.1 s.2.2.1 s.2.2.2 (nI N) = _ := FL_holds_60.eq_2 ..
    rw [bndx, if_pos (show FX8_count_4 (nI N) 4 ≤ nI N from nI_le (Nat.le_refl N) (by omega))] at hun
    exact hun) (by
    intro n i s hi hs
    subst hs
    refine ⟨_, rfl, ?_⟩
    obtain ⟨a, b, c, d, e1, e2⟩ := zh1_s c_kind c_head c_body c_excepts of tf f q i
    rw [e1, e2]
    have hun : (FL_holds_60 c_kind c_head c_body c_excepts c_power c_beats c_facts (nI N) c_shut v_allFor tf x1 (nI q)) kt60 (n + 1) x5 mine x7 (zi a) (zi b) (zi c) (zi d) (nI i) = _ := FL_holds_60.eq_2 ..
    rw [bndx, if_neg (show ¬ FX8_count_4 (nI N) 4 ≤ nI i from nI_ge hi (by omega)), bndx, zhL (show i < 32 by omega), zM_b hm hi, bndx, q_r0 hN hi, bndx, q_r2 hN hi, zc0, nI_1] at hun
    refine hun.trans ?_
    show _ = (FL_holds_60 c_kind c_head c_body c_excepts c_power c_beats c_facts (nI N) c_shut v_allFor tf x1 (nI q)) kt60 n x5 mine x7 (zi (a || zpSr c_kind c_head c_body of tf q i)) (zi (b && !zpN c_kind c_head c_body of tf q i)) (zi (c || aFrc c_kind c_head c_body c_excepts of tf q i)) (zi (d && !aUnf c_kind c_head c_body c_excepts of tf q i)) (nI (i + 1))
    unfold zpSr zpN aFrc aUnf aStr aFwd
    cases cf : aFor c_head of i (nI q)
    · rw [if_pos zi_f, Bool.false_and, Bool.false_and, Bool.false_and, Bool.false_and, Bool.false_and, Bool.false_and, Bool.or_false, Bool.or_false, Bool.not_false, Bool.and_true, Bool.and_true]
    · rw [if_neg (show ¬ zi true = 0 by decide), Bool.true_and, Bool.true_and]
      by_cases k0 : c_kind i = 0
      · rw [if_pos k0, zif1 (b := aSb c_body tf i) (by
          unfold aSb
          exact decide_eq_true_iff.symm), q_h116 hN hi (hkd i hi), decide_eq_true k0, Bool.true_and, Bool.true_and, Bool.not_not]
      · rw [if_neg k0, q_h143 hN hi (hkd i hi), decide_eq_false k0, Bool.false_and, Bool.false_and, Bool.or_false, Bool.not_false, Bool.and_true]) 17 0 (zh1 c_kind c_head c_body c_excepts of tf f q 0) (by omega) (by omega) rfl
  subst hs
  refine Eq.trans ?_ e
  show _ = (FL_holds_60 c_kind c_head c_body c_excepts c_power c_beats c_facts (nI N) c_shut v_allFor tf x1 (nI q)) kt60 17 x5 mine x7 (zi (f || false)) (zi (!f && !false)) (zi false) (zi (!false)) (nI 0)
  rw [Bool.or_false, Bool.not_false, Bool.and_true]
  rfl
/-- a rule of the other side: is it answered, by one that applies; is it beaten, by one that does not fall -/
theorem q_h234 {rc196 : (Int32) → (Int32) → (Int32) → (Int32) → (Int32) → (Int32) → (Int32) → (Int32) → (Int32) → (Int32) → (Int32)} {kt196 : (Int32) → (Int32) → (Int32) → (Int32) → (Int32) → (Int32) → (Int32) → (Int32)} {kt234 : (Int32) → (Int32) → (Int32) → (Int32) → (Int32) → (Int32) → (Int32) → (Int32) → (Int32) → (Int32) → (Int32) → (Int32) → (Int32)} {q j : Nat} {x1 x5 x7 x8 x9 x10 x11 x12 x13 mine : Int32} {of : Nat → Int32} {f : Bool} (hN : N ≤ 16) (hj : j < N) (hkd : ∀ r : Nat, r < N → c_kind r = 0 ∨ c_kind r = 1 ∨ c_kind r = 2) (hb : ∀ r : Nat, r < N → ∀ o, zb (c_beats r) o = true → o < N ∧ o ≠ r) (hm : zM mine N (fun r => aFor c_head of r (nI q))) : (FL_holds_234 c_kind c_head c_body c_excepts c_power c_beats c_facts (nI N) c_shut v_allFor tf x1 (nI q)) rc196 kt196 kt234 17 x5 mine x7 x8 x9 x10 x11 x12 x13 (nI j) (zi f) 0 0 = kt234 x5 mine x7 x8 x9 x10 x11 x12 x13 (nI j) (zi (f || zex (fun r => aFrc c_kind c_head c_body c_excepts of tf q r && aAbv c_power c_beats r j) N)) (zi (zex (fun r => aUnf c_kind c_head c_body c_excepts of tf q r && aAbv c_power c_beats r j) N)) := by
  obtain ⟨s, hs, e⟩ := zloopI (S := Int32 × Int32) (L := fun n i s => (FL_holds_234 c_kind c_head c_body c_excepts c_power c_beats c_facts (nI N) c_shut v_allFor tf x1 (nI q)) rc196 kt196 kt234 n x5 mine x7 x8 x9 x10 x11 x12 x13 (nI j) s.1 s.2 i) (kt := fun s => kt234 x5 mine x7 x8 x9 x10 x11 x12 x13 (nI j) s.1 s.2) N (I := fun i s => s = (zi (f || zex (fun r => aFrc c_kind c_head c_body c_excepts of tf q r && aAbv c_power c_beats r j) i), zi (zex (fun r => aUnf c_kind c_head c_body c_excepts of tf q r && aAbv c_power c_beats r j) i))) (by
    intro n s _
    have hun : (FL_holds_234 c_kind c_head c_body c_excepts c_power c_beats c_facts (nI N) c_shut v_allFor tf x1 (nI q)) rc196 kt196 kt234 (n + 1) x5 mine x7 x8 x9 x10 x11 x12 x13 (nI j) s.1 s.2 (nI N) = _ := FL_holds_234.eq_2 ..
    rw [bndx, if_pos (show FX8_count_4 (nI N) 4 ≤ nI N from nI_le (Nat.le_refl N) (by omega))] at hun
    exact hun) (by
    intro n i s hi hs
    subst hs
    refine ⟨_, rfl, ?_⟩
    show (FL_holds_234 c_kind c_head c_body c_excepts c_power c_beats c_facts (nI N) c_shut v_allFor tf x1 (nI q)) rc196 kt196 kt234 (n + 1) x5 mine x7 x8 x9 x10 x11 x12 x13 (nI j) (zi (f || zex (fun r => aFrc c_kind c_head c_body c_excepts of tf q r && aAbv c_power c_beats r j) i)) (zi (zex (fun r => aUnf c_kind c_head c_body c_excepts of tf q r && aAbv c_power c_beats r j) i)) (nI i) = (FL_holds_234 c_kind c_head c_body c_excepts c_power c_beats c_facts (nI N) c_shut v_allFor tf x1 (nI q)) rc196 kt196 kt234 n x5 mine x7 x8 x9 x10 x11 x12 x13 (nI j) (zi (f || (zex (fun r => aFrc c_kind c_head c_body c_excepts of tf q r && aAbv c_power c_beats r j) i || (aFrc c_kind c_head c_body c_excepts of tf q i && aAbv c_power c_beats i j)))) (zi (zex (fun r => aUnf c_kind c_head c_body c_excepts of tf q r && aAbv c_power c_beats r j) i || (aUnf c_kind c_head c_body c_excepts of tf q i && aAbv c_power c_beats i j))) (nI (i + 1))
    rw [← Bool.or_assoc]
    generalize (f || zex (fun r => aFrc c_kind c_head c_body c_excepts of tf q r && aAbv c_power c_beats r j) i) = a
    generalize zex (fun r => aUnf c_kind c_head c_body c_excepts of tf q r && aAbv c_power c_beats r j) i = b
    have hun : (FL_holds_234 c_kind c_head c_body c_excepts c_power c_beats c_facts (nI N) c_shut v_allFor tf x1 (nI q)) rc196 kt196 kt234 (n + 1) x5 mine x7 x8 x9 x10 x11 x12 x13 (nI j) (zi a) (zi b) (nI i) = _ := FL_holds_234.eq_2 ..
    rw [bndx, if_neg (show ¬ FX8_count_4 (nI N) 4 ≤ nI i from nI_ge hi (by omega)), bndx, zhL (show i < 32 by omega), zM_b hm hi, bndx, q_r0 hN hi, bndx, bndx, zhL (show j < 32 by omega), zM_b (q_r7 hN hi (hb i hi)) hj, bndx, q_app hN hi, bndx, q_fal hN hi, nI_1] at hun
    refine hun.trans ?_
    unfold aFrc aUnf aFwd
    cases cf : aFor c_head of i (nI q)
    · rw [if_pos zi_f, Bool.false_and, Bool.false_and, Bool.false_and, Bool.false_and, Bool.or_false, Bool.false_and, Bool.or_false]
    · rw [if_neg (show ¬ zi true = 0 by decide), Bool.true_and]
      have h2 : (c_kind i = 2 ∧ decide (2 ≤ c_kind i) = true) ∨ (¬ c_kind i = 2 ∧ decide (2 ≤ c_kind i) = false) := by
        rcases hkd i hi with h | h | h
        · exact Or.inr ⟨by rw [h]; decide, by rw [h]; decide⟩
        · exact Or.inr ⟨by rw [h]; decide, by rw [h]; decide⟩
        · exact Or.inl ⟨h, by rw [h]; decide⟩
      rcases h2 with ⟨h, e2⟩ | ⟨h, e2⟩
      · rw [if_pos h, e2, Bool.not_true, Bool.false_and, Bool.false_and, Bool.false_and, Bool.or_false, Bool.false_and, Bool.or_false]
      · rw [if_neg h, e2, Bool.not_false, Bool.true_and, Bool.true_and]
        cases ca : aAbv c_power c_beats i j
        · rw [if_pos zi_f, Bool.and_false, Bool.and_false, Bool.or_false, Bool.or_false]
        · rw [if_neg (show ¬ zi true = 0 by decide), Bool.and_true, Bool.and_true, zi_or]
          cases aFal c_body c_excepts tf i
          · rw [if_pos zi_f, show (1 : Int32) = zi true from rfl, zi_or] <;> rfl
          · rw [if_neg (show ¬ zi true = 0 by decide), show (0 : Int32) = zi false from rfl, zi_or] <;> rfl) 17 0 (zi (f || false), zi false) (by omega) (by omega) rfl
  subst hs
  refine Eq.trans ?_ e
  show _ = (FL_holds_234 c_kind c_head c_body c_excepts c_power c_beats c_facts (nI N) c_shut v_allFor tf x1 (nI q)) rc196 kt196 kt234 17 x5 mine x7 x8 x9 x10 x11 x12 x13 (nI j) (zi (f || false)) (zi false) (nI 0)
  rw [Bool.or_false]
  rfl
theorem zthr_eq {hd bd ex sg of ov kd K : Nat → Int32} {q r : Nat} : (aFor hd of r (nI (aOth q)) && !(aFal bd ex K r || zex (fun s => aFrc kd hd bd ex of K q s && aAbv sg ov s r) N)) = aThr kd hd bd ex sg of ov N K q r := by
  unfold aThr
  rw [zex_E, Bool.not_or, Bool.and_assoc]
theorem q_h196 {kt196 : (Int32) → (Int32) → (Int32) → (Int32) → (Int32) → (Int32) → (Int32) → (Int32)} {q : Nat} {x1 x5 x8 x9 x10 x11 mine its : Int32} {of : Nat → Int32} (hN : N ≤ 16) (hkd : ∀ r : Nat, r < N → c_kind r = 0 ∨ c_kind r = 1 ∨ c_kind r = 2) (hb : ∀ r : Nat, r < N → ∀ o, zb (c_beats r) o = true → o < N ∧ o ≠ r) (hm : zM mine N (fun r => aFor c_head of r (nI q))) (hi : zM its N (fun r => aFor c_head of r (nI (aOth q)))) : (FL_holds_196 c_kind c_head c_body c_excepts c_power c_beats c_facts (nI N) c_shut v_allFor tf x1 (nI q)) kt196 17 x5 mine its x8 x9 x10 x11 1 0 0 = kt196 x5 x8 x9 x10 x11 (zi (!zE (aThr c_kind c_head c_body c_excepts c_power of c_beats N tf q) N)) (zi (zE (aVic c_kind c_head c_body c_excepts c_power of c_beats N tf q) N)) := by
  rw [← zex_E, ← zex_E]
  obtain ⟨s, hs, e⟩ := zloopI (S := Int32 × Int32) (L := fun n i s => (FL_holds_196 c_kind c_head c_body c_excepts c_power c_beats c_facts (nI N) c_shut v_allFor tf x1 (nI q)) kt196 n x5 mine its x8 x9 x10 x11 s.1 s.2 i) (kt := fun s => kt196 x5 x8 x9 x10 x11 s.1 s.2) N (I := fun i s => s = (zi (!zex (aThr c_kind c_head c_body c_excepts c_power of c_beats N tf q) i), zi (zex (aVic c_kind c_head c_body c_excepts c_power of c_beats N tf q) i))) (by
    intro n s _
    have hun : (FL_holds_196 c_kind c_head c_body c_excepts c_power c_beats c_facts (nI N) c_shut v_allFor tf x1 (nI q)) kt196 (n + 1) x5 mine its x8 x9 x10 x11 s.1 s.2 (nI N) = _ := FL_holds_196.eq_2 ..
    rw [bndx, if_pos (show FX8_count_4 (nI N) 4 ≤ nI N from nI_le (Nat.le_refl N) (by omega))] at hun
    exact hun) (by
    intro n i s hi2 hs
    subst hs
    refine ⟨_, rfl, ?_⟩
    show (FL_holds_196 c_kind c_head c_body c_excepts c_power c_beats c_facts (nI N) c_shut v_allFor tf x1 (nI q)) kt196 (n + 1) x5 mine its x8 x9 x10 x11 (zi (!zex (aThr c_kind c_head c_body c_excepts c_power of c_beats N tf q) i)) (zi (zex (aVic c_kind c_head c_body c_excepts c_power of c_beats N tf q) i)) (nI i) = (FL_holds_196 c_kind c_head c_body c_excepts c_power c_beats c_facts (nI N) c_shut v_allFor tf x1 (nI q)) kt196 n x5 mine its x8 x9 x10 x11 (zi (!(zex (aThr c_kind c_head c_body c_excepts c_power of c_beats N tf q) i || aThr c_kind c_head c_body c_excepts c_power of c_beats N tf q i))) (zi (zex (aVic c_kind c_head c_body c_excepts c_power of c_beats N tf q) i || aVic c_kind c_head c_body c_excepts c_power of c_beats N tf q i)) (nI (i + 1))
    rw [Bool.not_or]
    generalize (!zex (aThr c_kind c_head c_body c_excepts c_power of c_beats N tf q) i) = a
    generalize zex (aVic c_kind c_head c_body c_excepts c_power of c_beats N tf q) i = b
    have hun : (FL_holds_196 c_kind c_head c_body c_excepts c_power c_beats c_facts (nI N) c_shut v_allFor tf x1 (nI q)) kt196 (n + 1) x5 mine its x8 x9 x10 x11 (zi a) (zi b) (nI i) = _ := FL_holds_196.eq_2 ..
    rw [bndx, if_neg (show ¬ FX8_count_4 (nI N) 4 ≤ nI i from nI_ge hi2 (by omega)), bndx, zhL (show i < 32 by omega), zM_b hi hi2, bndx, q_fal hN hi2, nI_1, q_h234 hN hi2 hkd hb hm] at hun
    refine hun.trans ?_
    rw [← zthr_eq]
    unfold aVic
    rw [← zex_E]
    cases cf : aFor c_head of i (nI (aOth q))
    · rw [if_pos zi_f, Bool.false_and, Bool.false_and, Bool.false_and, Bool.or_false, Bool.not_false, Bool.and_true]
    · rw [if_neg (show ¬ zi true = 0 by decide), Bool.true_and, Bool.true_and, Bool.not_not]
      unfold FL_holds_322 FL_holds_350
      rw [bndx, q_app hN hi2, nI_1, zi_and]
      generalize zex (fun s => aUnf c_kind c_head c_body c_excepts of tf q s && aAbv c_power c_beats s i) N = u
      cases aApp c_body c_excepts tf i
      · rw [if_pos zi_f, show (0 : Int32) = zi false from rfl, zi_or] <;> rfl
      · rw [if_neg (show ¬ zi true = 0 by decide)]
        cases u
        · rw [if_pos zi_f, show (1 : Int32) = zi true from rfl, zi_or] <;> rfl
        · rw [if_neg (show ¬ zi true = 0 by decide), show (0 : Int32) = zi false from rfl, zi_or] <;> rfl) 17 0 (zi (!false), zi false) (by omega) (by omega) rfl
  subst hs
  exact e
theorem q_holds {of : Nat → Int32} {t q : Nat} (hN : N ≤ 16) (ht : t < 4) (hq : q < 20) (hkd : ∀ r : Nat, r < N → c_kind r = 0 ∨ c_kind r = 1 ∨ c_kind r = 2) (hb : ∀ r : Nat, r < N → ∀ o, zb (c_beats r) o = true → o < N ∧ o ≠ r) (hal : ∀ q : Nat, q < 20 → zM (v_allFor q) N (fun r => aFor c_head of r (nI q))) : (FL_holds c_kind c_head c_body c_excepts c_power c_beats c_facts (nI N) c_shut v_allFor tf (nI t) (nI q)) = zi (aHolds c_kind c_head c_body c_excepts c_power of c_beats c_facts N tf t q) := by
  have ho := aOth_lt hq
  unfold FL_holds
  rw [bndx, bndx, bndx, bndx, show FX8_count_0 c_facts 0 = c_facts from rfl, zhL (show q < 32 by omega), q_oth hq, q_for hq, q_for ho]
  have key : ∀ k0 : Int32, k0 = zi (!zb c_facts q) → (FL_holds_49 c_kind c_head c_body c_excepts c_power c_beats c_facts (nI N) c_shut v_allFor tf (nI t) (nI q)) (nI (aOth q)) (v_allFor q) (v_allFor (aOth q)) (zi (zb c_facts q)) k0 = zi (aHolds c_kind c_head c_body c_excepts c_power of c_beats c_facts N tf t q) := by
    intro k0 hk0
    subst hk0
    unfold FL_holds_49
    rw [q_h60 hN hkd (hal q hq)]
    unfold FL_holds_187
    rw [q_h196 hN hkd hb (hal q hq) (hal (aOth q) ho)]
    unfold FL_holds_360
    rw [bndx, bndx, bndx, bndx, zc0, zc1, zhL (show q < 32 by omega), zhL (show q < 32 by omega), zhL (show aOth q < 32 by omega), zhL (show aOth q < 32 by omega)]
    unfold zh1
    rw [zex_E, zex_E, zex_E, zex_E]
    match t, ht with
    | 0, _ =>
      rw [if_pos (show nI 0 = (0 : Int32) from rfl)]
      rfl
    | 1, _ =>
      rw [if_neg (show ¬ nI 1 = (0 : Int32) by decide), if_pos (show nI 1 = (1 : Int32) from rfl)]
      rfl
    | 2, _ =>
      rw [if_neg (show ¬ nI 2 = (0 : Int32) by decide), if_neg (show ¬ nI 2 = (1 : Int32) by decide), if_pos (show nI 2 = (2 : Int32) from rfl)]
      show _ = zi (aLikely c_kind c_head c_body c_excepts c_power of c_beats N tf q)
      unfold aLikely
      cases zb (tf 0) q
      · rw [if_pos zi_f]
        cases zE (aFrc c_kind c_head c_body c_excepts of tf q) N
        · rw [if_pos zi_f, Bool.and_false]; rfl
        · rw [if_neg (show ¬ zi true = 0 by decide)]
          cases zb (tf 1) (aOth q)
          · rw [if_pos zi_f]; rfl
          · rw [if_neg (show ¬ zi true = 0 by decide)]
            cases zE (aThr c_kind c_head c_body c_excepts c_power of c_beats N tf q) N
            · rw [if_neg (show ¬ zi (!false) = 0 by decide)]; rfl
            · rw [if_pos (show zi (!true) = 0 by decide)]; rfl
      · rw [if_neg (show ¬ zi true = 0 by decide)]; rfl
    | 3, _ =>
      rw [if_neg (show ¬ nI 3 = (0 : Int32) by decide), if_neg (show ¬ nI 3 = (1 : Int32) by decide), if_neg (show ¬ nI 3 = (2 : Int32) by decide)]
      show _ = zi (aUnlikely c_kind c_head c_body c_excepts c_power of c_beats N tf q)
      unfold aUnlikely
      cases zb (tf 1) q
      · rw [if_pos zi_f]; rfl
      · rw [if_neg (show ¬ zi true = 0 by decide)]
        cases zE (aUnf c_kind c_head c_body c_excepts of tf q) N
        · rw [if_neg (show ¬ zi (!false) = 0 by decide)]; rfl
        · rw [if_pos (show zi (!true) = 0 by decide)]
          cases zb (tf 0) (aOth q)
          · rw [if_pos zi_f]
            cases zE (aVic c_kind c_head c_body c_excepts c_power of c_beats N tf q) N
            · rw [if_pos zi_f]; rfl
            · rw [if_neg (show ¬ zi true = 0 by decide)]; rfl
          · rw [if_neg (show ¬ zi true = 0 by decide)]; rfl
  cases hf : zb c_facts q
  · rw [if_pos zi_f]
    rw [hf] at key
    exact key 1 rfl
  · rw [if_neg (show ¬ zi true = 0 by decide)]
    rw [hf] at key
    exact key 0 rfl
end ZHOLDS
