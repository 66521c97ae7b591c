/-! the class's rules, masks, sentences -/
def zSame (N : Nat) (ck ch cb ce cp cv : Nat → Int32) (cs : Int32) (kd hd bd ex sg of ov : Nat → Int32) : Prop := ∀ r : Nat, r < N → ck r = kd r ∧ ch r = hd r ∧ cb r = bd r ∧ ce r = ex r ∧ cp r = sg r ∧ cv r = ov r ∧ of r = zi (zb cs r)
/-- what holds of every court's rules -/
def zVal (N : Nat) (kd hd bd ex sg ov : Nat → Int32) : Prop := ∀ r : Nat, r < N → (kd r = 0 ∨ kd r = 1 ∨ kd r = 2) ∧ (∃ j : Nat, j < 20 ∧ hd r = nI j) ∧ (∀ q, 20 ≤ q → zb (bd r) q = false) ∧ (∀ q, 20 ≤ q → zb (ex r) q = false) ∧ (∃ j : Nat, j < 10 ∧ sg r = nI j) ∧ ∀ o, zb (ov r) o = true → o < N ∧ o ≠ r
theorem zM_and {a b : Int32} {N : Nat} {p p' : Nat → Bool} (h : zM a N p) (h' : zM b N p') : zM (a &&& b) N (fun r => p r && p' r) := fun q => by
  rw [zb_and, h q, h' q]
  show _ = (decide (q < N) && (p q && p' q))
  cases decide (q < N) <;> cases p q <;> cases p' q <;> rfl
theorem zM_andn {a b : Int32} {N : Nat} {p p' : Nat → Bool} (hN : N ≤ 32) (h : zM a N p) (h' : zM b N p') : zM (a &&& (b ^^^ (-1))) N (fun r => p r && !p' r) := fun q => by
  by_cases c : q < N
  · rw [zb_and, zb_not (by omega), h q, h' q, decide_eq_true c]
    show _ = (true && (p q && !p' q))
    cases p q <;> cases p' q <;> rfl
  · rw [zb_and, h q, decide_eq_false c]; rfl
theorem zM_upd {s : Nat → Int32} {i j q : Nat} {p : Nat → Bool} (h : zM (s q) i p) (hi : i < 32) (hp : p i = decide (j = q)) : zM (upd s j (s j ||| (1 <<< (nI i &&& 31))) q) (i + 1) p := by
  by_cases e : q = j
  · subst e
    rw [pk_us]
    exact zM_y h hi (by rw [hp]; exact decide_eq_true rfl)
  · rw [pk_un e]
    exact zM_n h (by rw [hp]; exact decide_eq_false (fun z => e z.symm))
section ZCLS
variable {c_facts c_shut v_facts v_applies v_falls v_sureBodies v_neverBodies : Int32} {c_kind c_head c_body c_excepts c_power c_beats v_known v_fresh v_strictFor v_forwardFor v_allFor v_above : Nat → Int32} {N : Nat}
theorem k_isTold {r o : Nat} (hr : r < 16) (ho : o < 16) : (FX0_isTold c_beats (nI r) (nI o)) = zi (zb (c_beats r) o || zb (c_beats o) r) := by
  unfold FX0_isTold
  simp only [bnd, zh8 (show o < 32 by omega), zh8 (show r < 32 by omega), zi0, nI_clamp (show r < 2 ^ 31 by omega), nI_clamp (show o < 2 ^ 31 by omega)]
  cases zb (c_beats r) o
  · cases zb (c_beats o) r <;> rfl
  · rfl
theorem k_rulesBelow {r : Nat} (hN : N ≤ 16) (hr : r < N) (hb : ∀ o, zb (c_beats r) o = true → o < N ∧ o ≠ r) : zM (FX0_rulesBelow c_power c_beats (nI N) (nI r)) N (aAbv c_power c_beats r) := by
  obtain ⟨s, hs, e⟩ := zloopI (L := fun n x s => (FX0_rulesBelow_9 c_power c_beats (nI N) (nI r)) ((FX0_rulesBelow_53 c_power c_beats (nI N) (nI r))) n s x) (kt := fun s => s) N (I := fun i s => ∀ o, zb s o = (zb (c_beats r) o || (decide (o < i) && aAbv c_power c_beats r o))) (by
    intro n s _
    show (FX0_rulesBelow_9 c_power c_beats (nI N) (nI r)) _ (n + 1) s (nI N) = s
    rw [FX0_rulesBelow_9, if_pos (nI_le (Nat.le_refl N) (by omega))]; rfl) (by
    intro n i s hi h
    show ∃ s' : Int32, _ ∧ (FX0_rulesBelow_9 c_power c_beats (nI N) (nI r)) ((FX0_rulesBelow_53 c_power c_beats (nI N) (nI r))) (n + 1) s (nI i) = (FX0_rulesBelow_9 c_power c_beats (nI N) (nI r)) ((FX0_rulesBelow_53 c_power c_beats (nI N) (nI r))) n s' (nI (i + 1))
    rw [FX0_rulesBelow_9, if_neg (nI_ge hi (by omega))]
    simp only [bnd, k_isTold (show r < 16 by omega) (show i < 16 by omega), zi0, nI_1, nI_clamp (show r < 2 ^ 31 by omega), nI_clamp (show i < 2 ^ 31 by omega)]
    have hno : ∀ b : Bool, aAbv c_power c_beats r i = b → (b = true → zb (c_beats r) i = true) → ∀ o, zb s o = (zb (c_beats r) o || (decide (o < i + 1) && aAbv c_power c_beats r o)) := by
      intro b hb1 hb2 o
      rw [h o]
      rcases Nat.lt_trichotomy o i with c | c | c
      · rw [decide_eq_true c, decide_eq_true (show o < i + 1 by omega)]
      · subst c
        rw [decide_eq_false (Nat.lt_irrefl o), decide_eq_true (Nat.lt_succ_self o), hb1]
        cases b
        · rfl
        · rw [hb2 rfl]; rfl
      · rw [decide_eq_false (show ¬ o < i by omega), decide_eq_false (show ¬ o < i + 1 by omega)]
    by_cases hp : c_power r ≤ c_power i
    · rw [if_pos hp]
      refine ⟨s, hno _ rfl (fun ha => ?_), rfl⟩
      unfold aAbv at ha
      rw [decide_eq_true hp] at ha
      cases h1 : zb (c_beats r) i
      · rw [h1] at ha
        cases h2 : zb (c_beats i) r
        · rw [h2] at ha; exact absurd ha (by decide)
        · rw [h2] at ha; exact absurd ha (by decide)
      · rfl
    · rw [if_neg hp]
      cases h1 : zb (c_beats r) i
      · cases h2 : zb (c_beats i) r
        · refine ⟨s ||| (1 <<< (nI i &&& 31)), fun o => ?_, rfl⟩
          have ha : aAbv c_power c_beats r i = true := by unfold aAbv; rw [h1, h2, decide_eq_false hp]; rfl
          rw [zb_or, zb_one (show i < 32 by omega), h o]
          rcases Nat.lt_trichotomy o i with c | c | c
          · rw [decide_eq_true c, decide_eq_true (show o < i + 1 by omega), decide_eq_false (Nat.ne_of_lt c), Bool.or_false]
          · subst c
            rw [decide_eq_true rfl, decide_eq_true (Nat.lt_succ_self o), ha, Bool.or_true]
            cases zb (c_beats r) o <;> rfl
          · rw [decide_eq_false (show ¬ o < i by omega), decide_eq_false (show ¬ o < i + 1 by omega), decide_eq_false (show ¬ o = i by omega), Bool.or_false]
        · refine ⟨s, hno _ rfl (fun ha => ?_), rfl⟩
          unfold aAbv at ha
          rw [h1, h2] at ha; exact absurd ha (by simp)
      · exact ⟨s, hno _ rfl (fun _ => h1), rfl⟩) 17 0 (c_beats r) (by omega) (by omega) (fun o => by rw [decide_eq_false (Nat.not_lt_zero o)]; cases zb (c_beats r) o <;> rfl)
  unfold FX0_rulesBelow
  rw [nI_clamp (show r < 2 ^ 31 by omega)]
  intro o
  rw [show (0 : Int32) = nI 0 from rfl, e, hs o]
  cases h1 : zb (c_beats r) o
  · rfl
  · have h2 := hb o h1
    rw [decide_eq_true h2.1]
    have ha : aAbv c_power c_beats r o = true := by unfold aAbv; rw [h1]; rfl
    rw [ha]; rfl
theorem k_enterRule {x k : Int32} {j : Nat} (hj : j < 20) : (FX6_enterRule v_strictFor v_forwardFor v_allFor x k (nI j)) = (if k = 0 then upd v_strictFor j (v_strictFor j ||| x) else v_strictFor, if k = 2 then v_forwardFor else upd v_forwardFor j (v_forwardFor j ||| x), upd v_allFor j (v_allFor j ||| x)) := by
  unfold FX6_enterRule FX6_enterRule_25
  rw [nI_clamp (show j < 2 ^ 31 by omega)]
  by_cases h2 : k = 2
  · rw [if_pos h2, if_pos h2, if_neg (by rw [h2]; decide), if_neg (by rw [h2]; decide)]
  · rw [if_neg h2, if_neg h2]
    by_cases h0 : k = 0
    · rw [if_pos h0, if_pos h0]
    · rw [if_neg h0, if_neg h0]
end ZCLS
/-- a view of a court's rules -/
def zVw (N : Nat) (kd hd sg of ov : Nat → Int32) (fa : Int32) (st fw al ab : Nat → Int32) (vf : Int32) : Prop :=
  vf = fa ∧ (∀ q, q < 20 → zM (st q) N (fun r => aStr kd hd of r (nI q)) ∧ zM (fw q) N (fun r => aFwd kd hd of r (nI q)) ∧ zM (al q) N (fun r => aFor hd of r (nI q))) ∧ ∀ r, r < 16 → zM (ab r) N (fun o => decide (r < N) && aAbv sg ov r o)
/-- what the rules do by the tags that are known -/
def zWg (N : Nat) (bd ex K : Nat → Int32) (ap fl sb nb : Int32) : Prop := zM ap N (aApp bd ex K) ∧ zM fl N (aFal bd ex K) ∧ zM sb N (aSb bd K) ∧ zM nb N (aNb bd K)
theorem aAbv_congr {N r o : Nat} {sg ov sg' ov' : Nat → Int32} (h : ∀ r, r < N → sg r = sg' r ∧ ov r = ov' r) (hr : r < N) (ho : o < N) : aAbv sg ov r o = aAbv sg' ov' r o := by
  unfold aAbv
  rw [(h r hr).1, (h r hr).2, (h o ho).1, (h o ho).2]
theorem zkfin {x : Int32} (h : x = 0 ∨ x = 1 ∨ x = 2) : (!decide (2 ≤ x)) = !decide (x = 2) := by
  rcases h with rfl | rfl | rfl <;> decide
section ZENT
variable {c_facts c_shut v_facts : Int32} {c_kind c_head c_body c_excepts c_power c_beats v_known v_strictFor v_forwardFor v_allFor v_above kd hd bd ex sg of ov : Nat → Int32} {N : Nat}
theorem k_enter (hN : N ≤ 16) (hs : zSame N c_kind c_head c_body c_excepts c_power c_beats c_shut kd hd bd ex sg of ov) (hv : zVal N kd hd bd ex sg ov) : ∃ s : (Nat → Int32) × (Nat → Int32) × (Nat → Int32) × (Nat → Int32) × (Nat → Int32) × Int32, ((∀ t, t < 4 → s.1 t = 0) ∧ zVw N kd hd sg of ov c_facts s.2.1 s.2.2.1 s.2.2.2.1 s.2.2.2.2.1 s.2.2.2.2.2) ∧ (FX6_enter v_known v_strictFor v_forwardFor v_allFor v_above v_facts c_kind c_head c_power c_beats c_facts (nI N) c_shut) = s := by
  have hz : ∀ {n j : Nat} {f : Nat → Int32}, j < n → zfill n 0 f j = 0 := fun h => if_pos h
  obtain ⟨s, hI, e⟩ := zloopI (S := (Nat → Int32) × (Nat → Int32) × (Nat → Int32) × (Nat → Int32) × (Nat → Int32) × Int32) (L := fun n x s => (FX6_enter_50 v_known v_strictFor v_forwardFor v_allFor v_above v_facts c_kind c_head c_power c_beats c_facts (nI N) c_shut) ((FX6_enter_105 v_known v_strictFor v_forwardFor v_allFor v_above v_facts c_kind c_head c_power c_beats c_facts (nI N) c_shut)) n x s.1 s.2.1 s.2.2.1 s.2.2.2.1 s.2.2.2.2.1 s.2.2.2.2.2) (kt := fun s => s) N (I := fun i s => (∀ t, t < 4 → s.1 t = 0) ∧ s.2.2.2.2.2 = c_facts ∧ (∀ q, q < 20 → zM (s.2.1 q) i (fun r => aStr kd hd of r (nI q)) ∧ zM (s.2.2.1 q) i (fun r => aFwd kd hd of r (nI q)) ∧ zM (s.2.2.2.1 q) i (fun r => aFor hd of r (nI q))) ∧ ∀ r, r < 16 → zM (s.2.2.2.2.1 r) N (fun o => decide (r < i) && aAbv sg ov r o)) (by
    intro n s _
    show (FX6_enter_50 v_known v_strictFor v_forwardFor v_allFor v_above v_facts c_kind c_head c_power c_beats c_facts (nI N) c_shut) ((FX6_enter_105 v_known v_strictFor v_forwardFor v_allFor v_above v_facts c_kind c_head c_power c_beats c_facts (nI N) c_shut)) (n + 1) (nI N) s.1 s.2.1 s.2.2.1 s.2.2.2.1 s.2.2.2.2.1 s.2.2.2.2.2 = s
    rw [FX6_enter_50, if_pos (nI_le (Nat.le_refl N) (by omega))]; rfl) (by
    intro n i s hi ⟨h1, h2, h3, h4⟩
    show ∃ s' : (Nat → Int32) × (Nat → Int32) × (Nat → Int32) × (Nat → Int32) × (Nat → Int32) × Int32, _ ∧ (FX6_enter_50 v_known v_strictFor v_forwardFor v_allFor v_above v_facts c_kind c_head c_power c_beats c_facts (nI N) c_shut) ((FX6_enter_105 v_known v_strictFor v_forwardFor v_allFor v_above v_facts c_kind c_head c_power c_beats c_facts (nI N) c_shut)) (n + 1) (nI i) s.1 s.2.1 s.2.2.1 s.2.2.2.1 s.2.2.2.2.1 s.2.2.2.2.2 = (FX6_enter_50 v_known v_strictFor v_forwardFor v_allFor v_above v_facts c_kind c_head c_power c_beats c_facts (nI N) c_shut) ((FX6_enter_105 v_known v_strictFor v_forwardFor v_allFor v_above v_facts c_kind c_head c_power c_beats c_facts (nI N) c_shut)) n (nI (i + 1)) s'.1 s'.2.1 s'.2.2.1 s'.2.2.2.1 s'.2.2.2.2.1 s'.2.2.2.2.2
    obtain ⟨e1, e2, e3, e4, e5, e6, e7⟩ := hs i hi
    obtain ⟨v1, ⟨j, hj, v2⟩, -, -, -, v6⟩ := hv i hi
    have hrb := k_rulesBelow (c_power := c_power) (c_beats := c_beats) hN hi (by rw [e6]; exact v6)
    have hab : ∀ r, r < 16 → zM (upd s.2.2.2.2.1 i (FX0_rulesBelow c_power c_beats (nI N) (nI i)) r) N (fun o => decide (r < i + 1) && aAbv sg ov r o) := by
      intro r hr
      by_cases c : r = i
      · subst c
        rw [pk_us]
        refine zM_ext hrb (fun o ho => ?_)
        rw [decide_eq_true (Nat.lt_succ_self r), Bool.true_and]
        exact aAbv_congr (N := N) (fun r hr => ⟨(hs r hr).2.2.2.2.1, (hs r hr).2.2.2.2.2.1⟩) hi ho
      · rw [pk_un c]
        refine zM_ext (h4 r hr) (fun o _ => ?_)
        by_cases c2 : r < i
        · rw [decide_eq_true c2, decide_eq_true (show r < i + 1 by omega)]
        · rw [decide_eq_false c2, decide_eq_false (show ¬ r < i + 1 by omega)]
    rw [FX6_enter_50, if_neg (nI_ge hi (by omega))]
    simp only [bnd, zh8 (show i < 32 by omega), zi0, nI_1, nI_clamp (show i < 2 ^ 31 by omega)]
    cases hsh : zb c_shut i
    · rw [if_pos rfl, e1, e2, v2, k_enterRule hj]
      refine ⟨(s.1, (if kd i = 0 then upd s.2.1 j (s.2.1 j ||| (1 <<< (nI i &&& 31))) else s.2.1), (if kd i = 2 then s.2.2.1 else upd s.2.2.1 j (s.2.2.1 j ||| (1 <<< (nI i &&& 31)))), upd s.2.2.2.1 j (s.2.2.2.1 j ||| (1 <<< (nI i &&& 31))), upd s.2.2.2.2.1 i (FX0_rulesBelow c_power c_beats (nI N) (nI i)), s.2.2.2.2.2), ?_, rfl⟩
      refine ⟨h1, h2, fun q hq => ?_, hab⟩
      have hfor : aFor hd of i (nI q) = decide (j = q) := by
        unfold aFor
        rw [e7, hsh, v2, show decide (zi false = 0) = true from by decide, Bool.true_and]
        exact decide_eq_decide.mpr (nI_eq (by omega) (by omega))
      obtain ⟨g1, g2, g3⟩ := h3 q hq
      refine ⟨?_, ?_, zM_upd g3 (by omega) hfor⟩
      · show zM ((if kd i = 0 then upd s.2.1 j (s.2.1 j ||| (1 <<< (nI i &&& 31))) else s.2.1) q) _ _
        by_cases c : kd i = 0
        · rw [if_pos c]
          exact zM_upd g1 (by omega) (by show aStr kd hd of i (nI q) = _; unfold aStr; rw [hfor, decide_eq_true c, Bool.and_true])
        · rw [if_neg c]
          exact zM_n g1 (by show aStr kd hd of i (nI q) = _; unfold aStr; rw [decide_eq_false c, Bool.and_false])
      · show zM ((if kd i = 2 then s.2.2.1 else upd s.2.2.1 j (s.2.2.1 j ||| (1 <<< (nI i &&& 31)))) q) _ _
        by_cases c : kd i = 2
        · rw [if_pos c]
          exact zM_n g2 (by show aFwd kd hd of i (nI q) = _; unfold aFwd; rw [zkfin v1, decide_eq_true c]; exact Bool.and_false _)
        · rw [if_neg c]
          exact zM_upd g2 (by omega) (by show aFwd kd hd of i (nI q) = _; unfold aFwd; rw [zkfin v1, hfor, decide_eq_false c]; exact Bool.and_true _)
    · rw [if_neg (by decide)]
      refine ⟨(s.1, s.2.1, s.2.2.1, s.2.2.2.1, upd s.2.2.2.2.1 i (FX0_rulesBelow c_power c_beats (nI N) (nI i)), s.2.2.2.2.2), ?_, rfl⟩
      refine ⟨h1, h2, fun q hq => ?_, hab⟩
      have hfor : aFor hd of i (nI q) = false := by
        unfold aFor
        rw [e7, hsh, show decide (zi true = 0) = false from by decide, Bool.false_and]
      obtain ⟨g1, g2, g3⟩ := h3 q hq
      exact ⟨zM_n g1 (by show aStr kd hd of i (nI q) = _; unfold aStr; rw [hfor]; rfl), zM_n g2 (by show aFwd kd hd of i (nI q) = _; unfold aFwd; rw [hfor]; rfl), zM_n g3 hfor⟩) 17 0 (zfill 4 0 v_known, zfill 20 0 v_strictFor, zfill 20 0 v_forwardFor, zfill 20 0 v_allFor, zfill 16 0 v_above, c_facts) (by omega) (by omega) ⟨fun t ht => hz ht, rfl, fun q hq => by
      dsimp only
      rw [hz hq, hz hq, hz hq]
      exact ⟨zM_0 _, zM_0 _, zM_0 _⟩, fun r hr => by
      dsimp only
      rw [hz hr]
      intro o
      rw [zb_0, decide_eq_false (Nat.not_lt_zero r)]
      cases decide (o < N) <;> rfl⟩
  refine ⟨s, ⟨hI.1, hI.2.1, hI.2.2.1, fun r hr => hI.2.2.2 r hr⟩, ?_⟩
  unfold FX6_enter
  exact e
end ZENT
section ZWEI
variable {v_applies v_falls v_sureBodies v_neverBodies : Int32} {c_body c_excepts v_known bd ex : Nat → Int32} {N : Nat}
theorem zor_if {a x : Int32} {P : Prop} [Decidable P] : (if P then a ||| x else a) = a ||| (if P then x else 0) := by
  by_cases h : P
  · rw [if_pos h, if_pos h]
  · rw [if_neg h, if_neg h, Int32.or_zero]
theorem zM_if {s : Int32} {i : Nat} {p : Nat → Bool} (h : zM s i p) (hi : i < 32) {b : Bool} (hp : p i = b) : zM (if b = true then s ||| (1 <<< (nI i &&& 31)) else s) (i + 1) p := by
  cases b
  · exact zM_n h hp
  · exact zM_y h hi hp
theorem k_weighRule {r : Nat} {x : Int32} : (FX6_weighRule v_known v_applies v_falls v_sureBodies v_neverBodies x (bd r) (ex r)) = (if aApp bd ex v_known r = true then v_applies ||| x else v_applies, if aFal bd ex v_known r = true then v_falls ||| x else v_falls, if aSb bd v_known r = true then v_sureBodies ||| x else v_sureBodies, if aNb bd v_known r = true then v_neverBodies ||| x else v_neverBodies) := by
  unfold FX6_weighRule FX6_weighRule_36 FX6_weighRule_58 FX6_weighRule_68 FX6_weighRule_91 aApp aFal aSb aNb
  simp only [zc0, zc1, zc2, zc3]
  by_cases h1 : bd r &&& (v_known 2 ^^^ (-1)) = 0 <;> by_cases h2 : ex r &&& (v_known 3 ^^^ (-1)) = 0 <;> by_cases h3 : bd r &&& v_known 3 = 0 <;> by_cases h4 : ex r &&& v_known 2 = 0 <;> by_cases h5 : bd r &&& (v_known 0 ^^^ (-1)) = 0 <;> by_cases h6 : bd r &&& v_known 1 = 0 <;> simp only [h1, h2, h3, h4, h5, h6, if_true, if_false, decide_true, decide_false, Bool.and_true, Bool.and_false, Bool.true_and, Bool.false_and, Bool.not_true, Bool.not_false, Bool.false_eq_true]
theorem k_weigh (hN : N ≤ 16) (hb : ∀ r, r < N → c_body r = bd r ∧ c_excepts r = ex r) : ∃ s : Int32 × Int32 × Int32 × Int32, zWg N bd ex v_known s.1 s.2.1 s.2.2.1 s.2.2.2 ∧ (FX6_weigh v_known v_applies v_falls v_sureBodies v_neverBodies c_body c_excepts (nI N)) = s := by
  unfold FX6_weigh
  refine zloopI (S := Int32 × Int32 × Int32 × Int32) (L := fun n x s => (FX6_weigh_22 v_known v_applies v_falls v_sureBodies v_neverBodies c_body c_excepts (nI N)) ((FX6_weigh_55 v_known v_applies v_falls v_sureBodies v_neverBodies c_body c_excepts (nI N))) n x s.1 s.2.1 s.2.2.1 s.2.2.2) (kt := fun s => s) N (I := fun i s => zWg i bd ex v_known s.1 s.2.1 s.2.2.1 s.2.2.2) ?_ ?_ 17 0 ((0 : Int32), (0 : Int32), (0 : Int32), (0 : Int32)) (by omega) (by omega) ⟨zM_0 _, zM_0 _, zM_0 _, zM_0 _⟩
  · intro n s _
    show (FX6_weigh_22 v_known v_applies v_falls v_sureBodies v_neverBodies c_body c_excepts (nI N)) ((FX6_weigh_55 v_known v_applies v_falls v_sureBodies v_neverBodies c_body c_excepts (nI N))) (n + 1) (nI N) s.1 s.2.1 s.2.2.1 s.2.2.2 = s
    rw [FX6_weigh_22, if_pos (nI_le (Nat.le_refl N) (by omega))]; rfl
  · intro n i s hi ⟨h1, h2, h3, h4⟩
    show ∃ s' : Int32 × Int32 × Int32 × Int32, _ ∧ (FX6_weigh_22 v_known v_applies v_falls v_sureBodies v_neverBodies c_body c_excepts (nI N)) ((FX6_weigh_55 v_known v_applies v_falls v_sureBodies v_neverBodies c_body c_excepts (nI N))) (n + 1) (nI i) s.1 s.2.1 s.2.2.1 s.2.2.2 = (FX6_weigh_22 v_known v_applies v_falls v_sureBodies v_neverBodies c_body c_excepts (nI N)) ((FX6_weigh_55 v_known v_applies v_falls v_sureBodies v_neverBodies c_body c_excepts (nI N))) n (nI (i + 1)) s'.1 s'.2.1 s'.2.2.1 s'.2.2.2
    rw [FX6_weigh_22, if_neg (nI_ge hi (by omega))]
    simp only [bnd, nI_1, nI_clamp (show i < 2 ^ 31 by omega), (hb i hi).1, (hb i hi).2, k_weighRule]
    exact ⟨(_, _, _, _), ⟨zM_if h1 (by omega) rfl, zM_if h2 (by omega) rfl, zM_if h3 (by omega) rfl, zM_if h4 (by omega) rfl⟩, rfl⟩
end ZWEI

