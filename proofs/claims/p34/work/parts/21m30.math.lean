/-! both sides of each literal, read by the law -/
section ZSEG8
variable {c_kind c_head c_body c_excepts c_power c_beats v_known v_strictFor v_forwardFor v_allFor v_above tf ab of : Nat → Int32} {c_facts c_shut v_facts v_applies v_falls sb nb : Int32} {N : Nat}
theorem q_s902 {rc886 : (Int32) → (Int32)} {kt886 : (Int32)} {kt902 : (Int32) → (Int32) → (Int32) → (Int32)} {q : Nat} {x14 : Int32} (hN : N ≤ 16) (hq : q < 20) (hal : ∀ q : Nat, q < 20 → zM (v_allFor q) N (fun r => aFor c_head of r (nI q))) : ∃ x : Int32, zM x N (aFrc c_kind c_head c_body c_excepts of tf q) ∧ (FL_law_8_902 c_kind c_head c_body c_excepts c_power c_beats (nI N) c_shut v_forwardFor v_allFor v_above v_applies v_falls tf ab (nI N)) rc886 kt886 kt902 17 (nI q) 0 x14 0 = kt902 (nI q) x x14 := by
  obtain ⟨s, hs, e⟩ := zloopI (L := fun n i s => (FL_law_8_902 c_kind c_head c_body c_excepts c_power c_beats (nI N) c_shut v_forwardFor v_allFor v_above v_applies v_falls tf ab (nI N)) rc886 kt886 kt902 n (nI q) s x14 i) (kt := fun s => kt902 (nI q) s x14) N (I := fun i s => zM s i (aFrc c_kind c_head c_body c_excepts of tf q)) (by
    intro n s _
    have hun : (FL_law_8_902 c_kind c_head c_body c_excepts c_power c_beats (nI N) c_shut v_forwardFor v_allFor v_above v_applies v_falls tf ab (nI N)) rc886 kt886 kt902 (n + 1) (nI q) s x14 (nI N) = _ := FL_law_8_902.eq_2 ..
    rw [if_pos (show nI N ≤ nI N from nI_le (Nat.le_refl N) (by omega))] at hun
    exact hun) (by
    intro n r s hr hs
    have hun : (FL_law_8_902 c_kind c_head c_body c_excepts c_power c_beats (nI N) c_shut v_forwardFor v_allFor v_above v_applies v_falls tf ab (nI N)) rc886 kt886 kt902 (n + 1) (nI q) s x14 (nI r) = _ := FL_law_8_902.eq_2 ..
    rw [if_neg (show ¬ nI N ≤ nI r from nI_ge hr (by omega)), bndx, q_for hq, bndx, zhL (show r < 32 by omega), zM_b (hal q hq) hr, bndx, q_r0 hN hr, bndx, q_app hN hr, nI_1] at hun
    show ∃ s' : Int32, _ ∧ (FL_law_8_902 c_kind c_head c_body c_excepts c_power c_beats (nI N) c_shut v_forwardFor v_allFor v_above v_applies v_falls tf ab (nI N)) rc886 kt886 kt902 (n + 1) (nI q) s x14 (nI r) = (FL_law_8_902 c_kind c_head c_body c_excepts c_power c_beats (nI N) c_shut v_forwardFor v_allFor v_above v_applies v_falls tf ab (nI N)) rc886 kt886 kt902 n (nI q) s' x14 (nI (r + 1))
    rw [hun]
    have hf : aFrc c_kind c_head c_body c_excepts of tf q r = ((aFor c_head of r (nI q) && !decide (2 ≤ c_kind r)) && aApp c_body c_excepts tf r) := rfl
    cases h1 : aFor c_head of r (nI q)
    · rw [if_pos zi_f]
      exact ⟨s, zM_n hs (by rw [hf, h1]; rfl), rfl⟩
    · rw [if_neg (show ¬ zi true = 0 by decide)]
      by_cases h2 : 2 ≤ c_kind r
      · rw [if_pos h2]
        exact ⟨s, zM_n hs (by rw [hf, decide_eq_true h2, Bool.not_true, Bool.and_false]; rfl), rfl⟩
      · rw [if_neg h2]
        cases h3 : aApp c_body c_excepts tf r
        · rw [if_pos zi_f]
          exact ⟨s, zM_n hs (by rw [hf, h3, Bool.and_false]), rfl⟩
        · rw [if_neg (show ¬ zi true = 0 by decide)]
          exact ⟨_, zM_y hs (by omega) (by rw [hf, h1, h3, decide_eq_false h2]; rfl), rfl⟩) 17 0 0 (by omega) (by omega) (zM_0 _)
  exact ⟨s, hs, e⟩
theorem q_s979 {rc886 : (Int32) → (Int32)} {kt886 : (Int32)} {rc961 : (Int32) → (Int32) → (Int32) → (Int32) → (Int32)} {kt961 : (Int32) → (Int32) → (Int32) → (Int32)} {kt979 : (Int32) → (Int32) → (Int32) → (Int32) → (Int32) → (Int32)} {q r : Nat} {x14 team : Int32} {f : Bool} {p : Nat → Bool} (hN : N ≤ 16) (hr : r < N) (ht : zM team N p) (hab : ∀ r : Nat, r < N → zM (ab r) N (aAbv c_power c_beats r)) : (FL_law_8_979 c_kind c_head c_body c_excepts c_power c_beats (nI N) c_shut v_forwardFor v_allFor v_above v_applies v_falls tf ab (nI N)) rc886 kt886 rc961 kt961 kt979 17 (nI q) team x14 (nI r) (zi f) 0 = kt979 (nI q) team x14 (nI r) (zi (f || zex (fun s => p s && aAbv c_power c_beats s r) N)) := by
  obtain ⟨s, hs, e⟩ := zloopI (L := fun n j s => (FL_law_8_979 c_kind c_head c_body c_excepts c_power c_beats (nI N) c_shut v_forwardFor v_allFor v_above v_applies v_falls tf ab (nI N)) rc886 kt886 rc961 kt961 kt979 n (nI q) team x14 (nI r) s j) (kt := fun s => kt979 (nI q) team x14 (nI r) s) N (I := fun j s => s = zi (f || zex (fun s => p s && aAbv c_power c_beats s r) j)) (by
    intro n s _
    have hun : (FL_law_8_979 c_kind c_head c_body c_excepts c_power c_beats (nI N) c_shut v_forwardFor v_allFor v_above v_applies v_falls tf ab (nI N)) rc886 kt886 rc961 kt961 kt979 (n + 1) (nI q) team x14 (nI r) s (nI N) = _ := FL_law_8_979.eq_2 ..
    rw [if_pos (show nI N ≤ nI N from nI_le (Nat.le_refl N) (by omega))] at hun
    exact hun) (by
    intro n j s hj hs
    subst hs
    refine ⟨_, rfl, ?_⟩
    show (FL_law_8_979 c_kind c_head c_body c_excepts c_power c_beats (nI N) c_shut v_forwardFor v_allFor v_above v_applies v_falls tf ab (nI N)) rc886 kt886 rc961 kt961 kt979 (n + 1) (nI q) team x14 (nI r) (zi (f || zex (fun s => p s && aAbv c_power c_beats s r) j)) (nI j) = (FL_law_8_979 c_kind c_head c_body c_excepts c_power c_beats (nI N) c_shut v_forwardFor v_allFor v_above v_applies v_falls tf ab (nI N)) rc886 kt886 rc961 kt961 kt979 n (nI q) team x14 (nI r) (zi (f || (zex (fun s => p s && aAbv c_power c_beats s r) j || (p j && aAbv c_power c_beats j r)))) (nI (j + 1))
    rw [← Bool.or_assoc]
    generalize (f || zex (fun s => p s && aAbv c_power c_beats s r) j) = a
    have hun : (FL_law_8_979 c_kind c_head c_body c_excepts c_power c_beats (nI N) c_shut v_forwardFor v_allFor v_above v_applies v_falls tf ab (nI N)) rc886 kt886 rc961 kt961 kt979 (n + 1) (nI q) team x14 (nI r) (zi a) (nI j) = _ := FL_law_8_979.eq_2 ..
    unfold FL_law_8_1014 at hun
    rw [if_neg (show ¬ nI N ≤ nI j from nI_ge hj (by omega)), bndx, zhL (show j < 32 by omega), zM_b ht hj, bndx, nI_clamp (show j < 2 ^ 31 by omega), zhL (show r < 32 by omega), zM_b (hab j hj) hr, nI_1] at hun
    refine hun.trans ?_
    cases p j
    · rw [if_pos zi_f, Bool.false_and, show (0 : Int32) = zi false from rfl, zi_or]
    · rw [if_neg (show ¬ zi true = 0 by decide), Bool.true_and]
      cases aAbv c_power c_beats j r
      · rw [if_pos zi_f, show (0 : Int32) = zi false from rfl, zi_or]
      · rw [if_neg (show ¬ zi true = 0 by decide), show (1 : Int32) = zi true from rfl, zi_or]) 17 0 (zi (f || false)) (by omega) (by omega) rfl
  subst hs
  rw [Bool.or_false] at e
  exact e
theorem q_s961 {rc886 : (Int32) → (Int32)} {kt886 : (Int32)} {kt961 : (Int32) → (Int32) → (Int32) → (Int32)} {q : Nat} {team : Int32} (hN : N ≤ 16) (hq : q < 20) (hal : ∀ q : Nat, q < 20 → zM (v_allFor q) N (fun r => aFor c_head of r (nI q))) (ht : zM team N (aFrc c_kind c_head c_body c_excepts of tf q)) (hab : ∀ r : Nat, r < N → zM (ab r) N (aAbv c_power c_beats r)) : ∃ x : Int32, zM x N (aThr c_kind c_head c_body c_excepts c_power of c_beats N tf q) ∧ (FL_law_8_961 c_kind c_head c_body c_excepts c_power c_beats (nI N) c_shut v_forwardFor v_allFor v_above v_applies v_falls tf ab (nI N)) rc886 kt886 kt961 17 (nI q) team 0 0 = kt961 (nI q) team x := by
  have ho := aOth_lt hq
  obtain ⟨s, hs, e⟩ := zloopI (L := fun n i s => (FL_law_8_961 c_kind c_head c_body c_excepts c_power c_beats (nI N) c_shut v_forwardFor v_allFor v_above v_applies v_falls tf ab (nI N)) rc886 kt886 kt961 n (nI q) team s i) (kt := fun s => kt961 (nI q) team s) N (I := fun i s => zM s i (aThr c_kind c_head c_body c_excepts c_power of c_beats N tf q)) (by
    intro n s _
    have hun : (FL_law_8_961 c_kind c_head c_body c_excepts c_power c_beats (nI N) c_shut v_forwardFor v_allFor v_above v_applies v_falls tf ab (nI N)) rc886 kt886 kt961 (n + 1) (nI q) team s (nI N) = _ := FL_law_8_961.eq_2 ..
    rw [if_pos (show nI N ≤ nI N from nI_le (Nat.le_refl N) (by omega))] at hun
    exact hun) (by
    intro n r s hr hs
    have hun : (FL_law_8_961 c_kind c_head c_body c_excepts c_power c_beats (nI N) c_shut v_forwardFor v_allFor v_above v_applies v_falls tf ab (nI N)) rc886 kt886 kt961 (n + 1) (nI q) team s (nI r) = _ := FL_law_8_961.eq_2 ..
    rw [if_neg (show ¬ nI N ≤ nI r from nI_ge hr (by omega)), bndx, q_fal hN hr, q_s979 hN hr ht hab] at hun
    unfold FL_law_8_1024 at hun
    rw [bndx, q_oth hq, q_for ho, bndx, zhL (show r < 32 by omega), zM_b (hal (aOth q) ho) hr, nI_1] at hun
    show ∃ s' : Int32, _ ∧ (FL_law_8_961 c_kind c_head c_body c_excepts c_power c_beats (nI N) c_shut v_forwardFor v_allFor v_above v_applies v_falls tf ab (nI N)) rc886 kt886 kt961 (n + 1) (nI q) team s (nI r) = (FL_law_8_961 c_kind c_head c_body c_excepts c_power c_beats (nI N) c_shut v_forwardFor v_allFor v_above v_applies v_falls tf ab (nI N)) rc886 kt886 kt961 n (nI q) team s' (nI (r + 1))
    rw [hun]
    have hf : aThr c_kind c_head c_body c_excepts c_power of c_beats N tf q r = (aFor c_head of r (nI (aOth q)) && !(aFal c_body c_excepts tf r || zex (fun s => aFrc c_kind c_head c_body c_excepts of tf q s && aAbv c_power c_beats s r) N)) := zthr_eq.symm
    cases h1 : aFor c_head of r (nI (aOth q))
    · rw [if_pos zi_f]
      exact ⟨s, zM_n hs (by rw [hf, h1]; rfl), rfl⟩
    · rw [if_neg (show ¬ zi true = 0 by decide)]
      cases h2 : (aFal c_body c_excepts tf r || zex (fun s => aFrc c_kind c_head c_body c_excepts of tf q s && aAbv c_power c_beats s r) N)
      · rw [if_pos zi_f]
        exact ⟨_, zM_y hs (by omega) (by rw [hf, h1, h2]; rfl), rfl⟩
      · rw [if_neg (show ¬ zi true = 0 by decide)]
        exact ⟨s, zM_n hs (by rw [hf, h1, h2]; rfl), rfl⟩) 17 0 0 (by omega) (by omega) (zM_0 _)
  exact ⟨s, hs, e⟩
theorem q_seg8 (hN : N ≤ 16) (hT : ∀ t : Nat, t < 4 → tf t = v_known t) (hw : zVw N c_kind c_head c_power of c_beats c_facts v_strictFor v_forwardFor v_allFor v_above v_facts) (hg : zWg N c_body c_excepts v_known v_applies v_falls sb nb) (hab : ∀ r : Nat, r < N → zM (ab r) N (aAbv c_power c_beats r)) : (FL_law_8 c_kind c_head c_body c_excepts c_power c_beats (nI N) c_shut v_forwardFor v_allFor v_above v_applies v_falls tf ab (nI N)) = 1 := by
  have hal : ∀ q : Nat, q < 20 → zM (v_allFor q) N (fun r => aFor c_head of r (nI q)) := fun q hq => (hw.2.1 q hq).2.2
  have e2 : tf 2 = v_known 2 := hT 2 (by decide)
  have e3 : tf 3 = v_known 3 := hT 3 (by decide)
  have eA : aApp c_body c_excepts tf = aApp c_body c_excepts v_known := by funext r; unfold aApp; rw [e2, e3]
  have eF : aFal c_body c_excepts tf = aFal c_body c_excepts v_known := by funext r; unfold aFal; rw [e2, e3]
  have eC : aFrc c_kind c_head c_body c_excepts of tf = aFrc c_kind c_head c_body c_excepts of v_known := by funext q r; unfold aFrc; rw [eA]
  unfold FL_law_8
  obtain ⟨s, -, e⟩ := zloopI (S := Unit) (L := fun n i _ => (FL_law_8_886 c_kind c_head c_body c_excepts c_power c_beats (nI N) c_shut v_forwardFor v_allFor v_above v_applies v_falls tf ab (nI N)) ((FL_law_8_1096 c_kind c_head c_body c_excepts c_power c_beats (nI N) c_shut v_forwardFor v_allFor v_above v_applies v_falls tf ab (nI N))) n i) (kt := fun _ => (1 : Int32)) 20 (I := fun _ _ => True) (by
    intro n s _
    have hun : (FL_law_8_886 c_kind c_head c_body c_excepts c_power c_beats (nI N) c_shut v_forwardFor v_allFor v_above v_applies v_falls tf ab (nI N)) ((FL_law_8_1096 c_kind c_head c_body c_excepts c_power c_beats (nI N) c_shut v_forwardFor v_allFor v_above v_applies v_falls tf ab (nI N))) (n + 1) (nI 20) = _ := FL_law_8_886.eq_2 ..
    rw [if_pos (show (20 : Int32) ≤ nI 20 from nI_le (Nat.le_refl 20) (by omega))] at hun
    exact hun) (by
    intro n q s hq _
    refine ⟨(), trivial, ?_⟩
    have hun : (FL_law_8_886 c_kind c_head c_body c_excepts c_power c_beats (nI N) c_shut v_forwardFor v_allFor v_above v_applies v_falls tf ab (nI N)) ((FL_law_8_1096 c_kind c_head c_body c_excepts c_power c_beats (nI N) c_shut v_forwardFor v_allFor v_above v_applies v_falls tf ab (nI N))) (n + 1) (nI q) = _ := FL_law_8_886.eq_2 ..
    rw [if_neg (show ¬ (20 : Int32) ≤ nI q from nI_ge (b := 20) hq (by omega))] at hun
    refine hun.trans ?_
    obtain ⟨team, h1, h2⟩ := q_s902 (c_kind := c_kind) (c_head := c_head) (c_body := c_body) (c_excepts := c_excepts) (c_power := c_power) (c_beats := c_beats) (v_forwardFor := v_forwardFor) (v_above := v_above) (tf := tf) (ab := ab) (c_shut := c_shut) (v_applies := v_applies) (v_falls := v_falls) (x14 := 0) (rc886 := fun x12_886' => (FL_law_8_886 c_kind c_head c_body c_excepts c_power c_beats (nI N) c_shut v_forwardFor v_allFor v_above v_applies v_falls tf ab (nI N)) ((FL_law_8_1096 c_kind c_head c_body c_excepts c_power c_beats (nI N) c_shut v_forwardFor v_allFor v_above v_applies v_falls tf ab (nI N))) n x12_886') (kt886 := (FL_law_8_1096 c_kind c_head c_body c_excepts c_power c_beats (nI N) c_shut v_forwardFor v_allFor v_above v_applies v_falls tf ab (nI N))) (kt902 := (FL_law_8_958 c_kind c_head c_body c_excepts c_power c_beats (nI N) c_shut v_forwardFor v_allFor v_above v_applies v_falls tf ab (nI N)) (fun x12_886' => (FL_law_8_886 c_kind c_head c_body c_excepts c_power c_beats (nI N) c_shut v_forwardFor v_allFor v_above v_applies v_falls tf ab (nI N)) ((FL_law_8_1096 c_kind c_head c_body c_excepts c_power c_beats (nI N) c_shut v_forwardFor v_allFor v_above v_applies v_falls tf ab (nI N))) n x12_886') ((FL_law_8_1096 c_kind c_head c_body c_excepts c_power c_beats (nI N) c_shut v_forwardFor v_allFor v_above v_applies v_falls tf ab (nI N)))) hN hq hal
    rw [h2]
    unfold FL_law_8_958
    obtain ⟨thr, h3, h4⟩ := q_s961 (v_forwardFor := v_forwardFor) (v_above := v_above) (c_shut := c_shut) (v_applies := v_applies) (v_falls := v_falls) (rc886 := fun x12_886' => (FL_law_8_886 c_kind c_head c_body c_excepts c_power c_beats (nI N) c_shut v_forwardFor v_allFor v_above v_applies v_falls tf ab (nI N)) ((FL_law_8_1096 c_kind c_head c_body c_excepts c_power c_beats (nI N) c_shut v_forwardFor v_allFor v_above v_applies v_falls tf ab (nI N))) n x12_886') (kt886 := (FL_law_8_1096 c_kind c_head c_body c_excepts c_power c_beats (nI N) c_shut v_forwardFor v_allFor v_above v_applies v_falls tf ab (nI N))) (kt961 := (FL_law_8_1064 c_kind c_head c_body c_excepts c_power c_beats (nI N) c_shut v_forwardFor v_allFor v_above v_applies v_falls tf ab (nI N)) (fun x12_886' => (FL_law_8_886 c_kind c_head c_body c_excepts c_power c_beats (nI N) c_shut v_forwardFor v_allFor v_above v_applies v_falls tf ab (nI N)) ((FL_law_8_1096 c_kind c_head c_body c_excepts c_power c_beats (nI N) c_shut v_forwardFor v_allFor v_above v_applies v_falls tf ab (nI N))) n x12_886') ((FL_law_8_1096 c_kind c_head c_body c_excepts c_power c_beats (nI N) c_shut v_forwardFor v_allFor v_above v_applies v_falls tf ab (nI N)))) hN hq hal h1 hab
    rw [h4]
    unfold FL_law_8_1064
    have t1 : FX8_sides_s v_forwardFor v_allFor v_above v_applies v_falls (nI q) 1 = team := by
      unfold FX8_sides_s
      rw [if_neg (q_lit hq), if_neg (show ¬ FX8_isYesOrNo 1 = 0 by decide), if_neg (show ¬ (1 : Int32) = 0 by decide)]
      exact zM_eq (k_team (v_known := v_known) (bd := c_body) (ex := c_excepts) hq hw hg.1) h1 (fun r _ => by rw [eC])
    have t0 : FX8_sides_s v_forwardFor v_allFor v_above v_applies v_falls (nI q) 0 = thr := by
      unfold FX8_sides_s
      rw [if_neg (q_lit hq), if_neg (show ¬ FX8_isYesOrNo 0 = 0 by decide), if_pos rfl]
      exact zM_eq (k_threats (v_known := v_known) (bd := c_body) (ex := c_excepts) hN hq hw hg.1 hg.2.1) h3 (fun r _ => by unfold aThr; rw [eC, eF])
    rw [bndx, t1, if_pos rfl, bndx, t0, if_pos rfl, nI_1]) 21 0 () (by omega) (by omega) trivial
  exact e
end ZSEG8
