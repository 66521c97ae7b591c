/-! the needs: the reference's, the class's -/
section ZNR
variable {m_kind m_head m_body m_except m_strength m_off m_over K : Nat → Int32} {N : Nat} {m_facts : Int32}
theorem r_force {w : Nat → Int32} {r : Nat} (hr : r < 16) : FX9_force m_body m_except w (nI r) = zorf w (aForce m_body m_except r) := by
  unfold FX9_force aForce
  rw [nI_clamp (by omega), zc2, zc3, zorf_u, zorf_u, zorf_2]
theorem r_fall {w : Nat → Int32} {r : Nat} (hr : r < 16) (h : aFal m_body m_except K r = true) : FX9_fall m_body m_except K w (nI r) = zorf w (aFall m_body m_except K r) := by
  unfold FX9_fall aFall
  rw [nI_clamp (by omega), zc2, zc3]
  by_cases c : m_body r &&& K 3 = 0
  · rw [if_pos c, if_pos c]
    have h2 : ¬ m_except r &&& K 2 = 0 := fun e => by
      unfold aFal at h
      rw [decide_eq_true c, decide_eq_true e] at h
      cases h
    simp only [bnd]
    rw [← (z_first h2).1, zorf_u]
  · rw [if_neg c, if_neg c]
    simp only [bnd]
    rw [← (z_first c).1, zorf_u]
theorem r_needsSure {w : Nat → Int32} {q : Nat} (hN : N ≤ 16) (hq : q < 20) : FX9_needsSure m_facts (nI N) m_kind m_head m_body m_off K w (nI q) = zorf w (aNS m_kind m_head m_body m_off m_facts N K q) := by
  unfold FX9_needsSure aNS
  by_cases c : zb m_facts q = true
  · rw [if_pos c, zorf_no, FX9_needsSure_2]
    split
    · rfl
    · simp only [bnd]
      rw [zh9 (by omega), c, if_neg (show ¬ zi true = 0 by decide)]
  · rw [if_neg c]
    have c0 : zb m_facts q = false := (Bool.not_eq_true _).mp c
    have k := zfindL (L := fun n x => FX9_needsSure_2 m_facts (nI N) m_kind m_head m_body m_off K w (nI q) (FX9_needsSure_57 m_facts (nI N) m_kind m_head m_body m_off K w (nI q)) n x w) (kt := w) (out := fun i => upd w 0 (w 0 ||| m_body i)) (p := fun r => aStr m_kind m_head m_off r (nI q) && aSb m_body K r) N (by
      intro n
      show FX9_needsSure_2 m_facts (nI N) m_kind m_head m_body m_off K w (nI q) _ (n + 1) (nI N) w = w
      rw [FX9_needsSure_2, if_pos (nI_le (Nat.le_refl N) (by omega))]) (by
      intro n i hi
      show FX9_needsSure_2 m_facts (nI N) m_kind m_head m_body m_off K w (nI q) _ (n + 1) (nI i) w = _
      rw [FX9_needsSure_2, if_neg (nI_ge hi (by omega))]
      simp only [bnd, nI_1]
      rw [zh9 (by omega), c0, if_pos zi_f, r_isFor (by omega), nI_clamp (show i < 2 ^ 31 by omega), zc0]
      unfold aStr aSb FX9_needsSure_57
      rw [nI_clamp (show i < 2 ^ 31 by omega), zc0]
      cases aFor m_head m_off i (nI q)
      · rw [if_pos zi_f]; rfl
      · rw [if_neg (show ¬ zi true = 0 by decide), Bool.true_and]
        by_cases c1 : m_kind i = 0
        · rw [if_pos c1, decide_eq_true c1, Bool.true_and]
          by_cases c2 : m_body i &&& (K 0 ^^^ (-1)) = 0
          · rw [if_pos c2, decide_eq_true c2, if_pos rfl]
          · rw [if_neg c2, decide_eq_false c2, if_neg Bool.false_ne_true]
        · rw [if_neg c1, decide_eq_false c1, Bool.false_and, if_neg Bool.false_ne_true]) 17 0 (by omega) (by omega)
    have k : FX9_needsSure_2 m_facts (nI N) m_kind m_head m_body m_off K w (nI q) (FX9_needsSure_57 m_facts (nI N) m_kind m_head m_body m_off K w (nI q)) 17 0 w = _ := k
    rw [k, Nat.sub_zero]
    show (if zF (fun r => aStr m_kind m_head m_off r (nI q) && aSb m_body K r) N < N then upd w 0 (w 0 ||| m_body (zF (fun r => aStr m_kind m_head m_off r (nI q) && aSb m_body K r) N)) else w) = _
    split
    · exact zorf_u _ _ _
    · exact (zorf_no w).symm
theorem r_needsNever {w : Nat → Int32} {q : Nat} (hN : N ≤ 16) (hq : q < 20) (h : aNever m_kind m_head m_body m_off m_facts N K q = true) : FX9_needsNever (nI N) m_kind m_head m_body m_off K w (nI q) = zorf w (aNN m_kind m_head m_body m_off N K q) := by
  have hz : ∀ r, r < N → aStr m_kind m_head m_off r (nI q) = true → ¬ m_body r &&& K 1 = 0 := by
    intro r hr hs e
    unfold aNever at h
    rw [Bool.and_eq_true, Bool.not_eq_true'] at h
    have h3 : zE (fun r => aStr m_kind m_head m_off r (nI q) && !aNb m_body K r) N = false := by
      cases z : zE (fun r => aStr m_kind m_head m_off r (nI q) && !aNb m_body K r) N
      · rfl
      · rw [z] at h; cases h.2
    have := zE_f.mp h3 r hr
    rw [hs] at this
    unfold aNb at this
    rw [decide_eq_true e] at this
    cases this
  unfold FX9_needsNever aNN
  obtain ⟨s, hs, e⟩ := zloopI (L := fun n x s => FX9_needsNever_2 (nI N) m_kind m_head m_body m_off K w (nI q) (FX9_needsNever_61 (nI N) m_kind m_head m_body m_off K w (nI q)) n x s) (kt := fun s => s) N (I := fun i s => s = zorf w (zfa (fun r => if aStr m_kind m_head m_off r (nI q) = true then zone1 1 (FX8_lowestBit (m_body r &&& K 1)) else zno) i)) (by
    intro n s _
    show FX9_needsNever_2 (nI N) m_kind m_head m_body m_off K w (nI q) _ (n + 1) (nI N) s = s
    rw [FX9_needsNever_2, if_pos (nI_le (Nat.le_refl N) (by omega))]; rfl) (by
    intro n i s hi h
    subst h
    refine ⟨_, rfl, ?_⟩
    rw [← zfa_s]
    show FX9_needsNever_2 (nI N) m_kind m_head m_body m_off K w (nI q) _ (n + 1) (nI i) _ = FX9_needsNever_2 (nI N) m_kind m_head m_body m_off K w (nI q) _ n (nI (i + 1)) _
    rw [FX9_needsNever_2, if_neg (nI_ge hi (by omega))]
    simp only [bnd, nI_1]
    rw [r_isFor (by omega), nI_clamp (show i < 2 ^ 31 by omega), zc1]
    have hzi := hz i hi
    unfold aStr at hzi
    show _ = FX9_needsNever_2 (nI N) m_kind m_head m_body m_off K w (nI q) _ n (nI (i + 1)) (zorf _ (if (aFor m_head m_off i (nI q) && decide (m_kind i = 0)) = true then zone1 1 (FX8_lowestBit (m_body i &&& K 1)) else zno))
    cases hF : aFor m_head m_off i (nI q)
    · rw [if_pos zi_f, Bool.false_and, if_neg Bool.false_ne_true, zorf_no]
    · rw [if_neg (show ¬ zi true = 0 by decide), Bool.true_and]
      by_cases c1 : m_kind i = 0
      · rw [if_pos c1, decide_eq_true c1, if_pos rfl]
        rw [hF, decide_eq_true c1] at hzi
        rw [← (z_first (hzi rfl)).1, zorf_u]
      · rw [if_neg c1, decide_eq_false c1, if_neg Bool.false_ne_true, zorf_no]) 17 0 w (by omega) (by omega) (zorf_no w).symm
  rw [← hs]
  exact e
theorem zFr {p : Nat → Bool} {N : Nat} (h : zE p N = true) : (if zE p N = true then nI (zF p N) else -1) = nI (zF p N) := if_pos h
theorem r_needsLikely {w : Nat → Int32} {q : Nat} (hN : N ≤ 16) (hq : q < 20) (h : aLikely m_kind m_head m_body m_except m_strength m_off m_over N K q = true) : FX9_needsLikely (nI N) m_kind m_head m_body m_except m_strength m_off m_over K w (nI q) = zorf w (aNL m_kind m_head m_body m_except m_strength m_off m_over N K q) := by
  unfold FX9_needsLikely aNL
  simp only [bnd]
  rw [zc0, zc1, zh9 (by omega)]
  cases c : zb (K 0) q
  · rw [if_pos zi_f, if_neg Bool.false_ne_true]
    unfold aLikely at h
    rw [c, Bool.false_or] at h
    simp only [Bool.and_eq_true] at h
    obtain ⟨⟨h1, h2⟩, h3⟩ := h
    have h3 : zE (aThr m_kind m_head m_body m_except m_strength m_off m_over N K q) N = false := by
      cases e : zE (aThr m_kind m_head m_body m_except m_strength m_off m_over N K q) N
      · rfl
      · rw [e] at h3; cases h3
    rw [r_forcing1 hN]
    unfold aFr1
    rw [zFr h2, r_force (by have := (zE_F h2).1; omega), aOth9 hq, zorf_u, zorf_2, ← zorf_2 w _ (zfa _ N)]
    generalize zorf w (zorf (aForce m_body m_except (zF (aFrc m_kind m_head m_body m_except m_off K q) N)) (zone1 1 (1 <<< (nI (aOth q) &&& 31)))) = w1
    obtain ⟨s, hs, e⟩ := zloopI (L := fun n x s => FX9_needsLikely_53 (nI N) m_kind m_head m_body m_except m_strength m_off m_over K w (nI q) (FX9_needsLikely_108 (nI N) m_kind m_head m_body m_except m_strength m_off m_over K w (nI q)) n x s) (kt := fun s => s) N (I := fun i s => s = zorf w1 (zfa (fun r => if aFor m_head m_off r (nI (aOth q)) = true then (if aFal m_body m_except K r = true then aFall m_body m_except K r else aForce m_body m_except (zF (fun s => aFrc m_kind m_head m_body m_except m_off K q s && aAbv m_strength m_over s r) N)) else zno) i)) (by
      intro n s _
      show FX9_needsLikely_53 (nI N) m_kind m_head m_body m_except m_strength m_off m_over K w (nI q) _ (n + 1) (nI N) s = s
      rw [FX9_needsLikely_53, if_pos (nI_le (Nat.le_refl N) (by omega))]; rfl) (by
      intro n i s hi hs
      subst hs
      refine ⟨_, rfl, ?_⟩
      rw [← zfa_s]
      show FX9_needsLikely_53 (nI N) m_kind m_head m_body m_except m_strength m_off m_over K w (nI q) _ (n + 1) (nI i) _ = FX9_needsLikely_53 (nI N) m_kind m_head m_body m_except m_strength m_off m_over K w (nI q) _ n (nI (i + 1)) (zorf _ (if aFor m_head m_off i (nI (aOth q)) = true then (if aFal m_body m_except K i = true then aFall m_body m_except K i else aForce m_body m_except (zF (fun s => aFrc m_kind m_head m_body m_except m_off K q s && aAbv m_strength m_over s i) N)) else zno))
      rw [FX9_needsLikely_53, if_neg (nI_ge hi (by omega))]
      simp only [bnd, nI_1]
      rw [aOth9 hq, r_isFor (by omega), r_falls (by omega)]
      have h4 := zE_f.mp h3 i hi
      unfold aThr at h4
      cases c1 : aFor m_head m_off i (nI (aOth q))
      · rw [if_pos zi_f, if_neg Bool.false_ne_true, zorf_no]
      · rw [if_neg (show ¬ zi true = 0 by decide), if_pos rfl]
        cases c2 : aFal m_body m_except K i
        · rw [if_pos zi_f, if_neg Bool.false_ne_true]
          rw [c1, c2] at h4
          have h5 : zE (fun s => aFrc m_kind m_head m_body m_except m_off K q s && aAbv m_strength m_over s i) N = true := by
            cases e : zE (fun s => aFrc m_kind m_head m_body m_except m_off K q s && aAbv m_strength m_over s i) N
            · rw [e] at h4; cases h4
            · rfl
          rw [r_forcing2 hN (by omega)]
          unfold aFr2
          rw [zFr h5, r_force (by have := (zE_F h5).1; omega)]
        · rw [if_neg (show ¬ zi true = 0 by decide), if_pos rfl, r_fall (by omega) c2]) 17 0 w1 (by omega) (by omega) (zorf_no w1).symm
    rw [← hs]
    exact e
  · rw [if_neg (show ¬ zi true = 0 by decide), if_pos rfl, zorf_u]
theorem aVic_e {kd hd bd ex sg of ov K : Nat → Int32} {N q r : Nat} (h : aVic kd hd bd ex sg of ov N K q r = true) : zE (fun s => aUnf kd hd bd ex of K q s && aAbv sg ov s r) N = false := by
  unfold aVic at h
  rw [Bool.and_eq_true] at h
  cases e : zE (fun s => aUnf kd hd bd ex of K q s && aAbv sg ov s r) N
  · rfl
  · rw [e] at h; cases h.2
theorem r_nuL {kt81 : (Nat → Int32) → ((Nat → Int32))} {w w1 : Nat → Int32} {q : Nat} {c : Nat → Bool} {by' : Int32} (hN : N ≤ 16) (hb : ∀ r, r < N → (by' < 0 ∧ c r = true) ∨ (¬ by' < 0 ∧ FX9_isAbove m_strength m_over (nI r) by' = zi (c r))) (hf : ∀ r, r < N → (aFwd m_kind m_head m_off r (nI q) && c r) = true → aFal m_body m_except K r = true) : FX9_needsUnlikely_81 (nI N) m_kind m_head m_body m_except m_strength m_off m_over K w (nI q) kt81 17 by' 0 w1 = kt81 (zorf w1 (zfa (fun r => if (aFwd m_kind m_head m_off r (nI q) && c r) = true then aFall m_body m_except K r else zno) N)) := by
  obtain ⟨s, hs, e⟩ := zloopI (L := fun n x s => FX9_needsUnlikely_81 (nI N) m_kind m_head m_body m_except m_strength m_off m_over K w (nI q) kt81 n by' x s) (kt := fun s => kt81 s) N (I := fun i s => s = zorf w1 (zfa (fun r => if (aFwd m_kind m_head m_off r (nI q) && c r) = true then aFall m_body m_except K r else zno) i)) (by
    intro n s _
    show FX9_needsUnlikely_81 (nI N) m_kind m_head m_body m_except m_strength m_off m_over K w (nI q) kt81 (n + 1) by' (nI N) s = kt81 s
    rw [FX9_needsUnlikely_81, if_pos (nI_le (Nat.le_refl N) (by omega))]) (by
    intro n i s hi h
    subst h
    refine ⟨_, rfl, ?_⟩
    rw [← zfa_s]
    show FX9_needsUnlikely_81 (nI N) m_kind m_head m_body m_except m_strength m_off m_over K w (nI q) kt81 (n + 1) by' (nI i) _ = FX9_needsUnlikely_81 (nI N) m_kind m_head m_body m_except m_strength m_off m_over K w (nI q) kt81 n by' (nI (i + 1)) (zorf _ (if (aFwd m_kind m_head m_off i (nI q) && c i) = true then aFall m_body m_except K i else zno))
    have hfi := hf i hi
    rw [FX9_needsUnlikely_81, if_neg (nI_ge hi (by omega))]
    unfold FX9_needsUnlikely_111
    simp only [bnd, nI_1]
    rw [r_isForward (by omega)]
    cases c1 : aFwd m_kind m_head m_off i (nI q)
    · rw [if_pos zi_f, Bool.false_and, if_neg Bool.false_ne_true, zorf_no]
    · rw [if_neg (show ¬ zi true = 0 by decide), Bool.true_and]
      rw [c1, Bool.true_and] at hfi
      rcases hb i hi with ⟨b1, b2⟩ | ⟨b1, b2⟩
      · rw [if_pos b1, b2, if_pos rfl, r_fall (by omega) (hfi b2)]
      · rw [if_neg b1, b2]
        cases c2 : c i
        · rw [if_pos zi_f, if_neg Bool.false_ne_true, zorf_no]
        · rw [if_neg (show ¬ zi true = 0 by decide), if_pos rfl, r_fall (by omega) (hfi c2)]) 17 0 w1 (by omega) (by omega) (zorf_no w1).symm
  rw [← hs]
  exact e
theorem zfa_eq {f g : Nat → Nat → Int32} : ∀ N : Nat, (∀ i, i < N → f i = g i) → zfa f N = zfa g N
  | 0, _ => rfl
  | N + 1, h => by
    show zorf (zfa f N) (f N) = zorf (zfa g N) (g N)
    rw [zfa_eq N (fun i hi => h i (by omega)), h N (by omega)]
theorem r_needsUnlikely {w : Nat → Int32} {q : Nat} (hN : N ≤ 16) (hq : q < 20) (h : aUnlikely m_kind m_head m_body m_except m_strength m_off m_over N K q = true) : FX9_needsUnlikely (nI N) m_kind m_head m_body m_except m_strength m_off m_over K w (nI q) = zorf w (aNU m_kind m_head m_body m_except m_strength m_off m_over N K q) := by
  unfold FX9_needsUnlikely FX9_needsUnlikely_52 FX9_needsUnlikely_69 aNU
  simp only [bnd]
  rw [zc0, zc1, r_allFall hN, r_hindering hN hq, aOth9 hq, zh9 (by have := aOth_lt hq; omega), zorf_u, ← zorf_2]
  generalize zorf w (zone1 1 (1 <<< (nI q &&& 31))) = w1
  unfold aUnlikely at h
  simp only [Bool.or_eq_true, Bool.and_eq_true] at h
  obtain ⟨h1, h2⟩ := h
  cases c : zE (aUnf m_kind m_head m_body m_except m_off K q) N
  · rw [show (!false) = true from rfl, if_neg (show ¬ zi true = 0 by decide), if_neg (show ¬ zi true = 0 by decide), if_pos (show (-1 : Int32) < 0 by decide), if_pos rfl, r_nuL (c := fun _ => true) hN (fun r hr => Or.inl ⟨by decide, rfl⟩) (fun r hr hF => by
      rw [Bool.and_true] at hF
      have := zE_f.mp c r hr
      unfold aUnf at this
      rw [hF] at this
      cases e : aFal m_body m_except K r
      · rw [e] at this; cases this
      · rfl)]
    unfold FX9_needsUnlikely_122
    rw [zfa_eq N (fun r hr => by rw [Bool.and_true])]
  · rw [show (!true) = false from rfl, if_pos zi_f, if_pos zi_f, if_neg (show ¬ (true = false) by decide)]
    cases c2 : zb (K 0) (aOth q)
    · rw [if_pos zi_f, if_neg Bool.false_ne_true]
      have h3 : zE (aVic m_kind m_head m_body m_except m_strength m_off m_over N K q) N = true := by
        rcases h2 with (h2 | h2) | h2
        · rw [c] at h2; cases h2
        · rw [c2] at h2; cases h2
        · exact h2
      have hv := zE_F h3
      unfold aHin
      rw [zFr h3, if_neg (nI_pos (by omega)), r_force (by omega), r_nuL (c := fun r => aAbv m_strength m_over r (zF (aVic m_kind m_head m_body m_except m_strength m_off m_over N K q) N)) hN (fun r hr => Or.inr ⟨nI_pos (by omega), r_isAbove (by omega) (by omega)⟩) (fun r hr hF => by
        have h5 := aVic_e hv.2
        have := zE_f.mp h5 r hr
        rw [Bool.and_eq_true] at hF
        rw [hF.2, Bool.and_true] at this
        unfold aUnf at this
        rw [hF.1] at this
        cases e : aFal m_body m_except K r
        · rw [e] at this; cases this
        · rfl)]
      unfold FX9_needsUnlikely_122
      rw [zorf_2]
    · rw [if_neg (show ¬ zi true = 0 by decide), if_pos rfl, zorf_u]
theorem r_needs {w : Nat → Int32} {t q : Nat} (hN : N ≤ 16) (ht : t < 4) (hq : q < 20) (h : aHolds m_kind m_head m_body m_except m_strength m_off m_over m_facts N K t q = true) : FX9_needs m_facts (nI N) m_kind m_head m_body m_except m_strength m_off m_over K w (nI t) (nI q) = zorf w (aNeed m_kind m_head m_body m_except m_strength m_off m_over m_facts N K t q) := by
  unfold FX9_needs
  simp only [bnd]
  match t, ht, h with
  | 0, _, h =>
    rw [if_pos (show nI 0 = (0 : Int32) from rfl)]
    exact r_needsSure hN hq
  | 1, _, h =>
    rw [if_neg (show ¬ nI 1 = (0 : Int32) by decide), if_pos (show nI 1 = (1 : Int32) from rfl)]
    exact r_needsNever hN hq h
  | 2, _, h =>
    rw [if_neg (show ¬ nI 2 = (0 : Int32) by decide), if_neg (show ¬ nI 2 = (1 : Int32) by decide), if_pos (show nI 2 = (2 : Int32) from rfl)]
    exact r_needsLikely hN hq h
  | 3, _, h =>
    rw [if_neg (show ¬ nI 3 = (0 : Int32) by decide), if_neg (show ¬ nI 3 = (1 : Int32) by decide), if_neg (show ¬ nI 3 = (2 : Int32) by decide)]
    exact r_needsUnlikely hN hq h
end ZNR
