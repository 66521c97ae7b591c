/-! queries: the class's answer is the reference's -/
theorem has_rule {N : Nat} (hN : N ≤ 16) {x : Int32} (c : ¬ FX0_hasRule (nI N) x = 0) : ∃ r : Nat, r < N ∧ x = nI r := by
  unfold FX0_hasRule at c
  by_cases h : x < 0
  · rw [if_pos h] at c; exact absurd rfl c
  · rw [if_neg h] at c
    obtain ⟨j, hj, rfl⟩ := nI_of h
    by_cases h2 : nI N ≤ nI j
    · rw [if_pos h2] at c; exact absurd rfl c
    · rw [nI_leI (by omega) hj] at h2
      exact ⟨j, by omega, rfl⟩
theorem is_lit {x : Int32} (c : ¬ FX8_isLiteral x = 0) : ∃ q : Nat, q < 20 ∧ x = nI q := by
  obtain ⟨q, hq, e⟩ := vp_in_of (zisLit c) (by decide)
  exact ⟨q, hq, e⟩
theorem is_tag {x : Int32} (c : ¬ FX8_isTag x = 0) : ∃ q : Nat, q < 4 ∧ x = nI q := by
  obtain ⟨q, hq, e⟩ := vp_in_of (zisTag c) (by decide)
  exact ⟨q, hq, e⟩
theorem is_yn {x : Int32} (c : ¬ FX8_isYesOrNo x = 0) : x = 0 ∨ x = 1 := by
  unfold FX8_isYesOrNo at c
  by_cases h : x = 0
  · exact Or.inl h
  · rw [if_neg h] at c
    by_cases h1 : x = 1
    · exact Or.inr h1
    · rw [if_neg h1] at c; exact absurd rfl c
theorem z_bit {x : Int32} {q : Nat} (h : q < 32) : FX8_bit x (nI q) = zi (zb x q) := by
  have hb : ∀ y : Int32, y &&& 1 = zi (zb y 0) := fun y => by
    cases hy : zb y 0
    · refine zb_ext (fun q _ => ?_)
      rw [zb_and, zi_f, zb_0]
      rcases Nat.eq_zero_or_pos q with rfl | h0
      · rw [hy]; rfl
      · have key : ∀ q : Nat, q < 32 → 0 < q → zb 1 q = false := by decide +kernel
        by_cases h32 : q < 32
        · rw [key q h32 h0, Bool.and_false]
        · rw [zb_big (x := 1) (by omega), Bool.and_false]
    · exact (zand1 y).mpr hy
  show (x >>> (nI q &&& 31)) &&& 1 = _
  rw [hb, zshr h]
theorem zWg_congr {N : Nat} {bd ex K K' : Nat → Int32} {ap fl sb nb : Int32} (h : ∀ t, t < 4 → K t = K' t) (hg : zWg N bd ex K ap fl sb nb) : zWg N bd ex K' ap fl sb nb := by
  have e1 : aApp bd ex K = aApp bd ex K' := by funext r; unfold aApp; rw [h 2 (by decide), h 3 (by decide)]
  have e2 : aFal bd ex K = aFal bd ex K' := by funext r; unfold aFal; rw [h 2 (by decide), h 3 (by decide)]
  have e3 : aSb bd K = aSb bd K' := by funext r; unfold aSb; rw [h 0 (by decide)]
  have e4 : aNb bd K = aNb bd K' := by funext r; unfold aNb; rw [h 1 (by decide)]
  unfold zWg at hg ⊢
  rw [← e1, ← e2, ← e3, ← e4]
  exact hg
section ZQRY
variable {fa m_rounds rd_last v_facts v_applies v_falls v_sureBodies v_neverBodies c_shut rc_isSettled x1 x2 : Int32} {rd_came v_known v_fresh v_strictFor v_forwardFor v_allFor v_above v_reach c_kind c_head c_body c_excepts c_power c_beats m_came m_known m_fresh m_reached m_kind m_head m_body m_except m_strength m_off m_over : Nat → Int32} {N : Nat}
theorem k_broughtBy {t : Nat} (ht : t < 4) : zM (FX4_broughtBy rd_came (nI t) x2) 20 (fun q => decide (rd_came (20 * t + q) = x2)) := by
  obtain ⟨s, hs, e⟩ := zloopI (L := fun n i s => (FX4_broughtBy_5 rd_came (nI t) x2) ((FX4_broughtBy_36 rd_came (nI t) x2)) n s i) (kt := fun s => s) 20 (I := fun i s => zM s i (fun q => decide (rd_came (20 * t + q) = x2))) (by
    intro n s _
    show (FX4_broughtBy_5 rd_came (nI t) x2) _ (n + 1) s (nI 20) = s
    rw [FX4_broughtBy_5, if_pos (show (20 : Int32) ≤ nI 20 by decide)]; rfl) (by
    intro n i s hi h
    show ∃ s' : Int32, _ ∧ (FX4_broughtBy_5 rd_came (nI t) x2) ((FX4_broughtBy_36 rd_came (nI t) x2)) (n + 1) s (nI i) = (FX4_broughtBy_5 rd_came (nI t) x2) ((FX4_broughtBy_36 rd_came (nI t) x2)) n s' (nI (i + 1))
    rw [FX4_broughtBy_5, if_neg (show ¬ (20 : Int32) ≤ nI i from nI_ge (b := 20) hi (by decide))]
    simp only [bnd, FX4_roundOf, z20' ht hi, nI_1]
    by_cases c : rd_came (20 * t + i) = x2
    · rw [if_pos c]; exact ⟨_, zM_y h (by omega) (decide_eq_true c), rfl⟩
    · rw [if_neg c]; exact ⟨_, zM_n h (decide_eq_false c), rfl⟩) 21 0 0 (by omega) (by omega) (zM_0 _)
  unfold FX4_broughtBy
  rw [show (FX4_broughtBy_5 rd_came (nI t) x2) ((FX4_broughtBy_36 rd_came (nI t) x2)) 21 0 0 = s from e]
  exact hs
end ZQRY

