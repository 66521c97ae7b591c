/-! circles, and how rules stand -/
section ZSEG6
variable {c_kind c_head c_body c_excepts c_power c_beats rd_came v_known v_allFor v_above v_reach tf of : Nat → Int32} {c_facts c_shut x9 v_applies v_falls sb nb : Int32} {N k : Nat}
theorem q_seg6 (hh : zSC c_kind c_head c_body c_excepts c_power c_beats of c_facts N k rd_came v_known v_allFor) (hab : ∀ r : Nat, r < 16 → zM (v_above r) N (fun o => decide (r < N) && aAbv c_power c_beats r o)) (hT : ∀ t : Nat, t < 4 → tf t = v_known t) (hl : zlf c_power c_beats N x9) (hu : zsu c_power c_beats N x9) : ∃ w : Nat → Int32, (FL_law_6 c_beats (nI N) v_above v_reach tf (nI N) (zboth (v_known 2)) (zhm c_beats N) x9) = (1, w) := by
  obtain ⟨hN, hk, hkd, hb, hal, hQ, hend, hkn⟩ := id hh
  obtain ⟨x, ⟨w, ew⟩, h1, h2⟩ := k_circ (v_reach := v_reach) hN hab
  unfold FL_law_6
  rw [bndx, bndx, show FX8_count_1 v_above v_reach 1 = FX6_circles v_above v_reach from rfl, show FX8_count_5 c_beats (nI N) 5 = FX0_pairs c_beats (nI N) from rfl, k_pairs hN, if_pos rfl, ew]
  refine ⟨w, ?_⟩
  show (if x &&& (x9 ^^^ (-1)) = 0 then _ else _) = _
  have hsub : ∀ q, zb x q = true → zb x9 q = true := fun q hq => hl.2 q (h1 q hq)
  rw [if_pos (zand_of (fun q _ hq => hsub q hq))]
  have hx9 : x = 0 → x9 = 0 := fun h0 => zb_ext (fun q _ => by
    rw [zb_0]
    cases e : zb x9 q
    · rfl
    · exact (h2 h0 (fun r => zb x9 r = true) (fun r hr => hl.1 r hr) (Or.inl (fun r hr => hu r hr)) q e).elim)
  unfold FL_law_6_793 FL_law_6_803
  by_cases h0 : x = 0
  · rw [if_pos h0, if_pos (hx9 h0), if_pos rfl, if_pos h0]
    rw [if_pos]
    rw [zc0, hT 0 (by decide)]
    refine zand_of (fun y _ hy => ?_)
    have hy20 : y < 20 := by
      rcases Nat.lt_or_ge y 20 with c | c
      · exact c
      · rw [zboth_lo (q_lo hh (t := 2) (by decide)) y c] at hy; cases hy
    rw [zboth_b (q_lo hh (t := 2) (by decide)) hy20, Bool.and_eq_true] at hy
    have ho := aOth_lt hy20
    have l1 := (q_kn hh (t := 2) (by decide) hy20).mp hy.1
    have l2 := (q_kn hh (t := 2) (by decide) ho).mp hy.2
    cases e : zb (v_known 0) y
    · exfalso
      have s1 : zcr rd_came 0 y = 0 := by
        rcases Nat.eq_zero_or_pos (zcr rd_came 0 y) with z | z
        · exact z
        · rw [(q_kn hh (t := 0) (by decide) hy20).mpr z] at e; cases e
      obtain ⟨⟨r0, a1, a2, a3⟩, a4, a5⟩ := zchain hQ hk hy20 l1 s1
      have s2 : zcr rd_came 0 (aOth y) = 0 := by
        rcases Nat.eq_zero_or_pos (zcr rd_came 0 (aOth y)) with z | z
        · exact z
        · exact (zcons1 hQ hk _ (aOth y) ho (Nat.le_refl _) z a4).elim
      obtain ⟨-, -, b5⟩ := zchain hQ hk ho l2 s2
      rw [aOth2 hy20] at b5
      refine h2 h0 (fun r => r < N ∧ aApp c_body c_excepts (zKc rd_came (k + 1)) r = true ∧ (aFwd c_kind c_head of r (nI y) = true ∨ aFwd c_kind c_head of r (nI (aOth y)) = true)) (fun r hr => hr.1) (Or.inr (fun r hr => ?_)) r0 ⟨a1, a3, Or.inl a2⟩
      obtain ⟨r1, r2, r3 | r3⟩ := hr
      · obtain ⟨s, g1, g2, g3, g4⟩ := b5 r r1 r3 r2
        exact ⟨s, ⟨g1, g3, Or.inr g2⟩, g4⟩
      · obtain ⟨s, g1, g2, g3, g4⟩ := a5 r r1 r3 r2
        exact ⟨s, ⟨g1, g3, Or.inl g2⟩, g4⟩
    · rfl
  · have hx : ¬ x9 = 0 := fun e => h0 (zb_ext (fun q _ => by
      rw [zb_0]
      cases e2 : zb x q
      · rfl
      · have := hsub q e2
        rw [e, zb_0] at this; cases this))
    rw [if_neg h0, if_neg hx, if_pos rfl, if_neg h0]
theorem q_seg7 (hN : N ≤ 16) (hT : ∀ t : Nat, t < 4 → tf t = v_known t) (hg : zWg N c_body c_excepts v_known v_applies v_falls sb nb) : (FL_law_7 c_kind c_head c_body c_excepts c_power c_beats (nI N) c_shut v_applies v_falls tf (nI N)) = 1 := by
  unfold FL_law_7
  obtain ⟨s, -, e⟩ := zloopI (S := Unit) (L := fun n i _ => (FL_law_7_829 c_kind c_head c_body c_excepts c_power c_beats (nI N) c_shut v_applies v_falls tf (nI N)) ((FL_law_7_883 c_kind c_head c_body c_excepts c_power c_beats (nI N) c_shut v_applies v_falls tf (nI N))) n i) (kt := fun _ => (1 : Int32)) N (I := fun _ _ => True) (by
    intro n s _
    have hun : (FL_law_7_829 c_kind c_head c_body c_excepts c_power c_beats (nI N) c_shut v_applies v_falls tf (nI N)) ((FL_law_7_883 c_kind c_head c_body c_excepts c_power c_beats (nI N) c_shut v_applies v_falls tf (nI N))) (n + 1) (nI N) = _ := FL_law_7_829.eq_2 ..
    rw [if_pos (show nI N ≤ nI N from nI_le (Nat.le_refl N) (by omega))] at hun
    exact hun) (by
    intro n r s hr _
    refine ⟨(), trivial, ?_⟩
    have hun : (FL_law_7_829 c_kind c_head c_body c_excepts c_power c_beats (nI N) c_shut v_applies v_falls tf (nI N)) ((FL_law_7_883 c_kind c_head c_body c_excepts c_power c_beats (nI N) c_shut v_applies v_falls tf (nI N))) (n + 1) (nI r) = _ := FL_law_7_829.eq_2 ..
    have e2 : tf 2 = v_known 2 := hT 2 (by decide)
    have e3 : tf 3 = v_known 3 := hT 3 (by decide)
    have ea : aApp c_body c_excepts tf r = zb v_applies r := by
      rw [zM_b hg.1 hr]; unfold aApp; rw [e2, e3]
    have ef : aFal c_body c_excepts tf r = zb v_falls r := by
      rw [zM_b hg.2.1 hr]; unfold aFal; rw [e2, e3]
    have es : FX8_state_s (nI N) v_applies v_falls (nI r) = zi (zb v_applies r) + 2 * zi (zb v_falls r) := by
      unfold FX8_state_s
      rw [q_has hN hr, if_neg (by decide), z_bit (show r < 32 by omega), z_bit (show r < 32 by omega)]
    rw [if_neg (show ¬ nI N ≤ nI r from nI_ge hr (by omega)), bndx, bndx, es, q_app hN hr, ea] at hun
    refine hun.trans ?_
    unfold FL_law_7_856 FL_law_7_871
    rw [bndx, bndx, q_fal hN hr, ef, nI_1]
    cases zb v_applies r <;> cases zb v_falls r <;> rfl) 17 0 () (by omega) (by omega) trivial
  exact e
end ZSEG6
