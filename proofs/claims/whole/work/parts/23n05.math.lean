theorem zCh_mono {isS isS' : Int32} {C' : S0} {sg' : Nat → Nat} {y' : Nat → S0} {D' : Nat} {un' : Int32} {R R1 R' : zC} {ch' : Nat → Int32} {dn' ud' : Int32} (hq : qout R R1) (h : zCh isS 0 C' sg' y' D' un' R1 R' ch' dn' ud') (e : isS' = 0) : zCh isS isS' C' sg' y' D' un' R R' ch' dn' ud' := by
  obtain ⟨a1, a2, a3, a4, a5, a6, -⟩ := h
  exact ⟨a1, a2, a3, a4, a5, qout_t hq a6, Or.inl e⟩
theorem q_does2 {isS un : Int32} {C' : S0} {sg : Nat → Nat} {y : Nat → S0} {D U : Nat} {ch : Nat → Int32} {R R' : zC} {w o wi was is f1 f2 f3 : Int32} {k1 k2 k3 k4 k5 k6 : Nat → Int32} (e1 : g0_kind C' = k1) (e2 : g0_head C' = k2) (e3 : g0_body C' = k3) (e4 : g0_excepts C' = k4) (e5 : g0_power C' = k5) (e6 : g0_beats C' = k6) (e7 : g0_facts C' = f1) (e8 : g0_size C' = f2) (e9 : g0_shut C' = f3) (e10 : qbec R w o wi is = R') (hD : D ≤ 12) (hH : zHis sg y D U ch R) (hg : zcgs ch) (ho : ¬ w = 0 → ¬ w = 1 → ∃ k : Nat, k < 16 ∧ o = nI k)
    (hs : ∀ X : zC, qeq R X → qstep X (qbec X w o wi is) w o wi was is) (hR : zRel C' (qbec R w o wi is)) : zCh isS 0 C' (zkS sg D) (va_up y (zkS sg D (zkD D)) (zcq (y (zkS sg D (zkD D))) k1 k2 k3 k4 k5 k6 f1 f2 f3)) (zkD D) 0 R R' (FX9_changed ch (nI D) un w o wi was is).1 (FX9_changed ch (nI D) un w o wi was is).2.1 (FX9_changed ch (nI D) un w o wi was is).2.2 := by
  subst e1 e2 e3 e4 e5 e6 e7 e8 e9 e10
  exact q_does hD hH hg ho hs hR
theorem r_does1 {fa ru dn ud o : Int32} {sg of ov ch : Nat → Int32} : FX9_does fa ru sg of ov ch dn ud 1 o 0 0 1 = (0, fa, o + 1, sg, of, ov, (FX9_changed ch dn ud 1 o 0 0 1).1, (FX9_changed ch dn ud 1 o 0 0 1).2.1, (FX9_changed ch dn ud 1 o 0 0 1).2.2) := by
  unfold FX9_does FX9_becomes
  rw [if_neg (show ¬ (1 : Int32) = 0 by decide), if_pos rfl]
  generalize FX9_changed ch dn ud 1 o 0 0 1 = C
  rfl
section ZADDS2
variable {m_facts : Int32} {m_rules : Int32} {m_kind : Nat → Int32} {m_head : Nat → Int32} {m_body : Nat → Int32} {m_except : Nat → Int32} {m_strength : Nat → Int32} {m_off : Nat → Int32} {m_over : Nat → Int32} {m_change : Nat → Int32} {m_done : Int32} {m_undone : Int32} {x1 : Int32} {x2 : Int32} {x3 : Int32} {x4 : Int32} {x5 : Int32}
theorem r_adds1 : (FX9_adds m_facts m_rules m_kind m_head m_body m_except m_strength m_off m_over m_change m_done m_undone x1 x2 x3 x4 x5) = (FX9_adds_67 m_facts m_rules m_kind m_head m_body m_except m_strength m_off m_over m_change m_done m_undone x1 x2 x3 x4 x5) ((FX9_adds_96 m_facts m_rules m_kind m_head m_body m_except m_strength m_off m_over m_change m_done m_undone x1 x2 x3 x4 x5)) 17 m_rules 0 m_facts m_rules (upd m_kind m_rules.toNatClampNeg x1) (upd m_head m_rules.toNatClampNeg x2) (upd m_body m_rules.toNatClampNeg x3) (upd m_except m_rules.toNatClampNeg x4) (upd m_strength m_rules.toNatClampNeg x5) (upd m_off m_rules.toNatClampNeg 0) (upd m_over m_rules.toNatClampNeg 0) m_change m_done m_undone := by
  unfold FX9_adds
  rw [bnd_eq rfl, bnd_eq rfl, bnd_eq rfl, bnd_eq rfl, bnd_eq rfl, bnd_eq rfl, bnd_eq rfl]
end ZADDS2
theorem r_adds {fa dn ud x1 x2 x3 x4 x5 : Int32} {kd hd bd ex sg of ov ch : Nat → Int32} {N : Nat} (c : N < 16) : FX9_adds fa (nI N) kd hd bd ex sg of ov ch dn ud x1 x2 x3 x4 x5 = (nI N, fa, nI N + 1, upd kd N x1, upd hd N x2, upd bd N x3, upd ex N x4, upd sg N x5, upd of N 0, (fun k => if k < 16 then upd ov N 0 k &&& ((1 <<< (nI N &&& 31)) ^^^ (-1)) else upd ov N 0 k), (FX9_changed ch dn ud 1 (nI N) 0 0 1).1, (FX9_changed ch dn ud 1 (nI N) 0 0 1).2.1, (FX9_changed ch dn ud 1 (nI N) 0 0 1).2.2) := by
  rw [r_adds1, r_adds67 c, nI_clamp (show N < 2 ^ 31 by omega)]
  unfold FX9_adds_96
  rw [r_does1]
  generalize FX9_changed ch dn ud 1 (nI N) 0 0 1 = C
  rfl
theorem k_add {kd hd bd ex sg ov : Nat → Int32} {x1 x2 x3 x4 x5 : Int32} {N : Nat} (c : N < 16) : FX0_add kd hd bd ex sg ov (nI N) x1 x2 x3 x4 x5 = (1, upd kd N x1, upd hd N x2, upd bd N x3, upd ex N x4, upd sg N x5, upd ov N 0, nI (N + 1)) := by
  unfold FX0_add
  rw [if_pos (show nI N < (16 : Int32) from nI_lt (b := 16) c (by decide)), nI_clamp (show N < 2 ^ 31 by omega), nI_1]
  rfl
theorem e_addrule {bc : S0} {isS x1 x2 x3 x4 x5 : Int32} {sg : Nat → Nat} {y : Nat → S0} {D U : Nat} {ch : Nat → Int32} {R : zC} (hD : D ≤ 12) (hR : zRel bc R) (hH : zHis sg y D U ch R) (hg : zcgs ch) {T : (Int32 × (Int32) × (Nat → Int32) × (Nat → Int32) × (Nat → Int32) × (Nat → Int32) × (Nat → Int32) × (Nat → Int32) × (Int32) × (Nat → Nat) × (Nat → S0) × (Nat) × (Int32))} {V : (Int32 × (Int32) × (Int32) × (Nat → Int32) × (Nat → Int32) × (Nat → Int32) × (Nat → Int32) × (Nat → Int32) × (Nat → Int32) × (Nat → Int32) × (Nat → Int32) × (Int32) × (Int32))}
    (hT : FX8_rule isS (g0_kind bc) (g0_head bc) (g0_body bc) (g0_excepts bc) (g0_power bc) (g0_beats bc) (g0_facts bc) (g0_size bc) (g0_shut bc) sg y D (nI U) x1 x2 x3 x4 x5 = T) (hV : FX9_rule (qfa R) (qru R) (qkd R) (qhd R) (qbd R) (qex R) (qsg R) (qof R) (qov R) ch (nI D) (nI U) x1 x2 x3 x4 x5 = V) :
    T.1 = V.1 ∧ zCh isS T.2.1 (s0_all bc T.2.2.1 T.2.2.2.1 T.2.2.2.2.1 T.2.2.2.2.2.1 T.2.2.2.2.2.2.1 T.2.2.2.2.2.2.2.1 T.2.2.2.2.2.2.2.2.1) T.2.2.2.2.2.2.2.2.2.1 T.2.2.2.2.2.2.2.2.2.2.1 T.2.2.2.2.2.2.2.2.2.2.2.1 T.2.2.2.2.2.2.2.2.2.2.2.2 R (V.2.2.2.1, V.2.2.2.2.1, V.2.2.2.2.2.1, V.2.2.2.2.2.2.1, V.2.2.2.2.2.2.2.1, V.2.2.2.2.2.2.2.2.1, V.2.2.2.2.2.2.2.2.2.1, V.2.1, V.2.2.1) V.2.2.2.2.2.2.2.2.2.2.1 V.2.2.2.2.2.2.2.2.2.2.2.1 V.2.2.2.2.2.2.2.2.2.2.2.2 := by
  have hbad : zCh isS isS (s0_all bc (g0_kind bc) (g0_head bc) (g0_body bc) (g0_excepts bc) (g0_power bc) (g0_beats bc) (g0_size bc)) sg y D (nI U) R (qkd R, qhd R, qbd R, qex R, qsg R, qof R, qov R, qfa R, qru R) ch (nI D) (nI U) := ⟨hD, rfl, ⟨U, rfl, rfl, hH⟩, hR, hg, qout_r R, Or.inr ⟨rfl, rfl⟩⟩
  by_cases ok : zrok x1 x2 x3 x4 x5
  · rw [rule_ok8 ok] at hT
    rw [rule_ok9 ok] at hV
    obtain ⟨N, hN, h1, h2, -⟩ := id hR
    unfold FX8_rule_52 at hT
    unfold FX9_rule_59 at hV
    rw [h2] at hT
    rw [h1] at hV
    by_cases c : N < 16
    · rw [k_add c] at hT
      rw [if_neg (show ¬ nI N = (16 : Int32) from fun e => by have := (nI_eq (b := 16) (by omega) (by decide)).mp e; omega), r_adds c] at hV
      have hT : (nI (N + 1) - 1, (0 : Int32), upd (g0_kind bc) N x1, upd (g0_head bc) N x2, upd (g0_body bc) N x3, upd (g0_excepts bc) N x4, upd (g0_power bc) N x5, upd (g0_beats bc) N 0, nI (N + 1), zkS sg D, va_up y (zkS sg D (zkD D)) (zcq (y (zkS sg D (zkD D))) (upd (g0_kind bc) N x1) (upd (g0_head bc) N x2) (upd (g0_body bc) N x3) (upd (g0_excepts bc) N x4) (upd (g0_power bc) N x5) (upd (g0_beats bc) N 0) (g0_facts bc) (nI (N + 1)) (g0_shut bc)), zkD D, (0 : Int32)) = T := hT
      have hV : (nI N, qfa R, nI N + 1, upd (qkd R) N x1, upd (qhd R) N x2, upd (qbd R) N x3, upd (qex R) N x4, upd (qsg R) N x5, upd (qof R) N 0, (fun k => if k < 16 then upd (qov R) N 0 k &&& ((1 <<< (nI N &&& 31)) ^^^ (-1)) else upd (qov R) N 0 k), (FX9_changed ch (nI D) (nI U) 1 (nI N) 0 0 1).1, (FX9_changed ch (nI D) (nI U) 1 (nI N) 0 0 1).2.1, (FX9_changed ch (nI D) (nI U) 1 (nI N) 0 0 1).2.2) = V := hV
      have key := q_does2 (isS := isS) (un := nI U) (C' := s0_all bc (upd (g0_kind bc) N x1) (upd (g0_head bc) N x2) (upd (g0_body bc) N x3) (upd (g0_excepts bc) N x4) (upd (g0_power bc) N x5) (upd (g0_beats bc) N 0) (nI (N + 1))) (R := zadd R N x1 x2 x3 x4 x5) (w := 1) (o := nI N) (wi := 0) (was := 0) (is := 1) (k1 := upd (g0_kind bc) N x1) (k2 := upd (g0_head bc) N x2) (k3 := upd (g0_body bc) N x3) (k4 := upd (g0_excepts bc) N x4) (k5 := upd (g0_power bc) N x5) (k6 := upd (g0_beats bc) N 0) (f1 := g0_facts bc) (f2 := nI (N + 1)) (f3 := g0_shut bc) rfl rfl rfl rfl rfl rfl rfl rfl rfl (qbec_ru _ _ _ _) hD (zHis_add (x1 := x1) (x2 := x2) (x3 := x3) (x4 := x4) (x5 := x5) hH c h1) hg (fun _ h => absurd rfl h) (fun X hX => ?_) (q_add c h1 hR ok)
      · rw [← hT, ← hV]
        exact ⟨nI_pred N, zCh_mono (zadd_out (x1 := x1) (x2 := x2) (x3 := x3) (x4 := x4) (x5 := x5) c) key rfl⟩
      · have hXr : qru X = nI N := by rw [← hX.2.2]; exact h1
        refine ⟨rfl, ?_, Or.inr (Or.inl rfl), N, N + 1, by omega, by omega, hXr, ?_⟩
        · rw [qbec_ru, qbec_ru]
          show X = (_, _, _, _, _, _, _, _, nI N + 0)
          rw [show nI N + 0 = qru X from by rw [hXr]; exact nI_add N 0]
        · rw [qbec_ru]
          exact nI_1 N
    · obtain rfl : N = 16 := by omega
      have e0 : FX0_add (g0_kind bc) (g0_head bc) (g0_body bc) (g0_excepts bc) (g0_power bc) (g0_beats bc) (nI 16) x1 x2 x3 x4 x5 = (0, g0_kind bc, g0_head bc, g0_body bc, g0_excepts bc, g0_power bc, g0_beats bc, nI 16) := by
        unfold FX0_add
        rw [if_neg (show ¬ nI 16 < (16 : Int32) by decide)]
      rw [e0] at hT
      rw [if_pos (show nI 16 = (16 : Int32) from rfl)] at hV
      have hT : (-3, isS, g0_kind bc, g0_head bc, g0_body bc, g0_excepts bc, g0_power bc, g0_beats bc, nI 16, sg, y, D, nI U) = T := hT
      rw [← hT, ← hV]
      rw [h1, h2] at hbad
      exact ⟨rfl, hbad⟩
  · rw [rule_bad8 ok] at hT
    rw [rule_bad9 ok] at hV
    subst hT hV
    exact ⟨rfl, hbad⟩
/-- the court with all laid in from another -/
abbrev s0_cp (bc : S0) (kd hd bd ex sg ov : Nat → Int32) (fa sz sh : Int32) : S0 := s0_shut (s0_size (s0_facts (s0_beats (s0_power (s0_excepts (s0_body (s0_head (s0_kind bc kd) hd) bd) ex) sg) ov) fa) sz) sh
theorem ceq_cp (bc B : S0) : ceq (s0_cp bc (FX0_copyFrom (g0_kind bc) (g0_head bc) (g0_body bc) (g0_excepts bc) (g0_power bc) (g0_beats bc) (g0_facts bc) (g0_size bc) (g0_shut bc) (g0_kind B) (g0_head B) (g0_body B) (g0_excepts B) (g0_power B) (g0_beats B) (g0_facts B) (g0_size B) (g0_shut B)).1 (FX0_copyFrom (g0_kind bc) (g0_head bc) (g0_body bc) (g0_excepts bc) (g0_power bc) (g0_beats bc) (g0_facts bc) (g0_size bc) (g0_shut bc) (g0_kind B) (g0_head B) (g0_body B) (g0_excepts B) (g0_power B) (g0_beats B) (g0_facts B) (g0_size B) (g0_shut B)).2.1 (FX0_copyFrom (g0_kind bc) (g0_head bc) (g0_body bc) (g0_excepts bc) (g0_power bc) (g0_beats bc) (g0_facts bc) (g0_size bc) (g0_shut bc) (g0_kind B) (g0_head B) (g0_body B) (g0_excepts B) (g0_power B) (g0_beats B) (g0_facts B) (g0_size B) (g0_shut B)).2.2.1 (FX0_copyFrom (g0_kind bc) (g0_head bc) (g0_body bc) (g0_excepts bc) (g0_power bc) (g0_beats bc) (g0_facts bc) (g0_size bc) (g0_shut bc) (g0_kind B) (g0_head B) (g0_body B) (g0_excepts B) (g0_power B) (g0_beats B) (g0_facts B) (g0_size B) (g0_shut B)).2.2.2.1 (FX0_copyFrom (g0_kind bc) (g0_head bc) (g0_body bc) (g0_excepts bc) (g0_power bc) (g0_beats bc) (g0_facts bc) (g0_size bc) (g0_shut bc) (g0_kind B) (g0_head B) (g0_body B) (g0_excepts B) (g0_power B) (g0_beats B) (g0_facts B) (g0_size B) (g0_shut B)).2.2.2.2.1 (FX0_copyFrom (g0_kind bc) (g0_head bc) (g0_body bc) (g0_excepts bc) (g0_power bc) (g0_beats bc) (g0_facts bc) (g0_size bc) (g0_shut bc) (g0_kind B) (g0_head B) (g0_body B) (g0_excepts B) (g0_power B) (g0_beats B) (g0_facts B) (g0_size B) (g0_shut B)).2.2.2.2.2.1 (g0_facts B) (g0_size B) (g0_shut B)) B :=
  ⟨fun r hr => ⟨zcp16 _ _ hr, zcp16 _ _ hr, zcp16 _ _ hr, zcp16 _ _ hr, zcp16 _ _ hr, zcp16 _ _ hr⟩, rfl, rfl, rfl⟩
theorem qchg {ch : Nat → Int32} {D : Nat} (hg : zcgs ch) (hD : D < 12) : ¬ ch (5 * D) = 0 → ¬ ch (5 * D) = 1 → ∃ k : Nat, k < 16 ∧ ch (5 * D + 1) = nI k := fun h0 h1 => by
  obtain ⟨k, hk, e⟩ := vp_in_of (hg D hD h0 h1) (by decide)
  exact ⟨k, hk, e⟩
theorem z5n {D : Nat} (hD : D < 12) : (5 * nI D).toNatClampNeg = 5 * D ∧ (5 * nI D + 1).toNatClampNeg = 5 * D + 1 ∧ (5 * nI D + 2).toNatClampNeg = 5 * D + 2 ∧ (5 * nI D + 3).toNatClampNeg = 5 * D + 3 ∧ (5 * nI D + 4).toNatClampNeg = 5 * D + 4 := by
  have e : ∀ k : Nat, k < 5 → (5 * nI D + nI k).toNatClampNeg = 5 * D + k := fun k hk => by rw [show (5 : Int32) = nI 5 from rfl, pk_mul, nI_add, nI_clamp (by omega)]
  refine ⟨by rw [show (5 : Int32) = nI 5 from rfl, pk_mul, nI_clamp (by omega)], e 1 (by omega), e 2 (by omega), e 3 (by omega), e 4 (by omega)⟩
theorem e_undo {bc : S0} {isS : Int32} {sg : Nat → Nat} {y : Nat → S0} {D U : Nat} {ch : Nat → Int32} {R : zC} (hD : D ≤ 12) (hR : zRel bc R) (hH : zHis sg y D U ch R) (hg : zcgs ch) {T : (Int32 × (Int32) × (Nat → Int32) × (Nat → Int32) × (Nat → Int32) × (Nat → Int32) × (Nat → Int32) × (Nat → Int32) × (Int32) × (Int32) × (Int32) × (Nat) × (Int32))} {V : (Int32 × (Int32) × (Int32) × (Nat → Int32) × (Nat → Int32) × (Nat → Int32) × (Int32) × (Int32))}
    (hT : FX8_undo isS (g0_kind bc) (g0_head bc) (g0_body bc) (g0_excepts bc) (g0_power bc) (g0_beats bc) (g0_facts bc) (g0_size bc) (g0_shut bc) sg y D (nI U) = T) (hV : FX9_undo (qfa R) (qru R) (qsg R) (qof R) (qov R) ch (nI D) (nI U) = V) :
    T.1 = V.1 ∧ zCh isS T.2.1 (s0_cp bc T.2.2.1 T.2.2.2.1 T.2.2.2.2.1 T.2.2.2.2.2.1 T.2.2.2.2.2.2.1 T.2.2.2.2.2.2.2.1 T.2.2.2.2.2.2.2.2.1 T.2.2.2.2.2.2.2.2.2.1 T.2.2.2.2.2.2.2.2.2.2.1) sg y T.2.2.2.2.2.2.2.2.2.2.2.1 T.2.2.2.2.2.2.2.2.2.2.2.2 R (qkd R, qhd R, qbd R, qex R, V.2.2.2.1, V.2.2.2.2.1, V.2.2.2.2.2.1, V.2.1, V.2.2.1) ch V.2.2.2.2.2.2.1 V.2.2.2.2.2.2.2 := by
  unfold FX8_undo FX1_stepBack at hT
  unfold FX9_undo at hV
  simp only [bnd] at hT hV
  cases D with
  | zero =>
    rw [if_pos rfl] at hT
    rw [if_pos (show nI 0 = (0 : Int32) from rfl)] at hV
    simp only [if_true] at hT
    subst hT hV
    exact ⟨rfl, hD, rfl, ⟨U, rfl, rfl, hH⟩, hR, hg, qout_r R, Or.inr ⟨rfl, rfl⟩⟩
  | succ D =>
    rw [if_neg (Nat.succ_ne_zero D)] at hT
    rw [if_neg (nI_ne0 (Nat.succ_pos D) (by omega)), nI_pred] at hV
    obtain ⟨i0, i1, i2, i3, i4⟩ := z5n (D := D) (by omega)
    rw [i0, i1, i2, i3] at hV
    simp only [Nat.add_sub_cancel, if_neg (show ¬ (1 : Int32) = 0 by decide), nI_1] at hT
    simp only [nI_1] at hV
    obtain ⟨k1, k2⟩ := zHis_undo hH
    subst hT hV
    exact ⟨rfl, by show D ≤ 12; omega, rfl, ⟨U + 1, rfl, rfl, k1⟩, zRel_ceq (ceq_cp bc (y (sg D))) k2, hg, qbec_out (qchg hg (by omega)), Or.inl rfl⟩
theorem e_redo {bc : S0} {isS : Int32} {sg : Nat → Nat} {y : Nat → S0} {D U : Nat} {ch : Nat → Int32} {R : zC} (hD : D ≤ 12) (hR : zRel bc R) (hH : zHis sg y D U ch R) (hg : zcgs ch) {T : (Int32 × (Int32) × (Nat → Int32) × (Nat → Int32) × (Nat → Int32) × (Nat → Int32) × (Nat → Int32) × (Nat → Int32) × (Int32) × (Int32) × (Int32) × (Nat) × (Int32))} {V : (Int32 × (Int32) × (Int32) × (Nat → Int32) × (Nat → Int32) × (Nat → Int32) × (Int32) × (Int32))}
    (hT : FX8_redo isS (g0_kind bc) (g0_head bc) (g0_body bc) (g0_excepts bc) (g0_power bc) (g0_beats bc) (g0_facts bc) (g0_size bc) (g0_shut bc) sg y D (nI U) = T) (hV : FX9_redo (qfa R) (qru R) (qsg R) (qof R) (qov R) ch (nI D) (nI U) = V) :
    T.1 = V.1 ∧ zCh isS T.2.1 (s0_cp bc T.2.2.1 T.2.2.2.1 T.2.2.2.2.1 T.2.2.2.2.2.1 T.2.2.2.2.2.2.1 T.2.2.2.2.2.2.2.1 T.2.2.2.2.2.2.2.2.1 T.2.2.2.2.2.2.2.2.2.1 T.2.2.2.2.2.2.2.2.2.2.1) sg y T.2.2.2.2.2.2.2.2.2.2.2.1 T.2.2.2.2.2.2.2.2.2.2.2.2 R (qkd R, qhd R, qbd R, qex R, V.2.2.2.1, V.2.2.2.2.1, V.2.2.2.2.2.1, V.2.1, V.2.2.1) ch V.2.2.2.2.2.2.1 V.2.2.2.2.2.2.2 := by
  unfold FX8_redo FX1_stepOn at hT
  unfold FX9_redo at hV
  simp only [bnd] at hT hV
  have hDU : D + U ≤ 12 := hH.2.2.1
  cases U with
  | zero =>
    rw [if_pos (Or.inl (show nI 0 = (0 : Int32) from rfl))] at hT
    rw [if_pos (show nI 0 = (0 : Int32) from rfl)] at hV
    simp only [if_true] at hT
    subst hT hV
    exact ⟨rfl, hD, rfl, ⟨0, rfl, rfl, hH⟩, hR, hg, qout_r R, Or.inr ⟨rfl, rfl⟩⟩
  | succ U =>
    have hU0 : ¬ nI (U + 1) = 0 := nI_ne0 (Nat.succ_pos U) (by omega)
    rw [if_neg (show ¬ (nI (U + 1) = 0 ∨ D = 12) from fun h => h.elim hU0 (by omega))] at hT
    rw [if_neg hU0, nI_pred, nI_1] at hV
    obtain ⟨i0, i1, i2, i3, i4⟩ := z5n (D := D) (by omega)
    rw [i0, i1, i2, i4] at hV
    simp only [if_neg (show ¬ (1 : Int32) = 0 by decide), nI_pred] at hT
    obtain ⟨k1, k2⟩ := zHis_redo hH
    subst hT hV
    exact ⟨rfl, by show D + 1 ≤ 12; omega, rfl, ⟨U, rfl, rfl, k1⟩, zRel_ceq (ceq_cp bc (y (sg (D + 1)))) k2, hg, qbec_out (qchg hg (by omega)), Or.inl rfl⟩
theorem e_begin {bc : S0} {isS un : Int32} {sg : Nat → Nat} {y : Nat → S0} {D U : Nat} {ch : Nat → Int32} {R : zC} (hR : zRel bc R) (hH : zHis sg y D U ch R) (hg : zcgs ch) {dn ud : Int32} {T : (Int32 × (Int32) × (Int32) × (Int32) × (Int32) × (Nat → S0) × (Nat) × (Int32))} {V : (Int32 × (Int32) × (Int32) × (Int32) × (Int32))}
    (hT : FX8_begin isS (g0_kind bc) (g0_head bc) (g0_body bc) (g0_excepts bc) (g0_power bc) (g0_beats bc) (g0_facts bc) (g0_size bc) (g0_shut bc) sg y D un = T) (hV : FX9_begin (qfa R) (qru R) dn ud = V) :
    T.1 = V.1 ∧ zCh isS T.2.1 (s0_shut (s0_size (s0_facts bc T.2.2.1) T.2.2.2.1) T.2.2.2.2.1) sg T.2.2.2.2.2.1 T.2.2.2.2.2.2.1 T.2.2.2.2.2.2.2 R (qkd R, qhd R, qbd R, qex R, qsg R, qof R, qov R, V.2.1, V.2.2.1) ch V.2.2.2.1 V.2.2.2.2 := by
  unfold FX8_begin FX8_restart FX1_restart FX0_clear at hT
  unfold FX9_begin at hV
  simp only [bnd] at hT
  obtain ⟨N, hN, h1, h2, h3, h4, h5, h6, h7, h8, h9⟩ := hR
  have hz : zRel (s0_shut (s0_size (s0_facts bc 0) 0) 0) (qkd R, qhd R, qbd R, qex R, qsg R, qof R, qov R, 0, 0) := ⟨0, by omega, rfl, rfl, rfl, fun q _ => zb_0 q, fun r hr => absurd hr (Nat.not_lt_zero r), fun r hr => absurd hr (Nat.not_lt_zero r), fun q _ => zb_0 q, h8, h9⟩
  subst hT hV
  refine ⟨h2.trans h1.symm, by show (0 : Nat) ≤ 12; omega, rfl, ⟨0, rfl, rfl, zHis_new hH.1 hH.2.1 ?_⟩, hz, hg, fun _ _ => ⟨rfl, rfl, rfl, rfl, rfl, rfl, rfl⟩, Or.inl rfl⟩
  show zRel (va_up y (sg 0) _ (sg 0)) _
  rw [show ∀ x, va_up y (sg 0) x (sg 0) = x from fun x => if_pos rfl]
  exact zRel_ceq (ceq_cq (C := s0_shut (s0_size (s0_facts bc 0) 0) 0) _ _ _ _ _ _ _ _ _ _ ⟨rfl, rfl, rfl, rfl, rfl, rfl, rfl, rfl, rfl⟩) hz
/-! rows that keep a court: the image, and what was before -/
def zimg (im : Nat → Int32) : zC := (fun r => im r, fun r => im (16 + r), fun r => im (32 + r), fun r => im (48 + r), fun r => im (64 + r), fun r => im (80 + r), fun r => im (96 + r), im 112, im 113)
theorem z16n {c i : Nat} (hc : c < 100) (hi : i < 16) : (nI c + nI i).toNatClampNeg = c + i := by rw [nI_add, nI_clamp (by omega)]
def zkp (kd hd bd ex sg of ov : Nat → Int32) (i : Nat) (f : Nat → Int32) : Prop := ∀ r : Nat, r < i → f r = kd r ∧ f (16 + r) = hd r ∧ f (32 + r) = bd r ∧ f (48 + r) = ex r ∧ f (64 + r) = sg r ∧ f (80 + r) = of r ∧ f (96 + r) = ov r
theorem zkp_s {kd hd bd ex sg of ov f : Nat → Int32} {i : Nat} (hi : i < 16) (h : zkp kd hd bd ex sg of ov i f) : zkp kd hd bd ex sg of ov (i + 1) (upd (upd (upd (upd (upd (upd (upd f i (kd i)) (16 + i) (hd i)) (32 + i) (bd i)) (48 + i) (ex i)) (64 + i) (sg i)) (80 + i) (of i)) (96 + i) (ov i)) := by
  intro r hr
  by_cases e : r = i
  · subst e
    refine ⟨?_, ?_, ?_, ?_, ?_, ?_, ?_⟩
    · rw [pk_un (by omega), pk_un (by omega), pk_un (by omega), pk_un (by omega), pk_un (by omega), pk_un (by omega), pk_us]
    · rw [pk_un (by omega), pk_un (by omega), pk_un (by omega), pk_un (by omega), pk_un (by omega), pk_us]
    · rw [pk_un (by omega), pk_un (by omega), pk_un (by omega), pk_un (by omega), pk_us]
    · rw [pk_un (by omega), pk_un (by omega), pk_un (by omega), pk_us]
    · rw [pk_un (by omega), pk_un (by omega), pk_us]
    · rw [pk_un (by omega), pk_us]
    · rw [pk_us]
  · obtain ⟨a1, a2, a3, a4, a5, a6, a7⟩ := h r (by omega)
    refine ⟨?_, ?_, ?_, ?_, ?_, ?_, ?_⟩
    · rw [pk_un (by omega), pk_un (by omega), pk_un (by omega), pk_un (by omega), pk_un (by omega), pk_un (by omega), pk_un (by omega)]; exact a1
    · rw [pk_un (by omega), pk_un (by omega), pk_un (by omega), pk_un (by omega), pk_un (by omega), pk_un (by omega), pk_un (by omega)]; exact a2
    · rw [pk_un (by omega), pk_un (by omega), pk_un (by omega), pk_un (by omega), pk_un (by omega), pk_un (by omega), pk_un (by omega)]; exact a3
    · rw [pk_un (by omega), pk_un (by omega), pk_un (by omega), pk_un (by omega), pk_un (by omega), pk_un (by omega), pk_un (by omega)]; exact a4
    · rw [pk_un (by omega), pk_un (by omega), pk_un (by omega), pk_un (by omega), pk_un (by omega), pk_un (by omega), pk_un (by omega)]; exact a5
    · rw [pk_un (by omega), pk_un (by omega), pk_un (by omega), pk_un (by omega), pk_un (by omega), pk_un (by omega), pk_un (by omega)]; exact a6
    · rw [pk_un (by omega), pk_un (by omega), pk_un (by omega), pk_un (by omega), pk_un (by omega), pk_un (by omega), pk_un (by omega)]; exact a7
section ZKPimaged
variable {m_facts : Int32} {m_rules : Int32} {m_kind : Nat → Int32} {m_head : Nat → Int32} {m_body : Nat → Int32} {m_except : Nat → Int32} {m_strength : Nat → Int32} {m_off : Nat → Int32} {m_over : Nat → Int32} {m_imaged : Nat → Int32}
theorem r_keeps_imaged : qeq (zimg (FX9_keeps_imaged m_facts m_rules m_kind m_head m_body m_except m_strength m_off m_over m_imaged)) (m_kind, m_head, m_body, m_except, m_strength, m_off, m_over, m_facts, m_rules) := by
  unfold FX9_keeps_imaged
  obtain ⟨s, hs, e⟩ := zloopI (L := fun n x g => FX9_keeps_imaged_2 m_facts m_rules m_kind m_head m_body m_except m_strength m_off m_over m_imaged (FX9_keeps_imaged_95 m_facts m_rules m_kind m_head m_body m_except m_strength m_off m_over m_imaged) n x g) (kt := fun g => FX9_keeps_imaged_95 m_facts m_rules m_kind m_head m_body m_except m_strength m_off m_over m_imaged g) 16 (I := fun i g => zkp m_kind m_head m_body m_except m_strength m_off m_over i g) (by
    intro n g _
    show FX9_keeps_imaged_2 m_facts m_rules m_kind m_head m_body m_except m_strength m_off m_over m_imaged _ (n + 1) (nI 16) g = _
    rw [FX9_keeps_imaged_2, if_pos (show (16 : Int32) ≤ nI 16 from nI_le (Nat.le_refl 16) (by omega))]) (by
    intro n i g hi h
    refine ⟨_, zkp_s hi h, ?_⟩
    show FX9_keeps_imaged_2 m_facts m_rules m_kind m_head m_body m_except m_strength m_off m_over m_imaged _ (n + 1) (nI i) g = FX9_keeps_imaged_2 m_facts m_rules m_kind m_head m_body m_except m_strength m_off m_over m_imaged _ n (nI (i + 1)) _
    rw [FX9_keeps_imaged_2, if_neg (show ¬ (16 : Int32) ≤ nI i from nI_ge (b := 16) hi (by omega)), show (16 : Int32) + nI i = nI 16 + nI i from rfl, show (32 : Int32) + nI i = nI 32 + nI i from rfl, show (48 : Int32) + nI i = nI 48 + nI i from rfl, show (64 : Int32) + nI i = nI 64 + nI i from rfl, show (80 : Int32) + nI i = nI 80 + nI i from rfl, show (96 : Int32) + nI i = nI 96 + nI i from rfl, z16n (by omega) hi, z16n (by omega) hi, z16n (by omega) hi, z16n (by omega) hi, z16n (by omega) hi, z16n (by omega) hi, nI_clamp (show i < 2 ^ 31 by omega), nI_1]) 17 0 m_imaged (by omega) (by omega) (fun r hr => absurd hr (Nat.not_lt_zero r))
  rw [show FX9_keeps_imaged_2 m_facts m_rules m_kind m_head m_body m_except m_strength m_off m_over m_imaged (FX9_keeps_imaged_95 m_facts m_rules m_kind m_head m_body m_except m_strength m_off m_over m_imaged) 17 0 m_imaged = _ from e]
  unfold FX9_keeps_imaged_95
  rw [show (112 : Int32).toNatClampNeg = 112 from by decide, show (113 : Int32).toNatClampNeg = 113 from by decide]
  refine ⟨fun r hr => ?_, ?_, ?_⟩
  · obtain ⟨a1, a2, a3, a4, a5, a6, a7⟩ := hs r hr
    show upd (upd s 112 m_facts) 113 m_rules r = _ ∧ upd (upd s 112 m_facts) 113 m_rules (16 + r) = _ ∧ upd (upd s 112 m_facts) 113 m_rules (32 + r) = _ ∧ upd (upd s 112 m_facts) 113 m_rules (48 + r) = _ ∧ upd (upd s 112 m_facts) 113 m_rules (64 + r) = _ ∧ upd (upd s 112 m_facts) 113 m_rules (80 + r) = _ ∧ upd (upd s 112 m_facts) 113 m_rules (96 + r) = _
    have u : ∀ k : Nat, k < 112 → upd (upd s 112 m_facts) 113 m_rules k = s k := fun k hk => by rw [pk_un (by omega), pk_un (by omega)]
    rw [u _ (by omega), u _ (by omega), u _ (by omega), u _ (by omega), u _ (by omega), u _ (by omega), u _ (by omega)]
    exact ⟨a1, a2, a3, a4, a5, a6, a7⟩
  · show upd (upd s 112 m_facts) 113 m_rules 112 = _
    rw [pk_un (by omega), pk_us]
  · show upd (upd s 112 m_facts) 113 m_rules 113 = _
    rw [pk_us]
end ZKPimaged
section ZAGimaged
variable {m_facts : Int32} {m_rules : Int32} {m_kind : Nat → Int32} {m_head : Nat → Int32} {m_body : Nat → Int32} {m_except : Nat → Int32} {m_strength : Nat → Int32} {m_off : Nat → Int32} {m_over : Nat → Int32} {m_imaged : Nat → Int32}
def zagimaged (m : Nat → Int32) (k0 k1 k2 k3 k4 k5 k6 : Nat → Int32) (i : Nat) (s : (Nat → Int32) × (Nat → Int32) × (Nat → Int32) × (Nat → Int32) × (Nat → Int32) × (Nat → Int32) × (Nat → Int32)) : Prop := s = (fun r => if r < i then m r else k0 r, fun r => if r < i then m (16 + r) else k1 r, fun r => if r < i then m (32 + r) else k2 r, fun r => if r < i then m (48 + r) else k3 r, fun r => if r < i then m (64 + r) else k4 r, fun r => if r < i then m (80 + r) else k5 r, fun r => if r < i then m (96 + r) else k6 r)
theorem r_again_imaged : ∃ T : zC, (FX9_again_imaged m_facts m_rules m_kind m_head m_body m_except m_strength m_off m_over m_imaged) = (qfa T, qru T, qkd T, qhd T, qbd T, qex T, qsg T, qof T, qov T) ∧ qeq T (zimg m_imaged) ∧ qout (m_kind, m_head, m_body, m_except, m_strength, m_off, m_over, m_facts, m_rules) T := by
  unfold FX9_again_imaged
  obtain ⟨s, hs, e⟩ := zloopI (L := fun n x (g : (Nat → Int32) × (Nat → Int32) × (Nat → Int32) × (Nat → Int32) × (Nat → Int32) × (Nat → Int32) × (Nat → Int32)) => FX9_again_imaged_2 m_facts m_rules m_kind m_head m_body m_except m_strength m_off m_over m_imaged (FX9_again_imaged_95 m_facts m_rules m_kind m_head m_body m_except m_strength m_off m_over m_imaged) n x m_facts m_rules g.1 g.2.1 g.2.2.1 g.2.2.2.1 g.2.2.2.2.1 g.2.2.2.2.2.1 g.2.2.2.2.2.2) (kt := fun g => FX9_again_imaged_95 m_facts m_rules m_kind m_head m_body m_except m_strength m_off m_over m_imaged m_facts m_rules g.1 g.2.1 g.2.2.1 g.2.2.2.1 g.2.2.2.2.1 g.2.2.2.2.2.1 g.2.2.2.2.2.2) 16 (I := fun i g => zagimaged m_imaged m_kind m_head m_body m_except m_strength m_off m_over i g) (by
    intro n g _
    show FX9_again_imaged_2 m_facts m_rules m_kind m_head m_body m_except m_strength m_off m_over m_imaged _ (n + 1) (nI 16) _ _ _ _ _ _ _ _ _ = _
    rw [FX9_again_imaged_2, if_pos (show (16 : Int32) ≤ nI 16 from nI_le (Nat.le_refl 16) (by omega))]) (by
    intro n i g hi h
    have h : g = _ := h
    subst h
    refine ⟨_, rfl, ?_⟩
    show FX9_again_imaged_2 m_facts m_rules m_kind m_head m_body m_except m_strength m_off m_over m_imaged _ (n + 1) (nI i) _ _ (fun r => if r < i then m_imaged r else m_kind r) (fun r => if r < i then m_imaged (16 + r) else m_head r) (fun r => if r < i then m_imaged (32 + r) else m_body r) (fun r => if r < i then m_imaged (48 + r) else m_except r) (fun r => if r < i then m_imaged (64 + r) else m_strength r) (fun r => if r < i then m_imaged (80 + r) else m_off r) (fun r => if r < i then m_imaged (96 + r) else m_over r) = FX9_again_imaged_2 m_facts m_rules m_kind m_head m_body m_except m_strength m_off m_over m_imaged _ n (nI (i + 1)) _ _ (fun r => if r < i + 1 then m_imaged r else m_kind r) (fun r => if r < i + 1 then m_imaged (16 + r) else m_head r) (fun r => if r < i + 1 then m_imaged (32 + r) else m_body r) (fun r => if r < i + 1 then m_imaged (48 + r) else m_except r) (fun r => if r < i + 1 then m_imaged (64 + r) else m_strength r) (fun r => if r < i + 1 then m_imaged (80 + r) else m_off r) (fun r => if r < i + 1 then m_imaged (96 + r) else m_over r)
    have u : ∀ (f k : Nat → Int32), upd (fun r => if r < i then f r else k r) i (f i) = fun r => if r < i + 1 then f r else k r := fun f k => by
      funext r
      by_cases a : r = i
      · subst a; rw [pk_us, if_pos (by omega)]
      · rw [pk_un a]
        by_cases b : r < i
        · rw [if_pos b, if_pos (by omega)]
        · rw [if_neg b, if_neg (by omega)]
    rw [FX9_again_imaged_2, if_neg (show ¬ (16 : Int32) ≤ nI i from nI_ge (b := 16) hi (by omega)), show (16 : Int32) + nI i = nI 16 + nI i from rfl, show (32 : Int32) + nI i = nI 32 + nI i from rfl, show (48 : Int32) + nI i = nI 48 + nI i from rfl, show (64 : Int32) + nI i = nI 64 + nI i from rfl, show (80 : Int32) + nI i = nI 80 + nI i from rfl, show (96 : Int32) + nI i = nI 96 + nI i from rfl, z16n (by omega) hi, z16n (by omega) hi, z16n (by omega) hi, z16n (by omega) hi, z16n (by omega) hi, z16n (by omega) hi, nI_clamp (show i < 2 ^ 31 by omega), nI_1, u (fun r => m_imaged r), u (fun r => m_imaged (16 + r)), u (fun r => m_imaged (32 + r)), u (fun r => m_imaged (48 + r)), u (fun r => m_imaged (64 + r)), u (fun r => m_imaged (80 + r)), u (fun r => m_imaged (96 + r))]) 17 0 (m_kind, m_head, m_body, m_except, m_strength, m_off, m_over) (by omega) (by omega) (by
    show _ = _
    have u : ∀ (f k : Nat → Int32), k = fun r => if r < 0 then f r else k r := fun f k => by funext r; rw [if_neg (Nat.not_lt_zero r)]
    exact Prod.ext (u (fun r => m_imaged r) _) (Prod.ext (u (fun r => m_imaged (16 + r)) _) (Prod.ext (u (fun r => m_imaged (32 + r)) _) (Prod.ext (u (fun r => m_imaged (48 + r)) _) (Prod.ext (u (fun r => m_imaged (64 + r)) _) (Prod.ext (u (fun r => m_imaged (80 + r)) _) (u (fun r => m_imaged (96 + r)) _)))))))
  have hs : s = _ := hs
  subst hs
  refine ⟨(fun r => if r < 16 then m_imaged r else m_kind r, fun r => if r < 16 then m_imaged (16 + r) else m_head r, fun r => if r < 16 then m_imaged (32 + r) else m_body r, fun r => if r < 16 then m_imaged (48 + r) else m_except r, fun r => if r < 16 then m_imaged (64 + r) else m_strength r, fun r => if r < 16 then m_imaged (80 + r) else m_off r, fun r => if r < 16 then m_imaged (96 + r) else m_over r, m_imaged 112, m_imaged 113), ?_, ⟨fun r hr => ⟨if_pos hr, if_pos hr, if_pos hr, if_pos hr, if_pos hr, if_pos hr, if_pos hr⟩, rfl, rfl⟩, fun r hr => ⟨if_neg (by omega), if_neg (by omega), if_neg (by omega), if_neg (by omega), if_neg (by omega), if_neg (by omega), if_neg (by omega)⟩⟩
  refine Eq.trans e ?_
  show FX9_again_imaged_95 m_facts m_rules m_kind m_head m_body m_except m_strength m_off m_over m_imaged _ _ _ _ _ _ _ _ _ = _
  unfold FX9_again_imaged_95
  rw [show (112 : Int32).toNatClampNeg = 112 from by decide, show (113 : Int32).toNatClampNeg = 113 from by decide]
end ZAGimaged
section ZKPbefore
variable {m_facts : Int32} {m_rules : Int32} {m_kind : Nat → Int32} {m_head : Nat → Int32} {m_body : Nat → Int32} {m_except : Nat → Int32} {m_strength : Nat → Int32} {m_off : Nat → Int32} {m_over : Nat → Int32} {m_before : Nat → Int32}
theorem r_keeps_before : qeq (zimg (FX9_keeps_before m_facts m_rules m_kind m_head m_body m_except m_strength m_off m_over m_before)) (m_kind, m_head, m_body, m_except, m_strength, m_off, m_over, m_facts, m_rules) := by
  unfold FX9_keeps_before
  obtain ⟨s, hs, e⟩ := zloopI (L := fun n x g => FX9_keeps_before_2 m_facts m_rules m_kind m_head m_body m_except m_strength m_off m_over m_before (FX9_keeps_before_95 m_facts m_rules m_kind m_head m_body m_except m_strength m_off m_over m_before) n x g) (kt := fun g => FX9_keeps_before_95 m_facts m_rules m_kind m_head m_body m_except m_strength m_off m_over m_before g) 16 (I := fun i g => zkp m_kind m_head m_body m_except m_strength m_off m_over i g) (by
    intro n g _
    show FX9_keeps_before_2 m_facts m_rules m_kind m_head m_body m_except m_strength m_off m_over m_before _ (n + 1) (nI 16) g = _
    rw [FX9_keeps_before_2, if_pos (show (16 : Int32) ≤ nI 16 from nI_le (Nat.le_refl 16) (by omega))]) (by
    intro n i g hi h
    refine ⟨_, zkp_s hi h, ?_⟩
    show FX9_keeps_before_2 m_facts m_rules m_kind m_head m_body m_except m_strength m_off m_over m_before _ (n + 1) (nI i) g = FX9_keeps_before_2 m_facts m_rules m_kind m_head m_body m_except m_strength m_off m_over m_before _ n (nI (i + 1)) _
    rw [FX9_keeps_before_2, if_neg (show ¬ (16 : Int32) ≤ nI i from nI_ge (b := 16) hi (by omega)), show (16 : Int32) + nI i = nI 16 + nI i from rfl, show (32 : Int32) + nI i = nI 32 + nI i from rfl, show (48 : Int32) + nI i = nI 48 + nI i from rfl, show (64 : Int32) + nI i = nI 64 + nI i from rfl, show (80 : Int32) + nI i = nI 80 + nI i from rfl, show (96 : Int32) + nI i = nI 96 + nI i from rfl, z16n (by omega) hi, z16n (by omega) hi, z16n (by omega) hi, z16n (by omega) hi, z16n (by omega) hi, z16n (by omega) hi, nI_clamp (show i < 2 ^ 31 by omega), nI_1]) 17 0 m_before (by omega) (by omega) (fun r hr => absurd hr (Nat.not_lt_zero r))
  rw [show FX9_keeps_before_2 m_facts m_rules m_kind m_head m_body m_except m_strength m_off m_over m_before (FX9_keeps_before_95 m_facts m_rules m_kind m_head m_body m_except m_strength m_off m_over m_before) 17 0 m_before = _ from e]
  unfold FX9_keeps_before_95
  rw [show (112 : Int32).toNatClampNeg = 112 from by decide, show (113 : Int32).toNatClampNeg = 113 from by decide]
  refine ⟨fun r hr => ?_, ?_, ?_⟩
  · obtain ⟨a1, a2, a3, a4, a5, a6, a7⟩ := hs r hr
    show upd (upd s 112 m_facts) 113 m_rules r = _ ∧ upd (upd s 112 m_facts) 113 m_rules (16 + r) = _ ∧ upd (upd s 112 m_facts) 113 m_rules (32 + r) = _ ∧ upd (upd s 112 m_facts) 113 m_rules (48 + r) = _ ∧ upd (upd s 112 m_facts) 113 m_rules (64 + r) = _ ∧ upd (upd s 112 m_facts) 113 m_rules (80 + r) = _ ∧ upd (upd s 112 m_facts) 113 m_rules (96 + r) = _
    have u : ∀ k : Nat, k < 112 → upd (upd s 112 m_facts) 113 m_rules k = s k := fun k hk => by rw [pk_un (by omega), pk_un (by omega)]
    rw [u _ (by omega), u _ (by omega), u _ (by omega), u _ (by omega), u _ (by omega), u _ (by omega), u _ (by omega)]
    exact ⟨a1, a2, a3, a4, a5, a6, a7⟩
  · show upd (upd s 112 m_facts) 113 m_rules 112 = _
    rw [pk_un (by omega), pk_us]
  · show upd (upd s 112 m_facts) 113 m_rules 113 = _
    rw [pk_us]
end ZKPbefore
section ZAGbefore
variable {m_facts : Int32} {m_rules : Int32} {m_kind : Nat → Int32} {m_head : Nat → Int32} {m_body : Nat → Int32} {m_except : Nat → Int32} {m_strength : Nat → Int32} {m_off : Nat → Int32} {m_over : Nat → Int32} {m_before : Nat → Int32}
def zagbefore (m : Nat → Int32) (k0 k1 k2 k3 k4 k5 k6 : Nat → Int32) (i : Nat) (s : (Nat → Int32) × (Nat → Int32) × (Nat → Int32) × (Nat → Int32) × (Nat → Int32) × (Nat → Int32) × (Nat → Int32)) : Prop := s = (fun r => if r < i then m r else k0 r, fun r => if r < i then m (16 + r) else k1 r, fun r => if r < i then m (32 + r) else k2 r, fun r => if r < i then m (48 + r) else k3 r, fun r => if r < i then m (64 + r) else k4 r, fun r => if r < i then m (80 + r) else k5 r, fun r => if r < i then m (96 + r) else k6 r)
theorem r_again_before : ∃ T : zC, (FX9_again_before m_facts m_rules m_kind m_head m_body m_except m_strength m_off m_over m_before) = (qfa T, qru T, qkd T, qhd T, qbd T, qex T, qsg T, qof T, qov T) ∧ qeq T (zimg m_before) ∧ qout (m_kind, m_head, m_body, m_except, m_strength, m_off, m_over, m_facts, m_rules) T := by
  unfold FX9_again_before
  obtain ⟨s, hs, e⟩ := zloopI (L := fun n x (g : (Nat → Int32) × (Nat → Int32) × (Nat → Int32) × (Nat → Int32) × (Nat → Int32) × (Nat → Int32) × (Nat → Int32)) => FX9_again_before_2 m_facts m_rules m_kind m_head m_body m_except m_strength m_off m_over m_before (FX9_again_before_95 m_facts m_rules m_kind m_head m_body m_except m_strength m_off m_over m_before) n x m_facts m_rules g.1 g.2.1 g.2.2.1 g.2.2.2.1 g.2.2.2.2.1 g.2.2.2.2.2.1 g.2.2.2.2.2.2) (kt := fun g => FX9_again_before_95 m_facts m_rules m_kind m_head m_body m_except m_strength m_off m_over m_before m_facts m_rules g.1 g.2.1 g.2.2.1 g.2.2.2.1 g.2.2.2.2.1 g.2.2.2.2.2.1 g.2.2.2.2.2.2) 16 (I := fun i g => zagbefore m_before m_kind m_head m_body m_except m_strength m_off m_over i g) (by
    intro n g _
    show FX9_again_before_2 m_facts m_rules m_kind m_head m_body m_except m_strength m_off m_over m_before _ (n + 1) (nI 16) _ _ _ _ _ _ _ _ _ = _
    rw [FX9_again_before_2, if_pos (show (16 : Int32) ≤ nI 16 from nI_le (Nat.le_refl 16) (by omega))]) (by
    intro n i g hi h
    have h : g = _ := h
    subst h
    refine ⟨_, rfl, ?_⟩
    show FX9_again_before_2 m_facts m_rules m_kind m_head m_body m_except m_strength m_off m_over m_before _ (n + 1) (nI i) _ _ (fun r => if r < i then m_before r else m_kind r) (fun r => if r < i then m_before (16 + r) else m_head r) (fun r => if r < i then m_before (32 + r) else m_body r) (fun r => if r < i then m_before (48 + r) else m_except r) (fun r => if r < i then m_before (64 + r) else m_strength r) (fun r => if r < i then m_before (80 + r) else m_off r) (fun r => if r < i then m_before (96 + r) else m_over r) = FX9_again_before_2 m_facts m_rules m_kind m_head m_body m_except m_strength m_off m_over m_before _ n (nI (i + 1)) _ _ (fun r => if r < i + 1 then m_before r else m_kind r) (fun r => if r < i + 1 then m_before (16 + r) else m_head r) (fun r => if r < i + 1 then m_before (32 + r) else m_body r) (fun r => if r < i + 1 then m_before (48 + r) else m_except r) (fun r => if r < i + 1 then m_before (64 + r) else m_strength r) (fun r => if r < i + 1 then m_before (80 + r) else m_off r) (fun r => if r < i + 1 then m_before (96 + r) else m_over r)
    have u : ∀ (f k : Nat → Int32), upd (fun r => if r < i then f r else k r) i (f i) = fun r => if r < i + 1 then f r else k r := fun f k => by
      funext r
      by_cases a : r = i
      · subst a; rw [pk_us, if_pos (by omega)]
      · rw [pk_un a]
        by_cases b : r < i
        · rw [if_pos b, if_pos (by omega)]
        · rw [if_neg b, if_neg (by omega)]
    rw [FX9_again_before_2, if_neg (show ¬ (16 : Int32) ≤ nI i from nI_ge (b := 16) hi (by omega)), show (16 : Int32) + nI i = nI 16 + nI i from rfl, show (32 : Int32) + nI i = nI 32 + nI i from rfl, show (48 : Int32) + nI i = nI 48 + nI i from rfl, show (64 : Int32) + nI i = nI 64 + nI i from rfl, show (80 : Int32) + nI i = nI 80 + nI i from rfl, show (96 : Int32) + nI i = nI 96 + nI i from rfl, z16n (by omega) hi, z16n (by omega) hi, z16n (by omega) hi, z16n (by omega) hi, z16n (by omega) hi, z16n (by omega) hi, nI_clamp (show i < 2 ^ 31 by omega), nI_1, u (fun r => m_before r), u (fun r => m_before (16 + r)), u (fun r => m_before (32 + r)), u (fun r => m_before (48 + r)), u (fun r => m_before (64 + r)), u (fun r => m_before (80 + r)), u (fun r => m_before (96 + r))]) 17 0 (m_kind, m_head, m_body, m_except, m_strength, m_off, m_over) (by omega) (by omega) (by
    show _ = _
    have u : ∀ (f k : Nat → Int32), k = fun r => if r < 0 then f r else k r := fun f k => by funext r; rw [if_neg (Nat.not_lt_zero r)]
    exact Prod.ext (u (fun r => m_before r) _) (Prod.ext (u (fun r => m_before (16 + r)) _) (Prod.ext (u (fun r => m_before (32 + r)) _) (Prod.ext (u (fun r => m_before (48 + r)) _) (Prod.ext (u (fun r => m_before (64 + r)) _) (Prod.ext (u (fun r => m_before (80 + r)) _) (u (fun r => m_before (96 + r)) _)))))))
  have hs : s = _ := hs
  subst hs
  refine ⟨(fun r => if r < 16 then m_before r else m_kind r, fun r => if r < 16 then m_before (16 + r) else m_head r, fun r => if r < 16 then m_before (32 + r) else m_body r, fun r => if r < 16 then m_before (48 + r) else m_except r, fun r => if r < 16 then m_before (64 + r) else m_strength r, fun r => if r < 16 then m_before (80 + r) else m_off r, fun r => if r < 16 then m_before (96 + r) else m_over r, m_before 112, m_before 113), ?_, ⟨fun r hr => ⟨if_pos hr, if_pos hr, if_pos hr, if_pos hr, if_pos hr, if_pos hr, if_pos hr⟩, rfl, rfl⟩, fun r hr => ⟨if_neg (by omega), if_neg (by omega), if_neg (by omega), if_neg (by omega), if_neg (by omega), if_neg (by omega), if_neg (by omega)⟩⟩
  refine Eq.trans e ?_
  show FX9_again_before_95 m_facts m_rules m_kind m_head m_body m_except m_strength m_off m_over m_before _ _ _ _ _ _ _ _ _ = _
  unfold FX9_again_before_95
  rw [show (112 : Int32).toNatClampNeg = 112 from by decide, show (113 : Int32).toNatClampNeg = 113 from by decide]
end ZAGbefore
/-- the image of the class and the reference's row -/
def zImg (isK hasI : Int32) (bk : S0) (im : Nat → Int32) : Prop := (isK = 0 ∧ hasI = 0) ∨ (¬ isK = 0 ∧ ¬ hasI = 0 ∧ zRel bk (zimg im))
theorem e_image {bc bk : S0} {isK hasI : Int32} {R : zC} {im : Nat → Int32} (hR : zRel bc R) {T : (Int32 × (Int32) × (Nat → Int32) × (Nat → Int32) × (Nat → Int32) × (Nat → Int32) × (Nat → Int32) × (Nat → Int32) × (Int32) × (Int32) × (Int32))} {V : (Int32 × (Nat → Int32) × (Int32))} (hT : FX8_image isK (g0_kind bc) (g0_head bc) (g0_body bc) (g0_excepts bc) (g0_power bc) (g0_beats bc) (g0_facts bc) (g0_size bc) (g0_shut bc) (g0_kind bk) (g0_head bk) (g0_body bk) (g0_excepts bk) (g0_power bk) (g0_beats bk) (g0_facts bk) (g0_size bk) (g0_shut bk) = T) (hV : FX9_image (qfa R) (qru R) (qkd R) (qhd R) (qbd R) (qex R) (qsg R) (qof R) (qov R) im hasI = V) :
    T.1 = V.1 ∧ zImg T.2.1 V.2.2 (s0_cp bk T.2.2.1 T.2.2.2.1 T.2.2.2.2.1 T.2.2.2.2.2.1 T.2.2.2.2.2.2.1 T.2.2.2.2.2.2.2.1 T.2.2.2.2.2.2.2.2.1 T.2.2.2.2.2.2.2.2.2.1 T.2.2.2.2.2.2.2.2.2.2) V.2.1 := by
  unfold FX8_image at hT
  unfold FX9_image at hV
  simp only [bnd] at hT hV
  subst hT hV
  refine ⟨?_, Or.inr ⟨(by decide : ¬ (1 : Int32) = 0), (by decide : ¬ (1 : Int32) = 0), zRel_eq (qeq_s r_keeps_imaged) (zRel_ceq (ceq_cp bk bc) hR)⟩⟩
  obtain ⟨N, hN, h1, h2, -⟩ := hR
  exact h2.trans h1.symm
theorem e_back {bc bk : S0} {isS isK hasI un dn ud : Int32} {sg : Nat → Nat} {y : Nat → S0} {D U : Nat} {ch im : Nat → Int32} {R : zC} (hD : D ≤ 12) (hR : zRel bc R) (hH : zHis sg y D U ch R) (hg : zcgs ch) (hK : zImg isK hasI bk im) (hun : un = nI U) (hdn : dn = nI D) (hud : ud = nI U) {T : (Int32 × (Int32) × (Nat → Int32) × (Nat → Int32) × (Nat → Int32) × (Nat → Int32) × (Nat → Int32) × (Nat → Int32) × (Int32) × (Int32) × (Int32) × (Nat → S0) × (Nat) × (Int32))} {V : (Int32 × (Int32) × (Int32) × (Nat → Int32) × (Nat → Int32) × (Nat → Int32) × (Nat → Int32) × (Nat → Int32) × (Nat → Int32) × (Nat → Int32) × (Int32) × (Int32))}
    (hT : FX8_back isK isS (g0_kind bc) (g0_head bc) (g0_body bc) (g0_excepts bc) (g0_power bc) (g0_beats bc) (g0_facts bc) (g0_size bc) (g0_shut bc) (g0_kind bk) (g0_head bk) (g0_body bk) (g0_excepts bk) (g0_power bk) (g0_beats bk) (g0_facts bk) (g0_size bk) (g0_shut bk) sg y D un = T) (hV : FX9_back (qfa R) (qru R) (qkd R) (qhd R) (qbd R) (qex R) (qsg R) (qof R) (qov R) dn ud im hasI = V) :
    T.1 = V.1 ∧ zCh isS T.2.1 (s0_cp bc T.2.2.1 T.2.2.2.1 T.2.2.2.2.1 T.2.2.2.2.2.1 T.2.2.2.2.2.2.1 T.2.2.2.2.2.2.2.1 T.2.2.2.2.2.2.2.2.1 T.2.2.2.2.2.2.2.2.2.1 T.2.2.2.2.2.2.2.2.2.2.1) sg T.2.2.2.2.2.2.2.2.2.2.2.1 T.2.2.2.2.2.2.2.2.2.2.2.2.1 T.2.2.2.2.2.2.2.2.2.2.2.2.2 R (V.2.2.2.1, V.2.2.2.2.1, V.2.2.2.2.2.1, V.2.2.2.2.2.2.1, V.2.2.2.2.2.2.2.1, V.2.2.2.2.2.2.2.2.1, V.2.2.2.2.2.2.2.2.2.1, V.2.1, V.2.2.1) ch V.2.2.2.2.2.2.2.2.2.2.1 V.2.2.2.2.2.2.2.2.2.2.2 := by
  unfold FX8_back at hT
  unfold FX9_back at hV
  simp only [bnd] at hT hV
  rcases hK with ⟨k1, k2⟩ | ⟨k1, k2, k3⟩
  · rw [if_pos k1] at hT
    rw [if_pos k2] at hV
    subst hT hV
    exact ⟨rfl, hD, hdn, ⟨U, hun, hud, hH⟩, hR, hg, qout_r R, Or.inr ⟨rfl, rfl⟩⟩
  · rw [if_neg k1] at hT
    rw [if_neg k2] at hV
    obtain ⟨W, e, w1, w2⟩ := r_again_imaged (m_facts := qfa R) (m_rules := qru R) (m_kind := qkd R) (m_head := qhd R) (m_body := qbd R) (m_except := qex R) (m_strength := qsg R) (m_off := qof R) (m_over := qov R) (m_imaged := im)
    rw [e] at hV
    unfold FX8_restart FX1_restart at hT
    simp only [bnd] at hT
    have hz := zRel_ceq (ceq_cp bc bk) (zRel_eq (qeq_s w1) k3)
    subst hT hV
    refine ⟨?_, by show (0 : Nat) ≤ 12; omega, rfl, ⟨0, rfl, rfl, zHis_new hH.1 hH.2.1 ?_⟩, hz, hg, w2, Or.inl rfl⟩
    · obtain ⟨N, hN, h1, h2, -⟩ := zRel_eq (qeq_s w1) k3
      exact h2.trans h1.symm
    · show zRel (va_up y (sg 0) _ (sg 0)) _
      rw [show ∀ x, va_up y (sg 0) x (sg 0) = x from fun x => if_pos rfl]
      exact zRel_ceq (ceq_cq (C := s0_cp bc _ _ _ _ _ _ _ _ _) _ _ _ _ _ _ _ _ _ _ ⟨rfl, rfl, rfl, rfl, rfl, rfl, rfl, rfl, rfl⟩) hz
