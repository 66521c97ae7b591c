/-! words: a statement comes, or can't -/
theorem lit_is {q : Nat} (h : q < 20) : ¬ FX8_isLiteral (nI q) = 0 := by
  have key : ∀ q : Nat, q < 20 → ¬ FX8_isLiteral (nI q) = 0 := by decide +kernel
  exact key q h
theorem str_is {q : Nat} (h : q < 10) : ¬ FX8_isStrength (nI q) = 0 := by
  have key : ∀ q : Nat, q < 10 → ¬ FX8_isStrength (nI q) = 0 := by decide +kernel
  exact key q h
theorem zLo_lt {x : Int32} (h : zLo x) : ∃ j : Nat, j < 1048576 ∧ x = nI j := by
  refine ⟨x.toBitVec.toNat, ?_, ?_⟩
  · refine Nat.lt_pow_two_of_testBit (n := 20) _ (fun i hi => ?_)
    have := h i hi
    unfold zb at this
    exact this
  · apply Int32.toBitVec_inj.mp
    show x.toBitVec = BitVec.ofNat 32 x.toBitVec.toNat
    rw [BitVec.ofNat_toNat, BitVec.setWidth_eq]
theorem are_is {x : Int32} (h : zLo x) : ¬ FX8_areLiterals x = 0 := by
  obtain ⟨j, hj, rfl⟩ := zLo_lt h
  have e : FX8_areLiterals (nI j) = if nI j < 0 then 0 else if (1048575 : Int32) < nI j then 0 else 1 := rfl
  rw [e, if_neg (nI_pos (by omega)), if_neg (show ¬ (1048575 : Int32) < nI j from nI_nlt (b := j) (a := 1048575) (by omega) (by omega))]
  decide
theorem zCh_ceq {isS isS' : Int32} {C' C2 : S0} {sg' : Nat → Nat} {y' : Nat → S0} {D' : Nat} {un' : Int32} {R R' : zC} {ch' : Nat → Int32} {dn' ud' : Int32} (e : ceq C2 C') (h : zCh isS isS' C' sg' y' D' un' R R' ch' dn' ud') : zCh isS isS' C2 sg' y' D' un' R R' ch' dn' ud' := by
  obtain ⟨a1, a2, a3, a4, a5⟩ := h
  exact ⟨a1, a2, a3, zRel_ceq e a4, a5⟩
section ZTELL
variable {S H B E P : Nat → Int32}
theorem x_tell {C : S0} {isS w rh rb re rk rs o1 o2 : Int32} {sg : Nat → Nat} {y : Nat → S0} {D U i : Nat} {ch : Nat → Int32} {R : zC} {d : zD5} (hD : D ≤ 12) (hR : zRel C R) (hH : zHis sg y D U ch R) (hg : zcgs ch) (hv : zdv d) (hi : i < 60) (hh : zhd d (S i) (H i) (B i) (E i) (P i)) (hr : zrd d w rh rb re rk rs o1 o2) {T : (Int32 × (Nat → Int32) × (Nat → Int32) × (Nat → Int32) × (Nat → Int32) × (Nat → Int32) × (Nat → Int32) × (Int32) × (Int32))} {V : (Int32 × (Int32) × (Int32) × (Nat → Int32) × (Nat → Int32) × (Nat → Int32) × (Nat → Int32) × (Nat → Int32) × (Nat → Int32) × (Nat → Int32) × (Nat → Int32) × (Int32) × (Int32))} (hT : FX7_tell S H B E P (g0_kind C) (g0_head C) (g0_body C) (g0_excepts C) (g0_power C) (g0_beats C) (g0_facts C) (g0_size C) (nI i) = T) (hV : FX9_isDone (qfa R) (qru R) (qkd R) (qhd R) (qbd R) (qex R) (qsg R) (qof R) (qov R) ch (nI D) (nI U) w rh rb re rk rs o1 o2 = V) : (T.1 = 0 ∧ V = (0, qfa R, qru R, qkd R, qhd R, qbd R, qex R, qsg R, qof R, qov R, ch, nI D, nI U)) ∨ (T.1 = 1 ∧ V.1 = 1 ∧ zCh isS 0 (s0_cp C T.2.1 T.2.2.1 T.2.2.2.1 T.2.2.2.2.1 T.2.2.2.2.2.1 T.2.2.2.2.2.2.1 T.2.2.2.2.2.2.2.1 T.2.2.2.2.2.2.2.2 (g0_shut C)) (FX8_changed isS T.2.1 T.2.2.1 T.2.2.2.1 T.2.2.2.2.1 T.2.2.2.2.2.1 T.2.2.2.2.2.2.1 T.2.2.2.2.2.2.2.1 T.2.2.2.2.2.2.2.2 (g0_shut C) sg y D (nI U)).2.1 (FX8_changed isS T.2.1 T.2.2.1 T.2.2.2.1 T.2.2.2.2.1 T.2.2.2.2.2.1 T.2.2.2.2.2.2.1 T.2.2.2.2.2.2.2.1 T.2.2.2.2.2.2.2.2 (g0_shut C) sg y D (nI U)).2.2.1 (FX8_changed isS T.2.1 T.2.2.1 T.2.2.2.1 T.2.2.2.2.1 T.2.2.2.2.2.1 T.2.2.2.2.2.2.1 T.2.2.2.2.2.2.2.1 T.2.2.2.2.2.2.2.2 (g0_shut C) sg y D (nI U)).2.2.2.1 (FX8_changed isS T.2.1 T.2.2.1 T.2.2.2.1 T.2.2.2.2.1 T.2.2.2.2.2.1 T.2.2.2.2.2.2.1 T.2.2.2.2.2.2.2.1 T.2.2.2.2.2.2.2.2 (g0_shut C) sg y D (nI U)).2.2.2.2 R (V.2.2.2.1, V.2.2.2.2.1, V.2.2.2.2.2.1, V.2.2.2.2.2.2.1, V.2.2.2.2.2.2.2.1, V.2.2.2.2.2.2.2.2.1, V.2.2.2.2.2.2.2.2.2.1, V.2.1, V.2.2.1) V.2.2.2.2.2.2.2.2.2.2.1 V.2.2.2.2.2.2.2.2.2.2.2.1 V.2.2.2.2.2.2.2.2.2.2.2.2) := by
  obtain ⟨N, hN, h1, h2, h3, h4, h5, h6, h7, h8, h9⟩ := id hR
  obtain ⟨s1, s2, s3, s4⟩ := hh
  obtain ⟨r1, r2, r3⟩ := hr
  unfold FX7_tell at hT
  unfold FX9_isDone at hV
  rw [nI_clamp (show i < 2 ^ 31 by omega), s1, s2] at hT
  rcases hv with ⟨d1, q, hq, hx⟩ | ⟨d1, x, z, hx, hz, ex, ez⟩ | ⟨d1, ⟨q, hq, hx⟩, lb, le, v, hv, ev⟩
  · obtain ⟨w0, rh0⟩ := r1 d1
    rw [if_pos d1, bndx, hx] at hT
    rw [w0, if_pos rfl, bndx, rh0, hx, zh98b, zh8 (by omega)] at hV
    unfold FX7_tellFact at hT
    rw [bndx, zh8 (by omega), h3] at hT
    cases eb : zb (qfa R) q
    · rw [eb, if_pos zi_f] at hT hV
      rw [bndx] at hV
      have eT : FX8_fact isS (g0_kind C) (g0_head C) (g0_body C) (g0_excepts C) (g0_power C) (g0_beats C) (g0_facts C) (g0_size C) (g0_shut C) sg y D (nI U) (nI q) 1 = (FX8_bit (g0_facts C) (nI q), (FX8_changed isS (g0_kind C) (g0_head C) (g0_body C) (g0_excepts C) (g0_power C) (g0_beats C) (qfa R ||| (1 <<< (nI q &&& 31))) (g0_size C) (g0_shut C) sg y D (nI U)).1, qfa R ||| (1 <<< (nI q &&& 31)), (FX8_changed isS (g0_kind C) (g0_head C) (g0_body C) (g0_excepts C) (g0_power C) (g0_beats C) (qfa R ||| (1 <<< (nI q &&& 31))) (g0_size C) (g0_shut C) sg y D (nI U)).2.1, (FX8_changed isS (g0_kind C) (g0_head C) (g0_body C) (g0_excepts C) (g0_power C) (g0_beats C) (qfa R ||| (1 <<< (nI q &&& 31))) (g0_size C) (g0_shut C) sg y D (nI U)).2.2.1, (FX8_changed isS (g0_kind C) (g0_head C) (g0_body C) (g0_excepts C) (g0_power C) (g0_beats C) (qfa R ||| (1 <<< (nI q &&& 31))) (g0_size C) (g0_shut C) sg y D (nI U)).2.2.2.1, (FX8_changed isS (g0_kind C) (g0_head C) (g0_body C) (g0_excepts C) (g0_power C) (g0_beats C) (qfa R ||| (1 <<< (nI q &&& 31))) (g0_size C) (g0_shut C) sg y D (nI U)).2.2.2.2) := by
        have ew : FX8_withBit (g0_facts C) (nI q) 1 = qfa R ||| (1 <<< (nI q &&& 31)) := by
          unfold FX8_withBit
          rw [if_pos rfl, h3]
        unfold FX8_fact
        rw [bndx, if_neg (lit_is hq), bndx, if_neg (show ¬ FX8_isYesOrNo 1 = 0 by decide), bndx, bndx, bndx, ew]
      obtain ⟨k1, k2⟩ := e_fact hD hR hH hg eT rfl
      generalize FX9_fact (qfa R) (qru R) (qsg R) (qof R) (qov R) ch (nI D) (nI U) (nI q) 1 = W at k1 k2 hV
      have e0 : W.1 = 0 := by
        rw [← k1]
        show FX8_bit (g0_facts C) (nI q) = 0
        unfold FX8_bit
        rw [z_bit2 (by omega), h3, eb]
        rfl
      rw [if_pos e0] at hV
      subst hT hV
      refine Or.inr ⟨rfl, rfl, ?_⟩
      exact zCh_ceq (C' := s0_facts C (qfa R ||| (1 <<< (nI q &&& 31)))) ⟨fun r hr => ⟨rfl, rfl, rfl, rfl, rfl, rfl⟩, rfl, rfl, rfl⟩ k2
    · rw [eb, if_neg (show ¬ zi true = 0 by decide)] at hT hV
      subst hT hV
      exact Or.inl ⟨rfl, rfl⟩
  · obtain ⟨w0, ro1, ro2⟩ := r2 d1
    have d3 : ¬ d.1 = 3 := by rw [d1]; decide
    have hr8 : ∀ x, FX0_hasRule (g0_size C) x = FX0_hasRule (nI N) x := fun x => by rw [h2]
    have hr9 : ∀ x, FX9_isRule (qru R) x = FX0_hasRule (nI N) x := fun x => by rw [h1, e_rule hN]
    rw [if_neg d3, if_pos d1, bndx, s3 d3, ex, ez] at hT
    unfold FX7_tellPair at hT
    rw [w0, if_neg (show ¬ (2 : Int32) = 0 by decide), if_neg (show ¬ (2 : Int32) = 1 by decide), bndx, ro1, ro2, ex, ez, hr9] at hV
    rw [bndx, hr8] at hT
    by_cases c1 : FX0_hasRule (nI N) (nI x) = 0
    · rw [if_pos c1] at hT hV
      subst hT hV
      exact Or.inl ⟨rfl, rfl⟩
    rw [if_neg c1, bndx] at hT hV
    rw [hr8] at hT
    rw [hr9] at hV
    by_cases c2 : FX0_hasRule (nI N) (nI z) = 0
    · rw [if_pos c2] at hT hV
      subst hT hV
      exact Or.inl ⟨rfl, rfl⟩
    rw [if_neg c2] at hT hV
    by_cases c3 : nI x = nI z
    · rw [if_pos c3] at hT hV
      subst hT hV
      exact Or.inl ⟨rfl, rfl⟩
    rw [if_neg c3, bndx] at hT hV
    obtain ⟨x', hx', ex'⟩ := has_rule hN c1
    obtain ⟨z', hz', ez'⟩ := has_rule hN c2
    obtain rfl : x = x' := (nI_eq (by omega) (by omega)).mp ex'
    obtain rfl : z = z' := (nI_eq (by omega) (by omega)).mp ez'
    have bx : g0_beats C x = qov R x := (h5 x hx').2.2.2.2.2.1
    have bz : g0_beats C z = qov R z := (h5 z hz').2.2.2.2.2.1
    unfold FX0_isTold at hT
    rw [bndx, nI_clamp (show x < 2 ^ 31 by omega), nI_clamp (show z < 2 ^ 31 by omega), zh8 (by omega), bx] at hT
    rw [zh98b, nI_clamp (show x < 2 ^ 31 by omega), nI_clamp (show z < 2 ^ 31 by omega), zh8 (by omega)] at hV
    cases c4 : zb (qov R x) z
    · rw [c4, if_pos zi_f, bndx] at hT hV
      rw [zh8 (by omega), bz] at hT
      rw [zh98b, zh8 (by omega)] at hV
      cases c5 : zb (qov R z) x
      · rw [c5, if_pos zi_f] at hT hV
        rw [if_pos rfl] at hT
        rw [bndx] at hV
        have eT : FX8_over isS (g0_kind C) (g0_head C) (g0_body C) (g0_excepts C) (g0_power C) (g0_beats C) (g0_facts C) (g0_size C) (g0_shut C) sg y D (nI U) (nI x) (nI z) 1 = (FX8_bit (g0_beats C x) (nI z), (FX8_changed isS (g0_kind C) (g0_head C) (g0_body C) (g0_excepts C) (g0_power C) (upd (g0_beats C) x (qov R x ||| (1 <<< (nI z &&& 31)))) (g0_facts C) (g0_size C) (g0_shut C) sg y D (nI U)).1, upd (g0_beats C) x (qov R x ||| (1 <<< (nI z &&& 31))), (FX8_changed isS (g0_kind C) (g0_head C) (g0_body C) (g0_excepts C) (g0_power C) (upd (g0_beats C) x (qov R x ||| (1 <<< (nI z &&& 31)))) (g0_facts C) (g0_size C) (g0_shut C) sg y D (nI U)).2.1, (FX8_changed isS (g0_kind C) (g0_head C) (g0_body C) (g0_excepts C) (g0_power C) (upd (g0_beats C) x (qov R x ||| (1 <<< (nI z &&& 31)))) (g0_facts C) (g0_size C) (g0_shut C) sg y D (nI U)).2.2.1, (FX8_changed isS (g0_kind C) (g0_head C) (g0_body C) (g0_excepts C) (g0_power C) (upd (g0_beats C) x (qov R x ||| (1 <<< (nI z &&& 31)))) (g0_facts C) (g0_size C) (g0_shut C) sg y D (nI U)).2.2.2.1, (FX8_changed isS (g0_kind C) (g0_head C) (g0_body C) (g0_excepts C) (g0_power C) (upd (g0_beats C) x (qov R x ||| (1 <<< (nI z &&& 31)))) (g0_facts C) (g0_size C) (g0_shut C) sg y D (nI U)).2.2.2.2) := by
          have ew : FX8_withBit (qov R x) (nI z) 1 = qov R x ||| (1 <<< (nI z &&& 31)) := by
            unfold FX8_withBit
            rw [if_pos rfl]
          have eh : FX8_has (g0_beats C (nI z).toNatClampNeg) (nI x) = 0 := by
            rw [nI_clamp (show z < 2 ^ 31 by omega), bz, zh8 (by omega), c5]
            rfl
          unfold FX8_over
          rw [bndx, hr8, if_neg c1, bndx, hr8, if_neg c2, if_neg c3, bndx, if_neg (show ¬ FX8_isYesOrNo 1 = 0 by decide), if_pos rfl, bndx, eh, if_pos rfl]
          unfold FX8_over_60
          rw [bndx, bndx, bndx, nI_clamp (show x < 2 ^ 31 by omega), bx, ew]
        obtain ⟨k1, k2⟩ := e_over hD hR hH hg eT rfl
        generalize FX9_over (qfa R) (qru R) (qsg R) (qof R) (qov R) ch (nI D) (nI U) (nI x) (nI z) 1 = W at k1 k2 hV
        subst hT hV
        refine Or.inr ⟨rfl, rfl, ?_⟩
        exact zCh_ceq (C' := s0_beats C (upd (g0_beats C) x (qov R x ||| (1 <<< (nI z &&& 31))))) ⟨fun r hr => ⟨rfl, rfl, rfl, rfl, rfl, rfl⟩, rfl, rfl, rfl⟩ k2
      · rw [c5, if_neg (show ¬ zi true = 0 by decide)] at hT hV
        rw [if_neg (show ¬ (1 : Int32) = 0 by decide)] at hT
        subst hT hV
        exact Or.inl ⟨rfl, rfl⟩
    · rw [c4, if_neg (show ¬ zi true = 0 by decide)] at hT hV
      rw [if_neg (show ¬ (1 : Int32) = 0 by decide)] at hT
      subst hT hV
      exact Or.inl ⟨rfl, rfl⟩
  · have d3 : ¬ d.1 = 3 := by rcases d1 with e | e | e <;> rw [e] <;> decide
    have d4 : ¬ d.1 = 4 := by rcases d1 with e | e | e <;> rw [e] <;> decide
    obtain ⟨w1, k1, k2, k3, k4, k5⟩ := r3 d3 d4
    obtain ⟨s5, s6⟩ := s4 d3 d4
    rw [if_neg d3, if_neg d4, bndx] at hT
    unfold FX7_tellRule at hT
    rw [nI_clamp (show i < 2 ^ 31 by omega), s1, s5] at hT
    rw [w1, if_neg (show ¬ (1 : Int32) = 0 by decide), if_pos rfl, bndx, k1, k2, k3, k4, k5] at hV
    have hB : B i = d.2.2.1 := s3 d3
    by_cases ok : zrok d.1 d.2.1 d.2.2.1 d.2.2.2.1 d.2.2.2.2
    · have hT : (let t := FX7_tellRule_20 S H B E P (g0_kind C) (g0_head C) (g0_body C) (g0_excepts C) (g0_power C) (g0_beats C) (g0_size C) (nI i) (g0_kind C) (g0_head C) (g0_body C) (g0_excepts C) (g0_power C) (g0_beats C) (g0_size C); (t.1, t.2.1, t.2.2.1, t.2.2.2.1, t.2.2.2.2.1, t.2.2.2.2.2.1, t.2.2.2.2.2.2.1, g0_facts C, t.2.2.2.2.2.2.2)) = T := by
        by_cases c0 : d.1 = 0
        · rw [if_pos c0, if_pos (ok.2.2.2.2.2.2 c0)] at hT
          exact hT
        · rw [if_neg c0] at hT
          exact hT
      dsimp only at hT
      unfold FX7_tellRule_20 at hT
      rw [bndx, nI_clamp (show i < 2 ^ 31 by omega), s1, s2, hB, s5, s6] at hT
      have key := e_addrule (isS := isS) (x1 := d.1) (x2 := d.2.1) (x3 := d.2.2.1) (x4 := d.2.2.2.1) (x5 := d.2.2.2.2) hD hR hH hg rfl rfl
      rw [rule_ok8 ok] at key
      unfold FX8_rule_52 at key
      rw [bndx] at key
      have hadd : N < 16 ∨ N = 16 := by omega
      rcases hadd with c | rfl
      · have ea : (FX0_add (g0_kind C) (g0_head C) (g0_body C) (g0_excepts C) (g0_power C) (g0_beats C) (g0_size C) d.1 d.2.1 d.2.2.1 d.2.2.2.1 d.2.2.2.2).1 = 1 := by
          rw [h2, k_add c]
        have en : (FX0_add (g0_kind C) (g0_head C) (g0_body C) (g0_excepts C) (g0_power C) (g0_beats C) (g0_size C) d.1 d.2.1 d.2.2.1 d.2.2.2.1 d.2.2.2.2).2.2.2.2.2.2.2 = nI (N + 1) := by
          rw [h2, k_add c]
        generalize FX0_add (g0_kind C) (g0_head C) (g0_body C) (g0_excepts C) (g0_power C) (g0_beats C) (g0_size C) d.1 d.2.1 d.2.2.1 d.2.2.2.1 d.2.2.2.2 = A at hT key ea en
        rw [if_neg (show ¬ A.1 = 0 by rw [ea]; decide), bndx] at key
        generalize FX9_rule (qfa R) (qru R) (qkd R) (qhd R) (qbd R) (qex R) (qsg R) (qof R) (qov R) ch (nI D) (nI U) d.1 d.2.1 d.2.2.1 d.2.2.2.1 d.2.2.2.2 = W at key hV
        obtain ⟨g1, g2⟩ := key
        have g1 : A.2.2.2.2.2.2.2 - 1 = W.1 := g1
        have e0 : ¬ W.1 < 0 := by
          rw [← g1, en, show nI (N + 1) - 1 = nI N from nI_pred N]
          exact nI_pos (by omega)
        rw [if_neg e0] at hV
        subst hT hV
        refine Or.inr ⟨ea, rfl, ?_⟩
        exact zCh_ceq (C' := s0_all C A.2.1 A.2.2.1 A.2.2.2.1 A.2.2.2.2.1 A.2.2.2.2.2.1 A.2.2.2.2.2.2.1 A.2.2.2.2.2.2.2) ⟨fun r hr => ⟨rfl, rfl, rfl, rfl, rfl, rfl⟩, rfl, rfl, rfl⟩ g2
      · have e0 : FX0_add (g0_kind C) (g0_head C) (g0_body C) (g0_excepts C) (g0_power C) (g0_beats C) (g0_size C) d.1 d.2.1 d.2.2.1 d.2.2.2.1 d.2.2.2.2 = (0, g0_kind C, g0_head C, g0_body C, g0_excepts C, g0_power C, g0_beats C, g0_size C) := by
          unfold FX0_add
          rw [h2, if_neg (show ¬ nI 16 < (16 : Int32) by decide)]
        rw [e0] at hT
        rw [rule_ok9 ok] at hV
        unfold FX9_rule_59 at hV
        rw [if_pos (show qru R = (16 : Int32) from h1), if_pos (show (-3 : Int32) < 0 by decide)] at hV
        subst hT hV
        exact Or.inl ⟨rfl, rfl⟩
    · have c0 : d.1 = 0 ∧ ¬ d.2.2.2.1 = 0 := by
        by_cases c0 : d.1 = 0
        · refine ⟨c0, fun e4 => ok ⟨by rw [c0]; decide, by rw [c0]; decide, by rw [hx]; exact lit_is hq, by rw [ev]; exact str_is hv, are_is lb, are_is le, fun _ => e4⟩⟩
        · exact absurd ⟨by rcases d1 with e | e | e <;> rw [e] <;> decide, by rcases d1 with e | e | e <;> rw [e] <;> decide, by rw [hx]; exact lit_is hq, by rw [ev]; exact str_is hv, are_is lb, are_is le, fun h => absurd h c0⟩ ok
      rw [if_pos c0.1, if_neg c0.2] at hT
      rw [rule_bad9 ok, if_pos (show (-1 : Int32) < 0 by decide)] at hV
      subst hT hV
      exact Or.inl ⟨rfl, rfl⟩
end ZTELL
