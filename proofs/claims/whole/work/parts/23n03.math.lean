/-! the calls that tell -/
theorem e_str2 (x : Int32) : FX9_in x 0 9 = FX8_isStrength x := (e_str x).trans (Eq.refl _)
theorem e_are2 (x : Int32) : FX9_in x 0 1048575 = FX8_areLiterals x := (e_are x).trans (Eq.refl _)
theorem zh98b (x y : Int32) : FX9_has x y = FX8_has x y := (zh98 x y).trans (Eq.refl _)
theorem nI_lt_of {x : Int32} {q : Nat} (hq : q < 20) (h : x = nI q) : x.toNatClampNeg = q := by rw [h, nI_clamp (by omega)]
theorem e_fact {bc : S0} {isS x1 x2 : Int32} {sg : Nat → Nat} {y : Nat → S0} {D U : Nat} {ch : Nat → Int32} {R : zC} (hD : D ≤ 12) (hR : zRel bc R) (hH : zHis sg y D U ch R) (hg : zcgs ch) {T : (Int32 × (Int32) × (Int32) × (Nat → Nat) × (Nat → S0) × (Nat) × (Int32))} {V : (Int32 × (Int32) × (Int32) × (Nat → Int32) × (Nat → Int32) × (Nat → Int32) × (Nat → Int32) × (Int32) × (Int32))}
    (hT : FX8_fact isS (g0_kind bc) (g0_head bc) (g0_body bc) (g0_excepts bc) (g0_power bc) (g0_beats bc) (g0_facts bc) (g0_size bc) (g0_shut bc) sg y D (nI U) x1 x2 = T) (hV : FX9_fact (qfa R) (qru R) (qsg R) (qof R) (qov R) ch (nI D) (nI U) x1 x2 = V) :
    T.1 = V.1 ∧ zCh isS T.2.1 (s0_facts bc T.2.2.1) T.2.2.2.1 T.2.2.2.2.1 T.2.2.2.2.2.1 T.2.2.2.2.2.2 R (qkd R, qhd R, qbd R, qex R, V.2.2.2.1, V.2.2.2.2.1, V.2.2.2.2.2.1, V.2.1, V.2.2.1) V.2.2.2.2.2.2.1 V.2.2.2.2.2.2.2.1 V.2.2.2.2.2.2.2.2 := by
  have hbad : zCh isS isS (s0_facts bc (g0_facts bc)) sg y D (nI U) R (qkd R, qhd R, qbd R, qex R, qsg R, qof R, qov R, qfa R, qru R) ch (nI D) (nI U) := ⟨hD, rfl, ⟨U, rfl, rfl, hH⟩, hR, hg, qout_r R, Or.inr ⟨rfl, rfl⟩⟩
  unfold FX8_fact at hT
  unfold FX9_fact at hV
  simp only [bnd, e_lit, e_bit] at hT hV
  by_cases c1 : FX8_isLiteral x1 = 0
  · rw [if_pos c1] at hT hV
    subst hT hV
    exact ⟨rfl, hbad⟩
  · rw [if_neg c1] at hT hV
    by_cases c2 : FX8_isYesOrNo x2 = 0
    · rw [if_pos c2] at hT hV
      subst hT hV
      exact ⟨rfl, hbad⟩
    · rw [if_neg c2] at hT hV
      obtain ⟨q, hq, rfl⟩ := is_lit c1
      have h01 := is_yn c2
      have hfa : g0_facts bc = qfa R := by obtain ⟨N, -, -, -, h, -⟩ := hR; exact h
      unfold FX9_does at hV
      simp only [bnd] at hV
      subst hT hV
      refine ⟨?_, ?_⟩
      · show (g0_facts bc >>> (nI q &&& 31)) &&& 1 = (qfa R >>> (nI q &&& 31)) &&& 1
        rw [hfa]
      · have key := q_does (isS := isS) (un := nI U) (C' := s0_facts bc (FX8_withBit (g0_facts bc) (nI q) x2)) (w := 0) (o := nI q) (wi := 0) (was := (qfa R >>> (nI q &&& 31)) &&& 1) (is := x2) hD hH hg (fun h => absurd rfl h) (fun X hX => ?_) ?_
        · exact key
        · rw [qbec_fa]
          refine ⟨(qbec_fa X _ _ _).symm, ?_, Or.inl rfl, ?_⟩
          · rw [qbec_fa, z_bit2 (by omega), show qfa R = qfa X from hX.2.1]
            show X = (_, _, _, _, _, _, _, (if zi (zb (qfa X) q) = 1 then (if x2 = 1 then qfa X ||| (1 <<< (nI q &&& 31)) else qfa X &&& ((1 <<< (nI q &&& 31)) ^^^ (-1))) ||| (1 <<< (nI q &&& 31)) else (if x2 = 1 then qfa X ||| (1 <<< (nI q &&& 31)) else qfa X &&& ((1 <<< (nI q &&& 31)) ^^^ (-1))) &&& ((1 <<< (nI q &&& 31)) ^^^ (-1))), _)
            rw [zwb_back (by omega)]
          · obtain ⟨N, hN, h, -⟩ := hR
            exact ⟨N, N, Nat.le_refl N, hN, hX.2.2 ▸ h, hX.2.2 ▸ h⟩
        · obtain ⟨N, hN, h1, h2, h3, h4, h5⟩ := hR
          rw [qbec_fa]
          refine ⟨N, hN, h1, h2, ?_, ?_, h5⟩
          · show FX8_withBit (g0_facts bc) (nI q) x2 = _
            unfold FX8_withBit
            rw [h3]
          · intro j hj
            show zb (if x2 = 1 then _ else _) j = false
            by_cases hj2 : j < 32
            · rw [zwb (by omega) hj2, if_neg (by omega)]
              exact h4 j hj
            · exact zb_big (by omega)
theorem e_off {bc : S0} {isS x1 x2 : Int32} {sg : Nat → Nat} {y : Nat → S0} {D U : Nat} {ch : Nat → Int32} {R : zC} (hD : D ≤ 12) (hR : zRel bc R) (hH : zHis sg y D U ch R) (hg : zcgs ch) {T : (Int32 × (Int32) × (Int32) × (Nat → Nat) × (Nat → S0) × (Nat) × (Int32))} {V : (Int32 × (Int32) × (Int32) × (Nat → Int32) × (Nat → Int32) × (Nat → Int32) × (Nat → Int32) × (Int32) × (Int32))}
    (hT : FX8_off isS (g0_kind bc) (g0_head bc) (g0_body bc) (g0_excepts bc) (g0_power bc) (g0_beats bc) (g0_facts bc) (g0_size bc) (g0_shut bc) sg y D (nI U) x1 x2 = T) (hV : FX9_off (qfa R) (qru R) (qsg R) (qof R) (qov R) ch (nI D) (nI U) x1 x2 = V) :
    T.1 = V.1 ∧ zCh isS T.2.1 (s0_shut bc T.2.2.1) T.2.2.2.1 T.2.2.2.2.1 T.2.2.2.2.2.1 T.2.2.2.2.2.2 R (qkd R, qhd R, qbd R, qex R, V.2.2.2.1, V.2.2.2.2.1, V.2.2.2.2.2.1, V.2.1, V.2.2.1) V.2.2.2.2.2.2.1 V.2.2.2.2.2.2.2.1 V.2.2.2.2.2.2.2.2 := by
  have hbad : zCh isS isS (s0_shut bc (g0_shut bc)) sg y D (nI U) R (qkd R, qhd R, qbd R, qex R, qsg R, qof R, qov R, qfa R, qru R) ch (nI D) (nI U) := ⟨hD, rfl, ⟨U, rfl, rfl, hH⟩, hR, hg, qout_r R, Or.inr ⟨rfl, rfl⟩⟩
  obtain ⟨N, hN, h1, h2, h3, h4, h5, h6, h7, h8, h9⟩ := hR
  unfold FX8_off at hT
  unfold FX9_off at hV
  have hr8 : ∀ x, FX0_hasRule (g0_size bc) x = FX0_hasRule (nI N) x := fun x => by rw [h2]
  have hr9 : ∀ x, FX9_isRule (qru R) x = FX0_hasRule (nI N) x := fun x => by rw [h1, e_rule hN]
  simp only [bnd, hr8, hr9, e_bit] at hT hV
  by_cases c1 : FX0_hasRule (nI N) x1 = 0
  · rw [if_pos c1] at hT hV
    subst hT hV
    exact ⟨rfl, hbad⟩
  · rw [if_neg c1] at hT hV
    by_cases c2 : FX8_isYesOrNo x2 = 0
    · rw [if_pos c2] at hT hV
      subst hT hV
      exact ⟨rfl, hbad⟩
    · rw [if_neg c2] at hT hV
      obtain ⟨r, hr, rfl⟩ := has_rule hN c1
      have h01 := is_yn c2
      have hw : qof R r = zi (zb (g0_shut bc) r) := (h5 r hr).2.2.2.2.2.2
      unfold FX9_does at hV
      simp only [bnd] at hV
      subst hT hV
      refine ⟨?_, ?_⟩
      · show (g0_shut bc >>> (nI r &&& 31)) &&& 1 = qof R (nI r).toNatClampNeg
        rw [nI_clamp (by omega), hw, z_bit2 (by omega)]
      · have key := q_does (isS := isS) (un := nI U) (C' := s0_shut bc (FX8_withBit (g0_shut bc) (nI r) x2)) (w := 2) (o := nI r) (wi := 0) (was := qof R (nI r).toNatClampNeg) (is := x2) hD hH hg (fun _ _ => ⟨r, by omega, rfl⟩) (fun X hX => ?_) ?_
        · exact key
        · rw [qbec_of]
          refine ⟨rfl, ?_, Or.inr (Or.inr ⟨Or.inl rfl, N, r, r, hN, hX.2.2 ▸ h1, hr, hr, rfl, fun h => absurd h (by decide)⟩), N, N, Nat.le_refl N, hN, hX.2.2 ▸ h1, hX.2.2 ▸ h1⟩
          rw [qbec_of, nI_clamp (show r < 2 ^ 31 by omega), (hX.1 r (by omega)).2.2.2.2.2.1]
          show X = (_, _, _, _, _, upd (upd (qof X) r x2) r (qof X r), _, _, _)
          rw [zupd2]
        · rw [qbec_of]
          refine ⟨N, hN, h1, h2, h3, h4, fun j hj => ?_, h6, fun j hj => ?_, h8, h9⟩
          · obtain ⟨a1, a2, a3, a4, a5, a6, a7⟩ := h5 j hj
            refine ⟨a1, a2, a3, a4, a5, a6, ?_⟩
            show upd (qof R) (nI r).toNatClampNeg x2 j = zi (zb (if x2 = 1 then _ else _) j)
            rw [nI_clamp (by omega), zwb (by omega) (by omega)]
            by_cases e : j = r
            · subst e
              rw [pk_us, if_pos rfl, zyn_dec h01]
            · rw [pk_un e, if_neg e]
              exact a7
          · show zb (if x2 = 1 then _ else _) j = false
            by_cases hj2 : j < 32
            · rw [zwb (by omega) hj2, if_neg (by omega)]
              exact h7 j hj
            · exact zb_big (by omega)
theorem is_str {x : Int32} (c : ¬ FX8_isStrength x = 0) : ∃ q : Nat, q < 10 ∧ x = nI q := by
  obtain ⟨q, hq, e⟩ := vp_in_of (zguard9 (k := 9) (N := 9) rfl (by decide) c) (by decide)
  exact ⟨q, hq, e⟩
theorem e_strength {bc : S0} {isS x1 x2 : Int32} {sg : Nat → Nat} {y : Nat → S0} {D U : Nat} {ch : Nat → Int32} {R : zC} (hD : D ≤ 12) (hR : zRel bc R) (hH : zHis sg y D U ch R) (hg : zcgs ch) {T : (Int32 × (Int32) × (Nat → Int32) × (Nat → Nat) × (Nat → S0) × (Nat) × (Int32))} {V : (Int32 × (Int32) × (Int32) × (Nat → Int32) × (Nat → Int32) × (Nat → Int32) × (Nat → Int32) × (Int32) × (Int32))}
    (hT : FX8_strength isS (g0_kind bc) (g0_head bc) (g0_body bc) (g0_excepts bc) (g0_power bc) (g0_beats bc) (g0_facts bc) (g0_size bc) (g0_shut bc) sg y D (nI U) x1 x2 = T) (hV : FX9_strength (qfa R) (qru R) (qsg R) (qof R) (qov R) ch (nI D) (nI U) x1 x2 = V) :
    T.1 = V.1 ∧ zCh isS T.2.1 (s0_power bc T.2.2.1) T.2.2.2.1 T.2.2.2.2.1 T.2.2.2.2.2.1 T.2.2.2.2.2.2 R (qkd R, qhd R, qbd R, qex R, V.2.2.2.1, V.2.2.2.2.1, V.2.2.2.2.2.1, V.2.1, V.2.2.1) V.2.2.2.2.2.2.1 V.2.2.2.2.2.2.2.1 V.2.2.2.2.2.2.2.2 := by
  have hbad : zCh isS isS (s0_power bc (g0_power bc)) sg y D (nI U) R (qkd R, qhd R, qbd R, qex R, qsg R, qof R, qov R, qfa R, qru R) ch (nI D) (nI U) := ⟨hD, rfl, ⟨U, rfl, rfl, hH⟩, hR, hg, qout_r R, Or.inr ⟨rfl, rfl⟩⟩
  obtain ⟨N, hN, h1, h2, h3, h4, h5, h6, h7, h8, h9⟩ := hR
  unfold FX8_strength at hT
  unfold FX9_strength at hV
  have hr8 : ∀ x, FX0_hasRule (g0_size bc) x = FX0_hasRule (nI N) x := fun x => by rw [h2]
  have hr9 : ∀ x, FX9_isRule (qru R) x = FX0_hasRule (nI N) x := fun x => by rw [h1, e_rule hN]
  simp only [bnd, hr8, hr9, e_str2] at hT hV
  by_cases c1 : FX0_hasRule (nI N) x1 = 0
  · rw [if_pos c1] at hT hV
    subst hT hV
    exact ⟨rfl, hbad⟩
  · rw [if_neg c1] at hT hV
    by_cases c2 : FX8_isStrength x2 = 0
    · rw [if_pos c2] at hT hV
      subst hT hV
      exact ⟨rfl, hbad⟩
    · rw [if_neg c2] at hT hV
      obtain ⟨r, hr, rfl⟩ := has_rule hN c1
      have hst := is_str c2
      have hw : g0_power bc r = qsg R r := (h5 r hr).2.2.2.2.1
      unfold FX9_does at hV
      simp only [bnd] at hV
      subst hT hV
      refine ⟨?_, ?_⟩
      · show g0_power bc (nI r).toNatClampNeg = qsg R (nI r).toNatClampNeg
        rw [nI_clamp (by omega), hw]
      · have key := q_does (isS := isS) (un := nI U) (C' := s0_power bc (upd (g0_power bc) (nI r).toNatClampNeg x2)) (w := 3) (o := nI r) (wi := 0) (was := qsg R (nI r).toNatClampNeg) (is := x2) hD hH hg (fun _ _ => ⟨r, by omega, rfl⟩) (fun X hX => ?_) ?_
        · exact key
        · rw [qbec_sg]
          refine ⟨rfl, ?_, Or.inr (Or.inr ⟨Or.inr (Or.inl rfl), N, r, r, hN, hX.2.2 ▸ h1, hr, hr, rfl, fun h => absurd h (by decide)⟩), N, N, Nat.le_refl N, hN, hX.2.2 ▸ h1, hX.2.2 ▸ h1⟩
          rw [qbec_sg, nI_clamp (show r < 2 ^ 31 by omega), (hX.1 r (by omega)).2.2.2.2.1]
          show X = (_, _, _, _, upd (upd (qsg X) r x2) r (qsg X r), _, _, _, _)
          rw [zupd2]
        · rw [qbec_sg]
          refine ⟨N, hN, h1, h2, h3, h4, fun j hj => ?_, fun j hj => ?_, h7, h8, h9⟩
          · obtain ⟨a1, a2, a3, a4, a5, a6, a7⟩ := h5 j hj
            refine ⟨a1, a2, a3, a4, ?_, a6, a7⟩
            show upd (g0_power bc) (nI r).toNatClampNeg x2 j = upd (qsg R) (nI r).toNatClampNeg x2 j
            rw [nI_clamp (by omega)]
            by_cases e : j = r
            · subst e
              rw [pk_us, pk_us]
            · rw [pk_un e, pk_un e]
              exact a5
          · obtain ⟨a1, a2, a3, a4, a5, a6⟩ := h6 j hj
            refine ⟨a1, a2, a3, a4, ?_, a6⟩
            show ∃ k : Nat, k < 10 ∧ upd (qsg R) (nI r).toNatClampNeg x2 j = nI k
            rw [nI_clamp (by omega)]
            by_cases e : j = r
            · subst e
              rw [pk_us]
              exact hst
            · rw [pk_un e]
              exact a5
theorem q_ov {bc : S0} {isS x3 : Int32} {sg : Nat → Nat} {y : Nat → S0} {D U N r o : Nat} {ch : Nat → Int32} {R : zC} (hD : D ≤ 12) (hN : N ≤ 16) (h1 : qru R = nI N) (hR : zRel bc R) (hH : zHis sg y D U ch R) (hg : zcgs ch) (hr : r < N) (ho : o < N) (hne : ¬ o = r) (h01 : x3 = 0 ∨ x3 = 1) :
    zCh isS 0 (s0_beats bc (upd (g0_beats bc) (nI r).toNatClampNeg (FX8_withBit (g0_beats bc (nI r).toNatClampNeg) (nI o) x3))) (zkS sg D) (va_up y (zkS sg D (zkD D)) (zcq (y (zkS sg D (zkD D))) (g0_kind bc) (g0_head bc) (g0_body bc) (g0_excepts bc) (g0_power bc) (upd (g0_beats bc) (nI r).toNatClampNeg (FX8_withBit (g0_beats bc (nI r).toNatClampNeg) (nI o) x3)) (g0_facts bc) (g0_size bc) (g0_shut bc))) (zkD D) 0 R (qbec R 4 (nI r) (nI o) x3) (FX9_changed ch (nI D) (nI U) 4 (nI r) (nI o) ((qov R (nI r).toNatClampNeg >>> (nI o &&& 31)) &&& 1) x3).1 (FX9_changed ch (nI D) (nI U) 4 (nI r) (nI o) ((qov R (nI r).toNatClampNeg >>> (nI o &&& 31)) &&& 1) x3).2.1 (FX9_changed ch (nI D) (nI U) 4 (nI r) (nI o) ((qov R (nI r).toNatClampNeg >>> (nI o &&& 31)) &&& 1) x3).2.2 := by
  refine q_does (isS := isS) (un := nI U) (C' := s0_beats bc (upd (g0_beats bc) (nI r).toNatClampNeg (FX8_withBit (g0_beats bc (nI r).toNatClampNeg) (nI o) x3))) hD hH hg (fun _ _ => ⟨r, by omega, rfl⟩) (fun X hX => ?_) ?_
  · rw [qbec_ov]
    refine ⟨(qbec_ov X _ _ _).symm, ?_, Or.inr (Or.inr ⟨Or.inr (Or.inr rfl), N, r, o, hN, hX.2.2 ▸ h1, hr, ho, rfl, fun _ => rfl⟩), N, N, Nat.le_refl N, hN, hX.2.2 ▸ h1, hX.2.2 ▸ h1⟩
    rw [qbec_ov, nI_clamp (show r < 2 ^ 31 by omega), (hX.1 r (by omega)).2.2.2.2.2.2, z_bit2 (by omega)]
    show X = (_, _, _, _, _, _, upd (upd (qov X) r (if x3 = 1 then qov X r ||| (1 <<< (nI o &&& 31)) else qov X r &&& ((1 <<< (nI o &&& 31)) ^^^ (-1)))) r (if zi (zb (qov X r) o) = 1 then upd (qov X) r (if x3 = 1 then qov X r ||| (1 <<< (nI o &&& 31)) else qov X r &&& ((1 <<< (nI o &&& 31)) ^^^ (-1))) r ||| (1 <<< (nI o &&& 31)) else upd (qov X) r (if x3 = 1 then qov X r ||| (1 <<< (nI o &&& 31)) else qov X r &&& ((1 <<< (nI o &&& 31)) ^^^ (-1))) r &&& ((1 <<< (nI o &&& 31)) ^^^ (-1))), _, _)
    rw [pk_us, zwb_back (by omega), zupd2]
  · obtain ⟨N', hN', h1', h2, h3, h4, h5, h6, h7, h8, h9⟩ := hR
    obtain rfl : N' = N := (nI_eq (by omega) (by omega)).mp (h1'.symm.trans h1)
    rw [qbec_ov]
    refine ⟨N', hN, h1, h2, h3, h4, fun j hj => ?_, fun j hj => ?_, h7, h8, h9⟩
    · obtain ⟨a1, a2, a3, a4, a5, a6, a7⟩ := h5 j hj
      refine ⟨a1, a2, a3, a4, a5, ?_, a7⟩
      show upd (g0_beats bc) (nI r).toNatClampNeg (if x3 = 1 then _ else _) j = upd (qov R) (nI r).toNatClampNeg (if x3 = 1 then _ else _) j
      rw [nI_clamp (by omega)]
      by_cases e : j = r
      · subst e
        rw [pk_us, pk_us, a6]
      · rw [pk_un e, pk_un e]
        exact a6
    · obtain ⟨a1, a2, a3, a4, a5, a6⟩ := h6 j hj
      refine ⟨a1, a2, a3, a4, a5, fun k => ?_⟩
      show zb (upd (qov R) (nI r).toNatClampNeg (if x3 = 1 then _ else _) j) k = true → _
      rw [nI_clamp (by omega)]
      by_cases e : j = r
      · subst e
        rw [pk_us]
        by_cases hk : k < 32
        · rw [zwb (by omega) hk]
          by_cases ek : k = o
          · subst ek
            exact fun _ => ⟨ho, hne⟩
          · rw [if_neg ek]
            exact a6 k
        · rw [zb_big (by omega)]
          exact fun h => absurd h (by decide)
      · rw [pk_un e]
        exact a6 k
theorem e_over {bc : S0} {isS x1 x2 x3 : Int32} {sg : Nat → Nat} {y : Nat → S0} {D U : Nat} {ch : Nat → Int32} {R : zC} (hD : D ≤ 12) (hR : zRel bc R) (hH : zHis sg y D U ch R) (hg : zcgs ch) {T : (Int32 × (Int32) × (Nat → Int32) × (Nat → Nat) × (Nat → S0) × (Nat) × (Int32))} {V : (Int32 × (Int32) × (Int32) × (Nat → Int32) × (Nat → Int32) × (Nat → Int32) × (Nat → Int32) × (Int32) × (Int32))}
    (hT : FX8_over isS (g0_kind bc) (g0_head bc) (g0_body bc) (g0_excepts bc) (g0_power bc) (g0_beats bc) (g0_facts bc) (g0_size bc) (g0_shut bc) sg y D (nI U) x1 x2 x3 = T) (hV : FX9_over (qfa R) (qru R) (qsg R) (qof R) (qov R) ch (nI D) (nI U) x1 x2 x3 = V) :
    T.1 = V.1 ∧ zCh isS T.2.1 (s0_beats bc T.2.2.1) T.2.2.2.1 T.2.2.2.2.1 T.2.2.2.2.2.1 T.2.2.2.2.2.2 R (qkd R, qhd R, qbd R, qex R, V.2.2.2.1, V.2.2.2.2.1, V.2.2.2.2.2.1, V.2.1, V.2.2.1) V.2.2.2.2.2.2.1 V.2.2.2.2.2.2.2.1 V.2.2.2.2.2.2.2.2 := by
  have hbad : zCh isS isS (s0_beats bc (g0_beats bc)) sg y D (nI U) R (qkd R, qhd R, qbd R, qex R, qsg R, qof R, qov R, qfa R, qru R) ch (nI D) (nI U) := ⟨hD, rfl, ⟨U, rfl, rfl, hH⟩, hR, hg, qout_r R, Or.inr ⟨rfl, rfl⟩⟩
  obtain ⟨N, hN, h1, h2, h3, h4, h5, h6, h7, h8, h9⟩ := id hR
  unfold FX8_over at hT
  unfold FX9_over at hV
  have hr8 : ∀ x, FX0_hasRule (g0_size bc) x = FX0_hasRule (nI N) x := fun x => by rw [h2]
  have hr9 : ∀ x, FX9_isRule (qru R) x = FX0_hasRule (nI N) x := fun x => by rw [h1, e_rule hN]
  simp only [bnd, hr8, hr9, e_bit, zh98b] at hT hV
  by_cases c1 : FX0_hasRule (nI N) x1 = 0
  · rw [if_pos c1] at hT hV
    subst hT hV
    exact ⟨rfl, hbad⟩
  rw [if_neg c1] at hT hV
  by_cases c2 : FX0_hasRule (nI N) x2 = 0
  · rw [if_pos c2] at hT hV
    subst hT hV
    exact ⟨rfl, hbad⟩
  rw [if_neg c2] at hT hV
  by_cases c3 : x1 = x2
  · rw [if_pos c3] at hT hV
    subst hT hV
    exact ⟨rfl, hbad⟩
  rw [if_neg c3] at hT hV
  by_cases c4 : FX8_isYesOrNo x3 = 0
  · rw [if_pos c4] at hT hV
    subst hT hV
    exact ⟨rfl, hbad⟩
  rw [if_neg c4] at hT hV
  obtain ⟨r, hr, rfl⟩ := has_rule hN c1
  obtain ⟨o, ho, rfl⟩ := has_rule hN c2
  have h01 := is_yn c4
  have hne : ¬ o = r := fun e => c3 (by rw [e])
  have hbo : g0_beats bc (nI o).toNatClampNeg = qov R (nI o).toNatClampNeg := by
    rw [nI_clamp (by omega)]
    exact (h5 o ho).2.2.2.2.2.1
  have hbr : g0_beats bc (nI r).toNatClampNeg = qov R (nI r).toNatClampNeg := by
    rw [nI_clamp (by omega)]
    exact (h5 r hr).2.2.2.2.2.1
  have key := q_ov (isS := isS) (x3 := x3) hD hN h1 hR hH hg hr ho hne h01
  have fin : ∀ (T : (Int32 × (Int32) × (Nat → Int32) × (Nat → Nat) × (Nat → S0) × (Nat) × (Int32))) (V : (Int32 × (Int32) × (Int32) × (Nat → Int32) × (Nat → Int32) × (Nat → Int32) × (Nat → Int32) × (Int32) × (Int32))), FX8_over_60 isS (g0_kind bc) (g0_head bc) (g0_body bc) (g0_excepts bc) (g0_power bc) (g0_beats bc) (g0_facts bc) (g0_size bc) (g0_shut bc) sg y D (nI U) (nI r) (nI o) x3 isS (g0_beats bc) sg y D (nI U) = T → FX9_over_51 (qfa R) (qru R) (qsg R) (qof R) (qov R) ch (nI D) (nI U) (nI r) (nI o) x3 (qfa R) (qru R) (qsg R) (qof R) (qov R) ch (nI D) (nI U) = V → T.1 = V.1 ∧ zCh isS T.2.1 (s0_beats bc T.2.2.1) T.2.2.2.1 T.2.2.2.2.1 T.2.2.2.2.2.1 T.2.2.2.2.2.2 R (qkd R, qhd R, qbd R, qex R, V.2.2.2.1, V.2.2.2.2.1, V.2.2.2.2.2.1, V.2.1, V.2.2.1) V.2.2.2.2.2.2.1 V.2.2.2.2.2.2.2.1 V.2.2.2.2.2.2.2.2 := by
    intro T V hT hV
    unfold FX8_over_60 at hT
    unfold FX9_over_51 FX9_does at hV
    simp only [bnd] at hT hV
    subst hT hV
    refine ⟨?_, ?_⟩
    · show (g0_beats bc (nI r).toNatClampNeg >>> (nI o &&& 31)) &&& 1 = (qov R (nI r).toNatClampNeg >>> (nI o &&& 31)) &&& 1
      rw [hbr]
    · exact key
  by_cases c5 : x3 = 1
  · rw [if_pos c5] at hT hV
    rw [hbo] at hT
    by_cases c6 : FX8_has (qov R (nI o).toNatClampNeg) (nI r) = 0
    · rw [if_pos c6] at hT hV
      exact fin T V hT hV
    · rw [if_neg c6] at hT hV
      subst hT hV
      exact ⟨rfl, hbad⟩
  · rw [if_neg c5] at hT hV
    exact fin T V hT hV
