def rmL_has : Room := { frames := 0, cells := 0, slots := 0, locals := 0 }
set_option maxHeartbeats 40000000 in
set_option maxRecDepth 100000 in
theorem c_L_has (l : Launch) (G : zG) (x0 : Int32) (x1 : Int32) (T : Int32) (hT : FL_has x0 x1 = T) : zR l yL_has wsL_has rmL_has .boolean G [.int x0, .int x1] [] T := by
  refine zR.mk (cc := cL_has) (maxL := 2) (by decide +kernel) rfl (Nat.le_of_ble_eq_true rfl) ?_
  intro p e s m args below meth c Q A ls S hK hD hA hP hl hret
  have hx := S.1
  have hb := S.2.1
  have hl : lv_has ls 2 [(0, .int x0), (1, .int x1)] := hl
  have hE := hT.symm.trans (FL_has.eq_1 _ _)
  refine lv_iload_n hx hb dL_has_0 rfl (lv_at hl 0 rfl) ?_
  refine lv_iload_n hx hb dL_has_1 rfl (lv_at hl 1 rfl) ?_
  refine lv_ishr hx hb dL_has_2 ?_
  refine lv_iconst (v := 1) hx hb dL_has_3 (by decide) ?_
  refine lv_iand hx hb dL_has_4 ?_
  refine lv_iconst (v := 1) hx hb dL_has_5 (by decide) ?_
  refine lv_icmp_ne (tgt := 13) hx hb dL_has_6 (by decide) (fun c6 => ?_) (fun c6 => ?_)
  · have hE := hE.trans (if_neg c6)
    refine lv_iconst (v := 0) hx hb dL_has_13 (by decide) ?_
    exact hret _ _ _ hE zn0 dL_has_14
  · have hE := hE.trans (if_pos c6)
    refine lv_iconst (v := 1) hx hb dL_has_9 (by decide) ?_
    refine lv_goto (tgt := 14) hx hb dL_has_10 (by decide) ?_
    exact hret _ _ _ hE zn1 dL_has_14

def rmL_some : Room := { frames := 0, cells := 0, slots := 0, locals := 0 }
set_option maxHeartbeats 40000000 in
set_option maxRecDepth 100000 in
theorem c_L_some (l : Launch) (G : zG) (x0 : Int32) (x1 : Int32) (hsn : ∃ N : Nat, N ≤ 2 ∧ x1 = nI N) (T : Int32) (hT : FL_some x0 x1 = T) : zR l yL_some wsL_some rmL_some .int G [.int x0, .int x1] [] T := by
  refine zR.mk (cc := cL_some) (maxL := 4) (by decide +kernel) rfl (Nat.le_of_ble_eq_true rfl) ?_
  intro p e s m args below meth c Q A ls S hK hD hA hP hl hret
  have hx := S.1
  have hb := S.2.1
  have hl : lv_has ls 4 [(0, .int x0), (1, .int x1)] := hl
  obtain ⟨NS, hNS, hxS⟩ := id hsn
  have hE := hT.symm.trans (FL_some.eq_1 _ _)
  refine lv_iconst (v := 0) hx hb dL_some_0 (by decide) ?_
  refine lv_istore_n (lv' := [(2, .int 0), (0, .int x0), (1, .int x1)]) hx hb dL_some_1 rfl hl (by decide) rfl (fun ls hl => ?_)
  refine lv_iconst (v := 0) hx hb dL_some_2 (by decide) ?_
  have hB52 : ∀ (x2_52 : Int32) (ls : Array Slot), T = FL_some_52 x0 x1 x2_52 → lv_has ls 4 [(2, .int x2_52)] → W p l e rmL_some s m args below meth c s.heap [] 0 0 Q (F0 m 52 ls []) := by
    intro x2_52 ls hE hl
    have hE := hE.trans (FL_some_52.eq_1 _ _ _)
    refine lv_iload_n hx hb dL_some_52 rfl (lv_at hl 0 rfl) ?_
    exact hret _ _ _ hE rfl dL_some_53
  have hB4 : ∀ (n4 : Nat) (x2_4 : Int32) (i3_4 : Nat) (ls : Array Slot), (i3_4 ≤ NS) → 3 ≤ i3_4 + n4 → T = FL_some_4 x0 x1 (FL_some_52 x0 x1) n4 x2_4 (nI i3_4) → lv_has ls 4 [(0, .int x0), (1, .int x1), (2, .int x2_4), (3, .int (nI i3_4))] → W p l e rmL_some s m args below meth c s.heap [] 0 0 Q (F0 m 4 ls []) := by
    intro n4
    induction n4 with
    | zero =>
      intro x2_4 i3_4 ls hi3_4 hn hE hl
      exact absurd hn (by omega)
    | succ n4 ih4 =>
      intro x2_4 i3_4 ls hi3_4 hn hE hl
      have hE := hE.trans (FL_some_4.eq_2 _ _ _ _ _ _)
      refine lv_iload_n hx hb dL_some_4 rfl (lv_at hl 3 rfl) ?_
      refine lv_iload_n hx hb dL_some_5 rfl (lv_at hl 1 rfl) ?_
      refine lv_icmp_ge (tgt := 52) hx hb dL_some_6 (by decide) (fun c6 => ?_) (fun c6 => ?_)
      · have hE := hE.trans (if_pos c6)
        exact hB52 x2_4 _ hE (lv_sub hl [2] rfl)
      · have hE := hE.trans (if_neg c6)
        have hl3_4 : i3_4 < NS := zlt (N := NS) hxS (by omega) (by omega) c6
        refine lv_iload_n hx hb dL_some_9 rfl (lv_at hl 2 rfl) ?_
        refine lv_iconst (v := 1) hx hb dL_some_10 (by decide) ?_
        refine lv_iload_n hx hb dL_some_11 rfl (lv_at hl 0 rfl) ?_
        refine lv_iconst (v := 5) hx hb dL_some_12 (by decide) ?_
        refine lv_iload_n hx hb dL_some_13 rfl (lv_at hl 3 rfl) ?_
        refine lv_imul hx hb dL_some_14 ?_
        refine lv_iushr (v := ((x0.toUInt32 >>> ((5 * (nI i3_4)).toUInt32 &&& Int32.toUInt32 31)).toInt32)) hx hb dL_some_15 rfl ?_
        refine lv_bipush (v := 31) hx hb dL_some_16 (by decide) ?_
        refine lv_iand hx hb dL_some_18 ?_
        refine lv_bipush (v := 12) hx hb dL_some_19 (by decide) ?_
        refine lv_irem hx hb dL_some_21 (by decide) ?_
        refine lv_iload_n hx hb dL_some_22 rfl (lv_at hl 0 rfl) ?_
        refine lv_iconst (v := 5) hx hb dL_some_23 (by decide) ?_
        refine lv_iload_n hx hb dL_some_24 rfl (lv_at hl 3 rfl) ?_
        refine lv_imul hx hb dL_some_25 ?_
        refine lv_iushr (v := ((x0.toUInt32 >>> ((5 * (nI i3_4)).toUInt32 &&& Int32.toUInt32 31)).toInt32)) hx hb dL_some_26 rfl ?_
        refine lv_bipush (v := 31) hx hb dL_some_27 (by decide) ?_
        refine lv_iand hx hb dL_some_29 ?_
        refine lv_bipush (v := 12) hx hb dL_some_30 (by decide) ?_
        refine lv_irem hx hb dL_some_32 (by decide) ?_
        refine lv_iconst (v := 5) hx hb dL_some_33 (by decide) ?_
        have hB42 : ∀ (k3_42 : Int32) (ls : Array Slot), T = FL_some_42 x0 x1 (fun x2_4' x3_4' => FL_some_4 x0 x1 (FL_some_52 x0 x1) n4 x2_4' x3_4') (FL_some_52 x0 x1) (nI i3_4) x2_4 1 ((((x0.toUInt32 >>> ((5 * (nI i3_4)).toUInt32 &&& Int32.toUInt32 31)).toInt32) &&& 31) - (((x0.toUInt32 >>> ((5 * (nI i3_4)).toUInt32 &&& Int32.toUInt32 31)).toInt32) &&& 31) / 12 * 12) k3_42 → lv_has ls 4 [(0, .int x0), (1, .int x1), (3, .int (nI i3_4))] → W p l e rmL_some s m args below meth c s.heap [] 0 0 Q (F0 m 42 ls [.int k3_42, .int ((((x0.toUInt32 >>> ((5 * (nI i3_4)).toUInt32 &&& Int32.toUInt32 31)).toInt32) &&& 31) - (((x0.toUInt32 >>> ((5 * (nI i3_4)).toUInt32 &&& Int32.toUInt32 31)).toInt32) &&& 31) / 12 * 12), .int 1, .int x2_4]) := by
          intro k3_42 ls hE hl
          have hE := hE.trans (FL_some_42.eq_1 _ _ _ _ _ _ _ _ _)
          refine lv_iadd hx hb dL_some_42 ?_
          refine lv_ishl hx hb dL_some_43 ?_
          refine lv_ior hx hb dL_some_44 ?_
          refine lv_istore_n (lv' := [(2, .int (x2_4 ||| (1 <<< ((((((x0.toUInt32 >>> ((5 * (nI i3_4)).toUInt32 &&& Int32.toUInt32 31)).toInt32) &&& 31) - (((x0.toUInt32 >>> ((5 * (nI i3_4)).toUInt32 &&& Int32.toUInt32 31)).toInt32) &&& 31) / 12 * 12) + k3_42) &&& 31)))), (0, .int x0), (1, .int x1), (3, .int (nI i3_4))]) hx hb dL_some_45 rfl hl (by decide) rfl (fun ls hl => ?_)
          refine lv_iinc (v := (nI (i3_4 + 1))) (lv' := [(3, .int (nI (i3_4 + 1))), (2, .int (x2_4 ||| (1 <<< ((((((x0.toUInt32 >>> ((5 * (nI i3_4)).toUInt32 &&& Int32.toUInt32 31)).toInt32) &&& 31) - (((x0.toUInt32 >>> ((5 * (nI i3_4)).toUInt32 &&& Int32.toUInt32 31)).toInt32) &&& 31) / 12 * 12) + k3_42) &&& 31)))), (0, .int x0), (1, .int x1)]) hx hb dL_some_46 hl (k := 3) rfl (nI_1 i3_4) (by decide) rfl (fun ls hl => ?_)
          try rw [nI_1 i3_4] at hE
          refine lv_goto (tgt := 4) hx hb dL_some_49 (by decide) ?_
          exact ih4 (x2_4 ||| (1 <<< ((((((x0.toUInt32 >>> ((5 * (nI i3_4)).toUInt32 &&& Int32.toUInt32 31)).toInt32) &&& 31) - (((x0.toUInt32 >>> ((5 * (nI i3_4)).toUInt32 &&& Int32.toUInt32 31)).toInt32) &&& 31) / 12 * 12) + k3_42) &&& 31))) (i3_4 + 1) _ (by first | assumption | omega) (by omega) hE (lv_sub hl [2, 3, 1, 0] rfl)
        refine lv_icmp_le (tgt := 41) hx hb dL_some_34 (by decide) (fun c34 => ?_) (fun c34 => ?_)
        · have hE := hE.trans (if_pos c34)
          refine lv_iconst (v := 0) hx hb dL_some_41 (by decide) ?_
          exact hB42 0 _ hE (lv_sub hl [0, 1, 3] rfl)
        · have hE := hE.trans (if_neg c34)
          refine lv_iconst (v := 4) hx hb dL_some_37 (by decide) ?_
          refine lv_goto (tgt := 42) hx hb dL_some_38 (by decide) ?_
          exact hB42 4 _ hE (lv_sub hl [0, 1, 3] rfl)
  refine lv_istore_n (lv' := [(3, .int 0), (2, .int 0), (0, .int x0), (1, .int x1)]) hx hb dL_some_3 rfl hl (by decide) rfl (fun ls hl => ?_)
  exact hB4 3 0 0 _ (by first | assumption | omega) (by omega) hE (lv_sub hl [2, 3, 1, 0] rfl)

def rmL_applies : Room := { frames := 4, cells := 0, slots := 0, locals := 88 }
set_option maxHeartbeats 40000000 in
set_option maxRecDepth 100000 in
theorem c_L_applies (l : Launch) (G : zG) (arc : Nat → Nat) (ac : Nat → Nat) (atf : Nat → Nat) (orc_rounds : Nat) (orc_thought : Nat) (orc_thoughtRounds : Nat) (orc_chain : Nat) (orc_history : Nat) (orc_kept : Nat) (orc_words : Nat) (orc_sheet : Nat) (orc_rows : Nat) (brc : S8) (bc : S0) (btf : S10) (x1 : Int32) (hz_c_size : ∃ N : Nat, N ≤ 16 ∧ g0_size bc = nI N) (T : Int32) (hT : FL_applies (g0_kind bc) (g0_head bc) (g0_body bc) (g0_excepts bc) (g0_power bc) (g0_beats bc) (g0_size bc) (g0_shut bc) (g10_x btf) x1 = T) : zR l yL_applies wsL_applies rmL_applies .boolean G [.ref (arc 0), .int x1, .ref (atf 0)] [w8 G arc (ac 0) orc_rounds orc_thought orc_thoughtRounds orc_chain orc_history orc_kept orc_words orc_sheet orc_rows brc, w0 G ac bc, w10 G atf btf] T := by
  refine zR.mk (cc := cL_applies) (maxL := 3) (by decide +kernel) rfl (Nat.le_of_ble_eq_true rfl) ?_
  intro p e s m args below meth c Q A ls S hK hD hA hP hl hret
  have hx := S.1
  have hb := S.2.1
  have hl : lv_has ls 3 [(0, .ref (arc 0)), (1, .int x1), (2, .ref (atf 0))] := hl
  have hE := hT.symm.trans (FL_applies.eq_1 _ _ _ _ _ _ _ _ _ _)
  refine lv_aload_n hx hb dL_applies_0 rfl (lv_at hl 0 rfl) ?_
  refine lv_iload_n hx hb dL_applies_1 rfl (lv_at hl 1 rfl) ?_
  refine lv_iconst (v := 2) hx hb dL_applies_2 (by decide) ?_
  obtain ⟨t3, ht3⟩ : ∃ z, FX8_ruleOf (g0_kind bc) (g0_head bc) (g0_body bc) (g0_excepts bc) (g0_power bc) (g0_beats bc) (g0_size bc) (g0_shut bc) x1 2 = z := ⟨_, rfl⟩
  have hE := hE.trans (bnd_eq ht3)
  have hc := c_X8_ruleOf l G arc ac orc_rounds orc_thought orc_thoughtRounds orc_chain orc_history orc_kept orc_words orc_sheet orc_rows brc bc x1 2 (hz_c_size) _ ht3
  refine zgoR (va_runV (As := [.int x1, .int 2]) (rest := []) S (hc _) (cwV 2 S.2.2.2.2 gL_applies_X8_ruleOf rfl rfl rfl (by decide +kernel) ⟨Nat.le_of_ble_eq_true rfl, Nat.le_of_ble_eq_true rfl⟩) (zpV hK hP hD (is := [0, 1]) rfl rfl 0 rfl rfl (ci := 8) rfl) rfl rfl hl.1 rfl (lv_room (Nat.le_of_ble_eq_true rfl)) dL_applies_3 ⟨Nat.zero_le _, Nat.zero_le _⟩) (fun hn3 => ?_)
  refine lv_aload_n hx hb dL_applies_6 rfl (lv_at hl 2 rfl) ?_
  refine lv_iconst (v := 2) hx hb dL_applies_7 (by decide) ?_
  refine zl10_x S hK hP 2 rfl (zin_k (n := 2) rfl (by decide) (by decide)) (f := (g10_x btf)) rfl dL_applies_8 ?_
  refine lv_iconst (v := (-1)) hx hb dL_applies_9 (by decide) ?_
  refine lv_ixor hx hb dL_applies_10 ?_
  refine lv_iand hx hb dL_applies_11 ?_
  refine lv_if_ne (tgt := 34) hx hb dL_applies_12 (by decide) (fun c12 => ?_) (fun c12 => ?_)
  · have hE := hE.trans (if_neg c12)
    refine lv_iconst (v := 0) hx hb dL_applies_34 (by decide) ?_
    exact hret _ _ _ hE zn0 dL_applies_35
  · have hE := hE.trans (if_pos c12)
    refine lv_aload_n hx hb dL_applies_15 rfl (lv_at hl 0 rfl) ?_
    refine lv_iload_n hx hb dL_applies_16 rfl (lv_at hl 1 rfl) ?_
    refine lv_iconst (v := 3) hx hb dL_applies_17 (by decide) ?_
    obtain ⟨t18, ht18⟩ : ∃ z, FX8_ruleOf (g0_kind bc) (g0_head bc) (g0_body bc) (g0_excepts bc) (g0_power bc) (g0_beats bc) (g0_size bc) (g0_shut bc) x1 3 = z := ⟨_, rfl⟩
    have hE := hE.trans (bnd_eq ht18)
    have hc := c_X8_ruleOf l G arc ac orc_rounds orc_thought orc_thoughtRounds orc_chain orc_history orc_kept orc_words orc_sheet orc_rows brc bc x1 3 (hz_c_size) _ ht18
    refine zgoR (va_runV (As := [.int x1, .int 3]) (rest := []) S (hc _) (cwV 2 S.2.2.2.2 gL_applies_X8_ruleOf rfl rfl rfl (by decide +kernel) ⟨Nat.le_of_ble_eq_true rfl, Nat.le_of_ble_eq_true rfl⟩) (zpV hK hP hD (is := [0, 1]) rfl rfl 0 rfl rfl (ci := 8) rfl) rfl rfl hl.1 rfl (lv_room (Nat.le_of_ble_eq_true rfl)) dL_applies_18 ⟨Nat.zero_le _, Nat.zero_le _⟩) (fun hn18 => ?_)
    refine lv_aload_n hx hb dL_applies_21 rfl (lv_at hl 2 rfl) ?_
    refine lv_iconst (v := 3) hx hb dL_applies_22 (by decide) ?_
    refine zl10_x S hK hP 2 rfl (zin_k (n := 3) rfl (by decide) (by decide)) (f := (g10_x btf)) rfl dL_applies_23 ?_
    refine lv_iconst (v := (-1)) hx hb dL_applies_24 (by decide) ?_
    refine lv_ixor hx hb dL_applies_25 ?_
    refine lv_iand hx hb dL_applies_26 ?_
    refine lv_if_ne (tgt := 34) hx hb dL_applies_27 (by decide) (fun c27 => ?_) (fun c27 => ?_)
    · have hE := hE.trans (if_neg c27)
      refine lv_iconst (v := 0) hx hb dL_applies_34 (by decide) ?_
      exact hret _ _ _ hE zn0 dL_applies_35
    · have hE := hE.trans (if_pos c27)
      refine lv_iconst (v := 1) hx hb dL_applies_30 (by decide) ?_
      refine lv_goto (tgt := 35) hx hb dL_applies_31 (by decide) ?_
      exact hret _ _ _ hE zn1 dL_applies_35

def rmL_falls : Room := { frames := 4, cells := 0, slots := 0, locals := 88 }
set_option maxHeartbeats 40000000 in
set_option maxRecDepth 100000 in
theorem c_L_falls (l : Launch) (G : zG) (arc : Nat → Nat) (ac : Nat → Nat) (atf : Nat → Nat) (orc_rounds : Nat) (orc_thought : Nat) (orc_thoughtRounds : Nat) (orc_chain : Nat) (orc_history : Nat) (orc_kept : Nat) (orc_words : Nat) (orc_sheet : Nat) (orc_rows : Nat) (brc : S8) (bc : S0) (btf : S10) (x1 : Int32) (hz_c_size : ∃ N : Nat, N ≤ 16 ∧ g0_size bc = nI N) (T : Int32) (hT : FL_falls (g0_kind bc) (g0_head bc) (g0_body bc) (g0_excepts bc) (g0_power bc) (g0_beats bc) (g0_size bc) (g0_shut bc) (g10_x btf) x1 = T) : zR l yL_falls wsL_falls rmL_falls .boolean G [.ref (arc 0), .int x1, .ref (atf 0)] [w8 G arc (ac 0) orc_rounds orc_thought orc_thoughtRounds orc_chain orc_history orc_kept orc_words orc_sheet orc_rows brc, w0 G ac bc, w10 G atf btf] T := by
  refine zR.mk (cc := cL_falls) (maxL := 3) (by decide +kernel) rfl (Nat.le_of_ble_eq_true rfl) ?_
  intro p e s m args below meth c Q A ls S hK hD hA hP hl hret
  have hx := S.1
  have hb := S.2.1
  have hl : lv_has ls 3 [(0, .ref (arc 0)), (1, .int x1), (2, .ref (atf 0))] := hl
  have hE := hT.symm.trans (FL_falls.eq_1 _ _ _ _ _ _ _ _ _ _)
  refine lv_aload_n hx hb dL_falls_0 rfl (lv_at hl 0 rfl) ?_
  refine lv_iload_n hx hb dL_falls_1 rfl (lv_at hl 1 rfl) ?_
  refine lv_iconst (v := 2) hx hb dL_falls_2 (by decide) ?_
  obtain ⟨t3, ht3⟩ : ∃ z, FX8_ruleOf (g0_kind bc) (g0_head bc) (g0_body bc) (g0_excepts bc) (g0_power bc) (g0_beats bc) (g0_size bc) (g0_shut bc) x1 2 = z := ⟨_, rfl⟩
  have hE := hE.trans (bnd_eq ht3)
  have hc := c_X8_ruleOf l G arc ac orc_rounds orc_thought orc_thoughtRounds orc_chain orc_history orc_kept orc_words orc_sheet orc_rows brc bc x1 2 (hz_c_size) _ ht3
  refine zgoR (va_runV (As := [.int x1, .int 2]) (rest := []) S (hc _) (cwV 2 S.2.2.2.2 gL_falls_X8_ruleOf rfl rfl rfl (by decide +kernel) ⟨Nat.le_of_ble_eq_true rfl, Nat.le_of_ble_eq_true rfl⟩) (zpV hK hP hD (is := [0, 1]) rfl rfl 0 rfl rfl (ci := 8) rfl) rfl rfl hl.1 rfl (lv_room (Nat.le_of_ble_eq_true rfl)) dL_falls_3 ⟨Nat.zero_le _, Nat.zero_le _⟩) (fun hn3 => ?_)
  refine lv_aload_n hx hb dL_falls_6 rfl (lv_at hl 2 rfl) ?_
  refine lv_iconst (v := 3) hx hb dL_falls_7 (by decide) ?_
  refine zl10_x S hK hP 2 rfl (zin_k (n := 3) rfl (by decide) (by decide)) (f := (g10_x btf)) rfl dL_falls_8 ?_
  refine lv_iand hx hb dL_falls_9 ?_
  refine lv_if_ne (tgt := 26) hx hb dL_falls_10 (by decide) (fun c10 => ?_) (fun c10 => ?_)
  · have hE := hE.trans (if_neg c10)
    refine lv_iconst (v := 1) hx hb dL_falls_26 (by decide) ?_
    refine lv_goto (tgt := 31) hx hb dL_falls_27 (by decide) ?_
    exact hret _ _ _ hE zn1 dL_falls_31
  · have hE := hE.trans (if_pos c10)
    refine lv_aload_n hx hb dL_falls_13 rfl (lv_at hl 0 rfl) ?_
    refine lv_iload_n hx hb dL_falls_14 rfl (lv_at hl 1 rfl) ?_
    refine lv_iconst (v := 3) hx hb dL_falls_15 (by decide) ?_
    obtain ⟨t16, ht16⟩ : ∃ z, FX8_ruleOf (g0_kind bc) (g0_head bc) (g0_body bc) (g0_excepts bc) (g0_power bc) (g0_beats bc) (g0_size bc) (g0_shut bc) x1 3 = z := ⟨_, rfl⟩
    have hE := hE.trans (bnd_eq ht16)
    have hc := c_X8_ruleOf l G arc ac orc_rounds orc_thought orc_thoughtRounds orc_chain orc_history orc_kept orc_words orc_sheet orc_rows brc bc x1 3 (hz_c_size) _ ht16
    refine zgoR (va_runV (As := [.int x1, .int 3]) (rest := []) S (hc _) (cwV 2 S.2.2.2.2 gL_falls_X8_ruleOf rfl rfl rfl (by decide +kernel) ⟨Nat.le_of_ble_eq_true rfl, Nat.le_of_ble_eq_true rfl⟩) (zpV hK hP hD (is := [0, 1]) rfl rfl 0 rfl rfl (ci := 8) rfl) rfl rfl hl.1 rfl (lv_room (Nat.le_of_ble_eq_true rfl)) dL_falls_16 ⟨Nat.zero_le _, Nat.zero_le _⟩) (fun hn16 => ?_)
    refine lv_aload_n hx hb dL_falls_19 rfl (lv_at hl 2 rfl) ?_
    refine lv_iconst (v := 2) hx hb dL_falls_20 (by decide) ?_
    refine zl10_x S hK hP 2 rfl (zin_k (n := 2) rfl (by decide) (by decide)) (f := (g10_x btf)) rfl dL_falls_21 ?_
    refine lv_iand hx hb dL_falls_22 ?_
    refine lv_if_eq (tgt := 30) hx hb dL_falls_23 (by decide) (fun c23 => ?_) (fun c23 => ?_)
    · have hE := hE.trans (if_pos c23)
      refine lv_iconst (v := 0) hx hb dL_falls_30 (by decide) ?_
      exact hret _ _ _ hE zn0 dL_falls_31
    · have hE := hE.trans (if_neg c23)
      refine lv_iconst (v := 1) hx hb dL_falls_26 (by decide) ?_
      refine lv_goto (tgt := 31) hx hb dL_falls_27 (by decide) ?_
      exact hret _ _ _ hE zn1 dL_falls_31
