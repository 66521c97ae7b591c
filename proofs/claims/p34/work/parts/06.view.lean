theorem in_X6_enterRule_6 : ∀ w ∈ u_ws RX6 TX6 12, w ∈ wsX6_enterRule := by decide +kernel
def rmX6_enterRule : Room := { frames := 0, cells := 0, slots := 0, locals := 0 }
set_option maxHeartbeats 4000000 in
set_option maxRecDepth 100000 in
theorem c_X6_enterRule (l : Launch) (G : zG) (av : Nat → Nat) (bv : S6) (x1 : Int32) (x2 : Int32) (x3 : Int32) (hx3_20 : vp_in x3 20) (T : (Nat → Int32) × (Nat → Int32) × (Nat → Int32)) (hT : FX6_enterRule (g6_strictFor bv) (g6_forwardFor bv) (g6_allFor bv) x1 x2 x3 = T) : zV l yX6_enterRule wsX6_enterRule rmX6_enterRule G [.ref (av 0), .int x1, .int x2, .int x3] [w6 G av bv] [w6 G av (s6_allFor (s6_forwardFor (s6_strictFor bv T.1) T.2.1) T.2.2)] := by
  refine zV.mk (cc := cX6_enterRule) (maxL := 4) (by decide +kernel) rfl (Nat.le_of_ble_eq_true rfl) (zfl_cons (wf6 _ _ _ _) rfl) ?_
  intro p e s m args below meth c Q A ls S hK hD hA hP hl hret
  have hx := S.1
  have hb := S.2.1
  have hS : va_S A s.heap s.heap [] := va_S.rf
  have hl : lv_has ls 4 [(0, .ref (av 0)), (1, .int x1), (2, .int x2), (3, .int x3)] := hl
  have hE := hT.symm.trans (FX6_enterRule.eq_1 _ _ _ _ _ _)
  refine lv_aload_n hx hb dX6_enterRule_0 rfl (lv_at hl 0 rfl) ?_
  refine zg6_allFor S in_X6_enterRule_6 hK hP 0 rfl (List.mem_of_getElem? (i := 1) rfl) dX6_enterRule_1 ?_
  refine lv_iload_n hx hb dX6_enterRule_4 rfl (lv_at hl 3 rfl) ?_
  refine lv_dup2_11 hx hb dX6_enterRule_5 rfl rfl ?_
  refine zl6_allFor S hK hP 0 rfl hx3_20 (f := (g6_allFor bv)) rfl dX6_enterRule_6 ?_
  refine lv_iload_n hx hb dX6_enterRule_7 rfl (lv_at hl 1 rfl) ?_
  refine lv_ior hx hb dX6_enterRule_8 ?_
  refine zs6_allFor (bs1 := [w6 G av (s6_allFor bv (upd (g6_allFor bv) x3.toNatClampNeg (((g6_allFor bv) x3.toNatClampNeg) ||| x1)))]) S hK hP hD hS 0 rfl hx3_20 (f := (g6_allFor bv)) rfl dX6_enterRule_9 rfl (fun H locs hP hD hS => ?_)
  refine lv_iload_n hx hb dX6_enterRule_10 rfl (lv_at hl 2 rfl) ?_
  refine lv_iconst (v := 2) hx hb dX6_enterRule_11 (by decide) ?_
  have hB25 : ∀ (v_forwardFor_25 : Nat → Int32) (H : Heap) (locs : List Loc) (ls : Array Slot), T = FX6_enterRule_25 (g6_strictFor bv) (g6_forwardFor bv) (g6_allFor bv) x1 x2 x3 (g6_strictFor bv) v_forwardFor_25 (upd (g6_allFor bv) x3.toNatClampNeg (((g6_allFor bv) x3.toNatClampNeg) ||| x1)) → zP G [w6 G av (s6_allFor (s6_forwardFor bv v_forwardFor_25) (upd (g6_allFor bv) x3.toNatClampNeg (((g6_allFor bv) x3.toNatClampNeg) ||| x1)))] H → zD A [w6 G av (s6_allFor (s6_forwardFor bv v_forwardFor_25) (upd (g6_allFor bv) x3.toNatClampNeg (((g6_allFor bv) x3.toNatClampNeg) ||| x1)))] → va_S A s.heap H locs → lv_has ls 4 [(0, .ref (av 0)), (1, .int x1), (2, .int x2), (3, .int x3)] → W p l e rmX6_enterRule s m args below meth c H locs 0 0 Q (F0 m 25 ls []) := by
    intro v_forwardFor_25 H locs ls hE hP hD hS hl
    have hE := hE.trans (FX6_enterRule_25.eq_1 _ _ _ _ _ _ _ _ _)
    refine lv_iload_n hx hb dX6_enterRule_25 rfl (lv_at hl 2 rfl) ?_
    refine lv_if_ne (tgt := 39) hx hb dX6_enterRule_26 (by decide) (fun c26 => ?_) (fun c26 => ?_)
    · have hE := hE.trans (if_neg c26)
      rw [show (s6_allFor (s6_forwardFor bv v_forwardFor_25) (upd (g6_allFor bv) x3.toNatClampNeg (((g6_allFor bv) x3.toNatClampNeg) ||| x1))) = (s6_allFor (s6_forwardFor (s6_strictFor bv (g6_strictFor bv)) v_forwardFor_25) (upd (g6_allFor bv) x3.toNatClampNeg (((g6_allFor bv) x3.toNatClampNeg) ||| x1))) from (congrArg (fun z => s6_allFor z (upd (g6_allFor bv) x3.toNatClampNeg (((g6_allFor bv) x3.toNatClampNeg) ||| x1))) (congrArg (fun z => s6_forwardFor z v_forwardFor_25) ((se6_strictFor _).symm)))] at hP hD
      exact hret _ _ _ _ _ (by subst hE; rfl) hP hS dX6_enterRule_39
    · have hE := hE.trans (if_pos c26)
      refine lv_aload_n hx hb dX6_enterRule_29 rfl (lv_at hl 0 rfl) ?_
      refine zg6_strictFor S in_X6_enterRule_6 hK hP 0 rfl (List.mem_of_getElem? (i := 3) rfl) dX6_enterRule_30 ?_
      refine lv_iload_n hx hb dX6_enterRule_33 rfl (lv_at hl 3 rfl) ?_
      refine lv_dup2_11 hx hb dX6_enterRule_34 rfl rfl ?_
      refine zl6_strictFor S hK hP 0 rfl hx3_20 (f := (g6_strictFor bv)) ((gs6_strictFor_allFor _ (upd (g6_allFor bv) x3.toNatClampNeg (((g6_allFor bv) x3.toNatClampNeg) ||| x1))).trans (gs6_strictFor_forwardFor _ v_forwardFor_25)) dX6_enterRule_35 ?_
      refine lv_iload_n hx hb dX6_enterRule_36 rfl (lv_at hl 1 rfl) ?_
      refine lv_ior hx hb dX6_enterRule_37 ?_
      refine zs6_strictFor (bs1 := [w6 G av (s6_strictFor (s6_allFor (s6_forwardFor bv v_forwardFor_25) (upd (g6_allFor bv) x3.toNatClampNeg (((g6_allFor bv) x3.toNatClampNeg) ||| x1))) (upd (g6_strictFor bv) x3.toNatClampNeg (((g6_strictFor bv) x3.toNatClampNeg) ||| x1)))]) S hK hP hD hS 0 rfl hx3_20 (f := (g6_strictFor bv)) ((gs6_strictFor_allFor _ (upd (g6_allFor bv) x3.toNatClampNeg (((g6_allFor bv) x3.toNatClampNeg) ||| x1))).trans (gs6_strictFor_forwardFor _ v_forwardFor_25)) dX6_enterRule_38 rfl (fun H locs hP hD hS => ?_)
      rw [show (s6_strictFor (s6_allFor (s6_forwardFor bv v_forwardFor_25) (upd (g6_allFor bv) x3.toNatClampNeg (((g6_allFor bv) x3.toNatClampNeg) ||| x1))) (upd (g6_strictFor bv) x3.toNatClampNeg (((g6_strictFor bv) x3.toNatClampNeg) ||| x1))) = (s6_allFor (s6_forwardFor (s6_strictFor bv (upd (g6_strictFor bv) x3.toNatClampNeg (((g6_strictFor bv) x3.toNatClampNeg) ||| x1))) v_forwardFor_25) (upd (g6_allFor bv) x3.toNatClampNeg (((g6_allFor bv) x3.toNatClampNeg) ||| x1))) from ((cm6_strictFor_allFor _ (upd (g6_allFor bv) x3.toNatClampNeg (((g6_allFor bv) x3.toNatClampNeg) ||| x1)) (upd (g6_strictFor bv) x3.toNatClampNeg (((g6_strictFor bv) x3.toNatClampNeg) ||| x1))).trans (congrArg (fun z => s6_allFor z (upd (g6_allFor bv) x3.toNatClampNeg (((g6_allFor bv) x3.toNatClampNeg) ||| x1))) (cm6_strictFor_forwardFor _ v_forwardFor_25 (upd (g6_strictFor bv) x3.toNatClampNeg (((g6_strictFor bv) x3.toNatClampNeg) ||| x1)))))] at hP hD
      exact hret _ _ _ _ _ (by subst hE; rfl) hP hS dX6_enterRule_39
  refine lv_icmp_eq (tgt := 25) hx hb dX6_enterRule_12 (by decide) (fun c12 => ?_) (fun c12 => ?_)
  · have hE := hE.trans (if_pos c12)
    rw [show (s6_allFor bv (upd (g6_allFor bv) x3.toNatClampNeg (((g6_allFor bv) x3.toNatClampNeg) ||| x1))) = (s6_allFor (s6_forwardFor bv (g6_forwardFor bv)) (upd (g6_allFor bv) x3.toNatClampNeg (((g6_allFor bv) x3.toNatClampNeg) ||| x1))) from (congrArg (fun z => s6_allFor z (upd (g6_allFor bv) x3.toNatClampNeg (((g6_allFor bv) x3.toNatClampNeg) ||| x1))) ((se6_forwardFor _).symm))] at hP hD
    exact hB25 (g6_forwardFor bv) _ _ _ hE hP hD hS (lv_sub hl [0, 1, 2, 3] rfl)
  · have hE := hE.trans (if_neg c12)
    refine lv_aload_n hx hb dX6_enterRule_15 rfl (lv_at hl 0 rfl) ?_
    refine zg6_forwardFor S in_X6_enterRule_6 hK hP 0 rfl (List.mem_of_getElem? (i := 2) rfl) dX6_enterRule_16 ?_
    refine lv_iload_n hx hb dX6_enterRule_19 rfl (lv_at hl 3 rfl) ?_
    refine lv_dup2_11 hx hb dX6_enterRule_20 rfl rfl ?_
    refine zl6_forwardFor S hK hP 0 rfl hx3_20 (f := (g6_forwardFor bv)) (gs6_forwardFor_allFor _ (upd (g6_allFor bv) x3.toNatClampNeg (((g6_allFor bv) x3.toNatClampNeg) ||| x1))) dX6_enterRule_21 ?_
    refine lv_iload_n hx hb dX6_enterRule_22 rfl (lv_at hl 1 rfl) ?_
    refine lv_ior hx hb dX6_enterRule_23 ?_
    refine zs6_forwardFor (bs1 := [w6 G av (s6_forwardFor (s6_allFor bv (upd (g6_allFor bv) x3.toNatClampNeg (((g6_allFor bv) x3.toNatClampNeg) ||| x1))) (upd (g6_forwardFor bv) x3.toNatClampNeg (((g6_forwardFor bv) x3.toNatClampNeg) ||| x1)))]) S hK hP hD hS 0 rfl hx3_20 (f := (g6_forwardFor bv)) (gs6_forwardFor_allFor _ (upd (g6_allFor bv) x3.toNatClampNeg (((g6_allFor bv) x3.toNatClampNeg) ||| x1))) dX6_enterRule_24 rfl (fun H locs hP hD hS => ?_)
    rw [show (s6_forwardFor (s6_allFor bv (upd (g6_allFor bv) x3.toNatClampNeg (((g6_allFor bv) x3.toNatClampNeg) ||| x1))) (upd (g6_forwardFor bv) x3.toNatClampNeg (((g6_forwardFor bv) x3.toNatClampNeg) ||| x1))) = (s6_allFor (s6_forwardFor bv (upd (g6_forwardFor bv) x3.toNatClampNeg (((g6_forwardFor bv) x3.toNatClampNeg) ||| x1))) (upd (g6_allFor bv) x3.toNatClampNeg (((g6_allFor bv) x3.toNatClampNeg) ||| x1))) from (cm6_forwardFor_allFor _ (upd (g6_allFor bv) x3.toNatClampNeg (((g6_allFor bv) x3.toNatClampNeg) ||| x1)) (upd (g6_forwardFor bv) x3.toNatClampNeg (((g6_forwardFor bv) x3.toNatClampNeg) ||| x1)))] at hP hD
    exact hB25 (upd (g6_forwardFor bv) x3.toNatClampNeg (((g6_forwardFor bv) x3.toNatClampNeg) ||| x1)) _ _ _ hE hP hD hS (lv_sub hl [0, 1, 2, 3] rfl)

theorem in_X6_enter_0 : ∀ w ∈ u_ws RX0 TX0 9, w ∈ wsX6_enter := by decide +kernel
theorem in_X6_enter_6 : ∀ w ∈ u_ws RX6 TX6 12, w ∈ wsX6_enter := by decide +kernel
def rmX6_enter : Room := { frames := 3, cells := 0, slots := 0, locals := 66 }
set_option maxHeartbeats 4000000 in
set_option maxRecDepth 100000 in
theorem c_X6_enter (l : Launch) (G : zG) (av : Nat → Nat) (ac : Nat → Nat) (bv : S6) (bc : S0) (hh_c_head : ∀ r : Nat, r < 16 → vp_in (g0_head bc r) 20) (hz_c_size : ∃ N : Nat, N ≤ 16 ∧ g0_size bc = nI N) (T : (Nat → Int32) × (Nat → Int32) × (Nat → Int32) × (Nat → Int32) × (Nat → Int32) × (Int32)) (hT : FX6_enter (g6_known bv) (g6_strictFor bv) (g6_forwardFor bv) (g6_allFor bv) (g6_above bv) (g6_facts bv) (g0_kind bc) (g0_head bc) (g0_power bc) (g0_beats bc) (g0_facts bc) (g0_size bc) (g0_shut bc) = T) : zV l yX6_enter wsX6_enter rmX6_enter G [.ref (av 0), .ref (ac 0)] [w6 G av bv, w0 G ac bc] [w6 G av (s6_facts (s6_above (s6_allFor (s6_forwardFor (s6_strictFor (s6_known bv T.1) T.2.1) T.2.2.1) T.2.2.2.1) T.2.2.2.2.1) T.2.2.2.2.2), w0 G ac bc] := by
  refine zV.mk (cc := cX6_enter) (maxL := 3) (by decide +kernel) rfl (Nat.le_of_ble_eq_true rfl) (zfl_cons (wf6 _ _ _ _) (zfl_cons rfl rfl)) ?_
  intro p e s m args below meth c Q A ls S hK hD hA hP hl hret
  have hx := S.1
  have hb := S.2.1
  have hS : va_S A s.heap s.heap [] := va_S.rf
  have hl : lv_has ls 3 [(0, .ref (av 0)), (1, .ref (ac 0))] := hl
  obtain ⟨N_c_size, hN_c_size, hs_c_size⟩ := id hz_c_size
  have hE := hT.symm.trans (FX6_enter.eq_1 _ _ _ _ _ _ _ _ _ _ _ _ _)
  refine lv_aload_n hx hb dX6_enter_0 rfl (lv_at hl 0 rfl) ?_
  refine zg6_known S in_X6_enter_6 hK hP 0 rfl (List.mem_of_getElem? (i := 1) rfl) dX6_enter_1 ?_
  refine lv_iconst (v := 0) hx hb dX6_enter_4 (by decide) ?_
  refine zfillC (f := (g6_known bv)) (bs' := [w6 G av (s6_known bv (zfill 4 0 (g6_known bv))), w0 G ac bc]) (rest := []) S (va_cwS 2 S.2.2.2.2 gX6_enter_J7_fill_53178 rfl rfl rfl (by decide +kernel) ⟨Nat.le_of_ble_eq_true rfl, Nat.le_of_ble_eq_true rfl⟩) hK hP hD hS hA 0 rfl 1 rfl (Nat.le_of_ble_eq_true rfl) (pt6_known _ _ _ _) rfl hl.1 (lv_room (Nat.le_of_ble_eq_true rfl)) dX6_enter_5 (fun H locs hP hD hS => ?_)
  refine lv_aload_n hx hb dX6_enter_8 rfl (lv_at hl 0 rfl) ?_
  refine zg6_strictFor S in_X6_enter_6 hK hP 0 rfl (List.mem_of_getElem? (i := 2) rfl) dX6_enter_9 ?_
  refine lv_iconst (v := 0) hx hb dX6_enter_12 (by decide) ?_
  refine zfillC (f := (g6_strictFor bv)) (bs' := [w6 G av (s6_strictFor (s6_known bv (zfill 4 0 (g6_known bv))) (zfill 20 0 (g6_strictFor bv))), w0 G ac bc]) (rest := []) S (va_cwS 2 S.2.2.2.2 gX6_enter_J7_fill_53178 rfl rfl rfl (by decide +kernel) ⟨Nat.le_of_ble_eq_true rfl, Nat.le_of_ble_eq_true rfl⟩) hK hP hD hS hA 0 rfl 3 (by show some (_, Sum.inl (_, _, Sum.inl _)) = _; rw [(gs6_strictFor_known _ (zfill 4 0 (g6_known bv)))]) (Nat.le_of_ble_eq_true rfl) (pt6_strictFor _ _ _ _) rfl hl.1 (lv_room (Nat.le_of_ble_eq_true rfl)) dX6_enter_13 (fun H locs hP hD hS => ?_)
  refine lv_aload_n hx hb dX6_enter_16 rfl (lv_at hl 0 rfl) ?_
  refine zg6_forwardFor S in_X6_enter_6 hK hP 0 rfl (List.mem_of_getElem? (i := 3) rfl) dX6_enter_17 ?_
  refine lv_iconst (v := 0) hx hb dX6_enter_20 (by decide) ?_
  refine zfillC (f := (g6_forwardFor bv)) (bs' := [w6 G av (s6_forwardFor (s6_strictFor (s6_known bv (zfill 4 0 (g6_known bv))) (zfill 20 0 (g6_strictFor bv))) (zfill 20 0 (g6_forwardFor bv))), w0 G ac bc]) (rest := []) S (va_cwS 2 S.2.2.2.2 gX6_enter_J7_fill_53178 rfl rfl rfl (by decide +kernel) ⟨Nat.le_of_ble_eq_true rfl, Nat.le_of_ble_eq_true rfl⟩) hK hP hD hS hA 0 rfl 4 (by show some (_, Sum.inl (_, _, Sum.inl _)) = _; rw [((gs6_forwardFor_strictFor _ (zfill 20 0 (g6_strictFor bv))).trans (gs6_forwardFor_known _ (zfill 4 0 (g6_known bv))))]) (Nat.le_of_ble_eq_true rfl) (pt6_forwardFor _ _ _ _) rfl hl.1 (lv_room (Nat.le_of_ble_eq_true rfl)) dX6_enter_21 (fun H locs hP hD hS => ?_)
  refine lv_aload_n hx hb dX6_enter_24 rfl (lv_at hl 0 rfl) ?_
  refine zg6_allFor S in_X6_enter_6 hK hP 0 rfl (List.mem_of_getElem? (i := 4) rfl) dX6_enter_25 ?_
  refine lv_iconst (v := 0) hx hb dX6_enter_28 (by decide) ?_
  refine zfillC (f := (g6_allFor bv)) (bs' := [w6 G av (s6_allFor (s6_forwardFor (s6_strictFor (s6_known bv (zfill 4 0 (g6_known bv))) (zfill 20 0 (g6_strictFor bv))) (zfill 20 0 (g6_forwardFor bv))) (zfill 20 0 (g6_allFor bv))), w0 G ac bc]) (rest := []) S (va_cwS 2 S.2.2.2.2 gX6_enter_J7_fill_53178 rfl rfl rfl (by decide +kernel) ⟨Nat.le_of_ble_eq_true rfl, Nat.le_of_ble_eq_true rfl⟩) hK hP hD hS hA 0 rfl 5 (by show some (_, Sum.inl (_, _, Sum.inl _)) = _; rw [((gs6_allFor_forwardFor _ (zfill 20 0 (g6_forwardFor bv))).trans ((gs6_allFor_strictFor _ (zfill 20 0 (g6_strictFor bv))).trans (gs6_allFor_known _ (zfill 4 0 (g6_known bv)))))]) (Nat.le_of_ble_eq_true rfl) (pt6_allFor _ _ _ _) rfl hl.1 (lv_room (Nat.le_of_ble_eq_true rfl)) dX6_enter_29 (fun H locs hP hD hS => ?_)
  refine lv_aload_n hx hb dX6_enter_32 rfl (lv_at hl 0 rfl) ?_
  refine zg6_above S in_X6_enter_6 hK hP 0 rfl (List.mem_of_getElem? (i := 5) rfl) dX6_enter_33 ?_
  refine lv_iconst (v := 0) hx hb dX6_enter_36 (by decide) ?_
  refine zfillC (f := (g6_above bv)) (bs' := [w6 G av (s6_above (s6_allFor (s6_forwardFor (s6_strictFor (s6_known bv (zfill 4 0 (g6_known bv))) (zfill 20 0 (g6_strictFor bv))) (zfill 20 0 (g6_forwardFor bv))) (zfill 20 0 (g6_allFor bv))) (zfill 16 0 (g6_above bv))), w0 G ac bc]) (rest := []) S (va_cwS 2 S.2.2.2.2 gX6_enter_J7_fill_53178 rfl rfl rfl (by decide +kernel) ⟨Nat.le_of_ble_eq_true rfl, Nat.le_of_ble_eq_true rfl⟩) hK hP hD hS hA 0 rfl 6 (by show some (_, Sum.inl (_, _, Sum.inl _)) = _; rw [((gs6_above_allFor _ (zfill 20 0 (g6_allFor bv))).trans ((gs6_above_forwardFor _ (zfill 20 0 (g6_forwardFor bv))).trans ((gs6_above_strictFor _ (zfill 20 0 (g6_strictFor bv))).trans (gs6_above_known _ (zfill 4 0 (g6_known bv))))))]) (Nat.le_of_ble_eq_true rfl) (pt6_above _ _ _ _) rfl hl.1 (lv_room (Nat.le_of_ble_eq_true rfl)) dX6_enter_37 (fun H locs hP hD hS => ?_)
  refine lv_aload_n hx hb dX6_enter_40 rfl (lv_at hl 0 rfl) ?_
  refine lv_aload_n hx hb dX6_enter_41 rfl (lv_at hl 1 rfl) ?_
  refine zg0_facts S in_X6_enter_0 hK hP 1 rfl (List.mem_of_getElem? (i := 6) rfl) (v := (g0_facts bc)) rfl dX6_enter_42 ?_
  refine zp6_facts (bs1 := [w6 G av (s6_facts (s6_above (s6_allFor (s6_forwardFor (s6_strictFor (s6_known bv (zfill 4 0 (g6_known bv))) (zfill 20 0 (g6_strictFor bv))) (zfill 20 0 (g6_forwardFor bv))) (zfill 20 0 (g6_allFor bv))) (zfill 16 0 (g6_above bv))) (g0_facts bc)), w0 G ac bc]) S in_X6_enter_6 hK hP hD hS 0 rfl (List.mem_of_getElem? (i := 7) rfl) dX6_enter_45 rfl (fun H locs hP hD hS => ?_)
  refine lv_iconst (v := 0) hx hb dX6_enter_48 (by decide) ?_
  have hB105 : ∀ (v_strictFor_105 : Nat → Int32) (v_forwardFor_105 : Nat → Int32) (v_allFor_105 : Nat → Int32) (v_above_105 : Nat → Int32) (H : Heap) (locs : List Loc) (ls : Array Slot), T = FX6_enter_105 (g6_known bv) (g6_strictFor bv) (g6_forwardFor bv) (g6_allFor bv) (g6_above bv) (g6_facts bv) (g0_kind bc) (g0_head bc) (g0_power bc) (g0_beats bc) (g0_facts bc) (g0_size bc) (g0_shut bc) (zfill 4 0 (g6_known bv)) v_strictFor_105 v_forwardFor_105 v_allFor_105 v_above_105 (g0_facts bc) → zP G [w6 G av (s6_facts (s6_above (s6_allFor (s6_forwardFor (s6_strictFor (s6_known bv (zfill 4 0 (g6_known bv))) v_strictFor_105) v_forwardFor_105) v_allFor_105) v_above_105) (g0_facts bc)), w0 G ac bc] H → zD A [w6 G av (s6_facts (s6_above (s6_allFor (s6_forwardFor (s6_strictFor (s6_known bv (zfill 4 0 (g6_known bv))) v_strictFor_105) v_forwardFor_105) v_allFor_105) v_above_105) (g0_facts bc)), w0 G ac bc] → va_S A s.heap H locs → lv_has ls 3 [] → W p l e rmX6_enter s m args below meth c H locs 0 0 Q (F0 m 105 ls []) := by
    intro v_strictFor_105 v_forwardFor_105 v_allFor_105 v_above_105 H locs ls hE hP hD hS hl
    have hE := hE.trans (FX6_enter_105.eq_1 _ _ _ _ _ _ _ _ _ _ _ _ _ _ _ _ _ _ _)
    exact hret _ _ _ _ _ (by subst hE; rfl) hP hS dX6_enter_105
  have hB50 : ∀ (n50 : Nat) (i2_50 : Nat) (v_strictFor_50 : Nat → Int32) (v_forwardFor_50 : Nat → Int32) (v_allFor_50 : Nat → Int32) (v_above_50 : Nat → Int32) (H : Heap) (locs : List Loc) (ls : Array Slot), (i2_50 ≤ N_c_size) → 17 ≤ i2_50 + n50 → T = FX6_enter_50 (g6_known bv) (g6_strictFor bv) (g6_forwardFor bv) (g6_allFor bv) (g6_above bv) (g6_facts bv) (g0_kind bc) (g0_head bc) (g0_power bc) (g0_beats bc) (g0_facts bc) (g0_size bc) (g0_shut bc) (FX6_enter_105 (g6_known bv) (g6_strictFor bv) (g6_forwardFor bv) (g6_allFor bv) (g6_above bv) (g6_facts bv) (g0_kind bc) (g0_head bc) (g0_power bc) (g0_beats bc) (g0_facts bc) (g0_size bc) (g0_shut bc)) n50 (nI i2_50) (zfill 4 0 (g6_known bv)) v_strictFor_50 v_forwardFor_50 v_allFor_50 v_above_50 (g0_facts bc) → zP G [w6 G av (s6_facts (s6_above (s6_allFor (s6_forwardFor (s6_strictFor (s6_known bv (zfill 4 0 (g6_known bv))) v_strictFor_50) v_forwardFor_50) v_allFor_50) v_above_50) (g0_facts bc)), w0 G ac bc] H → zD A [w6 G av (s6_facts (s6_above (s6_allFor (s6_forwardFor (s6_strictFor (s6_known bv (zfill 4 0 (g6_known bv))) v_strictFor_50) v_forwardFor_50) v_allFor_50) v_above_50) (g0_facts bc)), w0 G ac bc] → va_S A s.heap H locs → lv_has ls 3 [(0, .ref (av 0)), (1, .ref (ac 0)), (2, .int (nI i2_50))] → W p l e rmX6_enter s m args below meth c H locs 0 0 Q (F0 m 50 ls []) := by
    intro n50
    induction n50 with
    | zero =>
      intro i2_50 v_strictFor_50 v_forwardFor_50 v_allFor_50 v_above_50 H locs ls hi2_50 hn hE hP hD hS hl
      exact absurd hn (by omega)
    | succ n50 ih50 =>
      intro i2_50 v_strictFor_50 v_forwardFor_50 v_allFor_50 v_above_50 H locs ls hi2_50 hn hE hP hD hS hl
      have hE := hE.trans (FX6_enter_50.eq_2 _ _ _ _ _ _ _ _ _ _ _ _ _ _ _ _ _ _ _ _ _ _)
      refine lv_iload_n hx hb dX6_enter_50 rfl (lv_at hl 2 rfl) ?_
      refine lv_aload_n hx hb dX6_enter_51 rfl (lv_at hl 1 rfl) ?_
      refine zg0_size S in_X6_enter_0 hK hP 1 rfl (List.mem_of_getElem? (i := 8) rfl) (v := (g0_size bc)) rfl dX6_enter_52 ?_
      refine lv_icmp_ge (tgt := 105) hx hb dX6_enter_55 (by decide) (fun c55 => ?_) (fun c55 => ?_)
      · have hE := hE.trans (if_pos c55)
        exact hB105 v_strictFor_50 v_forwardFor_50 v_allFor_50 v_above_50 _ _ _ hE hP hD hS (lv_sub hl [] rfl)
      · have hE := hE.trans (if_neg c55)
        have hl2_50 : i2_50 < N_c_size := zlt hs_c_size (by omega) (by omega) c55
        refine lv_aload_n hx hb dX6_enter_58 rfl (lv_at hl 0 rfl) ?_
        refine zg6_above S in_X6_enter_6 hK hP 0 rfl (List.mem_of_getElem? (i := 5) rfl) dX6_enter_59 ?_
        refine lv_iload_n hx hb dX6_enter_62 rfl (lv_at hl 2 rfl) ?_
        refine lv_aload_n hx hb dX6_enter_63 rfl (lv_at hl 1 rfl) ?_
        refine lv_iload_n hx hb dX6_enter_64 rfl (lv_at hl 2 rfl) ?_
        obtain ⟨t65, ht65⟩ : ∃ z, FX0_rulesBelow (g0_power bc) (g0_beats bc) (g0_size bc) (nI i2_50) = z := ⟨_, rfl⟩
        have hE := hE.trans (bnd_eq ht65)
        have hc := c_X0_rulesBelow l G ac bc (nI i2_50) (hz_c_size) ((vp_in_nI (by omega) (by omega))) _ ht65
        refine zgoR (va_runV (As := [.int (nI i2_50)]) (rest := [.int (nI i2_50), .ref (av 6)]) S (hc _) (cwV 1 S.2.2.2.2 gX6_enter_X0_rulesBelow rfl rfl rfl (by decide +kernel) ⟨Nat.le_of_ble_eq_true rfl, Nat.le_of_ble_eq_true rfl⟩) (zpV hK hP hD (is := [1]) rfl rfl 1 rfl rfl (ci := 0) rfl) rfl rfl hl.1 rfl (lv_room (Nat.le_of_ble_eq_true rfl)) dX6_enter_65 ⟨Nat.zero_le _, Nat.zero_le _⟩) (fun hn65 => ?_)
        refine zs6_above (bs1 := [w6 G av (s6_above (s6_facts (s6_above (s6_allFor (s6_forwardFor (s6_strictFor (s6_known bv (zfill 4 0 (g6_known bv))) v_strictFor_50) v_forwardFor_50) v_allFor_50) v_above_50) (g0_facts bc)) (upd v_above_50 (nI i2_50).toNatClampNeg t65)), w0 G ac bc]) S hK hP hD hS 0 rfl (vp_in_nI (by omega) (by omega)) (f := v_above_50) ((gs6_above_facts _ (g0_facts bc)).trans (gg6_above _ v_above_50)) dX6_enter_68 rfl (fun H locs hP hD hS => ?_)
        refine lv_aload_n hx hb dX6_enter_69 rfl (lv_at hl 1 rfl) ?_
        refine zg0_shut S in_X6_enter_0 hK hP 1 rfl (List.mem_of_getElem? (i := 9) rfl) (v := (g0_shut bc)) rfl dX6_enter_70 ?_
        refine lv_iload_n hx hb dX6_enter_73 rfl (lv_at hl 2 rfl) ?_
        obtain ⟨t74, ht74⟩ : ∃ z, FX8_has (g0_shut bc) (nI i2_50) = z := ⟨_, rfl⟩
        have hE := hE.trans (bnd_eq ht74)
        have hc := c_X8_has l G (g0_shut bc) (nI i2_50) _ ht74
        refine zgoR (va_runSN (As := [.int (g0_shut bc), .int (nI i2_50)]) (rest := []) S (hc _) ⟨va_cnB (host := "RuleCourt") 2 S.2.2.2.2 gX6_enter_X8_has_n68 rfl rfl rfl (hK.2 _ (List.mem_of_getElem? (i := 1) rfl)) (S.2.2.2.2 _ (List.mem_of_getElem? (i := 29) rfl)) (by decide +kernel) ⟨Nat.le_of_ble_eq_true rfl, Nat.le_of_ble_eq_true rfl⟩, S.2.2.2.2 _ (List.mem_of_getElem? (i := 28) rfl), trivial⟩ (zpS hK hP hD (is := []) rfl rfl) rfl rfl hl.1 rfl (lv_room (Nat.le_of_ble_eq_true rfl)) dX6_enter_74 ⟨Nat.zero_le _, Nat.zero_le _⟩) (fun hn74 => ?_)
        refine lv_if_ne (tgt := 99) hx hb dX6_enter_77 (by decide) (fun c77 => ?_) (fun c77 => ?_)
        · have hE := hE.trans (if_neg c77)
          refine lv_iinc (v := (nI (i2_50 + 1))) (lv' := [(2, .int (nI (i2_50 + 1))), (0, .ref (av 0)), (1, .ref (ac 0))]) hx hb dX6_enter_99 hl (k := 2) rfl (nI_1 i2_50) (by decide) rfl (fun ls hl => ?_)
          try rw [nI_1 i2_50] at hE
          refine lv_goto (tgt := 50) hx hb dX6_enter_102 (by decide) ?_
          rw [show (s6_above (s6_facts (s6_above (s6_allFor (s6_forwardFor (s6_strictFor (s6_known bv (zfill 4 0 (g6_known bv))) v_strictFor_50) v_forwardFor_50) v_allFor_50) v_above_50) (g0_facts bc)) (upd v_above_50 (nI i2_50).toNatClampNeg t65)) = (s6_facts (s6_above (s6_allFor (s6_forwardFor (s6_strictFor (s6_known bv (zfill 4 0 (g6_known bv))) v_strictFor_50) v_forwardFor_50) v_allFor_50) (upd v_above_50 (nI i2_50).toNatClampNeg t65)) (g0_facts bc)) from ((cm6_above_facts _ (g0_facts bc) (upd v_above_50 (nI i2_50).toNatClampNeg t65)).trans (congrArg (fun z => s6_facts z (g0_facts bc)) (ss6_above _ v_above_50 (upd v_above_50 (nI i2_50).toNatClampNeg t65))))] at hP hD
          exact ih50 (i2_50 + 1) v_strictFor_50 v_forwardFor_50 v_allFor_50 (upd v_above_50 (nI i2_50).toNatClampNeg t65) _ _ _ (by first | assumption | omega) (by omega) hE hP hD hS (lv_sub hl [1, 2, 0] rfl)
        · have hE := hE.trans (if_pos c77)
          refine lv_aload_n hx hb dX6_enter_80 rfl (lv_at hl 0 rfl) ?_
          refine lv_iconst (v := 1) hx hb dX6_enter_81 (by decide) ?_
          refine lv_iload_n hx hb dX6_enter_82 rfl (lv_at hl 2 rfl) ?_
          refine lv_ishl hx hb dX6_enter_83 ?_
          refine lv_aload_n hx hb dX6_enter_84 rfl (lv_at hl 1 rfl) ?_
          refine zg0_kind S in_X6_enter_0 hK hP 1 rfl (List.mem_of_getElem? (i := 10) rfl) dX6_enter_85 ?_
          refine lv_iload_n hx hb dX6_enter_88 rfl (lv_at hl 2 rfl) ?_
          refine zl0_kind S hK hP 1 rfl (vp_in_nI (by omega) (by omega)) (f := (g0_kind bc)) rfl dX6_enter_89 ?_
          refine lv_aload_n hx hb dX6_enter_90 rfl (lv_at hl 1 rfl) ?_
          refine zg0_head S in_X6_enter_0 hK hP 1 rfl (List.mem_of_getElem? (i := 11) rfl) dX6_enter_91 ?_
          refine lv_iload_n hx hb dX6_enter_94 rfl (lv_at hl 2 rfl) ?_
          refine zl0_head S hK hP 1 rfl (vp_in_nI (by omega) (by omega)) (f := (g0_head bc)) rfl dX6_enter_95 ?_
          obtain ⟨t96, ht96⟩ : ∃ z, FX6_enterRule v_strictFor_50 v_forwardFor_50 v_allFor_50 (1 <<< ((nI i2_50) &&& 31)) ((g0_kind bc) (nI i2_50).toNatClampNeg) ((g0_head bc) (nI i2_50).toNatClampNeg) = z := ⟨_, rfl⟩
          have hE := hE.trans (bnd_eq ht96)
          have hc := c_X6_enterRule l G av (s6_above (s6_facts (s6_above (s6_allFor (s6_forwardFor (s6_strictFor (s6_known bv (zfill 4 0 (g6_known bv))) v_strictFor_50) v_forwardFor_50) v_allFor_50) v_above_50) (g0_facts bc)) (upd v_above_50 (nI i2_50).toNatClampNeg t65)) (1 <<< ((nI i2_50) &&& 31)) ((g0_kind bc) (nI i2_50).toNatClampNeg) ((g0_head bc) (nI i2_50).toNatClampNeg) (by rw [nI_clamp (by omega)]; exact hh_c_head _ (by omega)) _ (by simp only [gs6_strictFor_above, gs6_strictFor_facts, gs6_strictFor_allFor, gs6_strictFor_forwardFor, gg6_strictFor, gs6_forwardFor_above, gs6_forwardFor_facts, gs6_forwardFor_allFor, gg6_forwardFor, gs6_allFor_above, gs6_allFor_facts, gg6_allFor]; exact ht96)
          refine zgoV (bs' := [w6 G av (s6_allFor (s6_forwardFor (s6_strictFor (s6_above (s6_facts (s6_above (s6_allFor (s6_forwardFor (s6_strictFor (s6_known bv (zfill 4 0 (g6_known bv))) v_strictFor_50) v_forwardFor_50) v_allFor_50) v_above_50) (g0_facts bc)) (upd v_above_50 (nI i2_50).toNatClampNeg t65)) t96.1) t96.2.1) t96.2.2), w0 G ac bc]) hc [0] rfl rfl rfl hP hD hS hA (va_runV (As := [.int (1 <<< ((nI i2_50) &&& 31)), .int ((g0_kind bc) (nI i2_50).toNatClampNeg), .int ((g0_head bc) (nI i2_50).toNatClampNeg)]) (rest := []) S (hc.2 _) (cwV 3 S.2.2.2.2 gX6_enter_X6_enterRule rfl rfl rfl (by decide +kernel) ⟨Nat.le_of_ble_eq_true rfl, Nat.le_of_ble_eq_true rfl⟩) (zpV hK hP hD (is := [0]) rfl rfl 0 rfl rfl (ci := 6) rfl) rfl rfl hl.1 rfl (lv_room (Nat.le_of_ble_eq_true rfl)) dX6_enter_96 ⟨Nat.zero_le _, Nat.zero_le _⟩) (fun H locs hP hD hS => ?_)
          refine lv_iinc (v := (nI (i2_50 + 1))) (lv' := [(2, .int (nI (i2_50 + 1))), (0, .ref (av 0)), (1, .ref (ac 0))]) hx hb dX6_enter_99 hl (k := 2) rfl (nI_1 i2_50) (by decide) rfl (fun ls hl => ?_)
          try rw [nI_1 i2_50] at hE
          refine lv_goto (tgt := 50) hx hb dX6_enter_102 (by decide) ?_
          rw [show (s6_allFor (s6_forwardFor (s6_strictFor (s6_above (s6_facts (s6_above (s6_allFor (s6_forwardFor (s6_strictFor (s6_known bv (zfill 4 0 (g6_known bv))) v_strictFor_50) v_forwardFor_50) v_allFor_50) v_above_50) (g0_facts bc)) (upd v_above_50 (nI i2_50).toNatClampNeg t65)) t96.1) t96.2.1) t96.2.2) = (s6_facts (s6_above (s6_allFor (s6_forwardFor (s6_strictFor (s6_known bv (zfill 4 0 (g6_known bv))) t96.1) t96.2.1) t96.2.2) (upd v_above_50 (nI i2_50).toNatClampNeg t65)) (g0_facts bc)) from ((congrArg (fun z => s6_allFor z t96.2.2) ((congrArg (fun z => s6_forwardFor z t96.2.1) ((congrArg (fun z => s6_strictFor z t96.1) ((cm6_above_facts _ (g0_facts bc) (upd v_above_50 (nI i2_50).toNatClampNeg t65)).trans (congrArg (fun z => s6_facts z (g0_facts bc)) (ss6_above _ v_above_50 (upd v_above_50 (nI i2_50).toNatClampNeg t65))))).trans ((cm6_strictFor_facts _ (g0_facts bc) t96.1).trans (congrArg (fun z => s6_facts z (g0_facts bc)) ((cm6_strictFor_above _ (upd v_above_50 (nI i2_50).toNatClampNeg t65) t96.1).trans (congrArg (fun z => s6_above z (upd v_above_50 (nI i2_50).toNatClampNeg t65)) ((cm6_strictFor_allFor _ v_allFor_50 t96.1).trans (congrArg (fun z => s6_allFor z v_allFor_50) ((cm6_strictFor_forwardFor _ v_forwardFor_50 t96.1).trans (congrArg (fun z => s6_forwardFor z v_forwardFor_50) (ss6_strictFor _ v_strictFor_50 t96.1))))))))))).trans ((cm6_forwardFor_facts _ (g0_facts bc) t96.2.1).trans (congrArg (fun z => s6_facts z (g0_facts bc)) ((cm6_forwardFor_above _ (upd v_above_50 (nI i2_50).toNatClampNeg t65) t96.2.1).trans (congrArg (fun z => s6_above z (upd v_above_50 (nI i2_50).toNatClampNeg t65)) ((cm6_forwardFor_allFor _ v_allFor_50 t96.2.1).trans (congrArg (fun z => s6_allFor z v_allFor_50) (ss6_forwardFor _ v_forwardFor_50 t96.2.1))))))))).trans ((cm6_allFor_facts _ (g0_facts bc) t96.2.2).trans (congrArg (fun z => s6_facts z (g0_facts bc)) ((cm6_allFor_above _ (upd v_above_50 (nI i2_50).toNatClampNeg t65) t96.2.2).trans (congrArg (fun z => s6_above z (upd v_above_50 (nI i2_50).toNatClampNeg t65)) (ss6_allFor _ v_allFor_50 t96.2.2))))))] at hP hD
          exact ih50 (i2_50 + 1) t96.1 t96.2.1 t96.2.2 (upd v_above_50 (nI i2_50).toNatClampNeg t65) _ _ _ (by first | assumption | omega) (by omega) hE hP hD hS (lv_sub hl [1, 2, 0] rfl)
  refine lv_istore_n (lv' := [(2, .int 0), (0, .ref (av 0)), (1, .ref (ac 0))]) hx hb dX6_enter_49 rfl hl (by decide) rfl (fun ls hl => ?_)
  exact hB50 17 0 (zfill 20 0 (g6_strictFor bv)) (zfill 20 0 (g6_forwardFor bv)) (zfill 20 0 (g6_allFor bv)) (zfill 16 0 (g6_above bv)) _ _ _ (by first | assumption | omega) (by omega) hE hP hD hS (lv_sub hl [1, 2, 0] rfl)

theorem in_X6_weighRule_6 : ∀ w ∈ u_ws RX6 TX6 12, w ∈ wsX6_weighRule := by decide +kernel
def rmX6_weighRule : Room := { frames := 0, cells := 0, slots := 0, locals := 0 }
set_option maxHeartbeats 4000000 in
set_option maxRecDepth 100000 in
theorem c_X6_weighRule (l : Launch) (G : zG) (av : Nat → Nat) (bv : S6) (x1 : Int32) (x2 : Int32) (x3 : Int32) (T : (Int32) × (Int32) × (Int32) × (Int32)) (hT : FX6_weighRule (g6_known bv) (g6_applies bv) (g6_falls bv) (g6_sureBodies bv) (g6_neverBodies bv) x1 x2 x3 = T) : zV l yX6_weighRule wsX6_weighRule rmX6_weighRule G [.ref (av 0), .int x1, .int x2, .int x3] [w6 G av bv] [w6 G av (s6_neverBodies (s6_sureBodies (s6_falls (s6_applies bv T.1) T.2.1) T.2.2.1) T.2.2.2)] := by
  refine zV.mk (cc := cX6_weighRule) (maxL := 4) (by decide +kernel) rfl (Nat.le_of_ble_eq_true rfl) (zfl_cons (wf6 _ _ _ _) rfl) ?_
  intro p e s m args below meth c Q A ls S hK hD hA hP hl hret
  have hx := S.1
  have hb := S.2.1
  have hS : va_S A s.heap s.heap [] := va_S.rf
  have hl : lv_has ls 4 [(0, .ref (av 0)), (1, .int x1), (2, .int x2), (3, .int x3)] := hl
  have hE := hT.symm.trans (FX6_weighRule.eq_1 _ _ _ _ _ _ _ _)
  refine lv_iload_n hx hb dX6_weighRule_0 rfl (lv_at hl 2 rfl) ?_
  refine lv_aload_n hx hb dX6_weighRule_1 rfl (lv_at hl 0 rfl) ?_
  refine zg6_known S in_X6_weighRule_6 hK hP 0 rfl (List.mem_of_getElem? (i := 1) rfl) dX6_weighRule_2 ?_
  refine lv_iconst (v := 2) hx hb dX6_weighRule_5 (by decide) ?_
  refine zl6_known S hK hP 0 rfl (zin_k (n := 2) rfl (by decide) (by decide)) (f := (g6_known bv)) rfl dX6_weighRule_6 ?_
  refine lv_iconst (v := (-1)) hx hb dX6_weighRule_7 (by decide) ?_
  refine lv_ixor hx hb dX6_weighRule_8 ?_
  refine lv_iand hx hb dX6_weighRule_9 ?_
  have hB36 : ∀ (v_applies_36 : Int32) (H : Heap) (locs : List Loc) (ls : Array Slot), T = FX6_weighRule_36 (g6_known bv) (g6_applies bv) (g6_falls bv) (g6_sureBodies bv) (g6_neverBodies bv) x1 x2 x3 v_applies_36 (g6_falls bv) (g6_sureBodies bv) (g6_neverBodies bv) → zP G [w6 G av (s6_applies bv v_applies_36)] H → zD A [w6 G av (s6_applies bv v_applies_36)] → va_S A s.heap H locs → lv_has ls 4 [(0, .ref (av 0)), (1, .int x1), (2, .int x2), (3, .int x3)] → W p l e rmX6_weighRule s m args below meth c H locs 0 0 Q (F0 m 36 ls []) := by
    intro v_applies_36 H locs ls hE hP hD hS hl
    have hE := hE.trans (FX6_weighRule_36.eq_1 _ _ _ _ _ _ _ _ _ _ _ _)
    refine lv_iload_n hx hb dX6_weighRule_36 rfl (lv_at hl 2 rfl) ?_
    refine lv_aload_n hx hb dX6_weighRule_37 rfl (lv_at hl 0 rfl) ?_
    refine zg6_known S in_X6_weighRule_6 hK hP 0 rfl (List.mem_of_getElem? (i := 1) rfl) dX6_weighRule_38 ?_
    refine lv_iconst (v := 3) hx hb dX6_weighRule_41 (by decide) ?_
    refine zl6_known S hK hP 0 rfl (zin_k (n := 3) rfl (by decide) (by decide)) (f := (g6_known bv)) (gs6_known_applies _ v_applies_36) dX6_weighRule_42 ?_
    refine lv_iand hx hb dX6_weighRule_43 ?_
    have hB68 : ∀ (v_falls_68 : Int32) (H : Heap) (locs : List Loc) (ls : Array Slot), T = FX6_weighRule_68 (g6_known bv) (g6_applies bv) (g6_falls bv) (g6_sureBodies bv) (g6_neverBodies bv) x1 x2 x3 v_applies_36 v_falls_68 (g6_sureBodies bv) (g6_neverBodies bv) → zP G [w6 G av (s6_falls (s6_applies bv v_applies_36) v_falls_68)] H → zD A [w6 G av (s6_falls (s6_applies bv v_applies_36) v_falls_68)] → va_S A s.heap H locs → lv_has ls 4 [(0, .ref (av 0)), (1, .int x1), (2, .int x2)] → W p l e rmX6_weighRule s m args below meth c H locs 0 0 Q (F0 m 68 ls []) := by
      intro v_falls_68 H locs ls hE hP hD hS hl
      have hE := hE.trans (FX6_weighRule_68.eq_1 _ _ _ _ _ _ _ _ _ _ _ _)
      refine lv_iload_n hx hb dX6_weighRule_68 rfl (lv_at hl 2 rfl) ?_
      refine lv_aload_n hx hb dX6_weighRule_69 rfl (lv_at hl 0 rfl) ?_
      refine zg6_known S in_X6_weighRule_6 hK hP 0 rfl (List.mem_of_getElem? (i := 1) rfl) dX6_weighRule_70 ?_
      refine lv_iconst (v := 0) hx hb dX6_weighRule_73 (by decide) ?_
      refine zl6_known S hK hP 0 rfl (zin_k (n := 0) rfl (by decide) (by decide)) (f := (g6_known bv)) ((gs6_known_falls _ v_falls_68).trans (gs6_known_applies _ v_applies_36)) dX6_weighRule_74 ?_
      refine lv_iconst (v := (-1)) hx hb dX6_weighRule_75 (by decide) ?_
      refine lv_ixor hx hb dX6_weighRule_76 ?_
      refine lv_iand hx hb dX6_weighRule_77 ?_
      have hB91 : ∀ (v_sureBodies_91 : Int32) (H : Heap) (locs : List Loc) (ls : Array Slot), T = FX6_weighRule_91 (g6_known bv) (g6_applies bv) (g6_falls bv) (g6_sureBodies bv) (g6_neverBodies bv) x1 x2 x3 v_applies_36 v_falls_68 v_sureBodies_91 (g6_neverBodies bv) → zP G [w6 G av (s6_sureBodies (s6_falls (s6_applies bv v_applies_36) v_falls_68) v_sureBodies_91)] H → zD A [w6 G av (s6_sureBodies (s6_falls (s6_applies bv v_applies_36) v_falls_68) v_sureBodies_91)] → va_S A s.heap H locs → lv_has ls 4 [(0, .ref (av 0)), (1, .int x1), (2, .int x2)] → W p l e rmX6_weighRule s m args below meth c H locs 0 0 Q (F0 m 91 ls []) := by
        intro v_sureBodies_91 H locs ls hE hP hD hS hl
        have hE := hE.trans (FX6_weighRule_91.eq_1 _ _ _ _ _ _ _ _ _ _ _ _)
        refine lv_iload_n hx hb dX6_weighRule_91 rfl (lv_at hl 2 rfl) ?_
        refine lv_aload_n hx hb dX6_weighRule_92 rfl (lv_at hl 0 rfl) ?_
        refine zg6_known S in_X6_weighRule_6 hK hP 0 rfl (List.mem_of_getElem? (i := 1) rfl) dX6_weighRule_93 ?_
        refine lv_iconst (v := 1) hx hb dX6_weighRule_96 (by decide) ?_
        refine zl6_known S hK hP 0 rfl (zin_k (n := 1) rfl (by decide) (by decide)) (f := (g6_known bv)) ((gs6_known_sureBodies _ v_sureBodies_91).trans ((gs6_known_falls _ v_falls_68).trans (gs6_known_applies _ v_applies_36))) dX6_weighRule_97 ?_
        refine lv_iand hx hb dX6_weighRule_98 ?_
        refine lv_if_eq (tgt := 112) hx hb dX6_weighRule_99 (by decide) (fun c99 => ?_) (fun c99 => ?_)
        · have hE := hE.trans (if_pos c99)
          rw [show (s6_sureBodies (s6_falls (s6_applies bv v_applies_36) v_falls_68) v_sureBodies_91) = (s6_neverBodies (s6_sureBodies (s6_falls (s6_applies bv v_applies_36) v_falls_68) v_sureBodies_91) (g6_neverBodies bv)) from (((se6_neverBodies _).symm).trans (congrArg (fun v => s6_neverBodies (s6_sureBodies (s6_falls (s6_applies bv v_applies_36) v_falls_68) v_sureBodies_91) v) ((gs6_neverBodies_sureBodies _ v_sureBodies_91).trans ((gs6_neverBodies_falls _ v_falls_68).trans (gs6_neverBodies_applies _ v_applies_36)))))] at hP hD
          exact hret _ _ _ _ _ (by subst hE; rfl) hP hS dX6_weighRule_112
        · have hE := hE.trans (if_neg c99)
          refine lv_aload_n hx hb dX6_weighRule_102 rfl (lv_at hl 0 rfl) ?_
          refine lv_dup hx hb dX6_weighRule_103 rfl ?_
          refine zg6_neverBodies S in_X6_weighRule_6 hK hP 0 rfl (List.mem_of_getElem? (i := 5) rfl) (v := (g6_neverBodies bv)) ((gs6_neverBodies_sureBodies _ v_sureBodies_91).trans ((gs6_neverBodies_falls _ v_falls_68).trans (gs6_neverBodies_applies _ v_applies_36))) dX6_weighRule_104 ?_
          refine lv_iload_n hx hb dX6_weighRule_107 rfl (lv_at hl 1 rfl) ?_
          refine lv_ior hx hb dX6_weighRule_108 ?_
          refine zp6_neverBodies (bs1 := [w6 G av (s6_neverBodies (s6_sureBodies (s6_falls (s6_applies bv v_applies_36) v_falls_68) v_sureBodies_91) ((g6_neverBodies bv) ||| x1))]) S in_X6_weighRule_6 hK hP hD hS 0 rfl (List.mem_of_getElem? (i := 5) rfl) dX6_weighRule_109 rfl (fun H locs hP hD hS => ?_)
          exact hret _ _ _ _ _ (by subst hE; rfl) hP hS dX6_weighRule_112
      refine lv_if_ne (tgt := 91) hx hb dX6_weighRule_78 (by decide) (fun c78 => ?_) (fun c78 => ?_)
      · have hE := hE.trans (if_neg c78)
        rw [show (s6_falls (s6_applies bv v_applies_36) v_falls_68) = (s6_sureBodies (s6_falls (s6_applies bv v_applies_36) v_falls_68) (g6_sureBodies bv)) from (((se6_sureBodies _).symm).trans (congrArg (fun v => s6_sureBodies (s6_falls (s6_applies bv v_applies_36) v_falls_68) v) ((gs6_sureBodies_falls _ v_falls_68).trans (gs6_sureBodies_applies _ v_applies_36))))] at hP hD
        exact hB91 (g6_sureBodies bv) _ _ _ hE hP hD hS (lv_sub hl [0, 1, 2] rfl)
      · have hE := hE.trans (if_pos c78)
        refine lv_aload_n hx hb dX6_weighRule_81 rfl (lv_at hl 0 rfl) ?_
        refine lv_dup hx hb dX6_weighRule_82 rfl ?_
        refine zg6_sureBodies S in_X6_weighRule_6 hK hP 0 rfl (List.mem_of_getElem? (i := 4) rfl) (v := (g6_sureBodies bv)) ((gs6_sureBodies_falls _ v_falls_68).trans (gs6_sureBodies_applies _ v_applies_36)) dX6_weighRule_83 ?_
        refine lv_iload_n hx hb dX6_weighRule_86 rfl (lv_at hl 1 rfl) ?_
        refine lv_ior hx hb dX6_weighRule_87 ?_
        refine zp6_sureBodies (bs1 := [w6 G av (s6_sureBodies (s6_falls (s6_applies bv v_applies_36) v_falls_68) ((g6_sureBodies bv) ||| x1))]) S in_X6_weighRule_6 hK hP hD hS 0 rfl (List.mem_of_getElem? (i := 4) rfl) dX6_weighRule_88 rfl (fun H locs hP hD hS => ?_)
        exact hB91 ((g6_sureBodies bv) ||| x1) _ _ _ hE hP hD hS (lv_sub hl [0, 1, 2] rfl)
    have hB58 : ∀ (H : Heap) (locs : List Loc) (ls : Array Slot), T = FX6_weighRule_58 (g6_known bv) (g6_applies bv) (g6_falls bv) (g6_sureBodies bv) (g6_neverBodies bv) x1 x2 x3 v_applies_36 (g6_falls bv) (g6_sureBodies bv) (g6_neverBodies bv) → zP G [w6 G av (s6_applies bv v_applies_36)] H → zD A [w6 G av (s6_applies bv v_applies_36)] → va_S A s.heap H locs → lv_has ls 4 [(0, .ref (av 0)), (1, .int x1), (2, .int x2)] → W p l e rmX6_weighRule s m args below meth c H locs 0 0 Q (F0 m 58 ls []) := by
      intro H locs ls hE hP hD hS hl
      have hE := hE.trans (FX6_weighRule_58.eq_1 _ _ _ _ _ _ _ _ _ _ _ _)
      refine lv_aload_n hx hb dX6_weighRule_58 rfl (lv_at hl 0 rfl) ?_
      refine lv_dup hx hb dX6_weighRule_59 rfl ?_
      refine zg6_falls S in_X6_weighRule_6 hK hP 0 rfl (List.mem_of_getElem? (i := 3) rfl) (v := (g6_falls bv)) (gs6_falls_applies _ v_applies_36) dX6_weighRule_60 ?_
      refine lv_iload_n hx hb dX6_weighRule_63 rfl (lv_at hl 1 rfl) ?_
      refine lv_ior hx hb dX6_weighRule_64 ?_
      refine zp6_falls (bs1 := [w6 G av (s6_falls (s6_applies bv v_applies_36) ((g6_falls bv) ||| x1))]) S in_X6_weighRule_6 hK hP hD hS 0 rfl (List.mem_of_getElem? (i := 3) rfl) dX6_weighRule_65 rfl (fun H locs hP hD hS => ?_)
      exact hB68 ((g6_falls bv) ||| x1) _ _ _ hE hP hD hS (lv_sub hl [0, 1, 2] rfl)
    refine lv_if_ne (tgt := 58) hx hb dX6_weighRule_44 (by decide) (fun c44 => ?_) (fun c44 => ?_)
    · have hE := hE.trans (if_neg c44)
      exact hB58 _ _ _ hE hP hD hS (lv_sub hl [0, 1, 2] rfl)
    · have hE := hE.trans (if_pos c44)
      refine lv_iload_n hx hb dX6_weighRule_47 rfl (lv_at hl 3 rfl) ?_
      refine lv_aload_n hx hb dX6_weighRule_48 rfl (lv_at hl 0 rfl) ?_
      refine zg6_known S in_X6_weighRule_6 hK hP 0 rfl (List.mem_of_getElem? (i := 1) rfl) dX6_weighRule_49 ?_
      refine lv_iconst (v := 2) hx hb dX6_weighRule_52 (by decide) ?_
      refine zl6_known S hK hP 0 rfl (zin_k (n := 2) rfl (by decide) (by decide)) (f := (g6_known bv)) (gs6_known_applies _ v_applies_36) dX6_weighRule_53 ?_
      refine lv_iand hx hb dX6_weighRule_54 ?_
      refine lv_if_eq (tgt := 68) hx hb dX6_weighRule_55 (by decide) (fun c55 => ?_) (fun c55 => ?_)
      · have hE := hE.trans (if_pos c55)
        rw [show (s6_applies bv v_applies_36) = (s6_falls (s6_applies bv v_applies_36) (g6_falls bv)) from (((se6_falls _).symm).trans (congrArg (fun v => s6_falls (s6_applies bv v_applies_36) v) (gs6_falls_applies _ v_applies_36)))] at hP hD
        exact hB68 (g6_falls bv) _ _ _ hE hP hD hS (lv_sub hl [0, 1, 2] rfl)
      · have hE := hE.trans (if_neg c55)
        exact hB58 _ _ _ hE hP hD hS (lv_sub hl [0, 1, 2] rfl)
  refine lv_if_ne (tgt := 36) hx hb dX6_weighRule_10 (by decide) (fun c10 => ?_) (fun c10 => ?_)
  · have hE := hE.trans (if_neg c10)
    rw [show bv = (s6_applies bv (g6_applies bv)) from ((se6_applies _).symm)] at hP hD
    exact hB36 (g6_applies bv) _ _ _ hE hP hD hS (lv_sub hl [0, 1, 2, 3] rfl)
  · have hE := hE.trans (if_pos c10)
    refine lv_iload_n hx hb dX6_weighRule_13 rfl (lv_at hl 3 rfl) ?_
    refine lv_aload_n hx hb dX6_weighRule_14 rfl (lv_at hl 0 rfl) ?_
    refine zg6_known S in_X6_weighRule_6 hK hP 0 rfl (List.mem_of_getElem? (i := 1) rfl) dX6_weighRule_15 ?_
    refine lv_iconst (v := 3) hx hb dX6_weighRule_18 (by decide) ?_
    refine zl6_known S hK hP 0 rfl (zin_k (n := 3) rfl (by decide) (by decide)) (f := (g6_known bv)) rfl dX6_weighRule_19 ?_
    refine lv_iconst (v := (-1)) hx hb dX6_weighRule_20 (by decide) ?_
    refine lv_ixor hx hb dX6_weighRule_21 ?_
    refine lv_iand hx hb dX6_weighRule_22 ?_
    refine lv_if_ne (tgt := 36) hx hb dX6_weighRule_23 (by decide) (fun c23 => ?_) (fun c23 => ?_)
    · have hE := hE.trans (if_neg c23)
      rw [show bv = (s6_applies bv (g6_applies bv)) from ((se6_applies _).symm)] at hP hD
      exact hB36 (g6_applies bv) _ _ _ hE hP hD hS (lv_sub hl [0, 1, 2, 3] rfl)
    · have hE := hE.trans (if_pos c23)
      refine lv_aload_n hx hb dX6_weighRule_26 rfl (lv_at hl 0 rfl) ?_
      refine lv_dup hx hb dX6_weighRule_27 rfl ?_
      refine zg6_applies S in_X6_weighRule_6 hK hP 0 rfl (List.mem_of_getElem? (i := 2) rfl) (v := (g6_applies bv)) rfl dX6_weighRule_28 ?_
      refine lv_iload_n hx hb dX6_weighRule_31 rfl (lv_at hl 1 rfl) ?_
      refine lv_ior hx hb dX6_weighRule_32 ?_
      refine zp6_applies (bs1 := [w6 G av (s6_applies bv ((g6_applies bv) ||| x1))]) S in_X6_weighRule_6 hK hP hD hS 0 rfl (List.mem_of_getElem? (i := 2) rfl) dX6_weighRule_33 rfl (fun H locs hP hD hS => ?_)
      exact hB36 ((g6_applies bv) ||| x1) _ _ _ hE hP hD hS (lv_sub hl [0, 1, 2, 3] rfl)

theorem in_X6_weigh_0 : ∀ w ∈ u_ws RX0 TX0 9, w ∈ wsX6_weigh := by decide +kernel
theorem in_X6_weigh_6 : ∀ w ∈ u_ws RX6 TX6 12, w ∈ wsX6_weigh := by decide +kernel
def rmX6_weigh : Room := { frames := 1, cells := 0, slots := 0, locals := 23 }
set_option maxHeartbeats 4000000 in
set_option maxRecDepth 100000 in
theorem c_X6_weigh (l : Launch) (G : zG) (av : Nat → Nat) (ac : Nat → Nat) (bv : S6) (bc : S0) (hz_c_size : ∃ N : Nat, N ≤ 16 ∧ g0_size bc = nI N) (T : (Int32) × (Int32) × (Int32) × (Int32)) (hT : FX6_weigh (g6_known bv) (g6_applies bv) (g6_falls bv) (g6_sureBodies bv) (g6_neverBodies bv) (g0_body bc) (g0_excepts bc) (g0_size bc) = T) : zV l yX6_weigh wsX6_weigh rmX6_weigh G [.ref (av 0), .ref (ac 0)] [w6 G av bv, w0 G ac bc] [w6 G av (s6_neverBodies (s6_sureBodies (s6_falls (s6_applies bv T.1) T.2.1) T.2.2.1) T.2.2.2), w0 G ac bc] := by
  refine zV.mk (cc := cX6_weigh) (maxL := 3) (by decide +kernel) rfl (Nat.le_of_ble_eq_true rfl) (zfl_cons (wf6 _ _ _ _) (zfl_cons rfl rfl)) ?_
  intro p e s m args below meth c Q A ls S hK hD hA hP hl hret
  have hx := S.1
  have hb := S.2.1
  have hS : va_S A s.heap s.heap [] := va_S.rf
  have hl : lv_has ls 3 [(0, .ref (av 0)), (1, .ref (ac 0))] := hl
  obtain ⟨N_c_size, hN_c_size, hs_c_size⟩ := id hz_c_size
  have hE := hT.symm.trans (FX6_weigh.eq_1 _ _ _ _ _ _ _ _)
  refine lv_aload_n hx hb dX6_weigh_0 rfl (lv_at hl 0 rfl) ?_
  refine lv_iconst (v := 0) hx hb dX6_weigh_1 (by decide) ?_
  refine zp6_applies (bs1 := [w6 G av (s6_applies bv 0), w0 G ac bc]) S in_X6_weigh_6 hK hP hD hS 0 rfl (List.mem_of_getElem? (i := 1) rfl) dX6_weigh_2 rfl (fun H locs hP hD hS => ?_)
  refine lv_aload_n hx hb dX6_weigh_5 rfl (lv_at hl 0 rfl) ?_
  refine lv_iconst (v := 0) hx hb dX6_weigh_6 (by decide) ?_
  refine zp6_falls (bs1 := [w6 G av (s6_falls (s6_applies bv 0) 0), w0 G ac bc]) S in_X6_weigh_6 hK hP hD hS 0 rfl (List.mem_of_getElem? (i := 2) rfl) dX6_weigh_7 rfl (fun H locs hP hD hS => ?_)
  refine lv_aload_n hx hb dX6_weigh_10 rfl (lv_at hl 0 rfl) ?_
  refine lv_iconst (v := 0) hx hb dX6_weigh_11 (by decide) ?_
  refine zp6_sureBodies (bs1 := [w6 G av (s6_sureBodies (s6_falls (s6_applies bv 0) 0) 0), w0 G ac bc]) S in_X6_weigh_6 hK hP hD hS 0 rfl (List.mem_of_getElem? (i := 3) rfl) dX6_weigh_12 rfl (fun H locs hP hD hS => ?_)
  refine lv_aload_n hx hb dX6_weigh_15 rfl (lv_at hl 0 rfl) ?_
  refine lv_iconst (v := 0) hx hb dX6_weigh_16 (by decide) ?_
  refine zp6_neverBodies (bs1 := [w6 G av (s6_neverBodies (s6_sureBodies (s6_falls (s6_applies bv 0) 0) 0) 0), w0 G ac bc]) S in_X6_weigh_6 hK hP hD hS 0 rfl (List.mem_of_getElem? (i := 4) rfl) dX6_weigh_17 rfl (fun H locs hP hD hS => ?_)
  refine lv_iconst (v := 0) hx hb dX6_weigh_20 (by decide) ?_
  have hB55 : ∀ (v_applies_55 : Int32) (v_falls_55 : Int32) (v_sureBodies_55 : Int32) (v_neverBodies_55 : Int32) (H : Heap) (locs : List Loc) (ls : Array Slot), T = FX6_weigh_55 (g6_known bv) (g6_applies bv) (g6_falls bv) (g6_sureBodies bv) (g6_neverBodies bv) (g0_body bc) (g0_excepts bc) (g0_size bc) v_applies_55 v_falls_55 v_sureBodies_55 v_neverBodies_55 → zP G [w6 G av (s6_neverBodies (s6_sureBodies (s6_falls (s6_applies bv v_applies_55) v_falls_55) v_sureBodies_55) v_neverBodies_55), w0 G ac bc] H → zD A [w6 G av (s6_neverBodies (s6_sureBodies (s6_falls (s6_applies bv v_applies_55) v_falls_55) v_sureBodies_55) v_neverBodies_55), w0 G ac bc] → va_S A s.heap H locs → lv_has ls 3 [] → W p l e rmX6_weigh s m args below meth c H locs 0 0 Q (F0 m 55 ls []) := by
    intro v_applies_55 v_falls_55 v_sureBodies_55 v_neverBodies_55 H locs ls hE hP hD hS hl
    have hE := hE.trans (FX6_weigh_55.eq_1 _ _ _ _ _ _ _ _ _ _ _ _)
    exact hret _ _ _ _ _ (by subst hE; rfl) hP hS dX6_weigh_55
  have hB22 : ∀ (n22 : Nat) (i2_22 : Nat) (v_applies_22 : Int32) (v_falls_22 : Int32) (v_sureBodies_22 : Int32) (v_neverBodies_22 : Int32) (H : Heap) (locs : List Loc) (ls : Array Slot), (i2_22 ≤ N_c_size) → 17 ≤ i2_22 + n22 → T = FX6_weigh_22 (g6_known bv) (g6_applies bv) (g6_falls bv) (g6_sureBodies bv) (g6_neverBodies bv) (g0_body bc) (g0_excepts bc) (g0_size bc) (FX6_weigh_55 (g6_known bv) (g6_applies bv) (g6_falls bv) (g6_sureBodies bv) (g6_neverBodies bv) (g0_body bc) (g0_excepts bc) (g0_size bc)) n22 (nI i2_22) v_applies_22 v_falls_22 v_sureBodies_22 v_neverBodies_22 → zP G [w6 G av (s6_neverBodies (s6_sureBodies (s6_falls (s6_applies bv v_applies_22) v_falls_22) v_sureBodies_22) v_neverBodies_22), w0 G ac bc] H → zD A [w6 G av (s6_neverBodies (s6_sureBodies (s6_falls (s6_applies bv v_applies_22) v_falls_22) v_sureBodies_22) v_neverBodies_22), w0 G ac bc] → va_S A s.heap H locs → lv_has ls 3 [(0, .ref (av 0)), (1, .ref (ac 0)), (2, .int (nI i2_22))] → W p l e rmX6_weigh s m args below meth c H locs 0 0 Q (F0 m 22 ls []) := by
    intro n22
    induction n22 with
    | zero =>
      intro i2_22 v_applies_22 v_falls_22 v_sureBodies_22 v_neverBodies_22 H locs ls hi2_22 hn hE hP hD hS hl
      exact absurd hn (by omega)
    | succ n22 ih22 =>
      intro i2_22 v_applies_22 v_falls_22 v_sureBodies_22 v_neverBodies_22 H locs ls hi2_22 hn hE hP hD hS hl
      have hE := hE.trans (FX6_weigh_22.eq_2 _ _ _ _ _ _ _ _ _ _ _ _ _ _ _)
      refine lv_iload_n hx hb dX6_weigh_22 rfl (lv_at hl 2 rfl) ?_
      refine lv_aload_n hx hb dX6_weigh_23 rfl (lv_at hl 1 rfl) ?_
      refine zg0_size S in_X6_weigh_0 hK hP 1 rfl (List.mem_of_getElem? (i := 5) rfl) (v := (g0_size bc)) rfl dX6_weigh_24 ?_
      refine lv_icmp_ge (tgt := 55) hx hb dX6_weigh_27 (by decide) (fun c27 => ?_) (fun c27 => ?_)
      · have hE := hE.trans (if_pos c27)
        exact hB55 v_applies_22 v_falls_22 v_sureBodies_22 v_neverBodies_22 _ _ _ hE hP hD hS (lv_sub hl [] rfl)
      · have hE := hE.trans (if_neg c27)
        have hl2_22 : i2_22 < N_c_size := zlt hs_c_size (by omega) (by omega) c27
        refine lv_aload_n hx hb dX6_weigh_30 rfl (lv_at hl 0 rfl) ?_
        refine lv_iconst (v := 1) hx hb dX6_weigh_31 (by decide) ?_
        refine lv_iload_n hx hb dX6_weigh_32 rfl (lv_at hl 2 rfl) ?_
        refine lv_ishl hx hb dX6_weigh_33 ?_
        refine lv_aload_n hx hb dX6_weigh_34 rfl (lv_at hl 1 rfl) ?_
        refine zg0_body S in_X6_weigh_0 hK hP 1 rfl (List.mem_of_getElem? (i := 6) rfl) dX6_weigh_35 ?_
        refine lv_iload_n hx hb dX6_weigh_38 rfl (lv_at hl 2 rfl) ?_
        refine zl0_body S hK hP 1 rfl (vp_in_nI (by omega) (by omega)) (f := (g0_body bc)) rfl dX6_weigh_39 ?_
        refine lv_aload_n hx hb dX6_weigh_40 rfl (lv_at hl 1 rfl) ?_
        refine zg0_excepts S in_X6_weigh_0 hK hP 1 rfl (List.mem_of_getElem? (i := 7) rfl) dX6_weigh_41 ?_
        refine lv_iload_n hx hb dX6_weigh_44 rfl (lv_at hl 2 rfl) ?_
        refine zl0_excepts S hK hP 1 rfl (vp_in_nI (by omega) (by omega)) (f := (g0_excepts bc)) rfl dX6_weigh_45 ?_
        obtain ⟨t46, ht46⟩ : ∃ z, FX6_weighRule (g6_known bv) v_applies_22 v_falls_22 v_sureBodies_22 v_neverBodies_22 (1 <<< ((nI i2_22) &&& 31)) ((g0_body bc) (nI i2_22).toNatClampNeg) ((g0_excepts bc) (nI i2_22).toNatClampNeg) = z := ⟨_, rfl⟩
        have hE := hE.trans (bnd_eq ht46)
        have hc := c_X6_weighRule l G av (s6_neverBodies (s6_sureBodies (s6_falls (s6_applies bv v_applies_22) v_falls_22) v_sureBodies_22) v_neverBodies_22) (1 <<< ((nI i2_22) &&& 31)) ((g0_body bc) (nI i2_22).toNatClampNeg) ((g0_excepts bc) (nI i2_22).toNatClampNeg) _ (by simp only [gs6_known_neverBodies, gs6_known_sureBodies, gs6_known_falls, gs6_known_applies, gs6_applies_neverBodies, gs6_applies_sureBodies, gs6_applies_falls, gg6_applies, gs6_falls_neverBodies, gs6_falls_sureBodies, gg6_falls, gs6_sureBodies_neverBodies, gg6_sureBodies, gg6_neverBodies]; exact ht46)
        refine zgoV (bs' := [w6 G av (s6_neverBodies (s6_sureBodies (s6_falls (s6_applies (s6_neverBodies (s6_sureBodies (s6_falls (s6_applies bv v_applies_22) v_falls_22) v_sureBodies_22) v_neverBodies_22) t46.1) t46.2.1) t46.2.2.1) t46.2.2.2), w0 G ac bc]) hc [0] rfl rfl rfl hP hD hS hA (va_runV (As := [.int (1 <<< ((nI i2_22) &&& 31)), .int ((g0_body bc) (nI i2_22).toNatClampNeg), .int ((g0_excepts bc) (nI i2_22).toNatClampNeg)]) (rest := []) S (hc.2 _) (cwV 3 S.2.2.2.2 gX6_weigh_X6_weighRule rfl rfl rfl (by decide +kernel) ⟨Nat.le_of_ble_eq_true rfl, Nat.le_of_ble_eq_true rfl⟩) (zpV hK hP hD (is := [0]) rfl rfl 0 rfl rfl (ci := 6) rfl) rfl rfl hl.1 rfl (lv_room (Nat.le_of_ble_eq_true rfl)) dX6_weigh_46 ⟨Nat.zero_le _, Nat.zero_le _⟩) (fun H locs hP hD hS => ?_)
        refine lv_iinc (v := (nI (i2_22 + 1))) (lv' := [(2, .int (nI (i2_22 + 1))), (0, .ref (av 0)), (1, .ref (ac 0))]) hx hb dX6_weigh_49 hl (k := 2) rfl (nI_1 i2_22) (by decide) rfl (fun ls hl => ?_)
        try rw [nI_1 i2_22] at hE
        refine lv_goto (tgt := 22) hx hb dX6_weigh_52 (by decide) ?_
        rw [show (s6_neverBodies (s6_sureBodies (s6_falls (s6_applies (s6_neverBodies (s6_sureBodies (s6_falls (s6_applies bv v_applies_22) v_falls_22) v_sureBodies_22) v_neverBodies_22) t46.1) t46.2.1) t46.2.2.1) t46.2.2.2) = (s6_neverBodies (s6_sureBodies (s6_falls (s6_applies bv t46.1) t46.2.1) t46.2.2.1) t46.2.2.2) from ((congrArg (fun z => s6_neverBodies z t46.2.2.2) ((congrArg (fun z => s6_sureBodies z t46.2.2.1) ((congrArg (fun z => s6_falls z t46.2.1) ((cm6_applies_neverBodies _ v_neverBodies_22 t46.1).trans (congrArg (fun z => s6_neverBodies z v_neverBodies_22) ((cm6_applies_sureBodies _ v_sureBodies_22 t46.1).trans (congrArg (fun z => s6_sureBodies z v_sureBodies_22) ((cm6_applies_falls _ v_falls_22 t46.1).trans (congrArg (fun z => s6_falls z v_falls_22) (ss6_applies _ v_applies_22 t46.1)))))))).trans ((cm6_falls_neverBodies _ v_neverBodies_22 t46.2.1).trans (congrArg (fun z => s6_neverBodies z v_neverBodies_22) ((cm6_falls_sureBodies _ v_sureBodies_22 t46.2.1).trans (congrArg (fun z => s6_sureBodies z v_sureBodies_22) (ss6_falls _ v_falls_22 t46.2.1))))))).trans ((cm6_sureBodies_neverBodies _ v_neverBodies_22 t46.2.2.1).trans (congrArg (fun z => s6_neverBodies z v_neverBodies_22) (ss6_sureBodies _ v_sureBodies_22 t46.2.2.1))))).trans (ss6_neverBodies _ v_neverBodies_22 t46.2.2.2))] at hP hD
        exact ih22 (i2_22 + 1) t46.1 t46.2.1 t46.2.2.1 t46.2.2.2 _ _ _ (by first | assumption | omega) (by omega) hE hP hD hS (lv_sub hl [1, 2, 0] rfl)
  refine lv_istore_n (lv' := [(2, .int 0), (0, .ref (av 0)), (1, .ref (ac 0))]) hx hb dX6_weigh_21 rfl hl (by decide) rfl (fun ls hl => ?_)
  exact hB22 17 0 0 0 0 0 _ _ _ (by first | assumption | omega) (by omega) hE hP hD hS (lv_sub hl [1, 2, 0] rfl)

theorem in_X6_sureOnes_6 : ∀ w ∈ u_ws RX6 TX6 12, w ∈ wsX6_sureOnes := by decide +kernel
def rmX6_sureOnes : Room := { frames := 0, cells := 0, slots := 0, locals := 0 }
set_option maxHeartbeats 4000000 in
set_option maxRecDepth 100000 in
theorem c_X6_sureOnes (l : Launch) (G : zG) (av : Nat → Nat) (bv : S6) (T : Int32) (hT : FX6_sureOnes (g6_strictFor bv) (g6_facts bv) (g6_sureBodies bv) = T) : zR l yX6_sureOnes wsX6_sureOnes rmX6_sureOnes .int G [.ref (av 0)] [w6 G av bv] T := by
  refine zR.mk (cc := cX6_sureOnes) (maxL := 3) (by decide +kernel) rfl (Nat.le_of_ble_eq_true rfl) ?_
  intro p e s m args below meth c Q A ls S hK hD hA hP hl hret
  have hx := S.1
  have hb := S.2.1
  have hl : lv_has ls 3 [(0, .ref (av 0))] := hl
  have hE := hT.symm.trans (FX6_sureOnes.eq_1 _ _ _)
  refine lv_aload_n hx hb dX6_sureOnes_0 rfl (lv_at hl 0 rfl) ?_
  refine zg6_facts S in_X6_sureOnes_6 hK hP 0 rfl (List.mem_of_getElem? (i := 1) rfl) (v := (g6_facts bv)) rfl dX6_sureOnes_1 ?_
  refine lv_istore_n (lv' := [(1, .int (g6_facts bv)), (0, .ref (av 0))]) hx hb dX6_sureOnes_4 rfl hl (by decide) rfl (fun ls hl => ?_)
  refine lv_iconst (v := 0) hx hb dX6_sureOnes_5 (by decide) ?_
  have hB39 : ∀ (x1_39 : Int32) (ls : Array Slot), T = FX6_sureOnes_39 (g6_strictFor bv) (g6_facts bv) (g6_sureBodies bv) x1_39 → lv_has ls 3 [(1, .int x1_39)] → W p l e rmX6_sureOnes s m args below meth c s.heap [] 0 0 Q (F0 m 39 ls []) := by
    intro x1_39 ls hE hl
    have hE := hE.trans (FX6_sureOnes_39.eq_1 _ _ _ _)
    refine lv_iload_n hx hb dX6_sureOnes_39 rfl (lv_at hl 0 rfl) ?_
    exact hret _ _ _ hE rfl dX6_sureOnes_40
  have hB7 : ∀ (n7 : Nat) (x1_7 : Int32) (i2_7 : Nat) (ls : Array Slot), (i2_7 ≤ 20) → 21 ≤ i2_7 + n7 → T = FX6_sureOnes_7 (g6_strictFor bv) (g6_facts bv) (g6_sureBodies bv) (FX6_sureOnes_39 (g6_strictFor bv) (g6_facts bv) (g6_sureBodies bv)) n7 x1_7 (nI i2_7) → lv_has ls 3 [(0, .ref (av 0)), (1, .int x1_7), (2, .int (nI i2_7))] → W p l e rmX6_sureOnes s m args below meth c s.heap [] 0 0 Q (F0 m 7 ls []) := by
    intro n7
    induction n7 with
    | zero =>
      intro x1_7 i2_7 ls hi2_7 hn hE hl
      exact absurd hn (by omega)
    | succ n7 ih7 =>
      intro x1_7 i2_7 ls hi2_7 hn hE hl
      have hE := hE.trans (FX6_sureOnes_7.eq_2 _ _ _ _ _ _ _)
      refine lv_iload_n hx hb dX6_sureOnes_7 rfl (lv_at hl 2 rfl) ?_
      refine lv_bipush (v := 20) hx hb dX6_sureOnes_8 (by decide) ?_
      refine lv_icmp_ge (tgt := 39) hx hb dX6_sureOnes_10 (by decide) (fun c10 => ?_) (fun c10 => ?_)
      · have hE := hE.trans (if_pos c10)
        exact hB39 x1_7 _ hE (lv_sub hl [1] rfl)
      · have hE := hE.trans (if_neg c10)
        have hl2_7 : i2_7 < 20 := zlt (N := 20) rfl (by omega) (by omega) c10
        refine lv_aload_n hx hb dX6_sureOnes_13 rfl (lv_at hl 0 rfl) ?_
        refine zg6_strictFor S in_X6_sureOnes_6 hK hP 0 rfl (List.mem_of_getElem? (i := 2) rfl) dX6_sureOnes_14 ?_
        refine lv_iload_n hx hb dX6_sureOnes_17 rfl (lv_at hl 2 rfl) ?_
        refine zl6_strictFor S hK hP 0 rfl (vp_in_nI (by omega) (by omega)) (f := (g6_strictFor bv)) rfl dX6_sureOnes_18 ?_
        refine lv_aload_n hx hb dX6_sureOnes_19 rfl (lv_at hl 0 rfl) ?_
        refine zg6_sureBodies S in_X6_sureOnes_6 hK hP 0 rfl (List.mem_of_getElem? (i := 3) rfl) (v := (g6_sureBodies bv)) rfl dX6_sureOnes_20 ?_
        refine lv_iand hx hb dX6_sureOnes_23 ?_
        refine lv_if_eq (tgt := 33) hx hb dX6_sureOnes_24 (by decide) (fun c24 => ?_) (fun c24 => ?_)
        · have hE := hE.trans (if_pos c24)
          refine lv_iinc (v := (nI (i2_7 + 1))) (lv' := [(2, .int (nI (i2_7 + 1))), (0, .ref (av 0)), (1, .int x1_7)]) hx hb dX6_sureOnes_33 hl (k := 2) rfl (nI_1 i2_7) (by decide) rfl (fun ls hl => ?_)
          try rw [nI_1 i2_7] at hE
          refine lv_goto (tgt := 7) hx hb dX6_sureOnes_36 (by decide) ?_
          exact ih7 x1_7 (i2_7 + 1) _ (by first | assumption | omega) (by omega) hE (lv_sub hl [1, 2, 0] rfl)
        · have hE := hE.trans (if_neg c24)
          refine lv_iload_n hx hb dX6_sureOnes_27 rfl (lv_at hl 1 rfl) ?_
          refine lv_iconst (v := 1) hx hb dX6_sureOnes_28 (by decide) ?_
          refine lv_iload_n hx hb dX6_sureOnes_29 rfl (lv_at hl 2 rfl) ?_
          refine lv_ishl hx hb dX6_sureOnes_30 ?_
          refine lv_ior hx hb dX6_sureOnes_31 ?_
          refine lv_istore_n (lv' := [(1, .int (x1_7 ||| (1 <<< ((nI i2_7) &&& 31)))), (0, .ref (av 0)), (2, .int (nI i2_7))]) hx hb dX6_sureOnes_32 rfl hl (by decide) rfl (fun ls hl => ?_)
          refine lv_iinc (v := (nI (i2_7 + 1))) (lv' := [(2, .int (nI (i2_7 + 1))), (1, .int (x1_7 ||| (1 <<< ((nI i2_7) &&& 31)))), (0, .ref (av 0))]) hx hb dX6_sureOnes_33 hl (k := 2) rfl (nI_1 i2_7) (by decide) rfl (fun ls hl => ?_)
          try rw [nI_1 i2_7] at hE
          refine lv_goto (tgt := 7) hx hb dX6_sureOnes_36 (by decide) ?_
          exact ih7 (x1_7 ||| (1 <<< ((nI i2_7) &&& 31))) (i2_7 + 1) _ (by first | assumption | omega) (by omega) hE (lv_sub hl [2, 1, 0] rfl)
  refine lv_istore_n (lv' := [(2, .int 0), (1, .int (g6_facts bv)), (0, .ref (av 0))]) hx hb dX6_sureOnes_6 rfl hl (by decide) rfl (fun ls hl => ?_)
  exact hB7 21 (g6_facts bv) 0 _ (by first | assumption | omega) (by omega) hE (lv_sub hl [2, 1, 0] rfl)

theorem in_X6_neverOnes_6 : ∀ w ∈ u_ws RX6 TX6 12, w ∈ wsX6_neverOnes := by decide +kernel
def rmX6_neverOnes : Room := { frames := 1, cells := 0, slots := 0, locals := 21 }
set_option maxHeartbeats 4000000 in
set_option maxRecDepth 100000 in
theorem c_X6_neverOnes (l : Launch) (G : zG) (av : Nat → Nat) (bv : S6) (T : Int32) (hT : FX6_neverOnes (g6_strictFor bv) (g6_facts bv) (g6_neverBodies bv) = T) : zR l yX6_neverOnes wsX6_neverOnes rmX6_neverOnes .int G [.ref (av 0)] [w6 G av bv] T := by
  refine zR.mk (cc := cX6_neverOnes) (maxL := 3) (by decide +kernel) rfl (Nat.le_of_ble_eq_true rfl) ?_
  intro p e s m args below meth c Q A ls S hK hD hA hP hl hret
  have hx := S.1
  have hb := S.2.1
  have hl : lv_has ls 3 [(0, .ref (av 0))] := hl
  have hE := hT.symm.trans (FX6_neverOnes.eq_1 _ _ _)
  refine lv_iconst (v := 0) hx hb dX6_neverOnes_0 (by decide) ?_
  refine lv_istore_n (lv' := [(1, .int 0), (0, .ref (av 0))]) hx hb dX6_neverOnes_1 rfl hl (by decide) rfl (fun ls hl => ?_)
  refine lv_iconst (v := 0) hx hb dX6_neverOnes_2 (by decide) ?_
  have hB49 : ∀ (x1_49 : Int32) (ls : Array Slot), T = FX6_neverOnes_49 (g6_strictFor bv) (g6_facts bv) (g6_neverBodies bv) x1_49 → lv_has ls 3 [(1, .int x1_49)] → W p l e rmX6_neverOnes s m args below meth c s.heap [] 0 0 Q (F0 m 49 ls []) := by
    intro x1_49 ls hE hl
    have hE := hE.trans (FX6_neverOnes_49.eq_1 _ _ _ _)
    refine lv_iload_n hx hb dX6_neverOnes_49 rfl (lv_at hl 0 rfl) ?_
    exact hret _ _ _ hE rfl dX6_neverOnes_50
  have hB4 : ∀ (n4 : Nat) (x1_4 : Int32) (i2_4 : Nat) (ls : Array Slot), (i2_4 ≤ 20) → 21 ≤ i2_4 + n4 → T = FX6_neverOnes_4 (g6_strictFor bv) (g6_facts bv) (g6_neverBodies bv) (FX6_neverOnes_49 (g6_strictFor bv) (g6_facts bv) (g6_neverBodies bv)) n4 x1_4 (nI i2_4) → lv_has ls 3 [(0, .ref (av 0)), (1, .int x1_4), (2, .int (nI i2_4))] → W p l e rmX6_neverOnes s m args below meth c s.heap [] 0 0 Q (F0 m 4 ls []) := by
    intro n4
    induction n4 with
    | zero =>
      intro x1_4 i2_4 ls hi2_4 hn hE hl
      exact absurd hn (by omega)
    | succ n4 ih4 =>
      intro x1_4 i2_4 ls hi2_4 hn hE hl
      have hE := hE.trans (FX6_neverOnes_4.eq_2 _ _ _ _ _ _ _)
      refine lv_iload_n hx hb dX6_neverOnes_4 rfl (lv_at hl 2 rfl) ?_
      refine lv_bipush (v := 20) hx hb dX6_neverOnes_5 (by decide) ?_
      refine lv_icmp_ge (tgt := 49) hx hb dX6_neverOnes_7 (by decide) (fun c7 => ?_) (fun c7 => ?_)
      · have hE := hE.trans (if_pos c7)
        exact hB49 x1_4 _ hE (lv_sub hl [1] rfl)
      · have hE := hE.trans (if_neg c7)
        have hl2_4 : i2_4 < 20 := zlt (N := 20) rfl (by omega) (by omega) c7
        refine lv_aload_n hx hb dX6_neverOnes_10 rfl (lv_at hl 0 rfl) ?_
        refine zg6_facts S in_X6_neverOnes_6 hK hP 0 rfl (List.mem_of_getElem? (i := 1) rfl) (v := (g6_facts bv)) rfl dX6_neverOnes_11 ?_
        refine lv_iload_n hx hb dX6_neverOnes_14 rfl (lv_at hl 2 rfl) ?_
        obtain ⟨t15, ht15⟩ : ∃ z, FX8_has (g6_facts bv) (nI i2_4) = z := ⟨_, rfl⟩
        have hE := hE.trans (bnd_eq ht15)
        have hc := c_X8_has l G (g6_facts bv) (nI i2_4) _ ht15
        refine zgoR (va_runSN (As := [.int (g6_facts bv), .int (nI i2_4)]) (rest := []) S (hc _) ⟨va_cnB (host := "RuleCourt") 2 S.2.2.2.2 gX6_neverOnes_X8_has_n68 rfl rfl rfl (hK.2 _ (List.mem_of_getElem? (i := 1) rfl)) (S.2.2.2.2 _ (List.mem_of_getElem? (i := 5) rfl)) (by decide +kernel) ⟨Nat.le_of_ble_eq_true rfl, Nat.le_of_ble_eq_true rfl⟩, S.2.2.2.2 _ (List.mem_of_getElem? (i := 4) rfl), trivial⟩ (zpS hK hP hD (is := []) rfl rfl) rfl rfl hl.1 rfl (lv_room (Nat.le_of_ble_eq_true rfl)) dX6_neverOnes_15 ⟨Nat.zero_le _, Nat.zero_le _⟩) (fun hn15 => ?_)
        refine lv_if_ne (tgt := 43) hx hb dX6_neverOnes_18 (by decide) (fun c18 => ?_) (fun c18 => ?_)
        · have hE := hE.trans (if_neg c18)
          refine lv_iinc (v := (nI (i2_4 + 1))) (lv' := [(2, .int (nI (i2_4 + 1))), (0, .ref (av 0)), (1, .int x1_4)]) hx hb dX6_neverOnes_43 hl (k := 2) rfl (nI_1 i2_4) (by decide) rfl (fun ls hl => ?_)
          try rw [nI_1 i2_4] at hE
          refine lv_goto (tgt := 4) hx hb dX6_neverOnes_46 (by decide) ?_
          exact ih4 x1_4 (i2_4 + 1) _ (by first | assumption | omega) (by omega) hE (lv_sub hl [1, 2, 0] rfl)
        · have hE := hE.trans (if_pos c18)
          refine lv_aload_n hx hb dX6_neverOnes_21 rfl (lv_at hl 0 rfl) ?_
          refine zg6_strictFor S in_X6_neverOnes_6 hK hP 0 rfl (List.mem_of_getElem? (i := 2) rfl) dX6_neverOnes_22 ?_
          refine lv_iload_n hx hb dX6_neverOnes_25 rfl (lv_at hl 2 rfl) ?_
          refine zl6_strictFor S hK hP 0 rfl (vp_in_nI (by omega) (by omega)) (f := (g6_strictFor bv)) rfl dX6_neverOnes_26 ?_
          refine lv_aload_n hx hb dX6_neverOnes_27 rfl (lv_at hl 0 rfl) ?_
          refine zg6_neverBodies S in_X6_neverOnes_6 hK hP 0 rfl (List.mem_of_getElem? (i := 3) rfl) (v := (g6_neverBodies bv)) rfl dX6_neverOnes_28 ?_
          refine lv_iconst (v := (-1)) hx hb dX6_neverOnes_31 (by decide) ?_
          refine lv_ixor hx hb dX6_neverOnes_32 ?_
          refine lv_iand hx hb dX6_neverOnes_33 ?_
          refine lv_if_ne (tgt := 43) hx hb dX6_neverOnes_34 (by decide) (fun c34 => ?_) (fun c34 => ?_)
          · have hE := hE.trans (if_neg c34)
            refine lv_iinc (v := (nI (i2_4 + 1))) (lv' := [(2, .int (nI (i2_4 + 1))), (0, .ref (av 0)), (1, .int x1_4)]) hx hb dX6_neverOnes_43 hl (k := 2) rfl (nI_1 i2_4) (by decide) rfl (fun ls hl => ?_)
            try rw [nI_1 i2_4] at hE
            refine lv_goto (tgt := 4) hx hb dX6_neverOnes_46 (by decide) ?_
            exact ih4 x1_4 (i2_4 + 1) _ (by first | assumption | omega) (by omega) hE (lv_sub hl [1, 2, 0] rfl)
          · have hE := hE.trans (if_pos c34)
            refine lv_iload_n hx hb dX6_neverOnes_37 rfl (lv_at hl 1 rfl) ?_
            refine lv_iconst (v := 1) hx hb dX6_neverOnes_38 (by decide) ?_
            refine lv_iload_n hx hb dX6_neverOnes_39 rfl (lv_at hl 2 rfl) ?_
            refine lv_ishl hx hb dX6_neverOnes_40 ?_
            refine lv_ior hx hb dX6_neverOnes_41 ?_
            refine lv_istore_n (lv' := [(1, .int (x1_4 ||| (1 <<< ((nI i2_4) &&& 31)))), (0, .ref (av 0)), (2, .int (nI i2_4))]) hx hb dX6_neverOnes_42 rfl hl (by decide) rfl (fun ls hl => ?_)
            refine lv_iinc (v := (nI (i2_4 + 1))) (lv' := [(2, .int (nI (i2_4 + 1))), (1, .int (x1_4 ||| (1 <<< ((nI i2_4) &&& 31)))), (0, .ref (av 0))]) hx hb dX6_neverOnes_43 hl (k := 2) rfl (nI_1 i2_4) (by decide) rfl (fun ls hl => ?_)
            try rw [nI_1 i2_4] at hE
            refine lv_goto (tgt := 4) hx hb dX6_neverOnes_46 (by decide) ?_
            exact ih4 (x1_4 ||| (1 <<< ((nI i2_4) &&& 31))) (i2_4 + 1) _ (by first | assumption | omega) (by omega) hE (lv_sub hl [2, 1, 0] rfl)
  refine lv_istore_n (lv' := [(2, .int 0), (1, .int 0), (0, .ref (av 0))]) hx hb dX6_neverOnes_3 rfl hl (by decide) rfl (fun ls hl => ?_)
  exact hB4 21 0 0 _ (by first | assumption | omega) (by omega) hE (lv_sub hl [2, 1, 0] rfl)

theorem in_X6_team_6 : ∀ w ∈ u_ws RX6 TX6 12, w ∈ wsX6_team := by decide +kernel
def rmX6_team : Room := { frames := 0, cells := 0, slots := 0, locals := 0 }
set_option maxHeartbeats 4000000 in
set_option maxRecDepth 100000 in
theorem c_X6_team (l : Launch) (G : zG) (av : Nat → Nat) (bv : S6) (x1 : Int32) (hx1_20 : vp_in x1 20) (T : Int32) (hT : FX6_team (g6_forwardFor bv) (g6_applies bv) x1 = T) : zR l yX6_team wsX6_team rmX6_team .int G [.ref (av 0), .int x1] [w6 G av bv] T := by
  refine zR.mk (cc := cX6_team) (maxL := 2) (by decide +kernel) rfl (Nat.le_of_ble_eq_true rfl) ?_
  intro p e s m args below meth c Q A ls S hK hD hA hP hl hret
  have hx := S.1
  have hb := S.2.1
  have hl : lv_has ls 2 [(0, .ref (av 0)), (1, .int x1)] := hl
  have hE := hT.symm.trans (FX6_team.eq_1 _ _ _)
  refine lv_aload_n hx hb dX6_team_0 rfl (lv_at hl 0 rfl) ?_
  refine zg6_forwardFor S in_X6_team_6 hK hP 0 rfl (List.mem_of_getElem? (i := 1) rfl) dX6_team_1 ?_
  refine lv_iload_n hx hb dX6_team_4 rfl (lv_at hl 1 rfl) ?_
  refine zl6_forwardFor S hK hP 0 rfl hx1_20 (f := (g6_forwardFor bv)) rfl dX6_team_5 ?_
  refine lv_aload_n hx hb dX6_team_6 rfl (lv_at hl 0 rfl) ?_
  refine zg6_applies S in_X6_team_6 hK hP 0 rfl (List.mem_of_getElem? (i := 2) rfl) (v := (g6_applies bv)) rfl dX6_team_7 ?_
  refine lv_iand hx hb dX6_team_10 ?_
  exact hret _ _ _ hE rfl dX6_team_11

theorem in_X6_belowAny_6 : ∀ w ∈ u_ws RX6 TX6 12, w ∈ wsX6_belowAny := by decide +kernel
def rmX6_belowAny : Room := { frames := 0, cells := 0, slots := 0, locals := 0 }
set_option maxHeartbeats 4000000 in
set_option maxRecDepth 100000 in
theorem c_X6_belowAny (l : Launch) (G : zG) (av : Nat → Nat) (bv : S6) (x1 : Int32) (T : Int32) (hT : FX6_belowAny (g6_above bv) x1 = T) : zR l yX6_belowAny wsX6_belowAny rmX6_belowAny .int G [.ref (av 0), .int x1] [w6 G av bv] T := by
  refine zR.mk (cc := cX6_belowAny) (maxL := 4) (by decide +kernel) rfl (Nat.le_of_ble_eq_true rfl) ?_
  intro p e s m args below meth c Q A ls S hK hD hA hP hl hret
  have hx := S.1
  have hb := S.2.1
  have hl : lv_has ls 4 [(0, .ref (av 0)), (1, .int x1)] := hl
  have hE := hT.symm.trans (FX6_belowAny.eq_1 _ _)
  refine lv_iconst (v := 0) hx hb dX6_belowAny_0 (by decide) ?_
  refine lv_istore_n (lv' := [(2, .int 0), (0, .ref (av 0)), (1, .int x1)]) hx hb dX6_belowAny_1 rfl hl (by decide) rfl (fun ls hl => ?_)
  refine lv_iconst (v := 0) hx hb dX6_belowAny_2 (by decide) ?_
  have hB34 : ∀ (x2_34 : Int32) (ls : Array Slot), T = FX6_belowAny_34 (g6_above bv) x1 x2_34 → lv_has ls 4 [(2, .int x2_34)] → W p l e rmX6_belowAny s m args below meth c s.heap [] 0 0 Q (F0 m 34 ls []) := by
    intro x2_34 ls hE hl
    have hE := hE.trans (FX6_belowAny_34.eq_1 _ _ _)
    refine lv_iload_n hx hb dX6_belowAny_34 rfl (lv_at hl 0 rfl) ?_
    exact hret _ _ _ hE rfl dX6_belowAny_35
  have hB4 : ∀ (n4 : Nat) (x2_4 : Int32) (i3_4 : Nat) (ls : Array Slot), (i3_4 ≤ 16) → 17 ≤ i3_4 + n4 → T = FX6_belowAny_4 (g6_above bv) x1 (FX6_belowAny_34 (g6_above bv) x1) n4 x2_4 (nI i3_4) → lv_has ls 4 [(0, .ref (av 0)), (1, .int x1), (2, .int x2_4), (3, .int (nI i3_4))] → W p l e rmX6_belowAny s m args below meth c s.heap [] 0 0 Q (F0 m 4 ls []) := by
    intro n4
    induction n4 with
    | zero =>
      intro x2_4 i3_4 ls hi3_4 hn hE hl
      exact absurd hn (by omega)
    | succ n4 ih4 =>
      intro x2_4 i3_4 ls hi3_4 hn hE hl
      have hE := hE.trans (FX6_belowAny_4.eq_2 _ _ _ _ _ _)
      refine lv_iload_n hx hb dX6_belowAny_4 rfl (lv_at hl 3 rfl) ?_
      refine lv_bipush (v := 16) hx hb dX6_belowAny_5 (by decide) ?_
      refine lv_icmp_ge (tgt := 34) hx hb dX6_belowAny_7 (by decide) (fun c7 => ?_) (fun c7 => ?_)
      · have hE := hE.trans (if_pos c7)
        exact hB34 x2_4 _ hE (lv_sub hl [2] rfl)
      · have hE := hE.trans (if_neg c7)
        have hl3_4 : i3_4 < 16 := zlt (N := 16) rfl (by omega) (by omega) c7
        refine lv_iload_n hx hb dX6_belowAny_10 rfl (lv_at hl 1 rfl) ?_
        refine lv_iload_n hx hb dX6_belowAny_11 rfl (lv_at hl 3 rfl) ?_
        refine lv_ishr hx hb dX6_belowAny_12 ?_
        refine lv_iconst (v := 1) hx hb dX6_belowAny_13 (by decide) ?_
        refine lv_iand hx hb dX6_belowAny_14 ?_
        refine lv_iconst (v := 1) hx hb dX6_belowAny_15 (by decide) ?_
        refine lv_icmp_ne (tgt := 28) hx hb dX6_belowAny_16 (by decide) (fun c16 => ?_) (fun c16 => ?_)
        · have hE := hE.trans (if_neg c16)
          refine lv_iinc (v := (nI (i3_4 + 1))) (lv' := [(3, .int (nI (i3_4 + 1))), (0, .ref (av 0)), (1, .int x1), (2, .int x2_4)]) hx hb dX6_belowAny_28 hl (k := 3) rfl (nI_1 i3_4) (by decide) rfl (fun ls hl => ?_)
          try rw [nI_1 i3_4] at hE
          refine lv_goto (tgt := 4) hx hb dX6_belowAny_31 (by decide) ?_
          exact ih4 x2_4 (i3_4 + 1) _ (by first | assumption | omega) (by omega) hE (lv_sub hl [1, 2, 3, 0] rfl)
        · have hE := hE.trans (if_pos c16)
          refine lv_iload_n hx hb dX6_belowAny_19 rfl (lv_at hl 2 rfl) ?_
          refine lv_aload_n hx hb dX6_belowAny_20 rfl (lv_at hl 0 rfl) ?_
          refine zg6_above S in_X6_belowAny_6 hK hP 0 rfl (List.mem_of_getElem? (i := 1) rfl) dX6_belowAny_21 ?_
          refine lv_iload_n hx hb dX6_belowAny_24 rfl (lv_at hl 3 rfl) ?_
          refine zl6_above S hK hP 0 rfl (vp_in_nI (by omega) (by omega)) (f := (g6_above bv)) rfl dX6_belowAny_25 ?_
          refine lv_ior hx hb dX6_belowAny_26 ?_
          refine lv_istore_n (lv' := [(2, .int (x2_4 ||| ((g6_above bv) (nI i3_4).toNatClampNeg))), (0, .ref (av 0)), (1, .int x1), (3, .int (nI i3_4))]) hx hb dX6_belowAny_27 rfl hl (by decide) rfl (fun ls hl => ?_)
          refine lv_iinc (v := (nI (i3_4 + 1))) (lv' := [(3, .int (nI (i3_4 + 1))), (2, .int (x2_4 ||| ((g6_above bv) (nI i3_4).toNatClampNeg))), (0, .ref (av 0)), (1, .int x1)]) hx hb dX6_belowAny_28 hl (k := 3) rfl (nI_1 i3_4) (by decide) rfl (fun ls hl => ?_)
          try rw [nI_1 i3_4] at hE
          refine lv_goto (tgt := 4) hx hb dX6_belowAny_31 (by decide) ?_
          exact ih4 (x2_4 ||| ((g6_above bv) (nI i3_4).toNatClampNeg)) (i3_4 + 1) _ (by first | assumption | omega) (by omega) hE (lv_sub hl [2, 3, 1, 0] rfl)
  refine lv_istore_n (lv' := [(3, .int 0), (2, .int 0), (0, .ref (av 0)), (1, .int x1)]) hx hb dX6_belowAny_3 rfl hl (by decide) rfl (fun ls hl => ?_)
  exact hB4 17 0 0 _ (by first | assumption | omega) (by omega) hE (lv_sub hl [2, 3, 1, 0] rfl)

theorem in_X6_threats_6 : ∀ w ∈ u_ws RX6 TX6 12, w ∈ wsX6_threats := by decide +kernel
def rmX6_threats : Room := { frames := 1, cells := 0, slots := 0, locals := 23 }
set_option maxHeartbeats 4000000 in
set_option maxRecDepth 100000 in
theorem c_X6_threats (l : Launch) (G : zG) (av : Nat → Nat) (bv : S6) (x1 : Int32) (hx1_20 : vp_in x1 20) (T : Int32) (hT : FX6_threats (g6_forwardFor bv) (g6_allFor bv) (g6_above bv) (g6_applies bv) (g6_falls bv) x1 = T) : zR l yX6_threats wsX6_threats rmX6_threats .int G [.ref (av 0), .int x1] [w6 G av bv] T := by
  refine zR.mk (cc := cX6_threats) (maxL := 2) (by decide +kernel) rfl (Nat.le_of_ble_eq_true rfl) ?_
  intro p e s m args below meth c Q A ls S hK hD hA hP hl hret
  have hx := S.1
  have hb := S.2.1
  have hl : lv_has ls 2 [(0, .ref (av 0)), (1, .int x1)] := hl
  have hE := hT.symm.trans (FX6_threats.eq_1 _ _ _ _ _ _)
  refine lv_aload_n hx hb dX6_threats_0 rfl (lv_at hl 0 rfl) ?_
  refine zg6_allFor S in_X6_threats_6 hK hP 0 rfl (List.mem_of_getElem? (i := 1) rfl) dX6_threats_1 ?_
  refine lv_iload_n hx hb dX6_threats_4 rfl (lv_at hl 1 rfl) ?_
  obtain ⟨t5, ht5⟩ : ∃ z, FX8_otherOf x1 = z := ⟨_, rfl⟩
  have hE := hE.trans (bnd_eq ht5)
  have hc := c_X8_otherOf l G x1 _ ht5
  refine zgoR (va_runSN (As := [.int x1]) (rest := [.ref (av 5)]) S (hc _) ⟨va_cnB (host := "RuleCourt") 1 S.2.2.2.2 gX6_threats_X8_otherOf_n107 rfl rfl rfl (hK.2 _ (List.mem_of_getElem? (i := 2) rfl)) (S.2.2.2.2 _ (List.mem_of_getElem? (i := 4) rfl)) (by decide +kernel) ⟨Nat.le_of_ble_eq_true rfl, Nat.le_of_ble_eq_true rfl⟩, S.2.2.2.2 _ (List.mem_of_getElem? (i := 3) rfl), trivial⟩ (zpS hK hP hD (is := []) rfl rfl) rfl rfl hl.1 rfl (lv_room (Nat.le_of_ble_eq_true rfl)) dX6_threats_5 ⟨Nat.zero_le _, Nat.zero_le _⟩) (fun hn5 => ?_)
  have hq5 : vp_in t5 20 := by rw [← ht5]; exact zother hx1_20
  refine zl6_allFor S hK hP 0 rfl (hq5) (f := (g6_allFor bv)) rfl dX6_threats_8 ?_
  refine lv_aload_n hx hb dX6_threats_9 rfl (lv_at hl 0 rfl) ?_
  refine zg6_falls S in_X6_threats_6 hK hP 0 rfl (List.mem_of_getElem? (i := 2) rfl) (v := (g6_falls bv)) rfl dX6_threats_10 ?_
  refine lv_iconst (v := (-1)) hx hb dX6_threats_13 (by decide) ?_
  refine lv_ixor hx hb dX6_threats_14 ?_
  refine lv_iand hx hb dX6_threats_15 ?_
  refine lv_aload_n hx hb dX6_threats_16 rfl (lv_at hl 0 rfl) ?_
  refine lv_aload_n hx hb dX6_threats_17 rfl (lv_at hl 0 rfl) ?_
  refine lv_iload_n hx hb dX6_threats_18 rfl (lv_at hl 1 rfl) ?_
  obtain ⟨t19, ht19⟩ : ∃ z, FX6_team (g6_forwardFor bv) (g6_applies bv) x1 = z := ⟨_, rfl⟩
  have hE := hE.trans (bnd_eq ht19)
  have hc := c_X6_team l G av bv x1 (hx1_20) _ ht19
  refine zgoR (va_runV (As := [.int x1]) (rest := [.ref (av 0), .int (((g6_allFor bv) t5.toNatClampNeg) &&& ((g6_falls bv) ^^^ (-1)))]) S (hc _) (cwV 1 S.2.2.2.2 gX6_threats_X6_team rfl rfl rfl (by decide +kernel) ⟨Nat.le_of_ble_eq_true rfl, Nat.le_of_ble_eq_true rfl⟩) (zpV hK hP hD (is := [0]) rfl rfl 0 rfl rfl (ci := 6) rfl) rfl rfl hl.1 rfl (lv_room (Nat.le_of_ble_eq_true rfl)) dX6_threats_19 ⟨Nat.zero_le _, Nat.zero_le _⟩) (fun hn19 => ?_)
  obtain ⟨t22, ht22⟩ : ∃ z, FX6_belowAny (g6_above bv) t19 = z := ⟨_, rfl⟩
  have hE := hE.trans (bnd_eq ht22)
  have hc := c_X6_belowAny l G av bv t19 _ ht22
  refine zgoR (va_runV (As := [.int t19]) (rest := [.int (((g6_allFor bv) t5.toNatClampNeg) &&& ((g6_falls bv) ^^^ (-1)))]) S (hc _) (cwV 1 S.2.2.2.2 gX6_threats_X6_belowAny rfl rfl rfl (by decide +kernel) ⟨Nat.le_of_ble_eq_true rfl, Nat.le_of_ble_eq_true rfl⟩) (zpV hK hP hD (is := [0]) rfl rfl 0 rfl rfl (ci := 6) rfl) rfl rfl hl.1 rfl (lv_room (Nat.le_of_ble_eq_true rfl)) dX6_threats_22 ⟨Nat.zero_le _, Nat.zero_le _⟩) (fun hn22 => ?_)
  refine lv_iconst (v := (-1)) hx hb dX6_threats_25 (by decide) ?_
  refine lv_ixor hx hb dX6_threats_26 ?_
  refine lv_iand hx hb dX6_threats_27 ?_
  exact hret _ _ _ hE rfl dX6_threats_28

theorem in_X6_likelyOnes_6 : ∀ w ∈ u_ws RX6 TX6 12, w ∈ wsX6_likelyOnes := by decide +kernel
def rmX6_likelyOnes : Room := { frames := 2, cells := 0, slots := 0, locals := 44 }
set_option maxHeartbeats 4000000 in
set_option maxRecDepth 100000 in
theorem c_X6_likelyOnes (l : Launch) (G : zG) (av : Nat → Nat) (bv : S6) (T : Int32) (hT : FX6_likelyOnes (g6_known bv) (g6_forwardFor bv) (g6_allFor bv) (g6_above bv) (g6_applies bv) (g6_falls bv) = T) : zR l yX6_likelyOnes wsX6_likelyOnes rmX6_likelyOnes .int G [.ref (av 0)] [w6 G av bv] T := by
  refine zR.mk (cc := cX6_likelyOnes) (maxL := 3) (by decide +kernel) rfl (Nat.le_of_ble_eq_true rfl) ?_
  intro p e s m args below meth c Q A ls S hK hD hA hP hl hret
  have hx := S.1
  have hb := S.2.1
  have hl : lv_has ls 3 [(0, .ref (av 0))] := hl
  have hE := hT.symm.trans (FX6_likelyOnes.eq_1 _ _ _ _ _ _)
  refine lv_aload_n hx hb dX6_likelyOnes_0 rfl (lv_at hl 0 rfl) ?_
  refine zg6_known S in_X6_likelyOnes_6 hK hP 0 rfl (List.mem_of_getElem? (i := 1) rfl) dX6_likelyOnes_1 ?_
  refine lv_iconst (v := 0) hx hb dX6_likelyOnes_4 (by decide) ?_
  refine zl6_known S hK hP 0 rfl (zin_k (n := 0) rfl (by decide) (by decide)) (f := (g6_known bv)) rfl dX6_likelyOnes_5 ?_
  refine lv_istore_n (lv' := [(1, .int ((g6_known bv) (0 : Int32).toNatClampNeg)), (0, .ref (av 0))]) hx hb dX6_likelyOnes_6 rfl hl (by decide) rfl (fun ls hl => ?_)
  refine lv_iconst (v := 0) hx hb dX6_likelyOnes_7 (by decide) ?_
  have hB59 : ∀ (x1_59 : Int32) (ls : Array Slot), T = FX6_likelyOnes_59 (g6_known bv) (g6_forwardFor bv) (g6_allFor bv) (g6_above bv) (g6_applies bv) (g6_falls bv) x1_59 → lv_has ls 3 [(1, .int x1_59)] → W p l e rmX6_likelyOnes s m args below meth c s.heap [] 0 0 Q (F0 m 59 ls []) := by
    intro x1_59 ls hE hl
    have hE := hE.trans (FX6_likelyOnes_59.eq_1 _ _ _ _ _ _ _)
    refine lv_iload_n hx hb dX6_likelyOnes_59 rfl (lv_at hl 0 rfl) ?_
    exact hret _ _ _ hE rfl dX6_likelyOnes_60
  have hB9 : ∀ (n9 : Nat) (x1_9 : Int32) (i2_9 : Nat) (ls : Array Slot), (i2_9 ≤ 20) → 21 ≤ i2_9 + n9 → T = FX6_likelyOnes_9 (g6_known bv) (g6_forwardFor bv) (g6_allFor bv) (g6_above bv) (g6_applies bv) (g6_falls bv) (FX6_likelyOnes_59 (g6_known bv) (g6_forwardFor bv) (g6_allFor bv) (g6_above bv) (g6_applies bv) (g6_falls bv)) n9 x1_9 (nI i2_9) → lv_has ls 3 [(0, .ref (av 0)), (1, .int x1_9), (2, .int (nI i2_9))] → W p l e rmX6_likelyOnes s m args below meth c s.heap [] 0 0 Q (F0 m 9 ls []) := by
    intro n9
    induction n9 with
    | zero =>
      intro x1_9 i2_9 ls hi2_9 hn hE hl
      exact absurd hn (by omega)
    | succ n9 ih9 =>
      intro x1_9 i2_9 ls hi2_9 hn hE hl
      have hE := hE.trans (FX6_likelyOnes_9.eq_2 _ _ _ _ _ _ _ _ _ _)
      refine lv_iload_n hx hb dX6_likelyOnes_9 rfl (lv_at hl 2 rfl) ?_
      refine lv_bipush (v := 20) hx hb dX6_likelyOnes_10 (by decide) ?_
      refine lv_icmp_ge (tgt := 59) hx hb dX6_likelyOnes_12 (by decide) (fun c12 => ?_) (fun c12 => ?_)
      · have hE := hE.trans (if_pos c12)
        exact hB59 x1_9 _ hE (lv_sub hl [1] rfl)
      · have hE := hE.trans (if_neg c12)
        have hl2_9 : i2_9 < 20 := zlt (N := 20) rfl (by omega) (by omega) c12
        refine lv_aload_n hx hb dX6_likelyOnes_15 rfl (lv_at hl 0 rfl) ?_
        refine lv_iload_n hx hb dX6_likelyOnes_16 rfl (lv_at hl 2 rfl) ?_
        obtain ⟨t17, ht17⟩ : ∃ z, FX6_team (g6_forwardFor bv) (g6_applies bv) (nI i2_9) = z := ⟨_, rfl⟩
        have hE := hE.trans (bnd_eq ht17)
        have hc := c_X6_team l G av bv (nI i2_9) ((vp_in_nI (by omega) (by omega))) _ ht17
        refine zgoR (va_runV (As := [.int (nI i2_9)]) (rest := []) S (hc _) (cwV 1 S.2.2.2.2 gX6_likelyOnes_X6_team rfl rfl rfl (by decide +kernel) ⟨Nat.le_of_ble_eq_true rfl, Nat.le_of_ble_eq_true rfl⟩) (zpV hK hP hD (is := [0]) rfl rfl 0 rfl rfl (ci := 6) rfl) rfl rfl hl.1 rfl (lv_room (Nat.le_of_ble_eq_true rfl)) dX6_likelyOnes_17 ⟨Nat.zero_le _, Nat.zero_le _⟩) (fun hn17 => ?_)
        refine lv_if_eq (tgt := 53) hx hb dX6_likelyOnes_20 (by decide) (fun c20 => ?_) (fun c20 => ?_)
        · have hE := hE.trans (if_pos c20)
          refine lv_iinc (v := (nI (i2_9 + 1))) (lv' := [(2, .int (nI (i2_9 + 1))), (0, .ref (av 0)), (1, .int x1_9)]) hx hb dX6_likelyOnes_53 hl (k := 2) rfl (nI_1 i2_9) (by decide) rfl (fun ls hl => ?_)
          try rw [nI_1 i2_9] at hE
          refine lv_goto (tgt := 9) hx hb dX6_likelyOnes_56 (by decide) ?_
          exact ih9 x1_9 (i2_9 + 1) _ (by first | assumption | omega) (by omega) hE (lv_sub hl [1, 2, 0] rfl)
        · have hE := hE.trans (if_neg c20)
          refine lv_aload_n hx hb dX6_likelyOnes_23 rfl (lv_at hl 0 rfl) ?_
          refine zg6_known S in_X6_likelyOnes_6 hK hP 0 rfl (List.mem_of_getElem? (i := 1) rfl) dX6_likelyOnes_24 ?_
          refine lv_iconst (v := 1) hx hb dX6_likelyOnes_27 (by decide) ?_
          refine zl6_known S hK hP 0 rfl (zin_k (n := 1) rfl (by decide) (by decide)) (f := (g6_known bv)) rfl dX6_likelyOnes_28 ?_
          refine lv_iload_n hx hb dX6_likelyOnes_29 rfl (lv_at hl 2 rfl) ?_
          obtain ⟨t30, ht30⟩ : ∃ z, FX8_otherOf (nI i2_9) = z := ⟨_, rfl⟩
          have hE := hE.trans (bnd_eq ht30)
          have hc := c_X8_otherOf l G (nI i2_9) _ ht30
          refine zgoR (va_runSN (As := [.int (nI i2_9)]) (rest := [.int ((g6_known bv) (1 : Int32).toNatClampNeg)]) S (hc _) ⟨va_cnB (host := "RuleCourt") 1 S.2.2.2.2 gX6_likelyOnes_X8_otherOf_n107 rfl rfl rfl (hK.2 _ (List.mem_of_getElem? (i := 2) rfl)) (S.2.2.2.2 _ (List.mem_of_getElem? (i := 10) rfl)) (by decide +kernel) ⟨Nat.le_of_ble_eq_true rfl, Nat.le_of_ble_eq_true rfl⟩, S.2.2.2.2 _ (List.mem_of_getElem? (i := 9) rfl), trivial⟩ (zpS hK hP hD (is := []) rfl rfl) rfl rfl hl.1 rfl (lv_room (Nat.le_of_ble_eq_true rfl)) dX6_likelyOnes_30 ⟨Nat.zero_le _, Nat.zero_le _⟩) (fun hn30 => ?_)
          obtain ⟨t33, ht33⟩ : ∃ z, FX8_has ((g6_known bv) (1 : Int32).toNatClampNeg) t30 = z := ⟨_, rfl⟩
          have hE := hE.trans (bnd_eq ht33)
          have hc := c_X8_has l G ((g6_known bv) (1 : Int32).toNatClampNeg) t30 _ ht33
          refine zgoR (va_runSN (As := [.int ((g6_known bv) (1 : Int32).toNatClampNeg), .int t30]) (rest := []) S (hc _) ⟨va_cnB (host := "RuleCourt") 2 S.2.2.2.2 gX6_likelyOnes_X8_has_n68 rfl rfl rfl (hK.2 _ (List.mem_of_getElem? (i := 1) rfl)) (S.2.2.2.2 _ (List.mem_of_getElem? (i := 10) rfl)) (by decide +kernel) ⟨Nat.le_of_ble_eq_true rfl, Nat.le_of_ble_eq_true rfl⟩, S.2.2.2.2 _ (List.mem_of_getElem? (i := 12) rfl), trivial⟩ (zpS hK hP hD (is := []) rfl rfl) rfl rfl hl.1 rfl (lv_room (Nat.le_of_ble_eq_true rfl)) dX6_likelyOnes_33 ⟨Nat.zero_le _, Nat.zero_le _⟩) (fun hn33 => ?_)
          refine lv_if_eq (tgt := 53) hx hb dX6_likelyOnes_36 (by decide) (fun c36 => ?_) (fun c36 => ?_)
          · have hE := hE.trans (if_pos c36)
            refine lv_iinc (v := (nI (i2_9 + 1))) (lv' := [(2, .int (nI (i2_9 + 1))), (0, .ref (av 0)), (1, .int x1_9)]) hx hb dX6_likelyOnes_53 hl (k := 2) rfl (nI_1 i2_9) (by decide) rfl (fun ls hl => ?_)
            try rw [nI_1 i2_9] at hE
            refine lv_goto (tgt := 9) hx hb dX6_likelyOnes_56 (by decide) ?_
            exact ih9 x1_9 (i2_9 + 1) _ (by first | assumption | omega) (by omega) hE (lv_sub hl [1, 2, 0] rfl)
          · have hE := hE.trans (if_neg c36)
            refine lv_aload_n hx hb dX6_likelyOnes_39 rfl (lv_at hl 0 rfl) ?_
            refine lv_iload_n hx hb dX6_likelyOnes_40 rfl (lv_at hl 2 rfl) ?_
            obtain ⟨t41, ht41⟩ : ∃ z, FX6_threats (g6_forwardFor bv) (g6_allFor bv) (g6_above bv) (g6_applies bv) (g6_falls bv) (nI i2_9) = z := ⟨_, rfl⟩
            have hE := hE.trans (bnd_eq ht41)
            have hc := c_X6_threats l G av bv (nI i2_9) ((vp_in_nI (by omega) (by omega))) _ ht41
            refine zgoR (va_runV (As := [.int (nI i2_9)]) (rest := []) S (hc _) (cwV 1 S.2.2.2.2 gX6_likelyOnes_X6_threats rfl rfl rfl (by decide +kernel) ⟨Nat.le_of_ble_eq_true rfl, Nat.le_of_ble_eq_true rfl⟩) (zpV hK hP hD (is := [0]) rfl rfl 0 rfl rfl (ci := 6) rfl) rfl rfl hl.1 rfl (lv_room (Nat.le_of_ble_eq_true rfl)) dX6_likelyOnes_41 ⟨Nat.zero_le _, Nat.zero_le _⟩) (fun hn41 => ?_)
            refine lv_if_ne (tgt := 53) hx hb dX6_likelyOnes_44 (by decide) (fun c44 => ?_) (fun c44 => ?_)
            · have hE := hE.trans (if_neg c44)
              refine lv_iinc (v := (nI (i2_9 + 1))) (lv' := [(2, .int (nI (i2_9 + 1))), (0, .ref (av 0)), (1, .int x1_9)]) hx hb dX6_likelyOnes_53 hl (k := 2) rfl (nI_1 i2_9) (by decide) rfl (fun ls hl => ?_)
              try rw [nI_1 i2_9] at hE
              refine lv_goto (tgt := 9) hx hb dX6_likelyOnes_56 (by decide) ?_
              exact ih9 x1_9 (i2_9 + 1) _ (by first | assumption | omega) (by omega) hE (lv_sub hl [1, 2, 0] rfl)
            · have hE := hE.trans (if_pos c44)
              refine lv_iload_n hx hb dX6_likelyOnes_47 rfl (lv_at hl 1 rfl) ?_
              refine lv_iconst (v := 1) hx hb dX6_likelyOnes_48 (by decide) ?_
              refine lv_iload_n hx hb dX6_likelyOnes_49 rfl (lv_at hl 2 rfl) ?_
              refine lv_ishl hx hb dX6_likelyOnes_50 ?_
              refine lv_ior hx hb dX6_likelyOnes_51 ?_
              refine lv_istore_n (lv' := [(1, .int (x1_9 ||| (1 <<< ((nI i2_9) &&& 31)))), (0, .ref (av 0)), (2, .int (nI i2_9))]) hx hb dX6_likelyOnes_52 rfl hl (by decide) rfl (fun ls hl => ?_)
              refine lv_iinc (v := (nI (i2_9 + 1))) (lv' := [(2, .int (nI (i2_9 + 1))), (1, .int (x1_9 ||| (1 <<< ((nI i2_9) &&& 31)))), (0, .ref (av 0))]) hx hb dX6_likelyOnes_53 hl (k := 2) rfl (nI_1 i2_9) (by decide) rfl (fun ls hl => ?_)
              try rw [nI_1 i2_9] at hE
              refine lv_goto (tgt := 9) hx hb dX6_likelyOnes_56 (by decide) ?_
              exact ih9 (x1_9 ||| (1 <<< ((nI i2_9) &&& 31))) (i2_9 + 1) _ (by first | assumption | omega) (by omega) hE (lv_sub hl [2, 1, 0] rfl)
  refine lv_istore_n (lv' := [(2, .int 0), (1, .int ((g6_known bv) (0 : Int32).toNatClampNeg)), (0, .ref (av 0))]) hx hb dX6_likelyOnes_8 rfl hl (by decide) rfl (fun ls hl => ?_)
  exact hB9 21 ((g6_known bv) (0 : Int32).toNatClampNeg) 0 _ (by first | assumption | omega) (by omega) hE (lv_sub hl [2, 1, 0] rfl)

theorem in_X6_unfallen_6 : ∀ w ∈ u_ws RX6 TX6 12, w ∈ wsX6_unfallen := by decide +kernel
def rmX6_unfallen : Room := { frames := 0, cells := 0, slots := 0, locals := 0 }
set_option maxHeartbeats 4000000 in
set_option maxRecDepth 100000 in
theorem c_X6_unfallen (l : Launch) (G : zG) (av : Nat → Nat) (bv : S6) (x1 : Int32) (hx1_20 : vp_in x1 20) (T : Int32) (hT : FX6_unfallen (g6_forwardFor bv) (g6_falls bv) x1 = T) : zR l yX6_unfallen wsX6_unfallen rmX6_unfallen .int G [.ref (av 0), .int x1] [w6 G av bv] T := by
  refine zR.mk (cc := cX6_unfallen) (maxL := 2) (by decide +kernel) rfl (Nat.le_of_ble_eq_true rfl) ?_
  intro p e s m args below meth c Q A ls S hK hD hA hP hl hret
  have hx := S.1
  have hb := S.2.1
  have hl : lv_has ls 2 [(0, .ref (av 0)), (1, .int x1)] := hl
  have hE := hT.symm.trans (FX6_unfallen.eq_1 _ _ _)
  refine lv_aload_n hx hb dX6_unfallen_0 rfl (lv_at hl 0 rfl) ?_
  refine zg6_forwardFor S in_X6_unfallen_6 hK hP 0 rfl (List.mem_of_getElem? (i := 1) rfl) dX6_unfallen_1 ?_
  refine lv_iload_n hx hb dX6_unfallen_4 rfl (lv_at hl 1 rfl) ?_
  refine zl6_forwardFor S hK hP 0 rfl hx1_20 (f := (g6_forwardFor bv)) rfl dX6_unfallen_5 ?_
  refine lv_aload_n hx hb dX6_unfallen_6 rfl (lv_at hl 0 rfl) ?_
  refine zg6_falls S in_X6_unfallen_6 hK hP 0 rfl (List.mem_of_getElem? (i := 2) rfl) (v := (g6_falls bv)) rfl dX6_unfallen_7 ?_
  refine lv_iconst (v := (-1)) hx hb dX6_unfallen_10 (by decide) ?_
  refine lv_ixor hx hb dX6_unfallen_11 ?_
  refine lv_iand hx hb dX6_unfallen_12 ?_
  exact hret _ _ _ hE rfl dX6_unfallen_13

theorem in_X6_victors_6 : ∀ w ∈ u_ws RX6 TX6 12, w ∈ wsX6_victors := by decide +kernel
def rmX6_victors : Room := { frames := 1, cells := 0, slots := 0, locals := 23 }
set_option maxHeartbeats 4000000 in
set_option maxRecDepth 100000 in
theorem c_X6_victors (l : Launch) (G : zG) (av : Nat → Nat) (bv : S6) (x1 : Int32) (hx1_20 : vp_in x1 20) (T : Int32) (hT : FX6_victors (g6_forwardFor bv) (g6_allFor bv) (g6_above bv) (g6_applies bv) (g6_falls bv) x1 = T) : zR l yX6_victors wsX6_victors rmX6_victors .int G [.ref (av 0), .int x1] [w6 G av bv] T := by
  refine zR.mk (cc := cX6_victors) (maxL := 2) (by decide +kernel) rfl (Nat.le_of_ble_eq_true rfl) ?_
  intro p e s m args below meth c Q A ls S hK hD hA hP hl hret
  have hx := S.1
  have hb := S.2.1
  have hl : lv_has ls 2 [(0, .ref (av 0)), (1, .int x1)] := hl
  have hE := hT.symm.trans (FX6_victors.eq_1 _ _ _ _ _ _)
  refine lv_aload_n hx hb dX6_victors_0 rfl (lv_at hl 0 rfl) ?_
  refine zg6_allFor S in_X6_victors_6 hK hP 0 rfl (List.mem_of_getElem? (i := 1) rfl) dX6_victors_1 ?_
  refine lv_iload_n hx hb dX6_victors_4 rfl (lv_at hl 1 rfl) ?_
  obtain ⟨t5, ht5⟩ : ∃ z, FX8_otherOf x1 = z := ⟨_, rfl⟩
  have hE := hE.trans (bnd_eq ht5)
  have hc := c_X8_otherOf l G x1 _ ht5
  refine zgoR (va_runSN (As := [.int x1]) (rest := [.ref (av 5)]) S (hc _) ⟨va_cnB (host := "RuleCourt") 1 S.2.2.2.2 gX6_victors_X8_otherOf_n107 rfl rfl rfl (hK.2 _ (List.mem_of_getElem? (i := 2) rfl)) (S.2.2.2.2 _ (List.mem_of_getElem? (i := 4) rfl)) (by decide +kernel) ⟨Nat.le_of_ble_eq_true rfl, Nat.le_of_ble_eq_true rfl⟩, S.2.2.2.2 _ (List.mem_of_getElem? (i := 3) rfl), trivial⟩ (zpS hK hP hD (is := []) rfl rfl) rfl rfl hl.1 rfl (lv_room (Nat.le_of_ble_eq_true rfl)) dX6_victors_5 ⟨Nat.zero_le _, Nat.zero_le _⟩) (fun hn5 => ?_)
  have hq5 : vp_in t5 20 := by rw [← ht5]; exact zother hx1_20
  refine zl6_allFor S hK hP 0 rfl (hq5) (f := (g6_allFor bv)) rfl dX6_victors_8 ?_
  refine lv_aload_n hx hb dX6_victors_9 rfl (lv_at hl 0 rfl) ?_
  refine zg6_applies S in_X6_victors_6 hK hP 0 rfl (List.mem_of_getElem? (i := 2) rfl) (v := (g6_applies bv)) rfl dX6_victors_10 ?_
  refine lv_iand hx hb dX6_victors_13 ?_
  refine lv_aload_n hx hb dX6_victors_14 rfl (lv_at hl 0 rfl) ?_
  refine lv_aload_n hx hb dX6_victors_15 rfl (lv_at hl 0 rfl) ?_
  refine lv_iload_n hx hb dX6_victors_16 rfl (lv_at hl 1 rfl) ?_
  obtain ⟨t17, ht17⟩ : ∃ z, FX6_unfallen (g6_forwardFor bv) (g6_falls bv) x1 = z := ⟨_, rfl⟩
  have hE := hE.trans (bnd_eq ht17)
  have hc := c_X6_unfallen l G av bv x1 (hx1_20) _ ht17
  refine zgoR (va_runV (As := [.int x1]) (rest := [.ref (av 0), .int (((g6_allFor bv) t5.toNatClampNeg) &&& (g6_applies bv))]) S (hc _) (cwV 1 S.2.2.2.2 gX6_victors_X6_unfallen rfl rfl rfl (by decide +kernel) ⟨Nat.le_of_ble_eq_true rfl, Nat.le_of_ble_eq_true rfl⟩) (zpV hK hP hD (is := [0]) rfl rfl 0 rfl rfl (ci := 6) rfl) rfl rfl hl.1 rfl (lv_room (Nat.le_of_ble_eq_true rfl)) dX6_victors_17 ⟨Nat.zero_le _, Nat.zero_le _⟩) (fun hn17 => ?_)
  obtain ⟨t20, ht20⟩ : ∃ z, FX6_belowAny (g6_above bv) t17 = z := ⟨_, rfl⟩
  have hE := hE.trans (bnd_eq ht20)
  have hc := c_X6_belowAny l G av bv t17 _ ht20
  refine zgoR (va_runV (As := [.int t17]) (rest := [.int (((g6_allFor bv) t5.toNatClampNeg) &&& (g6_applies bv))]) S (hc _) (cwV 1 S.2.2.2.2 gX6_victors_X6_belowAny rfl rfl rfl (by decide +kernel) ⟨Nat.le_of_ble_eq_true rfl, Nat.le_of_ble_eq_true rfl⟩) (zpV hK hP hD (is := [0]) rfl rfl 0 rfl rfl (ci := 6) rfl) rfl rfl hl.1 rfl (lv_room (Nat.le_of_ble_eq_true rfl)) dX6_victors_20 ⟨Nat.zero_le _, Nat.zero_le _⟩) (fun hn20 => ?_)
  refine lv_iconst (v := (-1)) hx hb dX6_victors_23 (by decide) ?_
  refine lv_ixor hx hb dX6_victors_24 ?_
  refine lv_iand hx hb dX6_victors_25 ?_
  exact hret _ _ _ hE rfl dX6_victors_26

theorem in_X6_unlikelyOnes_6 : ∀ w ∈ u_ws RX6 TX6 12, w ∈ wsX6_unlikelyOnes := by decide +kernel
def rmX6_unlikelyOnes : Room := { frames := 2, cells := 0, slots := 0, locals := 44 }
set_option maxHeartbeats 4000000 in
set_option maxRecDepth 100000 in
theorem c_X6_unlikelyOnes (l : Launch) (G : zG) (av : Nat → Nat) (bv : S6) (T : Int32) (hT : FX6_unlikelyOnes (g6_known bv) (g6_forwardFor bv) (g6_allFor bv) (g6_above bv) (g6_applies bv) (g6_falls bv) = T) : zR l yX6_unlikelyOnes wsX6_unlikelyOnes rmX6_unlikelyOnes .int G [.ref (av 0)] [w6 G av bv] T := by
  refine zR.mk (cc := cX6_unlikelyOnes) (maxL := 3) (by decide +kernel) rfl (Nat.le_of_ble_eq_true rfl) ?_
  intro p e s m args below meth c Q A ls S hK hD hA hP hl hret
  have hx := S.1
  have hb := S.2.1
  have hl : lv_has ls 3 [(0, .ref (av 0))] := hl
  have hE := hT.symm.trans (FX6_unlikelyOnes.eq_1 _ _ _ _ _ _)
  refine lv_iconst (v := 0) hx hb dX6_unlikelyOnes_0 (by decide) ?_
  refine lv_istore_n (lv' := [(1, .int 0), (0, .ref (av 0))]) hx hb dX6_unlikelyOnes_1 rfl hl (by decide) rfl (fun ls hl => ?_)
  refine lv_iconst (v := 0) hx hb dX6_unlikelyOnes_2 (by decide) ?_
  have hB54 : ∀ (x1_54 : Int32) (ls : Array Slot), T = FX6_unlikelyOnes_54 (g6_known bv) (g6_forwardFor bv) (g6_allFor bv) (g6_above bv) (g6_applies bv) (g6_falls bv) x1_54 → lv_has ls 3 [(0, .ref (av 0)), (1, .int x1_54)] → W p l e rmX6_unlikelyOnes s m args below meth c s.heap [] 0 0 Q (F0 m 54 ls []) := by
    intro x1_54 ls hE hl
    have hE := hE.trans (FX6_unlikelyOnes_54.eq_1 _ _ _ _ _ _ _)
    refine lv_iload_n hx hb dX6_unlikelyOnes_54 rfl (lv_at hl 1 rfl) ?_
    refine lv_aload_n hx hb dX6_unlikelyOnes_55 rfl (lv_at hl 0 rfl) ?_
    refine zg6_known S in_X6_unlikelyOnes_6 hK hP 0 rfl (List.mem_of_getElem? (i := 1) rfl) dX6_unlikelyOnes_56 ?_
    refine lv_iconst (v := 1) hx hb dX6_unlikelyOnes_59 (by decide) ?_
    refine zl6_known S hK hP 0 rfl (zin_k (n := 1) rfl (by decide) (by decide)) (f := (g6_known bv)) rfl dX6_unlikelyOnes_60 ?_
    refine lv_iand hx hb dX6_unlikelyOnes_61 ?_
    exact hret _ _ _ hE rfl dX6_unlikelyOnes_62
  have hB4 : ∀ (n4 : Nat) (x1_4 : Int32) (i2_4 : Nat) (ls : Array Slot), (i2_4 ≤ 20) → 21 ≤ i2_4 + n4 → T = FX6_unlikelyOnes_4 (g6_known bv) (g6_forwardFor bv) (g6_allFor bv) (g6_above bv) (g6_applies bv) (g6_falls bv) (FX6_unlikelyOnes_54 (g6_known bv) (g6_forwardFor bv) (g6_allFor bv) (g6_above bv) (g6_applies bv) (g6_falls bv)) n4 x1_4 (nI i2_4) → lv_has ls 3 [(0, .ref (av 0)), (1, .int x1_4), (2, .int (nI i2_4))] → W p l e rmX6_unlikelyOnes s m args below meth c s.heap [] 0 0 Q (F0 m 4 ls []) := by
    intro n4
    induction n4 with
    | zero =>
      intro x1_4 i2_4 ls hi2_4 hn hE hl
      exact absurd hn (by omega)
    | succ n4 ih4 =>
      intro x1_4 i2_4 ls hi2_4 hn hE hl
      have hE := hE.trans (FX6_unlikelyOnes_4.eq_2 _ _ _ _ _ _ _ _ _ _)
      refine lv_iload_n hx hb dX6_unlikelyOnes_4 rfl (lv_at hl 2 rfl) ?_
      refine lv_bipush (v := 20) hx hb dX6_unlikelyOnes_5 (by decide) ?_
      refine lv_icmp_ge (tgt := 54) hx hb dX6_unlikelyOnes_7 (by decide) (fun c7 => ?_) (fun c7 => ?_)
      · have hE := hE.trans (if_pos c7)
        exact hB54 x1_4 _ hE (lv_sub hl [0, 1] rfl)
      · have hE := hE.trans (if_neg c7)
        have hl2_4 : i2_4 < 20 := zlt (N := 20) rfl (by omega) (by omega) c7
        refine lv_aload_n hx hb dX6_unlikelyOnes_10 rfl (lv_at hl 0 rfl) ?_
        refine lv_iload_n hx hb dX6_unlikelyOnes_11 rfl (lv_at hl 2 rfl) ?_
        obtain ⟨t12, ht12⟩ : ∃ z, FX6_unfallen (g6_forwardFor bv) (g6_falls bv) (nI i2_4) = z := ⟨_, rfl⟩
        have hE := hE.trans (bnd_eq ht12)
        have hc := c_X6_unfallen l G av bv (nI i2_4) ((vp_in_nI (by omega) (by omega))) _ ht12
        refine zgoR (va_runV (As := [.int (nI i2_4)]) (rest := []) S (hc _) (cwV 1 S.2.2.2.2 gX6_unlikelyOnes_X6_unfallen rfl rfl rfl (by decide +kernel) ⟨Nat.le_of_ble_eq_true rfl, Nat.le_of_ble_eq_true rfl⟩) (zpV hK hP hD (is := [0]) rfl rfl 0 rfl rfl (ci := 6) rfl) rfl rfl hl.1 rfl (lv_room (Nat.le_of_ble_eq_true rfl)) dX6_unlikelyOnes_12 ⟨Nat.zero_le _, Nat.zero_le _⟩) (fun hn12 => ?_)
        have hB42 : ∀ (ls : Array Slot), T = FX6_unlikelyOnes_42 (g6_known bv) (g6_forwardFor bv) (g6_allFor bv) (g6_above bv) (g6_applies bv) (g6_falls bv) (fun x1_4' x2_4' => FX6_unlikelyOnes_4 (g6_known bv) (g6_forwardFor bv) (g6_allFor bv) (g6_above bv) (g6_applies bv) (g6_falls bv) (FX6_unlikelyOnes_54 (g6_known bv) (g6_forwardFor bv) (g6_allFor bv) (g6_above bv) (g6_applies bv) (g6_falls bv)) n4 x1_4' x2_4') (FX6_unlikelyOnes_54 (g6_known bv) (g6_forwardFor bv) (g6_allFor bv) (g6_above bv) (g6_applies bv) (g6_falls bv)) x1_4 (nI i2_4) → lv_has ls 3 [(0, .ref (av 0)), (1, .int x1_4), (2, .int (nI i2_4))] → W p l e rmX6_unlikelyOnes s m args below meth c s.heap [] 0 0 Q (F0 m 42 ls []) := by
          intro ls hE hl
          have hE := hE.trans (FX6_unlikelyOnes_42.eq_1 _ _ _ _ _ _ _ _ _ _)
          refine lv_iload_n hx hb dX6_unlikelyOnes_42 rfl (lv_at hl 1 rfl) ?_
          refine lv_iconst (v := 1) hx hb dX6_unlikelyOnes_43 (by decide) ?_
          refine lv_iload_n hx hb dX6_unlikelyOnes_44 rfl (lv_at hl 2 rfl) ?_
          refine lv_ishl hx hb dX6_unlikelyOnes_45 ?_
          refine lv_ior hx hb dX6_unlikelyOnes_46 ?_
          refine lv_istore_n (lv' := [(1, .int (x1_4 ||| (1 <<< ((nI i2_4) &&& 31)))), (0, .ref (av 0)), (2, .int (nI i2_4))]) hx hb dX6_unlikelyOnes_47 rfl hl (by decide) rfl (fun ls hl => ?_)
          refine lv_iinc (v := (nI (i2_4 + 1))) (lv' := [(2, .int (nI (i2_4 + 1))), (1, .int (x1_4 ||| (1 <<< ((nI i2_4) &&& 31)))), (0, .ref (av 0))]) hx hb dX6_unlikelyOnes_48 hl (k := 2) rfl (nI_1 i2_4) (by decide) rfl (fun ls hl => ?_)
          try rw [nI_1 i2_4] at hE
          refine lv_goto (tgt := 4) hx hb dX6_unlikelyOnes_51 (by decide) ?_
          exact ih4 (x1_4 ||| (1 <<< ((nI i2_4) &&& 31))) (i2_4 + 1) _ (by first | assumption | omega) (by omega) hE (lv_sub hl [2, 1, 0] rfl)
        refine lv_if_eq (tgt := 42) hx hb dX6_unlikelyOnes_15 (by decide) (fun c15 => ?_) (fun c15 => ?_)
        · have hE := hE.trans (if_pos c15)
          exact hB42 _ hE (lv_sub hl [0, 1, 2] rfl)
        · have hE := hE.trans (if_neg c15)
          refine lv_aload_n hx hb dX6_unlikelyOnes_18 rfl (lv_at hl 0 rfl) ?_
          refine zg6_known S in_X6_unlikelyOnes_6 hK hP 0 rfl (List.mem_of_getElem? (i := 1) rfl) dX6_unlikelyOnes_19 ?_
          refine lv_iconst (v := 0) hx hb dX6_unlikelyOnes_22 (by decide) ?_
          refine zl6_known S hK hP 0 rfl (zin_k (n := 0) rfl (by decide) (by decide)) (f := (g6_known bv)) rfl dX6_unlikelyOnes_23 ?_
          refine lv_iload_n hx hb dX6_unlikelyOnes_24 rfl (lv_at hl 2 rfl) ?_
          obtain ⟨t25, ht25⟩ : ∃ z, FX8_otherOf (nI i2_4) = z := ⟨_, rfl⟩
          have hE := hE.trans (bnd_eq ht25)
          have hc := c_X8_otherOf l G (nI i2_4) _ ht25
          refine zgoR (va_runSN (As := [.int (nI i2_4)]) (rest := [.int ((g6_known bv) (0 : Int32).toNatClampNeg)]) S (hc _) ⟨va_cnB (host := "RuleCourt") 1 S.2.2.2.2 gX6_unlikelyOnes_X8_otherOf_n107 rfl rfl rfl (hK.2 _ (List.mem_of_getElem? (i := 2) rfl)) (S.2.2.2.2 _ (List.mem_of_getElem? (i := 10) rfl)) (by decide +kernel) ⟨Nat.le_of_ble_eq_true rfl, Nat.le_of_ble_eq_true rfl⟩, S.2.2.2.2 _ (List.mem_of_getElem? (i := 9) rfl), trivial⟩ (zpS hK hP hD (is := []) rfl rfl) rfl rfl hl.1 rfl (lv_room (Nat.le_of_ble_eq_true rfl)) dX6_unlikelyOnes_25 ⟨Nat.zero_le _, Nat.zero_le _⟩) (fun hn25 => ?_)
          obtain ⟨t28, ht28⟩ : ∃ z, FX8_has ((g6_known bv) (0 : Int32).toNatClampNeg) t25 = z := ⟨_, rfl⟩
          have hE := hE.trans (bnd_eq ht28)
          have hc := c_X8_has l G ((g6_known bv) (0 : Int32).toNatClampNeg) t25 _ ht28
          refine zgoR (va_runSN (As := [.int ((g6_known bv) (0 : Int32).toNatClampNeg), .int t25]) (rest := []) S (hc _) ⟨va_cnB (host := "RuleCourt") 2 S.2.2.2.2 gX6_unlikelyOnes_X8_has_n68 rfl rfl rfl (hK.2 _ (List.mem_of_getElem? (i := 1) rfl)) (S.2.2.2.2 _ (List.mem_of_getElem? (i := 10) rfl)) (by decide +kernel) ⟨Nat.le_of_ble_eq_true rfl, Nat.le_of_ble_eq_true rfl⟩, S.2.2.2.2 _ (List.mem_of_getElem? (i := 12) rfl), trivial⟩ (zpS hK hP hD (is := []) rfl rfl) rfl rfl hl.1 rfl (lv_room (Nat.le_of_ble_eq_true rfl)) dX6_unlikelyOnes_28 ⟨Nat.zero_le _, Nat.zero_le _⟩) (fun hn28 => ?_)
          refine lv_if_ne (tgt := 42) hx hb dX6_unlikelyOnes_31 (by decide) (fun c31 => ?_) (fun c31 => ?_)
          · have hE := hE.trans (if_neg c31)
            exact hB42 _ hE (lv_sub hl [0, 1, 2] rfl)
          · have hE := hE.trans (if_pos c31)
            refine lv_aload_n hx hb dX6_unlikelyOnes_34 rfl (lv_at hl 0 rfl) ?_
            refine lv_iload_n hx hb dX6_unlikelyOnes_35 rfl (lv_at hl 2 rfl) ?_
            obtain ⟨t36, ht36⟩ : ∃ z, FX6_victors (g6_forwardFor bv) (g6_allFor bv) (g6_above bv) (g6_applies bv) (g6_falls bv) (nI i2_4) = z := ⟨_, rfl⟩
            have hE := hE.trans (bnd_eq ht36)
            have hc := c_X6_victors l G av bv (nI i2_4) ((vp_in_nI (by omega) (by omega))) _ ht36
            refine zgoR (va_runV (As := [.int (nI i2_4)]) (rest := []) S (hc _) (cwV 1 S.2.2.2.2 gX6_unlikelyOnes_X6_victors rfl rfl rfl (by decide +kernel) ⟨Nat.le_of_ble_eq_true rfl, Nat.le_of_ble_eq_true rfl⟩) (zpV hK hP hD (is := [0]) rfl rfl 0 rfl rfl (ci := 6) rfl) rfl rfl hl.1 rfl (lv_room (Nat.le_of_ble_eq_true rfl)) dX6_unlikelyOnes_36 ⟨Nat.zero_le _, Nat.zero_le _⟩) (fun hn36 => ?_)
            refine lv_if_eq (tgt := 48) hx hb dX6_unlikelyOnes_39 (by decide) (fun c39 => ?_) (fun c39 => ?_)
            · have hE := hE.trans (if_pos c39)
              refine lv_iinc (v := (nI (i2_4 + 1))) (lv' := [(2, .int (nI (i2_4 + 1))), (0, .ref (av 0)), (1, .int x1_4)]) hx hb dX6_unlikelyOnes_48 hl (k := 2) rfl (nI_1 i2_4) (by decide) rfl (fun ls hl => ?_)
              try rw [nI_1 i2_4] at hE
              refine lv_goto (tgt := 4) hx hb dX6_unlikelyOnes_51 (by decide) ?_
              exact ih4 x1_4 (i2_4 + 1) _ (by first | assumption | omega) (by omega) hE (lv_sub hl [1, 2, 0] rfl)
            · have hE := hE.trans (if_neg c39)
              exact hB42 _ hE (lv_sub hl [0, 1, 2] rfl)
  refine lv_istore_n (lv' := [(2, .int 0), (1, .int 0), (0, .ref (av 0))]) hx hb dX6_unlikelyOnes_3 rfl hl (by decide) rfl (fun ls hl => ?_)
  exact hB4 21 0 0 _ (by first | assumption | omega) (by omega) hE (lv_sub hl [2, 1, 0] rfl)

theorem in_X6_brings_6 : ∀ w ∈ u_ws RX6 TX6 12, w ∈ wsX6_brings := by decide +kernel
def rmX6_brings : Room := { frames := 3, cells := 0, slots := 0, locals := 66 }
set_option maxHeartbeats 4000000 in
set_option maxRecDepth 100000 in
theorem c_X6_brings (l : Launch) (G : zG) (av : Nat → Nat) (bv : S6) (T : Int32 × (Nat → Int32)) (hT : FX6_brings (g6_known bv) (g6_fresh bv) (g6_strictFor bv) (g6_forwardFor bv) (g6_allFor bv) (g6_above bv) (g6_facts bv) (g6_applies bv) (g6_falls bv) (g6_sureBodies bv) (g6_neverBodies bv) = T) : zI l yX6_brings wsX6_brings rmX6_brings .boolean G [.ref (av 0)] [w6 G av bv] T.1 [w6 G av (s6_fresh bv T.2)] := by
  refine zI.mk (cc := cX6_brings) (maxL := 1) (by decide +kernel) rfl (Nat.le_of_ble_eq_true rfl) (zfl_cons (wf6 _ _ _ _) rfl) ?_
  intro p e s m args below meth c Q A ls S hK hD hA hP hl hret
  have hx := S.1
  have hb := S.2.1
  have hS : va_S A s.heap s.heap [] := va_S.rf
  have hl : lv_has ls 1 [(0, .ref (av 0))] := hl
  have hE := hT.symm.trans (FX6_brings.eq_1 _ _ _ _ _ _ _ _ _ _ _)
  refine lv_aload_n hx hb dX6_brings_0 rfl (lv_at hl 0 rfl) ?_
  refine zg6_fresh S in_X6_brings_6 hK hP 0 rfl (List.mem_of_getElem? (i := 1) rfl) dX6_brings_1 ?_
  refine lv_iconst (v := 0) hx hb dX6_brings_4 (by decide) ?_
  refine lv_aload_n hx hb dX6_brings_5 rfl (lv_at hl 0 rfl) ?_
  obtain ⟨t6, ht6⟩ : ∃ z, FX6_sureOnes (g6_strictFor bv) (g6_facts bv) (g6_sureBodies bv) = z := ⟨_, rfl⟩
  have hE := hE.trans (bnd_eq ht6)
  have hc := c_X6_sureOnes l G av bv _ ht6
  refine zgoR (va_runV (As := []) (rest := [.int 0, .ref (av 2)]) S (hc _) (cwV 0 S.2.2.2.2 gX6_brings_X6_sureOnes rfl rfl rfl (by decide +kernel) ⟨Nat.le_of_ble_eq_true rfl, Nat.le_of_ble_eq_true rfl⟩) (zpV hK hP hD (is := [0]) rfl rfl 0 rfl rfl (ci := 6) rfl) rfl rfl hl.1 rfl (lv_room (Nat.le_of_ble_eq_true rfl)) dX6_brings_6 ⟨Nat.zero_le _, Nat.zero_le _⟩) (fun hn6 => ?_)
  refine lv_aload_n hx hb dX6_brings_9 rfl (lv_at hl 0 rfl) ?_
  refine zg6_known S in_X6_brings_6 hK hP 0 rfl (List.mem_of_getElem? (i := 2) rfl) dX6_brings_10 ?_
  refine lv_iconst (v := 0) hx hb dX6_brings_13 (by decide) ?_
  refine zl6_known S hK hP 0 rfl (zin_k (n := 0) rfl (by decide) (by decide)) (f := (g6_known bv)) rfl dX6_brings_14 ?_
  refine lv_iconst (v := (-1)) hx hb dX6_brings_15 (by decide) ?_
  refine lv_ixor hx hb dX6_brings_16 ?_
  refine lv_iand hx hb dX6_brings_17 ?_
  refine zs6_fresh (bs1 := [w6 G av (s6_fresh bv (upd (g6_fresh bv) (0 : Int32).toNatClampNeg (t6 &&& (((g6_known bv) (0 : Int32).toNatClampNeg) ^^^ (-1)))))]) S hK hP hD hS 0 rfl (zin_k (n := 0) rfl (by decide) (by decide)) (f := (g6_fresh bv)) rfl dX6_brings_18 rfl (fun H locs hP hD hS => ?_)
  obtain ⟨u18, hu18⟩ : ∃ z, upd (g6_fresh bv) (0 : Int32).toNatClampNeg (t6 &&& (((g6_known bv) (0 : Int32).toNatClampNeg) ^^^ (-1))) = z := ⟨_, rfl⟩
  rw [hu18] at hP hD
  have hE := hE.trans (bnd_eq hu18)
  refine lv_aload_n hx hb dX6_brings_19 rfl (lv_at hl 0 rfl) ?_
  refine zg6_fresh S in_X6_brings_6 hK hP 0 rfl (List.mem_of_getElem? (i := 1) rfl) dX6_brings_20 ?_
  refine lv_iconst (v := 1) hx hb dX6_brings_23 (by decide) ?_
  refine lv_aload_n hx hb dX6_brings_24 rfl (lv_at hl 0 rfl) ?_
  obtain ⟨t25, ht25⟩ : ∃ z, FX6_neverOnes (g6_strictFor bv) (g6_facts bv) (g6_neverBodies bv) = z := ⟨_, rfl⟩
  have hE := hE.trans (bnd_eq ht25)
  have hc := c_X6_neverOnes l G av (s6_fresh bv u18) _ (by simp only [gs6_strictFor_fresh, gs6_facts_fresh, gs6_neverBodies_fresh]; exact ht25)
  refine zgoR (va_runV (As := []) (rest := [.int 1, .ref (av 2)]) S (hc _) (cwV 0 S.2.2.2.2 gX6_brings_X6_neverOnes rfl rfl rfl (by decide +kernel) ⟨Nat.le_of_ble_eq_true rfl, Nat.le_of_ble_eq_true rfl⟩) (zpV hK hP hD (is := [0]) rfl rfl 0 rfl rfl (ci := 6) rfl) rfl rfl hl.1 rfl (lv_room (Nat.le_of_ble_eq_true rfl)) dX6_brings_25 ⟨Nat.zero_le _, Nat.zero_le _⟩) (fun hn25 => ?_)
  refine lv_aload_n hx hb dX6_brings_28 rfl (lv_at hl 0 rfl) ?_
  refine zg6_known S in_X6_brings_6 hK hP 0 rfl (List.mem_of_getElem? (i := 2) rfl) dX6_brings_29 ?_
  refine lv_iconst (v := 1) hx hb dX6_brings_32 (by decide) ?_
  refine zl6_known S hK hP 0 rfl (zin_k (n := 1) rfl (by decide) (by decide)) (f := (g6_known bv)) (gs6_known_fresh _ u18) dX6_brings_33 ?_
  refine lv_iconst (v := (-1)) hx hb dX6_brings_34 (by decide) ?_
  refine lv_ixor hx hb dX6_brings_35 ?_
  refine lv_iand hx hb dX6_brings_36 ?_
  refine zs6_fresh (bs1 := [w6 G av (s6_fresh (s6_fresh bv u18) (upd u18 (1 : Int32).toNatClampNeg (t25 &&& (((g6_known bv) (1 : Int32).toNatClampNeg) ^^^ (-1)))))]) S hK hP hD hS 0 rfl (zin_k (n := 1) rfl (by decide) (by decide)) (f := u18) (gg6_fresh _ u18) dX6_brings_37 rfl (fun H locs hP hD hS => ?_)
  obtain ⟨u37, hu37⟩ : ∃ z, upd u18 (1 : Int32).toNatClampNeg (t25 &&& (((g6_known bv) (1 : Int32).toNatClampNeg) ^^^ (-1))) = z := ⟨_, rfl⟩
  rw [hu37] at hP hD
  have hE := hE.trans (bnd_eq hu37)
  refine lv_aload_n hx hb dX6_brings_38 rfl (lv_at hl 0 rfl) ?_
  refine zg6_fresh S in_X6_brings_6 hK hP 0 rfl (List.mem_of_getElem? (i := 1) rfl) dX6_brings_39 ?_
  refine lv_iconst (v := 2) hx hb dX6_brings_42 (by decide) ?_
  refine lv_aload_n hx hb dX6_brings_43 rfl (lv_at hl 0 rfl) ?_
  obtain ⟨t44, ht44⟩ : ∃ z, FX6_likelyOnes (g6_known bv) (g6_forwardFor bv) (g6_allFor bv) (g6_above bv) (g6_applies bv) (g6_falls bv) = z := ⟨_, rfl⟩
  have hE := hE.trans (bnd_eq ht44)
  have hc := c_X6_likelyOnes l G av (s6_fresh (s6_fresh bv u18) u37) _ (by simp only [gs6_known_fresh, gs6_forwardFor_fresh, gs6_allFor_fresh, gs6_above_fresh, gs6_applies_fresh, gs6_falls_fresh]; exact ht44)
  refine zgoR (va_runV (As := []) (rest := [.int 2, .ref (av 2)]) S (hc _) (cwV 0 S.2.2.2.2 gX6_brings_X6_likelyOnes rfl rfl rfl (by decide +kernel) ⟨Nat.le_of_ble_eq_true rfl, Nat.le_of_ble_eq_true rfl⟩) (zpV hK hP hD (is := [0]) rfl rfl 0 rfl rfl (ci := 6) rfl) rfl rfl hl.1 rfl (lv_room (Nat.le_of_ble_eq_true rfl)) dX6_brings_44 ⟨Nat.zero_le _, Nat.zero_le _⟩) (fun hn44 => ?_)
  refine lv_aload_n hx hb dX6_brings_47 rfl (lv_at hl 0 rfl) ?_
  refine zg6_known S in_X6_brings_6 hK hP 0 rfl (List.mem_of_getElem? (i := 2) rfl) dX6_brings_48 ?_
  refine lv_iconst (v := 2) hx hb dX6_brings_51 (by decide) ?_
  refine zl6_known S hK hP 0 rfl (zin_k (n := 2) rfl (by decide) (by decide)) (f := (g6_known bv)) ((gs6_known_fresh _ u37).trans (gs6_known_fresh _ u18)) dX6_brings_52 ?_
  refine lv_iconst (v := (-1)) hx hb dX6_brings_53 (by decide) ?_
  refine lv_ixor hx hb dX6_brings_54 ?_
  refine lv_iand hx hb dX6_brings_55 ?_
  refine zs6_fresh (bs1 := [w6 G av (s6_fresh (s6_fresh (s6_fresh bv u18) u37) (upd u37 (2 : Int32).toNatClampNeg (t44 &&& (((g6_known bv) (2 : Int32).toNatClampNeg) ^^^ (-1)))))]) S hK hP hD hS 0 rfl (zin_k (n := 2) rfl (by decide) (by decide)) (f := u37) (gg6_fresh _ u37) dX6_brings_56 rfl (fun H locs hP hD hS => ?_)
  obtain ⟨u56, hu56⟩ : ∃ z, upd u37 (2 : Int32).toNatClampNeg (t44 &&& (((g6_known bv) (2 : Int32).toNatClampNeg) ^^^ (-1))) = z := ⟨_, rfl⟩
  rw [hu56] at hP hD
  have hE := hE.trans (bnd_eq hu56)
  refine lv_aload_n hx hb dX6_brings_57 rfl (lv_at hl 0 rfl) ?_
  refine zg6_fresh S in_X6_brings_6 hK hP 0 rfl (List.mem_of_getElem? (i := 1) rfl) dX6_brings_58 ?_
  refine lv_iconst (v := 3) hx hb dX6_brings_61 (by decide) ?_
  refine lv_aload_n hx hb dX6_brings_62 rfl (lv_at hl 0 rfl) ?_
  obtain ⟨t63, ht63⟩ : ∃ z, FX6_unlikelyOnes (g6_known bv) (g6_forwardFor bv) (g6_allFor bv) (g6_above bv) (g6_applies bv) (g6_falls bv) = z := ⟨_, rfl⟩
  have hE := hE.trans (bnd_eq ht63)
  have hc := c_X6_unlikelyOnes l G av (s6_fresh (s6_fresh (s6_fresh bv u18) u37) u56) _ (by simp only [gs6_known_fresh, gs6_forwardFor_fresh, gs6_allFor_fresh, gs6_above_fresh, gs6_applies_fresh, gs6_falls_fresh]; exact ht63)
  refine zgoR (va_runV (As := []) (rest := [.int 3, .ref (av 2)]) S (hc _) (cwV 0 S.2.2.2.2 gX6_brings_X6_unlikelyOnes rfl rfl rfl (by decide +kernel) ⟨Nat.le_of_ble_eq_true rfl, Nat.le_of_ble_eq_true rfl⟩) (zpV hK hP hD (is := [0]) rfl rfl 0 rfl rfl (ci := 6) rfl) rfl rfl hl.1 rfl (lv_room (Nat.le_of_ble_eq_true rfl)) dX6_brings_63 ⟨Nat.zero_le _, Nat.zero_le _⟩) (fun hn63 => ?_)
  refine lv_aload_n hx hb dX6_brings_66 rfl (lv_at hl 0 rfl) ?_
  refine zg6_known S in_X6_brings_6 hK hP 0 rfl (List.mem_of_getElem? (i := 2) rfl) dX6_brings_67 ?_
  refine lv_iconst (v := 3) hx hb dX6_brings_70 (by decide) ?_
  refine zl6_known S hK hP 0 rfl (zin_k (n := 3) rfl (by decide) (by decide)) (f := (g6_known bv)) ((gs6_known_fresh _ u56).trans ((gs6_known_fresh _ u37).trans (gs6_known_fresh _ u18))) dX6_brings_71 ?_
  refine lv_iconst (v := (-1)) hx hb dX6_brings_72 (by decide) ?_
  refine lv_ixor hx hb dX6_brings_73 ?_
  refine lv_iand hx hb dX6_brings_74 ?_
  refine zs6_fresh (bs1 := [w6 G av (s6_fresh (s6_fresh (s6_fresh (s6_fresh bv u18) u37) u56) (upd u56 (3 : Int32).toNatClampNeg (t63 &&& (((g6_known bv) (3 : Int32).toNatClampNeg) ^^^ (-1)))))]) S hK hP hD hS 0 rfl (zin_k (n := 3) rfl (by decide) (by decide)) (f := u56) (gg6_fresh _ u56) dX6_brings_75 rfl (fun H locs hP hD hS => ?_)
  obtain ⟨u75, hu75⟩ : ∃ z, upd u56 (3 : Int32).toNatClampNeg (t63 &&& (((g6_known bv) (3 : Int32).toNatClampNeg) ^^^ (-1))) = z := ⟨_, rfl⟩
  rw [hu75] at hP hD
  have hE := hE.trans (bnd_eq hu75)
  refine lv_aload_n hx hb dX6_brings_76 rfl (lv_at hl 0 rfl) ?_
  refine zg6_fresh S in_X6_brings_6 hK hP 0 rfl (List.mem_of_getElem? (i := 1) rfl) dX6_brings_77 ?_
  refine lv_iconst (v := 0) hx hb dX6_brings_80 (by decide) ?_
  refine zl6_fresh S hK hP 0 rfl (zin_k (n := 0) rfl (by decide) (by decide)) (f := u75) (gg6_fresh _ u75) dX6_brings_81 ?_
  refine lv_aload_n hx hb dX6_brings_82 rfl (lv_at hl 0 rfl) ?_
  refine zg6_fresh S in_X6_brings_6 hK hP 0 rfl (List.mem_of_getElem? (i := 1) rfl) dX6_brings_83 ?_
  refine lv_iconst (v := 1) hx hb dX6_brings_86 (by decide) ?_
  refine zl6_fresh S hK hP 0 rfl (zin_k (n := 1) rfl (by decide) (by decide)) (f := u75) (gg6_fresh _ u75) dX6_brings_87 ?_
  refine lv_ior hx hb dX6_brings_88 ?_
  refine lv_aload_n hx hb dX6_brings_89 rfl (lv_at hl 0 rfl) ?_
  refine zg6_fresh S in_X6_brings_6 hK hP 0 rfl (List.mem_of_getElem? (i := 1) rfl) dX6_brings_90 ?_
  refine lv_iconst (v := 2) hx hb dX6_brings_93 (by decide) ?_
  refine zl6_fresh S hK hP 0 rfl (zin_k (n := 2) rfl (by decide) (by decide)) (f := u75) (gg6_fresh _ u75) dX6_brings_94 ?_
  refine lv_ior hx hb dX6_brings_95 ?_
  refine lv_aload_n hx hb dX6_brings_96 rfl (lv_at hl 0 rfl) ?_
  refine zg6_fresh S in_X6_brings_6 hK hP 0 rfl (List.mem_of_getElem? (i := 1) rfl) dX6_brings_97 ?_
  refine lv_iconst (v := 3) hx hb dX6_brings_100 (by decide) ?_
  refine zl6_fresh S hK hP 0 rfl (zin_k (n := 3) rfl (by decide) (by decide)) (f := u75) (gg6_fresh _ u75) dX6_brings_101 ?_
  refine lv_ior hx hb dX6_brings_102 ?_
  refine lv_if_eq (tgt := 110) hx hb dX6_brings_103 (by decide) (fun c103 => ?_) (fun c103 => ?_)
  · have hE := hE.trans (if_pos c103)
    refine lv_iconst (v := 0) hx hb dX6_brings_110 (by decide) ?_
    rw [show (s6_fresh (s6_fresh (s6_fresh (s6_fresh bv u18) u37) u56) u75) = (s6_fresh bv u75) from ((congrArg (fun z => s6_fresh z u75) ((congrArg (fun z => s6_fresh z u56) (ss6_fresh _ u18 u37)).trans (ss6_fresh _ u37 u56))).trans (ss6_fresh _ u56 u75))] at hP hD
    exact hret _ _ _ _ _ _ (by subst hE; rfl) zn0 hP hS dX6_brings_111
  · have hE := hE.trans (if_neg c103)
    refine lv_iconst (v := 1) hx hb dX6_brings_106 (by decide) ?_
    refine lv_goto (tgt := 111) hx hb dX6_brings_107 (by decide) ?_
    rw [show (s6_fresh (s6_fresh (s6_fresh (s6_fresh bv u18) u37) u56) u75) = (s6_fresh bv u75) from ((congrArg (fun z => s6_fresh z u75) ((congrArg (fun z => s6_fresh z u56) (ss6_fresh _ u18 u37)).trans (ss6_fresh _ u37 u56))).trans (ss6_fresh _ u56 u75))] at hP hD
    exact hret _ _ _ _ _ _ (by subst hE; rfl) zn1 hP hS dX6_brings_111

theorem in_X6_missing_6 : ∀ w ∈ u_ws RX6 TX6 12, w ∈ wsX6_missing := by decide +kernel
def rmX6_missing : Room := { frames := 0, cells := 0, slots := 0, locals := 0 }
set_option maxHeartbeats 4000000 in
set_option maxRecDepth 100000 in
theorem c_X6_missing (l : Launch) (G : zG) (av : Nat → Nat) (bv : S6) (T : Int32) (hT : FX6_missing (g6_known bv) = T) : zR l yX6_missing wsX6_missing rmX6_missing .int G [.ref (av 0)] [w6 G av bv] T := by
  refine zR.mk (cc := cX6_missing) (maxL := 1) (by decide +kernel) rfl (Nat.le_of_ble_eq_true rfl) ?_
  intro p e s m args below meth c Q A ls S hK hD hA hP hl hret
  have hx := S.1
  have hb := S.2.1
  have hl : lv_has ls 1 [(0, .ref (av 0))] := hl
  have hE := hT.symm.trans (FX6_missing.eq_1 _)
  refine lv_ldc (v := 1048575) hx hb S.2.2.2.1 (S.2.2.2.2 _ (List.mem_of_getElem? (i := 1) rfl)) dX6_missing_0 ?_
  refine lv_aload_n hx hb dX6_missing_2 rfl (lv_at hl 0 rfl) ?_
  refine zg6_known S in_X6_missing_6 hK hP 0 rfl (List.mem_of_getElem? (i := 2) rfl) dX6_missing_3 ?_
  refine lv_iconst (v := 2) hx hb dX6_missing_6 (by decide) ?_
  refine zl6_known S hK hP 0 rfl (zin_k (n := 2) rfl (by decide) (by decide)) (f := (g6_known bv)) rfl dX6_missing_7 ?_
  refine lv_aload_n hx hb dX6_missing_8 rfl (lv_at hl 0 rfl) ?_
  refine zg6_known S in_X6_missing_6 hK hP 0 rfl (List.mem_of_getElem? (i := 2) rfl) dX6_missing_9 ?_
  refine lv_iconst (v := 3) hx hb dX6_missing_12 (by decide) ?_
  refine zl6_known S hK hP 0 rfl (zin_k (n := 3) rfl (by decide) (by decide)) (f := (g6_known bv)) rfl dX6_missing_13 ?_
  refine lv_ior hx hb dX6_missing_14 ?_
  refine lv_iconst (v := (-1)) hx hb dX6_missing_15 (by decide) ?_
  refine lv_ixor hx hb dX6_missing_16 ?_
  refine lv_iand hx hb dX6_missing_17 ?_
  exact hret _ _ _ hE rfl dX6_missing_18

theorem in_X6_likelyBothWays_6 : ∀ w ∈ u_ws RX6 TX6 12, w ∈ wsX6_likelyBothWays := by decide +kernel
def rmX6_likelyBothWays : Room := { frames := 0, cells := 0, slots := 0, locals := 0 }
set_option maxHeartbeats 4000000 in
set_option maxRecDepth 100000 in
theorem c_X6_likelyBothWays (l : Launch) (G : zG) (av : Nat → Nat) (bv : S6) (T : Int32) (hT : FX6_likelyBothWays (g6_known bv) = T) : zR l yX6_likelyBothWays wsX6_likelyBothWays rmX6_likelyBothWays .int G [.ref (av 0)] [w6 G av bv] T := by
  refine zR.mk (cc := cX6_likelyBothWays) (maxL := 2) (by decide +kernel) rfl (Nat.le_of_ble_eq_true rfl) ?_
  intro p e s m args below meth c Q A ls S hK hD hA hP hl hret
  have hx := S.1
  have hb := S.2.1
  have hl : lv_has ls 2 [(0, .ref (av 0))] := hl
  have hE := hT.symm.trans (FX6_likelyBothWays.eq_1 _)
  refine lv_aload_n hx hb dX6_likelyBothWays_0 rfl (lv_at hl 0 rfl) ?_
  refine zg6_known S in_X6_likelyBothWays_6 hK hP 0 rfl (List.mem_of_getElem? (i := 1) rfl) dX6_likelyBothWays_1 ?_
  refine lv_iconst (v := 2) hx hb dX6_likelyBothWays_4 (by decide) ?_
  refine zl6_known S hK hP 0 rfl (zin_k (n := 2) rfl (by decide) (by decide)) (f := (g6_known bv)) rfl dX6_likelyBothWays_5 ?_
  refine lv_istore_n (lv' := [(1, .int ((g6_known bv) (2 : Int32).toNatClampNeg)), (0, .ref (av 0))]) hx hb dX6_likelyBothWays_6 rfl hl (by decide) rfl (fun ls hl => ?_)
  refine lv_iload_n hx hb dX6_likelyBothWays_7 rfl (lv_at hl 0 rfl) ?_
  refine lv_iload_n hx hb dX6_likelyBothWays_8 rfl (lv_at hl 0 rfl) ?_
  refine lv_bipush (v := 10) hx hb dX6_likelyBothWays_9 (by decide) ?_
  refine lv_ishl hx hb dX6_likelyBothWays_11 ?_
  refine lv_iload_n hx hb dX6_likelyBothWays_12 rfl (lv_at hl 0 rfl) ?_
  refine lv_bipush (v := 10) hx hb dX6_likelyBothWays_13 (by decide) ?_
  refine lv_ishr hx hb dX6_likelyBothWays_15 ?_
  refine lv_ior hx hb dX6_likelyBothWays_16 ?_
  refine lv_iand hx hb dX6_likelyBothWays_17 ?_
  exact hret _ _ _ hE rfl dX6_likelyBothWays_18

theorem in_X6_circles_6 : ∀ w ∈ u_ws RX6 TX6 12, w ∈ wsX6_circles := by decide +kernel
def rmX6_circles : Room := { frames := 1, cells := 0, slots := 0, locals := 40 }
set_option maxHeartbeats 4000000 in
set_option maxRecDepth 100000 in
theorem c_X6_circles (l : Launch) (G : zG) (av : Nat → Nat) (bv : S6) (T : Int32 × (Nat → Int32)) (hT : FX6_circles (g6_above bv) (g6_reach bv) = T) : zI l yX6_circles wsX6_circles rmX6_circles .int G [.ref (av 0)] [w6 G av bv] T.1 [w6 G av (s6_reach bv T.2)] := by
  refine zI.mk (cc := cX6_circles) (maxL := 3) (by decide +kernel) rfl (Nat.le_of_ble_eq_true rfl) (zfl_cons (wf6 _ _ _ _) rfl) ?_
  intro p e s m args below meth c Q A ls S hK hD hA hP hl hret
  have hx := S.1
  have hb := S.2.1
  have hS : va_S A s.heap s.heap [] := va_S.rf
  have hl : lv_has ls 3 [(0, .ref (av 0))] := hl
  have hE := hT.symm.trans (FX6_circles.eq_1 _ _)
  refine lv_aload_n hx hb dX6_circles_0 rfl (lv_at hl 0 rfl) ?_
  refine zg6_above S in_X6_circles_6 hK hP 0 rfl (List.mem_of_getElem? (i := 1) rfl) dX6_circles_1 ?_
  refine lv_iconst (v := 0) hx hb dX6_circles_4 (by decide) ?_
  refine lv_aload_n hx hb dX6_circles_5 rfl (lv_at hl 0 rfl) ?_
  refine zg6_reach S in_X6_circles_6 hK hP 0 rfl (List.mem_of_getElem? (i := 2) rfl) dX6_circles_6 ?_
  refine lv_iconst (v := 0) hx hb dX6_circles_9 (by decide) ?_
  refine lv_bipush (v := 16) hx hb dX6_circles_10 (by decide) ?_
  refine zcopy (f := (g6_above bv)) (g := (g6_reach bv)) (bs' := [w6 G av (s6_reach bv (va_cpy (g6_above bv) (g6_reach bv) (0 : Int32).toNatClampNeg (0 : Int32).toNatClampNeg (16 : Int32).toNatClampNeg))]) S (List.mem_of_getElem? (i := 3) rfl) (List.mem_of_getElem? (i := 4) rfl) (List.mem_of_getElem? (i := 5) rfl) (List.mem_of_getElem? (i := 6) rfl) hl.1 hK hP hD hS 0 rfl 6 rfl 0 rfl 7 rfl (by decide) (by decide) (by decide) (by decide) (by decide) (pt6_reach _ _ _ _) rfl (Nat.le_of_ble_eq_true rfl) (Nat.le_of_ble_eq_true rfl) dX6_circles_12 (fun H locs hP hD hS => ?_)
  refine lv_iconst (v := 0) hx hb dX6_circles_15 (by decide) ?_
  have hB71 : ∀ (v_reach_71 : Nat → Int32) (H : Heap) (locs : List Loc) (ls : Array Slot), T = FX6_circles_71 (g6_above bv) (g6_reach bv) v_reach_71 → zP G [w6 G av (s6_reach bv v_reach_71)] H → zD A [w6 G av (s6_reach bv v_reach_71)] → va_S A s.heap H locs → lv_has ls 3 [(0, .ref (av 0))] → W p l e rmX6_circles s m args below meth c H locs 0 0 Q (F0 m 71 ls []) := by
    intro v_reach_71 H locs ls hE hP hD hS hl
    have hE := hE.trans (FX6_circles_71.eq_1 _ _ _)
    refine lv_iconst (v := 0) hx hb dX6_circles_71 (by decide) ?_
    refine lv_istore_n (lv' := [(1, .int 0), (0, .ref (av 0))]) hx hb dX6_circles_72 rfl hl (by decide) rfl (fun ls hl => ?_)
    refine lv_iconst (v := 0) hx hb dX6_circles_73 (by decide) ?_
    have hB100 : ∀ (x1_100 : Int32) (H : Heap) (locs : List Loc) (ls : Array Slot), T = FX6_circles_100 (g6_above bv) (g6_reach bv) x1_100 v_reach_71 → zP G [w6 G av (s6_reach bv v_reach_71)] H → zD A [w6 G av (s6_reach bv v_reach_71)] → va_S A s.heap H locs → lv_has ls 3 [(1, .int x1_100)] → W p l e rmX6_circles s m args below meth c H locs 0 0 Q (F0 m 100 ls []) := by
      intro x1_100 H locs ls hE hP hD hS hl
      have hE := hE.trans (FX6_circles_100.eq_1 _ _ _ _)
      refine lv_iload_n hx hb dX6_circles_100 rfl (lv_at hl 0 rfl) ?_
      exact hret _ _ _ _ _ _ (by subst hE; rfl) rfl hP hS dX6_circles_101
    have hB75 : ∀ (n75 : Nat) (x1_75 : Int32) (i2_75 : Nat) (H : Heap) (locs : List Loc) (ls : Array Slot), (i2_75 ≤ 16) → 17 ≤ i2_75 + n75 → T = FX6_circles_75 (g6_above bv) (g6_reach bv) (FX6_circles_100 (g6_above bv) (g6_reach bv)) n75 x1_75 (nI i2_75) v_reach_71 → zP G [w6 G av (s6_reach bv v_reach_71)] H → zD A [w6 G av (s6_reach bv v_reach_71)] → va_S A s.heap H locs → lv_has ls 3 [(0, .ref (av 0)), (1, .int x1_75), (2, .int (nI i2_75))] → W p l e rmX6_circles s m args below meth c H locs 0 0 Q (F0 m 75 ls []) := by
      intro n75
      induction n75 with
      | zero =>
        intro x1_75 i2_75 H locs ls hi2_75 hn hE hP hD hS hl
        exact absurd hn (by omega)
      | succ n75 ih75 =>
        intro x1_75 i2_75 H locs ls hi2_75 hn hE hP hD hS hl
        have hE := hE.trans (FX6_circles_75.eq_2 _ _ _ _ _ _ _)
        refine lv_iload_n hx hb dX6_circles_75 rfl (lv_at hl 2 rfl) ?_
        refine lv_bipush (v := 16) hx hb dX6_circles_76 (by decide) ?_
        refine lv_icmp_ge (tgt := 100) hx hb dX6_circles_78 (by decide) (fun c78 => ?_) (fun c78 => ?_)
        · have hE := hE.trans (if_pos c78)
          exact hB100 x1_75 _ _ _ hE hP hD hS (lv_sub hl [1] rfl)
        · have hE := hE.trans (if_neg c78)
          have hl2_75 : i2_75 < 16 := zlt (N := 16) rfl (by omega) (by omega) c78
          refine lv_iload_n hx hb dX6_circles_81 rfl (lv_at hl 1 rfl) ?_
          refine lv_aload_n hx hb dX6_circles_82 rfl (lv_at hl 0 rfl) ?_
          refine zg6_reach S in_X6_circles_6 hK hP 0 rfl (List.mem_of_getElem? (i := 2) rfl) dX6_circles_83 ?_
          refine lv_iload_n hx hb dX6_circles_86 rfl (lv_at hl 2 rfl) ?_
          refine zl6_reach S hK hP 0 rfl (vp_in_nI (by omega) (by omega)) (f := v_reach_71) (gg6_reach _ v_reach_71) dX6_circles_87 ?_
          refine lv_iconst (v := 1) hx hb dX6_circles_88 (by decide) ?_
          refine lv_iload_n hx hb dX6_circles_89 rfl (lv_at hl 2 rfl) ?_
          refine lv_ishl hx hb dX6_circles_90 ?_
          refine lv_iand hx hb dX6_circles_91 ?_
          refine lv_ior hx hb dX6_circles_92 ?_
          refine lv_istore_n (lv' := [(1, .int (x1_75 ||| ((v_reach_71 (nI i2_75).toNatClampNeg) &&& (1 <<< ((nI i2_75) &&& 31))))), (0, .ref (av 0)), (2, .int (nI i2_75))]) hx hb dX6_circles_93 rfl hl (by decide) rfl (fun ls hl => ?_)
          refine lv_iinc (v := (nI (i2_75 + 1))) (lv' := [(2, .int (nI (i2_75 + 1))), (1, .int (x1_75 ||| ((v_reach_71 (nI i2_75).toNatClampNeg) &&& (1 <<< ((nI i2_75) &&& 31))))), (0, .ref (av 0))]) hx hb dX6_circles_94 hl (k := 2) rfl (nI_1 i2_75) (by decide) rfl (fun ls hl => ?_)
          try rw [nI_1 i2_75] at hE
          refine lv_goto (tgt := 75) hx hb dX6_circles_97 (by decide) ?_
          exact ih75 (x1_75 ||| ((v_reach_71 (nI i2_75).toNatClampNeg) &&& (1 <<< ((nI i2_75) &&& 31)))) (i2_75 + 1) _ _ _ (by first | assumption | omega) (by omega) hE hP hD hS (lv_sub hl [2, 1, 0] rfl)
    refine lv_istore_n (lv' := [(2, .int 0), (1, .int 0), (0, .ref (av 0))]) hx hb dX6_circles_74 rfl hl (by decide) rfl (fun ls hl => ?_)
    exact hB75 17 0 0 _ _ _ (by first | assumption | omega) (by omega) hE hP hD hS (lv_sub hl [2, 1, 0] rfl)
  have hB17 : ∀ (n17 : Nat) (i1_17 : Nat) (v_reach_17 : Nat → Int32) (H : Heap) (locs : List Loc) (ls : Array Slot), (i1_17 ≤ 16) → 17 ≤ i1_17 + n17 → T = FX6_circles_17 (g6_above bv) (g6_reach bv) (FX6_circles_71 (g6_above bv) (g6_reach bv)) n17 (nI i1_17) v_reach_17 → zP G [w6 G av (s6_reach bv v_reach_17)] H → zD A [w6 G av (s6_reach bv v_reach_17)] → va_S A s.heap H locs → lv_has ls 3 [(0, .ref (av 0)), (1, .int (nI i1_17))] → W p l e rmX6_circles s m args below meth c H locs 0 0 Q (F0 m 17 ls []) := by
    intro n17
    induction n17 with
    | zero =>
      intro i1_17 v_reach_17 H locs ls hi1_17 hn hE hP hD hS hl
      exact absurd hn (by omega)
    | succ n17 ih17 =>
      intro i1_17 v_reach_17 H locs ls hi1_17 hn hE hP hD hS hl
      have hE := hE.trans (FX6_circles_17.eq_2 _ _ _ _ _ _)
      refine lv_iload_n hx hb dX6_circles_17 rfl (lv_at hl 1 rfl) ?_
      refine lv_bipush (v := 16) hx hb dX6_circles_18 (by decide) ?_
      refine lv_icmp_ge (tgt := 71) hx hb dX6_circles_20 (by decide) (fun c20 => ?_) (fun c20 => ?_)
      · have hE := hE.trans (if_pos c20)
        exact hB71 v_reach_17 _ _ _ hE hP hD hS (lv_sub hl [0] rfl)
      · have hE := hE.trans (if_neg c20)
        have hl1_17 : i1_17 < 16 := zlt (N := 16) rfl (by omega) (by omega) c20
        refine lv_iconst (v := 0) hx hb dX6_circles_23 (by decide) ?_
        have hB65 : ∀ (v_reach_65 : Nat → Int32) (H : Heap) (locs : List Loc) (ls : Array Slot), T = FX6_circles_65 (g6_above bv) (g6_reach bv) (fun x1_17' v_reach_17' => FX6_circles_17 (g6_above bv) (g6_reach bv) (FX6_circles_71 (g6_above bv) (g6_reach bv)) n17 x1_17' v_reach_17') (FX6_circles_71 (g6_above bv) (g6_reach bv)) (nI i1_17) v_reach_65 → zP G [w6 G av (s6_reach bv v_reach_65)] H → zD A [w6 G av (s6_reach bv v_reach_65)] → va_S A s.heap H locs → lv_has ls 3 [(0, .ref (av 0)), (1, .int (nI i1_17))] → W p l e rmX6_circles s m args below meth c H locs 0 0 Q (F0 m 65 ls []) := by
          intro v_reach_65 H locs ls hE hP hD hS hl
          have hE := hE.trans (FX6_circles_65.eq_1 _ _ _ _ _ _)
          refine lv_iinc (v := (nI (i1_17 + 1))) (lv' := [(1, .int (nI (i1_17 + 1))), (0, .ref (av 0))]) hx hb dX6_circles_65 hl (k := 1) rfl (nI_1 i1_17) (by decide) rfl (fun ls hl => ?_)
          try rw [nI_1 i1_17] at hE
          refine lv_goto (tgt := 17) hx hb dX6_circles_68 (by decide) ?_
          exact ih17 (i1_17 + 1) v_reach_65 _ _ _ (by first | assumption | omega) (by omega) hE hP hD hS (lv_sub hl [1, 0] rfl)
        have hB25 : ∀ (n25 : Nat) (i2_25 : Nat) (v_reach_25 : Nat → Int32) (H : Heap) (locs : List Loc) (ls : Array Slot), (i2_25 ≤ 16) → 17 ≤ i2_25 + n25 → T = FX6_circles_25 (g6_above bv) (g6_reach bv) (fun x1_17' v_reach_17' => FX6_circles_17 (g6_above bv) (g6_reach bv) (FX6_circles_71 (g6_above bv) (g6_reach bv)) n17 x1_17' v_reach_17') (FX6_circles_71 (g6_above bv) (g6_reach bv)) (FX6_circles_65 (g6_above bv) (g6_reach bv) (fun x1_17' v_reach_17' => FX6_circles_17 (g6_above bv) (g6_reach bv) (FX6_circles_71 (g6_above bv) (g6_reach bv)) n17 x1_17' v_reach_17') (FX6_circles_71 (g6_above bv) (g6_reach bv))) n25 (nI i1_17) (nI i2_25) v_reach_25 → zP G [w6 G av (s6_reach bv v_reach_25)] H → zD A [w6 G av (s6_reach bv v_reach_25)] → va_S A s.heap H locs → lv_has ls 3 [(0, .ref (av 0)), (1, .int (nI i1_17)), (2, .int (nI i2_25))] → W p l e rmX6_circles s m args below meth c H locs 0 0 Q (F0 m 25 ls []) := by
          intro n25
          induction n25 with
          | zero =>
            intro i2_25 v_reach_25 H locs ls hi2_25 hn hE hP hD hS hl
            exact absurd hn (by omega)
          | succ n25 ih25 =>
            intro i2_25 v_reach_25 H locs ls hi2_25 hn hE hP hD hS hl
            have hE := hE.trans (FX6_circles_25.eq_2 _ _ _ _ _ _ _ _ _)
            refine lv_iload_n hx hb dX6_circles_25 rfl (lv_at hl 2 rfl) ?_
            refine lv_bipush (v := 16) hx hb dX6_circles_26 (by decide) ?_
            refine lv_icmp_ge (tgt := 65) hx hb dX6_circles_28 (by decide) (fun c28 => ?_) (fun c28 => ?_)
            · have hE := hE.trans (if_pos c28)
              exact hB65 v_reach_25 _ _ _ hE hP hD hS (lv_sub hl [0, 1] rfl)
            · have hE := hE.trans (if_neg c28)
              have hl2_25 : i2_25 < 16 := zlt (N := 16) rfl (by omega) (by omega) c28
              refine lv_aload_n hx hb dX6_circles_31 rfl (lv_at hl 0 rfl) ?_
              refine zg6_reach S in_X6_circles_6 hK hP 0 rfl (List.mem_of_getElem? (i := 2) rfl) dX6_circles_32 ?_
              refine lv_iload_n hx hb dX6_circles_35 rfl (lv_at hl 2 rfl) ?_
              refine zl6_reach S hK hP 0 rfl (vp_in_nI (by omega) (by omega)) (f := v_reach_25) (gg6_reach _ v_reach_25) dX6_circles_36 ?_
              refine lv_iload_n hx hb dX6_circles_37 rfl (lv_at hl 1 rfl) ?_
              obtain ⟨t38, ht38⟩ : ∃ z, FX8_has (v_reach_25 (nI i2_25).toNatClampNeg) (nI i1_17) = z := ⟨_, rfl⟩
              have hE := hE.trans (bnd_eq ht38)
              have hc := c_X8_has l G (v_reach_25 (nI i2_25).toNatClampNeg) (nI i1_17) _ ht38
              refine zgoR (va_runSN (As := [.int (v_reach_25 (nI i2_25).toNatClampNeg), .int (nI i1_17)]) (rest := []) S (hc _) ⟨va_cnB (host := "RuleCourt") 2 S.2.2.2.2 gX6_circles_X8_has_n68 rfl rfl rfl (hK.2 _ (List.mem_of_getElem? (i := 1) rfl)) (S.2.2.2.2 _ (List.mem_of_getElem? (i := 8) rfl)) (by decide +kernel) ⟨Nat.le_of_ble_eq_true rfl, Nat.le_of_ble_eq_true rfl⟩, S.2.2.2.2 _ (List.mem_of_getElem? (i := 7) rfl), trivial⟩ (zpS hK hP hD (is := []) rfl rfl) rfl rfl hl.1 rfl (lv_room (Nat.le_of_ble_eq_true rfl)) dX6_circles_38 ⟨Nat.zero_le _, Nat.zero_le _⟩) (fun hn38 => ?_)
              refine lv_if_eq (tgt := 59) hx hb dX6_circles_41 (by decide) (fun c41 => ?_) (fun c41 => ?_)
              · have hE := hE.trans (if_pos c41)
                refine lv_iinc (v := (nI (i2_25 + 1))) (lv' := [(2, .int (nI (i2_25 + 1))), (0, .ref (av 0)), (1, .int (nI i1_17))]) hx hb dX6_circles_59 hl (k := 2) rfl (nI_1 i2_25) (by decide) rfl (fun ls hl => ?_)
                try rw [nI_1 i2_25] at hE
                refine lv_goto (tgt := 25) hx hb dX6_circles_62 (by decide) ?_
                exact ih25 (i2_25 + 1) v_reach_25 _ _ _ (by first | assumption | omega) (by omega) hE hP hD hS (lv_sub hl [1, 2, 0] rfl)
              · have hE := hE.trans (if_neg c41)
                refine lv_aload_n hx hb dX6_circles_44 rfl (lv_at hl 0 rfl) ?_
                refine zg6_reach S in_X6_circles_6 hK hP 0 rfl (List.mem_of_getElem? (i := 2) rfl) dX6_circles_45 ?_
                refine lv_iload_n hx hb dX6_circles_48 rfl (lv_at hl 2 rfl) ?_
                refine lv_dup2_11 hx hb dX6_circles_49 rfl rfl ?_
                refine zl6_reach S hK hP 0 rfl (vp_in_nI (by omega) (by omega)) (f := v_reach_25) (gg6_reach _ v_reach_25) dX6_circles_50 ?_
                refine lv_aload_n hx hb dX6_circles_51 rfl (lv_at hl 0 rfl) ?_
                refine zg6_reach S in_X6_circles_6 hK hP 0 rfl (List.mem_of_getElem? (i := 2) rfl) dX6_circles_52 ?_
                refine lv_iload_n hx hb dX6_circles_55 rfl (lv_at hl 1 rfl) ?_
                refine zl6_reach S hK hP 0 rfl (vp_in_nI (by omega) (by omega)) (f := v_reach_25) (gg6_reach _ v_reach_25) dX6_circles_56 ?_
                refine lv_ior hx hb dX6_circles_57 ?_
                refine zs6_reach (bs1 := [w6 G av (s6_reach (s6_reach bv v_reach_25) (upd v_reach_25 (nI i2_25).toNatClampNeg ((v_reach_25 (nI i2_25).toNatClampNeg) ||| (v_reach_25 (nI i1_17).toNatClampNeg))))]) S hK hP hD hS 0 rfl (vp_in_nI (by omega) (by omega)) (f := v_reach_25) (gg6_reach _ v_reach_25) dX6_circles_58 rfl (fun H locs hP hD hS => ?_)
                refine lv_iinc (v := (nI (i2_25 + 1))) (lv' := [(2, .int (nI (i2_25 + 1))), (0, .ref (av 0)), (1, .int (nI i1_17))]) hx hb dX6_circles_59 hl (k := 2) rfl (nI_1 i2_25) (by decide) rfl (fun ls hl => ?_)
                try rw [nI_1 i2_25] at hE
                refine lv_goto (tgt := 25) hx hb dX6_circles_62 (by decide) ?_
                rw [show (s6_reach (s6_reach bv v_reach_25) (upd v_reach_25 (nI i2_25).toNatClampNeg ((v_reach_25 (nI i2_25).toNatClampNeg) ||| (v_reach_25 (nI i1_17).toNatClampNeg)))) = (s6_reach bv (upd v_reach_25 (nI i2_25).toNatClampNeg ((v_reach_25 (nI i2_25).toNatClampNeg) ||| (v_reach_25 (nI i1_17).toNatClampNeg)))) from (ss6_reach _ v_reach_25 (upd v_reach_25 (nI i2_25).toNatClampNeg ((v_reach_25 (nI i2_25).toNatClampNeg) ||| (v_reach_25 (nI i1_17).toNatClampNeg))))] at hP hD
                exact ih25 (i2_25 + 1) (upd v_reach_25 (nI i2_25).toNatClampNeg ((v_reach_25 (nI i2_25).toNatClampNeg) ||| (v_reach_25 (nI i1_17).toNatClampNeg))) _ _ _ (by first | assumption | omega) (by omega) hE hP hD hS (lv_sub hl [1, 2, 0] rfl)
        refine lv_istore_n (lv' := [(2, .int 0), (0, .ref (av 0)), (1, .int (nI i1_17))]) hx hb dX6_circles_24 rfl hl (by decide) rfl (fun ls hl => ?_)
        exact hB25 17 0 v_reach_17 _ _ _ (by first | assumption | omega) (by omega) hE hP hD hS (lv_sub hl [1, 2, 0] rfl)
  refine lv_istore_n (lv' := [(1, .int 0), (0, .ref (av 0))]) hx hb dX6_circles_16 rfl hl (by decide) rfl (fun ls hl => ?_)
  exact hB17 17 0 (va_cpy (g6_above bv) (g6_reach bv) (0 : Int32).toNatClampNeg (0 : Int32).toNatClampNeg (16 : Int32).toNatClampNeg) _ _ _ (by first | assumption | omega) (by omega) hE hP hD hS (lv_sub hl [1, 0] rfl)

