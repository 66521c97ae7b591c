theorem in_X0_copyFrom_0 : ∀ w ∈ u_ws RX0 TX0 9, w ∈ wsX0_copyFrom := by decide +kernel
def rmX0_copyFrom : Room := { frames := 1, cells := 0, slots := 0, locals := 40 }
set_option maxHeartbeats 4000000 in
set_option maxRecDepth 100000 in
theorem c_X0_copyFrom (l : Launch) (G : zG) (ac : Nat → Nat) (ad : Nat → Nat) (bc : S0) (bd : S0) (T : (Nat → Int32) × (Nat → Int32) × (Nat → Int32) × (Nat → Int32) × (Nat → Int32) × (Nat → Int32) × (Int32) × (Int32) × (Int32)) (hT : FX0_copyFrom (g0_kind bc) (g0_head bc) (g0_body bc) (g0_excepts bc) (g0_power bc) (g0_beats bc) (g0_facts bc) (g0_size bc) (g0_shut bc) (g0_kind bd) (g0_head bd) (g0_body bd) (g0_excepts bd) (g0_power bd) (g0_beats bd) (g0_facts bd) (g0_size bd) (g0_shut bd) = T) : zV l yX0_copyFrom wsX0_copyFrom rmX0_copyFrom G [.ref (ac 0), .ref (ad 0)] [w0 G ac bc, w0 G ad bd] [w0 G ac (s0_shut (s0_size (s0_facts (s0_beats (s0_power (s0_excepts (s0_body (s0_head (s0_kind bc T.1) T.2.1) T.2.2.1) T.2.2.2.1) T.2.2.2.2.1) T.2.2.2.2.2.1) T.2.2.2.2.2.2.1) T.2.2.2.2.2.2.2.1) T.2.2.2.2.2.2.2.2), w0 G ad bd] := by
  refine zV.mk (cc := cX0_copyFrom) (maxL := 2) (by decide +kernel) rfl (Nat.le_of_ble_eq_true rfl) (zfl_cons (wf0 _ _ _ _) (zfl_cons rfl rfl)) ?_
  intro p e s m args below meth c Q A ls S hK hD hA hP hl hret
  have hx := S.1
  have hb := S.2.1
  have hS : va_S A s.heap s.heap [] := va_S.rf
  have hl : lv_has ls 2 [(0, .ref (ac 0)), (1, .ref (ad 0))] := hl
  have hE := hT.symm.trans (FX0_copyFrom.eq_1 _ _ _ _ _ _ _ _ _ _ _ _ _ _ _ _ _ _)
  refine lv_aload_n hx hb dX0_copyFrom_0 rfl (lv_at hl 1 rfl) ?_
  refine zg0_kind S in_X0_copyFrom_0 hK hP 1 rfl (List.mem_of_getElem? (i := 1) rfl) dX0_copyFrom_1 ?_
  refine lv_iconst (v := 0) hx hb dX0_copyFrom_4 (by decide) ?_
  refine lv_aload_n hx hb dX0_copyFrom_5 rfl (lv_at hl 0 rfl) ?_
  refine zg0_kind S in_X0_copyFrom_0 hK hP 0 rfl (List.mem_of_getElem? (i := 1) rfl) dX0_copyFrom_6 ?_
  refine lv_iconst (v := 0) hx hb dX0_copyFrom_9 (by decide) ?_
  refine lv_bipush (v := 16) hx hb dX0_copyFrom_10 (by decide) ?_
  refine zcopy (f := (g0_kind bd)) (g := (g0_kind bc)) (bs' := [w0 G ac (s0_kind bc (va_cpy (g0_kind bd) (g0_kind bc) (0 : Int32).toNatClampNeg (0 : Int32).toNatClampNeg (16 : Int32).toNatClampNeg)), w0 G ad bd]) S (List.mem_of_getElem? (i := 2) rfl) (List.mem_of_getElem? (i := 3) rfl) (List.mem_of_getElem? (i := 4) rfl) (List.mem_of_getElem? (i := 5) rfl) hl.1 hK hP hD hS 1 rfl 1 rfl 0 rfl 1 rfl (by decide) (by decide) (by decide) (by decide) (by decide) (pt0_kind _ _ _ _) rfl (Nat.le_of_ble_eq_true rfl) (Nat.le_of_ble_eq_true rfl) dX0_copyFrom_12 (fun H locs hP hD hS => ?_)
  refine lv_aload_n hx hb dX0_copyFrom_15 rfl (lv_at hl 1 rfl) ?_
  refine zg0_head S in_X0_copyFrom_0 hK hP 1 rfl (List.mem_of_getElem? (i := 6) rfl) dX0_copyFrom_16 ?_
  refine lv_iconst (v := 0) hx hb dX0_copyFrom_19 (by decide) ?_
  refine lv_aload_n hx hb dX0_copyFrom_20 rfl (lv_at hl 0 rfl) ?_
  refine zg0_head S in_X0_copyFrom_0 hK hP 0 rfl (List.mem_of_getElem? (i := 6) rfl) dX0_copyFrom_21 ?_
  refine lv_iconst (v := 0) hx hb dX0_copyFrom_24 (by decide) ?_
  refine lv_bipush (v := 16) hx hb dX0_copyFrom_25 (by decide) ?_
  refine zcopy (f := (g0_head bd)) (g := (g0_head bc)) (bs' := [w0 G ac (s0_head (s0_kind bc (va_cpy (g0_kind bd) (g0_kind bc) (0 : Int32).toNatClampNeg (0 : Int32).toNatClampNeg (16 : Int32).toNatClampNeg)) (va_cpy (g0_head bd) (g0_head bc) (0 : Int32).toNatClampNeg (0 : Int32).toNatClampNeg (16 : Int32).toNatClampNeg)), w0 G ad bd]) S (List.mem_of_getElem? (i := 2) rfl) (List.mem_of_getElem? (i := 3) rfl) (List.mem_of_getElem? (i := 4) rfl) (List.mem_of_getElem? (i := 5) rfl) hl.1 hK hP hD hS 1 rfl 2 rfl 0 rfl 2 (by show some (_, Sum.inl (_, _, Sum.inl _)) = _; rw [(gs0_head_kind _ (va_cpy (g0_kind bd) (g0_kind bc) (0 : Int32).toNatClampNeg (0 : Int32).toNatClampNeg (16 : Int32).toNatClampNeg))]) (by decide) (by decide) (by decide) (by decide) (by decide) (pt0_head _ _ _ _) rfl (Nat.le_of_ble_eq_true rfl) (Nat.le_of_ble_eq_true rfl) dX0_copyFrom_27 (fun H locs hP hD hS => ?_)
  refine lv_aload_n hx hb dX0_copyFrom_30 rfl (lv_at hl 1 rfl) ?_
  refine zg0_body S in_X0_copyFrom_0 hK hP 1 rfl (List.mem_of_getElem? (i := 7) rfl) dX0_copyFrom_31 ?_
  refine lv_iconst (v := 0) hx hb dX0_copyFrom_34 (by decide) ?_
  refine lv_aload_n hx hb dX0_copyFrom_35 rfl (lv_at hl 0 rfl) ?_
  refine zg0_body S in_X0_copyFrom_0 hK hP 0 rfl (List.mem_of_getElem? (i := 7) rfl) dX0_copyFrom_36 ?_
  refine lv_iconst (v := 0) hx hb dX0_copyFrom_39 (by decide) ?_
  refine lv_bipush (v := 16) hx hb dX0_copyFrom_40 (by decide) ?_
  refine zcopy (f := (g0_body bd)) (g := (g0_body bc)) (bs' := [w0 G ac (s0_body (s0_head (s0_kind bc (va_cpy (g0_kind bd) (g0_kind bc) (0 : Int32).toNatClampNeg (0 : Int32).toNatClampNeg (16 : Int32).toNatClampNeg)) (va_cpy (g0_head bd) (g0_head bc) (0 : Int32).toNatClampNeg (0 : Int32).toNatClampNeg (16 : Int32).toNatClampNeg)) (va_cpy (g0_body bd) (g0_body bc) (0 : Int32).toNatClampNeg (0 : Int32).toNatClampNeg (16 : Int32).toNatClampNeg)), w0 G ad bd]) S (List.mem_of_getElem? (i := 2) rfl) (List.mem_of_getElem? (i := 3) rfl) (List.mem_of_getElem? (i := 4) rfl) (List.mem_of_getElem? (i := 5) rfl) hl.1 hK hP hD hS 1 rfl 3 rfl 0 rfl 3 (by show some (_, Sum.inl (_, _, Sum.inl _)) = _; rw [((gs0_body_head _ (va_cpy (g0_head bd) (g0_head bc) (0 : Int32).toNatClampNeg (0 : Int32).toNatClampNeg (16 : Int32).toNatClampNeg)).trans (gs0_body_kind _ (va_cpy (g0_kind bd) (g0_kind bc) (0 : Int32).toNatClampNeg (0 : Int32).toNatClampNeg (16 : Int32).toNatClampNeg)))]) (by decide) (by decide) (by decide) (by decide) (by decide) (pt0_body _ _ _ _) rfl (Nat.le_of_ble_eq_true rfl) (Nat.le_of_ble_eq_true rfl) dX0_copyFrom_42 (fun H locs hP hD hS => ?_)
  refine lv_aload_n hx hb dX0_copyFrom_45 rfl (lv_at hl 1 rfl) ?_
  refine zg0_excepts S in_X0_copyFrom_0 hK hP 1 rfl (List.mem_of_getElem? (i := 8) rfl) dX0_copyFrom_46 ?_
  refine lv_iconst (v := 0) hx hb dX0_copyFrom_49 (by decide) ?_
  refine lv_aload_n hx hb dX0_copyFrom_50 rfl (lv_at hl 0 rfl) ?_
  refine zg0_excepts S in_X0_copyFrom_0 hK hP 0 rfl (List.mem_of_getElem? (i := 8) rfl) dX0_copyFrom_51 ?_
  refine lv_iconst (v := 0) hx hb dX0_copyFrom_54 (by decide) ?_
  refine lv_bipush (v := 16) hx hb dX0_copyFrom_55 (by decide) ?_
  refine zcopy (f := (g0_excepts bd)) (g := (g0_excepts bc)) (bs' := [w0 G ac (s0_excepts (s0_body (s0_head (s0_kind bc (va_cpy (g0_kind bd) (g0_kind bc) (0 : Int32).toNatClampNeg (0 : Int32).toNatClampNeg (16 : Int32).toNatClampNeg)) (va_cpy (g0_head bd) (g0_head bc) (0 : Int32).toNatClampNeg (0 : Int32).toNatClampNeg (16 : Int32).toNatClampNeg)) (va_cpy (g0_body bd) (g0_body bc) (0 : Int32).toNatClampNeg (0 : Int32).toNatClampNeg (16 : Int32).toNatClampNeg)) (va_cpy (g0_excepts bd) (g0_excepts bc) (0 : Int32).toNatClampNeg (0 : Int32).toNatClampNeg (16 : Int32).toNatClampNeg)), w0 G ad bd]) S (List.mem_of_getElem? (i := 2) rfl) (List.mem_of_getElem? (i := 3) rfl) (List.mem_of_getElem? (i := 4) rfl) (List.mem_of_getElem? (i := 5) rfl) hl.1 hK hP hD hS 1 rfl 4 rfl 0 rfl 4 (by show some (_, Sum.inl (_, _, Sum.inl _)) = _; rw [((gs0_excepts_body _ (va_cpy (g0_body bd) (g0_body bc) (0 : Int32).toNatClampNeg (0 : Int32).toNatClampNeg (16 : Int32).toNatClampNeg)).trans ((gs0_excepts_head _ (va_cpy (g0_head bd) (g0_head bc) (0 : Int32).toNatClampNeg (0 : Int32).toNatClampNeg (16 : Int32).toNatClampNeg)).trans (gs0_excepts_kind _ (va_cpy (g0_kind bd) (g0_kind bc) (0 : Int32).toNatClampNeg (0 : Int32).toNatClampNeg (16 : Int32).toNatClampNeg))))]) (by decide) (by decide) (by decide) (by decide) (by decide) (pt0_excepts _ _ _ _) rfl (Nat.le_of_ble_eq_true rfl) (Nat.le_of_ble_eq_true rfl) dX0_copyFrom_57 (fun H locs hP hD hS => ?_)
  refine lv_aload_n hx hb dX0_copyFrom_60 rfl (lv_at hl 1 rfl) ?_
  refine zg0_power S in_X0_copyFrom_0 hK hP 1 rfl (List.mem_of_getElem? (i := 9) rfl) dX0_copyFrom_61 ?_
  refine lv_iconst (v := 0) hx hb dX0_copyFrom_64 (by decide) ?_
  refine lv_aload_n hx hb dX0_copyFrom_65 rfl (lv_at hl 0 rfl) ?_
  refine zg0_power S in_X0_copyFrom_0 hK hP 0 rfl (List.mem_of_getElem? (i := 9) rfl) dX0_copyFrom_66 ?_
  refine lv_iconst (v := 0) hx hb dX0_copyFrom_69 (by decide) ?_
  refine lv_bipush (v := 16) hx hb dX0_copyFrom_70 (by decide) ?_
  refine zcopy (f := (g0_power bd)) (g := (g0_power bc)) (bs' := [w0 G ac (s0_power (s0_excepts (s0_body (s0_head (s0_kind bc (va_cpy (g0_kind bd) (g0_kind bc) (0 : Int32).toNatClampNeg (0 : Int32).toNatClampNeg (16 : Int32).toNatClampNeg)) (va_cpy (g0_head bd) (g0_head bc) (0 : Int32).toNatClampNeg (0 : Int32).toNatClampNeg (16 : Int32).toNatClampNeg)) (va_cpy (g0_body bd) (g0_body bc) (0 : Int32).toNatClampNeg (0 : Int32).toNatClampNeg (16 : Int32).toNatClampNeg)) (va_cpy (g0_excepts bd) (g0_excepts bc) (0 : Int32).toNatClampNeg (0 : Int32).toNatClampNeg (16 : Int32).toNatClampNeg)) (va_cpy (g0_power bd) (g0_power bc) (0 : Int32).toNatClampNeg (0 : Int32).toNatClampNeg (16 : Int32).toNatClampNeg)), w0 G ad bd]) S (List.mem_of_getElem? (i := 2) rfl) (List.mem_of_getElem? (i := 3) rfl) (List.mem_of_getElem? (i := 4) rfl) (List.mem_of_getElem? (i := 5) rfl) hl.1 hK hP hD hS 1 rfl 5 rfl 0 rfl 5 (by show some (_, Sum.inl (_, _, Sum.inl _)) = _; rw [((gs0_power_excepts _ (va_cpy (g0_excepts bd) (g0_excepts bc) (0 : Int32).toNatClampNeg (0 : Int32).toNatClampNeg (16 : Int32).toNatClampNeg)).trans ((gs0_power_body _ (va_cpy (g0_body bd) (g0_body bc) (0 : Int32).toNatClampNeg (0 : Int32).toNatClampNeg (16 : Int32).toNatClampNeg)).trans ((gs0_power_head _ (va_cpy (g0_head bd) (g0_head bc) (0 : Int32).toNatClampNeg (0 : Int32).toNatClampNeg (16 : Int32).toNatClampNeg)).trans (gs0_power_kind _ (va_cpy (g0_kind bd) (g0_kind bc) (0 : Int32).toNatClampNeg (0 : Int32).toNatClampNeg (16 : Int32).toNatClampNeg)))))]) (by decide) (by decide) (by decide) (by decide) (by decide) (pt0_power _ _ _ _) rfl (Nat.le_of_ble_eq_true rfl) (Nat.le_of_ble_eq_true rfl) dX0_copyFrom_72 (fun H locs hP hD hS => ?_)
  refine lv_aload_n hx hb dX0_copyFrom_75 rfl (lv_at hl 1 rfl) ?_
  refine zg0_beats S in_X0_copyFrom_0 hK hP 1 rfl (List.mem_of_getElem? (i := 10) rfl) dX0_copyFrom_76 ?_
  refine lv_iconst (v := 0) hx hb dX0_copyFrom_79 (by decide) ?_
  refine lv_aload_n hx hb dX0_copyFrom_80 rfl (lv_at hl 0 rfl) ?_
  refine zg0_beats S in_X0_copyFrom_0 hK hP 0 rfl (List.mem_of_getElem? (i := 10) rfl) dX0_copyFrom_81 ?_
  refine lv_iconst (v := 0) hx hb dX0_copyFrom_84 (by decide) ?_
  refine lv_bipush (v := 16) hx hb dX0_copyFrom_85 (by decide) ?_
  refine zcopy (f := (g0_beats bd)) (g := (g0_beats bc)) (bs' := [w0 G ac (s0_beats (s0_power (s0_excepts (s0_body (s0_head (s0_kind bc (va_cpy (g0_kind bd) (g0_kind bc) (0 : Int32).toNatClampNeg (0 : Int32).toNatClampNeg (16 : Int32).toNatClampNeg)) (va_cpy (g0_head bd) (g0_head bc) (0 : Int32).toNatClampNeg (0 : Int32).toNatClampNeg (16 : Int32).toNatClampNeg)) (va_cpy (g0_body bd) (g0_body bc) (0 : Int32).toNatClampNeg (0 : Int32).toNatClampNeg (16 : Int32).toNatClampNeg)) (va_cpy (g0_excepts bd) (g0_excepts bc) (0 : Int32).toNatClampNeg (0 : Int32).toNatClampNeg (16 : Int32).toNatClampNeg)) (va_cpy (g0_power bd) (g0_power bc) (0 : Int32).toNatClampNeg (0 : Int32).toNatClampNeg (16 : Int32).toNatClampNeg)) (va_cpy (g0_beats bd) (g0_beats bc) (0 : Int32).toNatClampNeg (0 : Int32).toNatClampNeg (16 : Int32).toNatClampNeg)), w0 G ad bd]) S (List.mem_of_getElem? (i := 2) rfl) (List.mem_of_getElem? (i := 3) rfl) (List.mem_of_getElem? (i := 4) rfl) (List.mem_of_getElem? (i := 5) rfl) hl.1 hK hP hD hS 1 rfl 6 rfl 0 rfl 6 (by show some (_, Sum.inl (_, _, Sum.inl _)) = _; rw [((gs0_beats_power _ (va_cpy (g0_power bd) (g0_power bc) (0 : Int32).toNatClampNeg (0 : Int32).toNatClampNeg (16 : Int32).toNatClampNeg)).trans ((gs0_beats_excepts _ (va_cpy (g0_excepts bd) (g0_excepts bc) (0 : Int32).toNatClampNeg (0 : Int32).toNatClampNeg (16 : Int32).toNatClampNeg)).trans ((gs0_beats_body _ (va_cpy (g0_body bd) (g0_body bc) (0 : Int32).toNatClampNeg (0 : Int32).toNatClampNeg (16 : Int32).toNatClampNeg)).trans ((gs0_beats_head _ (va_cpy (g0_head bd) (g0_head bc) (0 : Int32).toNatClampNeg (0 : Int32).toNatClampNeg (16 : Int32).toNatClampNeg)).trans (gs0_beats_kind _ (va_cpy (g0_kind bd) (g0_kind bc) (0 : Int32).toNatClampNeg (0 : Int32).toNatClampNeg (16 : Int32).toNatClampNeg))))))]) (by decide) (by decide) (by decide) (by decide) (by decide) (pt0_beats _ _ _ _) rfl (Nat.le_of_ble_eq_true rfl) (Nat.le_of_ble_eq_true rfl) dX0_copyFrom_87 (fun H locs hP hD hS => ?_)
  refine lv_aload_n hx hb dX0_copyFrom_90 rfl (lv_at hl 0 rfl) ?_
  refine lv_aload_n hx hb dX0_copyFrom_91 rfl (lv_at hl 1 rfl) ?_
  refine zg0_facts S in_X0_copyFrom_0 hK hP 1 rfl (List.mem_of_getElem? (i := 11) rfl) (v := (g0_facts bd)) rfl dX0_copyFrom_92 ?_
  refine zp0_facts (bs1 := [w0 G ac (s0_facts (s0_beats (s0_power (s0_excepts (s0_body (s0_head (s0_kind bc (va_cpy (g0_kind bd) (g0_kind bc) (0 : Int32).toNatClampNeg (0 : Int32).toNatClampNeg (16 : Int32).toNatClampNeg)) (va_cpy (g0_head bd) (g0_head bc) (0 : Int32).toNatClampNeg (0 : Int32).toNatClampNeg (16 : Int32).toNatClampNeg)) (va_cpy (g0_body bd) (g0_body bc) (0 : Int32).toNatClampNeg (0 : Int32).toNatClampNeg (16 : Int32).toNatClampNeg)) (va_cpy (g0_excepts bd) (g0_excepts bc) (0 : Int32).toNatClampNeg (0 : Int32).toNatClampNeg (16 : Int32).toNatClampNeg)) (va_cpy (g0_power bd) (g0_power bc) (0 : Int32).toNatClampNeg (0 : Int32).toNatClampNeg (16 : Int32).toNatClampNeg)) (va_cpy (g0_beats bd) (g0_beats bc) (0 : Int32).toNatClampNeg (0 : Int32).toNatClampNeg (16 : Int32).toNatClampNeg)) (g0_facts bd)), w0 G ad bd]) S in_X0_copyFrom_0 hK hP hD hS 0 rfl (List.mem_of_getElem? (i := 11) rfl) dX0_copyFrom_95 rfl (fun H locs hP hD hS => ?_)
  refine lv_aload_n hx hb dX0_copyFrom_98 rfl (lv_at hl 0 rfl) ?_
  refine lv_aload_n hx hb dX0_copyFrom_99 rfl (lv_at hl 1 rfl) ?_
  refine zg0_size S in_X0_copyFrom_0 hK hP 1 rfl (List.mem_of_getElem? (i := 12) rfl) (v := (g0_size bd)) rfl dX0_copyFrom_100 ?_
  refine zp0_size (bs1 := [w0 G ac (s0_size (s0_facts (s0_beats (s0_power (s0_excepts (s0_body (s0_head (s0_kind bc (va_cpy (g0_kind bd) (g0_kind bc) (0 : Int32).toNatClampNeg (0 : Int32).toNatClampNeg (16 : Int32).toNatClampNeg)) (va_cpy (g0_head bd) (g0_head bc) (0 : Int32).toNatClampNeg (0 : Int32).toNatClampNeg (16 : Int32).toNatClampNeg)) (va_cpy (g0_body bd) (g0_body bc) (0 : Int32).toNatClampNeg (0 : Int32).toNatClampNeg (16 : Int32).toNatClampNeg)) (va_cpy (g0_excepts bd) (g0_excepts bc) (0 : Int32).toNatClampNeg (0 : Int32).toNatClampNeg (16 : Int32).toNatClampNeg)) (va_cpy (g0_power bd) (g0_power bc) (0 : Int32).toNatClampNeg (0 : Int32).toNatClampNeg (16 : Int32).toNatClampNeg)) (va_cpy (g0_beats bd) (g0_beats bc) (0 : Int32).toNatClampNeg (0 : Int32).toNatClampNeg (16 : Int32).toNatClampNeg)) (g0_facts bd)) (g0_size bd)), w0 G ad bd]) S in_X0_copyFrom_0 hK hP hD hS 0 rfl (List.mem_of_getElem? (i := 12) rfl) dX0_copyFrom_103 rfl (fun H locs hP hD hS => ?_)
  refine lv_aload_n hx hb dX0_copyFrom_106 rfl (lv_at hl 0 rfl) ?_
  refine lv_aload_n hx hb dX0_copyFrom_107 rfl (lv_at hl 1 rfl) ?_
  refine zg0_shut S in_X0_copyFrom_0 hK hP 1 rfl (List.mem_of_getElem? (i := 13) rfl) (v := (g0_shut bd)) rfl dX0_copyFrom_108 ?_
  refine zp0_shut (bs1 := [w0 G ac (s0_shut (s0_size (s0_facts (s0_beats (s0_power (s0_excepts (s0_body (s0_head (s0_kind bc (va_cpy (g0_kind bd) (g0_kind bc) (0 : Int32).toNatClampNeg (0 : Int32).toNatClampNeg (16 : Int32).toNatClampNeg)) (va_cpy (g0_head bd) (g0_head bc) (0 : Int32).toNatClampNeg (0 : Int32).toNatClampNeg (16 : Int32).toNatClampNeg)) (va_cpy (g0_body bd) (g0_body bc) (0 : Int32).toNatClampNeg (0 : Int32).toNatClampNeg (16 : Int32).toNatClampNeg)) (va_cpy (g0_excepts bd) (g0_excepts bc) (0 : Int32).toNatClampNeg (0 : Int32).toNatClampNeg (16 : Int32).toNatClampNeg)) (va_cpy (g0_power bd) (g0_power bc) (0 : Int32).toNatClampNeg (0 : Int32).toNatClampNeg (16 : Int32).toNatClampNeg)) (va_cpy (g0_beats bd) (g0_beats bc) (0 : Int32).toNatClampNeg (0 : Int32).toNatClampNeg (16 : Int32).toNatClampNeg)) (g0_facts bd)) (g0_size bd)) (g0_shut bd)), w0 G ad bd]) S in_X0_copyFrom_0 hK hP hD hS 0 rfl (List.mem_of_getElem? (i := 13) rfl) dX0_copyFrom_111 rfl (fun H locs hP hD hS => ?_)
  exact hret _ _ _ _ _ (by subst hE; rfl) hP hS dX0_copyFrom_114

theorem in_X0_hasRule_0 : ∀ w ∈ u_ws RX0 TX0 9, w ∈ wsX0_hasRule := by decide +kernel
def rmX0_hasRule : Room := { frames := 0, cells := 0, slots := 0, locals := 0 }
set_option maxHeartbeats 4000000 in
set_option maxRecDepth 100000 in
theorem c_X0_hasRule (l : Launch) (G : zG) (ac : Nat → Nat) (bc : S0) (x1 : Int32) (T : Int32) (hT : FX0_hasRule (g0_size bc) x1 = T) : zR l yX0_hasRule wsX0_hasRule rmX0_hasRule .boolean G [.ref (ac 0), .int x1] [w0 G ac bc] T := by
  refine zR.mk (cc := cX0_hasRule) (maxL := 2) (by decide +kernel) rfl (Nat.le_of_ble_eq_true rfl) ?_
  intro p e s m args below meth c Q A ls S hK hD hA hP hl hret
  have hx := S.1
  have hb := S.2.1
  have hl : lv_has ls 2 [(0, .ref (ac 0)), (1, .int x1)] := hl
  have hE := hT.symm.trans (FX0_hasRule.eq_1 _ _)
  refine lv_iload_n hx hb dX0_hasRule_0 rfl (lv_at hl 1 rfl) ?_
  refine lv_if_lt (tgt := 16) hx hb dX0_hasRule_1 (by decide) (fun c1 => ?_) (fun c1 => ?_)
  · have hE := hE.trans (if_pos c1)
    refine lv_iconst (v := 0) hx hb dX0_hasRule_16 (by decide) ?_
    exact hret _ _ _ hE zn0 dX0_hasRule_17
  · have hE := hE.trans (if_neg c1)
    refine lv_iload_n hx hb dX0_hasRule_4 rfl (lv_at hl 1 rfl) ?_
    refine lv_aload_n hx hb dX0_hasRule_5 rfl (lv_at hl 0 rfl) ?_
    refine zg0_size S in_X0_hasRule_0 hK hP 0 rfl (List.mem_of_getElem? (i := 1) rfl) (v := (g0_size bc)) rfl dX0_hasRule_6 ?_
    refine lv_icmp_ge (tgt := 16) hx hb dX0_hasRule_9 (by decide) (fun c9 => ?_) (fun c9 => ?_)
    · have hE := hE.trans (if_pos c9)
      refine lv_iconst (v := 0) hx hb dX0_hasRule_16 (by decide) ?_
      exact hret _ _ _ hE zn0 dX0_hasRule_17
    · have hE := hE.trans (if_neg c9)
      refine lv_iconst (v := 1) hx hb dX0_hasRule_12 (by decide) ?_
      refine lv_goto (tgt := 17) hx hb dX0_hasRule_13 (by decide) ?_
      exact hret _ _ _ hE zn1 dX0_hasRule_17

theorem zhasRule {s x : Int32} (h : ∃ N : Nat, N ≤ 16 ∧ s = nI N) (c : ¬ FX0_hasRule s x = 0) : vp_in x 16 := by
  obtain ⟨N, h1, h2⟩ := h
  exact zup (zguard (N := N) h2 (by omega) c) h1

theorem in_X0_add_0 : ∀ w ∈ u_ws RX0 TX0 9, w ∈ wsX0_add := by decide +kernel
def rmX0_add : Room := { frames := 0, cells := 0, slots := 0, locals := 0 }
set_option maxHeartbeats 4000000 in
set_option maxRecDepth 100000 in
theorem c_X0_add (l : Launch) (G : zG) (ac : Nat → Nat) (bc : S0) (x1 : Int32) (x2 : Int32) (x3 : Int32) (x4 : Int32) (x5 : Int32) (hz_c_size : ∃ N : Nat, N ≤ 16 ∧ g0_size bc = nI N) (T : Int32 × (Nat → Int32) × (Nat → Int32) × (Nat → Int32) × (Nat → Int32) × (Nat → Int32) × (Nat → Int32) × (Int32)) (hT : FX0_add (g0_kind bc) (g0_head bc) (g0_body bc) (g0_excepts bc) (g0_power bc) (g0_beats bc) (g0_size bc) x1 x2 x3 x4 x5 = T) : zI l yX0_add wsX0_add rmX0_add .boolean G [.ref (ac 0), .int x1, .int x2, .int x3, .int x4, .int x5] [w0 G ac bc] T.1 [w0 G ac (s0_size (s0_beats (s0_power (s0_excepts (s0_body (s0_head (s0_kind bc T.2.1) T.2.2.1) T.2.2.2.1) T.2.2.2.2.1) T.2.2.2.2.2.1) T.2.2.2.2.2.2.1) T.2.2.2.2.2.2.2)] := by
  refine zI.mk (cc := cX0_add) (maxL := 6) (by decide +kernel) rfl (Nat.le_of_ble_eq_true rfl) (zfl_cons (wf0 _ _ _ _) rfl) ?_
  intro p e s m args below meth c Q A ls S hK hD hA hP hl hret
  have hx := S.1
  have hb := S.2.1
  have hS : va_S A s.heap s.heap [] := va_S.rf
  have hl : lv_has ls 6 [(0, .ref (ac 0)), (1, .int x1), (2, .int x2), (3, .int x3), (4, .int x4), (5, .int x5)] := hl
  obtain ⟨N_c_size, hN_c_size, hs_c_size⟩ := id hz_c_size
  have hE := hT.symm.trans (FX0_add.eq_1 _ _ _ _ _ _ _ _ _ _ _ _)
  refine lv_aload_n hx hb dX0_add_0 rfl (lv_at hl 0 rfl) ?_
  refine zg0_size S in_X0_add_0 hK hP 0 rfl (List.mem_of_getElem? (i := 1) rfl) (v := (g0_size bc)) rfl dX0_add_1 ?_
  refine lv_bipush (v := 16) hx hb dX0_add_4 (by decide) ?_
  refine lv_icmp_lt (tgt := 11) hx hb dX0_add_6 (by decide) (fun c6 => ?_) (fun c6 => ?_)
  · have hE := hE.trans (if_pos c6)
    have hi_c_size : vp_in (g0_size bc) 16 := zfld_lt hs_c_size (by omega) rfl (by decide) c6
    refine lv_aload_n hx hb dX0_add_11 rfl (lv_at hl 0 rfl) ?_
    refine zg0_kind S in_X0_add_0 hK hP 0 rfl (List.mem_of_getElem? (i := 2) rfl) dX0_add_12 ?_
    refine lv_aload_n hx hb dX0_add_15 rfl (lv_at hl 0 rfl) ?_
    refine zg0_size S in_X0_add_0 hK hP 0 rfl (List.mem_of_getElem? (i := 1) rfl) (v := (g0_size bc)) rfl dX0_add_16 ?_
    refine lv_iload_n hx hb dX0_add_19 rfl (lv_at hl 1 rfl) ?_
    refine zs0_kind (bs1 := [w0 G ac (s0_kind bc (upd (g0_kind bc) (g0_size bc).toNatClampNeg x1))]) S hK hP hD hS 0 rfl hi_c_size (f := (g0_kind bc)) rfl dX0_add_20 rfl (fun H locs hP hD hS => ?_)
    obtain ⟨u20, hu20⟩ : ∃ z, upd (g0_kind bc) (g0_size bc).toNatClampNeg x1 = z := ⟨_, rfl⟩
    rw [hu20] at hP hD
    have hE := hE.trans (bnd_eq hu20)
    refine lv_aload_n hx hb dX0_add_21 rfl (lv_at hl 0 rfl) ?_
    refine zg0_head S in_X0_add_0 hK hP 0 rfl (List.mem_of_getElem? (i := 3) rfl) dX0_add_22 ?_
    refine lv_aload_n hx hb dX0_add_25 rfl (lv_at hl 0 rfl) ?_
    refine zg0_size S in_X0_add_0 hK hP 0 rfl (List.mem_of_getElem? (i := 1) rfl) (v := (g0_size bc)) (gs0_size_kind _ u20) dX0_add_26 ?_
    refine lv_iload_n hx hb dX0_add_29 rfl (lv_at hl 2 rfl) ?_
    refine zs0_head (bs1 := [w0 G ac (s0_head (s0_kind bc u20) (upd (g0_head bc) (g0_size bc).toNatClampNeg x2))]) S hK hP hD hS 0 rfl hi_c_size (f := (g0_head bc)) (gs0_head_kind _ u20) dX0_add_30 rfl (fun H locs hP hD hS => ?_)
    obtain ⟨u30, hu30⟩ : ∃ z, upd (g0_head bc) (g0_size bc).toNatClampNeg x2 = z := ⟨_, rfl⟩
    rw [hu30] at hP hD
    have hE := hE.trans (bnd_eq hu30)
    refine lv_aload_n hx hb dX0_add_31 rfl (lv_at hl 0 rfl) ?_
    refine zg0_body S in_X0_add_0 hK hP 0 rfl (List.mem_of_getElem? (i := 4) rfl) dX0_add_32 ?_
    refine lv_aload_n hx hb dX0_add_35 rfl (lv_at hl 0 rfl) ?_
    refine zg0_size S in_X0_add_0 hK hP 0 rfl (List.mem_of_getElem? (i := 1) rfl) (v := (g0_size bc)) ((gs0_size_head _ u30).trans (gs0_size_kind _ u20)) dX0_add_36 ?_
    refine lv_iload_n hx hb dX0_add_39 rfl (lv_at hl 3 rfl) ?_
    refine zs0_body (bs1 := [w0 G ac (s0_body (s0_head (s0_kind bc u20) u30) (upd (g0_body bc) (g0_size bc).toNatClampNeg x3))]) S hK hP hD hS 0 rfl hi_c_size (f := (g0_body bc)) ((gs0_body_head _ u30).trans (gs0_body_kind _ u20)) dX0_add_40 rfl (fun H locs hP hD hS => ?_)
    obtain ⟨u40, hu40⟩ : ∃ z, upd (g0_body bc) (g0_size bc).toNatClampNeg x3 = z := ⟨_, rfl⟩
    rw [hu40] at hP hD
    have hE := hE.trans (bnd_eq hu40)
    refine lv_aload_n hx hb dX0_add_41 rfl (lv_at hl 0 rfl) ?_
    refine zg0_excepts S in_X0_add_0 hK hP 0 rfl (List.mem_of_getElem? (i := 5) rfl) dX0_add_42 ?_
    refine lv_aload_n hx hb dX0_add_45 rfl (lv_at hl 0 rfl) ?_
    refine zg0_size S in_X0_add_0 hK hP 0 rfl (List.mem_of_getElem? (i := 1) rfl) (v := (g0_size bc)) ((gs0_size_body _ u40).trans ((gs0_size_head _ u30).trans (gs0_size_kind _ u20))) dX0_add_46 ?_
    refine lv_iload hx hb dX0_add_49 (lv_at hl 4 rfl) ?_
    refine zs0_excepts (bs1 := [w0 G ac (s0_excepts (s0_body (s0_head (s0_kind bc u20) u30) u40) (upd (g0_excepts bc) (g0_size bc).toNatClampNeg x4))]) S hK hP hD hS 0 rfl hi_c_size (f := (g0_excepts bc)) ((gs0_excepts_body _ u40).trans ((gs0_excepts_head _ u30).trans (gs0_excepts_kind _ u20))) dX0_add_51 rfl (fun H locs hP hD hS => ?_)
    obtain ⟨u51, hu51⟩ : ∃ z, upd (g0_excepts bc) (g0_size bc).toNatClampNeg x4 = z := ⟨_, rfl⟩
    rw [hu51] at hP hD
    have hE := hE.trans (bnd_eq hu51)
    refine lv_aload_n hx hb dX0_add_52 rfl (lv_at hl 0 rfl) ?_
    refine zg0_power S in_X0_add_0 hK hP 0 rfl (List.mem_of_getElem? (i := 6) rfl) dX0_add_53 ?_
    refine lv_aload_n hx hb dX0_add_56 rfl (lv_at hl 0 rfl) ?_
    refine zg0_size S in_X0_add_0 hK hP 0 rfl (List.mem_of_getElem? (i := 1) rfl) (v := (g0_size bc)) ((gs0_size_excepts _ u51).trans ((gs0_size_body _ u40).trans ((gs0_size_head _ u30).trans (gs0_size_kind _ u20)))) dX0_add_57 ?_
    refine lv_iload hx hb dX0_add_60 (lv_at hl 5 rfl) ?_
    refine zs0_power (bs1 := [w0 G ac (s0_power (s0_excepts (s0_body (s0_head (s0_kind bc u20) u30) u40) u51) (upd (g0_power bc) (g0_size bc).toNatClampNeg x5))]) S hK hP hD hS 0 rfl hi_c_size (f := (g0_power bc)) ((gs0_power_excepts _ u51).trans ((gs0_power_body _ u40).trans ((gs0_power_head _ u30).trans (gs0_power_kind _ u20)))) dX0_add_62 rfl (fun H locs hP hD hS => ?_)
    obtain ⟨u62, hu62⟩ : ∃ z, upd (g0_power bc) (g0_size bc).toNatClampNeg x5 = z := ⟨_, rfl⟩
    rw [hu62] at hP hD
    have hE := hE.trans (bnd_eq hu62)
    refine lv_aload_n hx hb dX0_add_63 rfl (lv_at hl 0 rfl) ?_
    refine zg0_beats S in_X0_add_0 hK hP 0 rfl (List.mem_of_getElem? (i := 7) rfl) dX0_add_64 ?_
    refine lv_aload_n hx hb dX0_add_67 rfl (lv_at hl 0 rfl) ?_
    refine zg0_size S in_X0_add_0 hK hP 0 rfl (List.mem_of_getElem? (i := 1) rfl) (v := (g0_size bc)) ((gs0_size_power _ u62).trans ((gs0_size_excepts _ u51).trans ((gs0_size_body _ u40).trans ((gs0_size_head _ u30).trans (gs0_size_kind _ u20))))) dX0_add_68 ?_
    refine lv_iconst (v := 0) hx hb dX0_add_71 (by decide) ?_
    refine zs0_beats (bs1 := [w0 G ac (s0_beats (s0_power (s0_excepts (s0_body (s0_head (s0_kind bc u20) u30) u40) u51) u62) (upd (g0_beats bc) (g0_size bc).toNatClampNeg 0))]) S hK hP hD hS 0 rfl hi_c_size (f := (g0_beats bc)) ((gs0_beats_power _ u62).trans ((gs0_beats_excepts _ u51).trans ((gs0_beats_body _ u40).trans ((gs0_beats_head _ u30).trans (gs0_beats_kind _ u20))))) dX0_add_72 rfl (fun H locs hP hD hS => ?_)
    obtain ⟨u72, hu72⟩ : ∃ z, upd (g0_beats bc) (g0_size bc).toNatClampNeg 0 = z := ⟨_, rfl⟩
    rw [hu72] at hP hD
    have hE := hE.trans (bnd_eq hu72)
    refine lv_aload_n hx hb dX0_add_73 rfl (lv_at hl 0 rfl) ?_
    refine lv_dup hx hb dX0_add_74 rfl ?_
    refine zg0_size S in_X0_add_0 hK hP 0 rfl (List.mem_of_getElem? (i := 1) rfl) (v := (g0_size bc)) ((gs0_size_beats _ u72).trans ((gs0_size_power _ u62).trans ((gs0_size_excepts _ u51).trans ((gs0_size_body _ u40).trans ((gs0_size_head _ u30).trans (gs0_size_kind _ u20)))))) dX0_add_75 ?_
    refine lv_iconst (v := 1) hx hb dX0_add_78 (by decide) ?_
    refine lv_iadd hx hb dX0_add_79 ?_
    refine zp0_size (bs1 := [w0 G ac (s0_size (s0_beats (s0_power (s0_excepts (s0_body (s0_head (s0_kind bc u20) u30) u40) u51) u62) u72) ((g0_size bc) + 1))]) S in_X0_add_0 hK hP hD hS 0 rfl (List.mem_of_getElem? (i := 1) rfl) dX0_add_80 rfl (fun H locs hP hD hS => ?_)
    refine lv_iconst (v := 1) hx hb dX0_add_83 (by decide) ?_
    exact hret _ _ _ _ _ _ (by subst hE; rfl) zn1 hP hS dX0_add_84
  · have hE := hE.trans (if_neg c6)
    refine lv_iconst (v := 0) hx hb dX0_add_9 (by decide) ?_
    rw [show bc = (s0_size (s0_beats (s0_power (s0_excepts (s0_body (s0_head (s0_kind bc (g0_kind bc)) (g0_head bc)) (g0_body bc)) (g0_excepts bc)) (g0_power bc)) (g0_beats bc)) (g0_size bc)) from ((((((((se0_kind _).symm).trans (((se0_head _).symm).trans (congrArg (fun v => s0_head (s0_kind bc (g0_kind bc)) v) (gs0_head_kind _ (g0_kind bc))))).trans (((se0_body _).symm).trans (congrArg (fun v => s0_body (s0_head (s0_kind bc (g0_kind bc)) (g0_head bc)) v) ((gs0_body_head _ (g0_head bc)).trans (gs0_body_kind _ (g0_kind bc)))))).trans (((se0_excepts _).symm).trans (congrArg (fun v => s0_excepts (s0_body (s0_head (s0_kind bc (g0_kind bc)) (g0_head bc)) (g0_body bc)) v) ((gs0_excepts_body _ (g0_body bc)).trans ((gs0_excepts_head _ (g0_head bc)).trans (gs0_excepts_kind _ (g0_kind bc))))))).trans (((se0_power _).symm).trans (congrArg (fun v => s0_power (s0_excepts (s0_body (s0_head (s0_kind bc (g0_kind bc)) (g0_head bc)) (g0_body bc)) (g0_excepts bc)) v) ((gs0_power_excepts _ (g0_excepts bc)).trans ((gs0_power_body _ (g0_body bc)).trans ((gs0_power_head _ (g0_head bc)).trans (gs0_power_kind _ (g0_kind bc)))))))).trans (((se0_beats _).symm).trans (congrArg (fun v => s0_beats (s0_power (s0_excepts (s0_body (s0_head (s0_kind bc (g0_kind bc)) (g0_head bc)) (g0_body bc)) (g0_excepts bc)) (g0_power bc)) v) ((gs0_beats_power _ (g0_power bc)).trans ((gs0_beats_excepts _ (g0_excepts bc)).trans ((gs0_beats_body _ (g0_body bc)).trans ((gs0_beats_head _ (g0_head bc)).trans (gs0_beats_kind _ (g0_kind bc))))))))).trans (((se0_size _).symm).trans (congrArg (fun v => s0_size (s0_beats (s0_power (s0_excepts (s0_body (s0_head (s0_kind bc (g0_kind bc)) (g0_head bc)) (g0_body bc)) (g0_excepts bc)) (g0_power bc)) (g0_beats bc)) v) ((gs0_size_beats _ (g0_beats bc)).trans ((gs0_size_power _ (g0_power bc)).trans ((gs0_size_excepts _ (g0_excepts bc)).trans ((gs0_size_body _ (g0_body bc)).trans ((gs0_size_head _ (g0_head bc)).trans (gs0_size_kind _ (g0_kind bc))))))))))] at hP hD
    exact hret _ _ _ _ _ _ (by subst hE; rfl) zn0 hP hS dX0_add_10

theorem in_X0_isTold_0 : ∀ w ∈ u_ws RX0 TX0 9, w ∈ wsX0_isTold := by decide +kernel
def rmX0_isTold : Room := { frames := 1, cells := 0, slots := 0, locals := 21 }
set_option maxHeartbeats 4000000 in
set_option maxRecDepth 100000 in
theorem c_X0_isTold (l : Launch) (G : zG) (ac : Nat → Nat) (bc : S0) (x1 : Int32) (x2 : Int32) (hx1_16 : vp_in x1 16) (hx2_16 : vp_in x2 16) (T : Int32) (hT : FX0_isTold (g0_beats bc) x1 x2 = T) : zR l yX0_isTold wsX0_isTold rmX0_isTold .boolean G [.ref (ac 0), .int x1, .int x2] [w0 G ac bc] T := by
  refine zR.mk (cc := cX0_isTold) (maxL := 3) (by decide +kernel) rfl (Nat.le_of_ble_eq_true rfl) ?_
  intro p e s m args below meth c Q A ls S hK hD hA hP hl hret
  have hx := S.1
  have hb := S.2.1
  have hl : lv_has ls 3 [(0, .ref (ac 0)), (1, .int x1), (2, .int x2)] := hl
  have hE := hT.symm.trans (FX0_isTold.eq_1 _ _ _)
  refine lv_aload_n hx hb dX0_isTold_0 rfl (lv_at hl 0 rfl) ?_
  refine zg0_beats S in_X0_isTold_0 hK hP 0 rfl (List.mem_of_getElem? (i := 1) rfl) dX0_isTold_1 ?_
  refine lv_iload_n hx hb dX0_isTold_4 rfl (lv_at hl 1 rfl) ?_
  refine zl0_beats S hK hP 0 rfl hx1_16 (f := (g0_beats bc)) rfl dX0_isTold_5 ?_
  refine lv_iload_n hx hb dX0_isTold_6 rfl (lv_at hl 2 rfl) ?_
  obtain ⟨t7, ht7⟩ : ∃ z, FX8_has ((g0_beats bc) x1.toNatClampNeg) x2 = z := ⟨_, rfl⟩
  have hE := hE.trans (bnd_eq ht7)
  have hc := c_X8_has l G ((g0_beats bc) x1.toNatClampNeg) x2 _ ht7
  refine zgoR (va_runSN (As := [.int ((g0_beats bc) x1.toNatClampNeg), .int x2]) (rest := []) S (hc _) ⟨va_cnB (host := "RuleCourt") 2 S.2.2.2.2 gX0_isTold_X8_has_n46 rfl rfl rfl (hK.2 _ (List.mem_of_getElem? (i := 0) rfl)) (S.2.2.2.2 _ (List.mem_of_getElem? (i := 3) rfl)) (by decide +kernel) ⟨Nat.le_of_ble_eq_true rfl, Nat.le_of_ble_eq_true rfl⟩, S.2.2.2.2 _ (List.mem_of_getElem? (i := 2) rfl), trivial⟩ (zpS hK hP hD (is := []) rfl rfl) rfl rfl hl.1 rfl (lv_room (Nat.le_of_ble_eq_true rfl)) dX0_isTold_7 ⟨Nat.zero_le _, Nat.zero_le _⟩) (fun hn7 => ?_)
  refine lv_if_ne (tgt := 26) hx hb dX0_isTold_10 (by decide) (fun c10 => ?_) (fun c10 => ?_)
  · have hE := hE.trans (if_neg c10)
    refine lv_iconst (v := 1) hx hb dX0_isTold_26 (by decide) ?_
    refine lv_goto (tgt := 31) hx hb dX0_isTold_27 (by decide) ?_
    exact hret _ _ _ hE zn1 dX0_isTold_31
  · have hE := hE.trans (if_pos c10)
    refine lv_aload_n hx hb dX0_isTold_13 rfl (lv_at hl 0 rfl) ?_
    refine zg0_beats S in_X0_isTold_0 hK hP 0 rfl (List.mem_of_getElem? (i := 1) rfl) dX0_isTold_14 ?_
    refine lv_iload_n hx hb dX0_isTold_17 rfl (lv_at hl 2 rfl) ?_
    refine zl0_beats S hK hP 0 rfl hx2_16 (f := (g0_beats bc)) rfl dX0_isTold_18 ?_
    refine lv_iload_n hx hb dX0_isTold_19 rfl (lv_at hl 1 rfl) ?_
    obtain ⟨t20, ht20⟩ : ∃ z, FX8_has ((g0_beats bc) x2.toNatClampNeg) x1 = z := ⟨_, rfl⟩
    have hE := hE.trans (bnd_eq ht20)
    have hc := c_X8_has l G ((g0_beats bc) x2.toNatClampNeg) x1 _ ht20
    refine zgoR (va_runSN (As := [.int ((g0_beats bc) x2.toNatClampNeg), .int x1]) (rest := []) S (hc _) ⟨va_cnB (host := "RuleCourt") 2 S.2.2.2.2 gX0_isTold_X8_has_n46 rfl rfl rfl (hK.2 _ (List.mem_of_getElem? (i := 0) rfl)) (S.2.2.2.2 _ (List.mem_of_getElem? (i := 3) rfl)) (by decide +kernel) ⟨Nat.le_of_ble_eq_true rfl, Nat.le_of_ble_eq_true rfl⟩, S.2.2.2.2 _ (List.mem_of_getElem? (i := 2) rfl), trivial⟩ (zpS hK hP hD (is := []) rfl rfl) rfl rfl hl.1 rfl (lv_room (Nat.le_of_ble_eq_true rfl)) dX0_isTold_20 ⟨Nat.zero_le _, Nat.zero_le _⟩) (fun hn20 => ?_)
    refine lv_if_eq (tgt := 30) hx hb dX0_isTold_23 (by decide) (fun c23 => ?_) (fun c23 => ?_)
    · have hE := hE.trans (if_pos c23)
      refine lv_iconst (v := 0) hx hb dX0_isTold_30 (by decide) ?_
      exact hret _ _ _ hE zn0 dX0_isTold_31
    · have hE := hE.trans (if_neg c23)
      refine lv_iconst (v := 1) hx hb dX0_isTold_26 (by decide) ?_
      refine lv_goto (tgt := 31) hx hb dX0_isTold_27 (by decide) ?_
      exact hret _ _ _ hE zn1 dX0_isTold_31

theorem in_X0_rulesBelow_0 : ∀ w ∈ u_ws RX0 TX0 9, w ∈ wsX0_rulesBelow := by decide +kernel
def rmX0_rulesBelow : Room := { frames := 2, cells := 0, slots := 0, locals := 43 }
set_option maxHeartbeats 4000000 in
set_option maxRecDepth 100000 in
theorem c_X0_rulesBelow (l : Launch) (G : zG) (ac : Nat → Nat) (bc : S0) (x1 : Int32) (hz_c_size : ∃ N : Nat, N ≤ 16 ∧ g0_size bc = nI N) (hx1_16 : vp_in x1 16) (T : Int32) (hT : FX0_rulesBelow (g0_power bc) (g0_beats bc) (g0_size bc) x1 = T) : zR l yX0_rulesBelow wsX0_rulesBelow rmX0_rulesBelow .int G [.ref (ac 0), .int x1] [w0 G ac bc] T := by
  refine zR.mk (cc := cX0_rulesBelow) (maxL := 4) (by decide +kernel) rfl (Nat.le_of_ble_eq_true rfl) ?_
  intro p e s m args below meth c Q A ls S hK hD hA hP hl hret
  have hx := S.1
  have hb := S.2.1
  have hl : lv_has ls 4 [(0, .ref (ac 0)), (1, .int x1)] := hl
  obtain ⟨N_c_size, hN_c_size, hs_c_size⟩ := id hz_c_size
  have hE := hT.symm.trans (FX0_rulesBelow.eq_1 _ _ _ _)
  refine lv_aload_n hx hb dX0_rulesBelow_0 rfl (lv_at hl 0 rfl) ?_
  refine zg0_beats S in_X0_rulesBelow_0 hK hP 0 rfl (List.mem_of_getElem? (i := 1) rfl) dX0_rulesBelow_1 ?_
  refine lv_iload_n hx hb dX0_rulesBelow_4 rfl (lv_at hl 1 rfl) ?_
  refine zl0_beats S hK hP 0 rfl hx1_16 (f := (g0_beats bc)) rfl dX0_rulesBelow_5 ?_
  refine lv_istore_n (lv' := [(2, .int ((g0_beats bc) x1.toNatClampNeg)), (0, .ref (ac 0)), (1, .int x1)]) hx hb dX0_rulesBelow_6 rfl hl (by decide) rfl (fun ls hl => ?_)
  refine lv_iconst (v := 0) hx hb dX0_rulesBelow_7 (by decide) ?_
  have hB53 : ∀ (x2_53 : Int32) (ls : Array Slot), T = FX0_rulesBelow_53 (g0_power bc) (g0_beats bc) (g0_size bc) x1 x2_53 → lv_has ls 4 [(2, .int x2_53)] → W p l e rmX0_rulesBelow s m args below meth c s.heap [] 0 0 Q (F0 m 53 ls []) := by
    intro x2_53 ls hE hl
    have hE := hE.trans (FX0_rulesBelow_53.eq_1 _ _ _ _ _)
    refine lv_iload_n hx hb dX0_rulesBelow_53 rfl (lv_at hl 0 rfl) ?_
    exact hret _ _ _ hE rfl dX0_rulesBelow_54
  have hB9 : ∀ (n9 : Nat) (x2_9 : Int32) (i3_9 : Nat) (ls : Array Slot), (i3_9 ≤ N_c_size) → 17 ≤ i3_9 + n9 → T = FX0_rulesBelow_9 (g0_power bc) (g0_beats bc) (g0_size bc) x1 (FX0_rulesBelow_53 (g0_power bc) (g0_beats bc) (g0_size bc) x1) n9 x2_9 (nI i3_9) → lv_has ls 4 [(0, .ref (ac 0)), (1, .int x1), (2, .int x2_9), (3, .int (nI i3_9))] → W p l e rmX0_rulesBelow s m args below meth c s.heap [] 0 0 Q (F0 m 9 ls []) := by
    intro n9
    induction n9 with
    | zero =>
      intro x2_9 i3_9 ls hi3_9 hn hE hl
      exact absurd hn (by omega)
    | succ n9 ih9 =>
      intro x2_9 i3_9 ls hi3_9 hn hE hl
      have hE := hE.trans (FX0_rulesBelow_9.eq_2 _ _ _ _ _ _ _ _)
      refine lv_iload_n hx hb dX0_rulesBelow_9 rfl (lv_at hl 3 rfl) ?_
      refine lv_aload_n hx hb dX0_rulesBelow_10 rfl (lv_at hl 0 rfl) ?_
      refine zg0_size S in_X0_rulesBelow_0 hK hP 0 rfl (List.mem_of_getElem? (i := 2) rfl) (v := (g0_size bc)) rfl dX0_rulesBelow_11 ?_
      refine lv_icmp_ge (tgt := 53) hx hb dX0_rulesBelow_14 (by decide) (fun c14 => ?_) (fun c14 => ?_)
      · have hE := hE.trans (if_pos c14)
        exact hB53 x2_9 _ hE (lv_sub hl [2] rfl)
      · have hE := hE.trans (if_neg c14)
        have hl3_9 : i3_9 < N_c_size := zlt hs_c_size (by omega) (by omega) c14
        refine lv_aload_n hx hb dX0_rulesBelow_17 rfl (lv_at hl 0 rfl) ?_
        refine zg0_power S in_X0_rulesBelow_0 hK hP 0 rfl (List.mem_of_getElem? (i := 3) rfl) dX0_rulesBelow_18 ?_
        refine lv_iload_n hx hb dX0_rulesBelow_21 rfl (lv_at hl 1 rfl) ?_
        refine zl0_power S hK hP 0 rfl hx1_16 (f := (g0_power bc)) rfl dX0_rulesBelow_22 ?_
        refine lv_aload_n hx hb dX0_rulesBelow_23 rfl (lv_at hl 0 rfl) ?_
        refine zg0_power S in_X0_rulesBelow_0 hK hP 0 rfl (List.mem_of_getElem? (i := 3) rfl) dX0_rulesBelow_24 ?_
        refine lv_iload_n hx hb dX0_rulesBelow_27 rfl (lv_at hl 3 rfl) ?_
        refine zl0_power S hK hP 0 rfl (vp_in_nI (by omega) (by omega)) (f := (g0_power bc)) rfl dX0_rulesBelow_28 ?_
        refine lv_icmp_le (tgt := 47) hx hb dX0_rulesBelow_29 (by decide) (fun c29 => ?_) (fun c29 => ?_)
        · have hE := hE.trans (if_pos c29)
          refine lv_iinc (v := (nI (i3_9 + 1))) (lv' := [(3, .int (nI (i3_9 + 1))), (0, .ref (ac 0)), (1, .int x1), (2, .int x2_9)]) hx hb dX0_rulesBelow_47 hl (k := 3) rfl (nI_1 i3_9) (by decide) rfl (fun ls hl => ?_)
          try rw [nI_1 i3_9] at hE
          refine lv_goto (tgt := 9) hx hb dX0_rulesBelow_50 (by decide) ?_
          exact ih9 x2_9 (i3_9 + 1) _ (by first | assumption | omega) (by omega) hE (lv_sub hl [1, 2, 3, 0] rfl)
        · have hE := hE.trans (if_neg c29)
          refine lv_aload_n hx hb dX0_rulesBelow_32 rfl (lv_at hl 0 rfl) ?_
          refine lv_iload_n hx hb dX0_rulesBelow_33 rfl (lv_at hl 1 rfl) ?_
          refine lv_iload_n hx hb dX0_rulesBelow_34 rfl (lv_at hl 3 rfl) ?_
          obtain ⟨t35, ht35⟩ : ∃ z, FX0_isTold (g0_beats bc) x1 (nI i3_9) = z := ⟨_, rfl⟩
          have hE := hE.trans (bnd_eq ht35)
          have hc := c_X0_isTold l G ac bc x1 (nI i3_9) (hx1_16) ((vp_in_nI (by omega) (by omega))) _ ht35
          refine zgoR (va_runV (As := [.int x1, .int (nI i3_9)]) (rest := []) S (hc _) (cwV 2 S.2.2.2.2 gX0_rulesBelow_X0_isTold rfl rfl rfl (by decide +kernel) ⟨Nat.le_of_ble_eq_true rfl, Nat.le_of_ble_eq_true rfl⟩) (zpV hK hP hD (is := [0]) rfl rfl 0 rfl rfl (ci := 0) rfl) rfl rfl hl.1 rfl (lv_room (Nat.le_of_ble_eq_true rfl)) dX0_rulesBelow_35 ⟨Nat.zero_le _, Nat.zero_le _⟩) (fun hn35 => ?_)
          refine lv_if_ne (tgt := 47) hx hb dX0_rulesBelow_38 (by decide) (fun c38 => ?_) (fun c38 => ?_)
          · have hE := hE.trans (if_neg c38)
            refine lv_iinc (v := (nI (i3_9 + 1))) (lv' := [(3, .int (nI (i3_9 + 1))), (0, .ref (ac 0)), (1, .int x1), (2, .int x2_9)]) hx hb dX0_rulesBelow_47 hl (k := 3) rfl (nI_1 i3_9) (by decide) rfl (fun ls hl => ?_)
            try rw [nI_1 i3_9] at hE
            refine lv_goto (tgt := 9) hx hb dX0_rulesBelow_50 (by decide) ?_
            exact ih9 x2_9 (i3_9 + 1) _ (by first | assumption | omega) (by omega) hE (lv_sub hl [1, 2, 3, 0] rfl)
          · have hE := hE.trans (if_pos c38)
            refine lv_iload_n hx hb dX0_rulesBelow_41 rfl (lv_at hl 2 rfl) ?_
            refine lv_iconst (v := 1) hx hb dX0_rulesBelow_42 (by decide) ?_
            refine lv_iload_n hx hb dX0_rulesBelow_43 rfl (lv_at hl 3 rfl) ?_
            refine lv_ishl hx hb dX0_rulesBelow_44 ?_
            refine lv_ior hx hb dX0_rulesBelow_45 ?_
            refine lv_istore_n (lv' := [(2, .int (x2_9 ||| (1 <<< ((nI i3_9) &&& 31)))), (0, .ref (ac 0)), (1, .int x1), (3, .int (nI i3_9))]) hx hb dX0_rulesBelow_46 rfl hl (by decide) rfl (fun ls hl => ?_)
            refine lv_iinc (v := (nI (i3_9 + 1))) (lv' := [(3, .int (nI (i3_9 + 1))), (2, .int (x2_9 ||| (1 <<< ((nI i3_9) &&& 31)))), (0, .ref (ac 0)), (1, .int x1)]) hx hb dX0_rulesBelow_47 hl (k := 3) rfl (nI_1 i3_9) (by decide) rfl (fun ls hl => ?_)
            try rw [nI_1 i3_9] at hE
            refine lv_goto (tgt := 9) hx hb dX0_rulesBelow_50 (by decide) ?_
            exact ih9 (x2_9 ||| (1 <<< ((nI i3_9) &&& 31))) (i3_9 + 1) _ (by first | assumption | omega) (by omega) hE (lv_sub hl [2, 3, 1, 0] rfl)
  refine lv_istore_n (lv' := [(3, .int 0), (2, .int ((g0_beats bc) x1.toNatClampNeg)), (0, .ref (ac 0)), (1, .int x1)]) hx hb dX0_rulesBelow_8 rfl hl (by decide) rfl (fun ls hl => ?_)
  exact hB9 17 ((g0_beats bc) x1.toNatClampNeg) 0 _ (by first | assumption | omega) (by omega) hE (lv_sub hl [2, 3, 1, 0] rfl)

theorem in_X0_pairs_0 : ∀ w ∈ u_ws RX0 TX0 9, w ∈ wsX0_pairs := by decide +kernel
def rmX0_pairs : Room := { frames := 1, cells := 0, slots := 0, locals := 20 }
set_option maxHeartbeats 4000000 in
set_option maxRecDepth 100000 in
theorem c_X0_pairs (l : Launch) (G : zG) (ac : Nat → Nat) (bc : S0) (hz_c_size : ∃ N : Nat, N ≤ 16 ∧ g0_size bc = nI N) (T : Int32) (hT : FX0_pairs (g0_beats bc) (g0_size bc) = T) : zR l yX0_pairs wsX0_pairs rmX0_pairs .int G [.ref (ac 0)] [w0 G ac bc] T := by
  refine zR.mk (cc := cX0_pairs) (maxL := 3) (by decide +kernel) rfl (Nat.le_of_ble_eq_true rfl) ?_
  intro p e s m args below meth c Q A ls S hK hD hA hP hl hret
  have hx := S.1
  have hb := S.2.1
  have hl : lv_has ls 3 [(0, .ref (ac 0))] := hl
  obtain ⟨N_c_size, hN_c_size, hs_c_size⟩ := id hz_c_size
  have hE := hT.symm.trans (FX0_pairs.eq_1 _ _)
  refine lv_iconst (v := 0) hx hb dX0_pairs_0 (by decide) ?_
  refine lv_istore_n (lv' := [(1, .int 0), (0, .ref (ac 0))]) hx hb dX0_pairs_1 rfl hl (by decide) rfl (fun ls hl => ?_)
  refine lv_iconst (v := 0) hx hb dX0_pairs_2 (by decide) ?_
  have hB30 : ∀ (x1_30 : Int32) (ls : Array Slot), T = FX0_pairs_30 (g0_beats bc) (g0_size bc) x1_30 → lv_has ls 3 [(1, .int x1_30)] → W p l e rmX0_pairs s m args below meth c s.heap [] 0 0 Q (F0 m 30 ls []) := by
    intro x1_30 ls hE hl
    have hE := hE.trans (FX0_pairs_30.eq_1 _ _ _)
    refine lv_iload_n hx hb dX0_pairs_30 rfl (lv_at hl 0 rfl) ?_
    exact hret _ _ _ hE rfl dX0_pairs_31
  have hB4 : ∀ (n4 : Nat) (x1_4 : Int32) (i2_4 : Nat) (ls : Array Slot), (i2_4 ≤ N_c_size) → 17 ≤ i2_4 + n4 → T = FX0_pairs_4 (g0_beats bc) (g0_size bc) (FX0_pairs_30 (g0_beats bc) (g0_size bc)) n4 x1_4 (nI i2_4) → lv_has ls 3 [(0, .ref (ac 0)), (1, .int x1_4), (2, .int (nI i2_4))] → W p l e rmX0_pairs s m args below meth c s.heap [] 0 0 Q (F0 m 4 ls []) := by
    intro n4
    induction n4 with
    | zero =>
      intro x1_4 i2_4 ls hi2_4 hn hE hl
      exact absurd hn (by omega)
    | succ n4 ih4 =>
      intro x1_4 i2_4 ls hi2_4 hn hE hl
      have hE := hE.trans (FX0_pairs_4.eq_2 _ _ _ _ _ _)
      refine lv_iload_n hx hb dX0_pairs_4 rfl (lv_at hl 2 rfl) ?_
      refine lv_aload_n hx hb dX0_pairs_5 rfl (lv_at hl 0 rfl) ?_
      refine zg0_size S in_X0_pairs_0 hK hP 0 rfl (List.mem_of_getElem? (i := 1) rfl) (v := (g0_size bc)) rfl dX0_pairs_6 ?_
      refine lv_icmp_ge (tgt := 30) hx hb dX0_pairs_9 (by decide) (fun c9 => ?_) (fun c9 => ?_)
      · have hE := hE.trans (if_pos c9)
        exact hB30 x1_4 _ hE (lv_sub hl [1] rfl)
      · have hE := hE.trans (if_neg c9)
        have hl2_4 : i2_4 < N_c_size := zlt hs_c_size (by omega) (by omega) c9
        refine lv_iload_n hx hb dX0_pairs_12 rfl (lv_at hl 1 rfl) ?_
        refine lv_aload_n hx hb dX0_pairs_13 rfl (lv_at hl 0 rfl) ?_
        refine zg0_beats S in_X0_pairs_0 hK hP 0 rfl (List.mem_of_getElem? (i := 2) rfl) dX0_pairs_14 ?_
        refine lv_iload_n hx hb dX0_pairs_17 rfl (lv_at hl 2 rfl) ?_
        refine zl0_beats S hK hP 0 rfl (vp_in_nI (by omega) (by omega)) (f := (g0_beats bc)) rfl dX0_pairs_18 ?_
        obtain ⟨t19, ht19⟩ : ∃ z, FJ6_bitCount_0f7a4 ((g0_beats bc) (nI i2_4).toNatClampNeg) = z := ⟨_, rfl⟩
        have hE := hE.trans (bnd_eq ht19)
        have hc := c_J6_bitCount_0f7a4 l G ((g0_beats bc) (nI i2_4).toNatClampNeg) _ ht19
        refine zgoR (va_runS (As := [.int ((g0_beats bc) (nI i2_4).toNatClampNeg)]) (rest := [.int x1_4]) S (hc _) (va_cwS 1 S.2.2.2.2 gX0_pairs_J6_bitCount_0f7a4 rfl rfl rfl (by decide +kernel) ⟨Nat.le_of_ble_eq_true rfl, Nat.le_of_ble_eq_true rfl⟩) (zpS hK hP hD (is := []) rfl rfl) rfl rfl hl.1 rfl (lv_room (Nat.le_of_ble_eq_true rfl)) dX0_pairs_19 ⟨Nat.zero_le _, Nat.zero_le _⟩) (fun hn19 => ?_)
        refine lv_iadd hx hb dX0_pairs_22 ?_
        refine lv_istore_n (lv' := [(1, .int (x1_4 + t19)), (0, .ref (ac 0)), (2, .int (nI i2_4))]) hx hb dX0_pairs_23 rfl hl (by decide) rfl (fun ls hl => ?_)
        refine lv_iinc (v := (nI (i2_4 + 1))) (lv' := [(2, .int (nI (i2_4 + 1))), (1, .int (x1_4 + t19)), (0, .ref (ac 0))]) hx hb dX0_pairs_24 hl (k := 2) rfl (nI_1 i2_4) (by decide) rfl (fun ls hl => ?_)
        try rw [nI_1 i2_4] at hE
        refine lv_goto (tgt := 4) hx hb dX0_pairs_27 (by decide) ?_
        exact ih4 (x1_4 + t19) (i2_4 + 1) _ (by first | assumption | omega) (by omega) hE (lv_sub hl [2, 1, 0] rfl)
  refine lv_istore_n (lv' := [(2, .int 0), (1, .int 0), (0, .ref (ac 0))]) hx hb dX0_pairs_3 rfl hl (by decide) rfl (fun ls hl => ?_)
  exact hB4 17 0 0 _ (by first | assumption | omega) (by omega) hE (lv_sub hl [2, 1, 0] rfl)

