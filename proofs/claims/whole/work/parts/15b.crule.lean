theorem in_X7_readRule_7 : ∀ w ∈ u_ws RX7 TX7 10, w ∈ wsX7_readRule := by decide +kernel
def rmX7_readRule : Room := { frames := 3, cells := 0, slots := 0, locals := 68 }
set_option maxHeartbeats 4000000 in
set_option maxRecDepth 100000 in
theorem c_X7_readRule (l : Launch) (G : zG) (awd : Nat → Nat) (bwd : S7) (hw_wd_at : zTp (g7_length bwd) (g7_at bwd)) (hi_wd_told : vp_in (g7_told bwd) 60) (T : Int32 × (Nat → Int32) × (Nat → Int32) × (Nat → Int32) × (Nat → Int32) × (Nat → Int32) × (Int32)) (hT : FX7_readRule (g7_tape bwd) (g7_sort bwd) (g7_head bwd) (g7_body bwd) (g7_excepts bwd) (g7_power bwd) (g7_length bwd) (g7_at bwd) (g7_told bwd) = T) : zI l yX7_readRule wsX7_readRule rmX7_readRule .boolean G [.ref (awd 0)] [w7 G awd bwd] T.1 [w7 G awd (s7_at (s7_power (s7_excepts (s7_body (s7_head (s7_sort bwd T.2.1) T.2.2.1) T.2.2.2.1) T.2.2.2.2.1) T.2.2.2.2.2.1) T.2.2.2.2.2.2)] := by
  refine zI.mk (cc := cX7_readRule) (maxL := 1) (by decide +kernel) rfl (Nat.le_of_ble_eq_true rfl) (zfl_cons (wf7 _ _ _ _) rfl) ?_
  intro p e s m args below meth c Q A ls S hK hD hA hP hl hret
  have hx := S.1
  have hb := S.2.1
  have hS : va_S A s.heap s.heap [] := va_S.rf
  have hl : lv_has ls 1 [(0, .ref (awd 0))] := hl
  have hE := hT.symm.trans (FX7_readRule.eq_1 _ _ _ _ _ _ _ _ _)
  refine lv_aload_n hx hb dX7_readRule_0 rfl (lv_at hl 0 rfl) ?_
  refine zg7_body S in_X7_readRule_7 hK hP 0 rfl (List.mem_of_getElem? (i := 1) rfl) dX7_readRule_1 ?_
  refine lv_aload_n hx hb dX7_readRule_4 rfl (lv_at hl 0 rfl) ?_
  refine zg7_told S in_X7_readRule_7 hK hP 0 rfl (List.mem_of_getElem? (i := 2) rfl) (v := (g7_told bwd)) rfl dX7_readRule_5 ?_
  refine lv_aload_n hx hb dX7_readRule_8 rfl (lv_at hl 0 rfl) ?_
  obtain ⟨t9, ht9⟩ : ∃ z, FX7_startsWithArrow (g7_tape bwd) (g7_length bwd) (g7_at bwd) = z := ⟨_, rfl⟩
  have hE := hE.trans (bnd_eq ht9)
  have hc := c_X7_startsWithArrow l G awd bwd (hw_wd_at) _ ht9
  refine zgoR (va_runV (As := []) (rest := [.int (g7_told bwd), .ref (awd 4)]) S (hc _) (cwV 0 S.2.2.2.2 gX7_readRule_X7_startsWithArrow rfl rfl rfl (by decide +kernel) ⟨Nat.le_of_ble_eq_true rfl, Nat.le_of_ble_eq_true rfl⟩) (zpV hK hP hD (is := [0]) rfl rfl 0 rfl rfl (ci := 7) rfl) rfl rfl hl.1 rfl (lv_room (Nat.le_of_ble_eq_true rfl)) dX7_readRule_9 ⟨Nat.zero_le _, Nat.zero_le _⟩) (fun hn9 => ?_)
  have hB23 : ∀ (k2_23 : Int32) (wd_at_23 : Int32) (H : Heap) (locs : List Loc) (ls : Array Slot), (zTp (g7_length bwd) (wd_at_23)) → T = FX7_readRule_23 (g7_tape bwd) (g7_sort bwd) (g7_head bwd) (g7_body bwd) (g7_excepts bwd) (g7_power bwd) (g7_length bwd) (g7_at bwd) (g7_told bwd) (g7_told bwd) k2_23 (g7_sort bwd) (g7_head bwd) (g7_body bwd) (g7_excepts bwd) (g7_power bwd) wd_at_23 → zP G [w7 G awd (s7_at bwd wd_at_23)] H → zD A [w7 G awd (s7_at bwd wd_at_23)] → va_S A s.heap H locs → lv_has ls 1 [(0, .ref (awd 0))] → W p l e rmX7_readRule s m args below meth c H locs 0 0 Q (F0 m 23 ls [.int k2_23, .int (g7_told bwd), .ref (awd 4)]) := by
    intro k2_23 wd_at_23 H locs ls hw_wd_at_B23 hE hP hD hS hl
    have hE := hE.trans (FX7_readRule_23.eq_1 _ _ _ _ _ _ _ _ _ _ _ _ _ _ _ _ _)
    refine zs7_body (bs1 := [w7 G awd (s7_body (s7_at bwd wd_at_23) (upd (g7_body bwd) (g7_told bwd).toNatClampNeg k2_23))]) S hK hP hD hS 0 rfl hi_wd_told (f := (g7_body bwd)) (gs7_body_at _ wd_at_23) dX7_readRule_23 rfl (fun H locs hP hD hS => ?_)
    obtain ⟨u23, hu23⟩ : ∃ z, upd (g7_body bwd) (g7_told bwd).toNatClampNeg k2_23 = z := ⟨_, rfl⟩
    rw [hu23] at hP hD
    have hE := hE.trans (bnd_eq hu23)
    refine lv_aload_n hx hb dX7_readRule_24 rfl (lv_at hl 0 rfl) ?_
    refine zg7_body S in_X7_readRule_7 hK hP 0 rfl (List.mem_of_getElem? (i := 1) rfl) dX7_readRule_25 ?_
    refine lv_aload_n hx hb dX7_readRule_28 rfl (lv_at hl 0 rfl) ?_
    refine zg7_told S in_X7_readRule_7 hK hP 0 rfl (List.mem_of_getElem? (i := 2) rfl) (v := (g7_told bwd)) ((gs7_told_body _ u23).trans (gs7_told_at _ wd_at_23)) dX7_readRule_29 ?_
    refine zl7_body S hK hP 0 rfl hi_wd_told (f := u23) (gg7_body _ u23) dX7_readRule_32 ?_
    refine lv_iconst (v := (-1)) hx hb dX7_readRule_33 (by decide) ?_
    refine lv_icmp_ne (tgt := 39) hx hb dX7_readRule_34 (by decide) (fun c34 => ?_) (fun c34 => ?_)
    · have hE := hE.trans (if_neg c34)
      refine lv_aload_n hx hb dX7_readRule_39 rfl (lv_at hl 0 rfl) ?_
      refine zg7_sort S in_X7_readRule_7 hK hP 0 rfl (List.mem_of_getElem? (i := 3) rfl) dX7_readRule_40 ?_
      refine lv_aload_n hx hb dX7_readRule_43 rfl (lv_at hl 0 rfl) ?_
      refine zg7_told S in_X7_readRule_7 hK hP 0 rfl (List.mem_of_getElem? (i := 2) rfl) (v := (g7_told bwd)) ((gs7_told_body _ u23).trans (gs7_told_at _ wd_at_23)) dX7_readRule_44 ?_
      refine lv_aload_n hx hb dX7_readRule_47 rfl (lv_at hl 0 rfl) ?_
      obtain ⟨t48, ht48⟩ : ∃ z, FX7_readArrow (g7_tape bwd) (g7_length bwd) wd_at_23 = z := ⟨_, rfl⟩
      have hE := hE.trans (bnd_eq ht48)
      have hc := c_X7_readArrow l G awd (s7_body (s7_at bwd wd_at_23) u23) (hw_wd_at_B23) _ (by simp only [gs7_tape_body, gs7_tape_at, gs7_length_body, gs7_length_at, gs7_at_body, gg7_at]; exact ht48)
      refine zgoI (bs' := [w7 G awd (s7_at (s7_body (s7_at bwd wd_at_23) u23) t48.2)]) hc [0] rfl rfl rfl hP hD hS hA (va_runV (As := []) (rest := [.int (g7_told bwd), .ref (awd 2)]) S (hc.2 _) (cwV 0 S.2.2.2.2 gX7_readRule_X7_readArrow rfl rfl rfl (by decide +kernel) ⟨Nat.le_of_ble_eq_true rfl, Nat.le_of_ble_eq_true rfl⟩) (zpV hK hP hD (is := [0]) rfl rfl 0 rfl rfl (ci := 7) rfl) rfl rfl hl.1 rfl (lv_room (Nat.le_of_ble_eq_true rfl)) dX7_readRule_48 ⟨Nat.zero_le _, Nat.zero_le _⟩) (fun H locs hn48 hP hD hS => ?_)
      have hw_wd_at_48 : zTp (g7_length bwd) (t48.2) := by rw [← ht48]; exact zTp_readArrow hw_wd_at_B23
      refine zs7_sort (bs1 := [w7 G awd (s7_sort (s7_at (s7_body (s7_at bwd wd_at_23) u23) t48.2) (upd (g7_sort bwd) (g7_told bwd).toNatClampNeg t48.1))]) S hK hP hD hS 0 rfl hi_wd_told (f := (g7_sort bwd)) ((gs7_sort_at _ t48.2).trans ((gs7_sort_body _ u23).trans (gs7_sort_at _ wd_at_23))) dX7_readRule_51 rfl (fun H locs hP hD hS => ?_)
      obtain ⟨u51, hu51⟩ : ∃ z, upd (g7_sort bwd) (g7_told bwd).toNatClampNeg t48.1 = z := ⟨_, rfl⟩
      rw [hu51] at hP hD
      have hE := hE.trans (bnd_eq hu51)
      refine lv_aload_n hx hb dX7_readRule_52 rfl (lv_at hl 0 rfl) ?_
      refine zg7_sort S in_X7_readRule_7 hK hP 0 rfl (List.mem_of_getElem? (i := 3) rfl) dX7_readRule_53 ?_
      refine lv_aload_n hx hb dX7_readRule_56 rfl (lv_at hl 0 rfl) ?_
      refine zg7_told S in_X7_readRule_7 hK hP 0 rfl (List.mem_of_getElem? (i := 2) rfl) (v := (g7_told bwd)) ((gs7_told_sort _ u51).trans ((gs7_told_at _ t48.2).trans ((gs7_told_body _ u23).trans (gs7_told_at _ wd_at_23)))) dX7_readRule_57 ?_
      refine zl7_sort S hK hP 0 rfl hi_wd_told (f := u51) (gg7_sort _ u51) dX7_readRule_60 ?_
      refine lv_iconst (v := (-1)) hx hb dX7_readRule_61 (by decide) ?_
      refine lv_icmp_ne (tgt := 67) hx hb dX7_readRule_62 (by decide) (fun c62 => ?_) (fun c62 => ?_)
      · have hE := hE.trans (if_neg c62)
        refine lv_aload_n hx hb dX7_readRule_67 rfl (lv_at hl 0 rfl) ?_
        refine zg7_head S in_X7_readRule_7 hK hP 0 rfl (List.mem_of_getElem? (i := 4) rfl) dX7_readRule_68 ?_
        refine lv_aload_n hx hb dX7_readRule_71 rfl (lv_at hl 0 rfl) ?_
        refine zg7_told S in_X7_readRule_7 hK hP 0 rfl (List.mem_of_getElem? (i := 2) rfl) (v := (g7_told bwd)) ((gs7_told_sort _ u51).trans ((gs7_told_at _ t48.2).trans ((gs7_told_body _ u23).trans (gs7_told_at _ wd_at_23)))) dX7_readRule_72 ?_
        refine lv_aload_n hx hb dX7_readRule_75 rfl (lv_at hl 0 rfl) ?_
        obtain ⟨t76, ht76⟩ : ∃ z, FX7_readLiteral (g7_tape bwd) (g7_length bwd) t48.2 = z := ⟨_, rfl⟩
        have hE := hE.trans (bnd_eq ht76)
        have hc := c_X7_readLiteral l G awd (s7_sort (s7_at (s7_body (s7_at bwd wd_at_23) u23) t48.2) u51) (hw_wd_at_48) _ (by simp only [gs7_tape_sort, gs7_tape_at, gs7_tape_body, gs7_length_sort, gs7_length_at, gs7_length_body, gs7_at_sort, gg7_at]; exact ht76)
        refine zgoI (bs' := [w7 G awd (s7_at (s7_sort (s7_at (s7_body (s7_at bwd wd_at_23) u23) t48.2) u51) t76.2)]) hc [0] rfl rfl rfl hP hD hS hA (va_runV (As := []) (rest := [.int (g7_told bwd), .ref (awd 3)]) S (hc.2 _) (cwV 0 S.2.2.2.2 gX7_readRule_X7_readLiteral rfl rfl rfl (by decide +kernel) ⟨Nat.le_of_ble_eq_true rfl, Nat.le_of_ble_eq_true rfl⟩) (zpV hK hP hD (is := [0]) rfl rfl 0 rfl rfl (ci := 7) rfl) rfl rfl hl.1 rfl (lv_room (Nat.le_of_ble_eq_true rfl)) dX7_readRule_76 ⟨Nat.zero_le _, Nat.zero_le _⟩) (fun H locs hn76 hP hD hS => ?_)
        have hw_wd_at_76 : zTp (g7_length bwd) (t76.2) := by rw [← ht76]; exact zTp_readLiteral hw_wd_at_48
        refine zs7_head (bs1 := [w7 G awd (s7_head (s7_at (s7_sort (s7_at (s7_body (s7_at bwd wd_at_23) u23) t48.2) u51) t76.2) (upd (g7_head bwd) (g7_told bwd).toNatClampNeg t76.1))]) S hK hP hD hS 0 rfl hi_wd_told (f := (g7_head bwd)) ((gs7_head_at _ t76.2).trans ((gs7_head_sort _ u51).trans ((gs7_head_at _ t48.2).trans ((gs7_head_body _ u23).trans (gs7_head_at _ wd_at_23))))) dX7_readRule_79 rfl (fun H locs hP hD hS => ?_)
        obtain ⟨u79, hu79⟩ : ∃ z, upd (g7_head bwd) (g7_told bwd).toNatClampNeg t76.1 = z := ⟨_, rfl⟩
        rw [hu79] at hP hD
        have hE := hE.trans (bnd_eq hu79)
        refine lv_aload_n hx hb dX7_readRule_80 rfl (lv_at hl 0 rfl) ?_
        refine zg7_head S in_X7_readRule_7 hK hP 0 rfl (List.mem_of_getElem? (i := 4) rfl) dX7_readRule_81 ?_
        refine lv_aload_n hx hb dX7_readRule_84 rfl (lv_at hl 0 rfl) ?_
        refine zg7_told S in_X7_readRule_7 hK hP 0 rfl (List.mem_of_getElem? (i := 2) rfl) (v := (g7_told bwd)) ((gs7_told_head _ u79).trans ((gs7_told_at _ t76.2).trans ((gs7_told_sort _ u51).trans ((gs7_told_at _ t48.2).trans ((gs7_told_body _ u23).trans (gs7_told_at _ wd_at_23)))))) dX7_readRule_85 ?_
        refine zl7_head S hK hP 0 rfl hi_wd_told (f := u79) (gg7_head _ u79) dX7_readRule_88 ?_
        refine lv_iconst (v := (-1)) hx hb dX7_readRule_89 (by decide) ?_
        refine lv_icmp_ne (tgt := 95) hx hb dX7_readRule_90 (by decide) (fun c90 => ?_) (fun c90 => ?_)
        · have hE := hE.trans (if_neg c90)
          refine lv_aload_n hx hb dX7_readRule_95 rfl (lv_at hl 0 rfl) ?_
          refine zg7_excepts S in_X7_readRule_7 hK hP 0 rfl (List.mem_of_getElem? (i := 5) rfl) dX7_readRule_96 ?_
          refine lv_aload_n hx hb dX7_readRule_99 rfl (lv_at hl 0 rfl) ?_
          refine zg7_told S in_X7_readRule_7 hK hP 0 rfl (List.mem_of_getElem? (i := 2) rfl) (v := (g7_told bwd)) ((gs7_told_head _ u79).trans ((gs7_told_at _ t76.2).trans ((gs7_told_sort _ u51).trans ((gs7_told_at _ t48.2).trans ((gs7_told_body _ u23).trans (gs7_told_at _ wd_at_23)))))) dX7_readRule_100 ?_
          refine lv_aload_n hx hb dX7_readRule_103 rfl (lv_at hl 0 rfl) ?_
          refine lv_bipush (v := 63) hx hb dX7_readRule_104 (by decide) ?_
          obtain ⟨t106, ht106⟩ : ∃ z, FX7_take (g7_tape bwd) (g7_length bwd) t76.2 63 = z := ⟨_, rfl⟩
          have hE := hE.trans (bnd_eq ht106)
          have hc := c_X7_take l G awd (s7_head (s7_at (s7_sort (s7_at (s7_body (s7_at bwd wd_at_23) u23) t48.2) u51) t76.2) u79) 63 (hw_wd_at_76) _ (by simp only [gs7_tape_head, gs7_tape_at, gs7_tape_sort, gs7_tape_body, gs7_length_head, gs7_length_at, gs7_length_sort, gs7_length_body, gs7_at_head, gg7_at]; exact ht106)
          refine zgoI (bs' := [w7 G awd (s7_at (s7_head (s7_at (s7_sort (s7_at (s7_body (s7_at bwd wd_at_23) u23) t48.2) u51) t76.2) u79) t106.2)]) hc [0] rfl rfl rfl hP hD hS hA (va_runV (As := [.int 63]) (rest := [.int (g7_told bwd), .ref (awd 5)]) S (hc.2 _) (cwV 1 S.2.2.2.2 gX7_readRule_X7_take rfl rfl rfl (by decide +kernel) ⟨Nat.le_of_ble_eq_true rfl, Nat.le_of_ble_eq_true rfl⟩) (zpV hK hP hD (is := [0]) rfl rfl 0 rfl rfl (ci := 7) rfl) rfl rfl hl.1 rfl (lv_room (Nat.le_of_ble_eq_true rfl)) dX7_readRule_106 ⟨Nat.zero_le _, Nat.zero_le _⟩) (fun H locs hn106 hP hD hS => ?_)
          have hw_wd_at_106 : zTp (g7_length bwd) (t106.2) := by rw [← ht106]; exact zTp_take hw_wd_at_76
          have hB120 : ∀ (k2_120 : Int32) (wd_at_120 : Int32) (H : Heap) (locs : List Loc) (ls : Array Slot), (zTp (g7_length bwd) (wd_at_120)) → T = FX7_readRule_120 (g7_tape bwd) (g7_sort bwd) (g7_head bwd) (g7_body bwd) (g7_excepts bwd) (g7_power bwd) (g7_length bwd) (g7_at bwd) (g7_told bwd) (g7_told bwd) k2_120 u51 u79 u23 (g7_excepts bwd) (g7_power bwd) wd_at_120 → zP G [w7 G awd (s7_at (s7_body (s7_head (s7_sort bwd u51) u79) u23) wd_at_120)] H → zD A [w7 G awd (s7_at (s7_body (s7_head (s7_sort bwd u51) u79) u23) wd_at_120)] → va_S A s.heap H locs → lv_has ls 1 [(0, .ref (awd 0))] → W p l e rmX7_readRule s m args below meth c H locs 0 0 Q (F0 m 120 ls [.int k2_120, .int (g7_told bwd), .ref (awd 5)]) := by
            intro k2_120 wd_at_120 H locs ls hw_wd_at_B120 hE hP hD hS hl
            have hE := hE.trans (FX7_readRule_120.eq_1 _ _ _ _ _ _ _ _ _ _ _ _ _ _ _ _ _)
            refine zs7_excepts (bs1 := [w7 G awd (s7_excepts (s7_at (s7_body (s7_head (s7_sort bwd u51) u79) u23) wd_at_120) (upd (g7_excepts bwd) (g7_told bwd).toNatClampNeg k2_120))]) S hK hP hD hS 0 rfl hi_wd_told (f := (g7_excepts bwd)) ((gs7_excepts_at _ wd_at_120).trans ((gs7_excepts_body _ u23).trans ((gs7_excepts_head _ u79).trans (gs7_excepts_sort _ u51)))) dX7_readRule_120 rfl (fun H locs hP hD hS => ?_)
            obtain ⟨u120, hu120⟩ : ∃ z, upd (g7_excepts bwd) (g7_told bwd).toNatClampNeg k2_120 = z := ⟨_, rfl⟩
            rw [hu120] at hP hD
            have hE := hE.trans (bnd_eq hu120)
            refine lv_aload_n hx hb dX7_readRule_121 rfl (lv_at hl 0 rfl) ?_
            refine zg7_excepts S in_X7_readRule_7 hK hP 0 rfl (List.mem_of_getElem? (i := 5) rfl) dX7_readRule_122 ?_
            refine lv_aload_n hx hb dX7_readRule_125 rfl (lv_at hl 0 rfl) ?_
            refine zg7_told S in_X7_readRule_7 hK hP 0 rfl (List.mem_of_getElem? (i := 2) rfl) (v := (g7_told bwd)) ((gs7_told_excepts _ u120).trans ((gs7_told_at _ wd_at_120).trans ((gs7_told_body _ u23).trans ((gs7_told_head _ u79).trans (gs7_told_sort _ u51))))) dX7_readRule_126 ?_
            refine zl7_excepts S hK hP 0 rfl hi_wd_told (f := u120) (gg7_excepts _ u120) dX7_readRule_129 ?_
            refine lv_iconst (v := (-1)) hx hb dX7_readRule_130 (by decide) ?_
            refine lv_icmp_ne (tgt := 136) hx hb dX7_readRule_131 (by decide) (fun c131 => ?_) (fun c131 => ?_)
            · have hE := hE.trans (if_neg c131)
              refine lv_aload_n hx hb dX7_readRule_136 rfl (lv_at hl 0 rfl) ?_
              refine zg7_power S in_X7_readRule_7 hK hP 0 rfl (List.mem_of_getElem? (i := 6) rfl) dX7_readRule_137 ?_
              refine lv_aload_n hx hb dX7_readRule_140 rfl (lv_at hl 0 rfl) ?_
              refine zg7_told S in_X7_readRule_7 hK hP 0 rfl (List.mem_of_getElem? (i := 2) rfl) (v := (g7_told bwd)) ((gs7_told_excepts _ u120).trans ((gs7_told_at _ wd_at_120).trans ((gs7_told_body _ u23).trans ((gs7_told_head _ u79).trans (gs7_told_sort _ u51))))) dX7_readRule_141 ?_
              refine lv_aload_n hx hb dX7_readRule_144 rfl (lv_at hl 0 rfl) ?_
              refine lv_bipush (v := 42) hx hb dX7_readRule_145 (by decide) ?_
              obtain ⟨t147, ht147⟩ : ∃ z, FX7_take (g7_tape bwd) (g7_length bwd) wd_at_120 42 = z := ⟨_, rfl⟩
              have hE := hE.trans (bnd_eq ht147)
              have hc := c_X7_take l G awd (s7_excepts (s7_at (s7_body (s7_head (s7_sort bwd u51) u79) u23) wd_at_120) u120) 42 (hw_wd_at_B120) _ (by simp only [gs7_tape_excepts, gs7_tape_at, gs7_tape_body, gs7_tape_head, gs7_tape_sort, gs7_length_excepts, gs7_length_at, gs7_length_body, gs7_length_head, gs7_length_sort, gs7_at_excepts, gg7_at]; exact ht147)
              refine zgoI (bs' := [w7 G awd (s7_at (s7_excepts (s7_at (s7_body (s7_head (s7_sort bwd u51) u79) u23) wd_at_120) u120) t147.2)]) hc [0] rfl rfl rfl hP hD hS hA (va_runV (As := [.int 42]) (rest := [.int (g7_told bwd), .ref (awd 6)]) S (hc.2 _) (cwV 1 S.2.2.2.2 gX7_readRule_X7_take rfl rfl rfl (by decide +kernel) ⟨Nat.le_of_ble_eq_true rfl, Nat.le_of_ble_eq_true rfl⟩) (zpV hK hP hD (is := [0]) rfl rfl 0 rfl rfl (ci := 7) rfl) rfl rfl hl.1 rfl (lv_room (Nat.le_of_ble_eq_true rfl)) dX7_readRule_147 ⟨Nat.zero_le _, Nat.zero_le _⟩) (fun H locs hn147 hP hD hS => ?_)
              have hw_wd_at_147 : zTp (g7_length bwd) (t147.2) := by rw [← ht147]; exact zTp_take hw_wd_at_B120
              have hB161 : ∀ (k2_161 : Int32) (wd_at_161 : Int32) (H : Heap) (locs : List Loc) (ls : Array Slot), (zTp (g7_length bwd) (wd_at_161)) → T = FX7_readRule_161 (g7_tape bwd) (g7_sort bwd) (g7_head bwd) (g7_body bwd) (g7_excepts bwd) (g7_power bwd) (g7_length bwd) (g7_at bwd) (g7_told bwd) (g7_told bwd) k2_161 u51 u79 u23 u120 (g7_power bwd) wd_at_161 → zP G [w7 G awd (s7_at (s7_excepts (s7_body (s7_head (s7_sort bwd u51) u79) u23) u120) wd_at_161)] H → zD A [w7 G awd (s7_at (s7_excepts (s7_body (s7_head (s7_sort bwd u51) u79) u23) u120) wd_at_161)] → va_S A s.heap H locs → lv_has ls 1 [(0, .ref (awd 0))] → W p l e rmX7_readRule s m args below meth c H locs 0 0 Q (F0 m 161 ls [.int k2_161, .int (g7_told bwd), .ref (awd 6)]) := by
                intro k2_161 wd_at_161 H locs ls hw_wd_at_B161 hE hP hD hS hl
                have hE := hE.trans (FX7_readRule_161.eq_1 _ _ _ _ _ _ _ _ _ _ _ _ _ _ _ _ _)
                refine zs7_power (bs1 := [w7 G awd (s7_power (s7_at (s7_excepts (s7_body (s7_head (s7_sort bwd u51) u79) u23) u120) wd_at_161) (upd (g7_power bwd) (g7_told bwd).toNatClampNeg k2_161))]) S hK hP hD hS 0 rfl hi_wd_told (f := (g7_power bwd)) ((gs7_power_at _ wd_at_161).trans ((gs7_power_excepts _ u120).trans ((gs7_power_body _ u23).trans ((gs7_power_head _ u79).trans (gs7_power_sort _ u51))))) dX7_readRule_161 rfl (fun H locs hP hD hS => ?_)
                obtain ⟨u161, hu161⟩ : ∃ z, upd (g7_power bwd) (g7_told bwd).toNatClampNeg k2_161 = z := ⟨_, rfl⟩
                rw [hu161] at hP hD
                have hE := hE.trans (bnd_eq hu161)
                refine lv_aload_n hx hb dX7_readRule_162 rfl (lv_at hl 0 rfl) ?_
                refine zg7_power S in_X7_readRule_7 hK hP 0 rfl (List.mem_of_getElem? (i := 6) rfl) dX7_readRule_163 ?_
                refine lv_aload_n hx hb dX7_readRule_166 rfl (lv_at hl 0 rfl) ?_
                refine zg7_told S in_X7_readRule_7 hK hP 0 rfl (List.mem_of_getElem? (i := 2) rfl) (v := (g7_told bwd)) ((gs7_told_power _ u161).trans ((gs7_told_at _ wd_at_161).trans ((gs7_told_excepts _ u120).trans ((gs7_told_body _ u23).trans ((gs7_told_head _ u79).trans (gs7_told_sort _ u51)))))) dX7_readRule_167 ?_
                refine zl7_power S hK hP 0 rfl hi_wd_told (f := u161) (gg7_power _ u161) dX7_readRule_170 ?_
                refine lv_iconst (v := (-1)) hx hb dX7_readRule_171 (by decide) ?_
                refine lv_icmp_eq (tgt := 179) hx hb dX7_readRule_172 (by decide) (fun c172 => ?_) (fun c172 => ?_)
                · have hE := hE.trans (if_pos c172)
                  refine lv_iconst (v := 0) hx hb dX7_readRule_179 (by decide) ?_
                  rw [show (s7_power (s7_at (s7_excepts (s7_body (s7_head (s7_sort bwd u51) u79) u23) u120) wd_at_161) u161) = (s7_at (s7_power (s7_excepts (s7_body (s7_head (s7_sort bwd u51) u79) u23) u120) u161) wd_at_161) from (cm7_power_at _ wd_at_161 u161)] at hP hD
                  exact hret _ _ _ _ _ _ (by subst hE; rfl) zn0 hP hS dX7_readRule_180
                · have hE := hE.trans (if_neg c172)
                  refine lv_iconst (v := 1) hx hb dX7_readRule_175 (by decide) ?_
                  refine lv_goto (tgt := 180) hx hb dX7_readRule_176 (by decide) ?_
                  rw [show (s7_power (s7_at (s7_excepts (s7_body (s7_head (s7_sort bwd u51) u79) u23) u120) wd_at_161) u161) = (s7_at (s7_power (s7_excepts (s7_body (s7_head (s7_sort bwd u51) u79) u23) u120) u161) wd_at_161) from (cm7_power_at _ wd_at_161 u161)] at hP hD
                  exact hret _ _ _ _ _ _ (by subst hE; rfl) zn1 hP hS dX7_readRule_180
              refine lv_if_eq (tgt := 160) hx hb dX7_readRule_150 (by decide) (fun c150 => ?_) (fun c150 => ?_)
              · have hE := hE.trans (if_pos c150)
                refine lv_iconst (v := 0) hx hb dX7_readRule_160 (by decide) ?_
                rw [show (s7_at (s7_excepts (s7_at (s7_body (s7_head (s7_sort bwd u51) u79) u23) wd_at_120) u120) t147.2) = (s7_at (s7_excepts (s7_body (s7_head (s7_sort bwd u51) u79) u23) u120) t147.2) from ((congrArg (fun z => s7_at z t147.2) (cm7_excepts_at _ wd_at_120 u120)).trans (ss7_at _ wd_at_120 t147.2))] at hP hD
                exact hB161 0 t147.2 _ _ _ (by exact hw_wd_at_147) hE hP hD hS (lv_sub hl [0] rfl)
              · have hE := hE.trans (if_neg c150)
                refine lv_aload_n hx hb dX7_readRule_153 rfl (lv_at hl 0 rfl) ?_
                obtain ⟨t154, ht154⟩ : ∃ z, FX7_readFigure (g7_tape bwd) (g7_length bwd) t147.2 = z := ⟨_, rfl⟩
                have hE := hE.trans (bnd_eq ht154)
                have hc := c_X7_readFigure l G awd (s7_at (s7_excepts (s7_at (s7_body (s7_head (s7_sort bwd u51) u79) u23) wd_at_120) u120) t147.2) (hw_wd_at_147) _ (by simp only [gs7_tape_at, gs7_tape_excepts, gs7_tape_body, gs7_tape_head, gs7_tape_sort, gs7_length_at, gs7_length_excepts, gs7_length_body, gs7_length_head, gs7_length_sort, gg7_at]; exact ht154)
                refine zgoI (bs' := [w7 G awd (s7_at (s7_at (s7_excepts (s7_at (s7_body (s7_head (s7_sort bwd u51) u79) u23) wd_at_120) u120) t147.2) t154.2)]) hc [0] rfl rfl rfl hP hD hS hA (va_runV (As := []) (rest := [.int (g7_told bwd), .ref (awd 6)]) S (hc.2 _) (cwV 0 S.2.2.2.2 gX7_readRule_X7_readFigure rfl rfl rfl (by decide +kernel) ⟨Nat.le_of_ble_eq_true rfl, Nat.le_of_ble_eq_true rfl⟩) (zpV hK hP hD (is := [0]) rfl rfl 0 rfl rfl (ci := 7) rfl) rfl rfl hl.1 rfl (lv_room (Nat.le_of_ble_eq_true rfl)) dX7_readRule_154 ⟨Nat.zero_le _, Nat.zero_le _⟩) (fun H locs hn154 hP hD hS => ?_)
                have hw_wd_at_154 : zTp (g7_length bwd) (t154.2) := by rw [← ht154]; exact zTp_readFigure hw_wd_at_147
                refine lv_goto (tgt := 161) hx hb dX7_readRule_157 (by decide) ?_
                rw [show (s7_at (s7_at (s7_excepts (s7_at (s7_body (s7_head (s7_sort bwd u51) u79) u23) wd_at_120) u120) t147.2) t154.2) = (s7_at (s7_excepts (s7_body (s7_head (s7_sort bwd u51) u79) u23) u120) t154.2) from ((congrArg (fun z => s7_at z t154.2) ((congrArg (fun z => s7_at z t147.2) (cm7_excepts_at _ wd_at_120 u120)).trans (ss7_at _ wd_at_120 t147.2))).trans (ss7_at _ t147.2 t154.2))] at hP hD
                exact hB161 t154.1 t154.2 _ _ _ (by exact hw_wd_at_154) hE hP hD hS (lv_sub hl [0] rfl)
            · have hE := hE.trans (if_pos c131)
              refine lv_iconst (v := 0) hx hb dX7_readRule_134 (by decide) ?_
              rw [show (s7_excepts (s7_at (s7_body (s7_head (s7_sort bwd u51) u79) u23) wd_at_120) u120) = (s7_at (s7_power (s7_excepts (s7_body (s7_head (s7_sort bwd u51) u79) u23) u120) (g7_power bwd)) wd_at_120) from ((cm7_excepts_at _ wd_at_120 u120).trans (congrArg (fun z => s7_at z wd_at_120) (((se7_power _).symm).trans (congrArg (fun v => s7_power (s7_excepts (s7_body (s7_head (s7_sort bwd u51) u79) u23) u120) v) ((gs7_power_excepts _ u120).trans ((gs7_power_body _ u23).trans ((gs7_power_head _ u79).trans (gs7_power_sort _ u51))))))))] at hP hD
              exact hret _ _ _ _ _ _ (by subst hE; rfl) zn0 hP hS dX7_readRule_135
          refine lv_if_eq (tgt := 119) hx hb dX7_readRule_109 (by decide) (fun c109 => ?_) (fun c109 => ?_)
          · have hE := hE.trans (if_pos c109)
            refine lv_iconst (v := 0) hx hb dX7_readRule_119 (by decide) ?_
            rw [show (s7_at (s7_head (s7_at (s7_sort (s7_at (s7_body (s7_at bwd wd_at_23) u23) t48.2) u51) t76.2) u79) t106.2) = (s7_at (s7_body (s7_head (s7_sort bwd u51) u79) u23) t106.2) from ((congrArg (fun z => s7_at z t106.2) ((congrArg (fun z => s7_head z u79) ((congrArg (fun z => s7_at z t76.2) ((congrArg (fun z => s7_sort z u51) ((congrArg (fun z => s7_at z t48.2) (cm7_body_at _ wd_at_23 u23)).trans (ss7_at _ wd_at_23 t48.2))).trans ((cm7_sort_at _ t48.2 u51).trans (congrArg (fun z => s7_at z t48.2) (cm7_sort_body _ u23 u51))))).trans (ss7_at _ t48.2 t76.2))).trans ((cm7_head_at _ t76.2 u79).trans (congrArg (fun z => s7_at z t76.2) (cm7_head_body _ u23 u79))))).trans (ss7_at _ t76.2 t106.2))] at hP hD
            exact hB120 0 t106.2 _ _ _ (by exact hw_wd_at_106) hE hP hD hS (lv_sub hl [0] rfl)
          · have hE := hE.trans (if_neg c109)
            refine lv_aload_n hx hb dX7_readRule_112 rfl (lv_at hl 0 rfl) ?_
            obtain ⟨t113, ht113⟩ : ∃ z, FX7_readLiterals (g7_tape bwd) (g7_length bwd) t106.2 = z := ⟨_, rfl⟩
            have hE := hE.trans (bnd_eq ht113)
            have hc := c_X7_readLiterals l G awd (s7_at (s7_head (s7_at (s7_sort (s7_at (s7_body (s7_at bwd wd_at_23) u23) t48.2) u51) t76.2) u79) t106.2) (hw_wd_at_106) _ (by simp only [gs7_tape_at, gs7_tape_head, gs7_tape_sort, gs7_tape_body, gs7_length_at, gs7_length_head, gs7_length_sort, gs7_length_body, gg7_at]; exact ht113)
            refine zgoI (bs' := [w7 G awd (s7_at (s7_at (s7_head (s7_at (s7_sort (s7_at (s7_body (s7_at bwd wd_at_23) u23) t48.2) u51) t76.2) u79) t106.2) t113.2)]) hc [0] rfl rfl rfl hP hD hS hA (va_runV (As := []) (rest := [.int (g7_told bwd), .ref (awd 5)]) S (hc.2 _) (cwV 0 S.2.2.2.2 gX7_readRule_X7_readLiterals rfl rfl rfl (by decide +kernel) ⟨Nat.le_of_ble_eq_true rfl, Nat.le_of_ble_eq_true rfl⟩) (zpV hK hP hD (is := [0]) rfl rfl 0 rfl rfl (ci := 7) rfl) rfl rfl hl.1 rfl (lv_room (Nat.le_of_ble_eq_true rfl)) dX7_readRule_113 ⟨Nat.zero_le _, Nat.zero_le _⟩) (fun H locs hn113 hP hD hS => ?_)
            have hw_wd_at_113 : zTp (g7_length bwd) (t113.2) := by rw [← ht113]; exact zTp_readLiterals hw_wd_at_106
            refine lv_goto (tgt := 120) hx hb dX7_readRule_116 (by decide) ?_
            rw [show (s7_at (s7_at (s7_head (s7_at (s7_sort (s7_at (s7_body (s7_at bwd wd_at_23) u23) t48.2) u51) t76.2) u79) t106.2) t113.2) = (s7_at (s7_body (s7_head (s7_sort bwd u51) u79) u23) t113.2) from ((congrArg (fun z => s7_at z t113.2) ((congrArg (fun z => s7_at z t106.2) ((congrArg (fun z => s7_head z u79) ((congrArg (fun z => s7_at z t76.2) ((congrArg (fun z => s7_sort z u51) ((congrArg (fun z => s7_at z t48.2) (cm7_body_at _ wd_at_23 u23)).trans (ss7_at _ wd_at_23 t48.2))).trans ((cm7_sort_at _ t48.2 u51).trans (congrArg (fun z => s7_at z t48.2) (cm7_sort_body _ u23 u51))))).trans (ss7_at _ t48.2 t76.2))).trans ((cm7_head_at _ t76.2 u79).trans (congrArg (fun z => s7_at z t76.2) (cm7_head_body _ u23 u79))))).trans (ss7_at _ t76.2 t106.2))).trans (ss7_at _ t106.2 t113.2))] at hP hD
            exact hB120 t113.1 t113.2 _ _ _ (by exact hw_wd_at_113) hE hP hD hS (lv_sub hl [0] rfl)
        · have hE := hE.trans (if_pos c90)
          refine lv_iconst (v := 0) hx hb dX7_readRule_93 (by decide) ?_
          rw [show (s7_head (s7_at (s7_sort (s7_at (s7_body (s7_at bwd wd_at_23) u23) t48.2) u51) t76.2) u79) = (s7_at (s7_power (s7_excepts (s7_body (s7_head (s7_sort bwd u51) u79) u23) (g7_excepts bwd)) (g7_power bwd)) t76.2) from ((((congrArg (fun z => s7_head z u79) ((congrArg (fun z => s7_at z t76.2) ((congrArg (fun z => s7_sort z u51) ((congrArg (fun z => s7_at z t48.2) (cm7_body_at _ wd_at_23 u23)).trans (ss7_at _ wd_at_23 t48.2))).trans ((cm7_sort_at _ t48.2 u51).trans (congrArg (fun z => s7_at z t48.2) (cm7_sort_body _ u23 u51))))).trans (ss7_at _ t48.2 t76.2))).trans ((cm7_head_at _ t76.2 u79).trans (congrArg (fun z => s7_at z t76.2) (cm7_head_body _ u23 u79)))).trans (congrArg (fun z => s7_at z t76.2) (((se7_excepts _).symm).trans (congrArg (fun v => s7_excepts (s7_body (s7_head (s7_sort bwd u51) u79) u23) v) ((gs7_excepts_body _ u23).trans ((gs7_excepts_head _ u79).trans (gs7_excepts_sort _ u51))))))).trans (congrArg (fun z => s7_at z t76.2) (((se7_power _).symm).trans (congrArg (fun v => s7_power (s7_excepts (s7_body (s7_head (s7_sort bwd u51) u79) u23) (g7_excepts bwd)) v) ((gs7_power_excepts _ (g7_excepts bwd)).trans ((gs7_power_body _ u23).trans ((gs7_power_head _ u79).trans (gs7_power_sort _ u51))))))))] at hP hD
          exact hret _ _ _ _ _ _ (by subst hE; rfl) zn0 hP hS dX7_readRule_94
      · have hE := hE.trans (if_pos c62)
        refine lv_iconst (v := 0) hx hb dX7_readRule_65 (by decide) ?_
        rw [show (s7_sort (s7_at (s7_body (s7_at bwd wd_at_23) u23) t48.2) u51) = (s7_at (s7_power (s7_excepts (s7_body (s7_head (s7_sort bwd u51) (g7_head bwd)) u23) (g7_excepts bwd)) (g7_power bwd)) t48.2) from (((((congrArg (fun z => s7_sort z u51) ((congrArg (fun z => s7_at z t48.2) (cm7_body_at _ wd_at_23 u23)).trans (ss7_at _ wd_at_23 t48.2))).trans ((cm7_sort_at _ t48.2 u51).trans (congrArg (fun z => s7_at z t48.2) (cm7_sort_body _ u23 u51)))).trans (congrArg (fun z => s7_at z t48.2) (congrArg (fun z => s7_body z u23) (((se7_head _).symm).trans (congrArg (fun v => s7_head (s7_sort bwd u51) v) (gs7_head_sort _ u51)))))).trans (congrArg (fun z => s7_at z t48.2) (((se7_excepts _).symm).trans (congrArg (fun v => s7_excepts (s7_body (s7_head (s7_sort bwd u51) (g7_head bwd)) u23) v) ((gs7_excepts_body _ u23).trans ((gs7_excepts_head _ (g7_head bwd)).trans (gs7_excepts_sort _ u51))))))).trans (congrArg (fun z => s7_at z t48.2) (((se7_power _).symm).trans (congrArg (fun v => s7_power (s7_excepts (s7_body (s7_head (s7_sort bwd u51) (g7_head bwd)) u23) (g7_excepts bwd)) v) ((gs7_power_excepts _ (g7_excepts bwd)).trans ((gs7_power_body _ u23).trans ((gs7_power_head _ (g7_head bwd)).trans (gs7_power_sort _ u51))))))))] at hP hD
        exact hret _ _ _ _ _ _ (by subst hE; rfl) zn0 hP hS dX7_readRule_66
    · have hE := hE.trans (if_pos c34)
      refine lv_iconst (v := 0) hx hb dX7_readRule_37 (by decide) ?_
      rw [show (s7_body (s7_at bwd wd_at_23) u23) = (s7_at (s7_power (s7_excepts (s7_body (s7_head (s7_sort bwd (g7_sort bwd)) (g7_head bwd)) u23) (g7_excepts bwd)) (g7_power bwd)) wd_at_23) from (((((cm7_body_at _ wd_at_23 u23).trans (congrArg (fun z => s7_at z wd_at_23) (congrArg (fun z => s7_body z u23) ((se7_sort _).symm)))).trans (congrArg (fun z => s7_at z wd_at_23) (congrArg (fun z => s7_body z u23) (((se7_head _).symm).trans (congrArg (fun v => s7_head (s7_sort bwd (g7_sort bwd)) v) (gs7_head_sort _ (g7_sort bwd))))))).trans (congrArg (fun z => s7_at z wd_at_23) (((se7_excepts _).symm).trans (congrArg (fun v => s7_excepts (s7_body (s7_head (s7_sort bwd (g7_sort bwd)) (g7_head bwd)) u23) v) ((gs7_excepts_body _ u23).trans ((gs7_excepts_head _ (g7_head bwd)).trans (gs7_excepts_sort _ (g7_sort bwd)))))))).trans (congrArg (fun z => s7_at z wd_at_23) (((se7_power _).symm).trans (congrArg (fun v => s7_power (s7_excepts (s7_body (s7_head (s7_sort bwd (g7_sort bwd)) (g7_head bwd)) u23) (g7_excepts bwd)) v) ((gs7_power_excepts _ (g7_excepts bwd)).trans ((gs7_power_body _ u23).trans ((gs7_power_head _ (g7_head bwd)).trans (gs7_power_sort _ (g7_sort bwd)))))))))] at hP hD
      exact hret _ _ _ _ _ _ (by subst hE; rfl) zn0 hP hS dX7_readRule_38
  refine lv_if_eq (tgt := 19) hx hb dX7_readRule_12 (by decide) (fun c12 => ?_) (fun c12 => ?_)
  · have hE := hE.trans (if_pos c12)
    refine lv_aload_n hx hb dX7_readRule_19 rfl (lv_at hl 0 rfl) ?_
    obtain ⟨t20, ht20⟩ : ∃ z, FX7_readLiterals (g7_tape bwd) (g7_length bwd) (g7_at bwd) = z := ⟨_, rfl⟩
    have hE := hE.trans (bnd_eq ht20)
    have hc := c_X7_readLiterals l G awd bwd (hw_wd_at) _ ht20
    refine zgoI (bs' := [w7 G awd (s7_at bwd t20.2)]) hc [0] rfl rfl rfl hP hD hS hA (va_runV (As := []) (rest := [.int (g7_told bwd), .ref (awd 4)]) S (hc.2 _) (cwV 0 S.2.2.2.2 gX7_readRule_X7_readLiterals rfl rfl rfl (by decide +kernel) ⟨Nat.le_of_ble_eq_true rfl, Nat.le_of_ble_eq_true rfl⟩) (zpV hK hP hD (is := [0]) rfl rfl 0 rfl rfl (ci := 7) rfl) rfl rfl hl.1 rfl (lv_room (Nat.le_of_ble_eq_true rfl)) dX7_readRule_20 ⟨Nat.zero_le _, Nat.zero_le _⟩) (fun H locs hn20 hP hD hS => ?_)
    have hw_wd_at_20 : zTp (g7_length bwd) (t20.2) := by rw [← ht20]; exact zTp_readLiterals hw_wd_at
    exact hB23 t20.1 t20.2 _ _ _ (by exact hw_wd_at_20) hE hP hD hS (lv_sub hl [0] rfl)
  · have hE := hE.trans (if_neg c12)
    refine lv_iconst (v := 0) hx hb dX7_readRule_15 (by decide) ?_
    refine lv_goto (tgt := 23) hx hb dX7_readRule_16 (by decide) ?_
    rw [show bwd = (s7_at bwd (g7_at bwd)) from ((se7_at _).symm)] at hP hD
    exact hB23 0 (g7_at bwd) _ _ _ (by exact hw_wd_at) hE hP hD hS (lv_sub hl [0] rfl)

theorem zTp_rr161 {t a b c d e a' b' c' d' e' : Nat → Int32} {l q0 o k1 k2 q : Int32} (h : zTp l q) : zTp l (FX7_readRule_161 t a b c d e l q0 o k1 k2 a' b' c' d' e' q).2.2.2.2.2.2 := by
  unfold FX7_readRule_161
  rw [bndy]
  split
  · exact h
  · exact h
theorem zTp_rr120 {t a b c d e a' b' c' d' e' : Nat → Int32} {l q0 o k1 k2 q : Int32} (h : zTp l q) : zTp l (FX7_readRule_120 t a b c d e l q0 o k1 k2 a' b' c' d' e' q).2.2.2.2.2.2 := by
  unfold FX7_readRule_120
  rw [bndy]
  split
  · exact h
  · rw [bndy]
    split
    · exact zTp_rr161 (zTp_take h)
    · rw [bndy]
      exact zTp_rr161 (zTp_readFigure (zTp_take h))
theorem zTp_rr23 {t a b c d e a' b' c' d' e' : Nat → Int32} {l q0 o k1 k2 q : Int32} (h : zTp l q) : zTp l (FX7_readRule_23 t a b c d e l q0 o k1 k2 a' b' c' d' e' q).2.2.2.2.2.2 := by
  unfold FX7_readRule_23
  rw [bndy]
  split
  · exact h
  · rw [bndy, bndy]
    split
    · exact zTp_readArrow h
    · rw [bndy, bndy]
      split
      · exact zTp_readLiteral (zTp_readArrow h)
      · rw [bndy]
        split
        · exact zTp_rr120 (zTp_take (zTp_readLiteral (zTp_readArrow h)))
        · rw [bndy]
          exact zTp_rr120 (zTp_readLiterals (zTp_take (zTp_readLiteral (zTp_readArrow h))))
theorem zTp_readRule {t a b c d e : Nat → Int32} {l q o : Int32} (h : zTp l q) : zTp l (FX7_readRule t a b c d e l q o).2.2.2.2.2.2 := by
  unfold FX7_readRule
  rw [bndy]
  split
  · rw [bndy]
    exact zTp_rr23 (zTp_readLiterals h)
  · exact zTp_rr23 h

