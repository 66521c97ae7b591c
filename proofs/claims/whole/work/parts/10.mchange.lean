theorem in_X9_becomes_9 : ∀ w ∈ u_ws RX9 TX9 40, w ∈ wsX9_becomes := by decide +kernel
def rmX9_becomes : Room := { frames := 0, cells := 0, slots := 0, locals := 0 }
set_option maxHeartbeats 4000000 in
set_option maxRecDepth 100000 in
theorem c_X9_becomes (l : Launch) (G : zG) (am : Nat → Nat) (bm : S9) (x1 : Int32) (x2 : Int32) (x3 : Int32) (x4 : Int32) (hbx : ¬ x1 = 0 → ¬ x1 = 1 → vp_in x2 16) (T : (Int32) × (Int32) × (Nat → Int32) × (Nat → Int32) × (Nat → Int32)) (hT : FX9_becomes (g9_facts bm) (g9_rules bm) (g9_strength bm) (g9_off bm) (g9_over bm) x1 x2 x3 x4 = T) : zV l yX9_becomes wsX9_becomes rmX9_becomes G [.ref (am 0), .int x1, .int x2, .int x3, .int x4] [w9 G am bm] [w9 G am (s9_over (s9_off (s9_strength (s9_rules (s9_facts bm T.1) T.2.1) T.2.2.1) T.2.2.2.1) T.2.2.2.2)] := by
  refine zV.mk (cc := cX9_becomes) (maxL := 5) (by decide +kernel) rfl (Nat.le_of_ble_eq_true rfl) (zfl_cons (wf9 _ _ _ _) rfl) ?_
  intro p e s m args below meth c Q A ls S hK hD hA hP hl hret
  have hx := S.1
  have hb := S.2.1
  have hS : va_S A s.heap s.heap [] := va_S.rf
  have hl : lv_has ls 5 [(0, .ref (am 0)), (1, .int x1), (2, .int x2), (3, .int x3), (4, .int x4)] := hl
  have hE := hT.symm.trans (FX9_becomes.eq_1 _ _ _ _ _ _ _ _ _)
  refine lv_iload_n hx hb dX9_becomes_0 rfl (lv_at hl 1 rfl) ?_
  by_cases c1_0 : x1 = 0
  · have hE := hE.trans (if_pos c1_0)
    refine lv_tableIn (off := 31) (tgt := 32) hx hb dX9_becomes_1 (by rw [c1_0]; decide) (by rw [c1_0]; decide) (by rw [c1_0]; rfl) (by decide) ?_
    refine lv_aload_n hx hb dX9_becomes_32 rfl (lv_at hl 0 rfl) ?_
    refine lv_iload hx hb dX9_becomes_33 (lv_at hl 4 rfl) ?_
    refine lv_iconst (v := 1) hx hb dX9_becomes_35 (by decide) ?_
    refine lv_icmp_ne (tgt := 50) hx hb dX9_becomes_36 (by decide) (fun c36 => ?_) (fun c36 => ?_)
    · have hE := hE.trans (if_neg c36)
      refine lv_aload_n hx hb dX9_becomes_50 rfl (lv_at hl 0 rfl) ?_
      refine zg9_facts S in_X9_becomes_9 hK hP 0 rfl (List.mem_of_getElem? (i := 1) rfl) (v := (g9_facts bm)) rfl dX9_becomes_51 ?_
      refine lv_iconst (v := 1) hx hb dX9_becomes_54 (by decide) ?_
      refine lv_iload_n hx hb dX9_becomes_55 rfl (lv_at hl 2 rfl) ?_
      refine lv_ishl hx hb dX9_becomes_56 ?_
      refine lv_iconst (v := (-1)) hx hb dX9_becomes_57 (by decide) ?_
      refine lv_ixor hx hb dX9_becomes_58 ?_
      refine lv_iand hx hb dX9_becomes_59 ?_
      refine zp9_facts (bs1 := [w9 G am (s9_facts bm ((g9_facts bm) &&& ((1 <<< (x2 &&& 31)) ^^^ (-1))))]) S in_X9_becomes_9 hK hP hD hS 0 rfl (List.mem_of_getElem? (i := 1) rfl) dX9_becomes_60 rfl (fun H locs hP hD hS => ?_)
      refine lv_goto (tgt := 136) hx hb dX9_becomes_63 (by decide) ?_
      rw [show (s9_facts bm ((g9_facts bm) &&& ((1 <<< (x2 &&& 31)) ^^^ (-1)))) = (s9_over (s9_off (s9_strength (s9_rules (s9_facts bm ((g9_facts bm) &&& ((1 <<< (x2 &&& 31)) ^^^ (-1)))) (g9_rules bm)) (g9_strength bm)) (g9_off bm)) (g9_over bm)) from ((((((se9_rules _).symm).trans (congrArg (fun v => s9_rules (s9_facts bm ((g9_facts bm) &&& ((1 <<< (x2 &&& 31)) ^^^ (-1)))) v) (gs9_rules_facts _ _))).trans (((se9_strength _).symm).trans (congrArg (fun v => s9_strength (s9_rules (s9_facts bm ((g9_facts bm) &&& ((1 <<< (x2 &&& 31)) ^^^ (-1)))) (g9_rules bm)) v) ((gs9_strength_rules _ _).trans (gs9_strength_facts _ _))))).trans (((se9_off _).symm).trans (congrArg (fun v => s9_off (s9_strength (s9_rules (s9_facts bm ((g9_facts bm) &&& ((1 <<< (x2 &&& 31)) ^^^ (-1)))) (g9_rules bm)) (g9_strength bm)) v) ((gs9_off_strength _ _).trans ((gs9_off_rules _ _).trans (gs9_off_facts _ _)))))).trans (((se9_over _).symm).trans (congrArg (fun v => s9_over (s9_off (s9_strength (s9_rules (s9_facts bm ((g9_facts bm) &&& ((1 <<< (x2 &&& 31)) ^^^ (-1)))) (g9_rules bm)) (g9_strength bm)) (g9_off bm)) v) ((gs9_over_off _ _).trans ((gs9_over_strength _ _).trans ((gs9_over_rules _ _).trans (gs9_over_facts _ _)))))))] at hP hD
      exact hret _ _ _ _ _ (by subst hE; rfl) hP hS dX9_becomes_136
    · have hE := hE.trans (if_pos c36)
      refine lv_aload_n hx hb dX9_becomes_39 rfl (lv_at hl 0 rfl) ?_
      refine zg9_facts S in_X9_becomes_9 hK hP 0 rfl (List.mem_of_getElem? (i := 1) rfl) (v := (g9_facts bm)) rfl dX9_becomes_40 ?_
      refine lv_iconst (v := 1) hx hb dX9_becomes_43 (by decide) ?_
      refine lv_iload_n hx hb dX9_becomes_44 rfl (lv_at hl 2 rfl) ?_
      refine lv_ishl hx hb dX9_becomes_45 ?_
      refine lv_ior hx hb dX9_becomes_46 ?_
      refine lv_goto (tgt := 60) hx hb dX9_becomes_47 (by decide) ?_
      refine zp9_facts (bs1 := [w9 G am (s9_facts bm ((g9_facts bm) ||| (1 <<< (x2 &&& 31))))]) S in_X9_becomes_9 hK hP hD hS 0 rfl (List.mem_of_getElem? (i := 1) rfl) dX9_becomes_60 rfl (fun H locs hP hD hS => ?_)
      refine lv_goto (tgt := 136) hx hb dX9_becomes_63 (by decide) ?_
      rw [show (s9_facts bm ((g9_facts bm) ||| (1 <<< (x2 &&& 31)))) = (s9_over (s9_off (s9_strength (s9_rules (s9_facts bm ((g9_facts bm) ||| (1 <<< (x2 &&& 31)))) (g9_rules bm)) (g9_strength bm)) (g9_off bm)) (g9_over bm)) from ((((((se9_rules _).symm).trans (congrArg (fun v => s9_rules (s9_facts bm ((g9_facts bm) ||| (1 <<< (x2 &&& 31)))) v) (gs9_rules_facts _ _))).trans (((se9_strength _).symm).trans (congrArg (fun v => s9_strength (s9_rules (s9_facts bm ((g9_facts bm) ||| (1 <<< (x2 &&& 31)))) (g9_rules bm)) v) ((gs9_strength_rules _ _).trans (gs9_strength_facts _ _))))).trans (((se9_off _).symm).trans (congrArg (fun v => s9_off (s9_strength (s9_rules (s9_facts bm ((g9_facts bm) ||| (1 <<< (x2 &&& 31)))) (g9_rules bm)) (g9_strength bm)) v) ((gs9_off_strength _ _).trans ((gs9_off_rules _ _).trans (gs9_off_facts _ _)))))).trans (((se9_over _).symm).trans (congrArg (fun v => s9_over (s9_off (s9_strength (s9_rules (s9_facts bm ((g9_facts bm) ||| (1 <<< (x2 &&& 31)))) (g9_rules bm)) (g9_strength bm)) (g9_off bm)) v) ((gs9_over_off _ _).trans ((gs9_over_strength _ _).trans ((gs9_over_rules _ _).trans (gs9_over_facts _ _)))))))] at hP hD
      exact hret _ _ _ _ _ (by subst hE; rfl) hP hS dX9_becomes_136
  have hE := hE.trans (if_neg c1_0)
  by_cases c1_1 : x1 = 1
  · have hE := hE.trans (if_pos c1_1)
    refine lv_tableIn (off := 65) (tgt := 66) hx hb dX9_becomes_1 (by rw [c1_1]; decide) (by rw [c1_1]; decide) (by rw [c1_1]; rfl) (by decide) ?_
    refine lv_aload_n hx hb dX9_becomes_66 rfl (lv_at hl 0 rfl) ?_
    refine lv_iload_n hx hb dX9_becomes_67 rfl (lv_at hl 2 rfl) ?_
    refine lv_iload hx hb dX9_becomes_68 (lv_at hl 4 rfl) ?_
    refine lv_iadd hx hb dX9_becomes_70 ?_
    refine zp9_rules (bs1 := [w9 G am (s9_rules bm (x2 + x4))]) S in_X9_becomes_9 hK hP hD hS 0 rfl (List.mem_of_getElem? (i := 2) rfl) dX9_becomes_71 rfl (fun H locs hP hD hS => ?_)
    refine lv_goto (tgt := 136) hx hb dX9_becomes_74 (by decide) ?_
    rw [show (s9_rules bm (x2 + x4)) = (s9_over (s9_off (s9_strength (s9_rules (s9_facts bm (g9_facts bm)) (x2 + x4)) (g9_strength bm)) (g9_off bm)) (g9_over bm)) from ((((congrArg (fun z => s9_rules z (x2 + x4)) ((se9_facts _).symm)).trans (((se9_strength _).symm).trans (congrArg (fun v => s9_strength (s9_rules (s9_facts bm (g9_facts bm)) (x2 + x4)) v) ((gs9_strength_rules _ _).trans (gs9_strength_facts _ _))))).trans (((se9_off _).symm).trans (congrArg (fun v => s9_off (s9_strength (s9_rules (s9_facts bm (g9_facts bm)) (x2 + x4)) (g9_strength bm)) v) ((gs9_off_strength _ _).trans ((gs9_off_rules _ _).trans (gs9_off_facts _ _)))))).trans (((se9_over _).symm).trans (congrArg (fun v => s9_over (s9_off (s9_strength (s9_rules (s9_facts bm (g9_facts bm)) (x2 + x4)) (g9_strength bm)) (g9_off bm)) v) ((gs9_over_off _ _).trans ((gs9_over_strength _ _).trans ((gs9_over_rules _ _).trans (gs9_over_facts _ _)))))))] at hP hD
    exact hret _ _ _ _ _ (by subst hE; rfl) hP hS dX9_becomes_136
  have hE := hE.trans (if_neg c1_1)
  by_cases c1_2 : x1 = 2
  · have hE := hE.trans (if_pos c1_2)
    have hx2_16 := hbx c1_0 c1_1
    refine lv_tableIn (off := 76) (tgt := 77) hx hb dX9_becomes_1 (by rw [c1_2]; decide) (by rw [c1_2]; decide) (by rw [c1_2]; rfl) (by decide) ?_
    refine lv_aload_n hx hb dX9_becomes_77 rfl (lv_at hl 0 rfl) ?_
    refine zg9_off S in_X9_becomes_9 hK hP 0 rfl (List.mem_of_getElem? (i := 3) rfl) dX9_becomes_78 ?_
    refine lv_iload_n hx hb dX9_becomes_81 rfl (lv_at hl 2 rfl) ?_
    refine lv_iload hx hb dX9_becomes_82 (lv_at hl 4 rfl) ?_
    refine zs9_off (bs1 := [w9 G am (s9_off bm (upd (g9_off bm) x2.toNatClampNeg x4))]) S hK hP hD hS 0 rfl hx2_16 (f := (g9_off bm)) rfl dX9_becomes_84 rfl (fun H locs hP hD hS => ?_)
    refine lv_goto (tgt := 136) hx hb dX9_becomes_85 (by decide) ?_
    rw [show (s9_off bm (upd (g9_off bm) x2.toNatClampNeg x4)) = (s9_over (s9_off (s9_strength (s9_rules (s9_facts bm (g9_facts bm)) (g9_rules bm)) (g9_strength bm)) (upd (g9_off bm) x2.toNatClampNeg x4)) (g9_over bm)) from ((((congrArg (fun z => s9_off z (upd (g9_off bm) x2.toNatClampNeg x4)) ((se9_facts _).symm)).trans (congrArg (fun z => s9_off z (upd (g9_off bm) x2.toNatClampNeg x4)) (((se9_rules _).symm).trans (congrArg (fun v => s9_rules (s9_facts bm (g9_facts bm)) v) (gs9_rules_facts _ _))))).trans (congrArg (fun z => s9_off z (upd (g9_off bm) x2.toNatClampNeg x4)) (((se9_strength _).symm).trans (congrArg (fun v => s9_strength (s9_rules (s9_facts bm (g9_facts bm)) (g9_rules bm)) v) ((gs9_strength_rules _ _).trans (gs9_strength_facts _ _)))))).trans (((se9_over _).symm).trans (congrArg (fun v => s9_over (s9_off (s9_strength (s9_rules (s9_facts bm (g9_facts bm)) (g9_rules bm)) (g9_strength bm)) (upd (g9_off bm) x2.toNatClampNeg x4)) v) ((gs9_over_off _ _).trans ((gs9_over_strength _ _).trans ((gs9_over_rules _ _).trans (gs9_over_facts _ _)))))))] at hP hD
    exact hret _ _ _ _ _ (by subst hE; rfl) hP hS dX9_becomes_136
  have hE := hE.trans (if_neg c1_2)
  by_cases c1_3 : x1 = 3
  · have hE := hE.trans (if_pos c1_3)
    have hx2_16 := hbx c1_0 c1_1
    refine lv_tableIn (off := 87) (tgt := 88) hx hb dX9_becomes_1 (by rw [c1_3]; decide) (by rw [c1_3]; decide) (by rw [c1_3]; rfl) (by decide) ?_
    refine lv_aload_n hx hb dX9_becomes_88 rfl (lv_at hl 0 rfl) ?_
    refine zg9_strength S in_X9_becomes_9 hK hP 0 rfl (List.mem_of_getElem? (i := 4) rfl) dX9_becomes_89 ?_
    refine lv_iload_n hx hb dX9_becomes_92 rfl (lv_at hl 2 rfl) ?_
    refine lv_iload hx hb dX9_becomes_93 (lv_at hl 4 rfl) ?_
    refine zs9_strength (bs1 := [w9 G am (s9_strength bm (upd (g9_strength bm) x2.toNatClampNeg x4))]) S hK hP hD hS 0 rfl hx2_16 (f := (g9_strength bm)) rfl dX9_becomes_95 rfl (fun H locs hP hD hS => ?_)
    refine lv_goto (tgt := 136) hx hb dX9_becomes_96 (by decide) ?_
    rw [show (s9_strength bm (upd (g9_strength bm) x2.toNatClampNeg x4)) = (s9_over (s9_off (s9_strength (s9_rules (s9_facts bm (g9_facts bm)) (g9_rules bm)) (upd (g9_strength bm) x2.toNatClampNeg x4)) (g9_off bm)) (g9_over bm)) from ((((congrArg (fun z => s9_strength z (upd (g9_strength bm) x2.toNatClampNeg x4)) ((se9_facts _).symm)).trans (congrArg (fun z => s9_strength z (upd (g9_strength bm) x2.toNatClampNeg x4)) (((se9_rules _).symm).trans (congrArg (fun v => s9_rules (s9_facts bm (g9_facts bm)) v) (gs9_rules_facts _ _))))).trans (((se9_off _).symm).trans (congrArg (fun v => s9_off (s9_strength (s9_rules (s9_facts bm (g9_facts bm)) (g9_rules bm)) (upd (g9_strength bm) x2.toNatClampNeg x4)) v) ((gs9_off_strength _ _).trans ((gs9_off_rules _ _).trans (gs9_off_facts _ _)))))).trans (((se9_over _).symm).trans (congrArg (fun v => s9_over (s9_off (s9_strength (s9_rules (s9_facts bm (g9_facts bm)) (g9_rules bm)) (upd (g9_strength bm) x2.toNatClampNeg x4)) (g9_off bm)) v) ((gs9_over_off _ _).trans ((gs9_over_strength _ _).trans ((gs9_over_rules _ _).trans (gs9_over_facts _ _)))))))] at hP hD
    exact hret _ _ _ _ _ (by subst hE; rfl) hP hS dX9_becomes_136
  have hE := hE.trans (if_neg c1_3)
  refine lv_tableOut (tgt := 99) hx hb dX9_becomes_1 (zsw4 c1_0 c1_1 c1_2 c1_3) (by decide) ?_
  have hx2_16 := hbx c1_0 c1_1
  refine lv_aload_n hx hb dX9_becomes_99 rfl (lv_at hl 0 rfl) ?_
  refine zg9_over S in_X9_becomes_9 hK hP 0 rfl (List.mem_of_getElem? (i := 5) rfl) dX9_becomes_100 ?_
  refine lv_iload_n hx hb dX9_becomes_103 rfl (lv_at hl 2 rfl) ?_
  refine lv_iload hx hb dX9_becomes_104 (lv_at hl 4 rfl) ?_
  refine lv_iconst (v := 1) hx hb dX9_becomes_106 (by decide) ?_
  refine lv_icmp_ne (tgt := 123) hx hb dX9_becomes_107 (by decide) (fun c107 => ?_) (fun c107 => ?_)
  · have hE := hE.trans (if_neg c107)
    refine lv_aload_n hx hb dX9_becomes_123 rfl (lv_at hl 0 rfl) ?_
    refine zg9_over S in_X9_becomes_9 hK hP 0 rfl (List.mem_of_getElem? (i := 5) rfl) dX9_becomes_124 ?_
    refine lv_iload_n hx hb dX9_becomes_127 rfl (lv_at hl 2 rfl) ?_
    refine zl9_over S hK hP 0 rfl hx2_16 (f := (g9_over bm)) rfl dX9_becomes_128 ?_
    refine lv_iconst (v := 1) hx hb dX9_becomes_129 (by decide) ?_
    refine lv_iload_n hx hb dX9_becomes_130 rfl (lv_at hl 3 rfl) ?_
    refine lv_ishl hx hb dX9_becomes_131 ?_
    refine lv_iconst (v := (-1)) hx hb dX9_becomes_132 (by decide) ?_
    refine lv_ixor hx hb dX9_becomes_133 ?_
    refine lv_iand hx hb dX9_becomes_134 ?_
    refine zs9_over (bs1 := [w9 G am (s9_over bm (upd (g9_over bm) x2.toNatClampNeg (((g9_over bm) x2.toNatClampNeg) &&& ((1 <<< (x3 &&& 31)) ^^^ (-1)))))]) S hK hP hD hS 0 rfl hx2_16 (f := (g9_over bm)) rfl dX9_becomes_135 rfl (fun H locs hP hD hS => ?_)
    rw [show (s9_over bm (upd (g9_over bm) x2.toNatClampNeg (((g9_over bm) x2.toNatClampNeg) &&& ((1 <<< (x3 &&& 31)) ^^^ (-1))))) = (s9_over (s9_off (s9_strength (s9_rules (s9_facts bm (g9_facts bm)) (g9_rules bm)) (g9_strength bm)) (g9_off bm)) (upd (g9_over bm) x2.toNatClampNeg (((g9_over bm) x2.toNatClampNeg) &&& ((1 <<< (x3 &&& 31)) ^^^ (-1))))) from ((((congrArg (fun z => s9_over z (upd (g9_over bm) x2.toNatClampNeg (((g9_over bm) x2.toNatClampNeg) &&& ((1 <<< (x3 &&& 31)) ^^^ (-1))))) ((se9_facts _).symm)).trans (congrArg (fun z => s9_over z (upd (g9_over bm) x2.toNatClampNeg (((g9_over bm) x2.toNatClampNeg) &&& ((1 <<< (x3 &&& 31)) ^^^ (-1))))) (((se9_rules _).symm).trans (congrArg (fun v => s9_rules (s9_facts bm (g9_facts bm)) v) (gs9_rules_facts _ _))))).trans (congrArg (fun z => s9_over z (upd (g9_over bm) x2.toNatClampNeg (((g9_over bm) x2.toNatClampNeg) &&& ((1 <<< (x3 &&& 31)) ^^^ (-1))))) (((se9_strength _).symm).trans (congrArg (fun v => s9_strength (s9_rules (s9_facts bm (g9_facts bm)) (g9_rules bm)) v) ((gs9_strength_rules _ _).trans (gs9_strength_facts _ _)))))).trans (congrArg (fun z => s9_over z (upd (g9_over bm) x2.toNatClampNeg (((g9_over bm) x2.toNatClampNeg) &&& ((1 <<< (x3 &&& 31)) ^^^ (-1))))) (((se9_off _).symm).trans (congrArg (fun v => s9_off (s9_strength (s9_rules (s9_facts bm (g9_facts bm)) (g9_rules bm)) (g9_strength bm)) v) ((gs9_off_strength _ _).trans ((gs9_off_rules _ _).trans (gs9_off_facts _ _)))))))] at hP hD
    exact hret _ _ _ _ _ (by subst hE; rfl) hP hS dX9_becomes_136
  · have hE := hE.trans (if_pos c107)
    refine lv_aload_n hx hb dX9_becomes_110 rfl (lv_at hl 0 rfl) ?_
    refine zg9_over S in_X9_becomes_9 hK hP 0 rfl (List.mem_of_getElem? (i := 5) rfl) dX9_becomes_111 ?_
    refine lv_iload_n hx hb dX9_becomes_114 rfl (lv_at hl 2 rfl) ?_
    refine zl9_over S hK hP 0 rfl hx2_16 (f := (g9_over bm)) rfl dX9_becomes_115 ?_
    refine lv_iconst (v := 1) hx hb dX9_becomes_116 (by decide) ?_
    refine lv_iload_n hx hb dX9_becomes_117 rfl (lv_at hl 3 rfl) ?_
    refine lv_ishl hx hb dX9_becomes_118 ?_
    refine lv_ior hx hb dX9_becomes_119 ?_
    refine lv_goto (tgt := 135) hx hb dX9_becomes_120 (by decide) ?_
    refine zs9_over (bs1 := [w9 G am (s9_over bm (upd (g9_over bm) x2.toNatClampNeg (((g9_over bm) x2.toNatClampNeg) ||| (1 <<< (x3 &&& 31)))))]) S hK hP hD hS 0 rfl hx2_16 (f := (g9_over bm)) rfl dX9_becomes_135 rfl (fun H locs hP hD hS => ?_)
    rw [show (s9_over bm (upd (g9_over bm) x2.toNatClampNeg (((g9_over bm) x2.toNatClampNeg) ||| (1 <<< (x3 &&& 31))))) = (s9_over (s9_off (s9_strength (s9_rules (s9_facts bm (g9_facts bm)) (g9_rules bm)) (g9_strength bm)) (g9_off bm)) (upd (g9_over bm) x2.toNatClampNeg (((g9_over bm) x2.toNatClampNeg) ||| (1 <<< (x3 &&& 31))))) from ((((congrArg (fun z => s9_over z (upd (g9_over bm) x2.toNatClampNeg (((g9_over bm) x2.toNatClampNeg) ||| (1 <<< (x3 &&& 31))))) ((se9_facts _).symm)).trans (congrArg (fun z => s9_over z (upd (g9_over bm) x2.toNatClampNeg (((g9_over bm) x2.toNatClampNeg) ||| (1 <<< (x3 &&& 31))))) (((se9_rules _).symm).trans (congrArg (fun v => s9_rules (s9_facts bm (g9_facts bm)) v) (gs9_rules_facts _ _))))).trans (congrArg (fun z => s9_over z (upd (g9_over bm) x2.toNatClampNeg (((g9_over bm) x2.toNatClampNeg) ||| (1 <<< (x3 &&& 31))))) (((se9_strength _).symm).trans (congrArg (fun v => s9_strength (s9_rules (s9_facts bm (g9_facts bm)) (g9_rules bm)) v) ((gs9_strength_rules _ _).trans (gs9_strength_facts _ _)))))).trans (congrArg (fun z => s9_over z (upd (g9_over bm) x2.toNatClampNeg (((g9_over bm) x2.toNatClampNeg) ||| (1 <<< (x3 &&& 31))))) (((se9_off _).symm).trans (congrArg (fun v => s9_off (s9_strength (s9_rules (s9_facts bm (g9_facts bm)) (g9_rules bm)) (g9_strength bm)) v) ((gs9_off_strength _ _).trans ((gs9_off_rules _ _).trans (gs9_off_facts _ _)))))))] at hP hD
    exact hret _ _ _ _ _ (by subst hE; rfl) hP hS dX9_becomes_136

theorem in_X9_undo_9 : ∀ w ∈ u_ws RX9 TX9 40, w ∈ wsX9_undo := by decide +kernel
def rmX9_undo : Room := { frames := 1, cells := 0, slots := 0, locals := 24 }
set_option maxHeartbeats 4000000 in
set_option maxRecDepth 100000 in
theorem c_X9_undo (l : Launch) (G : zG) (am : Nat → Nat) (bm : S9) (hd_m_done : ∃ N : Nat, N ≤ 12 ∧ g9_done bm = nI N) (hc_m_change : ∀ j : Nat, j < 12 → ¬ g9_change bm (5 * j) = 0 → ¬ g9_change bm (5 * j) = 1 → vp_in (g9_change bm (5 * j + 1)) 16) (T : Int32 × (Int32) × (Int32) × (Nat → Int32) × (Nat → Int32) × (Nat → Int32) × (Int32) × (Int32)) (hT : FX9_undo (g9_facts bm) (g9_rules bm) (g9_strength bm) (g9_off bm) (g9_over bm) (g9_change bm) (g9_done bm) (g9_undone bm) = T) : zI l yX9_undo wsX9_undo rmX9_undo .int G [.ref (am 0)] [w9 G am bm] T.1 [w9 G am (s9_undone (s9_done (s9_over (s9_off (s9_strength (s9_rules (s9_facts bm T.2.1) T.2.2.1) T.2.2.2.1) T.2.2.2.2.1) T.2.2.2.2.2.1) T.2.2.2.2.2.2.1) T.2.2.2.2.2.2.2)] := by
  refine zI.mk (cc := cX9_undo) (maxL := 2) (by decide +kernel) rfl (Nat.le_of_ble_eq_true rfl) (zfl_cons (wf9 _ _ _ _) rfl) ?_
  intro p e s m args below meth c Q A ls S hK hD hA hP hl hret
  have hx := S.1
  have hb := S.2.1
  have hS : va_S A s.heap s.heap [] := va_S.rf
  have hl : lv_has ls 2 [(0, .ref (am 0))] := hl
  have hE := hT.symm.trans (FX9_undo.eq_1 _ _ _ _ _ _ _ _)
  refine lv_aload_n hx hb dX9_undo_0 rfl (lv_at hl 0 rfl) ?_
  refine zg9_done S in_X9_undo_9 hK hP 0 rfl (List.mem_of_getElem? (i := 1) rfl) (v := (g9_done bm)) rfl dX9_undo_1 ?_
  refine lv_if_ne (tgt := 10) hx hb dX9_undo_4 (by decide) (fun c4 => ?_) (fun c4 => ?_)
  · have hE := hE.trans (if_neg c4)
    have hd11 := zdm hd_m_done c4
    refine lv_aload_n hx hb dX9_undo_10 rfl (lv_at hl 0 rfl) ?_
    refine lv_dup hx hb dX9_undo_11 rfl ?_
    refine zg9_done S in_X9_undo_9 hK hP 0 rfl (List.mem_of_getElem? (i := 1) rfl) (v := (g9_done bm)) rfl dX9_undo_12 ?_
    refine lv_iconst (v := 1) hx hb dX9_undo_15 (by decide) ?_
    refine lv_isub hx hb dX9_undo_16 ?_
    refine zp9_done (bs1 := [w9 G am (s9_done bm ((g9_done bm) - 1))]) S in_X9_undo_9 hK hP hD hS 0 rfl (List.mem_of_getElem? (i := 1) rfl) dX9_undo_17 rfl (fun H locs hP hD hS => ?_)
    refine lv_aload_n hx hb dX9_undo_20 rfl (lv_at hl 0 rfl) ?_
    refine lv_dup hx hb dX9_undo_21 rfl ?_
    refine zg9_undone S in_X9_undo_9 hK hP 0 rfl (List.mem_of_getElem? (i := 2) rfl) (v := (g9_undone bm)) (gs9_undone_done _ _) dX9_undo_22 ?_
    refine lv_iconst (v := 1) hx hb dX9_undo_25 (by decide) ?_
    refine lv_iadd hx hb dX9_undo_26 ?_
    refine zp9_undone (bs1 := [w9 G am (s9_undone (s9_done bm ((g9_done bm) - 1)) ((g9_undone bm) + 1))]) S in_X9_undo_9 hK hP hD hS 0 rfl (List.mem_of_getElem? (i := 2) rfl) dX9_undo_27 rfl (fun H locs hP hD hS => ?_)
    refine lv_iconst (v := 5) hx hb dX9_undo_30 (by decide) ?_
    refine lv_aload_n hx hb dX9_undo_31 rfl (lv_at hl 0 rfl) ?_
    refine zg9_done S in_X9_undo_9 hK hP 0 rfl (List.mem_of_getElem? (i := 1) rfl) (v := ((g9_done bm) - 1)) ((gs9_done_undone _ _).trans (gg9_done _ _)) dX9_undo_32 ?_
    refine lv_imul hx hb dX9_undo_35 ?_
    refine lv_istore_n (lv' := [(1, .int (5 * ((g9_done bm) - 1))), (0, .ref (am 0))]) hx hb dX9_undo_36 rfl hl (by decide) rfl (fun ls hl => ?_)
    refine lv_aload_n hx hb dX9_undo_37 rfl (lv_at hl 1 rfl) ?_
    refine lv_aload_n hx hb dX9_undo_38 rfl (lv_at hl 1 rfl) ?_
    refine zg9_change S in_X9_undo_9 hK hP 0 rfl (List.mem_of_getElem? (i := 3) rfl) dX9_undo_39 ?_
    refine lv_iload_n hx hb dX9_undo_42 rfl (lv_at hl 0 rfl) ?_
    refine zl9_change S hK hP 0 rfl (z5_0 hd11) (f := (g9_change bm)) ((gs9_change_undone _ _).trans (gs9_change_done _ _)) dX9_undo_43 ?_
    refine lv_aload_n hx hb dX9_undo_44 rfl (lv_at hl 1 rfl) ?_
    refine zg9_change S in_X9_undo_9 hK hP 0 rfl (List.mem_of_getElem? (i := 3) rfl) dX9_undo_45 ?_
    refine lv_iload_n hx hb dX9_undo_48 rfl (lv_at hl 0 rfl) ?_
    refine lv_iconst (v := 1) hx hb dX9_undo_49 (by decide) ?_
    refine lv_iadd hx hb dX9_undo_50 ?_
    refine zl9_change S hK hP 0 rfl (z5 rfl (by decide) hd11) (f := (g9_change bm)) ((gs9_change_undone _ _).trans (gs9_change_done _ _)) dX9_undo_51 ?_
    refine lv_aload_n hx hb dX9_undo_52 rfl (lv_at hl 1 rfl) ?_
    refine zg9_change S in_X9_undo_9 hK hP 0 rfl (List.mem_of_getElem? (i := 3) rfl) dX9_undo_53 ?_
    refine lv_iload_n hx hb dX9_undo_56 rfl (lv_at hl 0 rfl) ?_
    refine lv_iconst (v := 2) hx hb dX9_undo_57 (by decide) ?_
    refine lv_iadd hx hb dX9_undo_58 ?_
    refine zl9_change S hK hP 0 rfl (z5 rfl (by decide) hd11) (f := (g9_change bm)) ((gs9_change_undone _ _).trans (gs9_change_done _ _)) dX9_undo_59 ?_
    refine lv_aload_n hx hb dX9_undo_60 rfl (lv_at hl 1 rfl) ?_
    refine zg9_change S in_X9_undo_9 hK hP 0 rfl (List.mem_of_getElem? (i := 3) rfl) dX9_undo_61 ?_
    refine lv_iload_n hx hb dX9_undo_64 rfl (lv_at hl 0 rfl) ?_
    refine lv_iconst (v := 3) hx hb dX9_undo_65 (by decide) ?_
    refine lv_iadd hx hb dX9_undo_66 ?_
    refine zl9_change S hK hP 0 rfl (z5 rfl (by decide) hd11) (f := (g9_change bm)) ((gs9_change_undone _ _).trans (gs9_change_done _ _)) dX9_undo_67 ?_
    obtain ⟨t68, ht68⟩ : ∃ z, FX9_becomes (g9_facts bm) (g9_rules bm) (g9_strength bm) (g9_off bm) (g9_over bm) ((g9_change bm) (5 * ((g9_done bm) - 1)).toNatClampNeg) ((g9_change bm) ((5 * ((g9_done bm) - 1)) + 1).toNatClampNeg) ((g9_change bm) ((5 * ((g9_done bm) - 1)) + 2).toNatClampNeg) ((g9_change bm) ((5 * ((g9_done bm) - 1)) + 3).toNatClampNeg) = z := ⟨_, rfl⟩
    have hE := hE.trans (bnd_eq ht68)
    have hc := c_X9_becomes l G am (s9_undone (s9_done bm ((g9_done bm) - 1)) ((g9_undone bm) + 1)) ((g9_change bm) (5 * ((g9_done bm) - 1)).toNatClampNeg) ((g9_change bm) ((5 * ((g9_done bm) - 1)) + 1).toNatClampNeg) ((g9_change bm) ((5 * ((g9_done bm) - 1)) + 2).toNatClampNeg) ((g9_change bm) ((5 * ((g9_done bm) - 1)) + 3).toNatClampNeg) (zchg hc_m_change hd11) _ (by simp only [gs9_facts_undone, gs9_facts_done, gs9_rules_undone, gs9_rules_done, gs9_strength_undone, gs9_strength_done, gs9_off_undone, gs9_off_done, gs9_over_undone, gs9_over_done]; exact ht68)
    refine zgoV (bs' := [w9 G am (s9_over (s9_off (s9_strength (s9_rules (s9_facts (s9_undone (s9_done bm ((g9_done bm) - 1)) ((g9_undone bm) + 1)) t68.1) t68.2.1) t68.2.2.1) t68.2.2.2.1) t68.2.2.2.2)]) hc [0] rfl rfl rfl hP hD hS hA (va_runV (As := [.int ((g9_change bm) (5 * ((g9_done bm) - 1)).toNatClampNeg), .int ((g9_change bm) ((5 * ((g9_done bm) - 1)) + 1).toNatClampNeg), .int ((g9_change bm) ((5 * ((g9_done bm) - 1)) + 2).toNatClampNeg), .int ((g9_change bm) ((5 * ((g9_done bm) - 1)) + 3).toNatClampNeg)]) (rest := []) S (hc.2 _) (cwV 4 S.2.2.2.2 gX9_undo_X9_becomes rfl rfl rfl (by decide +kernel) ⟨Nat.le_of_ble_eq_true rfl, Nat.le_of_ble_eq_true rfl⟩) (zpV hK hP hD (is := [0]) rfl rfl 0 rfl rfl (ci := 9) rfl) rfl rfl hl.1 rfl (lv_room (Nat.le_of_ble_eq_true rfl)) dX9_undo_68 ⟨Nat.zero_le _, Nat.zero_le _⟩) (fun H locs hP hD hS => ?_)
    refine lv_aload_n hx hb dX9_undo_71 rfl (lv_at hl 1 rfl) ?_
    refine zg9_done S in_X9_undo_9 hK hP 0 rfl (List.mem_of_getElem? (i := 1) rfl) (v := ((g9_done bm) - 1)) ((gs9_done_over _ _).trans ((gs9_done_off _ _).trans ((gs9_done_strength _ _).trans ((gs9_done_rules _ _).trans ((gs9_done_facts _ _).trans ((gs9_done_undone _ _).trans (gg9_done _ _))))))) dX9_undo_72 ?_
    rw [show (s9_over (s9_off (s9_strength (s9_rules (s9_facts (s9_undone (s9_done bm ((g9_done bm) - 1)) ((g9_undone bm) + 1)) t68.1) t68.2.1) t68.2.2.1) t68.2.2.2.1) t68.2.2.2.2) = (s9_undone (s9_done (s9_over (s9_off (s9_strength (s9_rules (s9_facts bm t68.1) t68.2.1) t68.2.2.1) t68.2.2.2.1) t68.2.2.2.2) ((g9_done bm) - 1)) ((g9_undone bm) + 1)) from ((congrArg (fun z => s9_over z t68.2.2.2.2) ((congrArg (fun z => s9_off z t68.2.2.2.1) ((congrArg (fun z => s9_strength z t68.2.2.1) ((congrArg (fun z => s9_rules z t68.2.1) ((cm9_facts_undone _ _ _).trans (congrArg (fun z => s9_undone z ((g9_undone bm) + 1)) (cm9_facts_done _ _ _)))).trans ((cm9_rules_undone _ _ _).trans (congrArg (fun z => s9_undone z ((g9_undone bm) + 1)) (cm9_rules_done _ _ _))))).trans ((cm9_strength_undone _ _ _).trans (congrArg (fun z => s9_undone z ((g9_undone bm) + 1)) (cm9_strength_done _ _ _))))).trans ((cm9_off_undone _ _ _).trans (congrArg (fun z => s9_undone z ((g9_undone bm) + 1)) (cm9_off_done _ _ _))))).trans ((cm9_over_undone _ _ _).trans (congrArg (fun z => s9_undone z ((g9_undone bm) + 1)) (cm9_over_done _ _ _))))] at hP hD
    exact hret _ _ _ _ _ _ (by subst hE; rfl) rfl hP hS dX9_undo_75
  · have hE := hE.trans (if_pos c4)
    refine lv_bipush (v := (-5)) hx hb dX9_undo_7 (by decide) ?_
    rw [show bm = (s9_undone (s9_done (s9_over (s9_off (s9_strength (s9_rules (s9_facts bm (g9_facts bm)) (g9_rules bm)) (g9_strength bm)) (g9_off bm)) (g9_over bm)) (g9_done bm)) (g9_undone bm)) from ((((((((se9_facts _).symm).trans (((se9_rules _).symm).trans (congrArg (fun v => s9_rules (s9_facts bm (g9_facts bm)) v) (gs9_rules_facts _ _)))).trans (((se9_strength _).symm).trans (congrArg (fun v => s9_strength (s9_rules (s9_facts bm (g9_facts bm)) (g9_rules bm)) v) ((gs9_strength_rules _ _).trans (gs9_strength_facts _ _))))).trans (((se9_off _).symm).trans (congrArg (fun v => s9_off (s9_strength (s9_rules (s9_facts bm (g9_facts bm)) (g9_rules bm)) (g9_strength bm)) v) ((gs9_off_strength _ _).trans ((gs9_off_rules _ _).trans (gs9_off_facts _ _)))))).trans (((se9_over _).symm).trans (congrArg (fun v => s9_over (s9_off (s9_strength (s9_rules (s9_facts bm (g9_facts bm)) (g9_rules bm)) (g9_strength bm)) (g9_off bm)) v) ((gs9_over_off _ _).trans ((gs9_over_strength _ _).trans ((gs9_over_rules _ _).trans (gs9_over_facts _ _))))))).trans (((se9_done _).symm).trans (congrArg (fun v => s9_done (s9_over (s9_off (s9_strength (s9_rules (s9_facts bm (g9_facts bm)) (g9_rules bm)) (g9_strength bm)) (g9_off bm)) (g9_over bm)) v) ((gs9_done_over _ _).trans ((gs9_done_off _ _).trans ((gs9_done_strength _ _).trans ((gs9_done_rules _ _).trans (gs9_done_facts _ _)))))))).trans (((se9_undone _).symm).trans (congrArg (fun v => s9_undone (s9_done (s9_over (s9_off (s9_strength (s9_rules (s9_facts bm (g9_facts bm)) (g9_rules bm)) (g9_strength bm)) (g9_off bm)) (g9_over bm)) (g9_done bm)) v) ((gs9_undone_done _ _).trans ((gs9_undone_over _ _).trans ((gs9_undone_off _ _).trans ((gs9_undone_strength _ _).trans ((gs9_undone_rules _ _).trans (gs9_undone_facts _ _)))))))))] at hP hD
    exact hret _ _ _ _ _ _ (by subst hE; rfl) rfl hP hS dX9_undo_9

theorem in_X9_redo_9 : ∀ w ∈ u_ws RX9 TX9 40, w ∈ wsX9_redo := by decide +kernel
def rmX9_redo : Room := { frames := 1, cells := 0, slots := 0, locals := 24 }
set_option maxHeartbeats 4000000 in
set_option maxRecDepth 100000 in
theorem c_X9_redo (l : Launch) (G : zG) (am : Nat → Nat) (bm : S9) (hd_m_done : ∃ N : Nat, N ≤ 12 ∧ g9_done bm = nI N) (hu_m_undone : ¬ g9_undone bm = 0 → ∃ N : Nat, N ≤ 11 ∧ g9_done bm = nI N) (hc_m_change : ∀ j : Nat, j < 12 → ¬ g9_change bm (5 * j) = 0 → ¬ g9_change bm (5 * j) = 1 → vp_in (g9_change bm (5 * j + 1)) 16) (T : Int32 × (Int32) × (Int32) × (Nat → Int32) × (Nat → Int32) × (Nat → Int32) × (Int32) × (Int32)) (hT : FX9_redo (g9_facts bm) (g9_rules bm) (g9_strength bm) (g9_off bm) (g9_over bm) (g9_change bm) (g9_done bm) (g9_undone bm) = T) : zI l yX9_redo wsX9_redo rmX9_redo .int G [.ref (am 0)] [w9 G am bm] T.1 [w9 G am (s9_undone (s9_done (s9_over (s9_off (s9_strength (s9_rules (s9_facts bm T.2.1) T.2.2.1) T.2.2.2.1) T.2.2.2.2.1) T.2.2.2.2.2.1) T.2.2.2.2.2.2.1) T.2.2.2.2.2.2.2)] := by
  refine zI.mk (cc := cX9_redo) (maxL := 2) (by decide +kernel) rfl (Nat.le_of_ble_eq_true rfl) (zfl_cons (wf9 _ _ _ _) rfl) ?_
  intro p e s m args below meth c Q A ls S hK hD hA hP hl hret
  have hx := S.1
  have hb := S.2.1
  have hS : va_S A s.heap s.heap [] := va_S.rf
  have hl : lv_has ls 2 [(0, .ref (am 0))] := hl
  have hE := hT.symm.trans (FX9_redo.eq_1 _ _ _ _ _ _ _ _)
  refine lv_aload_n hx hb dX9_redo_0 rfl (lv_at hl 0 rfl) ?_
  refine zg9_undone S in_X9_redo_9 hK hP 0 rfl (List.mem_of_getElem? (i := 1) rfl) (v := (g9_undone bm)) rfl dX9_redo_1 ?_
  refine lv_if_ne (tgt := 10) hx hb dX9_redo_4 (by decide) (fun c4 => ?_) (fun c4 => ?_)
  · have hE := hE.trans (if_neg c4)
    have hd11 := hu_m_undone c4
    refine lv_iconst (v := 5) hx hb dX9_redo_10 (by decide) ?_
    refine lv_aload_n hx hb dX9_redo_11 rfl (lv_at hl 0 rfl) ?_
    refine zg9_done S in_X9_redo_9 hK hP 0 rfl (List.mem_of_getElem? (i := 2) rfl) (v := (g9_done bm)) rfl dX9_redo_12 ?_
    refine lv_imul hx hb dX9_redo_15 ?_
    refine lv_istore_n (lv' := [(1, .int (5 * (g9_done bm))), (0, .ref (am 0))]) hx hb dX9_redo_16 rfl hl (by decide) rfl (fun ls hl => ?_)
    refine lv_aload_n hx hb dX9_redo_17 rfl (lv_at hl 1 rfl) ?_
    refine lv_aload_n hx hb dX9_redo_18 rfl (lv_at hl 1 rfl) ?_
    refine zg9_change S in_X9_redo_9 hK hP 0 rfl (List.mem_of_getElem? (i := 3) rfl) dX9_redo_19 ?_
    refine lv_iload_n hx hb dX9_redo_22 rfl (lv_at hl 0 rfl) ?_
    refine zl9_change S hK hP 0 rfl (z5_0 hd11) (f := (g9_change bm)) rfl dX9_redo_23 ?_
    refine lv_aload_n hx hb dX9_redo_24 rfl (lv_at hl 1 rfl) ?_
    refine zg9_change S in_X9_redo_9 hK hP 0 rfl (List.mem_of_getElem? (i := 3) rfl) dX9_redo_25 ?_
    refine lv_iload_n hx hb dX9_redo_28 rfl (lv_at hl 0 rfl) ?_
    refine lv_iconst (v := 1) hx hb dX9_redo_29 (by decide) ?_
    refine lv_iadd hx hb dX9_redo_30 ?_
    refine zl9_change S hK hP 0 rfl (z5 rfl (by decide) hd11) (f := (g9_change bm)) rfl dX9_redo_31 ?_
    refine lv_aload_n hx hb dX9_redo_32 rfl (lv_at hl 1 rfl) ?_
    refine zg9_change S in_X9_redo_9 hK hP 0 rfl (List.mem_of_getElem? (i := 3) rfl) dX9_redo_33 ?_
    refine lv_iload_n hx hb dX9_redo_36 rfl (lv_at hl 0 rfl) ?_
    refine lv_iconst (v := 2) hx hb dX9_redo_37 (by decide) ?_
    refine lv_iadd hx hb dX9_redo_38 ?_
    refine zl9_change S hK hP 0 rfl (z5 rfl (by decide) hd11) (f := (g9_change bm)) rfl dX9_redo_39 ?_
    refine lv_aload_n hx hb dX9_redo_40 rfl (lv_at hl 1 rfl) ?_
    refine zg9_change S in_X9_redo_9 hK hP 0 rfl (List.mem_of_getElem? (i := 3) rfl) dX9_redo_41 ?_
    refine lv_iload_n hx hb dX9_redo_44 rfl (lv_at hl 0 rfl) ?_
    refine lv_iconst (v := 4) hx hb dX9_redo_45 (by decide) ?_
    refine lv_iadd hx hb dX9_redo_46 ?_
    refine zl9_change S hK hP 0 rfl (z5 rfl (by decide) hd11) (f := (g9_change bm)) rfl dX9_redo_47 ?_
    obtain ⟨t48, ht48⟩ : ∃ z, FX9_becomes (g9_facts bm) (g9_rules bm) (g9_strength bm) (g9_off bm) (g9_over bm) ((g9_change bm) (5 * (g9_done bm)).toNatClampNeg) ((g9_change bm) ((5 * (g9_done bm)) + 1).toNatClampNeg) ((g9_change bm) ((5 * (g9_done bm)) + 2).toNatClampNeg) ((g9_change bm) ((5 * (g9_done bm)) + 4).toNatClampNeg) = z := ⟨_, rfl⟩
    have hE := hE.trans (bnd_eq ht48)
    have hc := c_X9_becomes l G am bm ((g9_change bm) (5 * (g9_done bm)).toNatClampNeg) ((g9_change bm) ((5 * (g9_done bm)) + 1).toNatClampNeg) ((g9_change bm) ((5 * (g9_done bm)) + 2).toNatClampNeg) ((g9_change bm) ((5 * (g9_done bm)) + 4).toNatClampNeg) (zchg hc_m_change hd11) _ ht48
    refine zgoV (bs' := [w9 G am (s9_over (s9_off (s9_strength (s9_rules (s9_facts bm t48.1) t48.2.1) t48.2.2.1) t48.2.2.2.1) t48.2.2.2.2)]) hc [0] rfl rfl rfl hP hD hS hA (va_runV (As := [.int ((g9_change bm) (5 * (g9_done bm)).toNatClampNeg), .int ((g9_change bm) ((5 * (g9_done bm)) + 1).toNatClampNeg), .int ((g9_change bm) ((5 * (g9_done bm)) + 2).toNatClampNeg), .int ((g9_change bm) ((5 * (g9_done bm)) + 4).toNatClampNeg)]) (rest := []) S (hc.2 _) (cwV 4 S.2.2.2.2 gX9_redo_X9_becomes rfl rfl rfl (by decide +kernel) ⟨Nat.le_of_ble_eq_true rfl, Nat.le_of_ble_eq_true rfl⟩) (zpV hK hP hD (is := [0]) rfl rfl 0 rfl rfl (ci := 9) rfl) rfl rfl hl.1 rfl (lv_room (Nat.le_of_ble_eq_true rfl)) dX9_redo_48 ⟨Nat.zero_le _, Nat.zero_le _⟩) (fun H locs hP hD hS => ?_)
    refine lv_aload_n hx hb dX9_redo_51 rfl (lv_at hl 1 rfl) ?_
    refine lv_dup hx hb dX9_redo_52 rfl ?_
    refine zg9_done S in_X9_redo_9 hK hP 0 rfl (List.mem_of_getElem? (i := 2) rfl) (v := (g9_done bm)) ((gs9_done_over _ _).trans ((gs9_done_off _ _).trans ((gs9_done_strength _ _).trans ((gs9_done_rules _ _).trans (gs9_done_facts _ _))))) dX9_redo_53 ?_
    refine lv_iconst (v := 1) hx hb dX9_redo_56 (by decide) ?_
    refine lv_iadd hx hb dX9_redo_57 ?_
    refine zp9_done (bs1 := [w9 G am (s9_done (s9_over (s9_off (s9_strength (s9_rules (s9_facts bm t48.1) t48.2.1) t48.2.2.1) t48.2.2.2.1) t48.2.2.2.2) ((g9_done bm) + 1))]) S in_X9_redo_9 hK hP hD hS 0 rfl (List.mem_of_getElem? (i := 2) rfl) dX9_redo_58 rfl (fun H locs hP hD hS => ?_)
    refine lv_aload_n hx hb dX9_redo_61 rfl (lv_at hl 1 rfl) ?_
    refine lv_dup hx hb dX9_redo_62 rfl ?_
    refine zg9_undone S in_X9_redo_9 hK hP 0 rfl (List.mem_of_getElem? (i := 1) rfl) (v := (g9_undone bm)) ((gs9_undone_done _ _).trans ((gs9_undone_over _ _).trans ((gs9_undone_off _ _).trans ((gs9_undone_strength _ _).trans ((gs9_undone_rules _ _).trans (gs9_undone_facts _ _)))))) dX9_redo_63 ?_
    refine lv_iconst (v := 1) hx hb dX9_redo_66 (by decide) ?_
    refine lv_isub hx hb dX9_redo_67 ?_
    refine zp9_undone (bs1 := [w9 G am (s9_undone (s9_done (s9_over (s9_off (s9_strength (s9_rules (s9_facts bm t48.1) t48.2.1) t48.2.2.1) t48.2.2.2.1) t48.2.2.2.2) ((g9_done bm) + 1)) ((g9_undone bm) - 1))]) S in_X9_redo_9 hK hP hD hS 0 rfl (List.mem_of_getElem? (i := 1) rfl) dX9_redo_68 rfl (fun H locs hP hD hS => ?_)
    refine lv_aload_n hx hb dX9_redo_71 rfl (lv_at hl 1 rfl) ?_
    refine zg9_undone S in_X9_redo_9 hK hP 0 rfl (List.mem_of_getElem? (i := 1) rfl) (v := ((g9_undone bm) - 1)) (gg9_undone _ _) dX9_redo_72 ?_
    exact hret _ _ _ _ _ _ (by subst hE; rfl) rfl hP hS dX9_redo_75
  · have hE := hE.trans (if_pos c4)
    refine lv_bipush (v := (-5)) hx hb dX9_redo_7 (by decide) ?_
    rw [show bm = (s9_undone (s9_done (s9_over (s9_off (s9_strength (s9_rules (s9_facts bm (g9_facts bm)) (g9_rules bm)) (g9_strength bm)) (g9_off bm)) (g9_over bm)) (g9_done bm)) (g9_undone bm)) from ((((((((se9_facts _).symm).trans (((se9_rules _).symm).trans (congrArg (fun v => s9_rules (s9_facts bm (g9_facts bm)) v) (gs9_rules_facts _ _)))).trans (((se9_strength _).symm).trans (congrArg (fun v => s9_strength (s9_rules (s9_facts bm (g9_facts bm)) (g9_rules bm)) v) ((gs9_strength_rules _ _).trans (gs9_strength_facts _ _))))).trans (((se9_off _).symm).trans (congrArg (fun v => s9_off (s9_strength (s9_rules (s9_facts bm (g9_facts bm)) (g9_rules bm)) (g9_strength bm)) v) ((gs9_off_strength _ _).trans ((gs9_off_rules _ _).trans (gs9_off_facts _ _)))))).trans (((se9_over _).symm).trans (congrArg (fun v => s9_over (s9_off (s9_strength (s9_rules (s9_facts bm (g9_facts bm)) (g9_rules bm)) (g9_strength bm)) (g9_off bm)) v) ((gs9_over_off _ _).trans ((gs9_over_strength _ _).trans ((gs9_over_rules _ _).trans (gs9_over_facts _ _))))))).trans (((se9_done _).symm).trans (congrArg (fun v => s9_done (s9_over (s9_off (s9_strength (s9_rules (s9_facts bm (g9_facts bm)) (g9_rules bm)) (g9_strength bm)) (g9_off bm)) (g9_over bm)) v) ((gs9_done_over _ _).trans ((gs9_done_off _ _).trans ((gs9_done_strength _ _).trans ((gs9_done_rules _ _).trans (gs9_done_facts _ _)))))))).trans (((se9_undone _).symm).trans (congrArg (fun v => s9_undone (s9_done (s9_over (s9_off (s9_strength (s9_rules (s9_facts bm (g9_facts bm)) (g9_rules bm)) (g9_strength bm)) (g9_off bm)) (g9_over bm)) (g9_done bm)) v) ((gs9_undone_done _ _).trans ((gs9_undone_over _ _).trans ((gs9_undone_off _ _).trans ((gs9_undone_strength _ _).trans ((gs9_undone_rules _ _).trans (gs9_undone_facts _ _)))))))))] at hP hD
    exact hret _ _ _ _ _ _ (by subst hE; rfl) rfl hP hS dX9_redo_9

theorem in_X9_begin_9 : ∀ w ∈ u_ws RX9 TX9 40, w ∈ wsX9_begin := by decide +kernel
def rmX9_begin : Room := { frames := 0, cells := 0, slots := 0, locals := 0 }
set_option maxHeartbeats 4000000 in
set_option maxRecDepth 100000 in
theorem c_X9_begin (l : Launch) (G : zG) (am : Nat → Nat) (bm : S9) (T : Int32 × (Int32) × (Int32) × (Int32) × (Int32)) (hT : FX9_begin (g9_facts bm) (g9_rules bm) (g9_done bm) (g9_undone bm) = T) : zI l yX9_begin wsX9_begin rmX9_begin .int G [.ref (am 0)] [w9 G am bm] T.1 [w9 G am (s9_undone (s9_done (s9_rules (s9_facts bm T.2.1) T.2.2.1) T.2.2.2.1) T.2.2.2.2)] := by
  refine zI.mk (cc := cX9_begin) (maxL := 2) (by decide +kernel) rfl (Nat.le_of_ble_eq_true rfl) (zfl_cons (wf9 _ _ _ _) rfl) ?_
  intro p e s m args below meth c Q A ls S hK hD hA hP hl hret
  have hx := S.1
  have hb := S.2.1
  have hS : va_S A s.heap s.heap [] := va_S.rf
  have hl : lv_has ls 2 [(0, .ref (am 0))] := hl
  have hE := hT.symm.trans (FX9_begin.eq_1 _ _ _ _)
  refine lv_aload_n hx hb dX9_begin_0 rfl (lv_at hl 0 rfl) ?_
  refine zg9_rules S in_X9_begin_9 hK hP 0 rfl (List.mem_of_getElem? (i := 1) rfl) (v := (g9_rules bm)) rfl dX9_begin_1 ?_
  refine lv_istore_n (lv' := [(1, .int (g9_rules bm)), (0, .ref (am 0))]) hx hb dX9_begin_4 rfl hl (by decide) rfl (fun ls hl => ?_)
  refine lv_aload_n hx hb dX9_begin_5 rfl (lv_at hl 1 rfl) ?_
  refine lv_iconst (v := 0) hx hb dX9_begin_6 (by decide) ?_
  refine zp9_facts (bs1 := [w9 G am (s9_facts bm 0)]) S in_X9_begin_9 hK hP hD hS 0 rfl (List.mem_of_getElem? (i := 2) rfl) dX9_begin_7 rfl (fun H locs hP hD hS => ?_)
  refine lv_aload_n hx hb dX9_begin_10 rfl (lv_at hl 1 rfl) ?_
  refine lv_iconst (v := 0) hx hb dX9_begin_11 (by decide) ?_
  refine zp9_rules (bs1 := [w9 G am (s9_rules (s9_facts bm 0) 0)]) S in_X9_begin_9 hK hP hD hS 0 rfl (List.mem_of_getElem? (i := 1) rfl) dX9_begin_12 rfl (fun H locs hP hD hS => ?_)
  refine lv_aload_n hx hb dX9_begin_15 rfl (lv_at hl 1 rfl) ?_
  refine lv_iconst (v := 0) hx hb dX9_begin_16 (by decide) ?_
  refine zp9_done (bs1 := [w9 G am (s9_done (s9_rules (s9_facts bm 0) 0) 0)]) S in_X9_begin_9 hK hP hD hS 0 rfl (List.mem_of_getElem? (i := 3) rfl) dX9_begin_17 rfl (fun H locs hP hD hS => ?_)
  refine lv_aload_n hx hb dX9_begin_20 rfl (lv_at hl 1 rfl) ?_
  refine lv_iconst (v := 0) hx hb dX9_begin_21 (by decide) ?_
  refine zp9_undone (bs1 := [w9 G am (s9_undone (s9_done (s9_rules (s9_facts bm 0) 0) 0) 0)]) S in_X9_begin_9 hK hP hD hS 0 rfl (List.mem_of_getElem? (i := 4) rfl) dX9_begin_22 rfl (fun H locs hP hD hS => ?_)
  refine lv_iload_n hx hb dX9_begin_25 rfl (lv_at hl 0 rfl) ?_
  exact hret _ _ _ _ _ _ (by subst hE; rfl) rfl hP hS dX9_begin_26

theorem in_X9_changed_9 : ∀ w ∈ u_ws RX9 TX9 40, w ∈ wsX9_changed := by decide +kernel
def rmX9_changed : Room := { frames := 0, cells := 0, slots := 0, locals := 0 }
set_option maxHeartbeats 4000000 in
set_option maxRecDepth 100000 in
theorem c_X9_changed (l : Launch) (G : zG) (am : Nat → Nat) (bm : S9) (x1 : Int32) (x2 : Int32) (x3 : Int32) (x4 : Int32) (x5 : Int32) (hd_m_done : ∃ N : Nat, N ≤ 12 ∧ g9_done bm = nI N) (T : (Nat → Int32) × (Int32) × (Int32)) (hT : FX9_changed (g9_change bm) (g9_done bm) (g9_undone bm) x1 x2 x3 x4 x5 = T) : zV l yX9_changed wsX9_changed rmX9_changed G [.ref (am 0), .int x1, .int x2, .int x3, .int x4, .int x5] [w9 G am bm] [w9 G am (s9_undone (s9_done (s9_change bm T.1) T.2.1) T.2.2)] := by
  refine zV.mk (cc := cX9_changed) (maxL := 7) (by decide +kernel) rfl (Nat.le_of_ble_eq_true rfl) (zfl_cons (wf9 _ _ _ _) rfl) ?_
  intro p e s m args below meth c Q A ls S hK hD hA hP hl hret
  have hx := S.1
  have hb := S.2.1
  have hS : va_S A s.heap s.heap [] := va_S.rf
  have hl : lv_has ls 7 [(0, .ref (am 0)), (1, .int x1), (2, .int x2), (3, .int x3), (4, .int x4), (5, .int x5)] := hl
  have hE := hT.symm.trans (FX9_changed.eq_1 _ _ _ _ _ _ _ _)
  refine lv_aload_n hx hb dX9_changed_0 rfl (lv_at hl 0 rfl) ?_
  refine zg9_done S in_X9_changed_9 hK hP 0 rfl (List.mem_of_getElem? (i := 1) rfl) (v := (g9_done bm)) rfl dX9_changed_1 ?_
  refine lv_bipush (v := 12) hx hb dX9_changed_4 (by decide) ?_
  have hB51 : ∀ (m_change_51 : Nat → Int32) (m_done_51 : Int32) (H : Heap) (locs : List Loc) (ls : Array Slot), (∃ N : Nat, N ≤ 11 ∧ m_done_51 = nI N) → T = FX9_changed_51 (g9_change bm) (g9_done bm) (g9_undone bm) x1 x2 x3 x4 x5 m_change_51 m_done_51 (g9_undone bm) → zP G [w9 G am (s9_done (s9_change bm m_change_51) m_done_51)] H → zD A [w9 G am (s9_done (s9_change bm m_change_51) m_done_51)] → va_S A s.heap H locs → lv_has ls 7 [(0, .ref (am 0)), (1, .int x1), (2, .int x2), (3, .int x3), (4, .int x4), (5, .int x5)] → W p l e rmX9_changed s m args below meth c H locs 0 0 Q (F0 m 51 ls []) := by
    intro m_change_51 m_done_51 H locs ls hd51 hE hP hD hS hl
    have hE := hE.trans (FX9_changed_51.eq_1 _ _ _ _ _ _ _ _ _ _ _)
    refine lv_aload_n hx hb dX9_changed_51 rfl (lv_at hl 0 rfl) ?_
    refine zg9_change S in_X9_changed_9 hK hP 0 rfl (List.mem_of_getElem? (i := 2) rfl) dX9_changed_52 ?_
    refine lv_iconst (v := 5) hx hb dX9_changed_55 (by decide) ?_
    refine lv_aload_n hx hb dX9_changed_56 rfl (lv_at hl 0 rfl) ?_
    refine zg9_done S in_X9_changed_9 hK hP 0 rfl (List.mem_of_getElem? (i := 1) rfl) (v := m_done_51) (gg9_done _ _) dX9_changed_57 ?_
    refine lv_imul hx hb dX9_changed_60 ?_
    refine lv_iload_n hx hb dX9_changed_61 rfl (lv_at hl 1 rfl) ?_
    refine zs9_change (bs1 := [w9 G am (s9_change (s9_done (s9_change bm m_change_51) m_done_51) (upd m_change_51 (5 * m_done_51).toNatClampNeg x1))]) S hK hP hD hS 0 rfl (z5_0 hd51) (f := m_change_51) ((gs9_change_done _ _).trans (gg9_change _ _)) dX9_changed_62 rfl (fun H locs hP hD hS => ?_)
    obtain ⟨u62, hu62⟩ : ∃ z, upd m_change_51 (5 * m_done_51).toNatClampNeg x1 = z := ⟨_, rfl⟩
    rw [hu62] at hP hD
    have hE := hE.trans (bnd_eq hu62)
    refine lv_aload_n hx hb dX9_changed_63 rfl (lv_at hl 0 rfl) ?_
    refine zg9_change S in_X9_changed_9 hK hP 0 rfl (List.mem_of_getElem? (i := 2) rfl) dX9_changed_64 ?_
    refine lv_iconst (v := 5) hx hb dX9_changed_67 (by decide) ?_
    refine lv_aload_n hx hb dX9_changed_68 rfl (lv_at hl 0 rfl) ?_
    refine zg9_done S in_X9_changed_9 hK hP 0 rfl (List.mem_of_getElem? (i := 1) rfl) (v := m_done_51) ((gs9_done_change _ _).trans (gg9_done _ _)) dX9_changed_69 ?_
    refine lv_imul hx hb dX9_changed_72 ?_
    refine lv_iconst (v := 1) hx hb dX9_changed_73 (by decide) ?_
    refine lv_iadd hx hb dX9_changed_74 ?_
    refine lv_iload_n hx hb dX9_changed_75 rfl (lv_at hl 2 rfl) ?_
    refine zs9_change (bs1 := [w9 G am (s9_change (s9_change (s9_done (s9_change bm m_change_51) m_done_51) u62) (upd u62 ((5 * m_done_51) + 1).toNatClampNeg x2))]) S hK hP hD hS 0 rfl (z5 rfl (by decide) hd51) (f := u62) (gg9_change _ _) dX9_changed_76 rfl (fun H locs hP hD hS => ?_)
    obtain ⟨u76, hu76⟩ : ∃ z, upd u62 ((5 * m_done_51) + 1).toNatClampNeg x2 = z := ⟨_, rfl⟩
    rw [hu76] at hP hD
    have hE := hE.trans (bnd_eq hu76)
    refine lv_aload_n hx hb dX9_changed_77 rfl (lv_at hl 0 rfl) ?_
    refine zg9_change S in_X9_changed_9 hK hP 0 rfl (List.mem_of_getElem? (i := 2) rfl) dX9_changed_78 ?_
    refine lv_iconst (v := 5) hx hb dX9_changed_81 (by decide) ?_
    refine lv_aload_n hx hb dX9_changed_82 rfl (lv_at hl 0 rfl) ?_
    refine zg9_done S in_X9_changed_9 hK hP 0 rfl (List.mem_of_getElem? (i := 1) rfl) (v := m_done_51) ((gs9_done_change _ _).trans ((gs9_done_change _ _).trans (gg9_done _ _))) dX9_changed_83 ?_
    refine lv_imul hx hb dX9_changed_86 ?_
    refine lv_iconst (v := 2) hx hb dX9_changed_87 (by decide) ?_
    refine lv_iadd hx hb dX9_changed_88 ?_
    refine lv_iload_n hx hb dX9_changed_89 rfl (lv_at hl 3 rfl) ?_
    refine zs9_change (bs1 := [w9 G am (s9_change (s9_change (s9_change (s9_done (s9_change bm m_change_51) m_done_51) u62) u76) (upd u76 ((5 * m_done_51) + 2).toNatClampNeg x3))]) S hK hP hD hS 0 rfl (z5 rfl (by decide) hd51) (f := u76) (gg9_change _ _) dX9_changed_90 rfl (fun H locs hP hD hS => ?_)
    obtain ⟨u90, hu90⟩ : ∃ z, upd u76 ((5 * m_done_51) + 2).toNatClampNeg x3 = z := ⟨_, rfl⟩
    rw [hu90] at hP hD
    have hE := hE.trans (bnd_eq hu90)
    refine lv_aload_n hx hb dX9_changed_91 rfl (lv_at hl 0 rfl) ?_
    refine zg9_change S in_X9_changed_9 hK hP 0 rfl (List.mem_of_getElem? (i := 2) rfl) dX9_changed_92 ?_
    refine lv_iconst (v := 5) hx hb dX9_changed_95 (by decide) ?_
    refine lv_aload_n hx hb dX9_changed_96 rfl (lv_at hl 0 rfl) ?_
    refine zg9_done S in_X9_changed_9 hK hP 0 rfl (List.mem_of_getElem? (i := 1) rfl) (v := m_done_51) ((gs9_done_change _ _).trans ((gs9_done_change _ _).trans ((gs9_done_change _ _).trans (gg9_done _ _)))) dX9_changed_97 ?_
    refine lv_imul hx hb dX9_changed_100 ?_
    refine lv_iconst (v := 3) hx hb dX9_changed_101 (by decide) ?_
    refine lv_iadd hx hb dX9_changed_102 ?_
    refine lv_iload hx hb dX9_changed_103 (lv_at hl 4 rfl) ?_
    refine zs9_change (bs1 := [w9 G am (s9_change (s9_change (s9_change (s9_change (s9_done (s9_change bm m_change_51) m_done_51) u62) u76) u90) (upd u90 ((5 * m_done_51) + 3).toNatClampNeg x4))]) S hK hP hD hS 0 rfl (z5 rfl (by decide) hd51) (f := u90) (gg9_change _ _) dX9_changed_105 rfl (fun H locs hP hD hS => ?_)
    obtain ⟨u105, hu105⟩ : ∃ z, upd u90 ((5 * m_done_51) + 3).toNatClampNeg x4 = z := ⟨_, rfl⟩
    rw [hu105] at hP hD
    have hE := hE.trans (bnd_eq hu105)
    refine lv_aload_n hx hb dX9_changed_106 rfl (lv_at hl 0 rfl) ?_
    refine zg9_change S in_X9_changed_9 hK hP 0 rfl (List.mem_of_getElem? (i := 2) rfl) dX9_changed_107 ?_
    refine lv_iconst (v := 5) hx hb dX9_changed_110 (by decide) ?_
    refine lv_aload_n hx hb dX9_changed_111 rfl (lv_at hl 0 rfl) ?_
    refine zg9_done S in_X9_changed_9 hK hP 0 rfl (List.mem_of_getElem? (i := 1) rfl) (v := m_done_51) ((gs9_done_change _ _).trans ((gs9_done_change _ _).trans ((gs9_done_change _ _).trans ((gs9_done_change _ _).trans (gg9_done _ _))))) dX9_changed_112 ?_
    refine lv_imul hx hb dX9_changed_115 ?_
    refine lv_iconst (v := 4) hx hb dX9_changed_116 (by decide) ?_
    refine lv_iadd hx hb dX9_changed_117 ?_
    refine lv_iload hx hb dX9_changed_118 (lv_at hl 5 rfl) ?_
    refine zs9_change (bs1 := [w9 G am (s9_change (s9_change (s9_change (s9_change (s9_change (s9_done (s9_change bm m_change_51) m_done_51) u62) u76) u90) u105) (upd u105 ((5 * m_done_51) + 4).toNatClampNeg x5))]) S hK hP hD hS 0 rfl (z5 rfl (by decide) hd51) (f := u105) (gg9_change _ _) dX9_changed_120 rfl (fun H locs hP hD hS => ?_)
    obtain ⟨u120, hu120⟩ : ∃ z, upd u105 ((5 * m_done_51) + 4).toNatClampNeg x5 = z := ⟨_, rfl⟩
    rw [hu120] at hP hD
    have hE := hE.trans (bnd_eq hu120)
    refine lv_aload_n hx hb dX9_changed_121 rfl (lv_at hl 0 rfl) ?_
    refine lv_dup hx hb dX9_changed_122 rfl ?_
    refine zg9_done S in_X9_changed_9 hK hP 0 rfl (List.mem_of_getElem? (i := 1) rfl) (v := m_done_51) ((gs9_done_change _ _).trans ((gs9_done_change _ _).trans ((gs9_done_change _ _).trans ((gs9_done_change _ _).trans ((gs9_done_change _ _).trans (gg9_done _ _)))))) dX9_changed_123 ?_
    refine lv_iconst (v := 1) hx hb dX9_changed_126 (by decide) ?_
    refine lv_iadd hx hb dX9_changed_127 ?_
    refine zp9_done (bs1 := [w9 G am (s9_done (s9_change (s9_change (s9_change (s9_change (s9_change (s9_done (s9_change bm m_change_51) m_done_51) u62) u76) u90) u105) u120) (m_done_51 + 1))]) S in_X9_changed_9 hK hP hD hS 0 rfl (List.mem_of_getElem? (i := 1) rfl) dX9_changed_128 rfl (fun H locs hP hD hS => ?_)
    refine lv_aload_n hx hb dX9_changed_131 rfl (lv_at hl 0 rfl) ?_
    refine lv_iconst (v := 0) hx hb dX9_changed_132 (by decide) ?_
    refine zp9_undone (bs1 := [w9 G am (s9_undone (s9_done (s9_change (s9_change (s9_change (s9_change (s9_change (s9_done (s9_change bm m_change_51) m_done_51) u62) u76) u90) u105) u120) (m_done_51 + 1)) 0)]) S in_X9_changed_9 hK hP hD hS 0 rfl (List.mem_of_getElem? (i := 3) rfl) dX9_changed_133 rfl (fun H locs hP hD hS => ?_)
    rw [show (s9_undone (s9_done (s9_change (s9_change (s9_change (s9_change (s9_change (s9_done (s9_change bm m_change_51) m_done_51) u62) u76) u90) u105) u120) (m_done_51 + 1)) 0) = (s9_undone (s9_done (s9_change bm u120) (m_done_51 + 1)) 0) from (congrArg (fun z => s9_undone z 0) ((congrArg (fun z => s9_done z (m_done_51 + 1)) ((congrArg (fun z => s9_change z u120) ((congrArg (fun z => s9_change z u105) ((congrArg (fun z => s9_change z u90) ((congrArg (fun z => s9_change z u76) ((cm9_change_done _ _ _).trans (congrArg (fun z => s9_done z m_done_51) (ss9_change _ _ _)))).trans ((cm9_change_done _ _ _).trans (congrArg (fun z => s9_done z m_done_51) (ss9_change _ _ _))))).trans ((cm9_change_done _ _ _).trans (congrArg (fun z => s9_done z m_done_51) (ss9_change _ _ _))))).trans ((cm9_change_done _ _ _).trans (congrArg (fun z => s9_done z m_done_51) (ss9_change _ _ _))))).trans ((cm9_change_done _ _ _).trans (congrArg (fun z => s9_done z m_done_51) (ss9_change _ _ _))))).trans (ss9_done _ _ _)))] at hP hD
    exact hret _ _ _ _ _ (by subst hE; rfl) hP hS dX9_changed_136
  refine lv_icmp_ne (tgt := 51) hx hb dX9_changed_6 (by decide) (fun c6 => ?_) (fun c6 => ?_)
  · have hE := hE.trans (if_neg c6)
    rw [show bm = (s9_done (s9_change bm (g9_change bm)) (g9_done bm)) from (((se9_change _).symm).trans (((se9_done _).symm).trans (congrArg (fun v => s9_done (s9_change bm (g9_change bm)) v) (gs9_done_change _ _))))] at hP hD
    exact hB51 (g9_change bm) (g9_done bm) _ _ _ (by exact zd11 hd_m_done c6) hE hP hD hS (lv_sub hl [0, 1, 2, 3, 4, 5] rfl)
  · have hE := hE.trans (if_pos c6)
    refine lv_iconst (v := 5) hx hb dX9_changed_9 (by decide) ?_
    have hB41 : ∀ (m_change_41 : Nat → Int32) (H : Heap) (locs : List Loc) (ls : Array Slot), T = FX9_changed_41 (g9_change bm) (g9_done bm) (g9_undone bm) x1 x2 x3 x4 x5 m_change_41 (g9_done bm) (g9_undone bm) → zP G [w9 G am (s9_change bm m_change_41)] H → zD A [w9 G am (s9_change bm m_change_41)] → va_S A s.heap H locs → lv_has ls 7 [(0, .ref (am 0)), (1, .int x1), (2, .int x2), (3, .int x3), (4, .int x4), (5, .int x5)] → W p l e rmX9_changed s m args below meth c H locs 0 0 Q (F0 m 41 ls []) := by
      intro m_change_41 H locs ls hE hP hD hS hl
      have hE := hE.trans (FX9_changed_41.eq_1 _ _ _ _ _ _ _ _ _ _ _)
      refine lv_aload_n hx hb dX9_changed_41 rfl (lv_at hl 0 rfl) ?_
      refine lv_dup hx hb dX9_changed_42 rfl ?_
      refine zg9_done S in_X9_changed_9 hK hP 0 rfl (List.mem_of_getElem? (i := 1) rfl) (v := (g9_done bm)) (gs9_done_change _ _) dX9_changed_43 ?_
      refine lv_iconst (v := 1) hx hb dX9_changed_46 (by decide) ?_
      refine lv_isub hx hb dX9_changed_47 ?_
      refine zp9_done (bs1 := [w9 G am (s9_done (s9_change bm m_change_41) ((g9_done bm) - 1))]) S in_X9_changed_9 hK hP hD hS 0 rfl (List.mem_of_getElem? (i := 1) rfl) dX9_changed_48 rfl (fun H locs hP hD hS => ?_)
      exact hB51 m_change_41 ((g9_done bm) - 1) _ _ _ (by rw [c6]; exact ⟨11, by omega, rfl⟩) hE hP hD hS (lv_sub hl [0, 1, 2, 3, 4, 5] rfl)
    have hB12 : ∀ (n12 : Nat) (i6_12 : Nat) (m_change_12 : Nat → Int32) (H : Heap) (locs : List Loc) (ls : Array Slot), (i6_12 ≤ 60) → (5 ≤ i6_12) → 61 ≤ i6_12 + n12 → T = FX9_changed_12 (g9_change bm) (g9_done bm) (g9_undone bm) x1 x2 x3 x4 x5 (FX9_changed_41 (g9_change bm) (g9_done bm) (g9_undone bm) x1 x2 x3 x4 x5) n12 (nI i6_12) m_change_12 (g9_done bm) (g9_undone bm) → zP G [w9 G am (s9_change bm m_change_12)] H → zD A [w9 G am (s9_change bm m_change_12)] → va_S A s.heap H locs → lv_has ls 7 [(0, .ref (am 0)), (1, .int x1), (2, .int x2), (3, .int x3), (4, .int x4), (5, .int x5), (6, .int (nI i6_12))] → W p l e rmX9_changed s m args below meth c H locs 0 0 Q (F0 m 12 ls []) := by
      intro n12
      induction n12 with
      | zero =>
        intro i6_12 m_change_12 H locs ls hi6_12 hk6_12 hn hE hP hD hS hl
        exact absurd hn (by omega)
      | succ n12 ih12 =>
        intro i6_12 m_change_12 H locs ls hi6_12 hk6_12 hn hE hP hD hS hl
        have hE := hE.trans (FX9_changed_12.eq_2 _ _ _ _ _ _ _ _ _ _ _ _ _ _)
        refine lv_iload hx hb dX9_changed_12 (lv_at hl 6 rfl) ?_
        refine lv_bipush (v := 60) hx hb dX9_changed_14 (by decide) ?_
        refine lv_icmp_ge (tgt := 41) hx hb dX9_changed_16 (by decide) (fun c16 => ?_) (fun c16 => ?_)
        · have hE := hE.trans (if_pos c16)
          exact hB41 m_change_12 _ _ _ hE hP hD hS (lv_sub hl [0, 1, 2, 3, 4, 5] rfl)
        · have hE := hE.trans (if_neg c16)
          have hl6_12 : i6_12 < 60 := zlt (N := 60) rfl (by omega) (by omega) c16
          refine lv_aload_n hx hb dX9_changed_19 rfl (lv_at hl 0 rfl) ?_
          refine zg9_change S in_X9_changed_9 hK hP 0 rfl (List.mem_of_getElem? (i := 2) rfl) dX9_changed_20 ?_
          refine lv_iload hx hb dX9_changed_23 (lv_at hl 6 rfl) ?_
          refine lv_iconst (v := 5) hx hb dX9_changed_25 (by decide) ?_
          refine lv_isub hx hb dX9_changed_26 ?_
          refine lv_aload_n hx hb dX9_changed_27 rfl (lv_at hl 0 rfl) ?_
          refine zg9_change S in_X9_changed_9 hK hP 0 rfl (List.mem_of_getElem? (i := 2) rfl) dX9_changed_28 ?_
          refine lv_iload hx hb dX9_changed_31 (lv_at hl 6 rfl) ?_
          refine zl9_change S hK hP 0 rfl (vp_in_nI (by omega) (by omega)) (f := m_change_12) (gg9_change _ _) dX9_changed_33 ?_
          refine zs9_change (bs1 := [w9 G am (s9_change (s9_change bm m_change_12) (upd m_change_12 ((nI i6_12) - 5).toNatClampNeg (m_change_12 (nI i6_12).toNatClampNeg)))]) S hK hP hD hS 0 rfl (by rw [show (5 : Int32) = nI 5 from rfl, pk_sub (by omega)]; exact vp_in_nI (by omega) (by omega)) (f := m_change_12) (gg9_change _ _) dX9_changed_34 rfl (fun H locs hP hD hS => ?_)
          obtain ⟨u34, hu34⟩ : ∃ z, upd m_change_12 ((nI i6_12) - 5).toNatClampNeg (m_change_12 (nI i6_12).toNatClampNeg) = z := ⟨_, rfl⟩
          rw [hu34] at hP hD
          have hE := hE.trans (bnd_eq hu34)
          refine lv_iinc (v := (nI (i6_12 + 1))) (lv' := [(6, .int (nI (i6_12 + 1))), (0, .ref (am 0)), (1, .int x1), (2, .int x2), (3, .int x3), (4, .int x4), (5, .int x5)]) hx hb dX9_changed_35 hl (k := 6) rfl (nI_1 i6_12) (by decide) rfl (fun ls hl => ?_)
          try rw [nI_1 i6_12] at hE
          refine lv_goto (tgt := 12) hx hb dX9_changed_38 (by decide) ?_
          rw [show (s9_change (s9_change bm m_change_12) u34) = (s9_change bm u34) from (ss9_change _ _ _)] at hP hD
          exact ih12 (i6_12 + 1) u34 _ _ _ (by first | assumption | omega) (by first | assumption | omega) (by omega) hE hP hD hS (lv_sub hl [1, 2, 3, 4, 5, 6, 0] rfl)
    refine lv_istore (lv' := [(6, .int 5), (0, .ref (am 0)), (1, .int x1), (2, .int x2), (3, .int x3), (4, .int x4), (5, .int x5)]) hx hb dX9_changed_10 hl (by decide) rfl (fun ls hl => ?_)
    rw [show bm = (s9_change bm (g9_change bm)) from ((se9_change _).symm)] at hP hD
    exact hB12 61 5 (g9_change bm) _ _ _ (by first | assumption | omega) (by first | assumption | omega) (by omega) hE hP hD hS (lv_sub hl [1, 2, 3, 4, 5, 6, 0] rfl)

theorem zdn_51 {c c1 : Nat → Int32} {d u x1 x2 x3 x4 x5 d1 u1 : Int32} (h : ∃ N : Nat, N ≤ 11 ∧ d1 = nI N) : ∃ N : Nat, N ≤ 12 ∧ (FX9_changed_51 c d u x1 x2 x3 x4 x5 c1 d1 u1).2.1 = nI N := by
  obtain ⟨N, h1, rfl⟩ := h
  exact ⟨N + 1, by omega, nI_1 N⟩
theorem zdn_12 {c : Nat → Int32} {d u x1 x2 x3 x4 x5 : Int32} {kt : (Nat → Int32) → Int32 → Int32 → (Nat → Int32) × Int32 × Int32} {P : Int32 → Int32 → Prop} (hk : ∀ c d u, P d u → ∃ N : Nat, N ≤ 12 ∧ (kt c d u).2.1 = nI N) : ∀ (n : Nat) (x : Int32) (c1 : Nat → Int32) (d1 u1 : Int32), P d1 u1 → ∃ N : Nat, N ≤ 12 ∧ (FX9_changed_12 c d u x1 x2 x3 x4 x5 kt n x c1 d1 u1).2.1 = nI N
  | 0, x, c1, d1, u1, h => hk _ _ _ h
  | n + 1, x, c1, d1, u1, h => by
    rw [FX9_changed_12]
    split
    · exact hk _ _ _ h
    · exact zdn_12 hk n _ _ _ _ h
theorem zdn_changed {c : Nat → Int32} {d u x1 x2 x3 x4 x5 : Int32} (h : ∃ N : Nat, N ≤ 12 ∧ d = nI N) : ∃ N : Nat, N ≤ 12 ∧ (FX9_changed c d u x1 x2 x3 x4 x5).2.1 = nI N := by
  unfold FX9_changed
  split
  · rename_i e
    exact zdn_12 (P := fun d1 _ => d1 = 12) (fun c d u h => by rw [h]; exact zdn_51 ⟨11, by omega, rfl⟩) _ _ _ _ _ e
  · rename_i e
    exact zdn_51 (zd11 h e)

def rmX9_does : Room := { frames := 1, cells := 0, slots := 0, locals := 26 }
set_option maxHeartbeats 4000000 in
set_option maxRecDepth 100000 in
theorem c_X9_does (l : Launch) (G : zG) (am : Nat → Nat) (bm : S9) (x1 : Int32) (x2 : Int32) (x3 : Int32) (x4 : Int32) (x5 : Int32) (hd_m_done : ∃ N : Nat, N ≤ 12 ∧ g9_done bm = nI N) (T : Int32 × (Int32) × (Int32) × (Nat → Int32) × (Nat → Int32) × (Nat → Int32) × (Nat → Int32) × (Int32) × (Int32)) (hT : FX9_does (g9_facts bm) (g9_rules bm) (g9_strength bm) (g9_off bm) (g9_over bm) (g9_change bm) (g9_done bm) (g9_undone bm) x1 x2 x3 x4 x5 = T) : zI l yX9_does wsX9_does rmX9_does .int G [.ref (am 0), .int x1, .int x2, .int x3, .int x4, .int x5] [w9 G am bm] T.1 [w9 G am (s9_undone (s9_done (s9_change (s9_over (s9_off (s9_strength (s9_rules (s9_facts bm T.2.1) T.2.2.1) T.2.2.2.1) T.2.2.2.2.1) T.2.2.2.2.2.1) T.2.2.2.2.2.2.1) T.2.2.2.2.2.2.2.1) T.2.2.2.2.2.2.2.2)] := by
  refine zI.mk (cc := cX9_does) (maxL := 6) (by decide +kernel) rfl (Nat.le_of_ble_eq_true rfl) (zfl_cons (wf9 _ _ _ _) rfl) ?_
  intro p e s m args below meth c Q A ls S hK hD hA hP hl hret
  have hx := S.1
  have hb := S.2.1
  have hS : va_S A s.heap s.heap [] := va_S.rf
  have hl : lv_has ls 6 [(0, .ref (am 0)), (1, .int x1), (2, .int x2), (3, .int x3), (4, .int x4), (5, .int x5)] := hl
  have hE := hT.symm.trans (FX9_does.eq_1 _ _ _ _ _ _ _ _ _ _ _ _ _)
  refine lv_aload_n hx hb dX9_does_0 rfl (lv_at hl 0 rfl) ?_
  refine lv_iload_n hx hb dX9_does_1 rfl (lv_at hl 1 rfl) ?_
  refine lv_iload_n hx hb dX9_does_2 rfl (lv_at hl 2 rfl) ?_
  refine lv_iload_n hx hb dX9_does_3 rfl (lv_at hl 3 rfl) ?_
  refine lv_iload hx hb dX9_does_4 (lv_at hl 5 rfl) ?_
  obtain ⟨t6, ht6⟩ : ∃ z, FX9_becomes (g9_facts bm) (g9_rules bm) (g9_strength bm) (g9_off bm) (g9_over bm) x1 x2 x3 x5 = z := ⟨_, rfl⟩
  have hE := hE.trans (bnd_eq ht6)
  have hc := c_X9_becomes l G am bm x1 x2 x3 x5 (by first | assumption | exact vp_in_nI (by omega) (by omega) | omega) _ ht6
  refine zgoV (bs' := [w9 G am (s9_over (s9_off (s9_strength (s9_rules (s9_facts bm t6.1) t6.2.1) t6.2.2.1) t6.2.2.2.1) t6.2.2.2.2)]) hc [0] rfl rfl rfl hP hD hS hA (va_runV (As := [.int x1, .int x2, .int x3, .int x5]) (rest := []) S (hc.2 _) (cwV 4 S.2.2.2.2 gX9_does_X9_becomes rfl rfl rfl (by decide +kernel) ⟨Nat.le_of_ble_eq_true rfl, Nat.le_of_ble_eq_true rfl⟩) (zpV hK hP hD (is := [0]) rfl rfl 0 rfl rfl (ci := 9) rfl) rfl rfl hl.1 rfl (lv_room (Nat.le_of_ble_eq_true rfl)) dX9_does_6 ⟨Nat.zero_le _, Nat.zero_le _⟩) (fun H locs hP hD hS => ?_)
  refine lv_aload_n hx hb dX9_does_9 rfl (lv_at hl 0 rfl) ?_
  refine lv_iload_n hx hb dX9_does_10 rfl (lv_at hl 1 rfl) ?_
  refine lv_iload_n hx hb dX9_does_11 rfl (lv_at hl 2 rfl) ?_
  refine lv_iload_n hx hb dX9_does_12 rfl (lv_at hl 3 rfl) ?_
  refine lv_iload hx hb dX9_does_13 (lv_at hl 4 rfl) ?_
  refine lv_iload hx hb dX9_does_15 (lv_at hl 5 rfl) ?_
  obtain ⟨t17, ht17⟩ : ∃ z, FX9_changed (g9_change bm) (g9_done bm) (g9_undone bm) x1 x2 x3 x4 x5 = z := ⟨_, rfl⟩
  have hE := hE.trans (bnd_eq ht17)
  have hc := c_X9_changed l G am (s9_over (s9_off (s9_strength (s9_rules (s9_facts bm t6.1) t6.2.1) t6.2.2.1) t6.2.2.2.1) t6.2.2.2.2) x1 x2 x3 x4 x5 (hd_m_done) _ (by simp only [gs9_change_over, gs9_change_off, gs9_change_strength, gs9_change_rules, gs9_change_facts, gs9_done_over, gs9_done_off, gs9_done_strength, gs9_done_rules, gs9_done_facts, gs9_undone_over, gs9_undone_off, gs9_undone_strength, gs9_undone_rules, gs9_undone_facts]; exact ht17)
  refine zgoV (bs' := [w9 G am (s9_undone (s9_done (s9_change (s9_over (s9_off (s9_strength (s9_rules (s9_facts bm t6.1) t6.2.1) t6.2.2.1) t6.2.2.2.1) t6.2.2.2.2) t17.1) t17.2.1) t17.2.2)]) hc [0] rfl rfl rfl hP hD hS hA (va_runV (As := [.int x1, .int x2, .int x3, .int x4, .int x5]) (rest := []) S (hc.2 _) (cwV 5 S.2.2.2.2 gX9_does_X9_changed rfl rfl rfl (by decide +kernel) ⟨Nat.le_of_ble_eq_true rfl, Nat.le_of_ble_eq_true rfl⟩) (zpV hK hP hD (is := [0]) rfl rfl 0 rfl rfl (ci := 9) rfl) rfl rfl hl.1 rfl (lv_room (Nat.le_of_ble_eq_true rfl)) dX9_does_17 ⟨Nat.zero_le _, Nat.zero_le _⟩) (fun H locs hP hD hS => ?_)
  refine lv_iload hx hb dX9_does_20 (lv_at hl 4 rfl) ?_
  exact hret _ _ _ _ _ _ (by subst hE; rfl) rfl hP hS dX9_does_22

theorem zdn_does {f r d u x1 x2 x3 x4 x5 : Int32} {s o v c : Nat → Int32} (h : ∃ N : Nat, N ≤ 12 ∧ d = nI N) : ∃ N : Nat, N ≤ 12 ∧ (FX9_does f r s o v c d u x1 x2 x3 x4 x5).2.2.2.2.2.2.2.1 = nI N := zdn_changed h
theorem zru_does {f r d u x1 x2 x3 x4 x5 : Int32} {s o v c : Nat → Int32} (h : ¬ x1 = 1) : (FX9_does f r s o v c d u x1 x2 x3 x4 x5).2.2.1 = r := by
  show (FX9_becomes f r s o v x1 x2 x3 x5).2.1 = r
  unfold FX9_becomes
  repeat' split
  all_goals first | rfl | exact absurd (by assumption) h
theorem zru_doesR {f r d u x2 x3 x4 x5 : Int32} {s o v c : Nat → Int32} : (FX9_does f r s o v c d u 1 x2 x3 x4 x5).2.2.1 = x2 + x5 := by
  show (FX9_becomes f r s o v 1 x2 x3 x5).2.1 = _
  unfold FX9_becomes
  rw [if_neg (by decide), if_pos rfl]

theorem in_X9_fact_9 : ∀ w ∈ u_ws RX9 TX9 40, w ∈ wsX9_fact := by decide +kernel
def rmX9_fact : Room := { frames := 2, cells := 0, slots := 0, locals := 51 }
set_option maxHeartbeats 4000000 in
set_option maxRecDepth 100000 in
theorem c_X9_fact (l : Launch) (G : zG) (am : Nat → Nat) (bm : S9) (x1 : Int32) (x2 : Int32) (hd_m_done : ∃ N : Nat, N ≤ 12 ∧ g9_done bm = nI N) (T : Int32 × (Int32) × (Int32) × (Nat → Int32) × (Nat → Int32) × (Nat → Int32) × (Nat → Int32) × (Int32) × (Int32)) (hT : FX9_fact (g9_facts bm) (g9_rules bm) (g9_strength bm) (g9_off bm) (g9_over bm) (g9_change bm) (g9_done bm) (g9_undone bm) x1 x2 = T) : zI l yX9_fact wsX9_fact rmX9_fact .int G [.ref (am 0), .int x1, .int x2] [w9 G am bm] T.1 [w9 G am (s9_undone (s9_done (s9_change (s9_over (s9_off (s9_strength (s9_rules (s9_facts bm T.2.1) T.2.2.1) T.2.2.2.1) T.2.2.2.2.1) T.2.2.2.2.2.1) T.2.2.2.2.2.2.1) T.2.2.2.2.2.2.2.1) T.2.2.2.2.2.2.2.2)] := by
  refine zI.mk (cc := cX9_fact) (maxL := 3) (by decide +kernel) rfl (Nat.le_of_ble_eq_true rfl) (zfl_cons (wf9 _ _ _ _) rfl) ?_
  intro p e s m args below meth c Q A ls S hK hD hA hP hl hret
  have hx := S.1
  have hb := S.2.1
  have hS : va_S A s.heap s.heap [] := va_S.rf
  have hl : lv_has ls 3 [(0, .ref (am 0)), (1, .int x1), (2, .int x2)] := hl
  have hE := hT.symm.trans (FX9_fact.eq_1 _ _ _ _ _ _ _ _ _ _)
  refine lv_iload_n hx hb dX9_fact_0 rfl (lv_at hl 1 rfl) ?_
  obtain ⟨t1, ht1⟩ : ∃ z, FX9_isLiteral x1 = z := ⟨_, rfl⟩
  have hE := hE.trans (bnd_eq ht1)
  have hc := c_X9_isLiteral l G x1 _ ht1
  refine zgoR (va_runS (As := [.int x1]) (rest := []) S (hc _) (va_cwS 1 S.2.2.2.2 gX9_fact_X9_isLiteral rfl rfl rfl (by decide +kernel) ⟨Nat.le_of_ble_eq_true rfl, Nat.le_of_ble_eq_true rfl⟩) (zpS hK hP hD (is := []) rfl rfl) rfl rfl hl.1 rfl (lv_room (Nat.le_of_ble_eq_true rfl)) dX9_fact_1 ⟨Nat.zero_le _, Nat.zero_le _⟩) (fun hn1 => ?_)
  refine lv_if_eq (tgt := 14) hx hb dX9_fact_4 (by decide) (fun c4 => ?_) (fun c4 => ?_)
  · have hE := hE.trans (if_pos c4)
    refine lv_iconst (v := (-1)) hx hb dX9_fact_14 (by decide) ?_
    rw [show bm = (s9_undone (s9_done (s9_change (s9_over (s9_off (s9_strength (s9_rules (s9_facts bm (g9_facts bm)) (g9_rules bm)) (g9_strength bm)) (g9_off bm)) (g9_over bm)) (g9_change bm)) (g9_done bm)) (g9_undone bm)) from (((((((((se9_facts _).symm).trans (((se9_rules _).symm).trans (congrArg (fun v => s9_rules (s9_facts bm (g9_facts bm)) v) (gs9_rules_facts _ _)))).trans (((se9_strength _).symm).trans (congrArg (fun v => s9_strength (s9_rules (s9_facts bm (g9_facts bm)) (g9_rules bm)) v) ((gs9_strength_rules _ _).trans (gs9_strength_facts _ _))))).trans (((se9_off _).symm).trans (congrArg (fun v => s9_off (s9_strength (s9_rules (s9_facts bm (g9_facts bm)) (g9_rules bm)) (g9_strength bm)) v) ((gs9_off_strength _ _).trans ((gs9_off_rules _ _).trans (gs9_off_facts _ _)))))).trans (((se9_over _).symm).trans (congrArg (fun v => s9_over (s9_off (s9_strength (s9_rules (s9_facts bm (g9_facts bm)) (g9_rules bm)) (g9_strength bm)) (g9_off bm)) v) ((gs9_over_off _ _).trans ((gs9_over_strength _ _).trans ((gs9_over_rules _ _).trans (gs9_over_facts _ _))))))).trans (((se9_change _).symm).trans (congrArg (fun v => s9_change (s9_over (s9_off (s9_strength (s9_rules (s9_facts bm (g9_facts bm)) (g9_rules bm)) (g9_strength bm)) (g9_off bm)) (g9_over bm)) v) ((gs9_change_over _ _).trans ((gs9_change_off _ _).trans ((gs9_change_strength _ _).trans ((gs9_change_rules _ _).trans (gs9_change_facts _ _)))))))).trans (((se9_done _).symm).trans (congrArg (fun v => s9_done (s9_change (s9_over (s9_off (s9_strength (s9_rules (s9_facts bm (g9_facts bm)) (g9_rules bm)) (g9_strength bm)) (g9_off bm)) (g9_over bm)) (g9_change bm)) v) ((gs9_done_change _ _).trans ((gs9_done_over _ _).trans ((gs9_done_off _ _).trans ((gs9_done_strength _ _).trans ((gs9_done_rules _ _).trans (gs9_done_facts _ _))))))))).trans (((se9_undone _).symm).trans (congrArg (fun v => s9_undone (s9_done (s9_change (s9_over (s9_off (s9_strength (s9_rules (s9_facts bm (g9_facts bm)) (g9_rules bm)) (g9_strength bm)) (g9_off bm)) (g9_over bm)) (g9_change bm)) (g9_done bm)) v) ((gs9_undone_done _ _).trans ((gs9_undone_change _ _).trans ((gs9_undone_over _ _).trans ((gs9_undone_off _ _).trans ((gs9_undone_strength _ _).trans ((gs9_undone_rules _ _).trans (gs9_undone_facts _ _))))))))))] at hP hD
    exact hret _ _ _ _ _ _ (by subst hE; rfl) rfl hP hS dX9_fact_15
  · have hE := hE.trans (if_neg c4)
    have hx1_20 : vp_in x1 20 := zisLit9 (by rw [ht1]; exact c4)
    refine lv_iload_n hx hb dX9_fact_7 rfl (lv_at hl 2 rfl) ?_
    obtain ⟨t8, ht8⟩ : ∃ z, FX9_isBit x2 = z := ⟨_, rfl⟩
    have hE := hE.trans (bnd_eq ht8)
    have hc := c_X9_isBit l G x2 _ ht8
    refine zgoR (va_runS (As := [.int x2]) (rest := []) S (hc _) (va_cwS 1 S.2.2.2.2 gX9_fact_X9_isBit rfl rfl rfl (by decide +kernel) ⟨Nat.le_of_ble_eq_true rfl, Nat.le_of_ble_eq_true rfl⟩) (zpS hK hP hD (is := []) rfl rfl) rfl rfl hl.1 rfl (lv_room (Nat.le_of_ble_eq_true rfl)) dX9_fact_8 ⟨Nat.zero_le _, Nat.zero_le _⟩) (fun hn8 => ?_)
    refine lv_if_ne (tgt := 16) hx hb dX9_fact_11 (by decide) (fun c11 => ?_) (fun c11 => ?_)
    · have hE := hE.trans (if_neg c11)
      refine lv_aload_n hx hb dX9_fact_16 rfl (lv_at hl 0 rfl) ?_
      refine lv_iconst (v := 0) hx hb dX9_fact_17 (by decide) ?_
      refine lv_iload_n hx hb dX9_fact_18 rfl (lv_at hl 1 rfl) ?_
      refine lv_iconst (v := 0) hx hb dX9_fact_19 (by decide) ?_
      refine lv_aload_n hx hb dX9_fact_20 rfl (lv_at hl 0 rfl) ?_
      refine zg9_facts S in_X9_fact_9 hK hP 0 rfl (List.mem_of_getElem? (i := 1) rfl) (v := (g9_facts bm)) rfl dX9_fact_21 ?_
      refine lv_iload_n hx hb dX9_fact_24 rfl (lv_at hl 1 rfl) ?_
      refine lv_ishr hx hb dX9_fact_25 ?_
      refine lv_iconst (v := 1) hx hb dX9_fact_26 (by decide) ?_
      refine lv_iand hx hb dX9_fact_27 ?_
      refine lv_iload_n hx hb dX9_fact_28 rfl (lv_at hl 2 rfl) ?_
      obtain ⟨t29, ht29⟩ : ∃ z, FX9_does (g9_facts bm) (g9_rules bm) (g9_strength bm) (g9_off bm) (g9_over bm) (g9_change bm) (g9_done bm) (g9_undone bm) 0 x1 0 (((g9_facts bm) >>> (x1 &&& 31)) &&& 1) x2 = z := ⟨_, rfl⟩
      have hE := hE.trans (bnd_eq ht29)
      have hc := c_X9_does l G am bm 0 x1 0 (((g9_facts bm) >>> (x1 &&& 31)) &&& 1) x2 (hd_m_done) _ ht29
      refine zgoI (bs' := [w9 G am (s9_undone (s9_done (s9_change (s9_over (s9_off (s9_strength (s9_rules (s9_facts bm t29.2.1) t29.2.2.1) t29.2.2.2.1) t29.2.2.2.2.1) t29.2.2.2.2.2.1) t29.2.2.2.2.2.2.1) t29.2.2.2.2.2.2.2.1) t29.2.2.2.2.2.2.2.2)]) hc [0] rfl rfl rfl hP hD hS hA (va_runV (As := [.int 0, .int x1, .int 0, .int (((g9_facts bm) >>> (x1 &&& 31)) &&& 1), .int x2]) (rest := []) S (hc.2 _) (cwV 5 S.2.2.2.2 gX9_fact_X9_does rfl rfl rfl (by decide +kernel) ⟨Nat.le_of_ble_eq_true rfl, Nat.le_of_ble_eq_true rfl⟩) (zpV hK hP hD (is := [0]) rfl rfl 0 rfl rfl (ci := 9) rfl) rfl rfl hl.1 rfl (lv_room (Nat.le_of_ble_eq_true rfl)) dX9_fact_29 ⟨Nat.zero_le _, Nat.zero_le _⟩) (fun H locs hn29 hP hD hS => ?_)
      exact hret _ _ _ _ _ _ (by subst hE; rfl) rfl hP hS dX9_fact_32
    · have hE := hE.trans (if_pos c11)
      refine lv_iconst (v := (-1)) hx hb dX9_fact_14 (by decide) ?_
      rw [show bm = (s9_undone (s9_done (s9_change (s9_over (s9_off (s9_strength (s9_rules (s9_facts bm (g9_facts bm)) (g9_rules bm)) (g9_strength bm)) (g9_off bm)) (g9_over bm)) (g9_change bm)) (g9_done bm)) (g9_undone bm)) from (((((((((se9_facts _).symm).trans (((se9_rules _).symm).trans (congrArg (fun v => s9_rules (s9_facts bm (g9_facts bm)) v) (gs9_rules_facts _ _)))).trans (((se9_strength _).symm).trans (congrArg (fun v => s9_strength (s9_rules (s9_facts bm (g9_facts bm)) (g9_rules bm)) v) ((gs9_strength_rules _ _).trans (gs9_strength_facts _ _))))).trans (((se9_off _).symm).trans (congrArg (fun v => s9_off (s9_strength (s9_rules (s9_facts bm (g9_facts bm)) (g9_rules bm)) (g9_strength bm)) v) ((gs9_off_strength _ _).trans ((gs9_off_rules _ _).trans (gs9_off_facts _ _)))))).trans (((se9_over _).symm).trans (congrArg (fun v => s9_over (s9_off (s9_strength (s9_rules (s9_facts bm (g9_facts bm)) (g9_rules bm)) (g9_strength bm)) (g9_off bm)) v) ((gs9_over_off _ _).trans ((gs9_over_strength _ _).trans ((gs9_over_rules _ _).trans (gs9_over_facts _ _))))))).trans (((se9_change _).symm).trans (congrArg (fun v => s9_change (s9_over (s9_off (s9_strength (s9_rules (s9_facts bm (g9_facts bm)) (g9_rules bm)) (g9_strength bm)) (g9_off bm)) (g9_over bm)) v) ((gs9_change_over _ _).trans ((gs9_change_off _ _).trans ((gs9_change_strength _ _).trans ((gs9_change_rules _ _).trans (gs9_change_facts _ _)))))))).trans (((se9_done _).symm).trans (congrArg (fun v => s9_done (s9_change (s9_over (s9_off (s9_strength (s9_rules (s9_facts bm (g9_facts bm)) (g9_rules bm)) (g9_strength bm)) (g9_off bm)) (g9_over bm)) (g9_change bm)) v) ((gs9_done_change _ _).trans ((gs9_done_over _ _).trans ((gs9_done_off _ _).trans ((gs9_done_strength _ _).trans ((gs9_done_rules _ _).trans (gs9_done_facts _ _))))))))).trans (((se9_undone _).symm).trans (congrArg (fun v => s9_undone (s9_done (s9_change (s9_over (s9_off (s9_strength (s9_rules (s9_facts bm (g9_facts bm)) (g9_rules bm)) (g9_strength bm)) (g9_off bm)) (g9_over bm)) (g9_change bm)) (g9_done bm)) v) ((gs9_undone_done _ _).trans ((gs9_undone_change _ _).trans ((gs9_undone_over _ _).trans ((gs9_undone_off _ _).trans ((gs9_undone_strength _ _).trans ((gs9_undone_rules _ _).trans (gs9_undone_facts _ _))))))))))] at hP hD
      exact hret _ _ _ _ _ _ (by subst hE; rfl) rfl hP hS dX9_fact_15

theorem zdn_fact {f r d u x1 x2 : Int32} {s o v c : Nat → Int32} (h : ∃ N : Nat, N ≤ 12 ∧ d = nI N) : ∃ N : Nat, N ≤ 12 ∧ (FX9_fact f r s o v c d u x1 x2).2.2.2.2.2.2.2.1 = nI N := by
  simp only [FX9_fact, bnd]
  repeat' split
  all_goals first | exact h | exact zdn_does h
theorem zru_fact {f r d u x1 x2 : Int32} {s o v c : Nat → Int32} : (FX9_fact f r s o v c d u x1 x2).2.2.1 = r := by
  simp only [FX9_fact, bnd]
  repeat' split
  all_goals first | rfl | exact zru_does (by decide)

theorem in_X9_adds_9 : ∀ w ∈ u_ws RX9 TX9 40, w ∈ wsX9_adds := by decide +kernel
def rmX9_adds : Room := { frames := 2, cells := 0, slots := 0, locals := 51 }
set_option maxHeartbeats 4000000 in
set_option maxRecDepth 100000 in
theorem c_X9_adds (l : Launch) (G : zG) (am : Nat → Nat) (bm : S9) (x1 : Int32) (x2 : Int32) (x3 : Int32) (x4 : Int32) (x5 : Int32) (hd_m_done : ∃ N : Nat, N ≤ 12 ∧ g9_done bm = nI N) (hi_m_rules : vp_in (g9_rules bm) 16) (T : Int32 × (Int32) × (Int32) × (Nat → Int32) × (Nat → Int32) × (Nat → Int32) × (Nat → Int32) × (Nat → Int32) × (Nat → Int32) × (Nat → Int32) × (Nat → Int32) × (Int32) × (Int32)) (hT : FX9_adds (g9_facts bm) (g9_rules bm) (g9_kind bm) (g9_head bm) (g9_body bm) (g9_except bm) (g9_strength bm) (g9_off bm) (g9_over bm) (g9_change bm) (g9_done bm) (g9_undone bm) x1 x2 x3 x4 x5 = T) : zI l yX9_adds wsX9_adds rmX9_adds .int G [.ref (am 0), .int x1, .int x2, .int x3, .int x4, .int x5] [w9 G am bm] T.1 [w9 G am (s9_undone (s9_done (s9_change (s9_over (s9_off (s9_strength (s9_except (s9_body (s9_head (s9_kind (s9_rules (s9_facts bm T.2.1) T.2.2.1) T.2.2.2.1) T.2.2.2.2.1) T.2.2.2.2.2.1) T.2.2.2.2.2.2.1) T.2.2.2.2.2.2.2.1) T.2.2.2.2.2.2.2.2.1) T.2.2.2.2.2.2.2.2.2.1) T.2.2.2.2.2.2.2.2.2.2.1) T.2.2.2.2.2.2.2.2.2.2.2.1) T.2.2.2.2.2.2.2.2.2.2.2.2)] := by
  refine zI.mk (cc := cX9_adds) (maxL := 8) (by decide +kernel) rfl (Nat.le_of_ble_eq_true rfl) (zfl_cons (wf9 _ _ _ _) rfl) ?_
  intro p e s m args below meth c Q A ls S hK hD hA hP hl hret
  have hx := S.1
  have hb := S.2.1
  have hS : va_S A s.heap s.heap [] := va_S.rf
  have hl : lv_has ls 8 [(0, .ref (am 0)), (1, .int x1), (2, .int x2), (3, .int x3), (4, .int x4), (5, .int x5)] := hl
  have hE := hT.symm.trans (FX9_adds.eq_1 _ _ _ _ _ _ _ _ _ _ _ _ _ _ _ _ _)
  refine lv_aload_n hx hb dX9_adds_0 rfl (lv_at hl 0 rfl) ?_
  refine zg9_rules S in_X9_adds_9 hK hP 0 rfl (List.mem_of_getElem? (i := 1) rfl) (v := (g9_rules bm)) rfl dX9_adds_1 ?_
  refine lv_istore (lv' := [(6, .int (g9_rules bm)), (0, .ref (am 0)), (1, .int x1), (2, .int x2), (3, .int x3), (4, .int x4), (5, .int x5)]) hx hb dX9_adds_4 hl (by decide) rfl (fun ls hl => ?_)
  refine lv_aload_n hx hb dX9_adds_6 rfl (lv_at hl 1 rfl) ?_
  refine zg9_kind S in_X9_adds_9 hK hP 0 rfl (List.mem_of_getElem? (i := 2) rfl) dX9_adds_7 ?_
  refine lv_iload hx hb dX9_adds_10 (lv_at hl 0 rfl) ?_
  refine lv_iload_n hx hb dX9_adds_12 rfl (lv_at hl 2 rfl) ?_
  refine zs9_kind (bs1 := [w9 G am (s9_kind bm (upd (g9_kind bm) (g9_rules bm).toNatClampNeg x1))]) S hK hP hD hS 0 rfl hi_m_rules (f := (g9_kind bm)) rfl dX9_adds_13 rfl (fun H locs hP hD hS => ?_)
  obtain ⟨u13, hu13⟩ : ∃ z, upd (g9_kind bm) (g9_rules bm).toNatClampNeg x1 = z := ⟨_, rfl⟩
  rw [hu13] at hP hD
  have hE := hE.trans (bnd_eq hu13)
  refine lv_aload_n hx hb dX9_adds_14 rfl (lv_at hl 1 rfl) ?_
  refine zg9_head S in_X9_adds_9 hK hP 0 rfl (List.mem_of_getElem? (i := 3) rfl) dX9_adds_15 ?_
  refine lv_iload hx hb dX9_adds_18 (lv_at hl 0 rfl) ?_
  refine lv_iload_n hx hb dX9_adds_20 rfl (lv_at hl 3 rfl) ?_
  refine zs9_head (bs1 := [w9 G am (s9_head (s9_kind bm u13) (upd (g9_head bm) (g9_rules bm).toNatClampNeg x2))]) S hK hP hD hS 0 rfl hi_m_rules (f := (g9_head bm)) (gs9_head_kind _ _) dX9_adds_21 rfl (fun H locs hP hD hS => ?_)
  obtain ⟨u21, hu21⟩ : ∃ z, upd (g9_head bm) (g9_rules bm).toNatClampNeg x2 = z := ⟨_, rfl⟩
  rw [hu21] at hP hD
  have hE := hE.trans (bnd_eq hu21)
  refine lv_aload_n hx hb dX9_adds_22 rfl (lv_at hl 1 rfl) ?_
  refine zg9_body S in_X9_adds_9 hK hP 0 rfl (List.mem_of_getElem? (i := 4) rfl) dX9_adds_23 ?_
  refine lv_iload hx hb dX9_adds_26 (lv_at hl 0 rfl) ?_
  refine lv_iload_n hx hb dX9_adds_28 rfl (lv_at hl 4 rfl) ?_
  refine zs9_body (bs1 := [w9 G am (s9_body (s9_head (s9_kind bm u13) u21) (upd (g9_body bm) (g9_rules bm).toNatClampNeg x3))]) S hK hP hD hS 0 rfl hi_m_rules (f := (g9_body bm)) ((gs9_body_head _ _).trans (gs9_body_kind _ _)) dX9_adds_29 rfl (fun H locs hP hD hS => ?_)
  obtain ⟨u29, hu29⟩ : ∃ z, upd (g9_body bm) (g9_rules bm).toNatClampNeg x3 = z := ⟨_, rfl⟩
  rw [hu29] at hP hD
  have hE := hE.trans (bnd_eq hu29)
  refine lv_aload_n hx hb dX9_adds_30 rfl (lv_at hl 1 rfl) ?_
  refine zg9_except S in_X9_adds_9 hK hP 0 rfl (List.mem_of_getElem? (i := 5) rfl) dX9_adds_31 ?_
  refine lv_iload hx hb dX9_adds_34 (lv_at hl 0 rfl) ?_
  refine lv_iload hx hb dX9_adds_36 (lv_at hl 5 rfl) ?_
  refine zs9_except (bs1 := [w9 G am (s9_except (s9_body (s9_head (s9_kind bm u13) u21) u29) (upd (g9_except bm) (g9_rules bm).toNatClampNeg x4))]) S hK hP hD hS 0 rfl hi_m_rules (f := (g9_except bm)) ((gs9_except_body _ _).trans ((gs9_except_head _ _).trans (gs9_except_kind _ _))) dX9_adds_38 rfl (fun H locs hP hD hS => ?_)
  obtain ⟨u38, hu38⟩ : ∃ z, upd (g9_except bm) (g9_rules bm).toNatClampNeg x4 = z := ⟨_, rfl⟩
  rw [hu38] at hP hD
  have hE := hE.trans (bnd_eq hu38)
  refine lv_aload_n hx hb dX9_adds_39 rfl (lv_at hl 1 rfl) ?_
  refine zg9_strength S in_X9_adds_9 hK hP 0 rfl (List.mem_of_getElem? (i := 6) rfl) dX9_adds_40 ?_
  refine lv_iload hx hb dX9_adds_43 (lv_at hl 0 rfl) ?_
  refine lv_iload hx hb dX9_adds_45 (lv_at hl 6 rfl) ?_
  refine zs9_strength (bs1 := [w9 G am (s9_strength (s9_except (s9_body (s9_head (s9_kind bm u13) u21) u29) u38) (upd (g9_strength bm) (g9_rules bm).toNatClampNeg x5))]) S hK hP hD hS 0 rfl hi_m_rules (f := (g9_strength bm)) ((gs9_strength_except _ _).trans ((gs9_strength_body _ _).trans ((gs9_strength_head _ _).trans (gs9_strength_kind _ _)))) dX9_adds_47 rfl (fun H locs hP hD hS => ?_)
  obtain ⟨u47, hu47⟩ : ∃ z, upd (g9_strength bm) (g9_rules bm).toNatClampNeg x5 = z := ⟨_, rfl⟩
  rw [hu47] at hP hD
  have hE := hE.trans (bnd_eq hu47)
  refine lv_aload_n hx hb dX9_adds_48 rfl (lv_at hl 1 rfl) ?_
  refine zg9_off S in_X9_adds_9 hK hP 0 rfl (List.mem_of_getElem? (i := 7) rfl) dX9_adds_49 ?_
  refine lv_iload hx hb dX9_adds_52 (lv_at hl 0 rfl) ?_
  refine lv_iconst (v := 0) hx hb dX9_adds_54 (by decide) ?_
  refine zs9_off (bs1 := [w9 G am (s9_off (s9_strength (s9_except (s9_body (s9_head (s9_kind bm u13) u21) u29) u38) u47) (upd (g9_off bm) (g9_rules bm).toNatClampNeg 0))]) S hK hP hD hS 0 rfl hi_m_rules (f := (g9_off bm)) ((gs9_off_strength _ _).trans ((gs9_off_except _ _).trans ((gs9_off_body _ _).trans ((gs9_off_head _ _).trans (gs9_off_kind _ _))))) dX9_adds_55 rfl (fun H locs hP hD hS => ?_)
  obtain ⟨u55, hu55⟩ : ∃ z, upd (g9_off bm) (g9_rules bm).toNatClampNeg 0 = z := ⟨_, rfl⟩
  rw [hu55] at hP hD
  have hE := hE.trans (bnd_eq hu55)
  refine lv_aload_n hx hb dX9_adds_56 rfl (lv_at hl 1 rfl) ?_
  refine zg9_over S in_X9_adds_9 hK hP 0 rfl (List.mem_of_getElem? (i := 8) rfl) dX9_adds_57 ?_
  refine lv_iload hx hb dX9_adds_60 (lv_at hl 0 rfl) ?_
  refine lv_iconst (v := 0) hx hb dX9_adds_62 (by decide) ?_
  refine zs9_over (bs1 := [w9 G am (s9_over (s9_off (s9_strength (s9_except (s9_body (s9_head (s9_kind bm u13) u21) u29) u38) u47) u55) (upd (g9_over bm) (g9_rules bm).toNatClampNeg 0))]) S hK hP hD hS 0 rfl hi_m_rules (f := (g9_over bm)) ((gs9_over_off _ _).trans ((gs9_over_strength _ _).trans ((gs9_over_except _ _).trans ((gs9_over_body _ _).trans ((gs9_over_head _ _).trans (gs9_over_kind _ _)))))) dX9_adds_63 rfl (fun H locs hP hD hS => ?_)
  obtain ⟨u63, hu63⟩ : ∃ z, upd (g9_over bm) (g9_rules bm).toNatClampNeg 0 = z := ⟨_, rfl⟩
  rw [hu63] at hP hD
  have hE := hE.trans (bnd_eq hu63)
  refine lv_iconst (v := 0) hx hb dX9_adds_64 (by decide) ?_
  have hB96 : ∀ (m_over_96 : Nat → Int32) (H : Heap) (locs : List Loc) (ls : Array Slot), T = FX9_adds_96 (g9_facts bm) (g9_rules bm) (g9_kind bm) (g9_head bm) (g9_body bm) (g9_except bm) (g9_strength bm) (g9_off bm) (g9_over bm) (g9_change bm) (g9_done bm) (g9_undone bm) x1 x2 x3 x4 x5 (g9_rules bm) (g9_facts bm) (g9_rules bm) u13 u21 u29 u38 u47 u55 m_over_96 (g9_change bm) (g9_done bm) (g9_undone bm) → zP G [w9 G am (s9_over (s9_off (s9_strength (s9_except (s9_body (s9_head (s9_kind bm u13) u21) u29) u38) u47) u55) m_over_96)] H → zD A [w9 G am (s9_over (s9_off (s9_strength (s9_except (s9_body (s9_head (s9_kind bm u13) u21) u29) u38) u47) u55) m_over_96)] → va_S A s.heap H locs → lv_has ls 8 [(0, .ref (am 0)), (6, .int (g9_rules bm))] → W p l e rmX9_adds s m args below meth c H locs 0 0 Q (F0 m 96 ls []) := by
    intro m_over_96 H locs ls hE hP hD hS hl
    have hE := hE.trans (FX9_adds_96.eq_1 _ _ _ _ _ _ _ _ _ _ _ _ _ _ _ _ _ _ _ _ _ _ _ _ _ _ _ _ _ _)
    refine lv_aload_n hx hb dX9_adds_96 rfl (lv_at hl 0 rfl) ?_
    refine lv_iconst (v := 1) hx hb dX9_adds_97 (by decide) ?_
    refine lv_iload hx hb dX9_adds_98 (lv_at hl 1 rfl) ?_
    refine lv_iconst (v := 0) hx hb dX9_adds_100 (by decide) ?_
    refine lv_iconst (v := 0) hx hb dX9_adds_101 (by decide) ?_
    refine lv_iconst (v := 1) hx hb dX9_adds_102 (by decide) ?_
    obtain ⟨t103, ht103⟩ : ∃ z, FX9_does (g9_facts bm) (g9_rules bm) u47 u55 m_over_96 (g9_change bm) (g9_done bm) (g9_undone bm) 1 (g9_rules bm) 0 0 1 = z := ⟨_, rfl⟩
    have hE := hE.trans (bnd_eq ht103)
    have hc := c_X9_does l G am (s9_over (s9_off (s9_strength (s9_except (s9_body (s9_head (s9_kind bm u13) u21) u29) u38) u47) u55) m_over_96) 1 (g9_rules bm) 0 0 1 (hd_m_done) _ (by simp only [gs9_facts_over, gs9_facts_off, gs9_facts_strength, gs9_facts_except, gs9_facts_body, gs9_facts_head, gs9_facts_kind, gs9_rules_over, gs9_rules_off, gs9_rules_strength, gs9_rules_except, gs9_rules_body, gs9_rules_head, gs9_rules_kind, gs9_strength_over, gs9_strength_off, gg9_strength, gs9_off_over, gg9_off, gg9_over, gs9_change_over, gs9_change_off, gs9_change_strength, gs9_change_except, gs9_change_body, gs9_change_head, gs9_change_kind, gs9_done_over, gs9_done_off, gs9_done_strength, gs9_done_except, gs9_done_body, gs9_done_head, gs9_done_kind, gs9_undone_over, gs9_undone_off, gs9_undone_strength, gs9_undone_except, gs9_undone_body, gs9_undone_head, gs9_undone_kind]; exact ht103)
    refine zgoI (bs' := [w9 G am (s9_undone (s9_done (s9_change (s9_over (s9_off (s9_strength (s9_rules (s9_facts (s9_over (s9_off (s9_strength (s9_except (s9_body (s9_head (s9_kind bm u13) u21) u29) u38) u47) u55) m_over_96) t103.2.1) t103.2.2.1) t103.2.2.2.1) t103.2.2.2.2.1) t103.2.2.2.2.2.1) t103.2.2.2.2.2.2.1) t103.2.2.2.2.2.2.2.1) t103.2.2.2.2.2.2.2.2)]) hc [0] rfl rfl rfl hP hD hS hA (va_runV (As := [.int 1, .int (g9_rules bm), .int 0, .int 0, .int 1]) (rest := []) S (hc.2 _) (cwV 5 S.2.2.2.2 gX9_adds_X9_does rfl rfl rfl (by decide +kernel) ⟨Nat.le_of_ble_eq_true rfl, Nat.le_of_ble_eq_true rfl⟩) (zpV hK hP hD (is := [0]) rfl rfl 0 rfl rfl (ci := 9) rfl) rfl rfl hl.1 rfl (lv_room (Nat.le_of_ble_eq_true rfl)) dX9_adds_103 ⟨Nat.zero_le _, Nat.zero_le _⟩) (fun H locs hn103 hP hD hS => ?_)
    refine lv_pop hx hb dX9_adds_106 rfl ?_
    refine lv_iload hx hb dX9_adds_107 (lv_at hl 1 rfl) ?_
    rw [show (s9_undone (s9_done (s9_change (s9_over (s9_off (s9_strength (s9_rules (s9_facts (s9_over (s9_off (s9_strength (s9_except (s9_body (s9_head (s9_kind bm u13) u21) u29) u38) u47) u55) m_over_96) t103.2.1) t103.2.2.1) t103.2.2.2.1) t103.2.2.2.2.1) t103.2.2.2.2.2.1) t103.2.2.2.2.2.2.1) t103.2.2.2.2.2.2.2.1) t103.2.2.2.2.2.2.2.2) = (s9_undone (s9_done (s9_change (s9_over (s9_off (s9_strength (s9_except (s9_body (s9_head (s9_kind (s9_rules (s9_facts bm t103.2.1) t103.2.2.1) u13) u21) u29) u38) t103.2.2.2.1) t103.2.2.2.2.1) t103.2.2.2.2.2.1) t103.2.2.2.2.2.2.1) t103.2.2.2.2.2.2.2.1) t103.2.2.2.2.2.2.2.2) from (congrArg (fun z => s9_undone z t103.2.2.2.2.2.2.2.2) (congrArg (fun z => s9_done z t103.2.2.2.2.2.2.2.1) (congrArg (fun z => s9_change z t103.2.2.2.2.2.2.1) ((congrArg (fun z => s9_over z t103.2.2.2.2.2.1) ((congrArg (fun z => s9_off z t103.2.2.2.2.1) ((congrArg (fun z => s9_strength z t103.2.2.2.1) ((congrArg (fun z => s9_rules z t103.2.2.1) ((cm9_facts_over _ _ _).trans (congrArg (fun z => s9_over z m_over_96) ((cm9_facts_off _ _ _).trans (congrArg (fun z => s9_off z u55) ((cm9_facts_strength _ _ _).trans (congrArg (fun z => s9_strength z u47) ((cm9_facts_except _ _ _).trans (congrArg (fun z => s9_except z u38) ((cm9_facts_body _ _ _).trans (congrArg (fun z => s9_body z u29) ((cm9_facts_head _ _ _).trans (congrArg (fun z => s9_head z u21) (cm9_facts_kind _ _ _)))))))))))))).trans ((cm9_rules_over _ _ _).trans (congrArg (fun z => s9_over z m_over_96) ((cm9_rules_off _ _ _).trans (congrArg (fun z => s9_off z u55) ((cm9_rules_strength _ _ _).trans (congrArg (fun z => s9_strength z u47) ((cm9_rules_except _ _ _).trans (congrArg (fun z => s9_except z u38) ((cm9_rules_body _ _ _).trans (congrArg (fun z => s9_body z u29) ((cm9_rules_head _ _ _).trans (congrArg (fun z => s9_head z u21) (cm9_rules_kind _ _ _))))))))))))))).trans ((cm9_strength_over _ _ _).trans (congrArg (fun z => s9_over z m_over_96) ((cm9_strength_off _ _ _).trans (congrArg (fun z => s9_off z u55) (ss9_strength _ _ _))))))).trans ((cm9_off_over _ _ _).trans (congrArg (fun z => s9_over z m_over_96) (ss9_off _ _ _))))).trans (ss9_over _ _ _)))))] at hP hD
    exact hret _ _ _ _ _ _ (by subst hE; rfl) rfl hP hS dX9_adds_109
  have hB67 : ∀ (n67 : Nat) (i7_67 : Nat) (m_over_67 : Nat → Int32) (H : Heap) (locs : List Loc) (ls : Array Slot), (i7_67 ≤ 16) → 17 ≤ i7_67 + n67 → T = FX9_adds_67 (g9_facts bm) (g9_rules bm) (g9_kind bm) (g9_head bm) (g9_body bm) (g9_except bm) (g9_strength bm) (g9_off bm) (g9_over bm) (g9_change bm) (g9_done bm) (g9_undone bm) x1 x2 x3 x4 x5 (FX9_adds_96 (g9_facts bm) (g9_rules bm) (g9_kind bm) (g9_head bm) (g9_body bm) (g9_except bm) (g9_strength bm) (g9_off bm) (g9_over bm) (g9_change bm) (g9_done bm) (g9_undone bm) x1 x2 x3 x4 x5) n67 (g9_rules bm) (nI i7_67) (g9_facts bm) (g9_rules bm) u13 u21 u29 u38 u47 u55 m_over_67 (g9_change bm) (g9_done bm) (g9_undone bm) → zP G [w9 G am (s9_over (s9_off (s9_strength (s9_except (s9_body (s9_head (s9_kind bm u13) u21) u29) u38) u47) u55) m_over_67)] H → zD A [w9 G am (s9_over (s9_off (s9_strength (s9_except (s9_body (s9_head (s9_kind bm u13) u21) u29) u38) u47) u55) m_over_67)] → va_S A s.heap H locs → lv_has ls 8 [(0, .ref (am 0)), (6, .int (g9_rules bm)), (7, .int (nI i7_67))] → W p l e rmX9_adds s m args below meth c H locs 0 0 Q (F0 m 67 ls []) := by
    intro n67
    induction n67 with
    | zero =>
      intro i7_67 m_over_67 H locs ls hi7_67 hn hE hP hD hS hl
      exact absurd hn (by omega)
    | succ n67 ih67 =>
      intro i7_67 m_over_67 H locs ls hi7_67 hn hE hP hD hS hl
      have hE := hE.trans (FX9_adds_67.eq_2 _ _ _ _ _ _ _ _ _ _ _ _ _ _ _ _ _ _ _ _ _ _ _ _ _ _ _ _ _ _ _ _ _)
      refine lv_iload hx hb dX9_adds_67 (lv_at hl 2 rfl) ?_
      refine lv_bipush (v := 16) hx hb dX9_adds_69 (by decide) ?_
      refine lv_icmp_ge (tgt := 96) hx hb dX9_adds_71 (by decide) (fun c71 => ?_) (fun c71 => ?_)
      · have hE := hE.trans (if_pos c71)
        exact hB96 m_over_67 _ _ _ hE hP hD hS (lv_sub hl [0, 1] rfl)
      · have hE := hE.trans (if_neg c71)
        have hl7_67 : i7_67 < 16 := zlt (N := 16) rfl (by omega) (by omega) c71
        refine lv_aload_n hx hb dX9_adds_74 rfl (lv_at hl 0 rfl) ?_
        refine zg9_over S in_X9_adds_9 hK hP 0 rfl (List.mem_of_getElem? (i := 8) rfl) dX9_adds_75 ?_
        refine lv_iload hx hb dX9_adds_78 (lv_at hl 2 rfl) ?_
        refine lv_dup2_11 hx hb dX9_adds_80 rfl rfl ?_
        refine zl9_over S hK hP 0 rfl (vp_in_nI (by omega) (by omega)) (f := m_over_67) (gg9_over _ _) dX9_adds_81 ?_
        refine lv_iconst (v := 1) hx hb dX9_adds_82 (by decide) ?_
        refine lv_iload hx hb dX9_adds_83 (lv_at hl 1 rfl) ?_
        refine lv_ishl hx hb dX9_adds_85 ?_
        refine lv_iconst (v := (-1)) hx hb dX9_adds_86 (by decide) ?_
        refine lv_ixor hx hb dX9_adds_87 ?_
        refine lv_iand hx hb dX9_adds_88 ?_
        refine zs9_over (bs1 := [w9 G am (s9_over (s9_over (s9_off (s9_strength (s9_except (s9_body (s9_head (s9_kind bm u13) u21) u29) u38) u47) u55) m_over_67) (upd m_over_67 (nI i7_67).toNatClampNeg ((m_over_67 (nI i7_67).toNatClampNeg) &&& ((1 <<< ((g9_rules bm) &&& 31)) ^^^ (-1)))))]) S hK hP hD hS 0 rfl (vp_in_nI (by omega) (by omega)) (f := m_over_67) (gg9_over _ _) dX9_adds_89 rfl (fun H locs hP hD hS => ?_)
        obtain ⟨u89, hu89⟩ : ∃ z, upd m_over_67 (nI i7_67).toNatClampNeg ((m_over_67 (nI i7_67).toNatClampNeg) &&& ((1 <<< ((g9_rules bm) &&& 31)) ^^^ (-1))) = z := ⟨_, rfl⟩
        rw [hu89] at hP hD
        have hE := hE.trans (bnd_eq hu89)
        refine lv_iinc (v := (nI (i7_67 + 1))) (lv' := [(7, .int (nI (i7_67 + 1))), (0, .ref (am 0)), (6, .int (g9_rules bm))]) hx hb dX9_adds_90 hl (k := 2) rfl (nI_1 i7_67) (by decide) rfl (fun ls hl => ?_)
        try rw [nI_1 i7_67] at hE
        refine lv_goto (tgt := 67) hx hb dX9_adds_93 (by decide) ?_
        rw [show (s9_over (s9_over (s9_off (s9_strength (s9_except (s9_body (s9_head (s9_kind bm u13) u21) u29) u38) u47) u55) m_over_67) u89) = (s9_over (s9_off (s9_strength (s9_except (s9_body (s9_head (s9_kind bm u13) u21) u29) u38) u47) u55) u89) from (ss9_over _ _ _)] at hP hD
        exact ih67 (i7_67 + 1) u89 _ _ _ (by first | assumption | omega) (by omega) hE hP hD hS (lv_sub hl [1, 2, 0] rfl)
  refine lv_istore (lv' := [(7, .int 0), (6, .int (g9_rules bm)), (0, .ref (am 0)), (1, .int x1), (2, .int x2), (3, .int x3), (4, .int x4), (5, .int x5)]) hx hb dX9_adds_65 hl (by decide) rfl (fun ls hl => ?_)
  exact hB67 17 0 u63 _ _ _ (by first | assumption | omega) (by omega) hE hP hD hS (lv_sub hl [2, 1, 0] rfl)

theorem zadds_67 {f r d u x1 x2 x3 x4 x5 : Int32} {k h b e s o v c : Nat → Int32} {kt : Int32 → Int32 → Int32 → (Nat → Int32) → (Nat → Int32) → (Nat → Int32) → (Nat → Int32) → (Nat → Int32) → (Nat → Int32) → (Nat → Int32) → (Nat → Int32) → Int32 → Int32 → Int32 × Int32 × Int32 × (Nat → Int32) × (Nat → Int32) × (Nat → Int32) × (Nat → Int32) × (Nat → Int32) × (Nat → Int32) × (Nat → Int32) × (Nat → Int32) × Int32 × Int32} (P : (Int32 × Int32 × Int32 × (Nat → Int32) × (Nat → Int32) × (Nat → Int32) × (Nat → Int32) × (Nat → Int32) × (Nat → Int32) × (Nat → Int32) × (Nat → Int32) × Int32 × Int32) → Prop) (x6 f1 r1 : Int32) (k1 h1 b1 e1 s1 o1 c1 : Nat → Int32) (d1 u1 : Int32) (hk : ∀ v1, P (kt x6 f1 r1 k1 h1 b1 e1 s1 o1 v1 c1 d1 u1)) : ∀ (n : Nat) (x7 : Int32) (v1 : Nat → Int32), P (FX9_adds_67 f r k h b e s o v c d u x1 x2 x3 x4 x5 kt n x6 x7 f1 r1 k1 h1 b1 e1 s1 o1 v1 c1 d1 u1)
  | 0, x7, v1 => hk _
  | n + 1, x7, v1 => by
    rw [FX9_adds_67]
    split
    · exact hk _
    · exact zadds_67 P x6 f1 r1 k1 h1 b1 e1 s1 o1 c1 d1 u1 hk n _ _
theorem zdn_adds {f r d u x1 x2 x3 x4 x5 : Int32} {k h b e s o v c : Nat → Int32} (hd : ∃ N : Nat, N ≤ 12 ∧ d = nI N) : ∃ N : Nat, N ≤ 12 ∧ (FX9_adds f r k h b e s o v c d u x1 x2 x3 x4 x5).2.2.2.2.2.2.2.2.2.2.2.1 = nI N := by
  simp only [FX9_adds, bnd]
  exact zadds_67 (fun z => ∃ N : Nat, N ≤ 12 ∧ z.2.2.2.2.2.2.2.2.2.2.2.1 = nI N) _ _ _ _ _ _ _ _ _ _ _ _ (fun v1 => zdn_does hd) _ _ _
theorem zru_adds {f r d u x1 x2 x3 x4 x5 : Int32} {k h b e s o v c : Nat → Int32} : (FX9_adds f r k h b e s o v c d u x1 x2 x3 x4 x5).2.2.1 = r + 1 := by
  simp only [FX9_adds, bnd]
  exact zadds_67 (fun z => z.2.2.1 = r + 1) _ _ _ _ _ _ _ _ _ _ _ _ (fun v1 => zru_doesR) _ _ _

theorem in_X9_rule_9 : ∀ w ∈ u_ws RX9 TX9 40, w ∈ wsX9_rule := by decide +kernel
def rmX9_rule : Room := { frames := 3, cells := 0, slots := 0, locals := 78 }
set_option maxHeartbeats 4000000 in
set_option maxRecDepth 100000 in
theorem c_X9_rule (l : Launch) (G : zG) (am : Nat → Nat) (bm : S9) (x1 : Int32) (x2 : Int32) (x3 : Int32) (x4 : Int32) (x5 : Int32) (hd_m_done : ∃ N : Nat, N ≤ 12 ∧ g9_done bm = nI N) (hz_m_rules : ∃ N : Nat, N ≤ 16 ∧ g9_rules bm = nI N) (T : Int32 × (Int32) × (Int32) × (Nat → Int32) × (Nat → Int32) × (Nat → Int32) × (Nat → Int32) × (Nat → Int32) × (Nat → Int32) × (Nat → Int32) × (Nat → Int32) × (Int32) × (Int32)) (hT : FX9_rule (g9_facts bm) (g9_rules bm) (g9_kind bm) (g9_head bm) (g9_body bm) (g9_except bm) (g9_strength bm) (g9_off bm) (g9_over bm) (g9_change bm) (g9_done bm) (g9_undone bm) x1 x2 x3 x4 x5 = T) : zI l yX9_rule wsX9_rule rmX9_rule .int G [.ref (am 0), .int x1, .int x2, .int x3, .int x4, .int x5] [w9 G am bm] T.1 [w9 G am (s9_undone (s9_done (s9_change (s9_over (s9_off (s9_strength (s9_except (s9_body (s9_head (s9_kind (s9_rules (s9_facts bm T.2.1) T.2.2.1) T.2.2.2.1) T.2.2.2.2.1) T.2.2.2.2.2.1) T.2.2.2.2.2.2.1) T.2.2.2.2.2.2.2.1) T.2.2.2.2.2.2.2.2.1) T.2.2.2.2.2.2.2.2.2.1) T.2.2.2.2.2.2.2.2.2.2.1) T.2.2.2.2.2.2.2.2.2.2.2.1) T.2.2.2.2.2.2.2.2.2.2.2.2)] := by
  refine zI.mk (cc := cX9_rule) (maxL := 6) (by decide +kernel) rfl (Nat.le_of_ble_eq_true rfl) (zfl_cons (wf9 _ _ _ _) rfl) ?_
  intro p e s m args below meth c Q A ls S hK hD hA hP hl hret
  have hx := S.1
  have hb := S.2.1
  have hS : va_S A s.heap s.heap [] := va_S.rf
  have hl : lv_has ls 6 [(0, .ref (am 0)), (1, .int x1), (2, .int x2), (3, .int x3), (4, .int x4), (5, .int x5)] := hl
  have hE := hT.symm.trans (FX9_rule.eq_1 _ _ _ _ _ _ _ _ _ _ _ _ _ _ _ _ _)
  refine lv_iload_n hx hb dX9_rule_0 rfl (lv_at hl 1 rfl) ?_
  refine lv_iconst (v := 0) hx hb dX9_rule_1 (by decide) ?_
  refine lv_iconst (v := 2) hx hb dX9_rule_2 (by decide) ?_
  obtain ⟨t3, ht3⟩ : ∃ z, FX9_in x1 0 2 = z := ⟨_, rfl⟩
  have hE := hE.trans (bnd_eq ht3)
  have hc := c_X9_in l G x1 0 2 _ ht3
  refine zgoR (va_runS (As := [.int x1, .int 0, .int 2]) (rest := []) S (hc _) (va_cwS 3 S.2.2.2.2 gX9_rule_X9_in rfl rfl rfl (by decide +kernel) ⟨Nat.le_of_ble_eq_true rfl, Nat.le_of_ble_eq_true rfl⟩) (zpS hK hP hD (is := []) rfl rfl) rfl rfl hl.1 rfl (lv_room (Nat.le_of_ble_eq_true rfl)) dX9_rule_3 ⟨Nat.zero_le _, Nat.zero_le _⟩) (fun hn3 => ?_)
  refine lv_if_eq (tgt := 57) hx hb dX9_rule_6 (by decide) (fun c6 => ?_) (fun c6 => ?_)
  · have hE := hE.trans (if_pos c6)
    refine lv_iconst (v := (-1)) hx hb dX9_rule_57 (by decide) ?_
    rw [show bm = (s9_undone (s9_done (s9_change (s9_over (s9_off (s9_strength (s9_except (s9_body (s9_head (s9_kind (s9_rules (s9_facts bm (g9_facts bm)) (g9_rules bm)) (g9_kind bm)) (g9_head bm)) (g9_body bm)) (g9_except bm)) (g9_strength bm)) (g9_off bm)) (g9_over bm)) (g9_change bm)) (g9_done bm)) (g9_undone bm)) from (((((((((((((se9_facts _).symm).trans (((se9_rules _).symm).trans (congrArg (fun v => s9_rules (s9_facts bm (g9_facts bm)) v) (gs9_rules_facts _ _)))).trans (((se9_kind _).symm).trans (congrArg (fun v => s9_kind (s9_rules (s9_facts bm (g9_facts bm)) (g9_rules bm)) v) ((gs9_kind_rules _ _).trans (gs9_kind_facts _ _))))).trans (((se9_head _).symm).trans (congrArg (fun v => s9_head (s9_kind (s9_rules (s9_facts bm (g9_facts bm)) (g9_rules bm)) (g9_kind bm)) v) ((gs9_head_kind _ _).trans ((gs9_head_rules _ _).trans (gs9_head_facts _ _)))))).trans (((se9_body _).symm).trans (congrArg (fun v => s9_body (s9_head (s9_kind (s9_rules (s9_facts bm (g9_facts bm)) (g9_rules bm)) (g9_kind bm)) (g9_head bm)) v) ((gs9_body_head _ _).trans ((gs9_body_kind _ _).trans ((gs9_body_rules _ _).trans (gs9_body_facts _ _))))))).trans (((se9_except _).symm).trans (congrArg (fun v => s9_except (s9_body (s9_head (s9_kind (s9_rules (s9_facts bm (g9_facts bm)) (g9_rules bm)) (g9_kind bm)) (g9_head bm)) (g9_body bm)) v) ((gs9_except_body _ _).trans ((gs9_except_head _ _).trans ((gs9_except_kind _ _).trans ((gs9_except_rules _ _).trans (gs9_except_facts _ _)))))))).trans (((se9_strength _).symm).trans (congrArg (fun v => s9_strength (s9_except (s9_body (s9_head (s9_kind (s9_rules (s9_facts bm (g9_facts bm)) (g9_rules bm)) (g9_kind bm)) (g9_head bm)) (g9_body bm)) (g9_except bm)) v) ((gs9_strength_except _ _).trans ((gs9_strength_body _ _).trans ((gs9_strength_head _ _).trans ((gs9_strength_kind _ _).trans ((gs9_strength_rules _ _).trans (gs9_strength_facts _ _))))))))).trans (((se9_off _).symm).trans (congrArg (fun v => s9_off (s9_strength (s9_except (s9_body (s9_head (s9_kind (s9_rules (s9_facts bm (g9_facts bm)) (g9_rules bm)) (g9_kind bm)) (g9_head bm)) (g9_body bm)) (g9_except bm)) (g9_strength bm)) v) ((gs9_off_strength _ _).trans ((gs9_off_except _ _).trans ((gs9_off_body _ _).trans ((gs9_off_head _ _).trans ((gs9_off_kind _ _).trans ((gs9_off_rules _ _).trans (gs9_off_facts _ _)))))))))).trans (((se9_over _).symm).trans (congrArg (fun v => s9_over (s9_off (s9_strength (s9_except (s9_body (s9_head (s9_kind (s9_rules (s9_facts bm (g9_facts bm)) (g9_rules bm)) (g9_kind bm)) (g9_head bm)) (g9_body bm)) (g9_except bm)) (g9_strength bm)) (g9_off bm)) v) ((gs9_over_off _ _).trans ((gs9_over_strength _ _).trans ((gs9_over_except _ _).trans ((gs9_over_body _ _).trans ((gs9_over_head _ _).trans ((gs9_over_kind _ _).trans ((gs9_over_rules _ _).trans (gs9_over_facts _ _))))))))))).trans (((se9_change _).symm).trans (congrArg (fun v => s9_change (s9_over (s9_off (s9_strength (s9_except (s9_body (s9_head (s9_kind (s9_rules (s9_facts bm (g9_facts bm)) (g9_rules bm)) (g9_kind bm)) (g9_head bm)) (g9_body bm)) (g9_except bm)) (g9_strength bm)) (g9_off bm)) (g9_over bm)) v) ((gs9_change_over _ _).trans ((gs9_change_off _ _).trans ((gs9_change_strength _ _).trans ((gs9_change_except _ _).trans ((gs9_change_body _ _).trans ((gs9_change_head _ _).trans ((gs9_change_kind _ _).trans ((gs9_change_rules _ _).trans (gs9_change_facts _ _)))))))))))).trans (((se9_done _).symm).trans (congrArg (fun v => s9_done (s9_change (s9_over (s9_off (s9_strength (s9_except (s9_body (s9_head (s9_kind (s9_rules (s9_facts bm (g9_facts bm)) (g9_rules bm)) (g9_kind bm)) (g9_head bm)) (g9_body bm)) (g9_except bm)) (g9_strength bm)) (g9_off bm)) (g9_over bm)) (g9_change bm)) v) ((gs9_done_change _ _).trans ((gs9_done_over _ _).trans ((gs9_done_off _ _).trans ((gs9_done_strength _ _).trans ((gs9_done_except _ _).trans ((gs9_done_body _ _).trans ((gs9_done_head _ _).trans ((gs9_done_kind _ _).trans ((gs9_done_rules _ _).trans (gs9_done_facts _ _))))))))))))).trans (((se9_undone _).symm).trans (congrArg (fun v => s9_undone (s9_done (s9_change (s9_over (s9_off (s9_strength (s9_except (s9_body (s9_head (s9_kind (s9_rules (s9_facts bm (g9_facts bm)) (g9_rules bm)) (g9_kind bm)) (g9_head bm)) (g9_body bm)) (g9_except bm)) (g9_strength bm)) (g9_off bm)) (g9_over bm)) (g9_change bm)) (g9_done bm)) v) ((gs9_undone_done _ _).trans ((gs9_undone_change _ _).trans ((gs9_undone_over _ _).trans ((gs9_undone_off _ _).trans ((gs9_undone_strength _ _).trans ((gs9_undone_except _ _).trans ((gs9_undone_body _ _).trans ((gs9_undone_head _ _).trans ((gs9_undone_kind _ _).trans ((gs9_undone_rules _ _).trans (gs9_undone_facts _ _))))))))))))))] at hP hD
    exact hret _ _ _ _ _ _ (by subst hE; rfl) rfl hP hS dX9_rule_58
  · have hE := hE.trans (if_neg c6)
    refine lv_iload_n hx hb dX9_rule_9 rfl (lv_at hl 2 rfl) ?_
    obtain ⟨t10, ht10⟩ : ∃ z, FX9_isLiteral x2 = z := ⟨_, rfl⟩
    have hE := hE.trans (bnd_eq ht10)
    have hc := c_X9_isLiteral l G x2 _ ht10
    refine zgoR (va_runS (As := [.int x2]) (rest := []) S (hc _) (va_cwS 1 S.2.2.2.2 gX9_rule_X9_isLiteral rfl rfl rfl (by decide +kernel) ⟨Nat.le_of_ble_eq_true rfl, Nat.le_of_ble_eq_true rfl⟩) (zpS hK hP hD (is := []) rfl rfl) rfl rfl hl.1 rfl (lv_room (Nat.le_of_ble_eq_true rfl)) dX9_rule_10 ⟨Nat.zero_le _, Nat.zero_le _⟩) (fun hn10 => ?_)
    refine lv_if_eq (tgt := 57) hx hb dX9_rule_13 (by decide) (fun c13 => ?_) (fun c13 => ?_)
    · have hE := hE.trans (if_pos c13)
      refine lv_iconst (v := (-1)) hx hb dX9_rule_57 (by decide) ?_
      rw [show bm = (s9_undone (s9_done (s9_change (s9_over (s9_off (s9_strength (s9_except (s9_body (s9_head (s9_kind (s9_rules (s9_facts bm (g9_facts bm)) (g9_rules bm)) (g9_kind bm)) (g9_head bm)) (g9_body bm)) (g9_except bm)) (g9_strength bm)) (g9_off bm)) (g9_over bm)) (g9_change bm)) (g9_done bm)) (g9_undone bm)) from (((((((((((((se9_facts _).symm).trans (((se9_rules _).symm).trans (congrArg (fun v => s9_rules (s9_facts bm (g9_facts bm)) v) (gs9_rules_facts _ _)))).trans (((se9_kind _).symm).trans (congrArg (fun v => s9_kind (s9_rules (s9_facts bm (g9_facts bm)) (g9_rules bm)) v) ((gs9_kind_rules _ _).trans (gs9_kind_facts _ _))))).trans (((se9_head _).symm).trans (congrArg (fun v => s9_head (s9_kind (s9_rules (s9_facts bm (g9_facts bm)) (g9_rules bm)) (g9_kind bm)) v) ((gs9_head_kind _ _).trans ((gs9_head_rules _ _).trans (gs9_head_facts _ _)))))).trans (((se9_body _).symm).trans (congrArg (fun v => s9_body (s9_head (s9_kind (s9_rules (s9_facts bm (g9_facts bm)) (g9_rules bm)) (g9_kind bm)) (g9_head bm)) v) ((gs9_body_head _ _).trans ((gs9_body_kind _ _).trans ((gs9_body_rules _ _).trans (gs9_body_facts _ _))))))).trans (((se9_except _).symm).trans (congrArg (fun v => s9_except (s9_body (s9_head (s9_kind (s9_rules (s9_facts bm (g9_facts bm)) (g9_rules bm)) (g9_kind bm)) (g9_head bm)) (g9_body bm)) v) ((gs9_except_body _ _).trans ((gs9_except_head _ _).trans ((gs9_except_kind _ _).trans ((gs9_except_rules _ _).trans (gs9_except_facts _ _)))))))).trans (((se9_strength _).symm).trans (congrArg (fun v => s9_strength (s9_except (s9_body (s9_head (s9_kind (s9_rules (s9_facts bm (g9_facts bm)) (g9_rules bm)) (g9_kind bm)) (g9_head bm)) (g9_body bm)) (g9_except bm)) v) ((gs9_strength_except _ _).trans ((gs9_strength_body _ _).trans ((gs9_strength_head _ _).trans ((gs9_strength_kind _ _).trans ((gs9_strength_rules _ _).trans (gs9_strength_facts _ _))))))))).trans (((se9_off _).symm).trans (congrArg (fun v => s9_off (s9_strength (s9_except (s9_body (s9_head (s9_kind (s9_rules (s9_facts bm (g9_facts bm)) (g9_rules bm)) (g9_kind bm)) (g9_head bm)) (g9_body bm)) (g9_except bm)) (g9_strength bm)) v) ((gs9_off_strength _ _).trans ((gs9_off_except _ _).trans ((gs9_off_body _ _).trans ((gs9_off_head _ _).trans ((gs9_off_kind _ _).trans ((gs9_off_rules _ _).trans (gs9_off_facts _ _)))))))))).trans (((se9_over _).symm).trans (congrArg (fun v => s9_over (s9_off (s9_strength (s9_except (s9_body (s9_head (s9_kind (s9_rules (s9_facts bm (g9_facts bm)) (g9_rules bm)) (g9_kind bm)) (g9_head bm)) (g9_body bm)) (g9_except bm)) (g9_strength bm)) (g9_off bm)) v) ((gs9_over_off _ _).trans ((gs9_over_strength _ _).trans ((gs9_over_except _ _).trans ((gs9_over_body _ _).trans ((gs9_over_head _ _).trans ((gs9_over_kind _ _).trans ((gs9_over_rules _ _).trans (gs9_over_facts _ _))))))))))).trans (((se9_change _).symm).trans (congrArg (fun v => s9_change (s9_over (s9_off (s9_strength (s9_except (s9_body (s9_head (s9_kind (s9_rules (s9_facts bm (g9_facts bm)) (g9_rules bm)) (g9_kind bm)) (g9_head bm)) (g9_body bm)) (g9_except bm)) (g9_strength bm)) (g9_off bm)) (g9_over bm)) v) ((gs9_change_over _ _).trans ((gs9_change_off _ _).trans ((gs9_change_strength _ _).trans ((gs9_change_except _ _).trans ((gs9_change_body _ _).trans ((gs9_change_head _ _).trans ((gs9_change_kind _ _).trans ((gs9_change_rules _ _).trans (gs9_change_facts _ _)))))))))))).trans (((se9_done _).symm).trans (congrArg (fun v => s9_done (s9_change (s9_over (s9_off (s9_strength (s9_except (s9_body (s9_head (s9_kind (s9_rules (s9_facts bm (g9_facts bm)) (g9_rules bm)) (g9_kind bm)) (g9_head bm)) (g9_body bm)) (g9_except bm)) (g9_strength bm)) (g9_off bm)) (g9_over bm)) (g9_change bm)) v) ((gs9_done_change _ _).trans ((gs9_done_over _ _).trans ((gs9_done_off _ _).trans ((gs9_done_strength _ _).trans ((gs9_done_except _ _).trans ((gs9_done_body _ _).trans ((gs9_done_head _ _).trans ((gs9_done_kind _ _).trans ((gs9_done_rules _ _).trans (gs9_done_facts _ _))))))))))))).trans (((se9_undone _).symm).trans (congrArg (fun v => s9_undone (s9_done (s9_change (s9_over (s9_off (s9_strength (s9_except (s9_body (s9_head (s9_kind (s9_rules (s9_facts bm (g9_facts bm)) (g9_rules bm)) (g9_kind bm)) (g9_head bm)) (g9_body bm)) (g9_except bm)) (g9_strength bm)) (g9_off bm)) (g9_over bm)) (g9_change bm)) (g9_done bm)) v) ((gs9_undone_done _ _).trans ((gs9_undone_change _ _).trans ((gs9_undone_over _ _).trans ((gs9_undone_off _ _).trans ((gs9_undone_strength _ _).trans ((gs9_undone_except _ _).trans ((gs9_undone_body _ _).trans ((gs9_undone_head _ _).trans ((gs9_undone_kind _ _).trans ((gs9_undone_rules _ _).trans (gs9_undone_facts _ _))))))))))))))] at hP hD
      exact hret _ _ _ _ _ _ (by subst hE; rfl) rfl hP hS dX9_rule_58
    · have hE := hE.trans (if_neg c13)
      have hx2_20 : vp_in x2 20 := zisLit9 (by rw [ht10]; exact c13)
      refine lv_iload_n hx hb dX9_rule_16 rfl (lv_at hl 3 rfl) ?_
      refine lv_iconst (v := 0) hx hb dX9_rule_17 (by decide) ?_
      refine lv_ldc (v := 1048575) hx hb S.2.2.2.1 (S.2.2.2.2 _ (List.mem_of_getElem? (i := 1) rfl)) dX9_rule_18 ?_
      obtain ⟨t20, ht20⟩ : ∃ z, FX9_in x3 0 1048575 = z := ⟨_, rfl⟩
      have hE := hE.trans (bnd_eq ht20)
      have hc := c_X9_in l G x3 0 1048575 _ ht20
      refine zgoR (va_runS (As := [.int x3, .int 0, .int 1048575]) (rest := []) S (hc _) (va_cwS 3 S.2.2.2.2 gX9_rule_X9_in rfl rfl rfl (by decide +kernel) ⟨Nat.le_of_ble_eq_true rfl, Nat.le_of_ble_eq_true rfl⟩) (zpS hK hP hD (is := []) rfl rfl) rfl rfl hl.1 rfl (lv_room (Nat.le_of_ble_eq_true rfl)) dX9_rule_20 ⟨Nat.zero_le _, Nat.zero_le _⟩) (fun hn20 => ?_)
      refine lv_if_eq (tgt := 57) hx hb dX9_rule_23 (by decide) (fun c23 => ?_) (fun c23 => ?_)
      · have hE := hE.trans (if_pos c23)
        refine lv_iconst (v := (-1)) hx hb dX9_rule_57 (by decide) ?_
        rw [show bm = (s9_undone (s9_done (s9_change (s9_over (s9_off (s9_strength (s9_except (s9_body (s9_head (s9_kind (s9_rules (s9_facts bm (g9_facts bm)) (g9_rules bm)) (g9_kind bm)) (g9_head bm)) (g9_body bm)) (g9_except bm)) (g9_strength bm)) (g9_off bm)) (g9_over bm)) (g9_change bm)) (g9_done bm)) (g9_undone bm)) from (((((((((((((se9_facts _).symm).trans (((se9_rules _).symm).trans (congrArg (fun v => s9_rules (s9_facts bm (g9_facts bm)) v) (gs9_rules_facts _ _)))).trans (((se9_kind _).symm).trans (congrArg (fun v => s9_kind (s9_rules (s9_facts bm (g9_facts bm)) (g9_rules bm)) v) ((gs9_kind_rules _ _).trans (gs9_kind_facts _ _))))).trans (((se9_head _).symm).trans (congrArg (fun v => s9_head (s9_kind (s9_rules (s9_facts bm (g9_facts bm)) (g9_rules bm)) (g9_kind bm)) v) ((gs9_head_kind _ _).trans ((gs9_head_rules _ _).trans (gs9_head_facts _ _)))))).trans (((se9_body _).symm).trans (congrArg (fun v => s9_body (s9_head (s9_kind (s9_rules (s9_facts bm (g9_facts bm)) (g9_rules bm)) (g9_kind bm)) (g9_head bm)) v) ((gs9_body_head _ _).trans ((gs9_body_kind _ _).trans ((gs9_body_rules _ _).trans (gs9_body_facts _ _))))))).trans (((se9_except _).symm).trans (congrArg (fun v => s9_except (s9_body (s9_head (s9_kind (s9_rules (s9_facts bm (g9_facts bm)) (g9_rules bm)) (g9_kind bm)) (g9_head bm)) (g9_body bm)) v) ((gs9_except_body _ _).trans ((gs9_except_head _ _).trans ((gs9_except_kind _ _).trans ((gs9_except_rules _ _).trans (gs9_except_facts _ _)))))))).trans (((se9_strength _).symm).trans (congrArg (fun v => s9_strength (s9_except (s9_body (s9_head (s9_kind (s9_rules (s9_facts bm (g9_facts bm)) (g9_rules bm)) (g9_kind bm)) (g9_head bm)) (g9_body bm)) (g9_except bm)) v) ((gs9_strength_except _ _).trans ((gs9_strength_body _ _).trans ((gs9_strength_head _ _).trans ((gs9_strength_kind _ _).trans ((gs9_strength_rules _ _).trans (gs9_strength_facts _ _))))))))).trans (((se9_off _).symm).trans (congrArg (fun v => s9_off (s9_strength (s9_except (s9_body (s9_head (s9_kind (s9_rules (s9_facts bm (g9_facts bm)) (g9_rules bm)) (g9_kind bm)) (g9_head bm)) (g9_body bm)) (g9_except bm)) (g9_strength bm)) v) ((gs9_off_strength _ _).trans ((gs9_off_except _ _).trans ((gs9_off_body _ _).trans ((gs9_off_head _ _).trans ((gs9_off_kind _ _).trans ((gs9_off_rules _ _).trans (gs9_off_facts _ _)))))))))).trans (((se9_over _).symm).trans (congrArg (fun v => s9_over (s9_off (s9_strength (s9_except (s9_body (s9_head (s9_kind (s9_rules (s9_facts bm (g9_facts bm)) (g9_rules bm)) (g9_kind bm)) (g9_head bm)) (g9_body bm)) (g9_except bm)) (g9_strength bm)) (g9_off bm)) v) ((gs9_over_off _ _).trans ((gs9_over_strength _ _).trans ((gs9_over_except _ _).trans ((gs9_over_body _ _).trans ((gs9_over_head _ _).trans ((gs9_over_kind _ _).trans ((gs9_over_rules _ _).trans (gs9_over_facts _ _))))))))))).trans (((se9_change _).symm).trans (congrArg (fun v => s9_change (s9_over (s9_off (s9_strength (s9_except (s9_body (s9_head (s9_kind (s9_rules (s9_facts bm (g9_facts bm)) (g9_rules bm)) (g9_kind bm)) (g9_head bm)) (g9_body bm)) (g9_except bm)) (g9_strength bm)) (g9_off bm)) (g9_over bm)) v) ((gs9_change_over _ _).trans ((gs9_change_off _ _).trans ((gs9_change_strength _ _).trans ((gs9_change_except _ _).trans ((gs9_change_body _ _).trans ((gs9_change_head _ _).trans ((gs9_change_kind _ _).trans ((gs9_change_rules _ _).trans (gs9_change_facts _ _)))))))))))).trans (((se9_done _).symm).trans (congrArg (fun v => s9_done (s9_change (s9_over (s9_off (s9_strength (s9_except (s9_body (s9_head (s9_kind (s9_rules (s9_facts bm (g9_facts bm)) (g9_rules bm)) (g9_kind bm)) (g9_head bm)) (g9_body bm)) (g9_except bm)) (g9_strength bm)) (g9_off bm)) (g9_over bm)) (g9_change bm)) v) ((gs9_done_change _ _).trans ((gs9_done_over _ _).trans ((gs9_done_off _ _).trans ((gs9_done_strength _ _).trans ((gs9_done_except _ _).trans ((gs9_done_body _ _).trans ((gs9_done_head _ _).trans ((gs9_done_kind _ _).trans ((gs9_done_rules _ _).trans (gs9_done_facts _ _))))))))))))).trans (((se9_undone _).symm).trans (congrArg (fun v => s9_undone (s9_done (s9_change (s9_over (s9_off (s9_strength (s9_except (s9_body (s9_head (s9_kind (s9_rules (s9_facts bm (g9_facts bm)) (g9_rules bm)) (g9_kind bm)) (g9_head bm)) (g9_body bm)) (g9_except bm)) (g9_strength bm)) (g9_off bm)) (g9_over bm)) (g9_change bm)) (g9_done bm)) v) ((gs9_undone_done _ _).trans ((gs9_undone_change _ _).trans ((gs9_undone_over _ _).trans ((gs9_undone_off _ _).trans ((gs9_undone_strength _ _).trans ((gs9_undone_except _ _).trans ((gs9_undone_body _ _).trans ((gs9_undone_head _ _).trans ((gs9_undone_kind _ _).trans ((gs9_undone_rules _ _).trans (gs9_undone_facts _ _))))))))))))))] at hP hD
        exact hret _ _ _ _ _ _ (by subst hE; rfl) rfl hP hS dX9_rule_58
      · have hE := hE.trans (if_neg c23)
        refine lv_iload hx hb dX9_rule_26 (lv_at hl 4 rfl) ?_
        refine lv_iconst (v := 0) hx hb dX9_rule_28 (by decide) ?_
        refine lv_ldc (v := 1048575) hx hb S.2.2.2.1 (S.2.2.2.2 _ (List.mem_of_getElem? (i := 1) rfl)) dX9_rule_29 ?_
        obtain ⟨t31, ht31⟩ : ∃ z, FX9_in x4 0 1048575 = z := ⟨_, rfl⟩
        have hE := hE.trans (bnd_eq ht31)
        have hc := c_X9_in l G x4 0 1048575 _ ht31
        refine zgoR (va_runS (As := [.int x4, .int 0, .int 1048575]) (rest := []) S (hc _) (va_cwS 3 S.2.2.2.2 gX9_rule_X9_in rfl rfl rfl (by decide +kernel) ⟨Nat.le_of_ble_eq_true rfl, Nat.le_of_ble_eq_true rfl⟩) (zpS hK hP hD (is := []) rfl rfl) rfl rfl hl.1 rfl (lv_room (Nat.le_of_ble_eq_true rfl)) dX9_rule_31 ⟨Nat.zero_le _, Nat.zero_le _⟩) (fun hn31 => ?_)
        refine lv_if_eq (tgt := 57) hx hb dX9_rule_34 (by decide) (fun c34 => ?_) (fun c34 => ?_)
        · have hE := hE.trans (if_pos c34)
          refine lv_iconst (v := (-1)) hx hb dX9_rule_57 (by decide) ?_
          rw [show bm = (s9_undone (s9_done (s9_change (s9_over (s9_off (s9_strength (s9_except (s9_body (s9_head (s9_kind (s9_rules (s9_facts bm (g9_facts bm)) (g9_rules bm)) (g9_kind bm)) (g9_head bm)) (g9_body bm)) (g9_except bm)) (g9_strength bm)) (g9_off bm)) (g9_over bm)) (g9_change bm)) (g9_done bm)) (g9_undone bm)) from (((((((((((((se9_facts _).symm).trans (((se9_rules _).symm).trans (congrArg (fun v => s9_rules (s9_facts bm (g9_facts bm)) v) (gs9_rules_facts _ _)))).trans (((se9_kind _).symm).trans (congrArg (fun v => s9_kind (s9_rules (s9_facts bm (g9_facts bm)) (g9_rules bm)) v) ((gs9_kind_rules _ _).trans (gs9_kind_facts _ _))))).trans (((se9_head _).symm).trans (congrArg (fun v => s9_head (s9_kind (s9_rules (s9_facts bm (g9_facts bm)) (g9_rules bm)) (g9_kind bm)) v) ((gs9_head_kind _ _).trans ((gs9_head_rules _ _).trans (gs9_head_facts _ _)))))).trans (((se9_body _).symm).trans (congrArg (fun v => s9_body (s9_head (s9_kind (s9_rules (s9_facts bm (g9_facts bm)) (g9_rules bm)) (g9_kind bm)) (g9_head bm)) v) ((gs9_body_head _ _).trans ((gs9_body_kind _ _).trans ((gs9_body_rules _ _).trans (gs9_body_facts _ _))))))).trans (((se9_except _).symm).trans (congrArg (fun v => s9_except (s9_body (s9_head (s9_kind (s9_rules (s9_facts bm (g9_facts bm)) (g9_rules bm)) (g9_kind bm)) (g9_head bm)) (g9_body bm)) v) ((gs9_except_body _ _).trans ((gs9_except_head _ _).trans ((gs9_except_kind _ _).trans ((gs9_except_rules _ _).trans (gs9_except_facts _ _)))))))).trans (((se9_strength _).symm).trans (congrArg (fun v => s9_strength (s9_except (s9_body (s9_head (s9_kind (s9_rules (s9_facts bm (g9_facts bm)) (g9_rules bm)) (g9_kind bm)) (g9_head bm)) (g9_body bm)) (g9_except bm)) v) ((gs9_strength_except _ _).trans ((gs9_strength_body _ _).trans ((gs9_strength_head _ _).trans ((gs9_strength_kind _ _).trans ((gs9_strength_rules _ _).trans (gs9_strength_facts _ _))))))))).trans (((se9_off _).symm).trans (congrArg (fun v => s9_off (s9_strength (s9_except (s9_body (s9_head (s9_kind (s9_rules (s9_facts bm (g9_facts bm)) (g9_rules bm)) (g9_kind bm)) (g9_head bm)) (g9_body bm)) (g9_except bm)) (g9_strength bm)) v) ((gs9_off_strength _ _).trans ((gs9_off_except _ _).trans ((gs9_off_body _ _).trans ((gs9_off_head _ _).trans ((gs9_off_kind _ _).trans ((gs9_off_rules _ _).trans (gs9_off_facts _ _)))))))))).trans (((se9_over _).symm).trans (congrArg (fun v => s9_over (s9_off (s9_strength (s9_except (s9_body (s9_head (s9_kind (s9_rules (s9_facts bm (g9_facts bm)) (g9_rules bm)) (g9_kind bm)) (g9_head bm)) (g9_body bm)) (g9_except bm)) (g9_strength bm)) (g9_off bm)) v) ((gs9_over_off _ _).trans ((gs9_over_strength _ _).trans ((gs9_over_except _ _).trans ((gs9_over_body _ _).trans ((gs9_over_head _ _).trans ((gs9_over_kind _ _).trans ((gs9_over_rules _ _).trans (gs9_over_facts _ _))))))))))).trans (((se9_change _).symm).trans (congrArg (fun v => s9_change (s9_over (s9_off (s9_strength (s9_except (s9_body (s9_head (s9_kind (s9_rules (s9_facts bm (g9_facts bm)) (g9_rules bm)) (g9_kind bm)) (g9_head bm)) (g9_body bm)) (g9_except bm)) (g9_strength bm)) (g9_off bm)) (g9_over bm)) v) ((gs9_change_over _ _).trans ((gs9_change_off _ _).trans ((gs9_change_strength _ _).trans ((gs9_change_except _ _).trans ((gs9_change_body _ _).trans ((gs9_change_head _ _).trans ((gs9_change_kind _ _).trans ((gs9_change_rules _ _).trans (gs9_change_facts _ _)))))))))))).trans (((se9_done _).symm).trans (congrArg (fun v => s9_done (s9_change (s9_over (s9_off (s9_strength (s9_except (s9_body (s9_head (s9_kind (s9_rules (s9_facts bm (g9_facts bm)) (g9_rules bm)) (g9_kind bm)) (g9_head bm)) (g9_body bm)) (g9_except bm)) (g9_strength bm)) (g9_off bm)) (g9_over bm)) (g9_change bm)) v) ((gs9_done_change _ _).trans ((gs9_done_over _ _).trans ((gs9_done_off _ _).trans ((gs9_done_strength _ _).trans ((gs9_done_except _ _).trans ((gs9_done_body _ _).trans ((gs9_done_head _ _).trans ((gs9_done_kind _ _).trans ((gs9_done_rules _ _).trans (gs9_done_facts _ _))))))))))))).trans (((se9_undone _).symm).trans (congrArg (fun v => s9_undone (s9_done (s9_change (s9_over (s9_off (s9_strength (s9_except (s9_body (s9_head (s9_kind (s9_rules (s9_facts bm (g9_facts bm)) (g9_rules bm)) (g9_kind bm)) (g9_head bm)) (g9_body bm)) (g9_except bm)) (g9_strength bm)) (g9_off bm)) (g9_over bm)) (g9_change bm)) (g9_done bm)) v) ((gs9_undone_done _ _).trans ((gs9_undone_change _ _).trans ((gs9_undone_over _ _).trans ((gs9_undone_off _ _).trans ((gs9_undone_strength _ _).trans ((gs9_undone_except _ _).trans ((gs9_undone_body _ _).trans ((gs9_undone_head _ _).trans ((gs9_undone_kind _ _).trans ((gs9_undone_rules _ _).trans (gs9_undone_facts _ _))))))))))))))] at hP hD
          exact hret _ _ _ _ _ _ (by subst hE; rfl) rfl hP hS dX9_rule_58
        · have hE := hE.trans (if_neg c34)
          refine lv_iload hx hb dX9_rule_37 (lv_at hl 5 rfl) ?_
          refine lv_iconst (v := 0) hx hb dX9_rule_39 (by decide) ?_
          refine lv_bipush (v := 9) hx hb dX9_rule_40 (by decide) ?_
          obtain ⟨t42, ht42⟩ : ∃ z, FX9_in x5 0 9 = z := ⟨_, rfl⟩
          have hE := hE.trans (bnd_eq ht42)
          have hc := c_X9_in l G x5 0 9 _ ht42
          refine zgoR (va_runS (As := [.int x5, .int 0, .int 9]) (rest := []) S (hc _) (va_cwS 3 S.2.2.2.2 gX9_rule_X9_in rfl rfl rfl (by decide +kernel) ⟨Nat.le_of_ble_eq_true rfl, Nat.le_of_ble_eq_true rfl⟩) (zpS hK hP hD (is := []) rfl rfl) rfl rfl hl.1 rfl (lv_room (Nat.le_of_ble_eq_true rfl)) dX9_rule_42 ⟨Nat.zero_le _, Nat.zero_le _⟩) (fun hn42 => ?_)
          refine lv_if_eq (tgt := 57) hx hb dX9_rule_45 (by decide) (fun c45 => ?_) (fun c45 => ?_)
          · have hE := hE.trans (if_pos c45)
            refine lv_iconst (v := (-1)) hx hb dX9_rule_57 (by decide) ?_
            rw [show bm = (s9_undone (s9_done (s9_change (s9_over (s9_off (s9_strength (s9_except (s9_body (s9_head (s9_kind (s9_rules (s9_facts bm (g9_facts bm)) (g9_rules bm)) (g9_kind bm)) (g9_head bm)) (g9_body bm)) (g9_except bm)) (g9_strength bm)) (g9_off bm)) (g9_over bm)) (g9_change bm)) (g9_done bm)) (g9_undone bm)) from (((((((((((((se9_facts _).symm).trans (((se9_rules _).symm).trans (congrArg (fun v => s9_rules (s9_facts bm (g9_facts bm)) v) (gs9_rules_facts _ _)))).trans (((se9_kind _).symm).trans (congrArg (fun v => s9_kind (s9_rules (s9_facts bm (g9_facts bm)) (g9_rules bm)) v) ((gs9_kind_rules _ _).trans (gs9_kind_facts _ _))))).trans (((se9_head _).symm).trans (congrArg (fun v => s9_head (s9_kind (s9_rules (s9_facts bm (g9_facts bm)) (g9_rules bm)) (g9_kind bm)) v) ((gs9_head_kind _ _).trans ((gs9_head_rules _ _).trans (gs9_head_facts _ _)))))).trans (((se9_body _).symm).trans (congrArg (fun v => s9_body (s9_head (s9_kind (s9_rules (s9_facts bm (g9_facts bm)) (g9_rules bm)) (g9_kind bm)) (g9_head bm)) v) ((gs9_body_head _ _).trans ((gs9_body_kind _ _).trans ((gs9_body_rules _ _).trans (gs9_body_facts _ _))))))).trans (((se9_except _).symm).trans (congrArg (fun v => s9_except (s9_body (s9_head (s9_kind (s9_rules (s9_facts bm (g9_facts bm)) (g9_rules bm)) (g9_kind bm)) (g9_head bm)) (g9_body bm)) v) ((gs9_except_body _ _).trans ((gs9_except_head _ _).trans ((gs9_except_kind _ _).trans ((gs9_except_rules _ _).trans (gs9_except_facts _ _)))))))).trans (((se9_strength _).symm).trans (congrArg (fun v => s9_strength (s9_except (s9_body (s9_head (s9_kind (s9_rules (s9_facts bm (g9_facts bm)) (g9_rules bm)) (g9_kind bm)) (g9_head bm)) (g9_body bm)) (g9_except bm)) v) ((gs9_strength_except _ _).trans ((gs9_strength_body _ _).trans ((gs9_strength_head _ _).trans ((gs9_strength_kind _ _).trans ((gs9_strength_rules _ _).trans (gs9_strength_facts _ _))))))))).trans (((se9_off _).symm).trans (congrArg (fun v => s9_off (s9_strength (s9_except (s9_body (s9_head (s9_kind (s9_rules (s9_facts bm (g9_facts bm)) (g9_rules bm)) (g9_kind bm)) (g9_head bm)) (g9_body bm)) (g9_except bm)) (g9_strength bm)) v) ((gs9_off_strength _ _).trans ((gs9_off_except _ _).trans ((gs9_off_body _ _).trans ((gs9_off_head _ _).trans ((gs9_off_kind _ _).trans ((gs9_off_rules _ _).trans (gs9_off_facts _ _)))))))))).trans (((se9_over _).symm).trans (congrArg (fun v => s9_over (s9_off (s9_strength (s9_except (s9_body (s9_head (s9_kind (s9_rules (s9_facts bm (g9_facts bm)) (g9_rules bm)) (g9_kind bm)) (g9_head bm)) (g9_body bm)) (g9_except bm)) (g9_strength bm)) (g9_off bm)) v) ((gs9_over_off _ _).trans ((gs9_over_strength _ _).trans ((gs9_over_except _ _).trans ((gs9_over_body _ _).trans ((gs9_over_head _ _).trans ((gs9_over_kind _ _).trans ((gs9_over_rules _ _).trans (gs9_over_facts _ _))))))))))).trans (((se9_change _).symm).trans (congrArg (fun v => s9_change (s9_over (s9_off (s9_strength (s9_except (s9_body (s9_head (s9_kind (s9_rules (s9_facts bm (g9_facts bm)) (g9_rules bm)) (g9_kind bm)) (g9_head bm)) (g9_body bm)) (g9_except bm)) (g9_strength bm)) (g9_off bm)) (g9_over bm)) v) ((gs9_change_over _ _).trans ((gs9_change_off _ _).trans ((gs9_change_strength _ _).trans ((gs9_change_except _ _).trans ((gs9_change_body _ _).trans ((gs9_change_head _ _).trans ((gs9_change_kind _ _).trans ((gs9_change_rules _ _).trans (gs9_change_facts _ _)))))))))))).trans (((se9_done _).symm).trans (congrArg (fun v => s9_done (s9_change (s9_over (s9_off (s9_strength (s9_except (s9_body (s9_head (s9_kind (s9_rules (s9_facts bm (g9_facts bm)) (g9_rules bm)) (g9_kind bm)) (g9_head bm)) (g9_body bm)) (g9_except bm)) (g9_strength bm)) (g9_off bm)) (g9_over bm)) (g9_change bm)) v) ((gs9_done_change _ _).trans ((gs9_done_over _ _).trans ((gs9_done_off _ _).trans ((gs9_done_strength _ _).trans ((gs9_done_except _ _).trans ((gs9_done_body _ _).trans ((gs9_done_head _ _).trans ((gs9_done_kind _ _).trans ((gs9_done_rules _ _).trans (gs9_done_facts _ _))))))))))))).trans (((se9_undone _).symm).trans (congrArg (fun v => s9_undone (s9_done (s9_change (s9_over (s9_off (s9_strength (s9_except (s9_body (s9_head (s9_kind (s9_rules (s9_facts bm (g9_facts bm)) (g9_rules bm)) (g9_kind bm)) (g9_head bm)) (g9_body bm)) (g9_except bm)) (g9_strength bm)) (g9_off bm)) (g9_over bm)) (g9_change bm)) (g9_done bm)) v) ((gs9_undone_done _ _).trans ((gs9_undone_change _ _).trans ((gs9_undone_over _ _).trans ((gs9_undone_off _ _).trans ((gs9_undone_strength _ _).trans ((gs9_undone_except _ _).trans ((gs9_undone_body _ _).trans ((gs9_undone_head _ _).trans ((gs9_undone_kind _ _).trans ((gs9_undone_rules _ _).trans (gs9_undone_facts _ _))))))))))))))] at hP hD
            exact hret _ _ _ _ _ _ (by subst hE; rfl) rfl hP hS dX9_rule_58
          · have hE := hE.trans (if_neg c45)
            refine lv_iload_n hx hb dX9_rule_48 rfl (lv_at hl 1 rfl) ?_
            have hB59 : ∀ (H : Heap) (locs : List Loc) (ls : Array Slot), T = FX9_rule_59 (g9_facts bm) (g9_rules bm) (g9_kind bm) (g9_head bm) (g9_body bm) (g9_except bm) (g9_strength bm) (g9_off bm) (g9_over bm) (g9_change bm) (g9_done bm) (g9_undone bm) x1 x2 x3 x4 x5 (g9_facts bm) (g9_rules bm) (g9_kind bm) (g9_head bm) (g9_body bm) (g9_except bm) (g9_strength bm) (g9_off bm) (g9_over bm) (g9_change bm) (g9_done bm) (g9_undone bm) → zP G [w9 G am bm] H → zD A [w9 G am bm] → va_S A s.heap H locs → lv_has ls 6 [(0, .ref (am 0)), (1, .int x1), (2, .int x2), (3, .int x3), (4, .int x4), (5, .int x5)] → W p l e rmX9_rule s m args below meth c H locs 0 0 Q (F0 m 59 ls []) := by
              intro H locs ls hE hP hD hS hl
              have hE := hE.trans (FX9_rule_59.eq_1 _ _ _ _ _ _ _ _ _ _ _ _ _ _ _ _ _ _ _ _ _ _ _ _ _ _ _ _ _)
              refine lv_aload_n hx hb dX9_rule_59 rfl (lv_at hl 0 rfl) ?_
              refine zg9_rules S in_X9_rule_9 hK hP 0 rfl (List.mem_of_getElem? (i := 2) rfl) (v := (g9_rules bm)) rfl dX9_rule_60 ?_
              refine lv_bipush (v := 16) hx hb dX9_rule_63 (by decide) ?_
              refine lv_icmp_ne (tgt := 73) hx hb dX9_rule_65 (by decide) (fun c65 => ?_) (fun c65 => ?_)
              · have hE := hE.trans (if_neg c65)
                have hi_m_rules : vp_in (g9_rules bm) 16 := zne hz_m_rules rfl (by decide) c65
                refine lv_aload_n hx hb dX9_rule_73 rfl (lv_at hl 0 rfl) ?_
                refine lv_iload_n hx hb dX9_rule_74 rfl (lv_at hl 1 rfl) ?_
                refine lv_iload_n hx hb dX9_rule_75 rfl (lv_at hl 2 rfl) ?_
                refine lv_iload_n hx hb dX9_rule_76 rfl (lv_at hl 3 rfl) ?_
                refine lv_iload hx hb dX9_rule_77 (lv_at hl 4 rfl) ?_
                refine lv_iload hx hb dX9_rule_79 (lv_at hl 5 rfl) ?_
                obtain ⟨t81, ht81⟩ : ∃ z, FX9_adds (g9_facts bm) (g9_rules bm) (g9_kind bm) (g9_head bm) (g9_body bm) (g9_except bm) (g9_strength bm) (g9_off bm) (g9_over bm) (g9_change bm) (g9_done bm) (g9_undone bm) x1 x2 x3 x4 x5 = z := ⟨_, rfl⟩
                have hE := hE.trans (bnd_eq ht81)
                have hc := c_X9_adds l G am bm x1 x2 x3 x4 x5 (hd_m_done) (hi_m_rules) _ ht81
                refine zgoI (bs' := [w9 G am (s9_undone (s9_done (s9_change (s9_over (s9_off (s9_strength (s9_except (s9_body (s9_head (s9_kind (s9_rules (s9_facts bm t81.2.1) t81.2.2.1) t81.2.2.2.1) t81.2.2.2.2.1) t81.2.2.2.2.2.1) t81.2.2.2.2.2.2.1) t81.2.2.2.2.2.2.2.1) t81.2.2.2.2.2.2.2.2.1) t81.2.2.2.2.2.2.2.2.2.1) t81.2.2.2.2.2.2.2.2.2.2.1) t81.2.2.2.2.2.2.2.2.2.2.2.1) t81.2.2.2.2.2.2.2.2.2.2.2.2)]) hc [0] rfl rfl rfl hP hD hS hA (va_runV (As := [.int x1, .int x2, .int x3, .int x4, .int x5]) (rest := []) S (hc.2 _) (cwV 5 S.2.2.2.2 gX9_rule_X9_adds rfl rfl rfl (by decide +kernel) ⟨Nat.le_of_ble_eq_true rfl, Nat.le_of_ble_eq_true rfl⟩) (zpV hK hP hD (is := [0]) rfl rfl 0 rfl rfl (ci := 9) rfl) rfl rfl hl.1 rfl (lv_room (Nat.le_of_ble_eq_true rfl)) dX9_rule_81 ⟨Nat.zero_le _, Nat.zero_le _⟩) (fun H locs hn81 hP hD hS => ?_)
                exact hret _ _ _ _ _ _ (by subst hE; rfl) rfl hP hS dX9_rule_84
              · have hE := hE.trans (if_pos c65)
                refine lv_bipush (v := (-3)) hx hb dX9_rule_68 (by decide) ?_
                refine lv_goto (tgt := 84) hx hb dX9_rule_70 (by decide) ?_
                rw [show bm = (s9_undone (s9_done (s9_change (s9_over (s9_off (s9_strength (s9_except (s9_body (s9_head (s9_kind (s9_rules (s9_facts bm (g9_facts bm)) (g9_rules bm)) (g9_kind bm)) (g9_head bm)) (g9_body bm)) (g9_except bm)) (g9_strength bm)) (g9_off bm)) (g9_over bm)) (g9_change bm)) (g9_done bm)) (g9_undone bm)) from (((((((((((((se9_facts _).symm).trans (((se9_rules _).symm).trans (congrArg (fun v => s9_rules (s9_facts bm (g9_facts bm)) v) (gs9_rules_facts _ _)))).trans (((se9_kind _).symm).trans (congrArg (fun v => s9_kind (s9_rules (s9_facts bm (g9_facts bm)) (g9_rules bm)) v) ((gs9_kind_rules _ _).trans (gs9_kind_facts _ _))))).trans (((se9_head _).symm).trans (congrArg (fun v => s9_head (s9_kind (s9_rules (s9_facts bm (g9_facts bm)) (g9_rules bm)) (g9_kind bm)) v) ((gs9_head_kind _ _).trans ((gs9_head_rules _ _).trans (gs9_head_facts _ _)))))).trans (((se9_body _).symm).trans (congrArg (fun v => s9_body (s9_head (s9_kind (s9_rules (s9_facts bm (g9_facts bm)) (g9_rules bm)) (g9_kind bm)) (g9_head bm)) v) ((gs9_body_head _ _).trans ((gs9_body_kind _ _).trans ((gs9_body_rules _ _).trans (gs9_body_facts _ _))))))).trans (((se9_except _).symm).trans (congrArg (fun v => s9_except (s9_body (s9_head (s9_kind (s9_rules (s9_facts bm (g9_facts bm)) (g9_rules bm)) (g9_kind bm)) (g9_head bm)) (g9_body bm)) v) ((gs9_except_body _ _).trans ((gs9_except_head _ _).trans ((gs9_except_kind _ _).trans ((gs9_except_rules _ _).trans (gs9_except_facts _ _)))))))).trans (((se9_strength _).symm).trans (congrArg (fun v => s9_strength (s9_except (s9_body (s9_head (s9_kind (s9_rules (s9_facts bm (g9_facts bm)) (g9_rules bm)) (g9_kind bm)) (g9_head bm)) (g9_body bm)) (g9_except bm)) v) ((gs9_strength_except _ _).trans ((gs9_strength_body _ _).trans ((gs9_strength_head _ _).trans ((gs9_strength_kind _ _).trans ((gs9_strength_rules _ _).trans (gs9_strength_facts _ _))))))))).trans (((se9_off _).symm).trans (congrArg (fun v => s9_off (s9_strength (s9_except (s9_body (s9_head (s9_kind (s9_rules (s9_facts bm (g9_facts bm)) (g9_rules bm)) (g9_kind bm)) (g9_head bm)) (g9_body bm)) (g9_except bm)) (g9_strength bm)) v) ((gs9_off_strength _ _).trans ((gs9_off_except _ _).trans ((gs9_off_body _ _).trans ((gs9_off_head _ _).trans ((gs9_off_kind _ _).trans ((gs9_off_rules _ _).trans (gs9_off_facts _ _)))))))))).trans (((se9_over _).symm).trans (congrArg (fun v => s9_over (s9_off (s9_strength (s9_except (s9_body (s9_head (s9_kind (s9_rules (s9_facts bm (g9_facts bm)) (g9_rules bm)) (g9_kind bm)) (g9_head bm)) (g9_body bm)) (g9_except bm)) (g9_strength bm)) (g9_off bm)) v) ((gs9_over_off _ _).trans ((gs9_over_strength _ _).trans ((gs9_over_except _ _).trans ((gs9_over_body _ _).trans ((gs9_over_head _ _).trans ((gs9_over_kind _ _).trans ((gs9_over_rules _ _).trans (gs9_over_facts _ _))))))))))).trans (((se9_change _).symm).trans (congrArg (fun v => s9_change (s9_over (s9_off (s9_strength (s9_except (s9_body (s9_head (s9_kind (s9_rules (s9_facts bm (g9_facts bm)) (g9_rules bm)) (g9_kind bm)) (g9_head bm)) (g9_body bm)) (g9_except bm)) (g9_strength bm)) (g9_off bm)) (g9_over bm)) v) ((gs9_change_over _ _).trans ((gs9_change_off _ _).trans ((gs9_change_strength _ _).trans ((gs9_change_except _ _).trans ((gs9_change_body _ _).trans ((gs9_change_head _ _).trans ((gs9_change_kind _ _).trans ((gs9_change_rules _ _).trans (gs9_change_facts _ _)))))))))))).trans (((se9_done _).symm).trans (congrArg (fun v => s9_done (s9_change (s9_over (s9_off (s9_strength (s9_except (s9_body (s9_head (s9_kind (s9_rules (s9_facts bm (g9_facts bm)) (g9_rules bm)) (g9_kind bm)) (g9_head bm)) (g9_body bm)) (g9_except bm)) (g9_strength bm)) (g9_off bm)) (g9_over bm)) (g9_change bm)) v) ((gs9_done_change _ _).trans ((gs9_done_over _ _).trans ((gs9_done_off _ _).trans ((gs9_done_strength _ _).trans ((gs9_done_except _ _).trans ((gs9_done_body _ _).trans ((gs9_done_head _ _).trans ((gs9_done_kind _ _).trans ((gs9_done_rules _ _).trans (gs9_done_facts _ _))))))))))))).trans (((se9_undone _).symm).trans (congrArg (fun v => s9_undone (s9_done (s9_change (s9_over (s9_off (s9_strength (s9_except (s9_body (s9_head (s9_kind (s9_rules (s9_facts bm (g9_facts bm)) (g9_rules bm)) (g9_kind bm)) (g9_head bm)) (g9_body bm)) (g9_except bm)) (g9_strength bm)) (g9_off bm)) (g9_over bm)) (g9_change bm)) (g9_done bm)) v) ((gs9_undone_done _ _).trans ((gs9_undone_change _ _).trans ((gs9_undone_over _ _).trans ((gs9_undone_off _ _).trans ((gs9_undone_strength _ _).trans ((gs9_undone_except _ _).trans ((gs9_undone_body _ _).trans ((gs9_undone_head _ _).trans ((gs9_undone_kind _ _).trans ((gs9_undone_rules _ _).trans (gs9_undone_facts _ _))))))))))))))] at hP hD
                exact hret _ _ _ _ _ _ (by subst hE; rfl) rfl hP hS dX9_rule_84
            refine lv_if_ne (tgt := 59) hx hb dX9_rule_49 (by decide) (fun c49 => ?_) (fun c49 => ?_)
            · have hE := hE.trans (if_neg c49)
              exact hB59 _ _ _ hE hP hD hS (lv_sub hl [0, 1, 2, 3, 4, 5] rfl)
            · have hE := hE.trans (if_pos c49)
              refine lv_iload hx hb dX9_rule_52 (lv_at hl 4 rfl) ?_
              refine lv_if_eq (tgt := 59) hx hb dX9_rule_54 (by decide) (fun c54 => ?_) (fun c54 => ?_)
              · have hE := hE.trans (if_pos c54)
                exact hB59 _ _ _ hE hP hD hS (lv_sub hl [0, 1, 2, 3, 4, 5] rfl)
              · have hE := hE.trans (if_neg c54)
                refine lv_iconst (v := (-1)) hx hb dX9_rule_57 (by decide) ?_
                rw [show bm = (s9_undone (s9_done (s9_change (s9_over (s9_off (s9_strength (s9_except (s9_body (s9_head (s9_kind (s9_rules (s9_facts bm (g9_facts bm)) (g9_rules bm)) (g9_kind bm)) (g9_head bm)) (g9_body bm)) (g9_except bm)) (g9_strength bm)) (g9_off bm)) (g9_over bm)) (g9_change bm)) (g9_done bm)) (g9_undone bm)) from (((((((((((((se9_facts _).symm).trans (((se9_rules _).symm).trans (congrArg (fun v => s9_rules (s9_facts bm (g9_facts bm)) v) (gs9_rules_facts _ _)))).trans (((se9_kind _).symm).trans (congrArg (fun v => s9_kind (s9_rules (s9_facts bm (g9_facts bm)) (g9_rules bm)) v) ((gs9_kind_rules _ _).trans (gs9_kind_facts _ _))))).trans (((se9_head _).symm).trans (congrArg (fun v => s9_head (s9_kind (s9_rules (s9_facts bm (g9_facts bm)) (g9_rules bm)) (g9_kind bm)) v) ((gs9_head_kind _ _).trans ((gs9_head_rules _ _).trans (gs9_head_facts _ _)))))).trans (((se9_body _).symm).trans (congrArg (fun v => s9_body (s9_head (s9_kind (s9_rules (s9_facts bm (g9_facts bm)) (g9_rules bm)) (g9_kind bm)) (g9_head bm)) v) ((gs9_body_head _ _).trans ((gs9_body_kind _ _).trans ((gs9_body_rules _ _).trans (gs9_body_facts _ _))))))).trans (((se9_except _).symm).trans (congrArg (fun v => s9_except (s9_body (s9_head (s9_kind (s9_rules (s9_facts bm (g9_facts bm)) (g9_rules bm)) (g9_kind bm)) (g9_head bm)) (g9_body bm)) v) ((gs9_except_body _ _).trans ((gs9_except_head _ _).trans ((gs9_except_kind _ _).trans ((gs9_except_rules _ _).trans (gs9_except_facts _ _)))))))).trans (((se9_strength _).symm).trans (congrArg (fun v => s9_strength (s9_except (s9_body (s9_head (s9_kind (s9_rules (s9_facts bm (g9_facts bm)) (g9_rules bm)) (g9_kind bm)) (g9_head bm)) (g9_body bm)) (g9_except bm)) v) ((gs9_strength_except _ _).trans ((gs9_strength_body _ _).trans ((gs9_strength_head _ _).trans ((gs9_strength_kind _ _).trans ((gs9_strength_rules _ _).trans (gs9_strength_facts _ _))))))))).trans (((se9_off _).symm).trans (congrArg (fun v => s9_off (s9_strength (s9_except (s9_body (s9_head (s9_kind (s9_rules (s9_facts bm (g9_facts bm)) (g9_rules bm)) (g9_kind bm)) (g9_head bm)) (g9_body bm)) (g9_except bm)) (g9_strength bm)) v) ((gs9_off_strength _ _).trans ((gs9_off_except _ _).trans ((gs9_off_body _ _).trans ((gs9_off_head _ _).trans ((gs9_off_kind _ _).trans ((gs9_off_rules _ _).trans (gs9_off_facts _ _)))))))))).trans (((se9_over _).symm).trans (congrArg (fun v => s9_over (s9_off (s9_strength (s9_except (s9_body (s9_head (s9_kind (s9_rules (s9_facts bm (g9_facts bm)) (g9_rules bm)) (g9_kind bm)) (g9_head bm)) (g9_body bm)) (g9_except bm)) (g9_strength bm)) (g9_off bm)) v) ((gs9_over_off _ _).trans ((gs9_over_strength _ _).trans ((gs9_over_except _ _).trans ((gs9_over_body _ _).trans ((gs9_over_head _ _).trans ((gs9_over_kind _ _).trans ((gs9_over_rules _ _).trans (gs9_over_facts _ _))))))))))).trans (((se9_change _).symm).trans (congrArg (fun v => s9_change (s9_over (s9_off (s9_strength (s9_except (s9_body (s9_head (s9_kind (s9_rules (s9_facts bm (g9_facts bm)) (g9_rules bm)) (g9_kind bm)) (g9_head bm)) (g9_body bm)) (g9_except bm)) (g9_strength bm)) (g9_off bm)) (g9_over bm)) v) ((gs9_change_over _ _).trans ((gs9_change_off _ _).trans ((gs9_change_strength _ _).trans ((gs9_change_except _ _).trans ((gs9_change_body _ _).trans ((gs9_change_head _ _).trans ((gs9_change_kind _ _).trans ((gs9_change_rules _ _).trans (gs9_change_facts _ _)))))))))))).trans (((se9_done _).symm).trans (congrArg (fun v => s9_done (s9_change (s9_over (s9_off (s9_strength (s9_except (s9_body (s9_head (s9_kind (s9_rules (s9_facts bm (g9_facts bm)) (g9_rules bm)) (g9_kind bm)) (g9_head bm)) (g9_body bm)) (g9_except bm)) (g9_strength bm)) (g9_off bm)) (g9_over bm)) (g9_change bm)) v) ((gs9_done_change _ _).trans ((gs9_done_over _ _).trans ((gs9_done_off _ _).trans ((gs9_done_strength _ _).trans ((gs9_done_except _ _).trans ((gs9_done_body _ _).trans ((gs9_done_head _ _).trans ((gs9_done_kind _ _).trans ((gs9_done_rules _ _).trans (gs9_done_facts _ _))))))))))))).trans (((se9_undone _).symm).trans (congrArg (fun v => s9_undone (s9_done (s9_change (s9_over (s9_off (s9_strength (s9_except (s9_body (s9_head (s9_kind (s9_rules (s9_facts bm (g9_facts bm)) (g9_rules bm)) (g9_kind bm)) (g9_head bm)) (g9_body bm)) (g9_except bm)) (g9_strength bm)) (g9_off bm)) (g9_over bm)) (g9_change bm)) (g9_done bm)) v) ((gs9_undone_done _ _).trans ((gs9_undone_change _ _).trans ((gs9_undone_over _ _).trans ((gs9_undone_off _ _).trans ((gs9_undone_strength _ _).trans ((gs9_undone_except _ _).trans ((gs9_undone_body _ _).trans ((gs9_undone_head _ _).trans ((gs9_undone_kind _ _).trans ((gs9_undone_rules _ _).trans (gs9_undone_facts _ _))))))))))))))] at hP hD
                exact hret _ _ _ _ _ _ (by subst hE; rfl) rfl hP hS dX9_rule_58

theorem zdn_rule {f r d u x1 x2 x3 x4 x5 : Int32} {k h b e s o v c : Nat → Int32} (hd : ∃ N : Nat, N ≤ 12 ∧ d = nI N) : ∃ N : Nat, N ≤ 12 ∧ (FX9_rule f r k h b e s o v c d u x1 x2 x3 x4 x5).2.2.2.2.2.2.2.2.2.2.2.1 = nI N := by
  simp only [FX9_rule, FX9_rule_59, bnd]
  repeat' split
  all_goals first | exact hd | exact zdn_adds hd
theorem zru_rule {f r d u x1 x2 x3 x4 x5 : Int32} {k h b e s o v c : Nat → Int32} (hr : ∃ N : Nat, N ≤ 16 ∧ r = nI N) : ∃ N : Nat, N ≤ 16 ∧ (FX9_rule f r k h b e s o v c d u x1 x2 x3 x4 x5).2.2.1 = nI N := by
  have key : ¬ r = 16 → ∃ N : Nat, N ≤ 16 ∧ (FX9_adds f r k h b e s o v c d u x1 x2 x3 x4 x5).2.2.1 = nI N := fun c => by
    obtain ⟨j, hj, e⟩ := vp_in_of (zne hr rfl (by decide) c) (by decide)
    exact ⟨j + 1, by omega, by rw [zru_adds, e, nI_1]⟩
  simp only [FX9_rule, FX9_rule_59, bnd]
  repeat' split
  all_goals first | exact hr | exact key (by assumption)

theorem in_X9_off_9 : ∀ w ∈ u_ws RX9 TX9 40, w ∈ wsX9_off := by decide +kernel
def rmX9_off : Room := { frames := 2, cells := 0, slots := 0, locals := 51 }
set_option maxHeartbeats 4000000 in
set_option maxRecDepth 100000 in
theorem c_X9_off (l : Launch) (G : zG) (am : Nat → Nat) (bm : S9) (x1 : Int32) (x2 : Int32) (hd_m_done : ∃ N : Nat, N ≤ 12 ∧ g9_done bm = nI N) (T : Int32 × (Int32) × (Int32) × (Nat → Int32) × (Nat → Int32) × (Nat → Int32) × (Nat → Int32) × (Int32) × (Int32)) (hT : FX9_off (g9_facts bm) (g9_rules bm) (g9_strength bm) (g9_off bm) (g9_over bm) (g9_change bm) (g9_done bm) (g9_undone bm) x1 x2 = T) : zI l yX9_off wsX9_off rmX9_off .int G [.ref (am 0), .int x1, .int x2] [w9 G am bm] T.1 [w9 G am (s9_undone (s9_done (s9_change (s9_over (s9_off (s9_strength (s9_rules (s9_facts bm T.2.1) T.2.2.1) T.2.2.2.1) T.2.2.2.2.1) T.2.2.2.2.2.1) T.2.2.2.2.2.2.1) T.2.2.2.2.2.2.2.1) T.2.2.2.2.2.2.2.2)] := by
  refine zI.mk (cc := cX9_off) (maxL := 3) (by decide +kernel) rfl (Nat.le_of_ble_eq_true rfl) (zfl_cons (wf9 _ _ _ _) rfl) ?_
  intro p e s m args below meth c Q A ls S hK hD hA hP hl hret
  have hx := S.1
  have hb := S.2.1
  have hS : va_S A s.heap s.heap [] := va_S.rf
  have hl : lv_has ls 3 [(0, .ref (am 0)), (1, .int x1), (2, .int x2)] := hl
  have hE := hT.symm.trans (FX9_off.eq_1 _ _ _ _ _ _ _ _ _ _)
  refine lv_aload_n hx hb dX9_off_0 rfl (lv_at hl 0 rfl) ?_
  refine lv_iload_n hx hb dX9_off_1 rfl (lv_at hl 1 rfl) ?_
  obtain ⟨t2, ht2⟩ : ∃ z, FX9_isRule (g9_rules bm) x1 = z := ⟨_, rfl⟩
  have hE := hE.trans (bnd_eq ht2)
  have hc := c_X9_isRule l G am bm x1 _ ht2
  refine zgoR (va_runV (As := [.int x1]) (rest := []) S (hc _) (cwV 1 S.2.2.2.2 gX9_off_X9_isRule rfl rfl rfl (by decide +kernel) ⟨Nat.le_of_ble_eq_true rfl, Nat.le_of_ble_eq_true rfl⟩) (zpV hK hP hD (is := [0]) rfl rfl 0 rfl rfl (ci := 9) rfl) rfl rfl hl.1 rfl (lv_room (Nat.le_of_ble_eq_true rfl)) dX9_off_2 ⟨Nat.zero_le _, Nat.zero_le _⟩) (fun hn2 => ?_)
  refine lv_if_eq (tgt := 15) hx hb dX9_off_5 (by decide) (fun c5 => ?_) (fun c5 => ?_)
  · have hE := hE.trans (if_pos c5)
    refine lv_iconst (v := (-1)) hx hb dX9_off_15 (by decide) ?_
    rw [show bm = (s9_undone (s9_done (s9_change (s9_over (s9_off (s9_strength (s9_rules (s9_facts bm (g9_facts bm)) (g9_rules bm)) (g9_strength bm)) (g9_off bm)) (g9_over bm)) (g9_change bm)) (g9_done bm)) (g9_undone bm)) from (((((((((se9_facts _).symm).trans (((se9_rules _).symm).trans (congrArg (fun v => s9_rules (s9_facts bm (g9_facts bm)) v) (gs9_rules_facts _ _)))).trans (((se9_strength _).symm).trans (congrArg (fun v => s9_strength (s9_rules (s9_facts bm (g9_facts bm)) (g9_rules bm)) v) ((gs9_strength_rules _ _).trans (gs9_strength_facts _ _))))).trans (((se9_off _).symm).trans (congrArg (fun v => s9_off (s9_strength (s9_rules (s9_facts bm (g9_facts bm)) (g9_rules bm)) (g9_strength bm)) v) ((gs9_off_strength _ _).trans ((gs9_off_rules _ _).trans (gs9_off_facts _ _)))))).trans (((se9_over _).symm).trans (congrArg (fun v => s9_over (s9_off (s9_strength (s9_rules (s9_facts bm (g9_facts bm)) (g9_rules bm)) (g9_strength bm)) (g9_off bm)) v) ((gs9_over_off _ _).trans ((gs9_over_strength _ _).trans ((gs9_over_rules _ _).trans (gs9_over_facts _ _))))))).trans (((se9_change _).symm).trans (congrArg (fun v => s9_change (s9_over (s9_off (s9_strength (s9_rules (s9_facts bm (g9_facts bm)) (g9_rules bm)) (g9_strength bm)) (g9_off bm)) (g9_over bm)) v) ((gs9_change_over _ _).trans ((gs9_change_off _ _).trans ((gs9_change_strength _ _).trans ((gs9_change_rules _ _).trans (gs9_change_facts _ _)))))))).trans (((se9_done _).symm).trans (congrArg (fun v => s9_done (s9_change (s9_over (s9_off (s9_strength (s9_rules (s9_facts bm (g9_facts bm)) (g9_rules bm)) (g9_strength bm)) (g9_off bm)) (g9_over bm)) (g9_change bm)) v) ((gs9_done_change _ _).trans ((gs9_done_over _ _).trans ((gs9_done_off _ _).trans ((gs9_done_strength _ _).trans ((gs9_done_rules _ _).trans (gs9_done_facts _ _))))))))).trans (((se9_undone _).symm).trans (congrArg (fun v => s9_undone (s9_done (s9_change (s9_over (s9_off (s9_strength (s9_rules (s9_facts bm (g9_facts bm)) (g9_rules bm)) (g9_strength bm)) (g9_off bm)) (g9_over bm)) (g9_change bm)) (g9_done bm)) v) ((gs9_undone_done _ _).trans ((gs9_undone_change _ _).trans ((gs9_undone_over _ _).trans ((gs9_undone_off _ _).trans ((gs9_undone_strength _ _).trans ((gs9_undone_rules _ _).trans (gs9_undone_facts _ _))))))))))] at hP hD
    exact hret _ _ _ _ _ _ (by subst hE; rfl) rfl hP hS dX9_off_16
  · have hE := hE.trans (if_neg c5)
    have hx1_16 : vp_in x1 16 := zisRule hz_m_rules (by rw [ht2]; exact c5)
    refine lv_iload_n hx hb dX9_off_8 rfl (lv_at hl 2 rfl) ?_
    obtain ⟨t9, ht9⟩ : ∃ z, FX9_isBit x2 = z := ⟨_, rfl⟩
    have hE := hE.trans (bnd_eq ht9)
    have hc := c_X9_isBit l G x2 _ ht9
    refine zgoR (va_runS (As := [.int x2]) (rest := []) S (hc _) (va_cwS 1 S.2.2.2.2 gX9_off_X9_isBit rfl rfl rfl (by decide +kernel) ⟨Nat.le_of_ble_eq_true rfl, Nat.le_of_ble_eq_true rfl⟩) (zpS hK hP hD (is := []) rfl rfl) rfl rfl hl.1 rfl (lv_room (Nat.le_of_ble_eq_true rfl)) dX9_off_9 ⟨Nat.zero_le _, Nat.zero_le _⟩) (fun hn9 => ?_)
    refine lv_if_ne (tgt := 17) hx hb dX9_off_12 (by decide) (fun c12 => ?_) (fun c12 => ?_)
    · have hE := hE.trans (if_neg c12)
      refine lv_aload_n hx hb dX9_off_17 rfl (lv_at hl 0 rfl) ?_
      refine lv_iconst (v := 2) hx hb dX9_off_18 (by decide) ?_
      refine lv_iload_n hx hb dX9_off_19 rfl (lv_at hl 1 rfl) ?_
      refine lv_iconst (v := 0) hx hb dX9_off_20 (by decide) ?_
      refine lv_aload_n hx hb dX9_off_21 rfl (lv_at hl 0 rfl) ?_
      refine zg9_off S in_X9_off_9 hK hP 0 rfl (List.mem_of_getElem? (i := 1) rfl) dX9_off_22 ?_
      refine lv_iload_n hx hb dX9_off_25 rfl (lv_at hl 1 rfl) ?_
      refine zl9_off S hK hP 0 rfl hx1_16 (f := (g9_off bm)) rfl dX9_off_26 ?_
      refine lv_iload_n hx hb dX9_off_27 rfl (lv_at hl 2 rfl) ?_
      obtain ⟨t28, ht28⟩ : ∃ z, FX9_does (g9_facts bm) (g9_rules bm) (g9_strength bm) (g9_off bm) (g9_over bm) (g9_change bm) (g9_done bm) (g9_undone bm) 2 x1 0 ((g9_off bm) x1.toNatClampNeg) x2 = z := ⟨_, rfl⟩
      have hE := hE.trans (bnd_eq ht28)
      have hc := c_X9_does l G am bm 2 x1 0 ((g9_off bm) x1.toNatClampNeg) x2 (hd_m_done) _ ht28
      refine zgoI (bs' := [w9 G am (s9_undone (s9_done (s9_change (s9_over (s9_off (s9_strength (s9_rules (s9_facts bm t28.2.1) t28.2.2.1) t28.2.2.2.1) t28.2.2.2.2.1) t28.2.2.2.2.2.1) t28.2.2.2.2.2.2.1) t28.2.2.2.2.2.2.2.1) t28.2.2.2.2.2.2.2.2)]) hc [0] rfl rfl rfl hP hD hS hA (va_runV (As := [.int 2, .int x1, .int 0, .int ((g9_off bm) x1.toNatClampNeg), .int x2]) (rest := []) S (hc.2 _) (cwV 5 S.2.2.2.2 gX9_off_X9_does rfl rfl rfl (by decide +kernel) ⟨Nat.le_of_ble_eq_true rfl, Nat.le_of_ble_eq_true rfl⟩) (zpV hK hP hD (is := [0]) rfl rfl 0 rfl rfl (ci := 9) rfl) rfl rfl hl.1 rfl (lv_room (Nat.le_of_ble_eq_true rfl)) dX9_off_28 ⟨Nat.zero_le _, Nat.zero_le _⟩) (fun H locs hn28 hP hD hS => ?_)
      exact hret _ _ _ _ _ _ (by subst hE; rfl) rfl hP hS dX9_off_31
    · have hE := hE.trans (if_pos c12)
      refine lv_iconst (v := (-1)) hx hb dX9_off_15 (by decide) ?_
      rw [show bm = (s9_undone (s9_done (s9_change (s9_over (s9_off (s9_strength (s9_rules (s9_facts bm (g9_facts bm)) (g9_rules bm)) (g9_strength bm)) (g9_off bm)) (g9_over bm)) (g9_change bm)) (g9_done bm)) (g9_undone bm)) from (((((((((se9_facts _).symm).trans (((se9_rules _).symm).trans (congrArg (fun v => s9_rules (s9_facts bm (g9_facts bm)) v) (gs9_rules_facts _ _)))).trans (((se9_strength _).symm).trans (congrArg (fun v => s9_strength (s9_rules (s9_facts bm (g9_facts bm)) (g9_rules bm)) v) ((gs9_strength_rules _ _).trans (gs9_strength_facts _ _))))).trans (((se9_off _).symm).trans (congrArg (fun v => s9_off (s9_strength (s9_rules (s9_facts bm (g9_facts bm)) (g9_rules bm)) (g9_strength bm)) v) ((gs9_off_strength _ _).trans ((gs9_off_rules _ _).trans (gs9_off_facts _ _)))))).trans (((se9_over _).symm).trans (congrArg (fun v => s9_over (s9_off (s9_strength (s9_rules (s9_facts bm (g9_facts bm)) (g9_rules bm)) (g9_strength bm)) (g9_off bm)) v) ((gs9_over_off _ _).trans ((gs9_over_strength _ _).trans ((gs9_over_rules _ _).trans (gs9_over_facts _ _))))))).trans (((se9_change _).symm).trans (congrArg (fun v => s9_change (s9_over (s9_off (s9_strength (s9_rules (s9_facts bm (g9_facts bm)) (g9_rules bm)) (g9_strength bm)) (g9_off bm)) (g9_over bm)) v) ((gs9_change_over _ _).trans ((gs9_change_off _ _).trans ((gs9_change_strength _ _).trans ((gs9_change_rules _ _).trans (gs9_change_facts _ _)))))))).trans (((se9_done _).symm).trans (congrArg (fun v => s9_done (s9_change (s9_over (s9_off (s9_strength (s9_rules (s9_facts bm (g9_facts bm)) (g9_rules bm)) (g9_strength bm)) (g9_off bm)) (g9_over bm)) (g9_change bm)) v) ((gs9_done_change _ _).trans ((gs9_done_over _ _).trans ((gs9_done_off _ _).trans ((gs9_done_strength _ _).trans ((gs9_done_rules _ _).trans (gs9_done_facts _ _))))))))).trans (((se9_undone _).symm).trans (congrArg (fun v => s9_undone (s9_done (s9_change (s9_over (s9_off (s9_strength (s9_rules (s9_facts bm (g9_facts bm)) (g9_rules bm)) (g9_strength bm)) (g9_off bm)) (g9_over bm)) (g9_change bm)) (g9_done bm)) v) ((gs9_undone_done _ _).trans ((gs9_undone_change _ _).trans ((gs9_undone_over _ _).trans ((gs9_undone_off _ _).trans ((gs9_undone_strength _ _).trans ((gs9_undone_rules _ _).trans (gs9_undone_facts _ _))))))))))] at hP hD
      exact hret _ _ _ _ _ _ (by subst hE; rfl) rfl hP hS dX9_off_16

theorem in_X9_strength_9 : ∀ w ∈ u_ws RX9 TX9 40, w ∈ wsX9_strength := by decide +kernel
def rmX9_strength : Room := { frames := 2, cells := 0, slots := 0, locals := 51 }
set_option maxHeartbeats 4000000 in
set_option maxRecDepth 100000 in
theorem c_X9_strength (l : Launch) (G : zG) (am : Nat → Nat) (bm : S9) (x1 : Int32) (x2 : Int32) (hd_m_done : ∃ N : Nat, N ≤ 12 ∧ g9_done bm = nI N) (T : Int32 × (Int32) × (Int32) × (Nat → Int32) × (Nat → Int32) × (Nat → Int32) × (Nat → Int32) × (Int32) × (Int32)) (hT : FX9_strength (g9_facts bm) (g9_rules bm) (g9_strength bm) (g9_off bm) (g9_over bm) (g9_change bm) (g9_done bm) (g9_undone bm) x1 x2 = T) : zI l yX9_strength wsX9_strength rmX9_strength .int G [.ref (am 0), .int x1, .int x2] [w9 G am bm] T.1 [w9 G am (s9_undone (s9_done (s9_change (s9_over (s9_off (s9_strength (s9_rules (s9_facts bm T.2.1) T.2.2.1) T.2.2.2.1) T.2.2.2.2.1) T.2.2.2.2.2.1) T.2.2.2.2.2.2.1) T.2.2.2.2.2.2.2.1) T.2.2.2.2.2.2.2.2)] := by
  refine zI.mk (cc := cX9_strength) (maxL := 3) (by decide +kernel) rfl (Nat.le_of_ble_eq_true rfl) (zfl_cons (wf9 _ _ _ _) rfl) ?_
  intro p e s m args below meth c Q A ls S hK hD hA hP hl hret
  have hx := S.1
  have hb := S.2.1
  have hS : va_S A s.heap s.heap [] := va_S.rf
  have hl : lv_has ls 3 [(0, .ref (am 0)), (1, .int x1), (2, .int x2)] := hl
  have hE := hT.symm.trans (FX9_strength.eq_1 _ _ _ _ _ _ _ _ _ _)
  refine lv_aload_n hx hb dX9_strength_0 rfl (lv_at hl 0 rfl) ?_
  refine lv_iload_n hx hb dX9_strength_1 rfl (lv_at hl 1 rfl) ?_
  obtain ⟨t2, ht2⟩ : ∃ z, FX9_isRule (g9_rules bm) x1 = z := ⟨_, rfl⟩
  have hE := hE.trans (bnd_eq ht2)
  have hc := c_X9_isRule l G am bm x1 _ ht2
  refine zgoR (va_runV (As := [.int x1]) (rest := []) S (hc _) (cwV 1 S.2.2.2.2 gX9_strength_X9_isRule rfl rfl rfl (by decide +kernel) ⟨Nat.le_of_ble_eq_true rfl, Nat.le_of_ble_eq_true rfl⟩) (zpV hK hP hD (is := [0]) rfl rfl 0 rfl rfl (ci := 9) rfl) rfl rfl hl.1 rfl (lv_room (Nat.le_of_ble_eq_true rfl)) dX9_strength_2 ⟨Nat.zero_le _, Nat.zero_le _⟩) (fun hn2 => ?_)
  refine lv_if_eq (tgt := 18) hx hb dX9_strength_5 (by decide) (fun c5 => ?_) (fun c5 => ?_)
  · have hE := hE.trans (if_pos c5)
    refine lv_iconst (v := (-1)) hx hb dX9_strength_18 (by decide) ?_
    rw [show bm = (s9_undone (s9_done (s9_change (s9_over (s9_off (s9_strength (s9_rules (s9_facts bm (g9_facts bm)) (g9_rules bm)) (g9_strength bm)) (g9_off bm)) (g9_over bm)) (g9_change bm)) (g9_done bm)) (g9_undone bm)) from (((((((((se9_facts _).symm).trans (((se9_rules _).symm).trans (congrArg (fun v => s9_rules (s9_facts bm (g9_facts bm)) v) (gs9_rules_facts _ _)))).trans (((se9_strength _).symm).trans (congrArg (fun v => s9_strength (s9_rules (s9_facts bm (g9_facts bm)) (g9_rules bm)) v) ((gs9_strength_rules _ _).trans (gs9_strength_facts _ _))))).trans (((se9_off _).symm).trans (congrArg (fun v => s9_off (s9_strength (s9_rules (s9_facts bm (g9_facts bm)) (g9_rules bm)) (g9_strength bm)) v) ((gs9_off_strength _ _).trans ((gs9_off_rules _ _).trans (gs9_off_facts _ _)))))).trans (((se9_over _).symm).trans (congrArg (fun v => s9_over (s9_off (s9_strength (s9_rules (s9_facts bm (g9_facts bm)) (g9_rules bm)) (g9_strength bm)) (g9_off bm)) v) ((gs9_over_off _ _).trans ((gs9_over_strength _ _).trans ((gs9_over_rules _ _).trans (gs9_over_facts _ _))))))).trans (((se9_change _).symm).trans (congrArg (fun v => s9_change (s9_over (s9_off (s9_strength (s9_rules (s9_facts bm (g9_facts bm)) (g9_rules bm)) (g9_strength bm)) (g9_off bm)) (g9_over bm)) v) ((gs9_change_over _ _).trans ((gs9_change_off _ _).trans ((gs9_change_strength _ _).trans ((gs9_change_rules _ _).trans (gs9_change_facts _ _)))))))).trans (((se9_done _).symm).trans (congrArg (fun v => s9_done (s9_change (s9_over (s9_off (s9_strength (s9_rules (s9_facts bm (g9_facts bm)) (g9_rules bm)) (g9_strength bm)) (g9_off bm)) (g9_over bm)) (g9_change bm)) v) ((gs9_done_change _ _).trans ((gs9_done_over _ _).trans ((gs9_done_off _ _).trans ((gs9_done_strength _ _).trans ((gs9_done_rules _ _).trans (gs9_done_facts _ _))))))))).trans (((se9_undone _).symm).trans (congrArg (fun v => s9_undone (s9_done (s9_change (s9_over (s9_off (s9_strength (s9_rules (s9_facts bm (g9_facts bm)) (g9_rules bm)) (g9_strength bm)) (g9_off bm)) (g9_over bm)) (g9_change bm)) (g9_done bm)) v) ((gs9_undone_done _ _).trans ((gs9_undone_change _ _).trans ((gs9_undone_over _ _).trans ((gs9_undone_off _ _).trans ((gs9_undone_strength _ _).trans ((gs9_undone_rules _ _).trans (gs9_undone_facts _ _))))))))))] at hP hD
    exact hret _ _ _ _ _ _ (by subst hE; rfl) rfl hP hS dX9_strength_19
  · have hE := hE.trans (if_neg c5)
    have hx1_16 : vp_in x1 16 := zisRule hz_m_rules (by rw [ht2]; exact c5)
    refine lv_iload_n hx hb dX9_strength_8 rfl (lv_at hl 2 rfl) ?_
    refine lv_iconst (v := 0) hx hb dX9_strength_9 (by decide) ?_
    refine lv_bipush (v := 9) hx hb dX9_strength_10 (by decide) ?_
    obtain ⟨t12, ht12⟩ : ∃ z, FX9_in x2 0 9 = z := ⟨_, rfl⟩
    have hE := hE.trans (bnd_eq ht12)
    have hc := c_X9_in l G x2 0 9 _ ht12
    refine zgoR (va_runS (As := [.int x2, .int 0, .int 9]) (rest := []) S (hc _) (va_cwS 3 S.2.2.2.2 gX9_strength_X9_in rfl rfl rfl (by decide +kernel) ⟨Nat.le_of_ble_eq_true rfl, Nat.le_of_ble_eq_true rfl⟩) (zpS hK hP hD (is := []) rfl rfl) rfl rfl hl.1 rfl (lv_room (Nat.le_of_ble_eq_true rfl)) dX9_strength_12 ⟨Nat.zero_le _, Nat.zero_le _⟩) (fun hn12 => ?_)
    refine lv_if_ne (tgt := 20) hx hb dX9_strength_15 (by decide) (fun c15 => ?_) (fun c15 => ?_)
    · have hE := hE.trans (if_neg c15)
      refine lv_aload_n hx hb dX9_strength_20 rfl (lv_at hl 0 rfl) ?_
      refine lv_iconst (v := 3) hx hb dX9_strength_21 (by decide) ?_
      refine lv_iload_n hx hb dX9_strength_22 rfl (lv_at hl 1 rfl) ?_
      refine lv_iconst (v := 0) hx hb dX9_strength_23 (by decide) ?_
      refine lv_aload_n hx hb dX9_strength_24 rfl (lv_at hl 0 rfl) ?_
      refine zg9_strength S in_X9_strength_9 hK hP 0 rfl (List.mem_of_getElem? (i := 1) rfl) dX9_strength_25 ?_
      refine lv_iload_n hx hb dX9_strength_28 rfl (lv_at hl 1 rfl) ?_
      refine zl9_strength S hK hP 0 rfl hx1_16 (f := (g9_strength bm)) rfl dX9_strength_29 ?_
      refine lv_iload_n hx hb dX9_strength_30 rfl (lv_at hl 2 rfl) ?_
      obtain ⟨t31, ht31⟩ : ∃ z, FX9_does (g9_facts bm) (g9_rules bm) (g9_strength bm) (g9_off bm) (g9_over bm) (g9_change bm) (g9_done bm) (g9_undone bm) 3 x1 0 ((g9_strength bm) x1.toNatClampNeg) x2 = z := ⟨_, rfl⟩
      have hE := hE.trans (bnd_eq ht31)
      have hc := c_X9_does l G am bm 3 x1 0 ((g9_strength bm) x1.toNatClampNeg) x2 (hd_m_done) _ ht31
      refine zgoI (bs' := [w9 G am (s9_undone (s9_done (s9_change (s9_over (s9_off (s9_strength (s9_rules (s9_facts bm t31.2.1) t31.2.2.1) t31.2.2.2.1) t31.2.2.2.2.1) t31.2.2.2.2.2.1) t31.2.2.2.2.2.2.1) t31.2.2.2.2.2.2.2.1) t31.2.2.2.2.2.2.2.2)]) hc [0] rfl rfl rfl hP hD hS hA (va_runV (As := [.int 3, .int x1, .int 0, .int ((g9_strength bm) x1.toNatClampNeg), .int x2]) (rest := []) S (hc.2 _) (cwV 5 S.2.2.2.2 gX9_strength_X9_does rfl rfl rfl (by decide +kernel) ⟨Nat.le_of_ble_eq_true rfl, Nat.le_of_ble_eq_true rfl⟩) (zpV hK hP hD (is := [0]) rfl rfl 0 rfl rfl (ci := 9) rfl) rfl rfl hl.1 rfl (lv_room (Nat.le_of_ble_eq_true rfl)) dX9_strength_31 ⟨Nat.zero_le _, Nat.zero_le _⟩) (fun H locs hn31 hP hD hS => ?_)
      exact hret _ _ _ _ _ _ (by subst hE; rfl) rfl hP hS dX9_strength_34
    · have hE := hE.trans (if_pos c15)
      refine lv_iconst (v := (-1)) hx hb dX9_strength_18 (by decide) ?_
      rw [show bm = (s9_undone (s9_done (s9_change (s9_over (s9_off (s9_strength (s9_rules (s9_facts bm (g9_facts bm)) (g9_rules bm)) (g9_strength bm)) (g9_off bm)) (g9_over bm)) (g9_change bm)) (g9_done bm)) (g9_undone bm)) from (((((((((se9_facts _).symm).trans (((se9_rules _).symm).trans (congrArg (fun v => s9_rules (s9_facts bm (g9_facts bm)) v) (gs9_rules_facts _ _)))).trans (((se9_strength _).symm).trans (congrArg (fun v => s9_strength (s9_rules (s9_facts bm (g9_facts bm)) (g9_rules bm)) v) ((gs9_strength_rules _ _).trans (gs9_strength_facts _ _))))).trans (((se9_off _).symm).trans (congrArg (fun v => s9_off (s9_strength (s9_rules (s9_facts bm (g9_facts bm)) (g9_rules bm)) (g9_strength bm)) v) ((gs9_off_strength _ _).trans ((gs9_off_rules _ _).trans (gs9_off_facts _ _)))))).trans (((se9_over _).symm).trans (congrArg (fun v => s9_over (s9_off (s9_strength (s9_rules (s9_facts bm (g9_facts bm)) (g9_rules bm)) (g9_strength bm)) (g9_off bm)) v) ((gs9_over_off _ _).trans ((gs9_over_strength _ _).trans ((gs9_over_rules _ _).trans (gs9_over_facts _ _))))))).trans (((se9_change _).symm).trans (congrArg (fun v => s9_change (s9_over (s9_off (s9_strength (s9_rules (s9_facts bm (g9_facts bm)) (g9_rules bm)) (g9_strength bm)) (g9_off bm)) (g9_over bm)) v) ((gs9_change_over _ _).trans ((gs9_change_off _ _).trans ((gs9_change_strength _ _).trans ((gs9_change_rules _ _).trans (gs9_change_facts _ _)))))))).trans (((se9_done _).symm).trans (congrArg (fun v => s9_done (s9_change (s9_over (s9_off (s9_strength (s9_rules (s9_facts bm (g9_facts bm)) (g9_rules bm)) (g9_strength bm)) (g9_off bm)) (g9_over bm)) (g9_change bm)) v) ((gs9_done_change _ _).trans ((gs9_done_over _ _).trans ((gs9_done_off _ _).trans ((gs9_done_strength _ _).trans ((gs9_done_rules _ _).trans (gs9_done_facts _ _))))))))).trans (((se9_undone _).symm).trans (congrArg (fun v => s9_undone (s9_done (s9_change (s9_over (s9_off (s9_strength (s9_rules (s9_facts bm (g9_facts bm)) (g9_rules bm)) (g9_strength bm)) (g9_off bm)) (g9_over bm)) (g9_change bm)) (g9_done bm)) v) ((gs9_undone_done _ _).trans ((gs9_undone_change _ _).trans ((gs9_undone_over _ _).trans ((gs9_undone_off _ _).trans ((gs9_undone_strength _ _).trans ((gs9_undone_rules _ _).trans (gs9_undone_facts _ _))))))))))] at hP hD
      exact hret _ _ _ _ _ _ (by subst hE; rfl) rfl hP hS dX9_strength_19

theorem in_X9_over_9 : ∀ w ∈ u_ws RX9 TX9 40, w ∈ wsX9_over := by decide +kernel
def rmX9_over : Room := { frames := 2, cells := 0, slots := 0, locals := 51 }
set_option maxHeartbeats 4000000 in
set_option maxRecDepth 100000 in
theorem c_X9_over (l : Launch) (G : zG) (am : Nat → Nat) (bm : S9) (x1 : Int32) (x2 : Int32) (x3 : Int32) (hd_m_done : ∃ N : Nat, N ≤ 12 ∧ g9_done bm = nI N) (T : Int32 × (Int32) × (Int32) × (Nat → Int32) × (Nat → Int32) × (Nat → Int32) × (Nat → Int32) × (Int32) × (Int32)) (hT : FX9_over (g9_facts bm) (g9_rules bm) (g9_strength bm) (g9_off bm) (g9_over bm) (g9_change bm) (g9_done bm) (g9_undone bm) x1 x2 x3 = T) : zI l yX9_over wsX9_over rmX9_over .int G [.ref (am 0), .int x1, .int x2, .int x3] [w9 G am bm] T.1 [w9 G am (s9_undone (s9_done (s9_change (s9_over (s9_off (s9_strength (s9_rules (s9_facts bm T.2.1) T.2.2.1) T.2.2.2.1) T.2.2.2.2.1) T.2.2.2.2.2.1) T.2.2.2.2.2.2.1) T.2.2.2.2.2.2.2.1) T.2.2.2.2.2.2.2.2)] := by
  refine zI.mk (cc := cX9_over) (maxL := 4) (by decide +kernel) rfl (Nat.le_of_ble_eq_true rfl) (zfl_cons (wf9 _ _ _ _) rfl) ?_
  intro p e s m args below meth c Q A ls S hK hD hA hP hl hret
  have hx := S.1
  have hb := S.2.1
  have hS : va_S A s.heap s.heap [] := va_S.rf
  have hl : lv_has ls 4 [(0, .ref (am 0)), (1, .int x1), (2, .int x2), (3, .int x3)] := hl
  have hE := hT.symm.trans (FX9_over.eq_1 _ _ _ _ _ _ _ _ _ _ _)
  refine lv_aload_n hx hb dX9_over_0 rfl (lv_at hl 0 rfl) ?_
  refine lv_iload_n hx hb dX9_over_1 rfl (lv_at hl 1 rfl) ?_
  obtain ⟨t2, ht2⟩ : ∃ z, FX9_isRule (g9_rules bm) x1 = z := ⟨_, rfl⟩
  have hE := hE.trans (bnd_eq ht2)
  have hc := c_X9_isRule l G am bm x1 _ ht2
  refine zgoR (va_runV (As := [.int x1]) (rest := []) S (hc _) (cwV 1 S.2.2.2.2 gX9_over_X9_isRule rfl rfl rfl (by decide +kernel) ⟨Nat.le_of_ble_eq_true rfl, Nat.le_of_ble_eq_true rfl⟩) (zpV hK hP hD (is := [0]) rfl rfl 0 rfl rfl (ci := 9) rfl) rfl rfl hl.1 rfl (lv_room (Nat.le_of_ble_eq_true rfl)) dX9_over_2 ⟨Nat.zero_le _, Nat.zero_le _⟩) (fun hn2 => ?_)
  refine lv_if_eq (tgt := 28) hx hb dX9_over_5 (by decide) (fun c5 => ?_) (fun c5 => ?_)
  · have hE := hE.trans (if_pos c5)
    refine lv_iconst (v := (-1)) hx hb dX9_over_28 (by decide) ?_
    rw [show bm = (s9_undone (s9_done (s9_change (s9_over (s9_off (s9_strength (s9_rules (s9_facts bm (g9_facts bm)) (g9_rules bm)) (g9_strength bm)) (g9_off bm)) (g9_over bm)) (g9_change bm)) (g9_done bm)) (g9_undone bm)) from (((((((((se9_facts _).symm).trans (((se9_rules _).symm).trans (congrArg (fun v => s9_rules (s9_facts bm (g9_facts bm)) v) (gs9_rules_facts _ _)))).trans (((se9_strength _).symm).trans (congrArg (fun v => s9_strength (s9_rules (s9_facts bm (g9_facts bm)) (g9_rules bm)) v) ((gs9_strength_rules _ _).trans (gs9_strength_facts _ _))))).trans (((se9_off _).symm).trans (congrArg (fun v => s9_off (s9_strength (s9_rules (s9_facts bm (g9_facts bm)) (g9_rules bm)) (g9_strength bm)) v) ((gs9_off_strength _ _).trans ((gs9_off_rules _ _).trans (gs9_off_facts _ _)))))).trans (((se9_over _).symm).trans (congrArg (fun v => s9_over (s9_off (s9_strength (s9_rules (s9_facts bm (g9_facts bm)) (g9_rules bm)) (g9_strength bm)) (g9_off bm)) v) ((gs9_over_off _ _).trans ((gs9_over_strength _ _).trans ((gs9_over_rules _ _).trans (gs9_over_facts _ _))))))).trans (((se9_change _).symm).trans (congrArg (fun v => s9_change (s9_over (s9_off (s9_strength (s9_rules (s9_facts bm (g9_facts bm)) (g9_rules bm)) (g9_strength bm)) (g9_off bm)) (g9_over bm)) v) ((gs9_change_over _ _).trans ((gs9_change_off _ _).trans ((gs9_change_strength _ _).trans ((gs9_change_rules _ _).trans (gs9_change_facts _ _)))))))).trans (((se9_done _).symm).trans (congrArg (fun v => s9_done (s9_change (s9_over (s9_off (s9_strength (s9_rules (s9_facts bm (g9_facts bm)) (g9_rules bm)) (g9_strength bm)) (g9_off bm)) (g9_over bm)) (g9_change bm)) v) ((gs9_done_change _ _).trans ((gs9_done_over _ _).trans ((gs9_done_off _ _).trans ((gs9_done_strength _ _).trans ((gs9_done_rules _ _).trans (gs9_done_facts _ _))))))))).trans (((se9_undone _).symm).trans (congrArg (fun v => s9_undone (s9_done (s9_change (s9_over (s9_off (s9_strength (s9_rules (s9_facts bm (g9_facts bm)) (g9_rules bm)) (g9_strength bm)) (g9_off bm)) (g9_over bm)) (g9_change bm)) (g9_done bm)) v) ((gs9_undone_done _ _).trans ((gs9_undone_change _ _).trans ((gs9_undone_over _ _).trans ((gs9_undone_off _ _).trans ((gs9_undone_strength _ _).trans ((gs9_undone_rules _ _).trans (gs9_undone_facts _ _))))))))))] at hP hD
    exact hret _ _ _ _ _ _ (by subst hE; rfl) rfl hP hS dX9_over_29
  · have hE := hE.trans (if_neg c5)
    have hx1_16 : vp_in x1 16 := zisRule hz_m_rules (by rw [ht2]; exact c5)
    refine lv_aload_n hx hb dX9_over_8 rfl (lv_at hl 0 rfl) ?_
    refine lv_iload_n hx hb dX9_over_9 rfl (lv_at hl 2 rfl) ?_
    obtain ⟨t10, ht10⟩ : ∃ z, FX9_isRule (g9_rules bm) x2 = z := ⟨_, rfl⟩
    have hE := hE.trans (bnd_eq ht10)
    have hc := c_X9_isRule l G am bm x2 _ ht10
    refine zgoR (va_runV (As := [.int x2]) (rest := []) S (hc _) (cwV 1 S.2.2.2.2 gX9_over_X9_isRule rfl rfl rfl (by decide +kernel) ⟨Nat.le_of_ble_eq_true rfl, Nat.le_of_ble_eq_true rfl⟩) (zpV hK hP hD (is := [0]) rfl rfl 0 rfl rfl (ci := 9) rfl) rfl rfl hl.1 rfl (lv_room (Nat.le_of_ble_eq_true rfl)) dX9_over_10 ⟨Nat.zero_le _, Nat.zero_le _⟩) (fun hn10 => ?_)
    refine lv_if_eq (tgt := 28) hx hb dX9_over_13 (by decide) (fun c13 => ?_) (fun c13 => ?_)
    · have hE := hE.trans (if_pos c13)
      refine lv_iconst (v := (-1)) hx hb dX9_over_28 (by decide) ?_
      rw [show bm = (s9_undone (s9_done (s9_change (s9_over (s9_off (s9_strength (s9_rules (s9_facts bm (g9_facts bm)) (g9_rules bm)) (g9_strength bm)) (g9_off bm)) (g9_over bm)) (g9_change bm)) (g9_done bm)) (g9_undone bm)) from (((((((((se9_facts _).symm).trans (((se9_rules _).symm).trans (congrArg (fun v => s9_rules (s9_facts bm (g9_facts bm)) v) (gs9_rules_facts _ _)))).trans (((se9_strength _).symm).trans (congrArg (fun v => s9_strength (s9_rules (s9_facts bm (g9_facts bm)) (g9_rules bm)) v) ((gs9_strength_rules _ _).trans (gs9_strength_facts _ _))))).trans (((se9_off _).symm).trans (congrArg (fun v => s9_off (s9_strength (s9_rules (s9_facts bm (g9_facts bm)) (g9_rules bm)) (g9_strength bm)) v) ((gs9_off_strength _ _).trans ((gs9_off_rules _ _).trans (gs9_off_facts _ _)))))).trans (((se9_over _).symm).trans (congrArg (fun v => s9_over (s9_off (s9_strength (s9_rules (s9_facts bm (g9_facts bm)) (g9_rules bm)) (g9_strength bm)) (g9_off bm)) v) ((gs9_over_off _ _).trans ((gs9_over_strength _ _).trans ((gs9_over_rules _ _).trans (gs9_over_facts _ _))))))).trans (((se9_change _).symm).trans (congrArg (fun v => s9_change (s9_over (s9_off (s9_strength (s9_rules (s9_facts bm (g9_facts bm)) (g9_rules bm)) (g9_strength bm)) (g9_off bm)) (g9_over bm)) v) ((gs9_change_over _ _).trans ((gs9_change_off _ _).trans ((gs9_change_strength _ _).trans ((gs9_change_rules _ _).trans (gs9_change_facts _ _)))))))).trans (((se9_done _).symm).trans (congrArg (fun v => s9_done (s9_change (s9_over (s9_off (s9_strength (s9_rules (s9_facts bm (g9_facts bm)) (g9_rules bm)) (g9_strength bm)) (g9_off bm)) (g9_over bm)) (g9_change bm)) v) ((gs9_done_change _ _).trans ((gs9_done_over _ _).trans ((gs9_done_off _ _).trans ((gs9_done_strength _ _).trans ((gs9_done_rules _ _).trans (gs9_done_facts _ _))))))))).trans (((se9_undone _).symm).trans (congrArg (fun v => s9_undone (s9_done (s9_change (s9_over (s9_off (s9_strength (s9_rules (s9_facts bm (g9_facts bm)) (g9_rules bm)) (g9_strength bm)) (g9_off bm)) (g9_over bm)) (g9_change bm)) (g9_done bm)) v) ((gs9_undone_done _ _).trans ((gs9_undone_change _ _).trans ((gs9_undone_over _ _).trans ((gs9_undone_off _ _).trans ((gs9_undone_strength _ _).trans ((gs9_undone_rules _ _).trans (gs9_undone_facts _ _))))))))))] at hP hD
      exact hret _ _ _ _ _ _ (by subst hE; rfl) rfl hP hS dX9_over_29
    · have hE := hE.trans (if_neg c13)
      have hx2_16 : vp_in x2 16 := zisRule hz_m_rules (by rw [ht10]; exact c13)
      refine lv_iload_n hx hb dX9_over_16 rfl (lv_at hl 1 rfl) ?_
      refine lv_iload_n hx hb dX9_over_17 rfl (lv_at hl 2 rfl) ?_
      refine lv_icmp_eq (tgt := 28) hx hb dX9_over_18 (by decide) (fun c18 => ?_) (fun c18 => ?_)
      · have hE := hE.trans (if_pos c18)
        refine lv_iconst (v := (-1)) hx hb dX9_over_28 (by decide) ?_
        rw [show bm = (s9_undone (s9_done (s9_change (s9_over (s9_off (s9_strength (s9_rules (s9_facts bm (g9_facts bm)) (g9_rules bm)) (g9_strength bm)) (g9_off bm)) (g9_over bm)) (g9_change bm)) (g9_done bm)) (g9_undone bm)) from (((((((((se9_facts _).symm).trans (((se9_rules _).symm).trans (congrArg (fun v => s9_rules (s9_facts bm (g9_facts bm)) v) (gs9_rules_facts _ _)))).trans (((se9_strength _).symm).trans (congrArg (fun v => s9_strength (s9_rules (s9_facts bm (g9_facts bm)) (g9_rules bm)) v) ((gs9_strength_rules _ _).trans (gs9_strength_facts _ _))))).trans (((se9_off _).symm).trans (congrArg (fun v => s9_off (s9_strength (s9_rules (s9_facts bm (g9_facts bm)) (g9_rules bm)) (g9_strength bm)) v) ((gs9_off_strength _ _).trans ((gs9_off_rules _ _).trans (gs9_off_facts _ _)))))).trans (((se9_over _).symm).trans (congrArg (fun v => s9_over (s9_off (s9_strength (s9_rules (s9_facts bm (g9_facts bm)) (g9_rules bm)) (g9_strength bm)) (g9_off bm)) v) ((gs9_over_off _ _).trans ((gs9_over_strength _ _).trans ((gs9_over_rules _ _).trans (gs9_over_facts _ _))))))).trans (((se9_change _).symm).trans (congrArg (fun v => s9_change (s9_over (s9_off (s9_strength (s9_rules (s9_facts bm (g9_facts bm)) (g9_rules bm)) (g9_strength bm)) (g9_off bm)) (g9_over bm)) v) ((gs9_change_over _ _).trans ((gs9_change_off _ _).trans ((gs9_change_strength _ _).trans ((gs9_change_rules _ _).trans (gs9_change_facts _ _)))))))).trans (((se9_done _).symm).trans (congrArg (fun v => s9_done (s9_change (s9_over (s9_off (s9_strength (s9_rules (s9_facts bm (g9_facts bm)) (g9_rules bm)) (g9_strength bm)) (g9_off bm)) (g9_over bm)) (g9_change bm)) v) ((gs9_done_change _ _).trans ((gs9_done_over _ _).trans ((gs9_done_off _ _).trans ((gs9_done_strength _ _).trans ((gs9_done_rules _ _).trans (gs9_done_facts _ _))))))))).trans (((se9_undone _).symm).trans (congrArg (fun v => s9_undone (s9_done (s9_change (s9_over (s9_off (s9_strength (s9_rules (s9_facts bm (g9_facts bm)) (g9_rules bm)) (g9_strength bm)) (g9_off bm)) (g9_over bm)) (g9_change bm)) (g9_done bm)) v) ((gs9_undone_done _ _).trans ((gs9_undone_change _ _).trans ((gs9_undone_over _ _).trans ((gs9_undone_off _ _).trans ((gs9_undone_strength _ _).trans ((gs9_undone_rules _ _).trans (gs9_undone_facts _ _))))))))))] at hP hD
        exact hret _ _ _ _ _ _ (by subst hE; rfl) rfl hP hS dX9_over_29
      · have hE := hE.trans (if_neg c18)
        refine lv_iload_n hx hb dX9_over_21 rfl (lv_at hl 3 rfl) ?_
        obtain ⟨t22, ht22⟩ : ∃ z, FX9_isBit x3 = z := ⟨_, rfl⟩
        have hE := hE.trans (bnd_eq ht22)
        have hc := c_X9_isBit l G x3 _ ht22
        refine zgoR (va_runS (As := [.int x3]) (rest := []) S (hc _) (va_cwS 1 S.2.2.2.2 gX9_over_X9_isBit rfl rfl rfl (by decide +kernel) ⟨Nat.le_of_ble_eq_true rfl, Nat.le_of_ble_eq_true rfl⟩) (zpS hK hP hD (is := []) rfl rfl) rfl rfl hl.1 rfl (lv_room (Nat.le_of_ble_eq_true rfl)) dX9_over_22 ⟨Nat.zero_le _, Nat.zero_le _⟩) (fun hn22 => ?_)
        refine lv_if_ne (tgt := 30) hx hb dX9_over_25 (by decide) (fun c25 => ?_) (fun c25 => ?_)
        · have hE := hE.trans (if_neg c25)
          refine lv_iload_n hx hb dX9_over_30 rfl (lv_at hl 3 rfl) ?_
          refine lv_iconst (v := 1) hx hb dX9_over_31 (by decide) ?_
          have hB51 : ∀ (H : Heap) (locs : List Loc) (ls : Array Slot), T = FX9_over_51 (g9_facts bm) (g9_rules bm) (g9_strength bm) (g9_off bm) (g9_over bm) (g9_change bm) (g9_done bm) (g9_undone bm) x1 x2 x3 (g9_facts bm) (g9_rules bm) (g9_strength bm) (g9_off bm) (g9_over bm) (g9_change bm) (g9_done bm) (g9_undone bm) → zP G [w9 G am bm] H → zD A [w9 G am bm] → va_S A s.heap H locs → lv_has ls 4 [(0, .ref (am 0)), (1, .int x1), (2, .int x2), (3, .int x3)] → W p l e rmX9_over s m args below meth c H locs 0 0 Q (F0 m 51 ls []) := by
            intro H locs ls hE hP hD hS hl
            have hE := hE.trans (FX9_over_51.eq_1 _ _ _ _ _ _ _ _ _ _ _ _ _ _ _ _ _ _ _)
            refine lv_aload_n hx hb dX9_over_51 rfl (lv_at hl 0 rfl) ?_
            refine lv_iconst (v := 4) hx hb dX9_over_52 (by decide) ?_
            refine lv_iload_n hx hb dX9_over_53 rfl (lv_at hl 1 rfl) ?_
            refine lv_iload_n hx hb dX9_over_54 rfl (lv_at hl 2 rfl) ?_
            refine lv_aload_n hx hb dX9_over_55 rfl (lv_at hl 0 rfl) ?_
            refine zg9_over S in_X9_over_9 hK hP 0 rfl (List.mem_of_getElem? (i := 1) rfl) dX9_over_56 ?_
            refine lv_iload_n hx hb dX9_over_59 rfl (lv_at hl 1 rfl) ?_
            refine zl9_over S hK hP 0 rfl hx1_16 (f := (g9_over bm)) rfl dX9_over_60 ?_
            refine lv_iload_n hx hb dX9_over_61 rfl (lv_at hl 2 rfl) ?_
            refine lv_ishr hx hb dX9_over_62 ?_
            refine lv_iconst (v := 1) hx hb dX9_over_63 (by decide) ?_
            refine lv_iand hx hb dX9_over_64 ?_
            refine lv_iload_n hx hb dX9_over_65 rfl (lv_at hl 3 rfl) ?_
            obtain ⟨t66, ht66⟩ : ∃ z, FX9_does (g9_facts bm) (g9_rules bm) (g9_strength bm) (g9_off bm) (g9_over bm) (g9_change bm) (g9_done bm) (g9_undone bm) 4 x1 x2 ((((g9_over bm) x1.toNatClampNeg) >>> (x2 &&& 31)) &&& 1) x3 = z := ⟨_, rfl⟩
            have hE := hE.trans (bnd_eq ht66)
            have hc := c_X9_does l G am bm 4 x1 x2 ((((g9_over bm) x1.toNatClampNeg) >>> (x2 &&& 31)) &&& 1) x3 (hd_m_done) _ ht66
            refine zgoI (bs' := [w9 G am (s9_undone (s9_done (s9_change (s9_over (s9_off (s9_strength (s9_rules (s9_facts bm t66.2.1) t66.2.2.1) t66.2.2.2.1) t66.2.2.2.2.1) t66.2.2.2.2.2.1) t66.2.2.2.2.2.2.1) t66.2.2.2.2.2.2.2.1) t66.2.2.2.2.2.2.2.2)]) hc [0] rfl rfl rfl hP hD hS hA (va_runV (As := [.int 4, .int x1, .int x2, .int ((((g9_over bm) x1.toNatClampNeg) >>> (x2 &&& 31)) &&& 1), .int x3]) (rest := []) S (hc.2 _) (cwV 5 S.2.2.2.2 gX9_over_X9_does rfl rfl rfl (by decide +kernel) ⟨Nat.le_of_ble_eq_true rfl, Nat.le_of_ble_eq_true rfl⟩) (zpV hK hP hD (is := [0]) rfl rfl 0 rfl rfl (ci := 9) rfl) rfl rfl hl.1 rfl (lv_room (Nat.le_of_ble_eq_true rfl)) dX9_over_66 ⟨Nat.zero_le _, Nat.zero_le _⟩) (fun H locs hn66 hP hD hS => ?_)
            exact hret _ _ _ _ _ _ (by subst hE; rfl) rfl hP hS dX9_over_69
          refine lv_icmp_ne (tgt := 51) hx hb dX9_over_32 (by decide) (fun c32 => ?_) (fun c32 => ?_)
          · have hE := hE.trans (if_neg c32)
            exact hB51 _ _ _ hE hP hD hS (lv_sub hl [0, 1, 2, 3] rfl)
          · have hE := hE.trans (if_pos c32)
            refine lv_aload_n hx hb dX9_over_35 rfl (lv_at hl 0 rfl) ?_
            refine zg9_over S in_X9_over_9 hK hP 0 rfl (List.mem_of_getElem? (i := 1) rfl) dX9_over_36 ?_
            refine lv_iload_n hx hb dX9_over_39 rfl (lv_at hl 2 rfl) ?_
            refine zl9_over S hK hP 0 rfl hx2_16 (f := (g9_over bm)) rfl dX9_over_40 ?_
            refine lv_iload_n hx hb dX9_over_41 rfl (lv_at hl 1 rfl) ?_
            obtain ⟨t42, ht42⟩ : ∃ z, FX9_has ((g9_over bm) x2.toNatClampNeg) x1 = z := ⟨_, rfl⟩
            have hE := hE.trans (bnd_eq ht42)
            have hc := c_X9_has l G ((g9_over bm) x2.toNatClampNeg) x1 _ ht42
            refine zgoR (va_runS (As := [.int ((g9_over bm) x2.toNatClampNeg), .int x1]) (rest := []) S (hc _) (va_cwS 2 S.2.2.2.2 gX9_over_X9_has rfl rfl rfl (by decide +kernel) ⟨Nat.le_of_ble_eq_true rfl, Nat.le_of_ble_eq_true rfl⟩) (zpS hK hP hD (is := []) rfl rfl) rfl rfl hl.1 rfl (lv_room (Nat.le_of_ble_eq_true rfl)) dX9_over_42 ⟨Nat.zero_le _, Nat.zero_le _⟩) (fun hn42 => ?_)
            refine lv_if_eq (tgt := 51) hx hb dX9_over_45 (by decide) (fun c45 => ?_) (fun c45 => ?_)
            · have hE := hE.trans (if_pos c45)
              exact hB51 _ _ _ hE hP hD hS (lv_sub hl [0, 1, 2, 3] rfl)
            · have hE := hE.trans (if_neg c45)
              refine lv_bipush (v := (-5)) hx hb dX9_over_48 (by decide) ?_
              rw [show bm = (s9_undone (s9_done (s9_change (s9_over (s9_off (s9_strength (s9_rules (s9_facts bm (g9_facts bm)) (g9_rules bm)) (g9_strength bm)) (g9_off bm)) (g9_over bm)) (g9_change bm)) (g9_done bm)) (g9_undone bm)) from (((((((((se9_facts _).symm).trans (((se9_rules _).symm).trans (congrArg (fun v => s9_rules (s9_facts bm (g9_facts bm)) v) (gs9_rules_facts _ _)))).trans (((se9_strength _).symm).trans (congrArg (fun v => s9_strength (s9_rules (s9_facts bm (g9_facts bm)) (g9_rules bm)) v) ((gs9_strength_rules _ _).trans (gs9_strength_facts _ _))))).trans (((se9_off _).symm).trans (congrArg (fun v => s9_off (s9_strength (s9_rules (s9_facts bm (g9_facts bm)) (g9_rules bm)) (g9_strength bm)) v) ((gs9_off_strength _ _).trans ((gs9_off_rules _ _).trans (gs9_off_facts _ _)))))).trans (((se9_over _).symm).trans (congrArg (fun v => s9_over (s9_off (s9_strength (s9_rules (s9_facts bm (g9_facts bm)) (g9_rules bm)) (g9_strength bm)) (g9_off bm)) v) ((gs9_over_off _ _).trans ((gs9_over_strength _ _).trans ((gs9_over_rules _ _).trans (gs9_over_facts _ _))))))).trans (((se9_change _).symm).trans (congrArg (fun v => s9_change (s9_over (s9_off (s9_strength (s9_rules (s9_facts bm (g9_facts bm)) (g9_rules bm)) (g9_strength bm)) (g9_off bm)) (g9_over bm)) v) ((gs9_change_over _ _).trans ((gs9_change_off _ _).trans ((gs9_change_strength _ _).trans ((gs9_change_rules _ _).trans (gs9_change_facts _ _)))))))).trans (((se9_done _).symm).trans (congrArg (fun v => s9_done (s9_change (s9_over (s9_off (s9_strength (s9_rules (s9_facts bm (g9_facts bm)) (g9_rules bm)) (g9_strength bm)) (g9_off bm)) (g9_over bm)) (g9_change bm)) v) ((gs9_done_change _ _).trans ((gs9_done_over _ _).trans ((gs9_done_off _ _).trans ((gs9_done_strength _ _).trans ((gs9_done_rules _ _).trans (gs9_done_facts _ _))))))))).trans (((se9_undone _).symm).trans (congrArg (fun v => s9_undone (s9_done (s9_change (s9_over (s9_off (s9_strength (s9_rules (s9_facts bm (g9_facts bm)) (g9_rules bm)) (g9_strength bm)) (g9_off bm)) (g9_over bm)) (g9_change bm)) (g9_done bm)) v) ((gs9_undone_done _ _).trans ((gs9_undone_change _ _).trans ((gs9_undone_over _ _).trans ((gs9_undone_off _ _).trans ((gs9_undone_strength _ _).trans ((gs9_undone_rules _ _).trans (gs9_undone_facts _ _))))))))))] at hP hD
              exact hret _ _ _ _ _ _ (by subst hE; rfl) rfl hP hS dX9_over_50
        · have hE := hE.trans (if_pos c25)
          refine lv_iconst (v := (-1)) hx hb dX9_over_28 (by decide) ?_
          rw [show bm = (s9_undone (s9_done (s9_change (s9_over (s9_off (s9_strength (s9_rules (s9_facts bm (g9_facts bm)) (g9_rules bm)) (g9_strength bm)) (g9_off bm)) (g9_over bm)) (g9_change bm)) (g9_done bm)) (g9_undone bm)) from (((((((((se9_facts _).symm).trans (((se9_rules _).symm).trans (congrArg (fun v => s9_rules (s9_facts bm (g9_facts bm)) v) (gs9_rules_facts _ _)))).trans (((se9_strength _).symm).trans (congrArg (fun v => s9_strength (s9_rules (s9_facts bm (g9_facts bm)) (g9_rules bm)) v) ((gs9_strength_rules _ _).trans (gs9_strength_facts _ _))))).trans (((se9_off _).symm).trans (congrArg (fun v => s9_off (s9_strength (s9_rules (s9_facts bm (g9_facts bm)) (g9_rules bm)) (g9_strength bm)) v) ((gs9_off_strength _ _).trans ((gs9_off_rules _ _).trans (gs9_off_facts _ _)))))).trans (((se9_over _).symm).trans (congrArg (fun v => s9_over (s9_off (s9_strength (s9_rules (s9_facts bm (g9_facts bm)) (g9_rules bm)) (g9_strength bm)) (g9_off bm)) v) ((gs9_over_off _ _).trans ((gs9_over_strength _ _).trans ((gs9_over_rules _ _).trans (gs9_over_facts _ _))))))).trans (((se9_change _).symm).trans (congrArg (fun v => s9_change (s9_over (s9_off (s9_strength (s9_rules (s9_facts bm (g9_facts bm)) (g9_rules bm)) (g9_strength bm)) (g9_off bm)) (g9_over bm)) v) ((gs9_change_over _ _).trans ((gs9_change_off _ _).trans ((gs9_change_strength _ _).trans ((gs9_change_rules _ _).trans (gs9_change_facts _ _)))))))).trans (((se9_done _).symm).trans (congrArg (fun v => s9_done (s9_change (s9_over (s9_off (s9_strength (s9_rules (s9_facts bm (g9_facts bm)) (g9_rules bm)) (g9_strength bm)) (g9_off bm)) (g9_over bm)) (g9_change bm)) v) ((gs9_done_change _ _).trans ((gs9_done_over _ _).trans ((gs9_done_off _ _).trans ((gs9_done_strength _ _).trans ((gs9_done_rules _ _).trans (gs9_done_facts _ _))))))))).trans (((se9_undone _).symm).trans (congrArg (fun v => s9_undone (s9_done (s9_change (s9_over (s9_off (s9_strength (s9_rules (s9_facts bm (g9_facts bm)) (g9_rules bm)) (g9_strength bm)) (g9_off bm)) (g9_over bm)) (g9_change bm)) (g9_done bm)) v) ((gs9_undone_done _ _).trans ((gs9_undone_change _ _).trans ((gs9_undone_over _ _).trans ((gs9_undone_off _ _).trans ((gs9_undone_strength _ _).trans ((gs9_undone_rules _ _).trans (gs9_undone_facts _ _))))))))))] at hP hD
          exact hret _ _ _ _ _ _ (by subst hE; rfl) rfl hP hS dX9_over_29

theorem zdn_over {f r d u x1 x2 x3 : Int32} {s o v c : Nat → Int32} (h : ∃ N : Nat, N ≤ 12 ∧ d = nI N) : ∃ N : Nat, N ≤ 12 ∧ (FX9_over f r s o v c d u x1 x2 x3).2.2.2.2.2.2.2.1 = nI N := by
  simp only [FX9_over, FX9_over_51, bnd]
  repeat' split
  all_goals first | exact h | exact zdn_does h
theorem zru_over {f r d u x1 x2 x3 : Int32} {s o v c : Nat → Int32} : (FX9_over f r s o v c d u x1 x2 x3).2.2.1 = r := by
  simp only [FX9_over, FX9_over_51, bnd]
  repeat' split
  all_goals first | rfl | exact zru_does (by decide)

theorem in_X9_keeps_9 : ∀ w ∈ u_ws RX9 TX9 40, w ∈ wsX9_keeps := by decide +kernel
def rmX9_keeps_before : Room := { frames := 0, cells := 0, slots := 0, locals := 0 }
set_option maxHeartbeats 4000000 in
set_option maxRecDepth 100000 in
theorem c_X9_keeps_before (l : Launch) (G : zG) (am : Nat → Nat) (bm : S9) (T : (Nat → Int32)) (hT : FX9_keeps_before (g9_facts bm) (g9_rules bm) (g9_kind bm) (g9_head bm) (g9_body bm) (g9_except bm) (g9_strength bm) (g9_off bm) (g9_over bm) (g9_before bm) = T) : zV l yX9_keeps wsX9_keeps rmX9_keeps_before G [.ref (am 0), .ref (am 14)] [w9 G am bm] [w9 G am (s9_before bm T)] := by
  refine zV.mk (cc := cX9_keeps) (maxL := 3) (by decide +kernel) rfl (Nat.le_of_ble_eq_true rfl) (zfl_cons (wf9 _ _ _ _) rfl) ?_
  intro p e s m args below meth c Q A ls S hK hD hA hP hl hret
  have hx := S.1
  have hb := S.2.1
  have hS : va_S A s.heap s.heap [] := va_S.rf
  have hl : lv_has ls 3 [(0, .ref (am 0)), (1, .ref (am 14))] := hl
  have hE := hT.symm.trans (FX9_keeps_before.eq_1 _ _ _ _ _ _ _ _ _ _)
  refine lv_iconst (v := 0) hx hb dX9_keeps_0 (by decide) ?_
  have hB95 : ∀ (m_before_95 : Nat → Int32) (H : Heap) (locs : List Loc) (ls : Array Slot), T = FX9_keeps_before_95 (g9_facts bm) (g9_rules bm) (g9_kind bm) (g9_head bm) (g9_body bm) (g9_except bm) (g9_strength bm) (g9_off bm) (g9_over bm) (g9_before bm) m_before_95 → zP G [w9 G am (s9_before bm m_before_95)] H → zD A [w9 G am (s9_before bm m_before_95)] → va_S A s.heap H locs → lv_has ls 3 [(0, .ref (am 0)), (1, .ref (am 14))] → W p l e rmX9_keeps_before s m args below meth c H locs 0 0 Q (F0 m 95 ls []) := by
    intro m_before_95 H locs ls hE hP hD hS hl
    have hE := hE.trans (FX9_keeps_before_95.eq_1 _ _ _ _ _ _ _ _ _ _ _)
    refine lv_aload_n hx hb dX9_keeps_95 rfl (lv_at hl 1 rfl) ?_
    refine lv_bipush (v := 112) hx hb dX9_keeps_96 (by decide) ?_
    refine lv_aload_n hx hb dX9_keeps_98 rfl (lv_at hl 0 rfl) ?_
    refine zg9_facts S in_X9_keeps_9 hK hP 0 rfl (List.mem_of_getElem? (i := 8) rfl) (v := (g9_facts bm)) (gs9_facts_before _ _) dX9_keeps_99 ?_
    refine zs9_before (bs1 := [w9 G am (s9_before (s9_before bm m_before_95) (upd m_before_95 (112 : Int32).toNatClampNeg (g9_facts bm)))]) S hK hP hD hS 0 rfl (zin_k (n := 112) rfl (by decide) (by decide)) (f := m_before_95) (gg9_before _ _) dX9_keeps_102 rfl (fun H locs hP hD hS => ?_)
    refine lv_aload_n hx hb dX9_keeps_103 rfl (lv_at hl 1 rfl) ?_
    refine lv_bipush (v := 113) hx hb dX9_keeps_104 (by decide) ?_
    refine lv_aload_n hx hb dX9_keeps_106 rfl (lv_at hl 0 rfl) ?_
    refine zg9_rules S in_X9_keeps_9 hK hP 0 rfl (List.mem_of_getElem? (i := 9) rfl) (v := (g9_rules bm)) ((gs9_rules_before _ _).trans (gs9_rules_before _ _)) dX9_keeps_107 ?_
    refine zs9_before (bs1 := [w9 G am (s9_before (s9_before (s9_before bm m_before_95) (upd m_before_95 (112 : Int32).toNatClampNeg (g9_facts bm))) (upd (upd m_before_95 (112 : Int32).toNatClampNeg (g9_facts bm)) (113 : Int32).toNatClampNeg (g9_rules bm)))]) S hK hP hD hS 0 rfl (zin_k (n := 113) rfl (by decide) (by decide)) (f := (upd m_before_95 (112 : Int32).toNatClampNeg (g9_facts bm))) (gg9_before _ _) dX9_keeps_110 rfl (fun H locs hP hD hS => ?_)
    rw [show (s9_before (s9_before (s9_before bm m_before_95) (upd m_before_95 (112 : Int32).toNatClampNeg (g9_facts bm))) (upd (upd m_before_95 (112 : Int32).toNatClampNeg (g9_facts bm)) (113 : Int32).toNatClampNeg (g9_rules bm))) = (s9_before bm (upd (upd m_before_95 (112 : Int32).toNatClampNeg (g9_facts bm)) (113 : Int32).toNatClampNeg (g9_rules bm))) from ((congrArg (fun z => s9_before z (upd (upd m_before_95 (112 : Int32).toNatClampNeg (g9_facts bm)) (113 : Int32).toNatClampNeg (g9_rules bm))) (ss9_before _ _ _)).trans (ss9_before _ _ _))] at hP hD
    exact hret _ _ _ _ _ (by subst hE; rfl) hP hS dX9_keeps_111
  have hB2 : ∀ (n2 : Nat) (i2_2 : Nat) (m_before_2 : Nat → Int32) (H : Heap) (locs : List Loc) (ls : Array Slot), (i2_2 ≤ 16) → 17 ≤ i2_2 + n2 → T = FX9_keeps_before_2 (g9_facts bm) (g9_rules bm) (g9_kind bm) (g9_head bm) (g9_body bm) (g9_except bm) (g9_strength bm) (g9_off bm) (g9_over bm) (g9_before bm) (FX9_keeps_before_95 (g9_facts bm) (g9_rules bm) (g9_kind bm) (g9_head bm) (g9_body bm) (g9_except bm) (g9_strength bm) (g9_off bm) (g9_over bm) (g9_before bm)) n2 (nI i2_2) m_before_2 → zP G [w9 G am (s9_before bm m_before_2)] H → zD A [w9 G am (s9_before bm m_before_2)] → va_S A s.heap H locs → lv_has ls 3 [(0, .ref (am 0)), (1, .ref (am 14)), (2, .int (nI i2_2))] → W p l e rmX9_keeps_before s m args below meth c H locs 0 0 Q (F0 m 2 ls []) := by
    intro n2
    induction n2 with
    | zero =>
      intro i2_2 m_before_2 H locs ls hi2_2 hn hE hP hD hS hl
      exact absurd hn (by omega)
    | succ n2 ih2 =>
      intro i2_2 m_before_2 H locs ls hi2_2 hn hE hP hD hS hl
      have hE := hE.trans (FX9_keeps_before_2.eq_2 _ _ _ _ _ _ _ _ _ _ _ _ _ _)
      refine lv_iload_n hx hb dX9_keeps_2 rfl (lv_at hl 2 rfl) ?_
      refine lv_bipush (v := 16) hx hb dX9_keeps_3 (by decide) ?_
      refine lv_icmp_ge (tgt := 95) hx hb dX9_keeps_5 (by decide) (fun c5 => ?_) (fun c5 => ?_)
      · have hE := hE.trans (if_pos c5)
        exact hB95 m_before_2 _ _ _ hE hP hD hS (lv_sub hl [0, 1] rfl)
      · have hE := hE.trans (if_neg c5)
        have hl2_2 : i2_2 < 16 := zlt (N := 16) rfl (by omega) (by omega) c5
        refine lv_aload_n hx hb dX9_keeps_8 rfl (lv_at hl 1 rfl) ?_
        refine lv_iload_n hx hb dX9_keeps_9 rfl (lv_at hl 2 rfl) ?_
        refine lv_aload_n hx hb dX9_keeps_10 rfl (lv_at hl 0 rfl) ?_
        refine zg9_kind S in_X9_keeps_9 hK hP 0 rfl (List.mem_of_getElem? (i := 1) rfl) dX9_keeps_11 ?_
        refine lv_iload_n hx hb dX9_keeps_14 rfl (lv_at hl 2 rfl) ?_
        refine zl9_kind S hK hP 0 rfl (vp_in_nI (by omega) (by omega)) (f := (g9_kind bm)) (gs9_kind_before _ _) dX9_keeps_15 ?_
        refine zs9_before (bs1 := [w9 G am (s9_before (s9_before bm m_before_2) (upd m_before_2 (nI i2_2).toNatClampNeg ((g9_kind bm) (nI i2_2).toNatClampNeg)))]) S hK hP hD hS 0 rfl (vp_in_nI (by omega) (by omega)) (f := m_before_2) (gg9_before _ _) dX9_keeps_16 rfl (fun H locs hP hD hS => ?_)
        refine lv_aload_n hx hb dX9_keeps_17 rfl (lv_at hl 1 rfl) ?_
        refine lv_bipush (v := 16) hx hb dX9_keeps_18 (by decide) ?_
        refine lv_iload_n hx hb dX9_keeps_20 rfl (lv_at hl 2 rfl) ?_
        refine lv_iadd hx hb dX9_keeps_21 ?_
        refine lv_aload_n hx hb dX9_keeps_22 rfl (lv_at hl 0 rfl) ?_
        refine zg9_head S in_X9_keeps_9 hK hP 0 rfl (List.mem_of_getElem? (i := 2) rfl) dX9_keeps_23 ?_
        refine lv_iload_n hx hb dX9_keeps_26 rfl (lv_at hl 2 rfl) ?_
        refine zl9_head S hK hP 0 rfl (vp_in_nI (by omega) (by omega)) (f := (g9_head bm)) ((gs9_head_before _ _).trans (gs9_head_before _ _)) dX9_keeps_27 ?_
        refine zs9_before (bs1 := [w9 G am (s9_before (s9_before (s9_before bm m_before_2) (upd m_before_2 (nI i2_2).toNatClampNeg ((g9_kind bm) (nI i2_2).toNatClampNeg))) (upd (upd m_before_2 (nI i2_2).toNatClampNeg ((g9_kind bm) (nI i2_2).toNatClampNeg)) (16 + (nI i2_2)).toNatClampNeg ((g9_head bm) (nI i2_2).toNatClampNeg)))]) S hK hP hD hS 0 rfl (zaddL 16 rfl (B := 16) (vp_in_nI (by omega) (by omega)) (by decide) (by decide) (by decide)) (f := (upd m_before_2 (nI i2_2).toNatClampNeg ((g9_kind bm) (nI i2_2).toNatClampNeg))) (gg9_before _ _) dX9_keeps_28 rfl (fun H locs hP hD hS => ?_)
        refine lv_aload_n hx hb dX9_keeps_29 rfl (lv_at hl 1 rfl) ?_
        refine lv_bipush (v := 32) hx hb dX9_keeps_30 (by decide) ?_
        refine lv_iload_n hx hb dX9_keeps_32 rfl (lv_at hl 2 rfl) ?_
        refine lv_iadd hx hb dX9_keeps_33 ?_
        refine lv_aload_n hx hb dX9_keeps_34 rfl (lv_at hl 0 rfl) ?_
        refine zg9_body S in_X9_keeps_9 hK hP 0 rfl (List.mem_of_getElem? (i := 3) rfl) dX9_keeps_35 ?_
        refine lv_iload_n hx hb dX9_keeps_38 rfl (lv_at hl 2 rfl) ?_
        refine zl9_body S hK hP 0 rfl (vp_in_nI (by omega) (by omega)) (f := (g9_body bm)) ((gs9_body_before _ _).trans ((gs9_body_before _ _).trans (gs9_body_before _ _))) dX9_keeps_39 ?_
        refine zs9_before (bs1 := [w9 G am (s9_before (s9_before (s9_before (s9_before bm m_before_2) (upd m_before_2 (nI i2_2).toNatClampNeg ((g9_kind bm) (nI i2_2).toNatClampNeg))) (upd (upd m_before_2 (nI i2_2).toNatClampNeg ((g9_kind bm) (nI i2_2).toNatClampNeg)) (16 + (nI i2_2)).toNatClampNeg ((g9_head bm) (nI i2_2).toNatClampNeg))) (upd (upd (upd m_before_2 (nI i2_2).toNatClampNeg ((g9_kind bm) (nI i2_2).toNatClampNeg)) (16 + (nI i2_2)).toNatClampNeg ((g9_head bm) (nI i2_2).toNatClampNeg)) (32 + (nI i2_2)).toNatClampNeg ((g9_body bm) (nI i2_2).toNatClampNeg)))]) S hK hP hD hS 0 rfl (zaddL 32 rfl (B := 16) (vp_in_nI (by omega) (by omega)) (by decide) (by decide) (by decide)) (f := (upd (upd m_before_2 (nI i2_2).toNatClampNeg ((g9_kind bm) (nI i2_2).toNatClampNeg)) (16 + (nI i2_2)).toNatClampNeg ((g9_head bm) (nI i2_2).toNatClampNeg))) (gg9_before _ _) dX9_keeps_40 rfl (fun H locs hP hD hS => ?_)
        refine lv_aload_n hx hb dX9_keeps_41 rfl (lv_at hl 1 rfl) ?_
        refine lv_bipush (v := 48) hx hb dX9_keeps_42 (by decide) ?_
        refine lv_iload_n hx hb dX9_keeps_44 rfl (lv_at hl 2 rfl) ?_
        refine lv_iadd hx hb dX9_keeps_45 ?_
        refine lv_aload_n hx hb dX9_keeps_46 rfl (lv_at hl 0 rfl) ?_
        refine zg9_except S in_X9_keeps_9 hK hP 0 rfl (List.mem_of_getElem? (i := 4) rfl) dX9_keeps_47 ?_
        refine lv_iload_n hx hb dX9_keeps_50 rfl (lv_at hl 2 rfl) ?_
        refine zl9_except S hK hP 0 rfl (vp_in_nI (by omega) (by omega)) (f := (g9_except bm)) ((gs9_except_before _ _).trans ((gs9_except_before _ _).trans ((gs9_except_before _ _).trans (gs9_except_before _ _)))) dX9_keeps_51 ?_
        refine zs9_before (bs1 := [w9 G am (s9_before (s9_before (s9_before (s9_before (s9_before bm m_before_2) (upd m_before_2 (nI i2_2).toNatClampNeg ((g9_kind bm) (nI i2_2).toNatClampNeg))) (upd (upd m_before_2 (nI i2_2).toNatClampNeg ((g9_kind bm) (nI i2_2).toNatClampNeg)) (16 + (nI i2_2)).toNatClampNeg ((g9_head bm) (nI i2_2).toNatClampNeg))) (upd (upd (upd m_before_2 (nI i2_2).toNatClampNeg ((g9_kind bm) (nI i2_2).toNatClampNeg)) (16 + (nI i2_2)).toNatClampNeg ((g9_head bm) (nI i2_2).toNatClampNeg)) (32 + (nI i2_2)).toNatClampNeg ((g9_body bm) (nI i2_2).toNatClampNeg))) (upd (upd (upd (upd m_before_2 (nI i2_2).toNatClampNeg ((g9_kind bm) (nI i2_2).toNatClampNeg)) (16 + (nI i2_2)).toNatClampNeg ((g9_head bm) (nI i2_2).toNatClampNeg)) (32 + (nI i2_2)).toNatClampNeg ((g9_body bm) (nI i2_2).toNatClampNeg)) (48 + (nI i2_2)).toNatClampNeg ((g9_except bm) (nI i2_2).toNatClampNeg)))]) S hK hP hD hS 0 rfl (zaddL 48 rfl (B := 16) (vp_in_nI (by omega) (by omega)) (by decide) (by decide) (by decide)) (f := (upd (upd (upd m_before_2 (nI i2_2).toNatClampNeg ((g9_kind bm) (nI i2_2).toNatClampNeg)) (16 + (nI i2_2)).toNatClampNeg ((g9_head bm) (nI i2_2).toNatClampNeg)) (32 + (nI i2_2)).toNatClampNeg ((g9_body bm) (nI i2_2).toNatClampNeg))) (gg9_before _ _) dX9_keeps_52 rfl (fun H locs hP hD hS => ?_)
        refine lv_aload_n hx hb dX9_keeps_53 rfl (lv_at hl 1 rfl) ?_
        refine lv_bipush (v := 64) hx hb dX9_keeps_54 (by decide) ?_
        refine lv_iload_n hx hb dX9_keeps_56 rfl (lv_at hl 2 rfl) ?_
        refine lv_iadd hx hb dX9_keeps_57 ?_
        refine lv_aload_n hx hb dX9_keeps_58 rfl (lv_at hl 0 rfl) ?_
        refine zg9_strength S in_X9_keeps_9 hK hP 0 rfl (List.mem_of_getElem? (i := 5) rfl) dX9_keeps_59 ?_
        refine lv_iload_n hx hb dX9_keeps_62 rfl (lv_at hl 2 rfl) ?_
        refine zl9_strength S hK hP 0 rfl (vp_in_nI (by omega) (by omega)) (f := (g9_strength bm)) ((gs9_strength_before _ _).trans ((gs9_strength_before _ _).trans ((gs9_strength_before _ _).trans ((gs9_strength_before _ _).trans (gs9_strength_before _ _))))) dX9_keeps_63 ?_
        refine zs9_before (bs1 := [w9 G am (s9_before (s9_before (s9_before (s9_before (s9_before (s9_before bm m_before_2) (upd m_before_2 (nI i2_2).toNatClampNeg ((g9_kind bm) (nI i2_2).toNatClampNeg))) (upd (upd m_before_2 (nI i2_2).toNatClampNeg ((g9_kind bm) (nI i2_2).toNatClampNeg)) (16 + (nI i2_2)).toNatClampNeg ((g9_head bm) (nI i2_2).toNatClampNeg))) (upd (upd (upd m_before_2 (nI i2_2).toNatClampNeg ((g9_kind bm) (nI i2_2).toNatClampNeg)) (16 + (nI i2_2)).toNatClampNeg ((g9_head bm) (nI i2_2).toNatClampNeg)) (32 + (nI i2_2)).toNatClampNeg ((g9_body bm) (nI i2_2).toNatClampNeg))) (upd (upd (upd (upd m_before_2 (nI i2_2).toNatClampNeg ((g9_kind bm) (nI i2_2).toNatClampNeg)) (16 + (nI i2_2)).toNatClampNeg ((g9_head bm) (nI i2_2).toNatClampNeg)) (32 + (nI i2_2)).toNatClampNeg ((g9_body bm) (nI i2_2).toNatClampNeg)) (48 + (nI i2_2)).toNatClampNeg ((g9_except bm) (nI i2_2).toNatClampNeg))) (upd (upd (upd (upd (upd m_before_2 (nI i2_2).toNatClampNeg ((g9_kind bm) (nI i2_2).toNatClampNeg)) (16 + (nI i2_2)).toNatClampNeg ((g9_head bm) (nI i2_2).toNatClampNeg)) (32 + (nI i2_2)).toNatClampNeg ((g9_body bm) (nI i2_2).toNatClampNeg)) (48 + (nI i2_2)).toNatClampNeg ((g9_except bm) (nI i2_2).toNatClampNeg)) (64 + (nI i2_2)).toNatClampNeg ((g9_strength bm) (nI i2_2).toNatClampNeg)))]) S hK hP hD hS 0 rfl (zaddL 64 rfl (B := 16) (vp_in_nI (by omega) (by omega)) (by decide) (by decide) (by decide)) (f := (upd (upd (upd (upd m_before_2 (nI i2_2).toNatClampNeg ((g9_kind bm) (nI i2_2).toNatClampNeg)) (16 + (nI i2_2)).toNatClampNeg ((g9_head bm) (nI i2_2).toNatClampNeg)) (32 + (nI i2_2)).toNatClampNeg ((g9_body bm) (nI i2_2).toNatClampNeg)) (48 + (nI i2_2)).toNatClampNeg ((g9_except bm) (nI i2_2).toNatClampNeg))) (gg9_before _ _) dX9_keeps_64 rfl (fun H locs hP hD hS => ?_)
        refine lv_aload_n hx hb dX9_keeps_65 rfl (lv_at hl 1 rfl) ?_
        refine lv_bipush (v := 80) hx hb dX9_keeps_66 (by decide) ?_
        refine lv_iload_n hx hb dX9_keeps_68 rfl (lv_at hl 2 rfl) ?_
        refine lv_iadd hx hb dX9_keeps_69 ?_
        refine lv_aload_n hx hb dX9_keeps_70 rfl (lv_at hl 0 rfl) ?_
        refine zg9_off S in_X9_keeps_9 hK hP 0 rfl (List.mem_of_getElem? (i := 6) rfl) dX9_keeps_71 ?_
        refine lv_iload_n hx hb dX9_keeps_74 rfl (lv_at hl 2 rfl) ?_
        refine zl9_off S hK hP 0 rfl (vp_in_nI (by omega) (by omega)) (f := (g9_off bm)) ((gs9_off_before _ _).trans ((gs9_off_before _ _).trans ((gs9_off_before _ _).trans ((gs9_off_before _ _).trans ((gs9_off_before _ _).trans (gs9_off_before _ _)))))) dX9_keeps_75 ?_
        refine zs9_before (bs1 := [w9 G am (s9_before (s9_before (s9_before (s9_before (s9_before (s9_before (s9_before bm m_before_2) (upd m_before_2 (nI i2_2).toNatClampNeg ((g9_kind bm) (nI i2_2).toNatClampNeg))) (upd (upd m_before_2 (nI i2_2).toNatClampNeg ((g9_kind bm) (nI i2_2).toNatClampNeg)) (16 + (nI i2_2)).toNatClampNeg ((g9_head bm) (nI i2_2).toNatClampNeg))) (upd (upd (upd m_before_2 (nI i2_2).toNatClampNeg ((g9_kind bm) (nI i2_2).toNatClampNeg)) (16 + (nI i2_2)).toNatClampNeg ((g9_head bm) (nI i2_2).toNatClampNeg)) (32 + (nI i2_2)).toNatClampNeg ((g9_body bm) (nI i2_2).toNatClampNeg))) (upd (upd (upd (upd m_before_2 (nI i2_2).toNatClampNeg ((g9_kind bm) (nI i2_2).toNatClampNeg)) (16 + (nI i2_2)).toNatClampNeg ((g9_head bm) (nI i2_2).toNatClampNeg)) (32 + (nI i2_2)).toNatClampNeg ((g9_body bm) (nI i2_2).toNatClampNeg)) (48 + (nI i2_2)).toNatClampNeg ((g9_except bm) (nI i2_2).toNatClampNeg))) (upd (upd (upd (upd (upd m_before_2 (nI i2_2).toNatClampNeg ((g9_kind bm) (nI i2_2).toNatClampNeg)) (16 + (nI i2_2)).toNatClampNeg ((g9_head bm) (nI i2_2).toNatClampNeg)) (32 + (nI i2_2)).toNatClampNeg ((g9_body bm) (nI i2_2).toNatClampNeg)) (48 + (nI i2_2)).toNatClampNeg ((g9_except bm) (nI i2_2).toNatClampNeg)) (64 + (nI i2_2)).toNatClampNeg ((g9_strength bm) (nI i2_2).toNatClampNeg))) (upd (upd (upd (upd (upd (upd m_before_2 (nI i2_2).toNatClampNeg ((g9_kind bm) (nI i2_2).toNatClampNeg)) (16 + (nI i2_2)).toNatClampNeg ((g9_head bm) (nI i2_2).toNatClampNeg)) (32 + (nI i2_2)).toNatClampNeg ((g9_body bm) (nI i2_2).toNatClampNeg)) (48 + (nI i2_2)).toNatClampNeg ((g9_except bm) (nI i2_2).toNatClampNeg)) (64 + (nI i2_2)).toNatClampNeg ((g9_strength bm) (nI i2_2).toNatClampNeg)) (80 + (nI i2_2)).toNatClampNeg ((g9_off bm) (nI i2_2).toNatClampNeg)))]) S hK hP hD hS 0 rfl (zaddL 80 rfl (B := 16) (vp_in_nI (by omega) (by omega)) (by decide) (by decide) (by decide)) (f := (upd (upd (upd (upd (upd m_before_2 (nI i2_2).toNatClampNeg ((g9_kind bm) (nI i2_2).toNatClampNeg)) (16 + (nI i2_2)).toNatClampNeg ((g9_head bm) (nI i2_2).toNatClampNeg)) (32 + (nI i2_2)).toNatClampNeg ((g9_body bm) (nI i2_2).toNatClampNeg)) (48 + (nI i2_2)).toNatClampNeg ((g9_except bm) (nI i2_2).toNatClampNeg)) (64 + (nI i2_2)).toNatClampNeg ((g9_strength bm) (nI i2_2).toNatClampNeg))) (gg9_before _ _) dX9_keeps_76 rfl (fun H locs hP hD hS => ?_)
        refine lv_aload_n hx hb dX9_keeps_77 rfl (lv_at hl 1 rfl) ?_
        refine lv_bipush (v := 96) hx hb dX9_keeps_78 (by decide) ?_
        refine lv_iload_n hx hb dX9_keeps_80 rfl (lv_at hl 2 rfl) ?_
        refine lv_iadd hx hb dX9_keeps_81 ?_
        refine lv_aload_n hx hb dX9_keeps_82 rfl (lv_at hl 0 rfl) ?_
        refine zg9_over S in_X9_keeps_9 hK hP 0 rfl (List.mem_of_getElem? (i := 7) rfl) dX9_keeps_83 ?_
        refine lv_iload_n hx hb dX9_keeps_86 rfl (lv_at hl 2 rfl) ?_
        refine zl9_over S hK hP 0 rfl (vp_in_nI (by omega) (by omega)) (f := (g9_over bm)) ((gs9_over_before _ _).trans ((gs9_over_before _ _).trans ((gs9_over_before _ _).trans ((gs9_over_before _ _).trans ((gs9_over_before _ _).trans ((gs9_over_before _ _).trans (gs9_over_before _ _))))))) dX9_keeps_87 ?_
        refine zs9_before (bs1 := [w9 G am (s9_before (s9_before (s9_before (s9_before (s9_before (s9_before (s9_before (s9_before bm m_before_2) (upd m_before_2 (nI i2_2).toNatClampNeg ((g9_kind bm) (nI i2_2).toNatClampNeg))) (upd (upd m_before_2 (nI i2_2).toNatClampNeg ((g9_kind bm) (nI i2_2).toNatClampNeg)) (16 + (nI i2_2)).toNatClampNeg ((g9_head bm) (nI i2_2).toNatClampNeg))) (upd (upd (upd m_before_2 (nI i2_2).toNatClampNeg ((g9_kind bm) (nI i2_2).toNatClampNeg)) (16 + (nI i2_2)).toNatClampNeg ((g9_head bm) (nI i2_2).toNatClampNeg)) (32 + (nI i2_2)).toNatClampNeg ((g9_body bm) (nI i2_2).toNatClampNeg))) (upd (upd (upd (upd m_before_2 (nI i2_2).toNatClampNeg ((g9_kind bm) (nI i2_2).toNatClampNeg)) (16 + (nI i2_2)).toNatClampNeg ((g9_head bm) (nI i2_2).toNatClampNeg)) (32 + (nI i2_2)).toNatClampNeg ((g9_body bm) (nI i2_2).toNatClampNeg)) (48 + (nI i2_2)).toNatClampNeg ((g9_except bm) (nI i2_2).toNatClampNeg))) (upd (upd (upd (upd (upd m_before_2 (nI i2_2).toNatClampNeg ((g9_kind bm) (nI i2_2).toNatClampNeg)) (16 + (nI i2_2)).toNatClampNeg ((g9_head bm) (nI i2_2).toNatClampNeg)) (32 + (nI i2_2)).toNatClampNeg ((g9_body bm) (nI i2_2).toNatClampNeg)) (48 + (nI i2_2)).toNatClampNeg ((g9_except bm) (nI i2_2).toNatClampNeg)) (64 + (nI i2_2)).toNatClampNeg ((g9_strength bm) (nI i2_2).toNatClampNeg))) (upd (upd (upd (upd (upd (upd m_before_2 (nI i2_2).toNatClampNeg ((g9_kind bm) (nI i2_2).toNatClampNeg)) (16 + (nI i2_2)).toNatClampNeg ((g9_head bm) (nI i2_2).toNatClampNeg)) (32 + (nI i2_2)).toNatClampNeg ((g9_body bm) (nI i2_2).toNatClampNeg)) (48 + (nI i2_2)).toNatClampNeg ((g9_except bm) (nI i2_2).toNatClampNeg)) (64 + (nI i2_2)).toNatClampNeg ((g9_strength bm) (nI i2_2).toNatClampNeg)) (80 + (nI i2_2)).toNatClampNeg ((g9_off bm) (nI i2_2).toNatClampNeg))) (upd (upd (upd (upd (upd (upd (upd m_before_2 (nI i2_2).toNatClampNeg ((g9_kind bm) (nI i2_2).toNatClampNeg)) (16 + (nI i2_2)).toNatClampNeg ((g9_head bm) (nI i2_2).toNatClampNeg)) (32 + (nI i2_2)).toNatClampNeg ((g9_body bm) (nI i2_2).toNatClampNeg)) (48 + (nI i2_2)).toNatClampNeg ((g9_except bm) (nI i2_2).toNatClampNeg)) (64 + (nI i2_2)).toNatClampNeg ((g9_strength bm) (nI i2_2).toNatClampNeg)) (80 + (nI i2_2)).toNatClampNeg ((g9_off bm) (nI i2_2).toNatClampNeg)) (96 + (nI i2_2)).toNatClampNeg ((g9_over bm) (nI i2_2).toNatClampNeg)))]) S hK hP hD hS 0 rfl (zaddL 96 rfl (B := 16) (vp_in_nI (by omega) (by omega)) (by decide) (by decide) (by decide)) (f := (upd (upd (upd (upd (upd (upd m_before_2 (nI i2_2).toNatClampNeg ((g9_kind bm) (nI i2_2).toNatClampNeg)) (16 + (nI i2_2)).toNatClampNeg ((g9_head bm) (nI i2_2).toNatClampNeg)) (32 + (nI i2_2)).toNatClampNeg ((g9_body bm) (nI i2_2).toNatClampNeg)) (48 + (nI i2_2)).toNatClampNeg ((g9_except bm) (nI i2_2).toNatClampNeg)) (64 + (nI i2_2)).toNatClampNeg ((g9_strength bm) (nI i2_2).toNatClampNeg)) (80 + (nI i2_2)).toNatClampNeg ((g9_off bm) (nI i2_2).toNatClampNeg))) (gg9_before _ _) dX9_keeps_88 rfl (fun H locs hP hD hS => ?_)
        refine lv_iinc (v := (nI (i2_2 + 1))) (lv' := [(2, .int (nI (i2_2 + 1))), (0, .ref (am 0)), (1, .ref (am 14))]) hx hb dX9_keeps_89 hl (k := 2) rfl (nI_1 i2_2) (by decide) rfl (fun ls hl => ?_)
        try rw [nI_1 i2_2] at hE
        refine lv_goto (tgt := 2) hx hb dX9_keeps_92 (by decide) ?_
        rw [show (s9_before (s9_before (s9_before (s9_before (s9_before (s9_before (s9_before (s9_before bm m_before_2) (upd m_before_2 (nI i2_2).toNatClampNeg ((g9_kind bm) (nI i2_2).toNatClampNeg))) (upd (upd m_before_2 (nI i2_2).toNatClampNeg ((g9_kind bm) (nI i2_2).toNatClampNeg)) (16 + (nI i2_2)).toNatClampNeg ((g9_head bm) (nI i2_2).toNatClampNeg))) (upd (upd (upd m_before_2 (nI i2_2).toNatClampNeg ((g9_kind bm) (nI i2_2).toNatClampNeg)) (16 + (nI i2_2)).toNatClampNeg ((g9_head bm) (nI i2_2).toNatClampNeg)) (32 + (nI i2_2)).toNatClampNeg ((g9_body bm) (nI i2_2).toNatClampNeg))) (upd (upd (upd (upd m_before_2 (nI i2_2).toNatClampNeg ((g9_kind bm) (nI i2_2).toNatClampNeg)) (16 + (nI i2_2)).toNatClampNeg ((g9_head bm) (nI i2_2).toNatClampNeg)) (32 + (nI i2_2)).toNatClampNeg ((g9_body bm) (nI i2_2).toNatClampNeg)) (48 + (nI i2_2)).toNatClampNeg ((g9_except bm) (nI i2_2).toNatClampNeg))) (upd (upd (upd (upd (upd m_before_2 (nI i2_2).toNatClampNeg ((g9_kind bm) (nI i2_2).toNatClampNeg)) (16 + (nI i2_2)).toNatClampNeg ((g9_head bm) (nI i2_2).toNatClampNeg)) (32 + (nI i2_2)).toNatClampNeg ((g9_body bm) (nI i2_2).toNatClampNeg)) (48 + (nI i2_2)).toNatClampNeg ((g9_except bm) (nI i2_2).toNatClampNeg)) (64 + (nI i2_2)).toNatClampNeg ((g9_strength bm) (nI i2_2).toNatClampNeg))) (upd (upd (upd (upd (upd (upd m_before_2 (nI i2_2).toNatClampNeg ((g9_kind bm) (nI i2_2).toNatClampNeg)) (16 + (nI i2_2)).toNatClampNeg ((g9_head bm) (nI i2_2).toNatClampNeg)) (32 + (nI i2_2)).toNatClampNeg ((g9_body bm) (nI i2_2).toNatClampNeg)) (48 + (nI i2_2)).toNatClampNeg ((g9_except bm) (nI i2_2).toNatClampNeg)) (64 + (nI i2_2)).toNatClampNeg ((g9_strength bm) (nI i2_2).toNatClampNeg)) (80 + (nI i2_2)).toNatClampNeg ((g9_off bm) (nI i2_2).toNatClampNeg))) (upd (upd (upd (upd (upd (upd (upd m_before_2 (nI i2_2).toNatClampNeg ((g9_kind bm) (nI i2_2).toNatClampNeg)) (16 + (nI i2_2)).toNatClampNeg ((g9_head bm) (nI i2_2).toNatClampNeg)) (32 + (nI i2_2)).toNatClampNeg ((g9_body bm) (nI i2_2).toNatClampNeg)) (48 + (nI i2_2)).toNatClampNeg ((g9_except bm) (nI i2_2).toNatClampNeg)) (64 + (nI i2_2)).toNatClampNeg ((g9_strength bm) (nI i2_2).toNatClampNeg)) (80 + (nI i2_2)).toNatClampNeg ((g9_off bm) (nI i2_2).toNatClampNeg)) (96 + (nI i2_2)).toNatClampNeg ((g9_over bm) (nI i2_2).toNatClampNeg))) = (s9_before bm (upd (upd (upd (upd (upd (upd (upd m_before_2 (nI i2_2).toNatClampNeg ((g9_kind bm) (nI i2_2).toNatClampNeg)) (16 + (nI i2_2)).toNatClampNeg ((g9_head bm) (nI i2_2).toNatClampNeg)) (32 + (nI i2_2)).toNatClampNeg ((g9_body bm) (nI i2_2).toNatClampNeg)) (48 + (nI i2_2)).toNatClampNeg ((g9_except bm) (nI i2_2).toNatClampNeg)) (64 + (nI i2_2)).toNatClampNeg ((g9_strength bm) (nI i2_2).toNatClampNeg)) (80 + (nI i2_2)).toNatClampNeg ((g9_off bm) (nI i2_2).toNatClampNeg)) (96 + (nI i2_2)).toNatClampNeg ((g9_over bm) (nI i2_2).toNatClampNeg))) from ((congrArg (fun z => s9_before z (upd (upd (upd (upd (upd (upd (upd m_before_2 (nI i2_2).toNatClampNeg ((g9_kind bm) (nI i2_2).toNatClampNeg)) (16 + (nI i2_2)).toNatClampNeg ((g9_head bm) (nI i2_2).toNatClampNeg)) (32 + (nI i2_2)).toNatClampNeg ((g9_body bm) (nI i2_2).toNatClampNeg)) (48 + (nI i2_2)).toNatClampNeg ((g9_except bm) (nI i2_2).toNatClampNeg)) (64 + (nI i2_2)).toNatClampNeg ((g9_strength bm) (nI i2_2).toNatClampNeg)) (80 + (nI i2_2)).toNatClampNeg ((g9_off bm) (nI i2_2).toNatClampNeg)) (96 + (nI i2_2)).toNatClampNeg ((g9_over bm) (nI i2_2).toNatClampNeg))) ((congrArg (fun z => s9_before z (upd (upd (upd (upd (upd (upd m_before_2 (nI i2_2).toNatClampNeg ((g9_kind bm) (nI i2_2).toNatClampNeg)) (16 + (nI i2_2)).toNatClampNeg ((g9_head bm) (nI i2_2).toNatClampNeg)) (32 + (nI i2_2)).toNatClampNeg ((g9_body bm) (nI i2_2).toNatClampNeg)) (48 + (nI i2_2)).toNatClampNeg ((g9_except bm) (nI i2_2).toNatClampNeg)) (64 + (nI i2_2)).toNatClampNeg ((g9_strength bm) (nI i2_2).toNatClampNeg)) (80 + (nI i2_2)).toNatClampNeg ((g9_off bm) (nI i2_2).toNatClampNeg))) ((congrArg (fun z => s9_before z (upd (upd (upd (upd (upd m_before_2 (nI i2_2).toNatClampNeg ((g9_kind bm) (nI i2_2).toNatClampNeg)) (16 + (nI i2_2)).toNatClampNeg ((g9_head bm) (nI i2_2).toNatClampNeg)) (32 + (nI i2_2)).toNatClampNeg ((g9_body bm) (nI i2_2).toNatClampNeg)) (48 + (nI i2_2)).toNatClampNeg ((g9_except bm) (nI i2_2).toNatClampNeg)) (64 + (nI i2_2)).toNatClampNeg ((g9_strength bm) (nI i2_2).toNatClampNeg))) ((congrArg (fun z => s9_before z (upd (upd (upd (upd m_before_2 (nI i2_2).toNatClampNeg ((g9_kind bm) (nI i2_2).toNatClampNeg)) (16 + (nI i2_2)).toNatClampNeg ((g9_head bm) (nI i2_2).toNatClampNeg)) (32 + (nI i2_2)).toNatClampNeg ((g9_body bm) (nI i2_2).toNatClampNeg)) (48 + (nI i2_2)).toNatClampNeg ((g9_except bm) (nI i2_2).toNatClampNeg))) ((congrArg (fun z => s9_before z (upd (upd (upd m_before_2 (nI i2_2).toNatClampNeg ((g9_kind bm) (nI i2_2).toNatClampNeg)) (16 + (nI i2_2)).toNatClampNeg ((g9_head bm) (nI i2_2).toNatClampNeg)) (32 + (nI i2_2)).toNatClampNeg ((g9_body bm) (nI i2_2).toNatClampNeg))) ((congrArg (fun z => s9_before z (upd (upd m_before_2 (nI i2_2).toNatClampNeg ((g9_kind bm) (nI i2_2).toNatClampNeg)) (16 + (nI i2_2)).toNatClampNeg ((g9_head bm) (nI i2_2).toNatClampNeg))) (ss9_before _ _ _)).trans (ss9_before _ _ _))).trans (ss9_before _ _ _))).trans (ss9_before _ _ _))).trans (ss9_before _ _ _))).trans (ss9_before _ _ _))).trans (ss9_before _ _ _))] at hP hD
        exact ih2 (i2_2 + 1) (upd (upd (upd (upd (upd (upd (upd m_before_2 (nI i2_2).toNatClampNeg ((g9_kind bm) (nI i2_2).toNatClampNeg)) (16 + (nI i2_2)).toNatClampNeg ((g9_head bm) (nI i2_2).toNatClampNeg)) (32 + (nI i2_2)).toNatClampNeg ((g9_body bm) (nI i2_2).toNatClampNeg)) (48 + (nI i2_2)).toNatClampNeg ((g9_except bm) (nI i2_2).toNatClampNeg)) (64 + (nI i2_2)).toNatClampNeg ((g9_strength bm) (nI i2_2).toNatClampNeg)) (80 + (nI i2_2)).toNatClampNeg ((g9_off bm) (nI i2_2).toNatClampNeg)) (96 + (nI i2_2)).toNatClampNeg ((g9_over bm) (nI i2_2).toNatClampNeg)) _ _ _ (by first | assumption | omega) (by omega) hE hP hD hS (lv_sub hl [1, 2, 0] rfl)
  refine lv_istore_n (lv' := [(2, .int 0), (0, .ref (am 0)), (1, .ref (am 14))]) hx hb dX9_keeps_1 rfl hl (by decide) rfl (fun ls hl => ?_)
  rw [show bm = (s9_before bm (g9_before bm)) from ((se9_before _).symm)] at hP hD
  exact hB2 17 0 (g9_before bm) _ _ _ (by first | assumption | omega) (by omega) hE hP hD hS (lv_sub hl [1, 2, 0] rfl)

def rmX9_keeps_imaged : Room := { frames := 0, cells := 0, slots := 0, locals := 0 }
set_option maxHeartbeats 4000000 in
set_option maxRecDepth 100000 in
theorem c_X9_keeps_imaged (l : Launch) (G : zG) (am : Nat → Nat) (bm : S9) (T : (Nat → Int32)) (hT : FX9_keeps_imaged (g9_facts bm) (g9_rules bm) (g9_kind bm) (g9_head bm) (g9_body bm) (g9_except bm) (g9_strength bm) (g9_off bm) (g9_over bm) (g9_imaged bm) = T) : zV l yX9_keeps wsX9_keeps rmX9_keeps_imaged G [.ref (am 0), .ref (am 13)] [w9 G am bm] [w9 G am (s9_imaged bm T)] := by
  refine zV.mk (cc := cX9_keeps) (maxL := 3) (by decide +kernel) rfl (Nat.le_of_ble_eq_true rfl) (zfl_cons (wf9 _ _ _ _) rfl) ?_
  intro p e s m args below meth c Q A ls S hK hD hA hP hl hret
  have hx := S.1
  have hb := S.2.1
  have hS : va_S A s.heap s.heap [] := va_S.rf
  have hl : lv_has ls 3 [(0, .ref (am 0)), (1, .ref (am 13))] := hl
  have hE := hT.symm.trans (FX9_keeps_imaged.eq_1 _ _ _ _ _ _ _ _ _ _)
  refine lv_iconst (v := 0) hx hb dX9_keeps_0 (by decide) ?_
  have hB95 : ∀ (m_imaged_95 : Nat → Int32) (H : Heap) (locs : List Loc) (ls : Array Slot), T = FX9_keeps_imaged_95 (g9_facts bm) (g9_rules bm) (g9_kind bm) (g9_head bm) (g9_body bm) (g9_except bm) (g9_strength bm) (g9_off bm) (g9_over bm) (g9_imaged bm) m_imaged_95 → zP G [w9 G am (s9_imaged bm m_imaged_95)] H → zD A [w9 G am (s9_imaged bm m_imaged_95)] → va_S A s.heap H locs → lv_has ls 3 [(0, .ref (am 0)), (1, .ref (am 13))] → W p l e rmX9_keeps_imaged s m args below meth c H locs 0 0 Q (F0 m 95 ls []) := by
    intro m_imaged_95 H locs ls hE hP hD hS hl
    have hE := hE.trans (FX9_keeps_imaged_95.eq_1 _ _ _ _ _ _ _ _ _ _ _)
    refine lv_aload_n hx hb dX9_keeps_95 rfl (lv_at hl 1 rfl) ?_
    refine lv_bipush (v := 112) hx hb dX9_keeps_96 (by decide) ?_
    refine lv_aload_n hx hb dX9_keeps_98 rfl (lv_at hl 0 rfl) ?_
    refine zg9_facts S in_X9_keeps_9 hK hP 0 rfl (List.mem_of_getElem? (i := 8) rfl) (v := (g9_facts bm)) (gs9_facts_imaged _ _) dX9_keeps_99 ?_
    refine zs9_imaged (bs1 := [w9 G am (s9_imaged (s9_imaged bm m_imaged_95) (upd m_imaged_95 (112 : Int32).toNatClampNeg (g9_facts bm)))]) S hK hP hD hS 0 rfl (zin_k (n := 112) rfl (by decide) (by decide)) (f := m_imaged_95) (gg9_imaged _ _) dX9_keeps_102 rfl (fun H locs hP hD hS => ?_)
    refine lv_aload_n hx hb dX9_keeps_103 rfl (lv_at hl 1 rfl) ?_
    refine lv_bipush (v := 113) hx hb dX9_keeps_104 (by decide) ?_
    refine lv_aload_n hx hb dX9_keeps_106 rfl (lv_at hl 0 rfl) ?_
    refine zg9_rules S in_X9_keeps_9 hK hP 0 rfl (List.mem_of_getElem? (i := 9) rfl) (v := (g9_rules bm)) ((gs9_rules_imaged _ _).trans (gs9_rules_imaged _ _)) dX9_keeps_107 ?_
    refine zs9_imaged (bs1 := [w9 G am (s9_imaged (s9_imaged (s9_imaged bm m_imaged_95) (upd m_imaged_95 (112 : Int32).toNatClampNeg (g9_facts bm))) (upd (upd m_imaged_95 (112 : Int32).toNatClampNeg (g9_facts bm)) (113 : Int32).toNatClampNeg (g9_rules bm)))]) S hK hP hD hS 0 rfl (zin_k (n := 113) rfl (by decide) (by decide)) (f := (upd m_imaged_95 (112 : Int32).toNatClampNeg (g9_facts bm))) (gg9_imaged _ _) dX9_keeps_110 rfl (fun H locs hP hD hS => ?_)
    rw [show (s9_imaged (s9_imaged (s9_imaged bm m_imaged_95) (upd m_imaged_95 (112 : Int32).toNatClampNeg (g9_facts bm))) (upd (upd m_imaged_95 (112 : Int32).toNatClampNeg (g9_facts bm)) (113 : Int32).toNatClampNeg (g9_rules bm))) = (s9_imaged bm (upd (upd m_imaged_95 (112 : Int32).toNatClampNeg (g9_facts bm)) (113 : Int32).toNatClampNeg (g9_rules bm))) from ((congrArg (fun z => s9_imaged z (upd (upd m_imaged_95 (112 : Int32).toNatClampNeg (g9_facts bm)) (113 : Int32).toNatClampNeg (g9_rules bm))) (ss9_imaged _ _ _)).trans (ss9_imaged _ _ _))] at hP hD
    exact hret _ _ _ _ _ (by subst hE; rfl) hP hS dX9_keeps_111
  have hB2 : ∀ (n2 : Nat) (i2_2 : Nat) (m_imaged_2 : Nat → Int32) (H : Heap) (locs : List Loc) (ls : Array Slot), (i2_2 ≤ 16) → 17 ≤ i2_2 + n2 → T = FX9_keeps_imaged_2 (g9_facts bm) (g9_rules bm) (g9_kind bm) (g9_head bm) (g9_body bm) (g9_except bm) (g9_strength bm) (g9_off bm) (g9_over bm) (g9_imaged bm) (FX9_keeps_imaged_95 (g9_facts bm) (g9_rules bm) (g9_kind bm) (g9_head bm) (g9_body bm) (g9_except bm) (g9_strength bm) (g9_off bm) (g9_over bm) (g9_imaged bm)) n2 (nI i2_2) m_imaged_2 → zP G [w9 G am (s9_imaged bm m_imaged_2)] H → zD A [w9 G am (s9_imaged bm m_imaged_2)] → va_S A s.heap H locs → lv_has ls 3 [(0, .ref (am 0)), (1, .ref (am 13)), (2, .int (nI i2_2))] → W p l e rmX9_keeps_imaged s m args below meth c H locs 0 0 Q (F0 m 2 ls []) := by
    intro n2
    induction n2 with
    | zero =>
      intro i2_2 m_imaged_2 H locs ls hi2_2 hn hE hP hD hS hl
      exact absurd hn (by omega)
    | succ n2 ih2 =>
      intro i2_2 m_imaged_2 H locs ls hi2_2 hn hE hP hD hS hl
      have hE := hE.trans (FX9_keeps_imaged_2.eq_2 _ _ _ _ _ _ _ _ _ _ _ _ _ _)
      refine lv_iload_n hx hb dX9_keeps_2 rfl (lv_at hl 2 rfl) ?_
      refine lv_bipush (v := 16) hx hb dX9_keeps_3 (by decide) ?_
      refine lv_icmp_ge (tgt := 95) hx hb dX9_keeps_5 (by decide) (fun c5 => ?_) (fun c5 => ?_)
      · have hE := hE.trans (if_pos c5)
        exact hB95 m_imaged_2 _ _ _ hE hP hD hS (lv_sub hl [0, 1] rfl)
      · have hE := hE.trans (if_neg c5)
        have hl2_2 : i2_2 < 16 := zlt (N := 16) rfl (by omega) (by omega) c5
        refine lv_aload_n hx hb dX9_keeps_8 rfl (lv_at hl 1 rfl) ?_
        refine lv_iload_n hx hb dX9_keeps_9 rfl (lv_at hl 2 rfl) ?_
        refine lv_aload_n hx hb dX9_keeps_10 rfl (lv_at hl 0 rfl) ?_
        refine zg9_kind S in_X9_keeps_9 hK hP 0 rfl (List.mem_of_getElem? (i := 1) rfl) dX9_keeps_11 ?_
        refine lv_iload_n hx hb dX9_keeps_14 rfl (lv_at hl 2 rfl) ?_
        refine zl9_kind S hK hP 0 rfl (vp_in_nI (by omega) (by omega)) (f := (g9_kind bm)) (gs9_kind_imaged _ _) dX9_keeps_15 ?_
        refine zs9_imaged (bs1 := [w9 G am (s9_imaged (s9_imaged bm m_imaged_2) (upd m_imaged_2 (nI i2_2).toNatClampNeg ((g9_kind bm) (nI i2_2).toNatClampNeg)))]) S hK hP hD hS 0 rfl (vp_in_nI (by omega) (by omega)) (f := m_imaged_2) (gg9_imaged _ _) dX9_keeps_16 rfl (fun H locs hP hD hS => ?_)
        refine lv_aload_n hx hb dX9_keeps_17 rfl (lv_at hl 1 rfl) ?_
        refine lv_bipush (v := 16) hx hb dX9_keeps_18 (by decide) ?_
        refine lv_iload_n hx hb dX9_keeps_20 rfl (lv_at hl 2 rfl) ?_
        refine lv_iadd hx hb dX9_keeps_21 ?_
        refine lv_aload_n hx hb dX9_keeps_22 rfl (lv_at hl 0 rfl) ?_
        refine zg9_head S in_X9_keeps_9 hK hP 0 rfl (List.mem_of_getElem? (i := 2) rfl) dX9_keeps_23 ?_
        refine lv_iload_n hx hb dX9_keeps_26 rfl (lv_at hl 2 rfl) ?_
        refine zl9_head S hK hP 0 rfl (vp_in_nI (by omega) (by omega)) (f := (g9_head bm)) ((gs9_head_imaged _ _).trans (gs9_head_imaged _ _)) dX9_keeps_27 ?_
        refine zs9_imaged (bs1 := [w9 G am (s9_imaged (s9_imaged (s9_imaged bm m_imaged_2) (upd m_imaged_2 (nI i2_2).toNatClampNeg ((g9_kind bm) (nI i2_2).toNatClampNeg))) (upd (upd m_imaged_2 (nI i2_2).toNatClampNeg ((g9_kind bm) (nI i2_2).toNatClampNeg)) (16 + (nI i2_2)).toNatClampNeg ((g9_head bm) (nI i2_2).toNatClampNeg)))]) S hK hP hD hS 0 rfl (zaddL 16 rfl (B := 16) (vp_in_nI (by omega) (by omega)) (by decide) (by decide) (by decide)) (f := (upd m_imaged_2 (nI i2_2).toNatClampNeg ((g9_kind bm) (nI i2_2).toNatClampNeg))) (gg9_imaged _ _) dX9_keeps_28 rfl (fun H locs hP hD hS => ?_)
        refine lv_aload_n hx hb dX9_keeps_29 rfl (lv_at hl 1 rfl) ?_
        refine lv_bipush (v := 32) hx hb dX9_keeps_30 (by decide) ?_
        refine lv_iload_n hx hb dX9_keeps_32 rfl (lv_at hl 2 rfl) ?_
        refine lv_iadd hx hb dX9_keeps_33 ?_
        refine lv_aload_n hx hb dX9_keeps_34 rfl (lv_at hl 0 rfl) ?_
        refine zg9_body S in_X9_keeps_9 hK hP 0 rfl (List.mem_of_getElem? (i := 3) rfl) dX9_keeps_35 ?_
        refine lv_iload_n hx hb dX9_keeps_38 rfl (lv_at hl 2 rfl) ?_
        refine zl9_body S hK hP 0 rfl (vp_in_nI (by omega) (by omega)) (f := (g9_body bm)) ((gs9_body_imaged _ _).trans ((gs9_body_imaged _ _).trans (gs9_body_imaged _ _))) dX9_keeps_39 ?_
        refine zs9_imaged (bs1 := [w9 G am (s9_imaged (s9_imaged (s9_imaged (s9_imaged bm m_imaged_2) (upd m_imaged_2 (nI i2_2).toNatClampNeg ((g9_kind bm) (nI i2_2).toNatClampNeg))) (upd (upd m_imaged_2 (nI i2_2).toNatClampNeg ((g9_kind bm) (nI i2_2).toNatClampNeg)) (16 + (nI i2_2)).toNatClampNeg ((g9_head bm) (nI i2_2).toNatClampNeg))) (upd (upd (upd m_imaged_2 (nI i2_2).toNatClampNeg ((g9_kind bm) (nI i2_2).toNatClampNeg)) (16 + (nI i2_2)).toNatClampNeg ((g9_head bm) (nI i2_2).toNatClampNeg)) (32 + (nI i2_2)).toNatClampNeg ((g9_body bm) (nI i2_2).toNatClampNeg)))]) S hK hP hD hS 0 rfl (zaddL 32 rfl (B := 16) (vp_in_nI (by omega) (by omega)) (by decide) (by decide) (by decide)) (f := (upd (upd m_imaged_2 (nI i2_2).toNatClampNeg ((g9_kind bm) (nI i2_2).toNatClampNeg)) (16 + (nI i2_2)).toNatClampNeg ((g9_head bm) (nI i2_2).toNatClampNeg))) (gg9_imaged _ _) dX9_keeps_40 rfl (fun H locs hP hD hS => ?_)
        refine lv_aload_n hx hb dX9_keeps_41 rfl (lv_at hl 1 rfl) ?_
        refine lv_bipush (v := 48) hx hb dX9_keeps_42 (by decide) ?_
        refine lv_iload_n hx hb dX9_keeps_44 rfl (lv_at hl 2 rfl) ?_
        refine lv_iadd hx hb dX9_keeps_45 ?_
        refine lv_aload_n hx hb dX9_keeps_46 rfl (lv_at hl 0 rfl) ?_
        refine zg9_except S in_X9_keeps_9 hK hP 0 rfl (List.mem_of_getElem? (i := 4) rfl) dX9_keeps_47 ?_
        refine lv_iload_n hx hb dX9_keeps_50 rfl (lv_at hl 2 rfl) ?_
        refine zl9_except S hK hP 0 rfl (vp_in_nI (by omega) (by omega)) (f := (g9_except bm)) ((gs9_except_imaged _ _).trans ((gs9_except_imaged _ _).trans ((gs9_except_imaged _ _).trans (gs9_except_imaged _ _)))) dX9_keeps_51 ?_
        refine zs9_imaged (bs1 := [w9 G am (s9_imaged (s9_imaged (s9_imaged (s9_imaged (s9_imaged bm m_imaged_2) (upd m_imaged_2 (nI i2_2).toNatClampNeg ((g9_kind bm) (nI i2_2).toNatClampNeg))) (upd (upd m_imaged_2 (nI i2_2).toNatClampNeg ((g9_kind bm) (nI i2_2).toNatClampNeg)) (16 + (nI i2_2)).toNatClampNeg ((g9_head bm) (nI i2_2).toNatClampNeg))) (upd (upd (upd m_imaged_2 (nI i2_2).toNatClampNeg ((g9_kind bm) (nI i2_2).toNatClampNeg)) (16 + (nI i2_2)).toNatClampNeg ((g9_head bm) (nI i2_2).toNatClampNeg)) (32 + (nI i2_2)).toNatClampNeg ((g9_body bm) (nI i2_2).toNatClampNeg))) (upd (upd (upd (upd m_imaged_2 (nI i2_2).toNatClampNeg ((g9_kind bm) (nI i2_2).toNatClampNeg)) (16 + (nI i2_2)).toNatClampNeg ((g9_head bm) (nI i2_2).toNatClampNeg)) (32 + (nI i2_2)).toNatClampNeg ((g9_body bm) (nI i2_2).toNatClampNeg)) (48 + (nI i2_2)).toNatClampNeg ((g9_except bm) (nI i2_2).toNatClampNeg)))]) S hK hP hD hS 0 rfl (zaddL 48 rfl (B := 16) (vp_in_nI (by omega) (by omega)) (by decide) (by decide) (by decide)) (f := (upd (upd (upd m_imaged_2 (nI i2_2).toNatClampNeg ((g9_kind bm) (nI i2_2).toNatClampNeg)) (16 + (nI i2_2)).toNatClampNeg ((g9_head bm) (nI i2_2).toNatClampNeg)) (32 + (nI i2_2)).toNatClampNeg ((g9_body bm) (nI i2_2).toNatClampNeg))) (gg9_imaged _ _) dX9_keeps_52 rfl (fun H locs hP hD hS => ?_)
        refine lv_aload_n hx hb dX9_keeps_53 rfl (lv_at hl 1 rfl) ?_
        refine lv_bipush (v := 64) hx hb dX9_keeps_54 (by decide) ?_
        refine lv_iload_n hx hb dX9_keeps_56 rfl (lv_at hl 2 rfl) ?_
        refine lv_iadd hx hb dX9_keeps_57 ?_
        refine lv_aload_n hx hb dX9_keeps_58 rfl (lv_at hl 0 rfl) ?_
        refine zg9_strength S in_X9_keeps_9 hK hP 0 rfl (List.mem_of_getElem? (i := 5) rfl) dX9_keeps_59 ?_
        refine lv_iload_n hx hb dX9_keeps_62 rfl (lv_at hl 2 rfl) ?_
        refine zl9_strength S hK hP 0 rfl (vp_in_nI (by omega) (by omega)) (f := (g9_strength bm)) ((gs9_strength_imaged _ _).trans ((gs9_strength_imaged _ _).trans ((gs9_strength_imaged _ _).trans ((gs9_strength_imaged _ _).trans (gs9_strength_imaged _ _))))) dX9_keeps_63 ?_
        refine zs9_imaged (bs1 := [w9 G am (s9_imaged (s9_imaged (s9_imaged (s9_imaged (s9_imaged (s9_imaged bm m_imaged_2) (upd m_imaged_2 (nI i2_2).toNatClampNeg ((g9_kind bm) (nI i2_2).toNatClampNeg))) (upd (upd m_imaged_2 (nI i2_2).toNatClampNeg ((g9_kind bm) (nI i2_2).toNatClampNeg)) (16 + (nI i2_2)).toNatClampNeg ((g9_head bm) (nI i2_2).toNatClampNeg))) (upd (upd (upd m_imaged_2 (nI i2_2).toNatClampNeg ((g9_kind bm) (nI i2_2).toNatClampNeg)) (16 + (nI i2_2)).toNatClampNeg ((g9_head bm) (nI i2_2).toNatClampNeg)) (32 + (nI i2_2)).toNatClampNeg ((g9_body bm) (nI i2_2).toNatClampNeg))) (upd (upd (upd (upd m_imaged_2 (nI i2_2).toNatClampNeg ((g9_kind bm) (nI i2_2).toNatClampNeg)) (16 + (nI i2_2)).toNatClampNeg ((g9_head bm) (nI i2_2).toNatClampNeg)) (32 + (nI i2_2)).toNatClampNeg ((g9_body bm) (nI i2_2).toNatClampNeg)) (48 + (nI i2_2)).toNatClampNeg ((g9_except bm) (nI i2_2).toNatClampNeg))) (upd (upd (upd (upd (upd m_imaged_2 (nI i2_2).toNatClampNeg ((g9_kind bm) (nI i2_2).toNatClampNeg)) (16 + (nI i2_2)).toNatClampNeg ((g9_head bm) (nI i2_2).toNatClampNeg)) (32 + (nI i2_2)).toNatClampNeg ((g9_body bm) (nI i2_2).toNatClampNeg)) (48 + (nI i2_2)).toNatClampNeg ((g9_except bm) (nI i2_2).toNatClampNeg)) (64 + (nI i2_2)).toNatClampNeg ((g9_strength bm) (nI i2_2).toNatClampNeg)))]) S hK hP hD hS 0 rfl (zaddL 64 rfl (B := 16) (vp_in_nI (by omega) (by omega)) (by decide) (by decide) (by decide)) (f := (upd (upd (upd (upd m_imaged_2 (nI i2_2).toNatClampNeg ((g9_kind bm) (nI i2_2).toNatClampNeg)) (16 + (nI i2_2)).toNatClampNeg ((g9_head bm) (nI i2_2).toNatClampNeg)) (32 + (nI i2_2)).toNatClampNeg ((g9_body bm) (nI i2_2).toNatClampNeg)) (48 + (nI i2_2)).toNatClampNeg ((g9_except bm) (nI i2_2).toNatClampNeg))) (gg9_imaged _ _) dX9_keeps_64 rfl (fun H locs hP hD hS => ?_)
        refine lv_aload_n hx hb dX9_keeps_65 rfl (lv_at hl 1 rfl) ?_
        refine lv_bipush (v := 80) hx hb dX9_keeps_66 (by decide) ?_
        refine lv_iload_n hx hb dX9_keeps_68 rfl (lv_at hl 2 rfl) ?_
        refine lv_iadd hx hb dX9_keeps_69 ?_
        refine lv_aload_n hx hb dX9_keeps_70 rfl (lv_at hl 0 rfl) ?_
        refine zg9_off S in_X9_keeps_9 hK hP 0 rfl (List.mem_of_getElem? (i := 6) rfl) dX9_keeps_71 ?_
        refine lv_iload_n hx hb dX9_keeps_74 rfl (lv_at hl 2 rfl) ?_
        refine zl9_off S hK hP 0 rfl (vp_in_nI (by omega) (by omega)) (f := (g9_off bm)) ((gs9_off_imaged _ _).trans ((gs9_off_imaged _ _).trans ((gs9_off_imaged _ _).trans ((gs9_off_imaged _ _).trans ((gs9_off_imaged _ _).trans (gs9_off_imaged _ _)))))) dX9_keeps_75 ?_
        refine zs9_imaged (bs1 := [w9 G am (s9_imaged (s9_imaged (s9_imaged (s9_imaged (s9_imaged (s9_imaged (s9_imaged bm m_imaged_2) (upd m_imaged_2 (nI i2_2).toNatClampNeg ((g9_kind bm) (nI i2_2).toNatClampNeg))) (upd (upd m_imaged_2 (nI i2_2).toNatClampNeg ((g9_kind bm) (nI i2_2).toNatClampNeg)) (16 + (nI i2_2)).toNatClampNeg ((g9_head bm) (nI i2_2).toNatClampNeg))) (upd (upd (upd m_imaged_2 (nI i2_2).toNatClampNeg ((g9_kind bm) (nI i2_2).toNatClampNeg)) (16 + (nI i2_2)).toNatClampNeg ((g9_head bm) (nI i2_2).toNatClampNeg)) (32 + (nI i2_2)).toNatClampNeg ((g9_body bm) (nI i2_2).toNatClampNeg))) (upd (upd (upd (upd m_imaged_2 (nI i2_2).toNatClampNeg ((g9_kind bm) (nI i2_2).toNatClampNeg)) (16 + (nI i2_2)).toNatClampNeg ((g9_head bm) (nI i2_2).toNatClampNeg)) (32 + (nI i2_2)).toNatClampNeg ((g9_body bm) (nI i2_2).toNatClampNeg)) (48 + (nI i2_2)).toNatClampNeg ((g9_except bm) (nI i2_2).toNatClampNeg))) (upd (upd (upd (upd (upd m_imaged_2 (nI i2_2).toNatClampNeg ((g9_kind bm) (nI i2_2).toNatClampNeg)) (16 + (nI i2_2)).toNatClampNeg ((g9_head bm) (nI i2_2).toNatClampNeg)) (32 + (nI i2_2)).toNatClampNeg ((g9_body bm) (nI i2_2).toNatClampNeg)) (48 + (nI i2_2)).toNatClampNeg ((g9_except bm) (nI i2_2).toNatClampNeg)) (64 + (nI i2_2)).toNatClampNeg ((g9_strength bm) (nI i2_2).toNatClampNeg))) (upd (upd (upd (upd (upd (upd m_imaged_2 (nI i2_2).toNatClampNeg ((g9_kind bm) (nI i2_2).toNatClampNeg)) (16 + (nI i2_2)).toNatClampNeg ((g9_head bm) (nI i2_2).toNatClampNeg)) (32 + (nI i2_2)).toNatClampNeg ((g9_body bm) (nI i2_2).toNatClampNeg)) (48 + (nI i2_2)).toNatClampNeg ((g9_except bm) (nI i2_2).toNatClampNeg)) (64 + (nI i2_2)).toNatClampNeg ((g9_strength bm) (nI i2_2).toNatClampNeg)) (80 + (nI i2_2)).toNatClampNeg ((g9_off bm) (nI i2_2).toNatClampNeg)))]) S hK hP hD hS 0 rfl (zaddL 80 rfl (B := 16) (vp_in_nI (by omega) (by omega)) (by decide) (by decide) (by decide)) (f := (upd (upd (upd (upd (upd m_imaged_2 (nI i2_2).toNatClampNeg ((g9_kind bm) (nI i2_2).toNatClampNeg)) (16 + (nI i2_2)).toNatClampNeg ((g9_head bm) (nI i2_2).toNatClampNeg)) (32 + (nI i2_2)).toNatClampNeg ((g9_body bm) (nI i2_2).toNatClampNeg)) (48 + (nI i2_2)).toNatClampNeg ((g9_except bm) (nI i2_2).toNatClampNeg)) (64 + (nI i2_2)).toNatClampNeg ((g9_strength bm) (nI i2_2).toNatClampNeg))) (gg9_imaged _ _) dX9_keeps_76 rfl (fun H locs hP hD hS => ?_)
        refine lv_aload_n hx hb dX9_keeps_77 rfl (lv_at hl 1 rfl) ?_
        refine lv_bipush (v := 96) hx hb dX9_keeps_78 (by decide) ?_
        refine lv_iload_n hx hb dX9_keeps_80 rfl (lv_at hl 2 rfl) ?_
        refine lv_iadd hx hb dX9_keeps_81 ?_
        refine lv_aload_n hx hb dX9_keeps_82 rfl (lv_at hl 0 rfl) ?_
        refine zg9_over S in_X9_keeps_9 hK hP 0 rfl (List.mem_of_getElem? (i := 7) rfl) dX9_keeps_83 ?_
        refine lv_iload_n hx hb dX9_keeps_86 rfl (lv_at hl 2 rfl) ?_
        refine zl9_over S hK hP 0 rfl (vp_in_nI (by omega) (by omega)) (f := (g9_over bm)) ((gs9_over_imaged _ _).trans ((gs9_over_imaged _ _).trans ((gs9_over_imaged _ _).trans ((gs9_over_imaged _ _).trans ((gs9_over_imaged _ _).trans ((gs9_over_imaged _ _).trans (gs9_over_imaged _ _))))))) dX9_keeps_87 ?_
        refine zs9_imaged (bs1 := [w9 G am (s9_imaged (s9_imaged (s9_imaged (s9_imaged (s9_imaged (s9_imaged (s9_imaged (s9_imaged bm m_imaged_2) (upd m_imaged_2 (nI i2_2).toNatClampNeg ((g9_kind bm) (nI i2_2).toNatClampNeg))) (upd (upd m_imaged_2 (nI i2_2).toNatClampNeg ((g9_kind bm) (nI i2_2).toNatClampNeg)) (16 + (nI i2_2)).toNatClampNeg ((g9_head bm) (nI i2_2).toNatClampNeg))) (upd (upd (upd m_imaged_2 (nI i2_2).toNatClampNeg ((g9_kind bm) (nI i2_2).toNatClampNeg)) (16 + (nI i2_2)).toNatClampNeg ((g9_head bm) (nI i2_2).toNatClampNeg)) (32 + (nI i2_2)).toNatClampNeg ((g9_body bm) (nI i2_2).toNatClampNeg))) (upd (upd (upd (upd m_imaged_2 (nI i2_2).toNatClampNeg ((g9_kind bm) (nI i2_2).toNatClampNeg)) (16 + (nI i2_2)).toNatClampNeg ((g9_head bm) (nI i2_2).toNatClampNeg)) (32 + (nI i2_2)).toNatClampNeg ((g9_body bm) (nI i2_2).toNatClampNeg)) (48 + (nI i2_2)).toNatClampNeg ((g9_except bm) (nI i2_2).toNatClampNeg))) (upd (upd (upd (upd (upd m_imaged_2 (nI i2_2).toNatClampNeg ((g9_kind bm) (nI i2_2).toNatClampNeg)) (16 + (nI i2_2)).toNatClampNeg ((g9_head bm) (nI i2_2).toNatClampNeg)) (32 + (nI i2_2)).toNatClampNeg ((g9_body bm) (nI i2_2).toNatClampNeg)) (48 + (nI i2_2)).toNatClampNeg ((g9_except bm) (nI i2_2).toNatClampNeg)) (64 + (nI i2_2)).toNatClampNeg ((g9_strength bm) (nI i2_2).toNatClampNeg))) (upd (upd (upd (upd (upd (upd m_imaged_2 (nI i2_2).toNatClampNeg ((g9_kind bm) (nI i2_2).toNatClampNeg)) (16 + (nI i2_2)).toNatClampNeg ((g9_head bm) (nI i2_2).toNatClampNeg)) (32 + (nI i2_2)).toNatClampNeg ((g9_body bm) (nI i2_2).toNatClampNeg)) (48 + (nI i2_2)).toNatClampNeg ((g9_except bm) (nI i2_2).toNatClampNeg)) (64 + (nI i2_2)).toNatClampNeg ((g9_strength bm) (nI i2_2).toNatClampNeg)) (80 + (nI i2_2)).toNatClampNeg ((g9_off bm) (nI i2_2).toNatClampNeg))) (upd (upd (upd (upd (upd (upd (upd m_imaged_2 (nI i2_2).toNatClampNeg ((g9_kind bm) (nI i2_2).toNatClampNeg)) (16 + (nI i2_2)).toNatClampNeg ((g9_head bm) (nI i2_2).toNatClampNeg)) (32 + (nI i2_2)).toNatClampNeg ((g9_body bm) (nI i2_2).toNatClampNeg)) (48 + (nI i2_2)).toNatClampNeg ((g9_except bm) (nI i2_2).toNatClampNeg)) (64 + (nI i2_2)).toNatClampNeg ((g9_strength bm) (nI i2_2).toNatClampNeg)) (80 + (nI i2_2)).toNatClampNeg ((g9_off bm) (nI i2_2).toNatClampNeg)) (96 + (nI i2_2)).toNatClampNeg ((g9_over bm) (nI i2_2).toNatClampNeg)))]) S hK hP hD hS 0 rfl (zaddL 96 rfl (B := 16) (vp_in_nI (by omega) (by omega)) (by decide) (by decide) (by decide)) (f := (upd (upd (upd (upd (upd (upd m_imaged_2 (nI i2_2).toNatClampNeg ((g9_kind bm) (nI i2_2).toNatClampNeg)) (16 + (nI i2_2)).toNatClampNeg ((g9_head bm) (nI i2_2).toNatClampNeg)) (32 + (nI i2_2)).toNatClampNeg ((g9_body bm) (nI i2_2).toNatClampNeg)) (48 + (nI i2_2)).toNatClampNeg ((g9_except bm) (nI i2_2).toNatClampNeg)) (64 + (nI i2_2)).toNatClampNeg ((g9_strength bm) (nI i2_2).toNatClampNeg)) (80 + (nI i2_2)).toNatClampNeg ((g9_off bm) (nI i2_2).toNatClampNeg))) (gg9_imaged _ _) dX9_keeps_88 rfl (fun H locs hP hD hS => ?_)
        refine lv_iinc (v := (nI (i2_2 + 1))) (lv' := [(2, .int (nI (i2_2 + 1))), (0, .ref (am 0)), (1, .ref (am 13))]) hx hb dX9_keeps_89 hl (k := 2) rfl (nI_1 i2_2) (by decide) rfl (fun ls hl => ?_)
        try rw [nI_1 i2_2] at hE
        refine lv_goto (tgt := 2) hx hb dX9_keeps_92 (by decide) ?_
        rw [show (s9_imaged (s9_imaged (s9_imaged (s9_imaged (s9_imaged (s9_imaged (s9_imaged (s9_imaged bm m_imaged_2) (upd m_imaged_2 (nI i2_2).toNatClampNeg ((g9_kind bm) (nI i2_2).toNatClampNeg))) (upd (upd m_imaged_2 (nI i2_2).toNatClampNeg ((g9_kind bm) (nI i2_2).toNatClampNeg)) (16 + (nI i2_2)).toNatClampNeg ((g9_head bm) (nI i2_2).toNatClampNeg))) (upd (upd (upd m_imaged_2 (nI i2_2).toNatClampNeg ((g9_kind bm) (nI i2_2).toNatClampNeg)) (16 + (nI i2_2)).toNatClampNeg ((g9_head bm) (nI i2_2).toNatClampNeg)) (32 + (nI i2_2)).toNatClampNeg ((g9_body bm) (nI i2_2).toNatClampNeg))) (upd (upd (upd (upd m_imaged_2 (nI i2_2).toNatClampNeg ((g9_kind bm) (nI i2_2).toNatClampNeg)) (16 + (nI i2_2)).toNatClampNeg ((g9_head bm) (nI i2_2).toNatClampNeg)) (32 + (nI i2_2)).toNatClampNeg ((g9_body bm) (nI i2_2).toNatClampNeg)) (48 + (nI i2_2)).toNatClampNeg ((g9_except bm) (nI i2_2).toNatClampNeg))) (upd (upd (upd (upd (upd m_imaged_2 (nI i2_2).toNatClampNeg ((g9_kind bm) (nI i2_2).toNatClampNeg)) (16 + (nI i2_2)).toNatClampNeg ((g9_head bm) (nI i2_2).toNatClampNeg)) (32 + (nI i2_2)).toNatClampNeg ((g9_body bm) (nI i2_2).toNatClampNeg)) (48 + (nI i2_2)).toNatClampNeg ((g9_except bm) (nI i2_2).toNatClampNeg)) (64 + (nI i2_2)).toNatClampNeg ((g9_strength bm) (nI i2_2).toNatClampNeg))) (upd (upd (upd (upd (upd (upd m_imaged_2 (nI i2_2).toNatClampNeg ((g9_kind bm) (nI i2_2).toNatClampNeg)) (16 + (nI i2_2)).toNatClampNeg ((g9_head bm) (nI i2_2).toNatClampNeg)) (32 + (nI i2_2)).toNatClampNeg ((g9_body bm) (nI i2_2).toNatClampNeg)) (48 + (nI i2_2)).toNatClampNeg ((g9_except bm) (nI i2_2).toNatClampNeg)) (64 + (nI i2_2)).toNatClampNeg ((g9_strength bm) (nI i2_2).toNatClampNeg)) (80 + (nI i2_2)).toNatClampNeg ((g9_off bm) (nI i2_2).toNatClampNeg))) (upd (upd (upd (upd (upd (upd (upd m_imaged_2 (nI i2_2).toNatClampNeg ((g9_kind bm) (nI i2_2).toNatClampNeg)) (16 + (nI i2_2)).toNatClampNeg ((g9_head bm) (nI i2_2).toNatClampNeg)) (32 + (nI i2_2)).toNatClampNeg ((g9_body bm) (nI i2_2).toNatClampNeg)) (48 + (nI i2_2)).toNatClampNeg ((g9_except bm) (nI i2_2).toNatClampNeg)) (64 + (nI i2_2)).toNatClampNeg ((g9_strength bm) (nI i2_2).toNatClampNeg)) (80 + (nI i2_2)).toNatClampNeg ((g9_off bm) (nI i2_2).toNatClampNeg)) (96 + (nI i2_2)).toNatClampNeg ((g9_over bm) (nI i2_2).toNatClampNeg))) = (s9_imaged bm (upd (upd (upd (upd (upd (upd (upd m_imaged_2 (nI i2_2).toNatClampNeg ((g9_kind bm) (nI i2_2).toNatClampNeg)) (16 + (nI i2_2)).toNatClampNeg ((g9_head bm) (nI i2_2).toNatClampNeg)) (32 + (nI i2_2)).toNatClampNeg ((g9_body bm) (nI i2_2).toNatClampNeg)) (48 + (nI i2_2)).toNatClampNeg ((g9_except bm) (nI i2_2).toNatClampNeg)) (64 + (nI i2_2)).toNatClampNeg ((g9_strength bm) (nI i2_2).toNatClampNeg)) (80 + (nI i2_2)).toNatClampNeg ((g9_off bm) (nI i2_2).toNatClampNeg)) (96 + (nI i2_2)).toNatClampNeg ((g9_over bm) (nI i2_2).toNatClampNeg))) from ((congrArg (fun z => s9_imaged z (upd (upd (upd (upd (upd (upd (upd m_imaged_2 (nI i2_2).toNatClampNeg ((g9_kind bm) (nI i2_2).toNatClampNeg)) (16 + (nI i2_2)).toNatClampNeg ((g9_head bm) (nI i2_2).toNatClampNeg)) (32 + (nI i2_2)).toNatClampNeg ((g9_body bm) (nI i2_2).toNatClampNeg)) (48 + (nI i2_2)).toNatClampNeg ((g9_except bm) (nI i2_2).toNatClampNeg)) (64 + (nI i2_2)).toNatClampNeg ((g9_strength bm) (nI i2_2).toNatClampNeg)) (80 + (nI i2_2)).toNatClampNeg ((g9_off bm) (nI i2_2).toNatClampNeg)) (96 + (nI i2_2)).toNatClampNeg ((g9_over bm) (nI i2_2).toNatClampNeg))) ((congrArg (fun z => s9_imaged z (upd (upd (upd (upd (upd (upd m_imaged_2 (nI i2_2).toNatClampNeg ((g9_kind bm) (nI i2_2).toNatClampNeg)) (16 + (nI i2_2)).toNatClampNeg ((g9_head bm) (nI i2_2).toNatClampNeg)) (32 + (nI i2_2)).toNatClampNeg ((g9_body bm) (nI i2_2).toNatClampNeg)) (48 + (nI i2_2)).toNatClampNeg ((g9_except bm) (nI i2_2).toNatClampNeg)) (64 + (nI i2_2)).toNatClampNeg ((g9_strength bm) (nI i2_2).toNatClampNeg)) (80 + (nI i2_2)).toNatClampNeg ((g9_off bm) (nI i2_2).toNatClampNeg))) ((congrArg (fun z => s9_imaged z (upd (upd (upd (upd (upd m_imaged_2 (nI i2_2).toNatClampNeg ((g9_kind bm) (nI i2_2).toNatClampNeg)) (16 + (nI i2_2)).toNatClampNeg ((g9_head bm) (nI i2_2).toNatClampNeg)) (32 + (nI i2_2)).toNatClampNeg ((g9_body bm) (nI i2_2).toNatClampNeg)) (48 + (nI i2_2)).toNatClampNeg ((g9_except bm) (nI i2_2).toNatClampNeg)) (64 + (nI i2_2)).toNatClampNeg ((g9_strength bm) (nI i2_2).toNatClampNeg))) ((congrArg (fun z => s9_imaged z (upd (upd (upd (upd m_imaged_2 (nI i2_2).toNatClampNeg ((g9_kind bm) (nI i2_2).toNatClampNeg)) (16 + (nI i2_2)).toNatClampNeg ((g9_head bm) (nI i2_2).toNatClampNeg)) (32 + (nI i2_2)).toNatClampNeg ((g9_body bm) (nI i2_2).toNatClampNeg)) (48 + (nI i2_2)).toNatClampNeg ((g9_except bm) (nI i2_2).toNatClampNeg))) ((congrArg (fun z => s9_imaged z (upd (upd (upd m_imaged_2 (nI i2_2).toNatClampNeg ((g9_kind bm) (nI i2_2).toNatClampNeg)) (16 + (nI i2_2)).toNatClampNeg ((g9_head bm) (nI i2_2).toNatClampNeg)) (32 + (nI i2_2)).toNatClampNeg ((g9_body bm) (nI i2_2).toNatClampNeg))) ((congrArg (fun z => s9_imaged z (upd (upd m_imaged_2 (nI i2_2).toNatClampNeg ((g9_kind bm) (nI i2_2).toNatClampNeg)) (16 + (nI i2_2)).toNatClampNeg ((g9_head bm) (nI i2_2).toNatClampNeg))) (ss9_imaged _ _ _)).trans (ss9_imaged _ _ _))).trans (ss9_imaged _ _ _))).trans (ss9_imaged _ _ _))).trans (ss9_imaged _ _ _))).trans (ss9_imaged _ _ _))).trans (ss9_imaged _ _ _))] at hP hD
        exact ih2 (i2_2 + 1) (upd (upd (upd (upd (upd (upd (upd m_imaged_2 (nI i2_2).toNatClampNeg ((g9_kind bm) (nI i2_2).toNatClampNeg)) (16 + (nI i2_2)).toNatClampNeg ((g9_head bm) (nI i2_2).toNatClampNeg)) (32 + (nI i2_2)).toNatClampNeg ((g9_body bm) (nI i2_2).toNatClampNeg)) (48 + (nI i2_2)).toNatClampNeg ((g9_except bm) (nI i2_2).toNatClampNeg)) (64 + (nI i2_2)).toNatClampNeg ((g9_strength bm) (nI i2_2).toNatClampNeg)) (80 + (nI i2_2)).toNatClampNeg ((g9_off bm) (nI i2_2).toNatClampNeg)) (96 + (nI i2_2)).toNatClampNeg ((g9_over bm) (nI i2_2).toNatClampNeg)) _ _ _ (by first | assumption | omega) (by omega) hE hP hD hS (lv_sub hl [1, 2, 0] rfl)
  refine lv_istore_n (lv' := [(2, .int 0), (0, .ref (am 0)), (1, .ref (am 13))]) hx hb dX9_keeps_1 rfl hl (by decide) rfl (fun ls hl => ?_)
  rw [show bm = (s9_imaged bm (g9_imaged bm)) from ((se9_imaged _).symm)] at hP hD
  exact hB2 17 0 (g9_imaged bm) _ _ _ (by first | assumption | omega) (by omega) hE hP hD hS (lv_sub hl [1, 2, 0] rfl)

theorem in_X9_again_9 : ∀ w ∈ u_ws RX9 TX9 40, w ∈ wsX9_again := by decide +kernel
def rmX9_again_before : Room := { frames := 0, cells := 0, slots := 0, locals := 0 }
set_option maxHeartbeats 4000000 in
set_option maxRecDepth 100000 in
theorem c_X9_again_before (l : Launch) (G : zG) (am : Nat → Nat) (bm : S9) (T : (Int32) × (Int32) × (Nat → Int32) × (Nat → Int32) × (Nat → Int32) × (Nat → Int32) × (Nat → Int32) × (Nat → Int32) × (Nat → Int32)) (hT : FX9_again_before (g9_facts bm) (g9_rules bm) (g9_kind bm) (g9_head bm) (g9_body bm) (g9_except bm) (g9_strength bm) (g9_off bm) (g9_over bm) (g9_before bm) = T) : zV l yX9_again wsX9_again rmX9_again_before G [.ref (am 0), .ref (am 14)] [w9 G am bm] [w9 G am (s9_over (s9_off (s9_strength (s9_except (s9_body (s9_head (s9_kind (s9_rules (s9_facts bm T.1) T.2.1) T.2.2.1) T.2.2.2.1) T.2.2.2.2.1) T.2.2.2.2.2.1) T.2.2.2.2.2.2.1) T.2.2.2.2.2.2.2.1) T.2.2.2.2.2.2.2.2)] := by
  refine zV.mk (cc := cX9_again) (maxL := 3) (by decide +kernel) rfl (Nat.le_of_ble_eq_true rfl) (zfl_cons (wf9 _ _ _ _) rfl) ?_
  intro p e s m args below meth c Q A ls S hK hD hA hP hl hret
  have hx := S.1
  have hb := S.2.1
  have hS : va_S A s.heap s.heap [] := va_S.rf
  have hl : lv_has ls 3 [(0, .ref (am 0)), (1, .ref (am 14))] := hl
  have hE := hT.symm.trans (FX9_again_before.eq_1 _ _ _ _ _ _ _ _ _ _)
  refine lv_iconst (v := 0) hx hb dX9_again_0 (by decide) ?_
  have hB95 : ∀ (m_kind_95 : Nat → Int32) (m_head_95 : Nat → Int32) (m_body_95 : Nat → Int32) (m_except_95 : Nat → Int32) (m_strength_95 : Nat → Int32) (m_off_95 : Nat → Int32) (m_over_95 : Nat → Int32) (H : Heap) (locs : List Loc) (ls : Array Slot), T = FX9_again_before_95 (g9_facts bm) (g9_rules bm) (g9_kind bm) (g9_head bm) (g9_body bm) (g9_except bm) (g9_strength bm) (g9_off bm) (g9_over bm) (g9_before bm) (g9_facts bm) (g9_rules bm) m_kind_95 m_head_95 m_body_95 m_except_95 m_strength_95 m_off_95 m_over_95 → zP G [w9 G am (s9_over (s9_off (s9_strength (s9_except (s9_body (s9_head (s9_kind bm m_kind_95) m_head_95) m_body_95) m_except_95) m_strength_95) m_off_95) m_over_95)] H → zD A [w9 G am (s9_over (s9_off (s9_strength (s9_except (s9_body (s9_head (s9_kind bm m_kind_95) m_head_95) m_body_95) m_except_95) m_strength_95) m_off_95) m_over_95)] → va_S A s.heap H locs → lv_has ls 3 [(0, .ref (am 0)), (1, .ref (am 14))] → W p l e rmX9_again_before s m args below meth c H locs 0 0 Q (F0 m 95 ls []) := by
    intro m_kind_95 m_head_95 m_body_95 m_except_95 m_strength_95 m_off_95 m_over_95 H locs ls hE hP hD hS hl
    have hE := hE.trans (FX9_again_before_95.eq_1 _ _ _ _ _ _ _ _ _ _ _ _ _ _ _ _ _ _ _)
    refine lv_aload_n hx hb dX9_again_95 rfl (lv_at hl 0 rfl) ?_
    refine lv_aload_n hx hb dX9_again_96 rfl (lv_at hl 1 rfl) ?_
    refine lv_bipush (v := 112) hx hb dX9_again_97 (by decide) ?_
    refine zl9_before S hK hP 0 rfl (zin_k (n := 112) rfl (by decide) (by decide)) (f := (g9_before bm)) ((gs9_before_over _ _).trans ((gs9_before_off _ _).trans ((gs9_before_strength _ _).trans ((gs9_before_except _ _).trans ((gs9_before_body _ _).trans ((gs9_before_head _ _).trans (gs9_before_kind _ _))))))) dX9_again_99 ?_
    refine zp9_facts (bs1 := [w9 G am (s9_facts (s9_over (s9_off (s9_strength (s9_except (s9_body (s9_head (s9_kind bm m_kind_95) m_head_95) m_body_95) m_except_95) m_strength_95) m_off_95) m_over_95) ((g9_before bm) (112 : Int32).toNatClampNeg))]) S in_X9_again_9 hK hP hD hS 0 rfl (List.mem_of_getElem? (i := 8) rfl) dX9_again_100 rfl (fun H locs hP hD hS => ?_)
    refine lv_aload_n hx hb dX9_again_103 rfl (lv_at hl 0 rfl) ?_
    refine lv_aload_n hx hb dX9_again_104 rfl (lv_at hl 1 rfl) ?_
    refine lv_bipush (v := 113) hx hb dX9_again_105 (by decide) ?_
    refine zl9_before S hK hP 0 rfl (zin_k (n := 113) rfl (by decide) (by decide)) (f := (g9_before bm)) ((gs9_before_facts _ _).trans ((gs9_before_over _ _).trans ((gs9_before_off _ _).trans ((gs9_before_strength _ _).trans ((gs9_before_except _ _).trans ((gs9_before_body _ _).trans ((gs9_before_head _ _).trans (gs9_before_kind _ _)))))))) dX9_again_107 ?_
    refine zp9_rules (bs1 := [w9 G am (s9_rules (s9_facts (s9_over (s9_off (s9_strength (s9_except (s9_body (s9_head (s9_kind bm m_kind_95) m_head_95) m_body_95) m_except_95) m_strength_95) m_off_95) m_over_95) ((g9_before bm) (112 : Int32).toNatClampNeg)) ((g9_before bm) (113 : Int32).toNatClampNeg))]) S in_X9_again_9 hK hP hD hS 0 rfl (List.mem_of_getElem? (i := 9) rfl) dX9_again_108 rfl (fun H locs hP hD hS => ?_)
    rw [show (s9_rules (s9_facts (s9_over (s9_off (s9_strength (s9_except (s9_body (s9_head (s9_kind bm m_kind_95) m_head_95) m_body_95) m_except_95) m_strength_95) m_off_95) m_over_95) ((g9_before bm) (112 : Int32).toNatClampNeg)) ((g9_before bm) (113 : Int32).toNatClampNeg)) = (s9_over (s9_off (s9_strength (s9_except (s9_body (s9_head (s9_kind (s9_rules (s9_facts bm ((g9_before bm) (112 : Int32).toNatClampNeg)) ((g9_before bm) (113 : Int32).toNatClampNeg)) m_kind_95) m_head_95) m_body_95) m_except_95) m_strength_95) m_off_95) m_over_95) from ((congrArg (fun z => s9_rules z ((g9_before bm) (113 : Int32).toNatClampNeg)) ((cm9_facts_over _ _ _).trans (congrArg (fun z => s9_over z m_over_95) ((cm9_facts_off _ _ _).trans (congrArg (fun z => s9_off z m_off_95) ((cm9_facts_strength _ _ _).trans (congrArg (fun z => s9_strength z m_strength_95) ((cm9_facts_except _ _ _).trans (congrArg (fun z => s9_except z m_except_95) ((cm9_facts_body _ _ _).trans (congrArg (fun z => s9_body z m_body_95) ((cm9_facts_head _ _ _).trans (congrArg (fun z => s9_head z m_head_95) (cm9_facts_kind _ _ _)))))))))))))).trans ((cm9_rules_over _ _ _).trans (congrArg (fun z => s9_over z m_over_95) ((cm9_rules_off _ _ _).trans (congrArg (fun z => s9_off z m_off_95) ((cm9_rules_strength _ _ _).trans (congrArg (fun z => s9_strength z m_strength_95) ((cm9_rules_except _ _ _).trans (congrArg (fun z => s9_except z m_except_95) ((cm9_rules_body _ _ _).trans (congrArg (fun z => s9_body z m_body_95) ((cm9_rules_head _ _ _).trans (congrArg (fun z => s9_head z m_head_95) (cm9_rules_kind _ _ _))))))))))))))] at hP hD
    exact hret _ _ _ _ _ (by subst hE; rfl) hP hS dX9_again_111
  have hB2 : ∀ (n2 : Nat) (i2_2 : Nat) (m_kind_2 : Nat → Int32) (m_head_2 : Nat → Int32) (m_body_2 : Nat → Int32) (m_except_2 : Nat → Int32) (m_strength_2 : Nat → Int32) (m_off_2 : Nat → Int32) (m_over_2 : Nat → Int32) (H : Heap) (locs : List Loc) (ls : Array Slot), (i2_2 ≤ 16) → 17 ≤ i2_2 + n2 → T = FX9_again_before_2 (g9_facts bm) (g9_rules bm) (g9_kind bm) (g9_head bm) (g9_body bm) (g9_except bm) (g9_strength bm) (g9_off bm) (g9_over bm) (g9_before bm) (FX9_again_before_95 (g9_facts bm) (g9_rules bm) (g9_kind bm) (g9_head bm) (g9_body bm) (g9_except bm) (g9_strength bm) (g9_off bm) (g9_over bm) (g9_before bm)) n2 (nI i2_2) (g9_facts bm) (g9_rules bm) m_kind_2 m_head_2 m_body_2 m_except_2 m_strength_2 m_off_2 m_over_2 → zP G [w9 G am (s9_over (s9_off (s9_strength (s9_except (s9_body (s9_head (s9_kind bm m_kind_2) m_head_2) m_body_2) m_except_2) m_strength_2) m_off_2) m_over_2)] H → zD A [w9 G am (s9_over (s9_off (s9_strength (s9_except (s9_body (s9_head (s9_kind bm m_kind_2) m_head_2) m_body_2) m_except_2) m_strength_2) m_off_2) m_over_2)] → va_S A s.heap H locs → lv_has ls 3 [(0, .ref (am 0)), (1, .ref (am 14)), (2, .int (nI i2_2))] → W p l e rmX9_again_before s m args below meth c H locs 0 0 Q (F0 m 2 ls []) := by
    intro n2
    induction n2 with
    | zero =>
      intro i2_2 m_kind_2 m_head_2 m_body_2 m_except_2 m_strength_2 m_off_2 m_over_2 H locs ls hi2_2 hn hE hP hD hS hl
      exact absurd hn (by omega)
    | succ n2 ih2 =>
      intro i2_2 m_kind_2 m_head_2 m_body_2 m_except_2 m_strength_2 m_off_2 m_over_2 H locs ls hi2_2 hn hE hP hD hS hl
      have hE := hE.trans (FX9_again_before_2.eq_2 _ _ _ _ _ _ _ _ _ _ _ _ _ _ _ _ _ _ _ _ _ _)
      refine lv_iload_n hx hb dX9_again_2 rfl (lv_at hl 2 rfl) ?_
      refine lv_bipush (v := 16) hx hb dX9_again_3 (by decide) ?_
      refine lv_icmp_ge (tgt := 95) hx hb dX9_again_5 (by decide) (fun c5 => ?_) (fun c5 => ?_)
      · have hE := hE.trans (if_pos c5)
        exact hB95 m_kind_2 m_head_2 m_body_2 m_except_2 m_strength_2 m_off_2 m_over_2 _ _ _ hE hP hD hS (lv_sub hl [0, 1] rfl)
      · have hE := hE.trans (if_neg c5)
        have hl2_2 : i2_2 < 16 := zlt (N := 16) rfl (by omega) (by omega) c5
        refine lv_aload_n hx hb dX9_again_8 rfl (lv_at hl 0 rfl) ?_
        refine zg9_kind S in_X9_again_9 hK hP 0 rfl (List.mem_of_getElem? (i := 1) rfl) dX9_again_9 ?_
        refine lv_iload_n hx hb dX9_again_12 rfl (lv_at hl 2 rfl) ?_
        refine lv_aload_n hx hb dX9_again_13 rfl (lv_at hl 1 rfl) ?_
        refine lv_iload_n hx hb dX9_again_14 rfl (lv_at hl 2 rfl) ?_
        refine zl9_before S hK hP 0 rfl (vp_in_nI (by omega) (by omega)) (f := (g9_before bm)) ((gs9_before_over _ _).trans ((gs9_before_off _ _).trans ((gs9_before_strength _ _).trans ((gs9_before_except _ _).trans ((gs9_before_body _ _).trans ((gs9_before_head _ _).trans (gs9_before_kind _ _))))))) dX9_again_15 ?_
        refine zs9_kind (bs1 := [w9 G am (s9_kind (s9_over (s9_off (s9_strength (s9_except (s9_body (s9_head (s9_kind bm m_kind_2) m_head_2) m_body_2) m_except_2) m_strength_2) m_off_2) m_over_2) (upd m_kind_2 (nI i2_2).toNatClampNeg ((g9_before bm) (nI i2_2).toNatClampNeg)))]) S hK hP hD hS 0 rfl (vp_in_nI (by omega) (by omega)) (f := m_kind_2) ((gs9_kind_over _ _).trans ((gs9_kind_off _ _).trans ((gs9_kind_strength _ _).trans ((gs9_kind_except _ _).trans ((gs9_kind_body _ _).trans ((gs9_kind_head _ _).trans (gg9_kind _ _))))))) dX9_again_16 rfl (fun H locs hP hD hS => ?_)
        refine lv_aload_n hx hb dX9_again_17 rfl (lv_at hl 0 rfl) ?_
        refine zg9_head S in_X9_again_9 hK hP 0 rfl (List.mem_of_getElem? (i := 2) rfl) dX9_again_18 ?_
        refine lv_iload_n hx hb dX9_again_21 rfl (lv_at hl 2 rfl) ?_
        refine lv_aload_n hx hb dX9_again_22 rfl (lv_at hl 1 rfl) ?_
        refine lv_bipush (v := 16) hx hb dX9_again_23 (by decide) ?_
        refine lv_iload_n hx hb dX9_again_25 rfl (lv_at hl 2 rfl) ?_
        refine lv_iadd hx hb dX9_again_26 ?_
        refine zl9_before S hK hP 0 rfl (zaddL 16 rfl (B := 16) (vp_in_nI (by omega) (by omega)) (by decide) (by decide) (by decide)) (f := (g9_before bm)) ((gs9_before_kind _ _).trans ((gs9_before_over _ _).trans ((gs9_before_off _ _).trans ((gs9_before_strength _ _).trans ((gs9_before_except _ _).trans ((gs9_before_body _ _).trans ((gs9_before_head _ _).trans (gs9_before_kind _ _)))))))) dX9_again_27 ?_
        refine zs9_head (bs1 := [w9 G am (s9_head (s9_kind (s9_over (s9_off (s9_strength (s9_except (s9_body (s9_head (s9_kind bm m_kind_2) m_head_2) m_body_2) m_except_2) m_strength_2) m_off_2) m_over_2) (upd m_kind_2 (nI i2_2).toNatClampNeg ((g9_before bm) (nI i2_2).toNatClampNeg))) (upd m_head_2 (nI i2_2).toNatClampNeg ((g9_before bm) (16 + (nI i2_2)).toNatClampNeg)))]) S hK hP hD hS 0 rfl (vp_in_nI (by omega) (by omega)) (f := m_head_2) ((gs9_head_kind _ _).trans ((gs9_head_over _ _).trans ((gs9_head_off _ _).trans ((gs9_head_strength _ _).trans ((gs9_head_except _ _).trans ((gs9_head_body _ _).trans (gg9_head _ _))))))) dX9_again_28 rfl (fun H locs hP hD hS => ?_)
        refine lv_aload_n hx hb dX9_again_29 rfl (lv_at hl 0 rfl) ?_
        refine zg9_body S in_X9_again_9 hK hP 0 rfl (List.mem_of_getElem? (i := 3) rfl) dX9_again_30 ?_
        refine lv_iload_n hx hb dX9_again_33 rfl (lv_at hl 2 rfl) ?_
        refine lv_aload_n hx hb dX9_again_34 rfl (lv_at hl 1 rfl) ?_
        refine lv_bipush (v := 32) hx hb dX9_again_35 (by decide) ?_
        refine lv_iload_n hx hb dX9_again_37 rfl (lv_at hl 2 rfl) ?_
        refine lv_iadd hx hb dX9_again_38 ?_
        refine zl9_before S hK hP 0 rfl (zaddL 32 rfl (B := 16) (vp_in_nI (by omega) (by omega)) (by decide) (by decide) (by decide)) (f := (g9_before bm)) ((gs9_before_head _ _).trans ((gs9_before_kind _ _).trans ((gs9_before_over _ _).trans ((gs9_before_off _ _).trans ((gs9_before_strength _ _).trans ((gs9_before_except _ _).trans ((gs9_before_body _ _).trans ((gs9_before_head _ _).trans (gs9_before_kind _ _))))))))) dX9_again_39 ?_
        refine zs9_body (bs1 := [w9 G am (s9_body (s9_head (s9_kind (s9_over (s9_off (s9_strength (s9_except (s9_body (s9_head (s9_kind bm m_kind_2) m_head_2) m_body_2) m_except_2) m_strength_2) m_off_2) m_over_2) (upd m_kind_2 (nI i2_2).toNatClampNeg ((g9_before bm) (nI i2_2).toNatClampNeg))) (upd m_head_2 (nI i2_2).toNatClampNeg ((g9_before bm) (16 + (nI i2_2)).toNatClampNeg))) (upd m_body_2 (nI i2_2).toNatClampNeg ((g9_before bm) (32 + (nI i2_2)).toNatClampNeg)))]) S hK hP hD hS 0 rfl (vp_in_nI (by omega) (by omega)) (f := m_body_2) ((gs9_body_head _ _).trans ((gs9_body_kind _ _).trans ((gs9_body_over _ _).trans ((gs9_body_off _ _).trans ((gs9_body_strength _ _).trans ((gs9_body_except _ _).trans (gg9_body _ _))))))) dX9_again_40 rfl (fun H locs hP hD hS => ?_)
        refine lv_aload_n hx hb dX9_again_41 rfl (lv_at hl 0 rfl) ?_
        refine zg9_except S in_X9_again_9 hK hP 0 rfl (List.mem_of_getElem? (i := 4) rfl) dX9_again_42 ?_
        refine lv_iload_n hx hb dX9_again_45 rfl (lv_at hl 2 rfl) ?_
        refine lv_aload_n hx hb dX9_again_46 rfl (lv_at hl 1 rfl) ?_
        refine lv_bipush (v := 48) hx hb dX9_again_47 (by decide) ?_
        refine lv_iload_n hx hb dX9_again_49 rfl (lv_at hl 2 rfl) ?_
        refine lv_iadd hx hb dX9_again_50 ?_
        refine zl9_before S hK hP 0 rfl (zaddL 48 rfl (B := 16) (vp_in_nI (by omega) (by omega)) (by decide) (by decide) (by decide)) (f := (g9_before bm)) ((gs9_before_body _ _).trans ((gs9_before_head _ _).trans ((gs9_before_kind _ _).trans ((gs9_before_over _ _).trans ((gs9_before_off _ _).trans ((gs9_before_strength _ _).trans ((gs9_before_except _ _).trans ((gs9_before_body _ _).trans ((gs9_before_head _ _).trans (gs9_before_kind _ _)))))))))) dX9_again_51 ?_
        refine zs9_except (bs1 := [w9 G am (s9_except (s9_body (s9_head (s9_kind (s9_over (s9_off (s9_strength (s9_except (s9_body (s9_head (s9_kind bm m_kind_2) m_head_2) m_body_2) m_except_2) m_strength_2) m_off_2) m_over_2) (upd m_kind_2 (nI i2_2).toNatClampNeg ((g9_before bm) (nI i2_2).toNatClampNeg))) (upd m_head_2 (nI i2_2).toNatClampNeg ((g9_before bm) (16 + (nI i2_2)).toNatClampNeg))) (upd m_body_2 (nI i2_2).toNatClampNeg ((g9_before bm) (32 + (nI i2_2)).toNatClampNeg))) (upd m_except_2 (nI i2_2).toNatClampNeg ((g9_before bm) (48 + (nI i2_2)).toNatClampNeg)))]) S hK hP hD hS 0 rfl (vp_in_nI (by omega) (by omega)) (f := m_except_2) ((gs9_except_body _ _).trans ((gs9_except_head _ _).trans ((gs9_except_kind _ _).trans ((gs9_except_over _ _).trans ((gs9_except_off _ _).trans ((gs9_except_strength _ _).trans (gg9_except _ _))))))) dX9_again_52 rfl (fun H locs hP hD hS => ?_)
        refine lv_aload_n hx hb dX9_again_53 rfl (lv_at hl 0 rfl) ?_
        refine zg9_strength S in_X9_again_9 hK hP 0 rfl (List.mem_of_getElem? (i := 5) rfl) dX9_again_54 ?_
        refine lv_iload_n hx hb dX9_again_57 rfl (lv_at hl 2 rfl) ?_
        refine lv_aload_n hx hb dX9_again_58 rfl (lv_at hl 1 rfl) ?_
        refine lv_bipush (v := 64) hx hb dX9_again_59 (by decide) ?_
        refine lv_iload_n hx hb dX9_again_61 rfl (lv_at hl 2 rfl) ?_
        refine lv_iadd hx hb dX9_again_62 ?_
        refine zl9_before S hK hP 0 rfl (zaddL 64 rfl (B := 16) (vp_in_nI (by omega) (by omega)) (by decide) (by decide) (by decide)) (f := (g9_before bm)) ((gs9_before_except _ _).trans ((gs9_before_body _ _).trans ((gs9_before_head _ _).trans ((gs9_before_kind _ _).trans ((gs9_before_over _ _).trans ((gs9_before_off _ _).trans ((gs9_before_strength _ _).trans ((gs9_before_except _ _).trans ((gs9_before_body _ _).trans ((gs9_before_head _ _).trans (gs9_before_kind _ _))))))))))) dX9_again_63 ?_
        refine zs9_strength (bs1 := [w9 G am (s9_strength (s9_except (s9_body (s9_head (s9_kind (s9_over (s9_off (s9_strength (s9_except (s9_body (s9_head (s9_kind bm m_kind_2) m_head_2) m_body_2) m_except_2) m_strength_2) m_off_2) m_over_2) (upd m_kind_2 (nI i2_2).toNatClampNeg ((g9_before bm) (nI i2_2).toNatClampNeg))) (upd m_head_2 (nI i2_2).toNatClampNeg ((g9_before bm) (16 + (nI i2_2)).toNatClampNeg))) (upd m_body_2 (nI i2_2).toNatClampNeg ((g9_before bm) (32 + (nI i2_2)).toNatClampNeg))) (upd m_except_2 (nI i2_2).toNatClampNeg ((g9_before bm) (48 + (nI i2_2)).toNatClampNeg))) (upd m_strength_2 (nI i2_2).toNatClampNeg ((g9_before bm) (64 + (nI i2_2)).toNatClampNeg)))]) S hK hP hD hS 0 rfl (vp_in_nI (by omega) (by omega)) (f := m_strength_2) ((gs9_strength_except _ _).trans ((gs9_strength_body _ _).trans ((gs9_strength_head _ _).trans ((gs9_strength_kind _ _).trans ((gs9_strength_over _ _).trans ((gs9_strength_off _ _).trans (gg9_strength _ _))))))) dX9_again_64 rfl (fun H locs hP hD hS => ?_)
        refine lv_aload_n hx hb dX9_again_65 rfl (lv_at hl 0 rfl) ?_
        refine zg9_off S in_X9_again_9 hK hP 0 rfl (List.mem_of_getElem? (i := 6) rfl) dX9_again_66 ?_
        refine lv_iload_n hx hb dX9_again_69 rfl (lv_at hl 2 rfl) ?_
        refine lv_aload_n hx hb dX9_again_70 rfl (lv_at hl 1 rfl) ?_
        refine lv_bipush (v := 80) hx hb dX9_again_71 (by decide) ?_
        refine lv_iload_n hx hb dX9_again_73 rfl (lv_at hl 2 rfl) ?_
        refine lv_iadd hx hb dX9_again_74 ?_
        refine zl9_before S hK hP 0 rfl (zaddL 80 rfl (B := 16) (vp_in_nI (by omega) (by omega)) (by decide) (by decide) (by decide)) (f := (g9_before bm)) ((gs9_before_strength _ _).trans ((gs9_before_except _ _).trans ((gs9_before_body _ _).trans ((gs9_before_head _ _).trans ((gs9_before_kind _ _).trans ((gs9_before_over _ _).trans ((gs9_before_off _ _).trans ((gs9_before_strength _ _).trans ((gs9_before_except _ _).trans ((gs9_before_body _ _).trans ((gs9_before_head _ _).trans (gs9_before_kind _ _)))))))))))) dX9_again_75 ?_
        refine zs9_off (bs1 := [w9 G am (s9_off (s9_strength (s9_except (s9_body (s9_head (s9_kind (s9_over (s9_off (s9_strength (s9_except (s9_body (s9_head (s9_kind bm m_kind_2) m_head_2) m_body_2) m_except_2) m_strength_2) m_off_2) m_over_2) (upd m_kind_2 (nI i2_2).toNatClampNeg ((g9_before bm) (nI i2_2).toNatClampNeg))) (upd m_head_2 (nI i2_2).toNatClampNeg ((g9_before bm) (16 + (nI i2_2)).toNatClampNeg))) (upd m_body_2 (nI i2_2).toNatClampNeg ((g9_before bm) (32 + (nI i2_2)).toNatClampNeg))) (upd m_except_2 (nI i2_2).toNatClampNeg ((g9_before bm) (48 + (nI i2_2)).toNatClampNeg))) (upd m_strength_2 (nI i2_2).toNatClampNeg ((g9_before bm) (64 + (nI i2_2)).toNatClampNeg))) (upd m_off_2 (nI i2_2).toNatClampNeg ((g9_before bm) (80 + (nI i2_2)).toNatClampNeg)))]) S hK hP hD hS 0 rfl (vp_in_nI (by omega) (by omega)) (f := m_off_2) ((gs9_off_strength _ _).trans ((gs9_off_except _ _).trans ((gs9_off_body _ _).trans ((gs9_off_head _ _).trans ((gs9_off_kind _ _).trans ((gs9_off_over _ _).trans (gg9_off _ _))))))) dX9_again_76 rfl (fun H locs hP hD hS => ?_)
        refine lv_aload_n hx hb dX9_again_77 rfl (lv_at hl 0 rfl) ?_
        refine zg9_over S in_X9_again_9 hK hP 0 rfl (List.mem_of_getElem? (i := 7) rfl) dX9_again_78 ?_
        refine lv_iload_n hx hb dX9_again_81 rfl (lv_at hl 2 rfl) ?_
        refine lv_aload_n hx hb dX9_again_82 rfl (lv_at hl 1 rfl) ?_
        refine lv_bipush (v := 96) hx hb dX9_again_83 (by decide) ?_
        refine lv_iload_n hx hb dX9_again_85 rfl (lv_at hl 2 rfl) ?_
        refine lv_iadd hx hb dX9_again_86 ?_
        refine zl9_before S hK hP 0 rfl (zaddL 96 rfl (B := 16) (vp_in_nI (by omega) (by omega)) (by decide) (by decide) (by decide)) (f := (g9_before bm)) ((gs9_before_off _ _).trans ((gs9_before_strength _ _).trans ((gs9_before_except _ _).trans ((gs9_before_body _ _).trans ((gs9_before_head _ _).trans ((gs9_before_kind _ _).trans ((gs9_before_over _ _).trans ((gs9_before_off _ _).trans ((gs9_before_strength _ _).trans ((gs9_before_except _ _).trans ((gs9_before_body _ _).trans ((gs9_before_head _ _).trans (gs9_before_kind _ _))))))))))))) dX9_again_87 ?_
        refine zs9_over (bs1 := [w9 G am (s9_over (s9_off (s9_strength (s9_except (s9_body (s9_head (s9_kind (s9_over (s9_off (s9_strength (s9_except (s9_body (s9_head (s9_kind bm m_kind_2) m_head_2) m_body_2) m_except_2) m_strength_2) m_off_2) m_over_2) (upd m_kind_2 (nI i2_2).toNatClampNeg ((g9_before bm) (nI i2_2).toNatClampNeg))) (upd m_head_2 (nI i2_2).toNatClampNeg ((g9_before bm) (16 + (nI i2_2)).toNatClampNeg))) (upd m_body_2 (nI i2_2).toNatClampNeg ((g9_before bm) (32 + (nI i2_2)).toNatClampNeg))) (upd m_except_2 (nI i2_2).toNatClampNeg ((g9_before bm) (48 + (nI i2_2)).toNatClampNeg))) (upd m_strength_2 (nI i2_2).toNatClampNeg ((g9_before bm) (64 + (nI i2_2)).toNatClampNeg))) (upd m_off_2 (nI i2_2).toNatClampNeg ((g9_before bm) (80 + (nI i2_2)).toNatClampNeg))) (upd m_over_2 (nI i2_2).toNatClampNeg ((g9_before bm) (96 + (nI i2_2)).toNatClampNeg)))]) S hK hP hD hS 0 rfl (vp_in_nI (by omega) (by omega)) (f := m_over_2) ((gs9_over_off _ _).trans ((gs9_over_strength _ _).trans ((gs9_over_except _ _).trans ((gs9_over_body _ _).trans ((gs9_over_head _ _).trans ((gs9_over_kind _ _).trans (gg9_over _ _))))))) dX9_again_88 rfl (fun H locs hP hD hS => ?_)
        refine lv_iinc (v := (nI (i2_2 + 1))) (lv' := [(2, .int (nI (i2_2 + 1))), (0, .ref (am 0)), (1, .ref (am 14))]) hx hb dX9_again_89 hl (k := 2) rfl (nI_1 i2_2) (by decide) rfl (fun ls hl => ?_)
        try rw [nI_1 i2_2] at hE
        refine lv_goto (tgt := 2) hx hb dX9_again_92 (by decide) ?_
        rw [show (s9_over (s9_off (s9_strength (s9_except (s9_body (s9_head (s9_kind (s9_over (s9_off (s9_strength (s9_except (s9_body (s9_head (s9_kind bm m_kind_2) m_head_2) m_body_2) m_except_2) m_strength_2) m_off_2) m_over_2) (upd m_kind_2 (nI i2_2).toNatClampNeg ((g9_before bm) (nI i2_2).toNatClampNeg))) (upd m_head_2 (nI i2_2).toNatClampNeg ((g9_before bm) (16 + (nI i2_2)).toNatClampNeg))) (upd m_body_2 (nI i2_2).toNatClampNeg ((g9_before bm) (32 + (nI i2_2)).toNatClampNeg))) (upd m_except_2 (nI i2_2).toNatClampNeg ((g9_before bm) (48 + (nI i2_2)).toNatClampNeg))) (upd m_strength_2 (nI i2_2).toNatClampNeg ((g9_before bm) (64 + (nI i2_2)).toNatClampNeg))) (upd m_off_2 (nI i2_2).toNatClampNeg ((g9_before bm) (80 + (nI i2_2)).toNatClampNeg))) (upd m_over_2 (nI i2_2).toNatClampNeg ((g9_before bm) (96 + (nI i2_2)).toNatClampNeg))) = (s9_over (s9_off (s9_strength (s9_except (s9_body (s9_head (s9_kind bm (upd m_kind_2 (nI i2_2).toNatClampNeg ((g9_before bm) (nI i2_2).toNatClampNeg))) (upd m_head_2 (nI i2_2).toNatClampNeg ((g9_before bm) (16 + (nI i2_2)).toNatClampNeg))) (upd m_body_2 (nI i2_2).toNatClampNeg ((g9_before bm) (32 + (nI i2_2)).toNatClampNeg))) (upd m_except_2 (nI i2_2).toNatClampNeg ((g9_before bm) (48 + (nI i2_2)).toNatClampNeg))) (upd m_strength_2 (nI i2_2).toNatClampNeg ((g9_before bm) (64 + (nI i2_2)).toNatClampNeg))) (upd m_off_2 (nI i2_2).toNatClampNeg ((g9_before bm) (80 + (nI i2_2)).toNatClampNeg))) (upd m_over_2 (nI i2_2).toNatClampNeg ((g9_before bm) (96 + (nI i2_2)).toNatClampNeg))) from ((congrArg (fun z => s9_over z (upd m_over_2 (nI i2_2).toNatClampNeg ((g9_before bm) (96 + (nI i2_2)).toNatClampNeg))) ((congrArg (fun z => s9_off z (upd m_off_2 (nI i2_2).toNatClampNeg ((g9_before bm) (80 + (nI i2_2)).toNatClampNeg))) ((congrArg (fun z => s9_strength z (upd m_strength_2 (nI i2_2).toNatClampNeg ((g9_before bm) (64 + (nI i2_2)).toNatClampNeg))) ((congrArg (fun z => s9_except z (upd m_except_2 (nI i2_2).toNatClampNeg ((g9_before bm) (48 + (nI i2_2)).toNatClampNeg))) ((congrArg (fun z => s9_body z (upd m_body_2 (nI i2_2).toNatClampNeg ((g9_before bm) (32 + (nI i2_2)).toNatClampNeg))) ((congrArg (fun z => s9_head z (upd m_head_2 (nI i2_2).toNatClampNeg ((g9_before bm) (16 + (nI i2_2)).toNatClampNeg))) ((cm9_kind_over _ _ _).trans (congrArg (fun z => s9_over z m_over_2) ((cm9_kind_off _ _ _).trans (congrArg (fun z => s9_off z m_off_2) ((cm9_kind_strength _ _ _).trans (congrArg (fun z => s9_strength z m_strength_2) ((cm9_kind_except _ _ _).trans (congrArg (fun z => s9_except z m_except_2) ((cm9_kind_body _ _ _).trans (congrArg (fun z => s9_body z m_body_2) ((cm9_kind_head _ _ _).trans (congrArg (fun z => s9_head z m_head_2) (ss9_kind _ _ _)))))))))))))).trans ((cm9_head_over _ _ _).trans (congrArg (fun z => s9_over z m_over_2) ((cm9_head_off _ _ _).trans (congrArg (fun z => s9_off z m_off_2) ((cm9_head_strength _ _ _).trans (congrArg (fun z => s9_strength z m_strength_2) ((cm9_head_except _ _ _).trans (congrArg (fun z => s9_except z m_except_2) ((cm9_head_body _ _ _).trans (congrArg (fun z => s9_body z m_body_2) (ss9_head _ _ _))))))))))))).trans ((cm9_body_over _ _ _).trans (congrArg (fun z => s9_over z m_over_2) ((cm9_body_off _ _ _).trans (congrArg (fun z => s9_off z m_off_2) ((cm9_body_strength _ _ _).trans (congrArg (fun z => s9_strength z m_strength_2) ((cm9_body_except _ _ _).trans (congrArg (fun z => s9_except z m_except_2) (ss9_body _ _ _))))))))))).trans ((cm9_except_over _ _ _).trans (congrArg (fun z => s9_over z m_over_2) ((cm9_except_off _ _ _).trans (congrArg (fun z => s9_off z m_off_2) ((cm9_except_strength _ _ _).trans (congrArg (fun z => s9_strength z m_strength_2) (ss9_except _ _ _))))))))).trans ((cm9_strength_over _ _ _).trans (congrArg (fun z => s9_over z m_over_2) ((cm9_strength_off _ _ _).trans (congrArg (fun z => s9_off z m_off_2) (ss9_strength _ _ _))))))).trans ((cm9_off_over _ _ _).trans (congrArg (fun z => s9_over z m_over_2) (ss9_off _ _ _))))).trans (ss9_over _ _ _))] at hP hD
        exact ih2 (i2_2 + 1) (upd m_kind_2 (nI i2_2).toNatClampNeg ((g9_before bm) (nI i2_2).toNatClampNeg)) (upd m_head_2 (nI i2_2).toNatClampNeg ((g9_before bm) (16 + (nI i2_2)).toNatClampNeg)) (upd m_body_2 (nI i2_2).toNatClampNeg ((g9_before bm) (32 + (nI i2_2)).toNatClampNeg)) (upd m_except_2 (nI i2_2).toNatClampNeg ((g9_before bm) (48 + (nI i2_2)).toNatClampNeg)) (upd m_strength_2 (nI i2_2).toNatClampNeg ((g9_before bm) (64 + (nI i2_2)).toNatClampNeg)) (upd m_off_2 (nI i2_2).toNatClampNeg ((g9_before bm) (80 + (nI i2_2)).toNatClampNeg)) (upd m_over_2 (nI i2_2).toNatClampNeg ((g9_before bm) (96 + (nI i2_2)).toNatClampNeg)) _ _ _ (by first | assumption | omega) (by omega) hE hP hD hS (lv_sub hl [1, 2, 0] rfl)
  refine lv_istore_n (lv' := [(2, .int 0), (0, .ref (am 0)), (1, .ref (am 14))]) hx hb dX9_again_1 rfl hl (by decide) rfl (fun ls hl => ?_)
  rw [show bm = (s9_over (s9_off (s9_strength (s9_except (s9_body (s9_head (s9_kind bm (g9_kind bm)) (g9_head bm)) (g9_body bm)) (g9_except bm)) (g9_strength bm)) (g9_off bm)) (g9_over bm)) from ((((((((se9_kind _).symm).trans (((se9_head _).symm).trans (congrArg (fun v => s9_head (s9_kind bm (g9_kind bm)) v) (gs9_head_kind _ _)))).trans (((se9_body _).symm).trans (congrArg (fun v => s9_body (s9_head (s9_kind bm (g9_kind bm)) (g9_head bm)) v) ((gs9_body_head _ _).trans (gs9_body_kind _ _))))).trans (((se9_except _).symm).trans (congrArg (fun v => s9_except (s9_body (s9_head (s9_kind bm (g9_kind bm)) (g9_head bm)) (g9_body bm)) v) ((gs9_except_body _ _).trans ((gs9_except_head _ _).trans (gs9_except_kind _ _)))))).trans (((se9_strength _).symm).trans (congrArg (fun v => s9_strength (s9_except (s9_body (s9_head (s9_kind bm (g9_kind bm)) (g9_head bm)) (g9_body bm)) (g9_except bm)) v) ((gs9_strength_except _ _).trans ((gs9_strength_body _ _).trans ((gs9_strength_head _ _).trans (gs9_strength_kind _ _))))))).trans (((se9_off _).symm).trans (congrArg (fun v => s9_off (s9_strength (s9_except (s9_body (s9_head (s9_kind bm (g9_kind bm)) (g9_head bm)) (g9_body bm)) (g9_except bm)) (g9_strength bm)) v) ((gs9_off_strength _ _).trans ((gs9_off_except _ _).trans ((gs9_off_body _ _).trans ((gs9_off_head _ _).trans (gs9_off_kind _ _)))))))).trans (((se9_over _).symm).trans (congrArg (fun v => s9_over (s9_off (s9_strength (s9_except (s9_body (s9_head (s9_kind bm (g9_kind bm)) (g9_head bm)) (g9_body bm)) (g9_except bm)) (g9_strength bm)) (g9_off bm)) v) ((gs9_over_off _ _).trans ((gs9_over_strength _ _).trans ((gs9_over_except _ _).trans ((gs9_over_body _ _).trans ((gs9_over_head _ _).trans (gs9_over_kind _ _)))))))))] at hP hD
  exact hB2 17 0 (g9_kind bm) (g9_head bm) (g9_body bm) (g9_except bm) (g9_strength bm) (g9_off bm) (g9_over bm) _ _ _ (by first | assumption | omega) (by omega) hE hP hD hS (lv_sub hl [1, 2, 0] rfl)

def rmX9_again_imaged : Room := { frames := 0, cells := 0, slots := 0, locals := 0 }
set_option maxHeartbeats 4000000 in
set_option maxRecDepth 100000 in
theorem c_X9_again_imaged (l : Launch) (G : zG) (am : Nat → Nat) (bm : S9) (T : (Int32) × (Int32) × (Nat → Int32) × (Nat → Int32) × (Nat → Int32) × (Nat → Int32) × (Nat → Int32) × (Nat → Int32) × (Nat → Int32)) (hT : FX9_again_imaged (g9_facts bm) (g9_rules bm) (g9_kind bm) (g9_head bm) (g9_body bm) (g9_except bm) (g9_strength bm) (g9_off bm) (g9_over bm) (g9_imaged bm) = T) : zV l yX9_again wsX9_again rmX9_again_imaged G [.ref (am 0), .ref (am 13)] [w9 G am bm] [w9 G am (s9_over (s9_off (s9_strength (s9_except (s9_body (s9_head (s9_kind (s9_rules (s9_facts bm T.1) T.2.1) T.2.2.1) T.2.2.2.1) T.2.2.2.2.1) T.2.2.2.2.2.1) T.2.2.2.2.2.2.1) T.2.2.2.2.2.2.2.1) T.2.2.2.2.2.2.2.2)] := by
  refine zV.mk (cc := cX9_again) (maxL := 3) (by decide +kernel) rfl (Nat.le_of_ble_eq_true rfl) (zfl_cons (wf9 _ _ _ _) rfl) ?_
  intro p e s m args below meth c Q A ls S hK hD hA hP hl hret
  have hx := S.1
  have hb := S.2.1
  have hS : va_S A s.heap s.heap [] := va_S.rf
  have hl : lv_has ls 3 [(0, .ref (am 0)), (1, .ref (am 13))] := hl
  have hE := hT.symm.trans (FX9_again_imaged.eq_1 _ _ _ _ _ _ _ _ _ _)
  refine lv_iconst (v := 0) hx hb dX9_again_0 (by decide) ?_
  have hB95 : ∀ (m_kind_95 : Nat → Int32) (m_head_95 : Nat → Int32) (m_body_95 : Nat → Int32) (m_except_95 : Nat → Int32) (m_strength_95 : Nat → Int32) (m_off_95 : Nat → Int32) (m_over_95 : Nat → Int32) (H : Heap) (locs : List Loc) (ls : Array Slot), T = FX9_again_imaged_95 (g9_facts bm) (g9_rules bm) (g9_kind bm) (g9_head bm) (g9_body bm) (g9_except bm) (g9_strength bm) (g9_off bm) (g9_over bm) (g9_imaged bm) (g9_facts bm) (g9_rules bm) m_kind_95 m_head_95 m_body_95 m_except_95 m_strength_95 m_off_95 m_over_95 → zP G [w9 G am (s9_over (s9_off (s9_strength (s9_except (s9_body (s9_head (s9_kind bm m_kind_95) m_head_95) m_body_95) m_except_95) m_strength_95) m_off_95) m_over_95)] H → zD A [w9 G am (s9_over (s9_off (s9_strength (s9_except (s9_body (s9_head (s9_kind bm m_kind_95) m_head_95) m_body_95) m_except_95) m_strength_95) m_off_95) m_over_95)] → va_S A s.heap H locs → lv_has ls 3 [(0, .ref (am 0)), (1, .ref (am 13))] → W p l e rmX9_again_imaged s m args below meth c H locs 0 0 Q (F0 m 95 ls []) := by
    intro m_kind_95 m_head_95 m_body_95 m_except_95 m_strength_95 m_off_95 m_over_95 H locs ls hE hP hD hS hl
    have hE := hE.trans (FX9_again_imaged_95.eq_1 _ _ _ _ _ _ _ _ _ _ _ _ _ _ _ _ _ _ _)
    refine lv_aload_n hx hb dX9_again_95 rfl (lv_at hl 0 rfl) ?_
    refine lv_aload_n hx hb dX9_again_96 rfl (lv_at hl 1 rfl) ?_
    refine lv_bipush (v := 112) hx hb dX9_again_97 (by decide) ?_
    refine zl9_imaged S hK hP 0 rfl (zin_k (n := 112) rfl (by decide) (by decide)) (f := (g9_imaged bm)) ((gs9_imaged_over _ _).trans ((gs9_imaged_off _ _).trans ((gs9_imaged_strength _ _).trans ((gs9_imaged_except _ _).trans ((gs9_imaged_body _ _).trans ((gs9_imaged_head _ _).trans (gs9_imaged_kind _ _))))))) dX9_again_99 ?_
    refine zp9_facts (bs1 := [w9 G am (s9_facts (s9_over (s9_off (s9_strength (s9_except (s9_body (s9_head (s9_kind bm m_kind_95) m_head_95) m_body_95) m_except_95) m_strength_95) m_off_95) m_over_95) ((g9_imaged bm) (112 : Int32).toNatClampNeg))]) S in_X9_again_9 hK hP hD hS 0 rfl (List.mem_of_getElem? (i := 8) rfl) dX9_again_100 rfl (fun H locs hP hD hS => ?_)
    refine lv_aload_n hx hb dX9_again_103 rfl (lv_at hl 0 rfl) ?_
    refine lv_aload_n hx hb dX9_again_104 rfl (lv_at hl 1 rfl) ?_
    refine lv_bipush (v := 113) hx hb dX9_again_105 (by decide) ?_
    refine zl9_imaged S hK hP 0 rfl (zin_k (n := 113) rfl (by decide) (by decide)) (f := (g9_imaged bm)) ((gs9_imaged_facts _ _).trans ((gs9_imaged_over _ _).trans ((gs9_imaged_off _ _).trans ((gs9_imaged_strength _ _).trans ((gs9_imaged_except _ _).trans ((gs9_imaged_body _ _).trans ((gs9_imaged_head _ _).trans (gs9_imaged_kind _ _)))))))) dX9_again_107 ?_
    refine zp9_rules (bs1 := [w9 G am (s9_rules (s9_facts (s9_over (s9_off (s9_strength (s9_except (s9_body (s9_head (s9_kind bm m_kind_95) m_head_95) m_body_95) m_except_95) m_strength_95) m_off_95) m_over_95) ((g9_imaged bm) (112 : Int32).toNatClampNeg)) ((g9_imaged bm) (113 : Int32).toNatClampNeg))]) S in_X9_again_9 hK hP hD hS 0 rfl (List.mem_of_getElem? (i := 9) rfl) dX9_again_108 rfl (fun H locs hP hD hS => ?_)
    rw [show (s9_rules (s9_facts (s9_over (s9_off (s9_strength (s9_except (s9_body (s9_head (s9_kind bm m_kind_95) m_head_95) m_body_95) m_except_95) m_strength_95) m_off_95) m_over_95) ((g9_imaged bm) (112 : Int32).toNatClampNeg)) ((g9_imaged bm) (113 : Int32).toNatClampNeg)) = (s9_over (s9_off (s9_strength (s9_except (s9_body (s9_head (s9_kind (s9_rules (s9_facts bm ((g9_imaged bm) (112 : Int32).toNatClampNeg)) ((g9_imaged bm) (113 : Int32).toNatClampNeg)) m_kind_95) m_head_95) m_body_95) m_except_95) m_strength_95) m_off_95) m_over_95) from ((congrArg (fun z => s9_rules z ((g9_imaged bm) (113 : Int32).toNatClampNeg)) ((cm9_facts_over _ _ _).trans (congrArg (fun z => s9_over z m_over_95) ((cm9_facts_off _ _ _).trans (congrArg (fun z => s9_off z m_off_95) ((cm9_facts_strength _ _ _).trans (congrArg (fun z => s9_strength z m_strength_95) ((cm9_facts_except _ _ _).trans (congrArg (fun z => s9_except z m_except_95) ((cm9_facts_body _ _ _).trans (congrArg (fun z => s9_body z m_body_95) ((cm9_facts_head _ _ _).trans (congrArg (fun z => s9_head z m_head_95) (cm9_facts_kind _ _ _)))))))))))))).trans ((cm9_rules_over _ _ _).trans (congrArg (fun z => s9_over z m_over_95) ((cm9_rules_off _ _ _).trans (congrArg (fun z => s9_off z m_off_95) ((cm9_rules_strength _ _ _).trans (congrArg (fun z => s9_strength z m_strength_95) ((cm9_rules_except _ _ _).trans (congrArg (fun z => s9_except z m_except_95) ((cm9_rules_body _ _ _).trans (congrArg (fun z => s9_body z m_body_95) ((cm9_rules_head _ _ _).trans (congrArg (fun z => s9_head z m_head_95) (cm9_rules_kind _ _ _))))))))))))))] at hP hD
    exact hret _ _ _ _ _ (by subst hE; rfl) hP hS dX9_again_111
  have hB2 : ∀ (n2 : Nat) (i2_2 : Nat) (m_kind_2 : Nat → Int32) (m_head_2 : Nat → Int32) (m_body_2 : Nat → Int32) (m_except_2 : Nat → Int32) (m_strength_2 : Nat → Int32) (m_off_2 : Nat → Int32) (m_over_2 : Nat → Int32) (H : Heap) (locs : List Loc) (ls : Array Slot), (i2_2 ≤ 16) → 17 ≤ i2_2 + n2 → T = FX9_again_imaged_2 (g9_facts bm) (g9_rules bm) (g9_kind bm) (g9_head bm) (g9_body bm) (g9_except bm) (g9_strength bm) (g9_off bm) (g9_over bm) (g9_imaged bm) (FX9_again_imaged_95 (g9_facts bm) (g9_rules bm) (g9_kind bm) (g9_head bm) (g9_body bm) (g9_except bm) (g9_strength bm) (g9_off bm) (g9_over bm) (g9_imaged bm)) n2 (nI i2_2) (g9_facts bm) (g9_rules bm) m_kind_2 m_head_2 m_body_2 m_except_2 m_strength_2 m_off_2 m_over_2 → zP G [w9 G am (s9_over (s9_off (s9_strength (s9_except (s9_body (s9_head (s9_kind bm m_kind_2) m_head_2) m_body_2) m_except_2) m_strength_2) m_off_2) m_over_2)] H → zD A [w9 G am (s9_over (s9_off (s9_strength (s9_except (s9_body (s9_head (s9_kind bm m_kind_2) m_head_2) m_body_2) m_except_2) m_strength_2) m_off_2) m_over_2)] → va_S A s.heap H locs → lv_has ls 3 [(0, .ref (am 0)), (1, .ref (am 13)), (2, .int (nI i2_2))] → W p l e rmX9_again_imaged s m args below meth c H locs 0 0 Q (F0 m 2 ls []) := by
    intro n2
    induction n2 with
    | zero =>
      intro i2_2 m_kind_2 m_head_2 m_body_2 m_except_2 m_strength_2 m_off_2 m_over_2 H locs ls hi2_2 hn hE hP hD hS hl
      exact absurd hn (by omega)
    | succ n2 ih2 =>
      intro i2_2 m_kind_2 m_head_2 m_body_2 m_except_2 m_strength_2 m_off_2 m_over_2 H locs ls hi2_2 hn hE hP hD hS hl
      have hE := hE.trans (FX9_again_imaged_2.eq_2 _ _ _ _ _ _ _ _ _ _ _ _ _ _ _ _ _ _ _ _ _ _)
      refine lv_iload_n hx hb dX9_again_2 rfl (lv_at hl 2 rfl) ?_
      refine lv_bipush (v := 16) hx hb dX9_again_3 (by decide) ?_
      refine lv_icmp_ge (tgt := 95) hx hb dX9_again_5 (by decide) (fun c5 => ?_) (fun c5 => ?_)
      · have hE := hE.trans (if_pos c5)
        exact hB95 m_kind_2 m_head_2 m_body_2 m_except_2 m_strength_2 m_off_2 m_over_2 _ _ _ hE hP hD hS (lv_sub hl [0, 1] rfl)
      · have hE := hE.trans (if_neg c5)
        have hl2_2 : i2_2 < 16 := zlt (N := 16) rfl (by omega) (by omega) c5
        refine lv_aload_n hx hb dX9_again_8 rfl (lv_at hl 0 rfl) ?_
        refine zg9_kind S in_X9_again_9 hK hP 0 rfl (List.mem_of_getElem? (i := 1) rfl) dX9_again_9 ?_
        refine lv_iload_n hx hb dX9_again_12 rfl (lv_at hl 2 rfl) ?_
        refine lv_aload_n hx hb dX9_again_13 rfl (lv_at hl 1 rfl) ?_
        refine lv_iload_n hx hb dX9_again_14 rfl (lv_at hl 2 rfl) ?_
        refine zl9_imaged S hK hP 0 rfl (vp_in_nI (by omega) (by omega)) (f := (g9_imaged bm)) ((gs9_imaged_over _ _).trans ((gs9_imaged_off _ _).trans ((gs9_imaged_strength _ _).trans ((gs9_imaged_except _ _).trans ((gs9_imaged_body _ _).trans ((gs9_imaged_head _ _).trans (gs9_imaged_kind _ _))))))) dX9_again_15 ?_
        refine zs9_kind (bs1 := [w9 G am (s9_kind (s9_over (s9_off (s9_strength (s9_except (s9_body (s9_head (s9_kind bm m_kind_2) m_head_2) m_body_2) m_except_2) m_strength_2) m_off_2) m_over_2) (upd m_kind_2 (nI i2_2).toNatClampNeg ((g9_imaged bm) (nI i2_2).toNatClampNeg)))]) S hK hP hD hS 0 rfl (vp_in_nI (by omega) (by omega)) (f := m_kind_2) ((gs9_kind_over _ _).trans ((gs9_kind_off _ _).trans ((gs9_kind_strength _ _).trans ((gs9_kind_except _ _).trans ((gs9_kind_body _ _).trans ((gs9_kind_head _ _).trans (gg9_kind _ _))))))) dX9_again_16 rfl (fun H locs hP hD hS => ?_)
        refine lv_aload_n hx hb dX9_again_17 rfl (lv_at hl 0 rfl) ?_
        refine zg9_head S in_X9_again_9 hK hP 0 rfl (List.mem_of_getElem? (i := 2) rfl) dX9_again_18 ?_
        refine lv_iload_n hx hb dX9_again_21 rfl (lv_at hl 2 rfl) ?_
        refine lv_aload_n hx hb dX9_again_22 rfl (lv_at hl 1 rfl) ?_
        refine lv_bipush (v := 16) hx hb dX9_again_23 (by decide) ?_
        refine lv_iload_n hx hb dX9_again_25 rfl (lv_at hl 2 rfl) ?_
        refine lv_iadd hx hb dX9_again_26 ?_
        refine zl9_imaged S hK hP 0 rfl (zaddL 16 rfl (B := 16) (vp_in_nI (by omega) (by omega)) (by decide) (by decide) (by decide)) (f := (g9_imaged bm)) ((gs9_imaged_kind _ _).trans ((gs9_imaged_over _ _).trans ((gs9_imaged_off _ _).trans ((gs9_imaged_strength _ _).trans ((gs9_imaged_except _ _).trans ((gs9_imaged_body _ _).trans ((gs9_imaged_head _ _).trans (gs9_imaged_kind _ _)))))))) dX9_again_27 ?_
        refine zs9_head (bs1 := [w9 G am (s9_head (s9_kind (s9_over (s9_off (s9_strength (s9_except (s9_body (s9_head (s9_kind bm m_kind_2) m_head_2) m_body_2) m_except_2) m_strength_2) m_off_2) m_over_2) (upd m_kind_2 (nI i2_2).toNatClampNeg ((g9_imaged bm) (nI i2_2).toNatClampNeg))) (upd m_head_2 (nI i2_2).toNatClampNeg ((g9_imaged bm) (16 + (nI i2_2)).toNatClampNeg)))]) S hK hP hD hS 0 rfl (vp_in_nI (by omega) (by omega)) (f := m_head_2) ((gs9_head_kind _ _).trans ((gs9_head_over _ _).trans ((gs9_head_off _ _).trans ((gs9_head_strength _ _).trans ((gs9_head_except _ _).trans ((gs9_head_body _ _).trans (gg9_head _ _))))))) dX9_again_28 rfl (fun H locs hP hD hS => ?_)
        refine lv_aload_n hx hb dX9_again_29 rfl (lv_at hl 0 rfl) ?_
        refine zg9_body S in_X9_again_9 hK hP 0 rfl (List.mem_of_getElem? (i := 3) rfl) dX9_again_30 ?_
        refine lv_iload_n hx hb dX9_again_33 rfl (lv_at hl 2 rfl) ?_
        refine lv_aload_n hx hb dX9_again_34 rfl (lv_at hl 1 rfl) ?_
        refine lv_bipush (v := 32) hx hb dX9_again_35 (by decide) ?_
        refine lv_iload_n hx hb dX9_again_37 rfl (lv_at hl 2 rfl) ?_
        refine lv_iadd hx hb dX9_again_38 ?_
        refine zl9_imaged S hK hP 0 rfl (zaddL 32 rfl (B := 16) (vp_in_nI (by omega) (by omega)) (by decide) (by decide) (by decide)) (f := (g9_imaged bm)) ((gs9_imaged_head _ _).trans ((gs9_imaged_kind _ _).trans ((gs9_imaged_over _ _).trans ((gs9_imaged_off _ _).trans ((gs9_imaged_strength _ _).trans ((gs9_imaged_except _ _).trans ((gs9_imaged_body _ _).trans ((gs9_imaged_head _ _).trans (gs9_imaged_kind _ _))))))))) dX9_again_39 ?_
        refine zs9_body (bs1 := [w9 G am (s9_body (s9_head (s9_kind (s9_over (s9_off (s9_strength (s9_except (s9_body (s9_head (s9_kind bm m_kind_2) m_head_2) m_body_2) m_except_2) m_strength_2) m_off_2) m_over_2) (upd m_kind_2 (nI i2_2).toNatClampNeg ((g9_imaged bm) (nI i2_2).toNatClampNeg))) (upd m_head_2 (nI i2_2).toNatClampNeg ((g9_imaged bm) (16 + (nI i2_2)).toNatClampNeg))) (upd m_body_2 (nI i2_2).toNatClampNeg ((g9_imaged bm) (32 + (nI i2_2)).toNatClampNeg)))]) S hK hP hD hS 0 rfl (vp_in_nI (by omega) (by omega)) (f := m_body_2) ((gs9_body_head _ _).trans ((gs9_body_kind _ _).trans ((gs9_body_over _ _).trans ((gs9_body_off _ _).trans ((gs9_body_strength _ _).trans ((gs9_body_except _ _).trans (gg9_body _ _))))))) dX9_again_40 rfl (fun H locs hP hD hS => ?_)
        refine lv_aload_n hx hb dX9_again_41 rfl (lv_at hl 0 rfl) ?_
        refine zg9_except S in_X9_again_9 hK hP 0 rfl (List.mem_of_getElem? (i := 4) rfl) dX9_again_42 ?_
        refine lv_iload_n hx hb dX9_again_45 rfl (lv_at hl 2 rfl) ?_
        refine lv_aload_n hx hb dX9_again_46 rfl (lv_at hl 1 rfl) ?_
        refine lv_bipush (v := 48) hx hb dX9_again_47 (by decide) ?_
        refine lv_iload_n hx hb dX9_again_49 rfl (lv_at hl 2 rfl) ?_
        refine lv_iadd hx hb dX9_again_50 ?_
        refine zl9_imaged S hK hP 0 rfl (zaddL 48 rfl (B := 16) (vp_in_nI (by omega) (by omega)) (by decide) (by decide) (by decide)) (f := (g9_imaged bm)) ((gs9_imaged_body _ _).trans ((gs9_imaged_head _ _).trans ((gs9_imaged_kind _ _).trans ((gs9_imaged_over _ _).trans ((gs9_imaged_off _ _).trans ((gs9_imaged_strength _ _).trans ((gs9_imaged_except _ _).trans ((gs9_imaged_body _ _).trans ((gs9_imaged_head _ _).trans (gs9_imaged_kind _ _)))))))))) dX9_again_51 ?_
        refine zs9_except (bs1 := [w9 G am (s9_except (s9_body (s9_head (s9_kind (s9_over (s9_off (s9_strength (s9_except (s9_body (s9_head (s9_kind bm m_kind_2) m_head_2) m_body_2) m_except_2) m_strength_2) m_off_2) m_over_2) (upd m_kind_2 (nI i2_2).toNatClampNeg ((g9_imaged bm) (nI i2_2).toNatClampNeg))) (upd m_head_2 (nI i2_2).toNatClampNeg ((g9_imaged bm) (16 + (nI i2_2)).toNatClampNeg))) (upd m_body_2 (nI i2_2).toNatClampNeg ((g9_imaged bm) (32 + (nI i2_2)).toNatClampNeg))) (upd m_except_2 (nI i2_2).toNatClampNeg ((g9_imaged bm) (48 + (nI i2_2)).toNatClampNeg)))]) S hK hP hD hS 0 rfl (vp_in_nI (by omega) (by omega)) (f := m_except_2) ((gs9_except_body _ _).trans ((gs9_except_head _ _).trans ((gs9_except_kind _ _).trans ((gs9_except_over _ _).trans ((gs9_except_off _ _).trans ((gs9_except_strength _ _).trans (gg9_except _ _))))))) dX9_again_52 rfl (fun H locs hP hD hS => ?_)
        refine lv_aload_n hx hb dX9_again_53 rfl (lv_at hl 0 rfl) ?_
        refine zg9_strength S in_X9_again_9 hK hP 0 rfl (List.mem_of_getElem? (i := 5) rfl) dX9_again_54 ?_
        refine lv_iload_n hx hb dX9_again_57 rfl (lv_at hl 2 rfl) ?_
        refine lv_aload_n hx hb dX9_again_58 rfl (lv_at hl 1 rfl) ?_
        refine lv_bipush (v := 64) hx hb dX9_again_59 (by decide) ?_
        refine lv_iload_n hx hb dX9_again_61 rfl (lv_at hl 2 rfl) ?_
        refine lv_iadd hx hb dX9_again_62 ?_
        refine zl9_imaged S hK hP 0 rfl (zaddL 64 rfl (B := 16) (vp_in_nI (by omega) (by omega)) (by decide) (by decide) (by decide)) (f := (g9_imaged bm)) ((gs9_imaged_except _ _).trans ((gs9_imaged_body _ _).trans ((gs9_imaged_head _ _).trans ((gs9_imaged_kind _ _).trans ((gs9_imaged_over _ _).trans ((gs9_imaged_off _ _).trans ((gs9_imaged_strength _ _).trans ((gs9_imaged_except _ _).trans ((gs9_imaged_body _ _).trans ((gs9_imaged_head _ _).trans (gs9_imaged_kind _ _))))))))))) dX9_again_63 ?_
        refine zs9_strength (bs1 := [w9 G am (s9_strength (s9_except (s9_body (s9_head (s9_kind (s9_over (s9_off (s9_strength (s9_except (s9_body (s9_head (s9_kind bm m_kind_2) m_head_2) m_body_2) m_except_2) m_strength_2) m_off_2) m_over_2) (upd m_kind_2 (nI i2_2).toNatClampNeg ((g9_imaged bm) (nI i2_2).toNatClampNeg))) (upd m_head_2 (nI i2_2).toNatClampNeg ((g9_imaged bm) (16 + (nI i2_2)).toNatClampNeg))) (upd m_body_2 (nI i2_2).toNatClampNeg ((g9_imaged bm) (32 + (nI i2_2)).toNatClampNeg))) (upd m_except_2 (nI i2_2).toNatClampNeg ((g9_imaged bm) (48 + (nI i2_2)).toNatClampNeg))) (upd m_strength_2 (nI i2_2).toNatClampNeg ((g9_imaged bm) (64 + (nI i2_2)).toNatClampNeg)))]) S hK hP hD hS 0 rfl (vp_in_nI (by omega) (by omega)) (f := m_strength_2) ((gs9_strength_except _ _).trans ((gs9_strength_body _ _).trans ((gs9_strength_head _ _).trans ((gs9_strength_kind _ _).trans ((gs9_strength_over _ _).trans ((gs9_strength_off _ _).trans (gg9_strength _ _))))))) dX9_again_64 rfl (fun H locs hP hD hS => ?_)
        refine lv_aload_n hx hb dX9_again_65 rfl (lv_at hl 0 rfl) ?_
        refine zg9_off S in_X9_again_9 hK hP 0 rfl (List.mem_of_getElem? (i := 6) rfl) dX9_again_66 ?_
        refine lv_iload_n hx hb dX9_again_69 rfl (lv_at hl 2 rfl) ?_
        refine lv_aload_n hx hb dX9_again_70 rfl (lv_at hl 1 rfl) ?_
        refine lv_bipush (v := 80) hx hb dX9_again_71 (by decide) ?_
        refine lv_iload_n hx hb dX9_again_73 rfl (lv_at hl 2 rfl) ?_
        refine lv_iadd hx hb dX9_again_74 ?_
        refine zl9_imaged S hK hP 0 rfl (zaddL 80 rfl (B := 16) (vp_in_nI (by omega) (by omega)) (by decide) (by decide) (by decide)) (f := (g9_imaged bm)) ((gs9_imaged_strength _ _).trans ((gs9_imaged_except _ _).trans ((gs9_imaged_body _ _).trans ((gs9_imaged_head _ _).trans ((gs9_imaged_kind _ _).trans ((gs9_imaged_over _ _).trans ((gs9_imaged_off _ _).trans ((gs9_imaged_strength _ _).trans ((gs9_imaged_except _ _).trans ((gs9_imaged_body _ _).trans ((gs9_imaged_head _ _).trans (gs9_imaged_kind _ _)))))))))))) dX9_again_75 ?_
        refine zs9_off (bs1 := [w9 G am (s9_off (s9_strength (s9_except (s9_body (s9_head (s9_kind (s9_over (s9_off (s9_strength (s9_except (s9_body (s9_head (s9_kind bm m_kind_2) m_head_2) m_body_2) m_except_2) m_strength_2) m_off_2) m_over_2) (upd m_kind_2 (nI i2_2).toNatClampNeg ((g9_imaged bm) (nI i2_2).toNatClampNeg))) (upd m_head_2 (nI i2_2).toNatClampNeg ((g9_imaged bm) (16 + (nI i2_2)).toNatClampNeg))) (upd m_body_2 (nI i2_2).toNatClampNeg ((g9_imaged bm) (32 + (nI i2_2)).toNatClampNeg))) (upd m_except_2 (nI i2_2).toNatClampNeg ((g9_imaged bm) (48 + (nI i2_2)).toNatClampNeg))) (upd m_strength_2 (nI i2_2).toNatClampNeg ((g9_imaged bm) (64 + (nI i2_2)).toNatClampNeg))) (upd m_off_2 (nI i2_2).toNatClampNeg ((g9_imaged bm) (80 + (nI i2_2)).toNatClampNeg)))]) S hK hP hD hS 0 rfl (vp_in_nI (by omega) (by omega)) (f := m_off_2) ((gs9_off_strength _ _).trans ((gs9_off_except _ _).trans ((gs9_off_body _ _).trans ((gs9_off_head _ _).trans ((gs9_off_kind _ _).trans ((gs9_off_over _ _).trans (gg9_off _ _))))))) dX9_again_76 rfl (fun H locs hP hD hS => ?_)
        refine lv_aload_n hx hb dX9_again_77 rfl (lv_at hl 0 rfl) ?_
        refine zg9_over S in_X9_again_9 hK hP 0 rfl (List.mem_of_getElem? (i := 7) rfl) dX9_again_78 ?_
        refine lv_iload_n hx hb dX9_again_81 rfl (lv_at hl 2 rfl) ?_
        refine lv_aload_n hx hb dX9_again_82 rfl (lv_at hl 1 rfl) ?_
        refine lv_bipush (v := 96) hx hb dX9_again_83 (by decide) ?_
        refine lv_iload_n hx hb dX9_again_85 rfl (lv_at hl 2 rfl) ?_
        refine lv_iadd hx hb dX9_again_86 ?_
        refine zl9_imaged S hK hP 0 rfl (zaddL 96 rfl (B := 16) (vp_in_nI (by omega) (by omega)) (by decide) (by decide) (by decide)) (f := (g9_imaged bm)) ((gs9_imaged_off _ _).trans ((gs9_imaged_strength _ _).trans ((gs9_imaged_except _ _).trans ((gs9_imaged_body _ _).trans ((gs9_imaged_head _ _).trans ((gs9_imaged_kind _ _).trans ((gs9_imaged_over _ _).trans ((gs9_imaged_off _ _).trans ((gs9_imaged_strength _ _).trans ((gs9_imaged_except _ _).trans ((gs9_imaged_body _ _).trans ((gs9_imaged_head _ _).trans (gs9_imaged_kind _ _))))))))))))) dX9_again_87 ?_
        refine zs9_over (bs1 := [w9 G am (s9_over (s9_off (s9_strength (s9_except (s9_body (s9_head (s9_kind (s9_over (s9_off (s9_strength (s9_except (s9_body (s9_head (s9_kind bm m_kind_2) m_head_2) m_body_2) m_except_2) m_strength_2) m_off_2) m_over_2) (upd m_kind_2 (nI i2_2).toNatClampNeg ((g9_imaged bm) (nI i2_2).toNatClampNeg))) (upd m_head_2 (nI i2_2).toNatClampNeg ((g9_imaged bm) (16 + (nI i2_2)).toNatClampNeg))) (upd m_body_2 (nI i2_2).toNatClampNeg ((g9_imaged bm) (32 + (nI i2_2)).toNatClampNeg))) (upd m_except_2 (nI i2_2).toNatClampNeg ((g9_imaged bm) (48 + (nI i2_2)).toNatClampNeg))) (upd m_strength_2 (nI i2_2).toNatClampNeg ((g9_imaged bm) (64 + (nI i2_2)).toNatClampNeg))) (upd m_off_2 (nI i2_2).toNatClampNeg ((g9_imaged bm) (80 + (nI i2_2)).toNatClampNeg))) (upd m_over_2 (nI i2_2).toNatClampNeg ((g9_imaged bm) (96 + (nI i2_2)).toNatClampNeg)))]) S hK hP hD hS 0 rfl (vp_in_nI (by omega) (by omega)) (f := m_over_2) ((gs9_over_off _ _).trans ((gs9_over_strength _ _).trans ((gs9_over_except _ _).trans ((gs9_over_body _ _).trans ((gs9_over_head _ _).trans ((gs9_over_kind _ _).trans (gg9_over _ _))))))) dX9_again_88 rfl (fun H locs hP hD hS => ?_)
        refine lv_iinc (v := (nI (i2_2 + 1))) (lv' := [(2, .int (nI (i2_2 + 1))), (0, .ref (am 0)), (1, .ref (am 13))]) hx hb dX9_again_89 hl (k := 2) rfl (nI_1 i2_2) (by decide) rfl (fun ls hl => ?_)
        try rw [nI_1 i2_2] at hE
        refine lv_goto (tgt := 2) hx hb dX9_again_92 (by decide) ?_
        rw [show (s9_over (s9_off (s9_strength (s9_except (s9_body (s9_head (s9_kind (s9_over (s9_off (s9_strength (s9_except (s9_body (s9_head (s9_kind bm m_kind_2) m_head_2) m_body_2) m_except_2) m_strength_2) m_off_2) m_over_2) (upd m_kind_2 (nI i2_2).toNatClampNeg ((g9_imaged bm) (nI i2_2).toNatClampNeg))) (upd m_head_2 (nI i2_2).toNatClampNeg ((g9_imaged bm) (16 + (nI i2_2)).toNatClampNeg))) (upd m_body_2 (nI i2_2).toNatClampNeg ((g9_imaged bm) (32 + (nI i2_2)).toNatClampNeg))) (upd m_except_2 (nI i2_2).toNatClampNeg ((g9_imaged bm) (48 + (nI i2_2)).toNatClampNeg))) (upd m_strength_2 (nI i2_2).toNatClampNeg ((g9_imaged bm) (64 + (nI i2_2)).toNatClampNeg))) (upd m_off_2 (nI i2_2).toNatClampNeg ((g9_imaged bm) (80 + (nI i2_2)).toNatClampNeg))) (upd m_over_2 (nI i2_2).toNatClampNeg ((g9_imaged bm) (96 + (nI i2_2)).toNatClampNeg))) = (s9_over (s9_off (s9_strength (s9_except (s9_body (s9_head (s9_kind bm (upd m_kind_2 (nI i2_2).toNatClampNeg ((g9_imaged bm) (nI i2_2).toNatClampNeg))) (upd m_head_2 (nI i2_2).toNatClampNeg ((g9_imaged bm) (16 + (nI i2_2)).toNatClampNeg))) (upd m_body_2 (nI i2_2).toNatClampNeg ((g9_imaged bm) (32 + (nI i2_2)).toNatClampNeg))) (upd m_except_2 (nI i2_2).toNatClampNeg ((g9_imaged bm) (48 + (nI i2_2)).toNatClampNeg))) (upd m_strength_2 (nI i2_2).toNatClampNeg ((g9_imaged bm) (64 + (nI i2_2)).toNatClampNeg))) (upd m_off_2 (nI i2_2).toNatClampNeg ((g9_imaged bm) (80 + (nI i2_2)).toNatClampNeg))) (upd m_over_2 (nI i2_2).toNatClampNeg ((g9_imaged bm) (96 + (nI i2_2)).toNatClampNeg))) from ((congrArg (fun z => s9_over z (upd m_over_2 (nI i2_2).toNatClampNeg ((g9_imaged bm) (96 + (nI i2_2)).toNatClampNeg))) ((congrArg (fun z => s9_off z (upd m_off_2 (nI i2_2).toNatClampNeg ((g9_imaged bm) (80 + (nI i2_2)).toNatClampNeg))) ((congrArg (fun z => s9_strength z (upd m_strength_2 (nI i2_2).toNatClampNeg ((g9_imaged bm) (64 + (nI i2_2)).toNatClampNeg))) ((congrArg (fun z => s9_except z (upd m_except_2 (nI i2_2).toNatClampNeg ((g9_imaged bm) (48 + (nI i2_2)).toNatClampNeg))) ((congrArg (fun z => s9_body z (upd m_body_2 (nI i2_2).toNatClampNeg ((g9_imaged bm) (32 + (nI i2_2)).toNatClampNeg))) ((congrArg (fun z => s9_head z (upd m_head_2 (nI i2_2).toNatClampNeg ((g9_imaged bm) (16 + (nI i2_2)).toNatClampNeg))) ((cm9_kind_over _ _ _).trans (congrArg (fun z => s9_over z m_over_2) ((cm9_kind_off _ _ _).trans (congrArg (fun z => s9_off z m_off_2) ((cm9_kind_strength _ _ _).trans (congrArg (fun z => s9_strength z m_strength_2) ((cm9_kind_except _ _ _).trans (congrArg (fun z => s9_except z m_except_2) ((cm9_kind_body _ _ _).trans (congrArg (fun z => s9_body z m_body_2) ((cm9_kind_head _ _ _).trans (congrArg (fun z => s9_head z m_head_2) (ss9_kind _ _ _)))))))))))))).trans ((cm9_head_over _ _ _).trans (congrArg (fun z => s9_over z m_over_2) ((cm9_head_off _ _ _).trans (congrArg (fun z => s9_off z m_off_2) ((cm9_head_strength _ _ _).trans (congrArg (fun z => s9_strength z m_strength_2) ((cm9_head_except _ _ _).trans (congrArg (fun z => s9_except z m_except_2) ((cm9_head_body _ _ _).trans (congrArg (fun z => s9_body z m_body_2) (ss9_head _ _ _))))))))))))).trans ((cm9_body_over _ _ _).trans (congrArg (fun z => s9_over z m_over_2) ((cm9_body_off _ _ _).trans (congrArg (fun z => s9_off z m_off_2) ((cm9_body_strength _ _ _).trans (congrArg (fun z => s9_strength z m_strength_2) ((cm9_body_except _ _ _).trans (congrArg (fun z => s9_except z m_except_2) (ss9_body _ _ _))))))))))).trans ((cm9_except_over _ _ _).trans (congrArg (fun z => s9_over z m_over_2) ((cm9_except_off _ _ _).trans (congrArg (fun z => s9_off z m_off_2) ((cm9_except_strength _ _ _).trans (congrArg (fun z => s9_strength z m_strength_2) (ss9_except _ _ _))))))))).trans ((cm9_strength_over _ _ _).trans (congrArg (fun z => s9_over z m_over_2) ((cm9_strength_off _ _ _).trans (congrArg (fun z => s9_off z m_off_2) (ss9_strength _ _ _))))))).trans ((cm9_off_over _ _ _).trans (congrArg (fun z => s9_over z m_over_2) (ss9_off _ _ _))))).trans (ss9_over _ _ _))] at hP hD
        exact ih2 (i2_2 + 1) (upd m_kind_2 (nI i2_2).toNatClampNeg ((g9_imaged bm) (nI i2_2).toNatClampNeg)) (upd m_head_2 (nI i2_2).toNatClampNeg ((g9_imaged bm) (16 + (nI i2_2)).toNatClampNeg)) (upd m_body_2 (nI i2_2).toNatClampNeg ((g9_imaged bm) (32 + (nI i2_2)).toNatClampNeg)) (upd m_except_2 (nI i2_2).toNatClampNeg ((g9_imaged bm) (48 + (nI i2_2)).toNatClampNeg)) (upd m_strength_2 (nI i2_2).toNatClampNeg ((g9_imaged bm) (64 + (nI i2_2)).toNatClampNeg)) (upd m_off_2 (nI i2_2).toNatClampNeg ((g9_imaged bm) (80 + (nI i2_2)).toNatClampNeg)) (upd m_over_2 (nI i2_2).toNatClampNeg ((g9_imaged bm) (96 + (nI i2_2)).toNatClampNeg)) _ _ _ (by first | assumption | omega) (by omega) hE hP hD hS (lv_sub hl [1, 2, 0] rfl)
  refine lv_istore_n (lv' := [(2, .int 0), (0, .ref (am 0)), (1, .ref (am 13))]) hx hb dX9_again_1 rfl hl (by decide) rfl (fun ls hl => ?_)
  rw [show bm = (s9_over (s9_off (s9_strength (s9_except (s9_body (s9_head (s9_kind bm (g9_kind bm)) (g9_head bm)) (g9_body bm)) (g9_except bm)) (g9_strength bm)) (g9_off bm)) (g9_over bm)) from ((((((((se9_kind _).symm).trans (((se9_head _).symm).trans (congrArg (fun v => s9_head (s9_kind bm (g9_kind bm)) v) (gs9_head_kind _ _)))).trans (((se9_body _).symm).trans (congrArg (fun v => s9_body (s9_head (s9_kind bm (g9_kind bm)) (g9_head bm)) v) ((gs9_body_head _ _).trans (gs9_body_kind _ _))))).trans (((se9_except _).symm).trans (congrArg (fun v => s9_except (s9_body (s9_head (s9_kind bm (g9_kind bm)) (g9_head bm)) (g9_body bm)) v) ((gs9_except_body _ _).trans ((gs9_except_head _ _).trans (gs9_except_kind _ _)))))).trans (((se9_strength _).symm).trans (congrArg (fun v => s9_strength (s9_except (s9_body (s9_head (s9_kind bm (g9_kind bm)) (g9_head bm)) (g9_body bm)) (g9_except bm)) v) ((gs9_strength_except _ _).trans ((gs9_strength_body _ _).trans ((gs9_strength_head _ _).trans (gs9_strength_kind _ _))))))).trans (((se9_off _).symm).trans (congrArg (fun v => s9_off (s9_strength (s9_except (s9_body (s9_head (s9_kind bm (g9_kind bm)) (g9_head bm)) (g9_body bm)) (g9_except bm)) (g9_strength bm)) v) ((gs9_off_strength _ _).trans ((gs9_off_except _ _).trans ((gs9_off_body _ _).trans ((gs9_off_head _ _).trans (gs9_off_kind _ _)))))))).trans (((se9_over _).symm).trans (congrArg (fun v => s9_over (s9_off (s9_strength (s9_except (s9_body (s9_head (s9_kind bm (g9_kind bm)) (g9_head bm)) (g9_body bm)) (g9_except bm)) (g9_strength bm)) (g9_off bm)) v) ((gs9_over_off _ _).trans ((gs9_over_strength _ _).trans ((gs9_over_except _ _).trans ((gs9_over_body _ _).trans ((gs9_over_head _ _).trans (gs9_over_kind _ _)))))))))] at hP hD
  exact hB2 17 0 (g9_kind bm) (g9_head bm) (g9_body bm) (g9_except bm) (g9_strength bm) (g9_off bm) (g9_over bm) _ _ _ (by first | assumption | omega) (by omega) hE hP hD hS (lv_sub hl [1, 2, 0] rfl)

theorem in_X9_image_9 : ∀ w ∈ u_ws RX9 TX9 40, w ∈ wsX9_image := by decide +kernel
def rmX9_image : Room := { frames := 1, cells := 0, slots := 0, locals := 22 }
set_option maxHeartbeats 4000000 in
set_option maxRecDepth 100000 in
theorem c_X9_image (l : Launch) (G : zG) (am : Nat → Nat) (bm : S9) (T : Int32 × (Nat → Int32) × (Int32)) (hT : FX9_image (g9_facts bm) (g9_rules bm) (g9_kind bm) (g9_head bm) (g9_body bm) (g9_except bm) (g9_strength bm) (g9_off bm) (g9_over bm) (g9_imaged bm) (g9_hasImage bm) = T) : zI l yX9_image wsX9_image rmX9_image .int G [.ref (am 0)] [w9 G am bm] T.1 [w9 G am (s9_hasImage (s9_imaged bm T.2.1) T.2.2)] := by
  refine zI.mk (cc := cX9_image) (maxL := 1) (by decide +kernel) rfl (Nat.le_of_ble_eq_true rfl) (zfl_cons (wf9 _ _ _ _) rfl) ?_
  intro p e s m args below meth c Q A ls S hK hD hA hP hl hret
  have hx := S.1
  have hb := S.2.1
  have hS : va_S A s.heap s.heap [] := va_S.rf
  have hl : lv_has ls 1 [(0, .ref (am 0))] := hl
  have hE := hT.symm.trans (FX9_image.eq_1 _ _ _ _ _ _ _ _ _ _ _)
  refine lv_aload_n hx hb dX9_image_0 rfl (lv_at hl 0 rfl) ?_
  refine lv_iconst (v := 1) hx hb dX9_image_1 (by decide) ?_
  refine zp9_hasImage (bs1 := [w9 G am (s9_hasImage bm 1)]) S in_X9_image_9 hK hP hD hS 0 rfl (List.mem_of_getElem? (i := 1) rfl) zn1 dX9_image_2 rfl (fun H locs hP hD hS => ?_)
  refine lv_aload_n hx hb dX9_image_5 rfl (lv_at hl 0 rfl) ?_
  refine lv_aload_n hx hb dX9_image_6 rfl (lv_at hl 0 rfl) ?_
  refine zg9_imaged S in_X9_image_9 hK hP 0 rfl (List.mem_of_getElem? (i := 2) rfl) dX9_image_7 ?_
  obtain ⟨t10, ht10⟩ : ∃ z, FX9_keeps_imaged (g9_facts bm) (g9_rules bm) (g9_kind bm) (g9_head bm) (g9_body bm) (g9_except bm) (g9_strength bm) (g9_off bm) (g9_over bm) (g9_imaged bm) = z := ⟨_, rfl⟩
  have hE := hE.trans (bnd_eq ht10)
  have hc := c_X9_keeps_imaged l G am (s9_hasImage bm 1) _ (by simp only [gs9_facts_hasImage, gs9_rules_hasImage, gs9_kind_hasImage, gs9_head_hasImage, gs9_body_hasImage, gs9_except_hasImage, gs9_strength_hasImage, gs9_off_hasImage, gs9_over_hasImage, gs9_imaged_hasImage]; exact ht10)
  refine zgoV (bs' := [w9 G am (s9_imaged (s9_hasImage bm 1) t10)]) hc [0] rfl rfl rfl hP hD hS hA (va_runV (As := [.ref (am 13)]) (rest := []) S (hc.2 _) (cwV 1 S.2.2.2.2 gX9_image_X9_keeps rfl rfl rfl (by decide +kernel) ⟨Nat.le_of_ble_eq_true rfl, Nat.le_of_ble_eq_true rfl⟩) (zpV hK hP hD (is := [0]) rfl rfl 0 rfl rfl (ci := 9) rfl) rfl rfl hl.1 rfl (lv_room (Nat.le_of_ble_eq_true rfl)) dX9_image_10 ⟨Nat.zero_le _, Nat.zero_le _⟩) (fun H locs hP hD hS => ?_)
  refine lv_aload_n hx hb dX9_image_13 rfl (lv_at hl 0 rfl) ?_
  refine zg9_rules S in_X9_image_9 hK hP 0 rfl (List.mem_of_getElem? (i := 3) rfl) (v := (g9_rules bm)) ((gs9_rules_imaged _ _).trans (gs9_rules_hasImage _ _)) dX9_image_14 ?_
  rw [show (s9_imaged (s9_hasImage bm 1) t10) = (s9_hasImage (s9_imaged bm t10) 1) from (cm9_imaged_hasImage _ _ _)] at hP hD
  exact hret _ _ _ _ _ _ (by subst hE; rfl) rfl hP hS dX9_image_17

theorem in_X9_back_9 : ∀ w ∈ u_ws RX9 TX9 40, w ∈ wsX9_back := by decide +kernel
def rmX9_back : Room := { frames := 1, cells := 0, slots := 0, locals := 22 }
set_option maxHeartbeats 4000000 in
set_option maxRecDepth 100000 in
theorem c_X9_back (l : Launch) (G : zG) (am : Nat → Nat) (bm : S9) (T : Int32 × (Int32) × (Int32) × (Nat → Int32) × (Nat → Int32) × (Nat → Int32) × (Nat → Int32) × (Nat → Int32) × (Nat → Int32) × (Nat → Int32) × (Int32) × (Int32)) (hT : FX9_back (g9_facts bm) (g9_rules bm) (g9_kind bm) (g9_head bm) (g9_body bm) (g9_except bm) (g9_strength bm) (g9_off bm) (g9_over bm) (g9_done bm) (g9_undone bm) (g9_imaged bm) (g9_hasImage bm) = T) : zI l yX9_back wsX9_back rmX9_back .int G [.ref (am 0)] [w9 G am bm] T.1 [w9 G am (s9_undone (s9_done (s9_over (s9_off (s9_strength (s9_except (s9_body (s9_head (s9_kind (s9_rules (s9_facts bm T.2.1) T.2.2.1) T.2.2.2.1) T.2.2.2.2.1) T.2.2.2.2.2.1) T.2.2.2.2.2.2.1) T.2.2.2.2.2.2.2.1) T.2.2.2.2.2.2.2.2.1) T.2.2.2.2.2.2.2.2.2.1) T.2.2.2.2.2.2.2.2.2.2.1) T.2.2.2.2.2.2.2.2.2.2.2)] := by
  refine zI.mk (cc := cX9_back) (maxL := 1) (by decide +kernel) rfl (Nat.le_of_ble_eq_true rfl) (zfl_cons (wf9 _ _ _ _) rfl) ?_
  intro p e s m args below meth c Q A ls S hK hD hA hP hl hret
  have hx := S.1
  have hb := S.2.1
  have hS : va_S A s.heap s.heap [] := va_S.rf
  have hl : lv_has ls 1 [(0, .ref (am 0))] := hl
  have hE := hT.symm.trans (FX9_back.eq_1 _ _ _ _ _ _ _ _ _ _ _ _ _)
  refine lv_aload_n hx hb dX9_back_0 rfl (lv_at hl 0 rfl) ?_
  refine zg9_hasImage S in_X9_back_9 hK hP 0 rfl (List.mem_of_getElem? (i := 1) rfl) (v := (g9_hasImage bm)) rfl dX9_back_1 ?_
  refine lv_if_ne (tgt := 10) hx hb dX9_back_4 (by decide) (fun c4 => ?_) (fun c4 => ?_)
  · have hE := hE.trans (if_neg c4)
    refine lv_aload_n hx hb dX9_back_10 rfl (lv_at hl 0 rfl) ?_
    refine lv_aload_n hx hb dX9_back_11 rfl (lv_at hl 0 rfl) ?_
    refine zg9_imaged S in_X9_back_9 hK hP 0 rfl (List.mem_of_getElem? (i := 2) rfl) dX9_back_12 ?_
    obtain ⟨t15, ht15⟩ : ∃ z, FX9_again_imaged (g9_facts bm) (g9_rules bm) (g9_kind bm) (g9_head bm) (g9_body bm) (g9_except bm) (g9_strength bm) (g9_off bm) (g9_over bm) (g9_imaged bm) = z := ⟨_, rfl⟩
    have hE := hE.trans (bnd_eq ht15)
    have hc := c_X9_again_imaged l G am bm _ ht15
    refine zgoV (bs' := [w9 G am (s9_over (s9_off (s9_strength (s9_except (s9_body (s9_head (s9_kind (s9_rules (s9_facts bm t15.1) t15.2.1) t15.2.2.1) t15.2.2.2.1) t15.2.2.2.2.1) t15.2.2.2.2.2.1) t15.2.2.2.2.2.2.1) t15.2.2.2.2.2.2.2.1) t15.2.2.2.2.2.2.2.2)]) hc [0] rfl rfl rfl hP hD hS hA (va_runV (As := [.ref (am 13)]) (rest := []) S (hc.2 _) (cwV 1 S.2.2.2.2 gX9_back_X9_again rfl rfl rfl (by decide +kernel) ⟨Nat.le_of_ble_eq_true rfl, Nat.le_of_ble_eq_true rfl⟩) (zpV hK hP hD (is := [0]) rfl rfl 0 rfl rfl (ci := 9) rfl) rfl rfl hl.1 rfl (lv_room (Nat.le_of_ble_eq_true rfl)) dX9_back_15 ⟨Nat.zero_le _, Nat.zero_le _⟩) (fun H locs hP hD hS => ?_)
    refine lv_aload_n hx hb dX9_back_18 rfl (lv_at hl 0 rfl) ?_
    refine lv_iconst (v := 0) hx hb dX9_back_19 (by decide) ?_
    refine zp9_done (bs1 := [w9 G am (s9_done (s9_over (s9_off (s9_strength (s9_except (s9_body (s9_head (s9_kind (s9_rules (s9_facts bm t15.1) t15.2.1) t15.2.2.1) t15.2.2.2.1) t15.2.2.2.2.1) t15.2.2.2.2.2.1) t15.2.2.2.2.2.2.1) t15.2.2.2.2.2.2.2.1) t15.2.2.2.2.2.2.2.2) 0)]) S in_X9_back_9 hK hP hD hS 0 rfl (List.mem_of_getElem? (i := 3) rfl) dX9_back_20 rfl (fun H locs hP hD hS => ?_)
    refine lv_aload_n hx hb dX9_back_23 rfl (lv_at hl 0 rfl) ?_
    refine lv_iconst (v := 0) hx hb dX9_back_24 (by decide) ?_
    refine zp9_undone (bs1 := [w9 G am (s9_undone (s9_done (s9_over (s9_off (s9_strength (s9_except (s9_body (s9_head (s9_kind (s9_rules (s9_facts bm t15.1) t15.2.1) t15.2.2.1) t15.2.2.2.1) t15.2.2.2.2.1) t15.2.2.2.2.2.1) t15.2.2.2.2.2.2.1) t15.2.2.2.2.2.2.2.1) t15.2.2.2.2.2.2.2.2) 0) 0)]) S in_X9_back_9 hK hP hD hS 0 rfl (List.mem_of_getElem? (i := 4) rfl) dX9_back_25 rfl (fun H locs hP hD hS => ?_)
    refine lv_aload_n hx hb dX9_back_28 rfl (lv_at hl 0 rfl) ?_
    refine zg9_rules S in_X9_back_9 hK hP 0 rfl (List.mem_of_getElem? (i := 5) rfl) (v := t15.2.1) ((gs9_rules_undone _ _).trans ((gs9_rules_done _ _).trans ((gs9_rules_over _ _).trans ((gs9_rules_off _ _).trans ((gs9_rules_strength _ _).trans ((gs9_rules_except _ _).trans ((gs9_rules_body _ _).trans ((gs9_rules_head _ _).trans ((gs9_rules_kind _ _).trans (gg9_rules _ _)))))))))) dX9_back_29 ?_
    exact hret _ _ _ _ _ _ (by subst hE; rfl) rfl hP hS dX9_back_32
  · have hE := hE.trans (if_pos c4)
    refine lv_bipush (v := (-5)) hx hb dX9_back_7 (by decide) ?_
    rw [show bm = (s9_undone (s9_done (s9_over (s9_off (s9_strength (s9_except (s9_body (s9_head (s9_kind (s9_rules (s9_facts bm (g9_facts bm)) (g9_rules bm)) (g9_kind bm)) (g9_head bm)) (g9_body bm)) (g9_except bm)) (g9_strength bm)) (g9_off bm)) (g9_over bm)) (g9_done bm)) (g9_undone bm)) from ((((((((((((se9_facts _).symm).trans (((se9_rules _).symm).trans (congrArg (fun v => s9_rules (s9_facts bm (g9_facts bm)) v) (gs9_rules_facts _ _)))).trans (((se9_kind _).symm).trans (congrArg (fun v => s9_kind (s9_rules (s9_facts bm (g9_facts bm)) (g9_rules bm)) v) ((gs9_kind_rules _ _).trans (gs9_kind_facts _ _))))).trans (((se9_head _).symm).trans (congrArg (fun v => s9_head (s9_kind (s9_rules (s9_facts bm (g9_facts bm)) (g9_rules bm)) (g9_kind bm)) v) ((gs9_head_kind _ _).trans ((gs9_head_rules _ _).trans (gs9_head_facts _ _)))))).trans (((se9_body _).symm).trans (congrArg (fun v => s9_body (s9_head (s9_kind (s9_rules (s9_facts bm (g9_facts bm)) (g9_rules bm)) (g9_kind bm)) (g9_head bm)) v) ((gs9_body_head _ _).trans ((gs9_body_kind _ _).trans ((gs9_body_rules _ _).trans (gs9_body_facts _ _))))))).trans (((se9_except _).symm).trans (congrArg (fun v => s9_except (s9_body (s9_head (s9_kind (s9_rules (s9_facts bm (g9_facts bm)) (g9_rules bm)) (g9_kind bm)) (g9_head bm)) (g9_body bm)) v) ((gs9_except_body _ _).trans ((gs9_except_head _ _).trans ((gs9_except_kind _ _).trans ((gs9_except_rules _ _).trans (gs9_except_facts _ _)))))))).trans (((se9_strength _).symm).trans (congrArg (fun v => s9_strength (s9_except (s9_body (s9_head (s9_kind (s9_rules (s9_facts bm (g9_facts bm)) (g9_rules bm)) (g9_kind bm)) (g9_head bm)) (g9_body bm)) (g9_except bm)) v) ((gs9_strength_except _ _).trans ((gs9_strength_body _ _).trans ((gs9_strength_head _ _).trans ((gs9_strength_kind _ _).trans ((gs9_strength_rules _ _).trans (gs9_strength_facts _ _))))))))).trans (((se9_off _).symm).trans (congrArg (fun v => s9_off (s9_strength (s9_except (s9_body (s9_head (s9_kind (s9_rules (s9_facts bm (g9_facts bm)) (g9_rules bm)) (g9_kind bm)) (g9_head bm)) (g9_body bm)) (g9_except bm)) (g9_strength bm)) v) ((gs9_off_strength _ _).trans ((gs9_off_except _ _).trans ((gs9_off_body _ _).trans ((gs9_off_head _ _).trans ((gs9_off_kind _ _).trans ((gs9_off_rules _ _).trans (gs9_off_facts _ _)))))))))).trans (((se9_over _).symm).trans (congrArg (fun v => s9_over (s9_off (s9_strength (s9_except (s9_body (s9_head (s9_kind (s9_rules (s9_facts bm (g9_facts bm)) (g9_rules bm)) (g9_kind bm)) (g9_head bm)) (g9_body bm)) (g9_except bm)) (g9_strength bm)) (g9_off bm)) v) ((gs9_over_off _ _).trans ((gs9_over_strength _ _).trans ((gs9_over_except _ _).trans ((gs9_over_body _ _).trans ((gs9_over_head _ _).trans ((gs9_over_kind _ _).trans ((gs9_over_rules _ _).trans (gs9_over_facts _ _))))))))))).trans (((se9_done _).symm).trans (congrArg (fun v => s9_done (s9_over (s9_off (s9_strength (s9_except (s9_body (s9_head (s9_kind (s9_rules (s9_facts bm (g9_facts bm)) (g9_rules bm)) (g9_kind bm)) (g9_head bm)) (g9_body bm)) (g9_except bm)) (g9_strength bm)) (g9_off bm)) (g9_over bm)) v) ((gs9_done_over _ _).trans ((gs9_done_off _ _).trans ((gs9_done_strength _ _).trans ((gs9_done_except _ _).trans ((gs9_done_body _ _).trans ((gs9_done_head _ _).trans ((gs9_done_kind _ _).trans ((gs9_done_rules _ _).trans (gs9_done_facts _ _)))))))))))).trans (((se9_undone _).symm).trans (congrArg (fun v => s9_undone (s9_done (s9_over (s9_off (s9_strength (s9_except (s9_body (s9_head (s9_kind (s9_rules (s9_facts bm (g9_facts bm)) (g9_rules bm)) (g9_kind bm)) (g9_head bm)) (g9_body bm)) (g9_except bm)) (g9_strength bm)) (g9_off bm)) (g9_over bm)) (g9_done bm)) v) ((gs9_undone_done _ _).trans ((gs9_undone_over _ _).trans ((gs9_undone_off _ _).trans ((gs9_undone_strength _ _).trans ((gs9_undone_except _ _).trans ((gs9_undone_body _ _).trans ((gs9_undone_head _ _).trans ((gs9_undone_kind _ _).trans ((gs9_undone_rules _ _).trans (gs9_undone_facts _ _)))))))))))))] at hP hD
    exact hret _ _ _ _ _ _ (by subst hE; rfl) rfl hP hS dX9_back_9

theorem in_X9_feed_9 : ∀ w ∈ u_ws RX9 TX9 40, w ∈ wsX9_feed := by decide +kernel
def rmX9_feed : Room := { frames := 1, cells := 0, slots := 0, locals := 22 }
set_option maxHeartbeats 4000000 in
set_option maxRecDepth 100000 in
theorem c_X9_feed (l : Launch) (G : zG) (am : Nat → Nat) (bm : S9) (x1 : Int32) (ht_m_taped : ∃ N : Nat, N ≤ 120 ∧ g9_taped bm = nI N) (T : Int32 × (Nat → Int32) × (Int32)) (hT : FX9_feed (g9_tape bm) (g9_taped bm) x1 = T) : zI l yX9_feed wsX9_feed rmX9_feed .int G [.ref (am 0), .int x1] [w9 G am bm] T.1 [w9 G am (s9_taped (s9_tape bm T.2.1) T.2.2)] := by
  refine zI.mk (cc := cX9_feed) (maxL := 2) (by decide +kernel) rfl (Nat.le_of_ble_eq_true rfl) (zfl_cons (wf9 _ _ _ _) rfl) ?_
  intro p e s m args below meth c Q A ls S hK hD hA hP hl hret
  have hx := S.1
  have hb := S.2.1
  have hS : va_S A s.heap s.heap [] := va_S.rf
  have hl : lv_has ls 2 [(0, .ref (am 0)), (1, .int x1)] := hl
  have hE := hT.symm.trans (FX9_feed.eq_1 _ _ _)
  refine lv_iload_n hx hb dX9_feed_0 rfl (lv_at hl 1 rfl) ?_
  refine lv_iconst (v := 1) hx hb dX9_feed_1 (by decide) ?_
  refine lv_bipush (v := 127) hx hb dX9_feed_2 (by decide) ?_
  obtain ⟨t4, ht4⟩ : ∃ z, FX9_in x1 1 127 = z := ⟨_, rfl⟩
  have hE := hE.trans (bnd_eq ht4)
  have hc := c_X9_in l G x1 1 127 _ ht4
  refine zgoR (va_runS (As := [.int x1, .int 1, .int 127]) (rest := []) S (hc _) (va_cwS 3 S.2.2.2.2 gX9_feed_X9_in rfl rfl rfl (by decide +kernel) ⟨Nat.le_of_ble_eq_true rfl, Nat.le_of_ble_eq_true rfl⟩) (zpS hK hP hD (is := []) rfl rfl) rfl rfl hl.1 rfl (lv_room (Nat.le_of_ble_eq_true rfl)) dX9_feed_4 ⟨Nat.zero_le _, Nat.zero_le _⟩) (fun hn4 => ?_)
  refine lv_if_ne (tgt := 12) hx hb dX9_feed_7 (by decide) (fun c7 => ?_) (fun c7 => ?_)
  · have hE := hE.trans (if_neg c7)
    refine lv_aload_n hx hb dX9_feed_12 rfl (lv_at hl 0 rfl) ?_
    refine zg9_taped S in_X9_feed_9 hK hP 0 rfl (List.mem_of_getElem? (i := 1) rfl) (v := (g9_taped bm)) rfl dX9_feed_13 ?_
    refine lv_bipush (v := 120) hx hb dX9_feed_16 (by decide) ?_
    refine lv_icmp_ne (tgt := 24) hx hb dX9_feed_18 (by decide) (fun c18 => ?_) (fun c18 => ?_)
    · have hE := hE.trans (if_neg c18)
      have hi_m_taped : vp_in (g9_taped bm) 120 := zne ht_m_taped rfl (by decide) c18
      refine lv_aload_n hx hb dX9_feed_24 rfl (lv_at hl 0 rfl) ?_
      refine zg9_tape S in_X9_feed_9 hK hP 0 rfl (List.mem_of_getElem? (i := 2) rfl) dX9_feed_25 ?_
      refine lv_aload_n hx hb dX9_feed_28 rfl (lv_at hl 0 rfl) ?_
      refine zg9_taped S in_X9_feed_9 hK hP 0 rfl (List.mem_of_getElem? (i := 1) rfl) (v := (g9_taped bm)) rfl dX9_feed_29 ?_
      refine lv_iload_n hx hb dX9_feed_32 rfl (lv_at hl 1 rfl) ?_
      refine zs9_tape (bs1 := [w9 G am (s9_tape bm (upd (g9_tape bm) (g9_taped bm).toNatClampNeg x1))]) S hK hP hD hS 0 rfl hi_m_taped (f := (g9_tape bm)) rfl dX9_feed_33 rfl (fun H locs hP hD hS => ?_)
      refine lv_aload_n hx hb dX9_feed_34 rfl (lv_at hl 0 rfl) ?_
      refine lv_dup hx hb dX9_feed_35 rfl ?_
      refine zg9_taped S in_X9_feed_9 hK hP 0 rfl (List.mem_of_getElem? (i := 1) rfl) (v := (g9_taped bm)) (gs9_taped_tape _ _) dX9_feed_36 ?_
      refine lv_iconst (v := 1) hx hb dX9_feed_39 (by decide) ?_
      refine lv_iadd hx hb dX9_feed_40 ?_
      refine zp9_taped (bs1 := [w9 G am (s9_taped (s9_tape bm (upd (g9_tape bm) (g9_taped bm).toNatClampNeg x1)) ((g9_taped bm) + 1))]) S in_X9_feed_9 hK hP hD hS 0 rfl (List.mem_of_getElem? (i := 1) rfl) dX9_feed_41 rfl (fun H locs hP hD hS => ?_)
      refine lv_aload_n hx hb dX9_feed_44 rfl (lv_at hl 0 rfl) ?_
      refine zg9_taped S in_X9_feed_9 hK hP 0 rfl (List.mem_of_getElem? (i := 1) rfl) (v := ((g9_taped bm) + 1)) (gg9_taped _ _) dX9_feed_45 ?_
      exact hret _ _ _ _ _ _ (by subst hE; rfl) rfl hP hS dX9_feed_48
    · have hE := hE.trans (if_pos c18)
      refine lv_bipush (v := (-3)) hx hb dX9_feed_21 (by decide) ?_
      rw [show bm = (s9_taped (s9_tape bm (g9_tape bm)) (g9_taped bm)) from (((se9_tape _).symm).trans (((se9_taped _).symm).trans (congrArg (fun v => s9_taped (s9_tape bm (g9_tape bm)) v) (gs9_taped_tape _ _))))] at hP hD
      exact hret _ _ _ _ _ _ (by subst hE; rfl) rfl hP hS dX9_feed_23
  · have hE := hE.trans (if_pos c7)
    refine lv_iconst (v := (-1)) hx hb dX9_feed_10 (by decide) ?_
    rw [show bm = (s9_taped (s9_tape bm (g9_tape bm)) (g9_taped bm)) from (((se9_tape _).symm).trans (((se9_taped _).symm).trans (congrArg (fun v => s9_taped (s9_tape bm (g9_tape bm)) v) (gs9_taped_tape _ _))))] at hP hD
    exact hret _ _ _ _ _ _ (by subst hE; rfl) rfl hP hS dX9_feed_11

