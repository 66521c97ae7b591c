def rmJ6_numberOfTrailingZeros_0f7a4 : Room := { frames := 0, cells := 0, slots := 0, locals := 0 }
set_option maxHeartbeats 4000000 in
set_option maxRecDepth 100000 in
theorem c_J6_numberOfTrailingZeros_0f7a4 (l : Launch) (G : zG) (x0 : Int32) (T : Int32) (hT : FJ6_numberOfTrailingZeros_0f7a4 x0 = T) : zR l yJ6_numberOfTrailingZeros_0f7a4 wsJ6_numberOfTrailingZeros_0f7a4 rmJ6_numberOfTrailingZeros_0f7a4 .int G [.int x0] [] T := by
  refine zR.mk (cc := cJ6_numberOfTrailingZeros_0f7a4) (maxL := 2) (by decide +kernel) rfl (Nat.le_of_ble_eq_true rfl) ?_
  intro p e s m args below meth c Q A ls S hK hD hA hP hl hret
  have hx := S.1
  have hb := S.2.1
  have hl : lv_has ls 2 [(0, .int x0)] := hl
  have hE := hT.symm.trans (FJ6_numberOfTrailingZeros_0f7a4.eq_1 _)
  refine lv_iload_n hx hb dJ6_numberOfTrailingZeros_0f7a4_0 rfl (lv_at hl 0 rfl) ?_
  refine lv_iconst (v := (-1)) hx hb dJ6_numberOfTrailingZeros_0f7a4_1 (by decide) ?_
  refine lv_ixor hx hb dJ6_numberOfTrailingZeros_0f7a4_2 ?_
  refine lv_iload_n hx hb dJ6_numberOfTrailingZeros_0f7a4_3 rfl (lv_at hl 0 rfl) ?_
  refine lv_iconst (v := 1) hx hb dJ6_numberOfTrailingZeros_0f7a4_4 (by decide) ?_
  refine lv_isub hx hb dJ6_numberOfTrailingZeros_0f7a4_5 ?_
  refine lv_iand hx hb dJ6_numberOfTrailingZeros_0f7a4_6 ?_
  refine lv_istore_n (lv' := [(0, .int ((x0 ^^^ (-1)) &&& (x0 - 1)))]) hx hb dJ6_numberOfTrailingZeros_0f7a4_7 rfl hl (by decide) rfl (fun ls hl => ?_)
  refine lv_iload_n hx hb dJ6_numberOfTrailingZeros_0f7a4_8 rfl (lv_at hl 0 rfl) ?_
  refine lv_if_gt (tgt := 17) hx hb dJ6_numberOfTrailingZeros_0f7a4_9 (by decide) (fun c9 => ?_) (fun c9 => ?_)
  · have hE := hE.trans (if_pos c9)
    refine lv_iconst (v := 1) hx hb dJ6_numberOfTrailingZeros_0f7a4_17 (by decide) ?_
    refine lv_istore_n (lv' := [(1, .int 1), (0, .int ((x0 ^^^ (-1)) &&& (x0 - 1)))]) hx hb dJ6_numberOfTrailingZeros_0f7a4_18 rfl hl (by decide) rfl (fun ls hl => ?_)
    refine lv_iload_n hx hb dJ6_numberOfTrailingZeros_0f7a4_19 rfl (lv_at hl 1 rfl) ?_
    refine lv_ldcw (v := 65536) hx hb S.2.2.2.1 (S.2.2.2.2 _ (List.mem_of_getElem? (i := 1) rfl)) dJ6_numberOfTrailingZeros_0f7a4_20 ?_
    have hB34 : ∀ (x0_34 : Int32) (x1_34 : Int32) (ls : Array Slot), T = FJ6_numberOfTrailingZeros_0f7a4_34 x0 x0_34 x1_34 → lv_has ls 2 [(0, .int x0_34), (1, .int x1_34)] → W p l e rmJ6_numberOfTrailingZeros_0f7a4 s m args below meth c s.heap [] 0 0 Q (F0 m 34 ls []) := by
      intro x0_34 x1_34 ls hE hl
      have hE := hE.trans (FJ6_numberOfTrailingZeros_0f7a4_34.eq_1 _ _ _)
      refine lv_iload_n hx hb dJ6_numberOfTrailingZeros_0f7a4_34 rfl (lv_at hl 0 rfl) ?_
      refine lv_sipush (v := 256) hx hb dJ6_numberOfTrailingZeros_0f7a4_35 (by decide) ?_
      have hB49 : ∀ (x0_49 : Int32) (x1_49 : Int32) (ls : Array Slot), T = FJ6_numberOfTrailingZeros_0f7a4_49 x0 x0_49 x1_49 → lv_has ls 2 [(0, .int x0_49), (1, .int x1_49)] → W p l e rmJ6_numberOfTrailingZeros_0f7a4 s m args below meth c s.heap [] 0 0 Q (F0 m 49 ls []) := by
        intro x0_49 x1_49 ls hE hl
        have hE := hE.trans (FJ6_numberOfTrailingZeros_0f7a4_49.eq_1 _ _ _)
        refine lv_iload_n hx hb dJ6_numberOfTrailingZeros_0f7a4_49 rfl (lv_at hl 0 rfl) ?_
        refine lv_bipush (v := 16) hx hb dJ6_numberOfTrailingZeros_0f7a4_50 (by decide) ?_
        have hB62 : ∀ (x0_62 : Int32) (x1_62 : Int32) (ls : Array Slot), T = FJ6_numberOfTrailingZeros_0f7a4_62 x0 x0_62 x1_62 → lv_has ls 2 [(0, .int x0_62), (1, .int x1_62)] → W p l e rmJ6_numberOfTrailingZeros_0f7a4 s m args below meth c s.heap [] 0 0 Q (F0 m 62 ls []) := by
          intro x0_62 x1_62 ls hE hl
          have hE := hE.trans (FJ6_numberOfTrailingZeros_0f7a4_62.eq_1 _ _ _)
          refine lv_iload_n hx hb dJ6_numberOfTrailingZeros_0f7a4_62 rfl (lv_at hl 0 rfl) ?_
          refine lv_iconst (v := 4) hx hb dJ6_numberOfTrailingZeros_0f7a4_63 (by decide) ?_
          refine lv_icmp_le (tgt := 74) hx hb dJ6_numberOfTrailingZeros_0f7a4_64 (by decide) (fun c64 => ?_) (fun c64 => ?_)
          · have hE := hE.trans (if_pos c64)
            refine lv_iload_n hx hb dJ6_numberOfTrailingZeros_0f7a4_74 rfl (lv_at hl 1 rfl) ?_
            refine lv_iload_n hx hb dJ6_numberOfTrailingZeros_0f7a4_75 rfl (lv_at hl 0 rfl) ?_
            refine lv_iconst (v := 1) hx hb dJ6_numberOfTrailingZeros_0f7a4_76 (by decide) ?_
            refine lv_iushr (v := ((x0_62.toUInt32 >>> ((1 : Int32).toUInt32 &&& Int32.toUInt32 31)).toInt32)) hx hb dJ6_numberOfTrailingZeros_0f7a4_77 rfl ?_
            refine lv_iadd hx hb dJ6_numberOfTrailingZeros_0f7a4_78 ?_
            exact hret _ _ _ hE rfl dJ6_numberOfTrailingZeros_0f7a4_79
          · have hE := hE.trans (if_neg c64)
            refine lv_iinc (v := (x1_62 + 2)) (lv' := [(1, .int (x1_62 + 2)), (0, .int x0_62)]) hx hb dJ6_numberOfTrailingZeros_0f7a4_67 hl (k := 1) rfl (rfl) (by decide) rfl (fun ls hl => ?_)
            refine lv_iload_n hx hb dJ6_numberOfTrailingZeros_0f7a4_70 rfl (lv_at hl 1 rfl) ?_
            refine lv_iconst (v := 2) hx hb dJ6_numberOfTrailingZeros_0f7a4_71 (by decide) ?_
            refine lv_iushr (v := ((x0_62.toUInt32 >>> ((2 : Int32).toUInt32 &&& Int32.toUInt32 31)).toInt32)) hx hb dJ6_numberOfTrailingZeros_0f7a4_72 rfl ?_
            refine lv_istore_n (lv' := [(0, .int ((x0_62.toUInt32 >>> ((2 : Int32).toUInt32 &&& Int32.toUInt32 31)).toInt32)), (1, .int (x1_62 + 2))]) hx hb dJ6_numberOfTrailingZeros_0f7a4_73 rfl hl (by decide) rfl (fun ls hl => ?_)
            refine lv_iload_n hx hb dJ6_numberOfTrailingZeros_0f7a4_74 rfl (lv_at hl 1 rfl) ?_
            refine lv_iload_n hx hb dJ6_numberOfTrailingZeros_0f7a4_75 rfl (lv_at hl 0 rfl) ?_
            refine lv_iconst (v := 1) hx hb dJ6_numberOfTrailingZeros_0f7a4_76 (by decide) ?_
            refine lv_iushr (v := ((((x0_62.toUInt32 >>> ((2 : Int32).toUInt32 &&& Int32.toUInt32 31)).toInt32).toUInt32 >>> ((1 : Int32).toUInt32 &&& Int32.toUInt32 31)).toInt32)) hx hb dJ6_numberOfTrailingZeros_0f7a4_77 rfl ?_
            refine lv_iadd hx hb dJ6_numberOfTrailingZeros_0f7a4_78 ?_
            exact hret _ _ _ hE rfl dJ6_numberOfTrailingZeros_0f7a4_79
        refine lv_icmp_le (tgt := 62) hx hb dJ6_numberOfTrailingZeros_0f7a4_52 (by decide) (fun c52 => ?_) (fun c52 => ?_)
        · have hE := hE.trans (if_pos c52)
          exact hB62 x0_49 x1_49 _ hE (lv_sub hl [0, 1] rfl)
        · have hE := hE.trans (if_neg c52)
          refine lv_iinc (v := (x1_49 + 4)) (lv' := [(1, .int (x1_49 + 4)), (0, .int x0_49)]) hx hb dJ6_numberOfTrailingZeros_0f7a4_55 hl (k := 1) rfl (rfl) (by decide) rfl (fun ls hl => ?_)
          refine lv_iload_n hx hb dJ6_numberOfTrailingZeros_0f7a4_58 rfl (lv_at hl 1 rfl) ?_
          refine lv_iconst (v := 4) hx hb dJ6_numberOfTrailingZeros_0f7a4_59 (by decide) ?_
          refine lv_iushr (v := ((x0_49.toUInt32 >>> ((4 : Int32).toUInt32 &&& Int32.toUInt32 31)).toInt32)) hx hb dJ6_numberOfTrailingZeros_0f7a4_60 rfl ?_
          refine lv_istore_n (lv' := [(0, .int ((x0_49.toUInt32 >>> ((4 : Int32).toUInt32 &&& Int32.toUInt32 31)).toInt32)), (1, .int (x1_49 + 4))]) hx hb dJ6_numberOfTrailingZeros_0f7a4_61 rfl hl (by decide) rfl (fun ls hl => ?_)
          exact hB62 ((x0_49.toUInt32 >>> ((4 : Int32).toUInt32 &&& Int32.toUInt32 31)).toInt32) (x1_49 + 4) _ hE (lv_sub hl [0, 1] rfl)
      refine lv_icmp_le (tgt := 49) hx hb dJ6_numberOfTrailingZeros_0f7a4_38 (by decide) (fun c38 => ?_) (fun c38 => ?_)
      · have hE := hE.trans (if_pos c38)
        exact hB49 x0_34 x1_34 _ hE (lv_sub hl [0, 1] rfl)
      · have hE := hE.trans (if_neg c38)
        refine lv_iinc (v := (x1_34 + 8)) (lv' := [(1, .int (x1_34 + 8)), (0, .int x0_34)]) hx hb dJ6_numberOfTrailingZeros_0f7a4_41 hl (k := 1) rfl (rfl) (by decide) rfl (fun ls hl => ?_)
        refine lv_iload_n hx hb dJ6_numberOfTrailingZeros_0f7a4_44 rfl (lv_at hl 1 rfl) ?_
        refine lv_bipush (v := 8) hx hb dJ6_numberOfTrailingZeros_0f7a4_45 (by decide) ?_
        refine lv_iushr (v := ((x0_34.toUInt32 >>> ((8 : Int32).toUInt32 &&& Int32.toUInt32 31)).toInt32)) hx hb dJ6_numberOfTrailingZeros_0f7a4_47 rfl ?_
        refine lv_istore_n (lv' := [(0, .int ((x0_34.toUInt32 >>> ((8 : Int32).toUInt32 &&& Int32.toUInt32 31)).toInt32)), (1, .int (x1_34 + 8))]) hx hb dJ6_numberOfTrailingZeros_0f7a4_48 rfl hl (by decide) rfl (fun ls hl => ?_)
        exact hB49 ((x0_34.toUInt32 >>> ((8 : Int32).toUInt32 &&& Int32.toUInt32 31)).toInt32) (x1_34 + 8) _ hE (lv_sub hl [0, 1] rfl)
    refine lv_icmp_le (tgt := 34) hx hb dJ6_numberOfTrailingZeros_0f7a4_23 (by decide) (fun c23 => ?_) (fun c23 => ?_)
    · have hE := hE.trans (if_pos c23)
      exact hB34 ((x0 ^^^ (-1)) &&& (x0 - 1)) 1 _ hE (lv_sub hl [1, 0] rfl)
    · have hE := hE.trans (if_neg c23)
      refine lv_iinc (v := (1 + 16)) (lv' := [(1, .int (1 + 16)), (0, .int ((x0 ^^^ (-1)) &&& (x0 - 1)))]) hx hb dJ6_numberOfTrailingZeros_0f7a4_26 hl (k := 0) rfl (rfl) (by decide) rfl (fun ls hl => ?_)
      refine lv_iload_n hx hb dJ6_numberOfTrailingZeros_0f7a4_29 rfl (lv_at hl 1 rfl) ?_
      refine lv_bipush (v := 16) hx hb dJ6_numberOfTrailingZeros_0f7a4_30 (by decide) ?_
      refine lv_iushr (v := ((((x0 ^^^ (-1)) &&& (x0 - 1)).toUInt32 >>> ((16 : Int32).toUInt32 &&& Int32.toUInt32 31)).toInt32)) hx hb dJ6_numberOfTrailingZeros_0f7a4_32 rfl ?_
      refine lv_istore_n (lv' := [(0, .int ((((x0 ^^^ (-1)) &&& (x0 - 1)).toUInt32 >>> ((16 : Int32).toUInt32 &&& Int32.toUInt32 31)).toInt32)), (1, .int (1 + 16))]) hx hb dJ6_numberOfTrailingZeros_0f7a4_33 rfl hl (by decide) rfl (fun ls hl => ?_)
      exact hB34 ((((x0 ^^^ (-1)) &&& (x0 - 1)).toUInt32 >>> ((16 : Int32).toUInt32 &&& Int32.toUInt32 31)).toInt32) (1 + 16) _ hE (lv_sub hl [0, 1] rfl)
  · have hE := hE.trans (if_neg c9)
    refine lv_iload_n hx hb dJ6_numberOfTrailingZeros_0f7a4_12 rfl (lv_at hl 0 rfl) ?_
    refine lv_bipush (v := 32) hx hb dJ6_numberOfTrailingZeros_0f7a4_13 (by decide) ?_
    refine lv_iand hx hb dJ6_numberOfTrailingZeros_0f7a4_15 ?_
    exact hret _ _ _ hE rfl dJ6_numberOfTrailingZeros_0f7a4_16

def rmJ6_bitCount_0f7a4 : Room := { frames := 0, cells := 0, slots := 0, locals := 0 }
set_option maxHeartbeats 4000000 in
set_option maxRecDepth 100000 in
theorem c_J6_bitCount_0f7a4 (l : Launch) (G : zG) (x0 : Int32) (T : Int32) (hT : FJ6_bitCount_0f7a4 x0 = T) : zR l yJ6_bitCount_0f7a4 wsJ6_bitCount_0f7a4 rmJ6_bitCount_0f7a4 .int G [.int x0] [] T := by
  refine zR.mk (cc := cJ6_bitCount_0f7a4) (maxL := 1) (by decide +kernel) rfl (Nat.le_of_ble_eq_true rfl) ?_
  intro p e s m args below meth c Q A ls S hK hD hA hP hl hret
  have hx := S.1
  have hb := S.2.1
  have hl : lv_has ls 1 [(0, .int x0)] := hl
  have hE := hT.symm.trans (FJ6_bitCount_0f7a4.eq_1 _)
  refine lv_iload_n hx hb dJ6_bitCount_0f7a4_0 rfl (lv_at hl 0 rfl) ?_
  refine lv_iload_n hx hb dJ6_bitCount_0f7a4_1 rfl (lv_at hl 0 rfl) ?_
  refine lv_iconst (v := 1) hx hb dJ6_bitCount_0f7a4_2 (by decide) ?_
  refine lv_iushr (v := ((x0.toUInt32 >>> ((1 : Int32).toUInt32 &&& Int32.toUInt32 31)).toInt32)) hx hb dJ6_bitCount_0f7a4_3 rfl ?_
  refine lv_ldcw (v := 1431655765) hx hb S.2.2.2.1 (S.2.2.2.2 _ (List.mem_of_getElem? (i := 1) rfl)) dJ6_bitCount_0f7a4_4 ?_
  refine lv_iand hx hb dJ6_bitCount_0f7a4_7 ?_
  refine lv_isub hx hb dJ6_bitCount_0f7a4_8 ?_
  refine lv_istore_n (lv' := [(0, .int (x0 - (((x0.toUInt32 >>> ((1 : Int32).toUInt32 &&& Int32.toUInt32 31)).toInt32) &&& 1431655765)))]) hx hb dJ6_bitCount_0f7a4_9 rfl hl (by decide) rfl (fun ls hl => ?_)
  refine lv_iload_n hx hb dJ6_bitCount_0f7a4_10 rfl (lv_at hl 0 rfl) ?_
  refine lv_ldcw (v := 858993459) hx hb S.2.2.2.1 (S.2.2.2.2 _ (List.mem_of_getElem? (i := 2) rfl)) dJ6_bitCount_0f7a4_11 ?_
  refine lv_iand hx hb dJ6_bitCount_0f7a4_14 ?_
  refine lv_iload_n hx hb dJ6_bitCount_0f7a4_15 rfl (lv_at hl 0 rfl) ?_
  refine lv_iconst (v := 2) hx hb dJ6_bitCount_0f7a4_16 (by decide) ?_
  refine lv_iushr (v := (((x0 - (((x0.toUInt32 >>> ((1 : Int32).toUInt32 &&& Int32.toUInt32 31)).toInt32) &&& 1431655765)).toUInt32 >>> ((2 : Int32).toUInt32 &&& Int32.toUInt32 31)).toInt32)) hx hb dJ6_bitCount_0f7a4_17 rfl ?_
  refine lv_ldcw (v := 858993459) hx hb S.2.2.2.1 (S.2.2.2.2 _ (List.mem_of_getElem? (i := 2) rfl)) dJ6_bitCount_0f7a4_18 ?_
  refine lv_iand hx hb dJ6_bitCount_0f7a4_21 ?_
  refine lv_iadd hx hb dJ6_bitCount_0f7a4_22 ?_
  refine lv_istore_n (lv' := [(0, .int (((x0 - (((x0.toUInt32 >>> ((1 : Int32).toUInt32 &&& Int32.toUInt32 31)).toInt32) &&& 1431655765)) &&& 858993459) + ((((x0 - (((x0.toUInt32 >>> ((1 : Int32).toUInt32 &&& Int32.toUInt32 31)).toInt32) &&& 1431655765)).toUInt32 >>> ((2 : Int32).toUInt32 &&& Int32.toUInt32 31)).toInt32) &&& 858993459)))]) hx hb dJ6_bitCount_0f7a4_23 rfl hl (by decide) rfl (fun ls hl => ?_)
  refine lv_iload_n hx hb dJ6_bitCount_0f7a4_24 rfl (lv_at hl 0 rfl) ?_
  refine lv_iload_n hx hb dJ6_bitCount_0f7a4_25 rfl (lv_at hl 0 rfl) ?_
  refine lv_iconst (v := 4) hx hb dJ6_bitCount_0f7a4_26 (by decide) ?_
  refine lv_iushr (v := (((((x0 - (((x0.toUInt32 >>> ((1 : Int32).toUInt32 &&& Int32.toUInt32 31)).toInt32) &&& 1431655765)) &&& 858993459) + ((((x0 - (((x0.toUInt32 >>> ((1 : Int32).toUInt32 &&& Int32.toUInt32 31)).toInt32) &&& 1431655765)).toUInt32 >>> ((2 : Int32).toUInt32 &&& Int32.toUInt32 31)).toInt32) &&& 858993459)).toUInt32 >>> ((4 : Int32).toUInt32 &&& Int32.toUInt32 31)).toInt32)) hx hb dJ6_bitCount_0f7a4_27 rfl ?_
  refine lv_iadd hx hb dJ6_bitCount_0f7a4_28 ?_
  refine lv_ldcw (v := 252645135) hx hb S.2.2.2.1 (S.2.2.2.2 _ (List.mem_of_getElem? (i := 3) rfl)) dJ6_bitCount_0f7a4_29 ?_
  refine lv_iand hx hb dJ6_bitCount_0f7a4_32 ?_
  refine lv_istore_n (lv' := [(0, .int (((((x0 - (((x0.toUInt32 >>> ((1 : Int32).toUInt32 &&& Int32.toUInt32 31)).toInt32) &&& 1431655765)) &&& 858993459) + ((((x0 - (((x0.toUInt32 >>> ((1 : Int32).toUInt32 &&& Int32.toUInt32 31)).toInt32) &&& 1431655765)).toUInt32 >>> ((2 : Int32).toUInt32 &&& Int32.toUInt32 31)).toInt32) &&& 858993459)) + (((((x0 - (((x0.toUInt32 >>> ((1 : Int32).toUInt32 &&& Int32.toUInt32 31)).toInt32) &&& 1431655765)) &&& 858993459) + ((((x0 - (((x0.toUInt32 >>> ((1 : Int32).toUInt32 &&& Int32.toUInt32 31)).toInt32) &&& 1431655765)).toUInt32 >>> ((2 : Int32).toUInt32 &&& Int32.toUInt32 31)).toInt32) &&& 858993459)).toUInt32 >>> ((4 : Int32).toUInt32 &&& Int32.toUInt32 31)).toInt32)) &&& 252645135))]) hx hb dJ6_bitCount_0f7a4_33 rfl hl (by decide) rfl (fun ls hl => ?_)
  refine lv_iload_n hx hb dJ6_bitCount_0f7a4_34 rfl (lv_at hl 0 rfl) ?_
  refine lv_iload_n hx hb dJ6_bitCount_0f7a4_35 rfl (lv_at hl 0 rfl) ?_
  refine lv_bipush (v := 8) hx hb dJ6_bitCount_0f7a4_36 (by decide) ?_
  refine lv_iushr (v := (((((((x0 - (((x0.toUInt32 >>> ((1 : Int32).toUInt32 &&& Int32.toUInt32 31)).toInt32) &&& 1431655765)) &&& 858993459) + ((((x0 - (((x0.toUInt32 >>> ((1 : Int32).toUInt32 &&& Int32.toUInt32 31)).toInt32) &&& 1431655765)).toUInt32 >>> ((2 : Int32).toUInt32 &&& Int32.toUInt32 31)).toInt32) &&& 858993459)) + (((((x0 - (((x0.toUInt32 >>> ((1 : Int32).toUInt32 &&& Int32.toUInt32 31)).toInt32) &&& 1431655765)) &&& 858993459) + ((((x0 - (((x0.toUInt32 >>> ((1 : Int32).toUInt32 &&& Int32.toUInt32 31)).toInt32) &&& 1431655765)).toUInt32 >>> ((2 : Int32).toUInt32 &&& Int32.toUInt32 31)).toInt32) &&& 858993459)).toUInt32 >>> ((4 : Int32).toUInt32 &&& Int32.toUInt32 31)).toInt32)) &&& 252645135).toUInt32 >>> ((8 : Int32).toUInt32 &&& Int32.toUInt32 31)).toInt32)) hx hb dJ6_bitCount_0f7a4_38 rfl ?_
  refine lv_iadd hx hb dJ6_bitCount_0f7a4_39 ?_
  refine lv_istore_n (lv' := [(0, .int ((((((x0 - (((x0.toUInt32 >>> ((1 : Int32).toUInt32 &&& Int32.toUInt32 31)).toInt32) &&& 1431655765)) &&& 858993459) + ((((x0 - (((x0.toUInt32 >>> ((1 : Int32).toUInt32 &&& Int32.toUInt32 31)).toInt32) &&& 1431655765)).toUInt32 >>> ((2 : Int32).toUInt32 &&& Int32.toUInt32 31)).toInt32) &&& 858993459)) + (((((x0 - (((x0.toUInt32 >>> ((1 : Int32).toUInt32 &&& Int32.toUInt32 31)).toInt32) &&& 1431655765)) &&& 858993459) + ((((x0 - (((x0.toUInt32 >>> ((1 : Int32).toUInt32 &&& Int32.toUInt32 31)).toInt32) &&& 1431655765)).toUInt32 >>> ((2 : Int32).toUInt32 &&& Int32.toUInt32 31)).toInt32) &&& 858993459)).toUInt32 >>> ((4 : Int32).toUInt32 &&& Int32.toUInt32 31)).toInt32)) &&& 252645135) + (((((((x0 - (((x0.toUInt32 >>> ((1 : Int32).toUInt32 &&& Int32.toUInt32 31)).toInt32) &&& 1431655765)) &&& 858993459) + ((((x0 - (((x0.toUInt32 >>> ((1 : Int32).toUInt32 &&& Int32.toUInt32 31)).toInt32) &&& 1431655765)).toUInt32 >>> ((2 : Int32).toUInt32 &&& Int32.toUInt32 31)).toInt32) &&& 858993459)) + (((((x0 - (((x0.toUInt32 >>> ((1 : Int32).toUInt32 &&& Int32.toUInt32 31)).toInt32) &&& 1431655765)) &&& 858993459) + ((((x0 - (((x0.toUInt32 >>> ((1 : Int32).toUInt32 &&& Int32.toUInt32 31)).toInt32) &&& 1431655765)).toUInt32 >>> ((2 : Int32).toUInt32 &&& Int32.toUInt32 31)).toInt32) &&& 858993459)).toUInt32 >>> ((4 : Int32).toUInt32 &&& Int32.toUInt32 31)).toInt32)) &&& 252645135).toUInt32 >>> ((8 : Int32).toUInt32 &&& Int32.toUInt32 31)).toInt32)))]) hx hb dJ6_bitCount_0f7a4_40 rfl hl (by decide) rfl (fun ls hl => ?_)
  refine lv_iload_n hx hb dJ6_bitCount_0f7a4_41 rfl (lv_at hl 0 rfl) ?_
  refine lv_iload_n hx hb dJ6_bitCount_0f7a4_42 rfl (lv_at hl 0 rfl) ?_
  refine lv_bipush (v := 16) hx hb dJ6_bitCount_0f7a4_43 (by decide) ?_
  refine lv_iushr (v := ((((((((x0 - (((x0.toUInt32 >>> ((1 : Int32).toUInt32 &&& Int32.toUInt32 31)).toInt32) &&& 1431655765)) &&& 858993459) + ((((x0 - (((x0.toUInt32 >>> ((1 : Int32).toUInt32 &&& Int32.toUInt32 31)).toInt32) &&& 1431655765)).toUInt32 >>> ((2 : Int32).toUInt32 &&& Int32.toUInt32 31)).toInt32) &&& 858993459)) + (((((x0 - (((x0.toUInt32 >>> ((1 : Int32).toUInt32 &&& Int32.toUInt32 31)).toInt32) &&& 1431655765)) &&& 858993459) + ((((x0 - (((x0.toUInt32 >>> ((1 : Int32).toUInt32 &&& Int32.toUInt32 31)).toInt32) &&& 1431655765)).toUInt32 >>> ((2 : Int32).toUInt32 &&& Int32.toUInt32 31)).toInt32) &&& 858993459)).toUInt32 >>> ((4 : Int32).toUInt32 &&& Int32.toUInt32 31)).toInt32)) &&& 252645135) + (((((((x0 - (((x0.toUInt32 >>> ((1 : Int32).toUInt32 &&& Int32.toUInt32 31)).toInt32) &&& 1431655765)) &&& 858993459) + ((((x0 - (((x0.toUInt32 >>> ((1 : Int32).toUInt32 &&& Int32.toUInt32 31)).toInt32) &&& 1431655765)).toUInt32 >>> ((2 : Int32).toUInt32 &&& Int32.toUInt32 31)).toInt32) &&& 858993459)) + (((((x0 - (((x0.toUInt32 >>> ((1 : Int32).toUInt32 &&& Int32.toUInt32 31)).toInt32) &&& 1431655765)) &&& 858993459) + ((((x0 - (((x0.toUInt32 >>> ((1 : Int32).toUInt32 &&& Int32.toUInt32 31)).toInt32) &&& 1431655765)).toUInt32 >>> ((2 : Int32).toUInt32 &&& Int32.toUInt32 31)).toInt32) &&& 858993459)).toUInt32 >>> ((4 : Int32).toUInt32 &&& Int32.toUInt32 31)).toInt32)) &&& 252645135).toUInt32 >>> ((8 : Int32).toUInt32 &&& Int32.toUInt32 31)).toInt32)).toUInt32 >>> ((16 : Int32).toUInt32 &&& Int32.toUInt32 31)).toInt32)) hx hb dJ6_bitCount_0f7a4_45 rfl ?_
  refine lv_iadd hx hb dJ6_bitCount_0f7a4_46 ?_
  refine lv_istore_n (lv' := [(0, .int (((((((x0 - (((x0.toUInt32 >>> ((1 : Int32).toUInt32 &&& Int32.toUInt32 31)).toInt32) &&& 1431655765)) &&& 858993459) + ((((x0 - (((x0.toUInt32 >>> ((1 : Int32).toUInt32 &&& Int32.toUInt32 31)).toInt32) &&& 1431655765)).toUInt32 >>> ((2 : Int32).toUInt32 &&& Int32.toUInt32 31)).toInt32) &&& 858993459)) + (((((x0 - (((x0.toUInt32 >>> ((1 : Int32).toUInt32 &&& Int32.toUInt32 31)).toInt32) &&& 1431655765)) &&& 858993459) + ((((x0 - (((x0.toUInt32 >>> ((1 : Int32).toUInt32 &&& Int32.toUInt32 31)).toInt32) &&& 1431655765)).toUInt32 >>> ((2 : Int32).toUInt32 &&& Int32.toUInt32 31)).toInt32) &&& 858993459)).toUInt32 >>> ((4 : Int32).toUInt32 &&& Int32.toUInt32 31)).toInt32)) &&& 252645135) + (((((((x0 - (((x0.toUInt32 >>> ((1 : Int32).toUInt32 &&& Int32.toUInt32 31)).toInt32) &&& 1431655765)) &&& 858993459) + ((((x0 - (((x0.toUInt32 >>> ((1 : Int32).toUInt32 &&& Int32.toUInt32 31)).toInt32) &&& 1431655765)).toUInt32 >>> ((2 : Int32).toUInt32 &&& Int32.toUInt32 31)).toInt32) &&& 858993459)) + (((((x0 - (((x0.toUInt32 >>> ((1 : Int32).toUInt32 &&& Int32.toUInt32 31)).toInt32) &&& 1431655765)) &&& 858993459) + ((((x0 - (((x0.toUInt32 >>> ((1 : Int32).toUInt32 &&& Int32.toUInt32 31)).toInt32) &&& 1431655765)).toUInt32 >>> ((2 : Int32).toUInt32 &&& Int32.toUInt32 31)).toInt32) &&& 858993459)).toUInt32 >>> ((4 : Int32).toUInt32 &&& Int32.toUInt32 31)).toInt32)) &&& 252645135).toUInt32 >>> ((8 : Int32).toUInt32 &&& Int32.toUInt32 31)).toInt32)) + ((((((((x0 - (((x0.toUInt32 >>> ((1 : Int32).toUInt32 &&& Int32.toUInt32 31)).toInt32) &&& 1431655765)) &&& 858993459) + ((((x0 - (((x0.toUInt32 >>> ((1 : Int32).toUInt32 &&& Int32.toUInt32 31)).toInt32) &&& 1431655765)).toUInt32 >>> ((2 : Int32).toUInt32 &&& Int32.toUInt32 31)).toInt32) &&& 858993459)) + (((((x0 - (((x0.toUInt32 >>> ((1 : Int32).toUInt32 &&& Int32.toUInt32 31)).toInt32) &&& 1431655765)) &&& 858993459) + ((((x0 - (((x0.toUInt32 >>> ((1 : Int32).toUInt32 &&& Int32.toUInt32 31)).toInt32) &&& 1431655765)).toUInt32 >>> ((2 : Int32).toUInt32 &&& Int32.toUInt32 31)).toInt32) &&& 858993459)).toUInt32 >>> ((4 : Int32).toUInt32 &&& Int32.toUInt32 31)).toInt32)) &&& 252645135) + (((((((x0 - (((x0.toUInt32 >>> ((1 : Int32).toUInt32 &&& Int32.toUInt32 31)).toInt32) &&& 1431655765)) &&& 858993459) + ((((x0 - (((x0.toUInt32 >>> ((1 : Int32).toUInt32 &&& Int32.toUInt32 31)).toInt32) &&& 1431655765)).toUInt32 >>> ((2 : Int32).toUInt32 &&& Int32.toUInt32 31)).toInt32) &&& 858993459)) + (((((x0 - (((x0.toUInt32 >>> ((1 : Int32).toUInt32 &&& Int32.toUInt32 31)).toInt32) &&& 1431655765)) &&& 858993459) + ((((x0 - (((x0.toUInt32 >>> ((1 : Int32).toUInt32 &&& Int32.toUInt32 31)).toInt32) &&& 1431655765)).toUInt32 >>> ((2 : Int32).toUInt32 &&& Int32.toUInt32 31)).toInt32) &&& 858993459)).toUInt32 >>> ((4 : Int32).toUInt32 &&& Int32.toUInt32 31)).toInt32)) &&& 252645135).toUInt32 >>> ((8 : Int32).toUInt32 &&& Int32.toUInt32 31)).toInt32)).toUInt32 >>> ((16 : Int32).toUInt32 &&& Int32.toUInt32 31)).toInt32)))]) hx hb dJ6_bitCount_0f7a4_47 rfl hl (by decide) rfl (fun ls hl => ?_)
  refine lv_iload_n hx hb dJ6_bitCount_0f7a4_48 rfl (lv_at hl 0 rfl) ?_
  refine lv_bipush (v := 63) hx hb dJ6_bitCount_0f7a4_49 (by decide) ?_
  refine lv_iand hx hb dJ6_bitCount_0f7a4_51 ?_
  exact hret _ _ _ hE rfl dJ6_bitCount_0f7a4_52

def rmX8_isLiteral : Room := { frames := 0, cells := 0, slots := 0, locals := 0 }
set_option maxHeartbeats 4000000 in
set_option maxRecDepth 100000 in
theorem c_X8_isLiteral (l : Launch) (G : zG) (x0 : Int32) (T : Int32) (hT : FX8_isLiteral x0 = T) : zR l yX8_isLiteral wsX8_isLiteral rmX8_isLiteral .boolean G [.int x0] [] T := by
  refine zR.mk (cc := cX8_isLiteral) (maxL := 1) (by decide +kernel) rfl (Nat.le_of_ble_eq_true rfl) ?_
  intro p e s m args below meth c Q A ls S hK hD hA hP hl hret
  have hx := S.1
  have hb := S.2.1
  have hl : lv_has ls 1 [(0, .int x0)] := hl
  have hE := hT.symm.trans (FX8_isLiteral.eq_1 _)
  refine lv_iload_n hx hb dX8_isLiteral_0 rfl (lv_at hl 0 rfl) ?_
  refine lv_if_lt (tgt := 14) hx hb dX8_isLiteral_1 (by decide) (fun c1 => ?_) (fun c1 => ?_)
  · have hE := hE.trans (if_pos c1)
    refine lv_iconst (v := 0) hx hb dX8_isLiteral_14 (by decide) ?_
    exact hret _ _ _ hE zn0 dX8_isLiteral_15
  · have hE := hE.trans (if_neg c1)
    refine lv_iload_n hx hb dX8_isLiteral_4 rfl (lv_at hl 0 rfl) ?_
    refine lv_bipush (v := 20) hx hb dX8_isLiteral_5 (by decide) ?_
    refine lv_icmp_ge (tgt := 14) hx hb dX8_isLiteral_7 (by decide) (fun c7 => ?_) (fun c7 => ?_)
    · have hE := hE.trans (if_pos c7)
      refine lv_iconst (v := 0) hx hb dX8_isLiteral_14 (by decide) ?_
      exact hret _ _ _ hE zn0 dX8_isLiteral_15
    · have hE := hE.trans (if_neg c7)
      refine lv_iconst (v := 1) hx hb dX8_isLiteral_10 (by decide) ?_
      refine lv_goto (tgt := 15) hx hb dX8_isLiteral_11 (by decide) ?_
      exact hret _ _ _ hE zn1 dX8_isLiteral_15

def rmX8_areLiterals : Room := { frames := 0, cells := 0, slots := 0, locals := 0 }
set_option maxHeartbeats 4000000 in
set_option maxRecDepth 100000 in
theorem c_X8_areLiterals (l : Launch) (G : zG) (x0 : Int32) (T : Int32) (hT : FX8_areLiterals x0 = T) : zR l yX8_areLiterals wsX8_areLiterals rmX8_areLiterals .boolean G [.int x0] [] T := by
  refine zR.mk (cc := cX8_areLiterals) (maxL := 1) (by decide +kernel) rfl (Nat.le_of_ble_eq_true rfl) ?_
  intro p e s m args below meth c Q A ls S hK hD hA hP hl hret
  have hx := S.1
  have hb := S.2.1
  have hl : lv_has ls 1 [(0, .int x0)] := hl
  have hE := hT.symm.trans (FX8_areLiterals.eq_1 _)
  refine lv_iload_n hx hb dX8_areLiterals_0 rfl (lv_at hl 0 rfl) ?_
  refine lv_if_lt (tgt := 15) hx hb dX8_areLiterals_1 (by decide) (fun c1 => ?_) (fun c1 => ?_)
  · have hE := hE.trans (if_pos c1)
    refine lv_iconst (v := 0) hx hb dX8_areLiterals_15 (by decide) ?_
    exact hret _ _ _ hE zn0 dX8_areLiterals_16
  · have hE := hE.trans (if_neg c1)
    refine lv_iload_n hx hb dX8_areLiterals_4 rfl (lv_at hl 0 rfl) ?_
    refine lv_ldcw (v := 1048575) hx hb S.2.2.2.1 (S.2.2.2.2 _ (List.mem_of_getElem? (i := 1) rfl)) dX8_areLiterals_5 ?_
    refine lv_icmp_gt (tgt := 15) hx hb dX8_areLiterals_8 (by decide) (fun c8 => ?_) (fun c8 => ?_)
    · have hE := hE.trans (if_pos c8)
      refine lv_iconst (v := 0) hx hb dX8_areLiterals_15 (by decide) ?_
      exact hret _ _ _ hE zn0 dX8_areLiterals_16
    · have hE := hE.trans (if_neg c8)
      refine lv_iconst (v := 1) hx hb dX8_areLiterals_11 (by decide) ?_
      refine lv_goto (tgt := 16) hx hb dX8_areLiterals_12 (by decide) ?_
      exact hret _ _ _ hE zn1 dX8_areLiterals_16

def rmX8_isTag : Room := { frames := 0, cells := 0, slots := 0, locals := 0 }
set_option maxHeartbeats 4000000 in
set_option maxRecDepth 100000 in
theorem c_X8_isTag (l : Launch) (G : zG) (x0 : Int32) (T : Int32) (hT : FX8_isTag x0 = T) : zR l yX8_isTag wsX8_isTag rmX8_isTag .boolean G [.int x0] [] T := by
  refine zR.mk (cc := cX8_isTag) (maxL := 1) (by decide +kernel) rfl (Nat.le_of_ble_eq_true rfl) ?_
  intro p e s m args below meth c Q A ls S hK hD hA hP hl hret
  have hx := S.1
  have hb := S.2.1
  have hl : lv_has ls 1 [(0, .int x0)] := hl
  have hE := hT.symm.trans (FX8_isTag.eq_1 _)
  refine lv_iload_n hx hb dX8_isTag_0 rfl (lv_at hl 0 rfl) ?_
  refine lv_if_lt (tgt := 13) hx hb dX8_isTag_1 (by decide) (fun c1 => ?_) (fun c1 => ?_)
  · have hE := hE.trans (if_pos c1)
    refine lv_iconst (v := 0) hx hb dX8_isTag_13 (by decide) ?_
    exact hret _ _ _ hE zn0 dX8_isTag_14
  · have hE := hE.trans (if_neg c1)
    refine lv_iload_n hx hb dX8_isTag_4 rfl (lv_at hl 0 rfl) ?_
    refine lv_iconst (v := 4) hx hb dX8_isTag_5 (by decide) ?_
    refine lv_icmp_ge (tgt := 13) hx hb dX8_isTag_6 (by decide) (fun c6 => ?_) (fun c6 => ?_)
    · have hE := hE.trans (if_pos c6)
      refine lv_iconst (v := 0) hx hb dX8_isTag_13 (by decide) ?_
      exact hret _ _ _ hE zn0 dX8_isTag_14
    · have hE := hE.trans (if_neg c6)
      refine lv_iconst (v := 1) hx hb dX8_isTag_9 (by decide) ?_
      refine lv_goto (tgt := 14) hx hb dX8_isTag_10 (by decide) ?_
      exact hret _ _ _ hE zn1 dX8_isTag_14

def rmX8_isStrength : Room := { frames := 0, cells := 0, slots := 0, locals := 0 }
set_option maxHeartbeats 4000000 in
set_option maxRecDepth 100000 in
theorem c_X8_isStrength (l : Launch) (G : zG) (x0 : Int32) (T : Int32) (hT : FX8_isStrength x0 = T) : zR l yX8_isStrength wsX8_isStrength rmX8_isStrength .boolean G [.int x0] [] T := by
  refine zR.mk (cc := cX8_isStrength) (maxL := 1) (by decide +kernel) rfl (Nat.le_of_ble_eq_true rfl) ?_
  intro p e s m args below meth c Q A ls S hK hD hA hP hl hret
  have hx := S.1
  have hb := S.2.1
  have hl : lv_has ls 1 [(0, .int x0)] := hl
  have hE := hT.symm.trans (FX8_isStrength.eq_1 _)
  refine lv_iload_n hx hb dX8_isStrength_0 rfl (lv_at hl 0 rfl) ?_
  refine lv_if_lt (tgt := 14) hx hb dX8_isStrength_1 (by decide) (fun c1 => ?_) (fun c1 => ?_)
  · have hE := hE.trans (if_pos c1)
    refine lv_iconst (v := 0) hx hb dX8_isStrength_14 (by decide) ?_
    exact hret _ _ _ hE zn0 dX8_isStrength_15
  · have hE := hE.trans (if_neg c1)
    refine lv_iload_n hx hb dX8_isStrength_4 rfl (lv_at hl 0 rfl) ?_
    refine lv_bipush (v := 9) hx hb dX8_isStrength_5 (by decide) ?_
    refine lv_icmp_gt (tgt := 14) hx hb dX8_isStrength_7 (by decide) (fun c7 => ?_) (fun c7 => ?_)
    · have hE := hE.trans (if_pos c7)
      refine lv_iconst (v := 0) hx hb dX8_isStrength_14 (by decide) ?_
      exact hret _ _ _ hE zn0 dX8_isStrength_15
    · have hE := hE.trans (if_neg c7)
      refine lv_iconst (v := 1) hx hb dX8_isStrength_10 (by decide) ?_
      refine lv_goto (tgt := 15) hx hb dX8_isStrength_11 (by decide) ?_
      exact hret _ _ _ hE zn1 dX8_isStrength_15

def rmX8_isYesOrNo : Room := { frames := 0, cells := 0, slots := 0, locals := 0 }
set_option maxHeartbeats 4000000 in
set_option maxRecDepth 100000 in
theorem c_X8_isYesOrNo (l : Launch) (G : zG) (x0 : Int32) (T : Int32) (hT : FX8_isYesOrNo x0 = T) : zR l yX8_isYesOrNo wsX8_isYesOrNo rmX8_isYesOrNo .boolean G [.int x0] [] T := by
  refine zR.mk (cc := cX8_isYesOrNo) (maxL := 1) (by decide +kernel) rfl (Nat.le_of_ble_eq_true rfl) ?_
  intro p e s m args below meth c Q A ls S hK hD hA hP hl hret
  have hx := S.1
  have hb := S.2.1
  have hl : lv_has ls 1 [(0, .int x0)] := hl
  have hE := hT.symm.trans (FX8_isYesOrNo.eq_1 _)
  refine lv_iload_n hx hb dX8_isYesOrNo_0 rfl (lv_at hl 0 rfl) ?_
  refine lv_if_eq (tgt := 9) hx hb dX8_isYesOrNo_1 (by decide) (fun c1 => ?_) (fun c1 => ?_)
  · have hE := hE.trans (if_pos c1)
    refine lv_iconst (v := 1) hx hb dX8_isYesOrNo_9 (by decide) ?_
    refine lv_goto (tgt := 14) hx hb dX8_isYesOrNo_10 (by decide) ?_
    exact hret _ _ _ hE zn1 dX8_isYesOrNo_14
  · have hE := hE.trans (if_neg c1)
    refine lv_iload_n hx hb dX8_isYesOrNo_4 rfl (lv_at hl 0 rfl) ?_
    refine lv_iconst (v := 1) hx hb dX8_isYesOrNo_5 (by decide) ?_
    refine lv_icmp_ne (tgt := 13) hx hb dX8_isYesOrNo_6 (by decide) (fun c6 => ?_) (fun c6 => ?_)
    · have hE := hE.trans (if_neg c6)
      refine lv_iconst (v := 0) hx hb dX8_isYesOrNo_13 (by decide) ?_
      exact hret _ _ _ hE zn0 dX8_isYesOrNo_14
    · have hE := hE.trans (if_pos c6)
      refine lv_iconst (v := 1) hx hb dX8_isYesOrNo_9 (by decide) ?_
      refine lv_goto (tgt := 14) hx hb dX8_isYesOrNo_10 (by decide) ?_
      exact hret _ _ _ hE zn1 dX8_isYesOrNo_14

def rmX8_isList : Room := { frames := 0, cells := 0, slots := 0, locals := 0 }
set_option maxHeartbeats 4000000 in
set_option maxRecDepth 100000 in
theorem c_X8_isList (l : Launch) (G : zG) (x0 : Int32) (T : Int32) (hT : FX8_isList x0 = T) : zR l yX8_isList wsX8_isList rmX8_isList .boolean G [.int x0] [] T := by
  refine zR.mk (cc := cX8_isList) (maxL := 1) (by decide +kernel) rfl (Nat.le_of_ble_eq_true rfl) ?_
  intro p e s m args below meth c Q A ls S hK hD hA hP hl hret
  have hx := S.1
  have hb := S.2.1
  have hl : lv_has ls 1 [(0, .int x0)] := hl
  have hE := hT.symm.trans (FX8_isList.eq_1 _)
  refine lv_iload_n hx hb dX8_isList_0 rfl (lv_at hl 0 rfl) ?_
  refine lv_if_lt (tgt := 13) hx hb dX8_isList_1 (by decide) (fun c1 => ?_) (fun c1 => ?_)
  · have hE := hE.trans (if_pos c1)
    refine lv_iconst (v := 0) hx hb dX8_isList_13 (by decide) ?_
    exact hret _ _ _ hE zn0 dX8_isList_14
  · have hE := hE.trans (if_neg c1)
    refine lv_iload_n hx hb dX8_isList_4 rfl (lv_at hl 0 rfl) ?_
    refine lv_iconst (v := 4) hx hb dX8_isList_5 (by decide) ?_
    refine lv_icmp_ge (tgt := 13) hx hb dX8_isList_6 (by decide) (fun c6 => ?_) (fun c6 => ?_)
    · have hE := hE.trans (if_pos c6)
      refine lv_iconst (v := 0) hx hb dX8_isList_13 (by decide) ?_
      exact hret _ _ _ hE zn0 dX8_isList_14
    · have hE := hE.trans (if_neg c6)
      refine lv_iconst (v := 1) hx hb dX8_isList_9 (by decide) ?_
      refine lv_goto (tgt := 14) hx hb dX8_isList_10 (by decide) ?_
      exact hret _ _ _ hE zn1 dX8_isList_14

def rmX8_otherOf : Room := { frames := 0, cells := 0, slots := 0, locals := 0 }
set_option maxHeartbeats 4000000 in
set_option maxRecDepth 100000 in
theorem c_X8_otherOf (l : Launch) (G : zG) (x0 : Int32) (T : Int32) (hT : FX8_otherOf x0 = T) : zR l yX8_otherOf wsX8_otherOf rmX8_otherOf .int G [.int x0] [] T := by
  refine zR.mk (cc := cX8_otherOf) (maxL := 1) (by decide +kernel) rfl (Nat.le_of_ble_eq_true rfl) ?_
  intro p e s m args below meth c Q A ls S hK hD hA hP hl hret
  have hx := S.1
  have hb := S.2.1
  have hl : lv_has ls 1 [(0, .int x0)] := hl
  have hE := hT.symm.trans (FX8_otherOf.eq_1 _)
  refine lv_iload_n hx hb dX8_otherOf_0 rfl (lv_at hl 0 rfl) ?_
  refine lv_bipush (v := 10) hx hb dX8_otherOf_1 (by decide) ?_
  refine lv_icmp_ge (tgt := 13) hx hb dX8_otherOf_3 (by decide) (fun c3 => ?_) (fun c3 => ?_)
  · have hE := hE.trans (if_pos c3)
    refine lv_iload_n hx hb dX8_otherOf_13 rfl (lv_at hl 0 rfl) ?_
    refine lv_bipush (v := 10) hx hb dX8_otherOf_14 (by decide) ?_
    refine lv_isub hx hb dX8_otherOf_16 ?_
    exact hret _ _ _ hE rfl dX8_otherOf_17
  · have hE := hE.trans (if_neg c3)
    refine lv_iload_n hx hb dX8_otherOf_6 rfl (lv_at hl 0 rfl) ?_
    refine lv_bipush (v := 10) hx hb dX8_otherOf_7 (by decide) ?_
    refine lv_iadd hx hb dX8_otherOf_9 ?_
    refine lv_goto (tgt := 17) hx hb dX8_otherOf_10 (by decide) ?_
    exact hret _ _ _ hE rfl dX8_otherOf_17

def rmX8_has : Room := { frames := 0, cells := 0, slots := 0, locals := 0 }
set_option maxHeartbeats 4000000 in
set_option maxRecDepth 100000 in
theorem c_X8_has (l : Launch) (G : zG) (x0 : Int32) (x1 : Int32) (T : Int32) (hT : FX8_has x0 x1 = T) : zR l yX8_has wsX8_has rmX8_has .boolean G [.int x0, .int x1] [] T := by
  refine zR.mk (cc := cX8_has) (maxL := 2) (by decide +kernel) rfl (Nat.le_of_ble_eq_true rfl) ?_
  intro p e s m args below meth c Q A ls S hK hD hA hP hl hret
  have hx := S.1
  have hb := S.2.1
  have hl : lv_has ls 2 [(0, .int x0), (1, .int x1)] := hl
  have hE := hT.symm.trans (FX8_has.eq_1 _ _)
  refine lv_iload_n hx hb dX8_has_0 rfl (lv_at hl 0 rfl) ?_
  refine lv_iload_n hx hb dX8_has_1 rfl (lv_at hl 1 rfl) ?_
  refine lv_ishr hx hb dX8_has_2 ?_
  refine lv_iconst (v := 1) hx hb dX8_has_3 (by decide) ?_
  refine lv_iand hx hb dX8_has_4 ?_
  refine lv_iconst (v := 1) hx hb dX8_has_5 (by decide) ?_
  refine lv_icmp_ne (tgt := 13) hx hb dX8_has_6 (by decide) (fun c6 => ?_) (fun c6 => ?_)
  · have hE := hE.trans (if_neg c6)
    refine lv_iconst (v := 0) hx hb dX8_has_13 (by decide) ?_
    exact hret _ _ _ hE zn0 dX8_has_14
  · have hE := hE.trans (if_pos c6)
    refine lv_iconst (v := 1) hx hb dX8_has_9 (by decide) ?_
    refine lv_goto (tgt := 14) hx hb dX8_has_10 (by decide) ?_
    exact hret _ _ _ hE zn1 dX8_has_14

def rmX8_bit : Room := { frames := 0, cells := 0, slots := 0, locals := 0 }
set_option maxHeartbeats 4000000 in
set_option maxRecDepth 100000 in
theorem c_X8_bit (l : Launch) (G : zG) (x0 : Int32) (x1 : Int32) (T : Int32) (hT : FX8_bit x0 x1 = T) : zR l yX8_bit wsX8_bit rmX8_bit .int G [.int x0, .int x1] [] T := by
  refine zR.mk (cc := cX8_bit) (maxL := 2) (by decide +kernel) rfl (Nat.le_of_ble_eq_true rfl) ?_
  intro p e s m args below meth c Q A ls S hK hD hA hP hl hret
  have hx := S.1
  have hb := S.2.1
  have hl : lv_has ls 2 [(0, .int x0), (1, .int x1)] := hl
  have hE := hT.symm.trans (FX8_bit.eq_1 _ _)
  refine lv_iload_n hx hb dX8_bit_0 rfl (lv_at hl 0 rfl) ?_
  refine lv_iload_n hx hb dX8_bit_1 rfl (lv_at hl 1 rfl) ?_
  refine lv_ishr hx hb dX8_bit_2 ?_
  refine lv_iconst (v := 1) hx hb dX8_bit_3 (by decide) ?_
  refine lv_iand hx hb dX8_bit_4 ?_
  exact hret _ _ _ hE rfl dX8_bit_5

def rmX8_withBit : Room := { frames := 0, cells := 0, slots := 0, locals := 0 }
set_option maxHeartbeats 4000000 in
set_option maxRecDepth 100000 in
theorem c_X8_withBit (l : Launch) (G : zG) (x0 : Int32) (x1 : Int32) (x2 : Int32) (T : Int32) (hT : FX8_withBit x0 x1 x2 = T) : zR l yX8_withBit wsX8_withBit rmX8_withBit .int G [.int x0, .int x1, .int x2] [] T := by
  refine zR.mk (cc := cX8_withBit) (maxL := 3) (by decide +kernel) rfl (Nat.le_of_ble_eq_true rfl) ?_
  intro p e s m args below meth c Q A ls S hK hD hA hP hl hret
  have hx := S.1
  have hb := S.2.1
  have hl : lv_has ls 3 [(0, .int x0), (1, .int x1), (2, .int x2)] := hl
  have hE := hT.symm.trans (FX8_withBit.eq_1 _ _ _)
  refine lv_iload_n hx hb dX8_withBit_0 rfl (lv_at hl 2 rfl) ?_
  refine lv_iconst (v := 1) hx hb dX8_withBit_1 (by decide) ?_
  refine lv_icmp_ne (tgt := 13) hx hb dX8_withBit_2 (by decide) (fun c2 => ?_) (fun c2 => ?_)
  · have hE := hE.trans (if_neg c2)
    refine lv_iload_n hx hb dX8_withBit_13 rfl (lv_at hl 0 rfl) ?_
    refine lv_iconst (v := 1) hx hb dX8_withBit_14 (by decide) ?_
    refine lv_iload_n hx hb dX8_withBit_15 rfl (lv_at hl 1 rfl) ?_
    refine lv_ishl hx hb dX8_withBit_16 ?_
    refine lv_iconst (v := (-1)) hx hb dX8_withBit_17 (by decide) ?_
    refine lv_ixor hx hb dX8_withBit_18 ?_
    refine lv_iand hx hb dX8_withBit_19 ?_
    exact hret _ _ _ hE rfl dX8_withBit_20
  · have hE := hE.trans (if_pos c2)
    refine lv_iload_n hx hb dX8_withBit_5 rfl (lv_at hl 0 rfl) ?_
    refine lv_iconst (v := 1) hx hb dX8_withBit_6 (by decide) ?_
    refine lv_iload_n hx hb dX8_withBit_7 rfl (lv_at hl 1 rfl) ?_
    refine lv_ishl hx hb dX8_withBit_8 ?_
    refine lv_ior hx hb dX8_withBit_9 ?_
    refine lv_goto (tgt := 20) hx hb dX8_withBit_10 (by decide) ?_
    exact hret _ _ _ hE rfl dX8_withBit_20

def rmX8_lowestBit : Room := { frames := 0, cells := 0, slots := 0, locals := 0 }
set_option maxHeartbeats 4000000 in
set_option maxRecDepth 100000 in
theorem c_X8_lowestBit (l : Launch) (G : zG) (x0 : Int32) (T : Int32) (hT : FX8_lowestBit x0 = T) : zR l yX8_lowestBit wsX8_lowestBit rmX8_lowestBit .int G [.int x0] [] T := by
  refine zR.mk (cc := cX8_lowestBit) (maxL := 1) (by decide +kernel) rfl (Nat.le_of_ble_eq_true rfl) ?_
  intro p e s m args below meth c Q A ls S hK hD hA hP hl hret
  have hx := S.1
  have hb := S.2.1
  have hl : lv_has ls 1 [(0, .int x0)] := hl
  have hE := hT.symm.trans (FX8_lowestBit.eq_1 _)
  refine lv_iload_n hx hb dX8_lowestBit_0 rfl (lv_at hl 0 rfl) ?_
  refine lv_iload_n hx hb dX8_lowestBit_1 rfl (lv_at hl 0 rfl) ?_
  refine lv_ineg hx hb dX8_lowestBit_2 ?_
  refine lv_iand hx hb dX8_lowestBit_3 ?_
  exact hret _ _ _ hE rfl dX8_lowestBit_4

def rmX8_firstRule : Room := { frames := 1, cells := 0, slots := 0, locals := 21 }
set_option maxHeartbeats 4000000 in
set_option maxRecDepth 100000 in
theorem c_X8_firstRule (l : Launch) (G : zG) (x0 : Int32) (T : Int32) (hT : FX8_firstRule x0 = T) : zR l yX8_firstRule wsX8_firstRule rmX8_firstRule .int G [.int x0] [] T := by
  refine zR.mk (cc := cX8_firstRule) (maxL := 2) (by decide +kernel) rfl (Nat.le_of_ble_eq_true rfl) ?_
  intro p e s m args below meth c Q A ls S hK hD hA hP hl hret
  have hx := S.1
  have hb := S.2.1
  have hl : lv_has ls 2 [(0, .int x0)] := hl
  have hE := hT.symm.trans (FX8_firstRule.eq_1 _)
  refine lv_iconst (v := 0) hx hb dX8_firstRule_0 (by decide) ?_
  have hB22 : ∀ (x1_22 : Int32) (ls : Array Slot), T = FX8_firstRule_22 x0 x1_22 → lv_has ls 2 [(1, .int x1_22)] → W p l e rmX8_firstRule s m args below meth c s.heap [] 0 0 Q (F0 m 22 ls []) := by
    intro x1_22 ls hE hl
    have hE := hE.trans (FX8_firstRule_22.eq_1 _ _)
    refine lv_iload_n hx hb dX8_firstRule_22 rfl (lv_at hl 0 rfl) ?_
    exact hret _ _ _ hE rfl dX8_firstRule_23
  have hB2 : ∀ (n2 : Nat) (i1_2 : Nat) (ls : Array Slot), (i1_2 ≤ 16) → 17 ≤ i1_2 + n2 → T = FX8_firstRule_2 x0 (FX8_firstRule_22 x0) n2 (nI i1_2) → lv_has ls 2 [(0, .int x0), (1, .int (nI i1_2))] → W p l e rmX8_firstRule s m args below meth c s.heap [] 0 0 Q (F0 m 2 ls []) := by
    intro n2
    induction n2 with
    | zero =>
      intro i1_2 ls hi1_2 hn hE hl
      exact absurd hn (by omega)
    | succ n2 ih2 =>
      intro i1_2 ls hi1_2 hn hE hl
      have hE := hE.trans (FX8_firstRule_2.eq_2 _ _ _ _)
      refine lv_iload_n hx hb dX8_firstRule_2 rfl (lv_at hl 1 rfl) ?_
      refine lv_bipush (v := 16) hx hb dX8_firstRule_3 (by decide) ?_
      refine lv_icmp_ge (tgt := 22) hx hb dX8_firstRule_5 (by decide) (fun c5 => ?_) (fun c5 => ?_)
      · have hE := hE.trans (if_pos c5)
        exact hB22 (nI i1_2) _ hE (lv_sub hl [1] rfl)
      · have hE := hE.trans (if_neg c5)
        have hl1_2 : i1_2 < 16 := zlt (N := 16) rfl (by omega) (by omega) c5
        refine lv_iload_n hx hb dX8_firstRule_8 rfl (lv_at hl 0 rfl) ?_
        refine lv_iload_n hx hb dX8_firstRule_9 rfl (lv_at hl 1 rfl) ?_
        obtain ⟨t10, ht10⟩ : ∃ z, FX8_has x0 (nI i1_2) = z := ⟨_, rfl⟩
        have hE := hE.trans (bnd_eq ht10)
        have hc := c_X8_has l G x0 (nI i1_2) _ ht10
        refine zgoR (va_runS (As := [.int x0, .int (nI i1_2)]) (rest := []) S (hc _) (va_cwS 2 S.2.2.2.2 gX8_firstRule_X8_has rfl rfl rfl (by decide +kernel) ⟨Nat.le_of_ble_eq_true rfl, Nat.le_of_ble_eq_true rfl⟩) (zpS hK hP hD (is := []) rfl rfl) rfl rfl hl.1 rfl (lv_room (Nat.le_of_ble_eq_true rfl)) dX8_firstRule_10 ⟨Nat.zero_le _, Nat.zero_le _⟩) (fun hn10 => ?_)
        refine lv_if_ne (tgt := 22) hx hb dX8_firstRule_13 (by decide) (fun c13 => ?_) (fun c13 => ?_)
        · have hE := hE.trans (if_neg c13)
          exact hB22 (nI i1_2) _ hE (lv_sub hl [1] rfl)
        · have hE := hE.trans (if_pos c13)
          refine lv_iinc (v := (nI (i1_2 + 1))) (lv' := [(1, .int (nI (i1_2 + 1))), (0, .int x0)]) hx hb dX8_firstRule_16 hl (k := 1) rfl (nI_1 i1_2) (by decide) rfl (fun ls hl => ?_)
          try rw [nI_1 i1_2] at hE
          refine lv_goto (tgt := 2) hx hb dX8_firstRule_19 (by decide) ?_
          exact ih2 (i1_2 + 1) _ (by first | assumption | omega) (by omega) hE (lv_sub hl [1, 0] rfl)
  refine lv_istore_n (lv' := [(1, .int 0), (0, .int x0)]) hx hb dX8_firstRule_1 rfl hl (by decide) rfl (fun ls hl => ?_)
  exact hB2 17 0 _ (by first | assumption | omega) (by omega) hE (lv_sub hl [1, 0] rfl)

def rmX8_nextSeed : Room := { frames := 0, cells := 0, slots := 0, locals := 0 }
set_option maxHeartbeats 4000000 in
set_option maxRecDepth 100000 in
theorem c_X8_nextSeed (l : Launch) (G : zG) (x0 : Int32) (T : Int32) (hT : FX8_nextSeed x0 = T) : zR l yX8_nextSeed wsX8_nextSeed rmX8_nextSeed .int G [.int x0] [] T := by
  refine zR.mk (cc := cX8_nextSeed) (maxL := 1) (by decide +kernel) rfl (Nat.le_of_ble_eq_true rfl) ?_
  intro p e s m args below meth c Q A ls S hK hD hA hP hl hret
  have hx := S.1
  have hb := S.2.1
  have hl : lv_has ls 1 [(0, .int x0)] := hl
  have hE := hT.symm.trans (FX8_nextSeed.eq_1 _)
  refine lv_iload_n hx hb dX8_nextSeed_0 rfl (lv_at hl 0 rfl) ?_
  refine lv_ldcw (v := 1103515245) hx hb S.2.2.2.1 (S.2.2.2.2 _ (List.mem_of_getElem? (i := 1) rfl)) dX8_nextSeed_1 ?_
  refine lv_imul hx hb dX8_nextSeed_4 ?_
  refine lv_sipush (v := 12345) hx hb dX8_nextSeed_5 (by decide) ?_
  refine lv_iadd hx hb dX8_nextSeed_8 ?_
  exact hret _ _ _ hE rfl dX8_nextSeed_9

def rmX8_drawBelowThree : Room := { frames := 0, cells := 0, slots := 0, locals := 0 }
set_option maxHeartbeats 4000000 in
set_option maxRecDepth 100000 in
theorem c_X8_drawBelowThree (l : Launch) (G : zG) (x0 : Int32) (T : Int32) (hT : FX8_drawBelowThree x0 = T) : zR l yX8_drawBelowThree wsX8_drawBelowThree rmX8_drawBelowThree .int G [.int x0] [] T := by
  refine zR.mk (cc := cX8_drawBelowThree) (maxL := 1) (by decide +kernel) rfl (Nat.le_of_ble_eq_true rfl) ?_
  intro p e s m args below meth c Q A ls S hK hD hA hP hl hret
  have hx := S.1
  have hb := S.2.1
  have hl : lv_has ls 1 [(0, .int x0)] := hl
  have hE := hT.symm.trans (FX8_drawBelowThree.eq_1 _)
  refine lv_iload_n hx hb dX8_drawBelowThree_0 rfl (lv_at hl 0 rfl) ?_
  refine lv_ldcw (v := 2147483647) hx hb S.2.2.2.1 (S.2.2.2.2 _ (List.mem_of_getElem? (i := 1) rfl)) dX8_drawBelowThree_1 ?_
  refine lv_iand hx hb dX8_drawBelowThree_4 ?_
  refine lv_ldcw (v := 65536) hx hb S.2.2.2.1 (S.2.2.2.2 _ (List.mem_of_getElem? (i := 2) rfl)) dX8_drawBelowThree_5 ?_
  refine lv_idiv hx hb dX8_drawBelowThree_8 (by decide) ?_
  refine lv_iconst (v := 3) hx hb dX8_drawBelowThree_9 (by decide) ?_
  refine lv_irem hx hb dX8_drawBelowThree_10 (by decide) ?_
  exact hret _ _ _ hE rfl dX8_drawBelowThree_11

def rmX8_factByDraw : Room := { frames := 1, cells := 0, slots := 0, locals := 20 }
set_option maxHeartbeats 4000000 in
set_option maxRecDepth 100000 in
theorem c_X8_factByDraw (l : Launch) (G : zG) (x0 : Int32) (x1 : Int32) (T : Int32) (hT : FX8_factByDraw x0 x1 = T) : zR l yX8_factByDraw wsX8_factByDraw rmX8_factByDraw .int G [.int x0, .int x1] [] T := by
  refine zR.mk (cc := cX8_factByDraw) (maxL := 2) (by decide +kernel) rfl (Nat.le_of_ble_eq_true rfl) ?_
  intro p e s m args below meth c Q A ls S hK hD hA hP hl hret
  have hx := S.1
  have hb := S.2.1
  have hl : lv_has ls 2 [(0, .int x0), (1, .int x1)] := hl
  have hE := hT.symm.trans (FX8_factByDraw.eq_1 _ _)
  refine lv_iload_n hx hb dX8_factByDraw_0 rfl (lv_at hl 1 rfl) ?_
  refine lv_if_ne (tgt := 8) hx hb dX8_factByDraw_1 (by decide) (fun c1 => ?_) (fun c1 => ?_)
  · have hE := hE.trans (if_neg c1)
    refine lv_iload_n hx hb dX8_factByDraw_8 rfl (lv_at hl 1 rfl) ?_
    refine lv_iconst (v := 1) hx hb dX8_factByDraw_9 (by decide) ?_
    refine lv_icmp_ne (tgt := 22) hx hb dX8_factByDraw_10 (by decide) (fun c10 => ?_) (fun c10 => ?_)
    · have hE := hE.trans (if_neg c10)
      refine lv_iconst (v := 0) hx hb dX8_factByDraw_22 (by decide) ?_
      exact hret _ _ _ hE rfl dX8_factByDraw_23
    · have hE := hE.trans (if_pos c10)
      refine lv_iconst (v := 1) hx hb dX8_factByDraw_13 (by decide) ?_
      refine lv_iload_n hx hb dX8_factByDraw_14 rfl (lv_at hl 0 rfl) ?_
      obtain ⟨t15, ht15⟩ : ∃ z, FX8_otherOf x0 = z := ⟨_, rfl⟩
      have hE := hE.trans (bnd_eq ht15)
      have hc := c_X8_otherOf l G x0 _ ht15
      refine zgoR (va_runS (As := [.int x0]) (rest := [.int 1]) S (hc _) (va_cwS 1 S.2.2.2.2 gX8_factByDraw_X8_otherOf rfl rfl rfl (by decide +kernel) ⟨Nat.le_of_ble_eq_true rfl, Nat.le_of_ble_eq_true rfl⟩) (zpS hK hP hD (is := []) rfl rfl) rfl rfl hl.1 rfl (lv_room (Nat.le_of_ble_eq_true rfl)) dX8_factByDraw_15 ⟨Nat.zero_le _, Nat.zero_le _⟩) (fun hn15 => ?_)
      refine lv_ishl hx hb dX8_factByDraw_18 ?_
      refine lv_goto (tgt := 23) hx hb dX8_factByDraw_19 (by decide) ?_
      exact hret _ _ _ hE rfl dX8_factByDraw_23
  · have hE := hE.trans (if_pos c1)
    refine lv_iconst (v := 1) hx hb dX8_factByDraw_4 (by decide) ?_
    refine lv_iload_n hx hb dX8_factByDraw_5 rfl (lv_at hl 0 rfl) ?_
    refine lv_ishl hx hb dX8_factByDraw_6 ?_
    exact hret _ _ _ hE rfl dX8_factByDraw_7

