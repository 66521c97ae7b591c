/-! the law's calls -/
section ZWL5
variable {p : Program} {l : Launch} {e : Env} {s : State} {m : MethodId} {below : List Frame} {meth : Method} {c : Code} {b L i : Nat} {xs : Nat → Int32} {G : zG} {A : Nat → Prop} {cells slots : Nat} {arc ac ard av ad ate atv apr apv ahi : Nat → Nat} {aik : Nat → Nat → Nat} {ak awd apa aro am : Nat → Nat} {H : Heap} {locs : List Loc} {ls : Array Slot} {Q : State → Prop}
set_option maxHeartbeats 4000000 in
set_option maxRecDepth 100000 in
theorem wL_set (S : CallFix p m c cL_law 4 s #[Value.ref b] wsL_law RL) (hX : va_X b L xs s s.heap) (hbl : b < s.heap.size) (hbA : ¬ A b) (hL : L ≤ 3072) (hi : i + 6 ≤ L) (hcl : cells ≤ room_1.cells) (hsl : slots ≤ room_1.slots) (hK : zK G s) (hU : zU A s) (hA : ∀ q, s.heap.size ≤ q → A q) {sg : Nat → Nat} {y : Nat → S0} {D : Nat} {un : Int32} {brc : S8} {bc : S0} {brd : S4} {bv : S6} {bd : S0} {bte : S4} {btv : S6} {bpr : S3} {bpv : S6} {bk : S0} {bwd : S7} {bpa : S2} {bro : S5} {bm : S9} (hI : zInv sg y D un brc bc brd bv bpr bk bwd bpa bro bm) (hP : zP G (zWd G arc ac ard av ad ate atv apr apv ahi aik ak awd apa aro am sg y D un brc bc brd bv bd bte btv bpr bpv bk bwd bpa bro bm) H) (hD : zD A (zWd G arc ac ard av ad ate atv apr apv ahi aik ak awd apa aro am sg y D un brc bc brd bv bd bte btv bpr bpv bk bwd bpa bro bm)) (hS : va_S A s.heap H locs) (hl : lv_has ls 4 [(0, .ref b), (1, .ref (arc 0)), (2, .ref (am 0)), (3, .int (nI i))]) (kk : ∀ (sg : Nat → Nat) (y : Nat → S0) (D : Nat) (un : Int32) (brc : S8) (bc : S0) (brd : S4) (bv : S6) (bd : S0) (bte : S4) (btv : S6) (bpr : S3) (bpv : S6) (bk : S0) (bwd : S7) (bpa : S2) (bro : S5) (bm : S9) (H : Heap) (locs : List Loc) (ls : Array Slot), zInv sg y D un brc bc brd bv bpr bk bwd bpa bro bm → zP G (zWd G arc ac ard av ad ate atv apr apv ahi aik ak awd apa aro am sg y D un brc bc brd bv bd bte btv bpr bpv bk bwd bpa bro bm) H → zD A (zWd G arc ac ard av ad ate atv apr apv ahi aik ak awd apa aro am sg y D un brc bc brd bv bd bte btv bpr bpv bk bwd bpa bro bm) → va_S A s.heap H locs → lv_has ls 4 [(0, .ref b), (1, .ref (arc 0)), (2, .ref (am 0)), (3, .int (nI i))] → W p l e room_1 s m #[Value.ref b] below meth c H locs cells slots Q (F0 m 1116 ls [])) : W p l e room_1 s m #[Value.ref b] below meth c H locs cells slots Q (F0 m 987 ls []) := by
  obtain ⟨hx, hb, hml, hown, hts⟩ := id S
  obtain ⟨hD12, ⟨U, hun, hu9, hHis⟩, hdn, hRel, hcg, hSx, hSt, hImg, htp, hpp, hrw⟩ := id hI
  obtain ⟨hz1, hz2, hz5, hz6⟩ := zRel_hyps hRel
  have hz3 := zTape_len htp
  have hz4 := zTape_len9 htp
  have hz7 := zPap_len hpp
  have hz8 := zPap_len9 hpp
  have hz9 := zHis_un hHis hu9 hdn
  have hz10 := zRows_8 hrw
  have hz11 := zRows_9 hrw
  have hi1 : vp_in (nI i + 1) L := by rw [show (nI i + 1 : Int32) = nI (i + 1) from nI_add i 1]; exact vp_in_nI (by omega) (by omega)
  have hi2 : vp_in (nI i + 2) L := by rw [show (nI i + 2 : Int32) = nI (i + 2) from nI_add i 2]; exact vp_in_nI (by omega) (by omega)
  have hi3 : vp_in (nI i + 3) L := by rw [show (nI i + 3 : Int32) = nI (i + 3) from nI_add i 3]; exact vp_in_nI (by omega) (by omega)
  refine lv_aload_n hx hb dL_law_987 rfl (lv_at hl 1 rfl) ?_
  refine lv_aload_n hx hb dL_law_988 rfl (lv_at hl 0 rfl) ?_
  refine lv_iload_n hx hb dL_law_989 rfl (lv_at hl 3 rfl) ?_
  refine lv_iconst (v := 1) hx hb dL_law_990 (by decide) ?_
  refine lv_iadd hx hb dL_law_991 ?_
  refine va_sld hx hb hX hbl hbA hS hi1 dL_law_992 ?_
  refine lv_aload_n hx hb dL_law_993 rfl (lv_at hl 0 rfl) ?_
  refine lv_iload_n hx hb dL_law_994 rfl (lv_at hl 3 rfl) ?_
  refine lv_iconst (v := 2) hx hb dL_law_995 (by decide) ?_
  refine lv_iadd hx hb dL_law_996 ?_
  refine va_sld hx hb hX hbl hbA hS hi2 dL_law_997 ?_
  refine lv_aload_n hx hb dL_law_998 rfl (lv_at hl 0 rfl) ?_
  refine lv_iload_n hx hb dL_law_999 rfl (lv_at hl 3 rfl) ?_
  refine lv_iconst (v := 3) hx hb dL_law_1000 (by decide) ?_
  refine lv_iadd hx hb dL_law_1001 ?_
  refine va_sld hx hb hX hbl hbA hS hi3 dL_law_1002 ?_
  obtain ⟨T, hT⟩ : ∃ z, FX8_set (g5_vals bro) (g5_size bro) (xs (nI i + 1).toNatClampNeg) (xs (nI i + 2).toNatClampNeg) (xs (nI i + 3).toNatClampNeg) = z := ⟨_, rfl⟩
  obtain ⟨V, hV⟩ : ∃ z, FX9_set (g9_size bm) (g9_told bm) (xs (nI i + 1).toNatClampNeg) (xs (nI i + 2).toNatClampNeg) (xs (nI i + 3).toNatClampNeg) = z := ⟨_, rfl⟩
  have hm := m_set hI hT hV
  have hc := c_X8_set l G arc aro (ac 0) (ard 0) (ad 0) (ate 0) (apr 0) (ahi 0) (ak 0) (awd 0) (apa 0) brc bro (xs (nI i + 1).toNatClampNeg) (xs (nI i + 2).toNatClampNeg) (xs (nI i + 3).toNatClampNeg) hz10 _ hT
  refine zgoI (bs' := (zWd G arc ac ard av ad ate atv apr apv ahi aik ak awd apa aro am sg y D un brc bc brd bv bd bte btv bpr bpv bk bwd bpa (s5_vals bro T.2) bm)) hc [0, 13] rfl rfl rfl hP hD hS hA (va_runV (As := [.int (xs (nI i + 1).toNatClampNeg), .int (xs (nI i + 2).toNatClampNeg), .int (xs (nI i + 3).toNatClampNeg)]) (rest := []) S (hc.2 _) (cwV 3 S.2.2.2.2 gL_law_X8_set rfl rfl rfl (by decide +kernel) ⟨Nat.le_of_ble_eq_true rfl, Nat.le_of_ble_eq_true rfl⟩) (zpV hK hP hD (is := [0, 13]) rfl rfl 0 rfl rfl (ci := 8) rfl) rfl rfl hl.1 rfl (lv_room (Nat.le_of_ble_eq_true rfl)) dL_law_1003 ⟨hcl, hsl⟩) (fun H locs hn1 hP hD hS => ?_)
  refine lv_aload_n hx hb dL_law_1006 rfl (lv_at hl 2 rfl) ?_
  refine lv_aload_n hx hb dL_law_1007 rfl (lv_at hl 0 rfl) ?_
  refine lv_iload_n hx hb dL_law_1008 rfl (lv_at hl 3 rfl) ?_
  refine lv_iconst (v := 1) hx hb dL_law_1009 (by decide) ?_
  refine lv_iadd hx hb dL_law_1010 ?_
  refine va_sld hx hb hX hbl hbA hS hi1 dL_law_1011 ?_
  refine lv_aload_n hx hb dL_law_1012 rfl (lv_at hl 0 rfl) ?_
  refine lv_iload_n hx hb dL_law_1013 rfl (lv_at hl 3 rfl) ?_
  refine lv_iconst (v := 2) hx hb dL_law_1014 (by decide) ?_
  refine lv_iadd hx hb dL_law_1015 ?_
  refine va_sld hx hb hX hbl hbA hS hi2 dL_law_1016 ?_
  refine lv_aload_n hx hb dL_law_1017 rfl (lv_at hl 0 rfl) ?_
  refine lv_iload_n hx hb dL_law_1018 rfl (lv_at hl 3 rfl) ?_
  refine lv_iconst (v := 3) hx hb dL_law_1019 (by decide) ?_
  refine lv_iadd hx hb dL_law_1020 ?_
  refine va_sld hx hb hX hbl hbA hS hi3 dL_law_1021 ?_
  have hc := c_X9_set l G am bm (xs (nI i + 1).toNatClampNeg) (xs (nI i + 2).toNatClampNeg) (xs (nI i + 3).toNatClampNeg) hz11 _ hV
  refine zgoI (bs' := (zWd G arc ac ard av ad ate atv apr apv ahi aik ak awd apa aro am sg y D un brc bc brd bv bd bte btv bpr bpv bk bwd bpa (s5_vals bro T.2) (s9_told bm V.2))) hc [14] rfl rfl rfl hP hD hS hA (va_runV (As := [.int (xs (nI i + 1).toNatClampNeg), .int (xs (nI i + 2).toNatClampNeg), .int (xs (nI i + 3).toNatClampNeg)]) (rest := [.int T.1]) S (hc.2 _) (cwV 3 S.2.2.2.2 gL_law_X9_set rfl rfl rfl (by decide +kernel) ⟨Nat.le_of_ble_eq_true rfl, Nat.le_of_ble_eq_true rfl⟩) (zpV hK hP hD (is := [14]) rfl rfl 14 rfl rfl (ci := 9) rfl) rfl rfl hl.1 rfl (lv_room (Nat.le_of_ble_eq_true rfl)) dL_law_1022 ⟨hcl, hsl⟩) (fun H locs hn2 hP hD hS => ?_)
  refine lv_icmp_eq (tgt := 1116) hx hb dL_law_1025 (by decide) (fun _ => ?_) (fun hne => absurd hm.1 hne)
  exact kk _ _ _ _ _ _ _ _ _ _ _ _ _ _ _ _ _ _ _ _ _ hm.2 hP hD hS hl
set_option maxHeartbeats 4000000 in
set_option maxRecDepth 100000 in
theorem wL_get (S : CallFix p m c cL_law 4 s #[Value.ref b] wsL_law RL) (hX : va_X b L xs s s.heap) (hbl : b < s.heap.size) (hbA : ¬ A b) (hL : L ≤ 3072) (hi : i + 6 ≤ L) (hcl : cells ≤ room_1.cells) (hsl : slots ≤ room_1.slots) (hK : zK G s) (hU : zU A s) (hA : ∀ q, s.heap.size ≤ q → A q) {sg : Nat → Nat} {y : Nat → S0} {D : Nat} {un : Int32} {brc : S8} {bc : S0} {brd : S4} {bv : S6} {bd : S0} {bte : S4} {btv : S6} {bpr : S3} {bpv : S6} {bk : S0} {bwd : S7} {bpa : S2} {bro : S5} {bm : S9} (hI : zInv sg y D un brc bc brd bv bpr bk bwd bpa bro bm) (hP : zP G (zWd G arc ac ard av ad ate atv apr apv ahi aik ak awd apa aro am sg y D un brc bc brd bv bd bte btv bpr bpv bk bwd bpa bro bm) H) (hD : zD A (zWd G arc ac ard av ad ate atv apr apv ahi aik ak awd apa aro am sg y D un brc bc brd bv bd bte btv bpr bpv bk bwd bpa bro bm)) (hS : va_S A s.heap H locs) (hl : lv_has ls 4 [(0, .ref b), (1, .ref (arc 0)), (2, .ref (am 0)), (3, .int (nI i))]) (kk : ∀ (sg : Nat → Nat) (y : Nat → S0) (D : Nat) (un : Int32) (brc : S8) (bc : S0) (brd : S4) (bv : S6) (bd : S0) (bte : S4) (btv : S6) (bpr : S3) (bpv : S6) (bk : S0) (bwd : S7) (bpa : S2) (bro : S5) (bm : S9) (H : Heap) (locs : List Loc) (ls : Array Slot), zInv sg y D un brc bc brd bv bpr bk bwd bpa bro bm → zP G (zWd G arc ac ard av ad ate atv apr apv ahi aik ak awd apa aro am sg y D un brc bc brd bv bd bte btv bpr bpv bk bwd bpa bro bm) H → zD A (zWd G arc ac ard av ad ate atv apr apv ahi aik ak awd apa aro am sg y D un brc bc brd bv bd bte btv bpr bpv bk bwd bpa bro bm) → va_S A s.heap H locs → lv_has ls 4 [(0, .ref b), (1, .ref (arc 0)), (2, .ref (am 0)), (3, .int (nI i))] → W p l e room_1 s m #[Value.ref b] below meth c H locs cells slots Q (F0 m 1116 ls [])) : W p l e room_1 s m #[Value.ref b] below meth c H locs cells slots Q (F0 m 1030 ls []) := by
  obtain ⟨hx, hb, hml, hown, hts⟩ := id S
  obtain ⟨hD12, ⟨U, hun, hu9, hHis⟩, hdn, hRel, hcg, hSx, hSt, hImg, htp, hpp, hrw⟩ := id hI
  obtain ⟨hz1, hz2, hz5, hz6⟩ := zRel_hyps hRel
  have hz3 := zTape_len htp
  have hz4 := zTape_len9 htp
  have hz7 := zPap_len hpp
  have hz8 := zPap_len9 hpp
  have hz9 := zHis_un hHis hu9 hdn
  have hz10 := zRows_8 hrw
  have hz11 := zRows_9 hrw
  have hi1 : vp_in (nI i + 1) L := by rw [show (nI i + 1 : Int32) = nI (i + 1) from nI_add i 1]; exact vp_in_nI (by omega) (by omega)
  have hi2 : vp_in (nI i + 2) L := by rw [show (nI i + 2 : Int32) = nI (i + 2) from nI_add i 2]; exact vp_in_nI (by omega) (by omega)
  refine lv_aload_n hx hb dL_law_1030 rfl (lv_at hl 1 rfl) ?_
  refine lv_aload_n hx hb dL_law_1031 rfl (lv_at hl 0 rfl) ?_
  refine lv_iload_n hx hb dL_law_1032 rfl (lv_at hl 3 rfl) ?_
  refine lv_iconst (v := 1) hx hb dL_law_1033 (by decide) ?_
  refine lv_iadd hx hb dL_law_1034 ?_
  refine va_sld hx hb hX hbl hbA hS hi1 dL_law_1035 ?_
  refine lv_aload_n hx hb dL_law_1036 rfl (lv_at hl 0 rfl) ?_
  refine lv_iload_n hx hb dL_law_1037 rfl (lv_at hl 3 rfl) ?_
  refine lv_iconst (v := 2) hx hb dL_law_1038 (by decide) ?_
  refine lv_iadd hx hb dL_law_1039 ?_
  refine va_sld hx hb hX hbl hbA hS hi2 dL_law_1040 ?_
  obtain ⟨T, hT⟩ : ∃ z, FX8_get (g5_vals bro) (g5_size bro) (xs (nI i + 1).toNatClampNeg) (xs (nI i + 2).toNatClampNeg) = z := ⟨_, rfl⟩
  obtain ⟨V, hV⟩ : ∃ z, FX9_get (g9_size bm) (g9_told bm) (xs (nI i + 1).toNatClampNeg) (xs (nI i + 2).toNatClampNeg) = z := ⟨_, rfl⟩
  have hm := m_get hI hT hV
  have hc := c_X8_get l G arc aro (ac 0) (ard 0) (ad 0) (ate 0) (apr 0) (ahi 0) (ak 0) (awd 0) (apa 0) brc bro (xs (nI i + 1).toNatClampNeg) (xs (nI i + 2).toNatClampNeg) hz10 _ hT
  refine zgoL (va_runV (As := [.int (xs (nI i + 1).toNatClampNeg), .int (xs (nI i + 2).toNatClampNeg)]) (rest := []) S (hc _) (cwV 2 S.2.2.2.2 gL_law_X8_get rfl rfl rfl (by decide +kernel) ⟨Nat.le_of_ble_eq_true rfl, Nat.le_of_ble_eq_true rfl⟩) (zpV hK hP hD (is := [0, 13]) rfl rfl 0 rfl rfl (ci := 8) rfl) rfl rfl hl.1 rfl (lv_room (Nat.le_of_ble_eq_true rfl)) dL_law_1041 ⟨hcl, hsl⟩) ?_
  refine lv_aload_n hx hb dL_law_1044 rfl (lv_at hl 2 rfl) ?_
  refine lv_aload_n hx hb dL_law_1045 rfl (lv_at hl 0 rfl) ?_
  refine lv_iload_n hx hb dL_law_1046 rfl (lv_at hl 3 rfl) ?_
  refine lv_iconst (v := 1) hx hb dL_law_1047 (by decide) ?_
  refine lv_iadd hx hb dL_law_1048 ?_
  refine va_sld hx hb hX hbl hbA hS hi1 dL_law_1049 ?_
  refine lv_aload_n hx hb dL_law_1050 rfl (lv_at hl 0 rfl) ?_
  refine lv_iload_n hx hb dL_law_1051 rfl (lv_at hl 3 rfl) ?_
  refine lv_iconst (v := 2) hx hb dL_law_1052 (by decide) ?_
  refine lv_iadd hx hb dL_law_1053 ?_
  refine va_sld hx hb hX hbl hbA hS hi2 dL_law_1054 ?_
  have hc := c_X9_get l G am bm (xs (nI i + 1).toNatClampNeg) (xs (nI i + 2).toNatClampNeg) hz11 _ hV
  refine zgoL (va_runV (As := [.int (xs (nI i + 1).toNatClampNeg), .int (xs (nI i + 2).toNatClampNeg)]) (rest := [.long T]) S (hc _) (cwV 2 S.2.2.2.2 gL_law_X9_get rfl rfl rfl (by decide +kernel) ⟨Nat.le_of_ble_eq_true rfl, Nat.le_of_ble_eq_true rfl⟩) (zpV hK hP hD (is := [14]) rfl rfl 14 rfl rfl (ci := 9) rfl) rfl rfl hl.1 rfl (lv_room (Nat.le_of_ble_eq_true rfl)) dL_law_1055 ⟨hcl, hsl⟩) ?_
  refine W.lcmp hx hb dL_law_1058 ?_
  rw [hm, lc_refl]
  refine lv_if_eq (tgt := 1116) hx hb dL_law_1059 (by decide) (fun _ => ?_) (fun hne => absurd rfl hne)
  exact kk _ _ _ _ _ _ _ _ _ _ _ _ _ _ _ _ _ _ _ _ _ hI hP hD hS hl
set_option maxHeartbeats 4000000 in
set_option maxRecDepth 100000 in
theorem wL_undo (S : CallFix p m c cL_law 4 s #[Value.ref b] wsL_law RL) (hX : va_X b L xs s s.heap) (hbl : b < s.heap.size) (hbA : ¬ A b) (hL : L ≤ 3072) (hi : i + 6 ≤ L) (hcl : cells ≤ room_1.cells) (hsl : slots ≤ room_1.slots) (hK : zK G s) (hU : zU A s) (hA : ∀ q, s.heap.size ≤ q → A q) {sg : Nat → Nat} {y : Nat → S0} {D : Nat} {un : Int32} {brc : S8} {bc : S0} {brd : S4} {bv : S6} {bd : S0} {bte : S4} {btv : S6} {bpr : S3} {bpv : S6} {bk : S0} {bwd : S7} {bpa : S2} {bro : S5} {bm : S9} (hI : zInv sg y D un brc bc brd bv bpr bk bwd bpa bro bm) (hP : zP G (zWd G arc ac ard av ad ate atv apr apv ahi aik ak awd apa aro am sg y D un brc bc brd bv bd bte btv bpr bpv bk bwd bpa bro bm) H) (hD : zD A (zWd G arc ac ard av ad ate atv apr apv ahi aik ak awd apa aro am sg y D un brc bc brd bv bd bte btv bpr bpv bk bwd bpa bro bm)) (hS : va_S A s.heap H locs) (hl : lv_has ls 4 [(0, .ref b), (1, .ref (arc 0)), (2, .ref (am 0)), (3, .int (nI i))]) (kk : ∀ (sg : Nat → Nat) (y : Nat → S0) (D : Nat) (un : Int32) (brc : S8) (bc : S0) (brd : S4) (bv : S6) (bd : S0) (bte : S4) (btv : S6) (bpr : S3) (bpv : S6) (bk : S0) (bwd : S7) (bpa : S2) (bro : S5) (bm : S9) (H : Heap) (locs : List Loc) (ls : Array Slot), zInv sg y D un brc bc brd bv bpr bk bwd bpa bro bm → zP G (zWd G arc ac ard av ad ate atv apr apv ahi aik ak awd apa aro am sg y D un brc bc brd bv bd bte btv bpr bpv bk bwd bpa bro bm) H → zD A (zWd G arc ac ard av ad ate atv apr apv ahi aik ak awd apa aro am sg y D un brc bc brd bv bd bte btv bpr bpv bk bwd bpa bro bm) → va_S A s.heap H locs → lv_has ls 4 [(0, .ref b), (1, .ref (arc 0)), (2, .ref (am 0)), (3, .int (nI i))] → W p l e room_1 s m #[Value.ref b] below meth c H locs cells slots Q (F0 m 1116 ls [])) : W p l e room_1 s m #[Value.ref b] below meth c H locs cells slots Q (F0 m 1064 ls []) := by
  obtain ⟨hx, hb, hml, hown, hts⟩ := id S
  obtain ⟨hD12, ⟨U, hun, hu9, hHis⟩, hdn, hRel, hcg, hSx, hSt, hImg, htp, hpp, hrw⟩ := id hI
  obtain ⟨hz1, hz2, hz5, hz6⟩ := zRel_hyps hRel
  have hz3 := zTape_len htp
  have hz4 := zTape_len9 htp
  have hz7 := zPap_len hpp
  have hz8 := zPap_len9 hpp
  have hz9 := zHis_un hHis hu9 hdn
  have hz10 := zRows_8 hrw
  have hz11 := zRows_9 hrw
  refine lv_aload_n hx hb dL_law_1064 rfl (lv_at hl 1 rfl) ?_
  obtain ⟨T, hT⟩ : ∃ z, FX8_undo (g8_isSettled brc) (g0_kind bc) (g0_head bc) (g0_body bc) (g0_excepts bc) (g0_power bc) (g0_beats bc) (g0_facts bc) (g0_size bc) (g0_shut bc) sg y D un = z := ⟨_, rfl⟩
  obtain ⟨V, hV⟩ : ∃ z, FX9_undo (g9_facts bm) (g9_rules bm) (g9_strength bm) (g9_off bm) (g9_over bm) (g9_change bm) (g9_done bm) (g9_undone bm) = z := ⟨_, rfl⟩
  have hm := m_undo hI hT hV
  have hc := c_X8_undo l G arc ac ahi aik (ard 0) (ad 0) (ate 0) (apr 0) (ak 0) (awd 0) (apa 0) (aro 0) brc bc sg y D un hHis.1 hD12 _ hT
  refine zgoI (bs' := (zWd G arc ac ard av ad ate atv apr apv ahi aik ak awd apa aro am sg y (T.2.2.2.2.2.2.2.2.2.2.2.1) (T.2.2.2.2.2.2.2.2.2.2.2.2) (s8_isSettled brc T.2.1) (s0_shut (s0_size (s0_facts (s0_beats (s0_power (s0_excepts (s0_body (s0_head (s0_kind bc T.2.2.1) T.2.2.2.1) T.2.2.2.2.1) T.2.2.2.2.2.1) T.2.2.2.2.2.2.1) T.2.2.2.2.2.2.2.1) T.2.2.2.2.2.2.2.2.1) T.2.2.2.2.2.2.2.2.2.1) T.2.2.2.2.2.2.2.2.2.2.1) brd bv bd bte btv bpr bpv bk bwd bpa bro bm)) hc [0, 1, 9, 15, 16, 17, 18, 19, 20, 21, 22, 23, 24, 25, 26, 27] rfl rfl rfl hP hD hS hA (va_runV (As := []) (rest := []) S (hc.2 _) (cwV 0 S.2.2.2.2 gL_law_X8_undo rfl rfl rfl (by decide +kernel) ⟨Nat.le_of_ble_eq_true rfl, Nat.le_of_ble_eq_true rfl⟩) (zpV hK hP hD (is := [0, 1, 9, 15, 16, 17, 18, 19, 20, 21, 22, 23, 24, 25, 26, 27]) rfl rfl 0 rfl rfl (ci := 8) rfl) rfl rfl hl.1 rfl (lv_room (Nat.le_of_ble_eq_true rfl)) dL_law_1065 ⟨hcl, hsl⟩) (fun H locs hn1 hP hD hS => ?_)
  refine lv_aload_n hx hb dL_law_1068 rfl (lv_at hl 2 rfl) ?_
  have hc := c_X9_undo l G am bm ⟨D, hD12, hdn⟩ hcg _ hV
  refine zgoI (bs' := (zWd G arc ac ard av ad ate atv apr apv ahi aik ak awd apa aro am sg y (T.2.2.2.2.2.2.2.2.2.2.2.1) (T.2.2.2.2.2.2.2.2.2.2.2.2) (s8_isSettled brc T.2.1) (s0_shut (s0_size (s0_facts (s0_beats (s0_power (s0_excepts (s0_body (s0_head (s0_kind bc T.2.2.1) T.2.2.2.1) T.2.2.2.2.1) T.2.2.2.2.2.1) T.2.2.2.2.2.2.1) T.2.2.2.2.2.2.2.1) T.2.2.2.2.2.2.2.2.1) T.2.2.2.2.2.2.2.2.2.1) T.2.2.2.2.2.2.2.2.2.2.1) brd bv bd bte btv bpr bpv bk bwd bpa bro (s9_undone (s9_done (s9_over (s9_off (s9_strength (s9_rules (s9_facts bm V.2.1) V.2.2.1) V.2.2.2.1) V.2.2.2.2.1) V.2.2.2.2.2.1) V.2.2.2.2.2.2.1) V.2.2.2.2.2.2.2))) hc [14] rfl rfl rfl hP hD hS hA (va_runV (As := []) (rest := [.int T.1]) S (hc.2 _) (cwV 0 S.2.2.2.2 gL_law_X9_undo rfl rfl rfl (by decide +kernel) ⟨Nat.le_of_ble_eq_true rfl, Nat.le_of_ble_eq_true rfl⟩) (zpV hK hP hD (is := [14]) rfl rfl 14 rfl rfl (ci := 9) rfl) rfl rfl hl.1 rfl (lv_room (Nat.le_of_ble_eq_true rfl)) dL_law_1069 ⟨hcl, hsl⟩) (fun H locs hn2 hP hD hS => ?_)
  refine lv_icmp_eq (tgt := 1116) hx hb dL_law_1072 (by decide) (fun _ => ?_) (fun hne => absurd hm.1 hne)
  exact kk _ _ _ _ _ _ _ _ _ _ _ _ _ _ _ _ _ _ _ _ _ hm.2 hP hD hS hl
set_option maxHeartbeats 4000000 in
set_option maxRecDepth 100000 in
theorem wL_redo (S : CallFix p m c cL_law 4 s #[Value.ref b] wsL_law RL) (hX : va_X b L xs s s.heap) (hbl : b < s.heap.size) (hbA : ¬ A b) (hL : L ≤ 3072) (hi : i + 6 ≤ L) (hcl : cells ≤ room_1.cells) (hsl : slots ≤ room_1.slots) (hK : zK G s) (hU : zU A s) (hA : ∀ q, s.heap.size ≤ q → A q) {sg : Nat → Nat} {y : Nat → S0} {D : Nat} {un : Int32} {brc : S8} {bc : S0} {brd : S4} {bv : S6} {bd : S0} {bte : S4} {btv : S6} {bpr : S3} {bpv : S6} {bk : S0} {bwd : S7} {bpa : S2} {bro : S5} {bm : S9} (hI : zInv sg y D un brc bc brd bv bpr bk bwd bpa bro bm) (hP : zP G (zWd G arc ac ard av ad ate atv apr apv ahi aik ak awd apa aro am sg y D un brc bc brd bv bd bte btv bpr bpv bk bwd bpa bro bm) H) (hD : zD A (zWd G arc ac ard av ad ate atv apr apv ahi aik ak awd apa aro am sg y D un brc bc brd bv bd bte btv bpr bpv bk bwd bpa bro bm)) (hS : va_S A s.heap H locs) (hl : lv_has ls 4 [(0, .ref b), (1, .ref (arc 0)), (2, .ref (am 0)), (3, .int (nI i))]) (kk : ∀ (sg : Nat → Nat) (y : Nat → S0) (D : Nat) (un : Int32) (brc : S8) (bc : S0) (brd : S4) (bv : S6) (bd : S0) (bte : S4) (btv : S6) (bpr : S3) (bpv : S6) (bk : S0) (bwd : S7) (bpa : S2) (bro : S5) (bm : S9) (H : Heap) (locs : List Loc) (ls : Array Slot), zInv sg y D un brc bc brd bv bpr bk bwd bpa bro bm → zP G (zWd G arc ac ard av ad ate atv apr apv ahi aik ak awd apa aro am sg y D un brc bc brd bv bd bte btv bpr bpv bk bwd bpa bro bm) H → zD A (zWd G arc ac ard av ad ate atv apr apv ahi aik ak awd apa aro am sg y D un brc bc brd bv bd bte btv bpr bpv bk bwd bpa bro bm) → va_S A s.heap H locs → lv_has ls 4 [(0, .ref b), (1, .ref (arc 0)), (2, .ref (am 0)), (3, .int (nI i))] → W p l e room_1 s m #[Value.ref b] below meth c H locs cells slots Q (F0 m 1116 ls [])) : W p l e room_1 s m #[Value.ref b] below meth c H locs cells slots Q (F0 m 1077 ls []) := by
  obtain ⟨hx, hb, hml, hown, hts⟩ := id S
  obtain ⟨hD12, ⟨U, hun, hu9, hHis⟩, hdn, hRel, hcg, hSx, hSt, hImg, htp, hpp, hrw⟩ := id hI
  obtain ⟨hz1, hz2, hz5, hz6⟩ := zRel_hyps hRel
  have hz3 := zTape_len htp
  have hz4 := zTape_len9 htp
  have hz7 := zPap_len hpp
  have hz8 := zPap_len9 hpp
  have hz9 := zHis_un hHis hu9 hdn
  have hz10 := zRows_8 hrw
  have hz11 := zRows_9 hrw
  refine lv_aload_n hx hb dL_law_1077 rfl (lv_at hl 1 rfl) ?_
  obtain ⟨T, hT⟩ : ∃ z, FX8_redo (g8_isSettled brc) (g0_kind bc) (g0_head bc) (g0_body bc) (g0_excepts bc) (g0_power bc) (g0_beats bc) (g0_facts bc) (g0_size bc) (g0_shut bc) sg y D un = z := ⟨_, rfl⟩
  obtain ⟨V, hV⟩ : ∃ z, FX9_redo (g9_facts bm) (g9_rules bm) (g9_strength bm) (g9_off bm) (g9_over bm) (g9_change bm) (g9_done bm) (g9_undone bm) = z := ⟨_, rfl⟩
  have hm := m_redo hI hT hV
  have hc := c_X8_redo l G arc ac ahi aik (ard 0) (ad 0) (ate 0) (apr 0) (ak 0) (awd 0) (apa 0) (aro 0) brc bc sg y D un hHis.1 hD12 _ hT
  refine zgoI (bs' := (zWd G arc ac ard av ad ate atv apr apv ahi aik ak awd apa aro am sg y (T.2.2.2.2.2.2.2.2.2.2.2.1) (T.2.2.2.2.2.2.2.2.2.2.2.2) (s8_isSettled brc T.2.1) (s0_shut (s0_size (s0_facts (s0_beats (s0_power (s0_excepts (s0_body (s0_head (s0_kind bc T.2.2.1) T.2.2.2.1) T.2.2.2.2.1) T.2.2.2.2.2.1) T.2.2.2.2.2.2.1) T.2.2.2.2.2.2.2.1) T.2.2.2.2.2.2.2.2.1) T.2.2.2.2.2.2.2.2.2.1) T.2.2.2.2.2.2.2.2.2.2.1) brd bv bd bte btv bpr bpv bk bwd bpa bro bm)) hc [0, 1, 9, 15, 16, 17, 18, 19, 20, 21, 22, 23, 24, 25, 26, 27] rfl rfl rfl hP hD hS hA (va_runV (As := []) (rest := []) S (hc.2 _) (cwV 0 S.2.2.2.2 gL_law_X8_redo rfl rfl rfl (by decide +kernel) ⟨Nat.le_of_ble_eq_true rfl, Nat.le_of_ble_eq_true rfl⟩) (zpV hK hP hD (is := [0, 1, 9, 15, 16, 17, 18, 19, 20, 21, 22, 23, 24, 25, 26, 27]) rfl rfl 0 rfl rfl (ci := 8) rfl) rfl rfl hl.1 rfl (lv_room (Nat.le_of_ble_eq_true rfl)) dL_law_1078 ⟨hcl, hsl⟩) (fun H locs hn1 hP hD hS => ?_)
  refine lv_aload_n hx hb dL_law_1081 rfl (lv_at hl 2 rfl) ?_
  have hc := c_X9_redo l G am bm ⟨D, hD12, hdn⟩ hz9 hcg _ hV
  refine zgoI (bs' := (zWd G arc ac ard av ad ate atv apr apv ahi aik ak awd apa aro am sg y (T.2.2.2.2.2.2.2.2.2.2.2.1) (T.2.2.2.2.2.2.2.2.2.2.2.2) (s8_isSettled brc T.2.1) (s0_shut (s0_size (s0_facts (s0_beats (s0_power (s0_excepts (s0_body (s0_head (s0_kind bc T.2.2.1) T.2.2.2.1) T.2.2.2.2.1) T.2.2.2.2.2.1) T.2.2.2.2.2.2.1) T.2.2.2.2.2.2.2.1) T.2.2.2.2.2.2.2.2.1) T.2.2.2.2.2.2.2.2.2.1) T.2.2.2.2.2.2.2.2.2.2.1) brd bv bd bte btv bpr bpv bk bwd bpa bro (s9_undone (s9_done (s9_over (s9_off (s9_strength (s9_rules (s9_facts bm V.2.1) V.2.2.1) V.2.2.2.1) V.2.2.2.2.1) V.2.2.2.2.2.1) V.2.2.2.2.2.2.1) V.2.2.2.2.2.2.2))) hc [14] rfl rfl rfl hP hD hS hA (va_runV (As := []) (rest := [.int T.1]) S (hc.2 _) (cwV 0 S.2.2.2.2 gL_law_X9_redo rfl rfl rfl (by decide +kernel) ⟨Nat.le_of_ble_eq_true rfl, Nat.le_of_ble_eq_true rfl⟩) (zpV hK hP hD (is := [14]) rfl rfl 14 rfl rfl (ci := 9) rfl) rfl rfl hl.1 rfl (lv_room (Nat.le_of_ble_eq_true rfl)) dL_law_1082 ⟨hcl, hsl⟩) (fun H locs hn2 hP hD hS => ?_)
  refine lv_icmp_eq (tgt := 1116) hx hb dL_law_1085 (by decide) (fun _ => ?_) (fun hne => absurd hm.1 hne)
  exact kk _ _ _ _ _ _ _ _ _ _ _ _ _ _ _ _ _ _ _ _ _ hm.2 hP hD hS hl
set_option maxHeartbeats 4000000 in
set_option maxRecDepth 100000 in
theorem wL_image (S : CallFix p m c cL_law 4 s #[Value.ref b] wsL_law RL) (hX : va_X b L xs s s.heap) (hbl : b < s.heap.size) (hbA : ¬ A b) (hL : L ≤ 3072) (hi : i + 6 ≤ L) (hcl : cells ≤ room_1.cells) (hsl : slots ≤ room_1.slots) (hK : zK G s) (hU : zU A s) (hA : ∀ q, s.heap.size ≤ q → A q) {sg : Nat → Nat} {y : Nat → S0} {D : Nat} {un : Int32} {brc : S8} {bc : S0} {brd : S4} {bv : S6} {bd : S0} {bte : S4} {btv : S6} {bpr : S3} {bpv : S6} {bk : S0} {bwd : S7} {bpa : S2} {bro : S5} {bm : S9} (hI : zInv sg y D un brc bc brd bv bpr bk bwd bpa bro bm) (hP : zP G (zWd G arc ac ard av ad ate atv apr apv ahi aik ak awd apa aro am sg y D un brc bc brd bv bd bte btv bpr bpv bk bwd bpa bro bm) H) (hD : zD A (zWd G arc ac ard av ad ate atv apr apv ahi aik ak awd apa aro am sg y D un brc bc brd bv bd bte btv bpr bpv bk bwd bpa bro bm)) (hS : va_S A s.heap H locs) (hl : lv_has ls 4 [(0, .ref b), (1, .ref (arc 0)), (2, .ref (am 0)), (3, .int (nI i))]) (kk : ∀ (sg : Nat → Nat) (y : Nat → S0) (D : Nat) (un : Int32) (brc : S8) (bc : S0) (brd : S4) (bv : S6) (bd : S0) (bte : S4) (btv : S6) (bpr : S3) (bpv : S6) (bk : S0) (bwd : S7) (bpa : S2) (bro : S5) (bm : S9) (H : Heap) (locs : List Loc) (ls : Array Slot), zInv sg y D un brc bc brd bv bpr bk bwd bpa bro bm → zP G (zWd G arc ac ard av ad ate atv apr apv ahi aik ak awd apa aro am sg y D un brc bc brd bv bd bte btv bpr bpv bk bwd bpa bro bm) H → zD A (zWd G arc ac ard av ad ate atv apr apv ahi aik ak awd apa aro am sg y D un brc bc brd bv bd bte btv bpr bpv bk bwd bpa bro bm) → va_S A s.heap H locs → lv_has ls 4 [(0, .ref b), (1, .ref (arc 0)), (2, .ref (am 0)), (3, .int (nI i))] → W p l e room_1 s m #[Value.ref b] below meth c H locs cells slots Q (F0 m 1116 ls [])) : W p l e room_1 s m #[Value.ref b] below meth c H locs cells slots Q (F0 m 1090 ls []) := by
  obtain ⟨hx, hb, hml, hown, hts⟩ := id S
  obtain ⟨hD12, ⟨U, hun, hu9, hHis⟩, hdn, hRel, hcg, hSx, hSt, hImg, htp, hpp, hrw⟩ := id hI
  obtain ⟨hz1, hz2, hz5, hz6⟩ := zRel_hyps hRel
  have hz3 := zTape_len htp
  have hz4 := zTape_len9 htp
  have hz7 := zPap_len hpp
  have hz8 := zPap_len9 hpp
  have hz9 := zHis_un hHis hu9 hdn
  have hz10 := zRows_8 hrw
  have hz11 := zRows_9 hrw
  refine lv_aload_n hx hb dL_law_1090 rfl (lv_at hl 1 rfl) ?_
  obtain ⟨T, hT⟩ : ∃ z, FX8_image (g8_isKept brc) (g0_kind bc) (g0_head bc) (g0_body bc) (g0_excepts bc) (g0_power bc) (g0_beats bc) (g0_facts bc) (g0_size bc) (g0_shut bc) (g0_kind bk) (g0_head bk) (g0_body bk) (g0_excepts bk) (g0_power bk) (g0_beats bk) (g0_facts bk) (g0_size bk) (g0_shut bk) = z := ⟨_, rfl⟩
  obtain ⟨V, hV⟩ : ∃ z, FX9_image (g9_facts bm) (g9_rules bm) (g9_kind bm) (g9_head bm) (g9_body bm) (g9_except bm) (g9_strength bm) (g9_off bm) (g9_over bm) (g9_imaged bm) (g9_hasImage bm) = z := ⟨_, rfl⟩
  have hm := m_image hI hT hV
  have hc := c_X8_image l G arc ac ak (ard 0) (ad 0) (ate 0) (apr 0) (ahi 0) (awd 0) (apa 0) (aro 0) brc bc bk _ hT
  refine zgoI (bs' := (zWd G arc ac ard av ad ate atv apr apv ahi aik ak awd apa aro am sg y D un (s8_isKept brc T.2.1) bc brd bv bd bte btv bpr bpv (s0_shut (s0_size (s0_facts (s0_beats (s0_power (s0_excepts (s0_body (s0_head (s0_kind bk T.2.2.1) T.2.2.2.1) T.2.2.2.2.1) T.2.2.2.2.2.1) T.2.2.2.2.2.2.1) T.2.2.2.2.2.2.2.1) T.2.2.2.2.2.2.2.2.1) T.2.2.2.2.2.2.2.2.2.1) T.2.2.2.2.2.2.2.2.2.2) bwd bpa bro bm)) hc [0, 1, 10] rfl rfl rfl hP hD hS hA (va_runV (As := []) (rest := []) S (hc.2 _) (cwV 0 S.2.2.2.2 gL_law_X8_image rfl rfl rfl (by decide +kernel) ⟨Nat.le_of_ble_eq_true rfl, Nat.le_of_ble_eq_true rfl⟩) (zpV hK hP hD (is := [0, 1, 10]) rfl rfl 0 rfl rfl (ci := 8) rfl) rfl rfl hl.1 rfl (lv_room (Nat.le_of_ble_eq_true rfl)) dL_law_1091 ⟨hcl, hsl⟩) (fun H locs hn1 hP hD hS => ?_)
  refine lv_aload_n hx hb dL_law_1094 rfl (lv_at hl 2 rfl) ?_
  have hc := c_X9_image l G am bm _ hV
  refine zgoI (bs' := (zWd G arc ac ard av ad ate atv apr apv ahi aik ak awd apa aro am sg y D un (s8_isKept brc T.2.1) bc brd bv bd bte btv bpr bpv (s0_shut (s0_size (s0_facts (s0_beats (s0_power (s0_excepts (s0_body (s0_head (s0_kind bk T.2.2.1) T.2.2.2.1) T.2.2.2.2.1) T.2.2.2.2.2.1) T.2.2.2.2.2.2.1) T.2.2.2.2.2.2.2.1) T.2.2.2.2.2.2.2.2.1) T.2.2.2.2.2.2.2.2.2.1) T.2.2.2.2.2.2.2.2.2.2) bwd bpa bro (s9_hasImage (s9_imaged bm V.2.1) V.2.2))) hc [14] rfl rfl rfl hP hD hS hA (va_runV (As := []) (rest := [.int T.1]) S (hc.2 _) (cwV 0 S.2.2.2.2 gL_law_X9_image rfl rfl rfl (by decide +kernel) ⟨Nat.le_of_ble_eq_true rfl, Nat.le_of_ble_eq_true rfl⟩) (zpV hK hP hD (is := [14]) rfl rfl 14 rfl rfl (ci := 9) rfl) rfl rfl hl.1 rfl (lv_room (Nat.le_of_ble_eq_true rfl)) dL_law_1095 ⟨hcl, hsl⟩) (fun H locs hn2 hP hD hS => ?_)
  refine lv_icmp_eq (tgt := 1116) hx hb dL_law_1098 (by decide) (fun _ => ?_) (fun hne => absurd hm.1 hne)
  exact kk _ _ _ _ _ _ _ _ _ _ _ _ _ _ _ _ _ _ _ _ _ hm.2 hP hD hS hl
set_option maxHeartbeats 4000000 in
set_option maxRecDepth 100000 in
theorem wL_back (S : CallFix p m c cL_law 4 s #[Value.ref b] wsL_law RL) (hX : va_X b L xs s s.heap) (hbl : b < s.heap.size) (hbA : ¬ A b) (hL : L ≤ 3072) (hi : i + 6 ≤ L) (hcl : cells ≤ room_1.cells) (hsl : slots ≤ room_1.slots) (hK : zK G s) (hU : zU A s) (hA : ∀ q, s.heap.size ≤ q → A q) {sg : Nat → Nat} {y : Nat → S0} {D : Nat} {un : Int32} {brc : S8} {bc : S0} {brd : S4} {bv : S6} {bd : S0} {bte : S4} {btv : S6} {bpr : S3} {bpv : S6} {bk : S0} {bwd : S7} {bpa : S2} {bro : S5} {bm : S9} (hI : zInv sg y D un brc bc brd bv bpr bk bwd bpa bro bm) (hP : zP G (zWd G arc ac ard av ad ate atv apr apv ahi aik ak awd apa aro am sg y D un brc bc brd bv bd bte btv bpr bpv bk bwd bpa bro bm) H) (hD : zD A (zWd G arc ac ard av ad ate atv apr apv ahi aik ak awd apa aro am sg y D un brc bc brd bv bd bte btv bpr bpv bk bwd bpa bro bm)) (hS : va_S A s.heap H locs) (hl : lv_has ls 4 [(0, .ref b), (1, .ref (arc 0)), (2, .ref (am 0)), (3, .int (nI i))]) (kk : ∀ (sg : Nat → Nat) (y : Nat → S0) (D : Nat) (un : Int32) (brc : S8) (bc : S0) (brd : S4) (bv : S6) (bd : S0) (bte : S4) (btv : S6) (bpr : S3) (bpv : S6) (bk : S0) (bwd : S7) (bpa : S2) (bro : S5) (bm : S9) (H : Heap) (locs : List Loc) (ls : Array Slot), zInv sg y D un brc bc brd bv bpr bk bwd bpa bro bm → zP G (zWd G arc ac ard av ad ate atv apr apv ahi aik ak awd apa aro am sg y D un brc bc brd bv bd bte btv bpr bpv bk bwd bpa bro bm) H → zD A (zWd G arc ac ard av ad ate atv apr apv ahi aik ak awd apa aro am sg y D un brc bc brd bv bd bte btv bpr bpv bk bwd bpa bro bm) → va_S A s.heap H locs → lv_has ls 4 [(0, .ref b), (1, .ref (arc 0)), (2, .ref (am 0)), (3, .int (nI i))] → W p l e room_1 s m #[Value.ref b] below meth c H locs cells slots Q (F0 m 1116 ls [])) : W p l e room_1 s m #[Value.ref b] below meth c H locs cells slots Q (F0 m 1103 ls []) := by
  obtain ⟨hx, hb, hml, hown, hts⟩ := id S
  obtain ⟨hD12, ⟨U, hun, hu9, hHis⟩, hdn, hRel, hcg, hSx, hSt, hImg, htp, hpp, hrw⟩ := id hI
  obtain ⟨hz1, hz2, hz5, hz6⟩ := zRel_hyps hRel
  have hz3 := zTape_len htp
  have hz4 := zTape_len9 htp
  have hz7 := zPap_len hpp
  have hz8 := zPap_len9 hpp
  have hz9 := zHis_un hHis hu9 hdn
  have hz10 := zRows_8 hrw
  have hz11 := zRows_9 hrw
  refine lv_aload_n hx hb dL_law_1103 rfl (lv_at hl 1 rfl) ?_
  obtain ⟨T, hT⟩ : ∃ z, FX8_back (g8_isKept brc) (g8_isSettled brc) (g0_kind bc) (g0_head bc) (g0_body bc) (g0_excepts bc) (g0_power bc) (g0_beats bc) (g0_facts bc) (g0_size bc) (g0_shut bc) (g0_kind bk) (g0_head bk) (g0_body bk) (g0_excepts bk) (g0_power bk) (g0_beats bk) (g0_facts bk) (g0_size bk) (g0_shut bk) sg y D un = z := ⟨_, rfl⟩
  obtain ⟨V, hV⟩ : ∃ z, FX9_back (g9_facts bm) (g9_rules bm) (g9_kind bm) (g9_head bm) (g9_body bm) (g9_except bm) (g9_strength bm) (g9_off bm) (g9_over bm) (g9_done bm) (g9_undone bm) (g9_imaged bm) (g9_hasImage bm) = z := ⟨_, rfl⟩
  have hm := m_back hI hT hV
  have hc := c_X8_back l G arc ac ak ahi aik (ard 0) (ad 0) (ate 0) (apr 0) (awd 0) (apa 0) (aro 0) brc bc bk sg y D un hHis.1 _ hT
  refine zgoI (bs' := (zWd G arc ac ard av ad ate atv apr apv ahi aik ak awd apa aro am sg (T.2.2.2.2.2.2.2.2.2.2.2.1) (T.2.2.2.2.2.2.2.2.2.2.2.2.1) (T.2.2.2.2.2.2.2.2.2.2.2.2.2) (s8_isSettled brc T.2.1) (s0_shut (s0_size (s0_facts (s0_beats (s0_power (s0_excepts (s0_body (s0_head (s0_kind bc T.2.2.1) T.2.2.2.1) T.2.2.2.2.1) T.2.2.2.2.2.1) T.2.2.2.2.2.2.1) T.2.2.2.2.2.2.2.1) T.2.2.2.2.2.2.2.2.1) T.2.2.2.2.2.2.2.2.2.1) T.2.2.2.2.2.2.2.2.2.2.1) brd bv bd bte btv bpr bpv bk bwd bpa bro bm)) hc [0, 1, 10, 9, 15, 16, 17, 18, 19, 20, 21, 22, 23, 24, 25, 26, 27] rfl rfl rfl hP hD hS hA (va_runV (As := []) (rest := []) S (hc.2 _) (cwV 0 S.2.2.2.2 gL_law_X8_back rfl rfl rfl (by decide +kernel) ⟨Nat.le_of_ble_eq_true rfl, Nat.le_of_ble_eq_true rfl⟩) (zpV hK hP hD (is := [0, 1, 10, 9, 15, 16, 17, 18, 19, 20, 21, 22, 23, 24, 25, 26, 27]) rfl rfl 0 rfl rfl (ci := 8) rfl) rfl rfl hl.1 rfl (lv_room (Nat.le_of_ble_eq_true rfl)) dL_law_1104 ⟨hcl, hsl⟩) (fun H locs hn1 hP hD hS => ?_)
  refine lv_aload_n hx hb dL_law_1107 rfl (lv_at hl 2 rfl) ?_
  have hc := c_X9_back l G am bm _ hV
  refine zgoI (bs' := (zWd G arc ac ard av ad ate atv apr apv ahi aik ak awd apa aro am sg (T.2.2.2.2.2.2.2.2.2.2.2.1) (T.2.2.2.2.2.2.2.2.2.2.2.2.1) (T.2.2.2.2.2.2.2.2.2.2.2.2.2) (s8_isSettled brc T.2.1) (s0_shut (s0_size (s0_facts (s0_beats (s0_power (s0_excepts (s0_body (s0_head (s0_kind bc T.2.2.1) T.2.2.2.1) T.2.2.2.2.1) T.2.2.2.2.2.1) T.2.2.2.2.2.2.1) T.2.2.2.2.2.2.2.1) T.2.2.2.2.2.2.2.2.1) T.2.2.2.2.2.2.2.2.2.1) T.2.2.2.2.2.2.2.2.2.2.1) brd bv bd bte btv bpr bpv bk bwd bpa bro (s9_undone (s9_done (s9_over (s9_off (s9_strength (s9_except (s9_body (s9_head (s9_kind (s9_rules (s9_facts bm V.2.1) V.2.2.1) V.2.2.2.1) V.2.2.2.2.1) V.2.2.2.2.2.1) V.2.2.2.2.2.2.1) V.2.2.2.2.2.2.2.1) V.2.2.2.2.2.2.2.2.1) V.2.2.2.2.2.2.2.2.2.1) V.2.2.2.2.2.2.2.2.2.2.1) V.2.2.2.2.2.2.2.2.2.2.2))) hc [14] rfl rfl rfl hP hD hS hA (va_runV (As := []) (rest := [.int T.1]) S (hc.2 _) (cwV 0 S.2.2.2.2 gL_law_X9_back rfl rfl rfl (by decide +kernel) ⟨Nat.le_of_ble_eq_true rfl, Nat.le_of_ble_eq_true rfl⟩) (zpV hK hP hD (is := [14]) rfl rfl 14 rfl rfl (ci := 9) rfl) rfl rfl hl.1 rfl (lv_room (Nat.le_of_ble_eq_true rfl)) dL_law_1108 ⟨hcl, hsl⟩) (fun H locs hn2 hP hD hS => ?_)
  refine lv_icmp_eq (tgt := 1116) hx hb dL_law_1111 (by decide) (fun _ => ?_) (fun hne => absurd hm.1 hne)
  exact kk _ _ _ _ _ _ _ _ _ _ _ _ _ _ _ _ _ _ _ _ _ hm.2 hP hD hS hl
end ZWL5
