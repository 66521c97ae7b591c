/-! the law's calls -/
section ZWL3
variable {p : Program} {l : Launch} {e : Env} {s : State} {m : MethodId} {below : List Frame} {meth : Method} {c : Code} {b L i : Nat} {xs : Nat → Int32} {G : zG} {A : Nat → Prop} {cells slots : Nat} {arc ac ard av ad ate atv apr apv ahi : Nat → Nat} {aik : Nat → Nat → Nat} {ak awd apa aro am : Nat → Nat} {H : Heap} {locs : List Loc} {ls : Array Slot} {Q : State → Prop}
set_option maxHeartbeats 4000000 in
set_option maxRecDepth 100000 in
theorem wL_prints (S : CallFix p m c cL_law 4 s #[Value.ref b] wsL_law RL) (hX : va_X b L xs s s.heap) (hbl : b < s.heap.size) (hbA : ¬ A b) (hL : L ≤ 3072) (hi : i + 6 ≤ L) (hcl : cells ≤ room_1.cells) (hsl : slots ≤ room_1.slots) (hK : zK G s) (hU : zU A s) (hA : ∀ q, s.heap.size ≤ q → A q) {sg : Nat → Nat} {y : Nat → S0} {D : Nat} {un : Int32} {brc : S8} {bc : S0} {brd : S4} {bv : S6} {bd : S0} {bte : S4} {btv : S6} {bpr : S3} {bpv : S6} {bk : S0} {bwd : S7} {bpa : S2} {bro : S5} {bm : S9} (hI : zInv sg y D un brc bc brd bv bpr bk bwd bpa bro bm) (hP : zP G (zWd G arc ac ard av ad ate atv apr apv ahi aik ak awd apa aro am sg y D un brc bc brd bv bd bte btv bpr bpv bk bwd bpa bro bm) H) (hD : zD A (zWd G arc ac ard av ad ate atv apr apv ahi aik ak awd apa aro am sg y D un brc bc brd bv bd bte btv bpr bpv bk bwd bpa bro bm)) (hS : va_S A s.heap H locs) (hl : lv_has ls 4 [(0, .ref b), (1, .ref (arc 0)), (2, .ref (am 0)), (3, .int (nI i))]) (kk : ∀ (sg : Nat → Nat) (y : Nat → S0) (D : Nat) (un : Int32) (brc : S8) (bc : S0) (brd : S4) (bv : S6) (bd : S0) (bte : S4) (btv : S6) (bpr : S3) (bpv : S6) (bk : S0) (bwd : S7) (bpa : S2) (bro : S5) (bm : S9) (H : Heap) (locs : List Loc) (ls : Array Slot), zInv sg y D un brc bc brd bv bpr bk bwd bpa bro bm → zP G (zWd G arc ac ard av ad ate atv apr apv ahi aik ak awd apa aro am sg y D un brc bc brd bv bd bte btv bpr bpv bk bwd bpa bro bm) H → zD A (zWd G arc ac ard av ad ate atv apr apv ahi aik ak awd apa aro am sg y D un brc bc brd bv bd bte btv bpr bpv bk bwd bpa bro bm) → va_S A s.heap H locs → lv_has ls 4 [(0, .ref b), (1, .ref (arc 0)), (2, .ref (am 0)), (3, .int (nI i))] → W p l e room_1 s m #[Value.ref b] below meth c H locs cells slots Q (F0 m 1116 ls [])) : W p l e room_1 s m #[Value.ref b] below meth c H locs cells slots Q (F0 m 670 ls []) := by
  obtain ⟨hx, hb, hml, hown, hts⟩ := id S
  obtain ⟨hD12, ⟨U, hun, hu9, hHis⟩, hdn, hRel, hcg, hSx, hSt, hImg, htp, hpp, hrw⟩ := id hI
  obtain ⟨hz1, hz2, hz5, hz6⟩ := zRel_hyps hRel
  have hz3 := zTape_len htp
  have hz4 := zTape_len9 htp
  have hz7 := zPap_len hpp
  have hz8 := zPap_len9 hpp
  have hz9 := zHis_un hHis hu9 hdn
  have hz10 := zRows_8 hrw
  have hz11 := zRows_9 hrw
  have hi1 : vp_in (nI i + 1) L := by rw [show (nI i + 1 : Int32) = nI (i + 1) from nI_add i 1]; exact vp_in_nI (by omega) (by omega)
  have hi2 : vp_in (nI i + 2) L := by rw [show (nI i + 2 : Int32) = nI (i + 2) from nI_add i 2]; exact vp_in_nI (by omega) (by omega)
  refine lv_aload_n hx hb dL_law_670 rfl (lv_at hl 1 rfl) ?_
  refine lv_aload_n hx hb dL_law_671 rfl (lv_at hl 0 rfl) ?_
  refine lv_iload_n hx hb dL_law_672 rfl (lv_at hl 3 rfl) ?_
  refine lv_iconst (v := 1) hx hb dL_law_673 (by decide) ?_
  refine lv_iadd hx hb dL_law_674 ?_
  refine va_sld hx hb hX hbl hbA hS hi1 dL_law_675 ?_
  refine lv_aload_n hx hb dL_law_676 rfl (lv_at hl 0 rfl) ?_
  refine lv_iload_n hx hb dL_law_677 rfl (lv_at hl 3 rfl) ?_
  refine lv_iconst (v := 2) hx hb dL_law_678 (by decide) ?_
  refine lv_iadd hx hb dL_law_679 ?_
  refine va_sld hx hb hX hbl hbA hS hi2 dL_law_680 ?_
  obtain ⟨T, hT⟩ : ∃ z, FX8_prints (g8_isSettled brc) (g0_kind bc) (g0_head bc) (g0_body bc) (g0_excepts bc) (g0_power bc) (g0_beats bc) (g0_facts bc) (g0_size bc) (g0_shut bc) (g4_came brd) (g4_last brd) (g6_known bv) (g6_fresh bv) (g6_strictFor bv) (g6_forwardFor bv) (g6_allFor bv) (g6_above bv) (g6_facts bv) (g6_applies bv) (g6_falls bv) (g6_sureBodies bv) (g6_neverBodies bv) (g3_wanted bpr) (g3_steps bpr) (g3_length bpr) (g6_known bpv) (g6_strictFor bpv) (g6_forwardFor bpv) (g6_allFor bpv) (g6_above bpv) (g6_facts bpv) (g6_applies bpv) (g6_falls bpv) (g6_sureBodies bpv) (g6_neverBodies bpv) (g2_bytes bpa) (g2_length bpa) (xs (nI i + 1).toNatClampNeg) (xs (nI i + 2).toNatClampNeg) = z := ⟨_, rfl⟩
  obtain ⟨V, hV⟩ : ∃ z, FX9_prints (g9_facts bm) (g9_rules bm) (g9_kind bm) (g9_head bm) (g9_body bm) (g9_except bm) (g9_strength bm) (g9_off bm) (g9_over bm) (g9_paper bm) (g9_papers bm) (g9_came bm) (g9_known bm) (g9_fresh bm) (g9_rounds bm) (g9_needed bm) (g9_listed bm) (g9_lists bm) (xs (nI i + 1).toNatClampNeg) (xs (nI i + 2).toNatClampNeg) = z := ⟨_, rfl⟩
  have hm := m_prints hI hT hV
  have hc := c_X8_prints l G arc ac ard av apr apv apa (ad 0) (ate 0) (ahi 0) (ak 0) (awd 0) (aro 0) brc bc brd bv bpr bpv bpa (xs (nI i + 1).toNatClampNeg) (xs (nI i + 2).toNatClampNeg) hz5 hz1 hSx.2 hSt hz6 _ hT
  refine zgoIs (bs' := (zWd G arc ac ard av ad ate atv apr apv ahi aik ak awd apa aro am sg y D un (s8_isSettled brc T.2.1) bc (s4_last (s4_came brd T.2.2.1) T.2.2.2.1) (s6_neverBodies (s6_sureBodies (s6_falls (s6_applies (s6_facts (s6_above (s6_allFor (s6_forwardFor (s6_strictFor (s6_fresh (s6_known bv T.2.2.2.2.1) T.2.2.2.2.2.1) T.2.2.2.2.2.2.1) T.2.2.2.2.2.2.2.1) T.2.2.2.2.2.2.2.2.1) T.2.2.2.2.2.2.2.2.2.1) T.2.2.2.2.2.2.2.2.2.2.1) T.2.2.2.2.2.2.2.2.2.2.2.1) T.2.2.2.2.2.2.2.2.2.2.2.2.1) T.2.2.2.2.2.2.2.2.2.2.2.2.2.1) T.2.2.2.2.2.2.2.2.2.2.2.2.2.2.1) bd bte btv (s3_length (s3_steps (s3_wanted bpr T.2.2.2.2.2.2.2.2.2.2.2.2.2.2.2.1) T.2.2.2.2.2.2.2.2.2.2.2.2.2.2.2.2.1) T.2.2.2.2.2.2.2.2.2.2.2.2.2.2.2.2.2.1) (s6_neverBodies (s6_sureBodies (s6_falls (s6_applies (s6_facts (s6_above (s6_allFor (s6_forwardFor (s6_strictFor (s6_known bpv T.2.2.2.2.2.2.2.2.2.2.2.2.2.2.2.2.2.2.1) T.2.2.2.2.2.2.2.2.2.2.2.2.2.2.2.2.2.2.2.1) T.2.2.2.2.2.2.2.2.2.2.2.2.2.2.2.2.2.2.2.2.1) T.2.2.2.2.2.2.2.2.2.2.2.2.2.2.2.2.2.2.2.2.2.1) T.2.2.2.2.2.2.2.2.2.2.2.2.2.2.2.2.2.2.2.2.2.2.1) T.2.2.2.2.2.2.2.2.2.2.2.2.2.2.2.2.2.2.2.2.2.2.2.1) T.2.2.2.2.2.2.2.2.2.2.2.2.2.2.2.2.2.2.2.2.2.2.2.2.1) T.2.2.2.2.2.2.2.2.2.2.2.2.2.2.2.2.2.2.2.2.2.2.2.2.2.1) T.2.2.2.2.2.2.2.2.2.2.2.2.2.2.2.2.2.2.2.2.2.2.2.2.2.2.1) T.2.2.2.2.2.2.2.2.2.2.2.2.2.2.2.2.2.2.2.2.2.2.2.2.2.2.2.1) bk bwd (s2_length (s2_bytes bpa T.2.2.2.2.2.2.2.2.2.2.2.2.2.2.2.2.2.2.2.2.2.2.2.2.2.2.2.2.1) T.2.2.2.2.2.2.2.2.2.2.2.2.2.2.2.2.2.2.2.2.2.2.2.2.2.2.2.2.2) bro bm)) hc [0, 1, 2, 3, 7, 8, 12] rfl rfl rfl hP hD hS hA (va_runV (As := [.int (xs (nI i + 1).toNatClampNeg), .int (xs (nI i + 2).toNatClampNeg)]) (rest := []) S (hc.2 _) (cwV 2 S.2.2.2.2 gL_law_X8_prints rfl rfl rfl (by decide +kernel) ⟨Nat.le_of_ble_eq_true rfl, Nat.le_of_ble_eq_true rfl⟩) (zpVs hU hS hA hK hP hD (is := [0, 1, 2, 3, 7, 8, 12]) rfl rfl 0 rfl rfl (ci := 8) rfl) rfl rfl hl.1 rfl (lv_room (Nat.le_of_ble_eq_true rfl)) dL_law_681 ⟨hcl, hsl⟩) (fun H locs hn1 hP hD hS => ?_)
  refine lv_aload_n hx hb dL_law_684 rfl (lv_at hl 2 rfl) ?_
  refine lv_aload_n hx hb dL_law_685 rfl (lv_at hl 0 rfl) ?_
  refine lv_iload_n hx hb dL_law_686 rfl (lv_at hl 3 rfl) ?_
  refine lv_iconst (v := 1) hx hb dL_law_687 (by decide) ?_
  refine lv_iadd hx hb dL_law_688 ?_
  refine va_sld hx hb hX hbl hbA hS hi1 dL_law_689 ?_
  refine lv_aload_n hx hb dL_law_690 rfl (lv_at hl 0 rfl) ?_
  refine lv_iload_n hx hb dL_law_691 rfl (lv_at hl 3 rfl) ?_
  refine lv_iconst (v := 2) hx hb dL_law_692 (by decide) ?_
  refine lv_iadd hx hb dL_law_693 ?_
  refine va_sld hx hb hX hbl hbA hS hi2 dL_law_694 ?_
  have hc := c_X9_prints l G am bm (xs (nI i + 1).toNatClampNeg) (xs (nI i + 2).toNatClampNeg) (q_zPv hRel (zG9 bm)) (q_hpl hRel (zG9 bm)) hz2 _ hV
  refine zgoI (bs' := (zWd G arc ac ard av ad ate atv apr apv ahi aik ak awd apa aro am sg y D un (s8_isSettled brc T.2.1) bc (s4_last (s4_came brd T.2.2.1) T.2.2.2.1) (s6_neverBodies (s6_sureBodies (s6_falls (s6_applies (s6_facts (s6_above (s6_allFor (s6_forwardFor (s6_strictFor (s6_fresh (s6_known bv T.2.2.2.2.1) T.2.2.2.2.2.1) T.2.2.2.2.2.2.1) T.2.2.2.2.2.2.2.1) T.2.2.2.2.2.2.2.2.1) T.2.2.2.2.2.2.2.2.2.1) T.2.2.2.2.2.2.2.2.2.2.1) T.2.2.2.2.2.2.2.2.2.2.2.1) T.2.2.2.2.2.2.2.2.2.2.2.2.1) T.2.2.2.2.2.2.2.2.2.2.2.2.2.1) T.2.2.2.2.2.2.2.2.2.2.2.2.2.2.1) bd bte btv (s3_length (s3_steps (s3_wanted bpr T.2.2.2.2.2.2.2.2.2.2.2.2.2.2.2.1) T.2.2.2.2.2.2.2.2.2.2.2.2.2.2.2.2.1) T.2.2.2.2.2.2.2.2.2.2.2.2.2.2.2.2.2.1) (s6_neverBodies (s6_sureBodies (s6_falls (s6_applies (s6_facts (s6_above (s6_allFor (s6_forwardFor (s6_strictFor (s6_known bpv T.2.2.2.2.2.2.2.2.2.2.2.2.2.2.2.2.2.2.1) T.2.2.2.2.2.2.2.2.2.2.2.2.2.2.2.2.2.2.2.1) T.2.2.2.2.2.2.2.2.2.2.2.2.2.2.2.2.2.2.2.2.1) T.2.2.2.2.2.2.2.2.2.2.2.2.2.2.2.2.2.2.2.2.2.1) T.2.2.2.2.2.2.2.2.2.2.2.2.2.2.2.2.2.2.2.2.2.2.1) T.2.2.2.2.2.2.2.2.2.2.2.2.2.2.2.2.2.2.2.2.2.2.2.1) T.2.2.2.2.2.2.2.2.2.2.2.2.2.2.2.2.2.2.2.2.2.2.2.2.1) T.2.2.2.2.2.2.2.2.2.2.2.2.2.2.2.2.2.2.2.2.2.2.2.2.2.1) T.2.2.2.2.2.2.2.2.2.2.2.2.2.2.2.2.2.2.2.2.2.2.2.2.2.2.1) T.2.2.2.2.2.2.2.2.2.2.2.2.2.2.2.2.2.2.2.2.2.2.2.2.2.2.2.1) bk bwd (s2_length (s2_bytes bpa T.2.2.2.2.2.2.2.2.2.2.2.2.2.2.2.2.2.2.2.2.2.2.2.2.2.2.2.2.1) T.2.2.2.2.2.2.2.2.2.2.2.2.2.2.2.2.2.2.2.2.2.2.2.2.2.2.2.2.2) bro (s9_lists (s9_listed (s9_needed (s9_rounds (s9_fresh (s9_known (s9_came (s9_papers (s9_paper bm V.2.1) V.2.2.1) V.2.2.2.1) V.2.2.2.2.1) V.2.2.2.2.2.1) V.2.2.2.2.2.2.1) V.2.2.2.2.2.2.2.1) V.2.2.2.2.2.2.2.2.1) V.2.2.2.2.2.2.2.2.2))) hc [14] rfl rfl rfl hP hD hS hA (va_runV (As := [.int (xs (nI i + 1).toNatClampNeg), .int (xs (nI i + 2).toNatClampNeg)]) (rest := [.int T.1]) S (hc.2 _) (cwV 2 S.2.2.2.2 gL_law_X9_prints rfl rfl rfl (by decide +kernel) ⟨Nat.le_of_ble_eq_true rfl, Nat.le_of_ble_eq_true rfl⟩) (zpV hK hP hD (is := [14]) rfl rfl 14 rfl rfl (ci := 9) rfl) rfl rfl hl.1 rfl (lv_room (Nat.le_of_ble_eq_true rfl)) dL_law_695 ⟨hcl, hsl⟩) (fun H locs hn2 hP hD hS => ?_)
  refine lv_icmp_eq (tgt := 1116) hx hb dL_law_698 (by decide) (fun _ => ?_) (fun hne => absurd hm.1 hne)
  exact kk _ _ _ _ _ _ _ _ _ _ _ _ _ _ _ _ _ _ _ _ _ hm.2 hP hD hS hl
set_option maxHeartbeats 4000000 in
set_option maxRecDepth 100000 in
theorem wL_paper (S : CallFix p m c cL_law 4 s #[Value.ref b] wsL_law RL) (hX : va_X b L xs s s.heap) (hbl : b < s.heap.size) (hbA : ¬ A b) (hL : L ≤ 3072) (hi : i + 6 ≤ L) (hcl : cells ≤ room_1.cells) (hsl : slots ≤ room_1.slots) (hK : zK G s) (hU : zU A s) (hA : ∀ q, s.heap.size ≤ q → A q) {sg : Nat → Nat} {y : Nat → S0} {D : Nat} {un : Int32} {brc : S8} {bc : S0} {brd : S4} {bv : S6} {bd : S0} {bte : S4} {btv : S6} {bpr : S3} {bpv : S6} {bk : S0} {bwd : S7} {bpa : S2} {bro : S5} {bm : S9} (hI : zInv sg y D un brc bc brd bv bpr bk bwd bpa bro bm) (hP : zP G (zWd G arc ac ard av ad ate atv apr apv ahi aik ak awd apa aro am sg y D un brc bc brd bv bd bte btv bpr bpv bk bwd bpa bro bm) H) (hD : zD A (zWd G arc ac ard av ad ate atv apr apv ahi aik ak awd apa aro am sg y D un brc bc brd bv bd bte btv bpr bpv bk bwd bpa bro bm)) (hS : va_S A s.heap H locs) (hl : lv_has ls 4 [(0, .ref b), (1, .ref (arc 0)), (2, .ref (am 0)), (3, .int (nI i))]) (kk : ∀ (sg : Nat → Nat) (y : Nat → S0) (D : Nat) (un : Int32) (brc : S8) (bc : S0) (brd : S4) (bv : S6) (bd : S0) (bte : S4) (btv : S6) (bpr : S3) (bpv : S6) (bk : S0) (bwd : S7) (bpa : S2) (bro : S5) (bm : S9) (H : Heap) (locs : List Loc) (ls : Array Slot), zInv sg y D un brc bc brd bv bpr bk bwd bpa bro bm → zP G (zWd G arc ac ard av ad ate atv apr apv ahi aik ak awd apa aro am sg y D un brc bc brd bv bd bte btv bpr bpv bk bwd bpa bro bm) H → zD A (zWd G arc ac ard av ad ate atv apr apv ahi aik ak awd apa aro am sg y D un brc bc brd bv bd bte btv bpr bpv bk bwd bpa bro bm) → va_S A s.heap H locs → lv_has ls 4 [(0, .ref b), (1, .ref (arc 0)), (2, .ref (am 0)), (3, .int (nI i))] → W p l e room_1 s m #[Value.ref b] below meth c H locs cells slots Q (F0 m 1116 ls [])) : W p l e room_1 s m #[Value.ref b] below meth c H locs cells slots Q (F0 m 703 ls []) := by
  obtain ⟨hx, hb, hml, hown, hts⟩ := id S
  obtain ⟨hD12, ⟨U, hun, hu9, hHis⟩, hdn, hRel, hcg, hSx, hSt, hImg, htp, hpp, hrw⟩ := id hI
  obtain ⟨hz1, hz2, hz5, hz6⟩ := zRel_hyps hRel
  have hz3 := zTape_len htp
  have hz4 := zTape_len9 htp
  have hz7 := zPap_len hpp
  have hz8 := zPap_len9 hpp
  have hz9 := zHis_un hHis hu9 hdn
  have hz10 := zRows_8 hrw
  have hz11 := zRows_9 hrw
  have hi1 : vp_in (nI i + 1) L := by rw [show (nI i + 1 : Int32) = nI (i + 1) from nI_add i 1]; exact vp_in_nI (by omega) (by omega)
  refine lv_aload_n hx hb dL_law_703 rfl (lv_at hl 1 rfl) ?_
  refine lv_aload_n hx hb dL_law_704 rfl (lv_at hl 0 rfl) ?_
  refine lv_iload_n hx hb dL_law_705 rfl (lv_at hl 3 rfl) ?_
  refine lv_iconst (v := 1) hx hb dL_law_706 (by decide) ?_
  refine lv_iadd hx hb dL_law_707 ?_
  refine va_sld hx hb hX hbl hbA hS hi1 dL_law_708 ?_
  obtain ⟨T, hT⟩ : ∃ z, FX8_paper (g2_bytes bpa) (g2_length bpa) (xs (nI i + 1).toNatClampNeg) = z := ⟨_, rfl⟩
  obtain ⟨V, hV⟩ : ∃ z, FX9_paper (g9_paper bm) (g9_papers bm) (xs (nI i + 1).toNatClampNeg) = z := ⟨_, rfl⟩
  have hm := m_paper hI hT hV
  have hc := c_X8_paper l G arc apa (ac 0) (ard 0) (ad 0) (ate 0) (apr 0) (ahi 0) (ak 0) (awd 0) (aro 0) brc bpa (xs (nI i + 1).toNatClampNeg) hz7 _ hT
  refine zgoR (va_runV (As := [.int (xs (nI i + 1).toNatClampNeg)]) (rest := []) S (hc _) (cwV 1 S.2.2.2.2 gL_law_X8_paper rfl rfl rfl (by decide +kernel) ⟨Nat.le_of_ble_eq_true rfl, Nat.le_of_ble_eq_true rfl⟩) (zpV hK hP hD (is := [0, 12]) rfl rfl 0 rfl rfl (ci := 8) rfl) rfl rfl hl.1 rfl (lv_room (Nat.le_of_ble_eq_true rfl)) dL_law_709 ⟨hcl, hsl⟩) (fun hn1 => ?_)
  refine lv_aload_n hx hb dL_law_712 rfl (lv_at hl 2 rfl) ?_
  refine lv_aload_n hx hb dL_law_713 rfl (lv_at hl 0 rfl) ?_
  refine lv_iload_n hx hb dL_law_714 rfl (lv_at hl 3 rfl) ?_
  refine lv_iconst (v := 1) hx hb dL_law_715 (by decide) ?_
  refine lv_iadd hx hb dL_law_716 ?_
  refine va_sld hx hb hX hbl hbA hS hi1 dL_law_717 ?_
  have hc := c_X9_paper l G am bm (xs (nI i + 1).toNatClampNeg) hz8 _ hV
  refine zgoR (va_runV (As := [.int (xs (nI i + 1).toNatClampNeg)]) (rest := [.int T]) S (hc _) (cwV 1 S.2.2.2.2 gL_law_X9_paper rfl rfl rfl (by decide +kernel) ⟨Nat.le_of_ble_eq_true rfl, Nat.le_of_ble_eq_true rfl⟩) (zpV hK hP hD (is := [14]) rfl rfl 14 rfl rfl (ci := 9) rfl) rfl rfl hl.1 rfl (lv_room (Nat.le_of_ble_eq_true rfl)) dL_law_718 ⟨hcl, hsl⟩) (fun hn2 => ?_)
  refine lv_icmp_eq (tgt := 1116) hx hb dL_law_721 (by decide) (fun _ => ?_) (fun hne => absurd hm hne)
  exact kk _ _ _ _ _ _ _ _ _ _ _ _ _ _ _ _ _ _ _ _ _ hI hP hD hS hl
set_option maxHeartbeats 4000000 in
set_option maxRecDepth 100000 in
theorem wL_would (S : CallFix p m c cL_law 4 s #[Value.ref b] wsL_law RL) (hX : va_X b L xs s s.heap) (hbl : b < s.heap.size) (hbA : ¬ A b) (hL : L ≤ 3072) (hi : i + 6 ≤ L) (hcl : cells ≤ room_1.cells) (hsl : slots ≤ room_1.slots) (hK : zK G s) (hU : zU A s) (hA : ∀ q, s.heap.size ≤ q → A q) {sg : Nat → Nat} {y : Nat → S0} {D : Nat} {un : Int32} {brc : S8} {bc : S0} {brd : S4} {bv : S6} {bd : S0} {bte : S4} {btv : S6} {bpr : S3} {bpv : S6} {bk : S0} {bwd : S7} {bpa : S2} {bro : S5} {bm : S9} (hI : zInv sg y D un brc bc brd bv bpr bk bwd bpa bro bm) (hP : zP G (zWd G arc ac ard av ad ate atv apr apv ahi aik ak awd apa aro am sg y D un brc bc brd bv bd bte btv bpr bpv bk bwd bpa bro bm) H) (hD : zD A (zWd G arc ac ard av ad ate atv apr apv ahi aik ak awd apa aro am sg y D un brc bc brd bv bd bte btv bpr bpv bk bwd bpa bro bm)) (hS : va_S A s.heap H locs) (hl : lv_has ls 4 [(0, .ref b), (1, .ref (arc 0)), (2, .ref (am 0)), (3, .int (nI i))]) (kk : ∀ (sg : Nat → Nat) (y : Nat → S0) (D : Nat) (un : Int32) (brc : S8) (bc : S0) (brd : S4) (bv : S6) (bd : S0) (bte : S4) (btv : S6) (bpr : S3) (bpv : S6) (bk : S0) (bwd : S7) (bpa : S2) (bro : S5) (bm : S9) (H : Heap) (locs : List Loc) (ls : Array Slot), zInv sg y D un brc bc brd bv bpr bk bwd bpa bro bm → zP G (zWd G arc ac ard av ad ate atv apr apv ahi aik ak awd apa aro am sg y D un brc bc brd bv bd bte btv bpr bpv bk bwd bpa bro bm) H → zD A (zWd G arc ac ard av ad ate atv apr apv ahi aik ak awd apa aro am sg y D un brc bc brd bv bd bte btv bpr bpv bk bwd bpa bro bm) → va_S A s.heap H locs → lv_has ls 4 [(0, .ref b), (1, .ref (arc 0)), (2, .ref (am 0)), (3, .int (nI i))] → W p l e room_1 s m #[Value.ref b] below meth c H locs cells slots Q (F0 m 1116 ls [])) : W p l e room_1 s m #[Value.ref b] below meth c H locs cells slots Q (F0 m 726 ls []) := by
  obtain ⟨hx, hb, hml, hown, hts⟩ := id S
  obtain ⟨hD12, ⟨U, hun, hu9, hHis⟩, hdn, hRel, hcg, hSx, hSt, hImg, htp, hpp, hrw⟩ := id hI
  obtain ⟨hz1, hz2, hz5, hz6⟩ := zRel_hyps hRel
  have hz3 := zTape_len htp
  have hz4 := zTape_len9 htp
  have hz7 := zPap_len hpp
  have hz8 := zPap_len9 hpp
  have hz9 := zHis_un hHis hu9 hdn
  have hz10 := zRows_8 hrw
  have hz11 := zRows_9 hrw
  have hi1 : vp_in (nI i + 1) L := by rw [show (nI i + 1 : Int32) = nI (i + 1) from nI_add i 1]; exact vp_in_nI (by omega) (by omega)
  have hi2 : vp_in (nI i + 2) L := by rw [show (nI i + 2 : Int32) = nI (i + 2) from nI_add i 2]; exact vp_in_nI (by omega) (by omega)
  have hi3 : vp_in (nI i + 3) L := by rw [show (nI i + 3 : Int32) = nI (i + 3) from nI_add i 3]; exact vp_in_nI (by omega) (by omega)
  refine lv_aload_n hx hb dL_law_726 rfl (lv_at hl 1 rfl) ?_
  refine lv_aload_n hx hb dL_law_727 rfl (lv_at hl 0 rfl) ?_
  refine lv_iload_n hx hb dL_law_728 rfl (lv_at hl 3 rfl) ?_
  refine lv_iconst (v := 1) hx hb dL_law_729 (by decide) ?_
  refine lv_iadd hx hb dL_law_730 ?_
  refine va_sld hx hb hX hbl hbA hS hi1 dL_law_731 ?_
  refine lv_aload_n hx hb dL_law_732 rfl (lv_at hl 0 rfl) ?_
  refine lv_iload_n hx hb dL_law_733 rfl (lv_at hl 3 rfl) ?_
  refine lv_iconst (v := 2) hx hb dL_law_734 (by decide) ?_
  refine lv_iadd hx hb dL_law_735 ?_
  refine va_sld hx hb hX hbl hbA hS hi2 dL_law_736 ?_
  refine lv_aload_n hx hb dL_law_737 rfl (lv_at hl 0 rfl) ?_
  refine lv_iload_n hx hb dL_law_738 rfl (lv_at hl 3 rfl) ?_
  refine lv_iconst (v := 3) hx hb dL_law_739 (by decide) ?_
  refine lv_iadd hx hb dL_law_740 ?_
  refine va_sld hx hb hX hbl hbA hS hi3 dL_law_741 ?_
  obtain ⟨T, hT⟩ : ∃ z, FX8_would (g0_kind bc) (g0_head bc) (g0_body bc) (g0_excepts bc) (g0_power bc) (g0_beats bc) (g0_facts bc) (g0_size bc) (g0_shut bc) (g0_kind bd) (g0_head bd) (g0_body bd) (g0_excepts bd) (g0_power bd) (g0_beats bd) (g0_facts bd) (g0_size bd) (g0_shut bd) (g4_came bte) (g4_last bte) (g6_known btv) (g6_fresh btv) (g6_strictFor btv) (g6_forwardFor btv) (g6_allFor btv) (g6_above btv) (g6_facts btv) (g6_applies btv) (g6_falls btv) (g6_sureBodies btv) (g6_neverBodies btv) (xs (nI i + 1).toNatClampNeg) (xs (nI i + 2).toNatClampNeg) (xs (nI i + 3).toNatClampNeg) = z := ⟨_, rfl⟩
  obtain ⟨V, hV⟩ : ∃ z, FX9_would (g9_facts bm) (g9_rules bm) (g9_kind bm) (g9_head bm) (g9_body bm) (g9_except bm) (g9_strength bm) (g9_off bm) (g9_over bm) (g9_came bm) (g9_known bm) (g9_fresh bm) (g9_rounds bm) (xs (nI i + 1).toNatClampNeg) (xs (nI i + 2).toNatClampNeg) (xs (nI i + 3).toNatClampNeg) = z := ⟨_, rfl⟩
  have hm := m_would hI hT hV
  have hc := c_X8_would l G arc ac ad ate atv (ard 0) (apr 0) (ahi 0) (ak 0) (awd 0) (apa 0) (aro 0) brc bc bd bte btv (xs (nI i + 1).toNatClampNeg) (xs (nI i + 2).toNatClampNeg) (xs (nI i + 3).toNatClampNeg) hz5 hz1 _ hT
  refine zgoI (bs' := (zWd G arc ac ard av ad ate atv apr apv ahi aik ak awd apa aro am sg y D un brc bc brd bv (s0_shut (s0_size (s0_facts (s0_beats (s0_power (s0_excepts (s0_body (s0_head (s0_kind bd T.2.1) T.2.2.1) T.2.2.2.1) T.2.2.2.2.1) T.2.2.2.2.2.1) T.2.2.2.2.2.2.1) T.2.2.2.2.2.2.2.1) T.2.2.2.2.2.2.2.2.1) T.2.2.2.2.2.2.2.2.2.1) (s4_last (s4_came bte T.2.2.2.2.2.2.2.2.2.2.1) T.2.2.2.2.2.2.2.2.2.2.2.1) (s6_neverBodies (s6_sureBodies (s6_falls (s6_applies (s6_facts (s6_above (s6_allFor (s6_forwardFor (s6_strictFor (s6_fresh (s6_known btv T.2.2.2.2.2.2.2.2.2.2.2.2.1) T.2.2.2.2.2.2.2.2.2.2.2.2.2.1) T.2.2.2.2.2.2.2.2.2.2.2.2.2.2.1) T.2.2.2.2.2.2.2.2.2.2.2.2.2.2.2.1) T.2.2.2.2.2.2.2.2.2.2.2.2.2.2.2.2.1) T.2.2.2.2.2.2.2.2.2.2.2.2.2.2.2.2.2.1) T.2.2.2.2.2.2.2.2.2.2.2.2.2.2.2.2.2.2.1) T.2.2.2.2.2.2.2.2.2.2.2.2.2.2.2.2.2.2.2.1) T.2.2.2.2.2.2.2.2.2.2.2.2.2.2.2.2.2.2.2.2.1) T.2.2.2.2.2.2.2.2.2.2.2.2.2.2.2.2.2.2.2.2.2.1) T.2.2.2.2.2.2.2.2.2.2.2.2.2.2.2.2.2.2.2.2.2.2) bpr bpv bk bwd bpa bro bm)) hc [0, 1, 4, 5, 6] rfl rfl rfl hP hD hS hA (va_runV (As := [.int (xs (nI i + 1).toNatClampNeg), .int (xs (nI i + 2).toNatClampNeg), .int (xs (nI i + 3).toNatClampNeg)]) (rest := []) S (hc.2 _) (cwV 3 S.2.2.2.2 gL_law_X8_would rfl rfl rfl (by decide +kernel) ⟨Nat.le_of_ble_eq_true rfl, Nat.le_of_ble_eq_true rfl⟩) (zpV hK hP hD (is := [0, 1, 4, 5, 6]) rfl rfl 0 rfl rfl (ci := 8) rfl) rfl rfl hl.1 rfl (lv_room (Nat.le_of_ble_eq_true rfl)) dL_law_742 ⟨hcl, hsl⟩) (fun H locs hn1 hP hD hS => ?_)
  refine lv_aload_n hx hb dL_law_745 rfl (lv_at hl 2 rfl) ?_
  refine lv_aload_n hx hb dL_law_746 rfl (lv_at hl 0 rfl) ?_
  refine lv_iload_n hx hb dL_law_747 rfl (lv_at hl 3 rfl) ?_
  refine lv_iconst (v := 1) hx hb dL_law_748 (by decide) ?_
  refine lv_iadd hx hb dL_law_749 ?_
  refine va_sld hx hb hX hbl hbA hS hi1 dL_law_750 ?_
  refine lv_aload_n hx hb dL_law_751 rfl (lv_at hl 0 rfl) ?_
  refine lv_iload_n hx hb dL_law_752 rfl (lv_at hl 3 rfl) ?_
  refine lv_iconst (v := 2) hx hb dL_law_753 (by decide) ?_
  refine lv_iadd hx hb dL_law_754 ?_
  refine va_sld hx hb hX hbl hbA hS hi2 dL_law_755 ?_
  refine lv_aload_n hx hb dL_law_756 rfl (lv_at hl 0 rfl) ?_
  refine lv_iload_n hx hb dL_law_757 rfl (lv_at hl 3 rfl) ?_
  refine lv_iconst (v := 3) hx hb dL_law_758 (by decide) ?_
  refine lv_iadd hx hb dL_law_759 ?_
  refine va_sld hx hb hX hbl hbA hS hi3 dL_law_760 ?_
  have hc := c_X9_would l G am bm (xs (nI i + 1).toNatClampNeg) (xs (nI i + 2).toNatClampNeg) (xs (nI i + 3).toNatClampNeg) hz2 _ hV
  refine zgoI (bs' := (zWd G arc ac ard av ad ate atv apr apv ahi aik ak awd apa aro am sg y D un brc bc brd bv (s0_shut (s0_size (s0_facts (s0_beats (s0_power (s0_excepts (s0_body (s0_head (s0_kind bd T.2.1) T.2.2.1) T.2.2.2.1) T.2.2.2.2.1) T.2.2.2.2.2.1) T.2.2.2.2.2.2.1) T.2.2.2.2.2.2.2.1) T.2.2.2.2.2.2.2.2.1) T.2.2.2.2.2.2.2.2.2.1) (s4_last (s4_came bte T.2.2.2.2.2.2.2.2.2.2.1) T.2.2.2.2.2.2.2.2.2.2.2.1) (s6_neverBodies (s6_sureBodies (s6_falls (s6_applies (s6_facts (s6_above (s6_allFor (s6_forwardFor (s6_strictFor (s6_fresh (s6_known btv T.2.2.2.2.2.2.2.2.2.2.2.2.1) T.2.2.2.2.2.2.2.2.2.2.2.2.2.1) T.2.2.2.2.2.2.2.2.2.2.2.2.2.2.1) T.2.2.2.2.2.2.2.2.2.2.2.2.2.2.2.1) T.2.2.2.2.2.2.2.2.2.2.2.2.2.2.2.2.1) T.2.2.2.2.2.2.2.2.2.2.2.2.2.2.2.2.2.1) T.2.2.2.2.2.2.2.2.2.2.2.2.2.2.2.2.2.2.1) T.2.2.2.2.2.2.2.2.2.2.2.2.2.2.2.2.2.2.2.1) T.2.2.2.2.2.2.2.2.2.2.2.2.2.2.2.2.2.2.2.2.1) T.2.2.2.2.2.2.2.2.2.2.2.2.2.2.2.2.2.2.2.2.2.1) T.2.2.2.2.2.2.2.2.2.2.2.2.2.2.2.2.2.2.2.2.2.2) bpr bpv bk bwd bpa bro (s9_rounds (s9_fresh (s9_known (s9_came (s9_facts bm V.2.1) V.2.2.1) V.2.2.2.1) V.2.2.2.2.1) V.2.2.2.2.2))) hc [14] rfl rfl rfl hP hD hS hA (va_runV (As := [.int (xs (nI i + 1).toNatClampNeg), .int (xs (nI i + 2).toNatClampNeg), .int (xs (nI i + 3).toNatClampNeg)]) (rest := [.int T.1]) S (hc.2 _) (cwV 3 S.2.2.2.2 gL_law_X9_would rfl rfl rfl (by decide +kernel) ⟨Nat.le_of_ble_eq_true rfl, Nat.le_of_ble_eq_true rfl⟩) (zpV hK hP hD (is := [14]) rfl rfl 14 rfl rfl (ci := 9) rfl) rfl rfl hl.1 rfl (lv_room (Nat.le_of_ble_eq_true rfl)) dL_law_761 ⟨hcl, hsl⟩) (fun H locs hn2 hP hD hS => ?_)
  refine lv_icmp_eq (tgt := 1116) hx hb dL_law_764 (by decide) (fun _ => ?_) (fun hne => absurd hm.1 hne)
  exact kk _ _ _ _ _ _ _ _ _ _ _ _ _ _ _ _ _ _ _ _ _ hm.2 hP hD hS hl
set_option maxHeartbeats 4000000 in
set_option maxRecDepth 100000 in
theorem wL_key (S : CallFix p m c cL_law 4 s #[Value.ref b] wsL_law RL) (hX : va_X b L xs s s.heap) (hbl : b < s.heap.size) (hbA : ¬ A b) (hL : L ≤ 3072) (hi : i + 6 ≤ L) (hcl : cells ≤ room_1.cells) (hsl : slots ≤ room_1.slots) (hK : zK G s) (hU : zU A s) (hA : ∀ q, s.heap.size ≤ q → A q) {sg : Nat → Nat} {y : Nat → S0} {D : Nat} {un : Int32} {brc : S8} {bc : S0} {brd : S4} {bv : S6} {bd : S0} {bte : S4} {btv : S6} {bpr : S3} {bpv : S6} {bk : S0} {bwd : S7} {bpa : S2} {bro : S5} {bm : S9} (hI : zInv sg y D un brc bc brd bv bpr bk bwd bpa bro bm) (hP : zP G (zWd G arc ac ard av ad ate atv apr apv ahi aik ak awd apa aro am sg y D un brc bc brd bv bd bte btv bpr bpv bk bwd bpa bro bm) H) (hD : zD A (zWd G arc ac ard av ad ate atv apr apv ahi aik ak awd apa aro am sg y D un brc bc brd bv bd bte btv bpr bpv bk bwd bpa bro bm)) (hS : va_S A s.heap H locs) (hl : lv_has ls 4 [(0, .ref b), (1, .ref (arc 0)), (2, .ref (am 0)), (3, .int (nI i))]) (kk : ∀ (sg : Nat → Nat) (y : Nat → S0) (D : Nat) (un : Int32) (brc : S8) (bc : S0) (brd : S4) (bv : S6) (bd : S0) (bte : S4) (btv : S6) (bpr : S3) (bpv : S6) (bk : S0) (bwd : S7) (bpa : S2) (bro : S5) (bm : S9) (H : Heap) (locs : List Loc) (ls : Array Slot), zInv sg y D un brc bc brd bv bpr bk bwd bpa bro bm → zP G (zWd G arc ac ard av ad ate atv apr apv ahi aik ak awd apa aro am sg y D un brc bc brd bv bd bte btv bpr bpv bk bwd bpa bro bm) H → zD A (zWd G arc ac ard av ad ate atv apr apv ahi aik ak awd apa aro am sg y D un brc bc brd bv bd bte btv bpr bpv bk bwd bpa bro bm) → va_S A s.heap H locs → lv_has ls 4 [(0, .ref b), (1, .ref (arc 0)), (2, .ref (am 0)), (3, .int (nI i))] → W p l e room_1 s m #[Value.ref b] below meth c H locs cells slots Q (F0 m 1116 ls [])) : W p l e room_1 s m #[Value.ref b] below meth c H locs cells slots Q (F0 m 769 ls []) := by
  obtain ⟨hx, hb, hml, hown, hts⟩ := id S
  obtain ⟨hD12, ⟨U, hun, hu9, hHis⟩, hdn, hRel, hcg, hSx, hSt, hImg, htp, hpp, hrw⟩ := id hI
  obtain ⟨hz1, hz2, hz5, hz6⟩ := zRel_hyps hRel
  have hz3 := zTape_len htp
  have hz4 := zTape_len9 htp
  have hz7 := zPap_len hpp
  have hz8 := zPap_len9 hpp
  have hz9 := zHis_un hHis hu9 hdn
  have hz10 := zRows_8 hrw
  have hz11 := zRows_9 hrw
  have hi1 : vp_in (nI i + 1) L := by rw [show (nI i + 1 : Int32) = nI (i + 1) from nI_add i 1]; exact vp_in_nI (by omega) (by omega)
  refine lv_aload_n hx hb dL_law_769 rfl (lv_at hl 1 rfl) ?_
  refine lv_aload_n hx hb dL_law_770 rfl (lv_at hl 0 rfl) ?_
  refine lv_iload_n hx hb dL_law_771 rfl (lv_at hl 3 rfl) ?_
  refine lv_iconst (v := 1) hx hb dL_law_772 (by decide) ?_
  refine lv_iadd hx hb dL_law_773 ?_
  refine va_sld hx hb hX hbl hbA hS hi1 dL_law_774 ?_
  obtain ⟨T, hT⟩ : ∃ z, FX8_key (g8_isSettled brc) (g0_kind bc) (g0_head bc) (g0_body bc) (g0_excepts bc) (g0_power bc) (g0_beats bc) (g0_facts bc) (g0_size bc) (g0_shut bc) (g4_came brd) (g4_last brd) (g6_known bv) (g6_fresh bv) (g6_strictFor bv) (g6_forwardFor bv) (g6_allFor bv) (g6_above bv) (g6_facts bv) (g6_applies bv) (g6_falls bv) (g6_sureBodies bv) (g6_neverBodies bv) (g0_kind bd) (g0_head bd) (g0_body bd) (g0_excepts bd) (g0_power bd) (g0_beats bd) (g0_facts bd) (g0_size bd) (g0_shut bd) (g4_came bte) (g4_last bte) (g6_known btv) (g6_fresh btv) (g6_strictFor btv) (g6_forwardFor btv) (g6_allFor btv) (g6_above btv) (g6_facts btv) (g6_applies btv) (g6_falls btv) (g6_sureBodies btv) (g6_neverBodies btv) (xs (nI i + 1).toNatClampNeg) = z := ⟨_, rfl⟩
  obtain ⟨V, hV⟩ : ∃ z, FX9_key (g9_facts bm) (g9_rules bm) (g9_kind bm) (g9_head bm) (g9_body bm) (g9_except bm) (g9_strength bm) (g9_off bm) (g9_over bm) (g9_came bm) (g9_known bm) (g9_fresh bm) (g9_rounds bm) (xs (nI i + 1).toNatClampNeg) = z := ⟨_, rfl⟩
  have hm := m_key hI hT hV
  have hc := c_X8_key l G arc ac ard av ad ate atv (apr 0) (ahi 0) (ak 0) (awd 0) (apa 0) (aro 0) brc bc brd bv bd bte btv (xs (nI i + 1).toNatClampNeg) hz5 hz1 _ hT
  refine zgoI (bs' := (zWd G arc ac ard av ad ate atv apr apv ahi aik ak awd apa aro am sg y D un (s8_isSettled brc T.2.1) bc (s4_last (s4_came brd T.2.2.1) T.2.2.2.1) (s6_neverBodies (s6_sureBodies (s6_falls (s6_applies (s6_facts (s6_above (s6_allFor (s6_forwardFor (s6_strictFor (s6_fresh (s6_known bv T.2.2.2.2.1) T.2.2.2.2.2.1) T.2.2.2.2.2.2.1) T.2.2.2.2.2.2.2.1) T.2.2.2.2.2.2.2.2.1) T.2.2.2.2.2.2.2.2.2.1) T.2.2.2.2.2.2.2.2.2.2.1) T.2.2.2.2.2.2.2.2.2.2.2.1) T.2.2.2.2.2.2.2.2.2.2.2.2.1) T.2.2.2.2.2.2.2.2.2.2.2.2.2.1) T.2.2.2.2.2.2.2.2.2.2.2.2.2.2.1) (s0_shut (s0_size (s0_facts (s0_beats (s0_power (s0_excepts (s0_body (s0_head (s0_kind bd T.2.2.2.2.2.2.2.2.2.2.2.2.2.2.2.1) T.2.2.2.2.2.2.2.2.2.2.2.2.2.2.2.2.1) T.2.2.2.2.2.2.2.2.2.2.2.2.2.2.2.2.2.1) T.2.2.2.2.2.2.2.2.2.2.2.2.2.2.2.2.2.2.1) T.2.2.2.2.2.2.2.2.2.2.2.2.2.2.2.2.2.2.2.1) T.2.2.2.2.2.2.2.2.2.2.2.2.2.2.2.2.2.2.2.2.1) T.2.2.2.2.2.2.2.2.2.2.2.2.2.2.2.2.2.2.2.2.2.1) T.2.2.2.2.2.2.2.2.2.2.2.2.2.2.2.2.2.2.2.2.2.2.1) T.2.2.2.2.2.2.2.2.2.2.2.2.2.2.2.2.2.2.2.2.2.2.2.1) (s4_last (s4_came bte T.2.2.2.2.2.2.2.2.2.2.2.2.2.2.2.2.2.2.2.2.2.2.2.2.1) T.2.2.2.2.2.2.2.2.2.2.2.2.2.2.2.2.2.2.2.2.2.2.2.2.2.1) (s6_neverBodies (s6_sureBodies (s6_falls (s6_applies (s6_facts (s6_above (s6_allFor (s6_forwardFor (s6_strictFor (s6_fresh (s6_known btv T.2.2.2.2.2.2.2.2.2.2.2.2.2.2.2.2.2.2.2.2.2.2.2.2.2.2.1) T.2.2.2.2.2.2.2.2.2.2.2.2.2.2.2.2.2.2.2.2.2.2.2.2.2.2.2.1) T.2.2.2.2.2.2.2.2.2.2.2.2.2.2.2.2.2.2.2.2.2.2.2.2.2.2.2.2.1) T.2.2.2.2.2.2.2.2.2.2.2.2.2.2.2.2.2.2.2.2.2.2.2.2.2.2.2.2.2.1) T.2.2.2.2.2.2.2.2.2.2.2.2.2.2.2.2.2.2.2.2.2.2.2.2.2.2.2.2.2.2.1) T.2.2.2.2.2.2.2.2.2.2.2.2.2.2.2.2.2.2.2.2.2.2.2.2.2.2.2.2.2.2.2.1) T.2.2.2.2.2.2.2.2.2.2.2.2.2.2.2.2.2.2.2.2.2.2.2.2.2.2.2.2.2.2.2.2.1) T.2.2.2.2.2.2.2.2.2.2.2.2.2.2.2.2.2.2.2.2.2.2.2.2.2.2.2.2.2.2.2.2.2.1) T.2.2.2.2.2.2.2.2.2.2.2.2.2.2.2.2.2.2.2.2.2.2.2.2.2.2.2.2.2.2.2.2.2.2.1) T.2.2.2.2.2.2.2.2.2.2.2.2.2.2.2.2.2.2.2.2.2.2.2.2.2.2.2.2.2.2.2.2.2.2.2.1) T.2.2.2.2.2.2.2.2.2.2.2.2.2.2.2.2.2.2.2.2.2.2.2.2.2.2.2.2.2.2.2.2.2.2.2.2) bpr bpv bk bwd bpa bro bm)) hc [0, 1, 2, 3, 4, 5, 6] rfl rfl rfl hP hD hS hA (va_runV (As := [.int (xs (nI i + 1).toNatClampNeg)]) (rest := []) S (hc.2 _) (cwV 1 S.2.2.2.2 gL_law_X8_key rfl rfl rfl (by decide +kernel) ⟨Nat.le_of_ble_eq_true rfl, Nat.le_of_ble_eq_true rfl⟩) (zpV hK hP hD (is := [0, 1, 2, 3, 4, 5, 6]) rfl rfl 0 rfl rfl (ci := 8) rfl) rfl rfl hl.1 rfl (lv_room (Nat.le_of_ble_eq_true rfl)) dL_law_775 ⟨hcl, hsl⟩) (fun H locs hn1 hP hD hS => ?_)
  refine lv_aload_n hx hb dL_law_778 rfl (lv_at hl 2 rfl) ?_
  refine lv_aload_n hx hb dL_law_779 rfl (lv_at hl 0 rfl) ?_
  refine lv_iload_n hx hb dL_law_780 rfl (lv_at hl 3 rfl) ?_
  refine lv_iconst (v := 1) hx hb dL_law_781 (by decide) ?_
  refine lv_iadd hx hb dL_law_782 ?_
  refine va_sld hx hb hX hbl hbA hS hi1 dL_law_783 ?_
  have hc := c_X9_key l G am bm (xs (nI i + 1).toNatClampNeg) hz2 _ hV
  refine zgoI (bs' := (zWd G arc ac ard av ad ate atv apr apv ahi aik ak awd apa aro am sg y D un (s8_isSettled brc T.2.1) bc (s4_last (s4_came brd T.2.2.1) T.2.2.2.1) (s6_neverBodies (s6_sureBodies (s6_falls (s6_applies (s6_facts (s6_above (s6_allFor (s6_forwardFor (s6_strictFor (s6_fresh (s6_known bv T.2.2.2.2.1) T.2.2.2.2.2.1) T.2.2.2.2.2.2.1) T.2.2.2.2.2.2.2.1) T.2.2.2.2.2.2.2.2.1) T.2.2.2.2.2.2.2.2.2.1) T.2.2.2.2.2.2.2.2.2.2.1) T.2.2.2.2.2.2.2.2.2.2.2.1) T.2.2.2.2.2.2.2.2.2.2.2.2.1) T.2.2.2.2.2.2.2.2.2.2.2.2.2.1) T.2.2.2.2.2.2.2.2.2.2.2.2.2.2.1) (s0_shut (s0_size (s0_facts (s0_beats (s0_power (s0_excepts (s0_body (s0_head (s0_kind bd T.2.2.2.2.2.2.2.2.2.2.2.2.2.2.2.1) T.2.2.2.2.2.2.2.2.2.2.2.2.2.2.2.2.1) T.2.2.2.2.2.2.2.2.2.2.2.2.2.2.2.2.2.1) T.2.2.2.2.2.2.2.2.2.2.2.2.2.2.2.2.2.2.1) T.2.2.2.2.2.2.2.2.2.2.2.2.2.2.2.2.2.2.2.1) T.2.2.2.2.2.2.2.2.2.2.2.2.2.2.2.2.2.2.2.2.1) T.2.2.2.2.2.2.2.2.2.2.2.2.2.2.2.2.2.2.2.2.2.1) T.2.2.2.2.2.2.2.2.2.2.2.2.2.2.2.2.2.2.2.2.2.2.1) T.2.2.2.2.2.2.2.2.2.2.2.2.2.2.2.2.2.2.2.2.2.2.2.1) (s4_last (s4_came bte T.2.2.2.2.2.2.2.2.2.2.2.2.2.2.2.2.2.2.2.2.2.2.2.2.1) T.2.2.2.2.2.2.2.2.2.2.2.2.2.2.2.2.2.2.2.2.2.2.2.2.2.1) (s6_neverBodies (s6_sureBodies (s6_falls (s6_applies (s6_facts (s6_above (s6_allFor (s6_forwardFor (s6_strictFor (s6_fresh (s6_known btv T.2.2.2.2.2.2.2.2.2.2.2.2.2.2.2.2.2.2.2.2.2.2.2.2.2.2.1) T.2.2.2.2.2.2.2.2.2.2.2.2.2.2.2.2.2.2.2.2.2.2.2.2.2.2.2.1) T.2.2.2.2.2.2.2.2.2.2.2.2.2.2.2.2.2.2.2.2.2.2.2.2.2.2.2.2.1) T.2.2.2.2.2.2.2.2.2.2.2.2.2.2.2.2.2.2.2.2.2.2.2.2.2.2.2.2.2.1) T.2.2.2.2.2.2.2.2.2.2.2.2.2.2.2.2.2.2.2.2.2.2.2.2.2.2.2.2.2.2.1) T.2.2.2.2.2.2.2.2.2.2.2.2.2.2.2.2.2.2.2.2.2.2.2.2.2.2.2.2.2.2.2.1) T.2.2.2.2.2.2.2.2.2.2.2.2.2.2.2.2.2.2.2.2.2.2.2.2.2.2.2.2.2.2.2.2.1) T.2.2.2.2.2.2.2.2.2.2.2.2.2.2.2.2.2.2.2.2.2.2.2.2.2.2.2.2.2.2.2.2.2.1) T.2.2.2.2.2.2.2.2.2.2.2.2.2.2.2.2.2.2.2.2.2.2.2.2.2.2.2.2.2.2.2.2.2.2.1) T.2.2.2.2.2.2.2.2.2.2.2.2.2.2.2.2.2.2.2.2.2.2.2.2.2.2.2.2.2.2.2.2.2.2.2.1) T.2.2.2.2.2.2.2.2.2.2.2.2.2.2.2.2.2.2.2.2.2.2.2.2.2.2.2.2.2.2.2.2.2.2.2.2) bpr bpv bk bwd bpa bro (s9_rounds (s9_fresh (s9_known (s9_came (s9_facts bm V.2.1) V.2.2.1) V.2.2.2.1) V.2.2.2.2.1) V.2.2.2.2.2))) hc [14] rfl rfl rfl hP hD hS hA (va_runV (As := [.int (xs (nI i + 1).toNatClampNeg)]) (rest := [.int T.1]) S (hc.2 _) (cwV 1 S.2.2.2.2 gL_law_X9_key rfl rfl rfl (by decide +kernel) ⟨Nat.le_of_ble_eq_true rfl, Nat.le_of_ble_eq_true rfl⟩) (zpV hK hP hD (is := [14]) rfl rfl 14 rfl rfl (ci := 9) rfl) rfl rfl hl.1 rfl (lv_room (Nat.le_of_ble_eq_true rfl)) dL_law_784 ⟨hcl, hsl⟩) (fun H locs hn2 hP hD hS => ?_)
  refine lv_icmp_eq (tgt := 1116) hx hb dL_law_787 (by decide) (fun _ => ?_) (fun hne => absurd hm.1 hne)
  exact kk _ _ _ _ _ _ _ _ _ _ _ _ _ _ _ _ _ _ _ _ _ hm.2 hP hD hS hl
end ZWL3
