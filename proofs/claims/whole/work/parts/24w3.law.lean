/-! the law's calls -/
section ZWL2
variable {p : Program} {l : Launch} {e : Env} {s : State} {m : MethodId} {below : List Frame} {meth : Method} {c : Code} {b L i : Nat} {xs : Nat → Int32} {G : zG} {A : Nat → Prop} {cells slots : Nat} {arc ac ard av ad ate atv apr apv ahi : Nat → Nat} {aik : Nat → Nat → Nat} {ak awd apa aro am : Nat → Nat} {H : Heap} {locs : List Loc} {ls : Array Slot} {Q : State → Prop}
set_option maxHeartbeats 4000000 in
set_option maxRecDepth 100000 in
theorem wL_tag (S : CallFix p m c cL_law 4 s #[Value.ref b] wsL_law RL) (hX : va_X b L xs s s.heap) (hbl : b < s.heap.size) (hbA : ¬ A b) (hL : L ≤ 3072) (hi : i + 6 ≤ L) (hcl : cells ≤ room_1.cells) (hsl : slots ≤ room_1.slots) (hK : zK G s) (hU : zU A s) (hA : ∀ q, s.heap.size ≤ q → A q) {sg : Nat → Nat} {y : Nat → S0} {D : Nat} {un : Int32} {brc : S8} {bc : S0} {brd : S4} {bv : S6} {bd : S0} {bte : S4} {btv : S6} {bpr : S3} {bpv : S6} {bk : S0} {bwd : S7} {bpa : S2} {bro : S5} {bm : S9} (hI : zInv sg y D un brc bc brd bv bpr bk bwd bpa bro bm) (hP : zP G (zWd G arc ac ard av ad ate atv apr apv ahi aik ak awd apa aro am sg y D un brc bc brd bv bd bte btv bpr bpv bk bwd bpa bro bm) H) (hD : zD A (zWd G arc ac ard av ad ate atv apr apv ahi aik ak awd apa aro am sg y D un brc bc brd bv bd bte btv bpr bpv bk bwd bpa bro bm)) (hS : va_S A s.heap H locs) (hl : lv_has ls 4 [(0, .ref b), (1, .ref (arc 0)), (2, .ref (am 0)), (3, .int (nI i))]) (kk : ∀ (sg : Nat → Nat) (y : Nat → S0) (D : Nat) (un : Int32) (brc : S8) (bc : S0) (brd : S4) (bv : S6) (bd : S0) (bte : S4) (btv : S6) (bpr : S3) (bpv : S6) (bk : S0) (bwd : S7) (bpa : S2) (bro : S5) (bm : S9) (H : Heap) (locs : List Loc) (ls : Array Slot), zInv sg y D un brc bc brd bv bpr bk bwd bpa bro bm → zP G (zWd G arc ac ard av ad ate atv apr apv ahi aik ak awd apa aro am sg y D un brc bc brd bv bd bte btv bpr bpv bk bwd bpa bro bm) H → zD A (zWd G arc ac ard av ad ate atv apr apv ahi aik ak awd apa aro am sg y D un brc bc brd bv bd bte btv bpr bpv bk bwd bpa bro bm) → va_S A s.heap H locs → lv_has ls 4 [(0, .ref b), (1, .ref (arc 0)), (2, .ref (am 0)), (3, .int (nI i))] → W p l e room_1 s m #[Value.ref b] below meth c H locs cells slots Q (F0 m 1116 ls [])) : W p l e room_1 s m #[Value.ref b] below meth c H locs cells slots Q (F0 m 505 ls []) := by
  obtain ⟨hx, hb, hml, hown, hts⟩ := id S
  obtain ⟨hD12, ⟨U, hun, hu9, hHis⟩, hdn, hRel, hcg, hSx, hSt, hImg, htp, hpp, hrw⟩ := id hI
  obtain ⟨hz1, hz2, hz5, hz6⟩ := zRel_hyps hRel
  have hz3 := zTape_len htp
  have hz4 := zTape_len9 htp
  have hz7 := zPap_len hpp
  have hz8 := zPap_len9 hpp
  have hz9 := zHis_un hHis hu9 hdn
  have hz10 := zRows_8 hrw
  have hz11 := zRows_9 hrw
  have hi1 : vp_in (nI i + 1) L := by rw [show (nI i + 1 : Int32) = nI (i + 1) from nI_add i 1]; exact vp_in_nI (by omega) (by omega)
  have hi2 : vp_in (nI i + 2) L := by rw [show (nI i + 2 : Int32) = nI (i + 2) from nI_add i 2]; exact vp_in_nI (by omega) (by omega)
  refine lv_aload_n hx hb dL_law_505 rfl (lv_at hl 1 rfl) ?_
  refine lv_aload_n hx hb dL_law_506 rfl (lv_at hl 0 rfl) ?_
  refine lv_iload_n hx hb dL_law_507 rfl (lv_at hl 3 rfl) ?_
  refine lv_iconst (v := 1) hx hb dL_law_508 (by decide) ?_
  refine lv_iadd hx hb dL_law_509 ?_
  refine va_sld hx hb hX hbl hbA hS hi1 dL_law_510 ?_
  refine lv_aload_n hx hb dL_law_511 rfl (lv_at hl 0 rfl) ?_
  refine lv_iload_n hx hb dL_law_512 rfl (lv_at hl 3 rfl) ?_
  refine lv_iconst (v := 2) hx hb dL_law_513 (by decide) ?_
  refine lv_iadd hx hb dL_law_514 ?_
  refine va_sld hx hb hX hbl hbA hS hi2 dL_law_515 ?_
  obtain ⟨T, hT⟩ : ∃ z, FX8_tag (g8_isSettled brc) (g0_kind bc) (g0_head bc) (g0_body bc) (g0_excepts bc) (g0_power bc) (g0_beats bc) (g0_facts bc) (g0_size bc) (g0_shut bc) (g4_came brd) (g4_last brd) (g6_known bv) (g6_fresh bv) (g6_strictFor bv) (g6_forwardFor bv) (g6_allFor bv) (g6_above bv) (g6_facts bv) (g6_applies bv) (g6_falls bv) (g6_sureBodies bv) (g6_neverBodies bv) (xs (nI i + 1).toNatClampNeg) (xs (nI i + 2).toNatClampNeg) = z := ⟨_, rfl⟩
  obtain ⟨V, hV⟩ : ∃ z, FX9_tag (g9_facts bm) (g9_rules bm) (g9_kind bm) (g9_head bm) (g9_body bm) (g9_except bm) (g9_strength bm) (g9_off bm) (g9_over bm) (g9_came bm) (g9_known bm) (g9_fresh bm) (g9_rounds bm) (xs (nI i + 1).toNatClampNeg) (xs (nI i + 2).toNatClampNeg) = z := ⟨_, rfl⟩
  have hm := m_tag hI hT hV
  have hc := c_X8_tag l G arc ac ard av (ad 0) (ate 0) (apr 0) (ahi 0) (ak 0) (awd 0) (apa 0) (aro 0) brc bc brd bv (xs (nI i + 1).toNatClampNeg) (xs (nI i + 2).toNatClampNeg) hz5 hz1 _ hT
  refine zgoI (bs' := (zWd G arc ac ard av ad ate atv apr apv ahi aik ak awd apa aro am sg y D un (s8_isSettled brc T.2.1) bc (s4_last (s4_came brd T.2.2.1) T.2.2.2.1) (s6_neverBodies (s6_sureBodies (s6_falls (s6_applies (s6_facts (s6_above (s6_allFor (s6_forwardFor (s6_strictFor (s6_fresh (s6_known bv T.2.2.2.2.1) T.2.2.2.2.2.1) T.2.2.2.2.2.2.1) T.2.2.2.2.2.2.2.1) T.2.2.2.2.2.2.2.2.1) T.2.2.2.2.2.2.2.2.2.1) T.2.2.2.2.2.2.2.2.2.2.1) T.2.2.2.2.2.2.2.2.2.2.2.1) T.2.2.2.2.2.2.2.2.2.2.2.2.1) T.2.2.2.2.2.2.2.2.2.2.2.2.2.1) T.2.2.2.2.2.2.2.2.2.2.2.2.2.2) bd bte btv bpr bpv bk bwd bpa bro bm)) hc [0, 1, 2, 3] rfl rfl rfl hP hD hS hA (va_runV (As := [.int (xs (nI i + 1).toNatClampNeg), .int (xs (nI i + 2).toNatClampNeg)]) (rest := []) S (hc.2 _) (cwV 2 S.2.2.2.2 gL_law_X8_tag rfl rfl rfl (by decide +kernel) ⟨Nat.le_of_ble_eq_true rfl, Nat.le_of_ble_eq_true rfl⟩) (zpV hK hP hD (is := [0, 1, 2, 3]) rfl rfl 0 rfl rfl (ci := 8) rfl) rfl rfl hl.1 rfl (lv_room (Nat.le_of_ble_eq_true rfl)) dL_law_516 ⟨hcl, hsl⟩) (fun H locs hn1 hP hD hS => ?_)
  refine lv_aload_n hx hb dL_law_519 rfl (lv_at hl 2 rfl) ?_
  refine lv_aload_n hx hb dL_law_520 rfl (lv_at hl 0 rfl) ?_
  refine lv_iload_n hx hb dL_law_521 rfl (lv_at hl 3 rfl) ?_
  refine lv_iconst (v := 1) hx hb dL_law_522 (by decide) ?_
  refine lv_iadd hx hb dL_law_523 ?_
  refine va_sld hx hb hX hbl hbA hS hi1 dL_law_524 ?_
  refine lv_aload_n hx hb dL_law_525 rfl (lv_at hl 0 rfl) ?_
  refine lv_iload_n hx hb dL_law_526 rfl (lv_at hl 3 rfl) ?_
  refine lv_iconst (v := 2) hx hb dL_law_527 (by decide) ?_
  refine lv_iadd hx hb dL_law_528 ?_
  refine va_sld hx hb hX hbl hbA hS hi2 dL_law_529 ?_
  have hc := c_X9_tag l G am bm (xs (nI i + 1).toNatClampNeg) (xs (nI i + 2).toNatClampNeg) hz2 _ hV
  refine zgoI (bs' := (zWd G arc ac ard av ad ate atv apr apv ahi aik ak awd apa aro am sg y D un (s8_isSettled brc T.2.1) bc (s4_last (s4_came brd T.2.2.1) T.2.2.2.1) (s6_neverBodies (s6_sureBodies (s6_falls (s6_applies (s6_facts (s6_above (s6_allFor (s6_forwardFor (s6_strictFor (s6_fresh (s6_known bv T.2.2.2.2.1) T.2.2.2.2.2.1) T.2.2.2.2.2.2.1) T.2.2.2.2.2.2.2.1) T.2.2.2.2.2.2.2.2.1) T.2.2.2.2.2.2.2.2.2.1) T.2.2.2.2.2.2.2.2.2.2.1) T.2.2.2.2.2.2.2.2.2.2.2.1) T.2.2.2.2.2.2.2.2.2.2.2.2.1) T.2.2.2.2.2.2.2.2.2.2.2.2.2.1) T.2.2.2.2.2.2.2.2.2.2.2.2.2.2) bd bte btv bpr bpv bk bwd bpa bro (s9_rounds (s9_fresh (s9_known (s9_came bm V.2.1) V.2.2.1) V.2.2.2.1) V.2.2.2.2))) hc [14] rfl rfl rfl hP hD hS hA (va_runV (As := [.int (xs (nI i + 1).toNatClampNeg), .int (xs (nI i + 2).toNatClampNeg)]) (rest := [.int T.1]) S (hc.2 _) (cwV 2 S.2.2.2.2 gL_law_X9_tag rfl rfl rfl (by decide +kernel) ⟨Nat.le_of_ble_eq_true rfl, Nat.le_of_ble_eq_true rfl⟩) (zpV hK hP hD (is := [14]) rfl rfl 14 rfl rfl (ci := 9) rfl) rfl rfl hl.1 rfl (lv_room (Nat.le_of_ble_eq_true rfl)) dL_law_530 ⟨hcl, hsl⟩) (fun H locs hn2 hP hD hS => ?_)
  refine lv_icmp_eq (tgt := 1116) hx hb dL_law_533 (by decide) (fun _ => ?_) (fun hne => absurd hm.1 hne)
  exact kk _ _ _ _ _ _ _ _ _ _ _ _ _ _ _ _ _ _ _ _ _ hm.2 hP hD hS hl
set_option maxHeartbeats 4000000 in
set_option maxRecDepth 100000 in
theorem wL_tagged (S : CallFix p m c cL_law 4 s #[Value.ref b] wsL_law RL) (hX : va_X b L xs s s.heap) (hbl : b < s.heap.size) (hbA : ¬ A b) (hL : L ≤ 3072) (hi : i + 6 ≤ L) (hcl : cells ≤ room_1.cells) (hsl : slots ≤ room_1.slots) (hK : zK G s) (hU : zU A s) (hA : ∀ q, s.heap.size ≤ q → A q) {sg : Nat → Nat} {y : Nat → S0} {D : Nat} {un : Int32} {brc : S8} {bc : S0} {brd : S4} {bv : S6} {bd : S0} {bte : S4} {btv : S6} {bpr : S3} {bpv : S6} {bk : S0} {bwd : S7} {bpa : S2} {bro : S5} {bm : S9} (hI : zInv sg y D un brc bc brd bv bpr bk bwd bpa bro bm) (hP : zP G (zWd G arc ac ard av ad ate atv apr apv ahi aik ak awd apa aro am sg y D un brc bc brd bv bd bte btv bpr bpv bk bwd bpa bro bm) H) (hD : zD A (zWd G arc ac ard av ad ate atv apr apv ahi aik ak awd apa aro am sg y D un brc bc brd bv bd bte btv bpr bpv bk bwd bpa bro bm)) (hS : va_S A s.heap H locs) (hl : lv_has ls 4 [(0, .ref b), (1, .ref (arc 0)), (2, .ref (am 0)), (3, .int (nI i))]) (kk : ∀ (sg : Nat → Nat) (y : Nat → S0) (D : Nat) (un : Int32) (brc : S8) (bc : S0) (brd : S4) (bv : S6) (bd : S0) (bte : S4) (btv : S6) (bpr : S3) (bpv : S6) (bk : S0) (bwd : S7) (bpa : S2) (bro : S5) (bm : S9) (H : Heap) (locs : List Loc) (ls : Array Slot), zInv sg y D un brc bc brd bv bpr bk bwd bpa bro bm → zP G (zWd G arc ac ard av ad ate atv apr apv ahi aik ak awd apa aro am sg y D un brc bc brd bv bd bte btv bpr bpv bk bwd bpa bro bm) H → zD A (zWd G arc ac ard av ad ate atv apr apv ahi aik ak awd apa aro am sg y D un brc bc brd bv bd bte btv bpr bpv bk bwd bpa bro bm) → va_S A s.heap H locs → lv_has ls 4 [(0, .ref b), (1, .ref (arc 0)), (2, .ref (am 0)), (3, .int (nI i))] → W p l e room_1 s m #[Value.ref b] below meth c H locs cells slots Q (F0 m 1116 ls [])) : W p l e room_1 s m #[Value.ref b] below meth c H locs cells slots Q (F0 m 538 ls []) := by
  obtain ⟨hx, hb, hml, hown, hts⟩ := id S
  obtain ⟨hD12, ⟨U, hun, hu9, hHis⟩, hdn, hRel, hcg, hSx, hSt, hImg, htp, hpp, hrw⟩ := id hI
  obtain ⟨hz1, hz2, hz5, hz6⟩ := zRel_hyps hRel
  have hz3 := zTape_len htp
  have hz4 := zTape_len9 htp
  have hz7 := zPap_len hpp
  have hz8 := zPap_len9 hpp
  have hz9 := zHis_un hHis hu9 hdn
  have hz10 := zRows_8 hrw
  have hz11 := zRows_9 hrw
  have hi1 : vp_in (nI i + 1) L := by rw [show (nI i + 1 : Int32) = nI (i + 1) from nI_add i 1]; exact vp_in_nI (by omega) (by omega)
  have hi2 : vp_in (nI i + 2) L := by rw [show (nI i + 2 : Int32) = nI (i + 2) from nI_add i 2]; exact vp_in_nI (by omega) (by omega)
  refine lv_aload_n hx hb dL_law_538 rfl (lv_at hl 1 rfl) ?_
  refine lv_aload_n hx hb dL_law_539 rfl (lv_at hl 0 rfl) ?_
  refine lv_iload_n hx hb dL_law_540 rfl (lv_at hl 3 rfl) ?_
  refine lv_iconst (v := 1) hx hb dL_law_541 (by decide) ?_
  refine lv_iadd hx hb dL_law_542 ?_
  refine va_sld hx hb hX hbl hbA hS hi1 dL_law_543 ?_
  refine lv_aload_n hx hb dL_law_544 rfl (lv_at hl 0 rfl) ?_
  refine lv_iload_n hx hb dL_law_545 rfl (lv_at hl 3 rfl) ?_
  refine lv_iconst (v := 2) hx hb dL_law_546 (by decide) ?_
  refine lv_iadd hx hb dL_law_547 ?_
  refine va_sld hx hb hX hbl hbA hS hi2 dL_law_548 ?_
  obtain ⟨T, hT⟩ : ∃ z, FX8_tagged (g8_isSettled brc) (g0_kind bc) (g0_head bc) (g0_body bc) (g0_excepts bc) (g0_power bc) (g0_beats bc) (g0_facts bc) (g0_size bc) (g0_shut bc) (g4_came brd) (g4_last brd) (g6_known bv) (g6_fresh bv) (g6_strictFor bv) (g6_forwardFor bv) (g6_allFor bv) (g6_above bv) (g6_facts bv) (g6_applies bv) (g6_falls bv) (g6_sureBodies bv) (g6_neverBodies bv) (xs (nI i + 1).toNatClampNeg) (xs (nI i + 2).toNatClampNeg) = z := ⟨_, rfl⟩
  obtain ⟨V, hV⟩ : ∃ z, FX9_tagged (g9_facts bm) (g9_rules bm) (g9_kind bm) (g9_head bm) (g9_body bm) (g9_except bm) (g9_strength bm) (g9_off bm) (g9_over bm) (g9_came bm) (g9_known bm) (g9_fresh bm) (g9_rounds bm) (xs (nI i + 1).toNatClampNeg) (xs (nI i + 2).toNatClampNeg) = z := ⟨_, rfl⟩
  have hm := m_tagged hI hT hV
  have hc := c_X8_tagged l G arc ac ard av (ad 0) (ate 0) (apr 0) (ahi 0) (ak 0) (awd 0) (apa 0) (aro 0) brc bc brd bv (xs (nI i + 1).toNatClampNeg) (xs (nI i + 2).toNatClampNeg) hz5 hz1 _ hT
  refine zgoI (bs' := (zWd G arc ac ard av ad ate atv apr apv ahi aik ak awd apa aro am sg y D un (s8_isSettled brc T.2.1) bc (s4_last (s4_came brd T.2.2.1) T.2.2.2.1) (s6_neverBodies (s6_sureBodies (s6_falls (s6_applies (s6_facts (s6_above (s6_allFor (s6_forwardFor (s6_strictFor (s6_fresh (s6_known bv T.2.2.2.2.1) T.2.2.2.2.2.1) T.2.2.2.2.2.2.1) T.2.2.2.2.2.2.2.1) T.2.2.2.2.2.2.2.2.1) T.2.2.2.2.2.2.2.2.2.1) T.2.2.2.2.2.2.2.2.2.2.1) T.2.2.2.2.2.2.2.2.2.2.2.1) T.2.2.2.2.2.2.2.2.2.2.2.2.1) T.2.2.2.2.2.2.2.2.2.2.2.2.2.1) T.2.2.2.2.2.2.2.2.2.2.2.2.2.2) bd bte btv bpr bpv bk bwd bpa bro bm)) hc [0, 1, 2, 3] rfl rfl rfl hP hD hS hA (va_runV (As := [.int (xs (nI i + 1).toNatClampNeg), .int (xs (nI i + 2).toNatClampNeg)]) (rest := []) S (hc.2 _) (cwV 2 S.2.2.2.2 gL_law_X8_tagged rfl rfl rfl (by decide +kernel) ⟨Nat.le_of_ble_eq_true rfl, Nat.le_of_ble_eq_true rfl⟩) (zpV hK hP hD (is := [0, 1, 2, 3]) rfl rfl 0 rfl rfl (ci := 8) rfl) rfl rfl hl.1 rfl (lv_room (Nat.le_of_ble_eq_true rfl)) dL_law_549 ⟨hcl, hsl⟩) (fun H locs hn1 hP hD hS => ?_)
  refine lv_aload_n hx hb dL_law_552 rfl (lv_at hl 2 rfl) ?_
  refine lv_aload_n hx hb dL_law_553 rfl (lv_at hl 0 rfl) ?_
  refine lv_iload_n hx hb dL_law_554 rfl (lv_at hl 3 rfl) ?_
  refine lv_iconst (v := 1) hx hb dL_law_555 (by decide) ?_
  refine lv_iadd hx hb dL_law_556 ?_
  refine va_sld hx hb hX hbl hbA hS hi1 dL_law_557 ?_
  refine lv_aload_n hx hb dL_law_558 rfl (lv_at hl 0 rfl) ?_
  refine lv_iload_n hx hb dL_law_559 rfl (lv_at hl 3 rfl) ?_
  refine lv_iconst (v := 2) hx hb dL_law_560 (by decide) ?_
  refine lv_iadd hx hb dL_law_561 ?_
  refine va_sld hx hb hX hbl hbA hS hi2 dL_law_562 ?_
  have hc := c_X9_tagged l G am bm (xs (nI i + 1).toNatClampNeg) (xs (nI i + 2).toNatClampNeg) hz2 _ hV
  refine zgoI (bs' := (zWd G arc ac ard av ad ate atv apr apv ahi aik ak awd apa aro am sg y D un (s8_isSettled brc T.2.1) bc (s4_last (s4_came brd T.2.2.1) T.2.2.2.1) (s6_neverBodies (s6_sureBodies (s6_falls (s6_applies (s6_facts (s6_above (s6_allFor (s6_forwardFor (s6_strictFor (s6_fresh (s6_known bv T.2.2.2.2.1) T.2.2.2.2.2.1) T.2.2.2.2.2.2.1) T.2.2.2.2.2.2.2.1) T.2.2.2.2.2.2.2.2.1) T.2.2.2.2.2.2.2.2.2.1) T.2.2.2.2.2.2.2.2.2.2.1) T.2.2.2.2.2.2.2.2.2.2.2.1) T.2.2.2.2.2.2.2.2.2.2.2.2.1) T.2.2.2.2.2.2.2.2.2.2.2.2.2.1) T.2.2.2.2.2.2.2.2.2.2.2.2.2.2) bd bte btv bpr bpv bk bwd bpa bro (s9_rounds (s9_fresh (s9_known (s9_came bm V.2.1) V.2.2.1) V.2.2.2.1) V.2.2.2.2))) hc [14] rfl rfl rfl hP hD hS hA (va_runV (As := [.int (xs (nI i + 1).toNatClampNeg), .int (xs (nI i + 2).toNatClampNeg)]) (rest := [.int T.1]) S (hc.2 _) (cwV 2 S.2.2.2.2 gL_law_X9_tagged rfl rfl rfl (by decide +kernel) ⟨Nat.le_of_ble_eq_true rfl, Nat.le_of_ble_eq_true rfl⟩) (zpV hK hP hD (is := [14]) rfl rfl 14 rfl rfl (ci := 9) rfl) rfl rfl hl.1 rfl (lv_room (Nat.le_of_ble_eq_true rfl)) dL_law_563 ⟨hcl, hsl⟩) (fun H locs hn2 hP hD hS => ?_)
  refine lv_icmp_eq (tgt := 1116) hx hb dL_law_566 (by decide) (fun _ => ?_) (fun hne => absurd hm.1 hne)
  exact kk _ _ _ _ _ _ _ _ _ _ _ _ _ _ _ _ _ _ _ _ _ hm.2 hP hD hS hl
set_option maxHeartbeats 4000000 in
set_option maxRecDepth 100000 in
theorem wL_state (S : CallFix p m c cL_law 4 s #[Value.ref b] wsL_law RL) (hX : va_X b L xs s s.heap) (hbl : b < s.heap.size) (hbA : ¬ A b) (hL : L ≤ 3072) (hi : i + 6 ≤ L) (hcl : cells ≤ room_1.cells) (hsl : slots ≤ room_1.slots) (hK : zK G s) (hU : zU A s) (hA : ∀ q, s.heap.size ≤ q → A q) {sg : Nat → Nat} {y : Nat → S0} {D : Nat} {un : Int32} {brc : S8} {bc : S0} {brd : S4} {bv : S6} {bd : S0} {bte : S4} {btv : S6} {bpr : S3} {bpv : S6} {bk : S0} {bwd : S7} {bpa : S2} {bro : S5} {bm : S9} (hI : zInv sg y D un brc bc brd bv bpr bk bwd bpa bro bm) (hP : zP G (zWd G arc ac ard av ad ate atv apr apv ahi aik ak awd apa aro am sg y D un brc bc brd bv bd bte btv bpr bpv bk bwd bpa bro bm) H) (hD : zD A (zWd G arc ac ard av ad ate atv apr apv ahi aik ak awd apa aro am sg y D un brc bc brd bv bd bte btv bpr bpv bk bwd bpa bro bm)) (hS : va_S A s.heap H locs) (hl : lv_has ls 4 [(0, .ref b), (1, .ref (arc 0)), (2, .ref (am 0)), (3, .int (nI i))]) (kk : ∀ (sg : Nat → Nat) (y : Nat → S0) (D : Nat) (un : Int32) (brc : S8) (bc : S0) (brd : S4) (bv : S6) (bd : S0) (bte : S4) (btv : S6) (bpr : S3) (bpv : S6) (bk : S0) (bwd : S7) (bpa : S2) (bro : S5) (bm : S9) (H : Heap) (locs : List Loc) (ls : Array Slot), zInv sg y D un brc bc brd bv bpr bk bwd bpa bro bm → zP G (zWd G arc ac ard av ad ate atv apr apv ahi aik ak awd apa aro am sg y D un brc bc brd bv bd bte btv bpr bpv bk bwd bpa bro bm) H → zD A (zWd G arc ac ard av ad ate atv apr apv ahi aik ak awd apa aro am sg y D un brc bc brd bv bd bte btv bpr bpv bk bwd bpa bro bm) → va_S A s.heap H locs → lv_has ls 4 [(0, .ref b), (1, .ref (arc 0)), (2, .ref (am 0)), (3, .int (nI i))] → W p l e room_1 s m #[Value.ref b] below meth c H locs cells slots Q (F0 m 1116 ls [])) : W p l e room_1 s m #[Value.ref b] below meth c H locs cells slots Q (F0 m 571 ls []) := by
  obtain ⟨hx, hb, hml, hown, hts⟩ := id S
  obtain ⟨hD12, ⟨U, hun, hu9, hHis⟩, hdn, hRel, hcg, hSx, hSt, hImg, htp, hpp, hrw⟩ := id hI
  obtain ⟨hz1, hz2, hz5, hz6⟩ := zRel_hyps hRel
  have hz3 := zTape_len htp
  have hz4 := zTape_len9 htp
  have hz7 := zPap_len hpp
  have hz8 := zPap_len9 hpp
  have hz9 := zHis_un hHis hu9 hdn
  have hz10 := zRows_8 hrw
  have hz11 := zRows_9 hrw
  have hi1 : vp_in (nI i + 1) L := by rw [show (nI i + 1 : Int32) = nI (i + 1) from nI_add i 1]; exact vp_in_nI (by omega) (by omega)
  refine lv_aload_n hx hb dL_law_571 rfl (lv_at hl 1 rfl) ?_
  refine lv_aload_n hx hb dL_law_572 rfl (lv_at hl 0 rfl) ?_
  refine lv_iload_n hx hb dL_law_573 rfl (lv_at hl 3 rfl) ?_
  refine lv_iconst (v := 1) hx hb dL_law_574 (by decide) ?_
  refine lv_iadd hx hb dL_law_575 ?_
  refine va_sld hx hb hX hbl hbA hS hi1 dL_law_576 ?_
  obtain ⟨T, hT⟩ : ∃ z, FX8_state (g8_isSettled brc) (g0_kind bc) (g0_head bc) (g0_body bc) (g0_excepts bc) (g0_power bc) (g0_beats bc) (g0_facts bc) (g0_size bc) (g0_shut bc) (g4_came brd) (g4_last brd) (g6_known bv) (g6_fresh bv) (g6_strictFor bv) (g6_forwardFor bv) (g6_allFor bv) (g6_above bv) (g6_facts bv) (g6_applies bv) (g6_falls bv) (g6_sureBodies bv) (g6_neverBodies bv) (xs (nI i + 1).toNatClampNeg) = z := ⟨_, rfl⟩
  obtain ⟨V, hV⟩ : ∃ z, FX9_state (g9_facts bm) (g9_rules bm) (g9_kind bm) (g9_head bm) (g9_body bm) (g9_except bm) (g9_strength bm) (g9_off bm) (g9_over bm) (g9_came bm) (g9_known bm) (g9_fresh bm) (g9_rounds bm) (xs (nI i + 1).toNatClampNeg) = z := ⟨_, rfl⟩
  have hm := m_state hI hT hV
  have hc := c_X8_state l G arc ac ard av (ad 0) (ate 0) (apr 0) (ahi 0) (ak 0) (awd 0) (apa 0) (aro 0) brc bc brd bv (xs (nI i + 1).toNatClampNeg) hz5 hz1 _ hT
  refine zgoI (bs' := (zWd G arc ac ard av ad ate atv apr apv ahi aik ak awd apa aro am sg y D un (s8_isSettled brc T.2.1) bc (s4_last (s4_came brd T.2.2.1) T.2.2.2.1) (s6_neverBodies (s6_sureBodies (s6_falls (s6_applies (s6_facts (s6_above (s6_allFor (s6_forwardFor (s6_strictFor (s6_fresh (s6_known bv T.2.2.2.2.1) T.2.2.2.2.2.1) T.2.2.2.2.2.2.1) T.2.2.2.2.2.2.2.1) T.2.2.2.2.2.2.2.2.1) T.2.2.2.2.2.2.2.2.2.1) T.2.2.2.2.2.2.2.2.2.2.1) T.2.2.2.2.2.2.2.2.2.2.2.1) T.2.2.2.2.2.2.2.2.2.2.2.2.1) T.2.2.2.2.2.2.2.2.2.2.2.2.2.1) T.2.2.2.2.2.2.2.2.2.2.2.2.2.2) bd bte btv bpr bpv bk bwd bpa bro bm)) hc [0, 1, 2, 3] rfl rfl rfl hP hD hS hA (va_runV (As := [.int (xs (nI i + 1).toNatClampNeg)]) (rest := []) S (hc.2 _) (cwV 1 S.2.2.2.2 gL_law_X8_state rfl rfl rfl (by decide +kernel) ⟨Nat.le_of_ble_eq_true rfl, Nat.le_of_ble_eq_true rfl⟩) (zpV hK hP hD (is := [0, 1, 2, 3]) rfl rfl 0 rfl rfl (ci := 8) rfl) rfl rfl hl.1 rfl (lv_room (Nat.le_of_ble_eq_true rfl)) dL_law_577 ⟨hcl, hsl⟩) (fun H locs hn1 hP hD hS => ?_)
  refine lv_aload_n hx hb dL_law_580 rfl (lv_at hl 2 rfl) ?_
  refine lv_aload_n hx hb dL_law_581 rfl (lv_at hl 0 rfl) ?_
  refine lv_iload_n hx hb dL_law_582 rfl (lv_at hl 3 rfl) ?_
  refine lv_iconst (v := 1) hx hb dL_law_583 (by decide) ?_
  refine lv_iadd hx hb dL_law_584 ?_
  refine va_sld hx hb hX hbl hbA hS hi1 dL_law_585 ?_
  have hc := c_X9_state l G am bm (xs (nI i + 1).toNatClampNeg) hz2 _ hV
  refine zgoI (bs' := (zWd G arc ac ard av ad ate atv apr apv ahi aik ak awd apa aro am sg y D un (s8_isSettled brc T.2.1) bc (s4_last (s4_came brd T.2.2.1) T.2.2.2.1) (s6_neverBodies (s6_sureBodies (s6_falls (s6_applies (s6_facts (s6_above (s6_allFor (s6_forwardFor (s6_strictFor (s6_fresh (s6_known bv T.2.2.2.2.1) T.2.2.2.2.2.1) T.2.2.2.2.2.2.1) T.2.2.2.2.2.2.2.1) T.2.2.2.2.2.2.2.2.1) T.2.2.2.2.2.2.2.2.2.1) T.2.2.2.2.2.2.2.2.2.2.1) T.2.2.2.2.2.2.2.2.2.2.2.1) T.2.2.2.2.2.2.2.2.2.2.2.2.1) T.2.2.2.2.2.2.2.2.2.2.2.2.2.1) T.2.2.2.2.2.2.2.2.2.2.2.2.2.2) bd bte btv bpr bpv bk bwd bpa bro (s9_rounds (s9_fresh (s9_known (s9_came bm V.2.1) V.2.2.1) V.2.2.2.1) V.2.2.2.2))) hc [14] rfl rfl rfl hP hD hS hA (va_runV (As := [.int (xs (nI i + 1).toNatClampNeg)]) (rest := [.int T.1]) S (hc.2 _) (cwV 1 S.2.2.2.2 gL_law_X9_state rfl rfl rfl (by decide +kernel) ⟨Nat.le_of_ble_eq_true rfl, Nat.le_of_ble_eq_true rfl⟩) (zpV hK hP hD (is := [14]) rfl rfl 14 rfl rfl (ci := 9) rfl) rfl rfl hl.1 rfl (lv_room (Nat.le_of_ble_eq_true rfl)) dL_law_586 ⟨hcl, hsl⟩) (fun H locs hn2 hP hD hS => ?_)
  refine lv_icmp_eq (tgt := 1116) hx hb dL_law_589 (by decide) (fun _ => ?_) (fun hne => absurd hm.1 hne)
  exact kk _ _ _ _ _ _ _ _ _ _ _ _ _ _ _ _ _ _ _ _ _ hm.2 hP hD hS hl
set_option maxHeartbeats 4000000 in
set_option maxRecDepth 100000 in
theorem wL_sides (S : CallFix p m c cL_law 4 s #[Value.ref b] wsL_law RL) (hX : va_X b L xs s s.heap) (hbl : b < s.heap.size) (hbA : ¬ A b) (hL : L ≤ 3072) (hi : i + 6 ≤ L) (hcl : cells ≤ room_1.cells) (hsl : slots ≤ room_1.slots) (hK : zK G s) (hU : zU A s) (hA : ∀ q, s.heap.size ≤ q → A q) {sg : Nat → Nat} {y : Nat → S0} {D : Nat} {un : Int32} {brc : S8} {bc : S0} {brd : S4} {bv : S6} {bd : S0} {bte : S4} {btv : S6} {bpr : S3} {bpv : S6} {bk : S0} {bwd : S7} {bpa : S2} {bro : S5} {bm : S9} (hI : zInv sg y D un brc bc brd bv bpr bk bwd bpa bro bm) (hP : zP G (zWd G arc ac ard av ad ate atv apr apv ahi aik ak awd apa aro am sg y D un brc bc brd bv bd bte btv bpr bpv bk bwd bpa bro bm) H) (hD : zD A (zWd G arc ac ard av ad ate atv apr apv ahi aik ak awd apa aro am sg y D un brc bc brd bv bd bte btv bpr bpv bk bwd bpa bro bm)) (hS : va_S A s.heap H locs) (hl : lv_has ls 4 [(0, .ref b), (1, .ref (arc 0)), (2, .ref (am 0)), (3, .int (nI i))]) (kk : ∀ (sg : Nat → Nat) (y : Nat → S0) (D : Nat) (un : Int32) (brc : S8) (bc : S0) (brd : S4) (bv : S6) (bd : S0) (bte : S4) (btv : S6) (bpr : S3) (bpv : S6) (bk : S0) (bwd : S7) (bpa : S2) (bro : S5) (bm : S9) (H : Heap) (locs : List Loc) (ls : Array Slot), zInv sg y D un brc bc brd bv bpr bk bwd bpa bro bm → zP G (zWd G arc ac ard av ad ate atv apr apv ahi aik ak awd apa aro am sg y D un brc bc brd bv bd bte btv bpr bpv bk bwd bpa bro bm) H → zD A (zWd G arc ac ard av ad ate atv apr apv ahi aik ak awd apa aro am sg y D un brc bc brd bv bd bte btv bpr bpv bk bwd bpa bro bm) → va_S A s.heap H locs → lv_has ls 4 [(0, .ref b), (1, .ref (arc 0)), (2, .ref (am 0)), (3, .int (nI i))] → W p l e room_1 s m #[Value.ref b] below meth c H locs cells slots Q (F0 m 1116 ls [])) : W p l e room_1 s m #[Value.ref b] below meth c H locs cells slots Q (F0 m 594 ls []) := by
  obtain ⟨hx, hb, hml, hown, hts⟩ := id S
  obtain ⟨hD12, ⟨U, hun, hu9, hHis⟩, hdn, hRel, hcg, hSx, hSt, hImg, htp, hpp, hrw⟩ := id hI
  obtain ⟨hz1, hz2, hz5, hz6⟩ := zRel_hyps hRel
  have hz3 := zTape_len htp
  have hz4 := zTape_len9 htp
  have hz7 := zPap_len hpp
  have hz8 := zPap_len9 hpp
  have hz9 := zHis_un hHis hu9 hdn
  have hz10 := zRows_8 hrw
  have hz11 := zRows_9 hrw
  have hi1 : vp_in (nI i + 1) L := by rw [show (nI i + 1 : Int32) = nI (i + 1) from nI_add i 1]; exact vp_in_nI (by omega) (by omega)
  have hi2 : vp_in (nI i + 2) L := by rw [show (nI i + 2 : Int32) = nI (i + 2) from nI_add i 2]; exact vp_in_nI (by omega) (by omega)
  refine lv_aload_n hx hb dL_law_594 rfl (lv_at hl 1 rfl) ?_
  refine lv_aload_n hx hb dL_law_595 rfl (lv_at hl 0 rfl) ?_
  refine lv_iload_n hx hb dL_law_596 rfl (lv_at hl 3 rfl) ?_
  refine lv_iconst (v := 1) hx hb dL_law_597 (by decide) ?_
  refine lv_iadd hx hb dL_law_598 ?_
  refine va_sld hx hb hX hbl hbA hS hi1 dL_law_599 ?_
  refine lv_aload_n hx hb dL_law_600 rfl (lv_at hl 0 rfl) ?_
  refine lv_iload_n hx hb dL_law_601 rfl (lv_at hl 3 rfl) ?_
  refine lv_iconst (v := 2) hx hb dL_law_602 (by decide) ?_
  refine lv_iadd hx hb dL_law_603 ?_
  refine va_sld hx hb hX hbl hbA hS hi2 dL_law_604 ?_
  obtain ⟨T, hT⟩ : ∃ z, FX8_sides (g8_isSettled brc) (g0_kind bc) (g0_head bc) (g0_body bc) (g0_excepts bc) (g0_power bc) (g0_beats bc) (g0_facts bc) (g0_size bc) (g0_shut bc) (g4_came brd) (g4_last brd) (g6_known bv) (g6_fresh bv) (g6_strictFor bv) (g6_forwardFor bv) (g6_allFor bv) (g6_above bv) (g6_facts bv) (g6_applies bv) (g6_falls bv) (g6_sureBodies bv) (g6_neverBodies bv) (xs (nI i + 1).toNatClampNeg) (xs (nI i + 2).toNatClampNeg) = z := ⟨_, rfl⟩
  obtain ⟨V, hV⟩ : ∃ z, FX9_sides (g9_facts bm) (g9_rules bm) (g9_kind bm) (g9_head bm) (g9_body bm) (g9_except bm) (g9_strength bm) (g9_off bm) (g9_over bm) (g9_came bm) (g9_known bm) (g9_fresh bm) (g9_rounds bm) (xs (nI i + 1).toNatClampNeg) (xs (nI i + 2).toNatClampNeg) = z := ⟨_, rfl⟩
  have hm := m_sides hI hT hV
  have hc := c_X8_sides l G arc ac ard av (ad 0) (ate 0) (apr 0) (ahi 0) (ak 0) (awd 0) (apa 0) (aro 0) brc bc brd bv (xs (nI i + 1).toNatClampNeg) (xs (nI i + 2).toNatClampNeg) hz5 hz1 _ hT
  refine zgoI (bs' := (zWd G arc ac ard av ad ate atv apr apv ahi aik ak awd apa aro am sg y D un (s8_isSettled brc T.2.1) bc (s4_last (s4_came brd T.2.2.1) T.2.2.2.1) (s6_neverBodies (s6_sureBodies (s6_falls (s6_applies (s6_facts (s6_above (s6_allFor (s6_forwardFor (s6_strictFor (s6_fresh (s6_known bv T.2.2.2.2.1) T.2.2.2.2.2.1) T.2.2.2.2.2.2.1) T.2.2.2.2.2.2.2.1) T.2.2.2.2.2.2.2.2.1) T.2.2.2.2.2.2.2.2.2.1) T.2.2.2.2.2.2.2.2.2.2.1) T.2.2.2.2.2.2.2.2.2.2.2.1) T.2.2.2.2.2.2.2.2.2.2.2.2.1) T.2.2.2.2.2.2.2.2.2.2.2.2.2.1) T.2.2.2.2.2.2.2.2.2.2.2.2.2.2) bd bte btv bpr bpv bk bwd bpa bro bm)) hc [0, 1, 2, 3] rfl rfl rfl hP hD hS hA (va_runV (As := [.int (xs (nI i + 1).toNatClampNeg), .int (xs (nI i + 2).toNatClampNeg)]) (rest := []) S (hc.2 _) (cwV 2 S.2.2.2.2 gL_law_X8_sides rfl rfl rfl (by decide +kernel) ⟨Nat.le_of_ble_eq_true rfl, Nat.le_of_ble_eq_true rfl⟩) (zpV hK hP hD (is := [0, 1, 2, 3]) rfl rfl 0 rfl rfl (ci := 8) rfl) rfl rfl hl.1 rfl (lv_room (Nat.le_of_ble_eq_true rfl)) dL_law_605 ⟨hcl, hsl⟩) (fun H locs hn1 hP hD hS => ?_)
  refine lv_aload_n hx hb dL_law_608 rfl (lv_at hl 2 rfl) ?_
  refine lv_aload_n hx hb dL_law_609 rfl (lv_at hl 0 rfl) ?_
  refine lv_iload_n hx hb dL_law_610 rfl (lv_at hl 3 rfl) ?_
  refine lv_iconst (v := 1) hx hb dL_law_611 (by decide) ?_
  refine lv_iadd hx hb dL_law_612 ?_
  refine va_sld hx hb hX hbl hbA hS hi1 dL_law_613 ?_
  refine lv_aload_n hx hb dL_law_614 rfl (lv_at hl 0 rfl) ?_
  refine lv_iload_n hx hb dL_law_615 rfl (lv_at hl 3 rfl) ?_
  refine lv_iconst (v := 2) hx hb dL_law_616 (by decide) ?_
  refine lv_iadd hx hb dL_law_617 ?_
  refine va_sld hx hb hX hbl hbA hS hi2 dL_law_618 ?_
  have hc := c_X9_sides l G am bm (xs (nI i + 1).toNatClampNeg) (xs (nI i + 2).toNatClampNeg) hz2 _ hV
  refine zgoI (bs' := (zWd G arc ac ard av ad ate atv apr apv ahi aik ak awd apa aro am sg y D un (s8_isSettled brc T.2.1) bc (s4_last (s4_came brd T.2.2.1) T.2.2.2.1) (s6_neverBodies (s6_sureBodies (s6_falls (s6_applies (s6_facts (s6_above (s6_allFor (s6_forwardFor (s6_strictFor (s6_fresh (s6_known bv T.2.2.2.2.1) T.2.2.2.2.2.1) T.2.2.2.2.2.2.1) T.2.2.2.2.2.2.2.1) T.2.2.2.2.2.2.2.2.1) T.2.2.2.2.2.2.2.2.2.1) T.2.2.2.2.2.2.2.2.2.2.1) T.2.2.2.2.2.2.2.2.2.2.2.1) T.2.2.2.2.2.2.2.2.2.2.2.2.1) T.2.2.2.2.2.2.2.2.2.2.2.2.2.1) T.2.2.2.2.2.2.2.2.2.2.2.2.2.2) bd bte btv bpr bpv bk bwd bpa bro (s9_rounds (s9_fresh (s9_known (s9_came bm V.2.1) V.2.2.1) V.2.2.2.1) V.2.2.2.2))) hc [14] rfl rfl rfl hP hD hS hA (va_runV (As := [.int (xs (nI i + 1).toNatClampNeg), .int (xs (nI i + 2).toNatClampNeg)]) (rest := [.int T.1]) S (hc.2 _) (cwV 2 S.2.2.2.2 gL_law_X9_sides rfl rfl rfl (by decide +kernel) ⟨Nat.le_of_ble_eq_true rfl, Nat.le_of_ble_eq_true rfl⟩) (zpV hK hP hD (is := [14]) rfl rfl 14 rfl rfl (ci := 9) rfl) rfl rfl hl.1 rfl (lv_room (Nat.le_of_ble_eq_true rfl)) dL_law_619 ⟨hcl, hsl⟩) (fun H locs hn2 hP hD hS => ?_)
  refine lv_icmp_eq (tgt := 1116) hx hb dL_law_622 (by decide) (fun _ => ?_) (fun hne => absurd hm.1 hne)
  exact kk _ _ _ _ _ _ _ _ _ _ _ _ _ _ _ _ _ _ _ _ _ hm.2 hP hD hS hl
set_option maxHeartbeats 4000000 in
set_option maxRecDepth 100000 in
theorem wL_proof (S : CallFix p m c cL_law 4 s #[Value.ref b] wsL_law RL) (hX : va_X b L xs s s.heap) (hbl : b < s.heap.size) (hbA : ¬ A b) (hL : L ≤ 3072) (hi : i + 6 ≤ L) (hcl : cells ≤ room_1.cells) (hsl : slots ≤ room_1.slots) (hK : zK G s) (hU : zU A s) (hA : ∀ q, s.heap.size ≤ q → A q) {sg : Nat → Nat} {y : Nat → S0} {D : Nat} {un : Int32} {brc : S8} {bc : S0} {brd : S4} {bv : S6} {bd : S0} {bte : S4} {btv : S6} {bpr : S3} {bpv : S6} {bk : S0} {bwd : S7} {bpa : S2} {bro : S5} {bm : S9} (hI : zInv sg y D un brc bc brd bv bpr bk bwd bpa bro bm) (hP : zP G (zWd G arc ac ard av ad ate atv apr apv ahi aik ak awd apa aro am sg y D un brc bc brd bv bd bte btv bpr bpv bk bwd bpa bro bm) H) (hD : zD A (zWd G arc ac ard av ad ate atv apr apv ahi aik ak awd apa aro am sg y D un brc bc brd bv bd bte btv bpr bpv bk bwd bpa bro bm)) (hS : va_S A s.heap H locs) (hl : lv_has ls 4 [(0, .ref b), (1, .ref (arc 0)), (2, .ref (am 0)), (3, .int (nI i))]) (kk : ∀ (sg : Nat → Nat) (y : Nat → S0) (D : Nat) (un : Int32) (brc : S8) (bc : S0) (brd : S4) (bv : S6) (bd : S0) (bte : S4) (btv : S6) (bpr : S3) (bpv : S6) (bk : S0) (bwd : S7) (bpa : S2) (bro : S5) (bm : S9) (H : Heap) (locs : List Loc) (ls : Array Slot), zInv sg y D un brc bc brd bv bpr bk bwd bpa bro bm → zP G (zWd G arc ac ard av ad ate atv apr apv ahi aik ak awd apa aro am sg y D un brc bc brd bv bd bte btv bpr bpv bk bwd bpa bro bm) H → zD A (zWd G arc ac ard av ad ate atv apr apv ahi aik ak awd apa aro am sg y D un brc bc brd bv bd bte btv bpr bpv bk bwd bpa bro bm) → va_S A s.heap H locs → lv_has ls 4 [(0, .ref b), (1, .ref (arc 0)), (2, .ref (am 0)), (3, .int (nI i))] → W p l e room_1 s m #[Value.ref b] below meth c H locs cells slots Q (F0 m 1116 ls [])) : W p l e room_1 s m #[Value.ref b] below meth c H locs cells slots Q (F0 m 627 ls []) := by
  obtain ⟨hx, hb, hml, hown, hts⟩ := id S
  obtain ⟨hD12, ⟨U, hun, hu9, hHis⟩, hdn, hRel, hcg, hSx, hSt, hImg, htp, hpp, hrw⟩ := id hI
  obtain ⟨hz1, hz2, hz5, hz6⟩ := zRel_hyps hRel
  have hz3 := zTape_len htp
  have hz4 := zTape_len9 htp
  have hz7 := zPap_len hpp
  have hz8 := zPap_len9 hpp
  have hz9 := zHis_un hHis hu9 hdn
  have hz10 := zRows_8 hrw
  have hz11 := zRows_9 hrw
  have hi1 : vp_in (nI i + 1) L := by rw [show (nI i + 1 : Int32) = nI (i + 1) from nI_add i 1]; exact vp_in_nI (by omega) (by omega)
  have hi2 : vp_in (nI i + 2) L := by rw [show (nI i + 2 : Int32) = nI (i + 2) from nI_add i 2]; exact vp_in_nI (by omega) (by omega)
  have hi3 : vp_in (nI i + 3) L := by rw [show (nI i + 3 : Int32) = nI (i + 3) from nI_add i 3]; exact vp_in_nI (by omega) (by omega)
  refine lv_aload_n hx hb dL_law_627 rfl (lv_at hl 1 rfl) ?_
  refine lv_aload_n hx hb dL_law_628 rfl (lv_at hl 0 rfl) ?_
  refine lv_iload_n hx hb dL_law_629 rfl (lv_at hl 3 rfl) ?_
  refine lv_iconst (v := 1) hx hb dL_law_630 (by decide) ?_
  refine lv_iadd hx hb dL_law_631 ?_
  refine va_sld hx hb hX hbl hbA hS hi1 dL_law_632 ?_
  refine lv_aload_n hx hb dL_law_633 rfl (lv_at hl 0 rfl) ?_
  refine lv_iload_n hx hb dL_law_634 rfl (lv_at hl 3 rfl) ?_
  refine lv_iconst (v := 2) hx hb dL_law_635 (by decide) ?_
  refine lv_iadd hx hb dL_law_636 ?_
  refine va_sld hx hb hX hbl hbA hS hi2 dL_law_637 ?_
  refine lv_aload_n hx hb dL_law_638 rfl (lv_at hl 0 rfl) ?_
  refine lv_iload_n hx hb dL_law_639 rfl (lv_at hl 3 rfl) ?_
  refine lv_iconst (v := 3) hx hb dL_law_640 (by decide) ?_
  refine lv_iadd hx hb dL_law_641 ?_
  refine va_sld hx hb hX hbl hbA hS hi3 dL_law_642 ?_
  obtain ⟨T, hT⟩ : ∃ z, FX8_proof (g8_isSettled brc) (g0_kind bc) (g0_head bc) (g0_body bc) (g0_excepts bc) (g0_power bc) (g0_beats bc) (g0_facts bc) (g0_size bc) (g0_shut bc) (g4_came brd) (g4_last brd) (g6_known bv) (g6_fresh bv) (g6_strictFor bv) (g6_forwardFor bv) (g6_allFor bv) (g6_above bv) (g6_facts bv) (g6_applies bv) (g6_falls bv) (g6_sureBodies bv) (g6_neverBodies bv) (g3_wanted bpr) (g3_steps bpr) (g3_length bpr) (g6_known bpv) (g6_strictFor bpv) (g6_forwardFor bpv) (g6_allFor bpv) (g6_above bpv) (g6_facts bpv) (g6_applies bpv) (g6_falls bpv) (g6_sureBodies bpv) (g6_neverBodies bpv) (xs (nI i + 1).toNatClampNeg) (xs (nI i + 2).toNatClampNeg) (xs (nI i + 3).toNatClampNeg) = z := ⟨_, rfl⟩
  obtain ⟨V, hV⟩ : ∃ z, FX9_proof (g9_facts bm) (g9_rules bm) (g9_kind bm) (g9_head bm) (g9_body bm) (g9_except bm) (g9_strength bm) (g9_off bm) (g9_over bm) (g9_came bm) (g9_known bm) (g9_fresh bm) (g9_rounds bm) (g9_needed bm) (g9_listed bm) (g9_lists bm) (xs (nI i + 1).toNatClampNeg) (xs (nI i + 2).toNatClampNeg) (xs (nI i + 3).toNatClampNeg) = z := ⟨_, rfl⟩
  have hm := m_proof hI hT hV
  have hc := c_X8_proof l G arc ac ard av apr apv (ad 0) (ate 0) (ahi 0) (ak 0) (awd 0) (apa 0) (aro 0) brc bc brd bv bpr bpv (xs (nI i + 1).toNatClampNeg) (xs (nI i + 2).toNatClampNeg) (xs (nI i + 3).toNatClampNeg) hz5 hz1 hSx.2 hSt _ hT
  refine zgoI (bs' := (zWd G arc ac ard av ad ate atv apr apv ahi aik ak awd apa aro am sg y D un (s8_isSettled brc T.2.1) bc (s4_last (s4_came brd T.2.2.1) T.2.2.2.1) (s6_neverBodies (s6_sureBodies (s6_falls (s6_applies (s6_facts (s6_above (s6_allFor (s6_forwardFor (s6_strictFor (s6_fresh (s6_known bv T.2.2.2.2.1) T.2.2.2.2.2.1) T.2.2.2.2.2.2.1) T.2.2.2.2.2.2.2.1) T.2.2.2.2.2.2.2.2.1) T.2.2.2.2.2.2.2.2.2.1) T.2.2.2.2.2.2.2.2.2.2.1) T.2.2.2.2.2.2.2.2.2.2.2.1) T.2.2.2.2.2.2.2.2.2.2.2.2.1) T.2.2.2.2.2.2.2.2.2.2.2.2.2.1) T.2.2.2.2.2.2.2.2.2.2.2.2.2.2.1) bd bte btv (s3_length (s3_steps (s3_wanted bpr T.2.2.2.2.2.2.2.2.2.2.2.2.2.2.2.1) T.2.2.2.2.2.2.2.2.2.2.2.2.2.2.2.2.1) T.2.2.2.2.2.2.2.2.2.2.2.2.2.2.2.2.2.1) (s6_neverBodies (s6_sureBodies (s6_falls (s6_applies (s6_facts (s6_above (s6_allFor (s6_forwardFor (s6_strictFor (s6_known bpv T.2.2.2.2.2.2.2.2.2.2.2.2.2.2.2.2.2.2.1) T.2.2.2.2.2.2.2.2.2.2.2.2.2.2.2.2.2.2.2.1) T.2.2.2.2.2.2.2.2.2.2.2.2.2.2.2.2.2.2.2.2.1) T.2.2.2.2.2.2.2.2.2.2.2.2.2.2.2.2.2.2.2.2.2.1) T.2.2.2.2.2.2.2.2.2.2.2.2.2.2.2.2.2.2.2.2.2.2.1) T.2.2.2.2.2.2.2.2.2.2.2.2.2.2.2.2.2.2.2.2.2.2.2.1) T.2.2.2.2.2.2.2.2.2.2.2.2.2.2.2.2.2.2.2.2.2.2.2.2.1) T.2.2.2.2.2.2.2.2.2.2.2.2.2.2.2.2.2.2.2.2.2.2.2.2.2.1) T.2.2.2.2.2.2.2.2.2.2.2.2.2.2.2.2.2.2.2.2.2.2.2.2.2.2.1) T.2.2.2.2.2.2.2.2.2.2.2.2.2.2.2.2.2.2.2.2.2.2.2.2.2.2.2) bk bwd bpa bro bm)) hc [0, 1, 2, 3, 7, 8] rfl rfl rfl hP hD hS hA (va_runV (As := [.int (xs (nI i + 1).toNatClampNeg), .int (xs (nI i + 2).toNatClampNeg), .int (xs (nI i + 3).toNatClampNeg)]) (rest := []) S (hc.2 _) (cwV 3 S.2.2.2.2 gL_law_X8_proof rfl rfl rfl (by decide +kernel) ⟨Nat.le_of_ble_eq_true rfl, Nat.le_of_ble_eq_true rfl⟩) (zpV hK hP hD (is := [0, 1, 2, 3, 7, 8]) rfl rfl 0 rfl rfl (ci := 8) rfl) rfl rfl hl.1 rfl (lv_room (Nat.le_of_ble_eq_true rfl)) dL_law_643 ⟨hcl, hsl⟩) (fun H locs hn1 hP hD hS => ?_)
  refine lv_aload_n hx hb dL_law_646 rfl (lv_at hl 2 rfl) ?_
  refine lv_aload_n hx hb dL_law_647 rfl (lv_at hl 0 rfl) ?_
  refine lv_iload_n hx hb dL_law_648 rfl (lv_at hl 3 rfl) ?_
  refine lv_iconst (v := 1) hx hb dL_law_649 (by decide) ?_
  refine lv_iadd hx hb dL_law_650 ?_
  refine va_sld hx hb hX hbl hbA hS hi1 dL_law_651 ?_
  refine lv_aload_n hx hb dL_law_652 rfl (lv_at hl 0 rfl) ?_
  refine lv_iload_n hx hb dL_law_653 rfl (lv_at hl 3 rfl) ?_
  refine lv_iconst (v := 2) hx hb dL_law_654 (by decide) ?_
  refine lv_iadd hx hb dL_law_655 ?_
  refine va_sld hx hb hX hbl hbA hS hi2 dL_law_656 ?_
  refine lv_aload_n hx hb dL_law_657 rfl (lv_at hl 0 rfl) ?_
  refine lv_iload_n hx hb dL_law_658 rfl (lv_at hl 3 rfl) ?_
  refine lv_iconst (v := 3) hx hb dL_law_659 (by decide) ?_
  refine lv_iadd hx hb dL_law_660 ?_
  refine va_sld hx hb hX hbl hbA hS hi3 dL_law_661 ?_
  have hc := c_X9_proof l G am bm (xs (nI i + 1).toNatClampNeg) (xs (nI i + 2).toNatClampNeg) (xs (nI i + 3).toNatClampNeg) (q_zPv hRel (zG9 bm)) (q_hpl hRel (zG9 bm)) hz2 _ hV
  refine zgoI (bs' := (zWd G arc ac ard av ad ate atv apr apv ahi aik ak awd apa aro am sg y D un (s8_isSettled brc T.2.1) bc (s4_last (s4_came brd T.2.2.1) T.2.2.2.1) (s6_neverBodies (s6_sureBodies (s6_falls (s6_applies (s6_facts (s6_above (s6_allFor (s6_forwardFor (s6_strictFor (s6_fresh (s6_known bv T.2.2.2.2.1) T.2.2.2.2.2.1) T.2.2.2.2.2.2.1) T.2.2.2.2.2.2.2.1) T.2.2.2.2.2.2.2.2.1) T.2.2.2.2.2.2.2.2.2.1) T.2.2.2.2.2.2.2.2.2.2.1) T.2.2.2.2.2.2.2.2.2.2.2.1) T.2.2.2.2.2.2.2.2.2.2.2.2.1) T.2.2.2.2.2.2.2.2.2.2.2.2.2.1) T.2.2.2.2.2.2.2.2.2.2.2.2.2.2.1) bd bte btv (s3_length (s3_steps (s3_wanted bpr T.2.2.2.2.2.2.2.2.2.2.2.2.2.2.2.1) T.2.2.2.2.2.2.2.2.2.2.2.2.2.2.2.2.1) T.2.2.2.2.2.2.2.2.2.2.2.2.2.2.2.2.2.1) (s6_neverBodies (s6_sureBodies (s6_falls (s6_applies (s6_facts (s6_above (s6_allFor (s6_forwardFor (s6_strictFor (s6_known bpv T.2.2.2.2.2.2.2.2.2.2.2.2.2.2.2.2.2.2.1) T.2.2.2.2.2.2.2.2.2.2.2.2.2.2.2.2.2.2.2.1) T.2.2.2.2.2.2.2.2.2.2.2.2.2.2.2.2.2.2.2.2.1) T.2.2.2.2.2.2.2.2.2.2.2.2.2.2.2.2.2.2.2.2.2.1) T.2.2.2.2.2.2.2.2.2.2.2.2.2.2.2.2.2.2.2.2.2.2.1) T.2.2.2.2.2.2.2.2.2.2.2.2.2.2.2.2.2.2.2.2.2.2.2.1) T.2.2.2.2.2.2.2.2.2.2.2.2.2.2.2.2.2.2.2.2.2.2.2.2.1) T.2.2.2.2.2.2.2.2.2.2.2.2.2.2.2.2.2.2.2.2.2.2.2.2.2.1) T.2.2.2.2.2.2.2.2.2.2.2.2.2.2.2.2.2.2.2.2.2.2.2.2.2.2.1) T.2.2.2.2.2.2.2.2.2.2.2.2.2.2.2.2.2.2.2.2.2.2.2.2.2.2.2) bk bwd bpa bro (s9_lists (s9_listed (s9_needed (s9_rounds (s9_fresh (s9_known (s9_came bm V.2.1) V.2.2.1) V.2.2.2.1) V.2.2.2.2.1) V.2.2.2.2.2.1) V.2.2.2.2.2.2.1) V.2.2.2.2.2.2.2))) hc [14] rfl rfl rfl hP hD hS hA (va_runV (As := [.int (xs (nI i + 1).toNatClampNeg), .int (xs (nI i + 2).toNatClampNeg), .int (xs (nI i + 3).toNatClampNeg)]) (rest := [.int T.1]) S (hc.2 _) (cwV 3 S.2.2.2.2 gL_law_X9_proof rfl rfl rfl (by decide +kernel) ⟨Nat.le_of_ble_eq_true rfl, Nat.le_of_ble_eq_true rfl⟩) (zpV hK hP hD (is := [14]) rfl rfl 14 rfl rfl (ci := 9) rfl) rfl rfl hl.1 rfl (lv_room (Nat.le_of_ble_eq_true rfl)) dL_law_662 ⟨hcl, hsl⟩) (fun H locs hn2 hP hD hS => ?_)
  refine lv_icmp_eq (tgt := 1116) hx hb dL_law_665 (by decide) (fun _ => ?_) (fun hne => absurd hm.1 hne)
  exact kk _ _ _ _ _ _ _ _ _ _ _ _ _ _ _ _ _ _ _ _ _ hm.2 hP hD hS hl
end ZWL2
