/-! the law's calls -/
section ZWL1
variable {p : Program} {l : Launch} {e : Env} {s : State} {m : MethodId} {below : List Frame} {meth : Method} {c : Code} {b L i : Nat} {xs : Nat → Int32} {G : zG} {A : Nat → Prop} {cells slots : Nat} {arc ac ard av ad ate atv apr apv ahi : Nat → Nat} {aik : Nat → Nat → Nat} {ak awd apa aro am : Nat → Nat} {H : Heap} {locs : List Loc} {ls : Array Slot} {Q : State → Prop}
set_option maxHeartbeats 4000000 in
set_option maxRecDepth 100000 in
theorem wL_feed (S : CallFix p m c cL_law 4 s #[Value.ref b] wsL_law RL) (hX : va_X b L xs s s.heap) (hbl : b < s.heap.size) (hbA : ¬ A b) (hL : L ≤ 3072) (hi : i + 6 ≤ L) (hcl : cells ≤ room_1.cells) (hsl : slots ≤ room_1.slots) (hK : zK G s) (hU : zU A s) (hA : ∀ q, s.heap.size ≤ q → A q) {sg : Nat → Nat} {y : Nat → S0} {D : Nat} {un : Int32} {brc : S8} {bc : S0} {brd : S4} {bv : S6} {bd : S0} {bte : S4} {btv : S6} {bpr : S3} {bpv : S6} {bk : S0} {bwd : S7} {bpa : S2} {bro : S5} {bm : S9} (hI : zInv sg y D un brc bc brd bv bpr bk bwd bpa bro bm) (hP : zP G (zWd G arc ac ard av ad ate atv apr apv ahi aik ak awd apa aro am sg y D un brc bc brd bv bd bte btv bpr bpv bk bwd bpa bro bm) H) (hD : zD A (zWd G arc ac ard av ad ate atv apr apv ahi aik ak awd apa aro am sg y D un brc bc brd bv bd bte btv bpr bpv bk bwd bpa bro bm)) (hS : va_S A s.heap H locs) (hl : lv_has ls 4 [(0, .ref b), (1, .ref (arc 0)), (2, .ref (am 0)), (3, .int (nI i))]) (kk : ∀ (sg : Nat → Nat) (y : Nat → S0) (D : Nat) (un : Int32) (brc : S8) (bc : S0) (brd : S4) (bv : S6) (bd : S0) (bte : S4) (btv : S6) (bpr : S3) (bpv : S6) (bk : S0) (bwd : S7) (bpa : S2) (bro : S5) (bm : S9) (H : Heap) (locs : List Loc) (ls : Array Slot), zInv sg y D un brc bc brd bv bpr bk bwd bpa bro bm → zP G (zWd G arc ac ard av ad ate atv apr apv ahi aik ak awd apa aro am sg y D un brc bc brd bv bd bte btv bpr bpv bk bwd bpa bro bm) H → zD A (zWd G arc ac ard av ad ate atv apr apv ahi aik ak awd apa aro am sg y D un brc bc brd bv bd bte btv bpr bpv bk bwd bpa bro bm) → va_S A s.heap H locs → lv_has ls 4 [(0, .ref b), (1, .ref (arc 0)), (2, .ref (am 0)), (3, .int (nI i))] → W p l e room_1 s m #[Value.ref b] below meth c H locs cells slots Q (F0 m 1116 ls [])) : W p l e room_1 s m #[Value.ref b] below meth c H locs cells slots Q (F0 m 390 ls []) := by
  obtain ⟨hx, hb, hml, hown, hts⟩ := id S
  obtain ⟨hD12, ⟨U, hun, hu9, hHis⟩, hdn, hRel, hcg, hSx, hSt, hImg, htp, hpp, hrw⟩ := id hI
  obtain ⟨hz1, hz2, hz5, hz6⟩ := zRel_hyps hRel
  have hz3 := zTape_len htp
  have hz4 := zTape_len9 htp
  have hz7 := zPap_len hpp
  have hz8 := zPap_len9 hpp
  have hz9 := zHis_un hHis hu9 hdn
  have hz10 := zRows_8 hrw
  have hz11 := zRows_9 hrw
  have hi1 : vp_in (nI i + 1) L := by rw [show (nI i + 1 : Int32) = nI (i + 1) from nI_add i 1]; exact vp_in_nI (by omega) (by omega)
  refine lv_aload_n hx hb dL_law_390 rfl (lv_at hl 1 rfl) ?_
  refine lv_aload_n hx hb dL_law_391 rfl (lv_at hl 0 rfl) ?_
  refine lv_iload_n hx hb dL_law_392 rfl (lv_at hl 3 rfl) ?_
  refine lv_iconst (v := 1) hx hb dL_law_393 (by decide) ?_
  refine lv_iadd hx hb dL_law_394 ?_
  refine va_sld hx hb hX hbl hbA hS hi1 dL_law_395 ?_
  obtain ⟨T, hT⟩ : ∃ z, FX8_feed (g7_tape bwd) (g7_length bwd) (xs (nI i + 1).toNatClampNeg) = z := ⟨_, rfl⟩
  obtain ⟨V, hV⟩ : ∃ z, FX9_feed (g9_tape bm) (g9_taped bm) (xs (nI i + 1).toNatClampNeg) = z := ⟨_, rfl⟩
  have hm := m_feed hI hT hV
  have hc := c_X8_feed l G arc awd (ac 0) (ard 0) (ad 0) (ate 0) (apr 0) (ahi 0) (ak 0) (apa 0) (aro 0) brc bwd (xs (nI i + 1).toNatClampNeg) hz3 _ hT
  refine zgoI (bs' := (zWd G arc ac ard av ad ate atv apr apv ahi aik ak awd apa aro am sg y D un brc bc brd bv bd bte btv bpr bpv bk (s7_length (s7_tape bwd T.2.1) T.2.2) bpa bro bm)) hc [0, 11] rfl rfl rfl hP hD hS hA (va_runV (As := [.int (xs (nI i + 1).toNatClampNeg)]) (rest := []) S (hc.2 _) (cwV 1 S.2.2.2.2 gL_law_X8_feed rfl rfl rfl (by decide +kernel) ⟨Nat.le_of_ble_eq_true rfl, Nat.le_of_ble_eq_true rfl⟩) (zpV hK hP hD (is := [0, 11]) rfl rfl 0 rfl rfl (ci := 8) rfl) rfl rfl hl.1 rfl (lv_room (Nat.le_of_ble_eq_true rfl)) dL_law_396 ⟨hcl, hsl⟩) (fun H locs hn1 hP hD hS => ?_)
  refine lv_aload_n hx hb dL_law_399 rfl (lv_at hl 2 rfl) ?_
  refine lv_aload_n hx hb dL_law_400 rfl (lv_at hl 0 rfl) ?_
  refine lv_iload_n hx hb dL_law_401 rfl (lv_at hl 3 rfl) ?_
  refine lv_iconst (v := 1) hx hb dL_law_402 (by decide) ?_
  refine lv_iadd hx hb dL_law_403 ?_
  refine va_sld hx hb hX hbl hbA hS hi1 dL_law_404 ?_
  have hc := c_X9_feed l G am bm (xs (nI i + 1).toNatClampNeg) hz4 _ hV
  refine zgoI (bs' := (zWd G arc ac ard av ad ate atv apr apv ahi aik ak awd apa aro am sg y D un brc bc brd bv bd bte btv bpr bpv bk (s7_length (s7_tape bwd T.2.1) T.2.2) bpa bro (s9_taped (s9_tape bm V.2.1) V.2.2))) hc [14] rfl rfl rfl hP hD hS hA (va_runV (As := [.int (xs (nI i + 1).toNatClampNeg)]) (rest := [.int T.1]) S (hc.2 _) (cwV 1 S.2.2.2.2 gL_law_X9_feed rfl rfl rfl (by decide +kernel) ⟨Nat.le_of_ble_eq_true rfl, Nat.le_of_ble_eq_true rfl⟩) (zpV hK hP hD (is := [14]) rfl rfl 14 rfl rfl (ci := 9) rfl) rfl rfl hl.1 rfl (lv_room (Nat.le_of_ble_eq_true rfl)) dL_law_405 ⟨hcl, hsl⟩) (fun H locs hn2 hP hD hS => ?_)
  refine lv_icmp_eq (tgt := 1116) hx hb dL_law_408 (by decide) (fun _ => ?_) (fun hne => absurd hm.1 hne)
  exact kk _ _ _ _ _ _ _ _ _ _ _ _ _ _ _ _ _ _ _ _ _ hm.2 hP hD hS hl
set_option maxHeartbeats 4000000 in
set_option maxRecDepth 100000 in
theorem wL_reads (S : CallFix p m c cL_law 4 s #[Value.ref b] wsL_law RL) (hX : va_X b L xs s s.heap) (hbl : b < s.heap.size) (hbA : ¬ A b) (hL : L ≤ 3072) (hi : i + 6 ≤ L) (hcl : cells ≤ room_1.cells) (hsl : slots ≤ room_1.slots) (hK : zK G s) (hU : zU A s) (hA : ∀ q, s.heap.size ≤ q → A q) {sg : Nat → Nat} {y : Nat → S0} {D : Nat} {un : Int32} {brc : S8} {bc : S0} {brd : S4} {bv : S6} {bd : S0} {bte : S4} {btv : S6} {bpr : S3} {bpv : S6} {bk : S0} {bwd : S7} {bpa : S2} {bro : S5} {bm : S9} (hI : zInv sg y D un brc bc brd bv bpr bk bwd bpa bro bm) (hP : zP G (zWd G arc ac ard av ad ate atv apr apv ahi aik ak awd apa aro am sg y D un brc bc brd bv bd bte btv bpr bpv bk bwd bpa bro bm) H) (hD : zD A (zWd G arc ac ard av ad ate atv apr apv ahi aik ak awd apa aro am sg y D un brc bc brd bv bd bte btv bpr bpv bk bwd bpa bro bm)) (hS : va_S A s.heap H locs) (hl : lv_has ls 4 [(0, .ref b), (1, .ref (arc 0)), (2, .ref (am 0)), (3, .int (nI i))]) (kk : ∀ (sg : Nat → Nat) (y : Nat → S0) (D : Nat) (un : Int32) (brc : S8) (bc : S0) (brd : S4) (bv : S6) (bd : S0) (bte : S4) (btv : S6) (bpr : S3) (bpv : S6) (bk : S0) (bwd : S7) (bpa : S2) (bro : S5) (bm : S9) (H : Heap) (locs : List Loc) (ls : Array Slot), zInv sg y D un brc bc brd bv bpr bk bwd bpa bro bm → zP G (zWd G arc ac ard av ad ate atv apr apv ahi aik ak awd apa aro am sg y D un brc bc brd bv bd bte btv bpr bpv bk bwd bpa bro bm) H → zD A (zWd G arc ac ard av ad ate atv apr apv ahi aik ak awd apa aro am sg y D un brc bc brd bv bd bte btv bpr bpv bk bwd bpa bro bm) → va_S A s.heap H locs → lv_has ls 4 [(0, .ref b), (1, .ref (arc 0)), (2, .ref (am 0)), (3, .int (nI i))] → W p l e room_1 s m #[Value.ref b] below meth c H locs cells slots Q (F0 m 1116 ls [])) : W p l e room_1 s m #[Value.ref b] below meth c H locs cells slots Q (F0 m 413 ls []) := by
  obtain ⟨hx, hb, hml, hown, hts⟩ := id S
  obtain ⟨hD12, ⟨U, hun, hu9, hHis⟩, hdn, hRel, hcg, hSx, hSt, hImg, htp, hpp, hrw⟩ := id hI
  obtain ⟨hz1, hz2, hz5, hz6⟩ := zRel_hyps hRel
  have hz3 := zTape_len htp
  have hz4 := zTape_len9 htp
  have hz7 := zPap_len hpp
  have hz8 := zPap_len9 hpp
  have hz9 := zHis_un hHis hu9 hdn
  have hz10 := zRows_8 hrw
  have hz11 := zRows_9 hrw
  refine lv_aload_n hx hb dL_law_413 rfl (lv_at hl 1 rfl) ?_
  obtain ⟨T, hT⟩ : ∃ z, FX8_reads (g8_isSettled brc) (g7_tape bwd) (g7_sort bwd) (g7_head bwd) (g7_body bwd) (g7_excepts bwd) (g7_power bwd) (g7_begins bwd) (g7_length bwd) (g7_at bwd) (g7_told bwd) (g0_kind bc) (g0_head bc) (g0_body bc) (g0_excepts bc) (g0_power bc) (g0_beats bc) (g0_facts bc) (g0_size bc) (g0_shut bc) (g0_kind bd) (g0_head bd) (g0_body bd) (g0_excepts bd) (g0_power bd) (g0_beats bd) (g0_facts bd) (g0_size bd) (g0_shut bd) sg y D un = z := ⟨_, rfl⟩
  obtain ⟨V, hV⟩ : ∃ z, FX9_reads (g9_facts bm) (g9_rules bm) (g9_kind bm) (g9_head bm) (g9_body bm) (g9_except bm) (g9_strength bm) (g9_off bm) (g9_over bm) (g9_change bm) (g9_done bm) (g9_undone bm) (g9_tape bm) (g9_taped bm) (g9_before bm) (g9_changeBefore bm) (g9_at bm) (g9_word bm) (g9_readHead bm) (g9_readBody bm) (g9_readExcept bm) (g9_readKind bm) (g9_readStrength bm) (g9_one bm) (g9_other bm) (g9_latest bm) = z := ⟨_, rfl⟩
  have hm := m_reads hI hT hV
  have hc := c_X8_reads l G arc awd ac ad ahi aik (ard 0) (ate 0) (apr 0) (ak 0) (apa 0) (aro 0) brc bwd bc bd sg y D un hz1 hz3 hHis.1 hD12 _ hT
  refine zgoI (bs' := (zWd G arc ac ard av ad ate atv apr apv ahi aik ak awd apa aro am (T.2.2.2.2.2.2.2.2.2.2.2.2.2.2.2.2.2.2.2.2.2.2.2.2.2.2.2.2.1) (T.2.2.2.2.2.2.2.2.2.2.2.2.2.2.2.2.2.2.2.2.2.2.2.2.2.2.2.2.2.1) (T.2.2.2.2.2.2.2.2.2.2.2.2.2.2.2.2.2.2.2.2.2.2.2.2.2.2.2.2.2.2.1) (T.2.2.2.2.2.2.2.2.2.2.2.2.2.2.2.2.2.2.2.2.2.2.2.2.2.2.2.2.2.2.2) (s8_isSettled brc T.2.1) (s0_size (s0_facts (s0_beats (s0_power (s0_excepts (s0_body (s0_head (s0_kind bc T.2.2.2.2.2.2.2.2.2.2.2.1) T.2.2.2.2.2.2.2.2.2.2.2.2.1) T.2.2.2.2.2.2.2.2.2.2.2.2.2.1) T.2.2.2.2.2.2.2.2.2.2.2.2.2.2.1) T.2.2.2.2.2.2.2.2.2.2.2.2.2.2.2.1) T.2.2.2.2.2.2.2.2.2.2.2.2.2.2.2.2.1) T.2.2.2.2.2.2.2.2.2.2.2.2.2.2.2.2.2.1) T.2.2.2.2.2.2.2.2.2.2.2.2.2.2.2.2.2.2.1) brd bv (s0_shut (s0_size (s0_facts (s0_beats (s0_power (s0_excepts (s0_body (s0_head (s0_kind bd T.2.2.2.2.2.2.2.2.2.2.2.2.2.2.2.2.2.2.2.1) T.2.2.2.2.2.2.2.2.2.2.2.2.2.2.2.2.2.2.2.2.1) T.2.2.2.2.2.2.2.2.2.2.2.2.2.2.2.2.2.2.2.2.2.1) T.2.2.2.2.2.2.2.2.2.2.2.2.2.2.2.2.2.2.2.2.2.2.1) T.2.2.2.2.2.2.2.2.2.2.2.2.2.2.2.2.2.2.2.2.2.2.2.1) T.2.2.2.2.2.2.2.2.2.2.2.2.2.2.2.2.2.2.2.2.2.2.2.2.1) T.2.2.2.2.2.2.2.2.2.2.2.2.2.2.2.2.2.2.2.2.2.2.2.2.2.1) T.2.2.2.2.2.2.2.2.2.2.2.2.2.2.2.2.2.2.2.2.2.2.2.2.2.2.1) T.2.2.2.2.2.2.2.2.2.2.2.2.2.2.2.2.2.2.2.2.2.2.2.2.2.2.2.1) bte btv bpr bpv bk (s7_told (s7_at (s7_length (s7_begins (s7_power (s7_excepts (s7_body (s7_head (s7_sort bwd T.2.2.1) T.2.2.2.1) T.2.2.2.2.1) T.2.2.2.2.2.1) T.2.2.2.2.2.2.1) T.2.2.2.2.2.2.2.1) T.2.2.2.2.2.2.2.2.1) T.2.2.2.2.2.2.2.2.2.1) T.2.2.2.2.2.2.2.2.2.2.1) bpa bro bm)) hc [0, 11, 1, 4, 9, 15, 16, 17, 18, 19, 20, 21, 22, 23, 24, 25, 26, 27] rfl rfl rfl hP hD hS hA (va_runV (As := []) (rest := []) S (hc.2 _) (cwV 0 S.2.2.2.2 gL_law_X8_reads rfl rfl rfl (by decide +kernel) ⟨Nat.le_of_ble_eq_true rfl, Nat.le_of_ble_eq_true rfl⟩) (zpV hK hP hD (is := [0, 11, 1, 4, 9, 15, 16, 17, 18, 19, 20, 21, 22, 23, 24, 25, 26, 27]) rfl rfl 0 rfl rfl (ci := 8) rfl) rfl rfl hl.1 rfl (lv_room (Nat.le_of_ble_eq_true rfl)) dL_law_414 ⟨hcl, hsl⟩) (fun H locs hn1 hP hD hS => ?_)
  refine lv_aload_n hx hb dL_law_417 rfl (lv_at hl 2 rfl) ?_
  have hc := c_X9_reads l G am bm hz4 ⟨D, hD12, hdn⟩ hz2 _ hV
  refine zgoI (bs' := (zWd G arc ac ard av ad ate atv apr apv ahi aik ak awd apa aro am (T.2.2.2.2.2.2.2.2.2.2.2.2.2.2.2.2.2.2.2.2.2.2.2.2.2.2.2.2.1) (T.2.2.2.2.2.2.2.2.2.2.2.2.2.2.2.2.2.2.2.2.2.2.2.2.2.2.2.2.2.1) (T.2.2.2.2.2.2.2.2.2.2.2.2.2.2.2.2.2.2.2.2.2.2.2.2.2.2.2.2.2.2.1) (T.2.2.2.2.2.2.2.2.2.2.2.2.2.2.2.2.2.2.2.2.2.2.2.2.2.2.2.2.2.2.2) (s8_isSettled brc T.2.1) (s0_size (s0_facts (s0_beats (s0_power (s0_excepts (s0_body (s0_head (s0_kind bc T.2.2.2.2.2.2.2.2.2.2.2.1) T.2.2.2.2.2.2.2.2.2.2.2.2.1) T.2.2.2.2.2.2.2.2.2.2.2.2.2.1) T.2.2.2.2.2.2.2.2.2.2.2.2.2.2.1) T.2.2.2.2.2.2.2.2.2.2.2.2.2.2.2.1) T.2.2.2.2.2.2.2.2.2.2.2.2.2.2.2.2.1) T.2.2.2.2.2.2.2.2.2.2.2.2.2.2.2.2.2.1) T.2.2.2.2.2.2.2.2.2.2.2.2.2.2.2.2.2.2.1) brd bv (s0_shut (s0_size (s0_facts (s0_beats (s0_power (s0_excepts (s0_body (s0_head (s0_kind bd T.2.2.2.2.2.2.2.2.2.2.2.2.2.2.2.2.2.2.2.1) T.2.2.2.2.2.2.2.2.2.2.2.2.2.2.2.2.2.2.2.2.1) T.2.2.2.2.2.2.2.2.2.2.2.2.2.2.2.2.2.2.2.2.2.1) T.2.2.2.2.2.2.2.2.2.2.2.2.2.2.2.2.2.2.2.2.2.2.1) T.2.2.2.2.2.2.2.2.2.2.2.2.2.2.2.2.2.2.2.2.2.2.2.1) T.2.2.2.2.2.2.2.2.2.2.2.2.2.2.2.2.2.2.2.2.2.2.2.2.1) T.2.2.2.2.2.2.2.2.2.2.2.2.2.2.2.2.2.2.2.2.2.2.2.2.2.1) T.2.2.2.2.2.2.2.2.2.2.2.2.2.2.2.2.2.2.2.2.2.2.2.2.2.2.1) T.2.2.2.2.2.2.2.2.2.2.2.2.2.2.2.2.2.2.2.2.2.2.2.2.2.2.2.1) bte btv bpr bpv bk (s7_told (s7_at (s7_length (s7_begins (s7_power (s7_excepts (s7_body (s7_head (s7_sort bwd T.2.2.1) T.2.2.2.1) T.2.2.2.2.1) T.2.2.2.2.2.1) T.2.2.2.2.2.2.1) T.2.2.2.2.2.2.2.1) T.2.2.2.2.2.2.2.2.1) T.2.2.2.2.2.2.2.2.2.1) T.2.2.2.2.2.2.2.2.2.2.1) bpa bro (s9_latest (s9_other (s9_one (s9_readStrength (s9_readKind (s9_readExcept (s9_readBody (s9_readHead (s9_word (s9_at (s9_changeBefore (s9_before (s9_taped (s9_undone (s9_done (s9_change (s9_over (s9_off (s9_strength (s9_except (s9_body (s9_head (s9_kind (s9_rules (s9_facts bm V.2.1) V.2.2.1) V.2.2.2.1) V.2.2.2.2.1) V.2.2.2.2.2.1) V.2.2.2.2.2.2.1) V.2.2.2.2.2.2.2.1) V.2.2.2.2.2.2.2.2.1) V.2.2.2.2.2.2.2.2.2.1) V.2.2.2.2.2.2.2.2.2.2.1) V.2.2.2.2.2.2.2.2.2.2.2.1) V.2.2.2.2.2.2.2.2.2.2.2.2.1) V.2.2.2.2.2.2.2.2.2.2.2.2.2.1) V.2.2.2.2.2.2.2.2.2.2.2.2.2.2.1) V.2.2.2.2.2.2.2.2.2.2.2.2.2.2.2.1) V.2.2.2.2.2.2.2.2.2.2.2.2.2.2.2.2.1) V.2.2.2.2.2.2.2.2.2.2.2.2.2.2.2.2.2.1) V.2.2.2.2.2.2.2.2.2.2.2.2.2.2.2.2.2.2.1) V.2.2.2.2.2.2.2.2.2.2.2.2.2.2.2.2.2.2.2.1) V.2.2.2.2.2.2.2.2.2.2.2.2.2.2.2.2.2.2.2.2.1) V.2.2.2.2.2.2.2.2.2.2.2.2.2.2.2.2.2.2.2.2.2.1) V.2.2.2.2.2.2.2.2.2.2.2.2.2.2.2.2.2.2.2.2.2.2.1) V.2.2.2.2.2.2.2.2.2.2.2.2.2.2.2.2.2.2.2.2.2.2.2.1) V.2.2.2.2.2.2.2.2.2.2.2.2.2.2.2.2.2.2.2.2.2.2.2.2.1) V.2.2.2.2.2.2.2.2.2.2.2.2.2.2.2.2.2.2.2.2.2.2.2.2.2))) hc [14] rfl rfl rfl hP hD hS hA (va_runV (As := []) (rest := [.int T.1]) S (hc.2 _) (cwV 0 S.2.2.2.2 gL_law_X9_reads rfl rfl rfl (by decide +kernel) ⟨Nat.le_of_ble_eq_true rfl, Nat.le_of_ble_eq_true rfl⟩) (zpV hK hP hD (is := [14]) rfl rfl 14 rfl rfl (ci := 9) rfl) rfl rfl hl.1 rfl (lv_room (Nat.le_of_ble_eq_true rfl)) dL_law_418 ⟨hcl, hsl⟩) (fun H locs hn2 hP hD hS => ?_)
  refine lv_icmp_eq (tgt := 1116) hx hb dL_law_421 (by decide) (fun _ => ?_) (fun hne => absurd hm.1 hne)
  exact kk _ _ _ _ _ _ _ _ _ _ _ _ _ _ _ _ _ _ _ _ _ hm.2 hP hD hS hl
set_option maxHeartbeats 4000000 in
set_option maxRecDepth 100000 in
theorem wL_ruleOf (S : CallFix p m c cL_law 4 s #[Value.ref b] wsL_law RL) (hX : va_X b L xs s s.heap) (hbl : b < s.heap.size) (hbA : ¬ A b) (hL : L ≤ 3072) (hi : i + 6 ≤ L) (hcl : cells ≤ room_1.cells) (hsl : slots ≤ room_1.slots) (hK : zK G s) (hU : zU A s) (hA : ∀ q, s.heap.size ≤ q → A q) {sg : Nat → Nat} {y : Nat → S0} {D : Nat} {un : Int32} {brc : S8} {bc : S0} {brd : S4} {bv : S6} {bd : S0} {bte : S4} {btv : S6} {bpr : S3} {bpv : S6} {bk : S0} {bwd : S7} {bpa : S2} {bro : S5} {bm : S9} (hI : zInv sg y D un brc bc brd bv bpr bk bwd bpa bro bm) (hP : zP G (zWd G arc ac ard av ad ate atv apr apv ahi aik ak awd apa aro am sg y D un brc bc brd bv bd bte btv bpr bpv bk bwd bpa bro bm) H) (hD : zD A (zWd G arc ac ard av ad ate atv apr apv ahi aik ak awd apa aro am sg y D un brc bc brd bv bd bte btv bpr bpv bk bwd bpa bro bm)) (hS : va_S A s.heap H locs) (hl : lv_has ls 4 [(0, .ref b), (1, .ref (arc 0)), (2, .ref (am 0)), (3, .int (nI i))]) (kk : ∀ (sg : Nat → Nat) (y : Nat → S0) (D : Nat) (un : Int32) (brc : S8) (bc : S0) (brd : S4) (bv : S6) (bd : S0) (bte : S4) (btv : S6) (bpr : S3) (bpv : S6) (bk : S0) (bwd : S7) (bpa : S2) (bro : S5) (bm : S9) (H : Heap) (locs : List Loc) (ls : Array Slot), zInv sg y D un brc bc brd bv bpr bk bwd bpa bro bm → zP G (zWd G arc ac ard av ad ate atv apr apv ahi aik ak awd apa aro am sg y D un brc bc brd bv bd bte btv bpr bpv bk bwd bpa bro bm) H → zD A (zWd G arc ac ard av ad ate atv apr apv ahi aik ak awd apa aro am sg y D un brc bc brd bv bd bte btv bpr bpv bk bwd bpa bro bm) → va_S A s.heap H locs → lv_has ls 4 [(0, .ref b), (1, .ref (arc 0)), (2, .ref (am 0)), (3, .int (nI i))] → W p l e room_1 s m #[Value.ref b] below meth c H locs cells slots Q (F0 m 1116 ls [])) : W p l e room_1 s m #[Value.ref b] below meth c H locs cells slots Q (F0 m 426 ls []) := by
  obtain ⟨hx, hb, hml, hown, hts⟩ := id S
  obtain ⟨hD12, ⟨U, hun, hu9, hHis⟩, hdn, hRel, hcg, hSx, hSt, hImg, htp, hpp, hrw⟩ := id hI
  obtain ⟨hz1, hz2, hz5, hz6⟩ := zRel_hyps hRel
  have hz3 := zTape_len htp
  have hz4 := zTape_len9 htp
  have hz7 := zPap_len hpp
  have hz8 := zPap_len9 hpp
  have hz9 := zHis_un hHis hu9 hdn
  have hz10 := zRows_8 hrw
  have hz11 := zRows_9 hrw
  have hi1 : vp_in (nI i + 1) L := by rw [show (nI i + 1 : Int32) = nI (i + 1) from nI_add i 1]; exact vp_in_nI (by omega) (by omega)
  have hi2 : vp_in (nI i + 2) L := by rw [show (nI i + 2 : Int32) = nI (i + 2) from nI_add i 2]; exact vp_in_nI (by omega) (by omega)
  refine lv_aload_n hx hb dL_law_426 rfl (lv_at hl 1 rfl) ?_
  refine lv_aload_n hx hb dL_law_427 rfl (lv_at hl 0 rfl) ?_
  refine lv_iload_n hx hb dL_law_428 rfl (lv_at hl 3 rfl) ?_
  refine lv_iconst (v := 1) hx hb dL_law_429 (by decide) ?_
  refine lv_iadd hx hb dL_law_430 ?_
  refine va_sld hx hb hX hbl hbA hS hi1 dL_law_431 ?_
  refine lv_aload_n hx hb dL_law_432 rfl (lv_at hl 0 rfl) ?_
  refine lv_iload_n hx hb dL_law_433 rfl (lv_at hl 3 rfl) ?_
  refine lv_iconst (v := 2) hx hb dL_law_434 (by decide) ?_
  refine lv_iadd hx hb dL_law_435 ?_
  refine va_sld hx hb hX hbl hbA hS hi2 dL_law_436 ?_
  obtain ⟨T, hT⟩ : ∃ z, FX8_ruleOf (g0_kind bc) (g0_head bc) (g0_body bc) (g0_excepts bc) (g0_power bc) (g0_beats bc) (g0_size bc) (g0_shut bc) (xs (nI i + 1).toNatClampNeg) (xs (nI i + 2).toNatClampNeg) = z := ⟨_, rfl⟩
  obtain ⟨V, hV⟩ : ∃ z, FX9_ruleOf (g9_rules bm) (g9_kind bm) (g9_head bm) (g9_body bm) (g9_except bm) (g9_strength bm) (g9_off bm) (g9_over bm) (xs (nI i + 1).toNatClampNeg) (xs (nI i + 2).toNatClampNeg) = z := ⟨_, rfl⟩
  have hm := m_ruleOf hI hT hV
  have hc := c_X8_ruleOf l G arc ac (ard 0) (ad 0) (ate 0) (apr 0) (ahi 0) (ak 0) (awd 0) (apa 0) (aro 0) brc bc (xs (nI i + 1).toNatClampNeg) (xs (nI i + 2).toNatClampNeg) hz1 _ hT
  refine zgoR (va_runV (As := [.int (xs (nI i + 1).toNatClampNeg), .int (xs (nI i + 2).toNatClampNeg)]) (rest := []) S (hc _) (cwV 2 S.2.2.2.2 gL_law_X8_ruleOf rfl rfl rfl (by decide +kernel) ⟨Nat.le_of_ble_eq_true rfl, Nat.le_of_ble_eq_true rfl⟩) (zpV hK hP hD (is := [0, 1]) rfl rfl 0 rfl rfl (ci := 8) rfl) rfl rfl hl.1 rfl (lv_room (Nat.le_of_ble_eq_true rfl)) dL_law_437 ⟨hcl, hsl⟩) (fun hn1 => ?_)
  refine lv_aload_n hx hb dL_law_440 rfl (lv_at hl 2 rfl) ?_
  refine lv_aload_n hx hb dL_law_441 rfl (lv_at hl 0 rfl) ?_
  refine lv_iload_n hx hb dL_law_442 rfl (lv_at hl 3 rfl) ?_
  refine lv_iconst (v := 1) hx hb dL_law_443 (by decide) ?_
  refine lv_iadd hx hb dL_law_444 ?_
  refine va_sld hx hb hX hbl hbA hS hi1 dL_law_445 ?_
  refine lv_aload_n hx hb dL_law_446 rfl (lv_at hl 0 rfl) ?_
  refine lv_iload_n hx hb dL_law_447 rfl (lv_at hl 3 rfl) ?_
  refine lv_iconst (v := 2) hx hb dL_law_448 (by decide) ?_
  refine lv_iadd hx hb dL_law_449 ?_
  refine va_sld hx hb hX hbl hbA hS hi2 dL_law_450 ?_
  have hc := c_X9_ruleOf l G am bm (xs (nI i + 1).toNatClampNeg) (xs (nI i + 2).toNatClampNeg) hz2 _ hV
  refine zgoR (va_runV (As := [.int (xs (nI i + 1).toNatClampNeg), .int (xs (nI i + 2).toNatClampNeg)]) (rest := [.int T]) S (hc _) (cwV 2 S.2.2.2.2 gL_law_X9_ruleOf rfl rfl rfl (by decide +kernel) ⟨Nat.le_of_ble_eq_true rfl, Nat.le_of_ble_eq_true rfl⟩) (zpV hK hP hD (is := [14]) rfl rfl 14 rfl rfl (ci := 9) rfl) rfl rfl hl.1 rfl (lv_room (Nat.le_of_ble_eq_true rfl)) dL_law_451 ⟨hcl, hsl⟩) (fun hn2 => ?_)
  refine lv_icmp_eq (tgt := 1116) hx hb dL_law_454 (by decide) (fun _ => ?_) (fun hne => absurd hm hne)
  exact kk _ _ _ _ _ _ _ _ _ _ _ _ _ _ _ _ _ _ _ _ _ hI hP hD hS hl
set_option maxHeartbeats 4000000 in
set_option maxRecDepth 100000 in
theorem wL_rulesFor (S : CallFix p m c cL_law 4 s #[Value.ref b] wsL_law RL) (hX : va_X b L xs s s.heap) (hbl : b < s.heap.size) (hbA : ¬ A b) (hL : L ≤ 3072) (hi : i + 6 ≤ L) (hcl : cells ≤ room_1.cells) (hsl : slots ≤ room_1.slots) (hK : zK G s) (hU : zU A s) (hA : ∀ q, s.heap.size ≤ q → A q) {sg : Nat → Nat} {y : Nat → S0} {D : Nat} {un : Int32} {brc : S8} {bc : S0} {brd : S4} {bv : S6} {bd : S0} {bte : S4} {btv : S6} {bpr : S3} {bpv : S6} {bk : S0} {bwd : S7} {bpa : S2} {bro : S5} {bm : S9} (hI : zInv sg y D un brc bc brd bv bpr bk bwd bpa bro bm) (hP : zP G (zWd G arc ac ard av ad ate atv apr apv ahi aik ak awd apa aro am sg y D un brc bc brd bv bd bte btv bpr bpv bk bwd bpa bro bm) H) (hD : zD A (zWd G arc ac ard av ad ate atv apr apv ahi aik ak awd apa aro am sg y D un brc bc brd bv bd bte btv bpr bpv bk bwd bpa bro bm)) (hS : va_S A s.heap H locs) (hl : lv_has ls 4 [(0, .ref b), (1, .ref (arc 0)), (2, .ref (am 0)), (3, .int (nI i))]) (kk : ∀ (sg : Nat → Nat) (y : Nat → S0) (D : Nat) (un : Int32) (brc : S8) (bc : S0) (brd : S4) (bv : S6) (bd : S0) (bte : S4) (btv : S6) (bpr : S3) (bpv : S6) (bk : S0) (bwd : S7) (bpa : S2) (bro : S5) (bm : S9) (H : Heap) (locs : List Loc) (ls : Array Slot), zInv sg y D un brc bc brd bv bpr bk bwd bpa bro bm → zP G (zWd G arc ac ard av ad ate atv apr apv ahi aik ak awd apa aro am sg y D un brc bc brd bv bd bte btv bpr bpv bk bwd bpa bro bm) H → zD A (zWd G arc ac ard av ad ate atv apr apv ahi aik ak awd apa aro am sg y D un brc bc brd bv bd bte btv bpr bpv bk bwd bpa bro bm) → va_S A s.heap H locs → lv_has ls 4 [(0, .ref b), (1, .ref (arc 0)), (2, .ref (am 0)), (3, .int (nI i))] → W p l e room_1 s m #[Value.ref b] below meth c H locs cells slots Q (F0 m 1116 ls [])) : W p l e room_1 s m #[Value.ref b] below meth c H locs cells slots Q (F0 m 459 ls []) := by
  obtain ⟨hx, hb, hml, hown, hts⟩ := id S
  obtain ⟨hD12, ⟨U, hun, hu9, hHis⟩, hdn, hRel, hcg, hSx, hSt, hImg, htp, hpp, hrw⟩ := id hI
  obtain ⟨hz1, hz2, hz5, hz6⟩ := zRel_hyps hRel
  have hz3 := zTape_len htp
  have hz4 := zTape_len9 htp
  have hz7 := zPap_len hpp
  have hz8 := zPap_len9 hpp
  have hz9 := zHis_un hHis hu9 hdn
  have hz10 := zRows_8 hrw
  have hz11 := zRows_9 hrw
  have hi1 : vp_in (nI i + 1) L := by rw [show (nI i + 1 : Int32) = nI (i + 1) from nI_add i 1]; exact vp_in_nI (by omega) (by omega)
  refine lv_aload_n hx hb dL_law_459 rfl (lv_at hl 1 rfl) ?_
  refine lv_aload_n hx hb dL_law_460 rfl (lv_at hl 0 rfl) ?_
  refine lv_iload_n hx hb dL_law_461 rfl (lv_at hl 3 rfl) ?_
  refine lv_iconst (v := 1) hx hb dL_law_462 (by decide) ?_
  refine lv_iadd hx hb dL_law_463 ?_
  refine va_sld hx hb hX hbl hbA hS hi1 dL_law_464 ?_
  obtain ⟨T, hT⟩ : ∃ z, FX8_rulesFor (g8_isSettled brc) (g0_kind bc) (g0_head bc) (g0_body bc) (g0_excepts bc) (g0_power bc) (g0_beats bc) (g0_facts bc) (g0_size bc) (g0_shut bc) (g4_came brd) (g4_last brd) (g6_known bv) (g6_fresh bv) (g6_strictFor bv) (g6_forwardFor bv) (g6_allFor bv) (g6_above bv) (g6_facts bv) (g6_applies bv) (g6_falls bv) (g6_sureBodies bv) (g6_neverBodies bv) (xs (nI i + 1).toNatClampNeg) = z := ⟨_, rfl⟩
  obtain ⟨V, hV⟩ : ∃ z, FX9_rulesFor (g9_rules bm) (g9_head bm) (g9_off bm) (xs (nI i + 1).toNatClampNeg) = z := ⟨_, rfl⟩
  have hm := m_rulesFor hI hT hV
  have hc := c_X8_rulesFor l G arc ac ard av (ad 0) (ate 0) (apr 0) (ahi 0) (ak 0) (awd 0) (apa 0) (aro 0) brc bc brd bv (xs (nI i + 1).toNatClampNeg) hz5 hz1 _ hT
  refine zgoI (bs' := (zWd G arc ac ard av ad ate atv apr apv ahi aik ak awd apa aro am sg y D un (s8_isSettled brc T.2.1) bc (s4_last (s4_came brd T.2.2.1) T.2.2.2.1) (s6_neverBodies (s6_sureBodies (s6_falls (s6_applies (s6_facts (s6_above (s6_allFor (s6_forwardFor (s6_strictFor (s6_fresh (s6_known bv T.2.2.2.2.1) T.2.2.2.2.2.1) T.2.2.2.2.2.2.1) T.2.2.2.2.2.2.2.1) T.2.2.2.2.2.2.2.2.1) T.2.2.2.2.2.2.2.2.2.1) T.2.2.2.2.2.2.2.2.2.2.1) T.2.2.2.2.2.2.2.2.2.2.2.1) T.2.2.2.2.2.2.2.2.2.2.2.2.1) T.2.2.2.2.2.2.2.2.2.2.2.2.2.1) T.2.2.2.2.2.2.2.2.2.2.2.2.2.2) bd bte btv bpr bpv bk bwd bpa bro bm)) hc [0, 1, 2, 3] rfl rfl rfl hP hD hS hA (va_runV (As := [.int (xs (nI i + 1).toNatClampNeg)]) (rest := []) S (hc.2 _) (cwV 1 S.2.2.2.2 gL_law_X8_rulesFor rfl rfl rfl (by decide +kernel) ⟨Nat.le_of_ble_eq_true rfl, Nat.le_of_ble_eq_true rfl⟩) (zpV hK hP hD (is := [0, 1, 2, 3]) rfl rfl 0 rfl rfl (ci := 8) rfl) rfl rfl hl.1 rfl (lv_room (Nat.le_of_ble_eq_true rfl)) dL_law_465 ⟨hcl, hsl⟩) (fun H locs hn1 hP hD hS => ?_)
  refine lv_aload_n hx hb dL_law_468 rfl (lv_at hl 2 rfl) ?_
  refine lv_aload_n hx hb dL_law_469 rfl (lv_at hl 0 rfl) ?_
  refine lv_iload_n hx hb dL_law_470 rfl (lv_at hl 3 rfl) ?_
  refine lv_iconst (v := 1) hx hb dL_law_471 (by decide) ?_
  refine lv_iadd hx hb dL_law_472 ?_
  refine va_sld hx hb hX hbl hbA hS hi1 dL_law_473 ?_
  have hc := c_X9_rulesFor l G am bm (xs (nI i + 1).toNatClampNeg) hz2 _ hV
  refine zgoR (va_runV (As := [.int (xs (nI i + 1).toNatClampNeg)]) (rest := [.int T.1]) S (hc _) (cwV 1 S.2.2.2.2 gL_law_X9_rulesFor rfl rfl rfl (by decide +kernel) ⟨Nat.le_of_ble_eq_true rfl, Nat.le_of_ble_eq_true rfl⟩) (zpV hK hP hD (is := [14]) rfl rfl 14 rfl rfl (ci := 9) rfl) rfl rfl hl.1 rfl (lv_room (Nat.le_of_ble_eq_true rfl)) dL_law_474 ⟨hcl, hsl⟩) (fun hn2 => ?_)
  refine lv_icmp_eq (tgt := 1116) hx hb dL_law_477 (by decide) (fun _ => ?_) (fun hne => absurd hm.1 hne)
  exact kk _ _ _ _ _ _ _ _ _ _ _ _ _ _ _ _ _ _ _ _ _ hm.2 hP hD hS hl
set_option maxHeartbeats 4000000 in
set_option maxRecDepth 100000 in
theorem wL_count (S : CallFix p m c cL_law 4 s #[Value.ref b] wsL_law RL) (hX : va_X b L xs s s.heap) (hbl : b < s.heap.size) (hbA : ¬ A b) (hL : L ≤ 3072) (hi : i + 6 ≤ L) (hcl : cells ≤ room_1.cells) (hsl : slots ≤ room_1.slots) (hK : zK G s) (hU : zU A s) (hA : ∀ q, s.heap.size ≤ q → A q) {sg : Nat → Nat} {y : Nat → S0} {D : Nat} {un : Int32} {brc : S8} {bc : S0} {brd : S4} {bv : S6} {bd : S0} {bte : S4} {btv : S6} {bpr : S3} {bpv : S6} {bk : S0} {bwd : S7} {bpa : S2} {bro : S5} {bm : S9} (hI : zInv sg y D un brc bc brd bv bpr bk bwd bpa bro bm) (hP : zP G (zWd G arc ac ard av ad ate atv apr apv ahi aik ak awd apa aro am sg y D un brc bc brd bv bd bte btv bpr bpv bk bwd bpa bro bm) H) (hD : zD A (zWd G arc ac ard av ad ate atv apr apv ahi aik ak awd apa aro am sg y D un brc bc brd bv bd bte btv bpr bpv bk bwd bpa bro bm)) (hS : va_S A s.heap H locs) (hl : lv_has ls 4 [(0, .ref b), (1, .ref (arc 0)), (2, .ref (am 0)), (3, .int (nI i))]) (kk : ∀ (sg : Nat → Nat) (y : Nat → S0) (D : Nat) (un : Int32) (brc : S8) (bc : S0) (brd : S4) (bv : S6) (bd : S0) (bte : S4) (btv : S6) (bpr : S3) (bpv : S6) (bk : S0) (bwd : S7) (bpa : S2) (bro : S5) (bm : S9) (H : Heap) (locs : List Loc) (ls : Array Slot), zInv sg y D un brc bc brd bv bpr bk bwd bpa bro bm → zP G (zWd G arc ac ard av ad ate atv apr apv ahi aik ak awd apa aro am sg y D un brc bc brd bv bd bte btv bpr bpv bk bwd bpa bro bm) H → zD A (zWd G arc ac ard av ad ate atv apr apv ahi aik ak awd apa aro am sg y D un brc bc brd bv bd bte btv bpr bpv bk bwd bpa bro bm) → va_S A s.heap H locs → lv_has ls 4 [(0, .ref b), (1, .ref (arc 0)), (2, .ref (am 0)), (3, .int (nI i))] → W p l e room_1 s m #[Value.ref b] below meth c H locs cells slots Q (F0 m 1116 ls [])) : W p l e room_1 s m #[Value.ref b] below meth c H locs cells slots Q (F0 m 482 ls []) := by
  obtain ⟨hx, hb, hml, hown, hts⟩ := id S
  obtain ⟨hD12, ⟨U, hun, hu9, hHis⟩, hdn, hRel, hcg, hSx, hSt, hImg, htp, hpp, hrw⟩ := id hI
  obtain ⟨hz1, hz2, hz5, hz6⟩ := zRel_hyps hRel
  have hz3 := zTape_len htp
  have hz4 := zTape_len9 htp
  have hz7 := zPap_len hpp
  have hz8 := zPap_len9 hpp
  have hz9 := zHis_un hHis hu9 hdn
  have hz10 := zRows_8 hrw
  have hz11 := zRows_9 hrw
  have hi1 : vp_in (nI i + 1) L := by rw [show (nI i + 1 : Int32) = nI (i + 1) from nI_add i 1]; exact vp_in_nI (by omega) (by omega)
  refine lv_aload_n hx hb dL_law_482 rfl (lv_at hl 1 rfl) ?_
  refine lv_aload_n hx hb dL_law_483 rfl (lv_at hl 0 rfl) ?_
  refine lv_iload_n hx hb dL_law_484 rfl (lv_at hl 3 rfl) ?_
  refine lv_iconst (v := 1) hx hb dL_law_485 (by decide) ?_
  refine lv_iadd hx hb dL_law_486 ?_
  refine va_sld hx hb hX hbl hbA hS hi1 dL_law_487 ?_
  obtain ⟨T, hT⟩ : ∃ z, FX8_count (g8_isSettled brc) (g0_kind bc) (g0_head bc) (g0_body bc) (g0_excepts bc) (g0_power bc) (g0_beats bc) (g0_facts bc) (g0_size bc) (g0_shut bc) (g4_came brd) (g4_last brd) (g6_known bv) (g6_fresh bv) (g6_strictFor bv) (g6_forwardFor bv) (g6_allFor bv) (g6_above bv) (g6_reach bv) (g6_facts bv) (g6_applies bv) (g6_falls bv) (g6_sureBodies bv) (g6_neverBodies bv) (g7_length bwd) (g2_length bpa) D un (xs (nI i + 1).toNatClampNeg) = z := ⟨_, rfl⟩
  obtain ⟨V, hV⟩ : ∃ z, FX9_count (g9_facts bm) (g9_rules bm) (g9_kind bm) (g9_head bm) (g9_body bm) (g9_except bm) (g9_strength bm) (g9_off bm) (g9_over bm) (g9_done bm) (g9_undone bm) (g9_taped bm) (g9_papers bm) (g9_reached bm) (g9_came bm) (g9_known bm) (g9_fresh bm) (g9_rounds bm) (xs (nI i + 1).toNatClampNeg) = z := ⟨_, rfl⟩
  have hm := m_count hI hT hV
  have hc := c_X8_count l G arc ac ard av awd apa ahi aik (ad 0) (ate 0) (apr 0) (ak 0) (aro 0) brc bc brd bv bwd bpa sg y D un (xs (nI i + 1).toNatClampNeg) hz5 hz1 _ hT
  refine zgoI (bs' := (zWd G arc ac ard av ad ate atv apr apv ahi aik ak awd apa aro am sg y (D) un (s8_isSettled brc T.2.1) bc (s4_last (s4_came brd T.2.2.1) T.2.2.2.1) (s6_neverBodies (s6_sureBodies (s6_falls (s6_applies (s6_facts (s6_reach (s6_above (s6_allFor (s6_forwardFor (s6_strictFor (s6_fresh (s6_known bv T.2.2.2.2.1) T.2.2.2.2.2.1) T.2.2.2.2.2.2.1) T.2.2.2.2.2.2.2.1) T.2.2.2.2.2.2.2.2.1) T.2.2.2.2.2.2.2.2.2.1) T.2.2.2.2.2.2.2.2.2.2.1) T.2.2.2.2.2.2.2.2.2.2.2.1) T.2.2.2.2.2.2.2.2.2.2.2.2.1) T.2.2.2.2.2.2.2.2.2.2.2.2.2.1) T.2.2.2.2.2.2.2.2.2.2.2.2.2.2.1) T.2.2.2.2.2.2.2.2.2.2.2.2.2.2.2) bd bte btv bpr bpv bk bwd bpa bro bm)) hc [0, 1, 2, 3, 11, 12, 9, 15, 16, 17, 18, 19, 20, 21, 22, 23, 24, 25, 26, 27] rfl rfl rfl hP hD hS hA (va_runV (As := [.int (xs (nI i + 1).toNatClampNeg)]) (rest := []) S (hc.2 _) (cwV 1 S.2.2.2.2 gL_law_X8_count rfl rfl rfl (by decide +kernel) ⟨Nat.le_of_ble_eq_true rfl, Nat.le_of_ble_eq_true rfl⟩) (zpV hK hP hD (is := [0, 1, 2, 3, 11, 12, 9, 15, 16, 17, 18, 19, 20, 21, 22, 23, 24, 25, 26, 27]) rfl rfl 0 rfl rfl (ci := 8) rfl) rfl rfl hl.1 rfl (lv_room (Nat.le_of_ble_eq_true rfl)) dL_law_488 ⟨hcl, hsl⟩) (fun H locs hn1 hP hD hS => ?_)
  refine lv_aload_n hx hb dL_law_491 rfl (lv_at hl 2 rfl) ?_
  refine lv_aload_n hx hb dL_law_492 rfl (lv_at hl 0 rfl) ?_
  refine lv_iload_n hx hb dL_law_493 rfl (lv_at hl 3 rfl) ?_
  refine lv_iconst (v := 1) hx hb dL_law_494 (by decide) ?_
  refine lv_iadd hx hb dL_law_495 ?_
  refine va_sld hx hb hX hbl hbA hS hi1 dL_law_496 ?_
  have hc := c_X9_count l G am bm (xs (nI i + 1).toNatClampNeg) hz2 _ hV
  refine zgoI (bs' := (zWd G arc ac ard av ad ate atv apr apv ahi aik ak awd apa aro am sg y (D) un (s8_isSettled brc T.2.1) bc (s4_last (s4_came brd T.2.2.1) T.2.2.2.1) (s6_neverBodies (s6_sureBodies (s6_falls (s6_applies (s6_facts (s6_reach (s6_above (s6_allFor (s6_forwardFor (s6_strictFor (s6_fresh (s6_known bv T.2.2.2.2.1) T.2.2.2.2.2.1) T.2.2.2.2.2.2.1) T.2.2.2.2.2.2.2.1) T.2.2.2.2.2.2.2.2.1) T.2.2.2.2.2.2.2.2.2.1) T.2.2.2.2.2.2.2.2.2.2.1) T.2.2.2.2.2.2.2.2.2.2.2.1) T.2.2.2.2.2.2.2.2.2.2.2.2.1) T.2.2.2.2.2.2.2.2.2.2.2.2.2.1) T.2.2.2.2.2.2.2.2.2.2.2.2.2.2.1) T.2.2.2.2.2.2.2.2.2.2.2.2.2.2.2) bd bte btv bpr bpv bk bwd bpa bro (s9_rounds (s9_fresh (s9_known (s9_came (s9_reached bm V.2.1) V.2.2.1) V.2.2.2.1) V.2.2.2.2.1) V.2.2.2.2.2))) hc [14] rfl rfl rfl hP hD hS hA (va_runV (As := [.int (xs (nI i + 1).toNatClampNeg)]) (rest := [.int T.1]) S (hc.2 _) (cwV 1 S.2.2.2.2 gL_law_X9_count rfl rfl rfl (by decide +kernel) ⟨Nat.le_of_ble_eq_true rfl, Nat.le_of_ble_eq_true rfl⟩) (zpV hK hP hD (is := [14]) rfl rfl 14 rfl rfl (ci := 9) rfl) rfl rfl hl.1 rfl (lv_room (Nat.le_of_ble_eq_true rfl)) dL_law_497 ⟨hcl, hsl⟩) (fun H locs hn2 hP hD hS => ?_)
  refine lv_icmp_eq (tgt := 1116) hx hb dL_law_500 (by decide) (fun _ => ?_) (fun hne => absurd hm.1 hne)
  exact kk _ _ _ _ _ _ _ _ _ _ _ _ _ _ _ _ _ _ _ _ _ hm.2 hP hD hS hl
end ZWL1
