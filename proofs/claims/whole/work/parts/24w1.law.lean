/-! the law's calls -/
abbrev zWd (G : zG) (arc ac ard av ad ate atv apr apv ahi : Nat → Nat) (aik : Nat → Nat → Nat) (ak awd apa aro am : Nat → Nat) (sg : Nat → Nat) (y : Nat → S0) (D : Nat) (un : Int32) (brc : S8) (bc : S0) (brd : S4) (bv : S6) (bd : S0) (bte : S4) (btv : S6) (bpr : S3) (bpv : S6) (bk : S0) (bwd : S7) (bpa : S2) (bro : S5) (bm : S9) : zB := w8 G arc (ac 0) (ard 0) (ad 0) (ate 0) (apr 0) (ahi 0) (ak 0) (awd 0) (apa 0) (aro 0) brc :: w0 G ac bc :: w4 G ard (av 0) brd :: w6 G av bv :: w0 G ad bd :: w4 G ate (atv 0) bte :: w6 G atv btv :: w3 G apr (apv 0) bpr :: w6 G apv bpv :: w1 G ahi aik sg (nI D) un :: w0 G ak bk :: w7 G awd bwd :: w2 G apa bpa :: w5 G aro bro :: w9 G am bm :: hcs G aik y
theorem lc_refl (x : Int64) : lg_cmp x x = 0 := by
  have h : ¬ x < x := Int64.lt_irrefl
  simp [lg_cmp, h]
theorem zRel_hyps {C : S0} {bm : S9} (h : zRel C (zR9 bm)) : (∃ N : Nat, N ≤ 16 ∧ g0_size C = nI N) ∧ (∃ N : Nat, N ≤ 16 ∧ g9_rules bm = nI N) ∧ (∀ r : Nat, r < 16 → vp_in (g0_head C r) 20) ∧ (∀ r : Nat, r < 16 → vp_in (g0_kind C r) 3) := by
  obtain ⟨N, hN, h1, h2, h3, h4, h5, h6, h7, h8, h9⟩ := h
  exact ⟨⟨N, hN, h2⟩, ⟨N, hN, h1⟩, h8, h9⟩
theorem zTape_len {tp mt : Nat → Int32} {ln a td : Int32} (h : zTape tp mt ln a td) : ∃ N : Nat, N ≤ 120 ∧ ln = nI N := by
  obtain ⟨⟨L, _, h1, -, h2, -⟩, -⟩ := h
  exact ⟨L, h1, h2⟩
theorem zTape_len9 {tp mt : Nat → Int32} {ln a td : Int32} (h : zTape tp mt ln a td) : ∃ N : Nat, N ≤ 120 ∧ td = nI N := by
  obtain ⟨⟨L, _, h1, -, h2, -⟩, h3, -⟩ := h
  exact ⟨L, h1, h3.trans h2⟩
theorem zPap_len {f g : Nat → Int32} {a c : Int32} (h : zPap f g a c) : ∃ N : Nat, N ≤ 2000 ∧ a = nI N := by
  obtain ⟨-, P, h1, h2, -⟩ := h
  exact ⟨P, h1, h2⟩
theorem zPap_len9 {f g : Nat → Int32} {a c : Int32} (h : zPap f g a c) : ∃ N : Nat, N ≤ 2000 ∧ c = nI N := by
  obtain ⟨h0, P, h1, h2, -⟩ := h
  exact ⟨P, h1, h0.trans h2⟩
theorem zHis_un {sg : Nat → Nat} {y : Nat → S0} {D U : Nat} {ch : Nat → Int32} {R : zC} {ud dn : Int32} (h : zHis sg y D U ch R) (hu : ud = nI U) (hd : dn = nI D) : ¬ ud = 0 → ∃ N : Nat, N ≤ 11 ∧ dn = nI N := fun hn => by
  obtain ⟨-, -, h3, -⟩ := h
  have h0 : ¬ U = 0 := fun e => hn (by rw [hu, e]; decide)
  exact ⟨D, by omega, hd⟩
theorem zRows_8 {vals : Nat → Nat → Int32} {size msize told : Nat → Int32} (h : zRows vals size msize told) : ∀ t : Nat, t < 4 → size t = -1 ∨ ∃ N : Nat, N ≤ 24 ∧ size t = nI N := fun t ht => (h t ht).2.1
theorem zRows_9 {vals : Nat → Nat → Int32} {size msize told : Nat → Int32} (h : zRows vals size msize told) : ∀ t : Nat, t < 4 → msize t = -1 ∨ ∃ N : Nat, N ≤ 24 ∧ msize t = nI N := fun t ht => by
  rw [← (h t ht).1]; exact (h t ht).2.1
section ZWL0
variable {p : Program} {l : Launch} {e : Env} {s : State} {m : MethodId} {below : List Frame} {meth : Method} {c : Code} {b L i : Nat} {xs : Nat → Int32} {G : zG} {A : Nat → Prop} {cells slots : Nat} {arc ac ard av ad ate atv apr apv ahi : Nat → Nat} {aik : Nat → Nat → Nat} {ak awd apa aro am : Nat → Nat} {H : Heap} {locs : List Loc} {ls : Array Slot} {Q : State → Prop}
set_option maxHeartbeats 4000000 in
set_option maxRecDepth 100000 in
theorem wL_begin (S : CallFix p m c cL_law 4 s #[Value.ref b] wsL_law RL) (hX : va_X b L xs s s.heap) (hbl : b < s.heap.size) (hbA : ¬ A b) (hL : L ≤ 3072) (hi : i + 6 ≤ L) (hcl : cells ≤ room_1.cells) (hsl : slots ≤ room_1.slots) (hK : zK G s) (hU : zU A s) (hA : ∀ q, s.heap.size ≤ q → A q) {sg : Nat → Nat} {y : Nat → S0} {D : Nat} {un : Int32} {brc : S8} {bc : S0} {brd : S4} {bv : S6} {bd : S0} {bte : S4} {btv : S6} {bpr : S3} {bpv : S6} {bk : S0} {bwd : S7} {bpa : S2} {bro : S5} {bm : S9} (hI : zInv sg y D un brc bc brd bv bpr bk bwd bpa bro bm) (hP : zP G (zWd G arc ac ard av ad ate atv apr apv ahi aik ak awd apa aro am sg y D un brc bc brd bv bd bte btv bpr bpv bk bwd bpa bro bm) H) (hD : zD A (zWd G arc ac ard av ad ate atv apr apv ahi aik ak awd apa aro am sg y D un brc bc brd bv bd bte btv bpr bpv bk bwd bpa bro bm)) (hS : va_S A s.heap H locs) (hl : lv_has ls 4 [(0, .ref b), (1, .ref (arc 0)), (2, .ref (am 0)), (3, .int (nI i))]) (kk : ∀ (sg : Nat → Nat) (y : Nat → S0) (D : Nat) (un : Int32) (brc : S8) (bc : S0) (brd : S4) (bv : S6) (bd : S0) (bte : S4) (btv : S6) (bpr : S3) (bpv : S6) (bk : S0) (bwd : S7) (bpa : S2) (bro : S5) (bm : S9) (H : Heap) (locs : List Loc) (ls : Array Slot), zInv sg y D un brc bc brd bv bpr bk bwd bpa bro bm → zP G (zWd G arc ac ard av ad ate atv apr apv ahi aik ak awd apa aro am sg y D un brc bc brd bv bd bte btv bpr bpv bk bwd bpa bro bm) H → zD A (zWd G arc ac ard av ad ate atv apr apv ahi aik ak awd apa aro am sg y D un brc bc brd bv bd bte btv bpr bpv bk bwd bpa bro bm) → va_S A s.heap H locs → lv_has ls 4 [(0, .ref b), (1, .ref (arc 0)), (2, .ref (am 0)), (3, .int (nI i))] → W p l e room_1 s m #[Value.ref b] below meth c H locs cells slots Q (F0 m 1116 ls [])) : W p l e room_1 s m #[Value.ref b] below meth c H locs cells slots Q (F0 m 172 ls []) := by
  obtain ⟨hx, hb, hml, hown, hts⟩ := id S
  obtain ⟨hD12, ⟨U, hun, hu9, hHis⟩, hdn, hRel, hcg, hSx, hSt, hImg, htp, hpp, hrw⟩ := id hI
  obtain ⟨hz1, hz2, hz5, hz6⟩ := zRel_hyps hRel
  have hz3 := zTape_len htp
  have hz4 := zTape_len9 htp
  have hz7 := zPap_len hpp
  have hz8 := zPap_len9 hpp
  have hz9 := zHis_un hHis hu9 hdn
  have hz10 := zRows_8 hrw
  have hz11 := zRows_9 hrw
  refine lv_aload_n hx hb dL_law_172 rfl (lv_at hl 1 rfl) ?_
  obtain ⟨T, hT⟩ : ∃ z, FX8_begin (g8_isSettled brc) (g0_kind bc) (g0_head bc) (g0_body bc) (g0_excepts bc) (g0_power bc) (g0_beats bc) (g0_facts bc) (g0_size bc) (g0_shut bc) sg y D un = z := ⟨_, rfl⟩
  obtain ⟨V, hV⟩ : ∃ z, FX9_begin (g9_facts bm) (g9_rules bm) (g9_done bm) (g9_undone bm) = z := ⟨_, rfl⟩
  have hm := m_begin hI hT hV
  have hc := c_X8_begin l G arc ac ahi aik (ard 0) (ad 0) (ate 0) (apr 0) (ak 0) (awd 0) (apa 0) (aro 0) brc bc sg y D un hHis.1 _ hT
  refine zgoI (bs' := (zWd G arc ac ard av ad ate atv apr apv ahi aik ak awd apa aro am sg (T.2.2.2.2.2.1) (T.2.2.2.2.2.2.1) (T.2.2.2.2.2.2.2) (s8_isSettled brc T.2.1) (s0_shut (s0_size (s0_facts bc T.2.2.1) T.2.2.2.1) T.2.2.2.2.1) brd bv bd bte btv bpr bpv bk bwd bpa bro bm)) hc [0, 1, 9, 15, 16, 17, 18, 19, 20, 21, 22, 23, 24, 25, 26, 27] rfl rfl rfl hP hD hS hA (va_runV (As := []) (rest := []) S (hc.2 _) (cwV 0 S.2.2.2.2 gL_law_X8_begin rfl rfl rfl (by decide +kernel) ⟨Nat.le_of_ble_eq_true rfl, Nat.le_of_ble_eq_true rfl⟩) (zpV hK hP hD (is := [0, 1, 9, 15, 16, 17, 18, 19, 20, 21, 22, 23, 24, 25, 26, 27]) rfl rfl 0 rfl rfl (ci := 8) rfl) rfl rfl hl.1 rfl (lv_room (Nat.le_of_ble_eq_true rfl)) dL_law_173 ⟨hcl, hsl⟩) (fun H locs hn1 hP hD hS => ?_)
  refine lv_aload_n hx hb dL_law_176 rfl (lv_at hl 2 rfl) ?_
  have hc := c_X9_begin l G am bm _ hV
  refine zgoI (bs' := (zWd G arc ac ard av ad ate atv apr apv ahi aik ak awd apa aro am sg (T.2.2.2.2.2.1) (T.2.2.2.2.2.2.1) (T.2.2.2.2.2.2.2) (s8_isSettled brc T.2.1) (s0_shut (s0_size (s0_facts bc T.2.2.1) T.2.2.2.1) T.2.2.2.2.1) brd bv bd bte btv bpr bpv bk bwd bpa bro (s9_undone (s9_done (s9_rules (s9_facts bm V.2.1) V.2.2.1) V.2.2.2.1) V.2.2.2.2))) hc [14] rfl rfl rfl hP hD hS hA (va_runV (As := []) (rest := [.int T.1]) S (hc.2 _) (cwV 0 S.2.2.2.2 gL_law_X9_begin rfl rfl rfl (by decide +kernel) ⟨Nat.le_of_ble_eq_true rfl, Nat.le_of_ble_eq_true rfl⟩) (zpV hK hP hD (is := [14]) rfl rfl 14 rfl rfl (ci := 9) rfl) rfl rfl hl.1 rfl (lv_room (Nat.le_of_ble_eq_true rfl)) dL_law_177 ⟨hcl, hsl⟩) (fun H locs hn2 hP hD hS => ?_)
  refine lv_icmp_eq (tgt := 1116) hx hb dL_law_180 (by decide) (fun _ => ?_) (fun hne => absurd hm.1 hne)
  exact kk _ _ _ _ _ _ _ _ _ _ _ _ _ _ _ _ _ _ _ _ _ hm.2 hP hD hS hl
set_option maxHeartbeats 4000000 in
set_option maxRecDepth 100000 in
theorem wL_fact (S : CallFix p m c cL_law 4 s #[Value.ref b] wsL_law RL) (hX : va_X b L xs s s.heap) (hbl : b < s.heap.size) (hbA : ¬ A b) (hL : L ≤ 3072) (hi : i + 6 ≤ L) (hcl : cells ≤ room_1.cells) (hsl : slots ≤ room_1.slots) (hK : zK G s) (hU : zU A s) (hA : ∀ q, s.heap.size ≤ q → A q) {sg : Nat → Nat} {y : Nat → S0} {D : Nat} {un : Int32} {brc : S8} {bc : S0} {brd : S4} {bv : S6} {bd : S0} {bte : S4} {btv : S6} {bpr : S3} {bpv : S6} {bk : S0} {bwd : S7} {bpa : S2} {bro : S5} {bm : S9} (hI : zInv sg y D un brc bc brd bv bpr bk bwd bpa bro bm) (hP : zP G (zWd G arc ac ard av ad ate atv apr apv ahi aik ak awd apa aro am sg y D un brc bc brd bv bd bte btv bpr bpv bk bwd bpa bro bm) H) (hD : zD A (zWd G arc ac ard av ad ate atv apr apv ahi aik ak awd apa aro am sg y D un brc bc brd bv bd bte btv bpr bpv bk bwd bpa bro bm)) (hS : va_S A s.heap H locs) (hl : lv_has ls 4 [(0, .ref b), (1, .ref (arc 0)), (2, .ref (am 0)), (3, .int (nI i))]) (kk : ∀ (sg : Nat → Nat) (y : Nat → S0) (D : Nat) (un : Int32) (brc : S8) (bc : S0) (brd : S4) (bv : S6) (bd : S0) (bte : S4) (btv : S6) (bpr : S3) (bpv : S6) (bk : S0) (bwd : S7) (bpa : S2) (bro : S5) (bm : S9) (H : Heap) (locs : List Loc) (ls : Array Slot), zInv sg y D un brc bc brd bv bpr bk bwd bpa bro bm → zP G (zWd G arc ac ard av ad ate atv apr apv ahi aik ak awd apa aro am sg y D un brc bc brd bv bd bte btv bpr bpv bk bwd bpa bro bm) H → zD A (zWd G arc ac ard av ad ate atv apr apv ahi aik ak awd apa aro am sg y D un brc bc brd bv bd bte btv bpr bpv bk bwd bpa bro bm) → va_S A s.heap H locs → lv_has ls 4 [(0, .ref b), (1, .ref (arc 0)), (2, .ref (am 0)), (3, .int (nI i))] → W p l e room_1 s m #[Value.ref b] below meth c H locs cells slots Q (F0 m 1116 ls [])) : W p l e room_1 s m #[Value.ref b] below meth c H locs cells slots Q (F0 m 185 ls []) := by
  obtain ⟨hx, hb, hml, hown, hts⟩ := id S
  obtain ⟨hD12, ⟨U, hun, hu9, hHis⟩, hdn, hRel, hcg, hSx, hSt, hImg, htp, hpp, hrw⟩ := id hI
  obtain ⟨hz1, hz2, hz5, hz6⟩ := zRel_hyps hRel
  have hz3 := zTape_len htp
  have hz4 := zTape_len9 htp
  have hz7 := zPap_len hpp
  have hz8 := zPap_len9 hpp
  have hz9 := zHis_un hHis hu9 hdn
  have hz10 := zRows_8 hrw
  have hz11 := zRows_9 hrw
  have hi1 : vp_in (nI i + 1) L := by rw [show (nI i + 1 : Int32) = nI (i + 1) from nI_add i 1]; exact vp_in_nI (by omega) (by omega)
  have hi2 : vp_in (nI i + 2) L := by rw [show (nI i + 2 : Int32) = nI (i + 2) from nI_add i 2]; exact vp_in_nI (by omega) (by omega)
  refine lv_aload_n hx hb dL_law_185 rfl (lv_at hl 1 rfl) ?_
  refine lv_aload_n hx hb dL_law_186 rfl (lv_at hl 0 rfl) ?_
  refine lv_iload_n hx hb dL_law_187 rfl (lv_at hl 3 rfl) ?_
  refine lv_iconst (v := 1) hx hb dL_law_188 (by decide) ?_
  refine lv_iadd hx hb dL_law_189 ?_
  refine va_sld hx hb hX hbl hbA hS hi1 dL_law_190 ?_
  refine lv_aload_n hx hb dL_law_191 rfl (lv_at hl 0 rfl) ?_
  refine lv_iload_n hx hb dL_law_192 rfl (lv_at hl 3 rfl) ?_
  refine lv_iconst (v := 2) hx hb dL_law_193 (by decide) ?_
  refine lv_iadd hx hb dL_law_194 ?_
  refine va_sld hx hb hX hbl hbA hS hi2 dL_law_195 ?_
  obtain ⟨T, hT⟩ : ∃ z, FX8_fact (g8_isSettled brc) (g0_kind bc) (g0_head bc) (g0_body bc) (g0_excepts bc) (g0_power bc) (g0_beats bc) (g0_facts bc) (g0_size bc) (g0_shut bc) sg y D un (xs (nI i + 1).toNatClampNeg) (xs (nI i + 2).toNatClampNeg) = z := ⟨_, rfl⟩
  obtain ⟨V, hV⟩ : ∃ z, FX9_fact (g9_facts bm) (g9_rules bm) (g9_strength bm) (g9_off bm) (g9_over bm) (g9_change bm) (g9_done bm) (g9_undone bm) (xs (nI i + 1).toNatClampNeg) (xs (nI i + 2).toNatClampNeg) = z := ⟨_, rfl⟩
  have hm := m_fact hI hT hV
  have hc := c_X8_fact l G arc ac ahi aik (ard 0) (ad 0) (ate 0) (apr 0) (ak 0) (awd 0) (apa 0) (aro 0) brc bc sg y D un (xs (nI i + 1).toNatClampNeg) (xs (nI i + 2).toNatClampNeg) hHis.1 hD12 _ hT
  refine zgoI (bs' := (zWd G arc ac ard av ad ate atv apr apv ahi aik ak awd apa aro am (T.2.2.2.1) (T.2.2.2.2.1) (T.2.2.2.2.2.1) (T.2.2.2.2.2.2) (s8_isSettled brc T.2.1) (s0_facts bc T.2.2.1) brd bv bd bte btv bpr bpv bk bwd bpa bro bm)) hc [0, 1, 9, 15, 16, 17, 18, 19, 20, 21, 22, 23, 24, 25, 26, 27] rfl rfl rfl hP hD hS hA (va_runV (As := [.int (xs (nI i + 1).toNatClampNeg), .int (xs (nI i + 2).toNatClampNeg)]) (rest := []) S (hc.2 _) (cwV 2 S.2.2.2.2 gL_law_X8_fact rfl rfl rfl (by decide +kernel) ⟨Nat.le_of_ble_eq_true rfl, Nat.le_of_ble_eq_true rfl⟩) (zpV hK hP hD (is := [0, 1, 9, 15, 16, 17, 18, 19, 20, 21, 22, 23, 24, 25, 26, 27]) rfl rfl 0 rfl rfl (ci := 8) rfl) rfl rfl hl.1 rfl (lv_room (Nat.le_of_ble_eq_true rfl)) dL_law_196 ⟨hcl, hsl⟩) (fun H locs hn1 hP hD hS => ?_)
  refine lv_aload_n hx hb dL_law_199 rfl (lv_at hl 2 rfl) ?_
  refine lv_aload_n hx hb dL_law_200 rfl (lv_at hl 0 rfl) ?_
  refine lv_iload_n hx hb dL_law_201 rfl (lv_at hl 3 rfl) ?_
  refine lv_iconst (v := 1) hx hb dL_law_202 (by decide) ?_
  refine lv_iadd hx hb dL_law_203 ?_
  refine va_sld hx hb hX hbl hbA hS hi1 dL_law_204 ?_
  refine lv_aload_n hx hb dL_law_205 rfl (lv_at hl 0 rfl) ?_
  refine lv_iload_n hx hb dL_law_206 rfl (lv_at hl 3 rfl) ?_
  refine lv_iconst (v := 2) hx hb dL_law_207 (by decide) ?_
  refine lv_iadd hx hb dL_law_208 ?_
  refine va_sld hx hb hX hbl hbA hS hi2 dL_law_209 ?_
  have hc := c_X9_fact l G am bm (xs (nI i + 1).toNatClampNeg) (xs (nI i + 2).toNatClampNeg) ⟨D, hD12, hdn⟩ _ hV
  refine zgoI (bs' := (zWd G arc ac ard av ad ate atv apr apv ahi aik ak awd apa aro am (T.2.2.2.1) (T.2.2.2.2.1) (T.2.2.2.2.2.1) (T.2.2.2.2.2.2) (s8_isSettled brc T.2.1) (s0_facts bc T.2.2.1) brd bv bd bte btv bpr bpv bk bwd bpa bro (s9_undone (s9_done (s9_change (s9_over (s9_off (s9_strength (s9_rules (s9_facts bm V.2.1) V.2.2.1) V.2.2.2.1) V.2.2.2.2.1) V.2.2.2.2.2.1) V.2.2.2.2.2.2.1) V.2.2.2.2.2.2.2.1) V.2.2.2.2.2.2.2.2))) hc [14] rfl rfl rfl hP hD hS hA (va_runV (As := [.int (xs (nI i + 1).toNatClampNeg), .int (xs (nI i + 2).toNatClampNeg)]) (rest := [.int T.1]) S (hc.2 _) (cwV 2 S.2.2.2.2 gL_law_X9_fact rfl rfl rfl (by decide +kernel) ⟨Nat.le_of_ble_eq_true rfl, Nat.le_of_ble_eq_true rfl⟩) (zpV hK hP hD (is := [14]) rfl rfl 14 rfl rfl (ci := 9) rfl) rfl rfl hl.1 rfl (lv_room (Nat.le_of_ble_eq_true rfl)) dL_law_210 ⟨hcl, hsl⟩) (fun H locs hn2 hP hD hS => ?_)
  refine lv_icmp_eq (tgt := 1116) hx hb dL_law_213 (by decide) (fun _ => ?_) (fun hne => absurd hm.1 hne)
  exact kk _ _ _ _ _ _ _ _ _ _ _ _ _ _ _ _ _ _ _ _ _ hm.2 hP hD hS hl
set_option maxHeartbeats 4000000 in
set_option maxRecDepth 100000 in
theorem wL_rule (S : CallFix p m c cL_law 4 s #[Value.ref b] wsL_law RL) (hX : va_X b L xs s s.heap) (hbl : b < s.heap.size) (hbA : ¬ A b) (hL : L ≤ 3072) (hi : i + 6 ≤ L) (hcl : cells ≤ room_1.cells) (hsl : slots ≤ room_1.slots) (hK : zK G s) (hU : zU A s) (hA : ∀ q, s.heap.size ≤ q → A q) {sg : Nat → Nat} {y : Nat → S0} {D : Nat} {un : Int32} {brc : S8} {bc : S0} {brd : S4} {bv : S6} {bd : S0} {bte : S4} {btv : S6} {bpr : S3} {bpv : S6} {bk : S0} {bwd : S7} {bpa : S2} {bro : S5} {bm : S9} (hI : zInv sg y D un brc bc brd bv bpr bk bwd bpa bro bm) (hP : zP G (zWd G arc ac ard av ad ate atv apr apv ahi aik ak awd apa aro am sg y D un brc bc brd bv bd bte btv bpr bpv bk bwd bpa bro bm) H) (hD : zD A (zWd G arc ac ard av ad ate atv apr apv ahi aik ak awd apa aro am sg y D un brc bc brd bv bd bte btv bpr bpv bk bwd bpa bro bm)) (hS : va_S A s.heap H locs) (hl : lv_has ls 4 [(0, .ref b), (1, .ref (arc 0)), (2, .ref (am 0)), (3, .int (nI i))]) (kk : ∀ (sg : Nat → Nat) (y : Nat → S0) (D : Nat) (un : Int32) (brc : S8) (bc : S0) (brd : S4) (bv : S6) (bd : S0) (bte : S4) (btv : S6) (bpr : S3) (bpv : S6) (bk : S0) (bwd : S7) (bpa : S2) (bro : S5) (bm : S9) (H : Heap) (locs : List Loc) (ls : Array Slot), zInv sg y D un brc bc brd bv bpr bk bwd bpa bro bm → zP G (zWd G arc ac ard av ad ate atv apr apv ahi aik ak awd apa aro am sg y D un brc bc brd bv bd bte btv bpr bpv bk bwd bpa bro bm) H → zD A (zWd G arc ac ard av ad ate atv apr apv ahi aik ak awd apa aro am sg y D un brc bc brd bv bd bte btv bpr bpv bk bwd bpa bro bm) → va_S A s.heap H locs → lv_has ls 4 [(0, .ref b), (1, .ref (arc 0)), (2, .ref (am 0)), (3, .int (nI i))] → W p l e room_1 s m #[Value.ref b] below meth c H locs cells slots Q (F0 m 1116 ls [])) : W p l e room_1 s m #[Value.ref b] below meth c H locs cells slots Q (F0 m 218 ls []) := by
  obtain ⟨hx, hb, hml, hown, hts⟩ := id S
  obtain ⟨hD12, ⟨U, hun, hu9, hHis⟩, hdn, hRel, hcg, hSx, hSt, hImg, htp, hpp, hrw⟩ := id hI
  obtain ⟨hz1, hz2, hz5, hz6⟩ := zRel_hyps hRel
  have hz3 := zTape_len htp
  have hz4 := zTape_len9 htp
  have hz7 := zPap_len hpp
  have hz8 := zPap_len9 hpp
  have hz9 := zHis_un hHis hu9 hdn
  have hz10 := zRows_8 hrw
  have hz11 := zRows_9 hrw
  have hi1 : vp_in (nI i + 1) L := by rw [show (nI i + 1 : Int32) = nI (i + 1) from nI_add i 1]; exact vp_in_nI (by omega) (by omega)
  have hi2 : vp_in (nI i + 2) L := by rw [show (nI i + 2 : Int32) = nI (i + 2) from nI_add i 2]; exact vp_in_nI (by omega) (by omega)
  have hi3 : vp_in (nI i + 3) L := by rw [show (nI i + 3 : Int32) = nI (i + 3) from nI_add i 3]; exact vp_in_nI (by omega) (by omega)
  have hi4 : vp_in (nI i + 4) L := by rw [show (nI i + 4 : Int32) = nI (i + 4) from nI_add i 4]; exact vp_in_nI (by omega) (by omega)
  have hi5 : vp_in (nI i + 5) L := by rw [show (nI i + 5 : Int32) = nI (i + 5) from nI_add i 5]; exact vp_in_nI (by omega) (by omega)
  refine lv_aload_n hx hb dL_law_218 rfl (lv_at hl 1 rfl) ?_
  refine lv_aload_n hx hb dL_law_219 rfl (lv_at hl 0 rfl) ?_
  refine lv_iload_n hx hb dL_law_220 rfl (lv_at hl 3 rfl) ?_
  refine lv_iconst (v := 1) hx hb dL_law_221 (by decide) ?_
  refine lv_iadd hx hb dL_law_222 ?_
  refine va_sld hx hb hX hbl hbA hS hi1 dL_law_223 ?_
  refine lv_aload_n hx hb dL_law_224 rfl (lv_at hl 0 rfl) ?_
  refine lv_iload_n hx hb dL_law_225 rfl (lv_at hl 3 rfl) ?_
  refine lv_iconst (v := 2) hx hb dL_law_226 (by decide) ?_
  refine lv_iadd hx hb dL_law_227 ?_
  refine va_sld hx hb hX hbl hbA hS hi2 dL_law_228 ?_
  refine lv_aload_n hx hb dL_law_229 rfl (lv_at hl 0 rfl) ?_
  refine lv_iload_n hx hb dL_law_230 rfl (lv_at hl 3 rfl) ?_
  refine lv_iconst (v := 3) hx hb dL_law_231 (by decide) ?_
  refine lv_iadd hx hb dL_law_232 ?_
  refine va_sld hx hb hX hbl hbA hS hi3 dL_law_233 ?_
  refine lv_aload_n hx hb dL_law_234 rfl (lv_at hl 0 rfl) ?_
  refine lv_iload_n hx hb dL_law_235 rfl (lv_at hl 3 rfl) ?_
  refine lv_iconst (v := 4) hx hb dL_law_236 (by decide) ?_
  refine lv_iadd hx hb dL_law_237 ?_
  refine va_sld hx hb hX hbl hbA hS hi4 dL_law_238 ?_
  refine lv_aload_n hx hb dL_law_239 rfl (lv_at hl 0 rfl) ?_
  refine lv_iload_n hx hb dL_law_240 rfl (lv_at hl 3 rfl) ?_
  refine lv_iconst (v := 5) hx hb dL_law_241 (by decide) ?_
  refine lv_iadd hx hb dL_law_242 ?_
  refine va_sld hx hb hX hbl hbA hS hi5 dL_law_243 ?_
  obtain ⟨T, hT⟩ : ∃ z, FX8_rule (g8_isSettled brc) (g0_kind bc) (g0_head bc) (g0_body bc) (g0_excepts bc) (g0_power bc) (g0_beats bc) (g0_facts bc) (g0_size bc) (g0_shut bc) sg y D un (xs (nI i + 1).toNatClampNeg) (xs (nI i + 2).toNatClampNeg) (xs (nI i + 3).toNatClampNeg) (xs (nI i + 4).toNatClampNeg) (xs (nI i + 5).toNatClampNeg) = z := ⟨_, rfl⟩
  obtain ⟨V, hV⟩ : ∃ z, FX9_rule (g9_facts bm) (g9_rules bm) (g9_kind bm) (g9_head bm) (g9_body bm) (g9_except bm) (g9_strength bm) (g9_off bm) (g9_over bm) (g9_change bm) (g9_done bm) (g9_undone bm) (xs (nI i + 1).toNatClampNeg) (xs (nI i + 2).toNatClampNeg) (xs (nI i + 3).toNatClampNeg) (xs (nI i + 4).toNatClampNeg) (xs (nI i + 5).toNatClampNeg) = z := ⟨_, rfl⟩
  have hm := m_rule hI hT hV
  have hc := c_X8_rule l G arc ac ahi aik (ard 0) (ad 0) (ate 0) (apr 0) (ak 0) (awd 0) (apa 0) (aro 0) brc bc sg y D un (xs (nI i + 1).toNatClampNeg) (xs (nI i + 2).toNatClampNeg) (xs (nI i + 3).toNatClampNeg) (xs (nI i + 4).toNatClampNeg) (xs (nI i + 5).toNatClampNeg) hz1 hHis.1 hD12 _ hT
  refine zgoI (bs' := (zWd G arc ac ard av ad ate atv apr apv ahi aik ak awd apa aro am (T.2.2.2.2.2.2.2.2.2.1) (T.2.2.2.2.2.2.2.2.2.2.1) (T.2.2.2.2.2.2.2.2.2.2.2.1) (T.2.2.2.2.2.2.2.2.2.2.2.2) (s8_isSettled brc T.2.1) (s0_size (s0_beats (s0_power (s0_excepts (s0_body (s0_head (s0_kind bc T.2.2.1) T.2.2.2.1) T.2.2.2.2.1) T.2.2.2.2.2.1) T.2.2.2.2.2.2.1) T.2.2.2.2.2.2.2.1) T.2.2.2.2.2.2.2.2.1) brd bv bd bte btv bpr bpv bk bwd bpa bro bm)) hc [0, 1, 9, 15, 16, 17, 18, 19, 20, 21, 22, 23, 24, 25, 26, 27] rfl rfl rfl hP hD hS hA (va_runV (As := [.int (xs (nI i + 1).toNatClampNeg), .int (xs (nI i + 2).toNatClampNeg), .int (xs (nI i + 3).toNatClampNeg), .int (xs (nI i + 4).toNatClampNeg), .int (xs (nI i + 5).toNatClampNeg)]) (rest := []) S (hc.2 _) (cwV 5 S.2.2.2.2 gL_law_X8_rule rfl rfl rfl (by decide +kernel) ⟨Nat.le_of_ble_eq_true rfl, Nat.le_of_ble_eq_true rfl⟩) (zpV hK hP hD (is := [0, 1, 9, 15, 16, 17, 18, 19, 20, 21, 22, 23, 24, 25, 26, 27]) rfl rfl 0 rfl rfl (ci := 8) rfl) rfl rfl hl.1 rfl (lv_room (Nat.le_of_ble_eq_true rfl)) dL_law_244 ⟨hcl, hsl⟩) (fun H locs hn1 hP hD hS => ?_)
  refine lv_aload_n hx hb dL_law_247 rfl (lv_at hl 2 rfl) ?_
  refine lv_aload_n hx hb dL_law_248 rfl (lv_at hl 0 rfl) ?_
  refine lv_iload_n hx hb dL_law_249 rfl (lv_at hl 3 rfl) ?_
  refine lv_iconst (v := 1) hx hb dL_law_250 (by decide) ?_
  refine lv_iadd hx hb dL_law_251 ?_
  refine va_sld hx hb hX hbl hbA hS hi1 dL_law_252 ?_
  refine lv_aload_n hx hb dL_law_253 rfl (lv_at hl 0 rfl) ?_
  refine lv_iload_n hx hb dL_law_254 rfl (lv_at hl 3 rfl) ?_
  refine lv_iconst (v := 2) hx hb dL_law_255 (by decide) ?_
  refine lv_iadd hx hb dL_law_256 ?_
  refine va_sld hx hb hX hbl hbA hS hi2 dL_law_257 ?_
  refine lv_aload_n hx hb dL_law_258 rfl (lv_at hl 0 rfl) ?_
  refine lv_iload_n hx hb dL_law_259 rfl (lv_at hl 3 rfl) ?_
  refine lv_iconst (v := 3) hx hb dL_law_260 (by decide) ?_
  refine lv_iadd hx hb dL_law_261 ?_
  refine va_sld hx hb hX hbl hbA hS hi3 dL_law_262 ?_
  refine lv_aload_n hx hb dL_law_263 rfl (lv_at hl 0 rfl) ?_
  refine lv_iload_n hx hb dL_law_264 rfl (lv_at hl 3 rfl) ?_
  refine lv_iconst (v := 4) hx hb dL_law_265 (by decide) ?_
  refine lv_iadd hx hb dL_law_266 ?_
  refine va_sld hx hb hX hbl hbA hS hi4 dL_law_267 ?_
  refine lv_aload_n hx hb dL_law_268 rfl (lv_at hl 0 rfl) ?_
  refine lv_iload_n hx hb dL_law_269 rfl (lv_at hl 3 rfl) ?_
  refine lv_iconst (v := 5) hx hb dL_law_270 (by decide) ?_
  refine lv_iadd hx hb dL_law_271 ?_
  refine va_sld hx hb hX hbl hbA hS hi5 dL_law_272 ?_
  have hc := c_X9_rule l G am bm (xs (nI i + 1).toNatClampNeg) (xs (nI i + 2).toNatClampNeg) (xs (nI i + 3).toNatClampNeg) (xs (nI i + 4).toNatClampNeg) (xs (nI i + 5).toNatClampNeg) ⟨D, hD12, hdn⟩ hz2 _ hV
  refine zgoI (bs' := (zWd G arc ac ard av ad ate atv apr apv ahi aik ak awd apa aro am (T.2.2.2.2.2.2.2.2.2.1) (T.2.2.2.2.2.2.2.2.2.2.1) (T.2.2.2.2.2.2.2.2.2.2.2.1) (T.2.2.2.2.2.2.2.2.2.2.2.2) (s8_isSettled brc T.2.1) (s0_size (s0_beats (s0_power (s0_excepts (s0_body (s0_head (s0_kind bc T.2.2.1) T.2.2.2.1) T.2.2.2.2.1) T.2.2.2.2.2.1) T.2.2.2.2.2.2.1) T.2.2.2.2.2.2.2.1) T.2.2.2.2.2.2.2.2.1) brd bv bd bte btv bpr bpv bk bwd bpa bro (s9_undone (s9_done (s9_change (s9_over (s9_off (s9_strength (s9_except (s9_body (s9_head (s9_kind (s9_rules (s9_facts bm V.2.1) V.2.2.1) V.2.2.2.1) V.2.2.2.2.1) V.2.2.2.2.2.1) V.2.2.2.2.2.2.1) V.2.2.2.2.2.2.2.1) V.2.2.2.2.2.2.2.2.1) V.2.2.2.2.2.2.2.2.2.1) V.2.2.2.2.2.2.2.2.2.2.1) V.2.2.2.2.2.2.2.2.2.2.2.1) V.2.2.2.2.2.2.2.2.2.2.2.2))) hc [14] rfl rfl rfl hP hD hS hA (va_runV (As := [.int (xs (nI i + 1).toNatClampNeg), .int (xs (nI i + 2).toNatClampNeg), .int (xs (nI i + 3).toNatClampNeg), .int (xs (nI i + 4).toNatClampNeg), .int (xs (nI i + 5).toNatClampNeg)]) (rest := [.int T.1]) S (hc.2 _) (cwV 5 S.2.2.2.2 gL_law_X9_rule rfl rfl rfl (by decide +kernel) ⟨Nat.le_of_ble_eq_true rfl, Nat.le_of_ble_eq_true rfl⟩) (zpV hK hP hD (is := [14]) rfl rfl 14 rfl rfl (ci := 9) rfl) rfl rfl hl.1 rfl (lv_room (Nat.le_of_ble_eq_true rfl)) dL_law_273 ⟨hcl, hsl⟩) (fun H locs hn2 hP hD hS => ?_)
  refine lv_icmp_eq (tgt := 1116) hx hb dL_law_276 (by decide) (fun _ => ?_) (fun hne => absurd hm.1 hne)
  exact kk _ _ _ _ _ _ _ _ _ _ _ _ _ _ _ _ _ _ _ _ _ hm.2 hP hD hS hl
set_option maxHeartbeats 4000000 in
set_option maxRecDepth 100000 in
theorem wL_off (S : CallFix p m c cL_law 4 s #[Value.ref b] wsL_law RL) (hX : va_X b L xs s s.heap) (hbl : b < s.heap.size) (hbA : ¬ A b) (hL : L ≤ 3072) (hi : i + 6 ≤ L) (hcl : cells ≤ room_1.cells) (hsl : slots ≤ room_1.slots) (hK : zK G s) (hU : zU A s) (hA : ∀ q, s.heap.size ≤ q → A q) {sg : Nat → Nat} {y : Nat → S0} {D : Nat} {un : Int32} {brc : S8} {bc : S0} {brd : S4} {bv : S6} {bd : S0} {bte : S4} {btv : S6} {bpr : S3} {bpv : S6} {bk : S0} {bwd : S7} {bpa : S2} {bro : S5} {bm : S9} (hI : zInv sg y D un brc bc brd bv bpr bk bwd bpa bro bm) (hP : zP G (zWd G arc ac ard av ad ate atv apr apv ahi aik ak awd apa aro am sg y D un brc bc brd bv bd bte btv bpr bpv bk bwd bpa bro bm) H) (hD : zD A (zWd G arc ac ard av ad ate atv apr apv ahi aik ak awd apa aro am sg y D un brc bc brd bv bd bte btv bpr bpv bk bwd bpa bro bm)) (hS : va_S A s.heap H locs) (hl : lv_has ls 4 [(0, .ref b), (1, .ref (arc 0)), (2, .ref (am 0)), (3, .int (nI i))]) (kk : ∀ (sg : Nat → Nat) (y : Nat → S0) (D : Nat) (un : Int32) (brc : S8) (bc : S0) (brd : S4) (bv : S6) (bd : S0) (bte : S4) (btv : S6) (bpr : S3) (bpv : S6) (bk : S0) (bwd : S7) (bpa : S2) (bro : S5) (bm : S9) (H : Heap) (locs : List Loc) (ls : Array Slot), zInv sg y D un brc bc brd bv bpr bk bwd bpa bro bm → zP G (zWd G arc ac ard av ad ate atv apr apv ahi aik ak awd apa aro am sg y D un brc bc brd bv bd bte btv bpr bpv bk bwd bpa bro bm) H → zD A (zWd G arc ac ard av ad ate atv apr apv ahi aik ak awd apa aro am sg y D un brc bc brd bv bd bte btv bpr bpv bk bwd bpa bro bm) → va_S A s.heap H locs → lv_has ls 4 [(0, .ref b), (1, .ref (arc 0)), (2, .ref (am 0)), (3, .int (nI i))] → W p l e room_1 s m #[Value.ref b] below meth c H locs cells slots Q (F0 m 1116 ls [])) : W p l e room_1 s m #[Value.ref b] below meth c H locs cells slots Q (F0 m 281 ls []) := by
  obtain ⟨hx, hb, hml, hown, hts⟩ := id S
  obtain ⟨hD12, ⟨U, hun, hu9, hHis⟩, hdn, hRel, hcg, hSx, hSt, hImg, htp, hpp, hrw⟩ := id hI
  obtain ⟨hz1, hz2, hz5, hz6⟩ := zRel_hyps hRel
  have hz3 := zTape_len htp
  have hz4 := zTape_len9 htp
  have hz7 := zPap_len hpp
  have hz8 := zPap_len9 hpp
  have hz9 := zHis_un hHis hu9 hdn
  have hz10 := zRows_8 hrw
  have hz11 := zRows_9 hrw
  have hi1 : vp_in (nI i + 1) L := by rw [show (nI i + 1 : Int32) = nI (i + 1) from nI_add i 1]; exact vp_in_nI (by omega) (by omega)
  have hi2 : vp_in (nI i + 2) L := by rw [show (nI i + 2 : Int32) = nI (i + 2) from nI_add i 2]; exact vp_in_nI (by omega) (by omega)
  refine lv_aload_n hx hb dL_law_281 rfl (lv_at hl 1 rfl) ?_
  refine lv_aload_n hx hb dL_law_282 rfl (lv_at hl 0 rfl) ?_
  refine lv_iload_n hx hb dL_law_283 rfl (lv_at hl 3 rfl) ?_
  refine lv_iconst (v := 1) hx hb dL_law_284 (by decide) ?_
  refine lv_iadd hx hb dL_law_285 ?_
  refine va_sld hx hb hX hbl hbA hS hi1 dL_law_286 ?_
  refine lv_aload_n hx hb dL_law_287 rfl (lv_at hl 0 rfl) ?_
  refine lv_iload_n hx hb dL_law_288 rfl (lv_at hl 3 rfl) ?_
  refine lv_iconst (v := 2) hx hb dL_law_289 (by decide) ?_
  refine lv_iadd hx hb dL_law_290 ?_
  refine va_sld hx hb hX hbl hbA hS hi2 dL_law_291 ?_
  obtain ⟨T, hT⟩ : ∃ z, FX8_off (g8_isSettled brc) (g0_kind bc) (g0_head bc) (g0_body bc) (g0_excepts bc) (g0_power bc) (g0_beats bc) (g0_facts bc) (g0_size bc) (g0_shut bc) sg y D un (xs (nI i + 1).toNatClampNeg) (xs (nI i + 2).toNatClampNeg) = z := ⟨_, rfl⟩
  obtain ⟨V, hV⟩ : ∃ z, FX9_off (g9_facts bm) (g9_rules bm) (g9_strength bm) (g9_off bm) (g9_over bm) (g9_change bm) (g9_done bm) (g9_undone bm) (xs (nI i + 1).toNatClampNeg) (xs (nI i + 2).toNatClampNeg) = z := ⟨_, rfl⟩
  have hm := m_off hI hT hV
  have hc := c_X8_off l G arc ac ahi aik (ard 0) (ad 0) (ate 0) (apr 0) (ak 0) (awd 0) (apa 0) (aro 0) brc bc sg y D un (xs (nI i + 1).toNatClampNeg) (xs (nI i + 2).toNatClampNeg) hz1 hHis.1 hD12 _ hT
  refine zgoI (bs' := (zWd G arc ac ard av ad ate atv apr apv ahi aik ak awd apa aro am (T.2.2.2.1) (T.2.2.2.2.1) (T.2.2.2.2.2.1) (T.2.2.2.2.2.2) (s8_isSettled brc T.2.1) (s0_shut bc T.2.2.1) brd bv bd bte btv bpr bpv bk bwd bpa bro bm)) hc [0, 1, 9, 15, 16, 17, 18, 19, 20, 21, 22, 23, 24, 25, 26, 27] rfl rfl rfl hP hD hS hA (va_runV (As := [.int (xs (nI i + 1).toNatClampNeg), .int (xs (nI i + 2).toNatClampNeg)]) (rest := []) S (hc.2 _) (cwV 2 S.2.2.2.2 gL_law_X8_off rfl rfl rfl (by decide +kernel) ⟨Nat.le_of_ble_eq_true rfl, Nat.le_of_ble_eq_true rfl⟩) (zpV hK hP hD (is := [0, 1, 9, 15, 16, 17, 18, 19, 20, 21, 22, 23, 24, 25, 26, 27]) rfl rfl 0 rfl rfl (ci := 8) rfl) rfl rfl hl.1 rfl (lv_room (Nat.le_of_ble_eq_true rfl)) dL_law_292 ⟨hcl, hsl⟩) (fun H locs hn1 hP hD hS => ?_)
  refine lv_aload_n hx hb dL_law_295 rfl (lv_at hl 2 rfl) ?_
  refine lv_aload_n hx hb dL_law_296 rfl (lv_at hl 0 rfl) ?_
  refine lv_iload_n hx hb dL_law_297 rfl (lv_at hl 3 rfl) ?_
  refine lv_iconst (v := 1) hx hb dL_law_298 (by decide) ?_
  refine lv_iadd hx hb dL_law_299 ?_
  refine va_sld hx hb hX hbl hbA hS hi1 dL_law_300 ?_
  refine lv_aload_n hx hb dL_law_301 rfl (lv_at hl 0 rfl) ?_
  refine lv_iload_n hx hb dL_law_302 rfl (lv_at hl 3 rfl) ?_
  refine lv_iconst (v := 2) hx hb dL_law_303 (by decide) ?_
  refine lv_iadd hx hb dL_law_304 ?_
  refine va_sld hx hb hX hbl hbA hS hi2 dL_law_305 ?_
  have hc := c_X9_off l G am bm (xs (nI i + 1).toNatClampNeg) (xs (nI i + 2).toNatClampNeg) hz2 ⟨D, hD12, hdn⟩ _ hV
  refine zgoI (bs' := (zWd G arc ac ard av ad ate atv apr apv ahi aik ak awd apa aro am (T.2.2.2.1) (T.2.2.2.2.1) (T.2.2.2.2.2.1) (T.2.2.2.2.2.2) (s8_isSettled brc T.2.1) (s0_shut bc T.2.2.1) brd bv bd bte btv bpr bpv bk bwd bpa bro (s9_undone (s9_done (s9_change (s9_over (s9_off (s9_strength (s9_rules (s9_facts bm V.2.1) V.2.2.1) V.2.2.2.1) V.2.2.2.2.1) V.2.2.2.2.2.1) V.2.2.2.2.2.2.1) V.2.2.2.2.2.2.2.1) V.2.2.2.2.2.2.2.2))) hc [14] rfl rfl rfl hP hD hS hA (va_runV (As := [.int (xs (nI i + 1).toNatClampNeg), .int (xs (nI i + 2).toNatClampNeg)]) (rest := [.int T.1]) S (hc.2 _) (cwV 2 S.2.2.2.2 gL_law_X9_off rfl rfl rfl (by decide +kernel) ⟨Nat.le_of_ble_eq_true rfl, Nat.le_of_ble_eq_true rfl⟩) (zpV hK hP hD (is := [14]) rfl rfl 14 rfl rfl (ci := 9) rfl) rfl rfl hl.1 rfl (lv_room (Nat.le_of_ble_eq_true rfl)) dL_law_306 ⟨hcl, hsl⟩) (fun H locs hn2 hP hD hS => ?_)
  refine lv_icmp_eq (tgt := 1116) hx hb dL_law_309 (by decide) (fun _ => ?_) (fun hne => absurd hm.1 hne)
  exact kk _ _ _ _ _ _ _ _ _ _ _ _ _ _ _ _ _ _ _ _ _ hm.2 hP hD hS hl
set_option maxHeartbeats 4000000 in
set_option maxRecDepth 100000 in
theorem wL_strength (S : CallFix p m c cL_law 4 s #[Value.ref b] wsL_law RL) (hX : va_X b L xs s s.heap) (hbl : b < s.heap.size) (hbA : ¬ A b) (hL : L ≤ 3072) (hi : i + 6 ≤ L) (hcl : cells ≤ room_1.cells) (hsl : slots ≤ room_1.slots) (hK : zK G s) (hU : zU A s) (hA : ∀ q, s.heap.size ≤ q → A q) {sg : Nat → Nat} {y : Nat → S0} {D : Nat} {un : Int32} {brc : S8} {bc : S0} {brd : S4} {bv : S6} {bd : S0} {bte : S4} {btv : S6} {bpr : S3} {bpv : S6} {bk : S0} {bwd : S7} {bpa : S2} {bro : S5} {bm : S9} (hI : zInv sg y D un brc bc brd bv bpr bk bwd bpa bro bm) (hP : zP G (zWd G arc ac ard av ad ate atv apr apv ahi aik ak awd apa aro am sg y D un brc bc brd bv bd bte btv bpr bpv bk bwd bpa bro bm) H) (hD : zD A (zWd G arc ac ard av ad ate atv apr apv ahi aik ak awd apa aro am sg y D un brc bc brd bv bd bte btv bpr bpv bk bwd bpa bro bm)) (hS : va_S A s.heap H locs) (hl : lv_has ls 4 [(0, .ref b), (1, .ref (arc 0)), (2, .ref (am 0)), (3, .int (nI i))]) (kk : ∀ (sg : Nat → Nat) (y : Nat → S0) (D : Nat) (un : Int32) (brc : S8) (bc : S0) (brd : S4) (bv : S6) (bd : S0) (bte : S4) (btv : S6) (bpr : S3) (bpv : S6) (bk : S0) (bwd : S7) (bpa : S2) (bro : S5) (bm : S9) (H : Heap) (locs : List Loc) (ls : Array Slot), zInv sg y D un brc bc brd bv bpr bk bwd bpa bro bm → zP G (zWd G arc ac ard av ad ate atv apr apv ahi aik ak awd apa aro am sg y D un brc bc brd bv bd bte btv bpr bpv bk bwd bpa bro bm) H → zD A (zWd G arc ac ard av ad ate atv apr apv ahi aik ak awd apa aro am sg y D un brc bc brd bv bd bte btv bpr bpv bk bwd bpa bro bm) → va_S A s.heap H locs → lv_has ls 4 [(0, .ref b), (1, .ref (arc 0)), (2, .ref (am 0)), (3, .int (nI i))] → W p l e room_1 s m #[Value.ref b] below meth c H locs cells slots Q (F0 m 1116 ls [])) : W p l e room_1 s m #[Value.ref b] below meth c H locs cells slots Q (F0 m 314 ls []) := by
  obtain ⟨hx, hb, hml, hown, hts⟩ := id S
  obtain ⟨hD12, ⟨U, hun, hu9, hHis⟩, hdn, hRel, hcg, hSx, hSt, hImg, htp, hpp, hrw⟩ := id hI
  obtain ⟨hz1, hz2, hz5, hz6⟩ := zRel_hyps hRel
  have hz3 := zTape_len htp
  have hz4 := zTape_len9 htp
  have hz7 := zPap_len hpp
  have hz8 := zPap_len9 hpp
  have hz9 := zHis_un hHis hu9 hdn
  have hz10 := zRows_8 hrw
  have hz11 := zRows_9 hrw
  have hi1 : vp_in (nI i + 1) L := by rw [show (nI i + 1 : Int32) = nI (i + 1) from nI_add i 1]; exact vp_in_nI (by omega) (by omega)
  have hi2 : vp_in (nI i + 2) L := by rw [show (nI i + 2 : Int32) = nI (i + 2) from nI_add i 2]; exact vp_in_nI (by omega) (by omega)
  refine lv_aload_n hx hb dL_law_314 rfl (lv_at hl 1 rfl) ?_
  refine lv_aload_n hx hb dL_law_315 rfl (lv_at hl 0 rfl) ?_
  refine lv_iload_n hx hb dL_law_316 rfl (lv_at hl 3 rfl) ?_
  refine lv_iconst (v := 1) hx hb dL_law_317 (by decide) ?_
  refine lv_iadd hx hb dL_law_318 ?_
  refine va_sld hx hb hX hbl hbA hS hi1 dL_law_319 ?_
  refine lv_aload_n hx hb dL_law_320 rfl (lv_at hl 0 rfl) ?_
  refine lv_iload_n hx hb dL_law_321 rfl (lv_at hl 3 rfl) ?_
  refine lv_iconst (v := 2) hx hb dL_law_322 (by decide) ?_
  refine lv_iadd hx hb dL_law_323 ?_
  refine va_sld hx hb hX hbl hbA hS hi2 dL_law_324 ?_
  obtain ⟨T, hT⟩ : ∃ z, FX8_strength (g8_isSettled brc) (g0_kind bc) (g0_head bc) (g0_body bc) (g0_excepts bc) (g0_power bc) (g0_beats bc) (g0_facts bc) (g0_size bc) (g0_shut bc) sg y D un (xs (nI i + 1).toNatClampNeg) (xs (nI i + 2).toNatClampNeg) = z := ⟨_, rfl⟩
  obtain ⟨V, hV⟩ : ∃ z, FX9_strength (g9_facts bm) (g9_rules bm) (g9_strength bm) (g9_off bm) (g9_over bm) (g9_change bm) (g9_done bm) (g9_undone bm) (xs (nI i + 1).toNatClampNeg) (xs (nI i + 2).toNatClampNeg) = z := ⟨_, rfl⟩
  have hm := m_strength hI hT hV
  have hc := c_X8_strength l G arc ac ahi aik (ard 0) (ad 0) (ate 0) (apr 0) (ak 0) (awd 0) (apa 0) (aro 0) brc bc sg y D un (xs (nI i + 1).toNatClampNeg) (xs (nI i + 2).toNatClampNeg) hz1 hHis.1 hD12 _ hT
  refine zgoI (bs' := (zWd G arc ac ard av ad ate atv apr apv ahi aik ak awd apa aro am (T.2.2.2.1) (T.2.2.2.2.1) (T.2.2.2.2.2.1) (T.2.2.2.2.2.2) (s8_isSettled brc T.2.1) (s0_power bc T.2.2.1) brd bv bd bte btv bpr bpv bk bwd bpa bro bm)) hc [0, 1, 9, 15, 16, 17, 18, 19, 20, 21, 22, 23, 24, 25, 26, 27] rfl rfl rfl hP hD hS hA (va_runV (As := [.int (xs (nI i + 1).toNatClampNeg), .int (xs (nI i + 2).toNatClampNeg)]) (rest := []) S (hc.2 _) (cwV 2 S.2.2.2.2 gL_law_X8_strength rfl rfl rfl (by decide +kernel) ⟨Nat.le_of_ble_eq_true rfl, Nat.le_of_ble_eq_true rfl⟩) (zpV hK hP hD (is := [0, 1, 9, 15, 16, 17, 18, 19, 20, 21, 22, 23, 24, 25, 26, 27]) rfl rfl 0 rfl rfl (ci := 8) rfl) rfl rfl hl.1 rfl (lv_room (Nat.le_of_ble_eq_true rfl)) dL_law_325 ⟨hcl, hsl⟩) (fun H locs hn1 hP hD hS => ?_)
  refine lv_aload_n hx hb dL_law_328 rfl (lv_at hl 2 rfl) ?_
  refine lv_aload_n hx hb dL_law_329 rfl (lv_at hl 0 rfl) ?_
  refine lv_iload_n hx hb dL_law_330 rfl (lv_at hl 3 rfl) ?_
  refine lv_iconst (v := 1) hx hb dL_law_331 (by decide) ?_
  refine lv_iadd hx hb dL_law_332 ?_
  refine va_sld hx hb hX hbl hbA hS hi1 dL_law_333 ?_
  refine lv_aload_n hx hb dL_law_334 rfl (lv_at hl 0 rfl) ?_
  refine lv_iload_n hx hb dL_law_335 rfl (lv_at hl 3 rfl) ?_
  refine lv_iconst (v := 2) hx hb dL_law_336 (by decide) ?_
  refine lv_iadd hx hb dL_law_337 ?_
  refine va_sld hx hb hX hbl hbA hS hi2 dL_law_338 ?_
  have hc := c_X9_strength l G am bm (xs (nI i + 1).toNatClampNeg) (xs (nI i + 2).toNatClampNeg) hz2 ⟨D, hD12, hdn⟩ _ hV
  refine zgoI (bs' := (zWd G arc ac ard av ad ate atv apr apv ahi aik ak awd apa aro am (T.2.2.2.1) (T.2.2.2.2.1) (T.2.2.2.2.2.1) (T.2.2.2.2.2.2) (s8_isSettled brc T.2.1) (s0_power bc T.2.2.1) brd bv bd bte btv bpr bpv bk bwd bpa bro (s9_undone (s9_done (s9_change (s9_over (s9_off (s9_strength (s9_rules (s9_facts bm V.2.1) V.2.2.1) V.2.2.2.1) V.2.2.2.2.1) V.2.2.2.2.2.1) V.2.2.2.2.2.2.1) V.2.2.2.2.2.2.2.1) V.2.2.2.2.2.2.2.2))) hc [14] rfl rfl rfl hP hD hS hA (va_runV (As := [.int (xs (nI i + 1).toNatClampNeg), .int (xs (nI i + 2).toNatClampNeg)]) (rest := [.int T.1]) S (hc.2 _) (cwV 2 S.2.2.2.2 gL_law_X9_strength rfl rfl rfl (by decide +kernel) ⟨Nat.le_of_ble_eq_true rfl, Nat.le_of_ble_eq_true rfl⟩) (zpV hK hP hD (is := [14]) rfl rfl 14 rfl rfl (ci := 9) rfl) rfl rfl hl.1 rfl (lv_room (Nat.le_of_ble_eq_true rfl)) dL_law_339 ⟨hcl, hsl⟩) (fun H locs hn2 hP hD hS => ?_)
  refine lv_icmp_eq (tgt := 1116) hx hb dL_law_342 (by decide) (fun _ => ?_) (fun hne => absurd hm.1 hne)
  exact kk _ _ _ _ _ _ _ _ _ _ _ _ _ _ _ _ _ _ _ _ _ hm.2 hP hD hS hl
set_option maxHeartbeats 4000000 in
set_option maxRecDepth 100000 in
theorem wL_over (S : CallFix p m c cL_law 4 s #[Value.ref b] wsL_law RL) (hX : va_X b L xs s s.heap) (hbl : b < s.heap.size) (hbA : ¬ A b) (hL : L ≤ 3072) (hi : i + 6 ≤ L) (hcl : cells ≤ room_1.cells) (hsl : slots ≤ room_1.slots) (hK : zK G s) (hU : zU A s) (hA : ∀ q, s.heap.size ≤ q → A q) {sg : Nat → Nat} {y : Nat → S0} {D : Nat} {un : Int32} {brc : S8} {bc : S0} {brd : S4} {bv : S6} {bd : S0} {bte : S4} {btv : S6} {bpr : S3} {bpv : S6} {bk : S0} {bwd : S7} {bpa : S2} {bro : S5} {bm : S9} (hI : zInv sg y D un brc bc brd bv bpr bk bwd bpa bro bm) (hP : zP G (zWd G arc ac ard av ad ate atv apr apv ahi aik ak awd apa aro am sg y D un brc bc brd bv bd bte btv bpr bpv bk bwd bpa bro bm) H) (hD : zD A (zWd G arc ac ard av ad ate atv apr apv ahi aik ak awd apa aro am sg y D un brc bc brd bv bd bte btv bpr bpv bk bwd bpa bro bm)) (hS : va_S A s.heap H locs) (hl : lv_has ls 4 [(0, .ref b), (1, .ref (arc 0)), (2, .ref (am 0)), (3, .int (nI i))]) (kk : ∀ (sg : Nat → Nat) (y : Nat → S0) (D : Nat) (un : Int32) (brc : S8) (bc : S0) (brd : S4) (bv : S6) (bd : S0) (bte : S4) (btv : S6) (bpr : S3) (bpv : S6) (bk : S0) (bwd : S7) (bpa : S2) (bro : S5) (bm : S9) (H : Heap) (locs : List Loc) (ls : Array Slot), zInv sg y D un brc bc brd bv bpr bk bwd bpa bro bm → zP G (zWd G arc ac ard av ad ate atv apr apv ahi aik ak awd apa aro am sg y D un brc bc brd bv bd bte btv bpr bpv bk bwd bpa bro bm) H → zD A (zWd G arc ac ard av ad ate atv apr apv ahi aik ak awd apa aro am sg y D un brc bc brd bv bd bte btv bpr bpv bk bwd bpa bro bm) → va_S A s.heap H locs → lv_has ls 4 [(0, .ref b), (1, .ref (arc 0)), (2, .ref (am 0)), (3, .int (nI i))] → W p l e room_1 s m #[Value.ref b] below meth c H locs cells slots Q (F0 m 1116 ls [])) : W p l e room_1 s m #[Value.ref b] below meth c H locs cells slots Q (F0 m 347 ls []) := by
  obtain ⟨hx, hb, hml, hown, hts⟩ := id S
  obtain ⟨hD12, ⟨U, hun, hu9, hHis⟩, hdn, hRel, hcg, hSx, hSt, hImg, htp, hpp, hrw⟩ := id hI
  obtain ⟨hz1, hz2, hz5, hz6⟩ := zRel_hyps hRel
  have hz3 := zTape_len htp
  have hz4 := zTape_len9 htp
  have hz7 := zPap_len hpp
  have hz8 := zPap_len9 hpp
  have hz9 := zHis_un hHis hu9 hdn
  have hz10 := zRows_8 hrw
  have hz11 := zRows_9 hrw
  have hi1 : vp_in (nI i + 1) L := by rw [show (nI i + 1 : Int32) = nI (i + 1) from nI_add i 1]; exact vp_in_nI (by omega) (by omega)
  have hi2 : vp_in (nI i + 2) L := by rw [show (nI i + 2 : Int32) = nI (i + 2) from nI_add i 2]; exact vp_in_nI (by omega) (by omega)
  have hi3 : vp_in (nI i + 3) L := by rw [show (nI i + 3 : Int32) = nI (i + 3) from nI_add i 3]; exact vp_in_nI (by omega) (by omega)
  refine lv_aload_n hx hb dL_law_347 rfl (lv_at hl 1 rfl) ?_
  refine lv_aload_n hx hb dL_law_348 rfl (lv_at hl 0 rfl) ?_
  refine lv_iload_n hx hb dL_law_349 rfl (lv_at hl 3 rfl) ?_
  refine lv_iconst (v := 1) hx hb dL_law_350 (by decide) ?_
  refine lv_iadd hx hb dL_law_351 ?_
  refine va_sld hx hb hX hbl hbA hS hi1 dL_law_352 ?_
  refine lv_aload_n hx hb dL_law_353 rfl (lv_at hl 0 rfl) ?_
  refine lv_iload_n hx hb dL_law_354 rfl (lv_at hl 3 rfl) ?_
  refine lv_iconst (v := 2) hx hb dL_law_355 (by decide) ?_
  refine lv_iadd hx hb dL_law_356 ?_
  refine va_sld hx hb hX hbl hbA hS hi2 dL_law_357 ?_
  refine lv_aload_n hx hb dL_law_358 rfl (lv_at hl 0 rfl) ?_
  refine lv_iload_n hx hb dL_law_359 rfl (lv_at hl 3 rfl) ?_
  refine lv_iconst (v := 3) hx hb dL_law_360 (by decide) ?_
  refine lv_iadd hx hb dL_law_361 ?_
  refine va_sld hx hb hX hbl hbA hS hi3 dL_law_362 ?_
  obtain ⟨T, hT⟩ : ∃ z, FX8_over (g8_isSettled brc) (g0_kind bc) (g0_head bc) (g0_body bc) (g0_excepts bc) (g0_power bc) (g0_beats bc) (g0_facts bc) (g0_size bc) (g0_shut bc) sg y D un (xs (nI i + 1).toNatClampNeg) (xs (nI i + 2).toNatClampNeg) (xs (nI i + 3).toNatClampNeg) = z := ⟨_, rfl⟩
  obtain ⟨V, hV⟩ : ∃ z, FX9_over (g9_facts bm) (g9_rules bm) (g9_strength bm) (g9_off bm) (g9_over bm) (g9_change bm) (g9_done bm) (g9_undone bm) (xs (nI i + 1).toNatClampNeg) (xs (nI i + 2).toNatClampNeg) (xs (nI i + 3).toNatClampNeg) = z := ⟨_, rfl⟩
  have hm := m_over hI hT hV
  have hc := c_X8_over l G arc ac ahi aik (ard 0) (ad 0) (ate 0) (apr 0) (ak 0) (awd 0) (apa 0) (aro 0) brc bc sg y D un (xs (nI i + 1).toNatClampNeg) (xs (nI i + 2).toNatClampNeg) (xs (nI i + 3).toNatClampNeg) hz1 hHis.1 hD12 _ hT
  refine zgoI (bs' := (zWd G arc ac ard av ad ate atv apr apv ahi aik ak awd apa aro am (T.2.2.2.1) (T.2.2.2.2.1) (T.2.2.2.2.2.1) (T.2.2.2.2.2.2) (s8_isSettled brc T.2.1) (s0_beats bc T.2.2.1) brd bv bd bte btv bpr bpv bk bwd bpa bro bm)) hc [0, 1, 9, 15, 16, 17, 18, 19, 20, 21, 22, 23, 24, 25, 26, 27] rfl rfl rfl hP hD hS hA (va_runV (As := [.int (xs (nI i + 1).toNatClampNeg), .int (xs (nI i + 2).toNatClampNeg), .int (xs (nI i + 3).toNatClampNeg)]) (rest := []) S (hc.2 _) (cwV 3 S.2.2.2.2 gL_law_X8_over rfl rfl rfl (by decide +kernel) ⟨Nat.le_of_ble_eq_true rfl, Nat.le_of_ble_eq_true rfl⟩) (zpV hK hP hD (is := [0, 1, 9, 15, 16, 17, 18, 19, 20, 21, 22, 23, 24, 25, 26, 27]) rfl rfl 0 rfl rfl (ci := 8) rfl) rfl rfl hl.1 rfl (lv_room (Nat.le_of_ble_eq_true rfl)) dL_law_363 ⟨hcl, hsl⟩) (fun H locs hn1 hP hD hS => ?_)
  refine lv_aload_n hx hb dL_law_366 rfl (lv_at hl 2 rfl) ?_
  refine lv_aload_n hx hb dL_law_367 rfl (lv_at hl 0 rfl) ?_
  refine lv_iload_n hx hb dL_law_368 rfl (lv_at hl 3 rfl) ?_
  refine lv_iconst (v := 1) hx hb dL_law_369 (by decide) ?_
  refine lv_iadd hx hb dL_law_370 ?_
  refine va_sld hx hb hX hbl hbA hS hi1 dL_law_371 ?_
  refine lv_aload_n hx hb dL_law_372 rfl (lv_at hl 0 rfl) ?_
  refine lv_iload_n hx hb dL_law_373 rfl (lv_at hl 3 rfl) ?_
  refine lv_iconst (v := 2) hx hb dL_law_374 (by decide) ?_
  refine lv_iadd hx hb dL_law_375 ?_
  refine va_sld hx hb hX hbl hbA hS hi2 dL_law_376 ?_
  refine lv_aload_n hx hb dL_law_377 rfl (lv_at hl 0 rfl) ?_
  refine lv_iload_n hx hb dL_law_378 rfl (lv_at hl 3 rfl) ?_
  refine lv_iconst (v := 3) hx hb dL_law_379 (by decide) ?_
  refine lv_iadd hx hb dL_law_380 ?_
  refine va_sld hx hb hX hbl hbA hS hi3 dL_law_381 ?_
  have hc := c_X9_over l G am bm (xs (nI i + 1).toNatClampNeg) (xs (nI i + 2).toNatClampNeg) (xs (nI i + 3).toNatClampNeg) hz2 ⟨D, hD12, hdn⟩ _ hV
  refine zgoI (bs' := (zWd G arc ac ard av ad ate atv apr apv ahi aik ak awd apa aro am (T.2.2.2.1) (T.2.2.2.2.1) (T.2.2.2.2.2.1) (T.2.2.2.2.2.2) (s8_isSettled brc T.2.1) (s0_beats bc T.2.2.1) brd bv bd bte btv bpr bpv bk bwd bpa bro (s9_undone (s9_done (s9_change (s9_over (s9_off (s9_strength (s9_rules (s9_facts bm V.2.1) V.2.2.1) V.2.2.2.1) V.2.2.2.2.1) V.2.2.2.2.2.1) V.2.2.2.2.2.2.1) V.2.2.2.2.2.2.2.1) V.2.2.2.2.2.2.2.2))) hc [14] rfl rfl rfl hP hD hS hA (va_runV (As := [.int (xs (nI i + 1).toNatClampNeg), .int (xs (nI i + 2).toNatClampNeg), .int (xs (nI i + 3).toNatClampNeg)]) (rest := [.int T.1]) S (hc.2 _) (cwV 3 S.2.2.2.2 gL_law_X9_over rfl rfl rfl (by decide +kernel) ⟨Nat.le_of_ble_eq_true rfl, Nat.le_of_ble_eq_true rfl⟩) (zpV hK hP hD (is := [14]) rfl rfl 14 rfl rfl (ci := 9) rfl) rfl rfl hl.1 rfl (lv_room (Nat.le_of_ble_eq_true rfl)) dL_law_382 ⟨hcl, hsl⟩) (fun H locs hn2 hP hD hS => ?_)
  refine lv_icmp_eq (tgt := 1116) hx hb dL_law_385 (by decide) (fun _ => ?_) (fun hne => absurd hm.1 hne)
  exact kk _ _ _ _ _ _ _ _ _ _ _ _ _ _ _ _ _ _ _ _ _ hm.2 hP hD hS hl
end ZWL0
