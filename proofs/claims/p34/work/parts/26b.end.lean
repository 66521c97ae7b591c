/-! the law behind its rounds -/
theorem zgr_known (z : S6) (x : Nat → Int32) : g6_known (s6_reach z x) = g6_known z := va_up_ne (k := 6) (j := 0) z.2 x (by decide)
theorem zgr_strictFor (z : S6) (x : Nat → Int32) : g6_strictFor (s6_reach z x) = g6_strictFor z := va_up_ne (k := 6) (j := 2) z.2 x (by decide)
theorem zgr_forwardFor (z : S6) (x : Nat → Int32) : g6_forwardFor (s6_reach z x) = g6_forwardFor z := va_up_ne (k := 6) (j := 3) z.2 x (by decide)
theorem zgr_allFor (z : S6) (x : Nat → Int32) : g6_allFor (s6_reach z x) = g6_allFor z := va_up_ne (k := 6) (j := 4) z.2 x (by decide)
theorem zgr_above (z : S6) (x : Nat → Int32) : g6_above (s6_reach z x) = g6_above z := va_up_ne (k := 6) (j := 5) z.2 x (by decide)
theorem zgr_facts (z : S6) (x : Nat → Int32) : g6_facts (s6_reach z x) = g6_facts z := rfl
theorem zgr_applies (z : S6) (x : Nat → Int32) : g6_applies (s6_reach z x) = g6_applies z := rfl
theorem zgr_falls (z : S6) (x : Nat → Int32) : g6_falls (s6_reach z x) = g6_falls z := rfl
theorem zgr_sureBodies (z : S6) (x : Nat → Int32) : g6_sureBodies (s6_reach z x) = g6_sureBodies z := rfl
theorem zgr_neverBodies (z : S6) (x : Nat → Int32) : g6_neverBodies (s6_reach z x) = g6_neverBodies z := rfl
section ZLAWE
variable {p : Program} {l : Launch} {e : Env} {s : State} {m : MethodId} {below : List Frame} {meth : Method} {c : Code} {b L : Nat} {xs : Nat → Int32} {G : zG} {A : Nat → Prop} {NR k : Nat} {of : Nat → Int32}
set_option maxHeartbeats 4000000 in
set_option maxRecDepth 100000 in
theorem law_end (arc ac ard av atf awd apa ahi : Nat → Nat) (aik : Nat → Nat → Nat) (ot oth och ok oro : Nat) (brc : S8) (bc : S0) (brd : S4) (bv : S6) (btf : S10) (bwd : S7) (bpa : S2) (sg : Nat → Nat) (y : Nat → S0) (D : Nat) (un : Int32) (hN : NR ≤ 10) (hset : ¬ g8_isSettled brc = 0) (hsz : g0_size bc = nI NR) (hhd : ∀ r : Nat, r < 16 → vp_in (g0_head bc r) 20) (hh : zSC (g0_kind bc) (g0_head bc) (g0_body bc) (g0_excepts bc) (g0_power bc) (g0_beats bc) of (g0_facts bc) NR k (g4_came brd) (g6_known bv) (g6_allFor bv)) (hw : zVw NR (g0_kind bc) (g0_head bc) (g0_power bc) of (g0_beats bc) (g0_facts bc) (g6_strictFor bv) (g6_forwardFor bv) (g6_allFor bv) (g6_above bv) (g6_facts bv)) (hg : zWg NR (g0_body bc) (g0_excepts bc) (g6_known bv) (g6_applies bv) (g6_falls bv) (g6_sureBodies bv) (g6_neverBodies bv)) (hB : zBt NR (g0_beats bc)) (S : CallFix p m c cL_law 18 s #[Value.ref b] wsL_law RL) (hr : meth.sig.returnType = ret) (hlocks : meth.locks = false) (hK : zK G s) (hA : ∀ q, s.heap.size ≤ q → A q) (hA2 : ∀ q, A q → s.heap.size ≤ q) {cells slots : Nat} (hcl : cells ≤ 100000) (hsl : slots ≤ 100000) {H : Heap} {locs : List Loc} {ls : Array Slot} (hT : ∀ t : Nat, t < 4 → zM (g10_x btf t) 20 (zah (g4_came brd) (k + 1) t)) (hP : zP G (w8 G arc (ac 0) (ard 0) ot oth och (ahi 0) ok (awd 0) (apa 0) oro brc :: w0 G ac bc :: w4 G ard (av 0) brd :: w6 G av bv :: w10 G atf btf :: w7 G awd bwd :: w2 G apa bpa :: w1 G ahi aik sg (nI D) un :: hcs G aik y) H) (hD : zD A (w8 G arc (ac 0) (ard 0) ot oth och (ahi 0) ok (awd 0) (apa 0) oro brc :: w0 G ac bc :: w4 G ard (av 0) brd :: w6 G av bv :: w10 G atf btf :: w7 G awd bwd :: w2 G apa bpa :: w1 G ahi aik sg (nI D) un :: hcs G aik y)) (hS : va_S A s.heap H locs) (hl : lv_has ls 18 [(1, .int (nI NR)), (2, .ref (arc 0)), (3, .ref (atf 0))]) : W p l e room_1 s m #[Value.ref b] below meth c H locs cells slots (lw_Z below #[Value.ref b] s) (F0 m 256 ls []) := by
  have hx := S.1
  have hb := S.2.1
  have hr0 : ∀ a : Nat, a ≤ 100001 → a ≤ room_1.cells := fun a h => Nat.le_trans h (Nat.le_of_ble_eq_true rfl)
  have hr1 : ∀ a : Nat, a ≤ 100010 → a ≤ room_1.slots := fun a h => Nat.le_trans h (Nat.le_of_ble_eq_true rfl)
  have hN16 : NR ≤ 16 := by omega
  have hTv : ∀ t : Nat, t < 4 → g10_x btf t = g6_known bv t := fun t ht => zM_eq (hT t ht) (hh.2.2.2.2.2.2.2 t ht) (fun _ _ => rfl)
  have hcz : ∃ N : Nat, N ≤ 16 ∧ g0_size bc = nI N := ⟨NR, hN16, hsz⟩
  refine seg_L_law_2 G arc ac ard av atf awd apa ahi aik ot oth och ok oro brc bc brd bv btf bwd bpa sg y D un (nI NR) hhd hcz hset (1, zboth (g6_known bv 2)) (q_seg2 hh hT) rfl S hK hA (hr0 _ (by omega)) (hr1 _ (by omega)) hP hD hS hl (fun H locs ls hP hD hS hl => ?_)
  refine lv_iload_n hx hb dL_law_413 rfl (lv_at hl 0 rfl) ?_
  refine zg_newa (N := NR) S (by decide +kernel) hK hP hD hS hA rfl (by omega) (hr0 _ (by omega)) (hr1 _ (by omega)) dL_law_414 (fun q7 H hP hD hS => ?_)
  refine lv_astore (lv' := [(7, .ref q7), (1, .int (nI NR)), (2, .ref (arc 0)), (3, .ref (atf 0)), (6, .int (zboth (g6_known bv 2)))]) hx hb dL_law_416 hl (by decide) rfl (fun ls hl => ?_)
  have hP2 : zP G (w8 G arc (ac 0) (ard 0) ot oth och (ahi 0) ok (awd 0) (apa 0) oro brc :: w0 G ac bc :: w4 G ard (av 0) brd :: w6 G av bv :: w10 G atf btf :: w11 G (zad [q7]) NR (fun _ => 0 : S11) :: w7 G awd bwd :: w2 G apa bpa :: w1 G ahi aik sg (nI D) un :: hcs G aik y) H := zP.sub hP (is := [0, 1, 2, 3, 4, 21, 5, 6, 7, 8, 9, 10, 11, 12, 13, 14, 15, 16, 17, 18, 19, 20]) rfl
  have hD2 : zD A (w8 G arc (ac 0) (ard 0) ot oth och (ahi 0) ok (awd 0) (apa 0) oro brc :: w0 G ac bc :: w4 G ard (av 0) brd :: w6 G av bv :: w10 G atf btf :: w11 G (zad [q7]) NR (fun _ => 0 : S11) :: w7 G awd bwd :: w2 G apa bpa :: w1 G ahi aik sg (nI D) un :: hcs G aik y) := zD.sub hD [0, 1, 2, 3, 4, 21, 5, 6, 7, 8, 9, 10, 11, 12, 13, 14, 15, 16, 17, 18, 19, 20] (by decide) rfl
  obtain ⟨w3, hw3, e3⟩ := q_seg3 (c_kind := g0_kind bc) (c_head := g0_head bc) (c_body := g0_body bc) (c_excepts := g0_excepts bc) (c_power := g0_power bc) (c_beats := g0_beats bc) (ab := fun _ => 0) (c_shut := g0_shut bc) (x6 := zboth (g6_known bv 2)) hN16 hB.1 hB.2
  refine seg_L_law_3 G arc ac ard av atf (zad [q7]) awd apa ahi aik ot oth och ok oro brc bc brd bv btf (fun _ => 0 : S11) bwd bpa sg y D un NR (nI NR) (zboth (g6_known bv 2)) rfl hN hcz (1, w3, zhm (g0_beats bc) NR) (by rw [hsz]; exact e3) rfl S hK hA (hr0 _ (by omega)) (hr1 _ (by omega)) hP2 hD2 hS (lv_sub hl [1, 2, 3, 4, 0] rfl) (fun H locs ls hP hD hS hl => ?_)
  obtain ⟨x4, hl4, hu4, e4⟩ := q_seg4 (ab := w3) (sg := g0_power bc) (ov := g0_beats bc) (x6 := zboth (g6_known bv 2)) (x8 := zhm (g0_beats bc) NR) hN hw3
  refine seg_L_law_4 G arc ac ard av atf (zad [q7]) awd apa ahi aik ot oth och ok oro brc bc brd bv btf (s11_x (fun _ => 0 : S11) w3) bwd bpa sg y D un NR (nI NR) (zboth (g6_known bv 2)) (zhm (g0_beats bc) NR) rfl hN (1, x4) e4 rfl S hK hA (hr0 _ (by omega)) (hr1 _ (by omega)) hP hD hS hl (fun H locs ls hP hD hS hl => ?_)
  obtain ⟨x5, hl5, hu5, e5⟩ := q_seg5 (ab := w3) (sg := g0_power bc) (ov := g0_beats bc) (x6 := zboth (g6_known bv 2)) (x8 := zhm (g0_beats bc) NR) (x9 := x4) hN hw3 hl4 hu4
  refine seg_L_law_5 G arc ac ard av atf (zad [q7]) awd apa ahi aik ot oth och ok oro brc bc brd bv btf (s11_x (fun _ => 0 : S11) w3) bwd bpa sg y D un NR (nI NR) (zboth (g6_known bv 2)) (zhm (g0_beats bc) NR) x4 rfl hN (1, x5) e5 rfl S hK hA (hr0 _ (by omega)) (hr1 _ (by omega)) hP hD hS hl (fun H locs ls hP hD hS hl => ?_)
  obtain ⟨w6, e6⟩ := q_seg6 (v_above := g6_above bv) (v_reach := g6_reach bv) (tf := g10_x btf) (x9 := x5) hh hw.2.2 hTv hl5 hu5
  refine seg_L_law_6 G arc ac ard av atf (zad [q7]) awd apa ahi aik ot oth och ok oro brc bc brd bv btf (s11_x (fun _ => 0 : S11) w3) bwd bpa sg y D un NR (nI NR) (zboth (g6_known bv 2)) (zhm (g0_beats bc) NR) x5 rfl hN hhd hcz hset (1, w6) (by rw [hsz]; exact e6) rfl S hK hA (hr0 _ (by omega)) (hr1 _ (by omega)) hP hD hS hl (fun H locs ls hP hD hS hl => ?_)
  have e7 := q_seg7 (c_kind := g0_kind bc) (c_head := g0_head bc) (c_power := g0_power bc) (c_beats := g0_beats bc) (c_shut := g0_shut bc) (tf := g10_x btf) hN16 hTv hg
  refine seg_L_law_7 G arc ac ard av atf (zad [q7]) awd apa ahi aik ot oth och ok oro brc bc brd (s6_reach bv w6) btf (s11_x (fun _ => 0 : S11) w3) bwd bpa sg y D un NR (nI NR) rfl hN hhd hcz hset 1 (by rw [hsz, zgr_applies, zgr_falls]; exact e7) rfl S hK hA (hr0 _ (by omega)) (hr1 _ (by omega)) hP hD hS hl (fun H locs ls hP hD hS hl => ?_)
  have e8 := q_seg8 (c_shut := g0_shut bc) (tf := g10_x btf) (ab := w3) hN16 hTv hw hg hw3
  refine seg_L_law_8 G arc ac ard av atf (zad [q7]) awd apa ahi aik ot oth och ok oro brc bc brd (s6_reach bv w6) btf (s11_x (fun _ => 0 : S11) w3) bwd bpa sg y D un NR (nI NR) rfl hN hhd hcz hset 1 (by rw [hsz, zgr_forwardFor, zgr_allFor, zgr_above, zgr_applies, zgr_falls]; exact e8) rfl S hK hA (hr0 _ (by omega)) (hr1 _ (by omega)) hP hD hS hl (fun H locs ls hP hD hS hl => ?_)
  refine lv_iconst (v := 1) hx hb dL_law_1096 (by decide) ?_
  refine va_forget (fun q hq => hA2 _ (hS.2.2 q hq)) ?_
  refine W.widen (k := 600000) (n := 7302250) (hr0 _ (by omega)) (hr1 _ (by omega)) ?_
  exact lw_ret hx hb hr hlocks dL_law_1097
end ZLAWE
