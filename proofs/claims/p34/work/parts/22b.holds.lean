def rmL_holds : Room := { frames := 7, cells := 0, slots := 0, locals := 151 }
set_option maxHeartbeats 40000000 in
set_option maxRecDepth 100000 in
theorem c_L_holds (l : Launch) (G : zG) (arc : Nat → Nat) (ac : Nat → Nat) (ard : Nat → Nat) (av : Nat → Nat) (atf : Nat → Nat) (awd : Nat → Nat) (apa : Nat → Nat) (ahi : Nat → Nat) (aik : Nat → Nat → Nat) (orc_thought : Nat) (orc_thoughtRounds : Nat) (orc_chain : Nat) (orc_kept : Nat) (orc_rows : Nat) (brc : S8) (bc : S0) (brd : S4) (bv : S6) (btf : S10) (bwd : S7) (bpa : S2) (sg : Nat → Nat) (y : Nat → S0) (D : Nat) (un : Int32) (x1 : Int32) (x2 : Int32) (hh_c_head : ∀ r : Nat, r < 16 → vp_in (g0_head bc r) 20) (hz_c_size : ∃ N : Nat, N ≤ 16 ∧ g0_size bc = nI N) (hu_rc_isSettled : ¬ g8_isSettled brc = 0) (T : Int32) (hT : FL_holds (g0_kind bc) (g0_head bc) (g0_body bc) (g0_excepts bc) (g0_power bc) (g0_beats bc) (g0_facts bc) (g0_size bc) (g0_shut bc) (g6_allFor bv) (g10_x btf) x1 x2 = T) : zI l yL_holds wsL_holds rmL_holds .boolean G [.ref (arc 0), .int x1, .int x2, .ref (atf 0)] (w8 G arc (ac 0) (ard 0) orc_thought orc_thoughtRounds orc_chain (ahi 0) orc_kept (awd 0) (apa 0) orc_rows brc :: w0 G ac bc :: w4 G ard (av 0) brd :: w6 G av bv :: w10 G atf btf :: w7 G awd bwd :: w2 G apa bpa :: w1 G ahi aik sg (nI D) un :: hcs G aik y) T (w8 G arc (ac 0) (ard 0) orc_thought orc_thoughtRounds orc_chain (ahi 0) orc_kept (awd 0) (apa 0) orc_rows brc :: w0 G ac bc :: w4 G ard (av 0) brd :: w6 G av bv :: w10 G atf btf :: w7 G awd bwd :: w2 G apa bpa :: w1 G ahi aik sg (nI D) un :: hcs G aik y) := by
  refine zI.mk (cc := cL_holds) (maxL := 18) (by decide +kernel) rfl (Nat.le_of_ble_eq_true rfl) rfl ?_
  intro p e s m args below meth c Q A ls S hK hD hA hP hl hret
  have hx := S.1
  have hb := S.2.1
  have hS : va_S A s.heap s.heap [] := va_S.rf
  have hl : lv_has ls 18 [(0, .ref (arc 0)), (1, .int x1), (2, .int x2), (3, .ref (atf 0))] := hl
  obtain ⟨N_c_size, hN_c_size, hs_c_size⟩ := id hz_c_size
  have hE := hT.symm.trans (FL_holds.eq_1 _ _ _ _ _ _ _ _ _ _ _ _ _)
  refine lv_aload_n hx hb dL_holds_0 rfl (lv_at hl 0 rfl) ?_
  refine lv_iconst (v := 0) hx hb dL_holds_1 (by decide) ?_
  obtain ⟨t2, ht2⟩ : ∃ z, FX8_count_0 (g0_facts bc) 0 = z := ⟨_, rfl⟩
  have hE := hE.trans (bnd_eq ht2)
  have hc := c_X8_count_0 l G arc ac ard av awd apa ahi aik orc_thought orc_thoughtRounds orc_chain orc_kept orc_rows brc bc brd bv bwd bpa sg y D un 0 (hh_c_head) (hz_c_size) (hu_rc_isSettled) (rfl) _ ht2
  refine zgoI (bs' := (w8 G arc (ac 0) (ard 0) orc_thought orc_thoughtRounds orc_chain (ahi 0) orc_kept (awd 0) (apa 0) orc_rows brc :: w0 G ac bc :: w4 G ard (av 0) brd :: w6 G av bv :: w10 G atf btf :: w7 G awd bwd :: w2 G apa bpa :: w1 G ahi aik sg (nI D) un :: hcs G aik y)) hc [0, 1, 2, 3, 5, 6, 7, 8, 9, 10, 11, 12, 13, 14, 15, 16, 17, 18, 19, 20] rfl rfl rfl hP hD hS hA (va_runV (As := [.int 0]) (rest := []) S (hc.2 _) (cwV 1 S.2.2.2.2 gL_holds_X8_count rfl rfl rfl (by decide +kernel) ⟨Nat.le_of_ble_eq_true rfl, Nat.le_of_ble_eq_true rfl⟩) (zpV hK hP hD (is := [0, 1, 2, 3, 5, 6, 7, 8, 9, 10, 11, 12, 13, 14, 15, 16, 17, 18, 19, 20]) rfl rfl 0 rfl rfl (ci := 8) rfl) rfl rfl hl.1 rfl (lv_room (Nat.le_of_ble_eq_true rfl)) dL_holds_2 ⟨Nat.zero_le _, Nat.zero_le _⟩) (fun H locs hn2 hP hD hS => ?_)
  refine lv_iload_n hx hb dL_holds_5 rfl (lv_at hl 2 rfl) ?_
  obtain ⟨t6, ht6⟩ : ∃ z, FL_has t2 x2 = z := ⟨_, rfl⟩
  have hE := hE.trans (bnd_eq ht6)
  have hc := c_L_has l G t2 x2 _ ht6
  refine zgoR (va_runS (As := [.int t2, .int x2]) (rest := []) S (hc _) (va_cwS 2 S.2.2.2.2 gL_holds_L_has rfl rfl rfl (by decide +kernel) ⟨Nat.le_of_ble_eq_true rfl, Nat.le_of_ble_eq_true rfl⟩) (zpS hK hP hD (is := []) rfl rfl) rfl rfl hl.1 rfl (lv_room (Nat.le_of_ble_eq_true rfl)) dL_holds_6 ⟨Nat.zero_le _, Nat.zero_le _⟩) (fun hn6 => ?_)
  have hbt6 : zbo t6 := by rw [← ht6]; exact zbo_has _ _
  refine lv_istore (lv' := [(4, .int t6), (0, .ref (arc 0)), (1, .int x1), (2, .int x2), (3, .ref (atf 0))]) hx hb dL_holds_9 hl (by decide) rfl (fun ls hl => ?_)
  refine lv_iload_n hx hb dL_holds_11 rfl (lv_at hl 3 rfl) ?_
  refine lv_bipush (v := 10) hx hb dL_holds_12 (by decide) ?_
  refine lv_iadd hx hb dL_holds_14 ?_
  refine lv_bipush (v := 20) hx hb dL_holds_15 (by decide) ?_
  refine lv_irem hx hb dL_holds_17 (by decide) ?_
  refine lv_istore (lv' := [(5, .int ((x2 + 10) - (x2 + 10) / 20 * 20)), (4, .int t6), (0, .ref (arc 0)), (1, .int x1), (2, .int x2), (3, .ref (atf 0))]) hx hb dL_holds_18 hl (by decide) rfl (fun ls hl => ?_)
  refine lv_aload_n hx hb dL_holds_20 rfl (lv_at hl 2 rfl) ?_
  refine lv_iload_n hx hb dL_holds_21 rfl (lv_at hl 4 rfl) ?_
  obtain ⟨t22, ht22⟩ : ∃ z, FX8_rulesFor_s (g6_allFor bv) x2 = z := ⟨_, rfl⟩
  have hE := hE.trans (bnd_eq ht22)
  have hc := c_X8_rulesFor_s l G arc ac ard av orc_thought orc_thoughtRounds orc_chain (ahi 0) orc_kept (awd 0) (apa 0) orc_rows brc bc brd bv x2 (hh_c_head) (hz_c_size) (hu_rc_isSettled) _ ht22
  refine zgoI (bs' := (w8 G arc (ac 0) (ard 0) orc_thought orc_thoughtRounds orc_chain (ahi 0) orc_kept (awd 0) (apa 0) orc_rows brc :: w0 G ac bc :: w4 G ard (av 0) brd :: w6 G av bv :: w10 G atf btf :: w7 G awd bwd :: w2 G apa bpa :: w1 G ahi aik sg (nI D) un :: hcs G aik y)) hc [0, 1, 2, 3] rfl rfl rfl hP hD hS hA (va_runV (As := [.int x2]) (rest := []) S (hc.2 _) (cwV 1 S.2.2.2.2 gL_holds_X8_rulesFor rfl rfl rfl (by decide +kernel) ⟨Nat.le_of_ble_eq_true rfl, Nat.le_of_ble_eq_true rfl⟩) (zpV hK hP hD (is := [0, 1, 2, 3]) rfl rfl 0 rfl rfl (ci := 8) rfl) rfl rfl hl.1 rfl (lv_room (Nat.le_of_ble_eq_true rfl)) dL_holds_22 ⟨Nat.zero_le _, Nat.zero_le _⟩) (fun H locs hn22 hP hD hS => ?_)
  refine lv_istore (lv' := [(6, .int t22), (5, .int ((x2 + 10) - (x2 + 10) / 20 * 20)), (4, .int t6), (0, .ref (arc 0)), (1, .int x1), (2, .int x2), (3, .ref (atf 0))]) hx hb dL_holds_25 hl (by decide) rfl (fun ls hl => ?_)
  refine lv_aload_n hx hb dL_holds_27 rfl (lv_at hl 3 rfl) ?_
  refine lv_iload hx hb dL_holds_28 (lv_at hl 1 rfl) ?_
  obtain ⟨t30, ht30⟩ : ∃ z, FX8_rulesFor_s (g6_allFor bv) ((x2 + 10) - (x2 + 10) / 20 * 20) = z := ⟨_, rfl⟩
  have hE := hE.trans (bnd_eq ht30)
  have hc := c_X8_rulesFor_s l G arc ac ard av orc_thought orc_thoughtRounds orc_chain (ahi 0) orc_kept (awd 0) (apa 0) orc_rows brc bc brd bv ((x2 + 10) - (x2 + 10) / 20 * 20) (hh_c_head) (hz_c_size) (hu_rc_isSettled) _ ht30
  refine zgoI (bs' := (w8 G arc (ac 0) (ard 0) orc_thought orc_thoughtRounds orc_chain (ahi 0) orc_kept (awd 0) (apa 0) orc_rows brc :: w0 G ac bc :: w4 G ard (av 0) brd :: w6 G av bv :: w10 G atf btf :: w7 G awd bwd :: w2 G apa bpa :: w1 G ahi aik sg (nI D) un :: hcs G aik y)) hc [0, 1, 2, 3] rfl rfl rfl hP hD hS hA (va_runV (As := [.int ((x2 + 10) - (x2 + 10) / 20 * 20)]) (rest := []) S (hc.2 _) (cwV 1 S.2.2.2.2 gL_holds_X8_rulesFor rfl rfl rfl (by decide +kernel) ⟨Nat.le_of_ble_eq_true rfl, Nat.le_of_ble_eq_true rfl⟩) (zpV hK hP hD (is := [0, 1, 2, 3]) rfl rfl 0 rfl rfl (ci := 8) rfl) rfl rfl hl.1 rfl (lv_room (Nat.le_of_ble_eq_true rfl)) dL_holds_30 ⟨Nat.zero_le _, Nat.zero_le _⟩) (fun H locs hn30 hP hD hS => ?_)
  refine lv_istore (lv' := [(7, .int t30), (6, .int t22), (5, .int ((x2 + 10) - (x2 + 10) / 20 * 20)), (4, .int t6), (0, .ref (arc 0)), (1, .int x1), (2, .int x2), (3, .ref (atf 0))]) hx hb dL_holds_33 hl (by decide) rfl (fun ls hl => ?_)
  refine lv_iload hx hb dL_holds_35 (lv_at hl 3 rfl) ?_
  refine lv_istore (lv' := [(8, .int t6), (7, .int t30), (6, .int t22), (5, .int ((x2 + 10) - (x2 + 10) / 20 * 20)), (4, .int t6), (0, .ref (arc 0)), (1, .int x1), (2, .int x2), (3, .ref (atf 0))]) hx hb dL_holds_37 hl (by decide) rfl (fun ls hl => ?_)
  refine lv_iload hx hb dL_holds_39 (lv_at hl 4 rfl) ?_
  have hB49 : ∀ (k0_49 : Int32) (H : Heap) (locs : List Loc) (ls : Array Slot), (zbo k0_49) → T = FL_holds_49 (g0_kind bc) (g0_head bc) (g0_body bc) (g0_excepts bc) (g0_power bc) (g0_beats bc) (g0_facts bc) (g0_size bc) (g0_shut bc) (g6_allFor bv) (g10_x btf) x1 x2 ((x2 + 10) - (x2 + 10) / 20 * 20) t22 t30 t6 k0_49 → zP G (w8 G arc (ac 0) (ard 0) orc_thought orc_thoughtRounds orc_chain (ahi 0) orc_kept (awd 0) (apa 0) orc_rows brc :: w0 G ac bc :: w4 G ard (av 0) brd :: w6 G av bv :: w10 G atf btf :: w7 G awd bwd :: w2 G apa bpa :: w1 G ahi aik sg (nI D) un :: hcs G aik y) H → zD A (w8 G arc (ac 0) (ard 0) orc_thought orc_thoughtRounds orc_chain (ahi 0) orc_kept (awd 0) (apa 0) orc_rows brc :: w0 G ac bc :: w4 G ard (av 0) brd :: w6 G av bv :: w10 G atf btf :: w7 G awd bwd :: w2 G apa bpa :: w1 G ahi aik sg (nI D) un :: hcs G aik y) → va_S A s.heap H locs → lv_has ls 18 [(0, .ref (arc 0)), (1, .int x1), (2, .int x2), (3, .ref (atf 0)), (5, .int ((x2 + 10) - (x2 + 10) / 20 * 20)), (6, .int t22), (7, .int t30), (8, .int t6)] → W p l e rmL_holds s m args below meth c H locs 0 0 Q (F0 m 49 ls [.int k0_49]) := by
    intro k0_49 H locs ls hbk0_49 hE hP hD hS hl
    have hE := hE.trans (FL_holds_49.eq_1 _ _ _ _ _ _ _ _ _ _ _ _ _ _ _ _ _ _)
    refine lv_istore (lv' := [(9, .int k0_49), (0, .ref (arc 0)), (1, .int x1), (2, .int x2), (3, .ref (atf 0)), (5, .int ((x2 + 10) - (x2 + 10) / 20 * 20)), (6, .int t22), (7, .int t30), (8, .int t6)]) hx hb dL_holds_49 hl (by decide) rfl (fun ls hl => ?_)
    refine lv_iconst (v := 0) hx hb dL_holds_51 (by decide) ?_
    refine lv_istore (lv' := [(10, .int 0), (9, .int k0_49), (0, .ref (arc 0)), (1, .int x1), (2, .int x2), (3, .ref (atf 0)), (5, .int ((x2 + 10) - (x2 + 10) / 20 * 20)), (6, .int t22), (7, .int t30), (8, .int t6)]) hx hb dL_holds_52 hl (by decide) rfl (fun ls hl => ?_)
    refine lv_iconst (v := 1) hx hb dL_holds_54 (by decide) ?_
    refine lv_istore (lv' := [(11, .int 1), (10, .int 0), (9, .int k0_49), (0, .ref (arc 0)), (1, .int x1), (2, .int x2), (3, .ref (atf 0)), (5, .int ((x2 + 10) - (x2 + 10) / 20 * 20)), (6, .int t22), (7, .int t30), (8, .int t6)]) hx hb dL_holds_55 hl (by decide) rfl (fun ls hl => ?_)
    refine lv_iconst (v := 0) hx hb dL_holds_57 (by decide) ?_
    have hB187 : ∀ (x8_187 : Int32) (x9_187 : Int32) (x10_187 : Int32) (x11_187 : Int32) (H : Heap) (locs : List Loc) (ls : Array Slot), (zbo x8_187) → (zbo x9_187) → T = FL_holds_187 (g0_kind bc) (g0_head bc) (g0_body bc) (g0_excepts bc) (g0_power bc) (g0_beats bc) (g0_facts bc) (g0_size bc) (g0_shut bc) (g6_allFor bv) (g10_x btf) x1 x2 ((x2 + 10) - (x2 + 10) / 20 * 20) t22 t30 x8_187 x9_187 x10_187 x11_187 → zP G (w8 G arc (ac 0) (ard 0) orc_thought orc_thoughtRounds orc_chain (ahi 0) orc_kept (awd 0) (apa 0) orc_rows brc :: w0 G ac bc :: w4 G ard (av 0) brd :: w6 G av bv :: w10 G atf btf :: w7 G awd bwd :: w2 G apa bpa :: w1 G ahi aik sg (nI D) un :: hcs G aik y) H → zD A (w8 G arc (ac 0) (ard 0) orc_thought orc_thoughtRounds orc_chain (ahi 0) orc_kept (awd 0) (apa 0) orc_rows brc :: w0 G ac bc :: w4 G ard (av 0) brd :: w6 G av bv :: w10 G atf btf :: w7 G awd bwd :: w2 G apa bpa :: w1 G ahi aik sg (nI D) un :: hcs G aik y) → va_S A s.heap H locs → lv_has ls 18 [(0, .ref (arc 0)), (1, .int x1), (2, .int x2), (3, .ref (atf 0)), (5, .int ((x2 + 10) - (x2 + 10) / 20 * 20)), (6, .int t22), (7, .int t30), (8, .int x8_187), (9, .int x9_187), (10, .int x10_187), (11, .int x11_187)] → W p l e rmL_holds s m args below meth c H locs 0 0 Q (F0 m 187 ls []) := by
      intro x8_187 x9_187 x10_187 x11_187 H locs ls hbx8_187 hbx9_187 hE hP hD hS hl
      have hE := hE.trans (FL_holds_187.eq_1 _ _ _ _ _ _ _ _ _ _ _ _ _ _ _ _ _ _ _ _)
      refine lv_iconst (v := 1) hx hb dL_holds_187 (by decide) ?_
      refine lv_istore (lv' := [(12, .int 1), (0, .ref (arc 0)), (1, .int x1), (2, .int x2), (3, .ref (atf 0)), (5, .int ((x2 + 10) - (x2 + 10) / 20 * 20)), (6, .int t22), (7, .int t30), (8, .int x8_187), (9, .int x9_187), (10, .int x10_187), (11, .int x11_187)]) hx hb dL_holds_188 hl (by decide) rfl (fun ls hl => ?_)
      refine lv_iconst (v := 0) hx hb dL_holds_190 (by decide) ?_
      refine lv_istore (lv' := [(13, .int 0), (12, .int 1), (0, .ref (arc 0)), (1, .int x1), (2, .int x2), (3, .ref (atf 0)), (5, .int ((x2 + 10) - (x2 + 10) / 20 * 20)), (6, .int t22), (7, .int t30), (8, .int x8_187), (9, .int x9_187), (10, .int x10_187), (11, .int x11_187)]) hx hb dL_holds_191 hl (by decide) rfl (fun ls hl => ?_)
      refine lv_iconst (v := 0) hx hb dL_holds_193 (by decide) ?_
      have hB360 : ∀ (x12_360 : Int32) (x13_360 : Int32) (H : Heap) (locs : List Loc) (ls : Array Slot), T = FL_holds_360 (g0_kind bc) (g0_head bc) (g0_body bc) (g0_excepts bc) (g0_power bc) (g0_beats bc) (g0_facts bc) (g0_size bc) (g0_shut bc) (g6_allFor bv) (g10_x btf) x1 x2 ((x2 + 10) - (x2 + 10) / 20 * 20) x8_187 x9_187 x10_187 x11_187 x12_360 x13_360 → zP G (w8 G arc (ac 0) (ard 0) orc_thought orc_thoughtRounds orc_chain (ahi 0) orc_kept (awd 0) (apa 0) orc_rows brc :: w0 G ac bc :: w4 G ard (av 0) brd :: w6 G av bv :: w10 G atf btf :: w7 G awd bwd :: w2 G apa bpa :: w1 G ahi aik sg (nI D) un :: hcs G aik y) H → zD A (w8 G arc (ac 0) (ard 0) orc_thought orc_thoughtRounds orc_chain (ahi 0) orc_kept (awd 0) (apa 0) orc_rows brc :: w0 G ac bc :: w4 G ard (av 0) brd :: w6 G av bv :: w10 G atf btf :: w7 G awd bwd :: w2 G apa bpa :: w1 G ahi aik sg (nI D) un :: hcs G aik y) → va_S A s.heap H locs → lv_has ls 18 [(1, .int x1), (2, .int x2), (3, .ref (atf 0)), (5, .int ((x2 + 10) - (x2 + 10) / 20 * 20)), (8, .int x8_187), (9, .int x9_187), (10, .int x10_187), (11, .int x11_187), (12, .int x12_360), (13, .int x13_360)] → W p l e rmL_holds s m args below meth c H locs 0 0 Q (F0 m 360 ls []) := by
        intro x12_360 x13_360 H locs ls hE hP hD hS hl
        have hE := hE.trans (FL_holds_360.eq_1 _ _ _ _ _ _ _ _ _ _ _ _ _ _ _ _ _ _ _ _)
        refine lv_iload_n hx hb dL_holds_360 rfl (lv_at hl 0 rfl) ?_
        refine lv_if_ne (tgt := 367) hx hb dL_holds_361 (by decide) (fun c361 => ?_) (fun c361 => ?_)
        · have hE := hE.trans (if_neg c361)
          refine lv_iload_n hx hb dL_holds_367 rfl (lv_at hl 0 rfl) ?_
          refine lv_iconst (v := 1) hx hb dL_holds_368 (by decide) ?_
          refine lv_icmp_ne (tgt := 375) hx hb dL_holds_369 (by decide) (fun c369 => ?_) (fun c369 => ?_)
          · have hE := hE.trans (if_neg c369)
            refine lv_iload_n hx hb dL_holds_375 rfl (lv_at hl 0 rfl) ?_
            refine lv_iconst (v := 2) hx hb dL_holds_376 (by decide) ?_
            refine lv_icmp_ne (tgt := 417) hx hb dL_holds_377 (by decide) (fun c377 => ?_) (fun c377 => ?_)
            · have hE := hE.trans (if_neg c377)
              refine lv_aload_n hx hb dL_holds_417 rfl (lv_at hl 2 rfl) ?_
              refine lv_iconst (v := 1) hx hb dL_holds_418 (by decide) ?_
              refine zl10_x S hK hP 4 rfl (zin_k (n := 1) rfl (by decide) (by decide)) (f := (g10_x btf)) rfl dL_holds_419 ?_
              refine lv_iload_n hx hb dL_holds_420 rfl (lv_at hl 1 rfl) ?_
              obtain ⟨t421, ht421⟩ : ∃ z, FL_has ((g10_x btf) (1 : Int32).toNatClampNeg) x2 = z := ⟨_, rfl⟩
              have hE := hE.trans (bnd_eq ht421)
              have hc := c_L_has l G ((g10_x btf) (1 : Int32).toNatClampNeg) x2 _ ht421
              refine zgoR (va_runS (As := [.int ((g10_x btf) (1 : Int32).toNatClampNeg), .int x2]) (rest := []) S (hc _) (va_cwS 2 S.2.2.2.2 gL_holds_L_has rfl rfl rfl (by decide +kernel) ⟨Nat.le_of_ble_eq_true rfl, Nat.le_of_ble_eq_true rfl⟩) (zpS hK hP hD (is := []) rfl rfl) rfl rfl hl.1 rfl (lv_room (Nat.le_of_ble_eq_true rfl)) dL_holds_421 ⟨Nat.zero_le _, Nat.zero_le _⟩) (fun hn421 => ?_)
              refine lv_if_eq (tgt := 452) hx hb dL_holds_424 (by decide) (fun c424 => ?_) (fun c424 => ?_)
              · have hE := hE.trans (if_pos c424)
                refine lv_iconst (v := 0) hx hb dL_holds_452 (by decide) ?_
                exact hret _ _ _ _ _ _ (by subst hE; rfl) zn0 hP hS dL_holds_453
              · have hE := hE.trans (if_neg c424)
                refine lv_iload hx hb dL_holds_427 (lv_at hl 7 rfl) ?_
                refine lv_if_ne (tgt := 448) hx hb dL_holds_429 (by decide) (fun c429 => ?_) (fun c429 => ?_)
                · have hE := hE.trans (if_neg c429)
                  refine lv_iconst (v := 1) hx hb dL_holds_448 (by decide) ?_
                  refine lv_goto (tgt := 453) hx hb dL_holds_449 (by decide) ?_
                  exact hret _ _ _ _ _ _ (by subst hE; rfl) zn1 hP hS dL_holds_453
                · have hE := hE.trans (if_pos c429)
                  refine lv_aload_n hx hb dL_holds_432 rfl (lv_at hl 2 rfl) ?_
                  refine lv_iconst (v := 0) hx hb dL_holds_433 (by decide) ?_
                  refine zl10_x S hK hP 4 rfl (zin_k (n := 0) rfl (by decide) (by decide)) (f := (g10_x btf)) rfl dL_holds_434 ?_
                  refine lv_iload hx hb dL_holds_435 (lv_at hl 3 rfl) ?_
                  obtain ⟨t437, ht437⟩ : ∃ z, FL_has ((g10_x btf) (0 : Int32).toNatClampNeg) ((x2 + 10) - (x2 + 10) / 20 * 20) = z := ⟨_, rfl⟩
                  have hE := hE.trans (bnd_eq ht437)
                  have hc := c_L_has l G ((g10_x btf) (0 : Int32).toNatClampNeg) ((x2 + 10) - (x2 + 10) / 20 * 20) _ ht437
                  refine zgoR (va_runS (As := [.int ((g10_x btf) (0 : Int32).toNatClampNeg), .int ((x2 + 10) - (x2 + 10) / 20 * 20)]) (rest := []) S (hc _) (va_cwS 2 S.2.2.2.2 gL_holds_L_has rfl rfl rfl (by decide +kernel) ⟨Nat.le_of_ble_eq_true rfl, Nat.le_of_ble_eq_true rfl⟩) (zpS hK hP hD (is := []) rfl rfl) rfl rfl hl.1 rfl (lv_room (Nat.le_of_ble_eq_true rfl)) dL_holds_437 ⟨Nat.zero_le _, Nat.zero_le _⟩) (fun hn437 => ?_)
                  refine lv_if_ne (tgt := 448) hx hb dL_holds_440 (by decide) (fun c440 => ?_) (fun c440 => ?_)
                  · have hE := hE.trans (if_neg c440)
                    refine lv_iconst (v := 1) hx hb dL_holds_448 (by decide) ?_
                    refine lv_goto (tgt := 453) hx hb dL_holds_449 (by decide) ?_
                    exact hret _ _ _ _ _ _ (by subst hE; rfl) zn1 hP hS dL_holds_453
                  · have hE := hE.trans (if_pos c440)
                    refine lv_iload hx hb dL_holds_443 (lv_at hl 9 rfl) ?_
                    refine lv_if_eq (tgt := 452) hx hb dL_holds_445 (by decide) (fun c445 => ?_) (fun c445 => ?_)
                    · have hE := hE.trans (if_pos c445)
                      refine lv_iconst (v := 0) hx hb dL_holds_452 (by decide) ?_
                      exact hret _ _ _ _ _ _ (by subst hE; rfl) zn0 hP hS dL_holds_453
                    · have hE := hE.trans (if_neg c445)
                      refine lv_iconst (v := 1) hx hb dL_holds_448 (by decide) ?_
                      refine lv_goto (tgt := 453) hx hb dL_holds_449 (by decide) ?_
                      exact hret _ _ _ _ _ _ (by subst hE; rfl) zn1 hP hS dL_holds_453
            · have hE := hE.trans (if_pos c377)
              refine lv_aload_n hx hb dL_holds_380 rfl (lv_at hl 2 rfl) ?_
              refine lv_iconst (v := 0) hx hb dL_holds_381 (by decide) ?_
              refine zl10_x S hK hP 4 rfl (zin_k (n := 0) rfl (by decide) (by decide)) (f := (g10_x btf)) rfl dL_holds_382 ?_
              refine lv_iload_n hx hb dL_holds_383 rfl (lv_at hl 1 rfl) ?_
              obtain ⟨t384, ht384⟩ : ∃ z, FL_has ((g10_x btf) (0 : Int32).toNatClampNeg) x2 = z := ⟨_, rfl⟩
              have hE := hE.trans (bnd_eq ht384)
              have hc := c_L_has l G ((g10_x btf) (0 : Int32).toNatClampNeg) x2 _ ht384
              refine zgoR (va_runS (As := [.int ((g10_x btf) (0 : Int32).toNatClampNeg), .int x2]) (rest := []) S (hc _) (va_cwS 2 S.2.2.2.2 gL_holds_L_has rfl rfl rfl (by decide +kernel) ⟨Nat.le_of_ble_eq_true rfl, Nat.le_of_ble_eq_true rfl⟩) (zpS hK hP hD (is := []) rfl rfl) rfl rfl hl.1 rfl (lv_room (Nat.le_of_ble_eq_true rfl)) dL_holds_384 ⟨Nat.zero_le _, Nat.zero_le _⟩) (fun hn384 => ?_)
              refine lv_if_ne (tgt := 411) hx hb dL_holds_387 (by decide) (fun c387 => ?_) (fun c387 => ?_)
              · have hE := hE.trans (if_neg c387)
                refine lv_iconst (v := 1) hx hb dL_holds_411 (by decide) ?_
                refine lv_goto (tgt := 416) hx hb dL_holds_412 (by decide) ?_
                exact hret _ _ _ _ _ _ (by subst hE; rfl) zn1 hP hS dL_holds_416
              · have hE := hE.trans (if_pos c387)
                refine lv_iload hx hb dL_holds_390 (lv_at hl 6 rfl) ?_
                refine lv_if_eq (tgt := 415) hx hb dL_holds_392 (by decide) (fun c392 => ?_) (fun c392 => ?_)
                · have hE := hE.trans (if_pos c392)
                  refine lv_iconst (v := 0) hx hb dL_holds_415 (by decide) ?_
                  exact hret _ _ _ _ _ _ (by subst hE; rfl) zn0 hP hS dL_holds_416
                · have hE := hE.trans (if_neg c392)
                  refine lv_aload_n hx hb dL_holds_395 rfl (lv_at hl 2 rfl) ?_
                  refine lv_iconst (v := 1) hx hb dL_holds_396 (by decide) ?_
                  refine zl10_x S hK hP 4 rfl (zin_k (n := 1) rfl (by decide) (by decide)) (f := (g10_x btf)) rfl dL_holds_397 ?_
                  refine lv_iload hx hb dL_holds_398 (lv_at hl 3 rfl) ?_
                  obtain ⟨t400, ht400⟩ : ∃ z, FL_has ((g10_x btf) (1 : Int32).toNatClampNeg) ((x2 + 10) - (x2 + 10) / 20 * 20) = z := ⟨_, rfl⟩
                  have hE := hE.trans (bnd_eq ht400)
                  have hc := c_L_has l G ((g10_x btf) (1 : Int32).toNatClampNeg) ((x2 + 10) - (x2 + 10) / 20 * 20) _ ht400
                  refine zgoR (va_runS (As := [.int ((g10_x btf) (1 : Int32).toNatClampNeg), .int ((x2 + 10) - (x2 + 10) / 20 * 20)]) (rest := []) S (hc _) (va_cwS 2 S.2.2.2.2 gL_holds_L_has rfl rfl rfl (by decide +kernel) ⟨Nat.le_of_ble_eq_true rfl, Nat.le_of_ble_eq_true rfl⟩) (zpS hK hP hD (is := []) rfl rfl) rfl rfl hl.1 rfl (lv_room (Nat.le_of_ble_eq_true rfl)) dL_holds_400 ⟨Nat.zero_le _, Nat.zero_le _⟩) (fun hn400 => ?_)
                  refine lv_if_eq (tgt := 415) hx hb dL_holds_403 (by decide) (fun c403 => ?_) (fun c403 => ?_)
                  · have hE := hE.trans (if_pos c403)
                    refine lv_iconst (v := 0) hx hb dL_holds_415 (by decide) ?_
                    exact hret _ _ _ _ _ _ (by subst hE; rfl) zn0 hP hS dL_holds_416
                  · have hE := hE.trans (if_neg c403)
                    refine lv_iload hx hb dL_holds_406 (lv_at hl 8 rfl) ?_
                    refine lv_if_eq (tgt := 415) hx hb dL_holds_408 (by decide) (fun c408 => ?_) (fun c408 => ?_)
                    · have hE := hE.trans (if_pos c408)
                      refine lv_iconst (v := 0) hx hb dL_holds_415 (by decide) ?_
                      exact hret _ _ _ _ _ _ (by subst hE; rfl) zn0 hP hS dL_holds_416
                    · have hE := hE.trans (if_neg c408)
                      refine lv_iconst (v := 1) hx hb dL_holds_411 (by decide) ?_
                      refine lv_goto (tgt := 416) hx hb dL_holds_412 (by decide) ?_
                      exact hret _ _ _ _ _ _ (by subst hE; rfl) zn1 hP hS dL_holds_416
          · have hE := hE.trans (if_pos c369)
            refine lv_iload hx hb dL_holds_372 (lv_at hl 5 rfl) ?_
            exact hret _ _ _ _ _ _ (by subst hE; rfl) (zbo_n hbx9_187) hP hS dL_holds_374
        · have hE := hE.trans (if_pos c361)
          refine lv_iload hx hb dL_holds_364 (lv_at hl 4 rfl) ?_
          exact hret _ _ _ _ _ _ (by subst hE; rfl) (zbo_n hbx8_187) hP hS dL_holds_366
      have hB196 : ∀ (n196 : Nat) (x12_196 : Int32) (x13_196 : Int32) (i14_196 : Nat) (H : Heap) (locs : List Loc) (ls : Array Slot), (i14_196 ≤ N_c_size) → 17 ≤ i14_196 + n196 → T = FL_holds_196 (g0_kind bc) (g0_head bc) (g0_body bc) (g0_excepts bc) (g0_power bc) (g0_beats bc) (g0_facts bc) (g0_size bc) (g0_shut bc) (g6_allFor bv) (g10_x btf) x1 x2 (FL_holds_360 (g0_kind bc) (g0_head bc) (g0_body bc) (g0_excepts bc) (g0_power bc) (g0_beats bc) (g0_facts bc) (g0_size bc) (g0_shut bc) (g6_allFor bv) (g10_x btf) x1 x2) n196 ((x2 + 10) - (x2 + 10) / 20 * 20) t22 t30 x8_187 x9_187 x10_187 x11_187 x12_196 x13_196 (nI i14_196) → zP G (w8 G arc (ac 0) (ard 0) orc_thought orc_thoughtRounds orc_chain (ahi 0) orc_kept (awd 0) (apa 0) orc_rows brc :: w0 G ac bc :: w4 G ard (av 0) brd :: w6 G av bv :: w10 G atf btf :: w7 G awd bwd :: w2 G apa bpa :: w1 G ahi aik sg (nI D) un :: hcs G aik y) H → zD A (w8 G arc (ac 0) (ard 0) orc_thought orc_thoughtRounds orc_chain (ahi 0) orc_kept (awd 0) (apa 0) orc_rows brc :: w0 G ac bc :: w4 G ard (av 0) brd :: w6 G av bv :: w10 G atf btf :: w7 G awd bwd :: w2 G apa bpa :: w1 G ahi aik sg (nI D) un :: hcs G aik y) → va_S A s.heap H locs → lv_has ls 18 [(0, .ref (arc 0)), (1, .int x1), (2, .int x2), (3, .ref (atf 0)), (5, .int ((x2 + 10) - (x2 + 10) / 20 * 20)), (6, .int t22), (7, .int t30), (8, .int x8_187), (9, .int x9_187), (10, .int x10_187), (11, .int x11_187), (12, .int x12_196), (13, .int x13_196), (14, .int (nI i14_196))] → W p l e rmL_holds s m args below meth c H locs 0 0 Q (F0 m 196 ls []) := by
        intro n196
        induction n196 with
        | zero =>
          intro x12_196 x13_196 i14_196 H locs ls hi14_196 hn hE hP hD hS hl
          exact absurd hn (by omega)
        | succ n196 ih196 =>
          intro x12_196 x13_196 i14_196 H locs ls hi14_196 hn hE hP hD hS hl
          have hE := hE.trans (FL_holds_196.eq_2 _ _ _ _ _ _ _ _ _ _ _ _ _ _ _ _ _ _ _ _ _ _ _ _ _)
          refine lv_iload hx hb dL_holds_196 (lv_at hl 13 rfl) ?_
          refine lv_aload_n hx hb dL_holds_198 rfl (lv_at hl 0 rfl) ?_
          refine lv_iconst (v := 4) hx hb dL_holds_199 (by decide) ?_
          obtain ⟨t200, ht200⟩ : ∃ z, FX8_count_4 (g0_size bc) 4 = z := ⟨_, rfl⟩
          have hE := hE.trans (bnd_eq ht200)
          have hc := c_X8_count_4 l G arc ac ard av awd apa ahi aik orc_thought orc_thoughtRounds orc_chain orc_kept orc_rows brc bc brd bv bwd bpa sg y D un 4 (hh_c_head) (hz_c_size) (hu_rc_isSettled) (rfl) _ ht200
          refine zgoI (bs' := (w8 G arc (ac 0) (ard 0) orc_thought orc_thoughtRounds orc_chain (ahi 0) orc_kept (awd 0) (apa 0) orc_rows brc :: w0 G ac bc :: w4 G ard (av 0) brd :: w6 G av bv :: w10 G atf btf :: w7 G awd bwd :: w2 G apa bpa :: w1 G ahi aik sg (nI D) un :: hcs G aik y)) hc [0, 1, 2, 3, 5, 6, 7, 8, 9, 10, 11, 12, 13, 14, 15, 16, 17, 18, 19, 20] rfl rfl rfl hP hD hS hA (va_runV (As := [.int 4]) (rest := [.int (nI i14_196)]) S (hc.2 _) (cwV 1 S.2.2.2.2 gL_holds_X8_count rfl rfl rfl (by decide +kernel) ⟨Nat.le_of_ble_eq_true rfl, Nat.le_of_ble_eq_true rfl⟩) (zpV hK hP hD (is := [0, 1, 2, 3, 5, 6, 7, 8, 9, 10, 11, 12, 13, 14, 15, 16, 17, 18, 19, 20]) rfl rfl 0 rfl rfl (ci := 8) rfl) rfl rfl hl.1 rfl (lv_room (Nat.le_of_ble_eq_true rfl)) dL_holds_200 ⟨Nat.zero_le _, Nat.zero_le _⟩) (fun H locs hn200 hP hD hS => ?_)
          refine lv_icmp_ge (tgt := 360) hx hb dL_holds_203 (by decide) (fun c203 => ?_) (fun c203 => ?_)
          · have hE := hE.trans (if_pos c203)
            exact hB360 x12_196 x13_196 _ _ _ hE hP hD hS (lv_sub hl [1, 2, 3, 4, 7, 8, 9, 10, 11, 12] rfl)
          · have hE := hE.trans (if_neg c203)
            have hl14_196 : i14_196 < N_c_size := zlt (N := N_c_size) (ht200.symm.trans hs_c_size) (by omega) (by omega) c203
            refine lv_iload hx hb dL_holds_206 (lv_at hl 6 rfl) ?_
            refine lv_iload hx hb dL_holds_208 (lv_at hl 13 rfl) ?_
            obtain ⟨t210, ht210⟩ : ∃ z, FL_has t30 (nI i14_196) = z := ⟨_, rfl⟩
            have hE := hE.trans (bnd_eq ht210)
            have hc := c_L_has l G t30 (nI i14_196) _ ht210
            refine zgoR (va_runS (As := [.int t30, .int (nI i14_196)]) (rest := []) S (hc _) (va_cwS 2 S.2.2.2.2 gL_holds_L_has rfl rfl rfl (by decide +kernel) ⟨Nat.le_of_ble_eq_true rfl, Nat.le_of_ble_eq_true rfl⟩) (zpS hK hP hD (is := []) rfl rfl) rfl rfl hl.1 rfl (lv_room (Nat.le_of_ble_eq_true rfl)) dL_holds_210 ⟨Nat.zero_le _, Nat.zero_le _⟩) (fun hn210 => ?_)
            refine lv_if_ne (tgt := 219) hx hb dL_holds_213 (by decide) (fun c213 => ?_) (fun c213 => ?_)
            · have hE := hE.trans (if_neg c213)
              refine lv_aload_n hx hb dL_holds_219 rfl (lv_at hl 0 rfl) ?_
              refine lv_iload hx hb dL_holds_220 (lv_at hl 13 rfl) ?_
              refine lv_aload_n hx hb dL_holds_222 rfl (lv_at hl 3 rfl) ?_
              obtain ⟨t223, ht223⟩ : ∃ z, FL_falls (g0_kind bc) (g0_head bc) (g0_body bc) (g0_excepts bc) (g0_power bc) (g0_beats bc) (g0_size bc) (g0_shut bc) (g10_x btf) (nI i14_196) = z := ⟨_, rfl⟩
              have hE := hE.trans (bnd_eq ht223)
              have hc := c_L_falls l G arc ac atf (ard 0) orc_thought orc_thoughtRounds orc_chain (ahi 0) orc_kept (awd 0) (apa 0) orc_rows brc bc btf (nI i14_196) (hz_c_size) _ ht223
              refine zgoR (va_runS (As := [.ref (arc 0), .int (nI i14_196), .ref (atf 0)]) (rest := []) S (hc _) (va_cwS 3 S.2.2.2.2 gL_holds_L_falls rfl rfl rfl (by decide +kernel) ⟨Nat.le_of_ble_eq_true rfl, Nat.le_of_ble_eq_true rfl⟩) (zpS hK hP hD (is := [0, 1, 4]) rfl rfl) rfl rfl hl.1 rfl (lv_room (Nat.le_of_ble_eq_true rfl)) dL_holds_223 ⟨Nat.zero_le _, Nat.zero_le _⟩) (fun hn223 => ?_)
              refine lv_istore (lv' := [(15, .int t223), (0, .ref (arc 0)), (1, .int x1), (2, .int x2), (3, .ref (atf 0)), (5, .int ((x2 + 10) - (x2 + 10) / 20 * 20)), (6, .int t22), (7, .int t30), (8, .int x8_187), (9, .int x9_187), (10, .int x10_187), (11, .int x11_187), (12, .int x12_196), (13, .int x13_196), (14, .int (nI i14_196))]) hx hb dL_holds_226 hl (by decide) rfl (fun ls hl => ?_)
              refine lv_iconst (v := 0) hx hb dL_holds_228 (by decide) ?_
              refine lv_istore (lv' := [(16, .int 0), (15, .int t223), (0, .ref (arc 0)), (1, .int x1), (2, .int x2), (3, .ref (atf 0)), (5, .int ((x2 + 10) - (x2 + 10) / 20 * 20)), (6, .int t22), (7, .int t30), (8, .int x8_187), (9, .int x9_187), (10, .int x10_187), (11, .int x11_187), (12, .int x12_196), (13, .int x13_196), (14, .int (nI i14_196))]) hx hb dL_holds_229 hl (by decide) rfl (fun ls hl => ?_)
              refine lv_iconst (v := 0) hx hb dL_holds_231 (by decide) ?_
              have hB322 : ∀ (x15_322 : Int32) (x16_322 : Int32) (H : Heap) (locs : List Loc) (ls : Array Slot), T = FL_holds_322 (g0_kind bc) (g0_head bc) (g0_body bc) (g0_excepts bc) (g0_power bc) (g0_beats bc) (g0_facts bc) (g0_size bc) (g0_shut bc) (g6_allFor bv) (g10_x btf) x1 x2 (fun x5_196' x6_196' x7_196' x8_196' x9_196' x10_196' x11_196' x12_196' x13_196' x14_196' => FL_holds_196 (g0_kind bc) (g0_head bc) (g0_body bc) (g0_excepts bc) (g0_power bc) (g0_beats bc) (g0_facts bc) (g0_size bc) (g0_shut bc) (g6_allFor bv) (g10_x btf) x1 x2 (FL_holds_360 (g0_kind bc) (g0_head bc) (g0_body bc) (g0_excepts bc) (g0_power bc) (g0_beats bc) (g0_facts bc) (g0_size bc) (g0_shut bc) (g6_allFor bv) (g10_x btf) x1 x2) n196 x5_196' x6_196' x7_196' x8_196' x9_196' x10_196' x11_196' x12_196' x13_196' x14_196') (FL_holds_360 (g0_kind bc) (g0_head bc) (g0_body bc) (g0_excepts bc) (g0_power bc) (g0_beats bc) (g0_facts bc) (g0_size bc) (g0_shut bc) (g6_allFor bv) (g10_x btf) x1 x2) ((x2 + 10) - (x2 + 10) / 20 * 20) t22 t30 x8_187 x9_187 x10_187 x11_187 x12_196 x13_196 (nI i14_196) x15_322 x16_322 → zP G (w8 G arc (ac 0) (ard 0) orc_thought orc_thoughtRounds orc_chain (ahi 0) orc_kept (awd 0) (apa 0) orc_rows brc :: w0 G ac bc :: w4 G ard (av 0) brd :: w6 G av bv :: w10 G atf btf :: w7 G awd bwd :: w2 G apa bpa :: w1 G ahi aik sg (nI D) un :: hcs G aik y) H → zD A (w8 G arc (ac 0) (ard 0) orc_thought orc_thoughtRounds orc_chain (ahi 0) orc_kept (awd 0) (apa 0) orc_rows brc :: w0 G ac bc :: w4 G ard (av 0) brd :: w6 G av bv :: w10 G atf btf :: w7 G awd bwd :: w2 G apa bpa :: w1 G ahi aik sg (nI D) un :: hcs G aik y) → va_S A s.heap H locs → lv_has ls 18 [(0, .ref (arc 0)), (1, .int x1), (2, .int x2), (3, .ref (atf 0)), (5, .int ((x2 + 10) - (x2 + 10) / 20 * 20)), (6, .int t22), (7, .int t30), (8, .int x8_187), (9, .int x9_187), (10, .int x10_187), (11, .int x11_187), (12, .int x12_196), (13, .int x13_196), (14, .int (nI i14_196)), (15, .int x15_322), (16, .int x16_322)] → W p l e rmL_holds s m args below meth c H locs 0 0 Q (F0 m 322 ls []) := by
                intro x15_322 x16_322 H locs ls hE hP hD hS hl
                have hE := hE.trans (FL_holds_322.eq_1 _ _ _ _ _ _ _ _ _ _ _ _ _ _ _ _ _ _ _ _ _ _ _ _ _ _ _)
                refine lv_iload hx hb dL_holds_322 (lv_at hl 11 rfl) ?_
                refine lv_iload hx hb dL_holds_324 (lv_at hl 14 rfl) ?_
                refine lv_iand hx hb dL_holds_326 ?_
                refine lv_istore (lv' := [(12, .int (x12_196 &&& x15_322)), (0, .ref (arc 0)), (1, .int x1), (2, .int x2), (3, .ref (atf 0)), (5, .int ((x2 + 10) - (x2 + 10) / 20 * 20)), (6, .int t22), (7, .int t30), (8, .int x8_187), (9, .int x9_187), (10, .int x10_187), (11, .int x11_187), (13, .int x13_196), (14, .int (nI i14_196)), (15, .int x15_322), (16, .int x16_322)]) hx hb dL_holds_327 hl (by decide) rfl (fun ls hl => ?_)
                refine lv_iload hx hb dL_holds_329 (lv_at hl 12 rfl) ?_
                refine lv_aload_n hx hb dL_holds_331 rfl (lv_at hl 1 rfl) ?_
                refine lv_iload hx hb dL_holds_332 (lv_at hl 13 rfl) ?_
                refine lv_aload_n hx hb dL_holds_334 rfl (lv_at hl 4 rfl) ?_
                obtain ⟨t335, ht335⟩ : ∃ z, FL_applies (g0_kind bc) (g0_head bc) (g0_body bc) (g0_excepts bc) (g0_power bc) (g0_beats bc) (g0_size bc) (g0_shut bc) (g10_x btf) (nI i14_196) = z := ⟨_, rfl⟩
                have hE := hE.trans (bnd_eq ht335)
                have hc := c_L_applies l G arc ac atf (ard 0) orc_thought orc_thoughtRounds orc_chain (ahi 0) orc_kept (awd 0) (apa 0) orc_rows brc bc btf (nI i14_196) (hz_c_size) _ ht335
                refine zgoR (va_runS (As := [.ref (arc 0), .int (nI i14_196), .ref (atf 0)]) (rest := [.int x13_196]) S (hc _) (va_cwS 3 S.2.2.2.2 gL_holds_L_applies rfl rfl rfl (by decide +kernel) ⟨Nat.le_of_ble_eq_true rfl, Nat.le_of_ble_eq_true rfl⟩) (zpS hK hP hD (is := [0, 1, 4]) rfl rfl) rfl rfl hl.1 rfl (lv_room (Nat.le_of_ble_eq_true rfl)) dL_holds_335 ⟨Nat.zero_le _, Nat.zero_le _⟩) (fun hn335 => ?_)
                have hB350 : ∀ (H : Heap) (locs : List Loc) (ls : Array Slot), T = FL_holds_350 (g0_kind bc) (g0_head bc) (g0_body bc) (g0_excepts bc) (g0_power bc) (g0_beats bc) (g0_facts bc) (g0_size bc) (g0_shut bc) (g6_allFor bv) (g10_x btf) x1 x2 (fun x5_196' x6_196' x7_196' x8_196' x9_196' x10_196' x11_196' x12_196' x13_196' x14_196' => FL_holds_196 (g0_kind bc) (g0_head bc) (g0_body bc) (g0_excepts bc) (g0_power bc) (g0_beats bc) (g0_facts bc) (g0_size bc) (g0_shut bc) (g6_allFor bv) (g10_x btf) x1 x2 (FL_holds_360 (g0_kind bc) (g0_head bc) (g0_body bc) (g0_excepts bc) (g0_power bc) (g0_beats bc) (g0_facts bc) (g0_size bc) (g0_shut bc) (g6_allFor bv) (g10_x btf) x1 x2) n196 x5_196' x6_196' x7_196' x8_196' x9_196' x10_196' x11_196' x12_196' x13_196' x14_196') (FL_holds_360 (g0_kind bc) (g0_head bc) (g0_body bc) (g0_excepts bc) (g0_power bc) (g0_beats bc) (g0_facts bc) (g0_size bc) (g0_shut bc) (g6_allFor bv) (g10_x btf) x1 x2) ((x2 + 10) - (x2 + 10) / 20 * 20) t22 t30 x8_187 x9_187 x10_187 x11_187 (x12_196 &&& x15_322) (nI i14_196) x13_196 → zP G (w8 G arc (ac 0) (ard 0) orc_thought orc_thoughtRounds orc_chain (ahi 0) orc_kept (awd 0) (apa 0) orc_rows brc :: w0 G ac bc :: w4 G ard (av 0) brd :: w6 G av bv :: w10 G atf btf :: w7 G awd bwd :: w2 G apa bpa :: w1 G ahi aik sg (nI D) un :: hcs G aik y) H → zD A (w8 G arc (ac 0) (ard 0) orc_thought orc_thoughtRounds orc_chain (ahi 0) orc_kept (awd 0) (apa 0) orc_rows brc :: w0 G ac bc :: w4 G ard (av 0) brd :: w6 G av bv :: w10 G atf btf :: w7 G awd bwd :: w2 G apa bpa :: w1 G ahi aik sg (nI D) un :: hcs G aik y) → va_S A s.heap H locs → lv_has ls 18 [(0, .ref (arc 0)), (1, .int x1), (2, .int x2), (3, .ref (atf 0)), (5, .int ((x2 + 10) - (x2 + 10) / 20 * 20)), (6, .int t22), (7, .int t30), (8, .int x8_187), (9, .int x9_187), (10, .int x10_187), (11, .int x11_187), (12, .int (x12_196 &&& x15_322)), (14, .int (nI i14_196))] → W p l e rmL_holds s m args below meth c H locs 0 0 Q (F0 m 350 ls [.int x13_196]) := by
                  intro H locs ls hE hP hD hS hl
                  have hE := hE.trans (FL_holds_350.eq_1 _ _ _ _ _ _ _ _ _ _ _ _ _ _ _ _ _ _ _ _ _ _ _ _ _)
                  refine lv_iconst (v := 0) hx hb dL_holds_350 (by decide) ?_
                  refine lv_ior hx hb dL_holds_351 ?_
                  refine lv_istore (lv' := [(13, .int (x13_196 ||| 0)), (0, .ref (arc 0)), (1, .int x1), (2, .int x2), (3, .ref (atf 0)), (5, .int ((x2 + 10) - (x2 + 10) / 20 * 20)), (6, .int t22), (7, .int t30), (8, .int x8_187), (9, .int x9_187), (10, .int x10_187), (11, .int x11_187), (12, .int (x12_196 &&& x15_322)), (14, .int (nI i14_196))]) hx hb dL_holds_352 hl (by decide) rfl (fun ls hl => ?_)
                  refine lv_iinc (v := (nI (i14_196 + 1))) (lv' := [(14, .int (nI (i14_196 + 1))), (13, .int (x13_196 ||| 0)), (0, .ref (arc 0)), (1, .int x1), (2, .int x2), (3, .ref (atf 0)), (5, .int ((x2 + 10) - (x2 + 10) / 20 * 20)), (6, .int t22), (7, .int t30), (8, .int x8_187), (9, .int x9_187), (10, .int x10_187), (11, .int x11_187), (12, .int (x12_196 &&& x15_322))]) hx hb dL_holds_354 hl (k := 13) rfl (nI_1 i14_196) (by decide) rfl (fun ls hl => ?_)
                  try rw [nI_1 i14_196] at hE
                  refine lv_goto (tgt := 196) hx hb dL_holds_357 (by decide) ?_
                  exact ih196 (x12_196 &&& x15_322) (x13_196 ||| 0) (i14_196 + 1) _ _ _ (by first | assumption | omega) (by omega) hE hP hD hS (lv_sub hl [2, 3, 4, 5, 6, 7, 8, 9, 10, 11, 12, 13, 1, 0] rfl)
                refine lv_if_eq (tgt := 350) hx hb dL_holds_338 (by decide) (fun c338 => ?_) (fun c338 => ?_)
                · have hE := hE.trans (if_pos c338)
                  exact hB350 _ _ _ hE hP hD hS (lv_sub hl [1, 2, 3, 4, 5, 6, 7, 8, 9, 10, 11, 0, 13] rfl)
                · have hE := hE.trans (if_neg c338)
                  refine lv_iload hx hb dL_holds_341 (lv_at hl 15 rfl) ?_
                  refine lv_if_ne (tgt := 350) hx hb dL_holds_343 (by decide) (fun c343 => ?_) (fun c343 => ?_)
                  · have hE := hE.trans (if_neg c343)
                    exact hB350 _ _ _ hE hP hD hS (lv_sub hl [1, 2, 3, 4, 5, 6, 7, 8, 9, 10, 11, 0, 13] rfl)
                  · have hE := hE.trans (if_pos c343)
                    refine lv_iconst (v := 1) hx hb dL_holds_346 (by decide) ?_
                    refine lv_goto (tgt := 351) hx hb dL_holds_347 (by decide) ?_
                    refine lv_ior hx hb dL_holds_351 ?_
                    refine lv_istore (lv' := [(13, .int (x13_196 ||| 1)), (12, .int (x12_196 &&& x15_322)), (0, .ref (arc 0)), (1, .int x1), (2, .int x2), (3, .ref (atf 0)), (5, .int ((x2 + 10) - (x2 + 10) / 20 * 20)), (6, .int t22), (7, .int t30), (8, .int x8_187), (9, .int x9_187), (10, .int x10_187), (11, .int x11_187), (14, .int (nI i14_196)), (15, .int x15_322), (16, .int x16_322)]) hx hb dL_holds_352 hl (by decide) rfl (fun ls hl => ?_)
                    refine lv_iinc (v := (nI (i14_196 + 1))) (lv' := [(14, .int (nI (i14_196 + 1))), (13, .int (x13_196 ||| 1)), (12, .int (x12_196 &&& x15_322)), (0, .ref (arc 0)), (1, .int x1), (2, .int x2), (3, .ref (atf 0)), (5, .int ((x2 + 10) - (x2 + 10) / 20 * 20)), (6, .int t22), (7, .int t30), (8, .int x8_187), (9, .int x9_187), (10, .int x10_187), (11, .int x11_187), (15, .int x15_322), (16, .int x16_322)]) hx hb dL_holds_354 hl (k := 13) rfl (nI_1 i14_196) (by decide) rfl (fun ls hl => ?_)
                    try rw [nI_1 i14_196] at hE
                    refine lv_goto (tgt := 196) hx hb dL_holds_357 (by decide) ?_
                    exact ih196 (x12_196 &&& x15_322) (x13_196 ||| 1) (i14_196 + 1) _ _ _ (by first | assumption | omega) (by omega) hE hP hD hS (lv_sub hl [3, 4, 5, 6, 7, 8, 9, 10, 11, 12, 13, 2, 1, 0] rfl)
              have hB234 : ∀ (n234 : Nat) (x15_234 : Int32) (x16_234 : Int32) (i17_234 : Nat) (H : Heap) (locs : List Loc) (ls : Array Slot), (i17_234 ≤ N_c_size) → 17 ≤ i17_234 + n234 → T = FL_holds_234 (g0_kind bc) (g0_head bc) (g0_body bc) (g0_excepts bc) (g0_power bc) (g0_beats bc) (g0_facts bc) (g0_size bc) (g0_shut bc) (g6_allFor bv) (g10_x btf) x1 x2 (fun x5_196' x6_196' x7_196' x8_196' x9_196' x10_196' x11_196' x12_196' x13_196' x14_196' => FL_holds_196 (g0_kind bc) (g0_head bc) (g0_body bc) (g0_excepts bc) (g0_power bc) (g0_beats bc) (g0_facts bc) (g0_size bc) (g0_shut bc) (g6_allFor bv) (g10_x btf) x1 x2 (FL_holds_360 (g0_kind bc) (g0_head bc) (g0_body bc) (g0_excepts bc) (g0_power bc) (g0_beats bc) (g0_facts bc) (g0_size bc) (g0_shut bc) (g6_allFor bv) (g10_x btf) x1 x2) n196 x5_196' x6_196' x7_196' x8_196' x9_196' x10_196' x11_196' x12_196' x13_196' x14_196') (FL_holds_360 (g0_kind bc) (g0_head bc) (g0_body bc) (g0_excepts bc) (g0_power bc) (g0_beats bc) (g0_facts bc) (g0_size bc) (g0_shut bc) (g6_allFor bv) (g10_x btf) x1 x2) (FL_holds_322 (g0_kind bc) (g0_head bc) (g0_body bc) (g0_excepts bc) (g0_power bc) (g0_beats bc) (g0_facts bc) (g0_size bc) (g0_shut bc) (g6_allFor bv) (g10_x btf) x1 x2 (fun x5_196' x6_196' x7_196' x8_196' x9_196' x10_196' x11_196' x12_196' x13_196' x14_196' => FL_holds_196 (g0_kind bc) (g0_head bc) (g0_body bc) (g0_excepts bc) (g0_power bc) (g0_beats bc) (g0_facts bc) (g0_size bc) (g0_shut bc) (g6_allFor bv) (g10_x btf) x1 x2 (FL_holds_360 (g0_kind bc) (g0_head bc) (g0_body bc) (g0_excepts bc) (g0_power bc) (g0_beats bc) (g0_facts bc) (g0_size bc) (g0_shut bc) (g6_allFor bv) (g10_x btf) x1 x2) n196 x5_196' x6_196' x7_196' x8_196' x9_196' x10_196' x11_196' x12_196' x13_196' x14_196') (FL_holds_360 (g0_kind bc) (g0_head bc) (g0_body bc) (g0_excepts bc) (g0_power bc) (g0_beats bc) (g0_facts bc) (g0_size bc) (g0_shut bc) (g6_allFor bv) (g10_x btf) x1 x2)) n234 ((x2 + 10) - (x2 + 10) / 20 * 20) t22 t30 x8_187 x9_187 x10_187 x11_187 x12_196 x13_196 (nI i14_196) x15_234 x16_234 (nI i17_234) → zP G (w8 G arc (ac 0) (ard 0) orc_thought orc_thoughtRounds orc_chain (ahi 0) orc_kept (awd 0) (apa 0) orc_rows brc :: w0 G ac bc :: w4 G ard (av 0) brd :: w6 G av bv :: w10 G atf btf :: w7 G awd bwd :: w2 G apa bpa :: w1 G ahi aik sg (nI D) un :: hcs G aik y) H → zD A (w8 G arc (ac 0) (ard 0) orc_thought orc_thoughtRounds orc_chain (ahi 0) orc_kept (awd 0) (apa 0) orc_rows brc :: w0 G ac bc :: w4 G ard (av 0) brd :: w6 G av bv :: w10 G atf btf :: w7 G awd bwd :: w2 G apa bpa :: w1 G ahi aik sg (nI D) un :: hcs G aik y) → va_S A s.heap H locs → lv_has ls 18 [(0, .ref (arc 0)), (1, .int x1), (2, .int x2), (3, .ref (atf 0)), (5, .int ((x2 + 10) - (x2 + 10) / 20 * 20)), (6, .int t22), (7, .int t30), (8, .int x8_187), (9, .int x9_187), (10, .int x10_187), (11, .int x11_187), (12, .int x12_196), (13, .int x13_196), (14, .int (nI i14_196)), (15, .int x15_234), (16, .int x16_234), (17, .int (nI i17_234))] → W p l e rmL_holds s m args below meth c H locs 0 0 Q (F0 m 234 ls []) := by
                intro n234
                induction n234 with
                | zero =>
                  intro x15_234 x16_234 i17_234 H locs ls hi17_234 hn hE hP hD hS hl
                  exact absurd hn (by omega)
                | succ n234 ih234 =>
                  intro x15_234 x16_234 i17_234 H locs ls hi17_234 hn hE hP hD hS hl
                  have hE := hE.trans (FL_holds_234.eq_2 _ _ _ _ _ _ _ _ _ _ _ _ _ _ _ _ _ _ _ _ _ _ _ _ _ _ _ _ _ _)
                  refine lv_iload hx hb dL_holds_234 (lv_at hl 16 rfl) ?_
                  refine lv_aload_n hx hb dL_holds_236 rfl (lv_at hl 0 rfl) ?_
                  refine lv_iconst (v := 4) hx hb dL_holds_237 (by decide) ?_
                  obtain ⟨t238, ht238⟩ : ∃ z, FX8_count_4 (g0_size bc) 4 = z := ⟨_, rfl⟩
                  have hE := hE.trans (bnd_eq ht238)
                  have hc := c_X8_count_4 l G arc ac ard av awd apa ahi aik orc_thought orc_thoughtRounds orc_chain orc_kept orc_rows brc bc brd bv bwd bpa sg y D un 4 (hh_c_head) (hz_c_size) (hu_rc_isSettled) (rfl) _ ht238
                  refine zgoI (bs' := (w8 G arc (ac 0) (ard 0) orc_thought orc_thoughtRounds orc_chain (ahi 0) orc_kept (awd 0) (apa 0) orc_rows brc :: w0 G ac bc :: w4 G ard (av 0) brd :: w6 G av bv :: w10 G atf btf :: w7 G awd bwd :: w2 G apa bpa :: w1 G ahi aik sg (nI D) un :: hcs G aik y)) hc [0, 1, 2, 3, 5, 6, 7, 8, 9, 10, 11, 12, 13, 14, 15, 16, 17, 18, 19, 20] rfl rfl rfl hP hD hS hA (va_runV (As := [.int 4]) (rest := [.int (nI i17_234)]) S (hc.2 _) (cwV 1 S.2.2.2.2 gL_holds_X8_count rfl rfl rfl (by decide +kernel) ⟨Nat.le_of_ble_eq_true rfl, Nat.le_of_ble_eq_true rfl⟩) (zpV hK hP hD (is := [0, 1, 2, 3, 5, 6, 7, 8, 9, 10, 11, 12, 13, 14, 15, 16, 17, 18, 19, 20]) rfl rfl 0 rfl rfl (ci := 8) rfl) rfl rfl hl.1 rfl (lv_room (Nat.le_of_ble_eq_true rfl)) dL_holds_238 ⟨Nat.zero_le _, Nat.zero_le _⟩) (fun H locs hn238 hP hD hS => ?_)
                  refine lv_icmp_ge (tgt := 322) hx hb dL_holds_241 (by decide) (fun c241 => ?_) (fun c241 => ?_)
                  · have hE := hE.trans (if_pos c241)
                    exact hB322 x15_234 x16_234 _ _ _ hE hP hD hS (lv_sub hl [0, 1, 2, 3, 4, 5, 6, 7, 8, 9, 10, 11, 12, 13, 14, 15] rfl)
                  · have hE := hE.trans (if_neg c241)
                    have hl17_234 : i17_234 < N_c_size := zlt (N := N_c_size) (ht238.symm.trans hs_c_size) (by omega) (by omega) c241
                    refine lv_iload hx hb dL_holds_244 (lv_at hl 5 rfl) ?_
                    refine lv_iload hx hb dL_holds_246 (lv_at hl 16 rfl) ?_
                    obtain ⟨t248, ht248⟩ : ∃ z, FL_has t22 (nI i17_234) = z := ⟨_, rfl⟩
                    have hE := hE.trans (bnd_eq ht248)
                    have hc := c_L_has l G t22 (nI i17_234) _ ht248
                    refine zgoR (va_runS (As := [.int t22, .int (nI i17_234)]) (rest := []) S (hc _) (va_cwS 2 S.2.2.2.2 gL_holds_L_has rfl rfl rfl (by decide +kernel) ⟨Nat.le_of_ble_eq_true rfl, Nat.le_of_ble_eq_true rfl⟩) (zpS hK hP hD (is := []) rfl rfl) rfl rfl hl.1 rfl (lv_room (Nat.le_of_ble_eq_true rfl)) dL_holds_248 ⟨Nat.zero_le _, Nat.zero_le _⟩) (fun hn248 => ?_)
                    refine lv_if_eq (tgt := 316) hx hb dL_holds_251 (by decide) (fun c251 => ?_) (fun c251 => ?_)
                    · have hE := hE.trans (if_pos c251)
                      refine lv_iinc (v := (nI (i17_234 + 1))) (lv' := [(17, .int (nI (i17_234 + 1))), (0, .ref (arc 0)), (1, .int x1), (2, .int x2), (3, .ref (atf 0)), (5, .int ((x2 + 10) - (x2 + 10) / 20 * 20)), (6, .int t22), (7, .int t30), (8, .int x8_187), (9, .int x9_187), (10, .int x10_187), (11, .int x11_187), (12, .int x12_196), (13, .int x13_196), (14, .int (nI i14_196)), (15, .int x15_234), (16, .int x16_234)]) hx hb dL_holds_316 hl (k := 16) rfl (nI_1 i17_234) (by decide) rfl (fun ls hl => ?_)
                      try rw [nI_1 i17_234] at hE
                      refine lv_goto (tgt := 234) hx hb dL_holds_319 (by decide) ?_
                      exact ih234 x15_234 x16_234 (i17_234 + 1) _ _ _ (by first | assumption | omega) (by omega) hE hP hD hS (lv_sub hl [1, 2, 3, 4, 5, 6, 7, 8, 9, 10, 11, 12, 13, 14, 15, 16, 0] rfl)
                    · have hE := hE.trans (if_neg c251)
                      refine lv_aload_n hx hb dL_holds_254 rfl (lv_at hl 0 rfl) ?_
                      refine lv_iload hx hb dL_holds_255 (lv_at hl 16 rfl) ?_
                      refine lv_iconst (v := 0) hx hb dL_holds_257 (by decide) ?_
                      obtain ⟨t258, ht258⟩ : ∃ z, FX8_ruleOf (g0_kind bc) (g0_head bc) (g0_body bc) (g0_excepts bc) (g0_power bc) (g0_beats bc) (g0_size bc) (g0_shut bc) (nI i17_234) 0 = z := ⟨_, rfl⟩
                      have hE := hE.trans (bnd_eq ht258)
                      have hc := c_X8_ruleOf l G arc ac (ard 0) orc_thought orc_thoughtRounds orc_chain (ahi 0) orc_kept (awd 0) (apa 0) orc_rows brc bc (nI i17_234) 0 (hz_c_size) _ ht258
                      refine zgoR (va_runV (As := [.int (nI i17_234), .int 0]) (rest := []) S (hc _) (cwV 2 S.2.2.2.2 gL_holds_X8_ruleOf rfl rfl rfl (by decide +kernel) ⟨Nat.le_of_ble_eq_true rfl, Nat.le_of_ble_eq_true rfl⟩) (zpV hK hP hD (is := [0, 1]) rfl rfl 0 rfl rfl (ci := 8) rfl) rfl rfl hl.1 rfl (lv_room (Nat.le_of_ble_eq_true rfl)) dL_holds_258 ⟨Nat.zero_le _, Nat.zero_le _⟩) (fun hn258 => ?_)
                      refine lv_iconst (v := 2) hx hb dL_holds_261 (by decide) ?_
                      refine lv_icmp_eq (tgt := 316) hx hb dL_holds_262 (by decide) (fun c262 => ?_) (fun c262 => ?_)
                      · have hE := hE.trans (if_pos c262)
                        refine lv_iinc (v := (nI (i17_234 + 1))) (lv' := [(17, .int (nI (i17_234 + 1))), (0, .ref (arc 0)), (1, .int x1), (2, .int x2), (3, .ref (atf 0)), (5, .int ((x2 + 10) - (x2 + 10) / 20 * 20)), (6, .int t22), (7, .int t30), (8, .int x8_187), (9, .int x9_187), (10, .int x10_187), (11, .int x11_187), (12, .int x12_196), (13, .int x13_196), (14, .int (nI i14_196)), (15, .int x15_234), (16, .int x16_234)]) hx hb dL_holds_316 hl (k := 16) rfl (nI_1 i17_234) (by decide) rfl (fun ls hl => ?_)
                        try rw [nI_1 i17_234] at hE
                        refine lv_goto (tgt := 234) hx hb dL_holds_319 (by decide) ?_
                        exact ih234 x15_234 x16_234 (i17_234 + 1) _ _ _ (by first | assumption | omega) (by omega) hE hP hD hS (lv_sub hl [1, 2, 3, 4, 5, 6, 7, 8, 9, 10, 11, 12, 13, 14, 15, 16, 0] rfl)
                      · have hE := hE.trans (if_neg c262)
                        refine lv_aload_n hx hb dL_holds_265 rfl (lv_at hl 0 rfl) ?_
                        refine lv_iload hx hb dL_holds_266 (lv_at hl 16 rfl) ?_
                        refine lv_bipush (v := 7) hx hb dL_holds_268 (by decide) ?_
                        obtain ⟨t270, ht270⟩ : ∃ z, FX8_ruleOf (g0_kind bc) (g0_head bc) (g0_body bc) (g0_excepts bc) (g0_power bc) (g0_beats bc) (g0_size bc) (g0_shut bc) (nI i17_234) 7 = z := ⟨_, rfl⟩
                        have hE := hE.trans (bnd_eq ht270)
                        have hc := c_X8_ruleOf l G arc ac (ard 0) orc_thought orc_thoughtRounds orc_chain (ahi 0) orc_kept (awd 0) (apa 0) orc_rows brc bc (nI i17_234) 7 (hz_c_size) _ ht270
                        refine zgoR (va_runV (As := [.int (nI i17_234), .int 7]) (rest := []) S (hc _) (cwV 2 S.2.2.2.2 gL_holds_X8_ruleOf rfl rfl rfl (by decide +kernel) ⟨Nat.le_of_ble_eq_true rfl, Nat.le_of_ble_eq_true rfl⟩) (zpV hK hP hD (is := [0, 1]) rfl rfl 0 rfl rfl (ci := 8) rfl) rfl rfl hl.1 rfl (lv_room (Nat.le_of_ble_eq_true rfl)) dL_holds_270 ⟨Nat.zero_le _, Nat.zero_le _⟩) (fun hn270 => ?_)
                        refine lv_iload hx hb dL_holds_273 (lv_at hl 13 rfl) ?_
                        obtain ⟨t275, ht275⟩ : ∃ z, FL_has t270 (nI i14_196) = z := ⟨_, rfl⟩
                        have hE := hE.trans (bnd_eq ht275)
                        have hc := c_L_has l G t270 (nI i14_196) _ ht275
                        refine zgoR (va_runS (As := [.int t270, .int (nI i14_196)]) (rest := []) S (hc _) (va_cwS 2 S.2.2.2.2 gL_holds_L_has rfl rfl rfl (by decide +kernel) ⟨Nat.le_of_ble_eq_true rfl, Nat.le_of_ble_eq_true rfl⟩) (zpS hK hP hD (is := []) rfl rfl) rfl rfl hl.1 rfl (lv_room (Nat.le_of_ble_eq_true rfl)) dL_holds_275 ⟨Nat.zero_le _, Nat.zero_le _⟩) (fun hn275 => ?_)
                        refine lv_if_ne (tgt := 284) hx hb dL_holds_278 (by decide) (fun c278 => ?_) (fun c278 => ?_)
                        · have hE := hE.trans (if_neg c278)
                          refine lv_iload hx hb dL_holds_284 (lv_at hl 14 rfl) ?_
                          refine lv_aload_n hx hb dL_holds_286 rfl (lv_at hl 0 rfl) ?_
                          refine lv_iload hx hb dL_holds_287 (lv_at hl 16 rfl) ?_
                          refine lv_aload_n hx hb dL_holds_289 rfl (lv_at hl 3 rfl) ?_
                          obtain ⟨t290, ht290⟩ : ∃ z, FL_applies (g0_kind bc) (g0_head bc) (g0_body bc) (g0_excepts bc) (g0_power bc) (g0_beats bc) (g0_size bc) (g0_shut bc) (g10_x btf) (nI i17_234) = z := ⟨_, rfl⟩
                          have hE := hE.trans (bnd_eq ht290)
                          have hc := c_L_applies l G arc ac atf (ard 0) orc_thought orc_thoughtRounds orc_chain (ahi 0) orc_kept (awd 0) (apa 0) orc_rows brc bc btf (nI i17_234) (hz_c_size) _ ht290
                          refine zgoR (va_runS (As := [.ref (arc 0), .int (nI i17_234), .ref (atf 0)]) (rest := [.int x15_234]) S (hc _) (va_cwS 3 S.2.2.2.2 gL_holds_L_applies rfl rfl rfl (by decide +kernel) ⟨Nat.le_of_ble_eq_true rfl, Nat.le_of_ble_eq_true rfl⟩) (zpS hK hP hD (is := [0, 1, 4]) rfl rfl) rfl rfl hl.1 rfl (lv_room (Nat.le_of_ble_eq_true rfl)) dL_holds_290 ⟨Nat.zero_le _, Nat.zero_le _⟩) (fun hn290 => ?_)
                          refine lv_ior hx hb dL_holds_293 ?_
                          refine lv_istore (lv' := [(15, .int (x15_234 ||| t290)), (0, .ref (arc 0)), (1, .int x1), (2, .int x2), (3, .ref (atf 0)), (5, .int ((x2 + 10) - (x2 + 10) / 20 * 20)), (6, .int t22), (7, .int t30), (8, .int x8_187), (9, .int x9_187), (10, .int x10_187), (11, .int x11_187), (12, .int x12_196), (13, .int x13_196), (14, .int (nI i14_196)), (16, .int x16_234), (17, .int (nI i17_234))]) hx hb dL_holds_294 hl (by decide) rfl (fun ls hl => ?_)
                          refine lv_iload hx hb dL_holds_296 (lv_at hl 15 rfl) ?_
                          refine lv_aload_n hx hb dL_holds_298 rfl (lv_at hl 1 rfl) ?_
                          refine lv_iload hx hb dL_holds_299 (lv_at hl 16 rfl) ?_
                          refine lv_aload_n hx hb dL_holds_301 rfl (lv_at hl 4 rfl) ?_
                          obtain ⟨t302, ht302⟩ : ∃ z, FL_falls (g0_kind bc) (g0_head bc) (g0_body bc) (g0_excepts bc) (g0_power bc) (g0_beats bc) (g0_size bc) (g0_shut bc) (g10_x btf) (nI i17_234) = z := ⟨_, rfl⟩
                          have hE := hE.trans (bnd_eq ht302)
                          have hc := c_L_falls l G arc ac atf (ard 0) orc_thought orc_thoughtRounds orc_chain (ahi 0) orc_kept (awd 0) (apa 0) orc_rows brc bc btf (nI i17_234) (hz_c_size) _ ht302
                          refine zgoR (va_runS (As := [.ref (arc 0), .int (nI i17_234), .ref (atf 0)]) (rest := [.int x16_234]) S (hc _) (va_cwS 3 S.2.2.2.2 gL_holds_L_falls rfl rfl rfl (by decide +kernel) ⟨Nat.le_of_ble_eq_true rfl, Nat.le_of_ble_eq_true rfl⟩) (zpS hK hP hD (is := [0, 1, 4]) rfl rfl) rfl rfl hl.1 rfl (lv_room (Nat.le_of_ble_eq_true rfl)) dL_holds_302 ⟨Nat.zero_le _, Nat.zero_le _⟩) (fun hn302 => ?_)
                          refine lv_if_ne (tgt := 312) hx hb dL_holds_305 (by decide) (fun c305 => ?_) (fun c305 => ?_)
                          · have hE := hE.trans (if_neg c305)
                            refine lv_iconst (v := 0) hx hb dL_holds_312 (by decide) ?_
                            refine lv_ior hx hb dL_holds_313 ?_
                            refine lv_istore (lv' := [(16, .int (x16_234 ||| 0)), (15, .int (x15_234 ||| t290)), (0, .ref (arc 0)), (1, .int x1), (2, .int x2), (3, .ref (atf 0)), (5, .int ((x2 + 10) - (x2 + 10) / 20 * 20)), (6, .int t22), (7, .int t30), (8, .int x8_187), (9, .int x9_187), (10, .int x10_187), (11, .int x11_187), (12, .int x12_196), (13, .int x13_196), (14, .int (nI i14_196)), (17, .int (nI i17_234))]) hx hb dL_holds_314 hl (by decide) rfl (fun ls hl => ?_)
                            refine lv_iinc (v := (nI (i17_234 + 1))) (lv' := [(17, .int (nI (i17_234 + 1))), (16, .int (x16_234 ||| 0)), (15, .int (x15_234 ||| t290)), (0, .ref (arc 0)), (1, .int x1), (2, .int x2), (3, .ref (atf 0)), (5, .int ((x2 + 10) - (x2 + 10) / 20 * 20)), (6, .int t22), (7, .int t30), (8, .int x8_187), (9, .int x9_187), (10, .int x10_187), (11, .int x11_187), (12, .int x12_196), (13, .int x13_196), (14, .int (nI i14_196))]) hx hb dL_holds_316 hl (k := 16) rfl (nI_1 i17_234) (by decide) rfl (fun ls hl => ?_)
                            try rw [nI_1 i17_234] at hE
                            refine lv_goto (tgt := 234) hx hb dL_holds_319 (by decide) ?_
                            exact ih234 (x15_234 ||| t290) (x16_234 ||| 0) (i17_234 + 1) _ _ _ (by first | assumption | omega) (by omega) hE hP hD hS (lv_sub hl [3, 4, 5, 6, 7, 8, 9, 10, 11, 12, 13, 14, 15, 16, 2, 1, 0] rfl)
                          · have hE := hE.trans (if_pos c305)
                            refine lv_iconst (v := 1) hx hb dL_holds_308 (by decide) ?_
                            refine lv_goto (tgt := 313) hx hb dL_holds_309 (by decide) ?_
                            refine lv_ior hx hb dL_holds_313 ?_
                            refine lv_istore (lv' := [(16, .int (x16_234 ||| 1)), (15, .int (x15_234 ||| t290)), (0, .ref (arc 0)), (1, .int x1), (2, .int x2), (3, .ref (atf 0)), (5, .int ((x2 + 10) - (x2 + 10) / 20 * 20)), (6, .int t22), (7, .int t30), (8, .int x8_187), (9, .int x9_187), (10, .int x10_187), (11, .int x11_187), (12, .int x12_196), (13, .int x13_196), (14, .int (nI i14_196)), (17, .int (nI i17_234))]) hx hb dL_holds_314 hl (by decide) rfl (fun ls hl => ?_)
                            refine lv_iinc (v := (nI (i17_234 + 1))) (lv' := [(17, .int (nI (i17_234 + 1))), (16, .int (x16_234 ||| 1)), (15, .int (x15_234 ||| t290)), (0, .ref (arc 0)), (1, .int x1), (2, .int x2), (3, .ref (atf 0)), (5, .int ((x2 + 10) - (x2 + 10) / 20 * 20)), (6, .int t22), (7, .int t30), (8, .int x8_187), (9, .int x9_187), (10, .int x10_187), (11, .int x11_187), (12, .int x12_196), (13, .int x13_196), (14, .int (nI i14_196))]) hx hb dL_holds_316 hl (k := 16) rfl (nI_1 i17_234) (by decide) rfl (fun ls hl => ?_)
                            try rw [nI_1 i17_234] at hE
                            refine lv_goto (tgt := 234) hx hb dL_holds_319 (by decide) ?_
                            exact ih234 (x15_234 ||| t290) (x16_234 ||| 1) (i17_234 + 1) _ _ _ (by first | assumption | omega) (by omega) hE hP hD hS (lv_sub hl [3, 4, 5, 6, 7, 8, 9, 10, 11, 12, 13, 14, 15, 16, 2, 1, 0] rfl)
                        · have hE := hE.trans (if_pos c278)
                          refine lv_goto (tgt := 316) hx hb dL_holds_281 (by decide) ?_
                          refine lv_iinc (v := (nI (i17_234 + 1))) (lv' := [(17, .int (nI (i17_234 + 1))), (0, .ref (arc 0)), (1, .int x1), (2, .int x2), (3, .ref (atf 0)), (5, .int ((x2 + 10) - (x2 + 10) / 20 * 20)), (6, .int t22), (7, .int t30), (8, .int x8_187), (9, .int x9_187), (10, .int x10_187), (11, .int x11_187), (12, .int x12_196), (13, .int x13_196), (14, .int (nI i14_196)), (15, .int x15_234), (16, .int x16_234)]) hx hb dL_holds_316 hl (k := 16) rfl (nI_1 i17_234) (by decide) rfl (fun ls hl => ?_)
                          try rw [nI_1 i17_234] at hE
                          refine lv_goto (tgt := 234) hx hb dL_holds_319 (by decide) ?_
                          exact ih234 x15_234 x16_234 (i17_234 + 1) _ _ _ (by first | assumption | omega) (by omega) hE hP hD hS (lv_sub hl [1, 2, 3, 4, 5, 6, 7, 8, 9, 10, 11, 12, 13, 14, 15, 16, 0] rfl)
              refine lv_istore (lv' := [(17, .int 0), (16, .int 0), (15, .int t223), (0, .ref (arc 0)), (1, .int x1), (2, .int x2), (3, .ref (atf 0)), (5, .int ((x2 + 10) - (x2 + 10) / 20 * 20)), (6, .int t22), (7, .int t30), (8, .int x8_187), (9, .int x9_187), (10, .int x10_187), (11, .int x11_187), (12, .int x12_196), (13, .int x13_196), (14, .int (nI i14_196))]) hx hb dL_holds_232 hl (by decide) rfl (fun ls hl => ?_)
              exact hB234 17 t223 0 0 _ _ _ (by first | assumption | omega) (by omega) hE hP hD hS (lv_sub hl [3, 4, 5, 6, 7, 8, 9, 10, 11, 12, 13, 14, 15, 16, 2, 1, 0] rfl)
            · have hE := hE.trans (if_pos c213)
              refine lv_goto (tgt := 354) hx hb dL_holds_216 (by decide) ?_
              refine lv_iinc (v := (nI (i14_196 + 1))) (lv' := [(14, .int (nI (i14_196 + 1))), (0, .ref (arc 0)), (1, .int x1), (2, .int x2), (3, .ref (atf 0)), (5, .int ((x2 + 10) - (x2 + 10) / 20 * 20)), (6, .int t22), (7, .int t30), (8, .int x8_187), (9, .int x9_187), (10, .int x10_187), (11, .int x11_187), (12, .int x12_196), (13, .int x13_196)]) hx hb dL_holds_354 hl (k := 13) rfl (nI_1 i14_196) (by decide) rfl (fun ls hl => ?_)
              try rw [nI_1 i14_196] at hE
              refine lv_goto (tgt := 196) hx hb dL_holds_357 (by decide) ?_
              exact ih196 x12_196 x13_196 (i14_196 + 1) _ _ _ (by first | assumption | omega) (by omega) hE hP hD hS (lv_sub hl [1, 2, 3, 4, 5, 6, 7, 8, 9, 10, 11, 12, 13, 0] rfl)
      refine lv_istore (lv' := [(14, .int 0), (13, .int 0), (12, .int 1), (0, .ref (arc 0)), (1, .int x1), (2, .int x2), (3, .ref (atf 0)), (5, .int ((x2 + 10) - (x2 + 10) / 20 * 20)), (6, .int t22), (7, .int t30), (8, .int x8_187), (9, .int x9_187), (10, .int x10_187), (11, .int x11_187)]) hx hb dL_holds_194 hl (by decide) rfl (fun ls hl => ?_)
      exact hB196 17 1 0 0 _ _ _ (by first | assumption | omega) (by omega) hE hP hD hS (lv_sub hl [3, 4, 5, 6, 7, 8, 9, 10, 11, 12, 13, 2, 1, 0] rfl)
    have hB60 : ∀ (n60 : Nat) (x8_60 : Int32) (x9_60 : Int32) (x10_60 : Int32) (x11_60 : Int32) (i12_60 : Nat) (H : Heap) (locs : List Loc) (ls : Array Slot), (i12_60 ≤ N_c_size) → (zbo x8_60) → (zbo x9_60) → 17 ≤ i12_60 + n60 → T = FL_holds_60 (g0_kind bc) (g0_head bc) (g0_body bc) (g0_excepts bc) (g0_power bc) (g0_beats bc) (g0_facts bc) (g0_size bc) (g0_shut bc) (g6_allFor bv) (g10_x btf) x1 x2 (FL_holds_187 (g0_kind bc) (g0_head bc) (g0_body bc) (g0_excepts bc) (g0_power bc) (g0_beats bc) (g0_facts bc) (g0_size bc) (g0_shut bc) (g6_allFor bv) (g10_x btf) x1 x2) n60 ((x2 + 10) - (x2 + 10) / 20 * 20) t22 t30 x8_60 x9_60 x10_60 x11_60 (nI i12_60) → zP G (w8 G arc (ac 0) (ard 0) orc_thought orc_thoughtRounds orc_chain (ahi 0) orc_kept (awd 0) (apa 0) orc_rows brc :: w0 G ac bc :: w4 G ard (av 0) brd :: w6 G av bv :: w10 G atf btf :: w7 G awd bwd :: w2 G apa bpa :: w1 G ahi aik sg (nI D) un :: hcs G aik y) H → zD A (w8 G arc (ac 0) (ard 0) orc_thought orc_thoughtRounds orc_chain (ahi 0) orc_kept (awd 0) (apa 0) orc_rows brc :: w0 G ac bc :: w4 G ard (av 0) brd :: w6 G av bv :: w10 G atf btf :: w7 G awd bwd :: w2 G apa bpa :: w1 G ahi aik sg (nI D) un :: hcs G aik y) → va_S A s.heap H locs → lv_has ls 18 [(0, .ref (arc 0)), (1, .int x1), (2, .int x2), (3, .ref (atf 0)), (5, .int ((x2 + 10) - (x2 + 10) / 20 * 20)), (6, .int t22), (7, .int t30), (8, .int x8_60), (9, .int x9_60), (10, .int x10_60), (11, .int x11_60), (12, .int (nI i12_60))] → W p l e rmL_holds s m args below meth c H locs 0 0 Q (F0 m 60 ls []) := by
      intro n60
      induction n60 with
      | zero =>
        intro x8_60 x9_60 x10_60 x11_60 i12_60 H locs ls hi12_60 hbx8_60 hbx9_60 hn hE hP hD hS hl
        exact absurd hn (by omega)
      | succ n60 ih60 =>
        intro x8_60 x9_60 x10_60 x11_60 i12_60 H locs ls hi12_60 hbx8_60 hbx9_60 hn hE hP hD hS hl
        have hE := hE.trans (FL_holds_60.eq_2 _ _ _ _ _ _ _ _ _ _ _ _ _ _ _ _ _ _ _ _ _ _ _)
        refine lv_iload hx hb dL_holds_60 (lv_at hl 11 rfl) ?_
        refine lv_aload_n hx hb dL_holds_62 rfl (lv_at hl 0 rfl) ?_
        refine lv_iconst (v := 4) hx hb dL_holds_63 (by decide) ?_
        obtain ⟨t64, ht64⟩ : ∃ z, FX8_count_4 (g0_size bc) 4 = z := ⟨_, rfl⟩
        have hE := hE.trans (bnd_eq ht64)
        have hc := c_X8_count_4 l G arc ac ard av awd apa ahi aik orc_thought orc_thoughtRounds orc_chain orc_kept orc_rows brc bc brd bv bwd bpa sg y D un 4 (hh_c_head) (hz_c_size) (hu_rc_isSettled) (rfl) _ ht64
        refine zgoI (bs' := (w8 G arc (ac 0) (ard 0) orc_thought orc_thoughtRounds orc_chain (ahi 0) orc_kept (awd 0) (apa 0) orc_rows brc :: w0 G ac bc :: w4 G ard (av 0) brd :: w6 G av bv :: w10 G atf btf :: w7 G awd bwd :: w2 G apa bpa :: w1 G ahi aik sg (nI D) un :: hcs G aik y)) hc [0, 1, 2, 3, 5, 6, 7, 8, 9, 10, 11, 12, 13, 14, 15, 16, 17, 18, 19, 20] rfl rfl rfl hP hD hS hA (va_runV (As := [.int 4]) (rest := [.int (nI i12_60)]) S (hc.2 _) (cwV 1 S.2.2.2.2 gL_holds_X8_count rfl rfl rfl (by decide +kernel) ⟨Nat.le_of_ble_eq_true rfl, Nat.le_of_ble_eq_true rfl⟩) (zpV hK hP hD (is := [0, 1, 2, 3, 5, 6, 7, 8, 9, 10, 11, 12, 13, 14, 15, 16, 17, 18, 19, 20]) rfl rfl 0 rfl rfl (ci := 8) rfl) rfl rfl hl.1 rfl (lv_room (Nat.le_of_ble_eq_true rfl)) dL_holds_64 ⟨Nat.zero_le _, Nat.zero_le _⟩) (fun H locs hn64 hP hD hS => ?_)
        refine lv_icmp_ge (tgt := 187) hx hb dL_holds_67 (by decide) (fun c67 => ?_) (fun c67 => ?_)
        · have hE := hE.trans (if_pos c67)
          exact hB187 x8_60 x9_60 x10_60 x11_60 _ _ _ (by first | assumption | exact Or.inl rfl | exact Or.inr rfl | exact zbo_or (by assumption) (by assumption) | exact zbo_and (by assumption) (by assumption)) (by first | assumption | exact Or.inl rfl | exact Or.inr rfl | exact zbo_or (by assumption) (by assumption) | exact zbo_and (by assumption) (by assumption)) hE hP hD hS (lv_sub hl [0, 1, 2, 3, 4, 5, 6, 7, 8, 9, 10] rfl)
        · have hE := hE.trans (if_neg c67)
          have hl12_60 : i12_60 < N_c_size := zlt (N := N_c_size) (ht64.symm.trans hs_c_size) (by omega) (by omega) c67
          refine lv_iload hx hb dL_holds_70 (lv_at hl 5 rfl) ?_
          refine lv_iload hx hb dL_holds_72 (lv_at hl 11 rfl) ?_
          obtain ⟨t74, ht74⟩ : ∃ z, FL_has t22 (nI i12_60) = z := ⟨_, rfl⟩
          have hE := hE.trans (bnd_eq ht74)
          have hc := c_L_has l G t22 (nI i12_60) _ ht74
          refine zgoR (va_runS (As := [.int t22, .int (nI i12_60)]) (rest := []) S (hc _) (va_cwS 2 S.2.2.2.2 gL_holds_L_has rfl rfl rfl (by decide +kernel) ⟨Nat.le_of_ble_eq_true rfl, Nat.le_of_ble_eq_true rfl⟩) (zpS hK hP hD (is := []) rfl rfl) rfl rfl hl.1 rfl (lv_room (Nat.le_of_ble_eq_true rfl)) dL_holds_74 ⟨Nat.zero_le _, Nat.zero_le _⟩) (fun hn74 => ?_)
          refine lv_if_ne (tgt := 83) hx hb dL_holds_77 (by decide) (fun c77 => ?_) (fun c77 => ?_)
          · have hE := hE.trans (if_neg c77)
            refine lv_aload_n hx hb dL_holds_83 rfl (lv_at hl 0 rfl) ?_
            refine lv_iload hx hb dL_holds_84 (lv_at hl 11 rfl) ?_
            refine lv_iconst (v := 0) hx hb dL_holds_86 (by decide) ?_
            obtain ⟨t87, ht87⟩ : ∃ z, FX8_ruleOf (g0_kind bc) (g0_head bc) (g0_body bc) (g0_excepts bc) (g0_power bc) (g0_beats bc) (g0_size bc) (g0_shut bc) (nI i12_60) 0 = z := ⟨_, rfl⟩
            have hE := hE.trans (bnd_eq ht87)
            have hc := c_X8_ruleOf l G arc ac (ard 0) orc_thought orc_thoughtRounds orc_chain (ahi 0) orc_kept (awd 0) (apa 0) orc_rows brc bc (nI i12_60) 0 (hz_c_size) _ ht87
            refine zgoR (va_runV (As := [.int (nI i12_60), .int 0]) (rest := []) S (hc _) (cwV 2 S.2.2.2.2 gL_holds_X8_ruleOf rfl rfl rfl (by decide +kernel) ⟨Nat.le_of_ble_eq_true rfl, Nat.le_of_ble_eq_true rfl⟩) (zpV hK hP hD (is := [0, 1]) rfl rfl 0 rfl rfl (ci := 8) rfl) rfl rfl hl.1 rfl (lv_room (Nat.le_of_ble_eq_true rfl)) dL_holds_87 ⟨Nat.zero_le _, Nat.zero_le _⟩) (fun hn87 => ?_)
            have hB143 : ∀ (x8_143 : Int32) (x9_143 : Int32) (H : Heap) (locs : List Loc) (ls : Array Slot), (zbo x8_143) → (zbo x9_143) → T = FL_holds_143 (g0_kind bc) (g0_head bc) (g0_body bc) (g0_excepts bc) (g0_power bc) (g0_beats bc) (g0_facts bc) (g0_size bc) (g0_shut bc) (g6_allFor bv) (g10_x btf) x1 x2 (fun x5_60' x6_60' x7_60' x8_60' x9_60' x10_60' x11_60' x12_60' => FL_holds_60 (g0_kind bc) (g0_head bc) (g0_body bc) (g0_excepts bc) (g0_power bc) (g0_beats bc) (g0_facts bc) (g0_size bc) (g0_shut bc) (g6_allFor bv) (g10_x btf) x1 x2 (FL_holds_187 (g0_kind bc) (g0_head bc) (g0_body bc) (g0_excepts bc) (g0_power bc) (g0_beats bc) (g0_facts bc) (g0_size bc) (g0_shut bc) (g6_allFor bv) (g10_x btf) x1 x2) n60 x5_60' x6_60' x7_60' x8_60' x9_60' x10_60' x11_60' x12_60') (FL_holds_187 (g0_kind bc) (g0_head bc) (g0_body bc) (g0_excepts bc) (g0_power bc) (g0_beats bc) (g0_facts bc) (g0_size bc) (g0_shut bc) (g6_allFor bv) (g10_x btf) x1 x2) ((x2 + 10) - (x2 + 10) / 20 * 20) t22 t30 x8_143 x9_143 x10_60 x11_60 (nI i12_60) → zP G (w8 G arc (ac 0) (ard 0) orc_thought orc_thoughtRounds orc_chain (ahi 0) orc_kept (awd 0) (apa 0) orc_rows brc :: w0 G ac bc :: w4 G ard (av 0) brd :: w6 G av bv :: w10 G atf btf :: w7 G awd bwd :: w2 G apa bpa :: w1 G ahi aik sg (nI D) un :: hcs G aik y) H → zD A (w8 G arc (ac 0) (ard 0) orc_thought orc_thoughtRounds orc_chain (ahi 0) orc_kept (awd 0) (apa 0) orc_rows brc :: w0 G ac bc :: w4 G ard (av 0) brd :: w6 G av bv :: w10 G atf btf :: w7 G awd bwd :: w2 G apa bpa :: w1 G ahi aik sg (nI D) un :: hcs G aik y) → va_S A s.heap H locs → lv_has ls 18 [(0, .ref (arc 0)), (1, .int x1), (2, .int x2), (3, .ref (atf 0)), (5, .int ((x2 + 10) - (x2 + 10) / 20 * 20)), (6, .int t22), (7, .int t30), (8, .int x8_143), (9, .int x9_143), (10, .int x10_60), (11, .int x11_60), (12, .int (nI i12_60))] → W p l e rmL_holds s m args below meth c H locs 0 0 Q (F0 m 143 ls []) := by
              intro x8_143 x9_143 H locs ls hbx8_143 hbx9_143 hE hP hD hS hl
              have hE := hE.trans (FL_holds_143.eq_1 _ _ _ _ _ _ _ _ _ _ _ _ _ _ _ _ _ _ _ _ _ _ _)
              refine lv_aload_n hx hb dL_holds_143 rfl (lv_at hl 0 rfl) ?_
              refine lv_iload hx hb dL_holds_144 (lv_at hl 11 rfl) ?_
              refine lv_iconst (v := 0) hx hb dL_holds_146 (by decide) ?_
              obtain ⟨t147, ht147⟩ : ∃ z, FX8_ruleOf (g0_kind bc) (g0_head bc) (g0_body bc) (g0_excepts bc) (g0_power bc) (g0_beats bc) (g0_size bc) (g0_shut bc) (nI i12_60) 0 = z := ⟨_, rfl⟩
              have hE := hE.trans (bnd_eq ht147)
              have hc := c_X8_ruleOf l G arc ac (ard 0) orc_thought orc_thoughtRounds orc_chain (ahi 0) orc_kept (awd 0) (apa 0) orc_rows brc bc (nI i12_60) 0 (hz_c_size) _ ht147
              refine zgoR (va_runV (As := [.int (nI i12_60), .int 0]) (rest := []) S (hc _) (cwV 2 S.2.2.2.2 gL_holds_X8_ruleOf rfl rfl rfl (by decide +kernel) ⟨Nat.le_of_ble_eq_true rfl, Nat.le_of_ble_eq_true rfl⟩) (zpV hK hP hD (is := [0, 1]) rfl rfl 0 rfl rfl (ci := 8) rfl) rfl rfl hl.1 rfl (lv_room (Nat.le_of_ble_eq_true rfl)) dL_holds_147 ⟨Nat.zero_le _, Nat.zero_le _⟩) (fun hn147 => ?_)
              refine lv_iconst (v := 2) hx hb dL_holds_150 (by decide) ?_
              refine lv_icmp_ne (tgt := 157) hx hb dL_holds_151 (by decide) (fun c151 => ?_) (fun c151 => ?_)
              · have hE := hE.trans (if_neg c151)
                refine lv_iload hx hb dL_holds_157 (lv_at hl 9 rfl) ?_
                refine lv_aload_n hx hb dL_holds_159 rfl (lv_at hl 0 rfl) ?_
                refine lv_iload hx hb dL_holds_160 (lv_at hl 11 rfl) ?_
                refine lv_aload_n hx hb dL_holds_162 rfl (lv_at hl 3 rfl) ?_
                obtain ⟨t163, ht163⟩ : ∃ z, FL_applies (g0_kind bc) (g0_head bc) (g0_body bc) (g0_excepts bc) (g0_power bc) (g0_beats bc) (g0_size bc) (g0_shut bc) (g10_x btf) (nI i12_60) = z := ⟨_, rfl⟩
                have hE := hE.trans (bnd_eq ht163)
                have hc := c_L_applies l G arc ac atf (ard 0) orc_thought orc_thoughtRounds orc_chain (ahi 0) orc_kept (awd 0) (apa 0) orc_rows brc bc btf (nI i12_60) (hz_c_size) _ ht163
                refine zgoR (va_runS (As := [.ref (arc 0), .int (nI i12_60), .ref (atf 0)]) (rest := [.int x10_60]) S (hc _) (va_cwS 3 S.2.2.2.2 gL_holds_L_applies rfl rfl rfl (by decide +kernel) ⟨Nat.le_of_ble_eq_true rfl, Nat.le_of_ble_eq_true rfl⟩) (zpS hK hP hD (is := [0, 1, 4]) rfl rfl) rfl rfl hl.1 rfl (lv_room (Nat.le_of_ble_eq_true rfl)) dL_holds_163 ⟨Nat.zero_le _, Nat.zero_le _⟩) (fun hn163 => ?_)
                refine lv_ior hx hb dL_holds_166 ?_
                refine lv_istore (lv' := [(10, .int (x10_60 ||| t163)), (0, .ref (arc 0)), (1, .int x1), (2, .int x2), (3, .ref (atf 0)), (5, .int ((x2 + 10) - (x2 + 10) / 20 * 20)), (6, .int t22), (7, .int t30), (8, .int x8_143), (9, .int x9_143), (11, .int x11_60), (12, .int (nI i12_60))]) hx hb dL_holds_167 hl (by decide) rfl (fun ls hl => ?_)
                refine lv_iload hx hb dL_holds_169 (lv_at hl 10 rfl) ?_
                refine lv_aload_n hx hb dL_holds_171 rfl (lv_at hl 1 rfl) ?_
                refine lv_iload hx hb dL_holds_172 (lv_at hl 11 rfl) ?_
                refine lv_aload_n hx hb dL_holds_174 rfl (lv_at hl 4 rfl) ?_
                obtain ⟨t175, ht175⟩ : ∃ z, FL_falls (g0_kind bc) (g0_head bc) (g0_body bc) (g0_excepts bc) (g0_power bc) (g0_beats bc) (g0_size bc) (g0_shut bc) (g10_x btf) (nI i12_60) = z := ⟨_, rfl⟩
                have hE := hE.trans (bnd_eq ht175)
                have hc := c_L_falls l G arc ac atf (ard 0) orc_thought orc_thoughtRounds orc_chain (ahi 0) orc_kept (awd 0) (apa 0) orc_rows brc bc btf (nI i12_60) (hz_c_size) _ ht175
                refine zgoR (va_runS (As := [.ref (arc 0), .int (nI i12_60), .ref (atf 0)]) (rest := [.int x11_60]) S (hc _) (va_cwS 3 S.2.2.2.2 gL_holds_L_falls rfl rfl rfl (by decide +kernel) ⟨Nat.le_of_ble_eq_true rfl, Nat.le_of_ble_eq_true rfl⟩) (zpS hK hP hD (is := [0, 1, 4]) rfl rfl) rfl rfl hl.1 rfl (lv_room (Nat.le_of_ble_eq_true rfl)) dL_holds_175 ⟨Nat.zero_le _, Nat.zero_le _⟩) (fun hn175 => ?_)
                refine lv_iand hx hb dL_holds_178 ?_
                refine lv_istore (lv' := [(11, .int (x11_60 &&& t175)), (10, .int (x10_60 ||| t163)), (0, .ref (arc 0)), (1, .int x1), (2, .int x2), (3, .ref (atf 0)), (5, .int ((x2 + 10) - (x2 + 10) / 20 * 20)), (6, .int t22), (7, .int t30), (8, .int x8_143), (9, .int x9_143), (12, .int (nI i12_60))]) hx hb dL_holds_179 hl (by decide) rfl (fun ls hl => ?_)
                refine lv_iinc (v := (nI (i12_60 + 1))) (lv' := [(12, .int (nI (i12_60 + 1))), (11, .int (x11_60 &&& t175)), (10, .int (x10_60 ||| t163)), (0, .ref (arc 0)), (1, .int x1), (2, .int x2), (3, .ref (atf 0)), (5, .int ((x2 + 10) - (x2 + 10) / 20 * 20)), (6, .int t22), (7, .int t30), (8, .int x8_143), (9, .int x9_143)]) hx hb dL_holds_181 hl (k := 11) rfl (nI_1 i12_60) (by decide) rfl (fun ls hl => ?_)
                try rw [nI_1 i12_60] at hE
                refine lv_goto (tgt := 60) hx hb dL_holds_184 (by decide) ?_
                exact ih60 x8_143 x9_143 (x10_60 ||| t163) (x11_60 &&& t175) (i12_60 + 1) _ _ _ (by first | assumption | omega) (by first | assumption | exact Or.inl rfl | exact Or.inr rfl | exact zbo_or (by assumption) (by assumption) | exact zbo_and (by assumption) (by assumption)) (by first | assumption | exact Or.inl rfl | exact Or.inr rfl | exact zbo_or (by assumption) (by assumption) | exact zbo_and (by assumption) (by assumption)) (by omega) hE hP hD hS (lv_sub hl [3, 4, 5, 6, 7, 8, 9, 10, 11, 2, 1, 0] rfl)
              · have hE := hE.trans (if_pos c151)
                refine lv_goto (tgt := 181) hx hb dL_holds_154 (by decide) ?_
                refine lv_iinc (v := (nI (i12_60 + 1))) (lv' := [(12, .int (nI (i12_60 + 1))), (0, .ref (arc 0)), (1, .int x1), (2, .int x2), (3, .ref (atf 0)), (5, .int ((x2 + 10) - (x2 + 10) / 20 * 20)), (6, .int t22), (7, .int t30), (8, .int x8_143), (9, .int x9_143), (10, .int x10_60), (11, .int x11_60)]) hx hb dL_holds_181 hl (k := 11) rfl (nI_1 i12_60) (by decide) rfl (fun ls hl => ?_)
                try rw [nI_1 i12_60] at hE
                refine lv_goto (tgt := 60) hx hb dL_holds_184 (by decide) ?_
                exact ih60 x8_143 x9_143 x10_60 x11_60 (i12_60 + 1) _ _ _ (by first | assumption | omega) (by first | assumption | exact Or.inl rfl | exact Or.inr rfl | exact zbo_or (by assumption) (by assumption) | exact zbo_and (by assumption) (by assumption)) (by first | assumption | exact Or.inl rfl | exact Or.inr rfl | exact zbo_or (by assumption) (by assumption) | exact zbo_and (by assumption) (by assumption)) (by omega) hE hP hD hS (lv_sub hl [1, 2, 3, 4, 5, 6, 7, 8, 9, 10, 11, 0] rfl)
            refine lv_if_ne (tgt := 143) hx hb dL_holds_90 (by decide) (fun c90 => ?_) (fun c90 => ?_)
            · have hE := hE.trans (if_neg c90)
              exact hB143 x8_60 x9_60 _ _ _ (by first | assumption | exact Or.inl rfl | exact Or.inr rfl | exact zbo_or (by assumption) (by assumption) | exact zbo_and (by assumption) (by assumption)) (by first | assumption | exact Or.inl rfl | exact Or.inr rfl | exact zbo_or (by assumption) (by assumption) | exact zbo_and (by assumption) (by assumption)) hE hP hD hS (lv_sub hl [0, 1, 2, 3, 4, 5, 6, 7, 8, 9, 10, 11] rfl)
            · have hE := hE.trans (if_pos c90)
              refine lv_iload hx hb dL_holds_93 (lv_at hl 7 rfl) ?_
              refine lv_aload_n hx hb dL_holds_95 rfl (lv_at hl 0 rfl) ?_
              refine lv_iload hx hb dL_holds_96 (lv_at hl 11 rfl) ?_
              refine lv_iconst (v := 2) hx hb dL_holds_98 (by decide) ?_
              obtain ⟨t99, ht99⟩ : ∃ z, FX8_ruleOf (g0_kind bc) (g0_head bc) (g0_body bc) (g0_excepts bc) (g0_power bc) (g0_beats bc) (g0_size bc) (g0_shut bc) (nI i12_60) 2 = z := ⟨_, rfl⟩
              have hE := hE.trans (bnd_eq ht99)
              have hc := c_X8_ruleOf l G arc ac (ard 0) orc_thought orc_thoughtRounds orc_chain (ahi 0) orc_kept (awd 0) (apa 0) orc_rows brc bc (nI i12_60) 2 (hz_c_size) _ ht99
              refine zgoR (va_runV (As := [.int (nI i12_60), .int 2]) (rest := [.int x8_60]) S (hc _) (cwV 2 S.2.2.2.2 gL_holds_X8_ruleOf rfl rfl rfl (by decide +kernel) ⟨Nat.le_of_ble_eq_true rfl, Nat.le_of_ble_eq_true rfl⟩) (zpV hK hP hD (is := [0, 1]) rfl rfl 0 rfl rfl (ci := 8) rfl) rfl rfl hl.1 rfl (lv_room (Nat.le_of_ble_eq_true rfl)) dL_holds_99 ⟨Nat.zero_le _, Nat.zero_le _⟩) (fun hn99 => ?_)
              refine lv_aload_n hx hb dL_holds_102 rfl (lv_at hl 3 rfl) ?_
              refine lv_iconst (v := 0) hx hb dL_holds_103 (by decide) ?_
              refine zl10_x S hK hP 4 rfl (zin_k (n := 0) rfl (by decide) (by decide)) (f := (g10_x btf)) rfl dL_holds_104 ?_
              refine lv_iconst (v := (-1)) hx hb dL_holds_105 (by decide) ?_
              refine lv_ixor hx hb dL_holds_106 ?_
              refine lv_iand hx hb dL_holds_107 ?_
              have hB116 : ∀ (k1_116 : Int32) (H : Heap) (locs : List Loc) (ls : Array Slot), (zbo k1_116) → T = FL_holds_116 (g0_kind bc) (g0_head bc) (g0_body bc) (g0_excepts bc) (g0_power bc) (g0_beats bc) (g0_facts bc) (g0_size bc) (g0_shut bc) (g6_allFor bv) (g10_x btf) x1 x2 (fun x5_60' x6_60' x7_60' x8_60' x9_60' x10_60' x11_60' x12_60' => FL_holds_60 (g0_kind bc) (g0_head bc) (g0_body bc) (g0_excepts bc) (g0_power bc) (g0_beats bc) (g0_facts bc) (g0_size bc) (g0_shut bc) (g6_allFor bv) (g10_x btf) x1 x2 (FL_holds_187 (g0_kind bc) (g0_head bc) (g0_body bc) (g0_excepts bc) (g0_power bc) (g0_beats bc) (g0_facts bc) (g0_size bc) (g0_shut bc) (g6_allFor bv) (g10_x btf) x1 x2) n60 x5_60' x6_60' x7_60' x8_60' x9_60' x10_60' x11_60' x12_60') (FL_holds_187 (g0_kind bc) (g0_head bc) (g0_body bc) (g0_excepts bc) (g0_power bc) (g0_beats bc) (g0_facts bc) (g0_size bc) (g0_shut bc) (g6_allFor bv) (g10_x btf) x1 x2) ((x2 + 10) - (x2 + 10) / 20 * 20) t22 t30 x9_60 x10_60 x11_60 (nI i12_60) x8_60 k1_116 → zP G (w8 G arc (ac 0) (ard 0) orc_thought orc_thoughtRounds orc_chain (ahi 0) orc_kept (awd 0) (apa 0) orc_rows brc :: w0 G ac bc :: w4 G ard (av 0) brd :: w6 G av bv :: w10 G atf btf :: w7 G awd bwd :: w2 G apa bpa :: w1 G ahi aik sg (nI D) un :: hcs G aik y) H → zD A (w8 G arc (ac 0) (ard 0) orc_thought orc_thoughtRounds orc_chain (ahi 0) orc_kept (awd 0) (apa 0) orc_rows brc :: w0 G ac bc :: w4 G ard (av 0) brd :: w6 G av bv :: w10 G atf btf :: w7 G awd bwd :: w2 G apa bpa :: w1 G ahi aik sg (nI D) un :: hcs G aik y) → va_S A s.heap H locs → lv_has ls 18 [(0, .ref (arc 0)), (1, .int x1), (2, .int x2), (3, .ref (atf 0)), (5, .int ((x2 + 10) - (x2 + 10) / 20 * 20)), (6, .int t22), (7, .int t30), (9, .int x9_60), (10, .int x10_60), (11, .int x11_60), (12, .int (nI i12_60))] → W p l e rmL_holds s m args below meth c H locs 0 0 Q (F0 m 116 ls [.int k1_116, .int x8_60]) := by
                intro k1_116 H locs ls hbk1_116 hE hP hD hS hl
                have hE := hE.trans (FL_holds_116.eq_1 _ _ _ _ _ _ _ _ _ _ _ _ _ _ _ _ _ _ _ _ _ _ _ _)
                refine lv_ior hx hb dL_holds_116 ?_
                refine lv_istore (lv' := [(8, .int (x8_60 ||| k1_116)), (0, .ref (arc 0)), (1, .int x1), (2, .int x2), (3, .ref (atf 0)), (5, .int ((x2 + 10) - (x2 + 10) / 20 * 20)), (6, .int t22), (7, .int t30), (9, .int x9_60), (10, .int x10_60), (11, .int x11_60), (12, .int (nI i12_60))]) hx hb dL_holds_117 hl (by decide) rfl (fun ls hl => ?_)
                refine lv_iload hx hb dL_holds_119 (lv_at hl 8 rfl) ?_
                refine lv_aload_n hx hb dL_holds_121 rfl (lv_at hl 1 rfl) ?_
                refine lv_iload hx hb dL_holds_122 (lv_at hl 11 rfl) ?_
                refine lv_iconst (v := 2) hx hb dL_holds_124 (by decide) ?_
                obtain ⟨t125, ht125⟩ : ∃ z, FX8_ruleOf (g0_kind bc) (g0_head bc) (g0_body bc) (g0_excepts bc) (g0_power bc) (g0_beats bc) (g0_size bc) (g0_shut bc) (nI i12_60) 2 = z := ⟨_, rfl⟩
                have hE := hE.trans (bnd_eq ht125)
                have hc := c_X8_ruleOf l G arc ac (ard 0) orc_thought orc_thoughtRounds orc_chain (ahi 0) orc_kept (awd 0) (apa 0) orc_rows brc bc (nI i12_60) 2 (hz_c_size) _ ht125
                refine zgoR (va_runV (As := [.int (nI i12_60), .int 2]) (rest := [.int x9_60]) S (hc _) (cwV 2 S.2.2.2.2 gL_holds_X8_ruleOf rfl rfl rfl (by decide +kernel) ⟨Nat.le_of_ble_eq_true rfl, Nat.le_of_ble_eq_true rfl⟩) (zpV hK hP hD (is := [0, 1]) rfl rfl 0 rfl rfl (ci := 8) rfl) rfl rfl hl.1 rfl (lv_room (Nat.le_of_ble_eq_true rfl)) dL_holds_125 ⟨Nat.zero_le _, Nat.zero_le _⟩) (fun hn125 => ?_)
                refine lv_aload_n hx hb dL_holds_128 rfl (lv_at hl 4 rfl) ?_
                refine lv_iconst (v := 1) hx hb dL_holds_129 (by decide) ?_
                refine zl10_x S hK hP 4 rfl (zin_k (n := 1) rfl (by decide) (by decide)) (f := (g10_x btf)) rfl dL_holds_130 ?_
                refine lv_iand hx hb dL_holds_131 ?_
                have hB140 : ∀ (k1_140 : Int32) (H : Heap) (locs : List Loc) (ls : Array Slot), (zbo k1_140) → T = FL_holds_140 (g0_kind bc) (g0_head bc) (g0_body bc) (g0_excepts bc) (g0_power bc) (g0_beats bc) (g0_facts bc) (g0_size bc) (g0_shut bc) (g6_allFor bv) (g10_x btf) x1 x2 (fun x5_60' x6_60' x7_60' x8_60' x9_60' x10_60' x11_60' x12_60' => FL_holds_60 (g0_kind bc) (g0_head bc) (g0_body bc) (g0_excepts bc) (g0_power bc) (g0_beats bc) (g0_facts bc) (g0_size bc) (g0_shut bc) (g6_allFor bv) (g10_x btf) x1 x2 (FL_holds_187 (g0_kind bc) (g0_head bc) (g0_body bc) (g0_excepts bc) (g0_power bc) (g0_beats bc) (g0_facts bc) (g0_size bc) (g0_shut bc) (g6_allFor bv) (g10_x btf) x1 x2) n60 x5_60' x6_60' x7_60' x8_60' x9_60' x10_60' x11_60' x12_60') (FL_holds_187 (g0_kind bc) (g0_head bc) (g0_body bc) (g0_excepts bc) (g0_power bc) (g0_beats bc) (g0_facts bc) (g0_size bc) (g0_shut bc) (g6_allFor bv) (g10_x btf) x1 x2) ((x2 + 10) - (x2 + 10) / 20 * 20) t22 t30 (x8_60 ||| k1_116) x10_60 x11_60 (nI i12_60) x9_60 k1_140 → zP G (w8 G arc (ac 0) (ard 0) orc_thought orc_thoughtRounds orc_chain (ahi 0) orc_kept (awd 0) (apa 0) orc_rows brc :: w0 G ac bc :: w4 G ard (av 0) brd :: w6 G av bv :: w10 G atf btf :: w7 G awd bwd :: w2 G apa bpa :: w1 G ahi aik sg (nI D) un :: hcs G aik y) H → zD A (w8 G arc (ac 0) (ard 0) orc_thought orc_thoughtRounds orc_chain (ahi 0) orc_kept (awd 0) (apa 0) orc_rows brc :: w0 G ac bc :: w4 G ard (av 0) brd :: w6 G av bv :: w10 G atf btf :: w7 G awd bwd :: w2 G apa bpa :: w1 G ahi aik sg (nI D) un :: hcs G aik y) → va_S A s.heap H locs → lv_has ls 18 [(0, .ref (arc 0)), (1, .int x1), (2, .int x2), (3, .ref (atf 0)), (5, .int ((x2 + 10) - (x2 + 10) / 20 * 20)), (6, .int t22), (7, .int t30), (8, .int (x8_60 ||| k1_116)), (10, .int x10_60), (11, .int x11_60), (12, .int (nI i12_60))] → W p l e rmL_holds s m args below meth c H locs 0 0 Q (F0 m 140 ls [.int k1_140, .int x9_60]) := by
                  intro k1_140 H locs ls hbk1_140 hE hP hD hS hl
                  have hE := hE.trans (FL_holds_140.eq_1 _ _ _ _ _ _ _ _ _ _ _ _ _ _ _ _ _ _ _ _ _ _ _ _)
                  refine lv_iand hx hb dL_holds_140 ?_
                  refine lv_istore (lv' := [(9, .int (x9_60 &&& k1_140)), (0, .ref (arc 0)), (1, .int x1), (2, .int x2), (3, .ref (atf 0)), (5, .int ((x2 + 10) - (x2 + 10) / 20 * 20)), (6, .int t22), (7, .int t30), (8, .int (x8_60 ||| k1_116)), (10, .int x10_60), (11, .int x11_60), (12, .int (nI i12_60))]) hx hb dL_holds_141 hl (by decide) rfl (fun ls hl => ?_)
                  exact hB143 (x8_60 ||| k1_116) (x9_60 &&& k1_140) _ _ _ (by first | assumption | exact Or.inl rfl | exact Or.inr rfl | exact zbo_or (by assumption) (by assumption) | exact zbo_and (by assumption) (by assumption)) (by first | assumption | exact Or.inl rfl | exact Or.inr rfl | exact zbo_or (by assumption) (by assumption) | exact zbo_and (by assumption) (by assumption)) hE hP hD hS (lv_sub hl [1, 2, 3, 4, 5, 6, 7, 8, 0, 9, 10, 11] rfl)
                refine lv_if_eq (tgt := 139) hx hb dL_holds_132 (by decide) (fun c132 => ?_) (fun c132 => ?_)
                · have hE := hE.trans (if_pos c132)
                  refine lv_iconst (v := 0) hx hb dL_holds_139 (by decide) ?_
                  exact hB140 0 _ _ _ (by first | assumption | exact Or.inl rfl | exact Or.inr rfl | exact zbo_or (by assumption) (by assumption) | exact zbo_and (by assumption) (by assumption)) hE hP hD hS (lv_sub hl [1, 2, 3, 4, 5, 6, 7, 0, 9, 10, 11] rfl)
                · have hE := hE.trans (if_neg c132)
                  refine lv_iconst (v := 1) hx hb dL_holds_135 (by decide) ?_
                  refine lv_goto (tgt := 140) hx hb dL_holds_136 (by decide) ?_
                  exact hB140 1 _ _ _ (by first | assumption | exact Or.inl rfl | exact Or.inr rfl | exact zbo_or (by assumption) (by assumption) | exact zbo_and (by assumption) (by assumption)) hE hP hD hS (lv_sub hl [1, 2, 3, 4, 5, 6, 7, 0, 9, 10, 11] rfl)
              refine lv_if_ne (tgt := 115) hx hb dL_holds_108 (by decide) (fun c108 => ?_) (fun c108 => ?_)
              · have hE := hE.trans (if_neg c108)
                refine lv_iconst (v := 0) hx hb dL_holds_115 (by decide) ?_
                exact hB116 0 _ _ _ (by first | assumption | exact Or.inl rfl | exact Or.inr rfl | exact zbo_or (by assumption) (by assumption) | exact zbo_and (by assumption) (by assumption)) hE hP hD hS (lv_sub hl [0, 1, 2, 3, 4, 5, 6, 8, 9, 10, 11] rfl)
              · have hE := hE.trans (if_pos c108)
                refine lv_iconst (v := 1) hx hb dL_holds_111 (by decide) ?_
                refine lv_goto (tgt := 116) hx hb dL_holds_112 (by decide) ?_
                exact hB116 1 _ _ _ (by first | assumption | exact Or.inl rfl | exact Or.inr rfl | exact zbo_or (by assumption) (by assumption) | exact zbo_and (by assumption) (by assumption)) hE hP hD hS (lv_sub hl [0, 1, 2, 3, 4, 5, 6, 8, 9, 10, 11] rfl)
          · have hE := hE.trans (if_pos c77)
            refine lv_goto (tgt := 181) hx hb dL_holds_80 (by decide) ?_
            refine lv_iinc (v := (nI (i12_60 + 1))) (lv' := [(12, .int (nI (i12_60 + 1))), (0, .ref (arc 0)), (1, .int x1), (2, .int x2), (3, .ref (atf 0)), (5, .int ((x2 + 10) - (x2 + 10) / 20 * 20)), (6, .int t22), (7, .int t30), (8, .int x8_60), (9, .int x9_60), (10, .int x10_60), (11, .int x11_60)]) hx hb dL_holds_181 hl (k := 11) rfl (nI_1 i12_60) (by decide) rfl (fun ls hl => ?_)
            try rw [nI_1 i12_60] at hE
            refine lv_goto (tgt := 60) hx hb dL_holds_184 (by decide) ?_
            exact ih60 x8_60 x9_60 x10_60 x11_60 (i12_60 + 1) _ _ _ (by first | assumption | omega) (by first | assumption | exact Or.inl rfl | exact Or.inr rfl | exact zbo_or (by assumption) (by assumption) | exact zbo_and (by assumption) (by assumption)) (by first | assumption | exact Or.inl rfl | exact Or.inr rfl | exact zbo_or (by assumption) (by assumption) | exact zbo_and (by assumption) (by assumption)) (by omega) hE hP hD hS (lv_sub hl [1, 2, 3, 4, 5, 6, 7, 8, 9, 10, 11, 0] rfl)
    refine lv_istore (lv' := [(12, .int 0), (11, .int 1), (10, .int 0), (9, .int k0_49), (0, .ref (arc 0)), (1, .int x1), (2, .int x2), (3, .ref (atf 0)), (5, .int ((x2 + 10) - (x2 + 10) / 20 * 20)), (6, .int t22), (7, .int t30), (8, .int t6)]) hx hb dL_holds_58 hl (by decide) rfl (fun ls hl => ?_)
    exact hB60 17 t6 k0_49 0 1 0 _ _ _ (by first | assumption | omega) (by first | assumption | exact Or.inl rfl | exact Or.inr rfl | exact zbo_or (by assumption) (by assumption) | exact zbo_and (by assumption) (by assumption)) (by first | assumption | exact Or.inl rfl | exact Or.inr rfl | exact zbo_or (by assumption) (by assumption) | exact zbo_and (by assumption) (by assumption)) (by omega) hE hP hD hS (lv_sub hl [4, 5, 6, 7, 8, 9, 10, 11, 3, 2, 1, 0] rfl)
  refine lv_if_ne (tgt := 48) hx hb dL_holds_41 (by decide) (fun c41 => ?_) (fun c41 => ?_)
  · have hE := hE.trans (if_neg c41)
    refine lv_iconst (v := 0) hx hb dL_holds_48 (by decide) ?_
    exact hB49 0 _ _ _ (by first | assumption | exact Or.inl rfl | exact Or.inr rfl | exact zbo_or (by assumption) (by assumption) | exact zbo_and (by assumption) (by assumption)) hE hP hD hS (lv_sub hl [5, 6, 7, 8, 3, 2, 1, 0] rfl)
  · have hE := hE.trans (if_pos c41)
    refine lv_iconst (v := 1) hx hb dL_holds_44 (by decide) ?_
    refine lv_goto (tgt := 49) hx hb dL_holds_45 (by decide) ?_
    exact hB49 1 _ _ _ (by first | assumption | exact Or.inl rfl | exact Or.inr rfl | exact zbo_or (by assumption) (by assumption) | exact zbo_and (by assumption) (by assumption)) hE hP hD hS (lv_sub hl [5, 6, 7, 8, 3, 2, 1, 0] rfl)
