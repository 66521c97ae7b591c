set_option maxHeartbeats 40000000 in
set_option maxRecDepth 100000 in
theorem seg_L_law_6 {p : Program} {l : Launch} {e : Env} {s : State} {m : MethodId} {args : Array Value} {below : List Frame} {meth : Method} {c : Code} {A : Nat → Prop} {cells slots : Nat} {Q : State → Prop} (G : zG) (arc : Nat → Nat) (ac : Nat → Nat) (ard : Nat → Nat) (av : Nat → Nat) (atf : Nat → Nat) (aab : Nat → Nat) (awd : Nat → Nat) (apa : Nat → Nat) (ahi : Nat → Nat) (aik : Nat → Nat → Nat) (orc_thought : Nat) (orc_thoughtRounds : Nat) (orc_chain : Nat) (orc_kept : Nat) (orc_rows : Nat) (brc : S8) (bc : S0) (brd : S4) (bv : S6) (btf : S10) (bab : S11) (bwd : S7) (bpa : S2) (sg : Nat → Nat) (y : Nat → S0) (D : Nat) (un : Int32) (NR : Nat) (x1 : Int32) (x6 : Int32) (x8 : Int32) (x9 : Int32) (hx1 : x1 = nI NR) (hNR : NR ≤ 10) (hh_c_head : ∀ r : Nat, r < 16 → vp_in (g0_head bc r) 20) (hz_c_size : ∃ N : Nat, N ≤ 16 ∧ g0_size bc = nI N) (hu_rc_isSettled : ¬ g8_isSettled brc = 0)  (T : Int32 × (Nat → Int32)) (hT : FL_law_6 (g0_beats bc) (g0_size bc) (g6_above bv) (g6_reach bv) (g10_x btf) x1 x6 x8 x9 = T) (hT1 : T.1 = 1) (S : CallFix p m c cL_law 18 s args wsL_law RL) (hK : zK G s) (hA : ∀ q, s.heap.size ≤ q → A q) (hcl : cells ≤ room_1.cells) (hsl : slots ≤ room_1.slots) {H : Heap} {locs : List Loc} {ls : Array Slot} (hP : zP G (w8 G arc (ac 0) (ard 0) orc_thought orc_thoughtRounds orc_chain (ahi 0) orc_kept (awd 0) (apa 0) orc_rows brc :: w0 G ac bc :: w4 G ard (av 0) brd :: w6 G av bv :: w10 G atf btf :: w11 G aab NR bab :: w7 G awd bwd :: w2 G apa bpa :: w1 G ahi aik sg (nI D) un :: hcs G aik y) H) (hD : zD A (w8 G arc (ac 0) (ard 0) orc_thought orc_thoughtRounds orc_chain (ahi 0) orc_kept (awd 0) (apa 0) orc_rows brc :: w0 G ac bc :: w4 G ard (av 0) brd :: w6 G av bv :: w10 G atf btf :: w11 G aab NR bab :: w7 G awd bwd :: w2 G apa bpa :: w1 G ahi aik sg (nI D) un :: hcs G aik y)) (hS : va_S A s.heap H locs) (hl : lv_has ls 18 [(1, .int x1), (2, .ref (arc 0)), (3, .ref (atf 0)), (6, .int x6), (7, .ref (aab 0)), (8, .int x8), (9, .int x9)]) (hret826 : ∀ (H : Heap) (locs : List Loc) (ls : Array Slot), zP G (w8 G arc (ac 0) (ard 0) orc_thought orc_thoughtRounds orc_chain (ahi 0) orc_kept (awd 0) (apa 0) orc_rows brc :: w0 G ac bc :: w4 G ard (av 0) brd :: w6 G av (s6_reach bv T.2) :: w10 G atf btf :: w11 G aab NR bab :: w7 G awd bwd :: w2 G apa bpa :: w1 G ahi aik sg (nI D) un :: hcs G aik y) H → zD A (w8 G arc (ac 0) (ard 0) orc_thought orc_thoughtRounds orc_chain (ahi 0) orc_kept (awd 0) (apa 0) orc_rows brc :: w0 G ac bc :: w4 G ard (av 0) brd :: w6 G av (s6_reach bv T.2) :: w10 G atf btf :: w11 G aab NR bab :: w7 G awd bwd :: w2 G apa bpa :: w1 G ahi aik sg (nI D) un :: hcs G aik y) → va_S A s.heap H locs → lv_has ls 18 [(1, .int x1), (2, .ref (arc 0)), (3, .ref (atf 0)), (7, .ref (aab 0))] → W p l e room_1 s m args below meth c H locs cells slots Q (F0 m 826 ls [])) : W p l e room_1 s m args below meth c H locs cells slots Q (F0 m 756 ls []) := by
  have hx := S.1
  have hb := S.2.1
  have hE := hT.symm.trans (FL_law_6.eq_1 _ _ _ _ _ _ _ _ _)
  refine lv_aload_n hx hb dL_law_756 rfl (lv_at hl 1 rfl) ?_
  refine lv_iconst (v := 1) hx hb dL_law_757 (by decide) ?_
  obtain ⟨t758, ht758⟩ : ∃ z, FX8_count_1 (g6_above bv) (g6_reach bv) 1 = z := ⟨_, rfl⟩
  have hE := hE.trans (bnd_eq ht758)
  have hc := c_X8_count_1 l G arc ac ard av awd apa ahi aik orc_thought orc_thoughtRounds orc_chain orc_kept orc_rows brc bc brd bv bwd bpa sg y D un 1 (hh_c_head) (hz_c_size) (hu_rc_isSettled) (rfl) _ ht758
  refine zgoI (bs' := (w8 G arc (ac 0) (ard 0) orc_thought orc_thoughtRounds orc_chain (ahi 0) orc_kept (awd 0) (apa 0) orc_rows brc :: w0 G ac bc :: w4 G ard (av 0) brd :: w6 G av (s6_reach bv t758.2) :: w10 G atf btf :: w11 G aab NR bab :: w7 G awd bwd :: w2 G apa bpa :: w1 G ahi aik sg (nI D) un :: hcs G aik y)) hc [0, 1, 2, 3, 6, 7, 8, 9, 10, 11, 12, 13, 14, 15, 16, 17, 18, 19, 20, 21] rfl rfl rfl hP hD hS hA (va_runV (As := [.int 1]) (rest := []) S (hc.2 _) (cwV 1 S.2.2.2.2 gL_law_X8_count rfl rfl rfl (by decide +kernel) ⟨Nat.le_of_ble_eq_true rfl, Nat.le_of_ble_eq_true rfl⟩) (zpV hK hP hD (is := [0, 1, 2, 3, 6, 7, 8, 9, 10, 11, 12, 13, 14, 15, 16, 17, 18, 19, 20, 21]) rfl rfl 0 rfl rfl (ci := 8) rfl) rfl rfl hl.1 rfl (lv_room (Nat.le_of_ble_eq_true rfl)) dL_law_758 ⟨hcl, hsl⟩) (fun H locs hn758 hP hD hS => ?_)
  refine lv_istore (lv' := [(11, .int t758.1), (1, .int x1), (2, .ref (arc 0)), (3, .ref (atf 0)), (6, .int x6), (7, .ref (aab 0)), (8, .int x8), (9, .int x9)]) hx hb dL_law_761 hl (by decide) rfl (fun ls hl => ?_)
  refine lv_aload_n hx hb dL_law_763 rfl (lv_at hl 2 rfl) ?_
  refine lv_iconst (v := 5) hx hb dL_law_764 (by decide) ?_
  obtain ⟨t765, ht765⟩ : ∃ z, FX8_count_5 (g0_beats bc) (g0_size bc) 5 = z := ⟨_, rfl⟩
  have hE := hE.trans (bnd_eq ht765)
  have hc := c_X8_count_5 l G arc ac ard av awd apa ahi aik orc_thought orc_thoughtRounds orc_chain orc_kept orc_rows brc bc brd (s6_reach bv t758.2) bwd bpa sg y D un 5 (hh_c_head) (hz_c_size) (hu_rc_isSettled) (rfl) _ ht765
  refine zgoI (bs' := (w8 G arc (ac 0) (ard 0) orc_thought orc_thoughtRounds orc_chain (ahi 0) orc_kept (awd 0) (apa 0) orc_rows brc :: w0 G ac bc :: w4 G ard (av 0) brd :: w6 G av (s6_reach bv t758.2) :: w10 G atf btf :: w11 G aab NR bab :: w7 G awd bwd :: w2 G apa bpa :: w1 G ahi aik sg (nI D) un :: hcs G aik y)) hc [0, 1, 2, 3, 6, 7, 8, 9, 10, 11, 12, 13, 14, 15, 16, 17, 18, 19, 20, 21] rfl rfl rfl hP hD hS hA (va_runV (As := [.int 5]) (rest := []) S (hc.2 _) (cwV 1 S.2.2.2.2 gL_law_X8_count rfl rfl rfl (by decide +kernel) ⟨Nat.le_of_ble_eq_true rfl, Nat.le_of_ble_eq_true rfl⟩) (zpV hK hP hD (is := [0, 1, 2, 3, 6, 7, 8, 9, 10, 11, 12, 13, 14, 15, 16, 17, 18, 19, 20, 21]) rfl rfl 0 rfl rfl (ci := 8) rfl) rfl rfl hl.1 rfl (lv_room (Nat.le_of_ble_eq_true rfl)) dL_law_765 ⟨hcl, hsl⟩) (fun H locs hn765 hP hD hS => ?_)
  refine lv_iload hx hb dL_law_768 (lv_at hl 6 rfl) ?_
  refine lv_icmp_ne (tgt := 806) hx hb dL_law_770 (by decide) (fun c770 => ?_) (fun c770 => ?_)
  · have hE := hE.trans (if_neg c770)
    exact absurd (show (1 : Int32) = 0 from hT1.symm.trans (congrArg Prod.fst hE)) (by decide)
  · have hE := hE.trans (if_pos c770)
    refine lv_iload hx hb dL_law_773 (lv_at hl 0 rfl) ?_
    refine lv_iload hx hb dL_law_775 (lv_at hl 7 rfl) ?_
    refine lv_iconst (v := (-1)) hx hb dL_law_777 (by decide) ?_
    refine lv_ixor hx hb dL_law_778 ?_
    refine lv_iand hx hb dL_law_779 ?_
    refine lv_if_ne (tgt := 806) hx hb dL_law_780 (by decide) (fun c780 => ?_) (fun c780 => ?_)
    · have hE := hE.trans (if_neg c780)
      exact absurd (show (1 : Int32) = 0 from hT1.symm.trans (congrArg Prod.fst hE)) (by decide)
    · have hE := hE.trans (if_pos c780)
      refine lv_iload hx hb dL_law_783 (lv_at hl 0 rfl) ?_
      have hB793 : ∀ (k0_793 : Int32) (H : Heap) (locs : List Loc) (ls : Array Slot), T = FL_law_6_793 (g0_beats bc) (g0_size bc) (g6_above bv) (g6_reach bv) (g10_x btf) x1 x6 x8 x9 t758.1 k0_793 t758.2 → zP G (w8 G arc (ac 0) (ard 0) orc_thought orc_thoughtRounds orc_chain (ahi 0) orc_kept (awd 0) (apa 0) orc_rows brc :: w0 G ac bc :: w4 G ard (av 0) brd :: w6 G av (s6_reach bv t758.2) :: w10 G atf btf :: w11 G aab NR bab :: w7 G awd bwd :: w2 G apa bpa :: w1 G ahi aik sg (nI D) un :: hcs G aik y) H → zD A (w8 G arc (ac 0) (ard 0) orc_thought orc_thoughtRounds orc_chain (ahi 0) orc_kept (awd 0) (apa 0) orc_rows brc :: w0 G ac bc :: w4 G ard (av 0) brd :: w6 G av (s6_reach bv t758.2) :: w10 G atf btf :: w11 G aab NR bab :: w7 G awd bwd :: w2 G apa bpa :: w1 G ahi aik sg (nI D) un :: hcs G aik y) → va_S A s.heap H locs → lv_has ls 18 [(1, .int x1), (2, .ref (arc 0)), (3, .ref (atf 0)), (6, .int x6), (7, .ref (aab 0)), (9, .int x9), (11, .int t758.1)] → W p l e room_1 s m args below meth c H locs cells slots Q (F0 m 793 ls [.int k0_793]) := by
        intro k0_793 H locs ls hE hP hD hS hl
        have hE := hE.trans (FL_law_6_793.eq_1 _ _ _ _ _ _ _ _ _ _ _ _)
        refine lv_iload hx hb dL_law_793 (lv_at hl 5 rfl) ?_
        have hB803 : ∀ (k1_803 : Int32) (H : Heap) (locs : List Loc) (ls : Array Slot), T = FL_law_6_803 (g0_beats bc) (g0_size bc) (g6_above bv) (g6_reach bv) (g10_x btf) x1 x6 x8 x9 t758.1 k0_793 k1_803 t758.2 → zP G (w8 G arc (ac 0) (ard 0) orc_thought orc_thoughtRounds orc_chain (ahi 0) orc_kept (awd 0) (apa 0) orc_rows brc :: w0 G ac bc :: w4 G ard (av 0) brd :: w6 G av (s6_reach bv t758.2) :: w10 G atf btf :: w11 G aab NR bab :: w7 G awd bwd :: w2 G apa bpa :: w1 G ahi aik sg (nI D) un :: hcs G aik y) H → zD A (w8 G arc (ac 0) (ard 0) orc_thought orc_thoughtRounds orc_chain (ahi 0) orc_kept (awd 0) (apa 0) orc_rows brc :: w0 G ac bc :: w4 G ard (av 0) brd :: w6 G av (s6_reach bv t758.2) :: w10 G atf btf :: w11 G aab NR bab :: w7 G awd bwd :: w2 G apa bpa :: w1 G ahi aik sg (nI D) un :: hcs G aik y) → va_S A s.heap H locs → lv_has ls 18 [(1, .int x1), (2, .ref (arc 0)), (3, .ref (atf 0)), (6, .int x6), (7, .ref (aab 0)), (11, .int t758.1)] → W p l e room_1 s m args below meth c H locs cells slots Q (F0 m 803 ls [.int k1_803, .int k0_793]) := by
          intro k1_803 H locs ls hE hP hD hS hl
          have hE := hE.trans (FL_law_6_803.eq_1 _ _ _ _ _ _ _ _ _ _ _ _ _)
          refine lv_icmp_eq (tgt := 808) hx hb dL_law_803 (by decide) (fun c803 => ?_) (fun c803 => ?_)
          · have hE := hE.trans (if_pos c803)
            refine lv_iload hx hb dL_law_808 (lv_at hl 5 rfl) ?_
            refine lv_if_ne (tgt := 826) hx hb dL_law_810 (by decide) (fun c810 => ?_) (fun c810 => ?_)
            · have hE := hE.trans (if_neg c810)
              subst hE
              exact hret826 _ _ _ hP hD hS (lv_sub hl [0, 1, 2, 4] rfl)
            · have hE := hE.trans (if_pos c810)
              refine lv_iload hx hb dL_law_813 (lv_at hl 3 rfl) ?_
              refine lv_aload_n hx hb dL_law_815 rfl (lv_at hl 2 rfl) ?_
              refine lv_iconst (v := 0) hx hb dL_law_816 (by decide) ?_
              refine zl10_x S hK hP 4 rfl (zin_k (n := 0) rfl (by decide) (by decide)) (f := (g10_x btf)) rfl dL_law_817 ?_
              refine lv_iconst (v := (-1)) hx hb dL_law_818 (by decide) ?_
              refine lv_ixor hx hb dL_law_819 ?_
              refine lv_iand hx hb dL_law_820 ?_
              refine lv_if_eq (tgt := 826) hx hb dL_law_821 (by decide) (fun c821 => ?_) (fun c821 => ?_)
              · have hE := hE.trans (if_pos c821)
                subst hE
                exact hret826 _ _ _ hP hD hS (lv_sub hl [0, 1, 2, 4] rfl)
              · have hE := hE.trans (if_neg c821)
                exact absurd (show (1 : Int32) = 0 from hT1.symm.trans (congrArg Prod.fst hE)) (by decide)
          · have hE := hE.trans (if_neg c803)
            exact absurd (show (1 : Int32) = 0 from hT1.symm.trans (congrArg Prod.fst hE)) (by decide)
        refine lv_if_ne (tgt := 802) hx hb dL_law_795 (by decide) (fun c795 => ?_) (fun c795 => ?_)
        · have hE := hE.trans (if_neg c795)
          refine lv_iconst (v := 0) hx hb dL_law_802 (by decide) ?_
          exact hB803 0 _ _ _ hE hP hD hS (lv_sub hl [0, 1, 2, 3, 4, 6] rfl)
        · have hE := hE.trans (if_pos c795)
          refine lv_iconst (v := 1) hx hb dL_law_798 (by decide) ?_
          refine lv_goto (tgt := 803) hx hb dL_law_799 (by decide) ?_
          exact hB803 1 _ _ _ hE hP hD hS (lv_sub hl [0, 1, 2, 3, 4, 6] rfl)
      refine lv_if_ne (tgt := 792) hx hb dL_law_785 (by decide) (fun c785 => ?_) (fun c785 => ?_)
      · have hE := hE.trans (if_neg c785)
        refine lv_iconst (v := 0) hx hb dL_law_792 (by decide) ?_
        exact hB793 0 _ _ _ hE hP hD hS (lv_sub hl [1, 2, 3, 4, 5, 7, 0] rfl)
      · have hE := hE.trans (if_pos c785)
        refine lv_iconst (v := 1) hx hb dL_law_788 (by decide) ?_
        refine lv_goto (tgt := 793) hx hb dL_law_789 (by decide) ?_
        exact hB793 1 _ _ _ hE hP hD hS (lv_sub hl [1, 2, 3, 4, 5, 7, 0] rfl)

set_option maxHeartbeats 40000000 in
set_option maxRecDepth 100000 in
theorem seg_L_law_7 {p : Program} {l : Launch} {e : Env} {s : State} {m : MethodId} {args : Array Value} {below : List Frame} {meth : Method} {c : Code} {A : Nat → Prop} {cells slots : Nat} {Q : State → Prop} (G : zG) (arc : Nat → Nat) (ac : Nat → Nat) (ard : Nat → Nat) (av : Nat → Nat) (atf : Nat → Nat) (aab : Nat → Nat) (awd : Nat → Nat) (apa : Nat → Nat) (ahi : Nat → Nat) (aik : Nat → Nat → Nat) (orc_thought : Nat) (orc_thoughtRounds : Nat) (orc_chain : Nat) (orc_kept : Nat) (orc_rows : Nat) (brc : S8) (bc : S0) (brd : S4) (bv : S6) (btf : S10) (bab : S11) (bwd : S7) (bpa : S2) (sg : Nat → Nat) (y : Nat → S0) (D : Nat) (un : Int32) (NR : Nat) (x1 : Int32) (hx1 : x1 = nI NR) (hNR : NR ≤ 10) (hh_c_head : ∀ r : Nat, r < 16 → vp_in (g0_head bc r) 20) (hz_c_size : ∃ N : Nat, N ≤ 16 ∧ g0_size bc = nI N) (hu_rc_isSettled : ¬ g8_isSettled brc = 0)  (T : Int32) (hT : FL_law_7 (g0_kind bc) (g0_head bc) (g0_body bc) (g0_excepts bc) (g0_power bc) (g0_beats bc) (g0_size bc) (g0_shut bc) (g6_applies bv) (g6_falls bv) (g10_x btf) x1 = T) (hT1 : T = 1) (S : CallFix p m c cL_law 18 s args wsL_law RL) (hK : zK G s) (hA : ∀ q, s.heap.size ≤ q → A q) (hcl : cells ≤ room_1.cells) (hsl : slots ≤ room_1.slots) {H : Heap} {locs : List Loc} {ls : Array Slot} (hP : zP G (w8 G arc (ac 0) (ard 0) orc_thought orc_thoughtRounds orc_chain (ahi 0) orc_kept (awd 0) (apa 0) orc_rows brc :: w0 G ac bc :: w4 G ard (av 0) brd :: w6 G av bv :: w10 G atf btf :: w11 G aab NR bab :: w7 G awd bwd :: w2 G apa bpa :: w1 G ahi aik sg (nI D) un :: hcs G aik y) H) (hD : zD A (w8 G arc (ac 0) (ard 0) orc_thought orc_thoughtRounds orc_chain (ahi 0) orc_kept (awd 0) (apa 0) orc_rows brc :: w0 G ac bc :: w4 G ard (av 0) brd :: w6 G av bv :: w10 G atf btf :: w11 G aab NR bab :: w7 G awd bwd :: w2 G apa bpa :: w1 G ahi aik sg (nI D) un :: hcs G aik y)) (hS : va_S A s.heap H locs) (hl : lv_has ls 18 [(1, .int x1), (2, .ref (arc 0)), (3, .ref (atf 0)), (7, .ref (aab 0))]) (hret883 : ∀ (H : Heap) (locs : List Loc) (ls : Array Slot), zP G (w8 G arc (ac 0) (ard 0) orc_thought orc_thoughtRounds orc_chain (ahi 0) orc_kept (awd 0) (apa 0) orc_rows brc :: w0 G ac bc :: w4 G ard (av 0) brd :: w6 G av bv :: w10 G atf btf :: w11 G aab NR bab :: w7 G awd bwd :: w2 G apa bpa :: w1 G ahi aik sg (nI D) un :: hcs G aik y) H → zD A (w8 G arc (ac 0) (ard 0) orc_thought orc_thoughtRounds orc_chain (ahi 0) orc_kept (awd 0) (apa 0) orc_rows brc :: w0 G ac bc :: w4 G ard (av 0) brd :: w6 G av bv :: w10 G atf btf :: w11 G aab NR bab :: w7 G awd bwd :: w2 G apa bpa :: w1 G ahi aik sg (nI D) un :: hcs G aik y) → va_S A s.heap H locs → lv_has ls 18 [(1, .int x1), (2, .ref (arc 0)), (3, .ref (atf 0)), (7, .ref (aab 0))] → W p l e room_1 s m args below meth c H locs cells slots Q (F0 m 883 ls [])) : W p l e room_1 s m args below meth c H locs cells slots Q (F0 m 826 ls []) := by
  have hx := S.1
  have hb := S.2.1
  have hE := hT.symm.trans (FL_law_7.eq_1 _ _ _ _ _ _ _ _ _ _ _ _)
  refine lv_iconst (v := 0) hx hb dL_law_826 (by decide) ?_
  have hB883 : ∀ (H : Heap) (locs : List Loc) (ls : Array Slot), T = FL_law_7_883 (g0_kind bc) (g0_head bc) (g0_body bc) (g0_excepts bc) (g0_power bc) (g0_beats bc) (g0_size bc) (g0_shut bc) (g6_applies bv) (g6_falls bv) (g10_x btf) x1  → zP G (w8 G arc (ac 0) (ard 0) orc_thought orc_thoughtRounds orc_chain (ahi 0) orc_kept (awd 0) (apa 0) orc_rows brc :: w0 G ac bc :: w4 G ard (av 0) brd :: w6 G av bv :: w10 G atf btf :: w11 G aab NR bab :: w7 G awd bwd :: w2 G apa bpa :: w1 G ahi aik sg (nI D) un :: hcs G aik y) H → zD A (w8 G arc (ac 0) (ard 0) orc_thought orc_thoughtRounds orc_chain (ahi 0) orc_kept (awd 0) (apa 0) orc_rows brc :: w0 G ac bc :: w4 G ard (av 0) brd :: w6 G av bv :: w10 G atf btf :: w11 G aab NR bab :: w7 G awd bwd :: w2 G apa bpa :: w1 G ahi aik sg (nI D) un :: hcs G aik y) → va_S A s.heap H locs → lv_has ls 18 [(1, .int x1), (2, .ref (arc 0)), (3, .ref (atf 0)), (7, .ref (aab 0))] → W p l e room_1 s m args below meth c H locs cells slots Q (F0 m 883 ls []) := by
    intro H locs ls hE hP hD hS hl
    have hE := hE.trans (FL_law_7_883.eq_1 _ _ _ _ _ _ _ _ _ _ _ _)
    exact hret883 _ _ _ hP hD hS (lv_sub hl [0, 1, 2, 3] rfl)
  have hB829 : ∀ (n829 : Nat) (i12_829 : Nat) (H : Heap) (locs : List Loc) (ls : Array Slot), (i12_829 ≤ NR) → 17 ≤ i12_829 + n829 → T = FL_law_7_829 (g0_kind bc) (g0_head bc) (g0_body bc) (g0_excepts bc) (g0_power bc) (g0_beats bc) (g0_size bc) (g0_shut bc) (g6_applies bv) (g6_falls bv) (g10_x btf) x1 (FL_law_7_883 (g0_kind bc) (g0_head bc) (g0_body bc) (g0_excepts bc) (g0_power bc) (g0_beats bc) (g0_size bc) (g0_shut bc) (g6_applies bv) (g6_falls bv) (g10_x btf) x1) n829 (nI i12_829) → zP G (w8 G arc (ac 0) (ard 0) orc_thought orc_thoughtRounds orc_chain (ahi 0) orc_kept (awd 0) (apa 0) orc_rows brc :: w0 G ac bc :: w4 G ard (av 0) brd :: w6 G av bv :: w10 G atf btf :: w11 G aab NR bab :: w7 G awd bwd :: w2 G apa bpa :: w1 G ahi aik sg (nI D) un :: hcs G aik y) H → zD A (w8 G arc (ac 0) (ard 0) orc_thought orc_thoughtRounds orc_chain (ahi 0) orc_kept (awd 0) (apa 0) orc_rows brc :: w0 G ac bc :: w4 G ard (av 0) brd :: w6 G av bv :: w10 G atf btf :: w11 G aab NR bab :: w7 G awd bwd :: w2 G apa bpa :: w1 G ahi aik sg (nI D) un :: hcs G aik y) → va_S A s.heap H locs → lv_has ls 18 [(1, .int x1), (2, .ref (arc 0)), (3, .ref (atf 0)), (7, .ref (aab 0)), (12, .int (nI i12_829))] → W p l e room_1 s m args below meth c H locs cells slots Q (F0 m 829 ls []) := by
    intro n829
    induction n829 with
    | zero =>
      intro i12_829 H locs ls hi12_829 hn hE hP hD hS hl
      exact absurd hn (by omega)
    | succ n829 ih829 =>
      intro i12_829 H locs ls hi12_829 hn hE hP hD hS hl
      have hE := hE.trans (FL_law_7_829.eq_2 _ _ _ _ _ _ _ _ _ _ _ _ _ _ _)
      refine lv_iload hx hb dL_law_829 (lv_at hl 4 rfl) ?_
      refine lv_iload_n hx hb dL_law_831 rfl (lv_at hl 0 rfl) ?_
      refine lv_icmp_ge (tgt := 883) hx hb dL_law_832 (by decide) (fun c832 => ?_) (fun c832 => ?_)
      · have hE := hE.trans (if_pos c832)
        exact hB883 _ _ _ hE hP hD hS (lv_sub hl [0, 1, 2, 3] rfl)
      · have hE := hE.trans (if_neg c832)
        have hl12_829 : i12_829 < NR := zlt (N := NR) hx1 (by omega) (by omega) c832
        refine lv_aload_n hx hb dL_law_835 rfl (lv_at hl 1 rfl) ?_
        refine lv_iload hx hb dL_law_836 (lv_at hl 4 rfl) ?_
        obtain ⟨t838, ht838⟩ : ∃ z, FX8_state_s (g0_size bc) (g6_applies bv) (g6_falls bv) (nI i12_829) = z := ⟨_, rfl⟩
        have hE := hE.trans (bnd_eq ht838)
        have hc := c_X8_state_s l G arc ac ard av orc_thought orc_thoughtRounds orc_chain (ahi 0) orc_kept (awd 0) (apa 0) orc_rows brc bc brd bv (nI i12_829) (hh_c_head) (hz_c_size) (hu_rc_isSettled) _ ht838
        refine zgoI (bs' := (w8 G arc (ac 0) (ard 0) orc_thought orc_thoughtRounds orc_chain (ahi 0) orc_kept (awd 0) (apa 0) orc_rows brc :: w0 G ac bc :: w4 G ard (av 0) brd :: w6 G av bv :: w10 G atf btf :: w11 G aab NR bab :: w7 G awd bwd :: w2 G apa bpa :: w1 G ahi aik sg (nI D) un :: hcs G aik y)) hc [0, 1, 2, 3] rfl rfl rfl hP hD hS hA (va_runV (As := [.int (nI i12_829)]) (rest := []) S (hc.2 _) (cwV 1 S.2.2.2.2 gL_law_X8_state rfl rfl rfl (by decide +kernel) ⟨Nat.le_of_ble_eq_true rfl, Nat.le_of_ble_eq_true rfl⟩) (zpV hK hP hD (is := [0, 1, 2, 3]) rfl rfl 0 rfl rfl (ci := 8) rfl) rfl rfl hl.1 rfl (lv_room (Nat.le_of_ble_eq_true rfl)) dL_law_838 ⟨hcl, hsl⟩) (fun H locs hn838 hP hD hS => ?_)
        refine lv_aload_n hx hb dL_law_841 rfl (lv_at hl 1 rfl) ?_
        refine lv_iload hx hb dL_law_842 (lv_at hl 4 rfl) ?_
        refine lv_aload_n hx hb dL_law_844 rfl (lv_at hl 2 rfl) ?_
        obtain ⟨t845, ht845⟩ : ∃ z, FL_applies (g0_kind bc) (g0_head bc) (g0_body bc) (g0_excepts bc) (g0_power bc) (g0_beats bc) (g0_size bc) (g0_shut bc) (g10_x btf) (nI i12_829) = z := ⟨_, rfl⟩
        have hE := hE.trans (bnd_eq ht845)
        have hc := c_L_applies l G arc ac atf (ard 0) orc_thought orc_thoughtRounds orc_chain (ahi 0) orc_kept (awd 0) (apa 0) orc_rows brc bc btf (nI i12_829) (hz_c_size) _ ht845
        refine zgoR (va_runS (As := [.ref (arc 0), .int (nI i12_829), .ref (atf 0)]) (rest := [.int t838]) S (hc _) (va_cwS 3 S.2.2.2.2 gL_law_L_applies rfl rfl rfl (by decide +kernel) ⟨Nat.le_of_ble_eq_true rfl, Nat.le_of_ble_eq_true rfl⟩) (zpS hK hP hD (is := [0, 1, 4]) rfl rfl) rfl rfl hl.1 rfl (lv_room (Nat.le_of_ble_eq_true rfl)) dL_law_845 ⟨hcl, hsl⟩) (fun hn845 => ?_)
        have hB856 : ∀ (k1_856 : Int32) (H : Heap) (locs : List Loc) (ls : Array Slot), T = FL_law_7_856 (g0_kind bc) (g0_head bc) (g0_body bc) (g0_excepts bc) (g0_power bc) (g0_beats bc) (g0_size bc) (g0_shut bc) (g6_applies bv) (g6_falls bv) (g10_x btf) x1 (fun x12_829' => FL_law_7_829 (g0_kind bc) (g0_head bc) (g0_body bc) (g0_excepts bc) (g0_power bc) (g0_beats bc) (g0_size bc) (g0_shut bc) (g6_applies bv) (g6_falls bv) (g10_x btf) x1 (FL_law_7_883 (g0_kind bc) (g0_head bc) (g0_body bc) (g0_excepts bc) (g0_power bc) (g0_beats bc) (g0_size bc) (g0_shut bc) (g6_applies bv) (g6_falls bv) (g10_x btf) x1) n829 x12_829') (FL_law_7_883 (g0_kind bc) (g0_head bc) (g0_body bc) (g0_excepts bc) (g0_power bc) (g0_beats bc) (g0_size bc) (g0_shut bc) (g6_applies bv) (g6_falls bv) (g10_x btf) x1) (nI i12_829) t838 k1_856 → zP G (w8 G arc (ac 0) (ard 0) orc_thought orc_thoughtRounds orc_chain (ahi 0) orc_kept (awd 0) (apa 0) orc_rows brc :: w0 G ac bc :: w4 G ard (av 0) brd :: w6 G av bv :: w10 G atf btf :: w11 G aab NR bab :: w7 G awd bwd :: w2 G apa bpa :: w1 G ahi aik sg (nI D) un :: hcs G aik y) H → zD A (w8 G arc (ac 0) (ard 0) orc_thought orc_thoughtRounds orc_chain (ahi 0) orc_kept (awd 0) (apa 0) orc_rows brc :: w0 G ac bc :: w4 G ard (av 0) brd :: w6 G av bv :: w10 G atf btf :: w11 G aab NR bab :: w7 G awd bwd :: w2 G apa bpa :: w1 G ahi aik sg (nI D) un :: hcs G aik y) → va_S A s.heap H locs → lv_has ls 18 [(1, .int x1), (2, .ref (arc 0)), (3, .ref (atf 0)), (7, .ref (aab 0)), (12, .int (nI i12_829))] → W p l e room_1 s m args below meth c H locs cells slots Q (F0 m 856 ls [.int k1_856, .int t838]) := by
          intro k1_856 H locs ls hE hP hD hS hl
          have hE := hE.trans (FL_law_7_856.eq_1 _ _ _ _ _ _ _ _ _ _ _ _ _ _ _ _ _)
          refine lv_aload_n hx hb dL_law_856 rfl (lv_at hl 1 rfl) ?_
          refine lv_iload hx hb dL_law_857 (lv_at hl 4 rfl) ?_
          refine lv_aload_n hx hb dL_law_859 rfl (lv_at hl 2 rfl) ?_
          obtain ⟨t860, ht860⟩ : ∃ z, FL_falls (g0_kind bc) (g0_head bc) (g0_body bc) (g0_excepts bc) (g0_power bc) (g0_beats bc) (g0_size bc) (g0_shut bc) (g10_x btf) (nI i12_829) = z := ⟨_, rfl⟩
          have hE := hE.trans (bnd_eq ht860)
          have hc := c_L_falls l G arc ac atf (ard 0) orc_thought orc_thoughtRounds orc_chain (ahi 0) orc_kept (awd 0) (apa 0) orc_rows brc bc btf (nI i12_829) (hz_c_size) _ ht860
          refine zgoR (va_runS (As := [.ref (arc 0), .int (nI i12_829), .ref (atf 0)]) (rest := [.int k1_856, .int t838]) S (hc _) (va_cwS 3 S.2.2.2.2 gL_law_L_falls rfl rfl rfl (by decide +kernel) ⟨Nat.le_of_ble_eq_true rfl, Nat.le_of_ble_eq_true rfl⟩) (zpS hK hP hD (is := [0, 1, 4]) rfl rfl) rfl rfl hl.1 rfl (lv_room (Nat.le_of_ble_eq_true rfl)) dL_law_860 ⟨hcl, hsl⟩) (fun hn860 => ?_)
          have hB871 : ∀ (k2_871 : Int32) (H : Heap) (locs : List Loc) (ls : Array Slot), T = FL_law_7_871 (g0_kind bc) (g0_head bc) (g0_body bc) (g0_excepts bc) (g0_power bc) (g0_beats bc) (g0_size bc) (g0_shut bc) (g6_applies bv) (g6_falls bv) (g10_x btf) x1 (fun x12_829' => FL_law_7_829 (g0_kind bc) (g0_head bc) (g0_body bc) (g0_excepts bc) (g0_power bc) (g0_beats bc) (g0_size bc) (g0_shut bc) (g6_applies bv) (g6_falls bv) (g10_x btf) x1 (FL_law_7_883 (g0_kind bc) (g0_head bc) (g0_body bc) (g0_excepts bc) (g0_power bc) (g0_beats bc) (g0_size bc) (g0_shut bc) (g6_applies bv) (g6_falls bv) (g10_x btf) x1) n829 x12_829') (FL_law_7_883 (g0_kind bc) (g0_head bc) (g0_body bc) (g0_excepts bc) (g0_power bc) (g0_beats bc) (g0_size bc) (g0_shut bc) (g6_applies bv) (g6_falls bv) (g10_x btf) x1) (nI i12_829) t838 k1_856 k2_871 → zP G (w8 G arc (ac 0) (ard 0) orc_thought orc_thoughtRounds orc_chain (ahi 0) orc_kept (awd 0) (apa 0) orc_rows brc :: w0 G ac bc :: w4 G ard (av 0) brd :: w6 G av bv :: w10 G atf btf :: w11 G aab NR bab :: w7 G awd bwd :: w2 G apa bpa :: w1 G ahi aik sg (nI D) un :: hcs G aik y) H → zD A (w8 G arc (ac 0) (ard 0) orc_thought orc_thoughtRounds orc_chain (ahi 0) orc_kept (awd 0) (apa 0) orc_rows brc :: w0 G ac bc :: w4 G ard (av 0) brd :: w6 G av bv :: w10 G atf btf :: w11 G aab NR bab :: w7 G awd bwd :: w2 G apa bpa :: w1 G ahi aik sg (nI D) un :: hcs G aik y) → va_S A s.heap H locs → lv_has ls 18 [(1, .int x1), (2, .ref (arc 0)), (3, .ref (atf 0)), (7, .ref (aab 0)), (12, .int (nI i12_829))] → W p l e room_1 s m args below meth c H locs cells slots Q (F0 m 871 ls [.int k2_871, .int k1_856, .int t838]) := by
            intro k2_871 H locs ls hE hP hD hS hl
            have hE := hE.trans (FL_law_7_871.eq_1 _ _ _ _ _ _ _ _ _ _ _ _ _ _ _ _ _ _)
            refine lv_iadd hx hb dL_law_871 ?_
            refine lv_icmp_eq (tgt := 877) hx hb dL_law_872 (by decide) (fun c872 => ?_) (fun c872 => ?_)
            · have hE := hE.trans (if_pos c872)
              refine lv_iinc (v := (nI (i12_829 + 1))) (lv' := [(12, .int (nI (i12_829 + 1))), (1, .int x1), (2, .ref (arc 0)), (3, .ref (atf 0)), (7, .ref (aab 0))]) hx hb dL_law_877 hl (k := 4) rfl (nI_1 i12_829) (by decide) rfl (fun ls hl => ?_)
              try rw [nI_1 i12_829] at hE
              refine lv_goto (tgt := 829) hx hb dL_law_880 (by decide) ?_
              exact ih829 (i12_829 + 1) _ _ _ (by first | assumption | omega) (by omega) hE hP hD hS (lv_sub hl [1, 2, 3, 4, 0] rfl)
            · have hE := hE.trans (if_neg c872)
              exact absurd (show (1 : Int32) = 0 from hT1.symm.trans hE) (by decide)
          refine lv_if_eq (tgt := 870) hx hb dL_law_863 (by decide) (fun c863 => ?_) (fun c863 => ?_)
          · have hE := hE.trans (if_pos c863)
            refine lv_iconst (v := 0) hx hb dL_law_870 (by decide) ?_
            exact hB871 0 _ _ _ hE hP hD hS (lv_sub hl [0, 1, 2, 3, 4] rfl)
          · have hE := hE.trans (if_neg c863)
            refine lv_iconst (v := 2) hx hb dL_law_866 (by decide) ?_
            refine lv_goto (tgt := 871) hx hb dL_law_867 (by decide) ?_
            exact hB871 2 _ _ _ hE hP hD hS (lv_sub hl [0, 1, 2, 3, 4] rfl)
        refine lv_if_eq (tgt := 855) hx hb dL_law_848 (by decide) (fun c848 => ?_) (fun c848 => ?_)
        · have hE := hE.trans (if_pos c848)
          refine lv_iconst (v := 0) hx hb dL_law_855 (by decide) ?_
          exact hB856 0 _ _ _ hE hP hD hS (lv_sub hl [0, 1, 2, 3, 4] rfl)
        · have hE := hE.trans (if_neg c848)
          refine lv_iconst (v := 1) hx hb dL_law_851 (by decide) ?_
          refine lv_goto (tgt := 856) hx hb dL_law_852 (by decide) ?_
          exact hB856 1 _ _ _ hE hP hD hS (lv_sub hl [0, 1, 2, 3, 4] rfl)
  refine lv_istore (lv' := [(12, .int 0), (1, .int x1), (2, .ref (arc 0)), (3, .ref (atf 0)), (7, .ref (aab 0))]) hx hb dL_law_827 hl (by decide) rfl (fun ls hl => ?_)
  exact hB829 17 0 _ _ _ (by first | assumption | omega) (by omega) hE hP hD hS (lv_sub hl [1, 2, 3, 4, 0] rfl)
