set_option maxHeartbeats 40000000 in
set_option maxRecDepth 100000 in
theorem seg_L_law_1 {p : Program} {l : Launch} {e : Env} {s : State} {m : MethodId} {args : Array Value} {below : List Frame} {meth : Method} {c : Code} {A : Nat → Prop} {cells slots : Nat} {Q : State → Prop} (G : zG) (arc : Nat → Nat) (ac : Nat → Nat) (ard : Nat → Nat) (av : Nat → Nat) (atf : Nat → Nat) (anx : Nat → Nat) (awd : Nat → Nat) (apa : Nat → Nat) (ahi : Nat → Nat) (aik : Nat → Nat → Nat) (orc_thought : Nat) (orc_thoughtRounds : Nat) (orc_chain : Nat) (orc_kept : Nat) (orc_rows : Nat) (brc : S8) (bc : S0) (brd : S4) (bv : S6) (btf : S10) (bnx : S10) (bwd : S7) (bpa : S2) (sg : Nat → Nat) (y : Nat → S0) (D : Nat) (un : Int32) (x1 : Int32) (x4 : Int32) (x5 : Int32) (hh_c_head : ∀ r : Nat, r < 16 → vp_in (g0_head bc r) 20) (hz_c_size : ∃ N : Nat, N ≤ 16 ∧ g0_size bc = nI N) (hu_rc_isSettled : ¬ g8_isSettled brc = 0)  (T : Int32 × (Nat → Int32)) (hT : FL_law_1 (g0_kind bc) (g0_head bc) (g0_body bc) (g0_excepts bc) (g0_power bc) (g0_beats bc) (g0_facts bc) (g0_size bc) (g0_shut bc) (g4_came brd) (g6_known bv) (g6_allFor bv) (g10_x btf) (g10_x bnx) x1 x4 x5 = T) (hT1 : T.1 = 1) (S : CallFix p m c cL_law 18 s args wsL_law RL) (hK : zK G s) (hA : ∀ q, s.heap.size ≤ q → A q) (hcl : cells ≤ room_1.cells) (hsl : slots ≤ room_1.slots) {H : Heap} {locs : List Loc} {ls : Array Slot} (hP : zP G (w8 G arc (ac 0) (ard 0) orc_thought orc_thoughtRounds orc_chain (ahi 0) orc_kept (awd 0) (apa 0) orc_rows brc :: w0 G ac bc :: w4 G ard (av 0) brd :: w6 G av bv :: w10 G atf btf :: w10 G anx bnx :: w7 G awd bwd :: w2 G apa bpa :: w1 G ahi aik sg (nI D) un :: hcs G aik y) H) (hD : zD A (w8 G arc (ac 0) (ard 0) orc_thought orc_thoughtRounds orc_chain (ahi 0) orc_kept (awd 0) (apa 0) orc_rows brc :: w0 G ac bc :: w4 G ard (av 0) brd :: w6 G av bv :: w10 G atf btf :: w10 G anx bnx :: w7 G awd bwd :: w2 G apa bpa :: w1 G ahi aik sg (nI D) un :: hcs G aik y)) (hS : va_S A s.heap H locs) (hl : lv_has ls 18 [(1, .int x1), (2, .ref (arc 0)), (3, .ref (atf 0)), (4, .int x4), (5, .int x5), (6, .ref (anx 0))]) (hret247 : ∀ (H : Heap) (locs : List Loc) (ls : Array Slot), zP G (w8 G arc (ac 0) (ard 0) orc_thought orc_thoughtRounds orc_chain (ahi 0) orc_kept (awd 0) (apa 0) orc_rows brc :: w0 G ac bc :: w4 G ard (av 0) brd :: w6 G av bv :: w10 G atf btf :: w10 G anx (s10_x bnx T.2) :: w7 G awd bwd :: w2 G apa bpa :: w1 G ahi aik sg (nI D) un :: hcs G aik y) H → zD A (w8 G arc (ac 0) (ard 0) orc_thought orc_thoughtRounds orc_chain (ahi 0) orc_kept (awd 0) (apa 0) orc_rows brc :: w0 G ac bc :: w4 G ard (av 0) brd :: w6 G av bv :: w10 G atf btf :: w10 G anx (s10_x bnx T.2) :: w7 G awd bwd :: w2 G apa bpa :: w1 G ahi aik sg (nI D) un :: hcs G aik y) → va_S A s.heap H locs → lv_has ls 18 [(1, .int x1), (2, .ref (arc 0)), (4, .int x4), (5, .int x5), (6, .ref (anx 0))] → W p l e room_1 s m args below meth c H locs cells slots Q (F0 m 247 ls [])) : W p l e room_1 s m args below meth c H locs cells slots Q (F0 m 57 ls []) := by
  have hx := S.1
  have hb := S.2.1
  have hE := hT.symm.trans (FL_law_1.eq_1 _ _ _ _ _ _ _ _ _ _ _ _ _ _ _ _ _)
  refine lv_iconst (v := 0) hx hb dL_law_57 (by decide) ?_
  refine lv_istore (lv' := [(7, .int 0), (1, .int x1), (2, .ref (arc 0)), (3, .ref (atf 0)), (4, .int x4), (5, .int x5), (6, .ref (anx 0))]) hx hb dL_law_58 hl (by decide) rfl (fun ls hl => ?_)
  refine lv_iconst (v := 0) hx hb dL_law_60 (by decide) ?_
  have hB225 : ∀ (x7_225 : Int32) (nx_x_225 : Nat → Int32) (H : Heap) (locs : List Loc) (ls : Array Slot), T = FL_law_1_225 (g0_kind bc) (g0_head bc) (g0_body bc) (g0_excepts bc) (g0_power bc) (g0_beats bc) (g0_facts bc) (g0_size bc) (g0_shut bc) (g4_came brd) (g6_known bv) (g6_allFor bv) (g10_x btf) (g10_x bnx) x1 x4 x5 x7_225 nx_x_225 → zP G (w8 G arc (ac 0) (ard 0) orc_thought orc_thoughtRounds orc_chain (ahi 0) orc_kept (awd 0) (apa 0) orc_rows brc :: w0 G ac bc :: w4 G ard (av 0) brd :: w6 G av bv :: w10 G atf btf :: w10 G anx (s10_x bnx nx_x_225) :: w7 G awd bwd :: w2 G apa bpa :: w1 G ahi aik sg (nI D) un :: hcs G aik y) H → zD A (w8 G arc (ac 0) (ard 0) orc_thought orc_thoughtRounds orc_chain (ahi 0) orc_kept (awd 0) (apa 0) orc_rows brc :: w0 G ac bc :: w4 G ard (av 0) brd :: w6 G av bv :: w10 G atf btf :: w10 G anx (s10_x bnx nx_x_225) :: w7 G awd bwd :: w2 G apa bpa :: w1 G ahi aik sg (nI D) un :: hcs G aik y) → va_S A s.heap H locs → lv_has ls 18 [(1, .int x1), (2, .ref (arc 0)), (4, .int x4), (5, .int x5), (6, .ref (anx 0)), (7, .int x7_225)] → W p l e room_1 s m args below meth c H locs cells slots Q (F0 m 225 ls []) := by
    intro x7_225 nx_x_225 H locs ls hE hP hD hS hl
    have hE := hE.trans (FL_law_1_225.eq_1 _ _ _ _ _ _ _ _ _ _ _ _ _ _ _ _ _ _ _)
    refine lv_iload hx hb dL_law_225 (lv_at hl 3 rfl) ?_
    refine lv_iload hx hb dL_law_227 (lv_at hl 2 rfl) ?_
    refine lv_icmp_gt (tgt := 240) hx hb dL_law_229 (by decide) (fun c229 => ?_) (fun c229 => ?_)
    · have hE := hE.trans (if_pos c229)
      refine lv_iload hx hb dL_law_240 (lv_at hl 5 rfl) ?_
      refine lv_if_le (tgt := 247) hx hb dL_law_242 (by decide) (fun c242 => ?_) (fun c242 => ?_)
      · have hE := hE.trans (if_pos c242)
        subst hE
        exact hret247 _ _ _ hP hD hS (lv_sub hl [0, 1, 2, 3, 4] rfl)
      · have hE := hE.trans (if_neg c242)
        exact absurd (show (1 : Int32) = 0 from hT1.symm.trans (congrArg Prod.fst hE)) (by decide)
    · have hE := hE.trans (if_neg c229)
      refine lv_iload hx hb dL_law_232 (lv_at hl 5 rfl) ?_
      refine lv_if_ne (tgt := 247) hx hb dL_law_234 (by decide) (fun c234 => ?_) (fun c234 => ?_)
      · have hE := hE.trans (if_neg c234)
        subst hE
        exact hret247 _ _ _ hP hD hS (lv_sub hl [0, 1, 2, 3, 4] rfl)
      · have hE := hE.trans (if_pos c234)
        refine lv_goto (tgt := 245) hx hb dL_law_237 (by decide) ?_
        exact absurd (show (1 : Int32) = 0 from hT1.symm.trans (congrArg Prod.fst hE)) (by decide)
  have hB63 : ∀ (n63 : Nat) (x7_63 : Int32) (i8_63 : Nat) (nx_x_63 : Nat → Int32) (H : Heap) (locs : List Loc) (ls : Array Slot), (i8_63 ≤ 4) → 5 ≤ i8_63 + n63 → T = FL_law_1_63 (g0_kind bc) (g0_head bc) (g0_body bc) (g0_excepts bc) (g0_power bc) (g0_beats bc) (g0_facts bc) (g0_size bc) (g0_shut bc) (g4_came brd) (g6_known bv) (g6_allFor bv) (g10_x btf) (g10_x bnx) x1 x4 x5 (FL_law_1_225 (g0_kind bc) (g0_head bc) (g0_body bc) (g0_excepts bc) (g0_power bc) (g0_beats bc) (g0_facts bc) (g0_size bc) (g0_shut bc) (g4_came brd) (g6_known bv) (g6_allFor bv) (g10_x btf) (g10_x bnx) x1 x4 x5) n63 x7_63 (nI i8_63) nx_x_63 → zP G (w8 G arc (ac 0) (ard 0) orc_thought orc_thoughtRounds orc_chain (ahi 0) orc_kept (awd 0) (apa 0) orc_rows brc :: w0 G ac bc :: w4 G ard (av 0) brd :: w6 G av bv :: w10 G atf btf :: w10 G anx (s10_x bnx nx_x_63) :: w7 G awd bwd :: w2 G apa bpa :: w1 G ahi aik sg (nI D) un :: hcs G aik y) H → zD A (w8 G arc (ac 0) (ard 0) orc_thought orc_thoughtRounds orc_chain (ahi 0) orc_kept (awd 0) (apa 0) orc_rows brc :: w0 G ac bc :: w4 G ard (av 0) brd :: w6 G av bv :: w10 G atf btf :: w10 G anx (s10_x bnx nx_x_63) :: w7 G awd bwd :: w2 G apa bpa :: w1 G ahi aik sg (nI D) un :: hcs G aik y) → va_S A s.heap H locs → lv_has ls 18 [(1, .int x1), (2, .ref (arc 0)), (3, .ref (atf 0)), (4, .int x4), (5, .int x5), (6, .ref (anx 0)), (7, .int x7_63), (8, .int (nI i8_63))] → W p l e room_1 s m args below meth c H locs cells slots Q (F0 m 63 ls []) := by
    intro n63
    induction n63 with
    | zero =>
      intro x7_63 i8_63 nx_x_63 H locs ls hi8_63 hn hE hP hD hS hl
      exact absurd hn (by omega)
    | succ n63 ih63 =>
      intro x7_63 i8_63 nx_x_63 H locs ls hi8_63 hn hE hP hD hS hl
      have hE := hE.trans (FL_law_1_63.eq_2 _ _ _ _ _ _ _ _ _ _ _ _ _ _ _ _ _ _ _ _ _ _)
      refine lv_iload hx hb dL_law_63 (lv_at hl 7 rfl) ?_
      refine lv_iconst (v := 4) hx hb dL_law_65 (by decide) ?_
      refine lv_icmp_ge (tgt := 225) hx hb dL_law_66 (by decide) (fun c66 => ?_) (fun c66 => ?_)
      · have hE := hE.trans (if_pos c66)
        exact hB225 x7_63 nx_x_63 _ _ _ hE hP hD hS (lv_sub hl [0, 1, 3, 4, 5, 6] rfl)
      · have hE := hE.trans (if_neg c66)
        have hl8_63 : i8_63 < 4 := zlt (N := 4) rfl (by omega) (by omega) c66
        refine lv_iconst (v := 0) hx hb dL_law_69 (by decide) ?_
        have hB194 : ∀ (x7_194 : Int32) (nx_x_194 : Nat → Int32) (H : Heap) (locs : List Loc) (ls : Array Slot), T = FL_law_1_194 (g0_kind bc) (g0_head bc) (g0_body bc) (g0_excepts bc) (g0_power bc) (g0_beats bc) (g0_facts bc) (g0_size bc) (g0_shut bc) (g4_came brd) (g6_known bv) (g6_allFor bv) (g10_x btf) (g10_x bnx) x1 x4 x5 (fun x7_63' x8_63' nx_x_63' => FL_law_1_63 (g0_kind bc) (g0_head bc) (g0_body bc) (g0_excepts bc) (g0_power bc) (g0_beats bc) (g0_facts bc) (g0_size bc) (g0_shut bc) (g4_came brd) (g6_known bv) (g6_allFor bv) (g10_x btf) (g10_x bnx) x1 x4 x5 (FL_law_1_225 (g0_kind bc) (g0_head bc) (g0_body bc) (g0_excepts bc) (g0_power bc) (g0_beats bc) (g0_facts bc) (g0_size bc) (g0_shut bc) (g4_came brd) (g6_known bv) (g6_allFor bv) (g10_x btf) (g10_x bnx) x1 x4 x5) n63 x7_63' x8_63' nx_x_63') (FL_law_1_225 (g0_kind bc) (g0_head bc) (g0_body bc) (g0_excepts bc) (g0_power bc) (g0_beats bc) (g0_facts bc) (g0_size bc) (g0_shut bc) (g4_came brd) (g6_known bv) (g6_allFor bv) (g10_x btf) (g10_x bnx) x1 x4 x5) x7_194 (nI i8_63) nx_x_194 → zP G (w8 G arc (ac 0) (ard 0) orc_thought orc_thoughtRounds orc_chain (ahi 0) orc_kept (awd 0) (apa 0) orc_rows brc :: w0 G ac bc :: w4 G ard (av 0) brd :: w6 G av bv :: w10 G atf btf :: w10 G anx (s10_x bnx nx_x_194) :: w7 G awd bwd :: w2 G apa bpa :: w1 G ahi aik sg (nI D) un :: hcs G aik y) H → zD A (w8 G arc (ac 0) (ard 0) orc_thought orc_thoughtRounds orc_chain (ahi 0) orc_kept (awd 0) (apa 0) orc_rows brc :: w0 G ac bc :: w4 G ard (av 0) brd :: w6 G av bv :: w10 G atf btf :: w10 G anx (s10_x bnx nx_x_194) :: w7 G awd bwd :: w2 G apa bpa :: w1 G ahi aik sg (nI D) un :: hcs G aik y) → va_S A s.heap H locs → lv_has ls 18 [(1, .int x1), (2, .ref (arc 0)), (3, .ref (atf 0)), (4, .int x4), (5, .int x5), (6, .ref (anx 0)), (7, .int x7_194), (8, .int (nI i8_63))] → W p l e room_1 s m args below meth c H locs cells slots Q (F0 m 194 ls []) := by
          intro x7_194 nx_x_194 H locs ls hE hP hD hS hl
          have hE := hE.trans (FL_law_1_194.eq_1 _ _ _ _ _ _ _ _ _ _ _ _ _ _ _ _ _ _ _ _ _ _)
          refine lv_aload_n hx hb dL_law_194 rfl (lv_at hl 1 rfl) ?_
          refine lv_iload hx hb dL_law_195 (lv_at hl 7 rfl) ?_
          refine lv_iload hx hb dL_law_197 (lv_at hl 4 rfl) ?_
          obtain ⟨t199, ht199⟩ : ∃ z, FX8_tagged_s (g4_came brd) (g6_known bv) (nI i8_63) x5 = z := ⟨_, rfl⟩
          have hE := hE.trans (bnd_eq ht199)
          have hc := c_X8_tagged_s l G arc ac ard av orc_thought orc_thoughtRounds orc_chain (ahi 0) orc_kept (awd 0) (apa 0) orc_rows brc bc brd bv (nI i8_63) x5 (hh_c_head) (hz_c_size) (hu_rc_isSettled) _ ht199
          refine zgoI (bs' := (w8 G arc (ac 0) (ard 0) orc_thought orc_thoughtRounds orc_chain (ahi 0) orc_kept (awd 0) (apa 0) orc_rows brc :: w0 G ac bc :: w4 G ard (av 0) brd :: w6 G av bv :: w10 G atf btf :: w10 G anx (s10_x bnx nx_x_194) :: w7 G awd bwd :: w2 G apa bpa :: w1 G ahi aik sg (nI D) un :: hcs G aik y)) hc [0, 1, 2, 3] rfl rfl rfl hP hD hS hA (va_runV (As := [.int (nI i8_63), .int x5]) (rest := []) S (hc.2 _) (cwV 2 S.2.2.2.2 gL_law_X8_tagged rfl rfl rfl (by decide +kernel) ⟨Nat.le_of_ble_eq_true rfl, Nat.le_of_ble_eq_true rfl⟩) (zpV hK hP hD (is := [0, 1, 2, 3]) rfl rfl 0 rfl rfl (ci := 8) rfl) rfl rfl hl.1 rfl (lv_room (Nat.le_of_ble_eq_true rfl)) dL_law_199 ⟨hcl, hsl⟩) (fun H locs hn199 hP hD hS => ?_)
          refine lv_aload hx hb dL_law_202 (lv_at hl 5 rfl) ?_
          refine lv_iload hx hb dL_law_204 (lv_at hl 7 rfl) ?_
          refine zl10_x S hK hP 5 rfl (vp_in_nI (by omega) (by omega)) (f := nx_x_194) (gg10_x _ nx_x_194) dL_law_206 ?_
          refine lv_aload_n hx hb dL_law_207 rfl (lv_at hl 2 rfl) ?_
          refine lv_iload hx hb dL_law_208 (lv_at hl 7 rfl) ?_
          refine zl10_x S hK hP 4 rfl (vp_in_nI (by omega) (by omega)) (f := (g10_x btf)) rfl dL_law_210 ?_
          refine lv_iconst (v := (-1)) hx hb dL_law_211 (by decide) ?_
          refine lv_ixor hx hb dL_law_212 ?_
          refine lv_iand hx hb dL_law_213 ?_
          refine lv_icmp_eq (tgt := 219) hx hb dL_law_214 (by decide) (fun c214 => ?_) (fun c214 => ?_)
          · have hE := hE.trans (if_pos c214)
            refine lv_iinc (v := (nI (i8_63 + 1))) (lv' := [(8, .int (nI (i8_63 + 1))), (1, .int x1), (2, .ref (arc 0)), (3, .ref (atf 0)), (4, .int x4), (5, .int x5), (6, .ref (anx 0)), (7, .int x7_194)]) hx hb dL_law_219 hl (k := 7) rfl (nI_1 i8_63) (by decide) rfl (fun ls hl => ?_)
            try rw [nI_1 i8_63] at hE
            refine lv_goto (tgt := 63) hx hb dL_law_222 (by decide) ?_
            exact ih63 x7_194 (i8_63 + 1) nx_x_194 _ _ _ (by first | assumption | omega) (by omega) hE hP hD hS (lv_sub hl [1, 2, 3, 4, 5, 6, 7, 0] rfl)
          · have hE := hE.trans (if_neg c214)
            exact absurd (show (1 : Int32) = 0 from hT1.symm.trans (congrArg Prod.fst hE)) (by decide)
        have hB72 : ∀ (n72 : Nat) (x7_72 : Int32) (i9_72 : Nat) (nx_x_72 : Nat → Int32) (H : Heap) (locs : List Loc) (ls : Array Slot), (i9_72 ≤ 20) → 21 ≤ i9_72 + n72 → T = FL_law_1_72 (g0_kind bc) (g0_head bc) (g0_body bc) (g0_excepts bc) (g0_power bc) (g0_beats bc) (g0_facts bc) (g0_size bc) (g0_shut bc) (g4_came brd) (g6_known bv) (g6_allFor bv) (g10_x btf) (g10_x bnx) x1 x4 x5 (fun x7_63' x8_63' nx_x_63' => FL_law_1_63 (g0_kind bc) (g0_head bc) (g0_body bc) (g0_excepts bc) (g0_power bc) (g0_beats bc) (g0_facts bc) (g0_size bc) (g0_shut bc) (g4_came brd) (g6_known bv) (g6_allFor bv) (g10_x btf) (g10_x bnx) x1 x4 x5 (FL_law_1_225 (g0_kind bc) (g0_head bc) (g0_body bc) (g0_excepts bc) (g0_power bc) (g0_beats bc) (g0_facts bc) (g0_size bc) (g0_shut bc) (g4_came brd) (g6_known bv) (g6_allFor bv) (g10_x btf) (g10_x bnx) x1 x4 x5) n63 x7_63' x8_63' nx_x_63') (FL_law_1_225 (g0_kind bc) (g0_head bc) (g0_body bc) (g0_excepts bc) (g0_power bc) (g0_beats bc) (g0_facts bc) (g0_size bc) (g0_shut bc) (g4_came brd) (g6_known bv) (g6_allFor bv) (g10_x btf) (g10_x bnx) x1 x4 x5) (FL_law_1_194 (g0_kind bc) (g0_head bc) (g0_body bc) (g0_excepts bc) (g0_power bc) (g0_beats bc) (g0_facts bc) (g0_size bc) (g0_shut bc) (g4_came brd) (g6_known bv) (g6_allFor bv) (g10_x btf) (g10_x bnx) x1 x4 x5 (fun x7_63' x8_63' nx_x_63' => FL_law_1_63 (g0_kind bc) (g0_head bc) (g0_body bc) (g0_excepts bc) (g0_power bc) (g0_beats bc) (g0_facts bc) (g0_size bc) (g0_shut bc) (g4_came brd) (g6_known bv) (g6_allFor bv) (g10_x btf) (g10_x bnx) x1 x4 x5 (FL_law_1_225 (g0_kind bc) (g0_head bc) (g0_body bc) (g0_excepts bc) (g0_power bc) (g0_beats bc) (g0_facts bc) (g0_size bc) (g0_shut bc) (g4_came brd) (g6_known bv) (g6_allFor bv) (g10_x btf) (g10_x bnx) x1 x4 x5) n63 x7_63' x8_63' nx_x_63') (FL_law_1_225 (g0_kind bc) (g0_head bc) (g0_body bc) (g0_excepts bc) (g0_power bc) (g0_beats bc) (g0_facts bc) (g0_size bc) (g0_shut bc) (g4_came brd) (g6_known bv) (g6_allFor bv) (g10_x btf) (g10_x bnx) x1 x4 x5)) n72 x7_72 (nI i8_63) (nI i9_72) nx_x_72 → zP G (w8 G arc (ac 0) (ard 0) orc_thought orc_thoughtRounds orc_chain (ahi 0) orc_kept (awd 0) (apa 0) orc_rows brc :: w0 G ac bc :: w4 G ard (av 0) brd :: w6 G av bv :: w10 G atf btf :: w10 G anx (s10_x bnx nx_x_72) :: w7 G awd bwd :: w2 G apa bpa :: w1 G ahi aik sg (nI D) un :: hcs G aik y) H → zD A (w8 G arc (ac 0) (ard 0) orc_thought orc_thoughtRounds orc_chain (ahi 0) orc_kept (awd 0) (apa 0) orc_rows brc :: w0 G ac bc :: w4 G ard (av 0) brd :: w6 G av bv :: w10 G atf btf :: w10 G anx (s10_x bnx nx_x_72) :: w7 G awd bwd :: w2 G apa bpa :: w1 G ahi aik sg (nI D) un :: hcs G aik y) → va_S A s.heap H locs → lv_has ls 18 [(1, .int x1), (2, .ref (arc 0)), (3, .ref (atf 0)), (4, .int x4), (5, .int x5), (6, .ref (anx 0)), (7, .int x7_72), (8, .int (nI i8_63)), (9, .int (nI i9_72))] → W p l e room_1 s m args below meth c H locs cells slots Q (F0 m 72 ls []) := by
          intro n72
          induction n72 with
          | zero =>
            intro x7_72 i9_72 nx_x_72 H locs ls hi9_72 hn hE hP hD hS hl
            exact absurd hn (by omega)
          | succ n72 ih72 =>
            intro x7_72 i9_72 nx_x_72 H locs ls hi9_72 hn hE hP hD hS hl
            have hE := hE.trans (FL_law_1_72.eq_2 _ _ _ _ _ _ _ _ _ _ _ _ _ _ _ _ _ _ _ _ _ _ _ _ _)
            refine lv_iload hx hb dL_law_72 (lv_at hl 8 rfl) ?_
            refine lv_bipush (v := 20) hx hb dL_law_74 (by decide) ?_
            refine lv_icmp_ge (tgt := 194) hx hb dL_law_76 (by decide) (fun c76 => ?_) (fun c76 => ?_)
            · have hE := hE.trans (if_pos c76)
              exact hB194 x7_72 nx_x_72 _ _ _ hE hP hD hS (lv_sub hl [0, 1, 2, 3, 4, 5, 6, 7] rfl)
            · have hE := hE.trans (if_neg c76)
              have hl9_72 : i9_72 < 20 := zlt (N := 20) rfl (by omega) (by omega) c76
              refine lv_aload_n hx hb dL_law_79 rfl (lv_at hl 2 rfl) ?_
              refine lv_iload hx hb dL_law_80 (lv_at hl 7 rfl) ?_
              refine zl10_x S hK hP 4 rfl (vp_in_nI (by omega) (by omega)) (f := (g10_x btf)) rfl dL_law_82 ?_
              refine lv_iload hx hb dL_law_83 (lv_at hl 8 rfl) ?_
              obtain ⟨t85, ht85⟩ : ∃ z, FL_has ((g10_x btf) (nI i8_63).toNatClampNeg) (nI i9_72) = z := ⟨_, rfl⟩
              have hE := hE.trans (bnd_eq ht85)
              have hc := c_L_has l G ((g10_x btf) (nI i8_63).toNatClampNeg) (nI i9_72) _ ht85
              refine zgoR (va_runS (As := [.int ((g10_x btf) (nI i8_63).toNatClampNeg), .int (nI i9_72)]) (rest := []) S (hc _) (va_cwS 2 S.2.2.2.2 gL_law_L_has rfl rfl rfl (by decide +kernel) ⟨Nat.le_of_ble_eq_true rfl, Nat.le_of_ble_eq_true rfl⟩) (zpS hK hP hD (is := []) rfl rfl) rfl rfl hl.1 rfl (lv_room (Nat.le_of_ble_eq_true rfl)) dL_law_85 ⟨hcl, hsl⟩) (fun hn85 => ?_)
              refine lv_if_eq (tgt := 94) hx hb dL_law_88 (by decide) (fun c88 => ?_) (fun c88 => ?_)
              · have hE := hE.trans (if_pos c88)
                refine lv_aload_n hx hb dL_law_94 rfl (lv_at hl 1 rfl) ?_
                refine lv_iload hx hb dL_law_95 (lv_at hl 7 rfl) ?_
                refine lv_iload hx hb dL_law_97 (lv_at hl 8 rfl) ?_
                refine lv_aload_n hx hb dL_law_99 rfl (lv_at hl 2 rfl) ?_
                obtain ⟨t100, ht100⟩ : ∃ z, FL_holds (g0_kind bc) (g0_head bc) (g0_body bc) (g0_excepts bc) (g0_power bc) (g0_beats bc) (g0_facts bc) (g0_size bc) (g0_shut bc) (g6_allFor bv) (g10_x btf) (nI i8_63) (nI i9_72) = z := ⟨_, rfl⟩
                have hE := hE.trans (bnd_eq ht100)
                have hc := c_L_holds l G arc ac ard av atf awd apa ahi aik orc_thought orc_thoughtRounds orc_chain orc_kept orc_rows brc bc brd bv btf bwd bpa sg y D un (nI i8_63) (nI i9_72) (hh_c_head) (hz_c_size) (hu_rc_isSettled) _ ht100
                refine zgoI (bs' := (w8 G arc (ac 0) (ard 0) orc_thought orc_thoughtRounds orc_chain (ahi 0) orc_kept (awd 0) (apa 0) orc_rows brc :: w0 G ac bc :: w4 G ard (av 0) brd :: w6 G av bv :: w10 G atf btf :: w10 G anx (s10_x bnx nx_x_72) :: w7 G awd bwd :: w2 G apa bpa :: w1 G ahi aik sg (nI D) un :: hcs G aik y)) hc [0, 1, 2, 3, 4, 6, 7, 8, 9, 10, 11, 12, 13, 14, 15, 16, 17, 18, 19, 20, 21] rfl rfl rfl hP hD hS hA (va_runS (As := [.ref (arc 0), .int (nI i8_63), .int (nI i9_72), .ref (atf 0)]) (rest := []) S (hc.2 _) (va_cwS 4 S.2.2.2.2 gL_law_L_holds rfl rfl rfl (by decide +kernel) ⟨Nat.le_of_ble_eq_true rfl, Nat.le_of_ble_eq_true rfl⟩) (zpS hK hP hD (is := [0, 1, 2, 3, 4, 6, 7, 8, 9, 10, 11, 12, 13, 14, 15, 16, 17, 18, 19, 20, 21]) rfl rfl) rfl rfl hl.1 rfl (lv_room (Nat.le_of_ble_eq_true rfl)) dL_law_100 ⟨hcl, hsl⟩) (fun H locs hn100 hP hD hS => ?_)
                refine lv_istore (lv' := [(10, .int t100), (1, .int x1), (2, .ref (arc 0)), (3, .ref (atf 0)), (4, .int x4), (5, .int x5), (6, .ref (anx 0)), (7, .int x7_72), (8, .int (nI i8_63)), (9, .int (nI i9_72))]) hx hb dL_law_103 hl (by decide) rfl (fun ls hl => ?_)
                refine lv_iload hx hb dL_law_105 (lv_at hl 0 rfl) ?_
                have hB152 : ∀ (H : Heap) (locs : List Loc) (ls : Array Slot), T = FL_law_1_152 (g0_kind bc) (g0_head bc) (g0_body bc) (g0_excepts bc) (g0_power bc) (g0_beats bc) (g0_facts bc) (g0_size bc) (g0_shut bc) (g4_came brd) (g6_known bv) (g6_allFor bv) (g10_x btf) (g10_x bnx) x1 x4 x5 (fun x7_63' x8_63' nx_x_63' => FL_law_1_63 (g0_kind bc) (g0_head bc) (g0_body bc) (g0_excepts bc) (g0_power bc) (g0_beats bc) (g0_facts bc) (g0_size bc) (g0_shut bc) (g4_came brd) (g6_known bv) (g6_allFor bv) (g10_x btf) (g10_x bnx) x1 x4 x5 (FL_law_1_225 (g0_kind bc) (g0_head bc) (g0_body bc) (g0_excepts bc) (g0_power bc) (g0_beats bc) (g0_facts bc) (g0_size bc) (g0_shut bc) (g4_came brd) (g6_known bv) (g6_allFor bv) (g10_x btf) (g10_x bnx) x1 x4 x5) n63 x7_63' x8_63' nx_x_63') (FL_law_1_225 (g0_kind bc) (g0_head bc) (g0_body bc) (g0_excepts bc) (g0_power bc) (g0_beats bc) (g0_facts bc) (g0_size bc) (g0_shut bc) (g4_came brd) (g6_known bv) (g6_allFor bv) (g10_x btf) (g10_x bnx) x1 x4 x5) (fun x7_72' x8_72' x9_72' nx_x_72' => FL_law_1_72 (g0_kind bc) (g0_head bc) (g0_body bc) (g0_excepts bc) (g0_power bc) (g0_beats bc) (g0_facts bc) (g0_size bc) (g0_shut bc) (g4_came brd) (g6_known bv) (g6_allFor bv) (g10_x btf) (g10_x bnx) x1 x4 x5 (fun x7_63' x8_63' nx_x_63' => FL_law_1_63 (g0_kind bc) (g0_head bc) (g0_body bc) (g0_excepts bc) (g0_power bc) (g0_beats bc) (g0_facts bc) (g0_size bc) (g0_shut bc) (g4_came brd) (g6_known bv) (g6_allFor bv) (g10_x btf) (g10_x bnx) x1 x4 x5 (FL_law_1_225 (g0_kind bc) (g0_head bc) (g0_body bc) (g0_excepts bc) (g0_power bc) (g0_beats bc) (g0_facts bc) (g0_size bc) (g0_shut bc) (g4_came brd) (g6_known bv) (g6_allFor bv) (g10_x btf) (g10_x bnx) x1 x4 x5) n63 x7_63' x8_63' nx_x_63') (FL_law_1_225 (g0_kind bc) (g0_head bc) (g0_body bc) (g0_excepts bc) (g0_power bc) (g0_beats bc) (g0_facts bc) (g0_size bc) (g0_shut bc) (g4_came brd) (g6_known bv) (g6_allFor bv) (g10_x btf) (g10_x bnx) x1 x4 x5) (FL_law_1_194 (g0_kind bc) (g0_head bc) (g0_body bc) (g0_excepts bc) (g0_power bc) (g0_beats bc) (g0_facts bc) (g0_size bc) (g0_shut bc) (g4_came brd) (g6_known bv) (g6_allFor bv) (g10_x btf) (g10_x bnx) x1 x4 x5 (fun x7_63' x8_63' nx_x_63' => FL_law_1_63 (g0_kind bc) (g0_head bc) (g0_body bc) (g0_excepts bc) (g0_power bc) (g0_beats bc) (g0_facts bc) (g0_size bc) (g0_shut bc) (g4_came brd) (g6_known bv) (g6_allFor bv) (g10_x btf) (g10_x bnx) x1 x4 x5 (FL_law_1_225 (g0_kind bc) (g0_head bc) (g0_body bc) (g0_excepts bc) (g0_power bc) (g0_beats bc) (g0_facts bc) (g0_size bc) (g0_shut bc) (g4_came brd) (g6_known bv) (g6_allFor bv) (g10_x btf) (g10_x bnx) x1 x4 x5) n63 x7_63' x8_63' nx_x_63') (FL_law_1_225 (g0_kind bc) (g0_head bc) (g0_body bc) (g0_excepts bc) (g0_power bc) (g0_beats bc) (g0_facts bc) (g0_size bc) (g0_shut bc) (g4_came brd) (g6_known bv) (g6_allFor bv) (g10_x btf) (g10_x bnx) x1 x4 x5)) n72 x7_72' x8_72' x9_72' nx_x_72') (FL_law_1_194 (g0_kind bc) (g0_head bc) (g0_body bc) (g0_excepts bc) (g0_power bc) (g0_beats bc) (g0_facts bc) (g0_size bc) (g0_shut bc) (g4_came brd) (g6_known bv) (g6_allFor bv) (g10_x btf) (g10_x bnx) x1 x4 x5 (fun x7_63' x8_63' nx_x_63' => FL_law_1_63 (g0_kind bc) (g0_head bc) (g0_body bc) (g0_excepts bc) (g0_power bc) (g0_beats bc) (g0_facts bc) (g0_size bc) (g0_shut bc) (g4_came brd) (g6_known bv) (g6_allFor bv) (g10_x btf) (g10_x bnx) x1 x4 x5 (FL_law_1_225 (g0_kind bc) (g0_head bc) (g0_body bc) (g0_excepts bc) (g0_power bc) (g0_beats bc) (g0_facts bc) (g0_size bc) (g0_shut bc) (g4_came brd) (g6_known bv) (g6_allFor bv) (g10_x btf) (g10_x bnx) x1 x4 x5) n63 x7_63' x8_63' nx_x_63') (FL_law_1_225 (g0_kind bc) (g0_head bc) (g0_body bc) (g0_excepts bc) (g0_power bc) (g0_beats bc) (g0_facts bc) (g0_size bc) (g0_shut bc) (g4_came brd) (g6_known bv) (g6_allFor bv) (g10_x btf) (g10_x bnx) x1 x4 x5)) x7_72 (nI i8_63) (nI i9_72) t100 nx_x_72 → zP G (w8 G arc (ac 0) (ard 0) orc_thought orc_thoughtRounds orc_chain (ahi 0) orc_kept (awd 0) (apa 0) orc_rows brc :: w0 G ac bc :: w4 G ard (av 0) brd :: w6 G av bv :: w10 G atf btf :: w10 G anx (s10_x bnx nx_x_72) :: w7 G awd bwd :: w2 G apa bpa :: w1 G ahi aik sg (nI D) un :: hcs G aik y) H → zD A (w8 G arc (ac 0) (ard 0) orc_thought orc_thoughtRounds orc_chain (ahi 0) orc_kept (awd 0) (apa 0) orc_rows brc :: w0 G ac bc :: w4 G ard (av 0) brd :: w6 G av bv :: w10 G atf btf :: w10 G anx (s10_x bnx nx_x_72) :: w7 G awd bwd :: w2 G apa bpa :: w1 G ahi aik sg (nI D) un :: hcs G aik y) → va_S A s.heap H locs → lv_has ls 18 [(1, .int x1), (2, .ref (arc 0)), (3, .ref (atf 0)), (4, .int x4), (5, .int x5), (6, .ref (anx 0)), (7, .int x7_72), (8, .int (nI i8_63)), (9, .int (nI i9_72)), (10, .int t100)] → W p l e room_1 s m args below meth c H locs cells slots Q (F0 m 152 ls []) := by
                  intro H locs ls hE hP hD hS hl
                  have hE := hE.trans (FL_law_1_152.eq_1 _ _ _ _ _ _ _ _ _ _ _ _ _ _ _ _ _ _ _ _ _ _ _ _ _ _)
                  refine lv_aload hx hb dL_law_152 (lv_at hl 5 rfl) ?_
                  refine lv_iload hx hb dL_law_154 (lv_at hl 7 rfl) ?_
                  refine lv_dup2_11 hx hb dL_law_156 rfl rfl ?_
                  refine zl10_x S hK hP 5 rfl (vp_in_nI (by omega) (by omega)) (f := nx_x_72) (gg10_x _ nx_x_72) dL_law_157 ?_
                  refine lv_iload hx hb dL_law_158 (lv_at hl 9 rfl) ?_
                  have hB171 : ∀ (k3_171 : Int32) (H : Heap) (locs : List Loc) (ls : Array Slot), T = FL_law_1_171 (g0_kind bc) (g0_head bc) (g0_body bc) (g0_excepts bc) (g0_power bc) (g0_beats bc) (g0_facts bc) (g0_size bc) (g0_shut bc) (g4_came brd) (g6_known bv) (g6_allFor bv) (g10_x btf) (g10_x bnx) x1 x4 x5 (fun x7_63' x8_63' nx_x_63' => FL_law_1_63 (g0_kind bc) (g0_head bc) (g0_body bc) (g0_excepts bc) (g0_power bc) (g0_beats bc) (g0_facts bc) (g0_size bc) (g0_shut bc) (g4_came brd) (g6_known bv) (g6_allFor bv) (g10_x btf) (g10_x bnx) x1 x4 x5 (FL_law_1_225 (g0_kind bc) (g0_head bc) (g0_body bc) (g0_excepts bc) (g0_power bc) (g0_beats bc) (g0_facts bc) (g0_size bc) (g0_shut bc) (g4_came brd) (g6_known bv) (g6_allFor bv) (g10_x btf) (g10_x bnx) x1 x4 x5) n63 x7_63' x8_63' nx_x_63') (FL_law_1_225 (g0_kind bc) (g0_head bc) (g0_body bc) (g0_excepts bc) (g0_power bc) (g0_beats bc) (g0_facts bc) (g0_size bc) (g0_shut bc) (g4_came brd) (g6_known bv) (g6_allFor bv) (g10_x btf) (g10_x bnx) x1 x4 x5) (fun x7_72' x8_72' x9_72' nx_x_72' => FL_law_1_72 (g0_kind bc) (g0_head bc) (g0_body bc) (g0_excepts bc) (g0_power bc) (g0_beats bc) (g0_facts bc) (g0_size bc) (g0_shut bc) (g4_came brd) (g6_known bv) (g6_allFor bv) (g10_x btf) (g10_x bnx) x1 x4 x5 (fun x7_63' x8_63' nx_x_63' => FL_law_1_63 (g0_kind bc) (g0_head bc) (g0_body bc) (g0_excepts bc) (g0_power bc) (g0_beats bc) (g0_facts bc) (g0_size bc) (g0_shut bc) (g4_came brd) (g6_known bv) (g6_allFor bv) (g10_x btf) (g10_x bnx) x1 x4 x5 (FL_law_1_225 (g0_kind bc) (g0_head bc) (g0_body bc) (g0_excepts bc) (g0_power bc) (g0_beats bc) (g0_facts bc) (g0_size bc) (g0_shut bc) (g4_came brd) (g6_known bv) (g6_allFor bv) (g10_x btf) (g10_x bnx) x1 x4 x5) n63 x7_63' x8_63' nx_x_63') (FL_law_1_225 (g0_kind bc) (g0_head bc) (g0_body bc) (g0_excepts bc) (g0_power bc) (g0_beats bc) (g0_facts bc) (g0_size bc) (g0_shut bc) (g4_came brd) (g6_known bv) (g6_allFor bv) (g10_x btf) (g10_x bnx) x1 x4 x5) (FL_law_1_194 (g0_kind bc) (g0_head bc) (g0_body bc) (g0_excepts bc) (g0_power bc) (g0_beats bc) (g0_facts bc) (g0_size bc) (g0_shut bc) (g4_came brd) (g6_known bv) (g6_allFor bv) (g10_x btf) (g10_x bnx) x1 x4 x5 (fun x7_63' x8_63' nx_x_63' => FL_law_1_63 (g0_kind bc) (g0_head bc) (g0_body bc) (g0_excepts bc) (g0_power bc) (g0_beats bc) (g0_facts bc) (g0_size bc) (g0_shut bc) (g4_came brd) (g6_known bv) (g6_allFor bv) (g10_x btf) (g10_x bnx) x1 x4 x5 (FL_law_1_225 (g0_kind bc) (g0_head bc) (g0_body bc) (g0_excepts bc) (g0_power bc) (g0_beats bc) (g0_facts bc) (g0_size bc) (g0_shut bc) (g4_came brd) (g6_known bv) (g6_allFor bv) (g10_x btf) (g10_x bnx) x1 x4 x5) n63 x7_63' x8_63' nx_x_63') (FL_law_1_225 (g0_kind bc) (g0_head bc) (g0_body bc) (g0_excepts bc) (g0_power bc) (g0_beats bc) (g0_facts bc) (g0_size bc) (g0_shut bc) (g4_came brd) (g6_known bv) (g6_allFor bv) (g10_x btf) (g10_x bnx) x1 x4 x5)) n72 x7_72' x8_72' x9_72' nx_x_72') (FL_law_1_194 (g0_kind bc) (g0_head bc) (g0_body bc) (g0_excepts bc) (g0_power bc) (g0_beats bc) (g0_facts bc) (g0_size bc) (g0_shut bc) (g4_came brd) (g6_known bv) (g6_allFor bv) (g10_x btf) (g10_x bnx) x1 x4 x5 (fun x7_63' x8_63' nx_x_63' => FL_law_1_63 (g0_kind bc) (g0_head bc) (g0_body bc) (g0_excepts bc) (g0_power bc) (g0_beats bc) (g0_facts bc) (g0_size bc) (g0_shut bc) (g4_came brd) (g6_known bv) (g6_allFor bv) (g10_x btf) (g10_x bnx) x1 x4 x5 (FL_law_1_225 (g0_kind bc) (g0_head bc) (g0_body bc) (g0_excepts bc) (g0_power bc) (g0_beats bc) (g0_facts bc) (g0_size bc) (g0_shut bc) (g4_came brd) (g6_known bv) (g6_allFor bv) (g10_x btf) (g10_x bnx) x1 x4 x5) n63 x7_63' x8_63' nx_x_63') (FL_law_1_225 (g0_kind bc) (g0_head bc) (g0_body bc) (g0_excepts bc) (g0_power bc) (g0_beats bc) (g0_facts bc) (g0_size bc) (g0_shut bc) (g4_came brd) (g6_known bv) (g6_allFor bv) (g10_x btf) (g10_x bnx) x1 x4 x5)) x7_72 (nI i8_63) (nI i9_72) t100 (nI i8_63) (nx_x_72 (nI i8_63).toNatClampNeg) k3_171 nx_x_72 → zP G (w8 G arc (ac 0) (ard 0) orc_thought orc_thoughtRounds orc_chain (ahi 0) orc_kept (awd 0) (apa 0) orc_rows brc :: w0 G ac bc :: w4 G ard (av 0) brd :: w6 G av bv :: w10 G atf btf :: w10 G anx (s10_x bnx nx_x_72) :: w7 G awd bwd :: w2 G apa bpa :: w1 G ahi aik sg (nI D) un :: hcs G aik y) H → zD A (w8 G arc (ac 0) (ard 0) orc_thought orc_thoughtRounds orc_chain (ahi 0) orc_kept (awd 0) (apa 0) orc_rows brc :: w0 G ac bc :: w4 G ard (av 0) brd :: w6 G av bv :: w10 G atf btf :: w10 G anx (s10_x bnx nx_x_72) :: w7 G awd bwd :: w2 G apa bpa :: w1 G ahi aik sg (nI D) un :: hcs G aik y) → va_S A s.heap H locs → lv_has ls 18 [(1, .int x1), (2, .ref (arc 0)), (3, .ref (atf 0)), (4, .int x4), (5, .int x5), (6, .ref (anx 0)), (7, .int x7_72), (8, .int (nI i8_63)), (9, .int (nI i9_72)), (10, .int t100)] → W p l e room_1 s m args below meth c H locs cells slots Q (F0 m 171 ls [.int k3_171, .int (nx_x_72 (nI i8_63).toNatClampNeg), .int (nI i8_63), .ref (anx 0)]) := by
                    intro k3_171 H locs ls hE hP hD hS hl
                    have hE := hE.trans (FL_law_1_171.eq_1 _ _ _ _ _ _ _ _ _ _ _ _ _ _ _ _ _ _ _ _ _ _ _ _ _ _ _ _ _)
                    refine lv_ior hx hb dL_law_171 ?_
                    refine zs10_x (bs1 := (w8 G arc (ac 0) (ard 0) orc_thought orc_thoughtRounds orc_chain (ahi 0) orc_kept (awd 0) (apa 0) orc_rows brc :: w0 G ac bc :: w4 G ard (av 0) brd :: w6 G av bv :: w10 G atf btf :: w10 G anx (s10_x (s10_x bnx nx_x_72) (upd nx_x_72 (nI i8_63).toNatClampNeg ((nx_x_72 (nI i8_63).toNatClampNeg) ||| k3_171))) :: w7 G awd bwd :: w2 G apa bpa :: w1 G ahi aik sg (nI D) un :: hcs G aik y)) S hK hP hD hS 5 rfl (vp_in_nI (by omega) (by omega)) (f := nx_x_72) (gg10_x _ nx_x_72) dL_law_172 rfl (fun H locs hP hD hS => ?_)
                    refine lv_iload hx hb dL_law_173 (lv_at hl 6 rfl) ?_
                    refine lv_iload hx hb dL_law_175 (lv_at hl 9 rfl) ?_
                    refine lv_if_eq (tgt := 184) hx hb dL_law_177 (by decide) (fun c177 => ?_) (fun c177 => ?_)
                    · have hE := hE.trans (if_pos c177)
                      refine lv_iconst (v := 0) hx hb dL_law_184 (by decide) ?_
                      refine lv_iadd hx hb dL_law_185 ?_
                      refine lv_istore (lv' := [(7, .int (x7_72 + 0)), (1, .int x1), (2, .ref (arc 0)), (3, .ref (atf 0)), (4, .int x4), (5, .int x5), (6, .ref (anx 0)), (8, .int (nI i8_63)), (9, .int (nI i9_72)), (10, .int t100)]) hx hb dL_law_186 hl (by decide) rfl (fun ls hl => ?_)
                      refine lv_iinc (v := (nI (i9_72 + 1))) (lv' := [(9, .int (nI (i9_72 + 1))), (7, .int (x7_72 + 0)), (1, .int x1), (2, .ref (arc 0)), (3, .ref (atf 0)), (4, .int x4), (5, .int x5), (6, .ref (anx 0)), (8, .int (nI i8_63)), (10, .int t100)]) hx hb dL_law_188 hl (k := 8) rfl (nI_1 i9_72) (by decide) rfl (fun ls hl => ?_)
                      try rw [nI_1 i9_72] at hE
                      refine lv_goto (tgt := 72) hx hb dL_law_191 (by decide) ?_
                      rw [show (s10_x (s10_x bnx nx_x_72) (upd nx_x_72 (nI i8_63).toNatClampNeg ((nx_x_72 (nI i8_63).toNatClampNeg) ||| k3_171))) = (s10_x bnx (upd nx_x_72 (nI i8_63).toNatClampNeg ((nx_x_72 (nI i8_63).toNatClampNeg) ||| k3_171))) from (ss10_x _ nx_x_72 (upd nx_x_72 (nI i8_63).toNatClampNeg ((nx_x_72 (nI i8_63).toNatClampNeg) ||| k3_171)))] at hP hD
                      exact ih72 (x7_72 + 0) (i9_72 + 1) (upd nx_x_72 (nI i8_63).toNatClampNeg ((nx_x_72 (nI i8_63).toNatClampNeg) ||| k3_171)) _ _ _ (by first | assumption | omega) (by omega) hE hP hD hS (lv_sub hl [2, 3, 4, 5, 6, 7, 1, 8, 0] rfl)
                    · have hE := hE.trans (if_neg c177)
                      refine lv_iconst (v := 1) hx hb dL_law_180 (by decide) ?_
                      refine lv_goto (tgt := 185) hx hb dL_law_181 (by decide) ?_
                      refine lv_iadd hx hb dL_law_185 ?_
                      refine lv_istore (lv' := [(7, .int (x7_72 + 1)), (1, .int x1), (2, .ref (arc 0)), (3, .ref (atf 0)), (4, .int x4), (5, .int x5), (6, .ref (anx 0)), (8, .int (nI i8_63)), (9, .int (nI i9_72)), (10, .int t100)]) hx hb dL_law_186 hl (by decide) rfl (fun ls hl => ?_)
                      refine lv_iinc (v := (nI (i9_72 + 1))) (lv' := [(9, .int (nI (i9_72 + 1))), (7, .int (x7_72 + 1)), (1, .int x1), (2, .ref (arc 0)), (3, .ref (atf 0)), (4, .int x4), (5, .int x5), (6, .ref (anx 0)), (8, .int (nI i8_63)), (10, .int t100)]) hx hb dL_law_188 hl (k := 8) rfl (nI_1 i9_72) (by decide) rfl (fun ls hl => ?_)
                      try rw [nI_1 i9_72] at hE
                      refine lv_goto (tgt := 72) hx hb dL_law_191 (by decide) ?_
                      rw [show (s10_x (s10_x bnx nx_x_72) (upd nx_x_72 (nI i8_63).toNatClampNeg ((nx_x_72 (nI i8_63).toNatClampNeg) ||| k3_171))) = (s10_x bnx (upd nx_x_72 (nI i8_63).toNatClampNeg ((nx_x_72 (nI i8_63).toNatClampNeg) ||| k3_171))) from (ss10_x _ nx_x_72 (upd nx_x_72 (nI i8_63).toNatClampNeg ((nx_x_72 (nI i8_63).toNatClampNeg) ||| k3_171)))] at hP hD
                      exact ih72 (x7_72 + 1) (i9_72 + 1) (upd nx_x_72 (nI i8_63).toNatClampNeg ((nx_x_72 (nI i8_63).toNatClampNeg) ||| k3_171)) _ _ _ (by first | assumption | omega) (by omega) hE hP hD hS (lv_sub hl [2, 3, 4, 5, 6, 7, 1, 8, 0] rfl)
                  refine lv_if_eq (tgt := 170) hx hb dL_law_160 (by decide) (fun c160 => ?_) (fun c160 => ?_)
                  · have hE := hE.trans (if_pos c160)
                    refine lv_iconst (v := 0) hx hb dL_law_170 (by decide) ?_
                    exact hB171 0 _ _ _ hE hP hD hS (lv_sub hl [0, 1, 2, 3, 4, 5, 6, 7, 8, 9] rfl)
                  · have hE := hE.trans (if_neg c160)
                    refine lv_iconst (v := 1) hx hb dL_law_163 (by decide) ?_
                    refine lv_iload hx hb dL_law_164 (lv_at hl 8 rfl) ?_
                    refine lv_ishl hx hb dL_law_166 ?_
                    refine lv_goto (tgt := 171) hx hb dL_law_167 (by decide) ?_
                    exact hB171 (1 <<< ((nI i9_72) &&& 31)) _ _ _ hE hP hD hS (lv_sub hl [0, 1, 2, 3, 4, 5, 6, 7, 8, 9] rfl)
                refine lv_if_eq (tgt := 126) hx hb dL_law_107 (by decide) (fun c107 => ?_) (fun c107 => ?_)
                · have hE := hE.trans (if_pos c107)
                  refine lv_aload_n hx hb dL_law_126 rfl (lv_at hl 2 rfl) ?_
                  refine lv_iload hx hb dL_law_127 (lv_at hl 9 rfl) ?_
                  refine lv_iload hx hb dL_law_129 (lv_at hl 8 rfl) ?_
                  obtain ⟨t131, ht131⟩ : ∃ z, FX8_tag_s (g4_came brd) (nI i9_72) (nI i8_63) = z := ⟨_, rfl⟩
                  have hE := hE.trans (bnd_eq ht131)
                  have hc := c_X8_tag_s l G arc ac ard av orc_thought orc_thoughtRounds orc_chain (ahi 0) orc_kept (awd 0) (apa 0) orc_rows brc bc brd bv (nI i9_72) (nI i8_63) (hh_c_head) (hz_c_size) (hu_rc_isSettled) _ ht131
                  refine zgoI (bs' := (w8 G arc (ac 0) (ard 0) orc_thought orc_thoughtRounds orc_chain (ahi 0) orc_kept (awd 0) (apa 0) orc_rows brc :: w0 G ac bc :: w4 G ard (av 0) brd :: w6 G av bv :: w10 G atf btf :: w10 G anx (s10_x bnx nx_x_72) :: w7 G awd bwd :: w2 G apa bpa :: w1 G ahi aik sg (nI D) un :: hcs G aik y)) hc [0, 1, 2, 3] rfl rfl rfl hP hD hS hA (va_runV (As := [.int (nI i9_72), .int (nI i8_63)]) (rest := []) S (hc.2 _) (cwV 2 S.2.2.2.2 gL_law_X8_tag rfl rfl rfl (by decide +kernel) ⟨Nat.le_of_ble_eq_true rfl, Nat.le_of_ble_eq_true rfl⟩) (zpV hK hP hD (is := [0, 1, 2, 3]) rfl rfl 0 rfl rfl (ci := 8) rfl) rfl rfl hl.1 rfl (lv_room (Nat.le_of_ble_eq_true rfl)) dL_law_131 ⟨hcl, hsl⟩) (fun H locs hn131 hP hD hS => ?_)
                  refine lv_if_le (tgt := 152) hx hb dL_law_134 (by decide) (fun c134 => ?_) (fun c134 => ?_)
                  · have hE := hE.trans (if_pos c134)
                    exact hB152 _ _ _ hE hP hD hS (lv_sub hl [1, 2, 3, 4, 5, 6, 7, 8, 9, 0] rfl)
                  · have hE := hE.trans (if_neg c134)
                    refine lv_aload_n hx hb dL_law_137 rfl (lv_at hl 2 rfl) ?_
                    refine lv_iload hx hb dL_law_138 (lv_at hl 9 rfl) ?_
                    refine lv_iload hx hb dL_law_140 (lv_at hl 8 rfl) ?_
                    obtain ⟨t142, ht142⟩ : ∃ z, FX8_tag_s (g4_came brd) (nI i9_72) (nI i8_63) = z := ⟨_, rfl⟩
                    have hE := hE.trans (bnd_eq ht142)
                    have hc := c_X8_tag_s l G arc ac ard av orc_thought orc_thoughtRounds orc_chain (ahi 0) orc_kept (awd 0) (apa 0) orc_rows brc bc brd bv (nI i9_72) (nI i8_63) (hh_c_head) (hz_c_size) (hu_rc_isSettled) _ ht142
                    refine zgoI (bs' := (w8 G arc (ac 0) (ard 0) orc_thought orc_thoughtRounds orc_chain (ahi 0) orc_kept (awd 0) (apa 0) orc_rows brc :: w0 G ac bc :: w4 G ard (av 0) brd :: w6 G av bv :: w10 G atf btf :: w10 G anx (s10_x bnx nx_x_72) :: w7 G awd bwd :: w2 G apa bpa :: w1 G ahi aik sg (nI D) un :: hcs G aik y)) hc [0, 1, 2, 3] rfl rfl rfl hP hD hS hA (va_runV (As := [.int (nI i9_72), .int (nI i8_63)]) (rest := []) S (hc.2 _) (cwV 2 S.2.2.2.2 gL_law_X8_tag rfl rfl rfl (by decide +kernel) ⟨Nat.le_of_ble_eq_true rfl, Nat.le_of_ble_eq_true rfl⟩) (zpV hK hP hD (is := [0, 1, 2, 3]) rfl rfl 0 rfl rfl (ci := 8) rfl) rfl rfl hl.1 rfl (lv_room (Nat.le_of_ble_eq_true rfl)) dL_law_142 ⟨hcl, hsl⟩) (fun H locs hn142 hP hD hS => ?_)
                    refine lv_iload hx hb dL_law_145 (lv_at hl 5 rfl) ?_
                    refine lv_icmp_gt (tgt := 152) hx hb dL_law_147 (by decide) (fun c147 => ?_) (fun c147 => ?_)
                    · have hE := hE.trans (if_pos c147)
                      exact hB152 _ _ _ hE hP hD hS (lv_sub hl [1, 2, 3, 4, 5, 6, 7, 8, 9, 0] rfl)
                    · have hE := hE.trans (if_neg c147)
                      exact absurd (show (1 : Int32) = 0 from hT1.symm.trans (congrArg Prod.fst hE)) (by decide)
                · have hE := hE.trans (if_neg c107)
                  refine lv_aload_n hx hb dL_law_110 rfl (lv_at hl 2 rfl) ?_
                  refine lv_iload hx hb dL_law_111 (lv_at hl 9 rfl) ?_
                  refine lv_iload hx hb dL_law_113 (lv_at hl 8 rfl) ?_
                  obtain ⟨t115, ht115⟩ : ∃ z, FX8_tag_s (g4_came brd) (nI i9_72) (nI i8_63) = z := ⟨_, rfl⟩
                  have hE := hE.trans (bnd_eq ht115)
                  have hc := c_X8_tag_s l G arc ac ard av orc_thought orc_thoughtRounds orc_chain (ahi 0) orc_kept (awd 0) (apa 0) orc_rows brc bc brd bv (nI i9_72) (nI i8_63) (hh_c_head) (hz_c_size) (hu_rc_isSettled) _ ht115
                  refine zgoI (bs' := (w8 G arc (ac 0) (ard 0) orc_thought orc_thoughtRounds orc_chain (ahi 0) orc_kept (awd 0) (apa 0) orc_rows brc :: w0 G ac bc :: w4 G ard (av 0) brd :: w6 G av bv :: w10 G atf btf :: w10 G anx (s10_x bnx nx_x_72) :: w7 G awd bwd :: w2 G apa bpa :: w1 G ahi aik sg (nI D) un :: hcs G aik y)) hc [0, 1, 2, 3] rfl rfl rfl hP hD hS hA (va_runV (As := [.int (nI i9_72), .int (nI i8_63)]) (rest := []) S (hc.2 _) (cwV 2 S.2.2.2.2 gL_law_X8_tag rfl rfl rfl (by decide +kernel) ⟨Nat.le_of_ble_eq_true rfl, Nat.le_of_ble_eq_true rfl⟩) (zpV hK hP hD (is := [0, 1, 2, 3]) rfl rfl 0 rfl rfl (ci := 8) rfl) rfl rfl hl.1 rfl (lv_room (Nat.le_of_ble_eq_true rfl)) dL_law_115 ⟨hcl, hsl⟩) (fun H locs hn115 hP hD hS => ?_)
                  refine lv_iload hx hb dL_law_118 (lv_at hl 5 rfl) ?_
                  refine lv_icmp_eq (tgt := 152) hx hb dL_law_120 (by decide) (fun c120 => ?_) (fun c120 => ?_)
                  · have hE := hE.trans (if_pos c120)
                    exact hB152 _ _ _ hE hP hD hS (lv_sub hl [1, 2, 3, 4, 5, 6, 7, 8, 9, 0] rfl)
                  · have hE := hE.trans (if_neg c120)
                    refine lv_goto (tgt := 150) hx hb dL_law_123 (by decide) ?_
                    exact absurd (show (1 : Int32) = 0 from hT1.symm.trans (congrArg Prod.fst hE)) (by decide)
              · have hE := hE.trans (if_neg c88)
                refine lv_goto (tgt := 188) hx hb dL_law_91 (by decide) ?_
                refine lv_iinc (v := (nI (i9_72 + 1))) (lv' := [(9, .int (nI (i9_72 + 1))), (1, .int x1), (2, .ref (arc 0)), (3, .ref (atf 0)), (4, .int x4), (5, .int x5), (6, .ref (anx 0)), (7, .int x7_72), (8, .int (nI i8_63))]) hx hb dL_law_188 hl (k := 8) rfl (nI_1 i9_72) (by decide) rfl (fun ls hl => ?_)
                try rw [nI_1 i9_72] at hE
                refine lv_goto (tgt := 72) hx hb dL_law_191 (by decide) ?_
                exact ih72 x7_72 (i9_72 + 1) nx_x_72 _ _ _ (by first | assumption | omega) (by omega) hE hP hD hS (lv_sub hl [1, 2, 3, 4, 5, 6, 7, 8, 0] rfl)
        refine lv_istore (lv' := [(9, .int 0), (1, .int x1), (2, .ref (arc 0)), (3, .ref (atf 0)), (4, .int x4), (5, .int x5), (6, .ref (anx 0)), (7, .int x7_63), (8, .int (nI i8_63))]) hx hb dL_law_70 hl (by decide) rfl (fun ls hl => ?_)
        exact hB72 21 x7_63 0 nx_x_63 _ _ _ (by first | assumption | omega) (by omega) hE hP hD hS (lv_sub hl [1, 2, 3, 4, 5, 6, 7, 8, 0] rfl)
  refine lv_istore (lv' := [(8, .int 0), (7, .int 0), (1, .int x1), (2, .ref (arc 0)), (3, .ref (atf 0)), (4, .int x4), (5, .int x5), (6, .ref (anx 0))]) hx hb dL_law_61 hl (by decide) rfl (fun ls hl => ?_)
  rw [show bnx = (s10_x bnx (g10_x bnx)) from ((se10_x _).symm)] at hP hD
  exact hB63 5 0 0 (g10_x bnx) _ _ _ (by first | assumption | omega) (by omega) hE hP hD hS (lv_sub hl [2, 3, 4, 5, 6, 7, 1, 0] rfl)

set_option maxHeartbeats 40000000 in
set_option maxRecDepth 100000 in
theorem seg_L_law_2 {p : Program} {l : Launch} {e : Env} {s : State} {m : MethodId} {args : Array Value} {below : List Frame} {meth : Method} {c : Code} {A : Nat → Prop} {cells slots : Nat} {Q : State → Prop} (G : zG) (arc : Nat → Nat) (ac : Nat → Nat) (ard : Nat → Nat) (av : Nat → Nat) (atf : Nat → Nat) (awd : Nat → Nat) (apa : Nat → Nat) (ahi : Nat → Nat) (aik : Nat → Nat → Nat) (orc_thought : Nat) (orc_thoughtRounds : Nat) (orc_chain : Nat) (orc_kept : Nat) (orc_rows : Nat) (brc : S8) (bc : S0) (brd : S4) (bv : S6) (btf : S10) (bwd : S7) (bpa : S2) (sg : Nat → Nat) (y : Nat → S0) (D : Nat) (un : Int32) (x1 : Int32) (hh_c_head : ∀ r : Nat, r < 16 → vp_in (g0_head bc r) 20) (hz_c_size : ∃ N : Nat, N ≤ 16 ∧ g0_size bc = nI N) (hu_rc_isSettled : ¬ g8_isSettled brc = 0)  (T : Int32 × Int32) (hT : FL_law_2 (g4_came brd) (g6_known bv) (g10_x btf) x1 = T) (hT1 : T.1 = 1) (S : CallFix p m c cL_law 18 s args wsL_law RL) (hK : zK G s) (hA : ∀ q, s.heap.size ≤ q → A q) (hcl : cells ≤ room_1.cells) (hsl : slots ≤ room_1.slots) {H : Heap} {locs : List Loc} {ls : Array Slot} (hP : zP G (w8 G arc (ac 0) (ard 0) orc_thought orc_thoughtRounds orc_chain (ahi 0) orc_kept (awd 0) (apa 0) orc_rows brc :: w0 G ac bc :: w4 G ard (av 0) brd :: w6 G av bv :: w10 G atf btf :: w7 G awd bwd :: w2 G apa bpa :: w1 G ahi aik sg (nI D) un :: hcs G aik y) H) (hD : zD A (w8 G arc (ac 0) (ard 0) orc_thought orc_thoughtRounds orc_chain (ahi 0) orc_kept (awd 0) (apa 0) orc_rows brc :: w0 G ac bc :: w4 G ard (av 0) brd :: w6 G av bv :: w10 G atf btf :: w7 G awd bwd :: w2 G apa bpa :: w1 G ahi aik sg (nI D) un :: hcs G aik y)) (hS : va_S A s.heap H locs) (hl : lv_has ls 18 [(1, .int x1), (2, .ref (arc 0)), (3, .ref (atf 0))]) (hret413 : ∀ (H : Heap) (locs : List Loc) (ls : Array Slot), zP G (w8 G arc (ac 0) (ard 0) orc_thought orc_thoughtRounds orc_chain (ahi 0) orc_kept (awd 0) (apa 0) orc_rows brc :: w0 G ac bc :: w4 G ard (av 0) brd :: w6 G av bv :: w10 G atf btf :: w7 G awd bwd :: w2 G apa bpa :: w1 G ahi aik sg (nI D) un :: hcs G aik y) H → zD A (w8 G arc (ac 0) (ard 0) orc_thought orc_thoughtRounds orc_chain (ahi 0) orc_kept (awd 0) (apa 0) orc_rows brc :: w0 G ac bc :: w4 G ard (av 0) brd :: w6 G av bv :: w10 G atf btf :: w7 G awd bwd :: w2 G apa bpa :: w1 G ahi aik sg (nI D) un :: hcs G aik y) → va_S A s.heap H locs → lv_has ls 18 [(1, .int x1), (2, .ref (arc 0)), (3, .ref (atf 0)), (6, .int T.2)] → W p l e room_1 s m args below meth c H locs cells slots Q (F0 m 413 ls [])) : W p l e room_1 s m args below meth c H locs cells slots Q (F0 m 256 ls []) := by
  have hx := S.1
  have hb := S.2.1
  have hE := hT.symm.trans (FL_law_2.eq_1 _ _ _ _)
  refine lv_iconst (v := 0) hx hb dL_law_256 (by decide) ?_
  refine lv_istore (lv' := [(5, .int 0), (1, .int x1), (2, .ref (arc 0)), (3, .ref (atf 0))]) hx hb dL_law_257 hl (by decide) rfl (fun ls hl => ?_)
  refine lv_iconst (v := 0) hx hb dL_law_259 (by decide) ?_
  have hB302 : ∀ (x5_302 : Int32) (H : Heap) (locs : List Loc) (ls : Array Slot), T = FL_law_2_302 (g4_came brd) (g6_known bv) (g10_x btf) x1 x5_302 → zP G (w8 G arc (ac 0) (ard 0) orc_thought orc_thoughtRounds orc_chain (ahi 0) orc_kept (awd 0) (apa 0) orc_rows brc :: w0 G ac bc :: w4 G ard (av 0) brd :: w6 G av bv :: w10 G atf btf :: w7 G awd bwd :: w2 G apa bpa :: w1 G ahi aik sg (nI D) un :: hcs G aik y) H → zD A (w8 G arc (ac 0) (ard 0) orc_thought orc_thoughtRounds orc_chain (ahi 0) orc_kept (awd 0) (apa 0) orc_rows brc :: w0 G ac bc :: w4 G ard (av 0) brd :: w6 G av bv :: w10 G atf btf :: w7 G awd bwd :: w2 G apa bpa :: w1 G ahi aik sg (nI D) un :: hcs G aik y) → va_S A s.heap H locs → lv_has ls 18 [(1, .int x1), (2, .ref (arc 0)), (3, .ref (atf 0)), (5, .int x5_302)] → W p l e room_1 s m args below meth c H locs cells slots Q (F0 m 302 ls []) := by
    intro x5_302 H locs ls hE hP hD hS hl
    have hE := hE.trans (FL_law_2_302.eq_1 _ _ _ _ _)
    refine lv_aload_n hx hb dL_law_302 rfl (lv_at hl 2 rfl) ?_
    refine lv_iconst (v := 2) hx hb dL_law_303 (by decide) ?_
    refine zl10_x S hK hP 4 rfl (zin_k (n := 2) rfl (by decide) (by decide)) (f := (g10_x btf)) rfl dL_law_304 ?_
    refine lv_aload_n hx hb dL_law_305 rfl (lv_at hl 2 rfl) ?_
    refine lv_iconst (v := 2) hx hb dL_law_306 (by decide) ?_
    refine zl10_x S hK hP 4 rfl (zin_k (n := 2) rfl (by decide) (by decide)) (f := (g10_x btf)) rfl dL_law_307 ?_
    refine lv_bipush (v := 10) hx hb dL_law_308 (by decide) ?_
    refine lv_ishr hx hb dL_law_310 ?_
    refine lv_aload_n hx hb dL_law_311 rfl (lv_at hl 2 rfl) ?_
    refine lv_iconst (v := 2) hx hb dL_law_312 (by decide) ?_
    refine zl10_x S hK hP 4 rfl (zin_k (n := 2) rfl (by decide) (by decide)) (f := (g10_x btf)) rfl dL_law_313 ?_
    refine lv_bipush (v := 10) hx hb dL_law_314 (by decide) ?_
    refine lv_ishl hx hb dL_law_316 ?_
    refine lv_ldc (v := 1048575) hx hb S.2.2.2.1 (S.2.2.2.2 _ (List.mem_of_getElem? (i := 7) rfl)) dL_law_317 ?_
    refine lv_iand hx hb dL_law_319 ?_
    refine lv_ior hx hb dL_law_320 ?_
    refine lv_iand hx hb dL_law_321 ?_
    refine lv_istore (lv' := [(6, .int (((g10_x btf) (2 : Int32).toNatClampNeg) &&& ((((g10_x btf) (2 : Int32).toNatClampNeg) >>> (10 &&& 31)) ||| ((((g10_x btf) (2 : Int32).toNatClampNeg) <<< (10 &&& 31)) &&& 1048575)))), (1, .int x1), (2, .ref (arc 0)), (3, .ref (atf 0)), (5, .int x5_302)]) hx hb dL_law_322 hl (by decide) rfl (fun ls hl => ?_)
    refine lv_aload_n hx hb dL_law_324 rfl (lv_at hl 2 rfl) ?_
    refine lv_bipush (v := 6) hx hb dL_law_325 (by decide) ?_
    obtain ⟨t327, ht327⟩ : ∃ z, FX8_count_6 (g6_known bv) 6 = z := ⟨_, rfl⟩
    have hE := hE.trans (bnd_eq ht327)
    have hc := c_X8_count_6 l G arc ac ard av awd apa ahi aik orc_thought orc_thoughtRounds orc_chain orc_kept orc_rows brc bc brd bv bwd bpa sg y D un 6 (hh_c_head) (hz_c_size) (hu_rc_isSettled) (rfl) _ ht327
    refine zgoI (bs' := (w8 G arc (ac 0) (ard 0) orc_thought orc_thoughtRounds orc_chain (ahi 0) orc_kept (awd 0) (apa 0) orc_rows brc :: w0 G ac bc :: w4 G ard (av 0) brd :: w6 G av bv :: w10 G atf btf :: w7 G awd bwd :: w2 G apa bpa :: w1 G ahi aik sg (nI D) un :: hcs G aik y)) hc [0, 1, 2, 3, 5, 6, 7, 8, 9, 10, 11, 12, 13, 14, 15, 16, 17, 18, 19, 20] rfl rfl rfl hP hD hS hA (va_runV (As := [.int 6]) (rest := []) S (hc.2 _) (cwV 1 S.2.2.2.2 gL_law_X8_count rfl rfl rfl (by decide +kernel) ⟨Nat.le_of_ble_eq_true rfl, Nat.le_of_ble_eq_true rfl⟩) (zpV hK hP hD (is := [0, 1, 2, 3, 5, 6, 7, 8, 9, 10, 11, 12, 13, 14, 15, 16, 17, 18, 19, 20]) rfl rfl 0 rfl rfl (ci := 8) rfl) rfl rfl hl.1 rfl (lv_room (Nat.le_of_ble_eq_true rfl)) dL_law_327 ⟨hcl, hsl⟩) (fun H locs hn327 hP hD hS => ?_)
    refine lv_iload hx hb dL_law_330 (lv_at hl 4 rfl) ?_
    refine lv_icmp_ne (tgt := 365) hx hb dL_law_332 (by decide) (fun c332 => ?_) (fun c332 => ?_)
    · have hE := hE.trans (if_neg c332)
      exact absurd (show (1 : Int32) = 0 from hT1.symm.trans (congrArg Prod.fst hE)) (by decide)
    · have hE := hE.trans (if_pos c332)
      refine lv_aload_n hx hb dL_law_335 rfl (lv_at hl 2 rfl) ?_
      refine lv_iconst (v := 3) hx hb dL_law_336 (by decide) ?_
      obtain ⟨t337, ht337⟩ : ∃ z, FX8_count_3 (g6_known bv) 3 = z := ⟨_, rfl⟩
      have hE := hE.trans (bnd_eq ht337)
      have hc := c_X8_count_3 l G arc ac ard av awd apa ahi aik orc_thought orc_thoughtRounds orc_chain orc_kept orc_rows brc bc brd bv bwd bpa sg y D un 3 (hh_c_head) (hz_c_size) (hu_rc_isSettled) (rfl) _ ht337
      refine zgoI (bs' := (w8 G arc (ac 0) (ard 0) orc_thought orc_thoughtRounds orc_chain (ahi 0) orc_kept (awd 0) (apa 0) orc_rows brc :: w0 G ac bc :: w4 G ard (av 0) brd :: w6 G av bv :: w10 G atf btf :: w7 G awd bwd :: w2 G apa bpa :: w1 G ahi aik sg (nI D) un :: hcs G aik y)) hc [0, 1, 2, 3, 5, 6, 7, 8, 9, 10, 11, 12, 13, 14, 15, 16, 17, 18, 19, 20] rfl rfl rfl hP hD hS hA (va_runV (As := [.int 3]) (rest := []) S (hc.2 _) (cwV 1 S.2.2.2.2 gL_law_X8_count rfl rfl rfl (by decide +kernel) ⟨Nat.le_of_ble_eq_true rfl, Nat.le_of_ble_eq_true rfl⟩) (zpV hK hP hD (is := [0, 1, 2, 3, 5, 6, 7, 8, 9, 10, 11, 12, 13, 14, 15, 16, 17, 18, 19, 20]) rfl rfl 0 rfl rfl (ci := 8) rfl) rfl rfl hl.1 rfl (lv_room (Nat.le_of_ble_eq_true rfl)) dL_law_337 ⟨hcl, hsl⟩) (fun H locs hn337 hP hD hS => ?_)
      refine lv_iload hx hb dL_law_340 (lv_at hl 0 rfl) ?_
      refine lv_icmp_ne (tgt := 365) hx hb dL_law_342 (by decide) (fun c342 => ?_) (fun c342 => ?_)
      · have hE := hE.trans (if_neg c342)
        exact absurd (show (1 : Int32) = 0 from hT1.symm.trans (congrArg Prod.fst hE)) (by decide)
      · have hE := hE.trans (if_pos c342)
        refine lv_aload_n hx hb dL_law_345 rfl (lv_at hl 2 rfl) ?_
        refine lv_iconst (v := 2) hx hb dL_law_346 (by decide) ?_
        obtain ⟨t347, ht347⟩ : ∃ z, FX8_count_2 (g6_known bv) 2 = z := ⟨_, rfl⟩
        have hE := hE.trans (bnd_eq ht347)
        have hc := c_X8_count_2 l G arc ac ard av awd apa ahi aik orc_thought orc_thoughtRounds orc_chain orc_kept orc_rows brc bc brd bv bwd bpa sg y D un 2 (hh_c_head) (hz_c_size) (hu_rc_isSettled) (rfl) _ ht347
        refine zgoI (bs' := (w8 G arc (ac 0) (ard 0) orc_thought orc_thoughtRounds orc_chain (ahi 0) orc_kept (awd 0) (apa 0) orc_rows brc :: w0 G ac bc :: w4 G ard (av 0) brd :: w6 G av bv :: w10 G atf btf :: w7 G awd bwd :: w2 G apa bpa :: w1 G ahi aik sg (nI D) un :: hcs G aik y)) hc [0, 1, 2, 3, 5, 6, 7, 8, 9, 10, 11, 12, 13, 14, 15, 16, 17, 18, 19, 20] rfl rfl rfl hP hD hS hA (va_runV (As := [.int 2]) (rest := []) S (hc.2 _) (cwV 1 S.2.2.2.2 gL_law_X8_count rfl rfl rfl (by decide +kernel) ⟨Nat.le_of_ble_eq_true rfl, Nat.le_of_ble_eq_true rfl⟩) (zpV hK hP hD (is := [0, 1, 2, 3, 5, 6, 7, 8, 9, 10, 11, 12, 13, 14, 15, 16, 17, 18, 19, 20]) rfl rfl 0 rfl rfl (ci := 8) rfl) rfl rfl hl.1 rfl (lv_room (Nat.le_of_ble_eq_true rfl)) dL_law_347 ⟨hcl, hsl⟩) (fun H locs hn347 hP hD hS => ?_)
        refine lv_ldc (v := 1048575) hx hb S.2.2.2.1 (S.2.2.2.2 _ (List.mem_of_getElem? (i := 7) rfl)) dL_law_350 ?_
        refine lv_aload_n hx hb dL_law_352 rfl (lv_at hl 3 rfl) ?_
        refine lv_iconst (v := 2) hx hb dL_law_353 (by decide) ?_
        refine zl10_x S hK hP 4 rfl (zin_k (n := 2) rfl (by decide) (by decide)) (f := (g10_x btf)) rfl dL_law_354 ?_
        refine lv_aload_n hx hb dL_law_355 rfl (lv_at hl 3 rfl) ?_
        refine lv_iconst (v := 3) hx hb dL_law_356 (by decide) ?_
        refine zl10_x S hK hP 4 rfl (zin_k (n := 3) rfl (by decide) (by decide)) (f := (g10_x btf)) rfl dL_law_357 ?_
        refine lv_ior hx hb dL_law_358 ?_
        refine lv_iconst (v := (-1)) hx hb dL_law_359 (by decide) ?_
        refine lv_ixor hx hb dL_law_360 ?_
        refine lv_iand hx hb dL_law_361 ?_
        refine lv_icmp_eq (tgt := 367) hx hb dL_law_362 (by decide) (fun c362 => ?_) (fun c362 => ?_)
        · have hE := hE.trans (if_pos c362)
          refine lv_aload_n hx hb dL_law_367 rfl (lv_at hl 3 rfl) ?_
          refine lv_iconst (v := 0) hx hb dL_law_368 (by decide) ?_
          refine zl10_x S hK hP 4 rfl (zin_k (n := 0) rfl (by decide) (by decide)) (f := (g10_x btf)) rfl dL_law_369 ?_
          refine lv_aload_n hx hb dL_law_370 rfl (lv_at hl 3 rfl) ?_
          refine lv_iconst (v := 1) hx hb dL_law_371 (by decide) ?_
          refine zl10_x S hK hP 4 rfl (zin_k (n := 1) rfl (by decide) (by decide)) (f := (g10_x btf)) rfl dL_law_372 ?_
          refine lv_iand hx hb dL_law_373 ?_
          refine lv_if_ne (tgt := 411) hx hb dL_law_374 (by decide) (fun c374 => ?_) (fun c374 => ?_)
          · have hE := hE.trans (if_neg c374)
            exact absurd (show (1 : Int32) = 0 from hT1.symm.trans (congrArg Prod.fst hE)) (by decide)
          · have hE := hE.trans (if_pos c374)
            refine lv_aload_n hx hb dL_law_377 rfl (lv_at hl 3 rfl) ?_
            refine lv_iconst (v := 2) hx hb dL_law_378 (by decide) ?_
            refine zl10_x S hK hP 4 rfl (zin_k (n := 2) rfl (by decide) (by decide)) (f := (g10_x btf)) rfl dL_law_379 ?_
            refine lv_aload_n hx hb dL_law_380 rfl (lv_at hl 3 rfl) ?_
            refine lv_iconst (v := 3) hx hb dL_law_381 (by decide) ?_
            refine zl10_x S hK hP 4 rfl (zin_k (n := 3) rfl (by decide) (by decide)) (f := (g10_x btf)) rfl dL_law_382 ?_
            refine lv_iand hx hb dL_law_383 ?_
            refine lv_if_ne (tgt := 411) hx hb dL_law_384 (by decide) (fun c384 => ?_) (fun c384 => ?_)
            · have hE := hE.trans (if_neg c384)
              exact absurd (show (1 : Int32) = 0 from hT1.symm.trans (congrArg Prod.fst hE)) (by decide)
            · have hE := hE.trans (if_pos c384)
              refine lv_aload_n hx hb dL_law_387 rfl (lv_at hl 3 rfl) ?_
              refine lv_iconst (v := 0) hx hb dL_law_388 (by decide) ?_
              refine zl10_x S hK hP 4 rfl (zin_k (n := 0) rfl (by decide) (by decide)) (f := (g10_x btf)) rfl dL_law_389 ?_
              refine lv_aload_n hx hb dL_law_390 rfl (lv_at hl 3 rfl) ?_
              refine lv_iconst (v := 2) hx hb dL_law_391 (by decide) ?_
              refine zl10_x S hK hP 4 rfl (zin_k (n := 2) rfl (by decide) (by decide)) (f := (g10_x btf)) rfl dL_law_392 ?_
              refine lv_iconst (v := (-1)) hx hb dL_law_393 (by decide) ?_
              refine lv_ixor hx hb dL_law_394 ?_
              refine lv_iand hx hb dL_law_395 ?_
              refine lv_if_ne (tgt := 411) hx hb dL_law_396 (by decide) (fun c396 => ?_) (fun c396 => ?_)
              · have hE := hE.trans (if_neg c396)
                exact absurd (show (1 : Int32) = 0 from hT1.symm.trans (congrArg Prod.fst hE)) (by decide)
              · have hE := hE.trans (if_pos c396)
                refine lv_aload_n hx hb dL_law_399 rfl (lv_at hl 3 rfl) ?_
                refine lv_iconst (v := 3) hx hb dL_law_400 (by decide) ?_
                refine zl10_x S hK hP 4 rfl (zin_k (n := 3) rfl (by decide) (by decide)) (f := (g10_x btf)) rfl dL_law_401 ?_
                refine lv_aload_n hx hb dL_law_402 rfl (lv_at hl 3 rfl) ?_
                refine lv_iconst (v := 1) hx hb dL_law_403 (by decide) ?_
                refine zl10_x S hK hP 4 rfl (zin_k (n := 1) rfl (by decide) (by decide)) (f := (g10_x btf)) rfl dL_law_404 ?_
                refine lv_iconst (v := (-1)) hx hb dL_law_405 (by decide) ?_
                refine lv_ixor hx hb dL_law_406 ?_
                refine lv_iand hx hb dL_law_407 ?_
                refine lv_if_eq (tgt := 413) hx hb dL_law_408 (by decide) (fun c408 => ?_) (fun c408 => ?_)
                · have hE := hE.trans (if_pos c408)
                  subst hE
                  exact hret413 _ _ _ hP hD hS (lv_sub hl [1, 2, 3, 0] rfl)
                · have hE := hE.trans (if_neg c408)
                  exact absurd (show (1 : Int32) = 0 from hT1.symm.trans (congrArg Prod.fst hE)) (by decide)
        · have hE := hE.trans (if_neg c362)
          exact absurd (show (1 : Int32) = 0 from hT1.symm.trans (congrArg Prod.fst hE)) (by decide)
  have hB262 : ∀ (n262 : Nat) (x5_262 : Int32) (i6_262 : Nat) (H : Heap) (locs : List Loc) (ls : Array Slot), (i6_262 ≤ 4) → 5 ≤ i6_262 + n262 → T = FL_law_2_262 (g4_came brd) (g6_known bv) (g10_x btf) x1 (FL_law_2_302 (g4_came brd) (g6_known bv) (g10_x btf) x1) n262 x5_262 (nI i6_262) → zP G (w8 G arc (ac 0) (ard 0) orc_thought orc_thoughtRounds orc_chain (ahi 0) orc_kept (awd 0) (apa 0) orc_rows brc :: w0 G ac bc :: w4 G ard (av 0) brd :: w6 G av bv :: w10 G atf btf :: w7 G awd bwd :: w2 G apa bpa :: w1 G ahi aik sg (nI D) un :: hcs G aik y) H → zD A (w8 G arc (ac 0) (ard 0) orc_thought orc_thoughtRounds orc_chain (ahi 0) orc_kept (awd 0) (apa 0) orc_rows brc :: w0 G ac bc :: w4 G ard (av 0) brd :: w6 G av bv :: w10 G atf btf :: w7 G awd bwd :: w2 G apa bpa :: w1 G ahi aik sg (nI D) un :: hcs G aik y) → va_S A s.heap H locs → lv_has ls 18 [(1, .int x1), (2, .ref (arc 0)), (3, .ref (atf 0)), (5, .int x5_262), (6, .int (nI i6_262))] → W p l e room_1 s m args below meth c H locs cells slots Q (F0 m 262 ls []) := by
    intro n262
    induction n262 with
    | zero =>
      intro x5_262 i6_262 H locs ls hi6_262 hn hE hP hD hS hl
      exact absurd hn (by omega)
    | succ n262 ih262 =>
      intro x5_262 i6_262 H locs ls hi6_262 hn hE hP hD hS hl
      have hE := hE.trans (FL_law_2_262.eq_2 _ _ _ _ _ _ _ _)
      refine lv_iload hx hb dL_law_262 (lv_at hl 4 rfl) ?_
      refine lv_iconst (v := 4) hx hb dL_law_264 (by decide) ?_
      refine lv_icmp_ge (tgt := 302) hx hb dL_law_265 (by decide) (fun c265 => ?_) (fun c265 => ?_)
      · have hE := hE.trans (if_pos c265)
        exact hB302 x5_262 _ _ _ hE hP hD hS (lv_sub hl [0, 1, 2, 3] rfl)
      · have hE := hE.trans (if_neg c265)
        have hl6_262 : i6_262 < 4 := zlt (N := 4) rfl (by omega) (by omega) c265
        refine lv_iload hx hb dL_law_268 (lv_at hl 3 rfl) ?_
        refine lv_aload_n hx hb dL_law_270 rfl (lv_at hl 2 rfl) ?_
        refine lv_iload hx hb dL_law_271 (lv_at hl 4 rfl) ?_
        refine zl10_x S hK hP 4 rfl (vp_in_nI (by omega) (by omega)) (f := (g10_x btf)) rfl dL_law_273 ?_
        obtain ⟨t274, ht274⟩ : ∃ z, FJ6_bitCount_0f7a4 ((g10_x btf) (nI i6_262).toNatClampNeg) = z := ⟨_, rfl⟩
        have hE := hE.trans (bnd_eq ht274)
        have hc := c_J6_bitCount_0f7a4 l G ((g10_x btf) (nI i6_262).toNatClampNeg) _ ht274
        refine zgoR (va_runS (As := [.int ((g10_x btf) (nI i6_262).toNatClampNeg)]) (rest := [.int x5_262]) S (hc _) (va_cwS 1 S.2.2.2.2 gL_law_J6_bitCount_0f7a4 rfl rfl rfl (by decide +kernel) ⟨Nat.le_of_ble_eq_true rfl, Nat.le_of_ble_eq_true rfl⟩) (zpS hK hP hD (is := []) rfl rfl) rfl rfl hl.1 rfl (lv_room (Nat.le_of_ble_eq_true rfl)) dL_law_274 ⟨hcl, hsl⟩) (fun hn274 => ?_)
        refine lv_iadd hx hb dL_law_277 ?_
        refine lv_istore (lv' := [(5, .int (x5_262 + t274)), (1, .int x1), (2, .ref (arc 0)), (3, .ref (atf 0)), (6, .int (nI i6_262))]) hx hb dL_law_278 hl (by decide) rfl (fun ls hl => ?_)
        refine lv_aload_n hx hb dL_law_280 rfl (lv_at hl 2 rfl) ?_
        refine lv_iload hx hb dL_law_281 (lv_at hl 4 rfl) ?_
        refine lv_iconst (v := 0) hx hb dL_law_283 (by decide) ?_
        obtain ⟨t284, ht284⟩ : ∃ z, FX8_tagged_s (g4_came brd) (g6_known bv) (nI i6_262) 0 = z := ⟨_, rfl⟩
        have hE := hE.trans (bnd_eq ht284)
        have hc := c_X8_tagged_s l G arc ac ard av orc_thought orc_thoughtRounds orc_chain (ahi 0) orc_kept (awd 0) (apa 0) orc_rows brc bc brd bv (nI i6_262) 0 (hh_c_head) (hz_c_size) (hu_rc_isSettled) _ ht284
        refine zgoI (bs' := (w8 G arc (ac 0) (ard 0) orc_thought orc_thoughtRounds orc_chain (ahi 0) orc_kept (awd 0) (apa 0) orc_rows brc :: w0 G ac bc :: w4 G ard (av 0) brd :: w6 G av bv :: w10 G atf btf :: w7 G awd bwd :: w2 G apa bpa :: w1 G ahi aik sg (nI D) un :: hcs G aik y)) hc [0, 1, 2, 3] rfl rfl rfl hP hD hS hA (va_runV (As := [.int (nI i6_262), .int 0]) (rest := []) S (hc.2 _) (cwV 2 S.2.2.2.2 gL_law_X8_tagged rfl rfl rfl (by decide +kernel) ⟨Nat.le_of_ble_eq_true rfl, Nat.le_of_ble_eq_true rfl⟩) (zpV hK hP hD (is := [0, 1, 2, 3]) rfl rfl 0 rfl rfl (ci := 8) rfl) rfl rfl hl.1 rfl (lv_room (Nat.le_of_ble_eq_true rfl)) dL_law_284 ⟨hcl, hsl⟩) (fun H locs hn284 hP hD hS => ?_)
        refine lv_aload_n hx hb dL_law_287 rfl (lv_at hl 3 rfl) ?_
        refine lv_iload hx hb dL_law_288 (lv_at hl 4 rfl) ?_
        refine zl10_x S hK hP 4 rfl (vp_in_nI (by omega) (by omega)) (f := (g10_x btf)) rfl dL_law_290 ?_
        refine lv_icmp_eq (tgt := 296) hx hb dL_law_291 (by decide) (fun c291 => ?_) (fun c291 => ?_)
        · have hE := hE.trans (if_pos c291)
          refine lv_iinc (v := (nI (i6_262 + 1))) (lv' := [(6, .int (nI (i6_262 + 1))), (5, .int (x5_262 + t274)), (1, .int x1), (2, .ref (arc 0)), (3, .ref (atf 0))]) hx hb dL_law_296 hl (k := 4) rfl (nI_1 i6_262) (by decide) rfl (fun ls hl => ?_)
          try rw [nI_1 i6_262] at hE
          refine lv_goto (tgt := 262) hx hb dL_law_299 (by decide) ?_
          exact ih262 (x5_262 + t274) (i6_262 + 1) _ _ _ (by first | assumption | omega) (by omega) hE hP hD hS (lv_sub hl [2, 3, 4, 1, 0] rfl)
        · have hE := hE.trans (if_neg c291)
          exact absurd (show (1 : Int32) = 0 from hT1.symm.trans (congrArg Prod.fst hE)) (by decide)
  refine lv_istore (lv' := [(6, .int 0), (5, .int 0), (1, .int x1), (2, .ref (arc 0)), (3, .ref (atf 0))]) hx hb dL_law_260 hl (by decide) rfl (fun ls hl => ?_)
  exact hB262 5 0 0 _ _ _ (by first | assumption | omega) (by omega) hE hP hD hS (lv_sub hl [2, 3, 4, 1, 0] rfl)
