set_option maxHeartbeats 40000000 in
set_option maxRecDepth 100000 in
theorem seg_L_law_4 {p : Program} {l : Launch} {e : Env} {s : State} {m : MethodId} {args : Array Value} {below : List Frame} {meth : Method} {c : Code} {A : Nat → Prop} {cells slots : Nat} {Q : State → Prop} (G : zG) (arc : Nat → Nat) (ac : Nat → Nat) (ard : Nat → Nat) (av : Nat → Nat) (atf : Nat → Nat) (aab : Nat → Nat) (awd : Nat → Nat) (apa : Nat → Nat) (ahi : Nat → Nat) (aik : Nat → Nat → Nat) (orc_thought : Nat) (orc_thoughtRounds : Nat) (orc_chain : Nat) (orc_kept : Nat) (orc_rows : Nat) (brc : S8) (bc : S0) (brd : S4) (bv : S6) (btf : S10) (bab : S11) (bwd : S7) (bpa : S2) (sg : Nat → Nat) (y : Nat → S0) (D : Nat) (un : Int32) (NR : Nat) (x1 : Int32) (x6 : Int32) (x8 : Int32) (hx1 : x1 = nI NR) (hNR : NR ≤ 10)  (T : Int32 × Int32) (hT : FL_law_4 (g11_x bab) x1 x6 x8 = T) (hT1 : T.1 = 1) (S : CallFix p m c cL_law 18 s args wsL_law RL) (hK : zK G s) (hA : ∀ q, s.heap.size ≤ q → A q) (hcl : cells ≤ room_1.cells) (hsl : slots ≤ room_1.slots) {H : Heap} {locs : List Loc} {ls : Array Slot} (hP : zP G (w8 G arc (ac 0) (ard 0) orc_thought orc_thoughtRounds orc_chain (ahi 0) orc_kept (awd 0) (apa 0) orc_rows brc :: w0 G ac bc :: w4 G ard (av 0) brd :: w6 G av bv :: w10 G atf btf :: w11 G aab NR bab :: w7 G awd bwd :: w2 G apa bpa :: w1 G ahi aik sg (nI D) un :: hcs G aik y) H) (hD : zD A (w8 G arc (ac 0) (ard 0) orc_thought orc_thoughtRounds orc_chain (ahi 0) orc_kept (awd 0) (apa 0) orc_rows brc :: w0 G ac bc :: w4 G ard (av 0) brd :: w6 G av bv :: w10 G atf btf :: w11 G aab NR bab :: w7 G awd bwd :: w2 G apa bpa :: w1 G ahi aik sg (nI D) un :: hcs G aik y)) (hS : va_S A s.heap H locs) (hl : lv_has ls 18 [(1, .int x1), (2, .ref (arc 0)), (3, .ref (atf 0)), (6, .int x6), (7, .ref (aab 0)), (8, .int x8)]) (hret641 : ∀ (H : Heap) (locs : List Loc) (ls : Array Slot), zP G (w8 G arc (ac 0) (ard 0) orc_thought orc_thoughtRounds orc_chain (ahi 0) orc_kept (awd 0) (apa 0) orc_rows brc :: w0 G ac bc :: w4 G ard (av 0) brd :: w6 G av bv :: w10 G atf btf :: w11 G aab NR bab :: w7 G awd bwd :: w2 G apa bpa :: w1 G ahi aik sg (nI D) un :: hcs G aik y) H → zD A (w8 G arc (ac 0) (ard 0) orc_thought orc_thoughtRounds orc_chain (ahi 0) orc_kept (awd 0) (apa 0) orc_rows brc :: w0 G ac bc :: w4 G ard (av 0) brd :: w6 G av bv :: w10 G atf btf :: w11 G aab NR bab :: w7 G awd bwd :: w2 G apa bpa :: w1 G ahi aik sg (nI D) un :: hcs G aik y) → va_S A s.heap H locs → lv_has ls 18 [(1, .int x1), (2, .ref (arc 0)), (3, .ref (atf 0)), (6, .int x6), (7, .ref (aab 0)), (8, .int x8), (9, .int T.2)] → W p l e room_1 s m args below meth c H locs cells slots Q (F0 m 641 ls [])) : W p l e room_1 s m args below meth c H locs cells slots Q (F0 m 567 ls []) := by
  have hx := S.1
  have hb := S.2.1
  have hE := hT.symm.trans (FL_law_4.eq_1 _ _ _ _)
  refine lv_iconst (v := 1) hx hb dL_law_567 (by decide) ?_
  refine lv_iload_n hx hb dL_law_568 rfl (lv_at hl 0 rfl) ?_
  refine lv_ishl hx hb dL_law_569 ?_
  refine lv_iconst (v := 1) hx hb dL_law_570 (by decide) ?_
  refine lv_isub hx hb dL_law_571 ?_
  refine lv_istore (lv' := [(9, .int ((1 <<< (x1 &&& 31)) - 1)), (1, .int x1), (2, .ref (arc 0)), (3, .ref (atf 0)), (6, .int x6), (7, .ref (aab 0)), (8, .int x8)]) hx hb dL_law_572 hl (by decide) rfl (fun ls hl => ?_)
  refine lv_iconst (v := 1) hx hb dL_law_574 (by decide) ?_
  have hB641 : ∀ (x9_641 : Int32) (H : Heap) (locs : List Loc) (ls : Array Slot), T = FL_law_4_641 (g11_x bab) x1 x6 x8 x9_641 → zP G (w8 G arc (ac 0) (ard 0) orc_thought orc_thoughtRounds orc_chain (ahi 0) orc_kept (awd 0) (apa 0) orc_rows brc :: w0 G ac bc :: w4 G ard (av 0) brd :: w6 G av bv :: w10 G atf btf :: w11 G aab NR bab :: w7 G awd bwd :: w2 G apa bpa :: w1 G ahi aik sg (nI D) un :: hcs G aik y) H → zD A (w8 G arc (ac 0) (ard 0) orc_thought orc_thoughtRounds orc_chain (ahi 0) orc_kept (awd 0) (apa 0) orc_rows brc :: w0 G ac bc :: w4 G ard (av 0) brd :: w6 G av bv :: w10 G atf btf :: w11 G aab NR bab :: w7 G awd bwd :: w2 G apa bpa :: w1 G ahi aik sg (nI D) un :: hcs G aik y) → va_S A s.heap H locs → lv_has ls 18 [(1, .int x1), (2, .ref (arc 0)), (3, .ref (atf 0)), (6, .int x6), (7, .ref (aab 0)), (8, .int x8), (9, .int x9_641)] → W p l e room_1 s m args below meth c H locs cells slots Q (F0 m 641 ls []) := by
    intro x9_641 H locs ls hE hP hD hS hl
    have hE := hE.trans (FL_law_4_641.eq_1 _ _ _ _ _)
    subst hE
    exact hret641 _ _ _ hP hD hS (lv_sub hl [0, 1, 2, 3, 4, 5, 6] rfl)
  have hB577 : ∀ (n577 : Nat) (x9_577 : Int32) (x10_577 : Int32) (H : Heap) (locs : List Loc) (ls : Array Slot), ((x10_577 = 0 ∨ zbits x9_577 + 2 ≤ n577) ∧ 1 ≤ n577) → T = FL_law_4_577 (g11_x bab) x1 x6 x8 (FL_law_4_641 (g11_x bab) x1 x6 x8) n577 x9_577 x10_577 → zP G (w8 G arc (ac 0) (ard 0) orc_thought orc_thoughtRounds orc_chain (ahi 0) orc_kept (awd 0) (apa 0) orc_rows brc :: w0 G ac bc :: w4 G ard (av 0) brd :: w6 G av bv :: w10 G atf btf :: w11 G aab NR bab :: w7 G awd bwd :: w2 G apa bpa :: w1 G ahi aik sg (nI D) un :: hcs G aik y) H → zD A (w8 G arc (ac 0) (ard 0) orc_thought orc_thoughtRounds orc_chain (ahi 0) orc_kept (awd 0) (apa 0) orc_rows brc :: w0 G ac bc :: w4 G ard (av 0) brd :: w6 G av bv :: w10 G atf btf :: w11 G aab NR bab :: w7 G awd bwd :: w2 G apa bpa :: w1 G ahi aik sg (nI D) un :: hcs G aik y) → va_S A s.heap H locs → lv_has ls 18 [(1, .int x1), (2, .ref (arc 0)), (3, .ref (atf 0)), (6, .int x6), (7, .ref (aab 0)), (8, .int x8), (9, .int x9_577), (10, .int x10_577)] → W p l e room_1 s m args below meth c H locs cells slots Q (F0 m 577 ls []) := by
    intro n577
    induction n577 with
    | zero =>
      intro x9_577 x10_577 H locs ls hn hE hP hD hS hl
      exact absurd hn (by rintro ⟨_, h⟩; omega)
    | succ n577 ih577 =>
      intro x9_577 x10_577 H locs ls hn hE hP hD hS hl
      have hE := hE.trans (FL_law_4_577.eq_2 _ _ _ _ _ _ _ _)
      refine lv_iload hx hb dL_law_577 (lv_at hl 7 rfl) ?_
      refine lv_if_eq (tgt := 641) hx hb dL_law_579 (by decide) (fun c579 => ?_) (fun c579 => ?_)
      · have hE := hE.trans (if_pos c579)
        exact hB641 x9_577 _ _ _ hE hP hD hS (lv_sub hl [0, 1, 2, 3, 4, 5, 6] rfl)
      · have hE := hE.trans (if_neg c579)
        refine lv_iconst (v := 0) hx hb dL_law_582 (by decide) ?_
        refine lv_istore (lv' := [(10, .int 0), (1, .int x1), (2, .ref (arc 0)), (3, .ref (atf 0)), (6, .int x6), (7, .ref (aab 0)), (8, .int x8), (9, .int x9_577)]) hx hb dL_law_583 hl (by decide) rfl (fun ls hl => ?_)
        refine lv_iconst (v := 0) hx hb dL_law_585 (by decide) ?_
        have hB638 : ∀ (x9_638 : Int32) (x10_638 : Int32) (H : Heap) (locs : List Loc) (ls : Array Slot), (zbits x9_638 ≤ zbits x9_577 ∧ (x10_638 = 0 ∨ zbits x9_638 + 1 ≤ zbits x9_577)) → T = FL_law_4_638 (g11_x bab) x1 x6 x8 (fun x9_577' x10_577' => FL_law_4_577 (g11_x bab) x1 x6 x8 (FL_law_4_641 (g11_x bab) x1 x6 x8) n577 x9_577' x10_577') (FL_law_4_641 (g11_x bab) x1 x6 x8) x9_638 x10_638 → zP G (w8 G arc (ac 0) (ard 0) orc_thought orc_thoughtRounds orc_chain (ahi 0) orc_kept (awd 0) (apa 0) orc_rows brc :: w0 G ac bc :: w4 G ard (av 0) brd :: w6 G av bv :: w10 G atf btf :: w11 G aab NR bab :: w7 G awd bwd :: w2 G apa bpa :: w1 G ahi aik sg (nI D) un :: hcs G aik y) H → zD A (w8 G arc (ac 0) (ard 0) orc_thought orc_thoughtRounds orc_chain (ahi 0) orc_kept (awd 0) (apa 0) orc_rows brc :: w0 G ac bc :: w4 G ard (av 0) brd :: w6 G av bv :: w10 G atf btf :: w11 G aab NR bab :: w7 G awd bwd :: w2 G apa bpa :: w1 G ahi aik sg (nI D) un :: hcs G aik y) → va_S A s.heap H locs → lv_has ls 18 [(1, .int x1), (2, .ref (arc 0)), (3, .ref (atf 0)), (6, .int x6), (7, .ref (aab 0)), (8, .int x8), (9, .int x9_638), (10, .int x10_638)] → W p l e room_1 s m args below meth c H locs cells slots Q (F0 m 638 ls []) := by
          intro x9_638 x10_638 H locs ls hv638 hE hP hD hS hl
          have hE := hE.trans (FL_law_4_638.eq_1 _ _ _ _ _ _ _ _)
          refine lv_goto (tgt := 577) hx hb dL_law_638 (by decide) ?_
          exact ih577 x9_638 x10_638 _ _ _ (by exact zms hn c579 hv638) hE hP hD hS (lv_sub hl [0, 1, 2, 3, 4, 5, 6, 7] rfl)
        have hB588 : ∀ (n588 : Nat) (x9_588 : Int32) (x10_588 : Int32) (i11_588 : Nat) (H : Heap) (locs : List Loc) (ls : Array Slot), (i11_588 ≤ NR) → (zbits x9_588 ≤ zbits x9_577 ∧ (x10_588 = 0 ∨ zbits x9_588 + 1 ≤ zbits x9_577)) → 17 ≤ i11_588 + n588 → T = FL_law_4_588 (g11_x bab) x1 x6 x8 (fun x9_577' x10_577' => FL_law_4_577 (g11_x bab) x1 x6 x8 (FL_law_4_641 (g11_x bab) x1 x6 x8) n577 x9_577' x10_577') (FL_law_4_641 (g11_x bab) x1 x6 x8) (FL_law_4_638 (g11_x bab) x1 x6 x8 (fun x9_577' x10_577' => FL_law_4_577 (g11_x bab) x1 x6 x8 (FL_law_4_641 (g11_x bab) x1 x6 x8) n577 x9_577' x10_577') (FL_law_4_641 (g11_x bab) x1 x6 x8)) n588 x9_588 x10_588 (nI i11_588) → zP G (w8 G arc (ac 0) (ard 0) orc_thought orc_thoughtRounds orc_chain (ahi 0) orc_kept (awd 0) (apa 0) orc_rows brc :: w0 G ac bc :: w4 G ard (av 0) brd :: w6 G av bv :: w10 G atf btf :: w11 G aab NR bab :: w7 G awd bwd :: w2 G apa bpa :: w1 G ahi aik sg (nI D) un :: hcs G aik y) H → zD A (w8 G arc (ac 0) (ard 0) orc_thought orc_thoughtRounds orc_chain (ahi 0) orc_kept (awd 0) (apa 0) orc_rows brc :: w0 G ac bc :: w4 G ard (av 0) brd :: w6 G av bv :: w10 G atf btf :: w11 G aab NR bab :: w7 G awd bwd :: w2 G apa bpa :: w1 G ahi aik sg (nI D) un :: hcs G aik y) → va_S A s.heap H locs → lv_has ls 18 [(1, .int x1), (2, .ref (arc 0)), (3, .ref (atf 0)), (6, .int x6), (7, .ref (aab 0)), (8, .int x8), (9, .int x9_588), (10, .int x10_588), (11, .int (nI i11_588))] → W p l e room_1 s m args below meth c H locs cells slots Q (F0 m 588 ls []) := by
          intro n588
          induction n588 with
          | zero =>
            intro x9_588 x10_588 i11_588 H locs ls hi11_588 hv588 hn hE hP hD hS hl
            exact absurd hn (by omega)
          | succ n588 ih588 =>
            intro x9_588 x10_588 i11_588 H locs ls hi11_588 hv588 hn hE hP hD hS hl
            have hE := hE.trans (FL_law_4_588.eq_2 _ _ _ _ _ _ _ _ _ _ _)
            refine lv_iload hx hb dL_law_588 (lv_at hl 8 rfl) ?_
            refine lv_iload_n hx hb dL_law_590 rfl (lv_at hl 0 rfl) ?_
            refine lv_icmp_ge (tgt := 638) hx hb dL_law_591 (by decide) (fun c591 => ?_) (fun c591 => ?_)
            · have hE := hE.trans (if_pos c591)
              exact hB638 x9_588 x10_588 _ _ _ (by first | assumption | omega) hE hP hD hS (lv_sub hl [0, 1, 2, 3, 4, 5, 6, 7] rfl)
            · have hE := hE.trans (if_neg c591)
              have hl11_588 : i11_588 < NR := zlt (N := NR) hx1 (by omega) (by omega) c591
              refine lv_iload hx hb dL_law_594 (lv_at hl 6 rfl) ?_
              refine lv_iload hx hb dL_law_596 (lv_at hl 8 rfl) ?_
              obtain ⟨t598, ht598⟩ : ∃ z, FL_has x9_588 (nI i11_588) = z := ⟨_, rfl⟩
              have hE := hE.trans (bnd_eq ht598)
              have hc := c_L_has l G x9_588 (nI i11_588) _ ht598
              refine zgoR (va_runS (As := [.int x9_588, .int (nI i11_588)]) (rest := []) S (hc _) (va_cwS 2 S.2.2.2.2 gL_law_L_has rfl rfl rfl (by decide +kernel) ⟨Nat.le_of_ble_eq_true rfl, Nat.le_of_ble_eq_true rfl⟩) (zpS hK hP hD (is := []) rfl rfl) rfl rfl hl.1 rfl (lv_room (Nat.le_of_ble_eq_true rfl)) dL_law_598 ⟨hcl, hsl⟩) (fun hn598 => ?_)
              refine lv_if_eq (tgt := 632) hx hb dL_law_601 (by decide) (fun c601 => ?_) (fun c601 => ?_)
              · have hE := hE.trans (if_pos c601)
                refine lv_iinc (v := (nI (i11_588 + 1))) (lv' := [(11, .int (nI (i11_588 + 1))), (1, .int x1), (2, .ref (arc 0)), (3, .ref (atf 0)), (6, .int x6), (7, .ref (aab 0)), (8, .int x8), (9, .int x9_588), (10, .int x10_588)]) hx hb dL_law_632 hl (k := 8) rfl (nI_1 i11_588) (by decide) rfl (fun ls hl => ?_)
                try rw [nI_1 i11_588] at hE
                refine lv_goto (tgt := 588) hx hb dL_law_635 (by decide) ?_
                exact ih588 x9_588 x10_588 (i11_588 + 1) _ _ _ (by first | assumption | omega) (by first | assumption | exact ⟨Nat.le_refl _, Or.inl rfl⟩ | exact zmr (by rw [ht598]; exact c601) hl11_588 hNR hv588) (by omega) hE hP hD hS (lv_sub hl [1, 2, 3, 4, 5, 6, 7, 8, 0] rfl)
              · have hE := hE.trans (if_neg c601)
                refine lv_aload hx hb dL_law_604 (lv_at hl 4 rfl) ?_
                refine lv_iload hx hb dL_law_606 (lv_at hl 8 rfl) ?_
                refine zl11_x S hK hP 5 rfl (vp_in_nI (by omega) (by omega)) (f := (g11_x bab)) rfl dL_law_608 ?_
                refine lv_iload hx hb dL_law_609 (lv_at hl 6 rfl) ?_
                refine lv_iand hx hb dL_law_611 ?_
                refine lv_if_eq (tgt := 618) hx hb dL_law_612 (by decide) (fun c612 => ?_) (fun c612 => ?_)
                · have hE := hE.trans (if_pos c612)
                  refine lv_iload hx hb dL_law_618 (lv_at hl 6 rfl) ?_
                  refine lv_iconst (v := 1) hx hb dL_law_620 (by decide) ?_
                  refine lv_iload hx hb dL_law_621 (lv_at hl 8 rfl) ?_
                  refine lv_ishl hx hb dL_law_623 ?_
                  refine lv_iconst (v := (-1)) hx hb dL_law_624 (by decide) ?_
                  refine lv_ixor hx hb dL_law_625 ?_
                  refine lv_iand hx hb dL_law_626 ?_
                  refine lv_istore (lv' := [(9, .int (x9_588 &&& ((1 <<< ((nI i11_588) &&& 31)) ^^^ (-1)))), (1, .int x1), (2, .ref (arc 0)), (3, .ref (atf 0)), (6, .int x6), (7, .ref (aab 0)), (8, .int x8), (10, .int x10_588), (11, .int (nI i11_588))]) hx hb dL_law_627 hl (by decide) rfl (fun ls hl => ?_)
                  refine lv_iconst (v := 1) hx hb dL_law_629 (by decide) ?_
                  refine lv_istore (lv' := [(10, .int 1), (9, .int (x9_588 &&& ((1 <<< ((nI i11_588) &&& 31)) ^^^ (-1)))), (1, .int x1), (2, .ref (arc 0)), (3, .ref (atf 0)), (6, .int x6), (7, .ref (aab 0)), (8, .int x8), (11, .int (nI i11_588))]) hx hb dL_law_630 hl (by decide) rfl (fun ls hl => ?_)
                  refine lv_iinc (v := (nI (i11_588 + 1))) (lv' := [(11, .int (nI (i11_588 + 1))), (10, .int 1), (9, .int (x9_588 &&& ((1 <<< ((nI i11_588) &&& 31)) ^^^ (-1)))), (1, .int x1), (2, .ref (arc 0)), (3, .ref (atf 0)), (6, .int x6), (7, .ref (aab 0)), (8, .int x8)]) hx hb dL_law_632 hl (k := 8) rfl (nI_1 i11_588) (by decide) rfl (fun ls hl => ?_)
                  try rw [nI_1 i11_588] at hE
                  refine lv_goto (tgt := 588) hx hb dL_law_635 (by decide) ?_
                  exact ih588 (x9_588 &&& ((1 <<< ((nI i11_588) &&& 31)) ^^^ (-1))) 1 (i11_588 + 1) _ _ _ (by first | assumption | omega) (by first | assumption | exact ⟨Nat.le_refl _, Or.inl rfl⟩ | exact zmr (by rw [ht598]; exact c601) hl11_588 hNR hv588) (by omega) hE hP hD hS (lv_sub hl [3, 4, 5, 6, 7, 8, 2, 1, 0] rfl)
                · have hE := hE.trans (if_neg c612)
                  refine lv_goto (tgt := 632) hx hb dL_law_615 (by decide) ?_
                  refine lv_iinc (v := (nI (i11_588 + 1))) (lv' := [(11, .int (nI (i11_588 + 1))), (1, .int x1), (2, .ref (arc 0)), (3, .ref (atf 0)), (6, .int x6), (7, .ref (aab 0)), (8, .int x8), (9, .int x9_588), (10, .int x10_588)]) hx hb dL_law_632 hl (k := 8) rfl (nI_1 i11_588) (by decide) rfl (fun ls hl => ?_)
                  try rw [nI_1 i11_588] at hE
                  refine lv_goto (tgt := 588) hx hb dL_law_635 (by decide) ?_
                  exact ih588 x9_588 x10_588 (i11_588 + 1) _ _ _ (by first | assumption | omega) (by first | assumption | exact ⟨Nat.le_refl _, Or.inl rfl⟩ | exact zmr (by rw [ht598]; exact c601) hl11_588 hNR hv588) (by omega) hE hP hD hS (lv_sub hl [1, 2, 3, 4, 5, 6, 7, 8, 0] rfl)
        refine lv_istore (lv' := [(11, .int 0), (10, .int 0), (1, .int x1), (2, .ref (arc 0)), (3, .ref (atf 0)), (6, .int x6), (7, .ref (aab 0)), (8, .int x8), (9, .int x9_577)]) hx hb dL_law_586 hl (by decide) rfl (fun ls hl => ?_)
        exact hB588 17 x9_577 0 0 _ _ _ (by first | assumption | omega) (by first | assumption | exact ⟨Nat.le_refl _, Or.inl rfl⟩ | exact zmr (by rw [ht598]; exact c601) hl11_588 hNR hv588) (by omega) hE hP hD hS (lv_sub hl [2, 3, 4, 5, 6, 7, 8, 1, 0] rfl)
  refine lv_istore (lv' := [(10, .int 1), (9, .int ((1 <<< (x1 &&& 31)) - 1)), (1, .int x1), (2, .ref (arc 0)), (3, .ref (atf 0)), (6, .int x6), (7, .ref (aab 0)), (8, .int x8)]) hx hb dL_law_575 hl (by decide) rfl (fun ls hl => ?_)
  exact hB577 23 ((1 <<< (x1 &&& 31)) - 1) 1 _ _ _ (by exact ⟨Or.inr (zms0 _), by decide⟩) hE hP hD hS (lv_sub hl [2, 3, 4, 5, 6, 7, 1, 0] rfl)

set_option maxHeartbeats 40000000 in
set_option maxRecDepth 100000 in
theorem seg_L_law_5 {p : Program} {l : Launch} {e : Env} {s : State} {m : MethodId} {args : Array Value} {below : List Frame} {meth : Method} {c : Code} {A : Nat → Prop} {cells slots : Nat} {Q : State → Prop} (G : zG) (arc : Nat → Nat) (ac : Nat → Nat) (ard : Nat → Nat) (av : Nat → Nat) (atf : Nat → Nat) (aab : Nat → Nat) (awd : Nat → Nat) (apa : Nat → Nat) (ahi : Nat → Nat) (aik : Nat → Nat → Nat) (orc_thought : Nat) (orc_thoughtRounds : Nat) (orc_chain : Nat) (orc_kept : Nat) (orc_rows : Nat) (brc : S8) (bc : S0) (brd : S4) (bv : S6) (btf : S10) (bab : S11) (bwd : S7) (bpa : S2) (sg : Nat → Nat) (y : Nat → S0) (D : Nat) (un : Int32) (NR : Nat) (x1 : Int32) (x6 : Int32) (x8 : Int32) (x9 : Int32) (hx1 : x1 = nI NR) (hNR : NR ≤ 10)  (T : Int32 × Int32) (hT : FL_law_5 (g11_x bab) x1 x6 x8 x9 = T) (hT1 : T.1 = 1) (S : CallFix p m c cL_law 18 s args wsL_law RL) (hK : zK G s) (hA : ∀ q, s.heap.size ≤ q → A q) (hcl : cells ≤ room_1.cells) (hsl : slots ≤ room_1.slots) {H : Heap} {locs : List Loc} {ls : Array Slot} (hP : zP G (w8 G arc (ac 0) (ard 0) orc_thought orc_thoughtRounds orc_chain (ahi 0) orc_kept (awd 0) (apa 0) orc_rows brc :: w0 G ac bc :: w4 G ard (av 0) brd :: w6 G av bv :: w10 G atf btf :: w11 G aab NR bab :: w7 G awd bwd :: w2 G apa bpa :: w1 G ahi aik sg (nI D) un :: hcs G aik y) H) (hD : zD A (w8 G arc (ac 0) (ard 0) orc_thought orc_thoughtRounds orc_chain (ahi 0) orc_kept (awd 0) (apa 0) orc_rows brc :: w0 G ac bc :: w4 G ard (av 0) brd :: w6 G av bv :: w10 G atf btf :: w11 G aab NR bab :: w7 G awd bwd :: w2 G apa bpa :: w1 G ahi aik sg (nI D) un :: hcs G aik y)) (hS : va_S A s.heap H locs) (hl : lv_has ls 18 [(1, .int x1), (2, .ref (arc 0)), (3, .ref (atf 0)), (6, .int x6), (7, .ref (aab 0)), (8, .int x8), (9, .int x9)]) (hret756 : ∀ (H : Heap) (locs : List Loc) (ls : Array Slot), zP G (w8 G arc (ac 0) (ard 0) orc_thought orc_thoughtRounds orc_chain (ahi 0) orc_kept (awd 0) (apa 0) orc_rows brc :: w0 G ac bc :: w4 G ard (av 0) brd :: w6 G av bv :: w10 G atf btf :: w11 G aab NR bab :: w7 G awd bwd :: w2 G apa bpa :: w1 G ahi aik sg (nI D) un :: hcs G aik y) H → zD A (w8 G arc (ac 0) (ard 0) orc_thought orc_thoughtRounds orc_chain (ahi 0) orc_kept (awd 0) (apa 0) orc_rows brc :: w0 G ac bc :: w4 G ard (av 0) brd :: w6 G av bv :: w10 G atf btf :: w11 G aab NR bab :: w7 G awd bwd :: w2 G apa bpa :: w1 G ahi aik sg (nI D) un :: hcs G aik y) → va_S A s.heap H locs → lv_has ls 18 [(1, .int x1), (2, .ref (arc 0)), (3, .ref (atf 0)), (6, .int x6), (7, .ref (aab 0)), (8, .int x8), (9, .int T.2)] → W p l e room_1 s m args below meth c H locs cells slots Q (F0 m 756 ls [])) : W p l e room_1 s m args below meth c H locs cells slots Q (F0 m 641 ls []) := by
  have hx := S.1
  have hb := S.2.1
  have hE := hT.symm.trans (FL_law_5.eq_1 _ _ _ _ _)
  refine lv_iconst (v := 1) hx hb dL_law_641 (by decide) ?_
  have hB756 : ∀ (x9_756 : Int32) (H : Heap) (locs : List Loc) (ls : Array Slot), T = FL_law_5_756 (g11_x bab) x1 x6 x8 x9 x9_756 → zP G (w8 G arc (ac 0) (ard 0) orc_thought orc_thoughtRounds orc_chain (ahi 0) orc_kept (awd 0) (apa 0) orc_rows brc :: w0 G ac bc :: w4 G ard (av 0) brd :: w6 G av bv :: w10 G atf btf :: w11 G aab NR bab :: w7 G awd bwd :: w2 G apa bpa :: w1 G ahi aik sg (nI D) un :: hcs G aik y) H → zD A (w8 G arc (ac 0) (ard 0) orc_thought orc_thoughtRounds orc_chain (ahi 0) orc_kept (awd 0) (apa 0) orc_rows brc :: w0 G ac bc :: w4 G ard (av 0) brd :: w6 G av bv :: w10 G atf btf :: w11 G aab NR bab :: w7 G awd bwd :: w2 G apa bpa :: w1 G ahi aik sg (nI D) un :: hcs G aik y) → va_S A s.heap H locs → lv_has ls 18 [(1, .int x1), (2, .ref (arc 0)), (3, .ref (atf 0)), (6, .int x6), (7, .ref (aab 0)), (8, .int x8), (9, .int x9_756)] → W p l e room_1 s m args below meth c H locs cells slots Q (F0 m 756 ls []) := by
    intro x9_756 H locs ls hE hP hD hS hl
    have hE := hE.trans (FL_law_5_756.eq_1 _ _ _ _ _ _)
    subst hE
    exact hret756 _ _ _ hP hD hS (lv_sub hl [0, 1, 2, 3, 4, 5, 6] rfl)
  have hB644 : ∀ (n644 : Nat) (x9_644 : Int32) (x10_644 : Int32) (H : Heap) (locs : List Loc) (ls : Array Slot), ((x10_644 = 0 ∨ zbits x9_644 + 2 ≤ n644) ∧ 1 ≤ n644) → T = FL_law_5_644 (g11_x bab) x1 x6 x8 x9 (FL_law_5_756 (g11_x bab) x1 x6 x8 x9) n644 x9_644 x10_644 → zP G (w8 G arc (ac 0) (ard 0) orc_thought orc_thoughtRounds orc_chain (ahi 0) orc_kept (awd 0) (apa 0) orc_rows brc :: w0 G ac bc :: w4 G ard (av 0) brd :: w6 G av bv :: w10 G atf btf :: w11 G aab NR bab :: w7 G awd bwd :: w2 G apa bpa :: w1 G ahi aik sg (nI D) un :: hcs G aik y) H → zD A (w8 G arc (ac 0) (ard 0) orc_thought orc_thoughtRounds orc_chain (ahi 0) orc_kept (awd 0) (apa 0) orc_rows brc :: w0 G ac bc :: w4 G ard (av 0) brd :: w6 G av bv :: w10 G atf btf :: w11 G aab NR bab :: w7 G awd bwd :: w2 G apa bpa :: w1 G ahi aik sg (nI D) un :: hcs G aik y) → va_S A s.heap H locs → lv_has ls 18 [(1, .int x1), (2, .ref (arc 0)), (3, .ref (atf 0)), (6, .int x6), (7, .ref (aab 0)), (8, .int x8), (9, .int x9_644), (10, .int x10_644)] → W p l e room_1 s m args below meth c H locs cells slots Q (F0 m 644 ls []) := by
    intro n644
    induction n644 with
    | zero =>
      intro x9_644 x10_644 H locs ls hn hE hP hD hS hl
      exact absurd hn (by rintro ⟨_, h⟩; omega)
    | succ n644 ih644 =>
      intro x9_644 x10_644 H locs ls hn hE hP hD hS hl
      have hE := hE.trans (FL_law_5_644.eq_2 _ _ _ _ _ _ _ _ _)
      refine lv_iload hx hb dL_law_644 (lv_at hl 7 rfl) ?_
      refine lv_if_eq (tgt := 756) hx hb dL_law_646 (by decide) (fun c646 => ?_) (fun c646 => ?_)
      · have hE := hE.trans (if_pos c646)
        exact hB756 x9_644 _ _ _ hE hP hD hS (lv_sub hl [0, 1, 2, 3, 4, 5, 6] rfl)
      · have hE := hE.trans (if_neg c646)
        refine lv_iconst (v := 0) hx hb dL_law_649 (by decide) ?_
        refine lv_istore (lv' := [(10, .int 0), (1, .int x1), (2, .ref (arc 0)), (3, .ref (atf 0)), (6, .int x6), (7, .ref (aab 0)), (8, .int x8), (9, .int x9_644)]) hx hb dL_law_650 hl (by decide) rfl (fun ls hl => ?_)
        refine lv_iconst (v := 0) hx hb dL_law_652 (by decide) ?_
        have hB753 : ∀ (x9_753 : Int32) (x10_753 : Int32) (H : Heap) (locs : List Loc) (ls : Array Slot), (zbits x9_753 ≤ zbits x9_644 ∧ (x10_753 = 0 ∨ zbits x9_753 + 1 ≤ zbits x9_644)) → T = FL_law_5_753 (g11_x bab) x1 x6 x8 x9 (fun x9_644' x10_644' => FL_law_5_644 (g11_x bab) x1 x6 x8 x9 (FL_law_5_756 (g11_x bab) x1 x6 x8 x9) n644 x9_644' x10_644') (FL_law_5_756 (g11_x bab) x1 x6 x8 x9) x9_753 x10_753 → zP G (w8 G arc (ac 0) (ard 0) orc_thought orc_thoughtRounds orc_chain (ahi 0) orc_kept (awd 0) (apa 0) orc_rows brc :: w0 G ac bc :: w4 G ard (av 0) brd :: w6 G av bv :: w10 G atf btf :: w11 G aab NR bab :: w7 G awd bwd :: w2 G apa bpa :: w1 G ahi aik sg (nI D) un :: hcs G aik y) H → zD A (w8 G arc (ac 0) (ard 0) orc_thought orc_thoughtRounds orc_chain (ahi 0) orc_kept (awd 0) (apa 0) orc_rows brc :: w0 G ac bc :: w4 G ard (av 0) brd :: w6 G av bv :: w10 G atf btf :: w11 G aab NR bab :: w7 G awd bwd :: w2 G apa bpa :: w1 G ahi aik sg (nI D) un :: hcs G aik y) → va_S A s.heap H locs → lv_has ls 18 [(1, .int x1), (2, .ref (arc 0)), (3, .ref (atf 0)), (6, .int x6), (7, .ref (aab 0)), (8, .int x8), (9, .int x9_753), (10, .int x10_753)] → W p l e room_1 s m args below meth c H locs cells slots Q (F0 m 753 ls []) := by
          intro x9_753 x10_753 H locs ls hv753 hE hP hD hS hl
          have hE := hE.trans (FL_law_5_753.eq_1 _ _ _ _ _ _ _ _ _)
          refine lv_goto (tgt := 644) hx hb dL_law_753 (by decide) ?_
          exact ih644 x9_753 x10_753 _ _ _ (by exact zms hn c646 hv753) hE hP hD hS (lv_sub hl [0, 1, 2, 3, 4, 5, 6, 7] rfl)
        have hB655 : ∀ (n655 : Nat) (x9_655 : Int32) (x10_655 : Int32) (i11_655 : Nat) (H : Heap) (locs : List Loc) (ls : Array Slot), (i11_655 ≤ NR) → (zbits x9_655 ≤ zbits x9_644 ∧ (x10_655 = 0 ∨ zbits x9_655 + 1 ≤ zbits x9_644)) → 17 ≤ i11_655 + n655 → T = FL_law_5_655 (g11_x bab) x1 x6 x8 x9 (fun x9_644' x10_644' => FL_law_5_644 (g11_x bab) x1 x6 x8 x9 (FL_law_5_756 (g11_x bab) x1 x6 x8 x9) n644 x9_644' x10_644') (FL_law_5_756 (g11_x bab) x1 x6 x8 x9) (FL_law_5_753 (g11_x bab) x1 x6 x8 x9 (fun x9_644' x10_644' => FL_law_5_644 (g11_x bab) x1 x6 x8 x9 (FL_law_5_756 (g11_x bab) x1 x6 x8 x9) n644 x9_644' x10_644') (FL_law_5_756 (g11_x bab) x1 x6 x8 x9)) n655 x9_655 x10_655 (nI i11_655) → zP G (w8 G arc (ac 0) (ard 0) orc_thought orc_thoughtRounds orc_chain (ahi 0) orc_kept (awd 0) (apa 0) orc_rows brc :: w0 G ac bc :: w4 G ard (av 0) brd :: w6 G av bv :: w10 G atf btf :: w11 G aab NR bab :: w7 G awd bwd :: w2 G apa bpa :: w1 G ahi aik sg (nI D) un :: hcs G aik y) H → zD A (w8 G arc (ac 0) (ard 0) orc_thought orc_thoughtRounds orc_chain (ahi 0) orc_kept (awd 0) (apa 0) orc_rows brc :: w0 G ac bc :: w4 G ard (av 0) brd :: w6 G av bv :: w10 G atf btf :: w11 G aab NR bab :: w7 G awd bwd :: w2 G apa bpa :: w1 G ahi aik sg (nI D) un :: hcs G aik y) → va_S A s.heap H locs → lv_has ls 18 [(1, .int x1), (2, .ref (arc 0)), (3, .ref (atf 0)), (6, .int x6), (7, .ref (aab 0)), (8, .int x8), (9, .int x9_655), (10, .int x10_655), (11, .int (nI i11_655))] → W p l e room_1 s m args below meth c H locs cells slots Q (F0 m 655 ls []) := by
          intro n655
          induction n655 with
          | zero =>
            intro x9_655 x10_655 i11_655 H locs ls hi11_655 hv655 hn hE hP hD hS hl
            exact absurd hn (by omega)
          | succ n655 ih655 =>
            intro x9_655 x10_655 i11_655 H locs ls hi11_655 hv655 hn hE hP hD hS hl
            have hE := hE.trans (FL_law_5_655.eq_2 _ _ _ _ _ _ _ _ _ _ _ _)
            refine lv_iload hx hb dL_law_655 (lv_at hl 8 rfl) ?_
            refine lv_iload_n hx hb dL_law_657 rfl (lv_at hl 0 rfl) ?_
            refine lv_icmp_ge (tgt := 753) hx hb dL_law_658 (by decide) (fun c658 => ?_) (fun c658 => ?_)
            · have hE := hE.trans (if_pos c658)
              exact hB753 x9_655 x10_655 _ _ _ (by first | assumption | omega) hE hP hD hS (lv_sub hl [0, 1, 2, 3, 4, 5, 6, 7] rfl)
            · have hE := hE.trans (if_neg c658)
              have hl11_655 : i11_655 < NR := zlt (N := NR) hx1 (by omega) (by omega) c658
              refine lv_iload hx hb dL_law_661 (lv_at hl 6 rfl) ?_
              refine lv_iload hx hb dL_law_663 (lv_at hl 8 rfl) ?_
              obtain ⟨t665, ht665⟩ : ∃ z, FL_has x9_655 (nI i11_655) = z := ⟨_, rfl⟩
              have hE := hE.trans (bnd_eq ht665)
              have hc := c_L_has l G x9_655 (nI i11_655) _ ht665
              refine zgoR (va_runS (As := [.int x9_655, .int (nI i11_655)]) (rest := []) S (hc _) (va_cwS 2 S.2.2.2.2 gL_law_L_has rfl rfl rfl (by decide +kernel) ⟨Nat.le_of_ble_eq_true rfl, Nat.le_of_ble_eq_true rfl⟩) (zpS hK hP hD (is := []) rfl rfl) rfl rfl hl.1 rfl (lv_room (Nat.le_of_ble_eq_true rfl)) dL_law_665 ⟨hcl, hsl⟩) (fun hn665 => ?_)
              refine lv_if_ne (tgt := 674) hx hb dL_law_668 (by decide) (fun c668 => ?_) (fun c668 => ?_)
              · have hE := hE.trans (if_neg c668)
                refine lv_iconst (v := 0) hx hb dL_law_674 (by decide) ?_
                refine lv_istore (lv' := [(12, .int 0), (1, .int x1), (2, .ref (arc 0)), (3, .ref (atf 0)), (6, .int x6), (7, .ref (aab 0)), (8, .int x8), (9, .int x9_655), (10, .int x10_655), (11, .int (nI i11_655))]) hx hb dL_law_675 hl (by decide) rfl (fun ls hl => ?_)
                refine lv_iconst (v := 0) hx hb dL_law_677 (by decide) ?_
                have hB725 : ∀ (x12_725 : Int32) (H : Heap) (locs : List Loc) (ls : Array Slot), T = FL_law_5_725 (g11_x bab) x1 x6 x8 x9 (fun x9_644' x10_644' => FL_law_5_644 (g11_x bab) x1 x6 x8 x9 (FL_law_5_756 (g11_x bab) x1 x6 x8 x9) n644 x9_644' x10_644') (FL_law_5_756 (g11_x bab) x1 x6 x8 x9) (fun x9_655' x10_655' x11_655' => FL_law_5_655 (g11_x bab) x1 x6 x8 x9 (fun x9_644' x10_644' => FL_law_5_644 (g11_x bab) x1 x6 x8 x9 (FL_law_5_756 (g11_x bab) x1 x6 x8 x9) n644 x9_644' x10_644') (FL_law_5_756 (g11_x bab) x1 x6 x8 x9) (FL_law_5_753 (g11_x bab) x1 x6 x8 x9 (fun x9_644' x10_644' => FL_law_5_644 (g11_x bab) x1 x6 x8 x9 (FL_law_5_756 (g11_x bab) x1 x6 x8 x9) n644 x9_644' x10_644') (FL_law_5_756 (g11_x bab) x1 x6 x8 x9)) n655 x9_655' x10_655' x11_655') (FL_law_5_753 (g11_x bab) x1 x6 x8 x9 (fun x9_644' x10_644' => FL_law_5_644 (g11_x bab) x1 x6 x8 x9 (FL_law_5_756 (g11_x bab) x1 x6 x8 x9) n644 x9_644' x10_644') (FL_law_5_756 (g11_x bab) x1 x6 x8 x9)) x9_655 x10_655 (nI i11_655) x12_725 → zP G (w8 G arc (ac 0) (ard 0) orc_thought orc_thoughtRounds orc_chain (ahi 0) orc_kept (awd 0) (apa 0) orc_rows brc :: w0 G ac bc :: w4 G ard (av 0) brd :: w6 G av bv :: w10 G atf btf :: w11 G aab NR bab :: w7 G awd bwd :: w2 G apa bpa :: w1 G ahi aik sg (nI D) un :: hcs G aik y) H → zD A (w8 G arc (ac 0) (ard 0) orc_thought orc_thoughtRounds orc_chain (ahi 0) orc_kept (awd 0) (apa 0) orc_rows brc :: w0 G ac bc :: w4 G ard (av 0) brd :: w6 G av bv :: w10 G atf btf :: w11 G aab NR bab :: w7 G awd bwd :: w2 G apa bpa :: w1 G ahi aik sg (nI D) un :: hcs G aik y) → va_S A s.heap H locs → lv_has ls 18 [(1, .int x1), (2, .ref (arc 0)), (3, .ref (atf 0)), (6, .int x6), (7, .ref (aab 0)), (8, .int x8), (9, .int x9_655), (10, .int x10_655), (11, .int (nI i11_655)), (12, .int x12_725)] → W p l e room_1 s m args below meth c H locs cells slots Q (F0 m 725 ls []) := by
                  intro x12_725 H locs ls hE hP hD hS hl
                  have hE := hE.trans (FL_law_5_725.eq_1 _ _ _ _ _ _ _ _ _ _ _ _ _)
                  refine lv_iload hx hb dL_law_725 (lv_at hl 9 rfl) ?_
                  refine lv_if_eq (tgt := 733) hx hb dL_law_727 (by decide) (fun c727 => ?_) (fun c727 => ?_)
                  · have hE := hE.trans (if_pos c727)
                    refine lv_iload hx hb dL_law_733 (lv_at hl 6 rfl) ?_
                    refine lv_iconst (v := 1) hx hb dL_law_735 (by decide) ?_
                    refine lv_iload hx hb dL_law_736 (lv_at hl 8 rfl) ?_
                    refine lv_ishl hx hb dL_law_738 ?_
                    refine lv_iconst (v := (-1)) hx hb dL_law_739 (by decide) ?_
                    refine lv_ixor hx hb dL_law_740 ?_
                    refine lv_iand hx hb dL_law_741 ?_
                    refine lv_istore (lv' := [(9, .int (x9_655 &&& ((1 <<< ((nI i11_655) &&& 31)) ^^^ (-1)))), (1, .int x1), (2, .ref (arc 0)), (3, .ref (atf 0)), (6, .int x6), (7, .ref (aab 0)), (8, .int x8), (10, .int x10_655), (11, .int (nI i11_655)), (12, .int x12_725)]) hx hb dL_law_742 hl (by decide) rfl (fun ls hl => ?_)
                    refine lv_iconst (v := 1) hx hb dL_law_744 (by decide) ?_
                    refine lv_istore (lv' := [(10, .int 1), (9, .int (x9_655 &&& ((1 <<< ((nI i11_655) &&& 31)) ^^^ (-1)))), (1, .int x1), (2, .ref (arc 0)), (3, .ref (atf 0)), (6, .int x6), (7, .ref (aab 0)), (8, .int x8), (11, .int (nI i11_655)), (12, .int x12_725)]) hx hb dL_law_745 hl (by decide) rfl (fun ls hl => ?_)
                    refine lv_iinc (v := (nI (i11_655 + 1))) (lv' := [(11, .int (nI (i11_655 + 1))), (10, .int 1), (9, .int (x9_655 &&& ((1 <<< ((nI i11_655) &&& 31)) ^^^ (-1)))), (1, .int x1), (2, .ref (arc 0)), (3, .ref (atf 0)), (6, .int x6), (7, .ref (aab 0)), (8, .int x8), (12, .int x12_725)]) hx hb dL_law_747 hl (k := 8) rfl (nI_1 i11_655) (by decide) rfl (fun ls hl => ?_)
                    try rw [nI_1 i11_655] at hE
                    refine lv_goto (tgt := 655) hx hb dL_law_750 (by decide) ?_
                    exact ih655 (x9_655 &&& ((1 <<< ((nI i11_655) &&& 31)) ^^^ (-1))) 1 (i11_655 + 1) _ _ _ (by first | assumption | omega) (by first | assumption | exact ⟨Nat.le_refl _, Or.inl rfl⟩ | exact zmr (by rw [ht665]; exact c668) hl11_655 hNR hv655) (by omega) hE hP hD hS (lv_sub hl [3, 4, 5, 6, 7, 8, 2, 1, 0] rfl)
                  · have hE := hE.trans (if_neg c727)
                    refine lv_goto (tgt := 747) hx hb dL_law_730 (by decide) ?_
                    refine lv_iinc (v := (nI (i11_655 + 1))) (lv' := [(11, .int (nI (i11_655 + 1))), (1, .int x1), (2, .ref (arc 0)), (3, .ref (atf 0)), (6, .int x6), (7, .ref (aab 0)), (8, .int x8), (9, .int x9_655), (10, .int x10_655), (12, .int x12_725)]) hx hb dL_law_747 hl (k := 8) rfl (nI_1 i11_655) (by decide) rfl (fun ls hl => ?_)
                    try rw [nI_1 i11_655] at hE
                    refine lv_goto (tgt := 655) hx hb dL_law_750 (by decide) ?_
                    exact ih655 x9_655 x10_655 (i11_655 + 1) _ _ _ (by first | assumption | omega) (by first | assumption | exact ⟨Nat.le_refl _, Or.inl rfl⟩ | exact zmr (by rw [ht665]; exact c668) hl11_655 hNR hv655) (by omega) hE hP hD hS (lv_sub hl [1, 2, 3, 4, 5, 6, 7, 8, 0] rfl)
                have hB680 : ∀ (n680 : Nat) (x12_680 : Int32) (i13_680 : Nat) (H : Heap) (locs : List Loc) (ls : Array Slot), (i13_680 ≤ NR) → 17 ≤ i13_680 + n680 → T = FL_law_5_680 (g11_x bab) x1 x6 x8 x9 (fun x9_644' x10_644' => FL_law_5_644 (g11_x bab) x1 x6 x8 x9 (FL_law_5_756 (g11_x bab) x1 x6 x8 x9) n644 x9_644' x10_644') (FL_law_5_756 (g11_x bab) x1 x6 x8 x9) (fun x9_655' x10_655' x11_655' => FL_law_5_655 (g11_x bab) x1 x6 x8 x9 (fun x9_644' x10_644' => FL_law_5_644 (g11_x bab) x1 x6 x8 x9 (FL_law_5_756 (g11_x bab) x1 x6 x8 x9) n644 x9_644' x10_644') (FL_law_5_756 (g11_x bab) x1 x6 x8 x9) (FL_law_5_753 (g11_x bab) x1 x6 x8 x9 (fun x9_644' x10_644' => FL_law_5_644 (g11_x bab) x1 x6 x8 x9 (FL_law_5_756 (g11_x bab) x1 x6 x8 x9) n644 x9_644' x10_644') (FL_law_5_756 (g11_x bab) x1 x6 x8 x9)) n655 x9_655' x10_655' x11_655') (FL_law_5_753 (g11_x bab) x1 x6 x8 x9 (fun x9_644' x10_644' => FL_law_5_644 (g11_x bab) x1 x6 x8 x9 (FL_law_5_756 (g11_x bab) x1 x6 x8 x9) n644 x9_644' x10_644') (FL_law_5_756 (g11_x bab) x1 x6 x8 x9)) (FL_law_5_725 (g11_x bab) x1 x6 x8 x9 (fun x9_644' x10_644' => FL_law_5_644 (g11_x bab) x1 x6 x8 x9 (FL_law_5_756 (g11_x bab) x1 x6 x8 x9) n644 x9_644' x10_644') (FL_law_5_756 (g11_x bab) x1 x6 x8 x9) (fun x9_655' x10_655' x11_655' => FL_law_5_655 (g11_x bab) x1 x6 x8 x9 (fun x9_644' x10_644' => FL_law_5_644 (g11_x bab) x1 x6 x8 x9 (FL_law_5_756 (g11_x bab) x1 x6 x8 x9) n644 x9_644' x10_644') (FL_law_5_756 (g11_x bab) x1 x6 x8 x9) (FL_law_5_753 (g11_x bab) x1 x6 x8 x9 (fun x9_644' x10_644' => FL_law_5_644 (g11_x bab) x1 x6 x8 x9 (FL_law_5_756 (g11_x bab) x1 x6 x8 x9) n644 x9_644' x10_644') (FL_law_5_756 (g11_x bab) x1 x6 x8 x9)) n655 x9_655' x10_655' x11_655') (FL_law_5_753 (g11_x bab) x1 x6 x8 x9 (fun x9_644' x10_644' => FL_law_5_644 (g11_x bab) x1 x6 x8 x9 (FL_law_5_756 (g11_x bab) x1 x6 x8 x9) n644 x9_644' x10_644') (FL_law_5_756 (g11_x bab) x1 x6 x8 x9))) n680 x9_655 x10_655 (nI i11_655) x12_680 (nI i13_680) → zP G (w8 G arc (ac 0) (ard 0) orc_thought orc_thoughtRounds orc_chain (ahi 0) orc_kept (awd 0) (apa 0) orc_rows brc :: w0 G ac bc :: w4 G ard (av 0) brd :: w6 G av bv :: w10 G atf btf :: w11 G aab NR bab :: w7 G awd bwd :: w2 G apa bpa :: w1 G ahi aik sg (nI D) un :: hcs G aik y) H → zD A (w8 G arc (ac 0) (ard 0) orc_thought orc_thoughtRounds orc_chain (ahi 0) orc_kept (awd 0) (apa 0) orc_rows brc :: w0 G ac bc :: w4 G ard (av 0) brd :: w6 G av bv :: w10 G atf btf :: w11 G aab NR bab :: w7 G awd bwd :: w2 G apa bpa :: w1 G ahi aik sg (nI D) un :: hcs G aik y) → va_S A s.heap H locs → lv_has ls 18 [(1, .int x1), (2, .ref (arc 0)), (3, .ref (atf 0)), (6, .int x6), (7, .ref (aab 0)), (8, .int x8), (9, .int x9_655), (10, .int x10_655), (11, .int (nI i11_655)), (12, .int x12_680), (13, .int (nI i13_680))] → W p l e room_1 s m args below meth c H locs cells slots Q (F0 m 680 ls []) := by
                  intro n680
                  induction n680 with
                  | zero =>
                    intro x12_680 i13_680 H locs ls hi13_680 hn hE hP hD hS hl
                    exact absurd hn (by omega)
                  | succ n680 ih680 =>
                    intro x12_680 i13_680 H locs ls hi13_680 hn hE hP hD hS hl
                    have hE := hE.trans (FL_law_5_680.eq_2 _ _ _ _ _ _ _ _ _ _ _ _ _ _ _ _)
                    refine lv_iload hx hb dL_law_680 (lv_at hl 10 rfl) ?_
                    refine lv_iload_n hx hb dL_law_682 rfl (lv_at hl 0 rfl) ?_
                    refine lv_icmp_ge (tgt := 725) hx hb dL_law_683 (by decide) (fun c683 => ?_) (fun c683 => ?_)
                    · have hE := hE.trans (if_pos c683)
                      exact hB725 x12_680 _ _ _ hE hP hD hS (lv_sub hl [0, 1, 2, 3, 4, 5, 6, 7, 8, 9] rfl)
                    · have hE := hE.trans (if_neg c683)
                      have hl13_680 : i13_680 < NR := zlt (N := NR) hx1 (by omega) (by omega) c683
                      refine lv_iload hx hb dL_law_686 (lv_at hl 9 rfl) ?_
                      refine lv_iload hx hb dL_law_688 (lv_at hl 6 rfl) ?_
                      refine lv_iload hx hb dL_law_690 (lv_at hl 10 rfl) ?_
                      obtain ⟨t692, ht692⟩ : ∃ z, FL_has x9_655 (nI i13_680) = z := ⟨_, rfl⟩
                      have hE := hE.trans (bnd_eq ht692)
                      have hc := c_L_has l G x9_655 (nI i13_680) _ ht692
                      refine zgoR (va_runS (As := [.int x9_655, .int (nI i13_680)]) (rest := [.int x12_680]) S (hc _) (va_cwS 2 S.2.2.2.2 gL_law_L_has rfl rfl rfl (by decide +kernel) ⟨Nat.le_of_ble_eq_true rfl, Nat.le_of_ble_eq_true rfl⟩) (zpS hK hP hD (is := []) rfl rfl) rfl rfl hl.1 rfl (lv_room (Nat.le_of_ble_eq_true rfl)) dL_law_692 ⟨hcl, hsl⟩) (fun hn692 => ?_)
                      have hB715 : ∀ (H : Heap) (locs : List Loc) (ls : Array Slot), T = FL_law_5_715 (g11_x bab) x1 x6 x8 x9 (fun x9_644' x10_644' => FL_law_5_644 (g11_x bab) x1 x6 x8 x9 (FL_law_5_756 (g11_x bab) x1 x6 x8 x9) n644 x9_644' x10_644') (FL_law_5_756 (g11_x bab) x1 x6 x8 x9) (fun x9_655' x10_655' x11_655' => FL_law_5_655 (g11_x bab) x1 x6 x8 x9 (fun x9_644' x10_644' => FL_law_5_644 (g11_x bab) x1 x6 x8 x9 (FL_law_5_756 (g11_x bab) x1 x6 x8 x9) n644 x9_644' x10_644') (FL_law_5_756 (g11_x bab) x1 x6 x8 x9) (FL_law_5_753 (g11_x bab) x1 x6 x8 x9 (fun x9_644' x10_644' => FL_law_5_644 (g11_x bab) x1 x6 x8 x9 (FL_law_5_756 (g11_x bab) x1 x6 x8 x9) n644 x9_644' x10_644') (FL_law_5_756 (g11_x bab) x1 x6 x8 x9)) n655 x9_655' x10_655' x11_655') (FL_law_5_753 (g11_x bab) x1 x6 x8 x9 (fun x9_644' x10_644' => FL_law_5_644 (g11_x bab) x1 x6 x8 x9 (FL_law_5_756 (g11_x bab) x1 x6 x8 x9) n644 x9_644' x10_644') (FL_law_5_756 (g11_x bab) x1 x6 x8 x9)) (fun x9_680' x10_680' x11_680' x12_680' x13_680' => FL_law_5_680 (g11_x bab) x1 x6 x8 x9 (fun x9_644' x10_644' => FL_law_5_644 (g11_x bab) x1 x6 x8 x9 (FL_law_5_756 (g11_x bab) x1 x6 x8 x9) n644 x9_644' x10_644') (FL_law_5_756 (g11_x bab) x1 x6 x8 x9) (fun x9_655' x10_655' x11_655' => FL_law_5_655 (g11_x bab) x1 x6 x8 x9 (fun x9_644' x10_644' => FL_law_5_644 (g11_x bab) x1 x6 x8 x9 (FL_law_5_756 (g11_x bab) x1 x6 x8 x9) n644 x9_644' x10_644') (FL_law_5_756 (g11_x bab) x1 x6 x8 x9) (FL_law_5_753 (g11_x bab) x1 x6 x8 x9 (fun x9_644' x10_644' => FL_law_5_644 (g11_x bab) x1 x6 x8 x9 (FL_law_5_756 (g11_x bab) x1 x6 x8 x9) n644 x9_644' x10_644') (FL_law_5_756 (g11_x bab) x1 x6 x8 x9)) n655 x9_655' x10_655' x11_655') (FL_law_5_753 (g11_x bab) x1 x6 x8 x9 (fun x9_644' x10_644' => FL_law_5_644 (g11_x bab) x1 x6 x8 x9 (FL_law_5_756 (g11_x bab) x1 x6 x8 x9) n644 x9_644' x10_644') (FL_law_5_756 (g11_x bab) x1 x6 x8 x9)) (FL_law_5_725 (g11_x bab) x1 x6 x8 x9 (fun x9_644' x10_644' => FL_law_5_644 (g11_x bab) x1 x6 x8 x9 (FL_law_5_756 (g11_x bab) x1 x6 x8 x9) n644 x9_644' x10_644') (FL_law_5_756 (g11_x bab) x1 x6 x8 x9) (fun x9_655' x10_655' x11_655' => FL_law_5_655 (g11_x bab) x1 x6 x8 x9 (fun x9_644' x10_644' => FL_law_5_644 (g11_x bab) x1 x6 x8 x9 (FL_law_5_756 (g11_x bab) x1 x6 x8 x9) n644 x9_644' x10_644') (FL_law_5_756 (g11_x bab) x1 x6 x8 x9) (FL_law_5_753 (g11_x bab) x1 x6 x8 x9 (fun x9_644' x10_644' => FL_law_5_644 (g11_x bab) x1 x6 x8 x9 (FL_law_5_756 (g11_x bab) x1 x6 x8 x9) n644 x9_644' x10_644') (FL_law_5_756 (g11_x bab) x1 x6 x8 x9)) n655 x9_655' x10_655' x11_655') (FL_law_5_753 (g11_x bab) x1 x6 x8 x9 (fun x9_644' x10_644' => FL_law_5_644 (g11_x bab) x1 x6 x8 x9 (FL_law_5_756 (g11_x bab) x1 x6 x8 x9) n644 x9_644' x10_644') (FL_law_5_756 (g11_x bab) x1 x6 x8 x9))) n680 x9_680' x10_680' x11_680' x12_680' x13_680') (FL_law_5_725 (g11_x bab) x1 x6 x8 x9 (fun x9_644' x10_644' => FL_law_5_644 (g11_x bab) x1 x6 x8 x9 (FL_law_5_756 (g11_x bab) x1 x6 x8 x9) n644 x9_644' x10_644') (FL_law_5_756 (g11_x bab) x1 x6 x8 x9) (fun x9_655' x10_655' x11_655' => FL_law_5_655 (g11_x bab) x1 x6 x8 x9 (fun x9_644' x10_644' => FL_law_5_644 (g11_x bab) x1 x6 x8 x9 (FL_law_5_756 (g11_x bab) x1 x6 x8 x9) n644 x9_644' x10_644') (FL_law_5_756 (g11_x bab) x1 x6 x8 x9) (FL_law_5_753 (g11_x bab) x1 x6 x8 x9 (fun x9_644' x10_644' => FL_law_5_644 (g11_x bab) x1 x6 x8 x9 (FL_law_5_756 (g11_x bab) x1 x6 x8 x9) n644 x9_644' x10_644') (FL_law_5_756 (g11_x bab) x1 x6 x8 x9)) n655 x9_655' x10_655' x11_655') (FL_law_5_753 (g11_x bab) x1 x6 x8 x9 (fun x9_644' x10_644' => FL_law_5_644 (g11_x bab) x1 x6 x8 x9 (FL_law_5_756 (g11_x bab) x1 x6 x8 x9) n644 x9_644' x10_644') (FL_law_5_756 (g11_x bab) x1 x6 x8 x9))) x9_655 x10_655 (nI i11_655) (nI i13_680) x12_680 → zP G (w8 G arc (ac 0) (ard 0) orc_thought orc_thoughtRounds orc_chain (ahi 0) orc_kept (awd 0) (apa 0) orc_rows brc :: w0 G ac bc :: w4 G ard (av 0) brd :: w6 G av bv :: w10 G atf btf :: w11 G aab NR bab :: w7 G awd bwd :: w2 G apa bpa :: w1 G ahi aik sg (nI D) un :: hcs G aik y) H → zD A (w8 G arc (ac 0) (ard 0) orc_thought orc_thoughtRounds orc_chain (ahi 0) orc_kept (awd 0) (apa 0) orc_rows brc :: w0 G ac bc :: w4 G ard (av 0) brd :: w6 G av bv :: w10 G atf btf :: w11 G aab NR bab :: w7 G awd bwd :: w2 G apa bpa :: w1 G ahi aik sg (nI D) un :: hcs G aik y) → va_S A s.heap H locs → lv_has ls 18 [(1, .int x1), (2, .ref (arc 0)), (3, .ref (atf 0)), (6, .int x6), (7, .ref (aab 0)), (8, .int x8), (9, .int x9_655), (10, .int x10_655), (11, .int (nI i11_655)), (13, .int (nI i13_680))] → W p l e room_1 s m args below meth c H locs cells slots Q (F0 m 715 ls [.int x12_680]) := by
                        intro H locs ls hE hP hD hS hl
                        have hE := hE.trans (FL_law_5_715.eq_1 _ _ _ _ _ _ _ _ _ _ _ _ _ _ _ _)
                        refine lv_iconst (v := 0) hx hb dL_law_715 (by decide) ?_
                        refine lv_ior hx hb dL_law_716 ?_
                        refine lv_istore (lv' := [(12, .int (x12_680 ||| 0)), (1, .int x1), (2, .ref (arc 0)), (3, .ref (atf 0)), (6, .int x6), (7, .ref (aab 0)), (8, .int x8), (9, .int x9_655), (10, .int x10_655), (11, .int (nI i11_655)), (13, .int (nI i13_680))]) hx hb dL_law_717 hl (by decide) rfl (fun ls hl => ?_)
                        refine lv_iinc (v := (nI (i13_680 + 1))) (lv' := [(13, .int (nI (i13_680 + 1))), (12, .int (x12_680 ||| 0)), (1, .int x1), (2, .ref (arc 0)), (3, .ref (atf 0)), (6, .int x6), (7, .ref (aab 0)), (8, .int x8), (9, .int x9_655), (10, .int x10_655), (11, .int (nI i11_655))]) hx hb dL_law_719 hl (k := 10) rfl (nI_1 i13_680) (by decide) rfl (fun ls hl => ?_)
                        try rw [nI_1 i13_680] at hE
                        refine lv_goto (tgt := 680) hx hb dL_law_722 (by decide) ?_
                        exact ih680 (x12_680 ||| 0) (i13_680 + 1) _ _ _ (by first | assumption | omega) (by omega) hE hP hD hS (lv_sub hl [2, 3, 4, 5, 6, 7, 8, 9, 10, 1, 0] rfl)
                      refine lv_if_eq (tgt := 715) hx hb dL_law_695 (by decide) (fun c695 => ?_) (fun c695 => ?_)
                      · have hE := hE.trans (if_pos c695)
                        exact hB715 _ _ _ hE hP hD hS (lv_sub hl [0, 1, 2, 3, 4, 5, 6, 7, 8, 10] rfl)
                      · have hE := hE.trans (if_neg c695)
                        refine lv_aload hx hb dL_law_698 (lv_at hl 4 rfl) ?_
                        refine lv_iload hx hb dL_law_700 (lv_at hl 10 rfl) ?_
                        refine zl11_x S hK hP 5 rfl (vp_in_nI (by omega) (by omega)) (f := (g11_x bab)) rfl dL_law_702 ?_
                        refine lv_iload hx hb dL_law_703 (lv_at hl 8 rfl) ?_
                        obtain ⟨t705, ht705⟩ : ∃ z, FL_has ((g11_x bab) (nI i13_680).toNatClampNeg) (nI i11_655) = z := ⟨_, rfl⟩
                        have hE := hE.trans (bnd_eq ht705)
                        have hc := c_L_has l G ((g11_x bab) (nI i13_680).toNatClampNeg) (nI i11_655) _ ht705
                        refine zgoR (va_runS (As := [.int ((g11_x bab) (nI i13_680).toNatClampNeg), .int (nI i11_655)]) (rest := [.int x12_680]) S (hc _) (va_cwS 2 S.2.2.2.2 gL_law_L_has rfl rfl rfl (by decide +kernel) ⟨Nat.le_of_ble_eq_true rfl, Nat.le_of_ble_eq_true rfl⟩) (zpS hK hP hD (is := []) rfl rfl) rfl rfl hl.1 rfl (lv_room (Nat.le_of_ble_eq_true rfl)) dL_law_705 ⟨hcl, hsl⟩) (fun hn705 => ?_)
                        refine lv_if_eq (tgt := 715) hx hb dL_law_708 (by decide) (fun c708 => ?_) (fun c708 => ?_)
                        · have hE := hE.trans (if_pos c708)
                          exact hB715 _ _ _ hE hP hD hS (lv_sub hl [0, 1, 2, 3, 4, 5, 6, 7, 8, 10] rfl)
                        · have hE := hE.trans (if_neg c708)
                          refine lv_iconst (v := 1) hx hb dL_law_711 (by decide) ?_
                          refine lv_goto (tgt := 716) hx hb dL_law_712 (by decide) ?_
                          refine lv_ior hx hb dL_law_716 ?_
                          refine lv_istore (lv' := [(12, .int (x12_680 ||| 1)), (1, .int x1), (2, .ref (arc 0)), (3, .ref (atf 0)), (6, .int x6), (7, .ref (aab 0)), (8, .int x8), (9, .int x9_655), (10, .int x10_655), (11, .int (nI i11_655)), (13, .int (nI i13_680))]) hx hb dL_law_717 hl (by decide) rfl (fun ls hl => ?_)
                          refine lv_iinc (v := (nI (i13_680 + 1))) (lv' := [(13, .int (nI (i13_680 + 1))), (12, .int (x12_680 ||| 1)), (1, .int x1), (2, .ref (arc 0)), (3, .ref (atf 0)), (6, .int x6), (7, .ref (aab 0)), (8, .int x8), (9, .int x9_655), (10, .int x10_655), (11, .int (nI i11_655))]) hx hb dL_law_719 hl (k := 10) rfl (nI_1 i13_680) (by decide) rfl (fun ls hl => ?_)
                          try rw [nI_1 i13_680] at hE
                          refine lv_goto (tgt := 680) hx hb dL_law_722 (by decide) ?_
                          exact ih680 (x12_680 ||| 1) (i13_680 + 1) _ _ _ (by first | assumption | omega) (by omega) hE hP hD hS (lv_sub hl [2, 3, 4, 5, 6, 7, 8, 9, 10, 1, 0] rfl)
                refine lv_istore (lv' := [(13, .int 0), (12, .int 0), (1, .int x1), (2, .ref (arc 0)), (3, .ref (atf 0)), (6, .int x6), (7, .ref (aab 0)), (8, .int x8), (9, .int x9_655), (10, .int x10_655), (11, .int (nI i11_655))]) hx hb dL_law_678 hl (by decide) rfl (fun ls hl => ?_)
                exact hB680 17 0 0 _ _ _ (by first | assumption | omega) (by omega) hE hP hD hS (lv_sub hl [2, 3, 4, 5, 6, 7, 8, 9, 10, 1, 0] rfl)
              · have hE := hE.trans (if_pos c668)
                refine lv_goto (tgt := 747) hx hb dL_law_671 (by decide) ?_
                refine lv_iinc (v := (nI (i11_655 + 1))) (lv' := [(11, .int (nI (i11_655 + 1))), (1, .int x1), (2, .ref (arc 0)), (3, .ref (atf 0)), (6, .int x6), (7, .ref (aab 0)), (8, .int x8), (9, .int x9_655), (10, .int x10_655)]) hx hb dL_law_747 hl (k := 8) rfl (nI_1 i11_655) (by decide) rfl (fun ls hl => ?_)
                try rw [nI_1 i11_655] at hE
                refine lv_goto (tgt := 655) hx hb dL_law_750 (by decide) ?_
                exact ih655 x9_655 x10_655 (i11_655 + 1) _ _ _ (by first | assumption | omega) (by first | assumption | exact ⟨Nat.le_refl _, Or.inl rfl⟩ | exact zmr (by rw [ht665]; exact c668) hl11_655 hNR hv655) (by omega) hE hP hD hS (lv_sub hl [1, 2, 3, 4, 5, 6, 7, 8, 0] rfl)
        refine lv_istore (lv' := [(11, .int 0), (10, .int 0), (1, .int x1), (2, .ref (arc 0)), (3, .ref (atf 0)), (6, .int x6), (7, .ref (aab 0)), (8, .int x8), (9, .int x9_644)]) hx hb dL_law_653 hl (by decide) rfl (fun ls hl => ?_)
        exact hB655 17 x9_644 0 0 _ _ _ (by first | assumption | omega) (by first | assumption | exact ⟨Nat.le_refl _, Or.inl rfl⟩ | exact zmr (by rw [ht665]; exact c668) hl11_655 hNR hv655) (by omega) hE hP hD hS (lv_sub hl [2, 3, 4, 5, 6, 7, 8, 1, 0] rfl)
  refine lv_istore (lv' := [(10, .int 1), (1, .int x1), (2, .ref (arc 0)), (3, .ref (atf 0)), (6, .int x6), (7, .ref (aab 0)), (8, .int x8), (9, .int x9)]) hx hb dL_law_642 hl (by decide) rfl (fun ls hl => ?_)
  exact hB644 23 x9 1 _ _ _ (by exact ⟨Or.inr (zms0 _), by decide⟩) hE hP hD hS (lv_sub hl [1, 2, 3, 4, 5, 6, 7, 0] rfl)
