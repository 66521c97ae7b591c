section ZLAWR
variable {p : Program} {l : Launch} {e : Env} {s : State} {m : MethodId} {below : List Frame} {meth : Method} {c : Code} {b L : Nat} {xs : Nat → Int32} {G : zG} {A : Nat → Prop} {NR k : Nat} {of : Nat → Int32}
set_option maxHeartbeats 4000000 in
set_option maxRecDepth 100000 in
theorem law_rounds (arc ac ard av awd apa ahi : Nat → Nat) (aik : Nat → Nat → Nat) (ot oth och ok oro : Nat) (brc : S8) (bc : S0) (brd : S4) (bv : S6) (bwd : S7) (bpa : S2) (sg : Nat → Nat) (y : Nat → S0) (D : Nat) (un : Int32) (hN : NR ≤ 10) (hset : ¬ g8_isSettled brc = 0) (hsz : g0_size bc = nI NR) (hhd : ∀ r : Nat, r < 16 → vp_in (g0_head bc r) 20) (hh : zSC (g0_kind bc) (g0_head bc) (g0_body bc) (g0_excepts bc) (g0_power bc) (g0_beats bc) of (g0_facts bc) NR k (g4_came brd) (g6_known bv) (g6_allFor bv)) (hw : zVw NR (g0_kind bc) (g0_head bc) (g0_power bc) of (g0_beats bc) (g0_facts bc) (g6_strictFor bv) (g6_forwardFor bv) (g6_allFor bv) (g6_above bv) (g6_facts bv)) (hg : zWg NR (g0_body bc) (g0_excepts bc) (g6_known bv) (g6_applies bv) (g6_falls bv) (g6_sureBodies bv) (g6_neverBodies bv)) (hB : zBt NR (g0_beats bc)) (S : CallFix p m c cL_law 18 s #[Value.ref b] wsL_law RL) (hr : meth.sig.returnType = ret) (hlocks : meth.locks = false) (hK : zK G s) (hA : ∀ q, s.heap.size ≤ q → A q) (hA2 : ∀ q, A q → s.heap.size ≤ q) (hcl : va_Nw (.castable "[I" "java/lang/Cloneable") s) : ∀ (n ρ cells slots : Nat) (atf : Nat → Nat) (btf : S10) (H : Heap) (locs : List Loc) (ls : Array Slot), ρ + n = k + 2 → 1 ≤ ρ → cells + n ≤ 1000 → slots + 4 * n ≤ 10000 → (∀ t : Nat, t < 4 → zM (g10_x btf t) 20 (zah (g4_came brd) ρ t)) → zP G (w8 G arc (ac 0) (ard 0) ot oth och (ahi 0) ok (awd 0) (apa 0) oro brc :: w0 G ac bc :: w4 G ard (av 0) brd :: w6 G av bv :: w10 G atf btf :: w7 G awd bwd :: w2 G apa bpa :: w1 G ahi aik sg (nI D) un :: hcs G aik y) H → zD A (w8 G arc (ac 0) (ard 0) ot oth och (ahi 0) ok (awd 0) (apa 0) oro brc :: w0 G ac bc :: w4 G ard (av 0) brd :: w6 G av bv :: w10 G atf btf :: w7 G awd bwd :: w2 G apa bpa :: w1 G ahi aik sg (nI D) un :: hcs G aik y) → va_S A s.heap H locs → lv_has ls 18 [(1, .int (nI NR)), (2, .ref (arc 0)), (3, .ref (atf 0)), (4, .int (nI k)), (5, .int (nI ρ))] → W p l e room_1 s m #[Value.ref b] below meth c H locs cells slots (lw_Z below #[Value.ref b] s) (F0 m 39 ls []) := by
  have hx := S.1
  have hb := S.2.1
  have hk := hh.2.1
  have hr0 : ∀ a : Nat, a ≤ 100001 → a ≤ room_1.cells := fun a h => Nat.le_trans h (Nat.le_of_ble_eq_true rfl)
  have hr1 : ∀ a : Nat, a ≤ 100010 → a ≤ room_1.slots := fun a h => Nat.le_trans h (Nat.le_of_ble_eq_true rfl)
  have hcz : ∃ N : Nat, N ≤ 16 ∧ g0_size bc = nI N := ⟨NR, by omega, hsz⟩
  intro n
  induction n with
  | zero =>
    intro ρ cells slots atf btf H locs ls h1 h2 h3 h4 hT hP hD hS hl
    refine lv_iload hx hb dL_law_39 (lv_at hl 4 rfl) ?_
    refine lv_iload hx hb dL_law_41 (lv_at hl 3 rfl) ?_
    refine lv_iconst (v := 1) hx hb dL_law_43 (by decide) ?_
    refine lv_iadd hx hb dL_law_44 ?_
    rw [nI_1]
    refine lv_icmp_gt (tgt := 256) hx hb dL_law_45 (by decide) (fun c0 => ?_) (fun c0 => ?_)
    · refine law_end arc ac ard av atf awd apa ahi aik ot oth och ok oro brc bc brd bv btf bwd bpa sg y D un hN hset hsz hhd hh hw hg hB S hr hlocks hK hA hA2 (by omega) (by omega) (fun t ht => zM_ext (hT t ht) (fun q hq => ?_)) hP hD hS (lv_sub hl [0, 1, 2] rfl)
      obtain ⟨g, hg1, e1⟩ := hh.2.2.2.2.2.1.1 (20 * t + q) (by omega)
      rw [zah_nI e1 (by omega) (by omega), zah_nI e1 (by omega) (by omega), decide_eq_true (show g < ρ by omega), decide_eq_true (show g < k + 1 by omega)]
    · exact absurd (nI_lt (a := k + 1) (b := ρ) (by omega) (by omega)) c0
  | succ n ih =>
    intro ρ cells slots atf btf H locs ls h1 h2 h3 h4 hT hP hD hS hl
    refine lv_iload hx hb dL_law_39 (lv_at hl 4 rfl) ?_
    refine lv_iload hx hb dL_law_41 (lv_at hl 3 rfl) ?_
    refine lv_iconst (v := 1) hx hb dL_law_43 (by decide) ?_
    refine lv_iadd hx hb dL_law_44 ?_
    rw [nI_1]
    refine lv_icmp_gt (tgt := 256) hx hb dL_law_45 (by decide) (fun c0 => ?_) (fun c0 => ?_)
    · rw [nI_ltI (by omega) (by omega)] at c0
      omega
    · refine lv_aload_n hx hb dL_law_48 rfl (lv_at hl 2 rfl) ?_
      refine zg_clone (index := 60) (index2 := 61) S (by decide +kernel) (by decide +kernel) (by decide +kernel) (by decide +kernel) (by decide +kernel) (by decide +kernel) hcl hl.1 hK hP hD hS hA 4 rfl 0 rfl (Nat.le_of_ble_eq_true rfl) (Nat.le_of_ble_eq_true rfl) (hr0 _ (by omega)) (hr1 _ (by omega)) dL_law_49 dL_law_52 (fun q6 H hP hD hS => ?_)
      refine lv_astore (lv' := [(6, .ref q6), (1, .int (nI NR)), (2, .ref (arc 0)), (3, .ref (atf 0)), (4, .int (nI k)), (5, .int (nI ρ))]) hx hb dL_law_55 hl (by decide) rfl (fun ls hl => ?_)
      have hP2 : zP G (w8 G arc (ac 0) (ard 0) ot oth och (ahi 0) ok (awd 0) (apa 0) oro brc :: w0 G ac bc :: w4 G ard (av 0) brd :: w6 G av bv :: w10 G atf btf :: w10 G (zad [q6]) (g10_x btf) :: w7 G awd bwd :: w2 G apa bpa :: w1 G ahi aik sg (nI D) un :: hcs G aik y) H := zP.sub hP (is := [0, 1, 2, 3, 4, 21, 5, 6, 7, 8, 9, 10, 11, 12, 13, 14, 15, 16, 17, 18, 19, 20]) rfl
      have hD2 : zD A (w8 G arc (ac 0) (ard 0) ot oth och (ahi 0) ok (awd 0) (apa 0) oro brc :: w0 G ac bc :: w4 G ard (av 0) brd :: w6 G av bv :: w10 G atf btf :: w10 G (zad [q6]) (g10_x btf) :: w7 G awd bwd :: w2 G apa bpa :: w1 G ahi aik sg (nI D) un :: hcs G aik y) := zD.sub hD [0, 1, 2, 3, 4, 21, 5, 6, 7, 8, 9, 10, 11, 12, 13, 14, 15, 16, 17, 18, 19, 20] (by decide) rfl
      obtain ⟨n2, hn2, e1⟩ := q_seg1 (c_shut := g0_shut bc) (x1 := nI NR) (tf := g10_x btf) (nx := g10_x btf) hh h2 (by omega) hT (fun _ _ => rfl)
      refine seg_L_law_1 G arc ac ard av atf (zad [q6]) awd apa ahi aik ot oth och ok oro brc bc brd bv btf (g10_x btf) bwd bpa sg y D un (nI NR) (nI k) (nI ρ) hhd hcz hset (1, n2) (by rw [hsz]; exact e1) rfl S hK hA (hr0 _ (by omega)) (hr1 _ (by omega)) hP2 hD2 hS (lv_sub hl [1, 2, 3, 4, 5, 0] rfl) (fun H locs ls hP hD hS hl => ?_)
      refine lv_aload hx hb dL_law_247 (lv_at hl 4 rfl) ?_
      refine lv_astore_n (lv' := [(3, .ref q6), (1, .int (nI NR)), (2, .ref (arc 0)), (4, .int (nI k)), (5, .int (nI ρ)), (6, .ref q6)]) hx hb dL_law_249 rfl hl (by decide) rfl (fun ls hl => ?_)
      refine lv_iinc (v := nI (ρ + 1)) (lv' := [(5, .int (nI (ρ + 1))), (3, .ref q6), (1, .int (nI NR)), (2, .ref (arc 0)), (4, .int (nI k)), (6, .ref q6)]) hx hb dL_law_250 hl (k := 4) rfl (nI_1 ρ) (by decide) rfl (fun ls hl => ?_)
      refine lv_goto (tgt := 39) hx hb dL_law_253 (by decide) ?_
      have hP3 : zP G (w8 G arc (ac 0) (ard 0) ot oth och (ahi 0) ok (awd 0) (apa 0) oro brc :: w0 G ac bc :: w4 G ard (av 0) brd :: w6 G av bv :: w10 G (zad [q6]) n2 :: w7 G awd bwd :: w2 G apa bpa :: w1 G ahi aik sg (nI D) un :: hcs G aik y) H := zP.sub hP (is := [0, 1, 2, 3, 5, 6, 7, 8, 9, 10, 11, 12, 13, 14, 15, 16, 17, 18, 19, 20, 21]) rfl
      have hD3 : zD A (w8 G arc (ac 0) (ard 0) ot oth och (ahi 0) ok (awd 0) (apa 0) oro brc :: w0 G ac bc :: w4 G ard (av 0) brd :: w6 G av bv :: w10 G (zad [q6]) n2 :: w7 G awd bwd :: w2 G apa bpa :: w1 G ahi aik sg (nI D) un :: hcs G aik y) := zD.sub hD [0, 1, 2, 3, 5, 6, 7, 8, 9, 10, 11, 12, 13, 14, 15, 16, 17, 18, 19, 20, 21] (by decide) rfl
      exact ih (ρ + 1) (cells + 1) (slots + 4) (zad [q6]) n2 H locs ls (by omega) (by omega) (by omega) (by omega) hn2 hP3 hD3 hS (lv_sub hl [2, 3, 1, 4, 0] rfl)
end ZLAWR
