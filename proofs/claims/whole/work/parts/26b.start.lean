/-! the law: its start and its loop -/
theorem zU_start {s : State} {b : Nat} (hts : ∀ w ∈ lw_tbl, w.before #[Value.ref b] s = true) (hgv : (Jvm.Cond.and given_1 narrow_1).before #[Value.ref b] s = true) : zU (fun q : Nat => s.heap.size ≤ q) s := by
  have hg := flat_of_before _ hgv
  have hA : ∀ a : Nat, a < s.heap.size → ¬ (fun q : Nat => s.heap.size ≤ q) a := fun a h => Nat.not_le.mpr h
  obtain ⟨t, ht, hT⟩ := va_Tof (tm := (.static "RuleCourt$Paper" "MARKS" "[C")) (ty := .char) (N := 4) (f := fun j => .int (zMARKS j)) (A := fun q : Nat => s.heap.size ≤ q) (by decide) (hg (.arrayOf (.static "RuleCourt$Paper" "MARKS" "[C") .char) (by decide +kernel)) (va_eqt (hg (.eq (.length (.static "RuleCourt$Paper" "MARKS" "[C")) (.int (Int32.ofNat 4))) (by decide +kernel))) (fun j hj => match j, hj with
    | 0, _ => va_eqt (hg (.eq (.elem (.static "RuleCourt$Paper" "MARKS" "[C") (.int (Int32.ofNat 0))) (.int (zMARKS 0))) (by decide +kernel))
    | 1, _ => va_eqt (hg (.eq (.elem (.static "RuleCourt$Paper" "MARKS" "[C") (.int (Int32.ofNat 1))) (.int (zMARKS 1))) (by decide +kernel))
    | 2, _ => va_eqt (hg (.eq (.elem (.static "RuleCourt$Paper" "MARKS" "[C") (.int (Int32.ofNat 2))) (.int (zMARKS 2))) (by decide +kernel))
    | 3, _ => va_eqt (hg (.eq (.elem (.static "RuleCourt$Paper" "MARKS" "[C") (.int (Int32.ofNat 3))) (.int (zMARKS 3))) (by decide +kernel))
    | j + 4, h => absurd h (by omega)) hA
  obtain ⟨u, hu, hU⟩ := va_Tof (tm := (.static "RuleCourt$Paper" "ARROWS" "[C")) (ty := .char) (N := 3) (f := fun j => .int (zARROWS j)) (A := fun q : Nat => s.heap.size ≤ q) (by decide) (hg (.arrayOf (.static "RuleCourt$Paper" "ARROWS" "[C") .char) (by decide +kernel)) (va_eqt (hg (.eq (.length (.static "RuleCourt$Paper" "ARROWS" "[C")) (.int (Int32.ofNat 3))) (by decide +kernel))) (fun j hj => match j, hj with
    | 0, _ => va_eqt (hg (.eq (.elem (.static "RuleCourt$Paper" "ARROWS" "[C") (.int (Int32.ofNat 0))) (.int (zARROWS 0))) (by decide +kernel))
    | 1, _ => va_eqt (hg (.eq (.elem (.static "RuleCourt$Paper" "ARROWS" "[C") (.int (Int32.ofNat 1))) (.int (zARROWS 1))) (by decide +kernel))
    | 2, _ => va_eqt (hg (.eq (.elem (.static "RuleCourt$Paper" "ARROWS" "[C") (.int (Int32.ofNat 2))) (.int (zARROWS 2))) (by decide +kernel))
    | j + 3, h => absurd h (by omega)) hA
  exact ⟨t, u, va_Zof (hts (.laysStatic "RuleCourt$Paper" "MARKS" "[C") (by decide +kernel)) (hts (.initialized "RuleCourt$Paper") (by decide +kernel)) ht hA, hT, va_Zof (hts (.laysStatic "RuleCourt$Paper" "ARROWS" "[C") (by decide +kernel)) (hts (.initialized "RuleCourt$Paper") (by decide +kernel)) hu hA, hU⟩
theorem zNs_in : ∀ w ∈ zNs, w ∈ lw_tbl := by decide +kernel
theorem zK_start {s : State} {b : Nat} (hts : ∀ w ∈ lw_tbl, w.before #[Value.ref b] s = true) : ∃ G : zG, zK G s := by
  obtain ⟨c0, i0, z0⟩ := u_known (C := RX0) (T := TX0) (N := 9) (n := 9) hts wsL_in_wsX00 (hts (.instantiable RX0 9) (by decide +kernel))
  obtain ⟨c1, i1, z1⟩ := u_known (C := RX1) (T := TX1) (N := 3) (n := 3) hts wsL_in_wsX10 (hts (.instantiable RX1 3) (by decide +kernel))
  obtain ⟨c2, i2, z2⟩ := u_known (C := RX2) (T := TX2) (N := 2) (n := 2) hts wsL_in_wsX20 (hts (.instantiable RX2 2) (by decide +kernel))
  obtain ⟨c3, i3, z3⟩ := u_known (C := RX3) (T := TX3) (N := 4) (n := 4) hts wsL_in_wsX30 (hts (.instantiable RX3 4) (by decide +kernel))
  obtain ⟨c4, i4, z4⟩ := u_known (C := RX4) (T := TX4) (N := 3) (n := 3) hts wsL_in_wsX40 (hts (.instantiable RX4 3) (by decide +kernel))
  obtain ⟨c5, i5, z5⟩ := u_known (C := RX5) (T := TX5) (N := 2) (n := 2) hts wsL_in_wsX50 (hts (.instantiable RX5 2) (by decide +kernel))
  obtain ⟨c6, i6, z6⟩ := u_known (C := RX6) (T := TX6) (N := 12) (n := 12) hts wsL_in_wsX60 (hts (.instantiable RX6 12) (by decide +kernel))
  obtain ⟨c7, i7, z7⟩ := u_known (C := RX7) (T := TX7) (N := 10) (n := 10) hts wsL_in_wsX70 (hts (.instantiable RX7 10) (by decide +kernel))
  obtain ⟨c8, i8, z8⟩ := u_known (C := RX8) (T := TX8) (N := 12) (n := 12) hts wsL_in_wsX80 (hts (.instantiable RX8 12) (by decide +kernel))
  obtain ⟨c9, i9, z9⟩ := u_known (C := RX9) (T := TX9) (N := 40) (n := 40) hts wsL_in_wsX90 (hts (.instantiable RX9 40) (by decide +kernel))
  obtain ⟨D, hD⟩ : ∃ D : va_G, ∀ (k : Nat) (q : vw_C), vwCl[k]? = some q → u_Kn s q.1 q.2.1 q.2.2 (D.1 k) (D.2 k) := by
    refine ⟨(fun k => match k with
      | 0 => c0
      | 1 => c1
      | 2 => c2
      | 3 => c3
      | 4 => c4
      | 5 => c5
      | 6 => c6
      | 7 => c7
      | 8 => c8
      | _ => c9
      , fun k => match k with
      | 0 => i0
      | 1 => i1
      | 2 => i2
      | 3 => i3
      | 4 => i4
      | 5 => i5
      | 6 => i6
      | 7 => i7
      | 8 => i8
      | _ => i9
      ), ?_⟩
    intro k q hq
    match k, hq with
    | 0, hq => obtain rfl : (RX0, TX0, 9) = q := Option.some.inj (show some (RX0, TX0, 9) = some q from hq); exact z0
    | 1, hq => obtain rfl : (RX1, TX1, 3) = q := Option.some.inj (show some (RX1, TX1, 3) = some q from hq); exact z1
    | 2, hq => obtain rfl : (RX2, TX2, 2) = q := Option.some.inj (show some (RX2, TX2, 2) = some q from hq); exact z2
    | 3, hq => obtain rfl : (RX3, TX3, 4) = q := Option.some.inj (show some (RX3, TX3, 4) = some q from hq); exact z3
    | 4, hq => obtain rfl : (RX4, TX4, 3) = q := Option.some.inj (show some (RX4, TX4, 3) = some q from hq); exact z4
    | 5, hq => obtain rfl : (RX5, TX5, 2) = q := Option.some.inj (show some (RX5, TX5, 2) = some q from hq); exact z5
    | 6, hq => obtain rfl : (RX6, TX6, 12) = q := Option.some.inj (show some (RX6, TX6, 12) = some q from hq); exact z6
    | 7, hq => obtain rfl : (RX7, TX7, 10) = q := Option.some.inj (show some (RX7, TX7, 10) = some q from hq); exact z7
    | 8, hq => obtain rfl : (RX8, TX8, 12) = q := Option.some.inj (show some (RX8, TX8, 12) = some q from hq); exact z8
    | 9, hq => obtain rfl : (RX9, TX9, 40) = q := Option.some.inj (show some (RX9, TX9, 40) = some q from hq); exact z9
    | k + 10, hq => exact absurd (show k + 10 < 10 from (List.getElem?_eq_some_iff.mp hq).1) (by omega)
  obtain ⟨ci, ki, compi, f1, f2, f3⟩ := Cond.arrayClass_spec (hts (.arrayClass .int) (by decide +kernel))
  obtain ⟨compq, cq, kq, g1, g2, g3, g4, g5⟩ := Cond.arrayOver_spec (hts (.arrayOver (.object "RuleCourt$Court")) (by decide +kernel))
  obtain ⟨compa, ca, ka, h1, h2, h3, h4, h5⟩ := arrayOverA_spec (hts (.arrayOver (.array .int)) (by decide +kernel))
  refine ⟨(D, ci, cq, ca), ⟨hD, ?_⟩, ?_⟩
  · intro k q hq
    match k, hq with
    | 0, hq => obtain rfl : (ci, FieldType.int) = q := Option.some.inj (show some (ci, FieldType.int) = some q from hq); exact ⟨fun N z => ⟨(fun k h => by cases h), ki, f2, compi, f3⟩, f1⟩
    | 1, hq => obtain rfl : (cq, FieldType.object "RuleCourt$Court") = q := Option.some.inj (show some (cq, FieldType.object "RuleCourt$Court") = some q from hq); exact ⟨fun N z => ⟨(fun k h => by cases h), kq, g3, compq, g4⟩, kq, compq, g3, g4, g1, g5⟩
    | 2, hq => obtain rfl : (ca, FieldType.array .int) = q := Option.some.inj (show some (ca, FieldType.array .int) = some q from hq); exact ⟨fun N z => ⟨(fun k h => by cases h), ka, h3, compa, h4⟩, h5⟩
    | k + 3, hq => exact absurd (show k + 3 < 3 from (List.getElem?_eq_some_iff.mp hq).1) (by omega)
  · intro w hw
    have hin := zNs_in w hw
    obtain ⟨a, i, x, g, rfl⟩ := zNs_ok w hw
    exact va_Nw.of rfl (hts _ hin)
theorem zAO_start {s : State} {b : Nat} (hts : ∀ w ∈ lw_tbl, w.before #[Value.ref b] s = true) : zAO s := ⟨va_AO.of (hts (.arrayOver (.object RX0)) (by decide +kernel)), hts (.arrayOver (.array .int)) (by decide +kernel)⟩
theorem zInv_0 : zInv (fun j => j) (fun _ => zz0) 0 0 zz8 zz0 zz4 zz6 zz3 zz0 zz7 zz2 zz5 zz9 := by
  have hrel : zRel zz0 (zR9 zz9) := ⟨0, by omega, rfl, rfl, rfl, fun q _ => zb_0 q, fun r hr => absurd hr (Nat.not_lt_zero r), fun r hr => absurd hr (Nat.not_lt_zero r), fun q _ => zb_0 q, fun r _ => vp_in_nI (n := 0) (N := 20) (by decide) (by decide), fun r _ => vp_in_nI (n := 0) (N := 3) (by decide) (by decide)⟩
  refine ⟨by omega, ⟨0, rfl, rfl, fun j h => h, fun i j _ _ h => h, by omega, fun _ => zR9 zz9, qeq_r _, fun j _ => hrel, fun j hj => absurd hj (by omega)⟩, rfl, hrel, fun j _ h => absurd rfl h, ⟨fun h => absurd rfl h, fun j _ => ⟨0, by omega, rfl⟩⟩, fun j _ => ?_, Or.inl ⟨rfl, rfl⟩, ⟨⟨0, 0, by omega, by omega, rfl, rfl⟩, rfl, fun i _ _ => rfl⟩, ⟨rfl, 0, by omega, rfl, fun i h => absurd h (Nat.not_lt_zero i)⟩, fun t ht => ⟨rfl, Or.inl ?_, fun i _ => rfl⟩⟩
  · show vp_in ((0 : Int32) / 20) 4
    rw [show ((0 : Int32) / 20) = nI 0 by decide]
    exact vp_in_nI (by decide) (by decide)
  match t, ht with
  | 0, _ => rfl
  | 1, _ => rfl
  | 2, _ => rfl
  | 3, _ => rfl
  | t + 4, h => exact absurd h (by omega)
theorem zsw_sub {L i : Nat} (hL : L ≤ 3072) (hi : i ≤ 4000) (h : ¬ nI L - 6 < nI i) : i + 6 ≤ L := by
  rw [Int32.lt_iff_toInt_lt, show (6 : Int32) = nI 6 from rfl, pk_sub_toInt (by omega) (by omega), nI_toInt (by omega)] at h
  omega
theorem zand31 (x : Int32) : ∃ k : Nat, k < 32 ∧ x &&& 31 = nI k := by
  refine ⟨(x &&& 31).toBitVec.toNat, ?_, ?_⟩
  · have e : (x &&& 31).toBitVec.toNat = x.toBitVec.toNat &&& 31 := by
      rw [Int32.toBitVec_and, BitVec.toNat_and]; rfl
    rw [e]
    exact Nat.lt_succ_of_le Nat.and_le_right
  · apply Int32.toBitVec_inj.mp
    show (x &&& 31).toBitVec = BitVec.ofNat 32 (x &&& 31).toBitVec.toNat
    rw [BitVec.ofNat_toNat, BitVec.setWidth_eq]
section ZLOOP
variable {p : Program} {l : Launch} {e : Env} {s : State} {m : MethodId} {below : List Frame} {meth : Method} {c : Code} {b L : Nat} {xs : Nat → Int32} {G : zG} {A : Nat → Prop} {cells slots : Nat} {arc ac ard av ad ate atv apr apv ahi : Nat → Nat} {aik : Nat → Nat → Nat} {ak awd apa aro am : Nat → Nat}
set_option maxHeartbeats 4000000 in
set_option maxRecDepth 100000 in
theorem law_loop (S : CallFix p m c cL_law 4 s #[Value.ref b] wsL_law RL) (hr : meth.sig.returnType = ret) (hlocks : meth.locks = false) (hX : va_X b L xs s s.heap) (hbl : b < s.heap.size) (hbA : ¬ A b) (hL : L ≤ 3072) (hcl : cells ≤ room_1.cells) (hsl : slots ≤ room_1.slots) (hK : zK G s) (hU : zU A s) (hA : ∀ q, s.heap.size ≤ q → A q) (hA2 : ∀ q, A q → s.heap.size ≤ q) : ∀ (n i : Nat) (sg : Nat → Nat) (y : Nat → S0) (D : Nat) (un : Int32) (brc : S8) (bc : S0) (brd : S4) (bv : S6) (bd : S0) (bte : S4) (btv : S6) (bpr : S3) (bpv : S6) (bk : S0) (bwd : S7) (bpa : S2) (bro : S5) (bm : S9) (H : Heap) (locs : List Loc) (ls : Array Slot), i ≤ L + 6 → L + 6 < i + n → zInv sg y D un brc bc brd bv bpr bk bwd bpa bro bm → zP G (zWd G arc ac ard av ad ate atv apr apv ahi aik ak awd apa aro am sg y D un brc bc brd bv bd bte btv bpr bpv bk bwd bpa bro bm) H → zD A (zWd G arc ac ard av ad ate atv apr apv ahi aik ak awd apa aro am sg y D un brc bc brd bv bd bte btv bpr bpv bk bwd bpa bro bm) → va_S A s.heap H locs → lv_has ls 4 [(0, .ref b), (1, .ref (arc 0)), (2, .ref (am 0)), (3, .int (nI i))] → W p l e room_1 s m #[Value.ref b] below meth c H locs cells slots (lw_Z below #[Value.ref b] s) (F0 m 18 ls []) := by
  have hx := S.1
  have hb := S.2.1
  intro n
  induction n with
  | zero =>
    intro i sg y D un brc bc brd bv bd bte btv bpr bpv bk bwd bpa bro bm H locs ls h1 h2
    exact absurd h2 (by omega)
  | succ n ih =>
    intro i sg y D un brc bc brd bv bd bte btv bpr bpv bk bwd bpa bro bm H locs ls h1 h2 hI hP hD hS hl
    refine lv_iload_n hx hb dL_law_18 rfl (lv_at hl 3 rfl) ?_
    refine lv_aload_n hx hb dL_law_19 rfl (lv_at hl 0 rfl) ?_
    refine va_slen hx hb hX hbl hbA hS dL_law_20 ?_
    refine lv_bipush (v := 6) hx hb dL_law_21 (by decide) ?_
    refine lv_isub hx hb dL_law_23 ?_
    refine lv_icmp_gt (tgt := 1122) hx hb dL_law_24 (by decide) (fun _ => ?_) (fun c0 => ?_)
    · refine lv_iconst (v := 1) hx hb dL_law_1122 (by decide) ?_
      refine va_forget (fun q hq => hA2 _ (hS.2.2 q hq)) ?_
      refine W.widen (k := 600000) (n := 7302250) hcl hsl ?_
      exact lw_ret hx hb hr hlocks dL_law_1123
    · have h6 : i + 6 ≤ L := zsw_sub hL (by omega) c0
      refine lv_aload_n hx hb dL_law_27 rfl (lv_at hl 0 rfl) ?_
      refine lv_iload_n hx hb dL_law_28 rfl (lv_at hl 3 rfl) ?_
      refine va_sld hx hb hX hbl hbA hS (vp_in_nI (by omega) (by omega)) dL_law_29 ?_
      refine lv_bipush (v := 31) hx hb dL_law_30 (by decide) ?_
      refine lv_iand hx hb dL_law_32 ?_
      obtain ⟨k, hk, ek⟩ := zand31 (xs (nI i).toNatClampNeg)
      rw [ek]
      have back : ∀ (sg : Nat → Nat) (y : Nat → S0) (D : Nat) (un : Int32) (brc : S8) (bc : S0) (brd : S4) (bv : S6) (bd : S0) (bte : S4) (btv : S6) (bpr : S3) (bpv : S6) (bk : S0) (bwd : S7) (bpa : S2) (bro : S5) (bm : S9) (H : Heap) (locs : List Loc) (ls : Array Slot), zInv sg y D un brc bc brd bv bpr bk bwd bpa bro bm → zP G (zWd G arc ac ard av ad ate atv apr apv ahi aik ak awd apa aro am sg y D un brc bc brd bv bd bte btv bpr bpv bk bwd bpa bro bm) H → zD A (zWd G arc ac ard av ad ate atv apr apv ahi aik ak awd apa aro am sg y D un brc bc brd bv bd bte btv bpr bpv bk bwd bpa bro bm) → va_S A s.heap H locs → lv_has ls 4 [(0, .ref b), (1, .ref (arc 0)), (2, .ref (am 0)), (3, .int (nI i))] → W p l e room_1 s m #[Value.ref b] below meth c H locs cells slots (lw_Z below #[Value.ref b] s) (F0 m 1116 ls []) := by
        intro sg y D un brc bc brd bv bd bte btv bpr bpv bk bwd bpa bro bm H locs ls hI hP hD hS hl
        refine lv_iinc (v := nI (i + 6)) (lv' := [(3, .int (nI (i + 6))), (0, .ref b), (1, .ref (arc 0)), (2, .ref (am 0))]) hx hb dL_law_1116 hl (k := 3) rfl (nI_add i 6) (by decide) rfl (fun ls hl => ?_)
        refine lv_goto (tgt := 18) hx hb dL_law_1119 (by decide) ?_
        exact ih (i + 6) sg y D un brc bc brd bv bd bte btv bpr bpv bk bwd bpa bro bm H locs ls (by omega) (by omega) hI hP hD hS (lv_sub hl [1, 2, 3, 0] rfl)
      rcases (show k = 0 ∨ k = 1 ∨ k = 2 ∨ k = 3 ∨ k = 4 ∨ k = 5 ∨ k = 6 ∨ k = 7 ∨ k = 8 ∨ k = 9 ∨ k = 10 ∨ k = 11 ∨ k = 12 ∨ k = 13 ∨ k = 14 ∨ k = 15 ∨ k = 16 ∨ k = 17 ∨ k = 18 ∨ k = 19 ∨ k = 20 ∨ k = 21 ∨ k = 22 ∨ k = 23 ∨ k = 24 ∨ k = 25 ∨ k = 26 ∨ k = 27 ∨ k = 28 ∨ k = 29 ∨ k = 30 ∨ k = 31 by omega) with rfl | rfl | rfl | rfl | rfl | rfl | rfl | rfl | rfl | rfl | rfl | rfl | rfl | rfl | rfl | rfl | rfl | rfl | rfl | rfl | rfl | rfl | rfl | rfl | rfl | rfl | rfl | rfl | rfl | rfl | rfl | rfl
      · refine lv_tableIn (off := 139) (tgt := 172) hx hb dL_law_33 (by decide) (by decide) rfl (by decide) ?_
        exact wL_begin S hX hbl hbA hL h6 hcl hsl hK hU hA hI hP hD hS hl back
      · refine lv_tableIn (off := 152) (tgt := 185) hx hb dL_law_33 (by decide) (by decide) rfl (by decide) ?_
        exact wL_fact S hX hbl hbA hL h6 hcl hsl hK hU hA hI hP hD hS hl back
      · refine lv_tableIn (off := 185) (tgt := 218) hx hb dL_law_33 (by decide) (by decide) rfl (by decide) ?_
        exact wL_rule S hX hbl hbA hL h6 hcl hsl hK hU hA hI hP hD hS hl back
      · refine lv_tableIn (off := 248) (tgt := 281) hx hb dL_law_33 (by decide) (by decide) rfl (by decide) ?_
        exact wL_off S hX hbl hbA hL h6 hcl hsl hK hU hA hI hP hD hS hl back
      · refine lv_tableIn (off := 281) (tgt := 314) hx hb dL_law_33 (by decide) (by decide) rfl (by decide) ?_
        exact wL_strength S hX hbl hbA hL h6 hcl hsl hK hU hA hI hP hD hS hl back
      · refine lv_tableIn (off := 314) (tgt := 347) hx hb dL_law_33 (by decide) (by decide) rfl (by decide) ?_
        exact wL_over S hX hbl hbA hL h6 hcl hsl hK hU hA hI hP hD hS hl back
      · refine lv_tableIn (off := 357) (tgt := 390) hx hb dL_law_33 (by decide) (by decide) rfl (by decide) ?_
        exact wL_feed S hX hbl hbA hL h6 hcl hsl hK hU hA hI hP hD hS hl back
      · refine lv_tableIn (off := 380) (tgt := 413) hx hb dL_law_33 (by decide) (by decide) rfl (by decide) ?_
        exact wL_reads S hX hbl hbA hL h6 hcl hsl hK hU hA hI hP hD hS hl back
      · refine lv_tableIn (off := 393) (tgt := 426) hx hb dL_law_33 (by decide) (by decide) rfl (by decide) ?_
        exact wL_ruleOf S hX hbl hbA hL h6 hcl hsl hK hU hA hI hP hD hS hl back
      · refine lv_tableIn (off := 426) (tgt := 459) hx hb dL_law_33 (by decide) (by decide) rfl (by decide) ?_
        exact wL_rulesFor S hX hbl hbA hL h6 hcl hsl hK hU hA hI hP hD hS hl back
      · refine lv_tableIn (off := 449) (tgt := 482) hx hb dL_law_33 (by decide) (by decide) rfl (by decide) ?_
        exact wL_count S hX hbl hbA hL h6 hcl hsl hK hU hA hI hP hD hS hl back
      · refine lv_tableIn (off := 472) (tgt := 505) hx hb dL_law_33 (by decide) (by decide) rfl (by decide) ?_
        exact wL_tag S hX hbl hbA hL h6 hcl hsl hK hU hA hI hP hD hS hl back
      · refine lv_tableIn (off := 505) (tgt := 538) hx hb dL_law_33 (by decide) (by decide) rfl (by decide) ?_
        exact wL_tagged S hX hbl hbA hL h6 hcl hsl hK hU hA hI hP hD hS hl back
      · refine lv_tableIn (off := 538) (tgt := 571) hx hb dL_law_33 (by decide) (by decide) rfl (by decide) ?_
        exact wL_state S hX hbl hbA hL h6 hcl hsl hK hU hA hI hP hD hS hl back
      · refine lv_tableIn (off := 561) (tgt := 594) hx hb dL_law_33 (by decide) (by decide) rfl (by decide) ?_
        exact wL_sides S hX hbl hbA hL h6 hcl hsl hK hU hA hI hP hD hS hl back
      · refine lv_tableIn (off := 594) (tgt := 627) hx hb dL_law_33 (by decide) (by decide) rfl (by decide) ?_
        exact wL_proof S hX hbl hbA hL h6 hcl hsl hK hU hA hI hP hD hS hl back
      · refine lv_tableIn (off := 637) (tgt := 670) hx hb dL_law_33 (by decide) (by decide) rfl (by decide) ?_
        exact wL_prints S hX hbl hbA hL h6 hcl hsl hK hU hA hI hP hD hS hl back
      · refine lv_tableIn (off := 670) (tgt := 703) hx hb dL_law_33 (by decide) (by decide) rfl (by decide) ?_
        exact wL_paper S hX hbl hbA hL h6 hcl hsl hK hU hA hI hP hD hS hl back
      · refine lv_tableIn (off := 693) (tgt := 726) hx hb dL_law_33 (by decide) (by decide) rfl (by decide) ?_
        exact wL_would S hX hbl hbA hL h6 hcl hsl hK hU hA hI hP hD hS hl back
      · refine lv_tableIn (off := 736) (tgt := 769) hx hb dL_law_33 (by decide) (by decide) rfl (by decide) ?_
        exact wL_key S hX hbl hbA hL h6 hcl hsl hK hU hA hI hP hD hS hl back
      · refine lv_tableIn (off := 759) (tgt := 792) hx hb dL_law_33 (by decide) (by decide) rfl (by decide) ?_
        exact wL_hinges S hX hbl hbA hL h6 hcl hsl hK hU hA hI hP hD hS hl back
      · refine lv_tableIn (off := 792) (tgt := 825) hx hb dL_law_33 (by decide) (by decide) rfl (by decide) ?_
        exact wL_least S hX hbl hbA hL h6 hcl hsl hK hU hA hI hP hD hS hl back
      · refine lv_tableIn (off := 825) (tgt := 858) hx hb dL_law_33 (by decide) (by decide) rfl (by decide) ?_
        exact wL_lots S hX hbl hbA hL h6 hcl hsl hK hU hA hI hP hD hS hl back
      · refine lv_tableIn (off := 878) (tgt := 911) hx hb dL_law_33 (by decide) (by decide) rfl (by decide) ?_
        exact wL_judge S hX hbl hbA hL h6 hcl hsl hK hU hA hI hP hD hS hl back
      · refine lv_tableIn (off := 921) (tgt := 954) hx hb dL_law_33 (by decide) (by decide) rfl (by decide) ?_
        exact wL_list S hX hbl hbA hL h6 hcl hsl hK hU hA hI hP hD hS hl back
      · refine lv_tableIn (off := 954) (tgt := 987) hx hb dL_law_33 (by decide) (by decide) rfl (by decide) ?_
        exact wL_set S hX hbl hbA hL h6 hcl hsl hK hU hA hI hP hD hS hl back
      · refine lv_tableIn (off := 997) (tgt := 1030) hx hb dL_law_33 (by decide) (by decide) rfl (by decide) ?_
        exact wL_get S hX hbl hbA hL h6 hcl hsl hK hU hA hI hP hD hS hl back
      · refine lv_tableIn (off := 1031) (tgt := 1064) hx hb dL_law_33 (by decide) (by decide) rfl (by decide) ?_
        exact wL_undo S hX hbl hbA hL h6 hcl hsl hK hU hA hI hP hD hS hl back
      · refine lv_tableIn (off := 1044) (tgt := 1077) hx hb dL_law_33 (by decide) (by decide) rfl (by decide) ?_
        exact wL_redo S hX hbl hbA hL h6 hcl hsl hK hU hA hI hP hD hS hl back
      · refine lv_tableIn (off := 1057) (tgt := 1090) hx hb dL_law_33 (by decide) (by decide) rfl (by decide) ?_
        exact wL_image S hX hbl hbA hL h6 hcl hsl hK hU hA hI hP hD hS hl back
      · refine lv_tableIn (off := 1070) (tgt := 1103) hx hb dL_law_33 (by decide) (by decide) rfl (by decide) ?_
        exact wL_back S hX hbl hbA hL h6 hcl hsl hK hU hA hI hP hD hS hl back
      · refine lv_tableOut (tgt := 1116) hx hb dL_law_33 (Or.inr (by decide)) (by decide) ?_
        exact back sg y D un brc bc brd bv bd bte btv bpr bpv bk bwd bpa bro bm H locs ls hI hP hD hS hl
end ZLOOP
set_option maxHeartbeats 4000000 in
set_option maxRecDepth 100000 in
theorem law_start {p : Program} {e : Env} {s : State} {m : MethodId} {below : List Frame} {meth : Method} {c : Code} (l : Launch) {b L : Nat} {xs : Nat → Int32} (h5 : ∀ G : zG, zNew l yX5_init wsX5_init rmX5_init G 5 [.null, .null] 6 104 (fun q w => ∃ a : Nat → Nat, a 0 = q ∧ w = w5 G a zz5)) (hL : L ≤ 3072) (C0 : lw_At p s m meth c b L xs) : W p l e room_1 s m #[Value.ref b] below meth c s.heap [] 0 0 (lw_Z below #[Value.ref b] s) (entryFrame m ([Value.ref b] : List Value).toArray 4) := by
  obtain ⟨hx, hb, hr, hml, hown, hts, hX, hbl, hlocks, hgv⟩ := id C0
  have S : CallFix p m c cL_law 4 s #[Value.ref b] wsL_law RL := ⟨hx, hb, hml, hown, fun w hw => hts w (wsL_in w hw)⟩
  obtain ⟨G, hK⟩ := zK_start hts
  have hAO := zAO_start hts
  have hU := zU_start hts hgv
  generalize hAe : (fun q : Nat => s.heap.size ≤ q) = A at hU
  have hA : ∀ q : Nat, s.heap.size ≤ q → A q := fun q h => by rw [← hAe]; exact h
  have hA2 : ∀ q : Nat, A q → s.heap.size ≤ q := fun q h => by rw [← hAe] at h; exact h
  have hbA : ¬ A b := fun h => Nat.not_le.mpr hbl (hA2 b h)
  have hS : va_S A s.heap s.heap [] := va_S.rf
  have hP : va_P G.1 vwCl [] s.heap := fun k q h => by simp at h
  have hD : va_D A [] := ⟨fun i j p q h => by simp at h, fun k q h => by simp at h⟩
  have hl := lv_entry ([.ref b]) (n := 4) (Nat.le_of_ble_eq_true rfl)
  rw [lg_entry_eq]
  generalize (lg_sl ([.ref b]) ++ List.replicate (4 - (lg_sl ([.ref b])).length) Slot.unset).toArray = ls at hl ⊢
  have hl : lv_has ls 4 [(0, .ref b)] := hl
  refine zc_newP (ci := 8) (fs := [.null, .null, .null, .null, .null, .null, .null, .null, .null, .null, .int 0, .int 0]) (T := TX8) (N := 12) S (by decide +kernel) tyX8 tyX8_ok (by decide +kernel) (by decide +kernel) (by decide +kernel) hAO hK hP hD hS hA rfl zdf8 (c_X8_init l G (h5 G)) (cwI 0 S.2.2.2.2 gL_law_X8_init rfl rfl rfl (S.2.2.2.2 (.initialized RX8) (by decide +kernel)) (S.2.2.2.2 (.methodLink RL 9 yX8_init) (by decide +kernel)) (S.2.2.2.2 (.instanceMethod yX8_init) (by decide +kernel)) rfl (by decide +kernel) ⟨Nat.le_of_ble_eq_true rfl, Nat.le_of_ble_eq_true rfl⟩) hl.1 (Nat.le_of_ble_eq_true rfl) (Nat.le_of_ble_eq_true rfl) (Nat.le_of_ble_eq_true rfl) dL_law_0 dL_law_3 dL_law_4 (fun q8 w8 H locs hw8 hP hD hS => ?_)
  obtain ⟨aq1, aq2, vq2, aq3, aq4, vq4, aq5, vq5, aq6, bq6, aq7, aq8, aq9, aq10, rfl⟩ := hw8
  refine lv_astore_n (lv' := [(1, .ref q8), (0, .ref b)]) hx hb dL_law_7 rfl hl (by decide) rfl (fun ls hl => ?_)
  refine zc_newP (ci := 9) (fs := [.int 0, .int 0, .null, .null, .null, .null, .null, .null, .null, .null, .int 0, .int 0, .null, .int 0, .null, .int 0, .null, .null, .null, .null, .null, .int 0, .null, .null, .null, .null, .int 0, .null, .null, .int 0, .int 0, .int 0, .int 0, .int 0, .int 0, .int 0, .int 0, .int 0, .int 0, .int 0]) (T := TX9) (N := 40) S (by decide +kernel) tyX9 tyX9_ok (by decide +kernel) (by decide +kernel) (by decide +kernel) hAO hK hP hD hS hA rfl zdf9 (c_X9_init l G) (cwI 0 S.2.2.2.2 gL_law_X9_init rfl rfl rfl (S.2.2.2.2 (.initialized RX9) (by decide +kernel)) (S.2.2.2.2 (.methodLink RL 12 yX9_init) (by decide +kernel)) (S.2.2.2.2 (.instanceMethod yX9_init) (by decide +kernel)) rfl (by decide +kernel) ⟨Nat.le_of_ble_eq_true rfl, Nat.le_of_ble_eq_true rfl⟩) hl.1 (Nat.le_of_ble_eq_true rfl) (Nat.le_of_ble_eq_true rfl) (Nat.le_of_ble_eq_true rfl) dL_law_8 dL_law_11 dL_law_12 (fun q9 w9 H locs hw9 hP hD hS => ?_)
  obtain ⟨am, rfl, rfl⟩ := hw9
  refine lv_astore_n (lv' := [(2, .ref (am 0)), (1, .ref q8), (0, .ref b)]) hx hb dL_law_15 rfl hl (by decide) rfl (fun ls hl => ?_)
  refine lv_iconst (v := 0) hx hb dL_law_16 (by decide) ?_
  refine lv_istore_n (lv' := [(3, .int 0), (2, .ref (am 0)), (1, .ref q8), (0, .ref b)]) hx hb dL_law_17 rfl hl (by decide) rfl (fun ls hl => ?_)
  have ew : ([] ++ ((((((((((w8 G (zad [q8]) (aq1 0) (aq2 0) (aq3 0) (aq4 0) (aq5 0) (aq6 0) (aq7 0) (aq8 0) (aq9 0) (aq10 0) zz8 ++ w0 G aq1 zz0) ++ (w4 G aq2 (vq2 0) zz4 ++ w6 G vq2 zz6)) ++ w0 G aq3 zz0) ++ (w4 G aq4 (vq4 0) zz4 ++ w6 G vq4 zz6)) ++ (w3 G aq5 (vq5 0) zz3 ++ w6 G vq5 zz6)) ++ (w1 G aq6 bq6 (fun j => j) 0 0 ++ (hcs G bq6 (fun _ => zz0)).flatten)) ++ w0 G aq7 zz0) ++ w7 G aq8 zz7) ++ w2 G aq9 zz2) ++ w5 G aq10 zz5)) ++ w9 G am zz9 = (w8 G (zad [q8]) (aq1 0) (aq2 0) (aq3 0) (aq4 0) (aq5 0) (aq6 0) (aq7 0) (aq8 0) (aq9 0) (aq10 0) zz8 :: w0 G aq1 zz0 :: w4 G aq2 (vq2 0) zz4 :: w6 G vq2 zz6 :: w0 G aq3 zz0 :: w4 G aq4 (vq4 0) zz4 :: w6 G vq4 zz6 :: w3 G aq5 (vq5 0) zz3 :: w6 G vq5 zz6 :: w1 G aq6 bq6 (fun j => j) 0 0 :: (hcs G bq6 (fun _ => zz0) ++ [w0 G aq7 zz0, w7 G aq8 zz7, w2 G aq9 zz2, w5 G aq10 zz5, w9 G am zz9]) : zB).flatten := by
    simp only [List.flatten_cons, List.flatten_append, List.flatten_nil, List.append_assoc, List.nil_append, List.append_nil, List.cons_append]
  rw [ew] at hP hD
  have hP2 : zP G (zWd G (zad [q8]) aq1 aq2 vq2 aq3 aq4 vq4 aq5 vq5 aq6 bq6 aq7 aq8 aq9 aq10 am (fun j => j) (fun _ => zz0) 0 0 zz8 zz0 zz4 zz6 zz0 zz4 zz6 zz3 zz6 zz0 zz7 zz2 zz5 zz9) H := zP.sub (zP.of hP) (is := [0, 1, 2, 3, 4, 5, 6, 7, 8, 9, 23, 24, 25, 26, 27, 10, 11, 12, 13, 14, 15, 16, 17, 18, 19, 20, 21, 22]) rfl
  have hD2 : zD A (zWd G (zad [q8]) aq1 aq2 vq2 aq3 aq4 vq4 aq5 vq5 aq6 bq6 aq7 aq8 aq9 aq10 am (fun j => j) (fun _ => zz0) 0 0 zz8 zz0 zz4 zz6 zz0 zz4 zz6 zz3 zz6 zz0 zz7 zz2 zz5 zz9) := zD.sub (zD.of_flat hD) [0, 1, 2, 3, 4, 5, 6, 7, 8, 9, 23, 24, 25, 26, 27, 10, 11, 12, 13, 14, 15, 16, 17, 18, 19, 20, 21, 22] (by decide) rfl
  exact law_loop S hr hlocks hX hbl hbA hL (Nat.le_of_ble_eq_true rfl) (Nat.le_of_ble_eq_true rfl) hK hU hA hA2 (L + 7) 0 (fun j => j) (fun _ => zz0) 0 0 zz8 zz0 zz4 zz6 zz0 zz4 zz6 zz3 zz6 zz0 zz7 zz2 zz5 zz9 H locs ls (Nat.zero_le _) (by omega) zInv_0 hP2 hD2 hS (lv_sub hl [3, 2, 1, 0] rfl)
