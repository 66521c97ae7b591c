/-! the start -/
theorem zNs_in : ∀ w ∈ zNs, w ∈ lw_tbl := by decide +kernel
theorem zK_start {s : State} {b : Nat} (hts : ∀ w ∈ lw_tbl, w.before #[Value.ref b] s = true) : ∃ G : zG, zK G s := by
  obtain ⟨c0, i0, z0⟩ := u_known (C := RX0) (T := TX0) (N := 9) (n := 9) hts wsL_in_wsX00 (hts (.instantiable RX0 9) (by decide +kernel))
  obtain ⟨c1, i1, z1⟩ := u_known (C := RX1) (T := TX1) (N := 3) (n := 3) hts wsL_in_wsX10 (hts (.instantiable RX1 3) (by decide +kernel))
  obtain ⟨c2, i2, z2⟩ := u_known (C := RX2) (T := TX2) (N := 2) (n := 2) hts wsL_in_wsX20 (hts (.instantiable RX2 2) (by decide +kernel))
  obtain ⟨c3, i3, z3⟩ := u_known (C := RX3) (T := TX3) (N := 4) (n := 4) hts wsL_in_wsX30 (hts (.instantiable RX3 4) (by decide +kernel))
  obtain ⟨c4, i4, z4⟩ := u_known (C := RX4) (T := TX4) (N := 3) (n := 3) hts wsL_in_wsX40 (hts (.instantiable RX4 3) (by decide +kernel))
  obtain ⟨c5, i5, z5⟩ := u_known (C := RX5) (T := TX5) (N := 2) (n := 2) hts wsL_in_wsX50 (hts (.instantiable RX5 2) (by decide +kernel))
  obtain ⟨c6, i6, z6⟩ := u_known (C := RX6) (T := TX6) (N := 12) (n := 12) hts wsL_in_wsX60 (hts (.instantiable RX6 12) (by decide +kernel))
  obtain ⟨c7, i7, z7⟩ := u_known (C := RX7) (T := TX7) (N := 10) (n := 10) hts wsL_in_wsX70 (hts (.instantiable RX7 10) (by decide +kernel))
  obtain ⟨c8, i8, z8⟩ := u_known (C := RX8) (T := TX8) (N := 12) (n := 12) hts wsL_in_wsX80 (hts (.instantiable RX8 12) (by decide +kernel))
  obtain ⟨D, hD⟩ : ∃ D : va_G, ∀ (k : Nat) (q : vw_C), vwCl[k]? = some q → u_Kn s q.1 q.2.1 q.2.2 (D.1 k) (D.2 k) := by
    refine ⟨(fun k => match k with
      | 0 => c0
      | 1 => c1
      | 2 => c2
      | 3 => c3
      | 4 => c4
      | 5 => c5
      | 6 => c6
      | 7 => c7
      | _ => c8
      , fun k => match k with
      | 0 => i0
      | 1 => i1
      | 2 => i2
      | 3 => i3
      | 4 => i4
      | 5 => i5
      | 6 => i6
      | 7 => i7
      | _ => i8
      ), ?_⟩
    intro k q hq
    match k, hq with
    | 0, hq => obtain rfl : (RX0, TX0, 9) = q := Option.some.inj (show some (RX0, TX0, 9) = some q from hq); exact z0
    | 1, hq => obtain rfl : (RX1, TX1, 3) = q := Option.some.inj (show some (RX1, TX1, 3) = some q from hq); exact z1
    | 2, hq => obtain rfl : (RX2, TX2, 2) = q := Option.some.inj (show some (RX2, TX2, 2) = some q from hq); exact z2
    | 3, hq => obtain rfl : (RX3, TX3, 4) = q := Option.some.inj (show some (RX3, TX3, 4) = some q from hq); exact z3
    | 4, hq => obtain rfl : (RX4, TX4, 3) = q := Option.some.inj (show some (RX4, TX4, 3) = some q from hq); exact z4
    | 5, hq => obtain rfl : (RX5, TX5, 2) = q := Option.some.inj (show some (RX5, TX5, 2) = some q from hq); exact z5
    | 6, hq => obtain rfl : (RX6, TX6, 12) = q := Option.some.inj (show some (RX6, TX6, 12) = some q from hq); exact z6
    | 7, hq => obtain rfl : (RX7, TX7, 10) = q := Option.some.inj (show some (RX7, TX7, 10) = some q from hq); exact z7
    | 8, hq => obtain rfl : (RX8, TX8, 12) = q := Option.some.inj (show some (RX8, TX8, 12) = some q from hq); exact z8
    | k + 9, hq => exact absurd (show k + 9 < 9 from (List.getElem?_eq_some_iff.mp hq).1) (by omega)
  obtain ⟨ci, ki, compi, f1, f2, f3⟩ := Cond.arrayClass_spec (hts (.arrayClass .int) (by decide +kernel))
  obtain ⟨compq, cq, kq, g1, g2, g3, g4, g5⟩ := Cond.arrayOver_spec (hts (.arrayOver (.object "RuleCourt$Court")) (by decide +kernel))
  obtain ⟨compa, ca, ka, h1, h2, h3, h4, h5⟩ := arrayOverA_spec (hts (.arrayOver (.array .int)) (by decide +kernel))
  refine ⟨(D, ci, cq, ca), ⟨hD, ?_⟩, ?_⟩
  · intro k q hq
    match k, hq with
    | 0, hq => obtain rfl : (ci, FieldType.int) = q := Option.some.inj (show some (ci, FieldType.int) = some q from hq); exact ⟨fun N z => ⟨(fun k h => by cases h), ki, f2, compi, f3⟩, f1⟩
    | 1, hq => obtain rfl : (cq, FieldType.object "RuleCourt$Court") = q := Option.some.inj (show some (cq, FieldType.object "RuleCourt$Court") = some q from hq); exact ⟨fun N z => ⟨(fun k h => by cases h), kq, g3, compq, g4⟩, kq, compq, g3, g4, g1, g5⟩
    | 2, hq => obtain rfl : (ca, FieldType.array .int) = q := Option.some.inj (show some (ca, FieldType.array .int) = some q from hq); exact ⟨fun N z => ⟨(fun k h => by cases h), ka, h3, compa, h4⟩, h5⟩
    | k + 3, hq => exact absurd (show k + 3 < 3 from (List.getElem?_eq_some_iff.mp hq).1) (by omega)
  · intro w hw
    have hin := zNs_in w hw
    obtain ⟨a, i, x, g, rfl⟩ := zNs_ok w hw
    exact va_Nw.of rfl (hts _ hin)
theorem zAO_start {s : State} {b : Nat} (hts : ∀ w ∈ lw_tbl, w.before #[Value.ref b] s = true) : zAO s := ⟨va_AO.of (hts (.arrayOver (.object RX0)) (by decide +kernel)), hts (.arrayOver (.array .int)) (by decide +kernel)⟩
set_option maxHeartbeats 4000000 in
set_option maxRecDepth 100000 in
theorem law_start {p : Program} {e : Env} {s : State} {m : MethodId} {below : List Frame} {meth : Method} {c : Code} (l : Launch) {b L : Nat} {xs : Nat → Int32} (hL : L ≤ 260) (C0 : lw_At p s m meth c b L xs) : W p l e room_1 s m #[Value.ref b] below meth c s.heap [] 0 0 (lw_Z below #[Value.ref b] s) (entryFrame m ([Value.ref b] : List Value).toArray 18) := by
  obtain ⟨hx, hb, hr, hml, hown, hts, hX, hbl, hlocks, hgv⟩ := id C0
  have S : CallFix p m c cL_law 18 s #[Value.ref b] wsL_law RL := ⟨hx, hb, hml, hown, fun w hw => hts w (wsL_in w hw)⟩
  obtain ⟨G, hK⟩ := zK_start hts
  have hAO := zAO_start hts
  have hcl : va_Nw (.castable "[I" "java/lang/Cloneable") s := va_Nw.of rfl (hts _ (by decide +kernel))
  obtain ⟨A, hA, hA2⟩ : ∃ A : Nat → Prop, (∀ q : Nat, s.heap.size ≤ q → A q) ∧ ∀ q : Nat, A q → s.heap.size ≤ q := ⟨fun q => s.heap.size ≤ q, fun q h => h, fun q h => h⟩
  have hbA : ¬ A b := fun h => Nat.not_le.mpr hbl (hA2 b h)
  have hS : va_S A s.heap s.heap [] := va_S.rf
  have hL31 : L < 2 ^ 31 := by omega
  have hl := lv_entry ([.ref b]) (n := 18) (Nat.le_of_ble_eq_true rfl)
  rw [lg_entry_eq]
  generalize (lg_sl ([.ref b]) ++ List.replicate (18 - (lg_sl ([.ref b])).length) Slot.unset).toArray = ls at hl ⊢
  have hl : lv_has ls 18 [(0, .ref b)] := hl
  obtain ⟨sc, hsc⟩ : ∃ sc : Nat → Int32, ∀ j : Nat, sc j = if j < L then xs j else 40503 * nI j := ⟨fun j => if j < L then xs j else 40503 * nI j, fun _ => rfl⟩
  refine lv_aload_n hx hb dL_law_0 rfl (lv_at hl 0 rfl) ?_
  refine lv_bipush (v := 40) hx hb dL_law_1 (by decide) ?_
  refine zcell S hL31 hX hbl hbA hS hl.1 hsc ⟨40, by decide, rfl⟩ gL_law_L_cell ⟨Nat.le_of_ble_eq_true rfl, Nat.le_of_ble_eq_true rfl⟩ ⟨Nat.zero_le _, Nat.zero_le _⟩ dL_law_3 ?_
  refine lv_iconst (v := 1) hx hb dL_law_6 (by decide) ?_
  refine lv_iushr (v := ((sc (40 : Int32).toNatClampNeg).toUInt32 >>> ((1 : Int32).toUInt32 &&& Int32.toUInt32 31)).toInt32) hx hb dL_law_7 rfl ?_
  refine lv_bipush (v := 11) hx hb dL_law_8 (by decide) ?_
  refine lv_irem hx hb dL_law_10 (by decide) ?_
  obtain ⟨NR, hNR, eNR⟩ := zrem (sc (40 : Int32).toNatClampNeg) 1 11 (k := 1) (m := 11) (by decide) (by decide) rfl (by decide) (by decide)
  rw [eNR]
  have hN : NR ≤ 10 := by omega
  refine lv_istore_n (lv' := [(1, .int (nI NR)), (0, .ref b)]) hx hb dL_law_11 rfl hl (by decide) rfl (fun ls hl => ?_)
  refine lv_aload_n hx hb dL_law_12 rfl (lv_at hl 1 rfl) ?_
  refine lv_iload_n hx hb dL_law_13 rfl (lv_at hl 0 rfl) ?_
  have hpre : PreS s s.heap (va_Pc [.ref b, .int (nI NR)] (zMpre G b L xs s.heap.size)) [.ref b, .int (nI NR)] := ⟨fun a U g mk z => ⟨z.1, z.2.1, ⟨va_X.moved (Vm.Alike.refl _) z.2.2.1.1, z.2.2.1.2⟩, z.2.2.2.1.calling, z.2.2.2.2.moved (Vm.Alike.refl _)⟩, fun U hU hW => ⟨rfl, by rw [hU], ⟨by rw [hU]; exact hX.moved hW.alike, by rw [hU]; exact hbl⟩, hK.warm hW, hAO.moved hW.alike⟩⟩
  refine va_callr (va_runS (As := [.ref b, .int (nI NR)]) (rest := []) S (c_L_made l G hL31 hN s.heap.size) (va_cwS 2 S.2.2.2.2 gL_law_L_made rfl rfl rfl (by decide +kernel) ⟨Nat.le_of_ble_eq_true rfl, Nat.le_of_ble_eq_true rfl⟩) hpre rfl rfl hl.1 rfl (lv_room (Nat.le_of_ble_eq_true rfl)) dL_law_14 ⟨Nat.le_of_ble_eq_true rfl, Nat.le_of_ble_eq_true rfl⟩) hS (fun q _ h => hA q h) (fun q h => hA q h) (fun _ ra t H locs ht hvm _ hB hz hk hS => ?_)
  obtain ⟨arc, ac, ard, av, awd, apa, ahi, aik, ot, oth, och, ok, oro, st, rfl, hM, hP, hD⟩ := hB
  rw [ht] at hP
  have hD := hD.weaken (B := A) (fun a _ h => hA a h)
  obtain ⟨m1, m2, m3, m4, m5, m6, m7, m8⟩ := hM
  refine lv_astore_n (lv' := [(2, .ref (arc 0)), (1, .int (nI NR)), (0, .ref b)]) hx hb dL_law_17 rfl hl (by decide) rfl (fun ls hl => ?_)
  refine lv_aload_n hx hb dL_law_18 rfl (lv_at hl 0 rfl) ?_
  refine lv_ifnonnull (tgt := 24) hx hb dL_law_19 (by decide) ?_
  refine lv_iconst (v := 4) hx hb dL_law_24 (by decide) ?_
  refine zg_newa (N := 4) S (by decide +kernel) hK hP hD hS hA rfl (by decide) (Nat.le_of_ble_eq_true rfl) (Nat.le_of_ble_eq_true rfl) dL_law_25 (fun q3 H hP hD hS => ?_)
  refine lv_astore_n (lv' := [(3, .ref q3), (2, .ref (arc 0)), (1, .int (nI NR)), (0, .ref b)]) hx hb dL_law_27 rfl hl (by decide) rfl (fun ls hl => ?_)
  have hP2 : zP G (w8 G arc (ac 0) (ard 0) ot oth och (ahi 0) ok (awd 0) (apa 0) oro (s8_isSettled zz8 st.1) :: w0 G ac (zcM st) :: w4 G ard (av 0) zz4 :: w6 G av zz6 :: w10 G (zad [q3]) (fun _ => 0) :: w7 G awd zz7 :: w2 G apa zz2 :: w1 G ahi aik st.2.2.2.2.2.2.2.2.2.2.1 (nI st.2.2.2.2.2.2.2.2.2.2.2.2.1) st.2.2.2.2.2.2.2.2.2.2.2.2.2 :: hcs G aik st.2.2.2.2.2.2.2.2.2.2.2.1) H := zP.sub hP (is := [0, 1, 2, 3, 20, 4, 5, 6, 7, 8, 9, 10, 11, 12, 13, 14, 15, 16, 17, 18, 19]) rfl
  have hD2 : zD A (w8 G arc (ac 0) (ard 0) ot oth och (ahi 0) ok (awd 0) (apa 0) oro (s8_isSettled zz8 st.1) :: w0 G ac (zcM st) :: w4 G ard (av 0) zz4 :: w6 G av zz6 :: w10 G (zad [q3]) (fun _ => 0) :: w7 G awd zz7 :: w2 G apa zz2 :: w1 G ahi aik st.2.2.2.2.2.2.2.2.2.2.1 (nI st.2.2.2.2.2.2.2.2.2.2.2.2.1) st.2.2.2.2.2.2.2.2.2.2.2.2.2 :: hcs G aik st.2.2.2.2.2.2.2.2.2.2.2.1) := zD.sub hD [0, 1, 2, 3, 20, 4, 5, 6, 7, 8, 9, 10, 11, 12, 13, 14, 15, 16, 17, 18, 19] (by decide) rfl
  refine law_mid arc ac ard av (zad [q3]) awd apa ahi aik ot oth och ok oro (s8_isSettled zz8 st.1) (zcM st) zz4 zz6 (fun _ => 0) zz7 zz2 st.2.2.2.2.2.2.2.2.2.2.1 st.2.2.2.2.2.2.2.2.2.2.2.1 st.2.2.2.2.2.2.2.2.2.2.2.2.1 st.2.2.2.2.2.2.2.2.2.2.2.2.2 hN (by rw [gg8_isSettled]; exact m1) (by rw [zcM_size]; exact m5) (by rw [zcM_head]; exact m6) (fun r hr => by rw [zcM_kind, zcM_head, zcM_body, zcM_excepts, zcM_power]; exact m2 r hr) (by rw [zcM_beats]; exact m3) (fun q hq => ?_) (fun t _ => rfl) S hr hlocks hK hA hA2 hcl (cells := 0 + 163 + 1) (slots := 0 + 4896 + 4) (by decide) (by decide) hP2 hD2 hS (lv_sub hl [2, 1, 0] rfl)
  rw [zcM_facts]
  cases ez : zb st.2.2.2.2.2.2.2.1 q
  · rfl
  · have := (m4 q ez).1
    omega
theorem whole_start {p : Program} {e : Env} {s : State} {m : MethodId} {below : List Frame} {meth : Method} {c : Code} (l : Launch) (hflags : l.flags = flags0) {b L : Nat} {xs : Nat → Int32} (hL : L ≤ 260) (C0 : lw_At p s m meth c b L xs) : W p l e room_1 s m #[Value.ref b] below meth c s.heap [] 0 0 (lw_Z below #[Value.ref b] s) (entryFrame m ([Value.ref b] : List Value).toArray 18) := law_start l hL C0
