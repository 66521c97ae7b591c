theorem in_ctor5 : ∀ w ∈ u_ws RX5 TX5 2, w ∈ wsX5_init := by decide +kernel
set_option maxHeartbeats 4000000 in
set_option maxRecDepth 100000 in
theorem c_X5_init (l : Launch) (G : zG) : zNew l yX5_init wsX5_init rmX5_init G 5 [.null, .null] 6 104 (fun q w => ∃ a : Nat → Nat, a 0 = q ∧ w = w5 G a zz5) := by
  intro h0 sz
  refine Met.ofW (cc := cX5_init) (maxL := 1) (ret := none) (by decide +kernel) rfl ?_
  intro p e s m args below meth c s₁ B hml hv
  obtain ⟨rfl, hsz, hP, hK, hD0, hAO⟩ := hv
  have hx := B.exec
  have hb := B.bytes
  have hr := B.returns
  have hts := atoms_spec (ws := wsX5_init) B.pre
  have hown : s.vm.findClass RX5 = some m.cls := findClass_of_methodNamed B.named
  have hlocks := B.notSynchronized
  have hin : meth.name = "<init>" := (name_of_methodNamed B.named B.method).1
  have S : CallFix p m c cX5_init 1 s _ wsX5_init RX5 := ⟨hx, hb, hml, hown, hts⟩
  subst hsz
  have hD := hD0.self (sz := s.heap.size)
  generalize hAe : va_A [((h0, .inr (5, [.null, .null])) : Nat × va_E)] s.heap.size = A at hD ⊢
  have hA : ∀ q : Nat, s.heap.size ≤ q → A q := fun q h => by rw [← hAe]; exact Or.inr h
  have hS : va_S A s.heap s.heap [] := va_S.rf
  have hP : va_P G.1 vwCl [(h0, .inr (5, [.null, .null]))] s.heap := hP
  have hl := lv_entry ([.ref h0]) (n := 1) (Nat.le_of_ble_eq_true rfl)
  rw [lg_entry_eq]
  generalize (lg_sl ([.ref h0]) ++ List.replicate (1 - (lg_sl ([.ref h0])).length) Slot.unset).toArray = ls at hl ⊢
  have hl : lv_has ls 1 [(0, .ref h0)] := hl
  refine lv_aload_n hx hb dX5_init_0 rfl (lv_at hl 0 rfl) ?_
  refine W.objInit hx hb hown (hts (.methodLink RX5 3 objectInit) (by decide +kernel)) (hts (.instanceMethod objectInit) (by decide +kernel)) (hts (.code objectInit ⟨#[0xb1]⟩ 1 none) (by decide +kernel)) rfl (by rw [hml]; exact hl.1) rfl dX5_init_1 (Nat.le_of_ble_eq_true rfl) (Nat.le_of_ble_eq_true rfl) ?_
  refine W.eq (g2 := F0 m 4 ls []) rfl ?_
  refine lv_aload_n hx hb dX5_init_4 rfl (lv_at hl 0 rfl) ?_
  refine lv_iconst (v := 4) hx hb dX5_init_5 (by decide) ?_
  refine lv_bipush (v := 24) hx hb dX5_init_6 (by decide) ?_
  refine zc_multi S (by decide +kernel) hAO (by decide +kernel) hK hP hD hS hA (Nat.le_of_ble_eq_true rfl) (Nat.le_of_ble_eq_true rfl) dX5_init_8 (fun q1 H hP hD hS => ?_)
  have hP : va_P G.1 vwCl ((((([(h0, .inr (5, [.null, .null]))] ++ [(q1, .inl (G.2.2.2, 4, .inr (.inr (.inr (.inr (fun j => some (q1 + 1 + j)))))))]) ++ [(q1 + 1, .inl (G.2.1, 24, .inl (fun _ => 0)))]) ++ [(q1 + 2, .inl (G.2.1, 24, .inl (fun _ => 0)))]) ++ [(q1 + 3, .inl (G.2.1, 24, .inl (fun _ => 0)))]) ++ [(q1 + 4, .inl (G.2.1, 24, .inl (fun _ => 0)))]) H := hP
  have hD : va_D A ((((([(h0, .inr (5, [.null, .null]))] ++ [(q1, .inl (G.2.2.2, 4, .inr (.inr (.inr (.inr (fun j => some (q1 + 1 + j)))))))]) ++ [(q1 + 1, .inl (G.2.1, 24, .inl (fun _ => 0)))]) ++ [(q1 + 2, .inl (G.2.1, 24, .inl (fun _ => 0)))]) ++ [(q1 + 3, .inl (G.2.1, 24, .inl (fun _ => 0)))]) ++ [(q1 + 4, .inl (G.2.1, 24, .inl (fun _ => 0)))]) := hD
  refine va_putF (D := G.1) (ci := 5) (v := .ref q1) (ty := .array (.array .int)) (C := RX5) (T := TX5) (N := 2) hx hb hts in_ctor5 tyX5 tyX5_ok nmX5 hown hK.1 hP hD hS 0 rfl rfl 0 (by decide) (hts (.fieldLink RX5 11 "RuleCourt$Rows" "values" "[[I") (by decide +kernel)) (fun _ h9 => h9) rfl hin rfl (by decide +kernel) (by first | rfl | decide) rfl (Nat.le_of_ble_eq_true rfl) dX5_init_12 (fun H locs hP hD hS => ?_)
  have hP : va_P G.1 vwCl ((((([(h0, .inr (5, [.ref q1, .null]))] ++ [(q1, .inl (G.2.2.2, 4, .inr (.inr (.inr (.inr (fun j => some (q1 + 1 + j)))))))]) ++ [(q1 + 1, .inl (G.2.1, 24, .inl (fun _ => 0)))]) ++ [(q1 + 2, .inl (G.2.1, 24, .inl (fun _ => 0)))]) ++ [(q1 + 3, .inl (G.2.1, 24, .inl (fun _ => 0)))]) ++ [(q1 + 4, .inl (G.2.1, 24, .inl (fun _ => 0)))]) H := hP
  have hD : va_D A ((((([(h0, .inr (5, [.ref q1, .null]))] ++ [(q1, .inl (G.2.2.2, 4, .inr (.inr (.inr (.inr (fun j => some (q1 + 1 + j)))))))]) ++ [(q1 + 1, .inl (G.2.1, 24, .inl (fun _ => 0)))]) ++ [(q1 + 2, .inl (G.2.1, 24, .inl (fun _ => 0)))]) ++ [(q1 + 3, .inl (G.2.1, 24, .inl (fun _ => 0)))]) ++ [(q1 + 4, .inl (G.2.1, 24, .inl (fun _ => 0)))]) := hD
  refine lv_aload_n hx hb dX5_init_15 rfl (lv_at hl 0 rfl) ?_
  refine lv_iconst (v := 4) hx hb dX5_init_16 (by decide) ?_
  refine zc_newa (N := 4) S (by decide +kernel) hK hP hD hS hA rfl (by decide) (Nat.le_of_ble_eq_true rfl) (Nat.le_of_ble_eq_true rfl) dX5_init_17 (fun q2 H hP hD hS => ?_)
  have hP : va_P G.1 vwCl (((((([(h0, .inr (5, [.ref q1, .null]))] ++ [(q1, .inl (G.2.2.2, 4, .inr (.inr (.inr (.inr (fun j => some (q1 + 1 + j)))))))]) ++ [(q1 + 1, .inl (G.2.1, 24, .inl (fun _ => 0)))]) ++ [(q1 + 2, .inl (G.2.1, 24, .inl (fun _ => 0)))]) ++ [(q1 + 3, .inl (G.2.1, 24, .inl (fun _ => 0)))]) ++ [(q1 + 4, .inl (G.2.1, 24, .inl (fun _ => 0)))]) ++ [(q2, .inl (G.2.1, 4, .inl (fun _ => 0)))]) H := hP
  have hD : va_D A (((((([(h0, .inr (5, [.ref q1, .null]))] ++ [(q1, .inl (G.2.2.2, 4, .inr (.inr (.inr (.inr (fun j => some (q1 + 1 + j)))))))]) ++ [(q1 + 1, .inl (G.2.1, 24, .inl (fun _ => 0)))]) ++ [(q1 + 2, .inl (G.2.1, 24, .inl (fun _ => 0)))]) ++ [(q1 + 3, .inl (G.2.1, 24, .inl (fun _ => 0)))]) ++ [(q1 + 4, .inl (G.2.1, 24, .inl (fun _ => 0)))]) ++ [(q2, .inl (G.2.1, 4, .inl (fun _ => 0)))]) := hD
  refine lv_dup hx hb dX5_init_19 rfl ?_
  refine lv_iconst (v := 0) hx hb dX5_init_20 (by decide) ?_
  refine lv_iconst (v := (-1)) hx hb dX5_init_21 (by decide) ?_
  refine va_iast (q0 := 6) (t0 := 0) hx hb hK.1 hP hD hS rfl rfl (vp_in_nI (n := 0) (N := 4) (by decide) (by decide)) dX5_init_22 (fun H locs hP hD hS => ?_)
  have hP : va_P G.1 vwCl (((((([(h0, .inr (5, [.ref q1, .null]))] ++ [(q1, .inl (G.2.2.2, 4, .inr (.inr (.inr (.inr (fun j => some (q1 + 1 + j)))))))]) ++ [(q1 + 1, .inl (G.2.1, 24, .inl (fun _ => 0)))]) ++ [(q1 + 2, .inl (G.2.1, 24, .inl (fun _ => 0)))]) ++ [(q1 + 3, .inl (G.2.1, 24, .inl (fun _ => 0)))]) ++ [(q1 + 4, .inl (G.2.1, 24, .inl (fun _ => 0)))]) ++ [(q2, .inl (G.2.1, 4, .inl (upd (fun _ => 0) (0 : Int32).toNatClampNeg (-1))))]) H := hP
  have hD : va_D A (((((([(h0, .inr (5, [.ref q1, .null]))] ++ [(q1, .inl (G.2.2.2, 4, .inr (.inr (.inr (.inr (fun j => some (q1 + 1 + j)))))))]) ++ [(q1 + 1, .inl (G.2.1, 24, .inl (fun _ => 0)))]) ++ [(q1 + 2, .inl (G.2.1, 24, .inl (fun _ => 0)))]) ++ [(q1 + 3, .inl (G.2.1, 24, .inl (fun _ => 0)))]) ++ [(q1 + 4, .inl (G.2.1, 24, .inl (fun _ => 0)))]) ++ [(q2, .inl (G.2.1, 4, .inl (upd (fun _ => 0) (0 : Int32).toNatClampNeg (-1))))]) := hD
  refine lv_dup hx hb dX5_init_23 rfl ?_
  refine lv_iconst (v := 1) hx hb dX5_init_24 (by decide) ?_
  refine lv_iconst (v := (-1)) hx hb dX5_init_25 (by decide) ?_
  refine va_iast (q0 := 6) (t0 := 0) hx hb hK.1 hP hD hS rfl rfl (vp_in_nI (n := 1) (N := 4) (by decide) (by decide)) dX5_init_26 (fun H locs hP hD hS => ?_)
  have hP : va_P G.1 vwCl (((((([(h0, .inr (5, [.ref q1, .null]))] ++ [(q1, .inl (G.2.2.2, 4, .inr (.inr (.inr (.inr (fun j => some (q1 + 1 + j)))))))]) ++ [(q1 + 1, .inl (G.2.1, 24, .inl (fun _ => 0)))]) ++ [(q1 + 2, .inl (G.2.1, 24, .inl (fun _ => 0)))]) ++ [(q1 + 3, .inl (G.2.1, 24, .inl (fun _ => 0)))]) ++ [(q1 + 4, .inl (G.2.1, 24, .inl (fun _ => 0)))]) ++ [(q2, .inl (G.2.1, 4, .inl (upd (upd (fun _ => 0) (0 : Int32).toNatClampNeg (-1)) (1 : Int32).toNatClampNeg (-1))))]) H := hP
  have hD : va_D A (((((([(h0, .inr (5, [.ref q1, .null]))] ++ [(q1, .inl (G.2.2.2, 4, .inr (.inr (.inr (.inr (fun j => some (q1 + 1 + j)))))))]) ++ [(q1 + 1, .inl (G.2.1, 24, .inl (fun _ => 0)))]) ++ [(q1 + 2, .inl (G.2.1, 24, .inl (fun _ => 0)))]) ++ [(q1 + 3, .inl (G.2.1, 24, .inl (fun _ => 0)))]) ++ [(q1 + 4, .inl (G.2.1, 24, .inl (fun _ => 0)))]) ++ [(q2, .inl (G.2.1, 4, .inl (upd (upd (fun _ => 0) (0 : Int32).toNatClampNeg (-1)) (1 : Int32).toNatClampNeg (-1))))]) := hD
  refine lv_dup hx hb dX5_init_27 rfl ?_
  refine lv_iconst (v := 2) hx hb dX5_init_28 (by decide) ?_
  refine lv_iconst (v := (-1)) hx hb dX5_init_29 (by decide) ?_
  refine va_iast (q0 := 6) (t0 := 0) hx hb hK.1 hP hD hS rfl rfl (vp_in_nI (n := 2) (N := 4) (by decide) (by decide)) dX5_init_30 (fun H locs hP hD hS => ?_)
  have hP : va_P G.1 vwCl (((((([(h0, .inr (5, [.ref q1, .null]))] ++ [(q1, .inl (G.2.2.2, 4, .inr (.inr (.inr (.inr (fun j => some (q1 + 1 + j)))))))]) ++ [(q1 + 1, .inl (G.2.1, 24, .inl (fun _ => 0)))]) ++ [(q1 + 2, .inl (G.2.1, 24, .inl (fun _ => 0)))]) ++ [(q1 + 3, .inl (G.2.1, 24, .inl (fun _ => 0)))]) ++ [(q1 + 4, .inl (G.2.1, 24, .inl (fun _ => 0)))]) ++ [(q2, .inl (G.2.1, 4, .inl (upd (upd (upd (fun _ => 0) (0 : Int32).toNatClampNeg (-1)) (1 : Int32).toNatClampNeg (-1)) (2 : Int32).toNatClampNeg (-1))))]) H := hP
  have hD : va_D A (((((([(h0, .inr (5, [.ref q1, .null]))] ++ [(q1, .inl (G.2.2.2, 4, .inr (.inr (.inr (.inr (fun j => some (q1 + 1 + j)))))))]) ++ [(q1 + 1, .inl (G.2.1, 24, .inl (fun _ => 0)))]) ++ [(q1 + 2, .inl (G.2.1, 24, .inl (fun _ => 0)))]) ++ [(q1 + 3, .inl (G.2.1, 24, .inl (fun _ => 0)))]) ++ [(q1 + 4, .inl (G.2.1, 24, .inl (fun _ => 0)))]) ++ [(q2, .inl (G.2.1, 4, .inl (upd (upd (upd (fun _ => 0) (0 : Int32).toNatClampNeg (-1)) (1 : Int32).toNatClampNeg (-1)) (2 : Int32).toNatClampNeg (-1))))]) := hD
  refine lv_dup hx hb dX5_init_31 rfl ?_
  refine lv_iconst (v := 3) hx hb dX5_init_32 (by decide) ?_
  refine lv_iconst (v := (-1)) hx hb dX5_init_33 (by decide) ?_
  refine va_iast (q0 := 6) (t0 := 0) hx hb hK.1 hP hD hS rfl rfl (vp_in_nI (n := 3) (N := 4) (by decide) (by decide)) dX5_init_34 (fun H locs hP hD hS => ?_)
  have hP : va_P G.1 vwCl (((((([(h0, .inr (5, [.ref q1, .null]))] ++ [(q1, .inl (G.2.2.2, 4, .inr (.inr (.inr (.inr (fun j => some (q1 + 1 + j)))))))]) ++ [(q1 + 1, .inl (G.2.1, 24, .inl (fun _ => 0)))]) ++ [(q1 + 2, .inl (G.2.1, 24, .inl (fun _ => 0)))]) ++ [(q1 + 3, .inl (G.2.1, 24, .inl (fun _ => 0)))]) ++ [(q1 + 4, .inl (G.2.1, 24, .inl (fun _ => 0)))]) ++ [(q2, .inl (G.2.1, 4, .inl (upd (upd (upd (upd (fun _ => 0) (0 : Int32).toNatClampNeg (-1)) (1 : Int32).toNatClampNeg (-1)) (2 : Int32).toNatClampNeg (-1)) (3 : Int32).toNatClampNeg (-1))))]) H := hP
  have hD : va_D A (((((([(h0, .inr (5, [.ref q1, .null]))] ++ [(q1, .inl (G.2.2.2, 4, .inr (.inr (.inr (.inr (fun j => some (q1 + 1 + j)))))))]) ++ [(q1 + 1, .inl (G.2.1, 24, .inl (fun _ => 0)))]) ++ [(q1 + 2, .inl (G.2.1, 24, .inl (fun _ => 0)))]) ++ [(q1 + 3, .inl (G.2.1, 24, .inl (fun _ => 0)))]) ++ [(q1 + 4, .inl (G.2.1, 24, .inl (fun _ => 0)))]) ++ [(q2, .inl (G.2.1, 4, .inl (upd (upd (upd (upd (fun _ => 0) (0 : Int32).toNatClampNeg (-1)) (1 : Int32).toNatClampNeg (-1)) (2 : Int32).toNatClampNeg (-1)) (3 : Int32).toNatClampNeg (-1))))]) := hD
  refine va_putF (D := G.1) (ci := 5) (v := .ref q2) (ty := .array .int) (C := RX5) (T := TX5) (N := 2) hx hb hts in_ctor5 tyX5 tyX5_ok nmX5 hown hK.1 hP hD hS 0 rfl rfl 1 (by decide) (hts (.fieldLink RX5 16 "RuleCourt$Rows" "size" "[I") (by decide +kernel)) (fun _ h9 => h9) rfl hin rfl (by decide +kernel) (by first | rfl | decide) rfl (Nat.le_of_ble_eq_true rfl) dX5_init_35 (fun H locs hP hD hS => ?_)
  have hP : va_P G.1 vwCl (((((([(h0, .inr (5, [.ref q1, .ref q2]))] ++ [(q1, .inl (G.2.2.2, 4, .inr (.inr (.inr (.inr (fun j => some (q1 + 1 + j)))))))]) ++ [(q1 + 1, .inl (G.2.1, 24, .inl (fun _ => 0)))]) ++ [(q1 + 2, .inl (G.2.1, 24, .inl (fun _ => 0)))]) ++ [(q1 + 3, .inl (G.2.1, 24, .inl (fun _ => 0)))]) ++ [(q1 + 4, .inl (G.2.1, 24, .inl (fun _ => 0)))]) ++ [(q2, .inl (G.2.1, 4, .inl (upd (upd (upd (upd (fun _ => 0) (0 : Int32).toNatClampNeg (-1)) (1 : Int32).toNatClampNeg (-1)) (2 : Int32).toNatClampNeg (-1)) (3 : Int32).toNatClampNeg (-1))))]) H := hP
  have hD : va_D A (((((([(h0, .inr (5, [.ref q1, .ref q2]))] ++ [(q1, .inl (G.2.2.2, 4, .inr (.inr (.inr (.inr (fun j => some (q1 + 1 + j)))))))]) ++ [(q1 + 1, .inl (G.2.1, 24, .inl (fun _ => 0)))]) ++ [(q1 + 2, .inl (G.2.1, 24, .inl (fun _ => 0)))]) ++ [(q1 + 3, .inl (G.2.1, 24, .inl (fun _ => 0)))]) ++ [(q1 + 4, .inl (G.2.1, 24, .inl (fun _ => 0)))]) ++ [(q2, .inl (G.2.1, 4, .inl (upd (upd (upd (upd (fun _ => 0) (0 : Int32).toNatClampNeg (-1)) (1 : Int32).toNatClampNeg (-1)) (2 : Int32).toNatClampNeg (-1)) (3 : Int32).toNatClampNeg (-1))))]) := hD
  have hf : ∀ j : Nat, j < 4 → (fun j => some (q1 + 1 + j)) j = (fun j => some ((zad [h0, q1, q2, q1 + 1, q1 + 2, q1 + 3, q1 + 4]) (3 + j))) j := fun j hj => match j, hj with
    | 0, _ => rfl
    | 1, _ => rfl
    | 2, _ => rfl
    | 3, _ => rfl
    | j + 4, h => absurd h (by omega)
  have hP9 : va_P G.1 vwCl (w5 G (zad [h0, q1, q2, q1 + 1, q1 + 2, q1 + 3, q1 + 4]) zz5) H := (va_P_swap (i := 1) hP rfl hf).sub [0, 1, 6, 2, 3, 4, 5] rfl
  have hD9 : va_D A (w5 G (zad [h0, q1, q2, q1 + 1, q1 + 2, q1 + 3, q1 + 4]) zz5) := (va_D_swap (i := 1) (a := q1) (y := .inl (G.2.2.2, 4, .inr (.inr (.inr (.inr (fun j => some ((zad [h0, q1, q2, q1 + 1, q1 + 2, q1 + 3, q1 + 4]) (3 + j)))))))) hD rfl).sub [0, 1, 6, 2, 3, 4, 5] (by decide) rfl
  exact W.vret hx hb hr (fun t ht hW => ⟨⟨(), rfl, trivial, _, ⟨(zad [h0, q1, q2, q1 + 1, q1 + 2, q1 + 3, q1 + 4]), rfl, rfl⟩, by rw [ht]; exact hP9, hD9⟩, hS.F ht⟩) hS.2.2 dX5_init_38
