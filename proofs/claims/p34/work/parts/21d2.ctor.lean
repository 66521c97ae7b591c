theorem in_ctor0 : ∀ w ∈ u_ws RX0 TX0 9, w ∈ wsX0_init := by decide +kernel
theorem zdf0 : ∀ j, j < 9 → defaultValue (tyX0 j) = vp_V [.null, .null, .null, .null, .null, .null, .int 0, .int 0, .int 0] j := by decide +kernel
def rmX0_init : Room := { frames := 1, cells := 6, slots := 96, locals := 12 }
set_option maxHeartbeats 4000000 in
set_option maxRecDepth 100000 in
theorem c_X0_init (l : Launch) (G : zG) : zNew l yX0_init wsX0_init rmX0_init G 0 [.null, .null, .null, .null, .null, .null, .int 0, .int 0, .int 0] 6 96 (fun q w => ∃ a : Nat → Nat, a 0 = q ∧ w = w0 G a zz0) := by
  intro h0 sz
  refine Met.ofW (cc := cX0_init) (maxL := 1) (ret := none) (by decide +kernel) rfl ?_
  intro p e s m args below meth c s₁ B hml hv
  obtain ⟨rfl, hsz, hP, hK, hD0, hAO⟩ := hv
  have hx := B.exec
  have hb := B.bytes
  have hr := B.returns
  have hts := atoms_spec (ws := wsX0_init) B.pre
  have hown : s.vm.findClass RX0 = some m.cls := findClass_of_methodNamed B.named
  have hlocks := B.notSynchronized
  have hin : meth.name = "<init>" := (name_of_methodNamed B.named B.method).1
  have S : CallFix p m c cX0_init 1 s _ wsX0_init RX0 := ⟨hx, hb, hml, hown, hts⟩
  subst hsz
  have hD := hD0.self (sz := s.heap.size)
  generalize hAe : va_A [((h0, .inr (0, [.null, .null, .null, .null, .null, .null, .int 0, .int 0, .int 0])) : Nat × va_E)] s.heap.size = A at hD ⊢
  have hA : ∀ q : Nat, s.heap.size ≤ q → A q := fun q h => by rw [← hAe]; exact Or.inr h
  have hS : va_S A s.heap s.heap [] := va_S.rf
  have hP : va_P G.1 vwCl [(h0, .inr (0, [.null, .null, .null, .null, .null, .null, .int 0, .int 0, .int 0]))] s.heap := hP
  have hl := lv_entry ([.ref h0]) (n := 1) (Nat.le_of_ble_eq_true rfl)
  rw [lg_entry_eq]
  generalize (lg_sl ([.ref h0]) ++ List.replicate (1 - (lg_sl ([.ref h0])).length) Slot.unset).toArray = ls at hl ⊢
  have hl : lv_has ls 1 [(0, .ref h0)] := hl
  refine lv_aload_n hx hb dX0_init_0 rfl (lv_at hl 0 rfl) ?_
  refine W.objInit hx hb hown (hts (.methodLink RX0 3 objectInit) (by decide +kernel)) (hts (.instanceMethod objectInit) (by decide +kernel)) (hts (.code objectInit ⟨#[0xb1]⟩ 1 none) (by decide +kernel)) rfl (by rw [hml]; exact hl.1) rfl dX0_init_1 (Nat.le_of_ble_eq_true rfl) (Nat.le_of_ble_eq_true rfl) ?_
  refine W.eq (g2 := F0 m 4 ls []) rfl ?_
  refine lv_aload_n hx hb dX0_init_4 rfl (lv_at hl 0 rfl) ?_
  refine lv_bipush (v := 16) hx hb dX0_init_5 (by decide) ?_
  refine zc_newa (N := 16) S (by decide +kernel) hK hP hD hS hA rfl (by decide) (Nat.le_of_ble_eq_true rfl) (Nat.le_of_ble_eq_true rfl) dX0_init_7 (fun q1 H hP hD hS => ?_)
  have hP : va_P G.1 vwCl ([(h0, .inr (0, [.null, .null, .null, .null, .null, .null, .int 0, .int 0, .int 0]))] ++ [(q1, .inl (G.2.1, 16, .inl (fun _ => 0)))]) H := hP
  have hD : va_D A ([(h0, .inr (0, [.null, .null, .null, .null, .null, .null, .int 0, .int 0, .int 0]))] ++ [(q1, .inl (G.2.1, 16, .inl (fun _ => 0)))]) := hD
  refine va_putF (D := G.1) (ci := 0) (v := .ref q1) (ty := .array .int) (C := RX0) (T := TX0) (N := 9) hx hb hts in_ctor0 tyX0 tyX0_ok nmX0 hown hK.1 hP hD hS 0 rfl rfl 0 (by decide) (hts (.fieldLink RX0 9 "RuleCourt$Court" "kind" "[I") (by decide +kernel)) (fun _ h9 => h9) rfl hin rfl (by decide +kernel) (by first | rfl | decide) rfl (Nat.le_of_ble_eq_true rfl) dX0_init_9 (fun H locs hP hD hS => ?_)
  have hP : va_P G.1 vwCl ([(h0, .inr (0, [.ref q1, .null, .null, .null, .null, .null, .int 0, .int 0, .int 0]))] ++ [(q1, .inl (G.2.1, 16, .inl (fun _ => 0)))]) H := hP
  have hD : va_D A ([(h0, .inr (0, [.ref q1, .null, .null, .null, .null, .null, .int 0, .int 0, .int 0]))] ++ [(q1, .inl (G.2.1, 16, .inl (fun _ => 0)))]) := hD
  refine lv_aload_n hx hb dX0_init_12 rfl (lv_at hl 0 rfl) ?_
  refine lv_bipush (v := 16) hx hb dX0_init_13 (by decide) ?_
  refine zc_newa (N := 16) S (by decide +kernel) hK hP hD hS hA rfl (by decide) (Nat.le_of_ble_eq_true rfl) (Nat.le_of_ble_eq_true rfl) dX0_init_15 (fun q2 H hP hD hS => ?_)
  have hP : va_P G.1 vwCl (([(h0, .inr (0, [.ref q1, .null, .null, .null, .null, .null, .int 0, .int 0, .int 0]))] ++ [(q1, .inl (G.2.1, 16, .inl (fun _ => 0)))]) ++ [(q2, .inl (G.2.1, 16, .inl (fun _ => 0)))]) H := hP
  have hD : va_D A (([(h0, .inr (0, [.ref q1, .null, .null, .null, .null, .null, .int 0, .int 0, .int 0]))] ++ [(q1, .inl (G.2.1, 16, .inl (fun _ => 0)))]) ++ [(q2, .inl (G.2.1, 16, .inl (fun _ => 0)))]) := hD
  refine va_putF (D := G.1) (ci := 0) (v := .ref q2) (ty := .array .int) (C := RX0) (T := TX0) (N := 9) hx hb hts in_ctor0 tyX0 tyX0_ok nmX0 hown hK.1 hP hD hS 0 rfl rfl 1 (by decide) (hts (.fieldLink RX0 15 "RuleCourt$Court" "head" "[I") (by decide +kernel)) (fun _ h9 => h9) rfl hin rfl (by decide +kernel) (by first | rfl | decide) rfl (Nat.le_of_ble_eq_true rfl) dX0_init_17 (fun H locs hP hD hS => ?_)
  have hP : va_P G.1 vwCl (([(h0, .inr (0, [.ref q1, .ref q2, .null, .null, .null, .null, .int 0, .int 0, .int 0]))] ++ [(q1, .inl (G.2.1, 16, .inl (fun _ => 0)))]) ++ [(q2, .inl (G.2.1, 16, .inl (fun _ => 0)))]) H := hP
  have hD : va_D A (([(h0, .inr (0, [.ref q1, .ref q2, .null, .null, .null, .null, .int 0, .int 0, .int 0]))] ++ [(q1, .inl (G.2.1, 16, .inl (fun _ => 0)))]) ++ [(q2, .inl (G.2.1, 16, .inl (fun _ => 0)))]) := hD
  refine lv_aload_n hx hb dX0_init_20 rfl (lv_at hl 0 rfl) ?_
  refine lv_bipush (v := 16) hx hb dX0_init_21 (by decide) ?_
  refine zc_newa (N := 16) S (by decide +kernel) hK hP hD hS hA rfl (by decide) (Nat.le_of_ble_eq_true rfl) (Nat.le_of_ble_eq_true rfl) dX0_init_23 (fun q3 H hP hD hS => ?_)
  have hP : va_P G.1 vwCl ((([(h0, .inr (0, [.ref q1, .ref q2, .null, .null, .null, .null, .int 0, .int 0, .int 0]))] ++ [(q1, .inl (G.2.1, 16, .inl (fun _ => 0)))]) ++ [(q2, .inl (G.2.1, 16, .inl (fun _ => 0)))]) ++ [(q3, .inl (G.2.1, 16, .inl (fun _ => 0)))]) H := hP
  have hD : va_D A ((([(h0, .inr (0, [.ref q1, .ref q2, .null, .null, .null, .null, .int 0, .int 0, .int 0]))] ++ [(q1, .inl (G.2.1, 16, .inl (fun _ => 0)))]) ++ [(q2, .inl (G.2.1, 16, .inl (fun _ => 0)))]) ++ [(q3, .inl (G.2.1, 16, .inl (fun _ => 0)))]) := hD
  refine va_putF (D := G.1) (ci := 0) (v := .ref q3) (ty := .array .int) (C := RX0) (T := TX0) (N := 9) hx hb hts in_ctor0 tyX0 tyX0_ok nmX0 hown hK.1 hP hD hS 0 rfl rfl 2 (by decide) (hts (.fieldLink RX0 18 "RuleCourt$Court" "body" "[I") (by decide +kernel)) (fun _ h9 => h9) rfl hin rfl (by decide +kernel) (by first | rfl | decide) rfl (Nat.le_of_ble_eq_true rfl) dX0_init_25 (fun H locs hP hD hS => ?_)
  have hP : va_P G.1 vwCl ((([(h0, .inr (0, [.ref q1, .ref q2, .ref q3, .null, .null, .null, .int 0, .int 0, .int 0]))] ++ [(q1, .inl (G.2.1, 16, .inl (fun _ => 0)))]) ++ [(q2, .inl (G.2.1, 16, .inl (fun _ => 0)))]) ++ [(q3, .inl (G.2.1, 16, .inl (fun _ => 0)))]) H := hP
  have hD : va_D A ((([(h0, .inr (0, [.ref q1, .ref q2, .ref q3, .null, .null, .null, .int 0, .int 0, .int 0]))] ++ [(q1, .inl (G.2.1, 16, .inl (fun _ => 0)))]) ++ [(q2, .inl (G.2.1, 16, .inl (fun _ => 0)))]) ++ [(q3, .inl (G.2.1, 16, .inl (fun _ => 0)))]) := hD
  refine lv_aload_n hx hb dX0_init_28 rfl (lv_at hl 0 rfl) ?_
  refine lv_bipush (v := 16) hx hb dX0_init_29 (by decide) ?_
  refine zc_newa (N := 16) S (by decide +kernel) hK hP hD hS hA rfl (by decide) (Nat.le_of_ble_eq_true rfl) (Nat.le_of_ble_eq_true rfl) dX0_init_31 (fun q4 H hP hD hS => ?_)
  have hP : va_P G.1 vwCl (((([(h0, .inr (0, [.ref q1, .ref q2, .ref q3, .null, .null, .null, .int 0, .int 0, .int 0]))] ++ [(q1, .inl (G.2.1, 16, .inl (fun _ => 0)))]) ++ [(q2, .inl (G.2.1, 16, .inl (fun _ => 0)))]) ++ [(q3, .inl (G.2.1, 16, .inl (fun _ => 0)))]) ++ [(q4, .inl (G.2.1, 16, .inl (fun _ => 0)))]) H := hP
  have hD : va_D A (((([(h0, .inr (0, [.ref q1, .ref q2, .ref q3, .null, .null, .null, .int 0, .int 0, .int 0]))] ++ [(q1, .inl (G.2.1, 16, .inl (fun _ => 0)))]) ++ [(q2, .inl (G.2.1, 16, .inl (fun _ => 0)))]) ++ [(q3, .inl (G.2.1, 16, .inl (fun _ => 0)))]) ++ [(q4, .inl (G.2.1, 16, .inl (fun _ => 0)))]) := hD
  refine va_putF (D := G.1) (ci := 0) (v := .ref q4) (ty := .array .int) (C := RX0) (T := TX0) (N := 9) hx hb hts in_ctor0 tyX0 tyX0_ok nmX0 hown hK.1 hP hD hS 0 rfl rfl 3 (by decide) (hts (.fieldLink RX0 21 "RuleCourt$Court" "excepts" "[I") (by decide +kernel)) (fun _ h9 => h9) rfl hin rfl (by decide +kernel) (by first | rfl | decide) rfl (Nat.le_of_ble_eq_true rfl) dX0_init_33 (fun H locs hP hD hS => ?_)
  have hP : va_P G.1 vwCl (((([(h0, .inr (0, [.ref q1, .ref q2, .ref q3, .ref q4, .null, .null, .int 0, .int 0, .int 0]))] ++ [(q1, .inl (G.2.1, 16, .inl (fun _ => 0)))]) ++ [(q2, .inl (G.2.1, 16, .inl (fun _ => 0)))]) ++ [(q3, .inl (G.2.1, 16, .inl (fun _ => 0)))]) ++ [(q4, .inl (G.2.1, 16, .inl (fun _ => 0)))]) H := hP
  have hD : va_D A (((([(h0, .inr (0, [.ref q1, .ref q2, .ref q3, .ref q4, .null, .null, .int 0, .int 0, .int 0]))] ++ [(q1, .inl (G.2.1, 16, .inl (fun _ => 0)))]) ++ [(q2, .inl (G.2.1, 16, .inl (fun _ => 0)))]) ++ [(q3, .inl (G.2.1, 16, .inl (fun _ => 0)))]) ++ [(q4, .inl (G.2.1, 16, .inl (fun _ => 0)))]) := hD
  refine lv_aload_n hx hb dX0_init_36 rfl (lv_at hl 0 rfl) ?_
  refine lv_bipush (v := 16) hx hb dX0_init_37 (by decide) ?_
  refine zc_newa (N := 16) S (by decide +kernel) hK hP hD hS hA rfl (by decide) (Nat.le_of_ble_eq_true rfl) (Nat.le_of_ble_eq_true rfl) dX0_init_39 (fun q5 H hP hD hS => ?_)
  have hP : va_P G.1 vwCl ((((([(h0, .inr (0, [.ref q1, .ref q2, .ref q3, .ref q4, .null, .null, .int 0, .int 0, .int 0]))] ++ [(q1, .inl (G.2.1, 16, .inl (fun _ => 0)))]) ++ [(q2, .inl (G.2.1, 16, .inl (fun _ => 0)))]) ++ [(q3, .inl (G.2.1, 16, .inl (fun _ => 0)))]) ++ [(q4, .inl (G.2.1, 16, .inl (fun _ => 0)))]) ++ [(q5, .inl (G.2.1, 16, .inl (fun _ => 0)))]) H := hP
  have hD : va_D A ((((([(h0, .inr (0, [.ref q1, .ref q2, .ref q3, .ref q4, .null, .null, .int 0, .int 0, .int 0]))] ++ [(q1, .inl (G.2.1, 16, .inl (fun _ => 0)))]) ++ [(q2, .inl (G.2.1, 16, .inl (fun _ => 0)))]) ++ [(q3, .inl (G.2.1, 16, .inl (fun _ => 0)))]) ++ [(q4, .inl (G.2.1, 16, .inl (fun _ => 0)))]) ++ [(q5, .inl (G.2.1, 16, .inl (fun _ => 0)))]) := hD
  refine va_putF (D := G.1) (ci := 0) (v := .ref q5) (ty := .array .int) (C := RX0) (T := TX0) (N := 9) hx hb hts in_ctor0 tyX0 tyX0_ok nmX0 hown hK.1 hP hD hS 0 rfl rfl 4 (by decide) (hts (.fieldLink RX0 24 "RuleCourt$Court" "power" "[I") (by decide +kernel)) (fun _ h9 => h9) rfl hin rfl (by decide +kernel) (by first | rfl | decide) rfl (Nat.le_of_ble_eq_true rfl) dX0_init_41 (fun H locs hP hD hS => ?_)
  have hP : va_P G.1 vwCl ((((([(h0, .inr (0, [.ref q1, .ref q2, .ref q3, .ref q4, .ref q5, .null, .int 0, .int 0, .int 0]))] ++ [(q1, .inl (G.2.1, 16, .inl (fun _ => 0)))]) ++ [(q2, .inl (G.2.1, 16, .inl (fun _ => 0)))]) ++ [(q3, .inl (G.2.1, 16, .inl (fun _ => 0)))]) ++ [(q4, .inl (G.2.1, 16, .inl (fun _ => 0)))]) ++ [(q5, .inl (G.2.1, 16, .inl (fun _ => 0)))]) H := hP
  have hD : va_D A ((((([(h0, .inr (0, [.ref q1, .ref q2, .ref q3, .ref q4, .ref q5, .null, .int 0, .int 0, .int 0]))] ++ [(q1, .inl (G.2.1, 16, .inl (fun _ => 0)))]) ++ [(q2, .inl (G.2.1, 16, .inl (fun _ => 0)))]) ++ [(q3, .inl (G.2.1, 16, .inl (fun _ => 0)))]) ++ [(q4, .inl (G.2.1, 16, .inl (fun _ => 0)))]) ++ [(q5, .inl (G.2.1, 16, .inl (fun _ => 0)))]) := hD
  refine lv_aload_n hx hb dX0_init_44 rfl (lv_at hl 0 rfl) ?_
  refine lv_bipush (v := 16) hx hb dX0_init_45 (by decide) ?_
  refine zc_newa (N := 16) S (by decide +kernel) hK hP hD hS hA rfl (by decide) (Nat.le_of_ble_eq_true rfl) (Nat.le_of_ble_eq_true rfl) dX0_init_47 (fun q6 H hP hD hS => ?_)
  have hP : va_P G.1 vwCl (((((([(h0, .inr (0, [.ref q1, .ref q2, .ref q3, .ref q4, .ref q5, .null, .int 0, .int 0, .int 0]))] ++ [(q1, .inl (G.2.1, 16, .inl (fun _ => 0)))]) ++ [(q2, .inl (G.2.1, 16, .inl (fun _ => 0)))]) ++ [(q3, .inl (G.2.1, 16, .inl (fun _ => 0)))]) ++ [(q4, .inl (G.2.1, 16, .inl (fun _ => 0)))]) ++ [(q5, .inl (G.2.1, 16, .inl (fun _ => 0)))]) ++ [(q6, .inl (G.2.1, 16, .inl (fun _ => 0)))]) H := hP
  have hD : va_D A (((((([(h0, .inr (0, [.ref q1, .ref q2, .ref q3, .ref q4, .ref q5, .null, .int 0, .int 0, .int 0]))] ++ [(q1, .inl (G.2.1, 16, .inl (fun _ => 0)))]) ++ [(q2, .inl (G.2.1, 16, .inl (fun _ => 0)))]) ++ [(q3, .inl (G.2.1, 16, .inl (fun _ => 0)))]) ++ [(q4, .inl (G.2.1, 16, .inl (fun _ => 0)))]) ++ [(q5, .inl (G.2.1, 16, .inl (fun _ => 0)))]) ++ [(q6, .inl (G.2.1, 16, .inl (fun _ => 0)))]) := hD
  refine va_putF (D := G.1) (ci := 0) (v := .ref q6) (ty := .array .int) (C := RX0) (T := TX0) (N := 9) hx hb hts in_ctor0 tyX0 tyX0_ok nmX0 hown hK.1 hP hD hS 0 rfl rfl 5 (by decide) (hts (.fieldLink RX0 27 "RuleCourt$Court" "beats" "[I") (by decide +kernel)) (fun _ h9 => h9) rfl hin rfl (by decide +kernel) (by first | rfl | decide) rfl (Nat.le_of_ble_eq_true rfl) dX0_init_49 (fun H locs hP hD hS => ?_)
  have hP : va_P G.1 vwCl (((((([(h0, .inr (0, [.ref q1, .ref q2, .ref q3, .ref q4, .ref q5, .ref q6, .int 0, .int 0, .int 0]))] ++ [(q1, .inl (G.2.1, 16, .inl (fun _ => 0)))]) ++ [(q2, .inl (G.2.1, 16, .inl (fun _ => 0)))]) ++ [(q3, .inl (G.2.1, 16, .inl (fun _ => 0)))]) ++ [(q4, .inl (G.2.1, 16, .inl (fun _ => 0)))]) ++ [(q5, .inl (G.2.1, 16, .inl (fun _ => 0)))]) ++ [(q6, .inl (G.2.1, 16, .inl (fun _ => 0)))]) H := hP
  have hD : va_D A (((((([(h0, .inr (0, [.ref q1, .ref q2, .ref q3, .ref q4, .ref q5, .ref q6, .int 0, .int 0, .int 0]))] ++ [(q1, .inl (G.2.1, 16, .inl (fun _ => 0)))]) ++ [(q2, .inl (G.2.1, 16, .inl (fun _ => 0)))]) ++ [(q3, .inl (G.2.1, 16, .inl (fun _ => 0)))]) ++ [(q4, .inl (G.2.1, 16, .inl (fun _ => 0)))]) ++ [(q5, .inl (G.2.1, 16, .inl (fun _ => 0)))]) ++ [(q6, .inl (G.2.1, 16, .inl (fun _ => 0)))]) := hD
  refine lv_aload_n hx hb dX0_init_52 rfl (lv_at hl 0 rfl) ?_
  refine lv_iconst (v := 0) hx hb dX0_init_53 (by decide) ?_
  refine va_put (D := G.1) (ci := 0) (v := .int 0) (ty := .int) (C := RX0) (T := TX0) (N := 9) hx hb hts in_ctor0 tyX0 tyX0_ok nmX0 hown hK.1 hP hD hS 0 rfl rfl 6 (by decide) (hts (.fieldLink RX0 30 "RuleCourt$Court" "facts" "I") (by decide +kernel)) (fun _ h9 => h9) rfl (by decide +kernel) (by first | rfl | decide) rfl (Nat.le_of_ble_eq_true rfl) dX0_init_54 (fun H locs hP hD hS => ?_)
  have hP : va_P G.1 vwCl (((((([(h0, .inr (0, [.ref q1, .ref q2, .ref q3, .ref q4, .ref q5, .ref q6, .int 0, .int 0, .int 0]))] ++ [(q1, .inl (G.2.1, 16, .inl (fun _ => 0)))]) ++ [(q2, .inl (G.2.1, 16, .inl (fun _ => 0)))]) ++ [(q3, .inl (G.2.1, 16, .inl (fun _ => 0)))]) ++ [(q4, .inl (G.2.1, 16, .inl (fun _ => 0)))]) ++ [(q5, .inl (G.2.1, 16, .inl (fun _ => 0)))]) ++ [(q6, .inl (G.2.1, 16, .inl (fun _ => 0)))]) H := hP
  have hD : va_D A (((((([(h0, .inr (0, [.ref q1, .ref q2, .ref q3, .ref q4, .ref q5, .ref q6, .int 0, .int 0, .int 0]))] ++ [(q1, .inl (G.2.1, 16, .inl (fun _ => 0)))]) ++ [(q2, .inl (G.2.1, 16, .inl (fun _ => 0)))]) ++ [(q3, .inl (G.2.1, 16, .inl (fun _ => 0)))]) ++ [(q4, .inl (G.2.1, 16, .inl (fun _ => 0)))]) ++ [(q5, .inl (G.2.1, 16, .inl (fun _ => 0)))]) ++ [(q6, .inl (G.2.1, 16, .inl (fun _ => 0)))]) := hD
  refine lv_aload_n hx hb dX0_init_57 rfl (lv_at hl 0 rfl) ?_
  refine lv_iconst (v := 0) hx hb dX0_init_58 (by decide) ?_
  refine va_put (D := G.1) (ci := 0) (v := .int 0) (ty := .int) (C := RX0) (T := TX0) (N := 9) hx hb hts in_ctor0 tyX0 tyX0_ok nmX0 hown hK.1 hP hD hS 0 rfl rfl 7 (by decide) (hts (.fieldLink RX0 34 "RuleCourt$Court" "size" "I") (by decide +kernel)) (fun _ h9 => h9) rfl (by decide +kernel) (by first | rfl | decide) rfl (Nat.le_of_ble_eq_true rfl) dX0_init_59 (fun H locs hP hD hS => ?_)
  have hP : va_P G.1 vwCl (((((([(h0, .inr (0, [.ref q1, .ref q2, .ref q3, .ref q4, .ref q5, .ref q6, .int 0, .int 0, .int 0]))] ++ [(q1, .inl (G.2.1, 16, .inl (fun _ => 0)))]) ++ [(q2, .inl (G.2.1, 16, .inl (fun _ => 0)))]) ++ [(q3, .inl (G.2.1, 16, .inl (fun _ => 0)))]) ++ [(q4, .inl (G.2.1, 16, .inl (fun _ => 0)))]) ++ [(q5, .inl (G.2.1, 16, .inl (fun _ => 0)))]) ++ [(q6, .inl (G.2.1, 16, .inl (fun _ => 0)))]) H := hP
  have hD : va_D A (((((([(h0, .inr (0, [.ref q1, .ref q2, .ref q3, .ref q4, .ref q5, .ref q6, .int 0, .int 0, .int 0]))] ++ [(q1, .inl (G.2.1, 16, .inl (fun _ => 0)))]) ++ [(q2, .inl (G.2.1, 16, .inl (fun _ => 0)))]) ++ [(q3, .inl (G.2.1, 16, .inl (fun _ => 0)))]) ++ [(q4, .inl (G.2.1, 16, .inl (fun _ => 0)))]) ++ [(q5, .inl (G.2.1, 16, .inl (fun _ => 0)))]) ++ [(q6, .inl (G.2.1, 16, .inl (fun _ => 0)))]) := hD
  refine lv_aload_n hx hb dX0_init_62 rfl (lv_at hl 0 rfl) ?_
  refine lv_iconst (v := 0) hx hb dX0_init_63 (by decide) ?_
  refine va_put (D := G.1) (ci := 0) (v := .int 0) (ty := .int) (C := RX0) (T := TX0) (N := 9) hx hb hts in_ctor0 tyX0 tyX0_ok nmX0 hown hK.1 hP hD hS 0 rfl rfl 8 (by decide) (hts (.fieldLink RX0 37 "RuleCourt$Court" "shut" "I") (by decide +kernel)) (fun _ h9 => h9) rfl (by decide +kernel) (by first | rfl | decide) rfl (Nat.le_of_ble_eq_true rfl) dX0_init_64 (fun H locs hP hD hS => ?_)
  have hP : va_P G.1 vwCl (((((([(h0, .inr (0, [.ref q1, .ref q2, .ref q3, .ref q4, .ref q5, .ref q6, .int 0, .int 0, .int 0]))] ++ [(q1, .inl (G.2.1, 16, .inl (fun _ => 0)))]) ++ [(q2, .inl (G.2.1, 16, .inl (fun _ => 0)))]) ++ [(q3, .inl (G.2.1, 16, .inl (fun _ => 0)))]) ++ [(q4, .inl (G.2.1, 16, .inl (fun _ => 0)))]) ++ [(q5, .inl (G.2.1, 16, .inl (fun _ => 0)))]) ++ [(q6, .inl (G.2.1, 16, .inl (fun _ => 0)))]) H := hP
  have hD : va_D A (((((([(h0, .inr (0, [.ref q1, .ref q2, .ref q3, .ref q4, .ref q5, .ref q6, .int 0, .int 0, .int 0]))] ++ [(q1, .inl (G.2.1, 16, .inl (fun _ => 0)))]) ++ [(q2, .inl (G.2.1, 16, .inl (fun _ => 0)))]) ++ [(q3, .inl (G.2.1, 16, .inl (fun _ => 0)))]) ++ [(q4, .inl (G.2.1, 16, .inl (fun _ => 0)))]) ++ [(q5, .inl (G.2.1, 16, .inl (fun _ => 0)))]) ++ [(q6, .inl (G.2.1, 16, .inl (fun _ => 0)))]) := hD
  exact W.vret hx hb hr (fun t ht hW => ⟨⟨(), rfl, trivial, _, ⟨zad [h0, q1, q2, q3, q4, q5, q6], rfl, rfl⟩, by rw [ht]; exact hP, hD⟩, hS.F ht⟩) hS.2.2 dX0_init_67
theorem in_ctor6 : ∀ w ∈ u_ws RX6 TX6 12, w ∈ wsX6_init := by decide +kernel
theorem zdf6 : ∀ j, j < 12 → defaultValue (tyX6 j) = vp_V [.null, .null, .null, .null, .null, .null, .null, .int 0, .int 0, .int 0, .int 0, .int 0] j := by decide +kernel
def rmX6_init : Room := { frames := 1, cells := 7, slots := 100, locals := 12 }
set_option maxHeartbeats 4000000 in
set_option maxRecDepth 100000 in
theorem c_X6_init (l : Launch) (G : zG) : zNew l yX6_init wsX6_init rmX6_init G 6 [.null, .null, .null, .null, .null, .null, .null, .int 0, .int 0, .int 0, .int 0, .int 0] 7 100 (fun q w => ∃ a : Nat → Nat, a 0 = q ∧ w = w6 G a zz6) := by
  intro h0 sz
  refine Met.ofW (cc := cX6_init) (maxL := 1) (ret := none) (by decide +kernel) rfl ?_
  intro p e s m args below meth c s₁ B hml hv
  obtain ⟨rfl, hsz, hP, hK, hD0, hAO⟩ := hv
  have hx := B.exec
  have hb := B.bytes
  have hr := B.returns
  have hts := atoms_spec (ws := wsX6_init) B.pre
  have hown : s.vm.findClass RX6 = some m.cls := findClass_of_methodNamed B.named
  have hlocks := B.notSynchronized
  have hin : meth.name = "<init>" := (name_of_methodNamed B.named B.method).1
  have S : CallFix p m c cX6_init 1 s _ wsX6_init RX6 := ⟨hx, hb, hml, hown, hts⟩
  subst hsz
  have hD := hD0.self (sz := s.heap.size)
  generalize hAe : va_A [((h0, .inr (6, [.null, .null, .null, .null, .null, .null, .null, .int 0, .int 0, .int 0, .int 0, .int 0])) : Nat × va_E)] s.heap.size = A at hD ⊢
  have hA : ∀ q : Nat, s.heap.size ≤ q → A q := fun q h => by rw [← hAe]; exact Or.inr h
  have hS : va_S A s.heap s.heap [] := va_S.rf
  have hP : va_P G.1 vwCl [(h0, .inr (6, [.null, .null, .null, .null, .null, .null, .null, .int 0, .int 0, .int 0, .int 0, .int 0]))] s.heap := hP
  have hl := lv_entry ([.ref h0]) (n := 1) (Nat.le_of_ble_eq_true rfl)
  rw [lg_entry_eq]
  generalize (lg_sl ([.ref h0]) ++ List.replicate (1 - (lg_sl ([.ref h0])).length) Slot.unset).toArray = ls at hl ⊢
  have hl : lv_has ls 1 [(0, .ref h0)] := hl
  refine lv_aload_n hx hb dX6_init_0 rfl (lv_at hl 0 rfl) ?_
  refine W.objInit hx hb hown (hts (.methodLink RX6 3 objectInit) (by decide +kernel)) (hts (.instanceMethod objectInit) (by decide +kernel)) (hts (.code objectInit ⟨#[0xb1]⟩ 1 none) (by decide +kernel)) rfl (by rw [hml]; exact hl.1) rfl dX6_init_1 (Nat.le_of_ble_eq_true rfl) (Nat.le_of_ble_eq_true rfl) ?_
  refine W.eq (g2 := F0 m 4 ls []) rfl ?_
  refine lv_aload_n hx hb dX6_init_4 rfl (lv_at hl 0 rfl) ?_
  refine lv_iconst (v := 4) hx hb dX6_init_5 (by decide) ?_
  refine zc_newa (N := 4) S (by decide +kernel) hK hP hD hS hA rfl (by decide) (Nat.le_of_ble_eq_true rfl) (Nat.le_of_ble_eq_true rfl) dX6_init_6 (fun q1 H hP hD hS => ?_)
  have hP : va_P G.1 vwCl ([(h0, .inr (6, [.null, .null, .null, .null, .null, .null, .null, .int 0, .int 0, .int 0, .int 0, .int 0]))] ++ [(q1, .inl (G.2.1, 4, .inl (fun _ => 0)))]) H := hP
  have hD : va_D A ([(h0, .inr (6, [.null, .null, .null, .null, .null, .null, .null, .int 0, .int 0, .int 0, .int 0, .int 0]))] ++ [(q1, .inl (G.2.1, 4, .inl (fun _ => 0)))]) := hD
  refine va_putF (D := G.1) (ci := 6) (v := .ref q1) (ty := .array .int) (C := RX6) (T := TX6) (N := 12) hx hb hts in_ctor6 tyX6 tyX6_ok nmX6 hown hK.1 hP hD hS 0 rfl rfl 0 (by decide) (hts (.fieldLink RX6 9 "RuleCourt$View" "known" "[I") (by decide +kernel)) (fun _ h9 => h9) rfl hin rfl (by decide +kernel) (by first | rfl | decide) rfl (Nat.le_of_ble_eq_true rfl) dX6_init_8 (fun H locs hP hD hS => ?_)
  have hP : va_P G.1 vwCl ([(h0, .inr (6, [.ref q1, .null, .null, .null, .null, .null, .null, .int 0, .int 0, .int 0, .int 0, .int 0]))] ++ [(q1, .inl (G.2.1, 4, .inl (fun _ => 0)))]) H := hP
  have hD : va_D A ([(h0, .inr (6, [.ref q1, .null, .null, .null, .null, .null, .null, .int 0, .int 0, .int 0, .int 0, .int 0]))] ++ [(q1, .inl (G.2.1, 4, .inl (fun _ => 0)))]) := hD
  refine lv_aload_n hx hb dX6_init_11 rfl (lv_at hl 0 rfl) ?_
  refine lv_iconst (v := 4) hx hb dX6_init_12 (by decide) ?_
  refine zc_newa (N := 4) S (by decide +kernel) hK hP hD hS hA rfl (by decide) (Nat.le_of_ble_eq_true rfl) (Nat.le_of_ble_eq_true rfl) dX6_init_13 (fun q2 H hP hD hS => ?_)
  have hP : va_P G.1 vwCl (([(h0, .inr (6, [.ref q1, .null, .null, .null, .null, .null, .null, .int 0, .int 0, .int 0, .int 0, .int 0]))] ++ [(q1, .inl (G.2.1, 4, .inl (fun _ => 0)))]) ++ [(q2, .inl (G.2.1, 4, .inl (fun _ => 0)))]) H := hP
  have hD : va_D A (([(h0, .inr (6, [.ref q1, .null, .null, .null, .null, .null, .null, .int 0, .int 0, .int 0, .int 0, .int 0]))] ++ [(q1, .inl (G.2.1, 4, .inl (fun _ => 0)))]) ++ [(q2, .inl (G.2.1, 4, .inl (fun _ => 0)))]) := hD
  refine va_putF (D := G.1) (ci := 6) (v := .ref q2) (ty := .array .int) (C := RX6) (T := TX6) (N := 12) hx hb hts in_ctor6 tyX6 tyX6_ok nmX6 hown hK.1 hP hD hS 0 rfl rfl 1 (by decide) (hts (.fieldLink RX6 15 "RuleCourt$View" "fresh" "[I") (by decide +kernel)) (fun _ h9 => h9) rfl hin rfl (by decide +kernel) (by first | rfl | decide) rfl (Nat.le_of_ble_eq_true rfl) dX6_init_15 (fun H locs hP hD hS => ?_)
  have hP : va_P G.1 vwCl (([(h0, .inr (6, [.ref q1, .ref q2, .null, .null, .null, .null, .null, .int 0, .int 0, .int 0, .int 0, .int 0]))] ++ [(q1, .inl (G.2.1, 4, .inl (fun _ => 0)))]) ++ [(q2, .inl (G.2.1, 4, .inl (fun _ => 0)))]) H := hP
  have hD : va_D A (([(h0, .inr (6, [.ref q1, .ref q2, .null, .null, .null, .null, .null, .int 0, .int 0, .int 0, .int 0, .int 0]))] ++ [(q1, .inl (G.2.1, 4, .inl (fun _ => 0)))]) ++ [(q2, .inl (G.2.1, 4, .inl (fun _ => 0)))]) := hD
  refine lv_aload_n hx hb dX6_init_18 rfl (lv_at hl 0 rfl) ?_
  refine lv_bipush (v := 20) hx hb dX6_init_19 (by decide) ?_
  refine zc_newa (N := 20) S (by decide +kernel) hK hP hD hS hA rfl (by decide) (Nat.le_of_ble_eq_true rfl) (Nat.le_of_ble_eq_true rfl) dX6_init_21 (fun q3 H hP hD hS => ?_)
  have hP : va_P G.1 vwCl ((([(h0, .inr (6, [.ref q1, .ref q2, .null, .null, .null, .null, .null, .int 0, .int 0, .int 0, .int 0, .int 0]))] ++ [(q1, .inl (G.2.1, 4, .inl (fun _ => 0)))]) ++ [(q2, .inl (G.2.1, 4, .inl (fun _ => 0)))]) ++ [(q3, .inl (G.2.1, 20, .inl (fun _ => 0)))]) H := hP
  have hD : va_D A ((([(h0, .inr (6, [.ref q1, .ref q2, .null, .null, .null, .null, .null, .int 0, .int 0, .int 0, .int 0, .int 0]))] ++ [(q1, .inl (G.2.1, 4, .inl (fun _ => 0)))]) ++ [(q2, .inl (G.2.1, 4, .inl (fun _ => 0)))]) ++ [(q3, .inl (G.2.1, 20, .inl (fun _ => 0)))]) := hD
  refine va_putF (D := G.1) (ci := 6) (v := .ref q3) (ty := .array .int) (C := RX6) (T := TX6) (N := 12) hx hb hts in_ctor6 tyX6 tyX6_ok nmX6 hown hK.1 hP hD hS 0 rfl rfl 2 (by decide) (hts (.fieldLink RX6 18 "RuleCourt$View" "strictFor" "[I") (by decide +kernel)) (fun _ h9 => h9) rfl hin rfl (by decide +kernel) (by first | rfl | decide) rfl (Nat.le_of_ble_eq_true rfl) dX6_init_23 (fun H locs hP hD hS => ?_)
  have hP : va_P G.1 vwCl ((([(h0, .inr (6, [.ref q1, .ref q2, .ref q3, .null, .null, .null, .null, .int 0, .int 0, .int 0, .int 0, .int 0]))] ++ [(q1, .inl (G.2.1, 4, .inl (fun _ => 0)))]) ++ [(q2, .inl (G.2.1, 4, .inl (fun _ => 0)))]) ++ [(q3, .inl (G.2.1, 20, .inl (fun _ => 0)))]) H := hP
  have hD : va_D A ((([(h0, .inr (6, [.ref q1, .ref q2, .ref q3, .null, .null, .null, .null, .int 0, .int 0, .int 0, .int 0, .int 0]))] ++ [(q1, .inl (G.2.1, 4, .inl (fun _ => 0)))]) ++ [(q2, .inl (G.2.1, 4, .inl (fun _ => 0)))]) ++ [(q3, .inl (G.2.1, 20, .inl (fun _ => 0)))]) := hD
  refine lv_aload_n hx hb dX6_init_26 rfl (lv_at hl 0 rfl) ?_
  refine lv_bipush (v := 20) hx hb dX6_init_27 (by decide) ?_
  refine zc_newa (N := 20) S (by decide +kernel) hK hP hD hS hA rfl (by decide) (Nat.le_of_ble_eq_true rfl) (Nat.le_of_ble_eq_true rfl) dX6_init_29 (fun q4 H hP hD hS => ?_)
  have hP : va_P G.1 vwCl (((([(h0, .inr (6, [.ref q1, .ref q2, .ref q3, .null, .null, .null, .null, .int 0, .int 0, .int 0, .int 0, .int 0]))] ++ [(q1, .inl (G.2.1, 4, .inl (fun _ => 0)))]) ++ [(q2, .inl (G.2.1, 4, .inl (fun _ => 0)))]) ++ [(q3, .inl (G.2.1, 20, .inl (fun _ => 0)))]) ++ [(q4, .inl (G.2.1, 20, .inl (fun _ => 0)))]) H := hP
  have hD : va_D A (((([(h0, .inr (6, [.ref q1, .ref q2, .ref q3, .null, .null, .null, .null, .int 0, .int 0, .int 0, .int 0, .int 0]))] ++ [(q1, .inl (G.2.1, 4, .inl (fun _ => 0)))]) ++ [(q2, .inl (G.2.1, 4, .inl (fun _ => 0)))]) ++ [(q3, .inl (G.2.1, 20, .inl (fun _ => 0)))]) ++ [(q4, .inl (G.2.1, 20, .inl (fun _ => 0)))]) := hD
  refine va_putF (D := G.1) (ci := 6) (v := .ref q4) (ty := .array .int) (C := RX6) (T := TX6) (N := 12) hx hb hts in_ctor6 tyX6 tyX6_ok nmX6 hown hK.1 hP hD hS 0 rfl rfl 3 (by decide) (hts (.fieldLink RX6 21 "RuleCourt$View" "forwardFor" "[I") (by decide +kernel)) (fun _ h9 => h9) rfl hin rfl (by decide +kernel) (by first | rfl | decide) rfl (Nat.le_of_ble_eq_true rfl) dX6_init_31 (fun H locs hP hD hS => ?_)
  have hP : va_P G.1 vwCl (((([(h0, .inr (6, [.ref q1, .ref q2, .ref q3, .ref q4, .null, .null, .null, .int 0, .int 0, .int 0, .int 0, .int 0]))] ++ [(q1, .inl (G.2.1, 4, .inl (fun _ => 0)))]) ++ [(q2, .inl (G.2.1, 4, .inl (fun _ => 0)))]) ++ [(q3, .inl (G.2.1, 20, .inl (fun _ => 0)))]) ++ [(q4, .inl (G.2.1, 20, .inl (fun _ => 0)))]) H := hP
  have hD : va_D A (((([(h0, .inr (6, [.ref q1, .ref q2, .ref q3, .ref q4, .null, .null, .null, .int 0, .int 0, .int 0, .int 0, .int 0]))] ++ [(q1, .inl (G.2.1, 4, .inl (fun _ => 0)))]) ++ [(q2, .inl (G.2.1, 4, .inl (fun _ => 0)))]) ++ [(q3, .inl (G.2.1, 20, .inl (fun _ => 0)))]) ++ [(q4, .inl (G.2.1, 20, .inl (fun _ => 0)))]) := hD
  refine lv_aload_n hx hb dX6_init_34 rfl (lv_at hl 0 rfl) ?_
  refine lv_bipush (v := 20) hx hb dX6_init_35 (by decide) ?_
  refine zc_newa (N := 20) S (by decide +kernel) hK hP hD hS hA rfl (by decide) (Nat.le_of_ble_eq_true rfl) (Nat.le_of_ble_eq_true rfl) dX6_init_37 (fun q5 H hP hD hS => ?_)
  have hP : va_P G.1 vwCl ((((([(h0, .inr (6, [.ref q1, .ref q2, .ref q3, .ref q4, .null, .null, .null, .int 0, .int 0, .int 0, .int 0, .int 0]))] ++ [(q1, .inl (G.2.1, 4, .inl (fun _ => 0)))]) ++ [(q2, .inl (G.2.1, 4, .inl (fun _ => 0)))]) ++ [(q3, .inl (G.2.1, 20, .inl (fun _ => 0)))]) ++ [(q4, .inl (G.2.1, 20, .inl (fun _ => 0)))]) ++ [(q5, .inl (G.2.1, 20, .inl (fun _ => 0)))]) H := hP
  have hD : va_D A ((((([(h0, .inr (6, [.ref q1, .ref q2, .ref q3, .ref q4, .null, .null, .null, .int 0, .int 0, .int 0, .int 0, .int 0]))] ++ [(q1, .inl (G.2.1, 4, .inl (fun _ => 0)))]) ++ [(q2, .inl (G.2.1, 4, .inl (fun _ => 0)))]) ++ [(q3, .inl (G.2.1, 20, .inl (fun _ => 0)))]) ++ [(q4, .inl (G.2.1, 20, .inl (fun _ => 0)))]) ++ [(q5, .inl (G.2.1, 20, .inl (fun _ => 0)))]) := hD
  refine va_putF (D := G.1) (ci := 6) (v := .ref q5) (ty := .array .int) (C := RX6) (T := TX6) (N := 12) hx hb hts in_ctor6 tyX6 tyX6_ok nmX6 hown hK.1 hP hD hS 0 rfl rfl 4 (by decide) (hts (.fieldLink RX6 24 "RuleCourt$View" "allFor" "[I") (by decide +kernel)) (fun _ h9 => h9) rfl hin rfl (by decide +kernel) (by first | rfl | decide) rfl (Nat.le_of_ble_eq_true rfl) dX6_init_39 (fun H locs hP hD hS => ?_)
  have hP : va_P G.1 vwCl ((((([(h0, .inr (6, [.ref q1, .ref q2, .ref q3, .ref q4, .ref q5, .null, .null, .int 0, .int 0, .int 0, .int 0, .int 0]))] ++ [(q1, .inl (G.2.1, 4, .inl (fun _ => 0)))]) ++ [(q2, .inl (G.2.1, 4, .inl (fun _ => 0)))]) ++ [(q3, .inl (G.2.1, 20, .inl (fun _ => 0)))]) ++ [(q4, .inl (G.2.1, 20, .inl (fun _ => 0)))]) ++ [(q5, .inl (G.2.1, 20, .inl (fun _ => 0)))]) H := hP
  have hD : va_D A ((((([(h0, .inr (6, [.ref q1, .ref q2, .ref q3, .ref q4, .ref q5, .null, .null, .int 0, .int 0, .int 0, .int 0, .int 0]))] ++ [(q1, .inl (G.2.1, 4, .inl (fun _ => 0)))]) ++ [(q2, .inl (G.2.1, 4, .inl (fun _ => 0)))]) ++ [(q3, .inl (G.2.1, 20, .inl (fun _ => 0)))]) ++ [(q4, .inl (G.2.1, 20, .inl (fun _ => 0)))]) ++ [(q5, .inl (G.2.1, 20, .inl (fun _ => 0)))]) := hD
  refine lv_aload_n hx hb dX6_init_42 rfl (lv_at hl 0 rfl) ?_
  refine lv_bipush (v := 16) hx hb dX6_init_43 (by decide) ?_
  refine zc_newa (N := 16) S (by decide +kernel) hK hP hD hS hA rfl (by decide) (Nat.le_of_ble_eq_true rfl) (Nat.le_of_ble_eq_true rfl) dX6_init_45 (fun q6 H hP hD hS => ?_)
  have hP : va_P G.1 vwCl (((((([(h0, .inr (6, [.ref q1, .ref q2, .ref q3, .ref q4, .ref q5, .null, .null, .int 0, .int 0, .int 0, .int 0, .int 0]))] ++ [(q1, .inl (G.2.1, 4, .inl (fun _ => 0)))]) ++ [(q2, .inl (G.2.1, 4, .inl (fun _ => 0)))]) ++ [(q3, .inl (G.2.1, 20, .inl (fun _ => 0)))]) ++ [(q4, .inl (G.2.1, 20, .inl (fun _ => 0)))]) ++ [(q5, .inl (G.2.1, 20, .inl (fun _ => 0)))]) ++ [(q6, .inl (G.2.1, 16, .inl (fun _ => 0)))]) H := hP
  have hD : va_D A (((((([(h0, .inr (6, [.ref q1, .ref q2, .ref q3, .ref q4, .ref q5, .null, .null, .int 0, .int 0, .int 0, .int 0, .int 0]))] ++ [(q1, .inl (G.2.1, 4, .inl (fun _ => 0)))]) ++ [(q2, .inl (G.2.1, 4, .inl (fun _ => 0)))]) ++ [(q3, .inl (G.2.1, 20, .inl (fun _ => 0)))]) ++ [(q4, .inl (G.2.1, 20, .inl (fun _ => 0)))]) ++ [(q5, .inl (G.2.1, 20, .inl (fun _ => 0)))]) ++ [(q6, .inl (G.2.1, 16, .inl (fun _ => 0)))]) := hD
  refine va_putF (D := G.1) (ci := 6) (v := .ref q6) (ty := .array .int) (C := RX6) (T := TX6) (N := 12) hx hb hts in_ctor6 tyX6 tyX6_ok nmX6 hown hK.1 hP hD hS 0 rfl rfl 5 (by decide) (hts (.fieldLink RX6 27 "RuleCourt$View" "above" "[I") (by decide +kernel)) (fun _ h9 => h9) rfl hin rfl (by decide +kernel) (by first | rfl | decide) rfl (Nat.le_of_ble_eq_true rfl) dX6_init_47 (fun H locs hP hD hS => ?_)
  have hP : va_P G.1 vwCl (((((([(h0, .inr (6, [.ref q1, .ref q2, .ref q3, .ref q4, .ref q5, .ref q6, .null, .int 0, .int 0, .int 0, .int 0, .int 0]))] ++ [(q1, .inl (G.2.1, 4, .inl (fun _ => 0)))]) ++ [(q2, .inl (G.2.1, 4, .inl (fun _ => 0)))]) ++ [(q3, .inl (G.2.1, 20, .inl (fun _ => 0)))]) ++ [(q4, .inl (G.2.1, 20, .inl (fun _ => 0)))]) ++ [(q5, .inl (G.2.1, 20, .inl (fun _ => 0)))]) ++ [(q6, .inl (G.2.1, 16, .inl (fun _ => 0)))]) H := hP
  have hD : va_D A (((((([(h0, .inr (6, [.ref q1, .ref q2, .ref q3, .ref q4, .ref q5, .ref q6, .null, .int 0, .int 0, .int 0, .int 0, .int 0]))] ++ [(q1, .inl (G.2.1, 4, .inl (fun _ => 0)))]) ++ [(q2, .inl (G.2.1, 4, .inl (fun _ => 0)))]) ++ [(q3, .inl (G.2.1, 20, .inl (fun _ => 0)))]) ++ [(q4, .inl (G.2.1, 20, .inl (fun _ => 0)))]) ++ [(q5, .inl (G.2.1, 20, .inl (fun _ => 0)))]) ++ [(q6, .inl (G.2.1, 16, .inl (fun _ => 0)))]) := hD
  refine lv_aload_n hx hb dX6_init_50 rfl (lv_at hl 0 rfl) ?_
  refine lv_bipush (v := 16) hx hb dX6_init_51 (by decide) ?_
  refine zc_newa (N := 16) S (by decide +kernel) hK hP hD hS hA rfl (by decide) (Nat.le_of_ble_eq_true rfl) (Nat.le_of_ble_eq_true rfl) dX6_init_53 (fun q7 H hP hD hS => ?_)
  have hP : va_P G.1 vwCl ((((((([(h0, .inr (6, [.ref q1, .ref q2, .ref q3, .ref q4, .ref q5, .ref q6, .null, .int 0, .int 0, .int 0, .int 0, .int 0]))] ++ [(q1, .inl (G.2.1, 4, .inl (fun _ => 0)))]) ++ [(q2, .inl (G.2.1, 4, .inl (fun _ => 0)))]) ++ [(q3, .inl (G.2.1, 20, .inl (fun _ => 0)))]) ++ [(q4, .inl (G.2.1, 20, .inl (fun _ => 0)))]) ++ [(q5, .inl (G.2.1, 20, .inl (fun _ => 0)))]) ++ [(q6, .inl (G.2.1, 16, .inl (fun _ => 0)))]) ++ [(q7, .inl (G.2.1, 16, .inl (fun _ => 0)))]) H := hP
  have hD : va_D A ((((((([(h0, .inr (6, [.ref q1, .ref q2, .ref q3, .ref q4, .ref q5, .ref q6, .null, .int 0, .int 0, .int 0, .int 0, .int 0]))] ++ [(q1, .inl (G.2.1, 4, .inl (fun _ => 0)))]) ++ [(q2, .inl (G.2.1, 4, .inl (fun _ => 0)))]) ++ [(q3, .inl (G.2.1, 20, .inl (fun _ => 0)))]) ++ [(q4, .inl (G.2.1, 20, .inl (fun _ => 0)))]) ++ [(q5, .inl (G.2.1, 20, .inl (fun _ => 0)))]) ++ [(q6, .inl (G.2.1, 16, .inl (fun _ => 0)))]) ++ [(q7, .inl (G.2.1, 16, .inl (fun _ => 0)))]) := hD
  refine va_putF (D := G.1) (ci := 6) (v := .ref q7) (ty := .array .int) (C := RX6) (T := TX6) (N := 12) hx hb hts in_ctor6 tyX6 tyX6_ok nmX6 hown hK.1 hP hD hS 0 rfl rfl 6 (by decide) (hts (.fieldLink RX6 30 "RuleCourt$View" "reach" "[I") (by decide +kernel)) (fun _ h9 => h9) rfl hin rfl (by decide +kernel) (by first | rfl | decide) rfl (Nat.le_of_ble_eq_true rfl) dX6_init_55 (fun H locs hP hD hS => ?_)
  have hP : va_P G.1 vwCl ((((((([(h0, .inr (6, [.ref q1, .ref q2, .ref q3, .ref q4, .ref q5, .ref q6, .ref q7, .int 0, .int 0, .int 0, .int 0, .int 0]))] ++ [(q1, .inl (G.2.1, 4, .inl (fun _ => 0)))]) ++ [(q2, .inl (G.2.1, 4, .inl (fun _ => 0)))]) ++ [(q3, .inl (G.2.1, 20, .inl (fun _ => 0)))]) ++ [(q4, .inl (G.2.1, 20, .inl (fun _ => 0)))]) ++ [(q5, .inl (G.2.1, 20, .inl (fun _ => 0)))]) ++ [(q6, .inl (G.2.1, 16, .inl (fun _ => 0)))]) ++ [(q7, .inl (G.2.1, 16, .inl (fun _ => 0)))]) H := hP
  have hD : va_D A ((((((([(h0, .inr (6, [.ref q1, .ref q2, .ref q3, .ref q4, .ref q5, .ref q6, .ref q7, .int 0, .int 0, .int 0, .int 0, .int 0]))] ++ [(q1, .inl (G.2.1, 4, .inl (fun _ => 0)))]) ++ [(q2, .inl (G.2.1, 4, .inl (fun _ => 0)))]) ++ [(q3, .inl (G.2.1, 20, .inl (fun _ => 0)))]) ++ [(q4, .inl (G.2.1, 20, .inl (fun _ => 0)))]) ++ [(q5, .inl (G.2.1, 20, .inl (fun _ => 0)))]) ++ [(q6, .inl (G.2.1, 16, .inl (fun _ => 0)))]) ++ [(q7, .inl (G.2.1, 16, .inl (fun _ => 0)))]) := hD
  refine lv_aload_n hx hb dX6_init_58 rfl (lv_at hl 0 rfl) ?_
  refine lv_iconst (v := 0) hx hb dX6_init_59 (by decide) ?_
  refine va_put (D := G.1) (ci := 6) (v := .int 0) (ty := .int) (C := RX6) (T := TX6) (N := 12) hx hb hts in_ctor6 tyX6 tyX6_ok nmX6 hown hK.1 hP hD hS 0 rfl rfl 7 (by decide) (hts (.fieldLink RX6 33 "RuleCourt$View" "facts" "I") (by decide +kernel)) (fun _ h9 => h9) rfl (by decide +kernel) (by first | rfl | decide) rfl (Nat.le_of_ble_eq_true rfl) dX6_init_60 (fun H locs hP hD hS => ?_)
  have hP : va_P G.1 vwCl ((((((([(h0, .inr (6, [.ref q1, .ref q2, .ref q3, .ref q4, .ref q5, .ref q6, .ref q7, .int 0, .int 0, .int 0, .int 0, .int 0]))] ++ [(q1, .inl (G.2.1, 4, .inl (fun _ => 0)))]) ++ [(q2, .inl (G.2.1, 4, .inl (fun _ => 0)))]) ++ [(q3, .inl (G.2.1, 20, .inl (fun _ => 0)))]) ++ [(q4, .inl (G.2.1, 20, .inl (fun _ => 0)))]) ++ [(q5, .inl (G.2.1, 20, .inl (fun _ => 0)))]) ++ [(q6, .inl (G.2.1, 16, .inl (fun _ => 0)))]) ++ [(q7, .inl (G.2.1, 16, .inl (fun _ => 0)))]) H := hP
  have hD : va_D A ((((((([(h0, .inr (6, [.ref q1, .ref q2, .ref q3, .ref q4, .ref q5, .ref q6, .ref q7, .int 0, .int 0, .int 0, .int 0, .int 0]))] ++ [(q1, .inl (G.2.1, 4, .inl (fun _ => 0)))]) ++ [(q2, .inl (G.2.1, 4, .inl (fun _ => 0)))]) ++ [(q3, .inl (G.2.1, 20, .inl (fun _ => 0)))]) ++ [(q4, .inl (G.2.1, 20, .inl (fun _ => 0)))]) ++ [(q5, .inl (G.2.1, 20, .inl (fun _ => 0)))]) ++ [(q6, .inl (G.2.1, 16, .inl (fun _ => 0)))]) ++ [(q7, .inl (G.2.1, 16, .inl (fun _ => 0)))]) := hD
  refine lv_aload_n hx hb dX6_init_63 rfl (lv_at hl 0 rfl) ?_
  refine lv_iconst (v := 0) hx hb dX6_init_64 (by decide) ?_
  refine va_put (D := G.1) (ci := 6) (v := .int 0) (ty := .int) (C := RX6) (T := TX6) (N := 12) hx hb hts in_ctor6 tyX6 tyX6_ok nmX6 hown hK.1 hP hD hS 0 rfl rfl 8 (by decide) (hts (.fieldLink RX6 37 "RuleCourt$View" "applies" "I") (by decide +kernel)) (fun _ h9 => h9) rfl (by decide +kernel) (by first | rfl | decide) rfl (Nat.le_of_ble_eq_true rfl) dX6_init_65 (fun H locs hP hD hS => ?_)
  have hP : va_P G.1 vwCl ((((((([(h0, .inr (6, [.ref q1, .ref q2, .ref q3, .ref q4, .ref q5, .ref q6, .ref q7, .int 0, .int 0, .int 0, .int 0, .int 0]))] ++ [(q1, .inl (G.2.1, 4, .inl (fun _ => 0)))]) ++ [(q2, .inl (G.2.1, 4, .inl (fun _ => 0)))]) ++ [(q3, .inl (G.2.1, 20, .inl (fun _ => 0)))]) ++ [(q4, .inl (G.2.1, 20, .inl (fun _ => 0)))]) ++ [(q5, .inl (G.2.1, 20, .inl (fun _ => 0)))]) ++ [(q6, .inl (G.2.1, 16, .inl (fun _ => 0)))]) ++ [(q7, .inl (G.2.1, 16, .inl (fun _ => 0)))]) H := hP
  have hD : va_D A ((((((([(h0, .inr (6, [.ref q1, .ref q2, .ref q3, .ref q4, .ref q5, .ref q6, .ref q7, .int 0, .int 0, .int 0, .int 0, .int 0]))] ++ [(q1, .inl (G.2.1, 4, .inl (fun _ => 0)))]) ++ [(q2, .inl (G.2.1, 4, .inl (fun _ => 0)))]) ++ [(q3, .inl (G.2.1, 20, .inl (fun _ => 0)))]) ++ [(q4, .inl (G.2.1, 20, .inl (fun _ => 0)))]) ++ [(q5, .inl (G.2.1, 20, .inl (fun _ => 0)))]) ++ [(q6, .inl (G.2.1, 16, .inl (fun _ => 0)))]) ++ [(q7, .inl (G.2.1, 16, .inl (fun _ => 0)))]) := hD
  refine lv_aload_n hx hb dX6_init_68 rfl (lv_at hl 0 rfl) ?_
  refine lv_iconst (v := 0) hx hb dX6_init_69 (by decide) ?_
  refine va_put (D := G.1) (ci := 6) (v := .int 0) (ty := .int) (C := RX6) (T := TX6) (N := 12) hx hb hts in_ctor6 tyX6 tyX6_ok nmX6 hown hK.1 hP hD hS 0 rfl rfl 9 (by decide) (hts (.fieldLink RX6 40 "RuleCourt$View" "falls" "I") (by decide +kernel)) (fun _ h9 => h9) rfl (by decide +kernel) (by first | rfl | decide) rfl (Nat.le_of_ble_eq_true rfl) dX6_init_70 (fun H locs hP hD hS => ?_)
  have hP : va_P G.1 vwCl ((((((([(h0, .inr (6, [.ref q1, .ref q2, .ref q3, .ref q4, .ref q5, .ref q6, .ref q7, .int 0, .int 0, .int 0, .int 0, .int 0]))] ++ [(q1, .inl (G.2.1, 4, .inl (fun _ => 0)))]) ++ [(q2, .inl (G.2.1, 4, .inl (fun _ => 0)))]) ++ [(q3, .inl (G.2.1, 20, .inl (fun _ => 0)))]) ++ [(q4, .inl (G.2.1, 20, .inl (fun _ => 0)))]) ++ [(q5, .inl (G.2.1, 20, .inl (fun _ => 0)))]) ++ [(q6, .inl (G.2.1, 16, .inl (fun _ => 0)))]) ++ [(q7, .inl (G.2.1, 16, .inl (fun _ => 0)))]) H := hP
  have hD : va_D A ((((((([(h0, .inr (6, [.ref q1, .ref q2, .ref q3, .ref q4, .ref q5, .ref q6, .ref q7, .int 0, .int 0, .int 0, .int 0, .int 0]))] ++ [(q1, .inl (G.2.1, 4, .inl (fun _ => 0)))]) ++ [(q2, .inl (G.2.1, 4, .inl (fun _ => 0)))]) ++ [(q3, .inl (G.2.1, 20, .inl (fun _ => 0)))]) ++ [(q4, .inl (G.2.1, 20, .inl (fun _ => 0)))]) ++ [(q5, .inl (G.2.1, 20, .inl (fun _ => 0)))]) ++ [(q6, .inl (G.2.1, 16, .inl (fun _ => 0)))]) ++ [(q7, .inl (G.2.1, 16, .inl (fun _ => 0)))]) := hD
  refine lv_aload_n hx hb dX6_init_73 rfl (lv_at hl 0 rfl) ?_
  refine lv_iconst (v := 0) hx hb dX6_init_74 (by decide) ?_
  refine va_put (D := G.1) (ci := 6) (v := .int 0) (ty := .int) (C := RX6) (T := TX6) (N := 12) hx hb hts in_ctor6 tyX6 tyX6_ok nmX6 hown hK.1 hP hD hS 0 rfl rfl 10 (by decide) (hts (.fieldLink RX6 43 "RuleCourt$View" "sureBodies" "I") (by decide +kernel)) (fun _ h9 => h9) rfl (by decide +kernel) (by first | rfl | decide) rfl (Nat.le_of_ble_eq_true rfl) dX6_init_75 (fun H locs hP hD hS => ?_)
  have hP : va_P G.1 vwCl ((((((([(h0, .inr (6, [.ref q1, .ref q2, .ref q3, .ref q4, .ref q5, .ref q6, .ref q7, .int 0, .int 0, .int 0, .int 0, .int 0]))] ++ [(q1, .inl (G.2.1, 4, .inl (fun _ => 0)))]) ++ [(q2, .inl (G.2.1, 4, .inl (fun _ => 0)))]) ++ [(q3, .inl (G.2.1, 20, .inl (fun _ => 0)))]) ++ [(q4, .inl (G.2.1, 20, .inl (fun _ => 0)))]) ++ [(q5, .inl (G.2.1, 20, .inl (fun _ => 0)))]) ++ [(q6, .inl (G.2.1, 16, .inl (fun _ => 0)))]) ++ [(q7, .inl (G.2.1, 16, .inl (fun _ => 0)))]) H := hP
  have hD : va_D A ((((((([(h0, .inr (6, [.ref q1, .ref q2, .ref q3, .ref q4, .ref q5, .ref q6, .ref q7, .int 0, .int 0, .int 0, .int 0, .int 0]))] ++ [(q1, .inl (G.2.1, 4, .inl (fun _ => 0)))]) ++ [(q2, .inl (G.2.1, 4, .inl (fun _ => 0)))]) ++ [(q3, .inl (G.2.1, 20, .inl (fun _ => 0)))]) ++ [(q4, .inl (G.2.1, 20, .inl (fun _ => 0)))]) ++ [(q5, .inl (G.2.1, 20, .inl (fun _ => 0)))]) ++ [(q6, .inl (G.2.1, 16, .inl (fun _ => 0)))]) ++ [(q7, .inl (G.2.1, 16, .inl (fun _ => 0)))]) := hD
  refine lv_aload_n hx hb dX6_init_78 rfl (lv_at hl 0 rfl) ?_
  refine lv_iconst (v := 0) hx hb dX6_init_79 (by decide) ?_
  refine va_put (D := G.1) (ci := 6) (v := .int 0) (ty := .int) (C := RX6) (T := TX6) (N := 12) hx hb hts in_ctor6 tyX6 tyX6_ok nmX6 hown hK.1 hP hD hS 0 rfl rfl 11 (by decide) (hts (.fieldLink RX6 46 "RuleCourt$View" "neverBodies" "I") (by decide +kernel)) (fun _ h9 => h9) rfl (by decide +kernel) (by first | rfl | decide) rfl (Nat.le_of_ble_eq_true rfl) dX6_init_80 (fun H locs hP hD hS => ?_)
  have hP : va_P G.1 vwCl ((((((([(h0, .inr (6, [.ref q1, .ref q2, .ref q3, .ref q4, .ref q5, .ref q6, .ref q7, .int 0, .int 0, .int 0, .int 0, .int 0]))] ++ [(q1, .inl (G.2.1, 4, .inl (fun _ => 0)))]) ++ [(q2, .inl (G.2.1, 4, .inl (fun _ => 0)))]) ++ [(q3, .inl (G.2.1, 20, .inl (fun _ => 0)))]) ++ [(q4, .inl (G.2.1, 20, .inl (fun _ => 0)))]) ++ [(q5, .inl (G.2.1, 20, .inl (fun _ => 0)))]) ++ [(q6, .inl (G.2.1, 16, .inl (fun _ => 0)))]) ++ [(q7, .inl (G.2.1, 16, .inl (fun _ => 0)))]) H := hP
  have hD : va_D A ((((((([(h0, .inr (6, [.ref q1, .ref q2, .ref q3, .ref q4, .ref q5, .ref q6, .ref q7, .int 0, .int 0, .int 0, .int 0, .int 0]))] ++ [(q1, .inl (G.2.1, 4, .inl (fun _ => 0)))]) ++ [(q2, .inl (G.2.1, 4, .inl (fun _ => 0)))]) ++ [(q3, .inl (G.2.1, 20, .inl (fun _ => 0)))]) ++ [(q4, .inl (G.2.1, 20, .inl (fun _ => 0)))]) ++ [(q5, .inl (G.2.1, 20, .inl (fun _ => 0)))]) ++ [(q6, .inl (G.2.1, 16, .inl (fun _ => 0)))]) ++ [(q7, .inl (G.2.1, 16, .inl (fun _ => 0)))]) := hD
  exact W.vret hx hb hr (fun t ht hW => ⟨⟨(), rfl, trivial, _, ⟨zad [h0, q1, q2, q3, q4, q5, q6, q7], rfl, rfl⟩, by rw [ht]; exact hP, hD⟩, hS.F ht⟩) hS.2.2 dX6_init_83
theorem in_ctor7 : ∀ w ∈ u_ws RX7 TX7 10, w ∈ wsX7_init := by decide +kernel
theorem zdf7 : ∀ j, j < 10 → defaultValue (tyX7 j) = vp_V [.null, .null, .null, .null, .null, .null, .null, .int 0, .int 0, .int 0] j := by decide +kernel
def rmX7_init : Room := { frames := 1, cells := 7, slots := 480, locals := 12 }
set_option maxHeartbeats 4000000 in
set_option maxRecDepth 100000 in
theorem c_X7_init (l : Launch) (G : zG) : zNew l yX7_init wsX7_init rmX7_init G 7 [.null, .null, .null, .null, .null, .null, .null, .int 0, .int 0, .int 0] 7 480 (fun q w => ∃ a : Nat → Nat, a 0 = q ∧ w = w7 G a zz7) := by
  intro h0 sz
  refine Met.ofW (cc := cX7_init) (maxL := 1) (ret := none) (by decide +kernel) rfl ?_
  intro p e s m args below meth c s₁ B hml hv
  obtain ⟨rfl, hsz, hP, hK, hD0, hAO⟩ := hv
  have hx := B.exec
  have hb := B.bytes
  have hr := B.returns
  have hts := atoms_spec (ws := wsX7_init) B.pre
  have hown : s.vm.findClass RX7 = some m.cls := findClass_of_methodNamed B.named
  have hlocks := B.notSynchronized
  have hin : meth.name = "<init>" := (name_of_methodNamed B.named B.method).1
  have S : CallFix p m c cX7_init 1 s _ wsX7_init RX7 := ⟨hx, hb, hml, hown, hts⟩
  subst hsz
  have hD := hD0.self (sz := s.heap.size)
  generalize hAe : va_A [((h0, .inr (7, [.null, .null, .null, .null, .null, .null, .null, .int 0, .int 0, .int 0])) : Nat × va_E)] s.heap.size = A at hD ⊢
  have hA : ∀ q : Nat, s.heap.size ≤ q → A q := fun q h => by rw [← hAe]; exact Or.inr h
  have hS : va_S A s.heap s.heap [] := va_S.rf
  have hP : va_P G.1 vwCl [(h0, .inr (7, [.null, .null, .null, .null, .null, .null, .null, .int 0, .int 0, .int 0]))] s.heap := hP
  have hl := lv_entry ([.ref h0]) (n := 1) (Nat.le_of_ble_eq_true rfl)
  rw [lg_entry_eq]
  generalize (lg_sl ([.ref h0]) ++ List.replicate (1 - (lg_sl ([.ref h0])).length) Slot.unset).toArray = ls at hl ⊢
  have hl : lv_has ls 1 [(0, .ref h0)] := hl
  refine lv_aload_n hx hb dX7_init_0 rfl (lv_at hl 0 rfl) ?_
  refine W.objInit hx hb hown (hts (.methodLink RX7 3 objectInit) (by decide +kernel)) (hts (.instanceMethod objectInit) (by decide +kernel)) (hts (.code objectInit ⟨#[0xb1]⟩ 1 none) (by decide +kernel)) rfl (by rw [hml]; exact hl.1) rfl dX7_init_1 (Nat.le_of_ble_eq_true rfl) (Nat.le_of_ble_eq_true rfl) ?_
  refine W.eq (g2 := F0 m 4 ls []) rfl ?_
  refine lv_aload_n hx hb dX7_init_4 rfl (lv_at hl 0 rfl) ?_
  refine lv_bipush (v := 120) hx hb dX7_init_5 (by decide) ?_
  refine zc_newa (N := 120) S (by decide +kernel) hK hP hD hS hA rfl (by decide) (Nat.le_of_ble_eq_true rfl) (Nat.le_of_ble_eq_true rfl) dX7_init_7 (fun q1 H hP hD hS => ?_)
  have hP : va_P G.1 vwCl ([(h0, .inr (7, [.null, .null, .null, .null, .null, .null, .null, .int 0, .int 0, .int 0]))] ++ [(q1, .inl (G.2.1, 120, .inl (fun _ => 0)))]) H := hP
  have hD : va_D A ([(h0, .inr (7, [.null, .null, .null, .null, .null, .null, .null, .int 0, .int 0, .int 0]))] ++ [(q1, .inl (G.2.1, 120, .inl (fun _ => 0)))]) := hD
  refine va_putF (D := G.1) (ci := 7) (v := .ref q1) (ty := .array .int) (C := RX7) (T := TX7) (N := 10) hx hb hts in_ctor7 tyX7 tyX7_ok nmX7 hown hK.1 hP hD hS 0 rfl rfl 0 (by decide) (hts (.fieldLink RX7 9 "RuleCourt$Words" "tape" "[I") (by decide +kernel)) (fun _ h9 => h9) rfl hin rfl (by decide +kernel) (by first | rfl | decide) rfl (Nat.le_of_ble_eq_true rfl) dX7_init_9 (fun H locs hP hD hS => ?_)
  have hP : va_P G.1 vwCl ([(h0, .inr (7, [.ref q1, .null, .null, .null, .null, .null, .null, .int 0, .int 0, .int 0]))] ++ [(q1, .inl (G.2.1, 120, .inl (fun _ => 0)))]) H := hP
  have hD : va_D A ([(h0, .inr (7, [.ref q1, .null, .null, .null, .null, .null, .null, .int 0, .int 0, .int 0]))] ++ [(q1, .inl (G.2.1, 120, .inl (fun _ => 0)))]) := hD
  refine lv_aload_n hx hb dX7_init_12 rfl (lv_at hl 0 rfl) ?_
  refine lv_bipush (v := 60) hx hb dX7_init_13 (by decide) ?_
  refine zc_newa (N := 60) S (by decide +kernel) hK hP hD hS hA rfl (by decide) (Nat.le_of_ble_eq_true rfl) (Nat.le_of_ble_eq_true rfl) dX7_init_15 (fun q2 H hP hD hS => ?_)
  have hP : va_P G.1 vwCl (([(h0, .inr (7, [.ref q1, .null, .null, .null, .null, .null, .null, .int 0, .int 0, .int 0]))] ++ [(q1, .inl (G.2.1, 120, .inl (fun _ => 0)))]) ++ [(q2, .inl (G.2.1, 60, .inl (fun _ => 0)))]) H := hP
  have hD : va_D A (([(h0, .inr (7, [.ref q1, .null, .null, .null, .null, .null, .null, .int 0, .int 0, .int 0]))] ++ [(q1, .inl (G.2.1, 120, .inl (fun _ => 0)))]) ++ [(q2, .inl (G.2.1, 60, .inl (fun _ => 0)))]) := hD
  refine va_putF (D := G.1) (ci := 7) (v := .ref q2) (ty := .array .int) (C := RX7) (T := TX7) (N := 10) hx hb hts in_ctor7 tyX7 tyX7_ok nmX7 hown hK.1 hP hD hS 0 rfl rfl 1 (by decide) (hts (.fieldLink RX7 15 "RuleCourt$Words" "sort" "[I") (by decide +kernel)) (fun _ h9 => h9) rfl hin rfl (by decide +kernel) (by first | rfl | decide) rfl (Nat.le_of_ble_eq_true rfl) dX7_init_17 (fun H locs hP hD hS => ?_)
  have hP : va_P G.1 vwCl (([(h0, .inr (7, [.ref q1, .ref q2, .null, .null, .null, .null, .null, .int 0, .int 0, .int 0]))] ++ [(q1, .inl (G.2.1, 120, .inl (fun _ => 0)))]) ++ [(q2, .inl (G.2.1, 60, .inl (fun _ => 0)))]) H := hP
  have hD : va_D A (([(h0, .inr (7, [.ref q1, .ref q2, .null, .null, .null, .null, .null, .int 0, .int 0, .int 0]))] ++ [(q1, .inl (G.2.1, 120, .inl (fun _ => 0)))]) ++ [(q2, .inl (G.2.1, 60, .inl (fun _ => 0)))]) := hD
  refine lv_aload_n hx hb dX7_init_20 rfl (lv_at hl 0 rfl) ?_
  refine lv_bipush (v := 60) hx hb dX7_init_21 (by decide) ?_
  refine zc_newa (N := 60) S (by decide +kernel) hK hP hD hS hA rfl (by decide) (Nat.le_of_ble_eq_true rfl) (Nat.le_of_ble_eq_true rfl) dX7_init_23 (fun q3 H hP hD hS => ?_)
  have hP : va_P G.1 vwCl ((([(h0, .inr (7, [.ref q1, .ref q2, .null, .null, .null, .null, .null, .int 0, .int 0, .int 0]))] ++ [(q1, .inl (G.2.1, 120, .inl (fun _ => 0)))]) ++ [(q2, .inl (G.2.1, 60, .inl (fun _ => 0)))]) ++ [(q3, .inl (G.2.1, 60, .inl (fun _ => 0)))]) H := hP
  have hD : va_D A ((([(h0, .inr (7, [.ref q1, .ref q2, .null, .null, .null, .null, .null, .int 0, .int 0, .int 0]))] ++ [(q1, .inl (G.2.1, 120, .inl (fun _ => 0)))]) ++ [(q2, .inl (G.2.1, 60, .inl (fun _ => 0)))]) ++ [(q3, .inl (G.2.1, 60, .inl (fun _ => 0)))]) := hD
  refine va_putF (D := G.1) (ci := 7) (v := .ref q3) (ty := .array .int) (C := RX7) (T := TX7) (N := 10) hx hb hts in_ctor7 tyX7 tyX7_ok nmX7 hown hK.1 hP hD hS 0 rfl rfl 2 (by decide) (hts (.fieldLink RX7 18 "RuleCourt$Words" "head" "[I") (by decide +kernel)) (fun _ h9 => h9) rfl hin rfl (by decide +kernel) (by first | rfl | decide) rfl (Nat.le_of_ble_eq_true rfl) dX7_init_25 (fun H locs hP hD hS => ?_)
  have hP : va_P G.1 vwCl ((([(h0, .inr (7, [.ref q1, .ref q2, .ref q3, .null, .null, .null, .null, .int 0, .int 0, .int 0]))] ++ [(q1, .inl (G.2.1, 120, .inl (fun _ => 0)))]) ++ [(q2, .inl (G.2.1, 60, .inl (fun _ => 0)))]) ++ [(q3, .inl (G.2.1, 60, .inl (fun _ => 0)))]) H := hP
  have hD : va_D A ((([(h0, .inr (7, [.ref q1, .ref q2, .ref q3, .null, .null, .null, .null, .int 0, .int 0, .int 0]))] ++ [(q1, .inl (G.2.1, 120, .inl (fun _ => 0)))]) ++ [(q2, .inl (G.2.1, 60, .inl (fun _ => 0)))]) ++ [(q3, .inl (G.2.1, 60, .inl (fun _ => 0)))]) := hD
  refine lv_aload_n hx hb dX7_init_28 rfl (lv_at hl 0 rfl) ?_
  refine lv_bipush (v := 60) hx hb dX7_init_29 (by decide) ?_
  refine zc_newa (N := 60) S (by decide +kernel) hK hP hD hS hA rfl (by decide) (Nat.le_of_ble_eq_true rfl) (Nat.le_of_ble_eq_true rfl) dX7_init_31 (fun q4 H hP hD hS => ?_)
  have hP : va_P G.1 vwCl (((([(h0, .inr (7, [.ref q1, .ref q2, .ref q3, .null, .null, .null, .null, .int 0, .int 0, .int 0]))] ++ [(q1, .inl (G.2.1, 120, .inl (fun _ => 0)))]) ++ [(q2, .inl (G.2.1, 60, .inl (fun _ => 0)))]) ++ [(q3, .inl (G.2.1, 60, .inl (fun _ => 0)))]) ++ [(q4, .inl (G.2.1, 60, .inl (fun _ => 0)))]) H := hP
  have hD : va_D A (((([(h0, .inr (7, [.ref q1, .ref q2, .ref q3, .null, .null, .null, .null, .int 0, .int 0, .int 0]))] ++ [(q1, .inl (G.2.1, 120, .inl (fun _ => 0)))]) ++ [(q2, .inl (G.2.1, 60, .inl (fun _ => 0)))]) ++ [(q3, .inl (G.2.1, 60, .inl (fun _ => 0)))]) ++ [(q4, .inl (G.2.1, 60, .inl (fun _ => 0)))]) := hD
  refine va_putF (D := G.1) (ci := 7) (v := .ref q4) (ty := .array .int) (C := RX7) (T := TX7) (N := 10) hx hb hts in_ctor7 tyX7 tyX7_ok nmX7 hown hK.1 hP hD hS 0 rfl rfl 3 (by decide) (hts (.fieldLink RX7 21 "RuleCourt$Words" "body" "[I") (by decide +kernel)) (fun _ h9 => h9) rfl hin rfl (by decide +kernel) (by first | rfl | decide) rfl (Nat.le_of_ble_eq_true rfl) dX7_init_33 (fun H locs hP hD hS => ?_)
  have hP : va_P G.1 vwCl (((([(h0, .inr (7, [.ref q1, .ref q2, .ref q3, .ref q4, .null, .null, .null, .int 0, .int 0, .int 0]))] ++ [(q1, .inl (G.2.1, 120, .inl (fun _ => 0)))]) ++ [(q2, .inl (G.2.1, 60, .inl (fun _ => 0)))]) ++ [(q3, .inl (G.2.1, 60, .inl (fun _ => 0)))]) ++ [(q4, .inl (G.2.1, 60, .inl (fun _ => 0)))]) H := hP
  have hD : va_D A (((([(h0, .inr (7, [.ref q1, .ref q2, .ref q3, .ref q4, .null, .null, .null, .int 0, .int 0, .int 0]))] ++ [(q1, .inl (G.2.1, 120, .inl (fun _ => 0)))]) ++ [(q2, .inl (G.2.1, 60, .inl (fun _ => 0)))]) ++ [(q3, .inl (G.2.1, 60, .inl (fun _ => 0)))]) ++ [(q4, .inl (G.2.1, 60, .inl (fun _ => 0)))]) := hD
  refine lv_aload_n hx hb dX7_init_36 rfl (lv_at hl 0 rfl) ?_
  refine lv_bipush (v := 60) hx hb dX7_init_37 (by decide) ?_
  refine zc_newa (N := 60) S (by decide +kernel) hK hP hD hS hA rfl (by decide) (Nat.le_of_ble_eq_true rfl) (Nat.le_of_ble_eq_true rfl) dX7_init_39 (fun q5 H hP hD hS => ?_)
  have hP : va_P G.1 vwCl ((((([(h0, .inr (7, [.ref q1, .ref q2, .ref q3, .ref q4, .null, .null, .null, .int 0, .int 0, .int 0]))] ++ [(q1, .inl (G.2.1, 120, .inl (fun _ => 0)))]) ++ [(q2, .inl (G.2.1, 60, .inl (fun _ => 0)))]) ++ [(q3, .inl (G.2.1, 60, .inl (fun _ => 0)))]) ++ [(q4, .inl (G.2.1, 60, .inl (fun _ => 0)))]) ++ [(q5, .inl (G.2.1, 60, .inl (fun _ => 0)))]) H := hP
  have hD : va_D A ((((([(h0, .inr (7, [.ref q1, .ref q2, .ref q3, .ref q4, .null, .null, .null, .int 0, .int 0, .int 0]))] ++ [(q1, .inl (G.2.1, 120, .inl (fun _ => 0)))]) ++ [(q2, .inl (G.2.1, 60, .inl (fun _ => 0)))]) ++ [(q3, .inl (G.2.1, 60, .inl (fun _ => 0)))]) ++ [(q4, .inl (G.2.1, 60, .inl (fun _ => 0)))]) ++ [(q5, .inl (G.2.1, 60, .inl (fun _ => 0)))]) := hD
  refine va_putF (D := G.1) (ci := 7) (v := .ref q5) (ty := .array .int) (C := RX7) (T := TX7) (N := 10) hx hb hts in_ctor7 tyX7 tyX7_ok nmX7 hown hK.1 hP hD hS 0 rfl rfl 4 (by decide) (hts (.fieldLink RX7 24 "RuleCourt$Words" "excepts" "[I") (by decide +kernel)) (fun _ h9 => h9) rfl hin rfl (by decide +kernel) (by first | rfl | decide) rfl (Nat.le_of_ble_eq_true rfl) dX7_init_41 (fun H locs hP hD hS => ?_)
  have hP : va_P G.1 vwCl ((((([(h0, .inr (7, [.ref q1, .ref q2, .ref q3, .ref q4, .ref q5, .null, .null, .int 0, .int 0, .int 0]))] ++ [(q1, .inl (G.2.1, 120, .inl (fun _ => 0)))]) ++ [(q2, .inl (G.2.1, 60, .inl (fun _ => 0)))]) ++ [(q3, .inl (G.2.1, 60, .inl (fun _ => 0)))]) ++ [(q4, .inl (G.2.1, 60, .inl (fun _ => 0)))]) ++ [(q5, .inl (G.2.1, 60, .inl (fun _ => 0)))]) H := hP
  have hD : va_D A ((((([(h0, .inr (7, [.ref q1, .ref q2, .ref q3, .ref q4, .ref q5, .null, .null, .int 0, .int 0, .int 0]))] ++ [(q1, .inl (G.2.1, 120, .inl (fun _ => 0)))]) ++ [(q2, .inl (G.2.1, 60, .inl (fun _ => 0)))]) ++ [(q3, .inl (G.2.1, 60, .inl (fun _ => 0)))]) ++ [(q4, .inl (G.2.1, 60, .inl (fun _ => 0)))]) ++ [(q5, .inl (G.2.1, 60, .inl (fun _ => 0)))]) := hD
  refine lv_aload_n hx hb dX7_init_44 rfl (lv_at hl 0 rfl) ?_
  refine lv_bipush (v := 60) hx hb dX7_init_45 (by decide) ?_
  refine zc_newa (N := 60) S (by decide +kernel) hK hP hD hS hA rfl (by decide) (Nat.le_of_ble_eq_true rfl) (Nat.le_of_ble_eq_true rfl) dX7_init_47 (fun q6 H hP hD hS => ?_)
  have hP : va_P G.1 vwCl (((((([(h0, .inr (7, [.ref q1, .ref q2, .ref q3, .ref q4, .ref q5, .null, .null, .int 0, .int 0, .int 0]))] ++ [(q1, .inl (G.2.1, 120, .inl (fun _ => 0)))]) ++ [(q2, .inl (G.2.1, 60, .inl (fun _ => 0)))]) ++ [(q3, .inl (G.2.1, 60, .inl (fun _ => 0)))]) ++ [(q4, .inl (G.2.1, 60, .inl (fun _ => 0)))]) ++ [(q5, .inl (G.2.1, 60, .inl (fun _ => 0)))]) ++ [(q6, .inl (G.2.1, 60, .inl (fun _ => 0)))]) H := hP
  have hD : va_D A (((((([(h0, .inr (7, [.ref q1, .ref q2, .ref q3, .ref q4, .ref q5, .null, .null, .int 0, .int 0, .int 0]))] ++ [(q1, .inl (G.2.1, 120, .inl (fun _ => 0)))]) ++ [(q2, .inl (G.2.1, 60, .inl (fun _ => 0)))]) ++ [(q3, .inl (G.2.1, 60, .inl (fun _ => 0)))]) ++ [(q4, .inl (G.2.1, 60, .inl (fun _ => 0)))]) ++ [(q5, .inl (G.2.1, 60, .inl (fun _ => 0)))]) ++ [(q6, .inl (G.2.1, 60, .inl (fun _ => 0)))]) := hD
  refine va_putF (D := G.1) (ci := 7) (v := .ref q6) (ty := .array .int) (C := RX7) (T := TX7) (N := 10) hx hb hts in_ctor7 tyX7 tyX7_ok nmX7 hown hK.1 hP hD hS 0 rfl rfl 5 (by decide) (hts (.fieldLink RX7 27 "RuleCourt$Words" "power" "[I") (by decide +kernel)) (fun _ h9 => h9) rfl hin rfl (by decide +kernel) (by first | rfl | decide) rfl (Nat.le_of_ble_eq_true rfl) dX7_init_49 (fun H locs hP hD hS => ?_)
  have hP : va_P G.1 vwCl (((((([(h0, .inr (7, [.ref q1, .ref q2, .ref q3, .ref q4, .ref q5, .ref q6, .null, .int 0, .int 0, .int 0]))] ++ [(q1, .inl (G.2.1, 120, .inl (fun _ => 0)))]) ++ [(q2, .inl (G.2.1, 60, .inl (fun _ => 0)))]) ++ [(q3, .inl (G.2.1, 60, .inl (fun _ => 0)))]) ++ [(q4, .inl (G.2.1, 60, .inl (fun _ => 0)))]) ++ [(q5, .inl (G.2.1, 60, .inl (fun _ => 0)))]) ++ [(q6, .inl (G.2.1, 60, .inl (fun _ => 0)))]) H := hP
  have hD : va_D A (((((([(h0, .inr (7, [.ref q1, .ref q2, .ref q3, .ref q4, .ref q5, .ref q6, .null, .int 0, .int 0, .int 0]))] ++ [(q1, .inl (G.2.1, 120, .inl (fun _ => 0)))]) ++ [(q2, .inl (G.2.1, 60, .inl (fun _ => 0)))]) ++ [(q3, .inl (G.2.1, 60, .inl (fun _ => 0)))]) ++ [(q4, .inl (G.2.1, 60, .inl (fun _ => 0)))]) ++ [(q5, .inl (G.2.1, 60, .inl (fun _ => 0)))]) ++ [(q6, .inl (G.2.1, 60, .inl (fun _ => 0)))]) := hD
  refine lv_aload_n hx hb dX7_init_52 rfl (lv_at hl 0 rfl) ?_
  refine lv_bipush (v := 60) hx hb dX7_init_53 (by decide) ?_
  refine zc_newa (N := 60) S (by decide +kernel) hK hP hD hS hA rfl (by decide) (Nat.le_of_ble_eq_true rfl) (Nat.le_of_ble_eq_true rfl) dX7_init_55 (fun q7 H hP hD hS => ?_)
  have hP : va_P G.1 vwCl ((((((([(h0, .inr (7, [.ref q1, .ref q2, .ref q3, .ref q4, .ref q5, .ref q6, .null, .int 0, .int 0, .int 0]))] ++ [(q1, .inl (G.2.1, 120, .inl (fun _ => 0)))]) ++ [(q2, .inl (G.2.1, 60, .inl (fun _ => 0)))]) ++ [(q3, .inl (G.2.1, 60, .inl (fun _ => 0)))]) ++ [(q4, .inl (G.2.1, 60, .inl (fun _ => 0)))]) ++ [(q5, .inl (G.2.1, 60, .inl (fun _ => 0)))]) ++ [(q6, .inl (G.2.1, 60, .inl (fun _ => 0)))]) ++ [(q7, .inl (G.2.1, 60, .inl (fun _ => 0)))]) H := hP
  have hD : va_D A ((((((([(h0, .inr (7, [.ref q1, .ref q2, .ref q3, .ref q4, .ref q5, .ref q6, .null, .int 0, .int 0, .int 0]))] ++ [(q1, .inl (G.2.1, 120, .inl (fun _ => 0)))]) ++ [(q2, .inl (G.2.1, 60, .inl (fun _ => 0)))]) ++ [(q3, .inl (G.2.1, 60, .inl (fun _ => 0)))]) ++ [(q4, .inl (G.2.1, 60, .inl (fun _ => 0)))]) ++ [(q5, .inl (G.2.1, 60, .inl (fun _ => 0)))]) ++ [(q6, .inl (G.2.1, 60, .inl (fun _ => 0)))]) ++ [(q7, .inl (G.2.1, 60, .inl (fun _ => 0)))]) := hD
  refine va_putF (D := G.1) (ci := 7) (v := .ref q7) (ty := .array .int) (C := RX7) (T := TX7) (N := 10) hx hb hts in_ctor7 tyX7 tyX7_ok nmX7 hown hK.1 hP hD hS 0 rfl rfl 6 (by decide) (hts (.fieldLink RX7 30 "RuleCourt$Words" "begins" "[I") (by decide +kernel)) (fun _ h9 => h9) rfl hin rfl (by decide +kernel) (by first | rfl | decide) rfl (Nat.le_of_ble_eq_true rfl) dX7_init_57 (fun H locs hP hD hS => ?_)
  have hP : va_P G.1 vwCl ((((((([(h0, .inr (7, [.ref q1, .ref q2, .ref q3, .ref q4, .ref q5, .ref q6, .ref q7, .int 0, .int 0, .int 0]))] ++ [(q1, .inl (G.2.1, 120, .inl (fun _ => 0)))]) ++ [(q2, .inl (G.2.1, 60, .inl (fun _ => 0)))]) ++ [(q3, .inl (G.2.1, 60, .inl (fun _ => 0)))]) ++ [(q4, .inl (G.2.1, 60, .inl (fun _ => 0)))]) ++ [(q5, .inl (G.2.1, 60, .inl (fun _ => 0)))]) ++ [(q6, .inl (G.2.1, 60, .inl (fun _ => 0)))]) ++ [(q7, .inl (G.2.1, 60, .inl (fun _ => 0)))]) H := hP
  have hD : va_D A ((((((([(h0, .inr (7, [.ref q1, .ref q2, .ref q3, .ref q4, .ref q5, .ref q6, .ref q7, .int 0, .int 0, .int 0]))] ++ [(q1, .inl (G.2.1, 120, .inl (fun _ => 0)))]) ++ [(q2, .inl (G.2.1, 60, .inl (fun _ => 0)))]) ++ [(q3, .inl (G.2.1, 60, .inl (fun _ => 0)))]) ++ [(q4, .inl (G.2.1, 60, .inl (fun _ => 0)))]) ++ [(q5, .inl (G.2.1, 60, .inl (fun _ => 0)))]) ++ [(q6, .inl (G.2.1, 60, .inl (fun _ => 0)))]) ++ [(q7, .inl (G.2.1, 60, .inl (fun _ => 0)))]) := hD
  refine lv_aload_n hx hb dX7_init_60 rfl (lv_at hl 0 rfl) ?_
  refine lv_iconst (v := 0) hx hb dX7_init_61 (by decide) ?_
  refine va_put (D := G.1) (ci := 7) (v := .int 0) (ty := .int) (C := RX7) (T := TX7) (N := 10) hx hb hts in_ctor7 tyX7 tyX7_ok nmX7 hown hK.1 hP hD hS 0 rfl rfl 7 (by decide) (hts (.fieldLink RX7 33 "RuleCourt$Words" "length" "I") (by decide +kernel)) (fun _ h9 => h9) rfl (by decide +kernel) (by first | rfl | decide) rfl (Nat.le_of_ble_eq_true rfl) dX7_init_62 (fun H locs hP hD hS => ?_)
  have hP : va_P G.1 vwCl ((((((([(h0, .inr (7, [.ref q1, .ref q2, .ref q3, .ref q4, .ref q5, .ref q6, .ref q7, .int 0, .int 0, .int 0]))] ++ [(q1, .inl (G.2.1, 120, .inl (fun _ => 0)))]) ++ [(q2, .inl (G.2.1, 60, .inl (fun _ => 0)))]) ++ [(q3, .inl (G.2.1, 60, .inl (fun _ => 0)))]) ++ [(q4, .inl (G.2.1, 60, .inl (fun _ => 0)))]) ++ [(q5, .inl (G.2.1, 60, .inl (fun _ => 0)))]) ++ [(q6, .inl (G.2.1, 60, .inl (fun _ => 0)))]) ++ [(q7, .inl (G.2.1, 60, .inl (fun _ => 0)))]) H := hP
  have hD : va_D A ((((((([(h0, .inr (7, [.ref q1, .ref q2, .ref q3, .ref q4, .ref q5, .ref q6, .ref q7, .int 0, .int 0, .int 0]))] ++ [(q1, .inl (G.2.1, 120, .inl (fun _ => 0)))]) ++ [(q2, .inl (G.2.1, 60, .inl (fun _ => 0)))]) ++ [(q3, .inl (G.2.1, 60, .inl (fun _ => 0)))]) ++ [(q4, .inl (G.2.1, 60, .inl (fun _ => 0)))]) ++ [(q5, .inl (G.2.1, 60, .inl (fun _ => 0)))]) ++ [(q6, .inl (G.2.1, 60, .inl (fun _ => 0)))]) ++ [(q7, .inl (G.2.1, 60, .inl (fun _ => 0)))]) := hD
  refine lv_aload_n hx hb dX7_init_65 rfl (lv_at hl 0 rfl) ?_
  refine lv_iconst (v := 0) hx hb dX7_init_66 (by decide) ?_
  refine va_put (D := G.1) (ci := 7) (v := .int 0) (ty := .int) (C := RX7) (T := TX7) (N := 10) hx hb hts in_ctor7 tyX7 tyX7_ok nmX7 hown hK.1 hP hD hS 0 rfl rfl 8 (by decide) (hts (.fieldLink RX7 37 "RuleCourt$Words" "at" "I") (by decide +kernel)) (fun _ h9 => h9) rfl (by decide +kernel) (by first | rfl | decide) rfl (Nat.le_of_ble_eq_true rfl) dX7_init_67 (fun H locs hP hD hS => ?_)
  have hP : va_P G.1 vwCl ((((((([(h0, .inr (7, [.ref q1, .ref q2, .ref q3, .ref q4, .ref q5, .ref q6, .ref q7, .int 0, .int 0, .int 0]))] ++ [(q1, .inl (G.2.1, 120, .inl (fun _ => 0)))]) ++ [(q2, .inl (G.2.1, 60, .inl (fun _ => 0)))]) ++ [(q3, .inl (G.2.1, 60, .inl (fun _ => 0)))]) ++ [(q4, .inl (G.2.1, 60, .inl (fun _ => 0)))]) ++ [(q5, .inl (G.2.1, 60, .inl (fun _ => 0)))]) ++ [(q6, .inl (G.2.1, 60, .inl (fun _ => 0)))]) ++ [(q7, .inl (G.2.1, 60, .inl (fun _ => 0)))]) H := hP
  have hD : va_D A ((((((([(h0, .inr (7, [.ref q1, .ref q2, .ref q3, .ref q4, .ref q5, .ref q6, .ref q7, .int 0, .int 0, .int 0]))] ++ [(q1, .inl (G.2.1, 120, .inl (fun _ => 0)))]) ++ [(q2, .inl (G.2.1, 60, .inl (fun _ => 0)))]) ++ [(q3, .inl (G.2.1, 60, .inl (fun _ => 0)))]) ++ [(q4, .inl (G.2.1, 60, .inl (fun _ => 0)))]) ++ [(q5, .inl (G.2.1, 60, .inl (fun _ => 0)))]) ++ [(q6, .inl (G.2.1, 60, .inl (fun _ => 0)))]) ++ [(q7, .inl (G.2.1, 60, .inl (fun _ => 0)))]) := hD
  refine lv_aload_n hx hb dX7_init_70 rfl (lv_at hl 0 rfl) ?_
  refine lv_iconst (v := 0) hx hb dX7_init_71 (by decide) ?_
  refine va_put (D := G.1) (ci := 7) (v := .int 0) (ty := .int) (C := RX7) (T := TX7) (N := 10) hx hb hts in_ctor7 tyX7 tyX7_ok nmX7 hown hK.1 hP hD hS 0 rfl rfl 9 (by decide) (hts (.fieldLink RX7 40 "RuleCourt$Words" "told" "I") (by decide +kernel)) (fun _ h9 => h9) rfl (by decide +kernel) (by first | rfl | decide) rfl (Nat.le_of_ble_eq_true rfl) dX7_init_72 (fun H locs hP hD hS => ?_)
  have hP : va_P G.1 vwCl ((((((([(h0, .inr (7, [.ref q1, .ref q2, .ref q3, .ref q4, .ref q5, .ref q6, .ref q7, .int 0, .int 0, .int 0]))] ++ [(q1, .inl (G.2.1, 120, .inl (fun _ => 0)))]) ++ [(q2, .inl (G.2.1, 60, .inl (fun _ => 0)))]) ++ [(q3, .inl (G.2.1, 60, .inl (fun _ => 0)))]) ++ [(q4, .inl (G.2.1, 60, .inl (fun _ => 0)))]) ++ [(q5, .inl (G.2.1, 60, .inl (fun _ => 0)))]) ++ [(q6, .inl (G.2.1, 60, .inl (fun _ => 0)))]) ++ [(q7, .inl (G.2.1, 60, .inl (fun _ => 0)))]) H := hP
  have hD : va_D A ((((((([(h0, .inr (7, [.ref q1, .ref q2, .ref q3, .ref q4, .ref q5, .ref q6, .ref q7, .int 0, .int 0, .int 0]))] ++ [(q1, .inl (G.2.1, 120, .inl (fun _ => 0)))]) ++ [(q2, .inl (G.2.1, 60, .inl (fun _ => 0)))]) ++ [(q3, .inl (G.2.1, 60, .inl (fun _ => 0)))]) ++ [(q4, .inl (G.2.1, 60, .inl (fun _ => 0)))]) ++ [(q5, .inl (G.2.1, 60, .inl (fun _ => 0)))]) ++ [(q6, .inl (G.2.1, 60, .inl (fun _ => 0)))]) ++ [(q7, .inl (G.2.1, 60, .inl (fun _ => 0)))]) := hD
  exact W.vret hx hb hr (fun t ht hW => ⟨⟨(), rfl, trivial, _, ⟨zad [h0, q1, q2, q3, q4, q5, q6, q7], rfl, rfl⟩, by rw [ht]; exact hP, hD⟩, hS.F ht⟩) hS.2.2 dX7_init_75
theorem in_ctor2 : ∀ w ∈ u_ws RX2 TX2 2, w ∈ wsX2_init := by decide +kernel
theorem zdf2 : ∀ j, j < 2 → defaultValue (tyX2 j) = vp_V [.null, .int 0] j := by decide +kernel
def rmX2_init : Room := { frames := 1, cells := 1, slots := 2000, locals := 12 }
set_option maxHeartbeats 4000000 in
set_option maxRecDepth 100000 in
theorem c_X2_init (l : Launch) (G : zG) : zNew l yX2_init wsX2_init rmX2_init G 2 [.null, .int 0] 1 2000 (fun q w => ∃ a : Nat → Nat, a 0 = q ∧ w = w2 G a zz2) := by
  intro h0 sz
  refine Met.ofW (cc := cX2_init) (maxL := 1) (ret := none) (by decide +kernel) rfl ?_
  intro p e s m args below meth c s₁ B hml hv
  obtain ⟨rfl, hsz, hP, hK, hD0, hAO⟩ := hv
  have hx := B.exec
  have hb := B.bytes
  have hr := B.returns
  have hts := atoms_spec (ws := wsX2_init) B.pre
  have hown : s.vm.findClass RX2 = some m.cls := findClass_of_methodNamed B.named
  have hlocks := B.notSynchronized
  have hin : meth.name = "<init>" := (name_of_methodNamed B.named B.method).1
  have S : CallFix p m c cX2_init 1 s _ wsX2_init RX2 := ⟨hx, hb, hml, hown, hts⟩
  subst hsz
  have hD := hD0.self (sz := s.heap.size)
  generalize hAe : va_A [((h0, .inr (2, [.null, .int 0])) : Nat × va_E)] s.heap.size = A at hD ⊢
  have hA : ∀ q : Nat, s.heap.size ≤ q → A q := fun q h => by rw [← hAe]; exact Or.inr h
  have hS : va_S A s.heap s.heap [] := va_S.rf
  have hP : va_P G.1 vwCl [(h0, .inr (2, [.null, .int 0]))] s.heap := hP
  have hl := lv_entry ([.ref h0]) (n := 1) (Nat.le_of_ble_eq_true rfl)
  rw [lg_entry_eq]
  generalize (lg_sl ([.ref h0]) ++ List.replicate (1 - (lg_sl ([.ref h0])).length) Slot.unset).toArray = ls at hl ⊢
  have hl : lv_has ls 1 [(0, .ref h0)] := hl
  refine lv_aload_n hx hb dX2_init_0 rfl (lv_at hl 0 rfl) ?_
  refine W.objInit hx hb hown (hts (.methodLink RX2 3 objectInit) (by decide +kernel)) (hts (.instanceMethod objectInit) (by decide +kernel)) (hts (.code objectInit ⟨#[0xb1]⟩ 1 none) (by decide +kernel)) rfl (by rw [hml]; exact hl.1) rfl dX2_init_1 (Nat.le_of_ble_eq_true rfl) (Nat.le_of_ble_eq_true rfl) ?_
  refine W.eq (g2 := F0 m 4 ls []) rfl ?_
  refine lv_aload_n hx hb dX2_init_4 rfl (lv_at hl 0 rfl) ?_
  refine lv_sipush (v := 2000) hx hb dX2_init_5 (by decide) ?_
  refine zc_newa (N := 2000) S (by decide +kernel) hK hP hD hS hA rfl (by decide) (Nat.le_of_ble_eq_true rfl) (Nat.le_of_ble_eq_true rfl) dX2_init_8 (fun q1 H hP hD hS => ?_)
  have hP : va_P G.1 vwCl ([(h0, .inr (2, [.null, .int 0]))] ++ [(q1, .inl (G.2.1, 2000, .inl (fun _ => 0)))]) H := hP
  have hD : va_D A ([(h0, .inr (2, [.null, .int 0]))] ++ [(q1, .inl (G.2.1, 2000, .inl (fun _ => 0)))]) := hD
  refine va_putF (D := G.1) (ci := 2) (v := .ref q1) (ty := .array .int) (C := RX2) (T := TX2) (N := 2) hx hb hts in_ctor2 tyX2 tyX2_ok nmX2 hown hK.1 hP hD hS 0 rfl rfl 0 (by decide) (hts (.fieldLink RX2 9 "RuleCourt$Paper" "bytes" "[I") (by decide +kernel)) (fun _ h9 => h9) rfl hin rfl (by decide +kernel) (by first | rfl | decide) rfl (Nat.le_of_ble_eq_true rfl) dX2_init_10 (fun H locs hP hD hS => ?_)
  have hP : va_P G.1 vwCl ([(h0, .inr (2, [.ref q1, .int 0]))] ++ [(q1, .inl (G.2.1, 2000, .inl (fun _ => 0)))]) H := hP
  have hD : va_D A ([(h0, .inr (2, [.ref q1, .int 0]))] ++ [(q1, .inl (G.2.1, 2000, .inl (fun _ => 0)))]) := hD
  refine lv_aload_n hx hb dX2_init_13 rfl (lv_at hl 0 rfl) ?_
  refine lv_iconst (v := 0) hx hb dX2_init_14 (by decide) ?_
  refine va_put (D := G.1) (ci := 2) (v := .int 0) (ty := .int) (C := RX2) (T := TX2) (N := 2) hx hb hts in_ctor2 tyX2 tyX2_ok nmX2 hown hK.1 hP hD hS 0 rfl rfl 1 (by decide) (hts (.fieldLink RX2 15 "RuleCourt$Paper" "length" "I") (by decide +kernel)) (fun _ h9 => h9) rfl (by decide +kernel) (by first | rfl | decide) rfl (Nat.le_of_ble_eq_true rfl) dX2_init_15 (fun H locs hP hD hS => ?_)
  have hP : va_P G.1 vwCl ([(h0, .inr (2, [.ref q1, .int 0]))] ++ [(q1, .inl (G.2.1, 2000, .inl (fun _ => 0)))]) H := hP
  have hD : va_D A ([(h0, .inr (2, [.ref q1, .int 0]))] ++ [(q1, .inl (G.2.1, 2000, .inl (fun _ => 0)))]) := hD
  exact W.vret hx hb hr (fun t ht hW => ⟨⟨(), rfl, trivial, _, ⟨zad [h0, q1], rfl, rfl⟩, by rw [ht]; exact hP, hD⟩, hS.F ht⟩) hS.2.2 dX2_init_18
