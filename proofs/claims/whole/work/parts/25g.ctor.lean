theorem zg_get {α : Type} (x e : α) (W : List α) : (x :: (W ++ [e]))[W.length + 1]? = some e := by
  rw [List.getElem?_cons_succ, List.getElem?_append_right (Nat.le_refl _), Nat.sub_self]
  rfl
theorem zg_set {α : Type} (x e e' : α) (W : List α) : (x :: (W ++ [e])).set (W.length + 1) e' = x :: (W ++ [e']) := by
  rw [List.set_cons_succ, List.set_append_right _ _ (Nat.le_refl _), Nat.sub_self]
  rfl
abbrev zz9 : S9 := s9_size (fun _ => 0, fun _ _ => 0) (upd (upd (upd (upd (fun _ => 0) (0 : Int32).toNatClampNeg (-1)) (1 : Int32).toNatClampNeg (-1)) (2 : Int32).toNatClampNeg (-1)) (3 : Int32).toNatClampNeg (-1))
theorem in_ctor9 : ∀ w ∈ u_ws RX9 TX9 40, w ∈ wsX9_init := by decide +kernel
theorem zdf9 : ∀ j, j < 40 → defaultValue (tyX9 j) = vp_V [.int 0, .int 0, .null, .null, .null, .null, .null, .null, .null, .null, .int 0, .int 0, .null, .int 0, .null, .int 0, .null, .null, .null, .null, .null, .int 0, .null, .null, .null, .null, .int 0, .null, .null, .int 0, .int 0, .int 0, .int 0, .int 0, .int 0, .int 0, .int 0, .int 0, .int 0, .int 0] j := by decide +kernel
def rmX9_init : Room := { frames := 1, cells := 21, slots := 2880, locals := 12 }
set_option maxHeartbeats 4000000 in
set_option maxRecDepth 100000 in
theorem c_X9_init (l : Launch) (G : zG) : zNew l yX9_init wsX9_init rmX9_init G 9 [.int 0, .int 0, .null, .null, .null, .null, .null, .null, .null, .null, .int 0, .int 0, .null, .int 0, .null, .int 0, .null, .null, .null, .null, .null, .int 0, .null, .null, .null, .null, .int 0, .null, .null, .int 0, .int 0, .int 0, .int 0, .int 0, .int 0, .int 0, .int 0, .int 0, .int 0, .int 0] 21 2880 (fun q w => ∃ a : Nat → Nat, a 0 = q ∧ w = w9 G a zz9) := by
  intro h0 sz
  refine Met.ofW (cc := cX9_init) (maxL := 1) (ret := none) (by decide +kernel) rfl ?_
  intro p e s m args below meth c s₁ B hml hv
  obtain ⟨rfl, hsz, hP, hK, hD0, hAO⟩ := hv
  have hx := B.exec
  have hb := B.bytes
  have hr := B.returns
  have hts := atoms_spec (ws := wsX9_init) B.pre
  have hown : s.vm.findClass RX9 = some m.cls := findClass_of_methodNamed B.named
  have hlocks := B.notSynchronized
  have hin : meth.name = "<init>" := (name_of_methodNamed B.named B.method).1
  have S : CallFix p m c cX9_init 1 s _ wsX9_init RX9 := ⟨hx, hb, hml, hown, hts⟩
  subst hsz
  have hD := hD0.self (sz := s.heap.size)
  generalize hAe : va_A [((h0, .inr (9, [.int 0, .int 0, .null, .null, .null, .null, .null, .null, .null, .null, .int 0, .int 0, .null, .int 0, .null, .int 0, .null, .null, .null, .null, .null, .int 0, .null, .null, .null, .null, .int 0, .null, .null, .int 0, .int 0, .int 0, .int 0, .int 0, .int 0, .int 0, .int 0, .int 0, .int 0, .int 0])) : Nat × va_E)] s.heap.size = A at hD ⊢
  have hA : ∀ q : Nat, s.heap.size ≤ q → A q := fun q h => by rw [← hAe]; exact Or.inr h
  have hS : va_S A s.heap s.heap [] := va_S.rf
  have hP : va_P G.1 vwCl [(h0, .inr (9, [.int 0, .int 0, .null, .null, .null, .null, .null, .null, .null, .null, .int 0, .int 0, .null, .int 0, .null, .int 0, .null, .null, .null, .null, .null, .int 0, .null, .null, .null, .null, .int 0, .null, .null, .int 0, .int 0, .int 0, .int 0, .int 0, .int 0, .int 0, .int 0, .int 0, .int 0, .int 0]))] s.heap := hP
  have hl := lv_entry ([.ref h0]) (n := 1) (Nat.le_of_ble_eq_true rfl)
  rw [lg_entry_eq]
  generalize (lg_sl ([.ref h0]) ++ List.replicate (1 - (lg_sl ([.ref h0])).length) Slot.unset).toArray = ls at hl ⊢
  have hl : lv_has ls 1 [(0, .ref h0)] := hl
  refine lv_aload_n hx hb dX9_init_0 rfl (lv_at hl 0 rfl) ?_
  refine W.objInit hx hb hown (hts (.methodLink RX9 1 objectInit) (by decide +kernel)) (hts (.instanceMethod objectInit) (by decide +kernel)) (hts (.code objectInit ⟨#[0xb1]⟩ 1 none) (by decide +kernel)) rfl (by rw [hml]; exact hl.1) rfl dX9_init_1 (Nat.le_of_ble_eq_true rfl) (Nat.le_of_ble_eq_true rfl) ?_
  refine W.eq (g2 := F0 m 4 ls []) rfl ?_
  obtain ⟨f0, hf0⟩ : ∃ x : List Value, x = [.int 0, .int 0, .null, .null, .null, .null, .null, .null, .null, .null, .int 0, .int 0, .null, .int 0, .null, .int 0, .null, .null, .null, .null, .null, .int 0, .null, .null, .null, .null, .int 0, .null, .null, .int 0, .int 0, .int 0, .int 0, .int 0, .int 0, .int 0, .int 0, .int 0, .int 0, .int 0] := ⟨_, rfl⟩
  rw [← hf0] at hP hD
  obtain ⟨W0, hW0⟩ : ∃ x : va_W, x = [] := ⟨_, rfl⟩
  rw [← hW0] at hP hD
  refine lv_aload_n hx hb dX9_init_4 rfl (lv_at hl 0 rfl) ?_
  refine lv_bipush (v := 16) hx hb dX9_init_5 (by decide) ?_
  refine zc_newa (N := 16) S (by decide +kernel) hK hP hD hS hA rfl (by decide) (Nat.le_of_ble_eq_true rfl) (Nat.le_of_ble_eq_true rfl) dX9_init_7 (fun q1 H hP hD hS => ?_)
  have hP : va_P G.1 vwCl ((h0, .inr (9, f0)) :: (W0 ++ [(q1, .inl (G.2.1, 16, .inl (fun _ => 0)))])) H := hP
  have hD : va_D A ((h0, .inr (9, f0)) :: (W0 ++ [(q1, .inl (G.2.1, 16, .inl (fun _ => 0)))])) := hD
  refine va_putF (D := G.1) (ci := 9) (v := .ref q1) (ty := .array .int) (C := RX9) (T := TX9) (N := 40) hx hb hts in_ctor9 tyX9 tyX9_ok nmX9 hown hK.1 hP hD hS 0 rfl rfl 2 (by decide) (hts (.fieldLink RX9 7 "RuleCourtModel" "kind" "[I") (by decide +kernel)) (fun _ h9 => h9) rfl hin rfl (by decide +kernel) (by first | rfl | decide) rfl (Nat.le_of_ble_eq_true rfl) dX9_init_9 (fun H locs hP hD hS => ?_)
  have hP : va_P G.1 vwCl ((h0, .inr (9, f0.set 2 (.ref q1))) :: (W0 ++ [(q1, .inl (G.2.1, 16, .inl (fun _ => 0)))])) H := hP
  have hD : va_D A ((h0, .inr (9, f0.set 2 (.ref q1))) :: (W0 ++ [(q1, .inl (G.2.1, 16, .inl (fun _ => 0)))])) := hD
  obtain ⟨f1, hf1⟩ : ∃ x : List Value, x = f0.set 2 (.ref q1) := ⟨_, rfl⟩
  rw [← hf1] at hP hD
  obtain ⟨W1, hW1⟩ : ∃ x : va_W, x = W0 ++ [(q1, .inl (G.2.1, 16, .inl (fun _ => 0)))] := ⟨_, rfl⟩
  rw [← hW1] at hP hD
  refine lv_aload_n hx hb dX9_init_12 rfl (lv_at hl 0 rfl) ?_
  refine lv_bipush (v := 16) hx hb dX9_init_13 (by decide) ?_
  refine zc_newa (N := 16) S (by decide +kernel) hK hP hD hS hA rfl (by decide) (Nat.le_of_ble_eq_true rfl) (Nat.le_of_ble_eq_true rfl) dX9_init_15 (fun q2 H hP hD hS => ?_)
  have hP : va_P G.1 vwCl ((h0, .inr (9, f1)) :: (W1 ++ [(q2, .inl (G.2.1, 16, .inl (fun _ => 0)))])) H := hP
  have hD : va_D A ((h0, .inr (9, f1)) :: (W1 ++ [(q2, .inl (G.2.1, 16, .inl (fun _ => 0)))])) := hD
  refine va_putF (D := G.1) (ci := 9) (v := .ref q2) (ty := .array .int) (C := RX9) (T := TX9) (N := 40) hx hb hts in_ctor9 tyX9 tyX9_ok nmX9 hown hK.1 hP hD hS 0 rfl rfl 3 (by decide) (hts (.fieldLink RX9 13 "RuleCourtModel" "head" "[I") (by decide +kernel)) (fun _ h9 => h9) rfl hin rfl (by decide +kernel) (by first | rfl | decide) rfl (Nat.le_of_ble_eq_true rfl) dX9_init_17 (fun H locs hP hD hS => ?_)
  have hP : va_P G.1 vwCl ((h0, .inr (9, f1.set 3 (.ref q2))) :: (W1 ++ [(q2, .inl (G.2.1, 16, .inl (fun _ => 0)))])) H := hP
  have hD : va_D A ((h0, .inr (9, f1.set 3 (.ref q2))) :: (W1 ++ [(q2, .inl (G.2.1, 16, .inl (fun _ => 0)))])) := hD
  obtain ⟨f2, hf2⟩ : ∃ x : List Value, x = f1.set 3 (.ref q2) := ⟨_, rfl⟩
  rw [← hf2] at hP hD
  obtain ⟨W2, hW2⟩ : ∃ x : va_W, x = W1 ++ [(q2, .inl (G.2.1, 16, .inl (fun _ => 0)))] := ⟨_, rfl⟩
  rw [← hW2] at hP hD
  refine lv_aload_n hx hb dX9_init_20 rfl (lv_at hl 0 rfl) ?_
  refine lv_bipush (v := 16) hx hb dX9_init_21 (by decide) ?_
  refine zc_newa (N := 16) S (by decide +kernel) hK hP hD hS hA rfl (by decide) (Nat.le_of_ble_eq_true rfl) (Nat.le_of_ble_eq_true rfl) dX9_init_23 (fun q3 H hP hD hS => ?_)
  have hP : va_P G.1 vwCl ((h0, .inr (9, f2)) :: (W2 ++ [(q3, .inl (G.2.1, 16, .inl (fun _ => 0)))])) H := hP
  have hD : va_D A ((h0, .inr (9, f2)) :: (W2 ++ [(q3, .inl (G.2.1, 16, .inl (fun _ => 0)))])) := hD
  refine va_putF (D := G.1) (ci := 9) (v := .ref q3) (ty := .array .int) (C := RX9) (T := TX9) (N := 40) hx hb hts in_ctor9 tyX9 tyX9_ok nmX9 hown hK.1 hP hD hS 0 rfl rfl 4 (by decide) (hts (.fieldLink RX9 16 "RuleCourtModel" "body" "[I") (by decide +kernel)) (fun _ h9 => h9) rfl hin rfl (by decide +kernel) (by first | rfl | decide) rfl (Nat.le_of_ble_eq_true rfl) dX9_init_25 (fun H locs hP hD hS => ?_)
  have hP : va_P G.1 vwCl ((h0, .inr (9, f2.set 4 (.ref q3))) :: (W2 ++ [(q3, .inl (G.2.1, 16, .inl (fun _ => 0)))])) H := hP
  have hD : va_D A ((h0, .inr (9, f2.set 4 (.ref q3))) :: (W2 ++ [(q3, .inl (G.2.1, 16, .inl (fun _ => 0)))])) := hD
  obtain ⟨f3, hf3⟩ : ∃ x : List Value, x = f2.set 4 (.ref q3) := ⟨_, rfl⟩
  rw [← hf3] at hP hD
  obtain ⟨W3, hW3⟩ : ∃ x : va_W, x = W2 ++ [(q3, .inl (G.2.1, 16, .inl (fun _ => 0)))] := ⟨_, rfl⟩
  rw [← hW3] at hP hD
  refine lv_aload_n hx hb dX9_init_28 rfl (lv_at hl 0 rfl) ?_
  refine lv_bipush (v := 16) hx hb dX9_init_29 (by decide) ?_
  refine zc_newa (N := 16) S (by decide +kernel) hK hP hD hS hA rfl (by decide) (Nat.le_of_ble_eq_true rfl) (Nat.le_of_ble_eq_true rfl) dX9_init_31 (fun q4 H hP hD hS => ?_)
  have hP : va_P G.1 vwCl ((h0, .inr (9, f3)) :: (W3 ++ [(q4, .inl (G.2.1, 16, .inl (fun _ => 0)))])) H := hP
  have hD : va_D A ((h0, .inr (9, f3)) :: (W3 ++ [(q4, .inl (G.2.1, 16, .inl (fun _ => 0)))])) := hD
  refine va_putF (D := G.1) (ci := 9) (v := .ref q4) (ty := .array .int) (C := RX9) (T := TX9) (N := 40) hx hb hts in_ctor9 tyX9 tyX9_ok nmX9 hown hK.1 hP hD hS 0 rfl rfl 5 (by decide) (hts (.fieldLink RX9 19 "RuleCourtModel" "except" "[I") (by decide +kernel)) (fun _ h9 => h9) rfl hin rfl (by decide +kernel) (by first | rfl | decide) rfl (Nat.le_of_ble_eq_true rfl) dX9_init_33 (fun H locs hP hD hS => ?_)
  have hP : va_P G.1 vwCl ((h0, .inr (9, f3.set 5 (.ref q4))) :: (W3 ++ [(q4, .inl (G.2.1, 16, .inl (fun _ => 0)))])) H := hP
  have hD : va_D A ((h0, .inr (9, f3.set 5 (.ref q4))) :: (W3 ++ [(q4, .inl (G.2.1, 16, .inl (fun _ => 0)))])) := hD
  obtain ⟨f4, hf4⟩ : ∃ x : List Value, x = f3.set 5 (.ref q4) := ⟨_, rfl⟩
  rw [← hf4] at hP hD
  obtain ⟨W4, hW4⟩ : ∃ x : va_W, x = W3 ++ [(q4, .inl (G.2.1, 16, .inl (fun _ => 0)))] := ⟨_, rfl⟩
  rw [← hW4] at hP hD
  refine lv_aload_n hx hb dX9_init_36 rfl (lv_at hl 0 rfl) ?_
  refine lv_bipush (v := 16) hx hb dX9_init_37 (by decide) ?_
  refine zc_newa (N := 16) S (by decide +kernel) hK hP hD hS hA rfl (by decide) (Nat.le_of_ble_eq_true rfl) (Nat.le_of_ble_eq_true rfl) dX9_init_39 (fun q5 H hP hD hS => ?_)
  have hP : va_P G.1 vwCl ((h0, .inr (9, f4)) :: (W4 ++ [(q5, .inl (G.2.1, 16, .inl (fun _ => 0)))])) H := hP
  have hD : va_D A ((h0, .inr (9, f4)) :: (W4 ++ [(q5, .inl (G.2.1, 16, .inl (fun _ => 0)))])) := hD
  refine va_putF (D := G.1) (ci := 9) (v := .ref q5) (ty := .array .int) (C := RX9) (T := TX9) (N := 40) hx hb hts in_ctor9 tyX9 tyX9_ok nmX9 hown hK.1 hP hD hS 0 rfl rfl 6 (by decide) (hts (.fieldLink RX9 22 "RuleCourtModel" "strength" "[I") (by decide +kernel)) (fun _ h9 => h9) rfl hin rfl (by decide +kernel) (by first | rfl | decide) rfl (Nat.le_of_ble_eq_true rfl) dX9_init_41 (fun H locs hP hD hS => ?_)
  have hP : va_P G.1 vwCl ((h0, .inr (9, f4.set 6 (.ref q5))) :: (W4 ++ [(q5, .inl (G.2.1, 16, .inl (fun _ => 0)))])) H := hP
  have hD : va_D A ((h0, .inr (9, f4.set 6 (.ref q5))) :: (W4 ++ [(q5, .inl (G.2.1, 16, .inl (fun _ => 0)))])) := hD
  obtain ⟨f5, hf5⟩ : ∃ x : List Value, x = f4.set 6 (.ref q5) := ⟨_, rfl⟩
  rw [← hf5] at hP hD
  obtain ⟨W5, hW5⟩ : ∃ x : va_W, x = W4 ++ [(q5, .inl (G.2.1, 16, .inl (fun _ => 0)))] := ⟨_, rfl⟩
  rw [← hW5] at hP hD
  refine lv_aload_n hx hb dX9_init_44 rfl (lv_at hl 0 rfl) ?_
  refine lv_bipush (v := 16) hx hb dX9_init_45 (by decide) ?_
  refine zc_newa (N := 16) S (by decide +kernel) hK hP hD hS hA rfl (by decide) (Nat.le_of_ble_eq_true rfl) (Nat.le_of_ble_eq_true rfl) dX9_init_47 (fun q6 H hP hD hS => ?_)
  have hP : va_P G.1 vwCl ((h0, .inr (9, f5)) :: (W5 ++ [(q6, .inl (G.2.1, 16, .inl (fun _ => 0)))])) H := hP
  have hD : va_D A ((h0, .inr (9, f5)) :: (W5 ++ [(q6, .inl (G.2.1, 16, .inl (fun _ => 0)))])) := hD
  refine va_putF (D := G.1) (ci := 9) (v := .ref q6) (ty := .array .int) (C := RX9) (T := TX9) (N := 40) hx hb hts in_ctor9 tyX9 tyX9_ok nmX9 hown hK.1 hP hD hS 0 rfl rfl 7 (by decide) (hts (.fieldLink RX9 25 "RuleCourtModel" "off" "[I") (by decide +kernel)) (fun _ h9 => h9) rfl hin rfl (by decide +kernel) (by first | rfl | decide) rfl (Nat.le_of_ble_eq_true rfl) dX9_init_49 (fun H locs hP hD hS => ?_)
  have hP : va_P G.1 vwCl ((h0, .inr (9, f5.set 7 (.ref q6))) :: (W5 ++ [(q6, .inl (G.2.1, 16, .inl (fun _ => 0)))])) H := hP
  have hD : va_D A ((h0, .inr (9, f5.set 7 (.ref q6))) :: (W5 ++ [(q6, .inl (G.2.1, 16, .inl (fun _ => 0)))])) := hD
  obtain ⟨f6, hf6⟩ : ∃ x : List Value, x = f5.set 7 (.ref q6) := ⟨_, rfl⟩
  rw [← hf6] at hP hD
  obtain ⟨W6, hW6⟩ : ∃ x : va_W, x = W5 ++ [(q6, .inl (G.2.1, 16, .inl (fun _ => 0)))] := ⟨_, rfl⟩
  rw [← hW6] at hP hD
  refine lv_aload_n hx hb dX9_init_52 rfl (lv_at hl 0 rfl) ?_
  refine lv_bipush (v := 16) hx hb dX9_init_53 (by decide) ?_
  refine zc_newa (N := 16) S (by decide +kernel) hK hP hD hS hA rfl (by decide) (Nat.le_of_ble_eq_true rfl) (Nat.le_of_ble_eq_true rfl) dX9_init_55 (fun q7 H hP hD hS => ?_)
  have hP : va_P G.1 vwCl ((h0, .inr (9, f6)) :: (W6 ++ [(q7, .inl (G.2.1, 16, .inl (fun _ => 0)))])) H := hP
  have hD : va_D A ((h0, .inr (9, f6)) :: (W6 ++ [(q7, .inl (G.2.1, 16, .inl (fun _ => 0)))])) := hD
  refine va_putF (D := G.1) (ci := 9) (v := .ref q7) (ty := .array .int) (C := RX9) (T := TX9) (N := 40) hx hb hts in_ctor9 tyX9 tyX9_ok nmX9 hown hK.1 hP hD hS 0 rfl rfl 8 (by decide) (hts (.fieldLink RX9 28 "RuleCourtModel" "over" "[I") (by decide +kernel)) (fun _ h9 => h9) rfl hin rfl (by decide +kernel) (by first | rfl | decide) rfl (Nat.le_of_ble_eq_true rfl) dX9_init_57 (fun H locs hP hD hS => ?_)
  have hP : va_P G.1 vwCl ((h0, .inr (9, f6.set 8 (.ref q7))) :: (W6 ++ [(q7, .inl (G.2.1, 16, .inl (fun _ => 0)))])) H := hP
  have hD : va_D A ((h0, .inr (9, f6.set 8 (.ref q7))) :: (W6 ++ [(q7, .inl (G.2.1, 16, .inl (fun _ => 0)))])) := hD
  obtain ⟨f7, hf7⟩ : ∃ x : List Value, x = f6.set 8 (.ref q7) := ⟨_, rfl⟩
  rw [← hf7] at hP hD
  obtain ⟨W7, hW7⟩ : ∃ x : va_W, x = W6 ++ [(q7, .inl (G.2.1, 16, .inl (fun _ => 0)))] := ⟨_, rfl⟩
  rw [← hW7] at hP hD
  refine lv_aload_n hx hb dX9_init_60 rfl (lv_at hl 0 rfl) ?_
  refine lv_bipush (v := 60) hx hb dX9_init_61 (by decide) ?_
  refine zc_newa (N := 60) S (by decide +kernel) hK hP hD hS hA rfl (by decide) (Nat.le_of_ble_eq_true rfl) (Nat.le_of_ble_eq_true rfl) dX9_init_63 (fun q8 H hP hD hS => ?_)
  have hP : va_P G.1 vwCl ((h0, .inr (9, f7)) :: (W7 ++ [(q8, .inl (G.2.1, 60, .inl (fun _ => 0)))])) H := hP
  have hD : va_D A ((h0, .inr (9, f7)) :: (W7 ++ [(q8, .inl (G.2.1, 60, .inl (fun _ => 0)))])) := hD
  refine va_putF (D := G.1) (ci := 9) (v := .ref q8) (ty := .array .int) (C := RX9) (T := TX9) (N := 40) hx hb hts in_ctor9 tyX9 tyX9_ok nmX9 hown hK.1 hP hD hS 0 rfl rfl 9 (by decide) (hts (.fieldLink RX9 31 "RuleCourtModel" "change" "[I") (by decide +kernel)) (fun _ h9 => h9) rfl hin rfl (by decide +kernel) (by first | rfl | decide) rfl (Nat.le_of_ble_eq_true rfl) dX9_init_65 (fun H locs hP hD hS => ?_)
  have hP : va_P G.1 vwCl ((h0, .inr (9, f7.set 9 (.ref q8))) :: (W7 ++ [(q8, .inl (G.2.1, 60, .inl (fun _ => 0)))])) H := hP
  have hD : va_D A ((h0, .inr (9, f7.set 9 (.ref q8))) :: (W7 ++ [(q8, .inl (G.2.1, 60, .inl (fun _ => 0)))])) := hD
  obtain ⟨f8, hf8⟩ : ∃ x : List Value, x = f7.set 9 (.ref q8) := ⟨_, rfl⟩
  rw [← hf8] at hP hD
  obtain ⟨W8, hW8⟩ : ∃ x : va_W, x = W7 ++ [(q8, .inl (G.2.1, 60, .inl (fun _ => 0)))] := ⟨_, rfl⟩
  rw [← hW8] at hP hD
  refine lv_aload_n hx hb dX9_init_68 rfl (lv_at hl 0 rfl) ?_
  refine lv_bipush (v := 120) hx hb dX9_init_69 (by decide) ?_
  refine zc_newa (N := 120) S (by decide +kernel) hK hP hD hS hA rfl (by decide) (Nat.le_of_ble_eq_true rfl) (Nat.le_of_ble_eq_true rfl) dX9_init_71 (fun q9 H hP hD hS => ?_)
  have hP : va_P G.1 vwCl ((h0, .inr (9, f8)) :: (W8 ++ [(q9, .inl (G.2.1, 120, .inl (fun _ => 0)))])) H := hP
  have hD : va_D A ((h0, .inr (9, f8)) :: (W8 ++ [(q9, .inl (G.2.1, 120, .inl (fun _ => 0)))])) := hD
  refine va_putF (D := G.1) (ci := 9) (v := .ref q9) (ty := .array .int) (C := RX9) (T := TX9) (N := 40) hx hb hts in_ctor9 tyX9 tyX9_ok nmX9 hown hK.1 hP hD hS 0 rfl rfl 12 (by decide) (hts (.fieldLink RX9 34 "RuleCourtModel" "tape" "[I") (by decide +kernel)) (fun _ h9 => h9) rfl hin rfl (by decide +kernel) (by first | rfl | decide) rfl (Nat.le_of_ble_eq_true rfl) dX9_init_73 (fun H locs hP hD hS => ?_)
  have hP : va_P G.1 vwCl ((h0, .inr (9, f8.set 12 (.ref q9))) :: (W8 ++ [(q9, .inl (G.2.1, 120, .inl (fun _ => 0)))])) H := hP
  have hD : va_D A ((h0, .inr (9, f8.set 12 (.ref q9))) :: (W8 ++ [(q9, .inl (G.2.1, 120, .inl (fun _ => 0)))])) := hD
  obtain ⟨f9, hf9⟩ : ∃ x : List Value, x = f8.set 12 (.ref q9) := ⟨_, rfl⟩
  rw [← hf9] at hP hD
  obtain ⟨W9, hW9⟩ : ∃ x : va_W, x = W8 ++ [(q9, .inl (G.2.1, 120, .inl (fun _ => 0)))] := ⟨_, rfl⟩
  rw [← hW9] at hP hD
  refine lv_aload_n hx hb dX9_init_76 rfl (lv_at hl 0 rfl) ?_
  refine lv_sipush (v := 2000) hx hb dX9_init_77 (by decide) ?_
  refine zc_newa (N := 2000) S (by decide +kernel) hK hP hD hS hA rfl (by decide) (Nat.le_of_ble_eq_true rfl) (Nat.le_of_ble_eq_true rfl) dX9_init_80 (fun q10 H hP hD hS => ?_)
  have hP : va_P G.1 vwCl ((h0, .inr (9, f9)) :: (W9 ++ [(q10, .inl (G.2.1, 2000, .inl (fun _ => 0)))])) H := hP
  have hD : va_D A ((h0, .inr (9, f9)) :: (W9 ++ [(q10, .inl (G.2.1, 2000, .inl (fun _ => 0)))])) := hD
  refine va_putF (D := G.1) (ci := 9) (v := .ref q10) (ty := .array .int) (C := RX9) (T := TX9) (N := 40) hx hb hts in_ctor9 tyX9 tyX9_ok nmX9 hown hK.1 hP hD hS 0 rfl rfl 14 (by decide) (hts (.fieldLink RX9 37 "RuleCourtModel" "paper" "[I") (by decide +kernel)) (fun _ h9 => h9) rfl hin rfl (by decide +kernel) (by first | rfl | decide) rfl (Nat.le_of_ble_eq_true rfl) dX9_init_82 (fun H locs hP hD hS => ?_)
  have hP : va_P G.1 vwCl ((h0, .inr (9, f9.set 14 (.ref q10))) :: (W9 ++ [(q10, .inl (G.2.1, 2000, .inl (fun _ => 0)))])) H := hP
  have hD : va_D A ((h0, .inr (9, f9.set 14 (.ref q10))) :: (W9 ++ [(q10, .inl (G.2.1, 2000, .inl (fun _ => 0)))])) := hD
  obtain ⟨f10, hf10⟩ : ∃ x : List Value, x = f9.set 14 (.ref q10) := ⟨_, rfl⟩
  rw [← hf10] at hP hD
  obtain ⟨W10, hW10⟩ : ∃ x : va_W, x = W9 ++ [(q10, .inl (G.2.1, 2000, .inl (fun _ => 0)))] := ⟨_, rfl⟩
  rw [← hW10] at hP hD
  refine lv_aload_n hx hb dX9_init_85 rfl (lv_at hl 0 rfl) ?_
  refine lv_iconst (v := 4) hx hb dX9_init_86 (by decide) ?_
  refine zc_newa (N := 4) S (by decide +kernel) hK hP hD hS hA rfl (by decide) (Nat.le_of_ble_eq_true rfl) (Nat.le_of_ble_eq_true rfl) dX9_init_87 (fun q11 H hP hD hS => ?_)
  have hP : va_P G.1 vwCl ((h0, .inr (9, f10)) :: (W10 ++ [(q11, .inl (G.2.1, 4, .inl (fun _ => 0)))])) H := hP
  have hD : va_D A ((h0, .inr (9, f10)) :: (W10 ++ [(q11, .inl (G.2.1, 4, .inl (fun _ => 0)))])) := hD
  refine lv_dup hx hb dX9_init_89 rfl ?_
  refine lv_iconst (v := 0) hx hb dX9_init_90 (by decide) ?_
  refine lv_iconst (v := (-1)) hx hb dX9_init_91 (by decide) ?_
  refine va_iast (q0 := W10.length + 1) (t0 := 0) hx hb hK.1 hP hD hS (zg_get _ _ _) rfl (vp_in_nI (n := 0) (N := 4) (by decide) (by decide)) dX9_init_92 (fun H locs hP hD hS => ?_)
  rw [zg_set] at hP hD
  have hP : va_P G.1 vwCl ((h0, .inr (9, f10)) :: (W10 ++ [(q11, .inl (G.2.1, 4, .inl (upd (fun _ => 0) (0 : Int32).toNatClampNeg (-1))))])) H := hP
  have hD : va_D A ((h0, .inr (9, f10)) :: (W10 ++ [(q11, .inl (G.2.1, 4, .inl (upd (fun _ => 0) (0 : Int32).toNatClampNeg (-1))))])) := hD
  refine lv_dup hx hb dX9_init_93 rfl ?_
  refine lv_iconst (v := 1) hx hb dX9_init_94 (by decide) ?_
  refine lv_iconst (v := (-1)) hx hb dX9_init_95 (by decide) ?_
  refine va_iast (q0 := W10.length + 1) (t0 := 0) hx hb hK.1 hP hD hS (zg_get _ _ _) rfl (vp_in_nI (n := 1) (N := 4) (by decide) (by decide)) dX9_init_96 (fun H locs hP hD hS => ?_)
  rw [zg_set] at hP hD
  have hP : va_P G.1 vwCl ((h0, .inr (9, f10)) :: (W10 ++ [(q11, .inl (G.2.1, 4, .inl (upd (upd (fun _ => 0) (0 : Int32).toNatClampNeg (-1)) (1 : Int32).toNatClampNeg (-1))))])) H := hP
  have hD : va_D A ((h0, .inr (9, f10)) :: (W10 ++ [(q11, .inl (G.2.1, 4, .inl (upd (upd (fun _ => 0) (0 : Int32).toNatClampNeg (-1)) (1 : Int32).toNatClampNeg (-1))))])) := hD
  refine lv_dup hx hb dX9_init_97 rfl ?_
  refine lv_iconst (v := 2) hx hb dX9_init_98 (by decide) ?_
  refine lv_iconst (v := (-1)) hx hb dX9_init_99 (by decide) ?_
  refine va_iast (q0 := W10.length + 1) (t0 := 0) hx hb hK.1 hP hD hS (zg_get _ _ _) rfl (vp_in_nI (n := 2) (N := 4) (by decide) (by decide)) dX9_init_100 (fun H locs hP hD hS => ?_)
  rw [zg_set] at hP hD
  have hP : va_P G.1 vwCl ((h0, .inr (9, f10)) :: (W10 ++ [(q11, .inl (G.2.1, 4, .inl (upd (upd (upd (fun _ => 0) (0 : Int32).toNatClampNeg (-1)) (1 : Int32).toNatClampNeg (-1)) (2 : Int32).toNatClampNeg (-1))))])) H := hP
  have hD : va_D A ((h0, .inr (9, f10)) :: (W10 ++ [(q11, .inl (G.2.1, 4, .inl (upd (upd (upd (fun _ => 0) (0 : Int32).toNatClampNeg (-1)) (1 : Int32).toNatClampNeg (-1)) (2 : Int32).toNatClampNeg (-1))))])) := hD
  refine lv_dup hx hb dX9_init_101 rfl ?_
  refine lv_iconst (v := 3) hx hb dX9_init_102 (by decide) ?_
  refine lv_iconst (v := (-1)) hx hb dX9_init_103 (by decide) ?_
  refine va_iast (q0 := W10.length + 1) (t0 := 0) hx hb hK.1 hP hD hS (zg_get _ _ _) rfl (vp_in_nI (n := 3) (N := 4) (by decide) (by decide)) dX9_init_104 (fun H locs hP hD hS => ?_)
  rw [zg_set] at hP hD
  have hP : va_P G.1 vwCl ((h0, .inr (9, f10)) :: (W10 ++ [(q11, .inl (G.2.1, 4, .inl (upd (upd (upd (upd (fun _ => 0) (0 : Int32).toNatClampNeg (-1)) (1 : Int32).toNatClampNeg (-1)) (2 : Int32).toNatClampNeg (-1)) (3 : Int32).toNatClampNeg (-1))))])) H := hP
  have hD : va_D A ((h0, .inr (9, f10)) :: (W10 ++ [(q11, .inl (G.2.1, 4, .inl (upd (upd (upd (upd (fun _ => 0) (0 : Int32).toNatClampNeg (-1)) (1 : Int32).toNatClampNeg (-1)) (2 : Int32).toNatClampNeg (-1)) (3 : Int32).toNatClampNeg (-1))))])) := hD
  refine va_putF (D := G.1) (ci := 9) (v := .ref q11) (ty := .array .int) (C := RX9) (T := TX9) (N := 40) hx hb hts in_ctor9 tyX9 tyX9_ok nmX9 hown hK.1 hP hD hS 0 rfl rfl 16 (by decide) (hts (.fieldLink RX9 40 "RuleCourtModel" "size" "[I") (by decide +kernel)) (fun _ h9 => h9) rfl hin rfl (by decide +kernel) (by first | rfl | decide) rfl (Nat.le_of_ble_eq_true rfl) dX9_init_105 (fun H locs hP hD hS => ?_)
  have hP : va_P G.1 vwCl ((h0, .inr (9, f10.set 16 (.ref q11))) :: (W10 ++ [(q11, .inl (G.2.1, 4, .inl (upd (upd (upd (upd (fun _ => 0) (0 : Int32).toNatClampNeg (-1)) (1 : Int32).toNatClampNeg (-1)) (2 : Int32).toNatClampNeg (-1)) (3 : Int32).toNatClampNeg (-1))))])) H := hP
  have hD : va_D A ((h0, .inr (9, f10.set 16 (.ref q11))) :: (W10 ++ [(q11, .inl (G.2.1, 4, .inl (upd (upd (upd (upd (fun _ => 0) (0 : Int32).toNatClampNeg (-1)) (1 : Int32).toNatClampNeg (-1)) (2 : Int32).toNatClampNeg (-1)) (3 : Int32).toNatClampNeg (-1))))])) := hD
  obtain ⟨f11, hf11⟩ : ∃ x : List Value, x = f10.set 16 (.ref q11) := ⟨_, rfl⟩
  rw [← hf11] at hP hD
  obtain ⟨W11, hW11⟩ : ∃ x : va_W, x = W10 ++ [(q11, .inl (G.2.1, 4, .inl (upd (upd (upd (upd (fun _ => 0) (0 : Int32).toNatClampNeg (-1)) (1 : Int32).toNatClampNeg (-1)) (2 : Int32).toNatClampNeg (-1)) (3 : Int32).toNatClampNeg (-1))))] := ⟨_, rfl⟩
  rw [← hW11] at hP hD
  refine lv_aload_n hx hb dX9_init_108 rfl (lv_at hl 0 rfl) ?_
  refine lv_bipush (v := 96) hx hb dX9_init_109 (by decide) ?_
  refine zc_newa (N := 96) S (by decide +kernel) hK hP hD hS hA rfl (by decide) (Nat.le_of_ble_eq_true rfl) (Nat.le_of_ble_eq_true rfl) dX9_init_111 (fun q12 H hP hD hS => ?_)
  have hP : va_P G.1 vwCl ((h0, .inr (9, f11)) :: (W11 ++ [(q12, .inl (G.2.1, 96, .inl (fun _ => 0)))])) H := hP
  have hD : va_D A ((h0, .inr (9, f11)) :: (W11 ++ [(q12, .inl (G.2.1, 96, .inl (fun _ => 0)))])) := hD
  refine va_putF (D := G.1) (ci := 9) (v := .ref q12) (ty := .array .int) (C := RX9) (T := TX9) (N := 40) hx hb hts in_ctor9 tyX9 tyX9_ok nmX9 hown hK.1 hP hD hS 0 rfl rfl 17 (by decide) (hts (.fieldLink RX9 43 "RuleCourtModel" "told" "[I") (by decide +kernel)) (fun _ h9 => h9) rfl hin rfl (by decide +kernel) (by first | rfl | decide) rfl (Nat.le_of_ble_eq_true rfl) dX9_init_113 (fun H locs hP hD hS => ?_)
  have hP : va_P G.1 vwCl ((h0, .inr (9, f11.set 17 (.ref q12))) :: (W11 ++ [(q12, .inl (G.2.1, 96, .inl (fun _ => 0)))])) H := hP
  have hD : va_D A ((h0, .inr (9, f11.set 17 (.ref q12))) :: (W11 ++ [(q12, .inl (G.2.1, 96, .inl (fun _ => 0)))])) := hD
  obtain ⟨f12, hf12⟩ : ∃ x : List Value, x = f11.set 17 (.ref q12) := ⟨_, rfl⟩
  rw [← hf12] at hP hD
  obtain ⟨W12, hW12⟩ : ∃ x : va_W, x = W11 ++ [(q12, .inl (G.2.1, 96, .inl (fun _ => 0)))] := ⟨_, rfl⟩
  rw [← hW12] at hP hD
  refine lv_aload_n hx hb dX9_init_116 rfl (lv_at hl 0 rfl) ?_
  refine lv_bipush (v := 120) hx hb dX9_init_117 (by decide) ?_
  refine zc_newa (N := 120) S (by decide +kernel) hK hP hD hS hA rfl (by decide) (Nat.le_of_ble_eq_true rfl) (Nat.le_of_ble_eq_true rfl) dX9_init_119 (fun q13 H hP hD hS => ?_)
  have hP : va_P G.1 vwCl ((h0, .inr (9, f12)) :: (W12 ++ [(q13, .inl (G.2.1, 120, .inl (fun _ => 0)))])) H := hP
  have hD : va_D A ((h0, .inr (9, f12)) :: (W12 ++ [(q13, .inl (G.2.1, 120, .inl (fun _ => 0)))])) := hD
  refine va_putF (D := G.1) (ci := 9) (v := .ref q13) (ty := .array .int) (C := RX9) (T := TX9) (N := 40) hx hb hts in_ctor9 tyX9 tyX9_ok nmX9 hown hK.1 hP hD hS 0 rfl rfl 18 (by decide) (hts (.fieldLink RX9 46 "RuleCourtModel" "imaged" "[I") (by decide +kernel)) (fun _ h9 => h9) rfl hin rfl (by decide +kernel) (by first | rfl | decide) rfl (Nat.le_of_ble_eq_true rfl) dX9_init_121 (fun H locs hP hD hS => ?_)
  have hP : va_P G.1 vwCl ((h0, .inr (9, f12.set 18 (.ref q13))) :: (W12 ++ [(q13, .inl (G.2.1, 120, .inl (fun _ => 0)))])) H := hP
  have hD : va_D A ((h0, .inr (9, f12.set 18 (.ref q13))) :: (W12 ++ [(q13, .inl (G.2.1, 120, .inl (fun _ => 0)))])) := hD
  obtain ⟨f13, hf13⟩ : ∃ x : List Value, x = f12.set 18 (.ref q13) := ⟨_, rfl⟩
  rw [← hf13] at hP hD
  obtain ⟨W13, hW13⟩ : ∃ x : va_W, x = W12 ++ [(q13, .inl (G.2.1, 120, .inl (fun _ => 0)))] := ⟨_, rfl⟩
  rw [← hW13] at hP hD
  refine lv_aload_n hx hb dX9_init_124 rfl (lv_at hl 0 rfl) ?_
  refine lv_bipush (v := 120) hx hb dX9_init_125 (by decide) ?_
  refine zc_newa (N := 120) S (by decide +kernel) hK hP hD hS hA rfl (by decide) (Nat.le_of_ble_eq_true rfl) (Nat.le_of_ble_eq_true rfl) dX9_init_127 (fun q14 H hP hD hS => ?_)
  have hP : va_P G.1 vwCl ((h0, .inr (9, f13)) :: (W13 ++ [(q14, .inl (G.2.1, 120, .inl (fun _ => 0)))])) H := hP
  have hD : va_D A ((h0, .inr (9, f13)) :: (W13 ++ [(q14, .inl (G.2.1, 120, .inl (fun _ => 0)))])) := hD
  refine va_putF (D := G.1) (ci := 9) (v := .ref q14) (ty := .array .int) (C := RX9) (T := TX9) (N := 40) hx hb hts in_ctor9 tyX9 tyX9_ok nmX9 hown hK.1 hP hD hS 0 rfl rfl 19 (by decide) (hts (.fieldLink RX9 49 "RuleCourtModel" "before" "[I") (by decide +kernel)) (fun _ h9 => h9) rfl hin rfl (by decide +kernel) (by first | rfl | decide) rfl (Nat.le_of_ble_eq_true rfl) dX9_init_129 (fun H locs hP hD hS => ?_)
  have hP : va_P G.1 vwCl ((h0, .inr (9, f13.set 19 (.ref q14))) :: (W13 ++ [(q14, .inl (G.2.1, 120, .inl (fun _ => 0)))])) H := hP
  have hD : va_D A ((h0, .inr (9, f13.set 19 (.ref q14))) :: (W13 ++ [(q14, .inl (G.2.1, 120, .inl (fun _ => 0)))])) := hD
  obtain ⟨f14, hf14⟩ : ∃ x : List Value, x = f13.set 19 (.ref q14) := ⟨_, rfl⟩
  rw [← hf14] at hP hD
  obtain ⟨W14, hW14⟩ : ∃ x : va_W, x = W13 ++ [(q14, .inl (G.2.1, 120, .inl (fun _ => 0)))] := ⟨_, rfl⟩
  rw [← hW14] at hP hD
  refine lv_aload_n hx hb dX9_init_132 rfl (lv_at hl 0 rfl) ?_
  refine lv_bipush (v := 60) hx hb dX9_init_133 (by decide) ?_
  refine zc_newa (N := 60) S (by decide +kernel) hK hP hD hS hA rfl (by decide) (Nat.le_of_ble_eq_true rfl) (Nat.le_of_ble_eq_true rfl) dX9_init_135 (fun q15 H hP hD hS => ?_)
  have hP : va_P G.1 vwCl ((h0, .inr (9, f14)) :: (W14 ++ [(q15, .inl (G.2.1, 60, .inl (fun _ => 0)))])) H := hP
  have hD : va_D A ((h0, .inr (9, f14)) :: (W14 ++ [(q15, .inl (G.2.1, 60, .inl (fun _ => 0)))])) := hD
  refine va_putF (D := G.1) (ci := 9) (v := .ref q15) (ty := .array .int) (C := RX9) (T := TX9) (N := 40) hx hb hts in_ctor9 tyX9 tyX9_ok nmX9 hown hK.1 hP hD hS 0 rfl rfl 20 (by decide) (hts (.fieldLink RX9 52 "RuleCourtModel" "changeBefore" "[I") (by decide +kernel)) (fun _ h9 => h9) rfl hin rfl (by decide +kernel) (by first | rfl | decide) rfl (Nat.le_of_ble_eq_true rfl) dX9_init_137 (fun H locs hP hD hS => ?_)
  have hP : va_P G.1 vwCl ((h0, .inr (9, f14.set 20 (.ref q15))) :: (W14 ++ [(q15, .inl (G.2.1, 60, .inl (fun _ => 0)))])) H := hP
  have hD : va_D A ((h0, .inr (9, f14.set 20 (.ref q15))) :: (W14 ++ [(q15, .inl (G.2.1, 60, .inl (fun _ => 0)))])) := hD
  obtain ⟨f15, hf15⟩ : ∃ x : List Value, x = f14.set 20 (.ref q15) := ⟨_, rfl⟩
  rw [← hf15] at hP hD
  obtain ⟨W15, hW15⟩ : ∃ x : va_W, x = W14 ++ [(q15, .inl (G.2.1, 60, .inl (fun _ => 0)))] := ⟨_, rfl⟩
  rw [← hW15] at hP hD
  refine lv_aload_n hx hb dX9_init_140 rfl (lv_at hl 0 rfl) ?_
  refine lv_bipush (v := 16) hx hb dX9_init_141 (by decide) ?_
  refine zc_newa (N := 16) S (by decide +kernel) hK hP hD hS hA rfl (by decide) (Nat.le_of_ble_eq_true rfl) (Nat.le_of_ble_eq_true rfl) dX9_init_143 (fun q16 H hP hD hS => ?_)
  have hP : va_P G.1 vwCl ((h0, .inr (9, f15)) :: (W15 ++ [(q16, .inl (G.2.1, 16, .inl (fun _ => 0)))])) H := hP
  have hD : va_D A ((h0, .inr (9, f15)) :: (W15 ++ [(q16, .inl (G.2.1, 16, .inl (fun _ => 0)))])) := hD
  refine va_putF (D := G.1) (ci := 9) (v := .ref q16) (ty := .array .int) (C := RX9) (T := TX9) (N := 40) hx hb hts in_ctor9 tyX9 tyX9_ok nmX9 hown hK.1 hP hD hS 0 rfl rfl 22 (by decide) (hts (.fieldLink RX9 55 "RuleCourtModel" "reached" "[I") (by decide +kernel)) (fun _ h9 => h9) rfl hin rfl (by decide +kernel) (by first | rfl | decide) rfl (Nat.le_of_ble_eq_true rfl) dX9_init_145 (fun H locs hP hD hS => ?_)
  have hP : va_P G.1 vwCl ((h0, .inr (9, f15.set 22 (.ref q16))) :: (W15 ++ [(q16, .inl (G.2.1, 16, .inl (fun _ => 0)))])) H := hP
  have hD : va_D A ((h0, .inr (9, f15.set 22 (.ref q16))) :: (W15 ++ [(q16, .inl (G.2.1, 16, .inl (fun _ => 0)))])) := hD
  obtain ⟨f16, hf16⟩ : ∃ x : List Value, x = f15.set 22 (.ref q16) := ⟨_, rfl⟩
  rw [← hf16] at hP hD
  obtain ⟨W16, hW16⟩ : ∃ x : va_W, x = W15 ++ [(q16, .inl (G.2.1, 16, .inl (fun _ => 0)))] := ⟨_, rfl⟩
  rw [← hW16] at hP hD
  refine lv_aload_n hx hb dX9_init_148 rfl (lv_at hl 0 rfl) ?_
  refine lv_bipush (v := 80) hx hb dX9_init_149 (by decide) ?_
  refine zc_newa (N := 80) S (by decide +kernel) hK hP hD hS hA rfl (by decide) (Nat.le_of_ble_eq_true rfl) (Nat.le_of_ble_eq_true rfl) dX9_init_151 (fun q17 H hP hD hS => ?_)
  have hP : va_P G.1 vwCl ((h0, .inr (9, f16)) :: (W16 ++ [(q17, .inl (G.2.1, 80, .inl (fun _ => 0)))])) H := hP
  have hD : va_D A ((h0, .inr (9, f16)) :: (W16 ++ [(q17, .inl (G.2.1, 80, .inl (fun _ => 0)))])) := hD
  refine va_putF (D := G.1) (ci := 9) (v := .ref q17) (ty := .array .int) (C := RX9) (T := TX9) (N := 40) hx hb hts in_ctor9 tyX9 tyX9_ok nmX9 hown hK.1 hP hD hS 0 rfl rfl 23 (by decide) (hts (.fieldLink RX9 58 "RuleCourtModel" "came" "[I") (by decide +kernel)) (fun _ h9 => h9) rfl hin rfl (by decide +kernel) (by first | rfl | decide) rfl (Nat.le_of_ble_eq_true rfl) dX9_init_153 (fun H locs hP hD hS => ?_)
  have hP : va_P G.1 vwCl ((h0, .inr (9, f16.set 23 (.ref q17))) :: (W16 ++ [(q17, .inl (G.2.1, 80, .inl (fun _ => 0)))])) H := hP
  have hD : va_D A ((h0, .inr (9, f16.set 23 (.ref q17))) :: (W16 ++ [(q17, .inl (G.2.1, 80, .inl (fun _ => 0)))])) := hD
  obtain ⟨f17, hf17⟩ : ∃ x : List Value, x = f16.set 23 (.ref q17) := ⟨_, rfl⟩
  rw [← hf17] at hP hD
  obtain ⟨W17, hW17⟩ : ∃ x : va_W, x = W16 ++ [(q17, .inl (G.2.1, 80, .inl (fun _ => 0)))] := ⟨_, rfl⟩
  rw [← hW17] at hP hD
  refine lv_aload_n hx hb dX9_init_156 rfl (lv_at hl 0 rfl) ?_
  refine lv_iconst (v := 4) hx hb dX9_init_157 (by decide) ?_
  refine zc_newa (N := 4) S (by decide +kernel) hK hP hD hS hA rfl (by decide) (Nat.le_of_ble_eq_true rfl) (Nat.le_of_ble_eq_true rfl) dX9_init_158 (fun q18 H hP hD hS => ?_)
  have hP : va_P G.1 vwCl ((h0, .inr (9, f17)) :: (W17 ++ [(q18, .inl (G.2.1, 4, .inl (fun _ => 0)))])) H := hP
  have hD : va_D A ((h0, .inr (9, f17)) :: (W17 ++ [(q18, .inl (G.2.1, 4, .inl (fun _ => 0)))])) := hD
  refine va_putF (D := G.1) (ci := 9) (v := .ref q18) (ty := .array .int) (C := RX9) (T := TX9) (N := 40) hx hb hts in_ctor9 tyX9 tyX9_ok nmX9 hown hK.1 hP hD hS 0 rfl rfl 24 (by decide) (hts (.fieldLink RX9 61 "RuleCourtModel" "known" "[I") (by decide +kernel)) (fun _ h9 => h9) rfl hin rfl (by decide +kernel) (by first | rfl | decide) rfl (Nat.le_of_ble_eq_true rfl) dX9_init_160 (fun H locs hP hD hS => ?_)
  have hP : va_P G.1 vwCl ((h0, .inr (9, f17.set 24 (.ref q18))) :: (W17 ++ [(q18, .inl (G.2.1, 4, .inl (fun _ => 0)))])) H := hP
  have hD : va_D A ((h0, .inr (9, f17.set 24 (.ref q18))) :: (W17 ++ [(q18, .inl (G.2.1, 4, .inl (fun _ => 0)))])) := hD
  obtain ⟨f18, hf18⟩ : ∃ x : List Value, x = f17.set 24 (.ref q18) := ⟨_, rfl⟩
  rw [← hf18] at hP hD
  obtain ⟨W18, hW18⟩ : ∃ x : va_W, x = W17 ++ [(q18, .inl (G.2.1, 4, .inl (fun _ => 0)))] := ⟨_, rfl⟩
  rw [← hW18] at hP hD
  refine lv_aload_n hx hb dX9_init_163 rfl (lv_at hl 0 rfl) ?_
  refine lv_iconst (v := 4) hx hb dX9_init_164 (by decide) ?_
  refine zc_newa (N := 4) S (by decide +kernel) hK hP hD hS hA rfl (by decide) (Nat.le_of_ble_eq_true rfl) (Nat.le_of_ble_eq_true rfl) dX9_init_165 (fun q19 H hP hD hS => ?_)
  have hP : va_P G.1 vwCl ((h0, .inr (9, f18)) :: (W18 ++ [(q19, .inl (G.2.1, 4, .inl (fun _ => 0)))])) H := hP
  have hD : va_D A ((h0, .inr (9, f18)) :: (W18 ++ [(q19, .inl (G.2.1, 4, .inl (fun _ => 0)))])) := hD
  refine va_putF (D := G.1) (ci := 9) (v := .ref q19) (ty := .array .int) (C := RX9) (T := TX9) (N := 40) hx hb hts in_ctor9 tyX9 tyX9_ok nmX9 hown hK.1 hP hD hS 0 rfl rfl 25 (by decide) (hts (.fieldLink RX9 64 "RuleCourtModel" "fresh" "[I") (by decide +kernel)) (fun _ h9 => h9) rfl hin rfl (by decide +kernel) (by first | rfl | decide) rfl (Nat.le_of_ble_eq_true rfl) dX9_init_167 (fun H locs hP hD hS => ?_)
  have hP : va_P G.1 vwCl ((h0, .inr (9, f18.set 25 (.ref q19))) :: (W18 ++ [(q19, .inl (G.2.1, 4, .inl (fun _ => 0)))])) H := hP
  have hD : va_D A ((h0, .inr (9, f18.set 25 (.ref q19))) :: (W18 ++ [(q19, .inl (G.2.1, 4, .inl (fun _ => 0)))])) := hD
  obtain ⟨f19, hf19⟩ : ∃ x : List Value, x = f18.set 25 (.ref q19) := ⟨_, rfl⟩
  rw [← hf19] at hP hD
  obtain ⟨W19, hW19⟩ : ∃ x : va_W, x = W18 ++ [(q19, .inl (G.2.1, 4, .inl (fun _ => 0)))] := ⟨_, rfl⟩
  rw [← hW19] at hP hD
  refine lv_aload_n hx hb dX9_init_170 rfl (lv_at hl 0 rfl) ?_
  refine lv_iconst (v := 4) hx hb dX9_init_171 (by decide) ?_
  refine zc_newa (N := 4) S (by decide +kernel) hK hP hD hS hA rfl (by decide) (Nat.le_of_ble_eq_true rfl) (Nat.le_of_ble_eq_true rfl) dX9_init_172 (fun q20 H hP hD hS => ?_)
  have hP : va_P G.1 vwCl ((h0, .inr (9, f19)) :: (W19 ++ [(q20, .inl (G.2.1, 4, .inl (fun _ => 0)))])) H := hP
  have hD : va_D A ((h0, .inr (9, f19)) :: (W19 ++ [(q20, .inl (G.2.1, 4, .inl (fun _ => 0)))])) := hD
  refine va_putF (D := G.1) (ci := 9) (v := .ref q20) (ty := .array .int) (C := RX9) (T := TX9) (N := 40) hx hb hts in_ctor9 tyX9 tyX9_ok nmX9 hown hK.1 hP hD hS 0 rfl rfl 27 (by decide) (hts (.fieldLink RX9 67 "RuleCourtModel" "needed" "[I") (by decide +kernel)) (fun _ h9 => h9) rfl hin rfl (by decide +kernel) (by first | rfl | decide) rfl (Nat.le_of_ble_eq_true rfl) dX9_init_174 (fun H locs hP hD hS => ?_)
  have hP : va_P G.1 vwCl ((h0, .inr (9, f19.set 27 (.ref q20))) :: (W19 ++ [(q20, .inl (G.2.1, 4, .inl (fun _ => 0)))])) H := hP
  have hD : va_D A ((h0, .inr (9, f19.set 27 (.ref q20))) :: (W19 ++ [(q20, .inl (G.2.1, 4, .inl (fun _ => 0)))])) := hD
  obtain ⟨f20, hf20⟩ : ∃ x : List Value, x = f19.set 27 (.ref q20) := ⟨_, rfl⟩
  rw [← hf20] at hP hD
  obtain ⟨W20, hW20⟩ : ∃ x : va_W, x = W19 ++ [(q20, .inl (G.2.1, 4, .inl (fun _ => 0)))] := ⟨_, rfl⟩
  rw [← hW20] at hP hD
  refine lv_aload_n hx hb dX9_init_177 rfl (lv_at hl 0 rfl) ?_
  refine lv_bipush (v := 80) hx hb dX9_init_178 (by decide) ?_
  refine zc_newa (N := 80) S (by decide +kernel) hK hP hD hS hA rfl (by decide) (Nat.le_of_ble_eq_true rfl) (Nat.le_of_ble_eq_true rfl) dX9_init_180 (fun q21 H hP hD hS => ?_)
  have hP : va_P G.1 vwCl ((h0, .inr (9, f20)) :: (W20 ++ [(q21, .inl (G.2.1, 80, .inl (fun _ => 0)))])) H := hP
  have hD : va_D A ((h0, .inr (9, f20)) :: (W20 ++ [(q21, .inl (G.2.1, 80, .inl (fun _ => 0)))])) := hD
  refine va_putF (D := G.1) (ci := 9) (v := .ref q21) (ty := .array .int) (C := RX9) (T := TX9) (N := 40) hx hb hts in_ctor9 tyX9 tyX9_ok nmX9 hown hK.1 hP hD hS 0 rfl rfl 28 (by decide) (hts (.fieldLink RX9 70 "RuleCourtModel" "listed" "[I") (by decide +kernel)) (fun _ h9 => h9) rfl hin rfl (by decide +kernel) (by first | rfl | decide) rfl (Nat.le_of_ble_eq_true rfl) dX9_init_182 (fun H locs hP hD hS => ?_)
  have hP : va_P G.1 vwCl ((h0, .inr (9, f20.set 28 (.ref q21))) :: (W20 ++ [(q21, .inl (G.2.1, 80, .inl (fun _ => 0)))])) H := hP
  have hD : va_D A ((h0, .inr (9, f20.set 28 (.ref q21))) :: (W20 ++ [(q21, .inl (G.2.1, 80, .inl (fun _ => 0)))])) := hD
  obtain ⟨f21, hf21⟩ : ∃ x : List Value, x = f20.set 28 (.ref q21) := ⟨_, rfl⟩
  rw [← hf21] at hP hD
  obtain ⟨W21, hW21⟩ : ∃ x : va_W, x = W20 ++ [(q21, .inl (G.2.1, 80, .inl (fun _ => 0)))] := ⟨_, rfl⟩
  rw [← hW21] at hP hD
  subst hf21 hW21
  subst hf20 hW20
  subst hf19 hW19
  subst hf18 hW18
  subst hf17 hW17
  subst hf16 hW16
  subst hf15 hW15
  subst hf14 hW14
  subst hf13 hW13
  subst hf12 hW12
  subst hf11 hW11
  subst hf10 hW10
  subst hf9 hW9
  subst hf8 hW8
  subst hf7 hW7
  subst hf6 hW6
  subst hf5 hW5
  subst hf4 hW4
  subst hf3 hW3
  subst hf2 hW2
  subst hf1 hW1
  subst hf0 hW0
  have hP9 : va_P G.1 vwCl (w9 G (zad [h0, q1, q2, q3, q4, q5, q6, q7, q8, q9, q10, q11, q12, q13, q14, q15, q16, q17, q18, q19, q20, q21]) zz9) H := hP
  have hD9 : va_D A (w9 G (zad [h0, q1, q2, q3, q4, q5, q6, q7, q8, q9, q10, q11, q12, q13, q14, q15, q16, q17, q18, q19, q20, q21]) zz9) := hD
  exact W.vret hx hb hr (fun t ht hW => ⟨⟨(), rfl, trivial, _, ⟨(zad [h0, q1, q2, q3, q4, q5, q6, q7, q8, q9, q10, q11, q12, q13, q14, q15, q16, q17, q18, q19, q20, q21]), rfl, rfl⟩, by rw [ht]; exact hP9, hD9⟩, hS.F ht⟩) hS.2.2 dX9_init_185
