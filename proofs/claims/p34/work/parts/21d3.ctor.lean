theorem in_ctor4 : ∀ w ∈ u_ws RX4 TX4 3, w ∈ wsX4_init := by decide +kernel
theorem zdf4 : ∀ j, j < 3 → defaultValue (tyX4 j) = vp_V [.null, .null, .int 0] j := by decide +kernel
def rmX4_init : Room := { frames := 2, cells := 9, slots := 192, locals := 44 }
set_option maxHeartbeats 4000000 in
set_option maxRecDepth 100000 in
theorem c_X4_init (l : Launch) (G : zG) : zNew l yX4_init wsX4_init rmX4_init G 4 [.null, .null, .int 0] 9 192 (fun q w => ∃ a v : Nat → Nat, a 0 = q ∧ w = w4 G a (v 0) zz4 ++ w6 G v zz6) := by
  intro h0 sz
  refine Met.ofW (cc := cX4_init) (maxL := 1) (ret := none) (by decide +kernel) rfl ?_
  intro p e s m args below meth c s₁ B hml hv
  obtain ⟨rfl, hsz, hP, hK, hD0, hAO⟩ := hv
  have hx := B.exec
  have hb := B.bytes
  have hr := B.returns
  have hts := atoms_spec (ws := wsX4_init) B.pre
  have hown : s.vm.findClass RX4 = some m.cls := findClass_of_methodNamed B.named
  have hlocks := B.notSynchronized
  have hin : meth.name = "<init>" := (name_of_methodNamed B.named B.method).1
  have S : CallFix p m c cX4_init 1 s _ wsX4_init RX4 := ⟨hx, hb, hml, hown, hts⟩
  subst hsz
  have hD := hD0.self (sz := s.heap.size)
  generalize hAe : va_A [((h0, .inr (4, [.null, .null, .int 0])) : Nat × va_E)] s.heap.size = A at hD ⊢
  have hA : ∀ q : Nat, s.heap.size ≤ q → A q := fun q h => by rw [← hAe]; exact Or.inr h
  have hS : va_S A s.heap s.heap [] := va_S.rf
  have hP : va_P G.1 vwCl [(h0, .inr (4, [.null, .null, .int 0]))] s.heap := hP
  have hl := lv_entry ([.ref h0]) (n := 1) (Nat.le_of_ble_eq_true rfl)
  rw [lg_entry_eq]
  generalize (lg_sl ([.ref h0]) ++ List.replicate (1 - (lg_sl ([.ref h0])).length) Slot.unset).toArray = ls at hl ⊢
  have hl : lv_has ls 1 [(0, .ref h0)] := hl
  refine lv_aload_n hx hb dX4_init_0 rfl (lv_at hl 0 rfl) ?_
  refine W.objInit hx hb hown (hts (.methodLink RX4 3 objectInit) (by decide +kernel)) (hts (.instanceMethod objectInit) (by decide +kernel)) (hts (.code objectInit ⟨#[0xb1]⟩ 1 none) (by decide +kernel)) rfl (by rw [hml]; exact hl.1) rfl dX4_init_1 (Nat.le_of_ble_eq_true rfl) (Nat.le_of_ble_eq_true rfl) ?_
  refine W.eq (g2 := F0 m 4 ls []) rfl ?_
  refine lv_aload_n hx hb dX4_init_4 rfl (lv_at hl 0 rfl) ?_
  refine zc_newN (ci := 6) (fs := [.null, .null, .null, .null, .null, .null, .null, .int 0, .int 0, .int 0, .int 0, .int 0]) (T := TX6) (N := 12) S (by decide +kernel) tyX6 tyX6_ok (by decide +kernel) (by decide +kernel) (by decide +kernel) hAO hK hP hD hS hA rfl zdf6 (c_X6_init l G) ⟨va_cnB 0 hts gX4_init_X6_init_n11 rfl rfl rfl (hK.2 (.methodLinkNest RX4 11 yX6_init "RuleCourt") (by decide +kernel)) (hts (.initialized RX6) (by decide +kernel)) (by decide +kernel) ⟨Nat.le_of_ble_eq_true rfl, Nat.le_of_ble_eq_true rfl⟩, rfl, hts (.instanceMethod yX6_init) (by decide +kernel)⟩ hl.1 (Nat.le_of_ble_eq_true rfl) (Nat.le_of_ble_eq_true rfl) (Nat.le_of_ble_eq_true rfl) dX4_init_5 dX4_init_8 dX4_init_9 (fun q1 wq1 H locs hwq1 hP hD hS => ?_)
  obtain ⟨aq1, rfl, rfl⟩ := hwq1
  have hP : va_P G.1 vwCl ([(h0, .inr (4, [.null, .null, .int 0]))] ++ w6 G aq1 zz6) H := hP
  have hD : va_D A ([(h0, .inr (4, [.null, .null, .int 0]))] ++ w6 G aq1 zz6) := hD
  refine va_putF (D := G.1) (ci := 4) (v := .ref (aq1 0)) (ty := .object "RuleCourt$View") (C := RX4) (T := TX4) (N := 3) hx hb hts in_ctor4 tyX4 tyX4_ok nmX4 hown hK.1 hP hD hS 0 rfl rfl 0 (by decide) (hts (.fieldLink RX4 12 "RuleCourt$Rounds" "view" "LRuleCourt$View;") (by decide +kernel)) (fun _ h9 => h9) rfl hin rfl (by decide +kernel) (by first | rfl | decide) rfl (Nat.le_of_ble_eq_true rfl) dX4_init_12 (fun H locs hP hD hS => ?_)
  have hP : va_P G.1 vwCl ([(h0, .inr (4, [.ref (aq1 0), .null, .int 0]))] ++ w6 G aq1 zz6) H := hP
  have hD : va_D A ([(h0, .inr (4, [.ref (aq1 0), .null, .int 0]))] ++ w6 G aq1 zz6) := hD
  refine lv_aload_n hx hb dX4_init_15 rfl (lv_at hl 0 rfl) ?_
  refine lv_bipush (v := 80) hx hb dX4_init_16 (by decide) ?_
  refine zc_newa (N := 80) S (by decide +kernel) hK hP hD hS hA rfl (by decide) (Nat.le_of_ble_eq_true rfl) (Nat.le_of_ble_eq_true rfl) dX4_init_18 (fun q2 H hP hD hS => ?_)
  have hP : va_P G.1 vwCl (([(h0, .inr (4, [.ref (aq1 0), .null, .int 0]))] ++ w6 G aq1 zz6) ++ [(q2, .inl (G.2.1, 80, .inl (fun _ => 0)))]) H := hP
  have hD : va_D A (([(h0, .inr (4, [.ref (aq1 0), .null, .int 0]))] ++ w6 G aq1 zz6) ++ [(q2, .inl (G.2.1, 80, .inl (fun _ => 0)))]) := hD
  refine va_putF (D := G.1) (ci := 4) (v := .ref q2) (ty := .array .int) (C := RX4) (T := TX4) (N := 3) hx hb hts in_ctor4 tyX4 tyX4_ok nmX4 hown hK.1 hP hD hS 0 rfl rfl 1 (by decide) (hts (.fieldLink RX4 18 "RuleCourt$Rounds" "came" "[I") (by decide +kernel)) (fun _ h9 => h9) rfl hin rfl (by decide +kernel) (by first | rfl | decide) rfl (Nat.le_of_ble_eq_true rfl) dX4_init_20 (fun H locs hP hD hS => ?_)
  have hP : va_P G.1 vwCl (([(h0, .inr (4, [.ref (aq1 0), .ref q2, .int 0]))] ++ w6 G aq1 zz6) ++ [(q2, .inl (G.2.1, 80, .inl (fun _ => 0)))]) H := hP
  have hD : va_D A (([(h0, .inr (4, [.ref (aq1 0), .ref q2, .int 0]))] ++ w6 G aq1 zz6) ++ [(q2, .inl (G.2.1, 80, .inl (fun _ => 0)))]) := hD
  refine lv_aload_n hx hb dX4_init_23 rfl (lv_at hl 0 rfl) ?_
  refine lv_iconst (v := 0) hx hb dX4_init_24 (by decide) ?_
  refine va_put (D := G.1) (ci := 4) (v := .int 0) (ty := .int) (C := RX4) (T := TX4) (N := 3) hx hb hts in_ctor4 tyX4 tyX4_ok nmX4 hown hK.1 hP hD hS 0 rfl rfl 2 (by decide) (hts (.fieldLink RX4 22 "RuleCourt$Rounds" "last" "I") (by decide +kernel)) (fun _ h9 => h9) rfl (by decide +kernel) (by first | rfl | decide) rfl (Nat.le_of_ble_eq_true rfl) dX4_init_25 (fun H locs hP hD hS => ?_)
  have hP : va_P G.1 vwCl (([(h0, .inr (4, [.ref (aq1 0), .ref q2, .int 0]))] ++ w6 G aq1 zz6) ++ [(q2, .inl (G.2.1, 80, .inl (fun _ => 0)))]) H := hP
  have hD : va_D A (([(h0, .inr (4, [.ref (aq1 0), .ref q2, .int 0]))] ++ w6 G aq1 zz6) ++ [(q2, .inl (G.2.1, 80, .inl (fun _ => 0)))]) := hD
  have hP9 := hP.sub (ws' := w4 G (zad [h0, q2]) (aq1 0) zz4 ++ w6 G aq1 zz6) [0, 9, 1, 2, 3, 4, 5, 6, 7, 8] rfl
  have hD9 := hD.sub (ws' := w4 G (zad [h0, q2]) (aq1 0) zz4 ++ w6 G aq1 zz6) [0, 9, 1, 2, 3, 4, 5, 6, 7, 8] (by decide) rfl
  exact W.vret hx hb hr (fun t ht hW => ⟨⟨(), rfl, trivial, _, ⟨zad [h0, q2], aq1, rfl, rfl⟩, by rw [ht]; exact hP9, hD9⟩, hS.F ht⟩) hS.2.2 dX4_init_28
theorem in_ctor3 : ∀ w ∈ u_ws RX3 TX3 4, w ∈ wsX3_init := by decide +kernel
theorem zdf3 : ∀ j, j < 4 → defaultValue (tyX3 j) = vp_V [.null, .null, .null, .int 0] j := by decide +kernel
def rmX3_init : Room := { frames := 2, cells := 10, slots := 196, locals := 44 }
set_option maxHeartbeats 4000000 in
set_option maxRecDepth 100000 in
theorem c_X3_init (l : Launch) (G : zG) : zNew l yX3_init wsX3_init rmX3_init G 3 [.null, .null, .null, .int 0] 10 196 (fun q w => ∃ a v : Nat → Nat, a 0 = q ∧ w = w3 G a (v 0) zz3 ++ w6 G v zz6) := by
  intro h0 sz
  refine Met.ofW (cc := cX3_init) (maxL := 1) (ret := none) (by decide +kernel) rfl ?_
  intro p e s m args below meth c s₁ B hml hv
  obtain ⟨rfl, hsz, hP, hK, hD0, hAO⟩ := hv
  have hx := B.exec
  have hb := B.bytes
  have hr := B.returns
  have hts := atoms_spec (ws := wsX3_init) B.pre
  have hown : s.vm.findClass RX3 = some m.cls := findClass_of_methodNamed B.named
  have hlocks := B.notSynchronized
  have hin : meth.name = "<init>" := (name_of_methodNamed B.named B.method).1
  have S : CallFix p m c cX3_init 1 s _ wsX3_init RX3 := ⟨hx, hb, hml, hown, hts⟩
  subst hsz
  have hD := hD0.self (sz := s.heap.size)
  generalize hAe : va_A [((h0, .inr (3, [.null, .null, .null, .int 0])) : Nat × va_E)] s.heap.size = A at hD ⊢
  have hA : ∀ q : Nat, s.heap.size ≤ q → A q := fun q h => by rw [← hAe]; exact Or.inr h
  have hS : va_S A s.heap s.heap [] := va_S.rf
  have hP : va_P G.1 vwCl [(h0, .inr (3, [.null, .null, .null, .int 0]))] s.heap := hP
  have hl := lv_entry ([.ref h0]) (n := 1) (Nat.le_of_ble_eq_true rfl)
  rw [lg_entry_eq]
  generalize (lg_sl ([.ref h0]) ++ List.replicate (1 - (lg_sl ([.ref h0])).length) Slot.unset).toArray = ls at hl ⊢
  have hl : lv_has ls 1 [(0, .ref h0)] := hl
  refine lv_aload_n hx hb dX3_init_0 rfl (lv_at hl 0 rfl) ?_
  refine W.objInit hx hb hown (hts (.methodLink RX3 3 objectInit) (by decide +kernel)) (hts (.instanceMethod objectInit) (by decide +kernel)) (hts (.code objectInit ⟨#[0xb1]⟩ 1 none) (by decide +kernel)) rfl (by rw [hml]; exact hl.1) rfl dX3_init_1 (Nat.le_of_ble_eq_true rfl) (Nat.le_of_ble_eq_true rfl) ?_
  refine W.eq (g2 := F0 m 4 ls []) rfl ?_
  refine lv_aload_n hx hb dX3_init_4 rfl (lv_at hl 0 rfl) ?_
  refine zc_newN (ci := 6) (fs := [.null, .null, .null, .null, .null, .null, .null, .int 0, .int 0, .int 0, .int 0, .int 0]) (T := TX6) (N := 12) S (by decide +kernel) tyX6 tyX6_ok (by decide +kernel) (by decide +kernel) (by decide +kernel) hAO hK hP hD hS hA rfl zdf6 (c_X6_init l G) ⟨va_cnB 0 hts gX3_init_X6_init_n11 rfl rfl rfl (hK.2 (.methodLinkNest RX3 11 yX6_init "RuleCourt") (by decide +kernel)) (hts (.initialized RX6) (by decide +kernel)) (by decide +kernel) ⟨Nat.le_of_ble_eq_true rfl, Nat.le_of_ble_eq_true rfl⟩, rfl, hts (.instanceMethod yX6_init) (by decide +kernel)⟩ hl.1 (Nat.le_of_ble_eq_true rfl) (Nat.le_of_ble_eq_true rfl) (Nat.le_of_ble_eq_true rfl) dX3_init_5 dX3_init_8 dX3_init_9 (fun q1 wq1 H locs hwq1 hP hD hS => ?_)
  obtain ⟨aq1, rfl, rfl⟩ := hwq1
  have hP : va_P G.1 vwCl ([(h0, .inr (3, [.null, .null, .null, .int 0]))] ++ w6 G aq1 zz6) H := hP
  have hD : va_D A ([(h0, .inr (3, [.null, .null, .null, .int 0]))] ++ w6 G aq1 zz6) := hD
  refine va_putF (D := G.1) (ci := 3) (v := .ref (aq1 0)) (ty := .object "RuleCourt$View") (C := RX3) (T := TX3) (N := 4) hx hb hts in_ctor3 tyX3 tyX3_ok nmX3 hown hK.1 hP hD hS 0 rfl rfl 0 (by decide) (hts (.fieldLink RX3 12 "RuleCourt$Proof" "view" "LRuleCourt$View;") (by decide +kernel)) (fun _ h9 => h9) rfl hin rfl (by decide +kernel) (by first | rfl | decide) rfl (Nat.le_of_ble_eq_true rfl) dX3_init_12 (fun H locs hP hD hS => ?_)
  have hP : va_P G.1 vwCl ([(h0, .inr (3, [.ref (aq1 0), .null, .null, .int 0]))] ++ w6 G aq1 zz6) H := hP
  have hD : va_D A ([(h0, .inr (3, [.ref (aq1 0), .null, .null, .int 0]))] ++ w6 G aq1 zz6) := hD
  refine lv_aload_n hx hb dX3_init_15 rfl (lv_at hl 0 rfl) ?_
  refine lv_iconst (v := 4) hx hb dX3_init_16 (by decide) ?_
  refine zc_newa (N := 4) S (by decide +kernel) hK hP hD hS hA rfl (by decide) (Nat.le_of_ble_eq_true rfl) (Nat.le_of_ble_eq_true rfl) dX3_init_17 (fun q2 H hP hD hS => ?_)
  have hP : va_P G.1 vwCl (([(h0, .inr (3, [.ref (aq1 0), .null, .null, .int 0]))] ++ w6 G aq1 zz6) ++ [(q2, .inl (G.2.1, 4, .inl (fun _ => 0)))]) H := hP
  have hD : va_D A (([(h0, .inr (3, [.ref (aq1 0), .null, .null, .int 0]))] ++ w6 G aq1 zz6) ++ [(q2, .inl (G.2.1, 4, .inl (fun _ => 0)))]) := hD
  refine va_putF (D := G.1) (ci := 3) (v := .ref q2) (ty := .array .int) (C := RX3) (T := TX3) (N := 4) hx hb hts in_ctor3 tyX3 tyX3_ok nmX3 hown hK.1 hP hD hS 0 rfl rfl 1 (by decide) (hts (.fieldLink RX3 18 "RuleCourt$Proof" "wanted" "[I") (by decide +kernel)) (fun _ h9 => h9) rfl hin rfl (by decide +kernel) (by first | rfl | decide) rfl (Nat.le_of_ble_eq_true rfl) dX3_init_19 (fun H locs hP hD hS => ?_)
  have hP : va_P G.1 vwCl (([(h0, .inr (3, [.ref (aq1 0), .ref q2, .null, .int 0]))] ++ w6 G aq1 zz6) ++ [(q2, .inl (G.2.1, 4, .inl (fun _ => 0)))]) H := hP
  have hD : va_D A (([(h0, .inr (3, [.ref (aq1 0), .ref q2, .null, .int 0]))] ++ w6 G aq1 zz6) ++ [(q2, .inl (G.2.1, 4, .inl (fun _ => 0)))]) := hD
  refine lv_aload_n hx hb dX3_init_22 rfl (lv_at hl 0 rfl) ?_
  refine lv_bipush (v := 80) hx hb dX3_init_23 (by decide) ?_
  refine zc_newa (N := 80) S (by decide +kernel) hK hP hD hS hA rfl (by decide) (Nat.le_of_ble_eq_true rfl) (Nat.le_of_ble_eq_true rfl) dX3_init_25 (fun q3 H hP hD hS => ?_)
  have hP : va_P G.1 vwCl ((([(h0, .inr (3, [.ref (aq1 0), .ref q2, .null, .int 0]))] ++ w6 G aq1 zz6) ++ [(q2, .inl (G.2.1, 4, .inl (fun _ => 0)))]) ++ [(q3, .inl (G.2.1, 80, .inl (fun _ => 0)))]) H := hP
  have hD : va_D A ((([(h0, .inr (3, [.ref (aq1 0), .ref q2, .null, .int 0]))] ++ w6 G aq1 zz6) ++ [(q2, .inl (G.2.1, 4, .inl (fun _ => 0)))]) ++ [(q3, .inl (G.2.1, 80, .inl (fun _ => 0)))]) := hD
  refine va_putF (D := G.1) (ci := 3) (v := .ref q3) (ty := .array .int) (C := RX3) (T := TX3) (N := 4) hx hb hts in_ctor3 tyX3 tyX3_ok nmX3 hown hK.1 hP hD hS 0 rfl rfl 2 (by decide) (hts (.fieldLink RX3 22 "RuleCourt$Proof" "steps" "[I") (by decide +kernel)) (fun _ h9 => h9) rfl hin rfl (by decide +kernel) (by first | rfl | decide) rfl (Nat.le_of_ble_eq_true rfl) dX3_init_27 (fun H locs hP hD hS => ?_)
  have hP : va_P G.1 vwCl ((([(h0, .inr (3, [.ref (aq1 0), .ref q2, .ref q3, .int 0]))] ++ w6 G aq1 zz6) ++ [(q2, .inl (G.2.1, 4, .inl (fun _ => 0)))]) ++ [(q3, .inl (G.2.1, 80, .inl (fun _ => 0)))]) H := hP
  have hD : va_D A ((([(h0, .inr (3, [.ref (aq1 0), .ref q2, .ref q3, .int 0]))] ++ w6 G aq1 zz6) ++ [(q2, .inl (G.2.1, 4, .inl (fun _ => 0)))]) ++ [(q3, .inl (G.2.1, 80, .inl (fun _ => 0)))]) := hD
  refine lv_aload_n hx hb dX3_init_30 rfl (lv_at hl 0 rfl) ?_
  refine lv_iconst (v := 0) hx hb dX3_init_31 (by decide) ?_
  refine va_put (D := G.1) (ci := 3) (v := .int 0) (ty := .int) (C := RX3) (T := TX3) (N := 4) hx hb hts in_ctor3 tyX3 tyX3_ok nmX3 hown hK.1 hP hD hS 0 rfl rfl 3 (by decide) (hts (.fieldLink RX3 25 "RuleCourt$Proof" "length" "I") (by decide +kernel)) (fun _ h9 => h9) rfl (by decide +kernel) (by first | rfl | decide) rfl (Nat.le_of_ble_eq_true rfl) dX3_init_32 (fun H locs hP hD hS => ?_)
  have hP : va_P G.1 vwCl ((([(h0, .inr (3, [.ref (aq1 0), .ref q2, .ref q3, .int 0]))] ++ w6 G aq1 zz6) ++ [(q2, .inl (G.2.1, 4, .inl (fun _ => 0)))]) ++ [(q3, .inl (G.2.1, 80, .inl (fun _ => 0)))]) H := hP
  have hD : va_D A ((([(h0, .inr (3, [.ref (aq1 0), .ref q2, .ref q3, .int 0]))] ++ w6 G aq1 zz6) ++ [(q2, .inl (G.2.1, 4, .inl (fun _ => 0)))]) ++ [(q3, .inl (G.2.1, 80, .inl (fun _ => 0)))]) := hD
  have hP9 := hP.sub (ws' := w3 G (zad [h0, q2, q3]) (aq1 0) zz3 ++ w6 G aq1 zz6) [0, 9, 10, 1, 2, 3, 4, 5, 6, 7, 8] rfl
  have hD9 := hD.sub (ws' := w3 G (zad [h0, q2, q3]) (aq1 0) zz3 ++ w6 G aq1 zz6) [0, 9, 10, 1, 2, 3, 4, 5, 6, 7, 8] (by decide) rfl
  exact W.vret hx hb hr (fun t ht hW => ⟨⟨(), rfl, trivial, _, ⟨zad [h0, q2, q3], aq1, rfl, rfl⟩, by rw [ht]; exact hP9, hD9⟩, hS.F ht⟩) hS.2.2 dX3_init_35
