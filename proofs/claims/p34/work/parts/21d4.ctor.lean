theorem va_P_swap {D : va_G} {cl : List vw_C} {ws : va_W} {H : Heap} {i a n : Nat} {cA : ClassId} {f f' : Nat → Option Nat} (h : va_P D cl ws H) (ha : ws[i]? = some (a, .inl (cA, n, .inr (.inr (.inr (.inr f)))))) (hf : ∀ j, j < n → f j = f' j) : va_P D cl (ws.set i (a, .inl (cA, n, .inr (.inr (.inr (.inr f')))))) H := by
  have ec : vp_cell cA (n, .inr (.inr (.inr (.inr f)))) = vp_cell cA (n, .inr (.inr (.inr (.inr f')))) := by
    rw [vp_cell, vp_cell]
    show arrV cA n (fun j => va_rf (f j)) = arrV cA n (fun j => va_rf (f' j))
    unfold arrV
    congr 2
    funext j
    show va_rf (f j.1) = va_rf (f' j.1)
    rw [hf j.1 j.2]
  intro k q hk
  by_cases e : i = k
  · subst e
    rw [List.getElem?_set_self (List.getElem?_eq_some_iff.mp ha).1] at hk
    have hq := Option.some.inj hk
    subst hq
    have h1 : H[a]? = some (vp_cell cA (n, .inr (.inr (.inr (.inr f))))) := h i _ ha
    show H[a]? = some (vp_cell cA (n, .inr (.inr (.inr (.inr f')))))
    rw [← ec]
    exact h1
  · rw [List.getElem?_set_ne e] at hk
    exact h k q hk
theorem va_D_swap {A : Nat → Prop} {ws : va_W} {i a : Nat} {x y : va_E} (h : va_D A ws) (ha : ws[i]? = some (a, x)) : va_D A (ws.set i (a, y)) := by
  have key : ∀ (k : Nat) (q : Nat × va_E), (ws.set i (a, y))[k]? = some q → ∃ q' : Nat × va_E, ws[k]? = some q' ∧ q'.1 = q.1 := fun k q hk => by
    by_cases e : i = k
    · subst e
      rw [List.getElem?_set_self (List.getElem?_eq_some_iff.mp ha).1] at hk
      exact ⟨_, ha, by rw [← Option.some.inj hk]⟩
    · rw [List.getElem?_set_ne e] at hk
      exact ⟨q, hk, rfl⟩
  refine ⟨fun j k q r hq hr e => ?_, fun k q hk => ?_⟩
  · obtain ⟨q', a1, a2⟩ := key j q hq
    obtain ⟨r', b1, b2⟩ := key k r hr
    exact h.1 j k q' r' a1 b1 (by rw [a2, b2]; exact e)
  · obtain ⟨q', a1, a2⟩ := key k q hk
    rw [← a2]
    exact h.2 k q' a1
theorem in_ctor1 : ∀ w ∈ u_ws RX1 TX1 3, w ∈ wsX1_init := by decide +kernel
theorem zdf1 : ∀ j, j < 3 → defaultValue (tyX1 j) = vp_V [.null, .int 0, .int 0] j := by decide +kernel
def rmX1_init : Room := { frames := 2, cells := 92, slots := 1378, locals := 44 }
set_option maxHeartbeats 4000000 in
set_option maxRecDepth 100000 in
theorem c_X1_init (l : Launch) (G : zG) : zNew l yX1_init wsX1_init rmX1_init G 1 [.null, .int 0, .int 0] 92 1378 (fun q w => ∃ a b, a 0 = q ∧ w = w1 G a b (fun j => j) 0 0 ++ (hcs G b (fun _ => zz0)).flatten) := by
  intro h0 sz
  refine Met.ofW (cc := cX1_init) (maxL := 2) (ret := none) (by decide +kernel) rfl ?_
  intro p e s m args below meth c s₁ B hml hv
  obtain ⟨rfl, hsz, hP, hK, hD0, hAO⟩ := hv
  have hx := B.exec
  have hb := B.bytes
  have hr := B.returns
  have hts := atoms_spec (ws := wsX1_init) B.pre
  have hown : s.vm.findClass RX1 = some m.cls := findClass_of_methodNamed B.named
  have hlocks := B.notSynchronized
  have hin : meth.name = "<init>" := (name_of_methodNamed B.named B.method).1
  have S : CallFix p m c cX1_init 2 s _ wsX1_init RX1 := ⟨hx, hb, hml, hown, hts⟩
  subst hsz
  have hD := hD0.self (sz := s.heap.size)
  generalize hAe : va_A [((h0, .inr (1, [.null, .int 0, .int 0])) : Nat × va_E)] s.heap.size = A at hD ⊢
  have hA : ∀ q : Nat, s.heap.size ≤ q → A q := fun q h => by rw [← hAe]; exact Or.inr h
  have hS : va_S A s.heap s.heap [] := va_S.rf
  have hP : va_P G.1 vwCl [(h0, .inr (1, [.null, .int 0, .int 0]))] s.heap := hP
  have hl := lv_entry ([.ref h0]) (n := 2) (Nat.le_of_ble_eq_true rfl)
  rw [lg_entry_eq]
  generalize (lg_sl ([.ref h0]) ++ List.replicate (2 - (lg_sl ([.ref h0])).length) Slot.unset).toArray = ls at hl ⊢
  have hl : lv_has ls 2 [(0, .ref h0)] := hl
  refine lv_aload_n hx hb dX1_init_0 rfl (lv_at hl 0 rfl) ?_
  refine W.objInit hx hb hown (hts (.methodLink RX1 3 objectInit) (by decide +kernel)) (hts (.instanceMethod objectInit) (by decide +kernel)) (hts (.code objectInit ⟨#[0xb1]⟩ 1 none) (by decide +kernel)) rfl (by rw [hml]; exact hl.1) rfl dX1_init_1 (Nat.le_of_ble_eq_true rfl) (Nat.le_of_ble_eq_true rfl) ?_
  refine W.eq (g2 := F0 m 4 ls []) rfl ?_
  refine lv_aload_n hx hb dX1_init_4 rfl (lv_at hl 0 rfl) ?_
  refine lv_bipush (v := 13) hx hb dX1_init_5 (by decide) ?_
  refine va_newq (N' := 13) hx hb hown (hts (.classLink RX1 9 RX0) (by decide +kernel)) hAO.1 hK.1 hP hD hS hA (by decide) (by decide) (by decide) (Nat.le_of_ble_eq_true rfl) (Nat.le_of_ble_eq_true rfl) dX1_init_7 (fun q1 cA H hKa hP hD hS => ?_)
  obtain ⟨_, _, _, _, _, e1⟩ := (hKa.2 3 (cA, .object RX0) rfl).2
  obtain ⟨_, _, _, _, _, e2⟩ := (hK.1.2 1 (G.2.2.1, .object RX0) rfl).2
  have e3 : cA = G.2.2.1 := Option.some.inj (e1.symm.trans e2)
  subst e3
  have hP : va_P G.1 vwCl ([(h0, .inr (1, [.null, .int 0, .int 0]))] ++ [(q1, .inl (G.2.2.1, 13, .inr (.inr (.inr (.inr (fun _ => none))))))]) H := hP
  have hD : va_D A ([(h0, .inr (1, [.null, .int 0, .int 0]))] ++ [(q1, .inl (G.2.2.1, 13, .inr (.inr (.inr (.inr (fun _ => none))))))]) := hD
  refine va_putF (D := G.1) (ci := 1) (v := .ref q1) (ty := .array (.object "RuleCourt$Court")) (C := RX1) (T := TX1) (N := 3) hx hb hts in_ctor1 tyX1 tyX1_ok nmX1 hown hK.1 hP hD hS 0 rfl rfl 0 (by decide) (hts (.fieldLink RX1 11 "RuleCourt$History" "kept" "[LRuleCourt$Court;") (by decide +kernel)) (fun _ h9 => h9) rfl hin rfl (by decide +kernel) (by first | rfl | decide) rfl (Nat.le_of_ble_eq_true rfl) dX1_init_10 (fun H locs hP hD hS => ?_)
  have hP : va_P G.1 vwCl ([(h0, .inr (1, [.ref q1, .int 0, .int 0]))] ++ [(q1, .inl (G.2.2.1, 13, .inr (.inr (.inr (.inr (fun _ => none))))))]) H := hP
  have hD : va_D A ([(h0, .inr (1, [.ref q1, .int 0, .int 0]))] ++ [(q1, .inl (G.2.2.1, 13, .inr (.inr (.inr (.inr (fun _ => none))))))]) := hD
  refine lv_aload_n hx hb dX1_init_13 rfl (lv_at hl 0 rfl) ?_
  refine lv_iconst (v := 0) hx hb dX1_init_14 (by decide) ?_
  refine va_put (D := G.1) (ci := 1) (v := .int 0) (ty := .int) (C := RX1) (T := TX1) (N := 3) hx hb hts in_ctor1 tyX1 tyX1_ok nmX1 hown hK.1 hP hD hS 0 rfl rfl 1 (by decide) (hts (.fieldLink RX1 17 "RuleCourt$History" "done" "I") (by decide +kernel)) (fun _ h9 => h9) rfl (by decide +kernel) (by first | rfl | decide) rfl (Nat.le_of_ble_eq_true rfl) dX1_init_15 (fun H locs hP hD hS => ?_)
  have hP : va_P G.1 vwCl ([(h0, .inr (1, [.ref q1, .int 0, .int 0]))] ++ [(q1, .inl (G.2.2.1, 13, .inr (.inr (.inr (.inr (fun _ => none))))))]) H := hP
  have hD : va_D A ([(h0, .inr (1, [.ref q1, .int 0, .int 0]))] ++ [(q1, .inl (G.2.2.1, 13, .inr (.inr (.inr (.inr (fun _ => none))))))]) := hD
  refine lv_aload_n hx hb dX1_init_18 rfl (lv_at hl 0 rfl) ?_
  refine lv_iconst (v := 0) hx hb dX1_init_19 (by decide) ?_
  refine va_put (D := G.1) (ci := 1) (v := .int 0) (ty := .int) (C := RX1) (T := TX1) (N := 3) hx hb hts in_ctor1 tyX1 tyX1_ok nmX1 hown hK.1 hP hD hS 0 rfl rfl 2 (by decide) (hts (.fieldLink RX1 21 "RuleCourt$History" "undone" "I") (by decide +kernel)) (fun _ h9 => h9) rfl (by decide +kernel) (by first | rfl | decide) rfl (Nat.le_of_ble_eq_true rfl) dX1_init_20 (fun H locs hP hD hS => ?_)
  have hP : va_P G.1 vwCl ([(h0, .inr (1, [.ref q1, .int 0, .int 0]))] ++ [(q1, .inl (G.2.2.1, 13, .inr (.inr (.inr (.inr (fun _ => none))))))]) H := hP
  have hD : va_D A ([(h0, .inr (1, [.ref q1, .int 0, .int 0]))] ++ [(q1, .inl (G.2.2.1, 13, .inr (.inr (.inr (.inr (fun _ => none))))))]) := hD
  refine lv_iconst (v := 0) hx hb dX1_init_23 (by decide) ?_
  refine lv_istore_n (lv' := [(1, .int 0), (0, .ref h0)]) hx hb dX1_init_24 rfl hl (by decide) rfl (fun ls hl => ?_)
  refine lv_iload_n hx hb dX1_init_25 rfl (lv_at hl 0 rfl) ?_
  refine lv_bipush (v := 12) hx hb dX1_init_26 (by decide) ?_
  refine lv_icmp_gt (tgt := 50) hx hb dX1_init_28 (by decide) (fun c => absurd c (by decide)) (fun _ => ?_)
  refine lv_aload_n hx hb dX1_init_31 rfl (lv_at hl 1 rfl) ?_
  refine va_get hx hb hts in_ctor1 hown hK.1 hP 0 rfl rfl 0 (by decide) (hts (.fieldLink RX1 11 "RuleCourt$History" "kept" "[LRuleCourt$Court;") (by decide +kernel)) (fun _ h9 => h9) rfl dX1_init_32 ?_
  refine lv_iload_n hx hb dX1_init_35 rfl (lv_at hl 0 rfl) ?_
  refine zc_newN (ci := 0) (fs := [.null, .null, .null, .null, .null, .null, .int 0, .int 0, .int 0]) (T := TX0) (N := 9) S (by decide +kernel) tyX0 tyX0_ok (by decide +kernel) (by decide +kernel) (by decide +kernel) hAO hK hP hD hS hA rfl zdf0 (c_X0_init l G) ⟨va_cnB 0 hts gX1_init_X0_init_n24 rfl rfl rfl (hK.2 (.methodLinkNest RX1 24 yX0_init "RuleCourt") (by decide +kernel)) (hts (.initialized RX0) (by decide +kernel)) (by decide +kernel) ⟨Nat.le_of_ble_eq_true rfl, Nat.le_of_ble_eq_true rfl⟩, rfl, hts (.instanceMethod yX0_init) (by decide +kernel)⟩ hl.1 (Nat.le_of_ble_eq_true rfl) (Nat.le_of_ble_eq_true rfl) (Nat.le_of_ble_eq_true rfl) dX1_init_36 dX1_init_39 dX1_init_40 (fun q2 wq2 H locs hwq2 hP hD hS => ?_)
  obtain ⟨aq2, rfl, rfl⟩ := hwq2
  have hP : va_P G.1 vwCl (([(h0, .inr (1, [.ref q1, .int 0, .int 0]))] ++ [(q1, .inl (G.2.2.1, 13, .inr (.inr (.inr (.inr (fun _ => none))))))]) ++ w0 G aq2 zz0) H := hP
  have hD : va_D A (([(h0, .inr (1, [.ref q1, .int 0, .int 0]))] ++ [(q1, .inl (G.2.2.1, 13, .inr (.inr (.inr (.inr (fun _ => none))))))]) ++ w0 G aq2 zz0) := hD
  refine va_astq (q0 := 1) (t0 := 1) (qk := 2) (ci := 0) hx hb hK.1 hP hD hS rfl rfl rfl rfl (vp_in_nI (n := 0) (N := 13) (by decide) (by decide)) dX1_init_43 (fun H locs hP hD hS => ?_)
  have hP : va_P G.1 vwCl (([(h0, .inr (1, [.ref q1, .int 0, .int 0]))] ++ [(q1, .inl (G.2.2.1, 13, .inr (.inr (.inr (.inr (va_up (fun _ => none) 0 (some (aq2 0))))))))]) ++ w0 G aq2 zz0) H := hP
  have hD : va_D A (([(h0, .inr (1, [.ref q1, .int 0, .int 0]))] ++ [(q1, .inl (G.2.2.1, 13, .inr (.inr (.inr (.inr (va_up (fun _ => none) 0 (some (aq2 0))))))))]) ++ w0 G aq2 zz0) := hD
  refine lv_iinc (v := 1) (lv' := [(1, .int 1), (0, .ref h0)]) hx hb dX1_init_44 hl (k := 0) rfl (by decide) (by decide) rfl (fun ls hl => ?_)
  refine lv_goto (tgt := 25) hx hb dX1_init_47 (by decide) ?_
  refine lv_iload_n hx hb dX1_init_25 rfl (lv_at hl 0 rfl) ?_
  refine lv_bipush (v := 12) hx hb dX1_init_26 (by decide) ?_
  refine lv_icmp_gt (tgt := 50) hx hb dX1_init_28 (by decide) (fun c => absurd c (by decide)) (fun _ => ?_)
  refine lv_aload_n hx hb dX1_init_31 rfl (lv_at hl 1 rfl) ?_
  refine va_get hx hb hts in_ctor1 hown hK.1 hP 0 rfl rfl 0 (by decide) (hts (.fieldLink RX1 11 "RuleCourt$History" "kept" "[LRuleCourt$Court;") (by decide +kernel)) (fun _ h9 => h9) rfl dX1_init_32 ?_
  refine lv_iload_n hx hb dX1_init_35 rfl (lv_at hl 0 rfl) ?_
  refine zc_newN (ci := 0) (fs := [.null, .null, .null, .null, .null, .null, .int 0, .int 0, .int 0]) (T := TX0) (N := 9) S (by decide +kernel) tyX0 tyX0_ok (by decide +kernel) (by decide +kernel) (by decide +kernel) hAO hK hP hD hS hA rfl zdf0 (c_X0_init l G) ⟨va_cnB 0 hts gX1_init_X0_init_n24 rfl rfl rfl (hK.2 (.methodLinkNest RX1 24 yX0_init "RuleCourt") (by decide +kernel)) (hts (.initialized RX0) (by decide +kernel)) (by decide +kernel) ⟨Nat.le_of_ble_eq_true rfl, Nat.le_of_ble_eq_true rfl⟩, rfl, hts (.instanceMethod yX0_init) (by decide +kernel)⟩ hl.1 (Nat.le_of_ble_eq_true rfl) (Nat.le_of_ble_eq_true rfl) (Nat.le_of_ble_eq_true rfl) dX1_init_36 dX1_init_39 dX1_init_40 (fun q3 wq3 H locs hwq3 hP hD hS => ?_)
  obtain ⟨aq3, rfl, rfl⟩ := hwq3
  have hP : va_P G.1 vwCl ((([(h0, .inr (1, [.ref q1, .int 0, .int 0]))] ++ [(q1, .inl (G.2.2.1, 13, .inr (.inr (.inr (.inr (va_up (fun _ => none) 0 (some (aq2 0))))))))]) ++ w0 G aq2 zz0) ++ w0 G aq3 zz0) H := hP
  have hD : va_D A ((([(h0, .inr (1, [.ref q1, .int 0, .int 0]))] ++ [(q1, .inl (G.2.2.1, 13, .inr (.inr (.inr (.inr (va_up (fun _ => none) 0 (some (aq2 0))))))))]) ++ w0 G aq2 zz0) ++ w0 G aq3 zz0) := hD
  refine va_astq (q0 := 1) (t0 := 1) (qk := 9) (ci := 0) hx hb hK.1 hP hD hS rfl rfl rfl rfl (vp_in_nI (n := 1) (N := 13) (by decide) (by decide)) dX1_init_43 (fun H locs hP hD hS => ?_)
  have hP : va_P G.1 vwCl ((([(h0, .inr (1, [.ref q1, .int 0, .int 0]))] ++ [(q1, .inl (G.2.2.1, 13, .inr (.inr (.inr (.inr (va_up (va_up (fun _ => none) 0 (some (aq2 0))) 1 (some (aq3 0))))))))]) ++ w0 G aq2 zz0) ++ w0 G aq3 zz0) H := hP
  have hD : va_D A ((([(h0, .inr (1, [.ref q1, .int 0, .int 0]))] ++ [(q1, .inl (G.2.2.1, 13, .inr (.inr (.inr (.inr (va_up (va_up (fun _ => none) 0 (some (aq2 0))) 1 (some (aq3 0))))))))]) ++ w0 G aq2 zz0) ++ w0 G aq3 zz0) := hD
  refine lv_iinc (v := 2) (lv' := [(1, .int 2), (0, .ref h0)]) hx hb dX1_init_44 hl (k := 0) rfl (by decide) (by decide) rfl (fun ls hl => ?_)
  refine lv_goto (tgt := 25) hx hb dX1_init_47 (by decide) ?_
  refine lv_iload_n hx hb dX1_init_25 rfl (lv_at hl 0 rfl) ?_
  refine lv_bipush (v := 12) hx hb dX1_init_26 (by decide) ?_
  refine lv_icmp_gt (tgt := 50) hx hb dX1_init_28 (by decide) (fun c => absurd c (by decide)) (fun _ => ?_)
  refine lv_aload_n hx hb dX1_init_31 rfl (lv_at hl 1 rfl) ?_
  refine va_get hx hb hts in_ctor1 hown hK.1 hP 0 rfl rfl 0 (by decide) (hts (.fieldLink RX1 11 "RuleCourt$History" "kept" "[LRuleCourt$Court;") (by decide +kernel)) (fun _ h9 => h9) rfl dX1_init_32 ?_
  refine lv_iload_n hx hb dX1_init_35 rfl (lv_at hl 0 rfl) ?_
  refine zc_newN (ci := 0) (fs := [.null, .null, .null, .null, .null, .null, .int 0, .int 0, .int 0]) (T := TX0) (N := 9) S (by decide +kernel) tyX0 tyX0_ok (by decide +kernel) (by decide +kernel) (by decide +kernel) hAO hK hP hD hS hA rfl zdf0 (c_X0_init l G) ⟨va_cnB 0 hts gX1_init_X0_init_n24 rfl rfl rfl (hK.2 (.methodLinkNest RX1 24 yX0_init "RuleCourt") (by decide +kernel)) (hts (.initialized RX0) (by decide +kernel)) (by decide +kernel) ⟨Nat.le_of_ble_eq_true rfl, Nat.le_of_ble_eq_true rfl⟩, rfl, hts (.instanceMethod yX0_init) (by decide +kernel)⟩ hl.1 (Nat.le_of_ble_eq_true rfl) (Nat.le_of_ble_eq_true rfl) (Nat.le_of_ble_eq_true rfl) dX1_init_36 dX1_init_39 dX1_init_40 (fun q4 wq4 H locs hwq4 hP hD hS => ?_)
  obtain ⟨aq4, rfl, rfl⟩ := hwq4
  have hP : va_P G.1 vwCl (((([(h0, .inr (1, [.ref q1, .int 0, .int 0]))] ++ [(q1, .inl (G.2.2.1, 13, .inr (.inr (.inr (.inr (va_up (va_up (fun _ => none) 0 (some (aq2 0))) 1 (some (aq3 0))))))))]) ++ w0 G aq2 zz0) ++ w0 G aq3 zz0) ++ w0 G aq4 zz0) H := hP
  have hD : va_D A (((([(h0, .inr (1, [.ref q1, .int 0, .int 0]))] ++ [(q1, .inl (G.2.2.1, 13, .inr (.inr (.inr (.inr (va_up (va_up (fun _ => none) 0 (some (aq2 0))) 1 (some (aq3 0))))))))]) ++ w0 G aq2 zz0) ++ w0 G aq3 zz0) ++ w0 G aq4 zz0) := hD
  refine va_astq (q0 := 1) (t0 := 1) (qk := 16) (ci := 0) hx hb hK.1 hP hD hS rfl rfl rfl rfl (vp_in_nI (n := 2) (N := 13) (by decide) (by decide)) dX1_init_43 (fun H locs hP hD hS => ?_)
  have hP : va_P G.1 vwCl (((([(h0, .inr (1, [.ref q1, .int 0, .int 0]))] ++ [(q1, .inl (G.2.2.1, 13, .inr (.inr (.inr (.inr (va_up (va_up (va_up (fun _ => none) 0 (some (aq2 0))) 1 (some (aq3 0))) 2 (some (aq4 0))))))))]) ++ w0 G aq2 zz0) ++ w0 G aq3 zz0) ++ w0 G aq4 zz0) H := hP
  have hD : va_D A (((([(h0, .inr (1, [.ref q1, .int 0, .int 0]))] ++ [(q1, .inl (G.2.2.1, 13, .inr (.inr (.inr (.inr (va_up (va_up (va_up (fun _ => none) 0 (some (aq2 0))) 1 (some (aq3 0))) 2 (some (aq4 0))))))))]) ++ w0 G aq2 zz0) ++ w0 G aq3 zz0) ++ w0 G aq4 zz0) := hD
  refine lv_iinc (v := 3) (lv' := [(1, .int 3), (0, .ref h0)]) hx hb dX1_init_44 hl (k := 0) rfl (by decide) (by decide) rfl (fun ls hl => ?_)
  refine lv_goto (tgt := 25) hx hb dX1_init_47 (by decide) ?_
  refine lv_iload_n hx hb dX1_init_25 rfl (lv_at hl 0 rfl) ?_
  refine lv_bipush (v := 12) hx hb dX1_init_26 (by decide) ?_
  refine lv_icmp_gt (tgt := 50) hx hb dX1_init_28 (by decide) (fun c => absurd c (by decide)) (fun _ => ?_)
  refine lv_aload_n hx hb dX1_init_31 rfl (lv_at hl 1 rfl) ?_
  refine va_get hx hb hts in_ctor1 hown hK.1 hP 0 rfl rfl 0 (by decide) (hts (.fieldLink RX1 11 "RuleCourt$History" "kept" "[LRuleCourt$Court;") (by decide +kernel)) (fun _ h9 => h9) rfl dX1_init_32 ?_
  refine lv_iload_n hx hb dX1_init_35 rfl (lv_at hl 0 rfl) ?_
  refine zc_newN (ci := 0) (fs := [.null, .null, .null, .null, .null, .null, .int 0, .int 0, .int 0]) (T := TX0) (N := 9) S (by decide +kernel) tyX0 tyX0_ok (by decide +kernel) (by decide +kernel) (by decide +kernel) hAO hK hP hD hS hA rfl zdf0 (c_X0_init l G) ⟨va_cnB 0 hts gX1_init_X0_init_n24 rfl rfl rfl (hK.2 (.methodLinkNest RX1 24 yX0_init "RuleCourt") (by decide +kernel)) (hts (.initialized RX0) (by decide +kernel)) (by decide +kernel) ⟨Nat.le_of_ble_eq_true rfl, Nat.le_of_ble_eq_true rfl⟩, rfl, hts (.instanceMethod yX0_init) (by decide +kernel)⟩ hl.1 (Nat.le_of_ble_eq_true rfl) (Nat.le_of_ble_eq_true rfl) (Nat.le_of_ble_eq_true rfl) dX1_init_36 dX1_init_39 dX1_init_40 (fun q5 wq5 H locs hwq5 hP hD hS => ?_)
  obtain ⟨aq5, rfl, rfl⟩ := hwq5
  have hP : va_P G.1 vwCl ((((([(h0, .inr (1, [.ref q1, .int 0, .int 0]))] ++ [(q1, .inl (G.2.2.1, 13, .inr (.inr (.inr (.inr (va_up (va_up (va_up (fun _ => none) 0 (some (aq2 0))) 1 (some (aq3 0))) 2 (some (aq4 0))))))))]) ++ w0 G aq2 zz0) ++ w0 G aq3 zz0) ++ w0 G aq4 zz0) ++ w0 G aq5 zz0) H := hP
  have hD : va_D A ((((([(h0, .inr (1, [.ref q1, .int 0, .int 0]))] ++ [(q1, .inl (G.2.2.1, 13, .inr (.inr (.inr (.inr (va_up (va_up (va_up (fun _ => none) 0 (some (aq2 0))) 1 (some (aq3 0))) 2 (some (aq4 0))))))))]) ++ w0 G aq2 zz0) ++ w0 G aq3 zz0) ++ w0 G aq4 zz0) ++ w0 G aq5 zz0) := hD
  refine va_astq (q0 := 1) (t0 := 1) (qk := 23) (ci := 0) hx hb hK.1 hP hD hS rfl rfl rfl rfl (vp_in_nI (n := 3) (N := 13) (by decide) (by decide)) dX1_init_43 (fun H locs hP hD hS => ?_)
  have hP : va_P G.1 vwCl ((((([(h0, .inr (1, [.ref q1, .int 0, .int 0]))] ++ [(q1, .inl (G.2.2.1, 13, .inr (.inr (.inr (.inr (va_up (va_up (va_up (va_up (fun _ => none) 0 (some (aq2 0))) 1 (some (aq3 0))) 2 (some (aq4 0))) 3 (some (aq5 0))))))))]) ++ w0 G aq2 zz0) ++ w0 G aq3 zz0) ++ w0 G aq4 zz0) ++ w0 G aq5 zz0) H := hP
  have hD : va_D A ((((([(h0, .inr (1, [.ref q1, .int 0, .int 0]))] ++ [(q1, .inl (G.2.2.1, 13, .inr (.inr (.inr (.inr (va_up (va_up (va_up (va_up (fun _ => none) 0 (some (aq2 0))) 1 (some (aq3 0))) 2 (some (aq4 0))) 3 (some (aq5 0))))))))]) ++ w0 G aq2 zz0) ++ w0 G aq3 zz0) ++ w0 G aq4 zz0) ++ w0 G aq5 zz0) := hD
  refine lv_iinc (v := 4) (lv' := [(1, .int 4), (0, .ref h0)]) hx hb dX1_init_44 hl (k := 0) rfl (by decide) (by decide) rfl (fun ls hl => ?_)
  refine lv_goto (tgt := 25) hx hb dX1_init_47 (by decide) ?_
  refine lv_iload_n hx hb dX1_init_25 rfl (lv_at hl 0 rfl) ?_
  refine lv_bipush (v := 12) hx hb dX1_init_26 (by decide) ?_
  refine lv_icmp_gt (tgt := 50) hx hb dX1_init_28 (by decide) (fun c => absurd c (by decide)) (fun _ => ?_)
  refine lv_aload_n hx hb dX1_init_31 rfl (lv_at hl 1 rfl) ?_
  refine va_get hx hb hts in_ctor1 hown hK.1 hP 0 rfl rfl 0 (by decide) (hts (.fieldLink RX1 11 "RuleCourt$History" "kept" "[LRuleCourt$Court;") (by decide +kernel)) (fun _ h9 => h9) rfl dX1_init_32 ?_
  refine lv_iload_n hx hb dX1_init_35 rfl (lv_at hl 0 rfl) ?_
  refine zc_newN (ci := 0) (fs := [.null, .null, .null, .null, .null, .null, .int 0, .int 0, .int 0]) (T := TX0) (N := 9) S (by decide +kernel) tyX0 tyX0_ok (by decide +kernel) (by decide +kernel) (by decide +kernel) hAO hK hP hD hS hA rfl zdf0 (c_X0_init l G) ⟨va_cnB 0 hts gX1_init_X0_init_n24 rfl rfl rfl (hK.2 (.methodLinkNest RX1 24 yX0_init "RuleCourt") (by decide +kernel)) (hts (.initialized RX0) (by decide +kernel)) (by decide +kernel) ⟨Nat.le_of_ble_eq_true rfl, Nat.le_of_ble_eq_true rfl⟩, rfl, hts (.instanceMethod yX0_init) (by decide +kernel)⟩ hl.1 (Nat.le_of_ble_eq_true rfl) (Nat.le_of_ble_eq_true rfl) (Nat.le_of_ble_eq_true rfl) dX1_init_36 dX1_init_39 dX1_init_40 (fun q6 wq6 H locs hwq6 hP hD hS => ?_)
  obtain ⟨aq6, rfl, rfl⟩ := hwq6
  have hP : va_P G.1 vwCl (((((([(h0, .inr (1, [.ref q1, .int 0, .int 0]))] ++ [(q1, .inl (G.2.2.1, 13, .inr (.inr (.inr (.inr (va_up (va_up (va_up (va_up (fun _ => none) 0 (some (aq2 0))) 1 (some (aq3 0))) 2 (some (aq4 0))) 3 (some (aq5 0))))))))]) ++ w0 G aq2 zz0) ++ w0 G aq3 zz0) ++ w0 G aq4 zz0) ++ w0 G aq5 zz0) ++ w0 G aq6 zz0) H := hP
  have hD : va_D A (((((([(h0, .inr (1, [.ref q1, .int 0, .int 0]))] ++ [(q1, .inl (G.2.2.1, 13, .inr (.inr (.inr (.inr (va_up (va_up (va_up (va_up (fun _ => none) 0 (some (aq2 0))) 1 (some (aq3 0))) 2 (some (aq4 0))) 3 (some (aq5 0))))))))]) ++ w0 G aq2 zz0) ++ w0 G aq3 zz0) ++ w0 G aq4 zz0) ++ w0 G aq5 zz0) ++ w0 G aq6 zz0) := hD
  refine va_astq (q0 := 1) (t0 := 1) (qk := 30) (ci := 0) hx hb hK.1 hP hD hS rfl rfl rfl rfl (vp_in_nI (n := 4) (N := 13) (by decide) (by decide)) dX1_init_43 (fun H locs hP hD hS => ?_)
  have hP : va_P G.1 vwCl (((((([(h0, .inr (1, [.ref q1, .int 0, .int 0]))] ++ [(q1, .inl (G.2.2.1, 13, .inr (.inr (.inr (.inr (va_up (va_up (va_up (va_up (va_up (fun _ => none) 0 (some (aq2 0))) 1 (some (aq3 0))) 2 (some (aq4 0))) 3 (some (aq5 0))) 4 (some (aq6 0))))))))]) ++ w0 G aq2 zz0) ++ w0 G aq3 zz0) ++ w0 G aq4 zz0) ++ w0 G aq5 zz0) ++ w0 G aq6 zz0) H := hP
  have hD : va_D A (((((([(h0, .inr (1, [.ref q1, .int 0, .int 0]))] ++ [(q1, .inl (G.2.2.1, 13, .inr (.inr (.inr (.inr (va_up (va_up (va_up (va_up (va_up (fun _ => none) 0 (some (aq2 0))) 1 (some (aq3 0))) 2 (some (aq4 0))) 3 (some (aq5 0))) 4 (some (aq6 0))))))))]) ++ w0 G aq2 zz0) ++ w0 G aq3 zz0) ++ w0 G aq4 zz0) ++ w0 G aq5 zz0) ++ w0 G aq6 zz0) := hD
  refine lv_iinc (v := 5) (lv' := [(1, .int 5), (0, .ref h0)]) hx hb dX1_init_44 hl (k := 0) rfl (by decide) (by decide) rfl (fun ls hl => ?_)
  refine lv_goto (tgt := 25) hx hb dX1_init_47 (by decide) ?_
  refine lv_iload_n hx hb dX1_init_25 rfl (lv_at hl 0 rfl) ?_
  refine lv_bipush (v := 12) hx hb dX1_init_26 (by decide) ?_
  refine lv_icmp_gt (tgt := 50) hx hb dX1_init_28 (by decide) (fun c => absurd c (by decide)) (fun _ => ?_)
  refine lv_aload_n hx hb dX1_init_31 rfl (lv_at hl 1 rfl) ?_
  refine va_get hx hb hts in_ctor1 hown hK.1 hP 0 rfl rfl 0 (by decide) (hts (.fieldLink RX1 11 "RuleCourt$History" "kept" "[LRuleCourt$Court;") (by decide +kernel)) (fun _ h9 => h9) rfl dX1_init_32 ?_
  refine lv_iload_n hx hb dX1_init_35 rfl (lv_at hl 0 rfl) ?_
  refine zc_newN (ci := 0) (fs := [.null, .null, .null, .null, .null, .null, .int 0, .int 0, .int 0]) (T := TX0) (N := 9) S (by decide +kernel) tyX0 tyX0_ok (by decide +kernel) (by decide +kernel) (by decide +kernel) hAO hK hP hD hS hA rfl zdf0 (c_X0_init l G) ⟨va_cnB 0 hts gX1_init_X0_init_n24 rfl rfl rfl (hK.2 (.methodLinkNest RX1 24 yX0_init "RuleCourt") (by decide +kernel)) (hts (.initialized RX0) (by decide +kernel)) (by decide +kernel) ⟨Nat.le_of_ble_eq_true rfl, Nat.le_of_ble_eq_true rfl⟩, rfl, hts (.instanceMethod yX0_init) (by decide +kernel)⟩ hl.1 (Nat.le_of_ble_eq_true rfl) (Nat.le_of_ble_eq_true rfl) (Nat.le_of_ble_eq_true rfl) dX1_init_36 dX1_init_39 dX1_init_40 (fun q7 wq7 H locs hwq7 hP hD hS => ?_)
  obtain ⟨aq7, rfl, rfl⟩ := hwq7
  have hP : va_P G.1 vwCl ((((((([(h0, .inr (1, [.ref q1, .int 0, .int 0]))] ++ [(q1, .inl (G.2.2.1, 13, .inr (.inr (.inr (.inr (va_up (va_up (va_up (va_up (va_up (fun _ => none) 0 (some (aq2 0))) 1 (some (aq3 0))) 2 (some (aq4 0))) 3 (some (aq5 0))) 4 (some (aq6 0))))))))]) ++ w0 G aq2 zz0) ++ w0 G aq3 zz0) ++ w0 G aq4 zz0) ++ w0 G aq5 zz0) ++ w0 G aq6 zz0) ++ w0 G aq7 zz0) H := hP
  have hD : va_D A ((((((([(h0, .inr (1, [.ref q1, .int 0, .int 0]))] ++ [(q1, .inl (G.2.2.1, 13, .inr (.inr (.inr (.inr (va_up (va_up (va_up (va_up (va_up (fun _ => none) 0 (some (aq2 0))) 1 (some (aq3 0))) 2 (some (aq4 0))) 3 (some (aq5 0))) 4 (some (aq6 0))))))))]) ++ w0 G aq2 zz0) ++ w0 G aq3 zz0) ++ w0 G aq4 zz0) ++ w0 G aq5 zz0) ++ w0 G aq6 zz0) ++ w0 G aq7 zz0) := hD
  refine va_astq (q0 := 1) (t0 := 1) (qk := 37) (ci := 0) hx hb hK.1 hP hD hS rfl rfl rfl rfl (vp_in_nI (n := 5) (N := 13) (by decide) (by decide)) dX1_init_43 (fun H locs hP hD hS => ?_)
  have hP : va_P G.1 vwCl ((((((([(h0, .inr (1, [.ref q1, .int 0, .int 0]))] ++ [(q1, .inl (G.2.2.1, 13, .inr (.inr (.inr (.inr (va_up (va_up (va_up (va_up (va_up (va_up (fun _ => none) 0 (some (aq2 0))) 1 (some (aq3 0))) 2 (some (aq4 0))) 3 (some (aq5 0))) 4 (some (aq6 0))) 5 (some (aq7 0))))))))]) ++ w0 G aq2 zz0) ++ w0 G aq3 zz0) ++ w0 G aq4 zz0) ++ w0 G aq5 zz0) ++ w0 G aq6 zz0) ++ w0 G aq7 zz0) H := hP
  have hD : va_D A ((((((([(h0, .inr (1, [.ref q1, .int 0, .int 0]))] ++ [(q1, .inl (G.2.2.1, 13, .inr (.inr (.inr (.inr (va_up (va_up (va_up (va_up (va_up (va_up (fun _ => none) 0 (some (aq2 0))) 1 (some (aq3 0))) 2 (some (aq4 0))) 3 (some (aq5 0))) 4 (some (aq6 0))) 5 (some (aq7 0))))))))]) ++ w0 G aq2 zz0) ++ w0 G aq3 zz0) ++ w0 G aq4 zz0) ++ w0 G aq5 zz0) ++ w0 G aq6 zz0) ++ w0 G aq7 zz0) := hD
  refine lv_iinc (v := 6) (lv' := [(1, .int 6), (0, .ref h0)]) hx hb dX1_init_44 hl (k := 0) rfl (by decide) (by decide) rfl (fun ls hl => ?_)
  refine lv_goto (tgt := 25) hx hb dX1_init_47 (by decide) ?_
  refine lv_iload_n hx hb dX1_init_25 rfl (lv_at hl 0 rfl) ?_
  refine lv_bipush (v := 12) hx hb dX1_init_26 (by decide) ?_
  refine lv_icmp_gt (tgt := 50) hx hb dX1_init_28 (by decide) (fun c => absurd c (by decide)) (fun _ => ?_)
  refine lv_aload_n hx hb dX1_init_31 rfl (lv_at hl 1 rfl) ?_
  refine va_get hx hb hts in_ctor1 hown hK.1 hP 0 rfl rfl 0 (by decide) (hts (.fieldLink RX1 11 "RuleCourt$History" "kept" "[LRuleCourt$Court;") (by decide +kernel)) (fun _ h9 => h9) rfl dX1_init_32 ?_
  refine lv_iload_n hx hb dX1_init_35 rfl (lv_at hl 0 rfl) ?_
  refine zc_newN (ci := 0) (fs := [.null, .null, .null, .null, .null, .null, .int 0, .int 0, .int 0]) (T := TX0) (N := 9) S (by decide +kernel) tyX0 tyX0_ok (by decide +kernel) (by decide +kernel) (by decide +kernel) hAO hK hP hD hS hA rfl zdf0 (c_X0_init l G) ⟨va_cnB 0 hts gX1_init_X0_init_n24 rfl rfl rfl (hK.2 (.methodLinkNest RX1 24 yX0_init "RuleCourt") (by decide +kernel)) (hts (.initialized RX0) (by decide +kernel)) (by decide +kernel) ⟨Nat.le_of_ble_eq_true rfl, Nat.le_of_ble_eq_true rfl⟩, rfl, hts (.instanceMethod yX0_init) (by decide +kernel)⟩ hl.1 (Nat.le_of_ble_eq_true rfl) (Nat.le_of_ble_eq_true rfl) (Nat.le_of_ble_eq_true rfl) dX1_init_36 dX1_init_39 dX1_init_40 (fun q8 wq8 H locs hwq8 hP hD hS => ?_)
  obtain ⟨aq8, rfl, rfl⟩ := hwq8
  have hP : va_P G.1 vwCl (((((((([(h0, .inr (1, [.ref q1, .int 0, .int 0]))] ++ [(q1, .inl (G.2.2.1, 13, .inr (.inr (.inr (.inr (va_up (va_up (va_up (va_up (va_up (va_up (fun _ => none) 0 (some (aq2 0))) 1 (some (aq3 0))) 2 (some (aq4 0))) 3 (some (aq5 0))) 4 (some (aq6 0))) 5 (some (aq7 0))))))))]) ++ w0 G aq2 zz0) ++ w0 G aq3 zz0) ++ w0 G aq4 zz0) ++ w0 G aq5 zz0) ++ w0 G aq6 zz0) ++ w0 G aq7 zz0) ++ w0 G aq8 zz0) H := hP
  have hD : va_D A (((((((([(h0, .inr (1, [.ref q1, .int 0, .int 0]))] ++ [(q1, .inl (G.2.2.1, 13, .inr (.inr (.inr (.inr (va_up (va_up (va_up (va_up (va_up (va_up (fun _ => none) 0 (some (aq2 0))) 1 (some (aq3 0))) 2 (some (aq4 0))) 3 (some (aq5 0))) 4 (some (aq6 0))) 5 (some (aq7 0))))))))]) ++ w0 G aq2 zz0) ++ w0 G aq3 zz0) ++ w0 G aq4 zz0) ++ w0 G aq5 zz0) ++ w0 G aq6 zz0) ++ w0 G aq7 zz0) ++ w0 G aq8 zz0) := hD
  refine va_astq (q0 := 1) (t0 := 1) (qk := 44) (ci := 0) hx hb hK.1 hP hD hS rfl rfl rfl rfl (vp_in_nI (n := 6) (N := 13) (by decide) (by decide)) dX1_init_43 (fun H locs hP hD hS => ?_)
  have hP : va_P G.1 vwCl (((((((([(h0, .inr (1, [.ref q1, .int 0, .int 0]))] ++ [(q1, .inl (G.2.2.1, 13, .inr (.inr (.inr (.inr (va_up (va_up (va_up (va_up (va_up (va_up (va_up (fun _ => none) 0 (some (aq2 0))) 1 (some (aq3 0))) 2 (some (aq4 0))) 3 (some (aq5 0))) 4 (some (aq6 0))) 5 (some (aq7 0))) 6 (some (aq8 0))))))))]) ++ w0 G aq2 zz0) ++ w0 G aq3 zz0) ++ w0 G aq4 zz0) ++ w0 G aq5 zz0) ++ w0 G aq6 zz0) ++ w0 G aq7 zz0) ++ w0 G aq8 zz0) H := hP
  have hD : va_D A (((((((([(h0, .inr (1, [.ref q1, .int 0, .int 0]))] ++ [(q1, .inl (G.2.2.1, 13, .inr (.inr (.inr (.inr (va_up (va_up (va_up (va_up (va_up (va_up (va_up (fun _ => none) 0 (some (aq2 0))) 1 (some (aq3 0))) 2 (some (aq4 0))) 3 (some (aq5 0))) 4 (some (aq6 0))) 5 (some (aq7 0))) 6 (some (aq8 0))))))))]) ++ w0 G aq2 zz0) ++ w0 G aq3 zz0) ++ w0 G aq4 zz0) ++ w0 G aq5 zz0) ++ w0 G aq6 zz0) ++ w0 G aq7 zz0) ++ w0 G aq8 zz0) := hD
  refine lv_iinc (v := 7) (lv' := [(1, .int 7), (0, .ref h0)]) hx hb dX1_init_44 hl (k := 0) rfl (by decide) (by decide) rfl (fun ls hl => ?_)
  refine lv_goto (tgt := 25) hx hb dX1_init_47 (by decide) ?_
  refine lv_iload_n hx hb dX1_init_25 rfl (lv_at hl 0 rfl) ?_
  refine lv_bipush (v := 12) hx hb dX1_init_26 (by decide) ?_
  refine lv_icmp_gt (tgt := 50) hx hb dX1_init_28 (by decide) (fun c => absurd c (by decide)) (fun _ => ?_)
  refine lv_aload_n hx hb dX1_init_31 rfl (lv_at hl 1 rfl) ?_
  refine va_get hx hb hts in_ctor1 hown hK.1 hP 0 rfl rfl 0 (by decide) (hts (.fieldLink RX1 11 "RuleCourt$History" "kept" "[LRuleCourt$Court;") (by decide +kernel)) (fun _ h9 => h9) rfl dX1_init_32 ?_
  refine lv_iload_n hx hb dX1_init_35 rfl (lv_at hl 0 rfl) ?_
  refine zc_newN (ci := 0) (fs := [.null, .null, .null, .null, .null, .null, .int 0, .int 0, .int 0]) (T := TX0) (N := 9) S (by decide +kernel) tyX0 tyX0_ok (by decide +kernel) (by decide +kernel) (by decide +kernel) hAO hK hP hD hS hA rfl zdf0 (c_X0_init l G) ⟨va_cnB 0 hts gX1_init_X0_init_n24 rfl rfl rfl (hK.2 (.methodLinkNest RX1 24 yX0_init "RuleCourt") (by decide +kernel)) (hts (.initialized RX0) (by decide +kernel)) (by decide +kernel) ⟨Nat.le_of_ble_eq_true rfl, Nat.le_of_ble_eq_true rfl⟩, rfl, hts (.instanceMethod yX0_init) (by decide +kernel)⟩ hl.1 (Nat.le_of_ble_eq_true rfl) (Nat.le_of_ble_eq_true rfl) (Nat.le_of_ble_eq_true rfl) dX1_init_36 dX1_init_39 dX1_init_40 (fun q9 wq9 H locs hwq9 hP hD hS => ?_)
  obtain ⟨aq9, rfl, rfl⟩ := hwq9
  have hP : va_P G.1 vwCl ((((((((([(h0, .inr (1, [.ref q1, .int 0, .int 0]))] ++ [(q1, .inl (G.2.2.1, 13, .inr (.inr (.inr (.inr (va_up (va_up (va_up (va_up (va_up (va_up (va_up (fun _ => none) 0 (some (aq2 0))) 1 (some (aq3 0))) 2 (some (aq4 0))) 3 (some (aq5 0))) 4 (some (aq6 0))) 5 (some (aq7 0))) 6 (some (aq8 0))))))))]) ++ w0 G aq2 zz0) ++ w0 G aq3 zz0) ++ w0 G aq4 zz0) ++ w0 G aq5 zz0) ++ w0 G aq6 zz0) ++ w0 G aq7 zz0) ++ w0 G aq8 zz0) ++ w0 G aq9 zz0) H := hP
  have hD : va_D A ((((((((([(h0, .inr (1, [.ref q1, .int 0, .int 0]))] ++ [(q1, .inl (G.2.2.1, 13, .inr (.inr (.inr (.inr (va_up (va_up (va_up (va_up (va_up (va_up (va_up (fun _ => none) 0 (some (aq2 0))) 1 (some (aq3 0))) 2 (some (aq4 0))) 3 (some (aq5 0))) 4 (some (aq6 0))) 5 (some (aq7 0))) 6 (some (aq8 0))))))))]) ++ w0 G aq2 zz0) ++ w0 G aq3 zz0) ++ w0 G aq4 zz0) ++ w0 G aq5 zz0) ++ w0 G aq6 zz0) ++ w0 G aq7 zz0) ++ w0 G aq8 zz0) ++ w0 G aq9 zz0) := hD
  refine va_astq (q0 := 1) (t0 := 1) (qk := 51) (ci := 0) hx hb hK.1 hP hD hS rfl rfl rfl rfl (vp_in_nI (n := 7) (N := 13) (by decide) (by decide)) dX1_init_43 (fun H locs hP hD hS => ?_)
  have hP : va_P G.1 vwCl ((((((((([(h0, .inr (1, [.ref q1, .int 0, .int 0]))] ++ [(q1, .inl (G.2.2.1, 13, .inr (.inr (.inr (.inr (va_up (va_up (va_up (va_up (va_up (va_up (va_up (va_up (fun _ => none) 0 (some (aq2 0))) 1 (some (aq3 0))) 2 (some (aq4 0))) 3 (some (aq5 0))) 4 (some (aq6 0))) 5 (some (aq7 0))) 6 (some (aq8 0))) 7 (some (aq9 0))))))))]) ++ w0 G aq2 zz0) ++ w0 G aq3 zz0) ++ w0 G aq4 zz0) ++ w0 G aq5 zz0) ++ w0 G aq6 zz0) ++ w0 G aq7 zz0) ++ w0 G aq8 zz0) ++ w0 G aq9 zz0) H := hP
  have hD : va_D A ((((((((([(h0, .inr (1, [.ref q1, .int 0, .int 0]))] ++ [(q1, .inl (G.2.2.1, 13, .inr (.inr (.inr (.inr (va_up (va_up (va_up (va_up (va_up (va_up (va_up (va_up (fun _ => none) 0 (some (aq2 0))) 1 (some (aq3 0))) 2 (some (aq4 0))) 3 (some (aq5 0))) 4 (some (aq6 0))) 5 (some (aq7 0))) 6 (some (aq8 0))) 7 (some (aq9 0))))))))]) ++ w0 G aq2 zz0) ++ w0 G aq3 zz0) ++ w0 G aq4 zz0) ++ w0 G aq5 zz0) ++ w0 G aq6 zz0) ++ w0 G aq7 zz0) ++ w0 G aq8 zz0) ++ w0 G aq9 zz0) := hD
  refine lv_iinc (v := 8) (lv' := [(1, .int 8), (0, .ref h0)]) hx hb dX1_init_44 hl (k := 0) rfl (by decide) (by decide) rfl (fun ls hl => ?_)
  refine lv_goto (tgt := 25) hx hb dX1_init_47 (by decide) ?_
  refine lv_iload_n hx hb dX1_init_25 rfl (lv_at hl 0 rfl) ?_
  refine lv_bipush (v := 12) hx hb dX1_init_26 (by decide) ?_
  refine lv_icmp_gt (tgt := 50) hx hb dX1_init_28 (by decide) (fun c => absurd c (by decide)) (fun _ => ?_)
  refine lv_aload_n hx hb dX1_init_31 rfl (lv_at hl 1 rfl) ?_
  refine va_get hx hb hts in_ctor1 hown hK.1 hP 0 rfl rfl 0 (by decide) (hts (.fieldLink RX1 11 "RuleCourt$History" "kept" "[LRuleCourt$Court;") (by decide +kernel)) (fun _ h9 => h9) rfl dX1_init_32 ?_
  refine lv_iload_n hx hb dX1_init_35 rfl (lv_at hl 0 rfl) ?_
  refine zc_newN (ci := 0) (fs := [.null, .null, .null, .null, .null, .null, .int 0, .int 0, .int 0]) (T := TX0) (N := 9) S (by decide +kernel) tyX0 tyX0_ok (by decide +kernel) (by decide +kernel) (by decide +kernel) hAO hK hP hD hS hA rfl zdf0 (c_X0_init l G) ⟨va_cnB 0 hts gX1_init_X0_init_n24 rfl rfl rfl (hK.2 (.methodLinkNest RX1 24 yX0_init "RuleCourt") (by decide +kernel)) (hts (.initialized RX0) (by decide +kernel)) (by decide +kernel) ⟨Nat.le_of_ble_eq_true rfl, Nat.le_of_ble_eq_true rfl⟩, rfl, hts (.instanceMethod yX0_init) (by decide +kernel)⟩ hl.1 (Nat.le_of_ble_eq_true rfl) (Nat.le_of_ble_eq_true rfl) (Nat.le_of_ble_eq_true rfl) dX1_init_36 dX1_init_39 dX1_init_40 (fun q10 wq10 H locs hwq10 hP hD hS => ?_)
  obtain ⟨aq10, rfl, rfl⟩ := hwq10
  have hP : va_P G.1 vwCl (((((((((([(h0, .inr (1, [.ref q1, .int 0, .int 0]))] ++ [(q1, .inl (G.2.2.1, 13, .inr (.inr (.inr (.inr (va_up (va_up (va_up (va_up (va_up (va_up (va_up (va_up (fun _ => none) 0 (some (aq2 0))) 1 (some (aq3 0))) 2 (some (aq4 0))) 3 (some (aq5 0))) 4 (some (aq6 0))) 5 (some (aq7 0))) 6 (some (aq8 0))) 7 (some (aq9 0))))))))]) ++ w0 G aq2 zz0) ++ w0 G aq3 zz0) ++ w0 G aq4 zz0) ++ w0 G aq5 zz0) ++ w0 G aq6 zz0) ++ w0 G aq7 zz0) ++ w0 G aq8 zz0) ++ w0 G aq9 zz0) ++ w0 G aq10 zz0) H := hP
  have hD : va_D A (((((((((([(h0, .inr (1, [.ref q1, .int 0, .int 0]))] ++ [(q1, .inl (G.2.2.1, 13, .inr (.inr (.inr (.inr (va_up (va_up (va_up (va_up (va_up (va_up (va_up (va_up (fun _ => none) 0 (some (aq2 0))) 1 (some (aq3 0))) 2 (some (aq4 0))) 3 (some (aq5 0))) 4 (some (aq6 0))) 5 (some (aq7 0))) 6 (some (aq8 0))) 7 (some (aq9 0))))))))]) ++ w0 G aq2 zz0) ++ w0 G aq3 zz0) ++ w0 G aq4 zz0) ++ w0 G aq5 zz0) ++ w0 G aq6 zz0) ++ w0 G aq7 zz0) ++ w0 G aq8 zz0) ++ w0 G aq9 zz0) ++ w0 G aq10 zz0) := hD
  refine va_astq (q0 := 1) (t0 := 1) (qk := 58) (ci := 0) hx hb hK.1 hP hD hS rfl rfl rfl rfl (vp_in_nI (n := 8) (N := 13) (by decide) (by decide)) dX1_init_43 (fun H locs hP hD hS => ?_)
  have hP : va_P G.1 vwCl (((((((((([(h0, .inr (1, [.ref q1, .int 0, .int 0]))] ++ [(q1, .inl (G.2.2.1, 13, .inr (.inr (.inr (.inr (va_up (va_up (va_up (va_up (va_up (va_up (va_up (va_up (va_up (fun _ => none) 0 (some (aq2 0))) 1 (some (aq3 0))) 2 (some (aq4 0))) 3 (some (aq5 0))) 4 (some (aq6 0))) 5 (some (aq7 0))) 6 (some (aq8 0))) 7 (some (aq9 0))) 8 (some (aq10 0))))))))]) ++ w0 G aq2 zz0) ++ w0 G aq3 zz0) ++ w0 G aq4 zz0) ++ w0 G aq5 zz0) ++ w0 G aq6 zz0) ++ w0 G aq7 zz0) ++ w0 G aq8 zz0) ++ w0 G aq9 zz0) ++ w0 G aq10 zz0) H := hP
  have hD : va_D A (((((((((([(h0, .inr (1, [.ref q1, .int 0, .int 0]))] ++ [(q1, .inl (G.2.2.1, 13, .inr (.inr (.inr (.inr (va_up (va_up (va_up (va_up (va_up (va_up (va_up (va_up (va_up (fun _ => none) 0 (some (aq2 0))) 1 (some (aq3 0))) 2 (some (aq4 0))) 3 (some (aq5 0))) 4 (some (aq6 0))) 5 (some (aq7 0))) 6 (some (aq8 0))) 7 (some (aq9 0))) 8 (some (aq10 0))))))))]) ++ w0 G aq2 zz0) ++ w0 G aq3 zz0) ++ w0 G aq4 zz0) ++ w0 G aq5 zz0) ++ w0 G aq6 zz0) ++ w0 G aq7 zz0) ++ w0 G aq8 zz0) ++ w0 G aq9 zz0) ++ w0 G aq10 zz0) := hD
  refine lv_iinc (v := 9) (lv' := [(1, .int 9), (0, .ref h0)]) hx hb dX1_init_44 hl (k := 0) rfl (by decide) (by decide) rfl (fun ls hl => ?_)
  refine lv_goto (tgt := 25) hx hb dX1_init_47 (by decide) ?_
  refine lv_iload_n hx hb dX1_init_25 rfl (lv_at hl 0 rfl) ?_
  refine lv_bipush (v := 12) hx hb dX1_init_26 (by decide) ?_
  refine lv_icmp_gt (tgt := 50) hx hb dX1_init_28 (by decide) (fun c => absurd c (by decide)) (fun _ => ?_)
  refine lv_aload_n hx hb dX1_init_31 rfl (lv_at hl 1 rfl) ?_
  refine va_get hx hb hts in_ctor1 hown hK.1 hP 0 rfl rfl 0 (by decide) (hts (.fieldLink RX1 11 "RuleCourt$History" "kept" "[LRuleCourt$Court;") (by decide +kernel)) (fun _ h9 => h9) rfl dX1_init_32 ?_
  refine lv_iload_n hx hb dX1_init_35 rfl (lv_at hl 0 rfl) ?_
  refine zc_newN (ci := 0) (fs := [.null, .null, .null, .null, .null, .null, .int 0, .int 0, .int 0]) (T := TX0) (N := 9) S (by decide +kernel) tyX0 tyX0_ok (by decide +kernel) (by decide +kernel) (by decide +kernel) hAO hK hP hD hS hA rfl zdf0 (c_X0_init l G) ⟨va_cnB 0 hts gX1_init_X0_init_n24 rfl rfl rfl (hK.2 (.methodLinkNest RX1 24 yX0_init "RuleCourt") (by decide +kernel)) (hts (.initialized RX0) (by decide +kernel)) (by decide +kernel) ⟨Nat.le_of_ble_eq_true rfl, Nat.le_of_ble_eq_true rfl⟩, rfl, hts (.instanceMethod yX0_init) (by decide +kernel)⟩ hl.1 (Nat.le_of_ble_eq_true rfl) (Nat.le_of_ble_eq_true rfl) (Nat.le_of_ble_eq_true rfl) dX1_init_36 dX1_init_39 dX1_init_40 (fun q11 wq11 H locs hwq11 hP hD hS => ?_)
  obtain ⟨aq11, rfl, rfl⟩ := hwq11
  have hP : va_P G.1 vwCl ((((((((((([(h0, .inr (1, [.ref q1, .int 0, .int 0]))] ++ [(q1, .inl (G.2.2.1, 13, .inr (.inr (.inr (.inr (va_up (va_up (va_up (va_up (va_up (va_up (va_up (va_up (va_up (fun _ => none) 0 (some (aq2 0))) 1 (some (aq3 0))) 2 (some (aq4 0))) 3 (some (aq5 0))) 4 (some (aq6 0))) 5 (some (aq7 0))) 6 (some (aq8 0))) 7 (some (aq9 0))) 8 (some (aq10 0))))))))]) ++ w0 G aq2 zz0) ++ w0 G aq3 zz0) ++ w0 G aq4 zz0) ++ w0 G aq5 zz0) ++ w0 G aq6 zz0) ++ w0 G aq7 zz0) ++ w0 G aq8 zz0) ++ w0 G aq9 zz0) ++ w0 G aq10 zz0) ++ w0 G aq11 zz0) H := hP
  have hD : va_D A ((((((((((([(h0, .inr (1, [.ref q1, .int 0, .int 0]))] ++ [(q1, .inl (G.2.2.1, 13, .inr (.inr (.inr (.inr (va_up (va_up (va_up (va_up (va_up (va_up (va_up (va_up (va_up (fun _ => none) 0 (some (aq2 0))) 1 (some (aq3 0))) 2 (some (aq4 0))) 3 (some (aq5 0))) 4 (some (aq6 0))) 5 (some (aq7 0))) 6 (some (aq8 0))) 7 (some (aq9 0))) 8 (some (aq10 0))))))))]) ++ w0 G aq2 zz0) ++ w0 G aq3 zz0) ++ w0 G aq4 zz0) ++ w0 G aq5 zz0) ++ w0 G aq6 zz0) ++ w0 G aq7 zz0) ++ w0 G aq8 zz0) ++ w0 G aq9 zz0) ++ w0 G aq10 zz0) ++ w0 G aq11 zz0) := hD
  refine va_astq (q0 := 1) (t0 := 1) (qk := 65) (ci := 0) hx hb hK.1 hP hD hS rfl rfl rfl rfl (vp_in_nI (n := 9) (N := 13) (by decide) (by decide)) dX1_init_43 (fun H locs hP hD hS => ?_)
  have hP : va_P G.1 vwCl ((((((((((([(h0, .inr (1, [.ref q1, .int 0, .int 0]))] ++ [(q1, .inl (G.2.2.1, 13, .inr (.inr (.inr (.inr (va_up (va_up (va_up (va_up (va_up (va_up (va_up (va_up (va_up (va_up (fun _ => none) 0 (some (aq2 0))) 1 (some (aq3 0))) 2 (some (aq4 0))) 3 (some (aq5 0))) 4 (some (aq6 0))) 5 (some (aq7 0))) 6 (some (aq8 0))) 7 (some (aq9 0))) 8 (some (aq10 0))) 9 (some (aq11 0))))))))]) ++ w0 G aq2 zz0) ++ w0 G aq3 zz0) ++ w0 G aq4 zz0) ++ w0 G aq5 zz0) ++ w0 G aq6 zz0) ++ w0 G aq7 zz0) ++ w0 G aq8 zz0) ++ w0 G aq9 zz0) ++ w0 G aq10 zz0) ++ w0 G aq11 zz0) H := hP
  have hD : va_D A ((((((((((([(h0, .inr (1, [.ref q1, .int 0, .int 0]))] ++ [(q1, .inl (G.2.2.1, 13, .inr (.inr (.inr (.inr (va_up (va_up (va_up (va_up (va_up (va_up (va_up (va_up (va_up (va_up (fun _ => none) 0 (some (aq2 0))) 1 (some (aq3 0))) 2 (some (aq4 0))) 3 (some (aq5 0))) 4 (some (aq6 0))) 5 (some (aq7 0))) 6 (some (aq8 0))) 7 (some (aq9 0))) 8 (some (aq10 0))) 9 (some (aq11 0))))))))]) ++ w0 G aq2 zz0) ++ w0 G aq3 zz0) ++ w0 G aq4 zz0) ++ w0 G aq5 zz0) ++ w0 G aq6 zz0) ++ w0 G aq7 zz0) ++ w0 G aq8 zz0) ++ w0 G aq9 zz0) ++ w0 G aq10 zz0) ++ w0 G aq11 zz0) := hD
  refine lv_iinc (v := 10) (lv' := [(1, .int 10), (0, .ref h0)]) hx hb dX1_init_44 hl (k := 0) rfl (by decide) (by decide) rfl (fun ls hl => ?_)
  refine lv_goto (tgt := 25) hx hb dX1_init_47 (by decide) ?_
  refine lv_iload_n hx hb dX1_init_25 rfl (lv_at hl 0 rfl) ?_
  refine lv_bipush (v := 12) hx hb dX1_init_26 (by decide) ?_
  refine lv_icmp_gt (tgt := 50) hx hb dX1_init_28 (by decide) (fun c => absurd c (by decide)) (fun _ => ?_)
  refine lv_aload_n hx hb dX1_init_31 rfl (lv_at hl 1 rfl) ?_
  refine va_get hx hb hts in_ctor1 hown hK.1 hP 0 rfl rfl 0 (by decide) (hts (.fieldLink RX1 11 "RuleCourt$History" "kept" "[LRuleCourt$Court;") (by decide +kernel)) (fun _ h9 => h9) rfl dX1_init_32 ?_
  refine lv_iload_n hx hb dX1_init_35 rfl (lv_at hl 0 rfl) ?_
  refine zc_newN (ci := 0) (fs := [.null, .null, .null, .null, .null, .null, .int 0, .int 0, .int 0]) (T := TX0) (N := 9) S (by decide +kernel) tyX0 tyX0_ok (by decide +kernel) (by decide +kernel) (by decide +kernel) hAO hK hP hD hS hA rfl zdf0 (c_X0_init l G) ⟨va_cnB 0 hts gX1_init_X0_init_n24 rfl rfl rfl (hK.2 (.methodLinkNest RX1 24 yX0_init "RuleCourt") (by decide +kernel)) (hts (.initialized RX0) (by decide +kernel)) (by decide +kernel) ⟨Nat.le_of_ble_eq_true rfl, Nat.le_of_ble_eq_true rfl⟩, rfl, hts (.instanceMethod yX0_init) (by decide +kernel)⟩ hl.1 (Nat.le_of_ble_eq_true rfl) (Nat.le_of_ble_eq_true rfl) (Nat.le_of_ble_eq_true rfl) dX1_init_36 dX1_init_39 dX1_init_40 (fun q12 wq12 H locs hwq12 hP hD hS => ?_)
  obtain ⟨aq12, rfl, rfl⟩ := hwq12
  have hP : va_P G.1 vwCl (((((((((((([(h0, .inr (1, [.ref q1, .int 0, .int 0]))] ++ [(q1, .inl (G.2.2.1, 13, .inr (.inr (.inr (.inr (va_up (va_up (va_up (va_up (va_up (va_up (va_up (va_up (va_up (va_up (fun _ => none) 0 (some (aq2 0))) 1 (some (aq3 0))) 2 (some (aq4 0))) 3 (some (aq5 0))) 4 (some (aq6 0))) 5 (some (aq7 0))) 6 (some (aq8 0))) 7 (some (aq9 0))) 8 (some (aq10 0))) 9 (some (aq11 0))))))))]) ++ w0 G aq2 zz0) ++ w0 G aq3 zz0) ++ w0 G aq4 zz0) ++ w0 G aq5 zz0) ++ w0 G aq6 zz0) ++ w0 G aq7 zz0) ++ w0 G aq8 zz0) ++ w0 G aq9 zz0) ++ w0 G aq10 zz0) ++ w0 G aq11 zz0) ++ w0 G aq12 zz0) H := hP
  have hD : va_D A (((((((((((([(h0, .inr (1, [.ref q1, .int 0, .int 0]))] ++ [(q1, .inl (G.2.2.1, 13, .inr (.inr (.inr (.inr (va_up (va_up (va_up (va_up (va_up (va_up (va_up (va_up (va_up (va_up (fun _ => none) 0 (some (aq2 0))) 1 (some (aq3 0))) 2 (some (aq4 0))) 3 (some (aq5 0))) 4 (some (aq6 0))) 5 (some (aq7 0))) 6 (some (aq8 0))) 7 (some (aq9 0))) 8 (some (aq10 0))) 9 (some (aq11 0))))))))]) ++ w0 G aq2 zz0) ++ w0 G aq3 zz0) ++ w0 G aq4 zz0) ++ w0 G aq5 zz0) ++ w0 G aq6 zz0) ++ w0 G aq7 zz0) ++ w0 G aq8 zz0) ++ w0 G aq9 zz0) ++ w0 G aq10 zz0) ++ w0 G aq11 zz0) ++ w0 G aq12 zz0) := hD
  refine va_astq (q0 := 1) (t0 := 1) (qk := 72) (ci := 0) hx hb hK.1 hP hD hS rfl rfl rfl rfl (vp_in_nI (n := 10) (N := 13) (by decide) (by decide)) dX1_init_43 (fun H locs hP hD hS => ?_)
  have hP : va_P G.1 vwCl (((((((((((([(h0, .inr (1, [.ref q1, .int 0, .int 0]))] ++ [(q1, .inl (G.2.2.1, 13, .inr (.inr (.inr (.inr (va_up (va_up (va_up (va_up (va_up (va_up (va_up (va_up (va_up (va_up (va_up (fun _ => none) 0 (some (aq2 0))) 1 (some (aq3 0))) 2 (some (aq4 0))) 3 (some (aq5 0))) 4 (some (aq6 0))) 5 (some (aq7 0))) 6 (some (aq8 0))) 7 (some (aq9 0))) 8 (some (aq10 0))) 9 (some (aq11 0))) 10 (some (aq12 0))))))))]) ++ w0 G aq2 zz0) ++ w0 G aq3 zz0) ++ w0 G aq4 zz0) ++ w0 G aq5 zz0) ++ w0 G aq6 zz0) ++ w0 G aq7 zz0) ++ w0 G aq8 zz0) ++ w0 G aq9 zz0) ++ w0 G aq10 zz0) ++ w0 G aq11 zz0) ++ w0 G aq12 zz0) H := hP
  have hD : va_D A (((((((((((([(h0, .inr (1, [.ref q1, .int 0, .int 0]))] ++ [(q1, .inl (G.2.2.1, 13, .inr (.inr (.inr (.inr (va_up (va_up (va_up (va_up (va_up (va_up (va_up (va_up (va_up (va_up (va_up (fun _ => none) 0 (some (aq2 0))) 1 (some (aq3 0))) 2 (some (aq4 0))) 3 (some (aq5 0))) 4 (some (aq6 0))) 5 (some (aq7 0))) 6 (some (aq8 0))) 7 (some (aq9 0))) 8 (some (aq10 0))) 9 (some (aq11 0))) 10 (some (aq12 0))))))))]) ++ w0 G aq2 zz0) ++ w0 G aq3 zz0) ++ w0 G aq4 zz0) ++ w0 G aq5 zz0) ++ w0 G aq6 zz0) ++ w0 G aq7 zz0) ++ w0 G aq8 zz0) ++ w0 G aq9 zz0) ++ w0 G aq10 zz0) ++ w0 G aq11 zz0) ++ w0 G aq12 zz0) := hD
  refine lv_iinc (v := 11) (lv' := [(1, .int 11), (0, .ref h0)]) hx hb dX1_init_44 hl (k := 0) rfl (by decide) (by decide) rfl (fun ls hl => ?_)
  refine lv_goto (tgt := 25) hx hb dX1_init_47 (by decide) ?_
  refine lv_iload_n hx hb dX1_init_25 rfl (lv_at hl 0 rfl) ?_
  refine lv_bipush (v := 12) hx hb dX1_init_26 (by decide) ?_
  refine lv_icmp_gt (tgt := 50) hx hb dX1_init_28 (by decide) (fun c => absurd c (by decide)) (fun _ => ?_)
  refine lv_aload_n hx hb dX1_init_31 rfl (lv_at hl 1 rfl) ?_
  refine va_get hx hb hts in_ctor1 hown hK.1 hP 0 rfl rfl 0 (by decide) (hts (.fieldLink RX1 11 "RuleCourt$History" "kept" "[LRuleCourt$Court;") (by decide +kernel)) (fun _ h9 => h9) rfl dX1_init_32 ?_
  refine lv_iload_n hx hb dX1_init_35 rfl (lv_at hl 0 rfl) ?_
  refine zc_newN (ci := 0) (fs := [.null, .null, .null, .null, .null, .null, .int 0, .int 0, .int 0]) (T := TX0) (N := 9) S (by decide +kernel) tyX0 tyX0_ok (by decide +kernel) (by decide +kernel) (by decide +kernel) hAO hK hP hD hS hA rfl zdf0 (c_X0_init l G) ⟨va_cnB 0 hts gX1_init_X0_init_n24 rfl rfl rfl (hK.2 (.methodLinkNest RX1 24 yX0_init "RuleCourt") (by decide +kernel)) (hts (.initialized RX0) (by decide +kernel)) (by decide +kernel) ⟨Nat.le_of_ble_eq_true rfl, Nat.le_of_ble_eq_true rfl⟩, rfl, hts (.instanceMethod yX0_init) (by decide +kernel)⟩ hl.1 (Nat.le_of_ble_eq_true rfl) (Nat.le_of_ble_eq_true rfl) (Nat.le_of_ble_eq_true rfl) dX1_init_36 dX1_init_39 dX1_init_40 (fun q13 wq13 H locs hwq13 hP hD hS => ?_)
  obtain ⟨aq13, rfl, rfl⟩ := hwq13
  have hP : va_P G.1 vwCl ((((((((((((([(h0, .inr (1, [.ref q1, .int 0, .int 0]))] ++ [(q1, .inl (G.2.2.1, 13, .inr (.inr (.inr (.inr (va_up (va_up (va_up (va_up (va_up (va_up (va_up (va_up (va_up (va_up (va_up (fun _ => none) 0 (some (aq2 0))) 1 (some (aq3 0))) 2 (some (aq4 0))) 3 (some (aq5 0))) 4 (some (aq6 0))) 5 (some (aq7 0))) 6 (some (aq8 0))) 7 (some (aq9 0))) 8 (some (aq10 0))) 9 (some (aq11 0))) 10 (some (aq12 0))))))))]) ++ w0 G aq2 zz0) ++ w0 G aq3 zz0) ++ w0 G aq4 zz0) ++ w0 G aq5 zz0) ++ w0 G aq6 zz0) ++ w0 G aq7 zz0) ++ w0 G aq8 zz0) ++ w0 G aq9 zz0) ++ w0 G aq10 zz0) ++ w0 G aq11 zz0) ++ w0 G aq12 zz0) ++ w0 G aq13 zz0) H := hP
  have hD : va_D A ((((((((((((([(h0, .inr (1, [.ref q1, .int 0, .int 0]))] ++ [(q1, .inl (G.2.2.1, 13, .inr (.inr (.inr (.inr (va_up (va_up (va_up (va_up (va_up (va_up (va_up (va_up (va_up (va_up (va_up (fun _ => none) 0 (some (aq2 0))) 1 (some (aq3 0))) 2 (some (aq4 0))) 3 (some (aq5 0))) 4 (some (aq6 0))) 5 (some (aq7 0))) 6 (some (aq8 0))) 7 (some (aq9 0))) 8 (some (aq10 0))) 9 (some (aq11 0))) 10 (some (aq12 0))))))))]) ++ w0 G aq2 zz0) ++ w0 G aq3 zz0) ++ w0 G aq4 zz0) ++ w0 G aq5 zz0) ++ w0 G aq6 zz0) ++ w0 G aq7 zz0) ++ w0 G aq8 zz0) ++ w0 G aq9 zz0) ++ w0 G aq10 zz0) ++ w0 G aq11 zz0) ++ w0 G aq12 zz0) ++ w0 G aq13 zz0) := hD
  refine va_astq (q0 := 1) (t0 := 1) (qk := 79) (ci := 0) hx hb hK.1 hP hD hS rfl rfl rfl rfl (vp_in_nI (n := 11) (N := 13) (by decide) (by decide)) dX1_init_43 (fun H locs hP hD hS => ?_)
  have hP : va_P G.1 vwCl ((((((((((((([(h0, .inr (1, [.ref q1, .int 0, .int 0]))] ++ [(q1, .inl (G.2.2.1, 13, .inr (.inr (.inr (.inr (va_up (va_up (va_up (va_up (va_up (va_up (va_up (va_up (va_up (va_up (va_up (va_up (fun _ => none) 0 (some (aq2 0))) 1 (some (aq3 0))) 2 (some (aq4 0))) 3 (some (aq5 0))) 4 (some (aq6 0))) 5 (some (aq7 0))) 6 (some (aq8 0))) 7 (some (aq9 0))) 8 (some (aq10 0))) 9 (some (aq11 0))) 10 (some (aq12 0))) 11 (some (aq13 0))))))))]) ++ w0 G aq2 zz0) ++ w0 G aq3 zz0) ++ w0 G aq4 zz0) ++ w0 G aq5 zz0) ++ w0 G aq6 zz0) ++ w0 G aq7 zz0) ++ w0 G aq8 zz0) ++ w0 G aq9 zz0) ++ w0 G aq10 zz0) ++ w0 G aq11 zz0) ++ w0 G aq12 zz0) ++ w0 G aq13 zz0) H := hP
  have hD : va_D A ((((((((((((([(h0, .inr (1, [.ref q1, .int 0, .int 0]))] ++ [(q1, .inl (G.2.2.1, 13, .inr (.inr (.inr (.inr (va_up (va_up (va_up (va_up (va_up (va_up (va_up (va_up (va_up (va_up (va_up (va_up (fun _ => none) 0 (some (aq2 0))) 1 (some (aq3 0))) 2 (some (aq4 0))) 3 (some (aq5 0))) 4 (some (aq6 0))) 5 (some (aq7 0))) 6 (some (aq8 0))) 7 (some (aq9 0))) 8 (some (aq10 0))) 9 (some (aq11 0))) 10 (some (aq12 0))) 11 (some (aq13 0))))))))]) ++ w0 G aq2 zz0) ++ w0 G aq3 zz0) ++ w0 G aq4 zz0) ++ w0 G aq5 zz0) ++ w0 G aq6 zz0) ++ w0 G aq7 zz0) ++ w0 G aq8 zz0) ++ w0 G aq9 zz0) ++ w0 G aq10 zz0) ++ w0 G aq11 zz0) ++ w0 G aq12 zz0) ++ w0 G aq13 zz0) := hD
  refine lv_iinc (v := 12) (lv' := [(1, .int 12), (0, .ref h0)]) hx hb dX1_init_44 hl (k := 0) rfl (by decide) (by decide) rfl (fun ls hl => ?_)
  refine lv_goto (tgt := 25) hx hb dX1_init_47 (by decide) ?_
  refine lv_iload_n hx hb dX1_init_25 rfl (lv_at hl 0 rfl) ?_
  refine lv_bipush (v := 12) hx hb dX1_init_26 (by decide) ?_
  refine lv_icmp_gt (tgt := 50) hx hb dX1_init_28 (by decide) (fun c => absurd c (by decide)) (fun _ => ?_)
  refine lv_aload_n hx hb dX1_init_31 rfl (lv_at hl 1 rfl) ?_
  refine va_get hx hb hts in_ctor1 hown hK.1 hP 0 rfl rfl 0 (by decide) (hts (.fieldLink RX1 11 "RuleCourt$History" "kept" "[LRuleCourt$Court;") (by decide +kernel)) (fun _ h9 => h9) rfl dX1_init_32 ?_
  refine lv_iload_n hx hb dX1_init_35 rfl (lv_at hl 0 rfl) ?_
  refine zc_newN (ci := 0) (fs := [.null, .null, .null, .null, .null, .null, .int 0, .int 0, .int 0]) (T := TX0) (N := 9) S (by decide +kernel) tyX0 tyX0_ok (by decide +kernel) (by decide +kernel) (by decide +kernel) hAO hK hP hD hS hA rfl zdf0 (c_X0_init l G) ⟨va_cnB 0 hts gX1_init_X0_init_n24 rfl rfl rfl (hK.2 (.methodLinkNest RX1 24 yX0_init "RuleCourt") (by decide +kernel)) (hts (.initialized RX0) (by decide +kernel)) (by decide +kernel) ⟨Nat.le_of_ble_eq_true rfl, Nat.le_of_ble_eq_true rfl⟩, rfl, hts (.instanceMethod yX0_init) (by decide +kernel)⟩ hl.1 (Nat.le_of_ble_eq_true rfl) (Nat.le_of_ble_eq_true rfl) (Nat.le_of_ble_eq_true rfl) dX1_init_36 dX1_init_39 dX1_init_40 (fun q14 wq14 H locs hwq14 hP hD hS => ?_)
  obtain ⟨aq14, rfl, rfl⟩ := hwq14
  have hP : va_P G.1 vwCl (((((((((((((([(h0, .inr (1, [.ref q1, .int 0, .int 0]))] ++ [(q1, .inl (G.2.2.1, 13, .inr (.inr (.inr (.inr (va_up (va_up (va_up (va_up (va_up (va_up (va_up (va_up (va_up (va_up (va_up (va_up (fun _ => none) 0 (some (aq2 0))) 1 (some (aq3 0))) 2 (some (aq4 0))) 3 (some (aq5 0))) 4 (some (aq6 0))) 5 (some (aq7 0))) 6 (some (aq8 0))) 7 (some (aq9 0))) 8 (some (aq10 0))) 9 (some (aq11 0))) 10 (some (aq12 0))) 11 (some (aq13 0))))))))]) ++ w0 G aq2 zz0) ++ w0 G aq3 zz0) ++ w0 G aq4 zz0) ++ w0 G aq5 zz0) ++ w0 G aq6 zz0) ++ w0 G aq7 zz0) ++ w0 G aq8 zz0) ++ w0 G aq9 zz0) ++ w0 G aq10 zz0) ++ w0 G aq11 zz0) ++ w0 G aq12 zz0) ++ w0 G aq13 zz0) ++ w0 G aq14 zz0) H := hP
  have hD : va_D A (((((((((((((([(h0, .inr (1, [.ref q1, .int 0, .int 0]))] ++ [(q1, .inl (G.2.2.1, 13, .inr (.inr (.inr (.inr (va_up (va_up (va_up (va_up (va_up (va_up (va_up (va_up (va_up (va_up (va_up (va_up (fun _ => none) 0 (some (aq2 0))) 1 (some (aq3 0))) 2 (some (aq4 0))) 3 (some (aq5 0))) 4 (some (aq6 0))) 5 (some (aq7 0))) 6 (some (aq8 0))) 7 (some (aq9 0))) 8 (some (aq10 0))) 9 (some (aq11 0))) 10 (some (aq12 0))) 11 (some (aq13 0))))))))]) ++ w0 G aq2 zz0) ++ w0 G aq3 zz0) ++ w0 G aq4 zz0) ++ w0 G aq5 zz0) ++ w0 G aq6 zz0) ++ w0 G aq7 zz0) ++ w0 G aq8 zz0) ++ w0 G aq9 zz0) ++ w0 G aq10 zz0) ++ w0 G aq11 zz0) ++ w0 G aq12 zz0) ++ w0 G aq13 zz0) ++ w0 G aq14 zz0) := hD
  refine va_astq (q0 := 1) (t0 := 1) (qk := 86) (ci := 0) hx hb hK.1 hP hD hS rfl rfl rfl rfl (vp_in_nI (n := 12) (N := 13) (by decide) (by decide)) dX1_init_43 (fun H locs hP hD hS => ?_)
  have hP : va_P G.1 vwCl (((((((((((((([(h0, .inr (1, [.ref q1, .int 0, .int 0]))] ++ [(q1, .inl (G.2.2.1, 13, .inr (.inr (.inr (.inr (va_up (va_up (va_up (va_up (va_up (va_up (va_up (va_up (va_up (va_up (va_up (va_up (va_up (fun _ => none) 0 (some (aq2 0))) 1 (some (aq3 0))) 2 (some (aq4 0))) 3 (some (aq5 0))) 4 (some (aq6 0))) 5 (some (aq7 0))) 6 (some (aq8 0))) 7 (some (aq9 0))) 8 (some (aq10 0))) 9 (some (aq11 0))) 10 (some (aq12 0))) 11 (some (aq13 0))) 12 (some (aq14 0))))))))]) ++ w0 G aq2 zz0) ++ w0 G aq3 zz0) ++ w0 G aq4 zz0) ++ w0 G aq5 zz0) ++ w0 G aq6 zz0) ++ w0 G aq7 zz0) ++ w0 G aq8 zz0) ++ w0 G aq9 zz0) ++ w0 G aq10 zz0) ++ w0 G aq11 zz0) ++ w0 G aq12 zz0) ++ w0 G aq13 zz0) ++ w0 G aq14 zz0) H := hP
  have hD : va_D A (((((((((((((([(h0, .inr (1, [.ref q1, .int 0, .int 0]))] ++ [(q1, .inl (G.2.2.1, 13, .inr (.inr (.inr (.inr (va_up (va_up (va_up (va_up (va_up (va_up (va_up (va_up (va_up (va_up (va_up (va_up (va_up (fun _ => none) 0 (some (aq2 0))) 1 (some (aq3 0))) 2 (some (aq4 0))) 3 (some (aq5 0))) 4 (some (aq6 0))) 5 (some (aq7 0))) 6 (some (aq8 0))) 7 (some (aq9 0))) 8 (some (aq10 0))) 9 (some (aq11 0))) 10 (some (aq12 0))) 11 (some (aq13 0))) 12 (some (aq14 0))))))))]) ++ w0 G aq2 zz0) ++ w0 G aq3 zz0) ++ w0 G aq4 zz0) ++ w0 G aq5 zz0) ++ w0 G aq6 zz0) ++ w0 G aq7 zz0) ++ w0 G aq8 zz0) ++ w0 G aq9 zz0) ++ w0 G aq10 zz0) ++ w0 G aq11 zz0) ++ w0 G aq12 zz0) ++ w0 G aq13 zz0) ++ w0 G aq14 zz0) := hD
  refine lv_iinc (v := 13) (lv' := [(1, .int 13), (0, .ref h0)]) hx hb dX1_init_44 hl (k := 0) rfl (by decide) (by decide) rfl (fun ls hl => ?_)
  refine lv_goto (tgt := 25) hx hb dX1_init_47 (by decide) ?_
  refine lv_iload_n hx hb dX1_init_25 rfl (lv_at hl 0 rfl) ?_
  refine lv_bipush (v := 12) hx hb dX1_init_26 (by decide) ?_
  refine lv_icmp_gt (tgt := 50) hx hb dX1_init_28 (by decide) (fun _ => ?_) (fun c => absurd (by decide) c)
  have hf : ∀ j : Nat, j < 13 → (va_up (va_up (va_up (va_up (va_up (va_up (va_up (va_up (va_up (va_up (va_up (va_up (va_up (fun _ => none) 0 (some (aq2 0))) 1 (some (aq3 0))) 2 (some (aq4 0))) 3 (some (aq5 0))) 4 (some (aq6 0))) 5 (some (aq7 0))) 6 (some (aq8 0))) 7 (some (aq9 0))) 8 (some (aq10 0))) 9 (some (aq11 0))) 10 (some (aq12 0))) 11 (some (aq13 0))) 12 (some (aq14 0))) j = (fun j => some ((fun j => ([aq2, aq3, aq4, aq5, aq6, aq7, aq8, aq9, aq10, aq11, aq12, aq13, aq14] : List (Nat → Nat)).getD j (fun _ => 0)) j 0)) j := fun j hj => match j, hj with
    | 0, _ => rfl
    | 1, _ => rfl
    | 2, _ => rfl
    | 3, _ => rfl
    | 4, _ => rfl
    | 5, _ => rfl
    | 6, _ => rfl
    | 7, _ => rfl
    | 8, _ => rfl
    | 9, _ => rfl
    | 10, _ => rfl
    | 11, _ => rfl
    | 12, _ => rfl
    | j + 13, h => absurd h (by omega)
  have hP9 : va_P G.1 vwCl (w1 G (zad [h0, q1]) (fun j => ([aq2, aq3, aq4, aq5, aq6, aq7, aq8, aq9, aq10, aq11, aq12, aq13, aq14] : List (Nat → Nat)).getD j (fun _ => 0)) (fun j => j) 0 0 ++ (hcs G (fun j => ([aq2, aq3, aq4, aq5, aq6, aq7, aq8, aq9, aq10, aq11, aq12, aq13, aq14] : List (Nat → Nat)).getD j (fun _ => 0)) (fun _ => zz0)).flatten) H := va_P_swap (i := 1) hP rfl hf
  have hD9 : va_D A (w1 G (zad [h0, q1]) (fun j => ([aq2, aq3, aq4, aq5, aq6, aq7, aq8, aq9, aq10, aq11, aq12, aq13, aq14] : List (Nat → Nat)).getD j (fun _ => 0)) (fun j => j) 0 0 ++ (hcs G (fun j => ([aq2, aq3, aq4, aq5, aq6, aq7, aq8, aq9, aq10, aq11, aq12, aq13, aq14] : List (Nat → Nat)).getD j (fun _ => 0)) (fun _ => zz0)).flatten) := va_D_swap (i := 1) (a := q1) (y := .inl (G.2.2.1, 13, .inr (.inr (.inr (.inr (fun j => some ((fun j => ([aq2, aq3, aq4, aq5, aq6, aq7, aq8, aq9, aq10, aq11, aq12, aq13, aq14] : List (Nat → Nat)).getD j (fun _ => 0)) j 0))))))) hD rfl
  exact W.vret hx hb hr (fun t ht hW => ⟨⟨(), rfl, trivial, _, ⟨zad [h0, q1], (fun j => ([aq2, aq3, aq4, aq5, aq6, aq7, aq8, aq9, aq10, aq11, aq12, aq13, aq14] : List (Nat → Nat)).getD j (fun _ => 0)), rfl, rfl⟩, by rw [ht]; exact hP9, hD9⟩, hS.F ht⟩) hS.2.2 dX1_init_50
