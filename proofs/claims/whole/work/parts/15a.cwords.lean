theorem bndy {α β : Type} (x : α) (f : α → β) : bnd x f = f x := (show bnd x f = f x from rfl).trans (Eq.refl _)

theorem in_X7_add_7 : ∀ w ∈ u_ws RX7 TX7 10, w ∈ wsX7_add := by decide +kernel
def rmX7_add : Room := { frames := 0, cells := 0, slots := 0, locals := 0 }
set_option maxHeartbeats 4000000 in
set_option maxRecDepth 100000 in
theorem c_X7_add (l : Launch) (G : zG) (awd : Nat → Nat) (bwd : S7) (x1 : Int32) (hz_wd_length : ∃ N : Nat, N ≤ 120 ∧ g7_length bwd = nI N) (T : Int32 × (Nat → Int32) × (Int32)) (hT : FX7_add (g7_tape bwd) (g7_length bwd) x1 = T) : zI l yX7_add wsX7_add rmX7_add .boolean G [.ref (awd 0), .int x1] [w7 G awd bwd] T.1 [w7 G awd (s7_length (s7_tape bwd T.2.1) T.2.2)] := by
  refine zI.mk (cc := cX7_add) (maxL := 2) (by decide +kernel) rfl (Nat.le_of_ble_eq_true rfl) (zfl_cons (wf7 _ _ _ _) rfl) ?_
  intro p e s m args below meth c Q A ls S hK hD hA hP hl hret
  have hx := S.1
  have hb := S.2.1
  have hS : va_S A s.heap s.heap [] := va_S.rf
  have hl : lv_has ls 2 [(0, .ref (awd 0)), (1, .int x1)] := hl
  have hE := hT.symm.trans (FX7_add.eq_1 _ _ _)
  refine lv_aload_n hx hb dX7_add_0 rfl (lv_at hl 0 rfl) ?_
  refine zg7_length S in_X7_add_7 hK hP 0 rfl (List.mem_of_getElem? (i := 1) rfl) (v := (g7_length bwd)) rfl dX7_add_1 ?_
  refine lv_bipush (v := 120) hx hb dX7_add_4 (by decide) ?_
  refine lv_icmp_lt (tgt := 11) hx hb dX7_add_6 (by decide) (fun c6 => ?_) (fun c6 => ?_)
  · have hE := hE.trans (if_pos c6)
    have hi_wd_length : vp_in (g7_length bwd) 120 := by obtain ⟨N, h1, h2⟩ := hz_wd_length; exact zfld_lt h2 (by omega) rfl (by decide) c6
    refine lv_aload_n hx hb dX7_add_11 rfl (lv_at hl 0 rfl) ?_
    refine zg7_tape S in_X7_add_7 hK hP 0 rfl (List.mem_of_getElem? (i := 2) rfl) dX7_add_12 ?_
    refine lv_aload_n hx hb dX7_add_15 rfl (lv_at hl 0 rfl) ?_
    refine zg7_length S in_X7_add_7 hK hP 0 rfl (List.mem_of_getElem? (i := 1) rfl) (v := (g7_length bwd)) rfl dX7_add_16 ?_
    refine lv_iload_n hx hb dX7_add_19 rfl (lv_at hl 1 rfl) ?_
    refine zs7_tape (bs1 := [w7 G awd (s7_tape bwd (upd (g7_tape bwd) (g7_length bwd).toNatClampNeg x1))]) S hK hP hD hS 0 rfl hi_wd_length (f := (g7_tape bwd)) rfl dX7_add_20 rfl (fun H locs hP hD hS => ?_)
    refine lv_aload_n hx hb dX7_add_21 rfl (lv_at hl 0 rfl) ?_
    refine lv_dup hx hb dX7_add_22 rfl ?_
    refine zg7_length S in_X7_add_7 hK hP 0 rfl (List.mem_of_getElem? (i := 1) rfl) (v := (g7_length bwd)) (gs7_length_tape _ (upd (g7_tape bwd) (g7_length bwd).toNatClampNeg x1)) dX7_add_23 ?_
    refine lv_iconst (v := 1) hx hb dX7_add_26 (by decide) ?_
    refine lv_iadd hx hb dX7_add_27 ?_
    refine zp7_length (bs1 := [w7 G awd (s7_length (s7_tape bwd (upd (g7_tape bwd) (g7_length bwd).toNatClampNeg x1)) ((g7_length bwd) + 1))]) S in_X7_add_7 hK hP hD hS 0 rfl (List.mem_of_getElem? (i := 1) rfl) dX7_add_28 rfl (fun H locs hP hD hS => ?_)
    refine lv_iconst (v := 1) hx hb dX7_add_31 (by decide) ?_
    exact hret _ _ _ _ _ _ (by subst hE; rfl) zn1 hP hS dX7_add_32
  · have hE := hE.trans (if_neg c6)
    refine lv_iconst (v := 0) hx hb dX7_add_9 (by decide) ?_
    rw [show bwd = (s7_length (s7_tape bwd (g7_tape bwd)) (g7_length bwd)) from (((se7_tape _).symm).trans (((se7_length _).symm).trans (congrArg (fun v => s7_length (s7_tape bwd (g7_tape bwd)) v) (gs7_length_tape _ (g7_tape bwd)))))] at hP hD
    exact hret _ _ _ _ _ _ (by subst hE; rfl) zn0 hP hS dX7_add_10

theorem in_X7_take_7 : ∀ w ∈ u_ws RX7 TX7 10, w ∈ wsX7_take := by decide +kernel
def rmX7_take : Room := { frames := 0, cells := 0, slots := 0, locals := 0 }
set_option maxHeartbeats 4000000 in
set_option maxRecDepth 100000 in
theorem c_X7_take (l : Launch) (G : zG) (awd : Nat → Nat) (bwd : S7) (x1 : Int32) (hw_wd_at : zTp (g7_length bwd) (g7_at bwd)) (T : Int32 × (Int32)) (hT : FX7_take (g7_tape bwd) (g7_length bwd) (g7_at bwd) x1 = T) : zI l yX7_take wsX7_take rmX7_take .boolean G [.ref (awd 0), .int x1] [w7 G awd bwd] T.1 [w7 G awd (s7_at bwd T.2)] := by
  refine zI.mk (cc := cX7_take) (maxL := 2) (by decide +kernel) rfl (Nat.le_of_ble_eq_true rfl) (zfl_cons (wf7 _ _ _ _) rfl) ?_
  intro p e s m args below meth c Q A ls S hK hD hA hP hl hret
  have hx := S.1
  have hb := S.2.1
  have hS : va_S A s.heap s.heap [] := va_S.rf
  have hl : lv_has ls 2 [(0, .ref (awd 0)), (1, .int x1)] := hl
  have hE := hT.symm.trans (FX7_take.eq_1 _ _ _ _)
  refine lv_aload_n hx hb dX7_take_0 rfl (lv_at hl 0 rfl) ?_
  refine zg7_at S in_X7_take_7 hK hP 0 rfl (List.mem_of_getElem? (i := 1) rfl) (v := (g7_at bwd)) rfl dX7_take_1 ?_
  refine lv_aload_n hx hb dX7_take_4 rfl (lv_at hl 0 rfl) ?_
  refine zg7_length S in_X7_take_7 hK hP 0 rfl (List.mem_of_getElem? (i := 2) rfl) (v := (g7_length bwd)) rfl dX7_take_5 ?_
  refine lv_icmp_ge (tgt := 24) hx hb dX7_take_8 (by decide) (fun c8 => ?_) (fun c8 => ?_)
  · have hE := hE.trans (if_pos c8)
    refine lv_iconst (v := 0) hx hb dX7_take_24 (by decide) ?_
    rw [show bwd = (s7_at bwd (g7_at bwd)) from ((se7_at _).symm)] at hP hD
    exact hret _ _ _ _ _ _ (by subst hE; rfl) zn0 hP hS dX7_take_25
  · have hE := hE.trans (if_neg c8)
    have hi_wd_at : vp_in (g7_at bwd) 120 := zTp_in hw_wd_at c8
    refine lv_aload_n hx hb dX7_take_11 rfl (lv_at hl 0 rfl) ?_
    refine zg7_tape S in_X7_take_7 hK hP 0 rfl (List.mem_of_getElem? (i := 3) rfl) dX7_take_12 ?_
    refine lv_aload_n hx hb dX7_take_15 rfl (lv_at hl 0 rfl) ?_
    refine zg7_at S in_X7_take_7 hK hP 0 rfl (List.mem_of_getElem? (i := 1) rfl) (v := (g7_at bwd)) rfl dX7_take_16 ?_
    refine zl7_tape S hK hP 0 rfl hi_wd_at (f := (g7_tape bwd)) rfl dX7_take_19 ?_
    refine lv_iload_n hx hb dX7_take_20 rfl (lv_at hl 1 rfl) ?_
    refine lv_icmp_eq (tgt := 26) hx hb dX7_take_21 (by decide) (fun c21 => ?_) (fun c21 => ?_)
    · have hE := hE.trans (if_pos c21)
      refine lv_aload_n hx hb dX7_take_26 rfl (lv_at hl 0 rfl) ?_
      refine lv_dup hx hb dX7_take_27 rfl ?_
      refine zg7_at S in_X7_take_7 hK hP 0 rfl (List.mem_of_getElem? (i := 1) rfl) (v := (g7_at bwd)) rfl dX7_take_28 ?_
      refine lv_iconst (v := 1) hx hb dX7_take_31 (by decide) ?_
      refine lv_iadd hx hb dX7_take_32 ?_
      refine zp7_at (bs1 := [w7 G awd (s7_at bwd ((g7_at bwd) + 1))]) S in_X7_take_7 hK hP hD hS 0 rfl (List.mem_of_getElem? (i := 1) rfl) dX7_take_33 rfl (fun H locs hP hD hS => ?_)
      refine lv_iconst (v := 1) hx hb dX7_take_36 (by decide) ?_
      exact hret _ _ _ _ _ _ (by subst hE; rfl) zn1 hP hS dX7_take_37
    · have hE := hE.trans (if_neg c21)
      refine lv_iconst (v := 0) hx hb dX7_take_24 (by decide) ?_
      rw [show bwd = (s7_at bwd (g7_at bwd)) from ((se7_at _).symm)] at hP hD
      exact hret _ _ _ _ _ _ (by subst hE; rfl) zn0 hP hS dX7_take_25

theorem zTp_take {t : Nat → Int32} {l q x : Int32} (h : zTp l q) : zTp l (FX7_take t l q x).2 := by
  simp only [FX7_take]
  repeat' split
  all_goals first | with_reducible exact h | with_reducible exact zTp_s h (by assumption) | exact h | exact zTp_s h (by assumption)

theorem in_X7_next_7 : ∀ w ∈ u_ws RX7 TX7 10, w ∈ wsX7_next := by decide +kernel
def rmX7_next : Room := { frames := 0, cells := 0, slots := 0, locals := 0 }
set_option maxHeartbeats 4000000 in
set_option maxRecDepth 100000 in
theorem c_X7_next (l : Launch) (G : zG) (awd : Nat → Nat) (bwd : S7) (hw_wd_at : zTp (g7_length bwd) (g7_at bwd)) (T : Int32) (hT : FX7_next (g7_tape bwd) (g7_length bwd) (g7_at bwd) = T) : zR l yX7_next wsX7_next rmX7_next .int G [.ref (awd 0)] [w7 G awd bwd] T := by
  refine zR.mk (cc := cX7_next) (maxL := 1) (by decide +kernel) rfl (Nat.le_of_ble_eq_true rfl) ?_
  intro p e s m args below meth c Q A ls S hK hD hA hP hl hret
  have hx := S.1
  have hb := S.2.1
  have hl : lv_has ls 1 [(0, .ref (awd 0))] := hl
  have hE := hT.symm.trans (FX7_next.eq_1 _ _ _)
  refine lv_aload_n hx hb dX7_next_0 rfl (lv_at hl 0 rfl) ?_
  refine zg7_at S in_X7_next_7 hK hP 0 rfl (List.mem_of_getElem? (i := 1) rfl) (v := (g7_at bwd)) rfl dX7_next_1 ?_
  refine lv_aload_n hx hb dX7_next_4 rfl (lv_at hl 0 rfl) ?_
  refine zg7_length S in_X7_next_7 hK hP 0 rfl (List.mem_of_getElem? (i := 2) rfl) (v := (g7_length bwd)) rfl dX7_next_5 ?_
  refine lv_icmp_ge (tgt := 23) hx hb dX7_next_8 (by decide) (fun c8 => ?_) (fun c8 => ?_)
  · have hE := hE.trans (if_pos c8)
    refine lv_iconst (v := 0) hx hb dX7_next_23 (by decide) ?_
    exact hret _ _ _ hE rfl dX7_next_24
  · have hE := hE.trans (if_neg c8)
    have hi_wd_at : vp_in (g7_at bwd) 120 := zTp_in hw_wd_at c8
    refine lv_aload_n hx hb dX7_next_11 rfl (lv_at hl 0 rfl) ?_
    refine zg7_tape S in_X7_next_7 hK hP 0 rfl (List.mem_of_getElem? (i := 3) rfl) dX7_next_12 ?_
    refine lv_aload_n hx hb dX7_next_15 rfl (lv_at hl 0 rfl) ?_
    refine zg7_at S in_X7_next_7 hK hP 0 rfl (List.mem_of_getElem? (i := 1) rfl) (v := (g7_at bwd)) rfl dX7_next_16 ?_
    refine zl7_tape S hK hP 0 rfl hi_wd_at (f := (g7_tape bwd)) rfl dX7_next_19 ?_
    refine lv_goto (tgt := 24) hx hb dX7_next_20 (by decide) ?_
    exact hret _ _ _ hE rfl dX7_next_24

theorem znx0 {t : Nat → Int32} {l q : Int32} (c : ¬ FX7_next t l q = 0) : ¬ l ≤ q := by
  intro h
  apply c
  unfold FX7_next
  rw [if_pos h]
theorem znx {t : Nat → Int32} {l q : Int32} (c : ¬ FX7_next t l q < 97) : ¬ l ≤ q := znx0 (fun h => c (by rw [h]; decide))

theorem in_X7_readLiteral_7 : ∀ w ∈ u_ws RX7 TX7 10, w ∈ wsX7_readLiteral := by decide +kernel
def rmX7_readLiteral : Room := { frames := 1, cells := 0, slots := 0, locals := 21 }
set_option maxHeartbeats 4000000 in
set_option maxRecDepth 100000 in
theorem c_X7_readLiteral (l : Launch) (G : zG) (awd : Nat → Nat) (bwd : S7) (hw_wd_at : zTp (g7_length bwd) (g7_at bwd)) (T : Int32 × (Int32)) (hT : FX7_readLiteral (g7_tape bwd) (g7_length bwd) (g7_at bwd) = T) : zI l yX7_readLiteral wsX7_readLiteral rmX7_readLiteral .int G [.ref (awd 0)] [w7 G awd bwd] T.1 [w7 G awd (s7_at bwd T.2)] := by
  refine zI.mk (cc := cX7_readLiteral) (maxL := 4) (by decide +kernel) rfl (Nat.le_of_ble_eq_true rfl) (zfl_cons (wf7 _ _ _ _) rfl) ?_
  intro p e s m args below meth c Q A ls S hK hD hA hP hl hret
  have hx := S.1
  have hb := S.2.1
  have hS : va_S A s.heap s.heap [] := va_S.rf
  have hl : lv_has ls 4 [(0, .ref (awd 0))] := hl
  have hE := hT.symm.trans (FX7_readLiteral.eq_1 _ _ _)
  refine lv_aload_n hx hb dX7_readLiteral_0 rfl (lv_at hl 0 rfl) ?_
  refine lv_bipush (v := 126) hx hb dX7_readLiteral_1 (by decide) ?_
  obtain ⟨t3, ht3⟩ : ∃ z, FX7_take (g7_tape bwd) (g7_length bwd) (g7_at bwd) 126 = z := ⟨_, rfl⟩
  have hE := hE.trans (bnd_eq ht3)
  have hc := c_X7_take l G awd bwd 126 (hw_wd_at) _ ht3
  refine zgoI (bs' := [w7 G awd (s7_at bwd t3.2)]) hc [0] rfl rfl rfl hP hD hS hA (va_runV (As := [.int 126]) (rest := []) S (hc.2 _) (cwV 1 S.2.2.2.2 gX7_readLiteral_X7_take rfl rfl rfl (by decide +kernel) ⟨Nat.le_of_ble_eq_true rfl, Nat.le_of_ble_eq_true rfl⟩) (zpV hK hP hD (is := [0]) rfl rfl 0 rfl rfl (ci := 7) rfl) rfl rfl hl.1 rfl (lv_room (Nat.le_of_ble_eq_true rfl)) dX7_readLiteral_3 ⟨Nat.zero_le _, Nat.zero_le _⟩) (fun H locs hn3 hP hD hS => ?_)
  have hw_wd_at_3 : zTp (g7_length bwd) (t3.2) := by rw [← ht3]; exact zTp_take hw_wd_at
  refine lv_istore_n (lv' := [(1, .int t3.1), (0, .ref (awd 0))]) hx hb dX7_readLiteral_6 rfl hl (by decide) rfl (fun ls hl => ?_)
  refine lv_aload_n hx hb dX7_readLiteral_7 rfl (lv_at hl 1 rfl) ?_
  obtain ⟨t8, ht8⟩ : ∃ z, FX7_next (g7_tape bwd) (g7_length bwd) t3.2 = z := ⟨_, rfl⟩
  have hE := hE.trans (bnd_eq ht8)
  have hc := c_X7_next l G awd (s7_at bwd t3.2) (hw_wd_at_3) _ (by simp only [gs7_tape_at, gs7_length_at, gg7_at]; exact ht8)
  refine zgoR (va_runV (As := []) (rest := []) S (hc _) (cwV 0 S.2.2.2.2 gX7_readLiteral_X7_next rfl rfl rfl (by decide +kernel) ⟨Nat.le_of_ble_eq_true rfl, Nat.le_of_ble_eq_true rfl⟩) (zpV hK hP hD (is := [0]) rfl rfl 0 rfl rfl (ci := 7) rfl) rfl rfl hl.1 rfl (lv_room (Nat.le_of_ble_eq_true rfl)) dX7_readLiteral_8 ⟨Nat.zero_le _, Nat.zero_le _⟩) (fun hn8 => ?_)
  refine lv_istore_n (lv' := [(2, .int t8), (1, .int t3.1), (0, .ref (awd 0))]) hx hb dX7_readLiteral_11 rfl hl (by decide) rfl (fun ls hl => ?_)
  refine lv_iload_n hx hb dX7_readLiteral_12 rfl (lv_at hl 0 rfl) ?_
  refine lv_bipush (v := 97) hx hb dX7_readLiteral_13 (by decide) ?_
  refine lv_icmp_lt (tgt := 24) hx hb dX7_readLiteral_15 (by decide) (fun c15 => ?_) (fun c15 => ?_)
  · have hE := hE.trans (if_pos c15)
    refine lv_iconst (v := (-1)) hx hb dX7_readLiteral_24 (by decide) ?_
    exact hret _ _ _ _ _ _ (by subst hE; rfl) rfl hP hS dX7_readLiteral_25
  · have hE := hE.trans (if_neg c15)
    refine lv_iload_n hx hb dX7_readLiteral_18 rfl (lv_at hl 0 rfl) ?_
    refine lv_bipush (v := 106) hx hb dX7_readLiteral_19 (by decide) ?_
    refine lv_icmp_le (tgt := 26) hx hb dX7_readLiteral_21 (by decide) (fun c21 => ?_) (fun c21 => ?_)
    · have hE := hE.trans (if_pos c21)
      refine lv_aload_n hx hb dX7_readLiteral_26 rfl (lv_at hl 2 rfl) ?_
      refine lv_dup hx hb dX7_readLiteral_27 rfl ?_
      refine zg7_at S in_X7_readLiteral_7 hK hP 0 rfl (List.mem_of_getElem? (i := 1) rfl) (v := t3.2) (gg7_at _ t3.2) dX7_readLiteral_28 ?_
      refine lv_iconst (v := 1) hx hb dX7_readLiteral_31 (by decide) ?_
      refine lv_iadd hx hb dX7_readLiteral_32 ?_
      refine zp7_at (bs1 := [w7 G awd (s7_at (s7_at bwd t3.2) (t3.2 + 1))]) S in_X7_readLiteral_7 hK hP hD hS 0 rfl (List.mem_of_getElem? (i := 1) rfl) dX7_readLiteral_33 rfl (fun H locs hP hD hS => ?_)
      refine lv_iload_n hx hb dX7_readLiteral_36 rfl (lv_at hl 0 rfl) ?_
      refine lv_bipush (v := 97) hx hb dX7_readLiteral_37 (by decide) ?_
      refine lv_isub hx hb dX7_readLiteral_39 ?_
      refine lv_istore_n (lv' := [(3, .int (t8 - 97)), (2, .int t8), (1, .int t3.1), (0, .ref (awd 0))]) hx hb dX7_readLiteral_40 rfl hl (by decide) rfl (fun ls hl => ?_)
      refine lv_iload_n hx hb dX7_readLiteral_41 rfl (lv_at hl 2 rfl) ?_
      refine lv_if_eq (tgt := 52) hx hb dX7_readLiteral_42 (by decide) (fun c42 => ?_) (fun c42 => ?_)
      · have hE := hE.trans (if_pos c42)
        refine lv_iload_n hx hb dX7_readLiteral_52 rfl (lv_at hl 0 rfl) ?_
        rw [show (s7_at (s7_at bwd t3.2) (t3.2 + 1)) = (s7_at bwd (t3.2 + 1)) from (ss7_at _ t3.2 (t3.2 + 1))] at hP hD
        exact hret _ _ _ _ _ _ (by subst hE; rfl) rfl hP hS dX7_readLiteral_53
      · have hE := hE.trans (if_neg c42)
        refine lv_iload_n hx hb dX7_readLiteral_45 rfl (lv_at hl 0 rfl) ?_
        obtain ⟨t46, ht46⟩ : ∃ z, FX8_otherOf (t8 - 97) = z := ⟨_, rfl⟩
        have hE := hE.trans (bnd_eq ht46)
        have hc := c_X8_otherOf l G (t8 - 97) _ ht46
        refine zgoR (va_runSN (As := [.int (t8 - 97)]) (rest := []) S (hc _) ⟨va_cnB (host := "RuleCourt") 1 S.2.2.2.2 gX7_readLiteral_X8_otherOf_n85 rfl rfl rfl (hK.2 _ (List.mem_of_getElem? (i := 9) rfl)) (S.2.2.2.2 _ (List.mem_of_getElem? (i := 14) rfl)) (by decide +kernel) ⟨Nat.le_of_ble_eq_true rfl, Nat.le_of_ble_eq_true rfl⟩, S.2.2.2.2 _ (List.mem_of_getElem? (i := 13) rfl), trivial⟩ (zpS hK hP hD (is := []) rfl rfl) rfl rfl hl.1 rfl (lv_room (Nat.le_of_ble_eq_true rfl)) dX7_readLiteral_46 ⟨Nat.zero_le _, Nat.zero_le _⟩) (fun hn46 => ?_)
        refine lv_goto (tgt := 53) hx hb dX7_readLiteral_49 (by decide) ?_
        rw [show (s7_at (s7_at bwd t3.2) (t3.2 + 1)) = (s7_at bwd (t3.2 + 1)) from (ss7_at _ t3.2 (t3.2 + 1))] at hP hD
        exact hret _ _ _ _ _ _ (by subst hE; rfl) rfl hP hS dX7_readLiteral_53
    · have hE := hE.trans (if_neg c21)
      refine lv_iconst (v := (-1)) hx hb dX7_readLiteral_24 (by decide) ?_
      exact hret _ _ _ _ _ _ (by subst hE; rfl) rfl hP hS dX7_readLiteral_25

theorem zTp_readLiteral {t : Nat → Int32} {l q : Int32} (h : zTp l q) : zTp l (FX7_readLiteral t l q).2 := by
  simp only [FX7_readLiteral, bndy]
  have h3 := zTp_take (t := t) (x := 126) h
  repeat' split
  all_goals first | with_reducible exact h3 | with_reducible exact zTp_s h3 (znx (by assumption)) | exact h3 | exact zTp_s h3 (znx (by assumption))

theorem in_X7_readFact_7 : ∀ w ∈ u_ws RX7 TX7 10, w ∈ wsX7_readFact := by decide +kernel
def rmX7_readFact : Room := { frames := 2, cells := 0, slots := 0, locals := 44 }
set_option maxHeartbeats 4000000 in
set_option maxRecDepth 100000 in
theorem c_X7_readFact (l : Launch) (G : zG) (awd : Nat → Nat) (bwd : S7) (hw_wd_at : zTp (g7_length bwd) (g7_at bwd)) (hi_wd_told : vp_in (g7_told bwd) 60) (T : Int32 × (Nat → Int32) × (Nat → Int32) × (Int32)) (hT : FX7_readFact (g7_tape bwd) (g7_sort bwd) (g7_head bwd) (g7_length bwd) (g7_at bwd) (g7_told bwd) = T) : zI l yX7_readFact wsX7_readFact rmX7_readFact .boolean G [.ref (awd 0)] [w7 G awd bwd] T.1 [w7 G awd (s7_at (s7_head (s7_sort bwd T.2.1) T.2.2.1) T.2.2.2)] := by
  refine zI.mk (cc := cX7_readFact) (maxL := 1) (by decide +kernel) rfl (Nat.le_of_ble_eq_true rfl) (zfl_cons (wf7 _ _ _ _) rfl) ?_
  intro p e s m args below meth c Q A ls S hK hD hA hP hl hret
  have hx := S.1
  have hb := S.2.1
  have hS : va_S A s.heap s.heap [] := va_S.rf
  have hl : lv_has ls 1 [(0, .ref (awd 0))] := hl
  have hE := hT.symm.trans (FX7_readFact.eq_1 _ _ _ _ _ _)
  refine lv_aload_n hx hb dX7_readFact_0 rfl (lv_at hl 0 rfl) ?_
  refine zg7_sort S in_X7_readFact_7 hK hP 0 rfl (List.mem_of_getElem? (i := 1) rfl) dX7_readFact_1 ?_
  refine lv_aload_n hx hb dX7_readFact_4 rfl (lv_at hl 0 rfl) ?_
  refine zg7_told S in_X7_readFact_7 hK hP 0 rfl (List.mem_of_getElem? (i := 2) rfl) (v := (g7_told bwd)) rfl dX7_readFact_5 ?_
  refine lv_iconst (v := 3) hx hb dX7_readFact_8 (by decide) ?_
  refine zs7_sort (bs1 := [w7 G awd (s7_sort bwd (upd (g7_sort bwd) (g7_told bwd).toNatClampNeg 3))]) S hK hP hD hS 0 rfl hi_wd_told (f := (g7_sort bwd)) rfl dX7_readFact_9 rfl (fun H locs hP hD hS => ?_)
  refine lv_aload_n hx hb dX7_readFact_10 rfl (lv_at hl 0 rfl) ?_
  refine zg7_head S in_X7_readFact_7 hK hP 0 rfl (List.mem_of_getElem? (i := 3) rfl) dX7_readFact_11 ?_
  refine lv_aload_n hx hb dX7_readFact_14 rfl (lv_at hl 0 rfl) ?_
  refine zg7_told S in_X7_readFact_7 hK hP 0 rfl (List.mem_of_getElem? (i := 2) rfl) (v := (g7_told bwd)) (gs7_told_sort _ (upd (g7_sort bwd) (g7_told bwd).toNatClampNeg 3)) dX7_readFact_15 ?_
  refine lv_aload_n hx hb dX7_readFact_18 rfl (lv_at hl 0 rfl) ?_
  obtain ⟨t19, ht19⟩ : ∃ z, FX7_readLiteral (g7_tape bwd) (g7_length bwd) (g7_at bwd) = z := ⟨_, rfl⟩
  have hE := hE.trans (bnd_eq ht19)
  have hc := c_X7_readLiteral l G awd (s7_sort bwd (upd (g7_sort bwd) (g7_told bwd).toNatClampNeg 3)) (hw_wd_at) _ (by simp only [gs7_tape_sort, gs7_length_sort, gs7_at_sort]; exact ht19)
  refine zgoI (bs' := [w7 G awd (s7_at (s7_sort bwd (upd (g7_sort bwd) (g7_told bwd).toNatClampNeg 3)) t19.2)]) hc [0] rfl rfl rfl hP hD hS hA (va_runV (As := []) (rest := [.int (g7_told bwd), .ref (awd 3)]) S (hc.2 _) (cwV 0 S.2.2.2.2 gX7_readFact_X7_readLiteral rfl rfl rfl (by decide +kernel) ⟨Nat.le_of_ble_eq_true rfl, Nat.le_of_ble_eq_true rfl⟩) (zpV hK hP hD (is := [0]) rfl rfl 0 rfl rfl (ci := 7) rfl) rfl rfl hl.1 rfl (lv_room (Nat.le_of_ble_eq_true rfl)) dX7_readFact_19 ⟨Nat.zero_le _, Nat.zero_le _⟩) (fun H locs hn19 hP hD hS => ?_)
  have hw_wd_at_19 : zTp (g7_length bwd) (t19.2) := by rw [← ht19]; exact zTp_readLiteral hw_wd_at
  refine zs7_head (bs1 := [w7 G awd (s7_head (s7_at (s7_sort bwd (upd (g7_sort bwd) (g7_told bwd).toNatClampNeg 3)) t19.2) (upd (g7_head bwd) (g7_told bwd).toNatClampNeg t19.1))]) S hK hP hD hS 0 rfl hi_wd_told (f := (g7_head bwd)) ((gs7_head_at _ t19.2).trans (gs7_head_sort _ (upd (g7_sort bwd) (g7_told bwd).toNatClampNeg 3))) dX7_readFact_22 rfl (fun H locs hP hD hS => ?_)
  refine lv_aload_n hx hb dX7_readFact_23 rfl (lv_at hl 0 rfl) ?_
  refine zg7_head S in_X7_readFact_7 hK hP 0 rfl (List.mem_of_getElem? (i := 3) rfl) dX7_readFact_24 ?_
  refine lv_aload_n hx hb dX7_readFact_27 rfl (lv_at hl 0 rfl) ?_
  refine zg7_told S in_X7_readFact_7 hK hP 0 rfl (List.mem_of_getElem? (i := 2) rfl) (v := (g7_told bwd)) ((gs7_told_head _ (upd (g7_head bwd) (g7_told bwd).toNatClampNeg t19.1)).trans ((gs7_told_at _ t19.2).trans (gs7_told_sort _ (upd (g7_sort bwd) (g7_told bwd).toNatClampNeg 3)))) dX7_readFact_28 ?_
  refine zl7_head S hK hP 0 rfl hi_wd_told (f := (upd (g7_head bwd) (g7_told bwd).toNatClampNeg t19.1)) (gg7_head _ (upd (g7_head bwd) (g7_told bwd).toNatClampNeg t19.1)) dX7_readFact_31 ?_
  refine lv_iconst (v := (-1)) hx hb dX7_readFact_32 (by decide) ?_
  refine lv_icmp_eq (tgt := 40) hx hb dX7_readFact_33 (by decide) (fun c33 => ?_) (fun c33 => ?_)
  · have hE := hE.trans (if_pos c33)
    refine lv_iconst (v := 0) hx hb dX7_readFact_40 (by decide) ?_
    rw [show (s7_head (s7_at (s7_sort bwd (upd (g7_sort bwd) (g7_told bwd).toNatClampNeg 3)) t19.2) (upd (g7_head bwd) (g7_told bwd).toNatClampNeg t19.1)) = (s7_at (s7_head (s7_sort bwd (upd (g7_sort bwd) (g7_told bwd).toNatClampNeg 3)) (upd (g7_head bwd) (g7_told bwd).toNatClampNeg t19.1)) t19.2) from (cm7_head_at _ t19.2 (upd (g7_head bwd) (g7_told bwd).toNatClampNeg t19.1))] at hP hD
    exact hret _ _ _ _ _ _ (by subst hE; rfl) zn0 hP hS dX7_readFact_41
  · have hE := hE.trans (if_neg c33)
    refine lv_iconst (v := 1) hx hb dX7_readFact_36 (by decide) ?_
    refine lv_goto (tgt := 41) hx hb dX7_readFact_37 (by decide) ?_
    rw [show (s7_head (s7_at (s7_sort bwd (upd (g7_sort bwd) (g7_told bwd).toNatClampNeg 3)) t19.2) (upd (g7_head bwd) (g7_told bwd).toNatClampNeg t19.1)) = (s7_at (s7_head (s7_sort bwd (upd (g7_sort bwd) (g7_told bwd).toNatClampNeg 3)) (upd (g7_head bwd) (g7_told bwd).toNatClampNeg t19.1)) t19.2) from (cm7_head_at _ t19.2 (upd (g7_head bwd) (g7_told bwd).toNatClampNeg t19.1))] at hP hD
    exact hret _ _ _ _ _ _ (by subst hE; rfl) zn1 hP hS dX7_readFact_41

theorem zTp_readFact {a b t : Nat → Int32} {l q o : Int32} (h : zTp l q) : zTp l (FX7_readFact t a b l q o).2.2.2 := by
  simp only [FX7_readFact, bndy]
  have h1 := zTp_readLiteral (t := t) h
  repeat' split
  all_goals exact h1

def rmX7_isFigure : Room := { frames := 0, cells := 0, slots := 0, locals := 0 }
set_option maxHeartbeats 4000000 in
set_option maxRecDepth 100000 in
theorem c_X7_isFigure (l : Launch) (G : zG) (x0 : Int32) (T : Int32) (hT : FX7_isFigure x0 = T) : zR l yX7_isFigure wsX7_isFigure rmX7_isFigure .boolean G [.int x0] [] T := by
  refine zR.mk (cc := cX7_isFigure) (maxL := 1) (by decide +kernel) rfl (Nat.le_of_ble_eq_true rfl) ?_
  intro p e s m args below meth c Q A ls S hK hD hA hP hl hret
  have hx := S.1
  have hb := S.2.1
  have hl : lv_has ls 1 [(0, .int x0)] := hl
  have hE := hT.symm.trans (FX7_isFigure.eq_1 _)
  refine lv_iload_n hx hb dX7_isFigure_0 rfl (lv_at hl 0 rfl) ?_
  refine lv_bipush (v := 48) hx hb dX7_isFigure_1 (by decide) ?_
  refine lv_icmp_lt (tgt := 16) hx hb dX7_isFigure_3 (by decide) (fun c3 => ?_) (fun c3 => ?_)
  · have hE := hE.trans (if_pos c3)
    refine lv_iconst (v := 0) hx hb dX7_isFigure_16 (by decide) ?_
    exact hret _ _ _ hE zn0 dX7_isFigure_17
  · have hE := hE.trans (if_neg c3)
    refine lv_iload_n hx hb dX7_isFigure_6 rfl (lv_at hl 0 rfl) ?_
    refine lv_bipush (v := 57) hx hb dX7_isFigure_7 (by decide) ?_
    refine lv_icmp_gt (tgt := 16) hx hb dX7_isFigure_9 (by decide) (fun c9 => ?_) (fun c9 => ?_)
    · have hE := hE.trans (if_pos c9)
      refine lv_iconst (v := 0) hx hb dX7_isFigure_16 (by decide) ?_
      exact hret _ _ _ hE zn0 dX7_isFigure_17
    · have hE := hE.trans (if_neg c9)
      refine lv_iconst (v := 1) hx hb dX7_isFigure_12 (by decide) ?_
      refine lv_goto (tgt := 17) hx hb dX7_isFigure_13 (by decide) ?_
      exact hret _ _ _ hE zn1 dX7_isFigure_17

theorem zfig0 {x : Int32} (c : ¬ FX7_isFigure x = 0) : ¬ x = 0 := by
  intro h
  apply c
  rw [h]
  decide
theorem zlk6 {x : Int32} (h3 : ¬ x = 3) (h4 : ¬ x = 4) : Op.lookupswitch.offset [(3, 26), (4, 38)] 56 x.toInt = 56 := by
  have e3 : ¬ (3 : Int) = x.toInt := fun h => h3 (Int32.toInt_inj.mp h.symm)
  have e4 : ¬ (4 : Int) = x.toInt := fun h => h4 (Int32.toInt_inj.mp h.symm)
  simp [Op.lookupswitch.offset, e3, e4, Ne.symm e3, Ne.symm e4]
theorem zTp_07 {l : Int32} (h : ∃ N : Nat, N ≤ 120 ∧ l = nI N) : zTp l 0 := by
  obtain ⟨N, h1, h2⟩ := h
  exact ⟨N, 0, h1, Nat.zero_le _, h2, rfl⟩
theorem zmn60 {x : Int32} {n : Nat} (h : ∃ N : Nat, N ≤ 60 ∧ x = nI N ∧ 61 ≤ N + (n + 1)) (c : ¬ (60 : Int32) ≤ x) : ∃ N : Nat, N ≤ 60 ∧ x + 1 = nI N ∧ 61 ≤ N + n := by
  obtain ⟨N, h1, rfl, h3⟩ := h
  rw [show (60 : Int32) = nI 60 from rfl, nI_leI (by decide) (by omega)] at c
  exact ⟨N + 1, by omega, nI_1 N, by omega⟩

theorem in_X7_readFigure_7 : ∀ w ∈ u_ws RX7 TX7 10, w ∈ wsX7_readFigure := by decide +kernel
def rmX7_readFigure : Room := { frames := 1, cells := 0, slots := 0, locals := 20 }
set_option maxHeartbeats 4000000 in
set_option maxRecDepth 100000 in
theorem c_X7_readFigure (l : Launch) (G : zG) (awd : Nat → Nat) (bwd : S7) (hw_wd_at : zTp (g7_length bwd) (g7_at bwd)) (T : Int32 × (Int32)) (hT : FX7_readFigure (g7_tape bwd) (g7_length bwd) (g7_at bwd) = T) : zI l yX7_readFigure wsX7_readFigure rmX7_readFigure .int G [.ref (awd 0)] [w7 G awd bwd] T.1 [w7 G awd (s7_at bwd T.2)] := by
  refine zI.mk (cc := cX7_readFigure) (maxL := 2) (by decide +kernel) rfl (Nat.le_of_ble_eq_true rfl) (zfl_cons (wf7 _ _ _ _) rfl) ?_
  intro p e s m args below meth c Q A ls S hK hD hA hP hl hret
  have hx := S.1
  have hb := S.2.1
  have hS : va_S A s.heap s.heap [] := va_S.rf
  have hl : lv_has ls 2 [(0, .ref (awd 0))] := hl
  have hE := hT.symm.trans (FX7_readFigure.eq_1 _ _ _)
  refine lv_aload_n hx hb dX7_readFigure_0 rfl (lv_at hl 0 rfl) ?_
  obtain ⟨t1, ht1⟩ : ∃ z, FX7_next (g7_tape bwd) (g7_length bwd) (g7_at bwd) = z := ⟨_, rfl⟩
  have hE := hE.trans (bnd_eq ht1)
  have hc := c_X7_next l G awd bwd (hw_wd_at) _ ht1
  refine zgoR (va_runV (As := []) (rest := []) S (hc _) (cwV 0 S.2.2.2.2 gX7_readFigure_X7_next rfl rfl rfl (by decide +kernel) ⟨Nat.le_of_ble_eq_true rfl, Nat.le_of_ble_eq_true rfl⟩) (zpV hK hP hD (is := [0]) rfl rfl 0 rfl rfl (ci := 7) rfl) rfl rfl hl.1 rfl (lv_room (Nat.le_of_ble_eq_true rfl)) dX7_readFigure_1 ⟨Nat.zero_le _, Nat.zero_le _⟩) (fun hn1 => ?_)
  refine lv_istore_n (lv' := [(1, .int t1), (0, .ref (awd 0))]) hx hb dX7_readFigure_4 rfl hl (by decide) rfl (fun ls hl => ?_)
  refine lv_iload_n hx hb dX7_readFigure_5 rfl (lv_at hl 0 rfl) ?_
  obtain ⟨t6, ht6⟩ : ∃ z, FX7_isFigure t1 = z := ⟨_, rfl⟩
  have hE := hE.trans (bnd_eq ht6)
  have hc := c_X7_isFigure l G t1 _ ht6
  refine zgoR (va_runS (As := [.int t1]) (rest := []) S (hc _) (va_cwS 1 S.2.2.2.2 gX7_readFigure_X7_isFigure rfl rfl rfl (by decide +kernel) ⟨Nat.le_of_ble_eq_true rfl, Nat.le_of_ble_eq_true rfl⟩) (zpS hK hP hD (is := []) rfl rfl) rfl rfl hl.1 rfl (lv_room (Nat.le_of_ble_eq_true rfl)) dX7_readFigure_6 ⟨Nat.zero_le _, Nat.zero_le _⟩) (fun hn6 => ?_)
  refine lv_if_ne (tgt := 14) hx hb dX7_readFigure_9 (by decide) (fun c9 => ?_) (fun c9 => ?_)
  · have hE := hE.trans (if_neg c9)
    refine lv_aload_n hx hb dX7_readFigure_14 rfl (lv_at hl 1 rfl) ?_
    refine lv_dup hx hb dX7_readFigure_15 rfl ?_
    refine zg7_at S in_X7_readFigure_7 hK hP 0 rfl (List.mem_of_getElem? (i := 1) rfl) (v := (g7_at bwd)) rfl dX7_readFigure_16 ?_
    refine lv_iconst (v := 1) hx hb dX7_readFigure_19 (by decide) ?_
    refine lv_iadd hx hb dX7_readFigure_20 ?_
    refine zp7_at (bs1 := [w7 G awd (s7_at bwd ((g7_at bwd) + 1))]) S in_X7_readFigure_7 hK hP hD hS 0 rfl (List.mem_of_getElem? (i := 1) rfl) dX7_readFigure_21 rfl (fun H locs hP hD hS => ?_)
    refine lv_iload_n hx hb dX7_readFigure_24 rfl (lv_at hl 0 rfl) ?_
    refine lv_bipush (v := 48) hx hb dX7_readFigure_25 (by decide) ?_
    refine lv_isub hx hb dX7_readFigure_27 ?_
    exact hret _ _ _ _ _ _ (by subst hE; rfl) rfl hP hS dX7_readFigure_28
  · have hE := hE.trans (if_pos c9)
    refine lv_iconst (v := (-1)) hx hb dX7_readFigure_12 (by decide) ?_
    rw [show bwd = (s7_at bwd (g7_at bwd)) from ((se7_at _).symm)] at hP hD
    exact hret _ _ _ _ _ _ (by subst hE; rfl) rfl hP hS dX7_readFigure_13

theorem zTp_readFigure {t : Nat → Int32} {l q : Int32} (h : zTp l q) : zTp l (FX7_readFigure t l q).2 := by
  simp only [FX7_readFigure, bndy]
  repeat' split
  all_goals first | with_reducible exact h | with_reducible exact zTp_s h (znx0 (zfig0 (by assumption))) | exact h | exact zTp_s h (znx0 (zfig0 (by assumption)))

def rmX7_readNumber : Room := { frames := 2, cells := 0, slots := 0, locals := 41 }
set_option maxHeartbeats 4000000 in
set_option maxRecDepth 100000 in
theorem c_X7_readNumber (l : Launch) (G : zG) (awd : Nat → Nat) (bwd : S7) (hw_wd_at : zTp (g7_length bwd) (g7_at bwd)) (T : Int32 × (Int32)) (hT : FX7_readNumber (g7_tape bwd) (g7_length bwd) (g7_at bwd) = T) : zI l yX7_readNumber wsX7_readNumber rmX7_readNumber .int G [.ref (awd 0)] [w7 G awd bwd] T.1 [w7 G awd (s7_at bwd T.2)] := by
  refine zI.mk (cc := cX7_readNumber) (maxL := 2) (by decide +kernel) rfl (Nat.le_of_ble_eq_true rfl) (zfl_cons (wf7 _ _ _ _) rfl) ?_
  intro p e s m args below meth c Q A ls S hK hD hA hP hl hret
  have hx := S.1
  have hb := S.2.1
  have hS : va_S A s.heap s.heap [] := va_S.rf
  have hl : lv_has ls 2 [(0, .ref (awd 0))] := hl
  have hE := hT.symm.trans (FX7_readNumber.eq_1 _ _ _)
  refine lv_aload_n hx hb dX7_readNumber_0 rfl (lv_at hl 0 rfl) ?_
  obtain ⟨t1, ht1⟩ : ∃ z, FX7_readFigure (g7_tape bwd) (g7_length bwd) (g7_at bwd) = z := ⟨_, rfl⟩
  have hE := hE.trans (bnd_eq ht1)
  have hc := c_X7_readFigure l G awd bwd (hw_wd_at) _ ht1
  refine zgoI (bs' := [w7 G awd (s7_at bwd t1.2)]) hc [0] rfl rfl rfl hP hD hS hA (va_runV (As := []) (rest := []) S (hc.2 _) (cwV 0 S.2.2.2.2 gX7_readNumber_X7_readFigure rfl rfl rfl (by decide +kernel) ⟨Nat.le_of_ble_eq_true rfl, Nat.le_of_ble_eq_true rfl⟩) (zpV hK hP hD (is := [0]) rfl rfl 0 rfl rfl (ci := 7) rfl) rfl rfl hl.1 rfl (lv_room (Nat.le_of_ble_eq_true rfl)) dX7_readNumber_1 ⟨Nat.zero_le _, Nat.zero_le _⟩) (fun H locs hn1 hP hD hS => ?_)
  have hw_wd_at_1 : zTp (g7_length bwd) (t1.2) := by rw [← ht1]; exact zTp_readFigure hw_wd_at
  refine lv_istore_n (lv' := [(1, .int t1.1), (0, .ref (awd 0))]) hx hb dX7_readNumber_4 rfl hl (by decide) rfl (fun ls hl => ?_)
  refine lv_iload_n hx hb dX7_readNumber_5 rfl (lv_at hl 0 rfl) ?_
  refine lv_iconst (v := (-1)) hx hb dX7_readNumber_6 (by decide) ?_
  refine lv_icmp_eq (tgt := 20) hx hb dX7_readNumber_7 (by decide) (fun c7 => ?_) (fun c7 => ?_)
  · have hE := hE.trans (if_pos c7)
    refine lv_iload_n hx hb dX7_readNumber_20 rfl (lv_at hl 0 rfl) ?_
    exact hret _ _ _ _ _ _ (by subst hE; rfl) rfl hP hS dX7_readNumber_21
  · have hE := hE.trans (if_neg c7)
    refine lv_aload_n hx hb dX7_readNumber_10 rfl (lv_at hl 1 rfl) ?_
    obtain ⟨t11, ht11⟩ : ∃ z, FX7_next (g7_tape bwd) (g7_length bwd) t1.2 = z := ⟨_, rfl⟩
    have hE := hE.trans (bnd_eq ht11)
    have hc := c_X7_next l G awd (s7_at bwd t1.2) (hw_wd_at_1) _ (by simp only [gs7_tape_at, gs7_length_at, gg7_at]; exact ht11)
    refine zgoR (va_runV (As := []) (rest := []) S (hc _) (cwV 0 S.2.2.2.2 gX7_readNumber_X7_next rfl rfl rfl (by decide +kernel) ⟨Nat.le_of_ble_eq_true rfl, Nat.le_of_ble_eq_true rfl⟩) (zpV hK hP hD (is := [0]) rfl rfl 0 rfl rfl (ci := 7) rfl) rfl rfl hl.1 rfl (lv_room (Nat.le_of_ble_eq_true rfl)) dX7_readNumber_11 ⟨Nat.zero_le _, Nat.zero_le _⟩) (fun hn11 => ?_)
    obtain ⟨t14, ht14⟩ : ∃ z, FX7_isFigure t11 = z := ⟨_, rfl⟩
    have hE := hE.trans (bnd_eq ht14)
    have hc := c_X7_isFigure l G t11 _ ht14
    refine zgoR (va_runS (As := [.int t11]) (rest := []) S (hc _) (va_cwS 1 S.2.2.2.2 gX7_readNumber_X7_isFigure rfl rfl rfl (by decide +kernel) ⟨Nat.le_of_ble_eq_true rfl, Nat.le_of_ble_eq_true rfl⟩) (zpS hK hP hD (is := []) rfl rfl) rfl rfl hl.1 rfl (lv_room (Nat.le_of_ble_eq_true rfl)) dX7_readNumber_14 ⟨Nat.zero_le _, Nat.zero_le _⟩) (fun hn14 => ?_)
    refine lv_if_ne (tgt := 22) hx hb dX7_readNumber_17 (by decide) (fun c17 => ?_) (fun c17 => ?_)
    · have hE := hE.trans (if_neg c17)
      refine lv_bipush (v := 10) hx hb dX7_readNumber_22 (by decide) ?_
      refine lv_iload_n hx hb dX7_readNumber_24 rfl (lv_at hl 0 rfl) ?_
      refine lv_imul hx hb dX7_readNumber_25 ?_
      refine lv_aload_n hx hb dX7_readNumber_26 rfl (lv_at hl 1 rfl) ?_
      obtain ⟨t27, ht27⟩ : ∃ z, FX7_readFigure (g7_tape bwd) (g7_length bwd) t1.2 = z := ⟨_, rfl⟩
      have hE := hE.trans (bnd_eq ht27)
      have hc := c_X7_readFigure l G awd (s7_at bwd t1.2) (hw_wd_at_1) _ (by simp only [gs7_tape_at, gs7_length_at, gg7_at]; exact ht27)
      refine zgoI (bs' := [w7 G awd (s7_at (s7_at bwd t1.2) t27.2)]) hc [0] rfl rfl rfl hP hD hS hA (va_runV (As := []) (rest := [.int (10 * t1.1)]) S (hc.2 _) (cwV 0 S.2.2.2.2 gX7_readNumber_X7_readFigure rfl rfl rfl (by decide +kernel) ⟨Nat.le_of_ble_eq_true rfl, Nat.le_of_ble_eq_true rfl⟩) (zpV hK hP hD (is := [0]) rfl rfl 0 rfl rfl (ci := 7) rfl) rfl rfl hl.1 rfl (lv_room (Nat.le_of_ble_eq_true rfl)) dX7_readNumber_27 ⟨Nat.zero_le _, Nat.zero_le _⟩) (fun H locs hn27 hP hD hS => ?_)
      have hw_wd_at_27 : zTp (g7_length bwd) (t27.2) := by rw [← ht27]; exact zTp_readFigure hw_wd_at_1
      refine lv_iadd hx hb dX7_readNumber_30 ?_
      rw [show (s7_at (s7_at bwd t1.2) t27.2) = (s7_at bwd t27.2) from (ss7_at _ t1.2 t27.2)] at hP hD
      exact hret _ _ _ _ _ _ (by subst hE; rfl) rfl hP hS dX7_readNumber_31
    · have hE := hE.trans (if_pos c17)
      refine lv_iload_n hx hb dX7_readNumber_20 rfl (lv_at hl 0 rfl) ?_
      exact hret _ _ _ _ _ _ (by subst hE; rfl) rfl hP hS dX7_readNumber_21

theorem zTp_readNumber {t : Nat → Int32} {l q : Int32} (h : zTp l q) : zTp l (FX7_readNumber t l q).2 := by
  simp only [FX7_readNumber, bndy]
  have h1 := zTp_readFigure (t := t) h
  have h2 := zTp_readFigure (t := t) h1
  repeat' split
  all_goals first | with_reducible exact h1 | with_reducible exact h2 | exact h1 | exact h2

theorem in_X7_readPair_7 : ∀ w ∈ u_ws RX7 TX7 10, w ∈ wsX7_readPair := by decide +kernel
def rmX7_readPair : Room := { frames := 3, cells := 0, slots := 0, locals := 62 }
set_option maxHeartbeats 4000000 in
set_option maxRecDepth 100000 in
theorem c_X7_readPair (l : Launch) (G : zG) (awd : Nat → Nat) (bwd : S7) (hw_wd_at : zTp (g7_length bwd) (g7_at bwd)) (hi_wd_told : vp_in (g7_told bwd) 60) (T : Int32 × (Nat → Int32) × (Nat → Int32) × (Nat → Int32) × (Int32)) (hT : FX7_readPair (g7_tape bwd) (g7_sort bwd) (g7_head bwd) (g7_body bwd) (g7_length bwd) (g7_at bwd) (g7_told bwd) = T) : zI l yX7_readPair wsX7_readPair rmX7_readPair .boolean G [.ref (awd 0)] [w7 G awd bwd] T.1 [w7 G awd (s7_at (s7_body (s7_head (s7_sort bwd T.2.1) T.2.2.1) T.2.2.2.1) T.2.2.2.2)] := by
  refine zI.mk (cc := cX7_readPair) (maxL := 1) (by decide +kernel) rfl (Nat.le_of_ble_eq_true rfl) (zfl_cons (wf7 _ _ _ _) rfl) ?_
  intro p e s m args below meth c Q A ls S hK hD hA hP hl hret
  have hx := S.1
  have hb := S.2.1
  have hS : va_S A s.heap s.heap [] := va_S.rf
  have hl : lv_has ls 1 [(0, .ref (awd 0))] := hl
  have hE := hT.symm.trans (FX7_readPair.eq_1 _ _ _ _ _ _ _)
  refine lv_aload_n hx hb dX7_readPair_0 rfl (lv_at hl 0 rfl) ?_
  refine zg7_sort S in_X7_readPair_7 hK hP 0 rfl (List.mem_of_getElem? (i := 1) rfl) dX7_readPair_1 ?_
  refine lv_aload_n hx hb dX7_readPair_4 rfl (lv_at hl 0 rfl) ?_
  refine zg7_told S in_X7_readPair_7 hK hP 0 rfl (List.mem_of_getElem? (i := 2) rfl) (v := (g7_told bwd)) rfl dX7_readPair_5 ?_
  refine lv_iconst (v := 4) hx hb dX7_readPair_8 (by decide) ?_
  refine zs7_sort (bs1 := [w7 G awd (s7_sort bwd (upd (g7_sort bwd) (g7_told bwd).toNatClampNeg 4))]) S hK hP hD hS 0 rfl hi_wd_told (f := (g7_sort bwd)) rfl dX7_readPair_9 rfl (fun H locs hP hD hS => ?_)
  obtain ⟨u9, hu9⟩ : ∃ z, upd (g7_sort bwd) (g7_told bwd).toNatClampNeg 4 = z := ⟨_, rfl⟩
  rw [hu9] at hP hD
  have hE := hE.trans (bnd_eq hu9)
  refine lv_aload_n hx hb dX7_readPair_10 rfl (lv_at hl 0 rfl) ?_
  refine zg7_head S in_X7_readPair_7 hK hP 0 rfl (List.mem_of_getElem? (i := 3) rfl) dX7_readPair_11 ?_
  refine lv_aload_n hx hb dX7_readPair_14 rfl (lv_at hl 0 rfl) ?_
  refine zg7_told S in_X7_readPair_7 hK hP 0 rfl (List.mem_of_getElem? (i := 2) rfl) (v := (g7_told bwd)) (gs7_told_sort _ u9) dX7_readPair_15 ?_
  refine lv_aload_n hx hb dX7_readPair_18 rfl (lv_at hl 0 rfl) ?_
  obtain ⟨t19, ht19⟩ : ∃ z, FX7_readNumber (g7_tape bwd) (g7_length bwd) (g7_at bwd) = z := ⟨_, rfl⟩
  have hE := hE.trans (bnd_eq ht19)
  have hc := c_X7_readNumber l G awd (s7_sort bwd u9) (hw_wd_at) _ (by simp only [gs7_tape_sort, gs7_length_sort, gs7_at_sort]; exact ht19)
  refine zgoI (bs' := [w7 G awd (s7_at (s7_sort bwd u9) t19.2)]) hc [0] rfl rfl rfl hP hD hS hA (va_runV (As := []) (rest := [.int (g7_told bwd), .ref (awd 3)]) S (hc.2 _) (cwV 0 S.2.2.2.2 gX7_readPair_X7_readNumber rfl rfl rfl (by decide +kernel) ⟨Nat.le_of_ble_eq_true rfl, Nat.le_of_ble_eq_true rfl⟩) (zpV hK hP hD (is := [0]) rfl rfl 0 rfl rfl (ci := 7) rfl) rfl rfl hl.1 rfl (lv_room (Nat.le_of_ble_eq_true rfl)) dX7_readPair_19 ⟨Nat.zero_le _, Nat.zero_le _⟩) (fun H locs hn19 hP hD hS => ?_)
  have hw_wd_at_19 : zTp (g7_length bwd) (t19.2) := by rw [← ht19]; exact zTp_readNumber hw_wd_at
  refine zs7_head (bs1 := [w7 G awd (s7_head (s7_at (s7_sort bwd u9) t19.2) (upd (g7_head bwd) (g7_told bwd).toNatClampNeg t19.1))]) S hK hP hD hS 0 rfl hi_wd_told (f := (g7_head bwd)) ((gs7_head_at _ t19.2).trans (gs7_head_sort _ u9)) dX7_readPair_22 rfl (fun H locs hP hD hS => ?_)
  obtain ⟨u22, hu22⟩ : ∃ z, upd (g7_head bwd) (g7_told bwd).toNatClampNeg t19.1 = z := ⟨_, rfl⟩
  rw [hu22] at hP hD
  have hE := hE.trans (bnd_eq hu22)
  refine lv_aload_n hx hb dX7_readPair_23 rfl (lv_at hl 0 rfl) ?_
  refine lv_bipush (v := 62) hx hb dX7_readPair_24 (by decide) ?_
  obtain ⟨t26, ht26⟩ : ∃ z, FX7_take (g7_tape bwd) (g7_length bwd) t19.2 62 = z := ⟨_, rfl⟩
  have hE := hE.trans (bnd_eq ht26)
  have hc := c_X7_take l G awd (s7_head (s7_at (s7_sort bwd u9) t19.2) u22) 62 (hw_wd_at_19) _ (by simp only [gs7_tape_head, gs7_tape_at, gs7_tape_sort, gs7_length_head, gs7_length_at, gs7_length_sort, gs7_at_head, gg7_at]; exact ht26)
  refine zgoI (bs' := [w7 G awd (s7_at (s7_head (s7_at (s7_sort bwd u9) t19.2) u22) t26.2)]) hc [0] rfl rfl rfl hP hD hS hA (va_runV (As := [.int 62]) (rest := []) S (hc.2 _) (cwV 1 S.2.2.2.2 gX7_readPair_X7_take rfl rfl rfl (by decide +kernel) ⟨Nat.le_of_ble_eq_true rfl, Nat.le_of_ble_eq_true rfl⟩) (zpV hK hP hD (is := [0]) rfl rfl 0 rfl rfl (ci := 7) rfl) rfl rfl hl.1 rfl (lv_room (Nat.le_of_ble_eq_true rfl)) dX7_readPair_26 ⟨Nat.zero_le _, Nat.zero_le _⟩) (fun H locs hn26 hP hD hS => ?_)
  have hw_wd_at_26 : zTp (g7_length bwd) (t26.2) := by rw [← ht26]; exact zTp_take hw_wd_at_19
  refine lv_if_ne (tgt := 34) hx hb dX7_readPair_29 (by decide) (fun c29 => ?_) (fun c29 => ?_)
  · have hE := hE.trans (if_neg c29)
    refine lv_aload_n hx hb dX7_readPair_34 rfl (lv_at hl 0 rfl) ?_
    refine zg7_body S in_X7_readPair_7 hK hP 0 rfl (List.mem_of_getElem? (i := 4) rfl) dX7_readPair_35 ?_
    refine lv_aload_n hx hb dX7_readPair_38 rfl (lv_at hl 0 rfl) ?_
    refine zg7_told S in_X7_readPair_7 hK hP 0 rfl (List.mem_of_getElem? (i := 2) rfl) (v := (g7_told bwd)) ((gs7_told_at _ t26.2).trans ((gs7_told_head _ u22).trans ((gs7_told_at _ t19.2).trans (gs7_told_sort _ u9)))) dX7_readPair_39 ?_
    refine lv_aload_n hx hb dX7_readPair_42 rfl (lv_at hl 0 rfl) ?_
    obtain ⟨t43, ht43⟩ : ∃ z, FX7_readNumber (g7_tape bwd) (g7_length bwd) t26.2 = z := ⟨_, rfl⟩
    have hE := hE.trans (bnd_eq ht43)
    have hc := c_X7_readNumber l G awd (s7_at (s7_head (s7_at (s7_sort bwd u9) t19.2) u22) t26.2) (hw_wd_at_26) _ (by simp only [gs7_tape_at, gs7_tape_head, gs7_tape_sort, gs7_length_at, gs7_length_head, gs7_length_sort, gg7_at]; exact ht43)
    refine zgoI (bs' := [w7 G awd (s7_at (s7_at (s7_head (s7_at (s7_sort bwd u9) t19.2) u22) t26.2) t43.2)]) hc [0] rfl rfl rfl hP hD hS hA (va_runV (As := []) (rest := [.int (g7_told bwd), .ref (awd 4)]) S (hc.2 _) (cwV 0 S.2.2.2.2 gX7_readPair_X7_readNumber rfl rfl rfl (by decide +kernel) ⟨Nat.le_of_ble_eq_true rfl, Nat.le_of_ble_eq_true rfl⟩) (zpV hK hP hD (is := [0]) rfl rfl 0 rfl rfl (ci := 7) rfl) rfl rfl hl.1 rfl (lv_room (Nat.le_of_ble_eq_true rfl)) dX7_readPair_43 ⟨Nat.zero_le _, Nat.zero_le _⟩) (fun H locs hn43 hP hD hS => ?_)
    have hw_wd_at_43 : zTp (g7_length bwd) (t43.2) := by rw [← ht43]; exact zTp_readNumber hw_wd_at_26
    refine zs7_body (bs1 := [w7 G awd (s7_body (s7_at (s7_at (s7_head (s7_at (s7_sort bwd u9) t19.2) u22) t26.2) t43.2) (upd (g7_body bwd) (g7_told bwd).toNatClampNeg t43.1))]) S hK hP hD hS 0 rfl hi_wd_told (f := (g7_body bwd)) ((gs7_body_at _ t43.2).trans ((gs7_body_at _ t26.2).trans ((gs7_body_head _ u22).trans ((gs7_body_at _ t19.2).trans (gs7_body_sort _ u9))))) dX7_readPair_46 rfl (fun H locs hP hD hS => ?_)
    obtain ⟨u46, hu46⟩ : ∃ z, upd (g7_body bwd) (g7_told bwd).toNatClampNeg t43.1 = z := ⟨_, rfl⟩
    rw [hu46] at hP hD
    have hE := hE.trans (bnd_eq hu46)
    refine lv_aload_n hx hb dX7_readPair_47 rfl (lv_at hl 0 rfl) ?_
    refine zg7_body S in_X7_readPair_7 hK hP 0 rfl (List.mem_of_getElem? (i := 4) rfl) dX7_readPair_48 ?_
    refine lv_aload_n hx hb dX7_readPair_51 rfl (lv_at hl 0 rfl) ?_
    refine zg7_told S in_X7_readPair_7 hK hP 0 rfl (List.mem_of_getElem? (i := 2) rfl) (v := (g7_told bwd)) ((gs7_told_body _ u46).trans ((gs7_told_at _ t43.2).trans ((gs7_told_at _ t26.2).trans ((gs7_told_head _ u22).trans ((gs7_told_at _ t19.2).trans (gs7_told_sort _ u9)))))) dX7_readPair_52 ?_
    refine zl7_body S hK hP 0 rfl hi_wd_told (f := u46) (gg7_body _ u46) dX7_readPair_55 ?_
    refine lv_iconst (v := (-1)) hx hb dX7_readPair_56 (by decide) ?_
    refine lv_icmp_eq (tgt := 64) hx hb dX7_readPair_57 (by decide) (fun c57 => ?_) (fun c57 => ?_)
    · have hE := hE.trans (if_pos c57)
      refine lv_iconst (v := 0) hx hb dX7_readPair_64 (by decide) ?_
      rw [show (s7_body (s7_at (s7_at (s7_head (s7_at (s7_sort bwd u9) t19.2) u22) t26.2) t43.2) u46) = (s7_at (s7_body (s7_head (s7_sort bwd u9) u22) u46) t43.2) from ((congrArg (fun z => s7_body z u46) ((congrArg (fun z => s7_at z t43.2) ((congrArg (fun z => s7_at z t26.2) (cm7_head_at _ t19.2 u22)).trans (ss7_at _ t19.2 t26.2))).trans (ss7_at _ t26.2 t43.2))).trans (cm7_body_at _ t43.2 u46))] at hP hD
      exact hret _ _ _ _ _ _ (by subst hE; rfl) zn0 hP hS dX7_readPair_65
    · have hE := hE.trans (if_neg c57)
      refine lv_iconst (v := 1) hx hb dX7_readPair_60 (by decide) ?_
      refine lv_goto (tgt := 65) hx hb dX7_readPair_61 (by decide) ?_
      rw [show (s7_body (s7_at (s7_at (s7_head (s7_at (s7_sort bwd u9) t19.2) u22) t26.2) t43.2) u46) = (s7_at (s7_body (s7_head (s7_sort bwd u9) u22) u46) t43.2) from ((congrArg (fun z => s7_body z u46) ((congrArg (fun z => s7_at z t43.2) ((congrArg (fun z => s7_at z t26.2) (cm7_head_at _ t19.2 u22)).trans (ss7_at _ t19.2 t26.2))).trans (ss7_at _ t26.2 t43.2))).trans (cm7_body_at _ t43.2 u46))] at hP hD
      exact hret _ _ _ _ _ _ (by subst hE; rfl) zn1 hP hS dX7_readPair_65
  · have hE := hE.trans (if_pos c29)
    refine lv_iconst (v := 0) hx hb dX7_readPair_32 (by decide) ?_
    rw [show (s7_at (s7_head (s7_at (s7_sort bwd u9) t19.2) u22) t26.2) = (s7_at (s7_body (s7_head (s7_sort bwd u9) u22) (g7_body bwd)) t26.2) from (((congrArg (fun z => s7_at z t26.2) (cm7_head_at _ t19.2 u22)).trans (ss7_at _ t19.2 t26.2)).trans (congrArg (fun z => s7_at z t26.2) (((se7_body _).symm).trans (congrArg (fun v => s7_body (s7_head (s7_sort bwd u9) u22) v) ((gs7_body_head _ u22).trans (gs7_body_sort _ u9))))))] at hP hD
    exact hret _ _ _ _ _ _ (by subst hE; rfl) zn0 hP hS dX7_readPair_33

theorem zTp_readPair {t a b c : Nat → Int32} {l q o : Int32} (h : zTp l q) : zTp l (FX7_readPair t a b c l q o).2.2.2.2 := by
  simp only [FX7_readPair, bndy]
  repeat' split
  all_goals (try dsimp only)
  all_goals (repeat (first | with_reducible exact h | with_reducible apply zTp_take | with_reducible apply zTp_readLiterals | with_reducible apply zTp_readLiteral | with_reducible apply zTp_readFigure | with_reducible apply zTp_readArrow | with_reducible apply zTp_readNumber | with_reducible apply zTp_readFact | with_reducible apply zTp_readPair | with_reducible apply zTp_readRule))

theorem in_X7_startsWithArrow_7 : ∀ w ∈ u_ws RX7 TX7 10, w ∈ wsX7_startsWithArrow := by decide +kernel
def rmX7_startsWithArrow : Room := { frames := 1, cells := 0, slots := 0, locals := 20 }
set_option maxHeartbeats 4000000 in
set_option maxRecDepth 100000 in
theorem c_X7_startsWithArrow (l : Launch) (G : zG) (awd : Nat → Nat) (bwd : S7) (hw_wd_at : zTp (g7_length bwd) (g7_at bwd)) (T : Int32) (hT : FX7_startsWithArrow (g7_tape bwd) (g7_length bwd) (g7_at bwd) = T) : zR l yX7_startsWithArrow wsX7_startsWithArrow rmX7_startsWithArrow .boolean G [.ref (awd 0)] [w7 G awd bwd] T := by
  refine zR.mk (cc := cX7_startsWithArrow) (maxL := 2) (by decide +kernel) rfl (Nat.le_of_ble_eq_true rfl) ?_
  intro p e s m args below meth c Q A ls S hK hD hA hP hl hret
  have hx := S.1
  have hb := S.2.1
  have hl : lv_has ls 2 [(0, .ref (awd 0))] := hl
  have hE := hT.symm.trans (FX7_startsWithArrow.eq_1 _ _ _)
  refine lv_aload_n hx hb dX7_startsWithArrow_0 rfl (lv_at hl 0 rfl) ?_
  obtain ⟨t1, ht1⟩ : ∃ z, FX7_next (g7_tape bwd) (g7_length bwd) (g7_at bwd) = z := ⟨_, rfl⟩
  have hE := hE.trans (bnd_eq ht1)
  have hc := c_X7_next l G awd bwd (hw_wd_at) _ ht1
  refine zgoR (va_runV (As := []) (rest := []) S (hc _) (cwV 0 S.2.2.2.2 gX7_startsWithArrow_X7_next rfl rfl rfl (by decide +kernel) ⟨Nat.le_of_ble_eq_true rfl, Nat.le_of_ble_eq_true rfl⟩) (zpV hK hP hD (is := [0]) rfl rfl 0 rfl rfl (ci := 7) rfl) rfl rfl hl.1 rfl (lv_room (Nat.le_of_ble_eq_true rfl)) dX7_startsWithArrow_1 ⟨Nat.zero_le _, Nat.zero_le _⟩) (fun hn1 => ?_)
  refine lv_istore_n (lv' := [(1, .int t1), (0, .ref (awd 0))]) hx hb dX7_startsWithArrow_4 rfl hl (by decide) rfl (fun ls hl => ?_)
  refine lv_iload_n hx hb dX7_startsWithArrow_5 rfl (lv_at hl 0 rfl) ?_
  refine lv_bipush (v := 126) hx hb dX7_startsWithArrow_6 (by decide) ?_
  refine lv_icmp_ne (tgt := 46) hx hb dX7_startsWithArrow_8 (by decide) (fun c8 => ?_) (fun c8 => ?_)
  · have hE := hE.trans (if_neg c8)
    refine lv_iload_n hx hb dX7_startsWithArrow_46 rfl (lv_at hl 0 rfl) ?_
    refine lv_bipush (v := 45) hx hb dX7_startsWithArrow_47 (by decide) ?_
    refine lv_icmp_eq (tgt := 58) hx hb dX7_startsWithArrow_49 (by decide) (fun c49 => ?_) (fun c49 => ?_)
    · have hE := hE.trans (if_pos c49)
      refine lv_iconst (v := 1) hx hb dX7_startsWithArrow_58 (by decide) ?_
      refine lv_goto (tgt := 63) hx hb dX7_startsWithArrow_59 (by decide) ?_
      exact hret _ _ _ hE zn1 dX7_startsWithArrow_63
    · have hE := hE.trans (if_neg c49)
      refine lv_iload_n hx hb dX7_startsWithArrow_52 rfl (lv_at hl 0 rfl) ?_
      refine lv_bipush (v := 61) hx hb dX7_startsWithArrow_53 (by decide) ?_
      refine lv_icmp_ne (tgt := 62) hx hb dX7_startsWithArrow_55 (by decide) (fun c55 => ?_) (fun c55 => ?_)
      · have hE := hE.trans (if_neg c55)
        refine lv_iconst (v := 0) hx hb dX7_startsWithArrow_62 (by decide) ?_
        exact hret _ _ _ hE zn0 dX7_startsWithArrow_63
      · have hE := hE.trans (if_pos c55)
        refine lv_iconst (v := 1) hx hb dX7_startsWithArrow_58 (by decide) ?_
        refine lv_goto (tgt := 63) hx hb dX7_startsWithArrow_59 (by decide) ?_
        exact hret _ _ _ hE zn1 dX7_startsWithArrow_63
  · have hE := hE.trans (if_pos c8)
    refine lv_aload_n hx hb dX7_startsWithArrow_11 rfl (lv_at hl 1 rfl) ?_
    refine zg7_at S in_X7_startsWithArrow_7 hK hP 0 rfl (List.mem_of_getElem? (i := 1) rfl) (v := (g7_at bwd)) rfl dX7_startsWithArrow_12 ?_
    refine lv_iconst (v := 1) hx hb dX7_startsWithArrow_15 (by decide) ?_
    refine lv_iadd hx hb dX7_startsWithArrow_16 ?_
    refine lv_aload_n hx hb dX7_startsWithArrow_17 rfl (lv_at hl 1 rfl) ?_
    refine zg7_length S in_X7_startsWithArrow_7 hK hP 0 rfl (List.mem_of_getElem? (i := 2) rfl) (v := (g7_length bwd)) rfl dX7_startsWithArrow_18 ?_
    refine lv_icmp_ge (tgt := 44) hx hb dX7_startsWithArrow_21 (by decide) (fun c21 => ?_) (fun c21 => ?_)
    · have hE := hE.trans (if_pos c21)
      refine lv_iconst (v := 0) hx hb dX7_startsWithArrow_44 (by decide) ?_
      exact hret _ _ _ hE zn0 dX7_startsWithArrow_45
    · have hE := hE.trans (if_neg c21)
      refine lv_aload_n hx hb dX7_startsWithArrow_24 rfl (lv_at hl 1 rfl) ?_
      refine zg7_tape S in_X7_startsWithArrow_7 hK hP 0 rfl (List.mem_of_getElem? (i := 3) rfl) dX7_startsWithArrow_25 ?_
      refine lv_aload_n hx hb dX7_startsWithArrow_28 rfl (lv_at hl 1 rfl) ?_
      refine zg7_at S in_X7_startsWithArrow_7 hK hP 0 rfl (List.mem_of_getElem? (i := 1) rfl) (v := (g7_at bwd)) rfl dX7_startsWithArrow_29 ?_
      refine lv_iconst (v := 1) hx hb dX7_startsWithArrow_32 (by decide) ?_
      refine lv_iadd hx hb dX7_startsWithArrow_33 ?_
      refine zl7_tape S hK hP 0 rfl (zTp_in1 hw_wd_at c21) (f := (g7_tape bwd)) rfl dX7_startsWithArrow_34 ?_
      refine lv_bipush (v := 62) hx hb dX7_startsWithArrow_35 (by decide) ?_
      refine lv_icmp_ne (tgt := 44) hx hb dX7_startsWithArrow_37 (by decide) (fun c37 => ?_) (fun c37 => ?_)
      · have hE := hE.trans (if_neg c37)
        refine lv_iconst (v := 0) hx hb dX7_startsWithArrow_44 (by decide) ?_
        exact hret _ _ _ hE zn0 dX7_startsWithArrow_45
      · have hE := hE.trans (if_pos c37)
        refine lv_iconst (v := 1) hx hb dX7_startsWithArrow_40 (by decide) ?_
        refine lv_goto (tgt := 45) hx hb dX7_startsWithArrow_41 (by decide) ?_
        exact hret _ _ _ hE zn1 dX7_startsWithArrow_45

def rmX7_readLiterals : Room := { frames := 2, cells := 0, slots := 0, locals := 44 }
set_option maxHeartbeats 4000000 in
set_option maxRecDepth 100000 in
theorem c_X7_readLiterals (l : Launch) (G : zG) (awd : Nat → Nat) (bwd : S7) (hw_wd_at : zTp (g7_length bwd) (g7_at bwd)) (T : Int32 × (Int32)) (hT : FX7_readLiterals (g7_tape bwd) (g7_length bwd) (g7_at bwd) = T) : zI l yX7_readLiterals wsX7_readLiterals rmX7_readLiterals .int G [.ref (awd 0)] [w7 G awd bwd] T.1 [w7 G awd (s7_at bwd T.2)] := by
  refine zI.mk (cc := cX7_readLiterals) (maxL := 5) (by decide +kernel) rfl (Nat.le_of_ble_eq_true rfl) (zfl_cons (wf7 _ _ _ _) rfl) ?_
  intro p e s m args below meth c Q A ls S hK hD hA hP hl hret
  have hx := S.1
  have hb := S.2.1
  have hS : va_S A s.heap s.heap [] := va_S.rf
  have hl : lv_has ls 5 [(0, .ref (awd 0))] := hl
  have hE := hT.symm.trans (FX7_readLiterals.eq_1 _ _ _)
  refine lv_iconst (v := 0) hx hb dX7_readLiterals_0 (by decide) ?_
  refine lv_istore_n (lv' := [(1, .int 0), (0, .ref (awd 0))]) hx hb dX7_readLiterals_1 rfl hl (by decide) rfl (fun ls hl => ?_)
  refine lv_iconst (v := 1) hx hb dX7_readLiterals_2 (by decide) ?_
  refine lv_istore_n (lv' := [(2, .int 1), (1, .int 0), (0, .ref (awd 0))]) hx hb dX7_readLiterals_3 rfl hl (by decide) rfl (fun ls hl => ?_)
  refine lv_iconst (v := 0) hx hb dX7_readLiterals_4 (by decide) ?_
  have hB50 : ∀ (x1_50 : Int32) (wd_at_50 : Int32) (H : Heap) (locs : List Loc) (ls : Array Slot), (zTp (g7_length bwd) (wd_at_50)) → T = FX7_readLiterals_50 (g7_tape bwd) (g7_length bwd) (g7_at bwd) x1_50 wd_at_50 → zP G [w7 G awd (s7_at bwd wd_at_50)] H → zD A [w7 G awd (s7_at bwd wd_at_50)] → va_S A s.heap H locs → lv_has ls 5 [(1, .int x1_50)] → W p l e rmX7_readLiterals s m args below meth c H locs 0 0 Q (F0 m 50 ls []) := by
    intro x1_50 wd_at_50 H locs ls hw_wd_at_B50 hE hP hD hS hl
    have hE := hE.trans (FX7_readLiterals_50.eq_1 _ _ _ _ _)
    refine lv_iload_n hx hb dX7_readLiterals_50 rfl (lv_at hl 0 rfl) ?_
    exact hret _ _ _ _ _ _ (by subst hE; rfl) rfl hP hS dX7_readLiterals_51
  have hB6 : ∀ (n6 : Nat) (x1_6 : Int32) (x2_6 : Int32) (i3_6 : Nat) (wd_at_6 : Int32) (H : Heap) (locs : List Loc) (ls : Array Slot), (i3_6 ≤ 120) → (zTp (g7_length bwd) (wd_at_6)) → 121 ≤ i3_6 + n6 → T = FX7_readLiterals_6 (g7_tape bwd) (g7_length bwd) (g7_at bwd) (FX7_readLiterals_50 (g7_tape bwd) (g7_length bwd) (g7_at bwd)) n6 x1_6 x2_6 (nI i3_6) wd_at_6 → zP G [w7 G awd (s7_at bwd wd_at_6)] H → zD A [w7 G awd (s7_at bwd wd_at_6)] → va_S A s.heap H locs → lv_has ls 5 [(0, .ref (awd 0)), (1, .int x1_6), (2, .int x2_6), (3, .int (nI i3_6))] → W p l e rmX7_readLiterals s m args below meth c H locs 0 0 Q (F0 m 6 ls []) := by
    intro n6
    induction n6 with
    | zero =>
      intro x1_6 x2_6 i3_6 wd_at_6 H locs ls hi3_6 hw_wd_at_B6 hn hE hP hD hS hl
      exact absurd hn (by omega)
    | succ n6 ih6 =>
      intro x1_6 x2_6 i3_6 wd_at_6 H locs ls hi3_6 hw_wd_at_B6 hn hE hP hD hS hl
      have hE := hE.trans (FX7_readLiterals_6.eq_2 _ _ _ _ _ _ _ _ _)
      refine lv_iload_n hx hb dX7_readLiterals_6 rfl (lv_at hl 3 rfl) ?_
      refine lv_bipush (v := 120) hx hb dX7_readLiterals_7 (by decide) ?_
      refine lv_icmp_ge (tgt := 50) hx hb dX7_readLiterals_9 (by decide) (fun c9 => ?_) (fun c9 => ?_)
      · have hE := hE.trans (if_pos c9)
        exact hB50 x1_6 wd_at_6 _ _ _ (by exact hw_wd_at_B6) hE hP hD hS (lv_sub hl [1] rfl)
      · have hE := hE.trans (if_neg c9)
        have hl3_6 : i3_6 < 120 := zlt (N := 120) rfl (by omega) (by omega) c9
        refine lv_iload_n hx hb dX7_readLiterals_12 rfl (lv_at hl 2 rfl) ?_
        refine lv_if_eq (tgt := 50) hx hb dX7_readLiterals_13 (by decide) (fun c13 => ?_) (fun c13 => ?_)
        · have hE := hE.trans (if_pos c13)
          exact hB50 x1_6 wd_at_6 _ _ _ (by exact hw_wd_at_B6) hE hP hD hS (lv_sub hl [1] rfl)
        · have hE := hE.trans (if_neg c13)
          refine lv_aload_n hx hb dX7_readLiterals_16 rfl (lv_at hl 0 rfl) ?_
          obtain ⟨t17, ht17⟩ : ∃ z, FX7_readLiteral (g7_tape bwd) (g7_length bwd) wd_at_6 = z := ⟨_, rfl⟩
          have hE := hE.trans (bnd_eq ht17)
          have hc := c_X7_readLiteral l G awd (s7_at bwd wd_at_6) (hw_wd_at_B6) _ (by simp only [gs7_tape_at, gs7_length_at, gg7_at]; exact ht17)
          refine zgoI (bs' := [w7 G awd (s7_at (s7_at bwd wd_at_6) t17.2)]) hc [0] rfl rfl rfl hP hD hS hA (va_runV (As := []) (rest := []) S (hc.2 _) (cwV 0 S.2.2.2.2 gX7_readLiterals_X7_readLiteral rfl rfl rfl (by decide +kernel) ⟨Nat.le_of_ble_eq_true rfl, Nat.le_of_ble_eq_true rfl⟩) (zpV hK hP hD (is := [0]) rfl rfl 0 rfl rfl (ci := 7) rfl) rfl rfl hl.1 rfl (lv_room (Nat.le_of_ble_eq_true rfl)) dX7_readLiterals_17 ⟨Nat.zero_le _, Nat.zero_le _⟩) (fun H locs hn17 hP hD hS => ?_)
          have hw_wd_at_17 : zTp (g7_length bwd) (t17.2) := by rw [← ht17]; exact zTp_readLiteral hw_wd_at_B6
          refine lv_istore (lv' := [(4, .int t17.1), (0, .ref (awd 0)), (1, .int x1_6), (2, .int x2_6), (3, .int (nI i3_6))]) hx hb dX7_readLiterals_20 hl (by decide) rfl (fun ls hl => ?_)
          refine lv_iload hx hb dX7_readLiterals_22 (lv_at hl 0 rfl) ?_
          refine lv_iconst (v := (-1)) hx hb dX7_readLiterals_24 (by decide) ?_
          refine lv_icmp_ne (tgt := 30) hx hb dX7_readLiterals_25 (by decide) (fun c25 => ?_) (fun c25 => ?_)
          · have hE := hE.trans (if_neg c25)
            refine lv_iload_n hx hb dX7_readLiterals_30 rfl (lv_at hl 2 rfl) ?_
            refine lv_iconst (v := 1) hx hb dX7_readLiterals_31 (by decide) ?_
            refine lv_iload hx hb dX7_readLiterals_32 (lv_at hl 0 rfl) ?_
            refine lv_ishl hx hb dX7_readLiterals_34 ?_
            refine lv_ior hx hb dX7_readLiterals_35 ?_
            refine lv_istore_n (lv' := [(1, .int (x1_6 ||| (1 <<< (t17.1 &&& 31)))), (4, .int t17.1), (0, .ref (awd 0)), (2, .int x2_6), (3, .int (nI i3_6))]) hx hb dX7_readLiterals_36 rfl hl (by decide) rfl (fun ls hl => ?_)
            refine lv_aload_n hx hb dX7_readLiterals_37 rfl (lv_at hl 2 rfl) ?_
            refine lv_bipush (v := 44) hx hb dX7_readLiterals_38 (by decide) ?_
            obtain ⟨t40, ht40⟩ : ∃ z, FX7_take (g7_tape bwd) (g7_length bwd) t17.2 44 = z := ⟨_, rfl⟩
            have hE := hE.trans (bnd_eq ht40)
            have hc := c_X7_take l G awd (s7_at (s7_at bwd wd_at_6) t17.2) 44 (hw_wd_at_17) _ (by simp only [gs7_tape_at, gs7_length_at, gg7_at]; exact ht40)
            refine zgoI (bs' := [w7 G awd (s7_at (s7_at (s7_at bwd wd_at_6) t17.2) t40.2)]) hc [0] rfl rfl rfl hP hD hS hA (va_runV (As := [.int 44]) (rest := []) S (hc.2 _) (cwV 1 S.2.2.2.2 gX7_readLiterals_X7_take rfl rfl rfl (by decide +kernel) ⟨Nat.le_of_ble_eq_true rfl, Nat.le_of_ble_eq_true rfl⟩) (zpV hK hP hD (is := [0]) rfl rfl 0 rfl rfl (ci := 7) rfl) rfl rfl hl.1 rfl (lv_room (Nat.le_of_ble_eq_true rfl)) dX7_readLiterals_40 ⟨Nat.zero_le _, Nat.zero_le _⟩) (fun H locs hn40 hP hD hS => ?_)
            have hw_wd_at_40 : zTp (g7_length bwd) (t40.2) := by rw [← ht40]; exact zTp_take hw_wd_at_17
            refine lv_istore_n (lv' := [(2, .int t40.1), (1, .int (x1_6 ||| (1 <<< (t17.1 &&& 31)))), (4, .int t17.1), (0, .ref (awd 0)), (3, .int (nI i3_6))]) hx hb dX7_readLiterals_43 rfl hl (by decide) rfl (fun ls hl => ?_)
            refine lv_iinc (v := (nI (i3_6 + 1))) (lv' := [(3, .int (nI (i3_6 + 1))), (2, .int t40.1), (1, .int (x1_6 ||| (1 <<< (t17.1 &&& 31)))), (4, .int t17.1), (0, .ref (awd 0))]) hx hb dX7_readLiterals_44 hl (k := 4) rfl (nI_1 i3_6) (by decide) rfl (fun ls hl => ?_)
            try rw [nI_1 i3_6] at hE
            refine lv_goto (tgt := 6) hx hb dX7_readLiterals_47 (by decide) ?_
            rw [show (s7_at (s7_at (s7_at bwd wd_at_6) t17.2) t40.2) = (s7_at bwd t40.2) from ((congrArg (fun z => s7_at z t40.2) (ss7_at _ wd_at_6 t17.2)).trans (ss7_at _ t17.2 t40.2))] at hP hD
            exact ih6 (x1_6 ||| (1 <<< (t17.1 &&& 31))) t40.1 (i3_6 + 1) t40.2 _ _ _ (by first | assumption | omega) (by exact hw_wd_at_40) (by omega) hE hP hD hS (lv_sub hl [4, 2, 1, 0] rfl)
          · have hE := hE.trans (if_pos c25)
            refine lv_iconst (v := (-1)) hx hb dX7_readLiterals_28 (by decide) ?_
            rw [show (s7_at (s7_at bwd wd_at_6) t17.2) = (s7_at bwd t17.2) from (ss7_at _ wd_at_6 t17.2)] at hP hD
            exact hret _ _ _ _ _ _ (by subst hE; rfl) rfl hP hS dX7_readLiterals_29
  refine lv_istore_n (lv' := [(3, .int 0), (2, .int 1), (1, .int 0), (0, .ref (awd 0))]) hx hb dX7_readLiterals_5 rfl hl (by decide) rfl (fun ls hl => ?_)
  rw [show bwd = (s7_at bwd (g7_at bwd)) from ((se7_at _).symm)] at hP hD
  exact hB6 121 0 1 0 (g7_at bwd) _ _ _ (by first | assumption | omega) (by exact hw_wd_at) (by omega) hE hP hD hS (lv_sub hl [3, 2, 1, 0] rfl)

theorem zTp_readLiterals_6 {t : Nat → Int32} {l q0 : Int32} {kt : Int32 → Int32 → Int32 × Int32} (hk : ∀ x q, zTp l q → zTp l (kt x q).2) : ∀ (n : Nat) (x1 x2 x3 q : Int32), zTp l q → zTp l (FX7_readLiterals_6 t l q0 kt n x1 x2 x3 q).2
  | 0, x1, x2, x3, q, h => hk _ _ h
  | n + 1, x1, x2, x3, q, h => by
    have h1 := zTp_readLiteral (t := t) h
    have h2 := zTp_take (t := t) (x := 44) h1
    simp only [FX7_readLiterals_6, bndy]
    repeat' split
    all_goals first | with_reducible exact hk _ _ h | with_reducible exact h1 | with_reducible exact zTp_readLiterals_6 hk n _ _ _ _ h2 | exact hk _ _ h | exact h1 | exact zTp_readLiterals_6 hk n _ _ _ _ h2
theorem zTp_readLiterals {t : Nat → Int32} {l q : Int32} (h : zTp l q) : zTp l (FX7_readLiterals t l q).2 := zTp_readLiterals_6 (fun _ _ h => h) _ _ _ _ _ h

def rmX7_readArrow : Room := { frames := 1, cells := 0, slots := 0, locals := 21 }
set_option maxHeartbeats 4000000 in
set_option maxRecDepth 100000 in
theorem c_X7_readArrow (l : Launch) (G : zG) (awd : Nat → Nat) (bwd : S7) (hw_wd_at : zTp (g7_length bwd) (g7_at bwd)) (T : Int32 × (Int32)) (hT : FX7_readArrow (g7_tape bwd) (g7_length bwd) (g7_at bwd) = T) : zI l yX7_readArrow wsX7_readArrow rmX7_readArrow .int G [.ref (awd 0)] [w7 G awd bwd] T.1 [w7 G awd (s7_at bwd T.2)] := by
  refine zI.mk (cc := cX7_readArrow) (maxL := 2) (by decide +kernel) rfl (Nat.le_of_ble_eq_true rfl) (zfl_cons (wf7 _ _ _ _) rfl) ?_
  intro p e s m args below meth c Q A ls S hK hD hA hP hl hret
  have hx := S.1
  have hb := S.2.1
  have hS : va_S A s.heap s.heap [] := va_S.rf
  have hl : lv_has ls 2 [(0, .ref (awd 0))] := hl
  have hE := hT.symm.trans (FX7_readArrow.eq_1 _ _ _)
  refine lv_iconst (v := (-1)) hx hb dX7_readArrow_0 (by decide) ?_
  refine lv_istore_n (lv' := [(1, .int (-1)), (0, .ref (awd 0))]) hx hb dX7_readArrow_1 rfl hl (by decide) rfl (fun ls hl => ?_)
  refine lv_aload_n hx hb dX7_readArrow_2 rfl (lv_at hl 1 rfl) ?_
  refine lv_bipush (v := 45) hx hb dX7_readArrow_3 (by decide) ?_
  obtain ⟨t5, ht5⟩ : ∃ z, FX7_take (g7_tape bwd) (g7_length bwd) (g7_at bwd) 45 = z := ⟨_, rfl⟩
  have hE := hE.trans (bnd_eq ht5)
  have hc := c_X7_take l G awd bwd 45 (hw_wd_at) _ ht5
  refine zgoI (bs' := [w7 G awd (s7_at bwd t5.2)]) hc [0] rfl rfl rfl hP hD hS hA (va_runV (As := [.int 45]) (rest := []) S (hc.2 _) (cwV 1 S.2.2.2.2 gX7_readArrow_X7_take rfl rfl rfl (by decide +kernel) ⟨Nat.le_of_ble_eq_true rfl, Nat.le_of_ble_eq_true rfl⟩) (zpV hK hP hD (is := [0]) rfl rfl 0 rfl rfl (ci := 7) rfl) rfl rfl hl.1 rfl (lv_room (Nat.le_of_ble_eq_true rfl)) dX7_readArrow_5 ⟨Nat.zero_le _, Nat.zero_le _⟩) (fun H locs hn5 hP hD hS => ?_)
  have hw_wd_at_5 : zTp (g7_length bwd) (t5.2) := by rw [← ht5]; exact zTp_take hw_wd_at
  have hB41 : ∀ (x1_41 : Int32) (wd_at_41 : Int32) (H : Heap) (locs : List Loc) (ls : Array Slot), (zTp (g7_length bwd) (wd_at_41)) → T = FX7_readArrow_41 (g7_tape bwd) (g7_length bwd) (g7_at bwd) x1_41 wd_at_41 → zP G [w7 G awd (s7_at bwd wd_at_41)] H → zD A [w7 G awd (s7_at bwd wd_at_41)] → va_S A s.heap H locs → lv_has ls 2 [(0, .ref (awd 0)), (1, .int x1_41)] → W p l e rmX7_readArrow s m args below meth c H locs 0 0 Q (F0 m 41 ls []) := by
    intro x1_41 wd_at_41 H locs ls hw_wd_at_B41 hE hP hD hS hl
    have hE := hE.trans (FX7_readArrow_41.eq_1 _ _ _ _ _)
    refine lv_iload_n hx hb dX7_readArrow_41 rfl (lv_at hl 1 rfl) ?_
    refine lv_iconst (v := (-1)) hx hb dX7_readArrow_42 (by decide) ?_
    refine lv_icmp_eq (tgt := 59) hx hb dX7_readArrow_43 (by decide) (fun c43 => ?_) (fun c43 => ?_)
    · have hE := hE.trans (if_pos c43)
      refine lv_iconst (v := (-1)) hx hb dX7_readArrow_59 (by decide) ?_
      exact hret _ _ _ _ _ _ (by subst hE; rfl) rfl hP hS dX7_readArrow_60
    · have hE := hE.trans (if_neg c43)
      refine lv_aload_n hx hb dX7_readArrow_46 rfl (lv_at hl 0 rfl) ?_
      refine lv_bipush (v := 62) hx hb dX7_readArrow_47 (by decide) ?_
      obtain ⟨t49, ht49⟩ : ∃ z, FX7_take (g7_tape bwd) (g7_length bwd) wd_at_41 62 = z := ⟨_, rfl⟩
      have hE := hE.trans (bnd_eq ht49)
      have hc := c_X7_take l G awd (s7_at bwd wd_at_41) 62 (hw_wd_at_B41) _ (by simp only [gs7_tape_at, gs7_length_at, gg7_at]; exact ht49)
      refine zgoI (bs' := [w7 G awd (s7_at (s7_at bwd wd_at_41) t49.2)]) hc [0] rfl rfl rfl hP hD hS hA (va_runV (As := [.int 62]) (rest := []) S (hc.2 _) (cwV 1 S.2.2.2.2 gX7_readArrow_X7_take rfl rfl rfl (by decide +kernel) ⟨Nat.le_of_ble_eq_true rfl, Nat.le_of_ble_eq_true rfl⟩) (zpV hK hP hD (is := [0]) rfl rfl 0 rfl rfl (ci := 7) rfl) rfl rfl hl.1 rfl (lv_room (Nat.le_of_ble_eq_true rfl)) dX7_readArrow_49 ⟨Nat.zero_le _, Nat.zero_le _⟩) (fun H locs hn49 hP hD hS => ?_)
      have hw_wd_at_49 : zTp (g7_length bwd) (t49.2) := by rw [← ht49]; exact zTp_take hw_wd_at_B41
      refine lv_if_eq (tgt := 59) hx hb dX7_readArrow_52 (by decide) (fun c52 => ?_) (fun c52 => ?_)
      · have hE := hE.trans (if_pos c52)
        refine lv_iconst (v := (-1)) hx hb dX7_readArrow_59 (by decide) ?_
        rw [show (s7_at (s7_at bwd wd_at_41) t49.2) = (s7_at bwd t49.2) from (ss7_at _ wd_at_41 t49.2)] at hP hD
        exact hret _ _ _ _ _ _ (by subst hE; rfl) rfl hP hS dX7_readArrow_60
      · have hE := hE.trans (if_neg c52)
        refine lv_iload_n hx hb dX7_readArrow_55 rfl (lv_at hl 1 rfl) ?_
        refine lv_goto (tgt := 60) hx hb dX7_readArrow_56 (by decide) ?_
        rw [show (s7_at (s7_at bwd wd_at_41) t49.2) = (s7_at bwd t49.2) from (ss7_at _ wd_at_41 t49.2)] at hP hD
        exact hret _ _ _ _ _ _ (by subst hE; rfl) rfl hP hS dX7_readArrow_60
  refine lv_if_eq (tgt := 16) hx hb dX7_readArrow_8 (by decide) (fun c8 => ?_) (fun c8 => ?_)
  · have hE := hE.trans (if_pos c8)
    refine lv_aload_n hx hb dX7_readArrow_16 rfl (lv_at hl 1 rfl) ?_
    refine lv_bipush (v := 61) hx hb dX7_readArrow_17 (by decide) ?_
    obtain ⟨t19, ht19⟩ : ∃ z, FX7_take (g7_tape bwd) (g7_length bwd) t5.2 61 = z := ⟨_, rfl⟩
    have hE := hE.trans (bnd_eq ht19)
    have hc := c_X7_take l G awd (s7_at bwd t5.2) 61 (hw_wd_at_5) _ (by simp only [gs7_tape_at, gs7_length_at, gg7_at]; exact ht19)
    refine zgoI (bs' := [w7 G awd (s7_at (s7_at bwd t5.2) t19.2)]) hc [0] rfl rfl rfl hP hD hS hA (va_runV (As := [.int 61]) (rest := []) S (hc.2 _) (cwV 1 S.2.2.2.2 gX7_readArrow_X7_take rfl rfl rfl (by decide +kernel) ⟨Nat.le_of_ble_eq_true rfl, Nat.le_of_ble_eq_true rfl⟩) (zpV hK hP hD (is := [0]) rfl rfl 0 rfl rfl (ci := 7) rfl) rfl rfl hl.1 rfl (lv_room (Nat.le_of_ble_eq_true rfl)) dX7_readArrow_19 ⟨Nat.zero_le _, Nat.zero_le _⟩) (fun H locs hn19 hP hD hS => ?_)
    have hw_wd_at_19 : zTp (g7_length bwd) (t19.2) := by rw [← ht19]; exact zTp_take hw_wd_at_5
    refine lv_if_eq (tgt := 30) hx hb dX7_readArrow_22 (by decide) (fun c22 => ?_) (fun c22 => ?_)
    · have hE := hE.trans (if_pos c22)
      refine lv_aload_n hx hb dX7_readArrow_30 rfl (lv_at hl 1 rfl) ?_
      refine lv_bipush (v := 126) hx hb dX7_readArrow_31 (by decide) ?_
      obtain ⟨t33, ht33⟩ : ∃ z, FX7_take (g7_tape bwd) (g7_length bwd) t19.2 126 = z := ⟨_, rfl⟩
      have hE := hE.trans (bnd_eq ht33)
      have hc := c_X7_take l G awd (s7_at (s7_at bwd t5.2) t19.2) 126 (hw_wd_at_19) _ (by simp only [gs7_tape_at, gs7_length_at, gg7_at]; exact ht33)
      refine zgoI (bs' := [w7 G awd (s7_at (s7_at (s7_at bwd t5.2) t19.2) t33.2)]) hc [0] rfl rfl rfl hP hD hS hA (va_runV (As := [.int 126]) (rest := []) S (hc.2 _) (cwV 1 S.2.2.2.2 gX7_readArrow_X7_take rfl rfl rfl (by decide +kernel) ⟨Nat.le_of_ble_eq_true rfl, Nat.le_of_ble_eq_true rfl⟩) (zpV hK hP hD (is := [0]) rfl rfl 0 rfl rfl (ci := 7) rfl) rfl rfl hl.1 rfl (lv_room (Nat.le_of_ble_eq_true rfl)) dX7_readArrow_33 ⟨Nat.zero_le _, Nat.zero_le _⟩) (fun H locs hn33 hP hD hS => ?_)
      have hw_wd_at_33 : zTp (g7_length bwd) (t33.2) := by rw [← ht33]; exact zTp_take hw_wd_at_19
      refine lv_if_eq (tgt := 41) hx hb dX7_readArrow_36 (by decide) (fun c36 => ?_) (fun c36 => ?_)
      · have hE := hE.trans (if_pos c36)
        rw [show (s7_at (s7_at (s7_at bwd t5.2) t19.2) t33.2) = (s7_at bwd t33.2) from ((congrArg (fun z => s7_at z t33.2) (ss7_at _ t5.2 t19.2)).trans (ss7_at _ t19.2 t33.2))] at hP hD
        exact hB41 (-1) t33.2 _ _ _ (by exact hw_wd_at_33) hE hP hD hS (lv_sub hl [1, 0] rfl)
      · have hE := hE.trans (if_neg c36)
        refine lv_iconst (v := 2) hx hb dX7_readArrow_39 (by decide) ?_
        refine lv_istore_n (lv' := [(1, .int 2), (0, .ref (awd 0))]) hx hb dX7_readArrow_40 rfl hl (by decide) rfl (fun ls hl => ?_)
        rw [show (s7_at (s7_at (s7_at bwd t5.2) t19.2) t33.2) = (s7_at bwd t33.2) from ((congrArg (fun z => s7_at z t33.2) (ss7_at _ t5.2 t19.2)).trans (ss7_at _ t19.2 t33.2))] at hP hD
        exact hB41 2 t33.2 _ _ _ (by exact hw_wd_at_33) hE hP hD hS (lv_sub hl [1, 0] rfl)
    · have hE := hE.trans (if_neg c22)
      refine lv_iconst (v := 1) hx hb dX7_readArrow_25 (by decide) ?_
      refine lv_istore_n (lv' := [(1, .int 1), (0, .ref (awd 0))]) hx hb dX7_readArrow_26 rfl hl (by decide) rfl (fun ls hl => ?_)
      refine lv_goto (tgt := 41) hx hb dX7_readArrow_27 (by decide) ?_
      rw [show (s7_at (s7_at bwd t5.2) t19.2) = (s7_at bwd t19.2) from (ss7_at _ t5.2 t19.2)] at hP hD
      exact hB41 1 t19.2 _ _ _ (by exact hw_wd_at_19) hE hP hD hS (lv_sub hl [1, 0] rfl)
  · have hE := hE.trans (if_neg c8)
    refine lv_iconst (v := 0) hx hb dX7_readArrow_11 (by decide) ?_
    refine lv_istore_n (lv' := [(1, .int 0), (0, .ref (awd 0))]) hx hb dX7_readArrow_12 rfl hl (by decide) rfl (fun ls hl => ?_)
    refine lv_goto (tgt := 41) hx hb dX7_readArrow_13 (by decide) ?_
    exact hB41 0 t5.2 _ _ _ (by exact hw_wd_at_5) hE hP hD hS (lv_sub hl [1, 0] rfl)

theorem zTp_readArrow {t : Nat → Int32} {l q : Int32} (h : zTp l q) : zTp l (FX7_readArrow t l q).2 := by
  simp only [FX7_readArrow, FX7_readArrow_41, bndy]
  repeat' split
  all_goals (try dsimp only)
  all_goals (repeat (first | with_reducible exact h | with_reducible apply zTp_take | with_reducible apply zTp_readLiterals | with_reducible apply zTp_readLiteral | with_reducible apply zTp_readFigure | with_reducible apply zTp_readArrow | with_reducible apply zTp_readNumber | with_reducible apply zTp_readFact | with_reducible apply zTp_readPair | with_reducible apply zTp_readRule))

