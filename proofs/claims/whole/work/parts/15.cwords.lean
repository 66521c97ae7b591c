theorem in_X7_add_7 : ∀ w ∈ u_ws RX7 TX7 10, w ∈ wsX7_add := by decide +kernel
def rmX7_add : Room := { frames := 0, cells := 0, slots := 0, locals := 0 }
set_option maxHeartbeats 4000000 in
set_option maxRecDepth 100000 in
theorem c_X7_add (l : Launch) (G : zG) (awd : Nat → Nat) (bwd : S7) (x1 : Int32) (hz_wd_length : ∃ N : Nat, N ≤ 120 ∧ g7_length bwd = nI N) (T : Int32 × (Nat → Int32) × (Int32)) (hT : FX7_add (g7_tape bwd) (g7_length bwd) x1 = T) : zI l yX7_add wsX7_add rmX7_add .boolean G [.ref (awd 0), .int x1] [w7 G awd bwd] T.1 [w7 G awd (s7_length (s7_tape bwd T.2.1) T.2.2)] := by
  refine zI.mk (cc := cX7_add) (maxL := 2) (by decide +kernel) rfl (Nat.le_of_ble_eq_true rfl) (zfl_cons (wf7 _ _ _ _) rfl) ?_
  intro p e s m args below meth c Q A ls S hK hD hA hP hl hret
  have hx := S.1
  have hb := S.2.1
  have hS : va_S A s.heap s.heap [] := va_S.rf
  have hl : lv_has ls 2 [(0, .ref (awd 0)), (1, .int x1)] := hl
  have hE := hT.symm.trans (FX7_add.eq_1 _ _ _)
  refine lv_aload_n hx hb dX7_add_0 rfl (lv_at hl 0 rfl) ?_
  refine zg7_length S in_X7_add_7 hK hP 0 rfl (List.mem_of_getElem? (i := 1) rfl) (v := (g7_length bwd)) rfl dX7_add_1 ?_
  refine lv_bipush (v := 120) hx hb dX7_add_4 (by decide) ?_
  refine lv_icmp_lt (tgt := 11) hx hb dX7_add_6 (by decide) (fun c6 => ?_) (fun c6 => ?_)
  · have hE := hE.trans (if_pos c6)
    have hi_wd_length : vp_in (g7_length bwd) 120 := by obtain ⟨N, h1, h2⟩ := hz_wd_length; exact zfld_lt h2 (by omega) rfl (by decide) c6
    refine lv_aload_n hx hb dX7_add_11 rfl (lv_at hl 0 rfl) ?_
    refine zg7_tape S in_X7_add_7 hK hP 0 rfl (List.mem_of_getElem? (i := 2) rfl) dX7_add_12 ?_
    refine lv_aload_n hx hb dX7_add_15 rfl (lv_at hl 0 rfl) ?_
    refine zg7_length S in_X7_add_7 hK hP 0 rfl (List.mem_of_getElem? (i := 1) rfl) (v := (g7_length bwd)) rfl dX7_add_16 ?_
    refine lv_iload_n hx hb dX7_add_19 rfl (lv_at hl 1 rfl) ?_
    refine zs7_tape (bs1 := [w7 G awd (s7_tape bwd (upd (g7_tape bwd) (g7_length bwd).toNatClampNeg x1))]) S hK hP hD hS 0 rfl hi_wd_length (f := (g7_tape bwd)) rfl dX7_add_20 rfl (fun H locs hP hD hS => ?_)
    refine lv_aload_n hx hb dX7_add_21 rfl (lv_at hl 0 rfl) ?_
    refine lv_dup hx hb dX7_add_22 rfl ?_
    refine zg7_length S in_X7_add_7 hK hP 0 rfl (List.mem_of_getElem? (i := 1) rfl) (v := (g7_length bwd)) (gs7_length_tape _ (upd (g7_tape bwd) (g7_length bwd).toNatClampNeg x1)) dX7_add_23 ?_
    refine lv_iconst (v := 1) hx hb dX7_add_26 (by decide) ?_
    refine lv_iadd hx hb dX7_add_27 ?_
    refine zp7_length (bs1 := [w7 G awd (s7_length (s7_tape bwd (upd (g7_tape bwd) (g7_length bwd).toNatClampNeg x1)) ((g7_length bwd) + 1))]) S in_X7_add_7 hK hP hD hS 0 rfl (List.mem_of_getElem? (i := 1) rfl) dX7_add_28 rfl (fun H locs hP hD hS => ?_)
    refine lv_iconst (v := 1) hx hb dX7_add_31 (by decide) ?_
    exact hret _ _ _ _ _ _ (by subst hE; rfl) zn1 hP hS dX7_add_32
  · have hE := hE.trans (if_neg c6)
    refine lv_iconst (v := 0) hx hb dX7_add_9 (by decide) ?_
    rw [show bwd = (s7_length (s7_tape bwd (g7_tape bwd)) (g7_length bwd)) from (((se7_tape _).symm).trans (((se7_length _).symm).trans (congrArg (fun v => s7_length (s7_tape bwd (g7_tape bwd)) v) (gs7_length_tape _ (g7_tape bwd)))))] at hP hD
    exact hret _ _ _ _ _ _ (by subst hE; rfl) zn0 hP hS dX7_add_10

theorem in_X7_take_7 : ∀ w ∈ u_ws RX7 TX7 10, w ∈ wsX7_take := by decide +kernel
def rmX7_take : Room := { frames := 0, cells := 0, slots := 0, locals := 0 }
set_option maxHeartbeats 4000000 in
set_option maxRecDepth 100000 in
theorem c_X7_take (l : Launch) (G : zG) (awd : Nat → Nat) (bwd : S7) (x1 : Int32) (hw_wd_at : zTp (g7_length bwd) (g7_at bwd)) (T : Int32 × (Int32)) (hT : FX7_take (g7_tape bwd) (g7_length bwd) (g7_at bwd) x1 = T) : zI l yX7_take wsX7_take rmX7_take .boolean G [.ref (awd 0), .int x1] [w7 G awd bwd] T.1 [w7 G awd (s7_at bwd T.2)] := by
  refine zI.mk (cc := cX7_take) (maxL := 2) (by decide +kernel) rfl (Nat.le_of_ble_eq_true rfl) (zfl_cons (wf7 _ _ _ _) rfl) ?_
  intro p e s m args below meth c Q A ls S hK hD hA hP hl hret
  have hx := S.1
  have hb := S.2.1
  have hS : va_S A s.heap s.heap [] := va_S.rf
  have hl : lv_has ls 2 [(0, .ref (awd 0)), (1, .int x1)] := hl
  have hE := hT.symm.trans (FX7_take.eq_1 _ _ _ _)
  refine lv_aload_n hx hb dX7_take_0 rfl (lv_at hl 0 rfl) ?_
  refine zg7_at S in_X7_take_7 hK hP 0 rfl (List.mem_of_getElem? (i := 1) rfl) (v := (g7_at bwd)) rfl dX7_take_1 ?_
  refine lv_aload_n hx hb dX7_take_4 rfl (lv_at hl 0 rfl) ?_
  refine zg7_length S in_X7_take_7 hK hP 0 rfl (List.mem_of_getElem? (i := 2) rfl) (v := (g7_length bwd)) rfl dX7_take_5 ?_
  refine lv_icmp_ge (tgt := 24) hx hb dX7_take_8 (by decide) (fun c8 => ?_) (fun c8 => ?_)
  · have hE := hE.trans (if_pos c8)
    refine lv_iconst (v := 0) hx hb dX7_take_24 (by decide) ?_
    rw [show bwd = (s7_at bwd (g7_at bwd)) from ((se7_at _).symm)] at hP hD
    exact hret _ _ _ _ _ _ (by subst hE; rfl) zn0 hP hS dX7_take_25
  · have hE := hE.trans (if_neg c8)
    have hi_wd_at : vp_in (g7_at bwd) 120 := zTp_in hw_wd_at c8
    refine lv_aload_n hx hb dX7_take_11 rfl (lv_at hl 0 rfl) ?_
    refine zg7_tape S in_X7_take_7 hK hP 0 rfl (List.mem_of_getElem? (i := 3) rfl) dX7_take_12 ?_
    refine lv_aload_n hx hb dX7_take_15 rfl (lv_at hl 0 rfl) ?_
    refine zg7_at S in_X7_take_7 hK hP 0 rfl (List.mem_of_getElem? (i := 1) rfl) (v := (g7_at bwd)) rfl dX7_take_16 ?_
    refine zl7_tape S hK hP 0 rfl hi_wd_at (f := (g7_tape bwd)) rfl dX7_take_19 ?_
    refine lv_iload_n hx hb dX7_take_20 rfl (lv_at hl 1 rfl) ?_
    refine lv_icmp_eq (tgt := 26) hx hb dX7_take_21 (by decide) (fun c21 => ?_) (fun c21 => ?_)
    · have hE := hE.trans (if_pos c21)
      refine lv_aload_n hx hb dX7_take_26 rfl (lv_at hl 0 rfl) ?_
      refine lv_dup hx hb dX7_take_27 rfl ?_
      refine zg7_at S in_X7_take_7 hK hP 0 rfl (List.mem_of_getElem? (i := 1) rfl) (v := (g7_at bwd)) rfl dX7_take_28 ?_
      refine lv_iconst (v := 1) hx hb dX7_take_31 (by decide) ?_
      refine lv_iadd hx hb dX7_take_32 ?_
      refine zp7_at (bs1 := [w7 G awd (s7_at bwd ((g7_at bwd) + 1))]) S in_X7_take_7 hK hP hD hS 0 rfl (List.mem_of_getElem? (i := 1) rfl) dX7_take_33 rfl (fun H locs hP hD hS => ?_)
      refine lv_iconst (v := 1) hx hb dX7_take_36 (by decide) ?_
      exact hret _ _ _ _ _ _ (by subst hE; rfl) zn1 hP hS dX7_take_37
    · have hE := hE.trans (if_neg c21)
      refine lv_iconst (v := 0) hx hb dX7_take_24 (by decide) ?_
      rw [show bwd = (s7_at bwd (g7_at bwd)) from ((se7_at _).symm)] at hP hD
      exact hret _ _ _ _ _ _ (by subst hE; rfl) zn0 hP hS dX7_take_25

theorem zTp_take {t : Nat → Int32} {l q x : Int32} (h : zTp l q) : zTp l (FX7_take t l q x).2 := by
  simp only [FX7_take]
  repeat' split
  all_goals first | exact h | exact zTp_s h (by assumption)

theorem in_X7_next_7 : ∀ w ∈ u_ws RX7 TX7 10, w ∈ wsX7_next := by decide +kernel
def rmX7_next : Room := { frames := 0, cells := 0, slots := 0, locals := 0 }
set_option maxHeartbeats 4000000 in
set_option maxRecDepth 100000 in
theorem c_X7_next (l : Launch) (G : zG) (awd : Nat → Nat) (bwd : S7) (hw_wd_at : zTp (g7_length bwd) (g7_at bwd)) (T : Int32) (hT : FX7_next (g7_tape bwd) (g7_length bwd) (g7_at bwd) = T) : zR l yX7_next wsX7_next rmX7_next .int G [.ref (awd 0)] [w7 G awd bwd] T := by
  refine zR.mk (cc := cX7_next) (maxL := 1) (by decide +kernel) rfl (Nat.le_of_ble_eq_true rfl) ?_
  intro p e s m args below meth c Q A ls S hK hD hA hP hl hret
  have hx := S.1
  have hb := S.2.1
  have hl : lv_has ls 1 [(0, .ref (awd 0))] := hl
  have hE := hT.symm.trans (FX7_next.eq_1 _ _ _)
  refine lv_aload_n hx hb dX7_next_0 rfl (lv_at hl 0 rfl) ?_
  refine zg7_at S in_X7_next_7 hK hP 0 rfl (List.mem_of_getElem? (i := 1) rfl) (v := (g7_at bwd)) rfl dX7_next_1 ?_
  refine lv_aload_n hx hb dX7_next_4 rfl (lv_at hl 0 rfl) ?_
  refine zg7_length S in_X7_next_7 hK hP 0 rfl (List.mem_of_getElem? (i := 2) rfl) (v := (g7_length bwd)) rfl dX7_next_5 ?_
  refine lv_icmp_ge (tgt := 23) hx hb dX7_next_8 (by decide) (fun c8 => ?_) (fun c8 => ?_)
  · have hE := hE.trans (if_pos c8)
    refine lv_iconst (v := 0) hx hb dX7_next_23 (by decide) ?_
    exact hret _ _ _ hE rfl dX7_next_24
  · have hE := hE.trans (if_neg c8)
    have hi_wd_at : vp_in (g7_at bwd) 120 := zTp_in hw_wd_at c8
    refine lv_aload_n hx hb dX7_next_11 rfl (lv_at hl 0 rfl) ?_
    refine zg7_tape S in_X7_next_7 hK hP 0 rfl (List.mem_of_getElem? (i := 3) rfl) dX7_next_12 ?_
    refine lv_aload_n hx hb dX7_next_15 rfl (lv_at hl 0 rfl) ?_
    refine zg7_at S in_X7_next_7 hK hP 0 rfl (List.mem_of_getElem? (i := 1) rfl) (v := (g7_at bwd)) rfl dX7_next_16 ?_
    refine zl7_tape S hK hP 0 rfl hi_wd_at (f := (g7_tape bwd)) rfl dX7_next_19 ?_
    refine lv_goto (tgt := 24) hx hb dX7_next_20 (by decide) ?_
    exact hret _ _ _ hE rfl dX7_next_24

theorem znx0 {t : Nat → Int32} {l q : Int32} (c : ¬ FX7_next t l q = 0) : ¬ l ≤ q := by
  intro h
  apply c
  unfold FX7_next
  rw [if_pos h]
theorem znx {t : Nat → Int32} {l q : Int32} (c : ¬ FX7_next t l q < 97) : ¬ l ≤ q := znx0 (fun h => c (by rw [h]; decide))

theorem in_X7_readLiteral_7 : ∀ w ∈ u_ws RX7 TX7 10, w ∈ wsX7_readLiteral := by decide +kernel
def rmX7_readLiteral : Room := { frames := 1, cells := 0, slots := 0, locals := 21 }
set_option maxHeartbeats 4000000 in
set_option maxRecDepth 100000 in
theorem c_X7_readLiteral (l : Launch) (G : zG) (awd : Nat → Nat) (bwd : S7) (hw_wd_at : zTp (g7_length bwd) (g7_at bwd)) (T : Int32 × (Int32)) (hT : FX7_readLiteral (g7_tape bwd) (g7_length bwd) (g7_at bwd) = T) : zI l yX7_readLiteral wsX7_readLiteral rmX7_readLiteral .int G [.ref (awd 0)] [w7 G awd bwd] T.1 [w7 G awd (s7_at bwd T.2)] := by
  refine zI.mk (cc := cX7_readLiteral) (maxL := 4) (by decide +kernel) rfl (Nat.le_of_ble_eq_true rfl) (zfl_cons (wf7 _ _ _ _) rfl) ?_
  intro p e s m args below meth c Q A ls S hK hD hA hP hl hret
  have hx := S.1
  have hb := S.2.1
  have hS : va_S A s.heap s.heap [] := va_S.rf
  have hl : lv_has ls 4 [(0, .ref (awd 0))] := hl
  have hE := hT.symm.trans (FX7_readLiteral.eq_1 _ _ _)
  refine lv_aload_n hx hb dX7_readLiteral_0 rfl (lv_at hl 0 rfl) ?_
  refine lv_bipush (v := 126) hx hb dX7_readLiteral_1 (by decide) ?_
  obtain ⟨t3, ht3⟩ : ∃ z, FX7_take (g7_tape bwd) (g7_length bwd) (g7_at bwd) 126 = z := ⟨_, rfl⟩
  have hE := hE.trans (bnd_eq ht3)
  have hc := c_X7_take l G awd bwd 126 (hw_wd_at) _ ht3
  refine zgoI (bs' := [w7 G awd (s7_at bwd t3.2)]) hc [0] rfl rfl rfl hP hD hS hA (va_runV (As := [.int 126]) (rest := []) S (hc.2 _) (cwV 1 S.2.2.2.2 gX7_readLiteral_X7_take rfl rfl rfl (by decide +kernel) ⟨Nat.le_of_ble_eq_true rfl, Nat.le_of_ble_eq_true rfl⟩) (zpV hK hP hD (is := [0]) rfl rfl 0 rfl rfl (ci := 7) rfl) rfl rfl hl.1 rfl (lv_room (Nat.le_of_ble_eq_true rfl)) dX7_readLiteral_3 ⟨Nat.zero_le _, Nat.zero_le _⟩) (fun H locs hn3 hP hD hS => ?_)
  have hw_wd_at_3 : zTp (g7_length bwd) (t3.2) := by rw [← ht3]; exact zTp_take hw_wd_at
  refine lv_istore_n (lv' := [(1, .int t3.1), (0, .ref (awd 0))]) hx hb dX7_readLiteral_6 rfl hl (by decide) rfl (fun ls hl => ?_)
  refine lv_aload_n hx hb dX7_readLiteral_7 rfl (lv_at hl 1 rfl) ?_
  obtain ⟨t8, ht8⟩ : ∃ z, FX7_next (g7_tape bwd) (g7_length bwd) t3.2 = z := ⟨_, rfl⟩
  have hE := hE.trans (bnd_eq ht8)
  have hc := c_X7_next l G awd (s7_at bwd t3.2) (hw_wd_at_3) _ (by simp only [gs7_tape_at, gs7_length_at, gg7_at]; exact ht8)
  refine zgoR (va_runV (As := []) (rest := []) S (hc _) (cwV 0 S.2.2.2.2 gX7_readLiteral_X7_next rfl rfl rfl (by decide +kernel) ⟨Nat.le_of_ble_eq_true rfl, Nat.le_of_ble_eq_true rfl⟩) (zpV hK hP hD (is := [0]) rfl rfl 0 rfl rfl (ci := 7) rfl) rfl rfl hl.1 rfl (lv_room (Nat.le_of_ble_eq_true rfl)) dX7_readLiteral_8 ⟨Nat.zero_le _, Nat.zero_le _⟩) (fun hn8 => ?_)
  refine lv_istore_n (lv' := [(2, .int t8), (1, .int t3.1), (0, .ref (awd 0))]) hx hb dX7_readLiteral_11 rfl hl (by decide) rfl (fun ls hl => ?_)
  refine lv_iload_n hx hb dX7_readLiteral_12 rfl (lv_at hl 0 rfl) ?_
  refine lv_bipush (v := 97) hx hb dX7_readLiteral_13 (by decide) ?_
  refine lv_icmp_lt (tgt := 24) hx hb dX7_readLiteral_15 (by decide) (fun c15 => ?_) (fun c15 => ?_)
  · have hE := hE.trans (if_pos c15)
    refine lv_iconst (v := (-1)) hx hb dX7_readLiteral_24 (by decide) ?_
    exact hret _ _ _ _ _ _ (by subst hE; rfl) rfl hP hS dX7_readLiteral_25
  · have hE := hE.trans (if_neg c15)
    refine lv_iload_n hx hb dX7_readLiteral_18 rfl (lv_at hl 0 rfl) ?_
    refine lv_bipush (v := 106) hx hb dX7_readLiteral_19 (by decide) ?_
    refine lv_icmp_le (tgt := 26) hx hb dX7_readLiteral_21 (by decide) (fun c21 => ?_) (fun c21 => ?_)
    · have hE := hE.trans (if_pos c21)
      refine lv_aload_n hx hb dX7_readLiteral_26 rfl (lv_at hl 2 rfl) ?_
      refine lv_dup hx hb dX7_readLiteral_27 rfl ?_
      refine zg7_at S in_X7_readLiteral_7 hK hP 0 rfl (List.mem_of_getElem? (i := 1) rfl) (v := t3.2) (gg7_at _ t3.2) dX7_readLiteral_28 ?_
      refine lv_iconst (v := 1) hx hb dX7_readLiteral_31 (by decide) ?_
      refine lv_iadd hx hb dX7_readLiteral_32 ?_
      refine zp7_at (bs1 := [w7 G awd (s7_at (s7_at bwd t3.2) (t3.2 + 1))]) S in_X7_readLiteral_7 hK hP hD hS 0 rfl (List.mem_of_getElem? (i := 1) rfl) dX7_readLiteral_33 rfl (fun H locs hP hD hS => ?_)
      refine lv_iload_n hx hb dX7_readLiteral_36 rfl (lv_at hl 0 rfl) ?_
      refine lv_bipush (v := 97) hx hb dX7_readLiteral_37 (by decide) ?_
      refine lv_isub hx hb dX7_readLiteral_39 ?_
      refine lv_istore_n (lv' := [(3, .int (t8 - 97)), (2, .int t8), (1, .int t3.1), (0, .ref (awd 0))]) hx hb dX7_readLiteral_40 rfl hl (by decide) rfl (fun ls hl => ?_)
      refine lv_iload_n hx hb dX7_readLiteral_41 rfl (lv_at hl 2 rfl) ?_
      refine lv_if_eq (tgt := 52) hx hb dX7_readLiteral_42 (by decide) (fun c42 => ?_) (fun c42 => ?_)
      · have hE := hE.trans (if_pos c42)
        refine lv_iload_n hx hb dX7_readLiteral_52 rfl (lv_at hl 0 rfl) ?_
        rw [show (s7_at (s7_at bwd t3.2) (t3.2 + 1)) = (s7_at bwd (t3.2 + 1)) from (ss7_at _ t3.2 (t3.2 + 1))] at hP hD
        exact hret _ _ _ _ _ _ (by subst hE; rfl) rfl hP hS dX7_readLiteral_53
      · have hE := hE.trans (if_neg c42)
        refine lv_iload_n hx hb dX7_readLiteral_45 rfl (lv_at hl 0 rfl) ?_
        obtain ⟨t46, ht46⟩ : ∃ z, FX8_otherOf (t8 - 97) = z := ⟨_, rfl⟩
        have hE := hE.trans (bnd_eq ht46)
        have hc := c_X8_otherOf l G (t8 - 97) _ ht46
        refine zgoR (va_runSN (As := [.int (t8 - 97)]) (rest := []) S (hc _) ⟨va_cnB (host := "RuleCourt") 1 S.2.2.2.2 gX7_readLiteral_X8_otherOf_n85 rfl rfl rfl (hK.2 _ (List.mem_of_getElem? (i := 9) rfl)) (S.2.2.2.2 _ (List.mem_of_getElem? (i := 14) rfl)) (by decide +kernel) ⟨Nat.le_of_ble_eq_true rfl, Nat.le_of_ble_eq_true rfl⟩, S.2.2.2.2 _ (List.mem_of_getElem? (i := 13) rfl), trivial⟩ (zpS hK hP hD (is := []) rfl rfl) rfl rfl hl.1 rfl (lv_room (Nat.le_of_ble_eq_true rfl)) dX7_readLiteral_46 ⟨Nat.zero_le _, Nat.zero_le _⟩) (fun hn46 => ?_)
        refine lv_goto (tgt := 53) hx hb dX7_readLiteral_49 (by decide) ?_
        rw [show (s7_at (s7_at bwd t3.2) (t3.2 + 1)) = (s7_at bwd (t3.2 + 1)) from (ss7_at _ t3.2 (t3.2 + 1))] at hP hD
        exact hret _ _ _ _ _ _ (by subst hE; rfl) rfl hP hS dX7_readLiteral_53
    · have hE := hE.trans (if_neg c21)
      refine lv_iconst (v := (-1)) hx hb dX7_readLiteral_24 (by decide) ?_
      exact hret _ _ _ _ _ _ (by subst hE; rfl) rfl hP hS dX7_readLiteral_25

theorem zTp_readLiteral {t : Nat → Int32} {l q : Int32} (h : zTp l q) : zTp l (FX7_readLiteral t l q).2 := by
  simp only [FX7_readLiteral, bnd]
  have h3 := zTp_take (t := t) (x := 126) h
  repeat' split
  all_goals first | exact h3 | exact zTp_s h3 (znx (by assumption))

theorem in_X7_readFact_7 : ∀ w ∈ u_ws RX7 TX7 10, w ∈ wsX7_readFact := by decide +kernel
def rmX7_readFact : Room := { frames := 2, cells := 0, slots := 0, locals := 44 }
set_option maxHeartbeats 4000000 in
set_option maxRecDepth 100000 in
theorem c_X7_readFact (l : Launch) (G : zG) (awd : Nat → Nat) (bwd : S7) (hw_wd_at : zTp (g7_length bwd) (g7_at bwd)) (hi_wd_told : vp_in (g7_told bwd) 60) (T : Int32 × (Nat → Int32) × (Nat → Int32) × (Int32)) (hT : FX7_readFact (g7_tape bwd) (g7_sort bwd) (g7_head bwd) (g7_length bwd) (g7_at bwd) (g7_told bwd) = T) : zI l yX7_readFact wsX7_readFact rmX7_readFact .boolean G [.ref (awd 0)] [w7 G awd bwd] T.1 [w7 G awd (s7_at (s7_head (s7_sort bwd T.2.1) T.2.2.1) T.2.2.2)] := by
  refine zI.mk (cc := cX7_readFact) (maxL := 1) (by decide +kernel) rfl (Nat.le_of_ble_eq_true rfl) (zfl_cons (wf7 _ _ _ _) rfl) ?_
  intro p e s m args below meth c Q A ls S hK hD hA hP hl hret
  have hx := S.1
  have hb := S.2.1
  have hS : va_S A s.heap s.heap [] := va_S.rf
  have hl : lv_has ls 1 [(0, .ref (awd 0))] := hl
  have hE := hT.symm.trans (FX7_readFact.eq_1 _ _ _ _ _ _)
  refine lv_aload_n hx hb dX7_readFact_0 rfl (lv_at hl 0 rfl) ?_
  refine zg7_sort S in_X7_readFact_7 hK hP 0 rfl (List.mem_of_getElem? (i := 1) rfl) dX7_readFact_1 ?_
  refine lv_aload_n hx hb dX7_readFact_4 rfl (lv_at hl 0 rfl) ?_
  refine zg7_told S in_X7_readFact_7 hK hP 0 rfl (List.mem_of_getElem? (i := 2) rfl) (v := (g7_told bwd)) rfl dX7_readFact_5 ?_
  refine lv_iconst (v := 3) hx hb dX7_readFact_8 (by decide) ?_
  refine zs7_sort (bs1 := [w7 G awd (s7_sort bwd (upd (g7_sort bwd) (g7_told bwd).toNatClampNeg 3))]) S hK hP hD hS 0 rfl hi_wd_told (f := (g7_sort bwd)) rfl dX7_readFact_9 rfl (fun H locs hP hD hS => ?_)
  refine lv_aload_n hx hb dX7_readFact_10 rfl (lv_at hl 0 rfl) ?_
  refine zg7_head S in_X7_readFact_7 hK hP 0 rfl (List.mem_of_getElem? (i := 3) rfl) dX7_readFact_11 ?_
  refine lv_aload_n hx hb dX7_readFact_14 rfl (lv_at hl 0 rfl) ?_
  refine zg7_told S in_X7_readFact_7 hK hP 0 rfl (List.mem_of_getElem? (i := 2) rfl) (v := (g7_told bwd)) (gs7_told_sort _ (upd (g7_sort bwd) (g7_told bwd).toNatClampNeg 3)) dX7_readFact_15 ?_
  refine lv_aload_n hx hb dX7_readFact_18 rfl (lv_at hl 0 rfl) ?_
  obtain ⟨t19, ht19⟩ : ∃ z, FX7_readLiteral (g7_tape bwd) (g7_length bwd) (g7_at bwd) = z := ⟨_, rfl⟩
  have hE := hE.trans (bnd_eq ht19)
  have hc := c_X7_readLiteral l G awd (s7_sort bwd (upd (g7_sort bwd) (g7_told bwd).toNatClampNeg 3)) (hw_wd_at) _ (by simp only [gs7_tape_sort, gs7_length_sort, gs7_at_sort]; exact ht19)
  refine zgoI (bs' := [w7 G awd (s7_at (s7_sort bwd (upd (g7_sort bwd) (g7_told bwd).toNatClampNeg 3)) t19.2)]) hc [0] rfl rfl rfl hP hD hS hA (va_runV (As := []) (rest := [.int (g7_told bwd), .ref (awd 3)]) S (hc.2 _) (cwV 0 S.2.2.2.2 gX7_readFact_X7_readLiteral rfl rfl rfl (by decide +kernel) ⟨Nat.le_of_ble_eq_true rfl, Nat.le_of_ble_eq_true rfl⟩) (zpV hK hP hD (is := [0]) rfl rfl 0 rfl rfl (ci := 7) rfl) rfl rfl hl.1 rfl (lv_room (Nat.le_of_ble_eq_true rfl)) dX7_readFact_19 ⟨Nat.zero_le _, Nat.zero_le _⟩) (fun H locs hn19 hP hD hS => ?_)
  have hw_wd_at_19 : zTp (g7_length bwd) (t19.2) := by rw [← ht19]; exact zTp_readLiteral hw_wd_at
  refine zs7_head (bs1 := [w7 G awd (s7_head (s7_at (s7_sort bwd (upd (g7_sort bwd) (g7_told bwd).toNatClampNeg 3)) t19.2) (upd (g7_head bwd) (g7_told bwd).toNatClampNeg t19.1))]) S hK hP hD hS 0 rfl hi_wd_told (f := (g7_head bwd)) ((gs7_head_at _ t19.2).trans (gs7_head_sort _ (upd (g7_sort bwd) (g7_told bwd).toNatClampNeg 3))) dX7_readFact_22 rfl (fun H locs hP hD hS => ?_)
  refine lv_aload_n hx hb dX7_readFact_23 rfl (lv_at hl 0 rfl) ?_
  refine zg7_head S in_X7_readFact_7 hK hP 0 rfl (List.mem_of_getElem? (i := 3) rfl) dX7_readFact_24 ?_
  refine lv_aload_n hx hb dX7_readFact_27 rfl (lv_at hl 0 rfl) ?_
  refine zg7_told S in_X7_readFact_7 hK hP 0 rfl (List.mem_of_getElem? (i := 2) rfl) (v := (g7_told bwd)) ((gs7_told_head _ (upd (g7_head bwd) (g7_told bwd).toNatClampNeg t19.1)).trans ((gs7_told_at _ t19.2).trans (gs7_told_sort _ (upd (g7_sort bwd) (g7_told bwd).toNatClampNeg 3)))) dX7_readFact_28 ?_
  refine zl7_head S hK hP 0 rfl hi_wd_told (f := (upd (g7_head bwd) (g7_told bwd).toNatClampNeg t19.1)) (gg7_head _ (upd (g7_head bwd) (g7_told bwd).toNatClampNeg t19.1)) dX7_readFact_31 ?_
  refine lv_iconst (v := (-1)) hx hb dX7_readFact_32 (by decide) ?_
  refine lv_icmp_eq (tgt := 40) hx hb dX7_readFact_33 (by decide) (fun c33 => ?_) (fun c33 => ?_)
  · have hE := hE.trans (if_pos c33)
    refine lv_iconst (v := 0) hx hb dX7_readFact_40 (by decide) ?_
    rw [show (s7_head (s7_at (s7_sort bwd (upd (g7_sort bwd) (g7_told bwd).toNatClampNeg 3)) t19.2) (upd (g7_head bwd) (g7_told bwd).toNatClampNeg t19.1)) = (s7_at (s7_head (s7_sort bwd (upd (g7_sort bwd) (g7_told bwd).toNatClampNeg 3)) (upd (g7_head bwd) (g7_told bwd).toNatClampNeg t19.1)) t19.2) from (cm7_head_at _ t19.2 (upd (g7_head bwd) (g7_told bwd).toNatClampNeg t19.1))] at hP hD
    exact hret _ _ _ _ _ _ (by subst hE; rfl) zn0 hP hS dX7_readFact_41
  · have hE := hE.trans (if_neg c33)
    refine lv_iconst (v := 1) hx hb dX7_readFact_36 (by decide) ?_
    refine lv_goto (tgt := 41) hx hb dX7_readFact_37 (by decide) ?_
    rw [show (s7_head (s7_at (s7_sort bwd (upd (g7_sort bwd) (g7_told bwd).toNatClampNeg 3)) t19.2) (upd (g7_head bwd) (g7_told bwd).toNatClampNeg t19.1)) = (s7_at (s7_head (s7_sort bwd (upd (g7_sort bwd) (g7_told bwd).toNatClampNeg 3)) (upd (g7_head bwd) (g7_told bwd).toNatClampNeg t19.1)) t19.2) from (cm7_head_at _ t19.2 (upd (g7_head bwd) (g7_told bwd).toNatClampNeg t19.1))] at hP hD
    exact hret _ _ _ _ _ _ (by subst hE; rfl) zn1 hP hS dX7_readFact_41

theorem zTp_readFact {a b t : Nat → Int32} {l q o : Int32} (h : zTp l q) : zTp l (FX7_readFact t a b l q o).2.2.2 := by
  simp only [FX7_readFact, bnd]
  have h1 := zTp_readLiteral (t := t) h
  repeat' split
  all_goals exact h1

def rmX7_isFigure : Room := { frames := 0, cells := 0, slots := 0, locals := 0 }
set_option maxHeartbeats 4000000 in
set_option maxRecDepth 100000 in
theorem c_X7_isFigure (l : Launch) (G : zG) (x0 : Int32) (T : Int32) (hT : FX7_isFigure x0 = T) : zR l yX7_isFigure wsX7_isFigure rmX7_isFigure .boolean G [.int x0] [] T := by
  refine zR.mk (cc := cX7_isFigure) (maxL := 1) (by decide +kernel) rfl (Nat.le_of_ble_eq_true rfl) ?_
  intro p e s m args below meth c Q A ls S hK hD hA hP hl hret
  have hx := S.1
  have hb := S.2.1
  have hl : lv_has ls 1 [(0, .int x0)] := hl
  have hE := hT.symm.trans (FX7_isFigure.eq_1 _)
  refine lv_iload_n hx hb dX7_isFigure_0 rfl (lv_at hl 0 rfl) ?_
  refine lv_bipush (v := 48) hx hb dX7_isFigure_1 (by decide) ?_
  refine lv_icmp_lt (tgt := 16) hx hb dX7_isFigure_3 (by decide) (fun c3 => ?_) (fun c3 => ?_)
  · have hE := hE.trans (if_pos c3)
    refine lv_iconst (v := 0) hx hb dX7_isFigure_16 (by decide) ?_
    exact hret _ _ _ hE zn0 dX7_isFigure_17
  · have hE := hE.trans (if_neg c3)
    refine lv_iload_n hx hb dX7_isFigure_6 rfl (lv_at hl 0 rfl) ?_
    refine lv_bipush (v := 57) hx hb dX7_isFigure_7 (by decide) ?_
    refine lv_icmp_gt (tgt := 16) hx hb dX7_isFigure_9 (by decide) (fun c9 => ?_) (fun c9 => ?_)
    · have hE := hE.trans (if_pos c9)
      refine lv_iconst (v := 0) hx hb dX7_isFigure_16 (by decide) ?_
      exact hret _ _ _ hE zn0 dX7_isFigure_17
    · have hE := hE.trans (if_neg c9)
      refine lv_iconst (v := 1) hx hb dX7_isFigure_12 (by decide) ?_
      refine lv_goto (tgt := 17) hx hb dX7_isFigure_13 (by decide) ?_
      exact hret _ _ _ hE zn1 dX7_isFigure_17

theorem zfig0 {x : Int32} (c : ¬ FX7_isFigure x = 0) : ¬ x = 0 := by
  intro h
  apply c
  rw [h]
  decide
theorem zlk6 {x : Int32} (h3 : ¬ x = 3) (h4 : ¬ x = 4) : Op.lookupswitch.offset [(3, 26), (4, 38)] 56 x.toInt = 56 := by
  have e3 : ¬ (3 : Int) = x.toInt := fun h => h3 (Int32.toInt_inj.mp h.symm)
  have e4 : ¬ (4 : Int) = x.toInt := fun h => h4 (Int32.toInt_inj.mp h.symm)
  simp [Op.lookupswitch.offset, e3, e4, Ne.symm e3, Ne.symm e4]
theorem zTp_0 {l : Int32} (h : ∃ N : Nat, N ≤ 120 ∧ l = nI N) : zTp l 0 := by
  obtain ⟨N, h1, h2⟩ := h
  exact ⟨N, 0, h1, Nat.zero_le _, h2, rfl⟩
theorem zmn60 {x : Int32} {n : Nat} (h : ∃ N : Nat, N ≤ 60 ∧ x = nI N ∧ 61 ≤ N + (n + 1)) (c : ¬ (60 : Int32) ≤ x) : ∃ N : Nat, N ≤ 60 ∧ x + 1 = nI N ∧ 61 ≤ N + n := by
  obtain ⟨N, h1, rfl, h3⟩ := h
  rw [show (60 : Int32) = nI 60 from rfl, nI_leI (by decide) (by omega)] at c
  exact ⟨N + 1, by omega, nI_1 N, by omega⟩

theorem in_X7_readFigure_7 : ∀ w ∈ u_ws RX7 TX7 10, w ∈ wsX7_readFigure := by decide +kernel
def rmX7_readFigure : Room := { frames := 1, cells := 0, slots := 0, locals := 20 }
set_option maxHeartbeats 4000000 in
set_option maxRecDepth 100000 in
theorem c_X7_readFigure (l : Launch) (G : zG) (awd : Nat → Nat) (bwd : S7) (hw_wd_at : zTp (g7_length bwd) (g7_at bwd)) (T : Int32 × (Int32)) (hT : FX7_readFigure (g7_tape bwd) (g7_length bwd) (g7_at bwd) = T) : zI l yX7_readFigure wsX7_readFigure rmX7_readFigure .int G [.ref (awd 0)] [w7 G awd bwd] T.1 [w7 G awd (s7_at bwd T.2)] := by
  refine zI.mk (cc := cX7_readFigure) (maxL := 2) (by decide +kernel) rfl (Nat.le_of_ble_eq_true rfl) (zfl_cons (wf7 _ _ _ _) rfl) ?_
  intro p e s m args below meth c Q A ls S hK hD hA hP hl hret
  have hx := S.1
  have hb := S.2.1
  have hS : va_S A s.heap s.heap [] := va_S.rf
  have hl : lv_has ls 2 [(0, .ref (awd 0))] := hl
  have hE := hT.symm.trans (FX7_readFigure.eq_1 _ _ _)
  refine lv_aload_n hx hb dX7_readFigure_0 rfl (lv_at hl 0 rfl) ?_
  obtain ⟨t1, ht1⟩ : ∃ z, FX7_next (g7_tape bwd) (g7_length bwd) (g7_at bwd) = z := ⟨_, rfl⟩
  have hE := hE.trans (bnd_eq ht1)
  have hc := c_X7_next l G awd bwd (hw_wd_at) _ ht1
  refine zgoR (va_runV (As := []) (rest := []) S (hc _) (cwV 0 S.2.2.2.2 gX7_readFigure_X7_next rfl rfl rfl (by decide +kernel) ⟨Nat.le_of_ble_eq_true rfl, Nat.le_of_ble_eq_true rfl⟩) (zpV hK hP hD (is := [0]) rfl rfl 0 rfl rfl (ci := 7) rfl) rfl rfl hl.1 rfl (lv_room (Nat.le_of_ble_eq_true rfl)) dX7_readFigure_1 ⟨Nat.zero_le _, Nat.zero_le _⟩) (fun hn1 => ?_)
  refine lv_istore_n (lv' := [(1, .int t1), (0, .ref (awd 0))]) hx hb dX7_readFigure_4 rfl hl (by decide) rfl (fun ls hl => ?_)
  refine lv_iload_n hx hb dX7_readFigure_5 rfl (lv_at hl 0 rfl) ?_
  obtain ⟨t6, ht6⟩ : ∃ z, FX7_isFigure t1 = z := ⟨_, rfl⟩
  have hE := hE.trans (bnd_eq ht6)
  have hc := c_X7_isFigure l G t1 _ ht6
  refine zgoR (va_runS (As := [.int t1]) (rest := []) S (hc _) (va_cwS 1 S.2.2.2.2 gX7_readFigure_X7_isFigure rfl rfl rfl (by decide +kernel) ⟨Nat.le_of_ble_eq_true rfl, Nat.le_of_ble_eq_true rfl⟩) (zpS hK hP hD (is := []) rfl rfl) rfl rfl hl.1 rfl (lv_room (Nat.le_of_ble_eq_true rfl)) dX7_readFigure_6 ⟨Nat.zero_le _, Nat.zero_le _⟩) (fun hn6 => ?_)
  refine lv_if_ne (tgt := 14) hx hb dX7_readFigure_9 (by decide) (fun c9 => ?_) (fun c9 => ?_)
  · have hE := hE.trans (if_neg c9)
    refine lv_aload_n hx hb dX7_readFigure_14 rfl (lv_at hl 1 rfl) ?_
    refine lv_dup hx hb dX7_readFigure_15 rfl ?_
    refine zg7_at S in_X7_readFigure_7 hK hP 0 rfl (List.mem_of_getElem? (i := 1) rfl) (v := (g7_at bwd)) rfl dX7_readFigure_16 ?_
    refine lv_iconst (v := 1) hx hb dX7_readFigure_19 (by decide) ?_
    refine lv_iadd hx hb dX7_readFigure_20 ?_
    refine zp7_at (bs1 := [w7 G awd (s7_at bwd ((g7_at bwd) + 1))]) S in_X7_readFigure_7 hK hP hD hS 0 rfl (List.mem_of_getElem? (i := 1) rfl) dX7_readFigure_21 rfl (fun H locs hP hD hS => ?_)
    refine lv_iload_n hx hb dX7_readFigure_24 rfl (lv_at hl 0 rfl) ?_
    refine lv_bipush (v := 48) hx hb dX7_readFigure_25 (by decide) ?_
    refine lv_isub hx hb dX7_readFigure_27 ?_
    exact hret _ _ _ _ _ _ (by subst hE; rfl) rfl hP hS dX7_readFigure_28
  · have hE := hE.trans (if_pos c9)
    refine lv_iconst (v := (-1)) hx hb dX7_readFigure_12 (by decide) ?_
    rw [show bwd = (s7_at bwd (g7_at bwd)) from ((se7_at _).symm)] at hP hD
    exact hret _ _ _ _ _ _ (by subst hE; rfl) rfl hP hS dX7_readFigure_13

theorem zTp_readFigure {t : Nat → Int32} {l q : Int32} (h : zTp l q) : zTp l (FX7_readFigure t l q).2 := by
  simp only [FX7_readFigure, bnd]
  repeat' split
  all_goals first | exact h | exact zTp_s h (znx0 (zfig0 (by assumption)))

def rmX7_readNumber : Room := { frames := 2, cells := 0, slots := 0, locals := 41 }
set_option maxHeartbeats 4000000 in
set_option maxRecDepth 100000 in
theorem c_X7_readNumber (l : Launch) (G : zG) (awd : Nat → Nat) (bwd : S7) (hw_wd_at : zTp (g7_length bwd) (g7_at bwd)) (T : Int32 × (Int32)) (hT : FX7_readNumber (g7_tape bwd) (g7_length bwd) (g7_at bwd) = T) : zI l yX7_readNumber wsX7_readNumber rmX7_readNumber .int G [.ref (awd 0)] [w7 G awd bwd] T.1 [w7 G awd (s7_at bwd T.2)] := by
  refine zI.mk (cc := cX7_readNumber) (maxL := 2) (by decide +kernel) rfl (Nat.le_of_ble_eq_true rfl) (zfl_cons (wf7 _ _ _ _) rfl) ?_
  intro p e s m args below meth c Q A ls S hK hD hA hP hl hret
  have hx := S.1
  have hb := S.2.1
  have hS : va_S A s.heap s.heap [] := va_S.rf
  have hl : lv_has ls 2 [(0, .ref (awd 0))] := hl
  have hE := hT.symm.trans (FX7_readNumber.eq_1 _ _ _)
  refine lv_aload_n hx hb dX7_readNumber_0 rfl (lv_at hl 0 rfl) ?_
  obtain ⟨t1, ht1⟩ : ∃ z, FX7_readFigure (g7_tape bwd) (g7_length bwd) (g7_at bwd) = z := ⟨_, rfl⟩
  have hE := hE.trans (bnd_eq ht1)
  have hc := c_X7_readFigure l G awd bwd (hw_wd_at) _ ht1
  refine zgoI (bs' := [w7 G awd (s7_at bwd t1.2)]) hc [0] rfl rfl rfl hP hD hS hA (va_runV (As := []) (rest := []) S (hc.2 _) (cwV 0 S.2.2.2.2 gX7_readNumber_X7_readFigure rfl rfl rfl (by decide +kernel) ⟨Nat.le_of_ble_eq_true rfl, Nat.le_of_ble_eq_true rfl⟩) (zpV hK hP hD (is := [0]) rfl rfl 0 rfl rfl (ci := 7) rfl) rfl rfl hl.1 rfl (lv_room (Nat.le_of_ble_eq_true rfl)) dX7_readNumber_1 ⟨Nat.zero_le _, Nat.zero_le _⟩) (fun H locs hn1 hP hD hS => ?_)
  have hw_wd_at_1 : zTp (g7_length bwd) (t1.2) := by rw [← ht1]; exact zTp_readFigure hw_wd_at
  refine lv_istore_n (lv' := [(1, .int t1.1), (0, .ref (awd 0))]) hx hb dX7_readNumber_4 rfl hl (by decide) rfl (fun ls hl => ?_)
  refine lv_iload_n hx hb dX7_readNumber_5 rfl (lv_at hl 0 rfl) ?_
  refine lv_iconst (v := (-1)) hx hb dX7_readNumber_6 (by decide) ?_
  refine lv_icmp_eq (tgt := 20) hx hb dX7_readNumber_7 (by decide) (fun c7 => ?_) (fun c7 => ?_)
  · have hE := hE.trans (if_pos c7)
    refine lv_iload_n hx hb dX7_readNumber_20 rfl (lv_at hl 0 rfl) ?_
    exact hret _ _ _ _ _ _ (by subst hE; rfl) rfl hP hS dX7_readNumber_21
  · have hE := hE.trans (if_neg c7)
    refine lv_aload_n hx hb dX7_readNumber_10 rfl (lv_at hl 1 rfl) ?_
    obtain ⟨t11, ht11⟩ : ∃ z, FX7_next (g7_tape bwd) (g7_length bwd) t1.2 = z := ⟨_, rfl⟩
    have hE := hE.trans (bnd_eq ht11)
    have hc := c_X7_next l G awd (s7_at bwd t1.2) (hw_wd_at_1) _ (by simp only [gs7_tape_at, gs7_length_at, gg7_at]; exact ht11)
    refine zgoR (va_runV (As := []) (rest := []) S (hc _) (cwV 0 S.2.2.2.2 gX7_readNumber_X7_next rfl rfl rfl (by decide +kernel) ⟨Nat.le_of_ble_eq_true rfl, Nat.le_of_ble_eq_true rfl⟩) (zpV hK hP hD (is := [0]) rfl rfl 0 rfl rfl (ci := 7) rfl) rfl rfl hl.1 rfl (lv_room (Nat.le_of_ble_eq_true rfl)) dX7_readNumber_11 ⟨Nat.zero_le _, Nat.zero_le _⟩) (fun hn11 => ?_)
    obtain ⟨t14, ht14⟩ : ∃ z, FX7_isFigure t11 = z := ⟨_, rfl⟩
    have hE := hE.trans (bnd_eq ht14)
    have hc := c_X7_isFigure l G t11 _ ht14
    refine zgoR (va_runS (As := [.int t11]) (rest := []) S (hc _) (va_cwS 1 S.2.2.2.2 gX7_readNumber_X7_isFigure rfl rfl rfl (by decide +kernel) ⟨Nat.le_of_ble_eq_true rfl, Nat.le_of_ble_eq_true rfl⟩) (zpS hK hP hD (is := []) rfl rfl) rfl rfl hl.1 rfl (lv_room (Nat.le_of_ble_eq_true rfl)) dX7_readNumber_14 ⟨Nat.zero_le _, Nat.zero_le _⟩) (fun hn14 => ?_)
    refine lv_if_ne (tgt := 22) hx hb dX7_readNumber_17 (by decide) (fun c17 => ?_) (fun c17 => ?_)
    · have hE := hE.trans (if_neg c17)
      refine lv_bipush (v := 10) hx hb dX7_readNumber_22 (by decide) ?_
      refine lv_iload_n hx hb dX7_readNumber_24 rfl (lv_at hl 0 rfl) ?_
      refine lv_imul hx hb dX7_readNumber_25 ?_
      refine lv_aload_n hx hb dX7_readNumber_26 rfl (lv_at hl 1 rfl) ?_
      obtain ⟨t27, ht27⟩ : ∃ z, FX7_readFigure (g7_tape bwd) (g7_length bwd) t1.2 = z := ⟨_, rfl⟩
      have hE := hE.trans (bnd_eq ht27)
      have hc := c_X7_readFigure l G awd (s7_at bwd t1.2) (hw_wd_at_1) _ (by simp only [gs7_tape_at, gs7_length_at, gg7_at]; exact ht27)
      refine zgoI (bs' := [w7 G awd (s7_at (s7_at bwd t1.2) t27.2)]) hc [0] rfl rfl rfl hP hD hS hA (va_runV (As := []) (rest := [.int (10 * t1.1)]) S (hc.2 _) (cwV 0 S.2.2.2.2 gX7_readNumber_X7_readFigure rfl rfl rfl (by decide +kernel) ⟨Nat.le_of_ble_eq_true rfl, Nat.le_of_ble_eq_true rfl⟩) (zpV hK hP hD (is := [0]) rfl rfl 0 rfl rfl (ci := 7) rfl) rfl rfl hl.1 rfl (lv_room (Nat.le_of_ble_eq_true rfl)) dX7_readNumber_27 ⟨Nat.zero_le _, Nat.zero_le _⟩) (fun H locs hn27 hP hD hS => ?_)
      have hw_wd_at_27 : zTp (g7_length bwd) (t27.2) := by rw [← ht27]; exact zTp_readFigure hw_wd_at_1
      refine lv_iadd hx hb dX7_readNumber_30 ?_
      rw [show (s7_at (s7_at bwd t1.2) t27.2) = (s7_at bwd t27.2) from (ss7_at _ t1.2 t27.2)] at hP hD
      exact hret _ _ _ _ _ _ (by subst hE; rfl) rfl hP hS dX7_readNumber_31
    · have hE := hE.trans (if_pos c17)
      refine lv_iload_n hx hb dX7_readNumber_20 rfl (lv_at hl 0 rfl) ?_
      exact hret _ _ _ _ _ _ (by subst hE; rfl) rfl hP hS dX7_readNumber_21

theorem zTp_readNumber {t : Nat → Int32} {l q : Int32} (h : zTp l q) : zTp l (FX7_readNumber t l q).2 := by
  simp only [FX7_readNumber, bnd]
  have h1 := zTp_readFigure (t := t) h
  have h2 := zTp_readFigure (t := t) h1
  repeat' split
  all_goals first | exact h1 | exact h2

theorem in_X7_readPair_7 : ∀ w ∈ u_ws RX7 TX7 10, w ∈ wsX7_readPair := by decide +kernel
def rmX7_readPair : Room := { frames := 3, cells := 0, slots := 0, locals := 62 }
set_option maxHeartbeats 4000000 in
set_option maxRecDepth 100000 in
theorem c_X7_readPair (l : Launch) (G : zG) (awd : Nat → Nat) (bwd : S7) (hw_wd_at : zTp (g7_length bwd) (g7_at bwd)) (hi_wd_told : vp_in (g7_told bwd) 60) (T : Int32 × (Nat → Int32) × (Nat → Int32) × (Nat → Int32) × (Int32)) (hT : FX7_readPair (g7_tape bwd) (g7_sort bwd) (g7_head bwd) (g7_body bwd) (g7_length bwd) (g7_at bwd) (g7_told bwd) = T) : zI l yX7_readPair wsX7_readPair rmX7_readPair .boolean G [.ref (awd 0)] [w7 G awd bwd] T.1 [w7 G awd (s7_at (s7_body (s7_head (s7_sort bwd T.2.1) T.2.2.1) T.2.2.2.1) T.2.2.2.2)] := by
  refine zI.mk (cc := cX7_readPair) (maxL := 1) (by decide +kernel) rfl (Nat.le_of_ble_eq_true rfl) (zfl_cons (wf7 _ _ _ _) rfl) ?_
  intro p e s m args below meth c Q A ls S hK hD hA hP hl hret
  have hx := S.1
  have hb := S.2.1
  have hS : va_S A s.heap s.heap [] := va_S.rf
  have hl : lv_has ls 1 [(0, .ref (awd 0))] := hl
  have hE := hT.symm.trans (FX7_readPair.eq_1 _ _ _ _ _ _ _)
  refine lv_aload_n hx hb dX7_readPair_0 rfl (lv_at hl 0 rfl) ?_
  refine zg7_sort S in_X7_readPair_7 hK hP 0 rfl (List.mem_of_getElem? (i := 1) rfl) dX7_readPair_1 ?_
  refine lv_aload_n hx hb dX7_readPair_4 rfl (lv_at hl 0 rfl) ?_
  refine zg7_told S in_X7_readPair_7 hK hP 0 rfl (List.mem_of_getElem? (i := 2) rfl) (v := (g7_told bwd)) rfl dX7_readPair_5 ?_
  refine lv_iconst (v := 4) hx hb dX7_readPair_8 (by decide) ?_
  refine zs7_sort (bs1 := [w7 G awd (s7_sort bwd (upd (g7_sort bwd) (g7_told bwd).toNatClampNeg 4))]) S hK hP hD hS 0 rfl hi_wd_told (f := (g7_sort bwd)) rfl dX7_readPair_9 rfl (fun H locs hP hD hS => ?_)
  obtain ⟨u9, hu9⟩ : ∃ z, upd (g7_sort bwd) (g7_told bwd).toNatClampNeg 4 = z := ⟨_, rfl⟩
  rw [hu9] at hP hD
  have hE := hE.trans (bnd_eq hu9)
  refine lv_aload_n hx hb dX7_readPair_10 rfl (lv_at hl 0 rfl) ?_
  refine zg7_head S in_X7_readPair_7 hK hP 0 rfl (List.mem_of_getElem? (i := 3) rfl) dX7_readPair_11 ?_
  refine lv_aload_n hx hb dX7_readPair_14 rfl (lv_at hl 0 rfl) ?_
  refine zg7_told S in_X7_readPair_7 hK hP 0 rfl (List.mem_of_getElem? (i := 2) rfl) (v := (g7_told bwd)) (gs7_told_sort _ u9) dX7_readPair_15 ?_
  refine lv_aload_n hx hb dX7_readPair_18 rfl (lv_at hl 0 rfl) ?_
  obtain ⟨t19, ht19⟩ : ∃ z, FX7_readNumber (g7_tape bwd) (g7_length bwd) (g7_at bwd) = z := ⟨_, rfl⟩
  have hE := hE.trans (bnd_eq ht19)
  have hc := c_X7_readNumber l G awd (s7_sort bwd u9) (hw_wd_at) _ (by simp only [gs7_tape_sort, gs7_length_sort, gs7_at_sort]; exact ht19)
  refine zgoI (bs' := [w7 G awd (s7_at (s7_sort bwd u9) t19.2)]) hc [0] rfl rfl rfl hP hD hS hA (va_runV (As := []) (rest := [.int (g7_told bwd), .ref (awd 3)]) S (hc.2 _) (cwV 0 S.2.2.2.2 gX7_readPair_X7_readNumber rfl rfl rfl (by decide +kernel) ⟨Nat.le_of_ble_eq_true rfl, Nat.le_of_ble_eq_true rfl⟩) (zpV hK hP hD (is := [0]) rfl rfl 0 rfl rfl (ci := 7) rfl) rfl rfl hl.1 rfl (lv_room (Nat.le_of_ble_eq_true rfl)) dX7_readPair_19 ⟨Nat.zero_le _, Nat.zero_le _⟩) (fun H locs hn19 hP hD hS => ?_)
  have hw_wd_at_19 : zTp (g7_length bwd) (t19.2) := by rw [← ht19]; exact zTp_readNumber hw_wd_at
  refine zs7_head (bs1 := [w7 G awd (s7_head (s7_at (s7_sort bwd u9) t19.2) (upd (g7_head bwd) (g7_told bwd).toNatClampNeg t19.1))]) S hK hP hD hS 0 rfl hi_wd_told (f := (g7_head bwd)) ((gs7_head_at _ t19.2).trans (gs7_head_sort _ u9)) dX7_readPair_22 rfl (fun H locs hP hD hS => ?_)
  obtain ⟨u22, hu22⟩ : ∃ z, upd (g7_head bwd) (g7_told bwd).toNatClampNeg t19.1 = z := ⟨_, rfl⟩
  rw [hu22] at hP hD
  have hE := hE.trans (bnd_eq hu22)
  refine lv_aload_n hx hb dX7_readPair_23 rfl (lv_at hl 0 rfl) ?_
  refine lv_bipush (v := 62) hx hb dX7_readPair_24 (by decide) ?_
  obtain ⟨t26, ht26⟩ : ∃ z, FX7_take (g7_tape bwd) (g7_length bwd) t19.2 62 = z := ⟨_, rfl⟩
  have hE := hE.trans (bnd_eq ht26)
  have hc := c_X7_take l G awd (s7_head (s7_at (s7_sort bwd u9) t19.2) u22) 62 (hw_wd_at_19) _ (by simp only [gs7_tape_head, gs7_tape_at, gs7_tape_sort, gs7_length_head, gs7_length_at, gs7_length_sort, gs7_at_head, gg7_at]; exact ht26)
  refine zgoI (bs' := [w7 G awd (s7_at (s7_head (s7_at (s7_sort bwd u9) t19.2) u22) t26.2)]) hc [0] rfl rfl rfl hP hD hS hA (va_runV (As := [.int 62]) (rest := []) S (hc.2 _) (cwV 1 S.2.2.2.2 gX7_readPair_X7_take rfl rfl rfl (by decide +kernel) ⟨Nat.le_of_ble_eq_true rfl, Nat.le_of_ble_eq_true rfl⟩) (zpV hK hP hD (is := [0]) rfl rfl 0 rfl rfl (ci := 7) rfl) rfl rfl hl.1 rfl (lv_room (Nat.le_of_ble_eq_true rfl)) dX7_readPair_26 ⟨Nat.zero_le _, Nat.zero_le _⟩) (fun H locs hn26 hP hD hS => ?_)
  have hw_wd_at_26 : zTp (g7_length bwd) (t26.2) := by rw [← ht26]; exact zTp_take hw_wd_at_19
  refine lv_if_ne (tgt := 34) hx hb dX7_readPair_29 (by decide) (fun c29 => ?_) (fun c29 => ?_)
  · have hE := hE.trans (if_neg c29)
    refine lv_aload_n hx hb dX7_readPair_34 rfl (lv_at hl 0 rfl) ?_
    refine zg7_body S in_X7_readPair_7 hK hP 0 rfl (List.mem_of_getElem? (i := 4) rfl) dX7_readPair_35 ?_
    refine lv_aload_n hx hb dX7_readPair_38 rfl (lv_at hl 0 rfl) ?_
    refine zg7_told S in_X7_readPair_7 hK hP 0 rfl (List.mem_of_getElem? (i := 2) rfl) (v := (g7_told bwd)) ((gs7_told_at _ t26.2).trans ((gs7_told_head _ u22).trans ((gs7_told_at _ t19.2).trans (gs7_told_sort _ u9)))) dX7_readPair_39 ?_
    refine lv_aload_n hx hb dX7_readPair_42 rfl (lv_at hl 0 rfl) ?_
    obtain ⟨t43, ht43⟩ : ∃ z, FX7_readNumber (g7_tape bwd) (g7_length bwd) t26.2 = z := ⟨_, rfl⟩
    have hE := hE.trans (bnd_eq ht43)
    have hc := c_X7_readNumber l G awd (s7_at (s7_head (s7_at (s7_sort bwd u9) t19.2) u22) t26.2) (hw_wd_at_26) _ (by simp only [gs7_tape_at, gs7_tape_head, gs7_tape_sort, gs7_length_at, gs7_length_head, gs7_length_sort, gg7_at]; exact ht43)
    refine zgoI (bs' := [w7 G awd (s7_at (s7_at (s7_head (s7_at (s7_sort bwd u9) t19.2) u22) t26.2) t43.2)]) hc [0] rfl rfl rfl hP hD hS hA (va_runV (As := []) (rest := [.int (g7_told bwd), .ref (awd 4)]) S (hc.2 _) (cwV 0 S.2.2.2.2 gX7_readPair_X7_readNumber rfl rfl rfl (by decide +kernel) ⟨Nat.le_of_ble_eq_true rfl, Nat.le_of_ble_eq_true rfl⟩) (zpV hK hP hD (is := [0]) rfl rfl 0 rfl rfl (ci := 7) rfl) rfl rfl hl.1 rfl (lv_room (Nat.le_of_ble_eq_true rfl)) dX7_readPair_43 ⟨Nat.zero_le _, Nat.zero_le _⟩) (fun H locs hn43 hP hD hS => ?_)
    have hw_wd_at_43 : zTp (g7_length bwd) (t43.2) := by rw [← ht43]; exact zTp_readNumber hw_wd_at_26
    refine zs7_body (bs1 := [w7 G awd (s7_body (s7_at (s7_at (s7_head (s7_at (s7_sort bwd u9) t19.2) u22) t26.2) t43.2) (upd (g7_body bwd) (g7_told bwd).toNatClampNeg t43.1))]) S hK hP hD hS 0 rfl hi_wd_told (f := (g7_body bwd)) ((gs7_body_at _ t43.2).trans ((gs7_body_at _ t26.2).trans ((gs7_body_head _ u22).trans ((gs7_body_at _ t19.2).trans (gs7_body_sort _ u9))))) dX7_readPair_46 rfl (fun H locs hP hD hS => ?_)
    obtain ⟨u46, hu46⟩ : ∃ z, upd (g7_body bwd) (g7_told bwd).toNatClampNeg t43.1 = z := ⟨_, rfl⟩
    rw [hu46] at hP hD
    have hE := hE.trans (bnd_eq hu46)
    refine lv_aload_n hx hb dX7_readPair_47 rfl (lv_at hl 0 rfl) ?_
    refine zg7_body S in_X7_readPair_7 hK hP 0 rfl (List.mem_of_getElem? (i := 4) rfl) dX7_readPair_48 ?_
    refine lv_aload_n hx hb dX7_readPair_51 rfl (lv_at hl 0 rfl) ?_
    refine zg7_told S in_X7_readPair_7 hK hP 0 rfl (List.mem_of_getElem? (i := 2) rfl) (v := (g7_told bwd)) ((gs7_told_body _ u46).trans ((gs7_told_at _ t43.2).trans ((gs7_told_at _ t26.2).trans ((gs7_told_head _ u22).trans ((gs7_told_at _ t19.2).trans (gs7_told_sort _ u9)))))) dX7_readPair_52 ?_
    refine zl7_body S hK hP 0 rfl hi_wd_told (f := u46) (gg7_body _ u46) dX7_readPair_55 ?_
    refine lv_iconst (v := (-1)) hx hb dX7_readPair_56 (by decide) ?_
    refine lv_icmp_eq (tgt := 64) hx hb dX7_readPair_57 (by decide) (fun c57 => ?_) (fun c57 => ?_)
    · have hE := hE.trans (if_pos c57)
      refine lv_iconst (v := 0) hx hb dX7_readPair_64 (by decide) ?_
      rw [show (s7_body (s7_at (s7_at (s7_head (s7_at (s7_sort bwd u9) t19.2) u22) t26.2) t43.2) u46) = (s7_at (s7_body (s7_head (s7_sort bwd u9) u22) u46) t43.2) from ((congrArg (fun z => s7_body z u46) ((congrArg (fun z => s7_at z t43.2) ((congrArg (fun z => s7_at z t26.2) (cm7_head_at _ t19.2 u22)).trans (ss7_at _ t19.2 t26.2))).trans (ss7_at _ t26.2 t43.2))).trans (cm7_body_at _ t43.2 u46))] at hP hD
      exact hret _ _ _ _ _ _ (by subst hE; rfl) zn0 hP hS dX7_readPair_65
    · have hE := hE.trans (if_neg c57)
      refine lv_iconst (v := 1) hx hb dX7_readPair_60 (by decide) ?_
      refine lv_goto (tgt := 65) hx hb dX7_readPair_61 (by decide) ?_
      rw [show (s7_body (s7_at (s7_at (s7_head (s7_at (s7_sort bwd u9) t19.2) u22) t26.2) t43.2) u46) = (s7_at (s7_body (s7_head (s7_sort bwd u9) u22) u46) t43.2) from ((congrArg (fun z => s7_body z u46) ((congrArg (fun z => s7_at z t43.2) ((congrArg (fun z => s7_at z t26.2) (cm7_head_at _ t19.2 u22)).trans (ss7_at _ t19.2 t26.2))).trans (ss7_at _ t26.2 t43.2))).trans (cm7_body_at _ t43.2 u46))] at hP hD
      exact hret _ _ _ _ _ _ (by subst hE; rfl) zn1 hP hS dX7_readPair_65
  · have hE := hE.trans (if_pos c29)
    refine lv_iconst (v := 0) hx hb dX7_readPair_32 (by decide) ?_
    rw [show (s7_at (s7_head (s7_at (s7_sort bwd u9) t19.2) u22) t26.2) = (s7_at (s7_body (s7_head (s7_sort bwd u9) u22) (g7_body bwd)) t26.2) from (((congrArg (fun z => s7_at z t26.2) (cm7_head_at _ t19.2 u22)).trans (ss7_at _ t19.2 t26.2)).trans (congrArg (fun z => s7_at z t26.2) (((se7_body _).symm).trans (congrArg (fun v => s7_body (s7_head (s7_sort bwd u9) u22) v) ((gs7_body_head _ u22).trans (gs7_body_sort _ u9))))))] at hP hD
    exact hret _ _ _ _ _ _ (by subst hE; rfl) zn0 hP hS dX7_readPair_33

theorem zTp_readPair {t a b c : Nat → Int32} {l q o : Int32} (h : zTp l q) : zTp l (FX7_readPair t a b c l q o).2.2.2.2 := by
  simp only [FX7_readPair, bnd]
  repeat' split
  all_goals (try dsimp only)
  all_goals (repeat (first | exact h | apply zTp_take | apply zTp_readLiterals | apply zTp_readLiteral | apply zTp_readFigure | apply zTp_readArrow | apply zTp_readNumber | apply zTp_readFact | apply zTp_readPair | apply zTp_readRule))

theorem in_X7_startsWithArrow_7 : ∀ w ∈ u_ws RX7 TX7 10, w ∈ wsX7_startsWithArrow := by decide +kernel
def rmX7_startsWithArrow : Room := { frames := 1, cells := 0, slots := 0, locals := 20 }
set_option maxHeartbeats 4000000 in
set_option maxRecDepth 100000 in
theorem c_X7_startsWithArrow (l : Launch) (G : zG) (awd : Nat → Nat) (bwd : S7) (hw_wd_at : zTp (g7_length bwd) (g7_at bwd)) (T : Int32) (hT : FX7_startsWithArrow (g7_tape bwd) (g7_length bwd) (g7_at bwd) = T) : zR l yX7_startsWithArrow wsX7_startsWithArrow rmX7_startsWithArrow .boolean G [.ref (awd 0)] [w7 G awd bwd] T := by
  refine zR.mk (cc := cX7_startsWithArrow) (maxL := 2) (by decide +kernel) rfl (Nat.le_of_ble_eq_true rfl) ?_
  intro p e s m args below meth c Q A ls S hK hD hA hP hl hret
  have hx := S.1
  have hb := S.2.1
  have hl : lv_has ls 2 [(0, .ref (awd 0))] := hl
  have hE := hT.symm.trans (FX7_startsWithArrow.eq_1 _ _ _)
  refine lv_aload_n hx hb dX7_startsWithArrow_0 rfl (lv_at hl 0 rfl) ?_
  obtain ⟨t1, ht1⟩ : ∃ z, FX7_next (g7_tape bwd) (g7_length bwd) (g7_at bwd) = z := ⟨_, rfl⟩
  have hE := hE.trans (bnd_eq ht1)
  have hc := c_X7_next l G awd bwd (hw_wd_at) _ ht1
  refine zgoR (va_runV (As := []) (rest := []) S (hc _) (cwV 0 S.2.2.2.2 gX7_startsWithArrow_X7_next rfl rfl rfl (by decide +kernel) ⟨Nat.le_of_ble_eq_true rfl, Nat.le_of_ble_eq_true rfl⟩) (zpV hK hP hD (is := [0]) rfl rfl 0 rfl rfl (ci := 7) rfl) rfl rfl hl.1 rfl (lv_room (Nat.le_of_ble_eq_true rfl)) dX7_startsWithArrow_1 ⟨Nat.zero_le _, Nat.zero_le _⟩) (fun hn1 => ?_)
  refine lv_istore_n (lv' := [(1, .int t1), (0, .ref (awd 0))]) hx hb dX7_startsWithArrow_4 rfl hl (by decide) rfl (fun ls hl => ?_)
  refine lv_iload_n hx hb dX7_startsWithArrow_5 rfl (lv_at hl 0 rfl) ?_
  refine lv_bipush (v := 126) hx hb dX7_startsWithArrow_6 (by decide) ?_
  refine lv_icmp_ne (tgt := 46) hx hb dX7_startsWithArrow_8 (by decide) (fun c8 => ?_) (fun c8 => ?_)
  · have hE := hE.trans (if_neg c8)
    refine lv_iload_n hx hb dX7_startsWithArrow_46 rfl (lv_at hl 0 rfl) ?_
    refine lv_bipush (v := 45) hx hb dX7_startsWithArrow_47 (by decide) ?_
    refine lv_icmp_eq (tgt := 58) hx hb dX7_startsWithArrow_49 (by decide) (fun c49 => ?_) (fun c49 => ?_)
    · have hE := hE.trans (if_pos c49)
      refine lv_iconst (v := 1) hx hb dX7_startsWithArrow_58 (by decide) ?_
      refine lv_goto (tgt := 63) hx hb dX7_startsWithArrow_59 (by decide) ?_
      exact hret _ _ _ hE zn1 dX7_startsWithArrow_63
    · have hE := hE.trans (if_neg c49)
      refine lv_iload_n hx hb dX7_startsWithArrow_52 rfl (lv_at hl 0 rfl) ?_
      refine lv_bipush (v := 61) hx hb dX7_startsWithArrow_53 (by decide) ?_
      refine lv_icmp_ne (tgt := 62) hx hb dX7_startsWithArrow_55 (by decide) (fun c55 => ?_) (fun c55 => ?_)
      · have hE := hE.trans (if_neg c55)
        refine lv_iconst (v := 0) hx hb dX7_startsWithArrow_62 (by decide) ?_
        exact hret _ _ _ hE zn0 dX7_startsWithArrow_63
      · have hE := hE.trans (if_pos c55)
        refine lv_iconst (v := 1) hx hb dX7_startsWithArrow_58 (by decide) ?_
        refine lv_goto (tgt := 63) hx hb dX7_startsWithArrow_59 (by decide) ?_
        exact hret _ _ _ hE zn1 dX7_startsWithArrow_63
  · have hE := hE.trans (if_pos c8)
    refine lv_aload_n hx hb dX7_startsWithArrow_11 rfl (lv_at hl 1 rfl) ?_
    refine zg7_at S in_X7_startsWithArrow_7 hK hP 0 rfl (List.mem_of_getElem? (i := 1) rfl) (v := (g7_at bwd)) rfl dX7_startsWithArrow_12 ?_
    refine lv_iconst (v := 1) hx hb dX7_startsWithArrow_15 (by decide) ?_
    refine lv_iadd hx hb dX7_startsWithArrow_16 ?_
    refine lv_aload_n hx hb dX7_startsWithArrow_17 rfl (lv_at hl 1 rfl) ?_
    refine zg7_length S in_X7_startsWithArrow_7 hK hP 0 rfl (List.mem_of_getElem? (i := 2) rfl) (v := (g7_length bwd)) rfl dX7_startsWithArrow_18 ?_
    refine lv_icmp_ge (tgt := 44) hx hb dX7_startsWithArrow_21 (by decide) (fun c21 => ?_) (fun c21 => ?_)
    · have hE := hE.trans (if_pos c21)
      refine lv_iconst (v := 0) hx hb dX7_startsWithArrow_44 (by decide) ?_
      exact hret _ _ _ hE zn0 dX7_startsWithArrow_45
    · have hE := hE.trans (if_neg c21)
      refine lv_aload_n hx hb dX7_startsWithArrow_24 rfl (lv_at hl 1 rfl) ?_
      refine zg7_tape S in_X7_startsWithArrow_7 hK hP 0 rfl (List.mem_of_getElem? (i := 3) rfl) dX7_startsWithArrow_25 ?_
      refine lv_aload_n hx hb dX7_startsWithArrow_28 rfl (lv_at hl 1 rfl) ?_
      refine zg7_at S in_X7_startsWithArrow_7 hK hP 0 rfl (List.mem_of_getElem? (i := 1) rfl) (v := (g7_at bwd)) rfl dX7_startsWithArrow_29 ?_
      refine lv_iconst (v := 1) hx hb dX7_startsWithArrow_32 (by decide) ?_
      refine lv_iadd hx hb dX7_startsWithArrow_33 ?_
      refine zl7_tape S hK hP 0 rfl (zTp_in1 hw_wd_at c21) (f := (g7_tape bwd)) rfl dX7_startsWithArrow_34 ?_
      refine lv_bipush (v := 62) hx hb dX7_startsWithArrow_35 (by decide) ?_
      refine lv_icmp_ne (tgt := 44) hx hb dX7_startsWithArrow_37 (by decide) (fun c37 => ?_) (fun c37 => ?_)
      · have hE := hE.trans (if_neg c37)
        refine lv_iconst (v := 0) hx hb dX7_startsWithArrow_44 (by decide) ?_
        exact hret _ _ _ hE zn0 dX7_startsWithArrow_45
      · have hE := hE.trans (if_pos c37)
        refine lv_iconst (v := 1) hx hb dX7_startsWithArrow_40 (by decide) ?_
        refine lv_goto (tgt := 45) hx hb dX7_startsWithArrow_41 (by decide) ?_
        exact hret _ _ _ hE zn1 dX7_startsWithArrow_45

def rmX7_readLiterals : Room := { frames := 2, cells := 0, slots := 0, locals := 44 }
set_option maxHeartbeats 4000000 in
set_option maxRecDepth 100000 in
theorem c_X7_readLiterals (l : Launch) (G : zG) (awd : Nat → Nat) (bwd : S7) (hw_wd_at : zTp (g7_length bwd) (g7_at bwd)) (T : Int32 × (Int32)) (hT : FX7_readLiterals (g7_tape bwd) (g7_length bwd) (g7_at bwd) = T) : zI l yX7_readLiterals wsX7_readLiterals rmX7_readLiterals .int G [.ref (awd 0)] [w7 G awd bwd] T.1 [w7 G awd (s7_at bwd T.2)] := by
  refine zI.mk (cc := cX7_readLiterals) (maxL := 5) (by decide +kernel) rfl (Nat.le_of_ble_eq_true rfl) (zfl_cons (wf7 _ _ _ _) rfl) ?_
  intro p e s m args below meth c Q A ls S hK hD hA hP hl hret
  have hx := S.1
  have hb := S.2.1
  have hS : va_S A s.heap s.heap [] := va_S.rf
  have hl : lv_has ls 5 [(0, .ref (awd 0))] := hl
  have hE := hT.symm.trans (FX7_readLiterals.eq_1 _ _ _)
  refine lv_iconst (v := 0) hx hb dX7_readLiterals_0 (by decide) ?_
  refine lv_istore_n (lv' := [(1, .int 0), (0, .ref (awd 0))]) hx hb dX7_readLiterals_1 rfl hl (by decide) rfl (fun ls hl => ?_)
  refine lv_iconst (v := 1) hx hb dX7_readLiterals_2 (by decide) ?_
  refine lv_istore_n (lv' := [(2, .int 1), (1, .int 0), (0, .ref (awd 0))]) hx hb dX7_readLiterals_3 rfl hl (by decide) rfl (fun ls hl => ?_)
  refine lv_iconst (v := 0) hx hb dX7_readLiterals_4 (by decide) ?_
  have hB50 : ∀ (x1_50 : Int32) (wd_at_50 : Int32) (H : Heap) (locs : List Loc) (ls : Array Slot), (zTp (g7_length bwd) (wd_at_50)) → T = FX7_readLiterals_50 (g7_tape bwd) (g7_length bwd) (g7_at bwd) x1_50 wd_at_50 → zP G [w7 G awd (s7_at bwd wd_at_50)] H → zD A [w7 G awd (s7_at bwd wd_at_50)] → va_S A s.heap H locs → lv_has ls 5 [(1, .int x1_50)] → W p l e rmX7_readLiterals s m args below meth c H locs 0 0 Q (F0 m 50 ls []) := by
    intro x1_50 wd_at_50 H locs ls hw_wd_at_B50 hE hP hD hS hl
    have hE := hE.trans (FX7_readLiterals_50.eq_1 _ _ _ _ _)
    refine lv_iload_n hx hb dX7_readLiterals_50 rfl (lv_at hl 0 rfl) ?_
    exact hret _ _ _ _ _ _ (by subst hE; rfl) rfl hP hS dX7_readLiterals_51
  have hB6 : ∀ (n6 : Nat) (x1_6 : Int32) (x2_6 : Int32) (i3_6 : Nat) (wd_at_6 : Int32) (H : Heap) (locs : List Loc) (ls : Array Slot), (i3_6 ≤ 120) → (zTp (g7_length bwd) (wd_at_6)) → 121 ≤ i3_6 + n6 → T = FX7_readLiterals_6 (g7_tape bwd) (g7_length bwd) (g7_at bwd) (FX7_readLiterals_50 (g7_tape bwd) (g7_length bwd) (g7_at bwd)) n6 x1_6 x2_6 (nI i3_6) wd_at_6 → zP G [w7 G awd (s7_at bwd wd_at_6)] H → zD A [w7 G awd (s7_at bwd wd_at_6)] → va_S A s.heap H locs → lv_has ls 5 [(0, .ref (awd 0)), (1, .int x1_6), (2, .int x2_6), (3, .int (nI i3_6))] → W p l e rmX7_readLiterals s m args below meth c H locs 0 0 Q (F0 m 6 ls []) := by
    intro n6
    induction n6 with
    | zero =>
      intro x1_6 x2_6 i3_6 wd_at_6 H locs ls hi3_6 hw_wd_at_B6 hn hE hP hD hS hl
      exact absurd hn (by omega)
    | succ n6 ih6 =>
      intro x1_6 x2_6 i3_6 wd_at_6 H locs ls hi3_6 hw_wd_at_B6 hn hE hP hD hS hl
      have hE := hE.trans (FX7_readLiterals_6.eq_2 _ _ _ _ _ _ _ _ _)
      refine lv_iload_n hx hb dX7_readLiterals_6 rfl (lv_at hl 3 rfl) ?_
      refine lv_bipush (v := 120) hx hb dX7_readLiterals_7 (by decide) ?_
      refine lv_icmp_ge (tgt := 50) hx hb dX7_readLiterals_9 (by decide) (fun c9 => ?_) (fun c9 => ?_)
      · have hE := hE.trans (if_pos c9)
        exact hB50 x1_6 wd_at_6 _ _ _ (by exact hw_wd_at_B6) hE hP hD hS (lv_sub hl [1] rfl)
      · have hE := hE.trans (if_neg c9)
        have hl3_6 : i3_6 < 120 := zlt (N := 120) rfl (by omega) (by omega) c9
        refine lv_iload_n hx hb dX7_readLiterals_12 rfl (lv_at hl 2 rfl) ?_
        refine lv_if_eq (tgt := 50) hx hb dX7_readLiterals_13 (by decide) (fun c13 => ?_) (fun c13 => ?_)
        · have hE := hE.trans (if_pos c13)
          exact hB50 x1_6 wd_at_6 _ _ _ (by exact hw_wd_at_B6) hE hP hD hS (lv_sub hl [1] rfl)
        · have hE := hE.trans (if_neg c13)
          refine lv_aload_n hx hb dX7_readLiterals_16 rfl (lv_at hl 0 rfl) ?_
          obtain ⟨t17, ht17⟩ : ∃ z, FX7_readLiteral (g7_tape bwd) (g7_length bwd) wd_at_6 = z := ⟨_, rfl⟩
          have hE := hE.trans (bnd_eq ht17)
          have hc := c_X7_readLiteral l G awd (s7_at bwd wd_at_6) (hw_wd_at_B6) _ (by simp only [gs7_tape_at, gs7_length_at, gg7_at]; exact ht17)
          refine zgoI (bs' := [w7 G awd (s7_at (s7_at bwd wd_at_6) t17.2)]) hc [0] rfl rfl rfl hP hD hS hA (va_runV (As := []) (rest := []) S (hc.2 _) (cwV 0 S.2.2.2.2 gX7_readLiterals_X7_readLiteral rfl rfl rfl (by decide +kernel) ⟨Nat.le_of_ble_eq_true rfl, Nat.le_of_ble_eq_true rfl⟩) (zpV hK hP hD (is := [0]) rfl rfl 0 rfl rfl (ci := 7) rfl) rfl rfl hl.1 rfl (lv_room (Nat.le_of_ble_eq_true rfl)) dX7_readLiterals_17 ⟨Nat.zero_le _, Nat.zero_le _⟩) (fun H locs hn17 hP hD hS => ?_)
          have hw_wd_at_17 : zTp (g7_length bwd) (t17.2) := by rw [← ht17]; exact zTp_readLiteral hw_wd_at_B6
          refine lv_istore (lv' := [(4, .int t17.1), (0, .ref (awd 0)), (1, .int x1_6), (2, .int x2_6), (3, .int (nI i3_6))]) hx hb dX7_readLiterals_20 hl (by decide) rfl (fun ls hl => ?_)
          refine lv_iload hx hb dX7_readLiterals_22 (lv_at hl 0 rfl) ?_
          refine lv_iconst (v := (-1)) hx hb dX7_readLiterals_24 (by decide) ?_
          refine lv_icmp_ne (tgt := 30) hx hb dX7_readLiterals_25 (by decide) (fun c25 => ?_) (fun c25 => ?_)
          · have hE := hE.trans (if_neg c25)
            refine lv_iload_n hx hb dX7_readLiterals_30 rfl (lv_at hl 2 rfl) ?_
            refine lv_iconst (v := 1) hx hb dX7_readLiterals_31 (by decide) ?_
            refine lv_iload hx hb dX7_readLiterals_32 (lv_at hl 0 rfl) ?_
            refine lv_ishl hx hb dX7_readLiterals_34 ?_
            refine lv_ior hx hb dX7_readLiterals_35 ?_
            refine lv_istore_n (lv' := [(1, .int (x1_6 ||| (1 <<< (t17.1 &&& 31)))), (4, .int t17.1), (0, .ref (awd 0)), (2, .int x2_6), (3, .int (nI i3_6))]) hx hb dX7_readLiterals_36 rfl hl (by decide) rfl (fun ls hl => ?_)
            refine lv_aload_n hx hb dX7_readLiterals_37 rfl (lv_at hl 2 rfl) ?_
            refine lv_bipush (v := 44) hx hb dX7_readLiterals_38 (by decide) ?_
            obtain ⟨t40, ht40⟩ : ∃ z, FX7_take (g7_tape bwd) (g7_length bwd) t17.2 44 = z := ⟨_, rfl⟩
            have hE := hE.trans (bnd_eq ht40)
            have hc := c_X7_take l G awd (s7_at (s7_at bwd wd_at_6) t17.2) 44 (hw_wd_at_17) _ (by simp only [gs7_tape_at, gs7_length_at, gg7_at]; exact ht40)
            refine zgoI (bs' := [w7 G awd (s7_at (s7_at (s7_at bwd wd_at_6) t17.2) t40.2)]) hc [0] rfl rfl rfl hP hD hS hA (va_runV (As := [.int 44]) (rest := []) S (hc.2 _) (cwV 1 S.2.2.2.2 gX7_readLiterals_X7_take rfl rfl rfl (by decide +kernel) ⟨Nat.le_of_ble_eq_true rfl, Nat.le_of_ble_eq_true rfl⟩) (zpV hK hP hD (is := [0]) rfl rfl 0 rfl rfl (ci := 7) rfl) rfl rfl hl.1 rfl (lv_room (Nat.le_of_ble_eq_true rfl)) dX7_readLiterals_40 ⟨Nat.zero_le _, Nat.zero_le _⟩) (fun H locs hn40 hP hD hS => ?_)
            have hw_wd_at_40 : zTp (g7_length bwd) (t40.2) := by rw [← ht40]; exact zTp_take hw_wd_at_17
            refine lv_istore_n (lv' := [(2, .int t40.1), (1, .int (x1_6 ||| (1 <<< (t17.1 &&& 31)))), (4, .int t17.1), (0, .ref (awd 0)), (3, .int (nI i3_6))]) hx hb dX7_readLiterals_43 rfl hl (by decide) rfl (fun ls hl => ?_)
            refine lv_iinc (v := (nI (i3_6 + 1))) (lv' := [(3, .int (nI (i3_6 + 1))), (2, .int t40.1), (1, .int (x1_6 ||| (1 <<< (t17.1 &&& 31)))), (4, .int t17.1), (0, .ref (awd 0))]) hx hb dX7_readLiterals_44 hl (k := 4) rfl (nI_1 i3_6) (by decide) rfl (fun ls hl => ?_)
            try rw [nI_1 i3_6] at hE
            refine lv_goto (tgt := 6) hx hb dX7_readLiterals_47 (by decide) ?_
            rw [show (s7_at (s7_at (s7_at bwd wd_at_6) t17.2) t40.2) = (s7_at bwd t40.2) from ((congrArg (fun z => s7_at z t40.2) (ss7_at _ wd_at_6 t17.2)).trans (ss7_at _ t17.2 t40.2))] at hP hD
            exact ih6 (x1_6 ||| (1 <<< (t17.1 &&& 31))) t40.1 (i3_6 + 1) t40.2 _ _ _ (by first | assumption | omega) (by exact hw_wd_at_40) (by omega) hE hP hD hS (lv_sub hl [4, 2, 1, 0] rfl)
          · have hE := hE.trans (if_pos c25)
            refine lv_iconst (v := (-1)) hx hb dX7_readLiterals_28 (by decide) ?_
            rw [show (s7_at (s7_at bwd wd_at_6) t17.2) = (s7_at bwd t17.2) from (ss7_at _ wd_at_6 t17.2)] at hP hD
            exact hret _ _ _ _ _ _ (by subst hE; rfl) rfl hP hS dX7_readLiterals_29
  refine lv_istore_n (lv' := [(3, .int 0), (2, .int 1), (1, .int 0), (0, .ref (awd 0))]) hx hb dX7_readLiterals_5 rfl hl (by decide) rfl (fun ls hl => ?_)
  rw [show bwd = (s7_at bwd (g7_at bwd)) from ((se7_at _).symm)] at hP hD
  exact hB6 121 0 1 0 (g7_at bwd) _ _ _ (by first | assumption | omega) (by exact hw_wd_at) (by omega) hE hP hD hS (lv_sub hl [3, 2, 1, 0] rfl)

theorem zTp_readLiterals_6 {t : Nat → Int32} {l q0 : Int32} {kt : Int32 → Int32 → Int32 × Int32} (hk : ∀ x q, zTp l q → zTp l (kt x q).2) : ∀ (n : Nat) (x1 x2 x3 q : Int32), zTp l q → zTp l (FX7_readLiterals_6 t l q0 kt n x1 x2 x3 q).2
  | 0, x1, x2, x3, q, h => hk _ _ h
  | n + 1, x1, x2, x3, q, h => by
    have h1 := zTp_readLiteral (t := t) h
    have h2 := zTp_take (t := t) (x := 44) h1
    simp only [FX7_readLiterals_6, bnd]
    repeat' split
    all_goals first | exact hk _ _ h | exact h1 | exact zTp_readLiterals_6 hk n _ _ _ _ h2
theorem zTp_readLiterals {t : Nat → Int32} {l q : Int32} (h : zTp l q) : zTp l (FX7_readLiterals t l q).2 := zTp_readLiterals_6 (fun _ _ h => h) _ _ _ _ _ h

def rmX7_readArrow : Room := { frames := 1, cells := 0, slots := 0, locals := 21 }
set_option maxHeartbeats 4000000 in
set_option maxRecDepth 100000 in
theorem c_X7_readArrow (l : Launch) (G : zG) (awd : Nat → Nat) (bwd : S7) (hw_wd_at : zTp (g7_length bwd) (g7_at bwd)) (T : Int32 × (Int32)) (hT : FX7_readArrow (g7_tape bwd) (g7_length bwd) (g7_at bwd) = T) : zI l yX7_readArrow wsX7_readArrow rmX7_readArrow .int G [.ref (awd 0)] [w7 G awd bwd] T.1 [w7 G awd (s7_at bwd T.2)] := by
  refine zI.mk (cc := cX7_readArrow) (maxL := 2) (by decide +kernel) rfl (Nat.le_of_ble_eq_true rfl) (zfl_cons (wf7 _ _ _ _) rfl) ?_
  intro p e s m args below meth c Q A ls S hK hD hA hP hl hret
  have hx := S.1
  have hb := S.2.1
  have hS : va_S A s.heap s.heap [] := va_S.rf
  have hl : lv_has ls 2 [(0, .ref (awd 0))] := hl
  have hE := hT.symm.trans (FX7_readArrow.eq_1 _ _ _)
  refine lv_iconst (v := (-1)) hx hb dX7_readArrow_0 (by decide) ?_
  refine lv_istore_n (lv' := [(1, .int (-1)), (0, .ref (awd 0))]) hx hb dX7_readArrow_1 rfl hl (by decide) rfl (fun ls hl => ?_)
  refine lv_aload_n hx hb dX7_readArrow_2 rfl (lv_at hl 1 rfl) ?_
  refine lv_bipush (v := 45) hx hb dX7_readArrow_3 (by decide) ?_
  obtain ⟨t5, ht5⟩ : ∃ z, FX7_take (g7_tape bwd) (g7_length bwd) (g7_at bwd) 45 = z := ⟨_, rfl⟩
  have hE := hE.trans (bnd_eq ht5)
  have hc := c_X7_take l G awd bwd 45 (hw_wd_at) _ ht5
  refine zgoI (bs' := [w7 G awd (s7_at bwd t5.2)]) hc [0] rfl rfl rfl hP hD hS hA (va_runV (As := [.int 45]) (rest := []) S (hc.2 _) (cwV 1 S.2.2.2.2 gX7_readArrow_X7_take rfl rfl rfl (by decide +kernel) ⟨Nat.le_of_ble_eq_true rfl, Nat.le_of_ble_eq_true rfl⟩) (zpV hK hP hD (is := [0]) rfl rfl 0 rfl rfl (ci := 7) rfl) rfl rfl hl.1 rfl (lv_room (Nat.le_of_ble_eq_true rfl)) dX7_readArrow_5 ⟨Nat.zero_le _, Nat.zero_le _⟩) (fun H locs hn5 hP hD hS => ?_)
  have hw_wd_at_5 : zTp (g7_length bwd) (t5.2) := by rw [← ht5]; exact zTp_take hw_wd_at
  have hB41 : ∀ (x1_41 : Int32) (wd_at_41 : Int32) (H : Heap) (locs : List Loc) (ls : Array Slot), (zTp (g7_length bwd) (wd_at_41)) → T = FX7_readArrow_41 (g7_tape bwd) (g7_length bwd) (g7_at bwd) x1_41 wd_at_41 → zP G [w7 G awd (s7_at bwd wd_at_41)] H → zD A [w7 G awd (s7_at bwd wd_at_41)] → va_S A s.heap H locs → lv_has ls 2 [(0, .ref (awd 0)), (1, .int x1_41)] → W p l e rmX7_readArrow s m args below meth c H locs 0 0 Q (F0 m 41 ls []) := by
    intro x1_41 wd_at_41 H locs ls hw_wd_at_B41 hE hP hD hS hl
    have hE := hE.trans (FX7_readArrow_41.eq_1 _ _ _ _ _)
    refine lv_iload_n hx hb dX7_readArrow_41 rfl (lv_at hl 1 rfl) ?_
    refine lv_iconst (v := (-1)) hx hb dX7_readArrow_42 (by decide) ?_
    refine lv_icmp_eq (tgt := 59) hx hb dX7_readArrow_43 (by decide) (fun c43 => ?_) (fun c43 => ?_)
    · have hE := hE.trans (if_pos c43)
      refine lv_iconst (v := (-1)) hx hb dX7_readArrow_59 (by decide) ?_
      exact hret _ _ _ _ _ _ (by subst hE; rfl) rfl hP hS dX7_readArrow_60
    · have hE := hE.trans (if_neg c43)
      refine lv_aload_n hx hb dX7_readArrow_46 rfl (lv_at hl 0 rfl) ?_
      refine lv_bipush (v := 62) hx hb dX7_readArrow_47 (by decide) ?_
      obtain ⟨t49, ht49⟩ : ∃ z, FX7_take (g7_tape bwd) (g7_length bwd) wd_at_41 62 = z := ⟨_, rfl⟩
      have hE := hE.trans (bnd_eq ht49)
      have hc := c_X7_take l G awd (s7_at bwd wd_at_41) 62 (hw_wd_at_B41) _ (by simp only [gs7_tape_at, gs7_length_at, gg7_at]; exact ht49)
      refine zgoI (bs' := [w7 G awd (s7_at (s7_at bwd wd_at_41) t49.2)]) hc [0] rfl rfl rfl hP hD hS hA (va_runV (As := [.int 62]) (rest := []) S (hc.2 _) (cwV 1 S.2.2.2.2 gX7_readArrow_X7_take rfl rfl rfl (by decide +kernel) ⟨Nat.le_of_ble_eq_true rfl, Nat.le_of_ble_eq_true rfl⟩) (zpV hK hP hD (is := [0]) rfl rfl 0 rfl rfl (ci := 7) rfl) rfl rfl hl.1 rfl (lv_room (Nat.le_of_ble_eq_true rfl)) dX7_readArrow_49 ⟨Nat.zero_le _, Nat.zero_le _⟩) (fun H locs hn49 hP hD hS => ?_)
      have hw_wd_at_49 : zTp (g7_length bwd) (t49.2) := by rw [← ht49]; exact zTp_take hw_wd_at_B41
      refine lv_if_eq (tgt := 59) hx hb dX7_readArrow_52 (by decide) (fun c52 => ?_) (fun c52 => ?_)
      · have hE := hE.trans (if_pos c52)
        refine lv_iconst (v := (-1)) hx hb dX7_readArrow_59 (by decide) ?_
        rw [show (s7_at (s7_at bwd wd_at_41) t49.2) = (s7_at bwd t49.2) from (ss7_at _ wd_at_41 t49.2)] at hP hD
        exact hret _ _ _ _ _ _ (by subst hE; rfl) rfl hP hS dX7_readArrow_60
      · have hE := hE.trans (if_neg c52)
        refine lv_iload_n hx hb dX7_readArrow_55 rfl (lv_at hl 1 rfl) ?_
        refine lv_goto (tgt := 60) hx hb dX7_readArrow_56 (by decide) ?_
        rw [show (s7_at (s7_at bwd wd_at_41) t49.2) = (s7_at bwd t49.2) from (ss7_at _ wd_at_41 t49.2)] at hP hD
        exact hret _ _ _ _ _ _ (by subst hE; rfl) rfl hP hS dX7_readArrow_60
  refine lv_if_eq (tgt := 16) hx hb dX7_readArrow_8 (by decide) (fun c8 => ?_) (fun c8 => ?_)
  · have hE := hE.trans (if_pos c8)
    refine lv_aload_n hx hb dX7_readArrow_16 rfl (lv_at hl 1 rfl) ?_
    refine lv_bipush (v := 61) hx hb dX7_readArrow_17 (by decide) ?_
    obtain ⟨t19, ht19⟩ : ∃ z, FX7_take (g7_tape bwd) (g7_length bwd) t5.2 61 = z := ⟨_, rfl⟩
    have hE := hE.trans (bnd_eq ht19)
    have hc := c_X7_take l G awd (s7_at bwd t5.2) 61 (hw_wd_at_5) _ (by simp only [gs7_tape_at, gs7_length_at, gg7_at]; exact ht19)
    refine zgoI (bs' := [w7 G awd (s7_at (s7_at bwd t5.2) t19.2)]) hc [0] rfl rfl rfl hP hD hS hA (va_runV (As := [.int 61]) (rest := []) S (hc.2 _) (cwV 1 S.2.2.2.2 gX7_readArrow_X7_take rfl rfl rfl (by decide +kernel) ⟨Nat.le_of_ble_eq_true rfl, Nat.le_of_ble_eq_true rfl⟩) (zpV hK hP hD (is := [0]) rfl rfl 0 rfl rfl (ci := 7) rfl) rfl rfl hl.1 rfl (lv_room (Nat.le_of_ble_eq_true rfl)) dX7_readArrow_19 ⟨Nat.zero_le _, Nat.zero_le _⟩) (fun H locs hn19 hP hD hS => ?_)
    have hw_wd_at_19 : zTp (g7_length bwd) (t19.2) := by rw [← ht19]; exact zTp_take hw_wd_at_5
    refine lv_if_eq (tgt := 30) hx hb dX7_readArrow_22 (by decide) (fun c22 => ?_) (fun c22 => ?_)
    · have hE := hE.trans (if_pos c22)
      refine lv_aload_n hx hb dX7_readArrow_30 rfl (lv_at hl 1 rfl) ?_
      refine lv_bipush (v := 126) hx hb dX7_readArrow_31 (by decide) ?_
      obtain ⟨t33, ht33⟩ : ∃ z, FX7_take (g7_tape bwd) (g7_length bwd) t19.2 126 = z := ⟨_, rfl⟩
      have hE := hE.trans (bnd_eq ht33)
      have hc := c_X7_take l G awd (s7_at (s7_at bwd t5.2) t19.2) 126 (hw_wd_at_19) _ (by simp only [gs7_tape_at, gs7_length_at, gg7_at]; exact ht33)
      refine zgoI (bs' := [w7 G awd (s7_at (s7_at (s7_at bwd t5.2) t19.2) t33.2)]) hc [0] rfl rfl rfl hP hD hS hA (va_runV (As := [.int 126]) (rest := []) S (hc.2 _) (cwV 1 S.2.2.2.2 gX7_readArrow_X7_take rfl rfl rfl (by decide +kernel) ⟨Nat.le_of_ble_eq_true rfl, Nat.le_of_ble_eq_true rfl⟩) (zpV hK hP hD (is := [0]) rfl rfl 0 rfl rfl (ci := 7) rfl) rfl rfl hl.1 rfl (lv_room (Nat.le_of_ble_eq_true rfl)) dX7_readArrow_33 ⟨Nat.zero_le _, Nat.zero_le _⟩) (fun H locs hn33 hP hD hS => ?_)
      have hw_wd_at_33 : zTp (g7_length bwd) (t33.2) := by rw [← ht33]; exact zTp_take hw_wd_at_19
      refine lv_if_eq (tgt := 41) hx hb dX7_readArrow_36 (by decide) (fun c36 => ?_) (fun c36 => ?_)
      · have hE := hE.trans (if_pos c36)
        rw [show (s7_at (s7_at (s7_at bwd t5.2) t19.2) t33.2) = (s7_at bwd t33.2) from ((congrArg (fun z => s7_at z t33.2) (ss7_at _ t5.2 t19.2)).trans (ss7_at _ t19.2 t33.2))] at hP hD
        exact hB41 (-1) t33.2 _ _ _ (by exact hw_wd_at_33) hE hP hD hS (lv_sub hl [1, 0] rfl)
      · have hE := hE.trans (if_neg c36)
        refine lv_iconst (v := 2) hx hb dX7_readArrow_39 (by decide) ?_
        refine lv_istore_n (lv' := [(1, .int 2), (0, .ref (awd 0))]) hx hb dX7_readArrow_40 rfl hl (by decide) rfl (fun ls hl => ?_)
        rw [show (s7_at (s7_at (s7_at bwd t5.2) t19.2) t33.2) = (s7_at bwd t33.2) from ((congrArg (fun z => s7_at z t33.2) (ss7_at _ t5.2 t19.2)).trans (ss7_at _ t19.2 t33.2))] at hP hD
        exact hB41 2 t33.2 _ _ _ (by exact hw_wd_at_33) hE hP hD hS (lv_sub hl [1, 0] rfl)
    · have hE := hE.trans (if_neg c22)
      refine lv_iconst (v := 1) hx hb dX7_readArrow_25 (by decide) ?_
      refine lv_istore_n (lv' := [(1, .int 1), (0, .ref (awd 0))]) hx hb dX7_readArrow_26 rfl hl (by decide) rfl (fun ls hl => ?_)
      refine lv_goto (tgt := 41) hx hb dX7_readArrow_27 (by decide) ?_
      rw [show (s7_at (s7_at bwd t5.2) t19.2) = (s7_at bwd t19.2) from (ss7_at _ t5.2 t19.2)] at hP hD
      exact hB41 1 t19.2 _ _ _ (by exact hw_wd_at_19) hE hP hD hS (lv_sub hl [1, 0] rfl)
  · have hE := hE.trans (if_neg c8)
    refine lv_iconst (v := 0) hx hb dX7_readArrow_11 (by decide) ?_
    refine lv_istore_n (lv' := [(1, .int 0), (0, .ref (awd 0))]) hx hb dX7_readArrow_12 rfl hl (by decide) rfl (fun ls hl => ?_)
    refine lv_goto (tgt := 41) hx hb dX7_readArrow_13 (by decide) ?_
    exact hB41 0 t5.2 _ _ _ (by exact hw_wd_at_5) hE hP hD hS (lv_sub hl [1, 0] rfl)

theorem zTp_readArrow {t : Nat → Int32} {l q : Int32} (h : zTp l q) : zTp l (FX7_readArrow t l q).2 := by
  simp only [FX7_readArrow, FX7_readArrow_41, bnd]
  repeat' split
  all_goals (try dsimp only)
  all_goals (repeat (first | exact h | apply zTp_take | apply zTp_readLiterals | apply zTp_readLiteral | apply zTp_readFigure | apply zTp_readArrow | apply zTp_readNumber | apply zTp_readFact | apply zTp_readPair | apply zTp_readRule))

theorem in_X7_readRule_7 : ∀ w ∈ u_ws RX7 TX7 10, w ∈ wsX7_readRule := by decide +kernel
def rmX7_readRule : Room := { frames := 3, cells := 0, slots := 0, locals := 68 }
set_option maxHeartbeats 4000000 in
set_option maxRecDepth 100000 in
theorem c_X7_readRule (l : Launch) (G : zG) (awd : Nat → Nat) (bwd : S7) (hw_wd_at : zTp (g7_length bwd) (g7_at bwd)) (hi_wd_told : vp_in (g7_told bwd) 60) (T : Int32 × (Nat → Int32) × (Nat → Int32) × (Nat → Int32) × (Nat → Int32) × (Nat → Int32) × (Int32)) (hT : FX7_readRule (g7_tape bwd) (g7_sort bwd) (g7_head bwd) (g7_body bwd) (g7_excepts bwd) (g7_power bwd) (g7_length bwd) (g7_at bwd) (g7_told bwd) = T) : zI l yX7_readRule wsX7_readRule rmX7_readRule .boolean G [.ref (awd 0)] [w7 G awd bwd] T.1 [w7 G awd (s7_at (s7_power (s7_excepts (s7_body (s7_head (s7_sort bwd T.2.1) T.2.2.1) T.2.2.2.1) T.2.2.2.2.1) T.2.2.2.2.2.1) T.2.2.2.2.2.2)] := by
  refine zI.mk (cc := cX7_readRule) (maxL := 1) (by decide +kernel) rfl (Nat.le_of_ble_eq_true rfl) (zfl_cons (wf7 _ _ _ _) rfl) ?_
  intro p e s m args below meth c Q A ls S hK hD hA hP hl hret
  have hx := S.1
  have hb := S.2.1
  have hS : va_S A s.heap s.heap [] := va_S.rf
  have hl : lv_has ls 1 [(0, .ref (awd 0))] := hl
  have hE := hT.symm.trans (FX7_readRule.eq_1 _ _ _ _ _ _ _ _ _)
  refine lv_aload_n hx hb dX7_readRule_0 rfl (lv_at hl 0 rfl) ?_
  refine zg7_body S in_X7_readRule_7 hK hP 0 rfl (List.mem_of_getElem? (i := 1) rfl) dX7_readRule_1 ?_
  refine lv_aload_n hx hb dX7_readRule_4 rfl (lv_at hl 0 rfl) ?_
  refine zg7_told S in_X7_readRule_7 hK hP 0 rfl (List.mem_of_getElem? (i := 2) rfl) (v := (g7_told bwd)) rfl dX7_readRule_5 ?_
  refine lv_aload_n hx hb dX7_readRule_8 rfl (lv_at hl 0 rfl) ?_
  obtain ⟨t9, ht9⟩ : ∃ z, FX7_startsWithArrow (g7_tape bwd) (g7_length bwd) (g7_at bwd) = z := ⟨_, rfl⟩
  have hE := hE.trans (bnd_eq ht9)
  have hc := c_X7_startsWithArrow l G awd bwd (hw_wd_at) _ ht9
  refine zgoR (va_runV (As := []) (rest := [.int (g7_told bwd), .ref (awd 4)]) S (hc _) (cwV 0 S.2.2.2.2 gX7_readRule_X7_startsWithArrow rfl rfl rfl (by decide +kernel) ⟨Nat.le_of_ble_eq_true rfl, Nat.le_of_ble_eq_true rfl⟩) (zpV hK hP hD (is := [0]) rfl rfl 0 rfl rfl (ci := 7) rfl) rfl rfl hl.1 rfl (lv_room (Nat.le_of_ble_eq_true rfl)) dX7_readRule_9 ⟨Nat.zero_le _, Nat.zero_le _⟩) (fun hn9 => ?_)
  have hB23 : ∀ (k2_23 : Int32) (wd_at_23 : Int32) (H : Heap) (locs : List Loc) (ls : Array Slot), (zTp (g7_length bwd) (wd_at_23)) → T = FX7_readRule_23 (g7_tape bwd) (g7_sort bwd) (g7_head bwd) (g7_body bwd) (g7_excepts bwd) (g7_power bwd) (g7_length bwd) (g7_at bwd) (g7_told bwd) (g7_told bwd) k2_23 (g7_sort bwd) (g7_head bwd) (g7_body bwd) (g7_excepts bwd) (g7_power bwd) wd_at_23 → zP G [w7 G awd (s7_at bwd wd_at_23)] H → zD A [w7 G awd (s7_at bwd wd_at_23)] → va_S A s.heap H locs → lv_has ls 1 [(0, .ref (awd 0))] → W p l e rmX7_readRule s m args below meth c H locs 0 0 Q (F0 m 23 ls [.int k2_23, .int (g7_told bwd), .ref (awd 4)]) := by
    intro k2_23 wd_at_23 H locs ls hw_wd_at_B23 hE hP hD hS hl
    have hE := hE.trans (FX7_readRule_23.eq_1 _ _ _ _ _ _ _ _ _ _ _ _ _ _ _ _ _)
    refine zs7_body (bs1 := [w7 G awd (s7_body (s7_at bwd wd_at_23) (upd (g7_body bwd) (g7_told bwd).toNatClampNeg k2_23))]) S hK hP hD hS 0 rfl hi_wd_told (f := (g7_body bwd)) (gs7_body_at _ wd_at_23) dX7_readRule_23 rfl (fun H locs hP hD hS => ?_)
    obtain ⟨u23, hu23⟩ : ∃ z, upd (g7_body bwd) (g7_told bwd).toNatClampNeg k2_23 = z := ⟨_, rfl⟩
    rw [hu23] at hP hD
    have hE := hE.trans (bnd_eq hu23)
    refine lv_aload_n hx hb dX7_readRule_24 rfl (lv_at hl 0 rfl) ?_
    refine zg7_body S in_X7_readRule_7 hK hP 0 rfl (List.mem_of_getElem? (i := 1) rfl) dX7_readRule_25 ?_
    refine lv_aload_n hx hb dX7_readRule_28 rfl (lv_at hl 0 rfl) ?_
    refine zg7_told S in_X7_readRule_7 hK hP 0 rfl (List.mem_of_getElem? (i := 2) rfl) (v := (g7_told bwd)) ((gs7_told_body _ u23).trans (gs7_told_at _ wd_at_23)) dX7_readRule_29 ?_
    refine zl7_body S hK hP 0 rfl hi_wd_told (f := u23) (gg7_body _ u23) dX7_readRule_32 ?_
    refine lv_iconst (v := (-1)) hx hb dX7_readRule_33 (by decide) ?_
    refine lv_icmp_ne (tgt := 39) hx hb dX7_readRule_34 (by decide) (fun c34 => ?_) (fun c34 => ?_)
    · have hE := hE.trans (if_neg c34)
      refine lv_aload_n hx hb dX7_readRule_39 rfl (lv_at hl 0 rfl) ?_
      refine zg7_sort S in_X7_readRule_7 hK hP 0 rfl (List.mem_of_getElem? (i := 3) rfl) dX7_readRule_40 ?_
      refine lv_aload_n hx hb dX7_readRule_43 rfl (lv_at hl 0 rfl) ?_
      refine zg7_told S in_X7_readRule_7 hK hP 0 rfl (List.mem_of_getElem? (i := 2) rfl) (v := (g7_told bwd)) ((gs7_told_body _ u23).trans (gs7_told_at _ wd_at_23)) dX7_readRule_44 ?_
      refine lv_aload_n hx hb dX7_readRule_47 rfl (lv_at hl 0 rfl) ?_
      obtain ⟨t48, ht48⟩ : ∃ z, FX7_readArrow (g7_tape bwd) (g7_length bwd) wd_at_23 = z := ⟨_, rfl⟩
      have hE := hE.trans (bnd_eq ht48)
      have hc := c_X7_readArrow l G awd (s7_body (s7_at bwd wd_at_23) u23) (hw_wd_at_B23) _ (by simp only [gs7_tape_body, gs7_tape_at, gs7_length_body, gs7_length_at, gs7_at_body, gg7_at]; exact ht48)
      refine zgoI (bs' := [w7 G awd (s7_at (s7_body (s7_at bwd wd_at_23) u23) t48.2)]) hc [0] rfl rfl rfl hP hD hS hA (va_runV (As := []) (rest := [.int (g7_told bwd), .ref (awd 2)]) S (hc.2 _) (cwV 0 S.2.2.2.2 gX7_readRule_X7_readArrow rfl rfl rfl (by decide +kernel) ⟨Nat.le_of_ble_eq_true rfl, Nat.le_of_ble_eq_true rfl⟩) (zpV hK hP hD (is := [0]) rfl rfl 0 rfl rfl (ci := 7) rfl) rfl rfl hl.1 rfl (lv_room (Nat.le_of_ble_eq_true rfl)) dX7_readRule_48 ⟨Nat.zero_le _, Nat.zero_le _⟩) (fun H locs hn48 hP hD hS => ?_)
      have hw_wd_at_48 : zTp (g7_length bwd) (t48.2) := by rw [← ht48]; exact zTp_readArrow hw_wd_at_B23
      refine zs7_sort (bs1 := [w7 G awd (s7_sort (s7_at (s7_body (s7_at bwd wd_at_23) u23) t48.2) (upd (g7_sort bwd) (g7_told bwd).toNatClampNeg t48.1))]) S hK hP hD hS 0 rfl hi_wd_told (f := (g7_sort bwd)) ((gs7_sort_at _ t48.2).trans ((gs7_sort_body _ u23).trans (gs7_sort_at _ wd_at_23))) dX7_readRule_51 rfl (fun H locs hP hD hS => ?_)
      obtain ⟨u51, hu51⟩ : ∃ z, upd (g7_sort bwd) (g7_told bwd).toNatClampNeg t48.1 = z := ⟨_, rfl⟩
      rw [hu51] at hP hD
      have hE := hE.trans (bnd_eq hu51)
      refine lv_aload_n hx hb dX7_readRule_52 rfl (lv_at hl 0 rfl) ?_
      refine zg7_sort S in_X7_readRule_7 hK hP 0 rfl (List.mem_of_getElem? (i := 3) rfl) dX7_readRule_53 ?_
      refine lv_aload_n hx hb dX7_readRule_56 rfl (lv_at hl 0 rfl) ?_
      refine zg7_told S in_X7_readRule_7 hK hP 0 rfl (List.mem_of_getElem? (i := 2) rfl) (v := (g7_told bwd)) ((gs7_told_sort _ u51).trans ((gs7_told_at _ t48.2).trans ((gs7_told_body _ u23).trans (gs7_told_at _ wd_at_23)))) dX7_readRule_57 ?_
      refine zl7_sort S hK hP 0 rfl hi_wd_told (f := u51) (gg7_sort _ u51) dX7_readRule_60 ?_
      refine lv_iconst (v := (-1)) hx hb dX7_readRule_61 (by decide) ?_
      refine lv_icmp_ne (tgt := 67) hx hb dX7_readRule_62 (by decide) (fun c62 => ?_) (fun c62 => ?_)
      · have hE := hE.trans (if_neg c62)
        refine lv_aload_n hx hb dX7_readRule_67 rfl (lv_at hl 0 rfl) ?_
        refine zg7_head S in_X7_readRule_7 hK hP 0 rfl (List.mem_of_getElem? (i := 4) rfl) dX7_readRule_68 ?_
        refine lv_aload_n hx hb dX7_readRule_71 rfl (lv_at hl 0 rfl) ?_
        refine zg7_told S in_X7_readRule_7 hK hP 0 rfl (List.mem_of_getElem? (i := 2) rfl) (v := (g7_told bwd)) ((gs7_told_sort _ u51).trans ((gs7_told_at _ t48.2).trans ((gs7_told_body _ u23).trans (gs7_told_at _ wd_at_23)))) dX7_readRule_72 ?_
        refine lv_aload_n hx hb dX7_readRule_75 rfl (lv_at hl 0 rfl) ?_
        obtain ⟨t76, ht76⟩ : ∃ z, FX7_readLiteral (g7_tape bwd) (g7_length bwd) t48.2 = z := ⟨_, rfl⟩
        have hE := hE.trans (bnd_eq ht76)
        have hc := c_X7_readLiteral l G awd (s7_sort (s7_at (s7_body (s7_at bwd wd_at_23) u23) t48.2) u51) (hw_wd_at_48) _ (by simp only [gs7_tape_sort, gs7_tape_at, gs7_tape_body, gs7_length_sort, gs7_length_at, gs7_length_body, gs7_at_sort, gg7_at]; exact ht76)
        refine zgoI (bs' := [w7 G awd (s7_at (s7_sort (s7_at (s7_body (s7_at bwd wd_at_23) u23) t48.2) u51) t76.2)]) hc [0] rfl rfl rfl hP hD hS hA (va_runV (As := []) (rest := [.int (g7_told bwd), .ref (awd 3)]) S (hc.2 _) (cwV 0 S.2.2.2.2 gX7_readRule_X7_readLiteral rfl rfl rfl (by decide +kernel) ⟨Nat.le_of_ble_eq_true rfl, Nat.le_of_ble_eq_true rfl⟩) (zpV hK hP hD (is := [0]) rfl rfl 0 rfl rfl (ci := 7) rfl) rfl rfl hl.1 rfl (lv_room (Nat.le_of_ble_eq_true rfl)) dX7_readRule_76 ⟨Nat.zero_le _, Nat.zero_le _⟩) (fun H locs hn76 hP hD hS => ?_)
        have hw_wd_at_76 : zTp (g7_length bwd) (t76.2) := by rw [← ht76]; exact zTp_readLiteral hw_wd_at_48
        refine zs7_head (bs1 := [w7 G awd (s7_head (s7_at (s7_sort (s7_at (s7_body (s7_at bwd wd_at_23) u23) t48.2) u51) t76.2) (upd (g7_head bwd) (g7_told bwd).toNatClampNeg t76.1))]) S hK hP hD hS 0 rfl hi_wd_told (f := (g7_head bwd)) ((gs7_head_at _ t76.2).trans ((gs7_head_sort _ u51).trans ((gs7_head_at _ t48.2).trans ((gs7_head_body _ u23).trans (gs7_head_at _ wd_at_23))))) dX7_readRule_79 rfl (fun H locs hP hD hS => ?_)
        obtain ⟨u79, hu79⟩ : ∃ z, upd (g7_head bwd) (g7_told bwd).toNatClampNeg t76.1 = z := ⟨_, rfl⟩
        rw [hu79] at hP hD
        have hE := hE.trans (bnd_eq hu79)
        refine lv_aload_n hx hb dX7_readRule_80 rfl (lv_at hl 0 rfl) ?_
        refine zg7_head S in_X7_readRule_7 hK hP 0 rfl (List.mem_of_getElem? (i := 4) rfl) dX7_readRule_81 ?_
        refine lv_aload_n hx hb dX7_readRule_84 rfl (lv_at hl 0 rfl) ?_
        refine zg7_told S in_X7_readRule_7 hK hP 0 rfl (List.mem_of_getElem? (i := 2) rfl) (v := (g7_told bwd)) ((gs7_told_head _ u79).trans ((gs7_told_at _ t76.2).trans ((gs7_told_sort _ u51).trans ((gs7_told_at _ t48.2).trans ((gs7_told_body _ u23).trans (gs7_told_at _ wd_at_23)))))) dX7_readRule_85 ?_
        refine zl7_head S hK hP 0 rfl hi_wd_told (f := u79) (gg7_head _ u79) dX7_readRule_88 ?_
        refine lv_iconst (v := (-1)) hx hb dX7_readRule_89 (by decide) ?_
        refine lv_icmp_ne (tgt := 95) hx hb dX7_readRule_90 (by decide) (fun c90 => ?_) (fun c90 => ?_)
        · have hE := hE.trans (if_neg c90)
          refine lv_aload_n hx hb dX7_readRule_95 rfl (lv_at hl 0 rfl) ?_
          refine zg7_excepts S in_X7_readRule_7 hK hP 0 rfl (List.mem_of_getElem? (i := 5) rfl) dX7_readRule_96 ?_
          refine lv_aload_n hx hb dX7_readRule_99 rfl (lv_at hl 0 rfl) ?_
          refine zg7_told S in_X7_readRule_7 hK hP 0 rfl (List.mem_of_getElem? (i := 2) rfl) (v := (g7_told bwd)) ((gs7_told_head _ u79).trans ((gs7_told_at _ t76.2).trans ((gs7_told_sort _ u51).trans ((gs7_told_at _ t48.2).trans ((gs7_told_body _ u23).trans (gs7_told_at _ wd_at_23)))))) dX7_readRule_100 ?_
          refine lv_aload_n hx hb dX7_readRule_103 rfl (lv_at hl 0 rfl) ?_
          refine lv_bipush (v := 63) hx hb dX7_readRule_104 (by decide) ?_
          obtain ⟨t106, ht106⟩ : ∃ z, FX7_take (g7_tape bwd) (g7_length bwd) t76.2 63 = z := ⟨_, rfl⟩
          have hE := hE.trans (bnd_eq ht106)
          have hc := c_X7_take l G awd (s7_head (s7_at (s7_sort (s7_at (s7_body (s7_at bwd wd_at_23) u23) t48.2) u51) t76.2) u79) 63 (hw_wd_at_76) _ (by simp only [gs7_tape_head, gs7_tape_at, gs7_tape_sort, gs7_tape_body, gs7_length_head, gs7_length_at, gs7_length_sort, gs7_length_body, gs7_at_head, gg7_at]; exact ht106)
          refine zgoI (bs' := [w7 G awd (s7_at (s7_head (s7_at (s7_sort (s7_at (s7_body (s7_at bwd wd_at_23) u23) t48.2) u51) t76.2) u79) t106.2)]) hc [0] rfl rfl rfl hP hD hS hA (va_runV (As := [.int 63]) (rest := [.int (g7_told bwd), .ref (awd 5)]) S (hc.2 _) (cwV 1 S.2.2.2.2 gX7_readRule_X7_take rfl rfl rfl (by decide +kernel) ⟨Nat.le_of_ble_eq_true rfl, Nat.le_of_ble_eq_true rfl⟩) (zpV hK hP hD (is := [0]) rfl rfl 0 rfl rfl (ci := 7) rfl) rfl rfl hl.1 rfl (lv_room (Nat.le_of_ble_eq_true rfl)) dX7_readRule_106 ⟨Nat.zero_le _, Nat.zero_le _⟩) (fun H locs hn106 hP hD hS => ?_)
          have hw_wd_at_106 : zTp (g7_length bwd) (t106.2) := by rw [← ht106]; exact zTp_take hw_wd_at_76
          have hB120 : ∀ (k2_120 : Int32) (wd_at_120 : Int32) (H : Heap) (locs : List Loc) (ls : Array Slot), (zTp (g7_length bwd) (wd_at_120)) → T = FX7_readRule_120 (g7_tape bwd) (g7_sort bwd) (g7_head bwd) (g7_body bwd) (g7_excepts bwd) (g7_power bwd) (g7_length bwd) (g7_at bwd) (g7_told bwd) (g7_told bwd) k2_120 u51 u79 u23 (g7_excepts bwd) (g7_power bwd) wd_at_120 → zP G [w7 G awd (s7_at (s7_body (s7_head (s7_sort bwd u51) u79) u23) wd_at_120)] H → zD A [w7 G awd (s7_at (s7_body (s7_head (s7_sort bwd u51) u79) u23) wd_at_120)] → va_S A s.heap H locs → lv_has ls 1 [(0, .ref (awd 0))] → W p l e rmX7_readRule s m args below meth c H locs 0 0 Q (F0 m 120 ls [.int k2_120, .int (g7_told bwd), .ref (awd 5)]) := by
            intro k2_120 wd_at_120 H locs ls hw_wd_at_B120 hE hP hD hS hl
            have hE := hE.trans (FX7_readRule_120.eq_1 _ _ _ _ _ _ _ _ _ _ _ _ _ _ _ _ _)
            refine zs7_excepts (bs1 := [w7 G awd (s7_excepts (s7_at (s7_body (s7_head (s7_sort bwd u51) u79) u23) wd_at_120) (upd (g7_excepts bwd) (g7_told bwd).toNatClampNeg k2_120))]) S hK hP hD hS 0 rfl hi_wd_told (f := (g7_excepts bwd)) ((gs7_excepts_at _ wd_at_120).trans ((gs7_excepts_body _ u23).trans ((gs7_excepts_head _ u79).trans (gs7_excepts_sort _ u51)))) dX7_readRule_120 rfl (fun H locs hP hD hS => ?_)
            obtain ⟨u120, hu120⟩ : ∃ z, upd (g7_excepts bwd) (g7_told bwd).toNatClampNeg k2_120 = z := ⟨_, rfl⟩
            rw [hu120] at hP hD
            have hE := hE.trans (bnd_eq hu120)
            refine lv_aload_n hx hb dX7_readRule_121 rfl (lv_at hl 0 rfl) ?_
            refine zg7_excepts S in_X7_readRule_7 hK hP 0 rfl (List.mem_of_getElem? (i := 5) rfl) dX7_readRule_122 ?_
            refine lv_aload_n hx hb dX7_readRule_125 rfl (lv_at hl 0 rfl) ?_
            refine zg7_told S in_X7_readRule_7 hK hP 0 rfl (List.mem_of_getElem? (i := 2) rfl) (v := (g7_told bwd)) ((gs7_told_excepts _ u120).trans ((gs7_told_at _ wd_at_120).trans ((gs7_told_body _ u23).trans ((gs7_told_head _ u79).trans (gs7_told_sort _ u51))))) dX7_readRule_126 ?_
            refine zl7_excepts S hK hP 0 rfl hi_wd_told (f := u120) (gg7_excepts _ u120) dX7_readRule_129 ?_
            refine lv_iconst (v := (-1)) hx hb dX7_readRule_130 (by decide) ?_
            refine lv_icmp_ne (tgt := 136) hx hb dX7_readRule_131 (by decide) (fun c131 => ?_) (fun c131 => ?_)
            · have hE := hE.trans (if_neg c131)
              refine lv_aload_n hx hb dX7_readRule_136 rfl (lv_at hl 0 rfl) ?_
              refine zg7_power S in_X7_readRule_7 hK hP 0 rfl (List.mem_of_getElem? (i := 6) rfl) dX7_readRule_137 ?_
              refine lv_aload_n hx hb dX7_readRule_140 rfl (lv_at hl 0 rfl) ?_
              refine zg7_told S in_X7_readRule_7 hK hP 0 rfl (List.mem_of_getElem? (i := 2) rfl) (v := (g7_told bwd)) ((gs7_told_excepts _ u120).trans ((gs7_told_at _ wd_at_120).trans ((gs7_told_body _ u23).trans ((gs7_told_head _ u79).trans (gs7_told_sort _ u51))))) dX7_readRule_141 ?_
              refine lv_aload_n hx hb dX7_readRule_144 rfl (lv_at hl 0 rfl) ?_
              refine lv_bipush (v := 42) hx hb dX7_readRule_145 (by decide) ?_
              obtain ⟨t147, ht147⟩ : ∃ z, FX7_take (g7_tape bwd) (g7_length bwd) wd_at_120 42 = z := ⟨_, rfl⟩
              have hE := hE.trans (bnd_eq ht147)
              have hc := c_X7_take l G awd (s7_excepts (s7_at (s7_body (s7_head (s7_sort bwd u51) u79) u23) wd_at_120) u120) 42 (hw_wd_at_B120) _ (by simp only [gs7_tape_excepts, gs7_tape_at, gs7_tape_body, gs7_tape_head, gs7_tape_sort, gs7_length_excepts, gs7_length_at, gs7_length_body, gs7_length_head, gs7_length_sort, gs7_at_excepts, gg7_at]; exact ht147)
              refine zgoI (bs' := [w7 G awd (s7_at (s7_excepts (s7_at (s7_body (s7_head (s7_sort bwd u51) u79) u23) wd_at_120) u120) t147.2)]) hc [0] rfl rfl rfl hP hD hS hA (va_runV (As := [.int 42]) (rest := [.int (g7_told bwd), .ref (awd 6)]) S (hc.2 _) (cwV 1 S.2.2.2.2 gX7_readRule_X7_take rfl rfl rfl (by decide +kernel) ⟨Nat.le_of_ble_eq_true rfl, Nat.le_of_ble_eq_true rfl⟩) (zpV hK hP hD (is := [0]) rfl rfl 0 rfl rfl (ci := 7) rfl) rfl rfl hl.1 rfl (lv_room (Nat.le_of_ble_eq_true rfl)) dX7_readRule_147 ⟨Nat.zero_le _, Nat.zero_le _⟩) (fun H locs hn147 hP hD hS => ?_)
              have hw_wd_at_147 : zTp (g7_length bwd) (t147.2) := by rw [← ht147]; exact zTp_take hw_wd_at_B120
              have hB161 : ∀ (k2_161 : Int32) (wd_at_161 : Int32) (H : Heap) (locs : List Loc) (ls : Array Slot), (zTp (g7_length bwd) (wd_at_161)) → T = FX7_readRule_161 (g7_tape bwd) (g7_sort bwd) (g7_head bwd) (g7_body bwd) (g7_excepts bwd) (g7_power bwd) (g7_length bwd) (g7_at bwd) (g7_told bwd) (g7_told bwd) k2_161 u51 u79 u23 u120 (g7_power bwd) wd_at_161 → zP G [w7 G awd (s7_at (s7_excepts (s7_body (s7_head (s7_sort bwd u51) u79) u23) u120) wd_at_161)] H → zD A [w7 G awd (s7_at (s7_excepts (s7_body (s7_head (s7_sort bwd u51) u79) u23) u120) wd_at_161)] → va_S A s.heap H locs → lv_has ls 1 [(0, .ref (awd 0))] → W p l e rmX7_readRule s m args below meth c H locs 0 0 Q (F0 m 161 ls [.int k2_161, .int (g7_told bwd), .ref (awd 6)]) := by
                intro k2_161 wd_at_161 H locs ls hw_wd_at_B161 hE hP hD hS hl
                have hE := hE.trans (FX7_readRule_161.eq_1 _ _ _ _ _ _ _ _ _ _ _ _ _ _ _ _ _)
                refine zs7_power (bs1 := [w7 G awd (s7_power (s7_at (s7_excepts (s7_body (s7_head (s7_sort bwd u51) u79) u23) u120) wd_at_161) (upd (g7_power bwd) (g7_told bwd).toNatClampNeg k2_161))]) S hK hP hD hS 0 rfl hi_wd_told (f := (g7_power bwd)) ((gs7_power_at _ wd_at_161).trans ((gs7_power_excepts _ u120).trans ((gs7_power_body _ u23).trans ((gs7_power_head _ u79).trans (gs7_power_sort _ u51))))) dX7_readRule_161 rfl (fun H locs hP hD hS => ?_)
                obtain ⟨u161, hu161⟩ : ∃ z, upd (g7_power bwd) (g7_told bwd).toNatClampNeg k2_161 = z := ⟨_, rfl⟩
                rw [hu161] at hP hD
                have hE := hE.trans (bnd_eq hu161)
                refine lv_aload_n hx hb dX7_readRule_162 rfl (lv_at hl 0 rfl) ?_
                refine zg7_power S in_X7_readRule_7 hK hP 0 rfl (List.mem_of_getElem? (i := 6) rfl) dX7_readRule_163 ?_
                refine lv_aload_n hx hb dX7_readRule_166 rfl (lv_at hl 0 rfl) ?_
                refine zg7_told S in_X7_readRule_7 hK hP 0 rfl (List.mem_of_getElem? (i := 2) rfl) (v := (g7_told bwd)) ((gs7_told_power _ u161).trans ((gs7_told_at _ wd_at_161).trans ((gs7_told_excepts _ u120).trans ((gs7_told_body _ u23).trans ((gs7_told_head _ u79).trans (gs7_told_sort _ u51)))))) dX7_readRule_167 ?_
                refine zl7_power S hK hP 0 rfl hi_wd_told (f := u161) (gg7_power _ u161) dX7_readRule_170 ?_
                refine lv_iconst (v := (-1)) hx hb dX7_readRule_171 (by decide) ?_
                refine lv_icmp_eq (tgt := 179) hx hb dX7_readRule_172 (by decide) (fun c172 => ?_) (fun c172 => ?_)
                · have hE := hE.trans (if_pos c172)
                  refine lv_iconst (v := 0) hx hb dX7_readRule_179 (by decide) ?_
                  rw [show (s7_power (s7_at (s7_excepts (s7_body (s7_head (s7_sort bwd u51) u79) u23) u120) wd_at_161) u161) = (s7_at (s7_power (s7_excepts (s7_body (s7_head (s7_sort bwd u51) u79) u23) u120) u161) wd_at_161) from (cm7_power_at _ wd_at_161 u161)] at hP hD
                  exact hret _ _ _ _ _ _ (by subst hE; rfl) zn0 hP hS dX7_readRule_180
                · have hE := hE.trans (if_neg c172)
                  refine lv_iconst (v := 1) hx hb dX7_readRule_175 (by decide) ?_
                  refine lv_goto (tgt := 180) hx hb dX7_readRule_176 (by decide) ?_
                  rw [show (s7_power (s7_at (s7_excepts (s7_body (s7_head (s7_sort bwd u51) u79) u23) u120) wd_at_161) u161) = (s7_at (s7_power (s7_excepts (s7_body (s7_head (s7_sort bwd u51) u79) u23) u120) u161) wd_at_161) from (cm7_power_at _ wd_at_161 u161)] at hP hD
                  exact hret _ _ _ _ _ _ (by subst hE; rfl) zn1 hP hS dX7_readRule_180
              refine lv_if_eq (tgt := 160) hx hb dX7_readRule_150 (by decide) (fun c150 => ?_) (fun c150 => ?_)
              · have hE := hE.trans (if_pos c150)
                refine lv_iconst (v := 0) hx hb dX7_readRule_160 (by decide) ?_
                rw [show (s7_at (s7_excepts (s7_at (s7_body (s7_head (s7_sort bwd u51) u79) u23) wd_at_120) u120) t147.2) = (s7_at (s7_excepts (s7_body (s7_head (s7_sort bwd u51) u79) u23) u120) t147.2) from ((congrArg (fun z => s7_at z t147.2) (cm7_excepts_at _ wd_at_120 u120)).trans (ss7_at _ wd_at_120 t147.2))] at hP hD
                exact hB161 0 t147.2 _ _ _ (by exact hw_wd_at_147) hE hP hD hS (lv_sub hl [0] rfl)
              · have hE := hE.trans (if_neg c150)
                refine lv_aload_n hx hb dX7_readRule_153 rfl (lv_at hl 0 rfl) ?_
                obtain ⟨t154, ht154⟩ : ∃ z, FX7_readFigure (g7_tape bwd) (g7_length bwd) t147.2 = z := ⟨_, rfl⟩
                have hE := hE.trans (bnd_eq ht154)
                have hc := c_X7_readFigure l G awd (s7_at (s7_excepts (s7_at (s7_body (s7_head (s7_sort bwd u51) u79) u23) wd_at_120) u120) t147.2) (hw_wd_at_147) _ (by simp only [gs7_tape_at, gs7_tape_excepts, gs7_tape_body, gs7_tape_head, gs7_tape_sort, gs7_length_at, gs7_length_excepts, gs7_length_body, gs7_length_head, gs7_length_sort, gg7_at]; exact ht154)
                refine zgoI (bs' := [w7 G awd (s7_at (s7_at (s7_excepts (s7_at (s7_body (s7_head (s7_sort bwd u51) u79) u23) wd_at_120) u120) t147.2) t154.2)]) hc [0] rfl rfl rfl hP hD hS hA (va_runV (As := []) (rest := [.int (g7_told bwd), .ref (awd 6)]) S (hc.2 _) (cwV 0 S.2.2.2.2 gX7_readRule_X7_readFigure rfl rfl rfl (by decide +kernel) ⟨Nat.le_of_ble_eq_true rfl, Nat.le_of_ble_eq_true rfl⟩) (zpV hK hP hD (is := [0]) rfl rfl 0 rfl rfl (ci := 7) rfl) rfl rfl hl.1 rfl (lv_room (Nat.le_of_ble_eq_true rfl)) dX7_readRule_154 ⟨Nat.zero_le _, Nat.zero_le _⟩) (fun H locs hn154 hP hD hS => ?_)
                have hw_wd_at_154 : zTp (g7_length bwd) (t154.2) := by rw [← ht154]; exact zTp_readFigure hw_wd_at_147
                refine lv_goto (tgt := 161) hx hb dX7_readRule_157 (by decide) ?_
                rw [show (s7_at (s7_at (s7_excepts (s7_at (s7_body (s7_head (s7_sort bwd u51) u79) u23) wd_at_120) u120) t147.2) t154.2) = (s7_at (s7_excepts (s7_body (s7_head (s7_sort bwd u51) u79) u23) u120) t154.2) from ((congrArg (fun z => s7_at z t154.2) ((congrArg (fun z => s7_at z t147.2) (cm7_excepts_at _ wd_at_120 u120)).trans (ss7_at _ wd_at_120 t147.2))).trans (ss7_at _ t147.2 t154.2))] at hP hD
                exact hB161 t154.1 t154.2 _ _ _ (by exact hw_wd_at_154) hE hP hD hS (lv_sub hl [0] rfl)
            · have hE := hE.trans (if_pos c131)
              refine lv_iconst (v := 0) hx hb dX7_readRule_134 (by decide) ?_
              rw [show (s7_excepts (s7_at (s7_body (s7_head (s7_sort bwd u51) u79) u23) wd_at_120) u120) = (s7_at (s7_power (s7_excepts (s7_body (s7_head (s7_sort bwd u51) u79) u23) u120) (g7_power bwd)) wd_at_120) from ((cm7_excepts_at _ wd_at_120 u120).trans (congrArg (fun z => s7_at z wd_at_120) (((se7_power _).symm).trans (congrArg (fun v => s7_power (s7_excepts (s7_body (s7_head (s7_sort bwd u51) u79) u23) u120) v) ((gs7_power_excepts _ u120).trans ((gs7_power_body _ u23).trans ((gs7_power_head _ u79).trans (gs7_power_sort _ u51))))))))] at hP hD
              exact hret _ _ _ _ _ _ (by subst hE; rfl) zn0 hP hS dX7_readRule_135
          refine lv_if_eq (tgt := 119) hx hb dX7_readRule_109 (by decide) (fun c109 => ?_) (fun c109 => ?_)
          · have hE := hE.trans (if_pos c109)
            refine lv_iconst (v := 0) hx hb dX7_readRule_119 (by decide) ?_
            rw [show (s7_at (s7_head (s7_at (s7_sort (s7_at (s7_body (s7_at bwd wd_at_23) u23) t48.2) u51) t76.2) u79) t106.2) = (s7_at (s7_body (s7_head (s7_sort bwd u51) u79) u23) t106.2) from ((congrArg (fun z => s7_at z t106.2) ((congrArg (fun z => s7_head z u79) ((congrArg (fun z => s7_at z t76.2) ((congrArg (fun z => s7_sort z u51) ((congrArg (fun z => s7_at z t48.2) (cm7_body_at _ wd_at_23 u23)).trans (ss7_at _ wd_at_23 t48.2))).trans ((cm7_sort_at _ t48.2 u51).trans (congrArg (fun z => s7_at z t48.2) (cm7_sort_body _ u23 u51))))).trans (ss7_at _ t48.2 t76.2))).trans ((cm7_head_at _ t76.2 u79).trans (congrArg (fun z => s7_at z t76.2) (cm7_head_body _ u23 u79))))).trans (ss7_at _ t76.2 t106.2))] at hP hD
            exact hB120 0 t106.2 _ _ _ (by exact hw_wd_at_106) hE hP hD hS (lv_sub hl [0] rfl)
          · have hE := hE.trans (if_neg c109)
            refine lv_aload_n hx hb dX7_readRule_112 rfl (lv_at hl 0 rfl) ?_
            obtain ⟨t113, ht113⟩ : ∃ z, FX7_readLiterals (g7_tape bwd) (g7_length bwd) t106.2 = z := ⟨_, rfl⟩
            have hE := hE.trans (bnd_eq ht113)
            have hc := c_X7_readLiterals l G awd (s7_at (s7_head (s7_at (s7_sort (s7_at (s7_body (s7_at bwd wd_at_23) u23) t48.2) u51) t76.2) u79) t106.2) (hw_wd_at_106) _ (by simp only [gs7_tape_at, gs7_tape_head, gs7_tape_sort, gs7_tape_body, gs7_length_at, gs7_length_head, gs7_length_sort, gs7_length_body, gg7_at]; exact ht113)
            refine zgoI (bs' := [w7 G awd (s7_at (s7_at (s7_head (s7_at (s7_sort (s7_at (s7_body (s7_at bwd wd_at_23) u23) t48.2) u51) t76.2) u79) t106.2) t113.2)]) hc [0] rfl rfl rfl hP hD hS hA (va_runV (As := []) (rest := [.int (g7_told bwd), .ref (awd 5)]) S (hc.2 _) (cwV 0 S.2.2.2.2 gX7_readRule_X7_readLiterals rfl rfl rfl (by decide +kernel) ⟨Nat.le_of_ble_eq_true rfl, Nat.le_of_ble_eq_true rfl⟩) (zpV hK hP hD (is := [0]) rfl rfl 0 rfl rfl (ci := 7) rfl) rfl rfl hl.1 rfl (lv_room (Nat.le_of_ble_eq_true rfl)) dX7_readRule_113 ⟨Nat.zero_le _, Nat.zero_le _⟩) (fun H locs hn113 hP hD hS => ?_)
            have hw_wd_at_113 : zTp (g7_length bwd) (t113.2) := by rw [← ht113]; exact zTp_readLiterals hw_wd_at_106
            refine lv_goto (tgt := 120) hx hb dX7_readRule_116 (by decide) ?_
            rw [show (s7_at (s7_at (s7_head (s7_at (s7_sort (s7_at (s7_body (s7_at bwd wd_at_23) u23) t48.2) u51) t76.2) u79) t106.2) t113.2) = (s7_at (s7_body (s7_head (s7_sort bwd u51) u79) u23) t113.2) from ((congrArg (fun z => s7_at z t113.2) ((congrArg (fun z => s7_at z t106.2) ((congrArg (fun z => s7_head z u79) ((congrArg (fun z => s7_at z t76.2) ((congrArg (fun z => s7_sort z u51) ((congrArg (fun z => s7_at z t48.2) (cm7_body_at _ wd_at_23 u23)).trans (ss7_at _ wd_at_23 t48.2))).trans ((cm7_sort_at _ t48.2 u51).trans (congrArg (fun z => s7_at z t48.2) (cm7_sort_body _ u23 u51))))).trans (ss7_at _ t48.2 t76.2))).trans ((cm7_head_at _ t76.2 u79).trans (congrArg (fun z => s7_at z t76.2) (cm7_head_body _ u23 u79))))).trans (ss7_at _ t76.2 t106.2))).trans (ss7_at _ t106.2 t113.2))] at hP hD
            exact hB120 t113.1 t113.2 _ _ _ (by exact hw_wd_at_113) hE hP hD hS (lv_sub hl [0] rfl)
        · have hE := hE.trans (if_pos c90)
          refine lv_iconst (v := 0) hx hb dX7_readRule_93 (by decide) ?_
          rw [show (s7_head (s7_at (s7_sort (s7_at (s7_body (s7_at bwd wd_at_23) u23) t48.2) u51) t76.2) u79) = (s7_at (s7_power (s7_excepts (s7_body (s7_head (s7_sort bwd u51) u79) u23) (g7_excepts bwd)) (g7_power bwd)) t76.2) from ((((congrArg (fun z => s7_head z u79) ((congrArg (fun z => s7_at z t76.2) ((congrArg (fun z => s7_sort z u51) ((congrArg (fun z => s7_at z t48.2) (cm7_body_at _ wd_at_23 u23)).trans (ss7_at _ wd_at_23 t48.2))).trans ((cm7_sort_at _ t48.2 u51).trans (congrArg (fun z => s7_at z t48.2) (cm7_sort_body _ u23 u51))))).trans (ss7_at _ t48.2 t76.2))).trans ((cm7_head_at _ t76.2 u79).trans (congrArg (fun z => s7_at z t76.2) (cm7_head_body _ u23 u79)))).trans (congrArg (fun z => s7_at z t76.2) (((se7_excepts _).symm).trans (congrArg (fun v => s7_excepts (s7_body (s7_head (s7_sort bwd u51) u79) u23) v) ((gs7_excepts_body _ u23).trans ((gs7_excepts_head _ u79).trans (gs7_excepts_sort _ u51))))))).trans (congrArg (fun z => s7_at z t76.2) (((se7_power _).symm).trans (congrArg (fun v => s7_power (s7_excepts (s7_body (s7_head (s7_sort bwd u51) u79) u23) (g7_excepts bwd)) v) ((gs7_power_excepts _ (g7_excepts bwd)).trans ((gs7_power_body _ u23).trans ((gs7_power_head _ u79).trans (gs7_power_sort _ u51))))))))] at hP hD
          exact hret _ _ _ _ _ _ (by subst hE; rfl) zn0 hP hS dX7_readRule_94
      · have hE := hE.trans (if_pos c62)
        refine lv_iconst (v := 0) hx hb dX7_readRule_65 (by decide) ?_
        rw [show (s7_sort (s7_at (s7_body (s7_at bwd wd_at_23) u23) t48.2) u51) = (s7_at (s7_power (s7_excepts (s7_body (s7_head (s7_sort bwd u51) (g7_head bwd)) u23) (g7_excepts bwd)) (g7_power bwd)) t48.2) from (((((congrArg (fun z => s7_sort z u51) ((congrArg (fun z => s7_at z t48.2) (cm7_body_at _ wd_at_23 u23)).trans (ss7_at _ wd_at_23 t48.2))).trans ((cm7_sort_at _ t48.2 u51).trans (congrArg (fun z => s7_at z t48.2) (cm7_sort_body _ u23 u51)))).trans (congrArg (fun z => s7_at z t48.2) (congrArg (fun z => s7_body z u23) (((se7_head _).symm).trans (congrArg (fun v => s7_head (s7_sort bwd u51) v) (gs7_head_sort _ u51)))))).trans (congrArg (fun z => s7_at z t48.2) (((se7_excepts _).symm).trans (congrArg (fun v => s7_excepts (s7_body (s7_head (s7_sort bwd u51) (g7_head bwd)) u23) v) ((gs7_excepts_body _ u23).trans ((gs7_excepts_head _ (g7_head bwd)).trans (gs7_excepts_sort _ u51))))))).trans (congrArg (fun z => s7_at z t48.2) (((se7_power _).symm).trans (congrArg (fun v => s7_power (s7_excepts (s7_body (s7_head (s7_sort bwd u51) (g7_head bwd)) u23) (g7_excepts bwd)) v) ((gs7_power_excepts _ (g7_excepts bwd)).trans ((gs7_power_body _ u23).trans ((gs7_power_head _ (g7_head bwd)).trans (gs7_power_sort _ u51))))))))] at hP hD
        exact hret _ _ _ _ _ _ (by subst hE; rfl) zn0 hP hS dX7_readRule_66
    · have hE := hE.trans (if_pos c34)
      refine lv_iconst (v := 0) hx hb dX7_readRule_37 (by decide) ?_
      rw [show (s7_body (s7_at bwd wd_at_23) u23) = (s7_at (s7_power (s7_excepts (s7_body (s7_head (s7_sort bwd (g7_sort bwd)) (g7_head bwd)) u23) (g7_excepts bwd)) (g7_power bwd)) wd_at_23) from (((((cm7_body_at _ wd_at_23 u23).trans (congrArg (fun z => s7_at z wd_at_23) (congrArg (fun z => s7_body z u23) ((se7_sort _).symm)))).trans (congrArg (fun z => s7_at z wd_at_23) (congrArg (fun z => s7_body z u23) (((se7_head _).symm).trans (congrArg (fun v => s7_head (s7_sort bwd (g7_sort bwd)) v) (gs7_head_sort _ (g7_sort bwd))))))).trans (congrArg (fun z => s7_at z wd_at_23) (((se7_excepts _).symm).trans (congrArg (fun v => s7_excepts (s7_body (s7_head (s7_sort bwd (g7_sort bwd)) (g7_head bwd)) u23) v) ((gs7_excepts_body _ u23).trans ((gs7_excepts_head _ (g7_head bwd)).trans (gs7_excepts_sort _ (g7_sort bwd)))))))).trans (congrArg (fun z => s7_at z wd_at_23) (((se7_power _).symm).trans (congrArg (fun v => s7_power (s7_excepts (s7_body (s7_head (s7_sort bwd (g7_sort bwd)) (g7_head bwd)) u23) (g7_excepts bwd)) v) ((gs7_power_excepts _ (g7_excepts bwd)).trans ((gs7_power_body _ u23).trans ((gs7_power_head _ (g7_head bwd)).trans (gs7_power_sort _ (g7_sort bwd)))))))))] at hP hD
      exact hret _ _ _ _ _ _ (by subst hE; rfl) zn0 hP hS dX7_readRule_38
  refine lv_if_eq (tgt := 19) hx hb dX7_readRule_12 (by decide) (fun c12 => ?_) (fun c12 => ?_)
  · have hE := hE.trans (if_pos c12)
    refine lv_aload_n hx hb dX7_readRule_19 rfl (lv_at hl 0 rfl) ?_
    obtain ⟨t20, ht20⟩ : ∃ z, FX7_readLiterals (g7_tape bwd) (g7_length bwd) (g7_at bwd) = z := ⟨_, rfl⟩
    have hE := hE.trans (bnd_eq ht20)
    have hc := c_X7_readLiterals l G awd bwd (hw_wd_at) _ ht20
    refine zgoI (bs' := [w7 G awd (s7_at bwd t20.2)]) hc [0] rfl rfl rfl hP hD hS hA (va_runV (As := []) (rest := [.int (g7_told bwd), .ref (awd 4)]) S (hc.2 _) (cwV 0 S.2.2.2.2 gX7_readRule_X7_readLiterals rfl rfl rfl (by decide +kernel) ⟨Nat.le_of_ble_eq_true rfl, Nat.le_of_ble_eq_true rfl⟩) (zpV hK hP hD (is := [0]) rfl rfl 0 rfl rfl (ci := 7) rfl) rfl rfl hl.1 rfl (lv_room (Nat.le_of_ble_eq_true rfl)) dX7_readRule_20 ⟨Nat.zero_le _, Nat.zero_le _⟩) (fun H locs hn20 hP hD hS => ?_)
    have hw_wd_at_20 : zTp (g7_length bwd) (t20.2) := by rw [← ht20]; exact zTp_readLiterals hw_wd_at
    exact hB23 t20.1 t20.2 _ _ _ (by exact hw_wd_at_20) hE hP hD hS (lv_sub hl [0] rfl)
  · have hE := hE.trans (if_neg c12)
    refine lv_iconst (v := 0) hx hb dX7_readRule_15 (by decide) ?_
    refine lv_goto (tgt := 23) hx hb dX7_readRule_16 (by decide) ?_
    rw [show bwd = (s7_at bwd (g7_at bwd)) from ((se7_at _).symm)] at hP hD
    exact hB23 0 (g7_at bwd) _ _ _ (by exact hw_wd_at) hE hP hD hS (lv_sub hl [0] rfl)

theorem zTp_readRule {t a b c d e : Nat → Int32} {l q o : Int32} (h : zTp l q) : zTp l (FX7_readRule t a b c d e l q o).2.2.2.2.2.2 := by
  simp only [FX7_readRule, FX7_readRule_23, FX7_readRule_120, FX7_readRule_161, bnd]
  repeat' split
  all_goals (try dsimp only)
  all_goals (repeat (first | exact h | apply zTp_take | apply zTp_readLiterals | apply zTp_readLiteral | apply zTp_readFigure | apply zTp_readArrow | apply zTp_readNumber | apply zTp_readFact | apply zTp_readPair | apply zTp_readRule))

def rmX7_readStatement : Room := { frames := 4, cells := 0, slots := 0, locals := 88 }
set_option maxHeartbeats 4000000 in
set_option maxRecDepth 100000 in
theorem c_X7_readStatement (l : Launch) (G : zG) (awd : Nat → Nat) (bwd : S7) (hw_wd_at : zTp (g7_length bwd) (g7_at bwd)) (hi_wd_told : vp_in (g7_told bwd) 60) (T : Int32 × (Nat → Int32) × (Nat → Int32) × (Nat → Int32) × (Nat → Int32) × (Nat → Int32) × (Int32)) (hT : FX7_readStatement (g7_tape bwd) (g7_sort bwd) (g7_head bwd) (g7_body bwd) (g7_excepts bwd) (g7_power bwd) (g7_length bwd) (g7_at bwd) (g7_told bwd) = T) : zI l yX7_readStatement wsX7_readStatement rmX7_readStatement .boolean G [.ref (awd 0)] [w7 G awd bwd] T.1 [w7 G awd (s7_at (s7_power (s7_excepts (s7_body (s7_head (s7_sort bwd T.2.1) T.2.2.1) T.2.2.2.1) T.2.2.2.2.1) T.2.2.2.2.2.1) T.2.2.2.2.2.2)] := by
  refine zI.mk (cc := cX7_readStatement) (maxL := 1) (by decide +kernel) rfl (Nat.le_of_ble_eq_true rfl) (zfl_cons (wf7 _ _ _ _) rfl) ?_
  intro p e s m args below meth c Q A ls S hK hD hA hP hl hret
  have hx := S.1
  have hb := S.2.1
  have hS : va_S A s.heap s.heap [] := va_S.rf
  have hl : lv_has ls 1 [(0, .ref (awd 0))] := hl
  have hE := hT.symm.trans (FX7_readStatement.eq_1 _ _ _ _ _ _ _ _ _)
  refine lv_aload_n hx hb dX7_readStatement_0 rfl (lv_at hl 0 rfl) ?_
  refine lv_bipush (v := 33) hx hb dX7_readStatement_1 (by decide) ?_
  obtain ⟨t3, ht3⟩ : ∃ z, FX7_take (g7_tape bwd) (g7_length bwd) (g7_at bwd) 33 = z := ⟨_, rfl⟩
  have hE := hE.trans (bnd_eq ht3)
  have hc := c_X7_take l G awd bwd 33 (hw_wd_at) _ ht3
  refine zgoI (bs' := [w7 G awd (s7_at bwd t3.2)]) hc [0] rfl rfl rfl hP hD hS hA (va_runV (As := [.int 33]) (rest := []) S (hc.2 _) (cwV 1 S.2.2.2.2 gX7_readStatement_X7_take rfl rfl rfl (by decide +kernel) ⟨Nat.le_of_ble_eq_true rfl, Nat.le_of_ble_eq_true rfl⟩) (zpV hK hP hD (is := [0]) rfl rfl 0 rfl rfl (ci := 7) rfl) rfl rfl hl.1 rfl (lv_room (Nat.le_of_ble_eq_true rfl)) dX7_readStatement_3 ⟨Nat.zero_le _, Nat.zero_le _⟩) (fun H locs hn3 hP hD hS => ?_)
  have hw_wd_at_3 : zTp (g7_length bwd) (t3.2) := by rw [← ht3]; exact zTp_take hw_wd_at
  refine lv_if_eq (tgt := 14) hx hb dX7_readStatement_6 (by decide) (fun c6 => ?_) (fun c6 => ?_)
  · have hE := hE.trans (if_pos c6)
    refine lv_aload_n hx hb dX7_readStatement_14 rfl (lv_at hl 0 rfl) ?_
    obtain ⟨t15, ht15⟩ : ∃ z, FX7_next (g7_tape bwd) (g7_length bwd) t3.2 = z := ⟨_, rfl⟩
    have hE := hE.trans (bnd_eq ht15)
    have hc := c_X7_next l G awd (s7_at bwd t3.2) (hw_wd_at_3) _ (by simp only [gs7_tape_at, gs7_length_at, gg7_at]; exact ht15)
    refine zgoR (va_runV (As := []) (rest := []) S (hc _) (cwV 0 S.2.2.2.2 gX7_readStatement_X7_next rfl rfl rfl (by decide +kernel) ⟨Nat.le_of_ble_eq_true rfl, Nat.le_of_ble_eq_true rfl⟩) (zpV hK hP hD (is := [0]) rfl rfl 0 rfl rfl (ci := 7) rfl) rfl rfl hl.1 rfl (lv_room (Nat.le_of_ble_eq_true rfl)) dX7_readStatement_15 ⟨Nat.zero_le _, Nat.zero_le _⟩) (fun hn15 => ?_)
    obtain ⟨t18, ht18⟩ : ∃ z, FX7_isFigure t15 = z := ⟨_, rfl⟩
    have hE := hE.trans (bnd_eq ht18)
    have hc := c_X7_isFigure l G t15 _ ht18
    refine zgoR (va_runS (As := [.int t15]) (rest := []) S (hc _) (va_cwS 1 S.2.2.2.2 gX7_readStatement_X7_isFigure rfl rfl rfl (by decide +kernel) ⟨Nat.le_of_ble_eq_true rfl, Nat.le_of_ble_eq_true rfl⟩) (zpS hK hP hD (is := []) rfl rfl) rfl rfl hl.1 rfl (lv_room (Nat.le_of_ble_eq_true rfl)) dX7_readStatement_18 ⟨Nat.zero_le _, Nat.zero_le _⟩) (fun hn18 => ?_)
    refine lv_if_eq (tgt := 31) hx hb dX7_readStatement_21 (by decide) (fun c21 => ?_) (fun c21 => ?_)
    · have hE := hE.trans (if_pos c21)
      refine lv_aload_n hx hb dX7_readStatement_31 rfl (lv_at hl 0 rfl) ?_
      obtain ⟨t32, ht32⟩ : ∃ z, FX7_readRule (g7_tape bwd) (g7_sort bwd) (g7_head bwd) (g7_body bwd) (g7_excepts bwd) (g7_power bwd) (g7_length bwd) t3.2 (g7_told bwd) = z := ⟨_, rfl⟩
      have hE := hE.trans (bnd_eq ht32)
      have hc := c_X7_readRule l G awd (s7_at bwd t3.2) (hw_wd_at_3) (hi_wd_told) _ (by simp only [gs7_tape_at, gs7_sort_at, gs7_head_at, gs7_body_at, gs7_excepts_at, gs7_power_at, gs7_length_at, gg7_at, gs7_told_at]; exact ht32)
      refine zgoI (bs' := [w7 G awd (s7_at (s7_power (s7_excepts (s7_body (s7_head (s7_sort (s7_at bwd t3.2) t32.2.1) t32.2.2.1) t32.2.2.2.1) t32.2.2.2.2.1) t32.2.2.2.2.2.1) t32.2.2.2.2.2.2)]) hc [0] rfl rfl rfl hP hD hS hA (va_runV (As := []) (rest := []) S (hc.2 _) (cwV 0 S.2.2.2.2 gX7_readStatement_X7_readRule rfl rfl rfl (by decide +kernel) ⟨Nat.le_of_ble_eq_true rfl, Nat.le_of_ble_eq_true rfl⟩) (zpV hK hP hD (is := [0]) rfl rfl 0 rfl rfl (ci := 7) rfl) rfl rfl hl.1 rfl (lv_room (Nat.le_of_ble_eq_true rfl)) dX7_readStatement_32 ⟨Nat.zero_le _, Nat.zero_le _⟩) (fun H locs hn32 hP hD hS => ?_)
      have hw_wd_at_32 : zTp (g7_length bwd) (t32.2.2.2.2.2.2) := by rw [← ht32]; exact zTp_readRule hw_wd_at_3
      rw [show (s7_at (s7_power (s7_excepts (s7_body (s7_head (s7_sort (s7_at bwd t3.2) t32.2.1) t32.2.2.1) t32.2.2.2.1) t32.2.2.2.2.1) t32.2.2.2.2.2.1) t32.2.2.2.2.2.2) = (s7_at (s7_power (s7_excepts (s7_body (s7_head (s7_sort bwd t32.2.1) t32.2.2.1) t32.2.2.2.1) t32.2.2.2.2.1) t32.2.2.2.2.2.1) t32.2.2.2.2.2.2) from ((congrArg (fun z => s7_at z t32.2.2.2.2.2.2) ((congrArg (fun z => s7_power z t32.2.2.2.2.2.1) ((congrArg (fun z => s7_excepts z t32.2.2.2.2.1) ((congrArg (fun z => s7_body z t32.2.2.2.1) ((congrArg (fun z => s7_head z t32.2.2.1) (cm7_sort_at _ t3.2 t32.2.1)).trans (cm7_head_at _ t3.2 t32.2.2.1))).trans (cm7_body_at _ t3.2 t32.2.2.2.1))).trans (cm7_excepts_at _ t3.2 t32.2.2.2.2.1))).trans (cm7_power_at _ t3.2 t32.2.2.2.2.2.1))).trans (ss7_at _ t3.2 t32.2.2.2.2.2.2))] at hP hD
      exact hret _ _ _ _ _ _ (by subst hE; rfl) hn32 hP hS dX7_readStatement_35
    · have hE := hE.trans (if_neg c21)
      refine lv_aload_n hx hb dX7_readStatement_24 rfl (lv_at hl 0 rfl) ?_
      obtain ⟨t25, ht25⟩ : ∃ z, FX7_readPair (g7_tape bwd) (g7_sort bwd) (g7_head bwd) (g7_body bwd) (g7_length bwd) t3.2 (g7_told bwd) = z := ⟨_, rfl⟩
      have hE := hE.trans (bnd_eq ht25)
      have hc := c_X7_readPair l G awd (s7_at bwd t3.2) (hw_wd_at_3) (hi_wd_told) _ (by simp only [gs7_tape_at, gs7_sort_at, gs7_head_at, gs7_body_at, gs7_length_at, gg7_at, gs7_told_at]; exact ht25)
      refine zgoI (bs' := [w7 G awd (s7_at (s7_body (s7_head (s7_sort (s7_at bwd t3.2) t25.2.1) t25.2.2.1) t25.2.2.2.1) t25.2.2.2.2)]) hc [0] rfl rfl rfl hP hD hS hA (va_runV (As := []) (rest := []) S (hc.2 _) (cwV 0 S.2.2.2.2 gX7_readStatement_X7_readPair rfl rfl rfl (by decide +kernel) ⟨Nat.le_of_ble_eq_true rfl, Nat.le_of_ble_eq_true rfl⟩) (zpV hK hP hD (is := [0]) rfl rfl 0 rfl rfl (ci := 7) rfl) rfl rfl hl.1 rfl (lv_room (Nat.le_of_ble_eq_true rfl)) dX7_readStatement_25 ⟨Nat.zero_le _, Nat.zero_le _⟩) (fun H locs hn25 hP hD hS => ?_)
      have hw_wd_at_25 : zTp (g7_length bwd) (t25.2.2.2.2) := by rw [← ht25]; exact zTp_readPair hw_wd_at_3
      refine lv_goto (tgt := 35) hx hb dX7_readStatement_28 (by decide) ?_
      rw [show (s7_at (s7_body (s7_head (s7_sort (s7_at bwd t3.2) t25.2.1) t25.2.2.1) t25.2.2.2.1) t25.2.2.2.2) = (s7_at (s7_power (s7_excepts (s7_body (s7_head (s7_sort bwd t25.2.1) t25.2.2.1) t25.2.2.2.1) (g7_excepts bwd)) (g7_power bwd)) t25.2.2.2.2) from ((((congrArg (fun z => s7_at z t25.2.2.2.2) ((congrArg (fun z => s7_body z t25.2.2.2.1) ((congrArg (fun z => s7_head z t25.2.2.1) (cm7_sort_at _ t3.2 t25.2.1)).trans (cm7_head_at _ t3.2 t25.2.2.1))).trans (cm7_body_at _ t3.2 t25.2.2.2.1))).trans (ss7_at _ t3.2 t25.2.2.2.2)).trans (congrArg (fun z => s7_at z t25.2.2.2.2) (((se7_excepts _).symm).trans (congrArg (fun v => s7_excepts (s7_body (s7_head (s7_sort bwd t25.2.1) t25.2.2.1) t25.2.2.2.1) v) ((gs7_excepts_body _ t25.2.2.2.1).trans ((gs7_excepts_head _ t25.2.2.1).trans (gs7_excepts_sort _ t25.2.1))))))).trans (congrArg (fun z => s7_at z t25.2.2.2.2) (((se7_power _).symm).trans (congrArg (fun v => s7_power (s7_excepts (s7_body (s7_head (s7_sort bwd t25.2.1) t25.2.2.1) t25.2.2.2.1) (g7_excepts bwd)) v) ((gs7_power_excepts _ (g7_excepts bwd)).trans ((gs7_power_body _ t25.2.2.2.1).trans ((gs7_power_head _ t25.2.2.1).trans (gs7_power_sort _ t25.2.1))))))))] at hP hD
      exact hret _ _ _ _ _ _ (by subst hE; rfl) hn25 hP hS dX7_readStatement_35
  · have hE := hE.trans (if_neg c6)
    refine lv_aload_n hx hb dX7_readStatement_9 rfl (lv_at hl 0 rfl) ?_
    obtain ⟨t10, ht10⟩ : ∃ z, FX7_readFact (g7_tape bwd) (g7_sort bwd) (g7_head bwd) (g7_length bwd) t3.2 (g7_told bwd) = z := ⟨_, rfl⟩
    have hE := hE.trans (bnd_eq ht10)
    have hc := c_X7_readFact l G awd (s7_at bwd t3.2) (hw_wd_at_3) (hi_wd_told) _ (by simp only [gs7_tape_at, gs7_sort_at, gs7_head_at, gs7_length_at, gg7_at, gs7_told_at]; exact ht10)
    refine zgoI (bs' := [w7 G awd (s7_at (s7_head (s7_sort (s7_at bwd t3.2) t10.2.1) t10.2.2.1) t10.2.2.2)]) hc [0] rfl rfl rfl hP hD hS hA (va_runV (As := []) (rest := []) S (hc.2 _) (cwV 0 S.2.2.2.2 gX7_readStatement_X7_readFact rfl rfl rfl (by decide +kernel) ⟨Nat.le_of_ble_eq_true rfl, Nat.le_of_ble_eq_true rfl⟩) (zpV hK hP hD (is := [0]) rfl rfl 0 rfl rfl (ci := 7) rfl) rfl rfl hl.1 rfl (lv_room (Nat.le_of_ble_eq_true rfl)) dX7_readStatement_10 ⟨Nat.zero_le _, Nat.zero_le _⟩) (fun H locs hn10 hP hD hS => ?_)
    have hw_wd_at_10 : zTp (g7_length bwd) (t10.2.2.2) := by rw [← ht10]; exact zTp_readFact hw_wd_at_3
    rw [show (s7_at (s7_head (s7_sort (s7_at bwd t3.2) t10.2.1) t10.2.2.1) t10.2.2.2) = (s7_at (s7_power (s7_excepts (s7_body (s7_head (s7_sort bwd t10.2.1) t10.2.2.1) (g7_body bwd)) (g7_excepts bwd)) (g7_power bwd)) t10.2.2.2) from (((((congrArg (fun z => s7_at z t10.2.2.2) ((congrArg (fun z => s7_head z t10.2.2.1) (cm7_sort_at _ t3.2 t10.2.1)).trans (cm7_head_at _ t3.2 t10.2.2.1))).trans (ss7_at _ t3.2 t10.2.2.2)).trans (congrArg (fun z => s7_at z t10.2.2.2) (((se7_body _).symm).trans (congrArg (fun v => s7_body (s7_head (s7_sort bwd t10.2.1) t10.2.2.1) v) ((gs7_body_head _ t10.2.2.1).trans (gs7_body_sort _ t10.2.1)))))).trans (congrArg (fun z => s7_at z t10.2.2.2) (((se7_excepts _).symm).trans (congrArg (fun v => s7_excepts (s7_body (s7_head (s7_sort bwd t10.2.1) t10.2.2.1) (g7_body bwd)) v) ((gs7_excepts_body _ (g7_body bwd)).trans ((gs7_excepts_head _ t10.2.2.1).trans (gs7_excepts_sort _ t10.2.1))))))).trans (congrArg (fun z => s7_at z t10.2.2.2) (((se7_power _).symm).trans (congrArg (fun v => s7_power (s7_excepts (s7_body (s7_head (s7_sort bwd t10.2.1) t10.2.2.1) (g7_body bwd)) (g7_excepts bwd)) v) ((gs7_power_excepts _ (g7_excepts bwd)).trans ((gs7_power_body _ (g7_body bwd)).trans ((gs7_power_head _ t10.2.2.1).trans (gs7_power_sort _ t10.2.1))))))))] at hP hD
    exact hret _ _ _ _ _ _ (by subst hE; rfl) hn10 hP hS dX7_readStatement_13

theorem zTp_readStatement {t a b c d e : Nat → Int32} {l q o : Int32} (h : zTp l q) : zTp l (FX7_readStatement t a b c d e l q o).2.2.2.2.2.2 := by
  simp only [FX7_readStatement, bnd]
  repeat' split
  all_goals (try dsimp only)
  all_goals (repeat (first | exact h | apply zTp_take | apply zTp_readLiterals | apply zTp_readLiteral | apply zTp_readFigure | apply zTp_readArrow | apply zTp_readNumber | apply zTp_readFact | apply zTp_readPair | apply zTp_readRule))

theorem in_X7_split_7 : ∀ w ∈ u_ws RX7 TX7 10, w ∈ wsX7_split := by decide +kernel
def rmX7_split : Room := { frames := 5, cells := 0, slots := 0, locals := 108 }
set_option maxHeartbeats 4000000 in
set_option maxRecDepth 100000 in
theorem c_X7_split (l : Launch) (G : zG) (awd : Nat → Nat) (bwd : S7) (hz_wd_length : ∃ N : Nat, N ≤ 120 ∧ g7_length bwd = nI N) (hw_wd_at : zTp (g7_length bwd) (g7_at bwd)) (T : Int32 × (Nat → Int32) × (Nat → Int32) × (Nat → Int32) × (Nat → Int32) × (Nat → Int32) × (Nat → Int32) × (Int32) × (Int32)) (hT : FX7_split (g7_tape bwd) (g7_sort bwd) (g7_head bwd) (g7_body bwd) (g7_excepts bwd) (g7_power bwd) (g7_begins bwd) (g7_length bwd) (g7_at bwd) (g7_told bwd) = T) : zI l yX7_split wsX7_split rmX7_split .boolean G [.ref (awd 0)] [w7 G awd bwd] T.1 [w7 G awd (s7_told (s7_at (s7_begins (s7_power (s7_excepts (s7_body (s7_head (s7_sort bwd T.2.1) T.2.2.1) T.2.2.2.1) T.2.2.2.2.1) T.2.2.2.2.2.1) T.2.2.2.2.2.2.1) T.2.2.2.2.2.2.2.1) T.2.2.2.2.2.2.2.2)] := by
  refine zI.mk (cc := cX7_split) (maxL := 1) (by decide +kernel) rfl (Nat.le_of_ble_eq_true rfl) (zfl_cons (wf7 _ _ _ _) rfl) ?_
  intro p e s m args below meth c Q A ls S hK hD hA hP hl hret
  have hx := S.1
  have hb := S.2.1
  have hS : va_S A s.heap s.heap [] := va_S.rf
  have hl : lv_has ls 1 [(0, .ref (awd 0))] := hl
  have hE := hT.symm.trans (FX7_split.eq_1 _ _ _ _ _ _ _ _ _ _)
  refine lv_aload_n hx hb dX7_split_0 rfl (lv_at hl 0 rfl) ?_
  refine lv_iconst (v := 0) hx hb dX7_split_1 (by decide) ?_
  refine zp7_at (bs1 := [w7 G awd (s7_at bwd 0)]) S in_X7_split_7 hK hP hD hS 0 rfl (List.mem_of_getElem? (i := 1) rfl) dX7_split_2 rfl (fun H locs hP hD hS => ?_)
  have hw_wd_at_2 : zTp (g7_length bwd) (0) := zTp_0 hz_wd_length
  refine lv_aload_n hx hb dX7_split_5 rfl (lv_at hl 0 rfl) ?_
  refine lv_iconst (v := 0) hx hb dX7_split_6 (by decide) ?_
  have hB75 : ∀ (wd_sort_75 : Nat → Int32) (wd_head_75 : Nat → Int32) (wd_body_75 : Nat → Int32) (wd_excepts_75 : Nat → Int32) (wd_power_75 : Nat → Int32) (wd_begins_75 : Nat → Int32) (wd_at_75 : Int32) (wd_told_75 : Int32) (H : Heap) (locs : List Loc) (ls : Array Slot), (zTp (g7_length bwd) (wd_at_75)) → (zTp (g7_length bwd) (wd_at_75)) → (∃ N : Nat, N ≤ 60 ∧ wd_told_75 = nI N) → T = FX7_split_75 (g7_tape bwd) (g7_sort bwd) (g7_head bwd) (g7_body bwd) (g7_excepts bwd) (g7_power bwd) (g7_begins bwd) (g7_length bwd) (g7_at bwd) (g7_told bwd) wd_sort_75 wd_head_75 wd_body_75 wd_excepts_75 wd_power_75 wd_begins_75 wd_at_75 wd_told_75 → zP G [w7 G awd (s7_told (s7_at (s7_begins (s7_power (s7_excepts (s7_body (s7_head (s7_sort bwd wd_sort_75) wd_head_75) wd_body_75) wd_excepts_75) wd_power_75) wd_begins_75) wd_at_75) wd_told_75)] H → zD A [w7 G awd (s7_told (s7_at (s7_begins (s7_power (s7_excepts (s7_body (s7_head (s7_sort bwd wd_sort_75) wd_head_75) wd_body_75) wd_excepts_75) wd_power_75) wd_begins_75) wd_at_75) wd_told_75)] → va_S A s.heap H locs → lv_has ls 1 [] → W p l e rmX7_split s m args below meth c H locs 0 0 Q (F0 m 75 ls []) := by
    intro wd_sort_75 wd_head_75 wd_body_75 wd_excepts_75 wd_power_75 wd_begins_75 wd_at_75 wd_told_75 H locs ls hw_wd_at_B75 hw_wd_at_B75 hz_wd_told_B75 hE hP hD hS hl
    have hE := hE.trans (FX7_split_75.eq_1 _ _ _ _ _ _ _ _ _ _ _ _ _ _ _ _ _ _)
    refine lv_iconst (v := 0) hx hb dX7_split_75 (by decide) ?_
    exact hret _ _ _ _ _ _ (by subst hE; rfl) zn0 hP hS dX7_split_76
  have hB10 : ∀ (n10 : Nat) (wd_sort_10 : Nat → Int32) (wd_head_10 : Nat → Int32) (wd_body_10 : Nat → Int32) (wd_excepts_10 : Nat → Int32) (wd_power_10 : Nat → Int32) (wd_begins_10 : Nat → Int32) (wd_at_10 : Int32) (wd_told_10 : Int32) (H : Heap) (locs : List Loc) (ls : Array Slot), (zTp (g7_length bwd) (wd_at_10)) → (zTp (g7_length bwd) (wd_at_10)) → (∃ N : Nat, N ≤ 60 ∧ wd_told_10 = nI N) → (∃ N : Nat, N ≤ 60 ∧ wd_told_10 = nI N ∧ 61 ≤ N + n10) → T = FX7_split_10 (g7_tape bwd) (g7_sort bwd) (g7_head bwd) (g7_body bwd) (g7_excepts bwd) (g7_power bwd) (g7_begins bwd) (g7_length bwd) (g7_at bwd) (g7_told bwd) (FX7_split_75 (g7_tape bwd) (g7_sort bwd) (g7_head bwd) (g7_body bwd) (g7_excepts bwd) (g7_power bwd) (g7_begins bwd) (g7_length bwd) (g7_at bwd) (g7_told bwd)) n10 wd_sort_10 wd_head_10 wd_body_10 wd_excepts_10 wd_power_10 wd_begins_10 wd_at_10 wd_told_10 → zP G [w7 G awd (s7_told (s7_at (s7_begins (s7_power (s7_excepts (s7_body (s7_head (s7_sort bwd wd_sort_10) wd_head_10) wd_body_10) wd_excepts_10) wd_power_10) wd_begins_10) wd_at_10) wd_told_10)] H → zD A [w7 G awd (s7_told (s7_at (s7_begins (s7_power (s7_excepts (s7_body (s7_head (s7_sort bwd wd_sort_10) wd_head_10) wd_body_10) wd_excepts_10) wd_power_10) wd_begins_10) wd_at_10) wd_told_10)] → va_S A s.heap H locs → lv_has ls 1 [(0, .ref (awd 0))] → W p l e rmX7_split s m args below meth c H locs 0 0 Q (F0 m 10 ls []) := by
    intro n10
    induction n10 with
    | zero =>
      intro wd_sort_10 wd_head_10 wd_body_10 wd_excepts_10 wd_power_10 wd_begins_10 wd_at_10 wd_told_10 H locs ls hw_wd_at_B10 hw_wd_at_B10 hz_wd_told_B10 hn hE hP hD hS hl
      exact absurd hn (by rintro ⟨N, h1, -, h3⟩; omega)
    | succ n10 ih10 =>
      intro wd_sort_10 wd_head_10 wd_body_10 wd_excepts_10 wd_power_10 wd_begins_10 wd_at_10 wd_told_10 H locs ls hw_wd_at_B10 hw_wd_at_B10 hz_wd_told_B10 hn hE hP hD hS hl
      have hE := hE.trans (FX7_split_10.eq_2 _ _ _ _ _ _ _ _ _ _ _ _ _ _ _ _ _ _ _ _)
      refine lv_aload_n hx hb dX7_split_10 rfl (lv_at hl 0 rfl) ?_
      refine zg7_told S in_X7_split_7 hK hP 0 rfl (List.mem_of_getElem? (i := 2) rfl) (v := wd_told_10) (gg7_told _ wd_told_10) dX7_split_11 ?_
      refine lv_bipush (v := 60) hx hb dX7_split_14 (by decide) ?_
      refine lv_icmp_ge (tgt := 75) hx hb dX7_split_16 (by decide) (fun c16 => ?_) (fun c16 => ?_)
      · have hE := hE.trans (if_pos c16)
        exact hB75 wd_sort_10 wd_head_10 wd_body_10 wd_excepts_10 wd_power_10 wd_begins_10 wd_at_10 wd_told_10 _ _ _ (by exact hw_wd_at_B10) (by exact hw_wd_at_B10) (by exact hz_wd_told_B10) hE hP hD hS (lv_sub hl [] rfl)
      · have hE := hE.trans (if_neg c16)
        have hi_wd_told : vp_in wd_told_10 60 := by obtain ⟨N, h1, h2⟩ := hz_wd_told_B10; exact zfld_nle h2 (by omega) rfl (by decide) c16
        refine lv_aload_n hx hb dX7_split_19 rfl (lv_at hl 0 rfl) ?_
        refine zg7_begins S in_X7_split_7 hK hP 0 rfl (List.mem_of_getElem? (i := 3) rfl) dX7_split_20 ?_
        refine lv_aload_n hx hb dX7_split_23 rfl (lv_at hl 0 rfl) ?_
        refine zg7_told S in_X7_split_7 hK hP 0 rfl (List.mem_of_getElem? (i := 2) rfl) (v := wd_told_10) (gg7_told _ wd_told_10) dX7_split_24 ?_
        refine lv_aload_n hx hb dX7_split_27 rfl (lv_at hl 0 rfl) ?_
        refine zg7_at S in_X7_split_7 hK hP 0 rfl (List.mem_of_getElem? (i := 1) rfl) (v := wd_at_10) ((gs7_at_told _ wd_told_10).trans (gg7_at _ wd_at_10)) dX7_split_28 ?_
        refine zs7_begins (bs1 := [w7 G awd (s7_begins (s7_told (s7_at (s7_begins (s7_power (s7_excepts (s7_body (s7_head (s7_sort bwd wd_sort_10) wd_head_10) wd_body_10) wd_excepts_10) wd_power_10) wd_begins_10) wd_at_10) wd_told_10) (upd wd_begins_10 wd_told_10.toNatClampNeg wd_at_10))]) S hK hP hD hS 0 rfl (hi_wd_told) (f := wd_begins_10) ((gs7_begins_told _ wd_told_10).trans ((gs7_begins_at _ wd_at_10).trans (gg7_begins _ wd_begins_10))) dX7_split_31 rfl (fun H locs hP hD hS => ?_)
        refine lv_aload_n hx hb dX7_split_32 rfl (lv_at hl 0 rfl) ?_
        obtain ⟨t33, ht33⟩ : ∃ z, FX7_readStatement (g7_tape bwd) wd_sort_10 wd_head_10 wd_body_10 wd_excepts_10 wd_power_10 (g7_length bwd) wd_at_10 wd_told_10 = z := ⟨_, rfl⟩
        have hE := hE.trans (bnd_eq ht33)
        have hc := c_X7_readStatement l G awd (s7_begins (s7_told (s7_at (s7_begins (s7_power (s7_excepts (s7_body (s7_head (s7_sort bwd wd_sort_10) wd_head_10) wd_body_10) wd_excepts_10) wd_power_10) wd_begins_10) wd_at_10) wd_told_10) (upd wd_begins_10 wd_told_10.toNatClampNeg wd_at_10)) (hw_wd_at_B10) (hi_wd_told) _ (by simp only [gs7_tape_begins, gs7_tape_told, gs7_tape_at, gs7_tape_power, gs7_tape_excepts, gs7_tape_body, gs7_tape_head, gs7_tape_sort, gs7_sort_begins, gs7_sort_told, gs7_sort_at, gs7_sort_power, gs7_sort_excepts, gs7_sort_body, gs7_sort_head, gg7_sort, gs7_head_begins, gs7_head_told, gs7_head_at, gs7_head_power, gs7_head_excepts, gs7_head_body, gg7_head, gs7_body_begins, gs7_body_told, gs7_body_at, gs7_body_power, gs7_body_excepts, gg7_body, gs7_excepts_begins, gs7_excepts_told, gs7_excepts_at, gs7_excepts_power, gg7_excepts, gs7_power_begins, gs7_power_told, gs7_power_at, gg7_power, gs7_length_begins, gs7_length_told, gs7_length_at, gs7_length_power, gs7_length_excepts, gs7_length_body, gs7_length_head, gs7_length_sort, gs7_at_begins, gs7_at_told, gg7_at, gs7_told_begins, gg7_told]; exact ht33)
        refine zgoI (bs' := [w7 G awd (s7_at (s7_power (s7_excepts (s7_body (s7_head (s7_sort (s7_begins (s7_told (s7_at (s7_begins (s7_power (s7_excepts (s7_body (s7_head (s7_sort bwd wd_sort_10) wd_head_10) wd_body_10) wd_excepts_10) wd_power_10) wd_begins_10) wd_at_10) wd_told_10) (upd wd_begins_10 wd_told_10.toNatClampNeg wd_at_10)) t33.2.1) t33.2.2.1) t33.2.2.2.1) t33.2.2.2.2.1) t33.2.2.2.2.2.1) t33.2.2.2.2.2.2)]) hc [0] rfl rfl rfl hP hD hS hA (va_runV (As := []) (rest := []) S (hc.2 _) (cwV 0 S.2.2.2.2 gX7_split_X7_readStatement rfl rfl rfl (by decide +kernel) ⟨Nat.le_of_ble_eq_true rfl, Nat.le_of_ble_eq_true rfl⟩) (zpV hK hP hD (is := [0]) rfl rfl 0 rfl rfl (ci := 7) rfl) rfl rfl hl.1 rfl (lv_room (Nat.le_of_ble_eq_true rfl)) dX7_split_33 ⟨Nat.zero_le _, Nat.zero_le _⟩) (fun H locs hn33 hP hD hS => ?_)
        have hw_wd_at_33 : zTp (g7_length bwd) (t33.2.2.2.2.2.2) := by rw [← ht33]; exact zTp_readStatement hw_wd_at_B10
        have hw_wd_at_33 : zTp (g7_length bwd) (t33.2.2.2.2.2.2) := by rw [← ht33]; exact zTp_readStatement hw_wd_at_33
        refine lv_if_ne (tgt := 41) hx hb dX7_split_36 (by decide) (fun c36 => ?_) (fun c36 => ?_)
        · have hE := hE.trans (if_neg c36)
          refine lv_aload_n hx hb dX7_split_41 rfl (lv_at hl 0 rfl) ?_
          refine lv_dup hx hb dX7_split_42 rfl ?_
          refine zg7_told S in_X7_split_7 hK hP 0 rfl (List.mem_of_getElem? (i := 2) rfl) (v := wd_told_10) ((gs7_told_at _ t33.2.2.2.2.2.2).trans ((gs7_told_power _ t33.2.2.2.2.2.1).trans ((gs7_told_excepts _ t33.2.2.2.2.1).trans ((gs7_told_body _ t33.2.2.2.1).trans ((gs7_told_head _ t33.2.2.1).trans ((gs7_told_sort _ t33.2.1).trans ((gs7_told_begins _ (upd wd_begins_10 wd_told_10.toNatClampNeg wd_at_10)).trans (gg7_told _ wd_told_10)))))))) dX7_split_43 ?_
          refine lv_iconst (v := 1) hx hb dX7_split_46 (by decide) ?_
          refine lv_iadd hx hb dX7_split_47 ?_
          refine zp7_told (bs1 := [w7 G awd (s7_told (s7_at (s7_power (s7_excepts (s7_body (s7_head (s7_sort (s7_begins (s7_told (s7_at (s7_begins (s7_power (s7_excepts (s7_body (s7_head (s7_sort bwd wd_sort_10) wd_head_10) wd_body_10) wd_excepts_10) wd_power_10) wd_begins_10) wd_at_10) wd_told_10) (upd wd_begins_10 wd_told_10.toNatClampNeg wd_at_10)) t33.2.1) t33.2.2.1) t33.2.2.2.1) t33.2.2.2.2.1) t33.2.2.2.2.2.1) t33.2.2.2.2.2.2) (wd_told_10 + 1))]) S in_X7_split_7 hK hP hD hS 0 rfl (List.mem_of_getElem? (i := 2) rfl) dX7_split_48 rfl (fun H locs hP hD hS => ?_)
          have hz_wd_told_48 : ∃ N : Nat, N ≤ 60 ∧ (wd_told_10 + 1) = nI N := znext hz_wd_told_B10 rfl (by decide) c16
          refine lv_aload_n hx hb dX7_split_51 rfl (lv_at hl 0 rfl) ?_
          refine zg7_at S in_X7_split_7 hK hP 0 rfl (List.mem_of_getElem? (i := 1) rfl) (v := t33.2.2.2.2.2.2) ((gs7_at_told _ (wd_told_10 + 1)).trans (gg7_at _ t33.2.2.2.2.2.2)) dX7_split_52 ?_
          refine lv_aload_n hx hb dX7_split_55 rfl (lv_at hl 0 rfl) ?_
          refine zg7_length S in_X7_split_7 hK hP 0 rfl (List.mem_of_getElem? (i := 4) rfl) (v := (g7_length bwd)) ((gs7_length_told _ (wd_told_10 + 1)).trans ((gs7_length_at _ t33.2.2.2.2.2.2).trans ((gs7_length_power _ t33.2.2.2.2.2.1).trans ((gs7_length_excepts _ t33.2.2.2.2.1).trans ((gs7_length_body _ t33.2.2.2.1).trans ((gs7_length_head _ t33.2.2.1).trans ((gs7_length_sort _ t33.2.1).trans ((gs7_length_begins _ (upd wd_begins_10 wd_told_10.toNatClampNeg wd_at_10)).trans ((gs7_length_told _ wd_told_10).trans ((gs7_length_at _ wd_at_10).trans ((gs7_length_begins _ wd_begins_10).trans ((gs7_length_power _ wd_power_10).trans ((gs7_length_excepts _ wd_excepts_10).trans ((gs7_length_body _ wd_body_10).trans ((gs7_length_head _ wd_head_10).trans (gs7_length_sort _ wd_sort_10)))))))))))))))) dX7_split_56 ?_
          refine lv_icmp_lt (tgt := 64) hx hb dX7_split_59 (by decide) (fun c59 => ?_) (fun c59 => ?_)
          · have hE := hE.trans (if_pos c59)
            refine lv_aload_n hx hb dX7_split_64 rfl (lv_at hl 0 rfl) ?_
            refine lv_bipush (v := 59) hx hb dX7_split_65 (by decide) ?_
            obtain ⟨t67, ht67⟩ : ∃ z, FX7_take (g7_tape bwd) (g7_length bwd) t33.2.2.2.2.2.2 59 = z := ⟨_, rfl⟩
            have hE := hE.trans (bnd_eq ht67)
            have hc := c_X7_take l G awd (s7_told (s7_at (s7_power (s7_excepts (s7_body (s7_head (s7_sort (s7_begins (s7_told (s7_at (s7_begins (s7_power (s7_excepts (s7_body (s7_head (s7_sort bwd wd_sort_10) wd_head_10) wd_body_10) wd_excepts_10) wd_power_10) wd_begins_10) wd_at_10) wd_told_10) (upd wd_begins_10 wd_told_10.toNatClampNeg wd_at_10)) t33.2.1) t33.2.2.1) t33.2.2.2.1) t33.2.2.2.2.1) t33.2.2.2.2.2.1) t33.2.2.2.2.2.2) (wd_told_10 + 1)) 59 (hw_wd_at_33) _ (by simp only [gs7_tape_told, gs7_tape_at, gs7_tape_power, gs7_tape_excepts, gs7_tape_body, gs7_tape_head, gs7_tape_sort, gs7_tape_begins, gs7_length_told, gs7_length_at, gs7_length_power, gs7_length_excepts, gs7_length_body, gs7_length_head, gs7_length_sort, gs7_length_begins, gs7_at_told, gg7_at]; exact ht67)
            refine zgoI (bs' := [w7 G awd (s7_at (s7_told (s7_at (s7_power (s7_excepts (s7_body (s7_head (s7_sort (s7_begins (s7_told (s7_at (s7_begins (s7_power (s7_excepts (s7_body (s7_head (s7_sort bwd wd_sort_10) wd_head_10) wd_body_10) wd_excepts_10) wd_power_10) wd_begins_10) wd_at_10) wd_told_10) (upd wd_begins_10 wd_told_10.toNatClampNeg wd_at_10)) t33.2.1) t33.2.2.1) t33.2.2.2.1) t33.2.2.2.2.1) t33.2.2.2.2.2.1) t33.2.2.2.2.2.2) (wd_told_10 + 1)) t67.2)]) hc [0] rfl rfl rfl hP hD hS hA (va_runV (As := [.int 59]) (rest := []) S (hc.2 _) (cwV 1 S.2.2.2.2 gX7_split_X7_take rfl rfl rfl (by decide +kernel) ⟨Nat.le_of_ble_eq_true rfl, Nat.le_of_ble_eq_true rfl⟩) (zpV hK hP hD (is := [0]) rfl rfl 0 rfl rfl (ci := 7) rfl) rfl rfl hl.1 rfl (lv_room (Nat.le_of_ble_eq_true rfl)) dX7_split_67 ⟨Nat.zero_le _, Nat.zero_le _⟩) (fun H locs hn67 hP hD hS => ?_)
            have hw_wd_at_67 : zTp (g7_length bwd) (t67.2) := by rw [← ht67]; exact zTp_take hw_wd_at_33
            have hw_wd_at_67 : zTp (g7_length bwd) (t67.2) := by rw [← ht67]; exact zTp_take hw_wd_at_67
            refine lv_if_ne (tgt := 10) hx hb dX7_split_70 (by decide) (fun c70 => ?_) (fun c70 => ?_)
            · have hE := hE.trans (if_neg c70)
              rw [show (s7_at (s7_told (s7_at (s7_power (s7_excepts (s7_body (s7_head (s7_sort (s7_begins (s7_told (s7_at (s7_begins (s7_power (s7_excepts (s7_body (s7_head (s7_sort bwd wd_sort_10) wd_head_10) wd_body_10) wd_excepts_10) wd_power_10) wd_begins_10) wd_at_10) wd_told_10) (upd wd_begins_10 wd_told_10.toNatClampNeg wd_at_10)) t33.2.1) t33.2.2.1) t33.2.2.2.1) t33.2.2.2.2.1) t33.2.2.2.2.2.1) t33.2.2.2.2.2.2) (wd_told_10 + 1)) t67.2) = (s7_told (s7_at (s7_begins (s7_power (s7_excepts (s7_body (s7_head (s7_sort bwd t33.2.1) t33.2.2.1) t33.2.2.2.1) t33.2.2.2.2.1) t33.2.2.2.2.2.1) (upd wd_begins_10 wd_told_10.toNatClampNeg wd_at_10)) t67.2) (wd_told_10 + 1)) from ((congrArg (fun z => s7_at z t67.2) ((congrArg (fun z => s7_told z (wd_told_10 + 1)) ((congrArg (fun z => s7_at z t33.2.2.2.2.2.2) ((congrArg (fun z => s7_power z t33.2.2.2.2.2.1) ((congrArg (fun z => s7_excepts z t33.2.2.2.2.1) ((congrArg (fun z => s7_body z t33.2.2.2.1) ((congrArg (fun z => s7_head z t33.2.2.1) ((congrArg (fun z => s7_sort z t33.2.1) ((cm7_begins_told _ wd_told_10 (upd wd_begins_10 wd_told_10.toNatClampNeg wd_at_10)).trans (congrArg (fun z => s7_told z wd_told_10) ((cm7_begins_at _ wd_at_10 (upd wd_begins_10 wd_told_10.toNatClampNeg wd_at_10)).trans (congrArg (fun z => s7_at z wd_at_10) (ss7_begins _ wd_begins_10 (upd wd_begins_10 wd_told_10.toNatClampNeg wd_at_10))))))).trans ((cm7_sort_told _ wd_told_10 t33.2.1).trans (congrArg (fun z => s7_told z wd_told_10) ((cm7_sort_at _ wd_at_10 t33.2.1).trans (congrArg (fun z => s7_at z wd_at_10) ((cm7_sort_begins _ (upd wd_begins_10 wd_told_10.toNatClampNeg wd_at_10) t33.2.1).trans (congrArg (fun z => s7_begins z (upd wd_begins_10 wd_told_10.toNatClampNeg wd_at_10)) ((cm7_sort_power _ wd_power_10 t33.2.1).trans (congrArg (fun z => s7_power z wd_power_10) ((cm7_sort_excepts _ wd_excepts_10 t33.2.1).trans (congrArg (fun z => s7_excepts z wd_excepts_10) ((cm7_sort_body _ wd_body_10 t33.2.1).trans (congrArg (fun z => s7_body z wd_body_10) ((cm7_sort_head _ wd_head_10 t33.2.1).trans (congrArg (fun z => s7_head z wd_head_10) (ss7_sort _ wd_sort_10 t33.2.1))))))))))))))))).trans ((cm7_head_told _ wd_told_10 t33.2.2.1).trans (congrArg (fun z => s7_told z wd_told_10) ((cm7_head_at _ wd_at_10 t33.2.2.1).trans (congrArg (fun z => s7_at z wd_at_10) ((cm7_head_begins _ (upd wd_begins_10 wd_told_10.toNatClampNeg wd_at_10) t33.2.2.1).trans (congrArg (fun z => s7_begins z (upd wd_begins_10 wd_told_10.toNatClampNeg wd_at_10)) ((cm7_head_power _ wd_power_10 t33.2.2.1).trans (congrArg (fun z => s7_power z wd_power_10) ((cm7_head_excepts _ wd_excepts_10 t33.2.2.1).trans (congrArg (fun z => s7_excepts z wd_excepts_10) ((cm7_head_body _ wd_body_10 t33.2.2.1).trans (congrArg (fun z => s7_body z wd_body_10) (ss7_head _ wd_head_10 t33.2.2.1))))))))))))))).trans ((cm7_body_told _ wd_told_10 t33.2.2.2.1).trans (congrArg (fun z => s7_told z wd_told_10) ((cm7_body_at _ wd_at_10 t33.2.2.2.1).trans (congrArg (fun z => s7_at z wd_at_10) ((cm7_body_begins _ (upd wd_begins_10 wd_told_10.toNatClampNeg wd_at_10) t33.2.2.2.1).trans (congrArg (fun z => s7_begins z (upd wd_begins_10 wd_told_10.toNatClampNeg wd_at_10)) ((cm7_body_power _ wd_power_10 t33.2.2.2.1).trans (congrArg (fun z => s7_power z wd_power_10) ((cm7_body_excepts _ wd_excepts_10 t33.2.2.2.1).trans (congrArg (fun z => s7_excepts z wd_excepts_10) (ss7_body _ wd_body_10 t33.2.2.2.1))))))))))))).trans ((cm7_excepts_told _ wd_told_10 t33.2.2.2.2.1).trans (congrArg (fun z => s7_told z wd_told_10) ((cm7_excepts_at _ wd_at_10 t33.2.2.2.2.1).trans (congrArg (fun z => s7_at z wd_at_10) ((cm7_excepts_begins _ (upd wd_begins_10 wd_told_10.toNatClampNeg wd_at_10) t33.2.2.2.2.1).trans (congrArg (fun z => s7_begins z (upd wd_begins_10 wd_told_10.toNatClampNeg wd_at_10)) ((cm7_excepts_power _ wd_power_10 t33.2.2.2.2.1).trans (congrArg (fun z => s7_power z wd_power_10) (ss7_excepts _ wd_excepts_10 t33.2.2.2.2.1))))))))))).trans ((cm7_power_told _ wd_told_10 t33.2.2.2.2.2.1).trans (congrArg (fun z => s7_told z wd_told_10) ((cm7_power_at _ wd_at_10 t33.2.2.2.2.2.1).trans (congrArg (fun z => s7_at z wd_at_10) ((cm7_power_begins _ (upd wd_begins_10 wd_told_10.toNatClampNeg wd_at_10) t33.2.2.2.2.2.1).trans (congrArg (fun z => s7_begins z (upd wd_begins_10 wd_told_10.toNatClampNeg wd_at_10)) (ss7_power _ wd_power_10 t33.2.2.2.2.2.1))))))))).trans ((cm7_at_told _ wd_told_10 t33.2.2.2.2.2.2).trans (congrArg (fun z => s7_told z wd_told_10) (ss7_at _ wd_at_10 t33.2.2.2.2.2.2))))).trans (ss7_told _ wd_told_10 (wd_told_10 + 1)))).trans ((cm7_at_told _ (wd_told_10 + 1) t67.2).trans (congrArg (fun z => s7_told z (wd_told_10 + 1)) (ss7_at _ t33.2.2.2.2.2.2 t67.2))))] at hP hD
              exact ih10 t33.2.1 t33.2.2.1 t33.2.2.2.1 t33.2.2.2.2.1 t33.2.2.2.2.2.1 (upd wd_begins_10 wd_told_10.toNatClampNeg wd_at_10) t67.2 (wd_told_10 + 1) _ _ _ (by exact hw_wd_at_67) (by exact hw_wd_at_67) (by exact hz_wd_told_48) (by exact zmn60 hn c16) hE hP hD hS (lv_sub hl [0] rfl)
            · have hE := hE.trans (if_pos c70)
              refine lv_iconst (v := 0) hx hb dX7_split_73 (by decide) ?_
              rw [show (s7_at (s7_told (s7_at (s7_power (s7_excepts (s7_body (s7_head (s7_sort (s7_begins (s7_told (s7_at (s7_begins (s7_power (s7_excepts (s7_body (s7_head (s7_sort bwd wd_sort_10) wd_head_10) wd_body_10) wd_excepts_10) wd_power_10) wd_begins_10) wd_at_10) wd_told_10) (upd wd_begins_10 wd_told_10.toNatClampNeg wd_at_10)) t33.2.1) t33.2.2.1) t33.2.2.2.1) t33.2.2.2.2.1) t33.2.2.2.2.2.1) t33.2.2.2.2.2.2) (wd_told_10 + 1)) t67.2) = (s7_told (s7_at (s7_begins (s7_power (s7_excepts (s7_body (s7_head (s7_sort bwd t33.2.1) t33.2.2.1) t33.2.2.2.1) t33.2.2.2.2.1) t33.2.2.2.2.2.1) (upd wd_begins_10 wd_told_10.toNatClampNeg wd_at_10)) t67.2) (wd_told_10 + 1)) from ((congrArg (fun z => s7_at z t67.2) ((congrArg (fun z => s7_told z (wd_told_10 + 1)) ((congrArg (fun z => s7_at z t33.2.2.2.2.2.2) ((congrArg (fun z => s7_power z t33.2.2.2.2.2.1) ((congrArg (fun z => s7_excepts z t33.2.2.2.2.1) ((congrArg (fun z => s7_body z t33.2.2.2.1) ((congrArg (fun z => s7_head z t33.2.2.1) ((congrArg (fun z => s7_sort z t33.2.1) ((cm7_begins_told _ wd_told_10 (upd wd_begins_10 wd_told_10.toNatClampNeg wd_at_10)).trans (congrArg (fun z => s7_told z wd_told_10) ((cm7_begins_at _ wd_at_10 (upd wd_begins_10 wd_told_10.toNatClampNeg wd_at_10)).trans (congrArg (fun z => s7_at z wd_at_10) (ss7_begins _ wd_begins_10 (upd wd_begins_10 wd_told_10.toNatClampNeg wd_at_10))))))).trans ((cm7_sort_told _ wd_told_10 t33.2.1).trans (congrArg (fun z => s7_told z wd_told_10) ((cm7_sort_at _ wd_at_10 t33.2.1).trans (congrArg (fun z => s7_at z wd_at_10) ((cm7_sort_begins _ (upd wd_begins_10 wd_told_10.toNatClampNeg wd_at_10) t33.2.1).trans (congrArg (fun z => s7_begins z (upd wd_begins_10 wd_told_10.toNatClampNeg wd_at_10)) ((cm7_sort_power _ wd_power_10 t33.2.1).trans (congrArg (fun z => s7_power z wd_power_10) ((cm7_sort_excepts _ wd_excepts_10 t33.2.1).trans (congrArg (fun z => s7_excepts z wd_excepts_10) ((cm7_sort_body _ wd_body_10 t33.2.1).trans (congrArg (fun z => s7_body z wd_body_10) ((cm7_sort_head _ wd_head_10 t33.2.1).trans (congrArg (fun z => s7_head z wd_head_10) (ss7_sort _ wd_sort_10 t33.2.1))))))))))))))))).trans ((cm7_head_told _ wd_told_10 t33.2.2.1).trans (congrArg (fun z => s7_told z wd_told_10) ((cm7_head_at _ wd_at_10 t33.2.2.1).trans (congrArg (fun z => s7_at z wd_at_10) ((cm7_head_begins _ (upd wd_begins_10 wd_told_10.toNatClampNeg wd_at_10) t33.2.2.1).trans (congrArg (fun z => s7_begins z (upd wd_begins_10 wd_told_10.toNatClampNeg wd_at_10)) ((cm7_head_power _ wd_power_10 t33.2.2.1).trans (congrArg (fun z => s7_power z wd_power_10) ((cm7_head_excepts _ wd_excepts_10 t33.2.2.1).trans (congrArg (fun z => s7_excepts z wd_excepts_10) ((cm7_head_body _ wd_body_10 t33.2.2.1).trans (congrArg (fun z => s7_body z wd_body_10) (ss7_head _ wd_head_10 t33.2.2.1))))))))))))))).trans ((cm7_body_told _ wd_told_10 t33.2.2.2.1).trans (congrArg (fun z => s7_told z wd_told_10) ((cm7_body_at _ wd_at_10 t33.2.2.2.1).trans (congrArg (fun z => s7_at z wd_at_10) ((cm7_body_begins _ (upd wd_begins_10 wd_told_10.toNatClampNeg wd_at_10) t33.2.2.2.1).trans (congrArg (fun z => s7_begins z (upd wd_begins_10 wd_told_10.toNatClampNeg wd_at_10)) ((cm7_body_power _ wd_power_10 t33.2.2.2.1).trans (congrArg (fun z => s7_power z wd_power_10) ((cm7_body_excepts _ wd_excepts_10 t33.2.2.2.1).trans (congrArg (fun z => s7_excepts z wd_excepts_10) (ss7_body _ wd_body_10 t33.2.2.2.1))))))))))))).trans ((cm7_excepts_told _ wd_told_10 t33.2.2.2.2.1).trans (congrArg (fun z => s7_told z wd_told_10) ((cm7_excepts_at _ wd_at_10 t33.2.2.2.2.1).trans (congrArg (fun z => s7_at z wd_at_10) ((cm7_excepts_begins _ (upd wd_begins_10 wd_told_10.toNatClampNeg wd_at_10) t33.2.2.2.2.1).trans (congrArg (fun z => s7_begins z (upd wd_begins_10 wd_told_10.toNatClampNeg wd_at_10)) ((cm7_excepts_power _ wd_power_10 t33.2.2.2.2.1).trans (congrArg (fun z => s7_power z wd_power_10) (ss7_excepts _ wd_excepts_10 t33.2.2.2.2.1))))))))))).trans ((cm7_power_told _ wd_told_10 t33.2.2.2.2.2.1).trans (congrArg (fun z => s7_told z wd_told_10) ((cm7_power_at _ wd_at_10 t33.2.2.2.2.2.1).trans (congrArg (fun z => s7_at z wd_at_10) ((cm7_power_begins _ (upd wd_begins_10 wd_told_10.toNatClampNeg wd_at_10) t33.2.2.2.2.2.1).trans (congrArg (fun z => s7_begins z (upd wd_begins_10 wd_told_10.toNatClampNeg wd_at_10)) (ss7_power _ wd_power_10 t33.2.2.2.2.2.1))))))))).trans ((cm7_at_told _ wd_told_10 t33.2.2.2.2.2.2).trans (congrArg (fun z => s7_told z wd_told_10) (ss7_at _ wd_at_10 t33.2.2.2.2.2.2))))).trans (ss7_told _ wd_told_10 (wd_told_10 + 1)))).trans ((cm7_at_told _ (wd_told_10 + 1) t67.2).trans (congrArg (fun z => s7_told z (wd_told_10 + 1)) (ss7_at _ t33.2.2.2.2.2.2 t67.2))))] at hP hD
              exact hret _ _ _ _ _ _ (by subst hE; rfl) zn0 hP hS dX7_split_74
          · have hE := hE.trans (if_neg c59)
            refine lv_iconst (v := 1) hx hb dX7_split_62 (by decide) ?_
            rw [show (s7_told (s7_at (s7_power (s7_excepts (s7_body (s7_head (s7_sort (s7_begins (s7_told (s7_at (s7_begins (s7_power (s7_excepts (s7_body (s7_head (s7_sort bwd wd_sort_10) wd_head_10) wd_body_10) wd_excepts_10) wd_power_10) wd_begins_10) wd_at_10) wd_told_10) (upd wd_begins_10 wd_told_10.toNatClampNeg wd_at_10)) t33.2.1) t33.2.2.1) t33.2.2.2.1) t33.2.2.2.2.1) t33.2.2.2.2.2.1) t33.2.2.2.2.2.2) (wd_told_10 + 1)) = (s7_told (s7_at (s7_begins (s7_power (s7_excepts (s7_body (s7_head (s7_sort bwd t33.2.1) t33.2.2.1) t33.2.2.2.1) t33.2.2.2.2.1) t33.2.2.2.2.2.1) (upd wd_begins_10 wd_told_10.toNatClampNeg wd_at_10)) t33.2.2.2.2.2.2) (wd_told_10 + 1)) from ((congrArg (fun z => s7_told z (wd_told_10 + 1)) ((congrArg (fun z => s7_at z t33.2.2.2.2.2.2) ((congrArg (fun z => s7_power z t33.2.2.2.2.2.1) ((congrArg (fun z => s7_excepts z t33.2.2.2.2.1) ((congrArg (fun z => s7_body z t33.2.2.2.1) ((congrArg (fun z => s7_head z t33.2.2.1) ((congrArg (fun z => s7_sort z t33.2.1) ((cm7_begins_told _ wd_told_10 (upd wd_begins_10 wd_told_10.toNatClampNeg wd_at_10)).trans (congrArg (fun z => s7_told z wd_told_10) ((cm7_begins_at _ wd_at_10 (upd wd_begins_10 wd_told_10.toNatClampNeg wd_at_10)).trans (congrArg (fun z => s7_at z wd_at_10) (ss7_begins _ wd_begins_10 (upd wd_begins_10 wd_told_10.toNatClampNeg wd_at_10))))))).trans ((cm7_sort_told _ wd_told_10 t33.2.1).trans (congrArg (fun z => s7_told z wd_told_10) ((cm7_sort_at _ wd_at_10 t33.2.1).trans (congrArg (fun z => s7_at z wd_at_10) ((cm7_sort_begins _ (upd wd_begins_10 wd_told_10.toNatClampNeg wd_at_10) t33.2.1).trans (congrArg (fun z => s7_begins z (upd wd_begins_10 wd_told_10.toNatClampNeg wd_at_10)) ((cm7_sort_power _ wd_power_10 t33.2.1).trans (congrArg (fun z => s7_power z wd_power_10) ((cm7_sort_excepts _ wd_excepts_10 t33.2.1).trans (congrArg (fun z => s7_excepts z wd_excepts_10) ((cm7_sort_body _ wd_body_10 t33.2.1).trans (congrArg (fun z => s7_body z wd_body_10) ((cm7_sort_head _ wd_head_10 t33.2.1).trans (congrArg (fun z => s7_head z wd_head_10) (ss7_sort _ wd_sort_10 t33.2.1))))))))))))))))).trans ((cm7_head_told _ wd_told_10 t33.2.2.1).trans (congrArg (fun z => s7_told z wd_told_10) ((cm7_head_at _ wd_at_10 t33.2.2.1).trans (congrArg (fun z => s7_at z wd_at_10) ((cm7_head_begins _ (upd wd_begins_10 wd_told_10.toNatClampNeg wd_at_10) t33.2.2.1).trans (congrArg (fun z => s7_begins z (upd wd_begins_10 wd_told_10.toNatClampNeg wd_at_10)) ((cm7_head_power _ wd_power_10 t33.2.2.1).trans (congrArg (fun z => s7_power z wd_power_10) ((cm7_head_excepts _ wd_excepts_10 t33.2.2.1).trans (congrArg (fun z => s7_excepts z wd_excepts_10) ((cm7_head_body _ wd_body_10 t33.2.2.1).trans (congrArg (fun z => s7_body z wd_body_10) (ss7_head _ wd_head_10 t33.2.2.1))))))))))))))).trans ((cm7_body_told _ wd_told_10 t33.2.2.2.1).trans (congrArg (fun z => s7_told z wd_told_10) ((cm7_body_at _ wd_at_10 t33.2.2.2.1).trans (congrArg (fun z => s7_at z wd_at_10) ((cm7_body_begins _ (upd wd_begins_10 wd_told_10.toNatClampNeg wd_at_10) t33.2.2.2.1).trans (congrArg (fun z => s7_begins z (upd wd_begins_10 wd_told_10.toNatClampNeg wd_at_10)) ((cm7_body_power _ wd_power_10 t33.2.2.2.1).trans (congrArg (fun z => s7_power z wd_power_10) ((cm7_body_excepts _ wd_excepts_10 t33.2.2.2.1).trans (congrArg (fun z => s7_excepts z wd_excepts_10) (ss7_body _ wd_body_10 t33.2.2.2.1))))))))))))).trans ((cm7_excepts_told _ wd_told_10 t33.2.2.2.2.1).trans (congrArg (fun z => s7_told z wd_told_10) ((cm7_excepts_at _ wd_at_10 t33.2.2.2.2.1).trans (congrArg (fun z => s7_at z wd_at_10) ((cm7_excepts_begins _ (upd wd_begins_10 wd_told_10.toNatClampNeg wd_at_10) t33.2.2.2.2.1).trans (congrArg (fun z => s7_begins z (upd wd_begins_10 wd_told_10.toNatClampNeg wd_at_10)) ((cm7_excepts_power _ wd_power_10 t33.2.2.2.2.1).trans (congrArg (fun z => s7_power z wd_power_10) (ss7_excepts _ wd_excepts_10 t33.2.2.2.2.1))))))))))).trans ((cm7_power_told _ wd_told_10 t33.2.2.2.2.2.1).trans (congrArg (fun z => s7_told z wd_told_10) ((cm7_power_at _ wd_at_10 t33.2.2.2.2.2.1).trans (congrArg (fun z => s7_at z wd_at_10) ((cm7_power_begins _ (upd wd_begins_10 wd_told_10.toNatClampNeg wd_at_10) t33.2.2.2.2.2.1).trans (congrArg (fun z => s7_begins z (upd wd_begins_10 wd_told_10.toNatClampNeg wd_at_10)) (ss7_power _ wd_power_10 t33.2.2.2.2.2.1))))))))).trans ((cm7_at_told _ wd_told_10 t33.2.2.2.2.2.2).trans (congrArg (fun z => s7_told z wd_told_10) (ss7_at _ wd_at_10 t33.2.2.2.2.2.2))))).trans (ss7_told _ wd_told_10 (wd_told_10 + 1)))] at hP hD
            exact hret _ _ _ _ _ _ (by subst hE; rfl) zn1 hP hS dX7_split_63
        · have hE := hE.trans (if_pos c36)
          refine lv_iconst (v := 0) hx hb dX7_split_39 (by decide) ?_
          rw [show (s7_at (s7_power (s7_excepts (s7_body (s7_head (s7_sort (s7_begins (s7_told (s7_at (s7_begins (s7_power (s7_excepts (s7_body (s7_head (s7_sort bwd wd_sort_10) wd_head_10) wd_body_10) wd_excepts_10) wd_power_10) wd_begins_10) wd_at_10) wd_told_10) (upd wd_begins_10 wd_told_10.toNatClampNeg wd_at_10)) t33.2.1) t33.2.2.1) t33.2.2.2.1) t33.2.2.2.2.1) t33.2.2.2.2.2.1) t33.2.2.2.2.2.2) = (s7_told (s7_at (s7_begins (s7_power (s7_excepts (s7_body (s7_head (s7_sort bwd t33.2.1) t33.2.2.1) t33.2.2.2.1) t33.2.2.2.2.1) t33.2.2.2.2.2.1) (upd wd_begins_10 wd_told_10.toNatClampNeg wd_at_10)) t33.2.2.2.2.2.2) wd_told_10) from ((congrArg (fun z => s7_at z t33.2.2.2.2.2.2) ((congrArg (fun z => s7_power z t33.2.2.2.2.2.1) ((congrArg (fun z => s7_excepts z t33.2.2.2.2.1) ((congrArg (fun z => s7_body z t33.2.2.2.1) ((congrArg (fun z => s7_head z t33.2.2.1) ((congrArg (fun z => s7_sort z t33.2.1) ((cm7_begins_told _ wd_told_10 (upd wd_begins_10 wd_told_10.toNatClampNeg wd_at_10)).trans (congrArg (fun z => s7_told z wd_told_10) ((cm7_begins_at _ wd_at_10 (upd wd_begins_10 wd_told_10.toNatClampNeg wd_at_10)).trans (congrArg (fun z => s7_at z wd_at_10) (ss7_begins _ wd_begins_10 (upd wd_begins_10 wd_told_10.toNatClampNeg wd_at_10))))))).trans ((cm7_sort_told _ wd_told_10 t33.2.1).trans (congrArg (fun z => s7_told z wd_told_10) ((cm7_sort_at _ wd_at_10 t33.2.1).trans (congrArg (fun z => s7_at z wd_at_10) ((cm7_sort_begins _ (upd wd_begins_10 wd_told_10.toNatClampNeg wd_at_10) t33.2.1).trans (congrArg (fun z => s7_begins z (upd wd_begins_10 wd_told_10.toNatClampNeg wd_at_10)) ((cm7_sort_power _ wd_power_10 t33.2.1).trans (congrArg (fun z => s7_power z wd_power_10) ((cm7_sort_excepts _ wd_excepts_10 t33.2.1).trans (congrArg (fun z => s7_excepts z wd_excepts_10) ((cm7_sort_body _ wd_body_10 t33.2.1).trans (congrArg (fun z => s7_body z wd_body_10) ((cm7_sort_head _ wd_head_10 t33.2.1).trans (congrArg (fun z => s7_head z wd_head_10) (ss7_sort _ wd_sort_10 t33.2.1))))))))))))))))).trans ((cm7_head_told _ wd_told_10 t33.2.2.1).trans (congrArg (fun z => s7_told z wd_told_10) ((cm7_head_at _ wd_at_10 t33.2.2.1).trans (congrArg (fun z => s7_at z wd_at_10) ((cm7_head_begins _ (upd wd_begins_10 wd_told_10.toNatClampNeg wd_at_10) t33.2.2.1).trans (congrArg (fun z => s7_begins z (upd wd_begins_10 wd_told_10.toNatClampNeg wd_at_10)) ((cm7_head_power _ wd_power_10 t33.2.2.1).trans (congrArg (fun z => s7_power z wd_power_10) ((cm7_head_excepts _ wd_excepts_10 t33.2.2.1).trans (congrArg (fun z => s7_excepts z wd_excepts_10) ((cm7_head_body _ wd_body_10 t33.2.2.1).trans (congrArg (fun z => s7_body z wd_body_10) (ss7_head _ wd_head_10 t33.2.2.1))))))))))))))).trans ((cm7_body_told _ wd_told_10 t33.2.2.2.1).trans (congrArg (fun z => s7_told z wd_told_10) ((cm7_body_at _ wd_at_10 t33.2.2.2.1).trans (congrArg (fun z => s7_at z wd_at_10) ((cm7_body_begins _ (upd wd_begins_10 wd_told_10.toNatClampNeg wd_at_10) t33.2.2.2.1).trans (congrArg (fun z => s7_begins z (upd wd_begins_10 wd_told_10.toNatClampNeg wd_at_10)) ((cm7_body_power _ wd_power_10 t33.2.2.2.1).trans (congrArg (fun z => s7_power z wd_power_10) ((cm7_body_excepts _ wd_excepts_10 t33.2.2.2.1).trans (congrArg (fun z => s7_excepts z wd_excepts_10) (ss7_body _ wd_body_10 t33.2.2.2.1))))))))))))).trans ((cm7_excepts_told _ wd_told_10 t33.2.2.2.2.1).trans (congrArg (fun z => s7_told z wd_told_10) ((cm7_excepts_at _ wd_at_10 t33.2.2.2.2.1).trans (congrArg (fun z => s7_at z wd_at_10) ((cm7_excepts_begins _ (upd wd_begins_10 wd_told_10.toNatClampNeg wd_at_10) t33.2.2.2.2.1).trans (congrArg (fun z => s7_begins z (upd wd_begins_10 wd_told_10.toNatClampNeg wd_at_10)) ((cm7_excepts_power _ wd_power_10 t33.2.2.2.2.1).trans (congrArg (fun z => s7_power z wd_power_10) (ss7_excepts _ wd_excepts_10 t33.2.2.2.2.1))))))))))).trans ((cm7_power_told _ wd_told_10 t33.2.2.2.2.2.1).trans (congrArg (fun z => s7_told z wd_told_10) ((cm7_power_at _ wd_at_10 t33.2.2.2.2.2.1).trans (congrArg (fun z => s7_at z wd_at_10) ((cm7_power_begins _ (upd wd_begins_10 wd_told_10.toNatClampNeg wd_at_10) t33.2.2.2.2.2.1).trans (congrArg (fun z => s7_begins z (upd wd_begins_10 wd_told_10.toNatClampNeg wd_at_10)) (ss7_power _ wd_power_10 t33.2.2.2.2.2.1))))))))).trans ((cm7_at_told _ wd_told_10 t33.2.2.2.2.2.2).trans (congrArg (fun z => s7_told z wd_told_10) (ss7_at _ wd_at_10 t33.2.2.2.2.2.2))))] at hP hD
          exact hret _ _ _ _ _ _ (by subst hE; rfl) zn0 hP hS dX7_split_40
  refine zp7_told (bs1 := [w7 G awd (s7_told (s7_at bwd 0) 0)]) S in_X7_split_7 hK hP hD hS 0 rfl (List.mem_of_getElem? (i := 2) rfl) dX7_split_7 rfl (fun H locs hP hD hS => ?_)
  have hz_wd_told_7 : ∃ N : Nat, N ≤ 60 ∧ 0 = nI N := ⟨0, by omega, rfl⟩
  rw [show (s7_told (s7_at bwd 0) 0) = (s7_told (s7_at (s7_begins (s7_power (s7_excepts (s7_body (s7_head (s7_sort bwd (g7_sort bwd)) (g7_head bwd)) (g7_body bwd)) (g7_excepts bwd)) (g7_power bwd)) (g7_begins bwd)) 0) 0) from ((((((congrArg (fun z => s7_told z 0) (congrArg (fun z => s7_at z 0) ((se7_sort _).symm))).trans (congrArg (fun z => s7_told z 0) (congrArg (fun z => s7_at z 0) (((se7_head _).symm).trans (congrArg (fun v => s7_head (s7_sort bwd (g7_sort bwd)) v) (gs7_head_sort _ (g7_sort bwd))))))).trans (congrArg (fun z => s7_told z 0) (congrArg (fun z => s7_at z 0) (((se7_body _).symm).trans (congrArg (fun v => s7_body (s7_head (s7_sort bwd (g7_sort bwd)) (g7_head bwd)) v) ((gs7_body_head _ (g7_head bwd)).trans (gs7_body_sort _ (g7_sort bwd)))))))).trans (congrArg (fun z => s7_told z 0) (congrArg (fun z => s7_at z 0) (((se7_excepts _).symm).trans (congrArg (fun v => s7_excepts (s7_body (s7_head (s7_sort bwd (g7_sort bwd)) (g7_head bwd)) (g7_body bwd)) v) ((gs7_excepts_body _ (g7_body bwd)).trans ((gs7_excepts_head _ (g7_head bwd)).trans (gs7_excepts_sort _ (g7_sort bwd))))))))).trans (congrArg (fun z => s7_told z 0) (congrArg (fun z => s7_at z 0) (((se7_power _).symm).trans (congrArg (fun v => s7_power (s7_excepts (s7_body (s7_head (s7_sort bwd (g7_sort bwd)) (g7_head bwd)) (g7_body bwd)) (g7_excepts bwd)) v) ((gs7_power_excepts _ (g7_excepts bwd)).trans ((gs7_power_body _ (g7_body bwd)).trans ((gs7_power_head _ (g7_head bwd)).trans (gs7_power_sort _ (g7_sort bwd)))))))))).trans (congrArg (fun z => s7_told z 0) (congrArg (fun z => s7_at z 0) (((se7_begins _).symm).trans (congrArg (fun v => s7_begins (s7_power (s7_excepts (s7_body (s7_head (s7_sort bwd (g7_sort bwd)) (g7_head bwd)) (g7_body bwd)) (g7_excepts bwd)) (g7_power bwd)) v) ((gs7_begins_power _ (g7_power bwd)).trans ((gs7_begins_excepts _ (g7_excepts bwd)).trans ((gs7_begins_body _ (g7_body bwd)).trans ((gs7_begins_head _ (g7_head bwd)).trans (gs7_begins_sort _ (g7_sort bwd)))))))))))] at hP hD
  exact hB10 61 (g7_sort bwd) (g7_head bwd) (g7_body bwd) (g7_excepts bwd) (g7_power bwd) (g7_begins bwd) 0 0 _ _ _ (by exact hw_wd_at_2) (by exact hw_wd_at_2) (by exact hz_wd_told_7) (by exact ⟨0, by omega, rfl, by omega⟩) hE hP hD hS (lv_sub hl [0] rfl)

theorem zsplit10 {wd_tape : Nat → Int32} {wd_sort : Nat → Int32} {wd_head : Nat → Int32} {wd_body : Nat → Int32} {wd_excepts : Nat → Int32} {wd_power : Nat → Int32} {wd_begins : Nat → Int32} {wd_length : Int32} {wd_at : Int32} {wd_told : Int32} : ∀ (n : Nat) (wd_sort_10 : Nat → Int32) (wd_head_10 : Nat → Int32) (wd_body_10 : Nat → Int32) (wd_excepts_10 : Nat → Int32) (wd_power_10 : Nat → Int32) (wd_begins_10 : Nat → Int32) (wd_at_10 : Int32) (wd_told_10 : Int32), (∃ N : Nat, N ≤ 60 ∧ wd_told_10 = nI N) → ∃ N : Nat, N ≤ 60 ∧ (FX7_split_10 wd_tape wd_sort wd_head wd_body wd_excepts wd_power wd_begins wd_length wd_at wd_told (FX7_split_75 wd_tape wd_sort wd_head wd_body wd_excepts wd_power wd_begins wd_length wd_at wd_told) n wd_sort_10 wd_head_10 wd_body_10 wd_excepts_10 wd_power_10 wd_begins_10 wd_at_10 wd_told_10).2.2.2.2.2.2.2.2 = nI N
  | 0, wd_sort_10, wd_head_10, wd_body_10, wd_excepts_10, wd_power_10, wd_begins_10, wd_at_10, wd_told_10, h => h
  | n + 1, wd_sort_10, wd_head_10, wd_body_10, wd_excepts_10, wd_power_10, wd_begins_10, wd_at_10, wd_told_10, h => by
    rw [FX7_split_10]
    simp only [bnd]
    split
    · exact h
    · have h2 := znext h rfl (by decide) (by assumption)
      repeat' split
      all_goals first | exact h | exact h2 | exact zsplit10 n _ _ _ _ _ _ _ _ h2
theorem zsplit_told {wd_tape : Nat → Int32} {wd_sort : Nat → Int32} {wd_head : Nat → Int32} {wd_body : Nat → Int32} {wd_excepts : Nat → Int32} {wd_power : Nat → Int32} {wd_begins : Nat → Int32} {wd_length : Int32} {wd_at : Int32} {wd_told : Int32} : ∃ N : Nat, N ≤ 60 ∧ (FX7_split wd_tape wd_sort wd_head wd_body wd_excepts wd_power wd_begins wd_length wd_at wd_told).2.2.2.2.2.2.2.2 = nI N := zsplit10 _ _ _ _ _ _ _ _ _ ⟨0, by omega, rfl⟩

theorem in_X7_tellFact_0 : ∀ w ∈ u_ws RX0 TX0 9, w ∈ wsX7_tellFact := by decide +kernel
def rmX7_tellFact : Room := { frames := 1, cells := 0, slots := 0, locals := 21 }
set_option maxHeartbeats 4000000 in
set_option maxRecDepth 100000 in
theorem c_X7_tellFact (l : Launch) (G : zG) (awd : Nat → Nat) (ac : Nat → Nat) (bwd : S7) (bc : S0) (x1 : Int32) (T : Int32 × (Int32)) (hT : FX7_tellFact (g0_facts bc) x1 = T) : zI l yX7_tellFact wsX7_tellFact rmX7_tellFact .boolean G [.ref (awd 0), .int x1, .ref (ac 0)] [w7 G awd bwd, w0 G ac bc] T.1 [w7 G awd bwd, w0 G ac (s0_facts bc T.2)] := by
  refine zI.mk (cc := cX7_tellFact) (maxL := 3) (by decide +kernel) rfl (Nat.le_of_ble_eq_true rfl) (zfl_cons rfl (zfl_cons (wf0 _ _ _ _) rfl)) ?_
  intro p e s m args below meth c Q A ls S hK hD hA hP hl hret
  have hx := S.1
  have hb := S.2.1
  have hS : va_S A s.heap s.heap [] := va_S.rf
  have hl : lv_has ls 3 [(0, .ref (awd 0)), (1, .int x1), (2, .ref (ac 0))] := hl
  have hE := hT.symm.trans (FX7_tellFact.eq_1 _ _)
  refine lv_aload_n hx hb dX7_tellFact_0 rfl (lv_at hl 2 rfl) ?_
  refine zg0_facts S in_X7_tellFact_0 hK hP 1 rfl (List.mem_of_getElem? (i := 1) rfl) (v := (g0_facts bc)) rfl dX7_tellFact_1 ?_
  refine lv_iload_n hx hb dX7_tellFact_4 rfl (lv_at hl 1 rfl) ?_
  obtain ⟨t5, ht5⟩ : ∃ z, FX8_has (g0_facts bc) x1 = z := ⟨_, rfl⟩
  have hE := hE.trans (bnd_eq ht5)
  have hc := c_X8_has l G (g0_facts bc) x1 _ ht5
  refine zgoR (va_runSN (As := [.int (g0_facts bc), .int x1]) (rest := []) S (hc _) ⟨va_cnB (host := "RuleCourt") 2 S.2.2.2.2 gX7_tellFact_X8_has_n105 rfl rfl rfl (hK.2 _ (List.mem_of_getElem? (i := 10) rfl)) (S.2.2.2.2 _ (List.mem_of_getElem? (i := 3) rfl)) (by decide +kernel) ⟨Nat.le_of_ble_eq_true rfl, Nat.le_of_ble_eq_true rfl⟩, S.2.2.2.2 _ (List.mem_of_getElem? (i := 2) rfl), trivial⟩ (zpS hK hP hD (is := []) rfl rfl) rfl rfl hl.1 rfl (lv_room (Nat.le_of_ble_eq_true rfl)) dX7_tellFact_5 ⟨Nat.zero_le _, Nat.zero_le _⟩) (fun hn5 => ?_)
  refine lv_if_eq (tgt := 13) hx hb dX7_tellFact_8 (by decide) (fun c8 => ?_) (fun c8 => ?_)
  · have hE := hE.trans (if_pos c8)
    refine lv_aload_n hx hb dX7_tellFact_13 rfl (lv_at hl 2 rfl) ?_
    refine lv_dup hx hb dX7_tellFact_14 rfl ?_
    refine zg0_facts S in_X7_tellFact_0 hK hP 1 rfl (List.mem_of_getElem? (i := 1) rfl) (v := (g0_facts bc)) rfl dX7_tellFact_15 ?_
    refine lv_iconst (v := 1) hx hb dX7_tellFact_18 (by decide) ?_
    refine lv_iload_n hx hb dX7_tellFact_19 rfl (lv_at hl 1 rfl) ?_
    refine lv_ishl hx hb dX7_tellFact_20 ?_
    refine lv_ior hx hb dX7_tellFact_21 ?_
    refine zp0_facts (bs1 := [w7 G awd bwd, w0 G ac (s0_facts bc ((g0_facts bc) ||| (1 <<< (x1 &&& 31))))]) S in_X7_tellFact_0 hK hP hD hS 1 rfl (List.mem_of_getElem? (i := 1) rfl) dX7_tellFact_22 rfl (fun H locs hP hD hS => ?_)
    refine lv_iconst (v := 1) hx hb dX7_tellFact_25 (by decide) ?_
    exact hret _ _ _ _ _ _ (by subst hE; rfl) zn1 hP hS dX7_tellFact_26
  · have hE := hE.trans (if_neg c8)
    refine lv_iconst (v := 0) hx hb dX7_tellFact_11 (by decide) ?_
    rw [show bc = (s0_facts bc (g0_facts bc)) from ((se0_facts _).symm)] at hP hD
    exact hret _ _ _ _ _ _ (by subst hE; rfl) zn0 hP hS dX7_tellFact_12

theorem in_X7_tellPair_0 : ∀ w ∈ u_ws RX0 TX0 9, w ∈ wsX7_tellPair := by decide +kernel
def rmX7_tellPair : Room := { frames := 2, cells := 0, slots := 0, locals := 43 }
set_option maxHeartbeats 4000000 in
set_option maxRecDepth 100000 in
theorem c_X7_tellPair (l : Launch) (G : zG) (awd : Nat → Nat) (ac : Nat → Nat) (bwd : S7) (bc : S0) (x1 : Int32) (x2 : Int32) (hz_c_size : ∃ N : Nat, N ≤ 16 ∧ g0_size bc = nI N) (T : Int32 × (Nat → Int32)) (hT : FX7_tellPair (g0_beats bc) (g0_size bc) x1 x2 = T) : zI l yX7_tellPair wsX7_tellPair rmX7_tellPair .boolean G [.ref (awd 0), .int x1, .int x2, .ref (ac 0)] [w7 G awd bwd, w0 G ac bc] T.1 [w7 G awd bwd, w0 G ac (s0_beats bc T.2)] := by
  refine zI.mk (cc := cX7_tellPair) (maxL := 4) (by decide +kernel) rfl (Nat.le_of_ble_eq_true rfl) (zfl_cons rfl (zfl_cons (wf0 _ _ _ _) rfl)) ?_
  intro p e s m args below meth c Q A ls S hK hD hA hP hl hret
  have hx := S.1
  have hb := S.2.1
  have hS : va_S A s.heap s.heap [] := va_S.rf
  have hl : lv_has ls 4 [(0, .ref (awd 0)), (1, .int x1), (2, .int x2), (3, .ref (ac 0))] := hl
  have hE := hT.symm.trans (FX7_tellPair.eq_1 _ _ _ _)
  refine lv_aload_n hx hb dX7_tellPair_0 rfl (lv_at hl 3 rfl) ?_
  refine lv_iload_n hx hb dX7_tellPair_1 rfl (lv_at hl 1 rfl) ?_
  obtain ⟨t2, ht2⟩ : ∃ z, FX0_hasRule (g0_size bc) x1 = z := ⟨_, rfl⟩
  have hE := hE.trans (bnd_eq ht2)
  have hc := c_X0_hasRule l G ac bc x1 _ ht2
  refine zgoR (va_runV (As := [.int x1]) (rest := []) S (hc _) (cwV 1 S.2.2.2.2 gX7_tellPair_X0_hasRule rfl rfl rfl (by decide +kernel) ⟨Nat.le_of_ble_eq_true rfl, Nat.le_of_ble_eq_true rfl⟩) (zpV hK hP hD (is := [1]) rfl rfl 1 rfl rfl (ci := 0) rfl) rfl rfl hl.1 rfl (lv_room (Nat.le_of_ble_eq_true rfl)) dX7_tellPair_2 ⟨Nat.zero_le _, Nat.zero_le _⟩) (fun hn2 => ?_)
  refine lv_if_eq (tgt := 30) hx hb dX7_tellPair_5 (by decide) (fun c5 => ?_) (fun c5 => ?_)
  · have hE := hE.trans (if_pos c5)
    refine lv_iconst (v := 0) hx hb dX7_tellPair_30 (by decide) ?_
    rw [show bc = (s0_beats bc (g0_beats bc)) from ((se0_beats _).symm)] at hP hD
    exact hret _ _ _ _ _ _ (by subst hE; rfl) zn0 hP hS dX7_tellPair_31
  · have hE := hE.trans (if_neg c5)
    have hx1_16 : vp_in x1 16 := zhasRule hz_c_size (by rw [ht2]; exact c5)
    refine lv_aload_n hx hb dX7_tellPair_8 rfl (lv_at hl 3 rfl) ?_
    refine lv_iload_n hx hb dX7_tellPair_9 rfl (lv_at hl 2 rfl) ?_
    obtain ⟨t10, ht10⟩ : ∃ z, FX0_hasRule (g0_size bc) x2 = z := ⟨_, rfl⟩
    have hE := hE.trans (bnd_eq ht10)
    have hc := c_X0_hasRule l G ac bc x2 _ ht10
    refine zgoR (va_runV (As := [.int x2]) (rest := []) S (hc _) (cwV 1 S.2.2.2.2 gX7_tellPair_X0_hasRule rfl rfl rfl (by decide +kernel) ⟨Nat.le_of_ble_eq_true rfl, Nat.le_of_ble_eq_true rfl⟩) (zpV hK hP hD (is := [1]) rfl rfl 1 rfl rfl (ci := 0) rfl) rfl rfl hl.1 rfl (lv_room (Nat.le_of_ble_eq_true rfl)) dX7_tellPair_10 ⟨Nat.zero_le _, Nat.zero_le _⟩) (fun hn10 => ?_)
    refine lv_if_eq (tgt := 30) hx hb dX7_tellPair_13 (by decide) (fun c13 => ?_) (fun c13 => ?_)
    · have hE := hE.trans (if_pos c13)
      refine lv_iconst (v := 0) hx hb dX7_tellPair_30 (by decide) ?_
      rw [show bc = (s0_beats bc (g0_beats bc)) from ((se0_beats _).symm)] at hP hD
      exact hret _ _ _ _ _ _ (by subst hE; rfl) zn0 hP hS dX7_tellPair_31
    · have hE := hE.trans (if_neg c13)
      have hx2_16 : vp_in x2 16 := zhasRule hz_c_size (by rw [ht10]; exact c13)
      refine lv_iload_n hx hb dX7_tellPair_16 rfl (lv_at hl 1 rfl) ?_
      refine lv_iload_n hx hb dX7_tellPair_17 rfl (lv_at hl 2 rfl) ?_
      refine lv_icmp_eq (tgt := 30) hx hb dX7_tellPair_18 (by decide) (fun c18 => ?_) (fun c18 => ?_)
      · have hE := hE.trans (if_pos c18)
        refine lv_iconst (v := 0) hx hb dX7_tellPair_30 (by decide) ?_
        rw [show bc = (s0_beats bc (g0_beats bc)) from ((se0_beats _).symm)] at hP hD
        exact hret _ _ _ _ _ _ (by subst hE; rfl) zn0 hP hS dX7_tellPair_31
      · have hE := hE.trans (if_neg c18)
        refine lv_aload_n hx hb dX7_tellPair_21 rfl (lv_at hl 3 rfl) ?_
        refine lv_iload_n hx hb dX7_tellPair_22 rfl (lv_at hl 1 rfl) ?_
        refine lv_iload_n hx hb dX7_tellPair_23 rfl (lv_at hl 2 rfl) ?_
        obtain ⟨t24, ht24⟩ : ∃ z, FX0_isTold (g0_beats bc) x1 x2 = z := ⟨_, rfl⟩
        have hE := hE.trans (bnd_eq ht24)
        have hc := c_X0_isTold l G ac bc x1 x2 (hx1_16) (hx2_16) _ ht24
        refine zgoR (va_runV (As := [.int x1, .int x2]) (rest := []) S (hc _) (cwV 2 S.2.2.2.2 gX7_tellPair_X0_isTold rfl rfl rfl (by decide +kernel) ⟨Nat.le_of_ble_eq_true rfl, Nat.le_of_ble_eq_true rfl⟩) (zpV hK hP hD (is := [1]) rfl rfl 1 rfl rfl (ci := 0) rfl) rfl rfl hl.1 rfl (lv_room (Nat.le_of_ble_eq_true rfl)) dX7_tellPair_24 ⟨Nat.zero_le _, Nat.zero_le _⟩) (fun hn24 => ?_)
        refine lv_if_eq (tgt := 32) hx hb dX7_tellPair_27 (by decide) (fun c27 => ?_) (fun c27 => ?_)
        · have hE := hE.trans (if_pos c27)
          refine lv_aload_n hx hb dX7_tellPair_32 rfl (lv_at hl 3 rfl) ?_
          refine zg0_beats S in_X7_tellPair_0 hK hP 1 rfl (List.mem_of_getElem? (i := 1) rfl) dX7_tellPair_33 ?_
          refine lv_iload_n hx hb dX7_tellPair_36 rfl (lv_at hl 1 rfl) ?_
          refine lv_dup2_11 hx hb dX7_tellPair_37 rfl rfl ?_
          refine zl0_beats S hK hP 1 rfl hx1_16 (f := (g0_beats bc)) rfl dX7_tellPair_38 ?_
          refine lv_iconst (v := 1) hx hb dX7_tellPair_39 (by decide) ?_
          refine lv_iload_n hx hb dX7_tellPair_40 rfl (lv_at hl 2 rfl) ?_
          refine lv_ishl hx hb dX7_tellPair_41 ?_
          refine lv_ior hx hb dX7_tellPair_42 ?_
          refine zs0_beats (bs1 := [w7 G awd bwd, w0 G ac (s0_beats bc (upd (g0_beats bc) x1.toNatClampNeg (((g0_beats bc) x1.toNatClampNeg) ||| (1 <<< (x2 &&& 31)))))]) S hK hP hD hS 1 rfl hx1_16 (f := (g0_beats bc)) rfl dX7_tellPair_43 rfl (fun H locs hP hD hS => ?_)
          refine lv_iconst (v := 1) hx hb dX7_tellPair_44 (by decide) ?_
          exact hret _ _ _ _ _ _ (by subst hE; rfl) zn1 hP hS dX7_tellPair_45
        · have hE := hE.trans (if_neg c27)
          refine lv_iconst (v := 0) hx hb dX7_tellPair_30 (by decide) ?_
          rw [show bc = (s0_beats bc (g0_beats bc)) from ((se0_beats _).symm)] at hP hD
          exact hret _ _ _ _ _ _ (by subst hE; rfl) zn0 hP hS dX7_tellPair_31

theorem in_X7_tellRule_7 : ∀ w ∈ u_ws RX7 TX7 10, w ∈ wsX7_tellRule := by decide +kernel
def rmX7_tellRule : Room := { frames := 1, cells := 0, slots := 0, locals := 25 }
set_option maxHeartbeats 4000000 in
set_option maxRecDepth 100000 in
theorem c_X7_tellRule (l : Launch) (G : zG) (awd : Nat → Nat) (ac : Nat → Nat) (bwd : S7) (bc : S0) (x1 : Int32) (hz_c_size : ∃ N : Nat, N ≤ 16 ∧ g0_size bc = nI N) (hx1_60 : vp_in x1 60) (T : Int32 × (Nat → Int32) × (Nat → Int32) × (Nat → Int32) × (Nat → Int32) × (Nat → Int32) × (Nat → Int32) × (Int32)) (hT : FX7_tellRule (g7_sort bwd) (g7_head bwd) (g7_body bwd) (g7_excepts bwd) (g7_power bwd) (g0_kind bc) (g0_head bc) (g0_body bc) (g0_excepts bc) (g0_power bc) (g0_beats bc) (g0_size bc) x1 = T) : zI l yX7_tellRule wsX7_tellRule rmX7_tellRule .boolean G [.ref (awd 0), .int x1, .ref (ac 0)] [w7 G awd bwd, w0 G ac bc] T.1 [w7 G awd bwd, w0 G ac (s0_size (s0_beats (s0_power (s0_excepts (s0_body (s0_head (s0_kind bc T.2.1) T.2.2.1) T.2.2.2.1) T.2.2.2.2.1) T.2.2.2.2.2.1) T.2.2.2.2.2.2.1) T.2.2.2.2.2.2.2)] := by
  refine zI.mk (cc := cX7_tellRule) (maxL := 3) (by decide +kernel) rfl (Nat.le_of_ble_eq_true rfl) (zfl_cons rfl (zfl_cons (wf0 _ _ _ _) rfl)) ?_
  intro p e s m args below meth c Q A ls S hK hD hA hP hl hret
  have hx := S.1
  have hb := S.2.1
  have hS : va_S A s.heap s.heap [] := va_S.rf
  have hl : lv_has ls 3 [(0, .ref (awd 0)), (1, .int x1), (2, .ref (ac 0))] := hl
  have hE := hT.symm.trans (FX7_tellRule.eq_1 _ _ _ _ _ _ _ _ _ _ _ _ _)
  refine lv_aload_n hx hb dX7_tellRule_0 rfl (lv_at hl 0 rfl) ?_
  refine zg7_sort S in_X7_tellRule_7 hK hP 0 rfl (List.mem_of_getElem? (i := 1) rfl) dX7_tellRule_1 ?_
  refine lv_iload_n hx hb dX7_tellRule_4 rfl (lv_at hl 1 rfl) ?_
  refine zl7_sort S hK hP 0 rfl hx1_60 (f := (g7_sort bwd)) rfl dX7_tellRule_5 ?_
  have hB20 : ∀ (H : Heap) (locs : List Loc) (ls : Array Slot), T = FX7_tellRule_20 (g7_sort bwd) (g7_head bwd) (g7_body bwd) (g7_excepts bwd) (g7_power bwd) (g0_kind bc) (g0_head bc) (g0_body bc) (g0_excepts bc) (g0_power bc) (g0_beats bc) (g0_size bc) x1 (g0_kind bc) (g0_head bc) (g0_body bc) (g0_excepts bc) (g0_power bc) (g0_beats bc) (g0_size bc) → zP G [w7 G awd bwd, w0 G ac bc] H → zD A [w7 G awd bwd, w0 G ac bc] → va_S A s.heap H locs → lv_has ls 3 [(0, .ref (awd 0)), (1, .int x1), (2, .ref (ac 0))] → W p l e rmX7_tellRule s m args below meth c H locs 0 0 Q (F0 m 20 ls []) := by
    intro H locs ls hE hP hD hS hl
    have hE := hE.trans (FX7_tellRule_20.eq_1 _ _ _ _ _ _ _ _ _ _ _ _ _ _ _ _ _ _ _ _)
    refine lv_aload_n hx hb dX7_tellRule_20 rfl (lv_at hl 2 rfl) ?_
    refine lv_aload_n hx hb dX7_tellRule_21 rfl (lv_at hl 0 rfl) ?_
    refine zg7_sort S in_X7_tellRule_7 hK hP 0 rfl (List.mem_of_getElem? (i := 1) rfl) dX7_tellRule_22 ?_
    refine lv_iload_n hx hb dX7_tellRule_25 rfl (lv_at hl 1 rfl) ?_
    refine zl7_sort S hK hP 0 rfl hx1_60 (f := (g7_sort bwd)) rfl dX7_tellRule_26 ?_
    refine lv_aload_n hx hb dX7_tellRule_27 rfl (lv_at hl 0 rfl) ?_
    refine zg7_head S in_X7_tellRule_7 hK hP 0 rfl (List.mem_of_getElem? (i := 3) rfl) dX7_tellRule_28 ?_
    refine lv_iload_n hx hb dX7_tellRule_31 rfl (lv_at hl 1 rfl) ?_
    refine zl7_head S hK hP 0 rfl hx1_60 (f := (g7_head bwd)) rfl dX7_tellRule_32 ?_
    refine lv_aload_n hx hb dX7_tellRule_33 rfl (lv_at hl 0 rfl) ?_
    refine zg7_body S in_X7_tellRule_7 hK hP 0 rfl (List.mem_of_getElem? (i := 4) rfl) dX7_tellRule_34 ?_
    refine lv_iload_n hx hb dX7_tellRule_37 rfl (lv_at hl 1 rfl) ?_
    refine zl7_body S hK hP 0 rfl hx1_60 (f := (g7_body bwd)) rfl dX7_tellRule_38 ?_
    refine lv_aload_n hx hb dX7_tellRule_39 rfl (lv_at hl 0 rfl) ?_
    refine zg7_excepts S in_X7_tellRule_7 hK hP 0 rfl (List.mem_of_getElem? (i := 2) rfl) dX7_tellRule_40 ?_
    refine lv_iload_n hx hb dX7_tellRule_43 rfl (lv_at hl 1 rfl) ?_
    refine zl7_excepts S hK hP 0 rfl hx1_60 (f := (g7_excepts bwd)) rfl dX7_tellRule_44 ?_
    refine lv_aload_n hx hb dX7_tellRule_45 rfl (lv_at hl 0 rfl) ?_
    refine zg7_power S in_X7_tellRule_7 hK hP 0 rfl (List.mem_of_getElem? (i := 5) rfl) dX7_tellRule_46 ?_
    refine lv_iload_n hx hb dX7_tellRule_49 rfl (lv_at hl 1 rfl) ?_
    refine zl7_power S hK hP 0 rfl hx1_60 (f := (g7_power bwd)) rfl dX7_tellRule_50 ?_
    obtain ⟨t51, ht51⟩ : ∃ z, FX0_add (g0_kind bc) (g0_head bc) (g0_body bc) (g0_excepts bc) (g0_power bc) (g0_beats bc) (g0_size bc) ((g7_sort bwd) x1.toNatClampNeg) ((g7_head bwd) x1.toNatClampNeg) ((g7_body bwd) x1.toNatClampNeg) ((g7_excepts bwd) x1.toNatClampNeg) ((g7_power bwd) x1.toNatClampNeg) = z := ⟨_, rfl⟩
    have hE := hE.trans (bnd_eq ht51)
    have hc := c_X0_add l G ac bc ((g7_sort bwd) x1.toNatClampNeg) ((g7_head bwd) x1.toNatClampNeg) ((g7_body bwd) x1.toNatClampNeg) ((g7_excepts bwd) x1.toNatClampNeg) ((g7_power bwd) x1.toNatClampNeg) (hz_c_size) _ ht51
    refine zgoI (bs' := [w7 G awd bwd, w0 G ac (s0_size (s0_beats (s0_power (s0_excepts (s0_body (s0_head (s0_kind bc t51.2.1) t51.2.2.1) t51.2.2.2.1) t51.2.2.2.2.1) t51.2.2.2.2.2.1) t51.2.2.2.2.2.2.1) t51.2.2.2.2.2.2.2)]) hc [1] rfl rfl rfl hP hD hS hA (va_runV (As := [.int ((g7_sort bwd) x1.toNatClampNeg), .int ((g7_head bwd) x1.toNatClampNeg), .int ((g7_body bwd) x1.toNatClampNeg), .int ((g7_excepts bwd) x1.toNatClampNeg), .int ((g7_power bwd) x1.toNatClampNeg)]) (rest := []) S (hc.2 _) (cwV 5 S.2.2.2.2 gX7_tellRule_X0_add rfl rfl rfl (by decide +kernel) ⟨Nat.le_of_ble_eq_true rfl, Nat.le_of_ble_eq_true rfl⟩) (zpV hK hP hD (is := [1]) rfl rfl 1 rfl rfl (ci := 0) rfl) rfl rfl hl.1 rfl (lv_room (Nat.le_of_ble_eq_true rfl)) dX7_tellRule_51 ⟨Nat.zero_le _, Nat.zero_le _⟩) (fun H locs hn51 hP hD hS => ?_)
    exact hret _ _ _ _ _ _ (by subst hE; rfl) hn51 hP hS dX7_tellRule_54
  refine lv_if_ne (tgt := 20) hx hb dX7_tellRule_6 (by decide) (fun c6 => ?_) (fun c6 => ?_)
  · have hE := hE.trans (if_neg c6)
    exact hB20 _ _ _ hE hP hD hS (lv_sub hl [0, 1, 2] rfl)
  · have hE := hE.trans (if_pos c6)
    refine lv_aload_n hx hb dX7_tellRule_9 rfl (lv_at hl 0 rfl) ?_
    refine zg7_excepts S in_X7_tellRule_7 hK hP 0 rfl (List.mem_of_getElem? (i := 2) rfl) dX7_tellRule_10 ?_
    refine lv_iload_n hx hb dX7_tellRule_13 rfl (lv_at hl 1 rfl) ?_
    refine zl7_excepts S hK hP 0 rfl hx1_60 (f := (g7_excepts bwd)) rfl dX7_tellRule_14 ?_
    refine lv_if_eq (tgt := 20) hx hb dX7_tellRule_15 (by decide) (fun c15 => ?_) (fun c15 => ?_)
    · have hE := hE.trans (if_pos c15)
      exact hB20 _ _ _ hE hP hD hS (lv_sub hl [0, 1, 2] rfl)
    · have hE := hE.trans (if_neg c15)
      refine lv_iconst (v := 0) hx hb dX7_tellRule_18 (by decide) ?_
      rw [show bc = (s0_size (s0_beats (s0_power (s0_excepts (s0_body (s0_head (s0_kind bc (g0_kind bc)) (g0_head bc)) (g0_body bc)) (g0_excepts bc)) (g0_power bc)) (g0_beats bc)) (g0_size bc)) from ((((((((se0_kind _).symm).trans (((se0_head _).symm).trans (congrArg (fun v => s0_head (s0_kind bc (g0_kind bc)) v) (gs0_head_kind _ (g0_kind bc))))).trans (((se0_body _).symm).trans (congrArg (fun v => s0_body (s0_head (s0_kind bc (g0_kind bc)) (g0_head bc)) v) ((gs0_body_head _ (g0_head bc)).trans (gs0_body_kind _ (g0_kind bc)))))).trans (((se0_excepts _).symm).trans (congrArg (fun v => s0_excepts (s0_body (s0_head (s0_kind bc (g0_kind bc)) (g0_head bc)) (g0_body bc)) v) ((gs0_excepts_body _ (g0_body bc)).trans ((gs0_excepts_head _ (g0_head bc)).trans (gs0_excepts_kind _ (g0_kind bc))))))).trans (((se0_power _).symm).trans (congrArg (fun v => s0_power (s0_excepts (s0_body (s0_head (s0_kind bc (g0_kind bc)) (g0_head bc)) (g0_body bc)) (g0_excepts bc)) v) ((gs0_power_excepts _ (g0_excepts bc)).trans ((gs0_power_body _ (g0_body bc)).trans ((gs0_power_head _ (g0_head bc)).trans (gs0_power_kind _ (g0_kind bc)))))))).trans (((se0_beats _).symm).trans (congrArg (fun v => s0_beats (s0_power (s0_excepts (s0_body (s0_head (s0_kind bc (g0_kind bc)) (g0_head bc)) (g0_body bc)) (g0_excepts bc)) (g0_power bc)) v) ((gs0_beats_power _ (g0_power bc)).trans ((gs0_beats_excepts _ (g0_excepts bc)).trans ((gs0_beats_body _ (g0_body bc)).trans ((gs0_beats_head _ (g0_head bc)).trans (gs0_beats_kind _ (g0_kind bc))))))))).trans (((se0_size _).symm).trans (congrArg (fun v => s0_size (s0_beats (s0_power (s0_excepts (s0_body (s0_head (s0_kind bc (g0_kind bc)) (g0_head bc)) (g0_body bc)) (g0_excepts bc)) (g0_power bc)) (g0_beats bc)) v) ((gs0_size_beats _ (g0_beats bc)).trans ((gs0_size_power _ (g0_power bc)).trans ((gs0_size_excepts _ (g0_excepts bc)).trans ((gs0_size_body _ (g0_body bc)).trans ((gs0_size_head _ (g0_head bc)).trans (gs0_size_kind _ (g0_kind bc))))))))))] at hP hD
      exact hret _ _ _ _ _ _ (by subst hE; rfl) zn0 hP hS dX7_tellRule_19

theorem in_X7_tell_7 : ∀ w ∈ u_ws RX7 TX7 10, w ∈ wsX7_tell := by decide +kernel
def rmX7_tell : Room := { frames := 3, cells := 0, slots := 0, locals := 66 }
set_option maxHeartbeats 4000000 in
set_option maxRecDepth 100000 in
theorem c_X7_tell (l : Launch) (G : zG) (awd : Nat → Nat) (ac : Nat → Nat) (bwd : S7) (bc : S0) (x1 : Int32) (hz_c_size : ∃ N : Nat, N ≤ 16 ∧ g0_size bc = nI N) (hx1_60 : vp_in x1 60) (T : Int32 × (Nat → Int32) × (Nat → Int32) × (Nat → Int32) × (Nat → Int32) × (Nat → Int32) × (Nat → Int32) × (Int32) × (Int32)) (hT : FX7_tell (g7_sort bwd) (g7_head bwd) (g7_body bwd) (g7_excepts bwd) (g7_power bwd) (g0_kind bc) (g0_head bc) (g0_body bc) (g0_excepts bc) (g0_power bc) (g0_beats bc) (g0_facts bc) (g0_size bc) x1 = T) : zI l yX7_tell wsX7_tell rmX7_tell .boolean G [.ref (awd 0), .int x1, .ref (ac 0)] [w7 G awd bwd, w0 G ac bc] T.1 [w7 G awd bwd, w0 G ac (s0_size (s0_facts (s0_beats (s0_power (s0_excepts (s0_body (s0_head (s0_kind bc T.2.1) T.2.2.1) T.2.2.2.1) T.2.2.2.2.1) T.2.2.2.2.2.1) T.2.2.2.2.2.2.1) T.2.2.2.2.2.2.2.1) T.2.2.2.2.2.2.2.2)] := by
  refine zI.mk (cc := cX7_tell) (maxL := 3) (by decide +kernel) rfl (Nat.le_of_ble_eq_true rfl) (zfl_cons rfl (zfl_cons (wf0 _ _ _ _) rfl)) ?_
  intro p e s m args below meth c Q A ls S hK hD hA hP hl hret
  have hx := S.1
  have hb := S.2.1
  have hS : va_S A s.heap s.heap [] := va_S.rf
  have hl : lv_has ls 3 [(0, .ref (awd 0)), (1, .int x1), (2, .ref (ac 0))] := hl
  have hE := hT.symm.trans (FX7_tell.eq_1 _ _ _ _ _ _ _ _ _ _ _ _ _ _)
  refine lv_aload_n hx hb dX7_tell_0 rfl (lv_at hl 0 rfl) ?_
  refine zg7_sort S in_X7_tell_7 hK hP 0 rfl (List.mem_of_getElem? (i := 1) rfl) dX7_tell_1 ?_
  refine lv_iload_n hx hb dX7_tell_4 rfl (lv_at hl 1 rfl) ?_
  refine zl7_sort S hK hP 0 rfl hx1_60 (f := (g7_sort bwd)) rfl dX7_tell_5 ?_
  by_cases c6_0 : ((g7_sort bwd) x1.toNatClampNeg) = 3
  · have hE := hE.trans (if_pos c6_0)
    refine lv_lookup (off := 26) (tgt := 32) hx hb dX7_tell_6 (by decide) (by rw [c6_0]; decide) (by decide) ?_
    refine lv_aload_n hx hb dX7_tell_32 rfl (lv_at hl 0 rfl) ?_
    refine lv_aload_n hx hb dX7_tell_33 rfl (lv_at hl 0 rfl) ?_
    refine zg7_head S in_X7_tell_7 hK hP 0 rfl (List.mem_of_getElem? (i := 2) rfl) dX7_tell_34 ?_
    refine lv_iload_n hx hb dX7_tell_37 rfl (lv_at hl 1 rfl) ?_
    refine zl7_head S hK hP 0 rfl hx1_60 (f := (g7_head bwd)) rfl dX7_tell_38 ?_
    refine lv_aload_n hx hb dX7_tell_39 rfl (lv_at hl 2 rfl) ?_
    obtain ⟨t40, ht40⟩ : ∃ z, FX7_tellFact (g0_facts bc) ((g7_head bwd) x1.toNatClampNeg) = z := ⟨_, rfl⟩
    have hE := hE.trans (bnd_eq ht40)
    have hc := c_X7_tellFact l G awd ac bwd bc ((g7_head bwd) x1.toNatClampNeg) _ ht40
    refine zgoI (bs' := [w7 G awd bwd, w0 G ac (s0_facts bc t40.2)]) hc [0, 1] rfl rfl rfl hP hD hS hA (va_runV (As := [.int ((g7_head bwd) x1.toNatClampNeg), .ref (ac 0)]) (rest := []) S (hc.2 _) (cwV 2 S.2.2.2.2 gX7_tell_X7_tellFact rfl rfl rfl (by decide +kernel) ⟨Nat.le_of_ble_eq_true rfl, Nat.le_of_ble_eq_true rfl⟩) (zpV hK hP hD (is := [0, 1]) rfl rfl 0 rfl rfl (ci := 7) rfl) rfl rfl hl.1 rfl (lv_room (Nat.le_of_ble_eq_true rfl)) dX7_tell_40 ⟨Nat.zero_le _, Nat.zero_le _⟩) (fun H locs hn40 hP hD hS => ?_)
    rw [show (s0_facts bc t40.2) = (s0_size (s0_facts (s0_beats (s0_power (s0_excepts (s0_body (s0_head (s0_kind bc (g0_kind bc)) (g0_head bc)) (g0_body bc)) (g0_excepts bc)) (g0_power bc)) (g0_beats bc)) t40.2) (g0_size bc)) from (((((((congrArg (fun z => s0_facts z t40.2) ((se0_kind _).symm)).trans (congrArg (fun z => s0_facts z t40.2) (((se0_head _).symm).trans (congrArg (fun v => s0_head (s0_kind bc (g0_kind bc)) v) (gs0_head_kind _ (g0_kind bc)))))).trans (congrArg (fun z => s0_facts z t40.2) (((se0_body _).symm).trans (congrArg (fun v => s0_body (s0_head (s0_kind bc (g0_kind bc)) (g0_head bc)) v) ((gs0_body_head _ (g0_head bc)).trans (gs0_body_kind _ (g0_kind bc))))))).trans (congrArg (fun z => s0_facts z t40.2) (((se0_excepts _).symm).trans (congrArg (fun v => s0_excepts (s0_body (s0_head (s0_kind bc (g0_kind bc)) (g0_head bc)) (g0_body bc)) v) ((gs0_excepts_body _ (g0_body bc)).trans ((gs0_excepts_head _ (g0_head bc)).trans (gs0_excepts_kind _ (g0_kind bc)))))))).trans (congrArg (fun z => s0_facts z t40.2) (((se0_power _).symm).trans (congrArg (fun v => s0_power (s0_excepts (s0_body (s0_head (s0_kind bc (g0_kind bc)) (g0_head bc)) (g0_body bc)) (g0_excepts bc)) v) ((gs0_power_excepts _ (g0_excepts bc)).trans ((gs0_power_body _ (g0_body bc)).trans ((gs0_power_head _ (g0_head bc)).trans (gs0_power_kind _ (g0_kind bc))))))))).trans (congrArg (fun z => s0_facts z t40.2) (((se0_beats _).symm).trans (congrArg (fun v => s0_beats (s0_power (s0_excepts (s0_body (s0_head (s0_kind bc (g0_kind bc)) (g0_head bc)) (g0_body bc)) (g0_excepts bc)) (g0_power bc)) v) ((gs0_beats_power _ (g0_power bc)).trans ((gs0_beats_excepts _ (g0_excepts bc)).trans ((gs0_beats_body _ (g0_body bc)).trans ((gs0_beats_head _ (g0_head bc)).trans (gs0_beats_kind _ (g0_kind bc)))))))))).trans (((se0_size _).symm).trans (congrArg (fun v => s0_size (s0_facts (s0_beats (s0_power (s0_excepts (s0_body (s0_head (s0_kind bc (g0_kind bc)) (g0_head bc)) (g0_body bc)) (g0_excepts bc)) (g0_power bc)) (g0_beats bc)) t40.2) v) ((gs0_size_facts _ t40.2).trans ((gs0_size_beats _ (g0_beats bc)).trans ((gs0_size_power _ (g0_power bc)).trans ((gs0_size_excepts _ (g0_excepts bc)).trans ((gs0_size_body _ (g0_body bc)).trans ((gs0_size_head _ (g0_head bc)).trans (gs0_size_kind _ (g0_kind bc)))))))))))] at hP hD
    exact hret _ _ _ _ _ _ (by subst hE; rfl) hn40 hP hS dX7_tell_43
  have hE := hE.trans (if_neg c6_0)
  by_cases c6_1 : ((g7_sort bwd) x1.toNatClampNeg) = 4
  · have hE := hE.trans (if_pos c6_1)
    refine lv_lookup (off := 38) (tgt := 44) hx hb dX7_tell_6 (by decide) (by rw [c6_1]; decide) (by decide) ?_
    refine lv_aload_n hx hb dX7_tell_44 rfl (lv_at hl 0 rfl) ?_
    refine lv_aload_n hx hb dX7_tell_45 rfl (lv_at hl 0 rfl) ?_
    refine zg7_head S in_X7_tell_7 hK hP 0 rfl (List.mem_of_getElem? (i := 2) rfl) dX7_tell_46 ?_
    refine lv_iload_n hx hb dX7_tell_49 rfl (lv_at hl 1 rfl) ?_
    refine zl7_head S hK hP 0 rfl hx1_60 (f := (g7_head bwd)) rfl dX7_tell_50 ?_
    refine lv_aload_n hx hb dX7_tell_51 rfl (lv_at hl 0 rfl) ?_
    refine zg7_body S in_X7_tell_7 hK hP 0 rfl (List.mem_of_getElem? (i := 3) rfl) dX7_tell_52 ?_
    refine lv_iload_n hx hb dX7_tell_55 rfl (lv_at hl 1 rfl) ?_
    refine zl7_body S hK hP 0 rfl hx1_60 (f := (g7_body bwd)) rfl dX7_tell_56 ?_
    refine lv_aload_n hx hb dX7_tell_57 rfl (lv_at hl 2 rfl) ?_
    obtain ⟨t58, ht58⟩ : ∃ z, FX7_tellPair (g0_beats bc) (g0_size bc) ((g7_head bwd) x1.toNatClampNeg) ((g7_body bwd) x1.toNatClampNeg) = z := ⟨_, rfl⟩
    have hE := hE.trans (bnd_eq ht58)
    have hc := c_X7_tellPair l G awd ac bwd bc ((g7_head bwd) x1.toNatClampNeg) ((g7_body bwd) x1.toNatClampNeg) (hz_c_size) _ ht58
    refine zgoI (bs' := [w7 G awd bwd, w0 G ac (s0_beats bc t58.2)]) hc [0, 1] rfl rfl rfl hP hD hS hA (va_runV (As := [.int ((g7_head bwd) x1.toNatClampNeg), .int ((g7_body bwd) x1.toNatClampNeg), .ref (ac 0)]) (rest := []) S (hc.2 _) (cwV 3 S.2.2.2.2 gX7_tell_X7_tellPair rfl rfl rfl (by decide +kernel) ⟨Nat.le_of_ble_eq_true rfl, Nat.le_of_ble_eq_true rfl⟩) (zpV hK hP hD (is := [0, 1]) rfl rfl 0 rfl rfl (ci := 7) rfl) rfl rfl hl.1 rfl (lv_room (Nat.le_of_ble_eq_true rfl)) dX7_tell_58 ⟨Nat.zero_le _, Nat.zero_le _⟩) (fun H locs hn58 hP hD hS => ?_)
    rw [show (s0_beats bc t58.2) = (s0_size (s0_facts (s0_beats (s0_power (s0_excepts (s0_body (s0_head (s0_kind bc (g0_kind bc)) (g0_head bc)) (g0_body bc)) (g0_excepts bc)) (g0_power bc)) t58.2) (g0_facts bc)) (g0_size bc)) from (((((((congrArg (fun z => s0_beats z t58.2) ((se0_kind _).symm)).trans (congrArg (fun z => s0_beats z t58.2) (((se0_head _).symm).trans (congrArg (fun v => s0_head (s0_kind bc (g0_kind bc)) v) (gs0_head_kind _ (g0_kind bc)))))).trans (congrArg (fun z => s0_beats z t58.2) (((se0_body _).symm).trans (congrArg (fun v => s0_body (s0_head (s0_kind bc (g0_kind bc)) (g0_head bc)) v) ((gs0_body_head _ (g0_head bc)).trans (gs0_body_kind _ (g0_kind bc))))))).trans (congrArg (fun z => s0_beats z t58.2) (((se0_excepts _).symm).trans (congrArg (fun v => s0_excepts (s0_body (s0_head (s0_kind bc (g0_kind bc)) (g0_head bc)) (g0_body bc)) v) ((gs0_excepts_body _ (g0_body bc)).trans ((gs0_excepts_head _ (g0_head bc)).trans (gs0_excepts_kind _ (g0_kind bc)))))))).trans (congrArg (fun z => s0_beats z t58.2) (((se0_power _).symm).trans (congrArg (fun v => s0_power (s0_excepts (s0_body (s0_head (s0_kind bc (g0_kind bc)) (g0_head bc)) (g0_body bc)) (g0_excepts bc)) v) ((gs0_power_excepts _ (g0_excepts bc)).trans ((gs0_power_body _ (g0_body bc)).trans ((gs0_power_head _ (g0_head bc)).trans (gs0_power_kind _ (g0_kind bc))))))))).trans (((se0_facts _).symm).trans (congrArg (fun v => s0_facts (s0_beats (s0_power (s0_excepts (s0_body (s0_head (s0_kind bc (g0_kind bc)) (g0_head bc)) (g0_body bc)) (g0_excepts bc)) (g0_power bc)) t58.2) v) ((gs0_facts_beats _ t58.2).trans ((gs0_facts_power _ (g0_power bc)).trans ((gs0_facts_excepts _ (g0_excepts bc)).trans ((gs0_facts_body _ (g0_body bc)).trans ((gs0_facts_head _ (g0_head bc)).trans (gs0_facts_kind _ (g0_kind bc)))))))))).trans (((se0_size _).symm).trans (congrArg (fun v => s0_size (s0_facts (s0_beats (s0_power (s0_excepts (s0_body (s0_head (s0_kind bc (g0_kind bc)) (g0_head bc)) (g0_body bc)) (g0_excepts bc)) (g0_power bc)) t58.2) (g0_facts bc)) v) ((gs0_size_facts _ (g0_facts bc)).trans ((gs0_size_beats _ t58.2).trans ((gs0_size_power _ (g0_power bc)).trans ((gs0_size_excepts _ (g0_excepts bc)).trans ((gs0_size_body _ (g0_body bc)).trans ((gs0_size_head _ (g0_head bc)).trans (gs0_size_kind _ (g0_kind bc)))))))))))] at hP hD
    exact hret _ _ _ _ _ _ (by subst hE; rfl) hn58 hP hS dX7_tell_61
  have hE := hE.trans (if_neg c6_1)
  refine lv_lookup (off := 56) (tgt := 62) hx hb dX7_tell_6 (by decide) (by exact zlk6 c6_0 c6_1) (by decide) ?_
  refine lv_aload_n hx hb dX7_tell_62 rfl (lv_at hl 0 rfl) ?_
  refine lv_iload_n hx hb dX7_tell_63 rfl (lv_at hl 1 rfl) ?_
  refine lv_aload_n hx hb dX7_tell_64 rfl (lv_at hl 2 rfl) ?_
  obtain ⟨t65, ht65⟩ : ∃ z, FX7_tellRule (g7_sort bwd) (g7_head bwd) (g7_body bwd) (g7_excepts bwd) (g7_power bwd) (g0_kind bc) (g0_head bc) (g0_body bc) (g0_excepts bc) (g0_power bc) (g0_beats bc) (g0_size bc) x1 = z := ⟨_, rfl⟩
  have hE := hE.trans (bnd_eq ht65)
  have hc := c_X7_tellRule l G awd ac bwd bc x1 (hz_c_size) (hx1_60) _ ht65
  refine zgoI (bs' := [w7 G awd bwd, w0 G ac (s0_size (s0_beats (s0_power (s0_excepts (s0_body (s0_head (s0_kind bc t65.2.1) t65.2.2.1) t65.2.2.2.1) t65.2.2.2.2.1) t65.2.2.2.2.2.1) t65.2.2.2.2.2.2.1) t65.2.2.2.2.2.2.2)]) hc [0, 1] rfl rfl rfl hP hD hS hA (va_runV (As := [.int x1, .ref (ac 0)]) (rest := []) S (hc.2 _) (cwV 2 S.2.2.2.2 gX7_tell_X7_tellRule rfl rfl rfl (by decide +kernel) ⟨Nat.le_of_ble_eq_true rfl, Nat.le_of_ble_eq_true rfl⟩) (zpV hK hP hD (is := [0, 1]) rfl rfl 0 rfl rfl (ci := 7) rfl) rfl rfl hl.1 rfl (lv_room (Nat.le_of_ble_eq_true rfl)) dX7_tell_65 ⟨Nat.zero_le _, Nat.zero_le _⟩) (fun H locs hn65 hP hD hS => ?_)
  rw [show (s0_size (s0_beats (s0_power (s0_excepts (s0_body (s0_head (s0_kind bc t65.2.1) t65.2.2.1) t65.2.2.2.1) t65.2.2.2.2.1) t65.2.2.2.2.2.1) t65.2.2.2.2.2.2.1) t65.2.2.2.2.2.2.2) = (s0_size (s0_facts (s0_beats (s0_power (s0_excepts (s0_body (s0_head (s0_kind bc t65.2.1) t65.2.2.1) t65.2.2.2.1) t65.2.2.2.2.1) t65.2.2.2.2.2.1) t65.2.2.2.2.2.2.1) (g0_facts bc)) t65.2.2.2.2.2.2.2) from (congrArg (fun z => s0_size z t65.2.2.2.2.2.2.2) (((se0_facts _).symm).trans (congrArg (fun v => s0_facts (s0_beats (s0_power (s0_excepts (s0_body (s0_head (s0_kind bc t65.2.1) t65.2.2.1) t65.2.2.2.1) t65.2.2.2.2.1) t65.2.2.2.2.2.1) t65.2.2.2.2.2.2.1) v) ((gs0_facts_beats _ t65.2.2.2.2.2.2.1).trans ((gs0_facts_power _ t65.2.2.2.2.2.1).trans ((gs0_facts_excepts _ t65.2.2.2.2.1).trans ((gs0_facts_body _ t65.2.2.2.1).trans ((gs0_facts_head _ t65.2.2.1).trans (gs0_facts_kind _ t65.2.1)))))))))] at hP hD
  exact hret _ _ _ _ _ _ (by subst hE; rfl) hn65 hP hS dX7_tell_68

theorem ztell_size {wd_sort : Nat → Int32} {wd_head : Nat → Int32} {wd_body : Nat → Int32} {wd_excepts : Nat → Int32} {wd_power : Nat → Int32} {c_kind : Nat → Int32} {c_head : Nat → Int32} {c_body : Nat → Int32} {c_excepts : Nat → Int32} {c_power : Nat → Int32} {c_beats : Nat → Int32} {c_facts : Int32} {c_size : Int32} {x1 : Int32} (h : ∃ N : Nat, N ≤ 16 ∧ c_size = nI N) : ∃ N : Nat, N ≤ 16 ∧ (FX7_tell wd_sort wd_head wd_body wd_excepts wd_power c_kind c_head c_body c_excepts c_power c_beats c_facts c_size x1).2.2.2.2.2.2.2.2 = nI N := by
  simp only [FX7_tell, FX7_tellRule, FX0_add, bnd]
  repeat' split
  all_goals first | exact h | exact znext h rfl (by decide) (by assumption)

