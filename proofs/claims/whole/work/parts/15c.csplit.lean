def rmX7_readStatement : Room := { frames := 4, cells := 0, slots := 0, locals := 88 }
set_option maxHeartbeats 4000000 in
set_option maxRecDepth 100000 in
theorem c_X7_readStatement (l : Launch) (G : zG) (awd : Nat → Nat) (bwd : S7) (hw_wd_at : zTp (g7_length bwd) (g7_at bwd)) (hi_wd_told : vp_in (g7_told bwd) 60) (T : Int32 × (Nat → Int32) × (Nat → Int32) × (Nat → Int32) × (Nat → Int32) × (Nat → Int32) × (Int32)) (hT : FX7_readStatement (g7_tape bwd) (g7_sort bwd) (g7_head bwd) (g7_body bwd) (g7_excepts bwd) (g7_power bwd) (g7_length bwd) (g7_at bwd) (g7_told bwd) = T) : zI l yX7_readStatement wsX7_readStatement rmX7_readStatement .boolean G [.ref (awd 0)] [w7 G awd bwd] T.1 [w7 G awd (s7_at (s7_power (s7_excepts (s7_body (s7_head (s7_sort bwd T.2.1) T.2.2.1) T.2.2.2.1) T.2.2.2.2.1) T.2.2.2.2.2.1) T.2.2.2.2.2.2)] := by
  refine zI.mk (cc := cX7_readStatement) (maxL := 1) (by decide +kernel) rfl (Nat.le_of_ble_eq_true rfl) (zfl_cons (wf7 _ _ _ _) rfl) ?_
  intro p e s m args below meth c Q A ls S hK hD hA hP hl hret
  have hx := S.1
  have hb := S.2.1
  have hS : va_S A s.heap s.heap [] := va_S.rf
  have hl : lv_has ls 1 [(0, .ref (awd 0))] := hl
  have hE := hT.symm.trans (FX7_readStatement.eq_1 _ _ _ _ _ _ _ _ _)
  refine lv_aload_n hx hb dX7_readStatement_0 rfl (lv_at hl 0 rfl) ?_
  refine lv_bipush (v := 33) hx hb dX7_readStatement_1 (by decide) ?_
  obtain ⟨t3, ht3⟩ : ∃ z, FX7_take (g7_tape bwd) (g7_length bwd) (g7_at bwd) 33 = z := ⟨_, rfl⟩
  have hE := hE.trans (bnd_eq ht3)
  have hc := c_X7_take l G awd bwd 33 (hw_wd_at) _ ht3
  refine zgoI (bs' := [w7 G awd (s7_at bwd t3.2)]) hc [0] rfl rfl rfl hP hD hS hA (va_runV (As := [.int 33]) (rest := []) S (hc.2 _) (cwV 1 S.2.2.2.2 gX7_readStatement_X7_take rfl rfl rfl (by decide +kernel) ⟨Nat.le_of_ble_eq_true rfl, Nat.le_of_ble_eq_true rfl⟩) (zpV hK hP hD (is := [0]) rfl rfl 0 rfl rfl (ci := 7) rfl) rfl rfl hl.1 rfl (lv_room (Nat.le_of_ble_eq_true rfl)) dX7_readStatement_3 ⟨Nat.zero_le _, Nat.zero_le _⟩) (fun H locs hn3 hP hD hS => ?_)
  have hw_wd_at_3 : zTp (g7_length bwd) (t3.2) := by rw [← ht3]; exact zTp_take hw_wd_at
  refine lv_if_eq (tgt := 14) hx hb dX7_readStatement_6 (by decide) (fun c6 => ?_) (fun c6 => ?_)
  · have hE := hE.trans (if_pos c6)
    refine lv_aload_n hx hb dX7_readStatement_14 rfl (lv_at hl 0 rfl) ?_
    obtain ⟨t15, ht15⟩ : ∃ z, FX7_next (g7_tape bwd) (g7_length bwd) t3.2 = z := ⟨_, rfl⟩
    have hE := hE.trans (bnd_eq ht15)
    have hc := c_X7_next l G awd (s7_at bwd t3.2) (hw_wd_at_3) _ (by simp only [gs7_tape_at, gs7_length_at, gg7_at]; exact ht15)
    refine zgoR (va_runV (As := []) (rest := []) S (hc _) (cwV 0 S.2.2.2.2 gX7_readStatement_X7_next rfl rfl rfl (by decide +kernel) ⟨Nat.le_of_ble_eq_true rfl, Nat.le_of_ble_eq_true rfl⟩) (zpV hK hP hD (is := [0]) rfl rfl 0 rfl rfl (ci := 7) rfl) rfl rfl hl.1 rfl (lv_room (Nat.le_of_ble_eq_true rfl)) dX7_readStatement_15 ⟨Nat.zero_le _, Nat.zero_le _⟩) (fun hn15 => ?_)
    obtain ⟨t18, ht18⟩ : ∃ z, FX7_isFigure t15 = z := ⟨_, rfl⟩
    have hE := hE.trans (bnd_eq ht18)
    have hc := c_X7_isFigure l G t15 _ ht18
    refine zgoR (va_runS (As := [.int t15]) (rest := []) S (hc _) (va_cwS 1 S.2.2.2.2 gX7_readStatement_X7_isFigure rfl rfl rfl (by decide +kernel) ⟨Nat.le_of_ble_eq_true rfl, Nat.le_of_ble_eq_true rfl⟩) (zpS hK hP hD (is := []) rfl rfl) rfl rfl hl.1 rfl (lv_room (Nat.le_of_ble_eq_true rfl)) dX7_readStatement_18 ⟨Nat.zero_le _, Nat.zero_le _⟩) (fun hn18 => ?_)
    refine lv_if_eq (tgt := 31) hx hb dX7_readStatement_21 (by decide) (fun c21 => ?_) (fun c21 => ?_)
    · have hE := hE.trans (if_pos c21)
      refine lv_aload_n hx hb dX7_readStatement_31 rfl (lv_at hl 0 rfl) ?_
      obtain ⟨t32, ht32⟩ : ∃ z, FX7_readRule (g7_tape bwd) (g7_sort bwd) (g7_head bwd) (g7_body bwd) (g7_excepts bwd) (g7_power bwd) (g7_length bwd) t3.2 (g7_told bwd) = z := ⟨_, rfl⟩
      have hE := hE.trans (bnd_eq ht32)
      have hc := c_X7_readRule l G awd (s7_at bwd t3.2) (hw_wd_at_3) (hi_wd_told) _ (by simp only [gs7_tape_at, gs7_sort_at, gs7_head_at, gs7_body_at, gs7_excepts_at, gs7_power_at, gs7_length_at, gg7_at, gs7_told_at]; exact ht32)
      refine zgoI (bs' := [w7 G awd (s7_at (s7_power (s7_excepts (s7_body (s7_head (s7_sort (s7_at bwd t3.2) t32.2.1) t32.2.2.1) t32.2.2.2.1) t32.2.2.2.2.1) t32.2.2.2.2.2.1) t32.2.2.2.2.2.2)]) hc [0] rfl rfl rfl hP hD hS hA (va_runV (As := []) (rest := []) S (hc.2 _) (cwV 0 S.2.2.2.2 gX7_readStatement_X7_readRule rfl rfl rfl (by decide +kernel) ⟨Nat.le_of_ble_eq_true rfl, Nat.le_of_ble_eq_true rfl⟩) (zpV hK hP hD (is := [0]) rfl rfl 0 rfl rfl (ci := 7) rfl) rfl rfl hl.1 rfl (lv_room (Nat.le_of_ble_eq_true rfl)) dX7_readStatement_32 ⟨Nat.zero_le _, Nat.zero_le _⟩) (fun H locs hn32 hP hD hS => ?_)
      have hw_wd_at_32 : zTp (g7_length bwd) (t32.2.2.2.2.2.2) := by rw [← ht32]; exact zTp_readRule hw_wd_at_3
      rw [show (s7_at (s7_power (s7_excepts (s7_body (s7_head (s7_sort (s7_at bwd t3.2) t32.2.1) t32.2.2.1) t32.2.2.2.1) t32.2.2.2.2.1) t32.2.2.2.2.2.1) t32.2.2.2.2.2.2) = (s7_at (s7_power (s7_excepts (s7_body (s7_head (s7_sort bwd t32.2.1) t32.2.2.1) t32.2.2.2.1) t32.2.2.2.2.1) t32.2.2.2.2.2.1) t32.2.2.2.2.2.2) from ((congrArg (fun z => s7_at z t32.2.2.2.2.2.2) ((congrArg (fun z => s7_power z t32.2.2.2.2.2.1) ((congrArg (fun z => s7_excepts z t32.2.2.2.2.1) ((congrArg (fun z => s7_body z t32.2.2.2.1) ((congrArg (fun z => s7_head z t32.2.2.1) (cm7_sort_at _ t3.2 t32.2.1)).trans (cm7_head_at _ t3.2 t32.2.2.1))).trans (cm7_body_at _ t3.2 t32.2.2.2.1))).trans (cm7_excepts_at _ t3.2 t32.2.2.2.2.1))).trans (cm7_power_at _ t3.2 t32.2.2.2.2.2.1))).trans (ss7_at _ t3.2 t32.2.2.2.2.2.2))] at hP hD
      exact hret _ _ _ _ _ _ (by subst hE; rfl) hn32 hP hS dX7_readStatement_35
    · have hE := hE.trans (if_neg c21)
      refine lv_aload_n hx hb dX7_readStatement_24 rfl (lv_at hl 0 rfl) ?_
      obtain ⟨t25, ht25⟩ : ∃ z, FX7_readPair (g7_tape bwd) (g7_sort bwd) (g7_head bwd) (g7_body bwd) (g7_length bwd) t3.2 (g7_told bwd) = z := ⟨_, rfl⟩
      have hE := hE.trans (bnd_eq ht25)
      have hc := c_X7_readPair l G awd (s7_at bwd t3.2) (hw_wd_at_3) (hi_wd_told) _ (by simp only [gs7_tape_at, gs7_sort_at, gs7_head_at, gs7_body_at, gs7_length_at, gg7_at, gs7_told_at]; exact ht25)
      refine zgoI (bs' := [w7 G awd (s7_at (s7_body (s7_head (s7_sort (s7_at bwd t3.2) t25.2.1) t25.2.2.1) t25.2.2.2.1) t25.2.2.2.2)]) hc [0] rfl rfl rfl hP hD hS hA (va_runV (As := []) (rest := []) S (hc.2 _) (cwV 0 S.2.2.2.2 gX7_readStatement_X7_readPair rfl rfl rfl (by decide +kernel) ⟨Nat.le_of_ble_eq_true rfl, Nat.le_of_ble_eq_true rfl⟩) (zpV hK hP hD (is := [0]) rfl rfl 0 rfl rfl (ci := 7) rfl) rfl rfl hl.1 rfl (lv_room (Nat.le_of_ble_eq_true rfl)) dX7_readStatement_25 ⟨Nat.zero_le _, Nat.zero_le _⟩) (fun H locs hn25 hP hD hS => ?_)
      have hw_wd_at_25 : zTp (g7_length bwd) (t25.2.2.2.2) := by rw [← ht25]; exact zTp_readPair hw_wd_at_3
      refine lv_goto (tgt := 35) hx hb dX7_readStatement_28 (by decide) ?_
      rw [show (s7_at (s7_body (s7_head (s7_sort (s7_at bwd t3.2) t25.2.1) t25.2.2.1) t25.2.2.2.1) t25.2.2.2.2) = (s7_at (s7_power (s7_excepts (s7_body (s7_head (s7_sort bwd t25.2.1) t25.2.2.1) t25.2.2.2.1) (g7_excepts bwd)) (g7_power bwd)) t25.2.2.2.2) from ((((congrArg (fun z => s7_at z t25.2.2.2.2) ((congrArg (fun z => s7_body z t25.2.2.2.1) ((congrArg (fun z => s7_head z t25.2.2.1) (cm7_sort_at _ t3.2 t25.2.1)).trans (cm7_head_at _ t3.2 t25.2.2.1))).trans (cm7_body_at _ t3.2 t25.2.2.2.1))).trans (ss7_at _ t3.2 t25.2.2.2.2)).trans (congrArg (fun z => s7_at z t25.2.2.2.2) (((se7_excepts _).symm).trans (congrArg (fun v => s7_excepts (s7_body (s7_head (s7_sort bwd t25.2.1) t25.2.2.1) t25.2.2.2.1) v) ((gs7_excepts_body _ t25.2.2.2.1).trans ((gs7_excepts_head _ t25.2.2.1).trans (gs7_excepts_sort _ t25.2.1))))))).trans (congrArg (fun z => s7_at z t25.2.2.2.2) (((se7_power _).symm).trans (congrArg (fun v => s7_power (s7_excepts (s7_body (s7_head (s7_sort bwd t25.2.1) t25.2.2.1) t25.2.2.2.1) (g7_excepts bwd)) v) ((gs7_power_excepts _ (g7_excepts bwd)).trans ((gs7_power_body _ t25.2.2.2.1).trans ((gs7_power_head _ t25.2.2.1).trans (gs7_power_sort _ t25.2.1))))))))] at hP hD
      exact hret _ _ _ _ _ _ (by subst hE; rfl) hn25 hP hS dX7_readStatement_35
  · have hE := hE.trans (if_neg c6)
    refine lv_aload_n hx hb dX7_readStatement_9 rfl (lv_at hl 0 rfl) ?_
    obtain ⟨t10, ht10⟩ : ∃ z, FX7_readFact (g7_tape bwd) (g7_sort bwd) (g7_head bwd) (g7_length bwd) t3.2 (g7_told bwd) = z := ⟨_, rfl⟩
    have hE := hE.trans (bnd_eq ht10)
    have hc := c_X7_readFact l G awd (s7_at bwd t3.2) (hw_wd_at_3) (hi_wd_told) _ (by simp only [gs7_tape_at, gs7_sort_at, gs7_head_at, gs7_length_at, gg7_at, gs7_told_at]; exact ht10)
    refine zgoI (bs' := [w7 G awd (s7_at (s7_head (s7_sort (s7_at bwd t3.2) t10.2.1) t10.2.2.1) t10.2.2.2)]) hc [0] rfl rfl rfl hP hD hS hA (va_runV (As := []) (rest := []) S (hc.2 _) (cwV 0 S.2.2.2.2 gX7_readStatement_X7_readFact rfl rfl rfl (by decide +kernel) ⟨Nat.le_of_ble_eq_true rfl, Nat.le_of_ble_eq_true rfl⟩) (zpV hK hP hD (is := [0]) rfl rfl 0 rfl rfl (ci := 7) rfl) rfl rfl hl.1 rfl (lv_room (Nat.le_of_ble_eq_true rfl)) dX7_readStatement_10 ⟨Nat.zero_le _, Nat.zero_le _⟩) (fun H locs hn10 hP hD hS => ?_)
    have hw_wd_at_10 : zTp (g7_length bwd) (t10.2.2.2) := by rw [← ht10]; exact zTp_readFact hw_wd_at_3
    rw [show (s7_at (s7_head (s7_sort (s7_at bwd t3.2) t10.2.1) t10.2.2.1) t10.2.2.2) = (s7_at (s7_power (s7_excepts (s7_body (s7_head (s7_sort bwd t10.2.1) t10.2.2.1) (g7_body bwd)) (g7_excepts bwd)) (g7_power bwd)) t10.2.2.2) from (((((congrArg (fun z => s7_at z t10.2.2.2) ((congrArg (fun z => s7_head z t10.2.2.1) (cm7_sort_at _ t3.2 t10.2.1)).trans (cm7_head_at _ t3.2 t10.2.2.1))).trans (ss7_at _ t3.2 t10.2.2.2)).trans (congrArg (fun z => s7_at z t10.2.2.2) (((se7_body _).symm).trans (congrArg (fun v => s7_body (s7_head (s7_sort bwd t10.2.1) t10.2.2.1) v) ((gs7_body_head _ t10.2.2.1).trans (gs7_body_sort _ t10.2.1)))))).trans (congrArg (fun z => s7_at z t10.2.2.2) (((se7_excepts _).symm).trans (congrArg (fun v => s7_excepts (s7_body (s7_head (s7_sort bwd t10.2.1) t10.2.2.1) (g7_body bwd)) v) ((gs7_excepts_body _ (g7_body bwd)).trans ((gs7_excepts_head _ t10.2.2.1).trans (gs7_excepts_sort _ t10.2.1))))))).trans (congrArg (fun z => s7_at z t10.2.2.2) (((se7_power _).symm).trans (congrArg (fun v => s7_power (s7_excepts (s7_body (s7_head (s7_sort bwd t10.2.1) t10.2.2.1) (g7_body bwd)) (g7_excepts bwd)) v) ((gs7_power_excepts _ (g7_excepts bwd)).trans ((gs7_power_body _ (g7_body bwd)).trans ((gs7_power_head _ t10.2.2.1).trans (gs7_power_sort _ t10.2.1))))))))] at hP hD
    exact hret _ _ _ _ _ _ (by subst hE; rfl) hn10 hP hS dX7_readStatement_13

theorem zTp_readStatement {t a b c d e : Nat → Int32} {l q o : Int32} (h : zTp l q) : zTp l (FX7_readStatement t a b c d e l q o).2.2.2.2.2.2 := by
  simp only [FX7_readStatement, bndy]
  repeat' split
  all_goals (try dsimp only)
  all_goals (repeat (first | with_reducible exact h | with_reducible apply zTp_take | with_reducible apply zTp_readLiterals | with_reducible apply zTp_readLiteral | with_reducible apply zTp_readFigure | with_reducible apply zTp_readArrow | with_reducible apply zTp_readNumber | with_reducible apply zTp_readFact | with_reducible apply zTp_readPair | with_reducible apply zTp_readRule))

theorem in_X7_split_7 : ∀ w ∈ u_ws RX7 TX7 10, w ∈ wsX7_split := by decide +kernel
def rmX7_split : Room := { frames := 5, cells := 0, slots := 0, locals := 108 }
set_option maxHeartbeats 4000000 in
set_option maxRecDepth 100000 in
theorem c_X7_split (l : Launch) (G : zG) (awd : Nat → Nat) (bwd : S7) (hz_wd_length : ∃ N : Nat, N ≤ 120 ∧ g7_length bwd = nI N) (T : Int32 × (Nat → Int32) × (Nat → Int32) × (Nat → Int32) × (Nat → Int32) × (Nat → Int32) × (Nat → Int32) × (Int32) × (Int32)) (hT : FX7_split (g7_tape bwd) (g7_sort bwd) (g7_head bwd) (g7_body bwd) (g7_excepts bwd) (g7_power bwd) (g7_begins bwd) (g7_length bwd) (g7_at bwd) (g7_told bwd) = T) : zI l yX7_split wsX7_split rmX7_split .boolean G [.ref (awd 0)] [w7 G awd bwd] T.1 [w7 G awd (s7_told (s7_at (s7_begins (s7_power (s7_excepts (s7_body (s7_head (s7_sort bwd T.2.1) T.2.2.1) T.2.2.2.1) T.2.2.2.2.1) T.2.2.2.2.2.1) T.2.2.2.2.2.2.1) T.2.2.2.2.2.2.2.1) T.2.2.2.2.2.2.2.2)] := by
  refine zI.mk (cc := cX7_split) (maxL := 1) (by decide +kernel) rfl (Nat.le_of_ble_eq_true rfl) (zfl_cons (wf7 _ _ _ _) rfl) ?_
  intro p e s m args below meth c Q A ls S hK hD hA hP hl hret
  have hx := S.1
  have hb := S.2.1
  have hS : va_S A s.heap s.heap [] := va_S.rf
  have hl : lv_has ls 1 [(0, .ref (awd 0))] := hl
  have hE := hT.symm.trans (FX7_split.eq_1 _ _ _ _ _ _ _ _ _ _)
  refine lv_aload_n hx hb dX7_split_0 rfl (lv_at hl 0 rfl) ?_
  refine lv_iconst (v := 0) hx hb dX7_split_1 (by decide) ?_
  refine zp7_at (bs1 := [w7 G awd (s7_at bwd 0)]) S in_X7_split_7 hK hP hD hS 0 rfl (List.mem_of_getElem? (i := 1) rfl) dX7_split_2 rfl (fun H locs hP hD hS => ?_)
  have hw_wd_at_2 : zTp (g7_length bwd) (0) := zTp_07 hz_wd_length
  refine lv_aload_n hx hb dX7_split_5 rfl (lv_at hl 0 rfl) ?_
  refine lv_iconst (v := 0) hx hb dX7_split_6 (by decide) ?_
  have hB75 : ∀ (wd_sort_75 : Nat → Int32) (wd_head_75 : Nat → Int32) (wd_body_75 : Nat → Int32) (wd_excepts_75 : Nat → Int32) (wd_power_75 : Nat → Int32) (wd_begins_75 : Nat → Int32) (wd_at_75 : Int32) (wd_told_75 : Int32) (H : Heap) (locs : List Loc) (ls : Array Slot), (zTp (g7_length bwd) (wd_at_75)) → (∃ N : Nat, N ≤ 60 ∧ wd_told_75 = nI N) → T = FX7_split_75 (g7_tape bwd) (g7_sort bwd) (g7_head bwd) (g7_body bwd) (g7_excepts bwd) (g7_power bwd) (g7_begins bwd) (g7_length bwd) (g7_at bwd) (g7_told bwd) wd_sort_75 wd_head_75 wd_body_75 wd_excepts_75 wd_power_75 wd_begins_75 wd_at_75 wd_told_75 → zP G [w7 G awd (s7_told (s7_at (s7_begins (s7_power (s7_excepts (s7_body (s7_head (s7_sort bwd wd_sort_75) wd_head_75) wd_body_75) wd_excepts_75) wd_power_75) wd_begins_75) wd_at_75) wd_told_75)] H → zD A [w7 G awd (s7_told (s7_at (s7_begins (s7_power (s7_excepts (s7_body (s7_head (s7_sort bwd wd_sort_75) wd_head_75) wd_body_75) wd_excepts_75) wd_power_75) wd_begins_75) wd_at_75) wd_told_75)] → va_S A s.heap H locs → lv_has ls 1 [] → W p l e rmX7_split s m args below meth c H locs 0 0 Q (F0 m 75 ls []) := by
    intro wd_sort_75 wd_head_75 wd_body_75 wd_excepts_75 wd_power_75 wd_begins_75 wd_at_75 wd_told_75 H locs ls hw_wd_at_B75 hz_wd_told_B75 hE hP hD hS hl
    have hE := hE.trans (FX7_split_75.eq_1 _ _ _ _ _ _ _ _ _ _ _ _ _ _ _ _ _ _)
    refine lv_iconst (v := 0) hx hb dX7_split_75 (by decide) ?_
    exact hret _ _ _ _ _ _ (by subst hE; rfl) zn0 hP hS dX7_split_76
  have hB10 : ∀ (n10 : Nat) (wd_sort_10 : Nat → Int32) (wd_head_10 : Nat → Int32) (wd_body_10 : Nat → Int32) (wd_excepts_10 : Nat → Int32) (wd_power_10 : Nat → Int32) (wd_begins_10 : Nat → Int32) (wd_at_10 : Int32) (wd_told_10 : Int32) (H : Heap) (locs : List Loc) (ls : Array Slot), (zTp (g7_length bwd) (wd_at_10)) → (∃ N : Nat, N ≤ 60 ∧ wd_told_10 = nI N) → (∃ N : Nat, N ≤ 60 ∧ wd_told_10 = nI N ∧ 61 ≤ N + n10) → T = FX7_split_10 (g7_tape bwd) (g7_sort bwd) (g7_head bwd) (g7_body bwd) (g7_excepts bwd) (g7_power bwd) (g7_begins bwd) (g7_length bwd) (g7_at bwd) (g7_told bwd) (FX7_split_75 (g7_tape bwd) (g7_sort bwd) (g7_head bwd) (g7_body bwd) (g7_excepts bwd) (g7_power bwd) (g7_begins bwd) (g7_length bwd) (g7_at bwd) (g7_told bwd)) n10 wd_sort_10 wd_head_10 wd_body_10 wd_excepts_10 wd_power_10 wd_begins_10 wd_at_10 wd_told_10 → zP G [w7 G awd (s7_told (s7_at (s7_begins (s7_power (s7_excepts (s7_body (s7_head (s7_sort bwd wd_sort_10) wd_head_10) wd_body_10) wd_excepts_10) wd_power_10) wd_begins_10) wd_at_10) wd_told_10)] H → zD A [w7 G awd (s7_told (s7_at (s7_begins (s7_power (s7_excepts (s7_body (s7_head (s7_sort bwd wd_sort_10) wd_head_10) wd_body_10) wd_excepts_10) wd_power_10) wd_begins_10) wd_at_10) wd_told_10)] → va_S A s.heap H locs → lv_has ls 1 [(0, .ref (awd 0))] → W p l e rmX7_split s m args below meth c H locs 0 0 Q (F0 m 10 ls []) := by
    intro n10
    induction n10 with
    | zero =>
      intro wd_sort_10 wd_head_10 wd_body_10 wd_excepts_10 wd_power_10 wd_begins_10 wd_at_10 wd_told_10 H locs ls hw_wd_at_B10 hz_wd_told_B10 hn hE hP hD hS hl
      exact absurd hn (by rintro ⟨N, h1, -, h3⟩; omega)
    | succ n10 ih10 =>
      intro wd_sort_10 wd_head_10 wd_body_10 wd_excepts_10 wd_power_10 wd_begins_10 wd_at_10 wd_told_10 H locs ls hw_wd_at_B10 hz_wd_told_B10 hn hE hP hD hS hl
      have hE := hE.trans (FX7_split_10.eq_2 _ _ _ _ _ _ _ _ _ _ _ _ _ _ _ _ _ _ _ _)
      refine lv_aload_n hx hb dX7_split_10 rfl (lv_at hl 0 rfl) ?_
      refine zg7_told S in_X7_split_7 hK hP 0 rfl (List.mem_of_getElem? (i := 2) rfl) (v := wd_told_10) (gg7_told _ wd_told_10) dX7_split_11 ?_
      refine lv_bipush (v := 60) hx hb dX7_split_14 (by decide) ?_
      refine lv_icmp_ge (tgt := 75) hx hb dX7_split_16 (by decide) (fun c16 => ?_) (fun c16 => ?_)
      · have hE := hE.trans (if_pos c16)
        exact hB75 wd_sort_10 wd_head_10 wd_body_10 wd_excepts_10 wd_power_10 wd_begins_10 wd_at_10 wd_told_10 _ _ _ (by exact hw_wd_at_B10) (by exact hz_wd_told_B10) hE hP hD hS (lv_sub hl [] rfl)
      · have hE := hE.trans (if_neg c16)
        have hi_wd_told : vp_in wd_told_10 60 := by obtain ⟨N, h1, h2⟩ := hz_wd_told_B10; exact zfld_nle h2 (by omega) rfl (by decide) c16
        refine lv_aload_n hx hb dX7_split_19 rfl (lv_at hl 0 rfl) ?_
        refine zg7_begins S in_X7_split_7 hK hP 0 rfl (List.mem_of_getElem? (i := 3) rfl) dX7_split_20 ?_
        refine lv_aload_n hx hb dX7_split_23 rfl (lv_at hl 0 rfl) ?_
        refine zg7_told S in_X7_split_7 hK hP 0 rfl (List.mem_of_getElem? (i := 2) rfl) (v := wd_told_10) (gg7_told _ wd_told_10) dX7_split_24 ?_
        refine lv_aload_n hx hb dX7_split_27 rfl (lv_at hl 0 rfl) ?_
        refine zg7_at S in_X7_split_7 hK hP 0 rfl (List.mem_of_getElem? (i := 1) rfl) (v := wd_at_10) ((gs7_at_told _ wd_told_10).trans (gg7_at _ wd_at_10)) dX7_split_28 ?_
        refine zs7_begins (bs1 := [w7 G awd (s7_begins (s7_told (s7_at (s7_begins (s7_power (s7_excepts (s7_body (s7_head (s7_sort bwd wd_sort_10) wd_head_10) wd_body_10) wd_excepts_10) wd_power_10) wd_begins_10) wd_at_10) wd_told_10) (upd wd_begins_10 wd_told_10.toNatClampNeg wd_at_10))]) S hK hP hD hS 0 rfl (hi_wd_told) (f := wd_begins_10) ((gs7_begins_told _ wd_told_10).trans ((gs7_begins_at _ wd_at_10).trans (gg7_begins _ wd_begins_10))) dX7_split_31 rfl (fun H locs hP hD hS => ?_)
        refine lv_aload_n hx hb dX7_split_32 rfl (lv_at hl 0 rfl) ?_
        obtain ⟨t33, ht33⟩ : ∃ z, FX7_readStatement (g7_tape bwd) wd_sort_10 wd_head_10 wd_body_10 wd_excepts_10 wd_power_10 (g7_length bwd) wd_at_10 wd_told_10 = z := ⟨_, rfl⟩
        have hE := hE.trans (bnd_eq ht33)
        have hc := c_X7_readStatement l G awd (s7_begins (s7_told (s7_at (s7_begins (s7_power (s7_excepts (s7_body (s7_head (s7_sort bwd wd_sort_10) wd_head_10) wd_body_10) wd_excepts_10) wd_power_10) wd_begins_10) wd_at_10) wd_told_10) (upd wd_begins_10 wd_told_10.toNatClampNeg wd_at_10)) (hw_wd_at_B10) (hi_wd_told) _ (by simp only [gs7_tape_begins, gs7_tape_told, gs7_tape_at, gs7_tape_power, gs7_tape_excepts, gs7_tape_body, gs7_tape_head, gs7_tape_sort, gs7_sort_begins, gs7_sort_told, gs7_sort_at, gs7_sort_power, gs7_sort_excepts, gs7_sort_body, gs7_sort_head, gg7_sort, gs7_head_begins, gs7_head_told, gs7_head_at, gs7_head_power, gs7_head_excepts, gs7_head_body, gg7_head, gs7_body_begins, gs7_body_told, gs7_body_at, gs7_body_power, gs7_body_excepts, gg7_body, gs7_excepts_begins, gs7_excepts_told, gs7_excepts_at, gs7_excepts_power, gg7_excepts, gs7_power_begins, gs7_power_told, gs7_power_at, gg7_power, gs7_length_begins, gs7_length_told, gs7_length_at, gs7_length_power, gs7_length_excepts, gs7_length_body, gs7_length_head, gs7_length_sort, gs7_at_begins, gs7_at_told, gg7_at, gs7_told_begins, gg7_told]; exact ht33)
        refine zgoI (bs' := [w7 G awd (s7_at (s7_power (s7_excepts (s7_body (s7_head (s7_sort (s7_begins (s7_told (s7_at (s7_begins (s7_power (s7_excepts (s7_body (s7_head (s7_sort bwd wd_sort_10) wd_head_10) wd_body_10) wd_excepts_10) wd_power_10) wd_begins_10) wd_at_10) wd_told_10) (upd wd_begins_10 wd_told_10.toNatClampNeg wd_at_10)) t33.2.1) t33.2.2.1) t33.2.2.2.1) t33.2.2.2.2.1) t33.2.2.2.2.2.1) t33.2.2.2.2.2.2)]) hc [0] rfl rfl rfl hP hD hS hA (va_runV (As := []) (rest := []) S (hc.2 _) (cwV 0 S.2.2.2.2 gX7_split_X7_readStatement rfl rfl rfl (by decide +kernel) ⟨Nat.le_of_ble_eq_true rfl, Nat.le_of_ble_eq_true rfl⟩) (zpV hK hP hD (is := [0]) rfl rfl 0 rfl rfl (ci := 7) rfl) rfl rfl hl.1 rfl (lv_room (Nat.le_of_ble_eq_true rfl)) dX7_split_33 ⟨Nat.zero_le _, Nat.zero_le _⟩) (fun H locs hn33 hP hD hS => ?_)
        have hw_wd_at_33 : zTp (g7_length bwd) (t33.2.2.2.2.2.2) := by rw [← ht33]; exact zTp_readStatement hw_wd_at_B10
        refine lv_if_ne (tgt := 41) hx hb dX7_split_36 (by decide) (fun c36 => ?_) (fun c36 => ?_)
        · have hE := hE.trans (if_neg c36)
          refine lv_aload_n hx hb dX7_split_41 rfl (lv_at hl 0 rfl) ?_
          refine lv_dup hx hb dX7_split_42 rfl ?_
          refine zg7_told S in_X7_split_7 hK hP 0 rfl (List.mem_of_getElem? (i := 2) rfl) (v := wd_told_10) ((gs7_told_at _ t33.2.2.2.2.2.2).trans ((gs7_told_power _ t33.2.2.2.2.2.1).trans ((gs7_told_excepts _ t33.2.2.2.2.1).trans ((gs7_told_body _ t33.2.2.2.1).trans ((gs7_told_head _ t33.2.2.1).trans ((gs7_told_sort _ t33.2.1).trans ((gs7_told_begins _ (upd wd_begins_10 wd_told_10.toNatClampNeg wd_at_10)).trans (gg7_told _ wd_told_10)))))))) dX7_split_43 ?_
          refine lv_iconst (v := 1) hx hb dX7_split_46 (by decide) ?_
          refine lv_iadd hx hb dX7_split_47 ?_
          refine zp7_told (bs1 := [w7 G awd (s7_told (s7_at (s7_power (s7_excepts (s7_body (s7_head (s7_sort (s7_begins (s7_told (s7_at (s7_begins (s7_power (s7_excepts (s7_body (s7_head (s7_sort bwd wd_sort_10) wd_head_10) wd_body_10) wd_excepts_10) wd_power_10) wd_begins_10) wd_at_10) wd_told_10) (upd wd_begins_10 wd_told_10.toNatClampNeg wd_at_10)) t33.2.1) t33.2.2.1) t33.2.2.2.1) t33.2.2.2.2.1) t33.2.2.2.2.2.1) t33.2.2.2.2.2.2) (wd_told_10 + 1))]) S in_X7_split_7 hK hP hD hS 0 rfl (List.mem_of_getElem? (i := 2) rfl) dX7_split_48 rfl (fun H locs hP hD hS => ?_)
          have hz_wd_told_48 : ∃ N : Nat, N ≤ 60 ∧ (wd_told_10 + 1) = nI N := znext hz_wd_told_B10 rfl (by decide) c16
          refine lv_aload_n hx hb dX7_split_51 rfl (lv_at hl 0 rfl) ?_
          refine zg7_at S in_X7_split_7 hK hP 0 rfl (List.mem_of_getElem? (i := 1) rfl) (v := t33.2.2.2.2.2.2) ((gs7_at_told _ (wd_told_10 + 1)).trans (gg7_at _ t33.2.2.2.2.2.2)) dX7_split_52 ?_
          refine lv_aload_n hx hb dX7_split_55 rfl (lv_at hl 0 rfl) ?_
          refine zg7_length S in_X7_split_7 hK hP 0 rfl (List.mem_of_getElem? (i := 4) rfl) (v := (g7_length bwd)) ((gs7_length_told _ (wd_told_10 + 1)).trans ((gs7_length_at _ t33.2.2.2.2.2.2).trans ((gs7_length_power _ t33.2.2.2.2.2.1).trans ((gs7_length_excepts _ t33.2.2.2.2.1).trans ((gs7_length_body _ t33.2.2.2.1).trans ((gs7_length_head _ t33.2.2.1).trans ((gs7_length_sort _ t33.2.1).trans ((gs7_length_begins _ (upd wd_begins_10 wd_told_10.toNatClampNeg wd_at_10)).trans ((gs7_length_told _ wd_told_10).trans ((gs7_length_at _ wd_at_10).trans ((gs7_length_begins _ wd_begins_10).trans ((gs7_length_power _ wd_power_10).trans ((gs7_length_excepts _ wd_excepts_10).trans ((gs7_length_body _ wd_body_10).trans ((gs7_length_head _ wd_head_10).trans (gs7_length_sort _ wd_sort_10)))))))))))))))) dX7_split_56 ?_
          refine lv_icmp_lt (tgt := 64) hx hb dX7_split_59 (by decide) (fun c59 => ?_) (fun c59 => ?_)
          · have hE := hE.trans (if_pos c59)
            refine lv_aload_n hx hb dX7_split_64 rfl (lv_at hl 0 rfl) ?_
            refine lv_bipush (v := 59) hx hb dX7_split_65 (by decide) ?_
            obtain ⟨t67, ht67⟩ : ∃ z, FX7_take (g7_tape bwd) (g7_length bwd) t33.2.2.2.2.2.2 59 = z := ⟨_, rfl⟩
            have hE := hE.trans (bnd_eq ht67)
            have hc := c_X7_take l G awd (s7_told (s7_at (s7_power (s7_excepts (s7_body (s7_head (s7_sort (s7_begins (s7_told (s7_at (s7_begins (s7_power (s7_excepts (s7_body (s7_head (s7_sort bwd wd_sort_10) wd_head_10) wd_body_10) wd_excepts_10) wd_power_10) wd_begins_10) wd_at_10) wd_told_10) (upd wd_begins_10 wd_told_10.toNatClampNeg wd_at_10)) t33.2.1) t33.2.2.1) t33.2.2.2.1) t33.2.2.2.2.1) t33.2.2.2.2.2.1) t33.2.2.2.2.2.2) (wd_told_10 + 1)) 59 (hw_wd_at_33) _ (by simp only [gs7_tape_told, gs7_tape_at, gs7_tape_power, gs7_tape_excepts, gs7_tape_body, gs7_tape_head, gs7_tape_sort, gs7_tape_begins, gs7_length_told, gs7_length_at, gs7_length_power, gs7_length_excepts, gs7_length_body, gs7_length_head, gs7_length_sort, gs7_length_begins, gs7_at_told, gg7_at]; exact ht67)
            refine zgoI (bs' := [w7 G awd (s7_at (s7_told (s7_at (s7_power (s7_excepts (s7_body (s7_head (s7_sort (s7_begins (s7_told (s7_at (s7_begins (s7_power (s7_excepts (s7_body (s7_head (s7_sort bwd wd_sort_10) wd_head_10) wd_body_10) wd_excepts_10) wd_power_10) wd_begins_10) wd_at_10) wd_told_10) (upd wd_begins_10 wd_told_10.toNatClampNeg wd_at_10)) t33.2.1) t33.2.2.1) t33.2.2.2.1) t33.2.2.2.2.1) t33.2.2.2.2.2.1) t33.2.2.2.2.2.2) (wd_told_10 + 1)) t67.2)]) hc [0] rfl rfl rfl hP hD hS hA (va_runV (As := [.int 59]) (rest := []) S (hc.2 _) (cwV 1 S.2.2.2.2 gX7_split_X7_take rfl rfl rfl (by decide +kernel) ⟨Nat.le_of_ble_eq_true rfl, Nat.le_of_ble_eq_true rfl⟩) (zpV hK hP hD (is := [0]) rfl rfl 0 rfl rfl (ci := 7) rfl) rfl rfl hl.1 rfl (lv_room (Nat.le_of_ble_eq_true rfl)) dX7_split_67 ⟨Nat.zero_le _, Nat.zero_le _⟩) (fun H locs hn67 hP hD hS => ?_)
            have hw_wd_at_67 : zTp (g7_length bwd) (t67.2) := by rw [← ht67]; exact zTp_take hw_wd_at_33
            refine lv_if_ne (tgt := 10) hx hb dX7_split_70 (by decide) (fun c70 => ?_) (fun c70 => ?_)
            · have hE := hE.trans (if_neg c70)
              rw [show (s7_at (s7_told (s7_at (s7_power (s7_excepts (s7_body (s7_head (s7_sort (s7_begins (s7_told (s7_at (s7_begins (s7_power (s7_excepts (s7_body (s7_head (s7_sort bwd wd_sort_10) wd_head_10) wd_body_10) wd_excepts_10) wd_power_10) wd_begins_10) wd_at_10) wd_told_10) (upd wd_begins_10 wd_told_10.toNatClampNeg wd_at_10)) t33.2.1) t33.2.2.1) t33.2.2.2.1) t33.2.2.2.2.1) t33.2.2.2.2.2.1) t33.2.2.2.2.2.2) (wd_told_10 + 1)) t67.2) = (s7_told (s7_at (s7_begins (s7_power (s7_excepts (s7_body (s7_head (s7_sort bwd t33.2.1) t33.2.2.1) t33.2.2.2.1) t33.2.2.2.2.1) t33.2.2.2.2.2.1) (upd wd_begins_10 wd_told_10.toNatClampNeg wd_at_10)) t67.2) (wd_told_10 + 1)) from ((congrArg (fun z => s7_at z t67.2) ((congrArg (fun z => s7_told z (wd_told_10 + 1)) ((congrArg (fun z => s7_at z t33.2.2.2.2.2.2) ((congrArg (fun z => s7_power z t33.2.2.2.2.2.1) ((congrArg (fun z => s7_excepts z t33.2.2.2.2.1) ((congrArg (fun z => s7_body z t33.2.2.2.1) ((congrArg (fun z => s7_head z t33.2.2.1) ((congrArg (fun z => s7_sort z t33.2.1) ((cm7_begins_told _ wd_told_10 (upd wd_begins_10 wd_told_10.toNatClampNeg wd_at_10)).trans (congrArg (fun z => s7_told z wd_told_10) ((cm7_begins_at _ wd_at_10 (upd wd_begins_10 wd_told_10.toNatClampNeg wd_at_10)).trans (congrArg (fun z => s7_at z wd_at_10) (ss7_begins _ wd_begins_10 (upd wd_begins_10 wd_told_10.toNatClampNeg wd_at_10))))))).trans ((cm7_sort_told _ wd_told_10 t33.2.1).trans (congrArg (fun z => s7_told z wd_told_10) ((cm7_sort_at _ wd_at_10 t33.2.1).trans (congrArg (fun z => s7_at z wd_at_10) ((cm7_sort_begins _ (upd wd_begins_10 wd_told_10.toNatClampNeg wd_at_10) t33.2.1).trans (congrArg (fun z => s7_begins z (upd wd_begins_10 wd_told_10.toNatClampNeg wd_at_10)) ((cm7_sort_power _ wd_power_10 t33.2.1).trans (congrArg (fun z => s7_power z wd_power_10) ((cm7_sort_excepts _ wd_excepts_10 t33.2.1).trans (congrArg (fun z => s7_excepts z wd_excepts_10) ((cm7_sort_body _ wd_body_10 t33.2.1).trans (congrArg (fun z => s7_body z wd_body_10) ((cm7_sort_head _ wd_head_10 t33.2.1).trans (congrArg (fun z => s7_head z wd_head_10) (ss7_sort _ wd_sort_10 t33.2.1))))))))))))))))).trans ((cm7_head_told _ wd_told_10 t33.2.2.1).trans (congrArg (fun z => s7_told z wd_told_10) ((cm7_head_at _ wd_at_10 t33.2.2.1).trans (congrArg (fun z => s7_at z wd_at_10) ((cm7_head_begins _ (upd wd_begins_10 wd_told_10.toNatClampNeg wd_at_10) t33.2.2.1).trans (congrArg (fun z => s7_begins z (upd wd_begins_10 wd_told_10.toNatClampNeg wd_at_10)) ((cm7_head_power _ wd_power_10 t33.2.2.1).trans (congrArg (fun z => s7_power z wd_power_10) ((cm7_head_excepts _ wd_excepts_10 t33.2.2.1).trans (congrArg (fun z => s7_excepts z wd_excepts_10) ((cm7_head_body _ wd_body_10 t33.2.2.1).trans (congrArg (fun z => s7_body z wd_body_10) (ss7_head _ wd_head_10 t33.2.2.1))))))))))))))).trans ((cm7_body_told _ wd_told_10 t33.2.2.2.1).trans (congrArg (fun z => s7_told z wd_told_10) ((cm7_body_at _ wd_at_10 t33.2.2.2.1).trans (congrArg (fun z => s7_at z wd_at_10) ((cm7_body_begins _ (upd wd_begins_10 wd_told_10.toNatClampNeg wd_at_10) t33.2.2.2.1).trans (congrArg (fun z => s7_begins z (upd wd_begins_10 wd_told_10.toNatClampNeg wd_at_10)) ((cm7_body_power _ wd_power_10 t33.2.2.2.1).trans (congrArg (fun z => s7_power z wd_power_10) ((cm7_body_excepts _ wd_excepts_10 t33.2.2.2.1).trans (congrArg (fun z => s7_excepts z wd_excepts_10) (ss7_body _ wd_body_10 t33.2.2.2.1))))))))))))).trans ((cm7_excepts_told _ wd_told_10 t33.2.2.2.2.1).trans (congrArg (fun z => s7_told z wd_told_10) ((cm7_excepts_at _ wd_at_10 t33.2.2.2.2.1).trans (congrArg (fun z => s7_at z wd_at_10) ((cm7_excepts_begins _ (upd wd_begins_10 wd_told_10.toNatClampNeg wd_at_10) t33.2.2.2.2.1).trans (congrArg (fun z => s7_begins z (upd wd_begins_10 wd_told_10.toNatClampNeg wd_at_10)) ((cm7_excepts_power _ wd_power_10 t33.2.2.2.2.1).trans (congrArg (fun z => s7_power z wd_power_10) (ss7_excepts _ wd_excepts_10 t33.2.2.2.2.1))))))))))).trans ((cm7_power_told _ wd_told_10 t33.2.2.2.2.2.1).trans (congrArg (fun z => s7_told z wd_told_10) ((cm7_power_at _ wd_at_10 t33.2.2.2.2.2.1).trans (congrArg (fun z => s7_at z wd_at_10) ((cm7_power_begins _ (upd wd_begins_10 wd_told_10.toNatClampNeg wd_at_10) t33.2.2.2.2.2.1).trans (congrArg (fun z => s7_begins z (upd wd_begins_10 wd_told_10.toNatClampNeg wd_at_10)) (ss7_power _ wd_power_10 t33.2.2.2.2.2.1))))))))).trans ((cm7_at_told _ wd_told_10 t33.2.2.2.2.2.2).trans (congrArg (fun z => s7_told z wd_told_10) (ss7_at _ wd_at_10 t33.2.2.2.2.2.2))))).trans (ss7_told _ wd_told_10 (wd_told_10 + 1)))).trans ((cm7_at_told _ (wd_told_10 + 1) t67.2).trans (congrArg (fun z => s7_told z (wd_told_10 + 1)) (ss7_at _ t33.2.2.2.2.2.2 t67.2))))] at hP hD
              exact ih10 t33.2.1 t33.2.2.1 t33.2.2.2.1 t33.2.2.2.2.1 t33.2.2.2.2.2.1 (upd wd_begins_10 wd_told_10.toNatClampNeg wd_at_10) t67.2 (wd_told_10 + 1) _ _ _ (by exact hw_wd_at_67) (by exact hz_wd_told_48) (by exact zmn60 hn c16) hE hP hD hS (lv_sub hl [0] rfl)
            · have hE := hE.trans (if_pos c70)
              refine lv_iconst (v := 0) hx hb dX7_split_73 (by decide) ?_
              rw [show (s7_at (s7_told (s7_at (s7_power (s7_excepts (s7_body (s7_head (s7_sort (s7_begins (s7_told (s7_at (s7_begins (s7_power (s7_excepts (s7_body (s7_head (s7_sort bwd wd_sort_10) wd_head_10) wd_body_10) wd_excepts_10) wd_power_10) wd_begins_10) wd_at_10) wd_told_10) (upd wd_begins_10 wd_told_10.toNatClampNeg wd_at_10)) t33.2.1) t33.2.2.1) t33.2.2.2.1) t33.2.2.2.2.1) t33.2.2.2.2.2.1) t33.2.2.2.2.2.2) (wd_told_10 + 1)) t67.2) = (s7_told (s7_at (s7_begins (s7_power (s7_excepts (s7_body (s7_head (s7_sort bwd t33.2.1) t33.2.2.1) t33.2.2.2.1) t33.2.2.2.2.1) t33.2.2.2.2.2.1) (upd wd_begins_10 wd_told_10.toNatClampNeg wd_at_10)) t67.2) (wd_told_10 + 1)) from ((congrArg (fun z => s7_at z t67.2) ((congrArg (fun z => s7_told z (wd_told_10 + 1)) ((congrArg (fun z => s7_at z t33.2.2.2.2.2.2) ((congrArg (fun z => s7_power z t33.2.2.2.2.2.1) ((congrArg (fun z => s7_excepts z t33.2.2.2.2.1) ((congrArg (fun z => s7_body z t33.2.2.2.1) ((congrArg (fun z => s7_head z t33.2.2.1) ((congrArg (fun z => s7_sort z t33.2.1) ((cm7_begins_told _ wd_told_10 (upd wd_begins_10 wd_told_10.toNatClampNeg wd_at_10)).trans (congrArg (fun z => s7_told z wd_told_10) ((cm7_begins_at _ wd_at_10 (upd wd_begins_10 wd_told_10.toNatClampNeg wd_at_10)).trans (congrArg (fun z => s7_at z wd_at_10) (ss7_begins _ wd_begins_10 (upd wd_begins_10 wd_told_10.toNatClampNeg wd_at_10))))))).trans ((cm7_sort_told _ wd_told_10 t33.2.1).trans (congrArg (fun z => s7_told z wd_told_10) ((cm7_sort_at _ wd_at_10 t33.2.1).trans (congrArg (fun z => s7_at z wd_at_10) ((cm7_sort_begins _ (upd wd_begins_10 wd_told_10.toNatClampNeg wd_at_10) t33.2.1).trans (congrArg (fun z => s7_begins z (upd wd_begins_10 wd_told_10.toNatClampNeg wd_at_10)) ((cm7_sort_power _ wd_power_10 t33.2.1).trans (congrArg (fun z => s7_power z wd_power_10) ((cm7_sort_excepts _ wd_excepts_10 t33.2.1).trans (congrArg (fun z => s7_excepts z wd_excepts_10) ((cm7_sort_body _ wd_body_10 t33.2.1).trans (congrArg (fun z => s7_body z wd_body_10) ((cm7_sort_head _ wd_head_10 t33.2.1).trans (congrArg (fun z => s7_head z wd_head_10) (ss7_sort _ wd_sort_10 t33.2.1))))))))))))))))).trans ((cm7_head_told _ wd_told_10 t33.2.2.1).trans (congrArg (fun z => s7_told z wd_told_10) ((cm7_head_at _ wd_at_10 t33.2.2.1).trans (congrArg (fun z => s7_at z wd_at_10) ((cm7_head_begins _ (upd wd_begins_10 wd_told_10.toNatClampNeg wd_at_10) t33.2.2.1).trans (congrArg (fun z => s7_begins z (upd wd_begins_10 wd_told_10.toNatClampNeg wd_at_10)) ((cm7_head_power _ wd_power_10 t33.2.2.1).trans (congrArg (fun z => s7_power z wd_power_10) ((cm7_head_excepts _ wd_excepts_10 t33.2.2.1).trans (congrArg (fun z => s7_excepts z wd_excepts_10) ((cm7_head_body _ wd_body_10 t33.2.2.1).trans (congrArg (fun z => s7_body z wd_body_10) (ss7_head _ wd_head_10 t33.2.2.1))))))))))))))).trans ((cm7_body_told _ wd_told_10 t33.2.2.2.1).trans (congrArg (fun z => s7_told z wd_told_10) ((cm7_body_at _ wd_at_10 t33.2.2.2.1).trans (congrArg (fun z => s7_at z wd_at_10) ((cm7_body_begins _ (upd wd_begins_10 wd_told_10.toNatClampNeg wd_at_10) t33.2.2.2.1).trans (congrArg (fun z => s7_begins z (upd wd_begins_10 wd_told_10.toNatClampNeg wd_at_10)) ((cm7_body_power _ wd_power_10 t33.2.2.2.1).trans (congrArg (fun z => s7_power z wd_power_10) ((cm7_body_excepts _ wd_excepts_10 t33.2.2.2.1).trans (congrArg (fun z => s7_excepts z wd_excepts_10) (ss7_body _ wd_body_10 t33.2.2.2.1))))))))))))).trans ((cm7_excepts_told _ wd_told_10 t33.2.2.2.2.1).trans (congrArg (fun z => s7_told z wd_told_10) ((cm7_excepts_at _ wd_at_10 t33.2.2.2.2.1).trans (congrArg (fun z => s7_at z wd_at_10) ((cm7_excepts_begins _ (upd wd_begins_10 wd_told_10.toNatClampNeg wd_at_10) t33.2.2.2.2.1).trans (congrArg (fun z => s7_begins z (upd wd_begins_10 wd_told_10.toNatClampNeg wd_at_10)) ((cm7_excepts_power _ wd_power_10 t33.2.2.2.2.1).trans (congrArg (fun z => s7_power z wd_power_10) (ss7_excepts _ wd_excepts_10 t33.2.2.2.2.1))))))))))).trans ((cm7_power_told _ wd_told_10 t33.2.2.2.2.2.1).trans (congrArg (fun z => s7_told z wd_told_10) ((cm7_power_at _ wd_at_10 t33.2.2.2.2.2.1).trans (congrArg (fun z => s7_at z wd_at_10) ((cm7_power_begins _ (upd wd_begins_10 wd_told_10.toNatClampNeg wd_at_10) t33.2.2.2.2.2.1).trans (congrArg (fun z => s7_begins z (upd wd_begins_10 wd_told_10.toNatClampNeg wd_at_10)) (ss7_power _ wd_power_10 t33.2.2.2.2.2.1))))))))).trans ((cm7_at_told _ wd_told_10 t33.2.2.2.2.2.2).trans (congrArg (fun z => s7_told z wd_told_10) (ss7_at _ wd_at_10 t33.2.2.2.2.2.2))))).trans (ss7_told _ wd_told_10 (wd_told_10 + 1)))).trans ((cm7_at_told _ (wd_told_10 + 1) t67.2).trans (congrArg (fun z => s7_told z (wd_told_10 + 1)) (ss7_at _ t33.2.2.2.2.2.2 t67.2))))] at hP hD
              exact hret _ _ _ _ _ _ (by subst hE; rfl) zn0 hP hS dX7_split_74
          · have hE := hE.trans (if_neg c59)
            refine lv_iconst (v := 1) hx hb dX7_split_62 (by decide) ?_
            rw [show (s7_told (s7_at (s7_power (s7_excepts (s7_body (s7_head (s7_sort (s7_begins (s7_told (s7_at (s7_begins (s7_power (s7_excepts (s7_body (s7_head (s7_sort bwd wd_sort_10) wd_head_10) wd_body_10) wd_excepts_10) wd_power_10) wd_begins_10) wd_at_10) wd_told_10) (upd wd_begins_10 wd_told_10.toNatClampNeg wd_at_10)) t33.2.1) t33.2.2.1) t33.2.2.2.1) t33.2.2.2.2.1) t33.2.2.2.2.2.1) t33.2.2.2.2.2.2) (wd_told_10 + 1)) = (s7_told (s7_at (s7_begins (s7_power (s7_excepts (s7_body (s7_head (s7_sort bwd t33.2.1) t33.2.2.1) t33.2.2.2.1) t33.2.2.2.2.1) t33.2.2.2.2.2.1) (upd wd_begins_10 wd_told_10.toNatClampNeg wd_at_10)) t33.2.2.2.2.2.2) (wd_told_10 + 1)) from ((congrArg (fun z => s7_told z (wd_told_10 + 1)) ((congrArg (fun z => s7_at z t33.2.2.2.2.2.2) ((congrArg (fun z => s7_power z t33.2.2.2.2.2.1) ((congrArg (fun z => s7_excepts z t33.2.2.2.2.1) ((congrArg (fun z => s7_body z t33.2.2.2.1) ((congrArg (fun z => s7_head z t33.2.2.1) ((congrArg (fun z => s7_sort z t33.2.1) ((cm7_begins_told _ wd_told_10 (upd wd_begins_10 wd_told_10.toNatClampNeg wd_at_10)).trans (congrArg (fun z => s7_told z wd_told_10) ((cm7_begins_at _ wd_at_10 (upd wd_begins_10 wd_told_10.toNatClampNeg wd_at_10)).trans (congrArg (fun z => s7_at z wd_at_10) (ss7_begins _ wd_begins_10 (upd wd_begins_10 wd_told_10.toNatClampNeg wd_at_10))))))).trans ((cm7_sort_told _ wd_told_10 t33.2.1).trans (congrArg (fun z => s7_told z wd_told_10) ((cm7_sort_at _ wd_at_10 t33.2.1).trans (congrArg (fun z => s7_at z wd_at_10) ((cm7_sort_begins _ (upd wd_begins_10 wd_told_10.toNatClampNeg wd_at_10) t33.2.1).trans (congrArg (fun z => s7_begins z (upd wd_begins_10 wd_told_10.toNatClampNeg wd_at_10)) ((cm7_sort_power _ wd_power_10 t33.2.1).trans (congrArg (fun z => s7_power z wd_power_10) ((cm7_sort_excepts _ wd_excepts_10 t33.2.1).trans (congrArg (fun z => s7_excepts z wd_excepts_10) ((cm7_sort_body _ wd_body_10 t33.2.1).trans (congrArg (fun z => s7_body z wd_body_10) ((cm7_sort_head _ wd_head_10 t33.2.1).trans (congrArg (fun z => s7_head z wd_head_10) (ss7_sort _ wd_sort_10 t33.2.1))))))))))))))))).trans ((cm7_head_told _ wd_told_10 t33.2.2.1).trans (congrArg (fun z => s7_told z wd_told_10) ((cm7_head_at _ wd_at_10 t33.2.2.1).trans (congrArg (fun z => s7_at z wd_at_10) ((cm7_head_begins _ (upd wd_begins_10 wd_told_10.toNatClampNeg wd_at_10) t33.2.2.1).trans (congrArg (fun z => s7_begins z (upd wd_begins_10 wd_told_10.toNatClampNeg wd_at_10)) ((cm7_head_power _ wd_power_10 t33.2.2.1).trans (congrArg (fun z => s7_power z wd_power_10) ((cm7_head_excepts _ wd_excepts_10 t33.2.2.1).trans (congrArg (fun z => s7_excepts z wd_excepts_10) ((cm7_head_body _ wd_body_10 t33.2.2.1).trans (congrArg (fun z => s7_body z wd_body_10) (ss7_head _ wd_head_10 t33.2.2.1))))))))))))))).trans ((cm7_body_told _ wd_told_10 t33.2.2.2.1).trans (congrArg (fun z => s7_told z wd_told_10) ((cm7_body_at _ wd_at_10 t33.2.2.2.1).trans (congrArg (fun z => s7_at z wd_at_10) ((cm7_body_begins _ (upd wd_begins_10 wd_told_10.toNatClampNeg wd_at_10) t33.2.2.2.1).trans (congrArg (fun z => s7_begins z (upd wd_begins_10 wd_told_10.toNatClampNeg wd_at_10)) ((cm7_body_power _ wd_power_10 t33.2.2.2.1).trans (congrArg (fun z => s7_power z wd_power_10) ((cm7_body_excepts _ wd_excepts_10 t33.2.2.2.1).trans (congrArg (fun z => s7_excepts z wd_excepts_10) (ss7_body _ wd_body_10 t33.2.2.2.1))))))))))))).trans ((cm7_excepts_told _ wd_told_10 t33.2.2.2.2.1).trans (congrArg (fun z => s7_told z wd_told_10) ((cm7_excepts_at _ wd_at_10 t33.2.2.2.2.1).trans (congrArg (fun z => s7_at z wd_at_10) ((cm7_excepts_begins _ (upd wd_begins_10 wd_told_10.toNatClampNeg wd_at_10) t33.2.2.2.2.1).trans (congrArg (fun z => s7_begins z (upd wd_begins_10 wd_told_10.toNatClampNeg wd_at_10)) ((cm7_excepts_power _ wd_power_10 t33.2.2.2.2.1).trans (congrArg (fun z => s7_power z wd_power_10) (ss7_excepts _ wd_excepts_10 t33.2.2.2.2.1))))))))))).trans ((cm7_power_told _ wd_told_10 t33.2.2.2.2.2.1).trans (congrArg (fun z => s7_told z wd_told_10) ((cm7_power_at _ wd_at_10 t33.2.2.2.2.2.1).trans (congrArg (fun z => s7_at z wd_at_10) ((cm7_power_begins _ (upd wd_begins_10 wd_told_10.toNatClampNeg wd_at_10) t33.2.2.2.2.2.1).trans (congrArg (fun z => s7_begins z (upd wd_begins_10 wd_told_10.toNatClampNeg wd_at_10)) (ss7_power _ wd_power_10 t33.2.2.2.2.2.1))))))))).trans ((cm7_at_told _ wd_told_10 t33.2.2.2.2.2.2).trans (congrArg (fun z => s7_told z wd_told_10) (ss7_at _ wd_at_10 t33.2.2.2.2.2.2))))).trans (ss7_told _ wd_told_10 (wd_told_10 + 1)))] at hP hD
            exact hret _ _ _ _ _ _ (by subst hE; rfl) zn1 hP hS dX7_split_63
        · have hE := hE.trans (if_pos c36)
          refine lv_iconst (v := 0) hx hb dX7_split_39 (by decide) ?_
          rw [show (s7_at (s7_power (s7_excepts (s7_body (s7_head (s7_sort (s7_begins (s7_told (s7_at (s7_begins (s7_power (s7_excepts (s7_body (s7_head (s7_sort bwd wd_sort_10) wd_head_10) wd_body_10) wd_excepts_10) wd_power_10) wd_begins_10) wd_at_10) wd_told_10) (upd wd_begins_10 wd_told_10.toNatClampNeg wd_at_10)) t33.2.1) t33.2.2.1) t33.2.2.2.1) t33.2.2.2.2.1) t33.2.2.2.2.2.1) t33.2.2.2.2.2.2) = (s7_told (s7_at (s7_begins (s7_power (s7_excepts (s7_body (s7_head (s7_sort bwd t33.2.1) t33.2.2.1) t33.2.2.2.1) t33.2.2.2.2.1) t33.2.2.2.2.2.1) (upd wd_begins_10 wd_told_10.toNatClampNeg wd_at_10)) t33.2.2.2.2.2.2) wd_told_10) from ((congrArg (fun z => s7_at z t33.2.2.2.2.2.2) ((congrArg (fun z => s7_power z t33.2.2.2.2.2.1) ((congrArg (fun z => s7_excepts z t33.2.2.2.2.1) ((congrArg (fun z => s7_body z t33.2.2.2.1) ((congrArg (fun z => s7_head z t33.2.2.1) ((congrArg (fun z => s7_sort z t33.2.1) ((cm7_begins_told _ wd_told_10 (upd wd_begins_10 wd_told_10.toNatClampNeg wd_at_10)).trans (congrArg (fun z => s7_told z wd_told_10) ((cm7_begins_at _ wd_at_10 (upd wd_begins_10 wd_told_10.toNatClampNeg wd_at_10)).trans (congrArg (fun z => s7_at z wd_at_10) (ss7_begins _ wd_begins_10 (upd wd_begins_10 wd_told_10.toNatClampNeg wd_at_10))))))).trans ((cm7_sort_told _ wd_told_10 t33.2.1).trans (congrArg (fun z => s7_told z wd_told_10) ((cm7_sort_at _ wd_at_10 t33.2.1).trans (congrArg (fun z => s7_at z wd_at_10) ((cm7_sort_begins _ (upd wd_begins_10 wd_told_10.toNatClampNeg wd_at_10) t33.2.1).trans (congrArg (fun z => s7_begins z (upd wd_begins_10 wd_told_10.toNatClampNeg wd_at_10)) ((cm7_sort_power _ wd_power_10 t33.2.1).trans (congrArg (fun z => s7_power z wd_power_10) ((cm7_sort_excepts _ wd_excepts_10 t33.2.1).trans (congrArg (fun z => s7_excepts z wd_excepts_10) ((cm7_sort_body _ wd_body_10 t33.2.1).trans (congrArg (fun z => s7_body z wd_body_10) ((cm7_sort_head _ wd_head_10 t33.2.1).trans (congrArg (fun z => s7_head z wd_head_10) (ss7_sort _ wd_sort_10 t33.2.1))))))))))))))))).trans ((cm7_head_told _ wd_told_10 t33.2.2.1).trans (congrArg (fun z => s7_told z wd_told_10) ((cm7_head_at _ wd_at_10 t33.2.2.1).trans (congrArg (fun z => s7_at z wd_at_10) ((cm7_head_begins _ (upd wd_begins_10 wd_told_10.toNatClampNeg wd_at_10) t33.2.2.1).trans (congrArg (fun z => s7_begins z (upd wd_begins_10 wd_told_10.toNatClampNeg wd_at_10)) ((cm7_head_power _ wd_power_10 t33.2.2.1).trans (congrArg (fun z => s7_power z wd_power_10) ((cm7_head_excepts _ wd_excepts_10 t33.2.2.1).trans (congrArg (fun z => s7_excepts z wd_excepts_10) ((cm7_head_body _ wd_body_10 t33.2.2.1).trans (congrArg (fun z => s7_body z wd_body_10) (ss7_head _ wd_head_10 t33.2.2.1))))))))))))))).trans ((cm7_body_told _ wd_told_10 t33.2.2.2.1).trans (congrArg (fun z => s7_told z wd_told_10) ((cm7_body_at _ wd_at_10 t33.2.2.2.1).trans (congrArg (fun z => s7_at z wd_at_10) ((cm7_body_begins _ (upd wd_begins_10 wd_told_10.toNatClampNeg wd_at_10) t33.2.2.2.1).trans (congrArg (fun z => s7_begins z (upd wd_begins_10 wd_told_10.toNatClampNeg wd_at_10)) ((cm7_body_power _ wd_power_10 t33.2.2.2.1).trans (congrArg (fun z => s7_power z wd_power_10) ((cm7_body_excepts _ wd_excepts_10 t33.2.2.2.1).trans (congrArg (fun z => s7_excepts z wd_excepts_10) (ss7_body _ wd_body_10 t33.2.2.2.1))))))))))))).trans ((cm7_excepts_told _ wd_told_10 t33.2.2.2.2.1).trans (congrArg (fun z => s7_told z wd_told_10) ((cm7_excepts_at _ wd_at_10 t33.2.2.2.2.1).trans (congrArg (fun z => s7_at z wd_at_10) ((cm7_excepts_begins _ (upd wd_begins_10 wd_told_10.toNatClampNeg wd_at_10) t33.2.2.2.2.1).trans (congrArg (fun z => s7_begins z (upd wd_begins_10 wd_told_10.toNatClampNeg wd_at_10)) ((cm7_excepts_power _ wd_power_10 t33.2.2.2.2.1).trans (congrArg (fun z => s7_power z wd_power_10) (ss7_excepts _ wd_excepts_10 t33.2.2.2.2.1))))))))))).trans ((cm7_power_told _ wd_told_10 t33.2.2.2.2.2.1).trans (congrArg (fun z => s7_told z wd_told_10) ((cm7_power_at _ wd_at_10 t33.2.2.2.2.2.1).trans (congrArg (fun z => s7_at z wd_at_10) ((cm7_power_begins _ (upd wd_begins_10 wd_told_10.toNatClampNeg wd_at_10) t33.2.2.2.2.2.1).trans (congrArg (fun z => s7_begins z (upd wd_begins_10 wd_told_10.toNatClampNeg wd_at_10)) (ss7_power _ wd_power_10 t33.2.2.2.2.2.1))))))))).trans ((cm7_at_told _ wd_told_10 t33.2.2.2.2.2.2).trans (congrArg (fun z => s7_told z wd_told_10) (ss7_at _ wd_at_10 t33.2.2.2.2.2.2))))] at hP hD
          exact hret _ _ _ _ _ _ (by subst hE; rfl) zn0 hP hS dX7_split_40
  refine zp7_told (bs1 := [w7 G awd (s7_told (s7_at bwd 0) 0)]) S in_X7_split_7 hK hP hD hS 0 rfl (List.mem_of_getElem? (i := 2) rfl) dX7_split_7 rfl (fun H locs hP hD hS => ?_)
  have hz_wd_told_7 : ∃ N : Nat, N ≤ 60 ∧ 0 = nI N := ⟨0, by omega, rfl⟩
  rw [show (s7_told (s7_at bwd 0) 0) = (s7_told (s7_at (s7_begins (s7_power (s7_excepts (s7_body (s7_head (s7_sort bwd (g7_sort bwd)) (g7_head bwd)) (g7_body bwd)) (g7_excepts bwd)) (g7_power bwd)) (g7_begins bwd)) 0) 0) from ((((((congrArg (fun z => s7_told z 0) (congrArg (fun z => s7_at z 0) ((se7_sort _).symm))).trans (congrArg (fun z => s7_told z 0) (congrArg (fun z => s7_at z 0) (((se7_head _).symm).trans (congrArg (fun v => s7_head (s7_sort bwd (g7_sort bwd)) v) (gs7_head_sort _ (g7_sort bwd))))))).trans (congrArg (fun z => s7_told z 0) (congrArg (fun z => s7_at z 0) (((se7_body _).symm).trans (congrArg (fun v => s7_body (s7_head (s7_sort bwd (g7_sort bwd)) (g7_head bwd)) v) ((gs7_body_head _ (g7_head bwd)).trans (gs7_body_sort _ (g7_sort bwd)))))))).trans (congrArg (fun z => s7_told z 0) (congrArg (fun z => s7_at z 0) (((se7_excepts _).symm).trans (congrArg (fun v => s7_excepts (s7_body (s7_head (s7_sort bwd (g7_sort bwd)) (g7_head bwd)) (g7_body bwd)) v) ((gs7_excepts_body _ (g7_body bwd)).trans ((gs7_excepts_head _ (g7_head bwd)).trans (gs7_excepts_sort _ (g7_sort bwd))))))))).trans (congrArg (fun z => s7_told z 0) (congrArg (fun z => s7_at z 0) (((se7_power _).symm).trans (congrArg (fun v => s7_power (s7_excepts (s7_body (s7_head (s7_sort bwd (g7_sort bwd)) (g7_head bwd)) (g7_body bwd)) (g7_excepts bwd)) v) ((gs7_power_excepts _ (g7_excepts bwd)).trans ((gs7_power_body _ (g7_body bwd)).trans ((gs7_power_head _ (g7_head bwd)).trans (gs7_power_sort _ (g7_sort bwd)))))))))).trans (congrArg (fun z => s7_told z 0) (congrArg (fun z => s7_at z 0) (((se7_begins _).symm).trans (congrArg (fun v => s7_begins (s7_power (s7_excepts (s7_body (s7_head (s7_sort bwd (g7_sort bwd)) (g7_head bwd)) (g7_body bwd)) (g7_excepts bwd)) (g7_power bwd)) v) ((gs7_begins_power _ (g7_power bwd)).trans ((gs7_begins_excepts _ (g7_excepts bwd)).trans ((gs7_begins_body _ (g7_body bwd)).trans ((gs7_begins_head _ (g7_head bwd)).trans (gs7_begins_sort _ (g7_sort bwd)))))))))))] at hP hD
  exact hB10 61 (g7_sort bwd) (g7_head bwd) (g7_body bwd) (g7_excepts bwd) (g7_power bwd) (g7_begins bwd) 0 0 _ _ _ (by exact hw_wd_at_2) (by exact hz_wd_told_7) (by exact ⟨0, by omega, rfl, by omega⟩) hE hP hD hS (lv_sub hl [0] rfl)

theorem zsplit10 {wd_tape : Nat → Int32} {wd_sort : Nat → Int32} {wd_head : Nat → Int32} {wd_body : Nat → Int32} {wd_excepts : Nat → Int32} {wd_power : Nat → Int32} {wd_begins : Nat → Int32} {wd_length : Int32} {wd_at : Int32} {wd_told : Int32} : ∀ (n : Nat) (wd_sort_10 : Nat → Int32) (wd_head_10 : Nat → Int32) (wd_body_10 : Nat → Int32) (wd_excepts_10 : Nat → Int32) (wd_power_10 : Nat → Int32) (wd_begins_10 : Nat → Int32) (wd_at_10 : Int32) (wd_told_10 : Int32), (∃ N : Nat, N ≤ 60 ∧ wd_told_10 = nI N) → ∃ N : Nat, N ≤ 60 ∧ (FX7_split_10 wd_tape wd_sort wd_head wd_body wd_excepts wd_power wd_begins wd_length wd_at wd_told (FX7_split_75 wd_tape wd_sort wd_head wd_body wd_excepts wd_power wd_begins wd_length wd_at wd_told) n wd_sort_10 wd_head_10 wd_body_10 wd_excepts_10 wd_power_10 wd_begins_10 wd_at_10 wd_told_10).2.2.2.2.2.2.2.2 = nI N
  | 0, wd_sort_10, wd_head_10, wd_body_10, wd_excepts_10, wd_power_10, wd_begins_10, wd_at_10, wd_told_10, h => h
  | n + 1, wd_sort_10, wd_head_10, wd_body_10, wd_excepts_10, wd_power_10, wd_begins_10, wd_at_10, wd_told_10, h => by
    rw [FX7_split_10]
    simp only [bndy]
    split
    · exact h
    · have h2 := znext h rfl (by decide) (by assumption)
      repeat' split
      all_goals first | with_reducible exact h | with_reducible exact h2 | with_reducible exact zsplit10 n _ _ _ _ _ _ _ _ h2 | exact h | exact h2 | exact zsplit10 n _ _ _ _ _ _ _ _ h2
theorem zsplit_told {wd_tape : Nat → Int32} {wd_sort : Nat → Int32} {wd_head : Nat → Int32} {wd_body : Nat → Int32} {wd_excepts : Nat → Int32} {wd_power : Nat → Int32} {wd_begins : Nat → Int32} {wd_length : Int32} {wd_at : Int32} {wd_told : Int32} : ∃ N : Nat, N ≤ 60 ∧ (FX7_split wd_tape wd_sort wd_head wd_body wd_excepts wd_power wd_begins wd_length wd_at wd_told).2.2.2.2.2.2.2.2 = nI N := zsplit10 _ _ _ _ _ _ _ _ _ ⟨0, by omega, rfl⟩

theorem in_X7_tellFact_0 : ∀ w ∈ u_ws RX0 TX0 9, w ∈ wsX7_tellFact := by decide +kernel
def rmX7_tellFact : Room := { frames := 1, cells := 0, slots := 0, locals := 21 }
set_option maxHeartbeats 4000000 in
set_option maxRecDepth 100000 in
theorem c_X7_tellFact (l : Launch) (G : zG) (awd : Nat → Nat) (ac : Nat → Nat) (bwd : S7) (bc : S0) (x1 : Int32) (T : Int32 × (Int32)) (hT : FX7_tellFact (g0_facts bc) x1 = T) : zI l yX7_tellFact wsX7_tellFact rmX7_tellFact .boolean G [.ref (awd 0), .int x1, .ref (ac 0)] [w7 G awd bwd, w0 G ac bc] T.1 [w7 G awd bwd, w0 G ac (s0_facts bc T.2)] := by
  refine zI.mk (cc := cX7_tellFact) (maxL := 3) (by decide +kernel) rfl (Nat.le_of_ble_eq_true rfl) (zfl_cons rfl (zfl_cons (wf0 _ _ _ _) rfl)) ?_
  intro p e s m args below meth c Q A ls S hK hD hA hP hl hret
  have hx := S.1
  have hb := S.2.1
  have hS : va_S A s.heap s.heap [] := va_S.rf
  have hl : lv_has ls 3 [(0, .ref (awd 0)), (1, .int x1), (2, .ref (ac 0))] := hl
  have hE := hT.symm.trans (FX7_tellFact.eq_1 _ _)
  refine lv_aload_n hx hb dX7_tellFact_0 rfl (lv_at hl 2 rfl) ?_
  refine zg0_facts S in_X7_tellFact_0 hK hP 1 rfl (List.mem_of_getElem? (i := 1) rfl) (v := (g0_facts bc)) rfl dX7_tellFact_1 ?_
  refine lv_iload_n hx hb dX7_tellFact_4 rfl (lv_at hl 1 rfl) ?_
  obtain ⟨t5, ht5⟩ : ∃ z, FX8_has (g0_facts bc) x1 = z := ⟨_, rfl⟩
  have hE := hE.trans (bnd_eq ht5)
  have hc := c_X8_has l G (g0_facts bc) x1 _ ht5
  refine zgoR (va_runSN (As := [.int (g0_facts bc), .int x1]) (rest := []) S (hc _) ⟨va_cnB (host := "RuleCourt") 2 S.2.2.2.2 gX7_tellFact_X8_has_n105 rfl rfl rfl (hK.2 _ (List.mem_of_getElem? (i := 10) rfl)) (S.2.2.2.2 _ (List.mem_of_getElem? (i := 3) rfl)) (by decide +kernel) ⟨Nat.le_of_ble_eq_true rfl, Nat.le_of_ble_eq_true rfl⟩, S.2.2.2.2 _ (List.mem_of_getElem? (i := 2) rfl), trivial⟩ (zpS hK hP hD (is := []) rfl rfl) rfl rfl hl.1 rfl (lv_room (Nat.le_of_ble_eq_true rfl)) dX7_tellFact_5 ⟨Nat.zero_le _, Nat.zero_le _⟩) (fun hn5 => ?_)
  refine lv_if_eq (tgt := 13) hx hb dX7_tellFact_8 (by decide) (fun c8 => ?_) (fun c8 => ?_)
  · have hE := hE.trans (if_pos c8)
    refine lv_aload_n hx hb dX7_tellFact_13 rfl (lv_at hl 2 rfl) ?_
    refine lv_dup hx hb dX7_tellFact_14 rfl ?_
    refine zg0_facts S in_X7_tellFact_0 hK hP 1 rfl (List.mem_of_getElem? (i := 1) rfl) (v := (g0_facts bc)) rfl dX7_tellFact_15 ?_
    refine lv_iconst (v := 1) hx hb dX7_tellFact_18 (by decide) ?_
    refine lv_iload_n hx hb dX7_tellFact_19 rfl (lv_at hl 1 rfl) ?_
    refine lv_ishl hx hb dX7_tellFact_20 ?_
    refine lv_ior hx hb dX7_tellFact_21 ?_
    refine zp0_facts (bs1 := [w7 G awd bwd, w0 G ac (s0_facts bc ((g0_facts bc) ||| (1 <<< (x1 &&& 31))))]) S in_X7_tellFact_0 hK hP hD hS 1 rfl (List.mem_of_getElem? (i := 1) rfl) dX7_tellFact_22 rfl (fun H locs hP hD hS => ?_)
    refine lv_iconst (v := 1) hx hb dX7_tellFact_25 (by decide) ?_
    exact hret _ _ _ _ _ _ (by subst hE; rfl) zn1 hP hS dX7_tellFact_26
  · have hE := hE.trans (if_neg c8)
    refine lv_iconst (v := 0) hx hb dX7_tellFact_11 (by decide) ?_
    rw [show bc = (s0_facts bc (g0_facts bc)) from ((se0_facts _).symm)] at hP hD
    exact hret _ _ _ _ _ _ (by subst hE; rfl) zn0 hP hS dX7_tellFact_12

theorem in_X7_tellPair_0 : ∀ w ∈ u_ws RX0 TX0 9, w ∈ wsX7_tellPair := by decide +kernel
def rmX7_tellPair : Room := { frames := 2, cells := 0, slots := 0, locals := 43 }
set_option maxHeartbeats 4000000 in
set_option maxRecDepth 100000 in
theorem c_X7_tellPair (l : Launch) (G : zG) (awd : Nat → Nat) (ac : Nat → Nat) (bwd : S7) (bc : S0) (x1 : Int32) (x2 : Int32) (hz_c_size : ∃ N : Nat, N ≤ 16 ∧ g0_size bc = nI N) (T : Int32 × (Nat → Int32)) (hT : FX7_tellPair (g0_beats bc) (g0_size bc) x1 x2 = T) : zI l yX7_tellPair wsX7_tellPair rmX7_tellPair .boolean G [.ref (awd 0), .int x1, .int x2, .ref (ac 0)] [w7 G awd bwd, w0 G ac bc] T.1 [w7 G awd bwd, w0 G ac (s0_beats bc T.2)] := by
  refine zI.mk (cc := cX7_tellPair) (maxL := 4) (by decide +kernel) rfl (Nat.le_of_ble_eq_true rfl) (zfl_cons rfl (zfl_cons (wf0 _ _ _ _) rfl)) ?_
  intro p e s m args below meth c Q A ls S hK hD hA hP hl hret
  have hx := S.1
  have hb := S.2.1
  have hS : va_S A s.heap s.heap [] := va_S.rf
  have hl : lv_has ls 4 [(0, .ref (awd 0)), (1, .int x1), (2, .int x2), (3, .ref (ac 0))] := hl
  have hE := hT.symm.trans (FX7_tellPair.eq_1 _ _ _ _)
  refine lv_aload_n hx hb dX7_tellPair_0 rfl (lv_at hl 3 rfl) ?_
  refine lv_iload_n hx hb dX7_tellPair_1 rfl (lv_at hl 1 rfl) ?_
  obtain ⟨t2, ht2⟩ : ∃ z, FX0_hasRule (g0_size bc) x1 = z := ⟨_, rfl⟩
  have hE := hE.trans (bnd_eq ht2)
  have hc := c_X0_hasRule l G ac bc x1 _ ht2
  refine zgoR (va_runV (As := [.int x1]) (rest := []) S (hc _) (cwV 1 S.2.2.2.2 gX7_tellPair_X0_hasRule rfl rfl rfl (by decide +kernel) ⟨Nat.le_of_ble_eq_true rfl, Nat.le_of_ble_eq_true rfl⟩) (zpV hK hP hD (is := [1]) rfl rfl 1 rfl rfl (ci := 0) rfl) rfl rfl hl.1 rfl (lv_room (Nat.le_of_ble_eq_true rfl)) dX7_tellPair_2 ⟨Nat.zero_le _, Nat.zero_le _⟩) (fun hn2 => ?_)
  refine lv_if_eq (tgt := 30) hx hb dX7_tellPair_5 (by decide) (fun c5 => ?_) (fun c5 => ?_)
  · have hE := hE.trans (if_pos c5)
    refine lv_iconst (v := 0) hx hb dX7_tellPair_30 (by decide) ?_
    rw [show bc = (s0_beats bc (g0_beats bc)) from ((se0_beats _).symm)] at hP hD
    exact hret _ _ _ _ _ _ (by subst hE; rfl) zn0 hP hS dX7_tellPair_31
  · have hE := hE.trans (if_neg c5)
    have hx1_16 : vp_in x1 16 := zhasRule hz_c_size (by rw [ht2]; exact c5)
    refine lv_aload_n hx hb dX7_tellPair_8 rfl (lv_at hl 3 rfl) ?_
    refine lv_iload_n hx hb dX7_tellPair_9 rfl (lv_at hl 2 rfl) ?_
    obtain ⟨t10, ht10⟩ : ∃ z, FX0_hasRule (g0_size bc) x2 = z := ⟨_, rfl⟩
    have hE := hE.trans (bnd_eq ht10)
    have hc := c_X0_hasRule l G ac bc x2 _ ht10
    refine zgoR (va_runV (As := [.int x2]) (rest := []) S (hc _) (cwV 1 S.2.2.2.2 gX7_tellPair_X0_hasRule rfl rfl rfl (by decide +kernel) ⟨Nat.le_of_ble_eq_true rfl, Nat.le_of_ble_eq_true rfl⟩) (zpV hK hP hD (is := [1]) rfl rfl 1 rfl rfl (ci := 0) rfl) rfl rfl hl.1 rfl (lv_room (Nat.le_of_ble_eq_true rfl)) dX7_tellPair_10 ⟨Nat.zero_le _, Nat.zero_le _⟩) (fun hn10 => ?_)
    refine lv_if_eq (tgt := 30) hx hb dX7_tellPair_13 (by decide) (fun c13 => ?_) (fun c13 => ?_)
    · have hE := hE.trans (if_pos c13)
      refine lv_iconst (v := 0) hx hb dX7_tellPair_30 (by decide) ?_
      rw [show bc = (s0_beats bc (g0_beats bc)) from ((se0_beats _).symm)] at hP hD
      exact hret _ _ _ _ _ _ (by subst hE; rfl) zn0 hP hS dX7_tellPair_31
    · have hE := hE.trans (if_neg c13)
      have hx2_16 : vp_in x2 16 := zhasRule hz_c_size (by rw [ht10]; exact c13)
      refine lv_iload_n hx hb dX7_tellPair_16 rfl (lv_at hl 1 rfl) ?_
      refine lv_iload_n hx hb dX7_tellPair_17 rfl (lv_at hl 2 rfl) ?_
      refine lv_icmp_eq (tgt := 30) hx hb dX7_tellPair_18 (by decide) (fun c18 => ?_) (fun c18 => ?_)
      · have hE := hE.trans (if_pos c18)
        refine lv_iconst (v := 0) hx hb dX7_tellPair_30 (by decide) ?_
        rw [show bc = (s0_beats bc (g0_beats bc)) from ((se0_beats _).symm)] at hP hD
        exact hret _ _ _ _ _ _ (by subst hE; rfl) zn0 hP hS dX7_tellPair_31
      · have hE := hE.trans (if_neg c18)
        refine lv_aload_n hx hb dX7_tellPair_21 rfl (lv_at hl 3 rfl) ?_
        refine lv_iload_n hx hb dX7_tellPair_22 rfl (lv_at hl 1 rfl) ?_
        refine lv_iload_n hx hb dX7_tellPair_23 rfl (lv_at hl 2 rfl) ?_
        obtain ⟨t24, ht24⟩ : ∃ z, FX0_isTold (g0_beats bc) x1 x2 = z := ⟨_, rfl⟩
        have hE := hE.trans (bnd_eq ht24)
        have hc := c_X0_isTold l G ac bc x1 x2 (hx1_16) (hx2_16) _ ht24
        refine zgoR (va_runV (As := [.int x1, .int x2]) (rest := []) S (hc _) (cwV 2 S.2.2.2.2 gX7_tellPair_X0_isTold rfl rfl rfl (by decide +kernel) ⟨Nat.le_of_ble_eq_true rfl, Nat.le_of_ble_eq_true rfl⟩) (zpV hK hP hD (is := [1]) rfl rfl 1 rfl rfl (ci := 0) rfl) rfl rfl hl.1 rfl (lv_room (Nat.le_of_ble_eq_true rfl)) dX7_tellPair_24 ⟨Nat.zero_le _, Nat.zero_le _⟩) (fun hn24 => ?_)
        refine lv_if_eq (tgt := 32) hx hb dX7_tellPair_27 (by decide) (fun c27 => ?_) (fun c27 => ?_)
        · have hE := hE.trans (if_pos c27)
          refine lv_aload_n hx hb dX7_tellPair_32 rfl (lv_at hl 3 rfl) ?_
          refine zg0_beats S in_X7_tellPair_0 hK hP 1 rfl (List.mem_of_getElem? (i := 1) rfl) dX7_tellPair_33 ?_
          refine lv_iload_n hx hb dX7_tellPair_36 rfl (lv_at hl 1 rfl) ?_
          refine lv_dup2_11 hx hb dX7_tellPair_37 rfl rfl ?_
          refine zl0_beats S hK hP 1 rfl hx1_16 (f := (g0_beats bc)) rfl dX7_tellPair_38 ?_
          refine lv_iconst (v := 1) hx hb dX7_tellPair_39 (by decide) ?_
          refine lv_iload_n hx hb dX7_tellPair_40 rfl (lv_at hl 2 rfl) ?_
          refine lv_ishl hx hb dX7_tellPair_41 ?_
          refine lv_ior hx hb dX7_tellPair_42 ?_
          refine zs0_beats (bs1 := [w7 G awd bwd, w0 G ac (s0_beats bc (upd (g0_beats bc) x1.toNatClampNeg (((g0_beats bc) x1.toNatClampNeg) ||| (1 <<< (x2 &&& 31)))))]) S hK hP hD hS 1 rfl hx1_16 (f := (g0_beats bc)) rfl dX7_tellPair_43 rfl (fun H locs hP hD hS => ?_)
          refine lv_iconst (v := 1) hx hb dX7_tellPair_44 (by decide) ?_
          exact hret _ _ _ _ _ _ (by subst hE; rfl) zn1 hP hS dX7_tellPair_45
        · have hE := hE.trans (if_neg c27)
          refine lv_iconst (v := 0) hx hb dX7_tellPair_30 (by decide) ?_
          rw [show bc = (s0_beats bc (g0_beats bc)) from ((se0_beats _).symm)] at hP hD
          exact hret _ _ _ _ _ _ (by subst hE; rfl) zn0 hP hS dX7_tellPair_31

theorem in_X7_tellRule_7 : ∀ w ∈ u_ws RX7 TX7 10, w ∈ wsX7_tellRule := by decide +kernel
def rmX7_tellRule : Room := { frames := 1, cells := 0, slots := 0, locals := 25 }
set_option maxHeartbeats 4000000 in
set_option maxRecDepth 100000 in
theorem c_X7_tellRule (l : Launch) (G : zG) (awd : Nat → Nat) (ac : Nat → Nat) (bwd : S7) (bc : S0) (x1 : Int32) (hz_c_size : ∃ N : Nat, N ≤ 16 ∧ g0_size bc = nI N) (hx1_60 : vp_in x1 60) (T : Int32 × (Nat → Int32) × (Nat → Int32) × (Nat → Int32) × (Nat → Int32) × (Nat → Int32) × (Nat → Int32) × (Int32)) (hT : FX7_tellRule (g7_sort bwd) (g7_head bwd) (g7_body bwd) (g7_excepts bwd) (g7_power bwd) (g0_kind bc) (g0_head bc) (g0_body bc) (g0_excepts bc) (g0_power bc) (g0_beats bc) (g0_size bc) x1 = T) : zI l yX7_tellRule wsX7_tellRule rmX7_tellRule .boolean G [.ref (awd 0), .int x1, .ref (ac 0)] [w7 G awd bwd, w0 G ac bc] T.1 [w7 G awd bwd, w0 G ac (s0_size (s0_beats (s0_power (s0_excepts (s0_body (s0_head (s0_kind bc T.2.1) T.2.2.1) T.2.2.2.1) T.2.2.2.2.1) T.2.2.2.2.2.1) T.2.2.2.2.2.2.1) T.2.2.2.2.2.2.2)] := by
  refine zI.mk (cc := cX7_tellRule) (maxL := 3) (by decide +kernel) rfl (Nat.le_of_ble_eq_true rfl) (zfl_cons rfl (zfl_cons (wf0 _ _ _ _) rfl)) ?_
  intro p e s m args below meth c Q A ls S hK hD hA hP hl hret
  have hx := S.1
  have hb := S.2.1
  have hS : va_S A s.heap s.heap [] := va_S.rf
  have hl : lv_has ls 3 [(0, .ref (awd 0)), (1, .int x1), (2, .ref (ac 0))] := hl
  have hE := hT.symm.trans (FX7_tellRule.eq_1 _ _ _ _ _ _ _ _ _ _ _ _ _)
  refine lv_aload_n hx hb dX7_tellRule_0 rfl (lv_at hl 0 rfl) ?_
  refine zg7_sort S in_X7_tellRule_7 hK hP 0 rfl (List.mem_of_getElem? (i := 1) rfl) dX7_tellRule_1 ?_
  refine lv_iload_n hx hb dX7_tellRule_4 rfl (lv_at hl 1 rfl) ?_
  refine zl7_sort S hK hP 0 rfl hx1_60 (f := (g7_sort bwd)) rfl dX7_tellRule_5 ?_
  have hB20 : ∀ (H : Heap) (locs : List Loc) (ls : Array Slot), T = FX7_tellRule_20 (g7_sort bwd) (g7_head bwd) (g7_body bwd) (g7_excepts bwd) (g7_power bwd) (g0_kind bc) (g0_head bc) (g0_body bc) (g0_excepts bc) (g0_power bc) (g0_beats bc) (g0_size bc) x1 (g0_kind bc) (g0_head bc) (g0_body bc) (g0_excepts bc) (g0_power bc) (g0_beats bc) (g0_size bc) → zP G [w7 G awd bwd, w0 G ac bc] H → zD A [w7 G awd bwd, w0 G ac bc] → va_S A s.heap H locs → lv_has ls 3 [(0, .ref (awd 0)), (1, .int x1), (2, .ref (ac 0))] → W p l e rmX7_tellRule s m args below meth c H locs 0 0 Q (F0 m 20 ls []) := by
    intro H locs ls hE hP hD hS hl
    have hE := hE.trans (FX7_tellRule_20.eq_1 _ _ _ _ _ _ _ _ _ _ _ _ _ _ _ _ _ _ _ _)
    refine lv_aload_n hx hb dX7_tellRule_20 rfl (lv_at hl 2 rfl) ?_
    refine lv_aload_n hx hb dX7_tellRule_21 rfl (lv_at hl 0 rfl) ?_
    refine zg7_sort S in_X7_tellRule_7 hK hP 0 rfl (List.mem_of_getElem? (i := 1) rfl) dX7_tellRule_22 ?_
    refine lv_iload_n hx hb dX7_tellRule_25 rfl (lv_at hl 1 rfl) ?_
    refine zl7_sort S hK hP 0 rfl hx1_60 (f := (g7_sort bwd)) rfl dX7_tellRule_26 ?_
    refine lv_aload_n hx hb dX7_tellRule_27 rfl (lv_at hl 0 rfl) ?_
    refine zg7_head S in_X7_tellRule_7 hK hP 0 rfl (List.mem_of_getElem? (i := 3) rfl) dX7_tellRule_28 ?_
    refine lv_iload_n hx hb dX7_tellRule_31 rfl (lv_at hl 1 rfl) ?_
    refine zl7_head S hK hP 0 rfl hx1_60 (f := (g7_head bwd)) rfl dX7_tellRule_32 ?_
    refine lv_aload_n hx hb dX7_tellRule_33 rfl (lv_at hl 0 rfl) ?_
    refine zg7_body S in_X7_tellRule_7 hK hP 0 rfl (List.mem_of_getElem? (i := 4) rfl) dX7_tellRule_34 ?_
    refine lv_iload_n hx hb dX7_tellRule_37 rfl (lv_at hl 1 rfl) ?_
    refine zl7_body S hK hP 0 rfl hx1_60 (f := (g7_body bwd)) rfl dX7_tellRule_38 ?_
    refine lv_aload_n hx hb dX7_tellRule_39 rfl (lv_at hl 0 rfl) ?_
    refine zg7_excepts S in_X7_tellRule_7 hK hP 0 rfl (List.mem_of_getElem? (i := 2) rfl) dX7_tellRule_40 ?_
    refine lv_iload_n hx hb dX7_tellRule_43 rfl (lv_at hl 1 rfl) ?_
    refine zl7_excepts S hK hP 0 rfl hx1_60 (f := (g7_excepts bwd)) rfl dX7_tellRule_44 ?_
    refine lv_aload_n hx hb dX7_tellRule_45 rfl (lv_at hl 0 rfl) ?_
    refine zg7_power S in_X7_tellRule_7 hK hP 0 rfl (List.mem_of_getElem? (i := 5) rfl) dX7_tellRule_46 ?_
    refine lv_iload_n hx hb dX7_tellRule_49 rfl (lv_at hl 1 rfl) ?_
    refine zl7_power S hK hP 0 rfl hx1_60 (f := (g7_power bwd)) rfl dX7_tellRule_50 ?_
    obtain ⟨t51, ht51⟩ : ∃ z, FX0_add (g0_kind bc) (g0_head bc) (g0_body bc) (g0_excepts bc) (g0_power bc) (g0_beats bc) (g0_size bc) ((g7_sort bwd) x1.toNatClampNeg) ((g7_head bwd) x1.toNatClampNeg) ((g7_body bwd) x1.toNatClampNeg) ((g7_excepts bwd) x1.toNatClampNeg) ((g7_power bwd) x1.toNatClampNeg) = z := ⟨_, rfl⟩
    have hE := hE.trans (bnd_eq ht51)
    have hc := c_X0_add l G ac bc ((g7_sort bwd) x1.toNatClampNeg) ((g7_head bwd) x1.toNatClampNeg) ((g7_body bwd) x1.toNatClampNeg) ((g7_excepts bwd) x1.toNatClampNeg) ((g7_power bwd) x1.toNatClampNeg) (hz_c_size) _ ht51
    refine zgoI (bs' := [w7 G awd bwd, w0 G ac (s0_size (s0_beats (s0_power (s0_excepts (s0_body (s0_head (s0_kind bc t51.2.1) t51.2.2.1) t51.2.2.2.1) t51.2.2.2.2.1) t51.2.2.2.2.2.1) t51.2.2.2.2.2.2.1) t51.2.2.2.2.2.2.2)]) hc [1] rfl rfl rfl hP hD hS hA (va_runV (As := [.int ((g7_sort bwd) x1.toNatClampNeg), .int ((g7_head bwd) x1.toNatClampNeg), .int ((g7_body bwd) x1.toNatClampNeg), .int ((g7_excepts bwd) x1.toNatClampNeg), .int ((g7_power bwd) x1.toNatClampNeg)]) (rest := []) S (hc.2 _) (cwV 5 S.2.2.2.2 gX7_tellRule_X0_add rfl rfl rfl (by decide +kernel) ⟨Nat.le_of_ble_eq_true rfl, Nat.le_of_ble_eq_true rfl⟩) (zpV hK hP hD (is := [1]) rfl rfl 1 rfl rfl (ci := 0) rfl) rfl rfl hl.1 rfl (lv_room (Nat.le_of_ble_eq_true rfl)) dX7_tellRule_51 ⟨Nat.zero_le _, Nat.zero_le _⟩) (fun H locs hn51 hP hD hS => ?_)
    exact hret _ _ _ _ _ _ (by subst hE; rfl) hn51 hP hS dX7_tellRule_54
  refine lv_if_ne (tgt := 20) hx hb dX7_tellRule_6 (by decide) (fun c6 => ?_) (fun c6 => ?_)
  · have hE := hE.trans (if_neg c6)
    exact hB20 _ _ _ hE hP hD hS (lv_sub hl [0, 1, 2] rfl)
  · have hE := hE.trans (if_pos c6)
    refine lv_aload_n hx hb dX7_tellRule_9 rfl (lv_at hl 0 rfl) ?_
    refine zg7_excepts S in_X7_tellRule_7 hK hP 0 rfl (List.mem_of_getElem? (i := 2) rfl) dX7_tellRule_10 ?_
    refine lv_iload_n hx hb dX7_tellRule_13 rfl (lv_at hl 1 rfl) ?_
    refine zl7_excepts S hK hP 0 rfl hx1_60 (f := (g7_excepts bwd)) rfl dX7_tellRule_14 ?_
    refine lv_if_eq (tgt := 20) hx hb dX7_tellRule_15 (by decide) (fun c15 => ?_) (fun c15 => ?_)
    · have hE := hE.trans (if_pos c15)
      exact hB20 _ _ _ hE hP hD hS (lv_sub hl [0, 1, 2] rfl)
    · have hE := hE.trans (if_neg c15)
      refine lv_iconst (v := 0) hx hb dX7_tellRule_18 (by decide) ?_
      rw [show bc = (s0_size (s0_beats (s0_power (s0_excepts (s0_body (s0_head (s0_kind bc (g0_kind bc)) (g0_head bc)) (g0_body bc)) (g0_excepts bc)) (g0_power bc)) (g0_beats bc)) (g0_size bc)) from ((((((((se0_kind _).symm).trans (((se0_head _).symm).trans (congrArg (fun v => s0_head (s0_kind bc (g0_kind bc)) v) (gs0_head_kind _ (g0_kind bc))))).trans (((se0_body _).symm).trans (congrArg (fun v => s0_body (s0_head (s0_kind bc (g0_kind bc)) (g0_head bc)) v) ((gs0_body_head _ (g0_head bc)).trans (gs0_body_kind _ (g0_kind bc)))))).trans (((se0_excepts _).symm).trans (congrArg (fun v => s0_excepts (s0_body (s0_head (s0_kind bc (g0_kind bc)) (g0_head bc)) (g0_body bc)) v) ((gs0_excepts_body _ (g0_body bc)).trans ((gs0_excepts_head _ (g0_head bc)).trans (gs0_excepts_kind _ (g0_kind bc))))))).trans (((se0_power _).symm).trans (congrArg (fun v => s0_power (s0_excepts (s0_body (s0_head (s0_kind bc (g0_kind bc)) (g0_head bc)) (g0_body bc)) (g0_excepts bc)) v) ((gs0_power_excepts _ (g0_excepts bc)).trans ((gs0_power_body _ (g0_body bc)).trans ((gs0_power_head _ (g0_head bc)).trans (gs0_power_kind _ (g0_kind bc)))))))).trans (((se0_beats _).symm).trans (congrArg (fun v => s0_beats (s0_power (s0_excepts (s0_body (s0_head (s0_kind bc (g0_kind bc)) (g0_head bc)) (g0_body bc)) (g0_excepts bc)) (g0_power bc)) v) ((gs0_beats_power _ (g0_power bc)).trans ((gs0_beats_excepts _ (g0_excepts bc)).trans ((gs0_beats_body _ (g0_body bc)).trans ((gs0_beats_head _ (g0_head bc)).trans (gs0_beats_kind _ (g0_kind bc))))))))).trans (((se0_size _).symm).trans (congrArg (fun v => s0_size (s0_beats (s0_power (s0_excepts (s0_body (s0_head (s0_kind bc (g0_kind bc)) (g0_head bc)) (g0_body bc)) (g0_excepts bc)) (g0_power bc)) (g0_beats bc)) v) ((gs0_size_beats _ (g0_beats bc)).trans ((gs0_size_power _ (g0_power bc)).trans ((gs0_size_excepts _ (g0_excepts bc)).trans ((gs0_size_body _ (g0_body bc)).trans ((gs0_size_head _ (g0_head bc)).trans (gs0_size_kind _ (g0_kind bc))))))))))] at hP hD
      exact hret _ _ _ _ _ _ (by subst hE; rfl) zn0 hP hS dX7_tellRule_19

theorem in_X7_tell_7 : ∀ w ∈ u_ws RX7 TX7 10, w ∈ wsX7_tell := by decide +kernel
def rmX7_tell : Room := { frames := 3, cells := 0, slots := 0, locals := 66 }
set_option maxHeartbeats 4000000 in
set_option maxRecDepth 100000 in
theorem c_X7_tell (l : Launch) (G : zG) (awd : Nat → Nat) (ac : Nat → Nat) (bwd : S7) (bc : S0) (x1 : Int32) (hz_c_size : ∃ N : Nat, N ≤ 16 ∧ g0_size bc = nI N) (hx1_60 : vp_in x1 60) (T : Int32 × (Nat → Int32) × (Nat → Int32) × (Nat → Int32) × (Nat → Int32) × (Nat → Int32) × (Nat → Int32) × (Int32) × (Int32)) (hT : FX7_tell (g7_sort bwd) (g7_head bwd) (g7_body bwd) (g7_excepts bwd) (g7_power bwd) (g0_kind bc) (g0_head bc) (g0_body bc) (g0_excepts bc) (g0_power bc) (g0_beats bc) (g0_facts bc) (g0_size bc) x1 = T) : zI l yX7_tell wsX7_tell rmX7_tell .boolean G [.ref (awd 0), .int x1, .ref (ac 0)] [w7 G awd bwd, w0 G ac bc] T.1 [w7 G awd bwd, w0 G ac (s0_size (s0_facts (s0_beats (s0_power (s0_excepts (s0_body (s0_head (s0_kind bc T.2.1) T.2.2.1) T.2.2.2.1) T.2.2.2.2.1) T.2.2.2.2.2.1) T.2.2.2.2.2.2.1) T.2.2.2.2.2.2.2.1) T.2.2.2.2.2.2.2.2)] := by
  refine zI.mk (cc := cX7_tell) (maxL := 3) (by decide +kernel) rfl (Nat.le_of_ble_eq_true rfl) (zfl_cons rfl (zfl_cons (wf0 _ _ _ _) rfl)) ?_
  intro p e s m args below meth c Q A ls S hK hD hA hP hl hret
  have hx := S.1
  have hb := S.2.1
  have hS : va_S A s.heap s.heap [] := va_S.rf
  have hl : lv_has ls 3 [(0, .ref (awd 0)), (1, .int x1), (2, .ref (ac 0))] := hl
  have hE := hT.symm.trans (FX7_tell.eq_1 _ _ _ _ _ _ _ _ _ _ _ _ _ _)
  refine lv_aload_n hx hb dX7_tell_0 rfl (lv_at hl 0 rfl) ?_
  refine zg7_sort S in_X7_tell_7 hK hP 0 rfl (List.mem_of_getElem? (i := 1) rfl) dX7_tell_1 ?_
  refine lv_iload_n hx hb dX7_tell_4 rfl (lv_at hl 1 rfl) ?_
  refine zl7_sort S hK hP 0 rfl hx1_60 (f := (g7_sort bwd)) rfl dX7_tell_5 ?_
  by_cases c6_0 : ((g7_sort bwd) x1.toNatClampNeg) = 3
  · have hE := hE.trans (if_pos c6_0)
    refine lv_lookup (off := 26) (tgt := 32) hx hb dX7_tell_6 (by decide) (by rw [c6_0]; decide) (by decide) ?_
    refine lv_aload_n hx hb dX7_tell_32 rfl (lv_at hl 0 rfl) ?_
    refine lv_aload_n hx hb dX7_tell_33 rfl (lv_at hl 0 rfl) ?_
    refine zg7_head S in_X7_tell_7 hK hP 0 rfl (List.mem_of_getElem? (i := 2) rfl) dX7_tell_34 ?_
    refine lv_iload_n hx hb dX7_tell_37 rfl (lv_at hl 1 rfl) ?_
    refine zl7_head S hK hP 0 rfl hx1_60 (f := (g7_head bwd)) rfl dX7_tell_38 ?_
    refine lv_aload_n hx hb dX7_tell_39 rfl (lv_at hl 2 rfl) ?_
    obtain ⟨t40, ht40⟩ : ∃ z, FX7_tellFact (g0_facts bc) ((g7_head bwd) x1.toNatClampNeg) = z := ⟨_, rfl⟩
    have hE := hE.trans (bnd_eq ht40)
    have hc := c_X7_tellFact l G awd ac bwd bc ((g7_head bwd) x1.toNatClampNeg) _ ht40
    refine zgoI (bs' := [w7 G awd bwd, w0 G ac (s0_facts bc t40.2)]) hc [0, 1] rfl rfl rfl hP hD hS hA (va_runV (As := [.int ((g7_head bwd) x1.toNatClampNeg), .ref (ac 0)]) (rest := []) S (hc.2 _) (cwV 2 S.2.2.2.2 gX7_tell_X7_tellFact rfl rfl rfl (by decide +kernel) ⟨Nat.le_of_ble_eq_true rfl, Nat.le_of_ble_eq_true rfl⟩) (zpV hK hP hD (is := [0, 1]) rfl rfl 0 rfl rfl (ci := 7) rfl) rfl rfl hl.1 rfl (lv_room (Nat.le_of_ble_eq_true rfl)) dX7_tell_40 ⟨Nat.zero_le _, Nat.zero_le _⟩) (fun H locs hn40 hP hD hS => ?_)
    rw [show (s0_facts bc t40.2) = (s0_size (s0_facts (s0_beats (s0_power (s0_excepts (s0_body (s0_head (s0_kind bc (g0_kind bc)) (g0_head bc)) (g0_body bc)) (g0_excepts bc)) (g0_power bc)) (g0_beats bc)) t40.2) (g0_size bc)) from (((((((congrArg (fun z => s0_facts z t40.2) ((se0_kind _).symm)).trans (congrArg (fun z => s0_facts z t40.2) (((se0_head _).symm).trans (congrArg (fun v => s0_head (s0_kind bc (g0_kind bc)) v) (gs0_head_kind _ (g0_kind bc)))))).trans (congrArg (fun z => s0_facts z t40.2) (((se0_body _).symm).trans (congrArg (fun v => s0_body (s0_head (s0_kind bc (g0_kind bc)) (g0_head bc)) v) ((gs0_body_head _ (g0_head bc)).trans (gs0_body_kind _ (g0_kind bc))))))).trans (congrArg (fun z => s0_facts z t40.2) (((se0_excepts _).symm).trans (congrArg (fun v => s0_excepts (s0_body (s0_head (s0_kind bc (g0_kind bc)) (g0_head bc)) (g0_body bc)) v) ((gs0_excepts_body _ (g0_body bc)).trans ((gs0_excepts_head _ (g0_head bc)).trans (gs0_excepts_kind _ (g0_kind bc)))))))).trans (congrArg (fun z => s0_facts z t40.2) (((se0_power _).symm).trans (congrArg (fun v => s0_power (s0_excepts (s0_body (s0_head (s0_kind bc (g0_kind bc)) (g0_head bc)) (g0_body bc)) (g0_excepts bc)) v) ((gs0_power_excepts _ (g0_excepts bc)).trans ((gs0_power_body _ (g0_body bc)).trans ((gs0_power_head _ (g0_head bc)).trans (gs0_power_kind _ (g0_kind bc))))))))).trans (congrArg (fun z => s0_facts z t40.2) (((se0_beats _).symm).trans (congrArg (fun v => s0_beats (s0_power (s0_excepts (s0_body (s0_head (s0_kind bc (g0_kind bc)) (g0_head bc)) (g0_body bc)) (g0_excepts bc)) (g0_power bc)) v) ((gs0_beats_power _ (g0_power bc)).trans ((gs0_beats_excepts _ (g0_excepts bc)).trans ((gs0_beats_body _ (g0_body bc)).trans ((gs0_beats_head _ (g0_head bc)).trans (gs0_beats_kind _ (g0_kind bc)))))))))).trans (((se0_size _).symm).trans (congrArg (fun v => s0_size (s0_facts (s0_beats (s0_power (s0_excepts (s0_body (s0_head (s0_kind bc (g0_kind bc)) (g0_head bc)) (g0_body bc)) (g0_excepts bc)) (g0_power bc)) (g0_beats bc)) t40.2) v) ((gs0_size_facts _ t40.2).trans ((gs0_size_beats _ (g0_beats bc)).trans ((gs0_size_power _ (g0_power bc)).trans ((gs0_size_excepts _ (g0_excepts bc)).trans ((gs0_size_body _ (g0_body bc)).trans ((gs0_size_head _ (g0_head bc)).trans (gs0_size_kind _ (g0_kind bc)))))))))))] at hP hD
    exact hret _ _ _ _ _ _ (by subst hE; rfl) hn40 hP hS dX7_tell_43
  have hE := hE.trans (if_neg c6_0)
  by_cases c6_1 : ((g7_sort bwd) x1.toNatClampNeg) = 4
  · have hE := hE.trans (if_pos c6_1)
    refine lv_lookup (off := 38) (tgt := 44) hx hb dX7_tell_6 (by decide) (by rw [c6_1]; decide) (by decide) ?_
    refine lv_aload_n hx hb dX7_tell_44 rfl (lv_at hl 0 rfl) ?_
    refine lv_aload_n hx hb dX7_tell_45 rfl (lv_at hl 0 rfl) ?_
    refine zg7_head S in_X7_tell_7 hK hP 0 rfl (List.mem_of_getElem? (i := 2) rfl) dX7_tell_46 ?_
    refine lv_iload_n hx hb dX7_tell_49 rfl (lv_at hl 1 rfl) ?_
    refine zl7_head S hK hP 0 rfl hx1_60 (f := (g7_head bwd)) rfl dX7_tell_50 ?_
    refine lv_aload_n hx hb dX7_tell_51 rfl (lv_at hl 0 rfl) ?_
    refine zg7_body S in_X7_tell_7 hK hP 0 rfl (List.mem_of_getElem? (i := 3) rfl) dX7_tell_52 ?_
    refine lv_iload_n hx hb dX7_tell_55 rfl (lv_at hl 1 rfl) ?_
    refine zl7_body S hK hP 0 rfl hx1_60 (f := (g7_body bwd)) rfl dX7_tell_56 ?_
    refine lv_aload_n hx hb dX7_tell_57 rfl (lv_at hl 2 rfl) ?_
    obtain ⟨t58, ht58⟩ : ∃ z, FX7_tellPair (g0_beats bc) (g0_size bc) ((g7_head bwd) x1.toNatClampNeg) ((g7_body bwd) x1.toNatClampNeg) = z := ⟨_, rfl⟩
    have hE := hE.trans (bnd_eq ht58)
    have hc := c_X7_tellPair l G awd ac bwd bc ((g7_head bwd) x1.toNatClampNeg) ((g7_body bwd) x1.toNatClampNeg) (hz_c_size) _ ht58
    refine zgoI (bs' := [w7 G awd bwd, w0 G ac (s0_beats bc t58.2)]) hc [0, 1] rfl rfl rfl hP hD hS hA (va_runV (As := [.int ((g7_head bwd) x1.toNatClampNeg), .int ((g7_body bwd) x1.toNatClampNeg), .ref (ac 0)]) (rest := []) S (hc.2 _) (cwV 3 S.2.2.2.2 gX7_tell_X7_tellPair rfl rfl rfl (by decide +kernel) ⟨Nat.le_of_ble_eq_true rfl, Nat.le_of_ble_eq_true rfl⟩) (zpV hK hP hD (is := [0, 1]) rfl rfl 0 rfl rfl (ci := 7) rfl) rfl rfl hl.1 rfl (lv_room (Nat.le_of_ble_eq_true rfl)) dX7_tell_58 ⟨Nat.zero_le _, Nat.zero_le _⟩) (fun H locs hn58 hP hD hS => ?_)
    rw [show (s0_beats bc t58.2) = (s0_size (s0_facts (s0_beats (s0_power (s0_excepts (s0_body (s0_head (s0_kind bc (g0_kind bc)) (g0_head bc)) (g0_body bc)) (g0_excepts bc)) (g0_power bc)) t58.2) (g0_facts bc)) (g0_size bc)) from (((((((congrArg (fun z => s0_beats z t58.2) ((se0_kind _).symm)).trans (congrArg (fun z => s0_beats z t58.2) (((se0_head _).symm).trans (congrArg (fun v => s0_head (s0_kind bc (g0_kind bc)) v) (gs0_head_kind _ (g0_kind bc)))))).trans (congrArg (fun z => s0_beats z t58.2) (((se0_body _).symm).trans (congrArg (fun v => s0_body (s0_head (s0_kind bc (g0_kind bc)) (g0_head bc)) v) ((gs0_body_head _ (g0_head bc)).trans (gs0_body_kind _ (g0_kind bc))))))).trans (congrArg (fun z => s0_beats z t58.2) (((se0_excepts _).symm).trans (congrArg (fun v => s0_excepts (s0_body (s0_head (s0_kind bc (g0_kind bc)) (g0_head bc)) (g0_body bc)) v) ((gs0_excepts_body _ (g0_body bc)).trans ((gs0_excepts_head _ (g0_head bc)).trans (gs0_excepts_kind _ (g0_kind bc)))))))).trans (congrArg (fun z => s0_beats z t58.2) (((se0_power _).symm).trans (congrArg (fun v => s0_power (s0_excepts (s0_body (s0_head (s0_kind bc (g0_kind bc)) (g0_head bc)) (g0_body bc)) (g0_excepts bc)) v) ((gs0_power_excepts _ (g0_excepts bc)).trans ((gs0_power_body _ (g0_body bc)).trans ((gs0_power_head _ (g0_head bc)).trans (gs0_power_kind _ (g0_kind bc))))))))).trans (((se0_facts _).symm).trans (congrArg (fun v => s0_facts (s0_beats (s0_power (s0_excepts (s0_body (s0_head (s0_kind bc (g0_kind bc)) (g0_head bc)) (g0_body bc)) (g0_excepts bc)) (g0_power bc)) t58.2) v) ((gs0_facts_beats _ t58.2).trans ((gs0_facts_power _ (g0_power bc)).trans ((gs0_facts_excepts _ (g0_excepts bc)).trans ((gs0_facts_body _ (g0_body bc)).trans ((gs0_facts_head _ (g0_head bc)).trans (gs0_facts_kind _ (g0_kind bc)))))))))).trans (((se0_size _).symm).trans (congrArg (fun v => s0_size (s0_facts (s0_beats (s0_power (s0_excepts (s0_body (s0_head (s0_kind bc (g0_kind bc)) (g0_head bc)) (g0_body bc)) (g0_excepts bc)) (g0_power bc)) t58.2) (g0_facts bc)) v) ((gs0_size_facts _ (g0_facts bc)).trans ((gs0_size_beats _ t58.2).trans ((gs0_size_power _ (g0_power bc)).trans ((gs0_size_excepts _ (g0_excepts bc)).trans ((gs0_size_body _ (g0_body bc)).trans ((gs0_size_head _ (g0_head bc)).trans (gs0_size_kind _ (g0_kind bc)))))))))))] at hP hD
    exact hret _ _ _ _ _ _ (by subst hE; rfl) hn58 hP hS dX7_tell_61
  have hE := hE.trans (if_neg c6_1)
  refine lv_lookup (off := 56) (tgt := 62) hx hb dX7_tell_6 (by decide) (by exact zlk6 c6_0 c6_1) (by decide) ?_
  refine lv_aload_n hx hb dX7_tell_62 rfl (lv_at hl 0 rfl) ?_
  refine lv_iload_n hx hb dX7_tell_63 rfl (lv_at hl 1 rfl) ?_
  refine lv_aload_n hx hb dX7_tell_64 rfl (lv_at hl 2 rfl) ?_
  obtain ⟨t65, ht65⟩ : ∃ z, FX7_tellRule (g7_sort bwd) (g7_head bwd) (g7_body bwd) (g7_excepts bwd) (g7_power bwd) (g0_kind bc) (g0_head bc) (g0_body bc) (g0_excepts bc) (g0_power bc) (g0_beats bc) (g0_size bc) x1 = z := ⟨_, rfl⟩
  have hE := hE.trans (bnd_eq ht65)
  have hc := c_X7_tellRule l G awd ac bwd bc x1 (hz_c_size) (hx1_60) _ ht65
  refine zgoI (bs' := [w7 G awd bwd, w0 G ac (s0_size (s0_beats (s0_power (s0_excepts (s0_body (s0_head (s0_kind bc t65.2.1) t65.2.2.1) t65.2.2.2.1) t65.2.2.2.2.1) t65.2.2.2.2.2.1) t65.2.2.2.2.2.2.1) t65.2.2.2.2.2.2.2)]) hc [0, 1] rfl rfl rfl hP hD hS hA (va_runV (As := [.int x1, .ref (ac 0)]) (rest := []) S (hc.2 _) (cwV 2 S.2.2.2.2 gX7_tell_X7_tellRule rfl rfl rfl (by decide +kernel) ⟨Nat.le_of_ble_eq_true rfl, Nat.le_of_ble_eq_true rfl⟩) (zpV hK hP hD (is := [0, 1]) rfl rfl 0 rfl rfl (ci := 7) rfl) rfl rfl hl.1 rfl (lv_room (Nat.le_of_ble_eq_true rfl)) dX7_tell_65 ⟨Nat.zero_le _, Nat.zero_le _⟩) (fun H locs hn65 hP hD hS => ?_)
  rw [show (s0_size (s0_beats (s0_power (s0_excepts (s0_body (s0_head (s0_kind bc t65.2.1) t65.2.2.1) t65.2.2.2.1) t65.2.2.2.2.1) t65.2.2.2.2.2.1) t65.2.2.2.2.2.2.1) t65.2.2.2.2.2.2.2) = (s0_size (s0_facts (s0_beats (s0_power (s0_excepts (s0_body (s0_head (s0_kind bc t65.2.1) t65.2.2.1) t65.2.2.2.1) t65.2.2.2.2.1) t65.2.2.2.2.2.1) t65.2.2.2.2.2.2.1) (g0_facts bc)) t65.2.2.2.2.2.2.2) from (congrArg (fun z => s0_size z t65.2.2.2.2.2.2.2) (((se0_facts _).symm).trans (congrArg (fun v => s0_facts (s0_beats (s0_power (s0_excepts (s0_body (s0_head (s0_kind bc t65.2.1) t65.2.2.1) t65.2.2.2.1) t65.2.2.2.2.1) t65.2.2.2.2.2.1) t65.2.2.2.2.2.2.1) v) ((gs0_facts_beats _ t65.2.2.2.2.2.2.1).trans ((gs0_facts_power _ t65.2.2.2.2.2.1).trans ((gs0_facts_excepts _ t65.2.2.2.2.1).trans ((gs0_facts_body _ t65.2.2.2.1).trans ((gs0_facts_head _ t65.2.2.1).trans (gs0_facts_kind _ t65.2.1)))))))))] at hP hD
  exact hret _ _ _ _ _ _ (by subst hE; rfl) hn65 hP hS dX7_tell_68

theorem ztell_size {wd_sort : Nat → Int32} {wd_head : Nat → Int32} {wd_body : Nat → Int32} {wd_excepts : Nat → Int32} {wd_power : Nat → Int32} {c_kind : Nat → Int32} {c_head : Nat → Int32} {c_body : Nat → Int32} {c_excepts : Nat → Int32} {c_power : Nat → Int32} {c_beats : Nat → Int32} {c_facts : Int32} {c_size : Int32} {x1 : Int32} (h : ∃ N : Nat, N ≤ 16 ∧ c_size = nI N) : ∃ N : Nat, N ≤ 16 ∧ (FX7_tell wd_sort wd_head wd_body wd_excepts wd_power c_kind c_head c_body c_excepts c_power c_beats c_facts c_size x1).2.2.2.2.2.2.2.2 = nI N := by
  have hA : ∀ a b c d e f : Nat → Int32, ∀ x1 x2 x3 x4 x5 : Int32, ∃ N : Nat, N ≤ 16 ∧ (FX0_add a b c d e f c_size x1 x2 x3 x4 x5).2.2.2.2.2.2.2 = nI N := by
    intro a b c d e f x1 x2 x3 x4 x5
    obtain ⟨N, hN, rfl⟩ := h
    unfold FX0_add
    by_cases c : nI N < (16 : Int32)
    · rw [if_pos c]
      have c : N < 16 := (nI_ltI (b := 16) (by omega) (by decide)).mp c
      exact ⟨N + 1, by omega, nI_1 N⟩
    · rw [if_neg c]
      exact ⟨N, hN, rfl⟩
  simp only [FX7_tell, FX7_tellRule, bndy]
  repeat' split
  all_goals first | with_reducible exact h | with_reducible exact hA _ _ _ _ _ _ _ _ _ _ _ | exact h | exact hA _ _ _ _ _ _ _ _ _ _ _

