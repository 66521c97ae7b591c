theorem in_X3_lookAheadOf_3 : ∀ w ∈ u_ws RX3 TX3 4, w ∈ wsX3_lookAheadOf := by decide +kernel
theorem in_X3_lookAheadOf_6 : ∀ w ∈ u_ws RX6 TX6 12, w ∈ wsX3_lookAheadOf := by decide +kernel
def rmX3_lookAheadOf : Room := { frames := 2, cells := 0, slots := 0, locals := 47 }
set_option maxHeartbeats 4000000 in
set_option maxRecDepth 100000 in
theorem c_X3_lookAheadOf (l : Launch) (G : zG) (apr : Nat → Nat) (av : Nat → Nat) (ac : Nat → Nat) (ard : Nat → Nat) (ord_view : Nat) (bpr : S3) (bv : S6) (bc : S0) (brd : S4) (x1 : Int32) (hz_c_size : ∃ N : Nat, N ≤ 16 ∧ g0_size bc = nI N) (T : (Nat → Int32) × (Int32) × (Int32) × (Int32) × (Int32)) (hT : FX3_lookAheadOf (g6_known bv) (g6_applies bv) (g6_falls bv) (g6_sureBodies bv) (g6_neverBodies bv) (g0_body bc) (g0_excepts bc) (g0_size bc) (g4_came brd) x1 = T) : zV l yX3_lookAheadOf wsX3_lookAheadOf rmX3_lookAheadOf G [.ref (apr 0), .int x1, .ref (ac 0), .ref (ard 0)] [w3 G apr (av 0) bpr, w6 G av bv, w0 G ac bc, w4 G ard ord_view brd] [w3 G apr (av 0) bpr, w6 G av (s6_neverBodies (s6_sureBodies (s6_falls (s6_applies (s6_known bv T.1) T.2.1) T.2.2.1) T.2.2.2.1) T.2.2.2.2), w0 G ac bc, w4 G ard ord_view brd] := by
  refine zV.mk (cc := cX3_lookAheadOf) (maxL := 5) (by decide +kernel) rfl (Nat.le_of_ble_eq_true rfl) (zfl_cons rfl (zfl_cons (wf6 _ _ _ _) (zfl_cons rfl (zfl_cons rfl rfl)))) ?_
  intro p e s m args below meth c Q A ls S hK hD hA hP hl hret
  have hx := S.1
  have hb := S.2.1
  have hS : va_S A s.heap s.heap [] := va_S.rf
  have hl : lv_has ls 5 [(0, .ref (apr 0)), (1, .int x1), (2, .ref (ac 0)), (3, .ref (ard 0))] := hl
  have hE := hT.symm.trans (FX3_lookAheadOf.eq_1 _ _ _ _ _ _ _ _ _ _)
  refine lv_iconst (v := 0) hx hb dX3_lookAheadOf_0 (by decide) ?_
  have hB32 : ∀ (v_known_32 : Nat → Int32) (H : Heap) (locs : List Loc) (ls : Array Slot), T = FX3_lookAheadOf_32 (g6_known bv) (g6_applies bv) (g6_falls bv) (g6_sureBodies bv) (g6_neverBodies bv) (g0_body bc) (g0_excepts bc) (g0_size bc) (g4_came brd) x1 v_known_32 (g6_applies bv) (g6_falls bv) (g6_sureBodies bv) (g6_neverBodies bv) → zP G [w3 G apr (av 0) bpr, w6 G av (s6_known bv v_known_32), w0 G ac bc, w4 G ard ord_view brd] H → zD A [w3 G apr (av 0) bpr, w6 G av (s6_known bv v_known_32), w0 G ac bc, w4 G ard ord_view brd] → va_S A s.heap H locs → lv_has ls 5 [(0, .ref (apr 0)), (2, .ref (ac 0))] → W p l e rmX3_lookAheadOf s m args below meth c H locs 0 0 Q (F0 m 32 ls []) := by
    intro v_known_32 H locs ls hE hP hD hS hl
    have hE := hE.trans (FX3_lookAheadOf_32.eq_1 _ _ _ _ _ _ _ _ _ _ _ _ _ _ _)
    refine lv_aload_n hx hb dX3_lookAheadOf_32 rfl (lv_at hl 0 rfl) ?_
    refine zg3_view S in_X3_lookAheadOf_3 hK hP 0 rfl (List.mem_of_getElem? (i := 1) rfl) dX3_lookAheadOf_33 ?_
    refine lv_aload_n hx hb dX3_lookAheadOf_36 rfl (lv_at hl 1 rfl) ?_
    obtain ⟨t37, ht37⟩ : ∃ z, FX6_weigh v_known_32 (g6_applies bv) (g6_falls bv) (g6_sureBodies bv) (g6_neverBodies bv) (g0_body bc) (g0_excepts bc) (g0_size bc) = z := ⟨_, rfl⟩
    have hE := hE.trans (bnd_eq ht37)
    have hc := c_X6_weigh l G av ac (s6_known bv v_known_32) bc (hz_c_size) _ (by simp only [gg6_known, gs6_applies_known, gs6_falls_known, gs6_sureBodies_known, gs6_neverBodies_known]; exact ht37)
    refine zgoV (bs' := [w3 G apr (av 0) bpr, w6 G av (s6_neverBodies (s6_sureBodies (s6_falls (s6_applies (s6_known bv v_known_32) t37.1) t37.2.1) t37.2.2.1) t37.2.2.2), w0 G ac bc, w4 G ard ord_view brd]) hc [1, 2] rfl rfl rfl hP hD hS hA (va_runV (As := [.ref (ac 0)]) (rest := []) S (hc.2 _) (cwV 1 S.2.2.2.2 gX3_lookAheadOf_X6_weigh rfl rfl rfl (by decide +kernel) ⟨Nat.le_of_ble_eq_true rfl, Nat.le_of_ble_eq_true rfl⟩) (zpV hK hP hD (is := [1, 2]) rfl rfl 1 rfl rfl (ci := 6) rfl) rfl rfl hl.1 rfl (lv_room (Nat.le_of_ble_eq_true rfl)) dX3_lookAheadOf_37 ⟨Nat.zero_le _, Nat.zero_le _⟩) (fun H locs hP hD hS => ?_)
    exact hret _ _ _ _ _ (by subst hE; rfl) hP hS dX3_lookAheadOf_40
  have hB3 : ∀ (n3 : Nat) (i4_3 : Nat) (v_known_3 : Nat → Int32) (H : Heap) (locs : List Loc) (ls : Array Slot), (i4_3 ≤ 4) → 5 ≤ i4_3 + n3 → T = FX3_lookAheadOf_3 (g6_known bv) (g6_applies bv) (g6_falls bv) (g6_sureBodies bv) (g6_neverBodies bv) (g0_body bc) (g0_excepts bc) (g0_size bc) (g4_came brd) x1 (FX3_lookAheadOf_32 (g6_known bv) (g6_applies bv) (g6_falls bv) (g6_sureBodies bv) (g6_neverBodies bv) (g0_body bc) (g0_excepts bc) (g0_size bc) (g4_came brd) x1) n3 (nI i4_3) v_known_3 (g6_applies bv) (g6_falls bv) (g6_sureBodies bv) (g6_neverBodies bv) → zP G [w3 G apr (av 0) bpr, w6 G av (s6_known bv v_known_3), w0 G ac bc, w4 G ard ord_view brd] H → zD A [w3 G apr (av 0) bpr, w6 G av (s6_known bv v_known_3), w0 G ac bc, w4 G ard ord_view brd] → va_S A s.heap H locs → lv_has ls 5 [(0, .ref (apr 0)), (1, .int x1), (2, .ref (ac 0)), (3, .ref (ard 0)), (4, .int (nI i4_3))] → W p l e rmX3_lookAheadOf s m args below meth c H locs 0 0 Q (F0 m 3 ls []) := by
    intro n3
    induction n3 with
    | zero =>
      intro i4_3 v_known_3 H locs ls hi4_3 hn hE hP hD hS hl
      exact absurd hn (by omega)
    | succ n3 ih3 =>
      intro i4_3 v_known_3 H locs ls hi4_3 hn hE hP hD hS hl
      have hE := hE.trans (FX3_lookAheadOf_3.eq_2 _ _ _ _ _ _ _ _ _ _ _ _ _ _ _ _ _ _)
      refine lv_iload hx hb dX3_lookAheadOf_3 (lv_at hl 4 rfl) ?_
      refine lv_iconst (v := 4) hx hb dX3_lookAheadOf_5 (by decide) ?_
      refine lv_icmp_ge (tgt := 32) hx hb dX3_lookAheadOf_6 (by decide) (fun c6 => ?_) (fun c6 => ?_)
      · have hE := hE.trans (if_pos c6)
        exact hB32 v_known_3 _ _ _ hE hP hD hS (lv_sub hl [0, 2] rfl)
      · have hE := hE.trans (if_neg c6)
        have hl4_3 : i4_3 < 4 := zlt (N := 4) rfl (by omega) (by omega) c6
        refine lv_aload_n hx hb dX3_lookAheadOf_9 rfl (lv_at hl 0 rfl) ?_
        refine zg3_view S in_X3_lookAheadOf_3 hK hP 0 rfl (List.mem_of_getElem? (i := 1) rfl) dX3_lookAheadOf_10 ?_
        refine zg6_known S in_X3_lookAheadOf_6 hK hP 1 rfl (List.mem_of_getElem? (i := 2) rfl) dX3_lookAheadOf_13 ?_
        refine lv_iload hx hb dX3_lookAheadOf_16 (lv_at hl 4 rfl) ?_
        refine lv_aload_n hx hb dX3_lookAheadOf_18 rfl (lv_at hl 3 rfl) ?_
        refine lv_iload hx hb dX3_lookAheadOf_19 (lv_at hl 4 rfl) ?_
        refine lv_iload_n hx hb dX3_lookAheadOf_21 rfl (lv_at hl 1 rfl) ?_
        obtain ⟨t22, ht22⟩ : ∃ z, FX4_broughtAheadOf (g4_came brd) (nI i4_3) x1 = z := ⟨_, rfl⟩
        have hE := hE.trans (bnd_eq ht22)
        have hc := c_X4_broughtAheadOf l G ard ord_view brd (nI i4_3) x1 ((vp_in_nI (by omega) (by omega))) _ ht22
        refine zgoR (va_runV (As := [.int (nI i4_3), .int x1]) (rest := [.int (nI i4_3), .ref (av 1)]) S (hc _) (cwV 2 S.2.2.2.2 gX3_lookAheadOf_X4_broughtAheadOf rfl rfl rfl (by decide +kernel) ⟨Nat.le_of_ble_eq_true rfl, Nat.le_of_ble_eq_true rfl⟩) (zpV hK hP hD (is := [3]) rfl rfl 3 rfl rfl (ci := 4) rfl) rfl rfl hl.1 rfl (lv_room (Nat.le_of_ble_eq_true rfl)) dX3_lookAheadOf_22 ⟨Nat.zero_le _, Nat.zero_le _⟩) (fun hn22 => ?_)
        refine zs6_known (bs1 := [w3 G apr (av 0) bpr, w6 G av (s6_known (s6_known bv v_known_3) (upd v_known_3 (nI i4_3).toNatClampNeg t22)), w0 G ac bc, w4 G ard ord_view brd]) S hK hP hD hS 1 rfl (vp_in_nI (by omega) (by omega)) (f := v_known_3) (gg6_known _ v_known_3) dX3_lookAheadOf_25 rfl (fun H locs hP hD hS => ?_)
        refine lv_iinc (v := (nI (i4_3 + 1))) (lv' := [(4, .int (nI (i4_3 + 1))), (0, .ref (apr 0)), (1, .int x1), (2, .ref (ac 0)), (3, .ref (ard 0))]) hx hb dX3_lookAheadOf_26 hl (k := 4) rfl (nI_1 i4_3) (by decide) rfl (fun ls hl => ?_)
        try rw [nI_1 i4_3] at hE
        refine lv_goto (tgt := 3) hx hb dX3_lookAheadOf_29 (by decide) ?_
        rw [show (s6_known (s6_known bv v_known_3) (upd v_known_3 (nI i4_3).toNatClampNeg t22)) = (s6_known bv (upd v_known_3 (nI i4_3).toNatClampNeg t22)) from (ss6_known _ v_known_3 (upd v_known_3 (nI i4_3).toNatClampNeg t22))] at hP hD
        exact ih3 (i4_3 + 1) (upd v_known_3 (nI i4_3).toNatClampNeg t22) _ _ _ (by first | assumption | omega) (by omega) hE hP hD hS (lv_sub hl [1, 2, 3, 4, 0] rfl)
  refine lv_istore (lv' := [(4, .int 0), (0, .ref (apr 0)), (1, .int x1), (2, .ref (ac 0)), (3, .ref (ard 0))]) hx hb dX3_lookAheadOf_1 hl (by decide) rfl (fun ls hl => ?_)
  rw [show bv = (s6_known bv (g6_known bv)) from ((se6_known _).symm)] at hP hD
  exact hB3 5 0 (g6_known bv) _ _ _ (by first | assumption | omega) (by omega) hE hP hD hS (lv_sub hl [1, 2, 3, 4, 0] rfl)

theorem in_X3_isWanted_3 : ∀ w ∈ u_ws RX3 TX3 4, w ∈ wsX3_isWanted := by decide +kernel
def rmX3_isWanted : Room := { frames := 1, cells := 0, slots := 0, locals := 22 }
set_option maxHeartbeats 4000000 in
set_option maxRecDepth 100000 in
theorem c_X3_isWanted (l : Launch) (G : zG) (apr : Nat → Nat) (ard : Nat → Nat) (opr_view : Nat) (ord_view : Nat) (bpr : S3) (brd : S4) (x1 : Int32) (x2 : Int32) (x3 : Int32) (hx1_4 : vp_in x1 4) (hx2_20 : vp_in x2 20) (T : Int32) (hT : FX3_isWanted (g3_wanted bpr) (g4_came brd) x1 x2 x3 = T) : zR l yX3_isWanted wsX3_isWanted rmX3_isWanted .boolean G [.ref (apr 0), .int x1, .int x2, .int x3, .ref (ard 0)] [w3 G apr opr_view bpr, w4 G ard ord_view brd] T := by
  refine zR.mk (cc := cX3_isWanted) (maxL := 5) (by decide +kernel) rfl (Nat.le_of_ble_eq_true rfl) ?_
  intro p e s m args below meth c Q A ls S hK hD hA hP hl hret
  have hx := S.1
  have hb := S.2.1
  have hl : lv_has ls 5 [(0, .ref (apr 0)), (1, .int x1), (2, .int x2), (3, .int x3), (4, .ref (ard 0))] := hl
  have hE := hT.symm.trans (FX3_isWanted.eq_1 _ _ _ _ _)
  refine lv_aload_n hx hb dX3_isWanted_0 rfl (lv_at hl 0 rfl) ?_
  refine zg3_wanted S in_X3_isWanted_3 hK hP 0 rfl (List.mem_of_getElem? (i := 1) rfl) dX3_isWanted_1 ?_
  refine lv_iload_n hx hb dX3_isWanted_4 rfl (lv_at hl 1 rfl) ?_
  refine zl3_wanted S hK hP 0 rfl hx1_4 (f := (g3_wanted bpr)) rfl dX3_isWanted_5 ?_
  refine lv_iload_n hx hb dX3_isWanted_6 rfl (lv_at hl 2 rfl) ?_
  obtain ⟨t7, ht7⟩ : ∃ z, FX8_has ((g3_wanted bpr) x1.toNatClampNeg) x2 = z := ⟨_, rfl⟩
  have hE := hE.trans (bnd_eq ht7)
  have hc := c_X8_has l G ((g3_wanted bpr) x1.toNatClampNeg) x2 _ ht7
  refine zgoR (va_runSN (As := [.int ((g3_wanted bpr) x1.toNatClampNeg), .int x2]) (rest := []) S (hc _) ⟨va_cnB (host := "RuleCourt") 2 S.2.2.2.2 gX3_isWanted_X8_has_n82 rfl rfl rfl (hK.2 _ (List.mem_of_getElem? (i := 15) rfl)) (S.2.2.2.2 _ (List.mem_of_getElem? (i := 3) rfl)) (by decide +kernel) ⟨Nat.le_of_ble_eq_true rfl, Nat.le_of_ble_eq_true rfl⟩, S.2.2.2.2 _ (List.mem_of_getElem? (i := 2) rfl), trivial⟩ (zpS hK hP hD (is := []) rfl rfl) rfl rfl hl.1 rfl (lv_room (Nat.le_of_ble_eq_true rfl)) dX3_isWanted_7 ⟨Nat.zero_le _, Nat.zero_le _⟩) (fun hn7 => ?_)
  refine lv_if_eq (tgt := 28) hx hb dX3_isWanted_10 (by decide) (fun c10 => ?_) (fun c10 => ?_)
  · have hE := hE.trans (if_pos c10)
    refine lv_iconst (v := 0) hx hb dX3_isWanted_28 (by decide) ?_
    exact hret _ _ _ hE zn0 dX3_isWanted_29
  · have hE := hE.trans (if_neg c10)
    refine lv_aload hx hb dX3_isWanted_13 (lv_at hl 4 rfl) ?_
    refine lv_iload_n hx hb dX3_isWanted_15 rfl (lv_at hl 1 rfl) ?_
    refine lv_iload_n hx hb dX3_isWanted_16 rfl (lv_at hl 2 rfl) ?_
    obtain ⟨t17, ht17⟩ : ∃ z, FX4_roundOf (g4_came brd) x1 x2 = z := ⟨_, rfl⟩
    have hE := hE.trans (bnd_eq ht17)
    have hc := c_X4_roundOf l G ard ord_view brd x1 x2 (hx1_4) (hx2_20) _ ht17
    refine zgoR (va_runV (As := [.int x1, .int x2]) (rest := []) S (hc _) (cwV 2 S.2.2.2.2 gX3_isWanted_X4_roundOf rfl rfl rfl (by decide +kernel) ⟨Nat.le_of_ble_eq_true rfl, Nat.le_of_ble_eq_true rfl⟩) (zpV hK hP hD (is := [1]) rfl rfl 1 rfl rfl (ci := 4) rfl) rfl rfl hl.1 rfl (lv_room (Nat.le_of_ble_eq_true rfl)) dX3_isWanted_17 ⟨Nat.zero_le _, Nat.zero_le _⟩) (fun hn17 => ?_)
    refine lv_iload_n hx hb dX3_isWanted_20 rfl (lv_at hl 3 rfl) ?_
    refine lv_icmp_ne (tgt := 28) hx hb dX3_isWanted_21 (by decide) (fun c21 => ?_) (fun c21 => ?_)
    · have hE := hE.trans (if_neg c21)
      refine lv_iconst (v := 0) hx hb dX3_isWanted_28 (by decide) ?_
      exact hret _ _ _ hE zn0 dX3_isWanted_29
    · have hE := hE.trans (if_pos c21)
      refine lv_iconst (v := 1) hx hb dX3_isWanted_24 (by decide) ?_
      refine lv_goto (tgt := 29) hx hb dX3_isWanted_25 (by decide) ?_
      exact hret _ _ _ hE zn1 dX3_isWanted_29

theorem in_X3_wantForSure_0 : ∀ w ∈ u_ws RX0 TX0 9, w ∈ wsX3_wantForSure := by decide +kernel
theorem in_X3_wantForSure_3 : ∀ w ∈ u_ws RX3 TX3 4, w ∈ wsX3_wantForSure := by decide +kernel
theorem in_X3_wantForSure_6 : ∀ w ∈ u_ws RX6 TX6 12, w ∈ wsX3_wantForSure := by decide +kernel
def rmX3_wantForSure : Room := { frames := 2, cells := 0, slots := 0, locals := 42 }
set_option maxHeartbeats 4000000 in
set_option maxRecDepth 100000 in
theorem c_X3_wantForSure (l : Launch) (G : zG) (apr : Nat → Nat) (av : Nat → Nat) (ac : Nat → Nat) (bpr : S3) (bv : S6) (bc : S0) (x1 : Int32) (hx1_20 : vp_in x1 20) (T : (Nat → Int32)) (hT : FX3_wantForSure (g3_wanted bpr) (g6_strictFor bv) (g6_facts bv) (g6_sureBodies bv) (g0_body bc) x1 = T) : zV l yX3_wantForSure wsX3_wantForSure rmX3_wantForSure G [.ref (apr 0), .int x1, .ref (ac 0)] [w3 G apr (av 0) bpr, w6 G av bv, w0 G ac bc] [w3 G apr (av 0) (s3_wanted bpr T), w6 G av bv, w0 G ac bc] := by
  refine zV.mk (cc := cX3_wantForSure) (maxL := 4) (by decide +kernel) rfl (Nat.le_of_ble_eq_true rfl) (zfl_cons (wf3 _ _ _ _ _) (zfl_cons rfl (zfl_cons rfl rfl))) ?_
  intro p e s m args below meth c Q A ls S hK hD hA hP hl hret
  have hx := S.1
  have hb := S.2.1
  have hS : va_S A s.heap s.heap [] := va_S.rf
  have hl : lv_has ls 4 [(0, .ref (apr 0)), (1, .int x1), (2, .ref (ac 0))] := hl
  have hE := hT.symm.trans (FX3_wantForSure.eq_1 _ _ _ _ _ _)
  refine lv_aload_n hx hb dX3_wantForSure_0 rfl (lv_at hl 0 rfl) ?_
  refine zg3_view S in_X3_wantForSure_3 hK hP 0 rfl (List.mem_of_getElem? (i := 1) rfl) dX3_wantForSure_1 ?_
  refine zg6_strictFor S in_X3_wantForSure_6 hK hP 1 rfl (List.mem_of_getElem? (i := 2) rfl) dX3_wantForSure_4 ?_
  refine lv_iload_n hx hb dX3_wantForSure_7 rfl (lv_at hl 1 rfl) ?_
  refine zl6_strictFor S hK hP 1 rfl hx1_20 (f := (g6_strictFor bv)) rfl dX3_wantForSure_8 ?_
  refine lv_aload_n hx hb dX3_wantForSure_9 rfl (lv_at hl 0 rfl) ?_
  refine zg3_view S in_X3_wantForSure_3 hK hP 0 rfl (List.mem_of_getElem? (i := 1) rfl) dX3_wantForSure_10 ?_
  refine zg6_sureBodies S in_X3_wantForSure_6 hK hP 1 rfl (List.mem_of_getElem? (i := 3) rfl) (v := (g6_sureBodies bv)) rfl dX3_wantForSure_13 ?_
  refine lv_iand hx hb dX3_wantForSure_16 ?_
  obtain ⟨t17, ht17⟩ : ∃ z, FX8_firstRule (((g6_strictFor bv) x1.toNatClampNeg) &&& (g6_sureBodies bv)) = z := ⟨_, rfl⟩
  have hE := hE.trans (bnd_eq ht17)
  have hc := c_X8_firstRule l G (((g6_strictFor bv) x1.toNatClampNeg) &&& (g6_sureBodies bv)) _ ht17
  refine zgoR (va_runSN (As := [.int (((g6_strictFor bv) x1.toNatClampNeg) &&& (g6_sureBodies bv))]) (rest := []) S (hc _) ⟨va_cnB (host := "RuleCourt") 1 S.2.2.2.2 gX3_wantForSure_X8_firstRule_n92 rfl rfl rfl (hK.2 _ (List.mem_of_getElem? (i := 16) rfl)) (S.2.2.2.2 _ (List.mem_of_getElem? (i := 8) rfl)) (by decide +kernel) ⟨Nat.le_of_ble_eq_true rfl, Nat.le_of_ble_eq_true rfl⟩, S.2.2.2.2 _ (List.mem_of_getElem? (i := 7) rfl), trivial⟩ (zpS hK hP hD (is := []) rfl rfl) rfl rfl hl.1 rfl (lv_room (Nat.le_of_ble_eq_true rfl)) dX3_wantForSure_17 ⟨Nat.zero_le _, Nat.zero_le _⟩) (fun hn17 => ?_)
  have hf17 : ∃ j : Nat, j ≤ 16 ∧ t17 = nI j := by rw [← ht17]; exact zfirst _
  refine lv_istore_n (lv' := [(3, .int t17), (0, .ref (apr 0)), (1, .int x1), (2, .ref (ac 0))]) hx hb dX3_wantForSure_20 rfl hl (by decide) rfl (fun ls hl => ?_)
  refine lv_aload_n hx hb dX3_wantForSure_21 rfl (lv_at hl 1 rfl) ?_
  refine zg3_view S in_X3_wantForSure_3 hK hP 0 rfl (List.mem_of_getElem? (i := 1) rfl) dX3_wantForSure_22 ?_
  refine zg6_facts S in_X3_wantForSure_6 hK hP 1 rfl (List.mem_of_getElem? (i := 4) rfl) (v := (g6_facts bv)) rfl dX3_wantForSure_25 ?_
  refine lv_iload_n hx hb dX3_wantForSure_28 rfl (lv_at hl 2 rfl) ?_
  obtain ⟨t29, ht29⟩ : ∃ z, FX8_has (g6_facts bv) x1 = z := ⟨_, rfl⟩
  have hE := hE.trans (bnd_eq ht29)
  have hc := c_X8_has l G (g6_facts bv) x1 _ ht29
  refine zgoR (va_runSN (As := [.int (g6_facts bv), .int x1]) (rest := []) S (hc _) ⟨va_cnB (host := "RuleCourt") 2 S.2.2.2.2 gX3_wantForSure_X8_has_n82 rfl rfl rfl (hK.2 _ (List.mem_of_getElem? (i := 15) rfl)) (S.2.2.2.2 _ (List.mem_of_getElem? (i := 8) rfl)) (by decide +kernel) ⟨Nat.le_of_ble_eq_true rfl, Nat.le_of_ble_eq_true rfl⟩, S.2.2.2.2 _ (List.mem_of_getElem? (i := 11) rfl), trivial⟩ (zpS hK hP hD (is := []) rfl rfl) rfl rfl hl.1 rfl (lv_room (Nat.le_of_ble_eq_true rfl)) dX3_wantForSure_29 ⟨Nat.zero_le _, Nat.zero_le _⟩) (fun hn29 => ?_)
  refine lv_if_ne (tgt := 56) hx hb dX3_wantForSure_32 (by decide) (fun c32 => ?_) (fun c32 => ?_)
  · have hE := hE.trans (if_neg c32)
    rw [show bpr = (s3_wanted bpr (g3_wanted bpr)) from ((se3_wanted _).symm)] at hP hD
    exact hret _ _ _ _ _ (by subst hE; rfl) hP hS dX3_wantForSure_56
  · have hE := hE.trans (if_pos c32)
    refine lv_iload_n hx hb dX3_wantForSure_35 rfl (lv_at hl 0 rfl) ?_
    refine lv_bipush (v := 16) hx hb dX3_wantForSure_36 (by decide) ?_
    refine lv_icmp_ge (tgt := 56) hx hb dX3_wantForSure_38 (by decide) (fun c38 => ?_) (fun c38 => ?_)
    · have hE := hE.trans (if_pos c38)
      rw [show bpr = (s3_wanted bpr (g3_wanted bpr)) from ((se3_wanted _).symm)] at hP hD
      exact hret _ _ _ _ _ (by subst hE; rfl) hP hS dX3_wantForSure_56
    · have hE := hE.trans (if_neg c38)
      have hr17 : vp_in t17 16 := by obtain ⟨j, hj, e⟩ := hf17; exact zfld_nle e (by omega) rfl (by decide) c38
      refine lv_aload_n hx hb dX3_wantForSure_41 rfl (lv_at hl 1 rfl) ?_
      refine zg3_wanted S in_X3_wantForSure_3 hK hP 0 rfl (List.mem_of_getElem? (i := 5) rfl) dX3_wantForSure_42 ?_
      refine lv_iconst (v := 0) hx hb dX3_wantForSure_45 (by decide) ?_
      refine lv_dup2_11 hx hb dX3_wantForSure_46 rfl rfl ?_
      refine zl3_wanted S hK hP 0 rfl (zin_k (n := 0) rfl (by decide) (by decide)) (f := (g3_wanted bpr)) rfl dX3_wantForSure_47 ?_
      refine lv_aload_n hx hb dX3_wantForSure_48 rfl (lv_at hl 3 rfl) ?_
      refine zg0_body S in_X3_wantForSure_0 hK hP 2 rfl (List.mem_of_getElem? (i := 6) rfl) dX3_wantForSure_49 ?_
      refine lv_iload_n hx hb dX3_wantForSure_52 rfl (lv_at hl 0 rfl) ?_
      refine zl0_body S hK hP 2 rfl (hr17) (f := (g0_body bc)) rfl dX3_wantForSure_53 ?_
      refine lv_ior hx hb dX3_wantForSure_54 ?_
      refine zs3_wanted (bs1 := [w3 G apr (av 0) (s3_wanted bpr (upd (g3_wanted bpr) (0 : Int32).toNatClampNeg (((g3_wanted bpr) (0 : Int32).toNatClampNeg) ||| ((g0_body bc) t17.toNatClampNeg)))), w6 G av bv, w0 G ac bc]) S hK hP hD hS 0 rfl (zin_k (n := 0) rfl (by decide) (by decide)) (f := (g3_wanted bpr)) rfl dX3_wantForSure_55 rfl (fun H locs hP hD hS => ?_)
      exact hret _ _ _ _ _ (by subst hE; rfl) hP hS dX3_wantForSure_56

theorem in_X3_wantForNever_0 : ∀ w ∈ u_ws RX0 TX0 9, w ∈ wsX3_wantForNever := by decide +kernel
theorem in_X3_wantForNever_3 : ∀ w ∈ u_ws RX3 TX3 4, w ∈ wsX3_wantForNever := by decide +kernel
theorem in_X3_wantForNever_6 : ∀ w ∈ u_ws RX6 TX6 12, w ∈ wsX3_wantForNever := by decide +kernel
def rmX3_wantForNever : Room := { frames := 1, cells := 0, slots := 0, locals := 21 }
set_option maxHeartbeats 4000000 in
set_option maxRecDepth 100000 in
theorem c_X3_wantForNever (l : Launch) (G : zG) (apr : Nat → Nat) (av : Nat → Nat) (ac : Nat → Nat) (bpr : S3) (bv : S6) (bc : S0) (x1 : Int32) (hx1_20 : vp_in x1 20) (T : (Nat → Int32)) (hT : FX3_wantForNever (g3_wanted bpr) (g6_known bv) (g6_strictFor bv) (g0_body bc) x1 = T) : zV l yX3_wantForNever wsX3_wantForNever rmX3_wantForNever G [.ref (apr 0), .int x1, .ref (ac 0)] [w3 G apr (av 0) bpr, w6 G av bv, w0 G ac bc] [w3 G apr (av 0) (s3_wanted bpr T), w6 G av bv, w0 G ac bc] := by
  refine zV.mk (cc := cX3_wantForNever) (maxL := 4) (by decide +kernel) rfl (Nat.le_of_ble_eq_true rfl) (zfl_cons (wf3 _ _ _ _ _) (zfl_cons rfl (zfl_cons rfl rfl))) ?_
  intro p e s m args below meth c Q A ls S hK hD hA hP hl hret
  have hx := S.1
  have hb := S.2.1
  have hS : va_S A s.heap s.heap [] := va_S.rf
  have hl : lv_has ls 4 [(0, .ref (apr 0)), (1, .int x1), (2, .ref (ac 0))] := hl
  have hE := hT.symm.trans (FX3_wantForNever.eq_1 _ _ _ _ _)
  refine lv_iconst (v := 0) hx hb dX3_wantForNever_0 (by decide) ?_
  have hB58 : ∀ (pr_wanted_58 : Nat → Int32) (H : Heap) (locs : List Loc) (ls : Array Slot), T = FX3_wantForNever_58 (g3_wanted bpr) (g6_known bv) (g6_strictFor bv) (g0_body bc) x1 pr_wanted_58 → zP G [w3 G apr (av 0) (s3_wanted bpr pr_wanted_58), w6 G av bv, w0 G ac bc] H → zD A [w3 G apr (av 0) (s3_wanted bpr pr_wanted_58), w6 G av bv, w0 G ac bc] → va_S A s.heap H locs → lv_has ls 4 [] → W p l e rmX3_wantForNever s m args below meth c H locs 0 0 Q (F0 m 58 ls []) := by
    intro pr_wanted_58 H locs ls hE hP hD hS hl
    have hE := hE.trans (FX3_wantForNever_58.eq_1 _ _ _ _ _ _)
    exact hret _ _ _ _ _ (by subst hE; rfl) hP hS dX3_wantForNever_58
  have hB2 : ∀ (n2 : Nat) (i3_2 : Nat) (pr_wanted_2 : Nat → Int32) (H : Heap) (locs : List Loc) (ls : Array Slot), (i3_2 ≤ 16) → 17 ≤ i3_2 + n2 → T = FX3_wantForNever_2 (g3_wanted bpr) (g6_known bv) (g6_strictFor bv) (g0_body bc) x1 (FX3_wantForNever_58 (g3_wanted bpr) (g6_known bv) (g6_strictFor bv) (g0_body bc) x1) n2 (nI i3_2) pr_wanted_2 → zP G [w3 G apr (av 0) (s3_wanted bpr pr_wanted_2), w6 G av bv, w0 G ac bc] H → zD A [w3 G apr (av 0) (s3_wanted bpr pr_wanted_2), w6 G av bv, w0 G ac bc] → va_S A s.heap H locs → lv_has ls 4 [(0, .ref (apr 0)), (1, .int x1), (2, .ref (ac 0)), (3, .int (nI i3_2))] → W p l e rmX3_wantForNever s m args below meth c H locs 0 0 Q (F0 m 2 ls []) := by
    intro n2
    induction n2 with
    | zero =>
      intro i3_2 pr_wanted_2 H locs ls hi3_2 hn hE hP hD hS hl
      exact absurd hn (by omega)
    | succ n2 ih2 =>
      intro i3_2 pr_wanted_2 H locs ls hi3_2 hn hE hP hD hS hl
      have hE := hE.trans (FX3_wantForNever_2.eq_2 _ _ _ _ _ _ _ _ _)
      refine lv_iload_n hx hb dX3_wantForNever_2 rfl (lv_at hl 3 rfl) ?_
      refine lv_bipush (v := 16) hx hb dX3_wantForNever_3 (by decide) ?_
      refine lv_icmp_ge (tgt := 58) hx hb dX3_wantForNever_5 (by decide) (fun c5 => ?_) (fun c5 => ?_)
      · have hE := hE.trans (if_pos c5)
        exact hB58 pr_wanted_2 _ _ _ hE hP hD hS (lv_sub hl [] rfl)
      · have hE := hE.trans (if_neg c5)
        have hl3_2 : i3_2 < 16 := zlt (N := 16) rfl (by omega) (by omega) c5
        refine lv_aload_n hx hb dX3_wantForNever_8 rfl (lv_at hl 0 rfl) ?_
        refine zg3_view S in_X3_wantForNever_3 hK hP 0 rfl (List.mem_of_getElem? (i := 1) rfl) dX3_wantForNever_9 ?_
        refine zg6_strictFor S in_X3_wantForNever_6 hK hP 1 rfl (List.mem_of_getElem? (i := 2) rfl) dX3_wantForNever_12 ?_
        refine lv_iload_n hx hb dX3_wantForNever_15 rfl (lv_at hl 1 rfl) ?_
        refine zl6_strictFor S hK hP 1 rfl hx1_20 (f := (g6_strictFor bv)) rfl dX3_wantForNever_16 ?_
        refine lv_iload_n hx hb dX3_wantForNever_17 rfl (lv_at hl 3 rfl) ?_
        obtain ⟨t18, ht18⟩ : ∃ z, FX8_has ((g6_strictFor bv) x1.toNatClampNeg) (nI i3_2) = z := ⟨_, rfl⟩
        have hE := hE.trans (bnd_eq ht18)
        have hc := c_X8_has l G ((g6_strictFor bv) x1.toNatClampNeg) (nI i3_2) _ ht18
        refine zgoR (va_runSN (As := [.int ((g6_strictFor bv) x1.toNatClampNeg), .int (nI i3_2)]) (rest := []) S (hc _) ⟨va_cnB (host := "RuleCourt") 2 S.2.2.2.2 gX3_wantForNever_X8_has_n82 rfl rfl rfl (hK.2 _ (List.mem_of_getElem? (i := 15) rfl)) (S.2.2.2.2 _ (List.mem_of_getElem? (i := 7) rfl)) (by decide +kernel) ⟨Nat.le_of_ble_eq_true rfl, Nat.le_of_ble_eq_true rfl⟩, S.2.2.2.2 _ (List.mem_of_getElem? (i := 6) rfl), trivial⟩ (zpS hK hP hD (is := []) rfl rfl) rfl rfl hl.1 rfl (lv_room (Nat.le_of_ble_eq_true rfl)) dX3_wantForNever_18 ⟨Nat.zero_le _, Nat.zero_le _⟩) (fun hn18 => ?_)
        refine lv_if_eq (tgt := 52) hx hb dX3_wantForNever_21 (by decide) (fun c21 => ?_) (fun c21 => ?_)
        · have hE := hE.trans (if_pos c21)
          refine lv_iinc (v := (nI (i3_2 + 1))) (lv' := [(3, .int (nI (i3_2 + 1))), (0, .ref (apr 0)), (1, .int x1), (2, .ref (ac 0))]) hx hb dX3_wantForNever_52 hl (k := 3) rfl (nI_1 i3_2) (by decide) rfl (fun ls hl => ?_)
          try rw [nI_1 i3_2] at hE
          refine lv_goto (tgt := 2) hx hb dX3_wantForNever_55 (by decide) ?_
          exact ih2 (i3_2 + 1) pr_wanted_2 _ _ _ (by first | assumption | omega) (by omega) hE hP hD hS (lv_sub hl [1, 2, 3, 0] rfl)
        · have hE := hE.trans (if_neg c21)
          refine lv_aload_n hx hb dX3_wantForNever_24 rfl (lv_at hl 0 rfl) ?_
          refine zg3_wanted S in_X3_wantForNever_3 hK hP 0 rfl (List.mem_of_getElem? (i := 3) rfl) dX3_wantForNever_25 ?_
          refine lv_iconst (v := 1) hx hb dX3_wantForNever_28 (by decide) ?_
          refine lv_dup2_11 hx hb dX3_wantForNever_29 rfl rfl ?_
          refine zl3_wanted S hK hP 0 rfl (zin_k (n := 1) rfl (by decide) (by decide)) (f := pr_wanted_2) (gg3_wanted _ pr_wanted_2) dX3_wantForNever_30 ?_
          refine lv_aload_n hx hb dX3_wantForNever_31 rfl (lv_at hl 2 rfl) ?_
          refine zg0_body S in_X3_wantForNever_0 hK hP 2 rfl (List.mem_of_getElem? (i := 4) rfl) dX3_wantForNever_32 ?_
          refine lv_iload_n hx hb dX3_wantForNever_35 rfl (lv_at hl 3 rfl) ?_
          refine zl0_body S hK hP 2 rfl (vp_in_nI (by omega) (by omega)) (f := (g0_body bc)) rfl dX3_wantForNever_36 ?_
          refine lv_aload_n hx hb dX3_wantForNever_37 rfl (lv_at hl 0 rfl) ?_
          refine zg3_view S in_X3_wantForNever_3 hK hP 0 rfl (List.mem_of_getElem? (i := 1) rfl) dX3_wantForNever_38 ?_
          refine zg6_known S in_X3_wantForNever_6 hK hP 1 rfl (List.mem_of_getElem? (i := 5) rfl) dX3_wantForNever_41 ?_
          refine lv_iconst (v := 1) hx hb dX3_wantForNever_44 (by decide) ?_
          refine zl6_known S hK hP 1 rfl (zin_k (n := 1) rfl (by decide) (by decide)) (f := (g6_known bv)) rfl dX3_wantForNever_45 ?_
          refine lv_iand hx hb dX3_wantForNever_46 ?_
          obtain ⟨t47, ht47⟩ : ∃ z, FX8_lowestBit (((g0_body bc) (nI i3_2).toNatClampNeg) &&& ((g6_known bv) (1 : Int32).toNatClampNeg)) = z := ⟨_, rfl⟩
          have hE := hE.trans (bnd_eq ht47)
          have hc := c_X8_lowestBit l G (((g0_body bc) (nI i3_2).toNatClampNeg) &&& ((g6_known bv) (1 : Int32).toNatClampNeg)) _ ht47
          refine zgoR (va_runSN (As := [.int (((g0_body bc) (nI i3_2).toNatClampNeg) &&& ((g6_known bv) (1 : Int32).toNatClampNeg))]) (rest := [.int (pr_wanted_2 (1 : Int32).toNatClampNeg), .int 1, .ref (apr 1)]) S (hc _) ⟨va_cnB (host := "RuleCourt") 1 S.2.2.2.2 gX3_wantForNever_X8_lowestBit_n104 rfl rfl rfl (hK.2 _ (List.mem_of_getElem? (i := 17) rfl)) (S.2.2.2.2 _ (List.mem_of_getElem? (i := 7) rfl)) (by decide +kernel) ⟨Nat.le_of_ble_eq_true rfl, Nat.le_of_ble_eq_true rfl⟩, S.2.2.2.2 _ (List.mem_of_getElem? (i := 9) rfl), trivial⟩ (zpS hK hP hD (is := []) rfl rfl) rfl rfl hl.1 rfl (lv_room (Nat.le_of_ble_eq_true rfl)) dX3_wantForNever_47 ⟨Nat.zero_le _, Nat.zero_le _⟩) (fun hn47 => ?_)
          refine lv_ior hx hb dX3_wantForNever_50 ?_
          refine zs3_wanted (bs1 := [w3 G apr (av 0) (s3_wanted (s3_wanted bpr pr_wanted_2) (upd pr_wanted_2 (1 : Int32).toNatClampNeg ((pr_wanted_2 (1 : Int32).toNatClampNeg) ||| t47))), w6 G av bv, w0 G ac bc]) S hK hP hD hS 0 rfl (zin_k (n := 1) rfl (by decide) (by decide)) (f := pr_wanted_2) (gg3_wanted _ pr_wanted_2) dX3_wantForNever_51 rfl (fun H locs hP hD hS => ?_)
          refine lv_iinc (v := (nI (i3_2 + 1))) (lv' := [(3, .int (nI (i3_2 + 1))), (0, .ref (apr 0)), (1, .int x1), (2, .ref (ac 0))]) hx hb dX3_wantForNever_52 hl (k := 3) rfl (nI_1 i3_2) (by decide) rfl (fun ls hl => ?_)
          try rw [nI_1 i3_2] at hE
          refine lv_goto (tgt := 2) hx hb dX3_wantForNever_55 (by decide) ?_
          rw [show (s3_wanted (s3_wanted bpr pr_wanted_2) (upd pr_wanted_2 (1 : Int32).toNatClampNeg ((pr_wanted_2 (1 : Int32).toNatClampNeg) ||| t47))) = (s3_wanted bpr (upd pr_wanted_2 (1 : Int32).toNatClampNeg ((pr_wanted_2 (1 : Int32).toNatClampNeg) ||| t47))) from (ss3_wanted _ pr_wanted_2 (upd pr_wanted_2 (1 : Int32).toNatClampNeg ((pr_wanted_2 (1 : Int32).toNatClampNeg) ||| t47)))] at hP hD
          exact ih2 (i3_2 + 1) (upd pr_wanted_2 (1 : Int32).toNatClampNeg ((pr_wanted_2 (1 : Int32).toNatClampNeg) ||| t47)) _ _ _ (by first | assumption | omega) (by omega) hE hP hD hS (lv_sub hl [1, 2, 3, 0] rfl)
  refine lv_istore_n (lv' := [(3, .int 0), (0, .ref (apr 0)), (1, .int x1), (2, .ref (ac 0))]) hx hb dX3_wantForNever_1 rfl hl (by decide) rfl (fun ls hl => ?_)
  rw [show bpr = (s3_wanted bpr (g3_wanted bpr)) from ((se3_wanted _).symm)] at hP hD
  exact hB2 17 0 (g3_wanted bpr) _ _ _ (by first | assumption | omega) (by omega) hE hP hD hS (lv_sub hl [1, 2, 3, 0] rfl)

theorem in_X3_wantForce_0 : ∀ w ∈ u_ws RX0 TX0 9, w ∈ wsX3_wantForce := by decide +kernel
theorem in_X3_wantForce_3 : ∀ w ∈ u_ws RX3 TX3 4, w ∈ wsX3_wantForce := by decide +kernel
def rmX3_wantForce : Room := { frames := 0, cells := 0, slots := 0, locals := 0 }
set_option maxHeartbeats 4000000 in
set_option maxRecDepth 100000 in
theorem c_X3_wantForce (l : Launch) (G : zG) (apr : Nat → Nat) (av : Nat → Nat) (ac : Nat → Nat) (bpr : S3) (bv : S6) (bc : S0) (x1 : Int32) (hr1 : ∃ j : Nat, j ≤ 16 ∧ x1 = nI j) (T : (Nat → Int32)) (hT : FX3_wantForce (g3_wanted bpr) (g0_body bc) (g0_excepts bc) x1 = T) : zV l yX3_wantForce wsX3_wantForce rmX3_wantForce G [.ref (apr 0), .int x1, .ref (ac 0)] [w3 G apr (av 0) bpr, w6 G av bv, w0 G ac bc] [w3 G apr (av 0) (s3_wanted bpr T), w6 G av bv, w0 G ac bc] := by
  refine zV.mk (cc := cX3_wantForce) (maxL := 3) (by decide +kernel) rfl (Nat.le_of_ble_eq_true rfl) (zfl_cons (wf3 _ _ _ _ _) (zfl_cons rfl (zfl_cons rfl rfl))) ?_
  intro p e s m args below meth c Q A ls S hK hD hA hP hl hret
  have hx := S.1
  have hb := S.2.1
  have hS : va_S A s.heap s.heap [] := va_S.rf
  have hl : lv_has ls 3 [(0, .ref (apr 0)), (1, .int x1), (2, .ref (ac 0))] := hl
  have hE := hT.symm.trans (FX3_wantForce.eq_1 _ _ _ _)
  refine lv_iload_n hx hb dX3_wantForce_0 rfl (lv_at hl 1 rfl) ?_
  refine lv_bipush (v := 16) hx hb dX3_wantForce_1 (by decide) ?_
  refine lv_icmp_ge (tgt := 36) hx hb dX3_wantForce_3 (by decide) (fun c3 => ?_) (fun c3 => ?_)
  · have hE := hE.trans (if_pos c3)
    rw [show bpr = (s3_wanted bpr (g3_wanted bpr)) from ((se3_wanted _).symm)] at hP hD
    exact hret _ _ _ _ _ (by subst hE; rfl) hP hS dX3_wantForce_36
  · have hE := hE.trans (if_neg c3)
    have hx1_16 : vp_in x1 16 := by obtain ⟨j, hj, e⟩ := hr1; exact zfld_nle e (by omega) rfl (by decide) c3
    refine lv_aload_n hx hb dX3_wantForce_6 rfl (lv_at hl 0 rfl) ?_
    refine zg3_wanted S in_X3_wantForce_3 hK hP 0 rfl (List.mem_of_getElem? (i := 1) rfl) dX3_wantForce_7 ?_
    refine lv_iconst (v := 2) hx hb dX3_wantForce_10 (by decide) ?_
    refine lv_dup2_11 hx hb dX3_wantForce_11 rfl rfl ?_
    refine zl3_wanted S hK hP 0 rfl (zin_k (n := 2) rfl (by decide) (by decide)) (f := (g3_wanted bpr)) rfl dX3_wantForce_12 ?_
    refine lv_aload_n hx hb dX3_wantForce_13 rfl (lv_at hl 2 rfl) ?_
    refine zg0_body S in_X3_wantForce_0 hK hP 2 rfl (List.mem_of_getElem? (i := 2) rfl) dX3_wantForce_14 ?_
    refine lv_iload_n hx hb dX3_wantForce_17 rfl (lv_at hl 1 rfl) ?_
    refine zl0_body S hK hP 2 rfl hx1_16 (f := (g0_body bc)) rfl dX3_wantForce_18 ?_
    refine lv_ior hx hb dX3_wantForce_19 ?_
    refine zs3_wanted (bs1 := [w3 G apr (av 0) (s3_wanted bpr (upd (g3_wanted bpr) (2 : Int32).toNatClampNeg (((g3_wanted bpr) (2 : Int32).toNatClampNeg) ||| ((g0_body bc) x1.toNatClampNeg)))), w6 G av bv, w0 G ac bc]) S hK hP hD hS 0 rfl (zin_k (n := 2) rfl (by decide) (by decide)) (f := (g3_wanted bpr)) rfl dX3_wantForce_20 rfl (fun H locs hP hD hS => ?_)
    refine lv_aload_n hx hb dX3_wantForce_21 rfl (lv_at hl 0 rfl) ?_
    refine zg3_wanted S in_X3_wantForce_3 hK hP 0 rfl (List.mem_of_getElem? (i := 1) rfl) dX3_wantForce_22 ?_
    refine lv_iconst (v := 3) hx hb dX3_wantForce_25 (by decide) ?_
    refine lv_dup2_11 hx hb dX3_wantForce_26 rfl rfl ?_
    refine zl3_wanted S hK hP 0 rfl (zin_k (n := 3) rfl (by decide) (by decide)) (f := (upd (g3_wanted bpr) (2 : Int32).toNatClampNeg (((g3_wanted bpr) (2 : Int32).toNatClampNeg) ||| ((g0_body bc) x1.toNatClampNeg)))) (gg3_wanted _ (upd (g3_wanted bpr) (2 : Int32).toNatClampNeg (((g3_wanted bpr) (2 : Int32).toNatClampNeg) ||| ((g0_body bc) x1.toNatClampNeg)))) dX3_wantForce_27 ?_
    refine lv_aload_n hx hb dX3_wantForce_28 rfl (lv_at hl 2 rfl) ?_
    refine zg0_excepts S in_X3_wantForce_0 hK hP 2 rfl (List.mem_of_getElem? (i := 3) rfl) dX3_wantForce_29 ?_
    refine lv_iload_n hx hb dX3_wantForce_32 rfl (lv_at hl 1 rfl) ?_
    refine zl0_excepts S hK hP 2 rfl hx1_16 (f := (g0_excepts bc)) rfl dX3_wantForce_33 ?_
    refine lv_ior hx hb dX3_wantForce_34 ?_
    refine zs3_wanted (bs1 := [w3 G apr (av 0) (s3_wanted (s3_wanted bpr (upd (g3_wanted bpr) (2 : Int32).toNatClampNeg (((g3_wanted bpr) (2 : Int32).toNatClampNeg) ||| ((g0_body bc) x1.toNatClampNeg)))) (upd (upd (g3_wanted bpr) (2 : Int32).toNatClampNeg (((g3_wanted bpr) (2 : Int32).toNatClampNeg) ||| ((g0_body bc) x1.toNatClampNeg))) (3 : Int32).toNatClampNeg (((upd (g3_wanted bpr) (2 : Int32).toNatClampNeg (((g3_wanted bpr) (2 : Int32).toNatClampNeg) ||| ((g0_body bc) x1.toNatClampNeg))) (3 : Int32).toNatClampNeg) ||| ((g0_excepts bc) x1.toNatClampNeg)))), w6 G av bv, w0 G ac bc]) S hK hP hD hS 0 rfl (zin_k (n := 3) rfl (by decide) (by decide)) (f := (upd (g3_wanted bpr) (2 : Int32).toNatClampNeg (((g3_wanted bpr) (2 : Int32).toNatClampNeg) ||| ((g0_body bc) x1.toNatClampNeg)))) (gg3_wanted _ (upd (g3_wanted bpr) (2 : Int32).toNatClampNeg (((g3_wanted bpr) (2 : Int32).toNatClampNeg) ||| ((g0_body bc) x1.toNatClampNeg)))) dX3_wantForce_35 rfl (fun H locs hP hD hS => ?_)
    rw [show (s3_wanted (s3_wanted bpr (upd (g3_wanted bpr) (2 : Int32).toNatClampNeg (((g3_wanted bpr) (2 : Int32).toNatClampNeg) ||| ((g0_body bc) x1.toNatClampNeg)))) (upd (upd (g3_wanted bpr) (2 : Int32).toNatClampNeg (((g3_wanted bpr) (2 : Int32).toNatClampNeg) ||| ((g0_body bc) x1.toNatClampNeg))) (3 : Int32).toNatClampNeg (((upd (g3_wanted bpr) (2 : Int32).toNatClampNeg (((g3_wanted bpr) (2 : Int32).toNatClampNeg) ||| ((g0_body bc) x1.toNatClampNeg))) (3 : Int32).toNatClampNeg) ||| ((g0_excepts bc) x1.toNatClampNeg)))) = (s3_wanted bpr (upd (upd (g3_wanted bpr) (2 : Int32).toNatClampNeg (((g3_wanted bpr) (2 : Int32).toNatClampNeg) ||| ((g0_body bc) x1.toNatClampNeg))) (3 : Int32).toNatClampNeg (((upd (g3_wanted bpr) (2 : Int32).toNatClampNeg (((g3_wanted bpr) (2 : Int32).toNatClampNeg) ||| ((g0_body bc) x1.toNatClampNeg))) (3 : Int32).toNatClampNeg) ||| ((g0_excepts bc) x1.toNatClampNeg)))) from (ss3_wanted _ (upd (g3_wanted bpr) (2 : Int32).toNatClampNeg (((g3_wanted bpr) (2 : Int32).toNatClampNeg) ||| ((g0_body bc) x1.toNatClampNeg))) (upd (upd (g3_wanted bpr) (2 : Int32).toNatClampNeg (((g3_wanted bpr) (2 : Int32).toNatClampNeg) ||| ((g0_body bc) x1.toNatClampNeg))) (3 : Int32).toNatClampNeg (((upd (g3_wanted bpr) (2 : Int32).toNatClampNeg (((g3_wanted bpr) (2 : Int32).toNatClampNeg) ||| ((g0_body bc) x1.toNatClampNeg))) (3 : Int32).toNatClampNeg) ||| ((g0_excepts bc) x1.toNatClampNeg))))] at hP hD
    exact hret _ _ _ _ _ (by subst hE; rfl) hP hS dX3_wantForce_36

theorem in_X3_wantFall_0 : ∀ w ∈ u_ws RX0 TX0 9, w ∈ wsX3_wantFall := by decide +kernel
theorem in_X3_wantFall_3 : ∀ w ∈ u_ws RX3 TX3 4, w ∈ wsX3_wantFall := by decide +kernel
theorem in_X3_wantFall_6 : ∀ w ∈ u_ws RX6 TX6 12, w ∈ wsX3_wantFall := by decide +kernel
def rmX3_wantFall : Room := { frames := 1, cells := 0, slots := 0, locals := 20 }
set_option maxHeartbeats 4000000 in
set_option maxRecDepth 100000 in
theorem c_X3_wantFall (l : Launch) (G : zG) (apr : Nat → Nat) (av : Nat → Nat) (ac : Nat → Nat) (bpr : S3) (bv : S6) (bc : S0) (x1 : Int32) (hx1_16 : vp_in x1 16) (T : (Nat → Int32)) (hT : FX3_wantFall (g3_wanted bpr) (g6_known bv) (g0_body bc) (g0_excepts bc) x1 = T) : zV l yX3_wantFall wsX3_wantFall rmX3_wantFall G [.ref (apr 0), .int x1, .ref (ac 0)] [w3 G apr (av 0) bpr, w6 G av bv, w0 G ac bc] [w3 G apr (av 0) (s3_wanted bpr T), w6 G av bv, w0 G ac bc] := by
  refine zV.mk (cc := cX3_wantFall) (maxL := 4) (by decide +kernel) rfl (Nat.le_of_ble_eq_true rfl) (zfl_cons (wf3 _ _ _ _ _) (zfl_cons rfl (zfl_cons rfl rfl))) ?_
  intro p e s m args below meth c Q A ls S hK hD hA hP hl hret
  have hx := S.1
  have hb := S.2.1
  have hS : va_S A s.heap s.heap [] := va_S.rf
  have hl : lv_has ls 4 [(0, .ref (apr 0)), (1, .int x1), (2, .ref (ac 0))] := hl
  have hE := hT.symm.trans (FX3_wantFall.eq_1 _ _ _ _ _)
  refine lv_aload_n hx hb dX3_wantFall_0 rfl (lv_at hl 2 rfl) ?_
  refine zg0_body S in_X3_wantFall_0 hK hP 2 rfl (List.mem_of_getElem? (i := 1) rfl) dX3_wantFall_1 ?_
  refine lv_iload_n hx hb dX3_wantFall_4 rfl (lv_at hl 1 rfl) ?_
  refine zl0_body S hK hP 2 rfl hx1_16 (f := (g0_body bc)) rfl dX3_wantFall_5 ?_
  refine lv_aload_n hx hb dX3_wantFall_6 rfl (lv_at hl 0 rfl) ?_
  refine zg3_view S in_X3_wantFall_3 hK hP 0 rfl (List.mem_of_getElem? (i := 2) rfl) dX3_wantFall_7 ?_
  refine zg6_known S in_X3_wantFall_6 hK hP 1 rfl (List.mem_of_getElem? (i := 3) rfl) dX3_wantFall_10 ?_
  refine lv_iconst (v := 3) hx hb dX3_wantFall_13 (by decide) ?_
  refine zl6_known S hK hP 1 rfl (zin_k (n := 3) rfl (by decide) (by decide)) (f := (g6_known bv)) rfl dX3_wantFall_14 ?_
  refine lv_iand hx hb dX3_wantFall_15 ?_
  refine lv_istore_n (lv' := [(3, .int (((g0_body bc) x1.toNatClampNeg) &&& ((g6_known bv) (3 : Int32).toNatClampNeg))), (0, .ref (apr 0)), (1, .int x1), (2, .ref (ac 0))]) hx hb dX3_wantFall_16 rfl hl (by decide) rfl (fun ls hl => ?_)
  refine lv_iload_n hx hb dX3_wantFall_17 rfl (lv_at hl 0 rfl) ?_
  refine lv_if_eq (tgt := 37) hx hb dX3_wantFall_18 (by decide) (fun c18 => ?_) (fun c18 => ?_)
  · have hE := hE.trans (if_pos c18)
    refine lv_aload_n hx hb dX3_wantFall_37 rfl (lv_at hl 1 rfl) ?_
    refine zg3_wanted S in_X3_wantFall_3 hK hP 0 rfl (List.mem_of_getElem? (i := 4) rfl) dX3_wantFall_38 ?_
    refine lv_iconst (v := 2) hx hb dX3_wantFall_41 (by decide) ?_
    refine lv_dup2_11 hx hb dX3_wantFall_42 rfl rfl ?_
    refine zl3_wanted S hK hP 0 rfl (zin_k (n := 2) rfl (by decide) (by decide)) (f := (g3_wanted bpr)) rfl dX3_wantFall_43 ?_
    refine lv_aload_n hx hb dX3_wantFall_44 rfl (lv_at hl 3 rfl) ?_
    refine zg0_excepts S in_X3_wantFall_0 hK hP 2 rfl (List.mem_of_getElem? (i := 5) rfl) dX3_wantFall_45 ?_
    refine lv_iload_n hx hb dX3_wantFall_48 rfl (lv_at hl 2 rfl) ?_
    refine zl0_excepts S hK hP 2 rfl hx1_16 (f := (g0_excepts bc)) rfl dX3_wantFall_49 ?_
    refine lv_aload_n hx hb dX3_wantFall_50 rfl (lv_at hl 1 rfl) ?_
    refine zg3_view S in_X3_wantFall_3 hK hP 0 rfl (List.mem_of_getElem? (i := 2) rfl) dX3_wantFall_51 ?_
    refine zg6_known S in_X3_wantFall_6 hK hP 1 rfl (List.mem_of_getElem? (i := 3) rfl) dX3_wantFall_54 ?_
    refine lv_iconst (v := 2) hx hb dX3_wantFall_57 (by decide) ?_
    refine zl6_known S hK hP 1 rfl (zin_k (n := 2) rfl (by decide) (by decide)) (f := (g6_known bv)) rfl dX3_wantFall_58 ?_
    refine lv_iand hx hb dX3_wantFall_59 ?_
    obtain ⟨t60, ht60⟩ : ∃ z, FX8_lowestBit (((g0_excepts bc) x1.toNatClampNeg) &&& ((g6_known bv) (2 : Int32).toNatClampNeg)) = z := ⟨_, rfl⟩
    have hE := hE.trans (bnd_eq ht60)
    have hc := c_X8_lowestBit l G (((g0_excepts bc) x1.toNatClampNeg) &&& ((g6_known bv) (2 : Int32).toNatClampNeg)) _ ht60
    refine zgoR (va_runSN (As := [.int (((g0_excepts bc) x1.toNatClampNeg) &&& ((g6_known bv) (2 : Int32).toNatClampNeg))]) (rest := [.int ((g3_wanted bpr) (2 : Int32).toNatClampNeg), .int 2, .ref (apr 1)]) S (hc _) ⟨va_cnB (host := "RuleCourt") 1 S.2.2.2.2 gX3_wantFall_X8_lowestBit_n104 rfl rfl rfl (hK.2 _ (List.mem_of_getElem? (i := 17) rfl)) (S.2.2.2.2 _ (List.mem_of_getElem? (i := 7) rfl)) (by decide +kernel) ⟨Nat.le_of_ble_eq_true rfl, Nat.le_of_ble_eq_true rfl⟩, S.2.2.2.2 _ (List.mem_of_getElem? (i := 6) rfl), trivial⟩ (zpS hK hP hD (is := []) rfl rfl) rfl rfl hl.1 rfl (lv_room (Nat.le_of_ble_eq_true rfl)) dX3_wantFall_60 ⟨Nat.zero_le _, Nat.zero_le _⟩) (fun hn60 => ?_)
    refine lv_ior hx hb dX3_wantFall_63 ?_
    refine zs3_wanted (bs1 := [w3 G apr (av 0) (s3_wanted bpr (upd (g3_wanted bpr) (2 : Int32).toNatClampNeg (((g3_wanted bpr) (2 : Int32).toNatClampNeg) ||| t60))), w6 G av bv, w0 G ac bc]) S hK hP hD hS 0 rfl (zin_k (n := 2) rfl (by decide) (by decide)) (f := (g3_wanted bpr)) rfl dX3_wantFall_64 rfl (fun H locs hP hD hS => ?_)
    exact hret _ _ _ _ _ (by subst hE; rfl) hP hS dX3_wantFall_65
  · have hE := hE.trans (if_neg c18)
    refine lv_aload_n hx hb dX3_wantFall_21 rfl (lv_at hl 1 rfl) ?_
    refine zg3_wanted S in_X3_wantFall_3 hK hP 0 rfl (List.mem_of_getElem? (i := 4) rfl) dX3_wantFall_22 ?_
    refine lv_iconst (v := 3) hx hb dX3_wantFall_25 (by decide) ?_
    refine lv_dup2_11 hx hb dX3_wantFall_26 rfl rfl ?_
    refine zl3_wanted S hK hP 0 rfl (zin_k (n := 3) rfl (by decide) (by decide)) (f := (g3_wanted bpr)) rfl dX3_wantFall_27 ?_
    refine lv_iload_n hx hb dX3_wantFall_28 rfl (lv_at hl 0 rfl) ?_
    obtain ⟨t29, ht29⟩ : ∃ z, FX8_lowestBit (((g0_body bc) x1.toNatClampNeg) &&& ((g6_known bv) (3 : Int32).toNatClampNeg)) = z := ⟨_, rfl⟩
    have hE := hE.trans (bnd_eq ht29)
    have hc := c_X8_lowestBit l G (((g0_body bc) x1.toNatClampNeg) &&& ((g6_known bv) (3 : Int32).toNatClampNeg)) _ ht29
    refine zgoR (va_runSN (As := [.int (((g0_body bc) x1.toNatClampNeg) &&& ((g6_known bv) (3 : Int32).toNatClampNeg))]) (rest := [.int ((g3_wanted bpr) (3 : Int32).toNatClampNeg), .int 3, .ref (apr 1)]) S (hc _) ⟨va_cnB (host := "RuleCourt") 1 S.2.2.2.2 gX3_wantFall_X8_lowestBit_n104 rfl rfl rfl (hK.2 _ (List.mem_of_getElem? (i := 17) rfl)) (S.2.2.2.2 _ (List.mem_of_getElem? (i := 7) rfl)) (by decide +kernel) ⟨Nat.le_of_ble_eq_true rfl, Nat.le_of_ble_eq_true rfl⟩, S.2.2.2.2 _ (List.mem_of_getElem? (i := 6) rfl), trivial⟩ (zpS hK hP hD (is := []) rfl rfl) rfl rfl hl.1 rfl (lv_room (Nat.le_of_ble_eq_true rfl)) dX3_wantFall_29 ⟨Nat.zero_le _, Nat.zero_le _⟩) (fun hn29 => ?_)
    refine lv_ior hx hb dX3_wantFall_32 ?_
    refine zs3_wanted (bs1 := [w3 G apr (av 0) (s3_wanted bpr (upd (g3_wanted bpr) (3 : Int32).toNatClampNeg (((g3_wanted bpr) (3 : Int32).toNatClampNeg) ||| t29))), w6 G av bv, w0 G ac bc]) S hK hP hD hS 0 rfl (zin_k (n := 3) rfl (by decide) (by decide)) (f := (g3_wanted bpr)) rfl dX3_wantFall_33 rfl (fun H locs hP hD hS => ?_)
    refine lv_goto (tgt := 65) hx hb dX3_wantFall_34 (by decide) ?_
    exact hret _ _ _ _ _ (by subst hE; rfl) hP hS dX3_wantFall_65

theorem in_X3_allAbove_3 : ∀ w ∈ u_ws RX3 TX3 4, w ∈ wsX3_allAbove := by decide +kernel
theorem in_X3_allAbove_6 : ∀ w ∈ u_ws RX6 TX6 12, w ∈ wsX3_allAbove := by decide +kernel
def rmX3_allAbove : Room := { frames := 1, cells := 0, slots := 0, locals := 21 }
set_option maxHeartbeats 4000000 in
set_option maxRecDepth 100000 in
theorem c_X3_allAbove (l : Launch) (G : zG) (apr : Nat → Nat) (av : Nat → Nat) (bpr : S3) (bv : S6) (x1 : Int32) (x2 : Int32) (T : Int32) (hT : FX3_allAbove (g6_above bv) x1 x2 = T) : zR l yX3_allAbove wsX3_allAbove rmX3_allAbove .int G [.ref (apr 0), .int x1, .int x2] [w3 G apr (av 0) bpr, w6 G av bv] T := by
  refine zR.mk (cc := cX3_allAbove) (maxL := 5) (by decide +kernel) rfl (Nat.le_of_ble_eq_true rfl) ?_
  intro p e s m args below meth c Q A ls S hK hD hA hP hl hret
  have hx := S.1
  have hb := S.2.1
  have hl : lv_has ls 5 [(0, .ref (apr 0)), (1, .int x1), (2, .int x2)] := hl
  have hE := hT.symm.trans (FX3_allAbove.eq_1 _ _ _)
  refine lv_iconst (v := 0) hx hb dX3_allAbove_0 (by decide) ?_
  refine lv_istore_n (lv' := [(3, .int 0), (0, .ref (apr 0)), (1, .int x1), (2, .int x2)]) hx hb dX3_allAbove_1 rfl hl (by decide) rfl (fun ls hl => ?_)
  refine lv_iconst (v := 0) hx hb dX3_allAbove_2 (by decide) ?_
  have hB51 : ∀ (x3_51 : Int32) (ls : Array Slot), T = FX3_allAbove_51 (g6_above bv) x1 x2 x3_51 → lv_has ls 5 [(3, .int x3_51)] → W p l e rmX3_allAbove s m args below meth c s.heap [] 0 0 Q (F0 m 51 ls []) := by
    intro x3_51 ls hE hl
    have hE := hE.trans (FX3_allAbove_51.eq_1 _ _ _ _)
    refine lv_iload_n hx hb dX3_allAbove_51 rfl (lv_at hl 0 rfl) ?_
    exact hret _ _ _ hE rfl dX3_allAbove_52
  have hB5 : ∀ (n5 : Nat) (x3_5 : Int32) (i4_5 : Nat) (ls : Array Slot), (i4_5 ≤ 16) → 17 ≤ i4_5 + n5 → T = FX3_allAbove_5 (g6_above bv) x1 x2 (FX3_allAbove_51 (g6_above bv) x1 x2) n5 x3_5 (nI i4_5) → lv_has ls 5 [(0, .ref (apr 0)), (1, .int x1), (2, .int x2), (3, .int x3_5), (4, .int (nI i4_5))] → W p l e rmX3_allAbove s m args below meth c s.heap [] 0 0 Q (F0 m 5 ls []) := by
    intro n5
    induction n5 with
    | zero =>
      intro x3_5 i4_5 ls hi4_5 hn hE hl
      exact absurd hn (by omega)
    | succ n5 ih5 =>
      intro x3_5 i4_5 ls hi4_5 hn hE hl
      have hE := hE.trans (FX3_allAbove_5.eq_2 _ _ _ _ _ _ _)
      refine lv_iload hx hb dX3_allAbove_5 (lv_at hl 4 rfl) ?_
      refine lv_bipush (v := 16) hx hb dX3_allAbove_7 (by decide) ?_
      refine lv_icmp_ge (tgt := 51) hx hb dX3_allAbove_9 (by decide) (fun c9 => ?_) (fun c9 => ?_)
      · have hE := hE.trans (if_pos c9)
        exact hB51 x3_5 _ hE (lv_sub hl [3] rfl)
      · have hE := hE.trans (if_neg c9)
        have hl4_5 : i4_5 < 16 := zlt (N := 16) rfl (by omega) (by omega) c9
        refine lv_iload_n hx hb dX3_allAbove_12 rfl (lv_at hl 1 rfl) ?_
        refine lv_iload hx hb dX3_allAbove_13 (lv_at hl 4 rfl) ?_
        obtain ⟨t15, ht15⟩ : ∃ z, FX8_has x1 (nI i4_5) = z := ⟨_, rfl⟩
        have hE := hE.trans (bnd_eq ht15)
        have hc := c_X8_has l G x1 (nI i4_5) _ ht15
        refine zgoR (va_runSN (As := [.int x1, .int (nI i4_5)]) (rest := []) S (hc _) ⟨va_cnB (host := "RuleCourt") 2 S.2.2.2.2 gX3_allAbove_X8_has_n82 rfl rfl rfl (hK.2 _ (List.mem_of_getElem? (i := 15) rfl)) (S.2.2.2.2 _ (List.mem_of_getElem? (i := 4) rfl)) (by decide +kernel) ⟨Nat.le_of_ble_eq_true rfl, Nat.le_of_ble_eq_true rfl⟩, S.2.2.2.2 _ (List.mem_of_getElem? (i := 3) rfl), trivial⟩ (zpS hK hP hD (is := []) rfl rfl) rfl rfl hl.1 rfl (lv_room (Nat.le_of_ble_eq_true rfl)) dX3_allAbove_15 ⟨Nat.zero_le _, Nat.zero_le _⟩) (fun hn15 => ?_)
        refine lv_if_eq (tgt := 45) hx hb dX3_allAbove_18 (by decide) (fun c18 => ?_) (fun c18 => ?_)
        · have hE := hE.trans (if_pos c18)
          refine lv_iinc (v := (nI (i4_5 + 1))) (lv' := [(4, .int (nI (i4_5 + 1))), (0, .ref (apr 0)), (1, .int x1), (2, .int x2), (3, .int x3_5)]) hx hb dX3_allAbove_45 hl (k := 4) rfl (nI_1 i4_5) (by decide) rfl (fun ls hl => ?_)
          try rw [nI_1 i4_5] at hE
          refine lv_goto (tgt := 5) hx hb dX3_allAbove_48 (by decide) ?_
          exact ih5 x3_5 (i4_5 + 1) _ (by first | assumption | omega) (by omega) hE (lv_sub hl [1, 2, 3, 4, 0] rfl)
        · have hE := hE.trans (if_neg c18)
          refine lv_aload_n hx hb dX3_allAbove_21 rfl (lv_at hl 0 rfl) ?_
          refine zg3_view S in_X3_allAbove_3 hK hP 0 rfl (List.mem_of_getElem? (i := 1) rfl) dX3_allAbove_22 ?_
          refine zg6_above S in_X3_allAbove_6 hK hP 1 rfl (List.mem_of_getElem? (i := 2) rfl) dX3_allAbove_25 ?_
          refine lv_iload hx hb dX3_allAbove_28 (lv_at hl 4 rfl) ?_
          refine zl6_above S hK hP 1 rfl (vp_in_nI (by omega) (by omega)) (f := (g6_above bv)) rfl dX3_allAbove_30 ?_
          refine lv_iload_n hx hb dX3_allAbove_31 rfl (lv_at hl 2 rfl) ?_
          obtain ⟨t32, ht32⟩ : ∃ z, FX8_has ((g6_above bv) (nI i4_5).toNatClampNeg) x2 = z := ⟨_, rfl⟩
          have hE := hE.trans (bnd_eq ht32)
          have hc := c_X8_has l G ((g6_above bv) (nI i4_5).toNatClampNeg) x2 _ ht32
          refine zgoR (va_runSN (As := [.int ((g6_above bv) (nI i4_5).toNatClampNeg), .int x2]) (rest := []) S (hc _) ⟨va_cnB (host := "RuleCourt") 2 S.2.2.2.2 gX3_allAbove_X8_has_n82 rfl rfl rfl (hK.2 _ (List.mem_of_getElem? (i := 15) rfl)) (S.2.2.2.2 _ (List.mem_of_getElem? (i := 4) rfl)) (by decide +kernel) ⟨Nat.le_of_ble_eq_true rfl, Nat.le_of_ble_eq_true rfl⟩, S.2.2.2.2 _ (List.mem_of_getElem? (i := 3) rfl), trivial⟩ (zpS hK hP hD (is := []) rfl rfl) rfl rfl hl.1 rfl (lv_room (Nat.le_of_ble_eq_true rfl)) dX3_allAbove_32 ⟨Nat.zero_le _, Nat.zero_le _⟩) (fun hn32 => ?_)
          refine lv_if_eq (tgt := 45) hx hb dX3_allAbove_35 (by decide) (fun c35 => ?_) (fun c35 => ?_)
          · have hE := hE.trans (if_pos c35)
            refine lv_iinc (v := (nI (i4_5 + 1))) (lv' := [(4, .int (nI (i4_5 + 1))), (0, .ref (apr 0)), (1, .int x1), (2, .int x2), (3, .int x3_5)]) hx hb dX3_allAbove_45 hl (k := 4) rfl (nI_1 i4_5) (by decide) rfl (fun ls hl => ?_)
            try rw [nI_1 i4_5] at hE
            refine lv_goto (tgt := 5) hx hb dX3_allAbove_48 (by decide) ?_
            exact ih5 x3_5 (i4_5 + 1) _ (by first | assumption | omega) (by omega) hE (lv_sub hl [1, 2, 3, 4, 0] rfl)
          · have hE := hE.trans (if_neg c35)
            refine lv_iload_n hx hb dX3_allAbove_38 rfl (lv_at hl 3 rfl) ?_
            refine lv_iconst (v := 1) hx hb dX3_allAbove_39 (by decide) ?_
            refine lv_iload hx hb dX3_allAbove_40 (lv_at hl 4 rfl) ?_
            refine lv_ishl hx hb dX3_allAbove_42 ?_
            refine lv_ior hx hb dX3_allAbove_43 ?_
            refine lv_istore_n (lv' := [(3, .int (x3_5 ||| (1 <<< ((nI i4_5) &&& 31)))), (0, .ref (apr 0)), (1, .int x1), (2, .int x2), (4, .int (nI i4_5))]) hx hb dX3_allAbove_44 rfl hl (by decide) rfl (fun ls hl => ?_)
            refine lv_iinc (v := (nI (i4_5 + 1))) (lv' := [(4, .int (nI (i4_5 + 1))), (3, .int (x3_5 ||| (1 <<< ((nI i4_5) &&& 31)))), (0, .ref (apr 0)), (1, .int x1), (2, .int x2)]) hx hb dX3_allAbove_45 hl (k := 4) rfl (nI_1 i4_5) (by decide) rfl (fun ls hl => ?_)
            try rw [nI_1 i4_5] at hE
            refine lv_goto (tgt := 5) hx hb dX3_allAbove_48 (by decide) ?_
            exact ih5 (x3_5 ||| (1 <<< ((nI i4_5) &&& 31))) (i4_5 + 1) _ (by first | assumption | omega) (by omega) hE (lv_sub hl [2, 3, 4, 1, 0] rfl)
  refine lv_istore (lv' := [(4, .int 0), (3, .int 0), (0, .ref (apr 0)), (1, .int x1), (2, .int x2)]) hx hb dX3_allAbove_3 hl (by decide) rfl (fun ls hl => ?_)
  exact hB5 17 0 0 _ (by first | assumption | omega) (by omega) hE (lv_sub hl [2, 3, 4, 1, 0] rfl)

theorem in_X3_wantForLikely_3 : ∀ w ∈ u_ws RX3 TX3 4, w ∈ wsX3_wantForLikely := by decide +kernel
theorem in_X3_wantForLikely_6 : ∀ w ∈ u_ws RX6 TX6 12, w ∈ wsX3_wantForLikely := by decide +kernel
def rmX3_wantForLikely : Room := { frames := 2, cells := 0, slots := 0, locals := 45 }
set_option maxHeartbeats 4000000 in
set_option maxRecDepth 100000 in
theorem c_X3_wantForLikely (l : Launch) (G : zG) (apr : Nat → Nat) (av : Nat → Nat) (ac : Nat → Nat) (bpr : S3) (bv : S6) (bc : S0) (x1 : Int32) (hx1_20 : vp_in x1 20) (T : (Nat → Int32)) (hT : FX3_wantForLikely (g3_wanted bpr) (g6_known bv) (g6_forwardFor bv) (g6_allFor bv) (g6_above bv) (g6_applies bv) (g6_falls bv) (g0_body bc) (g0_excepts bc) x1 = T) : zV l yX3_wantForLikely wsX3_wantForLikely rmX3_wantForLikely G [.ref (apr 0), .int x1, .ref (ac 0)] [w3 G apr (av 0) bpr, w6 G av bv, w0 G ac bc] [w3 G apr (av 0) (s3_wanted bpr T), w6 G av bv, w0 G ac bc] := by
  refine zV.mk (cc := cX3_wantForLikely) (maxL := 5) (by decide +kernel) rfl (Nat.le_of_ble_eq_true rfl) (zfl_cons (wf3 _ _ _ _ _) (zfl_cons rfl (zfl_cons rfl rfl))) ?_
  intro p e s m args below meth c Q A ls S hK hD hA hP hl hret
  have hx := S.1
  have hb := S.2.1
  have hS : va_S A s.heap s.heap [] := va_S.rf
  have hl : lv_has ls 5 [(0, .ref (apr 0)), (1, .int x1), (2, .ref (ac 0))] := hl
  have hE := hT.symm.trans (FX3_wantForLikely.eq_1 _ _ _ _ _ _ _ _ _ _)
  refine lv_aload_n hx hb dX3_wantForLikely_0 rfl (lv_at hl 0 rfl) ?_
  refine zg3_view S in_X3_wantForLikely_3 hK hP 0 rfl (List.mem_of_getElem? (i := 1) rfl) dX3_wantForLikely_1 ?_
  refine zg6_known S in_X3_wantForLikely_6 hK hP 1 rfl (List.mem_of_getElem? (i := 2) rfl) dX3_wantForLikely_4 ?_
  refine lv_iconst (v := 0) hx hb dX3_wantForLikely_7 (by decide) ?_
  refine zl6_known S hK hP 1 rfl (zin_k (n := 0) rfl (by decide) (by decide)) (f := (g6_known bv)) rfl dX3_wantForLikely_8 ?_
  refine lv_iload_n hx hb dX3_wantForLikely_9 rfl (lv_at hl 1 rfl) ?_
  obtain ⟨t10, ht10⟩ : ∃ z, FX8_has ((g6_known bv) (0 : Int32).toNatClampNeg) x1 = z := ⟨_, rfl⟩
  have hE := hE.trans (bnd_eq ht10)
  have hc := c_X8_has l G ((g6_known bv) (0 : Int32).toNatClampNeg) x1 _ ht10
  refine zgoR (va_runSN (As := [.int ((g6_known bv) (0 : Int32).toNatClampNeg), .int x1]) (rest := []) S (hc _) ⟨va_cnB (host := "RuleCourt") 2 S.2.2.2.2 gX3_wantForLikely_X8_has_n82 rfl rfl rfl (hK.2 _ (List.mem_of_getElem? (i := 15) rfl)) (S.2.2.2.2 _ (List.mem_of_getElem? (i := 7) rfl)) (by decide +kernel) ⟨Nat.le_of_ble_eq_true rfl, Nat.le_of_ble_eq_true rfl⟩, S.2.2.2.2 _ (List.mem_of_getElem? (i := 6) rfl), trivial⟩ (zpS hK hP hD (is := []) rfl rfl) rfl rfl hl.1 rfl (lv_room (Nat.le_of_ble_eq_true rfl)) dX3_wantForLikely_10 ⟨Nat.zero_le _, Nat.zero_le _⟩) (fun hn10 => ?_)
  refine lv_if_eq (tgt := 29) hx hb dX3_wantForLikely_13 (by decide) (fun c13 => ?_) (fun c13 => ?_)
  · have hE := hE.trans (if_pos c13)
    refine lv_iload_n hx hb dX3_wantForLikely_29 rfl (lv_at hl 1 rfl) ?_
    obtain ⟨t30, ht30⟩ : ∃ z, FX8_otherOf x1 = z := ⟨_, rfl⟩
    have hE := hE.trans (bnd_eq ht30)
    have hc := c_X8_otherOf l G x1 _ ht30
    refine zgoR (va_runSN (As := [.int x1]) (rest := []) S (hc _) ⟨va_cnB (host := "RuleCourt") 1 S.2.2.2.2 gX3_wantForLikely_X8_otherOf_n107 rfl rfl rfl (hK.2 _ (List.mem_of_getElem? (i := 18) rfl)) (S.2.2.2.2 _ (List.mem_of_getElem? (i := 7) rfl)) (by decide +kernel) ⟨Nat.le_of_ble_eq_true rfl, Nat.le_of_ble_eq_true rfl⟩, S.2.2.2.2 _ (List.mem_of_getElem? (i := 9) rfl), trivial⟩ (zpS hK hP hD (is := []) rfl rfl) rfl rfl hl.1 rfl (lv_room (Nat.le_of_ble_eq_true rfl)) dX3_wantForLikely_30 ⟨Nat.zero_le _, Nat.zero_le _⟩) (fun hn30 => ?_)
    have hq30 : vp_in t30 20 := by rw [← ht30]; exact zother hx1_20
    refine lv_istore_n (lv' := [(3, .int t30), (0, .ref (apr 0)), (1, .int x1), (2, .ref (ac 0))]) hx hb dX3_wantForLikely_33 rfl hl (by decide) rfl (fun ls hl => ?_)
    refine lv_aload_n hx hb dX3_wantForLikely_34 rfl (lv_at hl 1 rfl) ?_
    refine lv_aload_n hx hb dX3_wantForLikely_35 rfl (lv_at hl 1 rfl) ?_
    refine zg3_view S in_X3_wantForLikely_3 hK hP 0 rfl (List.mem_of_getElem? (i := 1) rfl) dX3_wantForLikely_36 ?_
    refine lv_iload_n hx hb dX3_wantForLikely_39 rfl (lv_at hl 2 rfl) ?_
    obtain ⟨t40, ht40⟩ : ∃ z, FX6_team (g6_forwardFor bv) (g6_applies bv) x1 = z := ⟨_, rfl⟩
    have hE := hE.trans (bnd_eq ht40)
    have hc := c_X6_team l G av bv x1 (hx1_20) _ ht40
    refine zgoR (va_runV (As := [.int x1]) (rest := [.ref (apr 0)]) S (hc _) (cwV 1 S.2.2.2.2 gX3_wantForLikely_X6_team rfl rfl rfl (by decide +kernel) ⟨Nat.le_of_ble_eq_true rfl, Nat.le_of_ble_eq_true rfl⟩) (zpV hK hP hD (is := [1]) rfl rfl 1 rfl rfl (ci := 6) rfl) rfl rfl hl.1 rfl (lv_room (Nat.le_of_ble_eq_true rfl)) dX3_wantForLikely_40 ⟨Nat.zero_le _, Nat.zero_le _⟩) (fun hn40 => ?_)
    obtain ⟨t43, ht43⟩ : ∃ z, FX8_firstRule t40 = z := ⟨_, rfl⟩
    have hE := hE.trans (bnd_eq ht43)
    have hc := c_X8_firstRule l G t40 _ ht43
    refine zgoR (va_runSN (As := [.int t40]) (rest := [.ref (apr 0)]) S (hc _) ⟨va_cnB (host := "RuleCourt") 1 S.2.2.2.2 gX3_wantForLikely_X8_firstRule_n92 rfl rfl rfl (hK.2 _ (List.mem_of_getElem? (i := 16) rfl)) (S.2.2.2.2 _ (List.mem_of_getElem? (i := 7) rfl)) (by decide +kernel) ⟨Nat.le_of_ble_eq_true rfl, Nat.le_of_ble_eq_true rfl⟩, S.2.2.2.2 _ (List.mem_of_getElem? (i := 18) rfl), trivial⟩ (zpS hK hP hD (is := []) rfl rfl) rfl rfl hl.1 rfl (lv_room (Nat.le_of_ble_eq_true rfl)) dX3_wantForLikely_43 ⟨Nat.zero_le _, Nat.zero_le _⟩) (fun hn43 => ?_)
    have hf43 : ∃ j : Nat, j ≤ 16 ∧ t43 = nI j := by rw [← ht43]; exact zfirst _
    refine lv_aload_n hx hb dX3_wantForLikely_46 rfl (lv_at hl 3 rfl) ?_
    obtain ⟨t47, ht47⟩ : ∃ z, FX3_wantForce (g3_wanted bpr) (g0_body bc) (g0_excepts bc) t43 = z := ⟨_, rfl⟩
    have hE := hE.trans (bnd_eq ht47)
    have hc := c_X3_wantForce l G apr av ac bpr bv bc t43 (hf43) _ ht47
    refine zgoV (bs' := [w3 G apr (av 0) (s3_wanted bpr t47), w6 G av bv, w0 G ac bc]) hc [0, 1, 2] rfl rfl rfl hP hD hS hA (va_runV (As := [.int t43, .ref (ac 0)]) (rest := []) S (hc.2 _) (cwV 2 S.2.2.2.2 gX3_wantForLikely_X3_wantForce rfl rfl rfl (by decide +kernel) ⟨Nat.le_of_ble_eq_true rfl, Nat.le_of_ble_eq_true rfl⟩) (zpV hK hP hD (is := [0, 1, 2]) rfl rfl 0 rfl rfl (ci := 3) rfl) rfl rfl hl.1 rfl (lv_room (Nat.le_of_ble_eq_true rfl)) dX3_wantForLikely_47 ⟨Nat.zero_le _, Nat.zero_le _⟩) (fun H locs hP hD hS => ?_)
    refine lv_aload_n hx hb dX3_wantForLikely_50 rfl (lv_at hl 1 rfl) ?_
    refine zg3_wanted S in_X3_wantForLikely_3 hK hP 0 rfl (List.mem_of_getElem? (i := 3) rfl) dX3_wantForLikely_51 ?_
    refine lv_iconst (v := 1) hx hb dX3_wantForLikely_54 (by decide) ?_
    refine lv_dup2_11 hx hb dX3_wantForLikely_55 rfl rfl ?_
    refine zl3_wanted S hK hP 0 rfl (zin_k (n := 1) rfl (by decide) (by decide)) (f := t47) (gg3_wanted _ t47) dX3_wantForLikely_56 ?_
    refine lv_iconst (v := 1) hx hb dX3_wantForLikely_57 (by decide) ?_
    refine lv_iload_n hx hb dX3_wantForLikely_58 rfl (lv_at hl 0 rfl) ?_
    refine lv_ishl hx hb dX3_wantForLikely_59 ?_
    refine lv_ior hx hb dX3_wantForLikely_60 ?_
    refine zs3_wanted (bs1 := [w3 G apr (av 0) (s3_wanted (s3_wanted bpr t47) (upd t47 (1 : Int32).toNatClampNeg ((t47 (1 : Int32).toNatClampNeg) ||| (1 <<< (t30 &&& 31))))), w6 G av bv, w0 G ac bc]) S hK hP hD hS 0 rfl (zin_k (n := 1) rfl (by decide) (by decide)) (f := t47) (gg3_wanted _ t47) dX3_wantForLikely_61 rfl (fun H locs hP hD hS => ?_)
    refine lv_iconst (v := 0) hx hb dX3_wantForLikely_62 (by decide) ?_
    have hB152 : ∀ (pr_wanted_152 : Nat → Int32) (H : Heap) (locs : List Loc) (ls : Array Slot), T = FX3_wantForLikely_152 (g3_wanted bpr) (g6_known bv) (g6_forwardFor bv) (g6_allFor bv) (g6_above bv) (g6_applies bv) (g6_falls bv) (g0_body bc) (g0_excepts bc) x1 pr_wanted_152 → zP G [w3 G apr (av 0) (s3_wanted bpr pr_wanted_152), w6 G av bv, w0 G ac bc] H → zD A [w3 G apr (av 0) (s3_wanted bpr pr_wanted_152), w6 G av bv, w0 G ac bc] → va_S A s.heap H locs → lv_has ls 5 [] → W p l e rmX3_wantForLikely s m args below meth c H locs 0 0 Q (F0 m 152 ls []) := by
      intro pr_wanted_152 H locs ls hE hP hD hS hl
      have hE := hE.trans (FX3_wantForLikely_152.eq_1 _ _ _ _ _ _ _ _ _ _ _)
      exact hret _ _ _ _ _ (by subst hE; rfl) hP hS dX3_wantForLikely_152
    have hB65 : ∀ (n65 : Nat) (i4_65 : Nat) (pr_wanted_65 : Nat → Int32) (H : Heap) (locs : List Loc) (ls : Array Slot), (i4_65 ≤ 16) → 17 ≤ i4_65 + n65 → T = FX3_wantForLikely_65 (g3_wanted bpr) (g6_known bv) (g6_forwardFor bv) (g6_allFor bv) (g6_above bv) (g6_applies bv) (g6_falls bv) (g0_body bc) (g0_excepts bc) x1 (FX3_wantForLikely_152 (g3_wanted bpr) (g6_known bv) (g6_forwardFor bv) (g6_allFor bv) (g6_above bv) (g6_applies bv) (g6_falls bv) (g0_body bc) (g0_excepts bc) x1) n65 t30 (nI i4_65) pr_wanted_65 → zP G [w3 G apr (av 0) (s3_wanted bpr pr_wanted_65), w6 G av bv, w0 G ac bc] H → zD A [w3 G apr (av 0) (s3_wanted bpr pr_wanted_65), w6 G av bv, w0 G ac bc] → va_S A s.heap H locs → lv_has ls 5 [(0, .ref (apr 0)), (1, .int x1), (2, .ref (ac 0)), (3, .int t30), (4, .int (nI i4_65))] → W p l e rmX3_wantForLikely s m args below meth c H locs 0 0 Q (F0 m 65 ls []) := by
      intro n65
      induction n65 with
      | zero =>
        intro i4_65 pr_wanted_65 H locs ls hi4_65 hn hE hP hD hS hl
        exact absurd hn (by omega)
      | succ n65 ih65 =>
        intro i4_65 pr_wanted_65 H locs ls hi4_65 hn hE hP hD hS hl
        have hE := hE.trans (FX3_wantForLikely_65.eq_2 _ _ _ _ _ _ _ _ _ _ _ _ _ _ _)
        refine lv_iload hx hb dX3_wantForLikely_65 (lv_at hl 4 rfl) ?_
        refine lv_bipush (v := 16) hx hb dX3_wantForLikely_67 (by decide) ?_
        refine lv_icmp_ge (tgt := 152) hx hb dX3_wantForLikely_69 (by decide) (fun c69 => ?_) (fun c69 => ?_)
        · have hE := hE.trans (if_pos c69)
          exact hB152 pr_wanted_65 _ _ _ hE hP hD hS (lv_sub hl [] rfl)
        · have hE := hE.trans (if_neg c69)
          have hl4_65 : i4_65 < 16 := zlt (N := 16) rfl (by omega) (by omega) c69
          refine lv_aload_n hx hb dX3_wantForLikely_72 rfl (lv_at hl 0 rfl) ?_
          refine zg3_view S in_X3_wantForLikely_3 hK hP 0 rfl (List.mem_of_getElem? (i := 1) rfl) dX3_wantForLikely_73 ?_
          refine zg6_allFor S in_X3_wantForLikely_6 hK hP 1 rfl (List.mem_of_getElem? (i := 4) rfl) dX3_wantForLikely_76 ?_
          refine lv_iload_n hx hb dX3_wantForLikely_79 rfl (lv_at hl 3 rfl) ?_
          refine zl6_allFor S hK hP 1 rfl (hq30) (f := (g6_allFor bv)) rfl dX3_wantForLikely_80 ?_
          refine lv_aload_n hx hb dX3_wantForLikely_81 rfl (lv_at hl 0 rfl) ?_
          refine zg3_view S in_X3_wantForLikely_3 hK hP 0 rfl (List.mem_of_getElem? (i := 1) rfl) dX3_wantForLikely_82 ?_
          refine zg6_falls S in_X3_wantForLikely_6 hK hP 1 rfl (List.mem_of_getElem? (i := 5) rfl) (v := (g6_falls bv)) rfl dX3_wantForLikely_85 ?_
          refine lv_iand hx hb dX3_wantForLikely_88 ?_
          refine lv_iload hx hb dX3_wantForLikely_89 (lv_at hl 4 rfl) ?_
          obtain ⟨t91, ht91⟩ : ∃ z, FX8_has (((g6_allFor bv) t30.toNatClampNeg) &&& (g6_falls bv)) (nI i4_65) = z := ⟨_, rfl⟩
          have hE := hE.trans (bnd_eq ht91)
          have hc := c_X8_has l G (((g6_allFor bv) t30.toNatClampNeg) &&& (g6_falls bv)) (nI i4_65) _ ht91
          refine zgoR (va_runSN (As := [.int (((g6_allFor bv) t30.toNatClampNeg) &&& (g6_falls bv)), .int (nI i4_65)]) (rest := []) S (hc _) ⟨va_cnB (host := "RuleCourt") 2 S.2.2.2.2 gX3_wantForLikely_X8_has_n82 rfl rfl rfl (hK.2 _ (List.mem_of_getElem? (i := 15) rfl)) (S.2.2.2.2 _ (List.mem_of_getElem? (i := 7) rfl)) (by decide +kernel) ⟨Nat.le_of_ble_eq_true rfl, Nat.le_of_ble_eq_true rfl⟩, S.2.2.2.2 _ (List.mem_of_getElem? (i := 6) rfl), trivial⟩ (zpS hK hP hD (is := []) rfl rfl) rfl rfl hl.1 rfl (lv_room (Nat.le_of_ble_eq_true rfl)) dX3_wantForLikely_91 ⟨Nat.zero_le _, Nat.zero_le _⟩) (fun hn91 => ?_)
          refine lv_if_eq (tgt := 107) hx hb dX3_wantForLikely_94 (by decide) (fun c94 => ?_) (fun c94 => ?_)
          · have hE := hE.trans (if_pos c94)
            refine lv_aload_n hx hb dX3_wantForLikely_107 rfl (lv_at hl 0 rfl) ?_
            refine zg3_view S in_X3_wantForLikely_3 hK hP 0 rfl (List.mem_of_getElem? (i := 1) rfl) dX3_wantForLikely_108 ?_
            refine zg6_allFor S in_X3_wantForLikely_6 hK hP 1 rfl (List.mem_of_getElem? (i := 4) rfl) dX3_wantForLikely_111 ?_
            refine lv_iload_n hx hb dX3_wantForLikely_114 rfl (lv_at hl 3 rfl) ?_
            refine zl6_allFor S hK hP 1 rfl (hq30) (f := (g6_allFor bv)) rfl dX3_wantForLikely_115 ?_
            refine lv_iload hx hb dX3_wantForLikely_116 (lv_at hl 4 rfl) ?_
            obtain ⟨t118, ht118⟩ : ∃ z, FX8_has ((g6_allFor bv) t30.toNatClampNeg) (nI i4_65) = z := ⟨_, rfl⟩
            have hE := hE.trans (bnd_eq ht118)
            have hc := c_X8_has l G ((g6_allFor bv) t30.toNatClampNeg) (nI i4_65) _ ht118
            refine zgoR (va_runSN (As := [.int ((g6_allFor bv) t30.toNatClampNeg), .int (nI i4_65)]) (rest := []) S (hc _) ⟨va_cnB (host := "RuleCourt") 2 S.2.2.2.2 gX3_wantForLikely_X8_has_n82 rfl rfl rfl (hK.2 _ (List.mem_of_getElem? (i := 15) rfl)) (S.2.2.2.2 _ (List.mem_of_getElem? (i := 7) rfl)) (by decide +kernel) ⟨Nat.le_of_ble_eq_true rfl, Nat.le_of_ble_eq_true rfl⟩, S.2.2.2.2 _ (List.mem_of_getElem? (i := 6) rfl), trivial⟩ (zpS hK hP hD (is := []) rfl rfl) rfl rfl hl.1 rfl (lv_room (Nat.le_of_ble_eq_true rfl)) dX3_wantForLikely_118 ⟨Nat.zero_le _, Nat.zero_le _⟩) (fun hn118 => ?_)
            refine lv_if_eq (tgt := 146) hx hb dX3_wantForLikely_121 (by decide) (fun c121 => ?_) (fun c121 => ?_)
            · have hE := hE.trans (if_pos c121)
              refine lv_iinc (v := (nI (i4_65 + 1))) (lv' := [(4, .int (nI (i4_65 + 1))), (0, .ref (apr 0)), (1, .int x1), (2, .ref (ac 0)), (3, .int t30)]) hx hb dX3_wantForLikely_146 hl (k := 4) rfl (nI_1 i4_65) (by decide) rfl (fun ls hl => ?_)
              try rw [nI_1 i4_65] at hE
              refine lv_goto (tgt := 65) hx hb dX3_wantForLikely_149 (by decide) ?_
              exact ih65 (i4_65 + 1) pr_wanted_65 _ _ _ (by first | assumption | omega) (by omega) hE hP hD hS (lv_sub hl [1, 2, 3, 4, 0] rfl)
            · have hE := hE.trans (if_neg c121)
              refine lv_aload_n hx hb dX3_wantForLikely_124 rfl (lv_at hl 0 rfl) ?_
              refine lv_aload_n hx hb dX3_wantForLikely_125 rfl (lv_at hl 0 rfl) ?_
              refine lv_aload_n hx hb dX3_wantForLikely_126 rfl (lv_at hl 0 rfl) ?_
              refine zg3_view S in_X3_wantForLikely_3 hK hP 0 rfl (List.mem_of_getElem? (i := 1) rfl) dX3_wantForLikely_127 ?_
              refine lv_iload_n hx hb dX3_wantForLikely_130 rfl (lv_at hl 1 rfl) ?_
              obtain ⟨t131, ht131⟩ : ∃ z, FX6_team (g6_forwardFor bv) (g6_applies bv) x1 = z := ⟨_, rfl⟩
              have hE := hE.trans (bnd_eq ht131)
              have hc := c_X6_team l G av bv x1 (hx1_20) _ ht131
              refine zgoR (va_runV (As := [.int x1]) (rest := [.ref (apr 0), .ref (apr 0)]) S (hc _) (cwV 1 S.2.2.2.2 gX3_wantForLikely_X6_team rfl rfl rfl (by decide +kernel) ⟨Nat.le_of_ble_eq_true rfl, Nat.le_of_ble_eq_true rfl⟩) (zpV hK hP hD (is := [1]) rfl rfl 1 rfl rfl (ci := 6) rfl) rfl rfl hl.1 rfl (lv_room (Nat.le_of_ble_eq_true rfl)) dX3_wantForLikely_131 ⟨Nat.zero_le _, Nat.zero_le _⟩) (fun hn131 => ?_)
              refine lv_iload hx hb dX3_wantForLikely_134 (lv_at hl 4 rfl) ?_
              obtain ⟨t136, ht136⟩ : ∃ z, FX3_allAbove (g6_above bv) t131 (nI i4_65) = z := ⟨_, rfl⟩
              have hE := hE.trans (bnd_eq ht136)
              have hc := c_X3_allAbove l G apr av (s3_wanted bpr pr_wanted_65) bv t131 (nI i4_65) _ ht136
              refine zgoR (va_runV (As := [.int t131, .int (nI i4_65)]) (rest := [.ref (apr 0)]) S (hc _) (cwV 2 S.2.2.2.2 gX3_wantForLikely_X3_allAbove rfl rfl rfl (by decide +kernel) ⟨Nat.le_of_ble_eq_true rfl, Nat.le_of_ble_eq_true rfl⟩) (zpV hK hP hD (is := [0, 1]) rfl rfl 0 rfl rfl (ci := 3) rfl) rfl rfl hl.1 rfl (lv_room (Nat.le_of_ble_eq_true rfl)) dX3_wantForLikely_136 ⟨Nat.zero_le _, Nat.zero_le _⟩) (fun hn136 => ?_)
              obtain ⟨t139, ht139⟩ : ∃ z, FX8_firstRule t136 = z := ⟨_, rfl⟩
              have hE := hE.trans (bnd_eq ht139)
              have hc := c_X8_firstRule l G t136 _ ht139
              refine zgoR (va_runSN (As := [.int t136]) (rest := [.ref (apr 0)]) S (hc _) ⟨va_cnB (host := "RuleCourt") 1 S.2.2.2.2 gX3_wantForLikely_X8_firstRule_n92 rfl rfl rfl (hK.2 _ (List.mem_of_getElem? (i := 16) rfl)) (S.2.2.2.2 _ (List.mem_of_getElem? (i := 7) rfl)) (by decide +kernel) ⟨Nat.le_of_ble_eq_true rfl, Nat.le_of_ble_eq_true rfl⟩, S.2.2.2.2 _ (List.mem_of_getElem? (i := 18) rfl), trivial⟩ (zpS hK hP hD (is := []) rfl rfl) rfl rfl hl.1 rfl (lv_room (Nat.le_of_ble_eq_true rfl)) dX3_wantForLikely_139 ⟨Nat.zero_le _, Nat.zero_le _⟩) (fun hn139 => ?_)
              have hf139 : ∃ j : Nat, j ≤ 16 ∧ t139 = nI j := by rw [← ht139]; exact zfirst _
              refine lv_aload_n hx hb dX3_wantForLikely_142 rfl (lv_at hl 2 rfl) ?_
              obtain ⟨t143, ht143⟩ : ∃ z, FX3_wantForce pr_wanted_65 (g0_body bc) (g0_excepts bc) t139 = z := ⟨_, rfl⟩
              have hE := hE.trans (bnd_eq ht143)
              have hc := c_X3_wantForce l G apr av ac (s3_wanted bpr pr_wanted_65) bv bc t139 (hf139) _ (by simp only [gg3_wanted]; exact ht143)
              refine zgoV (bs' := [w3 G apr (av 0) (s3_wanted (s3_wanted bpr pr_wanted_65) t143), w6 G av bv, w0 G ac bc]) hc [0, 1, 2] rfl rfl rfl hP hD hS hA (va_runV (As := [.int t139, .ref (ac 0)]) (rest := []) S (hc.2 _) (cwV 2 S.2.2.2.2 gX3_wantForLikely_X3_wantForce rfl rfl rfl (by decide +kernel) ⟨Nat.le_of_ble_eq_true rfl, Nat.le_of_ble_eq_true rfl⟩) (zpV hK hP hD (is := [0, 1, 2]) rfl rfl 0 rfl rfl (ci := 3) rfl) rfl rfl hl.1 rfl (lv_room (Nat.le_of_ble_eq_true rfl)) dX3_wantForLikely_143 ⟨Nat.zero_le _, Nat.zero_le _⟩) (fun H locs hP hD hS => ?_)
              refine lv_iinc (v := (nI (i4_65 + 1))) (lv' := [(4, .int (nI (i4_65 + 1))), (0, .ref (apr 0)), (1, .int x1), (2, .ref (ac 0)), (3, .int t30)]) hx hb dX3_wantForLikely_146 hl (k := 4) rfl (nI_1 i4_65) (by decide) rfl (fun ls hl => ?_)
              try rw [nI_1 i4_65] at hE
              refine lv_goto (tgt := 65) hx hb dX3_wantForLikely_149 (by decide) ?_
              rw [show (s3_wanted (s3_wanted bpr pr_wanted_65) t143) = (s3_wanted bpr t143) from (ss3_wanted _ pr_wanted_65 t143)] at hP hD
              exact ih65 (i4_65 + 1) t143 _ _ _ (by first | assumption | omega) (by omega) hE hP hD hS (lv_sub hl [1, 2, 3, 4, 0] rfl)
          · have hE := hE.trans (if_neg c94)
            refine lv_aload_n hx hb dX3_wantForLikely_97 rfl (lv_at hl 0 rfl) ?_
            refine lv_iload hx hb dX3_wantForLikely_98 (lv_at hl 4 rfl) ?_
            refine lv_aload_n hx hb dX3_wantForLikely_100 rfl (lv_at hl 2 rfl) ?_
            obtain ⟨t101, ht101⟩ : ∃ z, FX3_wantFall pr_wanted_65 (g6_known bv) (g0_body bc) (g0_excepts bc) (nI i4_65) = z := ⟨_, rfl⟩
            have hE := hE.trans (bnd_eq ht101)
            have hc := c_X3_wantFall l G apr av ac (s3_wanted bpr pr_wanted_65) bv bc (nI i4_65) ((vp_in_nI (by omega) (by omega))) _ (by simp only [gg3_wanted]; exact ht101)
            refine zgoV (bs' := [w3 G apr (av 0) (s3_wanted (s3_wanted bpr pr_wanted_65) t101), w6 G av bv, w0 G ac bc]) hc [0, 1, 2] rfl rfl rfl hP hD hS hA (va_runV (As := [.int (nI i4_65), .ref (ac 0)]) (rest := []) S (hc.2 _) (cwV 2 S.2.2.2.2 gX3_wantForLikely_X3_wantFall rfl rfl rfl (by decide +kernel) ⟨Nat.le_of_ble_eq_true rfl, Nat.le_of_ble_eq_true rfl⟩) (zpV hK hP hD (is := [0, 1, 2]) rfl rfl 0 rfl rfl (ci := 3) rfl) rfl rfl hl.1 rfl (lv_room (Nat.le_of_ble_eq_true rfl)) dX3_wantForLikely_101 ⟨Nat.zero_le _, Nat.zero_le _⟩) (fun H locs hP hD hS => ?_)
            refine lv_goto (tgt := 146) hx hb dX3_wantForLikely_104 (by decide) ?_
            refine lv_iinc (v := (nI (i4_65 + 1))) (lv' := [(4, .int (nI (i4_65 + 1))), (0, .ref (apr 0)), (1, .int x1), (2, .ref (ac 0)), (3, .int t30)]) hx hb dX3_wantForLikely_146 hl (k := 4) rfl (nI_1 i4_65) (by decide) rfl (fun ls hl => ?_)
            try rw [nI_1 i4_65] at hE
            refine lv_goto (tgt := 65) hx hb dX3_wantForLikely_149 (by decide) ?_
            rw [show (s3_wanted (s3_wanted bpr pr_wanted_65) t101) = (s3_wanted bpr t101) from (ss3_wanted _ pr_wanted_65 t101)] at hP hD
            exact ih65 (i4_65 + 1) t101 _ _ _ (by first | assumption | omega) (by omega) hE hP hD hS (lv_sub hl [1, 2, 3, 4, 0] rfl)
    refine lv_istore (lv' := [(4, .int 0), (3, .int t30), (0, .ref (apr 0)), (1, .int x1), (2, .ref (ac 0))]) hx hb dX3_wantForLikely_63 hl (by decide) rfl (fun ls hl => ?_)
    rw [show (s3_wanted (s3_wanted bpr t47) (upd t47 (1 : Int32).toNatClampNeg ((t47 (1 : Int32).toNatClampNeg) ||| (1 <<< (t30 &&& 31))))) = (s3_wanted bpr (upd t47 (1 : Int32).toNatClampNeg ((t47 (1 : Int32).toNatClampNeg) ||| (1 <<< (t30 &&& 31))))) from (ss3_wanted _ t47 (upd t47 (1 : Int32).toNatClampNeg ((t47 (1 : Int32).toNatClampNeg) ||| (1 <<< (t30 &&& 31)))))] at hP hD
    exact hB65 17 0 (upd t47 (1 : Int32).toNatClampNeg ((t47 (1 : Int32).toNatClampNeg) ||| (1 <<< (t30 &&& 31)))) _ _ _ (by first | assumption | omega) (by omega) hE hP hD hS (lv_sub hl [2, 3, 4, 1, 0] rfl)
  · have hE := hE.trans (if_neg c13)
    refine lv_aload_n hx hb dX3_wantForLikely_16 rfl (lv_at hl 0 rfl) ?_
    refine zg3_wanted S in_X3_wantForLikely_3 hK hP 0 rfl (List.mem_of_getElem? (i := 3) rfl) dX3_wantForLikely_17 ?_
    refine lv_iconst (v := 0) hx hb dX3_wantForLikely_20 (by decide) ?_
    refine lv_dup2_11 hx hb dX3_wantForLikely_21 rfl rfl ?_
    refine zl3_wanted S hK hP 0 rfl (zin_k (n := 0) rfl (by decide) (by decide)) (f := (g3_wanted bpr)) rfl dX3_wantForLikely_22 ?_
    refine lv_iconst (v := 1) hx hb dX3_wantForLikely_23 (by decide) ?_
    refine lv_iload_n hx hb dX3_wantForLikely_24 rfl (lv_at hl 1 rfl) ?_
    refine lv_ishl hx hb dX3_wantForLikely_25 ?_
    refine lv_ior hx hb dX3_wantForLikely_26 ?_
    refine zs3_wanted (bs1 := [w3 G apr (av 0) (s3_wanted bpr (upd (g3_wanted bpr) (0 : Int32).toNatClampNeg (((g3_wanted bpr) (0 : Int32).toNatClampNeg) ||| (1 <<< (x1 &&& 31))))), w6 G av bv, w0 G ac bc]) S hK hP hD hS 0 rfl (zin_k (n := 0) rfl (by decide) (by decide)) (f := (g3_wanted bpr)) rfl dX3_wantForLikely_27 rfl (fun H locs hP hD hS => ?_)
    exact hret _ _ _ _ _ (by subst hE; rfl) hP hS dX3_wantForLikely_28

def rmX3_wantFalls : Room := { frames := 2, cells := 0, slots := 0, locals := 43 }
set_option maxHeartbeats 4000000 in
set_option maxRecDepth 100000 in
theorem c_X3_wantFalls (l : Launch) (G : zG) (apr : Nat → Nat) (av : Nat → Nat) (ac : Nat → Nat) (bpr : S3) (bv : S6) (bc : S0) (x1 : Int32) (T : (Nat → Int32)) (hT : FX3_wantFalls (g3_wanted bpr) (g6_known bv) (g0_body bc) (g0_excepts bc) x1 = T) : zV l yX3_wantFalls wsX3_wantFalls rmX3_wantFalls G [.ref (apr 0), .int x1, .ref (ac 0)] [w3 G apr (av 0) bpr, w6 G av bv, w0 G ac bc] [w3 G apr (av 0) (s3_wanted bpr T), w6 G av bv, w0 G ac bc] := by
  refine zV.mk (cc := cX3_wantFalls) (maxL := 4) (by decide +kernel) rfl (Nat.le_of_ble_eq_true rfl) (zfl_cons (wf3 _ _ _ _ _) (zfl_cons rfl (zfl_cons rfl rfl))) ?_
  intro p e s m args below meth c Q A ls S hK hD hA hP hl hret
  have hx := S.1
  have hb := S.2.1
  have hS : va_S A s.heap s.heap [] := va_S.rf
  have hl : lv_has ls 4 [(0, .ref (apr 0)), (1, .int x1), (2, .ref (ac 0))] := hl
  have hE := hT.symm.trans (FX3_wantFalls.eq_1 _ _ _ _ _)
  refine lv_iconst (v := 0) hx hb dX3_wantFalls_0 (by decide) ?_
  have hB28 : ∀ (pr_wanted_28 : Nat → Int32) (H : Heap) (locs : List Loc) (ls : Array Slot), T = FX3_wantFalls_28 (g3_wanted bpr) (g6_known bv) (g0_body bc) (g0_excepts bc) x1 pr_wanted_28 → zP G [w3 G apr (av 0) (s3_wanted bpr pr_wanted_28), w6 G av bv, w0 G ac bc] H → zD A [w3 G apr (av 0) (s3_wanted bpr pr_wanted_28), w6 G av bv, w0 G ac bc] → va_S A s.heap H locs → lv_has ls 4 [] → W p l e rmX3_wantFalls s m args below meth c H locs 0 0 Q (F0 m 28 ls []) := by
    intro pr_wanted_28 H locs ls hE hP hD hS hl
    have hE := hE.trans (FX3_wantFalls_28.eq_1 _ _ _ _ _ _)
    exact hret _ _ _ _ _ (by subst hE; rfl) hP hS dX3_wantFalls_28
  have hB2 : ∀ (n2 : Nat) (i3_2 : Nat) (pr_wanted_2 : Nat → Int32) (H : Heap) (locs : List Loc) (ls : Array Slot), (i3_2 ≤ 16) → 17 ≤ i3_2 + n2 → T = FX3_wantFalls_2 (g3_wanted bpr) (g6_known bv) (g0_body bc) (g0_excepts bc) x1 (FX3_wantFalls_28 (g3_wanted bpr) (g6_known bv) (g0_body bc) (g0_excepts bc) x1) n2 (nI i3_2) pr_wanted_2 → zP G [w3 G apr (av 0) (s3_wanted bpr pr_wanted_2), w6 G av bv, w0 G ac bc] H → zD A [w3 G apr (av 0) (s3_wanted bpr pr_wanted_2), w6 G av bv, w0 G ac bc] → va_S A s.heap H locs → lv_has ls 4 [(0, .ref (apr 0)), (1, .int x1), (2, .ref (ac 0)), (3, .int (nI i3_2))] → W p l e rmX3_wantFalls s m args below meth c H locs 0 0 Q (F0 m 2 ls []) := by
    intro n2
    induction n2 with
    | zero =>
      intro i3_2 pr_wanted_2 H locs ls hi3_2 hn hE hP hD hS hl
      exact absurd hn (by omega)
    | succ n2 ih2 =>
      intro i3_2 pr_wanted_2 H locs ls hi3_2 hn hE hP hD hS hl
      have hE := hE.trans (FX3_wantFalls_2.eq_2 _ _ _ _ _ _ _ _ _)
      refine lv_iload_n hx hb dX3_wantFalls_2 rfl (lv_at hl 3 rfl) ?_
      refine lv_bipush (v := 16) hx hb dX3_wantFalls_3 (by decide) ?_
      refine lv_icmp_ge (tgt := 28) hx hb dX3_wantFalls_5 (by decide) (fun c5 => ?_) (fun c5 => ?_)
      · have hE := hE.trans (if_pos c5)
        exact hB28 pr_wanted_2 _ _ _ hE hP hD hS (lv_sub hl [] rfl)
      · have hE := hE.trans (if_neg c5)
        have hl3_2 : i3_2 < 16 := zlt (N := 16) rfl (by omega) (by omega) c5
        refine lv_iload_n hx hb dX3_wantFalls_8 rfl (lv_at hl 1 rfl) ?_
        refine lv_iload_n hx hb dX3_wantFalls_9 rfl (lv_at hl 3 rfl) ?_
        obtain ⟨t10, ht10⟩ : ∃ z, FX8_has x1 (nI i3_2) = z := ⟨_, rfl⟩
        have hE := hE.trans (bnd_eq ht10)
        have hc := c_X8_has l G x1 (nI i3_2) _ ht10
        refine zgoR (va_runSN (As := [.int x1, .int (nI i3_2)]) (rest := []) S (hc _) ⟨va_cnB (host := "RuleCourt") 2 S.2.2.2.2 gX3_wantFalls_X8_has_n82 rfl rfl rfl (hK.2 _ (List.mem_of_getElem? (i := 15) rfl)) (S.2.2.2.2 _ (List.mem_of_getElem? (i := 2) rfl)) (by decide +kernel) ⟨Nat.le_of_ble_eq_true rfl, Nat.le_of_ble_eq_true rfl⟩, S.2.2.2.2 _ (List.mem_of_getElem? (i := 1) rfl), trivial⟩ (zpS hK hP hD (is := []) rfl rfl) rfl rfl hl.1 rfl (lv_room (Nat.le_of_ble_eq_true rfl)) dX3_wantFalls_10 ⟨Nat.zero_le _, Nat.zero_le _⟩) (fun hn10 => ?_)
        refine lv_if_eq (tgt := 22) hx hb dX3_wantFalls_13 (by decide) (fun c13 => ?_) (fun c13 => ?_)
        · have hE := hE.trans (if_pos c13)
          refine lv_iinc (v := (nI (i3_2 + 1))) (lv' := [(3, .int (nI (i3_2 + 1))), (0, .ref (apr 0)), (1, .int x1), (2, .ref (ac 0))]) hx hb dX3_wantFalls_22 hl (k := 3) rfl (nI_1 i3_2) (by decide) rfl (fun ls hl => ?_)
          try rw [nI_1 i3_2] at hE
          refine lv_goto (tgt := 2) hx hb dX3_wantFalls_25 (by decide) ?_
          exact ih2 (i3_2 + 1) pr_wanted_2 _ _ _ (by first | assumption | omega) (by omega) hE hP hD hS (lv_sub hl [1, 2, 3, 0] rfl)
        · have hE := hE.trans (if_neg c13)
          refine lv_aload_n hx hb dX3_wantFalls_16 rfl (lv_at hl 0 rfl) ?_
          refine lv_iload_n hx hb dX3_wantFalls_17 rfl (lv_at hl 3 rfl) ?_
          refine lv_aload_n hx hb dX3_wantFalls_18 rfl (lv_at hl 2 rfl) ?_
          obtain ⟨t19, ht19⟩ : ∃ z, FX3_wantFall pr_wanted_2 (g6_known bv) (g0_body bc) (g0_excepts bc) (nI i3_2) = z := ⟨_, rfl⟩
          have hE := hE.trans (bnd_eq ht19)
          have hc := c_X3_wantFall l G apr av ac (s3_wanted bpr pr_wanted_2) bv bc (nI i3_2) ((vp_in_nI (by omega) (by omega))) _ (by simp only [gg3_wanted]; exact ht19)
          refine zgoV (bs' := [w3 G apr (av 0) (s3_wanted (s3_wanted bpr pr_wanted_2) t19), w6 G av bv, w0 G ac bc]) hc [0, 1, 2] rfl rfl rfl hP hD hS hA (va_runV (As := [.int (nI i3_2), .ref (ac 0)]) (rest := []) S (hc.2 _) (cwV 2 S.2.2.2.2 gX3_wantFalls_X3_wantFall rfl rfl rfl (by decide +kernel) ⟨Nat.le_of_ble_eq_true rfl, Nat.le_of_ble_eq_true rfl⟩) (zpV hK hP hD (is := [0, 1, 2]) rfl rfl 0 rfl rfl (ci := 3) rfl) rfl rfl hl.1 rfl (lv_room (Nat.le_of_ble_eq_true rfl)) dX3_wantFalls_19 ⟨Nat.zero_le _, Nat.zero_le _⟩) (fun H locs hP hD hS => ?_)
          refine lv_iinc (v := (nI (i3_2 + 1))) (lv' := [(3, .int (nI (i3_2 + 1))), (0, .ref (apr 0)), (1, .int x1), (2, .ref (ac 0))]) hx hb dX3_wantFalls_22 hl (k := 3) rfl (nI_1 i3_2) (by decide) rfl (fun ls hl => ?_)
          try rw [nI_1 i3_2] at hE
          refine lv_goto (tgt := 2) hx hb dX3_wantFalls_25 (by decide) ?_
          rw [show (s3_wanted (s3_wanted bpr pr_wanted_2) t19) = (s3_wanted bpr t19) from (ss3_wanted _ pr_wanted_2 t19)] at hP hD
          exact ih2 (i3_2 + 1) t19 _ _ _ (by first | assumption | omega) (by omega) hE hP hD hS (lv_sub hl [1, 2, 3, 0] rfl)
  refine lv_istore_n (lv' := [(3, .int 0), (0, .ref (apr 0)), (1, .int x1), (2, .ref (ac 0))]) hx hb dX3_wantFalls_1 rfl hl (by decide) rfl (fun ls hl => ?_)
  rw [show bpr = (s3_wanted bpr (g3_wanted bpr)) from ((se3_wanted _).symm)] at hP hD
  exact hB2 17 0 (g3_wanted bpr) _ _ _ (by first | assumption | omega) (by omega) hE hP hD hS (lv_sub hl [1, 2, 3, 0] rfl)

theorem in_X3_wantForUnlikely_3 : ∀ w ∈ u_ws RX3 TX3 4, w ∈ wsX3_wantForUnlikely := by decide +kernel
theorem in_X3_wantForUnlikely_6 : ∀ w ∈ u_ws RX6 TX6 12, w ∈ wsX3_wantForUnlikely := by decide +kernel
def rmX3_wantForUnlikely : Room := { frames := 3, cells := 0, slots := 0, locals := 66 }
set_option maxHeartbeats 4000000 in
set_option maxRecDepth 100000 in
theorem c_X3_wantForUnlikely (l : Launch) (G : zG) (apr : Nat → Nat) (av : Nat → Nat) (ac : Nat → Nat) (bpr : S3) (bv : S6) (bc : S0) (x1 : Int32) (hx1_20 : vp_in x1 20) (T : (Nat → Int32)) (hT : FX3_wantForUnlikely (g3_wanted bpr) (g6_known bv) (g6_forwardFor bv) (g6_allFor bv) (g6_above bv) (g6_applies bv) (g6_falls bv) (g0_body bc) (g0_excepts bc) x1 = T) : zV l yX3_wantForUnlikely wsX3_wantForUnlikely rmX3_wantForUnlikely G [.ref (apr 0), .int x1, .ref (ac 0)] [w3 G apr (av 0) bpr, w6 G av bv, w0 G ac bc] [w3 G apr (av 0) (s3_wanted bpr T), w6 G av bv, w0 G ac bc] := by
  refine zV.mk (cc := cX3_wantForUnlikely) (maxL := 4) (by decide +kernel) rfl (Nat.le_of_ble_eq_true rfl) (zfl_cons (wf3 _ _ _ _ _) (zfl_cons rfl (zfl_cons rfl rfl))) ?_
  intro p e s m args below meth c Q A ls S hK hD hA hP hl hret
  have hx := S.1
  have hb := S.2.1
  have hS : va_S A s.heap s.heap [] := va_S.rf
  have hl : lv_has ls 4 [(0, .ref (apr 0)), (1, .int x1), (2, .ref (ac 0))] := hl
  have hE := hT.symm.trans (FX3_wantForUnlikely.eq_1 _ _ _ _ _ _ _ _ _ _)
  refine lv_aload_n hx hb dX3_wantForUnlikely_0 rfl (lv_at hl 0 rfl) ?_
  refine zg3_wanted S in_X3_wantForUnlikely_3 hK hP 0 rfl (List.mem_of_getElem? (i := 1) rfl) dX3_wantForUnlikely_1 ?_
  refine lv_iconst (v := 1) hx hb dX3_wantForUnlikely_4 (by decide) ?_
  refine lv_dup2_11 hx hb dX3_wantForUnlikely_5 rfl rfl ?_
  refine zl3_wanted S hK hP 0 rfl (zin_k (n := 1) rfl (by decide) (by decide)) (f := (g3_wanted bpr)) rfl dX3_wantForUnlikely_6 ?_
  refine lv_iconst (v := 1) hx hb dX3_wantForUnlikely_7 (by decide) ?_
  refine lv_iload_n hx hb dX3_wantForUnlikely_8 rfl (lv_at hl 1 rfl) ?_
  refine lv_ishl hx hb dX3_wantForUnlikely_9 ?_
  refine lv_ior hx hb dX3_wantForUnlikely_10 ?_
  refine zs3_wanted (bs1 := [w3 G apr (av 0) (s3_wanted bpr (upd (g3_wanted bpr) (1 : Int32).toNatClampNeg (((g3_wanted bpr) (1 : Int32).toNatClampNeg) ||| (1 <<< (x1 &&& 31))))), w6 G av bv, w0 G ac bc]) S hK hP hD hS 0 rfl (zin_k (n := 1) rfl (by decide) (by decide)) (f := (g3_wanted bpr)) rfl dX3_wantForUnlikely_11 rfl (fun H locs hP hD hS => ?_)
  refine lv_aload_n hx hb dX3_wantForUnlikely_12 rfl (lv_at hl 0 rfl) ?_
  refine zg3_view S in_X3_wantForUnlikely_3 hK hP 0 rfl (List.mem_of_getElem? (i := 2) rfl) dX3_wantForUnlikely_13 ?_
  refine lv_iload_n hx hb dX3_wantForUnlikely_16 rfl (lv_at hl 1 rfl) ?_
  obtain ⟨t17, ht17⟩ : ∃ z, FX6_unfallen (g6_forwardFor bv) (g6_falls bv) x1 = z := ⟨_, rfl⟩
  have hE := hE.trans (bnd_eq ht17)
  have hc := c_X6_unfallen l G av bv x1 (hx1_20) _ ht17
  refine zgoR (va_runV (As := [.int x1]) (rest := []) S (hc _) (cwV 1 S.2.2.2.2 gX3_wantForUnlikely_X6_unfallen rfl rfl rfl (by decide +kernel) ⟨Nat.le_of_ble_eq_true rfl, Nat.le_of_ble_eq_true rfl⟩) (zpV hK hP hD (is := [1]) rfl rfl 1 rfl rfl (ci := 6) rfl) rfl rfl hl.1 rfl (lv_room (Nat.le_of_ble_eq_true rfl)) dX3_wantForUnlikely_17 ⟨Nat.zero_le _, Nat.zero_le _⟩) (fun hn17 => ?_)
  refine lv_if_ne (tgt := 40) hx hb dX3_wantForUnlikely_20 (by decide) (fun c20 => ?_) (fun c20 => ?_)
  · have hE := hE.trans (if_neg c20)
    refine lv_aload_n hx hb dX3_wantForUnlikely_40 rfl (lv_at hl 0 rfl) ?_
    refine zg3_view S in_X3_wantForUnlikely_3 hK hP 0 rfl (List.mem_of_getElem? (i := 2) rfl) dX3_wantForUnlikely_41 ?_
    refine zg6_known S in_X3_wantForUnlikely_6 hK hP 1 rfl (List.mem_of_getElem? (i := 4) rfl) dX3_wantForUnlikely_44 ?_
    refine lv_iconst (v := 0) hx hb dX3_wantForUnlikely_47 (by decide) ?_
    refine zl6_known S hK hP 1 rfl (zin_k (n := 0) rfl (by decide) (by decide)) (f := (g6_known bv)) rfl dX3_wantForUnlikely_48 ?_
    refine lv_iload_n hx hb dX3_wantForUnlikely_49 rfl (lv_at hl 1 rfl) ?_
    obtain ⟨t50, ht50⟩ : ∃ z, FX8_otherOf x1 = z := ⟨_, rfl⟩
    have hE := hE.trans (bnd_eq ht50)
    have hc := c_X8_otherOf l G x1 _ ht50
    refine zgoR (va_runSN (As := [.int x1]) (rest := [.int ((g6_known bv) (0 : Int32).toNatClampNeg)]) S (hc _) ⟨va_cnB (host := "RuleCourt") 1 S.2.2.2.2 gX3_wantForUnlikely_X8_otherOf_n107 rfl rfl rfl (hK.2 _ (List.mem_of_getElem? (i := 18) rfl)) (S.2.2.2.2 _ (List.mem_of_getElem? (i := 18) rfl)) (by decide +kernel) ⟨Nat.le_of_ble_eq_true rfl, Nat.le_of_ble_eq_true rfl⟩, S.2.2.2.2 _ (List.mem_of_getElem? (i := 28) rfl), trivial⟩ (zpS hK hP hD (is := []) rfl rfl) rfl rfl hl.1 rfl (lv_room (Nat.le_of_ble_eq_true rfl)) dX3_wantForUnlikely_50 ⟨Nat.zero_le _, Nat.zero_le _⟩) (fun hn50 => ?_)
    obtain ⟨t53, ht53⟩ : ∃ z, FX8_has ((g6_known bv) (0 : Int32).toNatClampNeg) t50 = z := ⟨_, rfl⟩
    have hE := hE.trans (bnd_eq ht53)
    have hc := c_X8_has l G ((g6_known bv) (0 : Int32).toNatClampNeg) t50 _ ht53
    refine zgoR (va_runSN (As := [.int ((g6_known bv) (0 : Int32).toNatClampNeg), .int t50]) (rest := []) S (hc _) ⟨va_cnB (host := "RuleCourt") 2 S.2.2.2.2 gX3_wantForUnlikely_X8_has_n82 rfl rfl rfl (hK.2 _ (List.mem_of_getElem? (i := 15) rfl)) (S.2.2.2.2 _ (List.mem_of_getElem? (i := 18) rfl)) (by decide +kernel) ⟨Nat.le_of_ble_eq_true rfl, Nat.le_of_ble_eq_true rfl⟩, S.2.2.2.2 _ (List.mem_of_getElem? (i := 17) rfl), trivial⟩ (zpS hK hP hD (is := []) rfl rfl) rfl rfl hl.1 rfl (lv_room (Nat.le_of_ble_eq_true rfl)) dX3_wantForUnlikely_53 ⟨Nat.zero_le _, Nat.zero_le _⟩) (fun hn53 => ?_)
    refine lv_if_eq (tgt := 77) hx hb dX3_wantForUnlikely_56 (by decide) (fun c56 => ?_) (fun c56 => ?_)
    · have hE := hE.trans (if_pos c56)
      refine lv_aload_n hx hb dX3_wantForUnlikely_77 rfl (lv_at hl 0 rfl) ?_
      refine zg3_view S in_X3_wantForUnlikely_3 hK hP 0 rfl (List.mem_of_getElem? (i := 2) rfl) dX3_wantForUnlikely_78 ?_
      refine lv_iload_n hx hb dX3_wantForUnlikely_81 rfl (lv_at hl 1 rfl) ?_
      obtain ⟨t82, ht82⟩ : ∃ z, FX6_victors (g6_forwardFor bv) (g6_allFor bv) (g6_above bv) (g6_applies bv) (g6_falls bv) x1 = z := ⟨_, rfl⟩
      have hE := hE.trans (bnd_eq ht82)
      have hc := c_X6_victors l G av bv x1 (hx1_20) _ ht82
      refine zgoR (va_runV (As := [.int x1]) (rest := []) S (hc _) (cwV 1 S.2.2.2.2 gX3_wantForUnlikely_X6_victors rfl rfl rfl (by decide +kernel) ⟨Nat.le_of_ble_eq_true rfl, Nat.le_of_ble_eq_true rfl⟩) (zpV hK hP hD (is := [1]) rfl rfl 1 rfl rfl (ci := 6) rfl) rfl rfl hl.1 rfl (lv_room (Nat.le_of_ble_eq_true rfl)) dX3_wantForUnlikely_82 ⟨Nat.zero_le _, Nat.zero_le _⟩) (fun hn82 => ?_)
      obtain ⟨t85, ht85⟩ : ∃ z, FX8_firstRule t82 = z := ⟨_, rfl⟩
      have hE := hE.trans (bnd_eq ht85)
      have hc := c_X8_firstRule l G t82 _ ht85
      refine zgoR (va_runSN (As := [.int t82]) (rest := []) S (hc _) ⟨va_cnB (host := "RuleCourt") 1 S.2.2.2.2 gX3_wantForUnlikely_X8_firstRule_n92 rfl rfl rfl (hK.2 _ (List.mem_of_getElem? (i := 16) rfl)) (S.2.2.2.2 _ (List.mem_of_getElem? (i := 18) rfl)) (by decide +kernel) ⟨Nat.le_of_ble_eq_true rfl, Nat.le_of_ble_eq_true rfl⟩, S.2.2.2.2 _ (List.mem_of_getElem? (i := 42) rfl), trivial⟩ (zpS hK hP hD (is := []) rfl rfl) rfl rfl hl.1 rfl (lv_room (Nat.le_of_ble_eq_true rfl)) dX3_wantForUnlikely_85 ⟨Nat.zero_le _, Nat.zero_le _⟩) (fun hn85 => ?_)
      have hf85 : ∃ j : Nat, j ≤ 16 ∧ t85 = nI j := by rw [← ht85]; exact zfirst _
      refine lv_istore_n (lv' := [(3, .int t85), (0, .ref (apr 0)), (1, .int x1), (2, .ref (ac 0))]) hx hb dX3_wantForUnlikely_88 rfl hl (by decide) rfl (fun ls hl => ?_)
      refine lv_aload_n hx hb dX3_wantForUnlikely_89 rfl (lv_at hl 1 rfl) ?_
      refine lv_iload_n hx hb dX3_wantForUnlikely_90 rfl (lv_at hl 0 rfl) ?_
      refine lv_aload_n hx hb dX3_wantForUnlikely_91 rfl (lv_at hl 3 rfl) ?_
      obtain ⟨t92, ht92⟩ : ∃ z, FX3_wantForce (upd (g3_wanted bpr) (1 : Int32).toNatClampNeg (((g3_wanted bpr) (1 : Int32).toNatClampNeg) ||| (1 <<< (x1 &&& 31)))) (g0_body bc) (g0_excepts bc) t85 = z := ⟨_, rfl⟩
      have hE := hE.trans (bnd_eq ht92)
      have hc := c_X3_wantForce l G apr av ac (s3_wanted bpr (upd (g3_wanted bpr) (1 : Int32).toNatClampNeg (((g3_wanted bpr) (1 : Int32).toNatClampNeg) ||| (1 <<< (x1 &&& 31))))) bv bc t85 (hf85) _ (by simp only [gg3_wanted]; exact ht92)
      refine zgoV (bs' := [w3 G apr (av 0) (s3_wanted (s3_wanted bpr (upd (g3_wanted bpr) (1 : Int32).toNatClampNeg (((g3_wanted bpr) (1 : Int32).toNatClampNeg) ||| (1 <<< (x1 &&& 31))))) t92), w6 G av bv, w0 G ac bc]) hc [0, 1, 2] rfl rfl rfl hP hD hS hA (va_runV (As := [.int t85, .ref (ac 0)]) (rest := []) S (hc.2 _) (cwV 2 S.2.2.2.2 gX3_wantForUnlikely_X3_wantForce rfl rfl rfl (by decide +kernel) ⟨Nat.le_of_ble_eq_true rfl, Nat.le_of_ble_eq_true rfl⟩) (zpV hK hP hD (is := [0, 1, 2]) rfl rfl 0 rfl rfl (ci := 3) rfl) rfl rfl hl.1 rfl (lv_room (Nat.le_of_ble_eq_true rfl)) dX3_wantForUnlikely_92 ⟨Nat.zero_le _, Nat.zero_le _⟩) (fun H locs hP hD hS => ?_)
      refine lv_aload_n hx hb dX3_wantForUnlikely_95 rfl (lv_at hl 1 rfl) ?_
      refine lv_aload_n hx hb dX3_wantForUnlikely_96 rfl (lv_at hl 1 rfl) ?_
      refine lv_aload_n hx hb dX3_wantForUnlikely_97 rfl (lv_at hl 1 rfl) ?_
      refine zg3_view S in_X3_wantForUnlikely_3 hK hP 0 rfl (List.mem_of_getElem? (i := 2) rfl) dX3_wantForUnlikely_98 ?_
      refine zg6_forwardFor S in_X3_wantForUnlikely_6 hK hP 1 rfl (List.mem_of_getElem? (i := 3) rfl) dX3_wantForUnlikely_101 ?_
      refine lv_iload_n hx hb dX3_wantForUnlikely_104 rfl (lv_at hl 2 rfl) ?_
      refine zl6_forwardFor S hK hP 1 rfl hx1_20 (f := (g6_forwardFor bv)) rfl dX3_wantForUnlikely_105 ?_
      refine lv_iload_n hx hb dX3_wantForUnlikely_106 rfl (lv_at hl 0 rfl) ?_
      obtain ⟨t107, ht107⟩ : ∃ z, FX3_allAbove (g6_above bv) ((g6_forwardFor bv) x1.toNatClampNeg) t85 = z := ⟨_, rfl⟩
      have hE := hE.trans (bnd_eq ht107)
      have hc := c_X3_allAbove l G apr av (s3_wanted (s3_wanted bpr (upd (g3_wanted bpr) (1 : Int32).toNatClampNeg (((g3_wanted bpr) (1 : Int32).toNatClampNeg) ||| (1 <<< (x1 &&& 31))))) t92) bv ((g6_forwardFor bv) x1.toNatClampNeg) t85 _ ht107
      refine zgoR (va_runV (As := [.int ((g6_forwardFor bv) x1.toNatClampNeg), .int t85]) (rest := [.ref (apr 0)]) S (hc _) (cwV 2 S.2.2.2.2 gX3_wantForUnlikely_X3_allAbove rfl rfl rfl (by decide +kernel) ⟨Nat.le_of_ble_eq_true rfl, Nat.le_of_ble_eq_true rfl⟩) (zpV hK hP hD (is := [0, 1]) rfl rfl 0 rfl rfl (ci := 3) rfl) rfl rfl hl.1 rfl (lv_room (Nat.le_of_ble_eq_true rfl)) dX3_wantForUnlikely_107 ⟨Nat.zero_le _, Nat.zero_le _⟩) (fun hn107 => ?_)
      refine lv_aload_n hx hb dX3_wantForUnlikely_110 rfl (lv_at hl 3 rfl) ?_
      obtain ⟨t111, ht111⟩ : ∃ z, FX3_wantFalls t92 (g6_known bv) (g0_body bc) (g0_excepts bc) t107 = z := ⟨_, rfl⟩
      have hE := hE.trans (bnd_eq ht111)
      have hc := c_X3_wantFalls l G apr av ac (s3_wanted (s3_wanted bpr (upd (g3_wanted bpr) (1 : Int32).toNatClampNeg (((g3_wanted bpr) (1 : Int32).toNatClampNeg) ||| (1 <<< (x1 &&& 31))))) t92) bv bc t107 _ (by simp only [gg3_wanted]; exact ht111)
      refine zgoV (bs' := [w3 G apr (av 0) (s3_wanted (s3_wanted (s3_wanted bpr (upd (g3_wanted bpr) (1 : Int32).toNatClampNeg (((g3_wanted bpr) (1 : Int32).toNatClampNeg) ||| (1 <<< (x1 &&& 31))))) t92) t111), w6 G av bv, w0 G ac bc]) hc [0, 1, 2] rfl rfl rfl hP hD hS hA (va_runV (As := [.int t107, .ref (ac 0)]) (rest := []) S (hc.2 _) (cwV 2 S.2.2.2.2 gX3_wantForUnlikely_X3_wantFalls rfl rfl rfl (by decide +kernel) ⟨Nat.le_of_ble_eq_true rfl, Nat.le_of_ble_eq_true rfl⟩) (zpV hK hP hD (is := [0, 1, 2]) rfl rfl 0 rfl rfl (ci := 3) rfl) rfl rfl hl.1 rfl (lv_room (Nat.le_of_ble_eq_true rfl)) dX3_wantForUnlikely_111 ⟨Nat.zero_le _, Nat.zero_le _⟩) (fun H locs hP hD hS => ?_)
      rw [show (s3_wanted (s3_wanted (s3_wanted bpr (upd (g3_wanted bpr) (1 : Int32).toNatClampNeg (((g3_wanted bpr) (1 : Int32).toNatClampNeg) ||| (1 <<< (x1 &&& 31))))) t92) t111) = (s3_wanted bpr t111) from ((congrArg (fun z => s3_wanted z t111) (ss3_wanted _ (upd (g3_wanted bpr) (1 : Int32).toNatClampNeg (((g3_wanted bpr) (1 : Int32).toNatClampNeg) ||| (1 <<< (x1 &&& 31)))) t92)).trans (ss3_wanted _ t92 t111))] at hP hD
      exact hret _ _ _ _ _ (by subst hE; rfl) hP hS dX3_wantForUnlikely_114
    · have hE := hE.trans (if_neg c56)
      refine lv_aload_n hx hb dX3_wantForUnlikely_59 rfl (lv_at hl 0 rfl) ?_
      refine zg3_wanted S in_X3_wantForUnlikely_3 hK hP 0 rfl (List.mem_of_getElem? (i := 1) rfl) dX3_wantForUnlikely_60 ?_
      refine lv_iconst (v := 0) hx hb dX3_wantForUnlikely_63 (by decide) ?_
      refine lv_dup2_11 hx hb dX3_wantForUnlikely_64 rfl rfl ?_
      refine zl3_wanted S hK hP 0 rfl (zin_k (n := 0) rfl (by decide) (by decide)) (f := (upd (g3_wanted bpr) (1 : Int32).toNatClampNeg (((g3_wanted bpr) (1 : Int32).toNatClampNeg) ||| (1 <<< (x1 &&& 31))))) (gg3_wanted _ (upd (g3_wanted bpr) (1 : Int32).toNatClampNeg (((g3_wanted bpr) (1 : Int32).toNatClampNeg) ||| (1 <<< (x1 &&& 31))))) dX3_wantForUnlikely_65 ?_
      refine lv_iconst (v := 1) hx hb dX3_wantForUnlikely_66 (by decide) ?_
      refine lv_iload_n hx hb dX3_wantForUnlikely_67 rfl (lv_at hl 1 rfl) ?_
      obtain ⟨t68, ht68⟩ : ∃ z, FX8_otherOf x1 = z := ⟨_, rfl⟩
      have hE := hE.trans (bnd_eq ht68)
      have hc := c_X8_otherOf l G x1 _ ht68
      refine zgoR (va_runSN (As := [.int x1]) (rest := [.int 1, .int ((upd (g3_wanted bpr) (1 : Int32).toNatClampNeg (((g3_wanted bpr) (1 : Int32).toNatClampNeg) ||| (1 <<< (x1 &&& 31)))) (0 : Int32).toNatClampNeg), .int 0, .ref (apr 1)]) S (hc _) ⟨va_cnB (host := "RuleCourt") 1 S.2.2.2.2 gX3_wantForUnlikely_X8_otherOf_n107 rfl rfl rfl (hK.2 _ (List.mem_of_getElem? (i := 18) rfl)) (S.2.2.2.2 _ (List.mem_of_getElem? (i := 18) rfl)) (by decide +kernel) ⟨Nat.le_of_ble_eq_true rfl, Nat.le_of_ble_eq_true rfl⟩, S.2.2.2.2 _ (List.mem_of_getElem? (i := 28) rfl), trivial⟩ (zpS hK hP hD (is := []) rfl rfl) rfl rfl hl.1 rfl (lv_room (Nat.le_of_ble_eq_true rfl)) dX3_wantForUnlikely_68 ⟨Nat.zero_le _, Nat.zero_le _⟩) (fun hn68 => ?_)
      refine lv_ishl hx hb dX3_wantForUnlikely_71 ?_
      refine lv_ior hx hb dX3_wantForUnlikely_72 ?_
      refine zs3_wanted (bs1 := [w3 G apr (av 0) (s3_wanted (s3_wanted bpr (upd (g3_wanted bpr) (1 : Int32).toNatClampNeg (((g3_wanted bpr) (1 : Int32).toNatClampNeg) ||| (1 <<< (x1 &&& 31))))) (upd (upd (g3_wanted bpr) (1 : Int32).toNatClampNeg (((g3_wanted bpr) (1 : Int32).toNatClampNeg) ||| (1 <<< (x1 &&& 31)))) (0 : Int32).toNatClampNeg (((upd (g3_wanted bpr) (1 : Int32).toNatClampNeg (((g3_wanted bpr) (1 : Int32).toNatClampNeg) ||| (1 <<< (x1 &&& 31)))) (0 : Int32).toNatClampNeg) ||| (1 <<< (t68 &&& 31))))), w6 G av bv, w0 G ac bc]) S hK hP hD hS 0 rfl (zin_k (n := 0) rfl (by decide) (by decide)) (f := (upd (g3_wanted bpr) (1 : Int32).toNatClampNeg (((g3_wanted bpr) (1 : Int32).toNatClampNeg) ||| (1 <<< (x1 &&& 31))))) (gg3_wanted _ (upd (g3_wanted bpr) (1 : Int32).toNatClampNeg (((g3_wanted bpr) (1 : Int32).toNatClampNeg) ||| (1 <<< (x1 &&& 31))))) dX3_wantForUnlikely_73 rfl (fun H locs hP hD hS => ?_)
      refine lv_goto (tgt := 114) hx hb dX3_wantForUnlikely_74 (by decide) ?_
      rw [show (s3_wanted (s3_wanted bpr (upd (g3_wanted bpr) (1 : Int32).toNatClampNeg (((g3_wanted bpr) (1 : Int32).toNatClampNeg) ||| (1 <<< (x1 &&& 31))))) (upd (upd (g3_wanted bpr) (1 : Int32).toNatClampNeg (((g3_wanted bpr) (1 : Int32).toNatClampNeg) ||| (1 <<< (x1 &&& 31)))) (0 : Int32).toNatClampNeg (((upd (g3_wanted bpr) (1 : Int32).toNatClampNeg (((g3_wanted bpr) (1 : Int32).toNatClampNeg) ||| (1 <<< (x1 &&& 31)))) (0 : Int32).toNatClampNeg) ||| (1 <<< (t68 &&& 31))))) = (s3_wanted bpr (upd (upd (g3_wanted bpr) (1 : Int32).toNatClampNeg (((g3_wanted bpr) (1 : Int32).toNatClampNeg) ||| (1 <<< (x1 &&& 31)))) (0 : Int32).toNatClampNeg (((upd (g3_wanted bpr) (1 : Int32).toNatClampNeg (((g3_wanted bpr) (1 : Int32).toNatClampNeg) ||| (1 <<< (x1 &&& 31)))) (0 : Int32).toNatClampNeg) ||| (1 <<< (t68 &&& 31))))) from (ss3_wanted _ (upd (g3_wanted bpr) (1 : Int32).toNatClampNeg (((g3_wanted bpr) (1 : Int32).toNatClampNeg) ||| (1 <<< (x1 &&& 31)))) (upd (upd (g3_wanted bpr) (1 : Int32).toNatClampNeg (((g3_wanted bpr) (1 : Int32).toNatClampNeg) ||| (1 <<< (x1 &&& 31)))) (0 : Int32).toNatClampNeg (((upd (g3_wanted bpr) (1 : Int32).toNatClampNeg (((g3_wanted bpr) (1 : Int32).toNatClampNeg) ||| (1 <<< (x1 &&& 31)))) (0 : Int32).toNatClampNeg) ||| (1 <<< (t68 &&& 31)))))] at hP hD
      exact hret _ _ _ _ _ (by subst hE; rfl) hP hS dX3_wantForUnlikely_114
  · have hE := hE.trans (if_pos c20)
    refine lv_aload_n hx hb dX3_wantForUnlikely_23 rfl (lv_at hl 0 rfl) ?_
    refine lv_aload_n hx hb dX3_wantForUnlikely_24 rfl (lv_at hl 0 rfl) ?_
    refine zg3_view S in_X3_wantForUnlikely_3 hK hP 0 rfl (List.mem_of_getElem? (i := 2) rfl) dX3_wantForUnlikely_25 ?_
    refine zg6_forwardFor S in_X3_wantForUnlikely_6 hK hP 1 rfl (List.mem_of_getElem? (i := 3) rfl) dX3_wantForUnlikely_28 ?_
    refine lv_iload_n hx hb dX3_wantForUnlikely_31 rfl (lv_at hl 1 rfl) ?_
    refine zl6_forwardFor S hK hP 1 rfl hx1_20 (f := (g6_forwardFor bv)) rfl dX3_wantForUnlikely_32 ?_
    refine lv_aload_n hx hb dX3_wantForUnlikely_33 rfl (lv_at hl 2 rfl) ?_
    obtain ⟨t34, ht34⟩ : ∃ z, FX3_wantFalls (upd (g3_wanted bpr) (1 : Int32).toNatClampNeg (((g3_wanted bpr) (1 : Int32).toNatClampNeg) ||| (1 <<< (x1 &&& 31)))) (g6_known bv) (g0_body bc) (g0_excepts bc) ((g6_forwardFor bv) x1.toNatClampNeg) = z := ⟨_, rfl⟩
    have hE := hE.trans (bnd_eq ht34)
    have hc := c_X3_wantFalls l G apr av ac (s3_wanted bpr (upd (g3_wanted bpr) (1 : Int32).toNatClampNeg (((g3_wanted bpr) (1 : Int32).toNatClampNeg) ||| (1 <<< (x1 &&& 31))))) bv bc ((g6_forwardFor bv) x1.toNatClampNeg) _ (by simp only [gg3_wanted]; exact ht34)
    refine zgoV (bs' := [w3 G apr (av 0) (s3_wanted (s3_wanted bpr (upd (g3_wanted bpr) (1 : Int32).toNatClampNeg (((g3_wanted bpr) (1 : Int32).toNatClampNeg) ||| (1 <<< (x1 &&& 31))))) t34), w6 G av bv, w0 G ac bc]) hc [0, 1, 2] rfl rfl rfl hP hD hS hA (va_runV (As := [.int ((g6_forwardFor bv) x1.toNatClampNeg), .ref (ac 0)]) (rest := []) S (hc.2 _) (cwV 2 S.2.2.2.2 gX3_wantForUnlikely_X3_wantFalls rfl rfl rfl (by decide +kernel) ⟨Nat.le_of_ble_eq_true rfl, Nat.le_of_ble_eq_true rfl⟩) (zpV hK hP hD (is := [0, 1, 2]) rfl rfl 0 rfl rfl (ci := 3) rfl) rfl rfl hl.1 rfl (lv_room (Nat.le_of_ble_eq_true rfl)) dX3_wantForUnlikely_34 ⟨Nat.zero_le _, Nat.zero_le _⟩) (fun H locs hP hD hS => ?_)
    refine lv_goto (tgt := 114) hx hb dX3_wantForUnlikely_37 (by decide) ?_
    rw [show (s3_wanted (s3_wanted bpr (upd (g3_wanted bpr) (1 : Int32).toNatClampNeg (((g3_wanted bpr) (1 : Int32).toNatClampNeg) ||| (1 <<< (x1 &&& 31))))) t34) = (s3_wanted bpr t34) from (ss3_wanted _ (upd (g3_wanted bpr) (1 : Int32).toNatClampNeg (((g3_wanted bpr) (1 : Int32).toNatClampNeg) ||| (1 <<< (x1 &&& 31)))) t34)] at hP hD
    exact hret _ _ _ _ _ (by subst hE; rfl) hP hS dX3_wantForUnlikely_114

def rmX3_wantNeeds : Room := { frames := 4, cells := 0, slots := 0, locals := 89 }
set_option maxHeartbeats 4000000 in
set_option maxRecDepth 100000 in
theorem c_X3_wantNeeds (l : Launch) (G : zG) (apr : Nat → Nat) (av : Nat → Nat) (ac : Nat → Nat) (ard : Nat → Nat) (ord_view : Nat) (bpr : S3) (bv : S6) (bc : S0) (brd : S4) (x1 : Int32) (T : (Nat → Int32)) (hT : FX3_wantNeeds (g3_wanted bpr) (g6_known bv) (g6_strictFor bv) (g6_forwardFor bv) (g6_allFor bv) (g6_above bv) (g6_facts bv) (g6_applies bv) (g6_falls bv) (g6_sureBodies bv) (g0_body bc) (g0_excepts bc) (g4_came brd) x1 = T) : zV l yX3_wantNeeds wsX3_wantNeeds rmX3_wantNeeds G [.ref (apr 0), .int x1, .ref (ac 0), .ref (ard 0)] [w3 G apr (av 0) bpr, w6 G av bv, w0 G ac bc, w4 G ard ord_view brd] [w3 G apr (av 0) (s3_wanted bpr T), w6 G av bv, w0 G ac bc, w4 G ard ord_view brd] := by
  refine zV.mk (cc := cX3_wantNeeds) (maxL := 5) (by decide +kernel) rfl (Nat.le_of_ble_eq_true rfl) (zfl_cons (wf3 _ _ _ _ _) (zfl_cons rfl (zfl_cons rfl (zfl_cons rfl rfl)))) ?_
  intro p e s m args below meth c Q A ls S hK hD hA hP hl hret
  have hx := S.1
  have hb := S.2.1
  have hS : va_S A s.heap s.heap [] := va_S.rf
  have hl : lv_has ls 5 [(0, .ref (apr 0)), (1, .int x1), (2, .ref (ac 0)), (3, .ref (ard 0))] := hl
  have hE := hT.symm.trans (FX3_wantNeeds.eq_1 _ _ _ _ _ _ _ _ _ _ _ _ _ _)
  refine lv_iconst (v := 0) hx hb dX3_wantNeeds_0 (by decide) ?_
  have hB92 : ∀ (pr_wanted_92 : Nat → Int32) (H : Heap) (locs : List Loc) (ls : Array Slot), T = FX3_wantNeeds_92 (g3_wanted bpr) (g6_known bv) (g6_strictFor bv) (g6_forwardFor bv) (g6_allFor bv) (g6_above bv) (g6_facts bv) (g6_applies bv) (g6_falls bv) (g6_sureBodies bv) (g0_body bc) (g0_excepts bc) (g4_came brd) x1 pr_wanted_92 → zP G [w3 G apr (av 0) (s3_wanted bpr pr_wanted_92), w6 G av bv, w0 G ac bc, w4 G ard ord_view brd] H → zD A [w3 G apr (av 0) (s3_wanted bpr pr_wanted_92), w6 G av bv, w0 G ac bc, w4 G ard ord_view brd] → va_S A s.heap H locs → lv_has ls 5 [] → W p l e rmX3_wantNeeds s m args below meth c H locs 0 0 Q (F0 m 92 ls []) := by
    intro pr_wanted_92 H locs ls hE hP hD hS hl
    have hE := hE.trans (FX3_wantNeeds_92.eq_1 _ _ _ _ _ _ _ _ _ _ _ _ _ _ _)
    exact hret _ _ _ _ _ (by subst hE; rfl) hP hS dX3_wantNeeds_92
  have hB3 : ∀ (n3 : Nat) (i4_3 : Nat) (pr_wanted_3 : Nat → Int32) (H : Heap) (locs : List Loc) (ls : Array Slot), (i4_3 ≤ 20) → 21 ≤ i4_3 + n3 → T = FX3_wantNeeds_3 (g3_wanted bpr) (g6_known bv) (g6_strictFor bv) (g6_forwardFor bv) (g6_allFor bv) (g6_above bv) (g6_facts bv) (g6_applies bv) (g6_falls bv) (g6_sureBodies bv) (g0_body bc) (g0_excepts bc) (g4_came brd) x1 (FX3_wantNeeds_92 (g3_wanted bpr) (g6_known bv) (g6_strictFor bv) (g6_forwardFor bv) (g6_allFor bv) (g6_above bv) (g6_facts bv) (g6_applies bv) (g6_falls bv) (g6_sureBodies bv) (g0_body bc) (g0_excepts bc) (g4_came brd) x1) n3 (nI i4_3) pr_wanted_3 → zP G [w3 G apr (av 0) (s3_wanted bpr pr_wanted_3), w6 G av bv, w0 G ac bc, w4 G ard ord_view brd] H → zD A [w3 G apr (av 0) (s3_wanted bpr pr_wanted_3), w6 G av bv, w0 G ac bc, w4 G ard ord_view brd] → va_S A s.heap H locs → lv_has ls 5 [(0, .ref (apr 0)), (1, .int x1), (2, .ref (ac 0)), (3, .ref (ard 0)), (4, .int (nI i4_3))] → W p l e rmX3_wantNeeds s m args below meth c H locs 0 0 Q (F0 m 3 ls []) := by
    intro n3
    induction n3 with
    | zero =>
      intro i4_3 pr_wanted_3 H locs ls hi4_3 hn hE hP hD hS hl
      exact absurd hn (by omega)
    | succ n3 ih3 =>
      intro i4_3 pr_wanted_3 H locs ls hi4_3 hn hE hP hD hS hl
      have hE := hE.trans (FX3_wantNeeds_3.eq_2 _ _ _ _ _ _ _ _ _ _ _ _ _ _ _ _ _ _)
      refine lv_iload hx hb dX3_wantNeeds_3 (lv_at hl 4 rfl) ?_
      refine lv_bipush (v := 20) hx hb dX3_wantNeeds_5 (by decide) ?_
      refine lv_icmp_ge (tgt := 92) hx hb dX3_wantNeeds_7 (by decide) (fun c7 => ?_) (fun c7 => ?_)
      · have hE := hE.trans (if_pos c7)
        exact hB92 pr_wanted_3 _ _ _ hE hP hD hS (lv_sub hl [] rfl)
      · have hE := hE.trans (if_neg c7)
        have hl4_3 : i4_3 < 20 := zlt (N := 20) rfl (by omega) (by omega) c7
        refine lv_aload_n hx hb dX3_wantNeeds_10 rfl (lv_at hl 0 rfl) ?_
        refine lv_iconst (v := 0) hx hb dX3_wantNeeds_11 (by decide) ?_
        refine lv_iload hx hb dX3_wantNeeds_12 (lv_at hl 4 rfl) ?_
        refine lv_iload_n hx hb dX3_wantNeeds_14 rfl (lv_at hl 1 rfl) ?_
        refine lv_aload_n hx hb dX3_wantNeeds_15 rfl (lv_at hl 3 rfl) ?_
        obtain ⟨t16, ht16⟩ : ∃ z, FX3_isWanted pr_wanted_3 (g4_came brd) 0 (nI i4_3) x1 = z := ⟨_, rfl⟩
        have hE := hE.trans (bnd_eq ht16)
        have hc := c_X3_isWanted l G apr ard (av 0) ord_view (s3_wanted bpr pr_wanted_3) brd 0 (nI i4_3) x1 ((zin_k (n := 0) rfl (by decide) (by decide))) ((vp_in_nI (by omega) (by omega))) _ (by simp only [gg3_wanted]; exact ht16)
        refine zgoR (va_runV (As := [.int 0, .int (nI i4_3), .int x1, .ref (ard 0)]) (rest := []) S (hc _) (cwV 4 S.2.2.2.2 gX3_wantNeeds_X3_isWanted rfl rfl rfl (by decide +kernel) ⟨Nat.le_of_ble_eq_true rfl, Nat.le_of_ble_eq_true rfl⟩) (zpV hK hP hD (is := [0, 3]) rfl rfl 0 rfl rfl (ci := 3) rfl) rfl rfl hl.1 rfl (lv_room (Nat.le_of_ble_eq_true rfl)) dX3_wantNeeds_16 ⟨Nat.zero_le _, Nat.zero_le _⟩) (fun hn16 => ?_)
        have hB29 : ∀ (pr_wanted_29 : Nat → Int32) (H : Heap) (locs : List Loc) (ls : Array Slot), T = FX3_wantNeeds_29 (g3_wanted bpr) (g6_known bv) (g6_strictFor bv) (g6_forwardFor bv) (g6_allFor bv) (g6_above bv) (g6_facts bv) (g6_applies bv) (g6_falls bv) (g6_sureBodies bv) (g0_body bc) (g0_excepts bc) (g4_came brd) x1 (fun x4_3' pr_wanted_3' => FX3_wantNeeds_3 (g3_wanted bpr) (g6_known bv) (g6_strictFor bv) (g6_forwardFor bv) (g6_allFor bv) (g6_above bv) (g6_facts bv) (g6_applies bv) (g6_falls bv) (g6_sureBodies bv) (g0_body bc) (g0_excepts bc) (g4_came brd) x1 (FX3_wantNeeds_92 (g3_wanted bpr) (g6_known bv) (g6_strictFor bv) (g6_forwardFor bv) (g6_allFor bv) (g6_above bv) (g6_facts bv) (g6_applies bv) (g6_falls bv) (g6_sureBodies bv) (g0_body bc) (g0_excepts bc) (g4_came brd) x1) n3 x4_3' pr_wanted_3') (FX3_wantNeeds_92 (g3_wanted bpr) (g6_known bv) (g6_strictFor bv) (g6_forwardFor bv) (g6_allFor bv) (g6_above bv) (g6_facts bv) (g6_applies bv) (g6_falls bv) (g6_sureBodies bv) (g0_body bc) (g0_excepts bc) (g4_came brd) x1) (nI i4_3) pr_wanted_29 → zP G [w3 G apr (av 0) (s3_wanted bpr pr_wanted_29), w6 G av bv, w0 G ac bc, w4 G ard ord_view brd] H → zD A [w3 G apr (av 0) (s3_wanted bpr pr_wanted_29), w6 G av bv, w0 G ac bc, w4 G ard ord_view brd] → va_S A s.heap H locs → lv_has ls 5 [(0, .ref (apr 0)), (1, .int x1), (2, .ref (ac 0)), (3, .ref (ard 0)), (4, .int (nI i4_3))] → W p l e rmX3_wantNeeds s m args below meth c H locs 0 0 Q (F0 m 29 ls []) := by
          intro pr_wanted_29 H locs ls hE hP hD hS hl
          have hE := hE.trans (FX3_wantNeeds_29.eq_1 _ _ _ _ _ _ _ _ _ _ _ _ _ _ _ _ _ _)
          refine lv_aload_n hx hb dX3_wantNeeds_29 rfl (lv_at hl 0 rfl) ?_
          refine lv_iconst (v := 1) hx hb dX3_wantNeeds_30 (by decide) ?_
          refine lv_iload hx hb dX3_wantNeeds_31 (lv_at hl 4 rfl) ?_
          refine lv_iload_n hx hb dX3_wantNeeds_33 rfl (lv_at hl 1 rfl) ?_
          refine lv_aload_n hx hb dX3_wantNeeds_34 rfl (lv_at hl 3 rfl) ?_
          obtain ⟨t35, ht35⟩ : ∃ z, FX3_isWanted pr_wanted_29 (g4_came brd) 1 (nI i4_3) x1 = z := ⟨_, rfl⟩
          have hE := hE.trans (bnd_eq ht35)
          have hc := c_X3_isWanted l G apr ard (av 0) ord_view (s3_wanted bpr pr_wanted_29) brd 1 (nI i4_3) x1 ((zin_k (n := 1) rfl (by decide) (by decide))) ((vp_in_nI (by omega) (by omega))) _ (by simp only [gg3_wanted]; exact ht35)
          refine zgoR (va_runV (As := [.int 1, .int (nI i4_3), .int x1, .ref (ard 0)]) (rest := []) S (hc _) (cwV 4 S.2.2.2.2 gX3_wantNeeds_X3_isWanted rfl rfl rfl (by decide +kernel) ⟨Nat.le_of_ble_eq_true rfl, Nat.le_of_ble_eq_true rfl⟩) (zpV hK hP hD (is := [0, 3]) rfl rfl 0 rfl rfl (ci := 3) rfl) rfl rfl hl.1 rfl (lv_room (Nat.le_of_ble_eq_true rfl)) dX3_wantNeeds_35 ⟨Nat.zero_le _, Nat.zero_le _⟩) (fun hn35 => ?_)
          have hB48 : ∀ (pr_wanted_48 : Nat → Int32) (H : Heap) (locs : List Loc) (ls : Array Slot), T = FX3_wantNeeds_48 (g3_wanted bpr) (g6_known bv) (g6_strictFor bv) (g6_forwardFor bv) (g6_allFor bv) (g6_above bv) (g6_facts bv) (g6_applies bv) (g6_falls bv) (g6_sureBodies bv) (g0_body bc) (g0_excepts bc) (g4_came brd) x1 (fun x4_3' pr_wanted_3' => FX3_wantNeeds_3 (g3_wanted bpr) (g6_known bv) (g6_strictFor bv) (g6_forwardFor bv) (g6_allFor bv) (g6_above bv) (g6_facts bv) (g6_applies bv) (g6_falls bv) (g6_sureBodies bv) (g0_body bc) (g0_excepts bc) (g4_came brd) x1 (FX3_wantNeeds_92 (g3_wanted bpr) (g6_known bv) (g6_strictFor bv) (g6_forwardFor bv) (g6_allFor bv) (g6_above bv) (g6_facts bv) (g6_applies bv) (g6_falls bv) (g6_sureBodies bv) (g0_body bc) (g0_excepts bc) (g4_came brd) x1) n3 x4_3' pr_wanted_3') (FX3_wantNeeds_92 (g3_wanted bpr) (g6_known bv) (g6_strictFor bv) (g6_forwardFor bv) (g6_allFor bv) (g6_above bv) (g6_facts bv) (g6_applies bv) (g6_falls bv) (g6_sureBodies bv) (g0_body bc) (g0_excepts bc) (g4_came brd) x1) (nI i4_3) pr_wanted_48 → zP G [w3 G apr (av 0) (s3_wanted bpr pr_wanted_48), w6 G av bv, w0 G ac bc, w4 G ard ord_view brd] H → zD A [w3 G apr (av 0) (s3_wanted bpr pr_wanted_48), w6 G av bv, w0 G ac bc, w4 G ard ord_view brd] → va_S A s.heap H locs → lv_has ls 5 [(0, .ref (apr 0)), (1, .int x1), (2, .ref (ac 0)), (3, .ref (ard 0)), (4, .int (nI i4_3))] → W p l e rmX3_wantNeeds s m args below meth c H locs 0 0 Q (F0 m 48 ls []) := by
            intro pr_wanted_48 H locs ls hE hP hD hS hl
            have hE := hE.trans (FX3_wantNeeds_48.eq_1 _ _ _ _ _ _ _ _ _ _ _ _ _ _ _ _ _ _)
            refine lv_aload_n hx hb dX3_wantNeeds_48 rfl (lv_at hl 0 rfl) ?_
            refine lv_iconst (v := 2) hx hb dX3_wantNeeds_49 (by decide) ?_
            refine lv_iload hx hb dX3_wantNeeds_50 (lv_at hl 4 rfl) ?_
            refine lv_iload_n hx hb dX3_wantNeeds_52 rfl (lv_at hl 1 rfl) ?_
            refine lv_aload_n hx hb dX3_wantNeeds_53 rfl (lv_at hl 3 rfl) ?_
            obtain ⟨t54, ht54⟩ : ∃ z, FX3_isWanted pr_wanted_48 (g4_came brd) 2 (nI i4_3) x1 = z := ⟨_, rfl⟩
            have hE := hE.trans (bnd_eq ht54)
            have hc := c_X3_isWanted l G apr ard (av 0) ord_view (s3_wanted bpr pr_wanted_48) brd 2 (nI i4_3) x1 ((zin_k (n := 2) rfl (by decide) (by decide))) ((vp_in_nI (by omega) (by omega))) _ (by simp only [gg3_wanted]; exact ht54)
            refine zgoR (va_runV (As := [.int 2, .int (nI i4_3), .int x1, .ref (ard 0)]) (rest := []) S (hc _) (cwV 4 S.2.2.2.2 gX3_wantNeeds_X3_isWanted rfl rfl rfl (by decide +kernel) ⟨Nat.le_of_ble_eq_true rfl, Nat.le_of_ble_eq_true rfl⟩) (zpV hK hP hD (is := [0, 3]) rfl rfl 0 rfl rfl (ci := 3) rfl) rfl rfl hl.1 rfl (lv_room (Nat.le_of_ble_eq_true rfl)) dX3_wantNeeds_54 ⟨Nat.zero_le _, Nat.zero_le _⟩) (fun hn54 => ?_)
            have hB67 : ∀ (pr_wanted_67 : Nat → Int32) (H : Heap) (locs : List Loc) (ls : Array Slot), T = FX3_wantNeeds_67 (g3_wanted bpr) (g6_known bv) (g6_strictFor bv) (g6_forwardFor bv) (g6_allFor bv) (g6_above bv) (g6_facts bv) (g6_applies bv) (g6_falls bv) (g6_sureBodies bv) (g0_body bc) (g0_excepts bc) (g4_came brd) x1 (fun x4_3' pr_wanted_3' => FX3_wantNeeds_3 (g3_wanted bpr) (g6_known bv) (g6_strictFor bv) (g6_forwardFor bv) (g6_allFor bv) (g6_above bv) (g6_facts bv) (g6_applies bv) (g6_falls bv) (g6_sureBodies bv) (g0_body bc) (g0_excepts bc) (g4_came brd) x1 (FX3_wantNeeds_92 (g3_wanted bpr) (g6_known bv) (g6_strictFor bv) (g6_forwardFor bv) (g6_allFor bv) (g6_above bv) (g6_facts bv) (g6_applies bv) (g6_falls bv) (g6_sureBodies bv) (g0_body bc) (g0_excepts bc) (g4_came brd) x1) n3 x4_3' pr_wanted_3') (FX3_wantNeeds_92 (g3_wanted bpr) (g6_known bv) (g6_strictFor bv) (g6_forwardFor bv) (g6_allFor bv) (g6_above bv) (g6_facts bv) (g6_applies bv) (g6_falls bv) (g6_sureBodies bv) (g0_body bc) (g0_excepts bc) (g4_came brd) x1) (nI i4_3) pr_wanted_67 → zP G [w3 G apr (av 0) (s3_wanted bpr pr_wanted_67), w6 G av bv, w0 G ac bc, w4 G ard ord_view brd] H → zD A [w3 G apr (av 0) (s3_wanted bpr pr_wanted_67), w6 G av bv, w0 G ac bc, w4 G ard ord_view brd] → va_S A s.heap H locs → lv_has ls 5 [(0, .ref (apr 0)), (1, .int x1), (2, .ref (ac 0)), (3, .ref (ard 0)), (4, .int (nI i4_3))] → W p l e rmX3_wantNeeds s m args below meth c H locs 0 0 Q (F0 m 67 ls []) := by
              intro pr_wanted_67 H locs ls hE hP hD hS hl
              have hE := hE.trans (FX3_wantNeeds_67.eq_1 _ _ _ _ _ _ _ _ _ _ _ _ _ _ _ _ _ _)
              refine lv_aload_n hx hb dX3_wantNeeds_67 rfl (lv_at hl 0 rfl) ?_
              refine lv_iconst (v := 3) hx hb dX3_wantNeeds_68 (by decide) ?_
              refine lv_iload hx hb dX3_wantNeeds_69 (lv_at hl 4 rfl) ?_
              refine lv_iload_n hx hb dX3_wantNeeds_71 rfl (lv_at hl 1 rfl) ?_
              refine lv_aload_n hx hb dX3_wantNeeds_72 rfl (lv_at hl 3 rfl) ?_
              obtain ⟨t73, ht73⟩ : ∃ z, FX3_isWanted pr_wanted_67 (g4_came brd) 3 (nI i4_3) x1 = z := ⟨_, rfl⟩
              have hE := hE.trans (bnd_eq ht73)
              have hc := c_X3_isWanted l G apr ard (av 0) ord_view (s3_wanted bpr pr_wanted_67) brd 3 (nI i4_3) x1 ((zin_k (n := 3) rfl (by decide) (by decide))) ((vp_in_nI (by omega) (by omega))) _ (by simp only [gg3_wanted]; exact ht73)
              refine zgoR (va_runV (As := [.int 3, .int (nI i4_3), .int x1, .ref (ard 0)]) (rest := []) S (hc _) (cwV 4 S.2.2.2.2 gX3_wantNeeds_X3_isWanted rfl rfl rfl (by decide +kernel) ⟨Nat.le_of_ble_eq_true rfl, Nat.le_of_ble_eq_true rfl⟩) (zpV hK hP hD (is := [0, 3]) rfl rfl 0 rfl rfl (ci := 3) rfl) rfl rfl hl.1 rfl (lv_room (Nat.le_of_ble_eq_true rfl)) dX3_wantNeeds_73 ⟨Nat.zero_le _, Nat.zero_le _⟩) (fun hn73 => ?_)
              refine lv_if_eq (tgt := 86) hx hb dX3_wantNeeds_76 (by decide) (fun c76 => ?_) (fun c76 => ?_)
              · have hE := hE.trans (if_pos c76)
                refine lv_iinc (v := (nI (i4_3 + 1))) (lv' := [(4, .int (nI (i4_3 + 1))), (0, .ref (apr 0)), (1, .int x1), (2, .ref (ac 0)), (3, .ref (ard 0))]) hx hb dX3_wantNeeds_86 hl (k := 4) rfl (nI_1 i4_3) (by decide) rfl (fun ls hl => ?_)
                try rw [nI_1 i4_3] at hE
                refine lv_goto (tgt := 3) hx hb dX3_wantNeeds_89 (by decide) ?_
                exact ih3 (i4_3 + 1) pr_wanted_67 _ _ _ (by first | assumption | omega) (by omega) hE hP hD hS (lv_sub hl [1, 2, 3, 4, 0] rfl)
              · have hE := hE.trans (if_neg c76)
                refine lv_aload_n hx hb dX3_wantNeeds_79 rfl (lv_at hl 0 rfl) ?_
                refine lv_iload hx hb dX3_wantNeeds_80 (lv_at hl 4 rfl) ?_
                refine lv_aload_n hx hb dX3_wantNeeds_82 rfl (lv_at hl 2 rfl) ?_
                obtain ⟨t83, ht83⟩ : ∃ z, FX3_wantForUnlikely pr_wanted_67 (g6_known bv) (g6_forwardFor bv) (g6_allFor bv) (g6_above bv) (g6_applies bv) (g6_falls bv) (g0_body bc) (g0_excepts bc) (nI i4_3) = z := ⟨_, rfl⟩
                have hE := hE.trans (bnd_eq ht83)
                have hc := c_X3_wantForUnlikely l G apr av ac (s3_wanted bpr pr_wanted_67) bv bc (nI i4_3) ((vp_in_nI (by omega) (by omega))) _ (by simp only [gg3_wanted]; exact ht83)
                refine zgoV (bs' := [w3 G apr (av 0) (s3_wanted (s3_wanted bpr pr_wanted_67) t83), w6 G av bv, w0 G ac bc, w4 G ard ord_view brd]) hc [0, 1, 2] rfl rfl rfl hP hD hS hA (va_runV (As := [.int (nI i4_3), .ref (ac 0)]) (rest := []) S (hc.2 _) (cwV 2 S.2.2.2.2 gX3_wantNeeds_X3_wantForUnlikely rfl rfl rfl (by decide +kernel) ⟨Nat.le_of_ble_eq_true rfl, Nat.le_of_ble_eq_true rfl⟩) (zpV hK hP hD (is := [0, 1, 2]) rfl rfl 0 rfl rfl (ci := 3) rfl) rfl rfl hl.1 rfl (lv_room (Nat.le_of_ble_eq_true rfl)) dX3_wantNeeds_83 ⟨Nat.zero_le _, Nat.zero_le _⟩) (fun H locs hP hD hS => ?_)
                refine lv_iinc (v := (nI (i4_3 + 1))) (lv' := [(4, .int (nI (i4_3 + 1))), (0, .ref (apr 0)), (1, .int x1), (2, .ref (ac 0)), (3, .ref (ard 0))]) hx hb dX3_wantNeeds_86 hl (k := 4) rfl (nI_1 i4_3) (by decide) rfl (fun ls hl => ?_)
                try rw [nI_1 i4_3] at hE
                refine lv_goto (tgt := 3) hx hb dX3_wantNeeds_89 (by decide) ?_
                rw [show (s3_wanted (s3_wanted bpr pr_wanted_67) t83) = (s3_wanted bpr t83) from (ss3_wanted _ pr_wanted_67 t83)] at hP hD
                exact ih3 (i4_3 + 1) t83 _ _ _ (by first | assumption | omega) (by omega) hE hP hD hS (lv_sub hl [1, 2, 3, 4, 0] rfl)
            refine lv_if_eq (tgt := 67) hx hb dX3_wantNeeds_57 (by decide) (fun c57 => ?_) (fun c57 => ?_)
            · have hE := hE.trans (if_pos c57)
              exact hB67 pr_wanted_48 _ _ _ hE hP hD hS (lv_sub hl [0, 1, 2, 3, 4] rfl)
            · have hE := hE.trans (if_neg c57)
              refine lv_aload_n hx hb dX3_wantNeeds_60 rfl (lv_at hl 0 rfl) ?_
              refine lv_iload hx hb dX3_wantNeeds_61 (lv_at hl 4 rfl) ?_
              refine lv_aload_n hx hb dX3_wantNeeds_63 rfl (lv_at hl 2 rfl) ?_
              obtain ⟨t64, ht64⟩ : ∃ z, FX3_wantForLikely pr_wanted_48 (g6_known bv) (g6_forwardFor bv) (g6_allFor bv) (g6_above bv) (g6_applies bv) (g6_falls bv) (g0_body bc) (g0_excepts bc) (nI i4_3) = z := ⟨_, rfl⟩
              have hE := hE.trans (bnd_eq ht64)
              have hc := c_X3_wantForLikely l G apr av ac (s3_wanted bpr pr_wanted_48) bv bc (nI i4_3) ((vp_in_nI (by omega) (by omega))) _ (by simp only [gg3_wanted]; exact ht64)
              refine zgoV (bs' := [w3 G apr (av 0) (s3_wanted (s3_wanted bpr pr_wanted_48) t64), w6 G av bv, w0 G ac bc, w4 G ard ord_view brd]) hc [0, 1, 2] rfl rfl rfl hP hD hS hA (va_runV (As := [.int (nI i4_3), .ref (ac 0)]) (rest := []) S (hc.2 _) (cwV 2 S.2.2.2.2 gX3_wantNeeds_X3_wantForLikely rfl rfl rfl (by decide +kernel) ⟨Nat.le_of_ble_eq_true rfl, Nat.le_of_ble_eq_true rfl⟩) (zpV hK hP hD (is := [0, 1, 2]) rfl rfl 0 rfl rfl (ci := 3) rfl) rfl rfl hl.1 rfl (lv_room (Nat.le_of_ble_eq_true rfl)) dX3_wantNeeds_64 ⟨Nat.zero_le _, Nat.zero_le _⟩) (fun H locs hP hD hS => ?_)
              rw [show (s3_wanted (s3_wanted bpr pr_wanted_48) t64) = (s3_wanted bpr t64) from (ss3_wanted _ pr_wanted_48 t64)] at hP hD
              exact hB67 t64 _ _ _ hE hP hD hS (lv_sub hl [0, 1, 2, 3, 4] rfl)
          refine lv_if_eq (tgt := 48) hx hb dX3_wantNeeds_38 (by decide) (fun c38 => ?_) (fun c38 => ?_)
          · have hE := hE.trans (if_pos c38)
            exact hB48 pr_wanted_29 _ _ _ hE hP hD hS (lv_sub hl [0, 1, 2, 3, 4] rfl)
          · have hE := hE.trans (if_neg c38)
            refine lv_aload_n hx hb dX3_wantNeeds_41 rfl (lv_at hl 0 rfl) ?_
            refine lv_iload hx hb dX3_wantNeeds_42 (lv_at hl 4 rfl) ?_
            refine lv_aload_n hx hb dX3_wantNeeds_44 rfl (lv_at hl 2 rfl) ?_
            obtain ⟨t45, ht45⟩ : ∃ z, FX3_wantForNever pr_wanted_29 (g6_known bv) (g6_strictFor bv) (g0_body bc) (nI i4_3) = z := ⟨_, rfl⟩
            have hE := hE.trans (bnd_eq ht45)
            have hc := c_X3_wantForNever l G apr av ac (s3_wanted bpr pr_wanted_29) bv bc (nI i4_3) ((vp_in_nI (by omega) (by omega))) _ (by simp only [gg3_wanted]; exact ht45)
            refine zgoV (bs' := [w3 G apr (av 0) (s3_wanted (s3_wanted bpr pr_wanted_29) t45), w6 G av bv, w0 G ac bc, w4 G ard ord_view brd]) hc [0, 1, 2] rfl rfl rfl hP hD hS hA (va_runV (As := [.int (nI i4_3), .ref (ac 0)]) (rest := []) S (hc.2 _) (cwV 2 S.2.2.2.2 gX3_wantNeeds_X3_wantForNever rfl rfl rfl (by decide +kernel) ⟨Nat.le_of_ble_eq_true rfl, Nat.le_of_ble_eq_true rfl⟩) (zpV hK hP hD (is := [0, 1, 2]) rfl rfl 0 rfl rfl (ci := 3) rfl) rfl rfl hl.1 rfl (lv_room (Nat.le_of_ble_eq_true rfl)) dX3_wantNeeds_45 ⟨Nat.zero_le _, Nat.zero_le _⟩) (fun H locs hP hD hS => ?_)
            rw [show (s3_wanted (s3_wanted bpr pr_wanted_29) t45) = (s3_wanted bpr t45) from (ss3_wanted _ pr_wanted_29 t45)] at hP hD
            exact hB48 t45 _ _ _ hE hP hD hS (lv_sub hl [0, 1, 2, 3, 4] rfl)
        refine lv_if_eq (tgt := 29) hx hb dX3_wantNeeds_19 (by decide) (fun c19 => ?_) (fun c19 => ?_)
        · have hE := hE.trans (if_pos c19)
          exact hB29 pr_wanted_3 _ _ _ hE hP hD hS (lv_sub hl [0, 1, 2, 3, 4] rfl)
        · have hE := hE.trans (if_neg c19)
          refine lv_aload_n hx hb dX3_wantNeeds_22 rfl (lv_at hl 0 rfl) ?_
          refine lv_iload hx hb dX3_wantNeeds_23 (lv_at hl 4 rfl) ?_
          refine lv_aload_n hx hb dX3_wantNeeds_25 rfl (lv_at hl 2 rfl) ?_
          obtain ⟨t26, ht26⟩ : ∃ z, FX3_wantForSure pr_wanted_3 (g6_strictFor bv) (g6_facts bv) (g6_sureBodies bv) (g0_body bc) (nI i4_3) = z := ⟨_, rfl⟩
          have hE := hE.trans (bnd_eq ht26)
          have hc := c_X3_wantForSure l G apr av ac (s3_wanted bpr pr_wanted_3) bv bc (nI i4_3) ((vp_in_nI (by omega) (by omega))) _ (by simp only [gg3_wanted]; exact ht26)
          refine zgoV (bs' := [w3 G apr (av 0) (s3_wanted (s3_wanted bpr pr_wanted_3) t26), w6 G av bv, w0 G ac bc, w4 G ard ord_view brd]) hc [0, 1, 2] rfl rfl rfl hP hD hS hA (va_runV (As := [.int (nI i4_3), .ref (ac 0)]) (rest := []) S (hc.2 _) (cwV 2 S.2.2.2.2 gX3_wantNeeds_X3_wantForSure rfl rfl rfl (by decide +kernel) ⟨Nat.le_of_ble_eq_true rfl, Nat.le_of_ble_eq_true rfl⟩) (zpV hK hP hD (is := [0, 1, 2]) rfl rfl 0 rfl rfl (ci := 3) rfl) rfl rfl hl.1 rfl (lv_room (Nat.le_of_ble_eq_true rfl)) dX3_wantNeeds_26 ⟨Nat.zero_le _, Nat.zero_le _⟩) (fun H locs hP hD hS => ?_)
          rw [show (s3_wanted (s3_wanted bpr pr_wanted_3) t26) = (s3_wanted bpr t26) from (ss3_wanted _ pr_wanted_3 t26)] at hP hD
          exact hB29 t26 _ _ _ hE hP hD hS (lv_sub hl [0, 1, 2, 3, 4] rfl)
  refine lv_istore (lv' := [(4, .int 0), (0, .ref (apr 0)), (1, .int x1), (2, .ref (ac 0)), (3, .ref (ard 0))]) hx hb dX3_wantNeeds_1 hl (by decide) rfl (fun ls hl => ?_)
  rw [show bpr = (s3_wanted bpr (g3_wanted bpr)) from ((se3_wanted _).symm)] at hP hD
  exact hB3 21 0 (g3_wanted bpr) _ _ _ (by first | assumption | omega) (by omega) hE hP hD hS (lv_sub hl [1, 2, 3, 4, 0] rfl)

theorem in_X3_listRound_3 : ∀ w ∈ u_ws RX3 TX3 4, w ∈ wsX3_listRound := by decide +kernel
def rmX3_listRound : Room := { frames := 2, cells := 0, slots := 0, locals := 46 }
set_option maxHeartbeats 4000000 in
set_option maxRecDepth 100000 in
theorem c_X3_listRound (l : Launch) (G : zG) (apr : Nat → Nat) (ard : Nat → Nat) (opr_view : Nat) (ord_view : Nat) (bpr : S3) (brd : S4) (x1 : Int32) (hz_pr_length : ∃ N : Nat, N ≤ 80 ∧ g3_length bpr = nI N) (T : (Nat → Int32) × (Int32)) (hT : FX3_listRound (g3_wanted bpr) (g3_steps bpr) (g3_length bpr) (g4_came brd) x1 = T) : zV l yX3_listRound wsX3_listRound rmX3_listRound G [.ref (apr 0), .int x1, .ref (ard 0)] [w3 G apr opr_view bpr, w4 G ard ord_view brd] [w3 G apr opr_view (s3_length (s3_steps bpr T.1) T.2), w4 G ard ord_view brd] := by
  refine zV.mk (cc := cX3_listRound) (maxL := 5) (by decide +kernel) rfl (Nat.le_of_ble_eq_true rfl) (zfl_cons (wf3 _ _ _ _ _) (zfl_cons rfl rfl)) ?_
  intro p e s m args below meth c Q A ls S hK hD hA hP hl hret
  have hx := S.1
  have hb := S.2.1
  have hS : va_S A s.heap s.heap [] := va_S.rf
  have hl : lv_has ls 5 [(0, .ref (apr 0)), (1, .int x1), (2, .ref (ard 0))] := hl
  have hE := hT.symm.trans (FX3_listRound.eq_1 _ _ _ _ _)
  refine lv_iconst (v := 0) hx hb dX3_listRound_0 (by decide) ?_
  have hB76 : ∀ (pr_steps_76 : Nat → Int32) (pr_length_76 : Int32) (H : Heap) (locs : List Loc) (ls : Array Slot), (∃ N : Nat, N ≤ 80 ∧ pr_length_76 = nI N) → T = FX3_listRound_76 (g3_wanted bpr) (g3_steps bpr) (g3_length bpr) (g4_came brd) x1 pr_steps_76 pr_length_76 → zP G [w3 G apr opr_view (s3_length (s3_steps bpr pr_steps_76) pr_length_76), w4 G ard ord_view brd] H → zD A [w3 G apr opr_view (s3_length (s3_steps bpr pr_steps_76) pr_length_76), w4 G ard ord_view brd] → va_S A s.heap H locs → lv_has ls 5 [] → W p l e rmX3_listRound s m args below meth c H locs 0 0 Q (F0 m 76 ls []) := by
    intro pr_steps_76 pr_length_76 H locs ls hz_pr_length_B76 hE hP hD hS hl
    have hE := hE.trans (FX3_listRound_76.eq_1 _ _ _ _ _ _ _)
    exact hret _ _ _ _ _ (by subst hE; rfl) hP hS dX3_listRound_76
  have hB2 : ∀ (n2 : Nat) (i3_2 : Nat) (pr_steps_2 : Nat → Int32) (pr_length_2 : Int32) (H : Heap) (locs : List Loc) (ls : Array Slot), (i3_2 ≤ 4) → (∃ N : Nat, N ≤ 80 ∧ pr_length_2 = nI N) → 5 ≤ i3_2 + n2 → T = FX3_listRound_2 (g3_wanted bpr) (g3_steps bpr) (g3_length bpr) (g4_came brd) x1 (FX3_listRound_76 (g3_wanted bpr) (g3_steps bpr) (g3_length bpr) (g4_came brd) x1) n2 (nI i3_2) pr_steps_2 pr_length_2 → zP G [w3 G apr opr_view (s3_length (s3_steps bpr pr_steps_2) pr_length_2), w4 G ard ord_view brd] H → zD A [w3 G apr opr_view (s3_length (s3_steps bpr pr_steps_2) pr_length_2), w4 G ard ord_view brd] → va_S A s.heap H locs → lv_has ls 5 [(0, .ref (apr 0)), (1, .int x1), (2, .ref (ard 0)), (3, .int (nI i3_2))] → W p l e rmX3_listRound s m args below meth c H locs 0 0 Q (F0 m 2 ls []) := by
    intro n2
    induction n2 with
    | zero =>
      intro i3_2 pr_steps_2 pr_length_2 H locs ls hi3_2 hz_pr_length_B2 hn hE hP hD hS hl
      exact absurd hn (by omega)
    | succ n2 ih2 =>
      intro i3_2 pr_steps_2 pr_length_2 H locs ls hi3_2 hz_pr_length_B2 hn hE hP hD hS hl
      have hE := hE.trans (FX3_listRound_2.eq_2 _ _ _ _ _ _ _ _ _ _)
      refine lv_iload_n hx hb dX3_listRound_2 rfl (lv_at hl 3 rfl) ?_
      refine lv_iconst (v := 4) hx hb dX3_listRound_3 (by decide) ?_
      refine lv_icmp_ge (tgt := 76) hx hb dX3_listRound_4 (by decide) (fun c4 => ?_) (fun c4 => ?_)
      · have hE := hE.trans (if_pos c4)
        exact hB76 pr_steps_2 pr_length_2 _ _ _ (by exact hz_pr_length_B2) hE hP hD hS (lv_sub hl [] rfl)
      · have hE := hE.trans (if_neg c4)
        have hl3_2 : i3_2 < 4 := zlt (N := 4) rfl (by omega) (by omega) c4
        refine lv_iconst (v := 0) hx hb dX3_listRound_7 (by decide) ?_
        have hB70 : ∀ (pr_steps_70 : Nat → Int32) (pr_length_70 : Int32) (H : Heap) (locs : List Loc) (ls : Array Slot), (∃ N : Nat, N ≤ 80 ∧ pr_length_70 = nI N) → T = FX3_listRound_70 (g3_wanted bpr) (g3_steps bpr) (g3_length bpr) (g4_came brd) x1 (fun x3_2' pr_steps_2' pr_length_2' => FX3_listRound_2 (g3_wanted bpr) (g3_steps bpr) (g3_length bpr) (g4_came brd) x1 (FX3_listRound_76 (g3_wanted bpr) (g3_steps bpr) (g3_length bpr) (g4_came brd) x1) n2 x3_2' pr_steps_2' pr_length_2') (FX3_listRound_76 (g3_wanted bpr) (g3_steps bpr) (g3_length bpr) (g4_came brd) x1) (nI i3_2) pr_steps_70 pr_length_70 → zP G [w3 G apr opr_view (s3_length (s3_steps bpr pr_steps_70) pr_length_70), w4 G ard ord_view brd] H → zD A [w3 G apr opr_view (s3_length (s3_steps bpr pr_steps_70) pr_length_70), w4 G ard ord_view brd] → va_S A s.heap H locs → lv_has ls 5 [(0, .ref (apr 0)), (1, .int x1), (2, .ref (ard 0)), (3, .int (nI i3_2))] → W p l e rmX3_listRound s m args below meth c H locs 0 0 Q (F0 m 70 ls []) := by
          intro pr_steps_70 pr_length_70 H locs ls hz_pr_length_B70 hE hP hD hS hl
          have hE := hE.trans (FX3_listRound_70.eq_1 _ _ _ _ _ _ _ _ _ _)
          refine lv_iinc (v := (nI (i3_2 + 1))) (lv' := [(3, .int (nI (i3_2 + 1))), (0, .ref (apr 0)), (1, .int x1), (2, .ref (ard 0))]) hx hb dX3_listRound_70 hl (k := 3) rfl (nI_1 i3_2) (by decide) rfl (fun ls hl => ?_)
          try rw [nI_1 i3_2] at hE
          refine lv_goto (tgt := 2) hx hb dX3_listRound_73 (by decide) ?_
          exact ih2 (i3_2 + 1) pr_steps_70 pr_length_70 _ _ _ (by first | assumption | omega) (by exact hz_pr_length_B70) (by omega) hE hP hD hS (lv_sub hl [1, 2, 3, 0] rfl)
        have hB10 : ∀ (n10 : Nat) (i4_10 : Nat) (pr_steps_10 : Nat → Int32) (pr_length_10 : Int32) (H : Heap) (locs : List Loc) (ls : Array Slot), (i4_10 ≤ 20) → (∃ N : Nat, N ≤ 80 ∧ pr_length_10 = nI N) → 21 ≤ i4_10 + n10 → T = FX3_listRound_10 (g3_wanted bpr) (g3_steps bpr) (g3_length bpr) (g4_came brd) x1 (fun x3_2' pr_steps_2' pr_length_2' => FX3_listRound_2 (g3_wanted bpr) (g3_steps bpr) (g3_length bpr) (g4_came brd) x1 (FX3_listRound_76 (g3_wanted bpr) (g3_steps bpr) (g3_length bpr) (g4_came brd) x1) n2 x3_2' pr_steps_2' pr_length_2') (FX3_listRound_76 (g3_wanted bpr) (g3_steps bpr) (g3_length bpr) (g4_came brd) x1) (FX3_listRound_70 (g3_wanted bpr) (g3_steps bpr) (g3_length bpr) (g4_came brd) x1 (fun x3_2' pr_steps_2' pr_length_2' => FX3_listRound_2 (g3_wanted bpr) (g3_steps bpr) (g3_length bpr) (g4_came brd) x1 (FX3_listRound_76 (g3_wanted bpr) (g3_steps bpr) (g3_length bpr) (g4_came brd) x1) n2 x3_2' pr_steps_2' pr_length_2') (FX3_listRound_76 (g3_wanted bpr) (g3_steps bpr) (g3_length bpr) (g4_came brd) x1)) n10 (nI i3_2) (nI i4_10) pr_steps_10 pr_length_10 → zP G [w3 G apr opr_view (s3_length (s3_steps bpr pr_steps_10) pr_length_10), w4 G ard ord_view brd] H → zD A [w3 G apr opr_view (s3_length (s3_steps bpr pr_steps_10) pr_length_10), w4 G ard ord_view brd] → va_S A s.heap H locs → lv_has ls 5 [(0, .ref (apr 0)), (1, .int x1), (2, .ref (ard 0)), (3, .int (nI i3_2)), (4, .int (nI i4_10))] → W p l e rmX3_listRound s m args below meth c H locs 0 0 Q (F0 m 10 ls []) := by
          intro n10
          induction n10 with
          | zero =>
            intro i4_10 pr_steps_10 pr_length_10 H locs ls hi4_10 hz_pr_length_B10 hn hE hP hD hS hl
            exact absurd hn (by omega)
          | succ n10 ih10 =>
            intro i4_10 pr_steps_10 pr_length_10 H locs ls hi4_10 hz_pr_length_B10 hn hE hP hD hS hl
            have hE := hE.trans (FX3_listRound_10.eq_2 _ _ _ _ _ _ _ _ _ _ _ _ _)
            refine lv_iload hx hb dX3_listRound_10 (lv_at hl 4 rfl) ?_
            refine lv_bipush (v := 20) hx hb dX3_listRound_12 (by decide) ?_
            refine lv_icmp_ge (tgt := 70) hx hb dX3_listRound_14 (by decide) (fun c14 => ?_) (fun c14 => ?_)
            · have hE := hE.trans (if_pos c14)
              exact hB70 pr_steps_10 pr_length_10 _ _ _ (by exact hz_pr_length_B10) hE hP hD hS (lv_sub hl [0, 1, 2, 3] rfl)
            · have hE := hE.trans (if_neg c14)
              have hl4_10 : i4_10 < 20 := zlt (N := 20) rfl (by omega) (by omega) c14
              refine lv_aload_n hx hb dX3_listRound_17 rfl (lv_at hl 0 rfl) ?_
              refine lv_iload_n hx hb dX3_listRound_18 rfl (lv_at hl 3 rfl) ?_
              refine lv_iload hx hb dX3_listRound_19 (lv_at hl 4 rfl) ?_
              refine lv_iload_n hx hb dX3_listRound_21 rfl (lv_at hl 1 rfl) ?_
              refine lv_aload_n hx hb dX3_listRound_22 rfl (lv_at hl 2 rfl) ?_
              obtain ⟨t23, ht23⟩ : ∃ z, FX3_isWanted (g3_wanted bpr) (g4_came brd) (nI i3_2) (nI i4_10) x1 = z := ⟨_, rfl⟩
              have hE := hE.trans (bnd_eq ht23)
              have hc := c_X3_isWanted l G apr ard opr_view ord_view (s3_length (s3_steps bpr pr_steps_10) pr_length_10) brd (nI i3_2) (nI i4_10) x1 ((vp_in_nI (by omega) (by omega))) ((vp_in_nI (by omega) (by omega))) _ (by simp only [gs3_wanted_length, gs3_wanted_steps]; exact ht23)
              refine zgoR (va_runV (As := [.int (nI i3_2), .int (nI i4_10), .int x1, .ref (ard 0)]) (rest := []) S (hc _) (cwV 4 S.2.2.2.2 gX3_listRound_X3_isWanted rfl rfl rfl (by decide +kernel) ⟨Nat.le_of_ble_eq_true rfl, Nat.le_of_ble_eq_true rfl⟩) (zpV hK hP hD (is := [0, 1]) rfl rfl 0 rfl rfl (ci := 3) rfl) rfl rfl hl.1 rfl (lv_room (Nat.le_of_ble_eq_true rfl)) dX3_listRound_23 ⟨Nat.zero_le _, Nat.zero_le _⟩) (fun hn23 => ?_)
              refine lv_if_eq (tgt := 64) hx hb dX3_listRound_26 (by decide) (fun c26 => ?_) (fun c26 => ?_)
              · have hE := hE.trans (if_pos c26)
                refine lv_iinc (v := (nI (i4_10 + 1))) (lv' := [(4, .int (nI (i4_10 + 1))), (0, .ref (apr 0)), (1, .int x1), (2, .ref (ard 0)), (3, .int (nI i3_2))]) hx hb dX3_listRound_64 hl (k := 4) rfl (nI_1 i4_10) (by decide) rfl (fun ls hl => ?_)
                try rw [nI_1 i4_10] at hE
                refine lv_goto (tgt := 10) hx hb dX3_listRound_67 (by decide) ?_
                exact ih10 (i4_10 + 1) pr_steps_10 pr_length_10 _ _ _ (by first | assumption | omega) (by exact hz_pr_length_B10) (by omega) hE hP hD hS (lv_sub hl [1, 2, 3, 4, 0] rfl)
              · have hE := hE.trans (if_neg c26)
                refine lv_aload_n hx hb dX3_listRound_29 rfl (lv_at hl 0 rfl) ?_
                refine zg3_length S in_X3_listRound_3 hK hP 0 rfl (List.mem_of_getElem? (i := 1) rfl) (v := pr_length_10) (gg3_length _ pr_length_10) dX3_listRound_30 ?_
                refine lv_bipush (v := 80) hx hb dX3_listRound_33 (by decide) ?_
                refine lv_icmp_ge (tgt := 64) hx hb dX3_listRound_35 (by decide) (fun c35 => ?_) (fun c35 => ?_)
                · have hE := hE.trans (if_pos c35)
                  refine lv_iinc (v := (nI (i4_10 + 1))) (lv' := [(4, .int (nI (i4_10 + 1))), (0, .ref (apr 0)), (1, .int x1), (2, .ref (ard 0)), (3, .int (nI i3_2))]) hx hb dX3_listRound_64 hl (k := 4) rfl (nI_1 i4_10) (by decide) rfl (fun ls hl => ?_)
                  try rw [nI_1 i4_10] at hE
                  refine lv_goto (tgt := 10) hx hb dX3_listRound_67 (by decide) ?_
                  exact ih10 (i4_10 + 1) pr_steps_10 pr_length_10 _ _ _ (by first | assumption | omega) (by exact hz_pr_length_B10) (by omega) hE hP hD hS (lv_sub hl [1, 2, 3, 4, 0] rfl)
                · have hE := hE.trans (if_neg c35)
                  refine lv_aload_n hx hb dX3_listRound_38 rfl (lv_at hl 0 rfl) ?_
                  refine zg3_steps S in_X3_listRound_3 hK hP 0 rfl (List.mem_of_getElem? (i := 2) rfl) dX3_listRound_39 ?_
                  refine lv_aload_n hx hb dX3_listRound_42 rfl (lv_at hl 0 rfl) ?_
                  refine zg3_length S in_X3_listRound_3 hK hP 0 rfl (List.mem_of_getElem? (i := 1) rfl) (v := pr_length_10) (gg3_length _ pr_length_10) dX3_listRound_43 ?_
                  refine lv_iload_n hx hb dX3_listRound_46 rfl (lv_at hl 3 rfl) ?_
                  refine lv_bipush (v := 20) hx hb dX3_listRound_47 (by decide) ?_
                  refine lv_imul hx hb dX3_listRound_49 ?_
                  refine lv_iload hx hb dX3_listRound_50 (lv_at hl 4 rfl) ?_
                  refine lv_iadd hx hb dX3_listRound_52 ?_
                  refine zs3_steps (bs1 := [w3 G apr opr_view (s3_steps (s3_length (s3_steps bpr pr_steps_10) pr_length_10) (upd pr_steps_10 pr_length_10.toNatClampNeg (((nI i3_2) * 20) + (nI i4_10)))), w4 G ard ord_view brd]) S hK hP hD hS 0 rfl (by obtain ⟨L, hL, e⟩ := hz_pr_length_B10; exact zfld_nle e (by omega) rfl (by decide) c35) (f := pr_steps_10) ((gs3_steps_length _ pr_length_10).trans (gg3_steps _ pr_steps_10)) dX3_listRound_53 rfl (fun H locs hP hD hS => ?_)
                  refine lv_aload_n hx hb dX3_listRound_54 rfl (lv_at hl 0 rfl) ?_
                  refine lv_dup hx hb dX3_listRound_55 rfl ?_
                  refine zg3_length S in_X3_listRound_3 hK hP 0 rfl (List.mem_of_getElem? (i := 1) rfl) (v := pr_length_10) ((gs3_length_steps _ (upd pr_steps_10 pr_length_10.toNatClampNeg (((nI i3_2) * 20) + (nI i4_10)))).trans (gg3_length _ pr_length_10)) dX3_listRound_56 ?_
                  refine lv_iconst (v := 1) hx hb dX3_listRound_59 (by decide) ?_
                  refine lv_iadd hx hb dX3_listRound_60 ?_
                  refine zp3_length (bs1 := [w3 G apr opr_view (s3_length (s3_steps (s3_length (s3_steps bpr pr_steps_10) pr_length_10) (upd pr_steps_10 pr_length_10.toNatClampNeg (((nI i3_2) * 20) + (nI i4_10)))) (pr_length_10 + 1)), w4 G ard ord_view brd]) S in_X3_listRound_3 hK hP hD hS 0 rfl (List.mem_of_getElem? (i := 1) rfl) dX3_listRound_61 rfl (fun H locs hP hD hS => ?_)
                  have hz_pr_length_61 : ∃ N : Nat, N ≤ 80 ∧ (pr_length_10 + 1) = nI N := znext hz_pr_length_B10 rfl (by decide) c35
                  refine lv_iinc (v := (nI (i4_10 + 1))) (lv' := [(4, .int (nI (i4_10 + 1))), (0, .ref (apr 0)), (1, .int x1), (2, .ref (ard 0)), (3, .int (nI i3_2))]) hx hb dX3_listRound_64 hl (k := 4) rfl (nI_1 i4_10) (by decide) rfl (fun ls hl => ?_)
                  try rw [nI_1 i4_10] at hE
                  refine lv_goto (tgt := 10) hx hb dX3_listRound_67 (by decide) ?_
                  rw [show (s3_length (s3_steps (s3_length (s3_steps bpr pr_steps_10) pr_length_10) (upd pr_steps_10 pr_length_10.toNatClampNeg (((nI i3_2) * 20) + (nI i4_10)))) (pr_length_10 + 1)) = (s3_length (s3_steps bpr (upd pr_steps_10 pr_length_10.toNatClampNeg (((nI i3_2) * 20) + (nI i4_10)))) (pr_length_10 + 1)) from ((congrArg (fun z => s3_length z (pr_length_10 + 1)) ((cm3_steps_length _ pr_length_10 (upd pr_steps_10 pr_length_10.toNatClampNeg (((nI i3_2) * 20) + (nI i4_10)))).trans (congrArg (fun z => s3_length z pr_length_10) (ss3_steps _ pr_steps_10 (upd pr_steps_10 pr_length_10.toNatClampNeg (((nI i3_2) * 20) + (nI i4_10))))))).trans (ss3_length _ pr_length_10 (pr_length_10 + 1)))] at hP hD
                  exact ih10 (i4_10 + 1) (upd pr_steps_10 pr_length_10.toNatClampNeg (((nI i3_2) * 20) + (nI i4_10))) (pr_length_10 + 1) _ _ _ (by first | assumption | omega) (by exact hz_pr_length_61) (by omega) hE hP hD hS (lv_sub hl [1, 2, 3, 4, 0] rfl)
        refine lv_istore (lv' := [(4, .int 0), (0, .ref (apr 0)), (1, .int x1), (2, .ref (ard 0)), (3, .int (nI i3_2))]) hx hb dX3_listRound_8 hl (by decide) rfl (fun ls hl => ?_)
        exact hB10 21 0 pr_steps_2 pr_length_2 _ _ _ (by first | assumption | omega) (by exact hz_pr_length_B2) (by omega) hE hP hD hS (lv_sub hl [1, 2, 3, 4, 0] rfl)
  refine lv_istore_n (lv' := [(3, .int 0), (0, .ref (apr 0)), (1, .int x1), (2, .ref (ard 0))]) hx hb dX3_listRound_1 rfl hl (by decide) rfl (fun ls hl => ?_)
  rw [show bpr = (s3_length (s3_steps bpr (g3_steps bpr)) (g3_length bpr)) from (((se3_steps _).symm).trans (((se3_length _).symm).trans (congrArg (fun v => s3_length (s3_steps bpr (g3_steps bpr)) v) (gs3_length_steps _ (g3_steps bpr)))))] at hP hD
  exact hB2 5 0 (g3_steps bpr) (g3_length bpr) _ _ _ (by first | assumption | omega) (by exact hz_pr_length) (by omega) hE hP hD hS (lv_sub hl [1, 2, 3, 0] rfl)

theorem zll_25 {w s0 c : Nat → Int32} {l0 x1 : Int32} {rc : Int32 → (Nat → Int32) → Int32 → (Nat → Int32) × Int32} {kt2 : (Nat → Int32) → Int32 → (Nat → Int32) × Int32} {kt : Int32 → (Nat → Int32) → Int32 → (Nat → Int32) × Int32} (P : (Nat → Int32) × Int32 → Prop) (hk : ∀ a s l, (∃ N : Nat, N ≤ 80 ∧ l = nI N) → P (kt a s l)) : ∀ (n : Nat) (a i : Int32) (s : Nat → Int32) (l : Int32), (∃ N : Nat, N ≤ 80 ∧ l = nI N) → P (FX3_listRound_10 w s0 l0 c x1 rc kt2 kt n a i s l)
  | 0, a, i, s, l, h => hk _ _ _ h
  | n + 1, a, i, s, l, h => by
    rw [FX3_listRound_10]
    simp only [bnd]
    repeat' split
    all_goals first | exact hk _ _ _ h | exact zll_25 P hk n _ _ _ _ h | exact zll_25 P hk n _ _ _ _ (znext h rfl (by decide) (by assumption))
theorem zll_2 {w s0 c : Nat → Int32} {l0 x1 : Int32} : ∀ (n : Nat) (a : Int32) (s : Nat → Int32) (l : Int32), (∃ N : Nat, N ≤ 80 ∧ l = nI N) → ∃ N : Nat, N ≤ 80 ∧ (FX3_listRound_2 w s0 l0 c x1 (FX3_listRound_76 w s0 l0 c x1) n a s l).2 = nI N
  | 0, a, s, l, h => h
  | n + 1, a, s, l, h => by
    rw [FX3_listRound_2]
    split
    · exact h
    · refine zll_25 (fun z => ∃ N : Nat, N ≤ 80 ∧ z.2 = nI N) (fun a s l h => ?_) _ _ _ _ _ h
      rw [FX3_listRound_70]
      exact zll_2 n _ _ _ h
theorem zlistlen {w s0 c : Nat → Int32} {l0 x1 : Int32} (h : ∃ N : Nat, N ≤ 80 ∧ l0 = nI N) : ∃ N : Nat, N ≤ 80 ∧ (FX3_listRound w s0 l0 c x1).2 = nI N := zll_2 _ _ _ _ h

theorem in_X3_build_3 : ∀ w ∈ u_ws RX3 TX3 4, w ∈ wsX3_build := by decide +kernel
def rmX3_build : Room := { frames := 5, cells := 0, slots := 0, locals := 113 }
set_option maxHeartbeats 4000000 in
set_option maxRecDepth 100000 in
theorem c_X3_build (l : Launch) (G : zG) (apr : Nat → Nat) (av : Nat → Nat) (ac : Nat → Nat) (ard : Nat → Nat) (ord_view : Nat) (bpr : S3) (bv : S6) (bc : S0) (brd : S4) (x3 : Int32) (x4 : Int32) (hk_rd_came : ∀ j : Nat, j < 80 → ∃ h : Nat, h ≤ 80 ∧ g4_came brd j = nI h) (hx3_4 : vp_in x3 4) (hx4_20 : vp_in x4 20) (hh_c_head : ∀ r : Nat, r < 16 → vp_in (g0_head bc r) 20) (hz_c_size : ∃ N : Nat, N ≤ 16 ∧ g0_size bc = nI N) (T : (Nat → Int32) × (Nat → Int32) × (Int32) × (Nat → Int32) × (Nat → Int32) × (Nat → Int32) × (Nat → Int32) × (Nat → Int32) × (Int32) × (Int32) × (Int32) × (Int32) × (Int32)) (hT : FX3_build (g3_wanted bpr) (g3_steps bpr) (g3_length bpr) (g6_known bv) (g6_strictFor bv) (g6_forwardFor bv) (g6_allFor bv) (g6_above bv) (g6_facts bv) (g6_applies bv) (g6_falls bv) (g6_sureBodies bv) (g6_neverBodies bv) (g0_kind bc) (g0_head bc) (g0_body bc) (g0_excepts bc) (g0_power bc) (g0_beats bc) (g0_facts bc) (g0_size bc) (g0_shut bc) (g4_came brd) x3 x4 = T) : zV l yX3_build wsX3_build rmX3_build G [.ref (apr 0), .ref (ac 0), .ref (ard 0), .int x3, .int x4] [w3 G apr (av 0) bpr, w6 G av bv, w0 G ac bc, w4 G ard ord_view brd] [w3 G apr (av 0) (s3_length (s3_steps (s3_wanted bpr T.1) T.2.1) T.2.2.1), w6 G av (s6_neverBodies (s6_sureBodies (s6_falls (s6_applies (s6_facts (s6_above (s6_allFor (s6_forwardFor (s6_strictFor (s6_known bv T.2.2.2.1) T.2.2.2.2.1) T.2.2.2.2.2.1) T.2.2.2.2.2.2.1) T.2.2.2.2.2.2.2.1) T.2.2.2.2.2.2.2.2.1) T.2.2.2.2.2.2.2.2.2.1) T.2.2.2.2.2.2.2.2.2.2.1) T.2.2.2.2.2.2.2.2.2.2.2.1) T.2.2.2.2.2.2.2.2.2.2.2.2), w0 G ac bc, w4 G ard ord_view brd] := by
  refine zV.mk (cc := cX3_build) (maxL := 7) (by decide +kernel) rfl (Nat.le_of_ble_eq_true rfl) (zfl_cons (wf3 _ _ _ _ _) (zfl_cons (wf6 _ _ _ _) (zfl_cons rfl (zfl_cons rfl rfl)))) ?_
  intro p e s m args below meth c Q A ls S hK hD hA hP hl hret
  have hx := S.1
  have hb := S.2.1
  have hS : va_S A s.heap s.heap [] := va_S.rf
  have hl : lv_has ls 7 [(0, .ref (apr 0)), (1, .ref (ac 0)), (2, .ref (ard 0)), (3, .int x3), (4, .int x4)] := hl
  have hE := hT.symm.trans (FX3_build.eq_1 _ _ _ _ _ _ _ _ _ _ _ _ _ _ _ _ _ _ _ _ _ _ _ _ _)
  refine lv_aload_n hx hb dX3_build_0 rfl (lv_at hl 2 rfl) ?_
  refine lv_iload_n hx hb dX3_build_1 rfl (lv_at hl 3 rfl) ?_
  refine lv_iload hx hb dX3_build_2 (lv_at hl 4 rfl) ?_
  obtain ⟨t4, ht4⟩ : ∃ z, FX4_roundOf (g4_came brd) x3 x4 = z := ⟨_, rfl⟩
  have hE := hE.trans (bnd_eq ht4)
  have hc := c_X4_roundOf l G ard ord_view brd x3 x4 (hx3_4) (hx4_20) _ ht4
  refine zgoR (va_runV (As := [.int x3, .int x4]) (rest := []) S (hc _) (cwV 2 S.2.2.2.2 gX3_build_X4_roundOf rfl rfl rfl (by decide +kernel) ⟨Nat.le_of_ble_eq_true rfl, Nat.le_of_ble_eq_true rfl⟩) (zpV hK hP hD (is := [3]) rfl rfl 3 rfl rfl (ci := 4) rfl) rfl rfl hl.1 rfl (lv_room (Nat.le_of_ble_eq_true rfl)) dX3_build_4 ⟨Nat.zero_le _, Nat.zero_le _⟩) (fun hn4 => ?_)
  obtain ⟨hh, hhl, hhe⟩ : ∃ h : Nat, h ≤ 80 ∧ t4 = nI h := by rw [← ht4]; exact zround hk_rd_came hx3_4 hx4_20
  subst hhe
  refine lv_istore (lv' := [(5, .int (nI hh)), (0, .ref (apr 0)), (1, .ref (ac 0)), (2, .ref (ard 0)), (3, .int x3), (4, .int x4)]) hx hb dX3_build_7 hl (by decide) rfl (fun ls hl => ?_)
  refine lv_aload_n hx hb dX3_build_9 rfl (lv_at hl 1 rfl) ?_
  refine zg3_wanted S in_X3_build_3 hK hP 0 rfl (List.mem_of_getElem? (i := 1) rfl) dX3_build_10 ?_
  refine lv_iconst (v := 0) hx hb dX3_build_13 (by decide) ?_
  refine zfillC (f := (g3_wanted bpr)) (bs' := [w3 G apr (av 0) (s3_wanted bpr (zfill 4 0 (g3_wanted bpr))), w6 G av bv, w0 G ac bc, w4 G ard ord_view brd]) (rest := []) S (va_cwS 2 S.2.2.2.2 gX3_build_J7_fill_53178 rfl rfl rfl (by decide +kernel) ⟨Nat.le_of_ble_eq_true rfl, Nat.le_of_ble_eq_true rfl⟩) hK hP hD hS hA 0 rfl 1 rfl (Nat.le_of_ble_eq_true rfl) (pt3_wanted _ _ _ _ _) rfl hl.1 (lv_room (Nat.le_of_ble_eq_true rfl)) dX3_build_14 (fun H locs hP hD hS => ?_)
  refine lv_aload_n hx hb dX3_build_17 rfl (lv_at hl 1 rfl) ?_
  refine zg3_wanted S in_X3_build_3 hK hP 0 rfl (List.mem_of_getElem? (i := 1) rfl) dX3_build_18 ?_
  refine lv_iload_n hx hb dX3_build_21 rfl (lv_at hl 4 rfl) ?_
  refine lv_iconst (v := 1) hx hb dX3_build_22 (by decide) ?_
  refine lv_iload hx hb dX3_build_23 (lv_at hl 5 rfl) ?_
  refine lv_ishl hx hb dX3_build_25 ?_
  refine zs3_wanted (bs1 := [w3 G apr (av 0) (s3_wanted (s3_wanted bpr (zfill 4 0 (g3_wanted bpr))) (upd (zfill 4 0 (g3_wanted bpr)) x3.toNatClampNeg (1 <<< (x4 &&& 31)))), w6 G av bv, w0 G ac bc, w4 G ard ord_view brd]) S hK hP hD hS 0 rfl hx3_4 (f := (zfill 4 0 (g3_wanted bpr))) (gg3_wanted _ (zfill 4 0 (g3_wanted bpr))) dX3_build_26 rfl (fun H locs hP hD hS => ?_)
  refine lv_aload_n hx hb dX3_build_27 rfl (lv_at hl 1 rfl) ?_
  refine zg3_view S in_X3_build_3 hK hP 0 rfl (List.mem_of_getElem? (i := 2) rfl) dX3_build_28 ?_
  refine lv_aload_n hx hb dX3_build_31 rfl (lv_at hl 2 rfl) ?_
  obtain ⟨t32, ht32⟩ : ∃ z, FX6_enter (g6_known bv) (g6_strictFor bv) (g6_forwardFor bv) (g6_allFor bv) (g6_above bv) (g6_facts bv) (g0_kind bc) (g0_head bc) (g0_power bc) (g0_beats bc) (g0_facts bc) (g0_size bc) (g0_shut bc) = z := ⟨_, rfl⟩
  have hE := hE.trans (bnd_eq ht32)
  have hc := c_X6_enter l G av ac bv bc (hh_c_head) (hz_c_size) _ ht32
  refine zgoV (bs' := [w3 G apr (av 0) (s3_wanted (s3_wanted bpr (zfill 4 0 (g3_wanted bpr))) (upd (zfill 4 0 (g3_wanted bpr)) x3.toNatClampNeg (1 <<< (x4 &&& 31)))), w6 G av (s6_facts (s6_above (s6_allFor (s6_forwardFor (s6_strictFor (s6_known bv t32.1) t32.2.1) t32.2.2.1) t32.2.2.2.1) t32.2.2.2.2.1) t32.2.2.2.2.2), w0 G ac bc, w4 G ard ord_view brd]) hc [1, 2] rfl rfl rfl hP hD hS hA (va_runV (As := [.ref (ac 0)]) (rest := []) S (hc.2 _) (cwV 1 S.2.2.2.2 gX3_build_X6_enter rfl rfl rfl (by decide +kernel) ⟨Nat.le_of_ble_eq_true rfl, Nat.le_of_ble_eq_true rfl⟩) (zpV hK hP hD (is := [1, 2]) rfl rfl 1 rfl rfl (ci := 6) rfl) rfl rfl hl.1 rfl (lv_room (Nat.le_of_ble_eq_true rfl)) dX3_build_32 ⟨Nat.zero_le _, Nat.zero_le _⟩) (fun H locs hP hD hS => ?_)
  refine lv_iload hx hb dX3_build_35 (lv_at hl 0 rfl) ?_
  have hB66 : ∀ (pr_wanted_66 : Nat → Int32) (v_known_66 : Nat → Int32) (v_applies_66 : Int32) (v_falls_66 : Int32) (v_sureBodies_66 : Int32) (v_neverBodies_66 : Int32) (H : Heap) (locs : List Loc) (ls : Array Slot), T = FX3_build_66 (g3_wanted bpr) (g3_steps bpr) (g3_length bpr) (g6_known bv) (g6_strictFor bv) (g6_forwardFor bv) (g6_allFor bv) (g6_above bv) (g6_facts bv) (g6_applies bv) (g6_falls bv) (g6_sureBodies bv) (g6_neverBodies bv) (g0_kind bc) (g0_head bc) (g0_body bc) (g0_excepts bc) (g0_power bc) (g0_beats bc) (g0_facts bc) (g0_size bc) (g0_shut bc) (g4_came brd) x3 x4 (nI hh) pr_wanted_66 (g3_steps bpr) (g3_length bpr) v_known_66 t32.2.1 t32.2.2.1 t32.2.2.2.1 t32.2.2.2.2.1 t32.2.2.2.2.2 v_applies_66 v_falls_66 v_sureBodies_66 v_neverBodies_66 → zP G [w3 G apr (av 0) (s3_wanted bpr pr_wanted_66), w6 G av (s6_neverBodies (s6_sureBodies (s6_falls (s6_applies (s6_facts (s6_above (s6_allFor (s6_forwardFor (s6_strictFor (s6_known bv v_known_66) t32.2.1) t32.2.2.1) t32.2.2.2.1) t32.2.2.2.2.1) t32.2.2.2.2.2) v_applies_66) v_falls_66) v_sureBodies_66) v_neverBodies_66), w0 G ac bc, w4 G ard ord_view brd] H → zD A [w3 G apr (av 0) (s3_wanted bpr pr_wanted_66), w6 G av (s6_neverBodies (s6_sureBodies (s6_falls (s6_applies (s6_facts (s6_above (s6_allFor (s6_forwardFor (s6_strictFor (s6_known bv v_known_66) t32.2.1) t32.2.2.1) t32.2.2.2.1) t32.2.2.2.2.1) t32.2.2.2.2.2) v_applies_66) v_falls_66) v_sureBodies_66) v_neverBodies_66), w0 G ac bc, w4 G ard ord_view brd] → va_S A s.heap H locs → lv_has ls 7 [(0, .ref (apr 0)), (2, .ref (ard 0)), (5, .int (nI hh))] → W p l e rmX3_build s m args below meth c H locs 0 0 Q (F0 m 66 ls []) := by
    intro pr_wanted_66 v_known_66 v_applies_66 v_falls_66 v_sureBodies_66 v_neverBodies_66 H locs ls hE hP hD hS hl
    have hE := hE.trans (FX3_build_66.eq_1 _ _ _ _ _ _ _ _ _ _ _ _ _ _ _ _ _ _ _ _ _ _ _ _ _ _ _ _ _ _ _ _ _ _ _ _ _ _ _)
    refine lv_aload_n hx hb dX3_build_66 rfl (lv_at hl 0 rfl) ?_
    refine lv_iconst (v := 0) hx hb dX3_build_67 (by decide) ?_
    refine zp3_length (bs1 := [w3 G apr (av 0) (s3_length (s3_wanted bpr pr_wanted_66) 0), w6 G av (s6_neverBodies (s6_sureBodies (s6_falls (s6_applies (s6_facts (s6_above (s6_allFor (s6_forwardFor (s6_strictFor (s6_known bv v_known_66) t32.2.1) t32.2.2.1) t32.2.2.2.1) t32.2.2.2.2.1) t32.2.2.2.2.2) v_applies_66) v_falls_66) v_sureBodies_66) v_neverBodies_66), w0 G ac bc, w4 G ard ord_view brd]) S in_X3_build_3 hK hP hD hS 0 rfl (List.mem_of_getElem? (i := 3) rfl) dX3_build_68 rfl (fun H locs hP hD hS => ?_)
    refine lv_iconst (v := 1) hx hb dX3_build_71 (by decide) ?_
    have hB94 : ∀ (pr_steps_94 : Nat → Int32) (pr_length_94 : Int32) (H : Heap) (locs : List Loc) (ls : Array Slot), T = FX3_build_94 (g3_wanted bpr) (g3_steps bpr) (g3_length bpr) (g6_known bv) (g6_strictFor bv) (g6_forwardFor bv) (g6_allFor bv) (g6_above bv) (g6_facts bv) (g6_applies bv) (g6_falls bv) (g6_sureBodies bv) (g6_neverBodies bv) (g0_kind bc) (g0_head bc) (g0_body bc) (g0_excepts bc) (g0_power bc) (g0_beats bc) (g0_facts bc) (g0_size bc) (g0_shut bc) (g4_came brd) x3 x4 pr_wanted_66 pr_steps_94 pr_length_94 v_known_66 t32.2.1 t32.2.2.1 t32.2.2.2.1 t32.2.2.2.2.1 t32.2.2.2.2.2 v_applies_66 v_falls_66 v_sureBodies_66 v_neverBodies_66 → zP G [w3 G apr (av 0) (s3_length (s3_steps (s3_wanted bpr pr_wanted_66) pr_steps_94) pr_length_94), w6 G av (s6_neverBodies (s6_sureBodies (s6_falls (s6_applies (s6_facts (s6_above (s6_allFor (s6_forwardFor (s6_strictFor (s6_known bv v_known_66) t32.2.1) t32.2.2.1) t32.2.2.2.1) t32.2.2.2.2.1) t32.2.2.2.2.2) v_applies_66) v_falls_66) v_sureBodies_66) v_neverBodies_66), w0 G ac bc, w4 G ard ord_view brd] H → zD A [w3 G apr (av 0) (s3_length (s3_steps (s3_wanted bpr pr_wanted_66) pr_steps_94) pr_length_94), w6 G av (s6_neverBodies (s6_sureBodies (s6_falls (s6_applies (s6_facts (s6_above (s6_allFor (s6_forwardFor (s6_strictFor (s6_known bv v_known_66) t32.2.1) t32.2.2.1) t32.2.2.2.1) t32.2.2.2.2.1) t32.2.2.2.2.2) v_applies_66) v_falls_66) v_sureBodies_66) v_neverBodies_66), w0 G ac bc, w4 G ard ord_view brd] → va_S A s.heap H locs → lv_has ls 7 [] → W p l e rmX3_build s m args below meth c H locs 0 0 Q (F0 m 94 ls []) := by
      intro pr_steps_94 pr_length_94 H locs ls hE hP hD hS hl
      have hE := hE.trans (FX3_build_94.eq_1 _ _ _ _ _ _ _ _ _ _ _ _ _ _ _ _ _ _ _ _ _ _ _ _ _ _ _ _ _ _ _ _ _ _ _ _ _ _)
      exact hret _ _ _ _ _ (by subst hE; rfl) hP hS dX3_build_94
    have hB74 : ∀ (n74 : Nat) (i6_74 : Nat) (pr_steps_74 : Nat → Int32) (pr_length_74 : Int32) (H : Heap) (locs : List Loc) (ls : Array Slot), (i6_74 ≤ 81) → (∃ N : Nat, N ≤ 80 ∧ pr_length_74 = nI N) → 82 ≤ i6_74 + n74 → T = FX3_build_74 (g3_wanted bpr) (g3_steps bpr) (g3_length bpr) (g6_known bv) (g6_strictFor bv) (g6_forwardFor bv) (g6_allFor bv) (g6_above bv) (g6_facts bv) (g6_applies bv) (g6_falls bv) (g6_sureBodies bv) (g6_neverBodies bv) (g0_kind bc) (g0_head bc) (g0_body bc) (g0_excepts bc) (g0_power bc) (g0_beats bc) (g0_facts bc) (g0_size bc) (g0_shut bc) (g4_came brd) x3 x4 (FX3_build_94 (g3_wanted bpr) (g3_steps bpr) (g3_length bpr) (g6_known bv) (g6_strictFor bv) (g6_forwardFor bv) (g6_allFor bv) (g6_above bv) (g6_facts bv) (g6_applies bv) (g6_falls bv) (g6_sureBodies bv) (g6_neverBodies bv) (g0_kind bc) (g0_head bc) (g0_body bc) (g0_excepts bc) (g0_power bc) (g0_beats bc) (g0_facts bc) (g0_size bc) (g0_shut bc) (g4_came brd) x3 x4) n74 (nI hh) (nI i6_74) pr_wanted_66 pr_steps_74 pr_length_74 v_known_66 t32.2.1 t32.2.2.1 t32.2.2.2.1 t32.2.2.2.2.1 t32.2.2.2.2.2 v_applies_66 v_falls_66 v_sureBodies_66 v_neverBodies_66 → zP G [w3 G apr (av 0) (s3_length (s3_steps (s3_wanted bpr pr_wanted_66) pr_steps_74) pr_length_74), w6 G av (s6_neverBodies (s6_sureBodies (s6_falls (s6_applies (s6_facts (s6_above (s6_allFor (s6_forwardFor (s6_strictFor (s6_known bv v_known_66) t32.2.1) t32.2.2.1) t32.2.2.2.1) t32.2.2.2.2.1) t32.2.2.2.2.2) v_applies_66) v_falls_66) v_sureBodies_66) v_neverBodies_66), w0 G ac bc, w4 G ard ord_view brd] H → zD A [w3 G apr (av 0) (s3_length (s3_steps (s3_wanted bpr pr_wanted_66) pr_steps_74) pr_length_74), w6 G av (s6_neverBodies (s6_sureBodies (s6_falls (s6_applies (s6_facts (s6_above (s6_allFor (s6_forwardFor (s6_strictFor (s6_known bv v_known_66) t32.2.1) t32.2.2.1) t32.2.2.2.1) t32.2.2.2.2.1) t32.2.2.2.2.2) v_applies_66) v_falls_66) v_sureBodies_66) v_neverBodies_66), w0 G ac bc, w4 G ard ord_view brd] → va_S A s.heap H locs → lv_has ls 7 [(0, .ref (apr 0)), (2, .ref (ard 0)), (5, .int (nI hh)), (6, .int (nI i6_74))] → W p l e rmX3_build s m args below meth c H locs 0 0 Q (F0 m 74 ls []) := by
      intro n74
      induction n74 with
      | zero =>
        intro i6_74 pr_steps_74 pr_length_74 H locs ls hi6 hL74 hn hE hP hD hS hl
        exact absurd hn (by omega)
      | succ n74 ih74 =>
        intro i6_74 pr_steps_74 pr_length_74 H locs ls hi6 hL74 hn hE hP hD hS hl
        have hE := hE.trans (FX3_build_74.eq_2 _ _ _ _ _ _ _ _ _ _ _ _ _ _ _ _ _ _ _ _ _ _ _ _ _ _ _ _ _ _ _ _ _ _ _ _ _ _ _ _ _ _)
        refine lv_iload hx hb dX3_build_74 (lv_at hl 3 rfl) ?_
        refine lv_iload hx hb dX3_build_76 (lv_at hl 2 rfl) ?_
        refine lv_icmp_gt (tgt := 94) hx hb dX3_build_78 (by decide) (fun c78 => ?_) (fun c78 => ?_)
        · have hE := hE.trans (if_pos c78)
          exact hB94 pr_steps_74 pr_length_74 _ _ _ hE hP hD hS (lv_sub hl [] rfl)
        · have hE := hE.trans (if_neg c78)
          have hl6 : i6_74 ≤ hh := znlt rfl (by omega) (by omega) c78
          refine lv_aload_n hx hb dX3_build_81 rfl (lv_at hl 0 rfl) ?_
          refine lv_iload hx hb dX3_build_82 (lv_at hl 3 rfl) ?_
          refine lv_aload_n hx hb dX3_build_84 rfl (lv_at hl 1 rfl) ?_
          obtain ⟨t85, ht85⟩ : ∃ z, FX3_listRound pr_wanted_66 pr_steps_74 pr_length_74 (g4_came brd) (nI i6_74) = z := ⟨_, rfl⟩
          have hE := hE.trans (bnd_eq ht85)
          have hc := c_X3_listRound l G apr ard (av 0) ord_view (s3_length (s3_steps (s3_wanted bpr pr_wanted_66) pr_steps_74) pr_length_74) brd (nI i6_74) (hL74) _ (by simp only [gs3_wanted_length, gs3_wanted_steps, gg3_wanted, gs3_steps_length, gg3_steps, gg3_length]; exact ht85)
          refine zgoV (bs' := [w3 G apr (av 0) (s3_length (s3_steps (s3_length (s3_steps (s3_wanted bpr pr_wanted_66) pr_steps_74) pr_length_74) t85.1) t85.2), w6 G av (s6_neverBodies (s6_sureBodies (s6_falls (s6_applies (s6_facts (s6_above (s6_allFor (s6_forwardFor (s6_strictFor (s6_known bv v_known_66) t32.2.1) t32.2.2.1) t32.2.2.2.1) t32.2.2.2.2.1) t32.2.2.2.2.2) v_applies_66) v_falls_66) v_sureBodies_66) v_neverBodies_66), w0 G ac bc, w4 G ard ord_view brd]) hc [0, 3] rfl rfl rfl hP hD hS hA (va_runV (As := [.int (nI i6_74), .ref (ard 0)]) (rest := []) S (hc.2 _) (cwV 2 S.2.2.2.2 gX3_build_X3_listRound rfl rfl rfl (by decide +kernel) ⟨Nat.le_of_ble_eq_true rfl, Nat.le_of_ble_eq_true rfl⟩) (zpV hK hP hD (is := [0, 3]) rfl rfl 0 rfl rfl (ci := 3) rfl) rfl rfl hl.1 rfl (lv_room (Nat.le_of_ble_eq_true rfl)) dX3_build_85 ⟨Nat.zero_le _, Nat.zero_le _⟩) (fun H locs hP hD hS => ?_)
          refine lv_iinc (v := (nI (i6_74 + 1))) (lv' := [(6, .int (nI (i6_74 + 1))), (0, .ref (apr 0)), (2, .ref (ard 0)), (5, .int (nI hh))]) hx hb dX3_build_88 hl (k := 3) rfl (nI_1 i6_74) (by decide) rfl (fun ls hl => ?_)
          try rw [nI_1 i6_74] at hE
          refine lv_goto (tgt := 74) hx hb dX3_build_91 (by decide) ?_
          rw [show (s3_length (s3_steps (s3_length (s3_steps (s3_wanted bpr pr_wanted_66) pr_steps_74) pr_length_74) t85.1) t85.2) = (s3_length (s3_steps (s3_wanted bpr pr_wanted_66) t85.1) t85.2) from ((congrArg (fun z => s3_length z t85.2) ((cm3_steps_length _ pr_length_74 t85.1).trans (congrArg (fun z => s3_length z pr_length_74) (ss3_steps _ pr_steps_74 t85.1)))).trans (ss3_length _ pr_length_74 t85.2))] at hP hD
          exact ih74 (i6_74 + 1) t85.1 t85.2 _ _ _ (by first | assumption | omega) (by rw [← ht85]; exact zlistlen hL74) (by omega) hE hP hD hS (lv_sub hl [1, 2, 3, 0] rfl)
    refine lv_istore (lv' := [(6, .int 1), (0, .ref (apr 0)), (2, .ref (ard 0)), (5, .int (nI hh))]) hx hb dX3_build_72 hl (by decide) rfl (fun ls hl => ?_)
    rw [show (s3_length (s3_wanted bpr pr_wanted_66) 0) = (s3_length (s3_steps (s3_wanted bpr pr_wanted_66) (g3_steps bpr)) 0) from (congrArg (fun z => s3_length z 0) (((se3_steps _).symm).trans (congrArg (fun v => s3_steps (s3_wanted bpr pr_wanted_66) v) (gs3_steps_wanted _ pr_wanted_66))))] at hP hD
    exact hB74 82 1 (g3_steps bpr) 0 _ _ _ (by first | assumption | omega) (by exact ⟨0, by omega, rfl⟩) (by omega) hE hP hD hS (lv_sub hl [1, 2, 3, 0] rfl)
  have hB39 : ∀ (n39 : Nat) (r6_39 : Nat) (pr_wanted_39 : Nat → Int32) (v_known_39 : Nat → Int32) (v_applies_39 : Int32) (v_falls_39 : Int32) (v_sureBodies_39 : Int32) (v_neverBodies_39 : Int32) (H : Heap) (locs : List Loc) (ls : Array Slot), (r6_39 ≤ hh) → 82 ≤ (81 - r6_39) + n39 → T = FX3_build_39 (g3_wanted bpr) (g3_steps bpr) (g3_length bpr) (g6_known bv) (g6_strictFor bv) (g6_forwardFor bv) (g6_allFor bv) (g6_above bv) (g6_facts bv) (g6_applies bv) (g6_falls bv) (g6_sureBodies bv) (g6_neverBodies bv) (g0_kind bc) (g0_head bc) (g0_body bc) (g0_excepts bc) (g0_power bc) (g0_beats bc) (g0_facts bc) (g0_size bc) (g0_shut bc) (g4_came brd) x3 x4 (FX3_build_66 (g3_wanted bpr) (g3_steps bpr) (g3_length bpr) (g6_known bv) (g6_strictFor bv) (g6_forwardFor bv) (g6_allFor bv) (g6_above bv) (g6_facts bv) (g6_applies bv) (g6_falls bv) (g6_sureBodies bv) (g6_neverBodies bv) (g0_kind bc) (g0_head bc) (g0_body bc) (g0_excepts bc) (g0_power bc) (g0_beats bc) (g0_facts bc) (g0_size bc) (g0_shut bc) (g4_came brd) x3 x4) n39 (nI hh) (nI r6_39) pr_wanted_39 (g3_steps bpr) (g3_length bpr) v_known_39 t32.2.1 t32.2.2.1 t32.2.2.2.1 t32.2.2.2.2.1 t32.2.2.2.2.2 v_applies_39 v_falls_39 v_sureBodies_39 v_neverBodies_39 → zP G [w3 G apr (av 0) (s3_wanted bpr pr_wanted_39), w6 G av (s6_neverBodies (s6_sureBodies (s6_falls (s6_applies (s6_facts (s6_above (s6_allFor (s6_forwardFor (s6_strictFor (s6_known bv v_known_39) t32.2.1) t32.2.2.1) t32.2.2.2.1) t32.2.2.2.2.1) t32.2.2.2.2.2) v_applies_39) v_falls_39) v_sureBodies_39) v_neverBodies_39), w0 G ac bc, w4 G ard ord_view brd] H → zD A [w3 G apr (av 0) (s3_wanted bpr pr_wanted_39), w6 G av (s6_neverBodies (s6_sureBodies (s6_falls (s6_applies (s6_facts (s6_above (s6_allFor (s6_forwardFor (s6_strictFor (s6_known bv v_known_39) t32.2.1) t32.2.2.1) t32.2.2.2.1) t32.2.2.2.2.1) t32.2.2.2.2.2) v_applies_39) v_falls_39) v_sureBodies_39) v_neverBodies_39), w0 G ac bc, w4 G ard ord_view brd] → va_S A s.heap H locs → lv_has ls 7 [(0, .ref (apr 0)), (1, .ref (ac 0)), (2, .ref (ard 0)), (5, .int (nI hh)), (6, .int (nI r6_39))] → W p l e rmX3_build s m args below meth c H locs 0 0 Q (F0 m 39 ls []) := by
    intro n39
    induction n39 with
    | zero =>
      intro r6_39 pr_wanted_39 v_known_39 v_applies_39 v_falls_39 v_sureBodies_39 v_neverBodies_39 H locs ls hr6 hn hE hP hD hS hl
      exact absurd hn (by omega)
    | succ n39 ih39 =>
      intro r6_39 pr_wanted_39 v_known_39 v_applies_39 v_falls_39 v_sureBodies_39 v_neverBodies_39 H locs ls hr6 hn hE hP hD hS hl
      have hE := hE.trans (FX3_build_39.eq_2 _ _ _ _ _ _ _ _ _ _ _ _ _ _ _ _ _ _ _ _ _ _ _ _ _ _ _ _ _ _ _ _ _ _ _ _ _ _ _ _ _ _)
      refine lv_iload hx hb dX3_build_39 (lv_at hl 4 rfl) ?_
      refine lv_if_le (tgt := 66) hx hb dX3_build_41 (by decide) (fun c41 => ?_) (fun c41 => ?_)
      · have hE := hE.trans (if_pos c41)
        exact hB66 pr_wanted_39 v_known_39 v_applies_39 v_falls_39 v_sureBodies_39 v_neverBodies_39 _ _ _ hE hP hD hS (lv_sub hl [0, 2, 3] rfl)
      · have hE := hE.trans (if_neg c41)
        have hp6 : 0 < r6_39 := znpos c41
        refine lv_aload_n hx hb dX3_build_44 rfl (lv_at hl 0 rfl) ?_
        refine lv_iload hx hb dX3_build_45 (lv_at hl 4 rfl) ?_
        refine lv_aload_n hx hb dX3_build_47 rfl (lv_at hl 1 rfl) ?_
        refine lv_aload_n hx hb dX3_build_48 rfl (lv_at hl 2 rfl) ?_
        obtain ⟨t49, ht49⟩ : ∃ z, FX3_lookAheadOf v_known_39 v_applies_39 v_falls_39 v_sureBodies_39 v_neverBodies_39 (g0_body bc) (g0_excepts bc) (g0_size bc) (g4_came brd) (nI r6_39) = z := ⟨_, rfl⟩
        have hE := hE.trans (bnd_eq ht49)
        have hc := c_X3_lookAheadOf l G apr av ac ard ord_view (s3_wanted bpr pr_wanted_39) (s6_neverBodies (s6_sureBodies (s6_falls (s6_applies (s6_facts (s6_above (s6_allFor (s6_forwardFor (s6_strictFor (s6_known bv v_known_39) t32.2.1) t32.2.2.1) t32.2.2.2.1) t32.2.2.2.2.1) t32.2.2.2.2.2) v_applies_39) v_falls_39) v_sureBodies_39) v_neverBodies_39) bc brd (nI r6_39) (hz_c_size) _ (by simp only [gs6_known_neverBodies, gs6_known_sureBodies, gs6_known_falls, gs6_known_applies, gs6_known_facts, gs6_known_above, gs6_known_allFor, gs6_known_forwardFor, gs6_known_strictFor, gg6_known, gs6_applies_neverBodies, gs6_applies_sureBodies, gs6_applies_falls, gg6_applies, gs6_falls_neverBodies, gs6_falls_sureBodies, gg6_falls, gs6_sureBodies_neverBodies, gg6_sureBodies, gg6_neverBodies]; exact ht49)
        refine zgoV (bs' := [w3 G apr (av 0) (s3_wanted bpr pr_wanted_39), w6 G av (s6_neverBodies (s6_sureBodies (s6_falls (s6_applies (s6_known (s6_neverBodies (s6_sureBodies (s6_falls (s6_applies (s6_facts (s6_above (s6_allFor (s6_forwardFor (s6_strictFor (s6_known bv v_known_39) t32.2.1) t32.2.2.1) t32.2.2.2.1) t32.2.2.2.2.1) t32.2.2.2.2.2) v_applies_39) v_falls_39) v_sureBodies_39) v_neverBodies_39) t49.1) t49.2.1) t49.2.2.1) t49.2.2.2.1) t49.2.2.2.2), w0 G ac bc, w4 G ard ord_view brd]) hc [0, 1, 2, 3] rfl rfl rfl hP hD hS hA (va_runV (As := [.int (nI r6_39), .ref (ac 0), .ref (ard 0)]) (rest := []) S (hc.2 _) (cwV 3 S.2.2.2.2 gX3_build_X3_lookAheadOf rfl rfl rfl (by decide +kernel) ⟨Nat.le_of_ble_eq_true rfl, Nat.le_of_ble_eq_true rfl⟩) (zpV hK hP hD (is := [0, 1, 2, 3]) rfl rfl 0 rfl rfl (ci := 3) rfl) rfl rfl hl.1 rfl (lv_room (Nat.le_of_ble_eq_true rfl)) dX3_build_49 ⟨Nat.zero_le _, Nat.zero_le _⟩) (fun H locs hP hD hS => ?_)
        refine lv_aload_n hx hb dX3_build_52 rfl (lv_at hl 0 rfl) ?_
        refine lv_iload hx hb dX3_build_53 (lv_at hl 4 rfl) ?_
        refine lv_aload_n hx hb dX3_build_55 rfl (lv_at hl 1 rfl) ?_
        refine lv_aload_n hx hb dX3_build_56 rfl (lv_at hl 2 rfl) ?_
        obtain ⟨t57, ht57⟩ : ∃ z, FX3_wantNeeds pr_wanted_39 t49.1 t32.2.1 t32.2.2.1 t32.2.2.2.1 t32.2.2.2.2.1 t32.2.2.2.2.2 t49.2.1 t49.2.2.1 t49.2.2.2.1 (g0_body bc) (g0_excepts bc) (g4_came brd) (nI r6_39) = z := ⟨_, rfl⟩
        have hE := hE.trans (bnd_eq ht57)
        have hc := c_X3_wantNeeds l G apr av ac ard ord_view (s3_wanted bpr pr_wanted_39) (s6_neverBodies (s6_sureBodies (s6_falls (s6_applies (s6_known (s6_neverBodies (s6_sureBodies (s6_falls (s6_applies (s6_facts (s6_above (s6_allFor (s6_forwardFor (s6_strictFor (s6_known bv v_known_39) t32.2.1) t32.2.2.1) t32.2.2.2.1) t32.2.2.2.2.1) t32.2.2.2.2.2) v_applies_39) v_falls_39) v_sureBodies_39) v_neverBodies_39) t49.1) t49.2.1) t49.2.2.1) t49.2.2.2.1) t49.2.2.2.2) bc brd (nI r6_39) _ (by simp only [gg3_wanted, gs6_known_neverBodies, gs6_known_sureBodies, gs6_known_falls, gs6_known_applies, gg6_known, gs6_strictFor_neverBodies, gs6_strictFor_sureBodies, gs6_strictFor_falls, gs6_strictFor_applies, gs6_strictFor_known, gs6_strictFor_facts, gs6_strictFor_above, gs6_strictFor_allFor, gs6_strictFor_forwardFor, gg6_strictFor, gs6_forwardFor_neverBodies, gs6_forwardFor_sureBodies, gs6_forwardFor_falls, gs6_forwardFor_applies, gs6_forwardFor_known, gs6_forwardFor_facts, gs6_forwardFor_above, gs6_forwardFor_allFor, gg6_forwardFor, gs6_allFor_neverBodies, gs6_allFor_sureBodies, gs6_allFor_falls, gs6_allFor_applies, gs6_allFor_known, gs6_allFor_facts, gs6_allFor_above, gg6_allFor, gs6_above_neverBodies, gs6_above_sureBodies, gs6_above_falls, gs6_above_applies, gs6_above_known, gs6_above_facts, gg6_above, gs6_facts_neverBodies, gs6_facts_sureBodies, gs6_facts_falls, gs6_facts_applies, gs6_facts_known, gg6_facts, gs6_applies_neverBodies, gs6_applies_sureBodies, gs6_applies_falls, gg6_applies, gs6_falls_neverBodies, gs6_falls_sureBodies, gg6_falls, gs6_sureBodies_neverBodies, gg6_sureBodies]; exact ht57)
        refine zgoV (bs' := [w3 G apr (av 0) (s3_wanted (s3_wanted bpr pr_wanted_39) t57), w6 G av (s6_neverBodies (s6_sureBodies (s6_falls (s6_applies (s6_known (s6_neverBodies (s6_sureBodies (s6_falls (s6_applies (s6_facts (s6_above (s6_allFor (s6_forwardFor (s6_strictFor (s6_known bv v_known_39) t32.2.1) t32.2.2.1) t32.2.2.2.1) t32.2.2.2.2.1) t32.2.2.2.2.2) v_applies_39) v_falls_39) v_sureBodies_39) v_neverBodies_39) t49.1) t49.2.1) t49.2.2.1) t49.2.2.2.1) t49.2.2.2.2), w0 G ac bc, w4 G ard ord_view brd]) hc [0, 1, 2, 3] rfl rfl rfl hP hD hS hA (va_runV (As := [.int (nI r6_39), .ref (ac 0), .ref (ard 0)]) (rest := []) S (hc.2 _) (cwV 3 S.2.2.2.2 gX3_build_X3_wantNeeds rfl rfl rfl (by decide +kernel) ⟨Nat.le_of_ble_eq_true rfl, Nat.le_of_ble_eq_true rfl⟩) (zpV hK hP hD (is := [0, 1, 2, 3]) rfl rfl 0 rfl rfl (ci := 3) rfl) rfl rfl hl.1 rfl (lv_room (Nat.le_of_ble_eq_true rfl)) dX3_build_57 ⟨Nat.zero_le _, Nat.zero_le _⟩) (fun H locs hP hD hS => ?_)
        refine lv_iinc (v := (nI (r6_39 - 1))) (lv' := [(6, .int (nI (r6_39 - 1))), (0, .ref (apr 0)), (1, .ref (ac 0)), (2, .ref (ard 0)), (5, .int (nI hh))]) hx hb dX3_build_60 hl (k := 4) rfl (znpred (by omega)) (by decide) rfl (fun ls hl => ?_)
        try rw [znpred (show 0 < r6_39 by omega)] at hE
        refine lv_goto (tgt := 39) hx hb dX3_build_63 (by decide) ?_
        rw [show (s3_wanted (s3_wanted bpr pr_wanted_39) t57) = (s3_wanted bpr t57) from (ss3_wanted _ pr_wanted_39 t57)] at hP hD
        rw [show (s6_neverBodies (s6_sureBodies (s6_falls (s6_applies (s6_known (s6_neverBodies (s6_sureBodies (s6_falls (s6_applies (s6_facts (s6_above (s6_allFor (s6_forwardFor (s6_strictFor (s6_known bv v_known_39) t32.2.1) t32.2.2.1) t32.2.2.2.1) t32.2.2.2.2.1) t32.2.2.2.2.2) v_applies_39) v_falls_39) v_sureBodies_39) v_neverBodies_39) t49.1) t49.2.1) t49.2.2.1) t49.2.2.2.1) t49.2.2.2.2) = (s6_neverBodies (s6_sureBodies (s6_falls (s6_applies (s6_facts (s6_above (s6_allFor (s6_forwardFor (s6_strictFor (s6_known bv t49.1) t32.2.1) t32.2.2.1) t32.2.2.2.1) t32.2.2.2.2.1) t32.2.2.2.2.2) t49.2.1) t49.2.2.1) t49.2.2.2.1) t49.2.2.2.2) from ((congrArg (fun z => s6_neverBodies z t49.2.2.2.2) ((congrArg (fun z => s6_sureBodies z t49.2.2.2.1) ((congrArg (fun z => s6_falls z t49.2.2.1) ((congrArg (fun z => s6_applies z t49.2.1) ((cm6_known_neverBodies _ v_neverBodies_39 t49.1).trans (congrArg (fun z => s6_neverBodies z v_neverBodies_39) ((cm6_known_sureBodies _ v_sureBodies_39 t49.1).trans (congrArg (fun z => s6_sureBodies z v_sureBodies_39) ((cm6_known_falls _ v_falls_39 t49.1).trans (congrArg (fun z => s6_falls z v_falls_39) ((cm6_known_applies _ v_applies_39 t49.1).trans (congrArg (fun z => s6_applies z v_applies_39) ((cm6_known_facts _ t32.2.2.2.2.2 t49.1).trans (congrArg (fun z => s6_facts z t32.2.2.2.2.2) ((cm6_known_above _ t32.2.2.2.2.1 t49.1).trans (congrArg (fun z => s6_above z t32.2.2.2.2.1) ((cm6_known_allFor _ t32.2.2.2.1 t49.1).trans (congrArg (fun z => s6_allFor z t32.2.2.2.1) ((cm6_known_forwardFor _ t32.2.2.1 t49.1).trans (congrArg (fun z => s6_forwardFor z t32.2.2.1) ((cm6_known_strictFor _ t32.2.1 t49.1).trans (congrArg (fun z => s6_strictFor z t32.2.1) (ss6_known _ v_known_39 t49.1)))))))))))))))))))).trans ((cm6_applies_neverBodies _ v_neverBodies_39 t49.2.1).trans (congrArg (fun z => s6_neverBodies z v_neverBodies_39) ((cm6_applies_sureBodies _ v_sureBodies_39 t49.2.1).trans (congrArg (fun z => s6_sureBodies z v_sureBodies_39) ((cm6_applies_falls _ v_falls_39 t49.2.1).trans (congrArg (fun z => s6_falls z v_falls_39) (ss6_applies _ v_applies_39 t49.2.1))))))))).trans ((cm6_falls_neverBodies _ v_neverBodies_39 t49.2.2.1).trans (congrArg (fun z => s6_neverBodies z v_neverBodies_39) ((cm6_falls_sureBodies _ v_sureBodies_39 t49.2.2.1).trans (congrArg (fun z => s6_sureBodies z v_sureBodies_39) (ss6_falls _ v_falls_39 t49.2.2.1))))))).trans ((cm6_sureBodies_neverBodies _ v_neverBodies_39 t49.2.2.2.1).trans (congrArg (fun z => s6_neverBodies z v_neverBodies_39) (ss6_sureBodies _ v_sureBodies_39 t49.2.2.2.1))))).trans (ss6_neverBodies _ v_neverBodies_39 t49.2.2.2.2))] at hP hD
        exact ih39 (r6_39 - 1) t57 t49.1 t49.2.1 t49.2.2.1 t49.2.2.2.1 t49.2.2.2.2 _ _ _ (by first | assumption | omega) (by omega) hE hP hD hS (lv_sub hl [1, 2, 3, 4, 0] rfl)
  refine lv_istore (lv' := [(6, .int (nI hh)), (5, .int (nI hh)), (0, .ref (apr 0)), (1, .ref (ac 0)), (2, .ref (ard 0)), (3, .int x3), (4, .int x4)]) hx hb dX3_build_37 hl (by decide) rfl (fun ls hl => ?_)
  rw [show (s3_wanted (s3_wanted bpr (zfill 4 0 (g3_wanted bpr))) (upd (zfill 4 0 (g3_wanted bpr)) x3.toNatClampNeg (1 <<< (x4 &&& 31)))) = (s3_wanted bpr (upd (zfill 4 0 (g3_wanted bpr)) x3.toNatClampNeg (1 <<< (x4 &&& 31)))) from (ss3_wanted _ (zfill 4 0 (g3_wanted bpr)) (upd (zfill 4 0 (g3_wanted bpr)) x3.toNatClampNeg (1 <<< (x4 &&& 31))))] at hP hD
  rw [show (s6_facts (s6_above (s6_allFor (s6_forwardFor (s6_strictFor (s6_known bv t32.1) t32.2.1) t32.2.2.1) t32.2.2.2.1) t32.2.2.2.2.1) t32.2.2.2.2.2) = (s6_neverBodies (s6_sureBodies (s6_falls (s6_applies (s6_facts (s6_above (s6_allFor (s6_forwardFor (s6_strictFor (s6_known bv t32.1) t32.2.1) t32.2.2.1) t32.2.2.2.1) t32.2.2.2.2.1) t32.2.2.2.2.2) (g6_applies bv)) (g6_falls bv)) (g6_sureBodies bv)) (g6_neverBodies bv)) from ((((((se6_applies _).symm).trans (congrArg (fun v => s6_applies (s6_facts (s6_above (s6_allFor (s6_forwardFor (s6_strictFor (s6_known bv t32.1) t32.2.1) t32.2.2.1) t32.2.2.2.1) t32.2.2.2.2.1) t32.2.2.2.2.2) v) ((gs6_applies_facts _ t32.2.2.2.2.2).trans ((gs6_applies_above _ t32.2.2.2.2.1).trans ((gs6_applies_allFor _ t32.2.2.2.1).trans ((gs6_applies_forwardFor _ t32.2.2.1).trans ((gs6_applies_strictFor _ t32.2.1).trans (gs6_applies_known _ t32.1)))))))).trans (((se6_falls _).symm).trans (congrArg (fun v => s6_falls (s6_applies (s6_facts (s6_above (s6_allFor (s6_forwardFor (s6_strictFor (s6_known bv t32.1) t32.2.1) t32.2.2.1) t32.2.2.2.1) t32.2.2.2.2.1) t32.2.2.2.2.2) (g6_applies bv)) v) ((gs6_falls_applies _ (g6_applies bv)).trans ((gs6_falls_facts _ t32.2.2.2.2.2).trans ((gs6_falls_above _ t32.2.2.2.2.1).trans ((gs6_falls_allFor _ t32.2.2.2.1).trans ((gs6_falls_forwardFor _ t32.2.2.1).trans ((gs6_falls_strictFor _ t32.2.1).trans (gs6_falls_known _ t32.1)))))))))).trans (((se6_sureBodies _).symm).trans (congrArg (fun v => s6_sureBodies (s6_falls (s6_applies (s6_facts (s6_above (s6_allFor (s6_forwardFor (s6_strictFor (s6_known bv t32.1) t32.2.1) t32.2.2.1) t32.2.2.2.1) t32.2.2.2.2.1) t32.2.2.2.2.2) (g6_applies bv)) (g6_falls bv)) v) ((gs6_sureBodies_falls _ (g6_falls bv)).trans ((gs6_sureBodies_applies _ (g6_applies bv)).trans ((gs6_sureBodies_facts _ t32.2.2.2.2.2).trans ((gs6_sureBodies_above _ t32.2.2.2.2.1).trans ((gs6_sureBodies_allFor _ t32.2.2.2.1).trans ((gs6_sureBodies_forwardFor _ t32.2.2.1).trans ((gs6_sureBodies_strictFor _ t32.2.1).trans (gs6_sureBodies_known _ t32.1))))))))))).trans (((se6_neverBodies _).symm).trans (congrArg (fun v => s6_neverBodies (s6_sureBodies (s6_falls (s6_applies (s6_facts (s6_above (s6_allFor (s6_forwardFor (s6_strictFor (s6_known bv t32.1) t32.2.1) t32.2.2.1) t32.2.2.2.1) t32.2.2.2.2.1) t32.2.2.2.2.2) (g6_applies bv)) (g6_falls bv)) (g6_sureBodies bv)) v) ((gs6_neverBodies_sureBodies _ (g6_sureBodies bv)).trans ((gs6_neverBodies_falls _ (g6_falls bv)).trans ((gs6_neverBodies_applies _ (g6_applies bv)).trans ((gs6_neverBodies_facts _ t32.2.2.2.2.2).trans ((gs6_neverBodies_above _ t32.2.2.2.2.1).trans ((gs6_neverBodies_allFor _ t32.2.2.2.1).trans ((gs6_neverBodies_forwardFor _ t32.2.2.1).trans ((gs6_neverBodies_strictFor _ t32.2.1).trans (gs6_neverBodies_known _ t32.1))))))))))))] at hP hD
  exact hB39 82 hh (upd (zfill 4 0 (g3_wanted bpr)) x3.toNatClampNeg (1 <<< (x4 &&& 31))) t32.1 (g6_applies bv) (g6_falls bv) (g6_sureBodies bv) (g6_neverBodies bv) _ _ _ (by first | assumption | omega) (by omega) hE hP hD hS (lv_sub hl [2, 3, 4, 1, 0] rfl)

def zls (s : Nat → Int32) (l : Int32) : Prop := (∃ N : Nat, N ≤ 80 ∧ l = nI N) ∧ ∀ j : Nat, j < 80 → vp_in (s j / 20) 4
theorem zls_25 {w s0 c : Nat → Int32} {l0 x1 : Int32} {rc : Int32 → (Nat → Int32) → Int32 → (Nat → Int32) × Int32} {kt2 : (Nat → Int32) → Int32 → (Nat → Int32) × Int32} {kt : Int32 → (Nat → Int32) → Int32 → (Nat → Int32) × Int32} {t : Nat} (ht : t < 4) (hk : ∀ s l, zls s l → zls (kt (nI t) s l).1 (kt (nI t) s l).2) : ∀ (n i : Nat) (s : Nat → Int32) (l : Int32), i ≤ 20 → zls s l → zls (FX3_listRound_10 w s0 l0 c x1 rc kt2 kt n (nI t) (nI i) s l).1 (FX3_listRound_10 w s0 l0 c x1 rc kt2 kt n (nI t) (nI i) s l).2
  | 0, i, s, l, hi, h => hk _ _ h
  | n + 1, i, s, l, hi, h => by
    rw [FX3_listRound_10]
    by_cases c : (20 : Int32) ≤ nI i
    · rw [if_pos c]
      exact hk _ _ h
    · rw [if_neg c]
      have hi2 : i < 20 := zlt (N := 20) rfl (by omega) (by decide) c
      simp only [bnd]
      rw [nI_1]
      split
      · exact zls_25 ht hk n _ _ _ (by omega) h
      · split
        · exact zls_25 ht hk n _ _ _ (by omega) h
        · refine zls_25 ht hk n _ _ _ (by omega) ⟨znext h.1 rfl (by decide) (by assumption), fun j hj => ?_⟩
          by_cases e : j = l.toNatClampNeg
          · subst e
            rw [pk_us, show (20 : Int32) = nI 20 from rfl, pk_mul, nI_add, pk_div (by omega) (by decide) (by decide)]
            exact vp_in_nI (by omega) (by decide)
          · rw [pk_un e]
            exact h.2 j hj
theorem zls_2 {w s0 c : Nat → Int32} {l0 x1 : Int32} (n : Nat) : ∀ (t : Nat) (s : Nat → Int32) (l : Int32), t ≤ 4 → zls s l → ∀ z : (Nat → Int32) × Int32, FX3_listRound_2 w s0 l0 c x1 (FX3_listRound_76 w s0 l0 c x1) n (nI t) s l = z → zls z.1 z.2 := by
  induction n with
  | zero =>
    intro t s l ht h z hz
    rw [← hz]
    exact h
  | succ n ih =>
    intro t s l ht h z hz
    rw [FX3_listRound_2] at hz
    by_cases e : (4 : Int32) ≤ nI t
    · rw [if_pos e] at hz
      rw [← hz]
      exact h
    · rw [if_neg e] at hz
      have ht2 : t < 4 := zlt (N := 4) rfl (by omega) (by decide) e
      rw [← hz]
      refine zls_25 ht2 (fun s l h => ?_) 21 0 s l (by omega) h
      rw [FX3_listRound_70, nI_1]
      exact ih _ _ _ (by omega) h _ rfl
theorem zls_list {w s c : Nat → Int32} {l x1 : Int32} (h : zls s l) : zls (FX3_listRound w s l c x1).1 (FX3_listRound w s l c x1).2 := zls_2 5 0 _ _ (by omega) h _ rfl
theorem zls_build74 {pr_wanted : Nat → Int32} {pr_steps : Nat → Int32} {pr_length : Int32} {v_known : Nat → Int32} {v_strictFor : Nat → Int32} {v_forwardFor : Nat → Int32} {v_allFor : Nat → Int32} {v_above : Nat → Int32} {v_facts : Int32} {v_applies : Int32} {v_falls : Int32} {v_sureBodies : Int32} {v_neverBodies : Int32} {c_kind : Nat → Int32} {c_head : Nat → Int32} {c_body : Nat → Int32} {c_excepts : Nat → Int32} {c_power : Nat → Int32} {c_beats : Nat → Int32} {c_facts : Int32} {c_size : Int32} {c_shut : Int32} {rd_came : Nat → Int32} {x3 : Int32} {x4 : Int32} : ∀ (n : Nat) (x5_74 : Int32) (x6_74 : Int32) (pr_wanted_74 : Nat → Int32) (pr_steps_74 : Nat → Int32) (pr_length_74 : Int32) (v_known_74 : Nat → Int32) (v_strictFor_74 : Nat → Int32) (v_forwardFor_74 : Nat → Int32) (v_allFor_74 : Nat → Int32) (v_above_74 : Nat → Int32) (v_facts_74 : Int32) (v_applies_74 : Int32) (v_falls_74 : Int32) (v_sureBodies_74 : Int32) (v_neverBodies_74 : Int32), zls pr_steps_74 pr_length_74 → zls (FX3_build_74 pr_wanted pr_steps pr_length v_known v_strictFor v_forwardFor v_allFor v_above v_facts v_applies v_falls v_sureBodies v_neverBodies c_kind c_head c_body c_excepts c_power c_beats c_facts c_size c_shut rd_came x3 x4 (FX3_build_94 pr_wanted pr_steps pr_length v_known v_strictFor v_forwardFor v_allFor v_above v_facts v_applies v_falls v_sureBodies v_neverBodies c_kind c_head c_body c_excepts c_power c_beats c_facts c_size c_shut rd_came x3 x4) n x5_74 x6_74 pr_wanted_74 pr_steps_74 pr_length_74 v_known_74 v_strictFor_74 v_forwardFor_74 v_allFor_74 v_above_74 v_facts_74 v_applies_74 v_falls_74 v_sureBodies_74 v_neverBodies_74).2.1 (FX3_build_74 pr_wanted pr_steps pr_length v_known v_strictFor v_forwardFor v_allFor v_above v_facts v_applies v_falls v_sureBodies v_neverBodies c_kind c_head c_body c_excepts c_power c_beats c_facts c_size c_shut rd_came x3 x4 (FX3_build_94 pr_wanted pr_steps pr_length v_known v_strictFor v_forwardFor v_allFor v_above v_facts v_applies v_falls v_sureBodies v_neverBodies c_kind c_head c_body c_excepts c_power c_beats c_facts c_size c_shut rd_came x3 x4) n x5_74 x6_74 pr_wanted_74 pr_steps_74 pr_length_74 v_known_74 v_strictFor_74 v_forwardFor_74 v_allFor_74 v_above_74 v_facts_74 v_applies_74 v_falls_74 v_sureBodies_74 v_neverBodies_74).2.2.1
  | 0, x5_74, x6_74, pr_wanted_74, pr_steps_74, pr_length_74, v_known_74, v_strictFor_74, v_forwardFor_74, v_allFor_74, v_above_74, v_facts_74, v_applies_74, v_falls_74, v_sureBodies_74, v_neverBodies_74, h => h
  | n + 1, x5_74, x6_74, pr_wanted_74, pr_steps_74, pr_length_74, v_known_74, v_strictFor_74, v_forwardFor_74, v_allFor_74, v_above_74, v_facts_74, v_applies_74, v_falls_74, v_sureBodies_74, v_neverBodies_74, h => by
    rw [FX3_build_74]
    simp only [bnd]
    split
    · exact h
    · exact zls_build74 n _ _ _ _ _ _ _ _ _ _ _ _ _ _ _ (zls_list h)
theorem zls_build39 {pr_wanted : Nat → Int32} {pr_steps : Nat → Int32} {pr_length : Int32} {v_known : Nat → Int32} {v_strictFor : Nat → Int32} {v_forwardFor : Nat → Int32} {v_allFor : Nat → Int32} {v_above : Nat → Int32} {v_facts : Int32} {v_applies : Int32} {v_falls : Int32} {v_sureBodies : Int32} {v_neverBodies : Int32} {c_kind : Nat → Int32} {c_head : Nat → Int32} {c_body : Nat → Int32} {c_excepts : Nat → Int32} {c_power : Nat → Int32} {c_beats : Nat → Int32} {c_facts : Int32} {c_size : Int32} {c_shut : Int32} {rd_came : Nat → Int32} {x3 : Int32} {x4 : Int32} {kt : (Int32) → (Nat → Int32) → (Nat → Int32) → (Int32) → (Nat → Int32) → (Nat → Int32) → (Nat → Int32) → (Nat → Int32) → (Nat → Int32) → (Int32) → (Int32) → (Int32) → (Int32) → (Int32) → ((Nat → Int32) × (Nat → Int32) × (Int32) × (Nat → Int32) × (Nat → Int32) × (Nat → Int32) × (Nat → Int32) × (Nat → Int32) × (Int32) × (Int32) × (Int32) × (Int32) × (Int32))} (hk : ∀ (x5_39 : Int32) (pr_wanted_39 : Nat → Int32) (pr_steps_39 : Nat → Int32) (pr_length_39 : Int32) (v_known_39 : Nat → Int32) (v_strictFor_39 : Nat → Int32) (v_forwardFor_39 : Nat → Int32) (v_allFor_39 : Nat → Int32) (v_above_39 : Nat → Int32) (v_facts_39 : Int32) (v_applies_39 : Int32) (v_falls_39 : Int32) (v_sureBodies_39 : Int32) (v_neverBodies_39 : Int32), (∀ j : Nat, j < 80 → vp_in (pr_steps_39 j / 20) 4) → zls (kt x5_39 pr_wanted_39 pr_steps_39 pr_length_39 v_known_39 v_strictFor_39 v_forwardFor_39 v_allFor_39 v_above_39 v_facts_39 v_applies_39 v_falls_39 v_sureBodies_39 v_neverBodies_39).2.1 (kt x5_39 pr_wanted_39 pr_steps_39 pr_length_39 v_known_39 v_strictFor_39 v_forwardFor_39 v_allFor_39 v_above_39 v_facts_39 v_applies_39 v_falls_39 v_sureBodies_39 v_neverBodies_39).2.2.1) : ∀ (n : Nat) (x5_39 : Int32) (x6_39 : Int32) (pr_wanted_39 : Nat → Int32) (pr_steps_39 : Nat → Int32) (pr_length_39 : Int32) (v_known_39 : Nat → Int32) (v_strictFor_39 : Nat → Int32) (v_forwardFor_39 : Nat → Int32) (v_allFor_39 : Nat → Int32) (v_above_39 : Nat → Int32) (v_facts_39 : Int32) (v_applies_39 : Int32) (v_falls_39 : Int32) (v_sureBodies_39 : Int32) (v_neverBodies_39 : Int32), (∀ j : Nat, j < 80 → vp_in (pr_steps_39 j / 20) 4) → zls (FX3_build_39 pr_wanted pr_steps pr_length v_known v_strictFor v_forwardFor v_allFor v_above v_facts v_applies v_falls v_sureBodies v_neverBodies c_kind c_head c_body c_excepts c_power c_beats c_facts c_size c_shut rd_came x3 x4 kt n x5_39 x6_39 pr_wanted_39 pr_steps_39 pr_length_39 v_known_39 v_strictFor_39 v_forwardFor_39 v_allFor_39 v_above_39 v_facts_39 v_applies_39 v_falls_39 v_sureBodies_39 v_neverBodies_39).2.1 (FX3_build_39 pr_wanted pr_steps pr_length v_known v_strictFor v_forwardFor v_allFor v_above v_facts v_applies v_falls v_sureBodies v_neverBodies c_kind c_head c_body c_excepts c_power c_beats c_facts c_size c_shut rd_came x3 x4 kt n x5_39 x6_39 pr_wanted_39 pr_steps_39 pr_length_39 v_known_39 v_strictFor_39 v_forwardFor_39 v_allFor_39 v_above_39 v_facts_39 v_applies_39 v_falls_39 v_sureBodies_39 v_neverBodies_39).2.2.1
  | 0, x5_39, x6_39, pr_wanted_39, pr_steps_39, pr_length_39, v_known_39, v_strictFor_39, v_forwardFor_39, v_allFor_39, v_above_39, v_facts_39, v_applies_39, v_falls_39, v_sureBodies_39, v_neverBodies_39, h => hk _ _ _ _ _ _ _ _ _ _ _ _ _ _ h
  | n + 1, x5_39, x6_39, pr_wanted_39, pr_steps_39, pr_length_39, v_known_39, v_strictFor_39, v_forwardFor_39, v_allFor_39, v_above_39, v_facts_39, v_applies_39, v_falls_39, v_sureBodies_39, v_neverBodies_39, h => by
    rw [FX3_build_39]
    simp only [bnd]
    split
    · exact hk _ _ _ _ _ _ _ _ _ _ _ _ _ _ h
    · exact zls_build39 hk n _ _ _ _ _ _ _ _ _ _ _ _ _ _ _ h
theorem zls_build {pr_wanted : Nat → Int32} {pr_steps : Nat → Int32} {pr_length : Int32} {v_known : Nat → Int32} {v_strictFor : Nat → Int32} {v_forwardFor : Nat → Int32} {v_allFor : Nat → Int32} {v_above : Nat → Int32} {v_facts : Int32} {v_applies : Int32} {v_falls : Int32} {v_sureBodies : Int32} {v_neverBodies : Int32} {c_kind : Nat → Int32} {c_head : Nat → Int32} {c_body : Nat → Int32} {c_excepts : Nat → Int32} {c_power : Nat → Int32} {c_beats : Nat → Int32} {c_facts : Int32} {c_size : Int32} {c_shut : Int32} {rd_came : Nat → Int32} {x3 : Int32} {x4 : Int32} (h : ∀ j : Nat, j < 80 → vp_in (pr_steps j / 20) 4) : zls (FX3_build pr_wanted pr_steps pr_length v_known v_strictFor v_forwardFor v_allFor v_above v_facts v_applies v_falls v_sureBodies v_neverBodies c_kind c_head c_body c_excepts c_power c_beats c_facts c_size c_shut rd_came x3 x4).2.1 (FX3_build pr_wanted pr_steps pr_length v_known v_strictFor v_forwardFor v_allFor v_above v_facts v_applies v_falls v_sureBodies v_neverBodies c_kind c_head c_body c_excepts c_power c_beats c_facts c_size c_shut rd_came x3 x4).2.2.1 := zls_build39 (fun _ _ _ _ _ _ _ _ _ _ _ _ _ _ h => zls_build74 _ _ _ _ _ _ _ _ _ _ _ _ _ _ _ _ ⟨⟨0, by omega, rfl⟩, h⟩) _ _ _ _ _ _ _ _ _ _ _ _ _ _ _ _ h

theorem in_X3_tagAt_3 : ∀ w ∈ u_ws RX3 TX3 4, w ∈ wsX3_tagAt := by decide +kernel
def rmX3_tagAt : Room := { frames := 0, cells := 0, slots := 0, locals := 0 }
set_option maxHeartbeats 4000000 in
set_option maxRecDepth 100000 in
theorem c_X3_tagAt (l : Launch) (G : zG) (apr : Nat → Nat) (opr_view : Nat) (bpr : S3) (x1 : Int32) (hx1_80 : vp_in x1 80) (T : Int32) (hT : FX3_tagAt (g3_steps bpr) x1 = T) : zR l yX3_tagAt wsX3_tagAt rmX3_tagAt .int G [.ref (apr 0), .int x1] [w3 G apr opr_view bpr] T := by
  refine zR.mk (cc := cX3_tagAt) (maxL := 2) (by decide +kernel) rfl (Nat.le_of_ble_eq_true rfl) ?_
  intro p e s m args below meth c Q A ls S hK hD hA hP hl hret
  have hx := S.1
  have hb := S.2.1
  have hl : lv_has ls 2 [(0, .ref (apr 0)), (1, .int x1)] := hl
  have hE := hT.symm.trans (FX3_tagAt.eq_1 _ _)
  refine lv_aload_n hx hb dX3_tagAt_0 rfl (lv_at hl 0 rfl) ?_
  refine zg3_steps S in_X3_tagAt_3 hK hP 0 rfl (List.mem_of_getElem? (i := 1) rfl) dX3_tagAt_1 ?_
  refine lv_iload_n hx hb dX3_tagAt_4 rfl (lv_at hl 1 rfl) ?_
  refine zl3_steps S hK hP 0 rfl hx1_80 (f := (g3_steps bpr)) rfl dX3_tagAt_5 ?_
  refine lv_bipush (v := 20) hx hb dX3_tagAt_6 (by decide) ?_
  refine lv_idiv hx hb dX3_tagAt_8 (by decide) ?_
  exact hret _ _ _ hE rfl dX3_tagAt_9

theorem in_X3_literalAt_3 : ∀ w ∈ u_ws RX3 TX3 4, w ∈ wsX3_literalAt := by decide +kernel
def rmX3_literalAt : Room := { frames := 0, cells := 0, slots := 0, locals := 0 }
set_option maxHeartbeats 4000000 in
set_option maxRecDepth 100000 in
theorem c_X3_literalAt (l : Launch) (G : zG) (apr : Nat → Nat) (opr_view : Nat) (bpr : S3) (x1 : Int32) (hx1_80 : vp_in x1 80) (T : Int32) (hT : FX3_literalAt (g3_steps bpr) x1 = T) : zR l yX3_literalAt wsX3_literalAt rmX3_literalAt .int G [.ref (apr 0), .int x1] [w3 G apr opr_view bpr] T := by
  refine zR.mk (cc := cX3_literalAt) (maxL := 2) (by decide +kernel) rfl (Nat.le_of_ble_eq_true rfl) ?_
  intro p e s m args below meth c Q A ls S hK hD hA hP hl hret
  have hx := S.1
  have hb := S.2.1
  have hl : lv_has ls 2 [(0, .ref (apr 0)), (1, .int x1)] := hl
  have hE := hT.symm.trans (FX3_literalAt.eq_1 _ _)
  refine lv_aload_n hx hb dX3_literalAt_0 rfl (lv_at hl 0 rfl) ?_
  refine zg3_steps S in_X3_literalAt_3 hK hP 0 rfl (List.mem_of_getElem? (i := 1) rfl) dX3_literalAt_1 ?_
  refine lv_iload_n hx hb dX3_literalAt_4 rfl (lv_at hl 1 rfl) ?_
  refine zl3_steps S hK hP 0 rfl hx1_80 (f := (g3_steps bpr)) rfl dX3_literalAt_5 ?_
  refine lv_bipush (v := 20) hx hb dX3_literalAt_6 (by decide) ?_
  refine lv_irem hx hb dX3_literalAt_8 (by decide) ?_
  exact hret _ _ _ hE rfl dX3_literalAt_9

