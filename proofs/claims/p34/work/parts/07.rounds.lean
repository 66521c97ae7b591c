theorem in_X4_note_4 : ∀ w ∈ u_ws RX4 TX4 3, w ∈ wsX4_note := by decide +kernel
theorem in_X4_note_6 : ∀ w ∈ u_ws RX6 TX6 12, w ∈ wsX4_note := by decide +kernel
def rmX4_note : Room := { frames := 1, cells := 0, slots := 0, locals := 21 }
set_option maxHeartbeats 4000000 in
set_option maxRecDepth 100000 in
theorem c_X4_note (l : Launch) (G : zG) (ard : Nat → Nat) (av : Nat → Nat) (brd : S4) (bv : S6) (T : (Nat → Int32) × (Nat → Int32)) (hT : FX4_note (g4_came brd) (g4_last brd) (g6_known bv) (g6_fresh bv) = T) : zV l yX4_note wsX4_note rmX4_note G [.ref (ard 0)] [w4 G ard (av 0) brd, w6 G av bv] [w4 G ard (av 0) (s4_came brd T.1), w6 G av (s6_known bv T.2)] := by
  refine zV.mk (cc := cX4_note) (maxL := 4) (by decide +kernel) rfl (Nat.le_of_ble_eq_true rfl) (zfl_cons (wf4 _ _ _ _ _) (zfl_cons (wf6 _ _ _ _) rfl)) ?_
  intro p e s m args below meth c Q A ls S hK hD hA hP hl hret
  have hx := S.1
  have hb := S.2.1
  have hS : va_S A s.heap s.heap [] := va_S.rf
  have hl : lv_has ls 4 [(0, .ref (ard 0))] := hl
  have hE := hT.symm.trans (FX4_note.eq_1 _ _ _ _)
  refine lv_iconst (v := 0) hx hb dX4_note_0 (by decide) ?_
  have hB73 : ∀ (rd_came_73 : Nat → Int32) (v_known_73 : Nat → Int32) (H : Heap) (locs : List Loc) (ls : Array Slot), T = FX4_note_73 (g4_came brd) (g4_last brd) (g6_known bv) (g6_fresh bv) rd_came_73 v_known_73 → zP G [w4 G ard (av 0) (s4_came brd rd_came_73), w6 G av (s6_known bv v_known_73)] H → zD A [w4 G ard (av 0) (s4_came brd rd_came_73), w6 G av (s6_known bv v_known_73)] → va_S A s.heap H locs → lv_has ls 4 [] → W p l e rmX4_note s m args below meth c H locs 0 0 Q (F0 m 73 ls []) := by
    intro rd_came_73 v_known_73 H locs ls hE hP hD hS hl
    have hE := hE.trans (FX4_note_73.eq_1 _ _ _ _ _ _)
    exact hret _ _ _ _ _ (by subst hE; rfl) hP hS dX4_note_73
  have hB2 : ∀ (n2 : Nat) (i1_2 : Nat) (rd_came_2 : Nat → Int32) (v_known_2 : Nat → Int32) (H : Heap) (locs : List Loc) (ls : Array Slot), (i1_2 ≤ 4) → 5 ≤ i1_2 + n2 → T = FX4_note_2 (g4_came brd) (g4_last brd) (g6_known bv) (g6_fresh bv) (FX4_note_73 (g4_came brd) (g4_last brd) (g6_known bv) (g6_fresh bv)) n2 (nI i1_2) rd_came_2 v_known_2 → zP G [w4 G ard (av 0) (s4_came brd rd_came_2), w6 G av (s6_known bv v_known_2)] H → zD A [w4 G ard (av 0) (s4_came brd rd_came_2), w6 G av (s6_known bv v_known_2)] → va_S A s.heap H locs → lv_has ls 4 [(0, .ref (ard 0)), (1, .int (nI i1_2))] → W p l e rmX4_note s m args below meth c H locs 0 0 Q (F0 m 2 ls []) := by
    intro n2
    induction n2 with
    | zero =>
      intro i1_2 rd_came_2 v_known_2 H locs ls hi1_2 hn hE hP hD hS hl
      exact absurd hn (by omega)
    | succ n2 ih2 =>
      intro i1_2 rd_came_2 v_known_2 H locs ls hi1_2 hn hE hP hD hS hl
      have hE := hE.trans (FX4_note_2.eq_2 _ _ _ _ _ _ _ _ _)
      refine lv_iload_n hx hb dX4_note_2 rfl (lv_at hl 1 rfl) ?_
      refine lv_iconst (v := 4) hx hb dX4_note_3 (by decide) ?_
      refine lv_icmp_ge (tgt := 73) hx hb dX4_note_4 (by decide) (fun c4 => ?_) (fun c4 => ?_)
      · have hE := hE.trans (if_pos c4)
        exact hB73 rd_came_2 v_known_2 _ _ _ hE hP hD hS (lv_sub hl [] rfl)
      · have hE := hE.trans (if_neg c4)
        have hl1_2 : i1_2 < 4 := zlt (N := 4) rfl (by omega) (by omega) c4
        refine lv_aload_n hx hb dX4_note_7 rfl (lv_at hl 0 rfl) ?_
        refine zg4_view S in_X4_note_4 hK hP 0 rfl (List.mem_of_getElem? (i := 1) rfl) dX4_note_8 ?_
        refine zg6_fresh S in_X4_note_6 hK hP 1 rfl (List.mem_of_getElem? (i := 2) rfl) dX4_note_11 ?_
        refine lv_iload_n hx hb dX4_note_14 rfl (lv_at hl 1 rfl) ?_
        refine zl6_fresh S hK hP 1 rfl (vp_in_nI (by omega) (by omega)) (f := (g6_fresh bv)) (gs6_fresh_known _ v_known_2) dX4_note_15 ?_
        refine lv_istore_n (lv' := [(2, .int ((g6_fresh bv) (nI i1_2).toNatClampNeg)), (0, .ref (ard 0)), (1, .int (nI i1_2))]) hx hb dX4_note_16 rfl hl (by decide) rfl (fun ls hl => ?_)
        refine lv_aload_n hx hb dX4_note_17 rfl (lv_at hl 1 rfl) ?_
        refine zg4_view S in_X4_note_4 hK hP 0 rfl (List.mem_of_getElem? (i := 1) rfl) dX4_note_18 ?_
        refine zg6_known S in_X4_note_6 hK hP 1 rfl (List.mem_of_getElem? (i := 3) rfl) dX4_note_21 ?_
        refine lv_iload_n hx hb dX4_note_24 rfl (lv_at hl 2 rfl) ?_
        refine lv_dup2_11 hx hb dX4_note_25 rfl rfl ?_
        refine zl6_known S hK hP 1 rfl (vp_in_nI (by omega) (by omega)) (f := v_known_2) (gg6_known _ v_known_2) dX4_note_26 ?_
        refine lv_iload_n hx hb dX4_note_27 rfl (lv_at hl 0 rfl) ?_
        refine lv_ior hx hb dX4_note_28 ?_
        refine zs6_known (bs1 := [w4 G ard (av 0) (s4_came brd rd_came_2), w6 G av (s6_known (s6_known bv v_known_2) (upd v_known_2 (nI i1_2).toNatClampNeg ((v_known_2 (nI i1_2).toNatClampNeg) ||| ((g6_fresh bv) (nI i1_2).toNatClampNeg))))]) S hK hP hD hS 1 rfl (vp_in_nI (by omega) (by omega)) (f := v_known_2) (gg6_known _ v_known_2) dX4_note_29 rfl (fun H locs hP hD hS => ?_)
        refine lv_iconst (v := 0) hx hb dX4_note_30 (by decide) ?_
        have hB67 : ∀ (rd_came_67 : Nat → Int32) (H : Heap) (locs : List Loc) (ls : Array Slot), T = FX4_note_67 (g4_came brd) (g4_last brd) (g6_known bv) (g6_fresh bv) (fun x1_2' rd_came_2' v_known_2' => FX4_note_2 (g4_came brd) (g4_last brd) (g6_known bv) (g6_fresh bv) (FX4_note_73 (g4_came brd) (g4_last brd) (g6_known bv) (g6_fresh bv)) n2 x1_2' rd_came_2' v_known_2') (FX4_note_73 (g4_came brd) (g4_last brd) (g6_known bv) (g6_fresh bv)) (nI i1_2) rd_came_67 (upd v_known_2 (nI i1_2).toNatClampNeg ((v_known_2 (nI i1_2).toNatClampNeg) ||| ((g6_fresh bv) (nI i1_2).toNatClampNeg))) → zP G [w4 G ard (av 0) (s4_came brd rd_came_67), w6 G av (s6_known bv (upd v_known_2 (nI i1_2).toNatClampNeg ((v_known_2 (nI i1_2).toNatClampNeg) ||| ((g6_fresh bv) (nI i1_2).toNatClampNeg))))] H → zD A [w4 G ard (av 0) (s4_came brd rd_came_67), w6 G av (s6_known bv (upd v_known_2 (nI i1_2).toNatClampNeg ((v_known_2 (nI i1_2).toNatClampNeg) ||| ((g6_fresh bv) (nI i1_2).toNatClampNeg))))] → va_S A s.heap H locs → lv_has ls 4 [(0, .ref (ard 0)), (1, .int (nI i1_2))] → W p l e rmX4_note s m args below meth c H locs 0 0 Q (F0 m 67 ls []) := by
          intro rd_came_67 H locs ls hE hP hD hS hl
          have hE := hE.trans (FX4_note_67.eq_1 _ _ _ _ _ _ _ _ _)
          refine lv_iinc (v := (nI (i1_2 + 1))) (lv' := [(1, .int (nI (i1_2 + 1))), (0, .ref (ard 0))]) hx hb dX4_note_67 hl (k := 1) rfl (nI_1 i1_2) (by decide) rfl (fun ls hl => ?_)
          try rw [nI_1 i1_2] at hE
          refine lv_goto (tgt := 2) hx hb dX4_note_70 (by decide) ?_
          exact ih2 (i1_2 + 1) rd_came_67 (upd v_known_2 (nI i1_2).toNatClampNeg ((v_known_2 (nI i1_2).toNatClampNeg) ||| ((g6_fresh bv) (nI i1_2).toNatClampNeg))) _ _ _ (by first | assumption | omega) (by omega) hE hP hD hS (lv_sub hl [1, 0] rfl)
        have hB32 : ∀ (n32 : Nat) (i3_32 : Nat) (rd_came_32 : Nat → Int32) (H : Heap) (locs : List Loc) (ls : Array Slot), (i3_32 ≤ 20) → 21 ≤ i3_32 + n32 → T = FX4_note_32 (g4_came brd) (g4_last brd) (g6_known bv) (g6_fresh bv) (fun x1_2' rd_came_2' v_known_2' => FX4_note_2 (g4_came brd) (g4_last brd) (g6_known bv) (g6_fresh bv) (FX4_note_73 (g4_came brd) (g4_last brd) (g6_known bv) (g6_fresh bv)) n2 x1_2' rd_came_2' v_known_2') (FX4_note_73 (g4_came brd) (g4_last brd) (g6_known bv) (g6_fresh bv)) (FX4_note_67 (g4_came brd) (g4_last brd) (g6_known bv) (g6_fresh bv) (fun x1_2' rd_came_2' v_known_2' => FX4_note_2 (g4_came brd) (g4_last brd) (g6_known bv) (g6_fresh bv) (FX4_note_73 (g4_came brd) (g4_last brd) (g6_known bv) (g6_fresh bv)) n2 x1_2' rd_came_2' v_known_2') (FX4_note_73 (g4_came brd) (g4_last brd) (g6_known bv) (g6_fresh bv))) n32 (nI i1_2) ((g6_fresh bv) (nI i1_2).toNatClampNeg) (nI i3_32) rd_came_32 (upd v_known_2 (nI i1_2).toNatClampNeg ((v_known_2 (nI i1_2).toNatClampNeg) ||| ((g6_fresh bv) (nI i1_2).toNatClampNeg))) → zP G [w4 G ard (av 0) (s4_came brd rd_came_32), w6 G av (s6_known bv (upd v_known_2 (nI i1_2).toNatClampNeg ((v_known_2 (nI i1_2).toNatClampNeg) ||| ((g6_fresh bv) (nI i1_2).toNatClampNeg))))] H → zD A [w4 G ard (av 0) (s4_came brd rd_came_32), w6 G av (s6_known bv (upd v_known_2 (nI i1_2).toNatClampNeg ((v_known_2 (nI i1_2).toNatClampNeg) ||| ((g6_fresh bv) (nI i1_2).toNatClampNeg))))] → va_S A s.heap H locs → lv_has ls 4 [(0, .ref (ard 0)), (1, .int (nI i1_2)), (2, .int ((g6_fresh bv) (nI i1_2).toNatClampNeg)), (3, .int (nI i3_32))] → W p l e rmX4_note s m args below meth c H locs 0 0 Q (F0 m 32 ls []) := by
          intro n32
          induction n32 with
          | zero =>
            intro i3_32 rd_came_32 H locs ls hi3_32 hn hE hP hD hS hl
            exact absurd hn (by omega)
          | succ n32 ih32 =>
            intro i3_32 rd_came_32 H locs ls hi3_32 hn hE hP hD hS hl
            have hE := hE.trans (FX4_note_32.eq_2 _ _ _ _ _ _ _ _ _ _ _ _ _)
            refine lv_iload_n hx hb dX4_note_32 rfl (lv_at hl 3 rfl) ?_
            refine lv_bipush (v := 20) hx hb dX4_note_33 (by decide) ?_
            refine lv_icmp_ge (tgt := 67) hx hb dX4_note_35 (by decide) (fun c35 => ?_) (fun c35 => ?_)
            · have hE := hE.trans (if_pos c35)
              exact hB67 rd_came_32 _ _ _ hE hP hD hS (lv_sub hl [0, 1] rfl)
            · have hE := hE.trans (if_neg c35)
              have hl3_32 : i3_32 < 20 := zlt (N := 20) rfl (by omega) (by omega) c35
              refine lv_iload_n hx hb dX4_note_38 rfl (lv_at hl 2 rfl) ?_
              refine lv_iload_n hx hb dX4_note_39 rfl (lv_at hl 3 rfl) ?_
              obtain ⟨t40, ht40⟩ : ∃ z, FX8_has ((g6_fresh bv) (nI i1_2).toNatClampNeg) (nI i3_32) = z := ⟨_, rfl⟩
              have hE := hE.trans (bnd_eq ht40)
              have hc := c_X8_has l G ((g6_fresh bv) (nI i1_2).toNatClampNeg) (nI i3_32) _ ht40
              refine zgoR (va_runSN (As := [.int ((g6_fresh bv) (nI i1_2).toNatClampNeg), .int (nI i3_32)]) (rest := []) S (hc _) ⟨va_cnB (host := "RuleCourt") 2 S.2.2.2.2 gX4_note_X8_has_n52 rfl rfl rfl (hK.2 _ (List.mem_of_getElem? (i := 3) rfl)) (S.2.2.2.2 _ (List.mem_of_getElem? (i := 7) rfl)) (by decide +kernel) ⟨Nat.le_of_ble_eq_true rfl, Nat.le_of_ble_eq_true rfl⟩, S.2.2.2.2 _ (List.mem_of_getElem? (i := 6) rfl), trivial⟩ (zpS hK hP hD (is := []) rfl rfl) rfl rfl hl.1 rfl (lv_room (Nat.le_of_ble_eq_true rfl)) dX4_note_40 ⟨Nat.zero_le _, Nat.zero_le _⟩) (fun hn40 => ?_)
              refine lv_if_eq (tgt := 61) hx hb dX4_note_43 (by decide) (fun c43 => ?_) (fun c43 => ?_)
              · have hE := hE.trans (if_pos c43)
                refine lv_iinc (v := (nI (i3_32 + 1))) (lv' := [(3, .int (nI (i3_32 + 1))), (0, .ref (ard 0)), (1, .int (nI i1_2)), (2, .int ((g6_fresh bv) (nI i1_2).toNatClampNeg))]) hx hb dX4_note_61 hl (k := 3) rfl (nI_1 i3_32) (by decide) rfl (fun ls hl => ?_)
                try rw [nI_1 i3_32] at hE
                refine lv_goto (tgt := 32) hx hb dX4_note_64 (by decide) ?_
                exact ih32 (i3_32 + 1) rd_came_32 _ _ _ (by first | assumption | omega) (by omega) hE hP hD hS (lv_sub hl [1, 2, 3, 0] rfl)
              · have hE := hE.trans (if_neg c43)
                refine lv_aload_n hx hb dX4_note_46 rfl (lv_at hl 0 rfl) ?_
                refine zg4_came S in_X4_note_4 hK hP 0 rfl (List.mem_of_getElem? (i := 4) rfl) dX4_note_47 ?_
                refine lv_iload_n hx hb dX4_note_50 rfl (lv_at hl 1 rfl) ?_
                refine lv_bipush (v := 20) hx hb dX4_note_51 (by decide) ?_
                refine lv_imul hx hb dX4_note_53 ?_
                refine lv_iload_n hx hb dX4_note_54 rfl (lv_at hl 3 rfl) ?_
                refine lv_iadd hx hb dX4_note_55 ?_
                refine lv_aload_n hx hb dX4_note_56 rfl (lv_at hl 0 rfl) ?_
                refine zg4_last S in_X4_note_4 hK hP 0 rfl (List.mem_of_getElem? (i := 5) rfl) (v := (g4_last brd)) (gs4_last_came _ rd_came_32) dX4_note_57 ?_
                refine zs4_came (bs1 := [w4 G ard (av 0) (s4_came (s4_came brd rd_came_32) (upd rd_came_32 (((nI i1_2) * 20) + (nI i3_32)).toNatClampNeg (g4_last brd))), w6 G av (s6_known bv (upd v_known_2 (nI i1_2).toNatClampNeg ((v_known_2 (nI i1_2).toNatClampNeg) ||| ((g6_fresh bv) (nI i1_2).toNatClampNeg))))]) S hK hP hD hS 0 rfl (zlinR 20 rfl (A := 4) (B := 20) (vp_in_nI (by omega) (by omega)) (vp_in_nI (by omega) (by omega)) (by decide) (by decide) (by decide) (by decide)) (f := rd_came_32) (gg4_came _ rd_came_32) dX4_note_60 rfl (fun H locs hP hD hS => ?_)
                refine lv_iinc (v := (nI (i3_32 + 1))) (lv' := [(3, .int (nI (i3_32 + 1))), (0, .ref (ard 0)), (1, .int (nI i1_2)), (2, .int ((g6_fresh bv) (nI i1_2).toNatClampNeg))]) hx hb dX4_note_61 hl (k := 3) rfl (nI_1 i3_32) (by decide) rfl (fun ls hl => ?_)
                try rw [nI_1 i3_32] at hE
                refine lv_goto (tgt := 32) hx hb dX4_note_64 (by decide) ?_
                rw [show (s4_came (s4_came brd rd_came_32) (upd rd_came_32 (((nI i1_2) * 20) + (nI i3_32)).toNatClampNeg (g4_last brd))) = (s4_came brd (upd rd_came_32 (((nI i1_2) * 20) + (nI i3_32)).toNatClampNeg (g4_last brd))) from (ss4_came _ rd_came_32 (upd rd_came_32 (((nI i1_2) * 20) + (nI i3_32)).toNatClampNeg (g4_last brd)))] at hP hD
                exact ih32 (i3_32 + 1) (upd rd_came_32 (((nI i1_2) * 20) + (nI i3_32)).toNatClampNeg (g4_last brd)) _ _ _ (by first | assumption | omega) (by omega) hE hP hD hS (lv_sub hl [1, 2, 3, 0] rfl)
        refine lv_istore_n (lv' := [(3, .int 0), (2, .int ((g6_fresh bv) (nI i1_2).toNatClampNeg)), (0, .ref (ard 0)), (1, .int (nI i1_2))]) hx hb dX4_note_31 rfl hl (by decide) rfl (fun ls hl => ?_)
        rw [show (s6_known (s6_known bv v_known_2) (upd v_known_2 (nI i1_2).toNatClampNeg ((v_known_2 (nI i1_2).toNatClampNeg) ||| ((g6_fresh bv) (nI i1_2).toNatClampNeg)))) = (s6_known bv (upd v_known_2 (nI i1_2).toNatClampNeg ((v_known_2 (nI i1_2).toNatClampNeg) ||| ((g6_fresh bv) (nI i1_2).toNatClampNeg)))) from (ss6_known _ v_known_2 (upd v_known_2 (nI i1_2).toNatClampNeg ((v_known_2 (nI i1_2).toNatClampNeg) ||| ((g6_fresh bv) (nI i1_2).toNatClampNeg))))] at hP hD
        exact hB32 21 0 rd_came_2 _ _ _ (by first | assumption | omega) (by omega) hE hP hD hS (lv_sub hl [2, 3, 1, 0] rfl)
  refine lv_istore_n (lv' := [(1, .int 0), (0, .ref (ard 0))]) hx hb dX4_note_1 rfl hl (by decide) rfl (fun ls hl => ?_)
  rw [show brd = (s4_came brd (g4_came brd)) from ((se4_came _).symm)] at hP hD
  rw [show bv = (s6_known bv (g6_known bv)) from ((se6_known _).symm)] at hP hD
  exact hB2 5 0 (g4_came brd) (g6_known bv) _ _ _ (by first | assumption | omega) (by omega) hE hP hD hS (lv_sub hl [1, 0] rfl)

def zbd (f : Nat → Int32) : Prop := ∀ j : Nat, j < 80 → ∃ h : Nat, h ≤ 80 ∧ f j = nI h
theorem zbd_upd {f : Nat → Int32} {k : Nat} {x : Int32} (h : zbd f) (hx : ∃ h : Nat, h ≤ 80 ∧ x = nI h) : zbd (upd f k x) := fun j hj => by
  by_cases e : j = k
  · subst e; rw [pk_us]; exact hx
  · rw [pk_un e]; exact h j hj
theorem zbd_note32 {rd_came : Nat → Int32} {rd_last : Int32} {v_known : Nat → Int32} {v_fresh : Nat → Int32} {rc : Int32 → (Nat → Int32) → (Nat → Int32) → (Nat → Int32) × (Nat → Int32)} {kt2 : (Nat → Int32) → (Nat → Int32) → (Nat → Int32) × (Nat → Int32)} {kt : Int32 → (Nat → Int32) → (Nat → Int32) → (Nat → Int32) × (Nat → Int32)} (hl : ∃ h : Nat, h ≤ 80 ∧ rd_last = nI h) (hk : ∀ x c k, zbd c → zbd (kt x c k).1) : ∀ (n : Nat) (x1 x2 x3 : Int32) (c k : Nat → Int32), zbd c → zbd (FX4_note_32 rd_came rd_last v_known v_fresh rc kt2 kt n x1 x2 x3 c k).1
  | 0, x1, x2, x3, c, k, h => hk _ _ _ h
  | n + 1, x1, x2, x3, c, k, h => by
    rw [FX4_note_32]
    simp only [bnd]
    repeat' split
    all_goals first | exact hk _ _ _ h | exact zbd_note32 hl hk n _ _ _ _ _ h | exact zbd_note32 hl hk n _ _ _ _ _ (zbd_upd h hl)
theorem zbd_note2 {rd_came : Nat → Int32} {rd_last : Int32} {v_known : Nat → Int32} {v_fresh : Nat → Int32} {kt : (Nat → Int32) → (Nat → Int32) → (Nat → Int32) × (Nat → Int32)} (hl : ∃ h : Nat, h ≤ 80 ∧ rd_last = nI h) (hk : ∀ c k, zbd c → zbd (kt c k).1) : ∀ (n : Nat) (x1 : Int32) (c k : Nat → Int32), zbd c → zbd (FX4_note_2 rd_came rd_last v_known v_fresh kt n x1 c k).1
  | 0, x1, c, k, h => hk _ _ h
  | n + 1, x1, c, k, h => by
    rw [FX4_note_2]
    split
    · exact hk _ _ h
    · exact zbd_note32 hl (fun x c k h => zbd_note2 hl hk n _ _ _ h) _ _ _ _ _ _ h
theorem zbd_note {rd_came : Nat → Int32} {rd_last : Int32} {v_known : Nat → Int32} {v_fresh : Nat → Int32} (hl : ∃ h : Nat, h ≤ 80 ∧ rd_last = nI h) (h : zbd rd_came) : zbd (FX4_note rd_came rd_last v_known v_fresh).1 := zbd_note2 hl (fun _ _ h => h) _ _ _ _ h

theorem in_X4_come_4 : ∀ w ∈ u_ws RX4 TX4 3, w ∈ wsX4_come := by decide +kernel
def rmX4_come : Room := { frames := 4, cells := 0, slots := 0, locals := 88 }
set_option maxHeartbeats 4000000 in
set_option maxRecDepth 100000 in
theorem c_X4_come (l : Launch) (G : zG) (ard : Nat → Nat) (av : Nat → Nat) (ac : Nat → Nat) (brd : S4) (bv : S6) (bc : S0) (hh_c_head : ∀ r : Nat, r < 16 → vp_in (g0_head bc r) 20) (hz_c_size : ∃ N : Nat, N ≤ 16 ∧ g0_size bc = nI N) (T : (Nat → Int32) × (Int32) × (Nat → Int32) × (Nat → Int32) × (Nat → Int32) × (Nat → Int32) × (Nat → Int32) × (Nat → Int32) × (Int32) × (Int32) × (Int32) × (Int32) × (Int32)) (hT : FX4_come (g4_came brd) (g4_last brd) (g6_known bv) (g6_fresh bv) (g6_strictFor bv) (g6_forwardFor bv) (g6_allFor bv) (g6_above bv) (g6_facts bv) (g6_applies bv) (g6_falls bv) (g6_sureBodies bv) (g6_neverBodies bv) (g0_kind bc) (g0_head bc) (g0_body bc) (g0_excepts bc) (g0_power bc) (g0_beats bc) (g0_facts bc) (g0_size bc) (g0_shut bc) = T) : zV l yX4_come wsX4_come rmX4_come G [.ref (ard 0), .ref (ac 0)] [w4 G ard (av 0) brd, w6 G av bv, w0 G ac bc] [w4 G ard (av 0) (s4_last (s4_came brd T.1) T.2.1), w6 G av (s6_neverBodies (s6_sureBodies (s6_falls (s6_applies (s6_facts (s6_above (s6_allFor (s6_forwardFor (s6_strictFor (s6_fresh (s6_known bv T.2.2.1) T.2.2.2.1) T.2.2.2.2.1) T.2.2.2.2.2.1) T.2.2.2.2.2.2.1) T.2.2.2.2.2.2.2.1) T.2.2.2.2.2.2.2.2.1) T.2.2.2.2.2.2.2.2.2.1) T.2.2.2.2.2.2.2.2.2.2.1) T.2.2.2.2.2.2.2.2.2.2.2.1) T.2.2.2.2.2.2.2.2.2.2.2.2), w0 G ac bc] := by
  refine zV.mk (cc := cX4_come) (maxL := 3) (by decide +kernel) rfl (Nat.le_of_ble_eq_true rfl) (zfl_cons (wf4 _ _ _ _ _) (zfl_cons (wf6 _ _ _ _) (zfl_cons rfl rfl))) ?_
  intro p e s m args below meth c Q A ls S hK hD hA hP hl hret
  have hx := S.1
  have hb := S.2.1
  have hS : va_S A s.heap s.heap [] := va_S.rf
  have hl : lv_has ls 3 [(0, .ref (ard 0)), (1, .ref (ac 0))] := hl
  have hE := hT.symm.trans (FX4_come.eq_1 _ _ _ _ _ _ _ _ _ _ _ _ _ _ _ _ _ _ _ _ _ _)
  refine lv_aload_n hx hb dX4_come_0 rfl (lv_at hl 0 rfl) ?_
  refine zg4_came S in_X4_come_4 hK hP 0 rfl (List.mem_of_getElem? (i := 1) rfl) dX4_come_1 ?_
  refine lv_iconst (v := 0) hx hb dX4_come_4 (by decide) ?_
  refine zfillC (f := (g4_came brd)) (bs' := [w4 G ard (av 0) (s4_came brd (zfill 80 0 (g4_came brd))), w6 G av bv, w0 G ac bc]) (rest := []) S (va_cwS 2 S.2.2.2.2 gX4_come_J7_fill_53178 rfl rfl rfl (by decide +kernel) ⟨Nat.le_of_ble_eq_true rfl, Nat.le_of_ble_eq_true rfl⟩) hK hP hD hS hA 0 rfl 1 rfl (Nat.le_of_ble_eq_true rfl) (pt4_came _ _ _ _ _) rfl hl.1 (lv_room (Nat.le_of_ble_eq_true rfl)) dX4_come_5 (fun H locs hP hD hS => ?_)
  refine lv_aload_n hx hb dX4_come_8 rfl (lv_at hl 0 rfl) ?_
  refine lv_iconst (v := 0) hx hb dX4_come_9 (by decide) ?_
  refine zp4_last (bs1 := [w4 G ard (av 0) (s4_last (s4_came brd (zfill 80 0 (g4_came brd))) 0), w6 G av bv, w0 G ac bc]) S in_X4_come_4 hK hP hD hS 0 rfl (List.mem_of_getElem? (i := 2) rfl) dX4_come_10 rfl (fun H locs hP hD hS => ?_)
  refine lv_aload_n hx hb dX4_come_13 rfl (lv_at hl 0 rfl) ?_
  refine zg4_view S in_X4_come_4 hK hP 0 rfl (List.mem_of_getElem? (i := 3) rfl) dX4_come_14 ?_
  refine lv_aload_n hx hb dX4_come_17 rfl (lv_at hl 1 rfl) ?_
  obtain ⟨t18, ht18⟩ : ∃ z, FX6_enter (g6_known bv) (g6_strictFor bv) (g6_forwardFor bv) (g6_allFor bv) (g6_above bv) (g6_facts bv) (g0_kind bc) (g0_head bc) (g0_power bc) (g0_beats bc) (g0_facts bc) (g0_size bc) (g0_shut bc) = z := ⟨_, rfl⟩
  have hE := hE.trans (bnd_eq ht18)
  have hc := c_X6_enter l G av ac bv bc (hh_c_head) (hz_c_size) _ ht18
  refine zgoV (bs' := [w4 G ard (av 0) (s4_last (s4_came brd (zfill 80 0 (g4_came brd))) 0), w6 G av (s6_facts (s6_above (s6_allFor (s6_forwardFor (s6_strictFor (s6_known bv t18.1) t18.2.1) t18.2.2.1) t18.2.2.2.1) t18.2.2.2.2.1) t18.2.2.2.2.2), w0 G ac bc]) hc [1, 2] rfl rfl rfl hP hD hS hA (va_runV (As := [.ref (ac 0)]) (rest := []) S (hc.2 _) (cwV 1 S.2.2.2.2 gX4_come_X6_enter rfl rfl rfl (by decide +kernel) ⟨Nat.le_of_ble_eq_true rfl, Nat.le_of_ble_eq_true rfl⟩) (zpV hK hP hD (is := [1, 2]) rfl rfl 1 rfl rfl (ci := 6) rfl) rfl rfl hl.1 rfl (lv_room (Nat.le_of_ble_eq_true rfl)) dX4_come_18 ⟨Nat.zero_le _, Nat.zero_le _⟩) (fun H locs hP hD hS => ?_)
  refine lv_aload_n hx hb dX4_come_21 rfl (lv_at hl 0 rfl) ?_
  refine zg4_view S in_X4_come_4 hK hP 0 rfl (List.mem_of_getElem? (i := 3) rfl) dX4_come_22 ?_
  refine lv_aload_n hx hb dX4_come_25 rfl (lv_at hl 1 rfl) ?_
  obtain ⟨t26, ht26⟩ : ∃ z, FX6_weigh t18.1 (g6_applies bv) (g6_falls bv) (g6_sureBodies bv) (g6_neverBodies bv) (g0_body bc) (g0_excepts bc) (g0_size bc) = z := ⟨_, rfl⟩
  have hE := hE.trans (bnd_eq ht26)
  have hc := c_X6_weigh l G av ac (s6_facts (s6_above (s6_allFor (s6_forwardFor (s6_strictFor (s6_known bv t18.1) t18.2.1) t18.2.2.1) t18.2.2.2.1) t18.2.2.2.2.1) t18.2.2.2.2.2) bc (hz_c_size) _ (by simp only [gs6_known_facts, gs6_known_above, gs6_known_allFor, gs6_known_forwardFor, gs6_known_strictFor, gg6_known, gs6_applies_facts, gs6_applies_above, gs6_applies_allFor, gs6_applies_forwardFor, gs6_applies_strictFor, gs6_applies_known, gs6_falls_facts, gs6_falls_above, gs6_falls_allFor, gs6_falls_forwardFor, gs6_falls_strictFor, gs6_falls_known, gs6_sureBodies_facts, gs6_sureBodies_above, gs6_sureBodies_allFor, gs6_sureBodies_forwardFor, gs6_sureBodies_strictFor, gs6_sureBodies_known, gs6_neverBodies_facts, gs6_neverBodies_above, gs6_neverBodies_allFor, gs6_neverBodies_forwardFor, gs6_neverBodies_strictFor, gs6_neverBodies_known]; exact ht26)
  refine zgoV (bs' := [w4 G ard (av 0) (s4_last (s4_came brd (zfill 80 0 (g4_came brd))) 0), w6 G av (s6_neverBodies (s6_sureBodies (s6_falls (s6_applies (s6_facts (s6_above (s6_allFor (s6_forwardFor (s6_strictFor (s6_known bv t18.1) t18.2.1) t18.2.2.1) t18.2.2.2.1) t18.2.2.2.2.1) t18.2.2.2.2.2) t26.1) t26.2.1) t26.2.2.1) t26.2.2.2), w0 G ac bc]) hc [1, 2] rfl rfl rfl hP hD hS hA (va_runV (As := [.ref (ac 0)]) (rest := []) S (hc.2 _) (cwV 1 S.2.2.2.2 gX4_come_X6_weigh rfl rfl rfl (by decide +kernel) ⟨Nat.le_of_ble_eq_true rfl, Nat.le_of_ble_eq_true rfl⟩) (zpV hK hP hD (is := [1, 2]) rfl rfl 1 rfl rfl (ci := 6) rfl) rfl rfl hl.1 rfl (lv_room (Nat.le_of_ble_eq_true rfl)) dX4_come_26 ⟨Nat.zero_le _, Nat.zero_le _⟩) (fun H locs hP hD hS => ?_)
  refine lv_iconst (v := 1) hx hb dX4_come_29 (by decide) ?_
  have hB70 : ∀ (rd_came_70 : Nat → Int32) (rd_last_70 : Int32) (v_known_70 : Nat → Int32) (v_fresh_70 : Nat → Int32) (v_applies_70 : Int32) (v_falls_70 : Int32) (v_sureBodies_70 : Int32) (v_neverBodies_70 : Int32) (H : Heap) (locs : List Loc) (ls : Array Slot), T = FX4_come_70 (g4_came brd) (g4_last brd) (g6_known bv) (g6_fresh bv) (g6_strictFor bv) (g6_forwardFor bv) (g6_allFor bv) (g6_above bv) (g6_facts bv) (g6_applies bv) (g6_falls bv) (g6_sureBodies bv) (g6_neverBodies bv) (g0_kind bc) (g0_head bc) (g0_body bc) (g0_excepts bc) (g0_power bc) (g0_beats bc) (g0_facts bc) (g0_size bc) (g0_shut bc) rd_came_70 rd_last_70 v_known_70 v_fresh_70 t18.2.1 t18.2.2.1 t18.2.2.2.1 t18.2.2.2.2.1 t18.2.2.2.2.2 v_applies_70 v_falls_70 v_sureBodies_70 v_neverBodies_70 → zP G [w4 G ard (av 0) (s4_last (s4_came brd rd_came_70) rd_last_70), w6 G av (s6_neverBodies (s6_sureBodies (s6_falls (s6_applies (s6_facts (s6_above (s6_allFor (s6_forwardFor (s6_strictFor (s6_fresh (s6_known bv v_known_70) v_fresh_70) t18.2.1) t18.2.2.1) t18.2.2.2.1) t18.2.2.2.2.1) t18.2.2.2.2.2) v_applies_70) v_falls_70) v_sureBodies_70) v_neverBodies_70), w0 G ac bc] H → zD A [w4 G ard (av 0) (s4_last (s4_came brd rd_came_70) rd_last_70), w6 G av (s6_neverBodies (s6_sureBodies (s6_falls (s6_applies (s6_facts (s6_above (s6_allFor (s6_forwardFor (s6_strictFor (s6_fresh (s6_known bv v_known_70) v_fresh_70) t18.2.1) t18.2.2.1) t18.2.2.2.1) t18.2.2.2.2.1) t18.2.2.2.2.2) v_applies_70) v_falls_70) v_sureBodies_70) v_neverBodies_70), w0 G ac bc] → va_S A s.heap H locs → lv_has ls 3 [] → W p l e rmX4_come s m args below meth c H locs 0 0 Q (F0 m 70 ls []) := by
    intro rd_came_70 rd_last_70 v_known_70 v_fresh_70 v_applies_70 v_falls_70 v_sureBodies_70 v_neverBodies_70 H locs ls hE hP hD hS hl
    have hE := hE.trans (FX4_come_70.eq_1 _ _ _ _ _ _ _ _ _ _ _ _ _ _ _ _ _ _ _ _ _ _ _ _ _ _ _ _ _ _ _ _ _ _ _)
    exact hret _ _ _ _ _ (by subst hE; rfl) hP hS dX4_come_70
  have hB31 : ∀ (n31 : Nat) (i2_31 : Nat) (rd_came_31 : Nat → Int32) (rd_last_31 : Int32) (v_known_31 : Nat → Int32) (v_fresh_31 : Nat → Int32) (v_applies_31 : Int32) (v_falls_31 : Int32) (v_sureBodies_31 : Int32) (v_neverBodies_31 : Int32) (H : Heap) (locs : List Loc) (ls : Array Slot), (i2_31 ≤ 81) → 82 ≤ i2_31 + n31 → T = FX4_come_31 (g4_came brd) (g4_last brd) (g6_known bv) (g6_fresh bv) (g6_strictFor bv) (g6_forwardFor bv) (g6_allFor bv) (g6_above bv) (g6_facts bv) (g6_applies bv) (g6_falls bv) (g6_sureBodies bv) (g6_neverBodies bv) (g0_kind bc) (g0_head bc) (g0_body bc) (g0_excepts bc) (g0_power bc) (g0_beats bc) (g0_facts bc) (g0_size bc) (g0_shut bc) (FX4_come_70 (g4_came brd) (g4_last brd) (g6_known bv) (g6_fresh bv) (g6_strictFor bv) (g6_forwardFor bv) (g6_allFor bv) (g6_above bv) (g6_facts bv) (g6_applies bv) (g6_falls bv) (g6_sureBodies bv) (g6_neverBodies bv) (g0_kind bc) (g0_head bc) (g0_body bc) (g0_excepts bc) (g0_power bc) (g0_beats bc) (g0_facts bc) (g0_size bc) (g0_shut bc)) n31 (nI i2_31) rd_came_31 rd_last_31 v_known_31 v_fresh_31 t18.2.1 t18.2.2.1 t18.2.2.2.1 t18.2.2.2.2.1 t18.2.2.2.2.2 v_applies_31 v_falls_31 v_sureBodies_31 v_neverBodies_31 → zP G [w4 G ard (av 0) (s4_last (s4_came brd rd_came_31) rd_last_31), w6 G av (s6_neverBodies (s6_sureBodies (s6_falls (s6_applies (s6_facts (s6_above (s6_allFor (s6_forwardFor (s6_strictFor (s6_fresh (s6_known bv v_known_31) v_fresh_31) t18.2.1) t18.2.2.1) t18.2.2.2.1) t18.2.2.2.2.1) t18.2.2.2.2.2) v_applies_31) v_falls_31) v_sureBodies_31) v_neverBodies_31), w0 G ac bc] H → zD A [w4 G ard (av 0) (s4_last (s4_came brd rd_came_31) rd_last_31), w6 G av (s6_neverBodies (s6_sureBodies (s6_falls (s6_applies (s6_facts (s6_above (s6_allFor (s6_forwardFor (s6_strictFor (s6_fresh (s6_known bv v_known_31) v_fresh_31) t18.2.1) t18.2.2.1) t18.2.2.2.1) t18.2.2.2.2.1) t18.2.2.2.2.2) v_applies_31) v_falls_31) v_sureBodies_31) v_neverBodies_31), w0 G ac bc] → va_S A s.heap H locs → lv_has ls 3 [(0, .ref (ard 0)), (1, .ref (ac 0)), (2, .int (nI i2_31))] → W p l e rmX4_come s m args below meth c H locs 0 0 Q (F0 m 31 ls []) := by
    intro n31
    induction n31 with
    | zero =>
      intro i2_31 rd_came_31 rd_last_31 v_known_31 v_fresh_31 v_applies_31 v_falls_31 v_sureBodies_31 v_neverBodies_31 H locs ls hi2_31 hn hE hP hD hS hl
      exact absurd hn (by omega)
    | succ n31 ih31 =>
      intro i2_31 rd_came_31 rd_last_31 v_known_31 v_fresh_31 v_applies_31 v_falls_31 v_sureBodies_31 v_neverBodies_31 H locs ls hi2_31 hn hE hP hD hS hl
      have hE := hE.trans (FX4_come_31.eq_2 _ _ _ _ _ _ _ _ _ _ _ _ _ _ _ _ _ _ _ _ _ _ _ _ _ _ _ _ _ _ _ _ _ _ _ _ _ _)
      refine lv_iload_n hx hb dX4_come_31 rfl (lv_at hl 2 rfl) ?_
      refine lv_bipush (v := 80) hx hb dX4_come_32 (by decide) ?_
      refine lv_icmp_gt (tgt := 70) hx hb dX4_come_34 (by decide) (fun c34 => ?_) (fun c34 => ?_)
      · have hE := hE.trans (if_pos c34)
        exact hB70 rd_came_31 rd_last_31 v_known_31 v_fresh_31 v_applies_31 v_falls_31 v_sureBodies_31 v_neverBodies_31 _ _ _ hE hP hD hS (lv_sub hl [] rfl)
      · have hE := hE.trans (if_neg c34)
        have hl2_31 : i2_31 ≤ 80 := znlt rfl (by omega) (by decide) c34
        refine lv_aload_n hx hb dX4_come_37 rfl (lv_at hl 0 rfl) ?_
        refine zg4_view S in_X4_come_4 hK hP 0 rfl (List.mem_of_getElem? (i := 3) rfl) dX4_come_38 ?_
        obtain ⟨t41, ht41⟩ : ∃ z, FX6_brings v_known_31 v_fresh_31 t18.2.1 t18.2.2.1 t18.2.2.2.1 t18.2.2.2.2.1 t18.2.2.2.2.2 v_applies_31 v_falls_31 v_sureBodies_31 v_neverBodies_31 = z := ⟨_, rfl⟩
        have hE := hE.trans (bnd_eq ht41)
        have hc := c_X6_brings l G av (s6_neverBodies (s6_sureBodies (s6_falls (s6_applies (s6_facts (s6_above (s6_allFor (s6_forwardFor (s6_strictFor (s6_fresh (s6_known bv v_known_31) v_fresh_31) t18.2.1) t18.2.2.1) t18.2.2.2.1) t18.2.2.2.2.1) t18.2.2.2.2.2) v_applies_31) v_falls_31) v_sureBodies_31) v_neverBodies_31) _ (by simp only [gs6_known_neverBodies, gs6_known_sureBodies, gs6_known_falls, gs6_known_applies, gs6_known_facts, gs6_known_above, gs6_known_allFor, gs6_known_forwardFor, gs6_known_strictFor, gs6_known_fresh, gg6_known, gs6_fresh_neverBodies, gs6_fresh_sureBodies, gs6_fresh_falls, gs6_fresh_applies, gs6_fresh_facts, gs6_fresh_above, gs6_fresh_allFor, gs6_fresh_forwardFor, gs6_fresh_strictFor, gg6_fresh, gs6_strictFor_neverBodies, gs6_strictFor_sureBodies, gs6_strictFor_falls, gs6_strictFor_applies, gs6_strictFor_facts, gs6_strictFor_above, gs6_strictFor_allFor, gs6_strictFor_forwardFor, gg6_strictFor, gs6_forwardFor_neverBodies, gs6_forwardFor_sureBodies, gs6_forwardFor_falls, gs6_forwardFor_applies, gs6_forwardFor_facts, gs6_forwardFor_above, gs6_forwardFor_allFor, gg6_forwardFor, gs6_allFor_neverBodies, gs6_allFor_sureBodies, gs6_allFor_falls, gs6_allFor_applies, gs6_allFor_facts, gs6_allFor_above, gg6_allFor, gs6_above_neverBodies, gs6_above_sureBodies, gs6_above_falls, gs6_above_applies, gs6_above_facts, gg6_above, gs6_facts_neverBodies, gs6_facts_sureBodies, gs6_facts_falls, gs6_facts_applies, gg6_facts, gs6_applies_neverBodies, gs6_applies_sureBodies, gs6_applies_falls, gg6_applies, gs6_falls_neverBodies, gs6_falls_sureBodies, gg6_falls, gs6_sureBodies_neverBodies, gg6_sureBodies, gg6_neverBodies]; exact ht41)
        refine zgoI (bs' := [w4 G ard (av 0) (s4_last (s4_came brd rd_came_31) rd_last_31), w6 G av (s6_fresh (s6_neverBodies (s6_sureBodies (s6_falls (s6_applies (s6_facts (s6_above (s6_allFor (s6_forwardFor (s6_strictFor (s6_fresh (s6_known bv v_known_31) v_fresh_31) t18.2.1) t18.2.2.1) t18.2.2.2.1) t18.2.2.2.2.1) t18.2.2.2.2.2) v_applies_31) v_falls_31) v_sureBodies_31) v_neverBodies_31) t41.2), w0 G ac bc]) hc [1] rfl rfl rfl hP hD hS hA (va_runV (As := []) (rest := []) S (hc.2 _) (cwV 0 S.2.2.2.2 gX4_come_X6_brings rfl rfl rfl (by decide +kernel) ⟨Nat.le_of_ble_eq_true rfl, Nat.le_of_ble_eq_true rfl⟩) (zpV hK hP hD (is := [1]) rfl rfl 1 rfl rfl (ci := 6) rfl) rfl rfl hl.1 rfl (lv_room (Nat.le_of_ble_eq_true rfl)) dX4_come_41 ⟨Nat.zero_le _, Nat.zero_le _⟩) (fun H locs hn41 hP hD hS => ?_)
        refine lv_if_eq (tgt := 70) hx hb dX4_come_44 (by decide) (fun c44 => ?_) (fun c44 => ?_)
        · have hE := hE.trans (if_pos c44)
          rw [show (s6_fresh (s6_neverBodies (s6_sureBodies (s6_falls (s6_applies (s6_facts (s6_above (s6_allFor (s6_forwardFor (s6_strictFor (s6_fresh (s6_known bv v_known_31) v_fresh_31) t18.2.1) t18.2.2.1) t18.2.2.2.1) t18.2.2.2.2.1) t18.2.2.2.2.2) v_applies_31) v_falls_31) v_sureBodies_31) v_neverBodies_31) t41.2) = (s6_neverBodies (s6_sureBodies (s6_falls (s6_applies (s6_facts (s6_above (s6_allFor (s6_forwardFor (s6_strictFor (s6_fresh (s6_known bv v_known_31) t41.2) t18.2.1) t18.2.2.1) t18.2.2.2.1) t18.2.2.2.2.1) t18.2.2.2.2.2) v_applies_31) v_falls_31) v_sureBodies_31) v_neverBodies_31) from ((cm6_fresh_neverBodies _ v_neverBodies_31 t41.2).trans (congrArg (fun z => s6_neverBodies z v_neverBodies_31) ((cm6_fresh_sureBodies _ v_sureBodies_31 t41.2).trans (congrArg (fun z => s6_sureBodies z v_sureBodies_31) ((cm6_fresh_falls _ v_falls_31 t41.2).trans (congrArg (fun z => s6_falls z v_falls_31) ((cm6_fresh_applies _ v_applies_31 t41.2).trans (congrArg (fun z => s6_applies z v_applies_31) ((cm6_fresh_facts _ t18.2.2.2.2.2 t41.2).trans (congrArg (fun z => s6_facts z t18.2.2.2.2.2) ((cm6_fresh_above _ t18.2.2.2.2.1 t41.2).trans (congrArg (fun z => s6_above z t18.2.2.2.2.1) ((cm6_fresh_allFor _ t18.2.2.2.1 t41.2).trans (congrArg (fun z => s6_allFor z t18.2.2.2.1) ((cm6_fresh_forwardFor _ t18.2.2.1 t41.2).trans (congrArg (fun z => s6_forwardFor z t18.2.2.1) ((cm6_fresh_strictFor _ t18.2.1 t41.2).trans (congrArg (fun z => s6_strictFor z t18.2.1) (ss6_fresh _ v_fresh_31 t41.2)))))))))))))))))))] at hP hD
          exact hB70 rd_came_31 rd_last_31 v_known_31 t41.2 v_applies_31 v_falls_31 v_sureBodies_31 v_neverBodies_31 _ _ _ hE hP hD hS (lv_sub hl [] rfl)
        · have hE := hE.trans (if_neg c44)
          refine lv_aload_n hx hb dX4_come_47 rfl (lv_at hl 0 rfl) ?_
          refine lv_iload_n hx hb dX4_come_48 rfl (lv_at hl 2 rfl) ?_
          refine zp4_last (bs1 := [w4 G ard (av 0) (s4_last (s4_last (s4_came brd rd_came_31) rd_last_31) (nI i2_31)), w6 G av (s6_fresh (s6_neverBodies (s6_sureBodies (s6_falls (s6_applies (s6_facts (s6_above (s6_allFor (s6_forwardFor (s6_strictFor (s6_fresh (s6_known bv v_known_31) v_fresh_31) t18.2.1) t18.2.2.1) t18.2.2.2.1) t18.2.2.2.2.1) t18.2.2.2.2.2) v_applies_31) v_falls_31) v_sureBodies_31) v_neverBodies_31) t41.2), w0 G ac bc]) S in_X4_come_4 hK hP hD hS 0 rfl (List.mem_of_getElem? (i := 2) rfl) dX4_come_49 rfl (fun H locs hP hD hS => ?_)
          refine lv_aload_n hx hb dX4_come_52 rfl (lv_at hl 0 rfl) ?_
          obtain ⟨t53, ht53⟩ : ∃ z, FX4_note rd_came_31 (nI i2_31) v_known_31 t41.2 = z := ⟨_, rfl⟩
          have hE := hE.trans (bnd_eq ht53)
          have hc := c_X4_note l G ard av (s4_last (s4_last (s4_came brd rd_came_31) rd_last_31) (nI i2_31)) (s6_fresh (s6_neverBodies (s6_sureBodies (s6_falls (s6_applies (s6_facts (s6_above (s6_allFor (s6_forwardFor (s6_strictFor (s6_fresh (s6_known bv v_known_31) v_fresh_31) t18.2.1) t18.2.2.1) t18.2.2.2.1) t18.2.2.2.2.1) t18.2.2.2.2.2) v_applies_31) v_falls_31) v_sureBodies_31) v_neverBodies_31) t41.2) _ (by simp only [gs4_came_last, gg4_came, gg4_last, gs6_known_fresh, gs6_known_neverBodies, gs6_known_sureBodies, gs6_known_falls, gs6_known_applies, gs6_known_facts, gs6_known_above, gs6_known_allFor, gs6_known_forwardFor, gs6_known_strictFor, gg6_known, gg6_fresh]; exact ht53)
          refine zgoV (bs' := [w4 G ard (av 0) (s4_came (s4_last (s4_last (s4_came brd rd_came_31) rd_last_31) (nI i2_31)) t53.1), w6 G av (s6_known (s6_fresh (s6_neverBodies (s6_sureBodies (s6_falls (s6_applies (s6_facts (s6_above (s6_allFor (s6_forwardFor (s6_strictFor (s6_fresh (s6_known bv v_known_31) v_fresh_31) t18.2.1) t18.2.2.1) t18.2.2.2.1) t18.2.2.2.2.1) t18.2.2.2.2.2) v_applies_31) v_falls_31) v_sureBodies_31) v_neverBodies_31) t41.2) t53.2), w0 G ac bc]) hc [0, 1] rfl rfl rfl hP hD hS hA (va_runV (As := []) (rest := []) S (hc.2 _) (cwV 0 S.2.2.2.2 gX4_come_X4_note rfl rfl rfl (by decide +kernel) ⟨Nat.le_of_ble_eq_true rfl, Nat.le_of_ble_eq_true rfl⟩) (zpV hK hP hD (is := [0, 1]) rfl rfl 0 rfl rfl (ci := 4) rfl) rfl rfl hl.1 rfl (lv_room (Nat.le_of_ble_eq_true rfl)) dX4_come_53 ⟨Nat.zero_le _, Nat.zero_le _⟩) (fun H locs hP hD hS => ?_)
          refine lv_aload_n hx hb dX4_come_56 rfl (lv_at hl 0 rfl) ?_
          refine zg4_view S in_X4_come_4 hK hP 0 rfl (List.mem_of_getElem? (i := 3) rfl) dX4_come_57 ?_
          refine lv_aload_n hx hb dX4_come_60 rfl (lv_at hl 1 rfl) ?_
          obtain ⟨t61, ht61⟩ : ∃ z, FX6_weigh t53.2 v_applies_31 v_falls_31 v_sureBodies_31 v_neverBodies_31 (g0_body bc) (g0_excepts bc) (g0_size bc) = z := ⟨_, rfl⟩
          have hE := hE.trans (bnd_eq ht61)
          have hc := c_X6_weigh l G av ac (s6_known (s6_fresh (s6_neverBodies (s6_sureBodies (s6_falls (s6_applies (s6_facts (s6_above (s6_allFor (s6_forwardFor (s6_strictFor (s6_fresh (s6_known bv v_known_31) v_fresh_31) t18.2.1) t18.2.2.1) t18.2.2.2.1) t18.2.2.2.2.1) t18.2.2.2.2.2) v_applies_31) v_falls_31) v_sureBodies_31) v_neverBodies_31) t41.2) t53.2) bc (hz_c_size) _ (by simp only [gg6_known, gs6_applies_known, gs6_applies_fresh, gs6_applies_neverBodies, gs6_applies_sureBodies, gs6_applies_falls, gg6_applies, gs6_falls_known, gs6_falls_fresh, gs6_falls_neverBodies, gs6_falls_sureBodies, gg6_falls, gs6_sureBodies_known, gs6_sureBodies_fresh, gs6_sureBodies_neverBodies, gg6_sureBodies, gs6_neverBodies_known, gs6_neverBodies_fresh, gg6_neverBodies]; exact ht61)
          refine zgoV (bs' := [w4 G ard (av 0) (s4_came (s4_last (s4_last (s4_came brd rd_came_31) rd_last_31) (nI i2_31)) t53.1), w6 G av (s6_neverBodies (s6_sureBodies (s6_falls (s6_applies (s6_known (s6_fresh (s6_neverBodies (s6_sureBodies (s6_falls (s6_applies (s6_facts (s6_above (s6_allFor (s6_forwardFor (s6_strictFor (s6_fresh (s6_known bv v_known_31) v_fresh_31) t18.2.1) t18.2.2.1) t18.2.2.2.1) t18.2.2.2.2.1) t18.2.2.2.2.2) v_applies_31) v_falls_31) v_sureBodies_31) v_neverBodies_31) t41.2) t53.2) t61.1) t61.2.1) t61.2.2.1) t61.2.2.2), w0 G ac bc]) hc [1, 2] rfl rfl rfl hP hD hS hA (va_runV (As := [.ref (ac 0)]) (rest := []) S (hc.2 _) (cwV 1 S.2.2.2.2 gX4_come_X6_weigh rfl rfl rfl (by decide +kernel) ⟨Nat.le_of_ble_eq_true rfl, Nat.le_of_ble_eq_true rfl⟩) (zpV hK hP hD (is := [1, 2]) rfl rfl 1 rfl rfl (ci := 6) rfl) rfl rfl hl.1 rfl (lv_room (Nat.le_of_ble_eq_true rfl)) dX4_come_61 ⟨Nat.zero_le _, Nat.zero_le _⟩) (fun H locs hP hD hS => ?_)
          refine lv_iinc (v := (nI (i2_31 + 1))) (lv' := [(2, .int (nI (i2_31 + 1))), (0, .ref (ard 0)), (1, .ref (ac 0))]) hx hb dX4_come_64 hl (k := 2) rfl (nI_1 i2_31) (by decide) rfl (fun ls hl => ?_)
          try rw [nI_1 i2_31] at hE
          refine lv_goto (tgt := 31) hx hb dX4_come_67 (by decide) ?_
          rw [show (s4_came (s4_last (s4_last (s4_came brd rd_came_31) rd_last_31) (nI i2_31)) t53.1) = (s4_last (s4_came brd t53.1) (nI i2_31)) from ((congrArg (fun z => s4_came z t53.1) (ss4_last _ rd_last_31 (nI i2_31))).trans ((cm4_came_last _ (nI i2_31) t53.1).trans (congrArg (fun z => s4_last z (nI i2_31)) (ss4_came _ rd_came_31 t53.1))))] at hP hD
          rw [show (s6_neverBodies (s6_sureBodies (s6_falls (s6_applies (s6_known (s6_fresh (s6_neverBodies (s6_sureBodies (s6_falls (s6_applies (s6_facts (s6_above (s6_allFor (s6_forwardFor (s6_strictFor (s6_fresh (s6_known bv v_known_31) v_fresh_31) t18.2.1) t18.2.2.1) t18.2.2.2.1) t18.2.2.2.2.1) t18.2.2.2.2.2) v_applies_31) v_falls_31) v_sureBodies_31) v_neverBodies_31) t41.2) t53.2) t61.1) t61.2.1) t61.2.2.1) t61.2.2.2) = (s6_neverBodies (s6_sureBodies (s6_falls (s6_applies (s6_facts (s6_above (s6_allFor (s6_forwardFor (s6_strictFor (s6_fresh (s6_known bv t53.2) t41.2) t18.2.1) t18.2.2.1) t18.2.2.2.1) t18.2.2.2.2.1) t18.2.2.2.2.2) t61.1) t61.2.1) t61.2.2.1) t61.2.2.2) from ((congrArg (fun z => s6_neverBodies z t61.2.2.2) ((congrArg (fun z => s6_sureBodies z t61.2.2.1) ((congrArg (fun z => s6_falls z t61.2.1) ((congrArg (fun z => s6_applies z t61.1) ((congrArg (fun z => s6_known z t53.2) ((cm6_fresh_neverBodies _ v_neverBodies_31 t41.2).trans (congrArg (fun z => s6_neverBodies z v_neverBodies_31) ((cm6_fresh_sureBodies _ v_sureBodies_31 t41.2).trans (congrArg (fun z => s6_sureBodies z v_sureBodies_31) ((cm6_fresh_falls _ v_falls_31 t41.2).trans (congrArg (fun z => s6_falls z v_falls_31) ((cm6_fresh_applies _ v_applies_31 t41.2).trans (congrArg (fun z => s6_applies z v_applies_31) ((cm6_fresh_facts _ t18.2.2.2.2.2 t41.2).trans (congrArg (fun z => s6_facts z t18.2.2.2.2.2) ((cm6_fresh_above _ t18.2.2.2.2.1 t41.2).trans (congrArg (fun z => s6_above z t18.2.2.2.2.1) ((cm6_fresh_allFor _ t18.2.2.2.1 t41.2).trans (congrArg (fun z => s6_allFor z t18.2.2.2.1) ((cm6_fresh_forwardFor _ t18.2.2.1 t41.2).trans (congrArg (fun z => s6_forwardFor z t18.2.2.1) ((cm6_fresh_strictFor _ t18.2.1 t41.2).trans (congrArg (fun z => s6_strictFor z t18.2.1) (ss6_fresh _ v_fresh_31 t41.2)))))))))))))))))))).trans ((cm6_known_neverBodies _ v_neverBodies_31 t53.2).trans (congrArg (fun z => s6_neverBodies z v_neverBodies_31) ((cm6_known_sureBodies _ v_sureBodies_31 t53.2).trans (congrArg (fun z => s6_sureBodies z v_sureBodies_31) ((cm6_known_falls _ v_falls_31 t53.2).trans (congrArg (fun z => s6_falls z v_falls_31) ((cm6_known_applies _ v_applies_31 t53.2).trans (congrArg (fun z => s6_applies z v_applies_31) ((cm6_known_facts _ t18.2.2.2.2.2 t53.2).trans (congrArg (fun z => s6_facts z t18.2.2.2.2.2) ((cm6_known_above _ t18.2.2.2.2.1 t53.2).trans (congrArg (fun z => s6_above z t18.2.2.2.2.1) ((cm6_known_allFor _ t18.2.2.2.1 t53.2).trans (congrArg (fun z => s6_allFor z t18.2.2.2.1) ((cm6_known_forwardFor _ t18.2.2.1 t53.2).trans (congrArg (fun z => s6_forwardFor z t18.2.2.1) ((cm6_known_strictFor _ t18.2.1 t53.2).trans (congrArg (fun z => s6_strictFor z t18.2.1) ((cm6_known_fresh _ t41.2 t53.2).trans (congrArg (fun z => s6_fresh z t41.2) (ss6_known _ v_known_31 t53.2))))))))))))))))))))))).trans ((cm6_applies_neverBodies _ v_neverBodies_31 t61.1).trans (congrArg (fun z => s6_neverBodies z v_neverBodies_31) ((cm6_applies_sureBodies _ v_sureBodies_31 t61.1).trans (congrArg (fun z => s6_sureBodies z v_sureBodies_31) ((cm6_applies_falls _ v_falls_31 t61.1).trans (congrArg (fun z => s6_falls z v_falls_31) (ss6_applies _ v_applies_31 t61.1))))))))).trans ((cm6_falls_neverBodies _ v_neverBodies_31 t61.2.1).trans (congrArg (fun z => s6_neverBodies z v_neverBodies_31) ((cm6_falls_sureBodies _ v_sureBodies_31 t61.2.1).trans (congrArg (fun z => s6_sureBodies z v_sureBodies_31) (ss6_falls _ v_falls_31 t61.2.1))))))).trans ((cm6_sureBodies_neverBodies _ v_neverBodies_31 t61.2.2.1).trans (congrArg (fun z => s6_neverBodies z v_neverBodies_31) (ss6_sureBodies _ v_sureBodies_31 t61.2.2.1))))).trans (ss6_neverBodies _ v_neverBodies_31 t61.2.2.2))] at hP hD
          exact ih31 (i2_31 + 1) t53.1 (nI i2_31) t53.2 t41.2 t61.1 t61.2.1 t61.2.2.1 t61.2.2.2 _ _ _ (by first | assumption | omega) (by omega) hE hP hD hS (lv_sub hl [1, 2, 0] rfl)
  refine lv_istore_n (lv' := [(2, .int 1), (0, .ref (ard 0)), (1, .ref (ac 0))]) hx hb dX4_come_30 rfl hl (by decide) rfl (fun ls hl => ?_)
  rw [show (s6_neverBodies (s6_sureBodies (s6_falls (s6_applies (s6_facts (s6_above (s6_allFor (s6_forwardFor (s6_strictFor (s6_known bv t18.1) t18.2.1) t18.2.2.1) t18.2.2.2.1) t18.2.2.2.2.1) t18.2.2.2.2.2) t26.1) t26.2.1) t26.2.2.1) t26.2.2.2) = (s6_neverBodies (s6_sureBodies (s6_falls (s6_applies (s6_facts (s6_above (s6_allFor (s6_forwardFor (s6_strictFor (s6_fresh (s6_known bv t18.1) (g6_fresh bv)) t18.2.1) t18.2.2.1) t18.2.2.2.1) t18.2.2.2.2.1) t18.2.2.2.2.2) t26.1) t26.2.1) t26.2.2.1) t26.2.2.2) from (congrArg (fun z => s6_neverBodies z t26.2.2.2) (congrArg (fun z => s6_sureBodies z t26.2.2.1) (congrArg (fun z => s6_falls z t26.2.1) (congrArg (fun z => s6_applies z t26.1) (congrArg (fun z => s6_facts z t18.2.2.2.2.2) (congrArg (fun z => s6_above z t18.2.2.2.2.1) (congrArg (fun z => s6_allFor z t18.2.2.2.1) (congrArg (fun z => s6_forwardFor z t18.2.2.1) (congrArg (fun z => s6_strictFor z t18.2.1) (((se6_fresh _).symm).trans (congrArg (fun v => s6_fresh (s6_known bv t18.1) v) (gs6_fresh_known _ t18.1))))))))))))] at hP hD
  exact hB31 82 1 (zfill 80 0 (g4_came brd)) 0 t18.1 (g6_fresh bv) t26.1 t26.2.1 t26.2.2.1 t26.2.2.2 _ _ _ (by first | assumption | omega) (by omega) hE hP hD hS (lv_sub hl [1, 2, 0] rfl)

theorem zbd_come31 {rd_came : Nat → Int32} {rd_last : Int32} {v_known : Nat → Int32} {v_fresh : Nat → Int32} {v_strictFor : Nat → Int32} {v_forwardFor : Nat → Int32} {v_allFor : Nat → Int32} {v_above : Nat → Int32} {v_facts : Int32} {v_applies : Int32} {v_falls : Int32} {v_sureBodies : Int32} {v_neverBodies : Int32} {c_kind : Nat → Int32} {c_head : Nat → Int32} {c_body : Nat → Int32} {c_excepts : Nat → Int32} {c_power : Nat → Int32} {c_beats : Nat → Int32} {c_facts : Int32} {c_size : Int32} {c_shut : Int32} {kt : (Nat → Int32) → (Int32) → (Nat → Int32) → (Nat → Int32) → (Nat → Int32) → (Nat → Int32) → (Nat → Int32) → (Nat → Int32) → (Int32) → (Int32) → (Int32) → (Int32) → (Int32) → ((Nat → Int32) × (Int32) × (Nat → Int32) × (Nat → Int32) × (Nat → Int32) × (Nat → Int32) × (Nat → Int32) × (Nat → Int32) × (Int32) × (Int32) × (Int32) × (Int32) × (Int32))} (hk : ∀ (rd_came_31 : Nat → Int32) (rd_last_31 : Int32) (v_known_31 : Nat → Int32) (v_fresh_31 : Nat → Int32) (v_strictFor_31 : Nat → Int32) (v_forwardFor_31 : Nat → Int32) (v_allFor_31 : Nat → Int32) (v_above_31 : Nat → Int32) (v_facts_31 : Int32) (v_applies_31 : Int32) (v_falls_31 : Int32) (v_sureBodies_31 : Int32) (v_neverBodies_31 : Int32), zbd rd_came_31 → zbd (kt rd_came_31 rd_last_31 v_known_31 v_fresh_31 v_strictFor_31 v_forwardFor_31 v_allFor_31 v_above_31 v_facts_31 v_applies_31 v_falls_31 v_sureBodies_31 v_neverBodies_31).1) : ∀ (n i : Nat) (rd_came_31 : Nat → Int32) (rd_last_31 : Int32) (v_known_31 : Nat → Int32) (v_fresh_31 : Nat → Int32) (v_strictFor_31 : Nat → Int32) (v_forwardFor_31 : Nat → Int32) (v_allFor_31 : Nat → Int32) (v_above_31 : Nat → Int32) (v_facts_31 : Int32) (v_applies_31 : Int32) (v_falls_31 : Int32) (v_sureBodies_31 : Int32) (v_neverBodies_31 : Int32), i ≤ 81 → zbd rd_came_31 → zbd (FX4_come_31 rd_came rd_last v_known v_fresh v_strictFor v_forwardFor v_allFor v_above v_facts v_applies v_falls v_sureBodies v_neverBodies c_kind c_head c_body c_excepts c_power c_beats c_facts c_size c_shut kt n (nI i) rd_came_31 rd_last_31 v_known_31 v_fresh_31 v_strictFor_31 v_forwardFor_31 v_allFor_31 v_above_31 v_facts_31 v_applies_31 v_falls_31 v_sureBodies_31 v_neverBodies_31).1
  | 0, i, rd_came_31, rd_last_31, v_known_31, v_fresh_31, v_strictFor_31, v_forwardFor_31, v_allFor_31, v_above_31, v_facts_31, v_applies_31, v_falls_31, v_sureBodies_31, v_neverBodies_31, hi, h => hk _ _ _ _ _ _ _ _ _ _ _ _ _ h
  | n + 1, i, rd_came_31, rd_last_31, v_known_31, v_fresh_31, v_strictFor_31, v_forwardFor_31, v_allFor_31, v_above_31, v_facts_31, v_applies_31, v_falls_31, v_sureBodies_31, v_neverBodies_31, hi, h => by
    rw [FX4_come_31]
    by_cases c : 80 < nI i
    · rw [if_pos c]
      exact hk _ _ _ _ _ _ _ _ _ _ _ _ _ h
    · rw [if_neg c]
      have hl : i ≤ 80 := znlt rfl (by omega) (by decide) c
      simp only [bnd]
      split
      · exact hk _ _ _ _ _ _ _ _ _ _ _ _ _ h
      · rw [nI_1]
        exact zbd_come31 hk n (i + 1) _ _ _ _ _ _ _ _ _ _ _ _ _ (by omega) (zbd_note ⟨i, hl, rfl⟩ h)
theorem zbd_come {rd_came : Nat → Int32} {rd_last : Int32} {v_known : Nat → Int32} {v_fresh : Nat → Int32} {v_strictFor : Nat → Int32} {v_forwardFor : Nat → Int32} {v_allFor : Nat → Int32} {v_above : Nat → Int32} {v_facts : Int32} {v_applies : Int32} {v_falls : Int32} {v_sureBodies : Int32} {v_neverBodies : Int32} {c_kind : Nat → Int32} {c_head : Nat → Int32} {c_body : Nat → Int32} {c_excepts : Nat → Int32} {c_power : Nat → Int32} {c_beats : Nat → Int32} {c_facts : Int32} {c_size : Int32} {c_shut : Int32} : zbd (FX4_come rd_came rd_last v_known v_fresh v_strictFor v_forwardFor v_allFor v_above v_facts v_applies v_falls v_sureBodies v_neverBodies c_kind c_head c_body c_excepts c_power c_beats c_facts c_size c_shut).1 := zbd_come31 (fun _ _ _ _ _ _ _ _ _ _ _ _ _ h => h) _ 1 _ _ _ _ _ _ _ _ _ _ _ _ _ (by omega) (fun j hj => ⟨0, by omega, by rw [show zfill 80 0 rd_came j = 0 from if_pos hj]; rfl⟩)

theorem in_X4_roundOf_4 : ∀ w ∈ u_ws RX4 TX4 3, w ∈ wsX4_roundOf := by decide +kernel
def rmX4_roundOf : Room := { frames := 0, cells := 0, slots := 0, locals := 0 }
set_option maxHeartbeats 4000000 in
set_option maxRecDepth 100000 in
theorem c_X4_roundOf (l : Launch) (G : zG) (ard : Nat → Nat) (ord_view : Nat) (brd : S4) (x1 : Int32) (x2 : Int32) (hx1_4 : vp_in x1 4) (hx2_20 : vp_in x2 20) (T : Int32) (hT : FX4_roundOf (g4_came brd) x1 x2 = T) : zR l yX4_roundOf wsX4_roundOf rmX4_roundOf .int G [.ref (ard 0), .int x1, .int x2] [w4 G ard ord_view brd] T := by
  refine zR.mk (cc := cX4_roundOf) (maxL := 3) (by decide +kernel) rfl (Nat.le_of_ble_eq_true rfl) ?_
  intro p e s m args below meth c Q A ls S hK hD hA hP hl hret
  have hx := S.1
  have hb := S.2.1
  have hl : lv_has ls 3 [(0, .ref (ard 0)), (1, .int x1), (2, .int x2)] := hl
  have hE := hT.symm.trans (FX4_roundOf.eq_1 _ _ _)
  refine lv_aload_n hx hb dX4_roundOf_0 rfl (lv_at hl 0 rfl) ?_
  refine zg4_came S in_X4_roundOf_4 hK hP 0 rfl (List.mem_of_getElem? (i := 1) rfl) dX4_roundOf_1 ?_
  refine lv_iload_n hx hb dX4_roundOf_4 rfl (lv_at hl 1 rfl) ?_
  refine lv_bipush (v := 20) hx hb dX4_roundOf_5 (by decide) ?_
  refine lv_imul hx hb dX4_roundOf_7 ?_
  refine lv_iload_n hx hb dX4_roundOf_8 rfl (lv_at hl 2 rfl) ?_
  refine lv_iadd hx hb dX4_roundOf_9 ?_
  refine zl4_came S hK hP 0 rfl (zlinR 20 rfl hx1_4 hx2_20 (by decide) (by decide) (by decide) (by decide)) (f := (g4_came brd)) rfl dX4_roundOf_10 ?_
  exact hret _ _ _ hE rfl dX4_roundOf_11

def rmX4_broughtBy : Room := { frames := 1, cells := 0, slots := 0, locals := 22 }
set_option maxHeartbeats 4000000 in
set_option maxRecDepth 100000 in
theorem c_X4_broughtBy (l : Launch) (G : zG) (ard : Nat → Nat) (ord_view : Nat) (brd : S4) (x1 : Int32) (x2 : Int32) (hx1_4 : vp_in x1 4) (T : Int32) (hT : FX4_broughtBy (g4_came brd) x1 x2 = T) : zR l yX4_broughtBy wsX4_broughtBy rmX4_broughtBy .int G [.ref (ard 0), .int x1, .int x2] [w4 G ard ord_view brd] T := by
  refine zR.mk (cc := cX4_broughtBy) (maxL := 5) (by decide +kernel) rfl (Nat.le_of_ble_eq_true rfl) ?_
  intro p e s m args below meth c Q A ls S hK hD hA hP hl hret
  have hx := S.1
  have hb := S.2.1
  have hl : lv_has ls 5 [(0, .ref (ard 0)), (1, .int x1), (2, .int x2)] := hl
  have hE := hT.symm.trans (FX4_broughtBy.eq_1 _ _ _)
  refine lv_iconst (v := 0) hx hb dX4_broughtBy_0 (by decide) ?_
  refine lv_istore_n (lv' := [(3, .int 0), (0, .ref (ard 0)), (1, .int x1), (2, .int x2)]) hx hb dX4_broughtBy_1 rfl hl (by decide) rfl (fun ls hl => ?_)
  refine lv_iconst (v := 0) hx hb dX4_broughtBy_2 (by decide) ?_
  have hB36 : ∀ (x3_36 : Int32) (ls : Array Slot), T = FX4_broughtBy_36 (g4_came brd) x1 x2 x3_36 → lv_has ls 5 [(3, .int x3_36)] → W p l e rmX4_broughtBy s m args below meth c s.heap [] 0 0 Q (F0 m 36 ls []) := by
    intro x3_36 ls hE hl
    have hE := hE.trans (FX4_broughtBy_36.eq_1 _ _ _ _)
    refine lv_iload_n hx hb dX4_broughtBy_36 rfl (lv_at hl 0 rfl) ?_
    exact hret _ _ _ hE rfl dX4_broughtBy_37
  have hB5 : ∀ (n5 : Nat) (x3_5 : Int32) (i4_5 : Nat) (ls : Array Slot), (i4_5 ≤ 20) → 21 ≤ i4_5 + n5 → T = FX4_broughtBy_5 (g4_came brd) x1 x2 (FX4_broughtBy_36 (g4_came brd) x1 x2) n5 x3_5 (nI i4_5) → lv_has ls 5 [(0, .ref (ard 0)), (1, .int x1), (2, .int x2), (3, .int x3_5), (4, .int (nI i4_5))] → W p l e rmX4_broughtBy s m args below meth c s.heap [] 0 0 Q (F0 m 5 ls []) := by
    intro n5
    induction n5 with
    | zero =>
      intro x3_5 i4_5 ls hi4_5 hn hE hl
      exact absurd hn (by omega)
    | succ n5 ih5 =>
      intro x3_5 i4_5 ls hi4_5 hn hE hl
      have hE := hE.trans (FX4_broughtBy_5.eq_2 _ _ _ _ _ _ _)
      refine lv_iload hx hb dX4_broughtBy_5 (lv_at hl 4 rfl) ?_
      refine lv_bipush (v := 20) hx hb dX4_broughtBy_7 (by decide) ?_
      refine lv_icmp_ge (tgt := 36) hx hb dX4_broughtBy_9 (by decide) (fun c9 => ?_) (fun c9 => ?_)
      · have hE := hE.trans (if_pos c9)
        exact hB36 x3_5 _ hE (lv_sub hl [3] rfl)
      · have hE := hE.trans (if_neg c9)
        have hl4_5 : i4_5 < 20 := zlt (N := 20) rfl (by omega) (by omega) c9
        refine lv_aload_n hx hb dX4_broughtBy_12 rfl (lv_at hl 0 rfl) ?_
        refine lv_iload_n hx hb dX4_broughtBy_13 rfl (lv_at hl 1 rfl) ?_
        refine lv_iload hx hb dX4_broughtBy_14 (lv_at hl 4 rfl) ?_
        obtain ⟨t16, ht16⟩ : ∃ z, FX4_roundOf (g4_came brd) x1 (nI i4_5) = z := ⟨_, rfl⟩
        have hE := hE.trans (bnd_eq ht16)
        have hc := c_X4_roundOf l G ard ord_view brd x1 (nI i4_5) (hx1_4) ((vp_in_nI (by omega) (by omega))) _ ht16
        refine zgoR (va_runV (As := [.int x1, .int (nI i4_5)]) (rest := []) S (hc _) (cwV 2 S.2.2.2.2 gX4_broughtBy_X4_roundOf rfl rfl rfl (by decide +kernel) ⟨Nat.le_of_ble_eq_true rfl, Nat.le_of_ble_eq_true rfl⟩) (zpV hK hP hD (is := [0]) rfl rfl 0 rfl rfl (ci := 4) rfl) rfl rfl hl.1 rfl (lv_room (Nat.le_of_ble_eq_true rfl)) dX4_broughtBy_16 ⟨Nat.zero_le _, Nat.zero_le _⟩) (fun hn16 => ?_)
        refine lv_iload_n hx hb dX4_broughtBy_19 rfl (lv_at hl 2 rfl) ?_
        refine lv_icmp_ne (tgt := 30) hx hb dX4_broughtBy_20 (by decide) (fun c20 => ?_) (fun c20 => ?_)
        · have hE := hE.trans (if_neg c20)
          refine lv_iinc (v := (nI (i4_5 + 1))) (lv' := [(4, .int (nI (i4_5 + 1))), (0, .ref (ard 0)), (1, .int x1), (2, .int x2), (3, .int x3_5)]) hx hb dX4_broughtBy_30 hl (k := 4) rfl (nI_1 i4_5) (by decide) rfl (fun ls hl => ?_)
          try rw [nI_1 i4_5] at hE
          refine lv_goto (tgt := 5) hx hb dX4_broughtBy_33 (by decide) ?_
          exact ih5 x3_5 (i4_5 + 1) _ (by first | assumption | omega) (by omega) hE (lv_sub hl [1, 2, 3, 4, 0] rfl)
        · have hE := hE.trans (if_pos c20)
          refine lv_iload_n hx hb dX4_broughtBy_23 rfl (lv_at hl 3 rfl) ?_
          refine lv_iconst (v := 1) hx hb dX4_broughtBy_24 (by decide) ?_
          refine lv_iload hx hb dX4_broughtBy_25 (lv_at hl 4 rfl) ?_
          refine lv_ishl hx hb dX4_broughtBy_27 ?_
          refine lv_ior hx hb dX4_broughtBy_28 ?_
          refine lv_istore_n (lv' := [(3, .int (x3_5 ||| (1 <<< ((nI i4_5) &&& 31)))), (0, .ref (ard 0)), (1, .int x1), (2, .int x2), (4, .int (nI i4_5))]) hx hb dX4_broughtBy_29 rfl hl (by decide) rfl (fun ls hl => ?_)
          refine lv_iinc (v := (nI (i4_5 + 1))) (lv' := [(4, .int (nI (i4_5 + 1))), (3, .int (x3_5 ||| (1 <<< ((nI i4_5) &&& 31)))), (0, .ref (ard 0)), (1, .int x1), (2, .int x2)]) hx hb dX4_broughtBy_30 hl (k := 4) rfl (nI_1 i4_5) (by decide) rfl (fun ls hl => ?_)
          try rw [nI_1 i4_5] at hE
          refine lv_goto (tgt := 5) hx hb dX4_broughtBy_33 (by decide) ?_
          exact ih5 (x3_5 ||| (1 <<< ((nI i4_5) &&& 31))) (i4_5 + 1) _ (by first | assumption | omega) (by omega) hE (lv_sub hl [2, 3, 4, 1, 0] rfl)
  refine lv_istore (lv' := [(4, .int 0), (3, .int 0), (0, .ref (ard 0)), (1, .int x1), (2, .int x2)]) hx hb dX4_broughtBy_3 hl (by decide) rfl (fun ls hl => ?_)
  exact hB5 21 0 0 _ (by first | assumption | omega) (by omega) hE (lv_sub hl [2, 3, 4, 1, 0] rfl)

theorem in_X4_howMany_4 : ∀ w ∈ u_ws RX4 TX4 3, w ∈ wsX4_howMany := by decide +kernel
theorem in_X4_howMany_6 : ∀ w ∈ u_ws RX6 TX6 12, w ∈ wsX4_howMany := by decide +kernel
def rmX4_howMany : Room := { frames := 1, cells := 0, slots := 0, locals := 20 }
set_option maxHeartbeats 4000000 in
set_option maxRecDepth 100000 in
theorem c_X4_howMany (l : Launch) (G : zG) (ard : Nat → Nat) (av : Nat → Nat) (brd : S4) (bv : S6) (T : Int32) (hT : FX4_howMany (g6_known bv) = T) : zR l yX4_howMany wsX4_howMany rmX4_howMany .int G [.ref (ard 0)] [w4 G ard (av 0) brd, w6 G av bv] T := by
  refine zR.mk (cc := cX4_howMany) (maxL := 3) (by decide +kernel) rfl (Nat.le_of_ble_eq_true rfl) ?_
  intro p e s m args below meth c Q A ls S hK hD hA hP hl hret
  have hx := S.1
  have hb := S.2.1
  have hl : lv_has ls 3 [(0, .ref (ard 0))] := hl
  have hE := hT.symm.trans (FX4_howMany.eq_1 _)
  refine lv_iconst (v := 0) hx hb dX4_howMany_0 (by decide) ?_
  refine lv_istore_n (lv' := [(1, .int 0), (0, .ref (ard 0))]) hx hb dX4_howMany_1 rfl hl (by decide) rfl (fun ls hl => ?_)
  refine lv_iconst (v := 0) hx hb dX4_howMany_2 (by decide) ?_
  have hB30 : ∀ (x1_30 : Int32) (ls : Array Slot), T = FX4_howMany_30 (g6_known bv) x1_30 → lv_has ls 3 [(1, .int x1_30)] → W p l e rmX4_howMany s m args below meth c s.heap [] 0 0 Q (F0 m 30 ls []) := by
    intro x1_30 ls hE hl
    have hE := hE.trans (FX4_howMany_30.eq_1 _ _)
    refine lv_iload_n hx hb dX4_howMany_30 rfl (lv_at hl 0 rfl) ?_
    exact hret _ _ _ hE rfl dX4_howMany_31
  have hB4 : ∀ (n4 : Nat) (x1_4 : Int32) (i2_4 : Nat) (ls : Array Slot), (i2_4 ≤ 4) → 5 ≤ i2_4 + n4 → T = FX4_howMany_4 (g6_known bv) (FX4_howMany_30 (g6_known bv)) n4 x1_4 (nI i2_4) → lv_has ls 3 [(0, .ref (ard 0)), (1, .int x1_4), (2, .int (nI i2_4))] → W p l e rmX4_howMany s m args below meth c s.heap [] 0 0 Q (F0 m 4 ls []) := by
    intro n4
    induction n4 with
    | zero =>
      intro x1_4 i2_4 ls hi2_4 hn hE hl
      exact absurd hn (by omega)
    | succ n4 ih4 =>
      intro x1_4 i2_4 ls hi2_4 hn hE hl
      have hE := hE.trans (FX4_howMany_4.eq_2 _ _ _ _ _)
      refine lv_iload_n hx hb dX4_howMany_4 rfl (lv_at hl 2 rfl) ?_
      refine lv_iconst (v := 4) hx hb dX4_howMany_5 (by decide) ?_
      refine lv_icmp_ge (tgt := 30) hx hb dX4_howMany_6 (by decide) (fun c6 => ?_) (fun c6 => ?_)
      · have hE := hE.trans (if_pos c6)
        exact hB30 x1_4 _ hE (lv_sub hl [1] rfl)
      · have hE := hE.trans (if_neg c6)
        have hl2_4 : i2_4 < 4 := zlt (N := 4) rfl (by omega) (by omega) c6
        refine lv_iload_n hx hb dX4_howMany_9 rfl (lv_at hl 1 rfl) ?_
        refine lv_aload_n hx hb dX4_howMany_10 rfl (lv_at hl 0 rfl) ?_
        refine zg4_view S in_X4_howMany_4 hK hP 0 rfl (List.mem_of_getElem? (i := 1) rfl) dX4_howMany_11 ?_
        refine zg6_known S in_X4_howMany_6 hK hP 1 rfl (List.mem_of_getElem? (i := 2) rfl) dX4_howMany_14 ?_
        refine lv_iload_n hx hb dX4_howMany_17 rfl (lv_at hl 2 rfl) ?_
        refine zl6_known S hK hP 1 rfl (vp_in_nI (by omega) (by omega)) (f := (g6_known bv)) rfl dX4_howMany_18 ?_
        obtain ⟨t19, ht19⟩ : ∃ z, FJ6_bitCount_0f7a4 ((g6_known bv) (nI i2_4).toNatClampNeg) = z := ⟨_, rfl⟩
        have hE := hE.trans (bnd_eq ht19)
        have hc := c_J6_bitCount_0f7a4 l G ((g6_known bv) (nI i2_4).toNatClampNeg) _ ht19
        refine zgoR (va_runS (As := [.int ((g6_known bv) (nI i2_4).toNatClampNeg)]) (rest := [.int x1_4]) S (hc _) (va_cwS 1 S.2.2.2.2 gX4_howMany_J6_bitCount_0f7a4 rfl rfl rfl (by decide +kernel) ⟨Nat.le_of_ble_eq_true rfl, Nat.le_of_ble_eq_true rfl⟩) (zpS hK hP hD (is := []) rfl rfl) rfl rfl hl.1 rfl (lv_room (Nat.le_of_ble_eq_true rfl)) dX4_howMany_19 ⟨Nat.zero_le _, Nat.zero_le _⟩) (fun hn19 => ?_)
        refine lv_iadd hx hb dX4_howMany_22 ?_
        refine lv_istore_n (lv' := [(1, .int (x1_4 + t19)), (0, .ref (ard 0)), (2, .int (nI i2_4))]) hx hb dX4_howMany_23 rfl hl (by decide) rfl (fun ls hl => ?_)
        refine lv_iinc (v := (nI (i2_4 + 1))) (lv' := [(2, .int (nI (i2_4 + 1))), (1, .int (x1_4 + t19)), (0, .ref (ard 0))]) hx hb dX4_howMany_24 hl (k := 2) rfl (nI_1 i2_4) (by decide) rfl (fun ls hl => ?_)
        try rw [nI_1 i2_4] at hE
        refine lv_goto (tgt := 4) hx hb dX4_howMany_27 (by decide) ?_
        exact ih4 (x1_4 + t19) (i2_4 + 1) _ (by first | assumption | omega) (by omega) hE (lv_sub hl [2, 1, 0] rfl)
  refine lv_istore_n (lv' := [(2, .int 0), (1, .int 0), (0, .ref (ard 0))]) hx hb dX4_howMany_3 rfl hl (by decide) rfl (fun ls hl => ?_)
  exact hB4 5 0 0 _ (by first | assumption | omega) (by omega) hE (lv_sub hl [2, 1, 0] rfl)

