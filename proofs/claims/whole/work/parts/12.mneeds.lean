theorem in_X9_needsSure_9 : ∀ w ∈ u_ws RX9 TX9 40, w ∈ wsX9_needsSure := by decide +kernel
def rmX9_needsSure : Room := { frames := 1, cells := 0, slots := 0, locals := 22 }
set_option maxHeartbeats 4000000 in
set_option maxRecDepth 100000 in
theorem c_X9_needsSure (l : Launch) (G : zG) (am : Nat → Nat) (bm : S9) (x1 : Int32) (hz_m_rules : ∃ N : Nat, N ≤ 16 ∧ g9_rules bm = nI N) (T : (Nat → Int32)) (hT : FX9_needsSure (g9_facts bm) (g9_rules bm) (g9_kind bm) (g9_head bm) (g9_body bm) (g9_off bm) (g9_known bm) (g9_needed bm) x1 = T) : zV l yX9_needsSure wsX9_needsSure rmX9_needsSure G [.ref (am 0), .int x1] [w9 G am bm] [w9 G am (s9_needed bm T)] := by
  refine zV.mk (cc := cX9_needsSure) (maxL := 3) (by decide +kernel) rfl (Nat.le_of_ble_eq_true rfl) (zfl_cons (wf9 _ _ _ _) rfl) ?_
  intro p e s m args below meth c Q A ls S hK hD hA hP hl hret
  have hx := S.1
  have hb := S.2.1
  have hS : va_S A s.heap s.heap [] := va_S.rf
  have hl : lv_has ls 3 [(0, .ref (am 0)), (1, .int x1)] := hl
  obtain ⟨N_m_rules, hN_m_rules, hs_m_rules⟩ := id hz_m_rules
  have hE := hT.symm.trans (FX9_needsSure.eq_1 _ _ _ _ _ _ _ _ _)
  refine lv_iconst (v := 0) hx hb dX9_needsSure_0 (by decide) ?_
  have hB57 : ∀ (i2_57 : Nat) (H : Heap) (locs : List Loc) (ls : Array Slot), (i2_57 < 16) → T = FX9_needsSure_57 (g9_facts bm) (g9_rules bm) (g9_kind bm) (g9_head bm) (g9_body bm) (g9_off bm) (g9_known bm) (g9_needed bm) x1 (nI i2_57) (g9_needed bm) → zP G [w9 G am bm] H → zD A [w9 G am bm] → va_S A s.heap H locs → lv_has ls 3 [(0, .ref (am 0)), (2, .int (nI i2_57))] → W p l e rmX9_needsSure s m args below meth c H locs 0 0 Q (F0 m 57 ls []) := by
    intro i2_57 H locs ls hi57 hE hP hD hS hl
    have hE := hE.trans (FX9_needsSure_57.eq_1 _ _ _ _ _ _ _ _ _ _ _)
    refine lv_aload_n hx hb dX9_needsSure_57 rfl (lv_at hl 0 rfl) ?_
    refine zg9_needed S in_X9_needsSure_9 hK hP 0 rfl (List.mem_of_getElem? (i := 6) rfl) dX9_needsSure_58 ?_
    refine lv_iconst (v := 0) hx hb dX9_needsSure_61 (by decide) ?_
    refine lv_dup2_11 hx hb dX9_needsSure_62 rfl rfl ?_
    refine zl9_needed S hK hP 0 rfl (zin_k (n := 0) rfl (by decide) (by decide)) (f := (g9_needed bm)) rfl dX9_needsSure_63 ?_
    refine lv_aload_n hx hb dX9_needsSure_64 rfl (lv_at hl 0 rfl) ?_
    refine zg9_body S in_X9_needsSure_9 hK hP 0 rfl (List.mem_of_getElem? (i := 4) rfl) dX9_needsSure_65 ?_
    refine lv_iload_n hx hb dX9_needsSure_68 rfl (lv_at hl 1 rfl) ?_
    refine zl9_body S hK hP 0 rfl (vp_in_nI hi57 (by decide)) (f := (g9_body bm)) rfl dX9_needsSure_69 ?_
    refine lv_ior hx hb dX9_needsSure_70 ?_
    refine zs9_needed (bs1 := [w9 G am (s9_needed bm (upd (g9_needed bm) (0 : Int32).toNatClampNeg (((g9_needed bm) (0 : Int32).toNatClampNeg) ||| ((g9_body bm) (nI i2_57).toNatClampNeg))))]) S hK hP hD hS 0 rfl (zin_k (n := 0) rfl (by decide) (by decide)) (f := (g9_needed bm)) rfl dX9_needsSure_71 rfl (fun H locs hP hD hS => ?_)
    exact hret _ _ _ _ _ (by subst hE; rfl) hP hS dX9_needsSure_72
  have hB2 : ∀ (n2 : Nat) (i2_2 : Nat) (H : Heap) (locs : List Loc) (ls : Array Slot), (i2_2 ≤ N_m_rules) → 17 ≤ i2_2 + n2 → T = FX9_needsSure_2 (g9_facts bm) (g9_rules bm) (g9_kind bm) (g9_head bm) (g9_body bm) (g9_off bm) (g9_known bm) (g9_needed bm) x1 (FX9_needsSure_57 (g9_facts bm) (g9_rules bm) (g9_kind bm) (g9_head bm) (g9_body bm) (g9_off bm) (g9_known bm) (g9_needed bm) x1) n2 (nI i2_2) (g9_needed bm) → zP G [w9 G am bm] H → zD A [w9 G am bm] → va_S A s.heap H locs → lv_has ls 3 [(0, .ref (am 0)), (1, .int x1), (2, .int (nI i2_2))] → W p l e rmX9_needsSure s m args below meth c H locs 0 0 Q (F0 m 2 ls []) := by
    intro n2
    induction n2 with
    | zero =>
      intro i2_2 H locs ls hi2_2 hn hE hP hD hS hl
      exact absurd hn (by omega)
    | succ n2 ih2 =>
      intro i2_2 H locs ls hi2_2 hn hE hP hD hS hl
      have hE := hE.trans (FX9_needsSure_2.eq_2 _ _ _ _ _ _ _ _ _ _ _ _ _)
      refine lv_iload_n hx hb dX9_needsSure_2 rfl (lv_at hl 2 rfl) ?_
      refine lv_aload_n hx hb dX9_needsSure_3 rfl (lv_at hl 0 rfl) ?_
      refine zg9_rules S in_X9_needsSure_9 hK hP 0 rfl (List.mem_of_getElem? (i := 1) rfl) (v := (g9_rules bm)) rfl dX9_needsSure_4 ?_
      refine lv_icmp_ge (tgt := 79) hx hb dX9_needsSure_7 (by decide) (fun c7 => ?_) (fun c7 => ?_)
      · have hE := hE.trans (if_pos c7)
        rw [show bm = (s9_needed bm (g9_needed bm)) from ((se9_needed _).symm)] at hP hD
        exact hret _ _ _ _ _ (by subst hE; rfl) hP hS dX9_needsSure_79
      · have hE := hE.trans (if_neg c7)
        have hl2_2 : i2_2 < N_m_rules := zlt hs_m_rules (by omega) (by omega) c7
        refine lv_aload_n hx hb dX9_needsSure_10 rfl (lv_at hl 0 rfl) ?_
        refine zg9_facts S in_X9_needsSure_9 hK hP 0 rfl (List.mem_of_getElem? (i := 2) rfl) (v := (g9_facts bm)) rfl dX9_needsSure_11 ?_
        refine lv_iload_n hx hb dX9_needsSure_14 rfl (lv_at hl 1 rfl) ?_
        obtain ⟨t15, ht15⟩ : ∃ z, FX9_has (g9_facts bm) x1 = z := ⟨_, rfl⟩
        have hE := hE.trans (bnd_eq ht15)
        have hc := c_X9_has l G (g9_facts bm) x1 _ ht15
        refine zgoR (va_runS (As := [.int (g9_facts bm), .int x1]) (rest := []) S (hc _) (va_cwS 2 S.2.2.2.2 gX9_needsSure_X9_has rfl rfl rfl (by decide +kernel) ⟨Nat.le_of_ble_eq_true rfl, Nat.le_of_ble_eq_true rfl⟩) (zpS hK hP hD (is := []) rfl rfl) rfl rfl hl.1 rfl (lv_room (Nat.le_of_ble_eq_true rfl)) dX9_needsSure_15 ⟨Nat.zero_le _, Nat.zero_le _⟩) (fun hn15 => ?_)
        refine lv_if_ne (tgt := 79) hx hb dX9_needsSure_18 (by decide) (fun c18 => ?_) (fun c18 => ?_)
        · have hE := hE.trans (if_neg c18)
          rw [show bm = (s9_needed bm (g9_needed bm)) from ((se9_needed _).symm)] at hP hD
          exact hret _ _ _ _ _ (by subst hE; rfl) hP hS dX9_needsSure_79
        · have hE := hE.trans (if_pos c18)
          refine lv_aload_n hx hb dX9_needsSure_21 rfl (lv_at hl 0 rfl) ?_
          refine lv_iload_n hx hb dX9_needsSure_22 rfl (lv_at hl 2 rfl) ?_
          refine lv_iload_n hx hb dX9_needsSure_23 rfl (lv_at hl 1 rfl) ?_
          obtain ⟨t24, ht24⟩ : ∃ z, FX9_isFor (g9_head bm) (g9_off bm) (nI i2_2) x1 = z := ⟨_, rfl⟩
          have hE := hE.trans (bnd_eq ht24)
          have hc := c_X9_isFor l G am bm (nI i2_2) x1 ((vp_in_nI (by omega) (by omega))) _ ht24
          refine zgoR (va_runV (As := [.int (nI i2_2), .int x1]) (rest := []) S (hc _) (cwV 2 S.2.2.2.2 gX9_needsSure_X9_isFor rfl rfl rfl (by decide +kernel) ⟨Nat.le_of_ble_eq_true rfl, Nat.le_of_ble_eq_true rfl⟩) (zpV hK hP hD (is := [0]) rfl rfl 0 rfl rfl (ci := 9) rfl) rfl rfl hl.1 rfl (lv_room (Nat.le_of_ble_eq_true rfl)) dX9_needsSure_24 ⟨Nat.zero_le _, Nat.zero_le _⟩) (fun hn24 => ?_)
          refine lv_if_eq (tgt := 73) hx hb dX9_needsSure_27 (by decide) (fun c27 => ?_) (fun c27 => ?_)
          · have hE := hE.trans (if_pos c27)
            refine lv_iinc (v := (nI (i2_2 + 1))) (lv' := [(2, .int (nI (i2_2 + 1))), (0, .ref (am 0)), (1, .int x1)]) hx hb dX9_needsSure_73 hl (k := 2) rfl (nI_1 i2_2) (by decide) rfl (fun ls hl => ?_)
            try rw [nI_1 i2_2] at hE
            refine lv_goto (tgt := 2) hx hb dX9_needsSure_76 (by decide) ?_
            exact ih2 (i2_2 + 1) _ _ _ (by first | assumption | omega) (by omega) hE hP hD hS (lv_sub hl [1, 2, 0] rfl)
          · have hE := hE.trans (if_neg c27)
            refine lv_aload_n hx hb dX9_needsSure_30 rfl (lv_at hl 0 rfl) ?_
            refine zg9_kind S in_X9_needsSure_9 hK hP 0 rfl (List.mem_of_getElem? (i := 3) rfl) dX9_needsSure_31 ?_
            refine lv_iload_n hx hb dX9_needsSure_34 rfl (lv_at hl 2 rfl) ?_
            refine zl9_kind S hK hP 0 rfl (vp_in_nI (by omega) (by omega)) (f := (g9_kind bm)) rfl dX9_needsSure_35 ?_
            refine lv_if_ne (tgt := 73) hx hb dX9_needsSure_36 (by decide) (fun c36 => ?_) (fun c36 => ?_)
            · have hE := hE.trans (if_neg c36)
              refine lv_iinc (v := (nI (i2_2 + 1))) (lv' := [(2, .int (nI (i2_2 + 1))), (0, .ref (am 0)), (1, .int x1)]) hx hb dX9_needsSure_73 hl (k := 2) rfl (nI_1 i2_2) (by decide) rfl (fun ls hl => ?_)
              try rw [nI_1 i2_2] at hE
              refine lv_goto (tgt := 2) hx hb dX9_needsSure_76 (by decide) ?_
              exact ih2 (i2_2 + 1) _ _ _ (by first | assumption | omega) (by omega) hE hP hD hS (lv_sub hl [1, 2, 0] rfl)
            · have hE := hE.trans (if_pos c36)
              refine lv_aload_n hx hb dX9_needsSure_39 rfl (lv_at hl 0 rfl) ?_
              refine zg9_body S in_X9_needsSure_9 hK hP 0 rfl (List.mem_of_getElem? (i := 4) rfl) dX9_needsSure_40 ?_
              refine lv_iload_n hx hb dX9_needsSure_43 rfl (lv_at hl 2 rfl) ?_
              refine zl9_body S hK hP 0 rfl (vp_in_nI (by omega) (by omega)) (f := (g9_body bm)) rfl dX9_needsSure_44 ?_
              refine lv_aload_n hx hb dX9_needsSure_45 rfl (lv_at hl 0 rfl) ?_
              refine zg9_known S in_X9_needsSure_9 hK hP 0 rfl (List.mem_of_getElem? (i := 5) rfl) dX9_needsSure_46 ?_
              refine lv_iconst (v := 0) hx hb dX9_needsSure_49 (by decide) ?_
              refine zl9_known S hK hP 0 rfl (zin_k (n := 0) rfl (by decide) (by decide)) (f := (g9_known bm)) rfl dX9_needsSure_50 ?_
              refine lv_iconst (v := (-1)) hx hb dX9_needsSure_51 (by decide) ?_
              refine lv_ixor hx hb dX9_needsSure_52 ?_
              refine lv_iand hx hb dX9_needsSure_53 ?_
              refine lv_if_ne (tgt := 73) hx hb dX9_needsSure_54 (by decide) (fun c54 => ?_) (fun c54 => ?_)
              · have hE := hE.trans (if_neg c54)
                refine lv_iinc (v := (nI (i2_2 + 1))) (lv' := [(2, .int (nI (i2_2 + 1))), (0, .ref (am 0)), (1, .int x1)]) hx hb dX9_needsSure_73 hl (k := 2) rfl (nI_1 i2_2) (by decide) rfl (fun ls hl => ?_)
                try rw [nI_1 i2_2] at hE
                refine lv_goto (tgt := 2) hx hb dX9_needsSure_76 (by decide) ?_
                exact ih2 (i2_2 + 1) _ _ _ (by first | assumption | omega) (by omega) hE hP hD hS (lv_sub hl [1, 2, 0] rfl)
              · have hE := hE.trans (if_pos c54)
                exact hB57 i2_2 _ _ _ (by first | assumption | omega) hE hP hD hS (lv_sub hl [0, 2] rfl)
  refine lv_istore_n (lv' := [(2, .int 0), (0, .ref (am 0)), (1, .int x1)]) hx hb dX9_needsSure_1 rfl hl (by decide) rfl (fun ls hl => ?_)
  exact hB2 17 0 _ _ _ (by first | assumption | omega) (by omega) hE hP hD hS (lv_sub hl [1, 2, 0] rfl)

def rmX9_firstOf : Room := { frames := 1, cells := 0, slots := 0, locals := 21 }
set_option maxHeartbeats 4000000 in
set_option maxRecDepth 100000 in
theorem c_X9_firstOf (l : Launch) (G : zG) (x0 : Int32) (T : Int32) (hT : FX9_firstOf x0 = T) : zR l yX9_firstOf wsX9_firstOf rmX9_firstOf .int G [.int x0] [] T := by
  refine zR.mk (cc := cX9_firstOf) (maxL := 1) (by decide +kernel) rfl (Nat.le_of_ble_eq_true rfl) ?_
  intro p e s m args below meth c Q A ls S hK hD hA hP hl hret
  have hx := S.1
  have hb := S.2.1
  have hl : lv_has ls 1 [(0, .int x0)] := hl
  have hE := hT.symm.trans (FX9_firstOf.eq_1 _)
  refine lv_iload_n hx hb dX9_firstOf_0 rfl (lv_at hl 0 rfl) ?_
  obtain ⟨t1, ht1⟩ : ∃ z, FJ6_numberOfTrailingZeros_0f7a4 x0 = z := ⟨_, rfl⟩
  have hE := hE.trans (bnd_eq ht1)
  have hc := c_J6_numberOfTrailingZeros_0f7a4 l G x0 _ ht1
  refine zgoR (va_runS (As := [.int x0]) (rest := []) S (hc _) (va_cwS 1 S.2.2.2.2 gX9_firstOf_J6_numberOfTrailingZeros_0f7a4 rfl rfl rfl (by decide +kernel) ⟨Nat.le_of_ble_eq_true rfl, Nat.le_of_ble_eq_true rfl⟩) (zpS hK hP hD (is := []) rfl rfl) rfl rfl hl.1 rfl (lv_room (Nat.le_of_ble_eq_true rfl)) dX9_firstOf_1 ⟨Nat.zero_le _, Nat.zero_le _⟩) (fun hn1 => ?_)
  exact hret _ _ _ hE rfl dX9_firstOf_4

theorem in_X9_needsNever_9 : ∀ w ∈ u_ws RX9 TX9 40, w ∈ wsX9_needsNever := by decide +kernel
def rmX9_needsNever : Room := { frames := 2, cells := 0, slots := 0, locals := 41 }
set_option maxHeartbeats 4000000 in
set_option maxRecDepth 100000 in
theorem c_X9_needsNever (l : Launch) (G : zG) (am : Nat → Nat) (bm : S9) (x1 : Int32) (hz_m_rules : ∃ N : Nat, N ≤ 16 ∧ g9_rules bm = nI N) (T : (Nat → Int32)) (hT : FX9_needsNever (g9_rules bm) (g9_kind bm) (g9_head bm) (g9_body bm) (g9_off bm) (g9_known bm) (g9_needed bm) x1 = T) : zV l yX9_needsNever wsX9_needsNever rmX9_needsNever G [.ref (am 0), .int x1] [w9 G am bm] [w9 G am (s9_needed bm T)] := by
  refine zV.mk (cc := cX9_needsNever) (maxL := 3) (by decide +kernel) rfl (Nat.le_of_ble_eq_true rfl) (zfl_cons (wf9 _ _ _ _) rfl) ?_
  intro p e s m args below meth c Q A ls S hK hD hA hP hl hret
  have hx := S.1
  have hb := S.2.1
  have hS : va_S A s.heap s.heap [] := va_S.rf
  have hl : lv_has ls 3 [(0, .ref (am 0)), (1, .int x1)] := hl
  obtain ⟨N_m_rules, hN_m_rules, hs_m_rules⟩ := id hz_m_rules
  have hE := hT.symm.trans (FX9_needsNever.eq_1 _ _ _ _ _ _ _ _)
  refine lv_iconst (v := 0) hx hb dX9_needsNever_0 (by decide) ?_
  have hB61 : ∀ (m_needed_61 : Nat → Int32) (H : Heap) (locs : List Loc) (ls : Array Slot), T = FX9_needsNever_61 (g9_rules bm) (g9_kind bm) (g9_head bm) (g9_body bm) (g9_off bm) (g9_known bm) (g9_needed bm) x1 m_needed_61 → zP G [w9 G am (s9_needed bm m_needed_61)] H → zD A [w9 G am (s9_needed bm m_needed_61)] → va_S A s.heap H locs → lv_has ls 3 [] → W p l e rmX9_needsNever s m args below meth c H locs 0 0 Q (F0 m 61 ls []) := by
    intro m_needed_61 H locs ls hE hP hD hS hl
    have hE := hE.trans (FX9_needsNever_61.eq_1 _ _ _ _ _ _ _ _ _)
    exact hret _ _ _ _ _ (by subst hE; rfl) hP hS dX9_needsNever_61
  have hB2 : ∀ (n2 : Nat) (i2_2 : Nat) (m_needed_2 : Nat → Int32) (H : Heap) (locs : List Loc) (ls : Array Slot), (i2_2 ≤ N_m_rules) → 17 ≤ i2_2 + n2 → T = FX9_needsNever_2 (g9_rules bm) (g9_kind bm) (g9_head bm) (g9_body bm) (g9_off bm) (g9_known bm) (g9_needed bm) x1 (FX9_needsNever_61 (g9_rules bm) (g9_kind bm) (g9_head bm) (g9_body bm) (g9_off bm) (g9_known bm) (g9_needed bm) x1) n2 (nI i2_2) m_needed_2 → zP G [w9 G am (s9_needed bm m_needed_2)] H → zD A [w9 G am (s9_needed bm m_needed_2)] → va_S A s.heap H locs → lv_has ls 3 [(0, .ref (am 0)), (1, .int x1), (2, .int (nI i2_2))] → W p l e rmX9_needsNever s m args below meth c H locs 0 0 Q (F0 m 2 ls []) := by
    intro n2
    induction n2 with
    | zero =>
      intro i2_2 m_needed_2 H locs ls hi2_2 hn hE hP hD hS hl
      exact absurd hn (by omega)
    | succ n2 ih2 =>
      intro i2_2 m_needed_2 H locs ls hi2_2 hn hE hP hD hS hl
      have hE := hE.trans (FX9_needsNever_2.eq_2 _ _ _ _ _ _ _ _ _ _ _ _)
      refine lv_iload_n hx hb dX9_needsNever_2 rfl (lv_at hl 2 rfl) ?_
      refine lv_aload_n hx hb dX9_needsNever_3 rfl (lv_at hl 0 rfl) ?_
      refine zg9_rules S in_X9_needsNever_9 hK hP 0 rfl (List.mem_of_getElem? (i := 1) rfl) (v := (g9_rules bm)) (gs9_rules_needed _ m_needed_2) dX9_needsNever_4 ?_
      refine lv_icmp_ge (tgt := 61) hx hb dX9_needsNever_7 (by decide) (fun c7 => ?_) (fun c7 => ?_)
      · have hE := hE.trans (if_pos c7)
        exact hB61 m_needed_2 _ _ _ hE hP hD hS (lv_sub hl [] rfl)
      · have hE := hE.trans (if_neg c7)
        have hl2_2 : i2_2 < N_m_rules := zlt hs_m_rules (by omega) (by omega) c7
        refine lv_aload_n hx hb dX9_needsNever_10 rfl (lv_at hl 0 rfl) ?_
        refine lv_iload_n hx hb dX9_needsNever_11 rfl (lv_at hl 2 rfl) ?_
        refine lv_iload_n hx hb dX9_needsNever_12 rfl (lv_at hl 1 rfl) ?_
        obtain ⟨t13, ht13⟩ : ∃ z, FX9_isFor (g9_head bm) (g9_off bm) (nI i2_2) x1 = z := ⟨_, rfl⟩
        have hE := hE.trans (bnd_eq ht13)
        have hc := c_X9_isFor l G am (s9_needed bm m_needed_2) (nI i2_2) x1 ((vp_in_nI (by omega) (by omega))) _ (by simp only [gs9_head_needed, gs9_off_needed]; exact ht13)
        refine zgoR (va_runV (As := [.int (nI i2_2), .int x1]) (rest := []) S (hc _) (cwV 2 S.2.2.2.2 gX9_needsNever_X9_isFor rfl rfl rfl (by decide +kernel) ⟨Nat.le_of_ble_eq_true rfl, Nat.le_of_ble_eq_true rfl⟩) (zpV hK hP hD (is := [0]) rfl rfl 0 rfl rfl (ci := 9) rfl) rfl rfl hl.1 rfl (lv_room (Nat.le_of_ble_eq_true rfl)) dX9_needsNever_13 ⟨Nat.zero_le _, Nat.zero_le _⟩) (fun hn13 => ?_)
        refine lv_if_eq (tgt := 55) hx hb dX9_needsNever_16 (by decide) (fun c16 => ?_) (fun c16 => ?_)
        · have hE := hE.trans (if_pos c16)
          refine lv_iinc (v := (nI (i2_2 + 1))) (lv' := [(2, .int (nI (i2_2 + 1))), (0, .ref (am 0)), (1, .int x1)]) hx hb dX9_needsNever_55 hl (k := 2) rfl (nI_1 i2_2) (by decide) rfl (fun ls hl => ?_)
          try rw [nI_1 i2_2] at hE
          refine lv_goto (tgt := 2) hx hb dX9_needsNever_58 (by decide) ?_
          exact ih2 (i2_2 + 1) m_needed_2 _ _ _ (by first | assumption | omega) (by omega) hE hP hD hS (lv_sub hl [1, 2, 0] rfl)
        · have hE := hE.trans (if_neg c16)
          refine lv_aload_n hx hb dX9_needsNever_19 rfl (lv_at hl 0 rfl) ?_
          refine zg9_kind S in_X9_needsNever_9 hK hP 0 rfl (List.mem_of_getElem? (i := 2) rfl) dX9_needsNever_20 ?_
          refine lv_iload_n hx hb dX9_needsNever_23 rfl (lv_at hl 2 rfl) ?_
          refine zl9_kind S hK hP 0 rfl (vp_in_nI (by omega) (by omega)) (f := (g9_kind bm)) (gs9_kind_needed _ m_needed_2) dX9_needsNever_24 ?_
          refine lv_if_ne (tgt := 55) hx hb dX9_needsNever_25 (by decide) (fun c25 => ?_) (fun c25 => ?_)
          · have hE := hE.trans (if_neg c25)
            refine lv_iinc (v := (nI (i2_2 + 1))) (lv' := [(2, .int (nI (i2_2 + 1))), (0, .ref (am 0)), (1, .int x1)]) hx hb dX9_needsNever_55 hl (k := 2) rfl (nI_1 i2_2) (by decide) rfl (fun ls hl => ?_)
            try rw [nI_1 i2_2] at hE
            refine lv_goto (tgt := 2) hx hb dX9_needsNever_58 (by decide) ?_
            exact ih2 (i2_2 + 1) m_needed_2 _ _ _ (by first | assumption | omega) (by omega) hE hP hD hS (lv_sub hl [1, 2, 0] rfl)
          · have hE := hE.trans (if_pos c25)
            refine lv_aload_n hx hb dX9_needsNever_28 rfl (lv_at hl 0 rfl) ?_
            refine zg9_needed S in_X9_needsNever_9 hK hP 0 rfl (List.mem_of_getElem? (i := 3) rfl) dX9_needsNever_29 ?_
            refine lv_iconst (v := 1) hx hb dX9_needsNever_32 (by decide) ?_
            refine lv_dup2_11 hx hb dX9_needsNever_33 rfl rfl ?_
            refine zl9_needed S hK hP 0 rfl (zin_k (n := 1) rfl (by decide) (by decide)) (f := m_needed_2) (gg9_needed _ m_needed_2) dX9_needsNever_34 ?_
            refine lv_iconst (v := 1) hx hb dX9_needsNever_35 (by decide) ?_
            refine lv_aload_n hx hb dX9_needsNever_36 rfl (lv_at hl 0 rfl) ?_
            refine zg9_body S in_X9_needsNever_9 hK hP 0 rfl (List.mem_of_getElem? (i := 4) rfl) dX9_needsNever_37 ?_
            refine lv_iload_n hx hb dX9_needsNever_40 rfl (lv_at hl 2 rfl) ?_
            refine zl9_body S hK hP 0 rfl (vp_in_nI (by omega) (by omega)) (f := (g9_body bm)) (gs9_body_needed _ m_needed_2) dX9_needsNever_41 ?_
            refine lv_aload_n hx hb dX9_needsNever_42 rfl (lv_at hl 0 rfl) ?_
            refine zg9_known S in_X9_needsNever_9 hK hP 0 rfl (List.mem_of_getElem? (i := 5) rfl) dX9_needsNever_43 ?_
            refine lv_iconst (v := 1) hx hb dX9_needsNever_46 (by decide) ?_
            refine zl9_known S hK hP 0 rfl (zin_k (n := 1) rfl (by decide) (by decide)) (f := (g9_known bm)) (gs9_known_needed _ m_needed_2) dX9_needsNever_47 ?_
            refine lv_iand hx hb dX9_needsNever_48 ?_
            obtain ⟨t49, ht49⟩ : ∃ z, FX9_firstOf (((g9_body bm) (nI i2_2).toNatClampNeg) &&& ((g9_known bm) (1 : Int32).toNatClampNeg)) = z := ⟨_, rfl⟩
            have hE := hE.trans (bnd_eq ht49)
            have hc := c_X9_firstOf l G (((g9_body bm) (nI i2_2).toNatClampNeg) &&& ((g9_known bm) (1 : Int32).toNatClampNeg)) _ ht49
            refine zgoR (va_runS (As := [.int (((g9_body bm) (nI i2_2).toNatClampNeg) &&& ((g9_known bm) (1 : Int32).toNatClampNeg))]) (rest := [.int 1, .int (m_needed_2 (1 : Int32).toNatClampNeg), .int 1, .ref (am 20)]) S (hc _) (va_cwS 1 S.2.2.2.2 gX9_needsNever_X9_firstOf rfl rfl rfl (by decide +kernel) ⟨Nat.le_of_ble_eq_true rfl, Nat.le_of_ble_eq_true rfl⟩) (zpS hK hP hD (is := []) rfl rfl) rfl rfl hl.1 rfl (lv_room (Nat.le_of_ble_eq_true rfl)) dX9_needsNever_49 ⟨Nat.zero_le _, Nat.zero_le _⟩) (fun hn49 => ?_)
            refine lv_ishl hx hb dX9_needsNever_52 ?_
            refine lv_ior hx hb dX9_needsNever_53 ?_
            refine zs9_needed (bs1 := [w9 G am (s9_needed (s9_needed bm m_needed_2) (upd m_needed_2 (1 : Int32).toNatClampNeg ((m_needed_2 (1 : Int32).toNatClampNeg) ||| (1 <<< (t49 &&& 31)))))]) S hK hP hD hS 0 rfl (zin_k (n := 1) rfl (by decide) (by decide)) (f := m_needed_2) (gg9_needed _ m_needed_2) dX9_needsNever_54 rfl (fun H locs hP hD hS => ?_)
            refine lv_iinc (v := (nI (i2_2 + 1))) (lv' := [(2, .int (nI (i2_2 + 1))), (0, .ref (am 0)), (1, .int x1)]) hx hb dX9_needsNever_55 hl (k := 2) rfl (nI_1 i2_2) (by decide) rfl (fun ls hl => ?_)
            try rw [nI_1 i2_2] at hE
            refine lv_goto (tgt := 2) hx hb dX9_needsNever_58 (by decide) ?_
            rw [show (s9_needed (s9_needed bm m_needed_2) (upd m_needed_2 (1 : Int32).toNatClampNeg ((m_needed_2 (1 : Int32).toNatClampNeg) ||| (1 <<< (t49 &&& 31))))) = (s9_needed bm (upd m_needed_2 (1 : Int32).toNatClampNeg ((m_needed_2 (1 : Int32).toNatClampNeg) ||| (1 <<< (t49 &&& 31))))) from (ss9_needed _ m_needed_2 (upd m_needed_2 (1 : Int32).toNatClampNeg ((m_needed_2 (1 : Int32).toNatClampNeg) ||| (1 <<< (t49 &&& 31)))))] at hP hD
            exact ih2 (i2_2 + 1) (upd m_needed_2 (1 : Int32).toNatClampNeg ((m_needed_2 (1 : Int32).toNatClampNeg) ||| (1 <<< (t49 &&& 31)))) _ _ _ (by first | assumption | omega) (by omega) hE hP hD hS (lv_sub hl [1, 2, 0] rfl)
  refine lv_istore_n (lv' := [(2, .int 0), (0, .ref (am 0)), (1, .int x1)]) hx hb dX9_needsNever_1 rfl hl (by decide) rfl (fun ls hl => ?_)
  rw [show bm = (s9_needed bm (g9_needed bm)) from ((se9_needed _).symm)] at hP hD
  exact hB2 17 0 (g9_needed bm) _ _ _ (by first | assumption | omega) (by omega) hE hP hD hS (lv_sub hl [1, 2, 0] rfl)

theorem in_X9_force_9 : ∀ w ∈ u_ws RX9 TX9 40, w ∈ wsX9_force := by decide +kernel
def rmX9_force : Room := { frames := 0, cells := 0, slots := 0, locals := 0 }
set_option maxHeartbeats 4000000 in
set_option maxRecDepth 100000 in
theorem c_X9_force (l : Launch) (G : zG) (am : Nat → Nat) (bm : S9) (x1 : Int32) (hx1_16 : vp_in x1 16) (T : (Nat → Int32)) (hT : FX9_force (g9_body bm) (g9_except bm) (g9_needed bm) x1 = T) : zV l yX9_force wsX9_force rmX9_force G [.ref (am 0), .int x1] [w9 G am bm] [w9 G am (s9_needed bm T)] := by
  refine zV.mk (cc := cX9_force) (maxL := 2) (by decide +kernel) rfl (Nat.le_of_ble_eq_true rfl) (zfl_cons (wf9 _ _ _ _) rfl) ?_
  intro p e s m args below meth c Q A ls S hK hD hA hP hl hret
  have hx := S.1
  have hb := S.2.1
  have hS : va_S A s.heap s.heap [] := va_S.rf
  have hl : lv_has ls 2 [(0, .ref (am 0)), (1, .int x1)] := hl
  have hE := hT.symm.trans (FX9_force.eq_1 _ _ _ _)
  refine lv_aload_n hx hb dX9_force_0 rfl (lv_at hl 0 rfl) ?_
  refine zg9_needed S in_X9_force_9 hK hP 0 rfl (List.mem_of_getElem? (i := 1) rfl) dX9_force_1 ?_
  refine lv_iconst (v := 2) hx hb dX9_force_4 (by decide) ?_
  refine lv_dup2_11 hx hb dX9_force_5 rfl rfl ?_
  refine zl9_needed S hK hP 0 rfl (zin_k (n := 2) rfl (by decide) (by decide)) (f := (g9_needed bm)) rfl dX9_force_6 ?_
  refine lv_aload_n hx hb dX9_force_7 rfl (lv_at hl 0 rfl) ?_
  refine zg9_body S in_X9_force_9 hK hP 0 rfl (List.mem_of_getElem? (i := 2) rfl) dX9_force_8 ?_
  refine lv_iload_n hx hb dX9_force_11 rfl (lv_at hl 1 rfl) ?_
  refine zl9_body S hK hP 0 rfl hx1_16 (f := (g9_body bm)) rfl dX9_force_12 ?_
  refine lv_ior hx hb dX9_force_13 ?_
  refine zs9_needed (bs1 := [w9 G am (s9_needed bm (upd (g9_needed bm) (2 : Int32).toNatClampNeg (((g9_needed bm) (2 : Int32).toNatClampNeg) ||| ((g9_body bm) x1.toNatClampNeg))))]) S hK hP hD hS 0 rfl (zin_k (n := 2) rfl (by decide) (by decide)) (f := (g9_needed bm)) rfl dX9_force_14 rfl (fun H locs hP hD hS => ?_)
  refine lv_aload_n hx hb dX9_force_15 rfl (lv_at hl 0 rfl) ?_
  refine zg9_needed S in_X9_force_9 hK hP 0 rfl (List.mem_of_getElem? (i := 1) rfl) dX9_force_16 ?_
  refine lv_iconst (v := 3) hx hb dX9_force_19 (by decide) ?_
  refine lv_dup2_11 hx hb dX9_force_20 rfl rfl ?_
  refine zl9_needed S hK hP 0 rfl (zin_k (n := 3) rfl (by decide) (by decide)) (f := (upd (g9_needed bm) (2 : Int32).toNatClampNeg (((g9_needed bm) (2 : Int32).toNatClampNeg) ||| ((g9_body bm) x1.toNatClampNeg)))) (gg9_needed _ (upd (g9_needed bm) (2 : Int32).toNatClampNeg (((g9_needed bm) (2 : Int32).toNatClampNeg) ||| ((g9_body bm) x1.toNatClampNeg)))) dX9_force_21 ?_
  refine lv_aload_n hx hb dX9_force_22 rfl (lv_at hl 0 rfl) ?_
  refine zg9_except S in_X9_force_9 hK hP 0 rfl (List.mem_of_getElem? (i := 3) rfl) dX9_force_23 ?_
  refine lv_iload_n hx hb dX9_force_26 rfl (lv_at hl 1 rfl) ?_
  refine zl9_except S hK hP 0 rfl hx1_16 (f := (g9_except bm)) (gs9_except_needed _ (upd (g9_needed bm) (2 : Int32).toNatClampNeg (((g9_needed bm) (2 : Int32).toNatClampNeg) ||| ((g9_body bm) x1.toNatClampNeg)))) dX9_force_27 ?_
  refine lv_ior hx hb dX9_force_28 ?_
  refine zs9_needed (bs1 := [w9 G am (s9_needed (s9_needed bm (upd (g9_needed bm) (2 : Int32).toNatClampNeg (((g9_needed bm) (2 : Int32).toNatClampNeg) ||| ((g9_body bm) x1.toNatClampNeg)))) (upd (upd (g9_needed bm) (2 : Int32).toNatClampNeg (((g9_needed bm) (2 : Int32).toNatClampNeg) ||| ((g9_body bm) x1.toNatClampNeg))) (3 : Int32).toNatClampNeg (((upd (g9_needed bm) (2 : Int32).toNatClampNeg (((g9_needed bm) (2 : Int32).toNatClampNeg) ||| ((g9_body bm) x1.toNatClampNeg))) (3 : Int32).toNatClampNeg) ||| ((g9_except bm) x1.toNatClampNeg))))]) S hK hP hD hS 0 rfl (zin_k (n := 3) rfl (by decide) (by decide)) (f := (upd (g9_needed bm) (2 : Int32).toNatClampNeg (((g9_needed bm) (2 : Int32).toNatClampNeg) ||| ((g9_body bm) x1.toNatClampNeg)))) (gg9_needed _ (upd (g9_needed bm) (2 : Int32).toNatClampNeg (((g9_needed bm) (2 : Int32).toNatClampNeg) ||| ((g9_body bm) x1.toNatClampNeg)))) dX9_force_29 rfl (fun H locs hP hD hS => ?_)
  rw [show (s9_needed (s9_needed bm (upd (g9_needed bm) (2 : Int32).toNatClampNeg (((g9_needed bm) (2 : Int32).toNatClampNeg) ||| ((g9_body bm) x1.toNatClampNeg)))) (upd (upd (g9_needed bm) (2 : Int32).toNatClampNeg (((g9_needed bm) (2 : Int32).toNatClampNeg) ||| ((g9_body bm) x1.toNatClampNeg))) (3 : Int32).toNatClampNeg (((upd (g9_needed bm) (2 : Int32).toNatClampNeg (((g9_needed bm) (2 : Int32).toNatClampNeg) ||| ((g9_body bm) x1.toNatClampNeg))) (3 : Int32).toNatClampNeg) ||| ((g9_except bm) x1.toNatClampNeg)))) = (s9_needed bm (upd (upd (g9_needed bm) (2 : Int32).toNatClampNeg (((g9_needed bm) (2 : Int32).toNatClampNeg) ||| ((g9_body bm) x1.toNatClampNeg))) (3 : Int32).toNatClampNeg (((upd (g9_needed bm) (2 : Int32).toNatClampNeg (((g9_needed bm) (2 : Int32).toNatClampNeg) ||| ((g9_body bm) x1.toNatClampNeg))) (3 : Int32).toNatClampNeg) ||| ((g9_except bm) x1.toNatClampNeg)))) from (ss9_needed _ (upd (g9_needed bm) (2 : Int32).toNatClampNeg (((g9_needed bm) (2 : Int32).toNatClampNeg) ||| ((g9_body bm) x1.toNatClampNeg))) (upd (upd (g9_needed bm) (2 : Int32).toNatClampNeg (((g9_needed bm) (2 : Int32).toNatClampNeg) ||| ((g9_body bm) x1.toNatClampNeg))) (3 : Int32).toNatClampNeg (((upd (g9_needed bm) (2 : Int32).toNatClampNeg (((g9_needed bm) (2 : Int32).toNatClampNeg) ||| ((g9_body bm) x1.toNatClampNeg))) (3 : Int32).toNatClampNeg) ||| ((g9_except bm) x1.toNatClampNeg))))] at hP hD
  exact hret _ _ _ _ _ (by subst hE; rfl) hP hS dX9_force_30

theorem in_X9_fall_9 : ∀ w ∈ u_ws RX9 TX9 40, w ∈ wsX9_fall := by decide +kernel
def rmX9_fall : Room := { frames := 2, cells := 0, slots := 0, locals := 41 }
set_option maxHeartbeats 4000000 in
set_option maxRecDepth 100000 in
theorem c_X9_fall (l : Launch) (G : zG) (am : Nat → Nat) (bm : S9) (x1 : Int32) (hx1_16 : vp_in x1 16) (T : (Nat → Int32)) (hT : FX9_fall (g9_body bm) (g9_except bm) (g9_known bm) (g9_needed bm) x1 = T) : zV l yX9_fall wsX9_fall rmX9_fall G [.ref (am 0), .int x1] [w9 G am bm] [w9 G am (s9_needed bm T)] := by
  refine zV.mk (cc := cX9_fall) (maxL := 3) (by decide +kernel) rfl (Nat.le_of_ble_eq_true rfl) (zfl_cons (wf9 _ _ _ _) rfl) ?_
  intro p e s m args below meth c Q A ls S hK hD hA hP hl hret
  have hx := S.1
  have hb := S.2.1
  have hS : va_S A s.heap s.heap [] := va_S.rf
  have hl : lv_has ls 3 [(0, .ref (am 0)), (1, .int x1)] := hl
  have hE := hT.symm.trans (FX9_fall.eq_1 _ _ _ _ _)
  refine lv_aload_n hx hb dX9_fall_0 rfl (lv_at hl 0 rfl) ?_
  refine zg9_body S in_X9_fall_9 hK hP 0 rfl (List.mem_of_getElem? (i := 1) rfl) dX9_fall_1 ?_
  refine lv_iload_n hx hb dX9_fall_4 rfl (lv_at hl 1 rfl) ?_
  refine zl9_body S hK hP 0 rfl hx1_16 (f := (g9_body bm)) rfl dX9_fall_5 ?_
  refine lv_aload_n hx hb dX9_fall_6 rfl (lv_at hl 0 rfl) ?_
  refine zg9_known S in_X9_fall_9 hK hP 0 rfl (List.mem_of_getElem? (i := 2) rfl) dX9_fall_7 ?_
  refine lv_iconst (v := 3) hx hb dX9_fall_10 (by decide) ?_
  refine zl9_known S hK hP 0 rfl (zin_k (n := 3) rfl (by decide) (by decide)) (f := (g9_known bm)) rfl dX9_fall_11 ?_
  refine lv_iand hx hb dX9_fall_12 ?_
  refine lv_istore_n (lv' := [(2, .int (((g9_body bm) x1.toNatClampNeg) &&& ((g9_known bm) (3 : Int32).toNatClampNeg))), (0, .ref (am 0)), (1, .int x1)]) hx hb dX9_fall_13 rfl hl (by decide) rfl (fun ls hl => ?_)
  refine lv_iload_n hx hb dX9_fall_14 rfl (lv_at hl 0 rfl) ?_
  refine lv_if_eq (tgt := 36) hx hb dX9_fall_15 (by decide) (fun c15 => ?_) (fun c15 => ?_)
  · have hE := hE.trans (if_pos c15)
    refine lv_aload_n hx hb dX9_fall_36 rfl (lv_at hl 1 rfl) ?_
    refine zg9_needed S in_X9_fall_9 hK hP 0 rfl (List.mem_of_getElem? (i := 3) rfl) dX9_fall_37 ?_
    refine lv_iconst (v := 2) hx hb dX9_fall_40 (by decide) ?_
    refine lv_dup2_11 hx hb dX9_fall_41 rfl rfl ?_
    refine zl9_needed S hK hP 0 rfl (zin_k (n := 2) rfl (by decide) (by decide)) (f := (g9_needed bm)) rfl dX9_fall_42 ?_
    refine lv_iconst (v := 1) hx hb dX9_fall_43 (by decide) ?_
    refine lv_aload_n hx hb dX9_fall_44 rfl (lv_at hl 1 rfl) ?_
    refine zg9_except S in_X9_fall_9 hK hP 0 rfl (List.mem_of_getElem? (i := 4) rfl) dX9_fall_45 ?_
    refine lv_iload_n hx hb dX9_fall_48 rfl (lv_at hl 2 rfl) ?_
    refine zl9_except S hK hP 0 rfl hx1_16 (f := (g9_except bm)) rfl dX9_fall_49 ?_
    refine lv_aload_n hx hb dX9_fall_50 rfl (lv_at hl 1 rfl) ?_
    refine zg9_known S in_X9_fall_9 hK hP 0 rfl (List.mem_of_getElem? (i := 2) rfl) dX9_fall_51 ?_
    refine lv_iconst (v := 2) hx hb dX9_fall_54 (by decide) ?_
    refine zl9_known S hK hP 0 rfl (zin_k (n := 2) rfl (by decide) (by decide)) (f := (g9_known bm)) rfl dX9_fall_55 ?_
    refine lv_iand hx hb dX9_fall_56 ?_
    obtain ⟨t57, ht57⟩ : ∃ z, FX9_firstOf (((g9_except bm) x1.toNatClampNeg) &&& ((g9_known bm) (2 : Int32).toNatClampNeg)) = z := ⟨_, rfl⟩
    have hE := hE.trans (bnd_eq ht57)
    have hc := c_X9_firstOf l G (((g9_except bm) x1.toNatClampNeg) &&& ((g9_known bm) (2 : Int32).toNatClampNeg)) _ ht57
    refine zgoR (va_runS (As := [.int (((g9_except bm) x1.toNatClampNeg) &&& ((g9_known bm) (2 : Int32).toNatClampNeg))]) (rest := [.int 1, .int ((g9_needed bm) (2 : Int32).toNatClampNeg), .int 2, .ref (am 20)]) S (hc _) (va_cwS 1 S.2.2.2.2 gX9_fall_X9_firstOf rfl rfl rfl (by decide +kernel) ⟨Nat.le_of_ble_eq_true rfl, Nat.le_of_ble_eq_true rfl⟩) (zpS hK hP hD (is := []) rfl rfl) rfl rfl hl.1 rfl (lv_room (Nat.le_of_ble_eq_true rfl)) dX9_fall_57 ⟨Nat.zero_le _, Nat.zero_le _⟩) (fun hn57 => ?_)
    refine lv_ishl hx hb dX9_fall_60 ?_
    refine lv_ior hx hb dX9_fall_61 ?_
    refine zs9_needed (bs1 := [w9 G am (s9_needed bm (upd (g9_needed bm) (2 : Int32).toNatClampNeg (((g9_needed bm) (2 : Int32).toNatClampNeg) ||| (1 <<< (t57 &&& 31)))))]) S hK hP hD hS 0 rfl (zin_k (n := 2) rfl (by decide) (by decide)) (f := (g9_needed bm)) rfl dX9_fall_62 rfl (fun H locs hP hD hS => ?_)
    exact hret _ _ _ _ _ (by subst hE; rfl) hP hS dX9_fall_63
  · have hE := hE.trans (if_neg c15)
    refine lv_aload_n hx hb dX9_fall_18 rfl (lv_at hl 1 rfl) ?_
    refine zg9_needed S in_X9_fall_9 hK hP 0 rfl (List.mem_of_getElem? (i := 3) rfl) dX9_fall_19 ?_
    refine lv_iconst (v := 3) hx hb dX9_fall_22 (by decide) ?_
    refine lv_dup2_11 hx hb dX9_fall_23 rfl rfl ?_
    refine zl9_needed S hK hP 0 rfl (zin_k (n := 3) rfl (by decide) (by decide)) (f := (g9_needed bm)) rfl dX9_fall_24 ?_
    refine lv_iconst (v := 1) hx hb dX9_fall_25 (by decide) ?_
    refine lv_iload_n hx hb dX9_fall_26 rfl (lv_at hl 0 rfl) ?_
    obtain ⟨t27, ht27⟩ : ∃ z, FX9_firstOf (((g9_body bm) x1.toNatClampNeg) &&& ((g9_known bm) (3 : Int32).toNatClampNeg)) = z := ⟨_, rfl⟩
    have hE := hE.trans (bnd_eq ht27)
    have hc := c_X9_firstOf l G (((g9_body bm) x1.toNatClampNeg) &&& ((g9_known bm) (3 : Int32).toNatClampNeg)) _ ht27
    refine zgoR (va_runS (As := [.int (((g9_body bm) x1.toNatClampNeg) &&& ((g9_known bm) (3 : Int32).toNatClampNeg))]) (rest := [.int 1, .int ((g9_needed bm) (3 : Int32).toNatClampNeg), .int 3, .ref (am 20)]) S (hc _) (va_cwS 1 S.2.2.2.2 gX9_fall_X9_firstOf rfl rfl rfl (by decide +kernel) ⟨Nat.le_of_ble_eq_true rfl, Nat.le_of_ble_eq_true rfl⟩) (zpS hK hP hD (is := []) rfl rfl) rfl rfl hl.1 rfl (lv_room (Nat.le_of_ble_eq_true rfl)) dX9_fall_27 ⟨Nat.zero_le _, Nat.zero_le _⟩) (fun hn27 => ?_)
    refine lv_ishl hx hb dX9_fall_30 ?_
    refine lv_ior hx hb dX9_fall_31 ?_
    refine zs9_needed (bs1 := [w9 G am (s9_needed bm (upd (g9_needed bm) (3 : Int32).toNatClampNeg (((g9_needed bm) (3 : Int32).toNatClampNeg) ||| (1 <<< (t27 &&& 31)))))]) S hK hP hD hS 0 rfl (zin_k (n := 3) rfl (by decide) (by decide)) (f := (g9_needed bm)) rfl dX9_fall_32 rfl (fun H locs hP hD hS => ?_)
    refine lv_goto (tgt := 63) hx hb dX9_fall_33 (by decide) ?_
    exact hret _ _ _ _ _ (by subst hE; rfl) hP hS dX9_fall_63

theorem zhind_2 {m_kind m_head m_body m_except m_strength m_off m_over m_known : Nat → Int32} {x1 kt : Int32} {N : Nat} (hN : N ≤ 16) (hk : kt < 0) : ∀ (n i : Nat), i ≤ N → ∀ r : Int32, FX9_hindering_2 (nI N) m_kind m_head m_body m_except m_strength m_off m_over m_known x1 kt n (nI i) = r → ¬ r < 0 → vp_in r 16
  | 0, i, hi, r, e, h => absurd (by rw [← e]; exact hk) h
  | n + 1, i, hi, r, e, h => by
    rw [FX9_hindering_2] at e
    by_cases c : nI N ≤ nI i
    · rw [if_pos c] at e
      exact absurd (by rw [← e]; exact hk) h
    · rw [if_neg c] at e
      rw [nI_leI (by omega) (by omega)] at c
      simp only [bnd, nI_1] at e
      repeat' split at e
      all_goals first | exact zhind_2 hN hk n (i + 1) (by omega) r e h | (subst e; exact vp_in_nI (by omega) (by omega))
theorem zhind {m_rules : Int32} {m_kind m_head m_body m_except m_strength m_off m_over m_known : Nat → Int32} {x1 : Int32} (hz : ∃ N : Nat, N ≤ 16 ∧ m_rules = nI N) (h : ¬ FX9_hindering m_rules m_kind m_head m_body m_except m_strength m_off m_over m_known x1 < 0) : vp_in (FX9_hindering m_rules m_kind m_head m_body m_except m_strength m_off m_over m_known x1) 16 := by
  obtain ⟨N, hN, rfl⟩ := hz
  exact zhind_2 hN (show (-1 : Int32) < 0 by decide) 17 0 (Nat.zero_le N) _ rfl h

theorem in_X9_needsLikely_9 : ∀ w ∈ u_ws RX9 TX9 40, w ∈ wsX9_needsLikely := by decide +kernel
def rmX9_needsLikely : Room := { frames := 3, cells := 0, slots := 0, locals := 67 }
set_option maxHeartbeats 4000000 in
set_option maxRecDepth 100000 in
theorem c_X9_needsLikely (l : Launch) (G : zG) (am : Nat → Nat) (bm : S9) (x1 : Int32) (hnl : zNL (g9_rules bm) (g9_kind bm) (g9_head bm) (g9_body bm) (g9_except bm) (g9_strength bm) (g9_off bm) (g9_over bm) (g9_known bm) x1) (hz_m_rules : ∃ N : Nat, N ≤ 16 ∧ g9_rules bm = nI N) (T : (Nat → Int32)) (hT : FX9_needsLikely (g9_rules bm) (g9_kind bm) (g9_head bm) (g9_body bm) (g9_except bm) (g9_strength bm) (g9_off bm) (g9_over bm) (g9_known bm) (g9_needed bm) x1 = T) : zV l yX9_needsLikely wsX9_needsLikely rmX9_needsLikely G [.ref (am 0), .int x1] [w9 G am bm] [w9 G am (s9_needed bm T)] := by
  refine zV.mk (cc := cX9_needsLikely) (maxL := 3) (by decide +kernel) rfl (Nat.le_of_ble_eq_true rfl) (zfl_cons (wf9 _ _ _ _) rfl) ?_
  intro p e s m args below meth c Q A ls S hK hD hA hP hl hret
  have hx := S.1
  have hb := S.2.1
  have hS : va_S A s.heap s.heap [] := va_S.rf
  have hl : lv_has ls 3 [(0, .ref (am 0)), (1, .int x1)] := hl
  obtain ⟨N_m_rules, hN_m_rules, hs_m_rules⟩ := id hz_m_rules
  have hE := hT.symm.trans (FX9_needsLikely.eq_1 _ _ _ _ _ _ _ _ _ _ _)
  refine lv_aload_n hx hb dX9_needsLikely_0 rfl (lv_at hl 0 rfl) ?_
  refine zg9_known S in_X9_needsLikely_9 hK hP 0 rfl (List.mem_of_getElem? (i := 1) rfl) dX9_needsLikely_1 ?_
  refine lv_iconst (v := 0) hx hb dX9_needsLikely_4 (by decide) ?_
  refine zl9_known S hK hP 0 rfl (zin_k (n := 0) rfl (by decide) (by decide)) (f := (g9_known bm)) rfl dX9_needsLikely_5 ?_
  refine lv_iload_n hx hb dX9_needsLikely_6 rfl (lv_at hl 1 rfl) ?_
  obtain ⟨t7, ht7⟩ : ∃ z, FX9_has ((g9_known bm) (0 : Int32).toNatClampNeg) x1 = z := ⟨_, rfl⟩
  have hE := hE.trans (bnd_eq ht7)
  have hc := c_X9_has l G ((g9_known bm) (0 : Int32).toNatClampNeg) x1 _ ht7
  refine zgoR (va_runS (As := [.int ((g9_known bm) (0 : Int32).toNatClampNeg), .int x1]) (rest := []) S (hc _) (va_cwS 2 S.2.2.2.2 gX9_needsLikely_X9_has rfl rfl rfl (by decide +kernel) ⟨Nat.le_of_ble_eq_true rfl, Nat.le_of_ble_eq_true rfl⟩) (zpS hK hP hD (is := []) rfl rfl) rfl rfl hl.1 rfl (lv_room (Nat.le_of_ble_eq_true rfl)) dX9_needsLikely_7 ⟨Nat.zero_le _, Nat.zero_le _⟩) (fun hn7 => ?_)
  refine lv_if_eq (tgt := 26) hx hb dX9_needsLikely_10 (by decide) (fun c10 => ?_) (fun c10 => ?_)
  · have hE := hE.trans (if_pos c10)
    refine lv_aload_n hx hb dX9_needsLikely_26 rfl (lv_at hl 0 rfl) ?_
    refine lv_aload_n hx hb dX9_needsLikely_27 rfl (lv_at hl 0 rfl) ?_
    refine lv_iload_n hx hb dX9_needsLikely_28 rfl (lv_at hl 1 rfl) ?_
    refine lv_iconst (v := (-1)) hx hb dX9_needsLikely_29 (by decide) ?_
    obtain ⟨t30, ht30⟩ : ∃ z, FX9_forcing (g9_rules bm) (g9_kind bm) (g9_head bm) (g9_body bm) (g9_except bm) (g9_strength bm) (g9_off bm) (g9_over bm) (g9_known bm) x1 (-1) = z := ⟨_, rfl⟩
    have hE := hE.trans (bnd_eq ht30)
    have hc := c_X9_forcing l G am bm x1 (-1) (fun h => absurd (by decide) h) (hz_m_rules) _ ht30
    refine zgoR (va_runV (As := [.int x1, .int (-1)]) (rest := [.ref (am 0)]) S (hc _) (cwV 2 S.2.2.2.2 gX9_needsLikely_X9_forcing rfl rfl rfl (by decide +kernel) ⟨Nat.le_of_ble_eq_true rfl, Nat.le_of_ble_eq_true rfl⟩) (zpV hK hP hD (is := [0]) rfl rfl 0 rfl rfl (ci := 9) rfl) rfl rfl hl.1 rfl (lv_room (Nat.le_of_ble_eq_true rfl)) dX9_needsLikely_30 ⟨Nat.zero_le _, Nat.zero_le _⟩) (fun hn30 => ?_)
    obtain ⟨t33, ht33⟩ : ∃ z, FX9_force (g9_body bm) (g9_except bm) (g9_needed bm) t30 = z := ⟨_, rfl⟩
    have hE := hE.trans (bnd_eq ht33)
    have hc := c_X9_force l G am bm t30 (by rw [← ht30]; exact (hnl (by rw [ht7]; exact c10)).1) _ ht33
    refine zgoV (bs' := [w9 G am (s9_needed bm t33)]) hc [0] rfl rfl rfl hP hD hS hA (va_runV (As := [.int t30]) (rest := []) S (hc.2 _) (cwV 1 S.2.2.2.2 gX9_needsLikely_X9_force rfl rfl rfl (by decide +kernel) ⟨Nat.le_of_ble_eq_true rfl, Nat.le_of_ble_eq_true rfl⟩) (zpV hK hP hD (is := [0]) rfl rfl 0 rfl rfl (ci := 9) rfl) rfl rfl hl.1 rfl (lv_room (Nat.le_of_ble_eq_true rfl)) dX9_needsLikely_33 ⟨Nat.zero_le _, Nat.zero_le _⟩) (fun H locs hP hD hS => ?_)
    refine lv_aload_n hx hb dX9_needsLikely_36 rfl (lv_at hl 0 rfl) ?_
    refine zg9_needed S in_X9_needsLikely_9 hK hP 0 rfl (List.mem_of_getElem? (i := 2) rfl) dX9_needsLikely_37 ?_
    refine lv_iconst (v := 1) hx hb dX9_needsLikely_40 (by decide) ?_
    refine lv_dup2_11 hx hb dX9_needsLikely_41 rfl rfl ?_
    refine zl9_needed S hK hP 0 rfl (zin_k (n := 1) rfl (by decide) (by decide)) (f := t33) (gg9_needed _ t33) dX9_needsLikely_42 ?_
    refine lv_iconst (v := 1) hx hb dX9_needsLikely_43 (by decide) ?_
    refine lv_iload_n hx hb dX9_needsLikely_44 rfl (lv_at hl 1 rfl) ?_
    obtain ⟨t45, ht45⟩ : ∃ z, FX9_otherOf x1 = z := ⟨_, rfl⟩
    have hE := hE.trans (bnd_eq ht45)
    have hc := c_X9_otherOf l G x1 _ ht45
    refine zgoR (va_runS (As := [.int x1]) (rest := [.int 1, .int (t33 (1 : Int32).toNatClampNeg), .int 1, .ref (am 20)]) S (hc _) (va_cwS 1 S.2.2.2.2 gX9_needsLikely_X9_otherOf rfl rfl rfl (by decide +kernel) ⟨Nat.le_of_ble_eq_true rfl, Nat.le_of_ble_eq_true rfl⟩) (zpS hK hP hD (is := []) rfl rfl) rfl rfl hl.1 rfl (lv_room (Nat.le_of_ble_eq_true rfl)) dX9_needsLikely_45 ⟨Nat.zero_le _, Nat.zero_le _⟩) (fun hn45 => ?_)
    refine lv_ishl hx hb dX9_needsLikely_48 ?_
    refine lv_ior hx hb dX9_needsLikely_49 ?_
    refine zs9_needed (bs1 := [w9 G am (s9_needed (s9_needed bm t33) (upd t33 (1 : Int32).toNatClampNeg ((t33 (1 : Int32).toNatClampNeg) ||| (1 <<< (t45 &&& 31)))))]) S hK hP hD hS 0 rfl (zin_k (n := 1) rfl (by decide) (by decide)) (f := t33) (gg9_needed _ t33) dX9_needsLikely_50 rfl (fun H locs hP hD hS => ?_)
    refine lv_iconst (v := 0) hx hb dX9_needsLikely_51 (by decide) ?_
    have hB108 : ∀ (m_needed_108 : Nat → Int32) (H : Heap) (locs : List Loc) (ls : Array Slot), T = FX9_needsLikely_108 (g9_rules bm) (g9_kind bm) (g9_head bm) (g9_body bm) (g9_except bm) (g9_strength bm) (g9_off bm) (g9_over bm) (g9_known bm) (g9_needed bm) x1 m_needed_108 → zP G [w9 G am (s9_needed bm m_needed_108)] H → zD A [w9 G am (s9_needed bm m_needed_108)] → va_S A s.heap H locs → lv_has ls 3 [] → W p l e rmX9_needsLikely s m args below meth c H locs 0 0 Q (F0 m 108 ls []) := by
      intro m_needed_108 H locs ls hE hP hD hS hl
      have hE := hE.trans (FX9_needsLikely_108.eq_1 _ _ _ _ _ _ _ _ _ _ _ _)
      exact hret _ _ _ _ _ (by subst hE; rfl) hP hS dX9_needsLikely_108
    have hB53 : ∀ (n53 : Nat) (i2_53 : Nat) (m_needed_53 : Nat → Int32) (H : Heap) (locs : List Loc) (ls : Array Slot), (i2_53 ≤ N_m_rules) → 17 ≤ i2_53 + n53 → T = FX9_needsLikely_53 (g9_rules bm) (g9_kind bm) (g9_head bm) (g9_body bm) (g9_except bm) (g9_strength bm) (g9_off bm) (g9_over bm) (g9_known bm) (g9_needed bm) x1 (FX9_needsLikely_108 (g9_rules bm) (g9_kind bm) (g9_head bm) (g9_body bm) (g9_except bm) (g9_strength bm) (g9_off bm) (g9_over bm) (g9_known bm) (g9_needed bm) x1) n53 (nI i2_53) m_needed_53 → zP G [w9 G am (s9_needed bm m_needed_53)] H → zD A [w9 G am (s9_needed bm m_needed_53)] → va_S A s.heap H locs → lv_has ls 3 [(0, .ref (am 0)), (1, .int x1), (2, .int (nI i2_53))] → W p l e rmX9_needsLikely s m args below meth c H locs 0 0 Q (F0 m 53 ls []) := by
      intro n53
      induction n53 with
      | zero =>
        intro i2_53 m_needed_53 H locs ls hi2_53 hn hE hP hD hS hl
        exact absurd hn (by omega)
      | succ n53 ih53 =>
        intro i2_53 m_needed_53 H locs ls hi2_53 hn hE hP hD hS hl
        have hE := hE.trans (FX9_needsLikely_53.eq_2 _ _ _ _ _ _ _ _ _ _ _ _ _ _ _)
        refine lv_iload_n hx hb dX9_needsLikely_53 rfl (lv_at hl 2 rfl) ?_
        refine lv_aload_n hx hb dX9_needsLikely_54 rfl (lv_at hl 0 rfl) ?_
        refine zg9_rules S in_X9_needsLikely_9 hK hP 0 rfl (List.mem_of_getElem? (i := 3) rfl) (v := (g9_rules bm)) (gs9_rules_needed _ m_needed_53) dX9_needsLikely_55 ?_
        refine lv_icmp_ge (tgt := 108) hx hb dX9_needsLikely_58 (by decide) (fun c58 => ?_) (fun c58 => ?_)
        · have hE := hE.trans (if_pos c58)
          exact hB108 m_needed_53 _ _ _ hE hP hD hS (lv_sub hl [] rfl)
        · have hE := hE.trans (if_neg c58)
          have hl2_53 : i2_53 < N_m_rules := zlt hs_m_rules (by omega) (by omega) c58
          refine lv_aload_n hx hb dX9_needsLikely_61 rfl (lv_at hl 0 rfl) ?_
          refine lv_iload_n hx hb dX9_needsLikely_62 rfl (lv_at hl 2 rfl) ?_
          refine lv_iload_n hx hb dX9_needsLikely_63 rfl (lv_at hl 1 rfl) ?_
          obtain ⟨t64, ht64⟩ : ∃ z, FX9_otherOf x1 = z := ⟨_, rfl⟩
          have hE := hE.trans (bnd_eq ht64)
          have hc := c_X9_otherOf l G x1 _ ht64
          refine zgoR (va_runS (As := [.int x1]) (rest := [.int (nI i2_53), .ref (am 0)]) S (hc _) (va_cwS 1 S.2.2.2.2 gX9_needsLikely_X9_otherOf rfl rfl rfl (by decide +kernel) ⟨Nat.le_of_ble_eq_true rfl, Nat.le_of_ble_eq_true rfl⟩) (zpS hK hP hD (is := []) rfl rfl) rfl rfl hl.1 rfl (lv_room (Nat.le_of_ble_eq_true rfl)) dX9_needsLikely_64 ⟨Nat.zero_le _, Nat.zero_le _⟩) (fun hn64 => ?_)
          obtain ⟨t67, ht67⟩ : ∃ z, FX9_isFor (g9_head bm) (g9_off bm) (nI i2_53) t64 = z := ⟨_, rfl⟩
          have hE := hE.trans (bnd_eq ht67)
          have hc := c_X9_isFor l G am (s9_needed bm m_needed_53) (nI i2_53) t64 ((vp_in_nI (by omega) (by omega))) _ (by simp only [gs9_head_needed, gs9_off_needed]; exact ht67)
          refine zgoR (va_runV (As := [.int (nI i2_53), .int t64]) (rest := []) S (hc _) (cwV 2 S.2.2.2.2 gX9_needsLikely_X9_isFor rfl rfl rfl (by decide +kernel) ⟨Nat.le_of_ble_eq_true rfl, Nat.le_of_ble_eq_true rfl⟩) (zpV hK hP hD (is := [0]) rfl rfl 0 rfl rfl (ci := 9) rfl) rfl rfl hl.1 rfl (lv_room (Nat.le_of_ble_eq_true rfl)) dX9_needsLikely_67 ⟨Nat.zero_le _, Nat.zero_le _⟩) (fun hn67 => ?_)
          refine lv_if_ne (tgt := 76) hx hb dX9_needsLikely_70 (by decide) (fun c70 => ?_) (fun c70 => ?_)
          · have hE := hE.trans (if_neg c70)
            refine lv_aload_n hx hb dX9_needsLikely_76 rfl (lv_at hl 0 rfl) ?_
            refine lv_iload_n hx hb dX9_needsLikely_77 rfl (lv_at hl 2 rfl) ?_
            obtain ⟨t78, ht78⟩ : ∃ z, FX9_falls (g9_body bm) (g9_except bm) (g9_known bm) (nI i2_53) = z := ⟨_, rfl⟩
            have hE := hE.trans (bnd_eq ht78)
            have hc := c_X9_falls l G am (s9_needed bm m_needed_53) (nI i2_53) ((vp_in_nI (by omega) (by omega))) _ (by simp only [gs9_body_needed, gs9_except_needed, gs9_known_needed]; exact ht78)
            refine zgoR (va_runV (As := [.int (nI i2_53)]) (rest := []) S (hc _) (cwV 1 S.2.2.2.2 gX9_needsLikely_X9_falls rfl rfl rfl (by decide +kernel) ⟨Nat.le_of_ble_eq_true rfl, Nat.le_of_ble_eq_true rfl⟩) (zpV hK hP hD (is := [0]) rfl rfl 0 rfl rfl (ci := 9) rfl) rfl rfl hl.1 rfl (lv_room (Nat.le_of_ble_eq_true rfl)) dX9_needsLikely_78 ⟨Nat.zero_le _, Nat.zero_le _⟩) (fun hn78 => ?_)
            refine lv_if_eq (tgt := 92) hx hb dX9_needsLikely_81 (by decide) (fun c81 => ?_) (fun c81 => ?_)
            · have hE := hE.trans (if_pos c81)
              refine lv_aload_n hx hb dX9_needsLikely_92 rfl (lv_at hl 0 rfl) ?_
              refine lv_aload_n hx hb dX9_needsLikely_93 rfl (lv_at hl 0 rfl) ?_
              refine lv_iload_n hx hb dX9_needsLikely_94 rfl (lv_at hl 1 rfl) ?_
              refine lv_iload_n hx hb dX9_needsLikely_95 rfl (lv_at hl 2 rfl) ?_
              obtain ⟨t96, ht96⟩ : ∃ z, FX9_forcing (g9_rules bm) (g9_kind bm) (g9_head bm) (g9_body bm) (g9_except bm) (g9_strength bm) (g9_off bm) (g9_over bm) (g9_known bm) x1 (nI i2_53) = z := ⟨_, rfl⟩
              have hE := hE.trans (bnd_eq ht96)
              have hc := c_X9_forcing l G am (s9_needed bm m_needed_53) x1 (nI i2_53) (fun _ => vp_in_nI (by omega) (by omega)) (hz_m_rules) _ (by simp only [gs9_rules_needed, gs9_kind_needed, gs9_head_needed, gs9_body_needed, gs9_except_needed, gs9_strength_needed, gs9_off_needed, gs9_over_needed, gs9_known_needed]; exact ht96)
              refine zgoR (va_runV (As := [.int x1, .int (nI i2_53)]) (rest := [.ref (am 0)]) S (hc _) (cwV 2 S.2.2.2.2 gX9_needsLikely_X9_forcing rfl rfl rfl (by decide +kernel) ⟨Nat.le_of_ble_eq_true rfl, Nat.le_of_ble_eq_true rfl⟩) (zpV hK hP hD (is := [0]) rfl rfl 0 rfl rfl (ci := 9) rfl) rfl rfl hl.1 rfl (lv_room (Nat.le_of_ble_eq_true rfl)) dX9_needsLikely_96 ⟨Nat.zero_le _, Nat.zero_le _⟩) (fun hn96 => ?_)
              obtain ⟨t99, ht99⟩ : ∃ z, FX9_force (g9_body bm) (g9_except bm) m_needed_53 t96 = z := ⟨_, rfl⟩
              have hE := hE.trans (bnd_eq ht99)
              have hc := c_X9_force l G am (s9_needed bm m_needed_53) t96 (by rw [← ht96]; exact (hnl (by rw [ht7]; exact c10)).2 _ (by omega) (by rw [hs_m_rules]; exact nI_lt (by omega) (by omega)) (by rw [ht64, ht67]; exact c70) (by rw [ht78]; exact c81)) _ (by simp only [gs9_body_needed, gs9_except_needed, gg9_needed]; exact ht99)
              refine zgoV (bs' := [w9 G am (s9_needed (s9_needed bm m_needed_53) t99)]) hc [0] rfl rfl rfl hP hD hS hA (va_runV (As := [.int t96]) (rest := []) S (hc.2 _) (cwV 1 S.2.2.2.2 gX9_needsLikely_X9_force rfl rfl rfl (by decide +kernel) ⟨Nat.le_of_ble_eq_true rfl, Nat.le_of_ble_eq_true rfl⟩) (zpV hK hP hD (is := [0]) rfl rfl 0 rfl rfl (ci := 9) rfl) rfl rfl hl.1 rfl (lv_room (Nat.le_of_ble_eq_true rfl)) dX9_needsLikely_99 ⟨Nat.zero_le _, Nat.zero_le _⟩) (fun H locs hP hD hS => ?_)
              refine lv_iinc (v := (nI (i2_53 + 1))) (lv' := [(2, .int (nI (i2_53 + 1))), (0, .ref (am 0)), (1, .int x1)]) hx hb dX9_needsLikely_102 hl (k := 2) rfl (nI_1 i2_53) (by decide) rfl (fun ls hl => ?_)
              try rw [nI_1 i2_53] at hE
              refine lv_goto (tgt := 53) hx hb dX9_needsLikely_105 (by decide) ?_
              rw [show (s9_needed (s9_needed bm m_needed_53) t99) = (s9_needed bm t99) from (ss9_needed _ m_needed_53 t99)] at hP hD
              exact ih53 (i2_53 + 1) t99 _ _ _ (by first | assumption | omega) (by omega) hE hP hD hS (lv_sub hl [1, 2, 0] rfl)
            · have hE := hE.trans (if_neg c81)
              refine lv_aload_n hx hb dX9_needsLikely_84 rfl (lv_at hl 0 rfl) ?_
              refine lv_iload_n hx hb dX9_needsLikely_85 rfl (lv_at hl 2 rfl) ?_
              obtain ⟨t86, ht86⟩ : ∃ z, FX9_fall (g9_body bm) (g9_except bm) (g9_known bm) m_needed_53 (nI i2_53) = z := ⟨_, rfl⟩
              have hE := hE.trans (bnd_eq ht86)
              have hc := c_X9_fall l G am (s9_needed bm m_needed_53) (nI i2_53) ((vp_in_nI (by omega) (by omega))) _ (by simp only [gs9_body_needed, gs9_except_needed, gs9_known_needed, gg9_needed]; exact ht86)
              refine zgoV (bs' := [w9 G am (s9_needed (s9_needed bm m_needed_53) t86)]) hc [0] rfl rfl rfl hP hD hS hA (va_runV (As := [.int (nI i2_53)]) (rest := []) S (hc.2 _) (cwV 1 S.2.2.2.2 gX9_needsLikely_X9_fall rfl rfl rfl (by decide +kernel) ⟨Nat.le_of_ble_eq_true rfl, Nat.le_of_ble_eq_true rfl⟩) (zpV hK hP hD (is := [0]) rfl rfl 0 rfl rfl (ci := 9) rfl) rfl rfl hl.1 rfl (lv_room (Nat.le_of_ble_eq_true rfl)) dX9_needsLikely_86 ⟨Nat.zero_le _, Nat.zero_le _⟩) (fun H locs hP hD hS => ?_)
              refine lv_goto (tgt := 102) hx hb dX9_needsLikely_89 (by decide) ?_
              refine lv_iinc (v := (nI (i2_53 + 1))) (lv' := [(2, .int (nI (i2_53 + 1))), (0, .ref (am 0)), (1, .int x1)]) hx hb dX9_needsLikely_102 hl (k := 2) rfl (nI_1 i2_53) (by decide) rfl (fun ls hl => ?_)
              try rw [nI_1 i2_53] at hE
              refine lv_goto (tgt := 53) hx hb dX9_needsLikely_105 (by decide) ?_
              rw [show (s9_needed (s9_needed bm m_needed_53) t86) = (s9_needed bm t86) from (ss9_needed _ m_needed_53 t86)] at hP hD
              exact ih53 (i2_53 + 1) t86 _ _ _ (by first | assumption | omega) (by omega) hE hP hD hS (lv_sub hl [1, 2, 0] rfl)
          · have hE := hE.trans (if_pos c70)
            refine lv_goto (tgt := 102) hx hb dX9_needsLikely_73 (by decide) ?_
            refine lv_iinc (v := (nI (i2_53 + 1))) (lv' := [(2, .int (nI (i2_53 + 1))), (0, .ref (am 0)), (1, .int x1)]) hx hb dX9_needsLikely_102 hl (k := 2) rfl (nI_1 i2_53) (by decide) rfl (fun ls hl => ?_)
            try rw [nI_1 i2_53] at hE
            refine lv_goto (tgt := 53) hx hb dX9_needsLikely_105 (by decide) ?_
            exact ih53 (i2_53 + 1) m_needed_53 _ _ _ (by first | assumption | omega) (by omega) hE hP hD hS (lv_sub hl [1, 2, 0] rfl)
    refine lv_istore_n (lv' := [(2, .int 0), (0, .ref (am 0)), (1, .int x1)]) hx hb dX9_needsLikely_52 rfl hl (by decide) rfl (fun ls hl => ?_)
    rw [show (s9_needed (s9_needed bm t33) (upd t33 (1 : Int32).toNatClampNeg ((t33 (1 : Int32).toNatClampNeg) ||| (1 <<< (t45 &&& 31))))) = (s9_needed bm (upd t33 (1 : Int32).toNatClampNeg ((t33 (1 : Int32).toNatClampNeg) ||| (1 <<< (t45 &&& 31))))) from (ss9_needed _ t33 (upd t33 (1 : Int32).toNatClampNeg ((t33 (1 : Int32).toNatClampNeg) ||| (1 <<< (t45 &&& 31)))))] at hP hD
    exact hB53 17 0 (upd t33 (1 : Int32).toNatClampNeg ((t33 (1 : Int32).toNatClampNeg) ||| (1 <<< (t45 &&& 31)))) _ _ _ (by first | assumption | omega) (by omega) hE hP hD hS (lv_sub hl [1, 2, 0] rfl)
  · have hE := hE.trans (if_neg c10)
    refine lv_aload_n hx hb dX9_needsLikely_13 rfl (lv_at hl 0 rfl) ?_
    refine zg9_needed S in_X9_needsLikely_9 hK hP 0 rfl (List.mem_of_getElem? (i := 2) rfl) dX9_needsLikely_14 ?_
    refine lv_iconst (v := 0) hx hb dX9_needsLikely_17 (by decide) ?_
    refine lv_dup2_11 hx hb dX9_needsLikely_18 rfl rfl ?_
    refine zl9_needed S hK hP 0 rfl (zin_k (n := 0) rfl (by decide) (by decide)) (f := (g9_needed bm)) rfl dX9_needsLikely_19 ?_
    refine lv_iconst (v := 1) hx hb dX9_needsLikely_20 (by decide) ?_
    refine lv_iload_n hx hb dX9_needsLikely_21 rfl (lv_at hl 1 rfl) ?_
    refine lv_ishl hx hb dX9_needsLikely_22 ?_
    refine lv_ior hx hb dX9_needsLikely_23 ?_
    refine zs9_needed (bs1 := [w9 G am (s9_needed bm (upd (g9_needed bm) (0 : Int32).toNatClampNeg (((g9_needed bm) (0 : Int32).toNatClampNeg) ||| (1 <<< (x1 &&& 31)))))]) S hK hP hD hS 0 rfl (zin_k (n := 0) rfl (by decide) (by decide)) (f := (g9_needed bm)) rfl dX9_needsLikely_24 rfl (fun H locs hP hD hS => ?_)
    exact hret _ _ _ _ _ (by subst hE; rfl) hP hS dX9_needsLikely_25

theorem in_X9_needsUnlikely_9 : ∀ w ∈ u_ws RX9 TX9 40, w ∈ wsX9_needsUnlikely := by decide +kernel
def rmX9_needsUnlikely : Room := { frames := 4, cells := 0, slots := 0, locals := 89 }
set_option maxHeartbeats 4000000 in
set_option maxRecDepth 100000 in
theorem c_X9_needsUnlikely (l : Launch) (G : zG) (am : Nat → Nat) (bm : S9) (x1 : Int32) (hz_m_rules : ∃ N : Nat, N ≤ 16 ∧ g9_rules bm = nI N) (T : (Nat → Int32)) (hT : FX9_needsUnlikely (g9_rules bm) (g9_kind bm) (g9_head bm) (g9_body bm) (g9_except bm) (g9_strength bm) (g9_off bm) (g9_over bm) (g9_known bm) (g9_needed bm) x1 = T) : zV l yX9_needsUnlikely wsX9_needsUnlikely rmX9_needsUnlikely G [.ref (am 0), .int x1] [w9 G am bm] [w9 G am (s9_needed bm T)] := by
  refine zV.mk (cc := cX9_needsUnlikely) (maxL := 4) (by decide +kernel) rfl (Nat.le_of_ble_eq_true rfl) (zfl_cons (wf9 _ _ _ _) rfl) ?_
  intro p e s m args below meth c Q A ls S hK hD hA hP hl hret
  have hx := S.1
  have hb := S.2.1
  have hS : va_S A s.heap s.heap [] := va_S.rf
  have hl : lv_has ls 4 [(0, .ref (am 0)), (1, .int x1)] := hl
  obtain ⟨N_m_rules, hN_m_rules, hs_m_rules⟩ := id hz_m_rules
  have hE := hT.symm.trans (FX9_needsUnlikely.eq_1 _ _ _ _ _ _ _ _ _ _ _)
  refine lv_aload_n hx hb dX9_needsUnlikely_0 rfl (lv_at hl 0 rfl) ?_
  refine zg9_needed S in_X9_needsUnlikely_9 hK hP 0 rfl (List.mem_of_getElem? (i := 1) rfl) dX9_needsUnlikely_1 ?_
  refine lv_iconst (v := 1) hx hb dX9_needsUnlikely_4 (by decide) ?_
  refine lv_dup2_11 hx hb dX9_needsUnlikely_5 rfl rfl ?_
  refine zl9_needed S hK hP 0 rfl (zin_k (n := 1) rfl (by decide) (by decide)) (f := (g9_needed bm)) rfl dX9_needsUnlikely_6 ?_
  refine lv_iconst (v := 1) hx hb dX9_needsUnlikely_7 (by decide) ?_
  refine lv_iload_n hx hb dX9_needsUnlikely_8 rfl (lv_at hl 1 rfl) ?_
  refine lv_ishl hx hb dX9_needsUnlikely_9 ?_
  refine lv_ior hx hb dX9_needsUnlikely_10 ?_
  refine zs9_needed (bs1 := [w9 G am (s9_needed bm (upd (g9_needed bm) (1 : Int32).toNatClampNeg (((g9_needed bm) (1 : Int32).toNatClampNeg) ||| (1 <<< (x1 &&& 31)))))]) S hK hP hD hS 0 rfl (zin_k (n := 1) rfl (by decide) (by decide)) (f := (g9_needed bm)) rfl dX9_needsUnlikely_11 rfl (fun H locs hP hD hS => ?_)
  refine lv_aload_n hx hb dX9_needsUnlikely_12 rfl (lv_at hl 0 rfl) ?_
  refine lv_iload_n hx hb dX9_needsUnlikely_13 rfl (lv_at hl 1 rfl) ?_
  obtain ⟨t14, ht14⟩ : ∃ z, FX9_allFall (g9_rules bm) (g9_kind bm) (g9_head bm) (g9_body bm) (g9_except bm) (g9_off bm) (g9_known bm) x1 = z := ⟨_, rfl⟩
  have hE := hE.trans (bnd_eq ht14)
  have hc := c_X9_allFall l G am (s9_needed bm (upd (g9_needed bm) (1 : Int32).toNatClampNeg (((g9_needed bm) (1 : Int32).toNatClampNeg) ||| (1 <<< (x1 &&& 31))))) x1 (hz_m_rules) _ (by simp only [gs9_rules_needed, gs9_kind_needed, gs9_head_needed, gs9_body_needed, gs9_except_needed, gs9_off_needed, gs9_known_needed]; exact ht14)
  refine zgoR (va_runV (As := [.int x1]) (rest := []) S (hc _) (cwV 1 S.2.2.2.2 gX9_needsUnlikely_X9_allFall rfl rfl rfl (by decide +kernel) ⟨Nat.le_of_ble_eq_true rfl, Nat.le_of_ble_eq_true rfl⟩) (zpV hK hP hD (is := [0]) rfl rfl 0 rfl rfl (ci := 9) rfl) rfl rfl hl.1 rfl (lv_room (Nat.le_of_ble_eq_true rfl)) dX9_needsUnlikely_14 ⟨Nat.zero_le _, Nat.zero_le _⟩) (fun hn14 => ?_)
  have hB52 : ∀ (H : Heap) (locs : List Loc) (ls : Array Slot), T = FX9_needsUnlikely_52 (g9_rules bm) (g9_kind bm) (g9_head bm) (g9_body bm) (g9_except bm) (g9_strength bm) (g9_off bm) (g9_over bm) (g9_known bm) (g9_needed bm) x1 (upd (g9_needed bm) (1 : Int32).toNatClampNeg (((g9_needed bm) (1 : Int32).toNatClampNeg) ||| (1 <<< (x1 &&& 31)))) → zP G [w9 G am (s9_needed bm (upd (g9_needed bm) (1 : Int32).toNatClampNeg (((g9_needed bm) (1 : Int32).toNatClampNeg) ||| (1 <<< (x1 &&& 31)))))] H → zD A [w9 G am (s9_needed bm (upd (g9_needed bm) (1 : Int32).toNatClampNeg (((g9_needed bm) (1 : Int32).toNatClampNeg) ||| (1 <<< (x1 &&& 31)))))] → va_S A s.heap H locs → lv_has ls 4 [(0, .ref (am 0)), (1, .int x1)] → W p l e rmX9_needsUnlikely s m args below meth c H locs 0 0 Q (F0 m 52 ls []) := by
    intro H locs ls hE hP hD hS hl
    have hE := hE.trans (FX9_needsUnlikely_52.eq_1 _ _ _ _ _ _ _ _ _ _ _ _)
    refine lv_aload_n hx hb dX9_needsUnlikely_52 rfl (lv_at hl 0 rfl) ?_
    refine lv_iload_n hx hb dX9_needsUnlikely_53 rfl (lv_at hl 1 rfl) ?_
    obtain ⟨t54, ht54⟩ : ∃ z, FX9_allFall (g9_rules bm) (g9_kind bm) (g9_head bm) (g9_body bm) (g9_except bm) (g9_off bm) (g9_known bm) x1 = z := ⟨_, rfl⟩
    have hE := hE.trans (bnd_eq ht54)
    have hc := c_X9_allFall l G am (s9_needed bm (upd (g9_needed bm) (1 : Int32).toNatClampNeg (((g9_needed bm) (1 : Int32).toNatClampNeg) ||| (1 <<< (x1 &&& 31))))) x1 (hz_m_rules) _ (by simp only [gs9_rules_needed, gs9_kind_needed, gs9_head_needed, gs9_body_needed, gs9_except_needed, gs9_off_needed, gs9_known_needed]; exact ht54)
    refine zgoR (va_runV (As := [.int x1]) (rest := []) S (hc _) (cwV 1 S.2.2.2.2 gX9_needsUnlikely_X9_allFall rfl rfl rfl (by decide +kernel) ⟨Nat.le_of_ble_eq_true rfl, Nat.le_of_ble_eq_true rfl⟩) (zpV hK hP hD (is := [0]) rfl rfl 0 rfl rfl (ci := 9) rfl) rfl rfl hl.1 rfl (lv_room (Nat.le_of_ble_eq_true rfl)) dX9_needsUnlikely_54 ⟨Nat.zero_le _, Nat.zero_le _⟩) (fun hn54 => ?_)
    have hB69 : ∀ (k0_69 : Int32) (H : Heap) (locs : List Loc) (ls : Array Slot), (¬ k0_69 < 0 → vp_in k0_69 16) → T = FX9_needsUnlikely_69 (g9_rules bm) (g9_kind bm) (g9_head bm) (g9_body bm) (g9_except bm) (g9_strength bm) (g9_off bm) (g9_over bm) (g9_known bm) (g9_needed bm) x1 k0_69 (upd (g9_needed bm) (1 : Int32).toNatClampNeg (((g9_needed bm) (1 : Int32).toNatClampNeg) ||| (1 <<< (x1 &&& 31)))) → zP G [w9 G am (s9_needed bm (upd (g9_needed bm) (1 : Int32).toNatClampNeg (((g9_needed bm) (1 : Int32).toNatClampNeg) ||| (1 <<< (x1 &&& 31)))))] H → zD A [w9 G am (s9_needed bm (upd (g9_needed bm) (1 : Int32).toNatClampNeg (((g9_needed bm) (1 : Int32).toNatClampNeg) ||| (1 <<< (x1 &&& 31)))))] → va_S A s.heap H locs → lv_has ls 4 [(0, .ref (am 0)), (1, .int x1)] → W p l e rmX9_needsUnlikely s m args below meth c H locs 0 0 Q (F0 m 69 ls [.int k0_69]) := by
      intro k0_69 H locs ls hby hE hP hD hS hl
      have hE := hE.trans (FX9_needsUnlikely_69.eq_1 _ _ _ _ _ _ _ _ _ _ _ _ _)
      refine lv_istore_n (lv' := [(2, .int k0_69), (0, .ref (am 0)), (1, .int x1)]) hx hb dX9_needsUnlikely_69 rfl hl (by decide) rfl (fun ls hl => ?_)
      refine lv_iload_n hx hb dX9_needsUnlikely_70 rfl (lv_at hl 0 rfl) ?_
      refine lv_if_lt (tgt := 79) hx hb dX9_needsUnlikely_71 (by decide) (fun c71 => ?_) (fun c71 => ?_)
      · have hE := hE.trans (if_pos c71)
        refine lv_iconst (v := 0) hx hb dX9_needsUnlikely_79 (by decide) ?_
        have hB122 : ∀ (m_needed_122 : Nat → Int32) (H : Heap) (locs : List Loc) (ls : Array Slot), T = FX9_needsUnlikely_122 (g9_rules bm) (g9_kind bm) (g9_head bm) (g9_body bm) (g9_except bm) (g9_strength bm) (g9_off bm) (g9_over bm) (g9_known bm) (g9_needed bm) x1 m_needed_122 → zP G [w9 G am (s9_needed bm m_needed_122)] H → zD A [w9 G am (s9_needed bm m_needed_122)] → va_S A s.heap H locs → lv_has ls 4 [] → W p l e rmX9_needsUnlikely s m args below meth c H locs 0 0 Q (F0 m 122 ls []) := by
          intro m_needed_122 H locs ls hE hP hD hS hl
          have hE := hE.trans (FX9_needsUnlikely_122.eq_1 _ _ _ _ _ _ _ _ _ _ _ _)
          exact hret _ _ _ _ _ (by subst hE; rfl) hP hS dX9_needsUnlikely_122
        have hB81 : ∀ (n81 : Nat) (i3_81 : Nat) (m_needed_81 : Nat → Int32) (H : Heap) (locs : List Loc) (ls : Array Slot), (i3_81 ≤ N_m_rules) → 17 ≤ i3_81 + n81 → T = FX9_needsUnlikely_81 (g9_rules bm) (g9_kind bm) (g9_head bm) (g9_body bm) (g9_except bm) (g9_strength bm) (g9_off bm) (g9_over bm) (g9_known bm) (g9_needed bm) x1 (FX9_needsUnlikely_122 (g9_rules bm) (g9_kind bm) (g9_head bm) (g9_body bm) (g9_except bm) (g9_strength bm) (g9_off bm) (g9_over bm) (g9_known bm) (g9_needed bm) x1) n81 k0_69 (nI i3_81) m_needed_81 → zP G [w9 G am (s9_needed bm m_needed_81)] H → zD A [w9 G am (s9_needed bm m_needed_81)] → va_S A s.heap H locs → lv_has ls 4 [(0, .ref (am 0)), (1, .int x1), (2, .int k0_69), (3, .int (nI i3_81))] → W p l e rmX9_needsUnlikely s m args below meth c H locs 0 0 Q (F0 m 81 ls []) := by
          intro n81
          induction n81 with
          | zero =>
            intro i3_81 m_needed_81 H locs ls hi3_81 hn hE hP hD hS hl
            exact absurd hn (by omega)
          | succ n81 ih81 =>
            intro i3_81 m_needed_81 H locs ls hi3_81 hn hE hP hD hS hl
            have hE := hE.trans (FX9_needsUnlikely_81.eq_2 _ _ _ _ _ _ _ _ _ _ _ _ _ _ _ _)
            refine lv_iload_n hx hb dX9_needsUnlikely_81 rfl (lv_at hl 3 rfl) ?_
            refine lv_aload_n hx hb dX9_needsUnlikely_82 rfl (lv_at hl 0 rfl) ?_
            refine zg9_rules S in_X9_needsUnlikely_9 hK hP 0 rfl (List.mem_of_getElem? (i := 3) rfl) (v := (g9_rules bm)) (gs9_rules_needed _ m_needed_81) dX9_needsUnlikely_83 ?_
            refine lv_icmp_ge (tgt := 122) hx hb dX9_needsUnlikely_86 (by decide) (fun c86 => ?_) (fun c86 => ?_)
            · have hE := hE.trans (if_pos c86)
              exact hB122 m_needed_81 _ _ _ hE hP hD hS (lv_sub hl [] rfl)
            · have hE := hE.trans (if_neg c86)
              have hl3_81 : i3_81 < N_m_rules := zlt hs_m_rules (by omega) (by omega) c86
              refine lv_aload_n hx hb dX9_needsUnlikely_89 rfl (lv_at hl 0 rfl) ?_
              refine lv_iload_n hx hb dX9_needsUnlikely_90 rfl (lv_at hl 3 rfl) ?_
              refine lv_iload_n hx hb dX9_needsUnlikely_91 rfl (lv_at hl 1 rfl) ?_
              obtain ⟨t92, ht92⟩ : ∃ z, FX9_isForward (g9_kind bm) (g9_head bm) (g9_off bm) (nI i3_81) x1 = z := ⟨_, rfl⟩
              have hE := hE.trans (bnd_eq ht92)
              have hc := c_X9_isForward l G am (s9_needed bm m_needed_81) (nI i3_81) x1 ((vp_in_nI (by omega) (by omega))) _ (by simp only [gs9_kind_needed, gs9_head_needed, gs9_off_needed]; exact ht92)
              refine zgoR (va_runV (As := [.int (nI i3_81), .int x1]) (rest := []) S (hc _) (cwV 2 S.2.2.2.2 gX9_needsUnlikely_X9_isForward rfl rfl rfl (by decide +kernel) ⟨Nat.le_of_ble_eq_true rfl, Nat.le_of_ble_eq_true rfl⟩) (zpV hK hP hD (is := [0]) rfl rfl 0 rfl rfl (ci := 9) rfl) rfl rfl hl.1 rfl (lv_room (Nat.le_of_ble_eq_true rfl)) dX9_needsUnlikely_92 ⟨Nat.zero_le _, Nat.zero_le _⟩) (fun hn92 => ?_)
              refine lv_if_eq (tgt := 116) hx hb dX9_needsUnlikely_95 (by decide) (fun c95 => ?_) (fun c95 => ?_)
              · have hE := hE.trans (if_pos c95)
                refine lv_iinc (v := (nI (i3_81 + 1))) (lv' := [(3, .int (nI (i3_81 + 1))), (0, .ref (am 0)), (1, .int x1), (2, .int k0_69)]) hx hb dX9_needsUnlikely_116 hl (k := 3) rfl (nI_1 i3_81) (by decide) rfl (fun ls hl => ?_)
                try rw [nI_1 i3_81] at hE
                refine lv_goto (tgt := 81) hx hb dX9_needsUnlikely_119 (by decide) ?_
                exact ih81 (i3_81 + 1) m_needed_81 _ _ _ (by first | assumption | omega) (by omega) hE hP hD hS (lv_sub hl [1, 2, 3, 0] rfl)
              · have hE := hE.trans (if_neg c95)
                refine lv_iload_n hx hb dX9_needsUnlikely_98 rfl (lv_at hl 2 rfl) ?_
                have hB111 : ∀ (H : Heap) (locs : List Loc) (ls : Array Slot), T = FX9_needsUnlikely_111 (g9_rules bm) (g9_kind bm) (g9_head bm) (g9_body bm) (g9_except bm) (g9_strength bm) (g9_off bm) (g9_over bm) (g9_known bm) (g9_needed bm) x1 (fun x2_81' x3_81' m_needed_81' => FX9_needsUnlikely_81 (g9_rules bm) (g9_kind bm) (g9_head bm) (g9_body bm) (g9_except bm) (g9_strength bm) (g9_off bm) (g9_over bm) (g9_known bm) (g9_needed bm) x1 (FX9_needsUnlikely_122 (g9_rules bm) (g9_kind bm) (g9_head bm) (g9_body bm) (g9_except bm) (g9_strength bm) (g9_off bm) (g9_over bm) (g9_known bm) (g9_needed bm) x1) n81 x2_81' x3_81' m_needed_81') (FX9_needsUnlikely_122 (g9_rules bm) (g9_kind bm) (g9_head bm) (g9_body bm) (g9_except bm) (g9_strength bm) (g9_off bm) (g9_over bm) (g9_known bm) (g9_needed bm) x1) k0_69 (nI i3_81) m_needed_81 → zP G [w9 G am (s9_needed bm m_needed_81)] H → zD A [w9 G am (s9_needed bm m_needed_81)] → va_S A s.heap H locs → lv_has ls 4 [(0, .ref (am 0)), (1, .int x1), (2, .int k0_69), (3, .int (nI i3_81))] → W p l e rmX9_needsUnlikely s m args below meth c H locs 0 0 Q (F0 m 111 ls []) := by
                  intro H locs ls hE hP hD hS hl
                  have hE := hE.trans (FX9_needsUnlikely_111.eq_1 _ _ _ _ _ _ _ _ _ _ _ _ _ _ _ _)
                  refine lv_aload_n hx hb dX9_needsUnlikely_111 rfl (lv_at hl 0 rfl) ?_
                  refine lv_iload_n hx hb dX9_needsUnlikely_112 rfl (lv_at hl 3 rfl) ?_
                  obtain ⟨t113, ht113⟩ : ∃ z, FX9_fall (g9_body bm) (g9_except bm) (g9_known bm) m_needed_81 (nI i3_81) = z := ⟨_, rfl⟩
                  have hE := hE.trans (bnd_eq ht113)
                  have hc := c_X9_fall l G am (s9_needed bm m_needed_81) (nI i3_81) ((vp_in_nI (by omega) (by omega))) _ (by simp only [gs9_body_needed, gs9_except_needed, gs9_known_needed, gg9_needed]; exact ht113)
                  refine zgoV (bs' := [w9 G am (s9_needed (s9_needed bm m_needed_81) t113)]) hc [0] rfl rfl rfl hP hD hS hA (va_runV (As := [.int (nI i3_81)]) (rest := []) S (hc.2 _) (cwV 1 S.2.2.2.2 gX9_needsUnlikely_X9_fall rfl rfl rfl (by decide +kernel) ⟨Nat.le_of_ble_eq_true rfl, Nat.le_of_ble_eq_true rfl⟩) (zpV hK hP hD (is := [0]) rfl rfl 0 rfl rfl (ci := 9) rfl) rfl rfl hl.1 rfl (lv_room (Nat.le_of_ble_eq_true rfl)) dX9_needsUnlikely_113 ⟨Nat.zero_le _, Nat.zero_le _⟩) (fun H locs hP hD hS => ?_)
                  refine lv_iinc (v := (nI (i3_81 + 1))) (lv' := [(3, .int (nI (i3_81 + 1))), (0, .ref (am 0)), (1, .int x1), (2, .int k0_69)]) hx hb dX9_needsUnlikely_116 hl (k := 3) rfl (nI_1 i3_81) (by decide) rfl (fun ls hl => ?_)
                  try rw [nI_1 i3_81] at hE
                  refine lv_goto (tgt := 81) hx hb dX9_needsUnlikely_119 (by decide) ?_
                  rw [show (s9_needed (s9_needed bm m_needed_81) t113) = (s9_needed bm t113) from (ss9_needed _ m_needed_81 t113)] at hP hD
                  exact ih81 (i3_81 + 1) t113 _ _ _ (by first | assumption | omega) (by omega) hE hP hD hS (lv_sub hl [1, 2, 3, 0] rfl)
                refine lv_if_lt (tgt := 111) hx hb dX9_needsUnlikely_99 (by decide) (fun c99 => ?_) (fun c99 => ?_)
                · have hE := hE.trans (if_pos c99)
                  exact hB111 _ _ _ hE hP hD hS (lv_sub hl [0, 1, 2, 3] rfl)
                · have hE := hE.trans (if_neg c99)
                  have hb99 := hby c99
                  refine lv_aload_n hx hb dX9_needsUnlikely_102 rfl (lv_at hl 0 rfl) ?_
                  refine lv_iload_n hx hb dX9_needsUnlikely_103 rfl (lv_at hl 3 rfl) ?_
                  refine lv_iload_n hx hb dX9_needsUnlikely_104 rfl (lv_at hl 2 rfl) ?_
                  obtain ⟨t105, ht105⟩ : ∃ z, FX9_isAbove (g9_strength bm) (g9_over bm) (nI i3_81) k0_69 = z := ⟨_, rfl⟩
                  have hE := hE.trans (bnd_eq ht105)
                  have hc := c_X9_isAbove l G am (s9_needed bm m_needed_81) (nI i3_81) k0_69 ((vp_in_nI (by omega) (by omega))) (hb99) _ (by simp only [gs9_strength_needed, gs9_over_needed]; exact ht105)
                  refine zgoR (va_runV (As := [.int (nI i3_81), .int k0_69]) (rest := []) S (hc _) (cwV 2 S.2.2.2.2 gX9_needsUnlikely_X9_isAbove rfl rfl rfl (by decide +kernel) ⟨Nat.le_of_ble_eq_true rfl, Nat.le_of_ble_eq_true rfl⟩) (zpV hK hP hD (is := [0]) rfl rfl 0 rfl rfl (ci := 9) rfl) rfl rfl hl.1 rfl (lv_room (Nat.le_of_ble_eq_true rfl)) dX9_needsUnlikely_105 ⟨Nat.zero_le _, Nat.zero_le _⟩) (fun hn105 => ?_)
                  refine lv_if_eq (tgt := 116) hx hb dX9_needsUnlikely_108 (by decide) (fun c108 => ?_) (fun c108 => ?_)
                  · have hE := hE.trans (if_pos c108)
                    refine lv_iinc (v := (nI (i3_81 + 1))) (lv' := [(3, .int (nI (i3_81 + 1))), (0, .ref (am 0)), (1, .int x1), (2, .int k0_69)]) hx hb dX9_needsUnlikely_116 hl (k := 3) rfl (nI_1 i3_81) (by decide) rfl (fun ls hl => ?_)
                    try rw [nI_1 i3_81] at hE
                    refine lv_goto (tgt := 81) hx hb dX9_needsUnlikely_119 (by decide) ?_
                    exact ih81 (i3_81 + 1) m_needed_81 _ _ _ (by first | assumption | omega) (by omega) hE hP hD hS (lv_sub hl [1, 2, 3, 0] rfl)
                  · have hE := hE.trans (if_neg c108)
                    exact hB111 _ _ _ hE hP hD hS (lv_sub hl [0, 1, 2, 3] rfl)
        refine lv_istore_n (lv' := [(3, .int 0), (2, .int k0_69), (0, .ref (am 0)), (1, .int x1)]) hx hb dX9_needsUnlikely_80 rfl hl (by decide) rfl (fun ls hl => ?_)
        exact hB81 17 0 (upd (g9_needed bm) (1 : Int32).toNatClampNeg (((g9_needed bm) (1 : Int32).toNatClampNeg) ||| (1 <<< (x1 &&& 31)))) _ _ _ (by first | assumption | omega) (by omega) hE hP hD hS (lv_sub hl [2, 3, 1, 0] rfl)
      · have hE := hE.trans (if_neg c71)
        have hb71 := hby c71
        refine lv_aload_n hx hb dX9_needsUnlikely_74 rfl (lv_at hl 1 rfl) ?_
        refine lv_iload_n hx hb dX9_needsUnlikely_75 rfl (lv_at hl 0 rfl) ?_
        obtain ⟨t76, ht76⟩ : ∃ z, FX9_force (g9_body bm) (g9_except bm) (upd (g9_needed bm) (1 : Int32).toNatClampNeg (((g9_needed bm) (1 : Int32).toNatClampNeg) ||| (1 <<< (x1 &&& 31)))) k0_69 = z := ⟨_, rfl⟩
        have hE := hE.trans (bnd_eq ht76)
        have hc := c_X9_force l G am (s9_needed bm (upd (g9_needed bm) (1 : Int32).toNatClampNeg (((g9_needed bm) (1 : Int32).toNatClampNeg) ||| (1 <<< (x1 &&& 31))))) k0_69 (hb71) _ (by simp only [gs9_body_needed, gs9_except_needed, gg9_needed]; exact ht76)
        refine zgoV (bs' := [w9 G am (s9_needed (s9_needed bm (upd (g9_needed bm) (1 : Int32).toNatClampNeg (((g9_needed bm) (1 : Int32).toNatClampNeg) ||| (1 <<< (x1 &&& 31))))) t76)]) hc [0] rfl rfl rfl hP hD hS hA (va_runV (As := [.int k0_69]) (rest := []) S (hc.2 _) (cwV 1 S.2.2.2.2 gX9_needsUnlikely_X9_force rfl rfl rfl (by decide +kernel) ⟨Nat.le_of_ble_eq_true rfl, Nat.le_of_ble_eq_true rfl⟩) (zpV hK hP hD (is := [0]) rfl rfl 0 rfl rfl (ci := 9) rfl) rfl rfl hl.1 rfl (lv_room (Nat.le_of_ble_eq_true rfl)) dX9_needsUnlikely_76 ⟨Nat.zero_le _, Nat.zero_le _⟩) (fun H locs hP hD hS => ?_)
        refine lv_iconst (v := 0) hx hb dX9_needsUnlikely_79 (by decide) ?_
        have hB122 : ∀ (m_needed_122 : Nat → Int32) (H : Heap) (locs : List Loc) (ls : Array Slot), T = FX9_needsUnlikely_122 (g9_rules bm) (g9_kind bm) (g9_head bm) (g9_body bm) (g9_except bm) (g9_strength bm) (g9_off bm) (g9_over bm) (g9_known bm) (g9_needed bm) x1 m_needed_122 → zP G [w9 G am (s9_needed bm m_needed_122)] H → zD A [w9 G am (s9_needed bm m_needed_122)] → va_S A s.heap H locs → lv_has ls 4 [] → W p l e rmX9_needsUnlikely s m args below meth c H locs 0 0 Q (F0 m 122 ls []) := by
          intro m_needed_122 H locs ls hE hP hD hS hl
          have hE := hE.trans (FX9_needsUnlikely_122.eq_1 _ _ _ _ _ _ _ _ _ _ _ _)
          exact hret _ _ _ _ _ (by subst hE; rfl) hP hS dX9_needsUnlikely_122
        have hB81 : ∀ (n81 : Nat) (i3_81 : Nat) (m_needed_81 : Nat → Int32) (H : Heap) (locs : List Loc) (ls : Array Slot), (i3_81 ≤ N_m_rules) → 17 ≤ i3_81 + n81 → T = FX9_needsUnlikely_81 (g9_rules bm) (g9_kind bm) (g9_head bm) (g9_body bm) (g9_except bm) (g9_strength bm) (g9_off bm) (g9_over bm) (g9_known bm) (g9_needed bm) x1 (FX9_needsUnlikely_122 (g9_rules bm) (g9_kind bm) (g9_head bm) (g9_body bm) (g9_except bm) (g9_strength bm) (g9_off bm) (g9_over bm) (g9_known bm) (g9_needed bm) x1) n81 k0_69 (nI i3_81) m_needed_81 → zP G [w9 G am (s9_needed bm m_needed_81)] H → zD A [w9 G am (s9_needed bm m_needed_81)] → va_S A s.heap H locs → lv_has ls 4 [(0, .ref (am 0)), (1, .int x1), (2, .int k0_69), (3, .int (nI i3_81))] → W p l e rmX9_needsUnlikely s m args below meth c H locs 0 0 Q (F0 m 81 ls []) := by
          intro n81
          induction n81 with
          | zero =>
            intro i3_81 m_needed_81 H locs ls hi3_81 hn hE hP hD hS hl
            exact absurd hn (by omega)
          | succ n81 ih81 =>
            intro i3_81 m_needed_81 H locs ls hi3_81 hn hE hP hD hS hl
            have hE := hE.trans (FX9_needsUnlikely_81.eq_2 _ _ _ _ _ _ _ _ _ _ _ _ _ _ _ _)
            refine lv_iload_n hx hb dX9_needsUnlikely_81 rfl (lv_at hl 3 rfl) ?_
            refine lv_aload_n hx hb dX9_needsUnlikely_82 rfl (lv_at hl 0 rfl) ?_
            refine zg9_rules S in_X9_needsUnlikely_9 hK hP 0 rfl (List.mem_of_getElem? (i := 3) rfl) (v := (g9_rules bm)) (gs9_rules_needed _ m_needed_81) dX9_needsUnlikely_83 ?_
            refine lv_icmp_ge (tgt := 122) hx hb dX9_needsUnlikely_86 (by decide) (fun c86 => ?_) (fun c86 => ?_)
            · have hE := hE.trans (if_pos c86)
              exact hB122 m_needed_81 _ _ _ hE hP hD hS (lv_sub hl [] rfl)
            · have hE := hE.trans (if_neg c86)
              have hl3_81 : i3_81 < N_m_rules := zlt hs_m_rules (by omega) (by omega) c86
              refine lv_aload_n hx hb dX9_needsUnlikely_89 rfl (lv_at hl 0 rfl) ?_
              refine lv_iload_n hx hb dX9_needsUnlikely_90 rfl (lv_at hl 3 rfl) ?_
              refine lv_iload_n hx hb dX9_needsUnlikely_91 rfl (lv_at hl 1 rfl) ?_
              obtain ⟨t92, ht92⟩ : ∃ z, FX9_isForward (g9_kind bm) (g9_head bm) (g9_off bm) (nI i3_81) x1 = z := ⟨_, rfl⟩
              have hE := hE.trans (bnd_eq ht92)
              have hc := c_X9_isForward l G am (s9_needed bm m_needed_81) (nI i3_81) x1 ((vp_in_nI (by omega) (by omega))) _ (by simp only [gs9_kind_needed, gs9_head_needed, gs9_off_needed]; exact ht92)
              refine zgoR (va_runV (As := [.int (nI i3_81), .int x1]) (rest := []) S (hc _) (cwV 2 S.2.2.2.2 gX9_needsUnlikely_X9_isForward rfl rfl rfl (by decide +kernel) ⟨Nat.le_of_ble_eq_true rfl, Nat.le_of_ble_eq_true rfl⟩) (zpV hK hP hD (is := [0]) rfl rfl 0 rfl rfl (ci := 9) rfl) rfl rfl hl.1 rfl (lv_room (Nat.le_of_ble_eq_true rfl)) dX9_needsUnlikely_92 ⟨Nat.zero_le _, Nat.zero_le _⟩) (fun hn92 => ?_)
              refine lv_if_eq (tgt := 116) hx hb dX9_needsUnlikely_95 (by decide) (fun c95 => ?_) (fun c95 => ?_)
              · have hE := hE.trans (if_pos c95)
                refine lv_iinc (v := (nI (i3_81 + 1))) (lv' := [(3, .int (nI (i3_81 + 1))), (0, .ref (am 0)), (1, .int x1), (2, .int k0_69)]) hx hb dX9_needsUnlikely_116 hl (k := 3) rfl (nI_1 i3_81) (by decide) rfl (fun ls hl => ?_)
                try rw [nI_1 i3_81] at hE
                refine lv_goto (tgt := 81) hx hb dX9_needsUnlikely_119 (by decide) ?_
                exact ih81 (i3_81 + 1) m_needed_81 _ _ _ (by first | assumption | omega) (by omega) hE hP hD hS (lv_sub hl [1, 2, 3, 0] rfl)
              · have hE := hE.trans (if_neg c95)
                refine lv_iload_n hx hb dX9_needsUnlikely_98 rfl (lv_at hl 2 rfl) ?_
                have hB111 : ∀ (H : Heap) (locs : List Loc) (ls : Array Slot), T = FX9_needsUnlikely_111 (g9_rules bm) (g9_kind bm) (g9_head bm) (g9_body bm) (g9_except bm) (g9_strength bm) (g9_off bm) (g9_over bm) (g9_known bm) (g9_needed bm) x1 (fun x2_81' x3_81' m_needed_81' => FX9_needsUnlikely_81 (g9_rules bm) (g9_kind bm) (g9_head bm) (g9_body bm) (g9_except bm) (g9_strength bm) (g9_off bm) (g9_over bm) (g9_known bm) (g9_needed bm) x1 (FX9_needsUnlikely_122 (g9_rules bm) (g9_kind bm) (g9_head bm) (g9_body bm) (g9_except bm) (g9_strength bm) (g9_off bm) (g9_over bm) (g9_known bm) (g9_needed bm) x1) n81 x2_81' x3_81' m_needed_81') (FX9_needsUnlikely_122 (g9_rules bm) (g9_kind bm) (g9_head bm) (g9_body bm) (g9_except bm) (g9_strength bm) (g9_off bm) (g9_over bm) (g9_known bm) (g9_needed bm) x1) k0_69 (nI i3_81) m_needed_81 → zP G [w9 G am (s9_needed bm m_needed_81)] H → zD A [w9 G am (s9_needed bm m_needed_81)] → va_S A s.heap H locs → lv_has ls 4 [(0, .ref (am 0)), (1, .int x1), (2, .int k0_69), (3, .int (nI i3_81))] → W p l e rmX9_needsUnlikely s m args below meth c H locs 0 0 Q (F0 m 111 ls []) := by
                  intro H locs ls hE hP hD hS hl
                  have hE := hE.trans (FX9_needsUnlikely_111.eq_1 _ _ _ _ _ _ _ _ _ _ _ _ _ _ _ _)
                  refine lv_aload_n hx hb dX9_needsUnlikely_111 rfl (lv_at hl 0 rfl) ?_
                  refine lv_iload_n hx hb dX9_needsUnlikely_112 rfl (lv_at hl 3 rfl) ?_
                  obtain ⟨t113, ht113⟩ : ∃ z, FX9_fall (g9_body bm) (g9_except bm) (g9_known bm) m_needed_81 (nI i3_81) = z := ⟨_, rfl⟩
                  have hE := hE.trans (bnd_eq ht113)
                  have hc := c_X9_fall l G am (s9_needed bm m_needed_81) (nI i3_81) ((vp_in_nI (by omega) (by omega))) _ (by simp only [gs9_body_needed, gs9_except_needed, gs9_known_needed, gg9_needed]; exact ht113)
                  refine zgoV (bs' := [w9 G am (s9_needed (s9_needed bm m_needed_81) t113)]) hc [0] rfl rfl rfl hP hD hS hA (va_runV (As := [.int (nI i3_81)]) (rest := []) S (hc.2 _) (cwV 1 S.2.2.2.2 gX9_needsUnlikely_X9_fall rfl rfl rfl (by decide +kernel) ⟨Nat.le_of_ble_eq_true rfl, Nat.le_of_ble_eq_true rfl⟩) (zpV hK hP hD (is := [0]) rfl rfl 0 rfl rfl (ci := 9) rfl) rfl rfl hl.1 rfl (lv_room (Nat.le_of_ble_eq_true rfl)) dX9_needsUnlikely_113 ⟨Nat.zero_le _, Nat.zero_le _⟩) (fun H locs hP hD hS => ?_)
                  refine lv_iinc (v := (nI (i3_81 + 1))) (lv' := [(3, .int (nI (i3_81 + 1))), (0, .ref (am 0)), (1, .int x1), (2, .int k0_69)]) hx hb dX9_needsUnlikely_116 hl (k := 3) rfl (nI_1 i3_81) (by decide) rfl (fun ls hl => ?_)
                  try rw [nI_1 i3_81] at hE
                  refine lv_goto (tgt := 81) hx hb dX9_needsUnlikely_119 (by decide) ?_
                  rw [show (s9_needed (s9_needed bm m_needed_81) t113) = (s9_needed bm t113) from (ss9_needed _ m_needed_81 t113)] at hP hD
                  exact ih81 (i3_81 + 1) t113 _ _ _ (by first | assumption | omega) (by omega) hE hP hD hS (lv_sub hl [1, 2, 3, 0] rfl)
                refine lv_if_lt (tgt := 111) hx hb dX9_needsUnlikely_99 (by decide) (fun c99 => ?_) (fun c99 => ?_)
                · have hE := hE.trans (if_pos c99)
                  exact hB111 _ _ _ hE hP hD hS (lv_sub hl [0, 1, 2, 3] rfl)
                · have hE := hE.trans (if_neg c99)
                  have hb99 := hby c99
                  refine lv_aload_n hx hb dX9_needsUnlikely_102 rfl (lv_at hl 0 rfl) ?_
                  refine lv_iload_n hx hb dX9_needsUnlikely_103 rfl (lv_at hl 3 rfl) ?_
                  refine lv_iload_n hx hb dX9_needsUnlikely_104 rfl (lv_at hl 2 rfl) ?_
                  obtain ⟨t105, ht105⟩ : ∃ z, FX9_isAbove (g9_strength bm) (g9_over bm) (nI i3_81) k0_69 = z := ⟨_, rfl⟩
                  have hE := hE.trans (bnd_eq ht105)
                  have hc := c_X9_isAbove l G am (s9_needed bm m_needed_81) (nI i3_81) k0_69 ((vp_in_nI (by omega) (by omega))) (hb99) _ (by simp only [gs9_strength_needed, gs9_over_needed]; exact ht105)
                  refine zgoR (va_runV (As := [.int (nI i3_81), .int k0_69]) (rest := []) S (hc _) (cwV 2 S.2.2.2.2 gX9_needsUnlikely_X9_isAbove rfl rfl rfl (by decide +kernel) ⟨Nat.le_of_ble_eq_true rfl, Nat.le_of_ble_eq_true rfl⟩) (zpV hK hP hD (is := [0]) rfl rfl 0 rfl rfl (ci := 9) rfl) rfl rfl hl.1 rfl (lv_room (Nat.le_of_ble_eq_true rfl)) dX9_needsUnlikely_105 ⟨Nat.zero_le _, Nat.zero_le _⟩) (fun hn105 => ?_)
                  refine lv_if_eq (tgt := 116) hx hb dX9_needsUnlikely_108 (by decide) (fun c108 => ?_) (fun c108 => ?_)
                  · have hE := hE.trans (if_pos c108)
                    refine lv_iinc (v := (nI (i3_81 + 1))) (lv' := [(3, .int (nI (i3_81 + 1))), (0, .ref (am 0)), (1, .int x1), (2, .int k0_69)]) hx hb dX9_needsUnlikely_116 hl (k := 3) rfl (nI_1 i3_81) (by decide) rfl (fun ls hl => ?_)
                    try rw [nI_1 i3_81] at hE
                    refine lv_goto (tgt := 81) hx hb dX9_needsUnlikely_119 (by decide) ?_
                    exact ih81 (i3_81 + 1) m_needed_81 _ _ _ (by first | assumption | omega) (by omega) hE hP hD hS (lv_sub hl [1, 2, 3, 0] rfl)
                  · have hE := hE.trans (if_neg c108)
                    exact hB111 _ _ _ hE hP hD hS (lv_sub hl [0, 1, 2, 3] rfl)
        refine lv_istore_n (lv' := [(3, .int 0), (2, .int k0_69), (0, .ref (am 0)), (1, .int x1)]) hx hb dX9_needsUnlikely_80 rfl hl (by decide) rfl (fun ls hl => ?_)
        rw [show (s9_needed (s9_needed bm (upd (g9_needed bm) (1 : Int32).toNatClampNeg (((g9_needed bm) (1 : Int32).toNatClampNeg) ||| (1 <<< (x1 &&& 31))))) t76) = (s9_needed bm t76) from (ss9_needed _ (upd (g9_needed bm) (1 : Int32).toNatClampNeg (((g9_needed bm) (1 : Int32).toNatClampNeg) ||| (1 <<< (x1 &&& 31)))) t76)] at hP hD
        exact hB81 17 0 t76 _ _ _ (by first | assumption | omega) (by omega) hE hP hD hS (lv_sub hl [2, 3, 1, 0] rfl)
    refine lv_if_eq (tgt := 64) hx hb dX9_needsUnlikely_57 (by decide) (fun c57 => ?_) (fun c57 => ?_)
    · have hE := hE.trans (if_pos c57)
      refine lv_aload_n hx hb dX9_needsUnlikely_64 rfl (lv_at hl 0 rfl) ?_
      refine lv_iload_n hx hb dX9_needsUnlikely_65 rfl (lv_at hl 1 rfl) ?_
      obtain ⟨t66, ht66⟩ : ∃ z, FX9_hindering (g9_rules bm) (g9_kind bm) (g9_head bm) (g9_body bm) (g9_except bm) (g9_strength bm) (g9_off bm) (g9_over bm) (g9_known bm) x1 = z := ⟨_, rfl⟩
      have hE := hE.trans (bnd_eq ht66)
      have hc := c_X9_hindering l G am (s9_needed bm (upd (g9_needed bm) (1 : Int32).toNatClampNeg (((g9_needed bm) (1 : Int32).toNatClampNeg) ||| (1 <<< (x1 &&& 31))))) x1 (hz_m_rules) _ (by simp only [gs9_rules_needed, gs9_kind_needed, gs9_head_needed, gs9_body_needed, gs9_except_needed, gs9_strength_needed, gs9_off_needed, gs9_over_needed, gs9_known_needed]; exact ht66)
      refine zgoR (va_runV (As := [.int x1]) (rest := []) S (hc _) (cwV 1 S.2.2.2.2 gX9_needsUnlikely_X9_hindering rfl rfl rfl (by decide +kernel) ⟨Nat.le_of_ble_eq_true rfl, Nat.le_of_ble_eq_true rfl⟩) (zpV hK hP hD (is := [0]) rfl rfl 0 rfl rfl (ci := 9) rfl) rfl rfl hl.1 rfl (lv_room (Nat.le_of_ble_eq_true rfl)) dX9_needsUnlikely_66 ⟨Nat.zero_le _, Nat.zero_le _⟩) (fun hn66 => ?_)
      exact hB69 t66 _ _ _ (by exact fun h => by rw [← ht66] at h ⊢; exact zhind hz_m_rules h) hE hP hD hS (lv_sub hl [0, 1] rfl)
    · have hE := hE.trans (if_neg c57)
      refine lv_iconst (v := (-1)) hx hb dX9_needsUnlikely_60 (by decide) ?_
      refine lv_goto (tgt := 69) hx hb dX9_needsUnlikely_61 (by decide) ?_
      exact hB69 (-1) _ _ _ (by exact fun h => absurd (by decide) h) hE hP hD hS (lv_sub hl [0, 1] rfl)
  refine lv_if_ne (tgt := 52) hx hb dX9_needsUnlikely_17 (by decide) (fun c17 => ?_) (fun c17 => ?_)
  · have hE := hE.trans (if_neg c17)
    exact hB52 _ _ _ hE hP hD hS (lv_sub hl [0, 1] rfl)
  · have hE := hE.trans (if_pos c17)
    refine lv_aload_n hx hb dX9_needsUnlikely_20 rfl (lv_at hl 0 rfl) ?_
    refine zg9_known S in_X9_needsUnlikely_9 hK hP 0 rfl (List.mem_of_getElem? (i := 2) rfl) dX9_needsUnlikely_21 ?_
    refine lv_iconst (v := 0) hx hb dX9_needsUnlikely_24 (by decide) ?_
    refine zl9_known S hK hP 0 rfl (zin_k (n := 0) rfl (by decide) (by decide)) (f := (g9_known bm)) (gs9_known_needed _ (upd (g9_needed bm) (1 : Int32).toNatClampNeg (((g9_needed bm) (1 : Int32).toNatClampNeg) ||| (1 <<< (x1 &&& 31))))) dX9_needsUnlikely_25 ?_
    refine lv_iload_n hx hb dX9_needsUnlikely_26 rfl (lv_at hl 1 rfl) ?_
    obtain ⟨t27, ht27⟩ : ∃ z, FX9_otherOf x1 = z := ⟨_, rfl⟩
    have hE := hE.trans (bnd_eq ht27)
    have hc := c_X9_otherOf l G x1 _ ht27
    refine zgoR (va_runS (As := [.int x1]) (rest := [.int ((g9_known bm) (0 : Int32).toNatClampNeg)]) S (hc _) (va_cwS 1 S.2.2.2.2 gX9_needsUnlikely_X9_otherOf rfl rfl rfl (by decide +kernel) ⟨Nat.le_of_ble_eq_true rfl, Nat.le_of_ble_eq_true rfl⟩) (zpS hK hP hD (is := []) rfl rfl) rfl rfl hl.1 rfl (lv_room (Nat.le_of_ble_eq_true rfl)) dX9_needsUnlikely_27 ⟨Nat.zero_le _, Nat.zero_le _⟩) (fun hn27 => ?_)
    obtain ⟨t30, ht30⟩ : ∃ z, FX9_has ((g9_known bm) (0 : Int32).toNatClampNeg) t27 = z := ⟨_, rfl⟩
    have hE := hE.trans (bnd_eq ht30)
    have hc := c_X9_has l G ((g9_known bm) (0 : Int32).toNatClampNeg) t27 _ ht30
    refine zgoR (va_runS (As := [.int ((g9_known bm) (0 : Int32).toNatClampNeg), .int t27]) (rest := []) S (hc _) (va_cwS 2 S.2.2.2.2 gX9_needsUnlikely_X9_has rfl rfl rfl (by decide +kernel) ⟨Nat.le_of_ble_eq_true rfl, Nat.le_of_ble_eq_true rfl⟩) (zpS hK hP hD (is := []) rfl rfl) rfl rfl hl.1 rfl (lv_room (Nat.le_of_ble_eq_true rfl)) dX9_needsUnlikely_30 ⟨Nat.zero_le _, Nat.zero_le _⟩) (fun hn30 => ?_)
    refine lv_if_eq (tgt := 52) hx hb dX9_needsUnlikely_33 (by decide) (fun c33 => ?_) (fun c33 => ?_)
    · have hE := hE.trans (if_pos c33)
      exact hB52 _ _ _ hE hP hD hS (lv_sub hl [0, 1] rfl)
    · have hE := hE.trans (if_neg c33)
      refine lv_aload_n hx hb dX9_needsUnlikely_36 rfl (lv_at hl 0 rfl) ?_
      refine zg9_needed S in_X9_needsUnlikely_9 hK hP 0 rfl (List.mem_of_getElem? (i := 1) rfl) dX9_needsUnlikely_37 ?_
      refine lv_iconst (v := 0) hx hb dX9_needsUnlikely_40 (by decide) ?_
      refine lv_dup2_11 hx hb dX9_needsUnlikely_41 rfl rfl ?_
      refine zl9_needed S hK hP 0 rfl (zin_k (n := 0) rfl (by decide) (by decide)) (f := (upd (g9_needed bm) (1 : Int32).toNatClampNeg (((g9_needed bm) (1 : Int32).toNatClampNeg) ||| (1 <<< (x1 &&& 31))))) (gg9_needed _ (upd (g9_needed bm) (1 : Int32).toNatClampNeg (((g9_needed bm) (1 : Int32).toNatClampNeg) ||| (1 <<< (x1 &&& 31))))) dX9_needsUnlikely_42 ?_
      refine lv_iconst (v := 1) hx hb dX9_needsUnlikely_43 (by decide) ?_
      refine lv_iload_n hx hb dX9_needsUnlikely_44 rfl (lv_at hl 1 rfl) ?_
      obtain ⟨t45, ht45⟩ : ∃ z, FX9_otherOf x1 = z := ⟨_, rfl⟩
      have hE := hE.trans (bnd_eq ht45)
      have hc := c_X9_otherOf l G x1 _ ht45
      refine zgoR (va_runS (As := [.int x1]) (rest := [.int 1, .int ((upd (g9_needed bm) (1 : Int32).toNatClampNeg (((g9_needed bm) (1 : Int32).toNatClampNeg) ||| (1 <<< (x1 &&& 31)))) (0 : Int32).toNatClampNeg), .int 0, .ref (am 20)]) S (hc _) (va_cwS 1 S.2.2.2.2 gX9_needsUnlikely_X9_otherOf rfl rfl rfl (by decide +kernel) ⟨Nat.le_of_ble_eq_true rfl, Nat.le_of_ble_eq_true rfl⟩) (zpS hK hP hD (is := []) rfl rfl) rfl rfl hl.1 rfl (lv_room (Nat.le_of_ble_eq_true rfl)) dX9_needsUnlikely_45 ⟨Nat.zero_le _, Nat.zero_le _⟩) (fun hn45 => ?_)
      refine lv_ishl hx hb dX9_needsUnlikely_48 ?_
      refine lv_ior hx hb dX9_needsUnlikely_49 ?_
      refine zs9_needed (bs1 := [w9 G am (s9_needed (s9_needed bm (upd (g9_needed bm) (1 : Int32).toNatClampNeg (((g9_needed bm) (1 : Int32).toNatClampNeg) ||| (1 <<< (x1 &&& 31))))) (upd (upd (g9_needed bm) (1 : Int32).toNatClampNeg (((g9_needed bm) (1 : Int32).toNatClampNeg) ||| (1 <<< (x1 &&& 31)))) (0 : Int32).toNatClampNeg (((upd (g9_needed bm) (1 : Int32).toNatClampNeg (((g9_needed bm) (1 : Int32).toNatClampNeg) ||| (1 <<< (x1 &&& 31)))) (0 : Int32).toNatClampNeg) ||| (1 <<< (t45 &&& 31)))))]) S hK hP hD hS 0 rfl (zin_k (n := 0) rfl (by decide) (by decide)) (f := (upd (g9_needed bm) (1 : Int32).toNatClampNeg (((g9_needed bm) (1 : Int32).toNatClampNeg) ||| (1 <<< (x1 &&& 31))))) (gg9_needed _ (upd (g9_needed bm) (1 : Int32).toNatClampNeg (((g9_needed bm) (1 : Int32).toNatClampNeg) ||| (1 <<< (x1 &&& 31))))) dX9_needsUnlikely_50 rfl (fun H locs hP hD hS => ?_)
      rw [show (s9_needed (s9_needed bm (upd (g9_needed bm) (1 : Int32).toNatClampNeg (((g9_needed bm) (1 : Int32).toNatClampNeg) ||| (1 <<< (x1 &&& 31))))) (upd (upd (g9_needed bm) (1 : Int32).toNatClampNeg (((g9_needed bm) (1 : Int32).toNatClampNeg) ||| (1 <<< (x1 &&& 31)))) (0 : Int32).toNatClampNeg (((upd (g9_needed bm) (1 : Int32).toNatClampNeg (((g9_needed bm) (1 : Int32).toNatClampNeg) ||| (1 <<< (x1 &&& 31)))) (0 : Int32).toNatClampNeg) ||| (1 <<< (t45 &&& 31))))) = (s9_needed bm (upd (upd (g9_needed bm) (1 : Int32).toNatClampNeg (((g9_needed bm) (1 : Int32).toNatClampNeg) ||| (1 <<< (x1 &&& 31)))) (0 : Int32).toNatClampNeg (((upd (g9_needed bm) (1 : Int32).toNatClampNeg (((g9_needed bm) (1 : Int32).toNatClampNeg) ||| (1 <<< (x1 &&& 31)))) (0 : Int32).toNatClampNeg) ||| (1 <<< (t45 &&& 31))))) from (ss9_needed _ (upd (g9_needed bm) (1 : Int32).toNatClampNeg (((g9_needed bm) (1 : Int32).toNatClampNeg) ||| (1 <<< (x1 &&& 31)))) (upd (upd (g9_needed bm) (1 : Int32).toNatClampNeg (((g9_needed bm) (1 : Int32).toNatClampNeg) ||| (1 <<< (x1 &&& 31)))) (0 : Int32).toNatClampNeg (((upd (g9_needed bm) (1 : Int32).toNatClampNeg (((g9_needed bm) (1 : Int32).toNatClampNeg) ||| (1 <<< (x1 &&& 31)))) (0 : Int32).toNatClampNeg) ||| (1 <<< (t45 &&& 31)))))] at hP hD
      exact hret _ _ _ _ _ (by subst hE; rfl) hP hS dX9_needsUnlikely_51

def rmX9_needs : Room := { frames := 5, cells := 0, slots := 0, locals := 112 }
set_option maxHeartbeats 4000000 in
set_option maxRecDepth 100000 in
theorem c_X9_needs (l : Launch) (G : zG) (am : Nat → Nat) (bm : S9) (x1 : Int32) (x2 : Int32) (hnl : x1 = 2 → zNL (g9_rules bm) (g9_kind bm) (g9_head bm) (g9_body bm) (g9_except bm) (g9_strength bm) (g9_off bm) (g9_over bm) (g9_known bm) x2) (hz_m_rules : ∃ N : Nat, N ≤ 16 ∧ g9_rules bm = nI N) (T : (Nat → Int32)) (hT : FX9_needs (g9_facts bm) (g9_rules bm) (g9_kind bm) (g9_head bm) (g9_body bm) (g9_except bm) (g9_strength bm) (g9_off bm) (g9_over bm) (g9_known bm) (g9_needed bm) x1 x2 = T) : zV l yX9_needs wsX9_needs rmX9_needs G [.ref (am 0), .int x1, .int x2] [w9 G am bm] [w9 G am (s9_needed bm T)] := by
  refine zV.mk (cc := cX9_needs) (maxL := 3) (by decide +kernel) rfl (Nat.le_of_ble_eq_true rfl) (zfl_cons (wf9 _ _ _ _) rfl) ?_
  intro p e s m args below meth c Q A ls S hK hD hA hP hl hret
  have hx := S.1
  have hb := S.2.1
  have hS : va_S A s.heap s.heap [] := va_S.rf
  have hl : lv_has ls 3 [(0, .ref (am 0)), (1, .int x1), (2, .int x2)] := hl
  have hE := hT.symm.trans (FX9_needs.eq_1 _ _ _ _ _ _ _ _ _ _ _ _ _)
  refine lv_iload_n hx hb dX9_needs_0 rfl (lv_at hl 1 rfl) ?_
  by_cases c1_0 : x1 = 0
  · have hE := hE.trans (if_pos c1_0)
    refine lv_tableIn (off := 27) (tgt := 28) hx hb dX9_needs_1 (by rw [c1_0]; decide) (by rw [c1_0]; decide) (by rw [c1_0]; rfl) (by decide) ?_
    refine lv_aload_n hx hb dX9_needs_28 rfl (lv_at hl 0 rfl) ?_
    refine lv_iload_n hx hb dX9_needs_29 rfl (lv_at hl 2 rfl) ?_
    obtain ⟨t30, ht30⟩ : ∃ z, FX9_needsSure (g9_facts bm) (g9_rules bm) (g9_kind bm) (g9_head bm) (g9_body bm) (g9_off bm) (g9_known bm) (g9_needed bm) x2 = z := ⟨_, rfl⟩
    have hE := hE.trans (bnd_eq ht30)
    have hc := c_X9_needsSure l G am bm x2 (hz_m_rules) _ ht30
    refine zgoV (bs' := [w9 G am (s9_needed bm t30)]) hc [0] rfl rfl rfl hP hD hS hA (va_runV (As := [.int x2]) (rest := []) S (hc.2 _) (cwV 1 S.2.2.2.2 gX9_needs_X9_needsSure rfl rfl rfl (by decide +kernel) ⟨Nat.le_of_ble_eq_true rfl, Nat.le_of_ble_eq_true rfl⟩) (zpV hK hP hD (is := [0]) rfl rfl 0 rfl rfl (ci := 9) rfl) rfl rfl hl.1 rfl (lv_room (Nat.le_of_ble_eq_true rfl)) dX9_needs_30 ⟨Nat.zero_le _, Nat.zero_le _⟩) (fun H locs hP hD hS => ?_)
    refine lv_goto (tgt := 57) hx hb dX9_needs_33 (by decide) ?_
    exact hret _ _ _ _ _ (by subst hE; rfl) hP hS dX9_needs_57
  have hE := hE.trans (if_neg c1_0)
  by_cases c1_1 : x1 = 1
  · have hE := hE.trans (if_pos c1_1)
    refine lv_tableIn (off := 35) (tgt := 36) hx hb dX9_needs_1 (by rw [c1_1]; decide) (by rw [c1_1]; decide) (by rw [c1_1]; rfl) (by decide) ?_
    refine lv_aload_n hx hb dX9_needs_36 rfl (lv_at hl 0 rfl) ?_
    refine lv_iload_n hx hb dX9_needs_37 rfl (lv_at hl 2 rfl) ?_
    obtain ⟨t38, ht38⟩ : ∃ z, FX9_needsNever (g9_rules bm) (g9_kind bm) (g9_head bm) (g9_body bm) (g9_off bm) (g9_known bm) (g9_needed bm) x2 = z := ⟨_, rfl⟩
    have hE := hE.trans (bnd_eq ht38)
    have hc := c_X9_needsNever l G am bm x2 (hz_m_rules) _ ht38
    refine zgoV (bs' := [w9 G am (s9_needed bm t38)]) hc [0] rfl rfl rfl hP hD hS hA (va_runV (As := [.int x2]) (rest := []) S (hc.2 _) (cwV 1 S.2.2.2.2 gX9_needs_X9_needsNever rfl rfl rfl (by decide +kernel) ⟨Nat.le_of_ble_eq_true rfl, Nat.le_of_ble_eq_true rfl⟩) (zpV hK hP hD (is := [0]) rfl rfl 0 rfl rfl (ci := 9) rfl) rfl rfl hl.1 rfl (lv_room (Nat.le_of_ble_eq_true rfl)) dX9_needs_38 ⟨Nat.zero_le _, Nat.zero_le _⟩) (fun H locs hP hD hS => ?_)
    refine lv_goto (tgt := 57) hx hb dX9_needs_41 (by decide) ?_
    exact hret _ _ _ _ _ (by subst hE; rfl) hP hS dX9_needs_57
  have hE := hE.trans (if_neg c1_1)
  by_cases c1_2 : x1 = 2
  · have hE := hE.trans (if_pos c1_2)
    refine lv_tableIn (off := 43) (tgt := 44) hx hb dX9_needs_1 (by rw [c1_2]; decide) (by rw [c1_2]; decide) (by rw [c1_2]; rfl) (by decide) ?_
    refine lv_aload_n hx hb dX9_needs_44 rfl (lv_at hl 0 rfl) ?_
    refine lv_iload_n hx hb dX9_needs_45 rfl (lv_at hl 2 rfl) ?_
    obtain ⟨t46, ht46⟩ : ∃ z, FX9_needsLikely (g9_rules bm) (g9_kind bm) (g9_head bm) (g9_body bm) (g9_except bm) (g9_strength bm) (g9_off bm) (g9_over bm) (g9_known bm) (g9_needed bm) x2 = z := ⟨_, rfl⟩
    have hE := hE.trans (bnd_eq ht46)
    have hc := c_X9_needsLikely l G am bm x2 (hnl (by assumption)) (hz_m_rules) _ ht46
    refine zgoV (bs' := [w9 G am (s9_needed bm t46)]) hc [0] rfl rfl rfl hP hD hS hA (va_runV (As := [.int x2]) (rest := []) S (hc.2 _) (cwV 1 S.2.2.2.2 gX9_needs_X9_needsLikely rfl rfl rfl (by decide +kernel) ⟨Nat.le_of_ble_eq_true rfl, Nat.le_of_ble_eq_true rfl⟩) (zpV hK hP hD (is := [0]) rfl rfl 0 rfl rfl (ci := 9) rfl) rfl rfl hl.1 rfl (lv_room (Nat.le_of_ble_eq_true rfl)) dX9_needs_46 ⟨Nat.zero_le _, Nat.zero_le _⟩) (fun H locs hP hD hS => ?_)
    refine lv_goto (tgt := 57) hx hb dX9_needs_49 (by decide) ?_
    exact hret _ _ _ _ _ (by subst hE; rfl) hP hS dX9_needs_57
  have hE := hE.trans (if_neg c1_2)
  refine lv_tableOut (tgt := 52) hx hb dX9_needs_1 (zsw3 c1_0 c1_1 c1_2) (by decide) ?_
  refine lv_aload_n hx hb dX9_needs_52 rfl (lv_at hl 0 rfl) ?_
  refine lv_iload_n hx hb dX9_needs_53 rfl (lv_at hl 2 rfl) ?_
  obtain ⟨t54, ht54⟩ : ∃ z, FX9_needsUnlikely (g9_rules bm) (g9_kind bm) (g9_head bm) (g9_body bm) (g9_except bm) (g9_strength bm) (g9_off bm) (g9_over bm) (g9_known bm) (g9_needed bm) x2 = z := ⟨_, rfl⟩
  have hE := hE.trans (bnd_eq ht54)
  have hc := c_X9_needsUnlikely l G am bm x2 (hz_m_rules) _ ht54
  refine zgoV (bs' := [w9 G am (s9_needed bm t54)]) hc [0] rfl rfl rfl hP hD hS hA (va_runV (As := [.int x2]) (rest := []) S (hc.2 _) (cwV 1 S.2.2.2.2 gX9_needs_X9_needsUnlikely rfl rfl rfl (by decide +kernel) ⟨Nat.le_of_ble_eq_true rfl, Nat.le_of_ble_eq_true rfl⟩) (zpV hK hP hD (is := [0]) rfl rfl 0 rfl rfl (ci := 9) rfl) rfl rfl hl.1 rfl (lv_room (Nat.le_of_ble_eq_true rfl)) dX9_needs_54 ⟨Nat.zero_le _, Nat.zero_le _⟩) (fun H locs hP hD hS => ?_)
  exact hret _ _ _ _ _ (by subst hE; rfl) hP hS dX9_needs_57

def zPv (facts rules : Int32) (kind head body except strength off over came known fresh : Nat → Int32) (rounds : Int32) : Prop := ∀ T, FX9_tags facts rules kind head body except strength off over came known fresh rounds = T → (∀ k : Nat, k < 80 → ∃ h : Nat, h ≤ 80 ∧ T.1 k = nI h) ∧ ∀ ρ k : Nat, k < 80 → 1 ≤ ρ → ρ ≤ 80 → T.1 k = nI ρ → nI k / 20 = 2 → ∀ K : Nat → Int32, (∀ t : Nat, t < 4 → K t = FX9_cameIn T.1 (nI t) (nI ρ) 1) → zNL rules kind head body except strength off over K (nI k - nI k / 20 * 20)
/-- how many places are of a round ahead, or of a round and ahead of a place -/
def zlc (f : Nat → Int32) (ρ i : Nat) : Nat := (List.range 80).countP (fun k => decide ((f k).toNatClampNeg < ρ) || (decide ((f k).toNatClampNeg = ρ) && decide (k < i)))
theorem zlc_le (f : Nat → Int32) (ρ i : Nat) : zlc f ρ i ≤ 80 := by
  have := List.countP_le_length (p := fun k => decide ((f k).toNatClampNeg < ρ) || (decide ((f k).toNatClampNeg = ρ) && decide (k < i))) (l := List.range 80)
  rw [List.length_range] at this
  exact this
theorem zlc_up {f : Nat → Int32} {ρ i j : Nat} (h : i ≤ j) : zlc f ρ i ≤ zlc f ρ j := List.countP_mono_left (fun k _ hk => by
  simp only [Bool.or_eq_true, Bool.and_eq_true, decide_eq_true_eq] at hk ⊢
  omega)
theorem zlc_n {f : Nat → Int32} {ρ : Nat} : zlc f ρ 80 ≤ zlc f (ρ + 1) 0 := List.countP_mono_left (fun k _ hk => by
  simp only [Bool.or_eq_true, Bool.and_eq_true, decide_eq_true_eq] at hk ⊢
  omega)
theorem zlc_s {f : Nat → Int32} {ρ i : Nat} (hi : i < 80) (hf : (f i).toNatClampNeg = ρ) : zlc f ρ i < zlc f ρ (i + 1) := zcount_lt _ _ _ (fun k hk => by
  simp only [Bool.or_eq_true, Bool.and_eq_true, decide_eq_true_eq] at hk ⊢
  omega) ⟨i, List.mem_range.mpr hi, by simp [hf], by simp [hf]⟩
def zLc (f : Nat → Int32) (ρ i : Nat) (x : Int32) : Prop := ∃ L : Nat, x = nI L ∧ L ≤ zlc f ρ i
theorem zLc_in {f : Nat → Int32} {ρ i : Nat} {x : Int32} (h : zLc f ρ i x) (hi : i < 80) (hr : ρ ≤ 80) (hf : f (nI i).toNatClampNeg = nI ρ) : vp_in x 80 := by
  obtain ⟨L, rfl, h2⟩ := h
  rw [nI_clamp (by omega)] at hf
  have h3 := zlc_s (f := f) (ρ := ρ) hi (by rw [hf, nI_clamp (by omega)])
  have h4 := zlc_le f ρ (i + 1)
  exact vp_in_nI (by omega) (by decide)
theorem zLc_s {f : Nat → Int32} {ρ i : Nat} {x : Int32} (h : zLc f ρ i x) (hi : i < 80) (hr : ρ ≤ 80) (hf : f (nI i).toNatClampNeg = nI ρ) : zLc f ρ (i + 1) (x + 1) := by
  obtain ⟨L, rfl, h2⟩ := h
  rw [nI_clamp (by omega)] at hf
  have h3 := zlc_s (f := f) (ρ := ρ) hi (by rw [hf, nI_clamp (by omega)])
  exact ⟨L + 1, nI_1 L, by omega⟩
theorem zLc_up {f : Nat → Int32} {ρ i : Nat} {x : Int32} (h : zLc f ρ i x) : zLc f ρ (i + 1) x := by
  obtain ⟨L, h1, h2⟩ := h
  exact ⟨L, h1, Nat.le_trans h2 (zlc_up (Nat.le_succ i))⟩
theorem zLc_n {f : Nat → Int32} {ρ : Nat} {x : Int32} (h : zLc f ρ 80 x) : zLc f (ρ + 1) 0 x := by
  obtain ⟨L, h1, h2⟩ := h
  exact ⟨L, h1, Nat.le_trans h2 zlc_n⟩
theorem zLc_80 {f : Nat → Int32} {ρ i : Nat} {x : Int32} (h : zLc f ρ i x) : ∃ L : Nat, L ≤ 80 ∧ x = nI L := by
  obtain ⟨L, h1, h2⟩ := h
  exact ⟨L, Nat.le_trans h2 (zlc_le _ _ _), h1⟩
theorem zcmI {f : Nat → Int32} {x y : Int32} (h : ∀ k : Nat, k < 80 → ∃ h : Nat, h ≤ 80 ∧ f k = nI h) (hx : vp_in x 4) (hy : vp_in y 20) : ∃ h : Nat, h ≤ 80 ∧ f (20 * x + y).toNatClampNeg = nI h := by
  obtain ⟨i, hi, rfl⟩ := vp_in_of hx (by decide)
  obtain ⟨j, hj, rfl⟩ := vp_in_of hy (by decide)
  rw [show (20 : Int32) = nI 20 from rfl, pk_mul, nI_add, nI_clamp (by omega)]
  exact h _ (by omega)
theorem zk20 {k : Nat} (h : k < 80) : vp_in (nI k / 20) 4 := by
  rw [show (20 : Int32) = nI 20 from rfl, pk_div (by omega) (by decide) (by decide)]
  exact vp_in_nI (by omega) (by decide)
theorem zge80 {i : Nat} (h : i ≤ 80) (c : (80 : Int32) ≤ nI i) : i = 80 := by
  rw [show (80 : Int32) = nI 80 from rfl, nI_leI (by decide) (by omega)] at c
  omega
theorem zknS {K : Nat → Int32} {i : Nat} {g : Nat → Int32} (hi : i < 4) (h : ∀ t : Nat, t < i → K t = g t) : ∀ t : Nat, t < i + 1 → upd K (nI i).toNatClampNeg (g i) t = g t := by
  intro t ht
  rw [nI_clamp (by omega)]
  by_cases e : t = i
  · subst e; exact pk_us
  · rw [pk_un e]; exact h t (by omega)

