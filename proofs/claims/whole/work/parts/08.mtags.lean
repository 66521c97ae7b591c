def rmX9_has : Room := { frames := 0, cells := 0, slots := 0, locals := 0 }
set_option maxHeartbeats 4000000 in
set_option maxRecDepth 100000 in
theorem c_X9_has (l : Launch) (G : zG) (x0 : Int32) (x1 : Int32) (T : Int32) (hT : FX9_has x0 x1 = T) : zR l yX9_has wsX9_has rmX9_has .boolean G [.int x0, .int x1] [] T := by
  refine zR.mk (cc := cX9_has) (maxL := 2) (by decide +kernel) rfl (Nat.le_of_ble_eq_true rfl) ?_
  intro p e s m args below meth c Q A ls S hK hD hA hP hl hret
  have hx := S.1
  have hb := S.2.1
  have hl : lv_has ls 2 [(0, .int x0), (1, .int x1)] := hl
  have hE := hT.symm.trans (FX9_has.eq_1 _ _)
  refine lv_iload_n hx hb dX9_has_0 rfl (lv_at hl 0 rfl) ?_
  refine lv_iload_n hx hb dX9_has_1 rfl (lv_at hl 1 rfl) ?_
  refine lv_ishr hx hb dX9_has_2 ?_
  refine lv_iconst (v := 1) hx hb dX9_has_3 (by decide) ?_
  refine lv_iand hx hb dX9_has_4 ?_
  refine lv_iconst (v := 1) hx hb dX9_has_5 (by decide) ?_
  refine lv_icmp_ne (tgt := 13) hx hb dX9_has_6 (by decide) (fun c6 => ?_) (fun c6 => ?_)
  · have hE := hE.trans (if_neg c6)
    refine lv_iconst (v := 0) hx hb dX9_has_13 (by decide) ?_
    exact hret _ _ _ hE zn0 dX9_has_14
  · have hE := hE.trans (if_pos c6)
    refine lv_iconst (v := 1) hx hb dX9_has_9 (by decide) ?_
    refine lv_goto (tgt := 14) hx hb dX9_has_10 (by decide) ?_
    exact hret _ _ _ hE zn1 dX9_has_14

theorem zhas98 (x y : Int32) : FX9_has x y = FX8_has x y := rfl
theorem zhas9 {x : Int32} {q : Nat} (h : q < 32) : FX9_has x (nI q) = if zb x q = true then 1 else 0 := by rw [zhas98, zhas h]
theorem zfr_or1 {k f : Int32} {i : Nat} (h : zfr k f) (hi : i < 20) (hk : FX9_has k (nI i) = 0) : zfr k (f ||| (1 <<< (nI i &&& 31))) := zfr_or1' h hi ((zhas0 (by omega)).mp (by rw [← zhas98]; exact hk))

theorem in_X9_isFor_9 : ∀ w ∈ u_ws RX9 TX9 40, w ∈ wsX9_isFor := by decide +kernel
def rmX9_isFor : Room := { frames := 0, cells := 0, slots := 0, locals := 0 }
set_option maxHeartbeats 4000000 in
set_option maxRecDepth 100000 in
theorem c_X9_isFor (l : Launch) (G : zG) (am : Nat → Nat) (bm : S9) (x1 : Int32) (x2 : Int32) (hx1_16 : vp_in x1 16) (T : Int32) (hT : FX9_isFor (g9_head bm) (g9_off bm) x1 x2 = T) : zR l yX9_isFor wsX9_isFor rmX9_isFor .boolean G [.ref (am 0), .int x1, .int x2] [w9 G am bm] T := by
  refine zR.mk (cc := cX9_isFor) (maxL := 3) (by decide +kernel) rfl (Nat.le_of_ble_eq_true rfl) ?_
  intro p e s m args below meth c Q A ls S hK hD hA hP hl hret
  have hx := S.1
  have hb := S.2.1
  have hl : lv_has ls 3 [(0, .ref (am 0)), (1, .int x1), (2, .int x2)] := hl
  have hE := hT.symm.trans (FX9_isFor.eq_1 _ _ _ _)
  refine lv_aload_n hx hb dX9_isFor_0 rfl (lv_at hl 0 rfl) ?_
  refine zg9_off S in_X9_isFor_9 hK hP 0 rfl (List.mem_of_getElem? (i := 1) rfl) dX9_isFor_1 ?_
  refine lv_iload_n hx hb dX9_isFor_4 rfl (lv_at hl 1 rfl) ?_
  refine zl9_off S hK hP 0 rfl hx1_16 (f := (g9_off bm)) rfl dX9_isFor_5 ?_
  refine lv_if_ne (tgt := 23) hx hb dX9_isFor_6 (by decide) (fun c6 => ?_) (fun c6 => ?_)
  · have hE := hE.trans (if_neg c6)
    refine lv_iconst (v := 0) hx hb dX9_isFor_23 (by decide) ?_
    exact hret _ _ _ hE zn0 dX9_isFor_24
  · have hE := hE.trans (if_pos c6)
    refine lv_aload_n hx hb dX9_isFor_9 rfl (lv_at hl 0 rfl) ?_
    refine zg9_head S in_X9_isFor_9 hK hP 0 rfl (List.mem_of_getElem? (i := 2) rfl) dX9_isFor_10 ?_
    refine lv_iload_n hx hb dX9_isFor_13 rfl (lv_at hl 1 rfl) ?_
    refine zl9_head S hK hP 0 rfl hx1_16 (f := (g9_head bm)) rfl dX9_isFor_14 ?_
    refine lv_iload_n hx hb dX9_isFor_15 rfl (lv_at hl 2 rfl) ?_
    refine lv_icmp_ne (tgt := 23) hx hb dX9_isFor_16 (by decide) (fun c16 => ?_) (fun c16 => ?_)
    · have hE := hE.trans (if_neg c16)
      refine lv_iconst (v := 0) hx hb dX9_isFor_23 (by decide) ?_
      exact hret _ _ _ hE zn0 dX9_isFor_24
    · have hE := hE.trans (if_pos c16)
      refine lv_iconst (v := 1) hx hb dX9_isFor_19 (by decide) ?_
      refine lv_goto (tgt := 24) hx hb dX9_isFor_20 (by decide) ?_
      exact hret _ _ _ hE zn1 dX9_isFor_24

theorem in_X9_isSure_9 : ∀ w ∈ u_ws RX9 TX9 40, w ∈ wsX9_isSure := by decide +kernel
def rmX9_isSure : Room := { frames := 1, cells := 0, slots := 0, locals := 22 }
set_option maxHeartbeats 4000000 in
set_option maxRecDepth 100000 in
theorem c_X9_isSure (l : Launch) (G : zG) (am : Nat → Nat) (bm : S9) (x1 : Int32) (hz_m_rules : ∃ N : Nat, N ≤ 16 ∧ g9_rules bm = nI N) (T : Int32) (hT : FX9_isSure (g9_facts bm) (g9_rules bm) (g9_kind bm) (g9_head bm) (g9_body bm) (g9_off bm) (g9_known bm) x1 = T) : zR l yX9_isSure wsX9_isSure rmX9_isSure .boolean G [.ref (am 0), .int x1] [w9 G am bm] T := by
  refine zR.mk (cc := cX9_isSure) (maxL := 3) (by decide +kernel) rfl (Nat.le_of_ble_eq_true rfl) ?_
  intro p e s m args below meth c Q A ls S hK hD hA hP hl hret
  have hx := S.1
  have hb := S.2.1
  have hl : lv_has ls 3 [(0, .ref (am 0)), (1, .int x1)] := hl
  obtain ⟨N_m_rules, hN_m_rules, hs_m_rules⟩ := id hz_m_rules
  have hE := hT.symm.trans (FX9_isSure.eq_1 _ _ _ _ _ _ _ _)
  refine lv_aload_n hx hb dX9_isSure_0 rfl (lv_at hl 0 rfl) ?_
  refine zg9_facts S in_X9_isSure_9 hK hP 0 rfl (List.mem_of_getElem? (i := 1) rfl) (v := (g9_facts bm)) rfl dX9_isSure_1 ?_
  refine lv_iload_n hx hb dX9_isSure_4 rfl (lv_at hl 1 rfl) ?_
  obtain ⟨t5, ht5⟩ : ∃ z, FX9_has (g9_facts bm) x1 = z := ⟨_, rfl⟩
  have hE := hE.trans (bnd_eq ht5)
  have hc := c_X9_has l G (g9_facts bm) x1 _ ht5
  refine zgoR (va_runS (As := [.int (g9_facts bm), .int x1]) (rest := []) S (hc _) (va_cwS 2 S.2.2.2.2 gX9_isSure_X9_has rfl rfl rfl (by decide +kernel) ⟨Nat.le_of_ble_eq_true rfl, Nat.le_of_ble_eq_true rfl⟩) (zpS hK hP hD (is := []) rfl rfl) rfl rfl hl.1 rfl (lv_room (Nat.le_of_ble_eq_true rfl)) dX9_isSure_5 ⟨Nat.zero_le _, Nat.zero_le _⟩) (fun hn5 => ?_)
  refine lv_if_eq (tgt := 13) hx hb dX9_isSure_8 (by decide) (fun c8 => ?_) (fun c8 => ?_)
  · have hE := hE.trans (if_pos c8)
    refine lv_iconst (v := 0) hx hb dX9_isSure_13 (by decide) ?_
    have hB67 : ∀ (ls : Array Slot), T = FX9_isSure_67 (g9_facts bm) (g9_rules bm) (g9_kind bm) (g9_head bm) (g9_body bm) (g9_off bm) (g9_known bm) x1  → lv_has ls 3 [] → W p l e rmX9_isSure s m args below meth c s.heap [] 0 0 Q (F0 m 67 ls []) := by
      intro ls hE hl
      have hE := hE.trans (FX9_isSure_67.eq_1 _ _ _ _ _ _ _ _)
      refine lv_iconst (v := 0) hx hb dX9_isSure_67 (by decide) ?_
      exact hret _ _ _ hE zn0 dX9_isSure_68
    have hB15 : ∀ (n15 : Nat) (i2_15 : Nat) (ls : Array Slot), (i2_15 ≤ N_m_rules) → 17 ≤ i2_15 + n15 → T = FX9_isSure_15 (g9_facts bm) (g9_rules bm) (g9_kind bm) (g9_head bm) (g9_body bm) (g9_off bm) (g9_known bm) x1 (FX9_isSure_67 (g9_facts bm) (g9_rules bm) (g9_kind bm) (g9_head bm) (g9_body bm) (g9_off bm) (g9_known bm) x1) n15 (nI i2_15) → lv_has ls 3 [(0, .ref (am 0)), (1, .int x1), (2, .int (nI i2_15))] → W p l e rmX9_isSure s m args below meth c s.heap [] 0 0 Q (F0 m 15 ls []) := by
      intro n15
      induction n15 with
      | zero =>
        intro i2_15 ls hi2_15 hn hE hl
        exact absurd hn (by omega)
      | succ n15 ih15 =>
        intro i2_15 ls hi2_15 hn hE hl
        have hE := hE.trans (FX9_isSure_15.eq_2 _ _ _ _ _ _ _ _ _ _ _)
        refine lv_iload_n hx hb dX9_isSure_15 rfl (lv_at hl 2 rfl) ?_
        refine lv_aload_n hx hb dX9_isSure_16 rfl (lv_at hl 0 rfl) ?_
        refine zg9_rules S in_X9_isSure_9 hK hP 0 rfl (List.mem_of_getElem? (i := 2) rfl) (v := (g9_rules bm)) rfl dX9_isSure_17 ?_
        refine lv_icmp_ge (tgt := 67) hx hb dX9_isSure_20 (by decide) (fun c20 => ?_) (fun c20 => ?_)
        · have hE := hE.trans (if_pos c20)
          exact hB67 _ hE (lv_sub hl [] rfl)
        · have hE := hE.trans (if_neg c20)
          have hl2_15 : i2_15 < N_m_rules := zlt hs_m_rules (by omega) (by omega) c20
          refine lv_aload_n hx hb dX9_isSure_23 rfl (lv_at hl 0 rfl) ?_
          refine lv_iload_n hx hb dX9_isSure_24 rfl (lv_at hl 2 rfl) ?_
          refine lv_iload_n hx hb dX9_isSure_25 rfl (lv_at hl 1 rfl) ?_
          obtain ⟨t26, ht26⟩ : ∃ z, FX9_isFor (g9_head bm) (g9_off bm) (nI i2_15) x1 = z := ⟨_, rfl⟩
          have hE := hE.trans (bnd_eq ht26)
          have hc := c_X9_isFor l G am bm (nI i2_15) x1 ((vp_in_nI (by omega) (by omega))) _ ht26
          refine zgoR (va_runV (As := [.int (nI i2_15), .int x1]) (rest := []) S (hc _) (cwV 2 S.2.2.2.2 gX9_isSure_X9_isFor rfl rfl rfl (by decide +kernel) ⟨Nat.le_of_ble_eq_true rfl, Nat.le_of_ble_eq_true rfl⟩) (zpV hK hP hD (is := [0]) rfl rfl 0 rfl rfl (ci := 9) rfl) rfl rfl hl.1 rfl (lv_room (Nat.le_of_ble_eq_true rfl)) dX9_isSure_26 ⟨Nat.zero_le _, Nat.zero_le _⟩) (fun hn26 => ?_)
          refine lv_if_eq (tgt := 61) hx hb dX9_isSure_29 (by decide) (fun c29 => ?_) (fun c29 => ?_)
          · have hE := hE.trans (if_pos c29)
            refine lv_iinc (v := (nI (i2_15 + 1))) (lv' := [(2, .int (nI (i2_15 + 1))), (0, .ref (am 0)), (1, .int x1)]) hx hb dX9_isSure_61 hl (k := 2) rfl (nI_1 i2_15) (by decide) rfl (fun ls hl => ?_)
            try rw [nI_1 i2_15] at hE
            refine lv_goto (tgt := 15) hx hb dX9_isSure_64 (by decide) ?_
            exact ih15 (i2_15 + 1) _ (by first | assumption | omega) (by omega) hE (lv_sub hl [1, 2, 0] rfl)
          · have hE := hE.trans (if_neg c29)
            refine lv_aload_n hx hb dX9_isSure_32 rfl (lv_at hl 0 rfl) ?_
            refine zg9_kind S in_X9_isSure_9 hK hP 0 rfl (List.mem_of_getElem? (i := 3) rfl) dX9_isSure_33 ?_
            refine lv_iload_n hx hb dX9_isSure_36 rfl (lv_at hl 2 rfl) ?_
            refine zl9_kind S hK hP 0 rfl (vp_in_nI (by omega) (by omega)) (f := (g9_kind bm)) rfl dX9_isSure_37 ?_
            refine lv_if_ne (tgt := 61) hx hb dX9_isSure_38 (by decide) (fun c38 => ?_) (fun c38 => ?_)
            · have hE := hE.trans (if_neg c38)
              refine lv_iinc (v := (nI (i2_15 + 1))) (lv' := [(2, .int (nI (i2_15 + 1))), (0, .ref (am 0)), (1, .int x1)]) hx hb dX9_isSure_61 hl (k := 2) rfl (nI_1 i2_15) (by decide) rfl (fun ls hl => ?_)
              try rw [nI_1 i2_15] at hE
              refine lv_goto (tgt := 15) hx hb dX9_isSure_64 (by decide) ?_
              exact ih15 (i2_15 + 1) _ (by first | assumption | omega) (by omega) hE (lv_sub hl [1, 2, 0] rfl)
            · have hE := hE.trans (if_pos c38)
              refine lv_aload_n hx hb dX9_isSure_41 rfl (lv_at hl 0 rfl) ?_
              refine zg9_body S in_X9_isSure_9 hK hP 0 rfl (List.mem_of_getElem? (i := 4) rfl) dX9_isSure_42 ?_
              refine lv_iload_n hx hb dX9_isSure_45 rfl (lv_at hl 2 rfl) ?_
              refine zl9_body S hK hP 0 rfl (vp_in_nI (by omega) (by omega)) (f := (g9_body bm)) rfl dX9_isSure_46 ?_
              refine lv_aload_n hx hb dX9_isSure_47 rfl (lv_at hl 0 rfl) ?_
              refine zg9_known S in_X9_isSure_9 hK hP 0 rfl (List.mem_of_getElem? (i := 5) rfl) dX9_isSure_48 ?_
              refine lv_iconst (v := 0) hx hb dX9_isSure_51 (by decide) ?_
              refine zl9_known S hK hP 0 rfl (zin_k (n := 0) rfl (by decide) (by decide)) (f := (g9_known bm)) rfl dX9_isSure_52 ?_
              refine lv_iconst (v := (-1)) hx hb dX9_isSure_53 (by decide) ?_
              refine lv_ixor hx hb dX9_isSure_54 ?_
              refine lv_iand hx hb dX9_isSure_55 ?_
              refine lv_if_ne (tgt := 61) hx hb dX9_isSure_56 (by decide) (fun c56 => ?_) (fun c56 => ?_)
              · have hE := hE.trans (if_neg c56)
                refine lv_iinc (v := (nI (i2_15 + 1))) (lv' := [(2, .int (nI (i2_15 + 1))), (0, .ref (am 0)), (1, .int x1)]) hx hb dX9_isSure_61 hl (k := 2) rfl (nI_1 i2_15) (by decide) rfl (fun ls hl => ?_)
                try rw [nI_1 i2_15] at hE
                refine lv_goto (tgt := 15) hx hb dX9_isSure_64 (by decide) ?_
                exact ih15 (i2_15 + 1) _ (by first | assumption | omega) (by omega) hE (lv_sub hl [1, 2, 0] rfl)
              · have hE := hE.trans (if_pos c56)
                refine lv_iconst (v := 1) hx hb dX9_isSure_59 (by decide) ?_
                exact hret _ _ _ hE zn1 dX9_isSure_60
    refine lv_istore_n (lv' := [(2, .int 0), (0, .ref (am 0)), (1, .int x1)]) hx hb dX9_isSure_14 rfl hl (by decide) rfl (fun ls hl => ?_)
    exact hB15 17 0 _ (by first | assumption | omega) (by omega) hE (lv_sub hl [1, 2, 0] rfl)
  · have hE := hE.trans (if_neg c8)
    refine lv_iconst (v := 1) hx hb dX9_isSure_11 (by decide) ?_
    exact hret _ _ _ hE zn1 dX9_isSure_12

theorem in_X9_isNever_9 : ∀ w ∈ u_ws RX9 TX9 40, w ∈ wsX9_isNever := by decide +kernel
def rmX9_isNever : Room := { frames := 1, cells := 0, slots := 0, locals := 22 }
set_option maxHeartbeats 4000000 in
set_option maxRecDepth 100000 in
theorem c_X9_isNever (l : Launch) (G : zG) (am : Nat → Nat) (bm : S9) (x1 : Int32) (hz_m_rules : ∃ N : Nat, N ≤ 16 ∧ g9_rules bm = nI N) (T : Int32) (hT : FX9_isNever (g9_facts bm) (g9_rules bm) (g9_kind bm) (g9_head bm) (g9_body bm) (g9_off bm) (g9_known bm) x1 = T) : zR l yX9_isNever wsX9_isNever rmX9_isNever .boolean G [.ref (am 0), .int x1] [w9 G am bm] T := by
  refine zR.mk (cc := cX9_isNever) (maxL := 3) (by decide +kernel) rfl (Nat.le_of_ble_eq_true rfl) ?_
  intro p e s m args below meth c Q A ls S hK hD hA hP hl hret
  have hx := S.1
  have hb := S.2.1
  have hl : lv_has ls 3 [(0, .ref (am 0)), (1, .int x1)] := hl
  obtain ⟨N_m_rules, hN_m_rules, hs_m_rules⟩ := id hz_m_rules
  have hE := hT.symm.trans (FX9_isNever.eq_1 _ _ _ _ _ _ _ _)
  refine lv_aload_n hx hb dX9_isNever_0 rfl (lv_at hl 0 rfl) ?_
  refine zg9_facts S in_X9_isNever_9 hK hP 0 rfl (List.mem_of_getElem? (i := 1) rfl) (v := (g9_facts bm)) rfl dX9_isNever_1 ?_
  refine lv_iload_n hx hb dX9_isNever_4 rfl (lv_at hl 1 rfl) ?_
  obtain ⟨t5, ht5⟩ : ∃ z, FX9_has (g9_facts bm) x1 = z := ⟨_, rfl⟩
  have hE := hE.trans (bnd_eq ht5)
  have hc := c_X9_has l G (g9_facts bm) x1 _ ht5
  refine zgoR (va_runS (As := [.int (g9_facts bm), .int x1]) (rest := []) S (hc _) (va_cwS 2 S.2.2.2.2 gX9_isNever_X9_has rfl rfl rfl (by decide +kernel) ⟨Nat.le_of_ble_eq_true rfl, Nat.le_of_ble_eq_true rfl⟩) (zpS hK hP hD (is := []) rfl rfl) rfl rfl hl.1 rfl (lv_room (Nat.le_of_ble_eq_true rfl)) dX9_isNever_5 ⟨Nat.zero_le _, Nat.zero_le _⟩) (fun hn5 => ?_)
  refine lv_if_eq (tgt := 13) hx hb dX9_isNever_8 (by decide) (fun c8 => ?_) (fun c8 => ?_)
  · have hE := hE.trans (if_pos c8)
    refine lv_iconst (v := 0) hx hb dX9_isNever_13 (by decide) ?_
    have hB65 : ∀ (ls : Array Slot), T = FX9_isNever_65 (g9_facts bm) (g9_rules bm) (g9_kind bm) (g9_head bm) (g9_body bm) (g9_off bm) (g9_known bm) x1  → lv_has ls 3 [] → W p l e rmX9_isNever s m args below meth c s.heap [] 0 0 Q (F0 m 65 ls []) := by
      intro ls hE hl
      have hE := hE.trans (FX9_isNever_65.eq_1 _ _ _ _ _ _ _ _)
      refine lv_iconst (v := 1) hx hb dX9_isNever_65 (by decide) ?_
      exact hret _ _ _ hE zn1 dX9_isNever_66
    have hB15 : ∀ (n15 : Nat) (i2_15 : Nat) (ls : Array Slot), (i2_15 ≤ N_m_rules) → 17 ≤ i2_15 + n15 → T = FX9_isNever_15 (g9_facts bm) (g9_rules bm) (g9_kind bm) (g9_head bm) (g9_body bm) (g9_off bm) (g9_known bm) x1 (FX9_isNever_65 (g9_facts bm) (g9_rules bm) (g9_kind bm) (g9_head bm) (g9_body bm) (g9_off bm) (g9_known bm) x1) n15 (nI i2_15) → lv_has ls 3 [(0, .ref (am 0)), (1, .int x1), (2, .int (nI i2_15))] → W p l e rmX9_isNever s m args below meth c s.heap [] 0 0 Q (F0 m 15 ls []) := by
      intro n15
      induction n15 with
      | zero =>
        intro i2_15 ls hi2_15 hn hE hl
        exact absurd hn (by omega)
      | succ n15 ih15 =>
        intro i2_15 ls hi2_15 hn hE hl
        have hE := hE.trans (FX9_isNever_15.eq_2 _ _ _ _ _ _ _ _ _ _ _)
        refine lv_iload_n hx hb dX9_isNever_15 rfl (lv_at hl 2 rfl) ?_
        refine lv_aload_n hx hb dX9_isNever_16 rfl (lv_at hl 0 rfl) ?_
        refine zg9_rules S in_X9_isNever_9 hK hP 0 rfl (List.mem_of_getElem? (i := 2) rfl) (v := (g9_rules bm)) rfl dX9_isNever_17 ?_
        refine lv_icmp_ge (tgt := 65) hx hb dX9_isNever_20 (by decide) (fun c20 => ?_) (fun c20 => ?_)
        · have hE := hE.trans (if_pos c20)
          exact hB65 _ hE (lv_sub hl [] rfl)
        · have hE := hE.trans (if_neg c20)
          have hl2_15 : i2_15 < N_m_rules := zlt hs_m_rules (by omega) (by omega) c20
          refine lv_aload_n hx hb dX9_isNever_23 rfl (lv_at hl 0 rfl) ?_
          refine lv_iload_n hx hb dX9_isNever_24 rfl (lv_at hl 2 rfl) ?_
          refine lv_iload_n hx hb dX9_isNever_25 rfl (lv_at hl 1 rfl) ?_
          obtain ⟨t26, ht26⟩ : ∃ z, FX9_isFor (g9_head bm) (g9_off bm) (nI i2_15) x1 = z := ⟨_, rfl⟩
          have hE := hE.trans (bnd_eq ht26)
          have hc := c_X9_isFor l G am bm (nI i2_15) x1 ((vp_in_nI (by omega) (by omega))) _ ht26
          refine zgoR (va_runV (As := [.int (nI i2_15), .int x1]) (rest := []) S (hc _) (cwV 2 S.2.2.2.2 gX9_isNever_X9_isFor rfl rfl rfl (by decide +kernel) ⟨Nat.le_of_ble_eq_true rfl, Nat.le_of_ble_eq_true rfl⟩) (zpV hK hP hD (is := [0]) rfl rfl 0 rfl rfl (ci := 9) rfl) rfl rfl hl.1 rfl (lv_room (Nat.le_of_ble_eq_true rfl)) dX9_isNever_26 ⟨Nat.zero_le _, Nat.zero_le _⟩) (fun hn26 => ?_)
          refine lv_if_eq (tgt := 59) hx hb dX9_isNever_29 (by decide) (fun c29 => ?_) (fun c29 => ?_)
          · have hE := hE.trans (if_pos c29)
            refine lv_iinc (v := (nI (i2_15 + 1))) (lv' := [(2, .int (nI (i2_15 + 1))), (0, .ref (am 0)), (1, .int x1)]) hx hb dX9_isNever_59 hl (k := 2) rfl (nI_1 i2_15) (by decide) rfl (fun ls hl => ?_)
            try rw [nI_1 i2_15] at hE
            refine lv_goto (tgt := 15) hx hb dX9_isNever_62 (by decide) ?_
            exact ih15 (i2_15 + 1) _ (by first | assumption | omega) (by omega) hE (lv_sub hl [1, 2, 0] rfl)
          · have hE := hE.trans (if_neg c29)
            refine lv_aload_n hx hb dX9_isNever_32 rfl (lv_at hl 0 rfl) ?_
            refine zg9_kind S in_X9_isNever_9 hK hP 0 rfl (List.mem_of_getElem? (i := 3) rfl) dX9_isNever_33 ?_
            refine lv_iload_n hx hb dX9_isNever_36 rfl (lv_at hl 2 rfl) ?_
            refine zl9_kind S hK hP 0 rfl (vp_in_nI (by omega) (by omega)) (f := (g9_kind bm)) rfl dX9_isNever_37 ?_
            refine lv_if_ne (tgt := 59) hx hb dX9_isNever_38 (by decide) (fun c38 => ?_) (fun c38 => ?_)
            · have hE := hE.trans (if_neg c38)
              refine lv_iinc (v := (nI (i2_15 + 1))) (lv' := [(2, .int (nI (i2_15 + 1))), (0, .ref (am 0)), (1, .int x1)]) hx hb dX9_isNever_59 hl (k := 2) rfl (nI_1 i2_15) (by decide) rfl (fun ls hl => ?_)
              try rw [nI_1 i2_15] at hE
              refine lv_goto (tgt := 15) hx hb dX9_isNever_62 (by decide) ?_
              exact ih15 (i2_15 + 1) _ (by first | assumption | omega) (by omega) hE (lv_sub hl [1, 2, 0] rfl)
            · have hE := hE.trans (if_pos c38)
              refine lv_aload_n hx hb dX9_isNever_41 rfl (lv_at hl 0 rfl) ?_
              refine zg9_body S in_X9_isNever_9 hK hP 0 rfl (List.mem_of_getElem? (i := 4) rfl) dX9_isNever_42 ?_
              refine lv_iload_n hx hb dX9_isNever_45 rfl (lv_at hl 2 rfl) ?_
              refine zl9_body S hK hP 0 rfl (vp_in_nI (by omega) (by omega)) (f := (g9_body bm)) rfl dX9_isNever_46 ?_
              refine lv_aload_n hx hb dX9_isNever_47 rfl (lv_at hl 0 rfl) ?_
              refine zg9_known S in_X9_isNever_9 hK hP 0 rfl (List.mem_of_getElem? (i := 5) rfl) dX9_isNever_48 ?_
              refine lv_iconst (v := 1) hx hb dX9_isNever_51 (by decide) ?_
              refine zl9_known S hK hP 0 rfl (zin_k (n := 1) rfl (by decide) (by decide)) (f := (g9_known bm)) rfl dX9_isNever_52 ?_
              refine lv_iand hx hb dX9_isNever_53 ?_
              refine lv_if_ne (tgt := 59) hx hb dX9_isNever_54 (by decide) (fun c54 => ?_) (fun c54 => ?_)
              · have hE := hE.trans (if_neg c54)
                refine lv_iinc (v := (nI (i2_15 + 1))) (lv' := [(2, .int (nI (i2_15 + 1))), (0, .ref (am 0)), (1, .int x1)]) hx hb dX9_isNever_59 hl (k := 2) rfl (nI_1 i2_15) (by decide) rfl (fun ls hl => ?_)
                try rw [nI_1 i2_15] at hE
                refine lv_goto (tgt := 15) hx hb dX9_isNever_62 (by decide) ?_
                exact ih15 (i2_15 + 1) _ (by first | assumption | omega) (by omega) hE (lv_sub hl [1, 2, 0] rfl)
              · have hE := hE.trans (if_pos c54)
                refine lv_iconst (v := 0) hx hb dX9_isNever_57 (by decide) ?_
                exact hret _ _ _ hE zn0 dX9_isNever_58
    refine lv_istore_n (lv' := [(2, .int 0), (0, .ref (am 0)), (1, .int x1)]) hx hb dX9_isNever_14 rfl hl (by decide) rfl (fun ls hl => ?_)
    exact hB15 17 0 _ (by first | assumption | omega) (by omega) hE (lv_sub hl [1, 2, 0] rfl)
  · have hE := hE.trans (if_neg c8)
    refine lv_iconst (v := 0) hx hb dX9_isNever_11 (by decide) ?_
    exact hret _ _ _ hE zn0 dX9_isNever_12

def rmX9_otherOf : Room := { frames := 0, cells := 0, slots := 0, locals := 0 }
set_option maxHeartbeats 4000000 in
set_option maxRecDepth 100000 in
theorem c_X9_otherOf (l : Launch) (G : zG) (x0 : Int32) (T : Int32) (hT : FX9_otherOf x0 = T) : zR l yX9_otherOf wsX9_otherOf rmX9_otherOf .int G [.int x0] [] T := by
  refine zR.mk (cc := cX9_otherOf) (maxL := 1) (by decide +kernel) rfl (Nat.le_of_ble_eq_true rfl) ?_
  intro p e s m args below meth c Q A ls S hK hD hA hP hl hret
  have hx := S.1
  have hb := S.2.1
  have hl : lv_has ls 1 [(0, .int x0)] := hl
  have hE := hT.symm.trans (FX9_otherOf.eq_1 _)
  refine lv_iload_n hx hb dX9_otherOf_0 rfl (lv_at hl 0 rfl) ?_
  refine lv_bipush (v := 10) hx hb dX9_otherOf_1 (by decide) ?_
  refine lv_iadd hx hb dX9_otherOf_3 ?_
  refine lv_bipush (v := 20) hx hb dX9_otherOf_4 (by decide) ?_
  refine lv_irem hx hb dX9_otherOf_6 (by decide) ?_
  exact hret _ _ _ hE rfl dX9_otherOf_7

theorem in_X9_isForward_9 : ∀ w ∈ u_ws RX9 TX9 40, w ∈ wsX9_isForward := by decide +kernel
def rmX9_isForward : Room := { frames := 1, cells := 0, slots := 0, locals := 22 }
set_option maxHeartbeats 4000000 in
set_option maxRecDepth 100000 in
theorem c_X9_isForward (l : Launch) (G : zG) (am : Nat → Nat) (bm : S9) (x1 : Int32) (x2 : Int32) (hx1_16 : vp_in x1 16) (T : Int32) (hT : FX9_isForward (g9_kind bm) (g9_head bm) (g9_off bm) x1 x2 = T) : zR l yX9_isForward wsX9_isForward rmX9_isForward .boolean G [.ref (am 0), .int x1, .int x2] [w9 G am bm] T := by
  refine zR.mk (cc := cX9_isForward) (maxL := 3) (by decide +kernel) rfl (Nat.le_of_ble_eq_true rfl) ?_
  intro p e s m args below meth c Q A ls S hK hD hA hP hl hret
  have hx := S.1
  have hb := S.2.1
  have hl : lv_has ls 3 [(0, .ref (am 0)), (1, .int x1), (2, .int x2)] := hl
  have hE := hT.symm.trans (FX9_isForward.eq_1 _ _ _ _ _)
  refine lv_aload_n hx hb dX9_isForward_0 rfl (lv_at hl 0 rfl) ?_
  refine lv_iload_n hx hb dX9_isForward_1 rfl (lv_at hl 1 rfl) ?_
  refine lv_iload_n hx hb dX9_isForward_2 rfl (lv_at hl 2 rfl) ?_
  obtain ⟨t3, ht3⟩ : ∃ z, FX9_isFor (g9_head bm) (g9_off bm) x1 x2 = z := ⟨_, rfl⟩
  have hE := hE.trans (bnd_eq ht3)
  have hc := c_X9_isFor l G am bm x1 x2 (hx1_16) _ ht3
  refine zgoR (va_runV (As := [.int x1, .int x2]) (rest := []) S (hc _) (cwV 2 S.2.2.2.2 gX9_isForward_X9_isFor rfl rfl rfl (by decide +kernel) ⟨Nat.le_of_ble_eq_true rfl, Nat.le_of_ble_eq_true rfl⟩) (zpV hK hP hD (is := [0]) rfl rfl 0 rfl rfl (ci := 9) rfl) rfl rfl hl.1 rfl (lv_room (Nat.le_of_ble_eq_true rfl)) dX9_isForward_3 ⟨Nat.zero_le _, Nat.zero_le _⟩) (fun hn3 => ?_)
  refine lv_if_eq (tgt := 23) hx hb dX9_isForward_6 (by decide) (fun c6 => ?_) (fun c6 => ?_)
  · have hE := hE.trans (if_pos c6)
    refine lv_iconst (v := 0) hx hb dX9_isForward_23 (by decide) ?_
    exact hret _ _ _ hE zn0 dX9_isForward_24
  · have hE := hE.trans (if_neg c6)
    refine lv_aload_n hx hb dX9_isForward_9 rfl (lv_at hl 0 rfl) ?_
    refine zg9_kind S in_X9_isForward_9 hK hP 0 rfl (List.mem_of_getElem? (i := 1) rfl) dX9_isForward_10 ?_
    refine lv_iload_n hx hb dX9_isForward_13 rfl (lv_at hl 1 rfl) ?_
    refine zl9_kind S hK hP 0 rfl hx1_16 (f := (g9_kind bm)) rfl dX9_isForward_14 ?_
    refine lv_iconst (v := 2) hx hb dX9_isForward_15 (by decide) ?_
    refine lv_icmp_ge (tgt := 23) hx hb dX9_isForward_16 (by decide) (fun c16 => ?_) (fun c16 => ?_)
    · have hE := hE.trans (if_pos c16)
      refine lv_iconst (v := 0) hx hb dX9_isForward_23 (by decide) ?_
      exact hret _ _ _ hE zn0 dX9_isForward_24
    · have hE := hE.trans (if_neg c16)
      refine lv_iconst (v := 1) hx hb dX9_isForward_19 (by decide) ?_
      refine lv_goto (tgt := 24) hx hb dX9_isForward_20 (by decide) ?_
      exact hret _ _ _ hE zn1 dX9_isForward_24

theorem in_X9_applies_9 : ∀ w ∈ u_ws RX9 TX9 40, w ∈ wsX9_applies := by decide +kernel
def rmX9_applies : Room := { frames := 0, cells := 0, slots := 0, locals := 0 }
set_option maxHeartbeats 4000000 in
set_option maxRecDepth 100000 in
theorem c_X9_applies (l : Launch) (G : zG) (am : Nat → Nat) (bm : S9) (x1 : Int32) (hx1_16 : vp_in x1 16) (T : Int32) (hT : FX9_applies (g9_body bm) (g9_except bm) (g9_known bm) x1 = T) : zR l yX9_applies wsX9_applies rmX9_applies .boolean G [.ref (am 0), .int x1] [w9 G am bm] T := by
  refine zR.mk (cc := cX9_applies) (maxL := 2) (by decide +kernel) rfl (Nat.le_of_ble_eq_true rfl) ?_
  intro p e s m args below meth c Q A ls S hK hD hA hP hl hret
  have hx := S.1
  have hb := S.2.1
  have hl : lv_has ls 2 [(0, .ref (am 0)), (1, .int x1)] := hl
  have hE := hT.symm.trans (FX9_applies.eq_1 _ _ _ _)
  refine lv_aload_n hx hb dX9_applies_0 rfl (lv_at hl 0 rfl) ?_
  refine zg9_body S in_X9_applies_9 hK hP 0 rfl (List.mem_of_getElem? (i := 1) rfl) dX9_applies_1 ?_
  refine lv_iload_n hx hb dX9_applies_4 rfl (lv_at hl 1 rfl) ?_
  refine zl9_body S hK hP 0 rfl hx1_16 (f := (g9_body bm)) rfl dX9_applies_5 ?_
  refine lv_aload_n hx hb dX9_applies_6 rfl (lv_at hl 0 rfl) ?_
  refine zg9_known S in_X9_applies_9 hK hP 0 rfl (List.mem_of_getElem? (i := 2) rfl) dX9_applies_7 ?_
  refine lv_iconst (v := 2) hx hb dX9_applies_10 (by decide) ?_
  refine zl9_known S hK hP 0 rfl (zin_k (n := 2) rfl (by decide) (by decide)) (f := (g9_known bm)) rfl dX9_applies_11 ?_
  refine lv_iconst (v := (-1)) hx hb dX9_applies_12 (by decide) ?_
  refine lv_ixor hx hb dX9_applies_13 ?_
  refine lv_iand hx hb dX9_applies_14 ?_
  refine lv_if_ne (tgt := 40) hx hb dX9_applies_15 (by decide) (fun c15 => ?_) (fun c15 => ?_)
  · have hE := hE.trans (if_neg c15)
    refine lv_iconst (v := 0) hx hb dX9_applies_40 (by decide) ?_
    exact hret _ _ _ hE zn0 dX9_applies_41
  · have hE := hE.trans (if_pos c15)
    refine lv_aload_n hx hb dX9_applies_18 rfl (lv_at hl 0 rfl) ?_
    refine zg9_except S in_X9_applies_9 hK hP 0 rfl (List.mem_of_getElem? (i := 3) rfl) dX9_applies_19 ?_
    refine lv_iload_n hx hb dX9_applies_22 rfl (lv_at hl 1 rfl) ?_
    refine zl9_except S hK hP 0 rfl hx1_16 (f := (g9_except bm)) rfl dX9_applies_23 ?_
    refine lv_aload_n hx hb dX9_applies_24 rfl (lv_at hl 0 rfl) ?_
    refine zg9_known S in_X9_applies_9 hK hP 0 rfl (List.mem_of_getElem? (i := 2) rfl) dX9_applies_25 ?_
    refine lv_iconst (v := 3) hx hb dX9_applies_28 (by decide) ?_
    refine zl9_known S hK hP 0 rfl (zin_k (n := 3) rfl (by decide) (by decide)) (f := (g9_known bm)) rfl dX9_applies_29 ?_
    refine lv_iconst (v := (-1)) hx hb dX9_applies_30 (by decide) ?_
    refine lv_ixor hx hb dX9_applies_31 ?_
    refine lv_iand hx hb dX9_applies_32 ?_
    refine lv_if_ne (tgt := 40) hx hb dX9_applies_33 (by decide) (fun c33 => ?_) (fun c33 => ?_)
    · have hE := hE.trans (if_neg c33)
      refine lv_iconst (v := 0) hx hb dX9_applies_40 (by decide) ?_
      exact hret _ _ _ hE zn0 dX9_applies_41
    · have hE := hE.trans (if_pos c33)
      refine lv_iconst (v := 1) hx hb dX9_applies_36 (by decide) ?_
      refine lv_goto (tgt := 41) hx hb dX9_applies_37 (by decide) ?_
      exact hret _ _ _ hE zn1 dX9_applies_41

theorem in_X9_isAbove_9 : ∀ w ∈ u_ws RX9 TX9 40, w ∈ wsX9_isAbove := by decide +kernel
def rmX9_isAbove : Room := { frames := 1, cells := 0, slots := 0, locals := 21 }
set_option maxHeartbeats 4000000 in
set_option maxRecDepth 100000 in
theorem c_X9_isAbove (l : Launch) (G : zG) (am : Nat → Nat) (bm : S9) (x1 : Int32) (x2 : Int32) (hx1_16 : vp_in x1 16) (hx2_16 : vp_in x2 16) (T : Int32) (hT : FX9_isAbove (g9_strength bm) (g9_over bm) x1 x2 = T) : zR l yX9_isAbove wsX9_isAbove rmX9_isAbove .boolean G [.ref (am 0), .int x1, .int x2] [w9 G am bm] T := by
  refine zR.mk (cc := cX9_isAbove) (maxL := 3) (by decide +kernel) rfl (Nat.le_of_ble_eq_true rfl) ?_
  intro p e s m args below meth c Q A ls S hK hD hA hP hl hret
  have hx := S.1
  have hb := S.2.1
  have hl : lv_has ls 3 [(0, .ref (am 0)), (1, .int x1), (2, .int x2)] := hl
  have hE := hT.symm.trans (FX9_isAbove.eq_1 _ _ _ _)
  refine lv_aload_n hx hb dX9_isAbove_0 rfl (lv_at hl 0 rfl) ?_
  refine zg9_over S in_X9_isAbove_9 hK hP 0 rfl (List.mem_of_getElem? (i := 1) rfl) dX9_isAbove_1 ?_
  refine lv_iload_n hx hb dX9_isAbove_4 rfl (lv_at hl 1 rfl) ?_
  refine zl9_over S hK hP 0 rfl hx1_16 (f := (g9_over bm)) rfl dX9_isAbove_5 ?_
  refine lv_iload_n hx hb dX9_isAbove_6 rfl (lv_at hl 2 rfl) ?_
  obtain ⟨t7, ht7⟩ : ∃ z, FX9_has ((g9_over bm) x1.toNatClampNeg) x2 = z := ⟨_, rfl⟩
  have hE := hE.trans (bnd_eq ht7)
  have hc := c_X9_has l G ((g9_over bm) x1.toNatClampNeg) x2 _ ht7
  refine zgoR (va_runS (As := [.int ((g9_over bm) x1.toNatClampNeg), .int x2]) (rest := []) S (hc _) (va_cwS 2 S.2.2.2.2 gX9_isAbove_X9_has rfl rfl rfl (by decide +kernel) ⟨Nat.le_of_ble_eq_true rfl, Nat.le_of_ble_eq_true rfl⟩) (zpS hK hP hD (is := []) rfl rfl) rfl rfl hl.1 rfl (lv_room (Nat.le_of_ble_eq_true rfl)) dX9_isAbove_7 ⟨Nat.zero_le _, Nat.zero_le _⟩) (fun hn7 => ?_)
  refine lv_if_ne (tgt := 26) hx hb dX9_isAbove_10 (by decide) (fun c10 => ?_) (fun c10 => ?_)
  · have hE := hE.trans (if_neg c10)
    refine lv_aload_n hx hb dX9_isAbove_26 rfl (lv_at hl 0 rfl) ?_
    refine zg9_over S in_X9_isAbove_9 hK hP 0 rfl (List.mem_of_getElem? (i := 1) rfl) dX9_isAbove_27 ?_
    refine lv_iload_n hx hb dX9_isAbove_30 rfl (lv_at hl 1 rfl) ?_
    refine zl9_over S hK hP 0 rfl hx1_16 (f := (g9_over bm)) rfl dX9_isAbove_31 ?_
    refine lv_iload_n hx hb dX9_isAbove_32 rfl (lv_at hl 2 rfl) ?_
    obtain ⟨t33, ht33⟩ : ∃ z, FX9_has ((g9_over bm) x1.toNatClampNeg) x2 = z := ⟨_, rfl⟩
    have hE := hE.trans (bnd_eq ht33)
    have hc := c_X9_has l G ((g9_over bm) x1.toNatClampNeg) x2 _ ht33
    refine zgoR (va_runS (As := [.int ((g9_over bm) x1.toNatClampNeg), .int x2]) (rest := []) S (hc _) (va_cwS 2 S.2.2.2.2 gX9_isAbove_X9_has rfl rfl rfl (by decide +kernel) ⟨Nat.le_of_ble_eq_true rfl, Nat.le_of_ble_eq_true rfl⟩) (zpS hK hP hD (is := []) rfl rfl) rfl rfl hl.1 rfl (lv_room (Nat.le_of_ble_eq_true rfl)) dX9_isAbove_33 ⟨Nat.zero_le _, Nat.zero_le _⟩) (fun hn33 => ?_)
    exact hret _ _ _ hE hn33 dX9_isAbove_36
  · have hE := hE.trans (if_pos c10)
    refine lv_aload_n hx hb dX9_isAbove_13 rfl (lv_at hl 0 rfl) ?_
    refine zg9_over S in_X9_isAbove_9 hK hP 0 rfl (List.mem_of_getElem? (i := 1) rfl) dX9_isAbove_14 ?_
    refine lv_iload_n hx hb dX9_isAbove_17 rfl (lv_at hl 2 rfl) ?_
    refine zl9_over S hK hP 0 rfl hx2_16 (f := (g9_over bm)) rfl dX9_isAbove_18 ?_
    refine lv_iload_n hx hb dX9_isAbove_19 rfl (lv_at hl 1 rfl) ?_
    obtain ⟨t20, ht20⟩ : ∃ z, FX9_has ((g9_over bm) x2.toNatClampNeg) x1 = z := ⟨_, rfl⟩
    have hE := hE.trans (bnd_eq ht20)
    have hc := c_X9_has l G ((g9_over bm) x2.toNatClampNeg) x1 _ ht20
    refine zgoR (va_runS (As := [.int ((g9_over bm) x2.toNatClampNeg), .int x1]) (rest := []) S (hc _) (va_cwS 2 S.2.2.2.2 gX9_isAbove_X9_has rfl rfl rfl (by decide +kernel) ⟨Nat.le_of_ble_eq_true rfl, Nat.le_of_ble_eq_true rfl⟩) (zpS hK hP hD (is := []) rfl rfl) rfl rfl hl.1 rfl (lv_room (Nat.le_of_ble_eq_true rfl)) dX9_isAbove_20 ⟨Nat.zero_le _, Nat.zero_le _⟩) (fun hn20 => ?_)
    refine lv_if_eq (tgt := 37) hx hb dX9_isAbove_23 (by decide) (fun c23 => ?_) (fun c23 => ?_)
    · have hE := hE.trans (if_pos c23)
      refine lv_aload_n hx hb dX9_isAbove_37 rfl (lv_at hl 0 rfl) ?_
      refine zg9_strength S in_X9_isAbove_9 hK hP 0 rfl (List.mem_of_getElem? (i := 2) rfl) dX9_isAbove_38 ?_
      refine lv_iload_n hx hb dX9_isAbove_41 rfl (lv_at hl 1 rfl) ?_
      refine zl9_strength S hK hP 0 rfl hx1_16 (f := (g9_strength bm)) rfl dX9_isAbove_42 ?_
      refine lv_aload_n hx hb dX9_isAbove_43 rfl (lv_at hl 0 rfl) ?_
      refine zg9_strength S in_X9_isAbove_9 hK hP 0 rfl (List.mem_of_getElem? (i := 2) rfl) dX9_isAbove_44 ?_
      refine lv_iload_n hx hb dX9_isAbove_47 rfl (lv_at hl 2 rfl) ?_
      refine zl9_strength S hK hP 0 rfl hx2_16 (f := (g9_strength bm)) rfl dX9_isAbove_48 ?_
      refine lv_icmp_le (tgt := 56) hx hb dX9_isAbove_49 (by decide) (fun c49 => ?_) (fun c49 => ?_)
      · have hE := hE.trans (if_pos c49)
        refine lv_iconst (v := 0) hx hb dX9_isAbove_56 (by decide) ?_
        exact hret _ _ _ hE zn0 dX9_isAbove_57
      · have hE := hE.trans (if_neg c49)
        refine lv_iconst (v := 1) hx hb dX9_isAbove_52 (by decide) ?_
        refine lv_goto (tgt := 57) hx hb dX9_isAbove_53 (by decide) ?_
        exact hret _ _ _ hE zn1 dX9_isAbove_57
    · have hE := hE.trans (if_neg c23)
      refine lv_aload_n hx hb dX9_isAbove_26 rfl (lv_at hl 0 rfl) ?_
      refine zg9_over S in_X9_isAbove_9 hK hP 0 rfl (List.mem_of_getElem? (i := 1) rfl) dX9_isAbove_27 ?_
      refine lv_iload_n hx hb dX9_isAbove_30 rfl (lv_at hl 1 rfl) ?_
      refine zl9_over S hK hP 0 rfl hx1_16 (f := (g9_over bm)) rfl dX9_isAbove_31 ?_
      refine lv_iload_n hx hb dX9_isAbove_32 rfl (lv_at hl 2 rfl) ?_
      obtain ⟨t33, ht33⟩ : ∃ z, FX9_has ((g9_over bm) x1.toNatClampNeg) x2 = z := ⟨_, rfl⟩
      have hE := hE.trans (bnd_eq ht33)
      have hc := c_X9_has l G ((g9_over bm) x1.toNatClampNeg) x2 _ ht33
      refine zgoR (va_runS (As := [.int ((g9_over bm) x1.toNatClampNeg), .int x2]) (rest := []) S (hc _) (va_cwS 2 S.2.2.2.2 gX9_isAbove_X9_has rfl rfl rfl (by decide +kernel) ⟨Nat.le_of_ble_eq_true rfl, Nat.le_of_ble_eq_true rfl⟩) (zpS hK hP hD (is := []) rfl rfl) rfl rfl hl.1 rfl (lv_room (Nat.le_of_ble_eq_true rfl)) dX9_isAbove_33 ⟨Nat.zero_le _, Nat.zero_le _⟩) (fun hn33 => ?_)
      exact hret _ _ _ hE hn33 dX9_isAbove_36

theorem in_X9_forcing_9 : ∀ w ∈ u_ws RX9 TX9 40, w ∈ wsX9_forcing := by decide +kernel
def rmX9_forcing : Room := { frames := 2, cells := 0, slots := 0, locals := 44 }
set_option maxHeartbeats 4000000 in
set_option maxRecDepth 100000 in
theorem c_X9_forcing (l : Launch) (G : zG) (am : Nat → Nat) (bm : S9) (x1 : Int32) (x2 : Int32) (ht2 : ¬ x2 < 0 → vp_in x2 16) (hz_m_rules : ∃ N : Nat, N ≤ 16 ∧ g9_rules bm = nI N) (T : Int32) (hT : FX9_forcing (g9_rules bm) (g9_kind bm) (g9_head bm) (g9_body bm) (g9_except bm) (g9_strength bm) (g9_off bm) (g9_over bm) (g9_known bm) x1 x2 = T) : zR l yX9_forcing wsX9_forcing rmX9_forcing .int G [.ref (am 0), .int x1, .int x2] [w9 G am bm] T := by
  refine zR.mk (cc := cX9_forcing) (maxL := 4) (by decide +kernel) rfl (Nat.le_of_ble_eq_true rfl) ?_
  intro p e s m args below meth c Q A ls S hK hD hA hP hl hret
  have hx := S.1
  have hb := S.2.1
  have hl : lv_has ls 4 [(0, .ref (am 0)), (1, .int x1), (2, .int x2)] := hl
  obtain ⟨N_m_rules, hN_m_rules, hs_m_rules⟩ := id hz_m_rules
  have hE := hT.symm.trans (FX9_forcing.eq_1 _ _ _ _ _ _ _ _ _ _ _)
  refine lv_iconst (v := 0) hx hb dX9_forcing_0 (by decide) ?_
  have hB48 : ∀ (ls : Array Slot), T = FX9_forcing_48 (g9_rules bm) (g9_kind bm) (g9_head bm) (g9_body bm) (g9_except bm) (g9_strength bm) (g9_off bm) (g9_over bm) (g9_known bm) x1 x2  → lv_has ls 4 [] → W p l e rmX9_forcing s m args below meth c s.heap [] 0 0 Q (F0 m 48 ls []) := by
    intro ls hE hl
    have hE := hE.trans (FX9_forcing_48.eq_1 _ _ _ _ _ _ _ _ _ _ _)
    refine lv_iconst (v := (-1)) hx hb dX9_forcing_48 (by decide) ?_
    exact hret _ _ _ hE rfl dX9_forcing_49
  have hB2 : ∀ (n2 : Nat) (i3_2 : Nat) (ls : Array Slot), (i3_2 ≤ N_m_rules) → 17 ≤ i3_2 + n2 → T = FX9_forcing_2 (g9_rules bm) (g9_kind bm) (g9_head bm) (g9_body bm) (g9_except bm) (g9_strength bm) (g9_off bm) (g9_over bm) (g9_known bm) x1 x2 (FX9_forcing_48 (g9_rules bm) (g9_kind bm) (g9_head bm) (g9_body bm) (g9_except bm) (g9_strength bm) (g9_off bm) (g9_over bm) (g9_known bm) x1 x2) n2 (nI i3_2) → lv_has ls 4 [(0, .ref (am 0)), (1, .int x1), (2, .int x2), (3, .int (nI i3_2))] → W p l e rmX9_forcing s m args below meth c s.heap [] 0 0 Q (F0 m 2 ls []) := by
    intro n2
    induction n2 with
    | zero =>
      intro i3_2 ls hi3_2 hn hE hl
      exact absurd hn (by omega)
    | succ n2 ih2 =>
      intro i3_2 ls hi3_2 hn hE hl
      have hE := hE.trans (FX9_forcing_2.eq_2 _ _ _ _ _ _ _ _ _ _ _ _ _ _)
      refine lv_iload_n hx hb dX9_forcing_2 rfl (lv_at hl 3 rfl) ?_
      refine lv_aload_n hx hb dX9_forcing_3 rfl (lv_at hl 0 rfl) ?_
      refine zg9_rules S in_X9_forcing_9 hK hP 0 rfl (List.mem_of_getElem? (i := 1) rfl) (v := (g9_rules bm)) rfl dX9_forcing_4 ?_
      refine lv_icmp_ge (tgt := 48) hx hb dX9_forcing_7 (by decide) (fun c7 => ?_) (fun c7 => ?_)
      · have hE := hE.trans (if_pos c7)
        exact hB48 _ hE (lv_sub hl [] rfl)
      · have hE := hE.trans (if_neg c7)
        have hl3_2 : i3_2 < N_m_rules := zlt hs_m_rules (by omega) (by omega) c7
        refine lv_aload_n hx hb dX9_forcing_10 rfl (lv_at hl 0 rfl) ?_
        refine lv_iload_n hx hb dX9_forcing_11 rfl (lv_at hl 3 rfl) ?_
        refine lv_iload_n hx hb dX9_forcing_12 rfl (lv_at hl 1 rfl) ?_
        obtain ⟨t13, ht13⟩ : ∃ z, FX9_isForward (g9_kind bm) (g9_head bm) (g9_off bm) (nI i3_2) x1 = z := ⟨_, rfl⟩
        have hE := hE.trans (bnd_eq ht13)
        have hc := c_X9_isForward l G am bm (nI i3_2) x1 ((vp_in_nI (by omega) (by omega))) _ ht13
        refine zgoR (va_runV (As := [.int (nI i3_2), .int x1]) (rest := []) S (hc _) (cwV 2 S.2.2.2.2 gX9_forcing_X9_isForward rfl rfl rfl (by decide +kernel) ⟨Nat.le_of_ble_eq_true rfl, Nat.le_of_ble_eq_true rfl⟩) (zpV hK hP hD (is := [0]) rfl rfl 0 rfl rfl (ci := 9) rfl) rfl rfl hl.1 rfl (lv_room (Nat.le_of_ble_eq_true rfl)) dX9_forcing_13 ⟨Nat.zero_le _, Nat.zero_le _⟩) (fun hn13 => ?_)
        refine lv_if_eq (tgt := 42) hx hb dX9_forcing_16 (by decide) (fun c16 => ?_) (fun c16 => ?_)
        · have hE := hE.trans (if_pos c16)
          refine lv_iinc (v := (nI (i3_2 + 1))) (lv' := [(3, .int (nI (i3_2 + 1))), (0, .ref (am 0)), (1, .int x1), (2, .int x2)]) hx hb dX9_forcing_42 hl (k := 3) rfl (nI_1 i3_2) (by decide) rfl (fun ls hl => ?_)
          try rw [nI_1 i3_2] at hE
          refine lv_goto (tgt := 2) hx hb dX9_forcing_45 (by decide) ?_
          exact ih2 (i3_2 + 1) _ (by first | assumption | omega) (by omega) hE (lv_sub hl [1, 2, 3, 0] rfl)
        · have hE := hE.trans (if_neg c16)
          refine lv_aload_n hx hb dX9_forcing_19 rfl (lv_at hl 0 rfl) ?_
          refine lv_iload_n hx hb dX9_forcing_20 rfl (lv_at hl 3 rfl) ?_
          obtain ⟨t21, ht21⟩ : ∃ z, FX9_applies (g9_body bm) (g9_except bm) (g9_known bm) (nI i3_2) = z := ⟨_, rfl⟩
          have hE := hE.trans (bnd_eq ht21)
          have hc := c_X9_applies l G am bm (nI i3_2) ((vp_in_nI (by omega) (by omega))) _ ht21
          refine zgoR (va_runV (As := [.int (nI i3_2)]) (rest := []) S (hc _) (cwV 1 S.2.2.2.2 gX9_forcing_X9_applies rfl rfl rfl (by decide +kernel) ⟨Nat.le_of_ble_eq_true rfl, Nat.le_of_ble_eq_true rfl⟩) (zpV hK hP hD (is := [0]) rfl rfl 0 rfl rfl (ci := 9) rfl) rfl rfl hl.1 rfl (lv_room (Nat.le_of_ble_eq_true rfl)) dX9_forcing_21 ⟨Nat.zero_le _, Nat.zero_le _⟩) (fun hn21 => ?_)
          refine lv_if_eq (tgt := 42) hx hb dX9_forcing_24 (by decide) (fun c24 => ?_) (fun c24 => ?_)
          · have hE := hE.trans (if_pos c24)
            refine lv_iinc (v := (nI (i3_2 + 1))) (lv' := [(3, .int (nI (i3_2 + 1))), (0, .ref (am 0)), (1, .int x1), (2, .int x2)]) hx hb dX9_forcing_42 hl (k := 3) rfl (nI_1 i3_2) (by decide) rfl (fun ls hl => ?_)
            try rw [nI_1 i3_2] at hE
            refine lv_goto (tgt := 2) hx hb dX9_forcing_45 (by decide) ?_
            exact ih2 (i3_2 + 1) _ (by first | assumption | omega) (by omega) hE (lv_sub hl [1, 2, 3, 0] rfl)
          · have hE := hE.trans (if_neg c24)
            refine lv_iload_n hx hb dX9_forcing_27 rfl (lv_at hl 2 rfl) ?_
            refine lv_if_lt (tgt := 40) hx hb dX9_forcing_28 (by decide) (fun c28 => ?_) (fun c28 => ?_)
            · have hE := hE.trans (if_pos c28)
              refine lv_iload_n hx hb dX9_forcing_40 rfl (lv_at hl 3 rfl) ?_
              exact hret _ _ _ hE rfl dX9_forcing_41
            · have hE := hE.trans (if_neg c28)
              have hx2_16 := ht2 c28
              refine lv_aload_n hx hb dX9_forcing_31 rfl (lv_at hl 0 rfl) ?_
              refine lv_iload_n hx hb dX9_forcing_32 rfl (lv_at hl 3 rfl) ?_
              refine lv_iload_n hx hb dX9_forcing_33 rfl (lv_at hl 2 rfl) ?_
              obtain ⟨t34, ht34⟩ : ∃ z, FX9_isAbove (g9_strength bm) (g9_over bm) (nI i3_2) x2 = z := ⟨_, rfl⟩
              have hE := hE.trans (bnd_eq ht34)
              have hc := c_X9_isAbove l G am bm (nI i3_2) x2 ((vp_in_nI (by omega) (by omega))) (hx2_16) _ ht34
              refine zgoR (va_runV (As := [.int (nI i3_2), .int x2]) (rest := []) S (hc _) (cwV 2 S.2.2.2.2 gX9_forcing_X9_isAbove rfl rfl rfl (by decide +kernel) ⟨Nat.le_of_ble_eq_true rfl, Nat.le_of_ble_eq_true rfl⟩) (zpV hK hP hD (is := [0]) rfl rfl 0 rfl rfl (ci := 9) rfl) rfl rfl hl.1 rfl (lv_room (Nat.le_of_ble_eq_true rfl)) dX9_forcing_34 ⟨Nat.zero_le _, Nat.zero_le _⟩) (fun hn34 => ?_)
              refine lv_if_eq (tgt := 42) hx hb dX9_forcing_37 (by decide) (fun c37 => ?_) (fun c37 => ?_)
              · have hE := hE.trans (if_pos c37)
                refine lv_iinc (v := (nI (i3_2 + 1))) (lv' := [(3, .int (nI (i3_2 + 1))), (0, .ref (am 0)), (1, .int x1), (2, .int x2)]) hx hb dX9_forcing_42 hl (k := 3) rfl (nI_1 i3_2) (by decide) rfl (fun ls hl => ?_)
                try rw [nI_1 i3_2] at hE
                refine lv_goto (tgt := 2) hx hb dX9_forcing_45 (by decide) ?_
                exact ih2 (i3_2 + 1) _ (by first | assumption | omega) (by omega) hE (lv_sub hl [1, 2, 3, 0] rfl)
              · have hE := hE.trans (if_neg c37)
                refine lv_iload_n hx hb dX9_forcing_40 rfl (lv_at hl 3 rfl) ?_
                exact hret _ _ _ hE rfl dX9_forcing_41
  refine lv_istore_n (lv' := [(3, .int 0), (0, .ref (am 0)), (1, .int x1), (2, .int x2)]) hx hb dX9_forcing_1 rfl hl (by decide) rfl (fun ls hl => ?_)
  exact hB2 17 0 _ (by first | assumption | omega) (by omega) hE (lv_sub hl [1, 2, 3, 0] rfl)

def zNL (rules : Int32) (kind head body except strength off over known : Nat → Int32) (q : Int32) : Prop := FX9_has (known (0 : Int32).toNatClampNeg) q = 0 → vp_in (FX9_forcing rules kind head body except strength off over known q (-1)) 16 ∧ ∀ r : Nat, r < 16 → nI r < rules → ¬ FX9_isFor head off (nI r) (FX9_otherOf q) = 0 → FX9_falls body except known (nI r) = 0 → vp_in (FX9_forcing rules kind head body except strength off over known q (nI r)) 16

theorem in_X9_falls_9 : ∀ w ∈ u_ws RX9 TX9 40, w ∈ wsX9_falls := by decide +kernel
def rmX9_falls : Room := { frames := 0, cells := 0, slots := 0, locals := 0 }
set_option maxHeartbeats 4000000 in
set_option maxRecDepth 100000 in
theorem c_X9_falls (l : Launch) (G : zG) (am : Nat → Nat) (bm : S9) (x1 : Int32) (hx1_16 : vp_in x1 16) (T : Int32) (hT : FX9_falls (g9_body bm) (g9_except bm) (g9_known bm) x1 = T) : zR l yX9_falls wsX9_falls rmX9_falls .boolean G [.ref (am 0), .int x1] [w9 G am bm] T := by
  refine zR.mk (cc := cX9_falls) (maxL := 2) (by decide +kernel) rfl (Nat.le_of_ble_eq_true rfl) ?_
  intro p e s m args below meth c Q A ls S hK hD hA hP hl hret
  have hx := S.1
  have hb := S.2.1
  have hl : lv_has ls 2 [(0, .ref (am 0)), (1, .int x1)] := hl
  have hE := hT.symm.trans (FX9_falls.eq_1 _ _ _ _)
  refine lv_aload_n hx hb dX9_falls_0 rfl (lv_at hl 0 rfl) ?_
  refine zg9_body S in_X9_falls_9 hK hP 0 rfl (List.mem_of_getElem? (i := 1) rfl) dX9_falls_1 ?_
  refine lv_iload_n hx hb dX9_falls_4 rfl (lv_at hl 1 rfl) ?_
  refine zl9_body S hK hP 0 rfl hx1_16 (f := (g9_body bm)) rfl dX9_falls_5 ?_
  refine lv_aload_n hx hb dX9_falls_6 rfl (lv_at hl 0 rfl) ?_
  refine zg9_known S in_X9_falls_9 hK hP 0 rfl (List.mem_of_getElem? (i := 2) rfl) dX9_falls_7 ?_
  refine lv_iconst (v := 3) hx hb dX9_falls_10 (by decide) ?_
  refine zl9_known S hK hP 0 rfl (zin_k (n := 3) rfl (by decide) (by decide)) (f := (g9_known bm)) rfl dX9_falls_11 ?_
  refine lv_iand hx hb dX9_falls_12 ?_
  refine lv_if_ne (tgt := 32) hx hb dX9_falls_13 (by decide) (fun c13 => ?_) (fun c13 => ?_)
  · have hE := hE.trans (if_neg c13)
    refine lv_iconst (v := 1) hx hb dX9_falls_32 (by decide) ?_
    refine lv_goto (tgt := 37) hx hb dX9_falls_33 (by decide) ?_
    exact hret _ _ _ hE zn1 dX9_falls_37
  · have hE := hE.trans (if_pos c13)
    refine lv_aload_n hx hb dX9_falls_16 rfl (lv_at hl 0 rfl) ?_
    refine zg9_except S in_X9_falls_9 hK hP 0 rfl (List.mem_of_getElem? (i := 3) rfl) dX9_falls_17 ?_
    refine lv_iload_n hx hb dX9_falls_20 rfl (lv_at hl 1 rfl) ?_
    refine zl9_except S hK hP 0 rfl hx1_16 (f := (g9_except bm)) rfl dX9_falls_21 ?_
    refine lv_aload_n hx hb dX9_falls_22 rfl (lv_at hl 0 rfl) ?_
    refine zg9_known S in_X9_falls_9 hK hP 0 rfl (List.mem_of_getElem? (i := 2) rfl) dX9_falls_23 ?_
    refine lv_iconst (v := 2) hx hb dX9_falls_26 (by decide) ?_
    refine zl9_known S hK hP 0 rfl (zin_k (n := 2) rfl (by decide) (by decide)) (f := (g9_known bm)) rfl dX9_falls_27 ?_
    refine lv_iand hx hb dX9_falls_28 ?_
    refine lv_if_eq (tgt := 36) hx hb dX9_falls_29 (by decide) (fun c29 => ?_) (fun c29 => ?_)
    · have hE := hE.trans (if_pos c29)
      refine lv_iconst (v := 0) hx hb dX9_falls_36 (by decide) ?_
      exact hret _ _ _ hE zn0 dX9_falls_37
    · have hE := hE.trans (if_neg c29)
      refine lv_iconst (v := 1) hx hb dX9_falls_32 (by decide) ?_
      refine lv_goto (tgt := 37) hx hb dX9_falls_33 (by decide) ?_
      exact hret _ _ _ hE zn1 dX9_falls_37

theorem in_X9_isLikely_9 : ∀ w ∈ u_ws RX9 TX9 40, w ∈ wsX9_isLikely := by decide +kernel
def rmX9_isLikely : Room := { frames := 3, cells := 0, slots := 0, locals := 67 }
set_option maxHeartbeats 4000000 in
set_option maxRecDepth 100000 in
theorem c_X9_isLikely (l : Launch) (G : zG) (am : Nat → Nat) (bm : S9) (x1 : Int32) (hz_m_rules : ∃ N : Nat, N ≤ 16 ∧ g9_rules bm = nI N) (T : Int32) (hT : FX9_isLikely (g9_rules bm) (g9_kind bm) (g9_head bm) (g9_body bm) (g9_except bm) (g9_strength bm) (g9_off bm) (g9_over bm) (g9_known bm) x1 = T) : zR l yX9_isLikely wsX9_isLikely rmX9_isLikely .boolean G [.ref (am 0), .int x1] [w9 G am bm] T := by
  refine zR.mk (cc := cX9_isLikely) (maxL := 3) (by decide +kernel) rfl (Nat.le_of_ble_eq_true rfl) ?_
  intro p e s m args below meth c Q A ls S hK hD hA hP hl hret
  have hx := S.1
  have hb := S.2.1
  have hl : lv_has ls 3 [(0, .ref (am 0)), (1, .int x1)] := hl
  obtain ⟨N_m_rules, hN_m_rules, hs_m_rules⟩ := id hz_m_rules
  have hE := hT.symm.trans (FX9_isLikely.eq_1 _ _ _ _ _ _ _ _ _ _)
  refine lv_aload_n hx hb dX9_isLikely_0 rfl (lv_at hl 0 rfl) ?_
  refine zg9_known S in_X9_isLikely_9 hK hP 0 rfl (List.mem_of_getElem? (i := 1) rfl) dX9_isLikely_1 ?_
  refine lv_iconst (v := 0) hx hb dX9_isLikely_4 (by decide) ?_
  refine zl9_known S hK hP 0 rfl (zin_k (n := 0) rfl (by decide) (by decide)) (f := (g9_known bm)) rfl dX9_isLikely_5 ?_
  refine lv_iload_n hx hb dX9_isLikely_6 rfl (lv_at hl 1 rfl) ?_
  obtain ⟨t7, ht7⟩ : ∃ z, FX9_has ((g9_known bm) (0 : Int32).toNatClampNeg) x1 = z := ⟨_, rfl⟩
  have hE := hE.trans (bnd_eq ht7)
  have hc := c_X9_has l G ((g9_known bm) (0 : Int32).toNatClampNeg) x1 _ ht7
  refine zgoR (va_runS (As := [.int ((g9_known bm) (0 : Int32).toNatClampNeg), .int x1]) (rest := []) S (hc _) (va_cwS 2 S.2.2.2.2 gX9_isLikely_X9_has rfl rfl rfl (by decide +kernel) ⟨Nat.le_of_ble_eq_true rfl, Nat.le_of_ble_eq_true rfl⟩) (zpS hK hP hD (is := []) rfl rfl) rfl rfl hl.1 rfl (lv_room (Nat.le_of_ble_eq_true rfl)) dX9_isLikely_7 ⟨Nat.zero_le _, Nat.zero_le _⟩) (fun hn7 => ?_)
  refine lv_if_eq (tgt := 15) hx hb dX9_isLikely_10 (by decide) (fun c10 => ?_) (fun c10 => ?_)
  · have hE := hE.trans (if_pos c10)
    refine lv_aload_n hx hb dX9_isLikely_15 rfl (lv_at hl 0 rfl) ?_
    refine zg9_known S in_X9_isLikely_9 hK hP 0 rfl (List.mem_of_getElem? (i := 1) rfl) dX9_isLikely_16 ?_
    refine lv_iconst (v := 1) hx hb dX9_isLikely_19 (by decide) ?_
    refine zl9_known S hK hP 0 rfl (zin_k (n := 1) rfl (by decide) (by decide)) (f := (g9_known bm)) rfl dX9_isLikely_20 ?_
    refine lv_iload_n hx hb dX9_isLikely_21 rfl (lv_at hl 1 rfl) ?_
    obtain ⟨t22, ht22⟩ : ∃ z, FX9_otherOf x1 = z := ⟨_, rfl⟩
    have hE := hE.trans (bnd_eq ht22)
    have hc := c_X9_otherOf l G x1 _ ht22
    refine zgoR (va_runS (As := [.int x1]) (rest := [.int ((g9_known bm) (1 : Int32).toNatClampNeg)]) S (hc _) (va_cwS 1 S.2.2.2.2 gX9_isLikely_X9_otherOf rfl rfl rfl (by decide +kernel) ⟨Nat.le_of_ble_eq_true rfl, Nat.le_of_ble_eq_true rfl⟩) (zpS hK hP hD (is := []) rfl rfl) rfl rfl hl.1 rfl (lv_room (Nat.le_of_ble_eq_true rfl)) dX9_isLikely_22 ⟨Nat.zero_le _, Nat.zero_le _⟩) (fun hn22 => ?_)
    obtain ⟨t25, ht25⟩ : ∃ z, FX9_has ((g9_known bm) (1 : Int32).toNatClampNeg) t22 = z := ⟨_, rfl⟩
    have hE := hE.trans (bnd_eq ht25)
    have hc := c_X9_has l G ((g9_known bm) (1 : Int32).toNatClampNeg) t22 _ ht25
    refine zgoR (va_runS (As := [.int ((g9_known bm) (1 : Int32).toNatClampNeg), .int t22]) (rest := []) S (hc _) (va_cwS 2 S.2.2.2.2 gX9_isLikely_X9_has rfl rfl rfl (by decide +kernel) ⟨Nat.le_of_ble_eq_true rfl, Nat.le_of_ble_eq_true rfl⟩) (zpS hK hP hD (is := []) rfl rfl) rfl rfl hl.1 rfl (lv_room (Nat.le_of_ble_eq_true rfl)) dX9_isLikely_25 ⟨Nat.zero_le _, Nat.zero_le _⟩) (fun hn25 => ?_)
    refine lv_if_eq (tgt := 40) hx hb dX9_isLikely_28 (by decide) (fun c28 => ?_) (fun c28 => ?_)
    · have hE := hE.trans (if_pos c28)
      refine lv_iconst (v := 0) hx hb dX9_isLikely_40 (by decide) ?_
      exact hret _ _ _ hE zn0 dX9_isLikely_41
    · have hE := hE.trans (if_neg c28)
      refine lv_aload_n hx hb dX9_isLikely_31 rfl (lv_at hl 0 rfl) ?_
      refine lv_iload_n hx hb dX9_isLikely_32 rfl (lv_at hl 1 rfl) ?_
      refine lv_iconst (v := (-1)) hx hb dX9_isLikely_33 (by decide) ?_
      obtain ⟨t34, ht34⟩ : ∃ z, FX9_forcing (g9_rules bm) (g9_kind bm) (g9_head bm) (g9_body bm) (g9_except bm) (g9_strength bm) (g9_off bm) (g9_over bm) (g9_known bm) x1 (-1) = z := ⟨_, rfl⟩
      have hE := hE.trans (bnd_eq ht34)
      have hc := c_X9_forcing l G am bm x1 (-1) (fun h => absurd (by decide) h) (hz_m_rules) _ ht34
      refine zgoR (va_runV (As := [.int x1, .int (-1)]) (rest := []) S (hc _) (cwV 2 S.2.2.2.2 gX9_isLikely_X9_forcing rfl rfl rfl (by decide +kernel) ⟨Nat.le_of_ble_eq_true rfl, Nat.le_of_ble_eq_true rfl⟩) (zpV hK hP hD (is := [0]) rfl rfl 0 rfl rfl (ci := 9) rfl) rfl rfl hl.1 rfl (lv_room (Nat.le_of_ble_eq_true rfl)) dX9_isLikely_34 ⟨Nat.zero_le _, Nat.zero_le _⟩) (fun hn34 => ?_)
      refine lv_if_ge (tgt := 42) hx hb dX9_isLikely_37 (by decide) (fun c37 => ?_) (fun c37 => ?_)
      · have hE := hE.trans (if_pos c37)
        refine lv_iconst (v := 0) hx hb dX9_isLikely_42 (by decide) ?_
        have hB89 : ∀ (ls : Array Slot), T = FX9_isLikely_89 (g9_rules bm) (g9_kind bm) (g9_head bm) (g9_body bm) (g9_except bm) (g9_strength bm) (g9_off bm) (g9_over bm) (g9_known bm) x1  → lv_has ls 3 [] → W p l e rmX9_isLikely s m args below meth c s.heap [] 0 0 Q (F0 m 89 ls []) := by
          intro ls hE hl
          have hE := hE.trans (FX9_isLikely_89.eq_1 _ _ _ _ _ _ _ _ _ _)
          refine lv_iconst (v := 1) hx hb dX9_isLikely_89 (by decide) ?_
          exact hret _ _ _ hE zn1 dX9_isLikely_90
        have hB44 : ∀ (n44 : Nat) (i2_44 : Nat) (ls : Array Slot), (i2_44 ≤ N_m_rules) → 17 ≤ i2_44 + n44 → T = FX9_isLikely_44 (g9_rules bm) (g9_kind bm) (g9_head bm) (g9_body bm) (g9_except bm) (g9_strength bm) (g9_off bm) (g9_over bm) (g9_known bm) x1 (FX9_isLikely_89 (g9_rules bm) (g9_kind bm) (g9_head bm) (g9_body bm) (g9_except bm) (g9_strength bm) (g9_off bm) (g9_over bm) (g9_known bm) x1) n44 (nI i2_44) → lv_has ls 3 [(0, .ref (am 0)), (1, .int x1), (2, .int (nI i2_44))] → W p l e rmX9_isLikely s m args below meth c s.heap [] 0 0 Q (F0 m 44 ls []) := by
          intro n44
          induction n44 with
          | zero =>
            intro i2_44 ls hi2_44 hn hE hl
            exact absurd hn (by omega)
          | succ n44 ih44 =>
            intro i2_44 ls hi2_44 hn hE hl
            have hE := hE.trans (FX9_isLikely_44.eq_2 _ _ _ _ _ _ _ _ _ _ _ _ _)
            refine lv_iload_n hx hb dX9_isLikely_44 rfl (lv_at hl 2 rfl) ?_
            refine lv_aload_n hx hb dX9_isLikely_45 rfl (lv_at hl 0 rfl) ?_
            refine zg9_rules S in_X9_isLikely_9 hK hP 0 rfl (List.mem_of_getElem? (i := 2) rfl) (v := (g9_rules bm)) rfl dX9_isLikely_46 ?_
            refine lv_icmp_ge (tgt := 89) hx hb dX9_isLikely_49 (by decide) (fun c49 => ?_) (fun c49 => ?_)
            · have hE := hE.trans (if_pos c49)
              exact hB89 _ hE (lv_sub hl [] rfl)
            · have hE := hE.trans (if_neg c49)
              have hl2_44 : i2_44 < N_m_rules := zlt hs_m_rules (by omega) (by omega) c49
              refine lv_aload_n hx hb dX9_isLikely_52 rfl (lv_at hl 0 rfl) ?_
              refine lv_iload_n hx hb dX9_isLikely_53 rfl (lv_at hl 2 rfl) ?_
              refine lv_iload_n hx hb dX9_isLikely_54 rfl (lv_at hl 1 rfl) ?_
              obtain ⟨t55, ht55⟩ : ∃ z, FX9_otherOf x1 = z := ⟨_, rfl⟩
              have hE := hE.trans (bnd_eq ht55)
              have hc := c_X9_otherOf l G x1 _ ht55
              refine zgoR (va_runS (As := [.int x1]) (rest := [.int (nI i2_44), .ref (am 0)]) S (hc _) (va_cwS 1 S.2.2.2.2 gX9_isLikely_X9_otherOf rfl rfl rfl (by decide +kernel) ⟨Nat.le_of_ble_eq_true rfl, Nat.le_of_ble_eq_true rfl⟩) (zpS hK hP hD (is := []) rfl rfl) rfl rfl hl.1 rfl (lv_room (Nat.le_of_ble_eq_true rfl)) dX9_isLikely_55 ⟨Nat.zero_le _, Nat.zero_le _⟩) (fun hn55 => ?_)
              obtain ⟨t58, ht58⟩ : ∃ z, FX9_isFor (g9_head bm) (g9_off bm) (nI i2_44) t55 = z := ⟨_, rfl⟩
              have hE := hE.trans (bnd_eq ht58)
              have hc := c_X9_isFor l G am bm (nI i2_44) t55 ((vp_in_nI (by omega) (by omega))) _ ht58
              refine zgoR (va_runV (As := [.int (nI i2_44), .int t55]) (rest := []) S (hc _) (cwV 2 S.2.2.2.2 gX9_isLikely_X9_isFor rfl rfl rfl (by decide +kernel) ⟨Nat.le_of_ble_eq_true rfl, Nat.le_of_ble_eq_true rfl⟩) (zpV hK hP hD (is := [0]) rfl rfl 0 rfl rfl (ci := 9) rfl) rfl rfl hl.1 rfl (lv_room (Nat.le_of_ble_eq_true rfl)) dX9_isLikely_58 ⟨Nat.zero_le _, Nat.zero_le _⟩) (fun hn58 => ?_)
              refine lv_if_eq (tgt := 83) hx hb dX9_isLikely_61 (by decide) (fun c61 => ?_) (fun c61 => ?_)
              · have hE := hE.trans (if_pos c61)
                refine lv_iinc (v := (nI (i2_44 + 1))) (lv' := [(2, .int (nI (i2_44 + 1))), (0, .ref (am 0)), (1, .int x1)]) hx hb dX9_isLikely_83 hl (k := 2) rfl (nI_1 i2_44) (by decide) rfl (fun ls hl => ?_)
                try rw [nI_1 i2_44] at hE
                refine lv_goto (tgt := 44) hx hb dX9_isLikely_86 (by decide) ?_
                exact ih44 (i2_44 + 1) _ (by first | assumption | omega) (by omega) hE (lv_sub hl [1, 2, 0] rfl)
              · have hE := hE.trans (if_neg c61)
                refine lv_aload_n hx hb dX9_isLikely_64 rfl (lv_at hl 0 rfl) ?_
                refine lv_iload_n hx hb dX9_isLikely_65 rfl (lv_at hl 2 rfl) ?_
                obtain ⟨t66, ht66⟩ : ∃ z, FX9_falls (g9_body bm) (g9_except bm) (g9_known bm) (nI i2_44) = z := ⟨_, rfl⟩
                have hE := hE.trans (bnd_eq ht66)
                have hc := c_X9_falls l G am bm (nI i2_44) ((vp_in_nI (by omega) (by omega))) _ ht66
                refine zgoR (va_runV (As := [.int (nI i2_44)]) (rest := []) S (hc _) (cwV 1 S.2.2.2.2 gX9_isLikely_X9_falls rfl rfl rfl (by decide +kernel) ⟨Nat.le_of_ble_eq_true rfl, Nat.le_of_ble_eq_true rfl⟩) (zpV hK hP hD (is := [0]) rfl rfl 0 rfl rfl (ci := 9) rfl) rfl rfl hl.1 rfl (lv_room (Nat.le_of_ble_eq_true rfl)) dX9_isLikely_66 ⟨Nat.zero_le _, Nat.zero_le _⟩) (fun hn66 => ?_)
                refine lv_if_ne (tgt := 83) hx hb dX9_isLikely_69 (by decide) (fun c69 => ?_) (fun c69 => ?_)
                · have hE := hE.trans (if_neg c69)
                  refine lv_iinc (v := (nI (i2_44 + 1))) (lv' := [(2, .int (nI (i2_44 + 1))), (0, .ref (am 0)), (1, .int x1)]) hx hb dX9_isLikely_83 hl (k := 2) rfl (nI_1 i2_44) (by decide) rfl (fun ls hl => ?_)
                  try rw [nI_1 i2_44] at hE
                  refine lv_goto (tgt := 44) hx hb dX9_isLikely_86 (by decide) ?_
                  exact ih44 (i2_44 + 1) _ (by first | assumption | omega) (by omega) hE (lv_sub hl [1, 2, 0] rfl)
                · have hE := hE.trans (if_pos c69)
                  refine lv_aload_n hx hb dX9_isLikely_72 rfl (lv_at hl 0 rfl) ?_
                  refine lv_iload_n hx hb dX9_isLikely_73 rfl (lv_at hl 1 rfl) ?_
                  refine lv_iload_n hx hb dX9_isLikely_74 rfl (lv_at hl 2 rfl) ?_
                  obtain ⟨t75, ht75⟩ : ∃ z, FX9_forcing (g9_rules bm) (g9_kind bm) (g9_head bm) (g9_body bm) (g9_except bm) (g9_strength bm) (g9_off bm) (g9_over bm) (g9_known bm) x1 (nI i2_44) = z := ⟨_, rfl⟩
                  have hE := hE.trans (bnd_eq ht75)
                  have hc := c_X9_forcing l G am bm x1 (nI i2_44) (fun _ => vp_in_nI (by omega) (by omega)) (hz_m_rules) _ ht75
                  refine zgoR (va_runV (As := [.int x1, .int (nI i2_44)]) (rest := []) S (hc _) (cwV 2 S.2.2.2.2 gX9_isLikely_X9_forcing rfl rfl rfl (by decide +kernel) ⟨Nat.le_of_ble_eq_true rfl, Nat.le_of_ble_eq_true rfl⟩) (zpV hK hP hD (is := [0]) rfl rfl 0 rfl rfl (ci := 9) rfl) rfl rfl hl.1 rfl (lv_room (Nat.le_of_ble_eq_true rfl)) dX9_isLikely_75 ⟨Nat.zero_le _, Nat.zero_le _⟩) (fun hn75 => ?_)
                  refine lv_if_ge (tgt := 83) hx hb dX9_isLikely_78 (by decide) (fun c78 => ?_) (fun c78 => ?_)
                  · have hE := hE.trans (if_pos c78)
                    refine lv_iinc (v := (nI (i2_44 + 1))) (lv' := [(2, .int (nI (i2_44 + 1))), (0, .ref (am 0)), (1, .int x1)]) hx hb dX9_isLikely_83 hl (k := 2) rfl (nI_1 i2_44) (by decide) rfl (fun ls hl => ?_)
                    try rw [nI_1 i2_44] at hE
                    refine lv_goto (tgt := 44) hx hb dX9_isLikely_86 (by decide) ?_
                    exact ih44 (i2_44 + 1) _ (by first | assumption | omega) (by omega) hE (lv_sub hl [1, 2, 0] rfl)
                  · have hE := hE.trans (if_neg c78)
                    refine lv_iconst (v := 0) hx hb dX9_isLikely_81 (by decide) ?_
                    exact hret _ _ _ hE zn0 dX9_isLikely_82
        refine lv_istore_n (lv' := [(2, .int 0), (0, .ref (am 0)), (1, .int x1)]) hx hb dX9_isLikely_43 rfl hl (by decide) rfl (fun ls hl => ?_)
        exact hB44 17 0 _ (by first | assumption | omega) (by omega) hE (lv_sub hl [1, 2, 0] rfl)
      · have hE := hE.trans (if_neg c37)
        refine lv_iconst (v := 0) hx hb dX9_isLikely_40 (by decide) ?_
        exact hret _ _ _ hE zn0 dX9_isLikely_41
  · have hE := hE.trans (if_neg c10)
    refine lv_iconst (v := 1) hx hb dX9_isLikely_13 (by decide) ?_
    exact hret _ _ _ hE zn1 dX9_isLikely_14

theorem in_X9_allFall_9 : ∀ w ∈ u_ws RX9 TX9 40, w ∈ wsX9_allFall := by decide +kernel
def rmX9_allFall : Room := { frames := 2, cells := 0, slots := 0, locals := 44 }
set_option maxHeartbeats 4000000 in
set_option maxRecDepth 100000 in
theorem c_X9_allFall (l : Launch) (G : zG) (am : Nat → Nat) (bm : S9) (x1 : Int32) (hz_m_rules : ∃ N : Nat, N ≤ 16 ∧ g9_rules bm = nI N) (T : Int32) (hT : FX9_allFall (g9_rules bm) (g9_kind bm) (g9_head bm) (g9_body bm) (g9_except bm) (g9_off bm) (g9_known bm) x1 = T) : zR l yX9_allFall wsX9_allFall rmX9_allFall .boolean G [.ref (am 0), .int x1] [w9 G am bm] T := by
  refine zR.mk (cc := cX9_allFall) (maxL := 3) (by decide +kernel) rfl (Nat.le_of_ble_eq_true rfl) ?_
  intro p e s m args below meth c Q A ls S hK hD hA hP hl hret
  have hx := S.1
  have hb := S.2.1
  have hl : lv_has ls 3 [(0, .ref (am 0)), (1, .int x1)] := hl
  obtain ⟨N_m_rules, hN_m_rules, hs_m_rules⟩ := id hz_m_rules
  have hE := hT.symm.trans (FX9_allFall.eq_1 _ _ _ _ _ _ _ _)
  refine lv_iconst (v := 0) hx hb dX9_allFall_0 (by decide) ?_
  have hB35 : ∀ (ls : Array Slot), T = FX9_allFall_35 (g9_rules bm) (g9_kind bm) (g9_head bm) (g9_body bm) (g9_except bm) (g9_off bm) (g9_known bm) x1  → lv_has ls 3 [] → W p l e rmX9_allFall s m args below meth c s.heap [] 0 0 Q (F0 m 35 ls []) := by
    intro ls hE hl
    have hE := hE.trans (FX9_allFall_35.eq_1 _ _ _ _ _ _ _ _)
    refine lv_iconst (v := 1) hx hb dX9_allFall_35 (by decide) ?_
    exact hret _ _ _ hE zn1 dX9_allFall_36
  have hB2 : ∀ (n2 : Nat) (i2_2 : Nat) (ls : Array Slot), (i2_2 ≤ N_m_rules) → 17 ≤ i2_2 + n2 → T = FX9_allFall_2 (g9_rules bm) (g9_kind bm) (g9_head bm) (g9_body bm) (g9_except bm) (g9_off bm) (g9_known bm) x1 (FX9_allFall_35 (g9_rules bm) (g9_kind bm) (g9_head bm) (g9_body bm) (g9_except bm) (g9_off bm) (g9_known bm) x1) n2 (nI i2_2) → lv_has ls 3 [(0, .ref (am 0)), (1, .int x1), (2, .int (nI i2_2))] → W p l e rmX9_allFall s m args below meth c s.heap [] 0 0 Q (F0 m 2 ls []) := by
    intro n2
    induction n2 with
    | zero =>
      intro i2_2 ls hi2_2 hn hE hl
      exact absurd hn (by omega)
    | succ n2 ih2 =>
      intro i2_2 ls hi2_2 hn hE hl
      have hE := hE.trans (FX9_allFall_2.eq_2 _ _ _ _ _ _ _ _ _ _ _)
      refine lv_iload_n hx hb dX9_allFall_2 rfl (lv_at hl 2 rfl) ?_
      refine lv_aload_n hx hb dX9_allFall_3 rfl (lv_at hl 0 rfl) ?_
      refine zg9_rules S in_X9_allFall_9 hK hP 0 rfl (List.mem_of_getElem? (i := 1) rfl) (v := (g9_rules bm)) rfl dX9_allFall_4 ?_
      refine lv_icmp_ge (tgt := 35) hx hb dX9_allFall_7 (by decide) (fun c7 => ?_) (fun c7 => ?_)
      · have hE := hE.trans (if_pos c7)
        exact hB35 _ hE (lv_sub hl [] rfl)
      · have hE := hE.trans (if_neg c7)
        have hl2_2 : i2_2 < N_m_rules := zlt hs_m_rules (by omega) (by omega) c7
        refine lv_aload_n hx hb dX9_allFall_10 rfl (lv_at hl 0 rfl) ?_
        refine lv_iload_n hx hb dX9_allFall_11 rfl (lv_at hl 2 rfl) ?_
        refine lv_iload_n hx hb dX9_allFall_12 rfl (lv_at hl 1 rfl) ?_
        obtain ⟨t13, ht13⟩ : ∃ z, FX9_isForward (g9_kind bm) (g9_head bm) (g9_off bm) (nI i2_2) x1 = z := ⟨_, rfl⟩
        have hE := hE.trans (bnd_eq ht13)
        have hc := c_X9_isForward l G am bm (nI i2_2) x1 ((vp_in_nI (by omega) (by omega))) _ ht13
        refine zgoR (va_runV (As := [.int (nI i2_2), .int x1]) (rest := []) S (hc _) (cwV 2 S.2.2.2.2 gX9_allFall_X9_isForward rfl rfl rfl (by decide +kernel) ⟨Nat.le_of_ble_eq_true rfl, Nat.le_of_ble_eq_true rfl⟩) (zpV hK hP hD (is := [0]) rfl rfl 0 rfl rfl (ci := 9) rfl) rfl rfl hl.1 rfl (lv_room (Nat.le_of_ble_eq_true rfl)) dX9_allFall_13 ⟨Nat.zero_le _, Nat.zero_le _⟩) (fun hn13 => ?_)
        refine lv_if_eq (tgt := 29) hx hb dX9_allFall_16 (by decide) (fun c16 => ?_) (fun c16 => ?_)
        · have hE := hE.trans (if_pos c16)
          refine lv_iinc (v := (nI (i2_2 + 1))) (lv' := [(2, .int (nI (i2_2 + 1))), (0, .ref (am 0)), (1, .int x1)]) hx hb dX9_allFall_29 hl (k := 2) rfl (nI_1 i2_2) (by decide) rfl (fun ls hl => ?_)
          try rw [nI_1 i2_2] at hE
          refine lv_goto (tgt := 2) hx hb dX9_allFall_32 (by decide) ?_
          exact ih2 (i2_2 + 1) _ (by first | assumption | omega) (by omega) hE (lv_sub hl [1, 2, 0] rfl)
        · have hE := hE.trans (if_neg c16)
          refine lv_aload_n hx hb dX9_allFall_19 rfl (lv_at hl 0 rfl) ?_
          refine lv_iload_n hx hb dX9_allFall_20 rfl (lv_at hl 2 rfl) ?_
          obtain ⟨t21, ht21⟩ : ∃ z, FX9_falls (g9_body bm) (g9_except bm) (g9_known bm) (nI i2_2) = z := ⟨_, rfl⟩
          have hE := hE.trans (bnd_eq ht21)
          have hc := c_X9_falls l G am bm (nI i2_2) ((vp_in_nI (by omega) (by omega))) _ ht21
          refine zgoR (va_runV (As := [.int (nI i2_2)]) (rest := []) S (hc _) (cwV 1 S.2.2.2.2 gX9_allFall_X9_falls rfl rfl rfl (by decide +kernel) ⟨Nat.le_of_ble_eq_true rfl, Nat.le_of_ble_eq_true rfl⟩) (zpV hK hP hD (is := [0]) rfl rfl 0 rfl rfl (ci := 9) rfl) rfl rfl hl.1 rfl (lv_room (Nat.le_of_ble_eq_true rfl)) dX9_allFall_21 ⟨Nat.zero_le _, Nat.zero_le _⟩) (fun hn21 => ?_)
          refine lv_if_ne (tgt := 29) hx hb dX9_allFall_24 (by decide) (fun c24 => ?_) (fun c24 => ?_)
          · have hE := hE.trans (if_neg c24)
            refine lv_iinc (v := (nI (i2_2 + 1))) (lv' := [(2, .int (nI (i2_2 + 1))), (0, .ref (am 0)), (1, .int x1)]) hx hb dX9_allFall_29 hl (k := 2) rfl (nI_1 i2_2) (by decide) rfl (fun ls hl => ?_)
            try rw [nI_1 i2_2] at hE
            refine lv_goto (tgt := 2) hx hb dX9_allFall_32 (by decide) ?_
            exact ih2 (i2_2 + 1) _ (by first | assumption | omega) (by omega) hE (lv_sub hl [1, 2, 0] rfl)
          · have hE := hE.trans (if_pos c24)
            refine lv_iconst (v := 0) hx hb dX9_allFall_27 (by decide) ?_
            exact hret _ _ _ hE zn0 dX9_allFall_28
  refine lv_istore_n (lv' := [(2, .int 0), (0, .ref (am 0)), (1, .int x1)]) hx hb dX9_allFall_1 rfl hl (by decide) rfl (fun ls hl => ?_)
  exact hB2 17 0 _ (by first | assumption | omega) (by omega) hE (lv_sub hl [1, 2, 0] rfl)

theorem in_X9_isBeaten_9 : ∀ w ∈ u_ws RX9 TX9 40, w ∈ wsX9_isBeaten := by decide +kernel
def rmX9_isBeaten : Room := { frames := 2, cells := 0, slots := 0, locals := 44 }
set_option maxHeartbeats 4000000 in
set_option maxRecDepth 100000 in
theorem c_X9_isBeaten (l : Launch) (G : zG) (am : Nat → Nat) (bm : S9) (x1 : Int32) (x2 : Int32) (hz_m_rules : ∃ N : Nat, N ≤ 16 ∧ g9_rules bm = nI N) (hx1_16 : vp_in x1 16) (T : Int32) (hT : FX9_isBeaten (g9_rules bm) (g9_kind bm) (g9_head bm) (g9_body bm) (g9_except bm) (g9_strength bm) (g9_off bm) (g9_over bm) (g9_known bm) x1 x2 = T) : zR l yX9_isBeaten wsX9_isBeaten rmX9_isBeaten .boolean G [.ref (am 0), .int x1, .int x2] [w9 G am bm] T := by
  refine zR.mk (cc := cX9_isBeaten) (maxL := 4) (by decide +kernel) rfl (Nat.le_of_ble_eq_true rfl) ?_
  intro p e s m args below meth c Q A ls S hK hD hA hP hl hret
  have hx := S.1
  have hb := S.2.1
  have hl : lv_has ls 4 [(0, .ref (am 0)), (1, .int x1), (2, .int x2)] := hl
  obtain ⟨N_m_rules, hN_m_rules, hs_m_rules⟩ := id hz_m_rules
  have hE := hT.symm.trans (FX9_isBeaten.eq_1 _ _ _ _ _ _ _ _ _ _ _)
  refine lv_iconst (v := 0) hx hb dX9_isBeaten_0 (by decide) ?_
  have hB44 : ∀ (ls : Array Slot), T = FX9_isBeaten_44 (g9_rules bm) (g9_kind bm) (g9_head bm) (g9_body bm) (g9_except bm) (g9_strength bm) (g9_off bm) (g9_over bm) (g9_known bm) x1 x2  → lv_has ls 4 [] → W p l e rmX9_isBeaten s m args below meth c s.heap [] 0 0 Q (F0 m 44 ls []) := by
    intro ls hE hl
    have hE := hE.trans (FX9_isBeaten_44.eq_1 _ _ _ _ _ _ _ _ _ _ _)
    refine lv_iconst (v := 0) hx hb dX9_isBeaten_44 (by decide) ?_
    exact hret _ _ _ hE zn0 dX9_isBeaten_45
  have hB2 : ∀ (n2 : Nat) (i3_2 : Nat) (ls : Array Slot), (i3_2 ≤ N_m_rules) → 17 ≤ i3_2 + n2 → T = FX9_isBeaten_2 (g9_rules bm) (g9_kind bm) (g9_head bm) (g9_body bm) (g9_except bm) (g9_strength bm) (g9_off bm) (g9_over bm) (g9_known bm) x1 x2 (FX9_isBeaten_44 (g9_rules bm) (g9_kind bm) (g9_head bm) (g9_body bm) (g9_except bm) (g9_strength bm) (g9_off bm) (g9_over bm) (g9_known bm) x1 x2) n2 (nI i3_2) → lv_has ls 4 [(0, .ref (am 0)), (1, .int x1), (2, .int x2), (3, .int (nI i3_2))] → W p l e rmX9_isBeaten s m args below meth c s.heap [] 0 0 Q (F0 m 2 ls []) := by
    intro n2
    induction n2 with
    | zero =>
      intro i3_2 ls hi3_2 hn hE hl
      exact absurd hn (by omega)
    | succ n2 ih2 =>
      intro i3_2 ls hi3_2 hn hE hl
      have hE := hE.trans (FX9_isBeaten_2.eq_2 _ _ _ _ _ _ _ _ _ _ _ _ _ _)
      refine lv_iload_n hx hb dX9_isBeaten_2 rfl (lv_at hl 3 rfl) ?_
      refine lv_aload_n hx hb dX9_isBeaten_3 rfl (lv_at hl 0 rfl) ?_
      refine zg9_rules S in_X9_isBeaten_9 hK hP 0 rfl (List.mem_of_getElem? (i := 1) rfl) (v := (g9_rules bm)) rfl dX9_isBeaten_4 ?_
      refine lv_icmp_ge (tgt := 44) hx hb dX9_isBeaten_7 (by decide) (fun c7 => ?_) (fun c7 => ?_)
      · have hE := hE.trans (if_pos c7)
        exact hB44 _ hE (lv_sub hl [] rfl)
      · have hE := hE.trans (if_neg c7)
        have hl3_2 : i3_2 < N_m_rules := zlt hs_m_rules (by omega) (by omega) c7
        refine lv_aload_n hx hb dX9_isBeaten_10 rfl (lv_at hl 0 rfl) ?_
        refine lv_iload_n hx hb dX9_isBeaten_11 rfl (lv_at hl 3 rfl) ?_
        refine lv_iload_n hx hb dX9_isBeaten_12 rfl (lv_at hl 2 rfl) ?_
        obtain ⟨t13, ht13⟩ : ∃ z, FX9_isForward (g9_kind bm) (g9_head bm) (g9_off bm) (nI i3_2) x2 = z := ⟨_, rfl⟩
        have hE := hE.trans (bnd_eq ht13)
        have hc := c_X9_isForward l G am bm (nI i3_2) x2 ((vp_in_nI (by omega) (by omega))) _ ht13
        refine zgoR (va_runV (As := [.int (nI i3_2), .int x2]) (rest := []) S (hc _) (cwV 2 S.2.2.2.2 gX9_isBeaten_X9_isForward rfl rfl rfl (by decide +kernel) ⟨Nat.le_of_ble_eq_true rfl, Nat.le_of_ble_eq_true rfl⟩) (zpV hK hP hD (is := [0]) rfl rfl 0 rfl rfl (ci := 9) rfl) rfl rfl hl.1 rfl (lv_room (Nat.le_of_ble_eq_true rfl)) dX9_isBeaten_13 ⟨Nat.zero_le _, Nat.zero_le _⟩) (fun hn13 => ?_)
        refine lv_if_eq (tgt := 38) hx hb dX9_isBeaten_16 (by decide) (fun c16 => ?_) (fun c16 => ?_)
        · have hE := hE.trans (if_pos c16)
          refine lv_iinc (v := (nI (i3_2 + 1))) (lv' := [(3, .int (nI (i3_2 + 1))), (0, .ref (am 0)), (1, .int x1), (2, .int x2)]) hx hb dX9_isBeaten_38 hl (k := 3) rfl (nI_1 i3_2) (by decide) rfl (fun ls hl => ?_)
          try rw [nI_1 i3_2] at hE
          refine lv_goto (tgt := 2) hx hb dX9_isBeaten_41 (by decide) ?_
          exact ih2 (i3_2 + 1) _ (by first | assumption | omega) (by omega) hE (lv_sub hl [1, 2, 3, 0] rfl)
        · have hE := hE.trans (if_neg c16)
          refine lv_aload_n hx hb dX9_isBeaten_19 rfl (lv_at hl 0 rfl) ?_
          refine lv_iload_n hx hb dX9_isBeaten_20 rfl (lv_at hl 3 rfl) ?_
          obtain ⟨t21, ht21⟩ : ∃ z, FX9_falls (g9_body bm) (g9_except bm) (g9_known bm) (nI i3_2) = z := ⟨_, rfl⟩
          have hE := hE.trans (bnd_eq ht21)
          have hc := c_X9_falls l G am bm (nI i3_2) ((vp_in_nI (by omega) (by omega))) _ ht21
          refine zgoR (va_runV (As := [.int (nI i3_2)]) (rest := []) S (hc _) (cwV 1 S.2.2.2.2 gX9_isBeaten_X9_falls rfl rfl rfl (by decide +kernel) ⟨Nat.le_of_ble_eq_true rfl, Nat.le_of_ble_eq_true rfl⟩) (zpV hK hP hD (is := [0]) rfl rfl 0 rfl rfl (ci := 9) rfl) rfl rfl hl.1 rfl (lv_room (Nat.le_of_ble_eq_true rfl)) dX9_isBeaten_21 ⟨Nat.zero_le _, Nat.zero_le _⟩) (fun hn21 => ?_)
          refine lv_if_ne (tgt := 38) hx hb dX9_isBeaten_24 (by decide) (fun c24 => ?_) (fun c24 => ?_)
          · have hE := hE.trans (if_neg c24)
            refine lv_iinc (v := (nI (i3_2 + 1))) (lv' := [(3, .int (nI (i3_2 + 1))), (0, .ref (am 0)), (1, .int x1), (2, .int x2)]) hx hb dX9_isBeaten_38 hl (k := 3) rfl (nI_1 i3_2) (by decide) rfl (fun ls hl => ?_)
            try rw [nI_1 i3_2] at hE
            refine lv_goto (tgt := 2) hx hb dX9_isBeaten_41 (by decide) ?_
            exact ih2 (i3_2 + 1) _ (by first | assumption | omega) (by omega) hE (lv_sub hl [1, 2, 3, 0] rfl)
          · have hE := hE.trans (if_pos c24)
            refine lv_aload_n hx hb dX9_isBeaten_27 rfl (lv_at hl 0 rfl) ?_
            refine lv_iload_n hx hb dX9_isBeaten_28 rfl (lv_at hl 3 rfl) ?_
            refine lv_iload_n hx hb dX9_isBeaten_29 rfl (lv_at hl 1 rfl) ?_
            obtain ⟨t30, ht30⟩ : ∃ z, FX9_isAbove (g9_strength bm) (g9_over bm) (nI i3_2) x1 = z := ⟨_, rfl⟩
            have hE := hE.trans (bnd_eq ht30)
            have hc := c_X9_isAbove l G am bm (nI i3_2) x1 ((vp_in_nI (by omega) (by omega))) (hx1_16) _ ht30
            refine zgoR (va_runV (As := [.int (nI i3_2), .int x1]) (rest := []) S (hc _) (cwV 2 S.2.2.2.2 gX9_isBeaten_X9_isAbove rfl rfl rfl (by decide +kernel) ⟨Nat.le_of_ble_eq_true rfl, Nat.le_of_ble_eq_true rfl⟩) (zpV hK hP hD (is := [0]) rfl rfl 0 rfl rfl (ci := 9) rfl) rfl rfl hl.1 rfl (lv_room (Nat.le_of_ble_eq_true rfl)) dX9_isBeaten_30 ⟨Nat.zero_le _, Nat.zero_le _⟩) (fun hn30 => ?_)
            refine lv_if_eq (tgt := 38) hx hb dX9_isBeaten_33 (by decide) (fun c33 => ?_) (fun c33 => ?_)
            · have hE := hE.trans (if_pos c33)
              refine lv_iinc (v := (nI (i3_2 + 1))) (lv' := [(3, .int (nI (i3_2 + 1))), (0, .ref (am 0)), (1, .int x1), (2, .int x2)]) hx hb dX9_isBeaten_38 hl (k := 3) rfl (nI_1 i3_2) (by decide) rfl (fun ls hl => ?_)
              try rw [nI_1 i3_2] at hE
              refine lv_goto (tgt := 2) hx hb dX9_isBeaten_41 (by decide) ?_
              exact ih2 (i3_2 + 1) _ (by first | assumption | omega) (by omega) hE (lv_sub hl [1, 2, 3, 0] rfl)
            · have hE := hE.trans (if_neg c33)
              refine lv_iconst (v := 1) hx hb dX9_isBeaten_36 (by decide) ?_
              exact hret _ _ _ hE zn1 dX9_isBeaten_37
  refine lv_istore_n (lv' := [(3, .int 0), (0, .ref (am 0)), (1, .int x1), (2, .int x2)]) hx hb dX9_isBeaten_1 rfl hl (by decide) rfl (fun ls hl => ?_)
  exact hB2 17 0 _ (by first | assumption | omega) (by omega) hE (lv_sub hl [1, 2, 3, 0] rfl)

theorem in_X9_hindering_9 : ∀ w ∈ u_ws RX9 TX9 40, w ∈ wsX9_hindering := by decide +kernel
def rmX9_hindering : Room := { frames := 3, cells := 0, slots := 0, locals := 67 }
set_option maxHeartbeats 4000000 in
set_option maxRecDepth 100000 in
theorem c_X9_hindering (l : Launch) (G : zG) (am : Nat → Nat) (bm : S9) (x1 : Int32) (hz_m_rules : ∃ N : Nat, N ≤ 16 ∧ g9_rules bm = nI N) (T : Int32) (hT : FX9_hindering (g9_rules bm) (g9_kind bm) (g9_head bm) (g9_body bm) (g9_except bm) (g9_strength bm) (g9_off bm) (g9_over bm) (g9_known bm) x1 = T) : zR l yX9_hindering wsX9_hindering rmX9_hindering .int G [.ref (am 0), .int x1] [w9 G am bm] T := by
  refine zR.mk (cc := cX9_hindering) (maxL := 3) (by decide +kernel) rfl (Nat.le_of_ble_eq_true rfl) ?_
  intro p e s m args below meth c Q A ls S hK hD hA hP hl hret
  have hx := S.1
  have hb := S.2.1
  have hl : lv_has ls 3 [(0, .ref (am 0)), (1, .int x1)] := hl
  obtain ⟨N_m_rules, hN_m_rules, hs_m_rules⟩ := id hz_m_rules
  have hE := hT.symm.trans (FX9_hindering.eq_1 _ _ _ _ _ _ _ _ _ _)
  refine lv_iconst (v := 0) hx hb dX9_hindering_0 (by decide) ?_
  have hB47 : ∀ (ls : Array Slot), T = FX9_hindering_47 (g9_rules bm) (g9_kind bm) (g9_head bm) (g9_body bm) (g9_except bm) (g9_strength bm) (g9_off bm) (g9_over bm) (g9_known bm) x1  → lv_has ls 3 [] → W p l e rmX9_hindering s m args below meth c s.heap [] 0 0 Q (F0 m 47 ls []) := by
    intro ls hE hl
    have hE := hE.trans (FX9_hindering_47.eq_1 _ _ _ _ _ _ _ _ _ _)
    refine lv_iconst (v := (-1)) hx hb dX9_hindering_47 (by decide) ?_
    exact hret _ _ _ hE rfl dX9_hindering_48
  have hB2 : ∀ (n2 : Nat) (i2_2 : Nat) (ls : Array Slot), (i2_2 ≤ N_m_rules) → 17 ≤ i2_2 + n2 → T = FX9_hindering_2 (g9_rules bm) (g9_kind bm) (g9_head bm) (g9_body bm) (g9_except bm) (g9_strength bm) (g9_off bm) (g9_over bm) (g9_known bm) x1 (FX9_hindering_47 (g9_rules bm) (g9_kind bm) (g9_head bm) (g9_body bm) (g9_except bm) (g9_strength bm) (g9_off bm) (g9_over bm) (g9_known bm) x1) n2 (nI i2_2) → lv_has ls 3 [(0, .ref (am 0)), (1, .int x1), (2, .int (nI i2_2))] → W p l e rmX9_hindering s m args below meth c s.heap [] 0 0 Q (F0 m 2 ls []) := by
    intro n2
    induction n2 with
    | zero =>
      intro i2_2 ls hi2_2 hn hE hl
      exact absurd hn (by omega)
    | succ n2 ih2 =>
      intro i2_2 ls hi2_2 hn hE hl
      have hE := hE.trans (FX9_hindering_2.eq_2 _ _ _ _ _ _ _ _ _ _ _ _ _)
      refine lv_iload_n hx hb dX9_hindering_2 rfl (lv_at hl 2 rfl) ?_
      refine lv_aload_n hx hb dX9_hindering_3 rfl (lv_at hl 0 rfl) ?_
      refine zg9_rules S in_X9_hindering_9 hK hP 0 rfl (List.mem_of_getElem? (i := 1) rfl) (v := (g9_rules bm)) rfl dX9_hindering_4 ?_
      refine lv_icmp_ge (tgt := 47) hx hb dX9_hindering_7 (by decide) (fun c7 => ?_) (fun c7 => ?_)
      · have hE := hE.trans (if_pos c7)
        exact hB47 _ hE (lv_sub hl [] rfl)
      · have hE := hE.trans (if_neg c7)
        have hl2_2 : i2_2 < N_m_rules := zlt hs_m_rules (by omega) (by omega) c7
        refine lv_aload_n hx hb dX9_hindering_10 rfl (lv_at hl 0 rfl) ?_
        refine lv_iload_n hx hb dX9_hindering_11 rfl (lv_at hl 2 rfl) ?_
        refine lv_iload_n hx hb dX9_hindering_12 rfl (lv_at hl 1 rfl) ?_
        obtain ⟨t13, ht13⟩ : ∃ z, FX9_otherOf x1 = z := ⟨_, rfl⟩
        have hE := hE.trans (bnd_eq ht13)
        have hc := c_X9_otherOf l G x1 _ ht13
        refine zgoR (va_runS (As := [.int x1]) (rest := [.int (nI i2_2), .ref (am 0)]) S (hc _) (va_cwS 1 S.2.2.2.2 gX9_hindering_X9_otherOf rfl rfl rfl (by decide +kernel) ⟨Nat.le_of_ble_eq_true rfl, Nat.le_of_ble_eq_true rfl⟩) (zpS hK hP hD (is := []) rfl rfl) rfl rfl hl.1 rfl (lv_room (Nat.le_of_ble_eq_true rfl)) dX9_hindering_13 ⟨Nat.zero_le _, Nat.zero_le _⟩) (fun hn13 => ?_)
        obtain ⟨t16, ht16⟩ : ∃ z, FX9_isFor (g9_head bm) (g9_off bm) (nI i2_2) t13 = z := ⟨_, rfl⟩
        have hE := hE.trans (bnd_eq ht16)
        have hc := c_X9_isFor l G am bm (nI i2_2) t13 ((vp_in_nI (by omega) (by omega))) _ ht16
        refine zgoR (va_runV (As := [.int (nI i2_2), .int t13]) (rest := []) S (hc _) (cwV 2 S.2.2.2.2 gX9_hindering_X9_isFor rfl rfl rfl (by decide +kernel) ⟨Nat.le_of_ble_eq_true rfl, Nat.le_of_ble_eq_true rfl⟩) (zpV hK hP hD (is := [0]) rfl rfl 0 rfl rfl (ci := 9) rfl) rfl rfl hl.1 rfl (lv_room (Nat.le_of_ble_eq_true rfl)) dX9_hindering_16 ⟨Nat.zero_le _, Nat.zero_le _⟩) (fun hn16 => ?_)
        refine lv_if_eq (tgt := 41) hx hb dX9_hindering_19 (by decide) (fun c19 => ?_) (fun c19 => ?_)
        · have hE := hE.trans (if_pos c19)
          refine lv_iinc (v := (nI (i2_2 + 1))) (lv' := [(2, .int (nI (i2_2 + 1))), (0, .ref (am 0)), (1, .int x1)]) hx hb dX9_hindering_41 hl (k := 2) rfl (nI_1 i2_2) (by decide) rfl (fun ls hl => ?_)
          try rw [nI_1 i2_2] at hE
          refine lv_goto (tgt := 2) hx hb dX9_hindering_44 (by decide) ?_
          exact ih2 (i2_2 + 1) _ (by first | assumption | omega) (by omega) hE (lv_sub hl [1, 2, 0] rfl)
        · have hE := hE.trans (if_neg c19)
          refine lv_aload_n hx hb dX9_hindering_22 rfl (lv_at hl 0 rfl) ?_
          refine lv_iload_n hx hb dX9_hindering_23 rfl (lv_at hl 2 rfl) ?_
          obtain ⟨t24, ht24⟩ : ∃ z, FX9_applies (g9_body bm) (g9_except bm) (g9_known bm) (nI i2_2) = z := ⟨_, rfl⟩
          have hE := hE.trans (bnd_eq ht24)
          have hc := c_X9_applies l G am bm (nI i2_2) ((vp_in_nI (by omega) (by omega))) _ ht24
          refine zgoR (va_runV (As := [.int (nI i2_2)]) (rest := []) S (hc _) (cwV 1 S.2.2.2.2 gX9_hindering_X9_applies rfl rfl rfl (by decide +kernel) ⟨Nat.le_of_ble_eq_true rfl, Nat.le_of_ble_eq_true rfl⟩) (zpV hK hP hD (is := [0]) rfl rfl 0 rfl rfl (ci := 9) rfl) rfl rfl hl.1 rfl (lv_room (Nat.le_of_ble_eq_true rfl)) dX9_hindering_24 ⟨Nat.zero_le _, Nat.zero_le _⟩) (fun hn24 => ?_)
          refine lv_if_eq (tgt := 41) hx hb dX9_hindering_27 (by decide) (fun c27 => ?_) (fun c27 => ?_)
          · have hE := hE.trans (if_pos c27)
            refine lv_iinc (v := (nI (i2_2 + 1))) (lv' := [(2, .int (nI (i2_2 + 1))), (0, .ref (am 0)), (1, .int x1)]) hx hb dX9_hindering_41 hl (k := 2) rfl (nI_1 i2_2) (by decide) rfl (fun ls hl => ?_)
            try rw [nI_1 i2_2] at hE
            refine lv_goto (tgt := 2) hx hb dX9_hindering_44 (by decide) ?_
            exact ih2 (i2_2 + 1) _ (by first | assumption | omega) (by omega) hE (lv_sub hl [1, 2, 0] rfl)
          · have hE := hE.trans (if_neg c27)
            refine lv_aload_n hx hb dX9_hindering_30 rfl (lv_at hl 0 rfl) ?_
            refine lv_iload_n hx hb dX9_hindering_31 rfl (lv_at hl 2 rfl) ?_
            refine lv_iload_n hx hb dX9_hindering_32 rfl (lv_at hl 1 rfl) ?_
            obtain ⟨t33, ht33⟩ : ∃ z, FX9_isBeaten (g9_rules bm) (g9_kind bm) (g9_head bm) (g9_body bm) (g9_except bm) (g9_strength bm) (g9_off bm) (g9_over bm) (g9_known bm) (nI i2_2) x1 = z := ⟨_, rfl⟩
            have hE := hE.trans (bnd_eq ht33)
            have hc := c_X9_isBeaten l G am bm (nI i2_2) x1 (hz_m_rules) ((vp_in_nI (by omega) (by omega))) _ ht33
            refine zgoR (va_runV (As := [.int (nI i2_2), .int x1]) (rest := []) S (hc _) (cwV 2 S.2.2.2.2 gX9_hindering_X9_isBeaten rfl rfl rfl (by decide +kernel) ⟨Nat.le_of_ble_eq_true rfl, Nat.le_of_ble_eq_true rfl⟩) (zpV hK hP hD (is := [0]) rfl rfl 0 rfl rfl (ci := 9) rfl) rfl rfl hl.1 rfl (lv_room (Nat.le_of_ble_eq_true rfl)) dX9_hindering_33 ⟨Nat.zero_le _, Nat.zero_le _⟩) (fun hn33 => ?_)
            refine lv_if_ne (tgt := 41) hx hb dX9_hindering_36 (by decide) (fun c36 => ?_) (fun c36 => ?_)
            · have hE := hE.trans (if_neg c36)
              refine lv_iinc (v := (nI (i2_2 + 1))) (lv' := [(2, .int (nI (i2_2 + 1))), (0, .ref (am 0)), (1, .int x1)]) hx hb dX9_hindering_41 hl (k := 2) rfl (nI_1 i2_2) (by decide) rfl (fun ls hl => ?_)
              try rw [nI_1 i2_2] at hE
              refine lv_goto (tgt := 2) hx hb dX9_hindering_44 (by decide) ?_
              exact ih2 (i2_2 + 1) _ (by first | assumption | omega) (by omega) hE (lv_sub hl [1, 2, 0] rfl)
            · have hE := hE.trans (if_pos c36)
              refine lv_iload_n hx hb dX9_hindering_39 rfl (lv_at hl 2 rfl) ?_
              exact hret _ _ _ hE rfl dX9_hindering_40
  refine lv_istore_n (lv' := [(2, .int 0), (0, .ref (am 0)), (1, .int x1)]) hx hb dX9_hindering_1 rfl hl (by decide) rfl (fun ls hl => ?_)
  exact hB2 17 0 _ (by first | assumption | omega) (by omega) hE (lv_sub hl [1, 2, 0] rfl)

theorem in_X9_isUnlikely_9 : ∀ w ∈ u_ws RX9 TX9 40, w ∈ wsX9_isUnlikely := by decide +kernel
def rmX9_isUnlikely : Room := { frames := 4, cells := 0, slots := 0, locals := 89 }
set_option maxHeartbeats 4000000 in
set_option maxRecDepth 100000 in
theorem c_X9_isUnlikely (l : Launch) (G : zG) (am : Nat → Nat) (bm : S9) (x1 : Int32) (hz_m_rules : ∃ N : Nat, N ≤ 16 ∧ g9_rules bm = nI N) (T : Int32) (hT : FX9_isUnlikely (g9_rules bm) (g9_kind bm) (g9_head bm) (g9_body bm) (g9_except bm) (g9_strength bm) (g9_off bm) (g9_over bm) (g9_known bm) x1 = T) : zR l yX9_isUnlikely wsX9_isUnlikely rmX9_isUnlikely .boolean G [.ref (am 0), .int x1] [w9 G am bm] T := by
  refine zR.mk (cc := cX9_isUnlikely) (maxL := 2) (by decide +kernel) rfl (Nat.le_of_ble_eq_true rfl) ?_
  intro p e s m args below meth c Q A ls S hK hD hA hP hl hret
  have hx := S.1
  have hb := S.2.1
  have hl : lv_has ls 2 [(0, .ref (am 0)), (1, .int x1)] := hl
  have hE := hT.symm.trans (FX9_isUnlikely.eq_1 _ _ _ _ _ _ _ _ _ _)
  refine lv_aload_n hx hb dX9_isUnlikely_0 rfl (lv_at hl 0 rfl) ?_
  refine zg9_known S in_X9_isUnlikely_9 hK hP 0 rfl (List.mem_of_getElem? (i := 1) rfl) dX9_isUnlikely_1 ?_
  refine lv_iconst (v := 1) hx hb dX9_isUnlikely_4 (by decide) ?_
  refine zl9_known S hK hP 0 rfl (zin_k (n := 1) rfl (by decide) (by decide)) (f := (g9_known bm)) rfl dX9_isUnlikely_5 ?_
  refine lv_iload_n hx hb dX9_isUnlikely_6 rfl (lv_at hl 1 rfl) ?_
  obtain ⟨t7, ht7⟩ : ∃ z, FX9_has ((g9_known bm) (1 : Int32).toNatClampNeg) x1 = z := ⟨_, rfl⟩
  have hE := hE.trans (bnd_eq ht7)
  have hc := c_X9_has l G ((g9_known bm) (1 : Int32).toNatClampNeg) x1 _ ht7
  refine zgoR (va_runS (As := [.int ((g9_known bm) (1 : Int32).toNatClampNeg), .int x1]) (rest := []) S (hc _) (va_cwS 2 S.2.2.2.2 gX9_isUnlikely_X9_has rfl rfl rfl (by decide +kernel) ⟨Nat.le_of_ble_eq_true rfl, Nat.le_of_ble_eq_true rfl⟩) (zpS hK hP hD (is := []) rfl rfl) rfl rfl hl.1 rfl (lv_room (Nat.le_of_ble_eq_true rfl)) dX9_isUnlikely_7 ⟨Nat.zero_le _, Nat.zero_le _⟩) (fun hn7 => ?_)
  refine lv_if_eq (tgt := 49) hx hb dX9_isUnlikely_10 (by decide) (fun c10 => ?_) (fun c10 => ?_)
  · have hE := hE.trans (if_pos c10)
    refine lv_iconst (v := 0) hx hb dX9_isUnlikely_49 (by decide) ?_
    exact hret _ _ _ hE zn0 dX9_isUnlikely_50
  · have hE := hE.trans (if_neg c10)
    refine lv_aload_n hx hb dX9_isUnlikely_13 rfl (lv_at hl 0 rfl) ?_
    refine lv_iload_n hx hb dX9_isUnlikely_14 rfl (lv_at hl 1 rfl) ?_
    obtain ⟨t15, ht15⟩ : ∃ z, FX9_allFall (g9_rules bm) (g9_kind bm) (g9_head bm) (g9_body bm) (g9_except bm) (g9_off bm) (g9_known bm) x1 = z := ⟨_, rfl⟩
    have hE := hE.trans (bnd_eq ht15)
    have hc := c_X9_allFall l G am bm x1 (hz_m_rules) _ ht15
    refine zgoR (va_runV (As := [.int x1]) (rest := []) S (hc _) (cwV 1 S.2.2.2.2 gX9_isUnlikely_X9_allFall rfl rfl rfl (by decide +kernel) ⟨Nat.le_of_ble_eq_true rfl, Nat.le_of_ble_eq_true rfl⟩) (zpV hK hP hD (is := [0]) rfl rfl 0 rfl rfl (ci := 9) rfl) rfl rfl hl.1 rfl (lv_room (Nat.le_of_ble_eq_true rfl)) dX9_isUnlikely_15 ⟨Nat.zero_le _, Nat.zero_le _⟩) (fun hn15 => ?_)
    refine lv_if_ne (tgt := 45) hx hb dX9_isUnlikely_18 (by decide) (fun c18 => ?_) (fun c18 => ?_)
    · have hE := hE.trans (if_neg c18)
      refine lv_iconst (v := 1) hx hb dX9_isUnlikely_45 (by decide) ?_
      refine lv_goto (tgt := 50) hx hb dX9_isUnlikely_46 (by decide) ?_
      exact hret _ _ _ hE zn1 dX9_isUnlikely_50
    · have hE := hE.trans (if_pos c18)
      refine lv_aload_n hx hb dX9_isUnlikely_21 rfl (lv_at hl 0 rfl) ?_
      refine zg9_known S in_X9_isUnlikely_9 hK hP 0 rfl (List.mem_of_getElem? (i := 1) rfl) dX9_isUnlikely_22 ?_
      refine lv_iconst (v := 0) hx hb dX9_isUnlikely_25 (by decide) ?_
      refine zl9_known S hK hP 0 rfl (zin_k (n := 0) rfl (by decide) (by decide)) (f := (g9_known bm)) rfl dX9_isUnlikely_26 ?_
      refine lv_iload_n hx hb dX9_isUnlikely_27 rfl (lv_at hl 1 rfl) ?_
      obtain ⟨t28, ht28⟩ : ∃ z, FX9_otherOf x1 = z := ⟨_, rfl⟩
      have hE := hE.trans (bnd_eq ht28)
      have hc := c_X9_otherOf l G x1 _ ht28
      refine zgoR (va_runS (As := [.int x1]) (rest := [.int ((g9_known bm) (0 : Int32).toNatClampNeg)]) S (hc _) (va_cwS 1 S.2.2.2.2 gX9_isUnlikely_X9_otherOf rfl rfl rfl (by decide +kernel) ⟨Nat.le_of_ble_eq_true rfl, Nat.le_of_ble_eq_true rfl⟩) (zpS hK hP hD (is := []) rfl rfl) rfl rfl hl.1 rfl (lv_room (Nat.le_of_ble_eq_true rfl)) dX9_isUnlikely_28 ⟨Nat.zero_le _, Nat.zero_le _⟩) (fun hn28 => ?_)
      obtain ⟨t31, ht31⟩ : ∃ z, FX9_has ((g9_known bm) (0 : Int32).toNatClampNeg) t28 = z := ⟨_, rfl⟩
      have hE := hE.trans (bnd_eq ht31)
      have hc := c_X9_has l G ((g9_known bm) (0 : Int32).toNatClampNeg) t28 _ ht31
      refine zgoR (va_runS (As := [.int ((g9_known bm) (0 : Int32).toNatClampNeg), .int t28]) (rest := []) S (hc _) (va_cwS 2 S.2.2.2.2 gX9_isUnlikely_X9_has rfl rfl rfl (by decide +kernel) ⟨Nat.le_of_ble_eq_true rfl, Nat.le_of_ble_eq_true rfl⟩) (zpS hK hP hD (is := []) rfl rfl) rfl rfl hl.1 rfl (lv_room (Nat.le_of_ble_eq_true rfl)) dX9_isUnlikely_31 ⟨Nat.zero_le _, Nat.zero_le _⟩) (fun hn31 => ?_)
      refine lv_if_ne (tgt := 45) hx hb dX9_isUnlikely_34 (by decide) (fun c34 => ?_) (fun c34 => ?_)
      · have hE := hE.trans (if_neg c34)
        refine lv_iconst (v := 1) hx hb dX9_isUnlikely_45 (by decide) ?_
        refine lv_goto (tgt := 50) hx hb dX9_isUnlikely_46 (by decide) ?_
        exact hret _ _ _ hE zn1 dX9_isUnlikely_50
      · have hE := hE.trans (if_pos c34)
        refine lv_aload_n hx hb dX9_isUnlikely_37 rfl (lv_at hl 0 rfl) ?_
        refine lv_iload_n hx hb dX9_isUnlikely_38 rfl (lv_at hl 1 rfl) ?_
        obtain ⟨t39, ht39⟩ : ∃ z, FX9_hindering (g9_rules bm) (g9_kind bm) (g9_head bm) (g9_body bm) (g9_except bm) (g9_strength bm) (g9_off bm) (g9_over bm) (g9_known bm) x1 = z := ⟨_, rfl⟩
        have hE := hE.trans (bnd_eq ht39)
        have hc := c_X9_hindering l G am bm x1 (hz_m_rules) _ ht39
        refine zgoR (va_runV (As := [.int x1]) (rest := []) S (hc _) (cwV 1 S.2.2.2.2 gX9_isUnlikely_X9_hindering rfl rfl rfl (by decide +kernel) ⟨Nat.le_of_ble_eq_true rfl, Nat.le_of_ble_eq_true rfl⟩) (zpV hK hP hD (is := [0]) rfl rfl 0 rfl rfl (ci := 9) rfl) rfl rfl hl.1 rfl (lv_room (Nat.le_of_ble_eq_true rfl)) dX9_isUnlikely_39 ⟨Nat.zero_le _, Nat.zero_le _⟩) (fun hn39 => ?_)
        refine lv_if_lt (tgt := 49) hx hb dX9_isUnlikely_42 (by decide) (fun c42 => ?_) (fun c42 => ?_)
        · have hE := hE.trans (if_pos c42)
          refine lv_iconst (v := 0) hx hb dX9_isUnlikely_49 (by decide) ?_
          exact hret _ _ _ hE zn0 dX9_isUnlikely_50
        · have hE := hE.trans (if_neg c42)
          refine lv_iconst (v := 1) hx hb dX9_isUnlikely_45 (by decide) ?_
          refine lv_goto (tgt := 50) hx hb dX9_isUnlikely_46 (by decide) ?_
          exact hret _ _ _ hE zn1 dX9_isUnlikely_50

def rmX9_holds : Room := { frames := 5, cells := 0, slots := 0, locals := 110 }
set_option maxHeartbeats 4000000 in
set_option maxRecDepth 100000 in
theorem c_X9_holds (l : Launch) (G : zG) (am : Nat → Nat) (bm : S9) (x1 : Int32) (x2 : Int32) (hz_m_rules : ∃ N : Nat, N ≤ 16 ∧ g9_rules bm = nI N) (T : Int32) (hT : FX9_holds (g9_facts bm) (g9_rules bm) (g9_kind bm) (g9_head bm) (g9_body bm) (g9_except bm) (g9_strength bm) (g9_off bm) (g9_over bm) (g9_known bm) x1 x2 = T) : zR l yX9_holds wsX9_holds rmX9_holds .boolean G [.ref (am 0), .int x1, .int x2] [w9 G am bm] T := by
  refine zR.mk (cc := cX9_holds) (maxL := 3) (by decide +kernel) rfl (Nat.le_of_ble_eq_true rfl) ?_
  intro p e s m args below meth c Q A ls S hK hD hA hP hl hret
  have hx := S.1
  have hb := S.2.1
  have hl : lv_has ls 3 [(0, .ref (am 0)), (1, .int x1), (2, .int x2)] := hl
  have hE := hT.symm.trans (FX9_holds.eq_1 _ _ _ _ _ _ _ _ _ _ _ _)
  refine lv_iload_n hx hb dX9_holds_0 rfl (lv_at hl 1 rfl) ?_
  by_cases c1_0 : x1 = 0
  · have hE := hE.trans (if_pos c1_0)
    refine lv_tableIn (off := 27) (tgt := 28) hx hb dX9_holds_1 (by rw [c1_0]; decide) (by rw [c1_0]; decide) (by rw [c1_0]; rfl) (by decide) ?_
    refine lv_aload_n hx hb dX9_holds_28 rfl (lv_at hl 0 rfl) ?_
    refine lv_iload_n hx hb dX9_holds_29 rfl (lv_at hl 2 rfl) ?_
    obtain ⟨t30, ht30⟩ : ∃ z, FX9_isSure (g9_facts bm) (g9_rules bm) (g9_kind bm) (g9_head bm) (g9_body bm) (g9_off bm) (g9_known bm) x2 = z := ⟨_, rfl⟩
    have hE := hE.trans (bnd_eq ht30)
    have hc := c_X9_isSure l G am bm x2 (hz_m_rules) _ ht30
    refine zgoR (va_runV (As := [.int x2]) (rest := []) S (hc _) (cwV 1 S.2.2.2.2 gX9_holds_X9_isSure rfl rfl rfl (by decide +kernel) ⟨Nat.le_of_ble_eq_true rfl, Nat.le_of_ble_eq_true rfl⟩) (zpV hK hP hD (is := [0]) rfl rfl 0 rfl rfl (ci := 9) rfl) rfl rfl hl.1 rfl (lv_room (Nat.le_of_ble_eq_true rfl)) dX9_holds_30 ⟨Nat.zero_le _, Nat.zero_le _⟩) (fun hn30 => ?_)
    exact hret _ _ _ hE hn30 dX9_holds_33
  have hE := hE.trans (if_neg c1_0)
  by_cases c1_1 : x1 = 1
  · have hE := hE.trans (if_pos c1_1)
    refine lv_tableIn (off := 33) (tgt := 34) hx hb dX9_holds_1 (by rw [c1_1]; decide) (by rw [c1_1]; decide) (by rw [c1_1]; rfl) (by decide) ?_
    refine lv_aload_n hx hb dX9_holds_34 rfl (lv_at hl 0 rfl) ?_
    refine lv_iload_n hx hb dX9_holds_35 rfl (lv_at hl 2 rfl) ?_
    obtain ⟨t36, ht36⟩ : ∃ z, FX9_isNever (g9_facts bm) (g9_rules bm) (g9_kind bm) (g9_head bm) (g9_body bm) (g9_off bm) (g9_known bm) x2 = z := ⟨_, rfl⟩
    have hE := hE.trans (bnd_eq ht36)
    have hc := c_X9_isNever l G am bm x2 (hz_m_rules) _ ht36
    refine zgoR (va_runV (As := [.int x2]) (rest := []) S (hc _) (cwV 1 S.2.2.2.2 gX9_holds_X9_isNever rfl rfl rfl (by decide +kernel) ⟨Nat.le_of_ble_eq_true rfl, Nat.le_of_ble_eq_true rfl⟩) (zpV hK hP hD (is := [0]) rfl rfl 0 rfl rfl (ci := 9) rfl) rfl rfl hl.1 rfl (lv_room (Nat.le_of_ble_eq_true rfl)) dX9_holds_36 ⟨Nat.zero_le _, Nat.zero_le _⟩) (fun hn36 => ?_)
    exact hret _ _ _ hE hn36 dX9_holds_39
  have hE := hE.trans (if_neg c1_1)
  by_cases c1_2 : x1 = 2
  · have hE := hE.trans (if_pos c1_2)
    refine lv_tableIn (off := 39) (tgt := 40) hx hb dX9_holds_1 (by rw [c1_2]; decide) (by rw [c1_2]; decide) (by rw [c1_2]; rfl) (by decide) ?_
    refine lv_aload_n hx hb dX9_holds_40 rfl (lv_at hl 0 rfl) ?_
    refine lv_iload_n hx hb dX9_holds_41 rfl (lv_at hl 2 rfl) ?_
    obtain ⟨t42, ht42⟩ : ∃ z, FX9_isLikely (g9_rules bm) (g9_kind bm) (g9_head bm) (g9_body bm) (g9_except bm) (g9_strength bm) (g9_off bm) (g9_over bm) (g9_known bm) x2 = z := ⟨_, rfl⟩
    have hE := hE.trans (bnd_eq ht42)
    have hc := c_X9_isLikely l G am bm x2 (hz_m_rules) _ ht42
    refine zgoR (va_runV (As := [.int x2]) (rest := []) S (hc _) (cwV 1 S.2.2.2.2 gX9_holds_X9_isLikely rfl rfl rfl (by decide +kernel) ⟨Nat.le_of_ble_eq_true rfl, Nat.le_of_ble_eq_true rfl⟩) (zpV hK hP hD (is := [0]) rfl rfl 0 rfl rfl (ci := 9) rfl) rfl rfl hl.1 rfl (lv_room (Nat.le_of_ble_eq_true rfl)) dX9_holds_42 ⟨Nat.zero_le _, Nat.zero_le _⟩) (fun hn42 => ?_)
    exact hret _ _ _ hE hn42 dX9_holds_45
  have hE := hE.trans (if_neg c1_2)
  refine lv_tableOut (tgt := 46) hx hb dX9_holds_1 (zsw3 c1_0 c1_1 c1_2) (by decide) ?_
  refine lv_aload_n hx hb dX9_holds_46 rfl (lv_at hl 0 rfl) ?_
  refine lv_iload_n hx hb dX9_holds_47 rfl (lv_at hl 2 rfl) ?_
  obtain ⟨t48, ht48⟩ : ∃ z, FX9_isUnlikely (g9_rules bm) (g9_kind bm) (g9_head bm) (g9_body bm) (g9_except bm) (g9_strength bm) (g9_off bm) (g9_over bm) (g9_known bm) x2 = z := ⟨_, rfl⟩
  have hE := hE.trans (bnd_eq ht48)
  have hc := c_X9_isUnlikely l G am bm x2 (hz_m_rules) _ ht48
  refine zgoR (va_runV (As := [.int x2]) (rest := []) S (hc _) (cwV 1 S.2.2.2.2 gX9_holds_X9_isUnlikely rfl rfl rfl (by decide +kernel) ⟨Nat.le_of_ble_eq_true rfl, Nat.le_of_ble_eq_true rfl⟩) (zpV hK hP hD (is := [0]) rfl rfl 0 rfl rfl (ci := 9) rfl) rfl rfl hl.1 rfl (lv_room (Nat.le_of_ble_eq_true rfl)) dX9_holds_48 ⟨Nat.zero_le _, Nat.zero_le _⟩) (fun hn48 => ?_)
  exact hret _ _ _ hE hn48 dX9_holds_51

theorem in_X9_tags_9 : ∀ w ∈ u_ws RX9 TX9 40, w ∈ wsX9_tags := by decide +kernel
def rmX9_tags : Room := { frames := 6, cells := 0, slots := 0, locals := 132 }
set_option maxHeartbeats 4000000 in
set_option maxRecDepth 100000 in
theorem c_X9_tags (l : Launch) (G : zG) (am : Nat → Nat) (bm : S9) (hz_m_rules : ∃ N : Nat, N ≤ 16 ∧ g9_rules bm = nI N) (T : (Nat → Int32) × (Nat → Int32) × (Nat → Int32) × (Int32)) (hT : FX9_tags (g9_facts bm) (g9_rules bm) (g9_kind bm) (g9_head bm) (g9_body bm) (g9_except bm) (g9_strength bm) (g9_off bm) (g9_over bm) (g9_came bm) (g9_known bm) (g9_fresh bm) (g9_rounds bm) = T) : zV l yX9_tags wsX9_tags rmX9_tags G [.ref (am 0)] [w9 G am bm] [w9 G am (s9_rounds (s9_fresh (s9_known (s9_came bm T.1) T.2.1) T.2.2.1) T.2.2.2)] := by
  refine zV.mk (cc := cX9_tags) (maxL := 4) (by decide +kernel) rfl (Nat.le_of_ble_eq_true rfl) (zfl_cons (wf9 _ _ _ _) rfl) ?_
  intro p e s m args below meth c Q A ls S hK hD hA hP hl hret
  have hx := S.1
  have hb := S.2.1
  have hS : va_S A s.heap s.heap [] := va_S.rf
  have hl : lv_has ls 4 [(0, .ref (am 0))] := hl
  have hE := hT.symm.trans (FX9_tags.eq_1 _ _ _ _ _ _ _ _ _ _ _ _ _)
  refine lv_iconst (v := 0) hx hb dX9_tags_0 (by decide) ?_
  have hB21 : ∀ (m_came_21 : Nat → Int32) (H : Heap) (locs : List Loc) (ls : Array Slot), T = FX9_tags_21 (g9_facts bm) (g9_rules bm) (g9_kind bm) (g9_head bm) (g9_body bm) (g9_except bm) (g9_strength bm) (g9_off bm) (g9_over bm) (g9_came bm) (g9_known bm) (g9_fresh bm) (g9_rounds bm) m_came_21 (g9_known bm) (g9_fresh bm) (g9_rounds bm) → zP G [w9 G am (s9_came bm m_came_21)] H → zD A [w9 G am (s9_came bm m_came_21)] → va_S A s.heap H locs → lv_has ls 4 [(0, .ref (am 0))] → W p l e rmX9_tags s m args below meth c H locs 0 0 Q (F0 m 21 ls []) := by
    intro m_came_21 H locs ls hE hP hD hS hl
    have hE := hE.trans (FX9_tags_21.eq_1 _ _ _ _ _ _ _ _ _ _ _ _ _ _ _ _ _)
    refine lv_iconst (v := 0) hx hb dX9_tags_21 (by decide) ?_
    have hB41 : ∀ (m_known_41 : Nat → Int32) (H : Heap) (locs : List Loc) (ls : Array Slot), T = FX9_tags_41 (g9_facts bm) (g9_rules bm) (g9_kind bm) (g9_head bm) (g9_body bm) (g9_except bm) (g9_strength bm) (g9_off bm) (g9_over bm) (g9_came bm) (g9_known bm) (g9_fresh bm) (g9_rounds bm) m_came_21 m_known_41 (g9_fresh bm) (g9_rounds bm) → zP G [w9 G am (s9_known (s9_came bm m_came_21) m_known_41)] H → zD A [w9 G am (s9_known (s9_came bm m_came_21) m_known_41)] → va_S A s.heap H locs → lv_has ls 4 [(0, .ref (am 0))] → W p l e rmX9_tags s m args below meth c H locs 0 0 Q (F0 m 41 ls []) := by
      intro m_known_41 H locs ls hE hP hD hS hl
      have hE := hE.trans (FX9_tags_41.eq_1 _ _ _ _ _ _ _ _ _ _ _ _ _ _ _ _ _)
      refine lv_aload_n hx hb dX9_tags_41 rfl (lv_at hl 0 rfl) ?_
      refine lv_iconst (v := 0) hx hb dX9_tags_42 (by decide) ?_
      refine zp9_rounds (bs1 := [w9 G am (s9_rounds (s9_known (s9_came bm m_came_21) m_known_41) 0)]) S in_X9_tags_9 hK hP hD hS 0 rfl (List.mem_of_getElem? (i := 3) rfl) dX9_tags_43 rfl (fun H locs hP hD hS => ?_)
      refine lv_iconst (v := 1) hx hb dX9_tags_46 (by decide) ?_
      have hB236 : ∀ (m_came_236 : Nat → Int32) (m_known_236 : Nat → Int32) (m_fresh_236 : Nat → Int32) (m_rounds_236 : Int32) (H : Heap) (locs : List Loc) (ls : Array Slot), T = FX9_tags_236 (g9_facts bm) (g9_rules bm) (g9_kind bm) (g9_head bm) (g9_body bm) (g9_except bm) (g9_strength bm) (g9_off bm) (g9_over bm) (g9_came bm) (g9_known bm) (g9_fresh bm) (g9_rounds bm) m_came_236 m_known_236 m_fresh_236 m_rounds_236 → zP G [w9 G am (s9_rounds (s9_fresh (s9_known (s9_came bm m_came_236) m_known_236) m_fresh_236) m_rounds_236)] H → zD A [w9 G am (s9_rounds (s9_fresh (s9_known (s9_came bm m_came_236) m_known_236) m_fresh_236) m_rounds_236)] → va_S A s.heap H locs → lv_has ls 4 [] → W p l e rmX9_tags s m args below meth c H locs 0 0 Q (F0 m 236 ls []) := by
        intro m_came_236 m_known_236 m_fresh_236 m_rounds_236 H locs ls hE hP hD hS hl
        have hE := hE.trans (FX9_tags_236.eq_1 _ _ _ _ _ _ _ _ _ _ _ _ _ _ _ _ _)
        exact hret _ _ _ _ _ (by subst hE; rfl) hP hS dX9_tags_236
      have hB48 : ∀ (n48 : Nat) (x1_48 : Int32) (m_came_48 : Nat → Int32) (m_known_48 : Nat → Int32) (m_fresh_48 : Nat → Int32) (m_rounds_48 : Int32) (H : Heap) (locs : List Loc) (ls : Array Slot), ((x1_48 = 0 ∧ 1 ≤ n48) ∨ (¬ x1_48 = 0 ∧ 82 ≤ zcnt m_known_48 + n48)) → T = FX9_tags_48 (g9_facts bm) (g9_rules bm) (g9_kind bm) (g9_head bm) (g9_body bm) (g9_except bm) (g9_strength bm) (g9_off bm) (g9_over bm) (g9_came bm) (g9_known bm) (g9_fresh bm) (g9_rounds bm) (FX9_tags_236 (g9_facts bm) (g9_rules bm) (g9_kind bm) (g9_head bm) (g9_body bm) (g9_except bm) (g9_strength bm) (g9_off bm) (g9_over bm) (g9_came bm) (g9_known bm) (g9_fresh bm) (g9_rounds bm)) n48 x1_48 m_came_48 m_known_48 m_fresh_48 m_rounds_48 → zP G [w9 G am (s9_rounds (s9_fresh (s9_known (s9_came bm m_came_48) m_known_48) m_fresh_48) m_rounds_48)] H → zD A [w9 G am (s9_rounds (s9_fresh (s9_known (s9_came bm m_came_48) m_known_48) m_fresh_48) m_rounds_48)] → va_S A s.heap H locs → lv_has ls 4 [(0, .ref (am 0)), (1, .int x1_48)] → W p l e rmX9_tags s m args below meth c H locs 0 0 Q (F0 m 48 ls []) := by
        intro n48
        induction n48 with
        | zero =>
          intro x1_48 m_came_48 m_known_48 m_fresh_48 m_rounds_48 H locs ls hn hE hP hD hS hl
          exact absurd hn (by rintro (⟨-, h⟩ | ⟨-, h⟩); omega; have := zcnt_le m_known_48; omega)
        | succ n48 ih48 =>
          intro x1_48 m_came_48 m_known_48 m_fresh_48 m_rounds_48 H locs ls hn hE hP hD hS hl
          have hE := hE.trans (FX9_tags_48.eq_2 _ _ _ _ _ _ _ _ _ _ _ _ _ _ _ _ _ _ _ _)
          refine lv_iload_n hx hb dX9_tags_48 rfl (lv_at hl 1 rfl) ?_
          refine lv_if_eq (tgt := 236) hx hb dX9_tags_49 (by decide) (fun c49 => ?_) (fun c49 => ?_)
          · have hE := hE.trans (if_pos c49)
            exact hB236 m_came_48 m_known_48 m_fresh_48 m_rounds_48 _ _ _ hE hP hD hS (lv_sub hl [] rfl)
          · have hE := hE.trans (if_neg c49)
            refine lv_iconst (v := 0) hx hb dX9_tags_52 (by decide) ?_
            refine lv_istore_n (lv' := [(1, .int 0), (0, .ref (am 0))]) hx hb dX9_tags_53 rfl hl (by decide) rfl (fun ls hl => ?_)
            refine lv_iconst (v := 0) hx hb dX9_tags_54 (by decide) ?_
            have hB145 : ∀ (x1_145 : Int32) (m_fresh_145 : Nat → Int32) (H : Heap) (locs : List Loc) (ls : Array Slot), (∀ t : Nat, t < 4 → zfr (m_known_48 t) (m_fresh_145 t)) → (¬ x1_145 = 0 → ∃ t : Nat, t < 4 ∧ ¬ m_fresh_145 t = 0) → T = FX9_tags_145 (g9_facts bm) (g9_rules bm) (g9_kind bm) (g9_head bm) (g9_body bm) (g9_except bm) (g9_strength bm) (g9_off bm) (g9_over bm) (g9_came bm) (g9_known bm) (g9_fresh bm) (g9_rounds bm) (fun x1_48' m_came_48' m_known_48' m_fresh_48' m_rounds_48' => FX9_tags_48 (g9_facts bm) (g9_rules bm) (g9_kind bm) (g9_head bm) (g9_body bm) (g9_except bm) (g9_strength bm) (g9_off bm) (g9_over bm) (g9_came bm) (g9_known bm) (g9_fresh bm) (g9_rounds bm) (FX9_tags_236 (g9_facts bm) (g9_rules bm) (g9_kind bm) (g9_head bm) (g9_body bm) (g9_except bm) (g9_strength bm) (g9_off bm) (g9_over bm) (g9_came bm) (g9_known bm) (g9_fresh bm) (g9_rounds bm)) n48 x1_48' m_came_48' m_known_48' m_fresh_48' m_rounds_48') (FX9_tags_236 (g9_facts bm) (g9_rules bm) (g9_kind bm) (g9_head bm) (g9_body bm) (g9_except bm) (g9_strength bm) (g9_off bm) (g9_over bm) (g9_came bm) (g9_known bm) (g9_fresh bm) (g9_rounds bm)) x1_145 m_came_48 m_known_48 m_fresh_145 m_rounds_48 → zP G [w9 G am (s9_rounds (s9_fresh (s9_known (s9_came bm m_came_48) m_known_48) m_fresh_145) m_rounds_48)] H → zD A [w9 G am (s9_rounds (s9_fresh (s9_known (s9_came bm m_came_48) m_known_48) m_fresh_145) m_rounds_48)] → va_S A s.heap H locs → lv_has ls 4 [(0, .ref (am 0)), (1, .int x1_145)] → W p l e rmX9_tags s m args below meth c H locs 0 0 Q (F0 m 145 ls []) := by
              intro x1_145 m_fresh_145 H locs ls hA145 hB145 hE hP hD hS hl
              have hE := hE.trans (FX9_tags_145.eq_1 _ _ _ _ _ _ _ _ _ _ _ _ _ _ _ _ _ _ _ _)
              refine lv_aload_n hx hb dX9_tags_145 rfl (lv_at hl 0 rfl) ?_
              refine lv_dup hx hb dX9_tags_146 rfl ?_
              refine zg9_rounds S in_X9_tags_9 hK hP 0 rfl (List.mem_of_getElem? (i := 3) rfl) (v := m_rounds_48) (gg9_rounds _ m_rounds_48) dX9_tags_147 ?_
              refine lv_iload_n hx hb dX9_tags_150 rfl (lv_at hl 1 rfl) ?_
              have hB159 : ∀ (k2_159 : Int32) (H : Heap) (locs : List Loc) (ls : Array Slot), T = FX9_tags_159 (g9_facts bm) (g9_rules bm) (g9_kind bm) (g9_head bm) (g9_body bm) (g9_except bm) (g9_strength bm) (g9_off bm) (g9_over bm) (g9_came bm) (g9_known bm) (g9_fresh bm) (g9_rounds bm) (fun x1_48' m_came_48' m_known_48' m_fresh_48' m_rounds_48' => FX9_tags_48 (g9_facts bm) (g9_rules bm) (g9_kind bm) (g9_head bm) (g9_body bm) (g9_except bm) (g9_strength bm) (g9_off bm) (g9_over bm) (g9_came bm) (g9_known bm) (g9_fresh bm) (g9_rounds bm) (FX9_tags_236 (g9_facts bm) (g9_rules bm) (g9_kind bm) (g9_head bm) (g9_body bm) (g9_except bm) (g9_strength bm) (g9_off bm) (g9_over bm) (g9_came bm) (g9_known bm) (g9_fresh bm) (g9_rounds bm)) n48 x1_48' m_came_48' m_known_48' m_fresh_48' m_rounds_48') (FX9_tags_236 (g9_facts bm) (g9_rules bm) (g9_kind bm) (g9_head bm) (g9_body bm) (g9_except bm) (g9_strength bm) (g9_off bm) (g9_over bm) (g9_came bm) (g9_known bm) (g9_fresh bm) (g9_rounds bm)) x1_145 m_rounds_48 k2_159 m_came_48 m_known_48 m_fresh_145 m_rounds_48 → zP G [w9 G am (s9_rounds (s9_fresh (s9_known (s9_came bm m_came_48) m_known_48) m_fresh_145) m_rounds_48)] H → zD A [w9 G am (s9_rounds (s9_fresh (s9_known (s9_came bm m_came_48) m_known_48) m_fresh_145) m_rounds_48)] → va_S A s.heap H locs → lv_has ls 4 [(0, .ref (am 0)), (1, .int x1_145)] → W p l e rmX9_tags s m args below meth c H locs 0 0 Q (F0 m 159 ls [.int k2_159, .int m_rounds_48, .ref (am 0)]) := by
                intro k2_159 H locs ls hE hP hD hS hl
                have hE := hE.trans (FX9_tags_159.eq_1 _ _ _ _ _ _ _ _ _ _ _ _ _ _ _ _ _ _ _ _ _ _)
                refine lv_iadd hx hb dX9_tags_159 ?_
                refine zp9_rounds (bs1 := [w9 G am (s9_rounds (s9_rounds (s9_fresh (s9_known (s9_came bm m_came_48) m_known_48) m_fresh_145) m_rounds_48) (m_rounds_48 + k2_159))]) S in_X9_tags_9 hK hP hD hS 0 rfl (List.mem_of_getElem? (i := 3) rfl) dX9_tags_160 rfl (fun H locs hP hD hS => ?_)
                refine lv_iconst (v := 0) hx hb dX9_tags_163 (by decide) ?_
                have hB233 : ∀ (m_came_233 : Nat → Int32) (m_known_233 : Nat → Int32) (H : Heap) (locs : List Loc) (ls : Array Slot), (∀ t : Nat, m_known_233 t = if t < 4 then m_known_48 t ||| m_fresh_145 t else m_known_48 t) → T = FX9_tags_233 (g9_facts bm) (g9_rules bm) (g9_kind bm) (g9_head bm) (g9_body bm) (g9_except bm) (g9_strength bm) (g9_off bm) (g9_over bm) (g9_came bm) (g9_known bm) (g9_fresh bm) (g9_rounds bm) (fun x1_48' m_came_48' m_known_48' m_fresh_48' m_rounds_48' => FX9_tags_48 (g9_facts bm) (g9_rules bm) (g9_kind bm) (g9_head bm) (g9_body bm) (g9_except bm) (g9_strength bm) (g9_off bm) (g9_over bm) (g9_came bm) (g9_known bm) (g9_fresh bm) (g9_rounds bm) (FX9_tags_236 (g9_facts bm) (g9_rules bm) (g9_kind bm) (g9_head bm) (g9_body bm) (g9_except bm) (g9_strength bm) (g9_off bm) (g9_over bm) (g9_came bm) (g9_known bm) (g9_fresh bm) (g9_rounds bm)) n48 x1_48' m_came_48' m_known_48' m_fresh_48' m_rounds_48') (FX9_tags_236 (g9_facts bm) (g9_rules bm) (g9_kind bm) (g9_head bm) (g9_body bm) (g9_except bm) (g9_strength bm) (g9_off bm) (g9_over bm) (g9_came bm) (g9_known bm) (g9_fresh bm) (g9_rounds bm)) x1_145 m_came_233 m_known_233 m_fresh_145 (m_rounds_48 + k2_159) → zP G [w9 G am (s9_rounds (s9_fresh (s9_known (s9_came bm m_came_233) m_known_233) m_fresh_145) (m_rounds_48 + k2_159))] H → zD A [w9 G am (s9_rounds (s9_fresh (s9_known (s9_came bm m_came_233) m_known_233) m_fresh_145) (m_rounds_48 + k2_159))] → va_S A s.heap H locs → lv_has ls 4 [(0, .ref (am 0)), (1, .int x1_145)] → W p l e rmX9_tags s m args below meth c H locs 0 0 Q (F0 m 233 ls []) := by
                  intro m_came_233 m_known_233 H locs ls hD233 hE hP hD hS hl
                  have hE := hE.trans (FX9_tags_233.eq_1 _ _ _ _ _ _ _ _ _ _ _ _ _ _ _ _ _ _ _ _)
                  refine lv_goto (tgt := 48) hx hb dX9_tags_233 (by decide) ?_
                  exact ih48 x1_145 m_came_233 m_known_233 m_fresh_145 (m_rounds_48 + k2_159) _ _ _ (by exact ztagN hn c49 hA145 hB145 hD233) hE hP hD hS (lv_sub hl [0, 1] rfl)
                have hB165 : ∀ (n165 : Nat) (i2_165 : Nat) (m_came_165 : Nat → Int32) (m_known_165 : Nat → Int32) (H : Heap) (locs : List Loc) (ls : Array Slot), (i2_165 ≤ 4) → (∀ t : Nat, m_known_165 t = if t < i2_165 then m_known_48 t ||| m_fresh_145 t else m_known_48 t) → 5 ≤ i2_165 + n165 → T = FX9_tags_165 (g9_facts bm) (g9_rules bm) (g9_kind bm) (g9_head bm) (g9_body bm) (g9_except bm) (g9_strength bm) (g9_off bm) (g9_over bm) (g9_came bm) (g9_known bm) (g9_fresh bm) (g9_rounds bm) (fun x1_48' m_came_48' m_known_48' m_fresh_48' m_rounds_48' => FX9_tags_48 (g9_facts bm) (g9_rules bm) (g9_kind bm) (g9_head bm) (g9_body bm) (g9_except bm) (g9_strength bm) (g9_off bm) (g9_over bm) (g9_came bm) (g9_known bm) (g9_fresh bm) (g9_rounds bm) (FX9_tags_236 (g9_facts bm) (g9_rules bm) (g9_kind bm) (g9_head bm) (g9_body bm) (g9_except bm) (g9_strength bm) (g9_off bm) (g9_over bm) (g9_came bm) (g9_known bm) (g9_fresh bm) (g9_rounds bm)) n48 x1_48' m_came_48' m_known_48' m_fresh_48' m_rounds_48') (FX9_tags_236 (g9_facts bm) (g9_rules bm) (g9_kind bm) (g9_head bm) (g9_body bm) (g9_except bm) (g9_strength bm) (g9_off bm) (g9_over bm) (g9_came bm) (g9_known bm) (g9_fresh bm) (g9_rounds bm)) (FX9_tags_233 (g9_facts bm) (g9_rules bm) (g9_kind bm) (g9_head bm) (g9_body bm) (g9_except bm) (g9_strength bm) (g9_off bm) (g9_over bm) (g9_came bm) (g9_known bm) (g9_fresh bm) (g9_rounds bm) (fun x1_48' m_came_48' m_known_48' m_fresh_48' m_rounds_48' => FX9_tags_48 (g9_facts bm) (g9_rules bm) (g9_kind bm) (g9_head bm) (g9_body bm) (g9_except bm) (g9_strength bm) (g9_off bm) (g9_over bm) (g9_came bm) (g9_known bm) (g9_fresh bm) (g9_rounds bm) (FX9_tags_236 (g9_facts bm) (g9_rules bm) (g9_kind bm) (g9_head bm) (g9_body bm) (g9_except bm) (g9_strength bm) (g9_off bm) (g9_over bm) (g9_came bm) (g9_known bm) (g9_fresh bm) (g9_rounds bm)) n48 x1_48' m_came_48' m_known_48' m_fresh_48' m_rounds_48') (FX9_tags_236 (g9_facts bm) (g9_rules bm) (g9_kind bm) (g9_head bm) (g9_body bm) (g9_except bm) (g9_strength bm) (g9_off bm) (g9_over bm) (g9_came bm) (g9_known bm) (g9_fresh bm) (g9_rounds bm))) n165 x1_145 (nI i2_165) m_came_165 m_known_165 m_fresh_145 (m_rounds_48 + k2_159) → zP G [w9 G am (s9_rounds (s9_fresh (s9_known (s9_came bm m_came_165) m_known_165) m_fresh_145) (m_rounds_48 + k2_159))] H → zD A [w9 G am (s9_rounds (s9_fresh (s9_known (s9_came bm m_came_165) m_known_165) m_fresh_145) (m_rounds_48 + k2_159))] → va_S A s.heap H locs → lv_has ls 4 [(0, .ref (am 0)), (1, .int x1_145), (2, .int (nI i2_165))] → W p l e rmX9_tags s m args below meth c H locs 0 0 Q (F0 m 165 ls []) := by
                  intro n165
                  induction n165 with
                  | zero =>
                    intro i2_165 m_came_165 m_known_165 H locs ls hi165 hD165 hn hE hP hD hS hl
                    exact absurd hn (by omega)
                  | succ n165 ih165 =>
                    intro i2_165 m_came_165 m_known_165 H locs ls hi165 hD165 hn hE hP hD hS hl
                    have hE := hE.trans (FX9_tags_165.eq_2 _ _ _ _ _ _ _ _ _ _ _ _ _ _ _ _ _ _ _ _ _ _ _)
                    refine lv_iload_n hx hb dX9_tags_165 rfl (lv_at hl 2 rfl) ?_
                    refine lv_iconst (v := 4) hx hb dX9_tags_166 (by decide) ?_
                    refine lv_icmp_ge (tgt := 233) hx hb dX9_tags_167 (by decide) (fun c167 => ?_) (fun c167 => ?_)
                    · have hE := hE.trans (if_pos c167)
                      have he165 : i2_165 = 4 := zge4 hi165 c167
                      exact hB233 m_came_165 m_known_165 _ _ _ (by rw [← he165]; exact hD165) hE hP hD hS (lv_sub hl [0, 1] rfl)
                    · have hE := hE.trans (if_neg c167)
                      have hl165 : i2_165 < 4 := zlt (N := 4) rfl (by omega) (by omega) c167
                      refine lv_aload_n hx hb dX9_tags_170 rfl (lv_at hl 0 rfl) ?_
                      refine zg9_known S in_X9_tags_9 hK hP 0 rfl (List.mem_of_getElem? (i := 2) rfl) dX9_tags_171 ?_
                      refine lv_iload_n hx hb dX9_tags_174 rfl (lv_at hl 2 rfl) ?_
                      refine lv_dup2_11 hx hb dX9_tags_175 rfl rfl ?_
                      refine zl9_known S hK hP 0 rfl (vp_in_nI (by omega) (by omega)) (f := m_known_165) ((gs9_known_rounds _ (m_rounds_48 + k2_159)).trans ((gs9_known_fresh _ m_fresh_145).trans (gg9_known _ m_known_165))) dX9_tags_176 ?_
                      refine lv_aload_n hx hb dX9_tags_177 rfl (lv_at hl 0 rfl) ?_
                      refine zg9_fresh S in_X9_tags_9 hK hP 0 rfl (List.mem_of_getElem? (i := 4) rfl) dX9_tags_178 ?_
                      refine lv_iload_n hx hb dX9_tags_181 rfl (lv_at hl 2 rfl) ?_
                      refine zl9_fresh S hK hP 0 rfl (vp_in_nI (by omega) (by omega)) (f := m_fresh_145) ((gs9_fresh_rounds _ (m_rounds_48 + k2_159)).trans (gg9_fresh _ m_fresh_145)) dX9_tags_182 ?_
                      refine lv_ior hx hb dX9_tags_183 ?_
                      refine zs9_known (bs1 := [w9 G am (s9_known (s9_rounds (s9_fresh (s9_known (s9_came bm m_came_165) m_known_165) m_fresh_145) (m_rounds_48 + k2_159)) (upd m_known_165 (nI i2_165).toNatClampNeg ((m_known_165 (nI i2_165).toNatClampNeg) ||| (m_fresh_145 (nI i2_165).toNatClampNeg))))]) S hK hP hD hS 0 rfl (vp_in_nI (by omega) (by omega)) (f := m_known_165) ((gs9_known_rounds _ (m_rounds_48 + k2_159)).trans ((gs9_known_fresh _ m_fresh_145).trans (gg9_known _ m_known_165))) dX9_tags_184 rfl (fun H locs hP hD hS => ?_)
                      refine lv_iconst (v := 0) hx hb dX9_tags_185 (by decide) ?_
                      have hB227 : ∀ (m_came_227 : Nat → Int32) (H : Heap) (locs : List Loc) (ls : Array Slot), T = FX9_tags_227 (g9_facts bm) (g9_rules bm) (g9_kind bm) (g9_head bm) (g9_body bm) (g9_except bm) (g9_strength bm) (g9_off bm) (g9_over bm) (g9_came bm) (g9_known bm) (g9_fresh bm) (g9_rounds bm) (fun x1_48' m_came_48' m_known_48' m_fresh_48' m_rounds_48' => FX9_tags_48 (g9_facts bm) (g9_rules bm) (g9_kind bm) (g9_head bm) (g9_body bm) (g9_except bm) (g9_strength bm) (g9_off bm) (g9_over bm) (g9_came bm) (g9_known bm) (g9_fresh bm) (g9_rounds bm) (FX9_tags_236 (g9_facts bm) (g9_rules bm) (g9_kind bm) (g9_head bm) (g9_body bm) (g9_except bm) (g9_strength bm) (g9_off bm) (g9_over bm) (g9_came bm) (g9_known bm) (g9_fresh bm) (g9_rounds bm)) n48 x1_48' m_came_48' m_known_48' m_fresh_48' m_rounds_48') (FX9_tags_236 (g9_facts bm) (g9_rules bm) (g9_kind bm) (g9_head bm) (g9_body bm) (g9_except bm) (g9_strength bm) (g9_off bm) (g9_over bm) (g9_came bm) (g9_known bm) (g9_fresh bm) (g9_rounds bm)) (fun x1_165' x2_165' m_came_165' m_known_165' m_fresh_165' m_rounds_165' => FX9_tags_165 (g9_facts bm) (g9_rules bm) (g9_kind bm) (g9_head bm) (g9_body bm) (g9_except bm) (g9_strength bm) (g9_off bm) (g9_over bm) (g9_came bm) (g9_known bm) (g9_fresh bm) (g9_rounds bm) (fun x1_48' m_came_48' m_known_48' m_fresh_48' m_rounds_48' => FX9_tags_48 (g9_facts bm) (g9_rules bm) (g9_kind bm) (g9_head bm) (g9_body bm) (g9_except bm) (g9_strength bm) (g9_off bm) (g9_over bm) (g9_came bm) (g9_known bm) (g9_fresh bm) (g9_rounds bm) (FX9_tags_236 (g9_facts bm) (g9_rules bm) (g9_kind bm) (g9_head bm) (g9_body bm) (g9_except bm) (g9_strength bm) (g9_off bm) (g9_over bm) (g9_came bm) (g9_known bm) (g9_fresh bm) (g9_rounds bm)) n48 x1_48' m_came_48' m_known_48' m_fresh_48' m_rounds_48') (FX9_tags_236 (g9_facts bm) (g9_rules bm) (g9_kind bm) (g9_head bm) (g9_body bm) (g9_except bm) (g9_strength bm) (g9_off bm) (g9_over bm) (g9_came bm) (g9_known bm) (g9_fresh bm) (g9_rounds bm)) (FX9_tags_233 (g9_facts bm) (g9_rules bm) (g9_kind bm) (g9_head bm) (g9_body bm) (g9_except bm) (g9_strength bm) (g9_off bm) (g9_over bm) (g9_came bm) (g9_known bm) (g9_fresh bm) (g9_rounds bm) (fun x1_48' m_came_48' m_known_48' m_fresh_48' m_rounds_48' => FX9_tags_48 (g9_facts bm) (g9_rules bm) (g9_kind bm) (g9_head bm) (g9_body bm) (g9_except bm) (g9_strength bm) (g9_off bm) (g9_over bm) (g9_came bm) (g9_known bm) (g9_fresh bm) (g9_rounds bm) (FX9_tags_236 (g9_facts bm) (g9_rules bm) (g9_kind bm) (g9_head bm) (g9_body bm) (g9_except bm) (g9_strength bm) (g9_off bm) (g9_over bm) (g9_came bm) (g9_known bm) (g9_fresh bm) (g9_rounds bm)) n48 x1_48' m_came_48' m_known_48' m_fresh_48' m_rounds_48') (FX9_tags_236 (g9_facts bm) (g9_rules bm) (g9_kind bm) (g9_head bm) (g9_body bm) (g9_except bm) (g9_strength bm) (g9_off bm) (g9_over bm) (g9_came bm) (g9_known bm) (g9_fresh bm) (g9_rounds bm))) n165 x1_165' x2_165' m_came_165' m_known_165' m_fresh_165' m_rounds_165') (FX9_tags_233 (g9_facts bm) (g9_rules bm) (g9_kind bm) (g9_head bm) (g9_body bm) (g9_except bm) (g9_strength bm) (g9_off bm) (g9_over bm) (g9_came bm) (g9_known bm) (g9_fresh bm) (g9_rounds bm) (fun x1_48' m_came_48' m_known_48' m_fresh_48' m_rounds_48' => FX9_tags_48 (g9_facts bm) (g9_rules bm) (g9_kind bm) (g9_head bm) (g9_body bm) (g9_except bm) (g9_strength bm) (g9_off bm) (g9_over bm) (g9_came bm) (g9_known bm) (g9_fresh bm) (g9_rounds bm) (FX9_tags_236 (g9_facts bm) (g9_rules bm) (g9_kind bm) (g9_head bm) (g9_body bm) (g9_except bm) (g9_strength bm) (g9_off bm) (g9_over bm) (g9_came bm) (g9_known bm) (g9_fresh bm) (g9_rounds bm)) n48 x1_48' m_came_48' m_known_48' m_fresh_48' m_rounds_48') (FX9_tags_236 (g9_facts bm) (g9_rules bm) (g9_kind bm) (g9_head bm) (g9_body bm) (g9_except bm) (g9_strength bm) (g9_off bm) (g9_over bm) (g9_came bm) (g9_known bm) (g9_fresh bm) (g9_rounds bm))) x1_145 (nI i2_165) m_came_227 (upd m_known_165 (nI i2_165).toNatClampNeg ((m_known_165 (nI i2_165).toNatClampNeg) ||| (m_fresh_145 (nI i2_165).toNatClampNeg))) m_fresh_145 (m_rounds_48 + k2_159) → zP G [w9 G am (s9_rounds (s9_fresh (s9_known (s9_came bm m_came_227) (upd m_known_165 (nI i2_165).toNatClampNeg ((m_known_165 (nI i2_165).toNatClampNeg) ||| (m_fresh_145 (nI i2_165).toNatClampNeg)))) m_fresh_145) (m_rounds_48 + k2_159))] H → zD A [w9 G am (s9_rounds (s9_fresh (s9_known (s9_came bm m_came_227) (upd m_known_165 (nI i2_165).toNatClampNeg ((m_known_165 (nI i2_165).toNatClampNeg) ||| (m_fresh_145 (nI i2_165).toNatClampNeg)))) m_fresh_145) (m_rounds_48 + k2_159))] → va_S A s.heap H locs → lv_has ls 4 [(0, .ref (am 0)), (1, .int x1_145), (2, .int (nI i2_165))] → W p l e rmX9_tags s m args below meth c H locs 0 0 Q (F0 m 227 ls []) := by
                        intro m_came_227 H locs ls hE hP hD hS hl
                        have hE := hE.trans (FX9_tags_227.eq_1 _ _ _ _ _ _ _ _ _ _ _ _ _ _ _ _ _ _ _ _ _ _ _)
                        refine lv_iinc (v := (nI (i2_165 + 1))) (lv' := [(2, .int (nI (i2_165 + 1))), (0, .ref (am 0)), (1, .int x1_145)]) hx hb dX9_tags_227 hl (k := 2) rfl (nI_1 i2_165) (by decide) rfl (fun ls hl => ?_)
                        try rw [nI_1 i2_165] at hE
                        refine lv_goto (tgt := 165) hx hb dX9_tags_230 (by decide) ?_
                        exact ih165 (i2_165 + 1) m_came_227 (upd m_known_165 (nI i2_165).toNatClampNeg ((m_known_165 (nI i2_165).toNatClampNeg) ||| (m_fresh_145 (nI i2_165).toNatClampNeg))) _ _ _ (by first | assumption | omega) (by exact ztagD hl165 hD165) (by omega) hE hP hD hS (lv_sub hl [1, 2, 0] rfl)
                      have hB187 : ∀ (n187 : Nat) (i3_187 : Nat) (m_came_187 : Nat → Int32) (H : Heap) (locs : List Loc) (ls : Array Slot), (i3_187 ≤ 20) → 21 ≤ i3_187 + n187 → T = FX9_tags_187 (g9_facts bm) (g9_rules bm) (g9_kind bm) (g9_head bm) (g9_body bm) (g9_except bm) (g9_strength bm) (g9_off bm) (g9_over bm) (g9_came bm) (g9_known bm) (g9_fresh bm) (g9_rounds bm) (fun x1_48' m_came_48' m_known_48' m_fresh_48' m_rounds_48' => FX9_tags_48 (g9_facts bm) (g9_rules bm) (g9_kind bm) (g9_head bm) (g9_body bm) (g9_except bm) (g9_strength bm) (g9_off bm) (g9_over bm) (g9_came bm) (g9_known bm) (g9_fresh bm) (g9_rounds bm) (FX9_tags_236 (g9_facts bm) (g9_rules bm) (g9_kind bm) (g9_head bm) (g9_body bm) (g9_except bm) (g9_strength bm) (g9_off bm) (g9_over bm) (g9_came bm) (g9_known bm) (g9_fresh bm) (g9_rounds bm)) n48 x1_48' m_came_48' m_known_48' m_fresh_48' m_rounds_48') (FX9_tags_236 (g9_facts bm) (g9_rules bm) (g9_kind bm) (g9_head bm) (g9_body bm) (g9_except bm) (g9_strength bm) (g9_off bm) (g9_over bm) (g9_came bm) (g9_known bm) (g9_fresh bm) (g9_rounds bm)) (fun x1_165' x2_165' m_came_165' m_known_165' m_fresh_165' m_rounds_165' => FX9_tags_165 (g9_facts bm) (g9_rules bm) (g9_kind bm) (g9_head bm) (g9_body bm) (g9_except bm) (g9_strength bm) (g9_off bm) (g9_over bm) (g9_came bm) (g9_known bm) (g9_fresh bm) (g9_rounds bm) (fun x1_48' m_came_48' m_known_48' m_fresh_48' m_rounds_48' => FX9_tags_48 (g9_facts bm) (g9_rules bm) (g9_kind bm) (g9_head bm) (g9_body bm) (g9_except bm) (g9_strength bm) (g9_off bm) (g9_over bm) (g9_came bm) (g9_known bm) (g9_fresh bm) (g9_rounds bm) (FX9_tags_236 (g9_facts bm) (g9_rules bm) (g9_kind bm) (g9_head bm) (g9_body bm) (g9_except bm) (g9_strength bm) (g9_off bm) (g9_over bm) (g9_came bm) (g9_known bm) (g9_fresh bm) (g9_rounds bm)) n48 x1_48' m_came_48' m_known_48' m_fresh_48' m_rounds_48') (FX9_tags_236 (g9_facts bm) (g9_rules bm) (g9_kind bm) (g9_head bm) (g9_body bm) (g9_except bm) (g9_strength bm) (g9_off bm) (g9_over bm) (g9_came bm) (g9_known bm) (g9_fresh bm) (g9_rounds bm)) (FX9_tags_233 (g9_facts bm) (g9_rules bm) (g9_kind bm) (g9_head bm) (g9_body bm) (g9_except bm) (g9_strength bm) (g9_off bm) (g9_over bm) (g9_came bm) (g9_known bm) (g9_fresh bm) (g9_rounds bm) (fun x1_48' m_came_48' m_known_48' m_fresh_48' m_rounds_48' => FX9_tags_48 (g9_facts bm) (g9_rules bm) (g9_kind bm) (g9_head bm) (g9_body bm) (g9_except bm) (g9_strength bm) (g9_off bm) (g9_over bm) (g9_came bm) (g9_known bm) (g9_fresh bm) (g9_rounds bm) (FX9_tags_236 (g9_facts bm) (g9_rules bm) (g9_kind bm) (g9_head bm) (g9_body bm) (g9_except bm) (g9_strength bm) (g9_off bm) (g9_over bm) (g9_came bm) (g9_known bm) (g9_fresh bm) (g9_rounds bm)) n48 x1_48' m_came_48' m_known_48' m_fresh_48' m_rounds_48') (FX9_tags_236 (g9_facts bm) (g9_rules bm) (g9_kind bm) (g9_head bm) (g9_body bm) (g9_except bm) (g9_strength bm) (g9_off bm) (g9_over bm) (g9_came bm) (g9_known bm) (g9_fresh bm) (g9_rounds bm))) n165 x1_165' x2_165' m_came_165' m_known_165' m_fresh_165' m_rounds_165') (FX9_tags_233 (g9_facts bm) (g9_rules bm) (g9_kind bm) (g9_head bm) (g9_body bm) (g9_except bm) (g9_strength bm) (g9_off bm) (g9_over bm) (g9_came bm) (g9_known bm) (g9_fresh bm) (g9_rounds bm) (fun x1_48' m_came_48' m_known_48' m_fresh_48' m_rounds_48' => FX9_tags_48 (g9_facts bm) (g9_rules bm) (g9_kind bm) (g9_head bm) (g9_body bm) (g9_except bm) (g9_strength bm) (g9_off bm) (g9_over bm) (g9_came bm) (g9_known bm) (g9_fresh bm) (g9_rounds bm) (FX9_tags_236 (g9_facts bm) (g9_rules bm) (g9_kind bm) (g9_head bm) (g9_body bm) (g9_except bm) (g9_strength bm) (g9_off bm) (g9_over bm) (g9_came bm) (g9_known bm) (g9_fresh bm) (g9_rounds bm)) n48 x1_48' m_came_48' m_known_48' m_fresh_48' m_rounds_48') (FX9_tags_236 (g9_facts bm) (g9_rules bm) (g9_kind bm) (g9_head bm) (g9_body bm) (g9_except bm) (g9_strength bm) (g9_off bm) (g9_over bm) (g9_came bm) (g9_known bm) (g9_fresh bm) (g9_rounds bm))) (FX9_tags_227 (g9_facts bm) (g9_rules bm) (g9_kind bm) (g9_head bm) (g9_body bm) (g9_except bm) (g9_strength bm) (g9_off bm) (g9_over bm) (g9_came bm) (g9_known bm) (g9_fresh bm) (g9_rounds bm) (fun x1_48' m_came_48' m_known_48' m_fresh_48' m_rounds_48' => FX9_tags_48 (g9_facts bm) (g9_rules bm) (g9_kind bm) (g9_head bm) (g9_body bm) (g9_except bm) (g9_strength bm) (g9_off bm) (g9_over bm) (g9_came bm) (g9_known bm) (g9_fresh bm) (g9_rounds bm) (FX9_tags_236 (g9_facts bm) (g9_rules bm) (g9_kind bm) (g9_head bm) (g9_body bm) (g9_except bm) (g9_strength bm) (g9_off bm) (g9_over bm) (g9_came bm) (g9_known bm) (g9_fresh bm) (g9_rounds bm)) n48 x1_48' m_came_48' m_known_48' m_fresh_48' m_rounds_48') (FX9_tags_236 (g9_facts bm) (g9_rules bm) (g9_kind bm) (g9_head bm) (g9_body bm) (g9_except bm) (g9_strength bm) (g9_off bm) (g9_over bm) (g9_came bm) (g9_known bm) (g9_fresh bm) (g9_rounds bm)) (fun x1_165' x2_165' m_came_165' m_known_165' m_fresh_165' m_rounds_165' => FX9_tags_165 (g9_facts bm) (g9_rules bm) (g9_kind bm) (g9_head bm) (g9_body bm) (g9_except bm) (g9_strength bm) (g9_off bm) (g9_over bm) (g9_came bm) (g9_known bm) (g9_fresh bm) (g9_rounds bm) (fun x1_48' m_came_48' m_known_48' m_fresh_48' m_rounds_48' => FX9_tags_48 (g9_facts bm) (g9_rules bm) (g9_kind bm) (g9_head bm) (g9_body bm) (g9_except bm) (g9_strength bm) (g9_off bm) (g9_over bm) (g9_came bm) (g9_known bm) (g9_fresh bm) (g9_rounds bm) (FX9_tags_236 (g9_facts bm) (g9_rules bm) (g9_kind bm) (g9_head bm) (g9_body bm) (g9_except bm) (g9_strength bm) (g9_off bm) (g9_over bm) (g9_came bm) (g9_known bm) (g9_fresh bm) (g9_rounds bm)) n48 x1_48' m_came_48' m_known_48' m_fresh_48' m_rounds_48') (FX9_tags_236 (g9_facts bm) (g9_rules bm) (g9_kind bm) (g9_head bm) (g9_body bm) (g9_except bm) (g9_strength bm) (g9_off bm) (g9_over bm) (g9_came bm) (g9_known bm) (g9_fresh bm) (g9_rounds bm)) (FX9_tags_233 (g9_facts bm) (g9_rules bm) (g9_kind bm) (g9_head bm) (g9_body bm) (g9_except bm) (g9_strength bm) (g9_off bm) (g9_over bm) (g9_came bm) (g9_known bm) (g9_fresh bm) (g9_rounds bm) (fun x1_48' m_came_48' m_known_48' m_fresh_48' m_rounds_48' => FX9_tags_48 (g9_facts bm) (g9_rules bm) (g9_kind bm) (g9_head bm) (g9_body bm) (g9_except bm) (g9_strength bm) (g9_off bm) (g9_over bm) (g9_came bm) (g9_known bm) (g9_fresh bm) (g9_rounds bm) (FX9_tags_236 (g9_facts bm) (g9_rules bm) (g9_kind bm) (g9_head bm) (g9_body bm) (g9_except bm) (g9_strength bm) (g9_off bm) (g9_over bm) (g9_came bm) (g9_known bm) (g9_fresh bm) (g9_rounds bm)) n48 x1_48' m_came_48' m_known_48' m_fresh_48' m_rounds_48') (FX9_tags_236 (g9_facts bm) (g9_rules bm) (g9_kind bm) (g9_head bm) (g9_body bm) (g9_except bm) (g9_strength bm) (g9_off bm) (g9_over bm) (g9_came bm) (g9_known bm) (g9_fresh bm) (g9_rounds bm))) n165 x1_165' x2_165' m_came_165' m_known_165' m_fresh_165' m_rounds_165') (FX9_tags_233 (g9_facts bm) (g9_rules bm) (g9_kind bm) (g9_head bm) (g9_body bm) (g9_except bm) (g9_strength bm) (g9_off bm) (g9_over bm) (g9_came bm) (g9_known bm) (g9_fresh bm) (g9_rounds bm) (fun x1_48' m_came_48' m_known_48' m_fresh_48' m_rounds_48' => FX9_tags_48 (g9_facts bm) (g9_rules bm) (g9_kind bm) (g9_head bm) (g9_body bm) (g9_except bm) (g9_strength bm) (g9_off bm) (g9_over bm) (g9_came bm) (g9_known bm) (g9_fresh bm) (g9_rounds bm) (FX9_tags_236 (g9_facts bm) (g9_rules bm) (g9_kind bm) (g9_head bm) (g9_body bm) (g9_except bm) (g9_strength bm) (g9_off bm) (g9_over bm) (g9_came bm) (g9_known bm) (g9_fresh bm) (g9_rounds bm)) n48 x1_48' m_came_48' m_known_48' m_fresh_48' m_rounds_48') (FX9_tags_236 (g9_facts bm) (g9_rules bm) (g9_kind bm) (g9_head bm) (g9_body bm) (g9_except bm) (g9_strength bm) (g9_off bm) (g9_over bm) (g9_came bm) (g9_known bm) (g9_fresh bm) (g9_rounds bm)))) n187 x1_145 (nI i2_165) (nI i3_187) m_came_187 (upd m_known_165 (nI i2_165).toNatClampNeg ((m_known_165 (nI i2_165).toNatClampNeg) ||| (m_fresh_145 (nI i2_165).toNatClampNeg))) m_fresh_145 (m_rounds_48 + k2_159) → zP G [w9 G am (s9_rounds (s9_fresh (s9_known (s9_came bm m_came_187) (upd m_known_165 (nI i2_165).toNatClampNeg ((m_known_165 (nI i2_165).toNatClampNeg) ||| (m_fresh_145 (nI i2_165).toNatClampNeg)))) m_fresh_145) (m_rounds_48 + k2_159))] H → zD A [w9 G am (s9_rounds (s9_fresh (s9_known (s9_came bm m_came_187) (upd m_known_165 (nI i2_165).toNatClampNeg ((m_known_165 (nI i2_165).toNatClampNeg) ||| (m_fresh_145 (nI i2_165).toNatClampNeg)))) m_fresh_145) (m_rounds_48 + k2_159))] → va_S A s.heap H locs → lv_has ls 4 [(0, .ref (am 0)), (1, .int x1_145), (2, .int (nI i2_165)), (3, .int (nI i3_187))] → W p l e rmX9_tags s m args below meth c H locs 0 0 Q (F0 m 187 ls []) := by
                        intro n187
                        induction n187 with
                        | zero =>
                          intro i3_187 m_came_187 H locs ls hi187 hn hE hP hD hS hl
                          exact absurd hn (by omega)
                        | succ n187 ih187 =>
                          intro i3_187 m_came_187 H locs ls hi187 hn hE hP hD hS hl
                          have hE := hE.trans (FX9_tags_187.eq_2 _ _ _ _ _ _ _ _ _ _ _ _ _ _ _ _ _ _ _ _ _ _ _ _ _ _)
                          refine lv_iload_n hx hb dX9_tags_187 rfl (lv_at hl 3 rfl) ?_
                          refine lv_bipush (v := 20) hx hb dX9_tags_188 (by decide) ?_
                          refine lv_icmp_ge (tgt := 227) hx hb dX9_tags_190 (by decide) (fun c190 => ?_) (fun c190 => ?_)
                          · have hE := hE.trans (if_pos c190)
                            exact hB227 m_came_187 _ _ _ hE hP hD hS (lv_sub hl [0, 1, 2] rfl)
                          · have hE := hE.trans (if_neg c190)
                            have hl187 : i3_187 < 20 := zlt (N := 20) rfl (by omega) (by omega) c190
                            refine lv_aload_n hx hb dX9_tags_193 rfl (lv_at hl 0 rfl) ?_
                            refine zg9_fresh S in_X9_tags_9 hK hP 0 rfl (List.mem_of_getElem? (i := 4) rfl) dX9_tags_194 ?_
                            refine lv_iload_n hx hb dX9_tags_197 rfl (lv_at hl 2 rfl) ?_
                            refine zl9_fresh S hK hP 0 rfl (vp_in_nI (by omega) (by omega)) (f := m_fresh_145) ((gs9_fresh_rounds _ (m_rounds_48 + k2_159)).trans (gg9_fresh _ m_fresh_145)) dX9_tags_198 ?_
                            refine lv_iload_n hx hb dX9_tags_199 rfl (lv_at hl 3 rfl) ?_
                            obtain ⟨t200, ht200⟩ : ∃ z, FX9_has (m_fresh_145 (nI i2_165).toNatClampNeg) (nI i3_187) = z := ⟨_, rfl⟩
                            have hE := hE.trans (bnd_eq ht200)
                            have hc := c_X9_has l G (m_fresh_145 (nI i2_165).toNatClampNeg) (nI i3_187) _ ht200
                            refine zgoR (va_runS (As := [.int (m_fresh_145 (nI i2_165).toNatClampNeg), .int (nI i3_187)]) (rest := []) S (hc _) (va_cwS 2 S.2.2.2.2 gX9_tags_X9_has rfl rfl rfl (by decide +kernel) ⟨Nat.le_of_ble_eq_true rfl, Nat.le_of_ble_eq_true rfl⟩) (zpS hK hP hD (is := []) rfl rfl) rfl rfl hl.1 rfl (lv_room (Nat.le_of_ble_eq_true rfl)) dX9_tags_200 ⟨Nat.zero_le _, Nat.zero_le _⟩) (fun hn200 => ?_)
                            refine lv_if_eq (tgt := 221) hx hb dX9_tags_203 (by decide) (fun c203 => ?_) (fun c203 => ?_)
                            · have hE := hE.trans (if_pos c203)
                              refine lv_iinc (v := (nI (i3_187 + 1))) (lv' := [(3, .int (nI (i3_187 + 1))), (0, .ref (am 0)), (1, .int x1_145), (2, .int (nI i2_165))]) hx hb dX9_tags_221 hl (k := 3) rfl (nI_1 i3_187) (by decide) rfl (fun ls hl => ?_)
                              try rw [nI_1 i3_187] at hE
                              refine lv_goto (tgt := 187) hx hb dX9_tags_224 (by decide) ?_
                              exact ih187 (i3_187 + 1) m_came_187 _ _ _ (by first | assumption | omega) (by omega) hE hP hD hS (lv_sub hl [1, 2, 3, 0] rfl)
                            · have hE := hE.trans (if_neg c203)
                              refine lv_aload_n hx hb dX9_tags_206 rfl (lv_at hl 0 rfl) ?_
                              refine zg9_came S in_X9_tags_9 hK hP 0 rfl (List.mem_of_getElem? (i := 1) rfl) dX9_tags_207 ?_
                              refine lv_bipush (v := 20) hx hb dX9_tags_210 (by decide) ?_
                              refine lv_iload_n hx hb dX9_tags_212 rfl (lv_at hl 2 rfl) ?_
                              refine lv_imul hx hb dX9_tags_213 ?_
                              refine lv_iload_n hx hb dX9_tags_214 rfl (lv_at hl 3 rfl) ?_
                              refine lv_iadd hx hb dX9_tags_215 ?_
                              refine lv_aload_n hx hb dX9_tags_216 rfl (lv_at hl 0 rfl) ?_
                              refine zg9_rounds S in_X9_tags_9 hK hP 0 rfl (List.mem_of_getElem? (i := 3) rfl) (v := (m_rounds_48 + k2_159)) (gg9_rounds _ (m_rounds_48 + k2_159)) dX9_tags_217 ?_
                              refine zs9_came (bs1 := [w9 G am (s9_came (s9_rounds (s9_fresh (s9_known (s9_came bm m_came_187) (upd m_known_165 (nI i2_165).toNatClampNeg ((m_known_165 (nI i2_165).toNatClampNeg) ||| (m_fresh_145 (nI i2_165).toNatClampNeg)))) m_fresh_145) (m_rounds_48 + k2_159)) (upd m_came_187 ((20 * (nI i2_165)) + (nI i3_187)).toNatClampNeg (m_rounds_48 + k2_159)))]) S hK hP hD hS 0 rfl (zlinL 20 rfl (A := 4) (B := 20) (vp_in_nI (by omega) (by omega)) (vp_in_nI (by omega) (by omega)) (by decide) (by decide) (by decide) (by decide)) (f := m_came_187) ((gs9_came_rounds _ (m_rounds_48 + k2_159)).trans ((gs9_came_fresh _ m_fresh_145).trans ((gs9_came_known _ (upd m_known_165 (nI i2_165).toNatClampNeg ((m_known_165 (nI i2_165).toNatClampNeg) ||| (m_fresh_145 (nI i2_165).toNatClampNeg)))).trans (gg9_came _ m_came_187)))) dX9_tags_220 rfl (fun H locs hP hD hS => ?_)
                              refine lv_iinc (v := (nI (i3_187 + 1))) (lv' := [(3, .int (nI (i3_187 + 1))), (0, .ref (am 0)), (1, .int x1_145), (2, .int (nI i2_165))]) hx hb dX9_tags_221 hl (k := 3) rfl (nI_1 i3_187) (by decide) rfl (fun ls hl => ?_)
                              try rw [nI_1 i3_187] at hE
                              refine lv_goto (tgt := 187) hx hb dX9_tags_224 (by decide) ?_
                              rw [show (s9_came (s9_rounds (s9_fresh (s9_known (s9_came bm m_came_187) (upd m_known_165 (nI i2_165).toNatClampNeg ((m_known_165 (nI i2_165).toNatClampNeg) ||| (m_fresh_145 (nI i2_165).toNatClampNeg)))) m_fresh_145) (m_rounds_48 + k2_159)) (upd m_came_187 ((20 * (nI i2_165)) + (nI i3_187)).toNatClampNeg (m_rounds_48 + k2_159))) = (s9_rounds (s9_fresh (s9_known (s9_came bm (upd m_came_187 ((20 * (nI i2_165)) + (nI i3_187)).toNatClampNeg (m_rounds_48 + k2_159))) (upd m_known_165 (nI i2_165).toNatClampNeg ((m_known_165 (nI i2_165).toNatClampNeg) ||| (m_fresh_145 (nI i2_165).toNatClampNeg)))) m_fresh_145) (m_rounds_48 + k2_159)) from ((cm9_came_rounds _ (m_rounds_48 + k2_159) (upd m_came_187 ((20 * (nI i2_165)) + (nI i3_187)).toNatClampNeg (m_rounds_48 + k2_159))).trans (congrArg (fun z => s9_rounds z (m_rounds_48 + k2_159)) ((cm9_came_fresh _ m_fresh_145 (upd m_came_187 ((20 * (nI i2_165)) + (nI i3_187)).toNatClampNeg (m_rounds_48 + k2_159))).trans (congrArg (fun z => s9_fresh z m_fresh_145) ((cm9_came_known _ (upd m_known_165 (nI i2_165).toNatClampNeg ((m_known_165 (nI i2_165).toNatClampNeg) ||| (m_fresh_145 (nI i2_165).toNatClampNeg))) (upd m_came_187 ((20 * (nI i2_165)) + (nI i3_187)).toNatClampNeg (m_rounds_48 + k2_159))).trans (congrArg (fun z => s9_known z (upd m_known_165 (nI i2_165).toNatClampNeg ((m_known_165 (nI i2_165).toNatClampNeg) ||| (m_fresh_145 (nI i2_165).toNatClampNeg)))) (ss9_came _ m_came_187 (upd m_came_187 ((20 * (nI i2_165)) + (nI i3_187)).toNatClampNeg (m_rounds_48 + k2_159)))))))))] at hP hD
                              exact ih187 (i3_187 + 1) (upd m_came_187 ((20 * (nI i2_165)) + (nI i3_187)).toNatClampNeg (m_rounds_48 + k2_159)) _ _ _ (by first | assumption | omega) (by omega) hE hP hD hS (lv_sub hl [1, 2, 3, 0] rfl)
                      refine lv_istore_n (lv' := [(3, .int 0), (0, .ref (am 0)), (1, .int x1_145), (2, .int (nI i2_165))]) hx hb dX9_tags_186 rfl hl (by decide) rfl (fun ls hl => ?_)
                      rw [show (s9_known (s9_rounds (s9_fresh (s9_known (s9_came bm m_came_165) m_known_165) m_fresh_145) (m_rounds_48 + k2_159)) (upd m_known_165 (nI i2_165).toNatClampNeg ((m_known_165 (nI i2_165).toNatClampNeg) ||| (m_fresh_145 (nI i2_165).toNatClampNeg)))) = (s9_rounds (s9_fresh (s9_known (s9_came bm m_came_165) (upd m_known_165 (nI i2_165).toNatClampNeg ((m_known_165 (nI i2_165).toNatClampNeg) ||| (m_fresh_145 (nI i2_165).toNatClampNeg)))) m_fresh_145) (m_rounds_48 + k2_159)) from ((cm9_known_rounds _ (m_rounds_48 + k2_159) (upd m_known_165 (nI i2_165).toNatClampNeg ((m_known_165 (nI i2_165).toNatClampNeg) ||| (m_fresh_145 (nI i2_165).toNatClampNeg)))).trans (congrArg (fun z => s9_rounds z (m_rounds_48 + k2_159)) ((cm9_known_fresh _ m_fresh_145 (upd m_known_165 (nI i2_165).toNatClampNeg ((m_known_165 (nI i2_165).toNatClampNeg) ||| (m_fresh_145 (nI i2_165).toNatClampNeg)))).trans (congrArg (fun z => s9_fresh z m_fresh_145) (ss9_known _ m_known_165 (upd m_known_165 (nI i2_165).toNatClampNeg ((m_known_165 (nI i2_165).toNatClampNeg) ||| (m_fresh_145 (nI i2_165).toNatClampNeg))))))))] at hP hD
                      exact hB187 21 0 m_came_165 _ _ _ (by first | assumption | omega) (by omega) hE hP hD hS (lv_sub hl [1, 2, 3, 0] rfl)
                refine lv_istore_n (lv' := [(2, .int 0), (0, .ref (am 0)), (1, .int x1_145)]) hx hb dX9_tags_164 rfl hl (by decide) rfl (fun ls hl => ?_)
                rw [show (s9_rounds (s9_rounds (s9_fresh (s9_known (s9_came bm m_came_48) m_known_48) m_fresh_145) m_rounds_48) (m_rounds_48 + k2_159)) = (s9_rounds (s9_fresh (s9_known (s9_came bm m_came_48) m_known_48) m_fresh_145) (m_rounds_48 + k2_159)) from (ss9_rounds _ m_rounds_48 (m_rounds_48 + k2_159))] at hP hD
                exact hB165 5 0 m_came_48 m_known_48 _ _ _ (by first | assumption | omega) (by exact fun t => by rw [if_neg (Nat.not_lt_zero t)]) (by omega) hE hP hD hS (lv_sub hl [1, 2, 0] rfl)
              refine lv_if_eq (tgt := 158) hx hb dX9_tags_151 (by decide) (fun c151 => ?_) (fun c151 => ?_)
              · have hE := hE.trans (if_pos c151)
                refine lv_iconst (v := 0) hx hb dX9_tags_158 (by decide) ?_
                exact hB159 0 _ _ _ hE hP hD hS (lv_sub hl [0, 1] rfl)
              · have hE := hE.trans (if_neg c151)
                refine lv_iconst (v := 1) hx hb dX9_tags_154 (by decide) ?_
                refine lv_goto (tgt := 159) hx hb dX9_tags_155 (by decide) ?_
                exact hB159 1 _ _ _ hE hP hD hS (lv_sub hl [0, 1] rfl)
            have hB56 : ∀ (n56 : Nat) (x1_56 : Int32) (i2_56 : Nat) (m_fresh_56 : Nat → Int32) (H : Heap) (locs : List Loc) (ls : Array Slot), (i2_56 ≤ 4) → (∀ t : Nat, t < i2_56 → zfr (m_known_48 t) (m_fresh_56 t)) → (¬ x1_56 = 0 → ∃ t : Nat, t < i2_56 ∧ ¬ m_fresh_56 t = 0) → 5 ≤ i2_56 + n56 → T = FX9_tags_56 (g9_facts bm) (g9_rules bm) (g9_kind bm) (g9_head bm) (g9_body bm) (g9_except bm) (g9_strength bm) (g9_off bm) (g9_over bm) (g9_came bm) (g9_known bm) (g9_fresh bm) (g9_rounds bm) (fun x1_48' m_came_48' m_known_48' m_fresh_48' m_rounds_48' => FX9_tags_48 (g9_facts bm) (g9_rules bm) (g9_kind bm) (g9_head bm) (g9_body bm) (g9_except bm) (g9_strength bm) (g9_off bm) (g9_over bm) (g9_came bm) (g9_known bm) (g9_fresh bm) (g9_rounds bm) (FX9_tags_236 (g9_facts bm) (g9_rules bm) (g9_kind bm) (g9_head bm) (g9_body bm) (g9_except bm) (g9_strength bm) (g9_off bm) (g9_over bm) (g9_came bm) (g9_known bm) (g9_fresh bm) (g9_rounds bm)) n48 x1_48' m_came_48' m_known_48' m_fresh_48' m_rounds_48') (FX9_tags_236 (g9_facts bm) (g9_rules bm) (g9_kind bm) (g9_head bm) (g9_body bm) (g9_except bm) (g9_strength bm) (g9_off bm) (g9_over bm) (g9_came bm) (g9_known bm) (g9_fresh bm) (g9_rounds bm)) (FX9_tags_145 (g9_facts bm) (g9_rules bm) (g9_kind bm) (g9_head bm) (g9_body bm) (g9_except bm) (g9_strength bm) (g9_off bm) (g9_over bm) (g9_came bm) (g9_known bm) (g9_fresh bm) (g9_rounds bm) (fun x1_48' m_came_48' m_known_48' m_fresh_48' m_rounds_48' => FX9_tags_48 (g9_facts bm) (g9_rules bm) (g9_kind bm) (g9_head bm) (g9_body bm) (g9_except bm) (g9_strength bm) (g9_off bm) (g9_over bm) (g9_came bm) (g9_known bm) (g9_fresh bm) (g9_rounds bm) (FX9_tags_236 (g9_facts bm) (g9_rules bm) (g9_kind bm) (g9_head bm) (g9_body bm) (g9_except bm) (g9_strength bm) (g9_off bm) (g9_over bm) (g9_came bm) (g9_known bm) (g9_fresh bm) (g9_rounds bm)) n48 x1_48' m_came_48' m_known_48' m_fresh_48' m_rounds_48') (FX9_tags_236 (g9_facts bm) (g9_rules bm) (g9_kind bm) (g9_head bm) (g9_body bm) (g9_except bm) (g9_strength bm) (g9_off bm) (g9_over bm) (g9_came bm) (g9_known bm) (g9_fresh bm) (g9_rounds bm))) n56 x1_56 (nI i2_56) m_came_48 m_known_48 m_fresh_56 m_rounds_48 → zP G [w9 G am (s9_rounds (s9_fresh (s9_known (s9_came bm m_came_48) m_known_48) m_fresh_56) m_rounds_48)] H → zD A [w9 G am (s9_rounds (s9_fresh (s9_known (s9_came bm m_came_48) m_known_48) m_fresh_56) m_rounds_48)] → va_S A s.heap H locs → lv_has ls 4 [(0, .ref (am 0)), (1, .int x1_56), (2, .int (nI i2_56))] → W p l e rmX9_tags s m args below meth c H locs 0 0 Q (F0 m 56 ls []) := by
              intro n56
              induction n56 with
              | zero =>
                intro x1_56 i2_56 m_fresh_56 H locs ls hi56 hA56 hB56 hn hE hP hD hS hl
                exact absurd hn (by omega)
              | succ n56 ih56 =>
                intro x1_56 i2_56 m_fresh_56 H locs ls hi56 hA56 hB56 hn hE hP hD hS hl
                have hE := hE.trans (FX9_tags_56.eq_2 _ _ _ _ _ _ _ _ _ _ _ _ _ _ _ _ _ _ _ _ _ _ _)
                refine lv_iload_n hx hb dX9_tags_56 rfl (lv_at hl 2 rfl) ?_
                refine lv_iconst (v := 4) hx hb dX9_tags_57 (by decide) ?_
                refine lv_icmp_ge (tgt := 145) hx hb dX9_tags_58 (by decide) (fun c58 => ?_) (fun c58 => ?_)
                · have hE := hE.trans (if_pos c58)
                  have he56 : i2_56 = 4 := zge4 hi56 c58
                  exact hB145 x1_56 m_fresh_56 _ _ _ (by rw [← he56]; exact hA56) (by rw [← he56]; exact hB56) hE hP hD hS (lv_sub hl [0, 1] rfl)
                · have hE := hE.trans (if_neg c58)
                  have hl56 : i2_56 < 4 := zlt (N := 4) rfl (by omega) (by omega) c58
                  refine lv_aload_n hx hb dX9_tags_61 rfl (lv_at hl 0 rfl) ?_
                  refine zg9_fresh S in_X9_tags_9 hK hP 0 rfl (List.mem_of_getElem? (i := 4) rfl) dX9_tags_62 ?_
                  refine lv_iload_n hx hb dX9_tags_65 rfl (lv_at hl 2 rfl) ?_
                  refine lv_iconst (v := 0) hx hb dX9_tags_66 (by decide) ?_
                  refine zs9_fresh (bs1 := [w9 G am (s9_fresh (s9_rounds (s9_fresh (s9_known (s9_came bm m_came_48) m_known_48) m_fresh_56) m_rounds_48) (upd m_fresh_56 (nI i2_56).toNatClampNeg 0))]) S hK hP hD hS 0 rfl (vp_in_nI (by omega) (by omega)) (f := m_fresh_56) ((gs9_fresh_rounds _ m_rounds_48).trans (gg9_fresh _ m_fresh_56)) dX9_tags_67 rfl (fun H locs hP hD hS => ?_)
                  refine lv_iconst (v := 0) hx hb dX9_tags_68 (by decide) ?_
                  have hB120 : ∀ (m_fresh_120 : Nat → Int32) (H : Heap) (locs : List Loc) (ls : Array Slot), (∀ t : Nat, t < i2_56 → zfr (m_known_48 t) (m_fresh_120 t)) → (¬ x1_56 = 0 → ∃ t : Nat, t < i2_56 ∧ ¬ m_fresh_120 t = 0) → (zfr (m_known_48 i2_56) (m_fresh_120 i2_56)) → T = FX9_tags_120 (g9_facts bm) (g9_rules bm) (g9_kind bm) (g9_head bm) (g9_body bm) (g9_except bm) (g9_strength bm) (g9_off bm) (g9_over bm) (g9_came bm) (g9_known bm) (g9_fresh bm) (g9_rounds bm) (fun x1_48' m_came_48' m_known_48' m_fresh_48' m_rounds_48' => FX9_tags_48 (g9_facts bm) (g9_rules bm) (g9_kind bm) (g9_head bm) (g9_body bm) (g9_except bm) (g9_strength bm) (g9_off bm) (g9_over bm) (g9_came bm) (g9_known bm) (g9_fresh bm) (g9_rounds bm) (FX9_tags_236 (g9_facts bm) (g9_rules bm) (g9_kind bm) (g9_head bm) (g9_body bm) (g9_except bm) (g9_strength bm) (g9_off bm) (g9_over bm) (g9_came bm) (g9_known bm) (g9_fresh bm) (g9_rounds bm)) n48 x1_48' m_came_48' m_known_48' m_fresh_48' m_rounds_48') (FX9_tags_236 (g9_facts bm) (g9_rules bm) (g9_kind bm) (g9_head bm) (g9_body bm) (g9_except bm) (g9_strength bm) (g9_off bm) (g9_over bm) (g9_came bm) (g9_known bm) (g9_fresh bm) (g9_rounds bm)) (fun x1_56' x2_56' m_came_56' m_known_56' m_fresh_56' m_rounds_56' => FX9_tags_56 (g9_facts bm) (g9_rules bm) (g9_kind bm) (g9_head bm) (g9_body bm) (g9_except bm) (g9_strength bm) (g9_off bm) (g9_over bm) (g9_came bm) (g9_known bm) (g9_fresh bm) (g9_rounds bm) (fun x1_48' m_came_48' m_known_48' m_fresh_48' m_rounds_48' => FX9_tags_48 (g9_facts bm) (g9_rules bm) (g9_kind bm) (g9_head bm) (g9_body bm) (g9_except bm) (g9_strength bm) (g9_off bm) (g9_over bm) (g9_came bm) (g9_known bm) (g9_fresh bm) (g9_rounds bm) (FX9_tags_236 (g9_facts bm) (g9_rules bm) (g9_kind bm) (g9_head bm) (g9_body bm) (g9_except bm) (g9_strength bm) (g9_off bm) (g9_over bm) (g9_came bm) (g9_known bm) (g9_fresh bm) (g9_rounds bm)) n48 x1_48' m_came_48' m_known_48' m_fresh_48' m_rounds_48') (FX9_tags_236 (g9_facts bm) (g9_rules bm) (g9_kind bm) (g9_head bm) (g9_body bm) (g9_except bm) (g9_strength bm) (g9_off bm) (g9_over bm) (g9_came bm) (g9_known bm) (g9_fresh bm) (g9_rounds bm)) (FX9_tags_145 (g9_facts bm) (g9_rules bm) (g9_kind bm) (g9_head bm) (g9_body bm) (g9_except bm) (g9_strength bm) (g9_off bm) (g9_over bm) (g9_came bm) (g9_known bm) (g9_fresh bm) (g9_rounds bm) (fun x1_48' m_came_48' m_known_48' m_fresh_48' m_rounds_48' => FX9_tags_48 (g9_facts bm) (g9_rules bm) (g9_kind bm) (g9_head bm) (g9_body bm) (g9_except bm) (g9_strength bm) (g9_off bm) (g9_over bm) (g9_came bm) (g9_known bm) (g9_fresh bm) (g9_rounds bm) (FX9_tags_236 (g9_facts bm) (g9_rules bm) (g9_kind bm) (g9_head bm) (g9_body bm) (g9_except bm) (g9_strength bm) (g9_off bm) (g9_over bm) (g9_came bm) (g9_known bm) (g9_fresh bm) (g9_rounds bm)) n48 x1_48' m_came_48' m_known_48' m_fresh_48' m_rounds_48') (FX9_tags_236 (g9_facts bm) (g9_rules bm) (g9_kind bm) (g9_head bm) (g9_body bm) (g9_except bm) (g9_strength bm) (g9_off bm) (g9_over bm) (g9_came bm) (g9_known bm) (g9_fresh bm) (g9_rounds bm))) n56 x1_56' x2_56' m_came_56' m_known_56' m_fresh_56' m_rounds_56') (FX9_tags_145 (g9_facts bm) (g9_rules bm) (g9_kind bm) (g9_head bm) (g9_body bm) (g9_except bm) (g9_strength bm) (g9_off bm) (g9_over bm) (g9_came bm) (g9_known bm) (g9_fresh bm) (g9_rounds bm) (fun x1_48' m_came_48' m_known_48' m_fresh_48' m_rounds_48' => FX9_tags_48 (g9_facts bm) (g9_rules bm) (g9_kind bm) (g9_head bm) (g9_body bm) (g9_except bm) (g9_strength bm) (g9_off bm) (g9_over bm) (g9_came bm) (g9_known bm) (g9_fresh bm) (g9_rounds bm) (FX9_tags_236 (g9_facts bm) (g9_rules bm) (g9_kind bm) (g9_head bm) (g9_body bm) (g9_except bm) (g9_strength bm) (g9_off bm) (g9_over bm) (g9_came bm) (g9_known bm) (g9_fresh bm) (g9_rounds bm)) n48 x1_48' m_came_48' m_known_48' m_fresh_48' m_rounds_48') (FX9_tags_236 (g9_facts bm) (g9_rules bm) (g9_kind bm) (g9_head bm) (g9_body bm) (g9_except bm) (g9_strength bm) (g9_off bm) (g9_over bm) (g9_came bm) (g9_known bm) (g9_fresh bm) (g9_rounds bm))) x1_56 (nI i2_56) m_came_48 m_known_48 m_fresh_120 m_rounds_48 → zP G [w9 G am (s9_rounds (s9_fresh (s9_known (s9_came bm m_came_48) m_known_48) m_fresh_120) m_rounds_48)] H → zD A [w9 G am (s9_rounds (s9_fresh (s9_known (s9_came bm m_came_48) m_known_48) m_fresh_120) m_rounds_48)] → va_S A s.heap H locs → lv_has ls 4 [(0, .ref (am 0)), (1, .int x1_56), (2, .int (nI i2_56))] → W p l e rmX9_tags s m args below meth c H locs 0 0 Q (F0 m 120 ls []) := by
                    intro m_fresh_120 H locs ls hA120 hB120 hC120 hE hP hD hS hl
                    have hE := hE.trans (FX9_tags_120.eq_1 _ _ _ _ _ _ _ _ _ _ _ _ _ _ _ _ _ _ _ _ _ _ _)
                    refine lv_iload_n hx hb dX9_tags_120 rfl (lv_at hl 1 rfl) ?_
                    refine lv_if_ne (tgt := 133) hx hb dX9_tags_121 (by decide) (fun c121 => ?_) (fun c121 => ?_)
                    · have hE := hE.trans (if_neg c121)
                      refine lv_iconst (v := 1) hx hb dX9_tags_133 (by decide) ?_
                      refine lv_goto (tgt := 138) hx hb dX9_tags_134 (by decide) ?_
                      refine lv_istore_n (lv' := [(1, .int 1), (0, .ref (am 0)), (2, .int (nI i2_56))]) hx hb dX9_tags_138 rfl hl (by decide) rfl (fun ls hl => ?_)
                      refine lv_iinc (v := (nI (i2_56 + 1))) (lv' := [(2, .int (nI (i2_56 + 1))), (1, .int 1), (0, .ref (am 0))]) hx hb dX9_tags_139 hl (k := 2) rfl (nI_1 i2_56) (by decide) rfl (fun ls hl => ?_)
                      try rw [nI_1 i2_56] at hE
                      refine lv_goto (tgt := 56) hx hb dX9_tags_142 (by decide) ?_
                      exact ih56 1 (i2_56 + 1) m_fresh_120 _ _ _ (by first | assumption | omega) (by exact fun t h => by rcases Nat.lt_succ_iff_lt_or_eq.mp h with h | rfl; exact hA120 t h; exact hC120) (by first | exact fun h => absurd rfl h | exact fun _ => (hB120 c121).imp (fun t h => ⟨by omega, h.2⟩) | exact fun _ => ⟨i2_56, by omega, by rw [nI_clamp (by omega)] at c130; exact c130⟩) (by omega) hE hP hD hS (lv_sub hl [2, 1, 0] rfl)
                    · have hE := hE.trans (if_pos c121)
                      refine lv_aload_n hx hb dX9_tags_124 rfl (lv_at hl 0 rfl) ?_
                      refine zg9_fresh S in_X9_tags_9 hK hP 0 rfl (List.mem_of_getElem? (i := 4) rfl) dX9_tags_125 ?_
                      refine lv_iload_n hx hb dX9_tags_128 rfl (lv_at hl 2 rfl) ?_
                      refine zl9_fresh S hK hP 0 rfl (vp_in_nI (by omega) (by omega)) (f := m_fresh_120) ((gs9_fresh_rounds _ m_rounds_48).trans (gg9_fresh _ m_fresh_120)) dX9_tags_129 ?_
                      refine lv_if_eq (tgt := 137) hx hb dX9_tags_130 (by decide) (fun c130 => ?_) (fun c130 => ?_)
                      · have hE := hE.trans (if_pos c130)
                        refine lv_iconst (v := 0) hx hb dX9_tags_137 (by decide) ?_
                        refine lv_istore_n (lv' := [(1, .int 0), (0, .ref (am 0)), (2, .int (nI i2_56))]) hx hb dX9_tags_138 rfl hl (by decide) rfl (fun ls hl => ?_)
                        refine lv_iinc (v := (nI (i2_56 + 1))) (lv' := [(2, .int (nI (i2_56 + 1))), (1, .int 0), (0, .ref (am 0))]) hx hb dX9_tags_139 hl (k := 2) rfl (nI_1 i2_56) (by decide) rfl (fun ls hl => ?_)
                        try rw [nI_1 i2_56] at hE
                        refine lv_goto (tgt := 56) hx hb dX9_tags_142 (by decide) ?_
                        exact ih56 0 (i2_56 + 1) m_fresh_120 _ _ _ (by first | assumption | omega) (by exact fun t h => by rcases Nat.lt_succ_iff_lt_or_eq.mp h with h | rfl; exact hA120 t h; exact hC120) (by first | exact fun h => absurd rfl h | exact fun _ => (hB120 c121).imp (fun t h => ⟨by omega, h.2⟩) | exact fun _ => ⟨i2_56, by omega, by rw [nI_clamp (by omega)] at c130; exact c130⟩) (by omega) hE hP hD hS (lv_sub hl [2, 1, 0] rfl)
                      · have hE := hE.trans (if_neg c130)
                        refine lv_iconst (v := 1) hx hb dX9_tags_133 (by decide) ?_
                        refine lv_goto (tgt := 138) hx hb dX9_tags_134 (by decide) ?_
                        refine lv_istore_n (lv' := [(1, .int 1), (0, .ref (am 0)), (2, .int (nI i2_56))]) hx hb dX9_tags_138 rfl hl (by decide) rfl (fun ls hl => ?_)
                        refine lv_iinc (v := (nI (i2_56 + 1))) (lv' := [(2, .int (nI (i2_56 + 1))), (1, .int 1), (0, .ref (am 0))]) hx hb dX9_tags_139 hl (k := 2) rfl (nI_1 i2_56) (by decide) rfl (fun ls hl => ?_)
                        try rw [nI_1 i2_56] at hE
                        refine lv_goto (tgt := 56) hx hb dX9_tags_142 (by decide) ?_
                        exact ih56 1 (i2_56 + 1) m_fresh_120 _ _ _ (by first | assumption | omega) (by exact fun t h => by rcases Nat.lt_succ_iff_lt_or_eq.mp h with h | rfl; exact hA120 t h; exact hC120) (by first | exact fun h => absurd rfl h | exact fun _ => (hB120 c121).imp (fun t h => ⟨by omega, h.2⟩) | exact fun _ => ⟨i2_56, by omega, by rw [nI_clamp (by omega)] at c130; exact c130⟩) (by omega) hE hP hD hS (lv_sub hl [2, 1, 0] rfl)
                  have hB70 : ∀ (n70 : Nat) (i3_70 : Nat) (m_fresh_70 : Nat → Int32) (H : Heap) (locs : List Loc) (ls : Array Slot), (i3_70 ≤ 20) → (∀ t : Nat, t < i2_56 → zfr (m_known_48 t) (m_fresh_70 t)) → (¬ x1_56 = 0 → ∃ t : Nat, t < i2_56 ∧ ¬ m_fresh_70 t = 0) → (zfr (m_known_48 i2_56) (m_fresh_70 i2_56)) → 21 ≤ i3_70 + n70 → T = FX9_tags_70 (g9_facts bm) (g9_rules bm) (g9_kind bm) (g9_head bm) (g9_body bm) (g9_except bm) (g9_strength bm) (g9_off bm) (g9_over bm) (g9_came bm) (g9_known bm) (g9_fresh bm) (g9_rounds bm) (fun x1_48' m_came_48' m_known_48' m_fresh_48' m_rounds_48' => FX9_tags_48 (g9_facts bm) (g9_rules bm) (g9_kind bm) (g9_head bm) (g9_body bm) (g9_except bm) (g9_strength bm) (g9_off bm) (g9_over bm) (g9_came bm) (g9_known bm) (g9_fresh bm) (g9_rounds bm) (FX9_tags_236 (g9_facts bm) (g9_rules bm) (g9_kind bm) (g9_head bm) (g9_body bm) (g9_except bm) (g9_strength bm) (g9_off bm) (g9_over bm) (g9_came bm) (g9_known bm) (g9_fresh bm) (g9_rounds bm)) n48 x1_48' m_came_48' m_known_48' m_fresh_48' m_rounds_48') (FX9_tags_236 (g9_facts bm) (g9_rules bm) (g9_kind bm) (g9_head bm) (g9_body bm) (g9_except bm) (g9_strength bm) (g9_off bm) (g9_over bm) (g9_came bm) (g9_known bm) (g9_fresh bm) (g9_rounds bm)) (fun x1_56' x2_56' m_came_56' m_known_56' m_fresh_56' m_rounds_56' => FX9_tags_56 (g9_facts bm) (g9_rules bm) (g9_kind bm) (g9_head bm) (g9_body bm) (g9_except bm) (g9_strength bm) (g9_off bm) (g9_over bm) (g9_came bm) (g9_known bm) (g9_fresh bm) (g9_rounds bm) (fun x1_48' m_came_48' m_known_48' m_fresh_48' m_rounds_48' => FX9_tags_48 (g9_facts bm) (g9_rules bm) (g9_kind bm) (g9_head bm) (g9_body bm) (g9_except bm) (g9_strength bm) (g9_off bm) (g9_over bm) (g9_came bm) (g9_known bm) (g9_fresh bm) (g9_rounds bm) (FX9_tags_236 (g9_facts bm) (g9_rules bm) (g9_kind bm) (g9_head bm) (g9_body bm) (g9_except bm) (g9_strength bm) (g9_off bm) (g9_over bm) (g9_came bm) (g9_known bm) (g9_fresh bm) (g9_rounds bm)) n48 x1_48' m_came_48' m_known_48' m_fresh_48' m_rounds_48') (FX9_tags_236 (g9_facts bm) (g9_rules bm) (g9_kind bm) (g9_head bm) (g9_body bm) (g9_except bm) (g9_strength bm) (g9_off bm) (g9_over bm) (g9_came bm) (g9_known bm) (g9_fresh bm) (g9_rounds bm)) (FX9_tags_145 (g9_facts bm) (g9_rules bm) (g9_kind bm) (g9_head bm) (g9_body bm) (g9_except bm) (g9_strength bm) (g9_off bm) (g9_over bm) (g9_came bm) (g9_known bm) (g9_fresh bm) (g9_rounds bm) (fun x1_48' m_came_48' m_known_48' m_fresh_48' m_rounds_48' => FX9_tags_48 (g9_facts bm) (g9_rules bm) (g9_kind bm) (g9_head bm) (g9_body bm) (g9_except bm) (g9_strength bm) (g9_off bm) (g9_over bm) (g9_came bm) (g9_known bm) (g9_fresh bm) (g9_rounds bm) (FX9_tags_236 (g9_facts bm) (g9_rules bm) (g9_kind bm) (g9_head bm) (g9_body bm) (g9_except bm) (g9_strength bm) (g9_off bm) (g9_over bm) (g9_came bm) (g9_known bm) (g9_fresh bm) (g9_rounds bm)) n48 x1_48' m_came_48' m_known_48' m_fresh_48' m_rounds_48') (FX9_tags_236 (g9_facts bm) (g9_rules bm) (g9_kind bm) (g9_head bm) (g9_body bm) (g9_except bm) (g9_strength bm) (g9_off bm) (g9_over bm) (g9_came bm) (g9_known bm) (g9_fresh bm) (g9_rounds bm))) n56 x1_56' x2_56' m_came_56' m_known_56' m_fresh_56' m_rounds_56') (FX9_tags_145 (g9_facts bm) (g9_rules bm) (g9_kind bm) (g9_head bm) (g9_body bm) (g9_except bm) (g9_strength bm) (g9_off bm) (g9_over bm) (g9_came bm) (g9_known bm) (g9_fresh bm) (g9_rounds bm) (fun x1_48' m_came_48' m_known_48' m_fresh_48' m_rounds_48' => FX9_tags_48 (g9_facts bm) (g9_rules bm) (g9_kind bm) (g9_head bm) (g9_body bm) (g9_except bm) (g9_strength bm) (g9_off bm) (g9_over bm) (g9_came bm) (g9_known bm) (g9_fresh bm) (g9_rounds bm) (FX9_tags_236 (g9_facts bm) (g9_rules bm) (g9_kind bm) (g9_head bm) (g9_body bm) (g9_except bm) (g9_strength bm) (g9_off bm) (g9_over bm) (g9_came bm) (g9_known bm) (g9_fresh bm) (g9_rounds bm)) n48 x1_48' m_came_48' m_known_48' m_fresh_48' m_rounds_48') (FX9_tags_236 (g9_facts bm) (g9_rules bm) (g9_kind bm) (g9_head bm) (g9_body bm) (g9_except bm) (g9_strength bm) (g9_off bm) (g9_over bm) (g9_came bm) (g9_known bm) (g9_fresh bm) (g9_rounds bm))) (FX9_tags_120 (g9_facts bm) (g9_rules bm) (g9_kind bm) (g9_head bm) (g9_body bm) (g9_except bm) (g9_strength bm) (g9_off bm) (g9_over bm) (g9_came bm) (g9_known bm) (g9_fresh bm) (g9_rounds bm) (fun x1_48' m_came_48' m_known_48' m_fresh_48' m_rounds_48' => FX9_tags_48 (g9_facts bm) (g9_rules bm) (g9_kind bm) (g9_head bm) (g9_body bm) (g9_except bm) (g9_strength bm) (g9_off bm) (g9_over bm) (g9_came bm) (g9_known bm) (g9_fresh bm) (g9_rounds bm) (FX9_tags_236 (g9_facts bm) (g9_rules bm) (g9_kind bm) (g9_head bm) (g9_body bm) (g9_except bm) (g9_strength bm) (g9_off bm) (g9_over bm) (g9_came bm) (g9_known bm) (g9_fresh bm) (g9_rounds bm)) n48 x1_48' m_came_48' m_known_48' m_fresh_48' m_rounds_48') (FX9_tags_236 (g9_facts bm) (g9_rules bm) (g9_kind bm) (g9_head bm) (g9_body bm) (g9_except bm) (g9_strength bm) (g9_off bm) (g9_over bm) (g9_came bm) (g9_known bm) (g9_fresh bm) (g9_rounds bm)) (fun x1_56' x2_56' m_came_56' m_known_56' m_fresh_56' m_rounds_56' => FX9_tags_56 (g9_facts bm) (g9_rules bm) (g9_kind bm) (g9_head bm) (g9_body bm) (g9_except bm) (g9_strength bm) (g9_off bm) (g9_over bm) (g9_came bm) (g9_known bm) (g9_fresh bm) (g9_rounds bm) (fun x1_48' m_came_48' m_known_48' m_fresh_48' m_rounds_48' => FX9_tags_48 (g9_facts bm) (g9_rules bm) (g9_kind bm) (g9_head bm) (g9_body bm) (g9_except bm) (g9_strength bm) (g9_off bm) (g9_over bm) (g9_came bm) (g9_known bm) (g9_fresh bm) (g9_rounds bm) (FX9_tags_236 (g9_facts bm) (g9_rules bm) (g9_kind bm) (g9_head bm) (g9_body bm) (g9_except bm) (g9_strength bm) (g9_off bm) (g9_over bm) (g9_came bm) (g9_known bm) (g9_fresh bm) (g9_rounds bm)) n48 x1_48' m_came_48' m_known_48' m_fresh_48' m_rounds_48') (FX9_tags_236 (g9_facts bm) (g9_rules bm) (g9_kind bm) (g9_head bm) (g9_body bm) (g9_except bm) (g9_strength bm) (g9_off bm) (g9_over bm) (g9_came bm) (g9_known bm) (g9_fresh bm) (g9_rounds bm)) (FX9_tags_145 (g9_facts bm) (g9_rules bm) (g9_kind bm) (g9_head bm) (g9_body bm) (g9_except bm) (g9_strength bm) (g9_off bm) (g9_over bm) (g9_came bm) (g9_known bm) (g9_fresh bm) (g9_rounds bm) (fun x1_48' m_came_48' m_known_48' m_fresh_48' m_rounds_48' => FX9_tags_48 (g9_facts bm) (g9_rules bm) (g9_kind bm) (g9_head bm) (g9_body bm) (g9_except bm) (g9_strength bm) (g9_off bm) (g9_over bm) (g9_came bm) (g9_known bm) (g9_fresh bm) (g9_rounds bm) (FX9_tags_236 (g9_facts bm) (g9_rules bm) (g9_kind bm) (g9_head bm) (g9_body bm) (g9_except bm) (g9_strength bm) (g9_off bm) (g9_over bm) (g9_came bm) (g9_known bm) (g9_fresh bm) (g9_rounds bm)) n48 x1_48' m_came_48' m_known_48' m_fresh_48' m_rounds_48') (FX9_tags_236 (g9_facts bm) (g9_rules bm) (g9_kind bm) (g9_head bm) (g9_body bm) (g9_except bm) (g9_strength bm) (g9_off bm) (g9_over bm) (g9_came bm) (g9_known bm) (g9_fresh bm) (g9_rounds bm))) n56 x1_56' x2_56' m_came_56' m_known_56' m_fresh_56' m_rounds_56') (FX9_tags_145 (g9_facts bm) (g9_rules bm) (g9_kind bm) (g9_head bm) (g9_body bm) (g9_except bm) (g9_strength bm) (g9_off bm) (g9_over bm) (g9_came bm) (g9_known bm) (g9_fresh bm) (g9_rounds bm) (fun x1_48' m_came_48' m_known_48' m_fresh_48' m_rounds_48' => FX9_tags_48 (g9_facts bm) (g9_rules bm) (g9_kind bm) (g9_head bm) (g9_body bm) (g9_except bm) (g9_strength bm) (g9_off bm) (g9_over bm) (g9_came bm) (g9_known bm) (g9_fresh bm) (g9_rounds bm) (FX9_tags_236 (g9_facts bm) (g9_rules bm) (g9_kind bm) (g9_head bm) (g9_body bm) (g9_except bm) (g9_strength bm) (g9_off bm) (g9_over bm) (g9_came bm) (g9_known bm) (g9_fresh bm) (g9_rounds bm)) n48 x1_48' m_came_48' m_known_48' m_fresh_48' m_rounds_48') (FX9_tags_236 (g9_facts bm) (g9_rules bm) (g9_kind bm) (g9_head bm) (g9_body bm) (g9_except bm) (g9_strength bm) (g9_off bm) (g9_over bm) (g9_came bm) (g9_known bm) (g9_fresh bm) (g9_rounds bm)))) n70 x1_56 (nI i2_56) (nI i3_70) m_came_48 m_known_48 m_fresh_70 m_rounds_48 → zP G [w9 G am (s9_rounds (s9_fresh (s9_known (s9_came bm m_came_48) m_known_48) m_fresh_70) m_rounds_48)] H → zD A [w9 G am (s9_rounds (s9_fresh (s9_known (s9_came bm m_came_48) m_known_48) m_fresh_70) m_rounds_48)] → va_S A s.heap H locs → lv_has ls 4 [(0, .ref (am 0)), (1, .int x1_56), (2, .int (nI i2_56)), (3, .int (nI i3_70))] → W p l e rmX9_tags s m args below meth c H locs 0 0 Q (F0 m 70 ls []) := by
                    intro n70
                    induction n70 with
                    | zero =>
                      intro i3_70 m_fresh_70 H locs ls hi70 hA70 hB70 hC70 hn hE hP hD hS hl
                      exact absurd hn (by omega)
                    | succ n70 ih70 =>
                      intro i3_70 m_fresh_70 H locs ls hi70 hA70 hB70 hC70 hn hE hP hD hS hl
                      have hE := hE.trans (FX9_tags_70.eq_2 _ _ _ _ _ _ _ _ _ _ _ _ _ _ _ _ _ _ _ _ _ _ _ _ _ _)
                      refine lv_iload_n hx hb dX9_tags_70 rfl (lv_at hl 3 rfl) ?_
                      refine lv_bipush (v := 20) hx hb dX9_tags_71 (by decide) ?_
                      refine lv_icmp_ge (tgt := 120) hx hb dX9_tags_73 (by decide) (fun c73 => ?_) (fun c73 => ?_)
                      · have hE := hE.trans (if_pos c73)
                        exact hB120 m_fresh_70 _ _ _ (by exact hA70) (by exact hB70) (by exact hC70) hE hP hD hS (lv_sub hl [0, 1, 2] rfl)
                      · have hE := hE.trans (if_neg c73)
                        have hl70 : i3_70 < 20 := zlt (N := 20) rfl (by omega) (by omega) c73
                        refine lv_aload_n hx hb dX9_tags_76 rfl (lv_at hl 0 rfl) ?_
                        refine zg9_fresh S in_X9_tags_9 hK hP 0 rfl (List.mem_of_getElem? (i := 4) rfl) dX9_tags_77 ?_
                        refine lv_iload_n hx hb dX9_tags_80 rfl (lv_at hl 2 rfl) ?_
                        refine lv_dup2_11 hx hb dX9_tags_81 rfl rfl ?_
                        refine zl9_fresh S hK hP 0 rfl (vp_in_nI (by omega) (by omega)) (f := m_fresh_70) ((gs9_fresh_rounds _ m_rounds_48).trans (gg9_fresh _ m_fresh_70)) dX9_tags_82 ?_
                        refine lv_aload_n hx hb dX9_tags_83 rfl (lv_at hl 0 rfl) ?_
                        refine zg9_known S in_X9_tags_9 hK hP 0 rfl (List.mem_of_getElem? (i := 2) rfl) dX9_tags_84 ?_
                        refine lv_iload_n hx hb dX9_tags_87 rfl (lv_at hl 2 rfl) ?_
                        refine zl9_known S hK hP 0 rfl (vp_in_nI (by omega) (by omega)) (f := m_known_48) ((gs9_known_rounds _ m_rounds_48).trans ((gs9_known_fresh _ m_fresh_70).trans (gg9_known _ m_known_48))) dX9_tags_88 ?_
                        refine lv_iload_n hx hb dX9_tags_89 rfl (lv_at hl 3 rfl) ?_
                        obtain ⟨t90, ht90⟩ : ∃ z, FX9_has (m_known_48 (nI i2_56).toNatClampNeg) (nI i3_70) = z := ⟨_, rfl⟩
                        have hE := hE.trans (bnd_eq ht90)
                        have hc := c_X9_has l G (m_known_48 (nI i2_56).toNatClampNeg) (nI i3_70) _ ht90
                        refine zgoR (va_runS (As := [.int (m_known_48 (nI i2_56).toNatClampNeg), .int (nI i3_70)]) (rest := [.int (m_fresh_70 (nI i2_56).toNatClampNeg), .int (nI i2_56), .ref (am 19)]) S (hc _) (va_cwS 2 S.2.2.2.2 gX9_tags_X9_has rfl rfl rfl (by decide +kernel) ⟨Nat.le_of_ble_eq_true rfl, Nat.le_of_ble_eq_true rfl⟩) (zpS hK hP hD (is := []) rfl rfl) rfl rfl hl.1 rfl (lv_room (Nat.le_of_ble_eq_true rfl)) dX9_tags_90 ⟨Nat.zero_le _, Nat.zero_le _⟩) (fun hn90 => ?_)
                        refine lv_if_ne (tgt := 111) hx hb dX9_tags_93 (by decide) (fun c93 => ?_) (fun c93 => ?_)
                        · have hE := hE.trans (if_neg c93)
                          refine lv_iconst (v := 0) hx hb dX9_tags_111 (by decide) ?_
                          refine lv_ior hx hb dX9_tags_112 ?_
                          refine zs9_fresh (bs1 := [w9 G am (s9_fresh (s9_rounds (s9_fresh (s9_known (s9_came bm m_came_48) m_known_48) m_fresh_70) m_rounds_48) (upd m_fresh_70 (nI i2_56).toNatClampNeg ((m_fresh_70 (nI i2_56).toNatClampNeg) ||| 0)))]) S hK hP hD hS 0 rfl (vp_in_nI (by omega) (by omega)) (f := m_fresh_70) ((gs9_fresh_rounds _ m_rounds_48).trans (gg9_fresh _ m_fresh_70)) dX9_tags_113 rfl (fun H locs hP hD hS => ?_)
                          refine lv_iinc (v := (nI (i3_70 + 1))) (lv' := [(3, .int (nI (i3_70 + 1))), (0, .ref (am 0)), (1, .int x1_56), (2, .int (nI i2_56))]) hx hb dX9_tags_114 hl (k := 3) rfl (nI_1 i3_70) (by decide) rfl (fun ls hl => ?_)
                          try rw [nI_1 i3_70] at hE
                          refine lv_goto (tgt := 70) hx hb dX9_tags_117 (by decide) ?_
                          rw [show (s9_fresh (s9_rounds (s9_fresh (s9_known (s9_came bm m_came_48) m_known_48) m_fresh_70) m_rounds_48) (upd m_fresh_70 (nI i2_56).toNatClampNeg ((m_fresh_70 (nI i2_56).toNatClampNeg) ||| 0))) = (s9_rounds (s9_fresh (s9_known (s9_came bm m_came_48) m_known_48) (upd m_fresh_70 (nI i2_56).toNatClampNeg ((m_fresh_70 (nI i2_56).toNatClampNeg) ||| 0))) m_rounds_48) from ((cm9_fresh_rounds _ m_rounds_48 (upd m_fresh_70 (nI i2_56).toNatClampNeg ((m_fresh_70 (nI i2_56).toNatClampNeg) ||| 0))).trans (congrArg (fun z => s9_rounds z m_rounds_48) (ss9_fresh _ m_fresh_70 (upd m_fresh_70 (nI i2_56).toNatClampNeg ((m_fresh_70 (nI i2_56).toNatClampNeg) ||| 0)))))] at hP hD
                          exact ih70 (i3_70 + 1) (upd m_fresh_70 (nI i2_56).toNatClampNeg ((m_fresh_70 (nI i2_56).toNatClampNeg) ||| 0)) _ _ _ (by first | assumption | omega) (by exact fun t h => by rw [nI_clamp (by omega), pk_un (by omega)]; exact hA70 t h) (by exact fun h => by obtain ⟨t, h1, h2⟩ := hB70 h; exact ⟨t, h1, by rw [nI_clamp (by omega), pk_un (by omega)]; exact h2⟩) (by rw [nI_clamp (by omega), pk_us]; first | exact zfr_or0 hC70 | exact zfr_or1 hC70 hl70 (by rw [nI_clamp (by omega)] at ht90; rw [ht90]; exact c93)) (by omega) hE hP hD hS (lv_sub hl [1, 2, 3, 0] rfl)
                        · have hE := hE.trans (if_pos c93)
                          refine lv_aload_n hx hb dX9_tags_96 rfl (lv_at hl 0 rfl) ?_
                          refine lv_iload_n hx hb dX9_tags_97 rfl (lv_at hl 2 rfl) ?_
                          refine lv_iload_n hx hb dX9_tags_98 rfl (lv_at hl 3 rfl) ?_
                          obtain ⟨t99, ht99⟩ : ∃ z, FX9_holds (g9_facts bm) (g9_rules bm) (g9_kind bm) (g9_head bm) (g9_body bm) (g9_except bm) (g9_strength bm) (g9_off bm) (g9_over bm) m_known_48 (nI i2_56) (nI i3_70) = z := ⟨_, rfl⟩
                          have hE := hE.trans (bnd_eq ht99)
                          have hc := c_X9_holds l G am (s9_rounds (s9_fresh (s9_known (s9_came bm m_came_48) m_known_48) m_fresh_70) m_rounds_48) (nI i2_56) (nI i3_70) (hz_m_rules) _ (by simp only [gs9_facts_rounds, gs9_facts_fresh, gs9_facts_known, gs9_facts_came, gs9_rules_rounds, gs9_rules_fresh, gs9_rules_known, gs9_rules_came, gs9_kind_rounds, gs9_kind_fresh, gs9_kind_known, gs9_kind_came, gs9_head_rounds, gs9_head_fresh, gs9_head_known, gs9_head_came, gs9_body_rounds, gs9_body_fresh, gs9_body_known, gs9_body_came, gs9_except_rounds, gs9_except_fresh, gs9_except_known, gs9_except_came, gs9_strength_rounds, gs9_strength_fresh, gs9_strength_known, gs9_strength_came, gs9_off_rounds, gs9_off_fresh, gs9_off_known, gs9_off_came, gs9_over_rounds, gs9_over_fresh, gs9_over_known, gs9_over_came, gs9_known_rounds, gs9_known_fresh, gg9_known]; exact ht99)
                          refine zgoR (va_runV (As := [.int (nI i2_56), .int (nI i3_70)]) (rest := [.int (m_fresh_70 (nI i2_56).toNatClampNeg), .int (nI i2_56), .ref (am 19)]) S (hc _) (cwV 2 S.2.2.2.2 gX9_tags_X9_holds rfl rfl rfl (by decide +kernel) ⟨Nat.le_of_ble_eq_true rfl, Nat.le_of_ble_eq_true rfl⟩) (zpV hK hP hD (is := [0]) rfl rfl 0 rfl rfl (ci := 9) rfl) rfl rfl hl.1 rfl (lv_room (Nat.le_of_ble_eq_true rfl)) dX9_tags_99 ⟨Nat.zero_le _, Nat.zero_le _⟩) (fun hn99 => ?_)
                          refine lv_if_eq (tgt := 111) hx hb dX9_tags_102 (by decide) (fun c102 => ?_) (fun c102 => ?_)
                          · have hE := hE.trans (if_pos c102)
                            refine lv_iconst (v := 0) hx hb dX9_tags_111 (by decide) ?_
                            refine lv_ior hx hb dX9_tags_112 ?_
                            refine zs9_fresh (bs1 := [w9 G am (s9_fresh (s9_rounds (s9_fresh (s9_known (s9_came bm m_came_48) m_known_48) m_fresh_70) m_rounds_48) (upd m_fresh_70 (nI i2_56).toNatClampNeg ((m_fresh_70 (nI i2_56).toNatClampNeg) ||| 0)))]) S hK hP hD hS 0 rfl (vp_in_nI (by omega) (by omega)) (f := m_fresh_70) ((gs9_fresh_rounds _ m_rounds_48).trans (gg9_fresh _ m_fresh_70)) dX9_tags_113 rfl (fun H locs hP hD hS => ?_)
                            refine lv_iinc (v := (nI (i3_70 + 1))) (lv' := [(3, .int (nI (i3_70 + 1))), (0, .ref (am 0)), (1, .int x1_56), (2, .int (nI i2_56))]) hx hb dX9_tags_114 hl (k := 3) rfl (nI_1 i3_70) (by decide) rfl (fun ls hl => ?_)
                            try rw [nI_1 i3_70] at hE
                            refine lv_goto (tgt := 70) hx hb dX9_tags_117 (by decide) ?_
                            rw [show (s9_fresh (s9_rounds (s9_fresh (s9_known (s9_came bm m_came_48) m_known_48) m_fresh_70) m_rounds_48) (upd m_fresh_70 (nI i2_56).toNatClampNeg ((m_fresh_70 (nI i2_56).toNatClampNeg) ||| 0))) = (s9_rounds (s9_fresh (s9_known (s9_came bm m_came_48) m_known_48) (upd m_fresh_70 (nI i2_56).toNatClampNeg ((m_fresh_70 (nI i2_56).toNatClampNeg) ||| 0))) m_rounds_48) from ((cm9_fresh_rounds _ m_rounds_48 (upd m_fresh_70 (nI i2_56).toNatClampNeg ((m_fresh_70 (nI i2_56).toNatClampNeg) ||| 0))).trans (congrArg (fun z => s9_rounds z m_rounds_48) (ss9_fresh _ m_fresh_70 (upd m_fresh_70 (nI i2_56).toNatClampNeg ((m_fresh_70 (nI i2_56).toNatClampNeg) ||| 0)))))] at hP hD
                            exact ih70 (i3_70 + 1) (upd m_fresh_70 (nI i2_56).toNatClampNeg ((m_fresh_70 (nI i2_56).toNatClampNeg) ||| 0)) _ _ _ (by first | assumption | omega) (by exact fun t h => by rw [nI_clamp (by omega), pk_un (by omega)]; exact hA70 t h) (by exact fun h => by obtain ⟨t, h1, h2⟩ := hB70 h; exact ⟨t, h1, by rw [nI_clamp (by omega), pk_un (by omega)]; exact h2⟩) (by rw [nI_clamp (by omega), pk_us]; first | exact zfr_or0 hC70 | exact zfr_or1 hC70 hl70 (by rw [nI_clamp (by omega)] at ht90; rw [ht90]; exact c93)) (by omega) hE hP hD hS (lv_sub hl [1, 2, 3, 0] rfl)
                          · have hE := hE.trans (if_neg c102)
                            refine lv_iconst (v := 1) hx hb dX9_tags_105 (by decide) ?_
                            refine lv_iload_n hx hb dX9_tags_106 rfl (lv_at hl 3 rfl) ?_
                            refine lv_ishl hx hb dX9_tags_107 ?_
                            refine lv_goto (tgt := 112) hx hb dX9_tags_108 (by decide) ?_
                            refine lv_ior hx hb dX9_tags_112 ?_
                            refine zs9_fresh (bs1 := [w9 G am (s9_fresh (s9_rounds (s9_fresh (s9_known (s9_came bm m_came_48) m_known_48) m_fresh_70) m_rounds_48) (upd m_fresh_70 (nI i2_56).toNatClampNeg ((m_fresh_70 (nI i2_56).toNatClampNeg) ||| (1 <<< ((nI i3_70) &&& 31)))))]) S hK hP hD hS 0 rfl (vp_in_nI (by omega) (by omega)) (f := m_fresh_70) ((gs9_fresh_rounds _ m_rounds_48).trans (gg9_fresh _ m_fresh_70)) dX9_tags_113 rfl (fun H locs hP hD hS => ?_)
                            refine lv_iinc (v := (nI (i3_70 + 1))) (lv' := [(3, .int (nI (i3_70 + 1))), (0, .ref (am 0)), (1, .int x1_56), (2, .int (nI i2_56))]) hx hb dX9_tags_114 hl (k := 3) rfl (nI_1 i3_70) (by decide) rfl (fun ls hl => ?_)
                            try rw [nI_1 i3_70] at hE
                            refine lv_goto (tgt := 70) hx hb dX9_tags_117 (by decide) ?_
                            rw [show (s9_fresh (s9_rounds (s9_fresh (s9_known (s9_came bm m_came_48) m_known_48) m_fresh_70) m_rounds_48) (upd m_fresh_70 (nI i2_56).toNatClampNeg ((m_fresh_70 (nI i2_56).toNatClampNeg) ||| (1 <<< ((nI i3_70) &&& 31))))) = (s9_rounds (s9_fresh (s9_known (s9_came bm m_came_48) m_known_48) (upd m_fresh_70 (nI i2_56).toNatClampNeg ((m_fresh_70 (nI i2_56).toNatClampNeg) ||| (1 <<< ((nI i3_70) &&& 31))))) m_rounds_48) from ((cm9_fresh_rounds _ m_rounds_48 (upd m_fresh_70 (nI i2_56).toNatClampNeg ((m_fresh_70 (nI i2_56).toNatClampNeg) ||| (1 <<< ((nI i3_70) &&& 31))))).trans (congrArg (fun z => s9_rounds z m_rounds_48) (ss9_fresh _ m_fresh_70 (upd m_fresh_70 (nI i2_56).toNatClampNeg ((m_fresh_70 (nI i2_56).toNatClampNeg) ||| (1 <<< ((nI i3_70) &&& 31)))))))] at hP hD
                            exact ih70 (i3_70 + 1) (upd m_fresh_70 (nI i2_56).toNatClampNeg ((m_fresh_70 (nI i2_56).toNatClampNeg) ||| (1 <<< ((nI i3_70) &&& 31)))) _ _ _ (by first | assumption | omega) (by exact fun t h => by rw [nI_clamp (by omega), pk_un (by omega)]; exact hA70 t h) (by exact fun h => by obtain ⟨t, h1, h2⟩ := hB70 h; exact ⟨t, h1, by rw [nI_clamp (by omega), pk_un (by omega)]; exact h2⟩) (by rw [nI_clamp (by omega), pk_us]; first | exact zfr_or0 hC70 | exact zfr_or1 hC70 hl70 (by rw [nI_clamp (by omega)] at ht90; rw [ht90]; exact c93)) (by omega) hE hP hD hS (lv_sub hl [1, 2, 3, 0] rfl)
                  refine lv_istore_n (lv' := [(3, .int 0), (0, .ref (am 0)), (1, .int x1_56), (2, .int (nI i2_56))]) hx hb dX9_tags_69 rfl hl (by decide) rfl (fun ls hl => ?_)
                  rw [show (s9_fresh (s9_rounds (s9_fresh (s9_known (s9_came bm m_came_48) m_known_48) m_fresh_56) m_rounds_48) (upd m_fresh_56 (nI i2_56).toNatClampNeg 0)) = (s9_rounds (s9_fresh (s9_known (s9_came bm m_came_48) m_known_48) (upd m_fresh_56 (nI i2_56).toNatClampNeg 0)) m_rounds_48) from ((cm9_fresh_rounds _ m_rounds_48 (upd m_fresh_56 (nI i2_56).toNatClampNeg 0)).trans (congrArg (fun z => s9_rounds z m_rounds_48) (ss9_fresh _ m_fresh_56 (upd m_fresh_56 (nI i2_56).toNatClampNeg 0))))] at hP hD
                  exact hB70 21 0 (upd m_fresh_56 (nI i2_56).toNatClampNeg 0) _ _ _ (by first | assumption | omega) (by exact fun t h => by rw [nI_clamp (by omega), pk_un (by omega)]; exact hA56 t h) (by exact fun h => by obtain ⟨t, h1, h2⟩ := hB56 h; exact ⟨t, h1, by rw [nI_clamp (by omega), pk_un (by omega)]; exact h2⟩) (by rw [nI_clamp (by omega), pk_us]; exact zfr_0 _) (by omega) hE hP hD hS (lv_sub hl [1, 2, 3, 0] rfl)
            refine lv_istore_n (lv' := [(2, .int 0), (1, .int 0), (0, .ref (am 0))]) hx hb dX9_tags_55 rfl hl (by decide) rfl (fun ls hl => ?_)
            exact hB56 5 0 0 m_fresh_48 _ _ _ (by first | assumption | omega) (by exact fun t h => absurd h (Nat.not_lt_zero t)) (by exact fun h => absurd rfl h) (by omega) hE hP hD hS (lv_sub hl [2, 1, 0] rfl)
      refine lv_istore_n (lv' := [(1, .int 1), (0, .ref (am 0))]) hx hb dX9_tags_47 rfl hl (by decide) rfl (fun ls hl => ?_)
      rw [show (s9_rounds (s9_known (s9_came bm m_came_21) m_known_41) 0) = (s9_rounds (s9_fresh (s9_known (s9_came bm m_came_21) m_known_41) (g9_fresh bm)) 0) from (congrArg (fun z => s9_rounds z 0) (((se9_fresh _).symm).trans (congrArg (fun v => s9_fresh (s9_known (s9_came bm m_came_21) m_known_41) v) ((gs9_fresh_known _ m_known_41).trans (gs9_fresh_came _ m_came_21)))))] at hP hD
      exact hB48 82 1 m_came_21 m_known_41 (g9_fresh bm) 0 _ _ _ (by exact Or.inr ⟨by decide, by omega⟩) hE hP hD hS (lv_sub hl [1, 0] rfl)
    have hB23 : ∀ (n23 : Nat) (i1_23 : Nat) (m_known_23 : Nat → Int32) (H : Heap) (locs : List Loc) (ls : Array Slot), (i1_23 ≤ 4) → 5 ≤ i1_23 + n23 → T = FX9_tags_23 (g9_facts bm) (g9_rules bm) (g9_kind bm) (g9_head bm) (g9_body bm) (g9_except bm) (g9_strength bm) (g9_off bm) (g9_over bm) (g9_came bm) (g9_known bm) (g9_fresh bm) (g9_rounds bm) (FX9_tags_41 (g9_facts bm) (g9_rules bm) (g9_kind bm) (g9_head bm) (g9_body bm) (g9_except bm) (g9_strength bm) (g9_off bm) (g9_over bm) (g9_came bm) (g9_known bm) (g9_fresh bm) (g9_rounds bm)) n23 (nI i1_23) m_came_21 m_known_23 (g9_fresh bm) (g9_rounds bm) → zP G [w9 G am (s9_known (s9_came bm m_came_21) m_known_23)] H → zD A [w9 G am (s9_known (s9_came bm m_came_21) m_known_23)] → va_S A s.heap H locs → lv_has ls 4 [(0, .ref (am 0)), (1, .int (nI i1_23))] → W p l e rmX9_tags s m args below meth c H locs 0 0 Q (F0 m 23 ls []) := by
      intro n23
      induction n23 with
      | zero =>
        intro i1_23 m_known_23 H locs ls hi1_23 hn hE hP hD hS hl
        exact absurd hn (by omega)
      | succ n23 ih23 =>
        intro i1_23 m_known_23 H locs ls hi1_23 hn hE hP hD hS hl
        have hE := hE.trans (FX9_tags_23.eq_2 _ _ _ _ _ _ _ _ _ _ _ _ _ _ _ _ _ _ _ _)
        refine lv_iload_n hx hb dX9_tags_23 rfl (lv_at hl 1 rfl) ?_
        refine lv_iconst (v := 4) hx hb dX9_tags_24 (by decide) ?_
        refine lv_icmp_ge (tgt := 41) hx hb dX9_tags_25 (by decide) (fun c25 => ?_) (fun c25 => ?_)
        · have hE := hE.trans (if_pos c25)
          exact hB41 m_known_23 _ _ _ hE hP hD hS (lv_sub hl [0] rfl)
        · have hE := hE.trans (if_neg c25)
          have hl1_23 : i1_23 < 4 := zlt (N := 4) rfl (by omega) (by omega) c25
          refine lv_aload_n hx hb dX9_tags_28 rfl (lv_at hl 0 rfl) ?_
          refine zg9_known S in_X9_tags_9 hK hP 0 rfl (List.mem_of_getElem? (i := 2) rfl) dX9_tags_29 ?_
          refine lv_iload_n hx hb dX9_tags_32 rfl (lv_at hl 1 rfl) ?_
          refine lv_iconst (v := 0) hx hb dX9_tags_33 (by decide) ?_
          refine zs9_known (bs1 := [w9 G am (s9_known (s9_known (s9_came bm m_came_21) m_known_23) (upd m_known_23 (nI i1_23).toNatClampNeg 0))]) S hK hP hD hS 0 rfl (vp_in_nI (by omega) (by omega)) (f := m_known_23) (gg9_known _ m_known_23) dX9_tags_34 rfl (fun H locs hP hD hS => ?_)
          refine lv_iinc (v := (nI (i1_23 + 1))) (lv' := [(1, .int (nI (i1_23 + 1))), (0, .ref (am 0))]) hx hb dX9_tags_35 hl (k := 1) rfl (nI_1 i1_23) (by decide) rfl (fun ls hl => ?_)
          try rw [nI_1 i1_23] at hE
          refine lv_goto (tgt := 23) hx hb dX9_tags_38 (by decide) ?_
          rw [show (s9_known (s9_known (s9_came bm m_came_21) m_known_23) (upd m_known_23 (nI i1_23).toNatClampNeg 0)) = (s9_known (s9_came bm m_came_21) (upd m_known_23 (nI i1_23).toNatClampNeg 0)) from (ss9_known _ m_known_23 (upd m_known_23 (nI i1_23).toNatClampNeg 0))] at hP hD
          exact ih23 (i1_23 + 1) (upd m_known_23 (nI i1_23).toNatClampNeg 0) _ _ _ (by first | assumption | omega) (by omega) hE hP hD hS (lv_sub hl [1, 0] rfl)
    refine lv_istore_n (lv' := [(1, .int 0), (0, .ref (am 0))]) hx hb dX9_tags_22 rfl hl (by decide) rfl (fun ls hl => ?_)
    rw [show (s9_came bm m_came_21) = (s9_known (s9_came bm m_came_21) (g9_known bm)) from (((se9_known _).symm).trans (congrArg (fun v => s9_known (s9_came bm m_came_21) v) (gs9_known_came _ m_came_21)))] at hP hD
    exact hB23 5 0 (g9_known bm) _ _ _ (by first | assumption | omega) (by omega) hE hP hD hS (lv_sub hl [1, 0] rfl)
  have hB2 : ∀ (n2 : Nat) (i1_2 : Nat) (m_came_2 : Nat → Int32) (H : Heap) (locs : List Loc) (ls : Array Slot), (i1_2 ≤ 80) → 81 ≤ i1_2 + n2 → T = FX9_tags_2 (g9_facts bm) (g9_rules bm) (g9_kind bm) (g9_head bm) (g9_body bm) (g9_except bm) (g9_strength bm) (g9_off bm) (g9_over bm) (g9_came bm) (g9_known bm) (g9_fresh bm) (g9_rounds bm) (FX9_tags_21 (g9_facts bm) (g9_rules bm) (g9_kind bm) (g9_head bm) (g9_body bm) (g9_except bm) (g9_strength bm) (g9_off bm) (g9_over bm) (g9_came bm) (g9_known bm) (g9_fresh bm) (g9_rounds bm)) n2 (nI i1_2) m_came_2 (g9_known bm) (g9_fresh bm) (g9_rounds bm) → zP G [w9 G am (s9_came bm m_came_2)] H → zD A [w9 G am (s9_came bm m_came_2)] → va_S A s.heap H locs → lv_has ls 4 [(0, .ref (am 0)), (1, .int (nI i1_2))] → W p l e rmX9_tags s m args below meth c H locs 0 0 Q (F0 m 2 ls []) := by
    intro n2
    induction n2 with
    | zero =>
      intro i1_2 m_came_2 H locs ls hi1_2 hn hE hP hD hS hl
      exact absurd hn (by omega)
    | succ n2 ih2 =>
      intro i1_2 m_came_2 H locs ls hi1_2 hn hE hP hD hS hl
      have hE := hE.trans (FX9_tags_2.eq_2 _ _ _ _ _ _ _ _ _ _ _ _ _ _ _ _ _ _ _ _)
      refine lv_iload_n hx hb dX9_tags_2 rfl (lv_at hl 1 rfl) ?_
      refine lv_bipush (v := 80) hx hb dX9_tags_3 (by decide) ?_
      refine lv_icmp_ge (tgt := 21) hx hb dX9_tags_5 (by decide) (fun c5 => ?_) (fun c5 => ?_)
      · have hE := hE.trans (if_pos c5)
        exact hB21 m_came_2 _ _ _ hE hP hD hS (lv_sub hl [0] rfl)
      · have hE := hE.trans (if_neg c5)
        have hl1_2 : i1_2 < 80 := zlt (N := 80) rfl (by omega) (by omega) c5
        refine lv_aload_n hx hb dX9_tags_8 rfl (lv_at hl 0 rfl) ?_
        refine zg9_came S in_X9_tags_9 hK hP 0 rfl (List.mem_of_getElem? (i := 1) rfl) dX9_tags_9 ?_
        refine lv_iload_n hx hb dX9_tags_12 rfl (lv_at hl 1 rfl) ?_
        refine lv_iconst (v := 0) hx hb dX9_tags_13 (by decide) ?_
        refine zs9_came (bs1 := [w9 G am (s9_came (s9_came bm m_came_2) (upd m_came_2 (nI i1_2).toNatClampNeg 0))]) S hK hP hD hS 0 rfl (vp_in_nI (by omega) (by omega)) (f := m_came_2) (gg9_came _ m_came_2) dX9_tags_14 rfl (fun H locs hP hD hS => ?_)
        refine lv_iinc (v := (nI (i1_2 + 1))) (lv' := [(1, .int (nI (i1_2 + 1))), (0, .ref (am 0))]) hx hb dX9_tags_15 hl (k := 1) rfl (nI_1 i1_2) (by decide) rfl (fun ls hl => ?_)
        try rw [nI_1 i1_2] at hE
        refine lv_goto (tgt := 2) hx hb dX9_tags_18 (by decide) ?_
        rw [show (s9_came (s9_came bm m_came_2) (upd m_came_2 (nI i1_2).toNatClampNeg 0)) = (s9_came bm (upd m_came_2 (nI i1_2).toNatClampNeg 0)) from (ss9_came _ m_came_2 (upd m_came_2 (nI i1_2).toNatClampNeg 0))] at hP hD
        exact ih2 (i1_2 + 1) (upd m_came_2 (nI i1_2).toNatClampNeg 0) _ _ _ (by first | assumption | omega) (by omega) hE hP hD hS (lv_sub hl [1, 0] rfl)
  refine lv_istore_n (lv' := [(1, .int 0), (0, .ref (am 0))]) hx hb dX9_tags_1 rfl hl (by decide) rfl (fun ls hl => ?_)
  rw [show bm = (s9_came bm (g9_came bm)) from ((se9_came _).symm)] at hP hD
  exact hB2 81 0 (g9_came bm) _ _ _ (by first | assumption | omega) (by omega) hE hP hD hS (lv_sub hl [1, 0] rfl)

