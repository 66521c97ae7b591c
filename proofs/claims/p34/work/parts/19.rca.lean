theorem zn12b {x : Int32} (h1 : ¬ x < 1) (h2 : x ≤ 12) : ∃ N : Nat, N ≤ 12 ∧ x = nI N := by
  have h0 : ¬ x < 0 := fun h => h1 (Int32.lt_iff_toInt_lt.mpr (Int.lt_trans (Int32.lt_iff_toInt_lt.mp h) (by decide)))
  obtain ⟨j, hj, rfl⟩ := nI_of h0
  rw [show (12 : Int32) = nI 12 from rfl, nI_leI hj (by decide)] at h2
  exact ⟨j, h2, rfl⟩
theorem zj57 {x y : Int32} {i : Nat} {f : Nat → Int32} (h : ∀ t : Nat, t < 4 → f t = -1 ∨ ∃ N : Nat, N ≤ 24 ∧ f t = nI N) (hx : vp_in x 4) (c0 : ¬ y < 0) (hi : i < 20) (c : y < f x.toNatClampNeg - nI i) : vp_in (y + nI i) 24 := by
  obtain ⟨a, ha, rfl⟩ := vp_in_of hx (by decide)
  rw [nI_clamp (by omega)] at c
  obtain ⟨j, hj, rfl⟩ := nI_of c0
  rw [Int32.lt_iff_toInt_lt, nI_toInt hj] at c
  rcases h a ha with q | ⟨N, hN, q⟩
  · have key : ∀ i : Nat, i < 20 → ((-1 : Int32) - nI i).toInt < 0 := by decide +kernel
    rw [q] at c
    have := key i hi
    omega
  · rw [q, pk_sub_toInt (by omega) (by omega)] at c
    rw [nI_add]
    exact vp_in_nI (by omega) (by decide)
theorem zcpyH {f g : Nat → Int32} {n : Nat} (h : ∀ r : Nat, r < 16 → vp_in (f r) n) : ∀ r : Nat, r < 16 → vp_in (va_cpy f g (0 : Int32).toNatClampNeg (0 : Int32).toNatClampNeg (16 : Int32).toNatClampNeg r) n := fun r hr => by
  unfold va_cpy
  rw [show (0 : Int32).toNatClampNeg = 0 from by decide, show (16 : Int32).toNatClampNeg = 16 from by decide, if_pos ⟨by omega, by omega⟩, show 0 + (r - 0) = r from by omega]
  exact h r hr

theorem in_X8_changed_8 : ∀ w ∈ u_ws RX8 TX8 12, w ∈ wsX8_changed := by decide +kernel
def rmX8_changed : Room := { frames := 3, cells := 0, slots := 0, locals := 82 }
set_option maxHeartbeats 4000000 in
set_option maxRecDepth 100000 in
theorem c_X8_changed (l : Launch) (G : zG) (arc : Nat → Nat) (ac : Nat → Nat) (ahi : Nat → Nat) (aik : Nat → Nat → Nat) (orc_rounds : Nat) (orc_thought : Nat) (orc_thoughtRounds : Nat) (orc_chain : Nat) (orc_kept : Nat) (orc_words : Nat) (orc_sheet : Nat) (orc_rows : Nat) (brc : S8) (bc : S0) (sg : Nat → Nat) (y : Nat → S0) (D : Nat) (un : Int32) (hs_hi_sg : ∀ j : Nat, j < 13 → sg j < 13) (hd_hi_D : D ≤ 12) (T : (Int32) × (Nat → Nat) × (Nat → S0) × (Nat) × (Int32)) (hT : FX8_changed (g8_isSettled brc) (g0_kind bc) (g0_head bc) (g0_body bc) (g0_excepts bc) (g0_power bc) (g0_beats bc) (g0_facts bc) (g0_size bc) (g0_shut bc) sg y D un = T) : zV l yX8_changed wsX8_changed rmX8_changed G [.ref (arc 0)] (w8 G arc (ac 0) orc_rounds orc_thought orc_thoughtRounds orc_chain (ahi 0) orc_kept orc_words orc_sheet orc_rows brc :: w0 G ac bc :: w1 G ahi aik sg (nI D) un :: hcs G aik y) (w8 G arc (ac 0) orc_rounds orc_thought orc_thoughtRounds orc_chain (ahi 0) orc_kept orc_words orc_sheet orc_rows (s8_isSettled brc T.1) :: w0 G ac bc :: w1 G ahi aik T.2.1 (nI T.2.2.2.1) T.2.2.2.2 :: hcs G aik T.2.2.1) := by
  refine zV.mk (cc := cX8_changed) (maxL := 1) (by decide +kernel) rfl (Nat.le_of_ble_eq_true rfl) (zfl_cons (wf8 _ _ _ _ _ _ _ _ _ _ _ _ _ _) (zfl_cons rfl (zfl_cons rfl (hcs_fst0 _ _ _ _)))) ?_
  intro p e s m args below meth c Q A ls S hK hD hA hP hl hret
  have hx := S.1
  have hb := S.2.1
  have hS : va_S A s.heap s.heap [] := va_S.rf
  have hl : lv_has ls 1 [(0, .ref (arc 0))] := hl
  have hE := hT.symm.trans (FX8_changed.eq_1 _ _ _ _ _ _ _ _ _ _ _ _ _ _)
  refine lv_aload_n hx hb dX8_changed_0 rfl (lv_at hl 0 rfl) ?_
  refine zg8_history S in_X8_changed_8 hK hP 0 rfl (List.mem_of_getElem? (i := 1) rfl) dX8_changed_1 ?_
  refine lv_aload_n hx hb dX8_changed_4 rfl (lv_at hl 0 rfl) ?_
  refine zg8_court S in_X8_changed_8 hK hP 0 rfl (List.mem_of_getElem? (i := 2) rfl) dX8_changed_5 ?_
  obtain ⟨t8, ht8⟩ : ∃ z, FX1_keep sg y D (g0_kind bc) (g0_head bc) (g0_body bc) (g0_excepts bc) (g0_power bc) (g0_beats bc) (g0_facts bc) (g0_size bc) (g0_shut bc) = z := ⟨_, rfl⟩
  have hE := hE.trans (bnd_eq ht8)
  have hc := c_X1_keep l G ahi aik ac sg y D un bc (hs_hi_sg) (hd_hi_D) _ ht8
  refine zgoV (bs' := (w8 G arc (ac 0) orc_rounds orc_thought orc_thoughtRounds orc_chain (ahi 0) orc_kept orc_words orc_sheet orc_rows brc :: w0 G ac bc :: w1 G ahi aik t8.1 (nI t8.2.2.1) t8.2.2.2 :: hcs G aik t8.2.1)) hc [2, 1, 3, 4, 5, 6, 7, 8, 9, 10, 11, 12, 13, 14, 15] rfl rfl rfl hP hD hS hA (va_runV (As := [.ref (ac 0)]) (rest := []) S (hc.2 _) (cwV 1 S.2.2.2.2 gX8_changed_X1_keep rfl rfl rfl (by decide +kernel) ⟨Nat.le_of_ble_eq_true rfl, Nat.le_of_ble_eq_true rfl⟩) (zpV hK hP hD (is := [2, 1, 3, 4, 5, 6, 7, 8, 9, 10, 11, 12, 13, 14, 15]) rfl rfl 2 rfl rfl (ci := 1) rfl) rfl rfl hl.1 rfl (lv_room (Nat.le_of_ble_eq_true rfl)) dX8_changed_8 ⟨Nat.zero_le _, Nat.zero_le _⟩) (fun H locs hP hD hS => ?_)
  have hs_hi_sg_8 : ∀ j : Nat, j < 13 → t8.1 j < 13 := by rw [← ht8]; exact zkS_lt hs_hi_sg
  have hd_hi_D_8 : t8.2.2.1 ≤ 12 := by rw [← ht8]; exact zkD_le hd_hi_D
  refine lv_aload_n hx hb dX8_changed_11 rfl (lv_at hl 0 rfl) ?_
  refine lv_iconst (v := 0) hx hb dX8_changed_12 (by decide) ?_
  refine zp8_isSettled (bs1 := (w8 G arc (ac 0) orc_rounds orc_thought orc_thoughtRounds orc_chain (ahi 0) orc_kept orc_words orc_sheet orc_rows (s8_isSettled brc 0) :: w0 G ac bc :: w1 G ahi aik t8.1 (nI t8.2.2.1) t8.2.2.2 :: hcs G aik t8.2.1)) S in_X8_changed_8 hK hP hD hS 0 rfl (List.mem_of_getElem? (i := 3) rfl) zn0 dX8_changed_13 rfl (fun H locs hP hD hS => ?_)
  exact hret _ _ _ _ _ (by subst hE; rfl) hP hS dX8_changed_16

theorem in_X8_fact_0 : ∀ w ∈ u_ws RX0 TX0 9, w ∈ wsX8_fact := by decide +kernel
theorem in_X8_fact_8 : ∀ w ∈ u_ws RX8 TX8 12, w ∈ wsX8_fact := by decide +kernel
def rmX8_fact : Room := { frames := 4, cells := 0, slots := 0, locals := 102 }
set_option maxHeartbeats 4000000 in
set_option maxRecDepth 100000 in
theorem c_X8_fact (l : Launch) (G : zG) (arc : Nat → Nat) (ac : Nat → Nat) (ahi : Nat → Nat) (aik : Nat → Nat → Nat) (orc_rounds : Nat) (orc_thought : Nat) (orc_thoughtRounds : Nat) (orc_chain : Nat) (orc_kept : Nat) (orc_words : Nat) (orc_sheet : Nat) (orc_rows : Nat) (brc : S8) (bc : S0) (sg : Nat → Nat) (y : Nat → S0) (D : Nat) (un : Int32) (x1 : Int32) (x2 : Int32) (hs_hi_sg : ∀ j : Nat, j < 13 → sg j < 13) (hd_hi_D : D ≤ 12) (T : Int32 × (Int32) × (Int32) × (Nat → Nat) × (Nat → S0) × (Nat) × (Int32)) (hT : FX8_fact (g8_isSettled brc) (g0_kind bc) (g0_head bc) (g0_body bc) (g0_excepts bc) (g0_power bc) (g0_beats bc) (g0_facts bc) (g0_size bc) (g0_shut bc) sg y D un x1 x2 = T) : zI l yX8_fact wsX8_fact rmX8_fact .int G [.ref (arc 0), .int x1, .int x2] (w8 G arc (ac 0) orc_rounds orc_thought orc_thoughtRounds orc_chain (ahi 0) orc_kept orc_words orc_sheet orc_rows brc :: w0 G ac bc :: w1 G ahi aik sg (nI D) un :: hcs G aik y) T.1 (w8 G arc (ac 0) orc_rounds orc_thought orc_thoughtRounds orc_chain (ahi 0) orc_kept orc_words orc_sheet orc_rows (s8_isSettled brc T.2.1) :: w0 G ac (s0_facts bc T.2.2.1) :: w1 G ahi aik T.2.2.2.1 (nI T.2.2.2.2.2.1) T.2.2.2.2.2.2 :: hcs G aik T.2.2.2.2.1) := by
  refine zI.mk (cc := cX8_fact) (maxL := 4) (by decide +kernel) rfl (Nat.le_of_ble_eq_true rfl) (zfl_cons (wf8 _ _ _ _ _ _ _ _ _ _ _ _ _ _) (zfl_cons (wf0 _ _ _ _) (zfl_cons rfl (hcs_fst0 _ _ _ _)))) ?_
  intro p e s m args below meth c Q A ls S hK hD hA hP hl hret
  have hx := S.1
  have hb := S.2.1
  have hS : va_S A s.heap s.heap [] := va_S.rf
  have hl : lv_has ls 4 [(0, .ref (arc 0)), (1, .int x1), (2, .int x2)] := hl
  have hE := hT.symm.trans (FX8_fact.eq_1 _ _ _ _ _ _ _ _ _ _ _ _ _ _ _ _)
  refine lv_iload_n hx hb dX8_fact_0 rfl (lv_at hl 1 rfl) ?_
  obtain ⟨t1, ht1⟩ : ∃ z, FX8_isLiteral x1 = z := ⟨_, rfl⟩
  have hE := hE.trans (bnd_eq ht1)
  have hc := c_X8_isLiteral l G x1 _ ht1
  refine zgoR (va_runS (As := [.int x1]) (rest := []) S (hc _) (va_cwS 1 S.2.2.2.2 gX8_fact_X8_isLiteral rfl rfl rfl (by decide +kernel) ⟨Nat.le_of_ble_eq_true rfl, Nat.le_of_ble_eq_true rfl⟩) (zpS hK hP hD (is := []) rfl rfl) rfl rfl hl.1 rfl (lv_room (Nat.le_of_ble_eq_true rfl)) dX8_fact_1 ⟨Nat.zero_le _, Nat.zero_le _⟩) (fun hn1 => ?_)
  refine lv_if_eq (tgt := 14) hx hb dX8_fact_4 (by decide) (fun c4 => ?_) (fun c4 => ?_)
  · have hE := hE.trans (if_pos c4)
    refine lv_iconst (v := (-1)) hx hb dX8_fact_14 (by decide) ?_
    rw [show brc = (s8_isSettled brc (g8_isSettled brc)) from ((se8_isSettled _).symm)] at hP hD
    rw [show bc = (s0_facts bc (g0_facts bc)) from ((se0_facts _).symm)] at hP hD
    exact hret _ _ _ _ _ _ (by subst hE; rfl) rfl hP hS dX8_fact_15
  · have hE := hE.trans (if_neg c4)
    have hx1_20 : vp_in x1 20 := zisLit (by rw [ht1]; exact c4)
    refine lv_iload_n hx hb dX8_fact_7 rfl (lv_at hl 2 rfl) ?_
    obtain ⟨t8, ht8⟩ : ∃ z, FX8_isYesOrNo x2 = z := ⟨_, rfl⟩
    have hE := hE.trans (bnd_eq ht8)
    have hc := c_X8_isYesOrNo l G x2 _ ht8
    refine zgoR (va_runS (As := [.int x2]) (rest := []) S (hc _) (va_cwS 1 S.2.2.2.2 gX8_fact_X8_isYesOrNo rfl rfl rfl (by decide +kernel) ⟨Nat.le_of_ble_eq_true rfl, Nat.le_of_ble_eq_true rfl⟩) (zpS hK hP hD (is := []) rfl rfl) rfl rfl hl.1 rfl (lv_room (Nat.le_of_ble_eq_true rfl)) dX8_fact_8 ⟨Nat.zero_le _, Nat.zero_le _⟩) (fun hn8 => ?_)
    refine lv_if_ne (tgt := 16) hx hb dX8_fact_11 (by decide) (fun c11 => ?_) (fun c11 => ?_)
    · have hE := hE.trans (if_neg c11)
      refine lv_aload_n hx hb dX8_fact_16 rfl (lv_at hl 0 rfl) ?_
      refine zg8_court S in_X8_fact_8 hK hP 0 rfl (List.mem_of_getElem? (i := 1) rfl) dX8_fact_17 ?_
      refine zg0_facts S in_X8_fact_0 hK hP 1 rfl (List.mem_of_getElem? (i := 2) rfl) (v := (g0_facts bc)) rfl dX8_fact_20 ?_
      refine lv_iload_n hx hb dX8_fact_23 rfl (lv_at hl 1 rfl) ?_
      obtain ⟨t24, ht24⟩ : ∃ z, FX8_bit (g0_facts bc) x1 = z := ⟨_, rfl⟩
      have hE := hE.trans (bnd_eq ht24)
      have hc := c_X8_bit l G (g0_facts bc) x1 _ ht24
      refine zgoR (va_runS (As := [.int (g0_facts bc), .int x1]) (rest := []) S (hc _) (va_cwS 2 S.2.2.2.2 gX8_fact_X8_bit rfl rfl rfl (by decide +kernel) ⟨Nat.le_of_ble_eq_true rfl, Nat.le_of_ble_eq_true rfl⟩) (zpS hK hP hD (is := []) rfl rfl) rfl rfl hl.1 rfl (lv_room (Nat.le_of_ble_eq_true rfl)) dX8_fact_24 ⟨Nat.zero_le _, Nat.zero_le _⟩) (fun hn24 => ?_)
      refine lv_istore_n (lv' := [(3, .int t24), (0, .ref (arc 0)), (1, .int x1), (2, .int x2)]) hx hb dX8_fact_27 rfl hl (by decide) rfl (fun ls hl => ?_)
      refine lv_aload_n hx hb dX8_fact_28 rfl (lv_at hl 1 rfl) ?_
      refine zg8_court S in_X8_fact_8 hK hP 0 rfl (List.mem_of_getElem? (i := 1) rfl) dX8_fact_29 ?_
      refine lv_aload_n hx hb dX8_fact_32 rfl (lv_at hl 1 rfl) ?_
      refine zg8_court S in_X8_fact_8 hK hP 0 rfl (List.mem_of_getElem? (i := 1) rfl) dX8_fact_33 ?_
      refine zg0_facts S in_X8_fact_0 hK hP 1 rfl (List.mem_of_getElem? (i := 2) rfl) (v := (g0_facts bc)) rfl dX8_fact_36 ?_
      refine lv_iload_n hx hb dX8_fact_39 rfl (lv_at hl 2 rfl) ?_
      refine lv_iload_n hx hb dX8_fact_40 rfl (lv_at hl 3 rfl) ?_
      obtain ⟨t41, ht41⟩ : ∃ z, FX8_withBit (g0_facts bc) x1 x2 = z := ⟨_, rfl⟩
      have hE := hE.trans (bnd_eq ht41)
      have hc := c_X8_withBit l G (g0_facts bc) x1 x2 _ ht41
      refine zgoR (va_runS (As := [.int (g0_facts bc), .int x1, .int x2]) (rest := [.ref (ac 0)]) S (hc _) (va_cwS 3 S.2.2.2.2 gX8_fact_X8_withBit rfl rfl rfl (by decide +kernel) ⟨Nat.le_of_ble_eq_true rfl, Nat.le_of_ble_eq_true rfl⟩) (zpS hK hP hD (is := []) rfl rfl) rfl rfl hl.1 rfl (lv_room (Nat.le_of_ble_eq_true rfl)) dX8_fact_41 ⟨Nat.zero_le _, Nat.zero_le _⟩) (fun hn41 => ?_)
      refine zp0_facts (bs1 := (w8 G arc (ac 0) orc_rounds orc_thought orc_thoughtRounds orc_chain (ahi 0) orc_kept orc_words orc_sheet orc_rows brc :: w0 G ac (s0_facts bc t41) :: w1 G ahi aik sg (nI D) un :: hcs G aik y)) S in_X8_fact_0 hK hP hD hS 1 rfl (List.mem_of_getElem? (i := 2) rfl) dX8_fact_44 rfl (fun H locs hP hD hS => ?_)
      refine lv_aload_n hx hb dX8_fact_47 rfl (lv_at hl 1 rfl) ?_
      obtain ⟨t48, ht48⟩ : ∃ z, FX8_changed (g8_isSettled brc) (g0_kind bc) (g0_head bc) (g0_body bc) (g0_excepts bc) (g0_power bc) (g0_beats bc) t41 (g0_size bc) (g0_shut bc) sg y D un = z := ⟨_, rfl⟩
      have hE := hE.trans (bnd_eq ht48)
      have hc := c_X8_changed l G arc ac ahi aik orc_rounds orc_thought orc_thoughtRounds orc_chain orc_kept orc_words orc_sheet orc_rows brc (s0_facts bc t41) sg y D un (hs_hi_sg) (hd_hi_D) _ (by simp only [gs0_kind_facts, gs0_head_facts, gs0_body_facts, gs0_excepts_facts, gs0_power_facts, gs0_beats_facts, gg0_facts, gs0_size_facts, gs0_shut_facts]; exact ht48)
      refine zgoV (bs' := (w8 G arc (ac 0) orc_rounds orc_thought orc_thoughtRounds orc_chain (ahi 0) orc_kept orc_words orc_sheet orc_rows (s8_isSettled brc t48.1) :: w0 G ac (s0_facts bc t41) :: w1 G ahi aik t48.2.1 (nI t48.2.2.2.1) t48.2.2.2.2 :: hcs G aik t48.2.2.1)) hc [0, 1, 2, 3, 4, 5, 6, 7, 8, 9, 10, 11, 12, 13, 14, 15] rfl rfl rfl hP hD hS hA (va_runV (As := []) (rest := []) S (hc.2 _) (cwV 0 S.2.2.2.2 gX8_fact_X8_changed rfl rfl rfl (by decide +kernel) ⟨Nat.le_of_ble_eq_true rfl, Nat.le_of_ble_eq_true rfl⟩) (zpV hK hP hD (is := [0, 1, 2, 3, 4, 5, 6, 7, 8, 9, 10, 11, 12, 13, 14, 15]) rfl rfl 0 rfl rfl (ci := 8) rfl) rfl rfl hl.1 rfl (lv_room (Nat.le_of_ble_eq_true rfl)) dX8_fact_48 ⟨Nat.zero_le _, Nat.zero_le _⟩) (fun H locs hP hD hS => ?_)
      have hs_hi_sg_48 : ∀ j : Nat, j < 13 → t48.2.1 j < 13 := by rw [← ht48]; exact zkS_lt hs_hi_sg
      have hd_hi_D_48 : t48.2.2.2.1 ≤ 12 := by rw [← ht48]; exact zkD_le hd_hi_D
      refine lv_iload_n hx hb dX8_fact_51 rfl (lv_at hl 0 rfl) ?_
      exact hret _ _ _ _ _ _ (by subst hE; rfl) rfl hP hS dX8_fact_52
    · have hE := hE.trans (if_pos c11)
      refine lv_iconst (v := (-1)) hx hb dX8_fact_14 (by decide) ?_
      rw [show brc = (s8_isSettled brc (g8_isSettled brc)) from ((se8_isSettled _).symm)] at hP hD
      rw [show bc = (s0_facts bc (g0_facts bc)) from ((se0_facts _).symm)] at hP hD
      exact hret _ _ _ _ _ _ (by subst hE; rfl) rfl hP hS dX8_fact_15

theorem in_X8_rule_0 : ∀ w ∈ u_ws RX0 TX0 9, w ∈ wsX8_rule := by decide +kernel
theorem in_X8_rule_8 : ∀ w ∈ u_ws RX8 TX8 12, w ∈ wsX8_rule := by decide +kernel
def rmX8_rule : Room := { frames := 4, cells := 0, slots := 0, locals := 102 }
set_option maxHeartbeats 4000000 in
set_option maxRecDepth 100000 in
theorem c_X8_rule (l : Launch) (G : zG) (arc : Nat → Nat) (ac : Nat → Nat) (ahi : Nat → Nat) (aik : Nat → Nat → Nat) (orc_rounds : Nat) (orc_thought : Nat) (orc_thoughtRounds : Nat) (orc_chain : Nat) (orc_kept : Nat) (orc_words : Nat) (orc_sheet : Nat) (orc_rows : Nat) (brc : S8) (bc : S0) (sg : Nat → Nat) (y : Nat → S0) (D : Nat) (un : Int32) (x1 : Int32) (x2 : Int32) (x3 : Int32) (x4 : Int32) (x5 : Int32) (hz_c_size : ∃ N : Nat, N ≤ 16 ∧ g0_size bc = nI N) (hs_hi_sg : ∀ j : Nat, j < 13 → sg j < 13) (hd_hi_D : D ≤ 12) (T : Int32 × (Int32) × (Nat → Int32) × (Nat → Int32) × (Nat → Int32) × (Nat → Int32) × (Nat → Int32) × (Nat → Int32) × (Int32) × (Nat → Nat) × (Nat → S0) × (Nat) × (Int32)) (hT : FX8_rule (g8_isSettled brc) (g0_kind bc) (g0_head bc) (g0_body bc) (g0_excepts bc) (g0_power bc) (g0_beats bc) (g0_facts bc) (g0_size bc) (g0_shut bc) sg y D un x1 x2 x3 x4 x5 = T) : zI l yX8_rule wsX8_rule rmX8_rule .int G [.ref (arc 0), .int x1, .int x2, .int x3, .int x4, .int x5] (w8 G arc (ac 0) orc_rounds orc_thought orc_thoughtRounds orc_chain (ahi 0) orc_kept orc_words orc_sheet orc_rows brc :: w0 G ac bc :: w1 G ahi aik sg (nI D) un :: hcs G aik y) T.1 (w8 G arc (ac 0) orc_rounds orc_thought orc_thoughtRounds orc_chain (ahi 0) orc_kept orc_words orc_sheet orc_rows (s8_isSettled brc T.2.1) :: w0 G ac (s0_size (s0_beats (s0_power (s0_excepts (s0_body (s0_head (s0_kind bc T.2.2.1) T.2.2.2.1) T.2.2.2.2.1) T.2.2.2.2.2.1) T.2.2.2.2.2.2.1) T.2.2.2.2.2.2.2.1) T.2.2.2.2.2.2.2.2.1) :: w1 G ahi aik T.2.2.2.2.2.2.2.2.2.1 (nI T.2.2.2.2.2.2.2.2.2.2.2.1) T.2.2.2.2.2.2.2.2.2.2.2.2 :: hcs G aik T.2.2.2.2.2.2.2.2.2.2.1) := by
  refine zI.mk (cc := cX8_rule) (maxL := 6) (by decide +kernel) rfl (Nat.le_of_ble_eq_true rfl) (zfl_cons (wf8 _ _ _ _ _ _ _ _ _ _ _ _ _ _) (zfl_cons (wf0 _ _ _ _) (zfl_cons rfl (hcs_fst0 _ _ _ _)))) ?_
  intro p e s m args below meth c Q A ls S hK hD hA hP hl hret
  have hx := S.1
  have hb := S.2.1
  have hS : va_S A s.heap s.heap [] := va_S.rf
  have hl : lv_has ls 6 [(0, .ref (arc 0)), (1, .int x1), (2, .int x2), (3, .int x3), (4, .int x4), (5, .int x5)] := hl
  have hE := hT.symm.trans (FX8_rule.eq_1 _ _ _ _ _ _ _ _ _ _ _ _ _ _ _ _ _ _ _)
  refine lv_iload_n hx hb dX8_rule_0 rfl (lv_at hl 1 rfl) ?_
  refine lv_if_lt (tgt := 24) hx hb dX8_rule_1 (by decide) (fun c1 => ?_) (fun c1 => ?_)
  · have hE := hE.trans (if_pos c1)
    refine lv_iconst (v := (-1)) hx hb dX8_rule_24 (by decide) ?_
    rw [show brc = (s8_isSettled brc (g8_isSettled brc)) from ((se8_isSettled _).symm)] at hP hD
    rw [show bc = (s0_size (s0_beats (s0_power (s0_excepts (s0_body (s0_head (s0_kind bc (g0_kind bc)) (g0_head bc)) (g0_body bc)) (g0_excepts bc)) (g0_power bc)) (g0_beats bc)) (g0_size bc)) from ((((((((se0_kind _).symm).trans (((se0_head _).symm).trans (congrArg (fun v => s0_head (s0_kind bc (g0_kind bc)) v) (gs0_head_kind _ (g0_kind bc))))).trans (((se0_body _).symm).trans (congrArg (fun v => s0_body (s0_head (s0_kind bc (g0_kind bc)) (g0_head bc)) v) ((gs0_body_head _ (g0_head bc)).trans (gs0_body_kind _ (g0_kind bc)))))).trans (((se0_excepts _).symm).trans (congrArg (fun v => s0_excepts (s0_body (s0_head (s0_kind bc (g0_kind bc)) (g0_head bc)) (g0_body bc)) v) ((gs0_excepts_body _ (g0_body bc)).trans ((gs0_excepts_head _ (g0_head bc)).trans (gs0_excepts_kind _ (g0_kind bc))))))).trans (((se0_power _).symm).trans (congrArg (fun v => s0_power (s0_excepts (s0_body (s0_head (s0_kind bc (g0_kind bc)) (g0_head bc)) (g0_body bc)) (g0_excepts bc)) v) ((gs0_power_excepts _ (g0_excepts bc)).trans ((gs0_power_body _ (g0_body bc)).trans ((gs0_power_head _ (g0_head bc)).trans (gs0_power_kind _ (g0_kind bc)))))))).trans (((se0_beats _).symm).trans (congrArg (fun v => s0_beats (s0_power (s0_excepts (s0_body (s0_head (s0_kind bc (g0_kind bc)) (g0_head bc)) (g0_body bc)) (g0_excepts bc)) (g0_power bc)) v) ((gs0_beats_power _ (g0_power bc)).trans ((gs0_beats_excepts _ (g0_excepts bc)).trans ((gs0_beats_body _ (g0_body bc)).trans ((gs0_beats_head _ (g0_head bc)).trans (gs0_beats_kind _ (g0_kind bc))))))))).trans (((se0_size _).symm).trans (congrArg (fun v => s0_size (s0_beats (s0_power (s0_excepts (s0_body (s0_head (s0_kind bc (g0_kind bc)) (g0_head bc)) (g0_body bc)) (g0_excepts bc)) (g0_power bc)) (g0_beats bc)) v) ((gs0_size_beats _ (g0_beats bc)).trans ((gs0_size_power _ (g0_power bc)).trans ((gs0_size_excepts _ (g0_excepts bc)).trans ((gs0_size_body _ (g0_body bc)).trans ((gs0_size_head _ (g0_head bc)).trans (gs0_size_kind _ (g0_kind bc))))))))))] at hP hD
    exact hret _ _ _ _ _ _ (by subst hE; rfl) rfl hP hS dX8_rule_25
  · have hE := hE.trans (if_neg c1)
    refine lv_iload_n hx hb dX8_rule_4 rfl (lv_at hl 1 rfl) ?_
    refine lv_iconst (v := 2) hx hb dX8_rule_5 (by decide) ?_
    refine lv_icmp_gt (tgt := 24) hx hb dX8_rule_6 (by decide) (fun c6 => ?_) (fun c6 => ?_)
    · have hE := hE.trans (if_pos c6)
      refine lv_iconst (v := (-1)) hx hb dX8_rule_24 (by decide) ?_
      rw [show brc = (s8_isSettled brc (g8_isSettled brc)) from ((se8_isSettled _).symm)] at hP hD
      rw [show bc = (s0_size (s0_beats (s0_power (s0_excepts (s0_body (s0_head (s0_kind bc (g0_kind bc)) (g0_head bc)) (g0_body bc)) (g0_excepts bc)) (g0_power bc)) (g0_beats bc)) (g0_size bc)) from ((((((((se0_kind _).symm).trans (((se0_head _).symm).trans (congrArg (fun v => s0_head (s0_kind bc (g0_kind bc)) v) (gs0_head_kind _ (g0_kind bc))))).trans (((se0_body _).symm).trans (congrArg (fun v => s0_body (s0_head (s0_kind bc (g0_kind bc)) (g0_head bc)) v) ((gs0_body_head _ (g0_head bc)).trans (gs0_body_kind _ (g0_kind bc)))))).trans (((se0_excepts _).symm).trans (congrArg (fun v => s0_excepts (s0_body (s0_head (s0_kind bc (g0_kind bc)) (g0_head bc)) (g0_body bc)) v) ((gs0_excepts_body _ (g0_body bc)).trans ((gs0_excepts_head _ (g0_head bc)).trans (gs0_excepts_kind _ (g0_kind bc))))))).trans (((se0_power _).symm).trans (congrArg (fun v => s0_power (s0_excepts (s0_body (s0_head (s0_kind bc (g0_kind bc)) (g0_head bc)) (g0_body bc)) (g0_excepts bc)) v) ((gs0_power_excepts _ (g0_excepts bc)).trans ((gs0_power_body _ (g0_body bc)).trans ((gs0_power_head _ (g0_head bc)).trans (gs0_power_kind _ (g0_kind bc)))))))).trans (((se0_beats _).symm).trans (congrArg (fun v => s0_beats (s0_power (s0_excepts (s0_body (s0_head (s0_kind bc (g0_kind bc)) (g0_head bc)) (g0_body bc)) (g0_excepts bc)) (g0_power bc)) v) ((gs0_beats_power _ (g0_power bc)).trans ((gs0_beats_excepts _ (g0_excepts bc)).trans ((gs0_beats_body _ (g0_body bc)).trans ((gs0_beats_head _ (g0_head bc)).trans (gs0_beats_kind _ (g0_kind bc))))))))).trans (((se0_size _).symm).trans (congrArg (fun v => s0_size (s0_beats (s0_power (s0_excepts (s0_body (s0_head (s0_kind bc (g0_kind bc)) (g0_head bc)) (g0_body bc)) (g0_excepts bc)) (g0_power bc)) (g0_beats bc)) v) ((gs0_size_beats _ (g0_beats bc)).trans ((gs0_size_power _ (g0_power bc)).trans ((gs0_size_excepts _ (g0_excepts bc)).trans ((gs0_size_body _ (g0_body bc)).trans ((gs0_size_head _ (g0_head bc)).trans (gs0_size_kind _ (g0_kind bc))))))))))] at hP hD
      exact hret _ _ _ _ _ _ (by subst hE; rfl) rfl hP hS dX8_rule_25
    · have hE := hE.trans (if_neg c6)
      refine lv_iload_n hx hb dX8_rule_9 rfl (lv_at hl 2 rfl) ?_
      obtain ⟨t10, ht10⟩ : ∃ z, FX8_isLiteral x2 = z := ⟨_, rfl⟩
      have hE := hE.trans (bnd_eq ht10)
      have hc := c_X8_isLiteral l G x2 _ ht10
      refine zgoR (va_runS (As := [.int x2]) (rest := []) S (hc _) (va_cwS 1 S.2.2.2.2 gX8_rule_X8_isLiteral rfl rfl rfl (by decide +kernel) ⟨Nat.le_of_ble_eq_true rfl, Nat.le_of_ble_eq_true rfl⟩) (zpS hK hP hD (is := []) rfl rfl) rfl rfl hl.1 rfl (lv_room (Nat.le_of_ble_eq_true rfl)) dX8_rule_10 ⟨Nat.zero_le _, Nat.zero_le _⟩) (fun hn10 => ?_)
      refine lv_if_eq (tgt := 24) hx hb dX8_rule_13 (by decide) (fun c13 => ?_) (fun c13 => ?_)
      · have hE := hE.trans (if_pos c13)
        refine lv_iconst (v := (-1)) hx hb dX8_rule_24 (by decide) ?_
        rw [show brc = (s8_isSettled brc (g8_isSettled brc)) from ((se8_isSettled _).symm)] at hP hD
        rw [show bc = (s0_size (s0_beats (s0_power (s0_excepts (s0_body (s0_head (s0_kind bc (g0_kind bc)) (g0_head bc)) (g0_body bc)) (g0_excepts bc)) (g0_power bc)) (g0_beats bc)) (g0_size bc)) from ((((((((se0_kind _).symm).trans (((se0_head _).symm).trans (congrArg (fun v => s0_head (s0_kind bc (g0_kind bc)) v) (gs0_head_kind _ (g0_kind bc))))).trans (((se0_body _).symm).trans (congrArg (fun v => s0_body (s0_head (s0_kind bc (g0_kind bc)) (g0_head bc)) v) ((gs0_body_head _ (g0_head bc)).trans (gs0_body_kind _ (g0_kind bc)))))).trans (((se0_excepts _).symm).trans (congrArg (fun v => s0_excepts (s0_body (s0_head (s0_kind bc (g0_kind bc)) (g0_head bc)) (g0_body bc)) v) ((gs0_excepts_body _ (g0_body bc)).trans ((gs0_excepts_head _ (g0_head bc)).trans (gs0_excepts_kind _ (g0_kind bc))))))).trans (((se0_power _).symm).trans (congrArg (fun v => s0_power (s0_excepts (s0_body (s0_head (s0_kind bc (g0_kind bc)) (g0_head bc)) (g0_body bc)) (g0_excepts bc)) v) ((gs0_power_excepts _ (g0_excepts bc)).trans ((gs0_power_body _ (g0_body bc)).trans ((gs0_power_head _ (g0_head bc)).trans (gs0_power_kind _ (g0_kind bc)))))))).trans (((se0_beats _).symm).trans (congrArg (fun v => s0_beats (s0_power (s0_excepts (s0_body (s0_head (s0_kind bc (g0_kind bc)) (g0_head bc)) (g0_body bc)) (g0_excepts bc)) (g0_power bc)) v) ((gs0_beats_power _ (g0_power bc)).trans ((gs0_beats_excepts _ (g0_excepts bc)).trans ((gs0_beats_body _ (g0_body bc)).trans ((gs0_beats_head _ (g0_head bc)).trans (gs0_beats_kind _ (g0_kind bc))))))))).trans (((se0_size _).symm).trans (congrArg (fun v => s0_size (s0_beats (s0_power (s0_excepts (s0_body (s0_head (s0_kind bc (g0_kind bc)) (g0_head bc)) (g0_body bc)) (g0_excepts bc)) (g0_power bc)) (g0_beats bc)) v) ((gs0_size_beats _ (g0_beats bc)).trans ((gs0_size_power _ (g0_power bc)).trans ((gs0_size_excepts _ (g0_excepts bc)).trans ((gs0_size_body _ (g0_body bc)).trans ((gs0_size_head _ (g0_head bc)).trans (gs0_size_kind _ (g0_kind bc))))))))))] at hP hD
        exact hret _ _ _ _ _ _ (by subst hE; rfl) rfl hP hS dX8_rule_25
      · have hE := hE.trans (if_neg c13)
        have hx2_20 : vp_in x2 20 := zisLit (by rw [ht10]; exact c13)
        refine lv_iload hx hb dX8_rule_16 (lv_at hl 5 rfl) ?_
        obtain ⟨t18, ht18⟩ : ∃ z, FX8_isStrength x5 = z := ⟨_, rfl⟩
        have hE := hE.trans (bnd_eq ht18)
        have hc := c_X8_isStrength l G x5 _ ht18
        refine zgoR (va_runS (As := [.int x5]) (rest := []) S (hc _) (va_cwS 1 S.2.2.2.2 gX8_rule_X8_isStrength rfl rfl rfl (by decide +kernel) ⟨Nat.le_of_ble_eq_true rfl, Nat.le_of_ble_eq_true rfl⟩) (zpS hK hP hD (is := []) rfl rfl) rfl rfl hl.1 rfl (lv_room (Nat.le_of_ble_eq_true rfl)) dX8_rule_18 ⟨Nat.zero_le _, Nat.zero_le _⟩) (fun hn18 => ?_)
        refine lv_if_ne (tgt := 26) hx hb dX8_rule_21 (by decide) (fun c21 => ?_) (fun c21 => ?_)
        · have hE := hE.trans (if_neg c21)
          refine lv_iload_n hx hb dX8_rule_26 rfl (lv_at hl 3 rfl) ?_
          obtain ⟨t27, ht27⟩ : ∃ z, FX8_areLiterals x3 = z := ⟨_, rfl⟩
          have hE := hE.trans (bnd_eq ht27)
          have hc := c_X8_areLiterals l G x3 _ ht27
          refine zgoR (va_runS (As := [.int x3]) (rest := []) S (hc _) (va_cwS 1 S.2.2.2.2 gX8_rule_X8_areLiterals rfl rfl rfl (by decide +kernel) ⟨Nat.le_of_ble_eq_true rfl, Nat.le_of_ble_eq_true rfl⟩) (zpS hK hP hD (is := []) rfl rfl) rfl rfl hl.1 rfl (lv_room (Nat.le_of_ble_eq_true rfl)) dX8_rule_27 ⟨Nat.zero_le _, Nat.zero_le _⟩) (fun hn27 => ?_)
          refine lv_if_eq (tgt := 50) hx hb dX8_rule_30 (by decide) (fun c30 => ?_) (fun c30 => ?_)
          · have hE := hE.trans (if_pos c30)
            refine lv_iconst (v := (-1)) hx hb dX8_rule_50 (by decide) ?_
            rw [show brc = (s8_isSettled brc (g8_isSettled brc)) from ((se8_isSettled _).symm)] at hP hD
            rw [show bc = (s0_size (s0_beats (s0_power (s0_excepts (s0_body (s0_head (s0_kind bc (g0_kind bc)) (g0_head bc)) (g0_body bc)) (g0_excepts bc)) (g0_power bc)) (g0_beats bc)) (g0_size bc)) from ((((((((se0_kind _).symm).trans (((se0_head _).symm).trans (congrArg (fun v => s0_head (s0_kind bc (g0_kind bc)) v) (gs0_head_kind _ (g0_kind bc))))).trans (((se0_body _).symm).trans (congrArg (fun v => s0_body (s0_head (s0_kind bc (g0_kind bc)) (g0_head bc)) v) ((gs0_body_head _ (g0_head bc)).trans (gs0_body_kind _ (g0_kind bc)))))).trans (((se0_excepts _).symm).trans (congrArg (fun v => s0_excepts (s0_body (s0_head (s0_kind bc (g0_kind bc)) (g0_head bc)) (g0_body bc)) v) ((gs0_excepts_body _ (g0_body bc)).trans ((gs0_excepts_head _ (g0_head bc)).trans (gs0_excepts_kind _ (g0_kind bc))))))).trans (((se0_power _).symm).trans (congrArg (fun v => s0_power (s0_excepts (s0_body (s0_head (s0_kind bc (g0_kind bc)) (g0_head bc)) (g0_body bc)) (g0_excepts bc)) v) ((gs0_power_excepts _ (g0_excepts bc)).trans ((gs0_power_body _ (g0_body bc)).trans ((gs0_power_head _ (g0_head bc)).trans (gs0_power_kind _ (g0_kind bc)))))))).trans (((se0_beats _).symm).trans (congrArg (fun v => s0_beats (s0_power (s0_excepts (s0_body (s0_head (s0_kind bc (g0_kind bc)) (g0_head bc)) (g0_body bc)) (g0_excepts bc)) (g0_power bc)) v) ((gs0_beats_power _ (g0_power bc)).trans ((gs0_beats_excepts _ (g0_excepts bc)).trans ((gs0_beats_body _ (g0_body bc)).trans ((gs0_beats_head _ (g0_head bc)).trans (gs0_beats_kind _ (g0_kind bc))))))))).trans (((se0_size _).symm).trans (congrArg (fun v => s0_size (s0_beats (s0_power (s0_excepts (s0_body (s0_head (s0_kind bc (g0_kind bc)) (g0_head bc)) (g0_body bc)) (g0_excepts bc)) (g0_power bc)) (g0_beats bc)) v) ((gs0_size_beats _ (g0_beats bc)).trans ((gs0_size_power _ (g0_power bc)).trans ((gs0_size_excepts _ (g0_excepts bc)).trans ((gs0_size_body _ (g0_body bc)).trans ((gs0_size_head _ (g0_head bc)).trans (gs0_size_kind _ (g0_kind bc))))))))))] at hP hD
            exact hret _ _ _ _ _ _ (by subst hE; rfl) rfl hP hS dX8_rule_51
          · have hE := hE.trans (if_neg c30)
            refine lv_iload hx hb dX8_rule_33 (lv_at hl 4 rfl) ?_
            obtain ⟨t35, ht35⟩ : ∃ z, FX8_areLiterals x4 = z := ⟨_, rfl⟩
            have hE := hE.trans (bnd_eq ht35)
            have hc := c_X8_areLiterals l G x4 _ ht35
            refine zgoR (va_runS (As := [.int x4]) (rest := []) S (hc _) (va_cwS 1 S.2.2.2.2 gX8_rule_X8_areLiterals rfl rfl rfl (by decide +kernel) ⟨Nat.le_of_ble_eq_true rfl, Nat.le_of_ble_eq_true rfl⟩) (zpS hK hP hD (is := []) rfl rfl) rfl rfl hl.1 rfl (lv_room (Nat.le_of_ble_eq_true rfl)) dX8_rule_35 ⟨Nat.zero_le _, Nat.zero_le _⟩) (fun hn35 => ?_)
            refine lv_if_eq (tgt := 50) hx hb dX8_rule_38 (by decide) (fun c38 => ?_) (fun c38 => ?_)
            · have hE := hE.trans (if_pos c38)
              refine lv_iconst (v := (-1)) hx hb dX8_rule_50 (by decide) ?_
              rw [show brc = (s8_isSettled brc (g8_isSettled brc)) from ((se8_isSettled _).symm)] at hP hD
              rw [show bc = (s0_size (s0_beats (s0_power (s0_excepts (s0_body (s0_head (s0_kind bc (g0_kind bc)) (g0_head bc)) (g0_body bc)) (g0_excepts bc)) (g0_power bc)) (g0_beats bc)) (g0_size bc)) from ((((((((se0_kind _).symm).trans (((se0_head _).symm).trans (congrArg (fun v => s0_head (s0_kind bc (g0_kind bc)) v) (gs0_head_kind _ (g0_kind bc))))).trans (((se0_body _).symm).trans (congrArg (fun v => s0_body (s0_head (s0_kind bc (g0_kind bc)) (g0_head bc)) v) ((gs0_body_head _ (g0_head bc)).trans (gs0_body_kind _ (g0_kind bc)))))).trans (((se0_excepts _).symm).trans (congrArg (fun v => s0_excepts (s0_body (s0_head (s0_kind bc (g0_kind bc)) (g0_head bc)) (g0_body bc)) v) ((gs0_excepts_body _ (g0_body bc)).trans ((gs0_excepts_head _ (g0_head bc)).trans (gs0_excepts_kind _ (g0_kind bc))))))).trans (((se0_power _).symm).trans (congrArg (fun v => s0_power (s0_excepts (s0_body (s0_head (s0_kind bc (g0_kind bc)) (g0_head bc)) (g0_body bc)) (g0_excepts bc)) v) ((gs0_power_excepts _ (g0_excepts bc)).trans ((gs0_power_body _ (g0_body bc)).trans ((gs0_power_head _ (g0_head bc)).trans (gs0_power_kind _ (g0_kind bc)))))))).trans (((se0_beats _).symm).trans (congrArg (fun v => s0_beats (s0_power (s0_excepts (s0_body (s0_head (s0_kind bc (g0_kind bc)) (g0_head bc)) (g0_body bc)) (g0_excepts bc)) (g0_power bc)) v) ((gs0_beats_power _ (g0_power bc)).trans ((gs0_beats_excepts _ (g0_excepts bc)).trans ((gs0_beats_body _ (g0_body bc)).trans ((gs0_beats_head _ (g0_head bc)).trans (gs0_beats_kind _ (g0_kind bc))))))))).trans (((se0_size _).symm).trans (congrArg (fun v => s0_size (s0_beats (s0_power (s0_excepts (s0_body (s0_head (s0_kind bc (g0_kind bc)) (g0_head bc)) (g0_body bc)) (g0_excepts bc)) (g0_power bc)) (g0_beats bc)) v) ((gs0_size_beats _ (g0_beats bc)).trans ((gs0_size_power _ (g0_power bc)).trans ((gs0_size_excepts _ (g0_excepts bc)).trans ((gs0_size_body _ (g0_body bc)).trans ((gs0_size_head _ (g0_head bc)).trans (gs0_size_kind _ (g0_kind bc))))))))))] at hP hD
              exact hret _ _ _ _ _ _ (by subst hE; rfl) rfl hP hS dX8_rule_51
            · have hE := hE.trans (if_neg c38)
              refine lv_iload_n hx hb dX8_rule_41 rfl (lv_at hl 1 rfl) ?_
              have hB52 : ∀ (H : Heap) (locs : List Loc) (ls : Array Slot), T = FX8_rule_52 (g8_isSettled brc) (g0_kind bc) (g0_head bc) (g0_body bc) (g0_excepts bc) (g0_power bc) (g0_beats bc) (g0_facts bc) (g0_size bc) (g0_shut bc) sg y D un x1 x2 x3 x4 x5 (g8_isSettled brc) (g0_kind bc) (g0_head bc) (g0_body bc) (g0_excepts bc) (g0_power bc) (g0_beats bc) (g0_size bc) sg y D un → zP G (w8 G arc (ac 0) orc_rounds orc_thought orc_thoughtRounds orc_chain (ahi 0) orc_kept orc_words orc_sheet orc_rows brc :: w0 G ac bc :: w1 G ahi aik sg (nI D) un :: hcs G aik y) H → zD A (w8 G arc (ac 0) orc_rounds orc_thought orc_thoughtRounds orc_chain (ahi 0) orc_kept orc_words orc_sheet orc_rows brc :: w0 G ac bc :: w1 G ahi aik sg (nI D) un :: hcs G aik y) → va_S A s.heap H locs → lv_has ls 6 [(0, .ref (arc 0)), (1, .int x1), (2, .int x2), (3, .int x3), (4, .int x4), (5, .int x5)] → W p l e rmX8_rule s m args below meth c H locs 0 0 Q (F0 m 52 ls []) := by
                intro H locs ls hE hP hD hS hl
                have hE := hE.trans (FX8_rule_52.eq_1 _ _ _ _ _ _ _ _ _ _ _ _ _ _ _ _ _ _ _ _ _ _ _ _ _ _ _ _ _ _ _)
                refine lv_aload_n hx hb dX8_rule_52 rfl (lv_at hl 0 rfl) ?_
                refine zg8_court S in_X8_rule_8 hK hP 0 rfl (List.mem_of_getElem? (i := 1) rfl) dX8_rule_53 ?_
                refine lv_iload_n hx hb dX8_rule_56 rfl (lv_at hl 1 rfl) ?_
                refine lv_iload_n hx hb dX8_rule_57 rfl (lv_at hl 2 rfl) ?_
                refine lv_iload_n hx hb dX8_rule_58 rfl (lv_at hl 3 rfl) ?_
                refine lv_iload hx hb dX8_rule_59 (lv_at hl 4 rfl) ?_
                refine lv_iload hx hb dX8_rule_61 (lv_at hl 5 rfl) ?_
                obtain ⟨t63, ht63⟩ : ∃ z, FX0_add (g0_kind bc) (g0_head bc) (g0_body bc) (g0_excepts bc) (g0_power bc) (g0_beats bc) (g0_size bc) x1 x2 x3 x4 x5 = z := ⟨_, rfl⟩
                have hE := hE.trans (bnd_eq ht63)
                have hc := c_X0_add l G ac bc x1 x2 x3 x4 x5 (hz_c_size) _ ht63
                refine zgoI (bs' := (w8 G arc (ac 0) orc_rounds orc_thought orc_thoughtRounds orc_chain (ahi 0) orc_kept orc_words orc_sheet orc_rows brc :: w0 G ac (s0_size (s0_beats (s0_power (s0_excepts (s0_body (s0_head (s0_kind bc t63.2.1) t63.2.2.1) t63.2.2.2.1) t63.2.2.2.2.1) t63.2.2.2.2.2.1) t63.2.2.2.2.2.2.1) t63.2.2.2.2.2.2.2) :: w1 G ahi aik sg (nI D) un :: hcs G aik y)) hc [1] rfl rfl rfl hP hD hS hA (va_runV (As := [.int x1, .int x2, .int x3, .int x4, .int x5]) (rest := []) S (hc.2 _) (cwV 5 S.2.2.2.2 gX8_rule_X0_add rfl rfl rfl (by decide +kernel) ⟨Nat.le_of_ble_eq_true rfl, Nat.le_of_ble_eq_true rfl⟩) (zpV hK hP hD (is := [1]) rfl rfl 1 rfl rfl (ci := 0) rfl) rfl rfl hl.1 rfl (lv_room (Nat.le_of_ble_eq_true rfl)) dX8_rule_63 ⟨Nat.zero_le _, Nat.zero_le _⟩) (fun H locs hn63 hP hD hS => ?_)
                refine lv_if_ne (tgt := 72) hx hb dX8_rule_66 (by decide) (fun c66 => ?_) (fun c66 => ?_)
                · have hE := hE.trans (if_neg c66)
                  refine lv_aload_n hx hb dX8_rule_72 rfl (lv_at hl 0 rfl) ?_
                  obtain ⟨t73, ht73⟩ : ∃ z, FX8_changed (g8_isSettled brc) t63.2.1 t63.2.2.1 t63.2.2.2.1 t63.2.2.2.2.1 t63.2.2.2.2.2.1 t63.2.2.2.2.2.2.1 (g0_facts bc) t63.2.2.2.2.2.2.2 (g0_shut bc) sg y D un = z := ⟨_, rfl⟩
                  have hE := hE.trans (bnd_eq ht73)
                  have hc := c_X8_changed l G arc ac ahi aik orc_rounds orc_thought orc_thoughtRounds orc_chain orc_kept orc_words orc_sheet orc_rows brc (s0_size (s0_beats (s0_power (s0_excepts (s0_body (s0_head (s0_kind bc t63.2.1) t63.2.2.1) t63.2.2.2.1) t63.2.2.2.2.1) t63.2.2.2.2.2.1) t63.2.2.2.2.2.2.1) t63.2.2.2.2.2.2.2) sg y D un (hs_hi_sg) (hd_hi_D) _ (by simp only [gs0_kind_size, gs0_kind_beats, gs0_kind_power, gs0_kind_excepts, gs0_kind_body, gs0_kind_head, gg0_kind, gs0_head_size, gs0_head_beats, gs0_head_power, gs0_head_excepts, gs0_head_body, gg0_head, gs0_body_size, gs0_body_beats, gs0_body_power, gs0_body_excepts, gg0_body, gs0_excepts_size, gs0_excepts_beats, gs0_excepts_power, gg0_excepts, gs0_power_size, gs0_power_beats, gg0_power, gs0_beats_size, gg0_beats, gs0_facts_size, gs0_facts_beats, gs0_facts_power, gs0_facts_excepts, gs0_facts_body, gs0_facts_head, gs0_facts_kind, gg0_size, gs0_shut_size, gs0_shut_beats, gs0_shut_power, gs0_shut_excepts, gs0_shut_body, gs0_shut_head, gs0_shut_kind]; exact ht73)
                  refine zgoV (bs' := (w8 G arc (ac 0) orc_rounds orc_thought orc_thoughtRounds orc_chain (ahi 0) orc_kept orc_words orc_sheet orc_rows (s8_isSettled brc t73.1) :: w0 G ac (s0_size (s0_beats (s0_power (s0_excepts (s0_body (s0_head (s0_kind bc t63.2.1) t63.2.2.1) t63.2.2.2.1) t63.2.2.2.2.1) t63.2.2.2.2.2.1) t63.2.2.2.2.2.2.1) t63.2.2.2.2.2.2.2) :: w1 G ahi aik t73.2.1 (nI t73.2.2.2.1) t73.2.2.2.2 :: hcs G aik t73.2.2.1)) hc [0, 1, 2, 3, 4, 5, 6, 7, 8, 9, 10, 11, 12, 13, 14, 15] rfl rfl rfl hP hD hS hA (va_runV (As := []) (rest := []) S (hc.2 _) (cwV 0 S.2.2.2.2 gX8_rule_X8_changed rfl rfl rfl (by decide +kernel) ⟨Nat.le_of_ble_eq_true rfl, Nat.le_of_ble_eq_true rfl⟩) (zpV hK hP hD (is := [0, 1, 2, 3, 4, 5, 6, 7, 8, 9, 10, 11, 12, 13, 14, 15]) rfl rfl 0 rfl rfl (ci := 8) rfl) rfl rfl hl.1 rfl (lv_room (Nat.le_of_ble_eq_true rfl)) dX8_rule_73 ⟨Nat.zero_le _, Nat.zero_le _⟩) (fun H locs hP hD hS => ?_)
                  have hs_hi_sg_73 : ∀ j : Nat, j < 13 → t73.2.1 j < 13 := by rw [← ht73]; exact zkS_lt hs_hi_sg
                  have hd_hi_D_73 : t73.2.2.2.1 ≤ 12 := by rw [← ht73]; exact zkD_le hd_hi_D
                  refine lv_aload_n hx hb dX8_rule_76 rfl (lv_at hl 0 rfl) ?_
                  refine zg8_court S in_X8_rule_8 hK hP 0 rfl (List.mem_of_getElem? (i := 1) rfl) dX8_rule_77 ?_
                  refine zg0_size S in_X8_rule_0 hK hP 1 rfl (List.mem_of_getElem? (i := 2) rfl) (v := t63.2.2.2.2.2.2.2) (gg0_size _ t63.2.2.2.2.2.2.2) dX8_rule_80 ?_
                  refine lv_iconst (v := 1) hx hb dX8_rule_83 (by decide) ?_
                  refine lv_isub hx hb dX8_rule_84 ?_
                  exact hret _ _ _ _ _ _ (by subst hE; rfl) rfl hP hS dX8_rule_85
                · have hE := hE.trans (if_pos c66)
                  refine lv_bipush (v := (-3)) hx hb dX8_rule_69 (by decide) ?_
                  rw [show brc = (s8_isSettled brc (g8_isSettled brc)) from ((se8_isSettled _).symm)] at hP hD
                  exact hret _ _ _ _ _ _ (by subst hE; rfl) rfl hP hS dX8_rule_71
              refine lv_if_ne (tgt := 52) hx hb dX8_rule_42 (by decide) (fun c42 => ?_) (fun c42 => ?_)
              · have hE := hE.trans (if_neg c42)
                exact hB52 _ _ _ hE hP hD hS (lv_sub hl [0, 1, 2, 3, 4, 5] rfl)
              · have hE := hE.trans (if_pos c42)
                refine lv_iload hx hb dX8_rule_45 (lv_at hl 4 rfl) ?_
                refine lv_if_eq (tgt := 52) hx hb dX8_rule_47 (by decide) (fun c47 => ?_) (fun c47 => ?_)
                · have hE := hE.trans (if_pos c47)
                  exact hB52 _ _ _ hE hP hD hS (lv_sub hl [0, 1, 2, 3, 4, 5] rfl)
                · have hE := hE.trans (if_neg c47)
                  refine lv_iconst (v := (-1)) hx hb dX8_rule_50 (by decide) ?_
                  rw [show brc = (s8_isSettled brc (g8_isSettled brc)) from ((se8_isSettled _).symm)] at hP hD
                  rw [show bc = (s0_size (s0_beats (s0_power (s0_excepts (s0_body (s0_head (s0_kind bc (g0_kind bc)) (g0_head bc)) (g0_body bc)) (g0_excepts bc)) (g0_power bc)) (g0_beats bc)) (g0_size bc)) from ((((((((se0_kind _).symm).trans (((se0_head _).symm).trans (congrArg (fun v => s0_head (s0_kind bc (g0_kind bc)) v) (gs0_head_kind _ (g0_kind bc))))).trans (((se0_body _).symm).trans (congrArg (fun v => s0_body (s0_head (s0_kind bc (g0_kind bc)) (g0_head bc)) v) ((gs0_body_head _ (g0_head bc)).trans (gs0_body_kind _ (g0_kind bc)))))).trans (((se0_excepts _).symm).trans (congrArg (fun v => s0_excepts (s0_body (s0_head (s0_kind bc (g0_kind bc)) (g0_head bc)) (g0_body bc)) v) ((gs0_excepts_body _ (g0_body bc)).trans ((gs0_excepts_head _ (g0_head bc)).trans (gs0_excepts_kind _ (g0_kind bc))))))).trans (((se0_power _).symm).trans (congrArg (fun v => s0_power (s0_excepts (s0_body (s0_head (s0_kind bc (g0_kind bc)) (g0_head bc)) (g0_body bc)) (g0_excepts bc)) v) ((gs0_power_excepts _ (g0_excepts bc)).trans ((gs0_power_body _ (g0_body bc)).trans ((gs0_power_head _ (g0_head bc)).trans (gs0_power_kind _ (g0_kind bc)))))))).trans (((se0_beats _).symm).trans (congrArg (fun v => s0_beats (s0_power (s0_excepts (s0_body (s0_head (s0_kind bc (g0_kind bc)) (g0_head bc)) (g0_body bc)) (g0_excepts bc)) (g0_power bc)) v) ((gs0_beats_power _ (g0_power bc)).trans ((gs0_beats_excepts _ (g0_excepts bc)).trans ((gs0_beats_body _ (g0_body bc)).trans ((gs0_beats_head _ (g0_head bc)).trans (gs0_beats_kind _ (g0_kind bc))))))))).trans (((se0_size _).symm).trans (congrArg (fun v => s0_size (s0_beats (s0_power (s0_excepts (s0_body (s0_head (s0_kind bc (g0_kind bc)) (g0_head bc)) (g0_body bc)) (g0_excepts bc)) (g0_power bc)) (g0_beats bc)) v) ((gs0_size_beats _ (g0_beats bc)).trans ((gs0_size_power _ (g0_power bc)).trans ((gs0_size_excepts _ (g0_excepts bc)).trans ((gs0_size_body _ (g0_body bc)).trans ((gs0_size_head _ (g0_head bc)).trans (gs0_size_kind _ (g0_kind bc))))))))))] at hP hD
                  exact hret _ _ _ _ _ _ (by subst hE; rfl) rfl hP hS dX8_rule_51
        · have hE := hE.trans (if_pos c21)
          refine lv_iconst (v := (-1)) hx hb dX8_rule_24 (by decide) ?_
          rw [show brc = (s8_isSettled brc (g8_isSettled brc)) from ((se8_isSettled _).symm)] at hP hD
          rw [show bc = (s0_size (s0_beats (s0_power (s0_excepts (s0_body (s0_head (s0_kind bc (g0_kind bc)) (g0_head bc)) (g0_body bc)) (g0_excepts bc)) (g0_power bc)) (g0_beats bc)) (g0_size bc)) from ((((((((se0_kind _).symm).trans (((se0_head _).symm).trans (congrArg (fun v => s0_head (s0_kind bc (g0_kind bc)) v) (gs0_head_kind _ (g0_kind bc))))).trans (((se0_body _).symm).trans (congrArg (fun v => s0_body (s0_head (s0_kind bc (g0_kind bc)) (g0_head bc)) v) ((gs0_body_head _ (g0_head bc)).trans (gs0_body_kind _ (g0_kind bc)))))).trans (((se0_excepts _).symm).trans (congrArg (fun v => s0_excepts (s0_body (s0_head (s0_kind bc (g0_kind bc)) (g0_head bc)) (g0_body bc)) v) ((gs0_excepts_body _ (g0_body bc)).trans ((gs0_excepts_head _ (g0_head bc)).trans (gs0_excepts_kind _ (g0_kind bc))))))).trans (((se0_power _).symm).trans (congrArg (fun v => s0_power (s0_excepts (s0_body (s0_head (s0_kind bc (g0_kind bc)) (g0_head bc)) (g0_body bc)) (g0_excepts bc)) v) ((gs0_power_excepts _ (g0_excepts bc)).trans ((gs0_power_body _ (g0_body bc)).trans ((gs0_power_head _ (g0_head bc)).trans (gs0_power_kind _ (g0_kind bc)))))))).trans (((se0_beats _).symm).trans (congrArg (fun v => s0_beats (s0_power (s0_excepts (s0_body (s0_head (s0_kind bc (g0_kind bc)) (g0_head bc)) (g0_body bc)) (g0_excepts bc)) (g0_power bc)) v) ((gs0_beats_power _ (g0_power bc)).trans ((gs0_beats_excepts _ (g0_excepts bc)).trans ((gs0_beats_body _ (g0_body bc)).trans ((gs0_beats_head _ (g0_head bc)).trans (gs0_beats_kind _ (g0_kind bc))))))))).trans (((se0_size _).symm).trans (congrArg (fun v => s0_size (s0_beats (s0_power (s0_excepts (s0_body (s0_head (s0_kind bc (g0_kind bc)) (g0_head bc)) (g0_body bc)) (g0_excepts bc)) (g0_power bc)) (g0_beats bc)) v) ((gs0_size_beats _ (g0_beats bc)).trans ((gs0_size_power _ (g0_power bc)).trans ((gs0_size_excepts _ (g0_excepts bc)).trans ((gs0_size_body _ (g0_body bc)).trans ((gs0_size_head _ (g0_head bc)).trans (gs0_size_kind _ (g0_kind bc))))))))))] at hP hD
          exact hret _ _ _ _ _ _ (by subst hE; rfl) rfl hP hS dX8_rule_25

theorem in_X8_off_0 : ∀ w ∈ u_ws RX0 TX0 9, w ∈ wsX8_off := by decide +kernel
theorem in_X8_off_8 : ∀ w ∈ u_ws RX8 TX8 12, w ∈ wsX8_off := by decide +kernel
def rmX8_off : Room := { frames := 4, cells := 0, slots := 0, locals := 102 }
set_option maxHeartbeats 4000000 in
set_option maxRecDepth 100000 in
theorem c_X8_off (l : Launch) (G : zG) (arc : Nat → Nat) (ac : Nat → Nat) (ahi : Nat → Nat) (aik : Nat → Nat → Nat) (orc_rounds : Nat) (orc_thought : Nat) (orc_thoughtRounds : Nat) (orc_chain : Nat) (orc_kept : Nat) (orc_words : Nat) (orc_sheet : Nat) (orc_rows : Nat) (brc : S8) (bc : S0) (sg : Nat → Nat) (y : Nat → S0) (D : Nat) (un : Int32) (x1 : Int32) (x2 : Int32) (hz_c_size : ∃ N : Nat, N ≤ 16 ∧ g0_size bc = nI N) (hs_hi_sg : ∀ j : Nat, j < 13 → sg j < 13) (hd_hi_D : D ≤ 12) (T : Int32 × (Int32) × (Int32) × (Nat → Nat) × (Nat → S0) × (Nat) × (Int32)) (hT : FX8_off (g8_isSettled brc) (g0_kind bc) (g0_head bc) (g0_body bc) (g0_excepts bc) (g0_power bc) (g0_beats bc) (g0_facts bc) (g0_size bc) (g0_shut bc) sg y D un x1 x2 = T) : zI l yX8_off wsX8_off rmX8_off .int G [.ref (arc 0), .int x1, .int x2] (w8 G arc (ac 0) orc_rounds orc_thought orc_thoughtRounds orc_chain (ahi 0) orc_kept orc_words orc_sheet orc_rows brc :: w0 G ac bc :: w1 G ahi aik sg (nI D) un :: hcs G aik y) T.1 (w8 G arc (ac 0) orc_rounds orc_thought orc_thoughtRounds orc_chain (ahi 0) orc_kept orc_words orc_sheet orc_rows (s8_isSettled brc T.2.1) :: w0 G ac (s0_shut bc T.2.2.1) :: w1 G ahi aik T.2.2.2.1 (nI T.2.2.2.2.2.1) T.2.2.2.2.2.2 :: hcs G aik T.2.2.2.2.1) := by
  refine zI.mk (cc := cX8_off) (maxL := 4) (by decide +kernel) rfl (Nat.le_of_ble_eq_true rfl) (zfl_cons (wf8 _ _ _ _ _ _ _ _ _ _ _ _ _ _) (zfl_cons (wf0 _ _ _ _) (zfl_cons rfl (hcs_fst0 _ _ _ _)))) ?_
  intro p e s m args below meth c Q A ls S hK hD hA hP hl hret
  have hx := S.1
  have hb := S.2.1
  have hS : va_S A s.heap s.heap [] := va_S.rf
  have hl : lv_has ls 4 [(0, .ref (arc 0)), (1, .int x1), (2, .int x2)] := hl
  have hE := hT.symm.trans (FX8_off.eq_1 _ _ _ _ _ _ _ _ _ _ _ _ _ _ _ _)
  refine lv_aload_n hx hb dX8_off_0 rfl (lv_at hl 0 rfl) ?_
  refine zg8_court S in_X8_off_8 hK hP 0 rfl (List.mem_of_getElem? (i := 1) rfl) dX8_off_1 ?_
  refine lv_iload_n hx hb dX8_off_4 rfl (lv_at hl 1 rfl) ?_
  obtain ⟨t5, ht5⟩ : ∃ z, FX0_hasRule (g0_size bc) x1 = z := ⟨_, rfl⟩
  have hE := hE.trans (bnd_eq ht5)
  have hc := c_X0_hasRule l G ac bc x1 _ ht5
  refine zgoR (va_runV (As := [.int x1]) (rest := []) S (hc _) (cwV 1 S.2.2.2.2 gX8_off_X0_hasRule rfl rfl rfl (by decide +kernel) ⟨Nat.le_of_ble_eq_true rfl, Nat.le_of_ble_eq_true rfl⟩) (zpV hK hP hD (is := [1]) rfl rfl 1 rfl rfl (ci := 0) rfl) rfl rfl hl.1 rfl (lv_room (Nat.le_of_ble_eq_true rfl)) dX8_off_5 ⟨Nat.zero_le _, Nat.zero_le _⟩) (fun hn5 => ?_)
  refine lv_if_eq (tgt := 18) hx hb dX8_off_8 (by decide) (fun c8 => ?_) (fun c8 => ?_)
  · have hE := hE.trans (if_pos c8)
    refine lv_iconst (v := (-1)) hx hb dX8_off_18 (by decide) ?_
    rw [show brc = (s8_isSettled brc (g8_isSettled brc)) from ((se8_isSettled _).symm)] at hP hD
    rw [show bc = (s0_shut bc (g0_shut bc)) from ((se0_shut _).symm)] at hP hD
    exact hret _ _ _ _ _ _ (by subst hE; rfl) rfl hP hS dX8_off_19
  · have hE := hE.trans (if_neg c8)
    have hx1_16 : vp_in x1 16 := zhasRule hz_c_size (by rw [ht5]; exact c8)
    refine lv_iload_n hx hb dX8_off_11 rfl (lv_at hl 2 rfl) ?_
    obtain ⟨t12, ht12⟩ : ∃ z, FX8_isYesOrNo x2 = z := ⟨_, rfl⟩
    have hE := hE.trans (bnd_eq ht12)
    have hc := c_X8_isYesOrNo l G x2 _ ht12
    refine zgoR (va_runS (As := [.int x2]) (rest := []) S (hc _) (va_cwS 1 S.2.2.2.2 gX8_off_X8_isYesOrNo rfl rfl rfl (by decide +kernel) ⟨Nat.le_of_ble_eq_true rfl, Nat.le_of_ble_eq_true rfl⟩) (zpS hK hP hD (is := []) rfl rfl) rfl rfl hl.1 rfl (lv_room (Nat.le_of_ble_eq_true rfl)) dX8_off_12 ⟨Nat.zero_le _, Nat.zero_le _⟩) (fun hn12 => ?_)
    refine lv_if_ne (tgt := 20) hx hb dX8_off_15 (by decide) (fun c15 => ?_) (fun c15 => ?_)
    · have hE := hE.trans (if_neg c15)
      refine lv_aload_n hx hb dX8_off_20 rfl (lv_at hl 0 rfl) ?_
      refine zg8_court S in_X8_off_8 hK hP 0 rfl (List.mem_of_getElem? (i := 1) rfl) dX8_off_21 ?_
      refine zg0_shut S in_X8_off_0 hK hP 1 rfl (List.mem_of_getElem? (i := 2) rfl) (v := (g0_shut bc)) rfl dX8_off_24 ?_
      refine lv_iload_n hx hb dX8_off_27 rfl (lv_at hl 1 rfl) ?_
      obtain ⟨t28, ht28⟩ : ∃ z, FX8_bit (g0_shut bc) x1 = z := ⟨_, rfl⟩
      have hE := hE.trans (bnd_eq ht28)
      have hc := c_X8_bit l G (g0_shut bc) x1 _ ht28
      refine zgoR (va_runS (As := [.int (g0_shut bc), .int x1]) (rest := []) S (hc _) (va_cwS 2 S.2.2.2.2 gX8_off_X8_bit rfl rfl rfl (by decide +kernel) ⟨Nat.le_of_ble_eq_true rfl, Nat.le_of_ble_eq_true rfl⟩) (zpS hK hP hD (is := []) rfl rfl) rfl rfl hl.1 rfl (lv_room (Nat.le_of_ble_eq_true rfl)) dX8_off_28 ⟨Nat.zero_le _, Nat.zero_le _⟩) (fun hn28 => ?_)
      refine lv_istore_n (lv' := [(3, .int t28), (0, .ref (arc 0)), (1, .int x1), (2, .int x2)]) hx hb dX8_off_31 rfl hl (by decide) rfl (fun ls hl => ?_)
      refine lv_aload_n hx hb dX8_off_32 rfl (lv_at hl 1 rfl) ?_
      refine zg8_court S in_X8_off_8 hK hP 0 rfl (List.mem_of_getElem? (i := 1) rfl) dX8_off_33 ?_
      refine lv_aload_n hx hb dX8_off_36 rfl (lv_at hl 1 rfl) ?_
      refine zg8_court S in_X8_off_8 hK hP 0 rfl (List.mem_of_getElem? (i := 1) rfl) dX8_off_37 ?_
      refine zg0_shut S in_X8_off_0 hK hP 1 rfl (List.mem_of_getElem? (i := 2) rfl) (v := (g0_shut bc)) rfl dX8_off_40 ?_
      refine lv_iload_n hx hb dX8_off_43 rfl (lv_at hl 2 rfl) ?_
      refine lv_iload_n hx hb dX8_off_44 rfl (lv_at hl 3 rfl) ?_
      obtain ⟨t45, ht45⟩ : ∃ z, FX8_withBit (g0_shut bc) x1 x2 = z := ⟨_, rfl⟩
      have hE := hE.trans (bnd_eq ht45)
      have hc := c_X8_withBit l G (g0_shut bc) x1 x2 _ ht45
      refine zgoR (va_runS (As := [.int (g0_shut bc), .int x1, .int x2]) (rest := [.ref (ac 0)]) S (hc _) (va_cwS 3 S.2.2.2.2 gX8_off_X8_withBit rfl rfl rfl (by decide +kernel) ⟨Nat.le_of_ble_eq_true rfl, Nat.le_of_ble_eq_true rfl⟩) (zpS hK hP hD (is := []) rfl rfl) rfl rfl hl.1 rfl (lv_room (Nat.le_of_ble_eq_true rfl)) dX8_off_45 ⟨Nat.zero_le _, Nat.zero_le _⟩) (fun hn45 => ?_)
      refine zp0_shut (bs1 := (w8 G arc (ac 0) orc_rounds orc_thought orc_thoughtRounds orc_chain (ahi 0) orc_kept orc_words orc_sheet orc_rows brc :: w0 G ac (s0_shut bc t45) :: w1 G ahi aik sg (nI D) un :: hcs G aik y)) S in_X8_off_0 hK hP hD hS 1 rfl (List.mem_of_getElem? (i := 2) rfl) dX8_off_48 rfl (fun H locs hP hD hS => ?_)
      refine lv_aload_n hx hb dX8_off_51 rfl (lv_at hl 1 rfl) ?_
      obtain ⟨t52, ht52⟩ : ∃ z, FX8_changed (g8_isSettled brc) (g0_kind bc) (g0_head bc) (g0_body bc) (g0_excepts bc) (g0_power bc) (g0_beats bc) (g0_facts bc) (g0_size bc) t45 sg y D un = z := ⟨_, rfl⟩
      have hE := hE.trans (bnd_eq ht52)
      have hc := c_X8_changed l G arc ac ahi aik orc_rounds orc_thought orc_thoughtRounds orc_chain orc_kept orc_words orc_sheet orc_rows brc (s0_shut bc t45) sg y D un (hs_hi_sg) (hd_hi_D) _ (by simp only [gs0_kind_shut, gs0_head_shut, gs0_body_shut, gs0_excepts_shut, gs0_power_shut, gs0_beats_shut, gs0_facts_shut, gs0_size_shut, gg0_shut]; exact ht52)
      refine zgoV (bs' := (w8 G arc (ac 0) orc_rounds orc_thought orc_thoughtRounds orc_chain (ahi 0) orc_kept orc_words orc_sheet orc_rows (s8_isSettled brc t52.1) :: w0 G ac (s0_shut bc t45) :: w1 G ahi aik t52.2.1 (nI t52.2.2.2.1) t52.2.2.2.2 :: hcs G aik t52.2.2.1)) hc [0, 1, 2, 3, 4, 5, 6, 7, 8, 9, 10, 11, 12, 13, 14, 15] rfl rfl rfl hP hD hS hA (va_runV (As := []) (rest := []) S (hc.2 _) (cwV 0 S.2.2.2.2 gX8_off_X8_changed rfl rfl rfl (by decide +kernel) ⟨Nat.le_of_ble_eq_true rfl, Nat.le_of_ble_eq_true rfl⟩) (zpV hK hP hD (is := [0, 1, 2, 3, 4, 5, 6, 7, 8, 9, 10, 11, 12, 13, 14, 15]) rfl rfl 0 rfl rfl (ci := 8) rfl) rfl rfl hl.1 rfl (lv_room (Nat.le_of_ble_eq_true rfl)) dX8_off_52 ⟨Nat.zero_le _, Nat.zero_le _⟩) (fun H locs hP hD hS => ?_)
      have hs_hi_sg_52 : ∀ j : Nat, j < 13 → t52.2.1 j < 13 := by rw [← ht52]; exact zkS_lt hs_hi_sg
      have hd_hi_D_52 : t52.2.2.2.1 ≤ 12 := by rw [← ht52]; exact zkD_le hd_hi_D
      refine lv_iload_n hx hb dX8_off_55 rfl (lv_at hl 0 rfl) ?_
      exact hret _ _ _ _ _ _ (by subst hE; rfl) rfl hP hS dX8_off_56
    · have hE := hE.trans (if_pos c15)
      refine lv_iconst (v := (-1)) hx hb dX8_off_18 (by decide) ?_
      rw [show brc = (s8_isSettled brc (g8_isSettled brc)) from ((se8_isSettled _).symm)] at hP hD
      rw [show bc = (s0_shut bc (g0_shut bc)) from ((se0_shut _).symm)] at hP hD
      exact hret _ _ _ _ _ _ (by subst hE; rfl) rfl hP hS dX8_off_19

theorem in_X8_over_0 : ∀ w ∈ u_ws RX0 TX0 9, w ∈ wsX8_over := by decide +kernel
theorem in_X8_over_8 : ∀ w ∈ u_ws RX8 TX8 12, w ∈ wsX8_over := by decide +kernel
def rmX8_over : Room := { frames := 4, cells := 0, slots := 0, locals := 102 }
set_option maxHeartbeats 4000000 in
set_option maxRecDepth 100000 in
theorem c_X8_over (l : Launch) (G : zG) (arc : Nat → Nat) (ac : Nat → Nat) (ahi : Nat → Nat) (aik : Nat → Nat → Nat) (orc_rounds : Nat) (orc_thought : Nat) (orc_thoughtRounds : Nat) (orc_chain : Nat) (orc_kept : Nat) (orc_words : Nat) (orc_sheet : Nat) (orc_rows : Nat) (brc : S8) (bc : S0) (sg : Nat → Nat) (y : Nat → S0) (D : Nat) (un : Int32) (x1 : Int32) (x2 : Int32) (x3 : Int32) (hz_c_size : ∃ N : Nat, N ≤ 16 ∧ g0_size bc = nI N) (hs_hi_sg : ∀ j : Nat, j < 13 → sg j < 13) (hd_hi_D : D ≤ 12) (T : Int32 × (Int32) × (Nat → Int32) × (Nat → Nat) × (Nat → S0) × (Nat) × (Int32)) (hT : FX8_over (g8_isSettled brc) (g0_kind bc) (g0_head bc) (g0_body bc) (g0_excepts bc) (g0_power bc) (g0_beats bc) (g0_facts bc) (g0_size bc) (g0_shut bc) sg y D un x1 x2 x3 = T) : zI l yX8_over wsX8_over rmX8_over .int G [.ref (arc 0), .int x1, .int x2, .int x3] (w8 G arc (ac 0) orc_rounds orc_thought orc_thoughtRounds orc_chain (ahi 0) orc_kept orc_words orc_sheet orc_rows brc :: w0 G ac bc :: w1 G ahi aik sg (nI D) un :: hcs G aik y) T.1 (w8 G arc (ac 0) orc_rounds orc_thought orc_thoughtRounds orc_chain (ahi 0) orc_kept orc_words orc_sheet orc_rows (s8_isSettled brc T.2.1) :: w0 G ac (s0_beats bc T.2.2.1) :: w1 G ahi aik T.2.2.2.1 (nI T.2.2.2.2.2.1) T.2.2.2.2.2.2 :: hcs G aik T.2.2.2.2.1) := by
  refine zI.mk (cc := cX8_over) (maxL := 5) (by decide +kernel) rfl (Nat.le_of_ble_eq_true rfl) (zfl_cons (wf8 _ _ _ _ _ _ _ _ _ _ _ _ _ _) (zfl_cons (wf0 _ _ _ _) (zfl_cons rfl (hcs_fst0 _ _ _ _)))) ?_
  intro p e s m args below meth c Q A ls S hK hD hA hP hl hret
  have hx := S.1
  have hb := S.2.1
  have hS : va_S A s.heap s.heap [] := va_S.rf
  have hl : lv_has ls 5 [(0, .ref (arc 0)), (1, .int x1), (2, .int x2), (3, .int x3)] := hl
  have hE := hT.symm.trans (FX8_over.eq_1 _ _ _ _ _ _ _ _ _ _ _ _ _ _ _ _ _)
  refine lv_aload_n hx hb dX8_over_0 rfl (lv_at hl 0 rfl) ?_
  refine zg8_court S in_X8_over_8 hK hP 0 rfl (List.mem_of_getElem? (i := 1) rfl) dX8_over_1 ?_
  refine lv_iload_n hx hb dX8_over_4 rfl (lv_at hl 1 rfl) ?_
  obtain ⟨t5, ht5⟩ : ∃ z, FX0_hasRule (g0_size bc) x1 = z := ⟨_, rfl⟩
  have hE := hE.trans (bnd_eq ht5)
  have hc := c_X0_hasRule l G ac bc x1 _ ht5
  refine zgoR (va_runV (As := [.int x1]) (rest := []) S (hc _) (cwV 1 S.2.2.2.2 gX8_over_X0_hasRule rfl rfl rfl (by decide +kernel) ⟨Nat.le_of_ble_eq_true rfl, Nat.le_of_ble_eq_true rfl⟩) (zpV hK hP hD (is := [1]) rfl rfl 1 rfl rfl (ci := 0) rfl) rfl rfl hl.1 rfl (lv_room (Nat.le_of_ble_eq_true rfl)) dX8_over_5 ⟨Nat.zero_le _, Nat.zero_le _⟩) (fun hn5 => ?_)
  refine lv_if_eq (tgt := 34) hx hb dX8_over_8 (by decide) (fun c8 => ?_) (fun c8 => ?_)
  · have hE := hE.trans (if_pos c8)
    refine lv_iconst (v := (-1)) hx hb dX8_over_34 (by decide) ?_
    rw [show brc = (s8_isSettled brc (g8_isSettled brc)) from ((se8_isSettled _).symm)] at hP hD
    rw [show bc = (s0_beats bc (g0_beats bc)) from ((se0_beats _).symm)] at hP hD
    exact hret _ _ _ _ _ _ (by subst hE; rfl) rfl hP hS dX8_over_35
  · have hE := hE.trans (if_neg c8)
    have hx1_16 : vp_in x1 16 := zhasRule hz_c_size (by rw [ht5]; exact c8)
    refine lv_aload_n hx hb dX8_over_11 rfl (lv_at hl 0 rfl) ?_
    refine zg8_court S in_X8_over_8 hK hP 0 rfl (List.mem_of_getElem? (i := 1) rfl) dX8_over_12 ?_
    refine lv_iload_n hx hb dX8_over_15 rfl (lv_at hl 2 rfl) ?_
    obtain ⟨t16, ht16⟩ : ∃ z, FX0_hasRule (g0_size bc) x2 = z := ⟨_, rfl⟩
    have hE := hE.trans (bnd_eq ht16)
    have hc := c_X0_hasRule l G ac bc x2 _ ht16
    refine zgoR (va_runV (As := [.int x2]) (rest := []) S (hc _) (cwV 1 S.2.2.2.2 gX8_over_X0_hasRule rfl rfl rfl (by decide +kernel) ⟨Nat.le_of_ble_eq_true rfl, Nat.le_of_ble_eq_true rfl⟩) (zpV hK hP hD (is := [1]) rfl rfl 1 rfl rfl (ci := 0) rfl) rfl rfl hl.1 rfl (lv_room (Nat.le_of_ble_eq_true rfl)) dX8_over_16 ⟨Nat.zero_le _, Nat.zero_le _⟩) (fun hn16 => ?_)
    refine lv_if_eq (tgt := 34) hx hb dX8_over_19 (by decide) (fun c19 => ?_) (fun c19 => ?_)
    · have hE := hE.trans (if_pos c19)
      refine lv_iconst (v := (-1)) hx hb dX8_over_34 (by decide) ?_
      rw [show brc = (s8_isSettled brc (g8_isSettled brc)) from ((se8_isSettled _).symm)] at hP hD
      rw [show bc = (s0_beats bc (g0_beats bc)) from ((se0_beats _).symm)] at hP hD
      exact hret _ _ _ _ _ _ (by subst hE; rfl) rfl hP hS dX8_over_35
    · have hE := hE.trans (if_neg c19)
      have hx2_16 : vp_in x2 16 := zhasRule hz_c_size (by rw [ht16]; exact c19)
      refine lv_iload_n hx hb dX8_over_22 rfl (lv_at hl 1 rfl) ?_
      refine lv_iload_n hx hb dX8_over_23 rfl (lv_at hl 2 rfl) ?_
      refine lv_icmp_eq (tgt := 34) hx hb dX8_over_24 (by decide) (fun c24 => ?_) (fun c24 => ?_)
      · have hE := hE.trans (if_pos c24)
        refine lv_iconst (v := (-1)) hx hb dX8_over_34 (by decide) ?_
        rw [show brc = (s8_isSettled brc (g8_isSettled brc)) from ((se8_isSettled _).symm)] at hP hD
        rw [show bc = (s0_beats bc (g0_beats bc)) from ((se0_beats _).symm)] at hP hD
        exact hret _ _ _ _ _ _ (by subst hE; rfl) rfl hP hS dX8_over_35
      · have hE := hE.trans (if_neg c24)
        refine lv_iload_n hx hb dX8_over_27 rfl (lv_at hl 3 rfl) ?_
        obtain ⟨t28, ht28⟩ : ∃ z, FX8_isYesOrNo x3 = z := ⟨_, rfl⟩
        have hE := hE.trans (bnd_eq ht28)
        have hc := c_X8_isYesOrNo l G x3 _ ht28
        refine zgoR (va_runS (As := [.int x3]) (rest := []) S (hc _) (va_cwS 1 S.2.2.2.2 gX8_over_X8_isYesOrNo rfl rfl rfl (by decide +kernel) ⟨Nat.le_of_ble_eq_true rfl, Nat.le_of_ble_eq_true rfl⟩) (zpS hK hP hD (is := []) rfl rfl) rfl rfl hl.1 rfl (lv_room (Nat.le_of_ble_eq_true rfl)) dX8_over_28 ⟨Nat.zero_le _, Nat.zero_le _⟩) (fun hn28 => ?_)
        refine lv_if_ne (tgt := 36) hx hb dX8_over_31 (by decide) (fun c31 => ?_) (fun c31 => ?_)
        · have hE := hE.trans (if_neg c31)
          refine lv_iload_n hx hb dX8_over_36 rfl (lv_at hl 3 rfl) ?_
          refine lv_iconst (v := 1) hx hb dX8_over_37 (by decide) ?_
          have hB60 : ∀ (H : Heap) (locs : List Loc) (ls : Array Slot), T = FX8_over_60 (g8_isSettled brc) (g0_kind bc) (g0_head bc) (g0_body bc) (g0_excepts bc) (g0_power bc) (g0_beats bc) (g0_facts bc) (g0_size bc) (g0_shut bc) sg y D un x1 x2 x3 (g8_isSettled brc) (g0_beats bc) sg y D un → zP G (w8 G arc (ac 0) orc_rounds orc_thought orc_thoughtRounds orc_chain (ahi 0) orc_kept orc_words orc_sheet orc_rows brc :: w0 G ac bc :: w1 G ahi aik sg (nI D) un :: hcs G aik y) H → zD A (w8 G arc (ac 0) orc_rounds orc_thought orc_thoughtRounds orc_chain (ahi 0) orc_kept orc_words orc_sheet orc_rows brc :: w0 G ac bc :: w1 G ahi aik sg (nI D) un :: hcs G aik y) → va_S A s.heap H locs → lv_has ls 5 [(0, .ref (arc 0)), (1, .int x1), (2, .int x2), (3, .int x3)] → W p l e rmX8_over s m args below meth c H locs 0 0 Q (F0 m 60 ls []) := by
            intro H locs ls hE hP hD hS hl
            have hE := hE.trans (FX8_over_60.eq_1 _ _ _ _ _ _ _ _ _ _ _ _ _ _ _ _ _ _ _ _ _ _ _)
            refine lv_aload_n hx hb dX8_over_60 rfl (lv_at hl 0 rfl) ?_
            refine zg8_court S in_X8_over_8 hK hP 0 rfl (List.mem_of_getElem? (i := 1) rfl) dX8_over_61 ?_
            refine zg0_beats S in_X8_over_0 hK hP 1 rfl (List.mem_of_getElem? (i := 2) rfl) dX8_over_64 ?_
            refine lv_iload_n hx hb dX8_over_67 rfl (lv_at hl 1 rfl) ?_
            refine zl0_beats S hK hP 1 rfl hx1_16 (f := (g0_beats bc)) rfl dX8_over_68 ?_
            refine lv_iload_n hx hb dX8_over_69 rfl (lv_at hl 2 rfl) ?_
            obtain ⟨t70, ht70⟩ : ∃ z, FX8_bit ((g0_beats bc) x1.toNatClampNeg) x2 = z := ⟨_, rfl⟩
            have hE := hE.trans (bnd_eq ht70)
            have hc := c_X8_bit l G ((g0_beats bc) x1.toNatClampNeg) x2 _ ht70
            refine zgoR (va_runS (As := [.int ((g0_beats bc) x1.toNatClampNeg), .int x2]) (rest := []) S (hc _) (va_cwS 2 S.2.2.2.2 gX8_over_X8_bit rfl rfl rfl (by decide +kernel) ⟨Nat.le_of_ble_eq_true rfl, Nat.le_of_ble_eq_true rfl⟩) (zpS hK hP hD (is := []) rfl rfl) rfl rfl hl.1 rfl (lv_room (Nat.le_of_ble_eq_true rfl)) dX8_over_70 ⟨Nat.zero_le _, Nat.zero_le _⟩) (fun hn70 => ?_)
            refine lv_istore (lv' := [(4, .int t70), (0, .ref (arc 0)), (1, .int x1), (2, .int x2), (3, .int x3)]) hx hb dX8_over_73 hl (by decide) rfl (fun ls hl => ?_)
            refine lv_aload_n hx hb dX8_over_75 rfl (lv_at hl 1 rfl) ?_
            refine zg8_court S in_X8_over_8 hK hP 0 rfl (List.mem_of_getElem? (i := 1) rfl) dX8_over_76 ?_
            refine zg0_beats S in_X8_over_0 hK hP 1 rfl (List.mem_of_getElem? (i := 2) rfl) dX8_over_79 ?_
            refine lv_iload_n hx hb dX8_over_82 rfl (lv_at hl 2 rfl) ?_
            refine lv_aload_n hx hb dX8_over_83 rfl (lv_at hl 1 rfl) ?_
            refine zg8_court S in_X8_over_8 hK hP 0 rfl (List.mem_of_getElem? (i := 1) rfl) dX8_over_84 ?_
            refine zg0_beats S in_X8_over_0 hK hP 1 rfl (List.mem_of_getElem? (i := 2) rfl) dX8_over_87 ?_
            refine lv_iload_n hx hb dX8_over_90 rfl (lv_at hl 2 rfl) ?_
            refine zl0_beats S hK hP 1 rfl hx1_16 (f := (g0_beats bc)) rfl dX8_over_91 ?_
            refine lv_iload_n hx hb dX8_over_92 rfl (lv_at hl 3 rfl) ?_
            refine lv_iload_n hx hb dX8_over_93 rfl (lv_at hl 4 rfl) ?_
            obtain ⟨t94, ht94⟩ : ∃ z, FX8_withBit ((g0_beats bc) x1.toNatClampNeg) x2 x3 = z := ⟨_, rfl⟩
            have hE := hE.trans (bnd_eq ht94)
            have hc := c_X8_withBit l G ((g0_beats bc) x1.toNatClampNeg) x2 x3 _ ht94
            refine zgoR (va_runS (As := [.int ((g0_beats bc) x1.toNatClampNeg), .int x2, .int x3]) (rest := [.int x1, .ref (ac 6)]) S (hc _) (va_cwS 3 S.2.2.2.2 gX8_over_X8_withBit rfl rfl rfl (by decide +kernel) ⟨Nat.le_of_ble_eq_true rfl, Nat.le_of_ble_eq_true rfl⟩) (zpS hK hP hD (is := []) rfl rfl) rfl rfl hl.1 rfl (lv_room (Nat.le_of_ble_eq_true rfl)) dX8_over_94 ⟨Nat.zero_le _, Nat.zero_le _⟩) (fun hn94 => ?_)
            refine zs0_beats (bs1 := (w8 G arc (ac 0) orc_rounds orc_thought orc_thoughtRounds orc_chain (ahi 0) orc_kept orc_words orc_sheet orc_rows brc :: w0 G ac (s0_beats bc (upd (g0_beats bc) x1.toNatClampNeg t94)) :: w1 G ahi aik sg (nI D) un :: hcs G aik y)) S hK hP hD hS 1 rfl hx1_16 (f := (g0_beats bc)) rfl dX8_over_97 rfl (fun H locs hP hD hS => ?_)
            refine lv_aload_n hx hb dX8_over_98 rfl (lv_at hl 1 rfl) ?_
            obtain ⟨t99, ht99⟩ : ∃ z, FX8_changed (g8_isSettled brc) (g0_kind bc) (g0_head bc) (g0_body bc) (g0_excepts bc) (g0_power bc) (upd (g0_beats bc) x1.toNatClampNeg t94) (g0_facts bc) (g0_size bc) (g0_shut bc) sg y D un = z := ⟨_, rfl⟩
            have hE := hE.trans (bnd_eq ht99)
            have hc := c_X8_changed l G arc ac ahi aik orc_rounds orc_thought orc_thoughtRounds orc_chain orc_kept orc_words orc_sheet orc_rows brc (s0_beats bc (upd (g0_beats bc) x1.toNatClampNeg t94)) sg y D un (hs_hi_sg) (hd_hi_D) _ (by simp only [gs0_kind_beats, gs0_head_beats, gs0_body_beats, gs0_excepts_beats, gs0_power_beats, gg0_beats, gs0_facts_beats, gs0_size_beats, gs0_shut_beats]; exact ht99)
            refine zgoV (bs' := (w8 G arc (ac 0) orc_rounds orc_thought orc_thoughtRounds orc_chain (ahi 0) orc_kept orc_words orc_sheet orc_rows (s8_isSettled brc t99.1) :: w0 G ac (s0_beats bc (upd (g0_beats bc) x1.toNatClampNeg t94)) :: w1 G ahi aik t99.2.1 (nI t99.2.2.2.1) t99.2.2.2.2 :: hcs G aik t99.2.2.1)) hc [0, 1, 2, 3, 4, 5, 6, 7, 8, 9, 10, 11, 12, 13, 14, 15] rfl rfl rfl hP hD hS hA (va_runV (As := []) (rest := []) S (hc.2 _) (cwV 0 S.2.2.2.2 gX8_over_X8_changed rfl rfl rfl (by decide +kernel) ⟨Nat.le_of_ble_eq_true rfl, Nat.le_of_ble_eq_true rfl⟩) (zpV hK hP hD (is := [0, 1, 2, 3, 4, 5, 6, 7, 8, 9, 10, 11, 12, 13, 14, 15]) rfl rfl 0 rfl rfl (ci := 8) rfl) rfl rfl hl.1 rfl (lv_room (Nat.le_of_ble_eq_true rfl)) dX8_over_99 ⟨Nat.zero_le _, Nat.zero_le _⟩) (fun H locs hP hD hS => ?_)
            have hs_hi_sg_99 : ∀ j : Nat, j < 13 → t99.2.1 j < 13 := by rw [← ht99]; exact zkS_lt hs_hi_sg
            have hd_hi_D_99 : t99.2.2.2.1 ≤ 12 := by rw [← ht99]; exact zkD_le hd_hi_D
            refine lv_iload hx hb dX8_over_102 (lv_at hl 0 rfl) ?_
            exact hret _ _ _ _ _ _ (by subst hE; rfl) rfl hP hS dX8_over_104
          refine lv_icmp_ne (tgt := 60) hx hb dX8_over_38 (by decide) (fun c38 => ?_) (fun c38 => ?_)
          · have hE := hE.trans (if_neg c38)
            exact hB60 _ _ _ hE hP hD hS (lv_sub hl [0, 1, 2, 3] rfl)
          · have hE := hE.trans (if_pos c38)
            refine lv_aload_n hx hb dX8_over_41 rfl (lv_at hl 0 rfl) ?_
            refine zg8_court S in_X8_over_8 hK hP 0 rfl (List.mem_of_getElem? (i := 1) rfl) dX8_over_42 ?_
            refine zg0_beats S in_X8_over_0 hK hP 1 rfl (List.mem_of_getElem? (i := 2) rfl) dX8_over_45 ?_
            refine lv_iload_n hx hb dX8_over_48 rfl (lv_at hl 2 rfl) ?_
            refine zl0_beats S hK hP 1 rfl hx2_16 (f := (g0_beats bc)) rfl dX8_over_49 ?_
            refine lv_iload_n hx hb dX8_over_50 rfl (lv_at hl 1 rfl) ?_
            obtain ⟨t51, ht51⟩ : ∃ z, FX8_has ((g0_beats bc) x2.toNatClampNeg) x1 = z := ⟨_, rfl⟩
            have hE := hE.trans (bnd_eq ht51)
            have hc := c_X8_has l G ((g0_beats bc) x2.toNatClampNeg) x1 _ ht51
            refine zgoR (va_runS (As := [.int ((g0_beats bc) x2.toNatClampNeg), .int x1]) (rest := []) S (hc _) (va_cwS 2 S.2.2.2.2 gX8_over_X8_has rfl rfl rfl (by decide +kernel) ⟨Nat.le_of_ble_eq_true rfl, Nat.le_of_ble_eq_true rfl⟩) (zpS hK hP hD (is := []) rfl rfl) rfl rfl hl.1 rfl (lv_room (Nat.le_of_ble_eq_true rfl)) dX8_over_51 ⟨Nat.zero_le _, Nat.zero_le _⟩) (fun hn51 => ?_)
            refine lv_if_eq (tgt := 60) hx hb dX8_over_54 (by decide) (fun c54 => ?_) (fun c54 => ?_)
            · have hE := hE.trans (if_pos c54)
              exact hB60 _ _ _ hE hP hD hS (lv_sub hl [0, 1, 2, 3] rfl)
            · have hE := hE.trans (if_neg c54)
              refine lv_bipush (v := (-5)) hx hb dX8_over_57 (by decide) ?_
              rw [show brc = (s8_isSettled brc (g8_isSettled brc)) from ((se8_isSettled _).symm)] at hP hD
              rw [show bc = (s0_beats bc (g0_beats bc)) from ((se0_beats _).symm)] at hP hD
              exact hret _ _ _ _ _ _ (by subst hE; rfl) rfl hP hS dX8_over_59
        · have hE := hE.trans (if_pos c31)
          refine lv_iconst (v := (-1)) hx hb dX8_over_34 (by decide) ?_
          rw [show brc = (s8_isSettled brc (g8_isSettled brc)) from ((se8_isSettled _).symm)] at hP hD
          rw [show bc = (s0_beats bc (g0_beats bc)) from ((se0_beats _).symm)] at hP hD
          exact hret _ _ _ _ _ _ (by subst hE; rfl) rfl hP hS dX8_over_35

theorem in_X8_ruleOf_0 : ∀ w ∈ u_ws RX0 TX0 9, w ∈ wsX8_ruleOf := by decide +kernel
theorem in_X8_ruleOf_8 : ∀ w ∈ u_ws RX8 TX8 12, w ∈ wsX8_ruleOf := by decide +kernel
def rmX8_ruleOf : Room := { frames := 3, cells := 0, slots := 0, locals := 66 }
set_option maxHeartbeats 4000000 in
set_option maxRecDepth 100000 in
theorem c_X8_ruleOf (l : Launch) (G : zG) (arc : Nat → Nat) (ac : Nat → Nat) (orc_rounds : Nat) (orc_thought : Nat) (orc_thoughtRounds : Nat) (orc_chain : Nat) (orc_history : Nat) (orc_kept : Nat) (orc_words : Nat) (orc_sheet : Nat) (orc_rows : Nat) (brc : S8) (bc : S0) (x1 : Int32) (x2 : Int32) (hz_c_size : ∃ N : Nat, N ≤ 16 ∧ g0_size bc = nI N) (T : Int32) (hT : FX8_ruleOf (g0_kind bc) (g0_head bc) (g0_body bc) (g0_excepts bc) (g0_power bc) (g0_beats bc) (g0_size bc) (g0_shut bc) x1 x2 = T) : zR l yX8_ruleOf wsX8_ruleOf rmX8_ruleOf .int G [.ref (arc 0), .int x1, .int x2] [w8 G arc (ac 0) orc_rounds orc_thought orc_thoughtRounds orc_chain orc_history orc_kept orc_words orc_sheet orc_rows brc, w0 G ac bc] T := by
  refine zR.mk (cc := cX8_ruleOf) (maxL := 3) (by decide +kernel) rfl (Nat.le_of_ble_eq_true rfl) ?_
  intro p e s m args below meth c Q A ls S hK hD hA hP hl hret
  have hx := S.1
  have hb := S.2.1
  have hl : lv_has ls 3 [(0, .ref (arc 0)), (1, .int x1), (2, .int x2)] := hl
  have hE := hT.symm.trans (FX8_ruleOf.eq_1 _ _ _ _ _ _ _ _ _ _)
  refine lv_aload_n hx hb dX8_ruleOf_0 rfl (lv_at hl 0 rfl) ?_
  refine zg8_court S in_X8_ruleOf_8 hK hP 0 rfl (List.mem_of_getElem? (i := 1) rfl) dX8_ruleOf_1 ?_
  refine lv_iload_n hx hb dX8_ruleOf_4 rfl (lv_at hl 1 rfl) ?_
  obtain ⟨t5, ht5⟩ : ∃ z, FX0_hasRule (g0_size bc) x1 = z := ⟨_, rfl⟩
  have hE := hE.trans (bnd_eq ht5)
  have hc := c_X0_hasRule l G ac bc x1 _ ht5
  refine zgoR (va_runV (As := [.int x1]) (rest := []) S (hc _) (cwV 1 S.2.2.2.2 gX8_ruleOf_X0_hasRule rfl rfl rfl (by decide +kernel) ⟨Nat.le_of_ble_eq_true rfl, Nat.le_of_ble_eq_true rfl⟩) (zpV hK hP hD (is := [1]) rfl rfl 1 rfl rfl (ci := 0) rfl) rfl rfl hl.1 rfl (lv_room (Nat.le_of_ble_eq_true rfl)) dX8_ruleOf_5 ⟨Nat.zero_le _, Nat.zero_le _⟩) (fun hn5 => ?_)
  refine lv_if_ne (tgt := 13) hx hb dX8_ruleOf_8 (by decide) (fun c8 => ?_) (fun c8 => ?_)
  · have hE := hE.trans (if_neg c8)
    have hx1_16 : vp_in x1 16 := zhasRule hz_c_size (by rw [ht5]; exact c8)
    refine lv_iload_n hx hb dX8_ruleOf_13 rfl (lv_at hl 2 rfl) ?_
    by_cases c14_0 : x2 = 0
    · have hE := hE.trans (if_pos c14_0)
      refine lv_tableIn (off := 46) (tgt := 60) hx hb dX8_ruleOf_14 (by rw [c14_0]; decide) (by rw [c14_0]; decide) (by rw [c14_0]; rfl) (by decide) ?_
      refine lv_aload_n hx hb dX8_ruleOf_60 rfl (lv_at hl 0 rfl) ?_
      refine zg8_court S in_X8_ruleOf_8 hK hP 0 rfl (List.mem_of_getElem? (i := 1) rfl) dX8_ruleOf_61 ?_
      refine zg0_kind S in_X8_ruleOf_0 hK hP 1 rfl (List.mem_of_getElem? (i := 2) rfl) dX8_ruleOf_64 ?_
      refine lv_iload_n hx hb dX8_ruleOf_67 rfl (lv_at hl 1 rfl) ?_
      refine zl0_kind S hK hP 1 rfl hx1_16 (f := (g0_kind bc)) rfl dX8_ruleOf_68 ?_
      exact hret _ _ _ hE rfl dX8_ruleOf_69
    have hE := hE.trans (if_neg c14_0)
    by_cases c14_1 : x2 = 1
    · have hE := hE.trans (if_pos c14_1)
      refine lv_tableIn (off := 56) (tgt := 70) hx hb dX8_ruleOf_14 (by rw [c14_1]; decide) (by rw [c14_1]; decide) (by rw [c14_1]; rfl) (by decide) ?_
      refine lv_aload_n hx hb dX8_ruleOf_70 rfl (lv_at hl 0 rfl) ?_
      refine zg8_court S in_X8_ruleOf_8 hK hP 0 rfl (List.mem_of_getElem? (i := 1) rfl) dX8_ruleOf_71 ?_
      refine zg0_head S in_X8_ruleOf_0 hK hP 1 rfl (List.mem_of_getElem? (i := 3) rfl) dX8_ruleOf_74 ?_
      refine lv_iload_n hx hb dX8_ruleOf_77 rfl (lv_at hl 1 rfl) ?_
      refine zl0_head S hK hP 1 rfl hx1_16 (f := (g0_head bc)) rfl dX8_ruleOf_78 ?_
      exact hret _ _ _ hE rfl dX8_ruleOf_79
    have hE := hE.trans (if_neg c14_1)
    by_cases c14_2 : x2 = 2
    · have hE := hE.trans (if_pos c14_2)
      refine lv_tableIn (off := 66) (tgt := 80) hx hb dX8_ruleOf_14 (by rw [c14_2]; decide) (by rw [c14_2]; decide) (by rw [c14_2]; rfl) (by decide) ?_
      refine lv_aload_n hx hb dX8_ruleOf_80 rfl (lv_at hl 0 rfl) ?_
      refine zg8_court S in_X8_ruleOf_8 hK hP 0 rfl (List.mem_of_getElem? (i := 1) rfl) dX8_ruleOf_81 ?_
      refine zg0_body S in_X8_ruleOf_0 hK hP 1 rfl (List.mem_of_getElem? (i := 4) rfl) dX8_ruleOf_84 ?_
      refine lv_iload_n hx hb dX8_ruleOf_87 rfl (lv_at hl 1 rfl) ?_
      refine zl0_body S hK hP 1 rfl hx1_16 (f := (g0_body bc)) rfl dX8_ruleOf_88 ?_
      exact hret _ _ _ hE rfl dX8_ruleOf_89
    have hE := hE.trans (if_neg c14_2)
    by_cases c14_3 : x2 = 3
    · have hE := hE.trans (if_pos c14_3)
      refine lv_tableIn (off := 76) (tgt := 90) hx hb dX8_ruleOf_14 (by rw [c14_3]; decide) (by rw [c14_3]; decide) (by rw [c14_3]; rfl) (by decide) ?_
      refine lv_aload_n hx hb dX8_ruleOf_90 rfl (lv_at hl 0 rfl) ?_
      refine zg8_court S in_X8_ruleOf_8 hK hP 0 rfl (List.mem_of_getElem? (i := 1) rfl) dX8_ruleOf_91 ?_
      refine zg0_excepts S in_X8_ruleOf_0 hK hP 1 rfl (List.mem_of_getElem? (i := 5) rfl) dX8_ruleOf_94 ?_
      refine lv_iload_n hx hb dX8_ruleOf_97 rfl (lv_at hl 1 rfl) ?_
      refine zl0_excepts S hK hP 1 rfl hx1_16 (f := (g0_excepts bc)) rfl dX8_ruleOf_98 ?_
      exact hret _ _ _ hE rfl dX8_ruleOf_99
    have hE := hE.trans (if_neg c14_3)
    by_cases c14_4 : x2 = 4
    · have hE := hE.trans (if_pos c14_4)
      refine lv_tableIn (off := 86) (tgt := 100) hx hb dX8_ruleOf_14 (by rw [c14_4]; decide) (by rw [c14_4]; decide) (by rw [c14_4]; rfl) (by decide) ?_
      refine lv_aload_n hx hb dX8_ruleOf_100 rfl (lv_at hl 0 rfl) ?_
      refine zg8_court S in_X8_ruleOf_8 hK hP 0 rfl (List.mem_of_getElem? (i := 1) rfl) dX8_ruleOf_101 ?_
      refine zg0_power S in_X8_ruleOf_0 hK hP 1 rfl (List.mem_of_getElem? (i := 6) rfl) dX8_ruleOf_104 ?_
      refine lv_iload_n hx hb dX8_ruleOf_107 rfl (lv_at hl 1 rfl) ?_
      refine zl0_power S hK hP 1 rfl hx1_16 (f := (g0_power bc)) rfl dX8_ruleOf_108 ?_
      exact hret _ _ _ hE rfl dX8_ruleOf_109
    have hE := hE.trans (if_neg c14_4)
    by_cases c14_5 : x2 = 5
    · have hE := hE.trans (if_pos c14_5)
      refine lv_tableIn (off := 96) (tgt := 110) hx hb dX8_ruleOf_14 (by rw [c14_5]; decide) (by rw [c14_5]; decide) (by rw [c14_5]; rfl) (by decide) ?_
      refine lv_aload_n hx hb dX8_ruleOf_110 rfl (lv_at hl 0 rfl) ?_
      refine zg8_court S in_X8_ruleOf_8 hK hP 0 rfl (List.mem_of_getElem? (i := 1) rfl) dX8_ruleOf_111 ?_
      refine zg0_shut S in_X8_ruleOf_0 hK hP 1 rfl (List.mem_of_getElem? (i := 7) rfl) (v := (g0_shut bc)) rfl dX8_ruleOf_114 ?_
      refine lv_iload_n hx hb dX8_ruleOf_117 rfl (lv_at hl 1 rfl) ?_
      obtain ⟨t118, ht118⟩ : ∃ z, FX8_bit (g0_shut bc) x1 = z := ⟨_, rfl⟩
      have hE := hE.trans (bnd_eq ht118)
      have hc := c_X8_bit l G (g0_shut bc) x1 _ ht118
      refine zgoR (va_runS (As := [.int (g0_shut bc), .int x1]) (rest := []) S (hc _) (va_cwS 2 S.2.2.2.2 gX8_ruleOf_X8_bit rfl rfl rfl (by decide +kernel) ⟨Nat.le_of_ble_eq_true rfl, Nat.le_of_ble_eq_true rfl⟩) (zpS hK hP hD (is := []) rfl rfl) rfl rfl hl.1 rfl (lv_room (Nat.le_of_ble_eq_true rfl)) dX8_ruleOf_118 ⟨Nat.zero_le _, Nat.zero_le _⟩) (fun hn118 => ?_)
      exact hret _ _ _ hE rfl dX8_ruleOf_121
    have hE := hE.trans (if_neg c14_5)
    by_cases c14_6 : x2 = 6
    · have hE := hE.trans (if_pos c14_6)
      refine lv_tableIn (off := 108) (tgt := 122) hx hb dX8_ruleOf_14 (by rw [c14_6]; decide) (by rw [c14_6]; decide) (by rw [c14_6]; rfl) (by decide) ?_
      refine lv_aload_n hx hb dX8_ruleOf_122 rfl (lv_at hl 0 rfl) ?_
      refine zg8_court S in_X8_ruleOf_8 hK hP 0 rfl (List.mem_of_getElem? (i := 1) rfl) dX8_ruleOf_123 ?_
      refine zg0_beats S in_X8_ruleOf_0 hK hP 1 rfl (List.mem_of_getElem? (i := 8) rfl) dX8_ruleOf_126 ?_
      refine lv_iload_n hx hb dX8_ruleOf_129 rfl (lv_at hl 1 rfl) ?_
      refine zl0_beats S hK hP 1 rfl hx1_16 (f := (g0_beats bc)) rfl dX8_ruleOf_130 ?_
      exact hret _ _ _ hE rfl dX8_ruleOf_131
    have hE := hE.trans (if_neg c14_6)
    by_cases c14_7 : x2 = 7
    · have hE := hE.trans (if_pos c14_7)
      refine lv_tableIn (off := 118) (tgt := 132) hx hb dX8_ruleOf_14 (by rw [c14_7]; decide) (by rw [c14_7]; decide) (by rw [c14_7]; rfl) (by decide) ?_
      refine lv_aload_n hx hb dX8_ruleOf_132 rfl (lv_at hl 0 rfl) ?_
      refine zg8_court S in_X8_ruleOf_8 hK hP 0 rfl (List.mem_of_getElem? (i := 1) rfl) dX8_ruleOf_133 ?_
      refine lv_iload_n hx hb dX8_ruleOf_136 rfl (lv_at hl 1 rfl) ?_
      obtain ⟨t137, ht137⟩ : ∃ z, FX0_rulesBelow (g0_power bc) (g0_beats bc) (g0_size bc) x1 = z := ⟨_, rfl⟩
      have hE := hE.trans (bnd_eq ht137)
      have hc := c_X0_rulesBelow l G ac bc x1 (hz_c_size) (hx1_16) _ ht137
      refine zgoR (va_runV (As := [.int x1]) (rest := []) S (hc _) (cwV 1 S.2.2.2.2 gX8_ruleOf_X0_rulesBelow rfl rfl rfl (by decide +kernel) ⟨Nat.le_of_ble_eq_true rfl, Nat.le_of_ble_eq_true rfl⟩) (zpV hK hP hD (is := [1]) rfl rfl 1 rfl rfl (ci := 0) rfl) rfl rfl hl.1 rfl (lv_room (Nat.le_of_ble_eq_true rfl)) dX8_ruleOf_137 ⟨Nat.zero_le _, Nat.zero_le _⟩) (fun hn137 => ?_)
      exact hret _ _ _ hE rfl dX8_ruleOf_140
    have hE := hE.trans (if_neg c14_7)
    refine lv_tableOut (tgt := 141) hx hb dX8_ruleOf_14 (zsw8 c14_0 c14_1 c14_2 c14_3 c14_4 c14_5 c14_6 c14_7) (by decide) ?_
    refine lv_iconst (v := (-1)) hx hb dX8_ruleOf_141 (by decide) ?_
    exact hret _ _ _ hE rfl dX8_ruleOf_142
  · have hE := hE.trans (if_pos c8)
    refine lv_iconst (v := (-1)) hx hb dX8_ruleOf_11 (by decide) ?_
    exact hret _ _ _ hE rfl dX8_ruleOf_12

