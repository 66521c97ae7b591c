theorem zn12b {x : Int32} (h1 : ¬ x < 1) (h2 : x ≤ 12) : ∃ N : Nat, N ≤ 12 ∧ x = nI N := by
  have h0 : ¬ x < 0 := fun h => h1 (Int32.lt_iff_toInt_lt.mpr (Int.lt_trans (Int32.lt_iff_toInt_lt.mp h) (by decide)))
  obtain ⟨j, hj, rfl⟩ := nI_of h0
  rw [show (12 : Int32) = nI 12 from rfl, nI_leI hj (by decide)] at h2
  exact ⟨j, h2, rfl⟩
theorem zj57 {x y : Int32} {i : Nat} {f : Nat → Int32} (h : ∀ t : Nat, t < 4 → f t = -1 ∨ ∃ N : Nat, N ≤ 24 ∧ f t = nI N) (hx : vp_in x 4) (c0 : ¬ y < 0) (hi : i < 20) (c : y < f x.toNatClampNeg - nI i) : vp_in (y + nI i) 24 := by
  obtain ⟨a, ha, rfl⟩ := vp_in_of hx (by decide)
  rw [nI_clamp (by omega)] at c
  obtain ⟨j, hj, rfl⟩ := nI_of c0
  rw [Int32.lt_iff_toInt_lt, nI_toInt hj] at c
  rcases h a ha with q | ⟨N, hN, q⟩
  · have key : ∀ i : Nat, i < 20 → ((-1 : Int32) - nI i).toInt < 0 := by decide +kernel
    rw [q] at c
    have := key i hi
    omega
  · rw [q, pk_sub_toInt (by omega) (by omega)] at c
    rw [nI_add]
    exact vp_in_nI (by omega) (by decide)
theorem zcpyH {f g : Nat → Int32} {n : Nat} (h : ∀ r : Nat, r < 16 → vp_in (f r) n) : ∀ r : Nat, r < 16 → vp_in (va_cpy f g (0 : Int32).toNatClampNeg (0 : Int32).toNatClampNeg (16 : Int32).toNatClampNeg r) n := fun r hr => by
  unfold va_cpy
  rw [show (0 : Int32).toNatClampNeg = 0 from by decide, show (16 : Int32).toNatClampNeg = 16 from by decide, if_pos ⟨by omega, by omega⟩, show 0 + (r - 0) = r from by omega]
  exact h r hr

theorem in_X8_restart_8 : ∀ w ∈ u_ws RX8 TX8 12, w ∈ wsX8_restart := by decide +kernel
def rmX8_restart : Room := { frames := 3, cells := 0, slots := 0, locals := 82 }
set_option maxHeartbeats 4000000 in
set_option maxRecDepth 100000 in
theorem c_X8_restart (l : Launch) (G : zG) (arc : Nat → Nat) (ac : Nat → Nat) (ahi : Nat → Nat) (aik : Nat → Nat → Nat) (orc_rounds : Nat) (orc_thought : Nat) (orc_thoughtRounds : Nat) (orc_chain : Nat) (orc_kept : Nat) (orc_words : Nat) (orc_sheet : Nat) (orc_rows : Nat) (brc : S8) (bc : S0) (sg : Nat → Nat) (y : Nat → S0) (D : Nat) (un : Int32) (hs_hi_sg : ∀ j : Nat, j < 13 → sg j < 13) (T : (Int32) × (Nat → S0) × (Nat) × (Int32)) (hT : FX8_restart (g8_isSettled brc) (g0_kind bc) (g0_head bc) (g0_body bc) (g0_excepts bc) (g0_power bc) (g0_beats bc) (g0_facts bc) (g0_size bc) (g0_shut bc) sg y D un = T) : zV l yX8_restart wsX8_restart rmX8_restart G [.ref (arc 0)] (w8 G arc (ac 0) orc_rounds orc_thought orc_thoughtRounds orc_chain (ahi 0) orc_kept orc_words orc_sheet orc_rows brc :: w0 G ac bc :: w1 G ahi aik sg (nI D) un :: hcs G aik y) (w8 G arc (ac 0) orc_rounds orc_thought orc_thoughtRounds orc_chain (ahi 0) orc_kept orc_words orc_sheet orc_rows (s8_isSettled brc T.1) :: w0 G ac bc :: w1 G ahi aik sg (nI T.2.2.1) T.2.2.2 :: hcs G aik T.2.1) := by
  refine zV.mk (cc := cX8_restart) (maxL := 1) (by decide +kernel) rfl (Nat.le_of_ble_eq_true rfl) (zfl_cons (wf8 _ _ _ _ _ _ _ _ _ _ _ _ _ _) (zfl_cons rfl (zfl_cons rfl (hcs_fst0 _ _ _ _)))) ?_
  intro p e s m args below meth c Q A ls S hK hD hA hP hl hret
  have hx := S.1
  have hb := S.2.1
  have hS : va_S A s.heap s.heap [] := va_S.rf
  have hl : lv_has ls 1 [(0, .ref (arc 0))] := hl
  have hE := hT.symm.trans (FX8_restart.eq_1 _ _ _ _ _ _ _ _ _ _ _ _ _ _)
  refine lv_aload_n hx hb dX8_restart_0 rfl (lv_at hl 0 rfl) ?_
  refine zg8_history S in_X8_restart_8 hK hP 0 rfl (List.mem_of_getElem? (i := 1) rfl) dX8_restart_1 ?_
  refine lv_aload_n hx hb dX8_restart_4 rfl (lv_at hl 0 rfl) ?_
  refine zg8_court S in_X8_restart_8 hK hP 0 rfl (List.mem_of_getElem? (i := 2) rfl) dX8_restart_5 ?_
  obtain ⟨t8, ht8⟩ : ∃ z, FX1_restart sg y (g0_kind bc) (g0_head bc) (g0_body bc) (g0_excepts bc) (g0_power bc) (g0_beats bc) (g0_facts bc) (g0_size bc) (g0_shut bc) = z := ⟨_, rfl⟩
  have hE := hE.trans (bnd_eq ht8)
  have hc := c_X1_restart l G ahi aik ac sg y D un bc (hs_hi_sg) _ ht8
  refine zgoV (bs' := (w8 G arc (ac 0) orc_rounds orc_thought orc_thoughtRounds orc_chain (ahi 0) orc_kept orc_words orc_sheet orc_rows brc :: w0 G ac bc :: w1 G ahi aik sg (nI t8.2.1) t8.2.2 :: hcs G aik t8.1)) hc [2, 1, 3, 4, 5, 6, 7, 8, 9, 10, 11, 12, 13, 14, 15] rfl rfl rfl hP hD hS hA (va_runV (As := [.ref (ac 0)]) (rest := []) S (hc.2 _) (cwV 1 S.2.2.2.2 gX8_restart_X1_restart rfl rfl rfl (by decide +kernel) ⟨Nat.le_of_ble_eq_true rfl, Nat.le_of_ble_eq_true rfl⟩) (zpV hK hP hD (is := [2, 1, 3, 4, 5, 6, 7, 8, 9, 10, 11, 12, 13, 14, 15]) rfl rfl 2 rfl rfl (ci := 1) rfl) rfl rfl hl.1 rfl (lv_room (Nat.le_of_ble_eq_true rfl)) dX8_restart_8 ⟨Nat.zero_le _, Nat.zero_le _⟩) (fun H locs hP hD hS => ?_)
  refine lv_aload_n hx hb dX8_restart_11 rfl (lv_at hl 0 rfl) ?_
  refine lv_iconst (v := 0) hx hb dX8_restart_12 (by decide) ?_
  refine zp8_isSettled (bs1 := (w8 G arc (ac 0) orc_rounds orc_thought orc_thoughtRounds orc_chain (ahi 0) orc_kept orc_words orc_sheet orc_rows (s8_isSettled brc 0) :: w0 G ac bc :: w1 G ahi aik sg (nI t8.2.1) t8.2.2 :: hcs G aik t8.1)) S in_X8_restart_8 hK hP hD hS 0 rfl (List.mem_of_getElem? (i := 3) rfl) zn0 dX8_restart_13 rfl (fun H locs hP hD hS => ?_)
  exact hret _ _ _ _ _ (by subst hE; rfl) hP hS dX8_restart_16

theorem in_X8_begin_0 : ∀ w ∈ u_ws RX0 TX0 9, w ∈ wsX8_begin := by decide +kernel
theorem in_X8_begin_8 : ∀ w ∈ u_ws RX8 TX8 12, w ∈ wsX8_begin := by decide +kernel
def rmX8_begin : Room := { frames := 4, cells := 0, slots := 0, locals := 102 }
set_option maxHeartbeats 4000000 in
set_option maxRecDepth 100000 in
theorem c_X8_begin (l : Launch) (G : zG) (arc : Nat → Nat) (ac : Nat → Nat) (ahi : Nat → Nat) (aik : Nat → Nat → Nat) (orc_rounds : Nat) (orc_thought : Nat) (orc_thoughtRounds : Nat) (orc_chain : Nat) (orc_kept : Nat) (orc_words : Nat) (orc_sheet : Nat) (orc_rows : Nat) (brc : S8) (bc : S0) (sg : Nat → Nat) (y : Nat → S0) (D : Nat) (un : Int32) (hs_hi_sg : ∀ j : Nat, j < 13 → sg j < 13) (T : Int32 × (Int32) × (Int32) × (Int32) × (Int32) × (Nat → S0) × (Nat) × (Int32)) (hT : FX8_begin (g8_isSettled brc) (g0_kind bc) (g0_head bc) (g0_body bc) (g0_excepts bc) (g0_power bc) (g0_beats bc) (g0_facts bc) (g0_size bc) (g0_shut bc) sg y D un = T) : zI l yX8_begin wsX8_begin rmX8_begin .int G [.ref (arc 0)] (w8 G arc (ac 0) orc_rounds orc_thought orc_thoughtRounds orc_chain (ahi 0) orc_kept orc_words orc_sheet orc_rows brc :: w0 G ac bc :: w1 G ahi aik sg (nI D) un :: hcs G aik y) T.1 (w8 G arc (ac 0) orc_rounds orc_thought orc_thoughtRounds orc_chain (ahi 0) orc_kept orc_words orc_sheet orc_rows (s8_isSettled brc T.2.1) :: w0 G ac (s0_shut (s0_size (s0_facts bc T.2.2.1) T.2.2.2.1) T.2.2.2.2.1) :: w1 G ahi aik sg (nI T.2.2.2.2.2.2.1) T.2.2.2.2.2.2.2 :: hcs G aik T.2.2.2.2.2.1) := by
  refine zI.mk (cc := cX8_begin) (maxL := 2) (by decide +kernel) rfl (Nat.le_of_ble_eq_true rfl) (zfl_cons (wf8 _ _ _ _ _ _ _ _ _ _ _ _ _ _) (zfl_cons (wf0 _ _ _ _) (zfl_cons rfl (hcs_fst0 _ _ _ _)))) ?_
  intro p e s m args below meth c Q A ls S hK hD hA hP hl hret
  have hx := S.1
  have hb := S.2.1
  have hS : va_S A s.heap s.heap [] := va_S.rf
  have hl : lv_has ls 2 [(0, .ref (arc 0))] := hl
  have hE := hT.symm.trans (FX8_begin.eq_1 _ _ _ _ _ _ _ _ _ _ _ _ _ _)
  refine lv_aload_n hx hb dX8_begin_0 rfl (lv_at hl 0 rfl) ?_
  refine zg8_court S in_X8_begin_8 hK hP 0 rfl (List.mem_of_getElem? (i := 1) rfl) dX8_begin_1 ?_
  refine zg0_size S in_X8_begin_0 hK hP 1 rfl (List.mem_of_getElem? (i := 2) rfl) (v := (g0_size bc)) rfl dX8_begin_4 ?_
  refine lv_istore_n (lv' := [(1, .int (g0_size bc)), (0, .ref (arc 0))]) hx hb dX8_begin_7 rfl hl (by decide) rfl (fun ls hl => ?_)
  refine lv_aload_n hx hb dX8_begin_8 rfl (lv_at hl 1 rfl) ?_
  refine zg8_court S in_X8_begin_8 hK hP 0 rfl (List.mem_of_getElem? (i := 1) rfl) dX8_begin_9 ?_
  obtain ⟨t12, ht12⟩ : ∃ z, FX0_clear (g0_facts bc) (g0_size bc) (g0_shut bc) = z := ⟨_, rfl⟩
  have hE := hE.trans (bnd_eq ht12)
  have hc := c_X0_clear l G ac bc _ ht12
  refine zgoV (bs' := (w8 G arc (ac 0) orc_rounds orc_thought orc_thoughtRounds orc_chain (ahi 0) orc_kept orc_words orc_sheet orc_rows brc :: w0 G ac (s0_shut (s0_size (s0_facts bc t12.1) t12.2.1) t12.2.2) :: w1 G ahi aik sg (nI D) un :: hcs G aik y)) hc [1] rfl rfl rfl hP hD hS hA (va_runV (As := []) (rest := []) S (hc.2 _) (cwV 0 S.2.2.2.2 gX8_begin_X0_clear rfl rfl rfl (by decide +kernel) ⟨Nat.le_of_ble_eq_true rfl, Nat.le_of_ble_eq_true rfl⟩) (zpV hK hP hD (is := [1]) rfl rfl 1 rfl rfl (ci := 0) rfl) rfl rfl hl.1 rfl (lv_room (Nat.le_of_ble_eq_true rfl)) dX8_begin_12 ⟨Nat.zero_le _, Nat.zero_le _⟩) (fun H locs hP hD hS => ?_)
  refine lv_aload_n hx hb dX8_begin_15 rfl (lv_at hl 1 rfl) ?_
  obtain ⟨t16, ht16⟩ : ∃ z, FX8_restart (g8_isSettled brc) (g0_kind bc) (g0_head bc) (g0_body bc) (g0_excepts bc) (g0_power bc) (g0_beats bc) t12.1 t12.2.1 t12.2.2 sg y D un = z := ⟨_, rfl⟩
  have hE := hE.trans (bnd_eq ht16)
  have hc := c_X8_restart l G arc ac ahi aik orc_rounds orc_thought orc_thoughtRounds orc_chain orc_kept orc_words orc_sheet orc_rows brc (s0_shut (s0_size (s0_facts bc t12.1) t12.2.1) t12.2.2) sg y D un (hs_hi_sg) _ (by simp only [gs0_kind_shut, gs0_kind_size, gs0_kind_facts, gs0_head_shut, gs0_head_size, gs0_head_facts, gs0_body_shut, gs0_body_size, gs0_body_facts, gs0_excepts_shut, gs0_excepts_size, gs0_excepts_facts, gs0_power_shut, gs0_power_size, gs0_power_facts, gs0_beats_shut, gs0_beats_size, gs0_beats_facts, gs0_facts_shut, gs0_facts_size, gg0_facts, gs0_size_shut, gg0_size, gg0_shut]; exact ht16)
  refine zgoV (bs' := (w8 G arc (ac 0) orc_rounds orc_thought orc_thoughtRounds orc_chain (ahi 0) orc_kept orc_words orc_sheet orc_rows (s8_isSettled brc t16.1) :: w0 G ac (s0_shut (s0_size (s0_facts bc t12.1) t12.2.1) t12.2.2) :: w1 G ahi aik sg (nI t16.2.2.1) t16.2.2.2 :: hcs G aik t16.2.1)) hc [0, 1, 2, 3, 4, 5, 6, 7, 8, 9, 10, 11, 12, 13, 14, 15] rfl rfl rfl hP hD hS hA (va_runV (As := []) (rest := []) S (hc.2 _) (cwV 0 S.2.2.2.2 gX8_begin_X8_restart rfl rfl rfl (by decide +kernel) ⟨Nat.le_of_ble_eq_true rfl, Nat.le_of_ble_eq_true rfl⟩) (zpV hK hP hD (is := [0, 1, 2, 3, 4, 5, 6, 7, 8, 9, 10, 11, 12, 13, 14, 15]) rfl rfl 0 rfl rfl (ci := 8) rfl) rfl rfl hl.1 rfl (lv_room (Nat.le_of_ble_eq_true rfl)) dX8_begin_16 ⟨Nat.zero_le _, Nat.zero_le _⟩) (fun H locs hP hD hS => ?_)
  refine lv_iload_n hx hb dX8_begin_19 rfl (lv_at hl 0 rfl) ?_
  exact hret _ _ _ _ _ _ (by subst hE; rfl) rfl hP hS dX8_begin_20

theorem in_X8_changed_8 : ∀ w ∈ u_ws RX8 TX8 12, w ∈ wsX8_changed := by decide +kernel
def rmX8_changed : Room := { frames := 3, cells := 0, slots := 0, locals := 82 }
set_option maxHeartbeats 4000000 in
set_option maxRecDepth 100000 in
theorem c_X8_changed (l : Launch) (G : zG) (arc : Nat → Nat) (ac : Nat → Nat) (ahi : Nat → Nat) (aik : Nat → Nat → Nat) (orc_rounds : Nat) (orc_thought : Nat) (orc_thoughtRounds : Nat) (orc_chain : Nat) (orc_kept : Nat) (orc_words : Nat) (orc_sheet : Nat) (orc_rows : Nat) (brc : S8) (bc : S0) (sg : Nat → Nat) (y : Nat → S0) (D : Nat) (un : Int32) (hs_hi_sg : ∀ j : Nat, j < 13 → sg j < 13) (hd_hi_D : D ≤ 12) (T : (Int32) × (Nat → Nat) × (Nat → S0) × (Nat) × (Int32)) (hT : FX8_changed (g8_isSettled brc) (g0_kind bc) (g0_head bc) (g0_body bc) (g0_excepts bc) (g0_power bc) (g0_beats bc) (g0_facts bc) (g0_size bc) (g0_shut bc) sg y D un = T) : zV l yX8_changed wsX8_changed rmX8_changed G [.ref (arc 0)] (w8 G arc (ac 0) orc_rounds orc_thought orc_thoughtRounds orc_chain (ahi 0) orc_kept orc_words orc_sheet orc_rows brc :: w0 G ac bc :: w1 G ahi aik sg (nI D) un :: hcs G aik y) (w8 G arc (ac 0) orc_rounds orc_thought orc_thoughtRounds orc_chain (ahi 0) orc_kept orc_words orc_sheet orc_rows (s8_isSettled brc T.1) :: w0 G ac bc :: w1 G ahi aik T.2.1 (nI T.2.2.2.1) T.2.2.2.2 :: hcs G aik T.2.2.1) := by
  refine zV.mk (cc := cX8_changed) (maxL := 1) (by decide +kernel) rfl (Nat.le_of_ble_eq_true rfl) (zfl_cons (wf8 _ _ _ _ _ _ _ _ _ _ _ _ _ _) (zfl_cons rfl (zfl_cons rfl (hcs_fst0 _ _ _ _)))) ?_
  intro p e s m args below meth c Q A ls S hK hD hA hP hl hret
  have hx := S.1
  have hb := S.2.1
  have hS : va_S A s.heap s.heap [] := va_S.rf
  have hl : lv_has ls 1 [(0, .ref (arc 0))] := hl
  have hE := hT.symm.trans (FX8_changed.eq_1 _ _ _ _ _ _ _ _ _ _ _ _ _ _)
  refine lv_aload_n hx hb dX8_changed_0 rfl (lv_at hl 0 rfl) ?_
  refine zg8_history S in_X8_changed_8 hK hP 0 rfl (List.mem_of_getElem? (i := 1) rfl) dX8_changed_1 ?_
  refine lv_aload_n hx hb dX8_changed_4 rfl (lv_at hl 0 rfl) ?_
  refine zg8_court S in_X8_changed_8 hK hP 0 rfl (List.mem_of_getElem? (i := 2) rfl) dX8_changed_5 ?_
  obtain ⟨t8, ht8⟩ : ∃ z, FX1_keep sg y D (g0_kind bc) (g0_head bc) (g0_body bc) (g0_excepts bc) (g0_power bc) (g0_beats bc) (g0_facts bc) (g0_size bc) (g0_shut bc) = z := ⟨_, rfl⟩
  have hE := hE.trans (bnd_eq ht8)
  have hc := c_X1_keep l G ahi aik ac sg y D un bc (hs_hi_sg) (hd_hi_D) _ ht8
  refine zgoV (bs' := (w8 G arc (ac 0) orc_rounds orc_thought orc_thoughtRounds orc_chain (ahi 0) orc_kept orc_words orc_sheet orc_rows brc :: w0 G ac bc :: w1 G ahi aik t8.1 (nI t8.2.2.1) t8.2.2.2 :: hcs G aik t8.2.1)) hc [2, 1, 3, 4, 5, 6, 7, 8, 9, 10, 11, 12, 13, 14, 15] rfl rfl rfl hP hD hS hA (va_runV (As := [.ref (ac 0)]) (rest := []) S (hc.2 _) (cwV 1 S.2.2.2.2 gX8_changed_X1_keep rfl rfl rfl (by decide +kernel) ⟨Nat.le_of_ble_eq_true rfl, Nat.le_of_ble_eq_true rfl⟩) (zpV hK hP hD (is := [2, 1, 3, 4, 5, 6, 7, 8, 9, 10, 11, 12, 13, 14, 15]) rfl rfl 2 rfl rfl (ci := 1) rfl) rfl rfl hl.1 rfl (lv_room (Nat.le_of_ble_eq_true rfl)) dX8_changed_8 ⟨Nat.zero_le _, Nat.zero_le _⟩) (fun H locs hP hD hS => ?_)
  have hs_hi_sg_8 : ∀ j : Nat, j < 13 → t8.1 j < 13 := by rw [← ht8]; exact zkS_lt hs_hi_sg
  have hd_hi_D_8 : t8.2.2.1 ≤ 12 := by rw [← ht8]; exact zkD_le hd_hi_D
  refine lv_aload_n hx hb dX8_changed_11 rfl (lv_at hl 0 rfl) ?_
  refine lv_iconst (v := 0) hx hb dX8_changed_12 (by decide) ?_
  refine zp8_isSettled (bs1 := (w8 G arc (ac 0) orc_rounds orc_thought orc_thoughtRounds orc_chain (ahi 0) orc_kept orc_words orc_sheet orc_rows (s8_isSettled brc 0) :: w0 G ac bc :: w1 G ahi aik t8.1 (nI t8.2.2.1) t8.2.2.2 :: hcs G aik t8.2.1)) S in_X8_changed_8 hK hP hD hS 0 rfl (List.mem_of_getElem? (i := 3) rfl) zn0 dX8_changed_13 rfl (fun H locs hP hD hS => ?_)
  exact hret _ _ _ _ _ (by subst hE; rfl) hP hS dX8_changed_16

theorem in_X8_fact_0 : ∀ w ∈ u_ws RX0 TX0 9, w ∈ wsX8_fact := by decide +kernel
theorem in_X8_fact_8 : ∀ w ∈ u_ws RX8 TX8 12, w ∈ wsX8_fact := by decide +kernel
def rmX8_fact : Room := { frames := 4, cells := 0, slots := 0, locals := 102 }
set_option maxHeartbeats 4000000 in
set_option maxRecDepth 100000 in
theorem c_X8_fact (l : Launch) (G : zG) (arc : Nat → Nat) (ac : Nat → Nat) (ahi : Nat → Nat) (aik : Nat → Nat → Nat) (orc_rounds : Nat) (orc_thought : Nat) (orc_thoughtRounds : Nat) (orc_chain : Nat) (orc_kept : Nat) (orc_words : Nat) (orc_sheet : Nat) (orc_rows : Nat) (brc : S8) (bc : S0) (sg : Nat → Nat) (y : Nat → S0) (D : Nat) (un : Int32) (x1 : Int32) (x2 : Int32) (hs_hi_sg : ∀ j : Nat, j < 13 → sg j < 13) (hd_hi_D : D ≤ 12) (T : Int32 × (Int32) × (Int32) × (Nat → Nat) × (Nat → S0) × (Nat) × (Int32)) (hT : FX8_fact (g8_isSettled brc) (g0_kind bc) (g0_head bc) (g0_body bc) (g0_excepts bc) (g0_power bc) (g0_beats bc) (g0_facts bc) (g0_size bc) (g0_shut bc) sg y D un x1 x2 = T) : zI l yX8_fact wsX8_fact rmX8_fact .int G [.ref (arc 0), .int x1, .int x2] (w8 G arc (ac 0) orc_rounds orc_thought orc_thoughtRounds orc_chain (ahi 0) orc_kept orc_words orc_sheet orc_rows brc :: w0 G ac bc :: w1 G ahi aik sg (nI D) un :: hcs G aik y) T.1 (w8 G arc (ac 0) orc_rounds orc_thought orc_thoughtRounds orc_chain (ahi 0) orc_kept orc_words orc_sheet orc_rows (s8_isSettled brc T.2.1) :: w0 G ac (s0_facts bc T.2.2.1) :: w1 G ahi aik T.2.2.2.1 (nI T.2.2.2.2.2.1) T.2.2.2.2.2.2 :: hcs G aik T.2.2.2.2.1) := by
  refine zI.mk (cc := cX8_fact) (maxL := 4) (by decide +kernel) rfl (Nat.le_of_ble_eq_true rfl) (zfl_cons (wf8 _ _ _ _ _ _ _ _ _ _ _ _ _ _) (zfl_cons (wf0 _ _ _ _) (zfl_cons rfl (hcs_fst0 _ _ _ _)))) ?_
  intro p e s m args below meth c Q A ls S hK hD hA hP hl hret
  have hx := S.1
  have hb := S.2.1
  have hS : va_S A s.heap s.heap [] := va_S.rf
  have hl : lv_has ls 4 [(0, .ref (arc 0)), (1, .int x1), (2, .int x2)] := hl
  have hE := hT.symm.trans (FX8_fact.eq_1 _ _ _ _ _ _ _ _ _ _ _ _ _ _ _ _)
  refine lv_iload_n hx hb dX8_fact_0 rfl (lv_at hl 1 rfl) ?_
  obtain ⟨t1, ht1⟩ : ∃ z, FX8_isLiteral x1 = z := ⟨_, rfl⟩
  have hE := hE.trans (bnd_eq ht1)
  have hc := c_X8_isLiteral l G x1 _ ht1
  refine zgoR (va_runS (As := [.int x1]) (rest := []) S (hc _) (va_cwS 1 S.2.2.2.2 gX8_fact_X8_isLiteral rfl rfl rfl (by decide +kernel) ⟨Nat.le_of_ble_eq_true rfl, Nat.le_of_ble_eq_true rfl⟩) (zpS hK hP hD (is := []) rfl rfl) rfl rfl hl.1 rfl (lv_room (Nat.le_of_ble_eq_true rfl)) dX8_fact_1 ⟨Nat.zero_le _, Nat.zero_le _⟩) (fun hn1 => ?_)
  refine lv_if_eq (tgt := 14) hx hb dX8_fact_4 (by decide) (fun c4 => ?_) (fun c4 => ?_)
  · have hE := hE.trans (if_pos c4)
    refine lv_iconst (v := (-1)) hx hb dX8_fact_14 (by decide) ?_
    rw [show brc = (s8_isSettled brc (g8_isSettled brc)) from ((se8_isSettled _).symm)] at hP hD
    rw [show bc = (s0_facts bc (g0_facts bc)) from ((se0_facts _).symm)] at hP hD
    exact hret _ _ _ _ _ _ (by subst hE; rfl) rfl hP hS dX8_fact_15
  · have hE := hE.trans (if_neg c4)
    have hx1_20 : vp_in x1 20 := zisLit (by rw [ht1]; exact c4)
    refine lv_iload_n hx hb dX8_fact_7 rfl (lv_at hl 2 rfl) ?_
    obtain ⟨t8, ht8⟩ : ∃ z, FX8_isYesOrNo x2 = z := ⟨_, rfl⟩
    have hE := hE.trans (bnd_eq ht8)
    have hc := c_X8_isYesOrNo l G x2 _ ht8
    refine zgoR (va_runS (As := [.int x2]) (rest := []) S (hc _) (va_cwS 1 S.2.2.2.2 gX8_fact_X8_isYesOrNo rfl rfl rfl (by decide +kernel) ⟨Nat.le_of_ble_eq_true rfl, Nat.le_of_ble_eq_true rfl⟩) (zpS hK hP hD (is := []) rfl rfl) rfl rfl hl.1 rfl (lv_room (Nat.le_of_ble_eq_true rfl)) dX8_fact_8 ⟨Nat.zero_le _, Nat.zero_le _⟩) (fun hn8 => ?_)
    refine lv_if_ne (tgt := 16) hx hb dX8_fact_11 (by decide) (fun c11 => ?_) (fun c11 => ?_)
    · have hE := hE.trans (if_neg c11)
      refine lv_aload_n hx hb dX8_fact_16 rfl (lv_at hl 0 rfl) ?_
      refine zg8_court S in_X8_fact_8 hK hP 0 rfl (List.mem_of_getElem? (i := 1) rfl) dX8_fact_17 ?_
      refine zg0_facts S in_X8_fact_0 hK hP 1 rfl (List.mem_of_getElem? (i := 2) rfl) (v := (g0_facts bc)) rfl dX8_fact_20 ?_
      refine lv_iload_n hx hb dX8_fact_23 rfl (lv_at hl 1 rfl) ?_
      obtain ⟨t24, ht24⟩ : ∃ z, FX8_bit (g0_facts bc) x1 = z := ⟨_, rfl⟩
      have hE := hE.trans (bnd_eq ht24)
      have hc := c_X8_bit l G (g0_facts bc) x1 _ ht24
      refine zgoR (va_runS (As := [.int (g0_facts bc), .int x1]) (rest := []) S (hc _) (va_cwS 2 S.2.2.2.2 gX8_fact_X8_bit rfl rfl rfl (by decide +kernel) ⟨Nat.le_of_ble_eq_true rfl, Nat.le_of_ble_eq_true rfl⟩) (zpS hK hP hD (is := []) rfl rfl) rfl rfl hl.1 rfl (lv_room (Nat.le_of_ble_eq_true rfl)) dX8_fact_24 ⟨Nat.zero_le _, Nat.zero_le _⟩) (fun hn24 => ?_)
      refine lv_istore_n (lv' := [(3, .int t24), (0, .ref (arc 0)), (1, .int x1), (2, .int x2)]) hx hb dX8_fact_27 rfl hl (by decide) rfl (fun ls hl => ?_)
      refine lv_aload_n hx hb dX8_fact_28 rfl (lv_at hl 1 rfl) ?_
      refine zg8_court S in_X8_fact_8 hK hP 0 rfl (List.mem_of_getElem? (i := 1) rfl) dX8_fact_29 ?_
      refine lv_aload_n hx hb dX8_fact_32 rfl (lv_at hl 1 rfl) ?_
      refine zg8_court S in_X8_fact_8 hK hP 0 rfl (List.mem_of_getElem? (i := 1) rfl) dX8_fact_33 ?_
      refine zg0_facts S in_X8_fact_0 hK hP 1 rfl (List.mem_of_getElem? (i := 2) rfl) (v := (g0_facts bc)) rfl dX8_fact_36 ?_
      refine lv_iload_n hx hb dX8_fact_39 rfl (lv_at hl 2 rfl) ?_
      refine lv_iload_n hx hb dX8_fact_40 rfl (lv_at hl 3 rfl) ?_
      obtain ⟨t41, ht41⟩ : ∃ z, FX8_withBit (g0_facts bc) x1 x2 = z := ⟨_, rfl⟩
      have hE := hE.trans (bnd_eq ht41)
      have hc := c_X8_withBit l G (g0_facts bc) x1 x2 _ ht41
      refine zgoR (va_runS (As := [.int (g0_facts bc), .int x1, .int x2]) (rest := [.ref (ac 0)]) S (hc _) (va_cwS 3 S.2.2.2.2 gX8_fact_X8_withBit rfl rfl rfl (by decide +kernel) ⟨Nat.le_of_ble_eq_true rfl, Nat.le_of_ble_eq_true rfl⟩) (zpS hK hP hD (is := []) rfl rfl) rfl rfl hl.1 rfl (lv_room (Nat.le_of_ble_eq_true rfl)) dX8_fact_41 ⟨Nat.zero_le _, Nat.zero_le _⟩) (fun hn41 => ?_)
      refine zp0_facts (bs1 := (w8 G arc (ac 0) orc_rounds orc_thought orc_thoughtRounds orc_chain (ahi 0) orc_kept orc_words orc_sheet orc_rows brc :: w0 G ac (s0_facts bc t41) :: w1 G ahi aik sg (nI D) un :: hcs G aik y)) S in_X8_fact_0 hK hP hD hS 1 rfl (List.mem_of_getElem? (i := 2) rfl) dX8_fact_44 rfl (fun H locs hP hD hS => ?_)
      refine lv_aload_n hx hb dX8_fact_47 rfl (lv_at hl 1 rfl) ?_
      obtain ⟨t48, ht48⟩ : ∃ z, FX8_changed (g8_isSettled brc) (g0_kind bc) (g0_head bc) (g0_body bc) (g0_excepts bc) (g0_power bc) (g0_beats bc) t41 (g0_size bc) (g0_shut bc) sg y D un = z := ⟨_, rfl⟩
      have hE := hE.trans (bnd_eq ht48)
      have hc := c_X8_changed l G arc ac ahi aik orc_rounds orc_thought orc_thoughtRounds orc_chain orc_kept orc_words orc_sheet orc_rows brc (s0_facts bc t41) sg y D un (hs_hi_sg) (hd_hi_D) _ (by simp only [gs0_kind_facts, gs0_head_facts, gs0_body_facts, gs0_excepts_facts, gs0_power_facts, gs0_beats_facts, gg0_facts, gs0_size_facts, gs0_shut_facts]; exact ht48)
      refine zgoV (bs' := (w8 G arc (ac 0) orc_rounds orc_thought orc_thoughtRounds orc_chain (ahi 0) orc_kept orc_words orc_sheet orc_rows (s8_isSettled brc t48.1) :: w0 G ac (s0_facts bc t41) :: w1 G ahi aik t48.2.1 (nI t48.2.2.2.1) t48.2.2.2.2 :: hcs G aik t48.2.2.1)) hc [0, 1, 2, 3, 4, 5, 6, 7, 8, 9, 10, 11, 12, 13, 14, 15] rfl rfl rfl hP hD hS hA (va_runV (As := []) (rest := []) S (hc.2 _) (cwV 0 S.2.2.2.2 gX8_fact_X8_changed rfl rfl rfl (by decide +kernel) ⟨Nat.le_of_ble_eq_true rfl, Nat.le_of_ble_eq_true rfl⟩) (zpV hK hP hD (is := [0, 1, 2, 3, 4, 5, 6, 7, 8, 9, 10, 11, 12, 13, 14, 15]) rfl rfl 0 rfl rfl (ci := 8) rfl) rfl rfl hl.1 rfl (lv_room (Nat.le_of_ble_eq_true rfl)) dX8_fact_48 ⟨Nat.zero_le _, Nat.zero_le _⟩) (fun H locs hP hD hS => ?_)
      have hs_hi_sg_48 : ∀ j : Nat, j < 13 → t48.2.1 j < 13 := by rw [← ht48]; exact zkS_lt hs_hi_sg
      have hd_hi_D_48 : t48.2.2.2.1 ≤ 12 := by rw [← ht48]; exact zkD_le hd_hi_D
      refine lv_iload_n hx hb dX8_fact_51 rfl (lv_at hl 0 rfl) ?_
      exact hret _ _ _ _ _ _ (by subst hE; rfl) rfl hP hS dX8_fact_52
    · have hE := hE.trans (if_pos c11)
      refine lv_iconst (v := (-1)) hx hb dX8_fact_14 (by decide) ?_
      rw [show brc = (s8_isSettled brc (g8_isSettled brc)) from ((se8_isSettled _).symm)] at hP hD
      rw [show bc = (s0_facts bc (g0_facts bc)) from ((se0_facts _).symm)] at hP hD
      exact hret _ _ _ _ _ _ (by subst hE; rfl) rfl hP hS dX8_fact_15

theorem in_X8_rule_0 : ∀ w ∈ u_ws RX0 TX0 9, w ∈ wsX8_rule := by decide +kernel
theorem in_X8_rule_8 : ∀ w ∈ u_ws RX8 TX8 12, w ∈ wsX8_rule := by decide +kernel
def rmX8_rule : Room := { frames := 4, cells := 0, slots := 0, locals := 102 }
set_option maxHeartbeats 4000000 in
set_option maxRecDepth 100000 in
theorem c_X8_rule (l : Launch) (G : zG) (arc : Nat → Nat) (ac : Nat → Nat) (ahi : Nat → Nat) (aik : Nat → Nat → Nat) (orc_rounds : Nat) (orc_thought : Nat) (orc_thoughtRounds : Nat) (orc_chain : Nat) (orc_kept : Nat) (orc_words : Nat) (orc_sheet : Nat) (orc_rows : Nat) (brc : S8) (bc : S0) (sg : Nat → Nat) (y : Nat → S0) (D : Nat) (un : Int32) (x1 : Int32) (x2 : Int32) (x3 : Int32) (x4 : Int32) (x5 : Int32) (hz_c_size : ∃ N : Nat, N ≤ 16 ∧ g0_size bc = nI N) (hs_hi_sg : ∀ j : Nat, j < 13 → sg j < 13) (hd_hi_D : D ≤ 12) (T : Int32 × (Int32) × (Nat → Int32) × (Nat → Int32) × (Nat → Int32) × (Nat → Int32) × (Nat → Int32) × (Nat → Int32) × (Int32) × (Nat → Nat) × (Nat → S0) × (Nat) × (Int32)) (hT : FX8_rule (g8_isSettled brc) (g0_kind bc) (g0_head bc) (g0_body bc) (g0_excepts bc) (g0_power bc) (g0_beats bc) (g0_facts bc) (g0_size bc) (g0_shut bc) sg y D un x1 x2 x3 x4 x5 = T) : zI l yX8_rule wsX8_rule rmX8_rule .int G [.ref (arc 0), .int x1, .int x2, .int x3, .int x4, .int x5] (w8 G arc (ac 0) orc_rounds orc_thought orc_thoughtRounds orc_chain (ahi 0) orc_kept orc_words orc_sheet orc_rows brc :: w0 G ac bc :: w1 G ahi aik sg (nI D) un :: hcs G aik y) T.1 (w8 G arc (ac 0) orc_rounds orc_thought orc_thoughtRounds orc_chain (ahi 0) orc_kept orc_words orc_sheet orc_rows (s8_isSettled brc T.2.1) :: w0 G ac (s0_size (s0_beats (s0_power (s0_excepts (s0_body (s0_head (s0_kind bc T.2.2.1) T.2.2.2.1) T.2.2.2.2.1) T.2.2.2.2.2.1) T.2.2.2.2.2.2.1) T.2.2.2.2.2.2.2.1) T.2.2.2.2.2.2.2.2.1) :: w1 G ahi aik T.2.2.2.2.2.2.2.2.2.1 (nI T.2.2.2.2.2.2.2.2.2.2.2.1) T.2.2.2.2.2.2.2.2.2.2.2.2 :: hcs G aik T.2.2.2.2.2.2.2.2.2.2.1) := by
  refine zI.mk (cc := cX8_rule) (maxL := 6) (by decide +kernel) rfl (Nat.le_of_ble_eq_true rfl) (zfl_cons (wf8 _ _ _ _ _ _ _ _ _ _ _ _ _ _) (zfl_cons (wf0 _ _ _ _) (zfl_cons rfl (hcs_fst0 _ _ _ _)))) ?_
  intro p e s m args below meth c Q A ls S hK hD hA hP hl hret
  have hx := S.1
  have hb := S.2.1
  have hS : va_S A s.heap s.heap [] := va_S.rf
  have hl : lv_has ls 6 [(0, .ref (arc 0)), (1, .int x1), (2, .int x2), (3, .int x3), (4, .int x4), (5, .int x5)] := hl
  have hE := hT.symm.trans (FX8_rule.eq_1 _ _ _ _ _ _ _ _ _ _ _ _ _ _ _ _ _ _ _)
  refine lv_iload_n hx hb dX8_rule_0 rfl (lv_at hl 1 rfl) ?_
  refine lv_if_lt (tgt := 24) hx hb dX8_rule_1 (by decide) (fun c1 => ?_) (fun c1 => ?_)
  · have hE := hE.trans (if_pos c1)
    refine lv_iconst (v := (-1)) hx hb dX8_rule_24 (by decide) ?_
    rw [show brc = (s8_isSettled brc (g8_isSettled brc)) from ((se8_isSettled _).symm)] at hP hD
    rw [show bc = (s0_size (s0_beats (s0_power (s0_excepts (s0_body (s0_head (s0_kind bc (g0_kind bc)) (g0_head bc)) (g0_body bc)) (g0_excepts bc)) (g0_power bc)) (g0_beats bc)) (g0_size bc)) from ((((((((se0_kind _).symm).trans (((se0_head _).symm).trans (congrArg (fun v => s0_head (s0_kind bc (g0_kind bc)) v) (gs0_head_kind _ (g0_kind bc))))).trans (((se0_body _).symm).trans (congrArg (fun v => s0_body (s0_head (s0_kind bc (g0_kind bc)) (g0_head bc)) v) ((gs0_body_head _ (g0_head bc)).trans (gs0_body_kind _ (g0_kind bc)))))).trans (((se0_excepts _).symm).trans (congrArg (fun v => s0_excepts (s0_body (s0_head (s0_kind bc (g0_kind bc)) (g0_head bc)) (g0_body bc)) v) ((gs0_excepts_body _ (g0_body bc)).trans ((gs0_excepts_head _ (g0_head bc)).trans (gs0_excepts_kind _ (g0_kind bc))))))).trans (((se0_power _).symm).trans (congrArg (fun v => s0_power (s0_excepts (s0_body (s0_head (s0_kind bc (g0_kind bc)) (g0_head bc)) (g0_body bc)) (g0_excepts bc)) v) ((gs0_power_excepts _ (g0_excepts bc)).trans ((gs0_power_body _ (g0_body bc)).trans ((gs0_power_head _ (g0_head bc)).trans (gs0_power_kind _ (g0_kind bc)))))))).trans (((se0_beats _).symm).trans (congrArg (fun v => s0_beats (s0_power (s0_excepts (s0_body (s0_head (s0_kind bc (g0_kind bc)) (g0_head bc)) (g0_body bc)) (g0_excepts bc)) (g0_power bc)) v) ((gs0_beats_power _ (g0_power bc)).trans ((gs0_beats_excepts _ (g0_excepts bc)).trans ((gs0_beats_body _ (g0_body bc)).trans ((gs0_beats_head _ (g0_head bc)).trans (gs0_beats_kind _ (g0_kind bc))))))))).trans (((se0_size _).symm).trans (congrArg (fun v => s0_size (s0_beats (s0_power (s0_excepts (s0_body (s0_head (s0_kind bc (g0_kind bc)) (g0_head bc)) (g0_body bc)) (g0_excepts bc)) (g0_power bc)) (g0_beats bc)) v) ((gs0_size_beats _ (g0_beats bc)).trans ((gs0_size_power _ (g0_power bc)).trans ((gs0_size_excepts _ (g0_excepts bc)).trans ((gs0_size_body _ (g0_body bc)).trans ((gs0_size_head _ (g0_head bc)).trans (gs0_size_kind _ (g0_kind bc))))))))))] at hP hD
    exact hret _ _ _ _ _ _ (by subst hE; rfl) rfl hP hS dX8_rule_25
  · have hE := hE.trans (if_neg c1)
    refine lv_iload_n hx hb dX8_rule_4 rfl (lv_at hl 1 rfl) ?_
    refine lv_iconst (v := 2) hx hb dX8_rule_5 (by decide) ?_
    refine lv_icmp_gt (tgt := 24) hx hb dX8_rule_6 (by decide) (fun c6 => ?_) (fun c6 => ?_)
    · have hE := hE.trans (if_pos c6)
      refine lv_iconst (v := (-1)) hx hb dX8_rule_24 (by decide) ?_
      rw [show brc = (s8_isSettled brc (g8_isSettled brc)) from ((se8_isSettled _).symm)] at hP hD
      rw [show bc = (s0_size (s0_beats (s0_power (s0_excepts (s0_body (s0_head (s0_kind bc (g0_kind bc)) (g0_head bc)) (g0_body bc)) (g0_excepts bc)) (g0_power bc)) (g0_beats bc)) (g0_size bc)) from ((((((((se0_kind _).symm).trans (((se0_head _).symm).trans (congrArg (fun v => s0_head (s0_kind bc (g0_kind bc)) v) (gs0_head_kind _ (g0_kind bc))))).trans (((se0_body _).symm).trans (congrArg (fun v => s0_body (s0_head (s0_kind bc (g0_kind bc)) (g0_head bc)) v) ((gs0_body_head _ (g0_head bc)).trans (gs0_body_kind _ (g0_kind bc)))))).trans (((se0_excepts _).symm).trans (congrArg (fun v => s0_excepts (s0_body (s0_head (s0_kind bc (g0_kind bc)) (g0_head bc)) (g0_body bc)) v) ((gs0_excepts_body _ (g0_body bc)).trans ((gs0_excepts_head _ (g0_head bc)).trans (gs0_excepts_kind _ (g0_kind bc))))))).trans (((se0_power _).symm).trans (congrArg (fun v => s0_power (s0_excepts (s0_body (s0_head (s0_kind bc (g0_kind bc)) (g0_head bc)) (g0_body bc)) (g0_excepts bc)) v) ((gs0_power_excepts _ (g0_excepts bc)).trans ((gs0_power_body _ (g0_body bc)).trans ((gs0_power_head _ (g0_head bc)).trans (gs0_power_kind _ (g0_kind bc)))))))).trans (((se0_beats _).symm).trans (congrArg (fun v => s0_beats (s0_power (s0_excepts (s0_body (s0_head (s0_kind bc (g0_kind bc)) (g0_head bc)) (g0_body bc)) (g0_excepts bc)) (g0_power bc)) v) ((gs0_beats_power _ (g0_power bc)).trans ((gs0_beats_excepts _ (g0_excepts bc)).trans ((gs0_beats_body _ (g0_body bc)).trans ((gs0_beats_head _ (g0_head bc)).trans (gs0_beats_kind _ (g0_kind bc))))))))).trans (((se0_size _).symm).trans (congrArg (fun v => s0_size (s0_beats (s0_power (s0_excepts (s0_body (s0_head (s0_kind bc (g0_kind bc)) (g0_head bc)) (g0_body bc)) (g0_excepts bc)) (g0_power bc)) (g0_beats bc)) v) ((gs0_size_beats _ (g0_beats bc)).trans ((gs0_size_power _ (g0_power bc)).trans ((gs0_size_excepts _ (g0_excepts bc)).trans ((gs0_size_body _ (g0_body bc)).trans ((gs0_size_head _ (g0_head bc)).trans (gs0_size_kind _ (g0_kind bc))))))))))] at hP hD
      exact hret _ _ _ _ _ _ (by subst hE; rfl) rfl hP hS dX8_rule_25
    · have hE := hE.trans (if_neg c6)
      refine lv_iload_n hx hb dX8_rule_9 rfl (lv_at hl 2 rfl) ?_
      obtain ⟨t10, ht10⟩ : ∃ z, FX8_isLiteral x2 = z := ⟨_, rfl⟩
      have hE := hE.trans (bnd_eq ht10)
      have hc := c_X8_isLiteral l G x2 _ ht10
      refine zgoR (va_runS (As := [.int x2]) (rest := []) S (hc _) (va_cwS 1 S.2.2.2.2 gX8_rule_X8_isLiteral rfl rfl rfl (by decide +kernel) ⟨Nat.le_of_ble_eq_true rfl, Nat.le_of_ble_eq_true rfl⟩) (zpS hK hP hD (is := []) rfl rfl) rfl rfl hl.1 rfl (lv_room (Nat.le_of_ble_eq_true rfl)) dX8_rule_10 ⟨Nat.zero_le _, Nat.zero_le _⟩) (fun hn10 => ?_)
      refine lv_if_eq (tgt := 24) hx hb dX8_rule_13 (by decide) (fun c13 => ?_) (fun c13 => ?_)
      · have hE := hE.trans (if_pos c13)
        refine lv_iconst (v := (-1)) hx hb dX8_rule_24 (by decide) ?_
        rw [show brc = (s8_isSettled brc (g8_isSettled brc)) from ((se8_isSettled _).symm)] at hP hD
        rw [show bc = (s0_size (s0_beats (s0_power (s0_excepts (s0_body (s0_head (s0_kind bc (g0_kind bc)) (g0_head bc)) (g0_body bc)) (g0_excepts bc)) (g0_power bc)) (g0_beats bc)) (g0_size bc)) from ((((((((se0_kind _).symm).trans (((se0_head _).symm).trans (congrArg (fun v => s0_head (s0_kind bc (g0_kind bc)) v) (gs0_head_kind _ (g0_kind bc))))).trans (((se0_body _).symm).trans (congrArg (fun v => s0_body (s0_head (s0_kind bc (g0_kind bc)) (g0_head bc)) v) ((gs0_body_head _ (g0_head bc)).trans (gs0_body_kind _ (g0_kind bc)))))).trans (((se0_excepts _).symm).trans (congrArg (fun v => s0_excepts (s0_body (s0_head (s0_kind bc (g0_kind bc)) (g0_head bc)) (g0_body bc)) v) ((gs0_excepts_body _ (g0_body bc)).trans ((gs0_excepts_head _ (g0_head bc)).trans (gs0_excepts_kind _ (g0_kind bc))))))).trans (((se0_power _).symm).trans (congrArg (fun v => s0_power (s0_excepts (s0_body (s0_head (s0_kind bc (g0_kind bc)) (g0_head bc)) (g0_body bc)) (g0_excepts bc)) v) ((gs0_power_excepts _ (g0_excepts bc)).trans ((gs0_power_body _ (g0_body bc)).trans ((gs0_power_head _ (g0_head bc)).trans (gs0_power_kind _ (g0_kind bc)))))))).trans (((se0_beats _).symm).trans (congrArg (fun v => s0_beats (s0_power (s0_excepts (s0_body (s0_head (s0_kind bc (g0_kind bc)) (g0_head bc)) (g0_body bc)) (g0_excepts bc)) (g0_power bc)) v) ((gs0_beats_power _ (g0_power bc)).trans ((gs0_beats_excepts _ (g0_excepts bc)).trans ((gs0_beats_body _ (g0_body bc)).trans ((gs0_beats_head _ (g0_head bc)).trans (gs0_beats_kind _ (g0_kind bc))))))))).trans (((se0_size _).symm).trans (congrArg (fun v => s0_size (s0_beats (s0_power (s0_excepts (s0_body (s0_head (s0_kind bc (g0_kind bc)) (g0_head bc)) (g0_body bc)) (g0_excepts bc)) (g0_power bc)) (g0_beats bc)) v) ((gs0_size_beats _ (g0_beats bc)).trans ((gs0_size_power _ (g0_power bc)).trans ((gs0_size_excepts _ (g0_excepts bc)).trans ((gs0_size_body _ (g0_body bc)).trans ((gs0_size_head _ (g0_head bc)).trans (gs0_size_kind _ (g0_kind bc))))))))))] at hP hD
        exact hret _ _ _ _ _ _ (by subst hE; rfl) rfl hP hS dX8_rule_25
      · have hE := hE.trans (if_neg c13)
        have hx2_20 : vp_in x2 20 := zisLit (by rw [ht10]; exact c13)
        refine lv_iload hx hb dX8_rule_16 (lv_at hl 5 rfl) ?_
        obtain ⟨t18, ht18⟩ : ∃ z, FX8_isStrength x5 = z := ⟨_, rfl⟩
        have hE := hE.trans (bnd_eq ht18)
        have hc := c_X8_isStrength l G x5 _ ht18
        refine zgoR (va_runS (As := [.int x5]) (rest := []) S (hc _) (va_cwS 1 S.2.2.2.2 gX8_rule_X8_isStrength rfl rfl rfl (by decide +kernel) ⟨Nat.le_of_ble_eq_true rfl, Nat.le_of_ble_eq_true rfl⟩) (zpS hK hP hD (is := []) rfl rfl) rfl rfl hl.1 rfl (lv_room (Nat.le_of_ble_eq_true rfl)) dX8_rule_18 ⟨Nat.zero_le _, Nat.zero_le _⟩) (fun hn18 => ?_)
        refine lv_if_ne (tgt := 26) hx hb dX8_rule_21 (by decide) (fun c21 => ?_) (fun c21 => ?_)
        · have hE := hE.trans (if_neg c21)
          refine lv_iload_n hx hb dX8_rule_26 rfl (lv_at hl 3 rfl) ?_
          obtain ⟨t27, ht27⟩ : ∃ z, FX8_areLiterals x3 = z := ⟨_, rfl⟩
          have hE := hE.trans (bnd_eq ht27)
          have hc := c_X8_areLiterals l G x3 _ ht27
          refine zgoR (va_runS (As := [.int x3]) (rest := []) S (hc _) (va_cwS 1 S.2.2.2.2 gX8_rule_X8_areLiterals rfl rfl rfl (by decide +kernel) ⟨Nat.le_of_ble_eq_true rfl, Nat.le_of_ble_eq_true rfl⟩) (zpS hK hP hD (is := []) rfl rfl) rfl rfl hl.1 rfl (lv_room (Nat.le_of_ble_eq_true rfl)) dX8_rule_27 ⟨Nat.zero_le _, Nat.zero_le _⟩) (fun hn27 => ?_)
          refine lv_if_eq (tgt := 50) hx hb dX8_rule_30 (by decide) (fun c30 => ?_) (fun c30 => ?_)
          · have hE := hE.trans (if_pos c30)
            refine lv_iconst (v := (-1)) hx hb dX8_rule_50 (by decide) ?_
            rw [show brc = (s8_isSettled brc (g8_isSettled brc)) from ((se8_isSettled _).symm)] at hP hD
            rw [show bc = (s0_size (s0_beats (s0_power (s0_excepts (s0_body (s0_head (s0_kind bc (g0_kind bc)) (g0_head bc)) (g0_body bc)) (g0_excepts bc)) (g0_power bc)) (g0_beats bc)) (g0_size bc)) from ((((((((se0_kind _).symm).trans (((se0_head _).symm).trans (congrArg (fun v => s0_head (s0_kind bc (g0_kind bc)) v) (gs0_head_kind _ (g0_kind bc))))).trans (((se0_body _).symm).trans (congrArg (fun v => s0_body (s0_head (s0_kind bc (g0_kind bc)) (g0_head bc)) v) ((gs0_body_head _ (g0_head bc)).trans (gs0_body_kind _ (g0_kind bc)))))).trans (((se0_excepts _).symm).trans (congrArg (fun v => s0_excepts (s0_body (s0_head (s0_kind bc (g0_kind bc)) (g0_head bc)) (g0_body bc)) v) ((gs0_excepts_body _ (g0_body bc)).trans ((gs0_excepts_head _ (g0_head bc)).trans (gs0_excepts_kind _ (g0_kind bc))))))).trans (((se0_power _).symm).trans (congrArg (fun v => s0_power (s0_excepts (s0_body (s0_head (s0_kind bc (g0_kind bc)) (g0_head bc)) (g0_body bc)) (g0_excepts bc)) v) ((gs0_power_excepts _ (g0_excepts bc)).trans ((gs0_power_body _ (g0_body bc)).trans ((gs0_power_head _ (g0_head bc)).trans (gs0_power_kind _ (g0_kind bc)))))))).trans (((se0_beats _).symm).trans (congrArg (fun v => s0_beats (s0_power (s0_excepts (s0_body (s0_head (s0_kind bc (g0_kind bc)) (g0_head bc)) (g0_body bc)) (g0_excepts bc)) (g0_power bc)) v) ((gs0_beats_power _ (g0_power bc)).trans ((gs0_beats_excepts _ (g0_excepts bc)).trans ((gs0_beats_body _ (g0_body bc)).trans ((gs0_beats_head _ (g0_head bc)).trans (gs0_beats_kind _ (g0_kind bc))))))))).trans (((se0_size _).symm).trans (congrArg (fun v => s0_size (s0_beats (s0_power (s0_excepts (s0_body (s0_head (s0_kind bc (g0_kind bc)) (g0_head bc)) (g0_body bc)) (g0_excepts bc)) (g0_power bc)) (g0_beats bc)) v) ((gs0_size_beats _ (g0_beats bc)).trans ((gs0_size_power _ (g0_power bc)).trans ((gs0_size_excepts _ (g0_excepts bc)).trans ((gs0_size_body _ (g0_body bc)).trans ((gs0_size_head _ (g0_head bc)).trans (gs0_size_kind _ (g0_kind bc))))))))))] at hP hD
            exact hret _ _ _ _ _ _ (by subst hE; rfl) rfl hP hS dX8_rule_51
          · have hE := hE.trans (if_neg c30)
            refine lv_iload hx hb dX8_rule_33 (lv_at hl 4 rfl) ?_
            obtain ⟨t35, ht35⟩ : ∃ z, FX8_areLiterals x4 = z := ⟨_, rfl⟩
            have hE := hE.trans (bnd_eq ht35)
            have hc := c_X8_areLiterals l G x4 _ ht35
            refine zgoR (va_runS (As := [.int x4]) (rest := []) S (hc _) (va_cwS 1 S.2.2.2.2 gX8_rule_X8_areLiterals rfl rfl rfl (by decide +kernel) ⟨Nat.le_of_ble_eq_true rfl, Nat.le_of_ble_eq_true rfl⟩) (zpS hK hP hD (is := []) rfl rfl) rfl rfl hl.1 rfl (lv_room (Nat.le_of_ble_eq_true rfl)) dX8_rule_35 ⟨Nat.zero_le _, Nat.zero_le _⟩) (fun hn35 => ?_)
            refine lv_if_eq (tgt := 50) hx hb dX8_rule_38 (by decide) (fun c38 => ?_) (fun c38 => ?_)
            · have hE := hE.trans (if_pos c38)
              refine lv_iconst (v := (-1)) hx hb dX8_rule_50 (by decide) ?_
              rw [show brc = (s8_isSettled brc (g8_isSettled brc)) from ((se8_isSettled _).symm)] at hP hD
              rw [show bc = (s0_size (s0_beats (s0_power (s0_excepts (s0_body (s0_head (s0_kind bc (g0_kind bc)) (g0_head bc)) (g0_body bc)) (g0_excepts bc)) (g0_power bc)) (g0_beats bc)) (g0_size bc)) from ((((((((se0_kind _).symm).trans (((se0_head _).symm).trans (congrArg (fun v => s0_head (s0_kind bc (g0_kind bc)) v) (gs0_head_kind _ (g0_kind bc))))).trans (((se0_body _).symm).trans (congrArg (fun v => s0_body (s0_head (s0_kind bc (g0_kind bc)) (g0_head bc)) v) ((gs0_body_head _ (g0_head bc)).trans (gs0_body_kind _ (g0_kind bc)))))).trans (((se0_excepts _).symm).trans (congrArg (fun v => s0_excepts (s0_body (s0_head (s0_kind bc (g0_kind bc)) (g0_head bc)) (g0_body bc)) v) ((gs0_excepts_body _ (g0_body bc)).trans ((gs0_excepts_head _ (g0_head bc)).trans (gs0_excepts_kind _ (g0_kind bc))))))).trans (((se0_power _).symm).trans (congrArg (fun v => s0_power (s0_excepts (s0_body (s0_head (s0_kind bc (g0_kind bc)) (g0_head bc)) (g0_body bc)) (g0_excepts bc)) v) ((gs0_power_excepts _ (g0_excepts bc)).trans ((gs0_power_body _ (g0_body bc)).trans ((gs0_power_head _ (g0_head bc)).trans (gs0_power_kind _ (g0_kind bc)))))))).trans (((se0_beats _).symm).trans (congrArg (fun v => s0_beats (s0_power (s0_excepts (s0_body (s0_head (s0_kind bc (g0_kind bc)) (g0_head bc)) (g0_body bc)) (g0_excepts bc)) (g0_power bc)) v) ((gs0_beats_power _ (g0_power bc)).trans ((gs0_beats_excepts _ (g0_excepts bc)).trans ((gs0_beats_body _ (g0_body bc)).trans ((gs0_beats_head _ (g0_head bc)).trans (gs0_beats_kind _ (g0_kind bc))))))))).trans (((se0_size _).symm).trans (congrArg (fun v => s0_size (s0_beats (s0_power (s0_excepts (s0_body (s0_head (s0_kind bc (g0_kind bc)) (g0_head bc)) (g0_body bc)) (g0_excepts bc)) (g0_power bc)) (g0_beats bc)) v) ((gs0_size_beats _ (g0_beats bc)).trans ((gs0_size_power _ (g0_power bc)).trans ((gs0_size_excepts _ (g0_excepts bc)).trans ((gs0_size_body _ (g0_body bc)).trans ((gs0_size_head _ (g0_head bc)).trans (gs0_size_kind _ (g0_kind bc))))))))))] at hP hD
              exact hret _ _ _ _ _ _ (by subst hE; rfl) rfl hP hS dX8_rule_51
            · have hE := hE.trans (if_neg c38)
              refine lv_iload_n hx hb dX8_rule_41 rfl (lv_at hl 1 rfl) ?_
              have hB52 : ∀ (H : Heap) (locs : List Loc) (ls : Array Slot), T = FX8_rule_52 (g8_isSettled brc) (g0_kind bc) (g0_head bc) (g0_body bc) (g0_excepts bc) (g0_power bc) (g0_beats bc) (g0_facts bc) (g0_size bc) (g0_shut bc) sg y D un x1 x2 x3 x4 x5 (g8_isSettled brc) (g0_kind bc) (g0_head bc) (g0_body bc) (g0_excepts bc) (g0_power bc) (g0_beats bc) (g0_size bc) sg y D un → zP G (w8 G arc (ac 0) orc_rounds orc_thought orc_thoughtRounds orc_chain (ahi 0) orc_kept orc_words orc_sheet orc_rows brc :: w0 G ac bc :: w1 G ahi aik sg (nI D) un :: hcs G aik y) H → zD A (w8 G arc (ac 0) orc_rounds orc_thought orc_thoughtRounds orc_chain (ahi 0) orc_kept orc_words orc_sheet orc_rows brc :: w0 G ac bc :: w1 G ahi aik sg (nI D) un :: hcs G aik y) → va_S A s.heap H locs → lv_has ls 6 [(0, .ref (arc 0)), (1, .int x1), (2, .int x2), (3, .int x3), (4, .int x4), (5, .int x5)] → W p l e rmX8_rule s m args below meth c H locs 0 0 Q (F0 m 52 ls []) := by
                intro H locs ls hE hP hD hS hl
                have hE := hE.trans (FX8_rule_52.eq_1 _ _ _ _ _ _ _ _ _ _ _ _ _ _ _ _ _ _ _ _ _ _ _ _ _ _ _ _ _ _ _)
                refine lv_aload_n hx hb dX8_rule_52 rfl (lv_at hl 0 rfl) ?_
                refine zg8_court S in_X8_rule_8 hK hP 0 rfl (List.mem_of_getElem? (i := 1) rfl) dX8_rule_53 ?_
                refine lv_iload_n hx hb dX8_rule_56 rfl (lv_at hl 1 rfl) ?_
                refine lv_iload_n hx hb dX8_rule_57 rfl (lv_at hl 2 rfl) ?_
                refine lv_iload_n hx hb dX8_rule_58 rfl (lv_at hl 3 rfl) ?_
                refine lv_iload hx hb dX8_rule_59 (lv_at hl 4 rfl) ?_
                refine lv_iload hx hb dX8_rule_61 (lv_at hl 5 rfl) ?_
                obtain ⟨t63, ht63⟩ : ∃ z, FX0_add (g0_kind bc) (g0_head bc) (g0_body bc) (g0_excepts bc) (g0_power bc) (g0_beats bc) (g0_size bc) x1 x2 x3 x4 x5 = z := ⟨_, rfl⟩
                have hE := hE.trans (bnd_eq ht63)
                have hc := c_X0_add l G ac bc x1 x2 x3 x4 x5 (hz_c_size) _ ht63
                refine zgoI (bs' := (w8 G arc (ac 0) orc_rounds orc_thought orc_thoughtRounds orc_chain (ahi 0) orc_kept orc_words orc_sheet orc_rows brc :: w0 G ac (s0_size (s0_beats (s0_power (s0_excepts (s0_body (s0_head (s0_kind bc t63.2.1) t63.2.2.1) t63.2.2.2.1) t63.2.2.2.2.1) t63.2.2.2.2.2.1) t63.2.2.2.2.2.2.1) t63.2.2.2.2.2.2.2) :: w1 G ahi aik sg (nI D) un :: hcs G aik y)) hc [1] rfl rfl rfl hP hD hS hA (va_runV (As := [.int x1, .int x2, .int x3, .int x4, .int x5]) (rest := []) S (hc.2 _) (cwV 5 S.2.2.2.2 gX8_rule_X0_add rfl rfl rfl (by decide +kernel) ⟨Nat.le_of_ble_eq_true rfl, Nat.le_of_ble_eq_true rfl⟩) (zpV hK hP hD (is := [1]) rfl rfl 1 rfl rfl (ci := 0) rfl) rfl rfl hl.1 rfl (lv_room (Nat.le_of_ble_eq_true rfl)) dX8_rule_63 ⟨Nat.zero_le _, Nat.zero_le _⟩) (fun H locs hn63 hP hD hS => ?_)
                refine lv_if_ne (tgt := 72) hx hb dX8_rule_66 (by decide) (fun c66 => ?_) (fun c66 => ?_)
                · have hE := hE.trans (if_neg c66)
                  refine lv_aload_n hx hb dX8_rule_72 rfl (lv_at hl 0 rfl) ?_
                  obtain ⟨t73, ht73⟩ : ∃ z, FX8_changed (g8_isSettled brc) t63.2.1 t63.2.2.1 t63.2.2.2.1 t63.2.2.2.2.1 t63.2.2.2.2.2.1 t63.2.2.2.2.2.2.1 (g0_facts bc) t63.2.2.2.2.2.2.2 (g0_shut bc) sg y D un = z := ⟨_, rfl⟩
                  have hE := hE.trans (bnd_eq ht73)
                  have hc := c_X8_changed l G arc ac ahi aik orc_rounds orc_thought orc_thoughtRounds orc_chain orc_kept orc_words orc_sheet orc_rows brc (s0_size (s0_beats (s0_power (s0_excepts (s0_body (s0_head (s0_kind bc t63.2.1) t63.2.2.1) t63.2.2.2.1) t63.2.2.2.2.1) t63.2.2.2.2.2.1) t63.2.2.2.2.2.2.1) t63.2.2.2.2.2.2.2) sg y D un (hs_hi_sg) (hd_hi_D) _ (by simp only [gs0_kind_size, gs0_kind_beats, gs0_kind_power, gs0_kind_excepts, gs0_kind_body, gs0_kind_head, gg0_kind, gs0_head_size, gs0_head_beats, gs0_head_power, gs0_head_excepts, gs0_head_body, gg0_head, gs0_body_size, gs0_body_beats, gs0_body_power, gs0_body_excepts, gg0_body, gs0_excepts_size, gs0_excepts_beats, gs0_excepts_power, gg0_excepts, gs0_power_size, gs0_power_beats, gg0_power, gs0_beats_size, gg0_beats, gs0_facts_size, gs0_facts_beats, gs0_facts_power, gs0_facts_excepts, gs0_facts_body, gs0_facts_head, gs0_facts_kind, gg0_size, gs0_shut_size, gs0_shut_beats, gs0_shut_power, gs0_shut_excepts, gs0_shut_body, gs0_shut_head, gs0_shut_kind]; exact ht73)
                  refine zgoV (bs' := (w8 G arc (ac 0) orc_rounds orc_thought orc_thoughtRounds orc_chain (ahi 0) orc_kept orc_words orc_sheet orc_rows (s8_isSettled brc t73.1) :: w0 G ac (s0_size (s0_beats (s0_power (s0_excepts (s0_body (s0_head (s0_kind bc t63.2.1) t63.2.2.1) t63.2.2.2.1) t63.2.2.2.2.1) t63.2.2.2.2.2.1) t63.2.2.2.2.2.2.1) t63.2.2.2.2.2.2.2) :: w1 G ahi aik t73.2.1 (nI t73.2.2.2.1) t73.2.2.2.2 :: hcs G aik t73.2.2.1)) hc [0, 1, 2, 3, 4, 5, 6, 7, 8, 9, 10, 11, 12, 13, 14, 15] rfl rfl rfl hP hD hS hA (va_runV (As := []) (rest := []) S (hc.2 _) (cwV 0 S.2.2.2.2 gX8_rule_X8_changed rfl rfl rfl (by decide +kernel) ⟨Nat.le_of_ble_eq_true rfl, Nat.le_of_ble_eq_true rfl⟩) (zpV hK hP hD (is := [0, 1, 2, 3, 4, 5, 6, 7, 8, 9, 10, 11, 12, 13, 14, 15]) rfl rfl 0 rfl rfl (ci := 8) rfl) rfl rfl hl.1 rfl (lv_room (Nat.le_of_ble_eq_true rfl)) dX8_rule_73 ⟨Nat.zero_le _, Nat.zero_le _⟩) (fun H locs hP hD hS => ?_)
                  have hs_hi_sg_73 : ∀ j : Nat, j < 13 → t73.2.1 j < 13 := by rw [← ht73]; exact zkS_lt hs_hi_sg
                  have hd_hi_D_73 : t73.2.2.2.1 ≤ 12 := by rw [← ht73]; exact zkD_le hd_hi_D
                  refine lv_aload_n hx hb dX8_rule_76 rfl (lv_at hl 0 rfl) ?_
                  refine zg8_court S in_X8_rule_8 hK hP 0 rfl (List.mem_of_getElem? (i := 1) rfl) dX8_rule_77 ?_
                  refine zg0_size S in_X8_rule_0 hK hP 1 rfl (List.mem_of_getElem? (i := 2) rfl) (v := t63.2.2.2.2.2.2.2) (gg0_size _ t63.2.2.2.2.2.2.2) dX8_rule_80 ?_
                  refine lv_iconst (v := 1) hx hb dX8_rule_83 (by decide) ?_
                  refine lv_isub hx hb dX8_rule_84 ?_
                  exact hret _ _ _ _ _ _ (by subst hE; rfl) rfl hP hS dX8_rule_85
                · have hE := hE.trans (if_pos c66)
                  refine lv_bipush (v := (-3)) hx hb dX8_rule_69 (by decide) ?_
                  rw [show brc = (s8_isSettled brc (g8_isSettled brc)) from ((se8_isSettled _).symm)] at hP hD
                  exact hret _ _ _ _ _ _ (by subst hE; rfl) rfl hP hS dX8_rule_71
              refine lv_if_ne (tgt := 52) hx hb dX8_rule_42 (by decide) (fun c42 => ?_) (fun c42 => ?_)
              · have hE := hE.trans (if_neg c42)
                exact hB52 _ _ _ hE hP hD hS (lv_sub hl [0, 1, 2, 3, 4, 5] rfl)
              · have hE := hE.trans (if_pos c42)
                refine lv_iload hx hb dX8_rule_45 (lv_at hl 4 rfl) ?_
                refine lv_if_eq (tgt := 52) hx hb dX8_rule_47 (by decide) (fun c47 => ?_) (fun c47 => ?_)
                · have hE := hE.trans (if_pos c47)
                  exact hB52 _ _ _ hE hP hD hS (lv_sub hl [0, 1, 2, 3, 4, 5] rfl)
                · have hE := hE.trans (if_neg c47)
                  refine lv_iconst (v := (-1)) hx hb dX8_rule_50 (by decide) ?_
                  rw [show brc = (s8_isSettled brc (g8_isSettled brc)) from ((se8_isSettled _).symm)] at hP hD
                  rw [show bc = (s0_size (s0_beats (s0_power (s0_excepts (s0_body (s0_head (s0_kind bc (g0_kind bc)) (g0_head bc)) (g0_body bc)) (g0_excepts bc)) (g0_power bc)) (g0_beats bc)) (g0_size bc)) from ((((((((se0_kind _).symm).trans (((se0_head _).symm).trans (congrArg (fun v => s0_head (s0_kind bc (g0_kind bc)) v) (gs0_head_kind _ (g0_kind bc))))).trans (((se0_body _).symm).trans (congrArg (fun v => s0_body (s0_head (s0_kind bc (g0_kind bc)) (g0_head bc)) v) ((gs0_body_head _ (g0_head bc)).trans (gs0_body_kind _ (g0_kind bc)))))).trans (((se0_excepts _).symm).trans (congrArg (fun v => s0_excepts (s0_body (s0_head (s0_kind bc (g0_kind bc)) (g0_head bc)) (g0_body bc)) v) ((gs0_excepts_body _ (g0_body bc)).trans ((gs0_excepts_head _ (g0_head bc)).trans (gs0_excepts_kind _ (g0_kind bc))))))).trans (((se0_power _).symm).trans (congrArg (fun v => s0_power (s0_excepts (s0_body (s0_head (s0_kind bc (g0_kind bc)) (g0_head bc)) (g0_body bc)) (g0_excepts bc)) v) ((gs0_power_excepts _ (g0_excepts bc)).trans ((gs0_power_body _ (g0_body bc)).trans ((gs0_power_head _ (g0_head bc)).trans (gs0_power_kind _ (g0_kind bc)))))))).trans (((se0_beats _).symm).trans (congrArg (fun v => s0_beats (s0_power (s0_excepts (s0_body (s0_head (s0_kind bc (g0_kind bc)) (g0_head bc)) (g0_body bc)) (g0_excepts bc)) (g0_power bc)) v) ((gs0_beats_power _ (g0_power bc)).trans ((gs0_beats_excepts _ (g0_excepts bc)).trans ((gs0_beats_body _ (g0_body bc)).trans ((gs0_beats_head _ (g0_head bc)).trans (gs0_beats_kind _ (g0_kind bc))))))))).trans (((se0_size _).symm).trans (congrArg (fun v => s0_size (s0_beats (s0_power (s0_excepts (s0_body (s0_head (s0_kind bc (g0_kind bc)) (g0_head bc)) (g0_body bc)) (g0_excepts bc)) (g0_power bc)) (g0_beats bc)) v) ((gs0_size_beats _ (g0_beats bc)).trans ((gs0_size_power _ (g0_power bc)).trans ((gs0_size_excepts _ (g0_excepts bc)).trans ((gs0_size_body _ (g0_body bc)).trans ((gs0_size_head _ (g0_head bc)).trans (gs0_size_kind _ (g0_kind bc))))))))))] at hP hD
                  exact hret _ _ _ _ _ _ (by subst hE; rfl) rfl hP hS dX8_rule_51
        · have hE := hE.trans (if_pos c21)
          refine lv_iconst (v := (-1)) hx hb dX8_rule_24 (by decide) ?_
          rw [show brc = (s8_isSettled brc (g8_isSettled brc)) from ((se8_isSettled _).symm)] at hP hD
          rw [show bc = (s0_size (s0_beats (s0_power (s0_excepts (s0_body (s0_head (s0_kind bc (g0_kind bc)) (g0_head bc)) (g0_body bc)) (g0_excepts bc)) (g0_power bc)) (g0_beats bc)) (g0_size bc)) from ((((((((se0_kind _).symm).trans (((se0_head _).symm).trans (congrArg (fun v => s0_head (s0_kind bc (g0_kind bc)) v) (gs0_head_kind _ (g0_kind bc))))).trans (((se0_body _).symm).trans (congrArg (fun v => s0_body (s0_head (s0_kind bc (g0_kind bc)) (g0_head bc)) v) ((gs0_body_head _ (g0_head bc)).trans (gs0_body_kind _ (g0_kind bc)))))).trans (((se0_excepts _).symm).trans (congrArg (fun v => s0_excepts (s0_body (s0_head (s0_kind bc (g0_kind bc)) (g0_head bc)) (g0_body bc)) v) ((gs0_excepts_body _ (g0_body bc)).trans ((gs0_excepts_head _ (g0_head bc)).trans (gs0_excepts_kind _ (g0_kind bc))))))).trans (((se0_power _).symm).trans (congrArg (fun v => s0_power (s0_excepts (s0_body (s0_head (s0_kind bc (g0_kind bc)) (g0_head bc)) (g0_body bc)) (g0_excepts bc)) v) ((gs0_power_excepts _ (g0_excepts bc)).trans ((gs0_power_body _ (g0_body bc)).trans ((gs0_power_head _ (g0_head bc)).trans (gs0_power_kind _ (g0_kind bc)))))))).trans (((se0_beats _).symm).trans (congrArg (fun v => s0_beats (s0_power (s0_excepts (s0_body (s0_head (s0_kind bc (g0_kind bc)) (g0_head bc)) (g0_body bc)) (g0_excepts bc)) (g0_power bc)) v) ((gs0_beats_power _ (g0_power bc)).trans ((gs0_beats_excepts _ (g0_excepts bc)).trans ((gs0_beats_body _ (g0_body bc)).trans ((gs0_beats_head _ (g0_head bc)).trans (gs0_beats_kind _ (g0_kind bc))))))))).trans (((se0_size _).symm).trans (congrArg (fun v => s0_size (s0_beats (s0_power (s0_excepts (s0_body (s0_head (s0_kind bc (g0_kind bc)) (g0_head bc)) (g0_body bc)) (g0_excepts bc)) (g0_power bc)) (g0_beats bc)) v) ((gs0_size_beats _ (g0_beats bc)).trans ((gs0_size_power _ (g0_power bc)).trans ((gs0_size_excepts _ (g0_excepts bc)).trans ((gs0_size_body _ (g0_body bc)).trans ((gs0_size_head _ (g0_head bc)).trans (gs0_size_kind _ (g0_kind bc))))))))))] at hP hD
          exact hret _ _ _ _ _ _ (by subst hE; rfl) rfl hP hS dX8_rule_25

theorem in_X8_off_0 : ∀ w ∈ u_ws RX0 TX0 9, w ∈ wsX8_off := by decide +kernel
theorem in_X8_off_8 : ∀ w ∈ u_ws RX8 TX8 12, w ∈ wsX8_off := by decide +kernel
def rmX8_off : Room := { frames := 4, cells := 0, slots := 0, locals := 102 }
set_option maxHeartbeats 4000000 in
set_option maxRecDepth 100000 in
theorem c_X8_off (l : Launch) (G : zG) (arc : Nat → Nat) (ac : Nat → Nat) (ahi : Nat → Nat) (aik : Nat → Nat → Nat) (orc_rounds : Nat) (orc_thought : Nat) (orc_thoughtRounds : Nat) (orc_chain : Nat) (orc_kept : Nat) (orc_words : Nat) (orc_sheet : Nat) (orc_rows : Nat) (brc : S8) (bc : S0) (sg : Nat → Nat) (y : Nat → S0) (D : Nat) (un : Int32) (x1 : Int32) (x2 : Int32) (hz_c_size : ∃ N : Nat, N ≤ 16 ∧ g0_size bc = nI N) (hs_hi_sg : ∀ j : Nat, j < 13 → sg j < 13) (hd_hi_D : D ≤ 12) (T : Int32 × (Int32) × (Int32) × (Nat → Nat) × (Nat → S0) × (Nat) × (Int32)) (hT : FX8_off (g8_isSettled brc) (g0_kind bc) (g0_head bc) (g0_body bc) (g0_excepts bc) (g0_power bc) (g0_beats bc) (g0_facts bc) (g0_size bc) (g0_shut bc) sg y D un x1 x2 = T) : zI l yX8_off wsX8_off rmX8_off .int G [.ref (arc 0), .int x1, .int x2] (w8 G arc (ac 0) orc_rounds orc_thought orc_thoughtRounds orc_chain (ahi 0) orc_kept orc_words orc_sheet orc_rows brc :: w0 G ac bc :: w1 G ahi aik sg (nI D) un :: hcs G aik y) T.1 (w8 G arc (ac 0) orc_rounds orc_thought orc_thoughtRounds orc_chain (ahi 0) orc_kept orc_words orc_sheet orc_rows (s8_isSettled brc T.2.1) :: w0 G ac (s0_shut bc T.2.2.1) :: w1 G ahi aik T.2.2.2.1 (nI T.2.2.2.2.2.1) T.2.2.2.2.2.2 :: hcs G aik T.2.2.2.2.1) := by
  refine zI.mk (cc := cX8_off) (maxL := 4) (by decide +kernel) rfl (Nat.le_of_ble_eq_true rfl) (zfl_cons (wf8 _ _ _ _ _ _ _ _ _ _ _ _ _ _) (zfl_cons (wf0 _ _ _ _) (zfl_cons rfl (hcs_fst0 _ _ _ _)))) ?_
  intro p e s m args below meth c Q A ls S hK hD hA hP hl hret
  have hx := S.1
  have hb := S.2.1
  have hS : va_S A s.heap s.heap [] := va_S.rf
  have hl : lv_has ls 4 [(0, .ref (arc 0)), (1, .int x1), (2, .int x2)] := hl
  have hE := hT.symm.trans (FX8_off.eq_1 _ _ _ _ _ _ _ _ _ _ _ _ _ _ _ _)
  refine lv_aload_n hx hb dX8_off_0 rfl (lv_at hl 0 rfl) ?_
  refine zg8_court S in_X8_off_8 hK hP 0 rfl (List.mem_of_getElem? (i := 1) rfl) dX8_off_1 ?_
  refine lv_iload_n hx hb dX8_off_4 rfl (lv_at hl 1 rfl) ?_
  obtain ⟨t5, ht5⟩ : ∃ z, FX0_hasRule (g0_size bc) x1 = z := ⟨_, rfl⟩
  have hE := hE.trans (bnd_eq ht5)
  have hc := c_X0_hasRule l G ac bc x1 _ ht5
  refine zgoR (va_runV (As := [.int x1]) (rest := []) S (hc _) (cwV 1 S.2.2.2.2 gX8_off_X0_hasRule rfl rfl rfl (by decide +kernel) ⟨Nat.le_of_ble_eq_true rfl, Nat.le_of_ble_eq_true rfl⟩) (zpV hK hP hD (is := [1]) rfl rfl 1 rfl rfl (ci := 0) rfl) rfl rfl hl.1 rfl (lv_room (Nat.le_of_ble_eq_true rfl)) dX8_off_5 ⟨Nat.zero_le _, Nat.zero_le _⟩) (fun hn5 => ?_)
  refine lv_if_eq (tgt := 18) hx hb dX8_off_8 (by decide) (fun c8 => ?_) (fun c8 => ?_)
  · have hE := hE.trans (if_pos c8)
    refine lv_iconst (v := (-1)) hx hb dX8_off_18 (by decide) ?_
    rw [show brc = (s8_isSettled brc (g8_isSettled brc)) from ((se8_isSettled _).symm)] at hP hD
    rw [show bc = (s0_shut bc (g0_shut bc)) from ((se0_shut _).symm)] at hP hD
    exact hret _ _ _ _ _ _ (by subst hE; rfl) rfl hP hS dX8_off_19
  · have hE := hE.trans (if_neg c8)
    have hx1_16 : vp_in x1 16 := zhasRule hz_c_size (by rw [ht5]; exact c8)
    refine lv_iload_n hx hb dX8_off_11 rfl (lv_at hl 2 rfl) ?_
    obtain ⟨t12, ht12⟩ : ∃ z, FX8_isYesOrNo x2 = z := ⟨_, rfl⟩
    have hE := hE.trans (bnd_eq ht12)
    have hc := c_X8_isYesOrNo l G x2 _ ht12
    refine zgoR (va_runS (As := [.int x2]) (rest := []) S (hc _) (va_cwS 1 S.2.2.2.2 gX8_off_X8_isYesOrNo rfl rfl rfl (by decide +kernel) ⟨Nat.le_of_ble_eq_true rfl, Nat.le_of_ble_eq_true rfl⟩) (zpS hK hP hD (is := []) rfl rfl) rfl rfl hl.1 rfl (lv_room (Nat.le_of_ble_eq_true rfl)) dX8_off_12 ⟨Nat.zero_le _, Nat.zero_le _⟩) (fun hn12 => ?_)
    refine lv_if_ne (tgt := 20) hx hb dX8_off_15 (by decide) (fun c15 => ?_) (fun c15 => ?_)
    · have hE := hE.trans (if_neg c15)
      refine lv_aload_n hx hb dX8_off_20 rfl (lv_at hl 0 rfl) ?_
      refine zg8_court S in_X8_off_8 hK hP 0 rfl (List.mem_of_getElem? (i := 1) rfl) dX8_off_21 ?_
      refine zg0_shut S in_X8_off_0 hK hP 1 rfl (List.mem_of_getElem? (i := 2) rfl) (v := (g0_shut bc)) rfl dX8_off_24 ?_
      refine lv_iload_n hx hb dX8_off_27 rfl (lv_at hl 1 rfl) ?_
      obtain ⟨t28, ht28⟩ : ∃ z, FX8_bit (g0_shut bc) x1 = z := ⟨_, rfl⟩
      have hE := hE.trans (bnd_eq ht28)
      have hc := c_X8_bit l G (g0_shut bc) x1 _ ht28
      refine zgoR (va_runS (As := [.int (g0_shut bc), .int x1]) (rest := []) S (hc _) (va_cwS 2 S.2.2.2.2 gX8_off_X8_bit rfl rfl rfl (by decide +kernel) ⟨Nat.le_of_ble_eq_true rfl, Nat.le_of_ble_eq_true rfl⟩) (zpS hK hP hD (is := []) rfl rfl) rfl rfl hl.1 rfl (lv_room (Nat.le_of_ble_eq_true rfl)) dX8_off_28 ⟨Nat.zero_le _, Nat.zero_le _⟩) (fun hn28 => ?_)
      refine lv_istore_n (lv' := [(3, .int t28), (0, .ref (arc 0)), (1, .int x1), (2, .int x2)]) hx hb dX8_off_31 rfl hl (by decide) rfl (fun ls hl => ?_)
      refine lv_aload_n hx hb dX8_off_32 rfl (lv_at hl 1 rfl) ?_
      refine zg8_court S in_X8_off_8 hK hP 0 rfl (List.mem_of_getElem? (i := 1) rfl) dX8_off_33 ?_
      refine lv_aload_n hx hb dX8_off_36 rfl (lv_at hl 1 rfl) ?_
      refine zg8_court S in_X8_off_8 hK hP 0 rfl (List.mem_of_getElem? (i := 1) rfl) dX8_off_37 ?_
      refine zg0_shut S in_X8_off_0 hK hP 1 rfl (List.mem_of_getElem? (i := 2) rfl) (v := (g0_shut bc)) rfl dX8_off_40 ?_
      refine lv_iload_n hx hb dX8_off_43 rfl (lv_at hl 2 rfl) ?_
      refine lv_iload_n hx hb dX8_off_44 rfl (lv_at hl 3 rfl) ?_
      obtain ⟨t45, ht45⟩ : ∃ z, FX8_withBit (g0_shut bc) x1 x2 = z := ⟨_, rfl⟩
      have hE := hE.trans (bnd_eq ht45)
      have hc := c_X8_withBit l G (g0_shut bc) x1 x2 _ ht45
      refine zgoR (va_runS (As := [.int (g0_shut bc), .int x1, .int x2]) (rest := [.ref (ac 0)]) S (hc _) (va_cwS 3 S.2.2.2.2 gX8_off_X8_withBit rfl rfl rfl (by decide +kernel) ⟨Nat.le_of_ble_eq_true rfl, Nat.le_of_ble_eq_true rfl⟩) (zpS hK hP hD (is := []) rfl rfl) rfl rfl hl.1 rfl (lv_room (Nat.le_of_ble_eq_true rfl)) dX8_off_45 ⟨Nat.zero_le _, Nat.zero_le _⟩) (fun hn45 => ?_)
      refine zp0_shut (bs1 := (w8 G arc (ac 0) orc_rounds orc_thought orc_thoughtRounds orc_chain (ahi 0) orc_kept orc_words orc_sheet orc_rows brc :: w0 G ac (s0_shut bc t45) :: w1 G ahi aik sg (nI D) un :: hcs G aik y)) S in_X8_off_0 hK hP hD hS 1 rfl (List.mem_of_getElem? (i := 2) rfl) dX8_off_48 rfl (fun H locs hP hD hS => ?_)
      refine lv_aload_n hx hb dX8_off_51 rfl (lv_at hl 1 rfl) ?_
      obtain ⟨t52, ht52⟩ : ∃ z, FX8_changed (g8_isSettled brc) (g0_kind bc) (g0_head bc) (g0_body bc) (g0_excepts bc) (g0_power bc) (g0_beats bc) (g0_facts bc) (g0_size bc) t45 sg y D un = z := ⟨_, rfl⟩
      have hE := hE.trans (bnd_eq ht52)
      have hc := c_X8_changed l G arc ac ahi aik orc_rounds orc_thought orc_thoughtRounds orc_chain orc_kept orc_words orc_sheet orc_rows brc (s0_shut bc t45) sg y D un (hs_hi_sg) (hd_hi_D) _ (by simp only [gs0_kind_shut, gs0_head_shut, gs0_body_shut, gs0_excepts_shut, gs0_power_shut, gs0_beats_shut, gs0_facts_shut, gs0_size_shut, gg0_shut]; exact ht52)
      refine zgoV (bs' := (w8 G arc (ac 0) orc_rounds orc_thought orc_thoughtRounds orc_chain (ahi 0) orc_kept orc_words orc_sheet orc_rows (s8_isSettled brc t52.1) :: w0 G ac (s0_shut bc t45) :: w1 G ahi aik t52.2.1 (nI t52.2.2.2.1) t52.2.2.2.2 :: hcs G aik t52.2.2.1)) hc [0, 1, 2, 3, 4, 5, 6, 7, 8, 9, 10, 11, 12, 13, 14, 15] rfl rfl rfl hP hD hS hA (va_runV (As := []) (rest := []) S (hc.2 _) (cwV 0 S.2.2.2.2 gX8_off_X8_changed rfl rfl rfl (by decide +kernel) ⟨Nat.le_of_ble_eq_true rfl, Nat.le_of_ble_eq_true rfl⟩) (zpV hK hP hD (is := [0, 1, 2, 3, 4, 5, 6, 7, 8, 9, 10, 11, 12, 13, 14, 15]) rfl rfl 0 rfl rfl (ci := 8) rfl) rfl rfl hl.1 rfl (lv_room (Nat.le_of_ble_eq_true rfl)) dX8_off_52 ⟨Nat.zero_le _, Nat.zero_le _⟩) (fun H locs hP hD hS => ?_)
      have hs_hi_sg_52 : ∀ j : Nat, j < 13 → t52.2.1 j < 13 := by rw [← ht52]; exact zkS_lt hs_hi_sg
      have hd_hi_D_52 : t52.2.2.2.1 ≤ 12 := by rw [← ht52]; exact zkD_le hd_hi_D
      refine lv_iload_n hx hb dX8_off_55 rfl (lv_at hl 0 rfl) ?_
      exact hret _ _ _ _ _ _ (by subst hE; rfl) rfl hP hS dX8_off_56
    · have hE := hE.trans (if_pos c15)
      refine lv_iconst (v := (-1)) hx hb dX8_off_18 (by decide) ?_
      rw [show brc = (s8_isSettled brc (g8_isSettled brc)) from ((se8_isSettled _).symm)] at hP hD
      rw [show bc = (s0_shut bc (g0_shut bc)) from ((se0_shut _).symm)] at hP hD
      exact hret _ _ _ _ _ _ (by subst hE; rfl) rfl hP hS dX8_off_19

theorem in_X8_strength_0 : ∀ w ∈ u_ws RX0 TX0 9, w ∈ wsX8_strength := by decide +kernel
theorem in_X8_strength_8 : ∀ w ∈ u_ws RX8 TX8 12, w ∈ wsX8_strength := by decide +kernel
def rmX8_strength : Room := { frames := 4, cells := 0, slots := 0, locals := 102 }
set_option maxHeartbeats 4000000 in
set_option maxRecDepth 100000 in
theorem c_X8_strength (l : Launch) (G : zG) (arc : Nat → Nat) (ac : Nat → Nat) (ahi : Nat → Nat) (aik : Nat → Nat → Nat) (orc_rounds : Nat) (orc_thought : Nat) (orc_thoughtRounds : Nat) (orc_chain : Nat) (orc_kept : Nat) (orc_words : Nat) (orc_sheet : Nat) (orc_rows : Nat) (brc : S8) (bc : S0) (sg : Nat → Nat) (y : Nat → S0) (D : Nat) (un : Int32) (x1 : Int32) (x2 : Int32) (hz_c_size : ∃ N : Nat, N ≤ 16 ∧ g0_size bc = nI N) (hs_hi_sg : ∀ j : Nat, j < 13 → sg j < 13) (hd_hi_D : D ≤ 12) (T : Int32 × (Int32) × (Nat → Int32) × (Nat → Nat) × (Nat → S0) × (Nat) × (Int32)) (hT : FX8_strength (g8_isSettled brc) (g0_kind bc) (g0_head bc) (g0_body bc) (g0_excepts bc) (g0_power bc) (g0_beats bc) (g0_facts bc) (g0_size bc) (g0_shut bc) sg y D un x1 x2 = T) : zI l yX8_strength wsX8_strength rmX8_strength .int G [.ref (arc 0), .int x1, .int x2] (w8 G arc (ac 0) orc_rounds orc_thought orc_thoughtRounds orc_chain (ahi 0) orc_kept orc_words orc_sheet orc_rows brc :: w0 G ac bc :: w1 G ahi aik sg (nI D) un :: hcs G aik y) T.1 (w8 G arc (ac 0) orc_rounds orc_thought orc_thoughtRounds orc_chain (ahi 0) orc_kept orc_words orc_sheet orc_rows (s8_isSettled brc T.2.1) :: w0 G ac (s0_power bc T.2.2.1) :: w1 G ahi aik T.2.2.2.1 (nI T.2.2.2.2.2.1) T.2.2.2.2.2.2 :: hcs G aik T.2.2.2.2.1) := by
  refine zI.mk (cc := cX8_strength) (maxL := 4) (by decide +kernel) rfl (Nat.le_of_ble_eq_true rfl) (zfl_cons (wf8 _ _ _ _ _ _ _ _ _ _ _ _ _ _) (zfl_cons (wf0 _ _ _ _) (zfl_cons rfl (hcs_fst0 _ _ _ _)))) ?_
  intro p e s m args below meth c Q A ls S hK hD hA hP hl hret
  have hx := S.1
  have hb := S.2.1
  have hS : va_S A s.heap s.heap [] := va_S.rf
  have hl : lv_has ls 4 [(0, .ref (arc 0)), (1, .int x1), (2, .int x2)] := hl
  have hE := hT.symm.trans (FX8_strength.eq_1 _ _ _ _ _ _ _ _ _ _ _ _ _ _ _ _)
  refine lv_aload_n hx hb dX8_strength_0 rfl (lv_at hl 0 rfl) ?_
  refine zg8_court S in_X8_strength_8 hK hP 0 rfl (List.mem_of_getElem? (i := 1) rfl) dX8_strength_1 ?_
  refine lv_iload_n hx hb dX8_strength_4 rfl (lv_at hl 1 rfl) ?_
  obtain ⟨t5, ht5⟩ : ∃ z, FX0_hasRule (g0_size bc) x1 = z := ⟨_, rfl⟩
  have hE := hE.trans (bnd_eq ht5)
  have hc := c_X0_hasRule l G ac bc x1 _ ht5
  refine zgoR (va_runV (As := [.int x1]) (rest := []) S (hc _) (cwV 1 S.2.2.2.2 gX8_strength_X0_hasRule rfl rfl rfl (by decide +kernel) ⟨Nat.le_of_ble_eq_true rfl, Nat.le_of_ble_eq_true rfl⟩) (zpV hK hP hD (is := [1]) rfl rfl 1 rfl rfl (ci := 0) rfl) rfl rfl hl.1 rfl (lv_room (Nat.le_of_ble_eq_true rfl)) dX8_strength_5 ⟨Nat.zero_le _, Nat.zero_le _⟩) (fun hn5 => ?_)
  refine lv_if_eq (tgt := 18) hx hb dX8_strength_8 (by decide) (fun c8 => ?_) (fun c8 => ?_)
  · have hE := hE.trans (if_pos c8)
    refine lv_iconst (v := (-1)) hx hb dX8_strength_18 (by decide) ?_
    rw [show brc = (s8_isSettled brc (g8_isSettled brc)) from ((se8_isSettled _).symm)] at hP hD
    rw [show bc = (s0_power bc (g0_power bc)) from ((se0_power _).symm)] at hP hD
    exact hret _ _ _ _ _ _ (by subst hE; rfl) rfl hP hS dX8_strength_19
  · have hE := hE.trans (if_neg c8)
    have hx1_16 : vp_in x1 16 := zhasRule hz_c_size (by rw [ht5]; exact c8)
    refine lv_iload_n hx hb dX8_strength_11 rfl (lv_at hl 2 rfl) ?_
    obtain ⟨t12, ht12⟩ : ∃ z, FX8_isStrength x2 = z := ⟨_, rfl⟩
    have hE := hE.trans (bnd_eq ht12)
    have hc := c_X8_isStrength l G x2 _ ht12
    refine zgoR (va_runS (As := [.int x2]) (rest := []) S (hc _) (va_cwS 1 S.2.2.2.2 gX8_strength_X8_isStrength rfl rfl rfl (by decide +kernel) ⟨Nat.le_of_ble_eq_true rfl, Nat.le_of_ble_eq_true rfl⟩) (zpS hK hP hD (is := []) rfl rfl) rfl rfl hl.1 rfl (lv_room (Nat.le_of_ble_eq_true rfl)) dX8_strength_12 ⟨Nat.zero_le _, Nat.zero_le _⟩) (fun hn12 => ?_)
    refine lv_if_ne (tgt := 20) hx hb dX8_strength_15 (by decide) (fun c15 => ?_) (fun c15 => ?_)
    · have hE := hE.trans (if_neg c15)
      refine lv_aload_n hx hb dX8_strength_20 rfl (lv_at hl 0 rfl) ?_
      refine zg8_court S in_X8_strength_8 hK hP 0 rfl (List.mem_of_getElem? (i := 1) rfl) dX8_strength_21 ?_
      refine zg0_power S in_X8_strength_0 hK hP 1 rfl (List.mem_of_getElem? (i := 2) rfl) dX8_strength_24 ?_
      refine lv_iload_n hx hb dX8_strength_27 rfl (lv_at hl 1 rfl) ?_
      refine zl0_power S hK hP 1 rfl hx1_16 (f := (g0_power bc)) rfl dX8_strength_28 ?_
      refine lv_istore_n (lv' := [(3, .int ((g0_power bc) x1.toNatClampNeg)), (0, .ref (arc 0)), (1, .int x1), (2, .int x2)]) hx hb dX8_strength_29 rfl hl (by decide) rfl (fun ls hl => ?_)
      refine lv_aload_n hx hb dX8_strength_30 rfl (lv_at hl 1 rfl) ?_
      refine zg8_court S in_X8_strength_8 hK hP 0 rfl (List.mem_of_getElem? (i := 1) rfl) dX8_strength_31 ?_
      refine zg0_power S in_X8_strength_0 hK hP 1 rfl (List.mem_of_getElem? (i := 2) rfl) dX8_strength_34 ?_
      refine lv_iload_n hx hb dX8_strength_37 rfl (lv_at hl 2 rfl) ?_
      refine lv_iload_n hx hb dX8_strength_38 rfl (lv_at hl 3 rfl) ?_
      refine zs0_power (bs1 := (w8 G arc (ac 0) orc_rounds orc_thought orc_thoughtRounds orc_chain (ahi 0) orc_kept orc_words orc_sheet orc_rows brc :: w0 G ac (s0_power bc (upd (g0_power bc) x1.toNatClampNeg x2)) :: w1 G ahi aik sg (nI D) un :: hcs G aik y)) S hK hP hD hS 1 rfl hx1_16 (f := (g0_power bc)) rfl dX8_strength_39 rfl (fun H locs hP hD hS => ?_)
      refine lv_aload_n hx hb dX8_strength_40 rfl (lv_at hl 1 rfl) ?_
      obtain ⟨t41, ht41⟩ : ∃ z, FX8_changed (g8_isSettled brc) (g0_kind bc) (g0_head bc) (g0_body bc) (g0_excepts bc) (upd (g0_power bc) x1.toNatClampNeg x2) (g0_beats bc) (g0_facts bc) (g0_size bc) (g0_shut bc) sg y D un = z := ⟨_, rfl⟩
      have hE := hE.trans (bnd_eq ht41)
      have hc := c_X8_changed l G arc ac ahi aik orc_rounds orc_thought orc_thoughtRounds orc_chain orc_kept orc_words orc_sheet orc_rows brc (s0_power bc (upd (g0_power bc) x1.toNatClampNeg x2)) sg y D un (hs_hi_sg) (hd_hi_D) _ (by simp only [gs0_kind_power, gs0_head_power, gs0_body_power, gs0_excepts_power, gg0_power, gs0_beats_power, gs0_facts_power, gs0_size_power, gs0_shut_power]; exact ht41)
      refine zgoV (bs' := (w8 G arc (ac 0) orc_rounds orc_thought orc_thoughtRounds orc_chain (ahi 0) orc_kept orc_words orc_sheet orc_rows (s8_isSettled brc t41.1) :: w0 G ac (s0_power bc (upd (g0_power bc) x1.toNatClampNeg x2)) :: w1 G ahi aik t41.2.1 (nI t41.2.2.2.1) t41.2.2.2.2 :: hcs G aik t41.2.2.1)) hc [0, 1, 2, 3, 4, 5, 6, 7, 8, 9, 10, 11, 12, 13, 14, 15] rfl rfl rfl hP hD hS hA (va_runV (As := []) (rest := []) S (hc.2 _) (cwV 0 S.2.2.2.2 gX8_strength_X8_changed rfl rfl rfl (by decide +kernel) ⟨Nat.le_of_ble_eq_true rfl, Nat.le_of_ble_eq_true rfl⟩) (zpV hK hP hD (is := [0, 1, 2, 3, 4, 5, 6, 7, 8, 9, 10, 11, 12, 13, 14, 15]) rfl rfl 0 rfl rfl (ci := 8) rfl) rfl rfl hl.1 rfl (lv_room (Nat.le_of_ble_eq_true rfl)) dX8_strength_41 ⟨Nat.zero_le _, Nat.zero_le _⟩) (fun H locs hP hD hS => ?_)
      have hs_hi_sg_41 : ∀ j : Nat, j < 13 → t41.2.1 j < 13 := by rw [← ht41]; exact zkS_lt hs_hi_sg
      have hd_hi_D_41 : t41.2.2.2.1 ≤ 12 := by rw [← ht41]; exact zkD_le hd_hi_D
      refine lv_iload_n hx hb dX8_strength_44 rfl (lv_at hl 0 rfl) ?_
      exact hret _ _ _ _ _ _ (by subst hE; rfl) rfl hP hS dX8_strength_45
    · have hE := hE.trans (if_pos c15)
      refine lv_iconst (v := (-1)) hx hb dX8_strength_18 (by decide) ?_
      rw [show brc = (s8_isSettled brc (g8_isSettled brc)) from ((se8_isSettled _).symm)] at hP hD
      rw [show bc = (s0_power bc (g0_power bc)) from ((se0_power _).symm)] at hP hD
      exact hret _ _ _ _ _ _ (by subst hE; rfl) rfl hP hS dX8_strength_19

theorem in_X8_over_0 : ∀ w ∈ u_ws RX0 TX0 9, w ∈ wsX8_over := by decide +kernel
theorem in_X8_over_8 : ∀ w ∈ u_ws RX8 TX8 12, w ∈ wsX8_over := by decide +kernel
def rmX8_over : Room := { frames := 4, cells := 0, slots := 0, locals := 102 }
set_option maxHeartbeats 4000000 in
set_option maxRecDepth 100000 in
theorem c_X8_over (l : Launch) (G : zG) (arc : Nat → Nat) (ac : Nat → Nat) (ahi : Nat → Nat) (aik : Nat → Nat → Nat) (orc_rounds : Nat) (orc_thought : Nat) (orc_thoughtRounds : Nat) (orc_chain : Nat) (orc_kept : Nat) (orc_words : Nat) (orc_sheet : Nat) (orc_rows : Nat) (brc : S8) (bc : S0) (sg : Nat → Nat) (y : Nat → S0) (D : Nat) (un : Int32) (x1 : Int32) (x2 : Int32) (x3 : Int32) (hz_c_size : ∃ N : Nat, N ≤ 16 ∧ g0_size bc = nI N) (hs_hi_sg : ∀ j : Nat, j < 13 → sg j < 13) (hd_hi_D : D ≤ 12) (T : Int32 × (Int32) × (Nat → Int32) × (Nat → Nat) × (Nat → S0) × (Nat) × (Int32)) (hT : FX8_over (g8_isSettled brc) (g0_kind bc) (g0_head bc) (g0_body bc) (g0_excepts bc) (g0_power bc) (g0_beats bc) (g0_facts bc) (g0_size bc) (g0_shut bc) sg y D un x1 x2 x3 = T) : zI l yX8_over wsX8_over rmX8_over .int G [.ref (arc 0), .int x1, .int x2, .int x3] (w8 G arc (ac 0) orc_rounds orc_thought orc_thoughtRounds orc_chain (ahi 0) orc_kept orc_words orc_sheet orc_rows brc :: w0 G ac bc :: w1 G ahi aik sg (nI D) un :: hcs G aik y) T.1 (w8 G arc (ac 0) orc_rounds orc_thought orc_thoughtRounds orc_chain (ahi 0) orc_kept orc_words orc_sheet orc_rows (s8_isSettled brc T.2.1) :: w0 G ac (s0_beats bc T.2.2.1) :: w1 G ahi aik T.2.2.2.1 (nI T.2.2.2.2.2.1) T.2.2.2.2.2.2 :: hcs G aik T.2.2.2.2.1) := by
  refine zI.mk (cc := cX8_over) (maxL := 5) (by decide +kernel) rfl (Nat.le_of_ble_eq_true rfl) (zfl_cons (wf8 _ _ _ _ _ _ _ _ _ _ _ _ _ _) (zfl_cons (wf0 _ _ _ _) (zfl_cons rfl (hcs_fst0 _ _ _ _)))) ?_
  intro p e s m args below meth c Q A ls S hK hD hA hP hl hret
  have hx := S.1
  have hb := S.2.1
  have hS : va_S A s.heap s.heap [] := va_S.rf
  have hl : lv_has ls 5 [(0, .ref (arc 0)), (1, .int x1), (2, .int x2), (3, .int x3)] := hl
  have hE := hT.symm.trans (FX8_over.eq_1 _ _ _ _ _ _ _ _ _ _ _ _ _ _ _ _ _)
  refine lv_aload_n hx hb dX8_over_0 rfl (lv_at hl 0 rfl) ?_
  refine zg8_court S in_X8_over_8 hK hP 0 rfl (List.mem_of_getElem? (i := 1) rfl) dX8_over_1 ?_
  refine lv_iload_n hx hb dX8_over_4 rfl (lv_at hl 1 rfl) ?_
  obtain ⟨t5, ht5⟩ : ∃ z, FX0_hasRule (g0_size bc) x1 = z := ⟨_, rfl⟩
  have hE := hE.trans (bnd_eq ht5)
  have hc := c_X0_hasRule l G ac bc x1 _ ht5
  refine zgoR (va_runV (As := [.int x1]) (rest := []) S (hc _) (cwV 1 S.2.2.2.2 gX8_over_X0_hasRule rfl rfl rfl (by decide +kernel) ⟨Nat.le_of_ble_eq_true rfl, Nat.le_of_ble_eq_true rfl⟩) (zpV hK hP hD (is := [1]) rfl rfl 1 rfl rfl (ci := 0) rfl) rfl rfl hl.1 rfl (lv_room (Nat.le_of_ble_eq_true rfl)) dX8_over_5 ⟨Nat.zero_le _, Nat.zero_le _⟩) (fun hn5 => ?_)
  refine lv_if_eq (tgt := 34) hx hb dX8_over_8 (by decide) (fun c8 => ?_) (fun c8 => ?_)
  · have hE := hE.trans (if_pos c8)
    refine lv_iconst (v := (-1)) hx hb dX8_over_34 (by decide) ?_
    rw [show brc = (s8_isSettled brc (g8_isSettled brc)) from ((se8_isSettled _).symm)] at hP hD
    rw [show bc = (s0_beats bc (g0_beats bc)) from ((se0_beats _).symm)] at hP hD
    exact hret _ _ _ _ _ _ (by subst hE; rfl) rfl hP hS dX8_over_35
  · have hE := hE.trans (if_neg c8)
    have hx1_16 : vp_in x1 16 := zhasRule hz_c_size (by rw [ht5]; exact c8)
    refine lv_aload_n hx hb dX8_over_11 rfl (lv_at hl 0 rfl) ?_
    refine zg8_court S in_X8_over_8 hK hP 0 rfl (List.mem_of_getElem? (i := 1) rfl) dX8_over_12 ?_
    refine lv_iload_n hx hb dX8_over_15 rfl (lv_at hl 2 rfl) ?_
    obtain ⟨t16, ht16⟩ : ∃ z, FX0_hasRule (g0_size bc) x2 = z := ⟨_, rfl⟩
    have hE := hE.trans (bnd_eq ht16)
    have hc := c_X0_hasRule l G ac bc x2 _ ht16
    refine zgoR (va_runV (As := [.int x2]) (rest := []) S (hc _) (cwV 1 S.2.2.2.2 gX8_over_X0_hasRule rfl rfl rfl (by decide +kernel) ⟨Nat.le_of_ble_eq_true rfl, Nat.le_of_ble_eq_true rfl⟩) (zpV hK hP hD (is := [1]) rfl rfl 1 rfl rfl (ci := 0) rfl) rfl rfl hl.1 rfl (lv_room (Nat.le_of_ble_eq_true rfl)) dX8_over_16 ⟨Nat.zero_le _, Nat.zero_le _⟩) (fun hn16 => ?_)
    refine lv_if_eq (tgt := 34) hx hb dX8_over_19 (by decide) (fun c19 => ?_) (fun c19 => ?_)
    · have hE := hE.trans (if_pos c19)
      refine lv_iconst (v := (-1)) hx hb dX8_over_34 (by decide) ?_
      rw [show brc = (s8_isSettled brc (g8_isSettled brc)) from ((se8_isSettled _).symm)] at hP hD
      rw [show bc = (s0_beats bc (g0_beats bc)) from ((se0_beats _).symm)] at hP hD
      exact hret _ _ _ _ _ _ (by subst hE; rfl) rfl hP hS dX8_over_35
    · have hE := hE.trans (if_neg c19)
      have hx2_16 : vp_in x2 16 := zhasRule hz_c_size (by rw [ht16]; exact c19)
      refine lv_iload_n hx hb dX8_over_22 rfl (lv_at hl 1 rfl) ?_
      refine lv_iload_n hx hb dX8_over_23 rfl (lv_at hl 2 rfl) ?_
      refine lv_icmp_eq (tgt := 34) hx hb dX8_over_24 (by decide) (fun c24 => ?_) (fun c24 => ?_)
      · have hE := hE.trans (if_pos c24)
        refine lv_iconst (v := (-1)) hx hb dX8_over_34 (by decide) ?_
        rw [show brc = (s8_isSettled brc (g8_isSettled brc)) from ((se8_isSettled _).symm)] at hP hD
        rw [show bc = (s0_beats bc (g0_beats bc)) from ((se0_beats _).symm)] at hP hD
        exact hret _ _ _ _ _ _ (by subst hE; rfl) rfl hP hS dX8_over_35
      · have hE := hE.trans (if_neg c24)
        refine lv_iload_n hx hb dX8_over_27 rfl (lv_at hl 3 rfl) ?_
        obtain ⟨t28, ht28⟩ : ∃ z, FX8_isYesOrNo x3 = z := ⟨_, rfl⟩
        have hE := hE.trans (bnd_eq ht28)
        have hc := c_X8_isYesOrNo l G x3 _ ht28
        refine zgoR (va_runS (As := [.int x3]) (rest := []) S (hc _) (va_cwS 1 S.2.2.2.2 gX8_over_X8_isYesOrNo rfl rfl rfl (by decide +kernel) ⟨Nat.le_of_ble_eq_true rfl, Nat.le_of_ble_eq_true rfl⟩) (zpS hK hP hD (is := []) rfl rfl) rfl rfl hl.1 rfl (lv_room (Nat.le_of_ble_eq_true rfl)) dX8_over_28 ⟨Nat.zero_le _, Nat.zero_le _⟩) (fun hn28 => ?_)
        refine lv_if_ne (tgt := 36) hx hb dX8_over_31 (by decide) (fun c31 => ?_) (fun c31 => ?_)
        · have hE := hE.trans (if_neg c31)
          refine lv_iload_n hx hb dX8_over_36 rfl (lv_at hl 3 rfl) ?_
          refine lv_iconst (v := 1) hx hb dX8_over_37 (by decide) ?_
          have hB60 : ∀ (H : Heap) (locs : List Loc) (ls : Array Slot), T = FX8_over_60 (g8_isSettled brc) (g0_kind bc) (g0_head bc) (g0_body bc) (g0_excepts bc) (g0_power bc) (g0_beats bc) (g0_facts bc) (g0_size bc) (g0_shut bc) sg y D un x1 x2 x3 (g8_isSettled brc) (g0_beats bc) sg y D un → zP G (w8 G arc (ac 0) orc_rounds orc_thought orc_thoughtRounds orc_chain (ahi 0) orc_kept orc_words orc_sheet orc_rows brc :: w0 G ac bc :: w1 G ahi aik sg (nI D) un :: hcs G aik y) H → zD A (w8 G arc (ac 0) orc_rounds orc_thought orc_thoughtRounds orc_chain (ahi 0) orc_kept orc_words orc_sheet orc_rows brc :: w0 G ac bc :: w1 G ahi aik sg (nI D) un :: hcs G aik y) → va_S A s.heap H locs → lv_has ls 5 [(0, .ref (arc 0)), (1, .int x1), (2, .int x2), (3, .int x3)] → W p l e rmX8_over s m args below meth c H locs 0 0 Q (F0 m 60 ls []) := by
            intro H locs ls hE hP hD hS hl
            have hE := hE.trans (FX8_over_60.eq_1 _ _ _ _ _ _ _ _ _ _ _ _ _ _ _ _ _ _ _ _ _ _ _)
            refine lv_aload_n hx hb dX8_over_60 rfl (lv_at hl 0 rfl) ?_
            refine zg8_court S in_X8_over_8 hK hP 0 rfl (List.mem_of_getElem? (i := 1) rfl) dX8_over_61 ?_
            refine zg0_beats S in_X8_over_0 hK hP 1 rfl (List.mem_of_getElem? (i := 2) rfl) dX8_over_64 ?_
            refine lv_iload_n hx hb dX8_over_67 rfl (lv_at hl 1 rfl) ?_
            refine zl0_beats S hK hP 1 rfl hx1_16 (f := (g0_beats bc)) rfl dX8_over_68 ?_
            refine lv_iload_n hx hb dX8_over_69 rfl (lv_at hl 2 rfl) ?_
            obtain ⟨t70, ht70⟩ : ∃ z, FX8_bit ((g0_beats bc) x1.toNatClampNeg) x2 = z := ⟨_, rfl⟩
            have hE := hE.trans (bnd_eq ht70)
            have hc := c_X8_bit l G ((g0_beats bc) x1.toNatClampNeg) x2 _ ht70
            refine zgoR (va_runS (As := [.int ((g0_beats bc) x1.toNatClampNeg), .int x2]) (rest := []) S (hc _) (va_cwS 2 S.2.2.2.2 gX8_over_X8_bit rfl rfl rfl (by decide +kernel) ⟨Nat.le_of_ble_eq_true rfl, Nat.le_of_ble_eq_true rfl⟩) (zpS hK hP hD (is := []) rfl rfl) rfl rfl hl.1 rfl (lv_room (Nat.le_of_ble_eq_true rfl)) dX8_over_70 ⟨Nat.zero_le _, Nat.zero_le _⟩) (fun hn70 => ?_)
            refine lv_istore (lv' := [(4, .int t70), (0, .ref (arc 0)), (1, .int x1), (2, .int x2), (3, .int x3)]) hx hb dX8_over_73 hl (by decide) rfl (fun ls hl => ?_)
            refine lv_aload_n hx hb dX8_over_75 rfl (lv_at hl 1 rfl) ?_
            refine zg8_court S in_X8_over_8 hK hP 0 rfl (List.mem_of_getElem? (i := 1) rfl) dX8_over_76 ?_
            refine zg0_beats S in_X8_over_0 hK hP 1 rfl (List.mem_of_getElem? (i := 2) rfl) dX8_over_79 ?_
            refine lv_iload_n hx hb dX8_over_82 rfl (lv_at hl 2 rfl) ?_
            refine lv_aload_n hx hb dX8_over_83 rfl (lv_at hl 1 rfl) ?_
            refine zg8_court S in_X8_over_8 hK hP 0 rfl (List.mem_of_getElem? (i := 1) rfl) dX8_over_84 ?_
            refine zg0_beats S in_X8_over_0 hK hP 1 rfl (List.mem_of_getElem? (i := 2) rfl) dX8_over_87 ?_
            refine lv_iload_n hx hb dX8_over_90 rfl (lv_at hl 2 rfl) ?_
            refine zl0_beats S hK hP 1 rfl hx1_16 (f := (g0_beats bc)) rfl dX8_over_91 ?_
            refine lv_iload_n hx hb dX8_over_92 rfl (lv_at hl 3 rfl) ?_
            refine lv_iload_n hx hb dX8_over_93 rfl (lv_at hl 4 rfl) ?_
            obtain ⟨t94, ht94⟩ : ∃ z, FX8_withBit ((g0_beats bc) x1.toNatClampNeg) x2 x3 = z := ⟨_, rfl⟩
            have hE := hE.trans (bnd_eq ht94)
            have hc := c_X8_withBit l G ((g0_beats bc) x1.toNatClampNeg) x2 x3 _ ht94
            refine zgoR (va_runS (As := [.int ((g0_beats bc) x1.toNatClampNeg), .int x2, .int x3]) (rest := [.int x1, .ref (ac 6)]) S (hc _) (va_cwS 3 S.2.2.2.2 gX8_over_X8_withBit rfl rfl rfl (by decide +kernel) ⟨Nat.le_of_ble_eq_true rfl, Nat.le_of_ble_eq_true rfl⟩) (zpS hK hP hD (is := []) rfl rfl) rfl rfl hl.1 rfl (lv_room (Nat.le_of_ble_eq_true rfl)) dX8_over_94 ⟨Nat.zero_le _, Nat.zero_le _⟩) (fun hn94 => ?_)
            refine zs0_beats (bs1 := (w8 G arc (ac 0) orc_rounds orc_thought orc_thoughtRounds orc_chain (ahi 0) orc_kept orc_words orc_sheet orc_rows brc :: w0 G ac (s0_beats bc (upd (g0_beats bc) x1.toNatClampNeg t94)) :: w1 G ahi aik sg (nI D) un :: hcs G aik y)) S hK hP hD hS 1 rfl hx1_16 (f := (g0_beats bc)) rfl dX8_over_97 rfl (fun H locs hP hD hS => ?_)
            refine lv_aload_n hx hb dX8_over_98 rfl (lv_at hl 1 rfl) ?_
            obtain ⟨t99, ht99⟩ : ∃ z, FX8_changed (g8_isSettled brc) (g0_kind bc) (g0_head bc) (g0_body bc) (g0_excepts bc) (g0_power bc) (upd (g0_beats bc) x1.toNatClampNeg t94) (g0_facts bc) (g0_size bc) (g0_shut bc) sg y D un = z := ⟨_, rfl⟩
            have hE := hE.trans (bnd_eq ht99)
            have hc := c_X8_changed l G arc ac ahi aik orc_rounds orc_thought orc_thoughtRounds orc_chain orc_kept orc_words orc_sheet orc_rows brc (s0_beats bc (upd (g0_beats bc) x1.toNatClampNeg t94)) sg y D un (hs_hi_sg) (hd_hi_D) _ (by simp only [gs0_kind_beats, gs0_head_beats, gs0_body_beats, gs0_excepts_beats, gs0_power_beats, gg0_beats, gs0_facts_beats, gs0_size_beats, gs0_shut_beats]; exact ht99)
            refine zgoV (bs' := (w8 G arc (ac 0) orc_rounds orc_thought orc_thoughtRounds orc_chain (ahi 0) orc_kept orc_words orc_sheet orc_rows (s8_isSettled brc t99.1) :: w0 G ac (s0_beats bc (upd (g0_beats bc) x1.toNatClampNeg t94)) :: w1 G ahi aik t99.2.1 (nI t99.2.2.2.1) t99.2.2.2.2 :: hcs G aik t99.2.2.1)) hc [0, 1, 2, 3, 4, 5, 6, 7, 8, 9, 10, 11, 12, 13, 14, 15] rfl rfl rfl hP hD hS hA (va_runV (As := []) (rest := []) S (hc.2 _) (cwV 0 S.2.2.2.2 gX8_over_X8_changed rfl rfl rfl (by decide +kernel) ⟨Nat.le_of_ble_eq_true rfl, Nat.le_of_ble_eq_true rfl⟩) (zpV hK hP hD (is := [0, 1, 2, 3, 4, 5, 6, 7, 8, 9, 10, 11, 12, 13, 14, 15]) rfl rfl 0 rfl rfl (ci := 8) rfl) rfl rfl hl.1 rfl (lv_room (Nat.le_of_ble_eq_true rfl)) dX8_over_99 ⟨Nat.zero_le _, Nat.zero_le _⟩) (fun H locs hP hD hS => ?_)
            have hs_hi_sg_99 : ∀ j : Nat, j < 13 → t99.2.1 j < 13 := by rw [← ht99]; exact zkS_lt hs_hi_sg
            have hd_hi_D_99 : t99.2.2.2.1 ≤ 12 := by rw [← ht99]; exact zkD_le hd_hi_D
            refine lv_iload hx hb dX8_over_102 (lv_at hl 0 rfl) ?_
            exact hret _ _ _ _ _ _ (by subst hE; rfl) rfl hP hS dX8_over_104
          refine lv_icmp_ne (tgt := 60) hx hb dX8_over_38 (by decide) (fun c38 => ?_) (fun c38 => ?_)
          · have hE := hE.trans (if_neg c38)
            exact hB60 _ _ _ hE hP hD hS (lv_sub hl [0, 1, 2, 3] rfl)
          · have hE := hE.trans (if_pos c38)
            refine lv_aload_n hx hb dX8_over_41 rfl (lv_at hl 0 rfl) ?_
            refine zg8_court S in_X8_over_8 hK hP 0 rfl (List.mem_of_getElem? (i := 1) rfl) dX8_over_42 ?_
            refine zg0_beats S in_X8_over_0 hK hP 1 rfl (List.mem_of_getElem? (i := 2) rfl) dX8_over_45 ?_
            refine lv_iload_n hx hb dX8_over_48 rfl (lv_at hl 2 rfl) ?_
            refine zl0_beats S hK hP 1 rfl hx2_16 (f := (g0_beats bc)) rfl dX8_over_49 ?_
            refine lv_iload_n hx hb dX8_over_50 rfl (lv_at hl 1 rfl) ?_
            obtain ⟨t51, ht51⟩ : ∃ z, FX8_has ((g0_beats bc) x2.toNatClampNeg) x1 = z := ⟨_, rfl⟩
            have hE := hE.trans (bnd_eq ht51)
            have hc := c_X8_has l G ((g0_beats bc) x2.toNatClampNeg) x1 _ ht51
            refine zgoR (va_runS (As := [.int ((g0_beats bc) x2.toNatClampNeg), .int x1]) (rest := []) S (hc _) (va_cwS 2 S.2.2.2.2 gX8_over_X8_has rfl rfl rfl (by decide +kernel) ⟨Nat.le_of_ble_eq_true rfl, Nat.le_of_ble_eq_true rfl⟩) (zpS hK hP hD (is := []) rfl rfl) rfl rfl hl.1 rfl (lv_room (Nat.le_of_ble_eq_true rfl)) dX8_over_51 ⟨Nat.zero_le _, Nat.zero_le _⟩) (fun hn51 => ?_)
            refine lv_if_eq (tgt := 60) hx hb dX8_over_54 (by decide) (fun c54 => ?_) (fun c54 => ?_)
            · have hE := hE.trans (if_pos c54)
              exact hB60 _ _ _ hE hP hD hS (lv_sub hl [0, 1, 2, 3] rfl)
            · have hE := hE.trans (if_neg c54)
              refine lv_bipush (v := (-5)) hx hb dX8_over_57 (by decide) ?_
              rw [show brc = (s8_isSettled brc (g8_isSettled brc)) from ((se8_isSettled _).symm)] at hP hD
              rw [show bc = (s0_beats bc (g0_beats bc)) from ((se0_beats _).symm)] at hP hD
              exact hret _ _ _ _ _ _ (by subst hE; rfl) rfl hP hS dX8_over_59
        · have hE := hE.trans (if_pos c31)
          refine lv_iconst (v := (-1)) hx hb dX8_over_34 (by decide) ?_
          rw [show brc = (s8_isSettled brc (g8_isSettled brc)) from ((se8_isSettled _).symm)] at hP hD
          rw [show bc = (s0_beats bc (g0_beats bc)) from ((se0_beats _).symm)] at hP hD
          exact hret _ _ _ _ _ _ (by subst hE; rfl) rfl hP hS dX8_over_35

theorem in_X8_feed_7 : ∀ w ∈ u_ws RX7 TX7 10, w ∈ wsX8_feed := by decide +kernel
theorem in_X8_feed_8 : ∀ w ∈ u_ws RX8 TX8 12, w ∈ wsX8_feed := by decide +kernel
def rmX8_feed : Room := { frames := 1, cells := 0, slots := 0, locals := 21 }
set_option maxHeartbeats 4000000 in
set_option maxRecDepth 100000 in
theorem c_X8_feed (l : Launch) (G : zG) (arc : Nat → Nat) (awd : Nat → Nat) (orc_court : Nat) (orc_rounds : Nat) (orc_thought : Nat) (orc_thoughtRounds : Nat) (orc_chain : Nat) (orc_history : Nat) (orc_kept : Nat) (orc_sheet : Nat) (orc_rows : Nat) (brc : S8) (bwd : S7) (x1 : Int32) (hz_wd_length : ∃ N : Nat, N ≤ 120 ∧ g7_length bwd = nI N) (T : Int32 × (Nat → Int32) × (Int32)) (hT : FX8_feed (g7_tape bwd) (g7_length bwd) x1 = T) : zI l yX8_feed wsX8_feed rmX8_feed .int G [.ref (arc 0), .int x1] [w8 G arc orc_court orc_rounds orc_thought orc_thoughtRounds orc_chain orc_history orc_kept (awd 0) orc_sheet orc_rows brc, w7 G awd bwd] T.1 [w8 G arc orc_court orc_rounds orc_thought orc_thoughtRounds orc_chain orc_history orc_kept (awd 0) orc_sheet orc_rows brc, w7 G awd (s7_length (s7_tape bwd T.2.1) T.2.2)] := by
  refine zI.mk (cc := cX8_feed) (maxL := 2) (by decide +kernel) rfl (Nat.le_of_ble_eq_true rfl) (zfl_cons rfl (zfl_cons (wf7 _ _ _ _) rfl)) ?_
  intro p e s m args below meth c Q A ls S hK hD hA hP hl hret
  have hx := S.1
  have hb := S.2.1
  have hS : va_S A s.heap s.heap [] := va_S.rf
  have hl : lv_has ls 2 [(0, .ref (arc 0)), (1, .int x1)] := hl
  have hE := hT.symm.trans (FX8_feed.eq_1 _ _ _)
  refine lv_iload_n hx hb dX8_feed_0 rfl (lv_at hl 1 rfl) ?_
  refine lv_iconst (v := 1) hx hb dX8_feed_1 (by decide) ?_
  refine lv_icmp_lt (tgt := 11) hx hb dX8_feed_2 (by decide) (fun c2 => ?_) (fun c2 => ?_)
  · have hE := hE.trans (if_pos c2)
    refine lv_iconst (v := (-1)) hx hb dX8_feed_11 (by decide) ?_
    rw [show bwd = (s7_length (s7_tape bwd (g7_tape bwd)) (g7_length bwd)) from (((se7_tape _).symm).trans (((se7_length _).symm).trans (congrArg (fun v => s7_length (s7_tape bwd (g7_tape bwd)) v) (gs7_length_tape _ (g7_tape bwd)))))] at hP hD
    exact hret _ _ _ _ _ _ (by subst hE; rfl) rfl hP hS dX8_feed_12
  · have hE := hE.trans (if_neg c2)
    refine lv_iload_n hx hb dX8_feed_5 rfl (lv_at hl 1 rfl) ?_
    refine lv_bipush (v := 127) hx hb dX8_feed_6 (by decide) ?_
    refine lv_icmp_le (tgt := 13) hx hb dX8_feed_8 (by decide) (fun c8 => ?_) (fun c8 => ?_)
    · have hE := hE.trans (if_pos c8)
      refine lv_aload_n hx hb dX8_feed_13 rfl (lv_at hl 0 rfl) ?_
      refine zg8_words S in_X8_feed_8 hK hP 0 rfl (List.mem_of_getElem? (i := 1) rfl) dX8_feed_14 ?_
      refine lv_iload_n hx hb dX8_feed_17 rfl (lv_at hl 1 rfl) ?_
      obtain ⟨t18, ht18⟩ : ∃ z, FX7_add (g7_tape bwd) (g7_length bwd) x1 = z := ⟨_, rfl⟩
      have hE := hE.trans (bnd_eq ht18)
      have hc := c_X7_add l G awd bwd x1 (hz_wd_length) _ ht18
      refine zgoI (bs' := [w8 G arc orc_court orc_rounds orc_thought orc_thoughtRounds orc_chain orc_history orc_kept (awd 0) orc_sheet orc_rows brc, w7 G awd (s7_length (s7_tape bwd t18.2.1) t18.2.2)]) hc [1] rfl rfl rfl hP hD hS hA (va_runV (As := [.int x1]) (rest := []) S (hc.2 _) (cwV 1 S.2.2.2.2 gX8_feed_X7_add rfl rfl rfl (by decide +kernel) ⟨Nat.le_of_ble_eq_true rfl, Nat.le_of_ble_eq_true rfl⟩) (zpV hK hP hD (is := [1]) rfl rfl 1 rfl rfl (ci := 7) rfl) rfl rfl hl.1 rfl (lv_room (Nat.le_of_ble_eq_true rfl)) dX8_feed_18 ⟨Nat.zero_le _, Nat.zero_le _⟩) (fun H locs hn18 hP hD hS => ?_)
      refine lv_if_ne (tgt := 27) hx hb dX8_feed_21 (by decide) (fun c21 => ?_) (fun c21 => ?_)
      · have hE := hE.trans (if_neg c21)
        refine lv_aload_n hx hb dX8_feed_27 rfl (lv_at hl 0 rfl) ?_
        refine zg8_words S in_X8_feed_8 hK hP 0 rfl (List.mem_of_getElem? (i := 1) rfl) dX8_feed_28 ?_
        refine zg7_length S in_X8_feed_7 hK hP 1 rfl (List.mem_of_getElem? (i := 2) rfl) (v := t18.2.2) (gg7_length _ t18.2.2) dX8_feed_31 ?_
        exact hret _ _ _ _ _ _ (by subst hE; rfl) rfl hP hS dX8_feed_34
      · have hE := hE.trans (if_pos c21)
        refine lv_bipush (v := (-3)) hx hb dX8_feed_24 (by decide) ?_
        exact hret _ _ _ _ _ _ (by subst hE; rfl) rfl hP hS dX8_feed_26
    · have hE := hE.trans (if_neg c8)
      refine lv_iconst (v := (-1)) hx hb dX8_feed_11 (by decide) ?_
      rw [show bwd = (s7_length (s7_tape bwd (g7_tape bwd)) (g7_length bwd)) from (((se7_tape _).symm).trans (((se7_length _).symm).trans (congrArg (fun v => s7_length (s7_tape bwd (g7_tape bwd)) v) (gs7_length_tape _ (g7_tape bwd)))))] at hP hD
      exact hret _ _ _ _ _ _ (by subst hE; rfl) rfl hP hS dX8_feed_12

theorem in_X8_reads_7 : ∀ w ∈ u_ws RX7 TX7 10, w ∈ wsX8_reads := by decide +kernel
theorem in_X8_reads_8 : ∀ w ∈ u_ws RX8 TX8 12, w ∈ wsX8_reads := by decide +kernel
def rmX8_reads : Room := { frames := 6, cells := 0, slots := 0, locals := 128 }
set_option maxHeartbeats 4000000 in
set_option maxRecDepth 100000 in
theorem c_X8_reads (l : Launch) (G : zG) (arc : Nat → Nat) (awd : Nat → Nat) (ac : Nat → Nat) (ad : Nat → Nat) (ahi : Nat → Nat) (aik : Nat → Nat → Nat) (orc_rounds : Nat) (orc_thoughtRounds : Nat) (orc_chain : Nat) (orc_kept : Nat) (orc_sheet : Nat) (orc_rows : Nat) (brc : S8) (bwd : S7) (bc : S0) (bd : S0) (sg : Nat → Nat) (y : Nat → S0) (D : Nat) (un : Int32) (hz_c_size : ∃ N : Nat, N ≤ 16 ∧ g0_size bc = nI N) (hz_wd_length : ∃ N : Nat, N ≤ 120 ∧ g7_length bwd = nI N) (hs_hi_sg : ∀ j : Nat, j < 13 → sg j < 13) (hd_hi_D : D ≤ 12) (T : Int32 × (Int32) × (Nat → Int32) × (Nat → Int32) × (Nat → Int32) × (Nat → Int32) × (Nat → Int32) × (Nat → Int32) × (Int32) × (Int32) × (Int32) × (Nat → Int32) × (Nat → Int32) × (Nat → Int32) × (Nat → Int32) × (Nat → Int32) × (Nat → Int32) × (Int32) × (Int32) × (Nat → Int32) × (Nat → Int32) × (Nat → Int32) × (Nat → Int32) × (Nat → Int32) × (Nat → Int32) × (Int32) × (Int32) × (Int32) × (Nat → Nat) × (Nat → S0) × (Nat) × (Int32)) (hT : FX8_reads (g8_isSettled brc) (g7_tape bwd) (g7_sort bwd) (g7_head bwd) (g7_body bwd) (g7_excepts bwd) (g7_power bwd) (g7_begins bwd) (g7_length bwd) (g7_at bwd) (g7_told bwd) (g0_kind bc) (g0_head bc) (g0_body bc) (g0_excepts bc) (g0_power bc) (g0_beats bc) (g0_facts bc) (g0_size bc) (g0_shut bc) (g0_kind bd) (g0_head bd) (g0_body bd) (g0_excepts bd) (g0_power bd) (g0_beats bd) (g0_facts bd) (g0_size bd) (g0_shut bd) sg y D un = T) : zI l yX8_reads wsX8_reads rmX8_reads .int G [.ref (arc 0)] (w8 G arc (ac 0) orc_rounds (ad 0) orc_thoughtRounds orc_chain (ahi 0) orc_kept (awd 0) orc_sheet orc_rows brc :: w7 G awd bwd :: w0 G ac bc :: w0 G ad bd :: w1 G ahi aik sg (nI D) un :: hcs G aik y) T.1 (w8 G arc (ac 0) orc_rounds (ad 0) orc_thoughtRounds orc_chain (ahi 0) orc_kept (awd 0) orc_sheet orc_rows (s8_isSettled brc T.2.1) :: w7 G awd (s7_told (s7_at (s7_length (s7_begins (s7_power (s7_excepts (s7_body (s7_head (s7_sort bwd T.2.2.1) T.2.2.2.1) T.2.2.2.2.1) T.2.2.2.2.2.1) T.2.2.2.2.2.2.1) T.2.2.2.2.2.2.2.1) T.2.2.2.2.2.2.2.2.1) T.2.2.2.2.2.2.2.2.2.1) T.2.2.2.2.2.2.2.2.2.2.1) :: w0 G ac (s0_size (s0_facts (s0_beats (s0_power (s0_excepts (s0_body (s0_head (s0_kind bc T.2.2.2.2.2.2.2.2.2.2.2.1) T.2.2.2.2.2.2.2.2.2.2.2.2.1) T.2.2.2.2.2.2.2.2.2.2.2.2.2.1) T.2.2.2.2.2.2.2.2.2.2.2.2.2.2.1) T.2.2.2.2.2.2.2.2.2.2.2.2.2.2.2.1) T.2.2.2.2.2.2.2.2.2.2.2.2.2.2.2.2.1) T.2.2.2.2.2.2.2.2.2.2.2.2.2.2.2.2.2.1) T.2.2.2.2.2.2.2.2.2.2.2.2.2.2.2.2.2.2.1) :: w0 G ad (s0_shut (s0_size (s0_facts (s0_beats (s0_power (s0_excepts (s0_body (s0_head (s0_kind bd T.2.2.2.2.2.2.2.2.2.2.2.2.2.2.2.2.2.2.2.1) T.2.2.2.2.2.2.2.2.2.2.2.2.2.2.2.2.2.2.2.2.1) T.2.2.2.2.2.2.2.2.2.2.2.2.2.2.2.2.2.2.2.2.2.1) T.2.2.2.2.2.2.2.2.2.2.2.2.2.2.2.2.2.2.2.2.2.2.1) T.2.2.2.2.2.2.2.2.2.2.2.2.2.2.2.2.2.2.2.2.2.2.2.1) T.2.2.2.2.2.2.2.2.2.2.2.2.2.2.2.2.2.2.2.2.2.2.2.2.1) T.2.2.2.2.2.2.2.2.2.2.2.2.2.2.2.2.2.2.2.2.2.2.2.2.2.1) T.2.2.2.2.2.2.2.2.2.2.2.2.2.2.2.2.2.2.2.2.2.2.2.2.2.2.1) T.2.2.2.2.2.2.2.2.2.2.2.2.2.2.2.2.2.2.2.2.2.2.2.2.2.2.2.1) :: w1 G ahi aik T.2.2.2.2.2.2.2.2.2.2.2.2.2.2.2.2.2.2.2.2.2.2.2.2.2.2.2.2.1 (nI T.2.2.2.2.2.2.2.2.2.2.2.2.2.2.2.2.2.2.2.2.2.2.2.2.2.2.2.2.2.2.1) T.2.2.2.2.2.2.2.2.2.2.2.2.2.2.2.2.2.2.2.2.2.2.2.2.2.2.2.2.2.2.2 :: hcs G aik T.2.2.2.2.2.2.2.2.2.2.2.2.2.2.2.2.2.2.2.2.2.2.2.2.2.2.2.2.2.1) := by
  refine zI.mk (cc := cX8_reads) (maxL := 3) (by decide +kernel) rfl (Nat.le_of_ble_eq_true rfl) (zfl_cons (wf8 _ _ _ _ _ _ _ _ _ _ _ _ _ _) (zfl_cons (wf7 _ _ _ _) (zfl_cons (wf0 _ _ _ _) (zfl_cons (wf0 _ _ _ _) (zfl_cons rfl (hcs_fst0 _ _ _ _)))))) ?_
  intro p e s m args below meth c Q A ls S hK hD hA hP hl hret
  have hx := S.1
  have hb := S.2.1
  have hS : va_S A s.heap s.heap [] := va_S.rf
  have hl : lv_has ls 3 [(0, .ref (arc 0))] := hl
  have hE := hT.symm.trans (FX8_reads.eq_1 _ _ _ _ _ _ _ _ _ _ _ _ _ _ _ _ _ _ _ _ _ _ _ _ _ _ _ _ _ _ _ _ _)
  refine lv_aload_n hx hb dX8_reads_0 rfl (lv_at hl 0 rfl) ?_
  refine zg8_words S in_X8_reads_8 hK hP 0 rfl (List.mem_of_getElem? (i := 1) rfl) dX8_reads_1 ?_
  obtain ⟨t4, ht4⟩ : ∃ z, FX7_split (g7_tape bwd) (g7_sort bwd) (g7_head bwd) (g7_body bwd) (g7_excepts bwd) (g7_power bwd) (g7_begins bwd) (g7_length bwd) (g7_at bwd) (g7_told bwd) = z := ⟨_, rfl⟩
  have hE := hE.trans (bnd_eq ht4)
  have hc := c_X7_split l G awd bwd (hz_wd_length) _ ht4
  refine zgoI (bs' := (w8 G arc (ac 0) orc_rounds (ad 0) orc_thoughtRounds orc_chain (ahi 0) orc_kept (awd 0) orc_sheet orc_rows brc :: w7 G awd (s7_told (s7_at (s7_begins (s7_power (s7_excepts (s7_body (s7_head (s7_sort bwd t4.2.1) t4.2.2.1) t4.2.2.2.1) t4.2.2.2.2.1) t4.2.2.2.2.2.1) t4.2.2.2.2.2.2.1) t4.2.2.2.2.2.2.2.1) t4.2.2.2.2.2.2.2.2) :: w0 G ac bc :: w0 G ad bd :: w1 G ahi aik sg (nI D) un :: hcs G aik y)) hc [1] rfl rfl rfl hP hD hS hA (va_runV (As := []) (rest := []) S (hc.2 _) (cwV 0 S.2.2.2.2 gX8_reads_X7_split rfl rfl rfl (by decide +kernel) ⟨Nat.le_of_ble_eq_true rfl, Nat.le_of_ble_eq_true rfl⟩) (zpV hK hP hD (is := [1]) rfl rfl 1 rfl rfl (ci := 7) rfl) rfl rfl hl.1 rfl (lv_room (Nat.le_of_ble_eq_true rfl)) dX8_reads_4 ⟨Nat.zero_le _, Nat.zero_le _⟩) (fun H locs hn4 hP hD hS => ?_)
  obtain ⟨NT, hNT, hTe⟩ : ∃ N : Nat, N ≤ 60 ∧ t4.2.2.2.2.2.2.2.2 = nI N := by rw [← ht4]; exact zsplit_told
  refine lv_istore_n (lv' := [(1, .int t4.1), (0, .ref (arc 0))]) hx hb dX8_reads_7 rfl hl (by decide) rfl (fun ls hl => ?_)
  refine lv_aload_n hx hb dX8_reads_8 rfl (lv_at hl 1 rfl) ?_
  refine zg8_words S in_X8_reads_8 hK hP 0 rfl (List.mem_of_getElem? (i := 1) rfl) dX8_reads_9 ?_
  refine lv_iconst (v := 0) hx hb dX8_reads_12 (by decide) ?_
  refine zp7_length (bs1 := (w8 G arc (ac 0) orc_rounds (ad 0) orc_thoughtRounds orc_chain (ahi 0) orc_kept (awd 0) orc_sheet orc_rows brc :: w7 G awd (s7_length (s7_told (s7_at (s7_begins (s7_power (s7_excepts (s7_body (s7_head (s7_sort bwd t4.2.1) t4.2.2.1) t4.2.2.2.1) t4.2.2.2.2.1) t4.2.2.2.2.2.1) t4.2.2.2.2.2.2.1) t4.2.2.2.2.2.2.2.1) t4.2.2.2.2.2.2.2.2) 0) :: w0 G ac bc :: w0 G ad bd :: w1 G ahi aik sg (nI D) un :: hcs G aik y)) S in_X8_reads_7 hK hP hD hS 1 rfl (List.mem_of_getElem? (i := 2) rfl) dX8_reads_13 rfl (fun H locs hP hD hS => ?_)
  refine lv_iload_n hx hb dX8_reads_16 rfl (lv_at hl 0 rfl) ?_
  refine lv_if_ne (tgt := 32) hx hb dX8_reads_17 (by decide) (fun c17 => ?_) (fun c17 => ?_)
  · have hE := hE.trans (if_neg c17)
    refine lv_aload_n hx hb dX8_reads_32 rfl (lv_at hl 1 rfl) ?_
    refine zg8_thought S in_X8_reads_8 hK hP 0 rfl (List.mem_of_getElem? (i := 4) rfl) dX8_reads_33 ?_
    refine lv_aload_n hx hb dX8_reads_36 rfl (lv_at hl 1 rfl) ?_
    refine zg8_court S in_X8_reads_8 hK hP 0 rfl (List.mem_of_getElem? (i := 5) rfl) dX8_reads_37 ?_
    obtain ⟨t40, ht40⟩ : ∃ z, FX0_copyFrom (g0_kind bd) (g0_head bd) (g0_body bd) (g0_excepts bd) (g0_power bd) (g0_beats bd) (g0_facts bd) (g0_size bd) (g0_shut bd) (g0_kind bc) (g0_head bc) (g0_body bc) (g0_excepts bc) (g0_power bc) (g0_beats bc) (g0_facts bc) (g0_size bc) (g0_shut bc) = z := ⟨_, rfl⟩
    have hE := hE.trans (bnd_eq ht40)
    have hc := c_X0_copyFrom l G ad ac bd bc _ ht40
    refine zgoV (bs' := (w8 G arc (ac 0) orc_rounds (ad 0) orc_thoughtRounds orc_chain (ahi 0) orc_kept (awd 0) orc_sheet orc_rows brc :: w7 G awd (s7_length (s7_told (s7_at (s7_begins (s7_power (s7_excepts (s7_body (s7_head (s7_sort bwd t4.2.1) t4.2.2.1) t4.2.2.2.1) t4.2.2.2.2.1) t4.2.2.2.2.2.1) t4.2.2.2.2.2.2.1) t4.2.2.2.2.2.2.2.1) t4.2.2.2.2.2.2.2.2) 0) :: w0 G ac bc :: w0 G ad (s0_shut (s0_size (s0_facts (s0_beats (s0_power (s0_excepts (s0_body (s0_head (s0_kind bd t40.1) t40.2.1) t40.2.2.1) t40.2.2.2.1) t40.2.2.2.2.1) t40.2.2.2.2.2.1) t40.2.2.2.2.2.2.1) t40.2.2.2.2.2.2.2.1) t40.2.2.2.2.2.2.2.2) :: w1 G ahi aik sg (nI D) un :: hcs G aik y)) hc [3, 2] rfl rfl rfl hP hD hS hA (va_runV (As := [.ref (ac 0)]) (rest := []) S (hc.2 _) (cwV 1 S.2.2.2.2 gX8_reads_X0_copyFrom rfl rfl rfl (by decide +kernel) ⟨Nat.le_of_ble_eq_true rfl, Nat.le_of_ble_eq_true rfl⟩) (zpV hK hP hD (is := [3, 2]) rfl rfl 3 rfl rfl (ci := 0) rfl) rfl rfl hl.1 rfl (lv_room (Nat.le_of_ble_eq_true rfl)) dX8_reads_40 ⟨Nat.zero_le _, Nat.zero_le _⟩) (fun H locs hP hD hS => ?_)
    have hz_d_size_40 : ∃ N : Nat, N ≤ 16 ∧ t40.2.2.2.2.2.2.2.1 = nI N := by rw [← ht40]; exact hz_c_size
    refine lv_iconst (v := 0) hx hb dX8_reads_43 (by decide) ?_
    have hB91 : ∀ (d_kind_91 : Nat → Int32) (d_head_91 : Nat → Int32) (d_body_91 : Nat → Int32) (d_excepts_91 : Nat → Int32) (d_power_91 : Nat → Int32) (d_beats_91 : Nat → Int32) (d_facts_91 : Int32) (d_size_91 : Int32) (H : Heap) (locs : List Loc) (ls : Array Slot), T = FX8_reads_91 (g8_isSettled brc) (g7_tape bwd) (g7_sort bwd) (g7_head bwd) (g7_body bwd) (g7_excepts bwd) (g7_power bwd) (g7_begins bwd) (g7_length bwd) (g7_at bwd) (g7_told bwd) (g0_kind bc) (g0_head bc) (g0_body bc) (g0_excepts bc) (g0_power bc) (g0_beats bc) (g0_facts bc) (g0_size bc) (g0_shut bc) (g0_kind bd) (g0_head bd) (g0_body bd) (g0_excepts bd) (g0_power bd) (g0_beats bd) (g0_facts bd) (g0_size bd) (g0_shut bd) sg y D un (g8_isSettled brc) t4.2.1 t4.2.2.1 t4.2.2.2.1 t4.2.2.2.2.1 t4.2.2.2.2.2.1 t4.2.2.2.2.2.2.1 0 t4.2.2.2.2.2.2.2.1 t4.2.2.2.2.2.2.2.2 (g0_kind bc) (g0_head bc) (g0_body bc) (g0_excepts bc) (g0_power bc) (g0_beats bc) (g0_facts bc) (g0_size bc) d_kind_91 d_head_91 d_body_91 d_excepts_91 d_power_91 d_beats_91 d_facts_91 d_size_91 t40.2.2.2.2.2.2.2.2 sg y D un → zP G (w8 G arc (ac 0) orc_rounds (ad 0) orc_thoughtRounds orc_chain (ahi 0) orc_kept (awd 0) orc_sheet orc_rows brc :: w7 G awd (s7_told (s7_at (s7_length (s7_begins (s7_power (s7_excepts (s7_body (s7_head (s7_sort bwd t4.2.1) t4.2.2.1) t4.2.2.2.1) t4.2.2.2.2.1) t4.2.2.2.2.2.1) t4.2.2.2.2.2.2.1) 0) t4.2.2.2.2.2.2.2.1) t4.2.2.2.2.2.2.2.2) :: w0 G ac bc :: w0 G ad (s0_shut (s0_size (s0_facts (s0_beats (s0_power (s0_excepts (s0_body (s0_head (s0_kind bd d_kind_91) d_head_91) d_body_91) d_excepts_91) d_power_91) d_beats_91) d_facts_91) d_size_91) t40.2.2.2.2.2.2.2.2) :: w1 G ahi aik sg (nI D) un :: hcs G aik y) H → zD A (w8 G arc (ac 0) orc_rounds (ad 0) orc_thoughtRounds orc_chain (ahi 0) orc_kept (awd 0) orc_sheet orc_rows brc :: w7 G awd (s7_told (s7_at (s7_length (s7_begins (s7_power (s7_excepts (s7_body (s7_head (s7_sort bwd t4.2.1) t4.2.2.1) t4.2.2.2.1) t4.2.2.2.2.1) t4.2.2.2.2.2.1) t4.2.2.2.2.2.2.1) 0) t4.2.2.2.2.2.2.2.1) t4.2.2.2.2.2.2.2.2) :: w0 G ac bc :: w0 G ad (s0_shut (s0_size (s0_facts (s0_beats (s0_power (s0_excepts (s0_body (s0_head (s0_kind bd d_kind_91) d_head_91) d_body_91) d_excepts_91) d_power_91) d_beats_91) d_facts_91) d_size_91) t40.2.2.2.2.2.2.2.2) :: w1 G ahi aik sg (nI D) un :: hcs G aik y) → va_S A s.heap H locs → lv_has ls 3 [(0, .ref (arc 0))] → W p l e rmX8_reads s m args below meth c H locs 0 0 Q (F0 m 91 ls []) := by
      intro d_kind_91 d_head_91 d_body_91 d_excepts_91 d_power_91 d_beats_91 d_facts_91 d_size_91 H locs ls hE hP hD hS hl
      have hE := hE.trans (FX8_reads_91.eq_1 _ _ _ _ _ _ _ _ _ _ _ _ _ _ _ _ _ _ _ _ _ _ _ _ _ _ _ _ _ _ _ _ _ _ _ _ _ _ _ _ _ _ _ _ _ _ _ _ _ _ _ _ _ _ _ _ _ _ _ _ _ _ _ _)
      refine lv_iconst (v := 0) hx hb dX8_reads_91 (by decide) ?_
      have hB127 : ∀ (rc_isSettled_127 : Int32) (c_kind_127 : Nat → Int32) (c_head_127 : Nat → Int32) (c_body_127 : Nat → Int32) (c_excepts_127 : Nat → Int32) (c_power_127 : Nat → Int32) (c_beats_127 : Nat → Int32) (c_facts_127 : Int32) (c_size_127 : Int32) (hi_sg_127 : Nat → Nat) (hi_y_127 : Nat → S0) (hi_D_127 : Nat) (hi_un_127 : Int32) (H : Heap) (locs : List Loc) (ls : Array Slot), (∃ N : Nat, N ≤ 16 ∧ c_size_127 = nI N) → (∀ j : Nat, j < 13 → hi_sg_127 j < 13) → (hi_D_127 ≤ 12) → T = FX8_reads_127 (g8_isSettled brc) (g7_tape bwd) (g7_sort bwd) (g7_head bwd) (g7_body bwd) (g7_excepts bwd) (g7_power bwd) (g7_begins bwd) (g7_length bwd) (g7_at bwd) (g7_told bwd) (g0_kind bc) (g0_head bc) (g0_body bc) (g0_excepts bc) (g0_power bc) (g0_beats bc) (g0_facts bc) (g0_size bc) (g0_shut bc) (g0_kind bd) (g0_head bd) (g0_body bd) (g0_excepts bd) (g0_power bd) (g0_beats bd) (g0_facts bd) (g0_size bd) (g0_shut bd) sg y D un rc_isSettled_127 t4.2.1 t4.2.2.1 t4.2.2.2.1 t4.2.2.2.2.1 t4.2.2.2.2.2.1 t4.2.2.2.2.2.2.1 0 t4.2.2.2.2.2.2.2.1 t4.2.2.2.2.2.2.2.2 c_kind_127 c_head_127 c_body_127 c_excepts_127 c_power_127 c_beats_127 c_facts_127 c_size_127 d_kind_91 d_head_91 d_body_91 d_excepts_91 d_power_91 d_beats_91 d_facts_91 d_size_91 t40.2.2.2.2.2.2.2.2 hi_sg_127 hi_y_127 hi_D_127 hi_un_127 → zP G (w8 G arc (ac 0) orc_rounds (ad 0) orc_thoughtRounds orc_chain (ahi 0) orc_kept (awd 0) orc_sheet orc_rows (s8_isSettled brc rc_isSettled_127) :: w7 G awd (s7_told (s7_at (s7_length (s7_begins (s7_power (s7_excepts (s7_body (s7_head (s7_sort bwd t4.2.1) t4.2.2.1) t4.2.2.2.1) t4.2.2.2.2.1) t4.2.2.2.2.2.1) t4.2.2.2.2.2.2.1) 0) t4.2.2.2.2.2.2.2.1) t4.2.2.2.2.2.2.2.2) :: w0 G ac (s0_size (s0_facts (s0_beats (s0_power (s0_excepts (s0_body (s0_head (s0_kind bc c_kind_127) c_head_127) c_body_127) c_excepts_127) c_power_127) c_beats_127) c_facts_127) c_size_127) :: w0 G ad (s0_shut (s0_size (s0_facts (s0_beats (s0_power (s0_excepts (s0_body (s0_head (s0_kind bd d_kind_91) d_head_91) d_body_91) d_excepts_91) d_power_91) d_beats_91) d_facts_91) d_size_91) t40.2.2.2.2.2.2.2.2) :: w1 G ahi aik hi_sg_127 (nI hi_D_127) hi_un_127 :: hcs G aik hi_y_127) H → zD A (w8 G arc (ac 0) orc_rounds (ad 0) orc_thoughtRounds orc_chain (ahi 0) orc_kept (awd 0) orc_sheet orc_rows (s8_isSettled brc rc_isSettled_127) :: w7 G awd (s7_told (s7_at (s7_length (s7_begins (s7_power (s7_excepts (s7_body (s7_head (s7_sort bwd t4.2.1) t4.2.2.1) t4.2.2.2.1) t4.2.2.2.2.1) t4.2.2.2.2.2.1) t4.2.2.2.2.2.2.1) 0) t4.2.2.2.2.2.2.2.1) t4.2.2.2.2.2.2.2.2) :: w0 G ac (s0_size (s0_facts (s0_beats (s0_power (s0_excepts (s0_body (s0_head (s0_kind bc c_kind_127) c_head_127) c_body_127) c_excepts_127) c_power_127) c_beats_127) c_facts_127) c_size_127) :: w0 G ad (s0_shut (s0_size (s0_facts (s0_beats (s0_power (s0_excepts (s0_body (s0_head (s0_kind bd d_kind_91) d_head_91) d_body_91) d_excepts_91) d_power_91) d_beats_91) d_facts_91) d_size_91) t40.2.2.2.2.2.2.2.2) :: w1 G ahi aik hi_sg_127 (nI hi_D_127) hi_un_127 :: hcs G aik hi_y_127) → va_S A s.heap H locs → lv_has ls 3 [(0, .ref (arc 0))] → W p l e rmX8_reads s m args below meth c H locs 0 0 Q (F0 m 127 ls []) := by
        intro rc_isSettled_127 c_kind_127 c_head_127 c_body_127 c_excepts_127 c_power_127 c_beats_127 c_facts_127 c_size_127 hi_sg_127 hi_y_127 hi_D_127 hi_un_127 H locs ls hz_c_size_B127 hs_hi_sg_B127 hd_hi_D_B127 hE hP hD hS hl
        have hE := hE.trans (FX8_reads_127.eq_1 _ _ _ _ _ _ _ _ _ _ _ _ _ _ _ _ _ _ _ _ _ _ _ _ _ _ _ _ _ _ _ _ _ _ _ _ _ _ _ _ _ _ _ _ _ _ _ _ _ _ _ _ _ _ _ _ _ _ _ _ _ _ _ _)
        refine lv_aload_n hx hb dX8_reads_127 rfl (lv_at hl 0 rfl) ?_
        refine zg8_words S in_X8_reads_8 hK hP 0 rfl (List.mem_of_getElem? (i := 1) rfl) dX8_reads_128 ?_
        refine zg7_told S in_X8_reads_7 hK hP 1 rfl (List.mem_of_getElem? (i := 6) rfl) (v := t4.2.2.2.2.2.2.2.2) (gg7_told _ t4.2.2.2.2.2.2.2.2) dX8_reads_131 ?_
        exact hret _ _ _ _ _ _ (by subst hE; rfl) rfl hP hS dX8_reads_134
      have hB93 : ∀ (n93 : Nat) (i2_93 : Nat) (rc_isSettled_93 : Int32) (c_kind_93 : Nat → Int32) (c_head_93 : Nat → Int32) (c_body_93 : Nat → Int32) (c_excepts_93 : Nat → Int32) (c_power_93 : Nat → Int32) (c_beats_93 : Nat → Int32) (c_facts_93 : Int32) (c_size_93 : Int32) (hi_sg_93 : Nat → Nat) (hi_y_93 : Nat → S0) (hi_D_93 : Nat) (hi_un_93 : Int32) (H : Heap) (locs : List Loc) (ls : Array Slot), (i2_93 ≤ NT) → (∃ N : Nat, N ≤ 16 ∧ c_size_93 = nI N) → (∀ j : Nat, j < 13 → hi_sg_93 j < 13) → (hi_D_93 ≤ 12) → 61 ≤ i2_93 + n93 → T = FX8_reads_93 (g8_isSettled brc) (g7_tape bwd) (g7_sort bwd) (g7_head bwd) (g7_body bwd) (g7_excepts bwd) (g7_power bwd) (g7_begins bwd) (g7_length bwd) (g7_at bwd) (g7_told bwd) (g0_kind bc) (g0_head bc) (g0_body bc) (g0_excepts bc) (g0_power bc) (g0_beats bc) (g0_facts bc) (g0_size bc) (g0_shut bc) (g0_kind bd) (g0_head bd) (g0_body bd) (g0_excepts bd) (g0_power bd) (g0_beats bd) (g0_facts bd) (g0_size bd) (g0_shut bd) sg y D un (FX8_reads_127 (g8_isSettled brc) (g7_tape bwd) (g7_sort bwd) (g7_head bwd) (g7_body bwd) (g7_excepts bwd) (g7_power bwd) (g7_begins bwd) (g7_length bwd) (g7_at bwd) (g7_told bwd) (g0_kind bc) (g0_head bc) (g0_body bc) (g0_excepts bc) (g0_power bc) (g0_beats bc) (g0_facts bc) (g0_size bc) (g0_shut bc) (g0_kind bd) (g0_head bd) (g0_body bd) (g0_excepts bd) (g0_power bd) (g0_beats bd) (g0_facts bd) (g0_size bd) (g0_shut bd) sg y D un) n93 (nI i2_93) rc_isSettled_93 t4.2.1 t4.2.2.1 t4.2.2.2.1 t4.2.2.2.2.1 t4.2.2.2.2.2.1 t4.2.2.2.2.2.2.1 0 t4.2.2.2.2.2.2.2.1 t4.2.2.2.2.2.2.2.2 c_kind_93 c_head_93 c_body_93 c_excepts_93 c_power_93 c_beats_93 c_facts_93 c_size_93 d_kind_91 d_head_91 d_body_91 d_excepts_91 d_power_91 d_beats_91 d_facts_91 d_size_91 t40.2.2.2.2.2.2.2.2 hi_sg_93 hi_y_93 hi_D_93 hi_un_93 → zP G (w8 G arc (ac 0) orc_rounds (ad 0) orc_thoughtRounds orc_chain (ahi 0) orc_kept (awd 0) orc_sheet orc_rows (s8_isSettled brc rc_isSettled_93) :: w7 G awd (s7_told (s7_at (s7_length (s7_begins (s7_power (s7_excepts (s7_body (s7_head (s7_sort bwd t4.2.1) t4.2.2.1) t4.2.2.2.1) t4.2.2.2.2.1) t4.2.2.2.2.2.1) t4.2.2.2.2.2.2.1) 0) t4.2.2.2.2.2.2.2.1) t4.2.2.2.2.2.2.2.2) :: w0 G ac (s0_size (s0_facts (s0_beats (s0_power (s0_excepts (s0_body (s0_head (s0_kind bc c_kind_93) c_head_93) c_body_93) c_excepts_93) c_power_93) c_beats_93) c_facts_93) c_size_93) :: w0 G ad (s0_shut (s0_size (s0_facts (s0_beats (s0_power (s0_excepts (s0_body (s0_head (s0_kind bd d_kind_91) d_head_91) d_body_91) d_excepts_91) d_power_91) d_beats_91) d_facts_91) d_size_91) t40.2.2.2.2.2.2.2.2) :: w1 G ahi aik hi_sg_93 (nI hi_D_93) hi_un_93 :: hcs G aik hi_y_93) H → zD A (w8 G arc (ac 0) orc_rounds (ad 0) orc_thoughtRounds orc_chain (ahi 0) orc_kept (awd 0) orc_sheet orc_rows (s8_isSettled brc rc_isSettled_93) :: w7 G awd (s7_told (s7_at (s7_length (s7_begins (s7_power (s7_excepts (s7_body (s7_head (s7_sort bwd t4.2.1) t4.2.2.1) t4.2.2.2.1) t4.2.2.2.2.1) t4.2.2.2.2.2.1) t4.2.2.2.2.2.2.1) 0) t4.2.2.2.2.2.2.2.1) t4.2.2.2.2.2.2.2.2) :: w0 G ac (s0_size (s0_facts (s0_beats (s0_power (s0_excepts (s0_body (s0_head (s0_kind bc c_kind_93) c_head_93) c_body_93) c_excepts_93) c_power_93) c_beats_93) c_facts_93) c_size_93) :: w0 G ad (s0_shut (s0_size (s0_facts (s0_beats (s0_power (s0_excepts (s0_body (s0_head (s0_kind bd d_kind_91) d_head_91) d_body_91) d_excepts_91) d_power_91) d_beats_91) d_facts_91) d_size_91) t40.2.2.2.2.2.2.2.2) :: w1 G ahi aik hi_sg_93 (nI hi_D_93) hi_un_93 :: hcs G aik hi_y_93) → va_S A s.heap H locs → lv_has ls 3 [(0, .ref (arc 0)), (2, .int (nI i2_93))] → W p l e rmX8_reads s m args below meth c H locs 0 0 Q (F0 m 93 ls []) := by
        intro n93
        induction n93 with
        | zero =>
          intro i2_93 rc_isSettled_93 c_kind_93 c_head_93 c_body_93 c_excepts_93 c_power_93 c_beats_93 c_facts_93 c_size_93 hi_sg_93 hi_y_93 hi_D_93 hi_un_93 H locs ls hi2_93 hz_c_size_B93 hs_hi_sg_B93 hd_hi_D_B93 hn hE hP hD hS hl
          exact absurd hn (by omega)
        | succ n93 ih93 =>
          intro i2_93 rc_isSettled_93 c_kind_93 c_head_93 c_body_93 c_excepts_93 c_power_93 c_beats_93 c_facts_93 c_size_93 hi_sg_93 hi_y_93 hi_D_93 hi_un_93 H locs ls hi2_93 hz_c_size_B93 hs_hi_sg_B93 hd_hi_D_B93 hn hE hP hD hS hl
          have hE := hE.trans (FX8_reads_93.eq_2 _ _ _ _ _ _ _ _ _ _ _ _ _ _ _ _ _ _ _ _ _ _ _ _ _ _ _ _ _ _ _ _ _ _ _ _ _ _ _ _ _ _ _ _ _ _ _ _ _ _ _ _ _ _ _ _ _ _ _ _ _ _ _ _ _ _ _)
          refine lv_iload_n hx hb dX8_reads_93 rfl (lv_at hl 1 rfl) ?_
          refine lv_aload_n hx hb dX8_reads_94 rfl (lv_at hl 0 rfl) ?_
          refine zg8_words S in_X8_reads_8 hK hP 0 rfl (List.mem_of_getElem? (i := 1) rfl) dX8_reads_95 ?_
          refine zg7_told S in_X8_reads_7 hK hP 1 rfl (List.mem_of_getElem? (i := 6) rfl) (v := t4.2.2.2.2.2.2.2.2) (gg7_told _ t4.2.2.2.2.2.2.2.2) dX8_reads_98 ?_
          refine lv_icmp_ge (tgt := 127) hx hb dX8_reads_101 (by decide) (fun c101 => ?_) (fun c101 => ?_)
          · have hE := hE.trans (if_pos c101)
            exact hB127 rc_isSettled_93 c_kind_93 c_head_93 c_body_93 c_excepts_93 c_power_93 c_beats_93 c_facts_93 c_size_93 hi_sg_93 hi_y_93 hi_D_93 hi_un_93 _ _ _ (by exact hz_c_size_B93) (by exact hs_hi_sg_B93) (by exact hd_hi_D_B93) hE hP hD hS (lv_sub hl [0] rfl)
          · have hE := hE.trans (if_neg c101)
            have hl2_93 : i2_93 < NT := zlt hTe (by omega) (by omega) c101
            refine lv_aload_n hx hb dX8_reads_104 rfl (lv_at hl 0 rfl) ?_
            refine zg8_words S in_X8_reads_8 hK hP 0 rfl (List.mem_of_getElem? (i := 1) rfl) dX8_reads_105 ?_
            refine lv_iload_n hx hb dX8_reads_108 rfl (lv_at hl 1 rfl) ?_
            refine lv_aload_n hx hb dX8_reads_109 rfl (lv_at hl 0 rfl) ?_
            refine zg8_court S in_X8_reads_8 hK hP 0 rfl (List.mem_of_getElem? (i := 5) rfl) dX8_reads_110 ?_
            obtain ⟨t113, ht113⟩ : ∃ z, FX7_tell t4.2.1 t4.2.2.1 t4.2.2.2.1 t4.2.2.2.2.1 t4.2.2.2.2.2.1 c_kind_93 c_head_93 c_body_93 c_excepts_93 c_power_93 c_beats_93 c_facts_93 c_size_93 (nI i2_93) = z := ⟨_, rfl⟩
            have hE := hE.trans (bnd_eq ht113)
            have hc := c_X7_tell l G awd ac (s7_told (s7_at (s7_length (s7_begins (s7_power (s7_excepts (s7_body (s7_head (s7_sort bwd t4.2.1) t4.2.2.1) t4.2.2.2.1) t4.2.2.2.2.1) t4.2.2.2.2.2.1) t4.2.2.2.2.2.2.1) 0) t4.2.2.2.2.2.2.2.1) t4.2.2.2.2.2.2.2.2) (s0_size (s0_facts (s0_beats (s0_power (s0_excepts (s0_body (s0_head (s0_kind bc c_kind_93) c_head_93) c_body_93) c_excepts_93) c_power_93) c_beats_93) c_facts_93) c_size_93) (nI i2_93) (hz_c_size_B93) ((vp_in_nI (by omega) (by omega))) _ (by simp only [gs7_sort_told, gs7_sort_at, gs7_sort_length, gs7_sort_begins, gs7_sort_power, gs7_sort_excepts, gs7_sort_body, gs7_sort_head, gg7_sort, gs7_head_told, gs7_head_at, gs7_head_length, gs7_head_begins, gs7_head_power, gs7_head_excepts, gs7_head_body, gg7_head, gs7_body_told, gs7_body_at, gs7_body_length, gs7_body_begins, gs7_body_power, gs7_body_excepts, gg7_body, gs7_excepts_told, gs7_excepts_at, gs7_excepts_length, gs7_excepts_begins, gs7_excepts_power, gg7_excepts, gs7_power_told, gs7_power_at, gs7_power_length, gs7_power_begins, gg7_power, gs0_kind_size, gs0_kind_facts, gs0_kind_beats, gs0_kind_power, gs0_kind_excepts, gs0_kind_body, gs0_kind_head, gg0_kind, gs0_head_size, gs0_head_facts, gs0_head_beats, gs0_head_power, gs0_head_excepts, gs0_head_body, gg0_head, gs0_body_size, gs0_body_facts, gs0_body_beats, gs0_body_power, gs0_body_excepts, gg0_body, gs0_excepts_size, gs0_excepts_facts, gs0_excepts_beats, gs0_excepts_power, gg0_excepts, gs0_power_size, gs0_power_facts, gs0_power_beats, gg0_power, gs0_beats_size, gs0_beats_facts, gg0_beats, gs0_facts_size, gg0_facts, gg0_size]; exact ht113)
            refine zgoI (bs' := (w8 G arc (ac 0) orc_rounds (ad 0) orc_thoughtRounds orc_chain (ahi 0) orc_kept (awd 0) orc_sheet orc_rows (s8_isSettled brc rc_isSettled_93) :: w7 G awd (s7_told (s7_at (s7_length (s7_begins (s7_power (s7_excepts (s7_body (s7_head (s7_sort bwd t4.2.1) t4.2.2.1) t4.2.2.2.1) t4.2.2.2.2.1) t4.2.2.2.2.2.1) t4.2.2.2.2.2.2.1) 0) t4.2.2.2.2.2.2.2.1) t4.2.2.2.2.2.2.2.2) :: w0 G ac (s0_size (s0_facts (s0_beats (s0_power (s0_excepts (s0_body (s0_head (s0_kind (s0_size (s0_facts (s0_beats (s0_power (s0_excepts (s0_body (s0_head (s0_kind bc c_kind_93) c_head_93) c_body_93) c_excepts_93) c_power_93) c_beats_93) c_facts_93) c_size_93) t113.2.1) t113.2.2.1) t113.2.2.2.1) t113.2.2.2.2.1) t113.2.2.2.2.2.1) t113.2.2.2.2.2.2.1) t113.2.2.2.2.2.2.2.1) t113.2.2.2.2.2.2.2.2) :: w0 G ad (s0_shut (s0_size (s0_facts (s0_beats (s0_power (s0_excepts (s0_body (s0_head (s0_kind bd d_kind_91) d_head_91) d_body_91) d_excepts_91) d_power_91) d_beats_91) d_facts_91) d_size_91) t40.2.2.2.2.2.2.2.2) :: w1 G ahi aik hi_sg_93 (nI hi_D_93) hi_un_93 :: hcs G aik hi_y_93)) hc [1, 2] rfl rfl rfl hP hD hS hA (va_runV (As := [.int (nI i2_93), .ref (ac 0)]) (rest := []) S (hc.2 _) (cwV 2 S.2.2.2.2 gX8_reads_X7_tell rfl rfl rfl (by decide +kernel) ⟨Nat.le_of_ble_eq_true rfl, Nat.le_of_ble_eq_true rfl⟩) (zpV hK hP hD (is := [1, 2]) rfl rfl 1 rfl rfl (ci := 7) rfl) rfl rfl hl.1 rfl (lv_room (Nat.le_of_ble_eq_true rfl)) dX8_reads_113 ⟨Nat.zero_le _, Nat.zero_le _⟩) (fun H locs hn113 hP hD hS => ?_)
            have hz_c_size_113 : ∃ N : Nat, N ≤ 16 ∧ t113.2.2.2.2.2.2.2.2 = nI N := by rw [← ht113]; exact ztell_size hz_c_size_B93
            refine lv_pop hx hb dX8_reads_116 rfl ?_
            refine lv_aload_n hx hb dX8_reads_117 rfl (lv_at hl 0 rfl) ?_
            obtain ⟨t118, ht118⟩ : ∃ z, FX8_changed rc_isSettled_93 t113.2.1 t113.2.2.1 t113.2.2.2.1 t113.2.2.2.2.1 t113.2.2.2.2.2.1 t113.2.2.2.2.2.2.1 t113.2.2.2.2.2.2.2.1 t113.2.2.2.2.2.2.2.2 (g0_shut bc) hi_sg_93 hi_y_93 hi_D_93 hi_un_93 = z := ⟨_, rfl⟩
            have hE := hE.trans (bnd_eq ht118)
            have hc := c_X8_changed l G arc ac ahi aik orc_rounds (ad 0) orc_thoughtRounds orc_chain orc_kept (awd 0) orc_sheet orc_rows (s8_isSettled brc rc_isSettled_93) (s0_size (s0_facts (s0_beats (s0_power (s0_excepts (s0_body (s0_head (s0_kind (s0_size (s0_facts (s0_beats (s0_power (s0_excepts (s0_body (s0_head (s0_kind bc c_kind_93) c_head_93) c_body_93) c_excepts_93) c_power_93) c_beats_93) c_facts_93) c_size_93) t113.2.1) t113.2.2.1) t113.2.2.2.1) t113.2.2.2.2.1) t113.2.2.2.2.2.1) t113.2.2.2.2.2.2.1) t113.2.2.2.2.2.2.2.1) t113.2.2.2.2.2.2.2.2) hi_sg_93 hi_y_93 hi_D_93 hi_un_93 (hs_hi_sg_B93) (hd_hi_D_B93) _ (by simp only [gg8_isSettled, gs0_kind_size, gs0_kind_facts, gs0_kind_beats, gs0_kind_power, gs0_kind_excepts, gs0_kind_body, gs0_kind_head, gg0_kind, gs0_head_size, gs0_head_facts, gs0_head_beats, gs0_head_power, gs0_head_excepts, gs0_head_body, gg0_head, gs0_body_size, gs0_body_facts, gs0_body_beats, gs0_body_power, gs0_body_excepts, gg0_body, gs0_excepts_size, gs0_excepts_facts, gs0_excepts_beats, gs0_excepts_power, gg0_excepts, gs0_power_size, gs0_power_facts, gs0_power_beats, gg0_power, gs0_beats_size, gs0_beats_facts, gg0_beats, gs0_facts_size, gg0_facts, gg0_size, gs0_shut_size, gs0_shut_facts, gs0_shut_beats, gs0_shut_power, gs0_shut_excepts, gs0_shut_body, gs0_shut_head, gs0_shut_kind]; exact ht118)
            refine zgoV (bs' := (w8 G arc (ac 0) orc_rounds (ad 0) orc_thoughtRounds orc_chain (ahi 0) orc_kept (awd 0) orc_sheet orc_rows (s8_isSettled (s8_isSettled brc rc_isSettled_93) t118.1) :: w7 G awd (s7_told (s7_at (s7_length (s7_begins (s7_power (s7_excepts (s7_body (s7_head (s7_sort bwd t4.2.1) t4.2.2.1) t4.2.2.2.1) t4.2.2.2.2.1) t4.2.2.2.2.2.1) t4.2.2.2.2.2.2.1) 0) t4.2.2.2.2.2.2.2.1) t4.2.2.2.2.2.2.2.2) :: w0 G ac (s0_size (s0_facts (s0_beats (s0_power (s0_excepts (s0_body (s0_head (s0_kind (s0_size (s0_facts (s0_beats (s0_power (s0_excepts (s0_body (s0_head (s0_kind bc c_kind_93) c_head_93) c_body_93) c_excepts_93) c_power_93) c_beats_93) c_facts_93) c_size_93) t113.2.1) t113.2.2.1) t113.2.2.2.1) t113.2.2.2.2.1) t113.2.2.2.2.2.1) t113.2.2.2.2.2.2.1) t113.2.2.2.2.2.2.2.1) t113.2.2.2.2.2.2.2.2) :: w0 G ad (s0_shut (s0_size (s0_facts (s0_beats (s0_power (s0_excepts (s0_body (s0_head (s0_kind bd d_kind_91) d_head_91) d_body_91) d_excepts_91) d_power_91) d_beats_91) d_facts_91) d_size_91) t40.2.2.2.2.2.2.2.2) :: w1 G ahi aik t118.2.1 (nI t118.2.2.2.1) t118.2.2.2.2 :: hcs G aik t118.2.2.1)) hc [0, 2, 4, 5, 6, 7, 8, 9, 10, 11, 12, 13, 14, 15, 16, 17] rfl rfl rfl hP hD hS hA (va_runV (As := []) (rest := []) S (hc.2 _) (cwV 0 S.2.2.2.2 gX8_reads_X8_changed rfl rfl rfl (by decide +kernel) ⟨Nat.le_of_ble_eq_true rfl, Nat.le_of_ble_eq_true rfl⟩) (zpV hK hP hD (is := [0, 2, 4, 5, 6, 7, 8, 9, 10, 11, 12, 13, 14, 15, 16, 17]) rfl rfl 0 rfl rfl (ci := 8) rfl) rfl rfl hl.1 rfl (lv_room (Nat.le_of_ble_eq_true rfl)) dX8_reads_118 ⟨Nat.zero_le _, Nat.zero_le _⟩) (fun H locs hP hD hS => ?_)
            have hs_hi_sg_118 : ∀ j : Nat, j < 13 → t118.2.1 j < 13 := by rw [← ht118]; exact zkS_lt hs_hi_sg_B93
            have hd_hi_D_118 : t118.2.2.2.1 ≤ 12 := by rw [← ht118]; exact zkD_le hd_hi_D_B93
            refine lv_iinc (v := (nI (i2_93 + 1))) (lv' := [(2, .int (nI (i2_93 + 1))), (0, .ref (arc 0))]) hx hb dX8_reads_121 hl (k := 1) rfl (nI_1 i2_93) (by decide) rfl (fun ls hl => ?_)
            try rw [nI_1 i2_93] at hE
            refine lv_goto (tgt := 93) hx hb dX8_reads_124 (by decide) ?_
            rw [show (s8_isSettled (s8_isSettled brc rc_isSettled_93) t118.1) = (s8_isSettled brc t118.1) from (ss8_isSettled _ rc_isSettled_93 t118.1)] at hP hD
            rw [show (s0_size (s0_facts (s0_beats (s0_power (s0_excepts (s0_body (s0_head (s0_kind (s0_size (s0_facts (s0_beats (s0_power (s0_excepts (s0_body (s0_head (s0_kind bc c_kind_93) c_head_93) c_body_93) c_excepts_93) c_power_93) c_beats_93) c_facts_93) c_size_93) t113.2.1) t113.2.2.1) t113.2.2.2.1) t113.2.2.2.2.1) t113.2.2.2.2.2.1) t113.2.2.2.2.2.2.1) t113.2.2.2.2.2.2.2.1) t113.2.2.2.2.2.2.2.2) = (s0_size (s0_facts (s0_beats (s0_power (s0_excepts (s0_body (s0_head (s0_kind bc t113.2.1) t113.2.2.1) t113.2.2.2.1) t113.2.2.2.2.1) t113.2.2.2.2.2.1) t113.2.2.2.2.2.2.1) t113.2.2.2.2.2.2.2.1) t113.2.2.2.2.2.2.2.2) from ((congrArg (fun z => s0_size z t113.2.2.2.2.2.2.2.2) ((congrArg (fun z => s0_facts z t113.2.2.2.2.2.2.2.1) ((congrArg (fun z => s0_beats z t113.2.2.2.2.2.2.1) ((congrArg (fun z => s0_power z t113.2.2.2.2.2.1) ((congrArg (fun z => s0_excepts z t113.2.2.2.2.1) ((congrArg (fun z => s0_body z t113.2.2.2.1) ((congrArg (fun z => s0_head z t113.2.2.1) ((cm0_kind_size _ c_size_93 t113.2.1).trans (congrArg (fun z => s0_size z c_size_93) ((cm0_kind_facts _ c_facts_93 t113.2.1).trans (congrArg (fun z => s0_facts z c_facts_93) ((cm0_kind_beats _ c_beats_93 t113.2.1).trans (congrArg (fun z => s0_beats z c_beats_93) ((cm0_kind_power _ c_power_93 t113.2.1).trans (congrArg (fun z => s0_power z c_power_93) ((cm0_kind_excepts _ c_excepts_93 t113.2.1).trans (congrArg (fun z => s0_excepts z c_excepts_93) ((cm0_kind_body _ c_body_93 t113.2.1).trans (congrArg (fun z => s0_body z c_body_93) ((cm0_kind_head _ c_head_93 t113.2.1).trans (congrArg (fun z => s0_head z c_head_93) (ss0_kind _ c_kind_93 t113.2.1)))))))))))))))).trans ((cm0_head_size _ c_size_93 t113.2.2.1).trans (congrArg (fun z => s0_size z c_size_93) ((cm0_head_facts _ c_facts_93 t113.2.2.1).trans (congrArg (fun z => s0_facts z c_facts_93) ((cm0_head_beats _ c_beats_93 t113.2.2.1).trans (congrArg (fun z => s0_beats z c_beats_93) ((cm0_head_power _ c_power_93 t113.2.2.1).trans (congrArg (fun z => s0_power z c_power_93) ((cm0_head_excepts _ c_excepts_93 t113.2.2.1).trans (congrArg (fun z => s0_excepts z c_excepts_93) ((cm0_head_body _ c_body_93 t113.2.2.1).trans (congrArg (fun z => s0_body z c_body_93) (ss0_head _ c_head_93 t113.2.2.1))))))))))))))).trans ((cm0_body_size _ c_size_93 t113.2.2.2.1).trans (congrArg (fun z => s0_size z c_size_93) ((cm0_body_facts _ c_facts_93 t113.2.2.2.1).trans (congrArg (fun z => s0_facts z c_facts_93) ((cm0_body_beats _ c_beats_93 t113.2.2.2.1).trans (congrArg (fun z => s0_beats z c_beats_93) ((cm0_body_power _ c_power_93 t113.2.2.2.1).trans (congrArg (fun z => s0_power z c_power_93) ((cm0_body_excepts _ c_excepts_93 t113.2.2.2.1).trans (congrArg (fun z => s0_excepts z c_excepts_93) (ss0_body _ c_body_93 t113.2.2.2.1))))))))))))).trans ((cm0_excepts_size _ c_size_93 t113.2.2.2.2.1).trans (congrArg (fun z => s0_size z c_size_93) ((cm0_excepts_facts _ c_facts_93 t113.2.2.2.2.1).trans (congrArg (fun z => s0_facts z c_facts_93) ((cm0_excepts_beats _ c_beats_93 t113.2.2.2.2.1).trans (congrArg (fun z => s0_beats z c_beats_93) ((cm0_excepts_power _ c_power_93 t113.2.2.2.2.1).trans (congrArg (fun z => s0_power z c_power_93) (ss0_excepts _ c_excepts_93 t113.2.2.2.2.1))))))))))).trans ((cm0_power_size _ c_size_93 t113.2.2.2.2.2.1).trans (congrArg (fun z => s0_size z c_size_93) ((cm0_power_facts _ c_facts_93 t113.2.2.2.2.2.1).trans (congrArg (fun z => s0_facts z c_facts_93) ((cm0_power_beats _ c_beats_93 t113.2.2.2.2.2.1).trans (congrArg (fun z => s0_beats z c_beats_93) (ss0_power _ c_power_93 t113.2.2.2.2.2.1))))))))).trans ((cm0_beats_size _ c_size_93 t113.2.2.2.2.2.2.1).trans (congrArg (fun z => s0_size z c_size_93) ((cm0_beats_facts _ c_facts_93 t113.2.2.2.2.2.2.1).trans (congrArg (fun z => s0_facts z c_facts_93) (ss0_beats _ c_beats_93 t113.2.2.2.2.2.2.1))))))).trans ((cm0_facts_size _ c_size_93 t113.2.2.2.2.2.2.2.1).trans (congrArg (fun z => s0_size z c_size_93) (ss0_facts _ c_facts_93 t113.2.2.2.2.2.2.2.1))))).trans (ss0_size _ c_size_93 t113.2.2.2.2.2.2.2.2))] at hP hD
            exact ih93 (i2_93 + 1) t118.1 t113.2.1 t113.2.2.1 t113.2.2.2.1 t113.2.2.2.2.1 t113.2.2.2.2.2.1 t113.2.2.2.2.2.2.1 t113.2.2.2.2.2.2.2.1 t113.2.2.2.2.2.2.2.2 t118.2.1 t118.2.2.1 t118.2.2.2.1 t118.2.2.2.2 _ _ _ (by first | assumption | omega) (by exact hz_c_size_113) (by exact hs_hi_sg_118) (by exact hd_hi_D_118) (by omega) hE hP hD hS (lv_sub hl [1, 0] rfl)
      refine lv_istore_n (lv' := [(2, .int 0), (0, .ref (arc 0))]) hx hb dX8_reads_92 rfl hl (by decide) rfl (fun ls hl => ?_)
      rw [show brc = (s8_isSettled brc (g8_isSettled brc)) from ((se8_isSettled _).symm)] at hP hD
      rw [show bc = (s0_size (s0_facts (s0_beats (s0_power (s0_excepts (s0_body (s0_head (s0_kind bc (g0_kind bc)) (g0_head bc)) (g0_body bc)) (g0_excepts bc)) (g0_power bc)) (g0_beats bc)) (g0_facts bc)) (g0_size bc)) from (((((((((se0_kind _).symm).trans (((se0_head _).symm).trans (congrArg (fun v => s0_head (s0_kind bc (g0_kind bc)) v) (gs0_head_kind _ (g0_kind bc))))).trans (((se0_body _).symm).trans (congrArg (fun v => s0_body (s0_head (s0_kind bc (g0_kind bc)) (g0_head bc)) v) ((gs0_body_head _ (g0_head bc)).trans (gs0_body_kind _ (g0_kind bc)))))).trans (((se0_excepts _).symm).trans (congrArg (fun v => s0_excepts (s0_body (s0_head (s0_kind bc (g0_kind bc)) (g0_head bc)) (g0_body bc)) v) ((gs0_excepts_body _ (g0_body bc)).trans ((gs0_excepts_head _ (g0_head bc)).trans (gs0_excepts_kind _ (g0_kind bc))))))).trans (((se0_power _).symm).trans (congrArg (fun v => s0_power (s0_excepts (s0_body (s0_head (s0_kind bc (g0_kind bc)) (g0_head bc)) (g0_body bc)) (g0_excepts bc)) v) ((gs0_power_excepts _ (g0_excepts bc)).trans ((gs0_power_body _ (g0_body bc)).trans ((gs0_power_head _ (g0_head bc)).trans (gs0_power_kind _ (g0_kind bc)))))))).trans (((se0_beats _).symm).trans (congrArg (fun v => s0_beats (s0_power (s0_excepts (s0_body (s0_head (s0_kind bc (g0_kind bc)) (g0_head bc)) (g0_body bc)) (g0_excepts bc)) (g0_power bc)) v) ((gs0_beats_power _ (g0_power bc)).trans ((gs0_beats_excepts _ (g0_excepts bc)).trans ((gs0_beats_body _ (g0_body bc)).trans ((gs0_beats_head _ (g0_head bc)).trans (gs0_beats_kind _ (g0_kind bc))))))))).trans (((se0_facts _).symm).trans (congrArg (fun v => s0_facts (s0_beats (s0_power (s0_excepts (s0_body (s0_head (s0_kind bc (g0_kind bc)) (g0_head bc)) (g0_body bc)) (g0_excepts bc)) (g0_power bc)) (g0_beats bc)) v) ((gs0_facts_beats _ (g0_beats bc)).trans ((gs0_facts_power _ (g0_power bc)).trans ((gs0_facts_excepts _ (g0_excepts bc)).trans ((gs0_facts_body _ (g0_body bc)).trans ((gs0_facts_head _ (g0_head bc)).trans (gs0_facts_kind _ (g0_kind bc)))))))))).trans (((se0_size _).symm).trans (congrArg (fun v => s0_size (s0_facts (s0_beats (s0_power (s0_excepts (s0_body (s0_head (s0_kind bc (g0_kind bc)) (g0_head bc)) (g0_body bc)) (g0_excepts bc)) (g0_power bc)) (g0_beats bc)) (g0_facts bc)) v) ((gs0_size_facts _ (g0_facts bc)).trans ((gs0_size_beats _ (g0_beats bc)).trans ((gs0_size_power _ (g0_power bc)).trans ((gs0_size_excepts _ (g0_excepts bc)).trans ((gs0_size_body _ (g0_body bc)).trans ((gs0_size_head _ (g0_head bc)).trans (gs0_size_kind _ (g0_kind bc)))))))))))] at hP hD
      exact hB93 61 0 (g8_isSettled brc) (g0_kind bc) (g0_head bc) (g0_body bc) (g0_excepts bc) (g0_power bc) (g0_beats bc) (g0_facts bc) (g0_size bc) sg y D un _ _ _ (by first | assumption | omega) (by exact hz_c_size) (by exact hs_hi_sg) (by exact hd_hi_D) (by omega) hE hP hD hS (lv_sub hl [1, 0] rfl)
    have hB45 : ∀ (n45 : Nat) (i2_45 : Nat) (d_kind_45 : Nat → Int32) (d_head_45 : Nat → Int32) (d_body_45 : Nat → Int32) (d_excepts_45 : Nat → Int32) (d_power_45 : Nat → Int32) (d_beats_45 : Nat → Int32) (d_facts_45 : Int32) (d_size_45 : Int32) (H : Heap) (locs : List Loc) (ls : Array Slot), (i2_45 ≤ NT) → (∃ N : Nat, N ≤ 16 ∧ d_size_45 = nI N) → 61 ≤ i2_45 + n45 → T = FX8_reads_45 (g8_isSettled brc) (g7_tape bwd) (g7_sort bwd) (g7_head bwd) (g7_body bwd) (g7_excepts bwd) (g7_power bwd) (g7_begins bwd) (g7_length bwd) (g7_at bwd) (g7_told bwd) (g0_kind bc) (g0_head bc) (g0_body bc) (g0_excepts bc) (g0_power bc) (g0_beats bc) (g0_facts bc) (g0_size bc) (g0_shut bc) (g0_kind bd) (g0_head bd) (g0_body bd) (g0_excepts bd) (g0_power bd) (g0_beats bd) (g0_facts bd) (g0_size bd) (g0_shut bd) sg y D un (FX8_reads_91 (g8_isSettled brc) (g7_tape bwd) (g7_sort bwd) (g7_head bwd) (g7_body bwd) (g7_excepts bwd) (g7_power bwd) (g7_begins bwd) (g7_length bwd) (g7_at bwd) (g7_told bwd) (g0_kind bc) (g0_head bc) (g0_body bc) (g0_excepts bc) (g0_power bc) (g0_beats bc) (g0_facts bc) (g0_size bc) (g0_shut bc) (g0_kind bd) (g0_head bd) (g0_body bd) (g0_excepts bd) (g0_power bd) (g0_beats bd) (g0_facts bd) (g0_size bd) (g0_shut bd) sg y D un) n45 (nI i2_45) (g8_isSettled brc) t4.2.1 t4.2.2.1 t4.2.2.2.1 t4.2.2.2.2.1 t4.2.2.2.2.2.1 t4.2.2.2.2.2.2.1 0 t4.2.2.2.2.2.2.2.1 t4.2.2.2.2.2.2.2.2 (g0_kind bc) (g0_head bc) (g0_body bc) (g0_excepts bc) (g0_power bc) (g0_beats bc) (g0_facts bc) (g0_size bc) d_kind_45 d_head_45 d_body_45 d_excepts_45 d_power_45 d_beats_45 d_facts_45 d_size_45 t40.2.2.2.2.2.2.2.2 sg y D un → zP G (w8 G arc (ac 0) orc_rounds (ad 0) orc_thoughtRounds orc_chain (ahi 0) orc_kept (awd 0) orc_sheet orc_rows brc :: w7 G awd (s7_told (s7_at (s7_length (s7_begins (s7_power (s7_excepts (s7_body (s7_head (s7_sort bwd t4.2.1) t4.2.2.1) t4.2.2.2.1) t4.2.2.2.2.1) t4.2.2.2.2.2.1) t4.2.2.2.2.2.2.1) 0) t4.2.2.2.2.2.2.2.1) t4.2.2.2.2.2.2.2.2) :: w0 G ac bc :: w0 G ad (s0_shut (s0_size (s0_facts (s0_beats (s0_power (s0_excepts (s0_body (s0_head (s0_kind bd d_kind_45) d_head_45) d_body_45) d_excepts_45) d_power_45) d_beats_45) d_facts_45) d_size_45) t40.2.2.2.2.2.2.2.2) :: w1 G ahi aik sg (nI D) un :: hcs G aik y) H → zD A (w8 G arc (ac 0) orc_rounds (ad 0) orc_thoughtRounds orc_chain (ahi 0) orc_kept (awd 0) orc_sheet orc_rows brc :: w7 G awd (s7_told (s7_at (s7_length (s7_begins (s7_power (s7_excepts (s7_body (s7_head (s7_sort bwd t4.2.1) t4.2.2.1) t4.2.2.2.1) t4.2.2.2.2.1) t4.2.2.2.2.2.1) t4.2.2.2.2.2.2.1) 0) t4.2.2.2.2.2.2.2.1) t4.2.2.2.2.2.2.2.2) :: w0 G ac bc :: w0 G ad (s0_shut (s0_size (s0_facts (s0_beats (s0_power (s0_excepts (s0_body (s0_head (s0_kind bd d_kind_45) d_head_45) d_body_45) d_excepts_45) d_power_45) d_beats_45) d_facts_45) d_size_45) t40.2.2.2.2.2.2.2.2) :: w1 G ahi aik sg (nI D) un :: hcs G aik y) → va_S A s.heap H locs → lv_has ls 3 [(0, .ref (arc 0)), (2, .int (nI i2_45))] → W p l e rmX8_reads s m args below meth c H locs 0 0 Q (F0 m 45 ls []) := by
      intro n45
      induction n45 with
      | zero =>
        intro i2_45 d_kind_45 d_head_45 d_body_45 d_excepts_45 d_power_45 d_beats_45 d_facts_45 d_size_45 H locs ls hi2_45 hz_d_size_B45 hn hE hP hD hS hl
        exact absurd hn (by omega)
      | succ n45 ih45 =>
        intro i2_45 d_kind_45 d_head_45 d_body_45 d_excepts_45 d_power_45 d_beats_45 d_facts_45 d_size_45 H locs ls hi2_45 hz_d_size_B45 hn hE hP hD hS hl
        have hE := hE.trans (FX8_reads_45.eq_2 _ _ _ _ _ _ _ _ _ _ _ _ _ _ _ _ _ _ _ _ _ _ _ _ _ _ _ _ _ _ _ _ _ _ _ _ _ _ _ _ _ _ _ _ _ _ _ _ _ _ _ _ _ _ _ _ _ _ _ _ _ _ _ _ _ _ _)
        refine lv_iload_n hx hb dX8_reads_45 rfl (lv_at hl 1 rfl) ?_
        refine lv_aload_n hx hb dX8_reads_46 rfl (lv_at hl 0 rfl) ?_
        refine zg8_words S in_X8_reads_8 hK hP 0 rfl (List.mem_of_getElem? (i := 1) rfl) dX8_reads_47 ?_
        refine zg7_told S in_X8_reads_7 hK hP 1 rfl (List.mem_of_getElem? (i := 6) rfl) (v := t4.2.2.2.2.2.2.2.2) (gg7_told _ t4.2.2.2.2.2.2.2.2) dX8_reads_50 ?_
        refine lv_icmp_ge (tgt := 91) hx hb dX8_reads_53 (by decide) (fun c53 => ?_) (fun c53 => ?_)
        · have hE := hE.trans (if_pos c53)
          exact hB91 d_kind_45 d_head_45 d_body_45 d_excepts_45 d_power_45 d_beats_45 d_facts_45 d_size_45 _ _ _ hE hP hD hS (lv_sub hl [0] rfl)
        · have hE := hE.trans (if_neg c53)
          have hl2_45 : i2_45 < NT := zlt hTe (by omega) (by omega) c53
          refine lv_aload_n hx hb dX8_reads_56 rfl (lv_at hl 0 rfl) ?_
          refine zg8_words S in_X8_reads_8 hK hP 0 rfl (List.mem_of_getElem? (i := 1) rfl) dX8_reads_57 ?_
          refine lv_iload_n hx hb dX8_reads_60 rfl (lv_at hl 1 rfl) ?_
          refine lv_aload_n hx hb dX8_reads_61 rfl (lv_at hl 0 rfl) ?_
          refine zg8_thought S in_X8_reads_8 hK hP 0 rfl (List.mem_of_getElem? (i := 4) rfl) dX8_reads_62 ?_
          obtain ⟨t65, ht65⟩ : ∃ z, FX7_tell t4.2.1 t4.2.2.1 t4.2.2.2.1 t4.2.2.2.2.1 t4.2.2.2.2.2.1 d_kind_45 d_head_45 d_body_45 d_excepts_45 d_power_45 d_beats_45 d_facts_45 d_size_45 (nI i2_45) = z := ⟨_, rfl⟩
          have hE := hE.trans (bnd_eq ht65)
          have hc := c_X7_tell l G awd ad (s7_told (s7_at (s7_length (s7_begins (s7_power (s7_excepts (s7_body (s7_head (s7_sort bwd t4.2.1) t4.2.2.1) t4.2.2.2.1) t4.2.2.2.2.1) t4.2.2.2.2.2.1) t4.2.2.2.2.2.2.1) 0) t4.2.2.2.2.2.2.2.1) t4.2.2.2.2.2.2.2.2) (s0_shut (s0_size (s0_facts (s0_beats (s0_power (s0_excepts (s0_body (s0_head (s0_kind bd d_kind_45) d_head_45) d_body_45) d_excepts_45) d_power_45) d_beats_45) d_facts_45) d_size_45) t40.2.2.2.2.2.2.2.2) (nI i2_45) (hz_d_size_B45) ((vp_in_nI (by omega) (by omega))) _ (by simp only [gs7_sort_told, gs7_sort_at, gs7_sort_length, gs7_sort_begins, gs7_sort_power, gs7_sort_excepts, gs7_sort_body, gs7_sort_head, gg7_sort, gs7_head_told, gs7_head_at, gs7_head_length, gs7_head_begins, gs7_head_power, gs7_head_excepts, gs7_head_body, gg7_head, gs7_body_told, gs7_body_at, gs7_body_length, gs7_body_begins, gs7_body_power, gs7_body_excepts, gg7_body, gs7_excepts_told, gs7_excepts_at, gs7_excepts_length, gs7_excepts_begins, gs7_excepts_power, gg7_excepts, gs7_power_told, gs7_power_at, gs7_power_length, gs7_power_begins, gg7_power, gs0_kind_shut, gs0_kind_size, gs0_kind_facts, gs0_kind_beats, gs0_kind_power, gs0_kind_excepts, gs0_kind_body, gs0_kind_head, gg0_kind, gs0_head_shut, gs0_head_size, gs0_head_facts, gs0_head_beats, gs0_head_power, gs0_head_excepts, gs0_head_body, gg0_head, gs0_body_shut, gs0_body_size, gs0_body_facts, gs0_body_beats, gs0_body_power, gs0_body_excepts, gg0_body, gs0_excepts_shut, gs0_excepts_size, gs0_excepts_facts, gs0_excepts_beats, gs0_excepts_power, gg0_excepts, gs0_power_shut, gs0_power_size, gs0_power_facts, gs0_power_beats, gg0_power, gs0_beats_shut, gs0_beats_size, gs0_beats_facts, gg0_beats, gs0_facts_shut, gs0_facts_size, gg0_facts, gs0_size_shut, gg0_size]; exact ht65)
          refine zgoI (bs' := (w8 G arc (ac 0) orc_rounds (ad 0) orc_thoughtRounds orc_chain (ahi 0) orc_kept (awd 0) orc_sheet orc_rows brc :: w7 G awd (s7_told (s7_at (s7_length (s7_begins (s7_power (s7_excepts (s7_body (s7_head (s7_sort bwd t4.2.1) t4.2.2.1) t4.2.2.2.1) t4.2.2.2.2.1) t4.2.2.2.2.2.1) t4.2.2.2.2.2.2.1) 0) t4.2.2.2.2.2.2.2.1) t4.2.2.2.2.2.2.2.2) :: w0 G ac bc :: w0 G ad (s0_size (s0_facts (s0_beats (s0_power (s0_excepts (s0_body (s0_head (s0_kind (s0_shut (s0_size (s0_facts (s0_beats (s0_power (s0_excepts (s0_body (s0_head (s0_kind bd d_kind_45) d_head_45) d_body_45) d_excepts_45) d_power_45) d_beats_45) d_facts_45) d_size_45) t40.2.2.2.2.2.2.2.2) t65.2.1) t65.2.2.1) t65.2.2.2.1) t65.2.2.2.2.1) t65.2.2.2.2.2.1) t65.2.2.2.2.2.2.1) t65.2.2.2.2.2.2.2.1) t65.2.2.2.2.2.2.2.2) :: w1 G ahi aik sg (nI D) un :: hcs G aik y)) hc [1, 3] rfl rfl rfl hP hD hS hA (va_runV (As := [.int (nI i2_45), .ref (ad 0)]) (rest := []) S (hc.2 _) (cwV 2 S.2.2.2.2 gX8_reads_X7_tell rfl rfl rfl (by decide +kernel) ⟨Nat.le_of_ble_eq_true rfl, Nat.le_of_ble_eq_true rfl⟩) (zpV hK hP hD (is := [1, 3]) rfl rfl 1 rfl rfl (ci := 7) rfl) rfl rfl hl.1 rfl (lv_room (Nat.le_of_ble_eq_true rfl)) dX8_reads_65 ⟨Nat.zero_le _, Nat.zero_le _⟩) (fun H locs hn65 hP hD hS => ?_)
          have hz_d_size_65 : ∃ N : Nat, N ≤ 16 ∧ t65.2.2.2.2.2.2.2.2 = nI N := by rw [← ht65]; exact ztell_size hz_d_size_B45
          refine lv_if_ne (tgt := 85) hx hb dX8_reads_68 (by decide) (fun c68 => ?_) (fun c68 => ?_)
          · have hE := hE.trans (if_neg c68)
            refine lv_iinc (v := (nI (i2_45 + 1))) (lv' := [(2, .int (nI (i2_45 + 1))), (0, .ref (arc 0))]) hx hb dX8_reads_85 hl (k := 1) rfl (nI_1 i2_45) (by decide) rfl (fun ls hl => ?_)
            try rw [nI_1 i2_45] at hE
            refine lv_goto (tgt := 45) hx hb dX8_reads_88 (by decide) ?_
            rw [show (s0_size (s0_facts (s0_beats (s0_power (s0_excepts (s0_body (s0_head (s0_kind (s0_shut (s0_size (s0_facts (s0_beats (s0_power (s0_excepts (s0_body (s0_head (s0_kind bd d_kind_45) d_head_45) d_body_45) d_excepts_45) d_power_45) d_beats_45) d_facts_45) d_size_45) t40.2.2.2.2.2.2.2.2) t65.2.1) t65.2.2.1) t65.2.2.2.1) t65.2.2.2.2.1) t65.2.2.2.2.2.1) t65.2.2.2.2.2.2.1) t65.2.2.2.2.2.2.2.1) t65.2.2.2.2.2.2.2.2) = (s0_shut (s0_size (s0_facts (s0_beats (s0_power (s0_excepts (s0_body (s0_head (s0_kind bd t65.2.1) t65.2.2.1) t65.2.2.2.1) t65.2.2.2.2.1) t65.2.2.2.2.2.1) t65.2.2.2.2.2.2.1) t65.2.2.2.2.2.2.2.1) t65.2.2.2.2.2.2.2.2) t40.2.2.2.2.2.2.2.2) from ((congrArg (fun z => s0_size z t65.2.2.2.2.2.2.2.2) ((congrArg (fun z => s0_facts z t65.2.2.2.2.2.2.2.1) ((congrArg (fun z => s0_beats z t65.2.2.2.2.2.2.1) ((congrArg (fun z => s0_power z t65.2.2.2.2.2.1) ((congrArg (fun z => s0_excepts z t65.2.2.2.2.1) ((congrArg (fun z => s0_body z t65.2.2.2.1) ((congrArg (fun z => s0_head z t65.2.2.1) ((cm0_kind_shut _ t40.2.2.2.2.2.2.2.2 t65.2.1).trans (congrArg (fun z => s0_shut z t40.2.2.2.2.2.2.2.2) ((cm0_kind_size _ d_size_45 t65.2.1).trans (congrArg (fun z => s0_size z d_size_45) ((cm0_kind_facts _ d_facts_45 t65.2.1).trans (congrArg (fun z => s0_facts z d_facts_45) ((cm0_kind_beats _ d_beats_45 t65.2.1).trans (congrArg (fun z => s0_beats z d_beats_45) ((cm0_kind_power _ d_power_45 t65.2.1).trans (congrArg (fun z => s0_power z d_power_45) ((cm0_kind_excepts _ d_excepts_45 t65.2.1).trans (congrArg (fun z => s0_excepts z d_excepts_45) ((cm0_kind_body _ d_body_45 t65.2.1).trans (congrArg (fun z => s0_body z d_body_45) ((cm0_kind_head _ d_head_45 t65.2.1).trans (congrArg (fun z => s0_head z d_head_45) (ss0_kind _ d_kind_45 t65.2.1)))))))))))))))))).trans ((cm0_head_shut _ t40.2.2.2.2.2.2.2.2 t65.2.2.1).trans (congrArg (fun z => s0_shut z t40.2.2.2.2.2.2.2.2) ((cm0_head_size _ d_size_45 t65.2.2.1).trans (congrArg (fun z => s0_size z d_size_45) ((cm0_head_facts _ d_facts_45 t65.2.2.1).trans (congrArg (fun z => s0_facts z d_facts_45) ((cm0_head_beats _ d_beats_45 t65.2.2.1).trans (congrArg (fun z => s0_beats z d_beats_45) ((cm0_head_power _ d_power_45 t65.2.2.1).trans (congrArg (fun z => s0_power z d_power_45) ((cm0_head_excepts _ d_excepts_45 t65.2.2.1).trans (congrArg (fun z => s0_excepts z d_excepts_45) ((cm0_head_body _ d_body_45 t65.2.2.1).trans (congrArg (fun z => s0_body z d_body_45) (ss0_head _ d_head_45 t65.2.2.1))))))))))))))))).trans ((cm0_body_shut _ t40.2.2.2.2.2.2.2.2 t65.2.2.2.1).trans (congrArg (fun z => s0_shut z t40.2.2.2.2.2.2.2.2) ((cm0_body_size _ d_size_45 t65.2.2.2.1).trans (congrArg (fun z => s0_size z d_size_45) ((cm0_body_facts _ d_facts_45 t65.2.2.2.1).trans (congrArg (fun z => s0_facts z d_facts_45) ((cm0_body_beats _ d_beats_45 t65.2.2.2.1).trans (congrArg (fun z => s0_beats z d_beats_45) ((cm0_body_power _ d_power_45 t65.2.2.2.1).trans (congrArg (fun z => s0_power z d_power_45) ((cm0_body_excepts _ d_excepts_45 t65.2.2.2.1).trans (congrArg (fun z => s0_excepts z d_excepts_45) (ss0_body _ d_body_45 t65.2.2.2.1))))))))))))))).trans ((cm0_excepts_shut _ t40.2.2.2.2.2.2.2.2 t65.2.2.2.2.1).trans (congrArg (fun z => s0_shut z t40.2.2.2.2.2.2.2.2) ((cm0_excepts_size _ d_size_45 t65.2.2.2.2.1).trans (congrArg (fun z => s0_size z d_size_45) ((cm0_excepts_facts _ d_facts_45 t65.2.2.2.2.1).trans (congrArg (fun z => s0_facts z d_facts_45) ((cm0_excepts_beats _ d_beats_45 t65.2.2.2.2.1).trans (congrArg (fun z => s0_beats z d_beats_45) ((cm0_excepts_power _ d_power_45 t65.2.2.2.2.1).trans (congrArg (fun z => s0_power z d_power_45) (ss0_excepts _ d_excepts_45 t65.2.2.2.2.1))))))))))))).trans ((cm0_power_shut _ t40.2.2.2.2.2.2.2.2 t65.2.2.2.2.2.1).trans (congrArg (fun z => s0_shut z t40.2.2.2.2.2.2.2.2) ((cm0_power_size _ d_size_45 t65.2.2.2.2.2.1).trans (congrArg (fun z => s0_size z d_size_45) ((cm0_power_facts _ d_facts_45 t65.2.2.2.2.2.1).trans (congrArg (fun z => s0_facts z d_facts_45) ((cm0_power_beats _ d_beats_45 t65.2.2.2.2.2.1).trans (congrArg (fun z => s0_beats z d_beats_45) (ss0_power _ d_power_45 t65.2.2.2.2.2.1))))))))))).trans ((cm0_beats_shut _ t40.2.2.2.2.2.2.2.2 t65.2.2.2.2.2.2.1).trans (congrArg (fun z => s0_shut z t40.2.2.2.2.2.2.2.2) ((cm0_beats_size _ d_size_45 t65.2.2.2.2.2.2.1).trans (congrArg (fun z => s0_size z d_size_45) ((cm0_beats_facts _ d_facts_45 t65.2.2.2.2.2.2.1).trans (congrArg (fun z => s0_facts z d_facts_45) (ss0_beats _ d_beats_45 t65.2.2.2.2.2.2.1))))))))).trans ((cm0_facts_shut _ t40.2.2.2.2.2.2.2.2 t65.2.2.2.2.2.2.2.1).trans (congrArg (fun z => s0_shut z t40.2.2.2.2.2.2.2.2) ((cm0_facts_size _ d_size_45 t65.2.2.2.2.2.2.2.1).trans (congrArg (fun z => s0_size z d_size_45) (ss0_facts _ d_facts_45 t65.2.2.2.2.2.2.2.1))))))).trans ((cm0_size_shut _ t40.2.2.2.2.2.2.2.2 t65.2.2.2.2.2.2.2.2).trans (congrArg (fun z => s0_shut z t40.2.2.2.2.2.2.2.2) (ss0_size _ d_size_45 t65.2.2.2.2.2.2.2.2))))] at hP hD
            exact ih45 (i2_45 + 1) t65.2.1 t65.2.2.1 t65.2.2.2.1 t65.2.2.2.2.1 t65.2.2.2.2.2.1 t65.2.2.2.2.2.2.1 t65.2.2.2.2.2.2.2.1 t65.2.2.2.2.2.2.2.2 _ _ _ (by first | assumption | omega) (by exact hz_d_size_65) (by omega) hE hP hD hS (lv_sub hl [1, 0] rfl)
          · have hE := hE.trans (if_pos c68)
            refine lv_sipush (v := (-2000)) hx hb dX8_reads_71 (by decide) ?_
            refine lv_aload_n hx hb dX8_reads_74 rfl (lv_at hl 0 rfl) ?_
            refine zg8_words S in_X8_reads_8 hK hP 0 rfl (List.mem_of_getElem? (i := 1) rfl) dX8_reads_75 ?_
            refine zg7_begins S in_X8_reads_7 hK hP 1 rfl (List.mem_of_getElem? (i := 7) rfl) dX8_reads_78 ?_
            refine lv_iload_n hx hb dX8_reads_81 rfl (lv_at hl 1 rfl) ?_
            refine zl7_begins S hK hP 1 rfl (vp_in_nI (by omega) (by omega)) (f := t4.2.2.2.2.2.2.1) ((gs7_begins_told _ t4.2.2.2.2.2.2.2.2).trans ((gs7_begins_at _ t4.2.2.2.2.2.2.2.1).trans ((gs7_begins_length _ 0).trans (gg7_begins _ t4.2.2.2.2.2.2.1)))) dX8_reads_82 ?_
            refine lv_isub hx hb dX8_reads_83 ?_
            rw [show brc = (s8_isSettled brc (g8_isSettled brc)) from ((se8_isSettled _).symm)] at hP hD
            rw [show bc = (s0_size (s0_facts (s0_beats (s0_power (s0_excepts (s0_body (s0_head (s0_kind bc (g0_kind bc)) (g0_head bc)) (g0_body bc)) (g0_excepts bc)) (g0_power bc)) (g0_beats bc)) (g0_facts bc)) (g0_size bc)) from (((((((((se0_kind _).symm).trans (((se0_head _).symm).trans (congrArg (fun v => s0_head (s0_kind bc (g0_kind bc)) v) (gs0_head_kind _ (g0_kind bc))))).trans (((se0_body _).symm).trans (congrArg (fun v => s0_body (s0_head (s0_kind bc (g0_kind bc)) (g0_head bc)) v) ((gs0_body_head _ (g0_head bc)).trans (gs0_body_kind _ (g0_kind bc)))))).trans (((se0_excepts _).symm).trans (congrArg (fun v => s0_excepts (s0_body (s0_head (s0_kind bc (g0_kind bc)) (g0_head bc)) (g0_body bc)) v) ((gs0_excepts_body _ (g0_body bc)).trans ((gs0_excepts_head _ (g0_head bc)).trans (gs0_excepts_kind _ (g0_kind bc))))))).trans (((se0_power _).symm).trans (congrArg (fun v => s0_power (s0_excepts (s0_body (s0_head (s0_kind bc (g0_kind bc)) (g0_head bc)) (g0_body bc)) (g0_excepts bc)) v) ((gs0_power_excepts _ (g0_excepts bc)).trans ((gs0_power_body _ (g0_body bc)).trans ((gs0_power_head _ (g0_head bc)).trans (gs0_power_kind _ (g0_kind bc)))))))).trans (((se0_beats _).symm).trans (congrArg (fun v => s0_beats (s0_power (s0_excepts (s0_body (s0_head (s0_kind bc (g0_kind bc)) (g0_head bc)) (g0_body bc)) (g0_excepts bc)) (g0_power bc)) v) ((gs0_beats_power _ (g0_power bc)).trans ((gs0_beats_excepts _ (g0_excepts bc)).trans ((gs0_beats_body _ (g0_body bc)).trans ((gs0_beats_head _ (g0_head bc)).trans (gs0_beats_kind _ (g0_kind bc))))))))).trans (((se0_facts _).symm).trans (congrArg (fun v => s0_facts (s0_beats (s0_power (s0_excepts (s0_body (s0_head (s0_kind bc (g0_kind bc)) (g0_head bc)) (g0_body bc)) (g0_excepts bc)) (g0_power bc)) (g0_beats bc)) v) ((gs0_facts_beats _ (g0_beats bc)).trans ((gs0_facts_power _ (g0_power bc)).trans ((gs0_facts_excepts _ (g0_excepts bc)).trans ((gs0_facts_body _ (g0_body bc)).trans ((gs0_facts_head _ (g0_head bc)).trans (gs0_facts_kind _ (g0_kind bc)))))))))).trans (((se0_size _).symm).trans (congrArg (fun v => s0_size (s0_facts (s0_beats (s0_power (s0_excepts (s0_body (s0_head (s0_kind bc (g0_kind bc)) (g0_head bc)) (g0_body bc)) (g0_excepts bc)) (g0_power bc)) (g0_beats bc)) (g0_facts bc)) v) ((gs0_size_facts _ (g0_facts bc)).trans ((gs0_size_beats _ (g0_beats bc)).trans ((gs0_size_power _ (g0_power bc)).trans ((gs0_size_excepts _ (g0_excepts bc)).trans ((gs0_size_body _ (g0_body bc)).trans ((gs0_size_head _ (g0_head bc)).trans (gs0_size_kind _ (g0_kind bc)))))))))))] at hP hD
            rw [show (s0_size (s0_facts (s0_beats (s0_power (s0_excepts (s0_body (s0_head (s0_kind (s0_shut (s0_size (s0_facts (s0_beats (s0_power (s0_excepts (s0_body (s0_head (s0_kind bd d_kind_45) d_head_45) d_body_45) d_excepts_45) d_power_45) d_beats_45) d_facts_45) d_size_45) t40.2.2.2.2.2.2.2.2) t65.2.1) t65.2.2.1) t65.2.2.2.1) t65.2.2.2.2.1) t65.2.2.2.2.2.1) t65.2.2.2.2.2.2.1) t65.2.2.2.2.2.2.2.1) t65.2.2.2.2.2.2.2.2) = (s0_shut (s0_size (s0_facts (s0_beats (s0_power (s0_excepts (s0_body (s0_head (s0_kind bd t65.2.1) t65.2.2.1) t65.2.2.2.1) t65.2.2.2.2.1) t65.2.2.2.2.2.1) t65.2.2.2.2.2.2.1) t65.2.2.2.2.2.2.2.1) t65.2.2.2.2.2.2.2.2) t40.2.2.2.2.2.2.2.2) from ((congrArg (fun z => s0_size z t65.2.2.2.2.2.2.2.2) ((congrArg (fun z => s0_facts z t65.2.2.2.2.2.2.2.1) ((congrArg (fun z => s0_beats z t65.2.2.2.2.2.2.1) ((congrArg (fun z => s0_power z t65.2.2.2.2.2.1) ((congrArg (fun z => s0_excepts z t65.2.2.2.2.1) ((congrArg (fun z => s0_body z t65.2.2.2.1) ((congrArg (fun z => s0_head z t65.2.2.1) ((cm0_kind_shut _ t40.2.2.2.2.2.2.2.2 t65.2.1).trans (congrArg (fun z => s0_shut z t40.2.2.2.2.2.2.2.2) ((cm0_kind_size _ d_size_45 t65.2.1).trans (congrArg (fun z => s0_size z d_size_45) ((cm0_kind_facts _ d_facts_45 t65.2.1).trans (congrArg (fun z => s0_facts z d_facts_45) ((cm0_kind_beats _ d_beats_45 t65.2.1).trans (congrArg (fun z => s0_beats z d_beats_45) ((cm0_kind_power _ d_power_45 t65.2.1).trans (congrArg (fun z => s0_power z d_power_45) ((cm0_kind_excepts _ d_excepts_45 t65.2.1).trans (congrArg (fun z => s0_excepts z d_excepts_45) ((cm0_kind_body _ d_body_45 t65.2.1).trans (congrArg (fun z => s0_body z d_body_45) ((cm0_kind_head _ d_head_45 t65.2.1).trans (congrArg (fun z => s0_head z d_head_45) (ss0_kind _ d_kind_45 t65.2.1)))))))))))))))))).trans ((cm0_head_shut _ t40.2.2.2.2.2.2.2.2 t65.2.2.1).trans (congrArg (fun z => s0_shut z t40.2.2.2.2.2.2.2.2) ((cm0_head_size _ d_size_45 t65.2.2.1).trans (congrArg (fun z => s0_size z d_size_45) ((cm0_head_facts _ d_facts_45 t65.2.2.1).trans (congrArg (fun z => s0_facts z d_facts_45) ((cm0_head_beats _ d_beats_45 t65.2.2.1).trans (congrArg (fun z => s0_beats z d_beats_45) ((cm0_head_power _ d_power_45 t65.2.2.1).trans (congrArg (fun z => s0_power z d_power_45) ((cm0_head_excepts _ d_excepts_45 t65.2.2.1).trans (congrArg (fun z => s0_excepts z d_excepts_45) ((cm0_head_body _ d_body_45 t65.2.2.1).trans (congrArg (fun z => s0_body z d_body_45) (ss0_head _ d_head_45 t65.2.2.1))))))))))))))))).trans ((cm0_body_shut _ t40.2.2.2.2.2.2.2.2 t65.2.2.2.1).trans (congrArg (fun z => s0_shut z t40.2.2.2.2.2.2.2.2) ((cm0_body_size _ d_size_45 t65.2.2.2.1).trans (congrArg (fun z => s0_size z d_size_45) ((cm0_body_facts _ d_facts_45 t65.2.2.2.1).trans (congrArg (fun z => s0_facts z d_facts_45) ((cm0_body_beats _ d_beats_45 t65.2.2.2.1).trans (congrArg (fun z => s0_beats z d_beats_45) ((cm0_body_power _ d_power_45 t65.2.2.2.1).trans (congrArg (fun z => s0_power z d_power_45) ((cm0_body_excepts _ d_excepts_45 t65.2.2.2.1).trans (congrArg (fun z => s0_excepts z d_excepts_45) (ss0_body _ d_body_45 t65.2.2.2.1))))))))))))))).trans ((cm0_excepts_shut _ t40.2.2.2.2.2.2.2.2 t65.2.2.2.2.1).trans (congrArg (fun z => s0_shut z t40.2.2.2.2.2.2.2.2) ((cm0_excepts_size _ d_size_45 t65.2.2.2.2.1).trans (congrArg (fun z => s0_size z d_size_45) ((cm0_excepts_facts _ d_facts_45 t65.2.2.2.2.1).trans (congrArg (fun z => s0_facts z d_facts_45) ((cm0_excepts_beats _ d_beats_45 t65.2.2.2.2.1).trans (congrArg (fun z => s0_beats z d_beats_45) ((cm0_excepts_power _ d_power_45 t65.2.2.2.2.1).trans (congrArg (fun z => s0_power z d_power_45) (ss0_excepts _ d_excepts_45 t65.2.2.2.2.1))))))))))))).trans ((cm0_power_shut _ t40.2.2.2.2.2.2.2.2 t65.2.2.2.2.2.1).trans (congrArg (fun z => s0_shut z t40.2.2.2.2.2.2.2.2) ((cm0_power_size _ d_size_45 t65.2.2.2.2.2.1).trans (congrArg (fun z => s0_size z d_size_45) ((cm0_power_facts _ d_facts_45 t65.2.2.2.2.2.1).trans (congrArg (fun z => s0_facts z d_facts_45) ((cm0_power_beats _ d_beats_45 t65.2.2.2.2.2.1).trans (congrArg (fun z => s0_beats z d_beats_45) (ss0_power _ d_power_45 t65.2.2.2.2.2.1))))))))))).trans ((cm0_beats_shut _ t40.2.2.2.2.2.2.2.2 t65.2.2.2.2.2.2.1).trans (congrArg (fun z => s0_shut z t40.2.2.2.2.2.2.2.2) ((cm0_beats_size _ d_size_45 t65.2.2.2.2.2.2.1).trans (congrArg (fun z => s0_size z d_size_45) ((cm0_beats_facts _ d_facts_45 t65.2.2.2.2.2.2.1).trans (congrArg (fun z => s0_facts z d_facts_45) (ss0_beats _ d_beats_45 t65.2.2.2.2.2.2.1))))))))).trans ((cm0_facts_shut _ t40.2.2.2.2.2.2.2.2 t65.2.2.2.2.2.2.2.1).trans (congrArg (fun z => s0_shut z t40.2.2.2.2.2.2.2.2) ((cm0_facts_size _ d_size_45 t65.2.2.2.2.2.2.2.1).trans (congrArg (fun z => s0_size z d_size_45) (ss0_facts _ d_facts_45 t65.2.2.2.2.2.2.2.1))))))).trans ((cm0_size_shut _ t40.2.2.2.2.2.2.2.2 t65.2.2.2.2.2.2.2.2).trans (congrArg (fun z => s0_shut z t40.2.2.2.2.2.2.2.2) (ss0_size _ d_size_45 t65.2.2.2.2.2.2.2.2))))] at hP hD
            exact hret _ _ _ _ _ _ (by subst hE; rfl) rfl hP hS dX8_reads_84
    refine lv_istore_n (lv' := [(2, .int 0), (1, .int t4.1), (0, .ref (arc 0))]) hx hb dX8_reads_44 rfl hl (by decide) rfl (fun ls hl => ?_)
    rw [show (s7_length (s7_told (s7_at (s7_begins (s7_power (s7_excepts (s7_body (s7_head (s7_sort bwd t4.2.1) t4.2.2.1) t4.2.2.2.1) t4.2.2.2.2.1) t4.2.2.2.2.2.1) t4.2.2.2.2.2.2.1) t4.2.2.2.2.2.2.2.1) t4.2.2.2.2.2.2.2.2) 0) = (s7_told (s7_at (s7_length (s7_begins (s7_power (s7_excepts (s7_body (s7_head (s7_sort bwd t4.2.1) t4.2.2.1) t4.2.2.2.1) t4.2.2.2.2.1) t4.2.2.2.2.2.1) t4.2.2.2.2.2.2.1) 0) t4.2.2.2.2.2.2.2.1) t4.2.2.2.2.2.2.2.2) from ((cm7_length_told _ t4.2.2.2.2.2.2.2.2 0).trans (congrArg (fun z => s7_told z t4.2.2.2.2.2.2.2.2) (cm7_length_at _ t4.2.2.2.2.2.2.2.1 0)))] at hP hD
    exact hB45 61 0 t40.1 t40.2.1 t40.2.2.1 t40.2.2.2.1 t40.2.2.2.2.1 t40.2.2.2.2.2.1 t40.2.2.2.2.2.2.1 t40.2.2.2.2.2.2.2.1 _ _ _ (by first | assumption | omega) (by exact hz_d_size_40) (by omega) hE hP hD hS (lv_sub hl [2, 0] rfl)
  · have hE := hE.trans (if_pos c17)
    refine lv_sipush (v := (-1000)) hx hb dX8_reads_20 (by decide) ?_
    refine lv_aload_n hx hb dX8_reads_23 rfl (lv_at hl 1 rfl) ?_
    refine zg8_words S in_X8_reads_8 hK hP 0 rfl (List.mem_of_getElem? (i := 1) rfl) dX8_reads_24 ?_
    refine zg7_at S in_X8_reads_7 hK hP 1 rfl (List.mem_of_getElem? (i := 3) rfl) (v := t4.2.2.2.2.2.2.2.1) ((gs7_at_length _ 0).trans ((gs7_at_told _ t4.2.2.2.2.2.2.2.2).trans (gg7_at _ t4.2.2.2.2.2.2.2.1))) dX8_reads_27 ?_
    refine lv_isub hx hb dX8_reads_30 ?_
    rw [show brc = (s8_isSettled brc (g8_isSettled brc)) from ((se8_isSettled _).symm)] at hP hD
    rw [show (s7_length (s7_told (s7_at (s7_begins (s7_power (s7_excepts (s7_body (s7_head (s7_sort bwd t4.2.1) t4.2.2.1) t4.2.2.2.1) t4.2.2.2.2.1) t4.2.2.2.2.2.1) t4.2.2.2.2.2.2.1) t4.2.2.2.2.2.2.2.1) t4.2.2.2.2.2.2.2.2) 0) = (s7_told (s7_at (s7_length (s7_begins (s7_power (s7_excepts (s7_body (s7_head (s7_sort bwd t4.2.1) t4.2.2.1) t4.2.2.2.1) t4.2.2.2.2.1) t4.2.2.2.2.2.1) t4.2.2.2.2.2.2.1) 0) t4.2.2.2.2.2.2.2.1) t4.2.2.2.2.2.2.2.2) from ((cm7_length_told _ t4.2.2.2.2.2.2.2.2 0).trans (congrArg (fun z => s7_told z t4.2.2.2.2.2.2.2.2) (cm7_length_at _ t4.2.2.2.2.2.2.2.1 0)))] at hP hD
    rw [show bc = (s0_size (s0_facts (s0_beats (s0_power (s0_excepts (s0_body (s0_head (s0_kind bc (g0_kind bc)) (g0_head bc)) (g0_body bc)) (g0_excepts bc)) (g0_power bc)) (g0_beats bc)) (g0_facts bc)) (g0_size bc)) from (((((((((se0_kind _).symm).trans (((se0_head _).symm).trans (congrArg (fun v => s0_head (s0_kind bc (g0_kind bc)) v) (gs0_head_kind _ (g0_kind bc))))).trans (((se0_body _).symm).trans (congrArg (fun v => s0_body (s0_head (s0_kind bc (g0_kind bc)) (g0_head bc)) v) ((gs0_body_head _ (g0_head bc)).trans (gs0_body_kind _ (g0_kind bc)))))).trans (((se0_excepts _).symm).trans (congrArg (fun v => s0_excepts (s0_body (s0_head (s0_kind bc (g0_kind bc)) (g0_head bc)) (g0_body bc)) v) ((gs0_excepts_body _ (g0_body bc)).trans ((gs0_excepts_head _ (g0_head bc)).trans (gs0_excepts_kind _ (g0_kind bc))))))).trans (((se0_power _).symm).trans (congrArg (fun v => s0_power (s0_excepts (s0_body (s0_head (s0_kind bc (g0_kind bc)) (g0_head bc)) (g0_body bc)) (g0_excepts bc)) v) ((gs0_power_excepts _ (g0_excepts bc)).trans ((gs0_power_body _ (g0_body bc)).trans ((gs0_power_head _ (g0_head bc)).trans (gs0_power_kind _ (g0_kind bc)))))))).trans (((se0_beats _).symm).trans (congrArg (fun v => s0_beats (s0_power (s0_excepts (s0_body (s0_head (s0_kind bc (g0_kind bc)) (g0_head bc)) (g0_body bc)) (g0_excepts bc)) (g0_power bc)) v) ((gs0_beats_power _ (g0_power bc)).trans ((gs0_beats_excepts _ (g0_excepts bc)).trans ((gs0_beats_body _ (g0_body bc)).trans ((gs0_beats_head _ (g0_head bc)).trans (gs0_beats_kind _ (g0_kind bc))))))))).trans (((se0_facts _).symm).trans (congrArg (fun v => s0_facts (s0_beats (s0_power (s0_excepts (s0_body (s0_head (s0_kind bc (g0_kind bc)) (g0_head bc)) (g0_body bc)) (g0_excepts bc)) (g0_power bc)) (g0_beats bc)) v) ((gs0_facts_beats _ (g0_beats bc)).trans ((gs0_facts_power _ (g0_power bc)).trans ((gs0_facts_excepts _ (g0_excepts bc)).trans ((gs0_facts_body _ (g0_body bc)).trans ((gs0_facts_head _ (g0_head bc)).trans (gs0_facts_kind _ (g0_kind bc)))))))))).trans (((se0_size _).symm).trans (congrArg (fun v => s0_size (s0_facts (s0_beats (s0_power (s0_excepts (s0_body (s0_head (s0_kind bc (g0_kind bc)) (g0_head bc)) (g0_body bc)) (g0_excepts bc)) (g0_power bc)) (g0_beats bc)) (g0_facts bc)) v) ((gs0_size_facts _ (g0_facts bc)).trans ((gs0_size_beats _ (g0_beats bc)).trans ((gs0_size_power _ (g0_power bc)).trans ((gs0_size_excepts _ (g0_excepts bc)).trans ((gs0_size_body _ (g0_body bc)).trans ((gs0_size_head _ (g0_head bc)).trans (gs0_size_kind _ (g0_kind bc)))))))))))] at hP hD
    rw [show bd = (s0_shut (s0_size (s0_facts (s0_beats (s0_power (s0_excepts (s0_body (s0_head (s0_kind bd (g0_kind bd)) (g0_head bd)) (g0_body bd)) (g0_excepts bd)) (g0_power bd)) (g0_beats bd)) (g0_facts bd)) (g0_size bd)) (g0_shut bd)) from ((((((((((se0_kind _).symm).trans (((se0_head _).symm).trans (congrArg (fun v => s0_head (s0_kind bd (g0_kind bd)) v) (gs0_head_kind _ (g0_kind bd))))).trans (((se0_body _).symm).trans (congrArg (fun v => s0_body (s0_head (s0_kind bd (g0_kind bd)) (g0_head bd)) v) ((gs0_body_head _ (g0_head bd)).trans (gs0_body_kind _ (g0_kind bd)))))).trans (((se0_excepts _).symm).trans (congrArg (fun v => s0_excepts (s0_body (s0_head (s0_kind bd (g0_kind bd)) (g0_head bd)) (g0_body bd)) v) ((gs0_excepts_body _ (g0_body bd)).trans ((gs0_excepts_head _ (g0_head bd)).trans (gs0_excepts_kind _ (g0_kind bd))))))).trans (((se0_power _).symm).trans (congrArg (fun v => s0_power (s0_excepts (s0_body (s0_head (s0_kind bd (g0_kind bd)) (g0_head bd)) (g0_body bd)) (g0_excepts bd)) v) ((gs0_power_excepts _ (g0_excepts bd)).trans ((gs0_power_body _ (g0_body bd)).trans ((gs0_power_head _ (g0_head bd)).trans (gs0_power_kind _ (g0_kind bd)))))))).trans (((se0_beats _).symm).trans (congrArg (fun v => s0_beats (s0_power (s0_excepts (s0_body (s0_head (s0_kind bd (g0_kind bd)) (g0_head bd)) (g0_body bd)) (g0_excepts bd)) (g0_power bd)) v) ((gs0_beats_power _ (g0_power bd)).trans ((gs0_beats_excepts _ (g0_excepts bd)).trans ((gs0_beats_body _ (g0_body bd)).trans ((gs0_beats_head _ (g0_head bd)).trans (gs0_beats_kind _ (g0_kind bd))))))))).trans (((se0_facts _).symm).trans (congrArg (fun v => s0_facts (s0_beats (s0_power (s0_excepts (s0_body (s0_head (s0_kind bd (g0_kind bd)) (g0_head bd)) (g0_body bd)) (g0_excepts bd)) (g0_power bd)) (g0_beats bd)) v) ((gs0_facts_beats _ (g0_beats bd)).trans ((gs0_facts_power _ (g0_power bd)).trans ((gs0_facts_excepts _ (g0_excepts bd)).trans ((gs0_facts_body _ (g0_body bd)).trans ((gs0_facts_head _ (g0_head bd)).trans (gs0_facts_kind _ (g0_kind bd)))))))))).trans (((se0_size _).symm).trans (congrArg (fun v => s0_size (s0_facts (s0_beats (s0_power (s0_excepts (s0_body (s0_head (s0_kind bd (g0_kind bd)) (g0_head bd)) (g0_body bd)) (g0_excepts bd)) (g0_power bd)) (g0_beats bd)) (g0_facts bd)) v) ((gs0_size_facts _ (g0_facts bd)).trans ((gs0_size_beats _ (g0_beats bd)).trans ((gs0_size_power _ (g0_power bd)).trans ((gs0_size_excepts _ (g0_excepts bd)).trans ((gs0_size_body _ (g0_body bd)).trans ((gs0_size_head _ (g0_head bd)).trans (gs0_size_kind _ (g0_kind bd))))))))))).trans (((se0_shut _).symm).trans (congrArg (fun v => s0_shut (s0_size (s0_facts (s0_beats (s0_power (s0_excepts (s0_body (s0_head (s0_kind bd (g0_kind bd)) (g0_head bd)) (g0_body bd)) (g0_excepts bd)) (g0_power bd)) (g0_beats bd)) (g0_facts bd)) (g0_size bd)) v) ((gs0_shut_size _ (g0_size bd)).trans ((gs0_shut_facts _ (g0_facts bd)).trans ((gs0_shut_beats _ (g0_beats bd)).trans ((gs0_shut_power _ (g0_power bd)).trans ((gs0_shut_excepts _ (g0_excepts bd)).trans ((gs0_shut_body _ (g0_body bd)).trans ((gs0_shut_head _ (g0_head bd)).trans (gs0_shut_kind _ (g0_kind bd))))))))))))] at hP hD
    exact hret _ _ _ _ _ _ (by subst hE; rfl) rfl hP hS dX8_reads_31

theorem in_X8_ruleOf_0 : ∀ w ∈ u_ws RX0 TX0 9, w ∈ wsX8_ruleOf := by decide +kernel
theorem in_X8_ruleOf_8 : ∀ w ∈ u_ws RX8 TX8 12, w ∈ wsX8_ruleOf := by decide +kernel
def rmX8_ruleOf : Room := { frames := 3, cells := 0, slots := 0, locals := 66 }
set_option maxHeartbeats 4000000 in
set_option maxRecDepth 100000 in
theorem c_X8_ruleOf (l : Launch) (G : zG) (arc : Nat → Nat) (ac : Nat → Nat) (orc_rounds : Nat) (orc_thought : Nat) (orc_thoughtRounds : Nat) (orc_chain : Nat) (orc_history : Nat) (orc_kept : Nat) (orc_words : Nat) (orc_sheet : Nat) (orc_rows : Nat) (brc : S8) (bc : S0) (x1 : Int32) (x2 : Int32) (hz_c_size : ∃ N : Nat, N ≤ 16 ∧ g0_size bc = nI N) (T : Int32) (hT : FX8_ruleOf (g0_kind bc) (g0_head bc) (g0_body bc) (g0_excepts bc) (g0_power bc) (g0_beats bc) (g0_size bc) (g0_shut bc) x1 x2 = T) : zR l yX8_ruleOf wsX8_ruleOf rmX8_ruleOf .int G [.ref (arc 0), .int x1, .int x2] [w8 G arc (ac 0) orc_rounds orc_thought orc_thoughtRounds orc_chain orc_history orc_kept orc_words orc_sheet orc_rows brc, w0 G ac bc] T := by
  refine zR.mk (cc := cX8_ruleOf) (maxL := 3) (by decide +kernel) rfl (Nat.le_of_ble_eq_true rfl) ?_
  intro p e s m args below meth c Q A ls S hK hD hA hP hl hret
  have hx := S.1
  have hb := S.2.1
  have hl : lv_has ls 3 [(0, .ref (arc 0)), (1, .int x1), (2, .int x2)] := hl
  have hE := hT.symm.trans (FX8_ruleOf.eq_1 _ _ _ _ _ _ _ _ _ _)
  refine lv_aload_n hx hb dX8_ruleOf_0 rfl (lv_at hl 0 rfl) ?_
  refine zg8_court S in_X8_ruleOf_8 hK hP 0 rfl (List.mem_of_getElem? (i := 1) rfl) dX8_ruleOf_1 ?_
  refine lv_iload_n hx hb dX8_ruleOf_4 rfl (lv_at hl 1 rfl) ?_
  obtain ⟨t5, ht5⟩ : ∃ z, FX0_hasRule (g0_size bc) x1 = z := ⟨_, rfl⟩
  have hE := hE.trans (bnd_eq ht5)
  have hc := c_X0_hasRule l G ac bc x1 _ ht5
  refine zgoR (va_runV (As := [.int x1]) (rest := []) S (hc _) (cwV 1 S.2.2.2.2 gX8_ruleOf_X0_hasRule rfl rfl rfl (by decide +kernel) ⟨Nat.le_of_ble_eq_true rfl, Nat.le_of_ble_eq_true rfl⟩) (zpV hK hP hD (is := [1]) rfl rfl 1 rfl rfl (ci := 0) rfl) rfl rfl hl.1 rfl (lv_room (Nat.le_of_ble_eq_true rfl)) dX8_ruleOf_5 ⟨Nat.zero_le _, Nat.zero_le _⟩) (fun hn5 => ?_)
  refine lv_if_ne (tgt := 13) hx hb dX8_ruleOf_8 (by decide) (fun c8 => ?_) (fun c8 => ?_)
  · have hE := hE.trans (if_neg c8)
    have hx1_16 : vp_in x1 16 := zhasRule hz_c_size (by rw [ht5]; exact c8)
    refine lv_iload_n hx hb dX8_ruleOf_13 rfl (lv_at hl 2 rfl) ?_
    by_cases c14_0 : x2 = 0
    · have hE := hE.trans (if_pos c14_0)
      refine lv_tableIn (off := 46) (tgt := 60) hx hb dX8_ruleOf_14 (by rw [c14_0]; decide) (by rw [c14_0]; decide) (by rw [c14_0]; rfl) (by decide) ?_
      refine lv_aload_n hx hb dX8_ruleOf_60 rfl (lv_at hl 0 rfl) ?_
      refine zg8_court S in_X8_ruleOf_8 hK hP 0 rfl (List.mem_of_getElem? (i := 1) rfl) dX8_ruleOf_61 ?_
      refine zg0_kind S in_X8_ruleOf_0 hK hP 1 rfl (List.mem_of_getElem? (i := 2) rfl) dX8_ruleOf_64 ?_
      refine lv_iload_n hx hb dX8_ruleOf_67 rfl (lv_at hl 1 rfl) ?_
      refine zl0_kind S hK hP 1 rfl hx1_16 (f := (g0_kind bc)) rfl dX8_ruleOf_68 ?_
      exact hret _ _ _ hE rfl dX8_ruleOf_69
    have hE := hE.trans (if_neg c14_0)
    by_cases c14_1 : x2 = 1
    · have hE := hE.trans (if_pos c14_1)
      refine lv_tableIn (off := 56) (tgt := 70) hx hb dX8_ruleOf_14 (by rw [c14_1]; decide) (by rw [c14_1]; decide) (by rw [c14_1]; rfl) (by decide) ?_
      refine lv_aload_n hx hb dX8_ruleOf_70 rfl (lv_at hl 0 rfl) ?_
      refine zg8_court S in_X8_ruleOf_8 hK hP 0 rfl (List.mem_of_getElem? (i := 1) rfl) dX8_ruleOf_71 ?_
      refine zg0_head S in_X8_ruleOf_0 hK hP 1 rfl (List.mem_of_getElem? (i := 3) rfl) dX8_ruleOf_74 ?_
      refine lv_iload_n hx hb dX8_ruleOf_77 rfl (lv_at hl 1 rfl) ?_
      refine zl0_head S hK hP 1 rfl hx1_16 (f := (g0_head bc)) rfl dX8_ruleOf_78 ?_
      exact hret _ _ _ hE rfl dX8_ruleOf_79
    have hE := hE.trans (if_neg c14_1)
    by_cases c14_2 : x2 = 2
    · have hE := hE.trans (if_pos c14_2)
      refine lv_tableIn (off := 66) (tgt := 80) hx hb dX8_ruleOf_14 (by rw [c14_2]; decide) (by rw [c14_2]; decide) (by rw [c14_2]; rfl) (by decide) ?_
      refine lv_aload_n hx hb dX8_ruleOf_80 rfl (lv_at hl 0 rfl) ?_
      refine zg8_court S in_X8_ruleOf_8 hK hP 0 rfl (List.mem_of_getElem? (i := 1) rfl) dX8_ruleOf_81 ?_
      refine zg0_body S in_X8_ruleOf_0 hK hP 1 rfl (List.mem_of_getElem? (i := 4) rfl) dX8_ruleOf_84 ?_
      refine lv_iload_n hx hb dX8_ruleOf_87 rfl (lv_at hl 1 rfl) ?_
      refine zl0_body S hK hP 1 rfl hx1_16 (f := (g0_body bc)) rfl dX8_ruleOf_88 ?_
      exact hret _ _ _ hE rfl dX8_ruleOf_89
    have hE := hE.trans (if_neg c14_2)
    by_cases c14_3 : x2 = 3
    · have hE := hE.trans (if_pos c14_3)
      refine lv_tableIn (off := 76) (tgt := 90) hx hb dX8_ruleOf_14 (by rw [c14_3]; decide) (by rw [c14_3]; decide) (by rw [c14_3]; rfl) (by decide) ?_
      refine lv_aload_n hx hb dX8_ruleOf_90 rfl (lv_at hl 0 rfl) ?_
      refine zg8_court S in_X8_ruleOf_8 hK hP 0 rfl (List.mem_of_getElem? (i := 1) rfl) dX8_ruleOf_91 ?_
      refine zg0_excepts S in_X8_ruleOf_0 hK hP 1 rfl (List.mem_of_getElem? (i := 5) rfl) dX8_ruleOf_94 ?_
      refine lv_iload_n hx hb dX8_ruleOf_97 rfl (lv_at hl 1 rfl) ?_
      refine zl0_excepts S hK hP 1 rfl hx1_16 (f := (g0_excepts bc)) rfl dX8_ruleOf_98 ?_
      exact hret _ _ _ hE rfl dX8_ruleOf_99
    have hE := hE.trans (if_neg c14_3)
    by_cases c14_4 : x2 = 4
    · have hE := hE.trans (if_pos c14_4)
      refine lv_tableIn (off := 86) (tgt := 100) hx hb dX8_ruleOf_14 (by rw [c14_4]; decide) (by rw [c14_4]; decide) (by rw [c14_4]; rfl) (by decide) ?_
      refine lv_aload_n hx hb dX8_ruleOf_100 rfl (lv_at hl 0 rfl) ?_
      refine zg8_court S in_X8_ruleOf_8 hK hP 0 rfl (List.mem_of_getElem? (i := 1) rfl) dX8_ruleOf_101 ?_
      refine zg0_power S in_X8_ruleOf_0 hK hP 1 rfl (List.mem_of_getElem? (i := 6) rfl) dX8_ruleOf_104 ?_
      refine lv_iload_n hx hb dX8_ruleOf_107 rfl (lv_at hl 1 rfl) ?_
      refine zl0_power S hK hP 1 rfl hx1_16 (f := (g0_power bc)) rfl dX8_ruleOf_108 ?_
      exact hret _ _ _ hE rfl dX8_ruleOf_109
    have hE := hE.trans (if_neg c14_4)
    by_cases c14_5 : x2 = 5
    · have hE := hE.trans (if_pos c14_5)
      refine lv_tableIn (off := 96) (tgt := 110) hx hb dX8_ruleOf_14 (by rw [c14_5]; decide) (by rw [c14_5]; decide) (by rw [c14_5]; rfl) (by decide) ?_
      refine lv_aload_n hx hb dX8_ruleOf_110 rfl (lv_at hl 0 rfl) ?_
      refine zg8_court S in_X8_ruleOf_8 hK hP 0 rfl (List.mem_of_getElem? (i := 1) rfl) dX8_ruleOf_111 ?_
      refine zg0_shut S in_X8_ruleOf_0 hK hP 1 rfl (List.mem_of_getElem? (i := 7) rfl) (v := (g0_shut bc)) rfl dX8_ruleOf_114 ?_
      refine lv_iload_n hx hb dX8_ruleOf_117 rfl (lv_at hl 1 rfl) ?_
      obtain ⟨t118, ht118⟩ : ∃ z, FX8_bit (g0_shut bc) x1 = z := ⟨_, rfl⟩
      have hE := hE.trans (bnd_eq ht118)
      have hc := c_X8_bit l G (g0_shut bc) x1 _ ht118
      refine zgoR (va_runS (As := [.int (g0_shut bc), .int x1]) (rest := []) S (hc _) (va_cwS 2 S.2.2.2.2 gX8_ruleOf_X8_bit rfl rfl rfl (by decide +kernel) ⟨Nat.le_of_ble_eq_true rfl, Nat.le_of_ble_eq_true rfl⟩) (zpS hK hP hD (is := []) rfl rfl) rfl rfl hl.1 rfl (lv_room (Nat.le_of_ble_eq_true rfl)) dX8_ruleOf_118 ⟨Nat.zero_le _, Nat.zero_le _⟩) (fun hn118 => ?_)
      exact hret _ _ _ hE rfl dX8_ruleOf_121
    have hE := hE.trans (if_neg c14_5)
    by_cases c14_6 : x2 = 6
    · have hE := hE.trans (if_pos c14_6)
      refine lv_tableIn (off := 108) (tgt := 122) hx hb dX8_ruleOf_14 (by rw [c14_6]; decide) (by rw [c14_6]; decide) (by rw [c14_6]; rfl) (by decide) ?_
      refine lv_aload_n hx hb dX8_ruleOf_122 rfl (lv_at hl 0 rfl) ?_
      refine zg8_court S in_X8_ruleOf_8 hK hP 0 rfl (List.mem_of_getElem? (i := 1) rfl) dX8_ruleOf_123 ?_
      refine zg0_beats S in_X8_ruleOf_0 hK hP 1 rfl (List.mem_of_getElem? (i := 8) rfl) dX8_ruleOf_126 ?_
      refine lv_iload_n hx hb dX8_ruleOf_129 rfl (lv_at hl 1 rfl) ?_
      refine zl0_beats S hK hP 1 rfl hx1_16 (f := (g0_beats bc)) rfl dX8_ruleOf_130 ?_
      exact hret _ _ _ hE rfl dX8_ruleOf_131
    have hE := hE.trans (if_neg c14_6)
    by_cases c14_7 : x2 = 7
    · have hE := hE.trans (if_pos c14_7)
      refine lv_tableIn (off := 118) (tgt := 132) hx hb dX8_ruleOf_14 (by rw [c14_7]; decide) (by rw [c14_7]; decide) (by rw [c14_7]; rfl) (by decide) ?_
      refine lv_aload_n hx hb dX8_ruleOf_132 rfl (lv_at hl 0 rfl) ?_
      refine zg8_court S in_X8_ruleOf_8 hK hP 0 rfl (List.mem_of_getElem? (i := 1) rfl) dX8_ruleOf_133 ?_
      refine lv_iload_n hx hb dX8_ruleOf_136 rfl (lv_at hl 1 rfl) ?_
      obtain ⟨t137, ht137⟩ : ∃ z, FX0_rulesBelow (g0_power bc) (g0_beats bc) (g0_size bc) x1 = z := ⟨_, rfl⟩
      have hE := hE.trans (bnd_eq ht137)
      have hc := c_X0_rulesBelow l G ac bc x1 (hz_c_size) (hx1_16) _ ht137
      refine zgoR (va_runV (As := [.int x1]) (rest := []) S (hc _) (cwV 1 S.2.2.2.2 gX8_ruleOf_X0_rulesBelow rfl rfl rfl (by decide +kernel) ⟨Nat.le_of_ble_eq_true rfl, Nat.le_of_ble_eq_true rfl⟩) (zpV hK hP hD (is := [1]) rfl rfl 1 rfl rfl (ci := 0) rfl) rfl rfl hl.1 rfl (lv_room (Nat.le_of_ble_eq_true rfl)) dX8_ruleOf_137 ⟨Nat.zero_le _, Nat.zero_le _⟩) (fun hn137 => ?_)
      exact hret _ _ _ hE rfl dX8_ruleOf_140
    have hE := hE.trans (if_neg c14_7)
    refine lv_tableOut (tgt := 141) hx hb dX8_ruleOf_14 (zsw8 c14_0 c14_1 c14_2 c14_3 c14_4 c14_5 c14_6 c14_7) (by decide) ?_
    refine lv_iconst (v := (-1)) hx hb dX8_ruleOf_141 (by decide) ?_
    exact hret _ _ _ hE rfl dX8_ruleOf_142
  · have hE := hE.trans (if_pos c8)
    refine lv_iconst (v := (-1)) hx hb dX8_ruleOf_11 (by decide) ?_
    exact hret _ _ _ hE rfl dX8_ruleOf_12

theorem in_X8_undo_1 : ∀ w ∈ u_ws RX1 TX1 3, w ∈ wsX8_undo := by decide +kernel
theorem in_X8_undo_8 : ∀ w ∈ u_ws RX8 TX8 12, w ∈ wsX8_undo := by decide +kernel
def rmX8_undo : Room := { frames := 3, cells := 0, slots := 0, locals := 82 }
set_option maxHeartbeats 4000000 in
set_option maxRecDepth 100000 in
theorem c_X8_undo (l : Launch) (G : zG) (arc : Nat → Nat) (ac : Nat → Nat) (ahi : Nat → Nat) (aik : Nat → Nat → Nat) (orc_rounds : Nat) (orc_thought : Nat) (orc_thoughtRounds : Nat) (orc_chain : Nat) (orc_kept : Nat) (orc_words : Nat) (orc_sheet : Nat) (orc_rows : Nat) (brc : S8) (bc : S0) (sg : Nat → Nat) (y : Nat → S0) (D : Nat) (un : Int32) (hs_hi_sg : ∀ j : Nat, j < 13 → sg j < 13) (hd_hi_D : D ≤ 12) (T : Int32 × (Int32) × (Nat → Int32) × (Nat → Int32) × (Nat → Int32) × (Nat → Int32) × (Nat → Int32) × (Nat → Int32) × (Int32) × (Int32) × (Int32) × (Nat) × (Int32)) (hT : FX8_undo (g8_isSettled brc) (g0_kind bc) (g0_head bc) (g0_body bc) (g0_excepts bc) (g0_power bc) (g0_beats bc) (g0_facts bc) (g0_size bc) (g0_shut bc) sg y D un = T) : zI l yX8_undo wsX8_undo rmX8_undo .int G [.ref (arc 0)] (w8 G arc (ac 0) orc_rounds orc_thought orc_thoughtRounds orc_chain (ahi 0) orc_kept orc_words orc_sheet orc_rows brc :: w0 G ac bc :: w1 G ahi aik sg (nI D) un :: hcs G aik y) T.1 (w8 G arc (ac 0) orc_rounds orc_thought orc_thoughtRounds orc_chain (ahi 0) orc_kept orc_words orc_sheet orc_rows (s8_isSettled brc T.2.1) :: w0 G ac (s0_shut (s0_size (s0_facts (s0_beats (s0_power (s0_excepts (s0_body (s0_head (s0_kind bc T.2.2.1) T.2.2.2.1) T.2.2.2.2.1) T.2.2.2.2.2.1) T.2.2.2.2.2.2.1) T.2.2.2.2.2.2.2.1) T.2.2.2.2.2.2.2.2.1) T.2.2.2.2.2.2.2.2.2.1) T.2.2.2.2.2.2.2.2.2.2.1) :: w1 G ahi aik sg (nI T.2.2.2.2.2.2.2.2.2.2.2.1) T.2.2.2.2.2.2.2.2.2.2.2.2 :: hcs G aik y) := by
  refine zI.mk (cc := cX8_undo) (maxL := 1) (by decide +kernel) rfl (Nat.le_of_ble_eq_true rfl) (zfl_cons (wf8 _ _ _ _ _ _ _ _ _ _ _ _ _ _) (zfl_cons (wf0 _ _ _ _) (zfl_cons rfl (hcs_fst0 _ _ _ _)))) ?_
  intro p e s m args below meth c Q A ls S hK hD hA hP hl hret
  have hx := S.1
  have hb := S.2.1
  have hS : va_S A s.heap s.heap [] := va_S.rf
  have hl : lv_has ls 1 [(0, .ref (arc 0))] := hl
  have hE := hT.symm.trans (FX8_undo.eq_1 _ _ _ _ _ _ _ _ _ _ _ _ _ _)
  refine lv_aload_n hx hb dX8_undo_0 rfl (lv_at hl 0 rfl) ?_
  refine zg8_history S in_X8_undo_8 hK hP 0 rfl (List.mem_of_getElem? (i := 1) rfl) dX8_undo_1 ?_
  refine lv_aload_n hx hb dX8_undo_4 rfl (lv_at hl 0 rfl) ?_
  refine zg8_court S in_X8_undo_8 hK hP 0 rfl (List.mem_of_getElem? (i := 2) rfl) dX8_undo_5 ?_
  obtain ⟨t8, ht8⟩ : ∃ z, FX1_stepBack sg y D un (g0_kind bc) (g0_head bc) (g0_body bc) (g0_excepts bc) (g0_power bc) (g0_beats bc) (g0_facts bc) (g0_size bc) (g0_shut bc) = z := ⟨_, rfl⟩
  have hE := hE.trans (bnd_eq ht8)
  have hc := c_X1_stepBack l G ahi aik ac sg y D un bc (hs_hi_sg) (hd_hi_D) _ ht8
  refine zgoI (bs' := (w8 G arc (ac 0) orc_rounds orc_thought orc_thoughtRounds orc_chain (ahi 0) orc_kept orc_words orc_sheet orc_rows brc :: w0 G ac (s0_shut (s0_size (s0_facts (s0_beats (s0_power (s0_excepts (s0_body (s0_head (s0_kind bc t8.2.2.2.1) t8.2.2.2.2.1) t8.2.2.2.2.2.1) t8.2.2.2.2.2.2.1) t8.2.2.2.2.2.2.2.1) t8.2.2.2.2.2.2.2.2.1) t8.2.2.2.2.2.2.2.2.2.1) t8.2.2.2.2.2.2.2.2.2.2.1) t8.2.2.2.2.2.2.2.2.2.2.2) :: w1 G ahi aik sg (nI t8.2.1) t8.2.2.1 :: hcs G aik y)) hc [2, 1, 3, 4, 5, 6, 7, 8, 9, 10, 11, 12, 13, 14, 15] rfl rfl rfl hP hD hS hA (va_runV (As := [.ref (ac 0)]) (rest := []) S (hc.2 _) (cwV 1 S.2.2.2.2 gX8_undo_X1_stepBack rfl rfl rfl (by decide +kernel) ⟨Nat.le_of_ble_eq_true rfl, Nat.le_of_ble_eq_true rfl⟩) (zpV hK hP hD (is := [2, 1, 3, 4, 5, 6, 7, 8, 9, 10, 11, 12, 13, 14, 15]) rfl rfl 2 rfl rfl (ci := 1) rfl) rfl rfl hl.1 rfl (lv_room (Nat.le_of_ble_eq_true rfl)) dX8_undo_8 ⟨Nat.zero_le _, Nat.zero_le _⟩) (fun H locs hn8 hP hD hS => ?_)
  refine lv_if_ne (tgt := 17) hx hb dX8_undo_11 (by decide) (fun c11 => ?_) (fun c11 => ?_)
  · have hE := hE.trans (if_neg c11)
    refine lv_aload_n hx hb dX8_undo_17 rfl (lv_at hl 0 rfl) ?_
    refine lv_iconst (v := 0) hx hb dX8_undo_18 (by decide) ?_
    refine zp8_isSettled (bs1 := (w8 G arc (ac 0) orc_rounds orc_thought orc_thoughtRounds orc_chain (ahi 0) orc_kept orc_words orc_sheet orc_rows (s8_isSettled brc 0) :: w0 G ac (s0_shut (s0_size (s0_facts (s0_beats (s0_power (s0_excepts (s0_body (s0_head (s0_kind bc t8.2.2.2.1) t8.2.2.2.2.1) t8.2.2.2.2.2.1) t8.2.2.2.2.2.2.1) t8.2.2.2.2.2.2.2.1) t8.2.2.2.2.2.2.2.2.1) t8.2.2.2.2.2.2.2.2.2.1) t8.2.2.2.2.2.2.2.2.2.2.1) t8.2.2.2.2.2.2.2.2.2.2.2) :: w1 G ahi aik sg (nI t8.2.1) t8.2.2.1 :: hcs G aik y)) S in_X8_undo_8 hK hP hD hS 0 rfl (List.mem_of_getElem? (i := 3) rfl) zn0 dX8_undo_19 rfl (fun H locs hP hD hS => ?_)
    refine lv_aload_n hx hb dX8_undo_22 rfl (lv_at hl 0 rfl) ?_
    refine zg8_history S in_X8_undo_8 hK hP 0 rfl (List.mem_of_getElem? (i := 1) rfl) dX8_undo_23 ?_
    refine zget (v := .int (nI t8.2.1)) S in_X8_undo_1 hK hP 2 rfl 0 rfl (ci := 1) rfl 1 (by decide) (List.mem_of_getElem? (i := 4) rfl) rfl rfl dX8_undo_26 ?_
    exact hret _ _ _ _ _ _ (by subst hE; rfl) rfl hP hS dX8_undo_29
  · have hE := hE.trans (if_pos c11)
    refine lv_bipush (v := (-5)) hx hb dX8_undo_14 (by decide) ?_
    rw [show brc = (s8_isSettled brc (g8_isSettled brc)) from ((se8_isSettled _).symm)] at hP hD
    exact hret _ _ _ _ _ _ (by subst hE; rfl) rfl hP hS dX8_undo_16

theorem in_X8_redo_1 : ∀ w ∈ u_ws RX1 TX1 3, w ∈ wsX8_redo := by decide +kernel
theorem in_X8_redo_8 : ∀ w ∈ u_ws RX8 TX8 12, w ∈ wsX8_redo := by decide +kernel
def rmX8_redo : Room := { frames := 3, cells := 0, slots := 0, locals := 82 }
set_option maxHeartbeats 4000000 in
set_option maxRecDepth 100000 in
theorem c_X8_redo (l : Launch) (G : zG) (arc : Nat → Nat) (ac : Nat → Nat) (ahi : Nat → Nat) (aik : Nat → Nat → Nat) (orc_rounds : Nat) (orc_thought : Nat) (orc_thoughtRounds : Nat) (orc_chain : Nat) (orc_kept : Nat) (orc_words : Nat) (orc_sheet : Nat) (orc_rows : Nat) (brc : S8) (bc : S0) (sg : Nat → Nat) (y : Nat → S0) (D : Nat) (un : Int32) (hs_hi_sg : ∀ j : Nat, j < 13 → sg j < 13) (hd_hi_D : D ≤ 12) (T : Int32 × (Int32) × (Nat → Int32) × (Nat → Int32) × (Nat → Int32) × (Nat → Int32) × (Nat → Int32) × (Nat → Int32) × (Int32) × (Int32) × (Int32) × (Nat) × (Int32)) (hT : FX8_redo (g8_isSettled brc) (g0_kind bc) (g0_head bc) (g0_body bc) (g0_excepts bc) (g0_power bc) (g0_beats bc) (g0_facts bc) (g0_size bc) (g0_shut bc) sg y D un = T) : zI l yX8_redo wsX8_redo rmX8_redo .int G [.ref (arc 0)] (w8 G arc (ac 0) orc_rounds orc_thought orc_thoughtRounds orc_chain (ahi 0) orc_kept orc_words orc_sheet orc_rows brc :: w0 G ac bc :: w1 G ahi aik sg (nI D) un :: hcs G aik y) T.1 (w8 G arc (ac 0) orc_rounds orc_thought orc_thoughtRounds orc_chain (ahi 0) orc_kept orc_words orc_sheet orc_rows (s8_isSettled brc T.2.1) :: w0 G ac (s0_shut (s0_size (s0_facts (s0_beats (s0_power (s0_excepts (s0_body (s0_head (s0_kind bc T.2.2.1) T.2.2.2.1) T.2.2.2.2.1) T.2.2.2.2.2.1) T.2.2.2.2.2.2.1) T.2.2.2.2.2.2.2.1) T.2.2.2.2.2.2.2.2.1) T.2.2.2.2.2.2.2.2.2.1) T.2.2.2.2.2.2.2.2.2.2.1) :: w1 G ahi aik sg (nI T.2.2.2.2.2.2.2.2.2.2.2.1) T.2.2.2.2.2.2.2.2.2.2.2.2 :: hcs G aik y) := by
  refine zI.mk (cc := cX8_redo) (maxL := 1) (by decide +kernel) rfl (Nat.le_of_ble_eq_true rfl) (zfl_cons (wf8 _ _ _ _ _ _ _ _ _ _ _ _ _ _) (zfl_cons (wf0 _ _ _ _) (zfl_cons rfl (hcs_fst0 _ _ _ _)))) ?_
  intro p e s m args below meth c Q A ls S hK hD hA hP hl hret
  have hx := S.1
  have hb := S.2.1
  have hS : va_S A s.heap s.heap [] := va_S.rf
  have hl : lv_has ls 1 [(0, .ref (arc 0))] := hl
  have hE := hT.symm.trans (FX8_redo.eq_1 _ _ _ _ _ _ _ _ _ _ _ _ _ _)
  refine lv_aload_n hx hb dX8_redo_0 rfl (lv_at hl 0 rfl) ?_
  refine zg8_history S in_X8_redo_8 hK hP 0 rfl (List.mem_of_getElem? (i := 1) rfl) dX8_redo_1 ?_
  refine lv_aload_n hx hb dX8_redo_4 rfl (lv_at hl 0 rfl) ?_
  refine zg8_court S in_X8_redo_8 hK hP 0 rfl (List.mem_of_getElem? (i := 2) rfl) dX8_redo_5 ?_
  obtain ⟨t8, ht8⟩ : ∃ z, FX1_stepOn sg y D un (g0_kind bc) (g0_head bc) (g0_body bc) (g0_excepts bc) (g0_power bc) (g0_beats bc) (g0_facts bc) (g0_size bc) (g0_shut bc) = z := ⟨_, rfl⟩
  have hE := hE.trans (bnd_eq ht8)
  have hc := c_X1_stepOn l G ahi aik ac sg y D un bc (hs_hi_sg) (hd_hi_D) _ ht8
  refine zgoI (bs' := (w8 G arc (ac 0) orc_rounds orc_thought orc_thoughtRounds orc_chain (ahi 0) orc_kept orc_words orc_sheet orc_rows brc :: w0 G ac (s0_shut (s0_size (s0_facts (s0_beats (s0_power (s0_excepts (s0_body (s0_head (s0_kind bc t8.2.2.2.1) t8.2.2.2.2.1) t8.2.2.2.2.2.1) t8.2.2.2.2.2.2.1) t8.2.2.2.2.2.2.2.1) t8.2.2.2.2.2.2.2.2.1) t8.2.2.2.2.2.2.2.2.2.1) t8.2.2.2.2.2.2.2.2.2.2.1) t8.2.2.2.2.2.2.2.2.2.2.2) :: w1 G ahi aik sg (nI t8.2.1) t8.2.2.1 :: hcs G aik y)) hc [2, 1, 3, 4, 5, 6, 7, 8, 9, 10, 11, 12, 13, 14, 15] rfl rfl rfl hP hD hS hA (va_runV (As := [.ref (ac 0)]) (rest := []) S (hc.2 _) (cwV 1 S.2.2.2.2 gX8_redo_X1_stepOn rfl rfl rfl (by decide +kernel) ⟨Nat.le_of_ble_eq_true rfl, Nat.le_of_ble_eq_true rfl⟩) (zpV hK hP hD (is := [2, 1, 3, 4, 5, 6, 7, 8, 9, 10, 11, 12, 13, 14, 15]) rfl rfl 2 rfl rfl (ci := 1) rfl) rfl rfl hl.1 rfl (lv_room (Nat.le_of_ble_eq_true rfl)) dX8_redo_8 ⟨Nat.zero_le _, Nat.zero_le _⟩) (fun H locs hn8 hP hD hS => ?_)
  refine lv_if_ne (tgt := 17) hx hb dX8_redo_11 (by decide) (fun c11 => ?_) (fun c11 => ?_)
  · have hE := hE.trans (if_neg c11)
    refine lv_aload_n hx hb dX8_redo_17 rfl (lv_at hl 0 rfl) ?_
    refine lv_iconst (v := 0) hx hb dX8_redo_18 (by decide) ?_
    refine zp8_isSettled (bs1 := (w8 G arc (ac 0) orc_rounds orc_thought orc_thoughtRounds orc_chain (ahi 0) orc_kept orc_words orc_sheet orc_rows (s8_isSettled brc 0) :: w0 G ac (s0_shut (s0_size (s0_facts (s0_beats (s0_power (s0_excepts (s0_body (s0_head (s0_kind bc t8.2.2.2.1) t8.2.2.2.2.1) t8.2.2.2.2.2.1) t8.2.2.2.2.2.2.1) t8.2.2.2.2.2.2.2.1) t8.2.2.2.2.2.2.2.2.1) t8.2.2.2.2.2.2.2.2.2.1) t8.2.2.2.2.2.2.2.2.2.2.1) t8.2.2.2.2.2.2.2.2.2.2.2) :: w1 G ahi aik sg (nI t8.2.1) t8.2.2.1 :: hcs G aik y)) S in_X8_redo_8 hK hP hD hS 0 rfl (List.mem_of_getElem? (i := 3) rfl) zn0 dX8_redo_19 rfl (fun H locs hP hD hS => ?_)
    refine lv_aload_n hx hb dX8_redo_22 rfl (lv_at hl 0 rfl) ?_
    refine zg8_history S in_X8_redo_8 hK hP 0 rfl (List.mem_of_getElem? (i := 1) rfl) dX8_redo_23 ?_
    refine zget (v := .int t8.2.2.1) S in_X8_redo_1 hK hP 2 rfl 0 rfl (ci := 1) rfl 2 (by decide) (List.mem_of_getElem? (i := 4) rfl) rfl rfl dX8_redo_26 ?_
    exact hret _ _ _ _ _ _ (by subst hE; rfl) rfl hP hS dX8_redo_29
  · have hE := hE.trans (if_pos c11)
    refine lv_bipush (v := (-5)) hx hb dX8_redo_14 (by decide) ?_
    rw [show brc = (s8_isSettled brc (g8_isSettled brc)) from ((se8_isSettled _).symm)] at hP hD
    exact hret _ _ _ _ _ _ (by subst hE; rfl) rfl hP hS dX8_redo_16

theorem in_X8_image_0 : ∀ w ∈ u_ws RX0 TX0 9, w ∈ wsX8_image := by decide +kernel
theorem in_X8_image_8 : ∀ w ∈ u_ws RX8 TX8 12, w ∈ wsX8_image := by decide +kernel
def rmX8_image : Room := { frames := 2, cells := 0, slots := 0, locals := 61 }
set_option maxHeartbeats 4000000 in
set_option maxRecDepth 100000 in
theorem c_X8_image (l : Launch) (G : zG) (arc : Nat → Nat) (ac : Nat → Nat) (ak : Nat → Nat) (orc_rounds : Nat) (orc_thought : Nat) (orc_thoughtRounds : Nat) (orc_chain : Nat) (orc_history : Nat) (orc_words : Nat) (orc_sheet : Nat) (orc_rows : Nat) (brc : S8) (bc : S0) (bk : S0) (T : Int32 × (Int32) × (Nat → Int32) × (Nat → Int32) × (Nat → Int32) × (Nat → Int32) × (Nat → Int32) × (Nat → Int32) × (Int32) × (Int32) × (Int32)) (hT : FX8_image (g8_isKept brc) (g0_kind bc) (g0_head bc) (g0_body bc) (g0_excepts bc) (g0_power bc) (g0_beats bc) (g0_facts bc) (g0_size bc) (g0_shut bc) (g0_kind bk) (g0_head bk) (g0_body bk) (g0_excepts bk) (g0_power bk) (g0_beats bk) (g0_facts bk) (g0_size bk) (g0_shut bk) = T) : zI l yX8_image wsX8_image rmX8_image .int G [.ref (arc 0)] [w8 G arc (ac 0) orc_rounds orc_thought orc_thoughtRounds orc_chain orc_history (ak 0) orc_words orc_sheet orc_rows brc, w0 G ac bc, w0 G ak bk] T.1 [w8 G arc (ac 0) orc_rounds orc_thought orc_thoughtRounds orc_chain orc_history (ak 0) orc_words orc_sheet orc_rows (s8_isKept brc T.2.1), w0 G ac bc, w0 G ak (s0_shut (s0_size (s0_facts (s0_beats (s0_power (s0_excepts (s0_body (s0_head (s0_kind bk T.2.2.1) T.2.2.2.1) T.2.2.2.2.1) T.2.2.2.2.2.1) T.2.2.2.2.2.2.1) T.2.2.2.2.2.2.2.1) T.2.2.2.2.2.2.2.2.1) T.2.2.2.2.2.2.2.2.2.1) T.2.2.2.2.2.2.2.2.2.2)] := by
  refine zI.mk (cc := cX8_image) (maxL := 1) (by decide +kernel) rfl (Nat.le_of_ble_eq_true rfl) (zfl_cons (wf8 _ _ _ _ _ _ _ _ _ _ _ _ _ _) (zfl_cons rfl (zfl_cons (wf0 _ _ _ _) rfl))) ?_
  intro p e s m args below meth c Q A ls S hK hD hA hP hl hret
  have hx := S.1
  have hb := S.2.1
  have hS : va_S A s.heap s.heap [] := va_S.rf
  have hl : lv_has ls 1 [(0, .ref (arc 0))] := hl
  have hE := hT.symm.trans (FX8_image.eq_1 _ _ _ _ _ _ _ _ _ _ _ _ _ _ _ _ _ _ _)
  refine lv_aload_n hx hb dX8_image_0 rfl (lv_at hl 0 rfl) ?_
  refine zg8_kept S in_X8_image_8 hK hP 0 rfl (List.mem_of_getElem? (i := 1) rfl) dX8_image_1 ?_
  refine lv_aload_n hx hb dX8_image_4 rfl (lv_at hl 0 rfl) ?_
  refine zg8_court S in_X8_image_8 hK hP 0 rfl (List.mem_of_getElem? (i := 2) rfl) dX8_image_5 ?_
  obtain ⟨t8, ht8⟩ : ∃ z, FX0_copyFrom (g0_kind bk) (g0_head bk) (g0_body bk) (g0_excepts bk) (g0_power bk) (g0_beats bk) (g0_facts bk) (g0_size bk) (g0_shut bk) (g0_kind bc) (g0_head bc) (g0_body bc) (g0_excepts bc) (g0_power bc) (g0_beats bc) (g0_facts bc) (g0_size bc) (g0_shut bc) = z := ⟨_, rfl⟩
  have hE := hE.trans (bnd_eq ht8)
  have hc := c_X0_copyFrom l G ak ac bk bc _ ht8
  refine zgoV (bs' := [w8 G arc (ac 0) orc_rounds orc_thought orc_thoughtRounds orc_chain orc_history (ak 0) orc_words orc_sheet orc_rows brc, w0 G ac bc, w0 G ak (s0_shut (s0_size (s0_facts (s0_beats (s0_power (s0_excepts (s0_body (s0_head (s0_kind bk t8.1) t8.2.1) t8.2.2.1) t8.2.2.2.1) t8.2.2.2.2.1) t8.2.2.2.2.2.1) t8.2.2.2.2.2.2.1) t8.2.2.2.2.2.2.2.1) t8.2.2.2.2.2.2.2.2)]) hc [2, 1] rfl rfl rfl hP hD hS hA (va_runV (As := [.ref (ac 0)]) (rest := []) S (hc.2 _) (cwV 1 S.2.2.2.2 gX8_image_X0_copyFrom rfl rfl rfl (by decide +kernel) ⟨Nat.le_of_ble_eq_true rfl, Nat.le_of_ble_eq_true rfl⟩) (zpV hK hP hD (is := [2, 1]) rfl rfl 2 rfl rfl (ci := 0) rfl) rfl rfl hl.1 rfl (lv_room (Nat.le_of_ble_eq_true rfl)) dX8_image_8 ⟨Nat.zero_le _, Nat.zero_le _⟩) (fun H locs hP hD hS => ?_)
  refine lv_aload_n hx hb dX8_image_11 rfl (lv_at hl 0 rfl) ?_
  refine lv_iconst (v := 1) hx hb dX8_image_12 (by decide) ?_
  refine zp8_isKept (bs1 := [w8 G arc (ac 0) orc_rounds orc_thought orc_thoughtRounds orc_chain orc_history (ak 0) orc_words orc_sheet orc_rows (s8_isKept brc 1), w0 G ac bc, w0 G ak (s0_shut (s0_size (s0_facts (s0_beats (s0_power (s0_excepts (s0_body (s0_head (s0_kind bk t8.1) t8.2.1) t8.2.2.1) t8.2.2.2.1) t8.2.2.2.2.1) t8.2.2.2.2.2.1) t8.2.2.2.2.2.2.1) t8.2.2.2.2.2.2.2.1) t8.2.2.2.2.2.2.2.2)]) S in_X8_image_8 hK hP hD hS 0 rfl (List.mem_of_getElem? (i := 3) rfl) zn1 dX8_image_13 rfl (fun H locs hP hD hS => ?_)
  refine lv_aload_n hx hb dX8_image_16 rfl (lv_at hl 0 rfl) ?_
  refine zg8_kept S in_X8_image_8 hK hP 0 rfl (List.mem_of_getElem? (i := 1) rfl) dX8_image_17 ?_
  refine zg0_size S in_X8_image_0 hK hP 2 rfl (List.mem_of_getElem? (i := 4) rfl) (v := t8.2.2.2.2.2.2.2.1) ((gs0_size_shut _ t8.2.2.2.2.2.2.2.2).trans (gg0_size _ t8.2.2.2.2.2.2.2.1)) dX8_image_20 ?_
  exact hret _ _ _ _ _ _ (by subst hE; rfl) rfl hP hS dX8_image_23

theorem in_X8_back_0 : ∀ w ∈ u_ws RX0 TX0 9, w ∈ wsX8_back := by decide +kernel
theorem in_X8_back_8 : ∀ w ∈ u_ws RX8 TX8 12, w ∈ wsX8_back := by decide +kernel
def rmX8_back : Room := { frames := 4, cells := 0, slots := 0, locals := 102 }
set_option maxHeartbeats 4000000 in
set_option maxRecDepth 100000 in
theorem c_X8_back (l : Launch) (G : zG) (arc : Nat → Nat) (ac : Nat → Nat) (ak : Nat → Nat) (ahi : Nat → Nat) (aik : Nat → Nat → Nat) (orc_rounds : Nat) (orc_thought : Nat) (orc_thoughtRounds : Nat) (orc_chain : Nat) (orc_words : Nat) (orc_sheet : Nat) (orc_rows : Nat) (brc : S8) (bc : S0) (bk : S0) (sg : Nat → Nat) (y : Nat → S0) (D : Nat) (un : Int32) (hs_hi_sg : ∀ j : Nat, j < 13 → sg j < 13) (T : Int32 × (Int32) × (Nat → Int32) × (Nat → Int32) × (Nat → Int32) × (Nat → Int32) × (Nat → Int32) × (Nat → Int32) × (Int32) × (Int32) × (Int32) × (Nat → S0) × (Nat) × (Int32)) (hT : FX8_back (g8_isKept brc) (g8_isSettled brc) (g0_kind bc) (g0_head bc) (g0_body bc) (g0_excepts bc) (g0_power bc) (g0_beats bc) (g0_facts bc) (g0_size bc) (g0_shut bc) (g0_kind bk) (g0_head bk) (g0_body bk) (g0_excepts bk) (g0_power bk) (g0_beats bk) (g0_facts bk) (g0_size bk) (g0_shut bk) sg y D un = T) : zI l yX8_back wsX8_back rmX8_back .int G [.ref (arc 0)] (w8 G arc (ac 0) orc_rounds orc_thought orc_thoughtRounds orc_chain (ahi 0) (ak 0) orc_words orc_sheet orc_rows brc :: w0 G ac bc :: w0 G ak bk :: w1 G ahi aik sg (nI D) un :: hcs G aik y) T.1 (w8 G arc (ac 0) orc_rounds orc_thought orc_thoughtRounds orc_chain (ahi 0) (ak 0) orc_words orc_sheet orc_rows (s8_isSettled brc T.2.1) :: w0 G ac (s0_shut (s0_size (s0_facts (s0_beats (s0_power (s0_excepts (s0_body (s0_head (s0_kind bc T.2.2.1) T.2.2.2.1) T.2.2.2.2.1) T.2.2.2.2.2.1) T.2.2.2.2.2.2.1) T.2.2.2.2.2.2.2.1) T.2.2.2.2.2.2.2.2.1) T.2.2.2.2.2.2.2.2.2.1) T.2.2.2.2.2.2.2.2.2.2.1) :: w0 G ak bk :: w1 G ahi aik sg (nI T.2.2.2.2.2.2.2.2.2.2.2.2.1) T.2.2.2.2.2.2.2.2.2.2.2.2.2 :: hcs G aik T.2.2.2.2.2.2.2.2.2.2.2.1) := by
  refine zI.mk (cc := cX8_back) (maxL := 1) (by decide +kernel) rfl (Nat.le_of_ble_eq_true rfl) (zfl_cons (wf8 _ _ _ _ _ _ _ _ _ _ _ _ _ _) (zfl_cons (wf0 _ _ _ _) (zfl_cons rfl (zfl_cons rfl (hcs_fst0 _ _ _ _))))) ?_
  intro p e s m args below meth c Q A ls S hK hD hA hP hl hret
  have hx := S.1
  have hb := S.2.1
  have hS : va_S A s.heap s.heap [] := va_S.rf
  have hl : lv_has ls 1 [(0, .ref (arc 0))] := hl
  have hE := hT.symm.trans (FX8_back.eq_1 _ _ _ _ _ _ _ _ _ _ _ _ _ _ _ _ _ _ _ _ _ _ _ _)
  refine lv_aload_n hx hb dX8_back_0 rfl (lv_at hl 0 rfl) ?_
  refine zg8_isKept S in_X8_back_8 hK hP 0 rfl (List.mem_of_getElem? (i := 1) rfl) (v := (g8_isKept brc)) rfl dX8_back_1 ?_
  refine lv_if_ne (tgt := 10) hx hb dX8_back_4 (by decide) (fun c4 => ?_) (fun c4 => ?_)
  · have hE := hE.trans (if_neg c4)
    refine lv_aload_n hx hb dX8_back_10 rfl (lv_at hl 0 rfl) ?_
    refine zg8_court S in_X8_back_8 hK hP 0 rfl (List.mem_of_getElem? (i := 2) rfl) dX8_back_11 ?_
    refine lv_aload_n hx hb dX8_back_14 rfl (lv_at hl 0 rfl) ?_
    refine zg8_kept S in_X8_back_8 hK hP 0 rfl (List.mem_of_getElem? (i := 3) rfl) dX8_back_15 ?_
    obtain ⟨t18, ht18⟩ : ∃ z, FX0_copyFrom (g0_kind bc) (g0_head bc) (g0_body bc) (g0_excepts bc) (g0_power bc) (g0_beats bc) (g0_facts bc) (g0_size bc) (g0_shut bc) (g0_kind bk) (g0_head bk) (g0_body bk) (g0_excepts bk) (g0_power bk) (g0_beats bk) (g0_facts bk) (g0_size bk) (g0_shut bk) = z := ⟨_, rfl⟩
    have hE := hE.trans (bnd_eq ht18)
    have hc := c_X0_copyFrom l G ac ak bc bk _ ht18
    refine zgoV (bs' := (w8 G arc (ac 0) orc_rounds orc_thought orc_thoughtRounds orc_chain (ahi 0) (ak 0) orc_words orc_sheet orc_rows brc :: w0 G ac (s0_shut (s0_size (s0_facts (s0_beats (s0_power (s0_excepts (s0_body (s0_head (s0_kind bc t18.1) t18.2.1) t18.2.2.1) t18.2.2.2.1) t18.2.2.2.2.1) t18.2.2.2.2.2.1) t18.2.2.2.2.2.2.1) t18.2.2.2.2.2.2.2.1) t18.2.2.2.2.2.2.2.2) :: w0 G ak bk :: w1 G ahi aik sg (nI D) un :: hcs G aik y)) hc [1, 2] rfl rfl rfl hP hD hS hA (va_runV (As := [.ref (ak 0)]) (rest := []) S (hc.2 _) (cwV 1 S.2.2.2.2 gX8_back_X0_copyFrom rfl rfl rfl (by decide +kernel) ⟨Nat.le_of_ble_eq_true rfl, Nat.le_of_ble_eq_true rfl⟩) (zpV hK hP hD (is := [1, 2]) rfl rfl 1 rfl rfl (ci := 0) rfl) rfl rfl hl.1 rfl (lv_room (Nat.le_of_ble_eq_true rfl)) dX8_back_18 ⟨Nat.zero_le _, Nat.zero_le _⟩) (fun H locs hP hD hS => ?_)
    refine lv_aload_n hx hb dX8_back_21 rfl (lv_at hl 0 rfl) ?_
    obtain ⟨t22, ht22⟩ : ∃ z, FX8_restart (g8_isSettled brc) t18.1 t18.2.1 t18.2.2.1 t18.2.2.2.1 t18.2.2.2.2.1 t18.2.2.2.2.2.1 t18.2.2.2.2.2.2.1 t18.2.2.2.2.2.2.2.1 t18.2.2.2.2.2.2.2.2 sg y D un = z := ⟨_, rfl⟩
    have hE := hE.trans (bnd_eq ht22)
    have hc := c_X8_restart l G arc ac ahi aik orc_rounds orc_thought orc_thoughtRounds orc_chain (ak 0) orc_words orc_sheet orc_rows brc (s0_shut (s0_size (s0_facts (s0_beats (s0_power (s0_excepts (s0_body (s0_head (s0_kind bc t18.1) t18.2.1) t18.2.2.1) t18.2.2.2.1) t18.2.2.2.2.1) t18.2.2.2.2.2.1) t18.2.2.2.2.2.2.1) t18.2.2.2.2.2.2.2.1) t18.2.2.2.2.2.2.2.2) sg y D un (hs_hi_sg) _ (by simp only [gs0_kind_shut, gs0_kind_size, gs0_kind_facts, gs0_kind_beats, gs0_kind_power, gs0_kind_excepts, gs0_kind_body, gs0_kind_head, gg0_kind, gs0_head_shut, gs0_head_size, gs0_head_facts, gs0_head_beats, gs0_head_power, gs0_head_excepts, gs0_head_body, gg0_head, gs0_body_shut, gs0_body_size, gs0_body_facts, gs0_body_beats, gs0_body_power, gs0_body_excepts, gg0_body, gs0_excepts_shut, gs0_excepts_size, gs0_excepts_facts, gs0_excepts_beats, gs0_excepts_power, gg0_excepts, gs0_power_shut, gs0_power_size, gs0_power_facts, gs0_power_beats, gg0_power, gs0_beats_shut, gs0_beats_size, gs0_beats_facts, gg0_beats, gs0_facts_shut, gs0_facts_size, gg0_facts, gs0_size_shut, gg0_size, gg0_shut]; exact ht22)
    refine zgoV (bs' := (w8 G arc (ac 0) orc_rounds orc_thought orc_thoughtRounds orc_chain (ahi 0) (ak 0) orc_words orc_sheet orc_rows (s8_isSettled brc t22.1) :: w0 G ac (s0_shut (s0_size (s0_facts (s0_beats (s0_power (s0_excepts (s0_body (s0_head (s0_kind bc t18.1) t18.2.1) t18.2.2.1) t18.2.2.2.1) t18.2.2.2.2.1) t18.2.2.2.2.2.1) t18.2.2.2.2.2.2.1) t18.2.2.2.2.2.2.2.1) t18.2.2.2.2.2.2.2.2) :: w0 G ak bk :: w1 G ahi aik sg (nI t22.2.2.1) t22.2.2.2 :: hcs G aik t22.2.1)) hc [0, 1, 3, 4, 5, 6, 7, 8, 9, 10, 11, 12, 13, 14, 15, 16] rfl rfl rfl hP hD hS hA (va_runV (As := []) (rest := []) S (hc.2 _) (cwV 0 S.2.2.2.2 gX8_back_X8_restart rfl rfl rfl (by decide +kernel) ⟨Nat.le_of_ble_eq_true rfl, Nat.le_of_ble_eq_true rfl⟩) (zpV hK hP hD (is := [0, 1, 3, 4, 5, 6, 7, 8, 9, 10, 11, 12, 13, 14, 15, 16]) rfl rfl 0 rfl rfl (ci := 8) rfl) rfl rfl hl.1 rfl (lv_room (Nat.le_of_ble_eq_true rfl)) dX8_back_22 ⟨Nat.zero_le _, Nat.zero_le _⟩) (fun H locs hP hD hS => ?_)
    refine lv_aload_n hx hb dX8_back_25 rfl (lv_at hl 0 rfl) ?_
    refine zg8_court S in_X8_back_8 hK hP 0 rfl (List.mem_of_getElem? (i := 2) rfl) dX8_back_26 ?_
    refine zg0_size S in_X8_back_0 hK hP 1 rfl (List.mem_of_getElem? (i := 4) rfl) (v := t18.2.2.2.2.2.2.2.1) ((gs0_size_shut _ t18.2.2.2.2.2.2.2.2).trans (gg0_size _ t18.2.2.2.2.2.2.2.1)) dX8_back_29 ?_
    exact hret _ _ _ _ _ _ (by subst hE; rfl) rfl hP hS dX8_back_32
  · have hE := hE.trans (if_pos c4)
    refine lv_bipush (v := (-5)) hx hb dX8_back_7 (by decide) ?_
    rw [show brc = (s8_isSettled brc (g8_isSettled brc)) from ((se8_isSettled _).symm)] at hP hD
    rw [show bc = (s0_shut (s0_size (s0_facts (s0_beats (s0_power (s0_excepts (s0_body (s0_head (s0_kind bc (g0_kind bc)) (g0_head bc)) (g0_body bc)) (g0_excepts bc)) (g0_power bc)) (g0_beats bc)) (g0_facts bc)) (g0_size bc)) (g0_shut bc)) from ((((((((((se0_kind _).symm).trans (((se0_head _).symm).trans (congrArg (fun v => s0_head (s0_kind bc (g0_kind bc)) v) (gs0_head_kind _ (g0_kind bc))))).trans (((se0_body _).symm).trans (congrArg (fun v => s0_body (s0_head (s0_kind bc (g0_kind bc)) (g0_head bc)) v) ((gs0_body_head _ (g0_head bc)).trans (gs0_body_kind _ (g0_kind bc)))))).trans (((se0_excepts _).symm).trans (congrArg (fun v => s0_excepts (s0_body (s0_head (s0_kind bc (g0_kind bc)) (g0_head bc)) (g0_body bc)) v) ((gs0_excepts_body _ (g0_body bc)).trans ((gs0_excepts_head _ (g0_head bc)).trans (gs0_excepts_kind _ (g0_kind bc))))))).trans (((se0_power _).symm).trans (congrArg (fun v => s0_power (s0_excepts (s0_body (s0_head (s0_kind bc (g0_kind bc)) (g0_head bc)) (g0_body bc)) (g0_excepts bc)) v) ((gs0_power_excepts _ (g0_excepts bc)).trans ((gs0_power_body _ (g0_body bc)).trans ((gs0_power_head _ (g0_head bc)).trans (gs0_power_kind _ (g0_kind bc)))))))).trans (((se0_beats _).symm).trans (congrArg (fun v => s0_beats (s0_power (s0_excepts (s0_body (s0_head (s0_kind bc (g0_kind bc)) (g0_head bc)) (g0_body bc)) (g0_excepts bc)) (g0_power bc)) v) ((gs0_beats_power _ (g0_power bc)).trans ((gs0_beats_excepts _ (g0_excepts bc)).trans ((gs0_beats_body _ (g0_body bc)).trans ((gs0_beats_head _ (g0_head bc)).trans (gs0_beats_kind _ (g0_kind bc))))))))).trans (((se0_facts _).symm).trans (congrArg (fun v => s0_facts (s0_beats (s0_power (s0_excepts (s0_body (s0_head (s0_kind bc (g0_kind bc)) (g0_head bc)) (g0_body bc)) (g0_excepts bc)) (g0_power bc)) (g0_beats bc)) v) ((gs0_facts_beats _ (g0_beats bc)).trans ((gs0_facts_power _ (g0_power bc)).trans ((gs0_facts_excepts _ (g0_excepts bc)).trans ((gs0_facts_body _ (g0_body bc)).trans ((gs0_facts_head _ (g0_head bc)).trans (gs0_facts_kind _ (g0_kind bc)))))))))).trans (((se0_size _).symm).trans (congrArg (fun v => s0_size (s0_facts (s0_beats (s0_power (s0_excepts (s0_body (s0_head (s0_kind bc (g0_kind bc)) (g0_head bc)) (g0_body bc)) (g0_excepts bc)) (g0_power bc)) (g0_beats bc)) (g0_facts bc)) v) ((gs0_size_facts _ (g0_facts bc)).trans ((gs0_size_beats _ (g0_beats bc)).trans ((gs0_size_power _ (g0_power bc)).trans ((gs0_size_excepts _ (g0_excepts bc)).trans ((gs0_size_body _ (g0_body bc)).trans ((gs0_size_head _ (g0_head bc)).trans (gs0_size_kind _ (g0_kind bc))))))))))).trans (((se0_shut _).symm).trans (congrArg (fun v => s0_shut (s0_size (s0_facts (s0_beats (s0_power (s0_excepts (s0_body (s0_head (s0_kind bc (g0_kind bc)) (g0_head bc)) (g0_body bc)) (g0_excepts bc)) (g0_power bc)) (g0_beats bc)) (g0_facts bc)) (g0_size bc)) v) ((gs0_shut_size _ (g0_size bc)).trans ((gs0_shut_facts _ (g0_facts bc)).trans ((gs0_shut_beats _ (g0_beats bc)).trans ((gs0_shut_power _ (g0_power bc)).trans ((gs0_shut_excepts _ (g0_excepts bc)).trans ((gs0_shut_body _ (g0_body bc)).trans ((gs0_shut_head _ (g0_head bc)).trans (gs0_shut_kind _ (g0_kind bc))))))))))))] at hP hD
    exact hret _ _ _ _ _ _ (by subst hE; rfl) rfl hP hS dX8_back_9

theorem in_X8_list_8 : ∀ w ∈ u_ws RX8 TX8 12, w ∈ wsX8_list := by decide +kernel
def rmX8_list : Room := { frames := 2, cells := 0, slots := 0, locals := 45 }
set_option maxHeartbeats 4000000 in
set_option maxRecDepth 100000 in
theorem c_X8_list (l : Launch) (G : zG) (arc : Nat → Nat) (aro : Nat → Nat) (orc_court : Nat) (orc_rounds : Nat) (orc_thought : Nat) (orc_thoughtRounds : Nat) (orc_chain : Nat) (orc_history : Nat) (orc_kept : Nat) (orc_words : Nat) (orc_sheet : Nat) (brc : S8) (bro : S5) (x1 : Int32) (x2 : Int32) (T : Int32 × (Nat → Nat → Int32) × (Nat → Int32)) (hT : FX8_list (g5_vals bro) (g5_size bro) x1 x2 = T) : zI l yX8_list wsX8_list rmX8_list .int G [.ref (arc 0), .int x1, .int x2] [w8 G arc orc_court orc_rounds orc_thought orc_thoughtRounds orc_chain orc_history orc_kept orc_words orc_sheet (aro 0) brc, w5 G aro bro] T.1 [w8 G arc orc_court orc_rounds orc_thought orc_thoughtRounds orc_chain orc_history orc_kept orc_words orc_sheet (aro 0) brc, w5 G aro (s5_size (s5_vals bro T.2.1) T.2.2)] := by
  refine zI.mk (cc := cX8_list) (maxL := 3) (by decide +kernel) rfl (Nat.le_of_ble_eq_true rfl) (zfl_cons rfl (zfl_cons (wf5 _ _ _ _) rfl)) ?_
  intro p e s m args below meth c Q A ls S hK hD hA hP hl hret
  have hx := S.1
  have hb := S.2.1
  have hS : va_S A s.heap s.heap [] := va_S.rf
  have hl : lv_has ls 3 [(0, .ref (arc 0)), (1, .int x1), (2, .int x2)] := hl
  have hE := hT.symm.trans (FX8_list.eq_1 _ _ _ _)
  refine lv_iload_n hx hb dX8_list_0 rfl (lv_at hl 1 rfl) ?_
  obtain ⟨t1, ht1⟩ : ∃ z, FX8_isList x1 = z := ⟨_, rfl⟩
  have hE := hE.trans (bnd_eq ht1)
  have hc := c_X8_isList l G x1 _ ht1
  refine zgoR (va_runS (As := [.int x1]) (rest := []) S (hc _) (va_cwS 1 S.2.2.2.2 gX8_list_X8_isList rfl rfl rfl (by decide +kernel) ⟨Nat.le_of_ble_eq_true rfl, Nat.le_of_ble_eq_true rfl⟩) (zpS hK hP hD (is := []) rfl rfl) rfl rfl hl.1 rfl (lv_room (Nat.le_of_ble_eq_true rfl)) dX8_list_1 ⟨Nat.zero_le _, Nat.zero_le _⟩) (fun hn1 => ?_)
  refine lv_if_eq (tgt := 13) hx hb dX8_list_4 (by decide) (fun c4 => ?_) (fun c4 => ?_)
  · have hE := hE.trans (if_pos c4)
    refine lv_iconst (v := (-1)) hx hb dX8_list_13 (by decide) ?_
    rw [show bro = (s5_size (s5_vals bro (g5_vals bro)) (g5_size bro)) from (((se5_vals _).symm).trans (((se5_size _).symm).trans (congrArg (fun v => s5_size (s5_vals bro (g5_vals bro)) v) (gs5_size_vals _ (g5_vals bro)))))] at hP hD
    exact hret _ _ _ _ _ _ (by subst hE; rfl) rfl hP hS dX8_list_14
  · have hE := hE.trans (if_neg c4)
    have hx1_4 : vp_in x1 4 := zisList (by rw [ht1]; exact c4)
    refine lv_iload_n hx hb dX8_list_7 rfl (lv_at hl 2 rfl) ?_
    refine lv_bipush (v := 24) hx hb dX8_list_8 (by decide) ?_
    refine lv_icmp_le (tgt := 15) hx hb dX8_list_10 (by decide) (fun c10 => ?_) (fun c10 => ?_)
    · have hE := hE.trans (if_pos c10)
      refine lv_iload_n hx hb dX8_list_15 rfl (lv_at hl 2 rfl) ?_
      refine lv_if_ge (tgt := 22) hx hb dX8_list_16 (by decide) (fun c16 => ?_) (fun c16 => ?_)
      · have hE := hE.trans (if_pos c16)
        refine lv_aload_n hx hb dX8_list_22 rfl (lv_at hl 0 rfl) ?_
        refine zg8_rows S in_X8_list_8 hK hP 0 rfl (List.mem_of_getElem? (i := 1) rfl) dX8_list_23 ?_
        refine lv_iload_n hx hb dX8_list_26 rfl (lv_at hl 1 rfl) ?_
        refine lv_iload_n hx hb dX8_list_27 rfl (lv_at hl 2 rfl) ?_
        obtain ⟨t28, ht28⟩ : ∃ z, FX5_make (g5_vals bro) (g5_size bro) x1 x2 = z := ⟨_, rfl⟩
        have hE := hE.trans (bnd_eq ht28)
        have hc := c_X5_make l G aro bro x1 x2 (hx1_4) _ ht28
        refine zgoV (bs' := [w8 G arc orc_court orc_rounds orc_thought orc_thoughtRounds orc_chain orc_history orc_kept orc_words orc_sheet (aro 0) brc, w5 G aro (s5_size (s5_vals bro t28.1) t28.2)]) hc [1] rfl rfl rfl hP hD hS hA (va_runV (As := [.int x1, .int x2]) (rest := []) S (hc.2 _) (cwV 2 S.2.2.2.2 gX8_list_X5_make rfl rfl rfl (by decide +kernel) ⟨Nat.le_of_ble_eq_true rfl, Nat.le_of_ble_eq_true rfl⟩) (zpV hK hP hD (is := [1]) rfl rfl 1 rfl rfl (ci := 5) rfl) rfl rfl hl.1 rfl (lv_room (Nat.le_of_ble_eq_true rfl)) dX8_list_28 ⟨Nat.zero_le _, Nat.zero_le _⟩) (fun H locs hP hD hS => ?_)
        refine lv_iconst (v := 1) hx hb dX8_list_31 (by decide) ?_
        exact hret _ _ _ _ _ _ (by subst hE; rfl) rfl hP hS dX8_list_32
      · have hE := hE.trans (if_neg c16)
        refine lv_bipush (v := (-14)) hx hb dX8_list_19 (by decide) ?_
        rw [show bro = (s5_size (s5_vals bro (g5_vals bro)) (g5_size bro)) from (((se5_vals _).symm).trans (((se5_size _).symm).trans (congrArg (fun v => s5_size (s5_vals bro (g5_vals bro)) v) (gs5_size_vals _ (g5_vals bro)))))] at hP hD
        exact hret _ _ _ _ _ _ (by subst hE; rfl) rfl hP hS dX8_list_21
    · have hE := hE.trans (if_neg c10)
      refine lv_iconst (v := (-1)) hx hb dX8_list_13 (by decide) ?_
      rw [show bro = (s5_size (s5_vals bro (g5_vals bro)) (g5_size bro)) from (((se5_vals _).symm).trans (((se5_size _).symm).trans (congrArg (fun v => s5_size (s5_vals bro (g5_vals bro)) v) (gs5_size_vals _ (g5_vals bro)))))] at hP hD
      exact hret _ _ _ _ _ _ (by subst hE; rfl) rfl hP hS dX8_list_14

theorem in_X8_set_8 : ∀ w ∈ u_ws RX8 TX8 12, w ∈ wsX8_set := by decide +kernel
def rmX8_set : Room := { frames := 1, cells := 0, slots := 0, locals := 23 }
set_option maxHeartbeats 4000000 in
set_option maxRecDepth 100000 in
theorem c_X8_set (l : Launch) (G : zG) (arc : Nat → Nat) (aro : Nat → Nat) (orc_court : Nat) (orc_rounds : Nat) (orc_thought : Nat) (orc_thoughtRounds : Nat) (orc_chain : Nat) (orc_history : Nat) (orc_kept : Nat) (orc_words : Nat) (orc_sheet : Nat) (brc : S8) (bro : S5) (x1 : Int32) (x2 : Int32) (x3 : Int32) (hsz : ∀ t : Nat, t < 4 → g5_size bro t = -1 ∨ ∃ N : Nat, N ≤ 24 ∧ g5_size bro t = nI N) (T : Int32 × (Nat → Nat → Int32)) (hT : FX8_set (g5_vals bro) (g5_size bro) x1 x2 x3 = T) : zI l yX8_set wsX8_set rmX8_set .int G [.ref (arc 0), .int x1, .int x2, .int x3] [w8 G arc orc_court orc_rounds orc_thought orc_thoughtRounds orc_chain orc_history orc_kept orc_words orc_sheet (aro 0) brc, w5 G aro bro] T.1 [w8 G arc orc_court orc_rounds orc_thought orc_thoughtRounds orc_chain orc_history orc_kept orc_words orc_sheet (aro 0) brc, w5 G aro (s5_vals bro T.2)] := by
  refine zI.mk (cc := cX8_set) (maxL := 4) (by decide +kernel) rfl (Nat.le_of_ble_eq_true rfl) (zfl_cons rfl (zfl_cons (wf5 _ _ _ _) rfl)) ?_
  intro p e s m args below meth c Q A ls S hK hD hA hP hl hret
  have hx := S.1
  have hb := S.2.1
  have hS : va_S A s.heap s.heap [] := va_S.rf
  have hl : lv_has ls 4 [(0, .ref (arc 0)), (1, .int x1), (2, .int x2), (3, .int x3)] := hl
  have hE := hT.symm.trans (FX8_set.eq_1 _ _ _ _ _)
  refine lv_iload_n hx hb dX8_set_0 rfl (lv_at hl 1 rfl) ?_
  obtain ⟨t1, ht1⟩ : ∃ z, FX8_isList x1 = z := ⟨_, rfl⟩
  have hE := hE.trans (bnd_eq ht1)
  have hc := c_X8_isList l G x1 _ ht1
  refine zgoR (va_runS (As := [.int x1]) (rest := []) S (hc _) (va_cwS 1 S.2.2.2.2 gX8_set_X8_isList rfl rfl rfl (by decide +kernel) ⟨Nat.le_of_ble_eq_true rfl, Nat.le_of_ble_eq_true rfl⟩) (zpS hK hP hD (is := []) rfl rfl) rfl rfl hl.1 rfl (lv_room (Nat.le_of_ble_eq_true rfl)) dX8_set_1 ⟨Nat.zero_le _, Nat.zero_le _⟩) (fun hn1 => ?_)
  refine lv_if_ne (tgt := 9) hx hb dX8_set_4 (by decide) (fun c4 => ?_) (fun c4 => ?_)
  · have hE := hE.trans (if_neg c4)
    have hx1_4 : vp_in x1 4 := zisList (by rw [ht1]; exact c4)
    refine lv_aload_n hx hb dX8_set_9 rfl (lv_at hl 0 rfl) ?_
    refine zg8_rows S in_X8_set_8 hK hP 0 rfl (List.mem_of_getElem? (i := 1) rfl) dX8_set_10 ?_
    refine lv_iload_n hx hb dX8_set_13 rfl (lv_at hl 1 rfl) ?_
    obtain ⟨t14, ht14⟩ : ∃ z, FX5_holds (g5_size bro) x1 = z := ⟨_, rfl⟩
    have hE := hE.trans (bnd_eq ht14)
    have hc := c_X5_holds l G aro bro x1 (hx1_4) _ ht14
    refine zgoR (va_runV (As := [.int x1]) (rest := []) S (hc _) (cwV 1 S.2.2.2.2 gX8_set_X5_holds rfl rfl rfl (by decide +kernel) ⟨Nat.le_of_ble_eq_true rfl, Nat.le_of_ble_eq_true rfl⟩) (zpV hK hP hD (is := [1]) rfl rfl 1 rfl rfl (ci := 5) rfl) rfl rfl hl.1 rfl (lv_room (Nat.le_of_ble_eq_true rfl)) dX8_set_14 ⟨Nat.zero_le _, Nat.zero_le _⟩) (fun hn14 => ?_)
    refine lv_if_ne (tgt := 23) hx hb dX8_set_17 (by decide) (fun c17 => ?_) (fun c17 => ?_)
    · have hE := hE.trans (if_neg c17)
      refine lv_aload_n hx hb dX8_set_23 rfl (lv_at hl 0 rfl) ?_
      refine zg8_rows S in_X8_set_8 hK hP 0 rfl (List.mem_of_getElem? (i := 1) rfl) dX8_set_24 ?_
      refine lv_iload_n hx hb dX8_set_27 rfl (lv_at hl 1 rfl) ?_
      refine lv_iload_n hx hb dX8_set_28 rfl (lv_at hl 2 rfl) ?_
      obtain ⟨t29, ht29⟩ : ∃ z, FX5_hasPlace (g5_size bro) x1 x2 = z := ⟨_, rfl⟩
      have hE := hE.trans (bnd_eq ht29)
      have hc := c_X5_hasPlace l G aro bro x1 x2 (hx1_4) _ ht29
      refine zgoR (va_runV (As := [.int x1, .int x2]) (rest := []) S (hc _) (cwV 2 S.2.2.2.2 gX8_set_X5_hasPlace rfl rfl rfl (by decide +kernel) ⟨Nat.le_of_ble_eq_true rfl, Nat.le_of_ble_eq_true rfl⟩) (zpV hK hP hD (is := [1]) rfl rfl 1 rfl rfl (ci := 5) rfl) rfl rfl hl.1 rfl (lv_room (Nat.le_of_ble_eq_true rfl)) dX8_set_29 ⟨Nat.zero_le _, Nat.zero_le _⟩) (fun hn29 => ?_)
      refine lv_if_ne (tgt := 38) hx hb dX8_set_32 (by decide) (fun c32 => ?_) (fun c32 => ?_)
      · have hE := hE.trans (if_neg c32)
        refine lv_aload_n hx hb dX8_set_38 rfl (lv_at hl 0 rfl) ?_
        refine zg8_rows S in_X8_set_8 hK hP 0 rfl (List.mem_of_getElem? (i := 1) rfl) dX8_set_39 ?_
        refine lv_iload_n hx hb dX8_set_42 rfl (lv_at hl 1 rfl) ?_
        refine lv_iload_n hx hb dX8_set_43 rfl (lv_at hl 2 rfl) ?_
        refine lv_iload_n hx hb dX8_set_44 rfl (lv_at hl 3 rfl) ?_
        obtain ⟨t45, ht45⟩ : ∃ z, FX5_put (g5_vals bro) x1 x2 x3 = z := ⟨_, rfl⟩
        have hE := hE.trans (bnd_eq ht45)
        have hc := c_X5_put l G aro bro x1 x2 x3 (hx1_4) (zplace hsz (by assumption) (by rw [ht29]; exact c32)) _ ht45
        refine zgoV (bs' := [w8 G arc orc_court orc_rounds orc_thought orc_thoughtRounds orc_chain orc_history orc_kept orc_words orc_sheet (aro 0) brc, w5 G aro (s5_vals bro t45)]) hc [1] rfl rfl rfl hP hD hS hA (va_runV (As := [.int x1, .int x2, .int x3]) (rest := []) S (hc.2 _) (cwV 3 S.2.2.2.2 gX8_set_X5_put rfl rfl rfl (by decide +kernel) ⟨Nat.le_of_ble_eq_true rfl, Nat.le_of_ble_eq_true rfl⟩) (zpV hK hP hD (is := [1]) rfl rfl 1 rfl rfl (ci := 5) rfl) rfl rfl hl.1 rfl (lv_room (Nat.le_of_ble_eq_true rfl)) dX8_set_45 ⟨Nat.zero_le _, Nat.zero_le _⟩) (fun H locs hP hD hS => ?_)
        refine lv_iconst (v := 1) hx hb dX8_set_48 (by decide) ?_
        exact hret _ _ _ _ _ _ (by subst hE; rfl) rfl hP hS dX8_set_49
      · have hE := hE.trans (if_pos c32)
        refine lv_bipush (v := (-13)) hx hb dX8_set_35 (by decide) ?_
        rw [show bro = (s5_vals bro (g5_vals bro)) from ((se5_vals _).symm)] at hP hD
        exact hret _ _ _ _ _ _ (by subst hE; rfl) rfl hP hS dX8_set_37
    · have hE := hE.trans (if_pos c17)
      refine lv_bipush (v := (-11)) hx hb dX8_set_20 (by decide) ?_
      rw [show bro = (s5_vals bro (g5_vals bro)) from ((se5_vals _).symm)] at hP hD
      exact hret _ _ _ _ _ _ (by subst hE; rfl) rfl hP hS dX8_set_22
  · have hE := hE.trans (if_pos c4)
    refine lv_iconst (v := (-1)) hx hb dX8_set_7 (by decide) ?_
    rw [show bro = (s5_vals bro (g5_vals bro)) from ((se5_vals _).symm)] at hP hD
    exact hret _ _ _ _ _ _ (by subst hE; rfl) rfl hP hS dX8_set_8

theorem in_X8_get_8 : ∀ w ∈ u_ws RX8 TX8 12, w ∈ wsX8_get := by decide +kernel
def rmX8_get : Room := { frames := 1, cells := 0, slots := 0, locals := 22 }
set_option maxHeartbeats 4000000 in
set_option maxRecDepth 100000 in
theorem c_X8_get (l : Launch) (G : zG) (arc : Nat → Nat) (aro : Nat → Nat) (orc_court : Nat) (orc_rounds : Nat) (orc_thought : Nat) (orc_thoughtRounds : Nat) (orc_chain : Nat) (orc_history : Nat) (orc_kept : Nat) (orc_words : Nat) (orc_sheet : Nat) (brc : S8) (bro : S5) (x1 : Int32) (x2 : Int32) (hsz : ∀ t : Nat, t < 4 → g5_size bro t = -1 ∨ ∃ N : Nat, N ≤ 24 ∧ g5_size bro t = nI N) (T : Int64) (hT : FX8_get (g5_vals bro) (g5_size bro) x1 x2 = T) : zL l yX8_get wsX8_get rmX8_get G [.ref (arc 0), .int x1, .int x2] [w8 G arc orc_court orc_rounds orc_thought orc_thoughtRounds orc_chain orc_history orc_kept orc_words orc_sheet (aro 0) brc, w5 G aro bro] T := by
  refine zL.mk (cc := cX8_get) (maxL := 3) (by decide +kernel) rfl (Nat.le_of_ble_eq_true rfl) ?_
  intro p e s m args below meth c Q A ls S hK hD hA hP hl hret
  have hx := S.1
  have hb := S.2.1
  have hl : lv_has ls 3 [(0, .ref (arc 0)), (1, .int x1), (2, .int x2)] := hl
  have hE := hT.symm.trans (FX8_get.eq_1 _ _ _ _)
  refine lv_iload_n hx hb dX8_get_0 rfl (lv_at hl 1 rfl) ?_
  obtain ⟨t1, ht1⟩ : ∃ z, FX8_isList x1 = z := ⟨_, rfl⟩
  have hE := hE.trans (bnd_eq ht1)
  have hc := c_X8_isList l G x1 _ ht1
  refine zgoR (va_runS (As := [.int x1]) (rest := []) S (hc _) (va_cwS 1 S.2.2.2.2 gX8_get_X8_isList rfl rfl rfl (by decide +kernel) ⟨Nat.le_of_ble_eq_true rfl, Nat.le_of_ble_eq_true rfl⟩) (zpS hK hP hD (is := []) rfl rfl) rfl rfl hl.1 rfl (lv_room (Nat.le_of_ble_eq_true rfl)) dX8_get_1 ⟨Nat.zero_le _, Nat.zero_le _⟩) (fun hn1 => ?_)
  refine lv_if_eq (tgt := 30) hx hb dX8_get_4 (by decide) (fun c4 => ?_) (fun c4 => ?_)
  · have hE := hE.trans (if_pos c4)
    refine lv_ldc2 (v := (-9223372036854775808)) hx hb S.2.2.2.1 (S.2.2.2.2 _ (List.mem_of_getElem? (i := 2) rfl)) dX8_get_30 ?_
    exact hret _ _ _ hE dX8_get_33
  · have hE := hE.trans (if_neg c4)
    have hx1_4 : vp_in x1 4 := zisList (by rw [ht1]; exact c4)
    refine lv_aload_n hx hb dX8_get_7 rfl (lv_at hl 0 rfl) ?_
    refine zg8_rows S in_X8_get_8 hK hP 0 rfl (List.mem_of_getElem? (i := 1) rfl) dX8_get_8 ?_
    refine lv_iload_n hx hb dX8_get_11 rfl (lv_at hl 1 rfl) ?_
    obtain ⟨t12, ht12⟩ : ∃ z, FX5_holds (g5_size bro) x1 = z := ⟨_, rfl⟩
    have hE := hE.trans (bnd_eq ht12)
    have hc := c_X5_holds l G aro bro x1 (hx1_4) _ ht12
    refine zgoR (va_runV (As := [.int x1]) (rest := []) S (hc _) (cwV 1 S.2.2.2.2 gX8_get_X5_holds rfl rfl rfl (by decide +kernel) ⟨Nat.le_of_ble_eq_true rfl, Nat.le_of_ble_eq_true rfl⟩) (zpV hK hP hD (is := [1]) rfl rfl 1 rfl rfl (ci := 5) rfl) rfl rfl hl.1 rfl (lv_room (Nat.le_of_ble_eq_true rfl)) dX8_get_12 ⟨Nat.zero_le _, Nat.zero_le _⟩) (fun hn12 => ?_)
    refine lv_if_eq (tgt := 30) hx hb dX8_get_15 (by decide) (fun c15 => ?_) (fun c15 => ?_)
    · have hE := hE.trans (if_pos c15)
      refine lv_ldc2 (v := (-9223372036854775808)) hx hb S.2.2.2.1 (S.2.2.2.2 _ (List.mem_of_getElem? (i := 2) rfl)) dX8_get_30 ?_
      exact hret _ _ _ hE dX8_get_33
    · have hE := hE.trans (if_neg c15)
      refine lv_aload_n hx hb dX8_get_18 rfl (lv_at hl 0 rfl) ?_
      refine zg8_rows S in_X8_get_8 hK hP 0 rfl (List.mem_of_getElem? (i := 1) rfl) dX8_get_19 ?_
      refine lv_iload_n hx hb dX8_get_22 rfl (lv_at hl 1 rfl) ?_
      refine lv_iload_n hx hb dX8_get_23 rfl (lv_at hl 2 rfl) ?_
      obtain ⟨t24, ht24⟩ : ∃ z, FX5_hasPlace (g5_size bro) x1 x2 = z := ⟨_, rfl⟩
      have hE := hE.trans (bnd_eq ht24)
      have hc := c_X5_hasPlace l G aro bro x1 x2 (hx1_4) _ ht24
      refine zgoR (va_runV (As := [.int x1, .int x2]) (rest := []) S (hc _) (cwV 2 S.2.2.2.2 gX8_get_X5_hasPlace rfl rfl rfl (by decide +kernel) ⟨Nat.le_of_ble_eq_true rfl, Nat.le_of_ble_eq_true rfl⟩) (zpV hK hP hD (is := [1]) rfl rfl 1 rfl rfl (ci := 5) rfl) rfl rfl hl.1 rfl (lv_room (Nat.le_of_ble_eq_true rfl)) dX8_get_24 ⟨Nat.zero_le _, Nat.zero_le _⟩) (fun hn24 => ?_)
      refine lv_if_ne (tgt := 34) hx hb dX8_get_27 (by decide) (fun c27 => ?_) (fun c27 => ?_)
      · have hE := hE.trans (if_neg c27)
        refine lv_aload_n hx hb dX8_get_34 rfl (lv_at hl 0 rfl) ?_
        refine zg8_rows S in_X8_get_8 hK hP 0 rfl (List.mem_of_getElem? (i := 1) rfl) dX8_get_35 ?_
        refine lv_iload_n hx hb dX8_get_38 rfl (lv_at hl 1 rfl) ?_
        refine lv_iload_n hx hb dX8_get_39 rfl (lv_at hl 2 rfl) ?_
        obtain ⟨t40, ht40⟩ : ∃ z, FX5_at (g5_vals bro) x1 x2 = z := ⟨_, rfl⟩
        have hE := hE.trans (bnd_eq ht40)
        have hc := c_X5_at l G aro bro x1 x2 (hx1_4) (zplace hsz (by assumption) (by rw [ht24]; exact c27)) _ ht40
        refine zgoR (va_runV (As := [.int x1, .int x2]) (rest := []) S (hc _) (cwV 2 S.2.2.2.2 gX8_get_X5_at rfl rfl rfl (by decide +kernel) ⟨Nat.le_of_ble_eq_true rfl, Nat.le_of_ble_eq_true rfl⟩) (zpV hK hP hD (is := [1]) rfl rfl 1 rfl rfl (ci := 5) rfl) rfl rfl hl.1 rfl (lv_room (Nat.le_of_ble_eq_true rfl)) dX8_get_40 ⟨Nat.zero_le _, Nat.zero_le _⟩) (fun hn40 => ?_)
        refine lv_i2l (v := t40.toInt64) hx hb dX8_get_43 rfl ?_
        exact hret _ _ _ hE dX8_get_44
      · have hE := hE.trans (if_pos c27)
        refine lv_ldc2 (v := (-9223372036854775808)) hx hb S.2.2.2.1 (S.2.2.2.2 _ (List.mem_of_getElem? (i := 2) rfl)) dX8_get_30 ?_
        exact hret _ _ _ hE dX8_get_33

theorem in_X8_paper_2 : ∀ w ∈ u_ws RX2 TX2 2, w ∈ wsX8_paper := by decide +kernel
theorem in_X8_paper_8 : ∀ w ∈ u_ws RX8 TX8 12, w ∈ wsX8_paper := by decide +kernel
def rmX8_paper : Room := { frames := 0, cells := 0, slots := 0, locals := 0 }
set_option maxHeartbeats 4000000 in
set_option maxRecDepth 100000 in
theorem c_X8_paper (l : Launch) (G : zG) (arc : Nat → Nat) (apa : Nat → Nat) (orc_court : Nat) (orc_rounds : Nat) (orc_thought : Nat) (orc_thoughtRounds : Nat) (orc_chain : Nat) (orc_history : Nat) (orc_kept : Nat) (orc_words : Nat) (orc_rows : Nat) (brc : S8) (bpa : S2) (x1 : Int32) (hz_pa_length : ∃ N : Nat, N ≤ 2000 ∧ g2_length bpa = nI N) (T : Int32) (hT : FX8_paper (g2_bytes bpa) (g2_length bpa) x1 = T) : zR l yX8_paper wsX8_paper rmX8_paper .int G [.ref (arc 0), .int x1] [w8 G arc orc_court orc_rounds orc_thought orc_thoughtRounds orc_chain orc_history orc_kept orc_words (apa 0) orc_rows brc, w2 G apa bpa] T := by
  refine zR.mk (cc := cX8_paper) (maxL := 2) (by decide +kernel) rfl (Nat.le_of_ble_eq_true rfl) ?_
  intro p e s m args below meth c Q A ls S hK hD hA hP hl hret
  have hx := S.1
  have hb := S.2.1
  have hl : lv_has ls 2 [(0, .ref (arc 0)), (1, .int x1)] := hl
  have hE := hT.symm.trans (FX8_paper.eq_1 _ _ _)
  refine lv_iload_n hx hb dX8_paper_0 rfl (lv_at hl 1 rfl) ?_
  refine lv_if_ge (tgt := 6) hx hb dX8_paper_1 (by decide) (fun c1 => ?_) (fun c1 => ?_)
  · have hE := hE.trans (if_pos c1)
    refine lv_iload_n hx hb dX8_paper_6 rfl (lv_at hl 1 rfl) ?_
    refine lv_aload_n hx hb dX8_paper_7 rfl (lv_at hl 0 rfl) ?_
    refine zg8_sheet S in_X8_paper_8 hK hP 0 rfl (List.mem_of_getElem? (i := 1) rfl) dX8_paper_8 ?_
    refine zg2_length S in_X8_paper_2 hK hP 1 rfl (List.mem_of_getElem? (i := 2) rfl) (v := (g2_length bpa)) rfl dX8_paper_11 ?_
    refine lv_icmp_ge (tgt := 29) hx hb dX8_paper_14 (by decide) (fun c14 => ?_) (fun c14 => ?_)
    · have hE := hE.trans (if_pos c14)
      refine lv_bipush (v := (-2)) hx hb dX8_paper_29 (by decide) ?_
      exact hret _ _ _ hE rfl dX8_paper_31
    · have hE := hE.trans (if_neg c14)
      have hx1_2000 : vp_in x1 2000 := zgp hz_pa_length c1 c14
      refine lv_aload_n hx hb dX8_paper_17 rfl (lv_at hl 0 rfl) ?_
      refine zg8_sheet S in_X8_paper_8 hK hP 0 rfl (List.mem_of_getElem? (i := 1) rfl) dX8_paper_18 ?_
      refine zg2_bytes S in_X8_paper_2 hK hP 1 rfl (List.mem_of_getElem? (i := 3) rfl) dX8_paper_21 ?_
      refine lv_iload_n hx hb dX8_paper_24 rfl (lv_at hl 1 rfl) ?_
      refine zl2_bytes S hK hP 1 rfl hx1_2000 (f := (g2_bytes bpa)) rfl dX8_paper_25 ?_
      refine lv_goto (tgt := 31) hx hb dX8_paper_26 (by decide) ?_
      exact hret _ _ _ hE rfl dX8_paper_31
  · have hE := hE.trans (if_neg c1)
    refine lv_iconst (v := (-1)) hx hb dX8_paper_4 (by decide) ?_
    exact hret _ _ _ hE rfl dX8_paper_5

