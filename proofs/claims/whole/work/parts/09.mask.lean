def rmX9_in : Room := { frames := 0, cells := 0, slots := 0, locals := 0 }
set_option maxHeartbeats 4000000 in
set_option maxRecDepth 100000 in
theorem c_X9_in (l : Launch) (G : zG) (x0 : Int32) (x1 : Int32) (x2 : Int32) (T : Int32) (hT : FX9_in x0 x1 x2 = T) : zR l yX9_in wsX9_in rmX9_in .boolean G [.int x0, .int x1, .int x2] [] T := by
  refine zR.mk (cc := cX9_in) (maxL := 3) (by decide +kernel) rfl (Nat.le_of_ble_eq_true rfl) ?_
  intro p e s m args below meth c Q A ls S hK hD hA hP hl hret
  have hx := S.1
  have hb := S.2.1
  have hl : lv_has ls 3 [(0, .int x0), (1, .int x1), (2, .int x2)] := hl
  have hE := hT.symm.trans (FX9_in.eq_1 _ _ _)
  refine lv_iload_n hx hb dX9_in_0 rfl (lv_at hl 0 rfl) ?_
  refine lv_iload_n hx hb dX9_in_1 rfl (lv_at hl 1 rfl) ?_
  refine lv_icmp_lt (tgt := 14) hx hb dX9_in_2 (by decide) (fun c2 => ?_) (fun c2 => ?_)
  · have hE := hE.trans (if_pos c2)
    refine lv_iconst (v := 0) hx hb dX9_in_14 (by decide) ?_
    exact hret _ _ _ hE zn0 dX9_in_15
  · have hE := hE.trans (if_neg c2)
    refine lv_iload_n hx hb dX9_in_5 rfl (lv_at hl 0 rfl) ?_
    refine lv_iload_n hx hb dX9_in_6 rfl (lv_at hl 2 rfl) ?_
    refine lv_icmp_gt (tgt := 14) hx hb dX9_in_7 (by decide) (fun c7 => ?_) (fun c7 => ?_)
    · have hE := hE.trans (if_pos c7)
      refine lv_iconst (v := 0) hx hb dX9_in_14 (by decide) ?_
      exact hret _ _ _ hE zn0 dX9_in_15
    · have hE := hE.trans (if_neg c7)
      refine lv_iconst (v := 1) hx hb dX9_in_10 (by decide) ?_
      refine lv_goto (tgt := 15) hx hb dX9_in_11 (by decide) ?_
      exact hret _ _ _ hE zn1 dX9_in_15

theorem zn12 {x : Int32} (c : ¬ FX9_in x 1 12 = 0) : ∃ N : Nat, N ≤ 12 ∧ x = nI N := by
  unfold FX9_in at c
  by_cases h1 : x < 1
  · rw [if_pos h1] at c; exact absurd rfl c
  · rw [if_neg h1] at c
    by_cases h2 : 12 < x
    · rw [if_pos h2] at c; exact absurd rfl c
    · have h0 : ¬ x < 0 := fun h => h1 (Int32.lt_iff_toInt_lt.mpr (Int.lt_trans (Int32.lt_iff_toInt_lt.mp h) (by decide)))
      obtain ⟨j, hj, rfl⟩ := nI_of h0
      rw [show (12 : Int32) = nI 12 from rfl, nI_ltI (by decide) hj] at h2
      exact ⟨j, by omega, rfl⟩
theorem zne {x k : Int32} {n : Nat} (h : ∃ N : Nat, N ≤ n ∧ x = nI N) (hk : k = nI n) (hn : n < 2 ^ 31) (c : ¬ x = k) : vp_in x n := by
  obtain ⟨N, h1, rfl⟩ := h
  refine vp_in_nI ?_ hn
  rcases Nat.lt_or_ge N n with q | q
  · exact q
  · exact absurd (by rw [hk, show N = n by omega]) c
theorem zgp {x y : Int32} {n : Nat} (h : ∃ N : Nat, N ≤ n ∧ y = nI N) (c0 : 0 ≤ x) (c : ¬ y ≤ x) (hn : n < 2 ^ 31 := by decide) : vp_in x n := by
  obtain ⟨N, h1, rfl⟩ := h
  have h0 : ¬ x < 0 := fun h => by
    have a := Int32.lt_iff_toInt_lt.mp h
    have b := Int32.le_iff_toInt_le.mp c0
    omega
  obtain ⟨j, hj, rfl⟩ := nI_of h0
  rw [nI_leI (by omega) hj] at c
  exact vp_in_nI (by omega) hn
theorem zlinP {x : Int32} {a j : Nat} (ha : a < 4) (hj : j < 24) : vp_in (24 * nI a + nI j) 96 := by
  rw [show (24 : Int32) = nI 24 from rfl, pk_mul, nI_add]
  exact vp_in_nI (by omega) (by decide)
theorem zset9 {x y : Int32} {f : Nat → Int32} (h : ∀ t : Nat, t < 4 → f t = -1 ∨ ∃ N : Nat, N ≤ 24 ∧ f t = nI N) (hx : vp_in x 4) (c : ¬ FX9_in y 0 (f x.toNatClampNeg - 1) = 0) : vp_in (24 * x + y) 96 := by
  obtain ⟨a, ha, rfl⟩ := vp_in_of hx (by decide)
  rw [nI_clamp (by omega)] at c
  unfold FX9_in at c
  by_cases h1 : y < 0
  · rw [if_pos h1] at c; exact absurd rfl c
  · rw [if_neg h1] at c
    by_cases h2 : f a - 1 < y
    · rw [if_pos h2] at c; exact absurd rfl c
    · obtain ⟨j, hj, rfl⟩ := nI_of h1
      have h3 : ¬ (f a - 1).toInt < (nI j).toInt := fun z => h2 (Int32.lt_iff_toInt_lt.mpr z)
      rw [nI_toInt hj] at h3
      rcases h a ha with q | ⟨N, hN, q⟩
      · rw [q, show ((-1 : Int32) - 1).toInt = -2 from by decide] at h3
        omega
      · rw [q] at h3
        rcases Nat.eq_zero_or_pos N with n0 | n0
        · rw [n0, show (nI 0 - 1 : Int32).toInt = -1 from by decide] at h3
          omega
        · rw [show (1 : Int32) = nI 1 from rfl, pk_sub n0, nI_toInt (by omega)] at h3
          exact zlinP (x := 0) ha (by omega)
theorem zj82 {x y : Int32} {i : Nat} {f : Nat → Int32} (h : ∀ t : Nat, t < 4 → f t = -1 ∨ ∃ N : Nat, N ≤ 24 ∧ f t = nI N) (hx : vp_in x 4) (c0 : 0 ≤ y) (hi : i < 20) (c : lg_cmp (y.toInt64 + (nI i).toInt64) (f x.toNatClampNeg).toInt64 < 0) : vp_in (24 * x + y + nI i) 96 := by
  obtain ⟨a, ha, rfl⟩ := vp_in_of hx (by decide)
  rw [nI_clamp (by omega)] at c
  have h0 : ¬ y < 0 := fun h => by
    have a := Int32.lt_iff_toInt_lt.mp h
    have b := Int32.le_iff_toInt_le.mp c0
    omega
  obtain ⟨j, hj, rfl⟩ := nI_of h0
  have c2 := Int64.lt_iff_toInt_lt.mp ((lg_cmp_lt _ _).mp c)
  have e : ((nI j).toInt64 + (nI i).toInt64).toInt = (j : Int) + i := by
    rw [Int64.toInt_add, Int32.toInt_toInt64, Int32.toInt_toInt64, nI_toInt hj, nI_toInt (by omega)]
    exact Int.bmod_eq_of_le (by omega) (by omega)
  rw [e, Int32.toInt_toInt64] at c2
  rcases h a ha with q | ⟨N, hN, q⟩
  · rw [q, show ((-1 : Int32)).toInt = -1 from by decide] at c2
    omega
  · rw [q, nI_toInt (by omega)] at c2
    rw [show (24 : Int32) = nI 24 from rfl, pk_mul, nI_add, nI_add]
    exact vp_in_nI (by omega) (by decide)
theorem znl {x : Int32} (c : 0 ≤ x) : ¬ x < 0 := fun h => by
  have a := Int32.lt_iff_toInt_lt.mp h
  have b := Int32.le_iff_toInt_le.mp c
  omega
theorem znl2 {x : Int32} (c : ¬ 0 ≤ x) : x < 0 := by
  rw [Int32.lt_iff_toInt_lt]
  rw [Int32.le_iff_toInt_le] at c
  omega
theorem zprK {x y : Int32} {n : Nat} (hy : y = nI n) (hn : n ≤ 80) (c : x < y) : 0 ≤ x → vp_in x 80 := fun h => by
  obtain ⟨j, hj, rfl⟩ := nI_of (znl h)
  rw [hy, nI_ltI hj (by omega)] at c
  exact vp_in_nI (by omega) (by decide)

def rmX9_isLiteral : Room := { frames := 1, cells := 0, slots := 0, locals := 22 }
set_option maxHeartbeats 4000000 in
set_option maxRecDepth 100000 in
theorem c_X9_isLiteral (l : Launch) (G : zG) (x0 : Int32) (T : Int32) (hT : FX9_isLiteral x0 = T) : zR l yX9_isLiteral wsX9_isLiteral rmX9_isLiteral .boolean G [.int x0] [] T := by
  refine zR.mk (cc := cX9_isLiteral) (maxL := 1) (by decide +kernel) rfl (Nat.le_of_ble_eq_true rfl) ?_
  intro p e s m args below meth c Q A ls S hK hD hA hP hl hret
  have hx := S.1
  have hb := S.2.1
  have hl : lv_has ls 1 [(0, .int x0)] := hl
  have hE := hT.symm.trans (FX9_isLiteral.eq_1 _)
  refine lv_iload_n hx hb dX9_isLiteral_0 rfl (lv_at hl 0 rfl) ?_
  refine lv_iconst (v := 0) hx hb dX9_isLiteral_1 (by decide) ?_
  refine lv_bipush (v := 19) hx hb dX9_isLiteral_2 (by decide) ?_
  obtain ⟨t4, ht4⟩ : ∃ z, FX9_in x0 0 19 = z := ⟨_, rfl⟩
  have hE := hE.trans (bnd_eq ht4)
  have hc := c_X9_in l G x0 0 19 _ ht4
  refine zgoR (va_runS (As := [.int x0, .int 0, .int 19]) (rest := []) S (hc _) (va_cwS 3 S.2.2.2.2 gX9_isLiteral_X9_in rfl rfl rfl (by decide +kernel) ⟨Nat.le_of_ble_eq_true rfl, Nat.le_of_ble_eq_true rfl⟩) (zpS hK hP hD (is := []) rfl rfl) rfl rfl hl.1 rfl (lv_room (Nat.le_of_ble_eq_true rfl)) dX9_isLiteral_4 ⟨Nat.zero_le _, Nat.zero_le _⟩) (fun hn4 => ?_)
  exact hret _ _ _ hE hn4 dX9_isLiteral_7

theorem zisLit9 {x : Int32} (c : ¬ FX9_isLiteral x = 0) : vp_in x 20 := zguard9 (k := 19) (N := 19) rfl (by decide) c

def rmX9_isTag : Room := { frames := 1, cells := 0, slots := 0, locals := 22 }
set_option maxHeartbeats 4000000 in
set_option maxRecDepth 100000 in
theorem c_X9_isTag (l : Launch) (G : zG) (x0 : Int32) (T : Int32) (hT : FX9_isTag x0 = T) : zR l yX9_isTag wsX9_isTag rmX9_isTag .boolean G [.int x0] [] T := by
  refine zR.mk (cc := cX9_isTag) (maxL := 1) (by decide +kernel) rfl (Nat.le_of_ble_eq_true rfl) ?_
  intro p e s m args below meth c Q A ls S hK hD hA hP hl hret
  have hx := S.1
  have hb := S.2.1
  have hl : lv_has ls 1 [(0, .int x0)] := hl
  have hE := hT.symm.trans (FX9_isTag.eq_1 _)
  refine lv_iload_n hx hb dX9_isTag_0 rfl (lv_at hl 0 rfl) ?_
  refine lv_iconst (v := 0) hx hb dX9_isTag_1 (by decide) ?_
  refine lv_iconst (v := 3) hx hb dX9_isTag_2 (by decide) ?_
  obtain ⟨t3, ht3⟩ : ∃ z, FX9_in x0 0 3 = z := ⟨_, rfl⟩
  have hE := hE.trans (bnd_eq ht3)
  have hc := c_X9_in l G x0 0 3 _ ht3
  refine zgoR (va_runS (As := [.int x0, .int 0, .int 3]) (rest := []) S (hc _) (va_cwS 3 S.2.2.2.2 gX9_isTag_X9_in rfl rfl rfl (by decide +kernel) ⟨Nat.le_of_ble_eq_true rfl, Nat.le_of_ble_eq_true rfl⟩) (zpS hK hP hD (is := []) rfl rfl) rfl rfl hl.1 rfl (lv_room (Nat.le_of_ble_eq_true rfl)) dX9_isTag_3 ⟨Nat.zero_le _, Nat.zero_le _⟩) (fun hn3 => ?_)
  exact hret _ _ _ hE hn3 dX9_isTag_6

theorem zisTag9 {x : Int32} (c : ¬ FX9_isTag x = 0) : vp_in x 4 := zguard9 (k := 3) (N := 3) rfl (by decide) c

theorem in_X9_tag_9 : ∀ w ∈ u_ws RX9 TX9 40, w ∈ wsX9_tag := by decide +kernel
def rmX9_tag : Room := { frames := 7, cells := 0, slots := 0, locals := 155 }
set_option maxHeartbeats 4000000 in
set_option maxRecDepth 100000 in
theorem c_X9_tag (l : Launch) (G : zG) (am : Nat → Nat) (bm : S9) (x1 : Int32) (x2 : Int32) (hz_m_rules : ∃ N : Nat, N ≤ 16 ∧ g9_rules bm = nI N) (T : Int32 × (Nat → Int32) × (Nat → Int32) × (Nat → Int32) × (Int32)) (hT : FX9_tag (g9_facts bm) (g9_rules bm) (g9_kind bm) (g9_head bm) (g9_body bm) (g9_except bm) (g9_strength bm) (g9_off bm) (g9_over bm) (g9_came bm) (g9_known bm) (g9_fresh bm) (g9_rounds bm) x1 x2 = T) : zI l yX9_tag wsX9_tag rmX9_tag .int G [.ref (am 0), .int x1, .int x2] [w9 G am bm] T.1 [w9 G am (s9_rounds (s9_fresh (s9_known (s9_came bm T.2.1) T.2.2.1) T.2.2.2.1) T.2.2.2.2)] := by
  refine zI.mk (cc := cX9_tag) (maxL := 3) (by decide +kernel) rfl (Nat.le_of_ble_eq_true rfl) (zfl_cons (wf9 _ _ _ _) rfl) ?_
  intro p e s m args below meth c Q A ls S hK hD hA hP hl hret
  have hx := S.1
  have hb := S.2.1
  have hS : va_S A s.heap s.heap [] := va_S.rf
  have hl : lv_has ls 3 [(0, .ref (am 0)), (1, .int x1), (2, .int x2)] := hl
  have hE := hT.symm.trans (FX9_tag.eq_1 _ _ _ _ _ _ _ _ _ _ _ _ _ _ _)
  refine lv_iload_n hx hb dX9_tag_0 rfl (lv_at hl 1 rfl) ?_
  obtain ⟨t1, ht1⟩ : ∃ z, FX9_isLiteral x1 = z := ⟨_, rfl⟩
  have hE := hE.trans (bnd_eq ht1)
  have hc := c_X9_isLiteral l G x1 _ ht1
  refine zgoR (va_runS (As := [.int x1]) (rest := []) S (hc _) (va_cwS 1 S.2.2.2.2 gX9_tag_X9_isLiteral rfl rfl rfl (by decide +kernel) ⟨Nat.le_of_ble_eq_true rfl, Nat.le_of_ble_eq_true rfl⟩) (zpS hK hP hD (is := []) rfl rfl) rfl rfl hl.1 rfl (lv_room (Nat.le_of_ble_eq_true rfl)) dX9_tag_1 ⟨Nat.zero_le _, Nat.zero_le _⟩) (fun hn1 => ?_)
  refine lv_if_eq (tgt := 14) hx hb dX9_tag_4 (by decide) (fun c4 => ?_) (fun c4 => ?_)
  · have hE := hE.trans (if_pos c4)
    refine lv_iconst (v := (-1)) hx hb dX9_tag_14 (by decide) ?_
    rw [show bm = (s9_rounds (s9_fresh (s9_known (s9_came bm (g9_came bm)) (g9_known bm)) (g9_fresh bm)) (g9_rounds bm)) from (((((se9_came _).symm).trans (((se9_known _).symm).trans (congrArg (fun v => s9_known (s9_came bm (g9_came bm)) v) (gs9_known_came _ (g9_came bm))))).trans (((se9_fresh _).symm).trans (congrArg (fun v => s9_fresh (s9_known (s9_came bm (g9_came bm)) (g9_known bm)) v) ((gs9_fresh_known _ (g9_known bm)).trans (gs9_fresh_came _ (g9_came bm)))))).trans (((se9_rounds _).symm).trans (congrArg (fun v => s9_rounds (s9_fresh (s9_known (s9_came bm (g9_came bm)) (g9_known bm)) (g9_fresh bm)) v) ((gs9_rounds_fresh _ (g9_fresh bm)).trans ((gs9_rounds_known _ (g9_known bm)).trans (gs9_rounds_came _ (g9_came bm)))))))] at hP hD
    exact hret _ _ _ _ _ _ (by subst hE; rfl) rfl hP hS dX9_tag_15
  · have hE := hE.trans (if_neg c4)
    have hx1_20 : vp_in x1 20 := zisLit9 (by rw [ht1]; exact c4)
    refine lv_iload_n hx hb dX9_tag_7 rfl (lv_at hl 2 rfl) ?_
    obtain ⟨t8, ht8⟩ : ∃ z, FX9_isTag x2 = z := ⟨_, rfl⟩
    have hE := hE.trans (bnd_eq ht8)
    have hc := c_X9_isTag l G x2 _ ht8
    refine zgoR (va_runS (As := [.int x2]) (rest := []) S (hc _) (va_cwS 1 S.2.2.2.2 gX9_tag_X9_isTag rfl rfl rfl (by decide +kernel) ⟨Nat.le_of_ble_eq_true rfl, Nat.le_of_ble_eq_true rfl⟩) (zpS hK hP hD (is := []) rfl rfl) rfl rfl hl.1 rfl (lv_room (Nat.le_of_ble_eq_true rfl)) dX9_tag_8 ⟨Nat.zero_le _, Nat.zero_le _⟩) (fun hn8 => ?_)
    refine lv_if_ne (tgt := 16) hx hb dX9_tag_11 (by decide) (fun c11 => ?_) (fun c11 => ?_)
    · have hE := hE.trans (if_neg c11)
      have hx2_4 : vp_in x2 4 := zisTag9 (by rw [ht8]; exact c11)
      refine lv_aload_n hx hb dX9_tag_16 rfl (lv_at hl 0 rfl) ?_
      obtain ⟨t17, ht17⟩ : ∃ z, FX9_tags (g9_facts bm) (g9_rules bm) (g9_kind bm) (g9_head bm) (g9_body bm) (g9_except bm) (g9_strength bm) (g9_off bm) (g9_over bm) (g9_came bm) (g9_known bm) (g9_fresh bm) (g9_rounds bm) = z := ⟨_, rfl⟩
      have hE := hE.trans (bnd_eq ht17)
      have hc := c_X9_tags l G am bm (hz_m_rules) _ ht17
      refine zgoV (bs' := [w9 G am (s9_rounds (s9_fresh (s9_known (s9_came bm t17.1) t17.2.1) t17.2.2.1) t17.2.2.2)]) hc [0] rfl rfl rfl hP hD hS hA (va_runV (As := []) (rest := []) S (hc.2 _) (cwV 0 S.2.2.2.2 gX9_tag_X9_tags rfl rfl rfl (by decide +kernel) ⟨Nat.le_of_ble_eq_true rfl, Nat.le_of_ble_eq_true rfl⟩) (zpV hK hP hD (is := [0]) rfl rfl 0 rfl rfl (ci := 9) rfl) rfl rfl hl.1 rfl (lv_room (Nat.le_of_ble_eq_true rfl)) dX9_tag_17 ⟨Nat.zero_le _, Nat.zero_le _⟩) (fun H locs hP hD hS => ?_)
      refine lv_aload_n hx hb dX9_tag_20 rfl (lv_at hl 0 rfl) ?_
      refine zg9_came S in_X9_tag_9 hK hP 0 rfl (List.mem_of_getElem? (i := 1) rfl) dX9_tag_21 ?_
      refine lv_bipush (v := 20) hx hb dX9_tag_24 (by decide) ?_
      refine lv_iload_n hx hb dX9_tag_26 rfl (lv_at hl 2 rfl) ?_
      refine lv_imul hx hb dX9_tag_27 ?_
      refine lv_iload_n hx hb dX9_tag_28 rfl (lv_at hl 1 rfl) ?_
      refine lv_iadd hx hb dX9_tag_29 ?_
      refine zl9_came S hK hP 0 rfl (zlinL 20 rfl hx2_4 hx1_20 (by decide) (by decide) (by decide) (by decide)) (f := t17.1) ((gs9_came_rounds _ t17.2.2.2).trans ((gs9_came_fresh _ t17.2.2.1).trans ((gs9_came_known _ t17.2.1).trans (gg9_came _ t17.1)))) dX9_tag_30 ?_
      exact hret _ _ _ _ _ _ (by subst hE; rfl) rfl hP hS dX9_tag_31
    · have hE := hE.trans (if_pos c11)
      refine lv_iconst (v := (-1)) hx hb dX9_tag_14 (by decide) ?_
      rw [show bm = (s9_rounds (s9_fresh (s9_known (s9_came bm (g9_came bm)) (g9_known bm)) (g9_fresh bm)) (g9_rounds bm)) from (((((se9_came _).symm).trans (((se9_known _).symm).trans (congrArg (fun v => s9_known (s9_came bm (g9_came bm)) v) (gs9_known_came _ (g9_came bm))))).trans (((se9_fresh _).symm).trans (congrArg (fun v => s9_fresh (s9_known (s9_came bm (g9_came bm)) (g9_known bm)) v) ((gs9_fresh_known _ (g9_known bm)).trans (gs9_fresh_came _ (g9_came bm)))))).trans (((se9_rounds _).symm).trans (congrArg (fun v => s9_rounds (s9_fresh (s9_known (s9_came bm (g9_came bm)) (g9_known bm)) (g9_fresh bm)) v) ((gs9_rounds_fresh _ (g9_fresh bm)).trans ((gs9_rounds_known _ (g9_known bm)).trans (gs9_rounds_came _ (g9_came bm)))))))] at hP hD
      exact hret _ _ _ _ _ _ (by subst hE; rfl) rfl hP hS dX9_tag_15

theorem in_X9_cameIn_9 : ∀ w ∈ u_ws RX9 TX9 40, w ∈ wsX9_cameIn := by decide +kernel
def rmX9_cameIn : Room := { frames := 0, cells := 0, slots := 0, locals := 0 }
set_option maxHeartbeats 4000000 in
set_option maxRecDepth 100000 in
theorem c_X9_cameIn (l : Launch) (G : zG) (am : Nat → Nat) (bm : S9) (x1 : Int32) (x2 : Int32) (x3 : Int32) (hx1_4 : vp_in x1 4) (T : Int32) (hT : FX9_cameIn (g9_came bm) x1 x2 x3 = T) : zR l yX9_cameIn wsX9_cameIn rmX9_cameIn .int G [.ref (am 0), .int x1, .int x2, .int x3] [w9 G am bm] T := by
  refine zR.mk (cc := cX9_cameIn) (maxL := 7) (by decide +kernel) rfl (Nat.le_of_ble_eq_true rfl) ?_
  intro p e s m args below meth c Q A ls S hK hD hA hP hl hret
  have hx := S.1
  have hb := S.2.1
  have hl : lv_has ls 7 [(0, .ref (am 0)), (1, .int x1), (2, .int x2), (3, .int x3)] := hl
  have hE := hT.symm.trans (FX9_cameIn.eq_1 _ _ _ _)
  refine lv_iconst (v := 0) hx hb dX9_cameIn_0 (by decide) ?_
  refine lv_istore (lv' := [(4, .int 0), (0, .ref (am 0)), (1, .int x1), (2, .int x2), (3, .int x3)]) hx hb dX9_cameIn_1 hl (by decide) rfl (fun ls hl => ?_)
  refine lv_iconst (v := 0) hx hb dX9_cameIn_3 (by decide) ?_
  have hB70 : ∀ (x4_70 : Int32) (ls : Array Slot), T = FX9_cameIn_70 (g9_came bm) x1 x2 x3 x4_70 → lv_has ls 7 [(4, .int x4_70)] → W p l e rmX9_cameIn s m args below meth c s.heap [] 0 0 Q (F0 m 70 ls []) := by
    intro x4_70 ls hE hl
    have hE := hE.trans (FX9_cameIn_70.eq_1 _ _ _ _ _)
    refine lv_iload hx hb dX9_cameIn_70 (lv_at hl 0 rfl) ?_
    exact hret _ _ _ hE rfl dX9_cameIn_72
  have hB6 : ∀ (n6 : Nat) (x4_6 : Int32) (i5_6 : Nat) (ls : Array Slot), (i5_6 ≤ 20) → 21 ≤ i5_6 + n6 → T = FX9_cameIn_6 (g9_came bm) x1 x2 x3 (FX9_cameIn_70 (g9_came bm) x1 x2 x3) n6 x4_6 (nI i5_6) → lv_has ls 7 [(0, .ref (am 0)), (1, .int x1), (2, .int x2), (3, .int x3), (4, .int x4_6), (5, .int (nI i5_6))] → W p l e rmX9_cameIn s m args below meth c s.heap [] 0 0 Q (F0 m 6 ls []) := by
    intro n6
    induction n6 with
    | zero =>
      intro x4_6 i5_6 ls hi5_6 hn hE hl
      exact absurd hn (by omega)
    | succ n6 ih6 =>
      intro x4_6 i5_6 ls hi5_6 hn hE hl
      have hE := hE.trans (FX9_cameIn_6.eq_2 _ _ _ _ _ _ _ _)
      refine lv_iload hx hb dX9_cameIn_6 (lv_at hl 5 rfl) ?_
      refine lv_bipush (v := 20) hx hb dX9_cameIn_8 (by decide) ?_
      refine lv_icmp_ge (tgt := 70) hx hb dX9_cameIn_10 (by decide) (fun c10 => ?_) (fun c10 => ?_)
      · have hE := hE.trans (if_pos c10)
        exact hB70 x4_6 _ hE (lv_sub hl [4] rfl)
      · have hE := hE.trans (if_neg c10)
        have hl5_6 : i5_6 < 20 := zlt (N := 20) rfl (by omega) (by omega) c10
        refine lv_aload_n hx hb dX9_cameIn_13 rfl (lv_at hl 0 rfl) ?_
        refine zg9_came S in_X9_cameIn_9 hK hP 0 rfl (List.mem_of_getElem? (i := 1) rfl) dX9_cameIn_14 ?_
        refine lv_bipush (v := 20) hx hb dX9_cameIn_17 (by decide) ?_
        refine lv_iload_n hx hb dX9_cameIn_19 rfl (lv_at hl 1 rfl) ?_
        refine lv_imul hx hb dX9_cameIn_20 ?_
        refine lv_iload hx hb dX9_cameIn_21 (lv_at hl 5 rfl) ?_
        refine lv_iadd hx hb dX9_cameIn_23 ?_
        refine zl9_came S hK hP 0 rfl (zlinL 20 rfl hx1_4 (B := 20) (vp_in_nI (by omega) (by omega)) (by decide) (by decide) (by decide) (by decide)) (f := (g9_came bm)) rfl dX9_cameIn_24 ?_
        refine lv_istore (lv' := [(6, .int ((g9_came bm) ((20 * x1) + (nI i5_6)).toNatClampNeg)), (0, .ref (am 0)), (1, .int x1), (2, .int x2), (3, .int x3), (4, .int x4_6), (5, .int (nI i5_6))]) hx hb dX9_cameIn_25 hl (by decide) rfl (fun ls hl => ?_)
        refine lv_iload hx hb dX9_cameIn_27 (lv_at hl 5 rfl) ?_
        refine lv_iload hx hb dX9_cameIn_29 (lv_at hl 0 rfl) ?_
        have hB60 : ∀ (ls : Array Slot), T = FX9_cameIn_60 (g9_came bm) x1 x2 x3 (fun x4_6' x5_6' => FX9_cameIn_6 (g9_came bm) x1 x2 x3 (FX9_cameIn_70 (g9_came bm) x1 x2 x3) n6 x4_6' x5_6') (FX9_cameIn_70 (g9_came bm) x1 x2 x3) (nI i5_6) x4_6 → lv_has ls 7 [(0, .ref (am 0)), (1, .int x1), (2, .int x2), (3, .int x3), (5, .int (nI i5_6))] → W p l e rmX9_cameIn s m args below meth c s.heap [] 0 0 Q (F0 m 60 ls [.int x4_6]) := by
          intro ls hE hl
          have hE := hE.trans (FX9_cameIn_60.eq_1 _ _ _ _ _ _ _ _)
          refine lv_iconst (v := 0) hx hb dX9_cameIn_60 (by decide) ?_
          refine lv_ior hx hb dX9_cameIn_61 ?_
          refine lv_istore (lv' := [(4, .int (x4_6 ||| 0)), (0, .ref (am 0)), (1, .int x1), (2, .int x2), (3, .int x3), (5, .int (nI i5_6))]) hx hb dX9_cameIn_62 hl (by decide) rfl (fun ls hl => ?_)
          refine lv_iinc (v := (nI (i5_6 + 1))) (lv' := [(5, .int (nI (i5_6 + 1))), (4, .int (x4_6 ||| 0)), (0, .ref (am 0)), (1, .int x1), (2, .int x2), (3, .int x3)]) hx hb dX9_cameIn_64 hl (k := 5) rfl (nI_1 i5_6) (by decide) rfl (fun ls hl => ?_)
          try rw [nI_1 i5_6] at hE
          refine lv_goto (tgt := 6) hx hb dX9_cameIn_67 (by decide) ?_
          exact ih6 (x4_6 ||| 0) (i5_6 + 1) _ (by first | assumption | omega) (by omega) hE (lv_sub hl [2, 3, 4, 5, 1, 0] rfl)
        refine lv_if_le (tgt := 60) hx hb dX9_cameIn_31 (by decide) (fun c31 => ?_) (fun c31 => ?_)
        · have hE := hE.trans (if_pos c31)
          exact hB60 _ hE (lv_sub hl [1, 2, 3, 4, 6] rfl)
        · have hE := hE.trans (if_neg c31)
          refine lv_iload_n hx hb dX9_cameIn_34 rfl (lv_at hl 4 rfl) ?_
          have hB53 : ∀ (ls : Array Slot), T = FX9_cameIn_53 (g9_came bm) x1 x2 x3 (fun x4_6' x5_6' => FX9_cameIn_6 (g9_came bm) x1 x2 x3 (FX9_cameIn_70 (g9_came bm) x1 x2 x3) n6 x4_6' x5_6') (FX9_cameIn_70 (g9_came bm) x1 x2 x3) (nI i5_6) x4_6 → lv_has ls 7 [(0, .ref (am 0)), (1, .int x1), (2, .int x2), (3, .int x3), (5, .int (nI i5_6))] → W p l e rmX9_cameIn s m args below meth c s.heap [] 0 0 Q (F0 m 53 ls [.int x4_6]) := by
            intro ls hE hl
            have hE := hE.trans (FX9_cameIn_53.eq_1 _ _ _ _ _ _ _ _)
            refine lv_iconst (v := 1) hx hb dX9_cameIn_53 (by decide) ?_
            refine lv_iload hx hb dX9_cameIn_54 (lv_at hl 4 rfl) ?_
            refine lv_ishl hx hb dX9_cameIn_56 ?_
            refine lv_goto (tgt := 61) hx hb dX9_cameIn_57 (by decide) ?_
            refine lv_ior hx hb dX9_cameIn_61 ?_
            refine lv_istore (lv' := [(4, .int (x4_6 ||| (1 <<< ((nI i5_6) &&& 31)))), (0, .ref (am 0)), (1, .int x1), (2, .int x2), (3, .int x3), (5, .int (nI i5_6))]) hx hb dX9_cameIn_62 hl (by decide) rfl (fun ls hl => ?_)
            refine lv_iinc (v := (nI (i5_6 + 1))) (lv' := [(5, .int (nI (i5_6 + 1))), (4, .int (x4_6 ||| (1 <<< ((nI i5_6) &&& 31)))), (0, .ref (am 0)), (1, .int x1), (2, .int x2), (3, .int x3)]) hx hb dX9_cameIn_64 hl (k := 5) rfl (nI_1 i5_6) (by decide) rfl (fun ls hl => ?_)
            try rw [nI_1 i5_6] at hE
            refine lv_goto (tgt := 6) hx hb dX9_cameIn_67 (by decide) ?_
            exact ih6 (x4_6 ||| (1 <<< ((nI i5_6) &&& 31))) (i5_6 + 1) _ (by first | assumption | omega) (by omega) hE (lv_sub hl [2, 3, 4, 5, 1, 0] rfl)
          refine lv_if_eq (tgt := 47) hx hb dX9_cameIn_35 (by decide) (fun c35 => ?_) (fun c35 => ?_)
          · have hE := hE.trans (if_pos c35)
            refine lv_iload hx hb dX9_cameIn_47 (lv_at hl 0 rfl) ?_
            refine lv_iload_n hx hb dX9_cameIn_49 rfl (lv_at hl 3 rfl) ?_
            refine lv_icmp_ne (tgt := 60) hx hb dX9_cameIn_50 (by decide) (fun c50 => ?_) (fun c50 => ?_)
            · have hE := hE.trans (if_neg c50)
              exact hB60 _ hE (lv_sub hl [1, 2, 3, 4, 6] rfl)
            · have hE := hE.trans (if_pos c50)
              exact hB53 _ hE (lv_sub hl [1, 2, 3, 4, 6] rfl)
          · have hE := hE.trans (if_neg c35)
            refine lv_iload hx hb dX9_cameIn_38 (lv_at hl 0 rfl) ?_
            refine lv_iload_n hx hb dX9_cameIn_40 rfl (lv_at hl 3 rfl) ?_
            refine lv_icmp_ge (tgt := 60) hx hb dX9_cameIn_41 (by decide) (fun c41 => ?_) (fun c41 => ?_)
            · have hE := hE.trans (if_pos c41)
              exact hB60 _ hE (lv_sub hl [1, 2, 3, 4, 6] rfl)
            · have hE := hE.trans (if_neg c41)
              refine lv_goto (tgt := 53) hx hb dX9_cameIn_44 (by decide) ?_
              exact hB53 _ hE (lv_sub hl [1, 2, 3, 4, 6] rfl)
  refine lv_istore (lv' := [(5, .int 0), (4, .int 0), (0, .ref (am 0)), (1, .int x1), (2, .int x2), (3, .int x3)]) hx hb dX9_cameIn_4 hl (by decide) rfl (fun ls hl => ?_)
  exact hB6 21 0 0 _ (by first | assumption | omega) (by omega) hE (lv_sub hl [2, 3, 4, 5, 1, 0] rfl)

theorem in_X9_tagged_9 : ∀ w ∈ u_ws RX9 TX9 40, w ∈ wsX9_tagged := by decide +kernel
def rmX9_tagged : Room := { frames := 7, cells := 0, slots := 0, locals := 155 }
set_option maxHeartbeats 4000000 in
set_option maxRecDepth 100000 in
theorem c_X9_tagged (l : Launch) (G : zG) (am : Nat → Nat) (bm : S9) (x1 : Int32) (x2 : Int32) (hz_m_rules : ∃ N : Nat, N ≤ 16 ∧ g9_rules bm = nI N) (T : Int32 × (Nat → Int32) × (Nat → Int32) × (Nat → Int32) × (Int32)) (hT : FX9_tagged (g9_facts bm) (g9_rules bm) (g9_kind bm) (g9_head bm) (g9_body bm) (g9_except bm) (g9_strength bm) (g9_off bm) (g9_over bm) (g9_came bm) (g9_known bm) (g9_fresh bm) (g9_rounds bm) x1 x2 = T) : zI l yX9_tagged wsX9_tagged rmX9_tagged .int G [.ref (am 0), .int x1, .int x2] [w9 G am bm] T.1 [w9 G am (s9_rounds (s9_fresh (s9_known (s9_came bm T.2.1) T.2.2.1) T.2.2.2.1) T.2.2.2.2)] := by
  refine zI.mk (cc := cX9_tagged) (maxL := 3) (by decide +kernel) rfl (Nat.le_of_ble_eq_true rfl) (zfl_cons (wf9 _ _ _ _) rfl) ?_
  intro p e s m args below meth c Q A ls S hK hD hA hP hl hret
  have hx := S.1
  have hb := S.2.1
  have hS : va_S A s.heap s.heap [] := va_S.rf
  have hl : lv_has ls 3 [(0, .ref (am 0)), (1, .int x1), (2, .int x2)] := hl
  have hE := hT.symm.trans (FX9_tagged.eq_1 _ _ _ _ _ _ _ _ _ _ _ _ _ _ _)
  refine lv_iload_n hx hb dX9_tagged_0 rfl (lv_at hl 1 rfl) ?_
  obtain ⟨t1, ht1⟩ : ∃ z, FX9_isTag x1 = z := ⟨_, rfl⟩
  have hE := hE.trans (bnd_eq ht1)
  have hc := c_X9_isTag l G x1 _ ht1
  refine zgoR (va_runS (As := [.int x1]) (rest := []) S (hc _) (va_cwS 1 S.2.2.2.2 gX9_tagged_X9_isTag rfl rfl rfl (by decide +kernel) ⟨Nat.le_of_ble_eq_true rfl, Nat.le_of_ble_eq_true rfl⟩) (zpS hK hP hD (is := []) rfl rfl) rfl rfl hl.1 rfl (lv_room (Nat.le_of_ble_eq_true rfl)) dX9_tagged_1 ⟨Nat.zero_le _, Nat.zero_le _⟩) (fun hn1 => ?_)
  refine lv_if_eq (tgt := 11) hx hb dX9_tagged_4 (by decide) (fun c4 => ?_) (fun c4 => ?_)
  · have hE := hE.trans (if_pos c4)
    refine lv_iconst (v := (-1)) hx hb dX9_tagged_11 (by decide) ?_
    rw [show bm = (s9_rounds (s9_fresh (s9_known (s9_came bm (g9_came bm)) (g9_known bm)) (g9_fresh bm)) (g9_rounds bm)) from (((((se9_came _).symm).trans (((se9_known _).symm).trans (congrArg (fun v => s9_known (s9_came bm (g9_came bm)) v) (gs9_known_came _ (g9_came bm))))).trans (((se9_fresh _).symm).trans (congrArg (fun v => s9_fresh (s9_known (s9_came bm (g9_came bm)) (g9_known bm)) v) ((gs9_fresh_known _ (g9_known bm)).trans (gs9_fresh_came _ (g9_came bm)))))).trans (((se9_rounds _).symm).trans (congrArg (fun v => s9_rounds (s9_fresh (s9_known (s9_came bm (g9_came bm)) (g9_known bm)) (g9_fresh bm)) v) ((gs9_rounds_fresh _ (g9_fresh bm)).trans ((gs9_rounds_known _ (g9_known bm)).trans (gs9_rounds_came _ (g9_came bm)))))))] at hP hD
    exact hret _ _ _ _ _ _ (by subst hE; rfl) rfl hP hS dX9_tagged_12
  · have hE := hE.trans (if_neg c4)
    have hx1_4 : vp_in x1 4 := zisTag9 (by rw [ht1]; exact c4)
    refine lv_iload_n hx hb dX9_tagged_7 rfl (lv_at hl 2 rfl) ?_
    refine lv_if_ge (tgt := 13) hx hb dX9_tagged_8 (by decide) (fun c8 => ?_) (fun c8 => ?_)
    · have hE := hE.trans (if_pos c8)
      refine lv_aload_n hx hb dX9_tagged_13 rfl (lv_at hl 0 rfl) ?_
      obtain ⟨t14, ht14⟩ : ∃ z, FX9_tags (g9_facts bm) (g9_rules bm) (g9_kind bm) (g9_head bm) (g9_body bm) (g9_except bm) (g9_strength bm) (g9_off bm) (g9_over bm) (g9_came bm) (g9_known bm) (g9_fresh bm) (g9_rounds bm) = z := ⟨_, rfl⟩
      have hE := hE.trans (bnd_eq ht14)
      have hc := c_X9_tags l G am bm (hz_m_rules) _ ht14
      refine zgoV (bs' := [w9 G am (s9_rounds (s9_fresh (s9_known (s9_came bm t14.1) t14.2.1) t14.2.2.1) t14.2.2.2)]) hc [0] rfl rfl rfl hP hD hS hA (va_runV (As := []) (rest := []) S (hc.2 _) (cwV 0 S.2.2.2.2 gX9_tagged_X9_tags rfl rfl rfl (by decide +kernel) ⟨Nat.le_of_ble_eq_true rfl, Nat.le_of_ble_eq_true rfl⟩) (zpV hK hP hD (is := [0]) rfl rfl 0 rfl rfl (ci := 9) rfl) rfl rfl hl.1 rfl (lv_room (Nat.le_of_ble_eq_true rfl)) dX9_tagged_14 ⟨Nat.zero_le _, Nat.zero_le _⟩) (fun H locs hP hD hS => ?_)
      refine lv_iload_n hx hb dX9_tagged_17 rfl (lv_at hl 2 rfl) ?_
      refine lv_if_ne (tgt := 30) hx hb dX9_tagged_18 (by decide) (fun c18 => ?_) (fun c18 => ?_)
      · have hE := hE.trans (if_neg c18)
        refine lv_aload_n hx hb dX9_tagged_30 rfl (lv_at hl 0 rfl) ?_
        refine lv_iload_n hx hb dX9_tagged_31 rfl (lv_at hl 1 rfl) ?_
        refine lv_iload_n hx hb dX9_tagged_32 rfl (lv_at hl 2 rfl) ?_
        refine lv_iconst (v := 0) hx hb dX9_tagged_33 (by decide) ?_
        obtain ⟨t34, ht34⟩ : ∃ z, FX9_cameIn t14.1 x1 x2 0 = z := ⟨_, rfl⟩
        have hE := hE.trans (bnd_eq ht34)
        have hc := c_X9_cameIn l G am (s9_rounds (s9_fresh (s9_known (s9_came bm t14.1) t14.2.1) t14.2.2.1) t14.2.2.2) x1 x2 0 (hx1_4) _ (by simp only [gs9_came_rounds, gs9_came_fresh, gs9_came_known, gg9_came]; exact ht34)
        refine zgoR (va_runV (As := [.int x1, .int x2, .int 0]) (rest := []) S (hc _) (cwV 3 S.2.2.2.2 gX9_tagged_X9_cameIn rfl rfl rfl (by decide +kernel) ⟨Nat.le_of_ble_eq_true rfl, Nat.le_of_ble_eq_true rfl⟩) (zpV hK hP hD (is := [0]) rfl rfl 0 rfl rfl (ci := 9) rfl) rfl rfl hl.1 rfl (lv_room (Nat.le_of_ble_eq_true rfl)) dX9_tagged_34 ⟨Nat.zero_le _, Nat.zero_le _⟩) (fun hn34 => ?_)
        exact hret _ _ _ _ _ _ (by subst hE; rfl) rfl hP hS dX9_tagged_37
      · have hE := hE.trans (if_pos c18)
        refine lv_aload_n hx hb dX9_tagged_21 rfl (lv_at hl 0 rfl) ?_
        refine zg9_known S in_X9_tagged_9 hK hP 0 rfl (List.mem_of_getElem? (i := 1) rfl) dX9_tagged_22 ?_
        refine lv_iload_n hx hb dX9_tagged_25 rfl (lv_at hl 1 rfl) ?_
        refine zl9_known S hK hP 0 rfl hx1_4 (f := t14.2.1) ((gs9_known_rounds _ t14.2.2.2).trans ((gs9_known_fresh _ t14.2.2.1).trans (gg9_known _ t14.2.1))) dX9_tagged_26 ?_
        refine lv_goto (tgt := 37) hx hb dX9_tagged_27 (by decide) ?_
        exact hret _ _ _ _ _ _ (by subst hE; rfl) rfl hP hS dX9_tagged_37
    · have hE := hE.trans (if_neg c8)
      refine lv_iconst (v := (-1)) hx hb dX9_tagged_11 (by decide) ?_
      rw [show bm = (s9_rounds (s9_fresh (s9_known (s9_came bm (g9_came bm)) (g9_known bm)) (g9_fresh bm)) (g9_rounds bm)) from (((((se9_came _).symm).trans (((se9_known _).symm).trans (congrArg (fun v => s9_known (s9_came bm (g9_came bm)) v) (gs9_known_came _ (g9_came bm))))).trans (((se9_fresh _).symm).trans (congrArg (fun v => s9_fresh (s9_known (s9_came bm (g9_came bm)) (g9_known bm)) v) ((gs9_fresh_known _ (g9_known bm)).trans (gs9_fresh_came _ (g9_came bm)))))).trans (((se9_rounds _).symm).trans (congrArg (fun v => s9_rounds (s9_fresh (s9_known (s9_came bm (g9_came bm)) (g9_known bm)) (g9_fresh bm)) v) ((gs9_rounds_fresh _ (g9_fresh bm)).trans ((gs9_rounds_known _ (g9_known bm)).trans (gs9_rounds_came _ (g9_came bm)))))))] at hP hD
      exact hret _ _ _ _ _ _ (by subst hE; rfl) rfl hP hS dX9_tagged_12

theorem in_X9_isRule_9 : ∀ w ∈ u_ws RX9 TX9 40, w ∈ wsX9_isRule := by decide +kernel
def rmX9_isRule : Room := { frames := 1, cells := 0, slots := 0, locals := 22 }
set_option maxHeartbeats 4000000 in
set_option maxRecDepth 100000 in
theorem c_X9_isRule (l : Launch) (G : zG) (am : Nat → Nat) (bm : S9) (x1 : Int32) (T : Int32) (hT : FX9_isRule (g9_rules bm) x1 = T) : zR l yX9_isRule wsX9_isRule rmX9_isRule .boolean G [.ref (am 0), .int x1] [w9 G am bm] T := by
  refine zR.mk (cc := cX9_isRule) (maxL := 2) (by decide +kernel) rfl (Nat.le_of_ble_eq_true rfl) ?_
  intro p e s m args below meth c Q A ls S hK hD hA hP hl hret
  have hx := S.1
  have hb := S.2.1
  have hl : lv_has ls 2 [(0, .ref (am 0)), (1, .int x1)] := hl
  have hE := hT.symm.trans (FX9_isRule.eq_1 _ _)
  refine lv_iload_n hx hb dX9_isRule_0 rfl (lv_at hl 1 rfl) ?_
  refine lv_iconst (v := 0) hx hb dX9_isRule_1 (by decide) ?_
  refine lv_aload_n hx hb dX9_isRule_2 rfl (lv_at hl 0 rfl) ?_
  refine zg9_rules S in_X9_isRule_9 hK hP 0 rfl (List.mem_of_getElem? (i := 1) rfl) (v := (g9_rules bm)) rfl dX9_isRule_3 ?_
  refine lv_iconst (v := 1) hx hb dX9_isRule_6 (by decide) ?_
  refine lv_isub hx hb dX9_isRule_7 ?_
  obtain ⟨t8, ht8⟩ : ∃ z, FX9_in x1 0 ((g9_rules bm) - 1) = z := ⟨_, rfl⟩
  have hE := hE.trans (bnd_eq ht8)
  have hc := c_X9_in l G x1 0 ((g9_rules bm) - 1) _ ht8
  refine zgoR (va_runS (As := [.int x1, .int 0, .int ((g9_rules bm) - 1)]) (rest := []) S (hc _) (va_cwS 3 S.2.2.2.2 gX9_isRule_X9_in rfl rfl rfl (by decide +kernel) ⟨Nat.le_of_ble_eq_true rfl, Nat.le_of_ble_eq_true rfl⟩) (zpS hK hP hD (is := []) rfl rfl) rfl rfl hl.1 rfl (lv_room (Nat.le_of_ble_eq_true rfl)) dX9_isRule_8 ⟨Nat.zero_le _, Nat.zero_le _⟩) (fun hn8 => ?_)
  exact hret _ _ _ hE hn8 dX9_isRule_11

theorem zisRule {s x : Int32} (h : ∃ N : Nat, N ≤ 16 ∧ s = nI N) (c : ¬ FX9_isRule s x = 0) : vp_in x 16 := by
  obtain ⟨N, h1, rfl⟩ := h
  rcases Nat.eq_zero_or_pos N with rfl | h0
  · exfalso
    apply c
    show (if x < 0 then (0 : Int32) else if nI 0 - 1 < x then 0 else 1) = 0
    by_cases h2 : x < 0
    · rw [if_pos h2]
    · rw [if_neg h2]
      have : nI 0 - 1 < x := by
        obtain ⟨j, hj, rfl⟩ := nI_of h2
        rw [Int32.lt_iff_toInt_lt, nI_toInt hj, show (nI 0 - 1).toInt = -1 from by decide]
        omega
      rw [if_pos this]
  · have h2 := zguard9 (k := nI N - 1) (N := N - 1) (by rw [show (1 : Int32) = nI 1 from rfl, pk_sub (by omega)]) (by omega) c
    exact zup h2 (by omega)

def rmX9_state : Room := { frames := 7, cells := 0, slots := 0, locals := 155 }
set_option maxHeartbeats 4000000 in
set_option maxRecDepth 100000 in
theorem c_X9_state (l : Launch) (G : zG) (am : Nat → Nat) (bm : S9) (x1 : Int32) (hz_m_rules : ∃ N : Nat, N ≤ 16 ∧ g9_rules bm = nI N) (T : Int32 × (Nat → Int32) × (Nat → Int32) × (Nat → Int32) × (Int32)) (hT : FX9_state (g9_facts bm) (g9_rules bm) (g9_kind bm) (g9_head bm) (g9_body bm) (g9_except bm) (g9_strength bm) (g9_off bm) (g9_over bm) (g9_came bm) (g9_known bm) (g9_fresh bm) (g9_rounds bm) x1 = T) : zI l yX9_state wsX9_state rmX9_state .int G [.ref (am 0), .int x1] [w9 G am bm] T.1 [w9 G am (s9_rounds (s9_fresh (s9_known (s9_came bm T.2.1) T.2.2.1) T.2.2.2.1) T.2.2.2.2)] := by
  refine zI.mk (cc := cX9_state) (maxL := 2) (by decide +kernel) rfl (Nat.le_of_ble_eq_true rfl) (zfl_cons (wf9 _ _ _ _) rfl) ?_
  intro p e s m args below meth c Q A ls S hK hD hA hP hl hret
  have hx := S.1
  have hb := S.2.1
  have hS : va_S A s.heap s.heap [] := va_S.rf
  have hl : lv_has ls 2 [(0, .ref (am 0)), (1, .int x1)] := hl
  have hE := hT.symm.trans (FX9_state.eq_1 _ _ _ _ _ _ _ _ _ _ _ _ _ _)
  refine lv_aload_n hx hb dX9_state_0 rfl (lv_at hl 0 rfl) ?_
  refine lv_iload_n hx hb dX9_state_1 rfl (lv_at hl 1 rfl) ?_
  obtain ⟨t2, ht2⟩ : ∃ z, FX9_isRule (g9_rules bm) x1 = z := ⟨_, rfl⟩
  have hE := hE.trans (bnd_eq ht2)
  have hc := c_X9_isRule l G am bm x1 _ ht2
  refine zgoR (va_runV (As := [.int x1]) (rest := []) S (hc _) (cwV 1 S.2.2.2.2 gX9_state_X9_isRule rfl rfl rfl (by decide +kernel) ⟨Nat.le_of_ble_eq_true rfl, Nat.le_of_ble_eq_true rfl⟩) (zpV hK hP hD (is := [0]) rfl rfl 0 rfl rfl (ci := 9) rfl) rfl rfl hl.1 rfl (lv_room (Nat.le_of_ble_eq_true rfl)) dX9_state_2 ⟨Nat.zero_le _, Nat.zero_le _⟩) (fun hn2 => ?_)
  refine lv_if_ne (tgt := 10) hx hb dX9_state_5 (by decide) (fun c5 => ?_) (fun c5 => ?_)
  · have hE := hE.trans (if_neg c5)
    have hx1_16 : vp_in x1 16 := zisRule hz_m_rules (by rw [ht2]; exact c5)
    refine lv_aload_n hx hb dX9_state_10 rfl (lv_at hl 0 rfl) ?_
    obtain ⟨t11, ht11⟩ : ∃ z, FX9_tags (g9_facts bm) (g9_rules bm) (g9_kind bm) (g9_head bm) (g9_body bm) (g9_except bm) (g9_strength bm) (g9_off bm) (g9_over bm) (g9_came bm) (g9_known bm) (g9_fresh bm) (g9_rounds bm) = z := ⟨_, rfl⟩
    have hE := hE.trans (bnd_eq ht11)
    have hc := c_X9_tags l G am bm (hz_m_rules) _ ht11
    refine zgoV (bs' := [w9 G am (s9_rounds (s9_fresh (s9_known (s9_came bm t11.1) t11.2.1) t11.2.2.1) t11.2.2.2)]) hc [0] rfl rfl rfl hP hD hS hA (va_runV (As := []) (rest := []) S (hc.2 _) (cwV 0 S.2.2.2.2 gX9_state_X9_tags rfl rfl rfl (by decide +kernel) ⟨Nat.le_of_ble_eq_true rfl, Nat.le_of_ble_eq_true rfl⟩) (zpV hK hP hD (is := [0]) rfl rfl 0 rfl rfl (ci := 9) rfl) rfl rfl hl.1 rfl (lv_room (Nat.le_of_ble_eq_true rfl)) dX9_state_11 ⟨Nat.zero_le _, Nat.zero_le _⟩) (fun H locs hP hD hS => ?_)
    refine lv_aload_n hx hb dX9_state_14 rfl (lv_at hl 0 rfl) ?_
    refine lv_iload_n hx hb dX9_state_15 rfl (lv_at hl 1 rfl) ?_
    obtain ⟨t16, ht16⟩ : ∃ z, FX9_applies (g9_body bm) (g9_except bm) t11.2.1 x1 = z := ⟨_, rfl⟩
    have hE := hE.trans (bnd_eq ht16)
    have hc := c_X9_applies l G am (s9_rounds (s9_fresh (s9_known (s9_came bm t11.1) t11.2.1) t11.2.2.1) t11.2.2.2) x1 (hx1_16) _ (by simp only [gs9_body_rounds, gs9_body_fresh, gs9_body_known, gs9_body_came, gs9_except_rounds, gs9_except_fresh, gs9_except_known, gs9_except_came, gs9_known_rounds, gs9_known_fresh, gg9_known]; exact ht16)
    refine zgoR (va_runV (As := [.int x1]) (rest := []) S (hc _) (cwV 1 S.2.2.2.2 gX9_state_X9_applies rfl rfl rfl (by decide +kernel) ⟨Nat.le_of_ble_eq_true rfl, Nat.le_of_ble_eq_true rfl⟩) (zpV hK hP hD (is := [0]) rfl rfl 0 rfl rfl (ci := 9) rfl) rfl rfl hl.1 rfl (lv_room (Nat.le_of_ble_eq_true rfl)) dX9_state_16 ⟨Nat.zero_le _, Nat.zero_le _⟩) (fun hn16 => ?_)
    have hB27 : ∀ (k0_27 : Int32) (H : Heap) (locs : List Loc) (ls : Array Slot), T = FX9_state_27 (g9_facts bm) (g9_rules bm) (g9_kind bm) (g9_head bm) (g9_body bm) (g9_except bm) (g9_strength bm) (g9_off bm) (g9_over bm) (g9_came bm) (g9_known bm) (g9_fresh bm) (g9_rounds bm) x1 k0_27 t11.1 t11.2.1 t11.2.2.1 t11.2.2.2 → zP G [w9 G am (s9_rounds (s9_fresh (s9_known (s9_came bm t11.1) t11.2.1) t11.2.2.1) t11.2.2.2)] H → zD A [w9 G am (s9_rounds (s9_fresh (s9_known (s9_came bm t11.1) t11.2.1) t11.2.2.1) t11.2.2.2)] → va_S A s.heap H locs → lv_has ls 2 [(0, .ref (am 0)), (1, .int x1)] → W p l e rmX9_state s m args below meth c H locs 0 0 Q (F0 m 27 ls [.int k0_27]) := by
      intro k0_27 H locs ls hE hP hD hS hl
      have hE := hE.trans (FX9_state_27.eq_1 _ _ _ _ _ _ _ _ _ _ _ _ _ _ _ _ _ _ _)
      refine lv_aload_n hx hb dX9_state_27 rfl (lv_at hl 0 rfl) ?_
      refine lv_iload_n hx hb dX9_state_28 rfl (lv_at hl 1 rfl) ?_
      obtain ⟨t29, ht29⟩ : ∃ z, FX9_falls (g9_body bm) (g9_except bm) t11.2.1 x1 = z := ⟨_, rfl⟩
      have hE := hE.trans (bnd_eq ht29)
      have hc := c_X9_falls l G am (s9_rounds (s9_fresh (s9_known (s9_came bm t11.1) t11.2.1) t11.2.2.1) t11.2.2.2) x1 (hx1_16) _ (by simp only [gs9_body_rounds, gs9_body_fresh, gs9_body_known, gs9_body_came, gs9_except_rounds, gs9_except_fresh, gs9_except_known, gs9_except_came, gs9_known_rounds, gs9_known_fresh, gg9_known]; exact ht29)
      refine zgoR (va_runV (As := [.int x1]) (rest := [.int k0_27]) S (hc _) (cwV 1 S.2.2.2.2 gX9_state_X9_falls rfl rfl rfl (by decide +kernel) ⟨Nat.le_of_ble_eq_true rfl, Nat.le_of_ble_eq_true rfl⟩) (zpV hK hP hD (is := [0]) rfl rfl 0 rfl rfl (ci := 9) rfl) rfl rfl hl.1 rfl (lv_room (Nat.le_of_ble_eq_true rfl)) dX9_state_29 ⟨Nat.zero_le _, Nat.zero_le _⟩) (fun hn29 => ?_)
      refine lv_if_eq (tgt := 39) hx hb dX9_state_32 (by decide) (fun c32 => ?_) (fun c32 => ?_)
      · have hE := hE.trans (if_pos c32)
        refine lv_iconst (v := 0) hx hb dX9_state_39 (by decide) ?_
        refine lv_iadd hx hb dX9_state_40 ?_
        exact hret _ _ _ _ _ _ (by subst hE; rfl) rfl hP hS dX9_state_41
      · have hE := hE.trans (if_neg c32)
        refine lv_iconst (v := 2) hx hb dX9_state_35 (by decide) ?_
        refine lv_goto (tgt := 40) hx hb dX9_state_36 (by decide) ?_
        refine lv_iadd hx hb dX9_state_40 ?_
        exact hret _ _ _ _ _ _ (by subst hE; rfl) rfl hP hS dX9_state_41
    refine lv_if_eq (tgt := 26) hx hb dX9_state_19 (by decide) (fun c19 => ?_) (fun c19 => ?_)
    · have hE := hE.trans (if_pos c19)
      refine lv_iconst (v := 0) hx hb dX9_state_26 (by decide) ?_
      exact hB27 0 _ _ _ hE hP hD hS (lv_sub hl [0, 1] rfl)
    · have hE := hE.trans (if_neg c19)
      refine lv_iconst (v := 1) hx hb dX9_state_22 (by decide) ?_
      refine lv_goto (tgt := 27) hx hb dX9_state_23 (by decide) ?_
      exact hB27 1 _ _ _ hE hP hD hS (lv_sub hl [0, 1] rfl)
  · have hE := hE.trans (if_pos c5)
    refine lv_iconst (v := (-1)) hx hb dX9_state_8 (by decide) ?_
    rw [show bm = (s9_rounds (s9_fresh (s9_known (s9_came bm (g9_came bm)) (g9_known bm)) (g9_fresh bm)) (g9_rounds bm)) from (((((se9_came _).symm).trans (((se9_known _).symm).trans (congrArg (fun v => s9_known (s9_came bm (g9_came bm)) v) (gs9_known_came _ (g9_came bm))))).trans (((se9_fresh _).symm).trans (congrArg (fun v => s9_fresh (s9_known (s9_came bm (g9_came bm)) (g9_known bm)) v) ((gs9_fresh_known _ (g9_known bm)).trans (gs9_fresh_came _ (g9_came bm)))))).trans (((se9_rounds _).symm).trans (congrArg (fun v => s9_rounds (s9_fresh (s9_known (s9_came bm (g9_came bm)) (g9_known bm)) (g9_fresh bm)) v) ((gs9_rounds_fresh _ (g9_fresh bm)).trans ((gs9_rounds_known _ (g9_known bm)).trans (gs9_rounds_came _ (g9_came bm)))))))] at hP hD
    exact hret _ _ _ _ _ _ (by subst hE; rfl) rfl hP hS dX9_state_9

def rmX9_isBit : Room := { frames := 1, cells := 0, slots := 0, locals := 22 }
set_option maxHeartbeats 4000000 in
set_option maxRecDepth 100000 in
theorem c_X9_isBit (l : Launch) (G : zG) (x0 : Int32) (T : Int32) (hT : FX9_isBit x0 = T) : zR l yX9_isBit wsX9_isBit rmX9_isBit .boolean G [.int x0] [] T := by
  refine zR.mk (cc := cX9_isBit) (maxL := 1) (by decide +kernel) rfl (Nat.le_of_ble_eq_true rfl) ?_
  intro p e s m args below meth c Q A ls S hK hD hA hP hl hret
  have hx := S.1
  have hb := S.2.1
  have hl : lv_has ls 1 [(0, .int x0)] := hl
  have hE := hT.symm.trans (FX9_isBit.eq_1 _)
  refine lv_iload_n hx hb dX9_isBit_0 rfl (lv_at hl 0 rfl) ?_
  refine lv_iconst (v := 0) hx hb dX9_isBit_1 (by decide) ?_
  refine lv_iconst (v := 1) hx hb dX9_isBit_2 (by decide) ?_
  obtain ⟨t3, ht3⟩ : ∃ z, FX9_in x0 0 1 = z := ⟨_, rfl⟩
  have hE := hE.trans (bnd_eq ht3)
  have hc := c_X9_in l G x0 0 1 _ ht3
  refine zgoR (va_runS (As := [.int x0, .int 0, .int 1]) (rest := []) S (hc _) (va_cwS 3 S.2.2.2.2 gX9_isBit_X9_in rfl rfl rfl (by decide +kernel) ⟨Nat.le_of_ble_eq_true rfl, Nat.le_of_ble_eq_true rfl⟩) (zpS hK hP hD (is := []) rfl rfl) rfl rfl hl.1 rfl (lv_room (Nat.le_of_ble_eq_true rfl)) dX9_isBit_3 ⟨Nat.zero_le _, Nat.zero_le _⟩) (fun hn3 => ?_)
  exact hret _ _ _ hE hn3 dX9_isBit_6

theorem in_X9_threats_9 : ∀ w ∈ u_ws RX9 TX9 40, w ∈ wsX9_threats := by decide +kernel
def rmX9_threats : Room := { frames := 3, cells := 0, slots := 0, locals := 67 }
set_option maxHeartbeats 4000000 in
set_option maxRecDepth 100000 in
theorem c_X9_threats (l : Launch) (G : zG) (am : Nat → Nat) (bm : S9) (x1 : Int32) (hz_m_rules : ∃ N : Nat, N ≤ 16 ∧ g9_rules bm = nI N) (T : Int32) (hT : FX9_threats (g9_rules bm) (g9_kind bm) (g9_head bm) (g9_body bm) (g9_except bm) (g9_strength bm) (g9_off bm) (g9_over bm) (g9_known bm) x1 = T) : zR l yX9_threats wsX9_threats rmX9_threats .int G [.ref (am 0), .int x1] [w9 G am bm] T := by
  refine zR.mk (cc := cX9_threats) (maxL := 4) (by decide +kernel) rfl (Nat.le_of_ble_eq_true rfl) ?_
  intro p e s m args below meth c Q A ls S hK hD hA hP hl hret
  have hx := S.1
  have hb := S.2.1
  have hl : lv_has ls 4 [(0, .ref (am 0)), (1, .int x1)] := hl
  obtain ⟨N_m_rules, hN_m_rules, hs_m_rules⟩ := id hz_m_rules
  have hE := hT.symm.trans (FX9_threats.eq_1 _ _ _ _ _ _ _ _ _ _)
  refine lv_iconst (v := 0) hx hb dX9_threats_0 (by decide) ?_
  refine lv_istore_n (lv' := [(2, .int 0), (0, .ref (am 0)), (1, .int x1)]) hx hb dX9_threats_1 rfl hl (by decide) rfl (fun ls hl => ?_)
  refine lv_iconst (v := 0) hx hb dX9_threats_2 (by decide) ?_
  have hB57 : ∀ (x2_57 : Int32) (ls : Array Slot), T = FX9_threats_57 (g9_rules bm) (g9_kind bm) (g9_head bm) (g9_body bm) (g9_except bm) (g9_strength bm) (g9_off bm) (g9_over bm) (g9_known bm) x1 x2_57 → lv_has ls 4 [(2, .int x2_57)] → W p l e rmX9_threats s m args below meth c s.heap [] 0 0 Q (F0 m 57 ls []) := by
    intro x2_57 ls hE hl
    have hE := hE.trans (FX9_threats_57.eq_1 _ _ _ _ _ _ _ _ _ _ _)
    refine lv_iload_n hx hb dX9_threats_57 rfl (lv_at hl 0 rfl) ?_
    exact hret _ _ _ hE rfl dX9_threats_58
  have hB4 : ∀ (n4 : Nat) (x2_4 : Int32) (i3_4 : Nat) (ls : Array Slot), (i3_4 ≤ N_m_rules) → 17 ≤ i3_4 + n4 → T = FX9_threats_4 (g9_rules bm) (g9_kind bm) (g9_head bm) (g9_body bm) (g9_except bm) (g9_strength bm) (g9_off bm) (g9_over bm) (g9_known bm) x1 (FX9_threats_57 (g9_rules bm) (g9_kind bm) (g9_head bm) (g9_body bm) (g9_except bm) (g9_strength bm) (g9_off bm) (g9_over bm) (g9_known bm) x1) n4 x2_4 (nI i3_4) → lv_has ls 4 [(0, .ref (am 0)), (1, .int x1), (2, .int x2_4), (3, .int (nI i3_4))] → W p l e rmX9_threats s m args below meth c s.heap [] 0 0 Q (F0 m 4 ls []) := by
    intro n4
    induction n4 with
    | zero =>
      intro x2_4 i3_4 ls hi3_4 hn hE hl
      exact absurd hn (by omega)
    | succ n4 ih4 =>
      intro x2_4 i3_4 ls hi3_4 hn hE hl
      have hE := hE.trans (FX9_threats_4.eq_2 _ _ _ _ _ _ _ _ _ _ _ _ _ _)
      refine lv_iload_n hx hb dX9_threats_4 rfl (lv_at hl 3 rfl) ?_
      refine lv_aload_n hx hb dX9_threats_5 rfl (lv_at hl 0 rfl) ?_
      refine zg9_rules S in_X9_threats_9 hK hP 0 rfl (List.mem_of_getElem? (i := 1) rfl) (v := (g9_rules bm)) rfl dX9_threats_6 ?_
      refine lv_icmp_ge (tgt := 57) hx hb dX9_threats_9 (by decide) (fun c9 => ?_) (fun c9 => ?_)
      · have hE := hE.trans (if_pos c9)
        exact hB57 x2_4 _ hE (lv_sub hl [2] rfl)
      · have hE := hE.trans (if_neg c9)
        have hl3_4 : i3_4 < N_m_rules := zlt hs_m_rules (by omega) (by omega) c9
        refine lv_iload_n hx hb dX9_threats_12 rfl (lv_at hl 2 rfl) ?_
        refine lv_aload_n hx hb dX9_threats_13 rfl (lv_at hl 0 rfl) ?_
        refine lv_iload_n hx hb dX9_threats_14 rfl (lv_at hl 3 rfl) ?_
        refine lv_iload_n hx hb dX9_threats_15 rfl (lv_at hl 1 rfl) ?_
        obtain ⟨t16, ht16⟩ : ∃ z, FX9_otherOf x1 = z := ⟨_, rfl⟩
        have hE := hE.trans (bnd_eq ht16)
        have hc := c_X9_otherOf l G x1 _ ht16
        refine zgoR (va_runS (As := [.int x1]) (rest := [.int (nI i3_4), .ref (am 0), .int x2_4]) S (hc _) (va_cwS 1 S.2.2.2.2 gX9_threats_X9_otherOf rfl rfl rfl (by decide +kernel) ⟨Nat.le_of_ble_eq_true rfl, Nat.le_of_ble_eq_true rfl⟩) (zpS hK hP hD (is := []) rfl rfl) rfl rfl hl.1 rfl (lv_room (Nat.le_of_ble_eq_true rfl)) dX9_threats_16 ⟨Nat.zero_le _, Nat.zero_le _⟩) (fun hn16 => ?_)
        obtain ⟨t19, ht19⟩ : ∃ z, FX9_isFor (g9_head bm) (g9_off bm) (nI i3_4) t16 = z := ⟨_, rfl⟩
        have hE := hE.trans (bnd_eq ht19)
        have hc := c_X9_isFor l G am bm (nI i3_4) t16 ((vp_in_nI (by omega) (by omega))) _ ht19
        refine zgoR (va_runV (As := [.int (nI i3_4), .int t16]) (rest := [.int x2_4]) S (hc _) (cwV 2 S.2.2.2.2 gX9_threats_X9_isFor rfl rfl rfl (by decide +kernel) ⟨Nat.le_of_ble_eq_true rfl, Nat.le_of_ble_eq_true rfl⟩) (zpV hK hP hD (is := [0]) rfl rfl 0 rfl rfl (ci := 9) rfl) rfl rfl hl.1 rfl (lv_room (Nat.le_of_ble_eq_true rfl)) dX9_threats_19 ⟨Nat.zero_le _, Nat.zero_le _⟩) (fun hn19 => ?_)
        have hB48 : ∀ (ls : Array Slot), T = FX9_threats_48 (g9_rules bm) (g9_kind bm) (g9_head bm) (g9_body bm) (g9_except bm) (g9_strength bm) (g9_off bm) (g9_over bm) (g9_known bm) x1 (fun x2_4' x3_4' => FX9_threats_4 (g9_rules bm) (g9_kind bm) (g9_head bm) (g9_body bm) (g9_except bm) (g9_strength bm) (g9_off bm) (g9_over bm) (g9_known bm) x1 (FX9_threats_57 (g9_rules bm) (g9_kind bm) (g9_head bm) (g9_body bm) (g9_except bm) (g9_strength bm) (g9_off bm) (g9_over bm) (g9_known bm) x1) n4 x2_4' x3_4') (FX9_threats_57 (g9_rules bm) (g9_kind bm) (g9_head bm) (g9_body bm) (g9_except bm) (g9_strength bm) (g9_off bm) (g9_over bm) (g9_known bm) x1) (nI i3_4) x2_4 → lv_has ls 4 [(0, .ref (am 0)), (1, .int x1), (3, .int (nI i3_4))] → W p l e rmX9_threats s m args below meth c s.heap [] 0 0 Q (F0 m 48 ls [.int x2_4]) := by
          intro ls hE hl
          have hE := hE.trans (FX9_threats_48.eq_1 _ _ _ _ _ _ _ _ _ _ _ _ _ _)
          refine lv_iconst (v := 0) hx hb dX9_threats_48 (by decide) ?_
          refine lv_ior hx hb dX9_threats_49 ?_
          refine lv_istore_n (lv' := [(2, .int (x2_4 ||| 0)), (0, .ref (am 0)), (1, .int x1), (3, .int (nI i3_4))]) hx hb dX9_threats_50 rfl hl (by decide) rfl (fun ls hl => ?_)
          refine lv_iinc (v := (nI (i3_4 + 1))) (lv' := [(3, .int (nI (i3_4 + 1))), (2, .int (x2_4 ||| 0)), (0, .ref (am 0)), (1, .int x1)]) hx hb dX9_threats_51 hl (k := 3) rfl (nI_1 i3_4) (by decide) rfl (fun ls hl => ?_)
          try rw [nI_1 i3_4] at hE
          refine lv_goto (tgt := 4) hx hb dX9_threats_54 (by decide) ?_
          exact ih4 (x2_4 ||| 0) (i3_4 + 1) _ (by first | assumption | omega) (by omega) hE (lv_sub hl [2, 3, 1, 0] rfl)
        refine lv_if_eq (tgt := 48) hx hb dX9_threats_22 (by decide) (fun c22 => ?_) (fun c22 => ?_)
        · have hE := hE.trans (if_pos c22)
          exact hB48 _ hE (lv_sub hl [0, 1, 3] rfl)
        · have hE := hE.trans (if_neg c22)
          refine lv_aload_n hx hb dX9_threats_25 rfl (lv_at hl 0 rfl) ?_
          refine lv_iload_n hx hb dX9_threats_26 rfl (lv_at hl 3 rfl) ?_
          obtain ⟨t27, ht27⟩ : ∃ z, FX9_falls (g9_body bm) (g9_except bm) (g9_known bm) (nI i3_4) = z := ⟨_, rfl⟩
          have hE := hE.trans (bnd_eq ht27)
          have hc := c_X9_falls l G am bm (nI i3_4) ((vp_in_nI (by omega) (by omega))) _ ht27
          refine zgoR (va_runV (As := [.int (nI i3_4)]) (rest := [.int x2_4]) S (hc _) (cwV 1 S.2.2.2.2 gX9_threats_X9_falls rfl rfl rfl (by decide +kernel) ⟨Nat.le_of_ble_eq_true rfl, Nat.le_of_ble_eq_true rfl⟩) (zpV hK hP hD (is := [0]) rfl rfl 0 rfl rfl (ci := 9) rfl) rfl rfl hl.1 rfl (lv_room (Nat.le_of_ble_eq_true rfl)) dX9_threats_27 ⟨Nat.zero_le _, Nat.zero_le _⟩) (fun hn27 => ?_)
          refine lv_if_ne (tgt := 48) hx hb dX9_threats_30 (by decide) (fun c30 => ?_) (fun c30 => ?_)
          · have hE := hE.trans (if_neg c30)
            exact hB48 _ hE (lv_sub hl [0, 1, 3] rfl)
          · have hE := hE.trans (if_pos c30)
            refine lv_aload_n hx hb dX9_threats_33 rfl (lv_at hl 0 rfl) ?_
            refine lv_iload_n hx hb dX9_threats_34 rfl (lv_at hl 1 rfl) ?_
            refine lv_iload_n hx hb dX9_threats_35 rfl (lv_at hl 3 rfl) ?_
            obtain ⟨t36, ht36⟩ : ∃ z, FX9_forcing (g9_rules bm) (g9_kind bm) (g9_head bm) (g9_body bm) (g9_except bm) (g9_strength bm) (g9_off bm) (g9_over bm) (g9_known bm) x1 (nI i3_4) = z := ⟨_, rfl⟩
            have hE := hE.trans (bnd_eq ht36)
            have hc := c_X9_forcing l G am bm x1 (nI i3_4) (fun _ => vp_in_nI (by omega) (by omega)) (hz_m_rules) _ ht36
            refine zgoR (va_runV (As := [.int x1, .int (nI i3_4)]) (rest := [.int x2_4]) S (hc _) (cwV 2 S.2.2.2.2 gX9_threats_X9_forcing rfl rfl rfl (by decide +kernel) ⟨Nat.le_of_ble_eq_true rfl, Nat.le_of_ble_eq_true rfl⟩) (zpV hK hP hD (is := [0]) rfl rfl 0 rfl rfl (ci := 9) rfl) rfl rfl hl.1 rfl (lv_room (Nat.le_of_ble_eq_true rfl)) dX9_threats_36 ⟨Nat.zero_le _, Nat.zero_le _⟩) (fun hn36 => ?_)
            refine lv_if_ge (tgt := 48) hx hb dX9_threats_39 (by decide) (fun c39 => ?_) (fun c39 => ?_)
            · have hE := hE.trans (if_pos c39)
              exact hB48 _ hE (lv_sub hl [0, 1, 3] rfl)
            · have hE := hE.trans (if_neg c39)
              refine lv_iconst (v := 1) hx hb dX9_threats_42 (by decide) ?_
              refine lv_iload_n hx hb dX9_threats_43 rfl (lv_at hl 3 rfl) ?_
              refine lv_ishl hx hb dX9_threats_44 ?_
              refine lv_goto (tgt := 49) hx hb dX9_threats_45 (by decide) ?_
              refine lv_ior hx hb dX9_threats_49 ?_
              refine lv_istore_n (lv' := [(2, .int (x2_4 ||| (1 <<< ((nI i3_4) &&& 31)))), (0, .ref (am 0)), (1, .int x1), (3, .int (nI i3_4))]) hx hb dX9_threats_50 rfl hl (by decide) rfl (fun ls hl => ?_)
              refine lv_iinc (v := (nI (i3_4 + 1))) (lv' := [(3, .int (nI (i3_4 + 1))), (2, .int (x2_4 ||| (1 <<< ((nI i3_4) &&& 31)))), (0, .ref (am 0)), (1, .int x1)]) hx hb dX9_threats_51 hl (k := 3) rfl (nI_1 i3_4) (by decide) rfl (fun ls hl => ?_)
              try rw [nI_1 i3_4] at hE
              refine lv_goto (tgt := 4) hx hb dX9_threats_54 (by decide) ?_
              exact ih4 (x2_4 ||| (1 <<< ((nI i3_4) &&& 31))) (i3_4 + 1) _ (by first | assumption | omega) (by omega) hE (lv_sub hl [2, 3, 1, 0] rfl)
  refine lv_istore_n (lv' := [(3, .int 0), (2, .int 0), (0, .ref (am 0)), (1, .int x1)]) hx hb dX9_threats_3 rfl hl (by decide) rfl (fun ls hl => ?_)
  exact hB4 17 0 0 _ (by first | assumption | omega) (by omega) hE (lv_sub hl [2, 3, 1, 0] rfl)

theorem in_X9_team_9 : ∀ w ∈ u_ws RX9 TX9 40, w ∈ wsX9_team := by decide +kernel
def rmX9_team : Room := { frames := 2, cells := 0, slots := 0, locals := 44 }
set_option maxHeartbeats 4000000 in
set_option maxRecDepth 100000 in
theorem c_X9_team (l : Launch) (G : zG) (am : Nat → Nat) (bm : S9) (x1 : Int32) (hz_m_rules : ∃ N : Nat, N ≤ 16 ∧ g9_rules bm = nI N) (T : Int32) (hT : FX9_team (g9_rules bm) (g9_kind bm) (g9_head bm) (g9_body bm) (g9_except bm) (g9_off bm) (g9_known bm) x1 = T) : zR l yX9_team wsX9_team rmX9_team .int G [.ref (am 0), .int x1] [w9 G am bm] T := by
  refine zR.mk (cc := cX9_team) (maxL := 4) (by decide +kernel) rfl (Nat.le_of_ble_eq_true rfl) ?_
  intro p e s m args below meth c Q A ls S hK hD hA hP hl hret
  have hx := S.1
  have hb := S.2.1
  have hl : lv_has ls 4 [(0, .ref (am 0)), (1, .int x1)] := hl
  obtain ⟨N_m_rules, hN_m_rules, hs_m_rules⟩ := id hz_m_rules
  have hE := hT.symm.trans (FX9_team.eq_1 _ _ _ _ _ _ _ _)
  refine lv_iconst (v := 0) hx hb dX9_team_0 (by decide) ?_
  refine lv_istore_n (lv' := [(2, .int 0), (0, .ref (am 0)), (1, .int x1)]) hx hb dX9_team_1 rfl hl (by decide) rfl (fun ls hl => ?_)
  refine lv_iconst (v := 0) hx hb dX9_team_2 (by decide) ?_
  have hB45 : ∀ (x2_45 : Int32) (ls : Array Slot), T = FX9_team_45 (g9_rules bm) (g9_kind bm) (g9_head bm) (g9_body bm) (g9_except bm) (g9_off bm) (g9_known bm) x1 x2_45 → lv_has ls 4 [(2, .int x2_45)] → W p l e rmX9_team s m args below meth c s.heap [] 0 0 Q (F0 m 45 ls []) := by
    intro x2_45 ls hE hl
    have hE := hE.trans (FX9_team_45.eq_1 _ _ _ _ _ _ _ _ _)
    refine lv_iload_n hx hb dX9_team_45 rfl (lv_at hl 0 rfl) ?_
    exact hret _ _ _ hE rfl dX9_team_46
  have hB4 : ∀ (n4 : Nat) (x2_4 : Int32) (i3_4 : Nat) (ls : Array Slot), (i3_4 ≤ N_m_rules) → 17 ≤ i3_4 + n4 → T = FX9_team_4 (g9_rules bm) (g9_kind bm) (g9_head bm) (g9_body bm) (g9_except bm) (g9_off bm) (g9_known bm) x1 (FX9_team_45 (g9_rules bm) (g9_kind bm) (g9_head bm) (g9_body bm) (g9_except bm) (g9_off bm) (g9_known bm) x1) n4 x2_4 (nI i3_4) → lv_has ls 4 [(0, .ref (am 0)), (1, .int x1), (2, .int x2_4), (3, .int (nI i3_4))] → W p l e rmX9_team s m args below meth c s.heap [] 0 0 Q (F0 m 4 ls []) := by
    intro n4
    induction n4 with
    | zero =>
      intro x2_4 i3_4 ls hi3_4 hn hE hl
      exact absurd hn (by omega)
    | succ n4 ih4 =>
      intro x2_4 i3_4 ls hi3_4 hn hE hl
      have hE := hE.trans (FX9_team_4.eq_2 _ _ _ _ _ _ _ _ _ _ _ _)
      refine lv_iload_n hx hb dX9_team_4 rfl (lv_at hl 3 rfl) ?_
      refine lv_aload_n hx hb dX9_team_5 rfl (lv_at hl 0 rfl) ?_
      refine zg9_rules S in_X9_team_9 hK hP 0 rfl (List.mem_of_getElem? (i := 1) rfl) (v := (g9_rules bm)) rfl dX9_team_6 ?_
      refine lv_icmp_ge (tgt := 45) hx hb dX9_team_9 (by decide) (fun c9 => ?_) (fun c9 => ?_)
      · have hE := hE.trans (if_pos c9)
        exact hB45 x2_4 _ hE (lv_sub hl [2] rfl)
      · have hE := hE.trans (if_neg c9)
        have hl3_4 : i3_4 < N_m_rules := zlt hs_m_rules (by omega) (by omega) c9
        refine lv_iload_n hx hb dX9_team_12 rfl (lv_at hl 2 rfl) ?_
        refine lv_aload_n hx hb dX9_team_13 rfl (lv_at hl 0 rfl) ?_
        refine lv_iload_n hx hb dX9_team_14 rfl (lv_at hl 3 rfl) ?_
        refine lv_iload_n hx hb dX9_team_15 rfl (lv_at hl 1 rfl) ?_
        obtain ⟨t16, ht16⟩ : ∃ z, FX9_isForward (g9_kind bm) (g9_head bm) (g9_off bm) (nI i3_4) x1 = z := ⟨_, rfl⟩
        have hE := hE.trans (bnd_eq ht16)
        have hc := c_X9_isForward l G am bm (nI i3_4) x1 ((vp_in_nI (by omega) (by omega))) _ ht16
        refine zgoR (va_runV (As := [.int (nI i3_4), .int x1]) (rest := [.int x2_4]) S (hc _) (cwV 2 S.2.2.2.2 gX9_team_X9_isForward rfl rfl rfl (by decide +kernel) ⟨Nat.le_of_ble_eq_true rfl, Nat.le_of_ble_eq_true rfl⟩) (zpV hK hP hD (is := [0]) rfl rfl 0 rfl rfl (ci := 9) rfl) rfl rfl hl.1 rfl (lv_room (Nat.le_of_ble_eq_true rfl)) dX9_team_16 ⟨Nat.zero_le _, Nat.zero_le _⟩) (fun hn16 => ?_)
        have hB36 : ∀ (ls : Array Slot), T = FX9_team_36 (g9_rules bm) (g9_kind bm) (g9_head bm) (g9_body bm) (g9_except bm) (g9_off bm) (g9_known bm) x1 (fun x2_4' x3_4' => FX9_team_4 (g9_rules bm) (g9_kind bm) (g9_head bm) (g9_body bm) (g9_except bm) (g9_off bm) (g9_known bm) x1 (FX9_team_45 (g9_rules bm) (g9_kind bm) (g9_head bm) (g9_body bm) (g9_except bm) (g9_off bm) (g9_known bm) x1) n4 x2_4' x3_4') (FX9_team_45 (g9_rules bm) (g9_kind bm) (g9_head bm) (g9_body bm) (g9_except bm) (g9_off bm) (g9_known bm) x1) (nI i3_4) x2_4 → lv_has ls 4 [(0, .ref (am 0)), (1, .int x1), (3, .int (nI i3_4))] → W p l e rmX9_team s m args below meth c s.heap [] 0 0 Q (F0 m 36 ls [.int x2_4]) := by
          intro ls hE hl
          have hE := hE.trans (FX9_team_36.eq_1 _ _ _ _ _ _ _ _ _ _ _ _)
          refine lv_iconst (v := 0) hx hb dX9_team_36 (by decide) ?_
          refine lv_ior hx hb dX9_team_37 ?_
          refine lv_istore_n (lv' := [(2, .int (x2_4 ||| 0)), (0, .ref (am 0)), (1, .int x1), (3, .int (nI i3_4))]) hx hb dX9_team_38 rfl hl (by decide) rfl (fun ls hl => ?_)
          refine lv_iinc (v := (nI (i3_4 + 1))) (lv' := [(3, .int (nI (i3_4 + 1))), (2, .int (x2_4 ||| 0)), (0, .ref (am 0)), (1, .int x1)]) hx hb dX9_team_39 hl (k := 3) rfl (nI_1 i3_4) (by decide) rfl (fun ls hl => ?_)
          try rw [nI_1 i3_4] at hE
          refine lv_goto (tgt := 4) hx hb dX9_team_42 (by decide) ?_
          exact ih4 (x2_4 ||| 0) (i3_4 + 1) _ (by first | assumption | omega) (by omega) hE (lv_sub hl [2, 3, 1, 0] rfl)
        refine lv_if_eq (tgt := 36) hx hb dX9_team_19 (by decide) (fun c19 => ?_) (fun c19 => ?_)
        · have hE := hE.trans (if_pos c19)
          exact hB36 _ hE (lv_sub hl [0, 1, 3] rfl)
        · have hE := hE.trans (if_neg c19)
          refine lv_aload_n hx hb dX9_team_22 rfl (lv_at hl 0 rfl) ?_
          refine lv_iload_n hx hb dX9_team_23 rfl (lv_at hl 3 rfl) ?_
          obtain ⟨t24, ht24⟩ : ∃ z, FX9_applies (g9_body bm) (g9_except bm) (g9_known bm) (nI i3_4) = z := ⟨_, rfl⟩
          have hE := hE.trans (bnd_eq ht24)
          have hc := c_X9_applies l G am bm (nI i3_4) ((vp_in_nI (by omega) (by omega))) _ ht24
          refine zgoR (va_runV (As := [.int (nI i3_4)]) (rest := [.int x2_4]) S (hc _) (cwV 1 S.2.2.2.2 gX9_team_X9_applies rfl rfl rfl (by decide +kernel) ⟨Nat.le_of_ble_eq_true rfl, Nat.le_of_ble_eq_true rfl⟩) (zpV hK hP hD (is := [0]) rfl rfl 0 rfl rfl (ci := 9) rfl) rfl rfl hl.1 rfl (lv_room (Nat.le_of_ble_eq_true rfl)) dX9_team_24 ⟨Nat.zero_le _, Nat.zero_le _⟩) (fun hn24 => ?_)
          refine lv_if_eq (tgt := 36) hx hb dX9_team_27 (by decide) (fun c27 => ?_) (fun c27 => ?_)
          · have hE := hE.trans (if_pos c27)
            exact hB36 _ hE (lv_sub hl [0, 1, 3] rfl)
          · have hE := hE.trans (if_neg c27)
            refine lv_iconst (v := 1) hx hb dX9_team_30 (by decide) ?_
            refine lv_iload_n hx hb dX9_team_31 rfl (lv_at hl 3 rfl) ?_
            refine lv_ishl hx hb dX9_team_32 ?_
            refine lv_goto (tgt := 37) hx hb dX9_team_33 (by decide) ?_
            refine lv_ior hx hb dX9_team_37 ?_
            refine lv_istore_n (lv' := [(2, .int (x2_4 ||| (1 <<< ((nI i3_4) &&& 31)))), (0, .ref (am 0)), (1, .int x1), (3, .int (nI i3_4))]) hx hb dX9_team_38 rfl hl (by decide) rfl (fun ls hl => ?_)
            refine lv_iinc (v := (nI (i3_4 + 1))) (lv' := [(3, .int (nI (i3_4 + 1))), (2, .int (x2_4 ||| (1 <<< ((nI i3_4) &&& 31)))), (0, .ref (am 0)), (1, .int x1)]) hx hb dX9_team_39 hl (k := 3) rfl (nI_1 i3_4) (by decide) rfl (fun ls hl => ?_)
            try rw [nI_1 i3_4] at hE
            refine lv_goto (tgt := 4) hx hb dX9_team_42 (by decide) ?_
            exact ih4 (x2_4 ||| (1 <<< ((nI i3_4) &&& 31))) (i3_4 + 1) _ (by first | assumption | omega) (by omega) hE (lv_sub hl [2, 3, 1, 0] rfl)
  refine lv_istore_n (lv' := [(3, .int 0), (2, .int 0), (0, .ref (am 0)), (1, .int x1)]) hx hb dX9_team_3 rfl hl (by decide) rfl (fun ls hl => ?_)
  exact hB4 17 0 0 _ (by first | assumption | omega) (by omega) hE (lv_sub hl [2, 3, 1, 0] rfl)

def rmX9_sides : Room := { frames := 7, cells := 0, slots := 0, locals := 155 }
set_option maxHeartbeats 4000000 in
set_option maxRecDepth 100000 in
theorem c_X9_sides (l : Launch) (G : zG) (am : Nat → Nat) (bm : S9) (x1 : Int32) (x2 : Int32) (hz_m_rules : ∃ N : Nat, N ≤ 16 ∧ g9_rules bm = nI N) (T : Int32 × (Nat → Int32) × (Nat → Int32) × (Nat → Int32) × (Int32)) (hT : FX9_sides (g9_facts bm) (g9_rules bm) (g9_kind bm) (g9_head bm) (g9_body bm) (g9_except bm) (g9_strength bm) (g9_off bm) (g9_over bm) (g9_came bm) (g9_known bm) (g9_fresh bm) (g9_rounds bm) x1 x2 = T) : zI l yX9_sides wsX9_sides rmX9_sides .int G [.ref (am 0), .int x1, .int x2] [w9 G am bm] T.1 [w9 G am (s9_rounds (s9_fresh (s9_known (s9_came bm T.2.1) T.2.2.1) T.2.2.2.1) T.2.2.2.2)] := by
  refine zI.mk (cc := cX9_sides) (maxL := 3) (by decide +kernel) rfl (Nat.le_of_ble_eq_true rfl) (zfl_cons (wf9 _ _ _ _) rfl) ?_
  intro p e s m args below meth c Q A ls S hK hD hA hP hl hret
  have hx := S.1
  have hb := S.2.1
  have hS : va_S A s.heap s.heap [] := va_S.rf
  have hl : lv_has ls 3 [(0, .ref (am 0)), (1, .int x1), (2, .int x2)] := hl
  have hE := hT.symm.trans (FX9_sides.eq_1 _ _ _ _ _ _ _ _ _ _ _ _ _ _ _)
  refine lv_iload_n hx hb dX9_sides_0 rfl (lv_at hl 1 rfl) ?_
  obtain ⟨t1, ht1⟩ : ∃ z, FX9_isLiteral x1 = z := ⟨_, rfl⟩
  have hE := hE.trans (bnd_eq ht1)
  have hc := c_X9_isLiteral l G x1 _ ht1
  refine zgoR (va_runS (As := [.int x1]) (rest := []) S (hc _) (va_cwS 1 S.2.2.2.2 gX9_sides_X9_isLiteral rfl rfl rfl (by decide +kernel) ⟨Nat.le_of_ble_eq_true rfl, Nat.le_of_ble_eq_true rfl⟩) (zpS hK hP hD (is := []) rfl rfl) rfl rfl hl.1 rfl (lv_room (Nat.le_of_ble_eq_true rfl)) dX9_sides_1 ⟨Nat.zero_le _, Nat.zero_le _⟩) (fun hn1 => ?_)
  refine lv_if_eq (tgt := 14) hx hb dX9_sides_4 (by decide) (fun c4 => ?_) (fun c4 => ?_)
  · have hE := hE.trans (if_pos c4)
    refine lv_iconst (v := (-1)) hx hb dX9_sides_14 (by decide) ?_
    rw [show bm = (s9_rounds (s9_fresh (s9_known (s9_came bm (g9_came bm)) (g9_known bm)) (g9_fresh bm)) (g9_rounds bm)) from (((((se9_came _).symm).trans (((se9_known _).symm).trans (congrArg (fun v => s9_known (s9_came bm (g9_came bm)) v) (gs9_known_came _ (g9_came bm))))).trans (((se9_fresh _).symm).trans (congrArg (fun v => s9_fresh (s9_known (s9_came bm (g9_came bm)) (g9_known bm)) v) ((gs9_fresh_known _ (g9_known bm)).trans (gs9_fresh_came _ (g9_came bm)))))).trans (((se9_rounds _).symm).trans (congrArg (fun v => s9_rounds (s9_fresh (s9_known (s9_came bm (g9_came bm)) (g9_known bm)) (g9_fresh bm)) v) ((gs9_rounds_fresh _ (g9_fresh bm)).trans ((gs9_rounds_known _ (g9_known bm)).trans (gs9_rounds_came _ (g9_came bm)))))))] at hP hD
    exact hret _ _ _ _ _ _ (by subst hE; rfl) rfl hP hS dX9_sides_15
  · have hE := hE.trans (if_neg c4)
    have hx1_20 : vp_in x1 20 := zisLit9 (by rw [ht1]; exact c4)
    refine lv_iload_n hx hb dX9_sides_7 rfl (lv_at hl 2 rfl) ?_
    obtain ⟨t8, ht8⟩ : ∃ z, FX9_isBit x2 = z := ⟨_, rfl⟩
    have hE := hE.trans (bnd_eq ht8)
    have hc := c_X9_isBit l G x2 _ ht8
    refine zgoR (va_runS (As := [.int x2]) (rest := []) S (hc _) (va_cwS 1 S.2.2.2.2 gX9_sides_X9_isBit rfl rfl rfl (by decide +kernel) ⟨Nat.le_of_ble_eq_true rfl, Nat.le_of_ble_eq_true rfl⟩) (zpS hK hP hD (is := []) rfl rfl) rfl rfl hl.1 rfl (lv_room (Nat.le_of_ble_eq_true rfl)) dX9_sides_8 ⟨Nat.zero_le _, Nat.zero_le _⟩) (fun hn8 => ?_)
    refine lv_if_ne (tgt := 16) hx hb dX9_sides_11 (by decide) (fun c11 => ?_) (fun c11 => ?_)
    · have hE := hE.trans (if_neg c11)
      refine lv_aload_n hx hb dX9_sides_16 rfl (lv_at hl 0 rfl) ?_
      obtain ⟨t17, ht17⟩ : ∃ z, FX9_tags (g9_facts bm) (g9_rules bm) (g9_kind bm) (g9_head bm) (g9_body bm) (g9_except bm) (g9_strength bm) (g9_off bm) (g9_over bm) (g9_came bm) (g9_known bm) (g9_fresh bm) (g9_rounds bm) = z := ⟨_, rfl⟩
      have hE := hE.trans (bnd_eq ht17)
      have hc := c_X9_tags l G am bm (hz_m_rules) _ ht17
      refine zgoV (bs' := [w9 G am (s9_rounds (s9_fresh (s9_known (s9_came bm t17.1) t17.2.1) t17.2.2.1) t17.2.2.2)]) hc [0] rfl rfl rfl hP hD hS hA (va_runV (As := []) (rest := []) S (hc.2 _) (cwV 0 S.2.2.2.2 gX9_sides_X9_tags rfl rfl rfl (by decide +kernel) ⟨Nat.le_of_ble_eq_true rfl, Nat.le_of_ble_eq_true rfl⟩) (zpV hK hP hD (is := [0]) rfl rfl 0 rfl rfl (ci := 9) rfl) rfl rfl hl.1 rfl (lv_room (Nat.le_of_ble_eq_true rfl)) dX9_sides_17 ⟨Nat.zero_le _, Nat.zero_le _⟩) (fun H locs hP hD hS => ?_)
      refine lv_iload_n hx hb dX9_sides_20 rfl (lv_at hl 2 rfl) ?_
      refine lv_if_ne (tgt := 32) hx hb dX9_sides_21 (by decide) (fun c21 => ?_) (fun c21 => ?_)
      · have hE := hE.trans (if_neg c21)
        refine lv_aload_n hx hb dX9_sides_32 rfl (lv_at hl 0 rfl) ?_
        refine lv_iload_n hx hb dX9_sides_33 rfl (lv_at hl 1 rfl) ?_
        obtain ⟨t34, ht34⟩ : ∃ z, FX9_team (g9_rules bm) (g9_kind bm) (g9_head bm) (g9_body bm) (g9_except bm) (g9_off bm) t17.2.1 x1 = z := ⟨_, rfl⟩
        have hE := hE.trans (bnd_eq ht34)
        have hc := c_X9_team l G am (s9_rounds (s9_fresh (s9_known (s9_came bm t17.1) t17.2.1) t17.2.2.1) t17.2.2.2) x1 (hz_m_rules) _ (by simp only [gs9_rules_rounds, gs9_rules_fresh, gs9_rules_known, gs9_rules_came, gs9_kind_rounds, gs9_kind_fresh, gs9_kind_known, gs9_kind_came, gs9_head_rounds, gs9_head_fresh, gs9_head_known, gs9_head_came, gs9_body_rounds, gs9_body_fresh, gs9_body_known, gs9_body_came, gs9_except_rounds, gs9_except_fresh, gs9_except_known, gs9_except_came, gs9_off_rounds, gs9_off_fresh, gs9_off_known, gs9_off_came, gs9_known_rounds, gs9_known_fresh, gg9_known]; exact ht34)
        refine zgoR (va_runV (As := [.int x1]) (rest := []) S (hc _) (cwV 1 S.2.2.2.2 gX9_sides_X9_team rfl rfl rfl (by decide +kernel) ⟨Nat.le_of_ble_eq_true rfl, Nat.le_of_ble_eq_true rfl⟩) (zpV hK hP hD (is := [0]) rfl rfl 0 rfl rfl (ci := 9) rfl) rfl rfl hl.1 rfl (lv_room (Nat.le_of_ble_eq_true rfl)) dX9_sides_34 ⟨Nat.zero_le _, Nat.zero_le _⟩) (fun hn34 => ?_)
        exact hret _ _ _ _ _ _ (by subst hE; rfl) rfl hP hS dX9_sides_37
      · have hE := hE.trans (if_pos c21)
        refine lv_aload_n hx hb dX9_sides_24 rfl (lv_at hl 0 rfl) ?_
        refine lv_iload_n hx hb dX9_sides_25 rfl (lv_at hl 1 rfl) ?_
        obtain ⟨t26, ht26⟩ : ∃ z, FX9_threats (g9_rules bm) (g9_kind bm) (g9_head bm) (g9_body bm) (g9_except bm) (g9_strength bm) (g9_off bm) (g9_over bm) t17.2.1 x1 = z := ⟨_, rfl⟩
        have hE := hE.trans (bnd_eq ht26)
        have hc := c_X9_threats l G am (s9_rounds (s9_fresh (s9_known (s9_came bm t17.1) t17.2.1) t17.2.2.1) t17.2.2.2) x1 (hz_m_rules) _ (by simp only [gs9_rules_rounds, gs9_rules_fresh, gs9_rules_known, gs9_rules_came, gs9_kind_rounds, gs9_kind_fresh, gs9_kind_known, gs9_kind_came, gs9_head_rounds, gs9_head_fresh, gs9_head_known, gs9_head_came, gs9_body_rounds, gs9_body_fresh, gs9_body_known, gs9_body_came, gs9_except_rounds, gs9_except_fresh, gs9_except_known, gs9_except_came, gs9_strength_rounds, gs9_strength_fresh, gs9_strength_known, gs9_strength_came, gs9_off_rounds, gs9_off_fresh, gs9_off_known, gs9_off_came, gs9_over_rounds, gs9_over_fresh, gs9_over_known, gs9_over_came, gs9_known_rounds, gs9_known_fresh, gg9_known]; exact ht26)
        refine zgoR (va_runV (As := [.int x1]) (rest := []) S (hc _) (cwV 1 S.2.2.2.2 gX9_sides_X9_threats rfl rfl rfl (by decide +kernel) ⟨Nat.le_of_ble_eq_true rfl, Nat.le_of_ble_eq_true rfl⟩) (zpV hK hP hD (is := [0]) rfl rfl 0 rfl rfl (ci := 9) rfl) rfl rfl hl.1 rfl (lv_room (Nat.le_of_ble_eq_true rfl)) dX9_sides_26 ⟨Nat.zero_le _, Nat.zero_le _⟩) (fun hn26 => ?_)
        refine lv_goto (tgt := 37) hx hb dX9_sides_29 (by decide) ?_
        exact hret _ _ _ _ _ _ (by subst hE; rfl) rfl hP hS dX9_sides_37
    · have hE := hE.trans (if_pos c11)
      refine lv_iconst (v := (-1)) hx hb dX9_sides_14 (by decide) ?_
      rw [show bm = (s9_rounds (s9_fresh (s9_known (s9_came bm (g9_came bm)) (g9_known bm)) (g9_fresh bm)) (g9_rounds bm)) from (((((se9_came _).symm).trans (((se9_known _).symm).trans (congrArg (fun v => s9_known (s9_came bm (g9_came bm)) v) (gs9_known_came _ (g9_came bm))))).trans (((se9_fresh _).symm).trans (congrArg (fun v => s9_fresh (s9_known (s9_came bm (g9_came bm)) (g9_known bm)) v) ((gs9_fresh_known _ (g9_known bm)).trans (gs9_fresh_came _ (g9_came bm)))))).trans (((se9_rounds _).symm).trans (congrArg (fun v => s9_rounds (s9_fresh (s9_known (s9_came bm (g9_came bm)) (g9_known bm)) (g9_fresh bm)) v) ((gs9_rounds_fresh _ (g9_fresh bm)).trans ((gs9_rounds_known _ (g9_known bm)).trans (gs9_rounds_came _ (g9_came bm)))))))] at hP hD
      exact hret _ _ _ _ _ _ (by subst hE; rfl) rfl hP hS dX9_sides_15

theorem in_X9_aboveOf_9 : ∀ w ∈ u_ws RX9 TX9 40, w ∈ wsX9_aboveOf := by decide +kernel
def rmX9_aboveOf : Room := { frames := 2, cells := 0, slots := 0, locals := 43 }
set_option maxHeartbeats 4000000 in
set_option maxRecDepth 100000 in
theorem c_X9_aboveOf (l : Launch) (G : zG) (am : Nat → Nat) (bm : S9) (x1 : Int32) (hz_m_rules : ∃ N : Nat, N ≤ 16 ∧ g9_rules bm = nI N) (hx1_16 : vp_in x1 16) (T : Int32) (hT : FX9_aboveOf (g9_rules bm) (g9_strength bm) (g9_over bm) x1 = T) : zR l yX9_aboveOf wsX9_aboveOf rmX9_aboveOf .int G [.ref (am 0), .int x1] [w9 G am bm] T := by
  refine zR.mk (cc := cX9_aboveOf) (maxL := 4) (by decide +kernel) rfl (Nat.le_of_ble_eq_true rfl) ?_
  intro p e s m args below meth c Q A ls S hK hD hA hP hl hret
  have hx := S.1
  have hb := S.2.1
  have hl : lv_has ls 4 [(0, .ref (am 0)), (1, .int x1)] := hl
  obtain ⟨N_m_rules, hN_m_rules, hs_m_rules⟩ := id hz_m_rules
  have hE := hT.symm.trans (FX9_aboveOf.eq_1 _ _ _ _)
  refine lv_iconst (v := 0) hx hb dX9_aboveOf_0 (by decide) ?_
  refine lv_istore_n (lv' := [(2, .int 0), (0, .ref (am 0)), (1, .int x1)]) hx hb dX9_aboveOf_1 rfl hl (by decide) rfl (fun ls hl => ?_)
  refine lv_iconst (v := 0) hx hb dX9_aboveOf_2 (by decide) ?_
  have hB42 : ∀ (x2_42 : Int32) (ls : Array Slot), T = FX9_aboveOf_42 (g9_rules bm) (g9_strength bm) (g9_over bm) x1 x2_42 → lv_has ls 4 [(2, .int x2_42)] → W p l e rmX9_aboveOf s m args below meth c s.heap [] 0 0 Q (F0 m 42 ls []) := by
    intro x2_42 ls hE hl
    have hE := hE.trans (FX9_aboveOf_42.eq_1 _ _ _ _ _)
    refine lv_iload_n hx hb dX9_aboveOf_42 rfl (lv_at hl 0 rfl) ?_
    exact hret _ _ _ hE rfl dX9_aboveOf_43
  have hB4 : ∀ (n4 : Nat) (x2_4 : Int32) (i3_4 : Nat) (ls : Array Slot), (i3_4 ≤ N_m_rules) → 17 ≤ i3_4 + n4 → T = FX9_aboveOf_4 (g9_rules bm) (g9_strength bm) (g9_over bm) x1 (FX9_aboveOf_42 (g9_rules bm) (g9_strength bm) (g9_over bm) x1) n4 x2_4 (nI i3_4) → lv_has ls 4 [(0, .ref (am 0)), (1, .int x1), (2, .int x2_4), (3, .int (nI i3_4))] → W p l e rmX9_aboveOf s m args below meth c s.heap [] 0 0 Q (F0 m 4 ls []) := by
    intro n4
    induction n4 with
    | zero =>
      intro x2_4 i3_4 ls hi3_4 hn hE hl
      exact absurd hn (by omega)
    | succ n4 ih4 =>
      intro x2_4 i3_4 ls hi3_4 hn hE hl
      have hE := hE.trans (FX9_aboveOf_4.eq_2 _ _ _ _ _ _ _ _)
      refine lv_iload_n hx hb dX9_aboveOf_4 rfl (lv_at hl 3 rfl) ?_
      refine lv_aload_n hx hb dX9_aboveOf_5 rfl (lv_at hl 0 rfl) ?_
      refine zg9_rules S in_X9_aboveOf_9 hK hP 0 rfl (List.mem_of_getElem? (i := 1) rfl) (v := (g9_rules bm)) rfl dX9_aboveOf_6 ?_
      refine lv_icmp_ge (tgt := 42) hx hb dX9_aboveOf_9 (by decide) (fun c9 => ?_) (fun c9 => ?_)
      · have hE := hE.trans (if_pos c9)
        exact hB42 x2_4 _ hE (lv_sub hl [2] rfl)
      · have hE := hE.trans (if_neg c9)
        have hl3_4 : i3_4 < N_m_rules := zlt hs_m_rules (by omega) (by omega) c9
        refine lv_iload_n hx hb dX9_aboveOf_12 rfl (lv_at hl 2 rfl) ?_
        refine lv_iload_n hx hb dX9_aboveOf_13 rfl (lv_at hl 3 rfl) ?_
        refine lv_iload_n hx hb dX9_aboveOf_14 rfl (lv_at hl 1 rfl) ?_
        have hB33 : ∀ (ls : Array Slot), T = FX9_aboveOf_33 (g9_rules bm) (g9_strength bm) (g9_over bm) x1 (fun x2_4' x3_4' => FX9_aboveOf_4 (g9_rules bm) (g9_strength bm) (g9_over bm) x1 (FX9_aboveOf_42 (g9_rules bm) (g9_strength bm) (g9_over bm) x1) n4 x2_4' x3_4') (FX9_aboveOf_42 (g9_rules bm) (g9_strength bm) (g9_over bm) x1) (nI i3_4) x2_4 → lv_has ls 4 [(0, .ref (am 0)), (1, .int x1), (3, .int (nI i3_4))] → W p l e rmX9_aboveOf s m args below meth c s.heap [] 0 0 Q (F0 m 33 ls [.int x2_4]) := by
          intro ls hE hl
          have hE := hE.trans (FX9_aboveOf_33.eq_1 _ _ _ _ _ _ _ _)
          refine lv_iconst (v := 0) hx hb dX9_aboveOf_33 (by decide) ?_
          refine lv_ior hx hb dX9_aboveOf_34 ?_
          refine lv_istore_n (lv' := [(2, .int (x2_4 ||| 0)), (0, .ref (am 0)), (1, .int x1), (3, .int (nI i3_4))]) hx hb dX9_aboveOf_35 rfl hl (by decide) rfl (fun ls hl => ?_)
          refine lv_iinc (v := (nI (i3_4 + 1))) (lv' := [(3, .int (nI (i3_4 + 1))), (2, .int (x2_4 ||| 0)), (0, .ref (am 0)), (1, .int x1)]) hx hb dX9_aboveOf_36 hl (k := 3) rfl (nI_1 i3_4) (by decide) rfl (fun ls hl => ?_)
          try rw [nI_1 i3_4] at hE
          refine lv_goto (tgt := 4) hx hb dX9_aboveOf_39 (by decide) ?_
          exact ih4 (x2_4 ||| 0) (i3_4 + 1) _ (by first | assumption | omega) (by omega) hE (lv_sub hl [2, 3, 1, 0] rfl)
        refine lv_icmp_eq (tgt := 33) hx hb dX9_aboveOf_15 (by decide) (fun c15 => ?_) (fun c15 => ?_)
        · have hE := hE.trans (if_pos c15)
          exact hB33 _ hE (lv_sub hl [0, 1, 3] rfl)
        · have hE := hE.trans (if_neg c15)
          refine lv_aload_n hx hb dX9_aboveOf_18 rfl (lv_at hl 0 rfl) ?_
          refine lv_iload_n hx hb dX9_aboveOf_19 rfl (lv_at hl 1 rfl) ?_
          refine lv_iload_n hx hb dX9_aboveOf_20 rfl (lv_at hl 3 rfl) ?_
          obtain ⟨t21, ht21⟩ : ∃ z, FX9_isAbove (g9_strength bm) (g9_over bm) x1 (nI i3_4) = z := ⟨_, rfl⟩
          have hE := hE.trans (bnd_eq ht21)
          have hc := c_X9_isAbove l G am bm x1 (nI i3_4) (hx1_16) ((vp_in_nI (by omega) (by omega))) _ ht21
          refine zgoR (va_runV (As := [.int x1, .int (nI i3_4)]) (rest := [.int x2_4]) S (hc _) (cwV 2 S.2.2.2.2 gX9_aboveOf_X9_isAbove rfl rfl rfl (by decide +kernel) ⟨Nat.le_of_ble_eq_true rfl, Nat.le_of_ble_eq_true rfl⟩) (zpV hK hP hD (is := [0]) rfl rfl 0 rfl rfl (ci := 9) rfl) rfl rfl hl.1 rfl (lv_room (Nat.le_of_ble_eq_true rfl)) dX9_aboveOf_21 ⟨Nat.zero_le _, Nat.zero_le _⟩) (fun hn21 => ?_)
          refine lv_if_eq (tgt := 33) hx hb dX9_aboveOf_24 (by decide) (fun c24 => ?_) (fun c24 => ?_)
          · have hE := hE.trans (if_pos c24)
            exact hB33 _ hE (lv_sub hl [0, 1, 3] rfl)
          · have hE := hE.trans (if_neg c24)
            refine lv_iconst (v := 1) hx hb dX9_aboveOf_27 (by decide) ?_
            refine lv_iload_n hx hb dX9_aboveOf_28 rfl (lv_at hl 3 rfl) ?_
            refine lv_ishl hx hb dX9_aboveOf_29 ?_
            refine lv_goto (tgt := 34) hx hb dX9_aboveOf_30 (by decide) ?_
            refine lv_ior hx hb dX9_aboveOf_34 ?_
            refine lv_istore_n (lv' := [(2, .int (x2_4 ||| (1 <<< ((nI i3_4) &&& 31)))), (0, .ref (am 0)), (1, .int x1), (3, .int (nI i3_4))]) hx hb dX9_aboveOf_35 rfl hl (by decide) rfl (fun ls hl => ?_)
            refine lv_iinc (v := (nI (i3_4 + 1))) (lv' := [(3, .int (nI (i3_4 + 1))), (2, .int (x2_4 ||| (1 <<< ((nI i3_4) &&& 31)))), (0, .ref (am 0)), (1, .int x1)]) hx hb dX9_aboveOf_36 hl (k := 3) rfl (nI_1 i3_4) (by decide) rfl (fun ls hl => ?_)
            try rw [nI_1 i3_4] at hE
            refine lv_goto (tgt := 4) hx hb dX9_aboveOf_39 (by decide) ?_
            exact ih4 (x2_4 ||| (1 <<< ((nI i3_4) &&& 31))) (i3_4 + 1) _ (by first | assumption | omega) (by omega) hE (lv_sub hl [2, 3, 1, 0] rfl)
  refine lv_istore_n (lv' := [(3, .int 0), (2, .int 0), (0, .ref (am 0)), (1, .int x1)]) hx hb dX9_aboveOf_3 rfl hl (by decide) rfl (fun ls hl => ?_)
  exact hB4 17 0 0 _ (by first | assumption | omega) (by omega) hE (lv_sub hl [2, 3, 1, 0] rfl)

theorem in_X9_ruleOf_9 : ∀ w ∈ u_ws RX9 TX9 40, w ∈ wsX9_ruleOf := by decide +kernel
def rmX9_ruleOf : Room := { frames := 3, cells := 0, slots := 0, locals := 66 }
set_option maxHeartbeats 4000000 in
set_option maxRecDepth 100000 in
theorem c_X9_ruleOf (l : Launch) (G : zG) (am : Nat → Nat) (bm : S9) (x1 : Int32) (x2 : Int32) (hz_m_rules : ∃ N : Nat, N ≤ 16 ∧ g9_rules bm = nI N) (T : Int32) (hT : FX9_ruleOf (g9_rules bm) (g9_kind bm) (g9_head bm) (g9_body bm) (g9_except bm) (g9_strength bm) (g9_off bm) (g9_over bm) x1 x2 = T) : zR l yX9_ruleOf wsX9_ruleOf rmX9_ruleOf .int G [.ref (am 0), .int x1, .int x2] [w9 G am bm] T := by
  refine zR.mk (cc := cX9_ruleOf) (maxL := 3) (by decide +kernel) rfl (Nat.le_of_ble_eq_true rfl) ?_
  intro p e s m args below meth c Q A ls S hK hD hA hP hl hret
  have hx := S.1
  have hb := S.2.1
  have hl : lv_has ls 3 [(0, .ref (am 0)), (1, .int x1), (2, .int x2)] := hl
  have hE := hT.symm.trans (FX9_ruleOf.eq_1 _ _ _ _ _ _ _ _ _ _)
  refine lv_aload_n hx hb dX9_ruleOf_0 rfl (lv_at hl 0 rfl) ?_
  refine lv_iload_n hx hb dX9_ruleOf_1 rfl (lv_at hl 1 rfl) ?_
  obtain ⟨t2, ht2⟩ : ∃ z, FX9_isRule (g9_rules bm) x1 = z := ⟨_, rfl⟩
  have hE := hE.trans (bnd_eq ht2)
  have hc := c_X9_isRule l G am bm x1 _ ht2
  refine zgoR (va_runV (As := [.int x1]) (rest := []) S (hc _) (cwV 1 S.2.2.2.2 gX9_ruleOf_X9_isRule rfl rfl rfl (by decide +kernel) ⟨Nat.le_of_ble_eq_true rfl, Nat.le_of_ble_eq_true rfl⟩) (zpV hK hP hD (is := [0]) rfl rfl 0 rfl rfl (ci := 9) rfl) rfl rfl hl.1 rfl (lv_room (Nat.le_of_ble_eq_true rfl)) dX9_ruleOf_2 ⟨Nat.zero_le _, Nat.zero_le _⟩) (fun hn2 => ?_)
  refine lv_if_ne (tgt := 10) hx hb dX9_ruleOf_5 (by decide) (fun c5 => ?_) (fun c5 => ?_)
  · have hE := hE.trans (if_neg c5)
    have hx1_16 : vp_in x1 16 := zisRule hz_m_rules (by rw [ht2]; exact c5)
    refine lv_iload_n hx hb dX9_ruleOf_10 rfl (lv_at hl 2 rfl) ?_
    by_cases c11_0 : x2 = 0
    · have hE := hE.trans (if_pos c11_0)
      refine lv_tableIn (off := 45) (tgt := 56) hx hb dX9_ruleOf_11 (by rw [c11_0]; decide) (by rw [c11_0]; decide) (by rw [c11_0]; rfl) (by decide) ?_
      refine lv_aload_n hx hb dX9_ruleOf_56 rfl (lv_at hl 0 rfl) ?_
      refine zg9_kind S in_X9_ruleOf_9 hK hP 0 rfl (List.mem_of_getElem? (i := 1) rfl) dX9_ruleOf_57 ?_
      refine lv_iload_n hx hb dX9_ruleOf_60 rfl (lv_at hl 1 rfl) ?_
      refine zl9_kind S hK hP 0 rfl hx1_16 (f := (g9_kind bm)) rfl dX9_ruleOf_61 ?_
      exact hret _ _ _ hE rfl dX9_ruleOf_62
    have hE := hE.trans (if_neg c11_0)
    by_cases c11_1 : x2 = 1
    · have hE := hE.trans (if_pos c11_1)
      refine lv_tableIn (off := 52) (tgt := 63) hx hb dX9_ruleOf_11 (by rw [c11_1]; decide) (by rw [c11_1]; decide) (by rw [c11_1]; rfl) (by decide) ?_
      refine lv_aload_n hx hb dX9_ruleOf_63 rfl (lv_at hl 0 rfl) ?_
      refine zg9_head S in_X9_ruleOf_9 hK hP 0 rfl (List.mem_of_getElem? (i := 2) rfl) dX9_ruleOf_64 ?_
      refine lv_iload_n hx hb dX9_ruleOf_67 rfl (lv_at hl 1 rfl) ?_
      refine zl9_head S hK hP 0 rfl hx1_16 (f := (g9_head bm)) rfl dX9_ruleOf_68 ?_
      exact hret _ _ _ hE rfl dX9_ruleOf_69
    have hE := hE.trans (if_neg c11_1)
    by_cases c11_2 : x2 = 2
    · have hE := hE.trans (if_pos c11_2)
      refine lv_tableIn (off := 59) (tgt := 70) hx hb dX9_ruleOf_11 (by rw [c11_2]; decide) (by rw [c11_2]; decide) (by rw [c11_2]; rfl) (by decide) ?_
      refine lv_aload_n hx hb dX9_ruleOf_70 rfl (lv_at hl 0 rfl) ?_
      refine zg9_body S in_X9_ruleOf_9 hK hP 0 rfl (List.mem_of_getElem? (i := 3) rfl) dX9_ruleOf_71 ?_
      refine lv_iload_n hx hb dX9_ruleOf_74 rfl (lv_at hl 1 rfl) ?_
      refine zl9_body S hK hP 0 rfl hx1_16 (f := (g9_body bm)) rfl dX9_ruleOf_75 ?_
      exact hret _ _ _ hE rfl dX9_ruleOf_76
    have hE := hE.trans (if_neg c11_2)
    by_cases c11_3 : x2 = 3
    · have hE := hE.trans (if_pos c11_3)
      refine lv_tableIn (off := 66) (tgt := 77) hx hb dX9_ruleOf_11 (by rw [c11_3]; decide) (by rw [c11_3]; decide) (by rw [c11_3]; rfl) (by decide) ?_
      refine lv_aload_n hx hb dX9_ruleOf_77 rfl (lv_at hl 0 rfl) ?_
      refine zg9_except S in_X9_ruleOf_9 hK hP 0 rfl (List.mem_of_getElem? (i := 4) rfl) dX9_ruleOf_78 ?_
      refine lv_iload_n hx hb dX9_ruleOf_81 rfl (lv_at hl 1 rfl) ?_
      refine zl9_except S hK hP 0 rfl hx1_16 (f := (g9_except bm)) rfl dX9_ruleOf_82 ?_
      exact hret _ _ _ hE rfl dX9_ruleOf_83
    have hE := hE.trans (if_neg c11_3)
    by_cases c11_4 : x2 = 4
    · have hE := hE.trans (if_pos c11_4)
      refine lv_tableIn (off := 73) (tgt := 84) hx hb dX9_ruleOf_11 (by rw [c11_4]; decide) (by rw [c11_4]; decide) (by rw [c11_4]; rfl) (by decide) ?_
      refine lv_aload_n hx hb dX9_ruleOf_84 rfl (lv_at hl 0 rfl) ?_
      refine zg9_strength S in_X9_ruleOf_9 hK hP 0 rfl (List.mem_of_getElem? (i := 5) rfl) dX9_ruleOf_85 ?_
      refine lv_iload_n hx hb dX9_ruleOf_88 rfl (lv_at hl 1 rfl) ?_
      refine zl9_strength S hK hP 0 rfl hx1_16 (f := (g9_strength bm)) rfl dX9_ruleOf_89 ?_
      exact hret _ _ _ hE rfl dX9_ruleOf_90
    have hE := hE.trans (if_neg c11_4)
    by_cases c11_5 : x2 = 5
    · have hE := hE.trans (if_pos c11_5)
      refine lv_tableIn (off := 80) (tgt := 91) hx hb dX9_ruleOf_11 (by rw [c11_5]; decide) (by rw [c11_5]; decide) (by rw [c11_5]; rfl) (by decide) ?_
      refine lv_aload_n hx hb dX9_ruleOf_91 rfl (lv_at hl 0 rfl) ?_
      refine zg9_off S in_X9_ruleOf_9 hK hP 0 rfl (List.mem_of_getElem? (i := 6) rfl) dX9_ruleOf_92 ?_
      refine lv_iload_n hx hb dX9_ruleOf_95 rfl (lv_at hl 1 rfl) ?_
      refine zl9_off S hK hP 0 rfl hx1_16 (f := (g9_off bm)) rfl dX9_ruleOf_96 ?_
      exact hret _ _ _ hE rfl dX9_ruleOf_97
    have hE := hE.trans (if_neg c11_5)
    by_cases c11_6 : x2 = 6
    · have hE := hE.trans (if_pos c11_6)
      refine lv_tableIn (off := 87) (tgt := 98) hx hb dX9_ruleOf_11 (by rw [c11_6]; decide) (by rw [c11_6]; decide) (by rw [c11_6]; rfl) (by decide) ?_
      refine lv_aload_n hx hb dX9_ruleOf_98 rfl (lv_at hl 0 rfl) ?_
      refine zg9_over S in_X9_ruleOf_9 hK hP 0 rfl (List.mem_of_getElem? (i := 7) rfl) dX9_ruleOf_99 ?_
      refine lv_iload_n hx hb dX9_ruleOf_102 rfl (lv_at hl 1 rfl) ?_
      refine zl9_over S hK hP 0 rfl hx1_16 (f := (g9_over bm)) rfl dX9_ruleOf_103 ?_
      exact hret _ _ _ hE rfl dX9_ruleOf_104
    have hE := hE.trans (if_neg c11_6)
    by_cases c11_7 : x2 = 7
    · have hE := hE.trans (if_pos c11_7)
      refine lv_tableIn (off := 94) (tgt := 105) hx hb dX9_ruleOf_11 (by rw [c11_7]; decide) (by rw [c11_7]; decide) (by rw [c11_7]; rfl) (by decide) ?_
      refine lv_aload_n hx hb dX9_ruleOf_105 rfl (lv_at hl 0 rfl) ?_
      refine lv_iload_n hx hb dX9_ruleOf_106 rfl (lv_at hl 1 rfl) ?_
      obtain ⟨t107, ht107⟩ : ∃ z, FX9_aboveOf (g9_rules bm) (g9_strength bm) (g9_over bm) x1 = z := ⟨_, rfl⟩
      have hE := hE.trans (bnd_eq ht107)
      have hc := c_X9_aboveOf l G am bm x1 (hz_m_rules) (hx1_16) _ ht107
      refine zgoR (va_runV (As := [.int x1]) (rest := []) S (hc _) (cwV 1 S.2.2.2.2 gX9_ruleOf_X9_aboveOf rfl rfl rfl (by decide +kernel) ⟨Nat.le_of_ble_eq_true rfl, Nat.le_of_ble_eq_true rfl⟩) (zpV hK hP hD (is := [0]) rfl rfl 0 rfl rfl (ci := 9) rfl) rfl rfl hl.1 rfl (lv_room (Nat.le_of_ble_eq_true rfl)) dX9_ruleOf_107 ⟨Nat.zero_le _, Nat.zero_le _⟩) (fun hn107 => ?_)
      exact hret _ _ _ hE rfl dX9_ruleOf_110
    have hE := hE.trans (if_neg c11_7)
    refine lv_tableOut (tgt := 111) hx hb dX9_ruleOf_11 (zsw8 c11_0 c11_1 c11_2 c11_3 c11_4 c11_5 c11_6 c11_7) (by decide) ?_
    refine lv_iconst (v := (-1)) hx hb dX9_ruleOf_111 (by decide) ?_
    exact hret _ _ _ hE rfl dX9_ruleOf_112
  · have hE := hE.trans (if_pos c5)
    refine lv_iconst (v := (-1)) hx hb dX9_ruleOf_8 (by decide) ?_
    exact hret _ _ _ hE rfl dX9_ruleOf_9

theorem in_X9_rulesFor_9 : ∀ w ∈ u_ws RX9 TX9 40, w ∈ wsX9_rulesFor := by decide +kernel
def rmX9_rulesFor : Room := { frames := 2, cells := 0, slots := 0, locals := 42 }
set_option maxHeartbeats 4000000 in
set_option maxRecDepth 100000 in
theorem c_X9_rulesFor (l : Launch) (G : zG) (am : Nat → Nat) (bm : S9) (x1 : Int32) (hz_m_rules : ∃ N : Nat, N ≤ 16 ∧ g9_rules bm = nI N) (T : Int32) (hT : FX9_rulesFor (g9_rules bm) (g9_head bm) (g9_off bm) x1 = T) : zR l yX9_rulesFor wsX9_rulesFor rmX9_rulesFor .int G [.ref (am 0), .int x1] [w9 G am bm] T := by
  refine zR.mk (cc := cX9_rulesFor) (maxL := 4) (by decide +kernel) rfl (Nat.le_of_ble_eq_true rfl) ?_
  intro p e s m args below meth c Q A ls S hK hD hA hP hl hret
  have hx := S.1
  have hb := S.2.1
  have hl : lv_has ls 4 [(0, .ref (am 0)), (1, .int x1)] := hl
  obtain ⟨N_m_rules, hN_m_rules, hs_m_rules⟩ := id hz_m_rules
  have hE := hT.symm.trans (FX9_rulesFor.eq_1 _ _ _ _)
  refine lv_iload_n hx hb dX9_rulesFor_0 rfl (lv_at hl 1 rfl) ?_
  obtain ⟨t1, ht1⟩ : ∃ z, FX9_isLiteral x1 = z := ⟨_, rfl⟩
  have hE := hE.trans (bnd_eq ht1)
  have hc := c_X9_isLiteral l G x1 _ ht1
  refine zgoR (va_runS (As := [.int x1]) (rest := []) S (hc _) (va_cwS 1 S.2.2.2.2 gX9_rulesFor_X9_isLiteral rfl rfl rfl (by decide +kernel) ⟨Nat.le_of_ble_eq_true rfl, Nat.le_of_ble_eq_true rfl⟩) (zpS hK hP hD (is := []) rfl rfl) rfl rfl hl.1 rfl (lv_room (Nat.le_of_ble_eq_true rfl)) dX9_rulesFor_1 ⟨Nat.zero_le _, Nat.zero_le _⟩) (fun hn1 => ?_)
  refine lv_if_ne (tgt := 9) hx hb dX9_rulesFor_4 (by decide) (fun c4 => ?_) (fun c4 => ?_)
  · have hE := hE.trans (if_neg c4)
    have hx1_20 : vp_in x1 20 := zisLit9 (by rw [ht1]; exact c4)
    refine lv_iconst (v := 0) hx hb dX9_rulesFor_9 (by decide) ?_
    refine lv_istore_n (lv' := [(2, .int 0), (0, .ref (am 0)), (1, .int x1)]) hx hb dX9_rulesFor_10 rfl hl (by decide) rfl (fun ls hl => ?_)
    refine lv_iconst (v := 0) hx hb dX9_rulesFor_11 (by decide) ?_
    have hB46 : ∀ (x2_46 : Int32) (ls : Array Slot), T = FX9_rulesFor_46 (g9_rules bm) (g9_head bm) (g9_off bm) x1 x2_46 → lv_has ls 4 [(2, .int x2_46)] → W p l e rmX9_rulesFor s m args below meth c s.heap [] 0 0 Q (F0 m 46 ls []) := by
      intro x2_46 ls hE hl
      have hE := hE.trans (FX9_rulesFor_46.eq_1 _ _ _ _ _)
      refine lv_iload_n hx hb dX9_rulesFor_46 rfl (lv_at hl 0 rfl) ?_
      exact hret _ _ _ hE rfl dX9_rulesFor_47
    have hB13 : ∀ (n13 : Nat) (x2_13 : Int32) (i3_13 : Nat) (ls : Array Slot), (i3_13 ≤ N_m_rules) → 17 ≤ i3_13 + n13 → T = FX9_rulesFor_13 (g9_rules bm) (g9_head bm) (g9_off bm) x1 (FX9_rulesFor_46 (g9_rules bm) (g9_head bm) (g9_off bm) x1) n13 x2_13 (nI i3_13) → lv_has ls 4 [(0, .ref (am 0)), (1, .int x1), (2, .int x2_13), (3, .int (nI i3_13))] → W p l e rmX9_rulesFor s m args below meth c s.heap [] 0 0 Q (F0 m 13 ls []) := by
      intro n13
      induction n13 with
      | zero =>
        intro x2_13 i3_13 ls hi3_13 hn hE hl
        exact absurd hn (by omega)
      | succ n13 ih13 =>
        intro x2_13 i3_13 ls hi3_13 hn hE hl
        have hE := hE.trans (FX9_rulesFor_13.eq_2 _ _ _ _ _ _ _ _)
        refine lv_iload_n hx hb dX9_rulesFor_13 rfl (lv_at hl 3 rfl) ?_
        refine lv_aload_n hx hb dX9_rulesFor_14 rfl (lv_at hl 0 rfl) ?_
        refine zg9_rules S in_X9_rulesFor_9 hK hP 0 rfl (List.mem_of_getElem? (i := 1) rfl) (v := (g9_rules bm)) rfl dX9_rulesFor_15 ?_
        refine lv_icmp_ge (tgt := 46) hx hb dX9_rulesFor_18 (by decide) (fun c18 => ?_) (fun c18 => ?_)
        · have hE := hE.trans (if_pos c18)
          exact hB46 x2_13 _ hE (lv_sub hl [2] rfl)
        · have hE := hE.trans (if_neg c18)
          have hl3_13 : i3_13 < N_m_rules := zlt hs_m_rules (by omega) (by omega) c18
          refine lv_iload_n hx hb dX9_rulesFor_21 rfl (lv_at hl 2 rfl) ?_
          refine lv_aload_n hx hb dX9_rulesFor_22 rfl (lv_at hl 0 rfl) ?_
          refine lv_iload_n hx hb dX9_rulesFor_23 rfl (lv_at hl 3 rfl) ?_
          refine lv_iload_n hx hb dX9_rulesFor_24 rfl (lv_at hl 1 rfl) ?_
          obtain ⟨t25, ht25⟩ : ∃ z, FX9_isFor (g9_head bm) (g9_off bm) (nI i3_13) x1 = z := ⟨_, rfl⟩
          have hE := hE.trans (bnd_eq ht25)
          have hc := c_X9_isFor l G am bm (nI i3_13) x1 ((vp_in_nI (by omega) (by omega))) _ ht25
          refine zgoR (va_runV (As := [.int (nI i3_13), .int x1]) (rest := [.int x2_13]) S (hc _) (cwV 2 S.2.2.2.2 gX9_rulesFor_X9_isFor rfl rfl rfl (by decide +kernel) ⟨Nat.le_of_ble_eq_true rfl, Nat.le_of_ble_eq_true rfl⟩) (zpV hK hP hD (is := [0]) rfl rfl 0 rfl rfl (ci := 9) rfl) rfl rfl hl.1 rfl (lv_room (Nat.le_of_ble_eq_true rfl)) dX9_rulesFor_25 ⟨Nat.zero_le _, Nat.zero_le _⟩) (fun hn25 => ?_)
          refine lv_if_eq (tgt := 37) hx hb dX9_rulesFor_28 (by decide) (fun c28 => ?_) (fun c28 => ?_)
          · have hE := hE.trans (if_pos c28)
            refine lv_iconst (v := 0) hx hb dX9_rulesFor_37 (by decide) ?_
            refine lv_ior hx hb dX9_rulesFor_38 ?_
            refine lv_istore_n (lv' := [(2, .int (x2_13 ||| 0)), (0, .ref (am 0)), (1, .int x1), (3, .int (nI i3_13))]) hx hb dX9_rulesFor_39 rfl hl (by decide) rfl (fun ls hl => ?_)
            refine lv_iinc (v := (nI (i3_13 + 1))) (lv' := [(3, .int (nI (i3_13 + 1))), (2, .int (x2_13 ||| 0)), (0, .ref (am 0)), (1, .int x1)]) hx hb dX9_rulesFor_40 hl (k := 3) rfl (nI_1 i3_13) (by decide) rfl (fun ls hl => ?_)
            try rw [nI_1 i3_13] at hE
            refine lv_goto (tgt := 13) hx hb dX9_rulesFor_43 (by decide) ?_
            exact ih13 (x2_13 ||| 0) (i3_13 + 1) _ (by first | assumption | omega) (by omega) hE (lv_sub hl [2, 3, 1, 0] rfl)
          · have hE := hE.trans (if_neg c28)
            refine lv_iconst (v := 1) hx hb dX9_rulesFor_31 (by decide) ?_
            refine lv_iload_n hx hb dX9_rulesFor_32 rfl (lv_at hl 3 rfl) ?_
            refine lv_ishl hx hb dX9_rulesFor_33 ?_
            refine lv_goto (tgt := 38) hx hb dX9_rulesFor_34 (by decide) ?_
            refine lv_ior hx hb dX9_rulesFor_38 ?_
            refine lv_istore_n (lv' := [(2, .int (x2_13 ||| (1 <<< ((nI i3_13) &&& 31)))), (0, .ref (am 0)), (1, .int x1), (3, .int (nI i3_13))]) hx hb dX9_rulesFor_39 rfl hl (by decide) rfl (fun ls hl => ?_)
            refine lv_iinc (v := (nI (i3_13 + 1))) (lv' := [(3, .int (nI (i3_13 + 1))), (2, .int (x2_13 ||| (1 <<< ((nI i3_13) &&& 31)))), (0, .ref (am 0)), (1, .int x1)]) hx hb dX9_rulesFor_40 hl (k := 3) rfl (nI_1 i3_13) (by decide) rfl (fun ls hl => ?_)
            try rw [nI_1 i3_13] at hE
            refine lv_goto (tgt := 13) hx hb dX9_rulesFor_43 (by decide) ?_
            exact ih13 (x2_13 ||| (1 <<< ((nI i3_13) &&& 31))) (i3_13 + 1) _ (by first | assumption | omega) (by omega) hE (lv_sub hl [2, 3, 1, 0] rfl)
    refine lv_istore_n (lv' := [(3, .int 0), (2, .int 0), (0, .ref (am 0)), (1, .int x1)]) hx hb dX9_rulesFor_12 rfl hl (by decide) rfl (fun ls hl => ?_)
    exact hB13 17 0 0 _ (by first | assumption | omega) (by omega) hE (lv_sub hl [2, 3, 1, 0] rfl)
  · have hE := hE.trans (if_pos c4)
    refine lv_iconst (v := (-1)) hx hb dX9_rulesFor_7 (by decide) ?_
    exact hret _ _ _ hE rfl dX9_rulesFor_8

theorem in_X9_circles_9 : ∀ w ∈ u_ws RX9 TX9 40, w ∈ wsX9_circles := by decide +kernel
def rmX9_circles : Room := { frames := 3, cells := 0, slots := 0, locals := 66 }
set_option maxHeartbeats 4000000 in
set_option maxRecDepth 100000 in
theorem c_X9_circles (l : Launch) (G : zG) (am : Nat → Nat) (bm : S9) (hz_m_rules : ∃ N : Nat, N ≤ 16 ∧ g9_rules bm = nI N) (T : Int32 × (Nat → Int32)) (hT : FX9_circles (g9_rules bm) (g9_strength bm) (g9_over bm) (g9_reached bm) = T) : zI l yX9_circles wsX9_circles rmX9_circles .int G [.ref (am 0)] [w9 G am bm] T.1 [w9 G am (s9_reached bm T.2)] := by
  refine zI.mk (cc := cX9_circles) (maxL := 3) (by decide +kernel) rfl (Nat.le_of_ble_eq_true rfl) (zfl_cons (wf9 _ _ _ _) rfl) ?_
  intro p e s m args below meth c Q A ls S hK hD hA hP hl hret
  have hx := S.1
  have hb := S.2.1
  have hS : va_S A s.heap s.heap [] := va_S.rf
  have hl : lv_has ls 3 [(0, .ref (am 0))] := hl
  obtain ⟨N_m_rules, hN_m_rules, hs_m_rules⟩ := id hz_m_rules
  obtain ⟨N_m_rules, hN_m_rules, hs_m_rules⟩ := id hz_m_rules
  obtain ⟨N_m_rules, hN_m_rules, hs_m_rules⟩ := id hz_m_rules
  obtain ⟨N_m_rules, hN_m_rules, hs_m_rules⟩ := id hz_m_rules
  have hE := hT.symm.trans (FX9_circles.eq_1 _ _ _ _)
  refine lv_iconst (v := 0) hx hb dX9_circles_0 (by decide) ?_
  have hB27 : ∀ (m_reached_27 : Nat → Int32) (H : Heap) (locs : List Loc) (ls : Array Slot), T = FX9_circles_27 (g9_rules bm) (g9_strength bm) (g9_over bm) (g9_reached bm) m_reached_27 → zP G [w9 G am (s9_reached bm m_reached_27)] H → zD A [w9 G am (s9_reached bm m_reached_27)] → va_S A s.heap H locs → lv_has ls 3 [(0, .ref (am 0))] → W p l e rmX9_circles s m args below meth c H locs 0 0 Q (F0 m 27 ls []) := by
    intro m_reached_27 H locs ls hE hP hD hS hl
    have hE := hE.trans (FX9_circles_27.eq_1 _ _ _ _ _)
    refine lv_iconst (v := 0) hx hb dX9_circles_27 (by decide) ?_
    have hB91 : ∀ (m_reached_91 : Nat → Int32) (H : Heap) (locs : List Loc) (ls : Array Slot), T = FX9_circles_91 (g9_rules bm) (g9_strength bm) (g9_over bm) (g9_reached bm) m_reached_91 → zP G [w9 G am (s9_reached bm m_reached_91)] H → zD A [w9 G am (s9_reached bm m_reached_91)] → va_S A s.heap H locs → lv_has ls 3 [(0, .ref (am 0))] → W p l e rmX9_circles s m args below meth c H locs 0 0 Q (F0 m 91 ls []) := by
      intro m_reached_91 H locs ls hE hP hD hS hl
      have hE := hE.trans (FX9_circles_91.eq_1 _ _ _ _ _)
      refine lv_iconst (v := 0) hx hb dX9_circles_91 (by decide) ?_
      refine lv_istore_n (lv' := [(1, .int 0), (0, .ref (am 0))]) hx hb dX9_circles_92 rfl hl (by decide) rfl (fun ls hl => ?_)
      refine lv_iconst (v := 0) hx hb dX9_circles_93 (by decide) ?_
      have hB132 : ∀ (x1_132 : Int32) (H : Heap) (locs : List Loc) (ls : Array Slot), T = FX9_circles_132 (g9_rules bm) (g9_strength bm) (g9_over bm) (g9_reached bm) x1_132 m_reached_91 → zP G [w9 G am (s9_reached bm m_reached_91)] H → zD A [w9 G am (s9_reached bm m_reached_91)] → va_S A s.heap H locs → lv_has ls 3 [(1, .int x1_132)] → W p l e rmX9_circles s m args below meth c H locs 0 0 Q (F0 m 132 ls []) := by
        intro x1_132 H locs ls hE hP hD hS hl
        have hE := hE.trans (FX9_circles_132.eq_1 _ _ _ _ _ _)
        refine lv_iload_n hx hb dX9_circles_132 rfl (lv_at hl 0 rfl) ?_
        exact hret _ _ _ _ _ _ (by subst hE; rfl) rfl hP hS dX9_circles_133
      have hB95 : ∀ (n95 : Nat) (x1_95 : Int32) (i2_95 : Nat) (H : Heap) (locs : List Loc) (ls : Array Slot), (i2_95 ≤ N_m_rules) → 17 ≤ i2_95 + n95 → T = FX9_circles_95 (g9_rules bm) (g9_strength bm) (g9_over bm) (g9_reached bm) (FX9_circles_132 (g9_rules bm) (g9_strength bm) (g9_over bm) (g9_reached bm)) n95 x1_95 (nI i2_95) m_reached_91 → zP G [w9 G am (s9_reached bm m_reached_91)] H → zD A [w9 G am (s9_reached bm m_reached_91)] → va_S A s.heap H locs → lv_has ls 3 [(0, .ref (am 0)), (1, .int x1_95), (2, .int (nI i2_95))] → W p l e rmX9_circles s m args below meth c H locs 0 0 Q (F0 m 95 ls []) := by
        intro n95
        induction n95 with
        | zero =>
          intro x1_95 i2_95 H locs ls hi2_95 hn hE hP hD hS hl
          exact absurd hn (by omega)
        | succ n95 ih95 =>
          intro x1_95 i2_95 H locs ls hi2_95 hn hE hP hD hS hl
          have hE := hE.trans (FX9_circles_95.eq_2 _ _ _ _ _ _ _ _ _)
          refine lv_iload_n hx hb dX9_circles_95 rfl (lv_at hl 2 rfl) ?_
          refine lv_aload_n hx hb dX9_circles_96 rfl (lv_at hl 0 rfl) ?_
          refine zg9_rules S in_X9_circles_9 hK hP 0 rfl (List.mem_of_getElem? (i := 1) rfl) (v := (g9_rules bm)) (gs9_rules_reached _ m_reached_91) dX9_circles_97 ?_
          refine lv_icmp_ge (tgt := 132) hx hb dX9_circles_100 (by decide) (fun c100 => ?_) (fun c100 => ?_)
          · have hE := hE.trans (if_pos c100)
            exact hB132 x1_95 _ _ _ hE hP hD hS (lv_sub hl [1] rfl)
          · have hE := hE.trans (if_neg c100)
            have hl2_95 : i2_95 < N_m_rules := zlt hs_m_rules (by omega) (by omega) c100
            refine lv_iload_n hx hb dX9_circles_103 rfl (lv_at hl 1 rfl) ?_
            refine lv_aload_n hx hb dX9_circles_104 rfl (lv_at hl 0 rfl) ?_
            refine zg9_reached S in_X9_circles_9 hK hP 0 rfl (List.mem_of_getElem? (i := 2) rfl) dX9_circles_105 ?_
            refine lv_iload_n hx hb dX9_circles_108 rfl (lv_at hl 2 rfl) ?_
            refine zl9_reached S hK hP 0 rfl (vp_in_nI (by omega) (by omega)) (f := m_reached_91) (gg9_reached _ m_reached_91) dX9_circles_109 ?_
            refine lv_iload_n hx hb dX9_circles_110 rfl (lv_at hl 2 rfl) ?_
            obtain ⟨t111, ht111⟩ : ∃ z, FX9_has (m_reached_91 (nI i2_95).toNatClampNeg) (nI i2_95) = z := ⟨_, rfl⟩
            have hE := hE.trans (bnd_eq ht111)
            have hc := c_X9_has l G (m_reached_91 (nI i2_95).toNatClampNeg) (nI i2_95) _ ht111
            refine zgoR (va_runS (As := [.int (m_reached_91 (nI i2_95).toNatClampNeg), .int (nI i2_95)]) (rest := [.int x1_95]) S (hc _) (va_cwS 2 S.2.2.2.2 gX9_circles_X9_has rfl rfl rfl (by decide +kernel) ⟨Nat.le_of_ble_eq_true rfl, Nat.le_of_ble_eq_true rfl⟩) (zpS hK hP hD (is := []) rfl rfl) rfl rfl hl.1 rfl (lv_room (Nat.le_of_ble_eq_true rfl)) dX9_circles_111 ⟨Nat.zero_le _, Nat.zero_le _⟩) (fun hn111 => ?_)
            refine lv_if_eq (tgt := 123) hx hb dX9_circles_114 (by decide) (fun c114 => ?_) (fun c114 => ?_)
            · have hE := hE.trans (if_pos c114)
              refine lv_iconst (v := 0) hx hb dX9_circles_123 (by decide) ?_
              refine lv_ior hx hb dX9_circles_124 ?_
              refine lv_istore_n (lv' := [(1, .int (x1_95 ||| 0)), (0, .ref (am 0)), (2, .int (nI i2_95))]) hx hb dX9_circles_125 rfl hl (by decide) rfl (fun ls hl => ?_)
              refine lv_iinc (v := (nI (i2_95 + 1))) (lv' := [(2, .int (nI (i2_95 + 1))), (1, .int (x1_95 ||| 0)), (0, .ref (am 0))]) hx hb dX9_circles_126 hl (k := 2) rfl (nI_1 i2_95) (by decide) rfl (fun ls hl => ?_)
              try rw [nI_1 i2_95] at hE
              refine lv_goto (tgt := 95) hx hb dX9_circles_129 (by decide) ?_
              exact ih95 (x1_95 ||| 0) (i2_95 + 1) _ _ _ (by first | assumption | omega) (by omega) hE hP hD hS (lv_sub hl [2, 1, 0] rfl)
            · have hE := hE.trans (if_neg c114)
              refine lv_iconst (v := 1) hx hb dX9_circles_117 (by decide) ?_
              refine lv_iload_n hx hb dX9_circles_118 rfl (lv_at hl 2 rfl) ?_
              refine lv_ishl hx hb dX9_circles_119 ?_
              refine lv_goto (tgt := 124) hx hb dX9_circles_120 (by decide) ?_
              refine lv_ior hx hb dX9_circles_124 ?_
              refine lv_istore_n (lv' := [(1, .int (x1_95 ||| (1 <<< ((nI i2_95) &&& 31)))), (0, .ref (am 0)), (2, .int (nI i2_95))]) hx hb dX9_circles_125 rfl hl (by decide) rfl (fun ls hl => ?_)
              refine lv_iinc (v := (nI (i2_95 + 1))) (lv' := [(2, .int (nI (i2_95 + 1))), (1, .int (x1_95 ||| (1 <<< ((nI i2_95) &&& 31)))), (0, .ref (am 0))]) hx hb dX9_circles_126 hl (k := 2) rfl (nI_1 i2_95) (by decide) rfl (fun ls hl => ?_)
              try rw [nI_1 i2_95] at hE
              refine lv_goto (tgt := 95) hx hb dX9_circles_129 (by decide) ?_
              exact ih95 (x1_95 ||| (1 <<< ((nI i2_95) &&& 31))) (i2_95 + 1) _ _ _ (by first | assumption | omega) (by omega) hE hP hD hS (lv_sub hl [2, 1, 0] rfl)
      refine lv_istore_n (lv' := [(2, .int 0), (1, .int 0), (0, .ref (am 0))]) hx hb dX9_circles_94 rfl hl (by decide) rfl (fun ls hl => ?_)
      exact hB95 17 0 0 _ _ _ (by first | assumption | omega) (by omega) hE hP hD hS (lv_sub hl [2, 1, 0] rfl)
    have hB29 : ∀ (n29 : Nat) (i1_29 : Nat) (m_reached_29 : Nat → Int32) (H : Heap) (locs : List Loc) (ls : Array Slot), (i1_29 ≤ N_m_rules) → 17 ≤ i1_29 + n29 → T = FX9_circles_29 (g9_rules bm) (g9_strength bm) (g9_over bm) (g9_reached bm) (FX9_circles_91 (g9_rules bm) (g9_strength bm) (g9_over bm) (g9_reached bm)) n29 (nI i1_29) m_reached_29 → zP G [w9 G am (s9_reached bm m_reached_29)] H → zD A [w9 G am (s9_reached bm m_reached_29)] → va_S A s.heap H locs → lv_has ls 3 [(0, .ref (am 0)), (1, .int (nI i1_29))] → W p l e rmX9_circles s m args below meth c H locs 0 0 Q (F0 m 29 ls []) := by
      intro n29
      induction n29 with
      | zero =>
        intro i1_29 m_reached_29 H locs ls hi1_29 hn hE hP hD hS hl
        exact absurd hn (by omega)
      | succ n29 ih29 =>
        intro i1_29 m_reached_29 H locs ls hi1_29 hn hE hP hD hS hl
        have hE := hE.trans (FX9_circles_29.eq_2 _ _ _ _ _ _ _ _)
        refine lv_iload_n hx hb dX9_circles_29 rfl (lv_at hl 1 rfl) ?_
        refine lv_aload_n hx hb dX9_circles_30 rfl (lv_at hl 0 rfl) ?_
        refine zg9_rules S in_X9_circles_9 hK hP 0 rfl (List.mem_of_getElem? (i := 1) rfl) (v := (g9_rules bm)) (gs9_rules_reached _ m_reached_29) dX9_circles_31 ?_
        refine lv_icmp_ge (tgt := 91) hx hb dX9_circles_34 (by decide) (fun c34 => ?_) (fun c34 => ?_)
        · have hE := hE.trans (if_pos c34)
          exact hB91 m_reached_29 _ _ _ hE hP hD hS (lv_sub hl [0] rfl)
        · have hE := hE.trans (if_neg c34)
          have hl1_29 : i1_29 < N_m_rules := zlt hs_m_rules (by omega) (by omega) c34
          refine lv_iconst (v := 0) hx hb dX9_circles_37 (by decide) ?_
          have hB85 : ∀ (m_reached_85 : Nat → Int32) (H : Heap) (locs : List Loc) (ls : Array Slot), T = FX9_circles_85 (g9_rules bm) (g9_strength bm) (g9_over bm) (g9_reached bm) (fun x1_29' m_reached_29' => FX9_circles_29 (g9_rules bm) (g9_strength bm) (g9_over bm) (g9_reached bm) (FX9_circles_91 (g9_rules bm) (g9_strength bm) (g9_over bm) (g9_reached bm)) n29 x1_29' m_reached_29') (FX9_circles_91 (g9_rules bm) (g9_strength bm) (g9_over bm) (g9_reached bm)) (nI i1_29) m_reached_85 → zP G [w9 G am (s9_reached bm m_reached_85)] H → zD A [w9 G am (s9_reached bm m_reached_85)] → va_S A s.heap H locs → lv_has ls 3 [(0, .ref (am 0)), (1, .int (nI i1_29))] → W p l e rmX9_circles s m args below meth c H locs 0 0 Q (F0 m 85 ls []) := by
            intro m_reached_85 H locs ls hE hP hD hS hl
            have hE := hE.trans (FX9_circles_85.eq_1 _ _ _ _ _ _ _ _)
            refine lv_iinc (v := (nI (i1_29 + 1))) (lv' := [(1, .int (nI (i1_29 + 1))), (0, .ref (am 0))]) hx hb dX9_circles_85 hl (k := 1) rfl (nI_1 i1_29) (by decide) rfl (fun ls hl => ?_)
            try rw [nI_1 i1_29] at hE
            refine lv_goto (tgt := 29) hx hb dX9_circles_88 (by decide) ?_
            exact ih29 (i1_29 + 1) m_reached_85 _ _ _ (by first | assumption | omega) (by omega) hE hP hD hS (lv_sub hl [1, 0] rfl)
          have hB39 : ∀ (n39 : Nat) (i2_39 : Nat) (m_reached_39 : Nat → Int32) (H : Heap) (locs : List Loc) (ls : Array Slot), (i2_39 ≤ N_m_rules) → 17 ≤ i2_39 + n39 → T = FX9_circles_39 (g9_rules bm) (g9_strength bm) (g9_over bm) (g9_reached bm) (fun x1_29' m_reached_29' => FX9_circles_29 (g9_rules bm) (g9_strength bm) (g9_over bm) (g9_reached bm) (FX9_circles_91 (g9_rules bm) (g9_strength bm) (g9_over bm) (g9_reached bm)) n29 x1_29' m_reached_29') (FX9_circles_91 (g9_rules bm) (g9_strength bm) (g9_over bm) (g9_reached bm)) (FX9_circles_85 (g9_rules bm) (g9_strength bm) (g9_over bm) (g9_reached bm) (fun x1_29' m_reached_29' => FX9_circles_29 (g9_rules bm) (g9_strength bm) (g9_over bm) (g9_reached bm) (FX9_circles_91 (g9_rules bm) (g9_strength bm) (g9_over bm) (g9_reached bm)) n29 x1_29' m_reached_29') (FX9_circles_91 (g9_rules bm) (g9_strength bm) (g9_over bm) (g9_reached bm))) n39 (nI i1_29) (nI i2_39) m_reached_39 → zP G [w9 G am (s9_reached bm m_reached_39)] H → zD A [w9 G am (s9_reached bm m_reached_39)] → va_S A s.heap H locs → lv_has ls 3 [(0, .ref (am 0)), (1, .int (nI i1_29)), (2, .int (nI i2_39))] → W p l e rmX9_circles s m args below meth c H locs 0 0 Q (F0 m 39 ls []) := by
            intro n39
            induction n39 with
            | zero =>
              intro i2_39 m_reached_39 H locs ls hi2_39 hn hE hP hD hS hl
              exact absurd hn (by omega)
            | succ n39 ih39 =>
              intro i2_39 m_reached_39 H locs ls hi2_39 hn hE hP hD hS hl
              have hE := hE.trans (FX9_circles_39.eq_2 _ _ _ _ _ _ _ _ _ _ _)
              refine lv_iload_n hx hb dX9_circles_39 rfl (lv_at hl 2 rfl) ?_
              refine lv_aload_n hx hb dX9_circles_40 rfl (lv_at hl 0 rfl) ?_
              refine zg9_rules S in_X9_circles_9 hK hP 0 rfl (List.mem_of_getElem? (i := 1) rfl) (v := (g9_rules bm)) (gs9_rules_reached _ m_reached_39) dX9_circles_41 ?_
              refine lv_icmp_ge (tgt := 85) hx hb dX9_circles_44 (by decide) (fun c44 => ?_) (fun c44 => ?_)
              · have hE := hE.trans (if_pos c44)
                exact hB85 m_reached_39 _ _ _ hE hP hD hS (lv_sub hl [0, 1] rfl)
              · have hE := hE.trans (if_neg c44)
                have hl2_39 : i2_39 < N_m_rules := zlt hs_m_rules (by omega) (by omega) c44
                refine lv_aload_n hx hb dX9_circles_47 rfl (lv_at hl 0 rfl) ?_
                refine zg9_reached S in_X9_circles_9 hK hP 0 rfl (List.mem_of_getElem? (i := 2) rfl) dX9_circles_48 ?_
                refine lv_iload_n hx hb dX9_circles_51 rfl (lv_at hl 2 rfl) ?_
                refine lv_dup2_11 hx hb dX9_circles_52 rfl rfl ?_
                refine zl9_reached S hK hP 0 rfl (vp_in_nI (by omega) (by omega)) (f := m_reached_39) (gg9_reached _ m_reached_39) dX9_circles_53 ?_
                refine lv_aload_n hx hb dX9_circles_54 rfl (lv_at hl 0 rfl) ?_
                refine zg9_reached S in_X9_circles_9 hK hP 0 rfl (List.mem_of_getElem? (i := 2) rfl) dX9_circles_55 ?_
                refine lv_iload_n hx hb dX9_circles_58 rfl (lv_at hl 2 rfl) ?_
                refine zl9_reached S hK hP 0 rfl (vp_in_nI (by omega) (by omega)) (f := m_reached_39) (gg9_reached _ m_reached_39) dX9_circles_59 ?_
                refine lv_iload_n hx hb dX9_circles_60 rfl (lv_at hl 1 rfl) ?_
                obtain ⟨t61, ht61⟩ : ∃ z, FX9_has (m_reached_39 (nI i2_39).toNatClampNeg) (nI i1_29) = z := ⟨_, rfl⟩
                have hE := hE.trans (bnd_eq ht61)
                have hc := c_X9_has l G (m_reached_39 (nI i2_39).toNatClampNeg) (nI i1_29) _ ht61
                refine zgoR (va_runS (As := [.int (m_reached_39 (nI i2_39).toNatClampNeg), .int (nI i1_29)]) (rest := [.int (m_reached_39 (nI i2_39).toNatClampNeg), .int (nI i2_39), .ref (am 16)]) S (hc _) (va_cwS 2 S.2.2.2.2 gX9_circles_X9_has rfl rfl rfl (by decide +kernel) ⟨Nat.le_of_ble_eq_true rfl, Nat.le_of_ble_eq_true rfl⟩) (zpS hK hP hD (is := []) rfl rfl) rfl rfl hl.1 rfl (lv_room (Nat.le_of_ble_eq_true rfl)) dX9_circles_61 ⟨Nat.zero_le _, Nat.zero_le _⟩) (fun hn61 => ?_)
                refine lv_if_eq (tgt := 76) hx hb dX9_circles_64 (by decide) (fun c64 => ?_) (fun c64 => ?_)
                · have hE := hE.trans (if_pos c64)
                  refine lv_iconst (v := 0) hx hb dX9_circles_76 (by decide) ?_
                  refine lv_ior hx hb dX9_circles_77 ?_
                  refine zs9_reached (bs1 := [w9 G am (s9_reached (s9_reached bm m_reached_39) (upd m_reached_39 (nI i2_39).toNatClampNeg ((m_reached_39 (nI i2_39).toNatClampNeg) ||| 0)))]) S hK hP hD hS 0 rfl (vp_in_nI (by omega) (by omega)) (f := m_reached_39) (gg9_reached _ m_reached_39) dX9_circles_78 rfl (fun H locs hP hD hS => ?_)
                  refine lv_iinc (v := (nI (i2_39 + 1))) (lv' := [(2, .int (nI (i2_39 + 1))), (0, .ref (am 0)), (1, .int (nI i1_29))]) hx hb dX9_circles_79 hl (k := 2) rfl (nI_1 i2_39) (by decide) rfl (fun ls hl => ?_)
                  try rw [nI_1 i2_39] at hE
                  refine lv_goto (tgt := 39) hx hb dX9_circles_82 (by decide) ?_
                  rw [show (s9_reached (s9_reached bm m_reached_39) (upd m_reached_39 (nI i2_39).toNatClampNeg ((m_reached_39 (nI i2_39).toNatClampNeg) ||| 0))) = (s9_reached bm (upd m_reached_39 (nI i2_39).toNatClampNeg ((m_reached_39 (nI i2_39).toNatClampNeg) ||| 0))) from (ss9_reached _ m_reached_39 (upd m_reached_39 (nI i2_39).toNatClampNeg ((m_reached_39 (nI i2_39).toNatClampNeg) ||| 0)))] at hP hD
                  exact ih39 (i2_39 + 1) (upd m_reached_39 (nI i2_39).toNatClampNeg ((m_reached_39 (nI i2_39).toNatClampNeg) ||| 0)) _ _ _ (by first | assumption | omega) (by omega) hE hP hD hS (lv_sub hl [1, 2, 0] rfl)
                · have hE := hE.trans (if_neg c64)
                  refine lv_aload_n hx hb dX9_circles_67 rfl (lv_at hl 0 rfl) ?_
                  refine zg9_reached S in_X9_circles_9 hK hP 0 rfl (List.mem_of_getElem? (i := 2) rfl) dX9_circles_68 ?_
                  refine lv_iload_n hx hb dX9_circles_71 rfl (lv_at hl 1 rfl) ?_
                  refine zl9_reached S hK hP 0 rfl (vp_in_nI (by omega) (by omega)) (f := m_reached_39) (gg9_reached _ m_reached_39) dX9_circles_72 ?_
                  refine lv_goto (tgt := 77) hx hb dX9_circles_73 (by decide) ?_
                  refine lv_ior hx hb dX9_circles_77 ?_
                  refine zs9_reached (bs1 := [w9 G am (s9_reached (s9_reached bm m_reached_39) (upd m_reached_39 (nI i2_39).toNatClampNeg ((m_reached_39 (nI i2_39).toNatClampNeg) ||| (m_reached_39 (nI i1_29).toNatClampNeg))))]) S hK hP hD hS 0 rfl (vp_in_nI (by omega) (by omega)) (f := m_reached_39) (gg9_reached _ m_reached_39) dX9_circles_78 rfl (fun H locs hP hD hS => ?_)
                  refine lv_iinc (v := (nI (i2_39 + 1))) (lv' := [(2, .int (nI (i2_39 + 1))), (0, .ref (am 0)), (1, .int (nI i1_29))]) hx hb dX9_circles_79 hl (k := 2) rfl (nI_1 i2_39) (by decide) rfl (fun ls hl => ?_)
                  try rw [nI_1 i2_39] at hE
                  refine lv_goto (tgt := 39) hx hb dX9_circles_82 (by decide) ?_
                  rw [show (s9_reached (s9_reached bm m_reached_39) (upd m_reached_39 (nI i2_39).toNatClampNeg ((m_reached_39 (nI i2_39).toNatClampNeg) ||| (m_reached_39 (nI i1_29).toNatClampNeg)))) = (s9_reached bm (upd m_reached_39 (nI i2_39).toNatClampNeg ((m_reached_39 (nI i2_39).toNatClampNeg) ||| (m_reached_39 (nI i1_29).toNatClampNeg)))) from (ss9_reached _ m_reached_39 (upd m_reached_39 (nI i2_39).toNatClampNeg ((m_reached_39 (nI i2_39).toNatClampNeg) ||| (m_reached_39 (nI i1_29).toNatClampNeg))))] at hP hD
                  exact ih39 (i2_39 + 1) (upd m_reached_39 (nI i2_39).toNatClampNeg ((m_reached_39 (nI i2_39).toNatClampNeg) ||| (m_reached_39 (nI i1_29).toNatClampNeg))) _ _ _ (by first | assumption | omega) (by omega) hE hP hD hS (lv_sub hl [1, 2, 0] rfl)
          refine lv_istore_n (lv' := [(2, .int 0), (0, .ref (am 0)), (1, .int (nI i1_29))]) hx hb dX9_circles_38 rfl hl (by decide) rfl (fun ls hl => ?_)
          exact hB39 17 0 m_reached_29 _ _ _ (by first | assumption | omega) (by omega) hE hP hD hS (lv_sub hl [1, 2, 0] rfl)
    refine lv_istore_n (lv' := [(1, .int 0), (0, .ref (am 0))]) hx hb dX9_circles_28 rfl hl (by decide) rfl (fun ls hl => ?_)
    exact hB29 17 0 m_reached_27 _ _ _ (by first | assumption | omega) (by omega) hE hP hD hS (lv_sub hl [1, 0] rfl)
  have hB2 : ∀ (n2 : Nat) (i1_2 : Nat) (m_reached_2 : Nat → Int32) (H : Heap) (locs : List Loc) (ls : Array Slot), (i1_2 ≤ N_m_rules) → 17 ≤ i1_2 + n2 → T = FX9_circles_2 (g9_rules bm) (g9_strength bm) (g9_over bm) (g9_reached bm) (FX9_circles_27 (g9_rules bm) (g9_strength bm) (g9_over bm) (g9_reached bm)) n2 (nI i1_2) m_reached_2 → zP G [w9 G am (s9_reached bm m_reached_2)] H → zD A [w9 G am (s9_reached bm m_reached_2)] → va_S A s.heap H locs → lv_has ls 3 [(0, .ref (am 0)), (1, .int (nI i1_2))] → W p l e rmX9_circles s m args below meth c H locs 0 0 Q (F0 m 2 ls []) := by
    intro n2
    induction n2 with
    | zero =>
      intro i1_2 m_reached_2 H locs ls hi1_2 hn hE hP hD hS hl
      exact absurd hn (by omega)
    | succ n2 ih2 =>
      intro i1_2 m_reached_2 H locs ls hi1_2 hn hE hP hD hS hl
      have hE := hE.trans (FX9_circles_2.eq_2 _ _ _ _ _ _ _ _)
      refine lv_iload_n hx hb dX9_circles_2 rfl (lv_at hl 1 rfl) ?_
      refine lv_aload_n hx hb dX9_circles_3 rfl (lv_at hl 0 rfl) ?_
      refine zg9_rules S in_X9_circles_9 hK hP 0 rfl (List.mem_of_getElem? (i := 1) rfl) (v := (g9_rules bm)) (gs9_rules_reached _ m_reached_2) dX9_circles_4 ?_
      refine lv_icmp_ge (tgt := 27) hx hb dX9_circles_7 (by decide) (fun c7 => ?_) (fun c7 => ?_)
      · have hE := hE.trans (if_pos c7)
        exact hB27 m_reached_2 _ _ _ hE hP hD hS (lv_sub hl [0] rfl)
      · have hE := hE.trans (if_neg c7)
        have hl1_2 : i1_2 < N_m_rules := zlt hs_m_rules (by omega) (by omega) c7
        refine lv_aload_n hx hb dX9_circles_10 rfl (lv_at hl 0 rfl) ?_
        refine zg9_reached S in_X9_circles_9 hK hP 0 rfl (List.mem_of_getElem? (i := 2) rfl) dX9_circles_11 ?_
        refine lv_iload_n hx hb dX9_circles_14 rfl (lv_at hl 1 rfl) ?_
        refine lv_aload_n hx hb dX9_circles_15 rfl (lv_at hl 0 rfl) ?_
        refine lv_iload_n hx hb dX9_circles_16 rfl (lv_at hl 1 rfl) ?_
        obtain ⟨t17, ht17⟩ : ∃ z, FX9_aboveOf (g9_rules bm) (g9_strength bm) (g9_over bm) (nI i1_2) = z := ⟨_, rfl⟩
        have hE := hE.trans (bnd_eq ht17)
        have hc := c_X9_aboveOf l G am (s9_reached bm m_reached_2) (nI i1_2) (hz_m_rules) ((vp_in_nI (by omega) (by omega))) _ (by simp only [gs9_rules_reached, gs9_strength_reached, gs9_over_reached]; exact ht17)
        refine zgoR (va_runV (As := [.int (nI i1_2)]) (rest := [.int (nI i1_2), .ref (am 16)]) S (hc _) (cwV 1 S.2.2.2.2 gX9_circles_X9_aboveOf rfl rfl rfl (by decide +kernel) ⟨Nat.le_of_ble_eq_true rfl, Nat.le_of_ble_eq_true rfl⟩) (zpV hK hP hD (is := [0]) rfl rfl 0 rfl rfl (ci := 9) rfl) rfl rfl hl.1 rfl (lv_room (Nat.le_of_ble_eq_true rfl)) dX9_circles_17 ⟨Nat.zero_le _, Nat.zero_le _⟩) (fun hn17 => ?_)
        refine zs9_reached (bs1 := [w9 G am (s9_reached (s9_reached bm m_reached_2) (upd m_reached_2 (nI i1_2).toNatClampNeg t17))]) S hK hP hD hS 0 rfl (vp_in_nI (by omega) (by omega)) (f := m_reached_2) (gg9_reached _ m_reached_2) dX9_circles_20 rfl (fun H locs hP hD hS => ?_)
        refine lv_iinc (v := (nI (i1_2 + 1))) (lv' := [(1, .int (nI (i1_2 + 1))), (0, .ref (am 0))]) hx hb dX9_circles_21 hl (k := 1) rfl (nI_1 i1_2) (by decide) rfl (fun ls hl => ?_)
        try rw [nI_1 i1_2] at hE
        refine lv_goto (tgt := 2) hx hb dX9_circles_24 (by decide) ?_
        rw [show (s9_reached (s9_reached bm m_reached_2) (upd m_reached_2 (nI i1_2).toNatClampNeg t17)) = (s9_reached bm (upd m_reached_2 (nI i1_2).toNatClampNeg t17)) from (ss9_reached _ m_reached_2 (upd m_reached_2 (nI i1_2).toNatClampNeg t17))] at hP hD
        exact ih2 (i1_2 + 1) (upd m_reached_2 (nI i1_2).toNatClampNeg t17) _ _ _ (by first | assumption | omega) (by omega) hE hP hD hS (lv_sub hl [1, 0] rfl)
  refine lv_istore_n (lv' := [(1, .int 0), (0, .ref (am 0))]) hx hb dX9_circles_1 rfl hl (by decide) rfl (fun ls hl => ?_)
  rw [show bm = (s9_reached bm (g9_reached bm)) from ((se9_reached _).symm)] at hP hD
  exact hB2 17 0 (g9_reached bm) _ _ _ (by first | assumption | omega) (by omega) hE hP hD hS (lv_sub hl [1, 0] rfl)

theorem in_X9_pairs_9 : ∀ w ∈ u_ws RX9 TX9 40, w ∈ wsX9_pairs := by decide +kernel
def rmX9_pairs : Room := { frames := 1, cells := 0, slots := 0, locals := 20 }
set_option maxHeartbeats 4000000 in
set_option maxRecDepth 100000 in
theorem c_X9_pairs (l : Launch) (G : zG) (am : Nat → Nat) (bm : S9) (hz_m_rules : ∃ N : Nat, N ≤ 16 ∧ g9_rules bm = nI N) (T : Int32) (hT : FX9_pairs (g9_rules bm) (g9_over bm) = T) : zR l yX9_pairs wsX9_pairs rmX9_pairs .int G [.ref (am 0)] [w9 G am bm] T := by
  refine zR.mk (cc := cX9_pairs) (maxL := 3) (by decide +kernel) rfl (Nat.le_of_ble_eq_true rfl) ?_
  intro p e s m args below meth c Q A ls S hK hD hA hP hl hret
  have hx := S.1
  have hb := S.2.1
  have hl : lv_has ls 3 [(0, .ref (am 0))] := hl
  obtain ⟨N_m_rules, hN_m_rules, hs_m_rules⟩ := id hz_m_rules
  have hE := hT.symm.trans (FX9_pairs.eq_1 _ _)
  refine lv_iconst (v := 0) hx hb dX9_pairs_0 (by decide) ?_
  refine lv_istore_n (lv' := [(1, .int 0), (0, .ref (am 0))]) hx hb dX9_pairs_1 rfl hl (by decide) rfl (fun ls hl => ?_)
  refine lv_iconst (v := 0) hx hb dX9_pairs_2 (by decide) ?_
  have hB30 : ∀ (x1_30 : Int32) (ls : Array Slot), T = FX9_pairs_30 (g9_rules bm) (g9_over bm) x1_30 → lv_has ls 3 [(1, .int x1_30)] → W p l e rmX9_pairs s m args below meth c s.heap [] 0 0 Q (F0 m 30 ls []) := by
    intro x1_30 ls hE hl
    have hE := hE.trans (FX9_pairs_30.eq_1 _ _ _)
    refine lv_iload_n hx hb dX9_pairs_30 rfl (lv_at hl 0 rfl) ?_
    exact hret _ _ _ hE rfl dX9_pairs_31
  have hB4 : ∀ (n4 : Nat) (x1_4 : Int32) (i2_4 : Nat) (ls : Array Slot), (i2_4 ≤ N_m_rules) → 17 ≤ i2_4 + n4 → T = FX9_pairs_4 (g9_rules bm) (g9_over bm) (FX9_pairs_30 (g9_rules bm) (g9_over bm)) n4 x1_4 (nI i2_4) → lv_has ls 3 [(0, .ref (am 0)), (1, .int x1_4), (2, .int (nI i2_4))] → W p l e rmX9_pairs s m args below meth c s.heap [] 0 0 Q (F0 m 4 ls []) := by
    intro n4
    induction n4 with
    | zero =>
      intro x1_4 i2_4 ls hi2_4 hn hE hl
      exact absurd hn (by omega)
    | succ n4 ih4 =>
      intro x1_4 i2_4 ls hi2_4 hn hE hl
      have hE := hE.trans (FX9_pairs_4.eq_2 _ _ _ _ _ _)
      refine lv_iload_n hx hb dX9_pairs_4 rfl (lv_at hl 2 rfl) ?_
      refine lv_aload_n hx hb dX9_pairs_5 rfl (lv_at hl 0 rfl) ?_
      refine zg9_rules S in_X9_pairs_9 hK hP 0 rfl (List.mem_of_getElem? (i := 1) rfl) (v := (g9_rules bm)) rfl dX9_pairs_6 ?_
      refine lv_icmp_ge (tgt := 30) hx hb dX9_pairs_9 (by decide) (fun c9 => ?_) (fun c9 => ?_)
      · have hE := hE.trans (if_pos c9)
        exact hB30 x1_4 _ hE (lv_sub hl [1] rfl)
      · have hE := hE.trans (if_neg c9)
        have hl2_4 : i2_4 < N_m_rules := zlt hs_m_rules (by omega) (by omega) c9
        refine lv_iload_n hx hb dX9_pairs_12 rfl (lv_at hl 1 rfl) ?_
        refine lv_aload_n hx hb dX9_pairs_13 rfl (lv_at hl 0 rfl) ?_
        refine zg9_over S in_X9_pairs_9 hK hP 0 rfl (List.mem_of_getElem? (i := 2) rfl) dX9_pairs_14 ?_
        refine lv_iload_n hx hb dX9_pairs_17 rfl (lv_at hl 2 rfl) ?_
        refine zl9_over S hK hP 0 rfl (vp_in_nI (by omega) (by omega)) (f := (g9_over bm)) rfl dX9_pairs_18 ?_
        obtain ⟨t19, ht19⟩ : ∃ z, FJ6_bitCount_0f7a4 ((g9_over bm) (nI i2_4).toNatClampNeg) = z := ⟨_, rfl⟩
        have hE := hE.trans (bnd_eq ht19)
        have hc := c_J6_bitCount_0f7a4 l G ((g9_over bm) (nI i2_4).toNatClampNeg) _ ht19
        refine zgoR (va_runS (As := [.int ((g9_over bm) (nI i2_4).toNatClampNeg)]) (rest := [.int x1_4]) S (hc _) (va_cwS 1 S.2.2.2.2 gX9_pairs_J6_bitCount_0f7a4 rfl rfl rfl (by decide +kernel) ⟨Nat.le_of_ble_eq_true rfl, Nat.le_of_ble_eq_true rfl⟩) (zpS hK hP hD (is := []) rfl rfl) rfl rfl hl.1 rfl (lv_room (Nat.le_of_ble_eq_true rfl)) dX9_pairs_19 ⟨Nat.zero_le _, Nat.zero_le _⟩) (fun hn19 => ?_)
        refine lv_iadd hx hb dX9_pairs_22 ?_
        refine lv_istore_n (lv' := [(1, .int (x1_4 + t19)), (0, .ref (am 0)), (2, .int (nI i2_4))]) hx hb dX9_pairs_23 rfl hl (by decide) rfl (fun ls hl => ?_)
        refine lv_iinc (v := (nI (i2_4 + 1))) (lv' := [(2, .int (nI (i2_4 + 1))), (1, .int (x1_4 + t19)), (0, .ref (am 0))]) hx hb dX9_pairs_24 hl (k := 2) rfl (nI_1 i2_4) (by decide) rfl (fun ls hl => ?_)
        try rw [nI_1 i2_4] at hE
        refine lv_goto (tgt := 4) hx hb dX9_pairs_27 (by decide) ?_
        exact ih4 (x1_4 + t19) (i2_4 + 1) _ (by first | assumption | omega) (by omega) hE (lv_sub hl [2, 1, 0] rfl)
  refine lv_istore_n (lv' := [(2, .int 0), (1, .int 0), (0, .ref (am 0))]) hx hb dX9_pairs_3 rfl hl (by decide) rfl (fun ls hl => ?_)
  exact hB4 17 0 0 _ (by first | assumption | omega) (by omega) hE (lv_sub hl [2, 1, 0] rfl)

theorem in_X9_missing_9 : ∀ w ∈ u_ws RX9 TX9 40, w ∈ wsX9_missing := by decide +kernel
def rmX9_missing : Room := { frames := 7, cells := 0, slots := 0, locals := 155 }
set_option maxHeartbeats 4000000 in
set_option maxRecDepth 100000 in
theorem c_X9_missing (l : Launch) (G : zG) (am : Nat → Nat) (bm : S9) (hz_m_rules : ∃ N : Nat, N ≤ 16 ∧ g9_rules bm = nI N) (T : Int32 × (Nat → Int32) × (Nat → Int32) × (Nat → Int32) × (Int32)) (hT : FX9_missing (g9_facts bm) (g9_rules bm) (g9_kind bm) (g9_head bm) (g9_body bm) (g9_except bm) (g9_strength bm) (g9_off bm) (g9_over bm) (g9_came bm) (g9_known bm) (g9_fresh bm) (g9_rounds bm) = T) : zI l yX9_missing wsX9_missing rmX9_missing .int G [.ref (am 0)] [w9 G am bm] T.1 [w9 G am (s9_rounds (s9_fresh (s9_known (s9_came bm T.2.1) T.2.2.1) T.2.2.2.1) T.2.2.2.2)] := by
  refine zI.mk (cc := cX9_missing) (maxL := 1) (by decide +kernel) rfl (Nat.le_of_ble_eq_true rfl) (zfl_cons (wf9 _ _ _ _) rfl) ?_
  intro p e s m args below meth c Q A ls S hK hD hA hP hl hret
  have hx := S.1
  have hb := S.2.1
  have hS : va_S A s.heap s.heap [] := va_S.rf
  have hl : lv_has ls 1 [(0, .ref (am 0))] := hl
  have hE := hT.symm.trans (FX9_missing.eq_1 _ _ _ _ _ _ _ _ _ _ _ _ _)
  refine lv_aload_n hx hb dX9_missing_0 rfl (lv_at hl 0 rfl) ?_
  obtain ⟨t1, ht1⟩ : ∃ z, FX9_tags (g9_facts bm) (g9_rules bm) (g9_kind bm) (g9_head bm) (g9_body bm) (g9_except bm) (g9_strength bm) (g9_off bm) (g9_over bm) (g9_came bm) (g9_known bm) (g9_fresh bm) (g9_rounds bm) = z := ⟨_, rfl⟩
  have hE := hE.trans (bnd_eq ht1)
  have hc := c_X9_tags l G am bm (hz_m_rules) _ ht1
  refine zgoV (bs' := [w9 G am (s9_rounds (s9_fresh (s9_known (s9_came bm t1.1) t1.2.1) t1.2.2.1) t1.2.2.2)]) hc [0] rfl rfl rfl hP hD hS hA (va_runV (As := []) (rest := []) S (hc.2 _) (cwV 0 S.2.2.2.2 gX9_missing_X9_tags rfl rfl rfl (by decide +kernel) ⟨Nat.le_of_ble_eq_true rfl, Nat.le_of_ble_eq_true rfl⟩) (zpV hK hP hD (is := [0]) rfl rfl 0 rfl rfl (ci := 9) rfl) rfl rfl hl.1 rfl (lv_room (Nat.le_of_ble_eq_true rfl)) dX9_missing_1 ⟨Nat.zero_le _, Nat.zero_le _⟩) (fun H locs hP hD hS => ?_)
  refine lv_ldc (v := 1048575) hx hb S.2.2.2.1 (S.2.2.2.2 _ (List.mem_of_getElem? (i := 1) rfl)) dX9_missing_4 ?_
  refine lv_aload_n hx hb dX9_missing_6 rfl (lv_at hl 0 rfl) ?_
  refine zg9_known S in_X9_missing_9 hK hP 0 rfl (List.mem_of_getElem? (i := 2) rfl) dX9_missing_7 ?_
  refine lv_iconst (v := 2) hx hb dX9_missing_10 (by decide) ?_
  refine zl9_known S hK hP 0 rfl (zin_k (n := 2) rfl (by decide) (by decide)) (f := t1.2.1) ((gs9_known_rounds _ t1.2.2.2).trans ((gs9_known_fresh _ t1.2.2.1).trans (gg9_known _ t1.2.1))) dX9_missing_11 ?_
  refine lv_aload_n hx hb dX9_missing_12 rfl (lv_at hl 0 rfl) ?_
  refine zg9_known S in_X9_missing_9 hK hP 0 rfl (List.mem_of_getElem? (i := 2) rfl) dX9_missing_13 ?_
  refine lv_iconst (v := 3) hx hb dX9_missing_16 (by decide) ?_
  refine zl9_known S hK hP 0 rfl (zin_k (n := 3) rfl (by decide) (by decide)) (f := t1.2.1) ((gs9_known_rounds _ t1.2.2.2).trans ((gs9_known_fresh _ t1.2.2.1).trans (gg9_known _ t1.2.1))) dX9_missing_17 ?_
  refine lv_ior hx hb dX9_missing_18 ?_
  refine lv_iconst (v := (-1)) hx hb dX9_missing_19 (by decide) ?_
  refine lv_ixor hx hb dX9_missing_20 ?_
  refine lv_iand hx hb dX9_missing_21 ?_
  exact hret _ _ _ _ _ _ (by subst hE; rfl) rfl hP hS dX9_missing_22

theorem in_X9_bothSides_9 : ∀ w ∈ u_ws RX9 TX9 40, w ∈ wsX9_bothSides := by decide +kernel
def rmX9_bothSides : Room := { frames := 7, cells := 0, slots := 0, locals := 155 }
set_option maxHeartbeats 4000000 in
set_option maxRecDepth 100000 in
theorem c_X9_bothSides (l : Launch) (G : zG) (am : Nat → Nat) (bm : S9) (hz_m_rules : ∃ N : Nat, N ≤ 16 ∧ g9_rules bm = nI N) (T : Int32 × (Nat → Int32) × (Nat → Int32) × (Nat → Int32) × (Int32)) (hT : FX9_bothSides (g9_facts bm) (g9_rules bm) (g9_kind bm) (g9_head bm) (g9_body bm) (g9_except bm) (g9_strength bm) (g9_off bm) (g9_over bm) (g9_came bm) (g9_known bm) (g9_fresh bm) (g9_rounds bm) = T) : zI l yX9_bothSides wsX9_bothSides rmX9_bothSides .int G [.ref (am 0)] [w9 G am bm] T.1 [w9 G am (s9_rounds (s9_fresh (s9_known (s9_came bm T.2.1) T.2.2.1) T.2.2.2.1) T.2.2.2.2)] := by
  refine zI.mk (cc := cX9_bothSides) (maxL := 1) (by decide +kernel) rfl (Nat.le_of_ble_eq_true rfl) (zfl_cons (wf9 _ _ _ _) rfl) ?_
  intro p e s m args below meth c Q A ls S hK hD hA hP hl hret
  have hx := S.1
  have hb := S.2.1
  have hS : va_S A s.heap s.heap [] := va_S.rf
  have hl : lv_has ls 1 [(0, .ref (am 0))] := hl
  have hE := hT.symm.trans (FX9_bothSides.eq_1 _ _ _ _ _ _ _ _ _ _ _ _ _)
  refine lv_aload_n hx hb dX9_bothSides_0 rfl (lv_at hl 0 rfl) ?_
  obtain ⟨t1, ht1⟩ : ∃ z, FX9_tags (g9_facts bm) (g9_rules bm) (g9_kind bm) (g9_head bm) (g9_body bm) (g9_except bm) (g9_strength bm) (g9_off bm) (g9_over bm) (g9_came bm) (g9_known bm) (g9_fresh bm) (g9_rounds bm) = z := ⟨_, rfl⟩
  have hE := hE.trans (bnd_eq ht1)
  have hc := c_X9_tags l G am bm (hz_m_rules) _ ht1
  refine zgoV (bs' := [w9 G am (s9_rounds (s9_fresh (s9_known (s9_came bm t1.1) t1.2.1) t1.2.2.1) t1.2.2.2)]) hc [0] rfl rfl rfl hP hD hS hA (va_runV (As := []) (rest := []) S (hc.2 _) (cwV 0 S.2.2.2.2 gX9_bothSides_X9_tags rfl rfl rfl (by decide +kernel) ⟨Nat.le_of_ble_eq_true rfl, Nat.le_of_ble_eq_true rfl⟩) (zpV hK hP hD (is := [0]) rfl rfl 0 rfl rfl (ci := 9) rfl) rfl rfl hl.1 rfl (lv_room (Nat.le_of_ble_eq_true rfl)) dX9_bothSides_1 ⟨Nat.zero_le _, Nat.zero_le _⟩) (fun H locs hP hD hS => ?_)
  refine lv_aload_n hx hb dX9_bothSides_4 rfl (lv_at hl 0 rfl) ?_
  refine zg9_known S in_X9_bothSides_9 hK hP 0 rfl (List.mem_of_getElem? (i := 1) rfl) dX9_bothSides_5 ?_
  refine lv_iconst (v := 2) hx hb dX9_bothSides_8 (by decide) ?_
  refine zl9_known S hK hP 0 rfl (zin_k (n := 2) rfl (by decide) (by decide)) (f := t1.2.1) ((gs9_known_rounds _ t1.2.2.2).trans ((gs9_known_fresh _ t1.2.2.1).trans (gg9_known _ t1.2.1))) dX9_bothSides_9 ?_
  refine lv_aload_n hx hb dX9_bothSides_10 rfl (lv_at hl 0 rfl) ?_
  refine zg9_known S in_X9_bothSides_9 hK hP 0 rfl (List.mem_of_getElem? (i := 1) rfl) dX9_bothSides_11 ?_
  refine lv_iconst (v := 2) hx hb dX9_bothSides_14 (by decide) ?_
  refine zl9_known S hK hP 0 rfl (zin_k (n := 2) rfl (by decide) (by decide)) (f := t1.2.1) ((gs9_known_rounds _ t1.2.2.2).trans ((gs9_known_fresh _ t1.2.2.1).trans (gg9_known _ t1.2.1))) dX9_bothSides_15 ?_
  refine lv_bipush (v := 10) hx hb dX9_bothSides_16 (by decide) ?_
  refine lv_ishr hx hb dX9_bothSides_18 ?_
  refine lv_aload_n hx hb dX9_bothSides_19 rfl (lv_at hl 0 rfl) ?_
  refine zg9_known S in_X9_bothSides_9 hK hP 0 rfl (List.mem_of_getElem? (i := 1) rfl) dX9_bothSides_20 ?_
  refine lv_iconst (v := 2) hx hb dX9_bothSides_23 (by decide) ?_
  refine zl9_known S hK hP 0 rfl (zin_k (n := 2) rfl (by decide) (by decide)) (f := t1.2.1) ((gs9_known_rounds _ t1.2.2.2).trans ((gs9_known_fresh _ t1.2.2.1).trans (gg9_known _ t1.2.1))) dX9_bothSides_24 ?_
  refine lv_bipush (v := 10) hx hb dX9_bothSides_25 (by decide) ?_
  refine lv_ishl hx hb dX9_bothSides_27 ?_
  refine lv_ldc (v := 1048575) hx hb S.2.2.2.1 (S.2.2.2.2 _ (List.mem_of_getElem? (i := 2) rfl)) dX9_bothSides_28 ?_
  refine lv_iand hx hb dX9_bothSides_30 ?_
  refine lv_ior hx hb dX9_bothSides_31 ?_
  refine lv_iand hx hb dX9_bothSides_32 ?_
  exact hret _ _ _ _ _ _ (by subst hE; rfl) rfl hP hS dX9_bothSides_33

theorem in_X9_cameMany_9 : ∀ w ∈ u_ws RX9 TX9 40, w ∈ wsX9_cameMany := by decide +kernel
def rmX9_cameMany : Room := { frames := 7, cells := 0, slots := 0, locals := 155 }
set_option maxHeartbeats 4000000 in
set_option maxRecDepth 100000 in
theorem c_X9_cameMany (l : Launch) (G : zG) (am : Nat → Nat) (bm : S9) (hz_m_rules : ∃ N : Nat, N ≤ 16 ∧ g9_rules bm = nI N) (T : Int32 × (Nat → Int32) × (Nat → Int32) × (Nat → Int32) × (Int32)) (hT : FX9_cameMany (g9_facts bm) (g9_rules bm) (g9_kind bm) (g9_head bm) (g9_body bm) (g9_except bm) (g9_strength bm) (g9_off bm) (g9_over bm) (g9_came bm) (g9_known bm) (g9_fresh bm) (g9_rounds bm) = T) : zI l yX9_cameMany wsX9_cameMany rmX9_cameMany .int G [.ref (am 0)] [w9 G am bm] T.1 [w9 G am (s9_rounds (s9_fresh (s9_known (s9_came bm T.2.1) T.2.2.1) T.2.2.2.1) T.2.2.2.2)] := by
  refine zI.mk (cc := cX9_cameMany) (maxL := 3) (by decide +kernel) rfl (Nat.le_of_ble_eq_true rfl) (zfl_cons (wf9 _ _ _ _) rfl) ?_
  intro p e s m args below meth c Q A ls S hK hD hA hP hl hret
  have hx := S.1
  have hb := S.2.1
  have hS : va_S A s.heap s.heap [] := va_S.rf
  have hl : lv_has ls 3 [(0, .ref (am 0))] := hl
  have hE := hT.symm.trans (FX9_cameMany.eq_1 _ _ _ _ _ _ _ _ _ _ _ _ _)
  refine lv_aload_n hx hb dX9_cameMany_0 rfl (lv_at hl 0 rfl) ?_
  obtain ⟨t1, ht1⟩ : ∃ z, FX9_tags (g9_facts bm) (g9_rules bm) (g9_kind bm) (g9_head bm) (g9_body bm) (g9_except bm) (g9_strength bm) (g9_off bm) (g9_over bm) (g9_came bm) (g9_known bm) (g9_fresh bm) (g9_rounds bm) = z := ⟨_, rfl⟩
  have hE := hE.trans (bnd_eq ht1)
  have hc := c_X9_tags l G am bm (hz_m_rules) _ ht1
  refine zgoV (bs' := [w9 G am (s9_rounds (s9_fresh (s9_known (s9_came bm t1.1) t1.2.1) t1.2.2.1) t1.2.2.2)]) hc [0] rfl rfl rfl hP hD hS hA (va_runV (As := []) (rest := []) S (hc.2 _) (cwV 0 S.2.2.2.2 gX9_cameMany_X9_tags rfl rfl rfl (by decide +kernel) ⟨Nat.le_of_ble_eq_true rfl, Nat.le_of_ble_eq_true rfl⟩) (zpV hK hP hD (is := [0]) rfl rfl 0 rfl rfl (ci := 9) rfl) rfl rfl hl.1 rfl (lv_room (Nat.le_of_ble_eq_true rfl)) dX9_cameMany_1 ⟨Nat.zero_le _, Nat.zero_le _⟩) (fun H locs hP hD hS => ?_)
  refine lv_iconst (v := 0) hx hb dX9_cameMany_4 (by decide) ?_
  refine lv_istore_n (lv' := [(1, .int 0), (0, .ref (am 0))]) hx hb dX9_cameMany_5 rfl hl (by decide) rfl (fun ls hl => ?_)
  refine lv_iconst (v := 0) hx hb dX9_cameMany_6 (by decide) ?_
  have hB31 : ∀ (x1_31 : Int32) (H : Heap) (locs : List Loc) (ls : Array Slot), T = FX9_cameMany_31 (g9_facts bm) (g9_rules bm) (g9_kind bm) (g9_head bm) (g9_body bm) (g9_except bm) (g9_strength bm) (g9_off bm) (g9_over bm) (g9_came bm) (g9_known bm) (g9_fresh bm) (g9_rounds bm) x1_31 t1.1 t1.2.1 t1.2.2.1 t1.2.2.2 → zP G [w9 G am (s9_rounds (s9_fresh (s9_known (s9_came bm t1.1) t1.2.1) t1.2.2.1) t1.2.2.2)] H → zD A [w9 G am (s9_rounds (s9_fresh (s9_known (s9_came bm t1.1) t1.2.1) t1.2.2.1) t1.2.2.2)] → va_S A s.heap H locs → lv_has ls 3 [(1, .int x1_31)] → W p l e rmX9_cameMany s m args below meth c H locs 0 0 Q (F0 m 31 ls []) := by
    intro x1_31 H locs ls hE hP hD hS hl
    have hE := hE.trans (FX9_cameMany_31.eq_1 _ _ _ _ _ _ _ _ _ _ _ _ _ _ _ _ _ _)
    refine lv_iload_n hx hb dX9_cameMany_31 rfl (lv_at hl 0 rfl) ?_
    exact hret _ _ _ _ _ _ (by subst hE; rfl) rfl hP hS dX9_cameMany_32
  have hB8 : ∀ (n8 : Nat) (x1_8 : Int32) (i2_8 : Nat) (H : Heap) (locs : List Loc) (ls : Array Slot), (i2_8 ≤ 4) → 5 ≤ i2_8 + n8 → T = FX9_cameMany_8 (g9_facts bm) (g9_rules bm) (g9_kind bm) (g9_head bm) (g9_body bm) (g9_except bm) (g9_strength bm) (g9_off bm) (g9_over bm) (g9_came bm) (g9_known bm) (g9_fresh bm) (g9_rounds bm) (FX9_cameMany_31 (g9_facts bm) (g9_rules bm) (g9_kind bm) (g9_head bm) (g9_body bm) (g9_except bm) (g9_strength bm) (g9_off bm) (g9_over bm) (g9_came bm) (g9_known bm) (g9_fresh bm) (g9_rounds bm)) n8 x1_8 (nI i2_8) t1.1 t1.2.1 t1.2.2.1 t1.2.2.2 → zP G [w9 G am (s9_rounds (s9_fresh (s9_known (s9_came bm t1.1) t1.2.1) t1.2.2.1) t1.2.2.2)] H → zD A [w9 G am (s9_rounds (s9_fresh (s9_known (s9_came bm t1.1) t1.2.1) t1.2.2.1) t1.2.2.2)] → va_S A s.heap H locs → lv_has ls 3 [(0, .ref (am 0)), (1, .int x1_8), (2, .int (nI i2_8))] → W p l e rmX9_cameMany s m args below meth c H locs 0 0 Q (F0 m 8 ls []) := by
    intro n8
    induction n8 with
    | zero =>
      intro x1_8 i2_8 H locs ls hi2_8 hn hE hP hD hS hl
      exact absurd hn (by omega)
    | succ n8 ih8 =>
      intro x1_8 i2_8 H locs ls hi2_8 hn hE hP hD hS hl
      have hE := hE.trans (FX9_cameMany_8.eq_2 _ _ _ _ _ _ _ _ _ _ _ _ _ _ _ _ _ _ _ _ _)
      refine lv_iload_n hx hb dX9_cameMany_8 rfl (lv_at hl 2 rfl) ?_
      refine lv_iconst (v := 4) hx hb dX9_cameMany_9 (by decide) ?_
      refine lv_icmp_ge (tgt := 31) hx hb dX9_cameMany_10 (by decide) (fun c10 => ?_) (fun c10 => ?_)
      · have hE := hE.trans (if_pos c10)
        exact hB31 x1_8 _ _ _ hE hP hD hS (lv_sub hl [1] rfl)
      · have hE := hE.trans (if_neg c10)
        have hl2_8 : i2_8 < 4 := zlt (N := 4) rfl (by omega) (by omega) c10
        refine lv_iload_n hx hb dX9_cameMany_13 rfl (lv_at hl 1 rfl) ?_
        refine lv_aload_n hx hb dX9_cameMany_14 rfl (lv_at hl 0 rfl) ?_
        refine zg9_known S in_X9_cameMany_9 hK hP 0 rfl (List.mem_of_getElem? (i := 1) rfl) dX9_cameMany_15 ?_
        refine lv_iload_n hx hb dX9_cameMany_18 rfl (lv_at hl 2 rfl) ?_
        refine zl9_known S hK hP 0 rfl (vp_in_nI (by omega) (by omega)) (f := t1.2.1) ((gs9_known_rounds _ t1.2.2.2).trans ((gs9_known_fresh _ t1.2.2.1).trans (gg9_known _ t1.2.1))) dX9_cameMany_19 ?_
        obtain ⟨t20, ht20⟩ : ∃ z, FJ6_bitCount_0f7a4 (t1.2.1 (nI i2_8).toNatClampNeg) = z := ⟨_, rfl⟩
        have hE := hE.trans (bnd_eq ht20)
        have hc := c_J6_bitCount_0f7a4 l G (t1.2.1 (nI i2_8).toNatClampNeg) _ ht20
        refine zgoR (va_runS (As := [.int (t1.2.1 (nI i2_8).toNatClampNeg)]) (rest := [.int x1_8]) S (hc _) (va_cwS 1 S.2.2.2.2 gX9_cameMany_J6_bitCount_0f7a4 rfl rfl rfl (by decide +kernel) ⟨Nat.le_of_ble_eq_true rfl, Nat.le_of_ble_eq_true rfl⟩) (zpS hK hP hD (is := []) rfl rfl) rfl rfl hl.1 rfl (lv_room (Nat.le_of_ble_eq_true rfl)) dX9_cameMany_20 ⟨Nat.zero_le _, Nat.zero_le _⟩) (fun hn20 => ?_)
        refine lv_iadd hx hb dX9_cameMany_23 ?_
        refine lv_istore_n (lv' := [(1, .int (x1_8 + t20)), (0, .ref (am 0)), (2, .int (nI i2_8))]) hx hb dX9_cameMany_24 rfl hl (by decide) rfl (fun ls hl => ?_)
        refine lv_iinc (v := (nI (i2_8 + 1))) (lv' := [(2, .int (nI (i2_8 + 1))), (1, .int (x1_8 + t20)), (0, .ref (am 0))]) hx hb dX9_cameMany_25 hl (k := 2) rfl (nI_1 i2_8) (by decide) rfl (fun ls hl => ?_)
        try rw [nI_1 i2_8] at hE
        refine lv_goto (tgt := 8) hx hb dX9_cameMany_28 (by decide) ?_
        exact ih8 (x1_8 + t20) (i2_8 + 1) _ _ _ (by first | assumption | omega) (by omega) hE hP hD hS (lv_sub hl [2, 1, 0] rfl)
  refine lv_istore_n (lv' := [(2, .int 0), (1, .int 0), (0, .ref (am 0))]) hx hb dX9_cameMany_7 rfl hl (by decide) rfl (fun ls hl => ?_)
  exact hB8 5 0 0 _ _ _ (by first | assumption | omega) (by omega) hE hP hD hS (lv_sub hl [2, 1, 0] rfl)

theorem in_X9_roundMany_9 : ∀ w ∈ u_ws RX9 TX9 40, w ∈ wsX9_roundMany := by decide +kernel
def rmX9_roundMany : Room := { frames := 7, cells := 0, slots := 0, locals := 155 }
set_option maxHeartbeats 4000000 in
set_option maxRecDepth 100000 in
theorem c_X9_roundMany (l : Launch) (G : zG) (am : Nat → Nat) (bm : S9) (hz_m_rules : ∃ N : Nat, N ≤ 16 ∧ g9_rules bm = nI N) (T : Int32 × (Nat → Int32) × (Nat → Int32) × (Nat → Int32) × (Int32)) (hT : FX9_roundMany (g9_facts bm) (g9_rules bm) (g9_kind bm) (g9_head bm) (g9_body bm) (g9_except bm) (g9_strength bm) (g9_off bm) (g9_over bm) (g9_came bm) (g9_known bm) (g9_fresh bm) (g9_rounds bm) = T) : zI l yX9_roundMany wsX9_roundMany rmX9_roundMany .int G [.ref (am 0)] [w9 G am bm] T.1 [w9 G am (s9_rounds (s9_fresh (s9_known (s9_came bm T.2.1) T.2.2.1) T.2.2.2.1) T.2.2.2.2)] := by
  refine zI.mk (cc := cX9_roundMany) (maxL := 1) (by decide +kernel) rfl (Nat.le_of_ble_eq_true rfl) (zfl_cons (wf9 _ _ _ _) rfl) ?_
  intro p e s m args below meth c Q A ls S hK hD hA hP hl hret
  have hx := S.1
  have hb := S.2.1
  have hS : va_S A s.heap s.heap [] := va_S.rf
  have hl : lv_has ls 1 [(0, .ref (am 0))] := hl
  have hE := hT.symm.trans (FX9_roundMany.eq_1 _ _ _ _ _ _ _ _ _ _ _ _ _)
  refine lv_aload_n hx hb dX9_roundMany_0 rfl (lv_at hl 0 rfl) ?_
  obtain ⟨t1, ht1⟩ : ∃ z, FX9_tags (g9_facts bm) (g9_rules bm) (g9_kind bm) (g9_head bm) (g9_body bm) (g9_except bm) (g9_strength bm) (g9_off bm) (g9_over bm) (g9_came bm) (g9_known bm) (g9_fresh bm) (g9_rounds bm) = z := ⟨_, rfl⟩
  have hE := hE.trans (bnd_eq ht1)
  have hc := c_X9_tags l G am bm (hz_m_rules) _ ht1
  refine zgoV (bs' := [w9 G am (s9_rounds (s9_fresh (s9_known (s9_came bm t1.1) t1.2.1) t1.2.2.1) t1.2.2.2)]) hc [0] rfl rfl rfl hP hD hS hA (va_runV (As := []) (rest := []) S (hc.2 _) (cwV 0 S.2.2.2.2 gX9_roundMany_X9_tags rfl rfl rfl (by decide +kernel) ⟨Nat.le_of_ble_eq_true rfl, Nat.le_of_ble_eq_true rfl⟩) (zpV hK hP hD (is := [0]) rfl rfl 0 rfl rfl (ci := 9) rfl) rfl rfl hl.1 rfl (lv_room (Nat.le_of_ble_eq_true rfl)) dX9_roundMany_1 ⟨Nat.zero_le _, Nat.zero_le _⟩) (fun H locs hP hD hS => ?_)
  refine lv_aload_n hx hb dX9_roundMany_4 rfl (lv_at hl 0 rfl) ?_
  refine zg9_rounds S in_X9_roundMany_9 hK hP 0 rfl (List.mem_of_getElem? (i := 1) rfl) (v := t1.2.2.2) (gg9_rounds _ t1.2.2.2) dX9_roundMany_5 ?_
  exact hret _ _ _ _ _ _ (by subst hE; rfl) rfl hP hS dX9_roundMany_8

theorem in_X9_count_9 : ∀ w ∈ u_ws RX9 TX9 40, w ∈ wsX9_count := by decide +kernel
def rmX9_count : Room := { frames := 8, cells := 0, slots := 0, locals := 177 }
set_option maxHeartbeats 4000000 in
set_option maxRecDepth 100000 in
theorem c_X9_count (l : Launch) (G : zG) (am : Nat → Nat) (bm : S9) (x1 : Int32) (hz_m_rules : ∃ N : Nat, N ≤ 16 ∧ g9_rules bm = nI N) (T : Int32 × (Nat → Int32) × (Nat → Int32) × (Nat → Int32) × (Nat → Int32) × (Int32)) (hT : FX9_count (g9_facts bm) (g9_rules bm) (g9_kind bm) (g9_head bm) (g9_body bm) (g9_except bm) (g9_strength bm) (g9_off bm) (g9_over bm) (g9_done bm) (g9_undone bm) (g9_taped bm) (g9_papers bm) (g9_reached bm) (g9_came bm) (g9_known bm) (g9_fresh bm) (g9_rounds bm) x1 = T) : zI l yX9_count wsX9_count rmX9_count .int G [.ref (am 0), .int x1] [w9 G am bm] T.1 [w9 G am (s9_rounds (s9_fresh (s9_known (s9_came (s9_reached bm T.2.1) T.2.2.1) T.2.2.2.1) T.2.2.2.2.1) T.2.2.2.2.2)] := by
  refine zI.mk (cc := cX9_count) (maxL := 2) (by decide +kernel) rfl (Nat.le_of_ble_eq_true rfl) (zfl_cons (wf9 _ _ _ _) rfl) ?_
  intro p e s m args below meth c Q A ls S hK hD hA hP hl hret
  have hx := S.1
  have hb := S.2.1
  have hS : va_S A s.heap s.heap [] := va_S.rf
  have hl : lv_has ls 2 [(0, .ref (am 0)), (1, .int x1)] := hl
  have hE := hT.symm.trans (FX9_count.eq_1 _ _ _ _ _ _ _ _ _ _ _ _ _ _ _ _ _ _ _)
  refine lv_iload_n hx hb dX9_count_0 rfl (lv_at hl 1 rfl) ?_
  by_cases c1_0 : x1 = 0
  · have hE := hE.trans (if_pos c1_0)
    refine lv_tableIn (off := 63) (tgt := 64) hx hb dX9_count_1 (by rw [c1_0]; decide) (by rw [c1_0]; decide) (by rw [c1_0]; rfl) (by decide) ?_
    refine lv_aload_n hx hb dX9_count_64 rfl (lv_at hl 0 rfl) ?_
    refine zg9_facts S in_X9_count_9 hK hP 0 rfl (List.mem_of_getElem? (i := 1) rfl) (v := (g9_facts bm)) rfl dX9_count_65 ?_
    rw [show bm = (s9_rounds (s9_fresh (s9_known (s9_came (s9_reached bm (g9_reached bm)) (g9_came bm)) (g9_known bm)) (g9_fresh bm)) (g9_rounds bm)) from ((((((se9_reached _).symm).trans (((se9_came _).symm).trans (congrArg (fun v => s9_came (s9_reached bm (g9_reached bm)) v) (gs9_came_reached _ (g9_reached bm))))).trans (((se9_known _).symm).trans (congrArg (fun v => s9_known (s9_came (s9_reached bm (g9_reached bm)) (g9_came bm)) v) ((gs9_known_came _ (g9_came bm)).trans (gs9_known_reached _ (g9_reached bm)))))).trans (((se9_fresh _).symm).trans (congrArg (fun v => s9_fresh (s9_known (s9_came (s9_reached bm (g9_reached bm)) (g9_came bm)) (g9_known bm)) v) ((gs9_fresh_known _ (g9_known bm)).trans ((gs9_fresh_came _ (g9_came bm)).trans (gs9_fresh_reached _ (g9_reached bm))))))).trans (((se9_rounds _).symm).trans (congrArg (fun v => s9_rounds (s9_fresh (s9_known (s9_came (s9_reached bm (g9_reached bm)) (g9_came bm)) (g9_known bm)) (g9_fresh bm)) v) ((gs9_rounds_fresh _ (g9_fresh bm)).trans ((gs9_rounds_known _ (g9_known bm)).trans ((gs9_rounds_came _ (g9_came bm)).trans (gs9_rounds_reached _ (g9_reached bm))))))))] at hP hD
    exact hret _ _ _ _ _ _ (by subst hE; rfl) rfl hP hS dX9_count_68
  have hE := hE.trans (if_neg c1_0)
  by_cases c1_1 : x1 = 1
  · have hE := hE.trans (if_pos c1_1)
    refine lv_tableIn (off := 68) (tgt := 69) hx hb dX9_count_1 (by rw [c1_1]; decide) (by rw [c1_1]; decide) (by rw [c1_1]; rfl) (by decide) ?_
    refine lv_aload_n hx hb dX9_count_69 rfl (lv_at hl 0 rfl) ?_
    obtain ⟨t70, ht70⟩ : ∃ z, FX9_circles (g9_rules bm) (g9_strength bm) (g9_over bm) (g9_reached bm) = z := ⟨_, rfl⟩
    have hE := hE.trans (bnd_eq ht70)
    have hc := c_X9_circles l G am bm (hz_m_rules) _ ht70
    refine zgoI (bs' := [w9 G am (s9_reached bm t70.2)]) hc [0] rfl rfl rfl hP hD hS hA (va_runV (As := []) (rest := []) S (hc.2 _) (cwV 0 S.2.2.2.2 gX9_count_X9_circles rfl rfl rfl (by decide +kernel) ⟨Nat.le_of_ble_eq_true rfl, Nat.le_of_ble_eq_true rfl⟩) (zpV hK hP hD (is := [0]) rfl rfl 0 rfl rfl (ci := 9) rfl) rfl rfl hl.1 rfl (lv_room (Nat.le_of_ble_eq_true rfl)) dX9_count_70 ⟨Nat.zero_le _, Nat.zero_le _⟩) (fun H locs hn70 hP hD hS => ?_)
    rw [show (s9_reached bm t70.2) = (s9_rounds (s9_fresh (s9_known (s9_came (s9_reached bm t70.2) (g9_came bm)) (g9_known bm)) (g9_fresh bm)) (g9_rounds bm)) from ((((((se9_came _).symm).trans (congrArg (fun v => s9_came (s9_reached bm t70.2) v) (gs9_came_reached _ t70.2))).trans (((se9_known _).symm).trans (congrArg (fun v => s9_known (s9_came (s9_reached bm t70.2) (g9_came bm)) v) ((gs9_known_came _ (g9_came bm)).trans (gs9_known_reached _ t70.2))))).trans (((se9_fresh _).symm).trans (congrArg (fun v => s9_fresh (s9_known (s9_came (s9_reached bm t70.2) (g9_came bm)) (g9_known bm)) v) ((gs9_fresh_known _ (g9_known bm)).trans ((gs9_fresh_came _ (g9_came bm)).trans (gs9_fresh_reached _ t70.2)))))).trans (((se9_rounds _).symm).trans (congrArg (fun v => s9_rounds (s9_fresh (s9_known (s9_came (s9_reached bm t70.2) (g9_came bm)) (g9_known bm)) (g9_fresh bm)) v) ((gs9_rounds_fresh _ (g9_fresh bm)).trans ((gs9_rounds_known _ (g9_known bm)).trans ((gs9_rounds_came _ (g9_came bm)).trans (gs9_rounds_reached _ t70.2)))))))] at hP hD
    exact hret _ _ _ _ _ _ (by subst hE; rfl) rfl hP hS dX9_count_73
  have hE := hE.trans (if_neg c1_1)
  by_cases c1_2 : x1 = 2
  · have hE := hE.trans (if_pos c1_2)
    refine lv_tableIn (off := 73) (tgt := 74) hx hb dX9_count_1 (by rw [c1_2]; decide) (by rw [c1_2]; decide) (by rw [c1_2]; rfl) (by decide) ?_
    refine lv_aload_n hx hb dX9_count_74 rfl (lv_at hl 0 rfl) ?_
    obtain ⟨t75, ht75⟩ : ∃ z, FX9_missing (g9_facts bm) (g9_rules bm) (g9_kind bm) (g9_head bm) (g9_body bm) (g9_except bm) (g9_strength bm) (g9_off bm) (g9_over bm) (g9_came bm) (g9_known bm) (g9_fresh bm) (g9_rounds bm) = z := ⟨_, rfl⟩
    have hE := hE.trans (bnd_eq ht75)
    have hc := c_X9_missing l G am bm (hz_m_rules) _ ht75
    refine zgoI (bs' := [w9 G am (s9_rounds (s9_fresh (s9_known (s9_came bm t75.2.1) t75.2.2.1) t75.2.2.2.1) t75.2.2.2.2)]) hc [0] rfl rfl rfl hP hD hS hA (va_runV (As := []) (rest := []) S (hc.2 _) (cwV 0 S.2.2.2.2 gX9_count_X9_missing rfl rfl rfl (by decide +kernel) ⟨Nat.le_of_ble_eq_true rfl, Nat.le_of_ble_eq_true rfl⟩) (zpV hK hP hD (is := [0]) rfl rfl 0 rfl rfl (ci := 9) rfl) rfl rfl hl.1 rfl (lv_room (Nat.le_of_ble_eq_true rfl)) dX9_count_75 ⟨Nat.zero_le _, Nat.zero_le _⟩) (fun H locs hn75 hP hD hS => ?_)
    rw [show (s9_rounds (s9_fresh (s9_known (s9_came bm t75.2.1) t75.2.2.1) t75.2.2.2.1) t75.2.2.2.2) = (s9_rounds (s9_fresh (s9_known (s9_came (s9_reached bm (g9_reached bm)) t75.2.1) t75.2.2.1) t75.2.2.2.1) t75.2.2.2.2) from (congrArg (fun z => s9_rounds z t75.2.2.2.2) (congrArg (fun z => s9_fresh z t75.2.2.2.1) (congrArg (fun z => s9_known z t75.2.2.1) (congrArg (fun z => s9_came z t75.2.1) ((se9_reached _).symm)))))] at hP hD
    exact hret _ _ _ _ _ _ (by subst hE; rfl) rfl hP hS dX9_count_78
  have hE := hE.trans (if_neg c1_2)
  by_cases c1_3 : x1 = 3
  · have hE := hE.trans (if_pos c1_3)
    refine lv_tableIn (off := 78) (tgt := 79) hx hb dX9_count_1 (by rw [c1_3]; decide) (by rw [c1_3]; decide) (by rw [c1_3]; rfl) (by decide) ?_
    refine lv_aload_n hx hb dX9_count_79 rfl (lv_at hl 0 rfl) ?_
    obtain ⟨t80, ht80⟩ : ∃ z, FX9_bothSides (g9_facts bm) (g9_rules bm) (g9_kind bm) (g9_head bm) (g9_body bm) (g9_except bm) (g9_strength bm) (g9_off bm) (g9_over bm) (g9_came bm) (g9_known bm) (g9_fresh bm) (g9_rounds bm) = z := ⟨_, rfl⟩
    have hE := hE.trans (bnd_eq ht80)
    have hc := c_X9_bothSides l G am bm (hz_m_rules) _ ht80
    refine zgoI (bs' := [w9 G am (s9_rounds (s9_fresh (s9_known (s9_came bm t80.2.1) t80.2.2.1) t80.2.2.2.1) t80.2.2.2.2)]) hc [0] rfl rfl rfl hP hD hS hA (va_runV (As := []) (rest := []) S (hc.2 _) (cwV 0 S.2.2.2.2 gX9_count_X9_bothSides rfl rfl rfl (by decide +kernel) ⟨Nat.le_of_ble_eq_true rfl, Nat.le_of_ble_eq_true rfl⟩) (zpV hK hP hD (is := [0]) rfl rfl 0 rfl rfl (ci := 9) rfl) rfl rfl hl.1 rfl (lv_room (Nat.le_of_ble_eq_true rfl)) dX9_count_80 ⟨Nat.zero_le _, Nat.zero_le _⟩) (fun H locs hn80 hP hD hS => ?_)
    rw [show (s9_rounds (s9_fresh (s9_known (s9_came bm t80.2.1) t80.2.2.1) t80.2.2.2.1) t80.2.2.2.2) = (s9_rounds (s9_fresh (s9_known (s9_came (s9_reached bm (g9_reached bm)) t80.2.1) t80.2.2.1) t80.2.2.2.1) t80.2.2.2.2) from (congrArg (fun z => s9_rounds z t80.2.2.2.2) (congrArg (fun z => s9_fresh z t80.2.2.2.1) (congrArg (fun z => s9_known z t80.2.2.1) (congrArg (fun z => s9_came z t80.2.1) ((se9_reached _).symm)))))] at hP hD
    exact hret _ _ _ _ _ _ (by subst hE; rfl) rfl hP hS dX9_count_83
  have hE := hE.trans (if_neg c1_3)
  by_cases c1_4 : x1 = 4
  · have hE := hE.trans (if_pos c1_4)
    refine lv_tableIn (off := 83) (tgt := 84) hx hb dX9_count_1 (by rw [c1_4]; decide) (by rw [c1_4]; decide) (by rw [c1_4]; rfl) (by decide) ?_
    refine lv_aload_n hx hb dX9_count_84 rfl (lv_at hl 0 rfl) ?_
    refine zg9_rules S in_X9_count_9 hK hP 0 rfl (List.mem_of_getElem? (i := 2) rfl) (v := (g9_rules bm)) rfl dX9_count_85 ?_
    rw [show bm = (s9_rounds (s9_fresh (s9_known (s9_came (s9_reached bm (g9_reached bm)) (g9_came bm)) (g9_known bm)) (g9_fresh bm)) (g9_rounds bm)) from ((((((se9_reached _).symm).trans (((se9_came _).symm).trans (congrArg (fun v => s9_came (s9_reached bm (g9_reached bm)) v) (gs9_came_reached _ (g9_reached bm))))).trans (((se9_known _).symm).trans (congrArg (fun v => s9_known (s9_came (s9_reached bm (g9_reached bm)) (g9_came bm)) v) ((gs9_known_came _ (g9_came bm)).trans (gs9_known_reached _ (g9_reached bm)))))).trans (((se9_fresh _).symm).trans (congrArg (fun v => s9_fresh (s9_known (s9_came (s9_reached bm (g9_reached bm)) (g9_came bm)) (g9_known bm)) v) ((gs9_fresh_known _ (g9_known bm)).trans ((gs9_fresh_came _ (g9_came bm)).trans (gs9_fresh_reached _ (g9_reached bm))))))).trans (((se9_rounds _).symm).trans (congrArg (fun v => s9_rounds (s9_fresh (s9_known (s9_came (s9_reached bm (g9_reached bm)) (g9_came bm)) (g9_known bm)) (g9_fresh bm)) v) ((gs9_rounds_fresh _ (g9_fresh bm)).trans ((gs9_rounds_known _ (g9_known bm)).trans ((gs9_rounds_came _ (g9_came bm)).trans (gs9_rounds_reached _ (g9_reached bm))))))))] at hP hD
    exact hret _ _ _ _ _ _ (by subst hE; rfl) rfl hP hS dX9_count_88
  have hE := hE.trans (if_neg c1_4)
  by_cases c1_5 : x1 = 5
  · have hE := hE.trans (if_pos c1_5)
    refine lv_tableIn (off := 88) (tgt := 89) hx hb dX9_count_1 (by rw [c1_5]; decide) (by rw [c1_5]; decide) (by rw [c1_5]; rfl) (by decide) ?_
    refine lv_aload_n hx hb dX9_count_89 rfl (lv_at hl 0 rfl) ?_
    obtain ⟨t90, ht90⟩ : ∃ z, FX9_pairs (g9_rules bm) (g9_over bm) = z := ⟨_, rfl⟩
    have hE := hE.trans (bnd_eq ht90)
    have hc := c_X9_pairs l G am bm (hz_m_rules) _ ht90
    refine zgoR (va_runV (As := []) (rest := []) S (hc _) (cwV 0 S.2.2.2.2 gX9_count_X9_pairs rfl rfl rfl (by decide +kernel) ⟨Nat.le_of_ble_eq_true rfl, Nat.le_of_ble_eq_true rfl⟩) (zpV hK hP hD (is := [0]) rfl rfl 0 rfl rfl (ci := 9) rfl) rfl rfl hl.1 rfl (lv_room (Nat.le_of_ble_eq_true rfl)) dX9_count_90 ⟨Nat.zero_le _, Nat.zero_le _⟩) (fun hn90 => ?_)
    rw [show bm = (s9_rounds (s9_fresh (s9_known (s9_came (s9_reached bm (g9_reached bm)) (g9_came bm)) (g9_known bm)) (g9_fresh bm)) (g9_rounds bm)) from ((((((se9_reached _).symm).trans (((se9_came _).symm).trans (congrArg (fun v => s9_came (s9_reached bm (g9_reached bm)) v) (gs9_came_reached _ (g9_reached bm))))).trans (((se9_known _).symm).trans (congrArg (fun v => s9_known (s9_came (s9_reached bm (g9_reached bm)) (g9_came bm)) v) ((gs9_known_came _ (g9_came bm)).trans (gs9_known_reached _ (g9_reached bm)))))).trans (((se9_fresh _).symm).trans (congrArg (fun v => s9_fresh (s9_known (s9_came (s9_reached bm (g9_reached bm)) (g9_came bm)) (g9_known bm)) v) ((gs9_fresh_known _ (g9_known bm)).trans ((gs9_fresh_came _ (g9_came bm)).trans (gs9_fresh_reached _ (g9_reached bm))))))).trans (((se9_rounds _).symm).trans (congrArg (fun v => s9_rounds (s9_fresh (s9_known (s9_came (s9_reached bm (g9_reached bm)) (g9_came bm)) (g9_known bm)) (g9_fresh bm)) v) ((gs9_rounds_fresh _ (g9_fresh bm)).trans ((gs9_rounds_known _ (g9_known bm)).trans ((gs9_rounds_came _ (g9_came bm)).trans (gs9_rounds_reached _ (g9_reached bm))))))))] at hP hD
    exact hret _ _ _ _ _ _ (by subst hE; rfl) rfl hP hS dX9_count_93
  have hE := hE.trans (if_neg c1_5)
  by_cases c1_6 : x1 = 6
  · have hE := hE.trans (if_pos c1_6)
    refine lv_tableIn (off := 93) (tgt := 94) hx hb dX9_count_1 (by rw [c1_6]; decide) (by rw [c1_6]; decide) (by rw [c1_6]; rfl) (by decide) ?_
    refine lv_aload_n hx hb dX9_count_94 rfl (lv_at hl 0 rfl) ?_
    obtain ⟨t95, ht95⟩ : ∃ z, FX9_cameMany (g9_facts bm) (g9_rules bm) (g9_kind bm) (g9_head bm) (g9_body bm) (g9_except bm) (g9_strength bm) (g9_off bm) (g9_over bm) (g9_came bm) (g9_known bm) (g9_fresh bm) (g9_rounds bm) = z := ⟨_, rfl⟩
    have hE := hE.trans (bnd_eq ht95)
    have hc := c_X9_cameMany l G am bm (hz_m_rules) _ ht95
    refine zgoI (bs' := [w9 G am (s9_rounds (s9_fresh (s9_known (s9_came bm t95.2.1) t95.2.2.1) t95.2.2.2.1) t95.2.2.2.2)]) hc [0] rfl rfl rfl hP hD hS hA (va_runV (As := []) (rest := []) S (hc.2 _) (cwV 0 S.2.2.2.2 gX9_count_X9_cameMany rfl rfl rfl (by decide +kernel) ⟨Nat.le_of_ble_eq_true rfl, Nat.le_of_ble_eq_true rfl⟩) (zpV hK hP hD (is := [0]) rfl rfl 0 rfl rfl (ci := 9) rfl) rfl rfl hl.1 rfl (lv_room (Nat.le_of_ble_eq_true rfl)) dX9_count_95 ⟨Nat.zero_le _, Nat.zero_le _⟩) (fun H locs hn95 hP hD hS => ?_)
    rw [show (s9_rounds (s9_fresh (s9_known (s9_came bm t95.2.1) t95.2.2.1) t95.2.2.2.1) t95.2.2.2.2) = (s9_rounds (s9_fresh (s9_known (s9_came (s9_reached bm (g9_reached bm)) t95.2.1) t95.2.2.1) t95.2.2.2.1) t95.2.2.2.2) from (congrArg (fun z => s9_rounds z t95.2.2.2.2) (congrArg (fun z => s9_fresh z t95.2.2.2.1) (congrArg (fun z => s9_known z t95.2.2.1) (congrArg (fun z => s9_came z t95.2.1) ((se9_reached _).symm)))))] at hP hD
    exact hret _ _ _ _ _ _ (by subst hE; rfl) rfl hP hS dX9_count_98
  have hE := hE.trans (if_neg c1_6)
  by_cases c1_7 : x1 = 7
  · have hE := hE.trans (if_pos c1_7)
    refine lv_tableIn (off := 98) (tgt := 99) hx hb dX9_count_1 (by rw [c1_7]; decide) (by rw [c1_7]; decide) (by rw [c1_7]; rfl) (by decide) ?_
    refine lv_aload_n hx hb dX9_count_99 rfl (lv_at hl 0 rfl) ?_
    obtain ⟨t100, ht100⟩ : ∃ z, FX9_roundMany (g9_facts bm) (g9_rules bm) (g9_kind bm) (g9_head bm) (g9_body bm) (g9_except bm) (g9_strength bm) (g9_off bm) (g9_over bm) (g9_came bm) (g9_known bm) (g9_fresh bm) (g9_rounds bm) = z := ⟨_, rfl⟩
    have hE := hE.trans (bnd_eq ht100)
    have hc := c_X9_roundMany l G am bm (hz_m_rules) _ ht100
    refine zgoI (bs' := [w9 G am (s9_rounds (s9_fresh (s9_known (s9_came bm t100.2.1) t100.2.2.1) t100.2.2.2.1) t100.2.2.2.2)]) hc [0] rfl rfl rfl hP hD hS hA (va_runV (As := []) (rest := []) S (hc.2 _) (cwV 0 S.2.2.2.2 gX9_count_X9_roundMany rfl rfl rfl (by decide +kernel) ⟨Nat.le_of_ble_eq_true rfl, Nat.le_of_ble_eq_true rfl⟩) (zpV hK hP hD (is := [0]) rfl rfl 0 rfl rfl (ci := 9) rfl) rfl rfl hl.1 rfl (lv_room (Nat.le_of_ble_eq_true rfl)) dX9_count_100 ⟨Nat.zero_le _, Nat.zero_le _⟩) (fun H locs hn100 hP hD hS => ?_)
    rw [show (s9_rounds (s9_fresh (s9_known (s9_came bm t100.2.1) t100.2.2.1) t100.2.2.2.1) t100.2.2.2.2) = (s9_rounds (s9_fresh (s9_known (s9_came (s9_reached bm (g9_reached bm)) t100.2.1) t100.2.2.1) t100.2.2.2.1) t100.2.2.2.2) from (congrArg (fun z => s9_rounds z t100.2.2.2.2) (congrArg (fun z => s9_fresh z t100.2.2.2.1) (congrArg (fun z => s9_known z t100.2.2.1) (congrArg (fun z => s9_came z t100.2.1) ((se9_reached _).symm)))))] at hP hD
    exact hret _ _ _ _ _ _ (by subst hE; rfl) rfl hP hS dX9_count_103
  have hE := hE.trans (if_neg c1_7)
  by_cases c1_8 : x1 = 8
  · have hE := hE.trans (if_pos c1_8)
    refine lv_tableIn (off := 103) (tgt := 104) hx hb dX9_count_1 (by rw [c1_8]; decide) (by rw [c1_8]; decide) (by rw [c1_8]; rfl) (by decide) ?_
    refine lv_aload_n hx hb dX9_count_104 rfl (lv_at hl 0 rfl) ?_
    refine zg9_done S in_X9_count_9 hK hP 0 rfl (List.mem_of_getElem? (i := 3) rfl) (v := (g9_done bm)) rfl dX9_count_105 ?_
    rw [show bm = (s9_rounds (s9_fresh (s9_known (s9_came (s9_reached bm (g9_reached bm)) (g9_came bm)) (g9_known bm)) (g9_fresh bm)) (g9_rounds bm)) from ((((((se9_reached _).symm).trans (((se9_came _).symm).trans (congrArg (fun v => s9_came (s9_reached bm (g9_reached bm)) v) (gs9_came_reached _ (g9_reached bm))))).trans (((se9_known _).symm).trans (congrArg (fun v => s9_known (s9_came (s9_reached bm (g9_reached bm)) (g9_came bm)) v) ((gs9_known_came _ (g9_came bm)).trans (gs9_known_reached _ (g9_reached bm)))))).trans (((se9_fresh _).symm).trans (congrArg (fun v => s9_fresh (s9_known (s9_came (s9_reached bm (g9_reached bm)) (g9_came bm)) (g9_known bm)) v) ((gs9_fresh_known _ (g9_known bm)).trans ((gs9_fresh_came _ (g9_came bm)).trans (gs9_fresh_reached _ (g9_reached bm))))))).trans (((se9_rounds _).symm).trans (congrArg (fun v => s9_rounds (s9_fresh (s9_known (s9_came (s9_reached bm (g9_reached bm)) (g9_came bm)) (g9_known bm)) (g9_fresh bm)) v) ((gs9_rounds_fresh _ (g9_fresh bm)).trans ((gs9_rounds_known _ (g9_known bm)).trans ((gs9_rounds_came _ (g9_came bm)).trans (gs9_rounds_reached _ (g9_reached bm))))))))] at hP hD
    exact hret _ _ _ _ _ _ (by subst hE; rfl) rfl hP hS dX9_count_108
  have hE := hE.trans (if_neg c1_8)
  by_cases c1_9 : x1 = 9
  · have hE := hE.trans (if_pos c1_9)
    refine lv_tableIn (off := 108) (tgt := 109) hx hb dX9_count_1 (by rw [c1_9]; decide) (by rw [c1_9]; decide) (by rw [c1_9]; rfl) (by decide) ?_
    refine lv_aload_n hx hb dX9_count_109 rfl (lv_at hl 0 rfl) ?_
    refine zg9_undone S in_X9_count_9 hK hP 0 rfl (List.mem_of_getElem? (i := 4) rfl) (v := (g9_undone bm)) rfl dX9_count_110 ?_
    rw [show bm = (s9_rounds (s9_fresh (s9_known (s9_came (s9_reached bm (g9_reached bm)) (g9_came bm)) (g9_known bm)) (g9_fresh bm)) (g9_rounds bm)) from ((((((se9_reached _).symm).trans (((se9_came _).symm).trans (congrArg (fun v => s9_came (s9_reached bm (g9_reached bm)) v) (gs9_came_reached _ (g9_reached bm))))).trans (((se9_known _).symm).trans (congrArg (fun v => s9_known (s9_came (s9_reached bm (g9_reached bm)) (g9_came bm)) v) ((gs9_known_came _ (g9_came bm)).trans (gs9_known_reached _ (g9_reached bm)))))).trans (((se9_fresh _).symm).trans (congrArg (fun v => s9_fresh (s9_known (s9_came (s9_reached bm (g9_reached bm)) (g9_came bm)) (g9_known bm)) v) ((gs9_fresh_known _ (g9_known bm)).trans ((gs9_fresh_came _ (g9_came bm)).trans (gs9_fresh_reached _ (g9_reached bm))))))).trans (((se9_rounds _).symm).trans (congrArg (fun v => s9_rounds (s9_fresh (s9_known (s9_came (s9_reached bm (g9_reached bm)) (g9_came bm)) (g9_known bm)) (g9_fresh bm)) v) ((gs9_rounds_fresh _ (g9_fresh bm)).trans ((gs9_rounds_known _ (g9_known bm)).trans ((gs9_rounds_came _ (g9_came bm)).trans (gs9_rounds_reached _ (g9_reached bm))))))))] at hP hD
    exact hret _ _ _ _ _ _ (by subst hE; rfl) rfl hP hS dX9_count_113
  have hE := hE.trans (if_neg c1_9)
  by_cases c1_10 : x1 = 10
  · have hE := hE.trans (if_pos c1_10)
    refine lv_tableIn (off := 113) (tgt := 114) hx hb dX9_count_1 (by rw [c1_10]; decide) (by rw [c1_10]; decide) (by rw [c1_10]; rfl) (by decide) ?_
    refine lv_aload_n hx hb dX9_count_114 rfl (lv_at hl 0 rfl) ?_
    refine zg9_taped S in_X9_count_9 hK hP 0 rfl (List.mem_of_getElem? (i := 5) rfl) (v := (g9_taped bm)) rfl dX9_count_115 ?_
    rw [show bm = (s9_rounds (s9_fresh (s9_known (s9_came (s9_reached bm (g9_reached bm)) (g9_came bm)) (g9_known bm)) (g9_fresh bm)) (g9_rounds bm)) from ((((((se9_reached _).symm).trans (((se9_came _).symm).trans (congrArg (fun v => s9_came (s9_reached bm (g9_reached bm)) v) (gs9_came_reached _ (g9_reached bm))))).trans (((se9_known _).symm).trans (congrArg (fun v => s9_known (s9_came (s9_reached bm (g9_reached bm)) (g9_came bm)) v) ((gs9_known_came _ (g9_came bm)).trans (gs9_known_reached _ (g9_reached bm)))))).trans (((se9_fresh _).symm).trans (congrArg (fun v => s9_fresh (s9_known (s9_came (s9_reached bm (g9_reached bm)) (g9_came bm)) (g9_known bm)) v) ((gs9_fresh_known _ (g9_known bm)).trans ((gs9_fresh_came _ (g9_came bm)).trans (gs9_fresh_reached _ (g9_reached bm))))))).trans (((se9_rounds _).symm).trans (congrArg (fun v => s9_rounds (s9_fresh (s9_known (s9_came (s9_reached bm (g9_reached bm)) (g9_came bm)) (g9_known bm)) (g9_fresh bm)) v) ((gs9_rounds_fresh _ (g9_fresh bm)).trans ((gs9_rounds_known _ (g9_known bm)).trans ((gs9_rounds_came _ (g9_came bm)).trans (gs9_rounds_reached _ (g9_reached bm))))))))] at hP hD
    exact hret _ _ _ _ _ _ (by subst hE; rfl) rfl hP hS dX9_count_118
  have hE := hE.trans (if_neg c1_10)
  by_cases c1_11 : x1 = 11
  · have hE := hE.trans (if_pos c1_11)
    refine lv_tableIn (off := 118) (tgt := 119) hx hb dX9_count_1 (by rw [c1_11]; decide) (by rw [c1_11]; decide) (by rw [c1_11]; rfl) (by decide) ?_
    refine lv_aload_n hx hb dX9_count_119 rfl (lv_at hl 0 rfl) ?_
    refine zg9_papers S in_X9_count_9 hK hP 0 rfl (List.mem_of_getElem? (i := 6) rfl) (v := (g9_papers bm)) rfl dX9_count_120 ?_
    rw [show bm = (s9_rounds (s9_fresh (s9_known (s9_came (s9_reached bm (g9_reached bm)) (g9_came bm)) (g9_known bm)) (g9_fresh bm)) (g9_rounds bm)) from ((((((se9_reached _).symm).trans (((se9_came _).symm).trans (congrArg (fun v => s9_came (s9_reached bm (g9_reached bm)) v) (gs9_came_reached _ (g9_reached bm))))).trans (((se9_known _).symm).trans (congrArg (fun v => s9_known (s9_came (s9_reached bm (g9_reached bm)) (g9_came bm)) v) ((gs9_known_came _ (g9_came bm)).trans (gs9_known_reached _ (g9_reached bm)))))).trans (((se9_fresh _).symm).trans (congrArg (fun v => s9_fresh (s9_known (s9_came (s9_reached bm (g9_reached bm)) (g9_came bm)) (g9_known bm)) v) ((gs9_fresh_known _ (g9_known bm)).trans ((gs9_fresh_came _ (g9_came bm)).trans (gs9_fresh_reached _ (g9_reached bm))))))).trans (((se9_rounds _).symm).trans (congrArg (fun v => s9_rounds (s9_fresh (s9_known (s9_came (s9_reached bm (g9_reached bm)) (g9_came bm)) (g9_known bm)) (g9_fresh bm)) v) ((gs9_rounds_fresh _ (g9_fresh bm)).trans ((gs9_rounds_known _ (g9_known bm)).trans ((gs9_rounds_came _ (g9_came bm)).trans (gs9_rounds_reached _ (g9_reached bm))))))))] at hP hD
    exact hret _ _ _ _ _ _ (by subst hE; rfl) rfl hP hS dX9_count_123
  have hE := hE.trans (if_neg c1_11)
  refine lv_tableOut (tgt := 124) hx hb dX9_count_1 (zsw12 c1_0 c1_1 c1_2 c1_3 c1_4 c1_5 c1_6 c1_7 c1_8 c1_9 c1_10 c1_11) (by decide) ?_
  refine lv_iconst (v := (-1)) hx hb dX9_count_124 (by decide) ?_
  rw [show bm = (s9_rounds (s9_fresh (s9_known (s9_came (s9_reached bm (g9_reached bm)) (g9_came bm)) (g9_known bm)) (g9_fresh bm)) (g9_rounds bm)) from ((((((se9_reached _).symm).trans (((se9_came _).symm).trans (congrArg (fun v => s9_came (s9_reached bm (g9_reached bm)) v) (gs9_came_reached _ (g9_reached bm))))).trans (((se9_known _).symm).trans (congrArg (fun v => s9_known (s9_came (s9_reached bm (g9_reached bm)) (g9_came bm)) v) ((gs9_known_came _ (g9_came bm)).trans (gs9_known_reached _ (g9_reached bm)))))).trans (((se9_fresh _).symm).trans (congrArg (fun v => s9_fresh (s9_known (s9_came (s9_reached bm (g9_reached bm)) (g9_came bm)) (g9_known bm)) v) ((gs9_fresh_known _ (g9_known bm)).trans ((gs9_fresh_came _ (g9_came bm)).trans (gs9_fresh_reached _ (g9_reached bm))))))).trans (((se9_rounds _).symm).trans (congrArg (fun v => s9_rounds (s9_fresh (s9_known (s9_came (s9_reached bm (g9_reached bm)) (g9_came bm)) (g9_known bm)) (g9_fresh bm)) v) ((gs9_rounds_fresh _ (g9_fresh bm)).trans ((gs9_rounds_known _ (g9_known bm)).trans ((gs9_rounds_came _ (g9_came bm)).trans (gs9_rounds_reached _ (g9_reached bm))))))))] at hP hD
  exact hret _ _ _ _ _ _ (by subst hE; rfl) rfl hP hS dX9_count_125

theorem in_X9_comes_9 : ∀ w ∈ u_ws RX9 TX9 40, w ∈ wsX9_comes := by decide +kernel
def rmX9_comes : Room := { frames := 7, cells := 0, slots := 0, locals := 155 }
set_option maxHeartbeats 4000000 in
set_option maxRecDepth 100000 in
theorem c_X9_comes (l : Launch) (G : zG) (am : Nat → Nat) (bm : S9) (x1 : Int32) (x2 : Int32) (hz_m_rules : ∃ N : Nat, N ≤ 16 ∧ g9_rules bm = nI N) (hx2_4 : vp_in x2 4) (T : Int32 × (Nat → Int32) × (Nat → Int32) × (Nat → Int32) × (Int32)) (hT : FX9_comes (g9_facts bm) (g9_rules bm) (g9_kind bm) (g9_head bm) (g9_body bm) (g9_except bm) (g9_strength bm) (g9_off bm) (g9_over bm) (g9_came bm) (g9_known bm) (g9_fresh bm) (g9_rounds bm) x1 x2 = T) : zI l yX9_comes wsX9_comes rmX9_comes .boolean G [.ref (am 0), .int x1, .int x2] [w9 G am bm] T.1 [w9 G am (s9_rounds (s9_fresh (s9_known (s9_came bm T.2.1) T.2.2.1) T.2.2.2.1) T.2.2.2.2)] := by
  refine zI.mk (cc := cX9_comes) (maxL := 3) (by decide +kernel) rfl (Nat.le_of_ble_eq_true rfl) (zfl_cons (wf9 _ _ _ _) rfl) ?_
  intro p e s m args below meth c Q A ls S hK hD hA hP hl hret
  have hx := S.1
  have hb := S.2.1
  have hS : va_S A s.heap s.heap [] := va_S.rf
  have hl : lv_has ls 3 [(0, .ref (am 0)), (1, .int x1), (2, .int x2)] := hl
  have hE := hT.symm.trans (FX9_comes.eq_1 _ _ _ _ _ _ _ _ _ _ _ _ _ _ _)
  refine lv_aload_n hx hb dX9_comes_0 rfl (lv_at hl 0 rfl) ?_
  obtain ⟨t1, ht1⟩ : ∃ z, FX9_tags (g9_facts bm) (g9_rules bm) (g9_kind bm) (g9_head bm) (g9_body bm) (g9_except bm) (g9_strength bm) (g9_off bm) (g9_over bm) (g9_came bm) (g9_known bm) (g9_fresh bm) (g9_rounds bm) = z := ⟨_, rfl⟩
  have hE := hE.trans (bnd_eq ht1)
  have hc := c_X9_tags l G am bm (hz_m_rules) _ ht1
  refine zgoV (bs' := [w9 G am (s9_rounds (s9_fresh (s9_known (s9_came bm t1.1) t1.2.1) t1.2.2.1) t1.2.2.2)]) hc [0] rfl rfl rfl hP hD hS hA (va_runV (As := []) (rest := []) S (hc.2 _) (cwV 0 S.2.2.2.2 gX9_comes_X9_tags rfl rfl rfl (by decide +kernel) ⟨Nat.le_of_ble_eq_true rfl, Nat.le_of_ble_eq_true rfl⟩) (zpV hK hP hD (is := [0]) rfl rfl 0 rfl rfl (ci := 9) rfl) rfl rfl hl.1 rfl (lv_room (Nat.le_of_ble_eq_true rfl)) dX9_comes_1 ⟨Nat.zero_le _, Nat.zero_le _⟩) (fun H locs hP hD hS => ?_)
  refine lv_aload_n hx hb dX9_comes_4 rfl (lv_at hl 0 rfl) ?_
  refine zg9_known S in_X9_comes_9 hK hP 0 rfl (List.mem_of_getElem? (i := 1) rfl) dX9_comes_5 ?_
  refine lv_iload_n hx hb dX9_comes_8 rfl (lv_at hl 2 rfl) ?_
  refine zl9_known S hK hP 0 rfl hx2_4 (f := t1.2.1) ((gs9_known_rounds _ t1.2.2.2).trans ((gs9_known_fresh _ t1.2.2.1).trans (gg9_known _ t1.2.1))) dX9_comes_9 ?_
  refine lv_iload_n hx hb dX9_comes_10 rfl (lv_at hl 1 rfl) ?_
  obtain ⟨t11, ht11⟩ : ∃ z, FX9_has (t1.2.1 x2.toNatClampNeg) x1 = z := ⟨_, rfl⟩
  have hE := hE.trans (bnd_eq ht11)
  have hc := c_X9_has l G (t1.2.1 x2.toNatClampNeg) x1 _ ht11
  refine zgoR (va_runS (As := [.int (t1.2.1 x2.toNatClampNeg), .int x1]) (rest := []) S (hc _) (va_cwS 2 S.2.2.2.2 gX9_comes_X9_has rfl rfl rfl (by decide +kernel) ⟨Nat.le_of_ble_eq_true rfl, Nat.le_of_ble_eq_true rfl⟩) (zpS hK hP hD (is := []) rfl rfl) rfl rfl hl.1 rfl (lv_room (Nat.le_of_ble_eq_true rfl)) dX9_comes_11 ⟨Nat.zero_le _, Nat.zero_le _⟩) (fun hn11 => ?_)
  exact hret _ _ _ _ _ _ (by subst hE; rfl) hn11 hP hS dX9_comes_14

def rmX9_with : Room := { frames := 0, cells := 0, slots := 0, locals := 0 }
set_option maxHeartbeats 4000000 in
set_option maxRecDepth 100000 in
theorem c_X9_with (l : Launch) (G : zG) (x0 : Int32) (x1 : Int32) (x2 : Int32) (T : Int32) (hT : FX9_with x0 x1 x2 = T) : zR l yX9_with wsX9_with rmX9_with .int G [.int x0, .int x1, .int x2] [] T := by
  refine zR.mk (cc := cX9_with) (maxL := 3) (by decide +kernel) rfl (Nat.le_of_ble_eq_true rfl) ?_
  intro p e s m args below meth c Q A ls S hK hD hA hP hl hret
  have hx := S.1
  have hb := S.2.1
  have hl : lv_has ls 3 [(0, .int x0), (1, .int x1), (2, .int x2)] := hl
  have hE := hT.symm.trans (FX9_with.eq_1 _ _ _)
  refine lv_iload_n hx hb dX9_with_0 rfl (lv_at hl 2 rfl) ?_
  refine lv_iconst (v := 1) hx hb dX9_with_1 (by decide) ?_
  refine lv_icmp_ne (tgt := 13) hx hb dX9_with_2 (by decide) (fun c2 => ?_) (fun c2 => ?_)
  · have hE := hE.trans (if_neg c2)
    refine lv_iload_n hx hb dX9_with_13 rfl (lv_at hl 0 rfl) ?_
    refine lv_iconst (v := 1) hx hb dX9_with_14 (by decide) ?_
    refine lv_iload_n hx hb dX9_with_15 rfl (lv_at hl 1 rfl) ?_
    refine lv_ishl hx hb dX9_with_16 ?_
    refine lv_iconst (v := (-1)) hx hb dX9_with_17 (by decide) ?_
    refine lv_ixor hx hb dX9_with_18 ?_
    refine lv_iand hx hb dX9_with_19 ?_
    exact hret _ _ _ hE rfl dX9_with_20
  · have hE := hE.trans (if_pos c2)
    refine lv_iload_n hx hb dX9_with_5 rfl (lv_at hl 0 rfl) ?_
    refine lv_iconst (v := 1) hx hb dX9_with_6 (by decide) ?_
    refine lv_iload_n hx hb dX9_with_7 rfl (lv_at hl 1 rfl) ?_
    refine lv_ishl hx hb dX9_with_8 ?_
    refine lv_ior hx hb dX9_with_9 ?_
    refine lv_goto (tgt := 20) hx hb dX9_with_10 (by decide) ?_
    exact hret _ _ _ hE rfl dX9_with_20

theorem in_X9_would_9 : ∀ w ∈ u_ws RX9 TX9 40, w ∈ wsX9_would := by decide +kernel
def rmX9_would : Room := { frames := 7, cells := 0, slots := 0, locals := 155 }
set_option maxHeartbeats 4000000 in
set_option maxRecDepth 100000 in
theorem c_X9_would (l : Launch) (G : zG) (am : Nat → Nat) (bm : S9) (x1 : Int32) (x2 : Int32) (x3 : Int32) (hz_m_rules : ∃ N : Nat, N ≤ 16 ∧ g9_rules bm = nI N) (T : Int32 × (Int32) × (Nat → Int32) × (Nat → Int32) × (Nat → Int32) × (Int32)) (hT : FX9_would (g9_facts bm) (g9_rules bm) (g9_kind bm) (g9_head bm) (g9_body bm) (g9_except bm) (g9_strength bm) (g9_off bm) (g9_over bm) (g9_came bm) (g9_known bm) (g9_fresh bm) (g9_rounds bm) x1 x2 x3 = T) : zI l yX9_would wsX9_would rmX9_would .int G [.ref (am 0), .int x1, .int x2, .int x3] [w9 G am bm] T.1 [w9 G am (s9_rounds (s9_fresh (s9_known (s9_came (s9_facts bm T.2.1) T.2.2.1) T.2.2.2.1) T.2.2.2.2.1) T.2.2.2.2.2)] := by
  refine zI.mk (cc := cX9_would) (maxL := 7) (by decide +kernel) rfl (Nat.le_of_ble_eq_true rfl) (zfl_cons (wf9 _ _ _ _) rfl) ?_
  intro p e s m args below meth c Q A ls S hK hD hA hP hl hret
  have hx := S.1
  have hb := S.2.1
  have hS : va_S A s.heap s.heap [] := va_S.rf
  have hl : lv_has ls 7 [(0, .ref (am 0)), (1, .int x1), (2, .int x2), (3, .int x3)] := hl
  have hE := hT.symm.trans (FX9_would.eq_1 _ _ _ _ _ _ _ _ _ _ _ _ _ _ _ _)
  refine lv_iload_n hx hb dX9_would_0 rfl (lv_at hl 1 rfl) ?_
  obtain ⟨t1, ht1⟩ : ∃ z, FX9_isLiteral x1 = z := ⟨_, rfl⟩
  have hE := hE.trans (bnd_eq ht1)
  have hc := c_X9_isLiteral l G x1 _ ht1
  refine zgoR (va_runS (As := [.int x1]) (rest := []) S (hc _) (va_cwS 1 S.2.2.2.2 gX9_would_X9_isLiteral rfl rfl rfl (by decide +kernel) ⟨Nat.le_of_ble_eq_true rfl, Nat.le_of_ble_eq_true rfl⟩) (zpS hK hP hD (is := []) rfl rfl) rfl rfl hl.1 rfl (lv_room (Nat.le_of_ble_eq_true rfl)) dX9_would_1 ⟨Nat.zero_le _, Nat.zero_le _⟩) (fun hn1 => ?_)
  refine lv_if_eq (tgt := 21) hx hb dX9_would_4 (by decide) (fun c4 => ?_) (fun c4 => ?_)
  · have hE := hE.trans (if_pos c4)
    refine lv_iconst (v := (-1)) hx hb dX9_would_21 (by decide) ?_
    rw [show bm = (s9_rounds (s9_fresh (s9_known (s9_came (s9_facts bm (g9_facts bm)) (g9_came bm)) (g9_known bm)) (g9_fresh bm)) (g9_rounds bm)) from ((((((se9_facts _).symm).trans (((se9_came _).symm).trans (congrArg (fun v => s9_came (s9_facts bm (g9_facts bm)) v) (gs9_came_facts _ (g9_facts bm))))).trans (((se9_known _).symm).trans (congrArg (fun v => s9_known (s9_came (s9_facts bm (g9_facts bm)) (g9_came bm)) v) ((gs9_known_came _ (g9_came bm)).trans (gs9_known_facts _ (g9_facts bm)))))).trans (((se9_fresh _).symm).trans (congrArg (fun v => s9_fresh (s9_known (s9_came (s9_facts bm (g9_facts bm)) (g9_came bm)) (g9_known bm)) v) ((gs9_fresh_known _ (g9_known bm)).trans ((gs9_fresh_came _ (g9_came bm)).trans (gs9_fresh_facts _ (g9_facts bm))))))).trans (((se9_rounds _).symm).trans (congrArg (fun v => s9_rounds (s9_fresh (s9_known (s9_came (s9_facts bm (g9_facts bm)) (g9_came bm)) (g9_known bm)) (g9_fresh bm)) v) ((gs9_rounds_fresh _ (g9_fresh bm)).trans ((gs9_rounds_known _ (g9_known bm)).trans ((gs9_rounds_came _ (g9_came bm)).trans (gs9_rounds_facts _ (g9_facts bm))))))))] at hP hD
    exact hret _ _ _ _ _ _ (by subst hE; rfl) rfl hP hS dX9_would_22
  · have hE := hE.trans (if_neg c4)
    have hx1_20 : vp_in x1 20 := zisLit9 (by rw [ht1]; exact c4)
    refine lv_iload_n hx hb dX9_would_7 rfl (lv_at hl 2 rfl) ?_
    obtain ⟨t8, ht8⟩ : ∃ z, FX9_isLiteral x2 = z := ⟨_, rfl⟩
    have hE := hE.trans (bnd_eq ht8)
    have hc := c_X9_isLiteral l G x2 _ ht8
    refine zgoR (va_runS (As := [.int x2]) (rest := []) S (hc _) (va_cwS 1 S.2.2.2.2 gX9_would_X9_isLiteral rfl rfl rfl (by decide +kernel) ⟨Nat.le_of_ble_eq_true rfl, Nat.le_of_ble_eq_true rfl⟩) (zpS hK hP hD (is := []) rfl rfl) rfl rfl hl.1 rfl (lv_room (Nat.le_of_ble_eq_true rfl)) dX9_would_8 ⟨Nat.zero_le _, Nat.zero_le _⟩) (fun hn8 => ?_)
    refine lv_if_eq (tgt := 21) hx hb dX9_would_11 (by decide) (fun c11 => ?_) (fun c11 => ?_)
    · have hE := hE.trans (if_pos c11)
      refine lv_iconst (v := (-1)) hx hb dX9_would_21 (by decide) ?_
      rw [show bm = (s9_rounds (s9_fresh (s9_known (s9_came (s9_facts bm (g9_facts bm)) (g9_came bm)) (g9_known bm)) (g9_fresh bm)) (g9_rounds bm)) from ((((((se9_facts _).symm).trans (((se9_came _).symm).trans (congrArg (fun v => s9_came (s9_facts bm (g9_facts bm)) v) (gs9_came_facts _ (g9_facts bm))))).trans (((se9_known _).symm).trans (congrArg (fun v => s9_known (s9_came (s9_facts bm (g9_facts bm)) (g9_came bm)) v) ((gs9_known_came _ (g9_came bm)).trans (gs9_known_facts _ (g9_facts bm)))))).trans (((se9_fresh _).symm).trans (congrArg (fun v => s9_fresh (s9_known (s9_came (s9_facts bm (g9_facts bm)) (g9_came bm)) (g9_known bm)) v) ((gs9_fresh_known _ (g9_known bm)).trans ((gs9_fresh_came _ (g9_came bm)).trans (gs9_fresh_facts _ (g9_facts bm))))))).trans (((se9_rounds _).symm).trans (congrArg (fun v => s9_rounds (s9_fresh (s9_known (s9_came (s9_facts bm (g9_facts bm)) (g9_came bm)) (g9_known bm)) (g9_fresh bm)) v) ((gs9_rounds_fresh _ (g9_fresh bm)).trans ((gs9_rounds_known _ (g9_known bm)).trans ((gs9_rounds_came _ (g9_came bm)).trans (gs9_rounds_facts _ (g9_facts bm))))))))] at hP hD
      exact hret _ _ _ _ _ _ (by subst hE; rfl) rfl hP hS dX9_would_22
    · have hE := hE.trans (if_neg c11)
      have hx2_20 : vp_in x2 20 := zisLit9 (by rw [ht8]; exact c11)
      refine lv_iload_n hx hb dX9_would_14 rfl (lv_at hl 3 rfl) ?_
      obtain ⟨t15, ht15⟩ : ∃ z, FX9_isBit x3 = z := ⟨_, rfl⟩
      have hE := hE.trans (bnd_eq ht15)
      have hc := c_X9_isBit l G x3 _ ht15
      refine zgoR (va_runS (As := [.int x3]) (rest := []) S (hc _) (va_cwS 1 S.2.2.2.2 gX9_would_X9_isBit rfl rfl rfl (by decide +kernel) ⟨Nat.le_of_ble_eq_true rfl, Nat.le_of_ble_eq_true rfl⟩) (zpS hK hP hD (is := []) rfl rfl) rfl rfl hl.1 rfl (lv_room (Nat.le_of_ble_eq_true rfl)) dX9_would_15 ⟨Nat.zero_le _, Nat.zero_le _⟩) (fun hn15 => ?_)
      refine lv_if_ne (tgt := 23) hx hb dX9_would_18 (by decide) (fun c18 => ?_) (fun c18 => ?_)
      · have hE := hE.trans (if_neg c18)
        refine lv_aload_n hx hb dX9_would_23 rfl (lv_at hl 0 rfl) ?_
        refine zg9_facts S in_X9_would_9 hK hP 0 rfl (List.mem_of_getElem? (i := 1) rfl) (v := (g9_facts bm)) rfl dX9_would_24 ?_
        refine lv_istore (lv' := [(4, .int (g9_facts bm)), (0, .ref (am 0)), (1, .int x1), (2, .int x2), (3, .int x3)]) hx hb dX9_would_27 hl (by decide) rfl (fun ls hl => ?_)
        refine lv_aload_n hx hb dX9_would_29 rfl (lv_at hl 1 rfl) ?_
        refine lv_aload_n hx hb dX9_would_30 rfl (lv_at hl 1 rfl) ?_
        refine zg9_facts S in_X9_would_9 hK hP 0 rfl (List.mem_of_getElem? (i := 1) rfl) (v := (g9_facts bm)) rfl dX9_would_31 ?_
        refine lv_iload_n hx hb dX9_would_34 rfl (lv_at hl 3 rfl) ?_
        refine lv_iload_n hx hb dX9_would_35 rfl (lv_at hl 4 rfl) ?_
        obtain ⟨t36, ht36⟩ : ∃ z, FX9_with (g9_facts bm) x2 x3 = z := ⟨_, rfl⟩
        have hE := hE.trans (bnd_eq ht36)
        have hc := c_X9_with l G (g9_facts bm) x2 x3 _ ht36
        refine zgoR (va_runS (As := [.int (g9_facts bm), .int x2, .int x3]) (rest := [.ref (am 0)]) S (hc _) (va_cwS 3 S.2.2.2.2 gX9_would_X9_with rfl rfl rfl (by decide +kernel) ⟨Nat.le_of_ble_eq_true rfl, Nat.le_of_ble_eq_true rfl⟩) (zpS hK hP hD (is := []) rfl rfl) rfl rfl hl.1 rfl (lv_room (Nat.le_of_ble_eq_true rfl)) dX9_would_36 ⟨Nat.zero_le _, Nat.zero_le _⟩) (fun hn36 => ?_)
        refine zp9_facts (bs1 := [w9 G am (s9_facts bm t36)]) S in_X9_would_9 hK hP hD hS 0 rfl (List.mem_of_getElem? (i := 1) rfl) dX9_would_39 rfl (fun H locs hP hD hS => ?_)
        refine lv_aload_n hx hb dX9_would_42 rfl (lv_at hl 1 rfl) ?_
        obtain ⟨t43, ht43⟩ : ∃ z, FX9_tags t36 (g9_rules bm) (g9_kind bm) (g9_head bm) (g9_body bm) (g9_except bm) (g9_strength bm) (g9_off bm) (g9_over bm) (g9_came bm) (g9_known bm) (g9_fresh bm) (g9_rounds bm) = z := ⟨_, rfl⟩
        have hE := hE.trans (bnd_eq ht43)
        have hc := c_X9_tags l G am (s9_facts bm t36) (hz_m_rules) _ (by simp only [gg9_facts, gs9_rules_facts, gs9_kind_facts, gs9_head_facts, gs9_body_facts, gs9_except_facts, gs9_strength_facts, gs9_off_facts, gs9_over_facts, gs9_came_facts, gs9_known_facts, gs9_fresh_facts, gs9_rounds_facts]; exact ht43)
        refine zgoV (bs' := [w9 G am (s9_rounds (s9_fresh (s9_known (s9_came (s9_facts bm t36) t43.1) t43.2.1) t43.2.2.1) t43.2.2.2)]) hc [0] rfl rfl rfl hP hD hS hA (va_runV (As := []) (rest := []) S (hc.2 _) (cwV 0 S.2.2.2.2 gX9_would_X9_tags rfl rfl rfl (by decide +kernel) ⟨Nat.le_of_ble_eq_true rfl, Nat.le_of_ble_eq_true rfl⟩) (zpV hK hP hD (is := [0]) rfl rfl 0 rfl rfl (ci := 9) rfl) rfl rfl hl.1 rfl (lv_room (Nat.le_of_ble_eq_true rfl)) dX9_would_43 ⟨Nat.zero_le _, Nat.zero_le _⟩) (fun H locs hP hD hS => ?_)
        refine lv_aload_n hx hb dX9_would_46 rfl (lv_at hl 1 rfl) ?_
        refine lv_iload hx hb dX9_would_47 (lv_at hl 0 rfl) ?_
        refine zp9_facts (bs1 := [w9 G am (s9_facts (s9_rounds (s9_fresh (s9_known (s9_came (s9_facts bm t36) t43.1) t43.2.1) t43.2.2.1) t43.2.2.2) (g9_facts bm))]) S in_X9_would_9 hK hP hD hS 0 rfl (List.mem_of_getElem? (i := 1) rfl) dX9_would_49 rfl (fun H locs hP hD hS => ?_)
        refine lv_iconst (v := 0) hx hb dX9_would_52 (by decide) ?_
        refine lv_istore (lv' := [(5, .int 0), (4, .int (g9_facts bm)), (0, .ref (am 0)), (1, .int x1), (2, .int x2), (3, .int x3)]) hx hb dX9_would_53 hl (by decide) rfl (fun ls hl => ?_)
        refine lv_iconst (v := 0) hx hb dX9_would_55 (by decide) ?_
        have hB97 : ∀ (x5_97 : Int32) (H : Heap) (locs : List Loc) (ls : Array Slot), T = FX9_would_97 (g9_facts bm) (g9_rules bm) (g9_kind bm) (g9_head bm) (g9_body bm) (g9_except bm) (g9_strength bm) (g9_off bm) (g9_over bm) (g9_came bm) (g9_known bm) (g9_fresh bm) (g9_rounds bm) x1 x2 x3 x5_97 (g9_facts bm) t43.1 t43.2.1 t43.2.2.1 t43.2.2.2 → zP G [w9 G am (s9_rounds (s9_fresh (s9_known (s9_came (s9_facts bm (g9_facts bm)) t43.1) t43.2.1) t43.2.2.1) t43.2.2.2)] H → zD A [w9 G am (s9_rounds (s9_fresh (s9_known (s9_came (s9_facts bm (g9_facts bm)) t43.1) t43.2.1) t43.2.2.1) t43.2.2.2)] → va_S A s.heap H locs → lv_has ls 7 [(5, .int x5_97)] → W p l e rmX9_would s m args below meth c H locs 0 0 Q (F0 m 97 ls []) := by
          intro x5_97 H locs ls hE hP hD hS hl
          have hE := hE.trans (FX9_would_97.eq_1 _ _ _ _ _ _ _ _ _ _ _ _ _ _ _ _ _ _ _ _ _ _)
          refine lv_iload hx hb dX9_would_97 (lv_at hl 0 rfl) ?_
          exact hret _ _ _ _ _ _ (by subst hE; rfl) rfl hP hS dX9_would_99
        have hB58 : ∀ (n58 : Nat) (x5_58 : Int32) (i6_58 : Nat) (H : Heap) (locs : List Loc) (ls : Array Slot), (i6_58 ≤ 4) → 5 ≤ i6_58 + n58 → T = FX9_would_58 (g9_facts bm) (g9_rules bm) (g9_kind bm) (g9_head bm) (g9_body bm) (g9_except bm) (g9_strength bm) (g9_off bm) (g9_over bm) (g9_came bm) (g9_known bm) (g9_fresh bm) (g9_rounds bm) x1 x2 x3 (FX9_would_97 (g9_facts bm) (g9_rules bm) (g9_kind bm) (g9_head bm) (g9_body bm) (g9_except bm) (g9_strength bm) (g9_off bm) (g9_over bm) (g9_came bm) (g9_known bm) (g9_fresh bm) (g9_rounds bm) x1 x2 x3) n58 x5_58 (nI i6_58) (g9_facts bm) t43.1 t43.2.1 t43.2.2.1 t43.2.2.2 → zP G [w9 G am (s9_rounds (s9_fresh (s9_known (s9_came (s9_facts bm (g9_facts bm)) t43.1) t43.2.1) t43.2.2.1) t43.2.2.2)] H → zD A [w9 G am (s9_rounds (s9_fresh (s9_known (s9_came (s9_facts bm (g9_facts bm)) t43.1) t43.2.1) t43.2.2.1) t43.2.2.2)] → va_S A s.heap H locs → lv_has ls 7 [(0, .ref (am 0)), (1, .int x1), (5, .int x5_58), (6, .int (nI i6_58))] → W p l e rmX9_would s m args below meth c H locs 0 0 Q (F0 m 58 ls []) := by
          intro n58
          induction n58 with
          | zero =>
            intro x5_58 i6_58 H locs ls hi6_58 hn hE hP hD hS hl
            exact absurd hn (by omega)
          | succ n58 ih58 =>
            intro x5_58 i6_58 H locs ls hi6_58 hn hE hP hD hS hl
            have hE := hE.trans (FX9_would_58.eq_2 _ _ _ _ _ _ _ _ _ _ _ _ _ _ _ _ _ _ _ _ _ _ _ _ _)
            refine lv_iload hx hb dX9_would_58 (lv_at hl 3 rfl) ?_
            refine lv_iconst (v := 4) hx hb dX9_would_60 (by decide) ?_
            refine lv_icmp_ge (tgt := 97) hx hb dX9_would_61 (by decide) (fun c61 => ?_) (fun c61 => ?_)
            · have hE := hE.trans (if_pos c61)
              exact hB97 x5_58 _ _ _ hE hP hD hS (lv_sub hl [2] rfl)
            · have hE := hE.trans (if_neg c61)
              have hl6_58 : i6_58 < 4 := zlt (N := 4) rfl (by omega) (by omega) c61
              refine lv_iload hx hb dX9_would_64 (lv_at hl 2 rfl) ?_
              refine lv_aload_n hx hb dX9_would_66 rfl (lv_at hl 0 rfl) ?_
              refine zg9_known S in_X9_would_9 hK hP 0 rfl (List.mem_of_getElem? (i := 2) rfl) dX9_would_67 ?_
              refine lv_iload hx hb dX9_would_70 (lv_at hl 3 rfl) ?_
              refine zl9_known S hK hP 0 rfl (vp_in_nI (by omega) (by omega)) (f := t43.2.1) ((gs9_known_rounds _ t43.2.2.2).trans ((gs9_known_fresh _ t43.2.2.1).trans (gg9_known _ t43.2.1))) dX9_would_72 ?_
              refine lv_iload_n hx hb dX9_would_73 rfl (lv_at hl 1 rfl) ?_
              obtain ⟨t74, ht74⟩ : ∃ z, FX9_has (t43.2.1 (nI i6_58).toNatClampNeg) x1 = z := ⟨_, rfl⟩
              have hE := hE.trans (bnd_eq ht74)
              have hc := c_X9_has l G (t43.2.1 (nI i6_58).toNatClampNeg) x1 _ ht74
              refine zgoR (va_runS (As := [.int (t43.2.1 (nI i6_58).toNatClampNeg), .int x1]) (rest := [.int x5_58]) S (hc _) (va_cwS 2 S.2.2.2.2 gX9_would_X9_has rfl rfl rfl (by decide +kernel) ⟨Nat.le_of_ble_eq_true rfl, Nat.le_of_ble_eq_true rfl⟩) (zpS hK hP hD (is := []) rfl rfl) rfl rfl hl.1 rfl (lv_room (Nat.le_of_ble_eq_true rfl)) dX9_would_74 ⟨Nat.zero_le _, Nat.zero_le _⟩) (fun hn74 => ?_)
              refine lv_if_eq (tgt := 87) hx hb dX9_would_77 (by decide) (fun c77 => ?_) (fun c77 => ?_)
              · have hE := hE.trans (if_pos c77)
                refine lv_iconst (v := 0) hx hb dX9_would_87 (by decide) ?_
                refine lv_ior hx hb dX9_would_88 ?_
                refine lv_istore (lv' := [(5, .int (x5_58 ||| 0)), (0, .ref (am 0)), (1, .int x1), (6, .int (nI i6_58))]) hx hb dX9_would_89 hl (by decide) rfl (fun ls hl => ?_)
                refine lv_iinc (v := (nI (i6_58 + 1))) (lv' := [(6, .int (nI (i6_58 + 1))), (5, .int (x5_58 ||| 0)), (0, .ref (am 0)), (1, .int x1)]) hx hb dX9_would_91 hl (k := 3) rfl (nI_1 i6_58) (by decide) rfl (fun ls hl => ?_)
                try rw [nI_1 i6_58] at hE
                refine lv_goto (tgt := 58) hx hb dX9_would_94 (by decide) ?_
                exact ih58 (x5_58 ||| 0) (i6_58 + 1) _ _ _ (by first | assumption | omega) (by omega) hE hP hD hS (lv_sub hl [2, 3, 1, 0] rfl)
              · have hE := hE.trans (if_neg c77)
                refine lv_iconst (v := 1) hx hb dX9_would_80 (by decide) ?_
                refine lv_iload hx hb dX9_would_81 (lv_at hl 3 rfl) ?_
                refine lv_ishl hx hb dX9_would_83 ?_
                refine lv_goto (tgt := 88) hx hb dX9_would_84 (by decide) ?_
                refine lv_ior hx hb dX9_would_88 ?_
                refine lv_istore (lv' := [(5, .int (x5_58 ||| (1 <<< ((nI i6_58) &&& 31)))), (0, .ref (am 0)), (1, .int x1), (6, .int (nI i6_58))]) hx hb dX9_would_89 hl (by decide) rfl (fun ls hl => ?_)
                refine lv_iinc (v := (nI (i6_58 + 1))) (lv' := [(6, .int (nI (i6_58 + 1))), (5, .int (x5_58 ||| (1 <<< ((nI i6_58) &&& 31)))), (0, .ref (am 0)), (1, .int x1)]) hx hb dX9_would_91 hl (k := 3) rfl (nI_1 i6_58) (by decide) rfl (fun ls hl => ?_)
                try rw [nI_1 i6_58] at hE
                refine lv_goto (tgt := 58) hx hb dX9_would_94 (by decide) ?_
                exact ih58 (x5_58 ||| (1 <<< ((nI i6_58) &&& 31))) (i6_58 + 1) _ _ _ (by first | assumption | omega) (by omega) hE hP hD hS (lv_sub hl [2, 3, 1, 0] rfl)
        refine lv_istore (lv' := [(6, .int 0), (5, .int 0), (4, .int (g9_facts bm)), (0, .ref (am 0)), (1, .int x1), (2, .int x2), (3, .int x3)]) hx hb dX9_would_56 hl (by decide) rfl (fun ls hl => ?_)
        rw [show (s9_facts (s9_rounds (s9_fresh (s9_known (s9_came (s9_facts bm t36) t43.1) t43.2.1) t43.2.2.1) t43.2.2.2) (g9_facts bm)) = (s9_rounds (s9_fresh (s9_known (s9_came (s9_facts bm (g9_facts bm)) t43.1) t43.2.1) t43.2.2.1) t43.2.2.2) from ((cm9_facts_rounds _ t43.2.2.2 (g9_facts bm)).trans (congrArg (fun z => s9_rounds z t43.2.2.2) ((cm9_facts_fresh _ t43.2.2.1 (g9_facts bm)).trans (congrArg (fun z => s9_fresh z t43.2.2.1) ((cm9_facts_known _ t43.2.1 (g9_facts bm)).trans (congrArg (fun z => s9_known z t43.2.1) ((cm9_facts_came _ t43.1 (g9_facts bm)).trans (congrArg (fun z => s9_came z t43.1) (ss9_facts _ t36 (g9_facts bm))))))))))] at hP hD
        exact hB58 5 0 0 _ _ _ (by first | assumption | omega) (by omega) hE hP hD hS (lv_sub hl [3, 4, 1, 0] rfl)
      · have hE := hE.trans (if_pos c18)
        refine lv_iconst (v := (-1)) hx hb dX9_would_21 (by decide) ?_
        rw [show bm = (s9_rounds (s9_fresh (s9_known (s9_came (s9_facts bm (g9_facts bm)) (g9_came bm)) (g9_known bm)) (g9_fresh bm)) (g9_rounds bm)) from ((((((se9_facts _).symm).trans (((se9_came _).symm).trans (congrArg (fun v => s9_came (s9_facts bm (g9_facts bm)) v) (gs9_came_facts _ (g9_facts bm))))).trans (((se9_known _).symm).trans (congrArg (fun v => s9_known (s9_came (s9_facts bm (g9_facts bm)) (g9_came bm)) v) ((gs9_known_came _ (g9_came bm)).trans (gs9_known_facts _ (g9_facts bm)))))).trans (((se9_fresh _).symm).trans (congrArg (fun v => s9_fresh (s9_known (s9_came (s9_facts bm (g9_facts bm)) (g9_came bm)) (g9_known bm)) v) ((gs9_fresh_known _ (g9_known bm)).trans ((gs9_fresh_came _ (g9_came bm)).trans (gs9_fresh_facts _ (g9_facts bm))))))).trans (((se9_rounds _).symm).trans (congrArg (fun v => s9_rounds (s9_fresh (s9_known (s9_came (s9_facts bm (g9_facts bm)) (g9_came bm)) (g9_known bm)) (g9_fresh bm)) v) ((gs9_rounds_fresh _ (g9_fresh bm)).trans ((gs9_rounds_known _ (g9_known bm)).trans ((gs9_rounds_came _ (g9_came bm)).trans (gs9_rounds_facts _ (g9_facts bm))))))))] at hP hD
        exact hret _ _ _ _ _ _ (by subst hE; rfl) rfl hP hS dX9_would_22

theorem in_X9_key_9 : ∀ w ∈ u_ws RX9 TX9 40, w ∈ wsX9_key := by decide +kernel
def rmX9_key : Room := { frames := 8, cells := 0, slots := 0, locals := 177 }
set_option maxHeartbeats 4000000 in
set_option maxRecDepth 100000 in
theorem c_X9_key (l : Launch) (G : zG) (am : Nat → Nat) (bm : S9) (x1 : Int32) (hz_m_rules : ∃ N : Nat, N ≤ 16 ∧ g9_rules bm = nI N) (T : Int32 × (Int32) × (Nat → Int32) × (Nat → Int32) × (Nat → Int32) × (Int32)) (hT : FX9_key (g9_facts bm) (g9_rules bm) (g9_kind bm) (g9_head bm) (g9_body bm) (g9_except bm) (g9_strength bm) (g9_off bm) (g9_over bm) (g9_came bm) (g9_known bm) (g9_fresh bm) (g9_rounds bm) x1 = T) : zI l yX9_key wsX9_key rmX9_key .int G [.ref (am 0), .int x1] [w9 G am bm] T.1 [w9 G am (s9_rounds (s9_fresh (s9_known (s9_came (s9_facts bm T.2.1) T.2.2.1) T.2.2.2.1) T.2.2.2.2.1) T.2.2.2.2.2)] := by
  refine zI.mk (cc := cX9_key) (maxL := 5) (by decide +kernel) rfl (Nat.le_of_ble_eq_true rfl) (zfl_cons (wf9 _ _ _ _) rfl) ?_
  intro p e s m args below meth c Q A ls S hK hD hA hP hl hret
  have hx := S.1
  have hb := S.2.1
  have hS : va_S A s.heap s.heap [] := va_S.rf
  have hl : lv_has ls 5 [(0, .ref (am 0)), (1, .int x1)] := hl
  have hE := hT.symm.trans (FX9_key.eq_1 _ _ _ _ _ _ _ _ _ _ _ _ _ _)
  refine lv_iload_n hx hb dX9_key_0 rfl (lv_at hl 1 rfl) ?_
  obtain ⟨t1, ht1⟩ : ∃ z, FX9_isLiteral x1 = z := ⟨_, rfl⟩
  have hE := hE.trans (bnd_eq ht1)
  have hc := c_X9_isLiteral l G x1 _ ht1
  refine zgoR (va_runS (As := [.int x1]) (rest := []) S (hc _) (va_cwS 1 S.2.2.2.2 gX9_key_X9_isLiteral rfl rfl rfl (by decide +kernel) ⟨Nat.le_of_ble_eq_true rfl, Nat.le_of_ble_eq_true rfl⟩) (zpS hK hP hD (is := []) rfl rfl) rfl rfl hl.1 rfl (lv_room (Nat.le_of_ble_eq_true rfl)) dX9_key_1 ⟨Nat.zero_le _, Nat.zero_le _⟩) (fun hn1 => ?_)
  refine lv_if_ne (tgt := 9) hx hb dX9_key_4 (by decide) (fun c4 => ?_) (fun c4 => ?_)
  · have hE := hE.trans (if_neg c4)
    have hx1_20 : vp_in x1 20 := zisLit9 (by rw [ht1]; exact c4)
    refine lv_aload_n hx hb dX9_key_9 rfl (lv_at hl 0 rfl) ?_
    refine lv_iload_n hx hb dX9_key_10 rfl (lv_at hl 1 rfl) ?_
    refine lv_iconst (v := 2) hx hb dX9_key_11 (by decide) ?_
    obtain ⟨t12, ht12⟩ : ∃ z, FX9_comes (g9_facts bm) (g9_rules bm) (g9_kind bm) (g9_head bm) (g9_body bm) (g9_except bm) (g9_strength bm) (g9_off bm) (g9_over bm) (g9_came bm) (g9_known bm) (g9_fresh bm) (g9_rounds bm) x1 2 = z := ⟨_, rfl⟩
    have hE := hE.trans (bnd_eq ht12)
    have hc := c_X9_comes l G am bm x1 2 (hz_m_rules) ((zin_k (n := 2) rfl (by decide) (by decide))) _ ht12
    refine zgoI (bs' := [w9 G am (s9_rounds (s9_fresh (s9_known (s9_came bm t12.2.1) t12.2.2.1) t12.2.2.2.1) t12.2.2.2.2)]) hc [0] rfl rfl rfl hP hD hS hA (va_runV (As := [.int x1, .int 2]) (rest := []) S (hc.2 _) (cwV 2 S.2.2.2.2 gX9_key_X9_comes rfl rfl rfl (by decide +kernel) ⟨Nat.le_of_ble_eq_true rfl, Nat.le_of_ble_eq_true rfl⟩) (zpV hK hP hD (is := [0]) rfl rfl 0 rfl rfl (ci := 9) rfl) rfl rfl hl.1 rfl (lv_room (Nat.le_of_ble_eq_true rfl)) dX9_key_12 ⟨Nat.zero_le _, Nat.zero_le _⟩) (fun H locs hn12 hP hD hS => ?_)
    refine lv_if_eq (tgt := 21) hx hb dX9_key_15 (by decide) (fun c15 => ?_) (fun c15 => ?_)
    · have hE := hE.trans (if_pos c15)
      refine lv_aload_n hx hb dX9_key_21 rfl (lv_at hl 0 rfl) ?_
      refine zg9_facts S in_X9_key_9 hK hP 0 rfl (List.mem_of_getElem? (i := 1) rfl) (v := (g9_facts bm)) ((gs9_facts_rounds _ t12.2.2.2.2).trans ((gs9_facts_fresh _ t12.2.2.2.1).trans ((gs9_facts_known _ t12.2.2.1).trans (gs9_facts_came _ t12.2.1)))) dX9_key_22 ?_
      refine lv_istore_n (lv' := [(2, .int (g9_facts bm)), (0, .ref (am 0)), (1, .int x1)]) hx hb dX9_key_25 rfl hl (by decide) rfl (fun ls hl => ?_)
      refine lv_bipush (v := (-2)) hx hb dX9_key_26 (by decide) ?_
      refine lv_istore_n (lv' := [(3, .int (-2)), (2, .int (g9_facts bm)), (0, .ref (am 0)), (1, .int x1)]) hx hb dX9_key_28 rfl hl (by decide) rfl (fun ls hl => ?_)
      refine lv_iconst (v := 0) hx hb dX9_key_29 (by decide) ?_
      have hB97 : ∀ (x3_97 : Int32) (m_facts_97 : Int32) (m_came_97 : Nat → Int32) (m_known_97 : Nat → Int32) (m_fresh_97 : Nat → Int32) (m_rounds_97 : Int32) (H : Heap) (locs : List Loc) (ls : Array Slot), T = FX9_key_97 (g9_facts bm) (g9_rules bm) (g9_kind bm) (g9_head bm) (g9_body bm) (g9_except bm) (g9_strength bm) (g9_off bm) (g9_over bm) (g9_came bm) (g9_known bm) (g9_fresh bm) (g9_rounds bm) x1 (g9_facts bm) x3_97 m_facts_97 m_came_97 m_known_97 m_fresh_97 m_rounds_97 → zP G [w9 G am (s9_rounds (s9_fresh (s9_known (s9_came (s9_facts bm m_facts_97) m_came_97) m_known_97) m_fresh_97) m_rounds_97)] H → zD A [w9 G am (s9_rounds (s9_fresh (s9_known (s9_came (s9_facts bm m_facts_97) m_came_97) m_known_97) m_fresh_97) m_rounds_97)] → va_S A s.heap H locs → lv_has ls 5 [(0, .ref (am 0)), (2, .int (g9_facts bm)), (3, .int x3_97)] → W p l e rmX9_key s m args below meth c H locs 0 0 Q (F0 m 97 ls []) := by
        intro x3_97 m_facts_97 m_came_97 m_known_97 m_fresh_97 m_rounds_97 H locs ls hE hP hD hS hl
        have hE := hE.trans (FX9_key_97.eq_1 _ _ _ _ _ _ _ _ _ _ _ _ _ _ _ _ _ _ _ _ _)
        refine lv_aload_n hx hb dX9_key_97 rfl (lv_at hl 0 rfl) ?_
        refine lv_iload_n hx hb dX9_key_98 rfl (lv_at hl 1 rfl) ?_
        refine zp9_facts (bs1 := [w9 G am (s9_facts (s9_rounds (s9_fresh (s9_known (s9_came (s9_facts bm m_facts_97) m_came_97) m_known_97) m_fresh_97) m_rounds_97) (g9_facts bm))]) S in_X9_key_9 hK hP hD hS 0 rfl (List.mem_of_getElem? (i := 1) rfl) dX9_key_99 rfl (fun H locs hP hD hS => ?_)
        refine lv_iload_n hx hb dX9_key_102 rfl (lv_at hl 2 rfl) ?_
        rw [show (s9_facts (s9_rounds (s9_fresh (s9_known (s9_came (s9_facts bm m_facts_97) m_came_97) m_known_97) m_fresh_97) m_rounds_97) (g9_facts bm)) = (s9_rounds (s9_fresh (s9_known (s9_came (s9_facts bm (g9_facts bm)) m_came_97) m_known_97) m_fresh_97) m_rounds_97) from ((cm9_facts_rounds _ m_rounds_97 (g9_facts bm)).trans (congrArg (fun z => s9_rounds z m_rounds_97) ((cm9_facts_fresh _ m_fresh_97 (g9_facts bm)).trans (congrArg (fun z => s9_fresh z m_fresh_97) ((cm9_facts_known _ m_known_97 (g9_facts bm)).trans (congrArg (fun z => s9_known z m_known_97) ((cm9_facts_came _ m_came_97 (g9_facts bm)).trans (congrArg (fun z => s9_came z m_came_97) (ss9_facts _ m_facts_97 (g9_facts bm))))))))))] at hP hD
        exact hret _ _ _ _ _ _ (by subst hE; rfl) rfl hP hS dX9_key_103
      have hB32 : ∀ (n32 : Nat) (x3_32 : Int32) (i4_32 : Nat) (m_facts_32 : Int32) (m_came_32 : Nat → Int32) (m_known_32 : Nat → Int32) (m_fresh_32 : Nat → Int32) (m_rounds_32 : Int32) (H : Heap) (locs : List Loc) (ls : Array Slot), (i4_32 ≤ 20) → 21 ≤ i4_32 + n32 → T = FX9_key_32 (g9_facts bm) (g9_rules bm) (g9_kind bm) (g9_head bm) (g9_body bm) (g9_except bm) (g9_strength bm) (g9_off bm) (g9_over bm) (g9_came bm) (g9_known bm) (g9_fresh bm) (g9_rounds bm) x1 (FX9_key_97 (g9_facts bm) (g9_rules bm) (g9_kind bm) (g9_head bm) (g9_body bm) (g9_except bm) (g9_strength bm) (g9_off bm) (g9_over bm) (g9_came bm) (g9_known bm) (g9_fresh bm) (g9_rounds bm) x1) n32 (g9_facts bm) x3_32 (nI i4_32) m_facts_32 m_came_32 m_known_32 m_fresh_32 m_rounds_32 → zP G [w9 G am (s9_rounds (s9_fresh (s9_known (s9_came (s9_facts bm m_facts_32) m_came_32) m_known_32) m_fresh_32) m_rounds_32)] H → zD A [w9 G am (s9_rounds (s9_fresh (s9_known (s9_came (s9_facts bm m_facts_32) m_came_32) m_known_32) m_fresh_32) m_rounds_32)] → va_S A s.heap H locs → lv_has ls 5 [(0, .ref (am 0)), (1, .int x1), (2, .int (g9_facts bm)), (3, .int x3_32), (4, .int (nI i4_32))] → W p l e rmX9_key s m args below meth c H locs 0 0 Q (F0 m 32 ls []) := by
        intro n32
        induction n32 with
        | zero =>
          intro x3_32 i4_32 m_facts_32 m_came_32 m_known_32 m_fresh_32 m_rounds_32 H locs ls hi4_32 hn hE hP hD hS hl
          exact absurd hn (by omega)
        | succ n32 ih32 =>
          intro x3_32 i4_32 m_facts_32 m_came_32 m_known_32 m_fresh_32 m_rounds_32 H locs ls hi4_32 hn hE hP hD hS hl
          have hE := hE.trans (FX9_key_32.eq_2 _ _ _ _ _ _ _ _ _ _ _ _ _ _ _ _ _ _ _ _ _ _ _ _)
          refine lv_iload hx hb dX9_key_32 (lv_at hl 4 rfl) ?_
          refine lv_bipush (v := 20) hx hb dX9_key_34 (by decide) ?_
          refine lv_icmp_ge (tgt := 97) hx hb dX9_key_36 (by decide) (fun c36 => ?_) (fun c36 => ?_)
          · have hE := hE.trans (if_pos c36)
            exact hB97 x3_32 m_facts_32 m_came_32 m_known_32 m_fresh_32 m_rounds_32 _ _ _ hE hP hD hS (lv_sub hl [0, 2, 3] rfl)
          · have hE := hE.trans (if_neg c36)
            have hl4_32 : i4_32 < 20 := zlt (N := 20) rfl (by omega) (by omega) c36
            refine lv_iload_n hx hb dX9_key_39 rfl (lv_at hl 3 rfl) ?_
            refine lv_bipush (v := (-2)) hx hb dX9_key_40 (by decide) ?_
            refine lv_icmp_ne (tgt := 97) hx hb dX9_key_42 (by decide) (fun c42 => ?_) (fun c42 => ?_)
            · have hE := hE.trans (if_neg c42)
              exact hB97 x3_32 m_facts_32 m_came_32 m_known_32 m_fresh_32 m_rounds_32 _ _ _ hE hP hD hS (lv_sub hl [0, 2, 3] rfl)
            · have hE := hE.trans (if_pos c42)
              refine lv_iload hx hb dX9_key_45 (lv_at hl 4 rfl) ?_
              refine lv_iload_n hx hb dX9_key_47 rfl (lv_at hl 1 rfl) ?_
              refine lv_icmp_eq (tgt := 91) hx hb dX9_key_48 (by decide) (fun c48 => ?_) (fun c48 => ?_)
              · have hE := hE.trans (if_pos c48)
                refine lv_iinc (v := (nI (i4_32 + 1))) (lv' := [(4, .int (nI (i4_32 + 1))), (0, .ref (am 0)), (1, .int x1), (2, .int (g9_facts bm)), (3, .int x3_32)]) hx hb dX9_key_91 hl (k := 4) rfl (nI_1 i4_32) (by decide) rfl (fun ls hl => ?_)
                try rw [nI_1 i4_32] at hE
                refine lv_goto (tgt := 32) hx hb dX9_key_94 (by decide) ?_
                exact ih32 x3_32 (i4_32 + 1) m_facts_32 m_came_32 m_known_32 m_fresh_32 m_rounds_32 _ _ _ (by first | assumption | omega) (by omega) hE hP hD hS (lv_sub hl [1, 2, 3, 4, 0] rfl)
              · have hE := hE.trans (if_neg c48)
                refine lv_iload_n hx hb dX9_key_51 rfl (lv_at hl 2 rfl) ?_
                refine lv_iload hx hb dX9_key_52 (lv_at hl 4 rfl) ?_
                obtain ⟨t54, ht54⟩ : ∃ z, FX9_has (g9_facts bm) (nI i4_32) = z := ⟨_, rfl⟩
                have hE := hE.trans (bnd_eq ht54)
                have hc := c_X9_has l G (g9_facts bm) (nI i4_32) _ ht54
                refine zgoR (va_runS (As := [.int (g9_facts bm), .int (nI i4_32)]) (rest := []) S (hc _) (va_cwS 2 S.2.2.2.2 gX9_key_X9_has rfl rfl rfl (by decide +kernel) ⟨Nat.le_of_ble_eq_true rfl, Nat.le_of_ble_eq_true rfl⟩) (zpS hK hP hD (is := []) rfl rfl) rfl rfl hl.1 rfl (lv_room (Nat.le_of_ble_eq_true rfl)) dX9_key_54 ⟨Nat.zero_le _, Nat.zero_le _⟩) (fun hn54 => ?_)
                refine lv_if_eq (tgt := 63) hx hb dX9_key_57 (by decide) (fun c57 => ?_) (fun c57 => ?_)
                · have hE := hE.trans (if_pos c57)
                  refine lv_aload_n hx hb dX9_key_63 rfl (lv_at hl 0 rfl) ?_
                  refine lv_iload_n hx hb dX9_key_64 rfl (lv_at hl 2 rfl) ?_
                  refine lv_iload hx hb dX9_key_65 (lv_at hl 4 rfl) ?_
                  refine lv_iconst (v := 1) hx hb dX9_key_67 (by decide) ?_
                  obtain ⟨t68, ht68⟩ : ∃ z, FX9_with (g9_facts bm) (nI i4_32) 1 = z := ⟨_, rfl⟩
                  have hE := hE.trans (bnd_eq ht68)
                  have hc := c_X9_with l G (g9_facts bm) (nI i4_32) 1 _ ht68
                  refine zgoR (va_runS (As := [.int (g9_facts bm), .int (nI i4_32), .int 1]) (rest := [.ref (am 0)]) S (hc _) (va_cwS 3 S.2.2.2.2 gX9_key_X9_with rfl rfl rfl (by decide +kernel) ⟨Nat.le_of_ble_eq_true rfl, Nat.le_of_ble_eq_true rfl⟩) (zpS hK hP hD (is := []) rfl rfl) rfl rfl hl.1 rfl (lv_room (Nat.le_of_ble_eq_true rfl)) dX9_key_68 ⟨Nat.zero_le _, Nat.zero_le _⟩) (fun hn68 => ?_)
                  refine zp9_facts (bs1 := [w9 G am (s9_facts (s9_rounds (s9_fresh (s9_known (s9_came (s9_facts bm m_facts_32) m_came_32) m_known_32) m_fresh_32) m_rounds_32) t68)]) S in_X9_key_9 hK hP hD hS 0 rfl (List.mem_of_getElem? (i := 1) rfl) dX9_key_71 rfl (fun H locs hP hD hS => ?_)
                  refine lv_aload_n hx hb dX9_key_74 rfl (lv_at hl 0 rfl) ?_
                  refine lv_iload_n hx hb dX9_key_75 rfl (lv_at hl 1 rfl) ?_
                  refine lv_iconst (v := 2) hx hb dX9_key_76 (by decide) ?_
                  obtain ⟨t77, ht77⟩ : ∃ z, FX9_comes t68 (g9_rules bm) (g9_kind bm) (g9_head bm) (g9_body bm) (g9_except bm) (g9_strength bm) (g9_off bm) (g9_over bm) m_came_32 m_known_32 m_fresh_32 m_rounds_32 x1 2 = z := ⟨_, rfl⟩
                  have hE := hE.trans (bnd_eq ht77)
                  have hc := c_X9_comes l G am (s9_facts (s9_rounds (s9_fresh (s9_known (s9_came (s9_facts bm m_facts_32) m_came_32) m_known_32) m_fresh_32) m_rounds_32) t68) x1 2 (hz_m_rules) ((zin_k (n := 2) rfl (by decide) (by decide))) _ (by simp only [gg9_facts, gs9_rules_facts, gs9_rules_rounds, gs9_rules_fresh, gs9_rules_known, gs9_rules_came, gs9_kind_facts, gs9_kind_rounds, gs9_kind_fresh, gs9_kind_known, gs9_kind_came, gs9_head_facts, gs9_head_rounds, gs9_head_fresh, gs9_head_known, gs9_head_came, gs9_body_facts, gs9_body_rounds, gs9_body_fresh, gs9_body_known, gs9_body_came, gs9_except_facts, gs9_except_rounds, gs9_except_fresh, gs9_except_known, gs9_except_came, gs9_strength_facts, gs9_strength_rounds, gs9_strength_fresh, gs9_strength_known, gs9_strength_came, gs9_off_facts, gs9_off_rounds, gs9_off_fresh, gs9_off_known, gs9_off_came, gs9_over_facts, gs9_over_rounds, gs9_over_fresh, gs9_over_known, gs9_over_came, gs9_came_facts, gs9_came_rounds, gs9_came_fresh, gs9_came_known, gg9_came, gs9_known_facts, gs9_known_rounds, gs9_known_fresh, gg9_known, gs9_fresh_facts, gs9_fresh_rounds, gg9_fresh, gs9_rounds_facts, gg9_rounds]; exact ht77)
                  refine zgoI (bs' := [w9 G am (s9_rounds (s9_fresh (s9_known (s9_came (s9_facts (s9_rounds (s9_fresh (s9_known (s9_came (s9_facts bm m_facts_32) m_came_32) m_known_32) m_fresh_32) m_rounds_32) t68) t77.2.1) t77.2.2.1) t77.2.2.2.1) t77.2.2.2.2)]) hc [0] rfl rfl rfl hP hD hS hA (va_runV (As := [.int x1, .int 2]) (rest := []) S (hc.2 _) (cwV 2 S.2.2.2.2 gX9_key_X9_comes rfl rfl rfl (by decide +kernel) ⟨Nat.le_of_ble_eq_true rfl, Nat.le_of_ble_eq_true rfl⟩) (zpV hK hP hD (is := [0]) rfl rfl 0 rfl rfl (ci := 9) rfl) rfl rfl hl.1 rfl (lv_room (Nat.le_of_ble_eq_true rfl)) dX9_key_77 ⟨Nat.zero_le _, Nat.zero_le _⟩) (fun H locs hn77 hP hD hS => ?_)
                  refine lv_if_eq (tgt := 88) hx hb dX9_key_80 (by decide) (fun c80 => ?_) (fun c80 => ?_)
                  · have hE := hE.trans (if_pos c80)
                    refine lv_bipush (v := (-2)) hx hb dX9_key_88 (by decide) ?_
                    refine lv_istore_n (lv' := [(3, .int (-2)), (0, .ref (am 0)), (1, .int x1), (2, .int (g9_facts bm)), (4, .int (nI i4_32))]) hx hb dX9_key_90 rfl hl (by decide) rfl (fun ls hl => ?_)
                    refine lv_iinc (v := (nI (i4_32 + 1))) (lv' := [(4, .int (nI (i4_32 + 1))), (3, .int (-2)), (0, .ref (am 0)), (1, .int x1), (2, .int (g9_facts bm))]) hx hb dX9_key_91 hl (k := 4) rfl (nI_1 i4_32) (by decide) rfl (fun ls hl => ?_)
                    try rw [nI_1 i4_32] at hE
                    refine lv_goto (tgt := 32) hx hb dX9_key_94 (by decide) ?_
                    rw [show (s9_rounds (s9_fresh (s9_known (s9_came (s9_facts (s9_rounds (s9_fresh (s9_known (s9_came (s9_facts bm m_facts_32) m_came_32) m_known_32) m_fresh_32) m_rounds_32) t68) t77.2.1) t77.2.2.1) t77.2.2.2.1) t77.2.2.2.2) = (s9_rounds (s9_fresh (s9_known (s9_came (s9_facts bm t68) t77.2.1) t77.2.2.1) t77.2.2.2.1) t77.2.2.2.2) from ((congrArg (fun z => s9_rounds z t77.2.2.2.2) ((congrArg (fun z => s9_fresh z t77.2.2.2.1) ((congrArg (fun z => s9_known z t77.2.2.1) ((congrArg (fun z => s9_came z t77.2.1) ((cm9_facts_rounds _ m_rounds_32 t68).trans (congrArg (fun z => s9_rounds z m_rounds_32) ((cm9_facts_fresh _ m_fresh_32 t68).trans (congrArg (fun z => s9_fresh z m_fresh_32) ((cm9_facts_known _ m_known_32 t68).trans (congrArg (fun z => s9_known z m_known_32) ((cm9_facts_came _ m_came_32 t68).trans (congrArg (fun z => s9_came z m_came_32) (ss9_facts _ m_facts_32 t68)))))))))).trans ((cm9_came_rounds _ m_rounds_32 t77.2.1).trans (congrArg (fun z => s9_rounds z m_rounds_32) ((cm9_came_fresh _ m_fresh_32 t77.2.1).trans (congrArg (fun z => s9_fresh z m_fresh_32) ((cm9_came_known _ m_known_32 t77.2.1).trans (congrArg (fun z => s9_known z m_known_32) (ss9_came _ m_came_32 t77.2.1))))))))).trans ((cm9_known_rounds _ m_rounds_32 t77.2.2.1).trans (congrArg (fun z => s9_rounds z m_rounds_32) ((cm9_known_fresh _ m_fresh_32 t77.2.2.1).trans (congrArg (fun z => s9_fresh z m_fresh_32) (ss9_known _ m_known_32 t77.2.2.1))))))).trans ((cm9_fresh_rounds _ m_rounds_32 t77.2.2.2.1).trans (congrArg (fun z => s9_rounds z m_rounds_32) (ss9_fresh _ m_fresh_32 t77.2.2.2.1))))).trans (ss9_rounds _ m_rounds_32 t77.2.2.2.2))] at hP hD
                    exact ih32 (-2) (i4_32 + 1) t68 t77.2.1 t77.2.2.1 t77.2.2.2.1 t77.2.2.2.2 _ _ _ (by first | assumption | omega) (by omega) hE hP hD hS (lv_sub hl [2, 3, 4, 1, 0] rfl)
                  · have hE := hE.trans (if_neg c80)
                    refine lv_iload hx hb dX9_key_83 (lv_at hl 4 rfl) ?_
                    refine lv_goto (tgt := 90) hx hb dX9_key_85 (by decide) ?_
                    refine lv_istore_n (lv' := [(3, .int (nI i4_32)), (0, .ref (am 0)), (1, .int x1), (2, .int (g9_facts bm)), (4, .int (nI i4_32))]) hx hb dX9_key_90 rfl hl (by decide) rfl (fun ls hl => ?_)
                    refine lv_iinc (v := (nI (i4_32 + 1))) (lv' := [(4, .int (nI (i4_32 + 1))), (3, .int (nI i4_32)), (0, .ref (am 0)), (1, .int x1), (2, .int (g9_facts bm))]) hx hb dX9_key_91 hl (k := 4) rfl (nI_1 i4_32) (by decide) rfl (fun ls hl => ?_)
                    try rw [nI_1 i4_32] at hE
                    refine lv_goto (tgt := 32) hx hb dX9_key_94 (by decide) ?_
                    rw [show (s9_rounds (s9_fresh (s9_known (s9_came (s9_facts (s9_rounds (s9_fresh (s9_known (s9_came (s9_facts bm m_facts_32) m_came_32) m_known_32) m_fresh_32) m_rounds_32) t68) t77.2.1) t77.2.2.1) t77.2.2.2.1) t77.2.2.2.2) = (s9_rounds (s9_fresh (s9_known (s9_came (s9_facts bm t68) t77.2.1) t77.2.2.1) t77.2.2.2.1) t77.2.2.2.2) from ((congrArg (fun z => s9_rounds z t77.2.2.2.2) ((congrArg (fun z => s9_fresh z t77.2.2.2.1) ((congrArg (fun z => s9_known z t77.2.2.1) ((congrArg (fun z => s9_came z t77.2.1) ((cm9_facts_rounds _ m_rounds_32 t68).trans (congrArg (fun z => s9_rounds z m_rounds_32) ((cm9_facts_fresh _ m_fresh_32 t68).trans (congrArg (fun z => s9_fresh z m_fresh_32) ((cm9_facts_known _ m_known_32 t68).trans (congrArg (fun z => s9_known z m_known_32) ((cm9_facts_came _ m_came_32 t68).trans (congrArg (fun z => s9_came z m_came_32) (ss9_facts _ m_facts_32 t68)))))))))).trans ((cm9_came_rounds _ m_rounds_32 t77.2.1).trans (congrArg (fun z => s9_rounds z m_rounds_32) ((cm9_came_fresh _ m_fresh_32 t77.2.1).trans (congrArg (fun z => s9_fresh z m_fresh_32) ((cm9_came_known _ m_known_32 t77.2.1).trans (congrArg (fun z => s9_known z m_known_32) (ss9_came _ m_came_32 t77.2.1))))))))).trans ((cm9_known_rounds _ m_rounds_32 t77.2.2.1).trans (congrArg (fun z => s9_rounds z m_rounds_32) ((cm9_known_fresh _ m_fresh_32 t77.2.2.1).trans (congrArg (fun z => s9_fresh z m_fresh_32) (ss9_known _ m_known_32 t77.2.2.1))))))).trans ((cm9_fresh_rounds _ m_rounds_32 t77.2.2.2.1).trans (congrArg (fun z => s9_rounds z m_rounds_32) (ss9_fresh _ m_fresh_32 t77.2.2.2.1))))).trans (ss9_rounds _ m_rounds_32 t77.2.2.2.2))] at hP hD
                    exact ih32 (nI i4_32) (i4_32 + 1) t68 t77.2.1 t77.2.2.1 t77.2.2.2.1 t77.2.2.2.2 _ _ _ (by first | assumption | omega) (by omega) hE hP hD hS (lv_sub hl [2, 3, 4, 1, 0] rfl)
                · have hE := hE.trans (if_neg c57)
                  refine lv_goto (tgt := 91) hx hb dX9_key_60 (by decide) ?_
                  refine lv_iinc (v := (nI (i4_32 + 1))) (lv' := [(4, .int (nI (i4_32 + 1))), (0, .ref (am 0)), (1, .int x1), (2, .int (g9_facts bm)), (3, .int x3_32)]) hx hb dX9_key_91 hl (k := 4) rfl (nI_1 i4_32) (by decide) rfl (fun ls hl => ?_)
                  try rw [nI_1 i4_32] at hE
                  refine lv_goto (tgt := 32) hx hb dX9_key_94 (by decide) ?_
                  exact ih32 x3_32 (i4_32 + 1) m_facts_32 m_came_32 m_known_32 m_fresh_32 m_rounds_32 _ _ _ (by first | assumption | omega) (by omega) hE hP hD hS (lv_sub hl [1, 2, 3, 4, 0] rfl)
      refine lv_istore (lv' := [(4, .int 0), (3, .int (-2)), (2, .int (g9_facts bm)), (0, .ref (am 0)), (1, .int x1)]) hx hb dX9_key_30 hl (by decide) rfl (fun ls hl => ?_)
      rw [show (s9_rounds (s9_fresh (s9_known (s9_came bm t12.2.1) t12.2.2.1) t12.2.2.2.1) t12.2.2.2.2) = (s9_rounds (s9_fresh (s9_known (s9_came (s9_facts bm (g9_facts bm)) t12.2.1) t12.2.2.1) t12.2.2.2.1) t12.2.2.2.2) from (congrArg (fun z => s9_rounds z t12.2.2.2.2) (congrArg (fun z => s9_fresh z t12.2.2.2.1) (congrArg (fun z => s9_known z t12.2.2.1) (congrArg (fun z => s9_came z t12.2.1) ((se9_facts _).symm)))))] at hP hD
      exact hB32 21 (-2) 0 (g9_facts bm) t12.2.1 t12.2.2.1 t12.2.2.2.1 t12.2.2.2.2 _ _ _ (by first | assumption | omega) (by omega) hE hP hD hS (lv_sub hl [3, 4, 2, 1, 0] rfl)
    · have hE := hE.trans (if_neg c15)
      refine lv_bipush (v := (-5)) hx hb dX9_key_18 (by decide) ?_
      rw [show (s9_rounds (s9_fresh (s9_known (s9_came bm t12.2.1) t12.2.2.1) t12.2.2.2.1) t12.2.2.2.2) = (s9_rounds (s9_fresh (s9_known (s9_came (s9_facts bm (g9_facts bm)) t12.2.1) t12.2.2.1) t12.2.2.2.1) t12.2.2.2.2) from (congrArg (fun z => s9_rounds z t12.2.2.2.2) (congrArg (fun z => s9_fresh z t12.2.2.2.1) (congrArg (fun z => s9_known z t12.2.2.1) (congrArg (fun z => s9_came z t12.2.1) ((se9_facts _).symm)))))] at hP hD
      exact hret _ _ _ _ _ _ (by subst hE; rfl) rfl hP hS dX9_key_20
  · have hE := hE.trans (if_pos c4)
    refine lv_iconst (v := (-1)) hx hb dX9_key_7 (by decide) ?_
    rw [show bm = (s9_rounds (s9_fresh (s9_known (s9_came (s9_facts bm (g9_facts bm)) (g9_came bm)) (g9_known bm)) (g9_fresh bm)) (g9_rounds bm)) from ((((((se9_facts _).symm).trans (((se9_came _).symm).trans (congrArg (fun v => s9_came (s9_facts bm (g9_facts bm)) v) (gs9_came_facts _ (g9_facts bm))))).trans (((se9_known _).symm).trans (congrArg (fun v => s9_known (s9_came (s9_facts bm (g9_facts bm)) (g9_came bm)) v) ((gs9_known_came _ (g9_came bm)).trans (gs9_known_facts _ (g9_facts bm)))))).trans (((se9_fresh _).symm).trans (congrArg (fun v => s9_fresh (s9_known (s9_came (s9_facts bm (g9_facts bm)) (g9_came bm)) (g9_known bm)) v) ((gs9_fresh_known _ (g9_known bm)).trans ((gs9_fresh_came _ (g9_came bm)).trans (gs9_fresh_facts _ (g9_facts bm))))))).trans (((se9_rounds _).symm).trans (congrArg (fun v => s9_rounds (s9_fresh (s9_known (s9_came (s9_facts bm (g9_facts bm)) (g9_came bm)) (g9_known bm)) (g9_fresh bm)) v) ((gs9_rounds_fresh _ (g9_fresh bm)).trans ((gs9_rounds_known _ (g9_known bm)).trans ((gs9_rounds_came _ (g9_came bm)).trans (gs9_rounds_facts _ (g9_facts bm))))))))] at hP hD
    exact hret _ _ _ _ _ _ (by subst hE; rfl) rfl hP hS dX9_key_8

theorem in_X9_hinges_9 : ∀ w ∈ u_ws RX9 TX9 40, w ∈ wsX9_hinges := by decide +kernel
def rmX9_hinges : Room := { frames := 8, cells := 0, slots := 0, locals := 177 }
set_option maxHeartbeats 4000000 in
set_option maxRecDepth 100000 in
theorem c_X9_hinges (l : Launch) (G : zG) (am : Nat → Nat) (bm : S9) (x1 : Int32) (x2 : Int32) (hz_m_rules : ∃ N : Nat, N ≤ 16 ∧ g9_rules bm = nI N) (T : Int32 × (Nat → Int32) × (Nat → Int32) × (Nat → Int32) × (Nat → Int32) × (Int32)) (hT : FX9_hinges (g9_facts bm) (g9_rules bm) (g9_kind bm) (g9_head bm) (g9_body bm) (g9_except bm) (g9_strength bm) (g9_off bm) (g9_over bm) (g9_came bm) (g9_known bm) (g9_fresh bm) (g9_rounds bm) x1 x2 = T) : zI l yX9_hinges wsX9_hinges rmX9_hinges .int G [.ref (am 0), .int x1, .int x2] [w9 G am bm] T.1 [w9 G am (s9_rounds (s9_fresh (s9_known (s9_came (s9_off bm T.2.1) T.2.2.1) T.2.2.2.1) T.2.2.2.2.1) T.2.2.2.2.2)] := by
  refine zI.mk (cc := cX9_hinges) (maxL := 6) (by decide +kernel) rfl (Nat.le_of_ble_eq_true rfl) (zfl_cons (wf9 _ _ _ _) rfl) ?_
  intro p e s m args below meth c Q A ls S hK hD hA hP hl hret
  have hx := S.1
  have hb := S.2.1
  have hS : va_S A s.heap s.heap [] := va_S.rf
  have hl : lv_has ls 6 [(0, .ref (am 0)), (1, .int x1), (2, .int x2)] := hl
  obtain ⟨N_m_rules, hN_m_rules, hs_m_rules⟩ := id hz_m_rules
  have hE := hT.symm.trans (FX9_hinges.eq_1 _ _ _ _ _ _ _ _ _ _ _ _ _ _ _)
  refine lv_iload_n hx hb dX9_hinges_0 rfl (lv_at hl 1 rfl) ?_
  obtain ⟨t1, ht1⟩ : ∃ z, FX9_isLiteral x1 = z := ⟨_, rfl⟩
  have hE := hE.trans (bnd_eq ht1)
  have hc := c_X9_isLiteral l G x1 _ ht1
  refine zgoR (va_runS (As := [.int x1]) (rest := []) S (hc _) (va_cwS 1 S.2.2.2.2 gX9_hinges_X9_isLiteral rfl rfl rfl (by decide +kernel) ⟨Nat.le_of_ble_eq_true rfl, Nat.le_of_ble_eq_true rfl⟩) (zpS hK hP hD (is := []) rfl rfl) rfl rfl hl.1 rfl (lv_room (Nat.le_of_ble_eq_true rfl)) dX9_hinges_1 ⟨Nat.zero_le _, Nat.zero_le _⟩) (fun hn1 => ?_)
  refine lv_if_eq (tgt := 14) hx hb dX9_hinges_4 (by decide) (fun c4 => ?_) (fun c4 => ?_)
  · have hE := hE.trans (if_pos c4)
    refine lv_iconst (v := (-1)) hx hb dX9_hinges_14 (by decide) ?_
    rw [show bm = (s9_rounds (s9_fresh (s9_known (s9_came (s9_off bm (g9_off bm)) (g9_came bm)) (g9_known bm)) (g9_fresh bm)) (g9_rounds bm)) from ((((((se9_off _).symm).trans (((se9_came _).symm).trans (congrArg (fun v => s9_came (s9_off bm (g9_off bm)) v) (gs9_came_off _ (g9_off bm))))).trans (((se9_known _).symm).trans (congrArg (fun v => s9_known (s9_came (s9_off bm (g9_off bm)) (g9_came bm)) v) ((gs9_known_came _ (g9_came bm)).trans (gs9_known_off _ (g9_off bm)))))).trans (((se9_fresh _).symm).trans (congrArg (fun v => s9_fresh (s9_known (s9_came (s9_off bm (g9_off bm)) (g9_came bm)) (g9_known bm)) v) ((gs9_fresh_known _ (g9_known bm)).trans ((gs9_fresh_came _ (g9_came bm)).trans (gs9_fresh_off _ (g9_off bm))))))).trans (((se9_rounds _).symm).trans (congrArg (fun v => s9_rounds (s9_fresh (s9_known (s9_came (s9_off bm (g9_off bm)) (g9_came bm)) (g9_known bm)) (g9_fresh bm)) v) ((gs9_rounds_fresh _ (g9_fresh bm)).trans ((gs9_rounds_known _ (g9_known bm)).trans ((gs9_rounds_came _ (g9_came bm)).trans (gs9_rounds_off _ (g9_off bm))))))))] at hP hD
    exact hret _ _ _ _ _ _ (by subst hE; rfl) rfl hP hS dX9_hinges_15
  · have hE := hE.trans (if_neg c4)
    have hx1_20 : vp_in x1 20 := zisLit9 (by rw [ht1]; exact c4)
    refine lv_iload_n hx hb dX9_hinges_7 rfl (lv_at hl 2 rfl) ?_
    obtain ⟨t8, ht8⟩ : ∃ z, FX9_isTag x2 = z := ⟨_, rfl⟩
    have hE := hE.trans (bnd_eq ht8)
    have hc := c_X9_isTag l G x2 _ ht8
    refine zgoR (va_runS (As := [.int x2]) (rest := []) S (hc _) (va_cwS 1 S.2.2.2.2 gX9_hinges_X9_isTag rfl rfl rfl (by decide +kernel) ⟨Nat.le_of_ble_eq_true rfl, Nat.le_of_ble_eq_true rfl⟩) (zpS hK hP hD (is := []) rfl rfl) rfl rfl hl.1 rfl (lv_room (Nat.le_of_ble_eq_true rfl)) dX9_hinges_8 ⟨Nat.zero_le _, Nat.zero_le _⟩) (fun hn8 => ?_)
    refine lv_if_ne (tgt := 16) hx hb dX9_hinges_11 (by decide) (fun c11 => ?_) (fun c11 => ?_)
    · have hE := hE.trans (if_neg c11)
      have hx2_4 : vp_in x2 4 := zisTag9 (by rw [ht8]; exact c11)
      refine lv_aload_n hx hb dX9_hinges_16 rfl (lv_at hl 0 rfl) ?_
      refine lv_iload_n hx hb dX9_hinges_17 rfl (lv_at hl 1 rfl) ?_
      refine lv_iload_n hx hb dX9_hinges_18 rfl (lv_at hl 2 rfl) ?_
      obtain ⟨t19, ht19⟩ : ∃ z, FX9_comes (g9_facts bm) (g9_rules bm) (g9_kind bm) (g9_head bm) (g9_body bm) (g9_except bm) (g9_strength bm) (g9_off bm) (g9_over bm) (g9_came bm) (g9_known bm) (g9_fresh bm) (g9_rounds bm) x1 x2 = z := ⟨_, rfl⟩
      have hE := hE.trans (bnd_eq ht19)
      have hc := c_X9_comes l G am bm x1 x2 (hz_m_rules) (hx2_4) _ ht19
      refine zgoI (bs' := [w9 G am (s9_rounds (s9_fresh (s9_known (s9_came bm t19.2.1) t19.2.2.1) t19.2.2.2.1) t19.2.2.2.2)]) hc [0] rfl rfl rfl hP hD hS hA (va_runV (As := [.int x1, .int x2]) (rest := []) S (hc.2 _) (cwV 2 S.2.2.2.2 gX9_hinges_X9_comes rfl rfl rfl (by decide +kernel) ⟨Nat.le_of_ble_eq_true rfl, Nat.le_of_ble_eq_true rfl⟩) (zpV hK hP hD (is := [0]) rfl rfl 0 rfl rfl (ci := 9) rfl) rfl rfl hl.1 rfl (lv_room (Nat.le_of_ble_eq_true rfl)) dX9_hinges_19 ⟨Nat.zero_le _, Nat.zero_le _⟩) (fun H locs hn19 hP hD hS => ?_)
      refine lv_istore_n (lv' := [(3, .int t19.1), (0, .ref (am 0)), (1, .int x1), (2, .int x2)]) hx hb dX9_hinges_22 rfl hl (by decide) rfl (fun ls hl => ?_)
      refine lv_iconst (v := 0) hx hb dX9_hinges_23 (by decide) ?_
      refine lv_istore (lv' := [(4, .int 0), (3, .int t19.1), (0, .ref (am 0)), (1, .int x1), (2, .int x2)]) hx hb dX9_hinges_24 hl (by decide) rfl (fun ls hl => ?_)
      refine lv_iconst (v := 0) hx hb dX9_hinges_26 (by decide) ?_
      have hB93 : ∀ (x4_93 : Int32) (m_off_93 : Nat → Int32) (m_came_93 : Nat → Int32) (m_known_93 : Nat → Int32) (m_fresh_93 : Nat → Int32) (m_rounds_93 : Int32) (H : Heap) (locs : List Loc) (ls : Array Slot), T = FX9_hinges_93 (g9_facts bm) (g9_rules bm) (g9_kind bm) (g9_head bm) (g9_body bm) (g9_except bm) (g9_strength bm) (g9_off bm) (g9_over bm) (g9_came bm) (g9_known bm) (g9_fresh bm) (g9_rounds bm) x1 x2 x4_93 m_off_93 m_came_93 m_known_93 m_fresh_93 m_rounds_93 → zP G [w9 G am (s9_rounds (s9_fresh (s9_known (s9_came (s9_off bm m_off_93) m_came_93) m_known_93) m_fresh_93) m_rounds_93)] H → zD A [w9 G am (s9_rounds (s9_fresh (s9_known (s9_came (s9_off bm m_off_93) m_came_93) m_known_93) m_fresh_93) m_rounds_93)] → va_S A s.heap H locs → lv_has ls 6 [(4, .int x4_93)] → W p l e rmX9_hinges s m args below meth c H locs 0 0 Q (F0 m 93 ls []) := by
        intro x4_93 m_off_93 m_came_93 m_known_93 m_fresh_93 m_rounds_93 H locs ls hE hP hD hS hl
        have hE := hE.trans (FX9_hinges_93.eq_1 _ _ _ _ _ _ _ _ _ _ _ _ _ _ _ _ _ _ _ _ _)
        refine lv_iload hx hb dX9_hinges_93 (lv_at hl 0 rfl) ?_
        exact hret _ _ _ _ _ _ (by subst hE; rfl) rfl hP hS dX9_hinges_95
      have hB29 : ∀ (n29 : Nat) (x4_29 : Int32) (i5_29 : Nat) (m_off_29 : Nat → Int32) (m_came_29 : Nat → Int32) (m_known_29 : Nat → Int32) (m_fresh_29 : Nat → Int32) (m_rounds_29 : Int32) (H : Heap) (locs : List Loc) (ls : Array Slot), (i5_29 ≤ N_m_rules) → 17 ≤ i5_29 + n29 → T = FX9_hinges_29 (g9_facts bm) (g9_rules bm) (g9_kind bm) (g9_head bm) (g9_body bm) (g9_except bm) (g9_strength bm) (g9_off bm) (g9_over bm) (g9_came bm) (g9_known bm) (g9_fresh bm) (g9_rounds bm) x1 x2 (FX9_hinges_93 (g9_facts bm) (g9_rules bm) (g9_kind bm) (g9_head bm) (g9_body bm) (g9_except bm) (g9_strength bm) (g9_off bm) (g9_over bm) (g9_came bm) (g9_known bm) (g9_fresh bm) (g9_rounds bm) x1 x2) n29 t19.1 x4_29 (nI i5_29) m_off_29 m_came_29 m_known_29 m_fresh_29 m_rounds_29 → zP G [w9 G am (s9_rounds (s9_fresh (s9_known (s9_came (s9_off bm m_off_29) m_came_29) m_known_29) m_fresh_29) m_rounds_29)] H → zD A [w9 G am (s9_rounds (s9_fresh (s9_known (s9_came (s9_off bm m_off_29) m_came_29) m_known_29) m_fresh_29) m_rounds_29)] → va_S A s.heap H locs → lv_has ls 6 [(0, .ref (am 0)), (1, .int x1), (2, .int x2), (3, .int t19.1), (4, .int x4_29), (5, .int (nI i5_29))] → W p l e rmX9_hinges s m args below meth c H locs 0 0 Q (F0 m 29 ls []) := by
        intro n29
        induction n29 with
        | zero =>
          intro x4_29 i5_29 m_off_29 m_came_29 m_known_29 m_fresh_29 m_rounds_29 H locs ls hi5_29 hn hE hP hD hS hl
          exact absurd hn (by omega)
        | succ n29 ih29 =>
          intro x4_29 i5_29 m_off_29 m_came_29 m_known_29 m_fresh_29 m_rounds_29 H locs ls hi5_29 hn hE hP hD hS hl
          have hE := hE.trans (FX9_hinges_29.eq_2 _ _ _ _ _ _ _ _ _ _ _ _ _ _ _ _ _ _ _ _ _ _ _ _ _)
          refine lv_iload hx hb dX9_hinges_29 (lv_at hl 5 rfl) ?_
          refine lv_aload_n hx hb dX9_hinges_31 rfl (lv_at hl 0 rfl) ?_
          refine zg9_rules S in_X9_hinges_9 hK hP 0 rfl (List.mem_of_getElem? (i := 1) rfl) (v := (g9_rules bm)) ((gs9_rules_rounds _ m_rounds_29).trans ((gs9_rules_fresh _ m_fresh_29).trans ((gs9_rules_known _ m_known_29).trans ((gs9_rules_came _ m_came_29).trans (gs9_rules_off _ m_off_29))))) dX9_hinges_32 ?_
          refine lv_icmp_ge (tgt := 93) hx hb dX9_hinges_35 (by decide) (fun c35 => ?_) (fun c35 => ?_)
          · have hE := hE.trans (if_pos c35)
            exact hB93 x4_29 m_off_29 m_came_29 m_known_29 m_fresh_29 m_rounds_29 _ _ _ hE hP hD hS (lv_sub hl [4] rfl)
          · have hE := hE.trans (if_neg c35)
            have hl5_29 : i5_29 < N_m_rules := zlt hs_m_rules (by omega) (by omega) c35
            refine lv_aload_n hx hb dX9_hinges_38 rfl (lv_at hl 0 rfl) ?_
            refine zg9_off S in_X9_hinges_9 hK hP 0 rfl (List.mem_of_getElem? (i := 2) rfl) dX9_hinges_39 ?_
            refine lv_iload hx hb dX9_hinges_42 (lv_at hl 5 rfl) ?_
            refine zl9_off S hK hP 0 rfl (vp_in_nI (by omega) (by omega)) (f := m_off_29) ((gs9_off_rounds _ m_rounds_29).trans ((gs9_off_fresh _ m_fresh_29).trans ((gs9_off_known _ m_known_29).trans ((gs9_off_came _ m_came_29).trans (gg9_off _ m_off_29))))) dX9_hinges_44 ?_
            refine lv_if_ne (tgt := 87) hx hb dX9_hinges_45 (by decide) (fun c45 => ?_) (fun c45 => ?_)
            · have hE := hE.trans (if_neg c45)
              refine lv_iinc (v := (nI (i5_29 + 1))) (lv' := [(5, .int (nI (i5_29 + 1))), (0, .ref (am 0)), (1, .int x1), (2, .int x2), (3, .int t19.1), (4, .int x4_29)]) hx hb dX9_hinges_87 hl (k := 5) rfl (nI_1 i5_29) (by decide) rfl (fun ls hl => ?_)
              try rw [nI_1 i5_29] at hE
              refine lv_goto (tgt := 29) hx hb dX9_hinges_90 (by decide) ?_
              exact ih29 x4_29 (i5_29 + 1) m_off_29 m_came_29 m_known_29 m_fresh_29 m_rounds_29 _ _ _ (by first | assumption | omega) (by omega) hE hP hD hS (lv_sub hl [1, 2, 3, 4, 5, 0] rfl)
            · have hE := hE.trans (if_pos c45)
              refine lv_aload_n hx hb dX9_hinges_48 rfl (lv_at hl 0 rfl) ?_
              refine zg9_off S in_X9_hinges_9 hK hP 0 rfl (List.mem_of_getElem? (i := 2) rfl) dX9_hinges_49 ?_
              refine lv_iload hx hb dX9_hinges_52 (lv_at hl 5 rfl) ?_
              refine lv_iconst (v := 1) hx hb dX9_hinges_54 (by decide) ?_
              refine zs9_off (bs1 := [w9 G am (s9_off (s9_rounds (s9_fresh (s9_known (s9_came (s9_off bm m_off_29) m_came_29) m_known_29) m_fresh_29) m_rounds_29) (upd m_off_29 (nI i5_29).toNatClampNeg 1))]) S hK hP hD hS 0 rfl (vp_in_nI (by omega) (by omega)) (f := m_off_29) ((gs9_off_rounds _ m_rounds_29).trans ((gs9_off_fresh _ m_fresh_29).trans ((gs9_off_known _ m_known_29).trans ((gs9_off_came _ m_came_29).trans (gg9_off _ m_off_29))))) dX9_hinges_55 rfl (fun H locs hP hD hS => ?_)
              refine lv_iload hx hb dX9_hinges_56 (lv_at hl 4 rfl) ?_
              refine lv_aload_n hx hb dX9_hinges_58 rfl (lv_at hl 0 rfl) ?_
              refine lv_iload_n hx hb dX9_hinges_59 rfl (lv_at hl 1 rfl) ?_
              refine lv_iload_n hx hb dX9_hinges_60 rfl (lv_at hl 2 rfl) ?_
              obtain ⟨t61, ht61⟩ : ∃ z, FX9_comes (g9_facts bm) (g9_rules bm) (g9_kind bm) (g9_head bm) (g9_body bm) (g9_except bm) (g9_strength bm) (upd m_off_29 (nI i5_29).toNatClampNeg 1) (g9_over bm) m_came_29 m_known_29 m_fresh_29 m_rounds_29 x1 x2 = z := ⟨_, rfl⟩
              have hE := hE.trans (bnd_eq ht61)
              have hc := c_X9_comes l G am (s9_off (s9_rounds (s9_fresh (s9_known (s9_came (s9_off bm m_off_29) m_came_29) m_known_29) m_fresh_29) m_rounds_29) (upd m_off_29 (nI i5_29).toNatClampNeg 1)) x1 x2 (hz_m_rules) (hx2_4) _ (by simp only [gs9_facts_off, gs9_facts_rounds, gs9_facts_fresh, gs9_facts_known, gs9_facts_came, gs9_rules_off, gs9_rules_rounds, gs9_rules_fresh, gs9_rules_known, gs9_rules_came, gs9_kind_off, gs9_kind_rounds, gs9_kind_fresh, gs9_kind_known, gs9_kind_came, gs9_head_off, gs9_head_rounds, gs9_head_fresh, gs9_head_known, gs9_head_came, gs9_body_off, gs9_body_rounds, gs9_body_fresh, gs9_body_known, gs9_body_came, gs9_except_off, gs9_except_rounds, gs9_except_fresh, gs9_except_known, gs9_except_came, gs9_strength_off, gs9_strength_rounds, gs9_strength_fresh, gs9_strength_known, gs9_strength_came, gg9_off, gs9_over_off, gs9_over_rounds, gs9_over_fresh, gs9_over_known, gs9_over_came, gs9_came_off, gs9_came_rounds, gs9_came_fresh, gs9_came_known, gg9_came, gs9_known_off, gs9_known_rounds, gs9_known_fresh, gg9_known, gs9_fresh_off, gs9_fresh_rounds, gg9_fresh, gs9_rounds_off, gg9_rounds]; exact ht61)
              refine zgoI (bs' := [w9 G am (s9_rounds (s9_fresh (s9_known (s9_came (s9_off (s9_rounds (s9_fresh (s9_known (s9_came (s9_off bm m_off_29) m_came_29) m_known_29) m_fresh_29) m_rounds_29) (upd m_off_29 (nI i5_29).toNatClampNeg 1)) t61.2.1) t61.2.2.1) t61.2.2.2.1) t61.2.2.2.2)]) hc [0] rfl rfl rfl hP hD hS hA (va_runV (As := [.int x1, .int x2]) (rest := [.int x4_29]) S (hc.2 _) (cwV 2 S.2.2.2.2 gX9_hinges_X9_comes rfl rfl rfl (by decide +kernel) ⟨Nat.le_of_ble_eq_true rfl, Nat.le_of_ble_eq_true rfl⟩) (zpV hK hP hD (is := [0]) rfl rfl 0 rfl rfl (ci := 9) rfl) rfl rfl hl.1 rfl (lv_room (Nat.le_of_ble_eq_true rfl)) dX9_hinges_61 ⟨Nat.zero_le _, Nat.zero_le _⟩) (fun H locs hn61 hP hD hS => ?_)
              refine lv_iload_n hx hb dX9_hinges_64 rfl (lv_at hl 3 rfl) ?_
              have hB76 : ∀ (k1_76 : Int32) (H : Heap) (locs : List Loc) (ls : Array Slot), T = FX9_hinges_76 (g9_facts bm) (g9_rules bm) (g9_kind bm) (g9_head bm) (g9_body bm) (g9_except bm) (g9_strength bm) (g9_off bm) (g9_over bm) (g9_came bm) (g9_known bm) (g9_fresh bm) (g9_rounds bm) x1 x2 (fun x3_29' x4_29' x5_29' m_off_29' m_came_29' m_known_29' m_fresh_29' m_rounds_29' => FX9_hinges_29 (g9_facts bm) (g9_rules bm) (g9_kind bm) (g9_head bm) (g9_body bm) (g9_except bm) (g9_strength bm) (g9_off bm) (g9_over bm) (g9_came bm) (g9_known bm) (g9_fresh bm) (g9_rounds bm) x1 x2 (FX9_hinges_93 (g9_facts bm) (g9_rules bm) (g9_kind bm) (g9_head bm) (g9_body bm) (g9_except bm) (g9_strength bm) (g9_off bm) (g9_over bm) (g9_came bm) (g9_known bm) (g9_fresh bm) (g9_rounds bm) x1 x2) n29 x3_29' x4_29' x5_29' m_off_29' m_came_29' m_known_29' m_fresh_29' m_rounds_29') (FX9_hinges_93 (g9_facts bm) (g9_rules bm) (g9_kind bm) (g9_head bm) (g9_body bm) (g9_except bm) (g9_strength bm) (g9_off bm) (g9_over bm) (g9_came bm) (g9_known bm) (g9_fresh bm) (g9_rounds bm) x1 x2) t19.1 (nI i5_29) x4_29 k1_76 (upd m_off_29 (nI i5_29).toNatClampNeg 1) t61.2.1 t61.2.2.1 t61.2.2.2.1 t61.2.2.2.2 → zP G [w9 G am (s9_rounds (s9_fresh (s9_known (s9_came (s9_off bm (upd m_off_29 (nI i5_29).toNatClampNeg 1)) t61.2.1) t61.2.2.1) t61.2.2.2.1) t61.2.2.2.2)] H → zD A [w9 G am (s9_rounds (s9_fresh (s9_known (s9_came (s9_off bm (upd m_off_29 (nI i5_29).toNatClampNeg 1)) t61.2.1) t61.2.2.1) t61.2.2.2.1) t61.2.2.2.2)] → va_S A s.heap H locs → lv_has ls 6 [(0, .ref (am 0)), (1, .int x1), (2, .int x2), (3, .int t19.1), (5, .int (nI i5_29))] → W p l e rmX9_hinges s m args below meth c H locs 0 0 Q (F0 m 76 ls [.int k1_76, .int x4_29]) := by
                intro k1_76 H locs ls hE hP hD hS hl
                have hE := hE.trans (FX9_hinges_76.eq_1 _ _ _ _ _ _ _ _ _ _ _ _ _ _ _ _ _ _ _ _ _ _ _ _ _ _)
                refine lv_ior hx hb dX9_hinges_76 ?_
                refine lv_istore (lv' := [(4, .int (x4_29 ||| k1_76)), (0, .ref (am 0)), (1, .int x1), (2, .int x2), (3, .int t19.1), (5, .int (nI i5_29))]) hx hb dX9_hinges_77 hl (by decide) rfl (fun ls hl => ?_)
                refine lv_aload_n hx hb dX9_hinges_79 rfl (lv_at hl 1 rfl) ?_
                refine zg9_off S in_X9_hinges_9 hK hP 0 rfl (List.mem_of_getElem? (i := 2) rfl) dX9_hinges_80 ?_
                refine lv_iload hx hb dX9_hinges_83 (lv_at hl 5 rfl) ?_
                refine lv_iconst (v := 0) hx hb dX9_hinges_85 (by decide) ?_
                refine zs9_off (bs1 := [w9 G am (s9_off (s9_rounds (s9_fresh (s9_known (s9_came (s9_off bm (upd m_off_29 (nI i5_29).toNatClampNeg 1)) t61.2.1) t61.2.2.1) t61.2.2.2.1) t61.2.2.2.2) (upd (upd m_off_29 (nI i5_29).toNatClampNeg 1) (nI i5_29).toNatClampNeg 0))]) S hK hP hD hS 0 rfl (vp_in_nI (by omega) (by omega)) (f := (upd m_off_29 (nI i5_29).toNatClampNeg 1)) ((gs9_off_rounds _ t61.2.2.2.2).trans ((gs9_off_fresh _ t61.2.2.2.1).trans ((gs9_off_known _ t61.2.2.1).trans ((gs9_off_came _ t61.2.1).trans (gg9_off _ (upd m_off_29 (nI i5_29).toNatClampNeg 1)))))) dX9_hinges_86 rfl (fun H locs hP hD hS => ?_)
                refine lv_iinc (v := (nI (i5_29 + 1))) (lv' := [(5, .int (nI (i5_29 + 1))), (4, .int (x4_29 ||| k1_76)), (0, .ref (am 0)), (1, .int x1), (2, .int x2), (3, .int t19.1)]) hx hb dX9_hinges_87 hl (k := 5) rfl (nI_1 i5_29) (by decide) rfl (fun ls hl => ?_)
                try rw [nI_1 i5_29] at hE
                refine lv_goto (tgt := 29) hx hb dX9_hinges_90 (by decide) ?_
                rw [show (s9_off (s9_rounds (s9_fresh (s9_known (s9_came (s9_off bm (upd m_off_29 (nI i5_29).toNatClampNeg 1)) t61.2.1) t61.2.2.1) t61.2.2.2.1) t61.2.2.2.2) (upd (upd m_off_29 (nI i5_29).toNatClampNeg 1) (nI i5_29).toNatClampNeg 0)) = (s9_rounds (s9_fresh (s9_known (s9_came (s9_off bm (upd (upd m_off_29 (nI i5_29).toNatClampNeg 1) (nI i5_29).toNatClampNeg 0)) t61.2.1) t61.2.2.1) t61.2.2.2.1) t61.2.2.2.2) from ((cm9_off_rounds _ t61.2.2.2.2 (upd (upd m_off_29 (nI i5_29).toNatClampNeg 1) (nI i5_29).toNatClampNeg 0)).trans (congrArg (fun z => s9_rounds z t61.2.2.2.2) ((cm9_off_fresh _ t61.2.2.2.1 (upd (upd m_off_29 (nI i5_29).toNatClampNeg 1) (nI i5_29).toNatClampNeg 0)).trans (congrArg (fun z => s9_fresh z t61.2.2.2.1) ((cm9_off_known _ t61.2.2.1 (upd (upd m_off_29 (nI i5_29).toNatClampNeg 1) (nI i5_29).toNatClampNeg 0)).trans (congrArg (fun z => s9_known z t61.2.2.1) ((cm9_off_came _ t61.2.1 (upd (upd m_off_29 (nI i5_29).toNatClampNeg 1) (nI i5_29).toNatClampNeg 0)).trans (congrArg (fun z => s9_came z t61.2.1) (ss9_off _ (upd m_off_29 (nI i5_29).toNatClampNeg 1) (upd (upd m_off_29 (nI i5_29).toNatClampNeg 1) (nI i5_29).toNatClampNeg 0))))))))))] at hP hD
                exact ih29 (x4_29 ||| k1_76) (i5_29 + 1) (upd (upd m_off_29 (nI i5_29).toNatClampNeg 1) (nI i5_29).toNatClampNeg 0) t61.2.1 t61.2.2.1 t61.2.2.2.1 t61.2.2.2.2 _ _ _ (by first | assumption | omega) (by omega) hE hP hD hS (lv_sub hl [2, 3, 4, 5, 1, 0] rfl)
              refine lv_icmp_eq (tgt := 75) hx hb dX9_hinges_65 (by decide) (fun c65 => ?_) (fun c65 => ?_)
              · have hE := hE.trans (if_pos c65)
                refine lv_iconst (v := 0) hx hb dX9_hinges_75 (by decide) ?_
                rw [show (s9_rounds (s9_fresh (s9_known (s9_came (s9_off (s9_rounds (s9_fresh (s9_known (s9_came (s9_off bm m_off_29) m_came_29) m_known_29) m_fresh_29) m_rounds_29) (upd m_off_29 (nI i5_29).toNatClampNeg 1)) t61.2.1) t61.2.2.1) t61.2.2.2.1) t61.2.2.2.2) = (s9_rounds (s9_fresh (s9_known (s9_came (s9_off bm (upd m_off_29 (nI i5_29).toNatClampNeg 1)) t61.2.1) t61.2.2.1) t61.2.2.2.1) t61.2.2.2.2) from ((congrArg (fun z => s9_rounds z t61.2.2.2.2) ((congrArg (fun z => s9_fresh z t61.2.2.2.1) ((congrArg (fun z => s9_known z t61.2.2.1) ((congrArg (fun z => s9_came z t61.2.1) ((cm9_off_rounds _ m_rounds_29 (upd m_off_29 (nI i5_29).toNatClampNeg 1)).trans (congrArg (fun z => s9_rounds z m_rounds_29) ((cm9_off_fresh _ m_fresh_29 (upd m_off_29 (nI i5_29).toNatClampNeg 1)).trans (congrArg (fun z => s9_fresh z m_fresh_29) ((cm9_off_known _ m_known_29 (upd m_off_29 (nI i5_29).toNatClampNeg 1)).trans (congrArg (fun z => s9_known z m_known_29) ((cm9_off_came _ m_came_29 (upd m_off_29 (nI i5_29).toNatClampNeg 1)).trans (congrArg (fun z => s9_came z m_came_29) (ss9_off _ m_off_29 (upd m_off_29 (nI i5_29).toNatClampNeg 1))))))))))).trans ((cm9_came_rounds _ m_rounds_29 t61.2.1).trans (congrArg (fun z => s9_rounds z m_rounds_29) ((cm9_came_fresh _ m_fresh_29 t61.2.1).trans (congrArg (fun z => s9_fresh z m_fresh_29) ((cm9_came_known _ m_known_29 t61.2.1).trans (congrArg (fun z => s9_known z m_known_29) (ss9_came _ m_came_29 t61.2.1))))))))).trans ((cm9_known_rounds _ m_rounds_29 t61.2.2.1).trans (congrArg (fun z => s9_rounds z m_rounds_29) ((cm9_known_fresh _ m_fresh_29 t61.2.2.1).trans (congrArg (fun z => s9_fresh z m_fresh_29) (ss9_known _ m_known_29 t61.2.2.1))))))).trans ((cm9_fresh_rounds _ m_rounds_29 t61.2.2.2.1).trans (congrArg (fun z => s9_rounds z m_rounds_29) (ss9_fresh _ m_fresh_29 t61.2.2.2.1))))).trans (ss9_rounds _ m_rounds_29 t61.2.2.2.2))] at hP hD
                exact hB76 0 _ _ _ hE hP hD hS (lv_sub hl [0, 1, 2, 3, 5] rfl)
              · have hE := hE.trans (if_neg c65)
                refine lv_iconst (v := 1) hx hb dX9_hinges_68 (by decide) ?_
                refine lv_iload hx hb dX9_hinges_69 (lv_at hl 5 rfl) ?_
                refine lv_ishl hx hb dX9_hinges_71 ?_
                refine lv_goto (tgt := 76) hx hb dX9_hinges_72 (by decide) ?_
                rw [show (s9_rounds (s9_fresh (s9_known (s9_came (s9_off (s9_rounds (s9_fresh (s9_known (s9_came (s9_off bm m_off_29) m_came_29) m_known_29) m_fresh_29) m_rounds_29) (upd m_off_29 (nI i5_29).toNatClampNeg 1)) t61.2.1) t61.2.2.1) t61.2.2.2.1) t61.2.2.2.2) = (s9_rounds (s9_fresh (s9_known (s9_came (s9_off bm (upd m_off_29 (nI i5_29).toNatClampNeg 1)) t61.2.1) t61.2.2.1) t61.2.2.2.1) t61.2.2.2.2) from ((congrArg (fun z => s9_rounds z t61.2.2.2.2) ((congrArg (fun z => s9_fresh z t61.2.2.2.1) ((congrArg (fun z => s9_known z t61.2.2.1) ((congrArg (fun z => s9_came z t61.2.1) ((cm9_off_rounds _ m_rounds_29 (upd m_off_29 (nI i5_29).toNatClampNeg 1)).trans (congrArg (fun z => s9_rounds z m_rounds_29) ((cm9_off_fresh _ m_fresh_29 (upd m_off_29 (nI i5_29).toNatClampNeg 1)).trans (congrArg (fun z => s9_fresh z m_fresh_29) ((cm9_off_known _ m_known_29 (upd m_off_29 (nI i5_29).toNatClampNeg 1)).trans (congrArg (fun z => s9_known z m_known_29) ((cm9_off_came _ m_came_29 (upd m_off_29 (nI i5_29).toNatClampNeg 1)).trans (congrArg (fun z => s9_came z m_came_29) (ss9_off _ m_off_29 (upd m_off_29 (nI i5_29).toNatClampNeg 1))))))))))).trans ((cm9_came_rounds _ m_rounds_29 t61.2.1).trans (congrArg (fun z => s9_rounds z m_rounds_29) ((cm9_came_fresh _ m_fresh_29 t61.2.1).trans (congrArg (fun z => s9_fresh z m_fresh_29) ((cm9_came_known _ m_known_29 t61.2.1).trans (congrArg (fun z => s9_known z m_known_29) (ss9_came _ m_came_29 t61.2.1))))))))).trans ((cm9_known_rounds _ m_rounds_29 t61.2.2.1).trans (congrArg (fun z => s9_rounds z m_rounds_29) ((cm9_known_fresh _ m_fresh_29 t61.2.2.1).trans (congrArg (fun z => s9_fresh z m_fresh_29) (ss9_known _ m_known_29 t61.2.2.1))))))).trans ((cm9_fresh_rounds _ m_rounds_29 t61.2.2.2.1).trans (congrArg (fun z => s9_rounds z m_rounds_29) (ss9_fresh _ m_fresh_29 t61.2.2.2.1))))).trans (ss9_rounds _ m_rounds_29 t61.2.2.2.2))] at hP hD
                exact hB76 (1 <<< ((nI i5_29) &&& 31)) _ _ _ hE hP hD hS (lv_sub hl [0, 1, 2, 3, 5] rfl)
      refine lv_istore (lv' := [(5, .int 0), (4, .int 0), (3, .int t19.1), (0, .ref (am 0)), (1, .int x1), (2, .int x2)]) hx hb dX9_hinges_27 hl (by decide) rfl (fun ls hl => ?_)
      rw [show (s9_rounds (s9_fresh (s9_known (s9_came bm t19.2.1) t19.2.2.1) t19.2.2.2.1) t19.2.2.2.2) = (s9_rounds (s9_fresh (s9_known (s9_came (s9_off bm (g9_off bm)) t19.2.1) t19.2.2.1) t19.2.2.2.1) t19.2.2.2.2) from (congrArg (fun z => s9_rounds z t19.2.2.2.2) (congrArg (fun z => s9_fresh z t19.2.2.2.1) (congrArg (fun z => s9_known z t19.2.2.1) (congrArg (fun z => s9_came z t19.2.1) ((se9_off _).symm)))))] at hP hD
      exact hB29 17 0 0 (g9_off bm) t19.2.1 t19.2.2.1 t19.2.2.2.1 t19.2.2.2.2 _ _ _ (by first | assumption | omega) (by omega) hE hP hD hS (lv_sub hl [3, 4, 5, 2, 1, 0] rfl)
    · have hE := hE.trans (if_pos c11)
      refine lv_iconst (v := (-1)) hx hb dX9_hinges_14 (by decide) ?_
      rw [show bm = (s9_rounds (s9_fresh (s9_known (s9_came (s9_off bm (g9_off bm)) (g9_came bm)) (g9_known bm)) (g9_fresh bm)) (g9_rounds bm)) from ((((((se9_off _).symm).trans (((se9_came _).symm).trans (congrArg (fun v => s9_came (s9_off bm (g9_off bm)) v) (gs9_came_off _ (g9_off bm))))).trans (((se9_known _).symm).trans (congrArg (fun v => s9_known (s9_came (s9_off bm (g9_off bm)) (g9_came bm)) v) ((gs9_known_came _ (g9_came bm)).trans (gs9_known_off _ (g9_off bm)))))).trans (((se9_fresh _).symm).trans (congrArg (fun v => s9_fresh (s9_known (s9_came (s9_off bm (g9_off bm)) (g9_came bm)) (g9_known bm)) v) ((gs9_fresh_known _ (g9_known bm)).trans ((gs9_fresh_came _ (g9_came bm)).trans (gs9_fresh_off _ (g9_off bm))))))).trans (((se9_rounds _).symm).trans (congrArg (fun v => s9_rounds (s9_fresh (s9_known (s9_came (s9_off bm (g9_off bm)) (g9_came bm)) (g9_known bm)) (g9_fresh bm)) v) ((gs9_rounds_fresh _ (g9_fresh bm)).trans ((gs9_rounds_known _ (g9_known bm)).trans ((gs9_rounds_came _ (g9_came bm)).trans (gs9_rounds_off _ (g9_off bm))))))))] at hP hD
      exact hret _ _ _ _ _ _ (by subst hE; rfl) rfl hP hS dX9_hinges_15

theorem in_X9_least_9 : ∀ w ∈ u_ws RX9 TX9 40, w ∈ wsX9_least := by decide +kernel
def rmX9_least : Room := { frames := 8, cells := 0, slots := 0, locals := 177 }
set_option maxHeartbeats 4000000 in
set_option maxRecDepth 100000 in
theorem c_X9_least (l : Launch) (G : zG) (am : Nat → Nat) (bm : S9) (x1 : Int32) (x2 : Int32) (hz_m_rules : ∃ N : Nat, N ≤ 16 ∧ g9_rules bm = nI N) (T : Int32 × (Nat → Int32) × (Nat → Int32) × (Nat → Int32) × (Nat → Int32) × (Int32)) (hT : FX9_least (g9_facts bm) (g9_rules bm) (g9_kind bm) (g9_head bm) (g9_body bm) (g9_except bm) (g9_strength bm) (g9_off bm) (g9_over bm) (g9_came bm) (g9_known bm) (g9_fresh bm) (g9_rounds bm) x1 x2 = T) : zI l yX9_least wsX9_least rmX9_least .int G [.ref (am 0), .int x1, .int x2] [w9 G am bm] T.1 [w9 G am (s9_rounds (s9_fresh (s9_known (s9_came (s9_strength bm T.2.1) T.2.2.1) T.2.2.2.1) T.2.2.2.2.1) T.2.2.2.2.2)] := by
  refine zI.mk (cc := cX9_least) (maxL := 6) (by decide +kernel) rfl (Nat.le_of_ble_eq_true rfl) (zfl_cons (wf9 _ _ _ _) rfl) ?_
  intro p e s m args below meth c Q A ls S hK hD hA hP hl hret
  have hx := S.1
  have hb := S.2.1
  have hS : va_S A s.heap s.heap [] := va_S.rf
  have hl : lv_has ls 6 [(0, .ref (am 0)), (1, .int x1), (2, .int x2)] := hl
  have hE := hT.symm.trans (FX9_least.eq_1 _ _ _ _ _ _ _ _ _ _ _ _ _ _ _)
  refine lv_aload_n hx hb dX9_least_0 rfl (lv_at hl 0 rfl) ?_
  refine lv_iload_n hx hb dX9_least_1 rfl (lv_at hl 1 rfl) ?_
  obtain ⟨t2, ht2⟩ : ∃ z, FX9_isRule (g9_rules bm) x1 = z := ⟨_, rfl⟩
  have hE := hE.trans (bnd_eq ht2)
  have hc := c_X9_isRule l G am bm x1 _ ht2
  refine zgoR (va_runV (As := [.int x1]) (rest := []) S (hc _) (cwV 1 S.2.2.2.2 gX9_least_X9_isRule rfl rfl rfl (by decide +kernel) ⟨Nat.le_of_ble_eq_true rfl, Nat.le_of_ble_eq_true rfl⟩) (zpV hK hP hD (is := [0]) rfl rfl 0 rfl rfl (ci := 9) rfl) rfl rfl hl.1 rfl (lv_room (Nat.le_of_ble_eq_true rfl)) dX9_least_2 ⟨Nat.zero_le _, Nat.zero_le _⟩) (fun hn2 => ?_)
  refine lv_if_eq (tgt := 15) hx hb dX9_least_5 (by decide) (fun c5 => ?_) (fun c5 => ?_)
  · have hE := hE.trans (if_pos c5)
    refine lv_iconst (v := (-1)) hx hb dX9_least_15 (by decide) ?_
    rw [show bm = (s9_rounds (s9_fresh (s9_known (s9_came (s9_strength bm (g9_strength bm)) (g9_came bm)) (g9_known bm)) (g9_fresh bm)) (g9_rounds bm)) from ((((((se9_strength _).symm).trans (((se9_came _).symm).trans (congrArg (fun v => s9_came (s9_strength bm (g9_strength bm)) v) (gs9_came_strength _ (g9_strength bm))))).trans (((se9_known _).symm).trans (congrArg (fun v => s9_known (s9_came (s9_strength bm (g9_strength bm)) (g9_came bm)) v) ((gs9_known_came _ (g9_came bm)).trans (gs9_known_strength _ (g9_strength bm)))))).trans (((se9_fresh _).symm).trans (congrArg (fun v => s9_fresh (s9_known (s9_came (s9_strength bm (g9_strength bm)) (g9_came bm)) (g9_known bm)) v) ((gs9_fresh_known _ (g9_known bm)).trans ((gs9_fresh_came _ (g9_came bm)).trans (gs9_fresh_strength _ (g9_strength bm))))))).trans (((se9_rounds _).symm).trans (congrArg (fun v => s9_rounds (s9_fresh (s9_known (s9_came (s9_strength bm (g9_strength bm)) (g9_came bm)) (g9_known bm)) (g9_fresh bm)) v) ((gs9_rounds_fresh _ (g9_fresh bm)).trans ((gs9_rounds_known _ (g9_known bm)).trans ((gs9_rounds_came _ (g9_came bm)).trans (gs9_rounds_strength _ (g9_strength bm))))))))] at hP hD
    exact hret _ _ _ _ _ _ (by subst hE; rfl) rfl hP hS dX9_least_16
  · have hE := hE.trans (if_neg c5)
    have hx1_16 : vp_in x1 16 := zisRule hz_m_rules (by rw [ht2]; exact c5)
    refine lv_iload_n hx hb dX9_least_8 rfl (lv_at hl 2 rfl) ?_
    obtain ⟨t9, ht9⟩ : ∃ z, FX9_isLiteral x2 = z := ⟨_, rfl⟩
    have hE := hE.trans (bnd_eq ht9)
    have hc := c_X9_isLiteral l G x2 _ ht9
    refine zgoR (va_runS (As := [.int x2]) (rest := []) S (hc _) (va_cwS 1 S.2.2.2.2 gX9_least_X9_isLiteral rfl rfl rfl (by decide +kernel) ⟨Nat.le_of_ble_eq_true rfl, Nat.le_of_ble_eq_true rfl⟩) (zpS hK hP hD (is := []) rfl rfl) rfl rfl hl.1 rfl (lv_room (Nat.le_of_ble_eq_true rfl)) dX9_least_9 ⟨Nat.zero_le _, Nat.zero_le _⟩) (fun hn9 => ?_)
    refine lv_if_ne (tgt := 17) hx hb dX9_least_12 (by decide) (fun c12 => ?_) (fun c12 => ?_)
    · have hE := hE.trans (if_neg c12)
      have hx2_20 : vp_in x2 20 := zisLit9 (by rw [ht9]; exact c12)
      refine lv_aload_n hx hb dX9_least_17 rfl (lv_at hl 0 rfl) ?_
      refine zg9_strength S in_X9_least_9 hK hP 0 rfl (List.mem_of_getElem? (i := 1) rfl) dX9_least_18 ?_
      refine lv_iload_n hx hb dX9_least_21 rfl (lv_at hl 1 rfl) ?_
      refine zl9_strength S hK hP 0 rfl hx1_16 (f := (g9_strength bm)) rfl dX9_least_22 ?_
      refine lv_istore_n (lv' := [(3, .int ((g9_strength bm) x1.toNatClampNeg)), (0, .ref (am 0)), (1, .int x1), (2, .int x2)]) hx hb dX9_least_23 rfl hl (by decide) rfl (fun ls hl => ?_)
      refine lv_bipush (v := (-2)) hx hb dX9_least_24 (by decide) ?_
      refine lv_istore (lv' := [(4, .int (-2)), (3, .int ((g9_strength bm) x1.toNatClampNeg)), (0, .ref (am 0)), (1, .int x1), (2, .int x2)]) hx hb dX9_least_26 hl (by decide) rfl (fun ls hl => ?_)
      refine lv_iconst (v := 0) hx hb dX9_least_28 (by decide) ?_
      have hB77 : ∀ (x4_77 : Int32) (m_strength_77 : Nat → Int32) (m_came_77 : Nat → Int32) (m_known_77 : Nat → Int32) (m_fresh_77 : Nat → Int32) (m_rounds_77 : Int32) (H : Heap) (locs : List Loc) (ls : Array Slot), T = FX9_least_77 (g9_facts bm) (g9_rules bm) (g9_kind bm) (g9_head bm) (g9_body bm) (g9_except bm) (g9_strength bm) (g9_off bm) (g9_over bm) (g9_came bm) (g9_known bm) (g9_fresh bm) (g9_rounds bm) x1 x2 ((g9_strength bm) x1.toNatClampNeg) x4_77 m_strength_77 m_came_77 m_known_77 m_fresh_77 m_rounds_77 → zP G [w9 G am (s9_rounds (s9_fresh (s9_known (s9_came (s9_strength bm m_strength_77) m_came_77) m_known_77) m_fresh_77) m_rounds_77)] H → zD A [w9 G am (s9_rounds (s9_fresh (s9_known (s9_came (s9_strength bm m_strength_77) m_came_77) m_known_77) m_fresh_77) m_rounds_77)] → va_S A s.heap H locs → lv_has ls 6 [(0, .ref (am 0)), (1, .int x1), (3, .int ((g9_strength bm) x1.toNatClampNeg)), (4, .int x4_77)] → W p l e rmX9_least s m args below meth c H locs 0 0 Q (F0 m 77 ls []) := by
        intro x4_77 m_strength_77 m_came_77 m_known_77 m_fresh_77 m_rounds_77 H locs ls hE hP hD hS hl
        have hE := hE.trans (FX9_least_77.eq_1 _ _ _ _ _ _ _ _ _ _ _ _ _ _ _ _ _ _ _ _ _ _)
        refine lv_aload_n hx hb dX9_least_77 rfl (lv_at hl 0 rfl) ?_
        refine zg9_strength S in_X9_least_9 hK hP 0 rfl (List.mem_of_getElem? (i := 1) rfl) dX9_least_78 ?_
        refine lv_iload_n hx hb dX9_least_81 rfl (lv_at hl 1 rfl) ?_
        refine lv_iload_n hx hb dX9_least_82 rfl (lv_at hl 2 rfl) ?_
        refine zs9_strength (bs1 := [w9 G am (s9_strength (s9_rounds (s9_fresh (s9_known (s9_came (s9_strength bm m_strength_77) m_came_77) m_known_77) m_fresh_77) m_rounds_77) (upd m_strength_77 x1.toNatClampNeg ((g9_strength bm) x1.toNatClampNeg)))]) S hK hP hD hS 0 rfl hx1_16 (f := m_strength_77) ((gs9_strength_rounds _ m_rounds_77).trans ((gs9_strength_fresh _ m_fresh_77).trans ((gs9_strength_known _ m_known_77).trans ((gs9_strength_came _ m_came_77).trans (gg9_strength _ m_strength_77))))) dX9_least_83 rfl (fun H locs hP hD hS => ?_)
        refine lv_iload hx hb dX9_least_84 (lv_at hl 3 rfl) ?_
        rw [show (s9_strength (s9_rounds (s9_fresh (s9_known (s9_came (s9_strength bm m_strength_77) m_came_77) m_known_77) m_fresh_77) m_rounds_77) (upd m_strength_77 x1.toNatClampNeg ((g9_strength bm) x1.toNatClampNeg))) = (s9_rounds (s9_fresh (s9_known (s9_came (s9_strength bm (upd m_strength_77 x1.toNatClampNeg ((g9_strength bm) x1.toNatClampNeg))) m_came_77) m_known_77) m_fresh_77) m_rounds_77) from ((cm9_strength_rounds _ m_rounds_77 (upd m_strength_77 x1.toNatClampNeg ((g9_strength bm) x1.toNatClampNeg))).trans (congrArg (fun z => s9_rounds z m_rounds_77) ((cm9_strength_fresh _ m_fresh_77 (upd m_strength_77 x1.toNatClampNeg ((g9_strength bm) x1.toNatClampNeg))).trans (congrArg (fun z => s9_fresh z m_fresh_77) ((cm9_strength_known _ m_known_77 (upd m_strength_77 x1.toNatClampNeg ((g9_strength bm) x1.toNatClampNeg))).trans (congrArg (fun z => s9_known z m_known_77) ((cm9_strength_came _ m_came_77 (upd m_strength_77 x1.toNatClampNeg ((g9_strength bm) x1.toNatClampNeg))).trans (congrArg (fun z => s9_came z m_came_77) (ss9_strength _ m_strength_77 (upd m_strength_77 x1.toNatClampNeg ((g9_strength bm) x1.toNatClampNeg)))))))))))] at hP hD
        exact hret _ _ _ _ _ _ (by subst hE; rfl) rfl hP hS dX9_least_86
      have hB31 : ∀ (n31 : Nat) (x4_31 : Int32) (i5_31 : Nat) (m_strength_31 : Nat → Int32) (m_came_31 : Nat → Int32) (m_known_31 : Nat → Int32) (m_fresh_31 : Nat → Int32) (m_rounds_31 : Int32) (H : Heap) (locs : List Loc) (ls : Array Slot), (i5_31 ≤ 10) → 11 ≤ i5_31 + n31 → T = FX9_least_31 (g9_facts bm) (g9_rules bm) (g9_kind bm) (g9_head bm) (g9_body bm) (g9_except bm) (g9_strength bm) (g9_off bm) (g9_over bm) (g9_came bm) (g9_known bm) (g9_fresh bm) (g9_rounds bm) x1 x2 (FX9_least_77 (g9_facts bm) (g9_rules bm) (g9_kind bm) (g9_head bm) (g9_body bm) (g9_except bm) (g9_strength bm) (g9_off bm) (g9_over bm) (g9_came bm) (g9_known bm) (g9_fresh bm) (g9_rounds bm) x1 x2) n31 ((g9_strength bm) x1.toNatClampNeg) x4_31 (nI i5_31) m_strength_31 m_came_31 m_known_31 m_fresh_31 m_rounds_31 → zP G [w9 G am (s9_rounds (s9_fresh (s9_known (s9_came (s9_strength bm m_strength_31) m_came_31) m_known_31) m_fresh_31) m_rounds_31)] H → zD A [w9 G am (s9_rounds (s9_fresh (s9_known (s9_came (s9_strength bm m_strength_31) m_came_31) m_known_31) m_fresh_31) m_rounds_31)] → va_S A s.heap H locs → lv_has ls 6 [(0, .ref (am 0)), (1, .int x1), (2, .int x2), (3, .int ((g9_strength bm) x1.toNatClampNeg)), (4, .int x4_31), (5, .int (nI i5_31))] → W p l e rmX9_least s m args below meth c H locs 0 0 Q (F0 m 31 ls []) := by
        intro n31
        induction n31 with
        | zero =>
          intro x4_31 i5_31 m_strength_31 m_came_31 m_known_31 m_fresh_31 m_rounds_31 H locs ls hi5_31 hn hE hP hD hS hl
          exact absurd hn (by omega)
        | succ n31 ih31 =>
          intro x4_31 i5_31 m_strength_31 m_came_31 m_known_31 m_fresh_31 m_rounds_31 H locs ls hi5_31 hn hE hP hD hS hl
          have hE := hE.trans (FX9_least_31.eq_2 _ _ _ _ _ _ _ _ _ _ _ _ _ _ _ _ _ _ _ _ _ _ _ _ _)
          refine lv_iload hx hb dX9_least_31 (lv_at hl 5 rfl) ?_
          refine lv_bipush (v := 10) hx hb dX9_least_33 (by decide) ?_
          refine lv_icmp_ge (tgt := 77) hx hb dX9_least_35 (by decide) (fun c35 => ?_) (fun c35 => ?_)
          · have hE := hE.trans (if_pos c35)
            exact hB77 x4_31 m_strength_31 m_came_31 m_known_31 m_fresh_31 m_rounds_31 _ _ _ hE hP hD hS (lv_sub hl [0, 1, 3, 4] rfl)
          · have hE := hE.trans (if_neg c35)
            have hl5_31 : i5_31 < 10 := zlt (N := 10) rfl (by omega) (by omega) c35
            refine lv_iload hx hb dX9_least_38 (lv_at hl 4 rfl) ?_
            refine lv_bipush (v := (-2)) hx hb dX9_least_40 (by decide) ?_
            refine lv_icmp_ne (tgt := 77) hx hb dX9_least_42 (by decide) (fun c42 => ?_) (fun c42 => ?_)
            · have hE := hE.trans (if_neg c42)
              exact hB77 x4_31 m_strength_31 m_came_31 m_known_31 m_fresh_31 m_rounds_31 _ _ _ hE hP hD hS (lv_sub hl [0, 1, 3, 4] rfl)
            · have hE := hE.trans (if_pos c42)
              refine lv_aload_n hx hb dX9_least_45 rfl (lv_at hl 0 rfl) ?_
              refine zg9_strength S in_X9_least_9 hK hP 0 rfl (List.mem_of_getElem? (i := 1) rfl) dX9_least_46 ?_
              refine lv_iload_n hx hb dX9_least_49 rfl (lv_at hl 1 rfl) ?_
              refine lv_iload hx hb dX9_least_50 (lv_at hl 5 rfl) ?_
              refine zs9_strength (bs1 := [w9 G am (s9_strength (s9_rounds (s9_fresh (s9_known (s9_came (s9_strength bm m_strength_31) m_came_31) m_known_31) m_fresh_31) m_rounds_31) (upd m_strength_31 x1.toNatClampNeg (nI i5_31)))]) S hK hP hD hS 0 rfl hx1_16 (f := m_strength_31) ((gs9_strength_rounds _ m_rounds_31).trans ((gs9_strength_fresh _ m_fresh_31).trans ((gs9_strength_known _ m_known_31).trans ((gs9_strength_came _ m_came_31).trans (gg9_strength _ m_strength_31))))) dX9_least_52 rfl (fun H locs hP hD hS => ?_)
              refine lv_aload_n hx hb dX9_least_53 rfl (lv_at hl 0 rfl) ?_
              refine lv_iload_n hx hb dX9_least_54 rfl (lv_at hl 2 rfl) ?_
              refine lv_iconst (v := 2) hx hb dX9_least_55 (by decide) ?_
              obtain ⟨t56, ht56⟩ : ∃ z, FX9_comes (g9_facts bm) (g9_rules bm) (g9_kind bm) (g9_head bm) (g9_body bm) (g9_except bm) (upd m_strength_31 x1.toNatClampNeg (nI i5_31)) (g9_off bm) (g9_over bm) m_came_31 m_known_31 m_fresh_31 m_rounds_31 x2 2 = z := ⟨_, rfl⟩
              have hE := hE.trans (bnd_eq ht56)
              have hc := c_X9_comes l G am (s9_strength (s9_rounds (s9_fresh (s9_known (s9_came (s9_strength bm m_strength_31) m_came_31) m_known_31) m_fresh_31) m_rounds_31) (upd m_strength_31 x1.toNatClampNeg (nI i5_31))) x2 2 (hz_m_rules) ((zin_k (n := 2) rfl (by decide) (by decide))) _ (by simp only [gs9_facts_strength, gs9_facts_rounds, gs9_facts_fresh, gs9_facts_known, gs9_facts_came, gs9_rules_strength, gs9_rules_rounds, gs9_rules_fresh, gs9_rules_known, gs9_rules_came, gs9_kind_strength, gs9_kind_rounds, gs9_kind_fresh, gs9_kind_known, gs9_kind_came, gs9_head_strength, gs9_head_rounds, gs9_head_fresh, gs9_head_known, gs9_head_came, gs9_body_strength, gs9_body_rounds, gs9_body_fresh, gs9_body_known, gs9_body_came, gs9_except_strength, gs9_except_rounds, gs9_except_fresh, gs9_except_known, gs9_except_came, gg9_strength, gs9_off_strength, gs9_off_rounds, gs9_off_fresh, gs9_off_known, gs9_off_came, gs9_over_strength, gs9_over_rounds, gs9_over_fresh, gs9_over_known, gs9_over_came, gs9_came_strength, gs9_came_rounds, gs9_came_fresh, gs9_came_known, gg9_came, gs9_known_strength, gs9_known_rounds, gs9_known_fresh, gg9_known, gs9_fresh_strength, gs9_fresh_rounds, gg9_fresh, gs9_rounds_strength, gg9_rounds]; exact ht56)
              refine zgoI (bs' := [w9 G am (s9_rounds (s9_fresh (s9_known (s9_came (s9_strength (s9_rounds (s9_fresh (s9_known (s9_came (s9_strength bm m_strength_31) m_came_31) m_known_31) m_fresh_31) m_rounds_31) (upd m_strength_31 x1.toNatClampNeg (nI i5_31))) t56.2.1) t56.2.2.1) t56.2.2.2.1) t56.2.2.2.2)]) hc [0] rfl rfl rfl hP hD hS hA (va_runV (As := [.int x2, .int 2]) (rest := []) S (hc.2 _) (cwV 2 S.2.2.2.2 gX9_least_X9_comes rfl rfl rfl (by decide +kernel) ⟨Nat.le_of_ble_eq_true rfl, Nat.le_of_ble_eq_true rfl⟩) (zpV hK hP hD (is := [0]) rfl rfl 0 rfl rfl (ci := 9) rfl) rfl rfl hl.1 rfl (lv_room (Nat.le_of_ble_eq_true rfl)) dX9_least_56 ⟨Nat.zero_le _, Nat.zero_le _⟩) (fun H locs hn56 hP hD hS => ?_)
              refine lv_if_eq (tgt := 67) hx hb dX9_least_59 (by decide) (fun c59 => ?_) (fun c59 => ?_)
              · have hE := hE.trans (if_pos c59)
                refine lv_bipush (v := (-2)) hx hb dX9_least_67 (by decide) ?_
                refine lv_istore (lv' := [(4, .int (-2)), (0, .ref (am 0)), (1, .int x1), (2, .int x2), (3, .int ((g9_strength bm) x1.toNatClampNeg)), (5, .int (nI i5_31))]) hx hb dX9_least_69 hl (by decide) rfl (fun ls hl => ?_)
                refine lv_iinc (v := (nI (i5_31 + 1))) (lv' := [(5, .int (nI (i5_31 + 1))), (4, .int (-2)), (0, .ref (am 0)), (1, .int x1), (2, .int x2), (3, .int ((g9_strength bm) x1.toNatClampNeg))]) hx hb dX9_least_71 hl (k := 5) rfl (nI_1 i5_31) (by decide) rfl (fun ls hl => ?_)
                try rw [nI_1 i5_31] at hE
                refine lv_goto (tgt := 31) hx hb dX9_least_74 (by decide) ?_
                rw [show (s9_rounds (s9_fresh (s9_known (s9_came (s9_strength (s9_rounds (s9_fresh (s9_known (s9_came (s9_strength bm m_strength_31) m_came_31) m_known_31) m_fresh_31) m_rounds_31) (upd m_strength_31 x1.toNatClampNeg (nI i5_31))) t56.2.1) t56.2.2.1) t56.2.2.2.1) t56.2.2.2.2) = (s9_rounds (s9_fresh (s9_known (s9_came (s9_strength bm (upd m_strength_31 x1.toNatClampNeg (nI i5_31))) t56.2.1) t56.2.2.1) t56.2.2.2.1) t56.2.2.2.2) from ((congrArg (fun z => s9_rounds z t56.2.2.2.2) ((congrArg (fun z => s9_fresh z t56.2.2.2.1) ((congrArg (fun z => s9_known z t56.2.2.1) ((congrArg (fun z => s9_came z t56.2.1) ((cm9_strength_rounds _ m_rounds_31 (upd m_strength_31 x1.toNatClampNeg (nI i5_31))).trans (congrArg (fun z => s9_rounds z m_rounds_31) ((cm9_strength_fresh _ m_fresh_31 (upd m_strength_31 x1.toNatClampNeg (nI i5_31))).trans (congrArg (fun z => s9_fresh z m_fresh_31) ((cm9_strength_known _ m_known_31 (upd m_strength_31 x1.toNatClampNeg (nI i5_31))).trans (congrArg (fun z => s9_known z m_known_31) ((cm9_strength_came _ m_came_31 (upd m_strength_31 x1.toNatClampNeg (nI i5_31))).trans (congrArg (fun z => s9_came z m_came_31) (ss9_strength _ m_strength_31 (upd m_strength_31 x1.toNatClampNeg (nI i5_31)))))))))))).trans ((cm9_came_rounds _ m_rounds_31 t56.2.1).trans (congrArg (fun z => s9_rounds z m_rounds_31) ((cm9_came_fresh _ m_fresh_31 t56.2.1).trans (congrArg (fun z => s9_fresh z m_fresh_31) ((cm9_came_known _ m_known_31 t56.2.1).trans (congrArg (fun z => s9_known z m_known_31) (ss9_came _ m_came_31 t56.2.1))))))))).trans ((cm9_known_rounds _ m_rounds_31 t56.2.2.1).trans (congrArg (fun z => s9_rounds z m_rounds_31) ((cm9_known_fresh _ m_fresh_31 t56.2.2.1).trans (congrArg (fun z => s9_fresh z m_fresh_31) (ss9_known _ m_known_31 t56.2.2.1))))))).trans ((cm9_fresh_rounds _ m_rounds_31 t56.2.2.2.1).trans (congrArg (fun z => s9_rounds z m_rounds_31) (ss9_fresh _ m_fresh_31 t56.2.2.2.1))))).trans (ss9_rounds _ m_rounds_31 t56.2.2.2.2))] at hP hD
                exact ih31 (-2) (i5_31 + 1) (upd m_strength_31 x1.toNatClampNeg (nI i5_31)) t56.2.1 t56.2.2.1 t56.2.2.2.1 t56.2.2.2.2 _ _ _ (by first | assumption | omega) (by omega) hE hP hD hS (lv_sub hl [2, 3, 4, 5, 1, 0] rfl)
              · have hE := hE.trans (if_neg c59)
                refine lv_iload hx hb dX9_least_62 (lv_at hl 5 rfl) ?_
                refine lv_goto (tgt := 69) hx hb dX9_least_64 (by decide) ?_
                refine lv_istore (lv' := [(4, .int (nI i5_31)), (0, .ref (am 0)), (1, .int x1), (2, .int x2), (3, .int ((g9_strength bm) x1.toNatClampNeg)), (5, .int (nI i5_31))]) hx hb dX9_least_69 hl (by decide) rfl (fun ls hl => ?_)
                refine lv_iinc (v := (nI (i5_31 + 1))) (lv' := [(5, .int (nI (i5_31 + 1))), (4, .int (nI i5_31)), (0, .ref (am 0)), (1, .int x1), (2, .int x2), (3, .int ((g9_strength bm) x1.toNatClampNeg))]) hx hb dX9_least_71 hl (k := 5) rfl (nI_1 i5_31) (by decide) rfl (fun ls hl => ?_)
                try rw [nI_1 i5_31] at hE
                refine lv_goto (tgt := 31) hx hb dX9_least_74 (by decide) ?_
                rw [show (s9_rounds (s9_fresh (s9_known (s9_came (s9_strength (s9_rounds (s9_fresh (s9_known (s9_came (s9_strength bm m_strength_31) m_came_31) m_known_31) m_fresh_31) m_rounds_31) (upd m_strength_31 x1.toNatClampNeg (nI i5_31))) t56.2.1) t56.2.2.1) t56.2.2.2.1) t56.2.2.2.2) = (s9_rounds (s9_fresh (s9_known (s9_came (s9_strength bm (upd m_strength_31 x1.toNatClampNeg (nI i5_31))) t56.2.1) t56.2.2.1) t56.2.2.2.1) t56.2.2.2.2) from ((congrArg (fun z => s9_rounds z t56.2.2.2.2) ((congrArg (fun z => s9_fresh z t56.2.2.2.1) ((congrArg (fun z => s9_known z t56.2.2.1) ((congrArg (fun z => s9_came z t56.2.1) ((cm9_strength_rounds _ m_rounds_31 (upd m_strength_31 x1.toNatClampNeg (nI i5_31))).trans (congrArg (fun z => s9_rounds z m_rounds_31) ((cm9_strength_fresh _ m_fresh_31 (upd m_strength_31 x1.toNatClampNeg (nI i5_31))).trans (congrArg (fun z => s9_fresh z m_fresh_31) ((cm9_strength_known _ m_known_31 (upd m_strength_31 x1.toNatClampNeg (nI i5_31))).trans (congrArg (fun z => s9_known z m_known_31) ((cm9_strength_came _ m_came_31 (upd m_strength_31 x1.toNatClampNeg (nI i5_31))).trans (congrArg (fun z => s9_came z m_came_31) (ss9_strength _ m_strength_31 (upd m_strength_31 x1.toNatClampNeg (nI i5_31)))))))))))).trans ((cm9_came_rounds _ m_rounds_31 t56.2.1).trans (congrArg (fun z => s9_rounds z m_rounds_31) ((cm9_came_fresh _ m_fresh_31 t56.2.1).trans (congrArg (fun z => s9_fresh z m_fresh_31) ((cm9_came_known _ m_known_31 t56.2.1).trans (congrArg (fun z => s9_known z m_known_31) (ss9_came _ m_came_31 t56.2.1))))))))).trans ((cm9_known_rounds _ m_rounds_31 t56.2.2.1).trans (congrArg (fun z => s9_rounds z m_rounds_31) ((cm9_known_fresh _ m_fresh_31 t56.2.2.1).trans (congrArg (fun z => s9_fresh z m_fresh_31) (ss9_known _ m_known_31 t56.2.2.1))))))).trans ((cm9_fresh_rounds _ m_rounds_31 t56.2.2.2.1).trans (congrArg (fun z => s9_rounds z m_rounds_31) (ss9_fresh _ m_fresh_31 t56.2.2.2.1))))).trans (ss9_rounds _ m_rounds_31 t56.2.2.2.2))] at hP hD
                exact ih31 (nI i5_31) (i5_31 + 1) (upd m_strength_31 x1.toNatClampNeg (nI i5_31)) t56.2.1 t56.2.2.1 t56.2.2.2.1 t56.2.2.2.2 _ _ _ (by first | assumption | omega) (by omega) hE hP hD hS (lv_sub hl [2, 3, 4, 5, 1, 0] rfl)
      refine lv_istore (lv' := [(5, .int 0), (4, .int (-2)), (3, .int ((g9_strength bm) x1.toNatClampNeg)), (0, .ref (am 0)), (1, .int x1), (2, .int x2)]) hx hb dX9_least_29 hl (by decide) rfl (fun ls hl => ?_)
      rw [show bm = (s9_rounds (s9_fresh (s9_known (s9_came (s9_strength bm (g9_strength bm)) (g9_came bm)) (g9_known bm)) (g9_fresh bm)) (g9_rounds bm)) from ((((((se9_strength _).symm).trans (((se9_came _).symm).trans (congrArg (fun v => s9_came (s9_strength bm (g9_strength bm)) v) (gs9_came_strength _ (g9_strength bm))))).trans (((se9_known _).symm).trans (congrArg (fun v => s9_known (s9_came (s9_strength bm (g9_strength bm)) (g9_came bm)) v) ((gs9_known_came _ (g9_came bm)).trans (gs9_known_strength _ (g9_strength bm)))))).trans (((se9_fresh _).symm).trans (congrArg (fun v => s9_fresh (s9_known (s9_came (s9_strength bm (g9_strength bm)) (g9_came bm)) (g9_known bm)) v) ((gs9_fresh_known _ (g9_known bm)).trans ((gs9_fresh_came _ (g9_came bm)).trans (gs9_fresh_strength _ (g9_strength bm))))))).trans (((se9_rounds _).symm).trans (congrArg (fun v => s9_rounds (s9_fresh (s9_known (s9_came (s9_strength bm (g9_strength bm)) (g9_came bm)) (g9_known bm)) (g9_fresh bm)) v) ((gs9_rounds_fresh _ (g9_fresh bm)).trans ((gs9_rounds_known _ (g9_known bm)).trans ((gs9_rounds_came _ (g9_came bm)).trans (gs9_rounds_strength _ (g9_strength bm))))))))] at hP hD
      exact hB31 11 (-2) 0 (g9_strength bm) (g9_came bm) (g9_known bm) (g9_fresh bm) (g9_rounds bm) _ _ _ (by first | assumption | omega) (by omega) hE hP hD hS (lv_sub hl [3, 4, 5, 2, 1, 0] rfl)
    · have hE := hE.trans (if_pos c12)
      refine lv_iconst (v := (-1)) hx hb dX9_least_15 (by decide) ?_
      rw [show bm = (s9_rounds (s9_fresh (s9_known (s9_came (s9_strength bm (g9_strength bm)) (g9_came bm)) (g9_known bm)) (g9_fresh bm)) (g9_rounds bm)) from ((((((se9_strength _).symm).trans (((se9_came _).symm).trans (congrArg (fun v => s9_came (s9_strength bm (g9_strength bm)) v) (gs9_came_strength _ (g9_strength bm))))).trans (((se9_known _).symm).trans (congrArg (fun v => s9_known (s9_came (s9_strength bm (g9_strength bm)) (g9_came bm)) v) ((gs9_known_came _ (g9_came bm)).trans (gs9_known_strength _ (g9_strength bm)))))).trans (((se9_fresh _).symm).trans (congrArg (fun v => s9_fresh (s9_known (s9_came (s9_strength bm (g9_strength bm)) (g9_came bm)) (g9_known bm)) v) ((gs9_fresh_known _ (g9_known bm)).trans ((gs9_fresh_came _ (g9_came bm)).trans (gs9_fresh_strength _ (g9_strength bm))))))).trans (((se9_rounds _).symm).trans (congrArg (fun v => s9_rounds (s9_fresh (s9_known (s9_came (s9_strength bm (g9_strength bm)) (g9_came bm)) (g9_known bm)) (g9_fresh bm)) v) ((gs9_rounds_fresh _ (g9_fresh bm)).trans ((gs9_rounds_known _ (g9_known bm)).trans ((gs9_rounds_came _ (g9_came bm)).trans (gs9_rounds_strength _ (g9_strength bm))))))))] at hP hD
      exact hret _ _ _ _ _ _ (by subst hE; rfl) rfl hP hS dX9_least_16

theorem in_X9_lots_9 : ∀ w ∈ u_ws RX9 TX9 40, w ∈ wsX9_lots := by decide +kernel
def rmX9_lots : Room := { frames := 8, cells := 0, slots := 0, locals := 177 }
set_option maxHeartbeats 4000000 in
set_option maxRecDepth 100000 in
theorem c_X9_lots (l : Launch) (G : zG) (am : Nat → Nat) (bm : S9) (x1 : Int32) (x2 : Int32) (x3 : Int32) (x4 : Int32) (hz_m_rules : ∃ N : Nat, N ≤ 16 ∧ g9_rules bm = nI N) (T : Int32 × (Int32) × (Nat → Int32) × (Nat → Int32) × (Nat → Int32) × (Int32)) (hT : FX9_lots (g9_facts bm) (g9_rules bm) (g9_kind bm) (g9_head bm) (g9_body bm) (g9_except bm) (g9_strength bm) (g9_off bm) (g9_over bm) (g9_came bm) (g9_known bm) (g9_fresh bm) (g9_rounds bm) x1 x2 x3 x4 = T) : zI l yX9_lots wsX9_lots rmX9_lots .int G [.ref (am 0), .int x1, .int x2, .int x3, .int x4] [w9 G am bm] T.1 [w9 G am (s9_rounds (s9_fresh (s9_known (s9_came (s9_facts bm T.2.1) T.2.2.1) T.2.2.2.1) T.2.2.2.2.1) T.2.2.2.2.2)] := by
  refine zI.mk (cc := cX9_lots) (maxL := 11) (by decide +kernel) rfl (Nat.le_of_ble_eq_true rfl) (zfl_cons (wf9 _ _ _ _) rfl) ?_
  intro p e s m args below meth c Q A ls S hK hD hA hP hl hret
  have hx := S.1
  have hb := S.2.1
  have hS : va_S A s.heap s.heap [] := va_S.rf
  have hl : lv_has ls 11 [(0, .ref (am 0)), (1, .int x1), (2, .int x2), (3, .int x3), (4, .int x4)] := hl
  have hE := hT.symm.trans (FX9_lots.eq_1 _ _ _ _ _ _ _ _ _ _ _ _ _ _ _ _ _)
  refine lv_iload_n hx hb dX9_lots_0 rfl (lv_at hl 1 rfl) ?_
  obtain ⟨t1, ht1⟩ : ∃ z, FX9_isLiteral x1 = z := ⟨_, rfl⟩
  have hE := hE.trans (bnd_eq ht1)
  have hc := c_X9_isLiteral l G x1 _ ht1
  refine zgoR (va_runS (As := [.int x1]) (rest := []) S (hc _) (va_cwS 1 S.2.2.2.2 gX9_lots_X9_isLiteral rfl rfl rfl (by decide +kernel) ⟨Nat.le_of_ble_eq_true rfl, Nat.le_of_ble_eq_true rfl⟩) (zpS hK hP hD (is := []) rfl rfl) rfl rfl hl.1 rfl (lv_room (Nat.le_of_ble_eq_true rfl)) dX9_lots_1 ⟨Nat.zero_le _, Nat.zero_le _⟩) (fun hn1 => ?_)
  refine lv_if_eq (tgt := 24) hx hb dX9_lots_4 (by decide) (fun c4 => ?_) (fun c4 => ?_)
  · have hE := hE.trans (if_pos c4)
    refine lv_iconst (v := (-1)) hx hb dX9_lots_24 (by decide) ?_
    rw [show bm = (s9_rounds (s9_fresh (s9_known (s9_came (s9_facts bm (g9_facts bm)) (g9_came bm)) (g9_known bm)) (g9_fresh bm)) (g9_rounds bm)) from ((((((se9_facts _).symm).trans (((se9_came _).symm).trans (congrArg (fun v => s9_came (s9_facts bm (g9_facts bm)) v) (gs9_came_facts _ (g9_facts bm))))).trans (((se9_known _).symm).trans (congrArg (fun v => s9_known (s9_came (s9_facts bm (g9_facts bm)) (g9_came bm)) v) ((gs9_known_came _ (g9_came bm)).trans (gs9_known_facts _ (g9_facts bm)))))).trans (((se9_fresh _).symm).trans (congrArg (fun v => s9_fresh (s9_known (s9_came (s9_facts bm (g9_facts bm)) (g9_came bm)) (g9_known bm)) v) ((gs9_fresh_known _ (g9_known bm)).trans ((gs9_fresh_came _ (g9_came bm)).trans (gs9_fresh_facts _ (g9_facts bm))))))).trans (((se9_rounds _).symm).trans (congrArg (fun v => s9_rounds (s9_fresh (s9_known (s9_came (s9_facts bm (g9_facts bm)) (g9_came bm)) (g9_known bm)) (g9_fresh bm)) v) ((gs9_rounds_fresh _ (g9_fresh bm)).trans ((gs9_rounds_known _ (g9_known bm)).trans ((gs9_rounds_came _ (g9_came bm)).trans (gs9_rounds_facts _ (g9_facts bm))))))))] at hP hD
    exact hret _ _ _ _ _ _ (by subst hE; rfl) rfl hP hS dX9_lots_25
  · have hE := hE.trans (if_neg c4)
    have hx1_20 : vp_in x1 20 := zisLit9 (by rw [ht1]; exact c4)
    refine lv_iload_n hx hb dX9_lots_7 rfl (lv_at hl 2 rfl) ?_
    obtain ⟨t8, ht8⟩ : ∃ z, FX9_isTag x2 = z := ⟨_, rfl⟩
    have hE := hE.trans (bnd_eq ht8)
    have hc := c_X9_isTag l G x2 _ ht8
    refine zgoR (va_runS (As := [.int x2]) (rest := []) S (hc _) (va_cwS 1 S.2.2.2.2 gX9_lots_X9_isTag rfl rfl rfl (by decide +kernel) ⟨Nat.le_of_ble_eq_true rfl, Nat.le_of_ble_eq_true rfl⟩) (zpS hK hP hD (is := []) rfl rfl) rfl rfl hl.1 rfl (lv_room (Nat.le_of_ble_eq_true rfl)) dX9_lots_8 ⟨Nat.zero_le _, Nat.zero_le _⟩) (fun hn8 => ?_)
    refine lv_if_eq (tgt := 24) hx hb dX9_lots_11 (by decide) (fun c11 => ?_) (fun c11 => ?_)
    · have hE := hE.trans (if_pos c11)
      refine lv_iconst (v := (-1)) hx hb dX9_lots_24 (by decide) ?_
      rw [show bm = (s9_rounds (s9_fresh (s9_known (s9_came (s9_facts bm (g9_facts bm)) (g9_came bm)) (g9_known bm)) (g9_fresh bm)) (g9_rounds bm)) from ((((((se9_facts _).symm).trans (((se9_came _).symm).trans (congrArg (fun v => s9_came (s9_facts bm (g9_facts bm)) v) (gs9_came_facts _ (g9_facts bm))))).trans (((se9_known _).symm).trans (congrArg (fun v => s9_known (s9_came (s9_facts bm (g9_facts bm)) (g9_came bm)) v) ((gs9_known_came _ (g9_came bm)).trans (gs9_known_facts _ (g9_facts bm)))))).trans (((se9_fresh _).symm).trans (congrArg (fun v => s9_fresh (s9_known (s9_came (s9_facts bm (g9_facts bm)) (g9_came bm)) (g9_known bm)) v) ((gs9_fresh_known _ (g9_known bm)).trans ((gs9_fresh_came _ (g9_came bm)).trans (gs9_fresh_facts _ (g9_facts bm))))))).trans (((se9_rounds _).symm).trans (congrArg (fun v => s9_rounds (s9_fresh (s9_known (s9_came (s9_facts bm (g9_facts bm)) (g9_came bm)) (g9_known bm)) (g9_fresh bm)) v) ((gs9_rounds_fresh _ (g9_fresh bm)).trans ((gs9_rounds_known _ (g9_known bm)).trans ((gs9_rounds_came _ (g9_came bm)).trans (gs9_rounds_facts _ (g9_facts bm))))))))] at hP hD
      exact hret _ _ _ _ _ _ (by subst hE; rfl) rfl hP hS dX9_lots_25
    · have hE := hE.trans (if_neg c11)
      have hx2_4 : vp_in x2 4 := zisTag9 (by rw [ht8]; exact c11)
      refine lv_iload_n hx hb dX9_lots_14 rfl (lv_at hl 3 rfl) ?_
      refine lv_iconst (v := 1) hx hb dX9_lots_15 (by decide) ?_
      refine lv_bipush (v := 12) hx hb dX9_lots_16 (by decide) ?_
      obtain ⟨t18, ht18⟩ : ∃ z, FX9_in x3 1 12 = z := ⟨_, rfl⟩
      have hE := hE.trans (bnd_eq ht18)
      have hc := c_X9_in l G x3 1 12 _ ht18
      refine zgoR (va_runS (As := [.int x3, .int 1, .int 12]) (rest := []) S (hc _) (va_cwS 3 S.2.2.2.2 gX9_lots_X9_in rfl rfl rfl (by decide +kernel) ⟨Nat.le_of_ble_eq_true rfl, Nat.le_of_ble_eq_true rfl⟩) (zpS hK hP hD (is := []) rfl rfl) rfl rfl hl.1 rfl (lv_room (Nat.le_of_ble_eq_true rfl)) dX9_lots_18 ⟨Nat.zero_le _, Nat.zero_le _⟩) (fun hn18 => ?_)
      refine lv_if_ne (tgt := 26) hx hb dX9_lots_21 (by decide) (fun c21 => ?_) (fun c21 => ?_)
      · have hE := hE.trans (if_neg c21)
        obtain ⟨NN, hNN, hNe⟩ := zn12 (x := x3) (by rw [ht18]; exact c21)
        refine lv_aload_n hx hb dX9_lots_26 rfl (lv_at hl 0 rfl) ?_
        refine zg9_facts S in_X9_lots_9 hK hP 0 rfl (List.mem_of_getElem? (i := 1) rfl) (v := (g9_facts bm)) rfl dX9_lots_27 ?_
        refine lv_istore (lv' := [(5, .int (g9_facts bm)), (0, .ref (am 0)), (1, .int x1), (2, .int x2), (3, .int x3), (4, .int x4)]) hx hb dX9_lots_30 hl (by decide) rfl (fun ls hl => ?_)
        refine lv_iload hx hb dX9_lots_32 (lv_at hl 5 rfl) ?_
        refine lv_istore (lv' := [(6, .int x4), (5, .int (g9_facts bm)), (0, .ref (am 0)), (1, .int x1), (2, .int x2), (3, .int x3), (4, .int x4)]) hx hb dX9_lots_34 hl (by decide) rfl (fun ls hl => ?_)
        refine lv_iconst (v := 0) hx hb dX9_lots_36 (by decide) ?_
        refine lv_istore (lv' := [(7, .int 0), (6, .int x4), (5, .int (g9_facts bm)), (0, .ref (am 0)), (1, .int x1), (2, .int x2), (3, .int x3), (4, .int x4)]) hx hb dX9_lots_37 hl (by decide) rfl (fun ls hl => ?_)
        refine lv_iconst (v := 0) hx hb dX9_lots_39 (by decide) ?_
        have hB158 : ∀ (x7_158 : Int32) (m_facts_158 : Int32) (m_came_158 : Nat → Int32) (m_known_158 : Nat → Int32) (m_fresh_158 : Nat → Int32) (m_rounds_158 : Int32) (H : Heap) (locs : List Loc) (ls : Array Slot), T = FX9_lots_158 (g9_facts bm) (g9_rules bm) (g9_kind bm) (g9_head bm) (g9_body bm) (g9_except bm) (g9_strength bm) (g9_off bm) (g9_over bm) (g9_came bm) (g9_known bm) (g9_fresh bm) (g9_rounds bm) x1 x2 x3 x4 (g9_facts bm) x7_158 m_facts_158 m_came_158 m_known_158 m_fresh_158 m_rounds_158 → zP G [w9 G am (s9_rounds (s9_fresh (s9_known (s9_came (s9_facts bm m_facts_158) m_came_158) m_known_158) m_fresh_158) m_rounds_158)] H → zD A [w9 G am (s9_rounds (s9_fresh (s9_known (s9_came (s9_facts bm m_facts_158) m_came_158) m_known_158) m_fresh_158) m_rounds_158)] → va_S A s.heap H locs → lv_has ls 11 [(0, .ref (am 0)), (5, .int (g9_facts bm)), (7, .int x7_158)] → W p l e rmX9_lots s m args below meth c H locs 0 0 Q (F0 m 158 ls []) := by
          intro x7_158 m_facts_158 m_came_158 m_known_158 m_fresh_158 m_rounds_158 H locs ls hE hP hD hS hl
          have hE := hE.trans (FX9_lots_158.eq_1 _ _ _ _ _ _ _ _ _ _ _ _ _ _ _ _ _ _ _ _ _ _ _ _)
          refine lv_aload_n hx hb dX9_lots_158 rfl (lv_at hl 0 rfl) ?_
          refine lv_iload hx hb dX9_lots_159 (lv_at hl 1 rfl) ?_
          refine zp9_facts (bs1 := [w9 G am (s9_facts (s9_rounds (s9_fresh (s9_known (s9_came (s9_facts bm m_facts_158) m_came_158) m_known_158) m_fresh_158) m_rounds_158) (g9_facts bm))]) S in_X9_lots_9 hK hP hD hS 0 rfl (List.mem_of_getElem? (i := 1) rfl) dX9_lots_161 rfl (fun H locs hP hD hS => ?_)
          refine lv_iload hx hb dX9_lots_164 (lv_at hl 2 rfl) ?_
          rw [show (s9_facts (s9_rounds (s9_fresh (s9_known (s9_came (s9_facts bm m_facts_158) m_came_158) m_known_158) m_fresh_158) m_rounds_158) (g9_facts bm)) = (s9_rounds (s9_fresh (s9_known (s9_came (s9_facts bm (g9_facts bm)) m_came_158) m_known_158) m_fresh_158) m_rounds_158) from ((cm9_facts_rounds _ m_rounds_158 (g9_facts bm)).trans (congrArg (fun z => s9_rounds z m_rounds_158) ((cm9_facts_fresh _ m_fresh_158 (g9_facts bm)).trans (congrArg (fun z => s9_fresh z m_fresh_158) ((cm9_facts_known _ m_known_158 (g9_facts bm)).trans (congrArg (fun z => s9_known z m_known_158) ((cm9_facts_came _ m_came_158 (g9_facts bm)).trans (congrArg (fun z => s9_came z m_came_158) (ss9_facts _ m_facts_158 (g9_facts bm))))))))))] at hP hD
          exact hret _ _ _ _ _ _ (by subst hE; rfl) rfl hP hS dX9_lots_166
        have hB42 : ∀ (n42 : Nat) (x6_42 : Int32) (x7_42 : Int32) (i8_42 : Nat) (m_facts_42 : Int32) (m_came_42 : Nat → Int32) (m_known_42 : Nat → Int32) (m_fresh_42 : Nat → Int32) (m_rounds_42 : Int32) (H : Heap) (locs : List Loc) (ls : Array Slot), (i8_42 ≤ NN) → 13 ≤ i8_42 + n42 → T = FX9_lots_42 (g9_facts bm) (g9_rules bm) (g9_kind bm) (g9_head bm) (g9_body bm) (g9_except bm) (g9_strength bm) (g9_off bm) (g9_over bm) (g9_came bm) (g9_known bm) (g9_fresh bm) (g9_rounds bm) x1 x2 x3 x4 (FX9_lots_158 (g9_facts bm) (g9_rules bm) (g9_kind bm) (g9_head bm) (g9_body bm) (g9_except bm) (g9_strength bm) (g9_off bm) (g9_over bm) (g9_came bm) (g9_known bm) (g9_fresh bm) (g9_rounds bm) x1 x2 x3 x4) n42 (g9_facts bm) x6_42 x7_42 (nI i8_42) m_facts_42 m_came_42 m_known_42 m_fresh_42 m_rounds_42 → zP G [w9 G am (s9_rounds (s9_fresh (s9_known (s9_came (s9_facts bm m_facts_42) m_came_42) m_known_42) m_fresh_42) m_rounds_42)] H → zD A [w9 G am (s9_rounds (s9_fresh (s9_known (s9_came (s9_facts bm m_facts_42) m_came_42) m_known_42) m_fresh_42) m_rounds_42)] → va_S A s.heap H locs → lv_has ls 11 [(0, .ref (am 0)), (1, .int x1), (2, .int x2), (3, .int x3), (5, .int (g9_facts bm)), (6, .int x6_42), (7, .int x7_42), (8, .int (nI i8_42))] → W p l e rmX9_lots s m args below meth c H locs 0 0 Q (F0 m 42 ls []) := by
          intro n42
          induction n42 with
          | zero =>
            intro x6_42 x7_42 i8_42 m_facts_42 m_came_42 m_known_42 m_fresh_42 m_rounds_42 H locs ls hi8_42 hn hE hP hD hS hl
            exact absurd hn (by omega)
          | succ n42 ih42 =>
            intro x6_42 x7_42 i8_42 m_facts_42 m_came_42 m_known_42 m_fresh_42 m_rounds_42 H locs ls hi8_42 hn hE hP hD hS hl
            have hE := hE.trans (FX9_lots_42.eq_2 _ _ _ _ _ _ _ _ _ _ _ _ _ _ _ _ _ _ _ _ _ _ _ _ _ _ _ _)
            refine lv_iload hx hb dX9_lots_42 (lv_at hl 7 rfl) ?_
            refine lv_iload_n hx hb dX9_lots_44 rfl (lv_at hl 3 rfl) ?_
            refine lv_icmp_ge (tgt := 158) hx hb dX9_lots_45 (by decide) (fun c45 => ?_) (fun c45 => ?_)
            · have hE := hE.trans (if_pos c45)
              exact hB158 x7_42 m_facts_42 m_came_42 m_known_42 m_fresh_42 m_rounds_42 _ _ _ hE hP hD hS (lv_sub hl [0, 4, 6] rfl)
            · have hE := hE.trans (if_neg c45)
              have hl8_42 : i8_42 < NN := zlt hNe (by omega) (by omega) c45
              refine lv_aload_n hx hb dX9_lots_48 rfl (lv_at hl 0 rfl) ?_
              refine lv_iconst (v := 0) hx hb dX9_lots_49 (by decide) ?_
              refine zp9_facts (bs1 := [w9 G am (s9_facts (s9_rounds (s9_fresh (s9_known (s9_came (s9_facts bm m_facts_42) m_came_42) m_known_42) m_fresh_42) m_rounds_42) 0)]) S in_X9_lots_9 hK hP hD hS 0 rfl (List.mem_of_getElem? (i := 1) rfl) dX9_lots_50 rfl (fun H locs hP hD hS => ?_)
              refine lv_iconst (v := 0) hx hb dX9_lots_53 (by decide) ?_
              have hB133 : ∀ (x6_133 : Int32) (m_facts_133 : Int32) (H : Heap) (locs : List Loc) (ls : Array Slot), T = FX9_lots_133 (g9_facts bm) (g9_rules bm) (g9_kind bm) (g9_head bm) (g9_body bm) (g9_except bm) (g9_strength bm) (g9_off bm) (g9_over bm) (g9_came bm) (g9_known bm) (g9_fresh bm) (g9_rounds bm) x1 x2 x3 x4 (fun x5_42' x6_42' x7_42' x8_42' m_facts_42' m_came_42' m_known_42' m_fresh_42' m_rounds_42' => FX9_lots_42 (g9_facts bm) (g9_rules bm) (g9_kind bm) (g9_head bm) (g9_body bm) (g9_except bm) (g9_strength bm) (g9_off bm) (g9_over bm) (g9_came bm) (g9_known bm) (g9_fresh bm) (g9_rounds bm) x1 x2 x3 x4 (FX9_lots_158 (g9_facts bm) (g9_rules bm) (g9_kind bm) (g9_head bm) (g9_body bm) (g9_except bm) (g9_strength bm) (g9_off bm) (g9_over bm) (g9_came bm) (g9_known bm) (g9_fresh bm) (g9_rounds bm) x1 x2 x3 x4) n42 x5_42' x6_42' x7_42' x8_42' m_facts_42' m_came_42' m_known_42' m_fresh_42' m_rounds_42') (FX9_lots_158 (g9_facts bm) (g9_rules bm) (g9_kind bm) (g9_head bm) (g9_body bm) (g9_except bm) (g9_strength bm) (g9_off bm) (g9_over bm) (g9_came bm) (g9_known bm) (g9_fresh bm) (g9_rounds bm) x1 x2 x3 x4) (g9_facts bm) x6_133 x7_42 (nI i8_42) m_facts_133 m_came_42 m_known_42 m_fresh_42 m_rounds_42 → zP G [w9 G am (s9_rounds (s9_fresh (s9_known (s9_came (s9_facts bm m_facts_133) m_came_42) m_known_42) m_fresh_42) m_rounds_42)] H → zD A [w9 G am (s9_rounds (s9_fresh (s9_known (s9_came (s9_facts bm m_facts_133) m_came_42) m_known_42) m_fresh_42) m_rounds_42)] → va_S A s.heap H locs → lv_has ls 11 [(0, .ref (am 0)), (1, .int x1), (2, .int x2), (3, .int x3), (5, .int (g9_facts bm)), (6, .int x6_133), (7, .int x7_42), (8, .int (nI i8_42))] → W p l e rmX9_lots s m args below meth c H locs 0 0 Q (F0 m 133 ls []) := by
                intro x6_133 m_facts_133 H locs ls hE hP hD hS hl
                have hE := hE.trans (FX9_lots_133.eq_1 _ _ _ _ _ _ _ _ _ _ _ _ _ _ _ _ _ _ _ _ _ _ _ _ _ _ _ _)
                refine lv_iload hx hb dX9_lots_133 (lv_at hl 6 rfl) ?_
                refine lv_aload_n hx hb dX9_lots_135 rfl (lv_at hl 0 rfl) ?_
                refine lv_iload_n hx hb dX9_lots_136 rfl (lv_at hl 1 rfl) ?_
                refine lv_iload_n hx hb dX9_lots_137 rfl (lv_at hl 2 rfl) ?_
                obtain ⟨t138, ht138⟩ : ∃ z, FX9_comes m_facts_133 (g9_rules bm) (g9_kind bm) (g9_head bm) (g9_body bm) (g9_except bm) (g9_strength bm) (g9_off bm) (g9_over bm) m_came_42 m_known_42 m_fresh_42 m_rounds_42 x1 x2 = z := ⟨_, rfl⟩
                have hE := hE.trans (bnd_eq ht138)
                have hc := c_X9_comes l G am (s9_rounds (s9_fresh (s9_known (s9_came (s9_facts bm m_facts_133) m_came_42) m_known_42) m_fresh_42) m_rounds_42) x1 x2 (hz_m_rules) (hx2_4) _ (by simp only [gs9_facts_rounds, gs9_facts_fresh, gs9_facts_known, gs9_facts_came, gg9_facts, gs9_rules_rounds, gs9_rules_fresh, gs9_rules_known, gs9_rules_came, gs9_rules_facts, gs9_kind_rounds, gs9_kind_fresh, gs9_kind_known, gs9_kind_came, gs9_kind_facts, gs9_head_rounds, gs9_head_fresh, gs9_head_known, gs9_head_came, gs9_head_facts, gs9_body_rounds, gs9_body_fresh, gs9_body_known, gs9_body_came, gs9_body_facts, gs9_except_rounds, gs9_except_fresh, gs9_except_known, gs9_except_came, gs9_except_facts, gs9_strength_rounds, gs9_strength_fresh, gs9_strength_known, gs9_strength_came, gs9_strength_facts, gs9_off_rounds, gs9_off_fresh, gs9_off_known, gs9_off_came, gs9_off_facts, gs9_over_rounds, gs9_over_fresh, gs9_over_known, gs9_over_came, gs9_over_facts, gs9_came_rounds, gs9_came_fresh, gs9_came_known, gg9_came, gs9_known_rounds, gs9_known_fresh, gg9_known, gs9_fresh_rounds, gg9_fresh, gg9_rounds]; exact ht138)
                refine zgoI (bs' := [w9 G am (s9_rounds (s9_fresh (s9_known (s9_came (s9_rounds (s9_fresh (s9_known (s9_came (s9_facts bm m_facts_133) m_came_42) m_known_42) m_fresh_42) m_rounds_42) t138.2.1) t138.2.2.1) t138.2.2.2.1) t138.2.2.2.2)]) hc [0] rfl rfl rfl hP hD hS hA (va_runV (As := [.int x1, .int x2]) (rest := [.int x7_42]) S (hc.2 _) (cwV 2 S.2.2.2.2 gX9_lots_X9_comes rfl rfl rfl (by decide +kernel) ⟨Nat.le_of_ble_eq_true rfl, Nat.le_of_ble_eq_true rfl⟩) (zpV hK hP hD (is := [0]) rfl rfl 0 rfl rfl (ci := 9) rfl) rfl rfl hl.1 rfl (lv_room (Nat.le_of_ble_eq_true rfl)) dX9_lots_138 ⟨Nat.zero_le _, Nat.zero_le _⟩) (fun H locs hn138 hP hD hS => ?_)
                refine lv_if_eq (tgt := 148) hx hb dX9_lots_141 (by decide) (fun c141 => ?_) (fun c141 => ?_)
                · have hE := hE.trans (if_pos c141)
                  refine lv_iconst (v := 0) hx hb dX9_lots_148 (by decide) ?_
                  refine lv_iadd hx hb dX9_lots_149 ?_
                  refine lv_istore (lv' := [(7, .int (x7_42 + 0)), (0, .ref (am 0)), (1, .int x1), (2, .int x2), (3, .int x3), (5, .int (g9_facts bm)), (6, .int x6_133), (8, .int (nI i8_42))]) hx hb dX9_lots_150 hl (by decide) rfl (fun ls hl => ?_)
                  refine lv_iinc (v := (nI (i8_42 + 1))) (lv' := [(8, .int (nI (i8_42 + 1))), (7, .int (x7_42 + 0)), (0, .ref (am 0)), (1, .int x1), (2, .int x2), (3, .int x3), (5, .int (g9_facts bm)), (6, .int x6_133)]) hx hb dX9_lots_152 hl (k := 7) rfl (nI_1 i8_42) (by decide) rfl (fun ls hl => ?_)
                  try rw [nI_1 i8_42] at hE
                  refine lv_goto (tgt := 42) hx hb dX9_lots_155 (by decide) ?_
                  rw [show (s9_rounds (s9_fresh (s9_known (s9_came (s9_rounds (s9_fresh (s9_known (s9_came (s9_facts bm m_facts_133) m_came_42) m_known_42) m_fresh_42) m_rounds_42) t138.2.1) t138.2.2.1) t138.2.2.2.1) t138.2.2.2.2) = (s9_rounds (s9_fresh (s9_known (s9_came (s9_facts bm m_facts_133) t138.2.1) t138.2.2.1) t138.2.2.2.1) t138.2.2.2.2) from ((congrArg (fun z => s9_rounds z t138.2.2.2.2) ((congrArg (fun z => s9_fresh z t138.2.2.2.1) ((congrArg (fun z => s9_known z t138.2.2.1) ((cm9_came_rounds _ m_rounds_42 t138.2.1).trans (congrArg (fun z => s9_rounds z m_rounds_42) ((cm9_came_fresh _ m_fresh_42 t138.2.1).trans (congrArg (fun z => s9_fresh z m_fresh_42) ((cm9_came_known _ m_known_42 t138.2.1).trans (congrArg (fun z => s9_known z m_known_42) (ss9_came _ m_came_42 t138.2.1)))))))).trans ((cm9_known_rounds _ m_rounds_42 t138.2.2.1).trans (congrArg (fun z => s9_rounds z m_rounds_42) ((cm9_known_fresh _ m_fresh_42 t138.2.2.1).trans (congrArg (fun z => s9_fresh z m_fresh_42) (ss9_known _ m_known_42 t138.2.2.1))))))).trans ((cm9_fresh_rounds _ m_rounds_42 t138.2.2.2.1).trans (congrArg (fun z => s9_rounds z m_rounds_42) (ss9_fresh _ m_fresh_42 t138.2.2.2.1))))).trans (ss9_rounds _ m_rounds_42 t138.2.2.2.2))] at hP hD
                  exact ih42 x6_133 (x7_42 + 0) (i8_42 + 1) m_facts_133 t138.2.1 t138.2.2.1 t138.2.2.2.1 t138.2.2.2.2 _ _ _ (by first | assumption | omega) (by omega) hE hP hD hS (lv_sub hl [2, 3, 4, 5, 6, 7, 1, 0] rfl)
                · have hE := hE.trans (if_neg c141)
                  refine lv_iconst (v := 1) hx hb dX9_lots_144 (by decide) ?_
                  refine lv_goto (tgt := 149) hx hb dX9_lots_145 (by decide) ?_
                  refine lv_iadd hx hb dX9_lots_149 ?_
                  refine lv_istore (lv' := [(7, .int (x7_42 + 1)), (0, .ref (am 0)), (1, .int x1), (2, .int x2), (3, .int x3), (5, .int (g9_facts bm)), (6, .int x6_133), (8, .int (nI i8_42))]) hx hb dX9_lots_150 hl (by decide) rfl (fun ls hl => ?_)
                  refine lv_iinc (v := (nI (i8_42 + 1))) (lv' := [(8, .int (nI (i8_42 + 1))), (7, .int (x7_42 + 1)), (0, .ref (am 0)), (1, .int x1), (2, .int x2), (3, .int x3), (5, .int (g9_facts bm)), (6, .int x6_133)]) hx hb dX9_lots_152 hl (k := 7) rfl (nI_1 i8_42) (by decide) rfl (fun ls hl => ?_)
                  try rw [nI_1 i8_42] at hE
                  refine lv_goto (tgt := 42) hx hb dX9_lots_155 (by decide) ?_
                  rw [show (s9_rounds (s9_fresh (s9_known (s9_came (s9_rounds (s9_fresh (s9_known (s9_came (s9_facts bm m_facts_133) m_came_42) m_known_42) m_fresh_42) m_rounds_42) t138.2.1) t138.2.2.1) t138.2.2.2.1) t138.2.2.2.2) = (s9_rounds (s9_fresh (s9_known (s9_came (s9_facts bm m_facts_133) t138.2.1) t138.2.2.1) t138.2.2.2.1) t138.2.2.2.2) from ((congrArg (fun z => s9_rounds z t138.2.2.2.2) ((congrArg (fun z => s9_fresh z t138.2.2.2.1) ((congrArg (fun z => s9_known z t138.2.2.1) ((cm9_came_rounds _ m_rounds_42 t138.2.1).trans (congrArg (fun z => s9_rounds z m_rounds_42) ((cm9_came_fresh _ m_fresh_42 t138.2.1).trans (congrArg (fun z => s9_fresh z m_fresh_42) ((cm9_came_known _ m_known_42 t138.2.1).trans (congrArg (fun z => s9_known z m_known_42) (ss9_came _ m_came_42 t138.2.1)))))))).trans ((cm9_known_rounds _ m_rounds_42 t138.2.2.1).trans (congrArg (fun z => s9_rounds z m_rounds_42) ((cm9_known_fresh _ m_fresh_42 t138.2.2.1).trans (congrArg (fun z => s9_fresh z m_fresh_42) (ss9_known _ m_known_42 t138.2.2.1))))))).trans ((cm9_fresh_rounds _ m_rounds_42 t138.2.2.2.1).trans (congrArg (fun z => s9_rounds z m_rounds_42) (ss9_fresh _ m_fresh_42 t138.2.2.2.1))))).trans (ss9_rounds _ m_rounds_42 t138.2.2.2.2))] at hP hD
                  exact ih42 x6_133 (x7_42 + 1) (i8_42 + 1) m_facts_133 t138.2.1 t138.2.2.1 t138.2.2.2.1 t138.2.2.2.2 _ _ _ (by first | assumption | omega) (by omega) hE hP hD hS (lv_sub hl [2, 3, 4, 5, 6, 7, 1, 0] rfl)
              have hB56 : ∀ (n56 : Nat) (x6_56 : Int32) (i9_56 : Nat) (m_facts_56 : Int32) (H : Heap) (locs : List Loc) (ls : Array Slot), (i9_56 ≤ 10) → 11 ≤ i9_56 + n56 → T = FX9_lots_56 (g9_facts bm) (g9_rules bm) (g9_kind bm) (g9_head bm) (g9_body bm) (g9_except bm) (g9_strength bm) (g9_off bm) (g9_over bm) (g9_came bm) (g9_known bm) (g9_fresh bm) (g9_rounds bm) x1 x2 x3 x4 (fun x5_42' x6_42' x7_42' x8_42' m_facts_42' m_came_42' m_known_42' m_fresh_42' m_rounds_42' => FX9_lots_42 (g9_facts bm) (g9_rules bm) (g9_kind bm) (g9_head bm) (g9_body bm) (g9_except bm) (g9_strength bm) (g9_off bm) (g9_over bm) (g9_came bm) (g9_known bm) (g9_fresh bm) (g9_rounds bm) x1 x2 x3 x4 (FX9_lots_158 (g9_facts bm) (g9_rules bm) (g9_kind bm) (g9_head bm) (g9_body bm) (g9_except bm) (g9_strength bm) (g9_off bm) (g9_over bm) (g9_came bm) (g9_known bm) (g9_fresh bm) (g9_rounds bm) x1 x2 x3 x4) n42 x5_42' x6_42' x7_42' x8_42' m_facts_42' m_came_42' m_known_42' m_fresh_42' m_rounds_42') (FX9_lots_158 (g9_facts bm) (g9_rules bm) (g9_kind bm) (g9_head bm) (g9_body bm) (g9_except bm) (g9_strength bm) (g9_off bm) (g9_over bm) (g9_came bm) (g9_known bm) (g9_fresh bm) (g9_rounds bm) x1 x2 x3 x4) (FX9_lots_133 (g9_facts bm) (g9_rules bm) (g9_kind bm) (g9_head bm) (g9_body bm) (g9_except bm) (g9_strength bm) (g9_off bm) (g9_over bm) (g9_came bm) (g9_known bm) (g9_fresh bm) (g9_rounds bm) x1 x2 x3 x4 (fun x5_42' x6_42' x7_42' x8_42' m_facts_42' m_came_42' m_known_42' m_fresh_42' m_rounds_42' => FX9_lots_42 (g9_facts bm) (g9_rules bm) (g9_kind bm) (g9_head bm) (g9_body bm) (g9_except bm) (g9_strength bm) (g9_off bm) (g9_over bm) (g9_came bm) (g9_known bm) (g9_fresh bm) (g9_rounds bm) x1 x2 x3 x4 (FX9_lots_158 (g9_facts bm) (g9_rules bm) (g9_kind bm) (g9_head bm) (g9_body bm) (g9_except bm) (g9_strength bm) (g9_off bm) (g9_over bm) (g9_came bm) (g9_known bm) (g9_fresh bm) (g9_rounds bm) x1 x2 x3 x4) n42 x5_42' x6_42' x7_42' x8_42' m_facts_42' m_came_42' m_known_42' m_fresh_42' m_rounds_42') (FX9_lots_158 (g9_facts bm) (g9_rules bm) (g9_kind bm) (g9_head bm) (g9_body bm) (g9_except bm) (g9_strength bm) (g9_off bm) (g9_over bm) (g9_came bm) (g9_known bm) (g9_fresh bm) (g9_rounds bm) x1 x2 x3 x4)) n56 (g9_facts bm) x6_56 x7_42 (nI i8_42) (nI i9_56) m_facts_56 m_came_42 m_known_42 m_fresh_42 m_rounds_42 → zP G [w9 G am (s9_rounds (s9_fresh (s9_known (s9_came (s9_facts bm m_facts_56) m_came_42) m_known_42) m_fresh_42) m_rounds_42)] H → zD A [w9 G am (s9_rounds (s9_fresh (s9_known (s9_came (s9_facts bm m_facts_56) m_came_42) m_known_42) m_fresh_42) m_rounds_42)] → va_S A s.heap H locs → lv_has ls 11 [(0, .ref (am 0)), (1, .int x1), (2, .int x2), (3, .int x3), (5, .int (g9_facts bm)), (6, .int x6_56), (7, .int x7_42), (8, .int (nI i8_42)), (9, .int (nI i9_56))] → W p l e rmX9_lots s m args below meth c H locs 0 0 Q (F0 m 56 ls []) := by
                intro n56
                induction n56 with
                | zero =>
                  intro x6_56 i9_56 m_facts_56 H locs ls hi9_56 hn hE hP hD hS hl
                  exact absurd hn (by omega)
                | succ n56 ih56 =>
                  intro x6_56 i9_56 m_facts_56 H locs ls hi9_56 hn hE hP hD hS hl
                  have hE := hE.trans (FX9_lots_56.eq_2 _ _ _ _ _ _ _ _ _ _ _ _ _ _ _ _ _ _ _ _ _ _ _ _ _ _ _ _ _ _ _)
                  refine lv_iload hx hb dX9_lots_56 (lv_at hl 8 rfl) ?_
                  refine lv_bipush (v := 10) hx hb dX9_lots_58 (by decide) ?_
                  refine lv_icmp_ge (tgt := 133) hx hb dX9_lots_60 (by decide) (fun c60 => ?_) (fun c60 => ?_)
                  · have hE := hE.trans (if_pos c60)
                    exact hB133 x6_56 m_facts_56 _ _ _ hE hP hD hS (lv_sub hl [0, 1, 2, 3, 4, 5, 6, 7] rfl)
                  · have hE := hE.trans (if_neg c60)
                    have hl9_56 : i9_56 < 10 := zlt (N := 10) rfl (by omega) (by omega) c60
                    refine lv_iload hx hb dX9_lots_63 (lv_at hl 5 rfl) ?_
                    refine lv_ldcw (v := 1103515245) hx hb S.2.2.2.1 (S.2.2.2.2 _ (List.mem_of_getElem? (i := 2) rfl)) dX9_lots_65 ?_
                    refine lv_imul hx hb dX9_lots_68 ?_
                    refine lv_sipush (v := 12345) hx hb dX9_lots_69 (by decide) ?_
                    refine lv_iadd hx hb dX9_lots_72 ?_
                    refine lv_istore (lv' := [(6, .int ((x6_56 * 1103515245) + 12345)), (0, .ref (am 0)), (1, .int x1), (2, .int x2), (3, .int x3), (5, .int (g9_facts bm)), (7, .int x7_42), (8, .int (nI i8_42)), (9, .int (nI i9_56))]) hx hb dX9_lots_73 hl (by decide) rfl (fun ls hl => ?_)
                    refine lv_iload hx hb dX9_lots_75 (lv_at hl 0 rfl) ?_
                    refine lv_ldcw (v := 2147483647) hx hb S.2.2.2.1 (S.2.2.2.2 _ (List.mem_of_getElem? (i := 3) rfl)) dX9_lots_77 ?_
                    refine lv_iand hx hb dX9_lots_80 ?_
                    refine lv_ldcw (v := 65536) hx hb S.2.2.2.1 (S.2.2.2.2 _ (List.mem_of_getElem? (i := 4) rfl)) dX9_lots_81 ?_
                    refine lv_idiv hx hb dX9_lots_84 (by decide) ?_
                    refine lv_iconst (v := 3) hx hb dX9_lots_85 (by decide) ?_
                    refine lv_irem hx hb dX9_lots_86 (by decide) ?_
                    refine lv_istore (lv' := [(10, .int (((((x6_56 * 1103515245) + 12345) &&& 2147483647) / 65536) - ((((x6_56 * 1103515245) + 12345) &&& 2147483647) / 65536) / 3 * 3)), (6, .int ((x6_56 * 1103515245) + 12345)), (0, .ref (am 0)), (1, .int x1), (2, .int x2), (3, .int x3), (5, .int (g9_facts bm)), (7, .int x7_42), (8, .int (nI i8_42)), (9, .int (nI i9_56))]) hx hb dX9_lots_87 hl (by decide) rfl (fun ls hl => ?_)
                    refine lv_aload_n hx hb dX9_lots_89 rfl (lv_at hl 2 rfl) ?_
                    refine lv_dup hx hb dX9_lots_90 rfl ?_
                    refine zg9_facts S in_X9_lots_9 hK hP 0 rfl (List.mem_of_getElem? (i := 1) rfl) (v := m_facts_56) ((gs9_facts_rounds _ m_rounds_42).trans ((gs9_facts_fresh _ m_fresh_42).trans ((gs9_facts_known _ m_known_42).trans ((gs9_facts_came _ m_came_42).trans (gg9_facts _ m_facts_56))))) dX9_lots_91 ?_
                    refine lv_iload hx hb dX9_lots_94 (lv_at hl 0 rfl) ?_
                    refine lv_if_ne (tgt := 106) hx hb dX9_lots_96 (by decide) (fun c96 => ?_) (fun c96 => ?_)
                    · have hE := hE.trans (if_neg c96)
                      refine lv_iload hx hb dX9_lots_106 (lv_at hl 0 rfl) ?_
                      refine lv_iconst (v := 1) hx hb dX9_lots_108 (by decide) ?_
                      refine lv_icmp_ne (tgt := 122) hx hb dX9_lots_109 (by decide) (fun c109 => ?_) (fun c109 => ?_)
                      · have hE := hE.trans (if_neg c109)
                        refine lv_iconst (v := 0) hx hb dX9_lots_122 (by decide) ?_
                        refine lv_ior hx hb dX9_lots_123 ?_
                        refine zp9_facts (bs1 := [w9 G am (s9_facts (s9_rounds (s9_fresh (s9_known (s9_came (s9_facts bm m_facts_56) m_came_42) m_known_42) m_fresh_42) m_rounds_42) (m_facts_56 ||| 0))]) S in_X9_lots_9 hK hP hD hS 0 rfl (List.mem_of_getElem? (i := 1) rfl) dX9_lots_124 rfl (fun H locs hP hD hS => ?_)
                        refine lv_iinc (v := (nI (i9_56 + 1))) (lv' := [(9, .int (nI (i9_56 + 1))), (10, .int (((((x6_56 * 1103515245) + 12345) &&& 2147483647) / 65536) - ((((x6_56 * 1103515245) + 12345) &&& 2147483647) / 65536) / 3 * 3)), (6, .int ((x6_56 * 1103515245) + 12345)), (0, .ref (am 0)), (1, .int x1), (2, .int x2), (3, .int x3), (5, .int (g9_facts bm)), (7, .int x7_42), (8, .int (nI i8_42))]) hx hb dX9_lots_127 hl (k := 9) rfl (nI_1 i9_56) (by decide) rfl (fun ls hl => ?_)
                        try rw [nI_1 i9_56] at hE
                        refine lv_goto (tgt := 56) hx hb dX9_lots_130 (by decide) ?_
                        rw [show (s9_facts (s9_rounds (s9_fresh (s9_known (s9_came (s9_facts bm m_facts_56) m_came_42) m_known_42) m_fresh_42) m_rounds_42) (m_facts_56 ||| 0)) = (s9_rounds (s9_fresh (s9_known (s9_came (s9_facts bm (m_facts_56 ||| 0)) m_came_42) m_known_42) m_fresh_42) m_rounds_42) from ((cm9_facts_rounds _ m_rounds_42 (m_facts_56 ||| 0)).trans (congrArg (fun z => s9_rounds z m_rounds_42) ((cm9_facts_fresh _ m_fresh_42 (m_facts_56 ||| 0)).trans (congrArg (fun z => s9_fresh z m_fresh_42) ((cm9_facts_known _ m_known_42 (m_facts_56 ||| 0)).trans (congrArg (fun z => s9_known z m_known_42) ((cm9_facts_came _ m_came_42 (m_facts_56 ||| 0)).trans (congrArg (fun z => s9_came z m_came_42) (ss9_facts _ m_facts_56 (m_facts_56 ||| 0))))))))))] at hP hD
                        exact ih56 ((x6_56 * 1103515245) + 12345) (i9_56 + 1) (m_facts_56 ||| 0) _ _ _ (by first | assumption | omega) (by omega) hE hP hD hS (lv_sub hl [3, 4, 5, 6, 7, 2, 8, 9, 0] rfl)
                      · have hE := hE.trans (if_pos c109)
                        refine lv_iconst (v := 1) hx hb dX9_lots_112 (by decide) ?_
                        refine lv_iload hx hb dX9_lots_113 (lv_at hl 9 rfl) ?_
                        refine lv_bipush (v := 10) hx hb dX9_lots_115 (by decide) ?_
                        refine lv_iadd hx hb dX9_lots_117 ?_
                        refine lv_ishl hx hb dX9_lots_118 ?_
                        refine lv_goto (tgt := 123) hx hb dX9_lots_119 (by decide) ?_
                        refine lv_ior hx hb dX9_lots_123 ?_
                        refine zp9_facts (bs1 := [w9 G am (s9_facts (s9_rounds (s9_fresh (s9_known (s9_came (s9_facts bm m_facts_56) m_came_42) m_known_42) m_fresh_42) m_rounds_42) (m_facts_56 ||| (1 <<< (((nI i9_56) + 10) &&& 31))))]) S in_X9_lots_9 hK hP hD hS 0 rfl (List.mem_of_getElem? (i := 1) rfl) dX9_lots_124 rfl (fun H locs hP hD hS => ?_)
                        refine lv_iinc (v := (nI (i9_56 + 1))) (lv' := [(9, .int (nI (i9_56 + 1))), (10, .int (((((x6_56 * 1103515245) + 12345) &&& 2147483647) / 65536) - ((((x6_56 * 1103515245) + 12345) &&& 2147483647) / 65536) / 3 * 3)), (6, .int ((x6_56 * 1103515245) + 12345)), (0, .ref (am 0)), (1, .int x1), (2, .int x2), (3, .int x3), (5, .int (g9_facts bm)), (7, .int x7_42), (8, .int (nI i8_42))]) hx hb dX9_lots_127 hl (k := 9) rfl (nI_1 i9_56) (by decide) rfl (fun ls hl => ?_)
                        try rw [nI_1 i9_56] at hE
                        refine lv_goto (tgt := 56) hx hb dX9_lots_130 (by decide) ?_
                        rw [show (s9_facts (s9_rounds (s9_fresh (s9_known (s9_came (s9_facts bm m_facts_56) m_came_42) m_known_42) m_fresh_42) m_rounds_42) (m_facts_56 ||| (1 <<< (((nI i9_56) + 10) &&& 31)))) = (s9_rounds (s9_fresh (s9_known (s9_came (s9_facts bm (m_facts_56 ||| (1 <<< (((nI i9_56) + 10) &&& 31)))) m_came_42) m_known_42) m_fresh_42) m_rounds_42) from ((cm9_facts_rounds _ m_rounds_42 (m_facts_56 ||| (1 <<< (((nI i9_56) + 10) &&& 31)))).trans (congrArg (fun z => s9_rounds z m_rounds_42) ((cm9_facts_fresh _ m_fresh_42 (m_facts_56 ||| (1 <<< (((nI i9_56) + 10) &&& 31)))).trans (congrArg (fun z => s9_fresh z m_fresh_42) ((cm9_facts_known _ m_known_42 (m_facts_56 ||| (1 <<< (((nI i9_56) + 10) &&& 31)))).trans (congrArg (fun z => s9_known z m_known_42) ((cm9_facts_came _ m_came_42 (m_facts_56 ||| (1 <<< (((nI i9_56) + 10) &&& 31)))).trans (congrArg (fun z => s9_came z m_came_42) (ss9_facts _ m_facts_56 (m_facts_56 ||| (1 <<< (((nI i9_56) + 10) &&& 31))))))))))))] at hP hD
                        exact ih56 ((x6_56 * 1103515245) + 12345) (i9_56 + 1) (m_facts_56 ||| (1 <<< (((nI i9_56) + 10) &&& 31))) _ _ _ (by first | assumption | omega) (by omega) hE hP hD hS (lv_sub hl [3, 4, 5, 6, 7, 2, 8, 9, 0] rfl)
                    · have hE := hE.trans (if_pos c96)
                      refine lv_iconst (v := 1) hx hb dX9_lots_99 (by decide) ?_
                      refine lv_iload hx hb dX9_lots_100 (lv_at hl 9 rfl) ?_
                      refine lv_ishl hx hb dX9_lots_102 ?_
                      refine lv_goto (tgt := 123) hx hb dX9_lots_103 (by decide) ?_
                      refine lv_ior hx hb dX9_lots_123 ?_
                      refine zp9_facts (bs1 := [w9 G am (s9_facts (s9_rounds (s9_fresh (s9_known (s9_came (s9_facts bm m_facts_56) m_came_42) m_known_42) m_fresh_42) m_rounds_42) (m_facts_56 ||| (1 <<< ((nI i9_56) &&& 31))))]) S in_X9_lots_9 hK hP hD hS 0 rfl (List.mem_of_getElem? (i := 1) rfl) dX9_lots_124 rfl (fun H locs hP hD hS => ?_)
                      refine lv_iinc (v := (nI (i9_56 + 1))) (lv' := [(9, .int (nI (i9_56 + 1))), (10, .int (((((x6_56 * 1103515245) + 12345) &&& 2147483647) / 65536) - ((((x6_56 * 1103515245) + 12345) &&& 2147483647) / 65536) / 3 * 3)), (6, .int ((x6_56 * 1103515245) + 12345)), (0, .ref (am 0)), (1, .int x1), (2, .int x2), (3, .int x3), (5, .int (g9_facts bm)), (7, .int x7_42), (8, .int (nI i8_42))]) hx hb dX9_lots_127 hl (k := 9) rfl (nI_1 i9_56) (by decide) rfl (fun ls hl => ?_)
                      try rw [nI_1 i9_56] at hE
                      refine lv_goto (tgt := 56) hx hb dX9_lots_130 (by decide) ?_
                      rw [show (s9_facts (s9_rounds (s9_fresh (s9_known (s9_came (s9_facts bm m_facts_56) m_came_42) m_known_42) m_fresh_42) m_rounds_42) (m_facts_56 ||| (1 <<< ((nI i9_56) &&& 31)))) = (s9_rounds (s9_fresh (s9_known (s9_came (s9_facts bm (m_facts_56 ||| (1 <<< ((nI i9_56) &&& 31)))) m_came_42) m_known_42) m_fresh_42) m_rounds_42) from ((cm9_facts_rounds _ m_rounds_42 (m_facts_56 ||| (1 <<< ((nI i9_56) &&& 31)))).trans (congrArg (fun z => s9_rounds z m_rounds_42) ((cm9_facts_fresh _ m_fresh_42 (m_facts_56 ||| (1 <<< ((nI i9_56) &&& 31)))).trans (congrArg (fun z => s9_fresh z m_fresh_42) ((cm9_facts_known _ m_known_42 (m_facts_56 ||| (1 <<< ((nI i9_56) &&& 31)))).trans (congrArg (fun z => s9_known z m_known_42) ((cm9_facts_came _ m_came_42 (m_facts_56 ||| (1 <<< ((nI i9_56) &&& 31)))).trans (congrArg (fun z => s9_came z m_came_42) (ss9_facts _ m_facts_56 (m_facts_56 ||| (1 <<< ((nI i9_56) &&& 31))))))))))))] at hP hD
                      exact ih56 ((x6_56 * 1103515245) + 12345) (i9_56 + 1) (m_facts_56 ||| (1 <<< ((nI i9_56) &&& 31))) _ _ _ (by first | assumption | omega) (by omega) hE hP hD hS (lv_sub hl [3, 4, 5, 6, 7, 2, 8, 9, 0] rfl)
              refine lv_istore (lv' := [(9, .int 0), (0, .ref (am 0)), (1, .int x1), (2, .int x2), (3, .int x3), (5, .int (g9_facts bm)), (6, .int x6_42), (7, .int x7_42), (8, .int (nI i8_42))]) hx hb dX9_lots_54 hl (by decide) rfl (fun ls hl => ?_)
              rw [show (s9_facts (s9_rounds (s9_fresh (s9_known (s9_came (s9_facts bm m_facts_42) m_came_42) m_known_42) m_fresh_42) m_rounds_42) 0) = (s9_rounds (s9_fresh (s9_known (s9_came (s9_facts bm 0) m_came_42) m_known_42) m_fresh_42) m_rounds_42) from ((cm9_facts_rounds _ m_rounds_42 0).trans (congrArg (fun z => s9_rounds z m_rounds_42) ((cm9_facts_fresh _ m_fresh_42 0).trans (congrArg (fun z => s9_fresh z m_fresh_42) ((cm9_facts_known _ m_known_42 0).trans (congrArg (fun z => s9_known z m_known_42) ((cm9_facts_came _ m_came_42 0).trans (congrArg (fun z => s9_came z m_came_42) (ss9_facts _ m_facts_42 0)))))))))] at hP hD
              exact hB56 11 x6_42 0 0 _ _ _ (by first | assumption | omega) (by omega) hE hP hD hS (lv_sub hl [1, 2, 3, 4, 5, 6, 7, 8, 0] rfl)
        refine lv_istore (lv' := [(8, .int 0), (7, .int 0), (6, .int x4), (5, .int (g9_facts bm)), (0, .ref (am 0)), (1, .int x1), (2, .int x2), (3, .int x3), (4, .int x4)]) hx hb dX9_lots_40 hl (by decide) rfl (fun ls hl => ?_)
        rw [show bm = (s9_rounds (s9_fresh (s9_known (s9_came (s9_facts bm (g9_facts bm)) (g9_came bm)) (g9_known bm)) (g9_fresh bm)) (g9_rounds bm)) from ((((((se9_facts _).symm).trans (((se9_came _).symm).trans (congrArg (fun v => s9_came (s9_facts bm (g9_facts bm)) v) (gs9_came_facts _ (g9_facts bm))))).trans (((se9_known _).symm).trans (congrArg (fun v => s9_known (s9_came (s9_facts bm (g9_facts bm)) (g9_came bm)) v) ((gs9_known_came _ (g9_came bm)).trans (gs9_known_facts _ (g9_facts bm)))))).trans (((se9_fresh _).symm).trans (congrArg (fun v => s9_fresh (s9_known (s9_came (s9_facts bm (g9_facts bm)) (g9_came bm)) (g9_known bm)) v) ((gs9_fresh_known _ (g9_known bm)).trans ((gs9_fresh_came _ (g9_came bm)).trans (gs9_fresh_facts _ (g9_facts bm))))))).trans (((se9_rounds _).symm).trans (congrArg (fun v => s9_rounds (s9_fresh (s9_known (s9_came (s9_facts bm (g9_facts bm)) (g9_came bm)) (g9_known bm)) (g9_fresh bm)) v) ((gs9_rounds_fresh _ (g9_fresh bm)).trans ((gs9_rounds_known _ (g9_known bm)).trans ((gs9_rounds_came _ (g9_came bm)).trans (gs9_rounds_facts _ (g9_facts bm))))))))] at hP hD
        exact hB42 13 x4 0 0 (g9_facts bm) (g9_came bm) (g9_known bm) (g9_fresh bm) (g9_rounds bm) _ _ _ (by first | assumption | omega) (by omega) hE hP hD hS (lv_sub hl [4, 5, 6, 7, 3, 2, 1, 0] rfl)
      · have hE := hE.trans (if_pos c21)
        refine lv_iconst (v := (-1)) hx hb dX9_lots_24 (by decide) ?_
        rw [show bm = (s9_rounds (s9_fresh (s9_known (s9_came (s9_facts bm (g9_facts bm)) (g9_came bm)) (g9_known bm)) (g9_fresh bm)) (g9_rounds bm)) from ((((((se9_facts _).symm).trans (((se9_came _).symm).trans (congrArg (fun v => s9_came (s9_facts bm (g9_facts bm)) v) (gs9_came_facts _ (g9_facts bm))))).trans (((se9_known _).symm).trans (congrArg (fun v => s9_known (s9_came (s9_facts bm (g9_facts bm)) (g9_came bm)) v) ((gs9_known_came _ (g9_came bm)).trans (gs9_known_facts _ (g9_facts bm)))))).trans (((se9_fresh _).symm).trans (congrArg (fun v => s9_fresh (s9_known (s9_came (s9_facts bm (g9_facts bm)) (g9_came bm)) (g9_known bm)) v) ((gs9_fresh_known _ (g9_known bm)).trans ((gs9_fresh_came _ (g9_came bm)).trans (gs9_fresh_facts _ (g9_facts bm))))))).trans (((se9_rounds _).symm).trans (congrArg (fun v => s9_rounds (s9_fresh (s9_known (s9_came (s9_facts bm (g9_facts bm)) (g9_came bm)) (g9_known bm)) (g9_fresh bm)) v) ((gs9_rounds_fresh _ (g9_fresh bm)).trans ((gs9_rounds_known _ (g9_known bm)).trans ((gs9_rounds_came _ (g9_came bm)).trans (gs9_rounds_facts _ (g9_facts bm))))))))] at hP hD
        exact hret _ _ _ _ _ _ (by subst hE; rfl) rfl hP hS dX9_lots_25

def rmX9_isList : Room := { frames := 1, cells := 0, slots := 0, locals := 22 }
set_option maxHeartbeats 4000000 in
set_option maxRecDepth 100000 in
theorem c_X9_isList (l : Launch) (G : zG) (x0 : Int32) (T : Int32) (hT : FX9_isList x0 = T) : zR l yX9_isList wsX9_isList rmX9_isList .boolean G [.int x0] [] T := by
  refine zR.mk (cc := cX9_isList) (maxL := 1) (by decide +kernel) rfl (Nat.le_of_ble_eq_true rfl) ?_
  intro p e s m args below meth c Q A ls S hK hD hA hP hl hret
  have hx := S.1
  have hb := S.2.1
  have hl : lv_has ls 1 [(0, .int x0)] := hl
  have hE := hT.symm.trans (FX9_isList.eq_1 _)
  refine lv_iload_n hx hb dX9_isList_0 rfl (lv_at hl 0 rfl) ?_
  refine lv_iconst (v := 0) hx hb dX9_isList_1 (by decide) ?_
  refine lv_iconst (v := 3) hx hb dX9_isList_2 (by decide) ?_
  obtain ⟨t3, ht3⟩ : ∃ z, FX9_in x0 0 3 = z := ⟨_, rfl⟩
  have hE := hE.trans (bnd_eq ht3)
  have hc := c_X9_in l G x0 0 3 _ ht3
  refine zgoR (va_runS (As := [.int x0, .int 0, .int 3]) (rest := []) S (hc _) (va_cwS 3 S.2.2.2.2 gX9_isList_X9_in rfl rfl rfl (by decide +kernel) ⟨Nat.le_of_ble_eq_true rfl, Nat.le_of_ble_eq_true rfl⟩) (zpS hK hP hD (is := []) rfl rfl) rfl rfl hl.1 rfl (lv_room (Nat.le_of_ble_eq_true rfl)) dX9_isList_3 ⟨Nat.zero_le _, Nat.zero_le _⟩) (fun hn3 => ?_)
  exact hret _ _ _ hE hn3 dX9_isList_6

theorem zisList9 {x : Int32} (c : ¬ FX9_isList x = 0) : vp_in x 4 := zguard9 (k := 3) (N := 3) rfl (by decide) c

theorem in_X9_judge_9 : ∀ w ∈ u_ws RX9 TX9 40, w ∈ wsX9_judge := by decide +kernel
def rmX9_judge : Room := { frames := 7, cells := 0, slots := 0, locals := 155 }
set_option maxHeartbeats 4000000 in
set_option maxRecDepth 100000 in
theorem c_X9_judge (l : Launch) (G : zG) (am : Nat → Nat) (bm : S9) (x1 : Int32) (x2 : Int32) (x3 : Int32) (hsz : ∀ t : Nat, t < 4 → g9_size bm t = -1 ∨ ∃ N : Nat, N ≤ 24 ∧ g9_size bm t = nI N) (hz_m_rules : ∃ N : Nat, N ≤ 16 ∧ g9_rules bm = nI N) (T : Int32 × (Nat → Int32) × (Nat → Int32) × (Nat → Int32) × (Int32)) (hT : FX9_judge (g9_facts bm) (g9_rules bm) (g9_kind bm) (g9_head bm) (g9_body bm) (g9_except bm) (g9_strength bm) (g9_off bm) (g9_over bm) (g9_size bm) (g9_told bm) (g9_came bm) (g9_known bm) (g9_fresh bm) (g9_rounds bm) x1 x2 x3 = T) : zI l yX9_judge wsX9_judge rmX9_judge .int G [.ref (am 0), .int x1, .int x2, .int x3] [w9 G am bm] T.1 [w9 G am (s9_rounds (s9_fresh (s9_known (s9_came bm T.2.1) T.2.2.1) T.2.2.2.1) T.2.2.2.2)] := by
  refine zI.mk (cc := cX9_judge) (maxL := 5) (by decide +kernel) rfl (Nat.le_of_ble_eq_true rfl) (zfl_cons (wf9 _ _ _ _) rfl) ?_
  intro p e s m args below meth c Q A ls S hK hD hA hP hl hret
  have hx := S.1
  have hb := S.2.1
  have hS : va_S A s.heap s.heap [] := va_S.rf
  have hl : lv_has ls 5 [(0, .ref (am 0)), (1, .int x1), (2, .int x2), (3, .int x3)] := hl
  have hE := hT.symm.trans (FX9_judge.eq_1 _ _ _ _ _ _ _ _ _ _ _ _ _ _ _ _ _ _)
  refine lv_iload_n hx hb dX9_judge_0 rfl (lv_at hl 1 rfl) ?_
  obtain ⟨t1, ht1⟩ : ∃ z, FX9_isList x1 = z := ⟨_, rfl⟩
  have hE := hE.trans (bnd_eq ht1)
  have hc := c_X9_isList l G x1 _ ht1
  refine zgoR (va_runS (As := [.int x1]) (rest := []) S (hc _) (va_cwS 1 S.2.2.2.2 gX9_judge_X9_isList rfl rfl rfl (by decide +kernel) ⟨Nat.le_of_ble_eq_true rfl, Nat.le_of_ble_eq_true rfl⟩) (zpS hK hP hD (is := []) rfl rfl) rfl rfl hl.1 rfl (lv_room (Nat.le_of_ble_eq_true rfl)) dX9_judge_1 ⟨Nat.zero_le _, Nat.zero_le _⟩) (fun hn1 => ?_)
  refine lv_if_eq (tgt := 18) hx hb dX9_judge_4 (by decide) (fun c4 => ?_) (fun c4 => ?_)
  · have hE := hE.trans (if_pos c4)
    refine lv_iconst (v := (-1)) hx hb dX9_judge_18 (by decide) ?_
    rw [show bm = (s9_rounds (s9_fresh (s9_known (s9_came bm (g9_came bm)) (g9_known bm)) (g9_fresh bm)) (g9_rounds bm)) from (((((se9_came _).symm).trans (((se9_known _).symm).trans (congrArg (fun v => s9_known (s9_came bm (g9_came bm)) v) (gs9_known_came _ (g9_came bm))))).trans (((se9_fresh _).symm).trans (congrArg (fun v => s9_fresh (s9_known (s9_came bm (g9_came bm)) (g9_known bm)) v) ((gs9_fresh_known _ (g9_known bm)).trans (gs9_fresh_came _ (g9_came bm)))))).trans (((se9_rounds _).symm).trans (congrArg (fun v => s9_rounds (s9_fresh (s9_known (s9_came bm (g9_came bm)) (g9_known bm)) (g9_fresh bm)) v) ((gs9_rounds_fresh _ (g9_fresh bm)).trans ((gs9_rounds_known _ (g9_known bm)).trans (gs9_rounds_came _ (g9_came bm)))))))] at hP hD
    exact hret _ _ _ _ _ _ (by subst hE; rfl) rfl hP hS dX9_judge_19
  · have hE := hE.trans (if_neg c4)
    have hx1_4 : vp_in x1 4 := zisList9 (by rw [ht1]; exact c4)
    refine lv_iload_n hx hb dX9_judge_7 rfl (lv_at hl 3 rfl) ?_
    obtain ⟨t8, ht8⟩ : ∃ z, FX9_isTag x3 = z := ⟨_, rfl⟩
    have hE := hE.trans (bnd_eq ht8)
    have hc := c_X9_isTag l G x3 _ ht8
    refine zgoR (va_runS (As := [.int x3]) (rest := []) S (hc _) (va_cwS 1 S.2.2.2.2 gX9_judge_X9_isTag rfl rfl rfl (by decide +kernel) ⟨Nat.le_of_ble_eq_true rfl, Nat.le_of_ble_eq_true rfl⟩) (zpS hK hP hD (is := []) rfl rfl) rfl rfl hl.1 rfl (lv_room (Nat.le_of_ble_eq_true rfl)) dX9_judge_8 ⟨Nat.zero_le _, Nat.zero_le _⟩) (fun hn8 => ?_)
    refine lv_if_eq (tgt := 18) hx hb dX9_judge_11 (by decide) (fun c11 => ?_) (fun c11 => ?_)
    · have hE := hE.trans (if_pos c11)
      refine lv_iconst (v := (-1)) hx hb dX9_judge_18 (by decide) ?_
      rw [show bm = (s9_rounds (s9_fresh (s9_known (s9_came bm (g9_came bm)) (g9_known bm)) (g9_fresh bm)) (g9_rounds bm)) from (((((se9_came _).symm).trans (((se9_known _).symm).trans (congrArg (fun v => s9_known (s9_came bm (g9_came bm)) v) (gs9_known_came _ (g9_came bm))))).trans (((se9_fresh _).symm).trans (congrArg (fun v => s9_fresh (s9_known (s9_came bm (g9_came bm)) (g9_known bm)) v) ((gs9_fresh_known _ (g9_known bm)).trans (gs9_fresh_came _ (g9_came bm)))))).trans (((se9_rounds _).symm).trans (congrArg (fun v => s9_rounds (s9_fresh (s9_known (s9_came bm (g9_came bm)) (g9_known bm)) (g9_fresh bm)) v) ((gs9_rounds_fresh _ (g9_fresh bm)).trans ((gs9_rounds_known _ (g9_known bm)).trans (gs9_rounds_came _ (g9_came bm)))))))] at hP hD
      exact hret _ _ _ _ _ _ (by subst hE; rfl) rfl hP hS dX9_judge_19
    · have hE := hE.trans (if_neg c11)
      have hx3_4 : vp_in x3 4 := zisTag9 (by rw [ht8]; exact c11)
      refine lv_iload_n hx hb dX9_judge_14 rfl (lv_at hl 2 rfl) ?_
      refine lv_if_ge (tgt := 20) hx hb dX9_judge_15 (by decide) (fun c15 => ?_) (fun c15 => ?_)
      · have hE := hE.trans (if_pos c15)
        refine lv_aload_n hx hb dX9_judge_20 rfl (lv_at hl 0 rfl) ?_
        refine zg9_size S in_X9_judge_9 hK hP 0 rfl (List.mem_of_getElem? (i := 1) rfl) dX9_judge_21 ?_
        refine lv_iload_n hx hb dX9_judge_24 rfl (lv_at hl 1 rfl) ?_
        refine zl9_size S hK hP 0 rfl hx1_4 (f := (g9_size bm)) rfl dX9_judge_25 ?_
        refine lv_if_ge (tgt := 32) hx hb dX9_judge_26 (by decide) (fun c26 => ?_) (fun c26 => ?_)
        · have hE := hE.trans (if_pos c26)
          refine lv_aload_n hx hb dX9_judge_32 rfl (lv_at hl 0 rfl) ?_
          obtain ⟨t33, ht33⟩ : ∃ z, FX9_tags (g9_facts bm) (g9_rules bm) (g9_kind bm) (g9_head bm) (g9_body bm) (g9_except bm) (g9_strength bm) (g9_off bm) (g9_over bm) (g9_came bm) (g9_known bm) (g9_fresh bm) (g9_rounds bm) = z := ⟨_, rfl⟩
          have hE := hE.trans (bnd_eq ht33)
          have hc := c_X9_tags l G am bm (hz_m_rules) _ ht33
          refine zgoV (bs' := [w9 G am (s9_rounds (s9_fresh (s9_known (s9_came bm t33.1) t33.2.1) t33.2.2.1) t33.2.2.2)]) hc [0] rfl rfl rfl hP hD hS hA (va_runV (As := []) (rest := []) S (hc.2 _) (cwV 0 S.2.2.2.2 gX9_judge_X9_tags rfl rfl rfl (by decide +kernel) ⟨Nat.le_of_ble_eq_true rfl, Nat.le_of_ble_eq_true rfl⟩) (zpV hK hP hD (is := [0]) rfl rfl 0 rfl rfl (ci := 9) rfl) rfl rfl hl.1 rfl (lv_room (Nat.le_of_ble_eq_true rfl)) dX9_judge_33 ⟨Nat.zero_le _, Nat.zero_le _⟩) (fun H locs hP hD hS => ?_)
          refine lv_iconst (v := 0) hx hb dX9_judge_36 (by decide) ?_
          have hB107 : ∀ (H : Heap) (locs : List Loc) (ls : Array Slot), T = FX9_judge_107 (g9_facts bm) (g9_rules bm) (g9_kind bm) (g9_head bm) (g9_body bm) (g9_except bm) (g9_strength bm) (g9_off bm) (g9_over bm) (g9_size bm) (g9_told bm) (g9_came bm) (g9_known bm) (g9_fresh bm) (g9_rounds bm) x1 x2 x3 t33.1 t33.2.1 t33.2.2.1 t33.2.2.2 → zP G [w9 G am (s9_rounds (s9_fresh (s9_known (s9_came bm t33.1) t33.2.1) t33.2.2.1) t33.2.2.2)] H → zD A [w9 G am (s9_rounds (s9_fresh (s9_known (s9_came bm t33.1) t33.2.1) t33.2.2.1) t33.2.2.2)] → va_S A s.heap H locs → lv_has ls 5 [] → W p l e rmX9_judge s m args below meth c H locs 0 0 Q (F0 m 107 ls []) := by
            intro H locs ls hE hP hD hS hl
            have hE := hE.trans (FX9_judge_107.eq_1 _ _ _ _ _ _ _ _ _ _ _ _ _ _ _ _ _ _ _ _ _ _)
            refine lv_bipush (v := (-2)) hx hb dX9_judge_107 (by decide) ?_
            exact hret _ _ _ _ _ _ (by subst hE; rfl) rfl hP hS dX9_judge_109
          have hB39 : ∀ (n39 : Nat) (i4_39 : Nat) (H : Heap) (locs : List Loc) (ls : Array Slot), (i4_39 ≤ 20) → 21 ≤ i4_39 + n39 → T = FX9_judge_39 (g9_facts bm) (g9_rules bm) (g9_kind bm) (g9_head bm) (g9_body bm) (g9_except bm) (g9_strength bm) (g9_off bm) (g9_over bm) (g9_size bm) (g9_told bm) (g9_came bm) (g9_known bm) (g9_fresh bm) (g9_rounds bm) x1 x2 x3 (FX9_judge_107 (g9_facts bm) (g9_rules bm) (g9_kind bm) (g9_head bm) (g9_body bm) (g9_except bm) (g9_strength bm) (g9_off bm) (g9_over bm) (g9_size bm) (g9_told bm) (g9_came bm) (g9_known bm) (g9_fresh bm) (g9_rounds bm) x1 x2 x3) n39 (nI i4_39) t33.1 t33.2.1 t33.2.2.1 t33.2.2.2 → zP G [w9 G am (s9_rounds (s9_fresh (s9_known (s9_came bm t33.1) t33.2.1) t33.2.2.1) t33.2.2.2)] H → zD A [w9 G am (s9_rounds (s9_fresh (s9_known (s9_came bm t33.1) t33.2.1) t33.2.2.1) t33.2.2.2)] → va_S A s.heap H locs → lv_has ls 5 [(0, .ref (am 0)), (1, .int x1), (2, .int x2), (3, .int x3), (4, .int (nI i4_39))] → W p l e rmX9_judge s m args below meth c H locs 0 0 Q (F0 m 39 ls []) := by
            intro n39
            induction n39 with
            | zero =>
              intro i4_39 H locs ls hi4_39 hn hE hP hD hS hl
              exact absurd hn (by omega)
            | succ n39 ih39 =>
              intro i4_39 H locs ls hi4_39 hn hE hP hD hS hl
              have hE := hE.trans (FX9_judge_39.eq_2 _ _ _ _ _ _ _ _ _ _ _ _ _ _ _ _ _ _ _ _ _ _ _ _ _)
              refine lv_iload hx hb dX9_judge_39 (lv_at hl 4 rfl) ?_
              refine lv_bipush (v := 20) hx hb dX9_judge_41 (by decide) ?_
              refine lv_icmp_ge (tgt := 107) hx hb dX9_judge_43 (by decide) (fun c43 => ?_) (fun c43 => ?_)
              · have hE := hE.trans (if_pos c43)
                exact hB107 _ _ _ hE hP hD hS (lv_sub hl [] rfl)
              · have hE := hE.trans (if_neg c43)
                have hl4_39 : i4_39 < 20 := zlt (N := 20) rfl (by omega) (by omega) c43
                refine lv_iload_n hx hb dX9_judge_46 rfl (lv_at hl 2 rfl) ?_
                refine lv_i2l (v := x2.toInt64) hx hb dX9_judge_47 rfl ?_
                refine lv_iload hx hb dX9_judge_48 (lv_at hl 4 rfl) ?_
                refine lv_i2l (v := ((nI i4_39).toInt64)) hx hb dX9_judge_50 rfl ?_
                refine lv_ladd hx hb dX9_judge_51 ?_
                refine lv_aload_n hx hb dX9_judge_52 rfl (lv_at hl 0 rfl) ?_
                refine zg9_size S in_X9_judge_9 hK hP 0 rfl (List.mem_of_getElem? (i := 1) rfl) dX9_judge_53 ?_
                refine lv_iload_n hx hb dX9_judge_56 rfl (lv_at hl 1 rfl) ?_
                refine zl9_size S hK hP 0 rfl hx1_4 (f := (g9_size bm)) ((gs9_size_rounds _ t33.2.2.2).trans ((gs9_size_fresh _ t33.2.2.1).trans ((gs9_size_known _ t33.2.1).trans (gs9_size_came _ t33.1)))) dX9_judge_57 ?_
                refine lv_i2l (v := (((g9_size bm) x1.toNatClampNeg).toInt64)) hx hb dX9_judge_58 rfl ?_
                refine W.lcmp hx hb dX9_judge_59 ?_
                refine lv_if_lt (tgt := 69) hx hb dX9_judge_60 (by decide) (fun c60 => ?_) (fun c60 => ?_)
                · have hE := hE.trans (if_pos c60)
                  refine lv_aload_n hx hb dX9_judge_69 rfl (lv_at hl 0 rfl) ?_
                  refine zg9_told S in_X9_judge_9 hK hP 0 rfl (List.mem_of_getElem? (i := 2) rfl) dX9_judge_70 ?_
                  refine lv_bipush (v := 24) hx hb dX9_judge_73 (by decide) ?_
                  refine lv_iload_n hx hb dX9_judge_75 rfl (lv_at hl 1 rfl) ?_
                  refine lv_imul hx hb dX9_judge_76 ?_
                  refine lv_iload_n hx hb dX9_judge_77 rfl (lv_at hl 2 rfl) ?_
                  refine lv_iadd hx hb dX9_judge_78 ?_
                  refine lv_iload hx hb dX9_judge_79 (lv_at hl 4 rfl) ?_
                  refine lv_iadd hx hb dX9_judge_81 ?_
                  refine zl9_told S hK hP 0 rfl (zj82 hsz (by assumption) c15 (by omega) c60) (f := (g9_told bm)) ((gs9_told_rounds _ t33.2.2.2).trans ((gs9_told_fresh _ t33.2.2.1).trans ((gs9_told_known _ t33.2.1).trans (gs9_told_came _ t33.1)))) dX9_judge_82 ?_
                  refine lv_aload_n hx hb dX9_judge_83 rfl (lv_at hl 0 rfl) ?_
                  refine zg9_came S in_X9_judge_9 hK hP 0 rfl (List.mem_of_getElem? (i := 3) rfl) dX9_judge_84 ?_
                  refine lv_bipush (v := 20) hx hb dX9_judge_87 (by decide) ?_
                  refine lv_iload_n hx hb dX9_judge_89 rfl (lv_at hl 3 rfl) ?_
                  refine lv_imul hx hb dX9_judge_90 ?_
                  refine lv_iload hx hb dX9_judge_91 (lv_at hl 4 rfl) ?_
                  refine lv_iadd hx hb dX9_judge_93 ?_
                  refine zl9_came S hK hP 0 rfl (zlinL 20 rfl (A := 4) (B := 20) (by assumption) (vp_in_nI (by omega) (by omega)) (by decide) (by decide) (by decide) (by decide)) (f := t33.1) ((gs9_came_rounds _ t33.2.2.2).trans ((gs9_came_fresh _ t33.2.2.1).trans ((gs9_came_known _ t33.2.1).trans (gg9_came _ t33.1)))) dX9_judge_94 ?_
                  refine lv_icmp_eq (tgt := 101) hx hb dX9_judge_95 (by decide) (fun c95 => ?_) (fun c95 => ?_)
                  · have hE := hE.trans (if_pos c95)
                    refine lv_iinc (v := (nI (i4_39 + 1))) (lv' := [(4, .int (nI (i4_39 + 1))), (0, .ref (am 0)), (1, .int x1), (2, .int x2), (3, .int x3)]) hx hb dX9_judge_101 hl (k := 4) rfl (nI_1 i4_39) (by decide) rfl (fun ls hl => ?_)
                    try rw [nI_1 i4_39] at hE
                    refine lv_goto (tgt := 39) hx hb dX9_judge_104 (by decide) ?_
                    exact ih39 (i4_39 + 1) _ _ _ (by first | assumption | omega) (by omega) hE hP hD hS (lv_sub hl [1, 2, 3, 4, 0] rfl)
                  · have hE := hE.trans (if_neg c95)
                    refine lv_iload hx hb dX9_judge_98 (lv_at hl 4 rfl) ?_
                    exact hret _ _ _ _ _ _ (by subst hE; rfl) rfl hP hS dX9_judge_100
                · have hE := hE.trans (if_neg c60)
                  refine lv_bipush (v := 100) hx hb dX9_judge_63 (by decide) ?_
                  refine lv_iload hx hb dX9_judge_65 (lv_at hl 4 rfl) ?_
                  refine lv_iadd hx hb dX9_judge_67 ?_
                  exact hret _ _ _ _ _ _ (by subst hE; rfl) rfl hP hS dX9_judge_68
          refine lv_istore (lv' := [(4, .int 0), (0, .ref (am 0)), (1, .int x1), (2, .int x2), (3, .int x3)]) hx hb dX9_judge_37 hl (by decide) rfl (fun ls hl => ?_)
          exact hB39 21 0 _ _ _ (by first | assumption | omega) (by omega) hE hP hD hS (lv_sub hl [1, 2, 3, 4, 0] rfl)
        · have hE := hE.trans (if_neg c26)
          refine lv_bipush (v := (-11)) hx hb dX9_judge_29 (by decide) ?_
          rw [show bm = (s9_rounds (s9_fresh (s9_known (s9_came bm (g9_came bm)) (g9_known bm)) (g9_fresh bm)) (g9_rounds bm)) from (((((se9_came _).symm).trans (((se9_known _).symm).trans (congrArg (fun v => s9_known (s9_came bm (g9_came bm)) v) (gs9_known_came _ (g9_came bm))))).trans (((se9_fresh _).symm).trans (congrArg (fun v => s9_fresh (s9_known (s9_came bm (g9_came bm)) (g9_known bm)) v) ((gs9_fresh_known _ (g9_known bm)).trans (gs9_fresh_came _ (g9_came bm)))))).trans (((se9_rounds _).symm).trans (congrArg (fun v => s9_rounds (s9_fresh (s9_known (s9_came bm (g9_came bm)) (g9_known bm)) (g9_fresh bm)) v) ((gs9_rounds_fresh _ (g9_fresh bm)).trans ((gs9_rounds_known _ (g9_known bm)).trans (gs9_rounds_came _ (g9_came bm)))))))] at hP hD
          exact hret _ _ _ _ _ _ (by subst hE; rfl) rfl hP hS dX9_judge_31
      · have hE := hE.trans (if_neg c15)
        refine lv_iconst (v := (-1)) hx hb dX9_judge_18 (by decide) ?_
        rw [show bm = (s9_rounds (s9_fresh (s9_known (s9_came bm (g9_came bm)) (g9_known bm)) (g9_fresh bm)) (g9_rounds bm)) from (((((se9_came _).symm).trans (((se9_known _).symm).trans (congrArg (fun v => s9_known (s9_came bm (g9_came bm)) v) (gs9_known_came _ (g9_came bm))))).trans (((se9_fresh _).symm).trans (congrArg (fun v => s9_fresh (s9_known (s9_came bm (g9_came bm)) (g9_known bm)) v) ((gs9_fresh_known _ (g9_known bm)).trans (gs9_fresh_came _ (g9_came bm)))))).trans (((se9_rounds _).symm).trans (congrArg (fun v => s9_rounds (s9_fresh (s9_known (s9_came bm (g9_came bm)) (g9_known bm)) (g9_fresh bm)) v) ((gs9_rounds_fresh _ (g9_fresh bm)).trans ((gs9_rounds_known _ (g9_known bm)).trans (gs9_rounds_came _ (g9_came bm)))))))] at hP hD
        exact hret _ _ _ _ _ _ (by subst hE; rfl) rfl hP hS dX9_judge_19

theorem in_X9_list_9 : ∀ w ∈ u_ws RX9 TX9 40, w ∈ wsX9_list := by decide +kernel
def rmX9_list : Room := { frames := 2, cells := 0, slots := 0, locals := 42 }
set_option maxHeartbeats 4000000 in
set_option maxRecDepth 100000 in
theorem c_X9_list (l : Launch) (G : zG) (am : Nat → Nat) (bm : S9) (x1 : Int32) (x2 : Int32) (T : Int32 × (Nat → Int32) × (Nat → Int32)) (hT : FX9_list (g9_size bm) (g9_told bm) x1 x2 = T) : zI l yX9_list wsX9_list rmX9_list .int G [.ref (am 0), .int x1, .int x2] [w9 G am bm] T.1 [w9 G am (s9_told (s9_size bm T.2.1) T.2.2)] := by
  refine zI.mk (cc := cX9_list) (maxL := 4) (by decide +kernel) rfl (Nat.le_of_ble_eq_true rfl) (zfl_cons (wf9 _ _ _ _) rfl) ?_
  intro p e s m args below meth c Q A ls S hK hD hA hP hl hret
  have hx := S.1
  have hb := S.2.1
  have hS : va_S A s.heap s.heap [] := va_S.rf
  have hl : lv_has ls 4 [(0, .ref (am 0)), (1, .int x1), (2, .int x2)] := hl
  have hE := hT.symm.trans (FX9_list.eq_1 _ _ _ _)
  refine lv_iload_n hx hb dX9_list_0 rfl (lv_at hl 1 rfl) ?_
  obtain ⟨t1, ht1⟩ : ∃ z, FX9_isList x1 = z := ⟨_, rfl⟩
  have hE := hE.trans (bnd_eq ht1)
  have hc := c_X9_isList l G x1 _ ht1
  refine zgoR (va_runS (As := [.int x1]) (rest := []) S (hc _) (va_cwS 1 S.2.2.2.2 gX9_list_X9_isList rfl rfl rfl (by decide +kernel) ⟨Nat.le_of_ble_eq_true rfl, Nat.le_of_ble_eq_true rfl⟩) (zpS hK hP hD (is := []) rfl rfl) rfl rfl hl.1 rfl (lv_room (Nat.le_of_ble_eq_true rfl)) dX9_list_1 ⟨Nat.zero_le _, Nat.zero_le _⟩) (fun hn1 => ?_)
  have hL1 : ¬ t1 = 0 → vp_in x1 4 := fun h => zisList9 (by rw [ht1]; exact h)
  refine lv_if_eq (tgt := 13) hx hb dX9_list_4 (by decide) (fun c4 => ?_) (fun c4 => ?_)
  · have hE := hE.trans (if_pos c4)
    refine lv_iconst (v := (-1)) hx hb dX9_list_13 (by decide) ?_
    rw [show bm = (s9_told (s9_size bm (g9_size bm)) (g9_told bm)) from (((se9_size _).symm).trans (((se9_told _).symm).trans (congrArg (fun v => s9_told (s9_size bm (g9_size bm)) v) (gs9_told_size _ (g9_size bm)))))] at hP hD
    exact hret _ _ _ _ _ _ (by subst hE; rfl) rfl hP hS dX9_list_14
  · have hE := hE.trans (if_neg c4)
    have hx1_4 : vp_in x1 4 := zisList9 (by rw [ht1]; exact c4)
    have hx1_4 : vp_in x1 4 := hL1 c4
    refine lv_iload_n hx hb dX9_list_7 rfl (lv_at hl 2 rfl) ?_
    refine lv_bipush (v := 24) hx hb dX9_list_8 (by decide) ?_
    refine lv_icmp_le (tgt := 15) hx hb dX9_list_10 (by decide) (fun c10 => ?_) (fun c10 => ?_)
    · have hE := hE.trans (if_pos c10)
      refine lv_iload_n hx hb dX9_list_15 rfl (lv_at hl 2 rfl) ?_
      refine lv_if_ge (tgt := 22) hx hb dX9_list_16 (by decide) (fun c16 => ?_) (fun c16 => ?_)
      · have hE := hE.trans (if_pos c16)
        refine lv_aload_n hx hb dX9_list_22 rfl (lv_at hl 0 rfl) ?_
        refine zg9_size S in_X9_list_9 hK hP 0 rfl (List.mem_of_getElem? (i := 1) rfl) dX9_list_23 ?_
        refine lv_iload_n hx hb dX9_list_26 rfl (lv_at hl 1 rfl) ?_
        refine lv_iload_n hx hb dX9_list_27 rfl (lv_at hl 2 rfl) ?_
        refine zs9_size (bs1 := [w9 G am (s9_size bm (upd (g9_size bm) x1.toNatClampNeg x2))]) S hK hP hD hS 0 rfl hx1_4 (f := (g9_size bm)) rfl dX9_list_28 rfl (fun H locs hP hD hS => ?_)
        refine lv_iconst (v := 0) hx hb dX9_list_29 (by decide) ?_
        have hB55 : ∀ (m_told_55 : Nat → Int32) (H : Heap) (locs : List Loc) (ls : Array Slot), T = FX9_list_55 (g9_size bm) (g9_told bm) x1 x2 (upd (g9_size bm) x1.toNatClampNeg x2) m_told_55 → zP G [w9 G am (s9_told (s9_size bm (upd (g9_size bm) x1.toNatClampNeg x2)) m_told_55)] H → zD A [w9 G am (s9_told (s9_size bm (upd (g9_size bm) x1.toNatClampNeg x2)) m_told_55)] → va_S A s.heap H locs → lv_has ls 4 [] → W p l e rmX9_list s m args below meth c H locs 0 0 Q (F0 m 55 ls []) := by
          intro m_told_55 H locs ls hE hP hD hS hl
          have hE := hE.trans (FX9_list_55.eq_1 _ _ _ _ _ _)
          refine lv_iconst (v := 1) hx hb dX9_list_55 (by decide) ?_
          exact hret _ _ _ _ _ _ (by subst hE; rfl) rfl hP hS dX9_list_56
        have hB31 : ∀ (n31 : Nat) (i3_31 : Nat) (m_told_31 : Nat → Int32) (H : Heap) (locs : List Loc) (ls : Array Slot), (i3_31 ≤ 24) → 25 ≤ i3_31 + n31 → T = FX9_list_31 (g9_size bm) (g9_told bm) x1 x2 (FX9_list_55 (g9_size bm) (g9_told bm) x1 x2) n31 (nI i3_31) (upd (g9_size bm) x1.toNatClampNeg x2) m_told_31 → zP G [w9 G am (s9_told (s9_size bm (upd (g9_size bm) x1.toNatClampNeg x2)) m_told_31)] H → zD A [w9 G am (s9_told (s9_size bm (upd (g9_size bm) x1.toNatClampNeg x2)) m_told_31)] → va_S A s.heap H locs → lv_has ls 4 [(0, .ref (am 0)), (1, .int x1), (3, .int (nI i3_31))] → W p l e rmX9_list s m args below meth c H locs 0 0 Q (F0 m 31 ls []) := by
          intro n31
          induction n31 with
          | zero =>
            intro i3_31 m_told_31 H locs ls hi3_31 hn hE hP hD hS hl
            exact absurd hn (by omega)
          | succ n31 ih31 =>
            intro i3_31 m_told_31 H locs ls hi3_31 hn hE hP hD hS hl
            have hE := hE.trans (FX9_list_31.eq_2 _ _ _ _ _ _ _ _ _)
            refine lv_iload_n hx hb dX9_list_31 rfl (lv_at hl 2 rfl) ?_
            refine lv_bipush (v := 24) hx hb dX9_list_32 (by decide) ?_
            refine lv_icmp_ge (tgt := 55) hx hb dX9_list_34 (by decide) (fun c34 => ?_) (fun c34 => ?_)
            · have hE := hE.trans (if_pos c34)
              exact hB55 m_told_31 _ _ _ hE hP hD hS (lv_sub hl [] rfl)
            · have hE := hE.trans (if_neg c34)
              have hl3_31 : i3_31 < 24 := zlt (N := 24) rfl (by omega) (by omega) c34
              refine lv_aload_n hx hb dX9_list_37 rfl (lv_at hl 0 rfl) ?_
              refine zg9_told S in_X9_list_9 hK hP 0 rfl (List.mem_of_getElem? (i := 2) rfl) dX9_list_38 ?_
              refine lv_bipush (v := 24) hx hb dX9_list_41 (by decide) ?_
              refine lv_iload_n hx hb dX9_list_43 rfl (lv_at hl 1 rfl) ?_
              refine lv_imul hx hb dX9_list_44 ?_
              refine lv_iload_n hx hb dX9_list_45 rfl (lv_at hl 2 rfl) ?_
              refine lv_iadd hx hb dX9_list_46 ?_
              refine lv_iconst (v := 0) hx hb dX9_list_47 (by decide) ?_
              refine zs9_told (bs1 := [w9 G am (s9_told (s9_told (s9_size bm (upd (g9_size bm) x1.toNatClampNeg x2)) m_told_31) (upd m_told_31 ((24 * x1) + (nI i3_31)).toNatClampNeg 0))]) S hK hP hD hS 0 rfl (zlinL 24 rfl hx1_4 (B := 24) (vp_in_nI (by omega) (by omega)) (by decide) (by decide) (by decide) (by decide)) (f := m_told_31) (gg9_told _ m_told_31) dX9_list_48 rfl (fun H locs hP hD hS => ?_)
              refine lv_iinc (v := (nI (i3_31 + 1))) (lv' := [(3, .int (nI (i3_31 + 1))), (0, .ref (am 0)), (1, .int x1)]) hx hb dX9_list_49 hl (k := 2) rfl (nI_1 i3_31) (by decide) rfl (fun ls hl => ?_)
              try rw [nI_1 i3_31] at hE
              refine lv_goto (tgt := 31) hx hb dX9_list_52 (by decide) ?_
              rw [show (s9_told (s9_told (s9_size bm (upd (g9_size bm) x1.toNatClampNeg x2)) m_told_31) (upd m_told_31 ((24 * x1) + (nI i3_31)).toNatClampNeg 0)) = (s9_told (s9_size bm (upd (g9_size bm) x1.toNatClampNeg x2)) (upd m_told_31 ((24 * x1) + (nI i3_31)).toNatClampNeg 0)) from (ss9_told _ m_told_31 (upd m_told_31 ((24 * x1) + (nI i3_31)).toNatClampNeg 0))] at hP hD
              exact ih31 (i3_31 + 1) (upd m_told_31 ((24 * x1) + (nI i3_31)).toNatClampNeg 0) _ _ _ (by first | assumption | omega) (by omega) hE hP hD hS (lv_sub hl [1, 2, 0] rfl)
        refine lv_istore_n (lv' := [(3, .int 0), (0, .ref (am 0)), (1, .int x1), (2, .int x2)]) hx hb dX9_list_30 rfl hl (by decide) rfl (fun ls hl => ?_)
        rw [show (s9_size bm (upd (g9_size bm) x1.toNatClampNeg x2)) = (s9_told (s9_size bm (upd (g9_size bm) x1.toNatClampNeg x2)) (g9_told bm)) from (((se9_told _).symm).trans (congrArg (fun v => s9_told (s9_size bm (upd (g9_size bm) x1.toNatClampNeg x2)) v) (gs9_told_size _ (upd (g9_size bm) x1.toNatClampNeg x2))))] at hP hD
        exact hB31 25 0 (g9_told bm) _ _ _ (by first | assumption | omega) (by omega) hE hP hD hS (lv_sub hl [1, 2, 0] rfl)
      · have hE := hE.trans (if_neg c16)
        refine lv_bipush (v := (-14)) hx hb dX9_list_19 (by decide) ?_
        rw [show bm = (s9_told (s9_size bm (g9_size bm)) (g9_told bm)) from (((se9_size _).symm).trans (((se9_told _).symm).trans (congrArg (fun v => s9_told (s9_size bm (g9_size bm)) v) (gs9_told_size _ (g9_size bm)))))] at hP hD
        exact hret _ _ _ _ _ _ (by subst hE; rfl) rfl hP hS dX9_list_21
    · have hE := hE.trans (if_neg c10)
      refine lv_iconst (v := (-1)) hx hb dX9_list_13 (by decide) ?_
      rw [show bm = (s9_told (s9_size bm (g9_size bm)) (g9_told bm)) from (((se9_size _).symm).trans (((se9_told _).symm).trans (congrArg (fun v => s9_told (s9_size bm (g9_size bm)) v) (gs9_told_size _ (g9_size bm)))))] at hP hD
      exact hret _ _ _ _ _ _ (by subst hE; rfl) rfl hP hS dX9_list_14

theorem in_X9_set_9 : ∀ w ∈ u_ws RX9 TX9 40, w ∈ wsX9_set := by decide +kernel
def rmX9_set : Room := { frames := 2, cells := 0, slots := 0, locals := 42 }
set_option maxHeartbeats 4000000 in
set_option maxRecDepth 100000 in
theorem c_X9_set (l : Launch) (G : zG) (am : Nat → Nat) (bm : S9) (x1 : Int32) (x2 : Int32) (x3 : Int32) (hsz : ∀ t : Nat, t < 4 → g9_size bm t = -1 ∨ ∃ N : Nat, N ≤ 24 ∧ g9_size bm t = nI N) (T : Int32 × (Nat → Int32)) (hT : FX9_set (g9_size bm) (g9_told bm) x1 x2 x3 = T) : zI l yX9_set wsX9_set rmX9_set .int G [.ref (am 0), .int x1, .int x2, .int x3] [w9 G am bm] T.1 [w9 G am (s9_told bm T.2)] := by
  refine zI.mk (cc := cX9_set) (maxL := 4) (by decide +kernel) rfl (Nat.le_of_ble_eq_true rfl) (zfl_cons (wf9 _ _ _ _) rfl) ?_
  intro p e s m args below meth c Q A ls S hK hD hA hP hl hret
  have hx := S.1
  have hb := S.2.1
  have hS : va_S A s.heap s.heap [] := va_S.rf
  have hl : lv_has ls 4 [(0, .ref (am 0)), (1, .int x1), (2, .int x2), (3, .int x3)] := hl
  have hE := hT.symm.trans (FX9_set.eq_1 _ _ _ _ _)
  refine lv_iload_n hx hb dX9_set_0 rfl (lv_at hl 1 rfl) ?_
  obtain ⟨t1, ht1⟩ : ∃ z, FX9_isList x1 = z := ⟨_, rfl⟩
  have hE := hE.trans (bnd_eq ht1)
  have hc := c_X9_isList l G x1 _ ht1
  refine zgoR (va_runS (As := [.int x1]) (rest := []) S (hc _) (va_cwS 1 S.2.2.2.2 gX9_set_X9_isList rfl rfl rfl (by decide +kernel) ⟨Nat.le_of_ble_eq_true rfl, Nat.le_of_ble_eq_true rfl⟩) (zpS hK hP hD (is := []) rfl rfl) rfl rfl hl.1 rfl (lv_room (Nat.le_of_ble_eq_true rfl)) dX9_set_1 ⟨Nat.zero_le _, Nat.zero_le _⟩) (fun hn1 => ?_)
  refine lv_if_ne (tgt := 9) hx hb dX9_set_4 (by decide) (fun c4 => ?_) (fun c4 => ?_)
  · have hE := hE.trans (if_neg c4)
    have hx1_4 : vp_in x1 4 := zisList9 (by rw [ht1]; exact c4)
    refine lv_aload_n hx hb dX9_set_9 rfl (lv_at hl 0 rfl) ?_
    refine zg9_size S in_X9_set_9 hK hP 0 rfl (List.mem_of_getElem? (i := 1) rfl) dX9_set_10 ?_
    refine lv_iload_n hx hb dX9_set_13 rfl (lv_at hl 1 rfl) ?_
    refine zl9_size S hK hP 0 rfl hx1_4 (f := (g9_size bm)) rfl dX9_set_14 ?_
    refine lv_if_ge (tgt := 21) hx hb dX9_set_15 (by decide) (fun c15 => ?_) (fun c15 => ?_)
    · have hE := hE.trans (if_pos c15)
      refine lv_iload_n hx hb dX9_set_21 rfl (lv_at hl 2 rfl) ?_
      refine lv_iconst (v := 0) hx hb dX9_set_22 (by decide) ?_
      refine lv_aload_n hx hb dX9_set_23 rfl (lv_at hl 0 rfl) ?_
      refine zg9_size S in_X9_set_9 hK hP 0 rfl (List.mem_of_getElem? (i := 1) rfl) dX9_set_24 ?_
      refine lv_iload_n hx hb dX9_set_27 rfl (lv_at hl 1 rfl) ?_
      refine zl9_size S hK hP 0 rfl hx1_4 (f := (g9_size bm)) rfl dX9_set_28 ?_
      refine lv_iconst (v := 1) hx hb dX9_set_29 (by decide) ?_
      refine lv_isub hx hb dX9_set_30 ?_
      obtain ⟨t31, ht31⟩ : ∃ z, FX9_in x2 0 (((g9_size bm) x1.toNatClampNeg) - 1) = z := ⟨_, rfl⟩
      have hE := hE.trans (bnd_eq ht31)
      have hc := c_X9_in l G x2 0 (((g9_size bm) x1.toNatClampNeg) - 1) _ ht31
      refine zgoR (va_runS (As := [.int x2, .int 0, .int (((g9_size bm) x1.toNatClampNeg) - 1)]) (rest := []) S (hc _) (va_cwS 3 S.2.2.2.2 gX9_set_X9_in rfl rfl rfl (by decide +kernel) ⟨Nat.le_of_ble_eq_true rfl, Nat.le_of_ble_eq_true rfl⟩) (zpS hK hP hD (is := []) rfl rfl) rfl rfl hl.1 rfl (lv_room (Nat.le_of_ble_eq_true rfl)) dX9_set_31 ⟨Nat.zero_le _, Nat.zero_le _⟩) (fun hn31 => ?_)
      refine lv_if_ne (tgt := 40) hx hb dX9_set_34 (by decide) (fun c34 => ?_) (fun c34 => ?_)
      · have hE := hE.trans (if_neg c34)
        refine lv_aload_n hx hb dX9_set_40 rfl (lv_at hl 0 rfl) ?_
        refine zg9_told S in_X9_set_9 hK hP 0 rfl (List.mem_of_getElem? (i := 2) rfl) dX9_set_41 ?_
        refine lv_bipush (v := 24) hx hb dX9_set_44 (by decide) ?_
        refine lv_iload_n hx hb dX9_set_46 rfl (lv_at hl 1 rfl) ?_
        refine lv_imul hx hb dX9_set_47 ?_
        refine lv_iload_n hx hb dX9_set_48 rfl (lv_at hl 2 rfl) ?_
        refine lv_iadd hx hb dX9_set_49 ?_
        refine lv_iload_n hx hb dX9_set_50 rfl (lv_at hl 3 rfl) ?_
        refine zs9_told (bs1 := [w9 G am (s9_told bm (upd (g9_told bm) ((24 * x1) + x2).toNatClampNeg x3))]) S hK hP hD hS 0 rfl (zset9 hsz (by assumption) (by rw [ht31]; exact c34)) (f := (g9_told bm)) rfl dX9_set_51 rfl (fun H locs hP hD hS => ?_)
        refine lv_iconst (v := 1) hx hb dX9_set_52 (by decide) ?_
        exact hret _ _ _ _ _ _ (by subst hE; rfl) rfl hP hS dX9_set_53
      · have hE := hE.trans (if_pos c34)
        refine lv_bipush (v := (-13)) hx hb dX9_set_37 (by decide) ?_
        rw [show bm = (s9_told bm (g9_told bm)) from ((se9_told _).symm)] at hP hD
        exact hret _ _ _ _ _ _ (by subst hE; rfl) rfl hP hS dX9_set_39
    · have hE := hE.trans (if_neg c15)
      refine lv_bipush (v := (-11)) hx hb dX9_set_18 (by decide) ?_
      rw [show bm = (s9_told bm (g9_told bm)) from ((se9_told _).symm)] at hP hD
      exact hret _ _ _ _ _ _ (by subst hE; rfl) rfl hP hS dX9_set_20
  · have hE := hE.trans (if_pos c4)
    refine lv_iconst (v := (-1)) hx hb dX9_set_7 (by decide) ?_
    rw [show bm = (s9_told bm (g9_told bm)) from ((se9_told _).symm)] at hP hD
    exact hret _ _ _ _ _ _ (by subst hE; rfl) rfl hP hS dX9_set_8

theorem in_X9_get_9 : ∀ w ∈ u_ws RX9 TX9 40, w ∈ wsX9_get := by decide +kernel
def rmX9_get : Room := { frames := 2, cells := 0, slots := 0, locals := 42 }
set_option maxHeartbeats 4000000 in
set_option maxRecDepth 100000 in
theorem c_X9_get (l : Launch) (G : zG) (am : Nat → Nat) (bm : S9) (x1 : Int32) (x2 : Int32) (hsz : ∀ t : Nat, t < 4 → g9_size bm t = -1 ∨ ∃ N : Nat, N ≤ 24 ∧ g9_size bm t = nI N) (T : Int64) (hT : FX9_get (g9_size bm) (g9_told bm) x1 x2 = T) : zL l yX9_get wsX9_get rmX9_get G [.ref (am 0), .int x1, .int x2] [w9 G am bm] T := by
  refine zL.mk (cc := cX9_get) (maxL := 3) (by decide +kernel) rfl (Nat.le_of_ble_eq_true rfl) ?_
  intro p e s m args below meth c Q A ls S hK hD hA hP hl hret
  have hx := S.1
  have hb := S.2.1
  have hl : lv_has ls 3 [(0, .ref (am 0)), (1, .int x1), (2, .int x2)] := hl
  have hE := hT.symm.trans (FX9_get.eq_1 _ _ _ _)
  refine lv_iload_n hx hb dX9_get_0 rfl (lv_at hl 1 rfl) ?_
  obtain ⟨t1, ht1⟩ : ∃ z, FX9_isList x1 = z := ⟨_, rfl⟩
  have hE := hE.trans (bnd_eq ht1)
  have hc := c_X9_isList l G x1 _ ht1
  refine zgoR (va_runS (As := [.int x1]) (rest := []) S (hc _) (va_cwS 1 S.2.2.2.2 gX9_get_X9_isList rfl rfl rfl (by decide +kernel) ⟨Nat.le_of_ble_eq_true rfl, Nat.le_of_ble_eq_true rfl⟩) (zpS hK hP hD (is := []) rfl rfl) rfl rfl hl.1 rfl (lv_room (Nat.le_of_ble_eq_true rfl)) dX9_get_1 ⟨Nat.zero_le _, Nat.zero_le _⟩) (fun hn1 => ?_)
  refine lv_if_eq (tgt := 38) hx hb dX9_get_4 (by decide) (fun c4 => ?_) (fun c4 => ?_)
  · have hE := hE.trans (if_pos c4)
    refine lv_ldc2 (v := (-9223372036854775808)) hx hb S.2.2.2.1 (S.2.2.2.2 _ (List.mem_of_getElem? (i := 3) rfl)) dX9_get_38 ?_
    exact hret _ _ _ hE dX9_get_41
  · have hE := hE.trans (if_neg c4)
    have hx1_4 : vp_in x1 4 := zisList9 (by rw [ht1]; exact c4)
    refine lv_iload_n hx hb dX9_get_7 rfl (lv_at hl 2 rfl) ?_
    refine lv_iconst (v := 0) hx hb dX9_get_8 (by decide) ?_
    refine lv_aload_n hx hb dX9_get_9 rfl (lv_at hl 0 rfl) ?_
    refine zg9_size S in_X9_get_9 hK hP 0 rfl (List.mem_of_getElem? (i := 1) rfl) dX9_get_10 ?_
    refine lv_iload_n hx hb dX9_get_13 rfl (lv_at hl 1 rfl) ?_
    refine zl9_size S hK hP 0 rfl hx1_4 (f := (g9_size bm)) rfl dX9_get_14 ?_
    refine lv_iconst (v := 1) hx hb dX9_get_15 (by decide) ?_
    refine lv_isub hx hb dX9_get_16 ?_
    obtain ⟨t17, ht17⟩ : ∃ z, FX9_in x2 0 (((g9_size bm) x1.toNatClampNeg) - 1) = z := ⟨_, rfl⟩
    have hE := hE.trans (bnd_eq ht17)
    have hc := c_X9_in l G x2 0 (((g9_size bm) x1.toNatClampNeg) - 1) _ ht17
    refine zgoR (va_runS (As := [.int x2, .int 0, .int (((g9_size bm) x1.toNatClampNeg) - 1)]) (rest := []) S (hc _) (va_cwS 3 S.2.2.2.2 gX9_get_X9_in rfl rfl rfl (by decide +kernel) ⟨Nat.le_of_ble_eq_true rfl, Nat.le_of_ble_eq_true rfl⟩) (zpS hK hP hD (is := []) rfl rfl) rfl rfl hl.1 rfl (lv_room (Nat.le_of_ble_eq_true rfl)) dX9_get_17 ⟨Nat.zero_le _, Nat.zero_le _⟩) (fun hn17 => ?_)
    refine lv_if_eq (tgt := 38) hx hb dX9_get_20 (by decide) (fun c20 => ?_) (fun c20 => ?_)
    · have hE := hE.trans (if_pos c20)
      refine lv_ldc2 (v := (-9223372036854775808)) hx hb S.2.2.2.1 (S.2.2.2.2 _ (List.mem_of_getElem? (i := 3) rfl)) dX9_get_38 ?_
      exact hret _ _ _ hE dX9_get_41
    · have hE := hE.trans (if_neg c20)
      refine lv_aload_n hx hb dX9_get_23 rfl (lv_at hl 0 rfl) ?_
      refine zg9_told S in_X9_get_9 hK hP 0 rfl (List.mem_of_getElem? (i := 2) rfl) dX9_get_24 ?_
      refine lv_bipush (v := 24) hx hb dX9_get_27 (by decide) ?_
      refine lv_iload_n hx hb dX9_get_29 rfl (lv_at hl 1 rfl) ?_
      refine lv_imul hx hb dX9_get_30 ?_
      refine lv_iload_n hx hb dX9_get_31 rfl (lv_at hl 2 rfl) ?_
      refine lv_iadd hx hb dX9_get_32 ?_
      refine zl9_told S hK hP 0 rfl (zset9 hsz (by assumption) (by rw [ht17]; exact c20)) (f := (g9_told bm)) rfl dX9_get_33 ?_
      refine lv_i2l (v := (((g9_told bm) ((24 * x1) + x2).toNatClampNeg).toInt64)) hx hb dX9_get_34 rfl ?_
      refine lv_goto (tgt := 41) hx hb dX9_get_35 (by decide) ?_
      exact hret _ _ _ hE dX9_get_41

theorem in_X9_paper_9 : ∀ w ∈ u_ws RX9 TX9 40, w ∈ wsX9_paper := by decide +kernel
def rmX9_paper : Room := { frames := 0, cells := 0, slots := 0, locals := 0 }
set_option maxHeartbeats 4000000 in
set_option maxRecDepth 100000 in
theorem c_X9_paper (l : Launch) (G : zG) (am : Nat → Nat) (bm : S9) (x1 : Int32) (hpp : ∃ N : Nat, N ≤ 2000 ∧ g9_papers bm = nI N) (T : Int32) (hT : FX9_paper (g9_paper bm) (g9_papers bm) x1 = T) : zR l yX9_paper wsX9_paper rmX9_paper .int G [.ref (am 0), .int x1] [w9 G am bm] T := by
  refine zR.mk (cc := cX9_paper) (maxL := 2) (by decide +kernel) rfl (Nat.le_of_ble_eq_true rfl) ?_
  intro p e s m args below meth c Q A ls S hK hD hA hP hl hret
  have hx := S.1
  have hb := S.2.1
  have hl : lv_has ls 2 [(0, .ref (am 0)), (1, .int x1)] := hl
  have hE := hT.symm.trans (FX9_paper.eq_1 _ _ _)
  refine lv_iload_n hx hb dX9_paper_0 rfl (lv_at hl 1 rfl) ?_
  refine lv_if_ge (tgt := 6) hx hb dX9_paper_1 (by decide) (fun c1 => ?_) (fun c1 => ?_)
  · have hE := hE.trans (if_pos c1)
    refine lv_iload_n hx hb dX9_paper_6 rfl (lv_at hl 1 rfl) ?_
    refine lv_aload_n hx hb dX9_paper_7 rfl (lv_at hl 0 rfl) ?_
    refine zg9_papers S in_X9_paper_9 hK hP 0 rfl (List.mem_of_getElem? (i := 1) rfl) (v := (g9_papers bm)) rfl dX9_paper_8 ?_
    refine lv_icmp_ge (tgt := 23) hx hb dX9_paper_11 (by decide) (fun c11 => ?_) (fun c11 => ?_)
    · have hE := hE.trans (if_pos c11)
      refine lv_bipush (v := (-2)) hx hb dX9_paper_23 (by decide) ?_
      exact hret _ _ _ hE rfl dX9_paper_25
    · have hE := hE.trans (if_neg c11)
      have hx1_2000 : vp_in x1 2000 := zgp hpp c1 c11
      refine lv_aload_n hx hb dX9_paper_14 rfl (lv_at hl 0 rfl) ?_
      refine zg9_paper S in_X9_paper_9 hK hP 0 rfl (List.mem_of_getElem? (i := 2) rfl) dX9_paper_15 ?_
      refine lv_iload_n hx hb dX9_paper_18 rfl (lv_at hl 1 rfl) ?_
      refine zl9_paper S hK hP 0 rfl hx1_2000 (f := (g9_paper bm)) rfl dX9_paper_19 ?_
      refine lv_goto (tgt := 25) hx hb dX9_paper_20 (by decide) ?_
      exact hret _ _ _ hE rfl dX9_paper_25
  · have hE := hE.trans (if_neg c1)
    refine lv_iconst (v := (-1)) hx hb dX9_paper_4 (by decide) ?_
    exact hret _ _ _ hE rfl dX9_paper_5

