theorem in_X9_proves_9 : ∀ w ∈ u_ws RX9 TX9 40, w ∈ wsX9_proves := by decide +kernel
def rmX9_proves : Room := { frames := 7, cells := 0, slots := 0, locals := 155 }
set_option maxHeartbeats 4000000 in
set_option maxRecDepth 100000 in
theorem c_X9_proves (l : Launch) (G : zG) (am : Nat → Nat) (bm : S9) (x1 : Int32) (x2 : Int32) (hx1_20 : vp_in x1 20) (hx2_4 : vp_in x2 4) (hpv : zPv (g9_facts bm) (g9_rules bm) (g9_kind bm) (g9_head bm) (g9_body bm) (g9_except bm) (g9_strength bm) (g9_off bm) (g9_over bm) (g9_came bm) (g9_known bm) (g9_fresh bm) (g9_rounds bm)) (hz_m_rules : ∃ N : Nat, N ≤ 16 ∧ g9_rules bm = nI N) (T : Int32 × (Nat → Int32) × (Nat → Int32) × (Nat → Int32) × (Int32) × (Nat → Int32) × (Nat → Int32) × (Int32)) (hT : FX9_proves (g9_facts bm) (g9_rules bm) (g9_kind bm) (g9_head bm) (g9_body bm) (g9_except bm) (g9_strength bm) (g9_off bm) (g9_over bm) (g9_came bm) (g9_known bm) (g9_fresh bm) (g9_rounds bm) (g9_needed bm) (g9_listed bm) (g9_lists bm) x1 x2 = T) : zI l yX9_proves wsX9_proves rmX9_proves .boolean G [.ref (am 0), .int x1, .int x2] [w9 G am bm] T.1 [w9 G am (s9_lists (s9_listed (s9_needed (s9_rounds (s9_fresh (s9_known (s9_came bm T.2.1) T.2.2.1) T.2.2.2.1) T.2.2.2.2.1) T.2.2.2.2.2.1) T.2.2.2.2.2.2.1) T.2.2.2.2.2.2.2)] := by
  refine zI.mk (cc := cX9_proves) (maxL := 6) (by decide +kernel) rfl (Nat.le_of_ble_eq_true rfl) (zfl_cons (wf9 _ _ _ _) rfl) ?_
  intro p e s m args below meth c Q A ls S hK hD hA hP hl hret
  have hx := S.1
  have hb := S.2.1
  have hS : va_S A s.heap s.heap [] := va_S.rf
  have hl : lv_has ls 6 [(0, .ref (am 0)), (1, .int x1), (2, .int x2)] := hl
  have hE := hT.symm.trans (FX9_proves.eq_1 _ _ _ _ _ _ _ _ _ _ _ _ _ _ _ _ _ _)
  refine lv_aload_n hx hb dX9_proves_0 rfl (lv_at hl 0 rfl) ?_
  obtain ⟨t1, ht1⟩ : ∃ z, FX9_tags (g9_facts bm) (g9_rules bm) (g9_kind bm) (g9_head bm) (g9_body bm) (g9_except bm) (g9_strength bm) (g9_off bm) (g9_over bm) (g9_came bm) (g9_known bm) (g9_fresh bm) (g9_rounds bm) = z := ⟨_, rfl⟩
  have hE := hE.trans (bnd_eq ht1)
  have hc := c_X9_tags l G am bm (hz_m_rules) _ ht1
  refine zgoV (bs' := [w9 G am (s9_rounds (s9_fresh (s9_known (s9_came bm t1.1) t1.2.1) t1.2.2.1) t1.2.2.2)]) hc [0] rfl rfl rfl hP hD hS hA (va_runV (As := []) (rest := []) S (hc.2 _) (cwV 0 S.2.2.2.2 gX9_proves_X9_tags rfl rfl rfl (by decide +kernel) ⟨Nat.le_of_ble_eq_true rfl, Nat.le_of_ble_eq_true rfl⟩) (zpV hK hP hD (is := [0]) rfl rfl 0 rfl rfl (ci := 9) rfl) rfl rfl hl.1 rfl (lv_room (Nat.le_of_ble_eq_true rfl)) dX9_proves_1 ⟨Nat.zero_le _, Nat.zero_le _⟩) (fun H locs hP hD hS => ?_)
  obtain ⟨hcm, hpn⟩ := hpv _ ht1
  refine lv_aload_n hx hb dX9_proves_4 rfl (lv_at hl 0 rfl) ?_
  refine lv_iconst (v := 0) hx hb dX9_proves_5 (by decide) ?_
  refine zp9_lists (bs1 := [w9 G am (s9_lists (s9_rounds (s9_fresh (s9_known (s9_came bm t1.1) t1.2.1) t1.2.2.1) t1.2.2.2) 0)]) S in_X9_proves_9 hK hP hD hS 0 rfl (List.mem_of_getElem? (i := 1) rfl) dX9_proves_6 rfl (fun H locs hP hD hS => ?_)
  refine lv_aload_n hx hb dX9_proves_9 rfl (lv_at hl 0 rfl) ?_
  refine zg9_came S in_X9_proves_9 hK hP 0 rfl (List.mem_of_getElem? (i := 2) rfl) dX9_proves_10 ?_
  refine lv_bipush (v := 20) hx hb dX9_proves_13 (by decide) ?_
  refine lv_iload_n hx hb dX9_proves_15 rfl (lv_at hl 2 rfl) ?_
  refine lv_imul hx hb dX9_proves_16 ?_
  refine lv_iload_n hx hb dX9_proves_17 rfl (lv_at hl 1 rfl) ?_
  refine lv_iadd hx hb dX9_proves_18 ?_
  refine zl9_came S hK hP 0 rfl (zlinL 20 rfl hx2_4 hx1_20 (by decide) (by decide) (by decide) (by decide)) (f := t1.1) ((gs9_came_lists _ 0).trans ((gs9_came_rounds _ t1.2.2.2).trans ((gs9_came_fresh _ t1.2.2.1).trans ((gs9_came_known _ t1.2.1).trans (gg9_came _ t1.1))))) dX9_proves_19 ?_
  obtain ⟨hh, hhl, hhe⟩ := zcmI hcm hx2_4 hx1_20
  rw [hhe] at hE ⊢
  refine lv_istore_n (lv' := [(3, .int (nI hh)), (0, .ref (am 0)), (1, .int x1), (2, .int x2)]) hx hb dX9_proves_20 rfl hl (by decide) rfl (fun ls hl => ?_)
  refine lv_iload_n hx hb dX9_proves_21 rfl (lv_at hl 0 rfl) ?_
  refine lv_if_ne (tgt := 27) hx hb dX9_proves_22 (by decide) (fun c22 => ?_) (fun c22 => ?_)
  · have hE := hE.trans (if_neg c22)
    refine lv_iconst (v := 0) hx hb dX9_proves_27 (by decide) ?_
    have hB50 : ∀ (m_needed_50 : Nat → Int32) (H : Heap) (locs : List Loc) (ls : Array Slot), T = FX9_proves_50 (g9_facts bm) (g9_rules bm) (g9_kind bm) (g9_head bm) (g9_body bm) (g9_except bm) (g9_strength bm) (g9_off bm) (g9_over bm) (g9_came bm) (g9_known bm) (g9_fresh bm) (g9_rounds bm) (g9_needed bm) (g9_listed bm) (g9_lists bm) x1 x2 (nI hh) t1.1 t1.2.1 t1.2.2.1 t1.2.2.2 m_needed_50 (g9_listed bm) 0 → zP G [w9 G am (s9_lists (s9_needed (s9_rounds (s9_fresh (s9_known (s9_came bm t1.1) t1.2.1) t1.2.2.1) t1.2.2.2) m_needed_50) 0)] H → zD A [w9 G am (s9_lists (s9_needed (s9_rounds (s9_fresh (s9_known (s9_came bm t1.1) t1.2.1) t1.2.2.1) t1.2.2.2) m_needed_50) 0)] → va_S A s.heap H locs → lv_has ls 6 [(0, .ref (am 0)), (1, .int x1), (2, .int x2), (3, .int (nI hh))] → W p l e rmX9_proves s m args below meth c H locs 0 0 Q (F0 m 50 ls []) := by
      intro m_needed_50 H locs ls hE hP hD hS hl
      have hE := hE.trans (FX9_proves_50.eq_1 _ _ _ _ _ _ _ _ _ _ _ _ _ _ _ _ _ _ _ _ _ _ _ _ _ _)
      refine lv_aload_n hx hb dX9_proves_50 rfl (lv_at hl 0 rfl) ?_
      refine zg9_needed S in_X9_proves_9 hK hP 0 rfl (List.mem_of_getElem? (i := 3) rfl) dX9_proves_51 ?_
      refine lv_iload_n hx hb dX9_proves_54 rfl (lv_at hl 2 rfl) ?_
      refine lv_iconst (v := 1) hx hb dX9_proves_55 (by decide) ?_
      refine lv_iload_n hx hb dX9_proves_56 rfl (lv_at hl 1 rfl) ?_
      refine lv_ishl hx hb dX9_proves_57 ?_
      refine zs9_needed (bs1 := [w9 G am (s9_needed (s9_lists (s9_needed (s9_rounds (s9_fresh (s9_known (s9_came bm t1.1) t1.2.1) t1.2.2.1) t1.2.2.2) m_needed_50) 0) (upd m_needed_50 x2.toNatClampNeg (1 <<< (x1 &&& 31))))]) S hK hP hD hS 0 rfl hx2_4 (f := m_needed_50) ((gs9_needed_lists _ 0).trans (gg9_needed _ m_needed_50)) dX9_proves_58 rfl (fun H locs hP hD hS => ?_)
      refine lv_iload_n hx hb dX9_proves_59 rfl (lv_at hl 3 rfl) ?_
      have hB167 : ∀ (m_known_167 : Nat → Int32) (m_needed_167 : Nat → Int32) (H : Heap) (locs : List Loc) (ls : Array Slot), T = FX9_proves_167 (g9_facts bm) (g9_rules bm) (g9_kind bm) (g9_head bm) (g9_body bm) (g9_except bm) (g9_strength bm) (g9_off bm) (g9_over bm) (g9_came bm) (g9_known bm) (g9_fresh bm) (g9_rounds bm) (g9_needed bm) (g9_listed bm) (g9_lists bm) x1 x2 (nI hh) t1.1 m_known_167 t1.2.2.1 t1.2.2.2 m_needed_167 (g9_listed bm) 0 → zP G [w9 G am (s9_lists (s9_needed (s9_rounds (s9_fresh (s9_known (s9_came bm t1.1) m_known_167) t1.2.2.1) t1.2.2.2) m_needed_167) 0)] H → zD A [w9 G am (s9_lists (s9_needed (s9_rounds (s9_fresh (s9_known (s9_came bm t1.1) m_known_167) t1.2.2.1) t1.2.2.2) m_needed_167) 0)] → va_S A s.heap H locs → lv_has ls 6 [(0, .ref (am 0)), (3, .int (nI hh))] → W p l e rmX9_proves s m args below meth c H locs 0 0 Q (F0 m 167 ls []) := by
        intro m_known_167 m_needed_167 H locs ls hE hP hD hS hl
        have hE := hE.trans (FX9_proves_167.eq_1 _ _ _ _ _ _ _ _ _ _ _ _ _ _ _ _ _ _ _ _ _ _ _ _ _ _)
        refine lv_iconst (v := 1) hx hb dX9_proves_167 (by decide) ?_
        have hB252 : ∀ (m_listed_252 : Nat → Int32) (m_lists_252 : Int32) (H : Heap) (locs : List Loc) (ls : Array Slot), T = FX9_proves_252 (g9_facts bm) (g9_rules bm) (g9_kind bm) (g9_head bm) (g9_body bm) (g9_except bm) (g9_strength bm) (g9_off bm) (g9_over bm) (g9_came bm) (g9_known bm) (g9_fresh bm) (g9_rounds bm) (g9_needed bm) (g9_listed bm) (g9_lists bm) x1 x2 t1.1 m_known_167 t1.2.2.1 t1.2.2.2 m_needed_167 m_listed_252 m_lists_252 → zP G [w9 G am (s9_lists (s9_listed (s9_needed (s9_rounds (s9_fresh (s9_known (s9_came bm t1.1) m_known_167) t1.2.2.1) t1.2.2.2) m_needed_167) m_listed_252) m_lists_252)] H → zD A [w9 G am (s9_lists (s9_listed (s9_needed (s9_rounds (s9_fresh (s9_known (s9_came bm t1.1) m_known_167) t1.2.2.1) t1.2.2.2) m_needed_167) m_listed_252) m_lists_252)] → va_S A s.heap H locs → lv_has ls 6 [] → W p l e rmX9_proves s m args below meth c H locs 0 0 Q (F0 m 252 ls []) := by
          intro m_listed_252 m_lists_252 H locs ls hE hP hD hS hl
          have hE := hE.trans (FX9_proves_252.eq_1 _ _ _ _ _ _ _ _ _ _ _ _ _ _ _ _ _ _ _ _ _ _ _ _ _)
          refine lv_iconst (v := 1) hx hb dX9_proves_252 (by decide) ?_
          exact hret _ _ _ _ _ _ (by subst hE; rfl) zn1 hP hS dX9_proves_253
        have hB170 : ∀ (n170 : Nat) (i4_170 : Nat) (m_listed_170 : Nat → Int32) (m_lists_170 : Int32) (H : Heap) (locs : List Loc) (ls : Array Slot), (1 ≤ i4_170 ∧ i4_170 ≤ 81) → (zLc t1.1 i4_170 0 m_lists_170) → 82 ≤ i4_170 + n170 → T = FX9_proves_170 (g9_facts bm) (g9_rules bm) (g9_kind bm) (g9_head bm) (g9_body bm) (g9_except bm) (g9_strength bm) (g9_off bm) (g9_over bm) (g9_came bm) (g9_known bm) (g9_fresh bm) (g9_rounds bm) (g9_needed bm) (g9_listed bm) (g9_lists bm) x1 x2 (FX9_proves_252 (g9_facts bm) (g9_rules bm) (g9_kind bm) (g9_head bm) (g9_body bm) (g9_except bm) (g9_strength bm) (g9_off bm) (g9_over bm) (g9_came bm) (g9_known bm) (g9_fresh bm) (g9_rounds bm) (g9_needed bm) (g9_listed bm) (g9_lists bm) x1 x2) n170 (nI hh) (nI i4_170) t1.1 m_known_167 t1.2.2.1 t1.2.2.2 m_needed_167 m_listed_170 m_lists_170 → zP G [w9 G am (s9_lists (s9_listed (s9_needed (s9_rounds (s9_fresh (s9_known (s9_came bm t1.1) m_known_167) t1.2.2.1) t1.2.2.2) m_needed_167) m_listed_170) m_lists_170)] H → zD A [w9 G am (s9_lists (s9_listed (s9_needed (s9_rounds (s9_fresh (s9_known (s9_came bm t1.1) m_known_167) t1.2.2.1) t1.2.2.2) m_needed_167) m_listed_170) m_lists_170)] → va_S A s.heap H locs → lv_has ls 6 [(0, .ref (am 0)), (3, .int (nI hh)), (4, .int (nI i4_170))] → W p l e rmX9_proves s m args below meth c H locs 0 0 Q (F0 m 170 ls []) := by
          intro n170
          induction n170 with
          | zero =>
            intro i4_170 m_listed_170 m_lists_170 H locs ls hi4_170 hL170 hn hE hP hD hS hl
            exact absurd hn (by omega)
          | succ n170 ih170 =>
            intro i4_170 m_listed_170 m_lists_170 H locs ls hi4_170 hL170 hn hE hP hD hS hl
            have hE := hE.trans (FX9_proves_170.eq_2 _ _ _ _ _ _ _ _ _ _ _ _ _ _ _ _ _ _ _ _ _ _ _ _ _ _ _ _ _)
            refine lv_iload hx hb dX9_proves_170 (lv_at hl 2 rfl) ?_
            refine lv_iload_n hx hb dX9_proves_172 rfl (lv_at hl 1 rfl) ?_
            refine lv_icmp_gt (tgt := 252) hx hb dX9_proves_173 (by decide) (fun c173 => ?_) (fun c173 => ?_)
            · have hE := hE.trans (if_pos c173)
              exact hB252 m_listed_170 m_lists_170 _ _ _ hE hP hD hS (lv_sub hl [] rfl)
            · have hE := hE.trans (if_neg c173)
              have hl4_170 : i4_170 ≤ hh := znlt rfl (by omega) (by omega) c173
              refine lv_iconst (v := 0) hx hb dX9_proves_176 (by decide) ?_
              have hB246 : ∀ (m_listed_246 : Nat → Int32) (m_lists_246 : Int32) (H : Heap) (locs : List Loc) (ls : Array Slot), (zLc t1.1 i4_170 80 m_lists_246) → T = FX9_proves_246 (g9_facts bm) (g9_rules bm) (g9_kind bm) (g9_head bm) (g9_body bm) (g9_except bm) (g9_strength bm) (g9_off bm) (g9_over bm) (g9_came bm) (g9_known bm) (g9_fresh bm) (g9_rounds bm) (g9_needed bm) (g9_listed bm) (g9_lists bm) x1 x2 (fun x3_170' x4_170' m_came_170' m_known_170' m_fresh_170' m_rounds_170' m_needed_170' m_listed_170' m_lists_170' => FX9_proves_170 (g9_facts bm) (g9_rules bm) (g9_kind bm) (g9_head bm) (g9_body bm) (g9_except bm) (g9_strength bm) (g9_off bm) (g9_over bm) (g9_came bm) (g9_known bm) (g9_fresh bm) (g9_rounds bm) (g9_needed bm) (g9_listed bm) (g9_lists bm) x1 x2 (FX9_proves_252 (g9_facts bm) (g9_rules bm) (g9_kind bm) (g9_head bm) (g9_body bm) (g9_except bm) (g9_strength bm) (g9_off bm) (g9_over bm) (g9_came bm) (g9_known bm) (g9_fresh bm) (g9_rounds bm) (g9_needed bm) (g9_listed bm) (g9_lists bm) x1 x2) n170 x3_170' x4_170' m_came_170' m_known_170' m_fresh_170' m_rounds_170' m_needed_170' m_listed_170' m_lists_170') (FX9_proves_252 (g9_facts bm) (g9_rules bm) (g9_kind bm) (g9_head bm) (g9_body bm) (g9_except bm) (g9_strength bm) (g9_off bm) (g9_over bm) (g9_came bm) (g9_known bm) (g9_fresh bm) (g9_rounds bm) (g9_needed bm) (g9_listed bm) (g9_lists bm) x1 x2) (nI hh) (nI i4_170) t1.1 m_known_167 t1.2.2.1 t1.2.2.2 m_needed_167 m_listed_246 m_lists_246 → zP G [w9 G am (s9_lists (s9_listed (s9_needed (s9_rounds (s9_fresh (s9_known (s9_came bm t1.1) m_known_167) t1.2.2.1) t1.2.2.2) m_needed_167) m_listed_246) m_lists_246)] H → zD A [w9 G am (s9_lists (s9_listed (s9_needed (s9_rounds (s9_fresh (s9_known (s9_came bm t1.1) m_known_167) t1.2.2.1) t1.2.2.2) m_needed_167) m_listed_246) m_lists_246)] → va_S A s.heap H locs → lv_has ls 6 [(0, .ref (am 0)), (3, .int (nI hh)), (4, .int (nI i4_170))] → W p l e rmX9_proves s m args below meth c H locs 0 0 Q (F0 m 246 ls []) := by
                intro m_listed_246 m_lists_246 H locs ls hL246 hE hP hD hS hl
                have hE := hE.trans (FX9_proves_246.eq_1 _ _ _ _ _ _ _ _ _ _ _ _ _ _ _ _ _ _ _ _ _ _ _ _ _ _ _ _ _)
                refine lv_iinc (v := (nI (i4_170 + 1))) (lv' := [(4, .int (nI (i4_170 + 1))), (0, .ref (am 0)), (3, .int (nI hh))]) hx hb dX9_proves_246 hl (k := 2) rfl (nI_1 i4_170) (by decide) rfl (fun ls hl => ?_)
                try rw [nI_1 i4_170] at hE
                refine lv_goto (tgt := 170) hx hb dX9_proves_249 (by decide) ?_
                exact ih170 (i4_170 + 1) m_listed_246 m_lists_246 _ _ _ (by exact ⟨by omega, by omega⟩) (by exact zLc_n hL246) (by omega) hE hP hD hS (lv_sub hl [1, 2, 0] rfl)
              have hB179 : ∀ (n179 : Nat) (i5_179 : Nat) (m_listed_179 : Nat → Int32) (m_lists_179 : Int32) (H : Heap) (locs : List Loc) (ls : Array Slot), (i5_179 ≤ 80) → (zLc t1.1 i4_170 i5_179 m_lists_179) → 81 ≤ i5_179 + n179 → T = FX9_proves_179 (g9_facts bm) (g9_rules bm) (g9_kind bm) (g9_head bm) (g9_body bm) (g9_except bm) (g9_strength bm) (g9_off bm) (g9_over bm) (g9_came bm) (g9_known bm) (g9_fresh bm) (g9_rounds bm) (g9_needed bm) (g9_listed bm) (g9_lists bm) x1 x2 (fun x3_170' x4_170' m_came_170' m_known_170' m_fresh_170' m_rounds_170' m_needed_170' m_listed_170' m_lists_170' => FX9_proves_170 (g9_facts bm) (g9_rules bm) (g9_kind bm) (g9_head bm) (g9_body bm) (g9_except bm) (g9_strength bm) (g9_off bm) (g9_over bm) (g9_came bm) (g9_known bm) (g9_fresh bm) (g9_rounds bm) (g9_needed bm) (g9_listed bm) (g9_lists bm) x1 x2 (FX9_proves_252 (g9_facts bm) (g9_rules bm) (g9_kind bm) (g9_head bm) (g9_body bm) (g9_except bm) (g9_strength bm) (g9_off bm) (g9_over bm) (g9_came bm) (g9_known bm) (g9_fresh bm) (g9_rounds bm) (g9_needed bm) (g9_listed bm) (g9_lists bm) x1 x2) n170 x3_170' x4_170' m_came_170' m_known_170' m_fresh_170' m_rounds_170' m_needed_170' m_listed_170' m_lists_170') (FX9_proves_252 (g9_facts bm) (g9_rules bm) (g9_kind bm) (g9_head bm) (g9_body bm) (g9_except bm) (g9_strength bm) (g9_off bm) (g9_over bm) (g9_came bm) (g9_known bm) (g9_fresh bm) (g9_rounds bm) (g9_needed bm) (g9_listed bm) (g9_lists bm) x1 x2) (FX9_proves_246 (g9_facts bm) (g9_rules bm) (g9_kind bm) (g9_head bm) (g9_body bm) (g9_except bm) (g9_strength bm) (g9_off bm) (g9_over bm) (g9_came bm) (g9_known bm) (g9_fresh bm) (g9_rounds bm) (g9_needed bm) (g9_listed bm) (g9_lists bm) x1 x2 (fun x3_170' x4_170' m_came_170' m_known_170' m_fresh_170' m_rounds_170' m_needed_170' m_listed_170' m_lists_170' => FX9_proves_170 (g9_facts bm) (g9_rules bm) (g9_kind bm) (g9_head bm) (g9_body bm) (g9_except bm) (g9_strength bm) (g9_off bm) (g9_over bm) (g9_came bm) (g9_known bm) (g9_fresh bm) (g9_rounds bm) (g9_needed bm) (g9_listed bm) (g9_lists bm) x1 x2 (FX9_proves_252 (g9_facts bm) (g9_rules bm) (g9_kind bm) (g9_head bm) (g9_body bm) (g9_except bm) (g9_strength bm) (g9_off bm) (g9_over bm) (g9_came bm) (g9_known bm) (g9_fresh bm) (g9_rounds bm) (g9_needed bm) (g9_listed bm) (g9_lists bm) x1 x2) n170 x3_170' x4_170' m_came_170' m_known_170' m_fresh_170' m_rounds_170' m_needed_170' m_listed_170' m_lists_170') (FX9_proves_252 (g9_facts bm) (g9_rules bm) (g9_kind bm) (g9_head bm) (g9_body bm) (g9_except bm) (g9_strength bm) (g9_off bm) (g9_over bm) (g9_came bm) (g9_known bm) (g9_fresh bm) (g9_rounds bm) (g9_needed bm) (g9_listed bm) (g9_lists bm) x1 x2)) n179 (nI hh) (nI i4_170) (nI i5_179) t1.1 m_known_167 t1.2.2.1 t1.2.2.2 m_needed_167 m_listed_179 m_lists_179 → zP G [w9 G am (s9_lists (s9_listed (s9_needed (s9_rounds (s9_fresh (s9_known (s9_came bm t1.1) m_known_167) t1.2.2.1) t1.2.2.2) m_needed_167) m_listed_179) m_lists_179)] H → zD A [w9 G am (s9_lists (s9_listed (s9_needed (s9_rounds (s9_fresh (s9_known (s9_came bm t1.1) m_known_167) t1.2.2.1) t1.2.2.2) m_needed_167) m_listed_179) m_lists_179)] → va_S A s.heap H locs → lv_has ls 6 [(0, .ref (am 0)), (3, .int (nI hh)), (4, .int (nI i4_170)), (5, .int (nI i5_179))] → W p l e rmX9_proves s m args below meth c H locs 0 0 Q (F0 m 179 ls []) := by
                intro n179
                induction n179 with
                | zero =>
                  intro i5_179 m_listed_179 m_lists_179 H locs ls hi5_179 hL179 hn hE hP hD hS hl
                  exact absurd hn (by omega)
                | succ n179 ih179 =>
                  intro i5_179 m_listed_179 m_lists_179 H locs ls hi5_179 hL179 hn hE hP hD hS hl
                  have hE := hE.trans (FX9_proves_179.eq_2 _ _ _ _ _ _ _ _ _ _ _ _ _ _ _ _ _ _ _ _ _ _ _ _ _ _ _ _ _ _ _ _)
                  refine lv_iload hx hb dX9_proves_179 (lv_at hl 3 rfl) ?_
                  refine lv_bipush (v := 80) hx hb dX9_proves_181 (by decide) ?_
                  refine lv_icmp_ge (tgt := 246) hx hb dX9_proves_183 (by decide) (fun c183 => ?_) (fun c183 => ?_)
                  · have hE := hE.trans (if_pos c183)
                    have he179 : i5_179 = 80 := zge80 hi5_179 c183
                    exact hB246 m_listed_179 m_lists_179 _ _ _ (by (rw [← he179]; exact hL179)) hE hP hD hS (lv_sub hl [0, 1, 2] rfl)
                  · have hE := hE.trans (if_neg c183)
                    have hl5_179 : i5_179 < 80 := zlt (N := 80) rfl (by omega) (by omega) c183
                    refine lv_aload_n hx hb dX9_proves_186 rfl (lv_at hl 0 rfl) ?_
                    refine zg9_came S in_X9_proves_9 hK hP 0 rfl (List.mem_of_getElem? (i := 2) rfl) dX9_proves_187 ?_
                    refine lv_iload hx hb dX9_proves_190 (lv_at hl 3 rfl) ?_
                    refine zl9_came S hK hP 0 rfl (vp_in_nI (by omega) (by omega)) (f := t1.1) ((gs9_came_lists _ m_lists_179).trans ((gs9_came_listed _ m_listed_179).trans ((gs9_came_needed _ m_needed_167).trans ((gs9_came_rounds _ t1.2.2.2).trans ((gs9_came_fresh _ t1.2.2.1).trans ((gs9_came_known _ m_known_167).trans (gg9_came _ t1.1))))))) dX9_proves_192 ?_
                    refine lv_iload hx hb dX9_proves_193 (lv_at hl 2 rfl) ?_
                    refine lv_icmp_ne (tgt := 240) hx hb dX9_proves_195 (by decide) (fun c195 => ?_) (fun c195 => ?_)
                    · have hE := hE.trans (if_neg c195)
                      refine lv_iinc (v := (nI (i5_179 + 1))) (lv' := [(5, .int (nI (i5_179 + 1))), (0, .ref (am 0)), (3, .int (nI hh)), (4, .int (nI i4_170))]) hx hb dX9_proves_240 hl (k := 3) rfl (nI_1 i5_179) (by decide) rfl (fun ls hl => ?_)
                      try rw [nI_1 i5_179] at hE
                      refine lv_goto (tgt := 179) hx hb dX9_proves_243 (by decide) ?_
                      exact ih179 (i5_179 + 1) m_listed_179 m_lists_179 _ _ _ (by first | assumption | omega) (by first | exact zLc_s hL179 (by omega) (by omega) c195 | exact zLc_up hL179) (by omega) hE hP hD hS (lv_sub hl [1, 2, 3, 0] rfl)
                    · have hE := hE.trans (if_pos c195)
                      refine lv_aload_n hx hb dX9_proves_198 rfl (lv_at hl 0 rfl) ?_
                      refine zg9_needed S in_X9_proves_9 hK hP 0 rfl (List.mem_of_getElem? (i := 3) rfl) dX9_proves_199 ?_
                      refine lv_iload hx hb dX9_proves_202 (lv_at hl 3 rfl) ?_
                      refine lv_bipush (v := 20) hx hb dX9_proves_204 (by decide) ?_
                      refine lv_idiv hx hb dX9_proves_206 (by decide) ?_
                      refine zl9_needed S hK hP 0 rfl (zk20 (by omega)) (f := m_needed_167) ((gs9_needed_lists _ m_lists_179).trans ((gs9_needed_listed _ m_listed_179).trans (gg9_needed _ m_needed_167))) dX9_proves_207 ?_
                      refine lv_iload hx hb dX9_proves_208 (lv_at hl 3 rfl) ?_
                      refine lv_bipush (v := 20) hx hb dX9_proves_210 (by decide) ?_
                      refine lv_irem hx hb dX9_proves_212 (by decide) ?_
                      obtain ⟨t213, ht213⟩ : ∃ z, FX9_has (m_needed_167 ((nI i5_179) / 20).toNatClampNeg) ((nI i5_179) - (nI i5_179) / 20 * 20) = z := ⟨_, rfl⟩
                      have hE := hE.trans (bnd_eq ht213)
                      have hc := c_X9_has l G (m_needed_167 ((nI i5_179) / 20).toNatClampNeg) ((nI i5_179) - (nI i5_179) / 20 * 20) _ ht213
                      refine zgoR (va_runS (As := [.int (m_needed_167 ((nI i5_179) / 20).toNatClampNeg), .int ((nI i5_179) - (nI i5_179) / 20 * 20)]) (rest := []) S (hc _) (va_cwS 2 S.2.2.2.2 gX9_proves_X9_has rfl rfl rfl (by decide +kernel) ⟨Nat.le_of_ble_eq_true rfl, Nat.le_of_ble_eq_true rfl⟩) (zpS hK hP hD (is := []) rfl rfl) rfl rfl hl.1 rfl (lv_room (Nat.le_of_ble_eq_true rfl)) dX9_proves_213 ⟨Nat.zero_le _, Nat.zero_le _⟩) (fun hn213 => ?_)
                      refine lv_if_eq (tgt := 240) hx hb dX9_proves_216 (by decide) (fun c216 => ?_) (fun c216 => ?_)
                      · have hE := hE.trans (if_pos c216)
                        refine lv_iinc (v := (nI (i5_179 + 1))) (lv' := [(5, .int (nI (i5_179 + 1))), (0, .ref (am 0)), (3, .int (nI hh)), (4, .int (nI i4_170))]) hx hb dX9_proves_240 hl (k := 3) rfl (nI_1 i5_179) (by decide) rfl (fun ls hl => ?_)
                        try rw [nI_1 i5_179] at hE
                        refine lv_goto (tgt := 179) hx hb dX9_proves_243 (by decide) ?_
                        exact ih179 (i5_179 + 1) m_listed_179 m_lists_179 _ _ _ (by first | assumption | omega) (by first | exact zLc_s hL179 (by omega) (by omega) c195 | exact zLc_up hL179) (by omega) hE hP hD hS (lv_sub hl [1, 2, 3, 0] rfl)
                      · have hE := hE.trans (if_neg c216)
                        refine lv_aload_n hx hb dX9_proves_219 rfl (lv_at hl 0 rfl) ?_
                        refine zg9_listed S in_X9_proves_9 hK hP 0 rfl (List.mem_of_getElem? (i := 5) rfl) dX9_proves_220 ?_
                        refine lv_aload_n hx hb dX9_proves_223 rfl (lv_at hl 0 rfl) ?_
                        refine zg9_lists S in_X9_proves_9 hK hP 0 rfl (List.mem_of_getElem? (i := 1) rfl) (v := m_lists_179) (gg9_lists _ m_lists_179) dX9_proves_224 ?_
                        refine lv_iload hx hb dX9_proves_227 (lv_at hl 3 rfl) ?_
                        refine zs9_listed (bs1 := [w9 G am (s9_listed (s9_lists (s9_listed (s9_needed (s9_rounds (s9_fresh (s9_known (s9_came bm t1.1) m_known_167) t1.2.2.1) t1.2.2.2) m_needed_167) m_listed_179) m_lists_179) (upd m_listed_179 m_lists_179.toNatClampNeg (nI i5_179)))]) S hK hP hD hS 0 rfl (zLc_in hL179 (by omega) (by omega) c195) (f := m_listed_179) ((gs9_listed_lists _ m_lists_179).trans (gg9_listed _ m_listed_179)) dX9_proves_229 rfl (fun H locs hP hD hS => ?_)
                        refine lv_aload_n hx hb dX9_proves_230 rfl (lv_at hl 0 rfl) ?_
                        refine lv_dup hx hb dX9_proves_231 rfl ?_
                        refine zg9_lists S in_X9_proves_9 hK hP 0 rfl (List.mem_of_getElem? (i := 1) rfl) (v := m_lists_179) ((gs9_lists_listed _ (upd m_listed_179 m_lists_179.toNatClampNeg (nI i5_179))).trans (gg9_lists _ m_lists_179)) dX9_proves_232 ?_
                        refine lv_iconst (v := 1) hx hb dX9_proves_235 (by decide) ?_
                        refine lv_iadd hx hb dX9_proves_236 ?_
                        refine zp9_lists (bs1 := [w9 G am (s9_lists (s9_listed (s9_lists (s9_listed (s9_needed (s9_rounds (s9_fresh (s9_known (s9_came bm t1.1) m_known_167) t1.2.2.1) t1.2.2.2) m_needed_167) m_listed_179) m_lists_179) (upd m_listed_179 m_lists_179.toNatClampNeg (nI i5_179))) (m_lists_179 + 1))]) S in_X9_proves_9 hK hP hD hS 0 rfl (List.mem_of_getElem? (i := 1) rfl) dX9_proves_237 rfl (fun H locs hP hD hS => ?_)
                        refine lv_iinc (v := (nI (i5_179 + 1))) (lv' := [(5, .int (nI (i5_179 + 1))), (0, .ref (am 0)), (3, .int (nI hh)), (4, .int (nI i4_170))]) hx hb dX9_proves_240 hl (k := 3) rfl (nI_1 i5_179) (by decide) rfl (fun ls hl => ?_)
                        try rw [nI_1 i5_179] at hE
                        refine lv_goto (tgt := 179) hx hb dX9_proves_243 (by decide) ?_
                        rw [show (s9_lists (s9_listed (s9_lists (s9_listed (s9_needed (s9_rounds (s9_fresh (s9_known (s9_came bm t1.1) m_known_167) t1.2.2.1) t1.2.2.2) m_needed_167) m_listed_179) m_lists_179) (upd m_listed_179 m_lists_179.toNatClampNeg (nI i5_179))) (m_lists_179 + 1)) = (s9_lists (s9_listed (s9_needed (s9_rounds (s9_fresh (s9_known (s9_came bm t1.1) m_known_167) t1.2.2.1) t1.2.2.2) m_needed_167) (upd m_listed_179 m_lists_179.toNatClampNeg (nI i5_179))) (m_lists_179 + 1)) from ((congrArg (fun z => s9_lists z (m_lists_179 + 1)) ((cm9_listed_lists _ m_lists_179 (upd m_listed_179 m_lists_179.toNatClampNeg (nI i5_179))).trans (congrArg (fun z => s9_lists z m_lists_179) (ss9_listed _ m_listed_179 (upd m_listed_179 m_lists_179.toNatClampNeg (nI i5_179)))))).trans (ss9_lists _ m_lists_179 (m_lists_179 + 1)))] at hP hD
                        exact ih179 (i5_179 + 1) (upd m_listed_179 m_lists_179.toNatClampNeg (nI i5_179)) (m_lists_179 + 1) _ _ _ (by first | assumption | omega) (by first | exact zLc_s hL179 (by omega) (by omega) c195 | exact zLc_up hL179) (by omega) hE hP hD hS (lv_sub hl [1, 2, 3, 0] rfl)
              refine lv_istore (lv' := [(5, .int 0), (0, .ref (am 0)), (3, .int (nI hh)), (4, .int (nI i4_170))]) hx hb dX9_proves_177 hl (by decide) rfl (fun ls hl => ?_)
              exact hB179 81 0 m_listed_170 m_lists_170 _ _ _ (by first | assumption | omega) (by exact hL170) (by omega) hE hP hD hS (lv_sub hl [1, 2, 3, 0] rfl)
        refine lv_istore (lv' := [(4, .int 1), (0, .ref (am 0)), (3, .int (nI hh))]) hx hb dX9_proves_168 hl (by decide) rfl (fun ls hl => ?_)
        rw [show (s9_lists (s9_needed (s9_rounds (s9_fresh (s9_known (s9_came bm t1.1) m_known_167) t1.2.2.1) t1.2.2.2) m_needed_167) 0) = (s9_lists (s9_listed (s9_needed (s9_rounds (s9_fresh (s9_known (s9_came bm t1.1) m_known_167) t1.2.2.1) t1.2.2.2) m_needed_167) (g9_listed bm)) 0) from (congrArg (fun z => s9_lists z 0) (((se9_listed _).symm).trans (congrArg (fun v => s9_listed (s9_needed (s9_rounds (s9_fresh (s9_known (s9_came bm t1.1) m_known_167) t1.2.2.1) t1.2.2.2) m_needed_167) v) ((gs9_listed_needed _ m_needed_167).trans ((gs9_listed_rounds _ t1.2.2.2).trans ((gs9_listed_fresh _ t1.2.2.1).trans ((gs9_listed_known _ m_known_167).trans (gs9_listed_came _ t1.1))))))))] at hP hD
        exact hB170 82 1 (g9_listed bm) 0 _ _ _ (by exact ⟨by omega, by omega⟩) (by exact ⟨0, rfl, Nat.zero_le _⟩) (by omega) hE hP hD hS (lv_sub hl [1, 2, 0] rfl)
      have hB62 : ∀ (n62 : Nat) (r4_62 : Nat) (m_known_62 : Nat → Int32) (m_needed_62 : Nat → Int32) (H : Heap) (locs : List Loc) (ls : Array Slot), (r4_62 ≤ hh) → 82 ≤ (81 - r4_62) + n62 → T = FX9_proves_62 (g9_facts bm) (g9_rules bm) (g9_kind bm) (g9_head bm) (g9_body bm) (g9_except bm) (g9_strength bm) (g9_off bm) (g9_over bm) (g9_came bm) (g9_known bm) (g9_fresh bm) (g9_rounds bm) (g9_needed bm) (g9_listed bm) (g9_lists bm) x1 x2 (FX9_proves_167 (g9_facts bm) (g9_rules bm) (g9_kind bm) (g9_head bm) (g9_body bm) (g9_except bm) (g9_strength bm) (g9_off bm) (g9_over bm) (g9_came bm) (g9_known bm) (g9_fresh bm) (g9_rounds bm) (g9_needed bm) (g9_listed bm) (g9_lists bm) x1 x2) n62 (nI hh) (nI r4_62) t1.1 m_known_62 t1.2.2.1 t1.2.2.2 m_needed_62 (g9_listed bm) 0 → zP G [w9 G am (s9_lists (s9_needed (s9_rounds (s9_fresh (s9_known (s9_came bm t1.1) m_known_62) t1.2.2.1) t1.2.2.2) m_needed_62) 0)] H → zD A [w9 G am (s9_lists (s9_needed (s9_rounds (s9_fresh (s9_known (s9_came bm t1.1) m_known_62) t1.2.2.1) t1.2.2.2) m_needed_62) 0)] → va_S A s.heap H locs → lv_has ls 6 [(0, .ref (am 0)), (3, .int (nI hh)), (4, .int (nI r4_62))] → W p l e rmX9_proves s m args below meth c H locs 0 0 Q (F0 m 62 ls []) := by
        intro n62
        induction n62 with
        | zero =>
          intro r4_62 m_known_62 m_needed_62 H locs ls hr4_62 hn hE hP hD hS hl
          exact absurd hn (by omega)
        | succ n62 ih62 =>
          intro r4_62 m_known_62 m_needed_62 H locs ls hr4_62 hn hE hP hD hS hl
          have hE := hE.trans (FX9_proves_62.eq_2 _ _ _ _ _ _ _ _ _ _ _ _ _ _ _ _ _ _ _ _ _ _ _ _ _ _ _ _ _)
          refine lv_iload hx hb dX9_proves_62 (lv_at hl 2 rfl) ?_
          refine lv_if_le (tgt := 167) hx hb dX9_proves_64 (by decide) (fun c64 => ?_) (fun c64 => ?_)
          · have hE := hE.trans (if_pos c64)
            exact hB167 m_known_62 m_needed_62 _ _ _ hE hP hD hS (lv_sub hl [0, 1] rfl)
          · have hE := hE.trans (if_neg c64)
            have hp4 : 0 < r4_62 := znpos c64
            refine lv_iconst (v := 0) hx hb dX9_proves_67 (by decide) ?_
            have hB98 : ∀ (m_known_98 : Nat → Int32) (H : Heap) (locs : List Loc) (ls : Array Slot), (∀ t : Nat, t < 4 → m_known_98 t = FX9_cameIn t1.1 (nI t) (nI r4_62) 1) → T = FX9_proves_98 (g9_facts bm) (g9_rules bm) (g9_kind bm) (g9_head bm) (g9_body bm) (g9_except bm) (g9_strength bm) (g9_off bm) (g9_over bm) (g9_came bm) (g9_known bm) (g9_fresh bm) (g9_rounds bm) (g9_needed bm) (g9_listed bm) (g9_lists bm) x1 x2 (fun x3_62' x4_62' m_came_62' m_known_62' m_fresh_62' m_rounds_62' m_needed_62' m_listed_62' m_lists_62' => FX9_proves_62 (g9_facts bm) (g9_rules bm) (g9_kind bm) (g9_head bm) (g9_body bm) (g9_except bm) (g9_strength bm) (g9_off bm) (g9_over bm) (g9_came bm) (g9_known bm) (g9_fresh bm) (g9_rounds bm) (g9_needed bm) (g9_listed bm) (g9_lists bm) x1 x2 (FX9_proves_167 (g9_facts bm) (g9_rules bm) (g9_kind bm) (g9_head bm) (g9_body bm) (g9_except bm) (g9_strength bm) (g9_off bm) (g9_over bm) (g9_came bm) (g9_known bm) (g9_fresh bm) (g9_rounds bm) (g9_needed bm) (g9_listed bm) (g9_lists bm) x1 x2) n62 x3_62' x4_62' m_came_62' m_known_62' m_fresh_62' m_rounds_62' m_needed_62' m_listed_62' m_lists_62') (FX9_proves_167 (g9_facts bm) (g9_rules bm) (g9_kind bm) (g9_head bm) (g9_body bm) (g9_except bm) (g9_strength bm) (g9_off bm) (g9_over bm) (g9_came bm) (g9_known bm) (g9_fresh bm) (g9_rounds bm) (g9_needed bm) (g9_listed bm) (g9_lists bm) x1 x2) (nI hh) (nI r4_62) t1.1 m_known_98 t1.2.2.1 t1.2.2.2 m_needed_62 (g9_listed bm) 0 → zP G [w9 G am (s9_lists (s9_needed (s9_rounds (s9_fresh (s9_known (s9_came bm t1.1) m_known_98) t1.2.2.1) t1.2.2.2) m_needed_62) 0)] H → zD A [w9 G am (s9_lists (s9_needed (s9_rounds (s9_fresh (s9_known (s9_came bm t1.1) m_known_98) t1.2.2.1) t1.2.2.2) m_needed_62) 0)] → va_S A s.heap H locs → lv_has ls 6 [(0, .ref (am 0)), (3, .int (nI hh)), (4, .int (nI r4_62))] → W p l e rmX9_proves s m args below meth c H locs 0 0 Q (F0 m 98 ls []) := by
              intro m_known_98 H locs ls hK98 hE hP hD hS hl
              have hE := hE.trans (FX9_proves_98.eq_1 _ _ _ _ _ _ _ _ _ _ _ _ _ _ _ _ _ _ _ _ _ _ _ _ _ _ _ _ _)
              refine lv_iconst (v := 0) hx hb dX9_proves_98 (by decide) ?_
              have hB161 : ∀ (m_needed_161 : Nat → Int32) (H : Heap) (locs : List Loc) (ls : Array Slot), T = FX9_proves_161 (g9_facts bm) (g9_rules bm) (g9_kind bm) (g9_head bm) (g9_body bm) (g9_except bm) (g9_strength bm) (g9_off bm) (g9_over bm) (g9_came bm) (g9_known bm) (g9_fresh bm) (g9_rounds bm) (g9_needed bm) (g9_listed bm) (g9_lists bm) x1 x2 (fun x3_62' x4_62' m_came_62' m_known_62' m_fresh_62' m_rounds_62' m_needed_62' m_listed_62' m_lists_62' => FX9_proves_62 (g9_facts bm) (g9_rules bm) (g9_kind bm) (g9_head bm) (g9_body bm) (g9_except bm) (g9_strength bm) (g9_off bm) (g9_over bm) (g9_came bm) (g9_known bm) (g9_fresh bm) (g9_rounds bm) (g9_needed bm) (g9_listed bm) (g9_lists bm) x1 x2 (FX9_proves_167 (g9_facts bm) (g9_rules bm) (g9_kind bm) (g9_head bm) (g9_body bm) (g9_except bm) (g9_strength bm) (g9_off bm) (g9_over bm) (g9_came bm) (g9_known bm) (g9_fresh bm) (g9_rounds bm) (g9_needed bm) (g9_listed bm) (g9_lists bm) x1 x2) n62 x3_62' x4_62' m_came_62' m_known_62' m_fresh_62' m_rounds_62' m_needed_62' m_listed_62' m_lists_62') (FX9_proves_167 (g9_facts bm) (g9_rules bm) (g9_kind bm) (g9_head bm) (g9_body bm) (g9_except bm) (g9_strength bm) (g9_off bm) (g9_over bm) (g9_came bm) (g9_known bm) (g9_fresh bm) (g9_rounds bm) (g9_needed bm) (g9_listed bm) (g9_lists bm) x1 x2) (nI hh) (nI r4_62) t1.1 m_known_98 t1.2.2.1 t1.2.2.2 m_needed_161 (g9_listed bm) 0 → zP G [w9 G am (s9_lists (s9_needed (s9_rounds (s9_fresh (s9_known (s9_came bm t1.1) m_known_98) t1.2.2.1) t1.2.2.2) m_needed_161) 0)] H → zD A [w9 G am (s9_lists (s9_needed (s9_rounds (s9_fresh (s9_known (s9_came bm t1.1) m_known_98) t1.2.2.1) t1.2.2.2) m_needed_161) 0)] → va_S A s.heap H locs → lv_has ls 6 [(0, .ref (am 0)), (3, .int (nI hh)), (4, .int (nI r4_62))] → W p l e rmX9_proves s m args below meth c H locs 0 0 Q (F0 m 161 ls []) := by
                intro m_needed_161 H locs ls hE hP hD hS hl
                have hE := hE.trans (FX9_proves_161.eq_1 _ _ _ _ _ _ _ _ _ _ _ _ _ _ _ _ _ _ _ _ _ _ _ _ _ _ _ _ _)
                refine lv_iinc (v := (nI (r4_62 - 1))) (lv' := [(4, .int (nI (r4_62 - 1))), (0, .ref (am 0)), (3, .int (nI hh))]) hx hb dX9_proves_161 hl (k := 2) rfl (znpred (by omega)) (by decide) rfl (fun ls hl => ?_)
                try rw [znpred (show 0 < r4_62 by omega)] at hE
                refine lv_goto (tgt := 62) hx hb dX9_proves_164 (by decide) ?_
                exact ih62 (r4_62 - 1) m_known_98 m_needed_161 _ _ _ (by first | assumption | omega) (by omega) hE hP hD hS (lv_sub hl [1, 2, 0] rfl)
              have hB101 : ∀ (n101 : Nat) (i5_101 : Nat) (m_needed_101 : Nat → Int32) (H : Heap) (locs : List Loc) (ls : Array Slot), (i5_101 ≤ 80) → 81 ≤ i5_101 + n101 → T = FX9_proves_101 (g9_facts bm) (g9_rules bm) (g9_kind bm) (g9_head bm) (g9_body bm) (g9_except bm) (g9_strength bm) (g9_off bm) (g9_over bm) (g9_came bm) (g9_known bm) (g9_fresh bm) (g9_rounds bm) (g9_needed bm) (g9_listed bm) (g9_lists bm) x1 x2 (fun x3_62' x4_62' m_came_62' m_known_62' m_fresh_62' m_rounds_62' m_needed_62' m_listed_62' m_lists_62' => FX9_proves_62 (g9_facts bm) (g9_rules bm) (g9_kind bm) (g9_head bm) (g9_body bm) (g9_except bm) (g9_strength bm) (g9_off bm) (g9_over bm) (g9_came bm) (g9_known bm) (g9_fresh bm) (g9_rounds bm) (g9_needed bm) (g9_listed bm) (g9_lists bm) x1 x2 (FX9_proves_167 (g9_facts bm) (g9_rules bm) (g9_kind bm) (g9_head bm) (g9_body bm) (g9_except bm) (g9_strength bm) (g9_off bm) (g9_over bm) (g9_came bm) (g9_known bm) (g9_fresh bm) (g9_rounds bm) (g9_needed bm) (g9_listed bm) (g9_lists bm) x1 x2) n62 x3_62' x4_62' m_came_62' m_known_62' m_fresh_62' m_rounds_62' m_needed_62' m_listed_62' m_lists_62') (FX9_proves_167 (g9_facts bm) (g9_rules bm) (g9_kind bm) (g9_head bm) (g9_body bm) (g9_except bm) (g9_strength bm) (g9_off bm) (g9_over bm) (g9_came bm) (g9_known bm) (g9_fresh bm) (g9_rounds bm) (g9_needed bm) (g9_listed bm) (g9_lists bm) x1 x2) (FX9_proves_161 (g9_facts bm) (g9_rules bm) (g9_kind bm) (g9_head bm) (g9_body bm) (g9_except bm) (g9_strength bm) (g9_off bm) (g9_over bm) (g9_came bm) (g9_known bm) (g9_fresh bm) (g9_rounds bm) (g9_needed bm) (g9_listed bm) (g9_lists bm) x1 x2 (fun x3_62' x4_62' m_came_62' m_known_62' m_fresh_62' m_rounds_62' m_needed_62' m_listed_62' m_lists_62' => FX9_proves_62 (g9_facts bm) (g9_rules bm) (g9_kind bm) (g9_head bm) (g9_body bm) (g9_except bm) (g9_strength bm) (g9_off bm) (g9_over bm) (g9_came bm) (g9_known bm) (g9_fresh bm) (g9_rounds bm) (g9_needed bm) (g9_listed bm) (g9_lists bm) x1 x2 (FX9_proves_167 (g9_facts bm) (g9_rules bm) (g9_kind bm) (g9_head bm) (g9_body bm) (g9_except bm) (g9_strength bm) (g9_off bm) (g9_over bm) (g9_came bm) (g9_known bm) (g9_fresh bm) (g9_rounds bm) (g9_needed bm) (g9_listed bm) (g9_lists bm) x1 x2) n62 x3_62' x4_62' m_came_62' m_known_62' m_fresh_62' m_rounds_62' m_needed_62' m_listed_62' m_lists_62') (FX9_proves_167 (g9_facts bm) (g9_rules bm) (g9_kind bm) (g9_head bm) (g9_body bm) (g9_except bm) (g9_strength bm) (g9_off bm) (g9_over bm) (g9_came bm) (g9_known bm) (g9_fresh bm) (g9_rounds bm) (g9_needed bm) (g9_listed bm) (g9_lists bm) x1 x2)) n101 (nI hh) (nI r4_62) (nI i5_101) t1.1 m_known_98 t1.2.2.1 t1.2.2.2 m_needed_101 (g9_listed bm) 0 → zP G [w9 G am (s9_lists (s9_needed (s9_rounds (s9_fresh (s9_known (s9_came bm t1.1) m_known_98) t1.2.2.1) t1.2.2.2) m_needed_101) 0)] H → zD A [w9 G am (s9_lists (s9_needed (s9_rounds (s9_fresh (s9_known (s9_came bm t1.1) m_known_98) t1.2.2.1) t1.2.2.2) m_needed_101) 0)] → va_S A s.heap H locs → lv_has ls 6 [(0, .ref (am 0)), (3, .int (nI hh)), (4, .int (nI r4_62)), (5, .int (nI i5_101))] → W p l e rmX9_proves s m args below meth c H locs 0 0 Q (F0 m 101 ls []) := by
                intro n101
                induction n101 with
                | zero =>
                  intro i5_101 m_needed_101 H locs ls hi5_101 hn hE hP hD hS hl
                  exact absurd hn (by omega)
                | succ n101 ih101 =>
                  intro i5_101 m_needed_101 H locs ls hi5_101 hn hE hP hD hS hl
                  have hE := hE.trans (FX9_proves_101.eq_2 _ _ _ _ _ _ _ _ _ _ _ _ _ _ _ _ _ _ _ _ _ _ _ _ _ _ _ _ _ _ _ _)
                  refine lv_iload hx hb dX9_proves_101 (lv_at hl 3 rfl) ?_
                  refine lv_bipush (v := 80) hx hb dX9_proves_103 (by decide) ?_
                  refine lv_icmp_ge (tgt := 161) hx hb dX9_proves_105 (by decide) (fun c105 => ?_) (fun c105 => ?_)
                  · have hE := hE.trans (if_pos c105)
                    exact hB161 m_needed_101 _ _ _ hE hP hD hS (lv_sub hl [0, 1, 2] rfl)
                  · have hE := hE.trans (if_neg c105)
                    have hl5_101 : i5_101 < 80 := zlt (N := 80) rfl (by omega) (by omega) c105
                    refine lv_aload_n hx hb dX9_proves_108 rfl (lv_at hl 0 rfl) ?_
                    refine zg9_came S in_X9_proves_9 hK hP 0 rfl (List.mem_of_getElem? (i := 2) rfl) dX9_proves_109 ?_
                    refine lv_iload hx hb dX9_proves_112 (lv_at hl 3 rfl) ?_
                    refine zl9_came S hK hP 0 rfl (vp_in_nI (by omega) (by omega)) (f := t1.1) ((gs9_came_lists _ 0).trans ((gs9_came_needed _ m_needed_101).trans ((gs9_came_rounds _ t1.2.2.2).trans ((gs9_came_fresh _ t1.2.2.1).trans ((gs9_came_known _ m_known_98).trans (gg9_came _ t1.1)))))) dX9_proves_114 ?_
                    refine lv_iload hx hb dX9_proves_115 (lv_at hl 2 rfl) ?_
                    refine lv_icmp_ne (tgt := 155) hx hb dX9_proves_117 (by decide) (fun c117 => ?_) (fun c117 => ?_)
                    · have hE := hE.trans (if_neg c117)
                      refine lv_iinc (v := (nI (i5_101 + 1))) (lv' := [(5, .int (nI (i5_101 + 1))), (0, .ref (am 0)), (3, .int (nI hh)), (4, .int (nI r4_62))]) hx hb dX9_proves_155 hl (k := 3) rfl (nI_1 i5_101) (by decide) rfl (fun ls hl => ?_)
                      try rw [nI_1 i5_101] at hE
                      refine lv_goto (tgt := 101) hx hb dX9_proves_158 (by decide) ?_
                      exact ih101 (i5_101 + 1) m_needed_101 _ _ _ (by first | assumption | omega) (by omega) hE hP hD hS (lv_sub hl [1, 2, 3, 0] rfl)
                    · have hE := hE.trans (if_pos c117)
                      refine lv_aload_n hx hb dX9_proves_120 rfl (lv_at hl 0 rfl) ?_
                      refine zg9_needed S in_X9_proves_9 hK hP 0 rfl (List.mem_of_getElem? (i := 3) rfl) dX9_proves_121 ?_
                      refine lv_iload hx hb dX9_proves_124 (lv_at hl 3 rfl) ?_
                      refine lv_bipush (v := 20) hx hb dX9_proves_126 (by decide) ?_
                      refine lv_idiv hx hb dX9_proves_128 (by decide) ?_
                      refine zl9_needed S hK hP 0 rfl (zk20 (by omega)) (f := m_needed_101) ((gs9_needed_lists _ 0).trans (gg9_needed _ m_needed_101)) dX9_proves_129 ?_
                      refine lv_iload hx hb dX9_proves_130 (lv_at hl 3 rfl) ?_
                      refine lv_bipush (v := 20) hx hb dX9_proves_132 (by decide) ?_
                      refine lv_irem hx hb dX9_proves_134 (by decide) ?_
                      obtain ⟨t135, ht135⟩ : ∃ z, FX9_has (m_needed_101 ((nI i5_101) / 20).toNatClampNeg) ((nI i5_101) - (nI i5_101) / 20 * 20) = z := ⟨_, rfl⟩
                      have hE := hE.trans (bnd_eq ht135)
                      have hc := c_X9_has l G (m_needed_101 ((nI i5_101) / 20).toNatClampNeg) ((nI i5_101) - (nI i5_101) / 20 * 20) _ ht135
                      refine zgoR (va_runS (As := [.int (m_needed_101 ((nI i5_101) / 20).toNatClampNeg), .int ((nI i5_101) - (nI i5_101) / 20 * 20)]) (rest := []) S (hc _) (va_cwS 2 S.2.2.2.2 gX9_proves_X9_has rfl rfl rfl (by decide +kernel) ⟨Nat.le_of_ble_eq_true rfl, Nat.le_of_ble_eq_true rfl⟩) (zpS hK hP hD (is := []) rfl rfl) rfl rfl hl.1 rfl (lv_room (Nat.le_of_ble_eq_true rfl)) dX9_proves_135 ⟨Nat.zero_le _, Nat.zero_le _⟩) (fun hn135 => ?_)
                      refine lv_if_eq (tgt := 155) hx hb dX9_proves_138 (by decide) (fun c138 => ?_) (fun c138 => ?_)
                      · have hE := hE.trans (if_pos c138)
                        refine lv_iinc (v := (nI (i5_101 + 1))) (lv' := [(5, .int (nI (i5_101 + 1))), (0, .ref (am 0)), (3, .int (nI hh)), (4, .int (nI r4_62))]) hx hb dX9_proves_155 hl (k := 3) rfl (nI_1 i5_101) (by decide) rfl (fun ls hl => ?_)
                        try rw [nI_1 i5_101] at hE
                        refine lv_goto (tgt := 101) hx hb dX9_proves_158 (by decide) ?_
                        exact ih101 (i5_101 + 1) m_needed_101 _ _ _ (by first | assumption | omega) (by omega) hE hP hD hS (lv_sub hl [1, 2, 3, 0] rfl)
                      · have hE := hE.trans (if_neg c138)
                        refine lv_aload_n hx hb dX9_proves_141 rfl (lv_at hl 0 rfl) ?_
                        refine lv_iload hx hb dX9_proves_142 (lv_at hl 3 rfl) ?_
                        refine lv_bipush (v := 20) hx hb dX9_proves_144 (by decide) ?_
                        refine lv_idiv hx hb dX9_proves_146 (by decide) ?_
                        refine lv_iload hx hb dX9_proves_147 (lv_at hl 3 rfl) ?_
                        refine lv_bipush (v := 20) hx hb dX9_proves_149 (by decide) ?_
                        refine lv_irem hx hb dX9_proves_151 (by decide) ?_
                        obtain ⟨t152, ht152⟩ : ∃ z, FX9_needs (g9_facts bm) (g9_rules bm) (g9_kind bm) (g9_head bm) (g9_body bm) (g9_except bm) (g9_strength bm) (g9_off bm) (g9_over bm) m_known_98 m_needed_101 ((nI i5_101) / 20) ((nI i5_101) - (nI i5_101) / 20 * 20) = z := ⟨_, rfl⟩
                        have hE := hE.trans (bnd_eq ht152)
                        have hc := c_X9_needs l G am (s9_lists (s9_needed (s9_rounds (s9_fresh (s9_known (s9_came bm t1.1) m_known_98) t1.2.2.1) t1.2.2.2) m_needed_101) 0) ((nI i5_101) / 20) ((nI i5_101) - (nI i5_101) / 20 * 20) (fun h2 => hpn r4_62 i5_101 (by omega) (by omega) (by omega) (by rw [nI_clamp (by omega)] at c117; exact c117) h2 _ hK98) (hz_m_rules) _ (by simp only [gs9_facts_lists, gs9_facts_needed, gs9_facts_rounds, gs9_facts_fresh, gs9_facts_known, gs9_facts_came, gs9_rules_lists, gs9_rules_needed, gs9_rules_rounds, gs9_rules_fresh, gs9_rules_known, gs9_rules_came, gs9_kind_lists, gs9_kind_needed, gs9_kind_rounds, gs9_kind_fresh, gs9_kind_known, gs9_kind_came, gs9_head_lists, gs9_head_needed, gs9_head_rounds, gs9_head_fresh, gs9_head_known, gs9_head_came, gs9_body_lists, gs9_body_needed, gs9_body_rounds, gs9_body_fresh, gs9_body_known, gs9_body_came, gs9_except_lists, gs9_except_needed, gs9_except_rounds, gs9_except_fresh, gs9_except_known, gs9_except_came, gs9_strength_lists, gs9_strength_needed, gs9_strength_rounds, gs9_strength_fresh, gs9_strength_known, gs9_strength_came, gs9_off_lists, gs9_off_needed, gs9_off_rounds, gs9_off_fresh, gs9_off_known, gs9_off_came, gs9_over_lists, gs9_over_needed, gs9_over_rounds, gs9_over_fresh, gs9_over_known, gs9_over_came, gs9_known_lists, gs9_known_needed, gs9_known_rounds, gs9_known_fresh, gg9_known, gs9_needed_lists, gg9_needed]; exact ht152)
                        refine zgoV (bs' := [w9 G am (s9_needed (s9_lists (s9_needed (s9_rounds (s9_fresh (s9_known (s9_came bm t1.1) m_known_98) t1.2.2.1) t1.2.2.2) m_needed_101) 0) t152)]) hc [0] rfl rfl rfl hP hD hS hA (va_runV (As := [.int ((nI i5_101) / 20), .int ((nI i5_101) - (nI i5_101) / 20 * 20)]) (rest := []) S (hc.2 _) (cwV 2 S.2.2.2.2 gX9_proves_X9_needs rfl rfl rfl (by decide +kernel) ⟨Nat.le_of_ble_eq_true rfl, Nat.le_of_ble_eq_true rfl⟩) (zpV hK hP hD (is := [0]) rfl rfl 0 rfl rfl (ci := 9) rfl) rfl rfl hl.1 rfl (lv_room (Nat.le_of_ble_eq_true rfl)) dX9_proves_152 ⟨Nat.zero_le _, Nat.zero_le _⟩) (fun H locs hP hD hS => ?_)
                        refine lv_iinc (v := (nI (i5_101 + 1))) (lv' := [(5, .int (nI (i5_101 + 1))), (0, .ref (am 0)), (3, .int (nI hh)), (4, .int (nI r4_62))]) hx hb dX9_proves_155 hl (k := 3) rfl (nI_1 i5_101) (by decide) rfl (fun ls hl => ?_)
                        try rw [nI_1 i5_101] at hE
                        refine lv_goto (tgt := 101) hx hb dX9_proves_158 (by decide) ?_
                        rw [show (s9_needed (s9_lists (s9_needed (s9_rounds (s9_fresh (s9_known (s9_came bm t1.1) m_known_98) t1.2.2.1) t1.2.2.2) m_needed_101) 0) t152) = (s9_lists (s9_needed (s9_rounds (s9_fresh (s9_known (s9_came bm t1.1) m_known_98) t1.2.2.1) t1.2.2.2) t152) 0) from ((cm9_needed_lists _ 0 t152).trans (congrArg (fun z => s9_lists z 0) (ss9_needed _ m_needed_101 t152)))] at hP hD
                        exact ih101 (i5_101 + 1) t152 _ _ _ (by first | assumption | omega) (by omega) hE hP hD hS (lv_sub hl [1, 2, 3, 0] rfl)
              refine lv_istore (lv' := [(5, .int 0), (0, .ref (am 0)), (3, .int (nI hh)), (4, .int (nI r4_62))]) hx hb dX9_proves_99 hl (by decide) rfl (fun ls hl => ?_)
              exact hB101 81 0 m_needed_62 _ _ _ (by first | assumption | omega) (by omega) hE hP hD hS (lv_sub hl [1, 2, 3, 0] rfl)
            have hB70 : ∀ (n70 : Nat) (i5_70 : Nat) (m_known_70 : Nat → Int32) (H : Heap) (locs : List Loc) (ls : Array Slot), (i5_70 ≤ 4) → (∀ t : Nat, t < i5_70 → m_known_70 t = FX9_cameIn t1.1 (nI t) (nI r4_62) 1) → 5 ≤ i5_70 + n70 → T = FX9_proves_70 (g9_facts bm) (g9_rules bm) (g9_kind bm) (g9_head bm) (g9_body bm) (g9_except bm) (g9_strength bm) (g9_off bm) (g9_over bm) (g9_came bm) (g9_known bm) (g9_fresh bm) (g9_rounds bm) (g9_needed bm) (g9_listed bm) (g9_lists bm) x1 x2 (fun x3_62' x4_62' m_came_62' m_known_62' m_fresh_62' m_rounds_62' m_needed_62' m_listed_62' m_lists_62' => FX9_proves_62 (g9_facts bm) (g9_rules bm) (g9_kind bm) (g9_head bm) (g9_body bm) (g9_except bm) (g9_strength bm) (g9_off bm) (g9_over bm) (g9_came bm) (g9_known bm) (g9_fresh bm) (g9_rounds bm) (g9_needed bm) (g9_listed bm) (g9_lists bm) x1 x2 (FX9_proves_167 (g9_facts bm) (g9_rules bm) (g9_kind bm) (g9_head bm) (g9_body bm) (g9_except bm) (g9_strength bm) (g9_off bm) (g9_over bm) (g9_came bm) (g9_known bm) (g9_fresh bm) (g9_rounds bm) (g9_needed bm) (g9_listed bm) (g9_lists bm) x1 x2) n62 x3_62' x4_62' m_came_62' m_known_62' m_fresh_62' m_rounds_62' m_needed_62' m_listed_62' m_lists_62') (FX9_proves_167 (g9_facts bm) (g9_rules bm) (g9_kind bm) (g9_head bm) (g9_body bm) (g9_except bm) (g9_strength bm) (g9_off bm) (g9_over bm) (g9_came bm) (g9_known bm) (g9_fresh bm) (g9_rounds bm) (g9_needed bm) (g9_listed bm) (g9_lists bm) x1 x2) (FX9_proves_98 (g9_facts bm) (g9_rules bm) (g9_kind bm) (g9_head bm) (g9_body bm) (g9_except bm) (g9_strength bm) (g9_off bm) (g9_over bm) (g9_came bm) (g9_known bm) (g9_fresh bm) (g9_rounds bm) (g9_needed bm) (g9_listed bm) (g9_lists bm) x1 x2 (fun x3_62' x4_62' m_came_62' m_known_62' m_fresh_62' m_rounds_62' m_needed_62' m_listed_62' m_lists_62' => FX9_proves_62 (g9_facts bm) (g9_rules bm) (g9_kind bm) (g9_head bm) (g9_body bm) (g9_except bm) (g9_strength bm) (g9_off bm) (g9_over bm) (g9_came bm) (g9_known bm) (g9_fresh bm) (g9_rounds bm) (g9_needed bm) (g9_listed bm) (g9_lists bm) x1 x2 (FX9_proves_167 (g9_facts bm) (g9_rules bm) (g9_kind bm) (g9_head bm) (g9_body bm) (g9_except bm) (g9_strength bm) (g9_off bm) (g9_over bm) (g9_came bm) (g9_known bm) (g9_fresh bm) (g9_rounds bm) (g9_needed bm) (g9_listed bm) (g9_lists bm) x1 x2) n62 x3_62' x4_62' m_came_62' m_known_62' m_fresh_62' m_rounds_62' m_needed_62' m_listed_62' m_lists_62') (FX9_proves_167 (g9_facts bm) (g9_rules bm) (g9_kind bm) (g9_head bm) (g9_body bm) (g9_except bm) (g9_strength bm) (g9_off bm) (g9_over bm) (g9_came bm) (g9_known bm) (g9_fresh bm) (g9_rounds bm) (g9_needed bm) (g9_listed bm) (g9_lists bm) x1 x2)) n70 (nI hh) (nI r4_62) (nI i5_70) t1.1 m_known_70 t1.2.2.1 t1.2.2.2 m_needed_62 (g9_listed bm) 0 → zP G [w9 G am (s9_lists (s9_needed (s9_rounds (s9_fresh (s9_known (s9_came bm t1.1) m_known_70) t1.2.2.1) t1.2.2.2) m_needed_62) 0)] H → zD A [w9 G am (s9_lists (s9_needed (s9_rounds (s9_fresh (s9_known (s9_came bm t1.1) m_known_70) t1.2.2.1) t1.2.2.2) m_needed_62) 0)] → va_S A s.heap H locs → lv_has ls 6 [(0, .ref (am 0)), (3, .int (nI hh)), (4, .int (nI r4_62)), (5, .int (nI i5_70))] → W p l e rmX9_proves s m args below meth c H locs 0 0 Q (F0 m 70 ls []) := by
              intro n70
              induction n70 with
              | zero =>
                intro i5_70 m_known_70 H locs ls hi5_70 hK70 hn hE hP hD hS hl
                exact absurd hn (by omega)
              | succ n70 ih70 =>
                intro i5_70 m_known_70 H locs ls hi5_70 hK70 hn hE hP hD hS hl
                have hE := hE.trans (FX9_proves_70.eq_2 _ _ _ _ _ _ _ _ _ _ _ _ _ _ _ _ _ _ _ _ _ _ _ _ _ _ _ _ _ _ _ _)
                refine lv_iload hx hb dX9_proves_70 (lv_at hl 3 rfl) ?_
                refine lv_iconst (v := 4) hx hb dX9_proves_72 (by decide) ?_
                refine lv_icmp_ge (tgt := 98) hx hb dX9_proves_73 (by decide) (fun c73 => ?_) (fun c73 => ?_)
                · have hE := hE.trans (if_pos c73)
                  have he70 : i5_70 = 4 := zge4 hi5_70 c73
                  exact hB98 m_known_70 _ _ _ (by (rw [← he70]; exact hK70)) hE hP hD hS (lv_sub hl [0, 1, 2] rfl)
                · have hE := hE.trans (if_neg c73)
                  have hl5_70 : i5_70 < 4 := zlt (N := 4) rfl (by omega) (by omega) c73
                  refine lv_aload_n hx hb dX9_proves_76 rfl (lv_at hl 0 rfl) ?_
                  refine zg9_known S in_X9_proves_9 hK hP 0 rfl (List.mem_of_getElem? (i := 4) rfl) dX9_proves_77 ?_
                  refine lv_iload hx hb dX9_proves_80 (lv_at hl 3 rfl) ?_
                  refine lv_aload_n hx hb dX9_proves_82 rfl (lv_at hl 0 rfl) ?_
                  refine lv_iload hx hb dX9_proves_83 (lv_at hl 3 rfl) ?_
                  refine lv_iload hx hb dX9_proves_85 (lv_at hl 2 rfl) ?_
                  refine lv_iconst (v := 1) hx hb dX9_proves_87 (by decide) ?_
                  obtain ⟨t88, ht88⟩ : ∃ z, FX9_cameIn t1.1 (nI i5_70) (nI r4_62) 1 = z := ⟨_, rfl⟩
                  have hE := hE.trans (bnd_eq ht88)
                  have hc := c_X9_cameIn l G am (s9_lists (s9_needed (s9_rounds (s9_fresh (s9_known (s9_came bm t1.1) m_known_70) t1.2.2.1) t1.2.2.2) m_needed_62) 0) (nI i5_70) (nI r4_62) 1 ((vp_in_nI (by omega) (by omega))) _ (by simp only [gs9_came_lists, gs9_came_needed, gs9_came_rounds, gs9_came_fresh, gs9_came_known, gg9_came]; exact ht88)
                  refine zgoR (va_runV (As := [.int (nI i5_70), .int (nI r4_62), .int 1]) (rest := [.int (nI i5_70), .ref (am 18)]) S (hc _) (cwV 3 S.2.2.2.2 gX9_proves_X9_cameIn rfl rfl rfl (by decide +kernel) ⟨Nat.le_of_ble_eq_true rfl, Nat.le_of_ble_eq_true rfl⟩) (zpV hK hP hD (is := [0]) rfl rfl 0 rfl rfl (ci := 9) rfl) rfl rfl hl.1 rfl (lv_room (Nat.le_of_ble_eq_true rfl)) dX9_proves_88 ⟨Nat.zero_le _, Nat.zero_le _⟩) (fun hn88 => ?_)
                  refine zs9_known (bs1 := [w9 G am (s9_known (s9_lists (s9_needed (s9_rounds (s9_fresh (s9_known (s9_came bm t1.1) m_known_70) t1.2.2.1) t1.2.2.2) m_needed_62) 0) (upd m_known_70 (nI i5_70).toNatClampNeg t88))]) S hK hP hD hS 0 rfl (vp_in_nI (by omega) (by omega)) (f := m_known_70) ((gs9_known_lists _ 0).trans ((gs9_known_needed _ m_needed_62).trans ((gs9_known_rounds _ t1.2.2.2).trans ((gs9_known_fresh _ t1.2.2.1).trans (gg9_known _ m_known_70))))) dX9_proves_91 rfl (fun H locs hP hD hS => ?_)
                  refine lv_iinc (v := (nI (i5_70 + 1))) (lv' := [(5, .int (nI (i5_70 + 1))), (0, .ref (am 0)), (3, .int (nI hh)), (4, .int (nI r4_62))]) hx hb dX9_proves_92 hl (k := 3) rfl (nI_1 i5_70) (by decide) rfl (fun ls hl => ?_)
                  try rw [nI_1 i5_70] at hE
                  refine lv_goto (tgt := 70) hx hb dX9_proves_95 (by decide) ?_
                  rw [show (s9_known (s9_lists (s9_needed (s9_rounds (s9_fresh (s9_known (s9_came bm t1.1) m_known_70) t1.2.2.1) t1.2.2.2) m_needed_62) 0) (upd m_known_70 (nI i5_70).toNatClampNeg t88)) = (s9_lists (s9_needed (s9_rounds (s9_fresh (s9_known (s9_came bm t1.1) (upd m_known_70 (nI i5_70).toNatClampNeg t88)) t1.2.2.1) t1.2.2.2) m_needed_62) 0) from ((cm9_known_lists _ 0 (upd m_known_70 (nI i5_70).toNatClampNeg t88)).trans (congrArg (fun z => s9_lists z 0) ((cm9_known_needed _ m_needed_62 (upd m_known_70 (nI i5_70).toNatClampNeg t88)).trans (congrArg (fun z => s9_needed z m_needed_62) ((cm9_known_rounds _ t1.2.2.2 (upd m_known_70 (nI i5_70).toNatClampNeg t88)).trans (congrArg (fun z => s9_rounds z t1.2.2.2) ((cm9_known_fresh _ t1.2.2.1 (upd m_known_70 (nI i5_70).toNatClampNeg t88)).trans (congrArg (fun z => s9_fresh z t1.2.2.1) (ss9_known _ m_known_70 (upd m_known_70 (nI i5_70).toNatClampNeg t88))))))))))] at hP hD
                  exact ih70 (i5_70 + 1) (upd m_known_70 (nI i5_70).toNatClampNeg t88) _ _ _ (by first | assumption | omega) (by (rw [← ht88]; exact zknS hl5_70 (g := fun t => FX9_cameIn t1.1 (nI t) (nI r4_62) 1) hK70)) (by omega) hE hP hD hS (lv_sub hl [1, 2, 3, 0] rfl)
            refine lv_istore (lv' := [(5, .int 0), (0, .ref (am 0)), (3, .int (nI hh)), (4, .int (nI r4_62))]) hx hb dX9_proves_68 hl (by decide) rfl (fun ls hl => ?_)
            exact hB70 5 0 m_known_62 _ _ _ (by first | assumption | omega) (by exact fun t h => absurd h (Nat.not_lt_zero t)) (by omega) hE hP hD hS (lv_sub hl [1, 2, 3, 0] rfl)
      refine lv_istore (lv' := [(4, .int (nI hh)), (0, .ref (am 0)), (1, .int x1), (2, .int x2), (3, .int (nI hh))]) hx hb dX9_proves_60 hl (by decide) rfl (fun ls hl => ?_)
      rw [show (s9_needed (s9_lists (s9_needed (s9_rounds (s9_fresh (s9_known (s9_came bm t1.1) t1.2.1) t1.2.2.1) t1.2.2.2) m_needed_50) 0) (upd m_needed_50 x2.toNatClampNeg (1 <<< (x1 &&& 31)))) = (s9_lists (s9_needed (s9_rounds (s9_fresh (s9_known (s9_came bm t1.1) t1.2.1) t1.2.2.1) t1.2.2.2) (upd m_needed_50 x2.toNatClampNeg (1 <<< (x1 &&& 31)))) 0) from ((cm9_needed_lists _ 0 (upd m_needed_50 x2.toNatClampNeg (1 <<< (x1 &&& 31)))).trans (congrArg (fun z => s9_lists z 0) (ss9_needed _ m_needed_50 (upd m_needed_50 x2.toNatClampNeg (1 <<< (x1 &&& 31))))))] at hP hD
      exact hB62 82 hh t1.2.1 (upd m_needed_50 x2.toNatClampNeg (1 <<< (x1 &&& 31))) _ _ _ (by first | assumption | omega) (by omega) hE hP hD hS (lv_sub hl [1, 4, 0] rfl)
    have hB30 : ∀ (n30 : Nat) (i4_30 : Nat) (m_needed_30 : Nat → Int32) (H : Heap) (locs : List Loc) (ls : Array Slot), (i4_30 ≤ 4) → 5 ≤ i4_30 + n30 → T = FX9_proves_30 (g9_facts bm) (g9_rules bm) (g9_kind bm) (g9_head bm) (g9_body bm) (g9_except bm) (g9_strength bm) (g9_off bm) (g9_over bm) (g9_came bm) (g9_known bm) (g9_fresh bm) (g9_rounds bm) (g9_needed bm) (g9_listed bm) (g9_lists bm) x1 x2 (FX9_proves_50 (g9_facts bm) (g9_rules bm) (g9_kind bm) (g9_head bm) (g9_body bm) (g9_except bm) (g9_strength bm) (g9_off bm) (g9_over bm) (g9_came bm) (g9_known bm) (g9_fresh bm) (g9_rounds bm) (g9_needed bm) (g9_listed bm) (g9_lists bm) x1 x2) n30 (nI hh) (nI i4_30) t1.1 t1.2.1 t1.2.2.1 t1.2.2.2 m_needed_30 (g9_listed bm) 0 → zP G [w9 G am (s9_lists (s9_needed (s9_rounds (s9_fresh (s9_known (s9_came bm t1.1) t1.2.1) t1.2.2.1) t1.2.2.2) m_needed_30) 0)] H → zD A [w9 G am (s9_lists (s9_needed (s9_rounds (s9_fresh (s9_known (s9_came bm t1.1) t1.2.1) t1.2.2.1) t1.2.2.2) m_needed_30) 0)] → va_S A s.heap H locs → lv_has ls 6 [(0, .ref (am 0)), (1, .int x1), (2, .int x2), (3, .int (nI hh)), (4, .int (nI i4_30))] → W p l e rmX9_proves s m args below meth c H locs 0 0 Q (F0 m 30 ls []) := by
      intro n30
      induction n30 with
      | zero =>
        intro i4_30 m_needed_30 H locs ls hi4_30 hn hE hP hD hS hl
        exact absurd hn (by omega)
      | succ n30 ih30 =>
        intro i4_30 m_needed_30 H locs ls hi4_30 hn hE hP hD hS hl
        have hE := hE.trans (FX9_proves_30.eq_2 _ _ _ _ _ _ _ _ _ _ _ _ _ _ _ _ _ _ _ _ _ _ _ _ _ _ _ _ _)
        refine lv_iload hx hb dX9_proves_30 (lv_at hl 4 rfl) ?_
        refine lv_iconst (v := 4) hx hb dX9_proves_32 (by decide) ?_
        refine lv_icmp_ge (tgt := 50) hx hb dX9_proves_33 (by decide) (fun c33 => ?_) (fun c33 => ?_)
        · have hE := hE.trans (if_pos c33)
          exact hB50 m_needed_30 _ _ _ hE hP hD hS (lv_sub hl [0, 1, 2, 3] rfl)
        · have hE := hE.trans (if_neg c33)
          have hl4_30 : i4_30 < 4 := zlt (N := 4) rfl (by omega) (by omega) c33
          refine lv_aload_n hx hb dX9_proves_36 rfl (lv_at hl 0 rfl) ?_
          refine zg9_needed S in_X9_proves_9 hK hP 0 rfl (List.mem_of_getElem? (i := 3) rfl) dX9_proves_37 ?_
          refine lv_iload hx hb dX9_proves_40 (lv_at hl 4 rfl) ?_
          refine lv_iconst (v := 0) hx hb dX9_proves_42 (by decide) ?_
          refine zs9_needed (bs1 := [w9 G am (s9_needed (s9_lists (s9_needed (s9_rounds (s9_fresh (s9_known (s9_came bm t1.1) t1.2.1) t1.2.2.1) t1.2.2.2) m_needed_30) 0) (upd m_needed_30 (nI i4_30).toNatClampNeg 0))]) S hK hP hD hS 0 rfl (vp_in_nI (by omega) (by omega)) (f := m_needed_30) ((gs9_needed_lists _ 0).trans (gg9_needed _ m_needed_30)) dX9_proves_43 rfl (fun H locs hP hD hS => ?_)
          refine lv_iinc (v := (nI (i4_30 + 1))) (lv' := [(4, .int (nI (i4_30 + 1))), (0, .ref (am 0)), (1, .int x1), (2, .int x2), (3, .int (nI hh))]) hx hb dX9_proves_44 hl (k := 4) rfl (nI_1 i4_30) (by decide) rfl (fun ls hl => ?_)
          try rw [nI_1 i4_30] at hE
          refine lv_goto (tgt := 30) hx hb dX9_proves_47 (by decide) ?_
          rw [show (s9_needed (s9_lists (s9_needed (s9_rounds (s9_fresh (s9_known (s9_came bm t1.1) t1.2.1) t1.2.2.1) t1.2.2.2) m_needed_30) 0) (upd m_needed_30 (nI i4_30).toNatClampNeg 0)) = (s9_lists (s9_needed (s9_rounds (s9_fresh (s9_known (s9_came bm t1.1) t1.2.1) t1.2.2.1) t1.2.2.2) (upd m_needed_30 (nI i4_30).toNatClampNeg 0)) 0) from ((cm9_needed_lists _ 0 (upd m_needed_30 (nI i4_30).toNatClampNeg 0)).trans (congrArg (fun z => s9_lists z 0) (ss9_needed _ m_needed_30 (upd m_needed_30 (nI i4_30).toNatClampNeg 0))))] at hP hD
          exact ih30 (i4_30 + 1) (upd m_needed_30 (nI i4_30).toNatClampNeg 0) _ _ _ (by first | assumption | omega) (by omega) hE hP hD hS (lv_sub hl [1, 2, 3, 4, 0] rfl)
    refine lv_istore (lv' := [(4, .int 0), (3, .int (nI hh)), (0, .ref (am 0)), (1, .int x1), (2, .int x2)]) hx hb dX9_proves_28 hl (by decide) rfl (fun ls hl => ?_)
    rw [show (s9_lists (s9_rounds (s9_fresh (s9_known (s9_came bm t1.1) t1.2.1) t1.2.2.1) t1.2.2.2) 0) = (s9_lists (s9_needed (s9_rounds (s9_fresh (s9_known (s9_came bm t1.1) t1.2.1) t1.2.2.1) t1.2.2.2) (g9_needed bm)) 0) from (congrArg (fun z => s9_lists z 0) (((se9_needed _).symm).trans (congrArg (fun v => s9_needed (s9_rounds (s9_fresh (s9_known (s9_came bm t1.1) t1.2.1) t1.2.2.1) t1.2.2.2) v) ((gs9_needed_rounds _ t1.2.2.2).trans ((gs9_needed_fresh _ t1.2.2.1).trans ((gs9_needed_known _ t1.2.1).trans (gs9_needed_came _ t1.1)))))))] at hP hD
    exact hB30 5 0 (g9_needed bm) _ _ _ (by first | assumption | omega) (by omega) hE hP hD hS (lv_sub hl [2, 3, 4, 1, 0] rfl)
  · have hE := hE.trans (if_pos c22)
    refine lv_iconst (v := 0) hx hb dX9_proves_25 (by decide) ?_
    rw [show (s9_lists (s9_rounds (s9_fresh (s9_known (s9_came bm t1.1) t1.2.1) t1.2.2.1) t1.2.2.2) 0) = (s9_lists (s9_listed (s9_needed (s9_rounds (s9_fresh (s9_known (s9_came bm t1.1) t1.2.1) t1.2.2.1) t1.2.2.2) (g9_needed bm)) (g9_listed bm)) 0) from ((congrArg (fun z => s9_lists z 0) (((se9_needed _).symm).trans (congrArg (fun v => s9_needed (s9_rounds (s9_fresh (s9_known (s9_came bm t1.1) t1.2.1) t1.2.2.1) t1.2.2.2) v) ((gs9_needed_rounds _ t1.2.2.2).trans ((gs9_needed_fresh _ t1.2.2.1).trans ((gs9_needed_known _ t1.2.1).trans (gs9_needed_came _ t1.1))))))).trans (congrArg (fun z => s9_lists z 0) (((se9_listed _).symm).trans (congrArg (fun v => s9_listed (s9_needed (s9_rounds (s9_fresh (s9_known (s9_came bm t1.1) t1.2.1) t1.2.2.1) t1.2.2.2) (g9_needed bm)) v) ((gs9_listed_needed _ (g9_needed bm)).trans ((gs9_listed_rounds _ t1.2.2.2).trans ((gs9_listed_fresh _ t1.2.2.1).trans ((gs9_listed_known _ t1.2.1).trans (gs9_listed_came _ t1.1)))))))))] at hP hD
    exact hret _ _ _ _ _ _ (by subst hE; rfl) zn0 hP hS dX9_proves_26

def zpp (c : Nat) (x : Int32) : Prop := ∃ P : Nat, P ≤ c ∧ x = nI P
theorem zpp_up {c d : Nat} {x : Int32} (h : zpp c x) (e : c ≤ d) : zpp d x := by
  obtain ⟨P, h1, h2⟩ := h
  exact ⟨P, by omega, h2⟩
theorem zpp_in {c d : Nat} {x : Int32} (h : zpp c x) (e : c < d) (hd : d < 2 ^ 31) : vp_in x d := by
  obtain ⟨P, h1, rfl⟩ := h
  exact vp_in_nI (by omega) hd
theorem zpp_1 {c d : Nat} {x : Int32} (h : zpp c x) (e : c + 1 ≤ d := by omega) : zpp d (x + 1) := by
  obtain ⟨P, h1, rfl⟩ := h
  exact ⟨P + 1, by omega, nI_1 P⟩

theorem in_X9_proof_9 : ∀ w ∈ u_ws RX9 TX9 40, w ∈ wsX9_proof := by decide +kernel
def rmX9_proof : Room := { frames := 8, cells := 0, slots := 0, locals := 180 }
set_option maxHeartbeats 4000000 in
set_option maxRecDepth 100000 in
theorem c_X9_proof (l : Launch) (G : zG) (am : Nat → Nat) (bm : S9) (x1 : Int32) (x2 : Int32) (x3 : Int32) (hpv : zPv (g9_facts bm) (g9_rules bm) (g9_kind bm) (g9_head bm) (g9_body bm) (g9_except bm) (g9_strength bm) (g9_off bm) (g9_over bm) (g9_came bm) (g9_known bm) (g9_fresh bm) (g9_rounds bm)) (hpl : ∀ T, vp_in x1 20 → vp_in x2 4 → FX9_proves (g9_facts bm) (g9_rules bm) (g9_kind bm) (g9_head bm) (g9_body bm) (g9_except bm) (g9_strength bm) (g9_off bm) (g9_over bm) (g9_came bm) (g9_known bm) (g9_fresh bm) (g9_rounds bm) (g9_needed bm) (g9_listed bm) (g9_lists bm) x1 x2 = T → ¬ T.1 = 0 → ∃ N : Nat, N ≤ 80 ∧ T.2.2.2.2.2.2.2 = nI N) (hz_m_rules : ∃ N : Nat, N ≤ 16 ∧ g9_rules bm = nI N) (T : Int32 × (Nat → Int32) × (Nat → Int32) × (Nat → Int32) × (Int32) × (Nat → Int32) × (Nat → Int32) × (Int32)) (hT : FX9_proof (g9_facts bm) (g9_rules bm) (g9_kind bm) (g9_head bm) (g9_body bm) (g9_except bm) (g9_strength bm) (g9_off bm) (g9_over bm) (g9_came bm) (g9_known bm) (g9_fresh bm) (g9_rounds bm) (g9_needed bm) (g9_listed bm) (g9_lists bm) x1 x2 x3 = T) : zI l yX9_proof wsX9_proof rmX9_proof .int G [.ref (am 0), .int x1, .int x2, .int x3] [w9 G am bm] T.1 [w9 G am (s9_lists (s9_listed (s9_needed (s9_rounds (s9_fresh (s9_known (s9_came bm T.2.1) T.2.2.1) T.2.2.2.1) T.2.2.2.2.1) T.2.2.2.2.2.1) T.2.2.2.2.2.2.1) T.2.2.2.2.2.2.2)] := by
  refine zI.mk (cc := cX9_proof) (maxL := 4) (by decide +kernel) rfl (Nat.le_of_ble_eq_true rfl) (zfl_cons (wf9 _ _ _ _) rfl) ?_
  intro p e s m args below meth c Q A ls S hK hD hA hP hl hret
  have hx := S.1
  have hb := S.2.1
  have hS : va_S A s.heap s.heap [] := va_S.rf
  have hl : lv_has ls 4 [(0, .ref (am 0)), (1, .int x1), (2, .int x2), (3, .int x3)] := hl
  have hE := hT.symm.trans (FX9_proof.eq_1 _ _ _ _ _ _ _ _ _ _ _ _ _ _ _ _ _ _ _)
  refine lv_iload_n hx hb dX9_proof_0 rfl (lv_at hl 1 rfl) ?_
  obtain ⟨t1, ht1⟩ : ∃ z, FX9_isLiteral x1 = z := ⟨_, rfl⟩
  have hE := hE.trans (bnd_eq ht1)
  have hc := c_X9_isLiteral l G x1 _ ht1
  refine zgoR (va_runS (As := [.int x1]) (rest := []) S (hc _) (va_cwS 1 S.2.2.2.2 gX9_proof_X9_isLiteral rfl rfl rfl (by decide +kernel) ⟨Nat.le_of_ble_eq_true rfl, Nat.le_of_ble_eq_true rfl⟩) (zpS hK hP hD (is := []) rfl rfl) rfl rfl hl.1 rfl (lv_room (Nat.le_of_ble_eq_true rfl)) dX9_proof_1 ⟨Nat.zero_le _, Nat.zero_le _⟩) (fun hn1 => ?_)
  refine lv_if_eq (tgt := 19) hx hb dX9_proof_4 (by decide) (fun c4 => ?_) (fun c4 => ?_)
  · have hE := hE.trans (if_pos c4)
    refine lv_iconst (v := (-1)) hx hb dX9_proof_19 (by decide) ?_
    rw [show bm = (s9_lists (s9_listed (s9_needed (s9_rounds (s9_fresh (s9_known (s9_came bm (g9_came bm)) (g9_known bm)) (g9_fresh bm)) (g9_rounds bm)) (g9_needed bm)) (g9_listed bm)) (g9_lists bm)) from ((((((((se9_came _).symm).trans (((se9_known _).symm).trans (congrArg (fun v => s9_known (s9_came bm (g9_came bm)) v) (gs9_known_came _ (g9_came bm))))).trans (((se9_fresh _).symm).trans (congrArg (fun v => s9_fresh (s9_known (s9_came bm (g9_came bm)) (g9_known bm)) v) ((gs9_fresh_known _ (g9_known bm)).trans (gs9_fresh_came _ (g9_came bm)))))).trans (((se9_rounds _).symm).trans (congrArg (fun v => s9_rounds (s9_fresh (s9_known (s9_came bm (g9_came bm)) (g9_known bm)) (g9_fresh bm)) v) ((gs9_rounds_fresh _ (g9_fresh bm)).trans ((gs9_rounds_known _ (g9_known bm)).trans (gs9_rounds_came _ (g9_came bm))))))).trans (((se9_needed _).symm).trans (congrArg (fun v => s9_needed (s9_rounds (s9_fresh (s9_known (s9_came bm (g9_came bm)) (g9_known bm)) (g9_fresh bm)) (g9_rounds bm)) v) ((gs9_needed_rounds _ (g9_rounds bm)).trans ((gs9_needed_fresh _ (g9_fresh bm)).trans ((gs9_needed_known _ (g9_known bm)).trans (gs9_needed_came _ (g9_came bm)))))))).trans (((se9_listed _).symm).trans (congrArg (fun v => s9_listed (s9_needed (s9_rounds (s9_fresh (s9_known (s9_came bm (g9_came bm)) (g9_known bm)) (g9_fresh bm)) (g9_rounds bm)) (g9_needed bm)) v) ((gs9_listed_needed _ (g9_needed bm)).trans ((gs9_listed_rounds _ (g9_rounds bm)).trans ((gs9_listed_fresh _ (g9_fresh bm)).trans ((gs9_listed_known _ (g9_known bm)).trans (gs9_listed_came _ (g9_came bm))))))))).trans (((se9_lists _).symm).trans (congrArg (fun v => s9_lists (s9_listed (s9_needed (s9_rounds (s9_fresh (s9_known (s9_came bm (g9_came bm)) (g9_known bm)) (g9_fresh bm)) (g9_rounds bm)) (g9_needed bm)) (g9_listed bm)) v) ((gs9_lists_listed _ (g9_listed bm)).trans ((gs9_lists_needed _ (g9_needed bm)).trans ((gs9_lists_rounds _ (g9_rounds bm)).trans ((gs9_lists_fresh _ (g9_fresh bm)).trans ((gs9_lists_known _ (g9_known bm)).trans (gs9_lists_came _ (g9_came bm))))))))))] at hP hD
    exact hret _ _ _ _ _ _ (by subst hE; rfl) rfl hP hS dX9_proof_20
  · have hE := hE.trans (if_neg c4)
    have hx1_20 : vp_in x1 20 := zisLit9 (by rw [ht1]; exact c4)
    refine lv_iload_n hx hb dX9_proof_7 rfl (lv_at hl 2 rfl) ?_
    obtain ⟨t8, ht8⟩ : ∃ z, FX9_isTag x2 = z := ⟨_, rfl⟩
    have hE := hE.trans (bnd_eq ht8)
    have hc := c_X9_isTag l G x2 _ ht8
    refine zgoR (va_runS (As := [.int x2]) (rest := []) S (hc _) (va_cwS 1 S.2.2.2.2 gX9_proof_X9_isTag rfl rfl rfl (by decide +kernel) ⟨Nat.le_of_ble_eq_true rfl, Nat.le_of_ble_eq_true rfl⟩) (zpS hK hP hD (is := []) rfl rfl) rfl rfl hl.1 rfl (lv_room (Nat.le_of_ble_eq_true rfl)) dX9_proof_8 ⟨Nat.zero_le _, Nat.zero_le _⟩) (fun hn8 => ?_)
    refine lv_if_eq (tgt := 19) hx hb dX9_proof_11 (by decide) (fun c11 => ?_) (fun c11 => ?_)
    · have hE := hE.trans (if_pos c11)
      refine lv_iconst (v := (-1)) hx hb dX9_proof_19 (by decide) ?_
      rw [show bm = (s9_lists (s9_listed (s9_needed (s9_rounds (s9_fresh (s9_known (s9_came bm (g9_came bm)) (g9_known bm)) (g9_fresh bm)) (g9_rounds bm)) (g9_needed bm)) (g9_listed bm)) (g9_lists bm)) from ((((((((se9_came _).symm).trans (((se9_known _).symm).trans (congrArg (fun v => s9_known (s9_came bm (g9_came bm)) v) (gs9_known_came _ (g9_came bm))))).trans (((se9_fresh _).symm).trans (congrArg (fun v => s9_fresh (s9_known (s9_came bm (g9_came bm)) (g9_known bm)) v) ((gs9_fresh_known _ (g9_known bm)).trans (gs9_fresh_came _ (g9_came bm)))))).trans (((se9_rounds _).symm).trans (congrArg (fun v => s9_rounds (s9_fresh (s9_known (s9_came bm (g9_came bm)) (g9_known bm)) (g9_fresh bm)) v) ((gs9_rounds_fresh _ (g9_fresh bm)).trans ((gs9_rounds_known _ (g9_known bm)).trans (gs9_rounds_came _ (g9_came bm))))))).trans (((se9_needed _).symm).trans (congrArg (fun v => s9_needed (s9_rounds (s9_fresh (s9_known (s9_came bm (g9_came bm)) (g9_known bm)) (g9_fresh bm)) (g9_rounds bm)) v) ((gs9_needed_rounds _ (g9_rounds bm)).trans ((gs9_needed_fresh _ (g9_fresh bm)).trans ((gs9_needed_known _ (g9_known bm)).trans (gs9_needed_came _ (g9_came bm)))))))).trans (((se9_listed _).symm).trans (congrArg (fun v => s9_listed (s9_needed (s9_rounds (s9_fresh (s9_known (s9_came bm (g9_came bm)) (g9_known bm)) (g9_fresh bm)) (g9_rounds bm)) (g9_needed bm)) v) ((gs9_listed_needed _ (g9_needed bm)).trans ((gs9_listed_rounds _ (g9_rounds bm)).trans ((gs9_listed_fresh _ (g9_fresh bm)).trans ((gs9_listed_known _ (g9_known bm)).trans (gs9_listed_came _ (g9_came bm))))))))).trans (((se9_lists _).symm).trans (congrArg (fun v => s9_lists (s9_listed (s9_needed (s9_rounds (s9_fresh (s9_known (s9_came bm (g9_came bm)) (g9_known bm)) (g9_fresh bm)) (g9_rounds bm)) (g9_needed bm)) (g9_listed bm)) v) ((gs9_lists_listed _ (g9_listed bm)).trans ((gs9_lists_needed _ (g9_needed bm)).trans ((gs9_lists_rounds _ (g9_rounds bm)).trans ((gs9_lists_fresh _ (g9_fresh bm)).trans ((gs9_lists_known _ (g9_known bm)).trans (gs9_lists_came _ (g9_came bm))))))))))] at hP hD
      exact hret _ _ _ _ _ _ (by subst hE; rfl) rfl hP hS dX9_proof_20
    · have hE := hE.trans (if_neg c11)
      have hx2_4 : vp_in x2 4 := zisTag9 (by rw [ht8]; exact c11)
      refine lv_iload_n hx hb dX9_proof_14 rfl (lv_at hl 3 rfl) ?_
      refine lv_iconst (v := (-1)) hx hb dX9_proof_15 (by decide) ?_
      refine lv_icmp_ge (tgt := 21) hx hb dX9_proof_16 (by decide) (fun c16 => ?_) (fun c16 => ?_)
      · have hE := hE.trans (if_pos c16)
        refine lv_aload_n hx hb dX9_proof_21 rfl (lv_at hl 0 rfl) ?_
        refine lv_iload_n hx hb dX9_proof_22 rfl (lv_at hl 1 rfl) ?_
        refine lv_iload_n hx hb dX9_proof_23 rfl (lv_at hl 2 rfl) ?_
        obtain ⟨t24, ht24⟩ : ∃ z, FX9_proves (g9_facts bm) (g9_rules bm) (g9_kind bm) (g9_head bm) (g9_body bm) (g9_except bm) (g9_strength bm) (g9_off bm) (g9_over bm) (g9_came bm) (g9_known bm) (g9_fresh bm) (g9_rounds bm) (g9_needed bm) (g9_listed bm) (g9_lists bm) x1 x2 = z := ⟨_, rfl⟩
        have hE := hE.trans (bnd_eq ht24)
        have hc := c_X9_proves l G am bm x1 x2 (hx1_20) (hx2_4) (by first | assumption | exact vp_in_nI (by omega) (by omega) | omega) (hz_m_rules) _ ht24
        refine zgoI (bs' := [w9 G am (s9_lists (s9_listed (s9_needed (s9_rounds (s9_fresh (s9_known (s9_came bm t24.2.1) t24.2.2.1) t24.2.2.2.1) t24.2.2.2.2.1) t24.2.2.2.2.2.1) t24.2.2.2.2.2.2.1) t24.2.2.2.2.2.2.2)]) hc [0] rfl rfl rfl hP hD hS hA (va_runV (As := [.int x1, .int x2]) (rest := []) S (hc.2 _) (cwV 2 S.2.2.2.2 gX9_proof_X9_proves rfl rfl rfl (by decide +kernel) ⟨Nat.le_of_ble_eq_true rfl, Nat.le_of_ble_eq_true rfl⟩) (zpV hK hP hD (is := [0]) rfl rfl 0 rfl rfl (ci := 9) rfl) rfl rfl hl.1 rfl (lv_room (Nat.le_of_ble_eq_true rfl)) dX9_proof_24 ⟨Nat.zero_le _, Nat.zero_le _⟩) (fun H locs hn24 hP hD hS => ?_)
        refine lv_if_eq (tgt := 38) hx hb dX9_proof_27 (by decide) (fun c27 => ?_) (fun c27 => ?_)
        · have hE := hE.trans (if_pos c27)
          refine lv_bipush (v := (-2)) hx hb dX9_proof_38 (by decide) ?_
          exact hret _ _ _ _ _ _ (by subst hE; rfl) rfl hP hS dX9_proof_40
        · have hE := hE.trans (if_neg c27)
          obtain ⟨NL, hNL, hNe⟩ := hpl _ hx1_20 hx2_4 ht24 c27
          refine lv_iload_n hx hb dX9_proof_30 rfl (lv_at hl 3 rfl) ?_
          refine lv_aload_n hx hb dX9_proof_31 rfl (lv_at hl 0 rfl) ?_
          refine zg9_lists S in_X9_proof_9 hK hP 0 rfl (List.mem_of_getElem? (i := 1) rfl) (v := t24.2.2.2.2.2.2.2) (gg9_lists _ t24.2.2.2.2.2.2.2) dX9_proof_32 ?_
          refine lv_icmp_lt (tgt := 41) hx hb dX9_proof_35 (by decide) (fun c35 => ?_) (fun c35 => ?_)
          · have hE := hE.trans (if_pos c35)
            have hk35 := zprK hNe hNL c35
            refine lv_iload_n hx hb dX9_proof_41 rfl (lv_at hl 3 rfl) ?_
            refine lv_if_ge (tgt := 52) hx hb dX9_proof_42 (by decide) (fun c42 => ?_) (fun c42 => ?_)
            · have hE := hE.trans (if_pos c42)
              refine lv_bipush (v := 100) hx hb dX9_proof_52 (by decide) ?_
              refine lv_aload_n hx hb dX9_proof_54 rfl (lv_at hl 0 rfl) ?_
              refine zg9_listed S in_X9_proof_9 hK hP 0 rfl (List.mem_of_getElem? (i := 2) rfl) dX9_proof_55 ?_
              refine lv_iload_n hx hb dX9_proof_58 rfl (lv_at hl 3 rfl) ?_
              refine zl9_listed S hK hP 0 rfl (hk35 c42) (f := t24.2.2.2.2.2.2.1) ((gs9_listed_lists _ t24.2.2.2.2.2.2.2).trans (gg9_listed _ t24.2.2.2.2.2.2.1)) dX9_proof_59 ?_
              refine lv_bipush (v := 20) hx hb dX9_proof_60 (by decide) ?_
              refine lv_idiv hx hb dX9_proof_62 (by decide) ?_
              refine lv_imul hx hb dX9_proof_63 ?_
              refine lv_aload_n hx hb dX9_proof_64 rfl (lv_at hl 0 rfl) ?_
              refine zg9_listed S in_X9_proof_9 hK hP 0 rfl (List.mem_of_getElem? (i := 2) rfl) dX9_proof_65 ?_
              refine lv_iload_n hx hb dX9_proof_68 rfl (lv_at hl 3 rfl) ?_
              refine zl9_listed S hK hP 0 rfl (hk35 c42) (f := t24.2.2.2.2.2.2.1) ((gs9_listed_lists _ t24.2.2.2.2.2.2.2).trans (gg9_listed _ t24.2.2.2.2.2.2.1)) dX9_proof_69 ?_
              refine lv_bipush (v := 20) hx hb dX9_proof_70 (by decide) ?_
              refine lv_irem hx hb dX9_proof_72 (by decide) ?_
              refine lv_iadd hx hb dX9_proof_73 ?_
              exact hret _ _ _ _ _ _ (by subst hE; rfl) rfl hP hS dX9_proof_74
            · have hE := hE.trans (if_neg c42)
              refine lv_aload_n hx hb dX9_proof_45 rfl (lv_at hl 0 rfl) ?_
              refine zg9_lists S in_X9_proof_9 hK hP 0 rfl (List.mem_of_getElem? (i := 1) rfl) (v := t24.2.2.2.2.2.2.2) (gg9_lists _ t24.2.2.2.2.2.2.2) dX9_proof_46 ?_
              refine lv_goto (tgt := 74) hx hb dX9_proof_49 (by decide) ?_
              exact hret _ _ _ _ _ _ (by subst hE; rfl) rfl hP hS dX9_proof_74
          · have hE := hE.trans (if_neg c35)
            refine lv_bipush (v := (-2)) hx hb dX9_proof_38 (by decide) ?_
            exact hret _ _ _ _ _ _ (by subst hE; rfl) rfl hP hS dX9_proof_40
      · have hE := hE.trans (if_neg c16)
        refine lv_iconst (v := (-1)) hx hb dX9_proof_19 (by decide) ?_
        rw [show bm = (s9_lists (s9_listed (s9_needed (s9_rounds (s9_fresh (s9_known (s9_came bm (g9_came bm)) (g9_known bm)) (g9_fresh bm)) (g9_rounds bm)) (g9_needed bm)) (g9_listed bm)) (g9_lists bm)) from ((((((((se9_came _).symm).trans (((se9_known _).symm).trans (congrArg (fun v => s9_known (s9_came bm (g9_came bm)) v) (gs9_known_came _ (g9_came bm))))).trans (((se9_fresh _).symm).trans (congrArg (fun v => s9_fresh (s9_known (s9_came bm (g9_came bm)) (g9_known bm)) v) ((gs9_fresh_known _ (g9_known bm)).trans (gs9_fresh_came _ (g9_came bm)))))).trans (((se9_rounds _).symm).trans (congrArg (fun v => s9_rounds (s9_fresh (s9_known (s9_came bm (g9_came bm)) (g9_known bm)) (g9_fresh bm)) v) ((gs9_rounds_fresh _ (g9_fresh bm)).trans ((gs9_rounds_known _ (g9_known bm)).trans (gs9_rounds_came _ (g9_came bm))))))).trans (((se9_needed _).symm).trans (congrArg (fun v => s9_needed (s9_rounds (s9_fresh (s9_known (s9_came bm (g9_came bm)) (g9_known bm)) (g9_fresh bm)) (g9_rounds bm)) v) ((gs9_needed_rounds _ (g9_rounds bm)).trans ((gs9_needed_fresh _ (g9_fresh bm)).trans ((gs9_needed_known _ (g9_known bm)).trans (gs9_needed_came _ (g9_came bm)))))))).trans (((se9_listed _).symm).trans (congrArg (fun v => s9_listed (s9_needed (s9_rounds (s9_fresh (s9_known (s9_came bm (g9_came bm)) (g9_known bm)) (g9_fresh bm)) (g9_rounds bm)) (g9_needed bm)) v) ((gs9_listed_needed _ (g9_needed bm)).trans ((gs9_listed_rounds _ (g9_rounds bm)).trans ((gs9_listed_fresh _ (g9_fresh bm)).trans ((gs9_listed_known _ (g9_known bm)).trans (gs9_listed_came _ (g9_came bm))))))))).trans (((se9_lists _).symm).trans (congrArg (fun v => s9_lists (s9_listed (s9_needed (s9_rounds (s9_fresh (s9_known (s9_came bm (g9_came bm)) (g9_known bm)) (g9_fresh bm)) (g9_rounds bm)) (g9_needed bm)) (g9_listed bm)) v) ((gs9_lists_listed _ (g9_listed bm)).trans ((gs9_lists_needed _ (g9_needed bm)).trans ((gs9_lists_rounds _ (g9_rounds bm)).trans ((gs9_lists_fresh _ (g9_fresh bm)).trans ((gs9_lists_known _ (g9_known bm)).trans (gs9_lists_came _ (g9_came bm))))))))))] at hP hD
        exact hret _ _ _ _ _ _ (by subst hE; rfl) rfl hP hS dX9_proof_20

theorem in_X9_print_9 : ∀ w ∈ u_ws RX9 TX9 40, w ∈ wsX9_print := by decide +kernel
def rmX9_print : Room := { frames := 0, cells := 0, slots := 0, locals := 0 }
set_option maxHeartbeats 4000000 in
set_option maxRecDepth 100000 in
theorem c_X9_print (l : Launch) (G : zG) (am : Nat → Nat) (bm : S9) (x1 : Int32) (hpp : zpp 1999 (g9_papers bm)) (T : (Nat → Int32) × (Int32)) (hT : FX9_print (g9_paper bm) (g9_papers bm) x1 = T) : zV l yX9_print wsX9_print rmX9_print G [.ref (am 0), .int x1] [w9 G am bm] [w9 G am (s9_papers (s9_paper bm T.1) T.2)] := by
  refine zV.mk (cc := cX9_print) (maxL := 2) (by decide +kernel) rfl (Nat.le_of_ble_eq_true rfl) (zfl_cons (wf9 _ _ _ _) rfl) ?_
  intro p e s m args below meth c Q A ls S hK hD hA hP hl hret
  have hx := S.1
  have hb := S.2.1
  have hS : va_S A s.heap s.heap [] := va_S.rf
  have hl : lv_has ls 2 [(0, .ref (am 0)), (1, .int x1)] := hl
  have hi_m_papers : vp_in (g9_papers bm) 2000 := zpp_in hpp (by decide) (by decide)
  have hE := hT.symm.trans (FX9_print.eq_1 _ _ _)
  refine lv_aload_n hx hb dX9_print_0 rfl (lv_at hl 0 rfl) ?_
  refine zg9_paper S in_X9_print_9 hK hP 0 rfl (List.mem_of_getElem? (i := 1) rfl) dX9_print_1 ?_
  refine lv_aload_n hx hb dX9_print_4 rfl (lv_at hl 0 rfl) ?_
  refine zg9_papers S in_X9_print_9 hK hP 0 rfl (List.mem_of_getElem? (i := 2) rfl) (v := (g9_papers bm)) rfl dX9_print_5 ?_
  refine lv_iload_n hx hb dX9_print_8 rfl (lv_at hl 1 rfl) ?_
  refine zs9_paper (bs1 := [w9 G am (s9_paper bm (upd (g9_paper bm) (g9_papers bm).toNatClampNeg x1))]) S hK hP hD hS 0 rfl hi_m_papers (f := (g9_paper bm)) rfl dX9_print_9 rfl (fun H locs hP hD hS => ?_)
  refine lv_aload_n hx hb dX9_print_10 rfl (lv_at hl 0 rfl) ?_
  refine lv_dup hx hb dX9_print_11 rfl ?_
  refine zg9_papers S in_X9_print_9 hK hP 0 rfl (List.mem_of_getElem? (i := 2) rfl) (v := (g9_papers bm)) (gs9_papers_paper _ (upd (g9_paper bm) (g9_papers bm).toNatClampNeg x1)) dX9_print_12 ?_
  refine lv_iconst (v := 1) hx hb dX9_print_15 (by decide) ?_
  refine lv_iadd hx hb dX9_print_16 ?_
  refine zp9_papers (bs1 := [w9 G am (s9_papers (s9_paper bm (upd (g9_paper bm) (g9_papers bm).toNatClampNeg x1)) ((g9_papers bm) + 1))]) S in_X9_print_9 hK hP hD hS 0 rfl (List.mem_of_getElem? (i := 2) rfl) dX9_print_17 rfl (fun H locs hP hD hS => ?_)
  exact hret _ _ _ _ _ (by subst hE; rfl) hP hS dX9_print_20

def rmX9_printLiteral : Room := { frames := 1, cells := 0, slots := 0, locals := 21 }
set_option maxHeartbeats 4000000 in
set_option maxRecDepth 100000 in
theorem c_X9_printLiteral (l : Launch) (G : zG) (am : Nat → Nat) (bm : S9) (x1 : Int32) (hpp : zpp 1998 (g9_papers bm)) (T : (Nat → Int32) × (Int32)) (hT : FX9_printLiteral (g9_paper bm) (g9_papers bm) x1 = T) : zV l yX9_printLiteral wsX9_printLiteral rmX9_printLiteral G [.ref (am 0), .int x1] [w9 G am bm] [w9 G am (s9_papers (s9_paper bm T.1) T.2)] := by
  refine zV.mk (cc := cX9_printLiteral) (maxL := 2) (by decide +kernel) rfl (Nat.le_of_ble_eq_true rfl) (zfl_cons (wf9 _ _ _ _) rfl) ?_
  intro p e s m args below meth c Q A ls S hK hD hA hP hl hret
  have hx := S.1
  have hb := S.2.1
  have hS : va_S A s.heap s.heap [] := va_S.rf
  have hl : lv_has ls 2 [(0, .ref (am 0)), (1, .int x1)] := hl
  have hE := hT.symm.trans (FX9_printLiteral.eq_1 _ _ _)
  refine lv_iload_n hx hb dX9_printLiteral_0 rfl (lv_at hl 1 rfl) ?_
  refine lv_bipush (v := 9) hx hb dX9_printLiteral_1 (by decide) ?_
  have hB12 : ∀ (m_paper_12 : Nat → Int32) (m_papers_12 : Int32) (H : Heap) (locs : List Loc) (ls : Array Slot), (zpp 1999 m_papers_12) → T = FX9_printLiteral_12 (g9_paper bm) (g9_papers bm) x1 m_paper_12 m_papers_12 → zP G [w9 G am (s9_papers (s9_paper bm m_paper_12) m_papers_12)] H → zD A [w9 G am (s9_papers (s9_paper bm m_paper_12) m_papers_12)] → va_S A s.heap H locs → lv_has ls 2 [(0, .ref (am 0)), (1, .int x1)] → W p l e rmX9_printLiteral s m args below meth c H locs 0 0 Q (F0 m 12 ls []) := by
    intro m_paper_12 m_papers_12 H locs ls hp12 hE hP hD hS hl
    have hE := hE.trans (FX9_printLiteral_12.eq_1 _ _ _ _ _)
    refine lv_aload_n hx hb dX9_printLiteral_12 rfl (lv_at hl 0 rfl) ?_
    refine lv_bipush (v := 97) hx hb dX9_printLiteral_13 (by decide) ?_
    refine lv_iload_n hx hb dX9_printLiteral_15 rfl (lv_at hl 1 rfl) ?_
    refine lv_bipush (v := 10) hx hb dX9_printLiteral_16 (by decide) ?_
    refine lv_irem hx hb dX9_printLiteral_18 (by decide) ?_
    refine lv_iadd hx hb dX9_printLiteral_19 ?_
    obtain ⟨t20, ht20⟩ : ∃ z, FX9_print m_paper_12 m_papers_12 (97 + (x1 - x1 / 10 * 10)) = z := ⟨_, rfl⟩
    have hE := hE.trans (bnd_eq ht20)
    have hc := c_X9_print l G am (s9_papers (s9_paper bm m_paper_12) m_papers_12) (97 + (x1 - x1 / 10 * 10)) (hp12) _ (by simp only [gs9_paper_papers, gg9_paper, gg9_papers]; exact ht20)
    refine zgoV (bs' := [w9 G am (s9_papers (s9_paper (s9_papers (s9_paper bm m_paper_12) m_papers_12) t20.1) t20.2)]) hc [0] rfl rfl rfl hP hD hS hA (va_runV (As := [.int (97 + (x1 - x1 / 10 * 10))]) (rest := []) S (hc.2 _) (cwV 1 S.2.2.2.2 gX9_printLiteral_X9_print rfl rfl rfl (by decide +kernel) ⟨Nat.le_of_ble_eq_true rfl, Nat.le_of_ble_eq_true rfl⟩) (zpV hK hP hD (is := [0]) rfl rfl 0 rfl rfl (ci := 9) rfl) rfl rfl hl.1 rfl (lv_room (Nat.le_of_ble_eq_true rfl)) dX9_printLiteral_20 ⟨Nat.zero_le _, Nat.zero_le _⟩) (fun H locs hP hD hS => ?_)
    rw [show (s9_papers (s9_paper (s9_papers (s9_paper bm m_paper_12) m_papers_12) t20.1) t20.2) = (s9_papers (s9_paper bm t20.1) t20.2) from ((congrArg (fun z => s9_papers z t20.2) ((cm9_paper_papers _ m_papers_12 t20.1).trans (congrArg (fun z => s9_papers z m_papers_12) (ss9_paper _ m_paper_12 t20.1)))).trans (ss9_papers _ m_papers_12 t20.2))] at hP hD
    exact hret _ _ _ _ _ (by subst hE; rfl) hP hS dX9_printLiteral_23
  refine lv_icmp_le (tgt := 12) hx hb dX9_printLiteral_3 (by decide) (fun c3 => ?_) (fun c3 => ?_)
  · have hE := hE.trans (if_pos c3)
    rw [show bm = (s9_papers (s9_paper bm (g9_paper bm)) (g9_papers bm)) from (((se9_paper _).symm).trans (((se9_papers _).symm).trans (congrArg (fun v => s9_papers (s9_paper bm (g9_paper bm)) v) (gs9_papers_paper _ (g9_paper bm)))))] at hP hD
    exact hB12 (g9_paper bm) (g9_papers bm) _ _ _ (by exact zpp_up hpp (by decide)) hE hP hD hS (lv_sub hl [0, 1] rfl)
  · have hE := hE.trans (if_neg c3)
    refine lv_aload_n hx hb dX9_printLiteral_6 rfl (lv_at hl 0 rfl) ?_
    refine lv_bipush (v := 126) hx hb dX9_printLiteral_7 (by decide) ?_
    obtain ⟨t9, ht9⟩ : ∃ z, FX9_print (g9_paper bm) (g9_papers bm) 126 = z := ⟨_, rfl⟩
    have hE := hE.trans (bnd_eq ht9)
    have hc := c_X9_print l G am bm 126 (zpp_up hpp (by decide)) _ ht9
    refine zgoV (bs' := [w9 G am (s9_papers (s9_paper bm t9.1) t9.2)]) hc [0] rfl rfl rfl hP hD hS hA (va_runV (As := [.int 126]) (rest := []) S (hc.2 _) (cwV 1 S.2.2.2.2 gX9_printLiteral_X9_print rfl rfl rfl (by decide +kernel) ⟨Nat.le_of_ble_eq_true rfl, Nat.le_of_ble_eq_true rfl⟩) (zpV hK hP hD (is := [0]) rfl rfl 0 rfl rfl (ci := 9) rfl) rfl rfl hl.1 rfl (lv_room (Nat.le_of_ble_eq_true rfl)) dX9_printLiteral_9 ⟨Nat.zero_le _, Nat.zero_le _⟩) (fun H locs hP hD hS => ?_)
    exact hB12 t9.1 t9.2 _ _ _ (by (rw [← ht9]; exact zpp_1 hpp)) hE hP hD hS (lv_sub hl [0, 1] rfl)

theorem zpp_lit {p : Nat → Int32} {x y : Int32} {c d : Nat} (h : zpp c x) (hd : c + 2 ≤ d) : zpp d (FX9_printLiteral p x y).2 := by
  simp only [FX9_printLiteral, FX9_printLiteral_12, FX9_print, bnd]
  split
  · exact zpp_1 h
  · exact zpp_1 (zpp_1 h (Nat.le_refl _))
theorem zpp_litN {p : Nat → Int32} {x : Int32} {c d i : Nat} (h : zpp c x) (hi : i < 20) (hd : c + 1 + (i + 1 - 10 - (i - 10)) ≤ d) : zpp d (FX9_printLiteral p x (nI i)).2 := by
  simp only [FX9_printLiteral, FX9_printLiteral_12, FX9_print, bnd]
  split
  · exact zpp_1 h
  · rename_i e
    rw [show (9 : Int32) = nI 9 from rfl, nI_leI (by omega) (by decide)] at e
    exact zpp_1 (zpp_1 h (Nat.le_refl _))

def rmX9_printAll : Room := { frames := 2, cells := 0, slots := 0, locals := 42 }
set_option maxHeartbeats 4000000 in
set_option maxRecDepth 100000 in
theorem c_X9_printAll (l : Launch) (G : zG) (am : Nat → Nat) (bm : S9) (x1 : Int32) (hpp : zpp 1950 (g9_papers bm)) (T : (Nat → Int32) × (Int32)) (hT : FX9_printAll (g9_paper bm) (g9_papers bm) x1 = T) : zV l yX9_printAll wsX9_printAll rmX9_printAll G [.ref (am 0), .int x1] [w9 G am bm] [w9 G am (s9_papers (s9_paper bm T.1) T.2)] := by
  refine zV.mk (cc := cX9_printAll) (maxL := 4) (by decide +kernel) rfl (Nat.le_of_ble_eq_true rfl) (zfl_cons (wf9 _ _ _ _) rfl) ?_
  intro p e s m args below meth c Q A ls S hK hD hA hP hl hret
  have hx := S.1
  have hb := S.2.1
  have hS : va_S A s.heap s.heap [] := va_S.rf
  have hl : lv_has ls 4 [(0, .ref (am 0)), (1, .int x1)] := hl
  have hE := hT.symm.trans (FX9_printAll.eq_1 _ _ _)
  refine lv_iconst (v := 1) hx hb dX9_printAll_0 (by decide) ?_
  refine lv_istore_n (lv' := [(2, .int 1), (0, .ref (am 0)), (1, .int x1)]) hx hb dX9_printAll_1 rfl hl (by decide) rfl (fun ls hl => ?_)
  refine lv_iconst (v := 0) hx hb dX9_printAll_2 (by decide) ?_
  have hB41 : ∀ (m_paper_41 : Nat → Int32) (m_papers_41 : Int32) (H : Heap) (locs : List Loc) (ls : Array Slot), T = FX9_printAll_41 (g9_paper bm) (g9_papers bm) x1 m_paper_41 m_papers_41 → zP G [w9 G am (s9_papers (s9_paper bm m_paper_41) m_papers_41)] H → zD A [w9 G am (s9_papers (s9_paper bm m_paper_41) m_papers_41)] → va_S A s.heap H locs → lv_has ls 4 [] → W p l e rmX9_printAll s m args below meth c H locs 0 0 Q (F0 m 41 ls []) := by
    intro m_paper_41 m_papers_41 H locs ls hE hP hD hS hl
    have hE := hE.trans (FX9_printAll_41.eq_1 _ _ _ _ _)
    exact hret _ _ _ _ _ (by subst hE; rfl) hP hS dX9_printAll_41
  have hB4 : ∀ (n4 : Nat) (x2_4 : Int32) (i3_4 : Nat) (m_paper_4 : Nat → Int32) (m_papers_4 : Int32) (H : Heap) (locs : List Loc) (ls : Array Slot), (i3_4 ≤ 20) → (zpp (1950 + (2 * i3_4 + (i3_4 - 10))) m_papers_4) → 21 ≤ i3_4 + n4 → T = FX9_printAll_4 (g9_paper bm) (g9_papers bm) x1 (FX9_printAll_41 (g9_paper bm) (g9_papers bm) x1) n4 x2_4 (nI i3_4) m_paper_4 m_papers_4 → zP G [w9 G am (s9_papers (s9_paper bm m_paper_4) m_papers_4)] H → zD A [w9 G am (s9_papers (s9_paper bm m_paper_4) m_papers_4)] → va_S A s.heap H locs → lv_has ls 4 [(0, .ref (am 0)), (1, .int x1), (2, .int x2_4), (3, .int (nI i3_4))] → W p l e rmX9_printAll s m args below meth c H locs 0 0 Q (F0 m 4 ls []) := by
    intro n4
    induction n4 with
    | zero =>
      intro x2_4 i3_4 m_paper_4 m_papers_4 H locs ls hi3_4 hP4 hn hE hP hD hS hl
      exact absurd hn (by omega)
    | succ n4 ih4 =>
      intro x2_4 i3_4 m_paper_4 m_papers_4 H locs ls hi3_4 hP4 hn hE hP hD hS hl
      have hE := hE.trans (FX9_printAll_4.eq_2 _ _ _ _ _ _ _ _ _)
      refine lv_iload_n hx hb dX9_printAll_4 rfl (lv_at hl 3 rfl) ?_
      refine lv_bipush (v := 20) hx hb dX9_printAll_5 (by decide) ?_
      refine lv_icmp_ge (tgt := 41) hx hb dX9_printAll_7 (by decide) (fun c7 => ?_) (fun c7 => ?_)
      · have hE := hE.trans (if_pos c7)
        exact hB41 m_paper_4 m_papers_4 _ _ _ hE hP hD hS (lv_sub hl [] rfl)
      · have hE := hE.trans (if_neg c7)
        have hl3_4 : i3_4 < 20 := zlt (N := 20) rfl (by omega) (by omega) c7
        refine lv_iload_n hx hb dX9_printAll_10 rfl (lv_at hl 1 rfl) ?_
        refine lv_iload_n hx hb dX9_printAll_11 rfl (lv_at hl 3 rfl) ?_
        obtain ⟨t12, ht12⟩ : ∃ z, FX9_has x1 (nI i3_4) = z := ⟨_, rfl⟩
        have hE := hE.trans (bnd_eq ht12)
        have hc := c_X9_has l G x1 (nI i3_4) _ ht12
        refine zgoR (va_runS (As := [.int x1, .int (nI i3_4)]) (rest := []) S (hc _) (va_cwS 2 S.2.2.2.2 gX9_printAll_X9_has rfl rfl rfl (by decide +kernel) ⟨Nat.le_of_ble_eq_true rfl, Nat.le_of_ble_eq_true rfl⟩) (zpS hK hP hD (is := []) rfl rfl) rfl rfl hl.1 rfl (lv_room (Nat.le_of_ble_eq_true rfl)) dX9_printAll_12 ⟨Nat.zero_le _, Nat.zero_le _⟩) (fun hn12 => ?_)
        refine lv_if_eq (tgt := 35) hx hb dX9_printAll_15 (by decide) (fun c15 => ?_) (fun c15 => ?_)
        · have hE := hE.trans (if_pos c15)
          refine lv_iinc (v := (nI (i3_4 + 1))) (lv' := [(3, .int (nI (i3_4 + 1))), (0, .ref (am 0)), (1, .int x1), (2, .int x2_4)]) hx hb dX9_printAll_35 hl (k := 3) rfl (nI_1 i3_4) (by decide) rfl (fun ls hl => ?_)
          try rw [nI_1 i3_4] at hE
          refine lv_goto (tgt := 4) hx hb dX9_printAll_38 (by decide) ?_
          exact ih4 x2_4 (i3_4 + 1) m_paper_4 m_papers_4 _ _ _ (by first | assumption | omega) (by first | (rw [← ht30]; exact zpp_litN hP28 (by omega) (by omega)) | exact zpp_up hP4 (by omega)) (by omega) hE hP hD hS (lv_sub hl [1, 2, 3, 0] rfl)
        · have hE := hE.trans (if_neg c15)
          refine lv_iload_n hx hb dX9_printAll_18 rfl (lv_at hl 2 rfl) ?_
          have hB28 : ∀ (m_paper_28 : Nat → Int32) (m_papers_28 : Int32) (H : Heap) (locs : List Loc) (ls : Array Slot), (zpp (1951 + (2 * i3_4 + (i3_4 - 10))) m_papers_28) → T = FX9_printAll_28 (g9_paper bm) (g9_papers bm) x1 (fun x2_4' x3_4' m_paper_4' m_papers_4' => FX9_printAll_4 (g9_paper bm) (g9_papers bm) x1 (FX9_printAll_41 (g9_paper bm) (g9_papers bm) x1) n4 x2_4' x3_4' m_paper_4' m_papers_4') (FX9_printAll_41 (g9_paper bm) (g9_papers bm) x1) (nI i3_4) m_paper_28 m_papers_28 → zP G [w9 G am (s9_papers (s9_paper bm m_paper_28) m_papers_28)] H → zD A [w9 G am (s9_papers (s9_paper bm m_paper_28) m_papers_28)] → va_S A s.heap H locs → lv_has ls 4 [(0, .ref (am 0)), (1, .int x1), (3, .int (nI i3_4))] → W p l e rmX9_printAll s m args below meth c H locs 0 0 Q (F0 m 28 ls []) := by
            intro m_paper_28 m_papers_28 H locs ls hP28 hE hP hD hS hl
            have hE := hE.trans (FX9_printAll_28.eq_1 _ _ _ _ _ _ _ _)
            refine lv_aload_n hx hb dX9_printAll_28 rfl (lv_at hl 0 rfl) ?_
            refine lv_iload_n hx hb dX9_printAll_29 rfl (lv_at hl 2 rfl) ?_
            obtain ⟨t30, ht30⟩ : ∃ z, FX9_printLiteral m_paper_28 m_papers_28 (nI i3_4) = z := ⟨_, rfl⟩
            have hE := hE.trans (bnd_eq ht30)
            have hc := c_X9_printLiteral l G am (s9_papers (s9_paper bm m_paper_28) m_papers_28) (nI i3_4) (zpp_up hP28 (by omega)) _ (by simp only [gs9_paper_papers, gg9_paper, gg9_papers]; exact ht30)
            refine zgoV (bs' := [w9 G am (s9_papers (s9_paper (s9_papers (s9_paper bm m_paper_28) m_papers_28) t30.1) t30.2)]) hc [0] rfl rfl rfl hP hD hS hA (va_runV (As := [.int (nI i3_4)]) (rest := []) S (hc.2 _) (cwV 1 S.2.2.2.2 gX9_printAll_X9_printLiteral rfl rfl rfl (by decide +kernel) ⟨Nat.le_of_ble_eq_true rfl, Nat.le_of_ble_eq_true rfl⟩) (zpV hK hP hD (is := [0]) rfl rfl 0 rfl rfl (ci := 9) rfl) rfl rfl hl.1 rfl (lv_room (Nat.le_of_ble_eq_true rfl)) dX9_printAll_30 ⟨Nat.zero_le _, Nat.zero_le _⟩) (fun H locs hP hD hS => ?_)
            refine lv_iconst (v := 0) hx hb dX9_printAll_33 (by decide) ?_
            refine lv_istore_n (lv' := [(2, .int 0), (0, .ref (am 0)), (1, .int x1), (3, .int (nI i3_4))]) hx hb dX9_printAll_34 rfl hl (by decide) rfl (fun ls hl => ?_)
            refine lv_iinc (v := (nI (i3_4 + 1))) (lv' := [(3, .int (nI (i3_4 + 1))), (2, .int 0), (0, .ref (am 0)), (1, .int x1)]) hx hb dX9_printAll_35 hl (k := 3) rfl (nI_1 i3_4) (by decide) rfl (fun ls hl => ?_)
            try rw [nI_1 i3_4] at hE
            refine lv_goto (tgt := 4) hx hb dX9_printAll_38 (by decide) ?_
            rw [show (s9_papers (s9_paper (s9_papers (s9_paper bm m_paper_28) m_papers_28) t30.1) t30.2) = (s9_papers (s9_paper bm t30.1) t30.2) from ((congrArg (fun z => s9_papers z t30.2) ((cm9_paper_papers _ m_papers_28 t30.1).trans (congrArg (fun z => s9_papers z m_papers_28) (ss9_paper _ m_paper_28 t30.1)))).trans (ss9_papers _ m_papers_28 t30.2))] at hP hD
            exact ih4 0 (i3_4 + 1) t30.1 t30.2 _ _ _ (by first | assumption | omega) (by first | (rw [← ht30]; exact zpp_litN hP28 (by omega) (by omega)) | exact zpp_up hP4 (by omega)) (by omega) hE hP hD hS (lv_sub hl [2, 3, 1, 0] rfl)
          refine lv_if_ne (tgt := 28) hx hb dX9_printAll_19 (by decide) (fun c19 => ?_) (fun c19 => ?_)
          · have hE := hE.trans (if_neg c19)
            exact hB28 m_paper_4 m_papers_4 _ _ _ (by exact zpp_up hP4 (by omega)) hE hP hD hS (lv_sub hl [0, 1, 3] rfl)
          · have hE := hE.trans (if_pos c19)
            refine lv_aload_n hx hb dX9_printAll_22 rfl (lv_at hl 0 rfl) ?_
            refine lv_bipush (v := 44) hx hb dX9_printAll_23 (by decide) ?_
            obtain ⟨t25, ht25⟩ : ∃ z, FX9_print m_paper_4 m_papers_4 44 = z := ⟨_, rfl⟩
            have hE := hE.trans (bnd_eq ht25)
            have hc := c_X9_print l G am (s9_papers (s9_paper bm m_paper_4) m_papers_4) 44 (zpp_up hP4 (by omega)) _ (by simp only [gs9_paper_papers, gg9_paper, gg9_papers]; exact ht25)
            refine zgoV (bs' := [w9 G am (s9_papers (s9_paper (s9_papers (s9_paper bm m_paper_4) m_papers_4) t25.1) t25.2)]) hc [0] rfl rfl rfl hP hD hS hA (va_runV (As := [.int 44]) (rest := []) S (hc.2 _) (cwV 1 S.2.2.2.2 gX9_printAll_X9_print rfl rfl rfl (by decide +kernel) ⟨Nat.le_of_ble_eq_true rfl, Nat.le_of_ble_eq_true rfl⟩) (zpV hK hP hD (is := [0]) rfl rfl 0 rfl rfl (ci := 9) rfl) rfl rfl hl.1 rfl (lv_room (Nat.le_of_ble_eq_true rfl)) dX9_printAll_25 ⟨Nat.zero_le _, Nat.zero_le _⟩) (fun H locs hP hD hS => ?_)
            rw [show (s9_papers (s9_paper (s9_papers (s9_paper bm m_paper_4) m_papers_4) t25.1) t25.2) = (s9_papers (s9_paper bm t25.1) t25.2) from ((congrArg (fun z => s9_papers z t25.2) ((cm9_paper_papers _ m_papers_4 t25.1).trans (congrArg (fun z => s9_papers z m_papers_4) (ss9_paper _ m_paper_4 t25.1)))).trans (ss9_papers _ m_papers_4 t25.2))] at hP hD
            exact hB28 t25.1 t25.2 _ _ _ (by (rw [← ht25]; exact zpp_1 hP4)) hE hP hD hS (lv_sub hl [0, 1, 3] rfl)
  refine lv_istore_n (lv' := [(3, .int 0), (2, .int 1), (0, .ref (am 0)), (1, .int x1)]) hx hb dX9_printAll_3 rfl hl (by decide) rfl (fun ls hl => ?_)
  rw [show bm = (s9_papers (s9_paper bm (g9_paper bm)) (g9_papers bm)) from (((se9_paper _).symm).trans (((se9_papers _).symm).trans (congrArg (fun v => s9_papers (s9_paper bm (g9_paper bm)) v) (gs9_papers_paper _ (g9_paper bm)))))] at hP hD
  exact hB4 21 1 0 (g9_paper bm) (g9_papers bm) _ _ _ (by first | assumption | omega) (by exact zpp_up hpp (by omega)) (by omega) hE hP hD hS (lv_sub hl [2, 3, 1, 0] rfl)

theorem zpp_all4 {p0 : Nat → Int32} {x0 y : Int32} {c : Nat} {kt : (Nat → Int32) → Int32 → (Nat → Int32) × Int32} {d : Nat} (hk : ∀ p x, zpp (c + 50) x → zpp d (kt p x).2) : ∀ (n i : Nat) (f : Int32) (p : Nat → Int32) (x : Int32), i ≤ 20 → zpp (c + (2 * i + (i - 10))) x → zpp d (FX9_printAll_4 p0 x0 y kt n f (nI i) p x).2
  | 0, i, f, p, x, hi, h => hk _ _ (zpp_up h (by omega))
  | n + 1, i, f, p, x, hi, h => by
    rw [FX9_printAll_4]
    by_cases e : (20 : Int32) ≤ nI i
    · rw [if_pos e]
      exact hk _ _ (zpp_up h (by omega))
    · rw [if_neg e]
      have hi2 : i < 20 := zlt (N := 20) rfl (by omega) (by decide) e
      have key : ∀ (q : Nat → Int32) (z : Int32), zpp (c + (2 * i + (i - 10)) + 1) z → zpp d (FX9_printAll_4 p0 x0 y kt n 0 (nI i + 1) (FX9_printLiteral q z (nI i)).1 (FX9_printLiteral q z (nI i)).2).2 := fun q z hz => by
        rw [nI_1]
        exact zpp_all4 hk n (i + 1) _ _ _ (by omega) (zpp_litN hz hi2 (by omega))
      simp only [bnd, FX9_printAll_28]
      split
      · rw [nI_1]
        exact zpp_all4 hk n (i + 1) _ _ _ (by omega) (zpp_up h (by omega))
      · split
        · exact key _ _ (zpp_1 h)
        · exact key _ _ (zpp_up h (by omega))
theorem zpp_all {p : Nat → Int32} {x y : Int32} {c d : Nat} (h : zpp c x) (hd : c + 50 ≤ d) : zpp d (FX9_printAll p x y).2 := zpp_all4 (c := c) (fun p x h => zpp_up h hd) _ 0 _ _ _ (by omega) (zpp_up h (by omega))

theorem in_X9_printRule_9 : ∀ w ∈ u_ws RX9 TX9 40, w ∈ wsX9_printRule := by decide +kernel
def rmX9_printRule : Room := { frames := 3, cells := 0, slots := 0, locals := 65 }
set_option maxHeartbeats 4000000 in
set_option maxRecDepth 100000 in
theorem c_X9_printRule (l : Launch) (G : zG) (am : Nat → Nat) (bm : S9) (x1 : Int32) (hpp : zpp 1892 (g9_papers bm)) (hx1_16 : vp_in x1 16) (T : (Nat → Int32) × (Int32)) (hT : FX9_printRule (g9_kind bm) (g9_head bm) (g9_body bm) (g9_except bm) (g9_strength bm) (g9_paper bm) (g9_papers bm) x1 = T) : zV l yX9_printRule wsX9_printRule rmX9_printRule G [.ref (am 0), .int x1] [w9 G am bm] [w9 G am (s9_papers (s9_paper bm T.1) T.2)] := by
  refine zV.mk (cc := cX9_printRule) (maxL := 2) (by decide +kernel) rfl (Nat.le_of_ble_eq_true rfl) (zfl_cons (wf9 _ _ _ _) rfl) ?_
  intro p e s m args below meth c Q A ls S hK hD hA hP hl hret
  have hx := S.1
  have hb := S.2.1
  have hS : va_S A s.heap s.heap [] := va_S.rf
  have hl : lv_has ls 2 [(0, .ref (am 0)), (1, .int x1)] := hl
  have hE := hT.symm.trans (FX9_printRule.eq_1 _ _ _ _ _ _ _ _)
  refine lv_aload_n hx hb dX9_printRule_0 rfl (lv_at hl 0 rfl) ?_
  refine lv_aload_n hx hb dX9_printRule_1 rfl (lv_at hl 0 rfl) ?_
  refine zg9_body S in_X9_printRule_9 hK hP 0 rfl (List.mem_of_getElem? (i := 1) rfl) dX9_printRule_2 ?_
  refine lv_iload_n hx hb dX9_printRule_5 rfl (lv_at hl 1 rfl) ?_
  refine zl9_body S hK hP 0 rfl hx1_16 (f := (g9_body bm)) rfl dX9_printRule_6 ?_
  obtain ⟨t7, ht7⟩ : ∃ z, FX9_printAll (g9_paper bm) (g9_papers bm) ((g9_body bm) x1.toNatClampNeg) = z := ⟨_, rfl⟩
  have hE := hE.trans (bnd_eq ht7)
  have hc := c_X9_printAll l G am bm ((g9_body bm) x1.toNatClampNeg) (zpp_up hpp (by decide)) _ ht7
  refine zgoV (bs' := [w9 G am (s9_papers (s9_paper bm t7.1) t7.2)]) hc [0] rfl rfl rfl hP hD hS hA (va_runV (As := [.int ((g9_body bm) x1.toNatClampNeg)]) (rest := []) S (hc.2 _) (cwV 1 S.2.2.2.2 gX9_printRule_X9_printAll rfl rfl rfl (by decide +kernel) ⟨Nat.le_of_ble_eq_true rfl, Nat.le_of_ble_eq_true rfl⟩) (zpV hK hP hD (is := [0]) rfl rfl 0 rfl rfl (ci := 9) rfl) rfl rfl hl.1 rfl (lv_room (Nat.le_of_ble_eq_true rfl)) dX9_printRule_7 ⟨Nat.zero_le _, Nat.zero_le _⟩) (fun H locs hP hD hS => ?_)
  have hq7 : zpp 1942 t7.2 := by rw [← ht7]; exact zpp_all hpp (by decide)
  refine lv_aload_n hx hb dX9_printRule_10 rfl (lv_at hl 0 rfl) ?_
  refine lv_aload_n hx hb dX9_printRule_11 rfl (lv_at hl 0 rfl) ?_
  refine zg9_kind S in_X9_printRule_9 hK hP 0 rfl (List.mem_of_getElem? (i := 2) rfl) dX9_printRule_12 ?_
  refine lv_iload_n hx hb dX9_printRule_15 rfl (lv_at hl 1 rfl) ?_
  refine zl9_kind S hK hP 0 rfl hx1_16 (f := (g9_kind bm)) ((gs9_kind_papers _ t7.2).trans (gs9_kind_paper _ t7.1)) dX9_printRule_16 ?_
  have hB42 : ∀ (k1_42 : Int32) (H : Heap) (locs : List Loc) (ls : Array Slot), (zpp 1942 t7.2) → T = FX9_printRule_42 (g9_kind bm) (g9_head bm) (g9_body bm) (g9_except bm) (g9_strength bm) (g9_paper bm) (g9_papers bm) x1 k1_42 t7.1 t7.2 → zP G [w9 G am (s9_papers (s9_paper bm t7.1) t7.2)] H → zD A [w9 G am (s9_papers (s9_paper bm t7.1) t7.2)] → va_S A s.heap H locs → lv_has ls 2 [(0, .ref (am 0)), (1, .int x1)] → W p l e rmX9_printRule s m args below meth c H locs 0 0 Q (F0 m 42 ls [.int k1_42, .ref (am 0)]) := by
    intro k1_42 H locs ls hq42 hE hP hD hS hl
    have hE := hE.trans (FX9_printRule_42.eq_1 _ _ _ _ _ _ _ _ _ _ _)
    obtain ⟨t42, ht42⟩ : ∃ z, FX9_print t7.1 t7.2 k1_42 = z := ⟨_, rfl⟩
    have hE := hE.trans (bnd_eq ht42)
    have hc := c_X9_print l G am (s9_papers (s9_paper bm t7.1) t7.2) k1_42 (zpp_up hq42 (by decide)) _ (by simp only [gs9_paper_papers, gg9_paper, gg9_papers]; exact ht42)
    refine zgoV (bs' := [w9 G am (s9_papers (s9_paper (s9_papers (s9_paper bm t7.1) t7.2) t42.1) t42.2)]) hc [0] rfl rfl rfl hP hD hS hA (va_runV (As := [.int k1_42]) (rest := []) S (hc.2 _) (cwV 1 S.2.2.2.2 gX9_printRule_X9_print rfl rfl rfl (by decide +kernel) ⟨Nat.le_of_ble_eq_true rfl, Nat.le_of_ble_eq_true rfl⟩) (zpV hK hP hD (is := [0]) rfl rfl 0 rfl rfl (ci := 9) rfl) rfl rfl hl.1 rfl (lv_room (Nat.le_of_ble_eq_true rfl)) dX9_printRule_42 ⟨Nat.zero_le _, Nat.zero_le _⟩) (fun H locs hP hD hS => ?_)
    have hr42 : zpp 1943 t42.2 := by rw [← ht42]; exact zpp_1 hq42
    refine lv_aload_n hx hb dX9_printRule_45 rfl (lv_at hl 0 rfl) ?_
    refine lv_bipush (v := 62) hx hb dX9_printRule_46 (by decide) ?_
    obtain ⟨t48, ht48⟩ : ∃ z, FX9_print t42.1 t42.2 62 = z := ⟨_, rfl⟩
    have hE := hE.trans (bnd_eq ht48)
    have hc := c_X9_print l G am (s9_papers (s9_paper (s9_papers (s9_paper bm t7.1) t7.2) t42.1) t42.2) 62 (zpp_up hr42 (by decide)) _ (by simp only [gs9_paper_papers, gg9_paper, gg9_papers]; exact ht48)
    refine zgoV (bs' := [w9 G am (s9_papers (s9_paper (s9_papers (s9_paper (s9_papers (s9_paper bm t7.1) t7.2) t42.1) t42.2) t48.1) t48.2)]) hc [0] rfl rfl rfl hP hD hS hA (va_runV (As := [.int 62]) (rest := []) S (hc.2 _) (cwV 1 S.2.2.2.2 gX9_printRule_X9_print rfl rfl rfl (by decide +kernel) ⟨Nat.le_of_ble_eq_true rfl, Nat.le_of_ble_eq_true rfl⟩) (zpV hK hP hD (is := [0]) rfl rfl 0 rfl rfl (ci := 9) rfl) rfl rfl hl.1 rfl (lv_room (Nat.le_of_ble_eq_true rfl)) dX9_printRule_48 ⟨Nat.zero_le _, Nat.zero_le _⟩) (fun H locs hP hD hS => ?_)
    have hr48 : zpp 1944 t48.2 := by rw [← ht48]; exact zpp_1 hr42
    refine lv_aload_n hx hb dX9_printRule_51 rfl (lv_at hl 0 rfl) ?_
    refine lv_aload_n hx hb dX9_printRule_52 rfl (lv_at hl 0 rfl) ?_
    refine zg9_head S in_X9_printRule_9 hK hP 0 rfl (List.mem_of_getElem? (i := 3) rfl) dX9_printRule_53 ?_
    refine lv_iload_n hx hb dX9_printRule_56 rfl (lv_at hl 1 rfl) ?_
    refine zl9_head S hK hP 0 rfl hx1_16 (f := (g9_head bm)) ((gs9_head_papers _ t48.2).trans ((gs9_head_paper _ t48.1).trans ((gs9_head_papers _ t42.2).trans ((gs9_head_paper _ t42.1).trans ((gs9_head_papers _ t7.2).trans (gs9_head_paper _ t7.1)))))) dX9_printRule_57 ?_
    obtain ⟨t58, ht58⟩ : ∃ z, FX9_printLiteral t48.1 t48.2 ((g9_head bm) x1.toNatClampNeg) = z := ⟨_, rfl⟩
    have hE := hE.trans (bnd_eq ht58)
    have hc := c_X9_printLiteral l G am (s9_papers (s9_paper (s9_papers (s9_paper (s9_papers (s9_paper bm t7.1) t7.2) t42.1) t42.2) t48.1) t48.2) ((g9_head bm) x1.toNatClampNeg) (zpp_up hr48 (by decide)) _ (by simp only [gs9_paper_papers, gg9_paper, gg9_papers]; exact ht58)
    refine zgoV (bs' := [w9 G am (s9_papers (s9_paper (s9_papers (s9_paper (s9_papers (s9_paper (s9_papers (s9_paper bm t7.1) t7.2) t42.1) t42.2) t48.1) t48.2) t58.1) t58.2)]) hc [0] rfl rfl rfl hP hD hS hA (va_runV (As := [.int ((g9_head bm) x1.toNatClampNeg)]) (rest := []) S (hc.2 _) (cwV 1 S.2.2.2.2 gX9_printRule_X9_printLiteral rfl rfl rfl (by decide +kernel) ⟨Nat.le_of_ble_eq_true rfl, Nat.le_of_ble_eq_true rfl⟩) (zpV hK hP hD (is := [0]) rfl rfl 0 rfl rfl (ci := 9) rfl) rfl rfl hl.1 rfl (lv_room (Nat.le_of_ble_eq_true rfl)) dX9_printRule_58 ⟨Nat.zero_le _, Nat.zero_le _⟩) (fun H locs hP hD hS => ?_)
    have hr58 : zpp 1946 t58.2 := by rw [← ht58]; exact zpp_lit hr48 (by decide)
    refine lv_aload_n hx hb dX9_printRule_61 rfl (lv_at hl 0 rfl) ?_
    refine zg9_except S in_X9_printRule_9 hK hP 0 rfl (List.mem_of_getElem? (i := 4) rfl) dX9_printRule_62 ?_
    refine lv_iload_n hx hb dX9_printRule_65 rfl (lv_at hl 1 rfl) ?_
    refine zl9_except S hK hP 0 rfl hx1_16 (f := (g9_except bm)) ((gs9_except_papers _ t58.2).trans ((gs9_except_paper _ t58.1).trans ((gs9_except_papers _ t48.2).trans ((gs9_except_paper _ t48.1).trans ((gs9_except_papers _ t42.2).trans ((gs9_except_paper _ t42.1).trans ((gs9_except_papers _ t7.2).trans (gs9_except_paper _ t7.1)))))))) dX9_printRule_66 ?_
    have hB86 : ∀ (m_paper_86 : Nat → Int32) (m_papers_86 : Int32) (H : Heap) (locs : List Loc) (ls : Array Slot), (zpp 1997 m_papers_86) → T = FX9_printRule_86 (g9_kind bm) (g9_head bm) (g9_body bm) (g9_except bm) (g9_strength bm) (g9_paper bm) (g9_papers bm) x1 m_paper_86 m_papers_86 → zP G [w9 G am (s9_papers (s9_paper bm m_paper_86) m_papers_86)] H → zD A [w9 G am (s9_papers (s9_paper bm m_paper_86) m_papers_86)] → va_S A s.heap H locs → lv_has ls 2 [(0, .ref (am 0)), (1, .int x1)] → W p l e rmX9_printRule s m args below meth c H locs 0 0 Q (F0 m 86 ls []) := by
      intro m_paper_86 m_papers_86 H locs ls hq86 hE hP hD hS hl
      have hE := hE.trans (FX9_printRule_86.eq_1 _ _ _ _ _ _ _ _ _ _)
      refine lv_aload_n hx hb dX9_printRule_86 rfl (lv_at hl 0 rfl) ?_
      refine lv_bipush (v := 42) hx hb dX9_printRule_87 (by decide) ?_
      obtain ⟨t89, ht89⟩ : ∃ z, FX9_print m_paper_86 m_papers_86 42 = z := ⟨_, rfl⟩
      have hE := hE.trans (bnd_eq ht89)
      have hc := c_X9_print l G am (s9_papers (s9_paper bm m_paper_86) m_papers_86) 42 (zpp_up hq86 (by decide)) _ (by simp only [gs9_paper_papers, gg9_paper, gg9_papers]; exact ht89)
      refine zgoV (bs' := [w9 G am (s9_papers (s9_paper (s9_papers (s9_paper bm m_paper_86) m_papers_86) t89.1) t89.2)]) hc [0] rfl rfl rfl hP hD hS hA (va_runV (As := [.int 42]) (rest := []) S (hc.2 _) (cwV 1 S.2.2.2.2 gX9_printRule_X9_print rfl rfl rfl (by decide +kernel) ⟨Nat.le_of_ble_eq_true rfl, Nat.le_of_ble_eq_true rfl⟩) (zpV hK hP hD (is := [0]) rfl rfl 0 rfl rfl (ci := 9) rfl) rfl rfl hl.1 rfl (lv_room (Nat.le_of_ble_eq_true rfl)) dX9_printRule_89 ⟨Nat.zero_le _, Nat.zero_le _⟩) (fun H locs hP hD hS => ?_)
      have hr89 : zpp 1998 t89.2 := by rw [← ht89]; exact zpp_1 hq86
      refine lv_aload_n hx hb dX9_printRule_92 rfl (lv_at hl 0 rfl) ?_
      refine lv_bipush (v := 48) hx hb dX9_printRule_93 (by decide) ?_
      refine lv_aload_n hx hb dX9_printRule_95 rfl (lv_at hl 0 rfl) ?_
      refine zg9_strength S in_X9_printRule_9 hK hP 0 rfl (List.mem_of_getElem? (i := 5) rfl) dX9_printRule_96 ?_
      refine lv_iload_n hx hb dX9_printRule_99 rfl (lv_at hl 1 rfl) ?_
      refine zl9_strength S hK hP 0 rfl hx1_16 (f := (g9_strength bm)) ((gs9_strength_papers _ t89.2).trans ((gs9_strength_paper _ t89.1).trans ((gs9_strength_papers _ m_papers_86).trans (gs9_strength_paper _ m_paper_86)))) dX9_printRule_100 ?_
      refine lv_iadd hx hb dX9_printRule_101 ?_
      obtain ⟨t102, ht102⟩ : ∃ z, FX9_print t89.1 t89.2 (48 + ((g9_strength bm) x1.toNatClampNeg)) = z := ⟨_, rfl⟩
      have hE := hE.trans (bnd_eq ht102)
      have hc := c_X9_print l G am (s9_papers (s9_paper (s9_papers (s9_paper bm m_paper_86) m_papers_86) t89.1) t89.2) (48 + ((g9_strength bm) x1.toNatClampNeg)) (zpp_up hr89 (by decide)) _ (by simp only [gs9_paper_papers, gg9_paper, gg9_papers]; exact ht102)
      refine zgoV (bs' := [w9 G am (s9_papers (s9_paper (s9_papers (s9_paper (s9_papers (s9_paper bm m_paper_86) m_papers_86) t89.1) t89.2) t102.1) t102.2)]) hc [0] rfl rfl rfl hP hD hS hA (va_runV (As := [.int (48 + ((g9_strength bm) x1.toNatClampNeg))]) (rest := []) S (hc.2 _) (cwV 1 S.2.2.2.2 gX9_printRule_X9_print rfl rfl rfl (by decide +kernel) ⟨Nat.le_of_ble_eq_true rfl, Nat.le_of_ble_eq_true rfl⟩) (zpV hK hP hD (is := [0]) rfl rfl 0 rfl rfl (ci := 9) rfl) rfl rfl hl.1 rfl (lv_room (Nat.le_of_ble_eq_true rfl)) dX9_printRule_102 ⟨Nat.zero_le _, Nat.zero_le _⟩) (fun H locs hP hD hS => ?_)
      have hr102 : zpp 1999 t102.2 := by rw [← ht102]; exact zpp_1 hr89
      refine lv_aload_n hx hb dX9_printRule_105 rfl (lv_at hl 0 rfl) ?_
      refine lv_bipush (v := 59) hx hb dX9_printRule_106 (by decide) ?_
      obtain ⟨t108, ht108⟩ : ∃ z, FX9_print t102.1 t102.2 59 = z := ⟨_, rfl⟩
      have hE := hE.trans (bnd_eq ht108)
      have hc := c_X9_print l G am (s9_papers (s9_paper (s9_papers (s9_paper (s9_papers (s9_paper bm m_paper_86) m_papers_86) t89.1) t89.2) t102.1) t102.2) 59 (hr102) _ (by simp only [gs9_paper_papers, gg9_paper, gg9_papers]; exact ht108)
      refine zgoV (bs' := [w9 G am (s9_papers (s9_paper (s9_papers (s9_paper (s9_papers (s9_paper (s9_papers (s9_paper bm m_paper_86) m_papers_86) t89.1) t89.2) t102.1) t102.2) t108.1) t108.2)]) hc [0] rfl rfl rfl hP hD hS hA (va_runV (As := [.int 59]) (rest := []) S (hc.2 _) (cwV 1 S.2.2.2.2 gX9_printRule_X9_print rfl rfl rfl (by decide +kernel) ⟨Nat.le_of_ble_eq_true rfl, Nat.le_of_ble_eq_true rfl⟩) (zpV hK hP hD (is := [0]) rfl rfl 0 rfl rfl (ci := 9) rfl) rfl rfl hl.1 rfl (lv_room (Nat.le_of_ble_eq_true rfl)) dX9_printRule_108 ⟨Nat.zero_le _, Nat.zero_le _⟩) (fun H locs hP hD hS => ?_)
      rw [show (s9_papers (s9_paper (s9_papers (s9_paper (s9_papers (s9_paper (s9_papers (s9_paper bm m_paper_86) m_papers_86) t89.1) t89.2) t102.1) t102.2) t108.1) t108.2) = (s9_papers (s9_paper bm t108.1) t108.2) from ((congrArg (fun z => s9_papers z t108.2) ((congrArg (fun z => s9_paper z t108.1) ((congrArg (fun z => s9_papers z t102.2) ((congrArg (fun z => s9_paper z t102.1) ((congrArg (fun z => s9_papers z t89.2) ((cm9_paper_papers _ m_papers_86 t89.1).trans (congrArg (fun z => s9_papers z m_papers_86) (ss9_paper _ m_paper_86 t89.1)))).trans (ss9_papers _ m_papers_86 t89.2))).trans ((cm9_paper_papers _ t89.2 t102.1).trans (congrArg (fun z => s9_papers z t89.2) (ss9_paper _ t89.1 t102.1))))).trans (ss9_papers _ t89.2 t102.2))).trans ((cm9_paper_papers _ t102.2 t108.1).trans (congrArg (fun z => s9_papers z t102.2) (ss9_paper _ t102.1 t108.1))))).trans (ss9_papers _ t102.2 t108.2))] at hP hD
      exact hret _ _ _ _ _ (by subst hE; rfl) hP hS dX9_printRule_111
    refine lv_if_eq (tgt := 86) hx hb dX9_printRule_67 (by decide) (fun c67 => ?_) (fun c67 => ?_)
    · have hE := hE.trans (if_pos c67)
      rw [show (s9_papers (s9_paper (s9_papers (s9_paper (s9_papers (s9_paper (s9_papers (s9_paper bm t7.1) t7.2) t42.1) t42.2) t48.1) t48.2) t58.1) t58.2) = (s9_papers (s9_paper bm t58.1) t58.2) from ((congrArg (fun z => s9_papers z t58.2) ((congrArg (fun z => s9_paper z t58.1) ((congrArg (fun z => s9_papers z t48.2) ((congrArg (fun z => s9_paper z t48.1) ((congrArg (fun z => s9_papers z t42.2) ((cm9_paper_papers _ t7.2 t42.1).trans (congrArg (fun z => s9_papers z t7.2) (ss9_paper _ t7.1 t42.1)))).trans (ss9_papers _ t7.2 t42.2))).trans ((cm9_paper_papers _ t42.2 t48.1).trans (congrArg (fun z => s9_papers z t42.2) (ss9_paper _ t42.1 t48.1))))).trans (ss9_papers _ t42.2 t48.2))).trans ((cm9_paper_papers _ t48.2 t58.1).trans (congrArg (fun z => s9_papers z t48.2) (ss9_paper _ t48.1 t58.1))))).trans (ss9_papers _ t48.2 t58.2))] at hP hD
      exact hB86 t58.1 t58.2 _ _ _ (by exact zpp_up hr58 (by decide)) hE hP hD hS (lv_sub hl [0, 1] rfl)
    · have hE := hE.trans (if_neg c67)
      refine lv_aload_n hx hb dX9_printRule_70 rfl (lv_at hl 0 rfl) ?_
      refine lv_bipush (v := 63) hx hb dX9_printRule_71 (by decide) ?_
      obtain ⟨t73, ht73⟩ : ∃ z, FX9_print t58.1 t58.2 63 = z := ⟨_, rfl⟩
      have hE := hE.trans (bnd_eq ht73)
      have hc := c_X9_print l G am (s9_papers (s9_paper (s9_papers (s9_paper (s9_papers (s9_paper (s9_papers (s9_paper bm t7.1) t7.2) t42.1) t42.2) t48.1) t48.2) t58.1) t58.2) 63 (zpp_up hr58 (by decide)) _ (by simp only [gs9_paper_papers, gg9_paper, gg9_papers]; exact ht73)
      refine zgoV (bs' := [w9 G am (s9_papers (s9_paper (s9_papers (s9_paper (s9_papers (s9_paper (s9_papers (s9_paper (s9_papers (s9_paper bm t7.1) t7.2) t42.1) t42.2) t48.1) t48.2) t58.1) t58.2) t73.1) t73.2)]) hc [0] rfl rfl rfl hP hD hS hA (va_runV (As := [.int 63]) (rest := []) S (hc.2 _) (cwV 1 S.2.2.2.2 gX9_printRule_X9_print rfl rfl rfl (by decide +kernel) ⟨Nat.le_of_ble_eq_true rfl, Nat.le_of_ble_eq_true rfl⟩) (zpV hK hP hD (is := [0]) rfl rfl 0 rfl rfl (ci := 9) rfl) rfl rfl hl.1 rfl (lv_room (Nat.le_of_ble_eq_true rfl)) dX9_printRule_73 ⟨Nat.zero_le _, Nat.zero_le _⟩) (fun H locs hP hD hS => ?_)
      have hr73 : zpp 1947 t73.2 := by rw [← ht73]; exact zpp_1 hr58
      refine lv_aload_n hx hb dX9_printRule_76 rfl (lv_at hl 0 rfl) ?_
      refine lv_aload_n hx hb dX9_printRule_77 rfl (lv_at hl 0 rfl) ?_
      refine zg9_except S in_X9_printRule_9 hK hP 0 rfl (List.mem_of_getElem? (i := 4) rfl) dX9_printRule_78 ?_
      refine lv_iload_n hx hb dX9_printRule_81 rfl (lv_at hl 1 rfl) ?_
      refine zl9_except S hK hP 0 rfl hx1_16 (f := (g9_except bm)) ((gs9_except_papers _ t73.2).trans ((gs9_except_paper _ t73.1).trans ((gs9_except_papers _ t58.2).trans ((gs9_except_paper _ t58.1).trans ((gs9_except_papers _ t48.2).trans ((gs9_except_paper _ t48.1).trans ((gs9_except_papers _ t42.2).trans ((gs9_except_paper _ t42.1).trans ((gs9_except_papers _ t7.2).trans (gs9_except_paper _ t7.1)))))))))) dX9_printRule_82 ?_
      obtain ⟨t83, ht83⟩ : ∃ z, FX9_printAll t73.1 t73.2 ((g9_except bm) x1.toNatClampNeg) = z := ⟨_, rfl⟩
      have hE := hE.trans (bnd_eq ht83)
      have hc := c_X9_printAll l G am (s9_papers (s9_paper (s9_papers (s9_paper (s9_papers (s9_paper (s9_papers (s9_paper (s9_papers (s9_paper bm t7.1) t7.2) t42.1) t42.2) t48.1) t48.2) t58.1) t58.2) t73.1) t73.2) ((g9_except bm) x1.toNatClampNeg) (zpp_up hr73 (by decide)) _ (by simp only [gs9_paper_papers, gg9_paper, gg9_papers]; exact ht83)
      refine zgoV (bs' := [w9 G am (s9_papers (s9_paper (s9_papers (s9_paper (s9_papers (s9_paper (s9_papers (s9_paper (s9_papers (s9_paper (s9_papers (s9_paper bm t7.1) t7.2) t42.1) t42.2) t48.1) t48.2) t58.1) t58.2) t73.1) t73.2) t83.1) t83.2)]) hc [0] rfl rfl rfl hP hD hS hA (va_runV (As := [.int ((g9_except bm) x1.toNatClampNeg)]) (rest := []) S (hc.2 _) (cwV 1 S.2.2.2.2 gX9_printRule_X9_printAll rfl rfl rfl (by decide +kernel) ⟨Nat.le_of_ble_eq_true rfl, Nat.le_of_ble_eq_true rfl⟩) (zpV hK hP hD (is := [0]) rfl rfl 0 rfl rfl (ci := 9) rfl) rfl rfl hl.1 rfl (lv_room (Nat.le_of_ble_eq_true rfl)) dX9_printRule_83 ⟨Nat.zero_le _, Nat.zero_le _⟩) (fun H locs hP hD hS => ?_)
      have hr83 : zpp 1997 t83.2 := by rw [← ht83]; exact zpp_all hr73 (by decide)
      rw [show (s9_papers (s9_paper (s9_papers (s9_paper (s9_papers (s9_paper (s9_papers (s9_paper (s9_papers (s9_paper (s9_papers (s9_paper bm t7.1) t7.2) t42.1) t42.2) t48.1) t48.2) t58.1) t58.2) t73.1) t73.2) t83.1) t83.2) = (s9_papers (s9_paper bm t83.1) t83.2) from ((congrArg (fun z => s9_papers z t83.2) ((congrArg (fun z => s9_paper z t83.1) ((congrArg (fun z => s9_papers z t73.2) ((congrArg (fun z => s9_paper z t73.1) ((congrArg (fun z => s9_papers z t58.2) ((congrArg (fun z => s9_paper z t58.1) ((congrArg (fun z => s9_papers z t48.2) ((congrArg (fun z => s9_paper z t48.1) ((congrArg (fun z => s9_papers z t42.2) ((cm9_paper_papers _ t7.2 t42.1).trans (congrArg (fun z => s9_papers z t7.2) (ss9_paper _ t7.1 t42.1)))).trans (ss9_papers _ t7.2 t42.2))).trans ((cm9_paper_papers _ t42.2 t48.1).trans (congrArg (fun z => s9_papers z t42.2) (ss9_paper _ t42.1 t48.1))))).trans (ss9_papers _ t42.2 t48.2))).trans ((cm9_paper_papers _ t48.2 t58.1).trans (congrArg (fun z => s9_papers z t48.2) (ss9_paper _ t48.1 t58.1))))).trans (ss9_papers _ t48.2 t58.2))).trans ((cm9_paper_papers _ t58.2 t73.1).trans (congrArg (fun z => s9_papers z t58.2) (ss9_paper _ t58.1 t73.1))))).trans (ss9_papers _ t58.2 t73.2))).trans ((cm9_paper_papers _ t73.2 t83.1).trans (congrArg (fun z => s9_papers z t73.2) (ss9_paper _ t73.1 t83.1))))).trans (ss9_papers _ t73.2 t83.2))] at hP hD
      exact hB86 t83.1 t83.2 _ _ _ (by exact hr83) hE hP hD hS (lv_sub hl [0, 1] rfl)
  refine lv_if_ne (tgt := 25) hx hb dX9_printRule_17 (by decide) (fun c17 => ?_) (fun c17 => ?_)
  · have hE := hE.trans (if_neg c17)
    refine lv_aload_n hx hb dX9_printRule_25 rfl (lv_at hl 0 rfl) ?_
    refine zg9_kind S in_X9_printRule_9 hK hP 0 rfl (List.mem_of_getElem? (i := 2) rfl) dX9_printRule_26 ?_
    refine lv_iload_n hx hb dX9_printRule_29 rfl (lv_at hl 1 rfl) ?_
    refine zl9_kind S hK hP 0 rfl hx1_16 (f := (g9_kind bm)) ((gs9_kind_papers _ t7.2).trans (gs9_kind_paper _ t7.1)) dX9_printRule_30 ?_
    refine lv_iconst (v := 1) hx hb dX9_printRule_31 (by decide) ?_
    refine lv_icmp_ne (tgt := 40) hx hb dX9_printRule_32 (by decide) (fun c32 => ?_) (fun c32 => ?_)
    · have hE := hE.trans (if_neg c32)
      refine lv_bipush (v := 126) hx hb dX9_printRule_40 (by decide) ?_
      exact hB42 126 _ _ _ (by exact hq7) hE hP hD hS (lv_sub hl [0, 1] rfl)
    · have hE := hE.trans (if_pos c32)
      refine lv_bipush (v := 61) hx hb dX9_printRule_35 (by decide) ?_
      refine lv_goto (tgt := 42) hx hb dX9_printRule_37 (by decide) ?_
      exact hB42 61 _ _ _ (by exact hq7) hE hP hD hS (lv_sub hl [0, 1] rfl)
  · have hE := hE.trans (if_pos c17)
    refine lv_bipush (v := 45) hx hb dX9_printRule_20 (by decide) ?_
    refine lv_goto (tgt := 42) hx hb dX9_printRule_22 (by decide) ?_
    exact hB42 45 _ _ _ (by exact hq7) hE hP hD hS (lv_sub hl [0, 1] rfl)

theorem zpp_rule {k h b e s p : Nat → Int32} {x y : Int32} {c d : Nat} (hp : zpp c x) (hd : c + 108 ≤ d) : zpp d (FX9_printRule k h b e s p x y).2 := by
  have h1 := fun (q : Nat → Int32) (w : Int32) => zpp_all (p := p) (y := w) hp (Nat.le_refl _)
  simp only [FX9_printRule, FX9_printRule_42, FX9_printRule_86, bnd, FX9_print]
  have k2 := fun (q : Nat → Int32) (z w : Int32) (g : zpp (c + 50 + 1 + 1) z) => zpp_lit (p := q) (y := w) g (Nat.le_refl _)
  repeat' split
  all_goals first
    | exact zpp_1 (zpp_1 (zpp_1 (zpp_all (zpp_1 (zpp_lit (zpp_1 (zpp_1 (zpp_all hp (Nat.le_refl _)) (Nat.le_refl _)) (Nat.le_refl _)) (Nat.le_refl _)) (Nat.le_refl _)) (Nat.le_refl _)) (Nat.le_refl _)) (Nat.le_refl _))
    | exact zpp_1 (zpp_1 (zpp_1 (zpp_lit (zpp_1 (zpp_1 (zpp_all hp (Nat.le_refl _)) (Nat.le_refl _)) (Nat.le_refl _)) (Nat.le_refl _)) (Nat.le_refl _)) (Nat.le_refl _))

def rmX9_printTag : Room := { frames := 2, cells := 0, slots := 0, locals := 42 }
set_option maxHeartbeats 4000000 in
set_option maxRecDepth 100000 in
theorem c_X9_printTag (l : Launch) (G : zG) (am : Nat → Nat) (bm : S9) (x1 : Int32) (hpp : zpp 1996 (g9_papers bm)) (T : (Nat → Int32) × (Int32)) (hT : FX9_printTag (g9_paper bm) (g9_papers bm) x1 = T) : zV l yX9_printTag wsX9_printTag rmX9_printTag G [.ref (am 0), .int x1] [w9 G am bm] [w9 G am (s9_papers (s9_paper bm T.1) T.2)] := by
  refine zV.mk (cc := cX9_printTag) (maxL := 3) (by decide +kernel) rfl (Nat.le_of_ble_eq_true rfl) (zfl_cons (wf9 _ _ _ _) rfl) ?_
  intro p e s m args below meth c Q A ls S hK hD hA hP hl hret
  have hx := S.1
  have hb := S.2.1
  have hS : va_S A s.heap s.heap [] := va_S.rf
  have hl : lv_has ls 3 [(0, .ref (am 0)), (1, .int x1)] := hl
  have hE := hT.symm.trans (FX9_printTag.eq_1 _ _ _)
  refine lv_iload_n hx hb dX9_printTag_0 rfl (lv_at hl 1 rfl) ?_
  refine lv_bipush (v := 20) hx hb dX9_printTag_1 (by decide) ?_
  refine lv_idiv hx hb dX9_printTag_3 (by decide) ?_
  refine lv_istore_n (lv' := [(2, .int (x1 / 20)), (0, .ref (am 0)), (1, .int x1)]) hx hb dX9_printTag_4 rfl hl (by decide) rfl (fun ls hl => ?_)
  refine lv_aload_n hx hb dX9_printTag_5 rfl (lv_at hl 1 rfl) ?_
  refine lv_iload_n hx hb dX9_printTag_6 rfl (lv_at hl 0 rfl) ?_
  have hB37 : ∀ (k1_37 : Int32) (H : Heap) (locs : List Loc) (ls : Array Slot), (zpp 1996 (g9_papers bm)) → T = FX9_printTag_37 (g9_paper bm) (g9_papers bm) x1 k1_37 (g9_paper bm) (g9_papers bm) → zP G [w9 G am bm] H → zD A [w9 G am bm] → va_S A s.heap H locs → lv_has ls 3 [(0, .ref (am 0)), (1, .int x1)] → W p l e rmX9_printTag s m args below meth c H locs 0 0 Q (F0 m 37 ls [.int k1_37, .ref (am 0)]) := by
    intro k1_37 H locs ls hq37 hE hP hD hS hl
    have hE := hE.trans (FX9_printTag_37.eq_1 _ _ _ _ _ _)
    obtain ⟨t37, ht37⟩ : ∃ z, FX9_print (g9_paper bm) (g9_papers bm) k1_37 = z := ⟨_, rfl⟩
    have hE := hE.trans (bnd_eq ht37)
    have hc := c_X9_print l G am bm k1_37 (zpp_up hq37 (by decide)) _ ht37
    refine zgoV (bs' := [w9 G am (s9_papers (s9_paper bm t37.1) t37.2)]) hc [0] rfl rfl rfl hP hD hS hA (va_runV (As := [.int k1_37]) (rest := []) S (hc.2 _) (cwV 1 S.2.2.2.2 gX9_printTag_X9_print rfl rfl rfl (by decide +kernel) ⟨Nat.le_of_ble_eq_true rfl, Nat.le_of_ble_eq_true rfl⟩) (zpV hK hP hD (is := [0]) rfl rfl 0 rfl rfl (ci := 9) rfl) rfl rfl hl.1 rfl (lv_room (Nat.le_of_ble_eq_true rfl)) dX9_printTag_37 ⟨Nat.zero_le _, Nat.zero_le _⟩) (fun H locs hP hD hS => ?_)
    have hr37 : zpp 1997 t37.2 := by rw [← ht37]; exact zpp_1 hq37
    refine lv_aload_n hx hb dX9_printTag_40 rfl (lv_at hl 0 rfl) ?_
    refine lv_iload_n hx hb dX9_printTag_41 rfl (lv_at hl 1 rfl) ?_
    refine lv_bipush (v := 20) hx hb dX9_printTag_42 (by decide) ?_
    refine lv_irem hx hb dX9_printTag_44 (by decide) ?_
    obtain ⟨t45, ht45⟩ : ∃ z, FX9_printLiteral t37.1 t37.2 (x1 - x1 / 20 * 20) = z := ⟨_, rfl⟩
    have hE := hE.trans (bnd_eq ht45)
    have hc := c_X9_printLiteral l G am (s9_papers (s9_paper bm t37.1) t37.2) (x1 - x1 / 20 * 20) (zpp_up hr37 (by decide)) _ (by simp only [gs9_paper_papers, gg9_paper, gg9_papers]; exact ht45)
    refine zgoV (bs' := [w9 G am (s9_papers (s9_paper (s9_papers (s9_paper bm t37.1) t37.2) t45.1) t45.2)]) hc [0] rfl rfl rfl hP hD hS hA (va_runV (As := [.int (x1 - x1 / 20 * 20)]) (rest := []) S (hc.2 _) (cwV 1 S.2.2.2.2 gX9_printTag_X9_printLiteral rfl rfl rfl (by decide +kernel) ⟨Nat.le_of_ble_eq_true rfl, Nat.le_of_ble_eq_true rfl⟩) (zpV hK hP hD (is := [0]) rfl rfl 0 rfl rfl (ci := 9) rfl) rfl rfl hl.1 rfl (lv_room (Nat.le_of_ble_eq_true rfl)) dX9_printTag_45 ⟨Nat.zero_le _, Nat.zero_le _⟩) (fun H locs hP hD hS => ?_)
    have hr45 : zpp 1999 t45.2 := by rw [← ht45]; exact zpp_lit hr37 (by decide)
    refine lv_aload_n hx hb dX9_printTag_48 rfl (lv_at hl 0 rfl) ?_
    refine lv_bipush (v := 59) hx hb dX9_printTag_49 (by decide) ?_
    obtain ⟨t51, ht51⟩ : ∃ z, FX9_print t45.1 t45.2 59 = z := ⟨_, rfl⟩
    have hE := hE.trans (bnd_eq ht51)
    have hc := c_X9_print l G am (s9_papers (s9_paper (s9_papers (s9_paper bm t37.1) t37.2) t45.1) t45.2) 59 (hr45) _ (by simp only [gs9_paper_papers, gg9_paper, gg9_papers]; exact ht51)
    refine zgoV (bs' := [w9 G am (s9_papers (s9_paper (s9_papers (s9_paper (s9_papers (s9_paper bm t37.1) t37.2) t45.1) t45.2) t51.1) t51.2)]) hc [0] rfl rfl rfl hP hD hS hA (va_runV (As := [.int 59]) (rest := []) S (hc.2 _) (cwV 1 S.2.2.2.2 gX9_printTag_X9_print rfl rfl rfl (by decide +kernel) ⟨Nat.le_of_ble_eq_true rfl, Nat.le_of_ble_eq_true rfl⟩) (zpV hK hP hD (is := [0]) rfl rfl 0 rfl rfl (ci := 9) rfl) rfl rfl hl.1 rfl (lv_room (Nat.le_of_ble_eq_true rfl)) dX9_printTag_51 ⟨Nat.zero_le _, Nat.zero_le _⟩) (fun H locs hP hD hS => ?_)
    rw [show (s9_papers (s9_paper (s9_papers (s9_paper (s9_papers (s9_paper bm t37.1) t37.2) t45.1) t45.2) t51.1) t51.2) = (s9_papers (s9_paper bm t51.1) t51.2) from ((congrArg (fun z => s9_papers z t51.2) ((congrArg (fun z => s9_paper z t51.1) ((congrArg (fun z => s9_papers z t45.2) ((cm9_paper_papers _ t37.2 t45.1).trans (congrArg (fun z => s9_papers z t37.2) (ss9_paper _ t37.1 t45.1)))).trans (ss9_papers _ t37.2 t45.2))).trans ((cm9_paper_papers _ t45.2 t51.1).trans (congrArg (fun z => s9_papers z t45.2) (ss9_paper _ t45.1 t51.1))))).trans (ss9_papers _ t45.2 t51.2))] at hP hD
    exact hret _ _ _ _ _ (by subst hE; rfl) hP hS dX9_printTag_54
  refine lv_if_ne (tgt := 15) hx hb dX9_printTag_7 (by decide) (fun c7 => ?_) (fun c7 => ?_)
  · have hE := hE.trans (if_neg c7)
    refine lv_iload_n hx hb dX9_printTag_15 rfl (lv_at hl 0 rfl) ?_
    refine lv_iconst (v := 1) hx hb dX9_printTag_16 (by decide) ?_
    refine lv_icmp_ne (tgt := 25) hx hb dX9_printTag_17 (by decide) (fun c17 => ?_) (fun c17 => ?_)
    · have hE := hE.trans (if_neg c17)
      refine lv_iload_n hx hb dX9_printTag_25 rfl (lv_at hl 0 rfl) ?_
      refine lv_iconst (v := 2) hx hb dX9_printTag_26 (by decide) ?_
      refine lv_icmp_ne (tgt := 35) hx hb dX9_printTag_27 (by decide) (fun c27 => ?_) (fun c27 => ?_)
      · have hE := hE.trans (if_neg c27)
        refine lv_bipush (v := 45) hx hb dX9_printTag_35 (by decide) ?_
        exact hB37 45 _ _ _ (by exact hpp) hE hP hD hS (lv_sub hl [1, 2] rfl)
      · have hE := hE.trans (if_pos c27)
        refine lv_bipush (v := 43) hx hb dX9_printTag_30 (by decide) ?_
        refine lv_goto (tgt := 37) hx hb dX9_printTag_32 (by decide) ?_
        exact hB37 43 _ _ _ (by exact hpp) hE hP hD hS (lv_sub hl [1, 2] rfl)
    · have hE := hE.trans (if_pos c17)
      refine lv_bipush (v := 35) hx hb dX9_printTag_20 (by decide) ?_
      refine lv_goto (tgt := 37) hx hb dX9_printTag_22 (by decide) ?_
      exact hB37 35 _ _ _ (by exact hpp) hE hP hD hS (lv_sub hl [1, 2] rfl)
  · have hE := hE.trans (if_pos c7)
    refine lv_bipush (v := 33) hx hb dX9_printTag_10 (by decide) ?_
    refine lv_goto (tgt := 37) hx hb dX9_printTag_12 (by decide) ?_
    exact hB37 33 _ _ _ (by exact hpp) hE hP hD hS (lv_sub hl [1, 2] rfl)

theorem zpp_tag {p : Nat → Int32} {x y : Int32} {c d : Nat} (hp : zpp c x) (hd : c + 4 ≤ d) : zpp d (FX9_printTag p x y).2 := by
  simp only [FX9_printTag, FX9_printTag_37, bnd, FX9_print]
  repeat' split
  all_goals exact zpp_1 (zpp_lit (zpp_1 hp (Nat.le_refl _)) (Nat.le_refl _))

theorem in_X9_prints_9 : ∀ w ∈ u_ws RX9 TX9 40, w ∈ wsX9_prints := by decide +kernel
def rmX9_prints : Room := { frames := 8, cells := 0, slots := 0, locals := 180 }
set_option maxHeartbeats 4000000 in
set_option maxRecDepth 100000 in
theorem c_X9_prints (l : Launch) (G : zG) (am : Nat → Nat) (bm : S9) (x1 : Int32) (x2 : Int32) (hpv : zPv (g9_facts bm) (g9_rules bm) (g9_kind bm) (g9_head bm) (g9_body bm) (g9_except bm) (g9_strength bm) (g9_off bm) (g9_over bm) (g9_came bm) (g9_known bm) (g9_fresh bm) (g9_rounds bm)) (hpl : ∀ T, vp_in x1 20 → vp_in x2 4 → FX9_proves (g9_facts bm) (g9_rules bm) (g9_kind bm) (g9_head bm) (g9_body bm) (g9_except bm) (g9_strength bm) (g9_off bm) (g9_over bm) (g9_came bm) (g9_known bm) (g9_fresh bm) (g9_rounds bm) (g9_needed bm) (g9_listed bm) (g9_lists bm) x1 x2 = T → ¬ T.1 = 0 → ∃ N : Nat, N ≤ 80 ∧ T.2.2.2.2.2.2.2 = nI N) (hz_m_rules : ∃ N : Nat, N ≤ 16 ∧ g9_rules bm = nI N) (T : Int32 × (Nat → Int32) × (Int32) × (Nat → Int32) × (Nat → Int32) × (Nat → Int32) × (Int32) × (Nat → Int32) × (Nat → Int32) × (Int32)) (hT : FX9_prints (g9_facts bm) (g9_rules bm) (g9_kind bm) (g9_head bm) (g9_body bm) (g9_except bm) (g9_strength bm) (g9_off bm) (g9_over bm) (g9_paper bm) (g9_papers bm) (g9_came bm) (g9_known bm) (g9_fresh bm) (g9_rounds bm) (g9_needed bm) (g9_listed bm) (g9_lists bm) x1 x2 = T) : zI l yX9_prints wsX9_prints rmX9_prints .int G [.ref (am 0), .int x1, .int x2] [w9 G am bm] T.1 [w9 G am (s9_lists (s9_listed (s9_needed (s9_rounds (s9_fresh (s9_known (s9_came (s9_papers (s9_paper bm T.2.1) T.2.2.1) T.2.2.2.1) T.2.2.2.2.1) T.2.2.2.2.2.1) T.2.2.2.2.2.2.1) T.2.2.2.2.2.2.2.1) T.2.2.2.2.2.2.2.2.1) T.2.2.2.2.2.2.2.2.2)] := by
  refine zI.mk (cc := cX9_prints) (maxL := 4) (by decide +kernel) rfl (Nat.le_of_ble_eq_true rfl) (zfl_cons (wf9 _ _ _ _) rfl) ?_
  intro p e s m args below meth c Q A ls S hK hD hA hP hl hret
  have hx := S.1
  have hb := S.2.1
  have hS : va_S A s.heap s.heap [] := va_S.rf
  have hl : lv_has ls 4 [(0, .ref (am 0)), (1, .int x1), (2, .int x2)] := hl
  obtain ⟨N_m_rules, hN_m_rules, hs_m_rules⟩ := id hz_m_rules
  have hE := hT.symm.trans (FX9_prints.eq_1 _ _ _ _ _ _ _ _ _ _ _ _ _ _ _ _ _ _ _ _)
  refine lv_iload_n hx hb dX9_prints_0 rfl (lv_at hl 1 rfl) ?_
  refine lv_iconst (v := (-1)) hx hb dX9_prints_1 (by decide) ?_
  have hB21 : ∀ (H : Heap) (locs : List Loc) (ls : Array Slot), (x1 = -1 ∨ (vp_in x1 20 ∧ vp_in x2 4)) → T = FX9_prints_21 (g9_facts bm) (g9_rules bm) (g9_kind bm) (g9_head bm) (g9_body bm) (g9_except bm) (g9_strength bm) (g9_off bm) (g9_over bm) (g9_paper bm) (g9_papers bm) (g9_came bm) (g9_known bm) (g9_fresh bm) (g9_rounds bm) (g9_needed bm) (g9_listed bm) (g9_lists bm) x1 x2 (g9_paper bm) (g9_papers bm) (g9_came bm) (g9_known bm) (g9_fresh bm) (g9_rounds bm) (g9_needed bm) (g9_listed bm) (g9_lists bm) → zP G [w9 G am bm] H → zD A [w9 G am bm] → va_S A s.heap H locs → lv_has ls 4 [(0, .ref (am 0)), (1, .int x1), (2, .int x2)] → W p l e rmX9_prints s m args below meth c H locs 0 0 Q (F0 m 21 ls []) := by
    intro H locs ls hV21 hE hP hD hS hl
    have hE := hE.trans (FX9_prints_21.eq_1 _ _ _ _ _ _ _ _ _ _ _ _ _ _ _ _ _ _ _ _ _ _ _ _ _ _ _ _ _)
    refine lv_iload_n hx hb dX9_prints_21 rfl (lv_at hl 1 rfl) ?_
    refine lv_iconst (v := (-1)) hx hb dX9_prints_22 (by decide) ?_
    have hB38 : ∀ (m_came_38 : Nat → Int32) (m_known_38 : Nat → Int32) (m_fresh_38 : Nat → Int32) (m_rounds_38 : Int32) (m_needed_38 : Nat → Int32) (m_listed_38 : Nat → Int32) (m_lists_38 : Int32) (H : Heap) (locs : List Loc) (ls : Array Slot), (x1 < 0 ∨ ∃ N : Nat, N ≤ 80 ∧ m_lists_38 = nI N) → T = FX9_prints_38 (g9_facts bm) (g9_rules bm) (g9_kind bm) (g9_head bm) (g9_body bm) (g9_except bm) (g9_strength bm) (g9_off bm) (g9_over bm) (g9_paper bm) (g9_papers bm) (g9_came bm) (g9_known bm) (g9_fresh bm) (g9_rounds bm) (g9_needed bm) (g9_listed bm) (g9_lists bm) x1 x2 (g9_paper bm) (g9_papers bm) m_came_38 m_known_38 m_fresh_38 m_rounds_38 m_needed_38 m_listed_38 m_lists_38 → zP G [w9 G am (s9_lists (s9_listed (s9_needed (s9_rounds (s9_fresh (s9_known (s9_came bm m_came_38) m_known_38) m_fresh_38) m_rounds_38) m_needed_38) m_listed_38) m_lists_38)] H → zD A [w9 G am (s9_lists (s9_listed (s9_needed (s9_rounds (s9_fresh (s9_known (s9_came bm m_came_38) m_known_38) m_fresh_38) m_rounds_38) m_needed_38) m_listed_38) m_lists_38)] → va_S A s.heap H locs → lv_has ls 4 [(0, .ref (am 0)), (1, .int x1)] → W p l e rmX9_prints s m args below meth c H locs 0 0 Q (F0 m 38 ls []) := by
      intro m_came_38 m_known_38 m_fresh_38 m_rounds_38 m_needed_38 m_listed_38 m_lists_38 H locs ls hQ38 hE hP hD hS hl
      have hE := hE.trans (FX9_prints_38.eq_1 _ _ _ _ _ _ _ _ _ _ _ _ _ _ _ _ _ _ _ _ _ _ _ _ _ _ _ _ _)
      refine lv_aload_n hx hb dX9_prints_38 rfl (lv_at hl 0 rfl) ?_
      refine lv_iconst (v := 0) hx hb dX9_prints_39 (by decide) ?_
      refine zp9_papers (bs1 := [w9 G am (s9_papers (s9_lists (s9_listed (s9_needed (s9_rounds (s9_fresh (s9_known (s9_came bm m_came_38) m_known_38) m_fresh_38) m_rounds_38) m_needed_38) m_listed_38) m_lists_38) 0)]) S in_X9_prints_9 hK hP hD hS 0 rfl (List.mem_of_getElem? (i := 1) rfl) dX9_prints_40 rfl (fun H locs hP hD hS => ?_)
      refine lv_iconst (v := 0) hx hb dX9_prints_43 (by decide) ?_
      have hB92 : ∀ (m_paper_92 : Nat → Int32) (m_papers_92 : Int32) (H : Heap) (locs : List Loc) (ls : Array Slot), T = FX9_prints_92 (g9_facts bm) (g9_rules bm) (g9_kind bm) (g9_head bm) (g9_body bm) (g9_except bm) (g9_strength bm) (g9_off bm) (g9_over bm) (g9_paper bm) (g9_papers bm) (g9_came bm) (g9_known bm) (g9_fresh bm) (g9_rounds bm) (g9_needed bm) (g9_listed bm) (g9_lists bm) x1 x2 m_paper_92 m_papers_92 m_came_38 m_known_38 m_fresh_38 m_rounds_38 m_needed_38 m_listed_38 m_lists_38 → zP G [w9 G am (s9_lists (s9_listed (s9_needed (s9_rounds (s9_fresh (s9_known (s9_came (s9_papers (s9_paper bm m_paper_92) m_papers_92) m_came_38) m_known_38) m_fresh_38) m_rounds_38) m_needed_38) m_listed_38) m_lists_38)] H → zD A [w9 G am (s9_lists (s9_listed (s9_needed (s9_rounds (s9_fresh (s9_known (s9_came (s9_papers (s9_paper bm m_paper_92) m_papers_92) m_came_38) m_known_38) m_fresh_38) m_rounds_38) m_needed_38) m_listed_38) m_lists_38)] → va_S A s.heap H locs → lv_has ls 4 [(0, .ref (am 0))] → W p l e rmX9_prints s m args below meth c H locs 0 0 Q (F0 m 92 ls []) := by
        intro m_paper_92 m_papers_92 H locs ls hE hP hD hS hl
        have hE := hE.trans (FX9_prints_92.eq_1 _ _ _ _ _ _ _ _ _ _ _ _ _ _ _ _ _ _ _ _ _ _ _ _ _ _ _ _ _)
        refine lv_aload_n hx hb dX9_prints_92 rfl (lv_at hl 0 rfl) ?_
        refine zg9_papers S in_X9_prints_9 hK hP 0 rfl (List.mem_of_getElem? (i := 1) rfl) (v := m_papers_92) ((gs9_papers_lists _ m_lists_38).trans ((gs9_papers_listed _ m_listed_38).trans ((gs9_papers_needed _ m_needed_38).trans ((gs9_papers_rounds _ m_rounds_38).trans ((gs9_papers_fresh _ m_fresh_38).trans ((gs9_papers_known _ m_known_38).trans ((gs9_papers_came _ m_came_38).trans (gg9_papers _ m_papers_92)))))))) dX9_prints_93 ?_
        exact hret _ _ _ _ _ _ (by subst hE; rfl) rfl hP hS dX9_prints_96
      have hB45 : ∀ (n45 : Nat) (i3_45 : Nat) (m_paper_45 : Nat → Int32) (m_papers_45 : Int32) (H : Heap) (locs : List Loc) (ls : Array Slot), (i3_45 ≤ 80) → (∃ P : Nat, (x1 < 0 → P ≤ 108 * i3_45) ∧ (¬ x1 < 0 → P ≤ 4 * i3_45) ∧ m_papers_45 = nI P) → 82 ≤ i3_45 + n45 → T = FX9_prints_45 (g9_facts bm) (g9_rules bm) (g9_kind bm) (g9_head bm) (g9_body bm) (g9_except bm) (g9_strength bm) (g9_off bm) (g9_over bm) (g9_paper bm) (g9_papers bm) (g9_came bm) (g9_known bm) (g9_fresh bm) (g9_rounds bm) (g9_needed bm) (g9_listed bm) (g9_lists bm) x1 x2 (FX9_prints_92 (g9_facts bm) (g9_rules bm) (g9_kind bm) (g9_head bm) (g9_body bm) (g9_except bm) (g9_strength bm) (g9_off bm) (g9_over bm) (g9_paper bm) (g9_papers bm) (g9_came bm) (g9_known bm) (g9_fresh bm) (g9_rounds bm) (g9_needed bm) (g9_listed bm) (g9_lists bm) x1 x2) n45 (nI i3_45) m_paper_45 m_papers_45 m_came_38 m_known_38 m_fresh_38 m_rounds_38 m_needed_38 m_listed_38 m_lists_38 → zP G [w9 G am (s9_lists (s9_listed (s9_needed (s9_rounds (s9_fresh (s9_known (s9_came (s9_papers (s9_paper bm m_paper_45) m_papers_45) m_came_38) m_known_38) m_fresh_38) m_rounds_38) m_needed_38) m_listed_38) m_lists_38)] H → zD A [w9 G am (s9_lists (s9_listed (s9_needed (s9_rounds (s9_fresh (s9_known (s9_came (s9_papers (s9_paper bm m_paper_45) m_papers_45) m_came_38) m_known_38) m_fresh_38) m_rounds_38) m_needed_38) m_listed_38) m_lists_38)] → va_S A s.heap H locs → lv_has ls 4 [(0, .ref (am 0)), (1, .int x1), (3, .int (nI i3_45))] → W p l e rmX9_prints s m args below meth c H locs 0 0 Q (F0 m 45 ls []) := by
        intro n45
        induction n45 with
        | zero =>
          intro i3_45 m_paper_45 m_papers_45 H locs ls hi3_45 hP45 hn hE hP hD hS hl
          exact absurd hn (by omega)
        | succ n45 ih45 =>
          intro i3_45 m_paper_45 m_papers_45 H locs ls hi3_45 hP45 hn hE hP hD hS hl
          have hE := hE.trans (FX9_prints_45.eq_2 _ _ _ _ _ _ _ _ _ _ _ _ _ _ _ _ _ _ _ _ _ _ _ _ _ _ _ _ _ _ _ _)
          refine lv_iload_n hx hb dX9_prints_45 rfl (lv_at hl 2 rfl) ?_
          refine lv_iload_n hx hb dX9_prints_46 rfl (lv_at hl 1 rfl) ?_
          have hB61 : ∀ (k1_61 : Int32) (H : Heap) (locs : List Loc) (ls : Array Slot), (∃ N : Nat, N ≤ 80 ∧ (x1 < 0 → N ≤ 16) ∧ k1_61 = nI N) → T = FX9_prints_61 (g9_facts bm) (g9_rules bm) (g9_kind bm) (g9_head bm) (g9_body bm) (g9_except bm) (g9_strength bm) (g9_off bm) (g9_over bm) (g9_paper bm) (g9_papers bm) (g9_came bm) (g9_known bm) (g9_fresh bm) (g9_rounds bm) (g9_needed bm) (g9_listed bm) (g9_lists bm) x1 x2 (fun x3_45' m_paper_45' m_papers_45' m_came_45' m_known_45' m_fresh_45' m_rounds_45' m_needed_45' m_listed_45' m_lists_45' => FX9_prints_45 (g9_facts bm) (g9_rules bm) (g9_kind bm) (g9_head bm) (g9_body bm) (g9_except bm) (g9_strength bm) (g9_off bm) (g9_over bm) (g9_paper bm) (g9_papers bm) (g9_came bm) (g9_known bm) (g9_fresh bm) (g9_rounds bm) (g9_needed bm) (g9_listed bm) (g9_lists bm) x1 x2 (FX9_prints_92 (g9_facts bm) (g9_rules bm) (g9_kind bm) (g9_head bm) (g9_body bm) (g9_except bm) (g9_strength bm) (g9_off bm) (g9_over bm) (g9_paper bm) (g9_papers bm) (g9_came bm) (g9_known bm) (g9_fresh bm) (g9_rounds bm) (g9_needed bm) (g9_listed bm) (g9_lists bm) x1 x2) n45 x3_45' m_paper_45' m_papers_45' m_came_45' m_known_45' m_fresh_45' m_rounds_45' m_needed_45' m_listed_45' m_lists_45') (FX9_prints_92 (g9_facts bm) (g9_rules bm) (g9_kind bm) (g9_head bm) (g9_body bm) (g9_except bm) (g9_strength bm) (g9_off bm) (g9_over bm) (g9_paper bm) (g9_papers bm) (g9_came bm) (g9_known bm) (g9_fresh bm) (g9_rounds bm) (g9_needed bm) (g9_listed bm) (g9_lists bm) x1 x2) (nI i3_45) (nI i3_45) k1_61 m_paper_45 m_papers_45 m_came_38 m_known_38 m_fresh_38 m_rounds_38 m_needed_38 m_listed_38 m_lists_38 → zP G [w9 G am (s9_lists (s9_listed (s9_needed (s9_rounds (s9_fresh (s9_known (s9_came (s9_papers (s9_paper bm m_paper_45) m_papers_45) m_came_38) m_known_38) m_fresh_38) m_rounds_38) m_needed_38) m_listed_38) m_lists_38)] H → zD A [w9 G am (s9_lists (s9_listed (s9_needed (s9_rounds (s9_fresh (s9_known (s9_came (s9_papers (s9_paper bm m_paper_45) m_papers_45) m_came_38) m_known_38) m_fresh_38) m_rounds_38) m_needed_38) m_listed_38) m_lists_38)] → va_S A s.heap H locs → lv_has ls 4 [(0, .ref (am 0)), (1, .int x1), (3, .int (nI i3_45))] → W p l e rmX9_prints s m args below meth c H locs 0 0 Q (F0 m 61 ls [.int k1_61, .int (nI i3_45)]) := by
            intro k1_61 H locs ls hK61 hE hP hD hS hl
            have hE := hE.trans (FX9_prints_61.eq_1 _ _ _ _ _ _ _ _ _ _ _ _ _ _ _ _ _ _ _ _ _ _ _ _ _ _ _ _ _ _ _ _ _ _)
            refine lv_icmp_ge (tgt := 92) hx hb dX9_prints_61 (by decide) (fun c61 => ?_) (fun c61 => ?_)
            · have hE := hE.trans (if_pos c61)
              exact hB92 m_paper_45 m_papers_45 _ _ _ hE hP hD hS (lv_sub hl [0] rfl)
            · have hE := hE.trans (if_neg c61)
              obtain ⟨NK, hNK, hNr, hNe⟩ := hK61
              have hl61 : i3_45 < NK := zlt hNe (by omega) (by omega) c61
              refine lv_iload_n hx hb dX9_prints_64 rfl (lv_at hl 1 rfl) ?_
              refine lv_if_ge (tgt := 76) hx hb dX9_prints_65 (by decide) (fun c65 => ?_) (fun c65 => ?_)
              · have hE := hE.trans (if_pos c65)
                refine lv_aload_n hx hb dX9_prints_76 rfl (lv_at hl 0 rfl) ?_
                refine lv_aload_n hx hb dX9_prints_77 rfl (lv_at hl 0 rfl) ?_
                refine zg9_listed S in_X9_prints_9 hK hP 0 rfl (List.mem_of_getElem? (i := 4) rfl) dX9_prints_78 ?_
                refine lv_iload_n hx hb dX9_prints_81 rfl (lv_at hl 2 rfl) ?_
                refine zl9_listed S hK hP 0 rfl (vp_in_nI (by omega) (by omega)) (f := m_listed_38) ((gs9_listed_lists _ m_lists_38).trans (gg9_listed _ m_listed_38)) dX9_prints_82 ?_
                obtain ⟨t83, ht83⟩ : ∃ z, FX9_printTag m_paper_45 m_papers_45 (m_listed_38 (nI i3_45).toNatClampNeg) = z := ⟨_, rfl⟩
                have hE := hE.trans (bnd_eq ht83)
                have hc := c_X9_printTag l G am (s9_lists (s9_listed (s9_needed (s9_rounds (s9_fresh (s9_known (s9_came (s9_papers (s9_paper bm m_paper_45) m_papers_45) m_came_38) m_known_38) m_fresh_38) m_rounds_38) m_needed_38) m_listed_38) m_lists_38) (m_listed_38 (nI i3_45).toNatClampNeg) (by obtain ⟨P, h1, h2, h3⟩ := hP45; exact ⟨P, by have := h2 (znl c65); omega, h3⟩) _ (by simp only [gs9_paper_lists, gs9_paper_listed, gs9_paper_needed, gs9_paper_rounds, gs9_paper_fresh, gs9_paper_known, gs9_paper_came, gs9_paper_papers, gg9_paper, gs9_papers_lists, gs9_papers_listed, gs9_papers_needed, gs9_papers_rounds, gs9_papers_fresh, gs9_papers_known, gs9_papers_came, gg9_papers]; exact ht83)
                refine zgoV (bs' := [w9 G am (s9_papers (s9_paper (s9_lists (s9_listed (s9_needed (s9_rounds (s9_fresh (s9_known (s9_came (s9_papers (s9_paper bm m_paper_45) m_papers_45) m_came_38) m_known_38) m_fresh_38) m_rounds_38) m_needed_38) m_listed_38) m_lists_38) t83.1) t83.2)]) hc [0] rfl rfl rfl hP hD hS hA (va_runV (As := [.int (m_listed_38 (nI i3_45).toNatClampNeg)]) (rest := []) S (hc.2 _) (cwV 1 S.2.2.2.2 gX9_prints_X9_printTag rfl rfl rfl (by decide +kernel) ⟨Nat.le_of_ble_eq_true rfl, Nat.le_of_ble_eq_true rfl⟩) (zpV hK hP hD (is := [0]) rfl rfl 0 rfl rfl (ci := 9) rfl) rfl rfl hl.1 rfl (lv_room (Nat.le_of_ble_eq_true rfl)) dX9_prints_83 ⟨Nat.zero_le _, Nat.zero_le _⟩) (fun H locs hP hD hS => ?_)
                refine lv_iinc (v := (nI (i3_45 + 1))) (lv' := [(3, .int (nI (i3_45 + 1))), (0, .ref (am 0)), (1, .int x1)]) hx hb dX9_prints_86 hl (k := 2) rfl (nI_1 i3_45) (by decide) rfl (fun ls hl => ?_)
                try rw [nI_1 i3_45] at hE
                refine lv_goto (tgt := 45) hx hb dX9_prints_89 (by decide) ?_
                rw [show (s9_papers (s9_paper (s9_lists (s9_listed (s9_needed (s9_rounds (s9_fresh (s9_known (s9_came (s9_papers (s9_paper bm m_paper_45) m_papers_45) m_came_38) m_known_38) m_fresh_38) m_rounds_38) m_needed_38) m_listed_38) m_lists_38) t83.1) t83.2) = (s9_lists (s9_listed (s9_needed (s9_rounds (s9_fresh (s9_known (s9_came (s9_papers (s9_paper bm t83.1) t83.2) m_came_38) m_known_38) m_fresh_38) m_rounds_38) m_needed_38) m_listed_38) m_lists_38) from ((congrArg (fun z => s9_papers z t83.2) ((cm9_paper_lists _ m_lists_38 t83.1).trans (congrArg (fun z => s9_lists z m_lists_38) ((cm9_paper_listed _ m_listed_38 t83.1).trans (congrArg (fun z => s9_listed z m_listed_38) ((cm9_paper_needed _ m_needed_38 t83.1).trans (congrArg (fun z => s9_needed z m_needed_38) ((cm9_paper_rounds _ m_rounds_38 t83.1).trans (congrArg (fun z => s9_rounds z m_rounds_38) ((cm9_paper_fresh _ m_fresh_38 t83.1).trans (congrArg (fun z => s9_fresh z m_fresh_38) ((cm9_paper_known _ m_known_38 t83.1).trans (congrArg (fun z => s9_known z m_known_38) ((cm9_paper_came _ m_came_38 t83.1).trans (congrArg (fun z => s9_came z m_came_38) ((cm9_paper_papers _ m_papers_45 t83.1).trans (congrArg (fun z => s9_papers z m_papers_45) (ss9_paper _ m_paper_45 t83.1)))))))))))))))))).trans ((cm9_papers_lists _ m_lists_38 t83.2).trans (congrArg (fun z => s9_lists z m_lists_38) ((cm9_papers_listed _ m_listed_38 t83.2).trans (congrArg (fun z => s9_listed z m_listed_38) ((cm9_papers_needed _ m_needed_38 t83.2).trans (congrArg (fun z => s9_needed z m_needed_38) ((cm9_papers_rounds _ m_rounds_38 t83.2).trans (congrArg (fun z => s9_rounds z m_rounds_38) ((cm9_papers_fresh _ m_fresh_38 t83.2).trans (congrArg (fun z => s9_fresh z m_fresh_38) ((cm9_papers_known _ m_known_38 t83.2).trans (congrArg (fun z => s9_known z m_known_38) ((cm9_papers_came _ m_came_38 t83.2).trans (congrArg (fun z => s9_came z m_came_38) (ss9_papers _ m_papers_45 t83.2))))))))))))))))] at hP hD
                exact ih45 (i3_45 + 1) t83.1 t83.2 _ _ _ (by first | assumption | omega) (by first | (rw [← ht70]; obtain ⟨P, h1, h2, h3⟩ := hP45; have h4 := znl2 c65; obtain ⟨P2, g1, g2⟩ := zpp_rule (c := 108 * i3_45) ⟨P, h1 h4, h3⟩ (Nat.le_refl _); exact ⟨P2, fun _ => by omega, fun h => absurd h4 h, g2⟩) | (rw [← ht83]; obtain ⟨P, h1, h2, h3⟩ := hP45; have h4 := znl c65; obtain ⟨P2, g1, g2⟩ := zpp_tag (c := 4 * i3_45) ⟨P, h2 h4, h3⟩ (Nat.le_refl _); exact ⟨P2, fun h => absurd h h4, fun _ => by omega, g2⟩)) (by omega) hE hP hD hS (lv_sub hl [1, 2, 0] rfl)
              · have hE := hE.trans (if_neg c65)
                refine lv_aload_n hx hb dX9_prints_68 rfl (lv_at hl 0 rfl) ?_
                refine lv_iload_n hx hb dX9_prints_69 rfl (lv_at hl 2 rfl) ?_
                obtain ⟨t70, ht70⟩ : ∃ z, FX9_printRule (g9_kind bm) (g9_head bm) (g9_body bm) (g9_except bm) (g9_strength bm) m_paper_45 m_papers_45 (nI i3_45) = z := ⟨_, rfl⟩
                have hE := hE.trans (bnd_eq ht70)
                have hc := c_X9_printRule l G am (s9_lists (s9_listed (s9_needed (s9_rounds (s9_fresh (s9_known (s9_came (s9_papers (s9_paper bm m_paper_45) m_papers_45) m_came_38) m_known_38) m_fresh_38) m_rounds_38) m_needed_38) m_listed_38) m_lists_38) (nI i3_45) (by obtain ⟨P, h1, h2, h3⟩ := hP45; exact ⟨P, by have := h1 (znl2 c65); have := hNr (znl2 c65); omega, h3⟩) (vp_in_nI (by have := hNr (znl2 c65); omega) (by decide)) _ (by simp only [gs9_kind_lists, gs9_kind_listed, gs9_kind_needed, gs9_kind_rounds, gs9_kind_fresh, gs9_kind_known, gs9_kind_came, gs9_kind_papers, gs9_kind_paper, gs9_head_lists, gs9_head_listed, gs9_head_needed, gs9_head_rounds, gs9_head_fresh, gs9_head_known, gs9_head_came, gs9_head_papers, gs9_head_paper, gs9_body_lists, gs9_body_listed, gs9_body_needed, gs9_body_rounds, gs9_body_fresh, gs9_body_known, gs9_body_came, gs9_body_papers, gs9_body_paper, gs9_except_lists, gs9_except_listed, gs9_except_needed, gs9_except_rounds, gs9_except_fresh, gs9_except_known, gs9_except_came, gs9_except_papers, gs9_except_paper, gs9_strength_lists, gs9_strength_listed, gs9_strength_needed, gs9_strength_rounds, gs9_strength_fresh, gs9_strength_known, gs9_strength_came, gs9_strength_papers, gs9_strength_paper, gs9_paper_lists, gs9_paper_listed, gs9_paper_needed, gs9_paper_rounds, gs9_paper_fresh, gs9_paper_known, gs9_paper_came, gs9_paper_papers, gg9_paper, gs9_papers_lists, gs9_papers_listed, gs9_papers_needed, gs9_papers_rounds, gs9_papers_fresh, gs9_papers_known, gs9_papers_came, gg9_papers]; exact ht70)
                refine zgoV (bs' := [w9 G am (s9_papers (s9_paper (s9_lists (s9_listed (s9_needed (s9_rounds (s9_fresh (s9_known (s9_came (s9_papers (s9_paper bm m_paper_45) m_papers_45) m_came_38) m_known_38) m_fresh_38) m_rounds_38) m_needed_38) m_listed_38) m_lists_38) t70.1) t70.2)]) hc [0] rfl rfl rfl hP hD hS hA (va_runV (As := [.int (nI i3_45)]) (rest := []) S (hc.2 _) (cwV 1 S.2.2.2.2 gX9_prints_X9_printRule rfl rfl rfl (by decide +kernel) ⟨Nat.le_of_ble_eq_true rfl, Nat.le_of_ble_eq_true rfl⟩) (zpV hK hP hD (is := [0]) rfl rfl 0 rfl rfl (ci := 9) rfl) rfl rfl hl.1 rfl (lv_room (Nat.le_of_ble_eq_true rfl)) dX9_prints_70 ⟨Nat.zero_le _, Nat.zero_le _⟩) (fun H locs hP hD hS => ?_)
                refine lv_goto (tgt := 86) hx hb dX9_prints_73 (by decide) ?_
                refine lv_iinc (v := (nI (i3_45 + 1))) (lv' := [(3, .int (nI (i3_45 + 1))), (0, .ref (am 0)), (1, .int x1)]) hx hb dX9_prints_86 hl (k := 2) rfl (nI_1 i3_45) (by decide) rfl (fun ls hl => ?_)
                try rw [nI_1 i3_45] at hE
                refine lv_goto (tgt := 45) hx hb dX9_prints_89 (by decide) ?_
                rw [show (s9_papers (s9_paper (s9_lists (s9_listed (s9_needed (s9_rounds (s9_fresh (s9_known (s9_came (s9_papers (s9_paper bm m_paper_45) m_papers_45) m_came_38) m_known_38) m_fresh_38) m_rounds_38) m_needed_38) m_listed_38) m_lists_38) t70.1) t70.2) = (s9_lists (s9_listed (s9_needed (s9_rounds (s9_fresh (s9_known (s9_came (s9_papers (s9_paper bm t70.1) t70.2) m_came_38) m_known_38) m_fresh_38) m_rounds_38) m_needed_38) m_listed_38) m_lists_38) from ((congrArg (fun z => s9_papers z t70.2) ((cm9_paper_lists _ m_lists_38 t70.1).trans (congrArg (fun z => s9_lists z m_lists_38) ((cm9_paper_listed _ m_listed_38 t70.1).trans (congrArg (fun z => s9_listed z m_listed_38) ((cm9_paper_needed _ m_needed_38 t70.1).trans (congrArg (fun z => s9_needed z m_needed_38) ((cm9_paper_rounds _ m_rounds_38 t70.1).trans (congrArg (fun z => s9_rounds z m_rounds_38) ((cm9_paper_fresh _ m_fresh_38 t70.1).trans (congrArg (fun z => s9_fresh z m_fresh_38) ((cm9_paper_known _ m_known_38 t70.1).trans (congrArg (fun z => s9_known z m_known_38) ((cm9_paper_came _ m_came_38 t70.1).trans (congrArg (fun z => s9_came z m_came_38) ((cm9_paper_papers _ m_papers_45 t70.1).trans (congrArg (fun z => s9_papers z m_papers_45) (ss9_paper _ m_paper_45 t70.1)))))))))))))))))).trans ((cm9_papers_lists _ m_lists_38 t70.2).trans (congrArg (fun z => s9_lists z m_lists_38) ((cm9_papers_listed _ m_listed_38 t70.2).trans (congrArg (fun z => s9_listed z m_listed_38) ((cm9_papers_needed _ m_needed_38 t70.2).trans (congrArg (fun z => s9_needed z m_needed_38) ((cm9_papers_rounds _ m_rounds_38 t70.2).trans (congrArg (fun z => s9_rounds z m_rounds_38) ((cm9_papers_fresh _ m_fresh_38 t70.2).trans (congrArg (fun z => s9_fresh z m_fresh_38) ((cm9_papers_known _ m_known_38 t70.2).trans (congrArg (fun z => s9_known z m_known_38) ((cm9_papers_came _ m_came_38 t70.2).trans (congrArg (fun z => s9_came z m_came_38) (ss9_papers _ m_papers_45 t70.2))))))))))))))))] at hP hD
                exact ih45 (i3_45 + 1) t70.1 t70.2 _ _ _ (by first | assumption | omega) (by first | (rw [← ht70]; obtain ⟨P, h1, h2, h3⟩ := hP45; have h4 := znl2 c65; obtain ⟨P2, g1, g2⟩ := zpp_rule (c := 108 * i3_45) ⟨P, h1 h4, h3⟩ (Nat.le_refl _); exact ⟨P2, fun _ => by omega, fun h => absurd h4 h, g2⟩) | (rw [← ht83]; obtain ⟨P, h1, h2, h3⟩ := hP45; have h4 := znl c65; obtain ⟨P2, g1, g2⟩ := zpp_tag (c := 4 * i3_45) ⟨P, h2 h4, h3⟩ (Nat.le_refl _); exact ⟨P2, fun h => absurd h h4, fun _ => by omega, g2⟩)) (by omega) hE hP hD hS (lv_sub hl [1, 2, 0] rfl)
          refine lv_if_ge (tgt := 57) hx hb dX9_prints_47 (by decide) (fun c47 => ?_) (fun c47 => ?_)
          · have hE := hE.trans (if_pos c47)
            refine lv_aload_n hx hb dX9_prints_57 rfl (lv_at hl 0 rfl) ?_
            refine zg9_lists S in_X9_prints_9 hK hP 0 rfl (List.mem_of_getElem? (i := 3) rfl) (v := m_lists_38) (gg9_lists _ m_lists_38) dX9_prints_58 ?_
            exact hB61 m_lists_38 _ _ _ (by (rcases hQ38 with h | ⟨N, h1, h2⟩; exact absurd h (znl c47); exact ⟨N, h1, fun h => absurd h (znl c47), h2⟩)) hE hP hD hS (lv_sub hl [0, 1, 2] rfl)
          · have hE := hE.trans (if_neg c47)
            refine lv_aload_n hx hb dX9_prints_50 rfl (lv_at hl 0 rfl) ?_
            refine zg9_rules S in_X9_prints_9 hK hP 0 rfl (List.mem_of_getElem? (i := 2) rfl) (v := (g9_rules bm)) ((gs9_rules_lists _ m_lists_38).trans ((gs9_rules_listed _ m_listed_38).trans ((gs9_rules_needed _ m_needed_38).trans ((gs9_rules_rounds _ m_rounds_38).trans ((gs9_rules_fresh _ m_fresh_38).trans ((gs9_rules_known _ m_known_38).trans ((gs9_rules_came _ m_came_38).trans ((gs9_rules_papers _ m_papers_45).trans (gs9_rules_paper _ m_paper_45))))))))) dX9_prints_51 ?_
            refine lv_goto (tgt := 61) hx hb dX9_prints_54 (by decide) ?_
            exact hB61 (g9_rules bm) _ _ _ (by exact ⟨N_m_rules, by omega, fun _ => by omega, hs_m_rules⟩) hE hP hD hS (lv_sub hl [0, 1, 2] rfl)
      refine lv_istore_n (lv' := [(3, .int 0), (0, .ref (am 0)), (1, .int x1)]) hx hb dX9_prints_44 rfl hl (by decide) rfl (fun ls hl => ?_)
      rw [show (s9_papers (s9_lists (s9_listed (s9_needed (s9_rounds (s9_fresh (s9_known (s9_came bm m_came_38) m_known_38) m_fresh_38) m_rounds_38) m_needed_38) m_listed_38) m_lists_38) 0) = (s9_lists (s9_listed (s9_needed (s9_rounds (s9_fresh (s9_known (s9_came (s9_papers (s9_paper bm (g9_paper bm)) 0) m_came_38) m_known_38) m_fresh_38) m_rounds_38) m_needed_38) m_listed_38) m_lists_38) from (((cm9_papers_lists _ m_lists_38 0).trans (congrArg (fun z => s9_lists z m_lists_38) ((cm9_papers_listed _ m_listed_38 0).trans (congrArg (fun z => s9_listed z m_listed_38) ((cm9_papers_needed _ m_needed_38 0).trans (congrArg (fun z => s9_needed z m_needed_38) ((cm9_papers_rounds _ m_rounds_38 0).trans (congrArg (fun z => s9_rounds z m_rounds_38) ((cm9_papers_fresh _ m_fresh_38 0).trans (congrArg (fun z => s9_fresh z m_fresh_38) ((cm9_papers_known _ m_known_38 0).trans (congrArg (fun z => s9_known z m_known_38) (cm9_papers_came _ m_came_38 0))))))))))))).trans (congrArg (fun z => s9_lists z m_lists_38) (congrArg (fun z => s9_listed z m_listed_38) (congrArg (fun z => s9_needed z m_needed_38) (congrArg (fun z => s9_rounds z m_rounds_38) (congrArg (fun z => s9_fresh z m_fresh_38) (congrArg (fun z => s9_known z m_known_38) (congrArg (fun z => s9_came z m_came_38) (congrArg (fun z => s9_papers z 0) ((se9_paper _).symm))))))))))] at hP hD
      exact hB45 82 0 (g9_paper bm) 0 _ _ _ (by first | assumption | omega) (by exact ⟨0, by omega, by omega, rfl⟩) (by omega) hE hP hD hS (lv_sub hl [1, 2, 0] rfl)
    refine lv_icmp_eq (tgt := 38) hx hb dX9_prints_23 (by decide) (fun c23 => ?_) (fun c23 => ?_)
    · have hE := hE.trans (if_pos c23)
      rw [show bm = (s9_lists (s9_listed (s9_needed (s9_rounds (s9_fresh (s9_known (s9_came bm (g9_came bm)) (g9_known bm)) (g9_fresh bm)) (g9_rounds bm)) (g9_needed bm)) (g9_listed bm)) (g9_lists bm)) from ((((((((se9_came _).symm).trans (((se9_known _).symm).trans (congrArg (fun v => s9_known (s9_came bm (g9_came bm)) v) (gs9_known_came _ (g9_came bm))))).trans (((se9_fresh _).symm).trans (congrArg (fun v => s9_fresh (s9_known (s9_came bm (g9_came bm)) (g9_known bm)) v) ((gs9_fresh_known _ (g9_known bm)).trans (gs9_fresh_came _ (g9_came bm)))))).trans (((se9_rounds _).symm).trans (congrArg (fun v => s9_rounds (s9_fresh (s9_known (s9_came bm (g9_came bm)) (g9_known bm)) (g9_fresh bm)) v) ((gs9_rounds_fresh _ (g9_fresh bm)).trans ((gs9_rounds_known _ (g9_known bm)).trans (gs9_rounds_came _ (g9_came bm))))))).trans (((se9_needed _).symm).trans (congrArg (fun v => s9_needed (s9_rounds (s9_fresh (s9_known (s9_came bm (g9_came bm)) (g9_known bm)) (g9_fresh bm)) (g9_rounds bm)) v) ((gs9_needed_rounds _ (g9_rounds bm)).trans ((gs9_needed_fresh _ (g9_fresh bm)).trans ((gs9_needed_known _ (g9_known bm)).trans (gs9_needed_came _ (g9_came bm)))))))).trans (((se9_listed _).symm).trans (congrArg (fun v => s9_listed (s9_needed (s9_rounds (s9_fresh (s9_known (s9_came bm (g9_came bm)) (g9_known bm)) (g9_fresh bm)) (g9_rounds bm)) (g9_needed bm)) v) ((gs9_listed_needed _ (g9_needed bm)).trans ((gs9_listed_rounds _ (g9_rounds bm)).trans ((gs9_listed_fresh _ (g9_fresh bm)).trans ((gs9_listed_known _ (g9_known bm)).trans (gs9_listed_came _ (g9_came bm))))))))).trans (((se9_lists _).symm).trans (congrArg (fun v => s9_lists (s9_listed (s9_needed (s9_rounds (s9_fresh (s9_known (s9_came bm (g9_came bm)) (g9_known bm)) (g9_fresh bm)) (g9_rounds bm)) (g9_needed bm)) (g9_listed bm)) v) ((gs9_lists_listed _ (g9_listed bm)).trans ((gs9_lists_needed _ (g9_needed bm)).trans ((gs9_lists_rounds _ (g9_rounds bm)).trans ((gs9_lists_fresh _ (g9_fresh bm)).trans ((gs9_lists_known _ (g9_known bm)).trans (gs9_lists_came _ (g9_came bm))))))))))] at hP hD
      exact hB38 (g9_came bm) (g9_known bm) (g9_fresh bm) (g9_rounds bm) (g9_needed bm) (g9_listed bm) (g9_lists bm) _ _ _ (by exact Or.inl (by rw [c23]; decide)) hE hP hD hS (lv_sub hl [0, 1] rfl)
    · have hE := hE.trans (if_neg c23)
      refine lv_aload_n hx hb dX9_prints_26 rfl (lv_at hl 0 rfl) ?_
      refine lv_iload_n hx hb dX9_prints_27 rfl (lv_at hl 1 rfl) ?_
      refine lv_iload_n hx hb dX9_prints_28 rfl (lv_at hl 2 rfl) ?_
      obtain ⟨t29, ht29⟩ : ∃ z, FX9_proves (g9_facts bm) (g9_rules bm) (g9_kind bm) (g9_head bm) (g9_body bm) (g9_except bm) (g9_strength bm) (g9_off bm) (g9_over bm) (g9_came bm) (g9_known bm) (g9_fresh bm) (g9_rounds bm) (g9_needed bm) (g9_listed bm) (g9_lists bm) x1 x2 = z := ⟨_, rfl⟩
      have hE := hE.trans (bnd_eq ht29)
      have hc := c_X9_proves l G am bm x1 x2 ((hV21.resolve_left c23).1) ((hV21.resolve_left c23).2) (by first | assumption | exact vp_in_nI (by omega) (by omega) | omega) (hz_m_rules) _ ht29
      refine zgoI (bs' := [w9 G am (s9_lists (s9_listed (s9_needed (s9_rounds (s9_fresh (s9_known (s9_came bm t29.2.1) t29.2.2.1) t29.2.2.2.1) t29.2.2.2.2.1) t29.2.2.2.2.2.1) t29.2.2.2.2.2.2.1) t29.2.2.2.2.2.2.2)]) hc [0] rfl rfl rfl hP hD hS hA (va_runV (As := [.int x1, .int x2]) (rest := []) S (hc.2 _) (cwV 2 S.2.2.2.2 gX9_prints_X9_proves rfl rfl rfl (by decide +kernel) ⟨Nat.le_of_ble_eq_true rfl, Nat.le_of_ble_eq_true rfl⟩) (zpV hK hP hD (is := [0]) rfl rfl 0 rfl rfl (ci := 9) rfl) rfl rfl hl.1 rfl (lv_room (Nat.le_of_ble_eq_true rfl)) dX9_prints_29 ⟨Nat.zero_le _, Nat.zero_le _⟩) (fun H locs hn29 hP hD hS => ?_)
      refine lv_if_ne (tgt := 38) hx hb dX9_prints_32 (by decide) (fun c32 => ?_) (fun c32 => ?_)
      · have hE := hE.trans (if_neg c32)
        obtain ⟨NL, hNL, hNe⟩ := hpl _ (hV21.resolve_left c23).1 (hV21.resolve_left c23).2 ht29 c32
        exact hB38 t29.2.1 t29.2.2.1 t29.2.2.2.1 t29.2.2.2.2.1 t29.2.2.2.2.2.1 t29.2.2.2.2.2.2.1 t29.2.2.2.2.2.2.2 _ _ _ (by exact Or.inr ⟨NL, hNL, hNe⟩) hE hP hD hS (lv_sub hl [0, 1] rfl)
      · have hE := hE.trans (if_pos c32)
        refine lv_bipush (v := (-2)) hx hb dX9_prints_35 (by decide) ?_
        rw [show (s9_lists (s9_listed (s9_needed (s9_rounds (s9_fresh (s9_known (s9_came bm t29.2.1) t29.2.2.1) t29.2.2.2.1) t29.2.2.2.2.1) t29.2.2.2.2.2.1) t29.2.2.2.2.2.2.1) t29.2.2.2.2.2.2.2) = (s9_lists (s9_listed (s9_needed (s9_rounds (s9_fresh (s9_known (s9_came (s9_papers (s9_paper bm (g9_paper bm)) (g9_papers bm)) t29.2.1) t29.2.2.1) t29.2.2.2.1) t29.2.2.2.2.1) t29.2.2.2.2.2.1) t29.2.2.2.2.2.2.1) t29.2.2.2.2.2.2.2) from ((congrArg (fun z => s9_lists z t29.2.2.2.2.2.2.2) (congrArg (fun z => s9_listed z t29.2.2.2.2.2.2.1) (congrArg (fun z => s9_needed z t29.2.2.2.2.2.1) (congrArg (fun z => s9_rounds z t29.2.2.2.2.1) (congrArg (fun z => s9_fresh z t29.2.2.2.1) (congrArg (fun z => s9_known z t29.2.2.1) (congrArg (fun z => s9_came z t29.2.1) ((se9_paper _).symm)))))))).trans (congrArg (fun z => s9_lists z t29.2.2.2.2.2.2.2) (congrArg (fun z => s9_listed z t29.2.2.2.2.2.2.1) (congrArg (fun z => s9_needed z t29.2.2.2.2.2.1) (congrArg (fun z => s9_rounds z t29.2.2.2.2.1) (congrArg (fun z => s9_fresh z t29.2.2.2.1) (congrArg (fun z => s9_known z t29.2.2.1) (congrArg (fun z => s9_came z t29.2.1) (((se9_papers _).symm).trans (congrArg (fun v => s9_papers (s9_paper bm (g9_paper bm)) v) (gs9_papers_paper _ (g9_paper bm))))))))))))] at hP hD
        exact hret _ _ _ _ _ _ (by subst hE; rfl) rfl hP hS dX9_prints_37
  refine lv_icmp_eq (tgt := 21) hx hb dX9_prints_2 (by decide) (fun c2 => ?_) (fun c2 => ?_)
  · have hE := hE.trans (if_pos c2)
    exact hB21 _ _ _ (by exact Or.inl c2) hE hP hD hS (lv_sub hl [0, 1, 2] rfl)
  · have hE := hE.trans (if_neg c2)
    refine lv_iload_n hx hb dX9_prints_5 rfl (lv_at hl 1 rfl) ?_
    obtain ⟨t6, ht6⟩ : ∃ z, FX9_isLiteral x1 = z := ⟨_, rfl⟩
    have hE := hE.trans (bnd_eq ht6)
    have hc := c_X9_isLiteral l G x1 _ ht6
    refine zgoR (va_runS (As := [.int x1]) (rest := []) S (hc _) (va_cwS 1 S.2.2.2.2 gX9_prints_X9_isLiteral rfl rfl rfl (by decide +kernel) ⟨Nat.le_of_ble_eq_true rfl, Nat.le_of_ble_eq_true rfl⟩) (zpS hK hP hD (is := []) rfl rfl) rfl rfl hl.1 rfl (lv_room (Nat.le_of_ble_eq_true rfl)) dX9_prints_6 ⟨Nat.zero_le _, Nat.zero_le _⟩) (fun hn6 => ?_)
    refine lv_if_eq (tgt := 19) hx hb dX9_prints_9 (by decide) (fun c9 => ?_) (fun c9 => ?_)
    · have hE := hE.trans (if_pos c9)
      refine lv_iconst (v := (-1)) hx hb dX9_prints_19 (by decide) ?_
      rw [show bm = (s9_lists (s9_listed (s9_needed (s9_rounds (s9_fresh (s9_known (s9_came (s9_papers (s9_paper bm (g9_paper bm)) (g9_papers bm)) (g9_came bm)) (g9_known bm)) (g9_fresh bm)) (g9_rounds bm)) (g9_needed bm)) (g9_listed bm)) (g9_lists bm)) from ((((((((((se9_paper _).symm).trans (((se9_papers _).symm).trans (congrArg (fun v => s9_papers (s9_paper bm (g9_paper bm)) v) (gs9_papers_paper _ (g9_paper bm))))).trans (((se9_came _).symm).trans (congrArg (fun v => s9_came (s9_papers (s9_paper bm (g9_paper bm)) (g9_papers bm)) v) ((gs9_came_papers _ (g9_papers bm)).trans (gs9_came_paper _ (g9_paper bm)))))).trans (((se9_known _).symm).trans (congrArg (fun v => s9_known (s9_came (s9_papers (s9_paper bm (g9_paper bm)) (g9_papers bm)) (g9_came bm)) v) ((gs9_known_came _ (g9_came bm)).trans ((gs9_known_papers _ (g9_papers bm)).trans (gs9_known_paper _ (g9_paper bm))))))).trans (((se9_fresh _).symm).trans (congrArg (fun v => s9_fresh (s9_known (s9_came (s9_papers (s9_paper bm (g9_paper bm)) (g9_papers bm)) (g9_came bm)) (g9_known bm)) v) ((gs9_fresh_known _ (g9_known bm)).trans ((gs9_fresh_came _ (g9_came bm)).trans ((gs9_fresh_papers _ (g9_papers bm)).trans (gs9_fresh_paper _ (g9_paper bm)))))))).trans (((se9_rounds _).symm).trans (congrArg (fun v => s9_rounds (s9_fresh (s9_known (s9_came (s9_papers (s9_paper bm (g9_paper bm)) (g9_papers bm)) (g9_came bm)) (g9_known bm)) (g9_fresh bm)) v) ((gs9_rounds_fresh _ (g9_fresh bm)).trans ((gs9_rounds_known _ (g9_known bm)).trans ((gs9_rounds_came _ (g9_came bm)).trans ((gs9_rounds_papers _ (g9_papers bm)).trans (gs9_rounds_paper _ (g9_paper bm))))))))).trans (((se9_needed _).symm).trans (congrArg (fun v => s9_needed (s9_rounds (s9_fresh (s9_known (s9_came (s9_papers (s9_paper bm (g9_paper bm)) (g9_papers bm)) (g9_came bm)) (g9_known bm)) (g9_fresh bm)) (g9_rounds bm)) v) ((gs9_needed_rounds _ (g9_rounds bm)).trans ((gs9_needed_fresh _ (g9_fresh bm)).trans ((gs9_needed_known _ (g9_known bm)).trans ((gs9_needed_came _ (g9_came bm)).trans ((gs9_needed_papers _ (g9_papers bm)).trans (gs9_needed_paper _ (g9_paper bm)))))))))).trans (((se9_listed _).symm).trans (congrArg (fun v => s9_listed (s9_needed (s9_rounds (s9_fresh (s9_known (s9_came (s9_papers (s9_paper bm (g9_paper bm)) (g9_papers bm)) (g9_came bm)) (g9_known bm)) (g9_fresh bm)) (g9_rounds bm)) (g9_needed bm)) v) ((gs9_listed_needed _ (g9_needed bm)).trans ((gs9_listed_rounds _ (g9_rounds bm)).trans ((gs9_listed_fresh _ (g9_fresh bm)).trans ((gs9_listed_known _ (g9_known bm)).trans ((gs9_listed_came _ (g9_came bm)).trans ((gs9_listed_papers _ (g9_papers bm)).trans (gs9_listed_paper _ (g9_paper bm))))))))))).trans (((se9_lists _).symm).trans (congrArg (fun v => s9_lists (s9_listed (s9_needed (s9_rounds (s9_fresh (s9_known (s9_came (s9_papers (s9_paper bm (g9_paper bm)) (g9_papers bm)) (g9_came bm)) (g9_known bm)) (g9_fresh bm)) (g9_rounds bm)) (g9_needed bm)) (g9_listed bm)) v) ((gs9_lists_listed _ (g9_listed bm)).trans ((gs9_lists_needed _ (g9_needed bm)).trans ((gs9_lists_rounds _ (g9_rounds bm)).trans ((gs9_lists_fresh _ (g9_fresh bm)).trans ((gs9_lists_known _ (g9_known bm)).trans ((gs9_lists_came _ (g9_came bm)).trans ((gs9_lists_papers _ (g9_papers bm)).trans (gs9_lists_paper _ (g9_paper bm))))))))))))] at hP hD
      exact hret _ _ _ _ _ _ (by subst hE; rfl) rfl hP hS dX9_prints_20
    · have hE := hE.trans (if_neg c9)
      have hx1_20 : vp_in x1 20 := zisLit9 (by rw [ht6]; exact c9)
      refine lv_iload_n hx hb dX9_prints_12 rfl (lv_at hl 2 rfl) ?_
      obtain ⟨t13, ht13⟩ : ∃ z, FX9_isTag x2 = z := ⟨_, rfl⟩
      have hE := hE.trans (bnd_eq ht13)
      have hc := c_X9_isTag l G x2 _ ht13
      refine zgoR (va_runS (As := [.int x2]) (rest := []) S (hc _) (va_cwS 1 S.2.2.2.2 gX9_prints_X9_isTag rfl rfl rfl (by decide +kernel) ⟨Nat.le_of_ble_eq_true rfl, Nat.le_of_ble_eq_true rfl⟩) (zpS hK hP hD (is := []) rfl rfl) rfl rfl hl.1 rfl (lv_room (Nat.le_of_ble_eq_true rfl)) dX9_prints_13 ⟨Nat.zero_le _, Nat.zero_le _⟩) (fun hn13 => ?_)
      refine lv_if_ne (tgt := 21) hx hb dX9_prints_16 (by decide) (fun c16 => ?_) (fun c16 => ?_)
      · have hE := hE.trans (if_neg c16)
        have hx2_4 : vp_in x2 4 := zisTag9 (by rw [ht13]; exact c16)
        exact hB21 _ _ _ (by exact Or.inr ⟨zisLit9 (by rw [ht6]; assumption), zisTag9 (by rw [ht13]; assumption)⟩) hE hP hD hS (lv_sub hl [0, 1, 2] rfl)
      · have hE := hE.trans (if_pos c16)
        refine lv_iconst (v := (-1)) hx hb dX9_prints_19 (by decide) ?_
        rw [show bm = (s9_lists (s9_listed (s9_needed (s9_rounds (s9_fresh (s9_known (s9_came (s9_papers (s9_paper bm (g9_paper bm)) (g9_papers bm)) (g9_came bm)) (g9_known bm)) (g9_fresh bm)) (g9_rounds bm)) (g9_needed bm)) (g9_listed bm)) (g9_lists bm)) from ((((((((((se9_paper _).symm).trans (((se9_papers _).symm).trans (congrArg (fun v => s9_papers (s9_paper bm (g9_paper bm)) v) (gs9_papers_paper _ (g9_paper bm))))).trans (((se9_came _).symm).trans (congrArg (fun v => s9_came (s9_papers (s9_paper bm (g9_paper bm)) (g9_papers bm)) v) ((gs9_came_papers _ (g9_papers bm)).trans (gs9_came_paper _ (g9_paper bm)))))).trans (((se9_known _).symm).trans (congrArg (fun v => s9_known (s9_came (s9_papers (s9_paper bm (g9_paper bm)) (g9_papers bm)) (g9_came bm)) v) ((gs9_known_came _ (g9_came bm)).trans ((gs9_known_papers _ (g9_papers bm)).trans (gs9_known_paper _ (g9_paper bm))))))).trans (((se9_fresh _).symm).trans (congrArg (fun v => s9_fresh (s9_known (s9_came (s9_papers (s9_paper bm (g9_paper bm)) (g9_papers bm)) (g9_came bm)) (g9_known bm)) v) ((gs9_fresh_known _ (g9_known bm)).trans ((gs9_fresh_came _ (g9_came bm)).trans ((gs9_fresh_papers _ (g9_papers bm)).trans (gs9_fresh_paper _ (g9_paper bm)))))))).trans (((se9_rounds _).symm).trans (congrArg (fun v => s9_rounds (s9_fresh (s9_known (s9_came (s9_papers (s9_paper bm (g9_paper bm)) (g9_papers bm)) (g9_came bm)) (g9_known bm)) (g9_fresh bm)) v) ((gs9_rounds_fresh _ (g9_fresh bm)).trans ((gs9_rounds_known _ (g9_known bm)).trans ((gs9_rounds_came _ (g9_came bm)).trans ((gs9_rounds_papers _ (g9_papers bm)).trans (gs9_rounds_paper _ (g9_paper bm))))))))).trans (((se9_needed _).symm).trans (congrArg (fun v => s9_needed (s9_rounds (s9_fresh (s9_known (s9_came (s9_papers (s9_paper bm (g9_paper bm)) (g9_papers bm)) (g9_came bm)) (g9_known bm)) (g9_fresh bm)) (g9_rounds bm)) v) ((gs9_needed_rounds _ (g9_rounds bm)).trans ((gs9_needed_fresh _ (g9_fresh bm)).trans ((gs9_needed_known _ (g9_known bm)).trans ((gs9_needed_came _ (g9_came bm)).trans ((gs9_needed_papers _ (g9_papers bm)).trans (gs9_needed_paper _ (g9_paper bm)))))))))).trans (((se9_listed _).symm).trans (congrArg (fun v => s9_listed (s9_needed (s9_rounds (s9_fresh (s9_known (s9_came (s9_papers (s9_paper bm (g9_paper bm)) (g9_papers bm)) (g9_came bm)) (g9_known bm)) (g9_fresh bm)) (g9_rounds bm)) (g9_needed bm)) v) ((gs9_listed_needed _ (g9_needed bm)).trans ((gs9_listed_rounds _ (g9_rounds bm)).trans ((gs9_listed_fresh _ (g9_fresh bm)).trans ((gs9_listed_known _ (g9_known bm)).trans ((gs9_listed_came _ (g9_came bm)).trans ((gs9_listed_papers _ (g9_papers bm)).trans (gs9_listed_paper _ (g9_paper bm))))))))))).trans (((se9_lists _).symm).trans (congrArg (fun v => s9_lists (s9_listed (s9_needed (s9_rounds (s9_fresh (s9_known (s9_came (s9_papers (s9_paper bm (g9_paper bm)) (g9_papers bm)) (g9_came bm)) (g9_known bm)) (g9_fresh bm)) (g9_rounds bm)) (g9_needed bm)) (g9_listed bm)) v) ((gs9_lists_listed _ (g9_listed bm)).trans ((gs9_lists_needed _ (g9_needed bm)).trans ((gs9_lists_rounds _ (g9_rounds bm)).trans ((gs9_lists_fresh _ (g9_fresh bm)).trans ((gs9_lists_known _ (g9_known bm)).trans ((gs9_lists_came _ (g9_came bm)).trans ((gs9_lists_papers _ (g9_papers bm)).trans (gs9_lists_paper _ (g9_paper bm))))))))))))] at hP hD
        exact hret _ _ _ _ _ _ (by subst hE; rfl) rfl hP hS dX9_prints_20

