/-! the calls that ask of tags -/
theorem w_tag {bc : S0} {R : zC} {E : zRV} {G : zTG} {isS x1 x2 : Int32} (hR : zRel bc R) (hs : zSx isS E R) {T : (Int32 × (Int32) × (Nat → Int32) × (Int32) × (Nat → Int32) × (Nat → Int32) × (Nat → Int32) × (Nat → Int32) × (Nat → Int32) × (Nat → Int32) × (Int32) × (Int32) × (Int32) × (Int32) × (Int32))} {V : (Int32 × (Nat → Int32) × (Nat → Int32) × (Nat → Int32) × (Int32))} (hT : FX8_tag isS (g0_kind bc) (g0_head bc) (g0_body bc) (g0_excepts bc) (g0_power bc) (g0_beats bc) (g0_facts bc) (g0_size bc) (g0_shut bc) E.1 E.2.1 E.2.2.1 E.2.2.2.1 E.2.2.2.2.1 E.2.2.2.2.2.1 E.2.2.2.2.2.2.1 E.2.2.2.2.2.2.2.1 E.2.2.2.2.2.2.2.2.1 E.2.2.2.2.2.2.2.2.2.1 E.2.2.2.2.2.2.2.2.2.2.1 E.2.2.2.2.2.2.2.2.2.2.2.1 E.2.2.2.2.2.2.2.2.2.2.2.2 x1 x2 = T) (hV : FX9_tag (qfa R) (qru R) (qkd R) (qhd R) (qbd R) (qex R) (qsg R) (qof R) (qov R) G.1 G.2.1 G.2.2.1 G.2.2.2 x1 x2 = V) : T.1 = V.1 ∧ zSx T.2.1 T.2.2 R := by
  have hb : zbd T.2.2.1 := by
    rw [← hT]
    unfold FX8_tag
    simp only [bnd]
    repeat' split
    all_goals first | exact hs.2 | exact zbd_set2 hs.2
  subst hT hV
  obtain ⟨N, hN, h1, h2, h3, h4, h5, h6, -⟩ := hR
  rw [h2, h3] at hb ⊢
  have k := e_tag (x1 := x1) (x2 := x2) (rc_isSettled := isS) (rd_came := E.1) (rd_last := E.2.1) (v_known := E.2.2.1) (v_fresh := E.2.2.2.1) (v_strictFor := E.2.2.2.2.1) (v_forwardFor := E.2.2.2.2.2.1) (v_allFor := E.2.2.2.2.2.2.1) (v_above := E.2.2.2.2.2.2.2.1) (v_facts := E.2.2.2.2.2.2.2.2.1) (v_applies := E.2.2.2.2.2.2.2.2.2.1) (v_falls := E.2.2.2.2.2.2.2.2.2.2.1) (v_sureBodies := E.2.2.2.2.2.2.2.2.2.2.2.1) (v_neverBodies := E.2.2.2.2.2.2.2.2.2.2.2.2) (m_came := G.1) (m_known := G.2.1) (m_fresh := G.2.2.1) (m_rounds := G.2.2.2) hN h4 h5 h6 (fun h => hs.1 h N hN h1)
  refine ⟨by rw [h1]; exact k.1, fun h N' hN' h1' => ?_, hb⟩
  obtain rfl : N' = N := (nI_eq (by omega) (by omega)).mp (h1'.symm.trans h1)
  exact k.2 h
theorem w_tagged {bc : S0} {R : zC} {E : zRV} {G : zTG} {isS x1 x2 : Int32} (hR : zRel bc R) (hs : zSx isS E R) {T : (Int32 × (Int32) × (Nat → Int32) × (Int32) × (Nat → Int32) × (Nat → Int32) × (Nat → Int32) × (Nat → Int32) × (Nat → Int32) × (Nat → Int32) × (Int32) × (Int32) × (Int32) × (Int32) × (Int32))} {V : (Int32 × (Nat → Int32) × (Nat → Int32) × (Nat → Int32) × (Int32))} (hT : FX8_tagged isS (g0_kind bc) (g0_head bc) (g0_body bc) (g0_excepts bc) (g0_power bc) (g0_beats bc) (g0_facts bc) (g0_size bc) (g0_shut bc) E.1 E.2.1 E.2.2.1 E.2.2.2.1 E.2.2.2.2.1 E.2.2.2.2.2.1 E.2.2.2.2.2.2.1 E.2.2.2.2.2.2.2.1 E.2.2.2.2.2.2.2.2.1 E.2.2.2.2.2.2.2.2.2.1 E.2.2.2.2.2.2.2.2.2.2.1 E.2.2.2.2.2.2.2.2.2.2.2.1 E.2.2.2.2.2.2.2.2.2.2.2.2 x1 x2 = T) (hV : FX9_tagged (qfa R) (qru R) (qkd R) (qhd R) (qbd R) (qex R) (qsg R) (qof R) (qov R) G.1 G.2.1 G.2.2.1 G.2.2.2 x1 x2 = V) : T.1 = V.1 ∧ zSx T.2.1 T.2.2 R := by
  have hb : zbd T.2.2.1 := by
    rw [← hT]
    unfold FX8_tagged
    simp only [bnd]
    repeat' split
    all_goals first | exact hs.2 | exact zbd_set2 hs.2
  subst hT hV
  obtain ⟨N, hN, h1, h2, h3, h4, h5, h6, -⟩ := hR
  rw [h2, h3] at hb ⊢
  have k := e_tagged (x1 := x1) (x2 := x2) (rc_isSettled := isS) (rd_came := E.1) (rd_last := E.2.1) (v_known := E.2.2.1) (v_fresh := E.2.2.2.1) (v_strictFor := E.2.2.2.2.1) (v_forwardFor := E.2.2.2.2.2.1) (v_allFor := E.2.2.2.2.2.2.1) (v_above := E.2.2.2.2.2.2.2.1) (v_facts := E.2.2.2.2.2.2.2.2.1) (v_applies := E.2.2.2.2.2.2.2.2.2.1) (v_falls := E.2.2.2.2.2.2.2.2.2.2.1) (v_sureBodies := E.2.2.2.2.2.2.2.2.2.2.2.1) (v_neverBodies := E.2.2.2.2.2.2.2.2.2.2.2.2) (m_came := G.1) (m_known := G.2.1) (m_fresh := G.2.2.1) (m_rounds := G.2.2.2) hN h4 h5 h6 (fun h => hs.1 h N hN h1)
  refine ⟨by rw [h1]; exact k.1, fun h N' hN' h1' => ?_, hb⟩
  obtain rfl : N' = N := (nI_eq (by omega) (by omega)).mp (h1'.symm.trans h1)
  exact k.2 h
theorem w_state {bc : S0} {R : zC} {E : zRV} {G : zTG} {isS x1 : Int32} (hR : zRel bc R) (hs : zSx isS E R) {T : (Int32 × (Int32) × (Nat → Int32) × (Int32) × (Nat → Int32) × (Nat → Int32) × (Nat → Int32) × (Nat → Int32) × (Nat → Int32) × (Nat → Int32) × (Int32) × (Int32) × (Int32) × (Int32) × (Int32))} {V : (Int32 × (Nat → Int32) × (Nat → Int32) × (Nat → Int32) × (Int32))} (hT : FX8_state isS (g0_kind bc) (g0_head bc) (g0_body bc) (g0_excepts bc) (g0_power bc) (g0_beats bc) (g0_facts bc) (g0_size bc) (g0_shut bc) E.1 E.2.1 E.2.2.1 E.2.2.2.1 E.2.2.2.2.1 E.2.2.2.2.2.1 E.2.2.2.2.2.2.1 E.2.2.2.2.2.2.2.1 E.2.2.2.2.2.2.2.2.1 E.2.2.2.2.2.2.2.2.2.1 E.2.2.2.2.2.2.2.2.2.2.1 E.2.2.2.2.2.2.2.2.2.2.2.1 E.2.2.2.2.2.2.2.2.2.2.2.2 x1 = T) (hV : FX9_state (qfa R) (qru R) (qkd R) (qhd R) (qbd R) (qex R) (qsg R) (qof R) (qov R) G.1 G.2.1 G.2.2.1 G.2.2.2 x1 = V) : T.1 = V.1 ∧ zSx T.2.1 T.2.2 R := by
  have hb : zbd T.2.2.1 := by
    rw [← hT]
    unfold FX8_state
    simp only [bnd]
    repeat' split
    all_goals first | exact hs.2 | exact zbd_set2 hs.2
  subst hT hV
  obtain ⟨N, hN, h1, h2, h3, h4, h5, h6, -⟩ := hR
  rw [h2, h3] at hb ⊢
  have k := e_state (x1 := x1) (rc_isSettled := isS) (rd_came := E.1) (rd_last := E.2.1) (v_known := E.2.2.1) (v_fresh := E.2.2.2.1) (v_strictFor := E.2.2.2.2.1) (v_forwardFor := E.2.2.2.2.2.1) (v_allFor := E.2.2.2.2.2.2.1) (v_above := E.2.2.2.2.2.2.2.1) (v_facts := E.2.2.2.2.2.2.2.2.1) (v_applies := E.2.2.2.2.2.2.2.2.2.1) (v_falls := E.2.2.2.2.2.2.2.2.2.2.1) (v_sureBodies := E.2.2.2.2.2.2.2.2.2.2.2.1) (v_neverBodies := E.2.2.2.2.2.2.2.2.2.2.2.2) (m_came := G.1) (m_known := G.2.1) (m_fresh := G.2.2.1) (m_rounds := G.2.2.2) hN h4 h5 h6 (fun h => hs.1 h N hN h1)
  refine ⟨by rw [h1]; exact k.1, fun h N' hN' h1' => ?_, hb⟩
  obtain rfl : N' = N := (nI_eq (by omega) (by omega)).mp (h1'.symm.trans h1)
  exact k.2 h
theorem w_sides {bc : S0} {R : zC} {E : zRV} {G : zTG} {isS x1 x2 : Int32} (hR : zRel bc R) (hs : zSx isS E R) {T : (Int32 × (Int32) × (Nat → Int32) × (Int32) × (Nat → Int32) × (Nat → Int32) × (Nat → Int32) × (Nat → Int32) × (Nat → Int32) × (Nat → Int32) × (Int32) × (Int32) × (Int32) × (Int32) × (Int32))} {V : (Int32 × (Nat → Int32) × (Nat → Int32) × (Nat → Int32) × (Int32))} (hT : FX8_sides isS (g0_kind bc) (g0_head bc) (g0_body bc) (g0_excepts bc) (g0_power bc) (g0_beats bc) (g0_facts bc) (g0_size bc) (g0_shut bc) E.1 E.2.1 E.2.2.1 E.2.2.2.1 E.2.2.2.2.1 E.2.2.2.2.2.1 E.2.2.2.2.2.2.1 E.2.2.2.2.2.2.2.1 E.2.2.2.2.2.2.2.2.1 E.2.2.2.2.2.2.2.2.2.1 E.2.2.2.2.2.2.2.2.2.2.1 E.2.2.2.2.2.2.2.2.2.2.2.1 E.2.2.2.2.2.2.2.2.2.2.2.2 x1 x2 = T) (hV : FX9_sides (qfa R) (qru R) (qkd R) (qhd R) (qbd R) (qex R) (qsg R) (qof R) (qov R) G.1 G.2.1 G.2.2.1 G.2.2.2 x1 x2 = V) : T.1 = V.1 ∧ zSx T.2.1 T.2.2 R := by
  have hb : zbd T.2.2.1 := by
    rw [← hT]
    unfold FX8_sides
    simp only [bnd]
    repeat' split
    all_goals first | exact hs.2 | exact zbd_set2 hs.2
  subst hT hV
  obtain ⟨N, hN, h1, h2, h3, h4, h5, h6, -⟩ := hR
  rw [h2, h3] at hb ⊢
  have k := e_sides (x1 := x1) (x2 := x2) (rc_isSettled := isS) (rd_came := E.1) (rd_last := E.2.1) (v_known := E.2.2.1) (v_fresh := E.2.2.2.1) (v_strictFor := E.2.2.2.2.1) (v_forwardFor := E.2.2.2.2.2.1) (v_allFor := E.2.2.2.2.2.2.1) (v_above := E.2.2.2.2.2.2.2.1) (v_facts := E.2.2.2.2.2.2.2.2.1) (v_applies := E.2.2.2.2.2.2.2.2.2.1) (v_falls := E.2.2.2.2.2.2.2.2.2.2.1) (v_sureBodies := E.2.2.2.2.2.2.2.2.2.2.2.1) (v_neverBodies := E.2.2.2.2.2.2.2.2.2.2.2.2) (m_came := G.1) (m_known := G.2.1) (m_fresh := G.2.2.1) (m_rounds := G.2.2.2) hN h4 h5 h6 (fun h => hs.1 h N hN h1)
  refine ⟨by rw [h1]; exact k.1, fun h N' hN' h1' => ?_, hb⟩
  obtain rfl : N' = N := (nI_eq (by omega) (by omega)).mp (h1'.symm.trans h1)
  exact k.2 h
theorem w_rulesFor {bc : S0} {R : zC} {E : zRV} {isS x1 : Int32} (hR : zRel bc R) (hs : zSx isS E R) {T : (Int32 × (Int32) × (Nat → Int32) × (Int32) × (Nat → Int32) × (Nat → Int32) × (Nat → Int32) × (Nat → Int32) × (Nat → Int32) × (Nat → Int32) × (Int32) × (Int32) × (Int32) × (Int32) × (Int32))} (hT : FX8_rulesFor isS (g0_kind bc) (g0_head bc) (g0_body bc) (g0_excepts bc) (g0_power bc) (g0_beats bc) (g0_facts bc) (g0_size bc) (g0_shut bc) E.1 E.2.1 E.2.2.1 E.2.2.2.1 E.2.2.2.2.1 E.2.2.2.2.2.1 E.2.2.2.2.2.2.1 E.2.2.2.2.2.2.2.1 E.2.2.2.2.2.2.2.2.1 E.2.2.2.2.2.2.2.2.2.1 E.2.2.2.2.2.2.2.2.2.2.1 E.2.2.2.2.2.2.2.2.2.2.2.1 E.2.2.2.2.2.2.2.2.2.2.2.2 x1 = T) : T.1 = FX9_rulesFor (qru R) (qhd R) (qof R) x1 ∧ zSx T.2.1 T.2.2 R := by
  have hb : zbd T.2.2.1 := by
    rw [← hT]
    unfold FX8_rulesFor
    simp only [bnd]
    repeat' split
    all_goals first | exact hs.2 | exact zbd_set2 hs.2
  subst hT
  obtain ⟨N, hN, h1, h2, h3, h4, h5, h6, -⟩ := hR
  rw [h2, h3] at hb ⊢
  have k := e_rulesFor (x1 := x1) (rc_isSettled := isS) (rd_came := E.1) (rd_last := E.2.1) (v_known := E.2.2.1) (v_fresh := E.2.2.2.1) (v_strictFor := E.2.2.2.2.1) (v_forwardFor := E.2.2.2.2.2.1) (v_allFor := E.2.2.2.2.2.2.1) (v_above := E.2.2.2.2.2.2.2.1) (v_facts := E.2.2.2.2.2.2.2.2.1) (v_applies := E.2.2.2.2.2.2.2.2.2.1) (v_falls := E.2.2.2.2.2.2.2.2.2.2.1) (v_sureBodies := E.2.2.2.2.2.2.2.2.2.2.2.1) (v_neverBodies := E.2.2.2.2.2.2.2.2.2.2.2.2) (m_kind := qkd R) (m_body := qbd R) (m_except := qex R) (m_strength := qsg R) (m_over := qov R) hN h4 h5 h6 (fun h => hs.1 h N hN h1)
  refine ⟨by rw [h1]; exact k.1, fun h N' hN' h1' => ?_, hb⟩
  obtain rfl : N' = N := (nI_eq (by omega) (by omega)).mp (h1'.symm.trans h1)
  exact k.2 h
theorem k20 : ∀ i : Nat, i < 20 → zb 1048575 i = true := by decide +kernel
theorem z_both {x a b : Int32} (h : zLo x) : x &&& (a ||| b) = x &&& (b ||| (a &&& 1048575)) := zb_ext (fun i hi => by
  rw [zb_and, zb_or, zb_and, zb_or, zb_and]
  by_cases c : i < 20
  · rw [k20 i c, Bool.and_true, Bool.or_comm]
  · rw [h i (by omega)]; rfl)
def zsm (f : Nat → Int32) : Nat → Int32
  | 0 => 0
  | i + 1 => zsm f i + f i
theorem zsm_eq {f g : Nat → Int32} : ∀ N : Nat, (∀ i : Nat, i < N → f i = g i) → zsm f N = zsm g N
  | 0, _ => rfl
  | N + 1, h => by unfold zsm; rw [zsm_eq N (fun i hi => h i (by omega)), h N (by omega)]
theorem k_pairs {f : Nat → Int32} {N : Nat} (hN : N ≤ 16) : FX0_pairs f (nI N) = zsm (fun i => FJ6_bitCount_0f7a4 (f i)) N := by
  obtain ⟨s, hs, e⟩ := zloopI (L := fun n x s => FX0_pairs_4 f (nI N) (FX0_pairs_30 f (nI N)) n s x) (kt := fun s => s) N (I := fun i s => s = zsm (fun i => FJ6_bitCount_0f7a4 (f i)) i) (by
    intro n s _
    show FX0_pairs_4 f (nI N) _ (n + 1) s (nI N) = s
    rw [FX0_pairs_4, if_pos (nI_le (Nat.le_refl N) (by omega))]; rfl) (by
    intro n i s hi h
    subst h
    refine ⟨_, rfl, ?_⟩
    show FX0_pairs_4 f (nI N) _ (n + 1) _ (nI i) = FX0_pairs_4 f (nI N) _ n _ (nI (i + 1))
    rw [FX0_pairs_4, if_neg (nI_ge hi (by omega))]
    simp only [bnd, nI_1]
    rw [nI_clamp (show i < 2 ^ 31 by omega)]
    rfl) 17 0 0 (by omega) (by omega) rfl
  rw [← hs]
  exact e
theorem r_pairs {f : Nat → Int32} {N : Nat} (hN : N ≤ 16) : FX9_pairs (nI N) f = zsm (fun i => FJ6_bitCount_0f7a4 (f i)) N := by
  obtain ⟨s, hs, e⟩ := zloopI (L := fun n x s => FX9_pairs_4 (nI N) f (FX9_pairs_30 (nI N) f) n s x) (kt := fun s => s) N (I := fun i s => s = zsm (fun i => FJ6_bitCount_0f7a4 (f i)) i) (by
    intro n s _
    show FX9_pairs_4 (nI N) f _ (n + 1) s (nI N) = s
    rw [FX9_pairs_4, if_pos (nI_le (Nat.le_refl N) (by omega))]; rfl) (by
    intro n i s hi h
    subst h
    refine ⟨_, rfl, ?_⟩
    show FX9_pairs_4 (nI N) f _ (n + 1) _ (nI i) = FX9_pairs_4 (nI N) f _ n _ (nI (i + 1))
    rw [FX9_pairs_4, if_neg (nI_ge hi (by omega))]
    simp only [bnd, nI_1]
    rw [nI_clamp (show i < 2 ^ 31 by omega)]
    rfl) 17 0 0 (by omega) (by omega) rfl
  rw [← hs]
  exact e
theorem k_howMany {f : Nat → Int32} : FX4_howMany f = zsm (fun i => FJ6_bitCount_0f7a4 (f i)) 4 := by
  obtain ⟨s, hs, e⟩ := zloopI (L := fun n x s => FX4_howMany_4 f (FX4_howMany_30 f) n s x) (kt := fun s => s) 4 (I := fun i s => s = zsm (fun i => FJ6_bitCount_0f7a4 (f i)) i) (by
    intro n s _
    show FX4_howMany_4 f _ (n + 1) s (nI 4) = s
    rw [FX4_howMany_4, if_pos (show (4 : Int32) ≤ nI 4 from nI_le (Nat.le_refl 4) (by omega))]; rfl) (by
    intro n i s hi h
    subst h
    refine ⟨_, rfl, ?_⟩
    show FX4_howMany_4 f _ (n + 1) _ (nI i) = FX4_howMany_4 f _ n _ (nI (i + 1))
    rw [FX4_howMany_4, if_neg (show ¬ (4 : Int32) ≤ nI i from nI_ge (b := 4) hi (by omega))]
    simp only [bnd, nI_1]
    rw [nI_clamp (show i < 2 ^ 31 by omega)]
    rfl) 5 0 0 (by omega) (by omega) rfl
  rw [← hs]
  exact e
theorem r_cameMany {R : zC} {G g : zTG} : FX9_cameMany_8 (qfa R) (qru R) (qkd R) (qhd R) (qbd R) (qex R) (qsg R) (qof R) (qov R) G.1 G.2.1 G.2.2.1 G.2.2.2 (FX9_cameMany_31 (qfa R) (qru R) (qkd R) (qhd R) (qbd R) (qex R) (qsg R) (qof R) (qov R) G.1 G.2.1 G.2.2.1 G.2.2.2) 5 0 0 g.1 g.2.1 g.2.2.1 g.2.2.2 = (zsm (fun i => FJ6_bitCount_0f7a4 (g.2.1 i)) 4, g) := by
  obtain ⟨s, hs, e⟩ := zloopI (L := fun n x s => FX9_cameMany_8 (qfa R) (qru R) (qkd R) (qhd R) (qbd R) (qex R) (qsg R) (qof R) (qov R) G.1 G.2.1 G.2.2.1 G.2.2.2 (FX9_cameMany_31 (qfa R) (qru R) (qkd R) (qhd R) (qbd R) (qex R) (qsg R) (qof R) (qov R) G.1 G.2.1 G.2.2.1 G.2.2.2) n s x g.1 g.2.1 g.2.2.1 g.2.2.2) (kt := fun s => (s, g)) 4 (I := fun i s => s = zsm (fun i => FJ6_bitCount_0f7a4 (g.2.1 i)) i) (by
    intro n s _
    show FX9_cameMany_8 (qfa R) (qru R) (qkd R) (qhd R) (qbd R) (qex R) (qsg R) (qof R) (qov R) G.1 G.2.1 G.2.2.1 G.2.2.2 _ (n + 1) s (nI 4) g.1 g.2.1 g.2.2.1 g.2.2.2 = (s, g)
    rw [FX9_cameMany_8, if_pos (show (4 : Int32) ≤ nI 4 from nI_le (Nat.le_refl 4) (by omega))]; rfl) (by
    intro n i s hi h
    subst h
    refine ⟨_, rfl, ?_⟩
    show FX9_cameMany_8 (qfa R) (qru R) (qkd R) (qhd R) (qbd R) (qex R) (qsg R) (qof R) (qov R) G.1 G.2.1 G.2.2.1 G.2.2.2 _ (n + 1) _ (nI i) g.1 g.2.1 g.2.2.1 g.2.2.2 = FX9_cameMany_8 (qfa R) (qru R) (qkd R) (qhd R) (qbd R) (qex R) (qsg R) (qof R) (qov R) G.1 G.2.1 G.2.2.1 G.2.2.2 _ n _ (nI (i + 1)) g.1 g.2.1 g.2.2.1 g.2.2.2
    rw [FX9_cameMany_8, if_neg (show ¬ (4 : Int32) ≤ nI i from nI_ge (b := 4) hi (by omega))]
    simp only [bnd, nI_1]
    rw [nI_clamp (show i < 2 ^ 31 by omega)]
    rfl) 5 0 0 (by omega) (by omega) rfl
  rw [← hs]
  exact e
/-- a call that asks the settled rounds -/
theorem q_ask {C : S0} {R : zC} {isS : Int32} {E : zRV} {G : zTG} (h : zRel C R) (hs : zSx isS E R) : ∃ (S : Int32 × zRV) (U : zTG) (N : Nat), FX8_settled isS (g0_kind C) (g0_head C) (g0_body C) (g0_excepts C) (g0_power C) (g0_beats C) (g0_facts C) (g0_size C) (g0_shut C) E.1 E.2.1 E.2.2.1 E.2.2.2.1 E.2.2.2.2.1 E.2.2.2.2.2.1 E.2.2.2.2.2.2.1 E.2.2.2.2.2.2.2.1 E.2.2.2.2.2.2.2.2.1 E.2.2.2.2.2.2.2.2.2.1 E.2.2.2.2.2.2.2.2.2.2.1 E.2.2.2.2.2.2.2.2.2.2.2.1 E.2.2.2.2.2.2.2.2.2.2.2.2 = S ∧ FX9_tags (qfa R) (qru R) (qkd R) (qhd R) (qbd R) (qex R) (qsg R) (qof R) (qov R) G.1 G.2.1 G.2.2.1 G.2.2.2 = U ∧ zSx S.1 S.2 R ∧ N ≤ 16 ∧ qru R = nI N ∧ zEnd (qkd R) (qhd R) (qbd R) (qex R) (qsg R) (qof R) (qov R) (qfa R) N S.2 U := by
  obtain ⟨s1, s2, s3⟩ := q_settled h hs _ rfl
  obtain ⟨N, hN, h1, -⟩ := id h
  refine ⟨_, _, N, rfl, rfl, s2, hN, h1, ?_⟩
  have := s3 N hN h1 G.1 G.2.1 G.2.2.1 G.2.2.2
  rw [h1]
  exact this
theorem e_count {bc : S0} {R : zC} {E : zRV} {G : zTG} {isS reach0 : Int32} {reach reached : Nat → Int32} {wl pl un x1 dn ud tp pp : Int32} {D : Nat} (hR : zRel bc R) (hs : zSx isS E R) (h8 : dn = nI D) (h9 : ud = un) (h10 : tp = wl) (h11 : pp = pl) {T : (Int32 × (Int32) × (Nat → Int32) × (Int32) × (Nat → Int32) × (Nat → Int32) × (Nat → Int32) × (Nat → Int32) × (Nat → Int32) × (Nat → Int32) × (Nat → Int32) × (Int32) × (Int32) × (Int32) × (Int32) × (Int32))} {V : (Int32 × (Nat → Int32) × (Nat → Int32) × (Nat → Int32) × (Nat → Int32) × (Int32))}
    (hT : FX8_count isS (g0_kind bc) (g0_head bc) (g0_body bc) (g0_excepts bc) (g0_power bc) (g0_beats bc) (g0_facts bc) (g0_size bc) (g0_shut bc) E.1 E.2.1 E.2.2.1 E.2.2.2.1 E.2.2.2.2.1 E.2.2.2.2.2.1 E.2.2.2.2.2.2.1 E.2.2.2.2.2.2.2.1 reach E.2.2.2.2.2.2.2.2.1 E.2.2.2.2.2.2.2.2.2.1 E.2.2.2.2.2.2.2.2.2.2.1 E.2.2.2.2.2.2.2.2.2.2.2.1 E.2.2.2.2.2.2.2.2.2.2.2.2 wl pl D un x1 = T) (hV : FX9_count (qfa R) (qru R) (qkd R) (qhd R) (qbd R) (qex R) (qsg R) (qof R) (qov R) dn ud tp pp reached G.1 G.2.1 G.2.2.1 G.2.2.2 x1 = V) : T.1 = V.1 ∧ zSx T.2.1 (T.2.2.1, T.2.2.2.1, T.2.2.2.2.1, T.2.2.2.2.2.1, T.2.2.2.2.2.2.1, T.2.2.2.2.2.2.2.1, T.2.2.2.2.2.2.2.2.1, T.2.2.2.2.2.2.2.2.2.1, T.2.2.2.2.2.2.2.2.2.2.2.1, T.2.2.2.2.2.2.2.2.2.2.2.2.1, T.2.2.2.2.2.2.2.2.2.2.2.2.2.1, T.2.2.2.2.2.2.2.2.2.2.2.2.2.2.1, T.2.2.2.2.2.2.2.2.2.2.2.2.2.2.2) R := by
  obtain ⟨S, U, N, eS, eU, sS, hN, hru, k⟩ := q_ask (G := G) hR hs
  obtain ⟨k1, k2, k3, k4, k5, k6, -⟩ := k
  obtain ⟨N', hN', h1, h2, h3, h4, h5, h6, -⟩ := id hR
  obtain rfl : N' = N := (nI_eq (by omega) (by omega)).mp (h1.symm.trans hru)
  unfold FX8_count at hT
  unfold FX9_count FX9_missing FX9_bothSides FX9_cameMany FX9_roundMany at hV
  simp only [bnd, eS, eU, r_cameMany] at hT hV
  by_cases c0 : x1 = 0
  · rw [if_pos c0] at hT hV; subst hT hV; exact ⟨h3, hs⟩
  rw [if_neg c0] at hT hV
  by_cases c1 : x1 = 1
  · rw [if_pos c1] at hT hV; subst hT hV
    refine ⟨?_, sS⟩
    show (FX6_circles S.2.2.2.2.2.2.2.2.1 reach).1 = (FX9_circles (qru R) (qsg R) (qov R) reached).1
    rw [hru]
    exact e_circles hN (fun r hr o ho => ((h6 r hr).2.2.2.2.2 o ho).2) k4.2.2
  rw [if_neg c1] at hT hV
  by_cases c2 : x1 = 2
  · rw [if_pos c2] at hT hV; subst hT hV
    refine ⟨?_, sS⟩
    show 1048575 &&& ((S.2.2.2.1 (2 : Int32).toNatClampNeg ||| S.2.2.2.1 (3 : Int32).toNatClampNeg) ^^^ (-1)) = 1048575 &&& ((U.2.1 (2 : Int32).toNatClampNeg ||| U.2.1 (3 : Int32).toNatClampNeg) ^^^ (-1))
    rw [zc2, zc3, k2 2 (by omega), k2 3 (by omega)]
  rw [if_neg c2] at hT hV
  by_cases c3 : x1 = 3
  · rw [if_pos c3] at hT hV; subst hT hV
    refine ⟨?_, sS⟩
    show S.2.2.2.1 (2 : Int32).toNatClampNeg &&& ((S.2.2.2.1 (2 : Int32).toNatClampNeg <<< (10 &&& 31)) ||| (S.2.2.2.1 (2 : Int32).toNatClampNeg >>> (10 &&& 31))) = U.2.1 (2 : Int32).toNatClampNeg &&& ((U.2.1 (2 : Int32).toNatClampNeg >>> (10 &&& 31)) ||| ((U.2.1 (2 : Int32).toNatClampNeg <<< (10 &&& 31)) &&& 1048575))
    have hl := k6 2 (by omega)
    rw [zc2, k2 2 (by omega)]
    rw [k2 2 (by omega)] at hl
    exact z_both hl
  rw [if_neg c3] at hT hV
  by_cases c4 : x1 = 4
  · rw [if_pos c4] at hT hV; subst hT hV; exact ⟨h2.trans h1.symm, hs⟩
  rw [if_neg c4] at hT hV
  by_cases c5 : x1 = 5
  · rw [if_pos c5] at hT hV; subst hT hV
    refine ⟨?_, hs⟩
    show FX0_pairs (g0_beats bc) (g0_size bc) = FX9_pairs (qru R) (qov R)
    rw [h1, h2, k_pairs hN, r_pairs hN]
    exact zsm_eq N' (fun i hi => by rw [(h5 i hi).2.2.2.2.2.1])
  rw [if_neg c5] at hT hV
  by_cases c6 : x1 = 6
  · rw [if_pos c6] at hT hV; subst hT hV
    refine ⟨?_, sS⟩
    show FX4_howMany S.2.2.2.1 = zsm (fun i => FJ6_bitCount_0f7a4 (U.2.1 i)) 4
    rw [k_howMany]
    exact zsm_eq 4 (fun i hi => by rw [k2 i hi])
  rw [if_neg c6] at hT hV
  by_cases c7 : x1 = 7
  · rw [if_pos c7] at hT hV; subst hT hV; exact ⟨k3, sS⟩
  rw [if_neg c7] at hT hV
  by_cases c8 : x1 = 8
  · rw [if_pos c8] at hT hV; subst hT hV; exact ⟨h8.symm, hs⟩
  rw [if_neg c8] at hT hV
  by_cases c9 : x1 = 9
  · rw [if_pos c9] at hT hV; subst hT hV; exact ⟨h9.symm, hs⟩
  rw [if_neg c9] at hT hV
  by_cases c10 : x1 = 10
  · rw [if_pos c10] at hT hV; subst hT hV; exact ⟨h10.symm, hs⟩
  rw [if_neg c10] at hT hV
  by_cases c11 : x1 = 11
  · rw [if_pos c11] at hT hV; subst hT hV; exact ⟨h11.symm, hs⟩
  rw [if_neg c11] at hT hV
  subst hT hV; exact ⟨rfl, hs⟩
section ZJUDGE
/-- where the judge stops, what it says -/
def zjS (vals : Nat → Int32) (M j : Nat) (c : Nat → Int32) (q : Nat) : Bool := !(decide (j + q < M) && decide (vals (j + q) = c q))
def zjO (M j : Nat) (q : Nat) : Int32 := if j + q < M then nI q else 100 + nI q
theorem zj_lt {j M q : Nat} (hj : j < 2 ^ 31) (hM : M ≤ 24) (hq : q < 20) : (nI j < nI M - nI q) ↔ j + q < M := by
  rw [Int32.lt_iff_toInt_lt, nI_toInt hj, pk_sub_toInt (by omega) (by omega)]
  omega
theorem lNx {n : Nat} (h : n < 2 ^ 32) : (lN n).toInt = (n : Int) := lg_ofNat_toInt (by omega)
theorem zj_lt9 {j M q : Nat} (hj : j < 2 ^ 31) (hM : M ≤ 24) (hq : q < 20) : (lg_cmp ((nI j).toInt64 + (nI q).toInt64) (nI M).toInt64 < 0) ↔ j + q < M := by
  rw [lg_cmp_lt, nI_l hj, nI_l (by omega), nI_l (by omega), lN_add, Int64.lt_iff_toInt_lt, lNx (by omega), lNx (by omega)]
  omega
theorem e_judge {bc : S0} {R : zC} {E : zRV} {G : zTG} {isS x1 x2 x3 : Int32} {vals : Nat → Nat → Int32} {size msize told : Nat → Int32} (hR : zRel bc R) (hs : zSx isS E R) (h : zRows vals size msize told) {T : (Int32 × (Int32) × (Nat → Int32) × (Int32) × (Nat → Int32) × (Nat → Int32) × (Nat → Int32) × (Nat → Int32) × (Nat → Int32) × (Nat → Int32) × (Int32) × (Int32) × (Int32) × (Int32) × (Int32))} {V : (Int32 × (Nat → Int32) × (Nat → Int32) × (Nat → Int32) × (Int32))} (hT : FX8_judge isS (g0_kind bc) (g0_head bc) (g0_body bc) (g0_excepts bc) (g0_power bc) (g0_beats bc) (g0_facts bc) (g0_size bc) (g0_shut bc) E.1 E.2.1 E.2.2.1 E.2.2.2.1 E.2.2.2.2.1 E.2.2.2.2.2.1 E.2.2.2.2.2.2.1 E.2.2.2.2.2.2.2.1 E.2.2.2.2.2.2.2.2.1 E.2.2.2.2.2.2.2.2.2.1 E.2.2.2.2.2.2.2.2.2.2.1 E.2.2.2.2.2.2.2.2.2.2.2.1 E.2.2.2.2.2.2.2.2.2.2.2.2 vals size x1 x2 x3 = T) (hV : FX9_judge (qfa R) (qru R) (qkd R) (qhd R) (qbd R) (qex R) (qsg R) (qof R) (qov R) msize told G.1 G.2.1 G.2.2.1 G.2.2.2 x1 x2 x3 = V) : T.1 = V.1 ∧ zSx T.2.1 T.2.2 R := by
  obtain ⟨S, U, N, eS, eU, sS, hN, hru, k⟩ := q_ask (G := G) hR hs
  unfold FX8_judge FX5_holds at hT
  unfold FX9_judge at hV
  simp only [bnd, e_list9, e_tag9, eU] at hT hV
  by_cases c1 : FX8_isList x1 = 0
  · rw [if_pos c1] at hT hV; subst hT hV; exact ⟨rfl, hs⟩
  rw [if_neg c1] at hT hV
  obtain ⟨u, hu, rfl⟩ := is_list c1
  obtain ⟨a1, a2, a3⟩ := id (h u hu)
  by_cases c2 : x2 < 0
  · rw [if_pos c2] at hT
    rw [if_neg (show ¬ 0 ≤ x2 from fun z => znl z c2)] at hV
    split at hV <;> (subst hT hV; exact ⟨rfl, hs⟩)
  rw [if_neg c2] at hT
  rw [if_pos (show 0 ≤ x2 from Int32.not_lt.mp c2)] at hV
  by_cases c3 : FX8_isTag x3 = 0
  · rw [if_pos c3] at hT hV; subst hT hV; exact ⟨rfl, hs⟩
  rw [if_neg c3] at hT hV
  obtain ⟨t, ht, rfl⟩ := is_tag c3
  rw [nI_clamp (show u < 2 ^ 31 by omega)] at hT hV
  rw [← a1] at hV
  rcases a2 with q | ⟨M, hM, q⟩
  · rw [if_pos q, if_pos rfl] at hT
    rw [if_neg (zm1_le q)] at hV
    subst hT hV; exact ⟨rfl, hs⟩
  rw [if_neg (show ¬ size u = -1 from by rw [q]; exact zM_ne hM), if_neg (show ¬ (1 : Int32) = 0 by decide)] at hT
  rw [if_pos (by rw [q]; exact nI_pos' (by omega))] at hV
  obtain ⟨j, hj, rfl⟩ := nI_of c2
  have hsz1 : size (nI u).toNatClampNeg = nI M := by rw [nI_clamp (by omega)]; exact q
  have hsz2 : msize (nI u).toNatClampNeg = nI M := by rw [nI_clamp (by omega), ← a1]; exact q
  have eV : ∃ D : zTG, V = (zspO (zjS (vals u) M j (fun q => U.1 (20 * t + q))) 20 (zjO M j) (-2) 0, D) := by
    have key := zfindS (P := fun v w => ∃ D : zTG, w = (v, D)) (p := zjS (vals u) M j (fun q => U.1 (20 * t + q))) (out := zjO M j) (z := -2) (L := fun n x (_ : Unit) => FX9_judge_39 (qfa R) (qru R) (qkd R) (qhd R) (qbd R) (qex R) (qsg R) (qof R) (qov R) msize told G.1 G.2.1 G.2.2.1 G.2.2.2 (nI u) (nI j) (nI t) (FX9_judge_107 (qfa R) (qru R) (qkd R) (qhd R) (qbd R) (qex R) (qsg R) (qof R) (qov R) msize told G.1 G.2.1 G.2.2.1 G.2.2.2 (nI u) (nI j) (nI t)) n x U.1 U.2.1 U.2.2.1 U.2.2.2) (I := fun _ => True) 20 (by
      intro n s _
      refine ⟨U, ?_⟩
      show FX9_judge_39 (qfa R) (qru R) (qkd R) (qhd R) (qbd R) (qex R) (qsg R) (qof R) (qov R) msize told G.1 G.2.1 G.2.2.1 G.2.2.2 (nI u) (nI j) (nI t) _ (n + 1) (nI 20) U.1 U.2.1 U.2.2.1 U.2.2.2 = _
      rw [FX9_judge_39, if_pos (show (20 : Int32) ≤ nI 20 from nI_le (Nat.le_refl 20) (by omega))]
      rfl) (by
      intro n i s hi _
      have hun : FX9_judge_39 (qfa R) (qru R) (qkd R) (qhd R) (qbd R) (qex R) (qsg R) (qof R) (qov R) msize told G.1 G.2.1 G.2.2.1 G.2.2.2 (nI u) (nI j) (nI t) (FX9_judge_107 (qfa R) (qru R) (qkd R) (qhd R) (qbd R) (qex R) (qsg R) (qof R) (qov R) msize told G.1 G.2.1 G.2.2.1 G.2.2.2 (nI u) (nI j) (nI t)) (n + 1) (nI i) U.1 U.2.1 U.2.2.1 U.2.2.2 = _ := FX9_judge_39.eq_2 ..
      rw [if_neg (show ¬ (20 : Int32) ≤ nI i from nI_ge (b := 20) hi (by omega)), hsz2] at hun
      unfold zjS zjO
      by_cases d1 : j + i < M
      · rw [if_pos ((zj_lt9 hj hM hi).mpr d1), show (24 : Int32) * nI u + nI j + nI i = 24 * nI u + nI (j + i) from by rw [Int32.add_assoc, nI_add], z24 hu (by omega), z20 ht hi, a3 _ (by omega), nI_1] at hun
        rw [if_pos d1, decide_eq_true d1, Bool.true_and]
        by_cases d2 : vals u (j + i) = U.1 (20 * t + i)
        · rw [if_pos d2] at hun
          rw [decide_eq_true d2]
          exact ⟨fun h => (by cases h), fun _ => ⟨(), trivial, hun⟩⟩
        · rw [if_neg d2] at hun
          rw [decide_eq_false d2]
          exact ⟨fun _ => ⟨U, hun⟩, fun h => (by cases h)⟩
      · rw [if_neg (fun z => d1 ((zj_lt9 hj hM hi).mp z))] at hun
        rw [if_neg d1, decide_eq_false d1]
        exact ⟨fun _ => ⟨U, hun⟩, fun h => (by cases h)⟩) 21 0 () (by omega) (by omega) trivial
    obtain ⟨D, e⟩ := key
    exact ⟨D, hV.symm.trans e⟩
  have eT : ∃ D : Int32 × zRV, T = (zspO (zjS (vals u) M j (fun q => U.1 (20 * t + q))) 20 (zjO M j) (-2) 0, D) ∧ zSx D.1 D.2 R := by
    have key := zfindS (P := fun v w => ∃ D : Int32 × zRV, w = (v, D) ∧ zSx D.1 D.2 R) (p := zjS (vals u) M j (fun q => U.1 (20 * t + q))) (out := zjO M j) (z := -2) (L := fun n x (s : Int32 × zRV) => FX8_judge_37 isS (g0_kind bc) (g0_head bc) (g0_body bc) (g0_excepts bc) (g0_power bc) (g0_beats bc) (g0_facts bc) (g0_size bc) (g0_shut bc) E.1 E.2.1 E.2.2.1 E.2.2.2.1 E.2.2.2.2.1 E.2.2.2.2.2.1 E.2.2.2.2.2.2.1 E.2.2.2.2.2.2.2.1 E.2.2.2.2.2.2.2.2.1 E.2.2.2.2.2.2.2.2.2.1 E.2.2.2.2.2.2.2.2.2.2.1 E.2.2.2.2.2.2.2.2.2.2.2.1 E.2.2.2.2.2.2.2.2.2.2.2.2 vals size (nI u) (nI j) (nI t) (FX8_judge_100 isS (g0_kind bc) (g0_head bc) (g0_body bc) (g0_excepts bc) (g0_power bc) (g0_beats bc) (g0_facts bc) (g0_size bc) (g0_shut bc) E.1 E.2.1 E.2.2.1 E.2.2.2.1 E.2.2.2.2.1 E.2.2.2.2.2.1 E.2.2.2.2.2.2.1 E.2.2.2.2.2.2.2.1 E.2.2.2.2.2.2.2.2.1 E.2.2.2.2.2.2.2.2.2.1 E.2.2.2.2.2.2.2.2.2.2.1 E.2.2.2.2.2.2.2.2.2.2.2.1 E.2.2.2.2.2.2.2.2.2.2.2.2 vals size (nI u) (nI j) (nI t)) n x s.1 s.2.1 s.2.2.1 s.2.2.2.1 s.2.2.2.2.1 s.2.2.2.2.2.1 s.2.2.2.2.2.2.1 s.2.2.2.2.2.2.2.1 s.2.2.2.2.2.2.2.2.1 s.2.2.2.2.2.2.2.2.2.1 s.2.2.2.2.2.2.2.2.2.2.1 s.2.2.2.2.2.2.2.2.2.2.2.1 s.2.2.2.2.2.2.2.2.2.2.2.2.1 s.2.2.2.2.2.2.2.2.2.2.2.2.2) (I := fun s => zSx s.1 s.2 R) 20 (by
      intro n s hss
      refine ⟨s, ?_, hss⟩
      show FX8_judge_37 isS (g0_kind bc) (g0_head bc) (g0_body bc) (g0_excepts bc) (g0_power bc) (g0_beats bc) (g0_facts bc) (g0_size bc) (g0_shut bc) E.1 E.2.1 E.2.2.1 E.2.2.2.1 E.2.2.2.2.1 E.2.2.2.2.2.1 E.2.2.2.2.2.2.1 E.2.2.2.2.2.2.2.1 E.2.2.2.2.2.2.2.2.1 E.2.2.2.2.2.2.2.2.2.1 E.2.2.2.2.2.2.2.2.2.2.1 E.2.2.2.2.2.2.2.2.2.2.2.1 E.2.2.2.2.2.2.2.2.2.2.2.2 vals size (nI u) (nI j) (nI t) _ (n + 1) (nI 20) s.1 s.2.1 s.2.2.1 s.2.2.2.1 s.2.2.2.2.1 s.2.2.2.2.2.1 s.2.2.2.2.2.2.1 s.2.2.2.2.2.2.2.1 s.2.2.2.2.2.2.2.2.1 s.2.2.2.2.2.2.2.2.2.1 s.2.2.2.2.2.2.2.2.2.2.1 s.2.2.2.2.2.2.2.2.2.2.2.1 s.2.2.2.2.2.2.2.2.2.2.2.2.1 s.2.2.2.2.2.2.2.2.2.2.2.2.2 = _
      rw [FX8_judge_37, if_pos (show (20 : Int32) ≤ nI 20 from nI_le (Nat.le_refl 20) (by omega))]
      rfl) (by
      intro n i s hi hss
      have hun : FX8_judge_37 isS (g0_kind bc) (g0_head bc) (g0_body bc) (g0_excepts bc) (g0_power bc) (g0_beats bc) (g0_facts bc) (g0_size bc) (g0_shut bc) E.1 E.2.1 E.2.2.1 E.2.2.2.1 E.2.2.2.2.1 E.2.2.2.2.2.1 E.2.2.2.2.2.2.1 E.2.2.2.2.2.2.2.1 E.2.2.2.2.2.2.2.2.1 E.2.2.2.2.2.2.2.2.2.1 E.2.2.2.2.2.2.2.2.2.2.1 E.2.2.2.2.2.2.2.2.2.2.2.1 E.2.2.2.2.2.2.2.2.2.2.2.2 vals size (nI u) (nI j) (nI t) (FX8_judge_100 isS (g0_kind bc) (g0_head bc) (g0_body bc) (g0_excepts bc) (g0_power bc) (g0_beats bc) (g0_facts bc) (g0_size bc) (g0_shut bc) E.1 E.2.1 E.2.2.1 E.2.2.2.1 E.2.2.2.2.1 E.2.2.2.2.2.1 E.2.2.2.2.2.2.1 E.2.2.2.2.2.2.2.1 E.2.2.2.2.2.2.2.2.1 E.2.2.2.2.2.2.2.2.2.1 E.2.2.2.2.2.2.2.2.2.2.1 E.2.2.2.2.2.2.2.2.2.2.2.1 E.2.2.2.2.2.2.2.2.2.2.2.2 vals size (nI u) (nI j) (nI t)) (n + 1) (nI i) s.1 s.2.1 s.2.2.1 s.2.2.2.1 s.2.2.2.2.1 s.2.2.2.2.2.1 s.2.2.2.2.2.2.1 s.2.2.2.2.2.2.2.1 s.2.2.2.2.2.2.2.2.1 s.2.2.2.2.2.2.2.2.2.1 s.2.2.2.2.2.2.2.2.2.2.1 s.2.2.2.2.2.2.2.2.2.2.2.1 s.2.2.2.2.2.2.2.2.2.2.2.2.1 s.2.2.2.2.2.2.2.2.2.2.2.2.2 = _ := FX8_judge_37.eq_2 ..
      rw [if_neg (show ¬ (20 : Int32) ≤ nI i from nI_ge (b := 20) hi (by omega)), hsz1] at hun
      obtain ⟨S', U', N', eS', eU', sS', hN', hru', k'⟩ := q_ask (G := G) hR hss
      obtain rfl : U' = U := eU'.symm.trans eU
      have hc := k'.1 (20 * t + i) (by omega)
      unfold zjS zjO
      by_cases d1 : j + i < M
      · rw [if_pos ((zj_lt hj hM hi).mpr d1)] at hun
        unfold FX5_at FX4_roundOf at hun
        simp only [bnd, eS', nI_1, nI_add] at hun
        rw [nI_clamp (show u < 2 ^ 31 by omega), nI_clamp (show j + i < 2 ^ 31 by omega), z20' ht hi, hc] at hun
        rw [if_pos d1, decide_eq_true d1, Bool.true_and]
        by_cases d2 : vals u (j + i) = U'.1 (20 * t + i)
        · rw [if_pos d2] at hun
          rw [decide_eq_true d2]
          exact ⟨fun h => (by cases h), fun _ => ⟨S', sS', hun⟩⟩
        · rw [if_neg d2] at hun
          rw [decide_eq_false d2]
          exact ⟨fun _ => ⟨S', hun, sS'⟩, fun h => (by cases h)⟩
      · rw [if_neg (fun z => d1 ((zj_lt hj hM hi).mp z))] at hun
        rw [if_neg d1, decide_eq_false d1]
        exact ⟨fun _ => ⟨s, hun, hss⟩, fun h => (by cases h)⟩) 21 0 (isS, E) (by omega) (by omega) hs
    obtain ⟨D, e, hD⟩ := key
    exact ⟨D, hT.symm.trans e, hD⟩
  obtain ⟨D, eV⟩ := eV
  obtain ⟨D', eT, hD⟩ := eT
  rw [eT, eV]
  exact ⟨rfl, hD⟩
end ZJUDGE
