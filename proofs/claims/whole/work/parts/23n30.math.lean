/-! promise: reads -/
section ZRA26
variable {m_facts : Int32} {m_rules : Int32} {m_kind : Nat → Int32} {m_head : Nat → Int32} {m_body : Nat → Int32} {m_except : Nat → Int32} {m_strength : Nat → Int32} {m_off : Nat → Int32} {m_over : Nat → Int32} {m_change : Nat → Int32} {m_done : Int32} {m_undone : Int32} {m_tape : Nat → Int32} {m_taped : Int32} {m_before : Nat → Int32} {m_changeBefore : Nat → Int32} {m_at : Int32} {m_word : Int32} {m_readHead : Int32} {m_readBody : Int32} {m_readExcept : Int32} {m_readKind : Int32} {m_readStrength : Int32} {m_one : Int32} {m_other : Int32} {m_latest : Int32}
theorem r_26 {kt26 : (Int32) → (Int32) → (Nat → Int32) → (Nat → Int32) → (Nat → Int32) → (Nat → Int32) → (Nat → Int32) → (Nat → Int32) → (Nat → Int32) → (Nat → Int32) → (Int32) → (Int32) → (Nat → Int32) → (Nat → Int32) → (Int32) → (Int32) → (Int32) → (Int32) → (Int32) → (Int32) → (Int32) → (Int32) → (Int32) → (Int32) → (Int32 × (Int32) × (Int32) × (Nat → Int32) × (Nat → Int32) × (Nat → Int32) × (Nat → Int32) × (Nat → Int32) × (Nat → Int32) × (Nat → Int32) × (Nat → Int32) × (Int32) × (Int32) × (Nat → Int32) × (Nat → Int32) × (Int32) × (Int32) × (Int32) × (Int32) × (Int32) × (Int32) × (Int32) × (Int32) × (Int32) × (Int32))} {fa ru dn ud a w rh rb re rk rs o1 o2 l : Int32} {kd hd bd ex sg of ov ch be cb : Nat → Int32} : ∃ cb' : Nat → Int32, (∀ k : Nat, k < 60 → cb' k = ch k) ∧ (FX9_readsAll_26 m_facts m_rules m_kind m_head m_body m_except m_strength m_off m_over m_change m_done m_undone m_tape m_taped m_before m_changeBefore m_at m_word m_readHead m_readBody m_readExcept m_readKind m_readStrength m_one m_other m_latest) kt26 61 0 fa ru kd hd bd ex sg of ov ch dn ud be cb a w rh rb re rk rs o1 o2 l = kt26 fa ru kd hd bd ex sg of ov ch dn ud be cb' a w rh rb re rk rs o1 o2 l := by
  obtain ⟨s, hs, e⟩ := zloopI (L := fun n x s => (FX9_readsAll_26 m_facts m_rules m_kind m_head m_body m_except m_strength m_off m_over m_change m_done m_undone m_tape m_taped m_before m_changeBefore m_at m_word m_readHead m_readBody m_readExcept m_readKind m_readStrength m_one m_other m_latest) kt26 n x fa ru kd hd bd ex sg of ov ch dn ud be s a w rh rb re rk rs o1 o2 l) (kt := fun s => kt26 fa ru kd hd bd ex sg of ov ch dn ud be s a w rh rb re rk rs o1 o2 l) 60 (I := fun i s => ∀ k : Nat, k < i → s k = ch k) (by
    intro n s _
    have hun : (FX9_readsAll_26 m_facts m_rules m_kind m_head m_body m_except m_strength m_off m_over m_change m_done m_undone m_tape m_taped m_before m_changeBefore m_at m_word m_readHead m_readBody m_readExcept m_readKind m_readStrength m_one m_other m_latest) kt26 (n + 1) (nI 60) fa ru kd hd bd ex sg of ov ch dn ud be s a w rh rb re rk rs o1 o2 l = _ := FX9_readsAll_26.eq_2 ..
    rw [if_pos (show (60 : Int32) ≤ nI 60 from nI_le (Nat.le_refl 60) (by omega))] at hun
    exact hun) (by
    intro n i s hi hs
    refine ⟨upd s i (ch i), fun k hk => ?_, ?_⟩
    · by_cases e : k = i
      · rw [e, pk_us]
      · rw [pk_un e]; exact hs k (by omega)
    · have hun : (FX9_readsAll_26 m_facts m_rules m_kind m_head m_body m_except m_strength m_off m_over m_change m_done m_undone m_tape m_taped m_before m_changeBefore m_at m_word m_readHead m_readBody m_readExcept m_readKind m_readStrength m_one m_other m_latest) kt26 (n + 1) (nI i) fa ru kd hd bd ex sg of ov ch dn ud be s a w rh rb re rk rs o1 o2 l = _ := FX9_readsAll_26.eq_2 ..
      rw [if_neg (show ¬ (60 : Int32) ≤ nI i from nI_ge (b := 60) hi (by omega)), nI_1, nI_clamp (show i < 2 ^ 31 by omega)] at hun
      exact hun) 61 0 cb (by omega) (by omega) (fun k hk => absurd hk (Nat.not_lt_zero k))
  exact ⟨s, hs, e⟩
theorem r_104 {kt104 : (Int32) → (Int32) → (Int32) → (Int32) → (Int32) → (Nat → Int32) → (Nat → Int32) → (Nat → Int32) → (Nat → Int32) → (Nat → Int32) → (Nat → Int32) → (Nat → Int32) → (Nat → Int32) → (Int32) → (Int32) → (Nat → Int32) → (Nat → Int32) → (Int32) → (Int32) → (Int32) → (Int32) → (Int32) → (Int32) → (Int32) → (Int32) → (Int32) → (Int32) → (Int32 × (Int32) × (Int32) × (Nat → Int32) × (Nat → Int32) × (Nat → Int32) × (Nat → Int32) × (Nat → Int32) × (Nat → Int32) × (Nat → Int32) × (Nat → Int32) × (Int32) × (Int32) × (Nat → Int32) × (Nat → Int32) × (Int32) × (Int32) × (Int32) × (Int32) × (Int32) × (Int32) × (Int32) × (Int32) × (Int32) × (Int32))} {y1 y2 y5 fa ru dn ud a w rh rb re rk rs o1 o2 l : Int32} {kd hd bd ex sg of ov ch be cb : Nat → Int32} : ∃ ch' : Nat → Int32, (∀ k : Nat, k < 60 → ch' k = cb k) ∧ (FX9_readsAll_104 m_facts m_rules m_kind m_head m_body m_except m_strength m_off m_over m_change m_done m_undone m_tape m_taped m_before m_changeBefore m_at m_word m_readHead m_readBody m_readExcept m_readKind m_readStrength m_one m_other m_latest) kt104 61 y1 y2 y5 0 fa ru kd hd bd ex sg of ov ch dn ud be cb a w rh rb re rk rs o1 o2 l = kt104 y1 y2 y5 fa ru kd hd bd ex sg of ov ch' dn ud be cb a w rh rb re rk rs o1 o2 l := by
  obtain ⟨s, hs, e⟩ := zloopI (L := fun n x s => (FX9_readsAll_104 m_facts m_rules m_kind m_head m_body m_except m_strength m_off m_over m_change m_done m_undone m_tape m_taped m_before m_changeBefore m_at m_word m_readHead m_readBody m_readExcept m_readKind m_readStrength m_one m_other m_latest) kt104 n y1 y2 y5 x fa ru kd hd bd ex sg of ov s dn ud be cb a w rh rb re rk rs o1 o2 l) (kt := fun s => kt104 y1 y2 y5 fa ru kd hd bd ex sg of ov s dn ud be cb a w rh rb re rk rs o1 o2 l) 60 (I := fun i s => ∀ k : Nat, k < i → s k = cb k) (by
    intro n s _
    have hun : (FX9_readsAll_104 m_facts m_rules m_kind m_head m_body m_except m_strength m_off m_over m_change m_done m_undone m_tape m_taped m_before m_changeBefore m_at m_word m_readHead m_readBody m_readExcept m_readKind m_readStrength m_one m_other m_latest) kt104 (n + 1) y1 y2 y5 (nI 60) fa ru kd hd bd ex sg of ov s dn ud be cb a w rh rb re rk rs o1 o2 l = _ := FX9_readsAll_104.eq_2 ..
    rw [if_pos (show (60 : Int32) ≤ nI 60 from nI_le (Nat.le_refl 60) (by omega))] at hun
    exact hun) (by
    intro n i s hi hs
    refine ⟨upd s i (cb i), fun k hk => ?_, ?_⟩
    · by_cases e : k = i
      · rw [e, pk_us]
      · rw [pk_un e]; exact hs k (by omega)
    · have hun : (FX9_readsAll_104 m_facts m_rules m_kind m_head m_body m_except m_strength m_off m_over m_change m_done m_undone m_tape m_taped m_before m_changeBefore m_at m_word m_readHead m_readBody m_readExcept m_readKind m_readStrength m_one m_other m_latest) kt104 (n + 1) y1 y2 y5 (nI i) fa ru kd hd bd ex sg of ov s dn ud be cb a w rh rb re rk rs o1 o2 l = _ := FX9_readsAll_104.eq_2 ..
      rw [if_neg (show ¬ (60 : Int32) ≤ nI i from nI_ge (b := 60) hi (by omega)), nI_1, nI_clamp (show i < 2 ^ 31 by omega)] at hun
      exact hun) 61 0 ch (by omega) (by omega) (fun k hk => absurd hk (Nat.not_lt_zero k))
  exact ⟨s, hs, e⟩
end ZRA26
section ZERD
theorem e_reads {bc bd : S0} {R : zC} {isS len taped a7 td a9 w rh rb re rk rs o1 o2 l : Int32} {sg : Nat → Nat} {y : Nat → S0} {D U : Nat} {ch tp mt S H B E P G be cb : Nat → Int32} (hD : D ≤ 12) (hR : zRel bc R) (hH : zHis sg y D U ch R) (hg : zcgs ch) (htp : zTape tp mt len 0 taped) {T : (Int32 × (Int32) × (Nat → Int32) × (Nat → Int32) × (Nat → Int32) × (Nat → Int32) × (Nat → Int32) × (Nat → Int32) × (Int32) × (Int32) × (Int32) × (Nat → Int32) × (Nat → Int32) × (Nat → Int32) × (Nat → Int32) × (Nat → Int32) × (Nat → Int32) × (Int32) × (Int32) × (Nat → Int32) × (Nat → Int32) × (Nat → Int32) × (Nat → Int32) × (Nat → Int32) × (Nat → Int32) × (Int32) × (Int32) × (Int32) × (Nat → Nat) × (Nat → S0) × (Nat) × (Int32))} {V : (Int32 × (Int32) × (Int32) × (Nat → Int32) × (Nat → Int32) × (Nat → Int32) × (Nat → Int32) × (Nat → Int32) × (Nat → Int32) × (Nat → Int32) × (Nat → Int32) × (Int32) × (Int32) × (Int32) × (Nat → Int32) × (Nat → Int32) × (Int32) × (Int32) × (Int32) × (Int32) × (Int32) × (Int32) × (Int32) × (Int32) × (Int32) × (Int32))} (hT : FX8_reads isS tp S H B E P G len a7 td (g0_kind bc) (g0_head bc) (g0_body bc) (g0_excepts bc) (g0_power bc) (g0_beats bc) (g0_facts bc) (g0_size bc) (g0_shut bc) (g0_kind bd) (g0_head bd) (g0_body bd) (g0_excepts bd) (g0_power bd) (g0_beats bd) (g0_facts bd) (g0_size bd) (g0_shut bd) sg y D (nI U) = T) (hV : FX9_reads (qfa R) (qru R) (qkd R) (qhd R) (qbd R) (qex R) (qsg R) (qof R) (qov R) ch (nI D) (nI U) mt taped be cb a9 w rh rb re rk rs o1 o2 l = V) : T.1 = V.1 ∧ zCh isS (T.2.1) (s0_cp bc (T.2.2.2.2.2.2.2.2.2.2.2.1) (T.2.2.2.2.2.2.2.2.2.2.2.2.1) (T.2.2.2.2.2.2.2.2.2.2.2.2.2.1) (T.2.2.2.2.2.2.2.2.2.2.2.2.2.2.1) (T.2.2.2.2.2.2.2.2.2.2.2.2.2.2.2.1) (T.2.2.2.2.2.2.2.2.2.2.2.2.2.2.2.2.1) (T.2.2.2.2.2.2.2.2.2.2.2.2.2.2.2.2.2.1) (T.2.2.2.2.2.2.2.2.2.2.2.2.2.2.2.2.2.2.1) (g0_shut bc)) (T.2.2.2.2.2.2.2.2.2.2.2.2.2.2.2.2.2.2.2.2.2.2.2.2.2.2.2.2.1) (T.2.2.2.2.2.2.2.2.2.2.2.2.2.2.2.2.2.2.2.2.2.2.2.2.2.2.2.2.2.1) (T.2.2.2.2.2.2.2.2.2.2.2.2.2.2.2.2.2.2.2.2.2.2.2.2.2.2.2.2.2.2.1) (T.2.2.2.2.2.2.2.2.2.2.2.2.2.2.2.2.2.2.2.2.2.2.2.2.2.2.2.2.2.2.2) R (V.2.2.2.1, V.2.2.2.2.1, V.2.2.2.2.2.1, V.2.2.2.2.2.2.1, V.2.2.2.2.2.2.2.1, V.2.2.2.2.2.2.2.2.1, V.2.2.2.2.2.2.2.2.2.1, V.2.1, V.2.2.1) (V.2.2.2.2.2.2.2.2.2.2.1) (V.2.2.2.2.2.2.2.2.2.2.2.1) (V.2.2.2.2.2.2.2.2.2.2.2.2.1) ∧ zTape tp mt (T.2.2.2.2.2.2.2.2.1) 0 (V.2.2.2.2.2.2.2.2.2.2.2.2.2.1) := by
  obtain ⟨⟨L, _, hL, -, rfl, -⟩, rfl, hag⟩ := htp
  have hfg : ∀ i, i < L → tp i = mt i := fun i hi => hag i (by omega) (nI_lt hi (by omega))
  have htp0 : zTape tp mt 0 0 0 := ⟨⟨0, 0, by omega, by omega, nI_0.symm, nI_0.symm⟩, rfl, fun i _ h => absurd h (by rw [← nI_0]; exact nI_nlt (Nat.zero_le i) (by omega))⟩
  obtain ⟨ok, ds, b, hb, hW, hcl, hrf⟩ := x_words hL hfg 122 0 (Nat.zero_le L) (by omega)
  obtain ⟨S', H', B', E', P', G', tl, es, htl, -, hok⟩ := hcl 61 0 S H B E P G a7 td S H B E P G rfl (Nat.zero_le 0)
  obtain ⟨X, er⟩ := hrf 122 a9 w rh rb re rk rs o1 o2 l w rh rb re rk rs o1 o2 l (by omega)
  have es : FX7_split tp S H B E P G (nI L) a7 td = (zi ok, S', H', B', E', P', G', nI b, nI tl) := es
  have er : FX9_isRead mt (nI L) a9 w rh rb re rk rs o1 o2 l = (zi ok, nI b, X) := er
  have hcz : ∀ (ch' : Nat → Int32), (∀ k, k < 60 → ch' k = ch k) → zCh isS isS bc sg y D (nI U) R R ch' (nI D) (nI U) := fun ch' hc => ⟨hD, rfl, ⟨U, rfl, rfl, zHis_cong hH hc (qeq_r R)⟩, hR, fun j hj => by rw [hc _ (by omega), hc _ (by omega)]; exact hg j hj, qout_r R, Or.inr ⟨rfl, rfl⟩⟩
  have hce : ceq (s0_cp bc (g0_kind bc) (g0_head bc) (g0_body bc) (g0_excepts bc) (g0_power bc) (g0_beats bc) (g0_facts bc) (g0_size bc) (g0_shut bc)) bc := ⟨fun r hr => ⟨rfl, rfl, rfl, rfl, rfl, rfl⟩, rfl, rfl, rfl⟩
  unfold FX8_reads at hT
  unfold FX9_reads at hV
  rw [bndx, es] at hT
  rw [bndx] at hV
  generalize hrd : FX9_readsAll (qfa R) (qru R) (qkd R) (qhd R) (qbd R) (qex R) (qsg R) (qof R) (qov R) ch (nI D) (nI U) mt (nI L) be cb a9 w rh rb re rk rs o1 o2 l = W at hV
  unfold FX9_readsAll at hrd
  rw [bndx, er] at hrd
  cases ok with
  | false =>
    dsimp only at hT hrd
    rw [if_pos zi_f] at hT hrd
    subst hT hrd hV
    exact ⟨rfl, zCh_ceq hce (hcz ch (fun _ _ => rfl)), htp0⟩
  | true =>
    obtain ⟨h1, h2⟩ := hok rfl
    dsimp only at hT hrd
    rw [if_neg (show ¬ zi true = 0 by decide), bndx] at hT hrd
    obtain ⟨cb', hcb, e26⟩ := r_26 (m_facts := (qfa R)) (m_rules := (qru R)) (m_kind := (qkd R)) (m_head := (qhd R)) (m_body := (qbd R)) (m_except := (qex R)) (m_strength := (qsg R)) (m_off := (qof R)) (m_over := (qov R)) (m_change := ch) (m_done := (nI D)) (m_undone := (nI U)) (m_tape := mt) (m_taped := (nI L)) (m_before := be) (m_changeBefore := cb) (m_at := a9) (m_word := w) (m_readHead := rh) (m_readBody := rb) (m_readExcept := re) (m_readKind := rk) (m_readStrength := rs) (m_one := o1) (m_other := o2) (m_latest := l) (kt26 := (FX9_readsAll_50 (qfa R) (qru R) (qkd R) (qhd R) (qbd R) (qex R) (qsg R) (qof R) (qov R) ch (nI D) (nI U) mt (nI L) be cb a9 w rh rb re rk rs o1 o2 l)) (fa := qfa R) (ru := qru R) (dn := nI D) (ud := nI U) (a := nI b) (w := X.1) (rh := X.2.1) (rb := X.2.2.1) (re := X.2.2.2.1) (rk := X.2.2.2.2.1) (rs := X.2.2.2.2.2.1) (o1 := X.2.2.2.2.2.2.1) (o2 := X.2.2.2.2.2.2.2.1) (l := X.2.2.2.2.2.2.2.2) (kd := qkd R) (hd := qhd R) (bd := qbd R) (ex := qex R) (sg := qsg R) (of := qof R) (ov := qov R) (ch := ch) (be := FX9_keeps_before (qfa R) (qru R) (qkd R) (qhd R) (qbd R) (qex R) (qsg R) (qof R) (qov R) be) (cb := cb)
    have hrd := e26.symm.trans hrd
    unfold FX9_readsAll_50 at hrd
    have hkp : qeq (zimg (FX9_keeps_before (qfa R) (qru R) (qkd R) (qhd R) (qbd R) (qex R) (qsg R) (qof R) (qov R) be)) R := r_keeps_before (m_facts := qfa R) (m_rules := qru R) (m_kind := qkd R) (m_head := qhd R) (m_body := qbd R) (m_except := qex R) (m_strength := qsg R) (m_off := qof R) (m_over := qov R) (m_before := be)
    generalize FX9_keeps_before (qfa R) (qru R) (qkd R) (qhd R) (qbd R) (qex R) (qsg R) (qof R) (qov R) be = BE at hrd hkp
    have hd0 : zRel (zmk (FX0_copyFrom (g0_kind bd) (g0_head bd) (g0_body bd) (g0_excepts bd) (g0_power bd) (g0_beats bd) (g0_facts bd) (g0_size bd) (g0_shut bd) (g0_kind bc) (g0_head bc) (g0_body bc) (g0_excepts bc) (g0_power bc) (g0_beats bc) (g0_facts bc) (g0_size bc) (g0_shut bc))) R := zRel_ceq (ceq_mk bd bc) hR
    have hkey := x_loop (rc_isSettled := isS) (wd_tape := tp) (wd_sort := S) (wd_head := H) (wd_body := B) (wd_excepts := E) (wd_power := P) (wd_begins := G) (wd_length := (nI L)) (wd_at := a7) (wd_told := td) (c_kind := (g0_kind bc)) (c_head := (g0_head bc)) (c_body := (g0_body bc)) (c_excepts := (g0_excepts bc)) (c_power := (g0_power bc)) (c_beats := (g0_beats bc)) (c_facts := (g0_facts bc)) (c_size := (g0_size bc)) (c_shut := (g0_shut bc)) (d_kind := (g0_kind bd)) (d_head := (g0_head bd)) (d_body := (g0_body bd)) (d_excepts := (g0_excepts bd)) (d_power := (g0_power bd)) (d_beats := (g0_beats bd)) (d_facts := (g0_facts bd)) (d_size := (g0_size bd)) (d_shut := (g0_shut bd)) (hi_sg := sg) (hi_y := y) (hi_D := D) (hi_un := (nI U)) (m_facts := (qfa R)) (m_rules := (qru R)) (m_kind := (qkd R)) (m_head := (qhd R)) (m_body := (qbd R)) (m_except := (qex R)) (m_strength := (qsg R)) (m_off := (qof R)) (m_over := (qov R)) (m_change := ch) (m_done := (nI D)) (m_undone := (nI U)) (m_before := be) (m_changeBefore := cb) (m_at := a9) (m_word := w) (m_readHead := rh) (m_readBody := rb) (m_readExcept := re) (m_readKind := rk) (m_readStrength := rs) (m_one := o1) (m_other := o2) (m_latest := l) (f := tp) (g := mt) (L := L) (kt70 := (FX9_readsAll_93 (qfa R) (qru R) (qkd R) (qhd R) (qbd R) (qex R) (qsg R) (qof R) (qov R) ch (nI D) (nI U) mt (nI L) be cb a9 w rh rb re rk rs o1 o2 l)) (isS := isS) (x1 := nI D) (x2 := nI U) (a7 := g0_facts bc) (a8 := g0_size bc) (ln := 0) (at7 := nI b) (td := nI tl) (un0 := nI U) (S := S') (H := H') (B := B') (E := E') (P := P') (G := G') (a1 := g0_kind bc) (a2 := g0_head bc) (a3 := g0_body bc) (a4 := g0_excepts bc) (a5 := g0_power bc) (a6 := g0_beats bc) (be := BE) (cb := cb') (sg0 := sg) (y0 := y) (D0 := D) ds 0 0 0 (zmk (FX0_copyFrom (g0_kind bd) (g0_head bd) (g0_body bd) (g0_excepts bd) (g0_power bd) (g0_beats bd) (g0_facts bd) (g0_size bd) (g0_shut bd) (g0_kind bc) (g0_head bc) (g0_body bc) (g0_excepts bc) (g0_power bc) (g0_beats bc) (g0_facts bc) (g0_size bc) (g0_shut bc))) bc R sg y D U ch isS X.1 (X.2.1) (X.2.2.1) (X.2.2.2.1) (X.2.2.2.2.1) (X.2.2.2.2.2.1) (X.2.2.2.2.2.2.1) (X.2.2.2.2.2.2.2.1) (X.2.2.2.2.2.2.2.2) (hW rfl) (by omega) h2 hd0 hR rfl hH hg hD (by rw [h1]) (by omega) hL hfg
    rcases hkey with ⟨b2, q1, q2, q3, q4, q5, q6, q7, q8, f1, R', ch', dn', ud', at', v1', v2', v3', v4', v5', v6', v7', v8', v9', f2, f3⟩ | ⟨q1, q2, q3, q4, q5, q6, q7, q8, C', R', sg', y', D', ch', un', dn', ud', at', v1', v2', v3', v4', v5', v6', v7', v8', v9', f1, f2, f3, f4, f5⟩
    · have hT := (f1 61 rfl).symm.trans hT
      have g4 := (f3 122 (by omega)).symm.trans hrd
      unfold FX9_readsAll_93 at g4
      obtain ⟨T2, ea, eq2, eo⟩ := r_again_before (m_facts := qfa R') (m_rules := qru R') (m_kind := qkd R') (m_head := qhd R') (m_body := qbd R') (m_except := qex R') (m_strength := qsg R') (m_off := qof R') (m_over := qov R') (m_before := BE)
      have e2 : T2 = R := qout_eq (qout_t f2 eo) (qeq_t eq2 hkp)
      rw [bndx, ea, e2] at g4
      dsimp only at g4
      obtain ⟨ch2, hc2, e104⟩ := r_104 (m_facts := (qfa R)) (m_rules := (qru R)) (m_kind := (qkd R)) (m_head := (qhd R)) (m_body := (qbd R)) (m_except := (qex R)) (m_strength := (qsg R)) (m_off := (qof R)) (m_over := (qov R)) (m_change := ch) (m_done := (nI D)) (m_undone := (nI U)) (m_tape := mt) (m_taped := (nI L)) (m_before := be) (m_changeBefore := cb) (m_at := a9) (m_word := w) (m_readHead := rh) (m_readBody := rb) (m_readExcept := re) (m_readKind := rk) (m_readStrength := rs) (m_one := o1) (m_other := o2) (m_latest := l) (kt104 := (FX9_readsAll_131 (qfa R) (qru R) (qkd R) (qhd R) (qbd R) (qex R) (qsg R) (qof R) (qov R) ch (nI D) (nI U) mt (nI L) be cb a9 w rh rb re rk rs o1 o2 l)) (y1 := nI D) (y2 := nI U) (y5 := nI b2) (fa := qfa R) (ru := qru R) (dn := dn') (ud := ud') (a := at') (w := v1') (rh := v2') (rb := v3') (re := v4') (rk := v5') (rs := v6') (o1 := v7') (o2 := v8') (l := v9') (kd := qkd R) (hd := qhd R) (bd := qbd R) (ex := qex R) (sg := qsg R) (of := qof R) (ov := qov R) (ch := ch') (be := BE) (cb := cb')
      have g4 := e104.symm.trans g4
      unfold FX9_readsAll_131 at g4
      subst hT g4 hV
      exact ⟨rfl, zCh_ceq hce (hcz ch2 (fun k hk => (hc2 k hk).trans (hcb k hk))), htp0⟩
    · have hT := (f1 61 rfl).symm.trans hT
      unfold FX8_reads_91 at hT
      have hT := (f5 61 q1 q2 q3 q4 q5 q6 q7 q8 (g0_shut (zmk (FX0_copyFrom (g0_kind bd) (g0_head bd) (g0_body bd) (g0_excepts bd) (g0_power bd) (g0_beats bd) (g0_facts bd) (g0_size bd) (g0_shut bd) (g0_kind bc) (g0_head bc) (g0_body bc) (g0_excepts bc) (g0_power bc) (g0_beats bc) (g0_facts bc) (g0_size bc) (g0_shut bc)))) rfl).symm.trans hT
      unfold FX8_reads_127 at hT
      have g4 := (f2 122 (by omega)).symm.trans hrd
      subst hT g4 hV
      refine ⟨?_, zCh_ceq (C' := C') ⟨fun r hr => ⟨rfl, rfl, rfl, rfl, rfl, rfl⟩, rfl, rfl, f4.symm⟩ f3, htp0⟩
      show nI tl = nI (0 + ds.length)
      rw [h1]
end ZERD
