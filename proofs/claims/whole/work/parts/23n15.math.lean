/-! a proof: what is wanted, round by round -/
section ZKC
variable {kd hd bd ex sg of ov : Nat → Int32} {fa : Int32} {N : Nat} {K K' : Nat → Int32}
theorem aNeed_congr (h : ∀ t : Nat, t < 4 → K t = K' t) (t q : Nat) : aNeed kd hd bd ex sg of ov fa N K t q = aNeed kd hd bd ex sg of ov fa N K' t q := by
  have h0 := h 0 (by decide)
  have h1 := h 1 (by decide)
  have h2 := h 2 (by decide)
  have h3 := h 3 (by decide)
  have eA : aApp bd ex K = aApp bd ex K' := by funext r; unfold aApp; rw [h2, h3]
  have eF : aFal bd ex K = aFal bd ex K' := by funext r; unfold aFal; rw [h2, h3]
  have eS : aSb bd K = aSb bd K' := by funext r; unfold aSb; rw [h0]
  have eL : aFall bd ex K = aFall bd ex K' := by funext r; unfold aFall; rw [h2, h3]
  have eC : aFrc kd hd bd ex of K = aFrc kd hd bd ex of K' := by funext a b; unfold aFrc; rw [eA]
  have eU : aUnf kd hd bd ex of K = aUnf kd hd bd ex of K' := by funext a b; unfold aUnf; rw [eF]
  have eV : aVic kd hd bd ex sg of ov N K = aVic kd hd bd ex sg of ov N K' := by funext a b; unfold aVic; rw [eA, eU]
  unfold aNeed aNS aNN aNL aNU
  rw [h0, h1, eS, eL, eF, eC, eU, eV]
end ZKC
/-- came ahead of a round -/
def zah (c : Nat → Int32) (ρ t q : Nat) : Bool := decide (0 < c (20 * t + q)) && decide (c (20 * t + q) < nI ρ)
/-- what the settled rounds say of the rounds in which tags came -/
def zRd (R : zC) (N : Nat) (c : Nat → Int32) : Prop := (∀ j : Nat, j < 80 → ∃ h : Nat, h ≤ 80 ∧ c j = nI h) ∧ ∀ t q ρ : Nat, t < 4 → q < 20 → 1 ≤ ρ → ρ ≤ 80 → c (20 * t + q) = nI ρ → ∀ K : Nat → Int32, (∀ t' : Nat, t' < 4 → zM (K t') 20 (zah c ρ t')) → aHolds (qkd R) (qhd R) (qbd R) (qex R) (qsg R) (qof R) (qov R) (qfa R) N K t q = true
theorem zRd_of {R : zC} {N : Nat} {T : zRV} {U : zTG} (k : zEnd (qkd R) (qhd R) (qbd R) (qex R) (qsg R) (qof R) (qov R) (qfa R) N T U) : zRd R N U.1 := by
  obtain ⟨e1, e2, e3, e4, e5, e6, kk, hk, e7, hJ⟩ := k
  refine ⟨fun j hj => ?_, fun t q ρ ht hq h1 h2 hc K hK => ?_⟩
  · obtain ⟨c, hc, ec, -⟩ := hJ (j / 20) (j % 20) (by omega) (by omega)
    rw [Nat.div_add_mod] at ec
    exact ⟨c, by omega, ec⟩
  · obtain ⟨c, hcc, ec, eb, hJ⟩ := hJ t q ht hq
    obtain rfl : c = ρ := (nI_eq (by omega) (by omega)).mp (ec.symm.trans hc)
    have := hJ (by omega) K hK
    unfold aNew at this
    rw [Bool.and_eq_true] at this
    exact this.2
/-- what was known ahead of a round -/
def zKc (c : Nat → Int32) (ρ : Nat) : Nat → Int32 := fun t => FX9_cameIn c (nI t) (nI ρ) 1
theorem z_pos {a : Int32} : (!decide (a ≤ 0)) = decide (0 < a) := by
  by_cases h : a ≤ 0
  · rw [decide_eq_true h, decide_eq_false (Int32.not_lt.mpr h)]; rfl
  · rw [decide_eq_false h, decide_eq_true (Int32.not_le.mp h)]; rfl
theorem z_lt' {a b : Int32} : (!decide (b ≤ a)) = decide (a < b) := by
  by_cases h : b ≤ a
  · rw [decide_eq_true h, decide_eq_false (Int32.not_lt.mpr h)]; rfl
  · rw [decide_eq_false h, decide_eq_true (Int32.not_le.mp h)]; rfl
theorem zKc_M (c : Nat → Int32) (ρ : Nat) {t : Nat} (ht : t < 4) : zM (zKc c ρ t) 20 (zah c ρ t) := by
  have k := r_cameIn (m_came := c) (x2 := nI ρ) (x3 := 1) ht
  refine zM_ext k (fun q hq => ?_)
  show (!decide (c (20 * t + q) ≤ 0) && (if (1 : Int32) = 0 then _ else !decide (nI ρ ≤ c (20 * t + q)))) = _
  rw [if_neg (show ¬ (1 : Int32) = 0 by decide), z_pos, z_lt']
  rfl
theorem zKc_8 {c8 c : Nat → Int32} (hc : ∀ j : Nat, j < 80 → c8 j = c j) (ρ : Nat) {t : Nat} (ht : t < 4) : FX4_broughtAheadOf c8 (nI t) (nI ρ) = zKc c ρ t := by
  have k := k_ahead (rd_came := c8) (x2 := nI ρ) ht
  refine zM_eq k (zKc_M c ρ ht) (fun q hq => ?_)
  show (!decide (c8 (20 * t + q) ≤ 0) && !decide (nI ρ ≤ c8 (20 * t + q))) = _
  rw [z_pos, z_lt', hc _ (by omega)]
  rfl
theorem zKc_no {c : Nat → Int32} {ρ t q : Nat} (ht : t < 4) (hq : q < 20) (h : c (20 * t + q) = nI ρ) : zb (zKc c ρ t) q = false := by
  rw [zM_b (zKc_M c ρ ht) hq]
  unfold zah
  rw [h, decide_eq_false (show ¬ nI ρ < nI ρ from Int32.lt_irrefl), Bool.and_false]
/-- the needs of a tag of a round, where it is wanted -/
def zfs (R : zC) (N : Nat) (c : Nat → Int32) (ρ : Nat) (w : Nat → Int32) (k : Nat) : Nat → Int32 := if (decide (c k = nI ρ) && zb (w (k / 20)) (k % 20)) = true then aNeed (qkd R) (qhd R) (qbd R) (qex R) (qsg R) (qof R) (qov R) (qfa R) N (zKc c ρ) (k / 20) (k % 20) else zno
theorem zfs_sub {R : zC} {N : Nat} {c : Nat → Int32} {ρ : Nat} (h : zRd R N c) (h1 : 1 ≤ ρ) (h2 : ρ ≤ 80) (w : Nat → Int32) (i : Nat) (hi : i ≤ 80) : zsub (zKc c ρ) (zfa (zfs R N c ρ w) i) := by
  refine zsub_fa i (fun k hk => ?_)
  unfold zfs
  split
  · next hc =>
    rw [Bool.and_eq_true] at hc
    have hc1 := of_decide_eq_true hc.1
    refine aNeed_in (by omega) (by omega) (h.2 (k / 20) (k % 20) ρ (by omega) (by omega) h1 h2 (by rw [Nat.div_add_mod]; exact hc1) _ (fun t' ht' => zKc_M c ρ ht'))
  · exact zsub_no _
/-- what is of the round stays as it was wanted -/
theorem zfs_same {R : zC} {N : Nat} {c : Nat → Int32} {ρ : Nat} (h : zRd R N c) (h1 : 1 ≤ ρ) (h2 : ρ ≤ 80) (w : Nat → Int32) (i : Nat) (hi : i ≤ 80) {t q : Nat} (ht : t < 4) (hq : q < 20) (hc : c (20 * t + q) = nI ρ) : zb (zorf w (zfa (zfs R N c ρ w) i) t) q = zb (w t) q := by
  show zb (w t ||| zfa (zfs R N c ρ w) i t) q = _
  rw [zb_or]
  cases e : zb (zfa (zfs R N c ρ w) i t) q
  · rw [Bool.or_false]
  · have := (zfs_sub h h1 h2 w i hi t q e).2
    rw [zKc_no ht hq hc] at this
    cases this
theorem z_i20 {i : Nat} (hi : i < 80) : nI i / 20 = nI (i / 20) ∧ nI i - nI i / 20 * 20 = nI (i % 20) := ⟨pk_div (d := 20) (by omega) (by omega) (by omega), pk_rem (d := 20) (by omega) (by omega) (by omega)⟩
section ZR101
variable {m_facts : Int32} {m_rules : Int32} {m_kind : Nat → Int32} {m_head : Nat → Int32} {m_body : Nat → Int32} {m_except : Nat → Int32} {m_strength : Nat → Int32} {m_off : Nat → Int32} {m_over : Nat → Int32} {m_came : Nat → Int32} {m_known : Nat → Int32} {m_fresh : Nat → Int32} {m_rounds : Int32} {m_needed : Nat → Int32} {m_listed : Nat → Int32} {m_lists : Int32} {x1 : Int32} {x2 : Int32}
theorem r_p101 {rc62 : (Int32) → (Int32) → (Nat → Int32) → (Nat → Int32) → (Nat → Int32) → (Int32) → (Nat → Int32) → (Nat → Int32) → (Int32) → (Int32 × (Nat → Int32) × (Nat → Int32) × (Nat → Int32) × (Int32) × (Nat → Int32) × (Nat → Int32) × (Int32))} {kt62 : (Int32) → (Nat → Int32) → (Nat → Int32) → (Nat → Int32) → (Int32) → (Nat → Int32) → (Nat → Int32) → (Int32) → (Int32 × (Nat → Int32) × (Nat → Int32) × (Nat → Int32) × (Int32) × (Nat → Int32) × (Nat → Int32) × (Int32))} {kt101 : (Int32) → (Int32) → (Nat → Int32) → (Nat → Int32) → (Nat → Int32) → (Int32) → (Nat → Int32) → (Nat → Int32) → (Int32) → (Int32 × (Nat → Int32) × (Nat → Int32) × (Nat → Int32) × (Int32) × (Nat → Int32) × (Nat → Int32) × (Int32))} {R : zC} {N ρ : Nat} {c K fr w ls : Nat → Int32} {x3 rd ln : Int32} (hN : N ≤ 16) (hR : (m_facts, m_rules, m_kind, m_head, m_body, m_except, m_strength, m_off, m_over) = (qfa R, qru R, qkd R, qhd R, qbd R, qex R, qsg R, qof R, qov R)) (hru : qru R = nI N) (h : zRd R N c) (h1 : 1 ≤ ρ) (h2 : ρ ≤ 80) (hK : ∀ t : Nat, t < 4 → K t = zKc c ρ t) : (FX9_proves_101 m_facts m_rules m_kind m_head m_body m_except m_strength m_off m_over m_came m_known m_fresh m_rounds m_needed m_listed m_lists x1 x2) rc62 kt62 kt101 81 x3 (nI ρ) 0 c K fr rd w ls ln = kt101 x3 (nI ρ) c K fr rd (zorf w (zfa (zfs R N c ρ w) 80)) ls ln := by
  obtain ⟨rfl, hR1⟩ := Prod.mk.inj hR
  obtain ⟨rfl, hR2⟩ := Prod.mk.inj hR1
  obtain ⟨rfl, hR3⟩ := Prod.mk.inj hR2
  obtain ⟨rfl, hR4⟩ := Prod.mk.inj hR3
  obtain ⟨rfl, hR5⟩ := Prod.mk.inj hR4
  obtain ⟨rfl, hR6⟩ := Prod.mk.inj hR5
  obtain ⟨rfl, hR7⟩ := Prod.mk.inj hR6
  obtain ⟨rfl, rfl⟩ := Prod.mk.inj hR7
  obtain ⟨s, hs, e⟩ := zloopI (L := fun n x s => FX9_proves_101 (qfa R) (qru R) (qkd R) (qhd R) (qbd R) (qex R) (qsg R) (qof R) (qov R) m_came m_known m_fresh m_rounds m_needed m_listed m_lists x1 x2 rc62 kt62 kt101 n x3 (nI ρ) x c K fr rd s ls ln) (kt := fun s => kt101 x3 (nI ρ) c K fr rd s ls ln) 80 (I := fun i s => s = zorf w (zfa (zfs R N c ρ w) i)) (by
    intro n s _
    show FX9_proves_101 (qfa R) (qru R) (qkd R) (qhd R) (qbd R) (qex R) (qsg R) (qof R) (qov R) m_came m_known m_fresh m_rounds m_needed m_listed m_lists x1 x2 rc62 kt62 kt101 (n + 1) x3 (nI ρ) (nI 80) c K fr rd s ls ln = _
    rw [FX9_proves_101, if_pos (show (80 : Int32) ≤ nI 80 from nI_le (Nat.le_refl 80) (by omega))]) (by
    intro n i s hi hs
    subst hs
    refine ⟨_, rfl, ?_⟩
    show FX9_proves_101 (qfa R) (qru R) (qkd R) (qhd R) (qbd R) (qex R) (qsg R) (qof R) (qov R) m_came m_known m_fresh m_rounds m_needed m_listed m_lists x1 x2 rc62 kt62 kt101 (n + 1) x3 (nI ρ) (nI i) c K fr rd (zorf w (zfa (zfs R N c ρ w) i)) ls ln = FX9_proves_101 (qfa R) (qru R) (qkd R) (qhd R) (qbd R) (qex R) (qsg R) (qof R) (qov R) m_came m_known m_fresh m_rounds m_needed m_listed m_lists x1 x2 rc62 kt62 kt101 n x3 (nI ρ) (nI (i + 1)) c K fr rd (zorf w (zfa (zfs R N c ρ w) (i + 1))) ls ln
    rw [← zfa_s]
    have hun : FX9_proves_101 (qfa R) (qru R) (qkd R) (qhd R) (qbd R) (qex R) (qsg R) (qof R) (qov R) m_came m_known m_fresh m_rounds m_needed m_listed m_lists x1 x2 rc62 kt62 kt101 (n + 1) x3 (nI ρ) (nI i) c K fr rd (zorf w (zfa (zfs R N c ρ w) i)) ls ln = _ := FX9_proves_101.eq_2 ..
    rw [if_neg (show ¬ (80 : Int32) ≤ nI i from nI_ge (b := 80) hi (by omega))] at hun
    simp only [bndx, nI_1] at hun
    rw [(z_i20 hi).2, (z_i20 hi).1, nI_clamp (show i < 2 ^ 31 by omega), nI_clamp (show i / 20 < 2 ^ 31 by omega), zh9 (show i % 20 < 32 by omega)] at hun
    refine hun.trans ?_
    by_cases c1 : c i = nI ρ
    · have ec : c (20 * (i / 20) + i % 20) = nI ρ := by rw [Nat.div_add_mod]; exact c1
      rw [if_pos c1, zfs_same h h1 h2 w i (by omega) (show i / 20 < 4 by omega) (show i % 20 < 20 by omega) ec]
      show _ = FX9_proves_101 (qfa R) (qru R) (qkd R) (qhd R) (qbd R) (qex R) (qsg R) (qof R) (qov R) m_came m_known m_fresh m_rounds m_needed m_listed m_lists x1 x2 rc62 kt62 kt101 n x3 (nI ρ) (nI (i + 1)) c K fr rd (zorf _ (if (decide (c i = nI ρ) && zb (w (i / 20)) (i % 20)) = true then aNeed (qkd R) (qhd R) (qbd R) (qex R) (qsg R) (qof R) (qov R) (qfa R) N (zKc c ρ) (i / 20) (i % 20) else zno)) ls ln
      rw [decide_eq_true c1, Bool.true_and]
      cases c2 : zb (w (i / 20)) (i % 20)
      · rw [if_pos zi_f, if_neg Bool.false_ne_true, zorf_no]
      · rw [if_neg (show ¬ zi true = 0 by decide), if_pos rfl, hru, r_needs hN (show i / 20 < 4 by omega) (show i % 20 < 20 by omega) (by
          rw [aHolds_congr hK]
          exact h.2 (i / 20) (i % 20) ρ (by omega) (by omega) h1 h2 ec _ (fun t' ht' => zKc_M c ρ ht')), aNeed_congr hK]
    · rw [if_neg c1]
      show _ = FX9_proves_101 (qfa R) (qru R) (qkd R) (qhd R) (qbd R) (qex R) (qsg R) (qof R) (qov R) m_came m_known m_fresh m_rounds m_needed m_listed m_lists x1 x2 rc62 kt62 kt101 n x3 (nI ρ) (nI (i + 1)) c K fr rd (zorf _ (if (decide (c i = nI ρ) && zb (w (i / 20)) (i % 20)) = true then aNeed (qkd R) (qhd R) (qbd R) (qex R) (qsg R) (qof R) (qov R) (qfa R) N (zKc c ρ) (i / 20) (i % 20) else zno)) ls ln
      rw [decide_eq_false c1, Bool.false_and, if_neg Bool.false_ne_true, zorf_no]) 81 0 w (by omega) (by omega) (zorf_no w).symm
  subst hs
  exact e
end ZR101
section ZK29
variable {w K st fw al ab c_body c_excepts c8 c : Nat → Int32} {vf ap fl sb nb : Int32}
theorem k_w29 {rc3 : (Int32) → (Nat → Int32) → ((Nat → Int32))} {kt3 : (Nat → Int32) → ((Nat → Int32))} {R : zC} {N ρ t : Nat} {w0 : Nat → Int32} {x : Int32} (hN : N ≤ 16) (h : zRd R N c) (h1 : 1 ≤ ρ) (h2 : ρ ≤ 80) (ht : t < 4) (hK : ∀ t : Nat, t < 4 → K t = zKc c ρ t) (hw : zVw N (qkd R) (qhd R) (qsg R) (qof R) (qov R) (qfa R) st fw al ab vf) (hg : zWg N (qbd R) (qex R) K ap fl sb nb) (hb : ∀ r, r < N → c_body r = qbd R r ∧ c_excepts r = qex R r) (hx : ∀ q : Nat, q < 20 → zb x q = (decide (c (20 * t + q) = nI ρ) && zb (w (t)) q)) : FX3_wantNeeds_29 w0 K st fw al ab vf ap fl sb c_body c_excepts c8 (nI ρ) rc3 kt3 21 (nI t) x 0 (zorf w (zfa (zfs R N c ρ w) (20 * t))) = kt29 (nI t) (zorf w (zfa (zfs R N c ρ w) (20 * (t + 1)))) := by
  obtain ⟨s, hs, e⟩ := zloopI (L := fun n y s => FX3_wantNeeds_29 w0 K st fw al ab vf ap fl sb c_body c_excepts c8 (nI ρ) rc3 kt3 n (nI t) x y s) (kt := fun s => kt29 (nI t) s) 20 (I := fun i s => s = zorf w (zfa (zfs R N c ρ w) (20 * t + i))) (by
    intro n s _
    show FX3_wantNeeds_29 w0 K st fw al ab vf ap fl sb c_body c_excepts c8 (nI ρ) rc3 kt3 (n + 1) (nI t) x (nI 20) s = _
    rw [FX3_wantNeeds_29, if_pos (show (20 : Int32) ≤ nI 20 from nI_le (Nat.le_refl 20) (by omega))]) (by
    intro n i s hi hs
    subst hs
    refine ⟨_, rfl, ?_⟩
    show FX3_wantNeeds_29 w0 K st fw al ab vf ap fl sb c_body c_excepts c8 (nI ρ) rc3 kt3 (n + 1) (nI t) x (nI i) (zorf w (zfa (zfs R N c ρ w) (20 * t + i))) = FX3_wantNeeds_29 w0 K st fw al ab vf ap fl sb c_body c_excepts c8 (nI ρ) rc3 kt3 n (nI t) x (nI (i + 1)) (zorf w (zfa (zfs R N c ρ w) (20 * t + i + 1)))
    rw [← zfa_s]
    have hun : FX3_wantNeeds_29 w0 K st fw al ab vf ap fl sb c_body c_excepts c8 (nI ρ) rc3 kt3 (n + 1) (nI t) x (nI i) (zorf w (zfa (zfs R N c ρ w) (20 * t + i))) = _ := FX3_wantNeeds_29.eq_2 ..
    rw [if_neg (show ¬ (20 : Int32) ≤ nI i from nI_ge (b := 20) hi (by omega))] at hun
    simp only [bndx, nI_1] at hun
    rw [zh8 (show i < 32 by omega), hx i hi] at hun
    refine hun.trans ?_
    have e1 : (20 * t + i) / 20 = t := by omega
    have e2 : (20 * t + i) % 20 = i := by omega
    have ef : zfs R N c ρ w (20 * t + i) = if (decide (c (20 * t + i) = nI ρ) && zb (w t) i) = true then aNeed (qkd R) (qhd R) (qbd R) (qex R) (qsg R) (qof R) (qov R) (qfa R) N (zKc c ρ) t i else zno := by
      unfold zfs
      rw [e1, e2]
    rw [ef]
    cases c1 : (decide (c (20 * t + i) = nI ρ) && zb (w t) i)
    · rw [if_pos zi_f, if_neg Bool.false_ne_true, zorf_no]
    · rw [if_neg (show ¬ zi true = 0 by decide), if_pos rfl]
      rw [Bool.and_eq_true] at c1
      rw [k_needs hN ht hi hw hg hb (by
        rw [aHolds_congr hK]
        exact h.2 t i ρ ht hi h1 h2 (of_decide_eq_true c1.1) _ (fun t' ht' => zKc_M c ρ ht')), aNeed_congr hK]) 21 0 _ (by omega) (by omega) rfl
  subst hs
  rw [show 20 * (t + 1) = 20 * t + 20 by omega]
  exact e
theorem k_wantNeeds {R : zC} {N ρ : Nat} (hN : N ≤ 16) (h : zRd R N c) (h1 : 1 ≤ ρ) (h2 : ρ ≤ 80) (hc8 : ∀ j : Nat, j < 80 → c8 j = c j) (hK : ∀ t : Nat, t < 4 → K t = zKc c ρ t) (hw : zVw N (qkd R) (qhd R) (qsg R) (qof R) (qov R) (qfa R) st fw al ab vf) (hg : zWg N (qbd R) (qex R) K ap fl sb nb) (hb : ∀ r, r < N → c_body r = qbd R r ∧ c_excepts r = qex R r) : FX3_wantNeeds w K st fw al ab vf ap fl sb c_body c_excepts c8 (nI ρ) = zorf w (zfa (zfs R N c ρ w) 80) := by
  unfold FX3_wantNeeds
  obtain ⟨s, hs, e⟩ := zloopI (L := fun n y s => FX3_wantNeeds_3 w K st fw al ab vf ap fl sb c_body c_excepts c8 (nI ρ) (FX3_wantNeeds_67 w K st fw al ab vf ap fl sb c_body c_excepts c8 (nI ρ)) n y s) (kt := fun s => s) 4 (I := fun i s => s = zorf w (zfa (zfs R N c ρ w) (20 * i))) (by
    intro n s _
    show FX3_wantNeeds_3 w K st fw al ab vf ap fl sb c_body c_excepts c8 (nI ρ) _ (n + 1) (nI 4) s = s
    rw [FX3_wantNeeds_3, if_pos (show (4 : Int32) ≤ nI 4 from nI_le (Nat.le_refl 4) (by omega))]; rfl) (by
    intro n t s ht hs
    subst hs
    refine ⟨_, rfl, ?_⟩
    have hun : FX3_wantNeeds_3 w K st fw al ab vf ap fl sb c_body c_excepts c8 (nI ρ) (FX3_wantNeeds_67 w K st fw al ab vf ap fl sb c_body c_excepts c8 (nI ρ)) (n + 1) (nI t) (zorf w (zfa (zfs R N c ρ w) (20 * t))) = _ := FX3_wantNeeds_3.eq_2 ..
    rw [if_neg (show ¬ (4 : Int32) ≤ nI t from nI_ge (b := 4) ht (by omega))] at hun
    simp only [bndx] at hun
    rw [k_w29 hN h h1 h2 ht hK hw hg hb (fun q hq => by
      have hm := k_broughtBy (rd_came := c8) (x2 := nI ρ) ht
      rw [zb_and, zM_b hm hq, nI_clamp (show t < 2 ^ 31 by omega), hc8 _ (by omega)]
      by_cases ec : c (20 * t + q) = nI ρ
      · rw [zfs_same h h1 h2 w (20 * t) (by omega) ht hq ec, Bool.and_comm]
      · rw [decide_eq_false ec, Bool.and_false]; rfl)] at hun
    unfold FX3_wantNeeds_61 at hun
    rw [nI_1] at hun
    exact hun) 5 0 w (by omega) (by omega) (zorf_no w).symm
  subst hs
  exact e
end ZK29
