/-! a proof: down the rounds -/
/-- what is known ahead of a round, written tag by tag -/
def zKu (K c : Nat → Int32) (ρ : Nat) : Nat → Nat → Int32
  | 0 => K
  | i + 1 => upd (zKu K c ρ i) i (zKc c ρ i)
theorem zKu_lt (K c : Nat → Int32) (ρ : Nat) : ∀ i t : Nat, t < i → zKu K c ρ i t = zKc c ρ t
  | 0, t, h => absurd h (Nat.not_lt_zero t)
  | i + 1, t, h => by
    show (if t = i then zKc c ρ i else zKu K c ρ i t) = _
    by_cases e : t = i
    · rw [if_pos e, e]
    · rw [if_neg e]; exact zKu_lt K c ρ i t (by omega)
/-- what is wanted after the rounds from ρ down -/
def zdn (R : zC) (N : Nat) (c : Nat → Int32) : Nat → (Nat → Int32) → Nat → Int32
  | 0, w => w
  | ρ + 1, w => zdn R N c ρ (zorf w (zfa (zfs R N c (ρ + 1) w) 80))
def zKd (c : Nat → Int32) : Nat → (Nat → Int32) → Nat → Int32
  | 0, K => K
  | ρ + 1, K => zKd c ρ (zKu K c (ρ + 1) 4)
theorem z_m1 (ρ : Nat) : nI (ρ + 1) + (-1) = nI ρ := znpred (r := ρ + 1) (by omega)
theorem z_le0 {ρ : Nat} (h : ρ < 80) : ¬ nI (ρ + 1) ≤ (0 : Int32) := nI_ge (a := 0) (b := ρ + 1) (by omega) (by omega)
section ZR62
variable {m_facts : Int32} {m_rules : Int32} {m_kind : Nat → Int32} {m_head : Nat → Int32} {m_body : Nat → Int32} {m_except : Nat → Int32} {m_strength : Nat → Int32} {m_off : Nat → Int32} {m_over : Nat → Int32} {m_came : Nat → Int32} {m_known : Nat → Int32} {m_fresh : Nat → Int32} {m_rounds : Int32} {m_needed : Nat → Int32} {m_listed : Nat → Int32} {m_lists : Int32} {x1 : Int32} {x2 : Int32}
theorem r_p70 {rc62 : (Int32) → (Int32) → (Nat → Int32) → (Nat → Int32) → (Nat → Int32) → (Int32) → (Nat → Int32) → (Nat → Int32) → (Int32) → (Int32 × (Nat → Int32) × (Nat → Int32) × (Nat → Int32) × (Int32) × (Nat → Int32) × (Nat → Int32) × (Int32))} {kt62 : (Int32) → (Nat → Int32) → (Nat → Int32) → (Nat → Int32) → (Int32) → (Nat → Int32) → (Nat → Int32) → (Int32) → (Int32 × (Nat → Int32) × (Nat → Int32) × (Nat → Int32) × (Int32) × (Nat → Int32) × (Nat → Int32) × (Int32))} {kt70 : (Int32) → (Int32) → (Nat → Int32) → (Nat → Int32) → (Nat → Int32) → (Int32) → (Nat → Int32) → (Nat → Int32) → (Int32) → (Int32 × (Nat → Int32) × (Nat → Int32) × (Nat → Int32) × (Int32) × (Nat → Int32) × (Nat → Int32) × (Int32))} {ρ : Nat} {c K fr w ls : Nat → Int32} {x3 rd ln : Int32} : (FX9_proves_70 m_facts m_rules m_kind m_head m_body m_except m_strength m_off m_over m_came m_known m_fresh m_rounds m_needed m_listed m_lists x1 x2) rc62 kt62 kt70 5 x3 (nI ρ) 0 c K fr rd w ls ln = kt70 x3 (nI ρ) c (zKu K c ρ 4) fr rd w ls ln := by
  obtain ⟨s, hs, e⟩ := zloopI (L := fun n x s => (FX9_proves_70 m_facts m_rules m_kind m_head m_body m_except m_strength m_off m_over m_came m_known m_fresh m_rounds m_needed m_listed m_lists x1 x2) rc62 kt62 kt70 n x3 (nI ρ) x c s fr rd w ls ln) (kt := fun s => kt70 x3 (nI ρ) c s fr rd w ls ln) 4 (I := fun i s => s = zKu K c ρ i) (by
    intro n s _
    show (FX9_proves_70 m_facts m_rules m_kind m_head m_body m_except m_strength m_off m_over m_came m_known m_fresh m_rounds m_needed m_listed m_lists x1 x2) rc62 kt62 kt70 (n + 1) x3 (nI ρ) (nI 4) c s fr rd w ls ln = _
    rw [FX9_proves_70, if_pos (show (4 : Int32) ≤ nI 4 from nI_le (Nat.le_refl 4) (by omega))]) (by
    intro n i s hi hs
    subst hs
    refine ⟨_, rfl, ?_⟩
    have hun : (FX9_proves_70 m_facts m_rules m_kind m_head m_body m_except m_strength m_off m_over m_came m_known m_fresh m_rounds m_needed m_listed m_lists x1 x2) rc62 kt62 kt70 (n + 1) x3 (nI ρ) (nI i) c (zKu K c ρ i) fr rd w ls ln = _ := FX9_proves_70.eq_2 ..
    rw [if_neg (show ¬ (4 : Int32) ≤ nI i from nI_ge (b := 4) hi (by omega))] at hun
    simp only [bndx, nI_1] at hun
    rw [nI_clamp (show i < 2 ^ 31 by omega)] at hun
    exact hun) 5 0 K (by omega) (by omega) rfl
  subst hs
  exact e
theorem r_p62 {kt62 : (Int32) → (Nat → Int32) → (Nat → Int32) → (Nat → Int32) → (Int32) → (Nat → Int32) → (Nat → Int32) → (Int32) → (Int32 × (Nat → Int32) × (Nat → Int32) × (Nat → Int32) × (Int32) × (Nat → Int32) × (Nat → Int32) × (Int32))} {R : zC} {N : Nat} {c fr ls : Nat → Int32} {x3 rd ln : Int32} (hN : N ≤ 16) (hR : (m_facts, m_rules, m_kind, m_head, m_body, m_except, m_strength, m_off, m_over) = (qfa R, qru R, qkd R, qhd R, qbd R, qex R, qsg R, qof R, qov R)) (hru : qru R = nI N) (h : zRd R N c) : ∀ ρ : Nat, ρ ≤ 80 → ∀ (n : Nat) (K w : Nat → Int32), ρ < n → (FX9_proves_62 m_facts m_rules m_kind m_head m_body m_except m_strength m_off m_over m_came m_known m_fresh m_rounds m_needed m_listed m_lists x1 x2) kt62 n x3 (nI ρ) c K fr rd w ls ln = kt62 x3 c (zKd c ρ K) fr rd (zdn R N c ρ w) ls ln
  | 0, _, 0, K, w, hn => absurd hn (Nat.not_lt_zero 0)
  | 0, _, n + 1, K, w, _ => by
    rw [FX9_proves_62, if_pos (show nI 0 ≤ (0 : Int32) by decide)]; rfl
  | ρ + 1, _, 0, K, w, hn => absurd hn (Nat.not_lt_zero _)
  | ρ + 1, hρ, n + 1, K, w, hn => by
    have hun : (FX9_proves_62 m_facts m_rules m_kind m_head m_body m_except m_strength m_off m_over m_came m_known m_fresh m_rounds m_needed m_listed m_lists x1 x2) kt62 (n + 1) x3 (nI (ρ + 1)) c K fr rd w ls ln = _ := FX9_proves_62.eq_2 ..
    rw [if_neg (z_le0 (by omega)), r_p70] at hun
    unfold FX9_proves_98 at hun
    rw [r_p101 hN hR hru h (by omega) (by omega) (fun t ht => zKu_lt K c (ρ + 1) 4 t ht)] at hun
    unfold FX9_proves_161 at hun
    rw [z_m1] at hun
    exact hun.trans (r_p62 hN hR hru h ρ (by omega) n _ _ (by omega))
end ZR62
section ZLA
variable {v_known c_body c_excepts rd_came bd ex : Nat → Int32} {v_applies v_falls v_sureBodies v_neverBodies c_size : Int32}
theorem k_look {N ρ : Nat} {c : Nat → Int32} (hN : N ≤ 16) (hsz : c_size = nI N) (hb : ∀ r, r < N → c_body r = bd r ∧ c_excepts r = ex r) (hc8 : ∀ j : Nat, j < 80 → rd_came j = c j) : ∃ s : Int32 × Int32 × Int32 × Int32, zWg N bd ex (zKu v_known c ρ 4) s.1 s.2.1 s.2.2.1 s.2.2.2 ∧ FX3_lookAheadOf v_known v_applies v_falls v_sureBodies v_neverBodies c_body c_excepts c_size rd_came (nI ρ) = (zKu v_known c ρ 4, s.1, s.2.1, s.2.2.1, s.2.2.2) := by
  obtain ⟨g, hg, eg⟩ := k_weigh (v_known := zKu v_known c ρ 4) (v_applies := v_applies) (v_falls := v_falls) (v_sureBodies := v_sureBodies) (v_neverBodies := v_neverBodies) hN hb
  refine ⟨g, hg, ?_⟩
  obtain ⟨s, hs, e⟩ := zloopI (L := fun n x s => FX3_lookAheadOf_3 v_known v_applies v_falls v_sureBodies v_neverBodies c_body c_excepts c_size rd_came (nI ρ) (FX3_lookAheadOf_32 v_known v_applies v_falls v_sureBodies v_neverBodies c_body c_excepts c_size rd_came (nI ρ)) n x s v_applies v_falls v_sureBodies v_neverBodies) (kt := fun s => FX3_lookAheadOf_32 v_known v_applies v_falls v_sureBodies v_neverBodies c_body c_excepts c_size rd_came (nI ρ) s v_applies v_falls v_sureBodies v_neverBodies) 4 (I := fun i s => s = zKu v_known c ρ i) (by
    intro n s _
    show FX3_lookAheadOf_3 v_known v_applies v_falls v_sureBodies v_neverBodies c_body c_excepts c_size rd_came (nI ρ) _ (n + 1) (nI 4) s v_applies v_falls v_sureBodies v_neverBodies = _
    rw [FX3_lookAheadOf_3, if_pos (show (4 : Int32) ≤ nI 4 from nI_le (Nat.le_refl 4) (by omega))]) (by
    intro n i s hi hs
    subst hs
    refine ⟨_, rfl, ?_⟩
    have hun : FX3_lookAheadOf_3 v_known v_applies v_falls v_sureBodies v_neverBodies c_body c_excepts c_size rd_came (nI ρ) (FX3_lookAheadOf_32 v_known v_applies v_falls v_sureBodies v_neverBodies c_body c_excepts c_size rd_came (nI ρ)) (n + 1) (nI i) (zKu v_known c ρ i) v_applies v_falls v_sureBodies v_neverBodies = _ := FX3_lookAheadOf_3.eq_2 ..
    rw [if_neg (show ¬ (4 : Int32) ≤ nI i from nI_ge (b := 4) hi (by omega))] at hun
    simp only [bndx, nI_1] at hun
    rw [nI_clamp (show i < 2 ^ 31 by omega), zKc_8 hc8 ρ hi] at hun
    exact hun) 5 0 v_known (by omega) (by omega) rfl
  subst hs
  refine e.trans ?_
  show FX3_lookAheadOf_32 v_known v_applies v_falls v_sureBodies v_neverBodies c_body c_excepts c_size rd_came (nI ρ) (zKu v_known c ρ 4) v_applies v_falls v_sureBodies v_neverBodies = _
  unfold FX3_lookAheadOf_32
  rw [bndx, hsz, eg]
end ZLA
section ZB39
variable {pr_wanted : Nat → Int32} {pr_steps : Nat → Int32} {pr_length : Int32} {v_known : Nat → Int32} {v_strictFor : Nat → Int32} {v_forwardFor : Nat → Int32} {v_allFor : Nat → Int32} {v_above : Nat → Int32} {v_facts : Int32} {v_applies : Int32} {v_falls : Int32} {v_sureBodies : Int32} {v_neverBodies : Int32} {c_kind : Nat → Int32} {c_head : Nat → Int32} {c_body : Nat → Int32} {c_excepts : Nat → Int32} {c_power : Nat → Int32} {c_beats : Nat → Int32} {c_facts : Int32} {c_size : Int32} {c_shut : Int32} {rd_came : Nat → Int32} {x3 : Int32} {x4 : Int32}
theorem k_b39 {kt39 : (Int32) → (Nat → Int32) → (Nat → Int32) → (Int32) → (Nat → Int32) → (Nat → Int32) → (Nat → Int32) → (Nat → Int32) → (Nat → Int32) → (Int32) → (Int32) → (Int32) → (Int32) → (Int32) → ((Nat → Int32) × (Nat → Int32) × (Int32) × (Nat → Int32) × (Nat → Int32) × (Nat → Int32) × (Nat → Int32) × (Nat → Int32) × (Int32) × (Int32) × (Int32) × (Int32) × (Int32))} {R : zC} {N : Nat} {c st fw al ab ps : Nat → Int32} {x5 vf pl : Int32} (hN : N ≤ 16) (h : zRd R N c) (hsz : c_size = nI N) (hc8 : ∀ j : Nat, j < 80 → rd_came j = c j) (hw : zVw N (qkd R) (qhd R) (qsg R) (qof R) (qov R) (qfa R) st fw al ab vf) (hb : ∀ r, r < N → c_body r = qbd R r ∧ c_excepts r = qex R r) : ∀ ρ : Nat, ρ ≤ 80 → ∀ (n : Nat) (K w : Nat → Int32) (ap fl sb nb : Int32), ρ < n → ∃ (K' : Nat → Int32) (ap' fl' sb' nb' : Int32), (FX3_build_39 pr_wanted pr_steps pr_length v_known v_strictFor v_forwardFor v_allFor v_above v_facts v_applies v_falls v_sureBodies v_neverBodies c_kind c_head c_body c_excepts c_power c_beats c_facts c_size c_shut rd_came x3 x4) kt39 n x5 (nI ρ) w ps pl K st fw al ab vf ap fl sb nb = kt39 x5 (zdn R N c ρ w) ps pl K' st fw al ab vf ap' fl' sb' nb'
  | 0, _, 0, K, w, _, _, _, _, hn => absurd hn (Nat.not_lt_zero 0)
  | 0, _, n + 1, K, w, ap, fl, sb, nb, _ => ⟨K, ap, fl, sb, nb, by
    rw [FX3_build_39, if_pos (show nI 0 ≤ (0 : Int32) by decide)]; rfl⟩
  | ρ + 1, _, 0, K, w, _, _, _, _, hn => absurd hn (Nat.not_lt_zero _)
  | ρ + 1, hρ, n + 1, K, w, ap, fl, sb, nb, hn => by
    have hun : (FX3_build_39 pr_wanted pr_steps pr_length v_known v_strictFor v_forwardFor v_allFor v_above v_facts v_applies v_falls v_sureBodies v_neverBodies c_kind c_head c_body c_excepts c_power c_beats c_facts c_size c_shut rd_came x3 x4) kt39 (n + 1) x5 (nI (ρ + 1)) w ps pl K st fw al ab vf ap fl sb nb = _ := FX3_build_39.eq_2 ..
    obtain ⟨g, hg, eg⟩ := k_look (v_known := K) (v_applies := ap) (v_falls := fl) (v_sureBodies := sb) (v_neverBodies := nb) (ρ := ρ + 1) hN hsz hb hc8
    rw [if_neg (z_le0 (by omega)), bndx, bndx, eg] at hun
    simp only at hun
    rw [k_wantNeeds hN h (by omega) (by omega) hc8 (fun t ht => zKu_lt K c (ρ + 1) 4 t ht) hw hg hb, z_m1] at hun
    obtain ⟨K', a', f', s', n', e⟩ := k_b39 hN h hsz hc8 hw hb ρ (by omega) n (zKu K c (ρ + 1) 4) (zorf w (zfa (zfs R N c (ρ + 1) w) 80)) g.1 g.2.1 g.2.2.1 g.2.2.2 (by omega)
    exact ⟨K', a', f', s', n', hun.trans e⟩
end ZB39
