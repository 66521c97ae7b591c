/-! a proof: what is wanted, round by round -/
section ZKC
variable {kd hd bd ex sg of ov : Nat → Int32} {fa : Int32} {N : Nat} {K K' : Nat → Int32}
theorem aNeed_congr (h : ∀ t : Nat, t < 4 → K t = K' t) (t q : Nat) : aNeed kd hd bd ex sg of ov fa N K t q = aNeed kd hd bd ex sg of ov fa N K' t q := by
  have h0 := h 0 (by decide)
  have h1 := h 1 (by decide)
  have h2 := h 2 (by decide)
  have h3 := h 3 (by decide)
  have eA : aApp bd ex K = aApp bd ex K' := by funext r; unfold aApp; rw [h2, h3]
  have eF : aFal bd ex K = aFal bd ex K' := by funext r; unfold aFal; rw [h2, h3]
  have eS : aSb bd K = aSb bd K' := by funext r; unfold aSb; rw [h0]
  have eL : aFall bd ex K = aFall bd ex K' := by funext r; unfold aFall; rw [h2, h3]
  have eC : aFrc kd hd bd ex of K = aFrc kd hd bd ex of K' := by funext a b; unfold aFrc; rw [eA]
  have eU : aUnf kd hd bd ex of K = aUnf kd hd bd ex of K' := by funext a b; unfold aUnf; rw [eF]
  have eV : aVic kd hd bd ex sg of ov N K = aVic kd hd bd ex sg of ov N K' := by funext a b; unfold aVic; rw [eA, eU]
  unfold aNeed aNS aNN aNL aNU
  rw [h0, h1, eS, eL, eF, eC, eU, eV]
end ZKC
/-- came ahead of a round -/
def zah (c : Nat → Int32) (ρ t q : Nat) : Bool := decide (0 < c (20 * t + q)) && decide (c (20 * t + q) < nI ρ)
/-- what the settled rounds say of the rounds in which tags came -/
def zRd (R : zC) (N : Nat) (c : Nat → Int32) : Prop := (∀ j : Nat, j < 80 → ∃ h : Nat, h ≤ 80 ∧ c j = nI h) ∧ ∀ t q ρ : Nat, t < 4 → q < 20 → 1 ≤ ρ → ρ ≤ 80 → c (20 * t + q) = nI ρ → ∀ K : Nat → Int32, (∀ t' : Nat, t' < 4 → zM (K t') 20 (zah c ρ t')) → aHolds (qkd R) (qhd R) (qbd R) (qex R) (qsg R) (qof R) (qov R) (qfa R) N K t q = true
theorem zRd_of {R : zC} {N : Nat} {T : zRV} {U : zTG} (k : zEnd (qkd R) (qhd R) (qbd R) (qex R) (qsg R) (qof R) (qov R) (qfa R) N T U) : zRd R N U.1 := by
  obtain ⟨e1, e2, e3, e4, e5, e6, kk, hk, e7, hJ⟩ := k
  refine ⟨fun j hj => ?_, fun t q ρ ht hq h1 h2 hc K hK => ?_⟩
  · obtain ⟨c, hc, ec, -⟩ := hJ (j / 20) (j % 20) (by omega) (by omega)
    rw [Nat.div_add_mod] at ec
    exact ⟨c, by omega, ec⟩
  · obtain ⟨c, hcc, ec, eb, hJ⟩ := hJ t q ht hq
    obtain rfl : c = ρ := (nI_eq (by omega) (by omega)).mp (ec.symm.trans hc)
    have := hJ (by omega) K hK
    unfold aNew at this
    rw [Bool.and_eq_true] at this
    exact this.2
/-- what was known ahead of a round -/
def zKc (c : Nat → Int32) (ρ : Nat) : Nat → Int32 := fun t => FX9_cameIn c (nI t) (nI ρ) 1
theorem z_pos {a : Int32} : (!decide (a ≤ 0)) = decide (0 < a) := by
  by_cases h : a ≤ 0
  · rw [decide_eq_true h, decide_eq_false (Int32.not_lt.mpr h)]; rfl
  · rw [decide_eq_false h, decide_eq_true (Int32.not_le.mp h)]; rfl
theorem z_lt' {a b : Int32} : (!decide (b ≤ a)) = decide (a < b) := by
  by_cases h : b ≤ a
  · rw [decide_eq_true h, decide_eq_false (Int32.not_lt.mpr h)]; rfl
  · rw [decide_eq_false h, decide_eq_true (Int32.not_le.mp h)]; rfl
theorem zKc_M (c : Nat → Int32) (ρ : Nat) {t : Nat} (ht : t < 4) : zM (zKc c ρ t) 20 (zah c ρ t) := by
  have k := r_cameIn (m_came := c) (x2 := nI ρ) (x3 := 1) ht
  refine zM_ext k (fun q hq => ?_)
  show (!decide (c (20 * t + q) ≤ 0) && (if (1 : Int32) = 0 then _ else !decide (nI ρ ≤ c (20 * t + q)))) = _
  rw [if_neg (show ¬ (1 : Int32) = 0 by decide), z_pos, z_lt']
  rfl
theorem zKc_8 {c8 c : Nat → Int32} (hc : ∀ j : Nat, j < 80 → c8 j = c j) (ρ : Nat) {t : Nat} (ht : t < 4) : FX4_broughtAheadOf c8 (nI t) (nI ρ) = zKc c ρ t := by
  have k := k_ahead (rd_came := c8) (x2 := nI ρ) ht
  refine zM_eq k (zKc_M c ρ ht) (fun q hq => ?_)
  show (!decide (c8 (20 * t + q) ≤ 0) && !decide (nI ρ ≤ c8 (20 * t + q))) = _
  rw [z_pos, z_lt', hc _ (by omega)]
  rfl
theorem zKc_no {c : Nat → Int32} {ρ t q : Nat} (ht : t < 4) (hq : q < 20) (h : c (20 * t + q) = nI ρ) : zb (zKc c ρ t) q = false := by
  rw [zM_b (zKc_M c ρ ht) hq]
  unfold zah
  rw [h, decide_eq_false (show ¬ nI ρ < nI ρ from Int32.lt_irrefl), Bool.and_false]
/-- the needs of a tag of a round, where it is wanted -/
def zfs (R : zC) (N : Nat) (c : Nat → Int32) (ρ : Nat) (w : Nat → Int32) (k : Nat) : Nat → Int32 := if (decide (c k = nI ρ) && zb (w (k / 20)) (k % 20)) = true then aNeed (qkd R) (qhd R) (qbd R) (qex R) (qsg R) (qof R) (qov R) (qfa R) N (zKc c ρ) (k / 20) (k % 20) else zno
theorem zfs_sub1 {R : zC} {N : Nat} {c : Nat → Int32} {ρ : Nat} (h : zRd R N c) (h1 : 1 ≤ ρ) (h2 : ρ ≤ 80) (w : Nat → Int32) {k : Nat} (hk : k < 80) : zsub (zKc c ρ) (zfs R N c ρ w k) := by
  unfold zfs
  split
  · next hc =>
    rw [Bool.and_eq_true] at hc
    have hc1 := of_decide_eq_true hc.1
    refine aNeed_in (by omega) (by omega) (h.2 (k / 20) (k % 20) ρ (by omega) (by omega) h1 h2 (by rw [Nat.div_add_mod]; exact hc1) _ (fun t' ht' => zKc_M c ρ ht'))
  · exact zsub_no _
theorem zfs_sub {R : zC} {N : Nat} {c : Nat → Int32} {ρ : Nat} (h : zRd R N c) (h1 : 1 ≤ ρ) (h2 : ρ ≤ 80) (w : Nat → Int32) (i : Nat) (hi : i ≤ 80) : zsub (zKc c ρ) (zfa (zfs R N c ρ w) i) := zsub_fa i (fun k hk => zfs_sub1 h h1 h2 w (by omega))
/-- what is of the round stays as it was wanted -/
theorem zfs_same {R : zC} {N : Nat} {c : Nat → Int32} {ρ : Nat} (h : zRd R N c) (h1 : 1 ≤ ρ) (h2 : ρ ≤ 80) (w : Nat → Int32) (i : Nat) (hi : i ≤ 80) {t q : Nat} (ht : t < 4) (hq : q < 20) (hc : c (20 * t + q) = nI ρ) : zb (zorf w (zfa (zfs R N c ρ w) i) t) q = zb (w t) q := by
  show zb (w t ||| zfa (zfs R N c ρ w) i t) q = _
  rw [zb_or]
  cases e : zb (zfa (zfs R N c ρ w) i t) q
  · rw [Bool.or_false]
  · have := (zfs_sub h h1 h2 w i hi t q e).2
    rw [zKc_no ht hq hc] at this
    cases this
theorem z_i20 {i : Nat} (hi : i < 80) : nI i / 20 = nI (i / 20) ∧ nI i - nI i / 20 * 20 = nI (i % 20) := ⟨pk_div (d := 20) (by omega) (by omega) (by omega), pk_rem (d := 20) (by omega) (by omega) (by omega)⟩
section ZR101
variable {m_facts : Int32} {m_rules : Int32} {m_kind : Nat → Int32} {m_head : Nat → Int32} {m_body : Nat → Int32} {m_except : Nat → Int32} {m_strength : Nat → Int32} {m_off : Nat → Int32} {m_over : Nat → Int32} {m_came : Nat → Int32} {m_known : Nat → Int32} {m_fresh : Nat → Int32} {m_rounds : Int32} {m_needed : Nat → Int32} {m_listed : Nat → Int32} {m_lists : Int32} {x1 : Int32} {x2 : Int32}
theorem r_p101 {rc62 : (Int32) → (Int32) → (Nat → Int32) → (Nat → Int32) → (Nat → Int32) → (Int32) → (Nat → Int32) → (Nat → Int32) → (Int32) → (Int32 × (Nat → Int32) × (Nat → Int32) × (Nat → Int32) × (Int32) × (Nat → Int32) × (Nat → Int32) × (Int32))} {kt62 : (Int32) → (Nat → Int32) → (Nat → Int32) → (Nat → Int32) → (Int32) → (Nat → Int32) → (Nat → Int32) → (Int32) → (Int32 × (Nat → Int32) × (Nat → Int32) × (Nat → Int32) × (Int32) × (Nat → Int32) × (Nat → Int32) × (Int32))} {kt101 : (Int32) → (Int32) → (Nat → Int32) → (Nat → Int32) → (Nat → Int32) → (Int32) → (Nat → Int32) → (Nat → Int32) → (Int32) → (Int32 × (Nat → Int32) × (Nat → Int32) × (Nat → Int32) × (Int32) × (Nat → Int32) × (Nat → Int32) × (Int32))} {R : zC} {N ρ : Nat} {c K fr w ls : Nat → Int32} {x3 rd ln : Int32} (hN : N ≤ 16) (hR : (m_facts, m_rules, m_kind, m_head, m_body, m_except, m_strength, m_off, m_over) = (qfa R, qru R, qkd R, qhd R, qbd R, qex R, qsg R, qof R, qov R)) (hru : qru R = nI N) (h : zRd R N c) (h1 : 1 ≤ ρ) (h2 : ρ ≤ 80) (hK : ∀ t : Nat, t < 4 → K t = zKc c ρ t) : (FX9_proves_101 m_facts m_rules m_kind m_head m_body m_except m_strength m_off m_over m_came m_known m_fresh m_rounds m_needed m_listed m_lists x1 x2) rc62 kt62 kt101 81 x3 (nI ρ) 0 c K fr rd w ls ln = kt101 x3 (nI ρ) c K fr rd (zorf w (zfa (zfs R N c ρ w) 80)) ls ln := by
  obtain ⟨rfl, hR1⟩ := Prod.mk.inj hR
  obtain ⟨rfl, hR2⟩ := Prod.mk.inj hR1
  obtain ⟨rfl, hR3⟩ := Prod.mk.inj hR2
  obtain ⟨rfl, hR4⟩ := Prod.mk.inj hR3
  obtain ⟨rfl, hR5⟩ := Prod.mk.inj hR4
  obtain ⟨rfl, hR6⟩ := Prod.mk.inj hR5
  obtain ⟨rfl, hR7⟩ := Prod.mk.inj hR6
  obtain ⟨rfl, rfl⟩ := Prod.mk.inj hR7
  obtain ⟨s, hs, e⟩ := zloopI (L := fun n x s => FX9_proves_101 (qfa R) (qru R) (qkd R) (qhd R) (qbd R) (qex R) (qsg R) (qof R) (qov R) m_came m_known m_fresh m_rounds m_needed m_listed m_lists x1 x2 rc62 kt62 kt101 n x3 (nI ρ) x c K fr rd s ls ln) (kt := fun s => kt101 x3 (nI ρ) c K fr rd s ls ln) 80 (I := fun i s => s = zorf w (zfa (zfs R N c ρ w) i)) (by
    intro n s _
    show FX9_proves_101 (qfa R) (qru R) (qkd R) (qhd R) (qbd R) (qex R) (qsg R) (qof R) (qov R) m_came m_known m_fresh m_rounds m_needed m_listed m_lists x1 x2 rc62 kt62 kt101 (n + 1) x3 (nI ρ) (nI 80) c K fr rd s ls ln = _
    rw [FX9_proves_101, if_pos (show (80 : Int32) ≤ nI 80 from nI_le (Nat.le_refl 80) (by omega))]) (by
    intro n i s hi hs
    subst hs
    refine ⟨_, rfl, ?_⟩
    show FX9_proves_101 (qfa R) (qru R) (qkd R) (qhd R) (qbd R) (qex R) (qsg R) (qof R) (qov R) m_came m_known m_fresh m_rounds m_needed m_listed m_lists x1 x2 rc62 kt62 kt101 (n + 1) x3 (nI ρ) (nI i) c K fr rd (zorf w (zfa (zfs R N c ρ w) i)) ls ln = FX9_proves_101 (qfa R) (qru R) (qkd R) (qhd R) (qbd R) (qex R) (qsg R) (qof R) (qov R) m_came m_known m_fresh m_rounds m_needed m_listed m_lists x1 x2 rc62 kt62 kt101 n x3 (nI ρ) (nI (i + 1)) c K fr rd (zorf w (zfa (zfs R N c ρ w) (i + 1))) ls ln
    rw [← zfa_s]
    have hun : FX9_proves_101 (qfa R) (qru R) (qkd R) (qhd R) (qbd R) (qex R) (qsg R) (qof R) (qov R) m_came m_known m_fresh m_rounds m_needed m_listed m_lists x1 x2 rc62 kt62 kt101 (n + 1) x3 (nI ρ) (nI i) c K fr rd (zorf w (zfa (zfs R N c ρ w) i)) ls ln = _ := FX9_proves_101.eq_2 ..
    rw [if_neg (show ¬ (80 : Int32) ≤ nI i from nI_ge (b := 80) hi (by omega))] at hun
    simp only [bndx, nI_1] at hun
    rw [(z_i20 hi).2, (z_i20 hi).1, nI_clamp (show i < 2 ^ 31 by omega), nI_clamp (show i / 20 < 2 ^ 31 by omega), zh9 (show i % 20 < 32 by omega)] at hun
    refine hun.trans ?_
    by_cases c1 : c i = nI ρ
    · have ec : c (20 * (i / 20) + i % 20) = nI ρ := by rw [Nat.div_add_mod]; exact c1
      rw [if_pos c1, zfs_same h h1 h2 w i (by omega) (show i / 20 < 4 by omega) (show i % 20 < 20 by omega) ec]
      show _ = FX9_proves_101 (qfa R) (qru R) (qkd R) (qhd R) (qbd R) (qex R) (qsg R) (qof R) (qov R) m_came m_known m_fresh m_rounds m_needed m_listed m_lists x1 x2 rc62 kt62 kt101 n x3 (nI ρ) (nI (i + 1)) c K fr rd (zorf _ (if (decide (c i = nI ρ) && zb (w (i / 20)) (i % 20)) = true then aNeed (qkd R) (qhd R) (qbd R) (qex R) (qsg R) (qof R) (qov R) (qfa R) N (zKc c ρ) (i / 20) (i % 20) else zno)) ls ln
      rw [decide_eq_true c1, Bool.true_and]
      cases c2 : zb (w (i / 20)) (i % 20)
      · rw [if_pos zi_f, if_neg Bool.false_ne_true, zorf_no]
      · rw [if_neg (show ¬ zi true = 0 by decide), if_pos rfl, hru, r_needs hN (show i / 20 < 4 by omega) (show i % 20 < 20 by omega) (by
          rw [aHolds_congr hK]
          exact h.2 (i / 20) (i % 20) ρ (by omega) (by omega) h1 h2 ec _ (fun t' ht' => zKc_M c ρ ht')), aNeed_congr hK]
    · rw [if_neg c1]
      show _ = FX9_proves_101 (qfa R) (qru R) (qkd R) (qhd R) (qbd R) (qex R) (qsg R) (qof R) (qov R) m_came m_known m_fresh m_rounds m_needed m_listed m_lists x1 x2 rc62 kt62 kt101 n x3 (nI ρ) (nI (i + 1)) c K fr rd (zorf _ (if (decide (c i = nI ρ) && zb (w (i / 20)) (i % 20)) = true then aNeed (qkd R) (qhd R) (qbd R) (qex R) (qsg R) (qof R) (qov R) (qfa R) N (zKc c ρ) (i / 20) (i % 20) else zno)) ls ln
      rw [decide_eq_false c1, Bool.false_and, if_neg Bool.false_ne_true, zorf_no]) 81 0 w (by omega) (by omega) (zorf_no w).symm
  subst hs
  exact e
end ZR101
/-! the class lays them literal by literal -/
theorem zorf_4c (A B a b : Nat → Int32) : zorf (zorf A B) (zorf a b) = zorf (zorf A a) (zorf B b) := funext (fun t => by
  show (A t ||| B t) ||| (a t ||| b t) = (A t ||| a t) ||| (B t ||| b t)
  exact zb_ext (fun q _ => by
    simp only [zb_or]
    cases zb (A t) q <;> cases zb (B t) q <;> cases zb (a t) q <;> cases zb (b t) q <;> rfl))
theorem zorf_4 (P a b c d : Nat → Int32) : zorf (zorf (zorf (zorf P a) b) c) d = zorf P (zorf (zorf (zorf a b) c) d) := by
  rw [← zorf_2, ← zorf_2, ← zorf_2]
theorem zfa_add (f : Nat → Nat → Int32) (n : Nat) : ∀ m : Nat, zfa f (n + m) = zorf (zfa f n) (zfa (fun i => f (n + i)) m)
  | 0 => (zorf_no _).symm
  | m + 1 => by
    show zorf (zfa f (n + m)) (f (n + m)) = zorf (zfa f n) (zorf (zfa (fun i => f (n + i)) m) (f (n + m)))
    rw [zfa_add f n m, zorf_2]
theorem zfa_zip (a b : Nat → Nat → Int32) : ∀ n : Nat, zfa (fun i => zorf (a i) (b i)) n = zorf (zfa a n) (zfa b n)
  | 0 => (zorf_no _).symm
  | n + 1 => by
    show zorf (zfa (fun i => zorf (a i) (b i)) n) (zorf (a n) (b n)) = zorf (zorf (zfa a n) (a n)) (zorf (zfa b n) (b n))
    rw [zfa_zip a b n, zorf_4c]
def zG4 (f : Nat → Nat → Int32) (n q : Nat) : Nat → Int32 := zorf (zorf (zorf (f (n * 0 + q)) (f (n * 1 + q))) (f (n * 2 + q))) (f (n * 3 + q))
theorem zfa_grid (f : Nat → Nat → Int32) (n : Nat) : zfa (zG4 f n) n = zfa f (n * 4) := by
  have e1 : zfa (zG4 f n) n = zorf (zorf (zorf (zfa (fun q => f (n * 0 + q)) n) (zfa (fun q => f (n * 1 + q)) n)) (zfa (fun q => f (n * 2 + q)) n)) (zfa (fun q => f (n * 3 + q)) n) :=
    (zfa_zip (fun q => zorf (zorf (f (n * 0 + q)) (f (n * 1 + q))) (f (n * 2 + q))) (fun q => f (n * 3 + q)) n).trans (congrArg (fun x => zorf x _) ((zfa_zip (fun q => zorf (f (n * 0 + q)) (f (n * 1 + q))) (fun q => f (n * 2 + q)) n).trans (congrArg (fun x => zorf x _) (zfa_zip (fun q => f (n * 0 + q)) (fun q => f (n * 1 + q)) n))))
  have e2 : zfa f (n * 4) = zorf (zorf (zorf (zfa f n) (zfa (fun q => f (n * 1 + q)) n)) (zfa (fun q => f (n * 2 + q)) n)) (zfa (fun q => f (n * 3 + q)) n) := by
    rw [show n * 4 = n * 3 + n by omega, zfa_add f (n * 3) n, show n * 3 = n * 2 + n by omega, zfa_add f (n * 2) n, show n * 2 = n * 1 + n by omega, zfa_add f (n * 1) n, show n * 1 = n by omega]
  rw [e1, e2, show (fun q => f (n * 0 + q)) = f from funext (fun q => by rw [Nat.mul_zero, Nat.zero_add])]
theorem zfs_at {R : zC} {N ρ t q : Nat} {c w : Nat → Int32} (hq : q < 20) : zfs R N c ρ w (20 * t + q) = if (decide (c (20 * t + q) = nI ρ) && zb (w t) q) = true then aNeed (qkd R) (qhd R) (qbd R) (qex R) (qsg R) (qof R) (qov R) (qfa R) N (zKc c ρ) t q else zno := by
  unfold zfs
  rw [show (20 * t + q) / 20 = t by omega, show (20 * t + q) % 20 = q by omega]
theorem k_isWanted {w c8 c : Nat → Int32} {t q ρ : Nat} {x : Int32} (hx : x = nI t) (ht : t < 4) (hq : q < 20) (hc8 : ∀ j : Nat, j < 80 → c8 j = c j) : FX3_isWanted w c8 x (nI q) (nI ρ) = zi (decide (c (20 * t + q) = nI ρ) && zb (w t) q) := by
  subst hx
  unfold FX3_isWanted FX4_roundOf
  simp only [bndx]
  rw [zh8 (show q < 32 by omega), nI_clamp (show t < 2 ^ 31 by omega), z20' ht hq, hc8 _ (by omega)]
  cases zb (w t) q
  · rw [if_pos zi_f, Bool.and_false]; rfl
  · rw [if_neg (show ¬ zi true = 0 by decide), Bool.and_true]
    by_cases e : c (20 * t + q) = nI ρ
    · rw [if_pos e, decide_eq_true e]; rfl
    · rw [if_neg e, decide_eq_false e]; rfl
theorem k_want {w P c8 c : Nat → Int32} {t q ρ : Nat} {x : Int32} (hx : x = nI t) (ht : t < 4) (hq : q < 20) (hc8 : ∀ j : Nat, j < 80 → c8 j = c j) (hP : zsub (zKc c ρ) P) : FX3_isWanted (zorf w P) c8 x (nI q) (nI ρ) = zi (decide (c (20 * t + q) = nI ρ) && zb (w t) q) := by
  rw [k_isWanted hx ht hq hc8]
  by_cases e : c (20 * t + q) = nI ρ
  · have h0 : zb (P t) q = false := by
      cases e2 : zb (P t) q
      · rfl
      · have := (hP t q e2).2
        rw [zKc_no ht hq e] at this
        cases this
    show zi (_ && zb (w t ||| P t) q) = _
    rw [zb_or, h0, Bool.or_false]
  · rw [decide_eq_false e, Bool.false_and, Bool.false_and]
section ZK29
variable {w K st fw al ab c_body c_excepts c8 c : Nat → Int32} {vf ap fl sb nb : Int32}
theorem k_nd {R : zC} {N ρ t q : Nat} {s : Nat → Int32} (hN : N ≤ 16) (h : zRd R N c) (h1 : 1 ≤ ρ) (h2 : ρ ≤ 80) (ht : t < 4) (hq : q < 20) (hK : ∀ t : Nat, t < 4 → K t = zKc c ρ t) (hw : zVw N (qkd R) (qhd R) (qsg R) (qof R) (qov R) (qfa R) st fw al ab vf) (hg : zWg N (qbd R) (qex R) K ap fl sb nb) (hb : ∀ r, r < N → c_body r = qbd R r ∧ c_excepts r = qex R r) (c1 : (decide (c (20 * t + q) = nI ρ) && zb (w t) q) = true) : kNd t s K st fw al ab vf ap fl sb c_body c_excepts (nI q) = zorf s (zfs R N c ρ w (20 * t + q)) := by
  rw [zfs_at hq, if_pos c1]
  rw [Bool.and_eq_true] at c1
  rw [k_needs hN ht hq hw hg hb (by
    rw [aHolds_congr hK]
    exact h.2 t q ρ ht hq h1 h2 (of_decide_eq_true c1.1) _ (fun t' ht' => zKc_M c ρ ht')), aNeed_congr hK]
theorem k_n0 {R : zC} {N ρ t q : Nat} (hq : q < 20) (c1 : (decide (c (20 * t + q) = nI ρ) && zb (w t) q) = false) : zfs R N c ρ w (20 * t + q) = zno := by
  rw [zfs_at hq, if_neg (by rw [c1]; exact Bool.false_ne_true)]
theorem k_w67 {rc3 : (Int32) → (Nat → Int32) → ((Nat → Int32))} {kt3 : (Nat → Int32) → ((Nat → Int32))} {R : zC} {N ρ q : Nat} {w0 P : Nat → Int32} (hN : N ≤ 16) (h : zRd R N c) (h1 : 1 ≤ ρ) (h2 : ρ ≤ 80) (hq : q < 20) (hc8 : ∀ j : Nat, j < 80 → c8 j = c j) (hK : ∀ t : Nat, t < 4 → K t = zKc c ρ t) (hw : zVw N (qkd R) (qhd R) (qsg R) (qof R) (qov R) (qfa R) st fw al ab vf) (hg : zWg N (qbd R) (qex R) K ap fl sb nb) (hb : ∀ r, r < N → c_body r = qbd R r ∧ c_excepts r = qex R r) (hP : zsub (zKc c ρ) P) : FX3_wantNeeds_67 w0 K st fw al ab vf ap fl sb c_body c_excepts c8 (nI ρ) rc3 kt3 (nI q) (zorf w P) = rc3 (nI (q + 1)) (zorf w (zorf P (zfs R N c ρ w (20 * 3 + q)))) := by
  unfold FX3_wantNeeds_67
  simp only [bndx, nI_1]
  rw [k_want (t := 3) (x := 3) (show (3 : Int32) = nI 3 from rfl) (by decide) hq hc8 hP]
  cases c1 : (decide (c (20 * 3 + q) = nI ρ) && zb (w 3) q)
  · rw [if_pos zi_f, k_n0 hq c1, zorf_no]
  · rw [if_neg (show ¬ zi true = 0 by decide), show FX3_wantForUnlikely (zorf w P) K fw al ab ap fl c_body c_excepts (nI q) = zorf (zorf w P) (zfs R N c ρ w (20 * 3 + q)) from k_nd (t := 3) (s := zorf w P) hN h h1 h2 (by decide) hq hK hw hg hb c1, zorf_2]
theorem k_w48 {rc3 : (Int32) → (Nat → Int32) → ((Nat → Int32))} {kt3 : (Nat → Int32) → ((Nat → Int32))} {R : zC} {N ρ q : Nat} {w0 P : Nat → Int32} (hN : N ≤ 16) (h : zRd R N c) (h1 : 1 ≤ ρ) (h2 : ρ ≤ 80) (hq : q < 20) (hc8 : ∀ j : Nat, j < 80 → c8 j = c j) (hK : ∀ t : Nat, t < 4 → K t = zKc c ρ t) (hw : zVw N (qkd R) (qhd R) (qsg R) (qof R) (qov R) (qfa R) st fw al ab vf) (hg : zWg N (qbd R) (qex R) K ap fl sb nb) (hb : ∀ r, r < N → c_body r = qbd R r ∧ c_excepts r = qex R r) (hP : zsub (zKc c ρ) P) : FX3_wantNeeds_48 w0 K st fw al ab vf ap fl sb c_body c_excepts c8 (nI ρ) rc3 kt3 (nI q) (zorf w P) = rc3 (nI (q + 1)) (zorf w (zorf (zorf P (zfs R N c ρ w (20 * 2 + q))) (zfs R N c ρ w (20 * 3 + q)))) := by
  unfold FX3_wantNeeds_48
  simp only [bndx]
  rw [k_want (t := 2) (x := 2) (show (2 : Int32) = nI 2 from rfl) (by decide) hq hc8 hP]
  cases c1 : (decide (c (20 * 2 + q) = nI ρ) && zb (w 2) q)
  · rw [if_pos zi_f, k_n0 hq c1, zorf_no]
    exact k_w67 hN h h1 h2 hq hc8 hK hw hg hb hP
  · rw [if_neg (show ¬ zi true = 0 by decide), show FX3_wantForLikely (zorf w P) K fw al ab ap fl c_body c_excepts (nI q) = zorf (zorf w P) (zfs R N c ρ w (20 * 2 + q)) from k_nd (t := 2) (s := zorf w P) hN h h1 h2 (by decide) hq hK hw hg hb c1, zorf_2]
    exact k_w67 hN h h1 h2 hq hc8 hK hw hg hb (zsub_or hP (zfs_sub1 h h1 h2 w (by omega)))
theorem k_w29 {rc3 : (Int32) → (Nat → Int32) → ((Nat → Int32))} {kt3 : (Nat → Int32) → ((Nat → Int32))} {R : zC} {N ρ q : Nat} {w0 P : Nat → Int32} (hN : N ≤ 16) (h : zRd R N c) (h1 : 1 ≤ ρ) (h2 : ρ ≤ 80) (hq : q < 20) (hc8 : ∀ j : Nat, j < 80 → c8 j = c j) (hK : ∀ t : Nat, t < 4 → K t = zKc c ρ t) (hw : zVw N (qkd R) (qhd R) (qsg R) (qof R) (qov R) (qfa R) st fw al ab vf) (hg : zWg N (qbd R) (qex R) K ap fl sb nb) (hb : ∀ r, r < N → c_body r = qbd R r ∧ c_excepts r = qex R r) (hP : zsub (zKc c ρ) P) : FX3_wantNeeds_29 w0 K st fw al ab vf ap fl sb c_body c_excepts c8 (nI ρ) rc3 kt3 (nI q) (zorf w P) = rc3 (nI (q + 1)) (zorf w (zorf (zorf (zorf P (zfs R N c ρ w (20 * 1 + q))) (zfs R N c ρ w (20 * 2 + q))) (zfs R N c ρ w (20 * 3 + q)))) := by
  unfold FX3_wantNeeds_29
  simp only [bndx]
  rw [k_want (t := 1) (x := 1) (show (1 : Int32) = nI 1 from rfl) (by decide) hq hc8 hP]
  cases c1 : (decide (c (20 * 1 + q) = nI ρ) && zb (w 1) q)
  · rw [if_pos zi_f, k_n0 hq c1, zorf_no]
    exact k_w48 hN h h1 h2 hq hc8 hK hw hg hb hP
  · rw [if_neg (show ¬ zi true = 0 by decide), show FX3_wantForNever (zorf w P) K st c_body (nI q) = zorf (zorf w P) (zfs R N c ρ w (20 * 1 + q)) from k_nd (t := 1) (s := zorf w P) hN h h1 h2 (by decide) hq hK hw hg hb c1, zorf_2]
    exact k_w48 hN h h1 h2 hq hc8 hK hw hg hb (zsub_or hP (zfs_sub1 h h1 h2 w (by omega)))
theorem k_wantNeeds {R : zC} {N ρ : Nat} (hN : N ≤ 16) (h : zRd R N c) (h1 : 1 ≤ ρ) (h2 : ρ ≤ 80) (hc8 : ∀ j : Nat, j < 80 → c8 j = c j) (hK : ∀ t : Nat, t < 4 → K t = zKc c ρ t) (hw : zVw N (qkd R) (qhd R) (qsg R) (qof R) (qov R) (qfa R) st fw al ab vf) (hg : zWg N (qbd R) (qex R) K ap fl sb nb) (hb : ∀ r, r < N → c_body r = qbd R r ∧ c_excepts r = qex R r) : FX3_wantNeeds w K st fw al ab vf ap fl sb c_body c_excepts c8 (nI ρ) = zorf w (zfa (zfs R N c ρ w) 80) := by
  have eg : zfa (zG4 (zfs R N c ρ w) 20) 20 = zfa (zfs R N c ρ w) 80 := zfa_grid (zfs R N c ρ w) 20
  rw [← eg]
  unfold FX3_wantNeeds
  obtain ⟨s, hs, e⟩ := zloopI (L := fun n y s => FX3_wantNeeds_3 w K st fw al ab vf ap fl sb c_body c_excepts c8 (nI ρ) (FX3_wantNeeds_92 w K st fw al ab vf ap fl sb c_body c_excepts c8 (nI ρ)) n y s) (kt := fun s => s) 20 (I := fun i s => s = zorf w (zfa (zG4 (zfs R N c ρ w) 20) i)) (by
    intro n s _
    show FX3_wantNeeds_3 w K st fw al ab vf ap fl sb c_body c_excepts c8 (nI ρ) _ (n + 1) (nI 20) s = s
    rw [FX3_wantNeeds_3, if_pos (show (20 : Int32) ≤ nI 20 from nI_le (Nat.le_refl 20) (by omega))]; rfl) (by
    intro n q s hq hs
    subst hs
    refine ⟨_, rfl, ?_⟩
    have hP : zsub (zKc c ρ) (zfa (zG4 (zfs R N c ρ w) 20) q) := zsub_fa q (fun i hi => zsub_or (zsub_or (zsub_or (zfs_sub1 h h1 h2 w (by omega)) (zfs_sub1 h h1 h2 w (by omega))) (zfs_sub1 h h1 h2 w (by omega))) (zfs_sub1 h h1 h2 w (by omega)))
    show FX3_wantNeeds_3 w K st fw al ab vf ap fl sb c_body c_excepts c8 (nI ρ) _ (n + 1) (nI q) (zorf w (zfa (zG4 (zfs R N c ρ w) 20) q)) = FX3_wantNeeds_3 w K st fw al ab vf ap fl sb c_body c_excepts c8 (nI ρ) _ n (nI (q + 1)) (zorf w (zorf (zfa (zG4 (zfs R N c ρ w) 20) q) (zorf (zorf (zorf (zfs R N c ρ w (20 * 0 + q)) (zfs R N c ρ w (20 * 1 + q))) (zfs R N c ρ w (20 * 2 + q))) (zfs R N c ρ w (20 * 3 + q)))))
    rw [← zorf_4]
    generalize zfa (zG4 (zfs R N c ρ w) 20) q = P at hP ⊢
    have hun : FX3_wantNeeds_3 w K st fw al ab vf ap fl sb c_body c_excepts c8 (nI ρ) (FX3_wantNeeds_92 w K st fw al ab vf ap fl sb c_body c_excepts c8 (nI ρ)) (n + 1) (nI q) (zorf w P) = _ := FX3_wantNeeds_3.eq_2 ..
    rw [if_neg (show ¬ (20 : Int32) ≤ nI q from nI_ge (b := 20) hq (by omega))] at hun
    simp only [bndx] at hun
    rw [k_want (t := 0) (x := 0) (show (0 : Int32) = nI 0 from rfl) (by decide) hq hc8 hP] at hun
    refine hun.trans ?_
    cases c1 : (decide (c (20 * 0 + q) = nI ρ) && zb (w 0) q)
    · rw [if_pos zi_f, k_n0 hq c1, zorf_no]
      exact k_w29 hN h h1 h2 hq hc8 hK hw hg hb hP
    · rw [if_neg (show ¬ zi true = 0 by decide), show FX3_wantForSure (zorf w P) st vf sb c_body (nI q) = zorf (zorf w P) (zfs R N c ρ w (20 * 0 + q)) from k_nd (t := 0) (s := zorf w P) hN h h1 h2 (by decide) hq hK hw hg hb c1, zorf_2]
      exact k_w29 hN h h1 h2 hq hc8 hK hw hg hb (zsub_or hP (zfs_sub1 h h1 h2 w (by omega)))) 21 0 w (by omega) (by omega) (zorf_no w).symm
  subst hs
  exact e
end ZK29
