/-! a proof whole: the class's list and the reference's -/
/-- nothing is wanted -/
def zw4 (w : Nat → Int32) : Nat → Nat → Int32
  | 0 => w
  | i + 1 => upd (zw4 w i) i 0
theorem zw4_lt (w : Nat → Int32) : ∀ i t : Nat, t < i → zw4 w i t = 0
  | 0, t, h => absurd h (Nat.not_lt_zero t)
  | i + 1, t, h => by
    show upd (zw4 w i) i 0 t = 0
    by_cases e : t = i
    · rw [e, pk_us]
    · rw [pk_un e]; exact zw4_lt w i t (by omega)
/-- the first wanted -/
def zwf (w : Nat → Int32) (t q : Nat) : Nat → Int32 := upd (zw4 w 4) t (1 <<< (nI q &&& 31))
section ZRP
variable {m_facts : Int32} {m_rules : Int32} {m_kind : Nat → Int32} {m_head : Nat → Int32} {m_body : Nat → Int32} {m_except : Nat → Int32} {m_strength : Nat → Int32} {m_off : Nat → Int32} {m_over : Nat → Int32} {m_came : Nat → Int32} {m_known : Nat → Int32} {m_fresh : Nat → Int32} {m_rounds : Int32} {m_needed : Nat → Int32} {m_listed : Nat → Int32} {m_lists : Int32} {x1 : Int32} {x2 : Int32}
theorem r_p30 {kt30 : (Int32) → (Nat → Int32) → (Nat → Int32) → (Nat → Int32) → (Int32) → (Nat → Int32) → (Nat → Int32) → (Int32) → (Int32 × (Nat → Int32) × (Nat → Int32) × (Nat → Int32) × (Int32) × (Nat → Int32) × (Nat → Int32) × (Int32))} {c K fr w ls : Nat → Int32} {x3 rd ln : Int32} : (FX9_proves_30 m_facts m_rules m_kind m_head m_body m_except m_strength m_off m_over m_came m_known m_fresh m_rounds m_needed m_listed m_lists x1 x2) kt30 5 x3 0 c K fr rd w ls ln = kt30 x3 c K fr rd (zw4 w 4) ls ln := by
  obtain ⟨s, hs, e⟩ := zloopI (L := fun n x s => (FX9_proves_30 m_facts m_rules m_kind m_head m_body m_except m_strength m_off m_over m_came m_known m_fresh m_rounds m_needed m_listed m_lists x1 x2) kt30 n x3 x c K fr rd s ls ln) (kt := fun s => kt30 x3 c K fr rd s ls ln) 4 (I := fun i s => s = zw4 w i) (by
    intro n s _
    show (FX9_proves_30 m_facts m_rules m_kind m_head m_body m_except m_strength m_off m_over m_came m_known m_fresh m_rounds m_needed m_listed m_lists x1 x2) kt30 (n + 1) x3 (nI 4) c K fr rd s ls ln = _
    rw [FX9_proves_30, if_pos (show (4 : Int32) ≤ nI 4 from nI_le (Nat.le_refl 4) (by omega))]) (by
    intro n i s hi hs
    subst hs
    refine ⟨_, rfl, ?_⟩
    have hun : (FX9_proves_30 m_facts m_rules m_kind m_head m_body m_except m_strength m_off m_over m_came m_known m_fresh m_rounds m_needed m_listed m_lists x1 x2) kt30 (n + 1) x3 (nI i) c K fr rd (zw4 w i) ls ln = _ := FX9_proves_30.eq_2 ..
    rw [if_neg (show ¬ (4 : Int32) ≤ nI i from nI_ge (b := 4) hi (by omega)), nI_1, nI_clamp (show i < 2 ^ 31 by omega)] at hun
    exact hun) 5 0 w (by omega) (by omega) rfl
  subst hs
  exact e
end ZRP
theorem z20r {t q : Nat} (ht : t < 4) (hq : q < 20) : (20 * nI t + nI q).toNatClampNeg = 20 * t + q := by
  rw [show (20 : Int32) = nI 20 from rfl, pk_mul, nI_add, nI_clamp (by omega)]
theorem r_proves {R : zC} {N t q h : Nat} {G T : zTG} {m_needed m_listed : Nat → Int32} {m_lists : Int32} (hN : N ≤ 16) (hru : qru R = nI N) (hT : qtags R G = T) (hz : zRd R N T.1) (ht : t < 4) (hq : q < 20) (hc : T.1 (20 * t + q) = nI h) (hh : h ≤ 80) : FX9_proves (qfa R) (qru R) (qkd R) (qhd R) (qbd R) (qex R) (qsg R) (qof R) (qov R) G.1 G.2.1 G.2.2.1 G.2.2.2 m_needed m_listed m_lists (nI q) (nI t) = if h = 0 then (0, T.1, T.2.1, T.2.2.1, T.2.2.2, m_needed, m_listed, 0) else (1, T.1, zKd T.1 h T.2.1, T.2.2.1, T.2.2.2, zdn R N T.1 h (zwf m_needed t q), (zlis T.1 (zdn R N T.1 h (zwf m_needed t q)) h (m_listed, 0)).1, nI (zlis T.1 (zdn R N T.1 h (zwf m_needed t q)) h (m_listed, 0)).2) := by
  unfold FX9_proves
  have hT : FX9_tags (qfa R) (qru R) (qkd R) (qhd R) (qbd R) (qex R) (qsg R) (qof R) (qov R) G.1 G.2.1 G.2.2.1 G.2.2.2 = T := hT
  rw [bndx, hT]
  rw [z20r ht hq, hc]
  by_cases h0 : h = 0
  · subst h0
    rw [if_pos rfl, if_pos (show nI 0 = (0 : Int32) by decide)]
  · rw [if_neg h0, if_neg (show ¬ nI h = (0 : Int32) from fun e => h0 ((nI_eq (b := 0) (by omega) (by omega)).mp e)), r_p30]
    unfold FX9_proves_50
    rw [nI_clamp (show t < 2 ^ 31 by omega), r_p62 hN rfl hru hz h hh 82 _ _ (by omega)]
    unfold FX9_proves_167
    have k := r_p170 (m_facts := qfa R) (m_rules := qru R) (m_kind := qkd R) (m_head := qhd R) (m_body := qbd R) (m_except := qex R) (m_strength := qsg R) (m_off := qof R) (m_over := qov R) (m_came := G.1) (m_known := G.2.1) (m_fresh := G.2.2.1) (m_rounds := G.2.2.2) (m_needed := m_needed) (m_listed := m_listed) (m_lists := m_lists) (x1 := nI q) (x2 := nI t) (kt170 := FX9_proves_252 (qfa R) (qru R) (qkd R) (qhd R) (qbd R) (qex R) (qsg R) (qof R) (qov R) G.1 G.2.1 G.2.2.1 G.2.2.2 m_needed m_listed m_lists (nI q) (nI t)) (c := T.1) (K := zKd T.1 h T.2.1) (fr := T.2.2.1) (w := zdn R N T.1 h (zwf m_needed t q)) (rd := T.2.2.2) (f := m_listed) hh h 0 82 (by omega) (by omega)
    unfold FX9_proves_252 at k ⊢
    exact k
