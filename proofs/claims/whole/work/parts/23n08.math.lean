/-! lots -/
section ZLOTS
theorem zn12c {x : Int32} (h1 : ¬ x < 1) (h2 : x ≤ 12) : ∃ N : Nat, N ≤ 12 ∧ x = nI N := by
  have h0 : ¬ x < 0 := fun h => h1 (Int32.lt_iff_toInt_lt.mpr (Int.lt_trans (Int32.lt_iff_toInt_lt.mp h) (by decide)))
  obtain ⟨j, hj, rfl⟩ := nI_of h0
  rw [show (12 : Int32) = nI 12 from rfl, nI_leI hj (by decide)] at h2
  exact ⟨j, h2, rfl⟩
/-- a drawn atom's bit -/
def zdr (z : Int32) (a : Nat) : Int32 := if ((z &&& 2147483647) / 65536) - ((z &&& 2147483647) / 65536) / 3 * 3 = 0 then 1 <<< (nI a &&& 31) else if ((z &&& 2147483647) / 65536) - ((z &&& 2147483647) / 65536) / 3 * 3 = 1 then 1 <<< (nI (a + 10) &&& 31) else 0
/-- the seed and the facts behind a atoms -/
def zlo (z : Int32) : Nat → Int32 × Int32
  | 0 => (z, 0)
  | a + 1 => (FX8_nextSeed (zlo z a).1, (zlo z a).2 ||| zdr (FX8_nextSeed (zlo z a).1) a)
/-- the seed and the times behind i courts -/
def zlt' (P : Int32 → Int32 × Int32) (R : zC) (t l : Nat) (z : Int32) : Nat → Int32 × Int32
  | 0 => (z, 0)
  | i + 1 => ((P (zlt' P R t l z i).1).1, if zBv (qkd R, qhd R, qbd R, qex R, qsg R, qof R, qov R, (P (zlt' P R t l z i).1).2, qru R) t l = true then (zlt' P R t l z i).2 + 1 else (zlt' P R t l z i).2)
theorem zLo_one {k : Nat} (h : k < 20) : zLo (1 <<< (nI k &&& 31)) := fun q hq => by rw [zb_one (by omega), decide_eq_false (by omega)]
theorem zdr_lo {z : Int32} {a : Nat} (h : a < 10) : zLo (zdr z a) := by
  unfold zdr
  split
  · exact zLo_one (by omega)
  · split
    · exact zLo_one (by omega)
    · exact fun q _ => zb_0 q
theorem zlo_lo (z : Int32) : ∀ a : Nat, a ≤ 10 → zLo (zlo z a).2
  | 0, _ => fun q _ => zb_0 q
  | a + 1, h => zLo_or (zlo_lo z a (by omega)) (zdr_lo (by omega))
theorem k_draw {z : Int32} {a : Nat} (h : a < 10) : FX8_factByDraw (nI a) (FX8_drawBelowThree z) = zdr z a := by
  unfold FX8_factByDraw FX8_drawBelowThree zdr
  split
  · rfl
  · split
    · simp only [bnd]
      rw [aOth8 (by omega)]
      unfold aOth
      rw [if_pos h]
    · rfl
theorem k_lots65 {bc bd : S0} {E : zRV} {x1 x2 x3 x4 : Int32} {rc48 : (Int32) → (Int32) → (Int32) → (Nat → Int32) → (Nat → Int32) → (Nat → Int32) → (Nat → Int32) → (Nat → Int32) → (Nat → Int32) → (Int32) → (Int32) → (Int32) → (Nat → Int32) → (Int32) → (Nat → Int32) → (Nat → Int32) → (Nat → Int32) → (Nat → Int32) → (Nat → Int32) → (Nat → Int32) → (Int32) → (Int32) → (Int32) → (Int32) → (Int32) → (Int32 × (Nat → Int32) × (Nat → Int32) × (Nat → Int32) × (Nat → Int32) × (Nat → Int32) × (Nat → Int32) × (Int32) × (Int32) × (Int32) × (Nat → Int32) × (Int32) × (Nat → Int32) × (Nat → Int32) × (Nat → Int32) × (Nat → Int32) × (Nat → Int32) × (Nat → Int32) × (Int32) × (Int32) × (Int32) × (Int32) × (Int32))} {kt48 : (Int32) → (Nat → Int32) → (Nat → Int32) → (Nat → Int32) → (Nat → Int32) → (Nat → Int32) → (Nat → Int32) → (Int32) → (Int32) → (Int32) → (Nat → Int32) → (Int32) → (Nat → Int32) → (Nat → Int32) → (Nat → Int32) → (Nat → Int32) → (Nat → Int32) → (Nat → Int32) → (Int32) → (Int32) → (Int32) → (Int32) → (Int32) → (Int32 × (Nat → Int32) × (Nat → Int32) × (Nat → Int32) × (Nat → Int32) × (Nat → Int32) × (Nat → Int32) × (Int32) × (Int32) × (Int32) × (Nat → Int32) × (Int32) × (Nat → Int32) × (Nat → Int32) × (Nat → Int32) × (Nat → Int32) × (Nat → Int32) × (Nat → Int32) × (Int32) × (Int32) × (Int32) × (Int32) × (Int32))} {kt65 : (Int32) → (Int32) → (Int32) → (Nat → Int32) → (Nat → Int32) → (Nat → Int32) → (Nat → Int32) → (Nat → Int32) → (Nat → Int32) → (Int32) → (Int32) → (Int32) → (Nat → Int32) → (Int32) → (Nat → Int32) → (Nat → Int32) → (Nat → Int32) → (Nat → Int32) → (Nat → Int32) → (Nat → Int32) → (Int32) → (Int32) → (Int32) → (Int32) → (Int32) → (Int32 × (Nat → Int32) × (Nat → Int32) × (Nat → Int32) × (Nat → Int32) × (Nat → Int32) × (Nat → Int32) × (Int32) × (Int32) × (Int32) × (Nat → Int32) × (Int32) × (Nat → Int32) × (Nat → Int32) × (Nat → Int32) × (Nat → Int32) × (Nat → Int32) × (Nat → Int32) × (Int32) × (Int32) × (Int32) × (Int32) × (Int32))} (z x6 x7 : Int32) (s : S0) (e : zRV) : FX8_lots_65 (g0_kind bc) (g0_head bc) (g0_body bc) (g0_excepts bc) (g0_power bc) (g0_beats bc) (g0_facts bc) (g0_size bc) (g0_shut bc) (g0_kind bd) (g0_head bd) (g0_body bd) (g0_excepts bd) (g0_power bd) (g0_beats bd) (g0_facts bd) (g0_size bd) (g0_shut bd) E.1 E.2.1 E.2.2.1 E.2.2.2.1 E.2.2.2.2.1 E.2.2.2.2.2.1 E.2.2.2.2.2.2.1 E.2.2.2.2.2.2.2.1 E.2.2.2.2.2.2.2.2.1 E.2.2.2.2.2.2.2.2.2.1 E.2.2.2.2.2.2.2.2.2.2.1 E.2.2.2.2.2.2.2.2.2.2.2.1 E.2.2.2.2.2.2.2.2.2.2.2.2 x1 x2 x3 x4 rc48 kt48 kt65 11 z x6 x7 0 (g0_kind (s0_facts s 0)) (g0_head (s0_facts s 0)) (g0_body (s0_facts s 0)) (g0_excepts (s0_facts s 0)) (g0_power (s0_facts s 0)) (g0_beats (s0_facts s 0)) (g0_facts (s0_facts s 0)) (g0_size (s0_facts s 0)) (g0_shut (s0_facts s 0)) e.1 e.2.1 e.2.2.1 e.2.2.2.1 e.2.2.2.2.1 e.2.2.2.2.2.1 e.2.2.2.2.2.2.1 e.2.2.2.2.2.2.2.1 e.2.2.2.2.2.2.2.2.1 e.2.2.2.2.2.2.2.2.2.1 e.2.2.2.2.2.2.2.2.2.2.1 e.2.2.2.2.2.2.2.2.2.2.2.1 e.2.2.2.2.2.2.2.2.2.2.2.2 = kt65 (zlo z 10).1 x6 x7 (g0_kind (s0_facts s (zlo z 10).2)) (g0_head (s0_facts s (zlo z 10).2)) (g0_body (s0_facts s (zlo z 10).2)) (g0_excepts (s0_facts s (zlo z 10).2)) (g0_power (s0_facts s (zlo z 10).2)) (g0_beats (s0_facts s (zlo z 10).2)) (g0_facts (s0_facts s (zlo z 10).2)) (g0_size (s0_facts s (zlo z 10).2)) (g0_shut (s0_facts s (zlo z 10).2)) e.1 e.2.1 e.2.2.1 e.2.2.2.1 e.2.2.2.2.1 e.2.2.2.2.2.1 e.2.2.2.2.2.2.1 e.2.2.2.2.2.2.2.1 e.2.2.2.2.2.2.2.2.1 e.2.2.2.2.2.2.2.2.2.1 e.2.2.2.2.2.2.2.2.2.2.1 e.2.2.2.2.2.2.2.2.2.2.2.1 e.2.2.2.2.2.2.2.2.2.2.2.2 := by
  obtain ⟨w, hw, ee⟩ := zloopI (L := fun n x (w : Int32 × Int32) => FX8_lots_65 (g0_kind bc) (g0_head bc) (g0_body bc) (g0_excepts bc) (g0_power bc) (g0_beats bc) (g0_facts bc) (g0_size bc) (g0_shut bc) (g0_kind bd) (g0_head bd) (g0_body bd) (g0_excepts bd) (g0_power bd) (g0_beats bd) (g0_facts bd) (g0_size bd) (g0_shut bd) E.1 E.2.1 E.2.2.1 E.2.2.2.1 E.2.2.2.2.1 E.2.2.2.2.2.1 E.2.2.2.2.2.2.1 E.2.2.2.2.2.2.2.1 E.2.2.2.2.2.2.2.2.1 E.2.2.2.2.2.2.2.2.2.1 E.2.2.2.2.2.2.2.2.2.2.1 E.2.2.2.2.2.2.2.2.2.2.2.1 E.2.2.2.2.2.2.2.2.2.2.2.2 x1 x2 x3 x4 rc48 kt48 kt65 n w.1 x6 x7 x (g0_kind (s0_facts s w.2)) (g0_head (s0_facts s w.2)) (g0_body (s0_facts s w.2)) (g0_excepts (s0_facts s w.2)) (g0_power (s0_facts s w.2)) (g0_beats (s0_facts s w.2)) (g0_facts (s0_facts s w.2)) (g0_size (s0_facts s w.2)) (g0_shut (s0_facts s w.2)) e.1 e.2.1 e.2.2.1 e.2.2.2.1 e.2.2.2.2.1 e.2.2.2.2.2.1 e.2.2.2.2.2.2.1 e.2.2.2.2.2.2.2.1 e.2.2.2.2.2.2.2.2.1 e.2.2.2.2.2.2.2.2.2.1 e.2.2.2.2.2.2.2.2.2.2.1 e.2.2.2.2.2.2.2.2.2.2.2.1 e.2.2.2.2.2.2.2.2.2.2.2.2) (kt := fun w => kt65 w.1 x6 x7 (g0_kind (s0_facts s w.2)) (g0_head (s0_facts s w.2)) (g0_body (s0_facts s w.2)) (g0_excepts (s0_facts s w.2)) (g0_power (s0_facts s w.2)) (g0_beats (s0_facts s w.2)) (g0_facts (s0_facts s w.2)) (g0_size (s0_facts s w.2)) (g0_shut (s0_facts s w.2)) e.1 e.2.1 e.2.2.1 e.2.2.2.1 e.2.2.2.2.1 e.2.2.2.2.2.1 e.2.2.2.2.2.2.1 e.2.2.2.2.2.2.2.1 e.2.2.2.2.2.2.2.2.1 e.2.2.2.2.2.2.2.2.2.1 e.2.2.2.2.2.2.2.2.2.2.1 e.2.2.2.2.2.2.2.2.2.2.2.1 e.2.2.2.2.2.2.2.2.2.2.2.2) 10 (I := fun i w => w = zlo z i) (by
    intro n w _
    show FX8_lots_65 (g0_kind bc) (g0_head bc) (g0_body bc) (g0_excepts bc) (g0_power bc) (g0_beats bc) (g0_facts bc) (g0_size bc) (g0_shut bc) (g0_kind bd) (g0_head bd) (g0_body bd) (g0_excepts bd) (g0_power bd) (g0_beats bd) (g0_facts bd) (g0_size bd) (g0_shut bd) E.1 E.2.1 E.2.2.1 E.2.2.2.1 E.2.2.2.2.1 E.2.2.2.2.2.1 E.2.2.2.2.2.2.1 E.2.2.2.2.2.2.2.1 E.2.2.2.2.2.2.2.2.1 E.2.2.2.2.2.2.2.2.2.1 E.2.2.2.2.2.2.2.2.2.2.1 E.2.2.2.2.2.2.2.2.2.2.2.1 E.2.2.2.2.2.2.2.2.2.2.2.2 x1 x2 x3 x4 rc48 kt48 kt65 (n + 1) w.1 x6 x7 (nI 10) (g0_kind (s0_facts s w.2)) (g0_head (s0_facts s w.2)) (g0_body (s0_facts s w.2)) (g0_excepts (s0_facts s w.2)) (g0_power (s0_facts s w.2)) (g0_beats (s0_facts s w.2)) (g0_facts (s0_facts s w.2)) (g0_size (s0_facts s w.2)) (g0_shut (s0_facts s w.2)) e.1 e.2.1 e.2.2.1 e.2.2.2.1 e.2.2.2.2.1 e.2.2.2.2.2.1 e.2.2.2.2.2.2.1 e.2.2.2.2.2.2.2.1 e.2.2.2.2.2.2.2.2.1 e.2.2.2.2.2.2.2.2.2.1 e.2.2.2.2.2.2.2.2.2.2.1 e.2.2.2.2.2.2.2.2.2.2.2.1 e.2.2.2.2.2.2.2.2.2.2.2.2 = _
    rw [FX8_lots_65, if_pos (show (10 : Int32) ≤ nI 10 from nI_le (Nat.le_refl 10) (by omega))]) (by
    intro n i w hi h
    subst h
    refine ⟨(FX8_nextSeed (zlo z i).1, (zlo z i).2 ||| zdr (FX8_nextSeed (zlo z i).1) i), rfl, ?_⟩
    have hun : FX8_lots_65 (g0_kind bc) (g0_head bc) (g0_body bc) (g0_excepts bc) (g0_power bc) (g0_beats bc) (g0_facts bc) (g0_size bc) (g0_shut bc) (g0_kind bd) (g0_head bd) (g0_body bd) (g0_excepts bd) (g0_power bd) (g0_beats bd) (g0_facts bd) (g0_size bd) (g0_shut bd) E.1 E.2.1 E.2.2.1 E.2.2.2.1 E.2.2.2.2.1 E.2.2.2.2.2.1 E.2.2.2.2.2.2.1 E.2.2.2.2.2.2.2.1 E.2.2.2.2.2.2.2.2.1 E.2.2.2.2.2.2.2.2.2.1 E.2.2.2.2.2.2.2.2.2.2.1 E.2.2.2.2.2.2.2.2.2.2.2.1 E.2.2.2.2.2.2.2.2.2.2.2.2 x1 x2 x3 x4 rc48 kt48 kt65 (n + 1) (zlo z i).1 x6 x7 (nI i) (g0_kind (s0_facts s (zlo z i).2)) (g0_head (s0_facts s (zlo z i).2)) (g0_body (s0_facts s (zlo z i).2)) (g0_excepts (s0_facts s (zlo z i).2)) (g0_power (s0_facts s (zlo z i).2)) (g0_beats (s0_facts s (zlo z i).2)) (g0_facts (s0_facts s (zlo z i).2)) (g0_size (s0_facts s (zlo z i).2)) (g0_shut (s0_facts s (zlo z i).2)) e.1 e.2.1 e.2.2.1 e.2.2.2.1 e.2.2.2.2.1 e.2.2.2.2.2.1 e.2.2.2.2.2.2.1 e.2.2.2.2.2.2.2.1 e.2.2.2.2.2.2.2.2.1 e.2.2.2.2.2.2.2.2.2.1 e.2.2.2.2.2.2.2.2.2.2.1 e.2.2.2.2.2.2.2.2.2.2.2.1 e.2.2.2.2.2.2.2.2.2.2.2.2 = _ := FX8_lots_65.eq_2 ..
    rw [if_neg (show ¬ (10 : Int32) ≤ nI i from nI_ge (b := 10) hi (by omega))] at hun
    simp only [bnd, nI_1] at hun
    rw [k_draw hi] at hun
    exact hun) 11 0 (z, 0) (by omega) (by omega) rfl
  subst hw
  exact ee
theorem r_lots56 {R : zC} {G : zTG} {x1 x2 x3 x4 : Int32} {rc42 : (Int32) → (Int32) → (Int32) → (Int32) → (Int32) → (Nat → Int32) → (Nat → Int32) → (Nat → Int32) → (Int32) → (Int32 × (Int32) × (Nat → Int32) × (Nat → Int32) × (Nat → Int32) × (Int32))} {kt42 : (Int32) → (Int32) → (Int32) → (Nat → Int32) → (Nat → Int32) → (Nat → Int32) → (Int32) → (Int32 × (Int32) × (Nat → Int32) × (Nat → Int32) × (Nat → Int32) × (Int32))} {kt56 : (Int32) → (Int32) → (Int32) → (Int32) → (Int32) → (Nat → Int32) → (Nat → Int32) → (Nat → Int32) → (Int32) → (Int32 × (Int32) × (Nat → Int32) × (Nat → Int32) × (Nat → Int32) × (Int32))} (x5 z x7 x8 : Int32) (g : zTG) : FX9_lots_56 (qfa R) (qru R) (qkd R) (qhd R) (qbd R) (qex R) (qsg R) (qof R) (qov R) G.1 G.2.1 G.2.2.1 G.2.2.2 x1 x2 x3 x4 rc42 kt42 kt56 11 x5 z x7 x8 0 0 g.1 g.2.1 g.2.2.1 g.2.2.2 = kt56 x5 (zlo z 10).1 x7 x8 (zlo z 10).2 g.1 g.2.1 g.2.2.1 g.2.2.2 := by
  obtain ⟨w, hw, ee⟩ := zloopI (L := fun n x (w : Int32 × Int32) => FX9_lots_56 (qfa R) (qru R) (qkd R) (qhd R) (qbd R) (qex R) (qsg R) (qof R) (qov R) G.1 G.2.1 G.2.2.1 G.2.2.2 x1 x2 x3 x4 rc42 kt42 kt56 n x5 w.1 x7 x8 x w.2 g.1 g.2.1 g.2.2.1 g.2.2.2) (kt := fun w => kt56 x5 w.1 x7 x8 w.2 g.1 g.2.1 g.2.2.1 g.2.2.2) 10 (I := fun i w => w = zlo z i) (by
    intro n w _
    show FX9_lots_56 (qfa R) (qru R) (qkd R) (qhd R) (qbd R) (qex R) (qsg R) (qof R) (qov R) G.1 G.2.1 G.2.2.1 G.2.2.2 x1 x2 x3 x4 rc42 kt42 kt56 (n + 1) x5 w.1 x7 x8 (nI 10) w.2 g.1 g.2.1 g.2.2.1 g.2.2.2 = _
    rw [FX9_lots_56, if_pos (show (10 : Int32) ≤ nI 10 from nI_le (Nat.le_refl 10) (by omega))]) (by
    intro n i w hi h
    subst h
    refine ⟨(FX8_nextSeed (zlo z i).1, (zlo z i).2 ||| zdr (FX8_nextSeed (zlo z i).1) i), rfl, ?_⟩
    have en : ∀ x : Int32, x * 1103515245 + 12345 = FX8_nextSeed x := fun x => rfl
    have hun : FX9_lots_56 (qfa R) (qru R) (qkd R) (qhd R) (qbd R) (qex R) (qsg R) (qof R) (qov R) G.1 G.2.1 G.2.2.1 G.2.2.2 x1 x2 x3 x4 rc42 kt42 kt56 (n + 1) x5 (zlo z i).1 x7 x8 (nI i) (zlo z i).2 g.1 g.2.1 g.2.2.1 g.2.2.2 = _ := FX9_lots_56.eq_2 ..
    rw [if_neg (show ¬ (10 : Int32) ≤ nI i from nI_ge (b := 10) hi (by omega))] at hun
    simp only [nI_1, en] at hun
    refine hun.trans ?_
    show _ = FX9_lots_56 (qfa R) (qru R) (qkd R) (qhd R) (qbd R) (qex R) (qsg R) (qof R) (qov R) G.1 G.2.1 G.2.2.1 G.2.2.2 x1 x2 x3 x4 rc42 kt42 kt56 n x5 (FX8_nextSeed (zlo z i).1) x7 x8 (nI (i + 1)) ((zlo z i).2 ||| zdr (FX8_nextSeed (zlo z i).1) i) g.1 g.2.1 g.2.2.1 g.2.2.2
    unfold zdr
    split
    · rfl
    · split
      · rw [show nI i + 10 = nI (i + 10) from nI_add i 10]
      · rfl) 11 0 (z, 0) (by omega) (by omega) rfl
  subst hw
  exact ee
theorem k_lots {P : Int32 → Int32 × Int32} (hP : ∀ z, P z = zlo z 10) {bc bd : S0} {R : zC} {E : zRV} {z : Int32} {t l K : Nat} (ht : t < 4) (hl : l < 20) (hK : K ≤ 12) (hR : zRel bc R) (s0 : S0 × zRV) (hs0 : ceqF s0.1 bc) : ∃ D : S0 × zRV, FX8_lots_48 (g0_kind bc) (g0_head bc) (g0_body bc) (g0_excepts bc) (g0_power bc) (g0_beats bc) (g0_facts bc) (g0_size bc) (g0_shut bc) (g0_kind bd) (g0_head bd) (g0_body bd) (g0_excepts bd) (g0_power bd) (g0_beats bd) (g0_facts bd) (g0_size bd) (g0_shut bd) E.1 E.2.1 E.2.2.1 E.2.2.2.1 E.2.2.2.2.1 E.2.2.2.2.2.1 E.2.2.2.2.2.2.1 E.2.2.2.2.2.2.2.1 E.2.2.2.2.2.2.2.2.1 E.2.2.2.2.2.2.2.2.2.1 E.2.2.2.2.2.2.2.2.2.2.1 E.2.2.2.2.2.2.2.2.2.2.2.1 E.2.2.2.2.2.2.2.2.2.2.2.2 (nI l) (nI t) (nI K) z (FX8_lots_125 (g0_kind bc) (g0_head bc) (g0_body bc) (g0_excepts bc) (g0_power bc) (g0_beats bc) (g0_facts bc) (g0_size bc) (g0_shut bc) (g0_kind bd) (g0_head bd) (g0_body bd) (g0_excepts bd) (g0_power bd) (g0_beats bd) (g0_facts bd) (g0_size bd) (g0_shut bd) E.1 E.2.1 E.2.2.1 E.2.2.2.1 E.2.2.2.2.1 E.2.2.2.2.2.1 E.2.2.2.2.2.2.1 E.2.2.2.2.2.2.2.1 E.2.2.2.2.2.2.2.2.1 E.2.2.2.2.2.2.2.2.2.1 E.2.2.2.2.2.2.2.2.2.2.1 E.2.2.2.2.2.2.2.2.2.2.2.1 E.2.2.2.2.2.2.2.2.2.2.2.2 (nI l) (nI t) (nI K) z) 13 z 0 0 (g0_kind s0.1) (g0_head s0.1) (g0_body s0.1) (g0_excepts s0.1) (g0_power s0.1) (g0_beats s0.1) (g0_facts s0.1) (g0_size s0.1) (g0_shut s0.1) s0.2.1 s0.2.2.1 s0.2.2.2.1 s0.2.2.2.2.1 s0.2.2.2.2.2.1 s0.2.2.2.2.2.2.1 s0.2.2.2.2.2.2.2.1 s0.2.2.2.2.2.2.2.2.1 s0.2.2.2.2.2.2.2.2.2.1 s0.2.2.2.2.2.2.2.2.2.2.1 s0.2.2.2.2.2.2.2.2.2.2.2.1 s0.2.2.2.2.2.2.2.2.2.2.2.2.1 s0.2.2.2.2.2.2.2.2.2.2.2.2.2 = ((zlt' P R t l z K).2, g0_kind D.1, g0_head D.1, g0_body D.1, g0_excepts D.1, g0_power D.1, g0_beats D.1, g0_facts D.1, g0_size D.1, g0_shut D.1, D.2) := by
  have hlo : ∀ z, zLo (P z).2 := fun z => by rw [hP]; exact zlo_lo z 10 (Nat.le_refl 10)
  obtain ⟨w, ⟨hw, -⟩, ee⟩ := zloopI (L := fun n x (w : (Int32 × Int32) × S0 × zRV) => FX8_lots_48 (g0_kind bc) (g0_head bc) (g0_body bc) (g0_excepts bc) (g0_power bc) (g0_beats bc) (g0_facts bc) (g0_size bc) (g0_shut bc) (g0_kind bd) (g0_head bd) (g0_body bd) (g0_excepts bd) (g0_power bd) (g0_beats bd) (g0_facts bd) (g0_size bd) (g0_shut bd) E.1 E.2.1 E.2.2.1 E.2.2.2.1 E.2.2.2.2.1 E.2.2.2.2.2.1 E.2.2.2.2.2.2.1 E.2.2.2.2.2.2.2.1 E.2.2.2.2.2.2.2.2.1 E.2.2.2.2.2.2.2.2.2.1 E.2.2.2.2.2.2.2.2.2.2.1 E.2.2.2.2.2.2.2.2.2.2.2.1 E.2.2.2.2.2.2.2.2.2.2.2.2 (nI l) (nI t) (nI K) z (FX8_lots_125 (g0_kind bc) (g0_head bc) (g0_body bc) (g0_excepts bc) (g0_power bc) (g0_beats bc) (g0_facts bc) (g0_size bc) (g0_shut bc) (g0_kind bd) (g0_head bd) (g0_body bd) (g0_excepts bd) (g0_power bd) (g0_beats bd) (g0_facts bd) (g0_size bd) (g0_shut bd) E.1 E.2.1 E.2.2.1 E.2.2.2.1 E.2.2.2.2.1 E.2.2.2.2.2.1 E.2.2.2.2.2.2.1 E.2.2.2.2.2.2.2.1 E.2.2.2.2.2.2.2.2.1 E.2.2.2.2.2.2.2.2.2.1 E.2.2.2.2.2.2.2.2.2.2.1 E.2.2.2.2.2.2.2.2.2.2.2.1 E.2.2.2.2.2.2.2.2.2.2.2.2 (nI l) (nI t) (nI K) z) n w.1.1 w.1.2 x (g0_kind w.2.1) (g0_head w.2.1) (g0_body w.2.1) (g0_excepts w.2.1) (g0_power w.2.1) (g0_beats w.2.1) (g0_facts w.2.1) (g0_size w.2.1) (g0_shut w.2.1) w.2.2.1 w.2.2.2.1 w.2.2.2.2.1 w.2.2.2.2.2.1 w.2.2.2.2.2.2.1 w.2.2.2.2.2.2.2.1 w.2.2.2.2.2.2.2.2.1 w.2.2.2.2.2.2.2.2.2.1 w.2.2.2.2.2.2.2.2.2.2.1 w.2.2.2.2.2.2.2.2.2.2.2.1 w.2.2.2.2.2.2.2.2.2.2.2.2.1 w.2.2.2.2.2.2.2.2.2.2.2.2.2.1 w.2.2.2.2.2.2.2.2.2.2.2.2.2.2) (kt := fun w => (w.1.2, g0_kind w.2.1, g0_head w.2.1, g0_body w.2.1, g0_excepts w.2.1, g0_power w.2.1, g0_beats w.2.1, g0_facts w.2.1, g0_size w.2.1, g0_shut w.2.1, w.2.2)) K (I := fun i w => w.1 = zlt' P R t l z i ∧ ceqF w.2.1 bc) (by
    intro n w _
    show FX8_lots_48 (g0_kind bc) (g0_head bc) (g0_body bc) (g0_excepts bc) (g0_power bc) (g0_beats bc) (g0_facts bc) (g0_size bc) (g0_shut bc) (g0_kind bd) (g0_head bd) (g0_body bd) (g0_excepts bd) (g0_power bd) (g0_beats bd) (g0_facts bd) (g0_size bd) (g0_shut bd) E.1 E.2.1 E.2.2.1 E.2.2.2.1 E.2.2.2.2.1 E.2.2.2.2.2.1 E.2.2.2.2.2.2.1 E.2.2.2.2.2.2.2.1 E.2.2.2.2.2.2.2.2.1 E.2.2.2.2.2.2.2.2.2.1 E.2.2.2.2.2.2.2.2.2.2.1 E.2.2.2.2.2.2.2.2.2.2.2.1 E.2.2.2.2.2.2.2.2.2.2.2.2 (nI l) (nI t) (nI K) z _ (n + 1) w.1.1 w.1.2 (nI K) (g0_kind w.2.1) (g0_head w.2.1) (g0_body w.2.1) (g0_excepts w.2.1) (g0_power w.2.1) (g0_beats w.2.1) (g0_facts w.2.1) (g0_size w.2.1) (g0_shut w.2.1) w.2.2.1 w.2.2.2.1 w.2.2.2.2.1 w.2.2.2.2.2.1 w.2.2.2.2.2.2.1 w.2.2.2.2.2.2.2.1 w.2.2.2.2.2.2.2.2.1 w.2.2.2.2.2.2.2.2.2.1 w.2.2.2.2.2.2.2.2.2.2.1 w.2.2.2.2.2.2.2.2.2.2.2.1 w.2.2.2.2.2.2.2.2.2.2.2.2.1 w.2.2.2.2.2.2.2.2.2.2.2.2.2.1 w.2.2.2.2.2.2.2.2.2.2.2.2.2.2 = _
    rw [FX8_lots_48, if_pos (nI_le (Nat.le_refl K) (by omega))]
    rfl) (by
    intro n i w hi h
    obtain ⟨⟨a, b⟩, s, e⟩ := w
    obtain ⟨h, hs⟩ := h
    have ha : a = (zlt' P R t l z i).1 := congrArg Prod.fst h
    have hb : b = (zlt' P R t l z i).2 := congrArg Prod.snd h
    have hun : FX8_lots_48 (g0_kind bc) (g0_head bc) (g0_body bc) (g0_excepts bc) (g0_power bc) (g0_beats bc) (g0_facts bc) (g0_size bc) (g0_shut bc) (g0_kind bd) (g0_head bd) (g0_body bd) (g0_excepts bd) (g0_power bd) (g0_beats bd) (g0_facts bd) (g0_size bd) (g0_shut bd) E.1 E.2.1 E.2.2.1 E.2.2.2.1 E.2.2.2.2.1 E.2.2.2.2.2.1 E.2.2.2.2.2.2.1 E.2.2.2.2.2.2.2.1 E.2.2.2.2.2.2.2.2.1 E.2.2.2.2.2.2.2.2.2.1 E.2.2.2.2.2.2.2.2.2.2.1 E.2.2.2.2.2.2.2.2.2.2.2.1 E.2.2.2.2.2.2.2.2.2.2.2.2 (nI l) (nI t) (nI K) z (FX8_lots_125 (g0_kind bc) (g0_head bc) (g0_body bc) (g0_excepts bc) (g0_power bc) (g0_beats bc) (g0_facts bc) (g0_size bc) (g0_shut bc) (g0_kind bd) (g0_head bd) (g0_body bd) (g0_excepts bd) (g0_power bd) (g0_beats bd) (g0_facts bd) (g0_size bd) (g0_shut bd) E.1 E.2.1 E.2.2.1 E.2.2.2.1 E.2.2.2.2.1 E.2.2.2.2.2.1 E.2.2.2.2.2.2.1 E.2.2.2.2.2.2.2.1 E.2.2.2.2.2.2.2.2.1 E.2.2.2.2.2.2.2.2.2.1 E.2.2.2.2.2.2.2.2.2.2.1 E.2.2.2.2.2.2.2.2.2.2.2.1 E.2.2.2.2.2.2.2.2.2.2.2.2 (nI l) (nI t) (nI K) z) (n + 1) a b (nI i) (g0_kind s) (g0_head s) (g0_body s) (g0_excepts s) (g0_power s) (g0_beats s) (g0_facts s) (g0_size s) (g0_shut s) e.1 e.2.1 e.2.2.1 e.2.2.2.1 e.2.2.2.2.1 e.2.2.2.2.2.1 e.2.2.2.2.2.2.1 e.2.2.2.2.2.2.2.1 e.2.2.2.2.2.2.2.2.1 e.2.2.2.2.2.2.2.2.2.1 e.2.2.2.2.2.2.2.2.2.2.1 e.2.2.2.2.2.2.2.2.2.2.2.1 e.2.2.2.2.2.2.2.2.2.2.2.2 = _ := FX8_lots_48.eq_2 ..
    rw [if_neg (show ¬ nI K ≤ nI i from nI_ge hi (by omega))] at hun
    have hun := hun.trans (k_lots65 (bc := bc) (bd := bd) (E := E) (x1 := nI l) (x2 := nI t) (x3 := nI K) (x4 := z) a b (nI i) s e)
    rw [← hP] at hun
    unfold FX8_lots_107 at hun
    simp only [bnd, nI_1] at hun
    have hC := zRel_ceqF hs hR (hlo a)
    have hB := q_thought hC e ht hl
    rw [hB] at hun
    refine ⟨(((P a).1, if zBv (qkd R, qhd R, qbd R, qex R, qsg R, qof R, qov R, (P a).2, qru R) t l = true then b + 1 else b), s0_facts s (P a).2, (FX8_comesInThought (g0_kind (s0_facts s (P a).2)) (g0_head (s0_facts s (P a).2)) (g0_body (s0_facts s (P a).2)) (g0_excepts (s0_facts s (P a).2)) (g0_power (s0_facts s (P a).2)) (g0_beats (s0_facts s (P a).2)) (g0_facts (s0_facts s (P a).2)) (g0_size (s0_facts s (P a).2)) (g0_shut (s0_facts s (P a).2)) e.1 e.2.1 e.2.2.1 e.2.2.2.1 e.2.2.2.2.1 e.2.2.2.2.2.1 e.2.2.2.2.2.2.1 e.2.2.2.2.2.2.2.1 e.2.2.2.2.2.2.2.2.1 e.2.2.2.2.2.2.2.2.2.1 e.2.2.2.2.2.2.2.2.2.2.1 e.2.2.2.2.2.2.2.2.2.2.2.1 e.2.2.2.2.2.2.2.2.2.2.2.2 (nI t) (nI l)).2), ⟨?_, hs⟩, ?_⟩
    · rw [ha, hb]; rfl
    · refine hun.trans ?_
      cases zBv (qkd R, qhd R, qbd R, qex R, qsg R, qof R, qov R, (P a).2, qru R) t l
      · rw [if_pos zi_f, if_neg (by decide)]
      · rw [if_neg (show ¬ zi true = 0 by decide), if_pos rfl]) 13 0 ((z, 0), s0) (by omega) (by omega) ⟨rfl, hs0⟩
  refine ⟨w.2, ee.trans ?_⟩
  rw [hw]
theorem r_lots {P : Int32 → Int32 × Int32} (hP : ∀ z, P z = zlo z 10) {bc : S0} {R : zC} {G : zTG} {z : Int32} {t l K : Nat} (ht : t < 4) (hl : l < 20) (hK : K ≤ 12) (hR : zRel bc R) (f0 : Int32) (g0 : zTG) : ∃ D : zTG, FX9_lots_42 (qfa R) (qru R) (qkd R) (qhd R) (qbd R) (qex R) (qsg R) (qof R) (qov R) G.1 G.2.1 G.2.2.1 G.2.2.2 (nI l) (nI t) (nI K) z (FX9_lots_158 (qfa R) (qru R) (qkd R) (qhd R) (qbd R) (qex R) (qsg R) (qof R) (qov R) G.1 G.2.1 G.2.2.1 G.2.2.2 (nI l) (nI t) (nI K) z) 13 (qfa R) z 0 0 f0 g0.1 g0.2.1 g0.2.2.1 g0.2.2.2 = ((zlt' P R t l z K).2, qfa R, D) := by
  have hlo : ∀ z, zLo (P z).2 := fun z => by rw [hP]; exact zlo_lo z 10 (Nat.le_refl 10)
  obtain ⟨w, hw, ee⟩ := zloopI (L := fun n x (w : (Int32 × Int32) × Int32 × zTG) => FX9_lots_42 (qfa R) (qru R) (qkd R) (qhd R) (qbd R) (qex R) (qsg R) (qof R) (qov R) G.1 G.2.1 G.2.2.1 G.2.2.2 (nI l) (nI t) (nI K) z (FX9_lots_158 (qfa R) (qru R) (qkd R) (qhd R) (qbd R) (qex R) (qsg R) (qof R) (qov R) G.1 G.2.1 G.2.2.1 G.2.2.2 (nI l) (nI t) (nI K) z) n (qfa R) w.1.1 w.1.2 x w.2.1 w.2.2.1 w.2.2.2.1 w.2.2.2.2.1 w.2.2.2.2.2) (kt := fun w => (w.1.2, qfa R, w.2.2)) K (I := fun i w => w.1 = zlt' P R t l z i) (by
    intro n w _
    show FX9_lots_42 (qfa R) (qru R) (qkd R) (qhd R) (qbd R) (qex R) (qsg R) (qof R) (qov R) G.1 G.2.1 G.2.2.1 G.2.2.2 (nI l) (nI t) (nI K) z _ (n + 1) (qfa R) w.1.1 w.1.2 (nI K) w.2.1 w.2.2.1 w.2.2.2.1 w.2.2.2.2.1 w.2.2.2.2.2 = _
    rw [FX9_lots_42, if_pos (nI_le (Nat.le_refl K) (by omega))]
    rfl) (by
    intro n i w hi h
    obtain ⟨⟨a, b⟩, f, g⟩ := w
    have ha : a = (zlt' P R t l z i).1 := congrArg Prod.fst h
    have hb : b = (zlt' P R t l z i).2 := congrArg Prod.snd h
    have hun : FX9_lots_42 (qfa R) (qru R) (qkd R) (qhd R) (qbd R) (qex R) (qsg R) (qof R) (qov R) G.1 G.2.1 G.2.2.1 G.2.2.2 (nI l) (nI t) (nI K) z (FX9_lots_158 (qfa R) (qru R) (qkd R) (qhd R) (qbd R) (qex R) (qsg R) (qof R) (qov R) G.1 G.2.1 G.2.2.1 G.2.2.2 (nI l) (nI t) (nI K) z) (n + 1) (qfa R) a b (nI i) f g.1 g.2.1 g.2.2.1 g.2.2.2 = _ := FX9_lots_42.eq_2 ..
    rw [if_neg (show ¬ nI K ≤ nI i from nI_ge hi (by omega))] at hun
    have hun := hun.trans (r_lots56 (R := R) (G := G) (x1 := nI l) (x2 := nI t) (x3 := nI K) (x4 := z) (qfa R) a b (nI i) g)
    rw [← hP] at hun
    unfold FX9_lots_133 at hun
    simp only [bnd, nI_1] at hun
    have hC := zRel_fa hR (hlo a)
    have hB := q_comes hC g ht hl
    have hB : (FX9_comes (P a).2 (qru R) (qkd R) (qhd R) (qbd R) (qex R) (qsg R) (qof R) (qov R) g.1 g.2.1 g.2.2.1 g.2.2.2 (nI l) (nI t)).1 = _ := hB
    rw [hB] at hun
    refine ⟨(((P a).1, if zBv (qkd R, qhd R, qbd R, qex R, qsg R, qof R, qov R, (P a).2, qru R) t l = true then b + 1 else b), (P a).2, (FX9_comes (P a).2 (qru R) (qkd R) (qhd R) (qbd R) (qex R) (qsg R) (qof R) (qov R) g.1 g.2.1 g.2.2.1 g.2.2.2 (nI l) (nI t)).2), ?_, ?_⟩
    · show (_, _) = _
      rw [ha, hb]; rfl
    · refine hun.trans ?_
      cases zBv (qkd R, qhd R, qbd R, qex R, qsg R, qof R, qov R, (P a).2, qru R) t l
      · rw [if_pos zi_f, if_neg (by decide), Int32.add_zero]
      · rw [if_neg (show ¬ zi true = 0 by decide), if_pos rfl]) 13 0 ((z, 0), f0, g0) (by omega) (by omega) rfl
  refine ⟨w.2.2, ee.trans ?_⟩
  rw [hw]
theorem e_lots {bc bd : S0} {R : zC} {E : zRV} {G : zTG} {x1 x2 x3 x4 : Int32} (hR : zRel bc R) {T : (Int32 × (Nat → Int32) × (Nat → Int32) × (Nat → Int32) × (Nat → Int32) × (Nat → Int32) × (Nat → Int32) × (Int32) × (Int32) × (Int32) × (Nat → Int32) × (Int32) × (Nat → Int32) × (Nat → Int32) × (Nat → Int32) × (Nat → Int32) × (Nat → Int32) × (Nat → Int32) × (Int32) × (Int32) × (Int32) × (Int32) × (Int32))} {V : (Int32 × (Int32) × (Nat → Int32) × (Nat → Int32) × (Nat → Int32) × (Int32))} (hT : FX8_lots (g0_kind bc) (g0_head bc) (g0_body bc) (g0_excepts bc) (g0_power bc) (g0_beats bc) (g0_facts bc) (g0_size bc) (g0_shut bc) (g0_kind bd) (g0_head bd) (g0_body bd) (g0_excepts bd) (g0_power bd) (g0_beats bd) (g0_facts bd) (g0_size bd) (g0_shut bd) E.1 E.2.1 E.2.2.1 E.2.2.2.1 E.2.2.2.2.1 E.2.2.2.2.2.1 E.2.2.2.2.2.2.1 E.2.2.2.2.2.2.2.1 E.2.2.2.2.2.2.2.2.1 E.2.2.2.2.2.2.2.2.2.1 E.2.2.2.2.2.2.2.2.2.2.1 E.2.2.2.2.2.2.2.2.2.2.2.1 E.2.2.2.2.2.2.2.2.2.2.2.2 x1 x2 x3 x4 = T) (hV : FX9_lots (qfa R) (qru R) (qkd R) (qhd R) (qbd R) (qex R) (qsg R) (qof R) (qov R) G.1 G.2.1 G.2.2.1 G.2.2.2 x1 x2 x3 x4 = V) : T.1 = V.1 ∧ V.2.1 = qfa R := by
  have ein : FX9_in x3 1 12 = if x3 < 1 then 0 else if 12 < x3 then 0 else 1 := rfl
  unfold FX8_lots at hT
  unfold FX9_lots at hV
  simp only [bnd, e_lit, e_tag9, ein] at hT hV
  by_cases c1 : FX8_isLiteral x1 = 0
  · rw [if_pos c1] at hT hV; subst hT hV; exact ⟨rfl, rfl⟩
  rw [if_neg c1] at hT hV
  by_cases c2 : FX8_isTag x2 = 0
  · rw [if_pos c2] at hT hV; subst hT hV; exact ⟨rfl, rfl⟩
  rw [if_neg c2] at hT hV
  by_cases c3 : x3 < 1
  · rw [if_pos c3] at hT
    rw [if_pos c3, if_pos rfl] at hV
    subst hT hV; exact ⟨rfl, rfl⟩
  rw [if_neg c3] at hT hV
  by_cases c4 : x3 ≤ 12
  · rw [if_pos c4] at hT
    rw [if_neg (show ¬ (12 : Int32) < x3 from Int32.not_lt.mpr c4), if_neg (show ¬ (1 : Int32) = 0 by decide)] at hV
    obtain ⟨l, hl, rfl⟩ := is_lit c1
    obtain ⟨t, ht, rfl⟩ := is_tag c2
    obtain ⟨K, hK, rfl⟩ := zn12c c3 c4
    obtain ⟨P, hP⟩ : ∃ P : Int32 → Int32 × Int32, ∀ z, P z = zlo z 10 := ⟨_, fun _ => rfl⟩
    obtain ⟨D, eT⟩ := k_lots hP (bd := bd) (E := E) (z := x4) ht hl hK hR (zmk (FX0_copyFrom (g0_kind bd) (g0_head bd) (g0_body bd) (g0_excepts bd) (g0_power bd) (g0_beats bd) (g0_facts bd) (g0_size bd) (g0_shut bd) (g0_kind bc) (g0_head bc) (g0_body bc) (g0_excepts bc) (g0_power bc) (g0_beats bc) (g0_facts bc) (g0_size bc) (g0_shut bc)), E) ⟨(ceq_mk bd bc).1, (ceq_mk bd bc).2.2.1, (ceq_mk bd bc).2.2.2⟩
    obtain ⟨D', eV⟩ := r_lots hP (G := G) (z := x4) ht hl hK hR (qfa R) G
    have eT := hT.symm.trans eT
    have eV := hV.symm.trans eV
    rw [eT, eV]
    exact ⟨rfl, rfl⟩
  · rw [if_neg c4] at hT
    rw [if_pos (show (12 : Int32) < x3 from Int32.not_le.mp c4), if_pos rfl] at hV
    subst hT hV; exact ⟨rfl, rfl⟩
end ZLOTS
