/-! the changes: what each does to the class is what it does to the reference -/
def zcgs (ch : Nat → Int32) : Prop := ∀ j : Nat, j < 12 → ¬ ch (5 * j) = 0 → ¬ ch (5 * j) = 1 → vp_in (ch (5 * j + 1)) 16
theorem zcgs_push {D : Nat} {ch ch' : Nat → Int32} {w o wi was is : Int32} (hD : D ≤ 12) (h : zcgs ch) (hc : zchs D ch ch' w o wi was is) (ho : ¬ w = 0 → ¬ w = 1 → ∃ k : Nat, k < 16 ∧ o = nI k) : zcgs ch' := by
  obtain ⟨c1, c2, c3, c4, c5, c6, c7⟩ := hc
  have z1 : zkD D ≤ 12 := by unfold zkD; split <;> omega
  intro j hj
  by_cases a : j < zkD D - 1
  · have e0 := c1 j 0 a (by omega)
    have e1 := c1 j 1 a (by omega)
    rw [e1, show ch' (5 * j) = _ from e0]
    refine h _ ?_
    split <;> omega
  · by_cases b : j = zkD D - 1
    · subst b
      rw [c2, c3]
      intro h0 h1
      obtain ⟨k, hk, rfl⟩ := ho h0 h1
      exact vp_in_nI hk (by decide)
    · have e0 := c7 j 0 (by omega) hj (by omega)
      have e1 := c7 j 1 (by omega) hj (by omega)
      rw [e1, show ch' (5 * j) = _ from e0]
      exact h j hj
section ZCHD
variable {m_done m_undone x1 x2 x3 x4 x5 : Int32} {m_change : Nat → Int32}
theorem r_ch51 {f : Nat → Int32} {u : Int32} {d : Nat} (hd : d ≤ 11) : ∃ g : Nat → Int32, (FX9_changed_51 m_change m_done m_undone x1 x2 x3 x4 x5) f (nI d) u = (g, nI (d + 1), 0) ∧ g (5 * d) = x1 ∧ g (5 * d + 1) = x2 ∧ g (5 * d + 2) = x3 ∧ g (5 * d + 3) = x4 ∧ g (5 * d + 4) = x5 ∧ ∀ p : Nat, (p < 5 * d ∨ 5 * d + 5 ≤ p) → g p = f p := by
  have e0 : (5 * nI d).toNatClampNeg = 5 * d := by rw [show (5 : Int32) = nI 5 from rfl, pk_mul, nI_clamp (by omega)]
  have e : ∀ k : Nat, k < 5 → (5 * nI d + nI k).toNatClampNeg = 5 * d + k := fun k hk => by rw [show (5 : Int32) = nI 5 from rfl, pk_mul, nI_add, nI_clamp (by omega)]
  have e1 : (5 * nI d + 1).toNatClampNeg = 5 * d + 1 := e 1 (by omega)
  have e2 : (5 * nI d + 2).toNatClampNeg = 5 * d + 2 := e 2 (by omega)
  have e3 : (5 * nI d + 3).toNatClampNeg = 5 * d + 3 := e 3 (by omega)
  have e4 : (5 * nI d + 4).toNatClampNeg = 5 * d + 4 := e 4 (by omega)
  unfold FX9_changed_51
  simp only [bnd, e0, e1, e2, e3, e4, nI_1]
  refine ⟨_, rfl, ?_, ?_, ?_, ?_, ?_, fun p hp => ?_⟩
  · rw [pk_un (by omega), pk_un (by omega), pk_un (by omega), pk_un (by omega), pk_us]
  · rw [pk_un (by omega), pk_un (by omega), pk_un (by omega), pk_us]
  · rw [pk_un (by omega), pk_un (by omega), pk_us]
  · rw [pk_un (by omega), pk_us]
  · rw [pk_us]
  · rw [pk_un (by omega), pk_un (by omega), pk_un (by omega), pk_un (by omega), pk_un (by omega)]
theorem r_ch12 {kt12 : (Nat → Int32) → Int32 → Int32 → ((Nat → Int32) × Int32 × Int32)} (f : Nat → Int32) (d u : Int32) : (FX9_changed_12 m_change m_done m_undone x1 x2 x3 x4 x5) kt12 61 5 f d u = kt12 (fun p => if p < 55 then f (p + 5) else f p) d u := by
  obtain ⟨s, hs, e⟩ := zloopI (L := fun n x g => (FX9_changed_12 m_change m_done m_undone x1 x2 x3 x4 x5) kt12 n x g d u) (kt := fun g => kt12 g d u) 60 (I := fun i g => 5 ≤ i ∧ g = fun p => if p + 5 < i then f (p + 5) else f p) (by
    intro n g _
    show (FX9_changed_12 m_change m_done m_undone x1 x2 x3 x4 x5) kt12 (n + 1) (nI 60) g d u = _
    rw [FX9_changed_12, if_pos (show (60 : Int32) ≤ nI 60 from nI_le (Nat.le_refl 60) (by omega))]) (by
    intro n i g hi h
    obtain ⟨h5, h⟩ := h
    subst h
    refine ⟨fun p => if p + 5 < i + 1 then f (p + 5) else f p, ⟨by omega, rfl⟩, ?_⟩
    show (FX9_changed_12 m_change m_done m_undone x1 x2 x3 x4 x5) kt12 (n + 1) (nI i) (fun p => if p + 5 < i then f (p + 5) else f p) d u = (FX9_changed_12 m_change m_done m_undone x1 x2 x3 x4 x5) kt12 n (nI (i + 1)) _ d u
    rw [FX9_changed_12, if_neg (show ¬ (60 : Int32) ≤ nI i from nI_ge (b := 60) hi (by omega))]
    simp only [bnd, nI_1, nI_clamp (show i < 2 ^ 31 by omega)]
    rw [show (nI i - 5).toNatClampNeg = i - 5 from by rw [show (5 : Int32) = nI 5 from rfl, pk_sub (by omega), nI_clamp (by omega)]]
    congr 1
    funext p
    by_cases a : p = i - 5
    · subst a
      rw [pk_us, if_neg (by omega), if_pos (by omega), show i - 5 + 5 = i from by omega]
    · rw [pk_un a]
      by_cases b : p + 5 < i
      · rw [if_pos b, if_pos (by omega)]
      · rw [if_neg b, if_neg (by omega)]) 61 5 f (by omega) (by omega) ⟨Nat.le_refl 5, by funext p; rw [if_neg (by omega)]⟩
  obtain ⟨_, hs⟩ := hs
  subst hs
  have e : (FX9_changed_12 m_change m_done m_undone x1 x2 x3 x4 x5) kt12 61 5 f d u = kt12 (fun p => if p + 5 < 60 then f (p + 5) else f p) d u := e
  rw [e]
  congr 1
  funext p
  by_cases a : p < 55
  · rw [if_pos a, if_pos (by omega)]
  · rw [if_neg a, if_neg (by omega)]
end ZCHD
theorem r_changed {ch : Nat → Int32} {un w o wi was is : Int32} {D : Nat} (hD : D ≤ 12) : ∃ ch' : Nat → Int32, FX9_changed ch (nI D) un w o wi was is = (ch', nI (zkD D), 0) ∧ zchs D ch ch' w o wi was is := by
  unfold FX9_changed
  by_cases c : D = 12
  · subst c
    rw [if_pos (show nI 12 = (12 : Int32) from rfl), r_ch12]
    unfold FX9_changed_41
    rw [show nI 12 - 1 = nI 11 from by decide]
    obtain ⟨g, e, g0, g1, g2, g3, g4, g5⟩ := r_ch51 (m_done := nI 12) (m_undone := un) (m_change := ch) (x1 := w) (x2 := o) (x3 := wi) (x4 := was) (x5 := is) (f := fun p => if p < 55 then ch (p + 5) else ch p) (u := un) (d := 11) (by omega)
    refine ⟨g, e, fun j k hj hk => ?_, g0, g1, g2, g3, g4, fun j k hj hj2 hk => ?_⟩
    · have hj : j < 11 := hj
      rw [g5 _ (by omega)]
      show (if 5 * j + k < 55 then ch (5 * j + k + 5) else _) = ch (5 * (if 12 < 12 then j else j + 1) + k)
      rw [if_pos (by omega), if_neg (by omega)]
      congr 1
      omega
    · have hj : 12 ≤ j := hj
      omega
  · have e12 : ¬ nI D = (12 : Int32) := fun h => c ((nI_eq (by omega) (by omega)).mp (show nI D = nI 12 from h))
    rw [if_neg e12]
    have hz : zkD D = D + 1 := if_pos (by omega)
    obtain ⟨g, e, g0, g1, g2, g3, g4, g5⟩ := r_ch51 (m_done := nI D) (m_undone := un) (m_change := ch) (x1 := w) (x2 := o) (x3 := wi) (x4 := was) (x5 := is) (f := ch) (u := un) (d := D) (by omega)
    refine ⟨g, by rw [e, hz], fun j k hj hk => ?_, ?_, ?_, ?_, ?_, ?_, fun j k hj hj2 hk => ?_⟩
    · rw [hz] at hj
      rw [if_pos (show D < 12 by omega), g5 _ (by omega)]
    · rw [hz, Nat.add_sub_cancel]; exact g0
    · rw [hz, Nat.add_sub_cancel]; exact g1
    · rw [hz, Nat.add_sub_cancel]; exact g2
    · rw [hz, Nat.add_sub_cancel]; exact g3
    · rw [hz, Nat.add_sub_cancel]; exact g4
    · rw [hz] at hj
      rw [g5 _ (by omega)]
/-- the places that no rule has -/
def qout (X Y : zC) : Prop := ∀ r : Nat, 16 ≤ r → qkd Y r = qkd X r ∧ qhd Y r = qhd X r ∧ qbd Y r = qbd X r ∧ qex Y r = qex X r ∧ qsg Y r = qsg X r ∧ qof Y r = qof X r ∧ qov Y r = qov X r
theorem qout_r (X : zC) : qout X X := fun _ _ => ⟨rfl, rfl, rfl, rfl, rfl, rfl, rfl⟩
theorem qout_t {X Y Z : zC} (h : qout X Y) (k : qout Y Z) : qout X Z := fun r hr => by
  obtain ⟨a, b, c, d, e, f, g⟩ := h r hr
  obtain ⟨a', b', c', d', e', f', g'⟩ := k r hr
  exact ⟨a'.trans a, b'.trans b, c'.trans c, d'.trans d, e'.trans e, f'.trans f, g'.trans g⟩
theorem qout_eq {X Y : zC} (h : qout X Y) (e : qeq Y X) : Y = X := by
  obtain ⟨k1, h1, b1, e1, s1, o1, v1, f1, r1⟩ := X
  obtain ⟨k2, h2, b2, e2, s2, o2, v2, f2, r2⟩ := Y
  have hk : k2 = k1 := by funext r; rcases Nat.lt_or_ge r 16 with q | q; exact (e.1 r q).1; exact (h r q).1
  have hh : h2 = h1 := by funext r; rcases Nat.lt_or_ge r 16 with q | q; exact (e.1 r q).2.1; exact (h r q).2.1
  have hb : b2 = b1 := by funext r; rcases Nat.lt_or_ge r 16 with q | q; exact (e.1 r q).2.2.1; exact (h r q).2.2.1
  have he : e2 = e1 := by funext r; rcases Nat.lt_or_ge r 16 with q | q; exact (e.1 r q).2.2.2.1; exact (h r q).2.2.2.1
  have hs : s2 = s1 := by funext r; rcases Nat.lt_or_ge r 16 with q | q; exact (e.1 r q).2.2.2.2.1; exact (h r q).2.2.2.2.1
  have ho : o2 = o1 := by funext r; rcases Nat.lt_or_ge r 16 with q | q; exact (e.1 r q).2.2.2.2.2.1; exact (h r q).2.2.2.2.2.1
  have hv : v2 = v1 := by funext r; rcases Nat.lt_or_ge r 16 with q | q; exact (e.1 r q).2.2.2.2.2.2; exact (h r q).2.2.2.2.2.2
  have hf : f2 = f1 := e.2.1
  have hr : r2 = r1 := e.2.2
  rw [hk, hh, hb, he, hs, ho, hv, hf, hr]
theorem qbec_fa (X : zC) (o wi v : Int32) : qbec X 0 o wi v = (qkd X, qhd X, qbd X, qex X, qsg X, qof X, qov X, (if v = 1 then qfa X ||| (1 <<< (o &&& 31)) else qfa X &&& ((1 <<< (o &&& 31)) ^^^ (-1))), qru X) := by
  unfold qbec FX9_becomes
  simp only [if_true]
  split <;> rfl
theorem qbec_of (X : zC) (o wi v : Int32) : qbec X 2 o wi v = (qkd X, qhd X, qbd X, qex X, qsg X, upd (qof X) o.toNatClampNeg v, qov X, qfa X, qru X) := by
  unfold qbec FX9_becomes
  simp only [if_neg (show ¬ (2 : Int32) = 0 by decide), if_neg (show ¬ (2 : Int32) = 1 by decide), if_true]
theorem qbec_sg (X : zC) (o wi v : Int32) : qbec X 3 o wi v = (qkd X, qhd X, qbd X, qex X, upd (qsg X) o.toNatClampNeg v, qof X, qov X, qfa X, qru X) := by
  unfold qbec FX9_becomes
  simp only [if_neg (show ¬ (3 : Int32) = 0 by decide), if_neg (show ¬ (3 : Int32) = 1 by decide), if_neg (show ¬ (3 : Int32) = 2 by decide), if_true]
theorem qbec_else (X : zC) {w : Int32} (o wi v : Int32) (h0 : ¬ w = 0) (h1 : ¬ w = 1) (h2 : ¬ w = 2) (h3 : ¬ w = 3) : qbec X w o wi v = (qkd X, qhd X, qbd X, qex X, qsg X, qof X, upd (qov X) o.toNatClampNeg (if v = 1 then qov X o.toNatClampNeg ||| (1 <<< (wi &&& 31)) else qov X o.toNatClampNeg &&& ((1 <<< (wi &&& 31)) ^^^ (-1))), qfa X, qru X) := by
  unfold qbec FX9_becomes
  simp only [if_neg h0, if_neg h1, if_neg h2, if_neg h3]
  split <;> rfl
theorem qbec_ov (X : zC) (o wi v : Int32) : qbec X 4 o wi v = (qkd X, qhd X, qbd X, qex X, qsg X, qof X, upd (qov X) o.toNatClampNeg (if v = 1 then qov X o.toNatClampNeg ||| (1 <<< (wi &&& 31)) else qov X o.toNatClampNeg &&& ((1 <<< (wi &&& 31)) ^^^ (-1))), qfa X, qru X) := qbec_else X o wi v (by decide) (by decide) (by decide) (by decide)
theorem qbec_ru (X : zC) (o wi v : Int32) : qbec X 1 o wi v = (qkd X, qhd X, qbd X, qex X, qsg X, qof X, qov X, qfa X, o + v) := by
  unfold qbec FX9_becomes
  simp only [if_neg (show ¬ (1 : Int32) = 0 by decide), if_true]
theorem qbec_out {X : zC} {w o wi v : Int32} (ho : ¬ w = 0 → ¬ w = 1 → ∃ k : Nat, k < 16 ∧ o = nI k) : qout X (qbec X w o wi v) := by
  intro r hr
  by_cases c0 : w = 0
  · subst c0; rw [qbec_fa]; exact ⟨rfl, rfl, rfl, rfl, rfl, rfl, rfl⟩
  by_cases c1 : w = 1
  · subst c1; rw [qbec_ru]; exact ⟨rfl, rfl, rfl, rfl, rfl, rfl, rfl⟩
  obtain ⟨k, hk, rfl⟩ := ho c0 c1
  have e : ∀ (f : Nat → Int32) (v : Int32), upd f (nI k).toNatClampNeg v r = f r := fun f v => by
    rw [nI_clamp (by omega)]
    exact pk_un (by omega)
  by_cases c2 : w = 2
  · subst c2; rw [qbec_of]; exact ⟨rfl, rfl, rfl, rfl, rfl, e _ _, rfl⟩
  by_cases c3 : w = 3
  · subst c3; rw [qbec_sg]; exact ⟨rfl, rfl, rfl, rfl, e _ _, rfl, rfl⟩
  rw [qbec_else X _ _ _ c0 c1 c2 c3]
  exact ⟨rfl, rfl, rfl, rfl, rfl, rfl, e _ _⟩
/-- what a call that may change the rules leaves behind -/
def zCh (isS isS' : Int32) (C' : S0) (sg' : Nat → Nat) (y' : Nat → S0) (D' : Nat) (un' : Int32) (R R' : zC) (ch' : Nat → Int32) (dn' ud' : Int32) : Prop :=
  D' ≤ 12 ∧ dn' = nI D' ∧ (∃ U : Nat, un' = nI U ∧ ud' = nI U ∧ zHis sg' y' D' U ch' R') ∧ zRel C' R' ∧ zcgs ch' ∧ qout R R' ∧ (isS' = 0 ∨ (isS' = isS ∧ R' = R))
theorem zkD_le2 (D : Nat) : zkD D ≤ 12 := by unfold zkD; split <;> omega
theorem q_does {isS un : Int32} {C' : S0} {sg : Nat → Nat} {y : Nat → S0} {D U : Nat} {ch : Nat → Int32} {R : zC} {w o wi was is : Int32} (hD : D ≤ 12) (hH : zHis sg y D U ch R) (hg : zcgs ch) (ho : ¬ w = 0 → ¬ w = 1 → ∃ k : Nat, k < 16 ∧ o = nI k)
    (hs : ∀ X : zC, qeq R X → qstep X (qbec X w o wi is) w o wi was is) (hR : zRel C' (qbec R w o wi is)) : zCh isS 0 C' (zkS sg D) (va_up y (zkS sg D (zkD D)) (zcq (y (zkS sg D (zkD D))) (g0_kind C') (g0_head C') (g0_body C') (g0_excepts C') (g0_power C') (g0_beats C') (g0_facts C') (g0_size C') (g0_shut C'))) (zkD D) 0 R (qbec R w o wi is) (FX9_changed ch (nI D) un w o wi was is).1 (FX9_changed ch (nI D) un w o wi was is).2.1 (FX9_changed ch (nI D) un w o wi was is).2.2 := by
  obtain ⟨ch', e, hc⟩ := r_changed (ch := ch) (un := un) (w := w) (o := o) (wi := wi) (was := was) (is := is) hD
  rw [e]
  refine ⟨zkD_le2 D, rfl, ⟨0, nI_0.symm, nI_0.symm, ?_⟩, hR, zcgs_push hD hg hc ho, qbec_out ho, Or.inl rfl⟩
  refine zHis_push hH hD hc ho hs hR (C := C') ?_ (fun j hj hne => ?_)
  · rw [show va_up y (zkS sg D (zkD D)) _ (zkS sg D (zkD D)) = _ from if_pos rfl]
    exact ceq_cq _ _ _ _ _ _ _ _ _ _ ⟨rfl, rfl, rfl, rfl, rfl, rfl, rfl, rfl, rfl⟩
  · exact if_neg hne
/-- a bit set or taken away -/
theorem zwb {f : Int32} {q j : Nat} {is : Int32} (hq : q < 32) (hj : j < 32) : zb (if is = 1 then f ||| (1 <<< (nI q &&& 31)) else f &&& ((1 <<< (nI q &&& 31)) ^^^ (-1))) j = if j = q then decide (is = 1) else zb f j := by
  by_cases c : is = 1
  · rw [if_pos c, zb_or, zb_one hq, decide_eq_true c]
    by_cases e : j = q
    · rw [if_pos e, decide_eq_true e, Bool.or_true]
    · rw [if_neg e, decide_eq_false e, Bool.or_false]
  · rw [if_neg c, zb_and, zb_not hj, zb_one hq, decide_eq_false c]
    by_cases e : j = q
    · rw [if_pos e, decide_eq_true e]; cases zb f j <;> rfl
    · rw [if_neg e, decide_eq_false e]; cases zb f j <;> rfl
theorem zi_1 {b : Bool} : decide (zi b = 1) = b := by cases b <;> decide
theorem zwb_back {f : Int32} {q : Nat} {is : Int32} (hq : q < 32) : (if zi (zb f q) = 1 then (if is = 1 then f ||| (1 <<< (nI q &&& 31)) else f &&& ((1 <<< (nI q &&& 31)) ^^^ (-1))) ||| (1 <<< (nI q &&& 31)) else (if is = 1 then f ||| (1 <<< (nI q &&& 31)) else f &&& ((1 <<< (nI q &&& 31)) ^^^ (-1))) &&& ((1 <<< (nI q &&& 31)) ^^^ (-1))) = f := zb_ext (fun j hj => by
  rw [zwb hq hj, zwb hq hj, zi_1]
  by_cases e : j = q
  · rw [if_pos e, e]
  · rw [if_neg e, if_neg e])
theorem z_bit2 {x : Int32} {q : Nat} (h : q < 32) : (x >>> (nI q &&& 31)) &&& 1 = zi (zb x q) := z_bit h
theorem zyn_dec {x : Int32} (h : x = 0 ∨ x = 1) : zi (decide (x = 1)) = x := by rcases h with rfl | rfl <;> decide
theorem zupd2 (f : Nat → Int32) (k : Nat) (x : Int32) : upd (upd f k x) k (f k) = f := by
  funext j
  by_cases e : j = k
  · subst e; rw [pk_us]
  · rw [pk_un e, pk_un e]
