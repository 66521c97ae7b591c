/-! the law's look at one round -/
/-- how many tags below a place came in a round -/
def zct (c : Nat → Int32) (ρ n : Nat) : Nat := (List.range n).countP (fun j => decide (c j = nI ρ))
theorem zct_s (c : Nat → Int32) (ρ n : Nat) : zct c ρ (n + 1) = zct c ρ n + (if c n = nI ρ then 1 else 0) := by
  unfold zct
  rw [List.range_succ, List.countP_append, List.countP_singleton]
  by_cases h : c n = nI ρ
  · rw [if_pos h, if_pos (decide_eq_true h)]
  · rw [if_neg h, if_neg (by rw [decide_eq_false h]; exact Bool.false_ne_true)]
theorem zct_le (c : Nat → Int32) (ρ n : Nat) : zct c ρ n ≤ n := by
  have := List.countP_le_length (p := fun j => decide (c j = nI ρ)) (l := List.range n)
  rw [List.length_range] at this
  exact this
theorem zct_0 {c : Nat → Int32} {ρ n : Nat} (h : ∀ j, j < n → ¬ c j = nI ρ) : zct c ρ n = 0 := by
  unfold zct
  rw [List.countP_eq_zero]
  intro j hj
  rw [decide_eq_false (h j (List.mem_range.mp hj))]
  exact Bool.false_ne_true
theorem zct_pos {c : Nat → Int32} {ρ n j : Nat} (hj : j < n) (h : c j = nI ρ) : 0 < zct c ρ n := by
  unfold zct
  exact List.countP_pos_iff.mpr ⟨j, List.mem_range.mpr hj, decide_eq_true h⟩
/-- a court whose rounds are found: all that the law's pieces rest on -/
def zSC (kd hd bd ex sg ov of : Nat → Int32) (fa : Int32) (N k : Nat) (came known al : Nat → Int32) : Prop :=
  N ≤ 16 ∧ k ≤ 80 ∧ (∀ r : Nat, r < N → kd r = 0 ∨ kd r = 1 ∨ kd r = 2) ∧ (∀ r : Nat, r < N → ∀ o, zb (ov r) o = true → o < N ∧ o ≠ r) ∧ (∀ q : Nat, q < 20 → zM (al q) N (fun r => aFor hd of r (nI q))) ∧ zQr kd hd bd ex sg of ov fa N k came ∧ (∀ t q : Nat, t < 4 → q < 20 → aNew kd hd bd ex sg of ov fa N known t q = false) ∧ ∀ t : Nat, t < 4 → zM (known t) 20 (zah came (k + 1) t)
theorem zfresh {kd hd bd ex sg ov of came known al K : Nat → Int32} {fa : Int32} {N k ρ t q : Nat} (h : zSC kd hd bd ex sg ov of fa N k came known al) (h1 : 1 ≤ ρ) (h2 : ρ ≤ k + 1) (hK : ∀ t : Nat, t < 4 → zM (K t) 20 (zah came ρ t)) (ht : t < 4) (hq : q < 20) : came (20 * t + q) = nI ρ ↔ aNew kd hd bd ex sg of ov fa N K t q = true := by
  obtain ⟨hN, hk, hkd, hb, hal, hQ, hend, hkn⟩ := h
  by_cases h3 : ρ ≤ k
  · exact (hQ.2 ρ h1 h3 K hK).1 t q ht hq
  · obtain rfl : ρ = k + 1 := by omega
    have e : ∀ t : Nat, t < 4 → K t = known t := fun t ht => zM_eq (hK t ht) (hkn t ht) (fun _ _ => rfl)
    rw [aNew_congr e ht q, hend t q ht hq]
    obtain ⟨g, hg, e2⟩ := hQ.1 (20 * t + q) (by omega)
    rw [e2, nI_eq (by omega) (by omega)]
    constructor
    · intro z; omega
    · intro z; cases z
section ZSEG1
variable {c_kind c_head c_body c_excepts c_power c_beats rd_came v_known v_allFor tf nx of : Nat → Int32} {c_facts c_shut x1 : Int32} {N k ρ : Nat}
/-- a row of a tag, the literals below i as they are behind the round -/
def zrw (c : Nat → Int32) (ρ t i : Nat) (v : Int32) : Prop := ∀ b, zb v b = (decide (b < 20) && (if b < i then zah c (ρ + 1) t b else zah c ρ t b))
theorem q_s152 {rc63 : (Int32) → (Int32) → (Nat → Int32) → (Int32 × (Nat → Int32))} {kt63 : (Int32) → (Nat → Int32) → (Int32 × (Nat → Int32))} {rc72 : (Int32) → (Int32) → (Int32) → (Nat → Int32) → (Int32 × (Nat → Int32))} {kt72 : (Int32) → (Int32) → (Nat → Int32) → (Int32 × (Nat → Int32))} {t i : Nat} {x7 : Int32} {b : Bool} {w : Nat → Int32} (ht : t < 4) : (FL_law_1_152 c_kind c_head c_body c_excepts c_power c_beats c_facts (nI N) c_shut rd_came v_known v_allFor tf nx x1 (nI k) (nI ρ)) rc63 kt63 rc72 kt72 x7 (nI t) (nI i) (zi b) w = rc72 (x7 + zi b) (nI t) (nI (i + 1)) (upd w t (w t ||| (if b = true then 1 <<< (nI i &&& 31) else 0))) := by
  unfold FL_law_1_152 FL_law_1_171
  rw [nI_clamp (show t < 2 ^ 31 by omega), nI_1]
  cases b
  · rw [if_pos zi_f, if_pos zi_f, if_neg Bool.false_ne_true]; rfl
  · rw [if_neg (show ¬ zi true = 0 by decide), if_neg (show ¬ zi true = 0 by decide), if_pos rfl]; rfl
theorem q_s72 {rc63 : (Int32) → (Int32) → (Nat → Int32) → (Int32 × (Nat → Int32))} {kt63 : (Int32) → (Nat → Int32) → (Int32 × (Nat → Int32))} {kt72 : (Int32) → (Int32) → (Nat → Int32) → (Int32 × (Nat → Int32))} {t : Nat} (hh : zSC c_kind c_head c_body c_excepts c_power c_beats of c_facts N k rd_came v_known v_allFor) (h1 : 1 ≤ ρ) (h2 : ρ ≤ k + 1) (hT : ∀ t : Nat, t < 4 → zM (tf t) 20 (zah rd_came ρ t)) (ht : t < 4) {n0 : Nat → Int32} (hn0 : n0 t = tf t) : ∃ v : Int32, zrw rd_came ρ t 20 v ∧ (FL_law_1_72 c_kind c_head c_body c_excepts c_power c_beats c_facts (nI N) c_shut rd_came v_known v_allFor tf nx x1 (nI k) (nI ρ)) rc63 kt63 kt72 21 (nI (zct rd_came ρ (20 * t))) (nI t) 0 n0 = kt72 (nI (zct rd_came ρ (20 * (t + 1)))) (nI t) (upd n0 t v) := by
  obtain ⟨hN, hk, hkd, hb, hal, hQ, hend, hkn⟩ := id hh
  obtain ⟨s, ⟨v, e1, e2, e3⟩, e⟩ := zloopI (S := Int32 × (Nat → Int32)) (L := fun n i s => (FL_law_1_72 c_kind c_head c_body c_excepts c_power c_beats c_facts (nI N) c_shut rd_came v_known v_allFor tf nx x1 (nI k) (nI ρ)) rc63 kt63 kt72 n s.1 (nI t) i s.2) (kt := fun s => kt72 s.1 (nI t) s.2) 20 (I := fun i s => ∃ v : Int32, zrw rd_came ρ t i v ∧ s.1 = nI (zct rd_came ρ (20 * t + i)) ∧ s.2 = upd n0 t v) (by
    intro n s _
    have hun : (FL_law_1_72 c_kind c_head c_body c_excepts c_power c_beats c_facts (nI N) c_shut rd_came v_known v_allFor tf nx x1 (nI k) (nI ρ)) rc63 kt63 kt72 (n + 1) s.1 (nI t) (nI 20) s.2 = _ := FL_law_1_72.eq_2 ..
    rw [if_pos (show (20 : Int32) ≤ nI 20 from nI_le (Nat.le_refl 20) (by omega))] at hun
    exact hun) (by
    intro n i s hi hs
    obtain ⟨v, hv, hm, hw⟩ := hs
    obtain ⟨m, w⟩ := s
    dsimp only at hm hw
    subst hm hw
    show ∃ s' : Int32 × (Nat → Int32), _ ∧ (FL_law_1_72 c_kind c_head c_body c_excepts c_power c_beats c_facts (nI N) c_shut rd_came v_known v_allFor tf nx x1 (nI k) (nI ρ)) rc63 kt63 kt72 (n + 1) (nI (zct rd_came ρ (20 * t + i))) (nI t) (nI i) (upd n0 t v) = (FL_law_1_72 c_kind c_head c_body c_excepts c_power c_beats c_facts (nI N) c_shut rd_came v_known v_allFor tf nx x1 (nI k) (nI ρ)) rc63 kt63 kt72 n s'.1 (nI t) (nI (i + 1)) s'.2
    have hun : (FL_law_1_72 c_kind c_head c_body c_excepts c_power c_beats c_facts (nI N) c_shut rd_came v_known v_allFor tf nx x1 (nI k) (nI ρ)) rc63 kt63 kt72 (n + 1) (nI (zct rd_came ρ (20 * t + i))) (nI t) (nI i) (upd n0 t v) = _ := FL_law_1_72.eq_2 ..
    obtain ⟨g, hg, eg⟩ := hQ.1 (20 * t + i) (by omega)
    have htag : FX8_tag_s rd_came (nI i) (nI t) = nI g := by
      unfold FX8_tag_s
      rw [if_neg (q_lit hi), if_neg (q_tag ht)]
      unfold FX4_roundOf
      rw [z20' ht hi, eg]
    rw [if_neg (show ¬ (20 : Int32) ≤ nI i from nI_ge (b := 20) hi (by omega)), bndx, nI_clamp (show t < 2 ^ 31 by omega), zhL (show i < 32 by omega), zM_b (hT t ht) hi, bndx, q_holds (of := of) hN ht hi hkd hb hal, bndx, bndx, bndx, htag, nI_1] at hun
    have hz1 : zah rd_came ρ t i = (decide (0 < g) && decide (g < ρ)) := zah_nI eg (by omega) (by omega)
    have hz2 : zah rd_came (ρ + 1) t i = (decide (0 < g) && decide (g < ρ + 1)) := zah_nI eg (by omega) (by omega)
    have hnew := zfresh (K := tf) hh h1 h2 hT ht hi
    rw [eg, nI_eq (by omega) (by omega)] at hnew
    unfold aNew at hnew
    rw [zM_b (hT t ht) hi] at hnew
    have hct : zct rd_came ρ (20 * t + i + 1) = zct rd_came ρ (20 * t + i) + (if g = ρ then 1 else 0) := by
      rw [zct_s, eg]
      congr 1
      by_cases z : g = ρ
      · rw [if_pos z, if_pos (by rw [z])]
      · rw [if_neg z, if_neg (fun y => z ((nI_eq (by omega) (by omega)).mp y))]
    have hvb : ∀ u : Int32, (∀ b, b ≠ i → zb u b = zb v b) → zb u i = zah rd_came (ρ + 1) t i → zrw rd_came ρ t (i + 1) u := fun u hu hui b => by
      by_cases c : b = i
      · subst c
        rw [hui, decide_eq_true (show b < 20 from hi), if_pos (Nat.lt_succ_self b)]; rfl
      · rw [hu b c, hv b]
        by_cases c2 : b < i
        · rw [if_pos c2, if_pos (by omega)]
        · rw [if_neg c2, if_neg (by omega)]
    have hvi : zb v i = zah rd_came ρ t i := by rw [hv i, decide_eq_true hi, if_neg (Nat.lt_irrefl i)]; rfl
    cases hz : zah rd_came ρ t i
    · rw [hz, if_pos zi_f] at hun
      rw [hz, Bool.not_false, Bool.true_and] at hnew
      have goon : ∀ b : Bool, (g = ρ ↔ b = true) → (FL_law_1_72 c_kind c_head c_body c_excepts c_power c_beats c_facts (nI N) c_shut rd_came v_known v_allFor tf nx x1 (nI k) (nI ρ)) rc63 kt63 kt72 (n + 1) (nI (zct rd_came ρ (20 * t + i))) (nI t) (nI i) (upd n0 t v) = (FL_law_1_152 c_kind c_head c_body c_excepts c_power c_beats c_facts (nI N) c_shut rd_came v_known v_allFor tf nx x1 (nI k) (nI ρ)) rc63 kt63 (fun x7_72' x8_72' x9_72' nx_x_72' => (FL_law_1_72 c_kind c_head c_body c_excepts c_power c_beats c_facts (nI N) c_shut rd_came v_known v_allFor tf nx x1 (nI k) (nI ρ)) rc63 kt63 kt72 n x7_72' x8_72' x9_72' nx_x_72') kt72 (nI (zct rd_came ρ (20 * t + i))) (nI t) (nI i) (zi b) (upd n0 t v) → ∃ s' : Int32 × (Nat → Int32), (∃ u : Int32, zrw rd_came ρ t (i + 1) u ∧ s'.1 = nI (zct rd_came ρ (20 * t + (i + 1))) ∧ s'.2 = upd n0 t u) ∧ (FL_law_1_72 c_kind c_head c_body c_excepts c_power c_beats c_facts (nI N) c_shut rd_came v_known v_allFor tf nx x1 (nI k) (nI ρ)) rc63 kt63 kt72 (n + 1) (nI (zct rd_came ρ (20 * t + i))) (nI t) (nI i) (upd n0 t v) = (FL_law_1_72 c_kind c_head c_body c_excepts c_power c_beats c_facts (nI N) c_shut rd_came v_known v_allFor tf nx x1 (nI k) (nI ρ)) rc63 kt63 kt72 n s'.1 (nI t) (nI (i + 1)) s'.2 := fun b hb h => by
        rw [q_s152 ht] at h
        refine ⟨(nI (zct rd_came ρ (20 * t + i)) + zi b, upd (upd n0 t v) t (upd n0 t v t ||| (if b = true then 1 <<< (nI i &&& 31) else 0))), ⟨v ||| (if b = true then 1 <<< (nI i &&& 31) else 0), hvb _ (fun b' hb' => ?_) ?_, ?_, ?_⟩, h⟩
        · rw [zb_or]
          cases b
          · rw [if_neg Bool.false_ne_true, zb_0, Bool.or_false]
          · rw [if_pos rfl, zb_one (show i < 32 by omega), decide_eq_false hb', Bool.or_false]
        · rw [zb_or, hvi, hz, Bool.false_or, hz2]
          cases b
          · rw [if_neg Bool.false_ne_true, zb_0]
            have hng : ¬ g = ρ := fun z => absurd (hb.mp z) Bool.false_ne_true
            rw [hz] at hz1
            by_cases z0 : 0 < g
            · rw [decide_eq_true z0, Bool.true_and] at hz1
              have := of_decide_eq_false hz1.symm
              rw [decide_eq_false (show ¬ g < ρ + 1 by omega), Bool.and_false]
            · rw [decide_eq_false z0, Bool.false_and]
          · rw [if_pos rfl, zb_one (show i < 32 by omega), decide_eq_true rfl]
            have hgg := hb.mpr rfl
            rw [decide_eq_true (show 0 < g by omega), decide_eq_true (show g < ρ + 1 by omega)]; rfl
        · show nI (zct rd_came ρ (20 * t + i)) + zi b = nI (zct rd_came ρ (20 * t + i + 1))
          rw [hct]
          cases b
          · rw [if_neg (fun z => absurd (hb.mp z) Bool.false_ne_true)]
            exact Int32.add_zero _
          · rw [if_pos (hb.mpr rfl)]
            exact nI_1 _
        · show upd (upd n0 t v) t (upd n0 t v t ||| (if b = true then 1 <<< (nI i &&& 31) else 0)) = upd n0 t (v ||| (if b = true then 1 <<< (nI i &&& 31) else 0))
          funext j
          by_cases c : j = t
          · subst c; rw [pk_us, pk_us, pk_us]
          · rw [pk_un c, pk_un c, pk_un c]
      have hgz : ¬ (0 < g ∧ g < ρ) := fun z => by
        rw [hz1, decide_eq_true z.1, decide_eq_true z.2] at hz
        exact absurd hz (by decide)
      cases hb2 : aHolds c_kind c_head c_body c_excepts c_power of c_beats c_facts N tf t i
      · rw [hb2] at hnew
        rw [hb2, if_pos zi_f] at hun
        have hng : ¬ g = ρ := fun z => absurd (hnew.mp z) Bool.false_ne_true
        refine goon false hnew ?_
        by_cases g0 : g = 0
        · rw [if_pos (show nI g ≤ 0 by rw [g0]; decide)] at hun
          exact hun
        · rw [if_neg (show ¬ nI g ≤ 0 from nI_ge (a := 0) (by omega) (by omega)), if_pos (show nI ρ < nI g from nI_lt (by omega) (by omega))] at hun
          exact hun
      · rw [hb2] at hnew
        rw [hb2, if_neg (show ¬ zi true = 0 by decide), if_pos (show nI g = nI ρ by rw [hnew.mpr rfl])] at hun
        exact goon true hnew hun
    · rw [hz, if_neg (show ¬ zi true = 0 by decide)] at hun
      rw [hz] at hz1 hvi
      have hg2 : 0 < g ∧ g < ρ := by
        have z := hz1.symm
        rw [Bool.and_eq_true] at z
        exact ⟨of_decide_eq_true z.1, of_decide_eq_true z.2⟩
      refine ⟨(nI (zct rd_came ρ (20 * t + i)), upd n0 t v), ⟨v, hvb v (fun _ _ => rfl) ?_, ?_, rfl⟩, hun⟩
      · rw [hvi, hz2, decide_eq_true hg2.1, decide_eq_true (show g < ρ + 1 by omega)]; rfl
      · show _ = nI (zct rd_came ρ (20 * t + i + 1))
        rw [hct, if_neg (show ¬ g = ρ by omega), Nat.add_zero]) 21 0 (nI (zct rd_came ρ (20 * t)), n0) (by omega) (by omega) ⟨n0 t, fun b => by
      rw [hn0, hT t ht b, if_neg (Nat.not_lt_zero b)], rfl, by
      funext j
      by_cases c : j = t
      · subst c; rw [pk_us]
      · rw [pk_un c]⟩
  refine ⟨v, e1, ?_⟩
  refine Eq.trans (show _ = kt72 s.1 (nI t) s.2 from e) ?_
  rw [e2, e3, show 20 * (t + 1) = 20 * t + 20 by omega]
theorem q_s194 {rc63 : (Int32) → (Int32) → (Nat → Int32) → (Int32 × (Nat → Int32))} {kt63 : (Int32) → (Nat → Int32) → (Int32 × (Nat → Int32))} {t : Nat} {x7 v : Int32} {n0 : Nat → Int32} (hk : k ≤ 80) (h1 : 1 ≤ ρ) (h2 : ρ ≤ k + 1) (hB : ∀ j : Nat, j < 80 → ∃ h : Nat, h ≤ k ∧ rd_came j = nI h) (hT : zM (tf t) 20 (zah rd_came ρ t)) (ht : t < 4) (hv : zrw rd_came ρ t 20 v) : (FL_law_1_194 c_kind c_head c_body c_excepts c_power c_beats c_facts (nI N) c_shut rd_came v_known v_allFor tf nx x1 (nI k) (nI ρ)) rc63 kt63 x7 (nI t) (upd n0 t v) = rc63 x7 (nI (t + 1)) (upd n0 t v) := by
  unfold FL_law_1_194
  have e : FX8_tagged_s rd_came v_known (nI t) (nI ρ) = upd n0 t v (nI t).toNatClampNeg &&& (tf (nI t).toNatClampNeg ^^^ (-1)) := by
    unfold FX8_tagged_s
    rw [if_neg (q_tag ht), if_pos (show 0 ≤ nI ρ from nI_pos' (by omega)), if_neg (show ¬ nI ρ = 0 from fun z => by have := (nI_eq (b := 0) (by omega) (by decide)).mp z; omega), nI_clamp (show t < 2 ^ 31 by omega), pk_us]
    have hm := k_broughtBy (rd_came := rd_came) (x2 := nI ρ) ht
    refine zb_ext (fun b hb32 => ?_)
    rw [hm b, zb_and, zb_not hb32, hv b, hT b]
    by_cases c : b < 20
    · rw [decide_eq_true c, if_pos c, Bool.true_and, Bool.true_and, Bool.true_and]
      obtain ⟨g, hg, eg⟩ := hB (20 * t + b) (by omega)
      rw [zah_nI eg (by omega) (by omega), zah_nI eg (by omega) (by omega)]
      show decide (rd_came (20 * t + b) = nI ρ) = _
      rw [eg]
      by_cases z : g = ρ
      · subst z
        rw [decide_eq_true rfl, decide_eq_true (show 0 < g by omega), decide_eq_true (Nat.lt_succ_self g), decide_eq_false (Nat.lt_irrefl g)]; rfl
      · rw [decide_eq_false (fun y => z ((nI_eq (by omega) (by omega)).mp y))]
        by_cases z0 : 0 < g
        · by_cases z1 : g < ρ
          · rw [decide_eq_true z0, decide_eq_true z1, decide_eq_true (show g < ρ + 1 by omega)]; rfl
          · rw [decide_eq_false (show ¬ g < ρ + 1 by omega), Bool.and_false, Bool.false_and]
        · rw [decide_eq_false z0, Bool.false_and, Bool.false_and]
    · rw [decide_eq_false c, Bool.false_and, Bool.false_and, Bool.false_and]
  rw [bndx, if_pos e, nI_1]
theorem q_seg1 (hh : zSC c_kind c_head c_body c_excepts c_power c_beats of c_facts N k rd_came v_known v_allFor) (h1 : 1 ≤ ρ) (h2 : ρ ≤ k + 1) (hT : ∀ t : Nat, t < 4 → zM (tf t) 20 (zah rd_came ρ t)) (hnx : ∀ t : Nat, t < 4 → nx t = tf t) : ∃ n2 : Nat → Int32, (∀ t : Nat, t < 4 → zM (n2 t) 20 (zah rd_came (ρ + 1) t)) ∧ (FL_law_1 c_kind c_head c_body c_excepts c_power c_beats c_facts (nI N) c_shut rd_came v_known v_allFor tf nx x1 (nI k) (nI ρ)) = (1, n2) := by
  obtain ⟨hN, hk, hkd, hb, hal, hQ, hend, hkn⟩ := id hh
  unfold FL_law_1
  obtain ⟨s, ⟨e1, e2, e3⟩, e⟩ := zloopI (S := Int32 × (Nat → Int32)) (L := fun n i s => (FL_law_1_63 c_kind c_head c_body c_excepts c_power c_beats c_facts (nI N) c_shut rd_came v_known v_allFor tf nx x1 (nI k) (nI ρ)) ((FL_law_1_225 c_kind c_head c_body c_excepts c_power c_beats c_facts (nI N) c_shut rd_came v_known v_allFor tf nx x1 (nI k) (nI ρ))) n s.1 i s.2) (kt := fun s => (FL_law_1_225 c_kind c_head c_body c_excepts c_power c_beats c_facts (nI N) c_shut rd_came v_known v_allFor tf nx x1 (nI k) (nI ρ)) s.1 s.2) 4 (I := fun i s => s.1 = nI (zct rd_came ρ (20 * i)) ∧ (∀ t : Nat, t < i → zM (s.2 t) 20 (zah rd_came (ρ + 1) t)) ∧ ∀ t : Nat, i ≤ t → t < 4 → s.2 t = tf t) (by
    intro n s _
    have hun : (FL_law_1_63 c_kind c_head c_body c_excepts c_power c_beats c_facts (nI N) c_shut rd_came v_known v_allFor tf nx x1 (nI k) (nI ρ)) ((FL_law_1_225 c_kind c_head c_body c_excepts c_power c_beats c_facts (nI N) c_shut rd_came v_known v_allFor tf nx x1 (nI k) (nI ρ))) (n + 1) s.1 (nI 4) s.2 = _ := FL_law_1_63.eq_2 ..
    rw [if_pos (show (4 : Int32) ≤ nI 4 from nI_le (Nat.le_refl 4) (by omega))] at hun
    exact hun) (by
    intro n t s ht hs
    obtain ⟨hm, ha, hb2⟩ := hs
    obtain ⟨m, w⟩ := s
    dsimp only at hm ha hb2
    subst hm
    show ∃ s' : Int32 × (Nat → Int32), _ ∧ (FL_law_1_63 c_kind c_head c_body c_excepts c_power c_beats c_facts (nI N) c_shut rd_came v_known v_allFor tf nx x1 (nI k) (nI ρ)) ((FL_law_1_225 c_kind c_head c_body c_excepts c_power c_beats c_facts (nI N) c_shut rd_came v_known v_allFor tf nx x1 (nI k) (nI ρ))) (n + 1) (nI (zct rd_came ρ (20 * t))) (nI t) w = (FL_law_1_63 c_kind c_head c_body c_excepts c_power c_beats c_facts (nI N) c_shut rd_came v_known v_allFor tf nx x1 (nI k) (nI ρ)) ((FL_law_1_225 c_kind c_head c_body c_excepts c_power c_beats c_facts (nI N) c_shut rd_came v_known v_allFor tf nx x1 (nI k) (nI ρ))) n s'.1 (nI (t + 1)) s'.2
    have hun : (FL_law_1_63 c_kind c_head c_body c_excepts c_power c_beats c_facts (nI N) c_shut rd_came v_known v_allFor tf nx x1 (nI k) (nI ρ)) ((FL_law_1_225 c_kind c_head c_body c_excepts c_power c_beats c_facts (nI N) c_shut rd_came v_known v_allFor tf nx x1 (nI k) (nI ρ))) (n + 1) (nI (zct rd_came ρ (20 * t))) (nI t) w = _ := FL_law_1_63.eq_2 ..
    rw [if_neg (show ¬ (4 : Int32) ≤ nI t from nI_ge (b := 4) ht (by omega))] at hun
    obtain ⟨v, hv, ev⟩ := q_s72 (nx := nx) (x1 := x1) (rc63 := fun x7_63' x8_63' nx_x_63' => (FL_law_1_63 c_kind c_head c_body c_excepts c_power c_beats c_facts (nI N) c_shut rd_came v_known v_allFor tf nx x1 (nI k) (nI ρ)) ((FL_law_1_225 c_kind c_head c_body c_excepts c_power c_beats c_facts (nI N) c_shut rd_came v_known v_allFor tf nx x1 (nI k) (nI ρ))) n x7_63' x8_63' nx_x_63') (kt63 := (FL_law_1_225 c_kind c_head c_body c_excepts c_power c_beats c_facts (nI N) c_shut rd_came v_known v_allFor tf nx x1 (nI k) (nI ρ))) (kt72 := (FL_law_1_194 c_kind c_head c_body c_excepts c_power c_beats c_facts (nI N) c_shut rd_came v_known v_allFor tf nx x1 (nI k) (nI ρ)) (fun x7_63' x8_63' nx_x_63' => (FL_law_1_63 c_kind c_head c_body c_excepts c_power c_beats c_facts (nI N) c_shut rd_came v_known v_allFor tf nx x1 (nI k) (nI ρ)) ((FL_law_1_225 c_kind c_head c_body c_excepts c_power c_beats c_facts (nI N) c_shut rd_came v_known v_allFor tf nx x1 (nI k) (nI ρ))) n x7_63' x8_63' nx_x_63') ((FL_law_1_225 c_kind c_head c_body c_excepts c_power c_beats c_facts (nI N) c_shut rd_came v_known v_allFor tf nx x1 (nI k) (nI ρ)))) hh h1 h2 hT ht (hb2 t (Nat.le_refl t) ht)
    rw [ev, q_s194 hk h1 h2 hQ.1 (hT t ht) ht hv] at hun
    refine ⟨(nI (zct rd_came ρ (20 * (t + 1))), upd w t v), ⟨rfl, fun t' ht' => ?_, fun t' h3 h4 => ?_⟩, hun⟩
    · show zM (upd w t v t') 20 _
      by_cases c : t' = t
      · subst c
        rw [pk_us]
        intro b
        rw [hv b]
        by_cases c2 : b < 20
        · rw [if_pos c2]
        · rw [decide_eq_false c2]; rfl
      · rw [pk_un c]
        exact ha t' (by omega)
    · show upd w t v t' = _
      rw [pk_un (show t' ≠ t by omega)]
      exact hb2 t' (by omega) h4) 5 0 (0, nx) (by omega) (by omega) ⟨rfl, fun t h => absurd h (Nat.not_lt_zero t), fun t _ h => hnx t h⟩
  refine ⟨s.2, e2, ?_⟩
  refine Eq.trans (show _ = (FL_law_1_225 c_kind c_head c_body c_excepts c_power c_beats c_facts (nI N) c_shut rd_came v_known v_allFor tf nx x1 (nI k) (nI ρ)) s.1 s.2 from e) ?_
  unfold FL_law_1_225
  rw [e1]
  have hle := zct_le rd_came ρ 80
  by_cases h3 : ρ ≤ k
  · rw [if_neg (show ¬ nI k < nI ρ from nI_nlt h3 (by omega))]
    obtain ⟨t, q, ht, hq, ec⟩ := (hQ.2 ρ h1 h3 tf hT).2
    have hpos := zct_pos (n := 80) (show 20 * t + q < 80 by omega) ec
    rw [if_neg (show ¬ nI (zct rd_came ρ (20 * 4)) = 0 from fun z => by
      have := (nI_eq (b := 0) (show zct rd_came ρ (20 * 4) < 2 ^ 31 by show zct rd_came ρ 80 < 2 ^ 31; omega) (by decide)).mp z
      have hpos : 0 < zct rd_came ρ (20 * 4) := hpos
      omega)]
  · rw [if_pos (show nI k < nI ρ from nI_lt (by omega) (by omega))]
    have hz : zct rd_came ρ (20 * 4) = 0 := zct_0 (fun j hj ej => by
      obtain ⟨g, hg, eg⟩ := hQ.1 j (by omega)
      rw [eg] at ej
      have := (nI_eq (by omega) (by omega)).mp ej
      omega)
    rw [hz, if_pos (show nI 0 ≤ (0 : Int32) by decide)]
end ZSEG1
