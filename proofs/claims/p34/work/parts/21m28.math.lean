/-! rules taken away: none above any, then none under any; those in circles stay -/
def zE2 (sg ov : Nat → Int32) (N : Nat) (a b : Nat) : Bool := decide (a < N) && (decide (b < N) && aAbv sg ov a b)
def zcy (sg ov : Nat → Int32) (N r : Nat) : Prop := r < N ∧ ∃ j : Nat, zpt (zE2 sg ov N) j r r
theorem zE2_i {sg ov : Nat → Int32} {N a b : Nat} (h : zE2 sg ov N a b = true) : a < N ∧ b < N ∧ aAbv sg ov a b = true := by
  unfold zE2 at h
  rw [Bool.and_eq_true, Bool.and_eq_true] at h
  exact ⟨of_decide_eq_true h.1, of_decide_eq_true h.2.1, h.2.2⟩
/-- what is left: rules alone, and all that are in circles -/
def zlf (sg ov : Nat → Int32) (N : Nat) (L : Int32) : Prop := (∀ q, zb L q = true → q < N) ∧ ∀ r : Nat, zcy sg ov N r → zb L r = true
def zsu (sg ov : Nat → Int32) (N : Nat) (L : Int32) : Prop := ∀ r : Nat, zb L r = true → ∃ s : Nat, zb L s = true ∧ aAbv sg ov r s = true
theorem zlf_less {sg ov : Nat → Int32} {N i : Nat} {L : Int32} (h : zlf sg ov N L) (hi : i < 32) (hc : ¬ zcy sg ov N i) : zlf sg ov N (L &&& ((1 <<< (nI i &&& 31)) ^^^ (-1))) := by
  refine ⟨fun q hq => ?_, fun r hr => ?_⟩
  · rw [zless_b hi, Bool.and_eq_true] at hq
    exact h.1 q hq.1
  · rw [zless_b hi, h.2 r hr, decide_eq_false (fun e => hc (by rw [← e]; exact hr))]; rfl
section ZSEG4
variable {ab sg ov : Nat → Int32} {x6 x8 x9 : Int32} {N : Nat}
theorem q_s588 {rc577 : (Int32) → (Int32) → (Int32 × Int32)} {kt577 : (Int32) → (Int32 × Int32)} {kt588 : (Int32) → (Int32) → (Int32 × Int32)} {L0 : Int32} (hN : N ≤ 10) (hab : ∀ r : Nat, r < N → zM (ab r) N (aAbv sg ov r)) (h0 : zlf sg ov N L0) : ∃ (L : Int32) (x : Int32), zlf sg ov N L ∧ ((x = 0 ∧ zsu sg ov N L) ∨ (x = 1 ∧ zbits L + 1 ≤ zbits L0)) ∧ (FL_law_4_588 ab (nI N) x6 x8) rc577 kt577 kt588 17 L0 0 0 = kt588 L x := by
  obtain ⟨s, ⟨e1, e2⟩, e⟩ := zloopI (S := Int32 × Int32) (L := fun n i s => (FL_law_4_588 ab (nI N) x6 x8) rc577 kt577 kt588 n s.1 s.2 i) (kt := fun s => kt588 s.1 s.2) N (I := fun i s => zlf sg ov N s.1 ∧ ((s.2 = 0 ∧ s.1 = L0 ∧ ∀ r : Nat, r < i → zb s.1 r = true → ∃ s' : Nat, zb s.1 s' = true ∧ aAbv sg ov r s' = true) ∨ (s.2 = 1 ∧ zbits s.1 + 1 ≤ zbits L0))) (by
    intro n s _
    have hun : (FL_law_4_588 ab (nI N) x6 x8) rc577 kt577 kt588 (n + 1) s.1 s.2 (nI N) = _ := FL_law_4_588.eq_2 ..
    rw [if_pos (show nI N ≤ nI N from nI_le (Nat.le_refl N) (by omega))] at hun
    exact hun) (by
    intro n i s hi hs
    obtain ⟨L, x⟩ := s
    obtain ⟨hl, hd⟩ := hs
    dsimp only at hl hd
    show ∃ s' : Int32 × Int32, _ ∧ (FL_law_4_588 ab (nI N) x6 x8) rc577 kt577 kt588 (n + 1) L x (nI i) = (FL_law_4_588 ab (nI N) x6 x8) rc577 kt577 kt588 n s'.1 s'.2 (nI (i + 1))
    have hun : (FL_law_4_588 ab (nI N) x6 x8) rc577 kt577 kt588 (n + 1) L x (nI i) = _ := FL_law_4_588.eq_2 ..
    rw [if_neg (show ¬ nI N ≤ nI i from nI_ge hi (by omega)), bndx, zhL (show i < 32 by omega), nI_clamp (show i < 2 ^ 31 by omega), nI_1] at hun
    cases hb : zb L i
    · rw [hb, if_pos zi_f] at hun
      refine ⟨(L, x), ⟨hl, hd.imp (fun z => ⟨z.1, z.2.1, fun r hr hz => ?_⟩) id⟩, hun⟩
      rcases Nat.lt_or_ge r i with c | c
      · exact z.2.2 r c hz
      · rw [show r = i by omega] at hz
        have hz : zb L i = true := hz
        rw [hb] at hz; cases hz
    · rw [hb, if_neg (show ¬ zi true = 0 by decide)] at hun
      by_cases h3 : ab i &&& L = 0
      · rw [if_pos h3] at hun
        have hno : ∀ s : Nat, s < N → zb L s = true → aAbv sg ov i s = true → False := fun s hs h1 h2 => by
          have : zb (ab i &&& L) s = true := by rw [zb_and, zM_b (hab i hi) hs, h2, h1]; rfl
          rw [h3, zb_0] at this; cases this
        have hcy : ¬ zcy sg ov N i := fun z => by
          obtain ⟨_, j, hj⟩ := z
          obtain ⟨m, h4, j2, h5⟩ := zpt_rot j hj
          have h6 := zE2_i h4
          exact hno m h6.2.1 (hl.2 m ⟨h6.2.1, j2, h5⟩) h6.2.2
        have hlt := zless_lt (show i < 20 by omega) hb
        refine ⟨(L &&& ((1 <<< (nI i &&& 31)) ^^^ (-1)), 1), ⟨zlf_less hl (by omega) hcy, Or.inr ⟨rfl, ?_⟩⟩, hun⟩
        show zbits (L &&& ((1 <<< (nI i &&& 31)) ^^^ (-1))) + 1 ≤ zbits L0
        rcases hd with hd | hd
        · rw [← hd.2.1]; exact hlt
        · omega
      · rw [if_neg h3] at hun
        refine ⟨(L, x), ⟨hl, hd.imp (fun z => ⟨z.1, z.2.1, fun r hr hz => ?_⟩) id⟩, hun⟩
        rcases Nat.lt_or_ge r i with c | c
        · exact z.2.2 r c hz
        · obtain ⟨q, hq⟩ := zbit_ex h3
          rw [zb_and, Bool.and_eq_true] at hq
          have hqN := hl.1 q hq.2
          rw [zM_b (hab i hi) hqN] at hq
          rw [show r = i by omega]
          exact ⟨q, hq.2, hq.1⟩) 17 0 (L0, 0) (by omega) (by omega) ⟨h0, Or.inl ⟨rfl, rfl, fun r h => absurd h (Nat.not_lt_zero r)⟩⟩
  refine ⟨s.1, s.2, e1, e2.imp (fun z => ⟨z.1, fun r hr => z.2.2 r (e1.1 r hr) hr⟩) id, e⟩
theorem q_s577 {kt577 : (Int32) → (Int32 × Int32)} (hN : N ≤ 10) (hab : ∀ r : Nat, r < N → zM (ab r) N (aAbv sg ov r)) : ∀ (n : Nat) (L x : Int32), zlf sg ov N L → ((x = 0 ∧ zsu sg ov N L) ∨ (x = 1 ∧ zbits L + 2 ≤ n)) → 1 ≤ n → ∃ L' : Int32, zlf sg ov N L' ∧ zsu sg ov N L' ∧ (FL_law_4_577 ab (nI N) x6 x8) kt577 n L x = kt577 L'
  | 0, L, x, _, _, h => absurd h (by omega)
  | n + 1, L, x, hl, hd, _ => by
    have hun : (FL_law_4_577 ab (nI N) x6 x8) kt577 (n + 1) L x = _ := FL_law_4_577.eq_2 ..
    rcases hd with ⟨h1, h2⟩ | ⟨h1, h2⟩
    · rw [if_pos h1] at hun
      exact ⟨L, hl, h2, hun⟩
    · rw [if_neg (show ¬ x = 0 by rw [h1]; decide)] at hun
      obtain ⟨L', x', g1, g2, g3⟩ := q_s588 (x6 := x6) (x8 := x8) (rc577 := fun x9_577' x10_577' => (FL_law_4_577 ab (nI N) x6 x8) kt577 n x9_577' x10_577') (kt577 := kt577) (kt588 := (FL_law_4_638 ab (nI N) x6 x8) (fun x9_577' x10_577' => (FL_law_4_577 ab (nI N) x6 x8) kt577 n x9_577' x10_577') kt577) hN hab hl
      rw [g3] at hun
      unfold FL_law_4_638 at hun
      obtain ⟨L2, k1, k2, k3⟩ := q_s577 hN hab n L' x' g1 (g2.imp id (fun z => ⟨z.1, by have := z.2; omega⟩)) (by rcases g2 with z | z <;> omega)
      exact ⟨L2, k1, k2, hun.trans k3⟩
theorem zall_b {q : Nat} (hN : N ≤ 10) : zb ((1 <<< (nI N &&& 31)) - 1) q = decide (q < N) := by
  by_cases hq : q < 32
  · have key : ∀ N : Nat, N < 11 → ∀ q : Nat, q < 32 → zb ((1 <<< (nI N &&& 31)) - 1) q = decide (q < N) := by decide +kernel
    exact key N (by omega) q hq
  · rw [zb_big (by omega), decide_eq_false (by omega)]
theorem q_seg4 (hN : N ≤ 10) (hab : ∀ r : Nat, r < N → zM (ab r) N (aAbv sg ov r)) : ∃ L : Int32, zlf sg ov N L ∧ zsu sg ov N L ∧ (FL_law_4 ab (nI N) x6 x8) = (1, L) := by
  unfold FL_law_4
  have h0 : zlf sg ov N ((1 <<< (nI N &&& 31)) - 1) := ⟨fun q hq => by rw [zall_b hN] at hq; exact of_decide_eq_true hq, fun r hr => by rw [zall_b hN]; exact decide_eq_true hr.1⟩
  obtain ⟨L, h1, h2, h3⟩ := q_s577 (ab := ab) (x6 := x6) (x8 := x8) (kt577 := (FL_law_4_641 ab (nI N) x6 x8)) hN hab 23 ((1 <<< (nI N &&& 31)) - 1) 1 h0 (Or.inr ⟨rfl, by have := zbits_le ((1 <<< (nI N &&& 31)) - 1); omega⟩) (by omega)
  exact ⟨L, h1, h2, h3.trans rfl⟩
theorem q_s680 {rc644 : (Int32) → (Int32) → (Int32 × Int32)} {kt644 : (Int32) → (Int32 × Int32)} {rc655 : (Int32) → (Int32) → (Int32) → (Int32 × Int32)} {kt655 : (Int32) → (Int32) → (Int32 × Int32)} {kt680 : (Int32) → (Int32) → (Int32) → (Int32) → (Int32 × Int32)} {L x10 : Int32} {i : Nat} (hN : N ≤ 10) (hi : i < N) (hab : ∀ r : Nat, r < N → zM (ab r) N (aAbv sg ov r)) : (FL_law_5_680 ab (nI N) x6 x8 x9) rc644 kt644 rc655 kt655 kt680 17 L x10 (nI i) 0 0 = kt680 L x10 (nI i) (zi (zex (fun k => zb L k && aAbv sg ov k i) N)) := by
  obtain ⟨s, hs, e⟩ := zloopI (L := fun n j s => (FL_law_5_680 ab (nI N) x6 x8 x9) rc644 kt644 rc655 kt655 kt680 n L x10 (nI i) s j) (kt := fun s => kt680 L x10 (nI i) s) N (I := fun j s => s = zi (zex (fun k => zb L k && aAbv sg ov k i) j)) (by
    intro n s _
    have hun : (FL_law_5_680 ab (nI N) x6 x8 x9) rc644 kt644 rc655 kt655 kt680 (n + 1) L x10 (nI i) s (nI N) = _ := FL_law_5_680.eq_2 ..
    rw [if_pos (show nI N ≤ nI N from nI_le (Nat.le_refl N) (by omega))] at hun
    exact hun) (by
    intro n j s hj hs
    subst hs
    refine ⟨_, rfl, ?_⟩
    show (FL_law_5_680 ab (nI N) x6 x8 x9) rc644 kt644 rc655 kt655 kt680 (n + 1) L x10 (nI i) (zi (zex (fun k => zb L k && aAbv sg ov k i) j)) (nI j) = (FL_law_5_680 ab (nI N) x6 x8 x9) rc644 kt644 rc655 kt655 kt680 n L x10 (nI i) (zi (zex (fun k => zb L k && aAbv sg ov k i) j || (zb L j && aAbv sg ov j i))) (nI (j + 1))
    generalize zex (fun k => zb L k && aAbv sg ov k i) j = a
    have hun : (FL_law_5_680 ab (nI N) x6 x8 x9) rc644 kt644 rc655 kt655 kt680 (n + 1) L x10 (nI i) (zi a) (nI j) = _ := FL_law_5_680.eq_2 ..
    unfold FL_law_5_715 at hun
    rw [if_neg (show ¬ nI N ≤ nI j from nI_ge hj (by omega)), bndx, zhL (show j < 32 by omega), bndx, nI_clamp (show j < 2 ^ 31 by omega), zhL (show i < 32 by omega), zM_b (hab j hj) hi, nI_1] at hun
    refine hun.trans ?_
    cases zb L j
    · rw [if_pos zi_f, Bool.false_and, show (0 : Int32) = zi false from rfl, zi_or]
    · rw [if_neg (show ¬ zi true = 0 by decide), Bool.true_and]
      cases aAbv sg ov j i
      · rw [if_pos zi_f, show (0 : Int32) = zi false from rfl, zi_or]
      · rw [if_neg (show ¬ zi true = 0 by decide), show (1 : Int32) = zi true from rfl, zi_or]) 17 0 0 (by omega) (by omega) rfl
  subst hs
  exact e
theorem zsu_less {i : Nat} {L : Int32} (h : zsu sg ov N L) (hi : i < 32) (hno : ∀ s : Nat, zb L s = true → aAbv sg ov s i = true → False) : zsu sg ov N (L &&& ((1 <<< (nI i &&& 31)) ^^^ (-1))) := fun r hr => by
  rw [zless_b hi, Bool.and_eq_true] at hr
  obtain ⟨s, h1, h2⟩ := h r hr.1
  refine ⟨s, ?_, h2⟩
  rw [zless_b hi, h1, decide_eq_false (fun e => by rw [e] at h2; exact hno r hr.1 h2)]; rfl
theorem q_s655 {rc644 : (Int32) → (Int32) → (Int32 × Int32)} {kt644 : (Int32) → (Int32 × Int32)} {kt655 : (Int32) → (Int32) → (Int32 × Int32)} {L0 : Int32} (hN : N ≤ 10) (hab : ∀ r : Nat, r < N → zM (ab r) N (aAbv sg ov r)) (h0 : zlf sg ov N L0) (hsu : zsu sg ov N L0) : ∃ (L : Int32) (x : Int32), zlf sg ov N L ∧ zsu sg ov N L ∧ (x = 0 ∨ (x = 1 ∧ zbits L + 1 ≤ zbits L0)) ∧ (FL_law_5_655 ab (nI N) x6 x8 x9) rc644 kt644 kt655 17 L0 0 0 = kt655 L x := by
  obtain ⟨s, ⟨e1, e2, e3⟩, e⟩ := zloopI (S := Int32 × Int32) (L := fun n i s => (FL_law_5_655 ab (nI N) x6 x8 x9) rc644 kt644 kt655 n s.1 s.2 i) (kt := fun s => kt655 s.1 s.2) N (I := fun _ s => zlf sg ov N s.1 ∧ zsu sg ov N s.1 ∧ ((s.2 = 0 ∧ s.1 = L0) ∨ (s.2 = 1 ∧ zbits s.1 + 1 ≤ zbits L0))) (by
    intro n s _
    have hun : (FL_law_5_655 ab (nI N) x6 x8 x9) rc644 kt644 kt655 (n + 1) s.1 s.2 (nI N) = _ := FL_law_5_655.eq_2 ..
    rw [if_pos (show nI N ≤ nI N from nI_le (Nat.le_refl N) (by omega))] at hun
    exact hun) (by
    intro n i s hi hs
    obtain ⟨L, x⟩ := s
    obtain ⟨hl, hu, hd⟩ := hs
    dsimp only at hl hu hd
    show ∃ s' : Int32 × Int32, _ ∧ (FL_law_5_655 ab (nI N) x6 x8 x9) rc644 kt644 kt655 (n + 1) L x (nI i) = (FL_law_5_655 ab (nI N) x6 x8 x9) rc644 kt644 kt655 n s'.1 s'.2 (nI (i + 1))
    have hun : (FL_law_5_655 ab (nI N) x6 x8 x9) rc644 kt644 kt655 (n + 1) L x (nI i) = _ := FL_law_5_655.eq_2 ..
    rw [if_neg (show ¬ nI N ≤ nI i from nI_ge hi (by omega)), bndx, zhL (show i < 32 by omega), q_s680 hN hi hab] at hun
    unfold FL_law_5_725 at hun
    rw [nI_1] at hun
    cases hb : zb L i
    · rw [hb, if_pos zi_f] at hun
      exact ⟨(L, x), ⟨hl, hu, hd⟩, hun⟩
    · rw [hb, if_neg (show ¬ zi true = 0 by decide)] at hun
      cases hz : zex (fun k => zb L k && aAbv sg ov k i) N
      · rw [hz, if_pos zi_f] at hun
        have hno : ∀ s : Nat, zb L s = true → aAbv sg ov s i = true → False := fun s h1 h2 => by
          have : zex (fun k => zb L k && aAbv sg ov k i) N = true := zex_t.mpr ⟨s, hl.1 s h1, by rw [h1, h2]; rfl⟩
          rw [hz] at this; cases this
        have hcy : ¬ zcy sg ov N i := fun z => by
          obtain ⟨_, j, hj⟩ := z
          obtain ⟨m, h4, j2, h5⟩ := zpt_tor hj
          have h6 := zE2_i h4
          exact hno m (hl.2 m ⟨h6.1, j2, h5⟩) h6.2.2
        have hlt := zless_lt (show i < 20 by omega) hb
        refine ⟨(L &&& ((1 <<< (nI i &&& 31)) ^^^ (-1)), 1), ⟨zlf_less hl (by omega) hcy, zsu_less hu (by omega) hno, Or.inr ⟨rfl, ?_⟩⟩, hun⟩
        show zbits (L &&& ((1 <<< (nI i &&& 31)) ^^^ (-1))) + 1 ≤ zbits L0
        rcases hd with hd | hd
        · rw [← hd.2]; exact hlt
        · omega
      · rw [hz, if_neg (show ¬ zi true = 0 by decide)] at hun
        exact ⟨(L, x), ⟨hl, hu, hd⟩, hun⟩) 17 0 (L0, 0) (by omega) (by omega) ⟨h0, hsu, Or.inl ⟨rfl, rfl⟩⟩
  exact ⟨s.1, s.2, e1, e2, e3.imp (fun z => z.1) id, e⟩
theorem q_s644 {kt644 : (Int32) → (Int32 × Int32)} (hN : N ≤ 10) (hab : ∀ r : Nat, r < N → zM (ab r) N (aAbv sg ov r)) : ∀ (n : Nat) (L x : Int32), zlf sg ov N L → zsu sg ov N L → (x = 0 ∨ (x = 1 ∧ zbits L + 2 ≤ n)) → 1 ≤ n → ∃ L' : Int32, zlf sg ov N L' ∧ zsu sg ov N L' ∧ (FL_law_5_644 ab (nI N) x6 x8 x9) kt644 n L x = kt644 L'
  | 0, L, x, _, _, _, h => absurd h (by omega)
  | n + 1, L, x, hl, hu, hd, _ => by
    have hun : (FL_law_5_644 ab (nI N) x6 x8 x9) kt644 (n + 1) L x = _ := FL_law_5_644.eq_2 ..
    rcases hd with h1 | ⟨h1, h2⟩
    · rw [if_pos h1] at hun
      exact ⟨L, hl, hu, hun⟩
    · rw [if_neg (show ¬ x = 0 by rw [h1]; decide)] at hun
      obtain ⟨L', x', g1, g2, g4, g3⟩ := q_s655 (x6 := x6) (x8 := x8) (x9 := x9) (rc644 := fun x9_644' x10_644' => (FL_law_5_644 ab (nI N) x6 x8 x9) kt644 n x9_644' x10_644') (kt644 := kt644) (kt655 := (FL_law_5_753 ab (nI N) x6 x8 x9) (fun x9_644' x10_644' => (FL_law_5_644 ab (nI N) x6 x8 x9) kt644 n x9_644' x10_644') kt644) hN hab hl hu
      rw [g3] at hun
      unfold FL_law_5_753 at hun
      obtain ⟨L2, k1, k2, k3⟩ := q_s644 hN hab n L' x' g1 g2 (g4.imp id (fun z => ⟨z.1, by have := z.2; omega⟩)) (by rcases g4 with z | z <;> omega)
      exact ⟨L2, k1, k2, hun.trans k3⟩
theorem q_seg5 (hN : N ≤ 10) (hab : ∀ r : Nat, r < N → zM (ab r) N (aAbv sg ov r)) (hl : zlf sg ov N x9) (hu : zsu sg ov N x9) : ∃ L : Int32, zlf sg ov N L ∧ zsu sg ov N L ∧ (FL_law_5 ab (nI N) x6 x8 x9) = (1, L) := by
  unfold FL_law_5
  obtain ⟨L, h1, h2, h3⟩ := q_s644 (ab := ab) (x6 := x6) (x8 := x8) (x9 := x9) (kt644 := (FL_law_5_756 ab (nI N) x6 x8 x9)) hN hab 23 x9 1 hl hu (Or.inr ⟨rfl, by have := zbits_le x9; omega⟩) (by omega)
  exact ⟨L, h1, h2, h3.trans rfl⟩
end ZSEG4
