/-! which rule is above which, read by the law -/
section ZSEG3
variable {c_kind c_head c_body c_excepts c_power c_beats ab : Nat → Int32} {c_shut x6 : Int32} {N : Nat}
theorem q_s462 {rc424 : (Int32) → (Int32) → (Nat → Int32) → (Int32 × (Nat → Int32) × Int32)} {kt424 : (Int32) → (Nat → Int32) → (Int32 × (Nat → Int32) × Int32)} {kt462 : (Int32) → (Int32) → (Nat → Int32) → (Int32 × (Nat → Int32) × Int32)} {r : Nat} {x8 : Int32} {w : Nat → Int32} (hN : N ≤ 16) (hr : r < N) (ha : ∀ r k : Nat, r < N → k < N → zb (c_beats r) k = true → zb (c_beats k) r = true → False) (hw : zM (w r) N (aAbv c_power c_beats r)) : (FL_law_3_462 c_kind c_head c_body c_excepts c_power c_beats (nI N) c_shut ab (nI N) x6) rc424 kt424 kt462 17 x8 (nI r) 0 w = kt462 x8 (nI r) w := by
  obtain ⟨s, hs, e⟩ := zloopI (S := Unit) (L := fun n i _ => (FL_law_3_462 c_kind c_head c_body c_excepts c_power c_beats (nI N) c_shut ab (nI N) x6) rc424 kt424 kt462 n x8 (nI r) i w) (kt := fun _ => kt462 x8 (nI r) w) N (I := fun _ _ => True) (by
    intro n s _
    have hun : (FL_law_3_462 c_kind c_head c_body c_excepts c_power c_beats (nI N) c_shut ab (nI N) x6) rc424 kt424 kt462 (n + 1) x8 (nI r) (nI N) w = _ := FL_law_3_462.eq_2 ..
    rw [if_pos (show nI N ≤ nI N from nI_le (Nat.le_refl N) (by omega))] at hun
    exact hun) (by
    intro n k s hk _
    refine ⟨(), trivial, ?_⟩
    have hun : (FL_law_3_462 c_kind c_head c_body c_excepts c_power c_beats (nI N) c_shut ab (nI N) x6) rc424 kt424 kt462 (n + 1) x8 (nI r) (nI k) w = _ := FL_law_3_462.eq_2 ..
    rw [if_neg (show ¬ nI N ≤ nI k from nI_ge hk (by omega)), bndx, q_r6 hN hr, bndx, zhL (show k < 32 by omega), bndx, q_r6 hN hk, bndx, zhL (show r < 32 by omega)] at hun
    refine hun.trans ?_
    have key : ∀ rc424 kt424 rc462' kt462', (FL_law_3_508 c_kind c_head c_body c_excepts c_power c_beats (nI N) c_shut ab (nI N) x6) rc424 kt424 rc462' kt462' x8 (nI r) (nI k) (zi (zb (c_beats r) k)) (zi (zb (c_beats k) r)) w = rc462' x8 (nI r) (nI (k + 1)) w := by
      intro rc424 kt424 rc462' kt462'
      unfold FL_law_3_508 FL_law_3_549 FL_law_3_545
      rw [bndx, bndx, bndx, nI_clamp (show r < 2 ^ 31 by omega), zhL (show k < 32 by omega), zM_b hw hk, q_r4 hN hr, q_r4 hN hk, nI_1]
      have haab : aAbv c_power c_beats r k = if zb (c_beats r) k || zb (c_beats k) r then zb (c_beats r) k else !decide (c_power r ≤ c_power k) := rfl
      rw [haab]
      cases h1 : zb (c_beats r) k
      · rw [if_pos zi_f, Bool.false_or]
        cases h2 : zb (c_beats k) r
        · rw [if_pos zi_f, if_neg Bool.false_ne_true]
          by_cases h3 : c_power r ≤ c_power k
          · rw [if_pos h3, decide_eq_true h3, if_pos (show zi (!true) = 0 by decide)]
          · rw [if_neg h3, decide_eq_false h3, if_pos (show zi (!false) = 1 by decide)]
        · rw [if_neg (show ¬ zi true = 0 by decide), if_pos rfl, if_pos zi_f]
      · rw [if_neg (show ¬ zi true = 0 by decide), Bool.true_or, if_pos rfl, if_pos (show zi true = 1 from rfl)]
    cases h1 : zb (c_beats r) k
    · rw [if_pos zi_f]
      rw [h1] at key
      exact key _ _ _ _
    · cases h2 : zb (c_beats k) r
      · rw [if_neg (show ¬ zi true = 0 by decide), if_pos zi_f]
        rw [h1, h2] at key
        exact key _ _ _ _
      · exact (ha r k hr hk h1 h2).elim) 17 0 () (by omega) (by omega) trivial
  exact e
theorem q_seg3 (hN : N ≤ 16) (hb : ∀ r : Nat, r < N → ∀ o, zb (c_beats r) o = true → o < N ∧ o ≠ r) (ha : ∀ r k : Nat, r < N → k < N → zb (c_beats r) k = true → zb (c_beats k) r = true → False) : ∃ w : Nat → Int32, (∀ r : Nat, r < N → zM (w r) N (aAbv c_power c_beats r)) ∧ (FL_law_3 c_kind c_head c_body c_excepts c_power c_beats (nI N) c_shut ab (nI N) x6) = (1, w, zhm c_beats N) := by
  unfold FL_law_3
  obtain ⟨s, ⟨e1, e2⟩, e⟩ := zloopI (S := Int32 × (Nat → Int32)) (L := fun n i s => (FL_law_3_424 c_kind c_head c_body c_excepts c_power c_beats (nI N) c_shut ab (nI N) x6) ((FL_law_3_567 c_kind c_head c_body c_excepts c_power c_beats (nI N) c_shut ab (nI N) x6)) n s.1 i s.2) (kt := fun s => (FL_law_3_567 c_kind c_head c_body c_excepts c_power c_beats (nI N) c_shut ab (nI N) x6) s.1 s.2) N (I := fun i s => s.1 = zhm c_beats i ∧ ∀ r : Nat, r < i → zM (s.2 r) N (aAbv c_power c_beats r)) (by
    intro n s _
    have hun : (FL_law_3_424 c_kind c_head c_body c_excepts c_power c_beats (nI N) c_shut ab (nI N) x6) ((FL_law_3_567 c_kind c_head c_body c_excepts c_power c_beats (nI N) c_shut ab (nI N) x6)) (n + 1) s.1 (nI N) s.2 = _ := FL_law_3_424.eq_2 ..
    rw [if_pos (show nI N ≤ nI N from nI_le (Nat.le_refl N) (by omega))] at hun
    exact hun) (by
    intro n r s hr hs
    obtain ⟨m, w⟩ := s
    obtain ⟨hm, hw⟩ := hs
    dsimp only at hm hw
    subst hm
    show ∃ s' : Int32 × (Nat → Int32), _ ∧ (FL_law_3_424 c_kind c_head c_body c_excepts c_power c_beats (nI N) c_shut ab (nI N) x6) ((FL_law_3_567 c_kind c_head c_body c_excepts c_power c_beats (nI N) c_shut ab (nI N) x6)) (n + 1) (zhm c_beats r) (nI r) w = (FL_law_3_424 c_kind c_head c_body c_excepts c_power c_beats (nI N) c_shut ab (nI N) x6) ((FL_law_3_567 c_kind c_head c_body c_excepts c_power c_beats (nI N) c_shut ab (nI N) x6)) n s'.1 (nI (r + 1)) s'.2
    have hun : (FL_law_3_424 c_kind c_head c_body c_excepts c_power c_beats (nI N) c_shut ab (nI N) x6) ((FL_law_3_567 c_kind c_head c_body c_excepts c_power c_beats (nI N) c_shut ab (nI N) x6)) (n + 1) (zhm c_beats r) (nI r) w = _ := FL_law_3_424.eq_2 ..
    have h7 := q_r7 (c_kind := c_kind) (c_head := c_head) (c_body := c_body) (c_excepts := c_excepts) (c_power := c_power) (c_shut := c_shut) hN hr (hb r hr)
    rw [if_neg (show ¬ nI N ≤ nI r from nI_ge hr (by omega)), bndx, bndx, bndx, q_r6 hN hr, nI_clamp (show r < 2 ^ 31 by omega), q_s462 hN hr ha (by rw [pk_us]; exact h7)] at hun
    unfold FL_law_3_561 at hun
    rw [nI_1] at hun
    refine ⟨(zhm c_beats r + FJ6_bitCount_0f7a4 (c_beats r), upd w r (FX8_ruleOf c_kind c_head c_body c_excepts c_power c_beats (nI N) c_shut (nI r) 7)), ⟨?_, fun j hj => ?_⟩, hun⟩
    · rfl
    · show zM (upd w r _ j) N _
      by_cases c : j = r
      · subst c; rw [pk_us]; exact h7
      · rw [pk_un c]; exact hw j (by omega)) 17 0 (0, ab) (by omega) (by omega) ⟨rfl, fun r h => absurd h (Nat.not_lt_zero r)⟩
  refine ⟨s.2, e2, ?_⟩
  refine Eq.trans (show _ = (FL_law_3_567 c_kind c_head c_body c_excepts c_power c_beats (nI N) c_shut ab (nI N) x6) s.1 s.2 from e) ?_
  unfold FL_law_3_567
  rw [e1]
theorem k_pairs (hN : N ≤ 16) : FX0_pairs c_beats (nI N) = zhm c_beats N := by
  unfold FX0_pairs
  obtain ⟨s, hs, e⟩ := zloopI (L := fun n i s => FX0_pairs_4 c_beats (nI N) (FX0_pairs_30 c_beats (nI N)) n s i) (kt := fun s => s) N (I := fun i s => s = zhm c_beats i) (by
    intro n s _
    have hun : FX0_pairs_4 c_beats (nI N) (FX0_pairs_30 c_beats (nI N)) (n + 1) s (nI N) = _ := FX0_pairs_4.eq_2 ..
    rw [if_pos (show nI N ≤ nI N from nI_le (Nat.le_refl N) (by omega))] at hun
    exact hun) (by
    intro n i s hi hs
    subst hs
    refine ⟨_, rfl, ?_⟩
    have hun : FX0_pairs_4 c_beats (nI N) (FX0_pairs_30 c_beats (nI N)) (n + 1) (zhm c_beats i) (nI i) = _ := FX0_pairs_4.eq_2 ..
    rw [if_neg (show ¬ nI N ≤ nI i from nI_ge hi (by omega)), bndx, nI_clamp (show i < 2 ^ 31 by omega), nI_1] at hun
    exact hun) 17 0 0 (by omega) (by omega) rfl
  subst hs
  exact e
end ZSEG3
