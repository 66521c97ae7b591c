/-! what the court is asked, by numbers -/
theorem nI_zi1 : nI 1 = (1 : Int32) := rfl
theorem zi_or (a b : Bool) : zi a ||| zi b = zi (a || b) := by cases a <;> cases b <;> rfl
theorem zi_and (a b : Bool) : zi a &&& zi b = zi (a && b) := by cases a <;> cases b <;> rfl
theorem zhL {x : Int32} {q : Nat} (h : q < 32) : FL_has x (nI q) = zi (zb x q) := (show FL_has x (nI q) = FX8_has x (nI q) from rfl).trans (zh8 h)
/-- one of those below i -/
def zex (p : Nat → Bool) : Nat → Bool
  | 0 => false
  | i + 1 => zex p i || p i
theorem zex_t {p : Nat → Bool} : ∀ {n : Nat}, zex p n = true ↔ ∃ r : Nat, r < n ∧ p r = true
  | 0 => ⟨fun h => (by cases h), fun ⟨r, h, _⟩ => absurd h (Nat.not_lt_zero r)⟩
  | n + 1 => by
    show (zex p n || p n) = true ↔ _
    rw [Bool.or_eq_true, zex_t]
    constructor
    · rintro (⟨r, h1, h2⟩ | h)
      · exact ⟨r, by omega, h2⟩
      · exact ⟨n, Nat.lt_succ_self n, h⟩
    · rintro ⟨r, h1, h2⟩
      rcases Nat.lt_or_ge r n with c | c
      · exact Or.inl ⟨r, c, h2⟩
      · obtain rfl : r = n := by omega
        exact Or.inr h2
theorem zex_E (p : Nat → Bool) (n : Nat) : zex p n = zE p n := by
  cases e : zE p n
  · cases e2 : zex p n
    · rfl
    · obtain ⟨r, h1, h2⟩ := zex_t.mp e2
      rw [zE_f.mp e r h1] at h2; cases h2
  · exact zex_t.mpr (zE_t.mp e)
theorem zE_and {a : Bool} {p : Nat → Bool} {n : Nat} (f : Nat → Bool) (h : ∀ r, r < n → f r = (a && p r)) : zE f n = (a && zE p n) := by
  rw [zE_eq h]
  cases a
  · exact zE_f.mpr (fun r _ => rfl)
  · exact zE_eq (fun r _ => rfl)
section ZASK
variable {c_kind c_head c_body c_excepts c_power c_beats tf : Nat → Int32} {c_shut : Int32} {N : Nat}
theorem q_has {r : Nat} (hN : N ≤ 16) (hr : r < N) : FX0_hasRule (nI N) (nI r) = 1 := by
  unfold FX0_hasRule
  rw [if_neg (nI_pos (by omega)), if_neg (nI_ge hr (by omega))]
theorem q_r0 {r : Nat} (hN : N ≤ 16) (hr : r < N) : FX8_ruleOf c_kind c_head c_body c_excepts c_power c_beats (nI N) c_shut (nI r) 0 = c_kind r := by
  unfold FX8_ruleOf
  simp only [bnd]
  rw [q_has hN hr, if_neg (by decide), if_pos trivial, nI_clamp (by omega)]
theorem q_r2 {r : Nat} (hN : N ≤ 16) (hr : r < N) : FX8_ruleOf c_kind c_head c_body c_excepts c_power c_beats (nI N) c_shut (nI r) 2 = c_body r := by
  unfold FX8_ruleOf
  simp only [bnd]
  rw [q_has hN hr, if_neg (by decide), if_neg (by decide), if_neg (by decide), if_pos trivial, nI_clamp (by omega)]
theorem q_r3 {r : Nat} (hN : N ≤ 16) (hr : r < N) : FX8_ruleOf c_kind c_head c_body c_excepts c_power c_beats (nI N) c_shut (nI r) 3 = c_excepts r := by
  unfold FX8_ruleOf
  simp only [bnd]
  rw [q_has hN hr, if_neg (by decide), if_neg (by decide), if_neg (by decide), if_neg (by decide), if_pos trivial, nI_clamp (by omega)]
theorem q_r4 {r : Nat} (hN : N ≤ 16) (hr : r < N) : FX8_ruleOf c_kind c_head c_body c_excepts c_power c_beats (nI N) c_shut (nI r) 4 = c_power r := by
  unfold FX8_ruleOf
  simp only [bnd]
  rw [q_has hN hr, if_neg (by decide), if_neg (by decide), if_neg (by decide), if_neg (by decide), if_neg (by decide), if_pos trivial, nI_clamp (by omega)]
theorem q_r6 {r : Nat} (hN : N ≤ 16) (hr : r < N) : FX8_ruleOf c_kind c_head c_body c_excepts c_power c_beats (nI N) c_shut (nI r) 6 = c_beats r := by
  unfold FX8_ruleOf
  simp only [bnd]
  rw [q_has hN hr, if_neg (by decide), if_neg (by decide), if_neg (by decide), if_neg (by decide), if_neg (by decide), if_neg (by decide), if_neg (by decide), if_pos trivial, nI_clamp (by omega)]
theorem q_r7 {r : Nat} (hN : N ≤ 16) (hr : r < N) (hb : ∀ o, zb (c_beats r) o = true → o < N ∧ o ≠ r) : zM (FX8_ruleOf c_kind c_head c_body c_excepts c_power c_beats (nI N) c_shut (nI r) 7) N (aAbv c_power c_beats r) := by
  have h := k_rulesBelow (c_power := c_power) (c_beats := c_beats) hN hr hb
  unfold FX8_ruleOf
  simp only [bnd]
  rw [q_has hN hr, if_neg (by decide), if_neg (by decide), if_neg (by decide), if_neg (by decide), if_neg (by decide), if_neg (by decide), if_neg (by decide), if_neg (by decide), if_pos trivial]
  exact h
theorem q_app {r : Nat} (hN : N ≤ 16) (hr : r < N) : FL_applies c_kind c_head c_body c_excepts c_power c_beats (nI N) c_shut tf (nI r) = zi (aApp c_body c_excepts tf r) := by
  unfold FL_applies aApp
  simp only [bnd]
  rw [q_r2 hN hr, q_r3 hN hr, zc2, zc3]
  by_cases h1 : c_body r &&& (tf 2 ^^^ (-1)) = 0
  · rw [if_pos h1, decide_eq_true h1]
    by_cases h2 : c_excepts r &&& (tf 3 ^^^ (-1)) = 0
    · rw [if_pos h2, decide_eq_true h2]; rfl
    · rw [if_neg h2, decide_eq_false h2]; rfl
  · rw [if_neg h1, decide_eq_false h1]; rfl
theorem q_fal {r : Nat} (hN : N ≤ 16) (hr : r < N) : FL_falls c_kind c_head c_body c_excepts c_power c_beats (nI N) c_shut tf (nI r) = zi (aFal c_body c_excepts tf r) := by
  unfold FL_falls aFal
  simp only [bnd]
  rw [q_r2 hN hr, q_r3 hN hr, zc2, zc3]
  by_cases h1 : c_body r &&& tf 3 = 0
  · rw [if_pos h1, decide_eq_true h1]
    by_cases h2 : c_excepts r &&& tf 2 = 0
    · rw [if_pos h2, decide_eq_true h2]; rfl
    · rw [if_neg h2, decide_eq_false h2]; rfl
  · rw [if_neg h1, decide_eq_false h1]; rfl
theorem q_lit {q : Nat} (hq : q < 20) : ¬ FX8_isLiteral (nI q) = 0 := by
  have key : ∀ q : Nat, q < 20 → ¬ FX8_isLiteral (nI q) = 0 := by decide +kernel
  exact key q hq
theorem q_tag {q : Nat} (hq : q < 4) : ¬ FX8_isTag (nI q) = 0 := by
  have key : ∀ q : Nat, q < 4 → ¬ FX8_isTag (nI q) = 0 := by decide +kernel
  exact key q hq
theorem q_for {q : Nat} {al : Nat → Int32} (hq : q < 20) : FX8_rulesFor_s al (nI q) = al q := by
  unfold FX8_rulesFor_s
  rw [if_neg (q_lit hq), nI_clamp (by omega)]
theorem q_oth {q : Nat} (hq : q < 20) : nI q + 10 - (nI q + 10) / 20 * 20 = nI (aOth q) := by
  have key : ∀ q : Nat, q < 20 → nI q + 10 - (nI q + 10) / 20 * 20 = nI (aOth q) := by decide +kernel
  exact key q hq
end ZASK
