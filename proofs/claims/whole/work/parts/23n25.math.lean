/-! words: what both read, byte by byte -/
def zo : Option Int32 → Int32
  | none => -1
  | some x => x
theorem zo_s (x : Int32) : zo (some x) = x := rfl
theorem zo_n : zo none = -1 := rfl
theorem nI_m1 {n : Nat} (h : n < 2 ^ 31) : ¬ nI n = -1 := fun e => nI_pos h (by rw [e]; decide)
theorem zLo_m1 {x : Int32} (h : zLo x) : ¬ x = -1 := fun e => by
  have h1 := h 20 (Nat.le_refl 20)
  rw [e, zb_m1 (by omega)] at h1
  cases h1
theorem zite2 {α : Type} {c lo hi : Int32} {x y : α} (h : c < lo ∨ hi < c) : (if c < lo then x else if c ≤ hi then y else x) = x := by
  by_cases c1 : c < lo
  · rw [if_pos c1]
  · rw [if_neg c1, if_neg (show ¬ c ≤ hi from fun k => by
      rcases h with h | h
      · exact c1 h
      · exact Int32.not_le.mpr h k)]
theorem zin_u (c lo hi : Int32) : FX9_in c lo hi = if c < lo then 0 else if hi < c then 0 else 1 := (show FX9_in c lo hi = if c < lo then 0 else if hi < c then 0 else 1 from rfl).trans (Eq.refl _)
theorem zin0 {c lo hi : Int32} (h : c < lo ∨ hi < c) : FX9_in c lo hi = 0 := by
  rw [zin_u]
  by_cases c1 : c < lo
  · rw [if_pos c1]
  · rw [if_neg c1, if_pos (by
      rcases h with h | h
      · exact absurd h c1
      · exact h)]
theorem zin1 {lo hi d : Nat} (h : lo + d ≤ hi) (hh : hi < 1000) : FX9_in (nI (lo + d)) (nI lo) (nI hi) = 1 := by
  rw [zin_u, if_neg (nI_nlt (by omega) (by omega)), if_neg (nI_nlt (by omega) (by omega))]
theorem zfig_u (c : Int32) : FX7_isFigure c = FX9_in c 48 57 := (show FX7_isFigure c = FX9_in c 48 57 from rfl).trans (Eq.refl _)
theorem z97 {d : Nat} : nI (97 + d) - 97 = nI d := by
  rw [show (97 : Int32) = nI 97 from rfl, pk_sub (by omega), Nat.add_sub_cancel_left]
theorem z48 {d : Nat} : nI (48 + d) - 48 = nI d := by
  rw [show (48 : Int32) = nI 48 from rfl, pk_sub (by omega), Nat.add_sub_cancel_left]
theorem z_oth {d : Nat} (h : d < 10) : FX8_otherOf (nI d) = nI (10 + d) := by
  have key : ∀ d : Nat, d < 10 → FX8_otherOf (nI d) = nI (10 + d) := by decide +kernel
  exact key d h
section ZPAR
variable {f g : Nat → Int32} {L : Nat}
theorem x_take (hL : L ≤ 120) (hfg : ∀ i, i < L → f i = g i) {a : Nat} (ha : a ≤ L) (c : Int32) (hc : ¬ c = -1) : (a < L ∧ f a = c ∧ FX7_take f (nI L) (nI a) c = (1, nI (a + 1)) ∧ FX9_takes g (nI L) (nI a) c = (1, nI (a + 1)) ∧ FX9_here g (nI L) (nI a) = c) ∨ ((a < L → ¬ f a = c) ∧ FX7_take f (nI L) (nI a) c = (0, nI a) ∧ FX9_takes g (nI L) (nI a) c = (0, nI a) ∧ ¬ FX9_here g (nI L) (nI a) = c) := by
  unfold FX7_take FX9_takes FX9_here
  rw [bndx]
  by_cases h : a < L
  · rw [if_neg (nI_ge h (by omega)), if_neg (nI_ge h (by omega)), nI_clamp (show a < 2 ^ 31 by omega), ← hfg a h]
    by_cases e : f a = c
    · rw [if_pos e, nI_1]
      exact Or.inl ⟨h, e, rfl, rfl, e⟩
    · rw [if_neg e]
      exact Or.inr ⟨fun _ => e, rfl, rfl, e⟩
  · obtain rfl : a = L := by omega
    rw [if_pos (nI_le (Nat.le_refl a) (by omega)), if_pos (nI_le (Nat.le_refl a) (by omega)), if_neg (fun e => hc e.symm)]
    exact Or.inr ⟨fun h2 => absurd h2 h, rfl, rfl, fun e => hc e.symm⟩
theorem x_byte (hL : L ≤ 120) (hfg : ∀ i, i < L → f i = g i) {b : Nat} (hb : b ≤ L) : (b < L ∧ FX7_next f (nI L) (nI b) = f b ∧ FX9_here g (nI L) (nI b) = f b) ∨ (b = L ∧ FX7_next f (nI L) (nI b) = 0 ∧ FX9_here g (nI L) (nI b) = -1) := by
  unfold FX7_next FX9_here
  by_cases h : b < L
  · rw [if_neg (nI_ge h (by omega)), if_neg (nI_ge h (by omega)), nI_clamp (show b < 2 ^ 31 by omega), ← hfg b h]
    exact Or.inl ⟨h, rfl, rfl⟩
  · obtain rfl : b = L := by omega
    rw [if_pos (nI_le (Nat.le_refl b) (by omega)), if_pos (nI_le (Nat.le_refl b) (by omega))]
    exact Or.inr ⟨rfl, rfl, rfl⟩
theorem x_rng (hL : L ≤ 120) (hfg : ∀ i, i < L → f i = g i) {lo hi : Nat} (hh : hi < 1000) (h1 : (0 : Int32) < nI lo) (h2 : (-1 : Int32) < nI lo) (hlo : lo ≤ hi) {b : Nat} (hb : b ≤ L) : (∃ d : Nat, lo + d ≤ hi ∧ b < L ∧ FX7_next f (nI L) (nI b) = nI (lo + d) ∧ FX9_here g (nI L) (nI b) = nI (lo + d)) ∨ ((FX7_next f (nI L) (nI b) < nI lo ∨ nI hi < FX7_next f (nI L) (nI b)) ∧ (FX9_here g (nI L) (nI b) < nI lo ∨ nI hi < FX9_here g (nI L) (nI b))) := by
  rcases x_byte hL hfg hb with ⟨k, e1, e2⟩ | ⟨k, e1, e2⟩
  · rw [e1, e2]
    by_cases c1 : f b < nI lo
    · exact Or.inr ⟨Or.inl c1, Or.inl c1⟩
    by_cases c2 : nI hi < f b
    · exact Or.inr ⟨Or.inr c2, Or.inr c2⟩
    have c3 : ¬ f b < 0 := by
      rw [Int32.lt_iff_toInt_lt] at c1 ⊢
      rw [nI_toInt (by omega)] at c1
      rw [show (0 : Int32).toInt = 0 from by decide]
      omega
    obtain ⟨j, hj, e⟩ := nI_of c3
    rw [e] at c1 c2 ⊢
    rw [nI_ltI hj (by omega)] at c1
    rw [nI_ltI (by omega) hj] at c2
    exact Or.inl ⟨j - lo, by omega, k, by rw [show lo + (j - lo) = j by omega], by rw [show lo + (j - lo) = j by omega]⟩
  · rw [e1, e2]
    exact Or.inr ⟨Or.inl h1, Or.inl h2⟩
theorem x_let (hL : L ≤ 120) (hfg : ∀ i, i < L → f i = g i) {b : Nat} (hb : b ≤ L) : (∃ d : Nat, d < 10 ∧ b < L ∧ FX7_next f (nI L) (nI b) = nI (97 + d) ∧ FX9_here g (nI L) (nI b) = nI (97 + d) ∧ FX9_in (nI (97 + d)) 97 106 = 1) ∨ ((FX7_next f (nI L) (nI b) < 97 ∨ 106 < FX7_next f (nI L) (nI b)) ∧ FX9_in (FX9_here g (nI L) (nI b)) 97 106 = 0) := by
  rcases x_rng hL hfg (lo := 97) (hi := 106) (by decide) (by decide) (by decide) (by decide) hb with ⟨d, hd, h1, h2, h3⟩ | ⟨h1, h2⟩
  · exact Or.inl ⟨d, by omega, h1, h2, h3, zin1 (lo := 97) (hi := 106) hd (by decide)⟩
  · exact Or.inr ⟨h1, zin0 h2⟩
theorem x_fig (hL : L ≤ 120) (hfg : ∀ i, i < L → f i = g i) {b : Nat} (hb : b ≤ L) : (∃ d : Nat, d < 10 ∧ b < L ∧ FX7_next f (nI L) (nI b) = nI (48 + d) ∧ FX9_here g (nI L) (nI b) = nI (48 + d) ∧ FX9_in (nI (48 + d)) 48 57 = 1 ∧ FX7_readFigure f (nI L) (nI b) = (nI d, nI (b + 1))) ∨ (FX7_isFigure (FX7_next f (nI L) (nI b)) = 0 ∧ FX9_in (FX9_here g (nI L) (nI b)) 48 57 = 0 ∧ FX7_readFigure f (nI L) (nI b) = (-1, nI b)) := by
  unfold FX7_readFigure
  rw [bndx, bndx]
  rcases x_rng hL hfg (lo := 48) (hi := 57) (by decide) (by decide) (by decide) (by decide) hb with ⟨d, hd, h1, h2, h3⟩ | ⟨h1, h2⟩
  · have k : FX9_in (nI (48 + d)) 48 57 = 1 := zin1 (lo := 48) (hi := 57) hd (by decide)
    rw [h2, zfig_u, k, if_neg (show ¬ (1 : Int32) = 0 by decide), z48, nI_1]
    exact Or.inl ⟨d, by omega, h1, rfl, h3, k, rfl⟩
  · have k : FX7_isFigure (FX7_next f (nI L) (nI b)) = 0 := by rw [zfig_u]; exact zin0 h1
    rw [k, if_pos rfl]
    exact Or.inr ⟨rfl, zin0 h2, rfl⟩
theorem x_lit (hL : L ≤ 120) (hfg : ∀ i, i < L → f i = g i) {a : Nat} (ha : a ≤ L) : ∃ (o : Option Int32) (b : Nat), a ≤ b ∧ b ≤ L ∧ (∀ x, o = some x → a + 1 ≤ b ∧ ∃ q : Nat, q < 20 ∧ x = nI q) ∧ FX7_readLiteral f (nI L) (nI a) = (zo o, nI b) ∧ ∀ l, ∃ l', FX9_literal g (nI L) (nI a) l = (zi o.isSome, nI b, l') ∧ ∀ x, o = some x → l' = x := by
  unfold FX7_readLiteral FX9_literal
  rw [bndx]
  rcases x_take hL hfg ha 126 (by decide) with ⟨h, -, e7, e9, -⟩ | ⟨-, e7, e9, -⟩
  · rw [e7, bndx]
    dsimp only
    rcases x_let hL hfg (b := a + 1) h with ⟨d, hd, hlt, en, eh, ei⟩ | ⟨hc, ei⟩
    · refine ⟨some (nI (10 + d)), a + 2, by omega, by omega, fun x hx => ⟨by omega, 10 + d, by omega, by cases hx; rfl⟩, ?_, fun l => ⟨nI (10 + d), ?_, fun x hx => by cases hx; rfl⟩⟩
      · rw [en, if_neg (show ¬ nI (97 + d) < (97 : Int32) from nI_nlt (b := 97) (by omega) (by omega)), if_pos (show nI (97 + d) ≤ (106 : Int32) from nI_le (b := 106) (by omega) (by decide)), if_neg (show ¬ (1 : Int32) = 0 by decide), bndx, z97, z_oth hd, nI_1]
        rfl
      · rw [bndx, e9]
        dsimp only
        rw [if_neg (show ¬ (1 : Int32) = 0 by decide)]
        unfold FX9_literal_16
        rw [bndx, eh, bndx, ei, if_neg (show ¬ (1 : Int32) = 0 by decide), bndx, z97, nI_1, show (10 : Int32) + nI d = nI (10 + d) from nI_add 10 d]
        rfl
    · refine ⟨none, a + 1, by omega, by omega, (fun x hx => by cases hx), ?_, fun l => ⟨10, ?_, fun x hx => by cases hx⟩⟩
      · exact zite2 hc
      · rw [bndx, e9]
        dsimp only
        rw [if_neg (show ¬ (1 : Int32) = 0 by decide)]
        unfold FX9_literal_16
        rw [bndx, bndx, ei, if_pos rfl]
        rfl
  · rw [e7, bndx]
    dsimp only
    rcases x_let hL hfg (b := a) ha with ⟨d, hd, hlt, en, eh, ei⟩ | ⟨hc, ei⟩
    · refine ⟨some (nI d), a + 1, by omega, by omega, fun x hx => ⟨by omega, d, by omega, by cases hx; rfl⟩, ?_, fun l => ⟨nI d, ?_, fun x hx => by cases hx; rfl⟩⟩
      · rw [en, if_neg (show ¬ nI (97 + d) < (97 : Int32) from nI_nlt (b := 97) (by omega) (by omega)), if_pos (show nI (97 + d) ≤ (106 : Int32) from nI_le (b := 106) (by omega) (by decide)), if_pos rfl, z97, nI_1]
        rfl
      · rw [bndx, e9]
        dsimp only
        rw [if_pos rfl]
        unfold FX9_literal_16
        rw [bndx, eh, bndx, ei, if_neg (show ¬ (1 : Int32) = 0 by decide), bndx, z97, nI_1, show (0 : Int32) + nI d = nI (0 + d) from nI_add 0 d, Nat.zero_add]
        rfl
    · refine ⟨none, a, by omega, by omega, (fun x hx => by cases hx), ?_, fun l => ⟨0, ?_, fun x hx => by cases hx⟩⟩
      · exact zite2 hc
      · rw [bndx, e9]
        dsimp only
        rw [if_pos rfl]
        unfold FX9_literal_16
        rw [bndx, bndx, ei, if_pos rfl]
        rfl
theorem zLo_or1 {b x : Int32} {q : Nat} (hb : zLo b) (hq : q < 20) (hx : x = nI q) : zLo (b ||| (1 <<< (x &&& 31))) := fun j hj => by
  rw [hx, zb_or, hb j hj, zb_one (by omega), Bool.false_or]
  exact decide_eq_false (by omega)
theorem x_lits6 (hL : L ≤ 120) (hfg : ∀ i, i < L → f i = g i) {at7 : Int32} : ∀ (m a : Nat) (bits : Int32), a ≤ L → L < a + m → zLo bits → ∃ (o : Option Int32) (b : Nat), a ≤ b ∧ b ≤ L ∧ (∀ x, o = some x → a + 1 ≤ b ∧ zLo x) ∧ (∀ n i : Nat, i + n = 121 → 2 * i ≤ a → FX7_readLiterals_6 f (nI L) at7 (FX7_readLiterals_50 f (nI L) at7) n bits 1 (nI i) (nI a) = (zo o, nI b)) ∧ ∀ (n : Nat) (l at9 l9 : Int32), L < a + n → ∃ l', FX9_literals_2 g (nI L) at9 l9 (FX9_literals_29 g (nI L) at9 l9) n bits (nI a) l = (zi o.isSome, nI b, l') ∧ ∀ x, o = some x → l' = x
  | 0, a, bits, h1, h2, _ => absurd h2 (by omega)
  | m + 1, a, bits, h1, h2, hb => by
    obtain ⟨o, b, k1, k2, k3, k4, k5⟩ := x_lit hL hfg h1
    cases o with
    | none =>
      refine ⟨none, b, k1, k2, (fun x hx => by cases hx), fun n i hi h2i => ?_, fun n l at9 l9 hn => ?_⟩
      · cases n with
        | zero => omega
        | succ n =>
          rw [FX7_readLiterals_6, if_neg (show ¬ (120 : Int32) ≤ nI i from nI_ge (b := 120) (by omega) (by omega)), if_neg (show ¬ (1 : Int32) = 0 by decide), bndx, k4]
          exact if_pos rfl
      · cases n with
        | zero => omega
        | succ n =>
          obtain ⟨l', e, -⟩ := k5 l
          refine ⟨l', ?_, fun x hx => by cases hx⟩
          rw [FX9_literals_2, bndx, e]
          exact if_pos rfl
    | some x =>
      obtain ⟨k6, q, hq, hx⟩ := k3 x rfl
      have hxm : ¬ x = -1 := by rw [hx]; exact nI_m1 (by omega)
      have hb2 := zLo_or1 hb hq hx
      rcases x_take hL hfg k2 44 (by decide) with ⟨t1, -, e7, e9, -⟩ | ⟨-, e7, e9, -⟩
      · obtain ⟨o, b', j1, j2, j3, j4, j5⟩ := x_lits6 hL hfg (at7 := at7) m (b + 1) (bits ||| (1 <<< (x &&& 31))) t1 (by omega) hb2
        refine ⟨o, b', by omega, j2, fun y hy => ⟨by have := (j3 y hy).1; omega, (j3 y hy).2⟩, fun n i hi h2i => ?_, fun n l at9 l9 hn => ?_⟩
        · cases n with
          | zero => omega
          | succ n =>
            rw [FX7_readLiterals_6, if_neg (show ¬ (120 : Int32) ≤ nI i from nI_ge (b := 120) (by omega) (by omega)), if_neg (show ¬ (1 : Int32) = 0 by decide), bndx, k4]
            (repeat rewrite [zo_s])
            (repeat rewrite [zo_n])
            try dsimp only
            rw [if_neg hxm, bndx, e7, nI_1]
            exact j4 n (i + 1) (by omega) (by omega)
        · cases n with
          | zero => omega
          | succ n =>
            obtain ⟨l', e, hl⟩ := k5 l
            obtain rfl := hl x rfl
            rw [FX9_literals_2, bndx, e]
            dsimp only [Option.isSome]
            rw [if_neg (show ¬ zi true = 0 by decide), bndx, e9]
            dsimp only
            rw [if_neg (show ¬ (1 : Int32) = 0 by decide)]
            exact j5 n _ _ _ (by omega)
      · refine ⟨some (bits ||| (1 <<< (x &&& 31))), b, k1, k2, fun y hy => ⟨k6, by cases hy; exact hb2⟩, fun n i hi h2i => ?_, fun n l at9 l9 hn => ?_⟩
        · cases n with
          | zero => omega
          | succ n =>
            rw [FX7_readLiterals_6, if_neg (show ¬ (120 : Int32) ≤ nI i from nI_ge (b := 120) (by omega) (by omega)), if_neg (show ¬ (1 : Int32) = 0 by decide), bndx, k4]
            (repeat rewrite [zo_s])
            (repeat rewrite [zo_n])
            try dsimp only
            rw [if_neg hxm, bndx, e7, nI_1]
            dsimp only
            cases n with
            | zero => rfl
            | succ n =>
              rw [FX7_readLiterals_6, if_pos (show (0 : Int32) = 0 from rfl), ite_self]
              rfl
        · cases n with
          | zero => omega
          | succ n =>
            obtain ⟨l', e, hl⟩ := k5 l
            obtain rfl := hl x rfl
            refine ⟨bits ||| (1 <<< (l' &&& 31)), ?_, fun y hy => by cases hy; rfl⟩
            rw [FX9_literals_2, bndx, e]
            dsimp only [Option.isSome]
            rw [if_neg (show ¬ zi true = 0 by decide), bndx, e9]
            exact if_pos rfl
theorem x_lits (hL : L ≤ 120) (hfg : ∀ i, i < L → f i = g i) {a : Nat} (ha : a ≤ L) : ∃ (o : Option Int32) (b : Nat), a ≤ b ∧ b ≤ L ∧ (∀ x, o = some x → a + 1 ≤ b ∧ zLo x) ∧ FX7_readLiterals f (nI L) (nI a) = (zo o, nI b) ∧ ∀ l, ∃ l', FX9_literals g (nI L) (nI a) l = (zi o.isSome, nI b, l') ∧ ∀ x, o = some x → l' = x := by
  have hz : zLo 0 := fun q _ => zb_0 q
  obtain ⟨o, b, k1, k2, k3, k4, k5⟩ := x_lits6 hL hfg (at7 := nI a) 122 a 0 ha (by omega) hz
  exact ⟨o, b, k1, k2, k3, k4 121 0 (by omega) (by omega), fun l => k5 122 l (nI a) l (by omega)⟩
theorem x_num (hL : L ≤ 120) (hfg : ∀ i, i < L → f i = g i) {a : Nat} (ha : a ≤ L) : ∃ (o : Option Int32) (b : Nat), a ≤ b ∧ b ≤ L ∧ (∀ x, o = some x → a + 1 ≤ b ∧ ∃ v : Nat, v < 100 ∧ x = nI v) ∧ FX7_readNumber f (nI L) (nI a) = (zo o, nI b) ∧ (∀ l, ∃ l', FX9_number g (nI L) (nI a) l = (zi o.isSome, nI b, l') ∧ ∀ x, o = some x → l' = x) ∧ (o = none → FX9_in (FX9_here g (nI L) (nI a)) 48 57 = 0) := by
  unfold FX7_readNumber FX9_number
  rw [bndx]
  rcases x_fig hL hfg ha with ⟨d, hd, hlt, en, eh, ei, er⟩ | ⟨en, ei, er⟩
  · rw [er]
    dsimp only
    rw [if_neg (nI_m1 (show d < 2 ^ 31 by omega)), bndx, bndx]
    rcases x_fig hL hfg (b := a + 1) hlt with ⟨d2, hd2, hlt2, en2, eh2, ei2, er2⟩ | ⟨en2, ei2, er2⟩
    · have e10 : (10 : Int32) * nI d + nI d2 = nI (10 * d + d2) := by
        rw [show (10 : Int32) = nI 10 from rfl, pk_mul, nI_add]
      refine ⟨some (nI (10 * d + d2)), a + 2, by omega, by omega, fun x hx => ⟨by omega, 10 * d + d2, by omega, by cases hx; rfl⟩, ?_, fun l => ⟨nI (10 * d + d2), ?_, fun x hx => by cases hx; rfl⟩, fun h => by cases h⟩
      · rw [en2, zfig_u, ei2, if_neg (show ¬ (1 : Int32) = 0 by decide), bndx, er2]
        dsimp only
        rw [e10]
        rfl
      · rw [bndx, eh, bndx, ei, if_neg (show ¬ (1 : Int32) = 0 by decide), bndx, bndx, nI_1, eh2, bndx, ei2, if_neg (show ¬ (1 : Int32) = 0 by decide), bndx, z48, nI_1, show (10 : Int32) = nI 10 from rfl, pk_mul, nI_add, show (48 : Int32) = nI 48 from rfl, pk_sub (by omega), show 10 * d + (48 + d2) - 48 = 10 * d + d2 by omega]
        rfl
    · refine ⟨some (nI d), a + 1, by omega, by omega, fun x hx => ⟨by omega, d, by omega, by cases hx; rfl⟩, ?_, fun l => ⟨nI d, ?_, fun x hx => by cases hx; rfl⟩, fun h => by cases h⟩
      · rw [en2, if_pos rfl]
        rfl
      · rw [bndx, eh, bndx, ei, if_neg (show ¬ (1 : Int32) = 0 by decide), bndx, bndx, nI_1, bndx, ei2, if_pos rfl, z48]
        rfl
  · refine ⟨none, a, by omega, by omega, (fun x hx => by cases hx), ?_, fun l => ⟨l, ?_, fun x hx => by cases hx⟩, fun _ => ei⟩
    · rw [er]
      exact if_pos rfl
    · rw [bndx, bndx, ei, if_pos rfl]
      rfl
theorem x_arr (hL : L ≤ 120) (hfg : ∀ i, i < L → f i = g i) {a : Nat} (ha : a < L) {K : Int32} (hK : ¬ K = -1) {at7 at9 : Int32} : ∃ (o : Option Int32) (b : Nat), a ≤ b ∧ b ≤ L ∧ (∀ x, o = some x → a + 2 ≤ b ∧ x = K) ∧ FX7_readArrow_41 f (nI L) at7 K (nI (a + 1)) = (zo o, nI b) ∧ ∀ k9 k, ∃ k', FX9_arrow_47 g (nI L) at9 k9 K (nI a) k = (zi o.isSome, nI b, k') ∧ ∀ x, o = some x → k' = x := by
  unfold FX7_readArrow_41 FX9_arrow_47
  rw [if_neg hK, bndx]
  rcases x_take hL hfg (a := a + 1) ha 62 (by decide) with ⟨t1, -, e7, e9, -⟩ | ⟨-, e7, e9, -⟩
  · refine ⟨some K, a + 2, by omega, by omega, fun x hx => ⟨by omega, by cases hx; rfl⟩, ?_, fun k9 k => ⟨K, ?_, fun x hx => by cases hx; rfl⟩⟩
    · rw [e7, if_neg (show ¬ (1 : Int32) = 0 by decide)]
      rfl
    · rw [nI_1, bndx, e9]
      rfl
  · refine ⟨none, a + 1, by omega, by omega, (fun x hx => by cases hx), ?_, fun k9 k => ⟨K, ?_, fun x hx => by cases hx⟩⟩
    · rw [e7, if_pos rfl]
      rfl
    · rw [nI_1, bndx, e9]
      rfl
theorem x_arrow (hL : L ≤ 120) (hfg : ∀ i, i < L → f i = g i) {a : Nat} (ha : a ≤ L) : ∃ (o : Option Int32) (b : Nat), a ≤ b ∧ b ≤ L ∧ (∀ x, o = some x → a + 2 ≤ b ∧ (x = 0 ∨ x = 1 ∨ x = 2)) ∧ FX7_readArrow f (nI L) (nI a) = (zo o, nI b) ∧ ∀ k, ∃ k', FX9_arrow g (nI L) (nI a) k = (zi o.isSome, nI b, k') ∧ ∀ x, o = some x → k' = x := by
  unfold FX7_readArrow FX9_arrow
  rw [bndx]
  rcases x_take hL hfg ha 45 (by decide) with ⟨t1, -, e7, e9, eh⟩ | ⟨-, e7, e9, eh⟩
  · obtain ⟨o, b, k1, k2, k3, k4, k5⟩ := x_arr hL hfg t1 (K := 0) (by decide) (at7 := nI a) (at9 := nI a)
    refine ⟨o, b, k1, k2, fun x hx => ⟨(k3 x hx).1, Or.inl (k3 x hx).2⟩, ?_, fun k => ?_⟩
    · rw [e7, if_neg (show ¬ (1 : Int32) = 0 by decide)]
      exact k4
    · rw [bndx, eh, if_pos rfl]
      unfold FX9_arrow_25
      rw [if_pos rfl]
      exact k5 k k
  · rw [e7, if_pos rfl, bndx]
    dsimp only
    rcases x_take hL hfg ha 61 (by decide) with ⟨t1, -, e7, e9, eh2⟩ | ⟨-, e7, e9, eh2⟩
    · obtain ⟨o, b, k1, k2, k3, k4, k5⟩ := x_arr hL hfg t1 (K := 1) (by decide) (at7 := nI a) (at9 := nI a)
      refine ⟨o, b, k1, k2, fun x hx => ⟨(k3 x hx).1, Or.inr (Or.inl (k3 x hx).2)⟩, ?_, fun k => ?_⟩
      · rw [e7, if_neg (show ¬ (1 : Int32) = 0 by decide)]
        exact k4
      · rw [bndx, eh2, if_neg (show ¬ (61 : Int32) = 45 by decide), if_pos rfl]
        unfold FX9_arrow_25
        rw [if_neg (show ¬ (61 : Int32) = 45 by decide), if_pos rfl]
        exact k5 k k
    · rw [e7, if_pos rfl, bndx]
      dsimp only
      rcases x_take hL hfg ha 126 (by decide) with ⟨t1, -, e7, e9, eh3⟩ | ⟨-, e7, e9, eh3⟩
      · obtain ⟨o, b, k1, k2, k3, k4, k5⟩ := x_arr hL hfg t1 (K := 2) (by decide) (at7 := nI a) (at9 := nI a)
        refine ⟨o, b, k1, k2, fun x hx => ⟨(k3 x hx).1, Or.inr (Or.inr (k3 x hx).2)⟩, ?_, fun k => ?_⟩
        · rw [e7, if_neg (show ¬ (1 : Int32) = 0 by decide)]
          exact k4
        · rw [bndx, eh3, if_neg (show ¬ (126 : Int32) = 45 by decide), if_neg (show ¬ (126 : Int32) = 61 by decide), if_pos rfl]
          unfold FX9_arrow_25
          rw [if_neg (show ¬ (126 : Int32) = 45 by decide), if_neg (show ¬ (126 : Int32) = 61 by decide)]
          exact k5 k k
      · refine ⟨none, a, Nat.le_refl a, ha, (fun x hx => by cases hx), ?_, fun k => ⟨k, ?_, fun x hx => by cases hx⟩⟩
        · rw [e7, if_pos rfl]
          unfold FX7_readArrow_41
          rw [if_pos rfl]
          rfl
        · rw [bndx, if_neg eh, if_neg eh2, if_neg eh3]
          rfl
/-- does a body stand here? -/
theorem x_body (hL : L ≤ 120) (hfg : ∀ i, i < L → f i = g i) {a : Nat} (ha : a ≤ L) : (FX7_startsWithArrow f (nI L) (nI a) = 1 ∧ FX9_isBodyHere g (nI L) (nI a) = 0) ∨ (FX7_startsWithArrow f (nI L) (nI a) = 0 ∧ FX9_isBodyHere g (nI L) (nI a) = 1) ∨ (FX7_startsWithArrow f (nI L) (nI a) = 0 ∧ FX9_isBodyHere g (nI L) (nI a) = 0 ∧ FX7_readLiterals f (nI L) (nI a) = (-1, nI a) ∧ ∀ k, FX9_arrow g (nI L) (nI a) k = (0, nI a, k)) := by
  unfold FX7_startsWithArrow FX9_isBodyHere
  rw [bndx, bndx, bndx, bndx]
  rcases x_take hL hfg ha 126 (by decide) with ⟨h, hf, e7, e9, eh⟩ | ⟨hn, e7, e9, eh⟩
  · have en : FX7_next f (nI L) (nI a) = 126 := by
      rcases x_byte hL hfg ha with ⟨_, e1, _⟩ | ⟨k, _, _⟩
      · rw [e1, hf]
      · omega
    rw [en, eh, if_pos rfl, show FX9_in 126 97 106 = 0 from by decide, if_pos rfl, if_pos rfl, nI_1]
    by_cases c : a + 1 < L
    · rw [if_neg (nI_ge c (by omega)), if_neg (nI_ge c (by omega)), nI_clamp (show a + 1 < 2 ^ 31 by omega), ← hfg _ c]
      by_cases c2 : f (a + 1) = 62
      · rw [if_pos c2, if_pos c2]
        exact Or.inl ⟨rfl, rfl⟩
      · rw [if_neg c2, if_neg c2]
        exact Or.inr (Or.inl ⟨rfl, rfl⟩)
    · rw [if_pos (nI_le (by omega) (by omega)), if_pos (nI_le (by omega) (by omega))]
      exact Or.inr (Or.inl ⟨rfl, rfl⟩)
  · have en : ¬ FX7_next f (nI L) (nI a) = 126 := by
      rcases x_byte hL hfg ha with ⟨k, e1, _⟩ | ⟨k, e1, _⟩
      · rw [e1]; exact hn k
      · rw [e1]; decide
    rw [if_neg en, if_neg eh]
    rcases x_let hL hfg ha with ⟨d, hd, hlt, en2, eh2, ei2⟩ | ⟨hc, ei2⟩
    · rw [eh2, ei2, if_neg (show ¬ (1 : Int32) = 0 by decide), en2, if_neg (show ¬ nI (97 + d) = (45 : Int32) from fun e => by have := (nI_eq (b := 45) (by omega) (by omega)).mp e; omega), if_neg (show ¬ nI (97 + d) = (61 : Int32) from fun e => by have := (nI_eq (b := 61) (by omega) (by omega)).mp e; omega)]
      exact Or.inr (Or.inl ⟨rfl, rfl⟩)
    · rw [ei2, if_pos rfl]
      by_cases c1 : FX7_next f (nI L) (nI a) = 45
      · rw [if_pos c1]; exact Or.inl ⟨rfl, rfl⟩
      rw [if_neg c1]
      by_cases c2 : FX7_next f (nI L) (nI a) = 61
      · rw [if_pos c2]; exact Or.inl ⟨rfl, rfl⟩
      rw [if_neg c2]
      refine Or.inr (Or.inr ⟨rfl, rfl, ?_, fun k => ?_⟩)
      · have hlit : FX7_readLiteral f (nI L) (nI a) = (-1, nI a) := by
          unfold FX7_readLiteral
          rw [bndx, e7, bndx]
          dsimp only
          exact zite2 hc
        unfold FX7_readLiterals
        rw [FX7_readLiterals_6, if_neg (show ¬ (120 : Int32) ≤ 0 by decide), if_neg (show ¬ (1 : Int32) = 0 by decide), bndx, hlit]
        exact if_pos rfl
      · have hh : ¬ FX9_here g (nI L) (nI a) = 45 ∧ ¬ FX9_here g (nI L) (nI a) = 61 := by
          rcases x_byte hL hfg ha with ⟨k, e1, e2⟩ | ⟨k, e1, e2⟩
          · rw [e2, ← e1]; exact ⟨c1, c2⟩
          · rw [e2]; decide
        unfold FX9_arrow
        rw [bndx, if_neg hh.1, if_neg hh.2, if_neg eh]
end ZPAR
