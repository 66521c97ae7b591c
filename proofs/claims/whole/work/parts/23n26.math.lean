/-! words: a statement -/
abbrev zD5 : Type := Int32 × Int32 × Int32 × Int32 × Int32
/-- what a statement may be -/
def zdv (d : zD5) : Prop := (d.1 = 3 ∧ ∃ q : Nat, q < 20 ∧ d.2.1 = nI q) ∨ (d.1 = 4 ∧ ∃ x y : Nat, x < 100 ∧ y < 100 ∧ d.2.1 = nI x ∧ d.2.2.1 = nI y) ∨ ((d.1 = 0 ∨ d.1 = 1 ∨ d.1 = 2) ∧ (∃ q : Nat, q < 20 ∧ d.2.1 = nI q) ∧ zLo d.2.2.1 ∧ zLo d.2.2.2.1 ∧ ∃ v : Nat, v < 10 ∧ d.2.2.2.2 = nI v)
/-- how the class keeps it -/
def zhd (d : zD5) (s h b e p : Int32) : Prop := s = d.1 ∧ h = d.2.1 ∧ (¬ d.1 = 3 → b = d.2.2.1) ∧ (¬ d.1 = 3 → ¬ d.1 = 4 → e = d.2.2.2.1 ∧ p = d.2.2.2.2)
/-- how the reference does -/
def zrd (d : zD5) (w rh rb re rk rs o1 o2 : Int32) : Prop := (d.1 = 3 → w = 0 ∧ rh = d.2.1) ∧ (d.1 = 4 → w = 2 ∧ o1 = d.2.1 ∧ o2 = d.2.2.1) ∧ (¬ d.1 = 3 → ¬ d.1 = 4 → w = 1 ∧ rk = d.1 ∧ rh = d.2.1 ∧ rb = d.2.2.1 ∧ re = d.2.2.2.1 ∧ rs = d.2.2.2.2)
/-- the rows agree but at t -/
def zof (t : Nat) (S H B E P S' H' B' E' P' : Nat → Int32) : Prop := ∀ j : Nat, j ≠ t → S' j = S j ∧ H' j = H j ∧ B' j = B j ∧ E' j = E j ∧ P' j = P j
section ZPAR2
variable {f g : Nat → Int32} {L : Nat}
theorem x_r120 (hL : L ≤ 120) (hfg : ∀ i, i < L → f i = g i) {b : Nat} (hb : b ≤ L) {ex : Int32} (hx : ¬ ex = -1) : ∃ (o : Option Int32) (c : Nat), b ≤ c ∧ c ≤ L ∧ (∀ x, o = some x → ∃ v : Nat, v < 10 ∧ x = nI v) ∧ (∀ (so he bo eo po : Nat → Int32) (at7 : Int32) (t : Nat) (S H B E P : Nat → Int32), t < 60 → FX7_readRule_120 f so he bo eo po (nI L) at7 (nI t) (nI t) ex S H B E P (nI b) = (zi o.isSome, S, H, B, upd E t ex, upd P t (zo o), nI c)) ∧ ∀ at9 w9 rh9 rb9 re9 rk9 rs9 l9 w rh rb re rk l, ∃ rs', FX9_rule__94 g (nI L) at9 w9 rh9 rb9 re9 rk9 rs9 l9 (nI b) w rh rb re rk 0 l = (zi o.isSome, nI c, w, rh, rb, re, rk, rs', l) ∧ ∀ x, o = some x → rs' = x := by
  unfold FX7_readRule_120 FX9_rule__94
  rcases x_take hL hfg hb 42 (by decide) with ⟨t1, -, e7, e9, -⟩ | ⟨-, e7, e9, -⟩
  · rcases x_fig hL hfg (b := b + 1) t1 with ⟨d, hd, hlt, en, eh, ei, er⟩ | ⟨en, ei, er⟩
    · refine ⟨some (nI d), b + 2, by omega, by omega, fun x hx => ⟨d, hd, by cases hx; rfl⟩, fun so he bo eo po at7 t S H B E P ht => ?_, fun at9 w9 rh9 rb9 re9 rk9 rs9 l9 w rh rb re rk l => ⟨nI d, ?_, fun x hx => by cases hx; rfl⟩⟩
      · rw [nI_clamp (show t < 2 ^ 31 by omega), bndx, pk_us, if_neg hx, bndx, e7]
        dsimp only
        rw [if_neg (show ¬ (1 : Int32) = 0 by decide), bndx, er]
        dsimp only
        unfold FX7_readRule_161
        rw [nI_clamp (show t < 2 ^ 31 by omega), bndx, pk_us, if_neg (nI_m1 (by omega))]
        rfl
      · rw [bndx, e9]
        dsimp only
        rw [if_neg (show ¬ (1 : Int32) = 0 by decide), bndx, eh, bndx, ei, if_neg (show ¬ (1 : Int32) = 0 by decide), bndx, z48, nI_1]
        rfl
    · refine ⟨none, b + 1, by omega, by omega, (fun x hx => by cases hx), fun so he bo eo po at7 t S H B E P ht => ?_, fun at9 w9 rh9 rb9 re9 rk9 rs9 l9 w rh rb re rk l => ⟨0, ?_, fun x hx => by cases hx⟩⟩
      · rw [nI_clamp (show t < 2 ^ 31 by omega), bndx, pk_us, if_neg hx, bndx, e7]
        dsimp only
        rw [if_neg (show ¬ (1 : Int32) = 0 by decide), bndx, er]
        dsimp only
        unfold FX7_readRule_161
        rw [nI_clamp (show t < 2 ^ 31 by omega), bndx, pk_us, if_pos rfl]
        rfl
      · rw [bndx, e9]
        dsimp only
        rw [if_neg (show ¬ (1 : Int32) = 0 by decide), bndx, bndx, ei, if_pos rfl]
        rfl
  · refine ⟨some 0, b, by omega, by omega, fun x hx => ⟨0, by omega, by cases hx; rfl⟩, fun so he bo eo po at7 t S H B E P ht => ?_, fun at9 w9 rh9 rb9 re9 rk9 rs9 l9 w rh rb re rk l => ⟨0, ?_, fun x hx => by cases hx; rfl⟩⟩
    · rw [nI_clamp (show t < 2 ^ 31 by omega), bndx, pk_us, if_neg hx, bndx, e7]
      dsimp only
      rw [if_pos rfl]
      unfold FX7_readRule_161
      rw [nI_clamp (show t < 2 ^ 31 by omega), bndx, pk_us, if_neg (show ¬ (0 : Int32) = -1 by decide)]
      rfl
    · rw [bndx, e9]
      exact if_pos rfl
theorem x_r23 (hL : L ≤ 120) (hfg : ∀ i, i < L → f i = g i) {b : Nat} (hb : b ≤ L) {x : Int32} (hx : zLo x) : ∃ (o : Option (Int32 × Int32 × Int32 × Int32)) (c : Nat), b ≤ c ∧ c ≤ L ∧ (∀ d, o = some d → b + 3 ≤ c ∧ (d.1 = 0 ∨ d.1 = 1 ∨ d.1 = 2) ∧ (∃ q : Nat, q < 20 ∧ d.2.1 = nI q) ∧ zLo d.2.2.1 ∧ ∃ v : Nat, v < 10 ∧ d.2.2.2 = nI v) ∧ (∀ (so he bo eo po : Nat → Int32) (at7 : Int32) (t : Nat) (S H B E P : Nat → Int32), t < 60 → ∃ S' H' B' E' P', FX7_readRule_23 f so he bo eo po (nI L) at7 (nI t) (nI t) x S H B E P (nI b) = (zi o.isSome, S', H', B', E', P', nI c) ∧ zof t S H B E P S' H' B' E' P' ∧ ∀ d, o = some d → S' t = d.1 ∧ H' t = d.2.1 ∧ B' t = x ∧ E' t = d.2.2.1 ∧ P' t = d.2.2.2) ∧ ∀ at9 w9 rh9 rb9 re9 rk9 rs9 l9 rh rk l, ∃ rh' re' rk' rs' l', FX9_rule__44 g (nI L) at9 w9 rh9 rb9 re9 rk9 rs9 l9 (nI b) 1 rh x 0 rk 0 l = (zi o.isSome, nI c, 1, rh', x, re', rk', rs', l') ∧ ∀ d, o = some d → rk' = d.1 ∧ rh' = d.2.1 ∧ re' = d.2.2.1 ∧ rs' = d.2.2.2 := by
  have hxm := zLo_m1 hx
  obtain ⟨oa, c1, a1, a2, a3, a4, a5⟩ := x_arrow hL hfg hb
  cases oa with
  | none =>
    refine ⟨none, c1, a1, a2, (fun d hd => by cases hd), fun so he bo eo po at7 t S H B E P ht => ⟨upd S t (-1), H, upd B t x, E, P, ?_, fun j hj => ⟨pk_un hj, rfl, pk_un hj, rfl, rfl⟩, fun d hd => by cases hd⟩, fun at9 w9 rh9 rb9 re9 rk9 rs9 l9 rh rk l => ?_⟩
    · unfold FX7_readRule_23
      rw [nI_clamp (show t < 2 ^ 31 by omega), bndx, pk_us, if_neg hxm, bndx, a4]
      (repeat rewrite [zo_s])
      (repeat rewrite [zo_n])
      try dsimp only
      rw [bndx, pk_us, if_pos rfl]
      rfl
    · obtain ⟨k', e, -⟩ := a5 rk
      refine ⟨rh, 0, k', 0, l, ?_, fun d hd => by cases hd⟩
      unfold FX9_rule__44
      rw [bndx, e]
      exact if_pos zi_f
  | some k =>
    obtain ⟨ak, hk⟩ := a3 k rfl
    have hkm : ¬ k = -1 := by rcases hk with rfl | rfl | rfl <;> decide
    obtain ⟨ol, c2, b1, b2, b3, b4, b5⟩ := x_lit hL hfg a2
    cases ol with
    | none =>
      refine ⟨none, c2, by omega, b2, (fun d hd => by cases hd), fun so he bo eo po at7 t S H B E P ht => ⟨upd S t k, upd H t (-1), upd B t x, E, P, ?_, fun j hj => ⟨pk_un hj, pk_un hj, pk_un hj, rfl, rfl⟩, fun d hd => by cases hd⟩, fun at9 w9 rh9 rb9 re9 rk9 rs9 l9 rh rk l => ?_⟩
      · unfold FX7_readRule_23
        rw [nI_clamp (show t < 2 ^ 31 by omega), bndx, pk_us, if_neg hxm, bndx, a4]
        (repeat rewrite [zo_s])
        (repeat rewrite [zo_n])
        try dsimp only
        rw [bndx, pk_us, if_neg hkm, bndx, b4]
        (repeat rewrite [zo_s])
        (repeat rewrite [zo_n])
        try dsimp only
        rw [bndx, pk_us, if_pos rfl]
        rfl
      · obtain ⟨k', e, -⟩ := a5 rk
        obtain ⟨l', e2, -⟩ := b5 l
        refine ⟨rh, 0, k', 0, l', ?_, fun d hd => by cases hd⟩
        unfold FX9_rule__44
        rw [bndx, e]
        dsimp only [Option.isSome]
        rw [if_neg (show ¬ zi true = 0 by decide), bndx, e2]
        exact if_pos zi_f
    | some h =>
      obtain ⟨bk, hq⟩ := b3 h rfl
      have hhm : ¬ h = -1 := by
        obtain ⟨q, hq1, hq2⟩ := hq
        rw [hq2]; exact nI_m1 (by omega)
      have fin : ∀ (c3 : Nat) (ex : Int32), c2 ≤ c3 → c3 ≤ L → zLo ex → (∀ (so he bo eo po : Nat → Int32) (at7 : Int32) (t : Nat) (S H B E P : Nat → Int32), t < 60 → FX7_readRule_23 f so he bo eo po (nI L) at7 (nI t) (nI t) x S H B E P (nI b) = FX7_readRule_120 f so he bo eo po (nI L) at7 (nI t) (nI t) ex (upd S t k) (upd H t h) (upd B t x) E P (nI c3)) → (∀ at9 w9 rh9 rb9 re9 rk9 rs9 l9 rh rk l, ∃ l', FX9_rule__44 g (nI L) at9 w9 rh9 rb9 re9 rk9 rs9 l9 (nI b) 1 rh x 0 rk 0 l = FX9_rule__94 g (nI L) at9 w9 rh9 rb9 re9 rk9 rs9 l9 (nI c3) 1 h x ex k 0 l') → ∃ (o : Option (Int32 × Int32 × Int32 × Int32)) (c : Nat), b ≤ c ∧ c ≤ L ∧ (∀ d, o = some d → b + 3 ≤ c ∧ (d.1 = 0 ∨ d.1 = 1 ∨ d.1 = 2) ∧ (∃ q : Nat, q < 20 ∧ d.2.1 = nI q) ∧ zLo d.2.2.1 ∧ ∃ v : Nat, v < 10 ∧ d.2.2.2 = nI v) ∧ (∀ (so he bo eo po : Nat → Int32) (at7 : Int32) (t : Nat) (S H B E P : Nat → Int32), t < 60 → ∃ S' H' B' E' P', FX7_readRule_23 f so he bo eo po (nI L) at7 (nI t) (nI t) x S H B E P (nI b) = (zi o.isSome, S', H', B', E', P', nI c) ∧ zof t S H B E P S' H' B' E' P' ∧ ∀ d, o = some d → S' t = d.1 ∧ H' t = d.2.1 ∧ B' t = x ∧ E' t = d.2.2.1 ∧ P' t = d.2.2.2) ∧ ∀ at9 w9 rh9 rb9 re9 rk9 rs9 l9 rh rk l, ∃ rh' re' rk' rs' l', FX9_rule__44 g (nI L) at9 w9 rh9 rb9 re9 rk9 rs9 l9 (nI b) 1 rh x 0 rk 0 l = (zi o.isSome, nI c, 1, rh', x, re', rk', rs', l') ∧ ∀ d, o = some d → rk' = d.1 ∧ rh' = d.2.1 ∧ re' = d.2.2.1 ∧ rs' = d.2.2.2 := by
        intro c3 ex h1 h2 h3 hcl hrf
        obtain ⟨op, c4, g1, g2, g3, g4, g5⟩ := x_r120 hL hfg h2 (zLo_m1 h3)
        cases op with
        | none =>
          refine ⟨none, c4, by omega, g2, (fun d hd => by cases hd), fun so he bo eo po at7 t S H B E P ht => ⟨upd S t k, upd H t h, upd B t x, upd E t ex, upd P t (-1), ?_, fun j hj => ⟨pk_un hj, pk_un hj, pk_un hj, pk_un hj, pk_un hj⟩, fun d hd => by cases hd⟩, fun at9 w9 rh9 rb9 re9 rk9 rs9 l9 rh rk l => ?_⟩
          · exact (hcl so he bo eo po at7 t S H B E P ht).trans (g4 so he bo eo po at7 t _ _ _ _ _ ht)
          · obtain ⟨l', e⟩ := hrf at9 w9 rh9 rb9 re9 rk9 rs9 l9 rh rk l
            obtain ⟨rs', e2, -⟩ := g5 at9 w9 rh9 rb9 re9 rk9 rs9 l9 1 h x ex k l'
            exact ⟨h, ex, k, rs', l', e.trans e2, fun d hd => by cases hd⟩
        | some p =>
          refine ⟨some (k, h, ex, p), c4, by omega, g2, fun d hd => ?_, fun so he bo eo po at7 t S H B E P ht => ⟨upd S t k, upd H t h, upd B t x, upd E t ex, upd P t p, ?_, fun j hj => ⟨pk_un hj, pk_un hj, pk_un hj, pk_un hj, pk_un hj⟩, fun d hd => ?_⟩, fun at9 w9 rh9 rb9 re9 rk9 rs9 l9 rh rk l => ?_⟩
          · cases hd
            exact ⟨by omega, hk, hq, h3, g3 p rfl⟩
          · exact (hcl so he bo eo po at7 t S H B E P ht).trans (g4 so he bo eo po at7 t _ _ _ _ _ ht)
          · cases hd
            exact ⟨pk_us, pk_us, pk_us, pk_us, pk_us⟩
          · obtain ⟨l', e⟩ := hrf at9 w9 rh9 rb9 re9 rk9 rs9 l9 rh rk l
            obtain ⟨rs', e2, e3⟩ := g5 at9 w9 rh9 rb9 re9 rk9 rs9 l9 1 h x ex k l'
            refine ⟨h, ex, k, rs', l', e.trans e2, fun d hd => ?_⟩
            cases hd
            exact ⟨rfl, rfl, rfl, e3 p rfl⟩
      rcases x_take hL hfg b2 63 (by decide) with ⟨t1, -, e7, e9, -⟩ | ⟨-, e7, e9, -⟩
      · obtain ⟨oe, c3, d1, d2, d3, d4, d5⟩ := x_lits hL hfg (a := c2 + 1) t1
        have hcl : ∀ (so he bo eo po : Nat → Int32) (at7 : Int32) (t : Nat) (S H B E P : Nat → Int32), t < 60 → FX7_readRule_23 f so he bo eo po (nI L) at7 (nI t) (nI t) x S H B E P (nI b) = FX7_readRule_120 f so he bo eo po (nI L) at7 (nI t) (nI t) (zo oe) (upd S t k) (upd H t h) (upd B t x) E P (nI c3) := fun so he bo eo po at7 t S H B E P ht => by
          unfold FX7_readRule_23
          rw [nI_clamp (show t < 2 ^ 31 by omega), bndx, pk_us, if_neg hxm, bndx, a4]
          (repeat rewrite [zo_s])
          (repeat rewrite [zo_n])
          try dsimp only
          rw [bndx, pk_us, if_neg hkm, bndx, b4]
          (repeat rewrite [zo_s])
          (repeat rewrite [zo_n])
          try dsimp only
          rw [bndx, pk_us, if_neg hhm, bndx, e7]
          dsimp only
          rw [if_neg (show ¬ (1 : Int32) = 0 by decide), bndx, d4]
        cases oe with
        | none =>
          refine ⟨none, c3, by omega, d2, (fun d hd => by cases hd), fun so he bo eo po at7 t S H B E P ht => ⟨upd S t k, upd H t h, upd B t x, upd E t (-1), P, ?_, fun j hj => ⟨pk_un hj, pk_un hj, pk_un hj, pk_un hj, rfl⟩, fun d hd => by cases hd⟩, fun at9 w9 rh9 rb9 re9 rk9 rs9 l9 rh rk l => ?_⟩
          · refine (hcl so he bo eo po at7 t S H B E P ht).trans ?_
            unfold FX7_readRule_120
            (repeat rewrite [zo_s])
            (repeat rewrite [zo_n])
            try dsimp only
            rw [nI_clamp (show t < 2 ^ 31 by omega), bndx, pk_us, if_pos rfl]
            rfl
          · obtain ⟨k', e, he⟩ := a5 rk
            obtain ⟨l', e2, he2⟩ := b5 l
            obtain ⟨l2, e3, -⟩ := d5 l'
            refine ⟨l', 0, k', 0, l2, ?_, fun d hd => by cases hd⟩
            unfold FX9_rule__44
            rw [bndx, e]
            dsimp only [Option.isSome]
            rw [if_neg (show ¬ zi true = 0 by decide), bndx, e2]
            dsimp only [Option.isSome]
            rw [if_neg (show ¬ zi true = 0 by decide), bndx, e9]
            dsimp only
            rw [if_neg (show ¬ (1 : Int32) = 0 by decide), bndx, e3]
            exact if_pos zi_f
        | some ex =>
          refine fin c3 ex (by omega) d2 (d3 ex rfl).2 hcl (fun at9 w9 rh9 rb9 re9 rk9 rs9 l9 rh rk l => ?_)
          obtain ⟨k', e, he⟩ := a5 rk
          obtain ⟨l', e2, he2⟩ := b5 l
          obtain ⟨l2, e3, he3⟩ := d5 l'
          obtain rfl := he k rfl
          obtain rfl := he2 h rfl
          obtain rfl := he3 ex rfl
          refine ⟨l2, ?_⟩
          unfold FX9_rule__44
          rw [bndx, e]
          dsimp only [Option.isSome]
          rw [if_neg (show ¬ zi true = 0 by decide), bndx, e2]
          dsimp only [Option.isSome]
          rw [if_neg (show ¬ zi true = 0 by decide), bndx, e9]
          dsimp only
          rw [if_neg (show ¬ (1 : Int32) = 0 by decide), bndx, e3]
          exact if_neg (show ¬ zi true = 0 by decide)
      · refine fin c2 0 (Nat.le_refl c2) b2 (fun q _ => zb_0 q) (fun so he bo eo po at7 t S H B E P ht => ?_) (fun at9 w9 rh9 rb9 re9 rk9 rs9 l9 rh rk l => ?_)
        · unfold FX7_readRule_23
          rw [nI_clamp (show t < 2 ^ 31 by omega), bndx, pk_us, if_neg hxm, bndx, a4]
          (repeat rewrite [zo_s])
          (repeat rewrite [zo_n])
          try dsimp only
          rw [bndx, pk_us, if_neg hkm, bndx, b4]
          (repeat rewrite [zo_s])
          (repeat rewrite [zo_n])
          try dsimp only
          rw [bndx, pk_us, if_neg hhm, bndx, e7]
          exact if_pos rfl
        · obtain ⟨k', e, he⟩ := a5 rk
          obtain ⟨l', e2, he2⟩ := b5 l
          obtain rfl := he k rfl
          obtain rfl := he2 h rfl
          refine ⟨l', ?_⟩
          unfold FX9_rule__44
          rw [bndx, e]
          dsimp only [Option.isSome]
          rw [if_neg (show ¬ zi true = 0 by decide), bndx, e2]
          dsimp only [Option.isSome]
          rw [if_neg (show ¬ zi true = 0 by decide), bndx, e9]
          exact if_pos rfl
theorem x_rule (hL : L ≤ 120) (hfg : ∀ i, i < L → f i = g i) {a : Nat} (ha : a ≤ L) : ∃ (o : Option zD5) (c : Nat), a ≤ c ∧ c ≤ L ∧ (∀ d, o = some d → a + 2 ≤ c ∧ (d.1 = 0 ∨ d.1 = 1 ∨ d.1 = 2) ∧ (∃ q : Nat, q < 20 ∧ d.2.1 = nI q) ∧ zLo d.2.2.1 ∧ zLo d.2.2.2.1 ∧ ∃ v : Nat, v < 10 ∧ d.2.2.2.2 = nI v) ∧ (∀ (t : Nat) (S H B E P : Nat → Int32), t < 60 → ∃ S' H' B' E' P', FX7_readRule f S H B E P (nI L) (nI a) (nI t) = (zi o.isSome, S', H', B', E', P', nI c) ∧ zof t S H B E P S' H' B' E' P' ∧ ∀ d, o = some d → S' t = d.1 ∧ H' t = d.2.1 ∧ B' t = d.2.2.1 ∧ E' t = d.2.2.2.1 ∧ P' t = d.2.2.2.2) ∧ ∀ w rh rb re rk rs l, ∃ rh' rb' re' rk' rs' l', FX9_rule_ g (nI L) (nI a) w rh rb re rk rs l = (zi o.isSome, nI c, 1, rh', rb', re', rk', rs', l') ∧ ∀ d, o = some d → rk' = d.1 ∧ rh' = d.2.1 ∧ rb' = d.2.2.1 ∧ re' = d.2.2.2.1 ∧ rs' = d.2.2.2.2 := by
  have fin : ∀ (b : Nat) (x : Int32), a ≤ b → b ≤ L → zLo x → (∀ (t : Nat) (S H B E P : Nat → Int32), t < 60 → FX7_readRule f S H B E P (nI L) (nI a) (nI t) = FX7_readRule_23 f S H B E P (nI L) (nI a) (nI t) (nI t) x S H B E P (nI b)) → (∀ w rh rb re rk rs l, ∃ l', FX9_rule_ g (nI L) (nI a) w rh rb re rk rs l = FX9_rule__44 g (nI L) (nI a) w rh rb re rk rs l (nI b) 1 rh x 0 rk 0 l') → ∃ (o : Option zD5) (c : Nat), a ≤ c ∧ c ≤ L ∧ (∀ d, o = some d → a + 2 ≤ c ∧ (d.1 = 0 ∨ d.1 = 1 ∨ d.1 = 2) ∧ (∃ q : Nat, q < 20 ∧ d.2.1 = nI q) ∧ zLo d.2.2.1 ∧ zLo d.2.2.2.1 ∧ ∃ v : Nat, v < 10 ∧ d.2.2.2.2 = nI v) ∧ (∀ (t : Nat) (S H B E P : Nat → Int32), t < 60 → ∃ S' H' B' E' P', FX7_readRule f S H B E P (nI L) (nI a) (nI t) = (zi o.isSome, S', H', B', E', P', nI c) ∧ zof t S H B E P S' H' B' E' P' ∧ ∀ d, o = some d → S' t = d.1 ∧ H' t = d.2.1 ∧ B' t = d.2.2.1 ∧ E' t = d.2.2.2.1 ∧ P' t = d.2.2.2.2) ∧ ∀ w rh rb re rk rs l, ∃ rh' rb' re' rk' rs' l', FX9_rule_ g (nI L) (nI a) w rh rb re rk rs l = (zi o.isSome, nI c, 1, rh', rb', re', rk', rs', l') ∧ ∀ d, o = some d → rk' = d.1 ∧ rh' = d.2.1 ∧ rb' = d.2.2.1 ∧ re' = d.2.2.2.1 ∧ rs' = d.2.2.2.2 := by
    intro b x h1 h2 h3 hcl hrf
    obtain ⟨o, c, g1, g2, g3, g4, g5⟩ := x_r23 hL hfg h2 h3
    cases o with
    | none =>
      refine ⟨none, c, by omega, g2, (fun d hd => by cases hd), fun t S H B E P ht => ?_, fun w rh rb re rk rs l => ?_⟩
      · obtain ⟨S', H', B', E', P', e, e1, -⟩ := g4 S H B E P (nI a) t S H B E P ht
        exact ⟨S', H', B', E', P', (hcl t S H B E P ht).trans e, e1, fun d hd => by cases hd⟩
      · obtain ⟨l', e⟩ := hrf w rh rb re rk rs l
        obtain ⟨rh', re', rk', rs', l2, e2, -⟩ := g5 (nI a) w rh rb re rk rs l rh rk l'
        exact ⟨rh', x, re', rk', rs', l2, e.trans e2, fun d hd => by cases hd⟩
    | some y =>
      obtain ⟨y1, y2, y3, y4, y5⟩ := g3 y rfl
      refine ⟨some (y.1, y.2.1, x, y.2.2.1, y.2.2.2), c, by omega, g2, fun d hd => ?_, fun t S H B E P ht => ?_, fun w rh rb re rk rs l => ?_⟩
      · cases hd
        exact ⟨by omega, y2, y3, h3, y4, y5⟩
      · obtain ⟨S', H', B', E', P', e, e1, e2⟩ := g4 S H B E P (nI a) t S H B E P ht
        refine ⟨S', H', B', E', P', (hcl t S H B E P ht).trans e, e1, fun d hd => ?_⟩
        cases hd
        exact e2 y rfl
      · obtain ⟨l', e⟩ := hrf w rh rb re rk rs l
        obtain ⟨rh', re', rk', rs', l2, e2, e3⟩ := g5 (nI a) w rh rb re rk rs l rh rk l'
        refine ⟨rh', x, re', rk', rs', l2, e.trans e2, fun d hd => ?_⟩
        cases hd
        obtain ⟨i1, i2, i3, i4⟩ := e3 y rfl
        exact ⟨i1, i2, rfl, i3, i4⟩
  rcases x_body hL hfg ha with ⟨b1, b2⟩ | ⟨b1, b2⟩ | ⟨b1, b2, b3, b4⟩
  · refine fin a 0 (Nat.le_refl a) ha (fun q _ => zb_0 q) (fun t S H B E P ht => ?_) (fun w rh rb re rk rs l => ⟨l, ?_⟩)
    · unfold FX7_readRule
      rw [bndx, b1]
      exact if_neg (show ¬ (1 : Int32) = 0 by decide)
    · unfold FX9_rule_
      rw [bndx, b2]
      exact if_pos rfl
  · obtain ⟨o, c, k1, k2, k3, k4, k5⟩ := x_lits hL hfg ha
    cases o with
    | none =>
      refine ⟨none, c, k1, k2, (fun d hd => by cases hd), fun t S H B E P ht => ⟨S, H, upd B t (-1), E, P, ?_, fun j hj => ⟨rfl, rfl, pk_un hj, rfl, rfl⟩, fun d hd => by cases hd⟩, fun w rh rb re rk rs l => ?_⟩
      · unfold FX7_readRule
        rw [bndx, b1, if_pos rfl, bndx, k4]
        unfold FX7_readRule_23
        (repeat rewrite [zo_s])
        (repeat rewrite [zo_n])
        try dsimp only
        rw [nI_clamp (show t < 2 ^ 31 by omega), bndx, pk_us, if_pos rfl]
        rfl
      · obtain ⟨l', e, -⟩ := k5 l
        refine ⟨rh, 0, 0, rk, 0, l', ?_, fun d hd => by cases hd⟩
        unfold FX9_rule_
        rw [bndx, b2, if_neg (show ¬ (1 : Int32) = 0 by decide), bndx, e]
        exact if_pos zi_f
    | some x =>
      refine fin c x k1 k2 (k3 x rfl).2 (fun t S H B E P ht => ?_) (fun w rh rb re rk rs l => ?_)
      · unfold FX7_readRule
        rw [bndx, b1, if_pos rfl, bndx, k4]
        rfl
      · obtain ⟨l', e, he⟩ := k5 l
        obtain rfl := he x rfl
        refine ⟨l', ?_⟩
        unfold FX9_rule_
        rw [bndx, b2, if_neg (show ¬ (1 : Int32) = 0 by decide), bndx, e]
        exact if_neg (show ¬ zi true = 0 by decide)
  · refine ⟨none, a, Nat.le_refl a, ha, (fun d hd => by cases hd), fun t S H B E P ht => ⟨S, H, upd B t (-1), E, P, ?_, fun j hj => ⟨rfl, rfl, pk_un hj, rfl, rfl⟩, fun d hd => by cases hd⟩, fun w rh rb re rk rs l => ⟨rh, 0, 0, rk, 0, l, ?_, fun d hd => by cases hd⟩⟩
    · unfold FX7_readRule
      rw [bndx, b1, if_pos rfl, bndx, b3]
      unfold FX7_readRule_23
      dsimp only
      rw [nI_clamp (show t < 2 ^ 31 by omega), bndx, pk_us, if_pos rfl]
      rfl
    · unfold FX9_rule_
      rw [bndx, b2, if_pos rfl]
      unfold FX9_rule__44
      rw [bndx, b4]
      exact if_pos rfl
theorem x_pair (hL : L ≤ 120) (hfg : ∀ i, i < L → f i = g i) {a : Nat} (ha : a ≤ L) (hf : FX9_in (FX9_here g (nI L) (nI a)) 48 57 = 1) : ∃ (o : Option (Int32 × Int32)) (c : Nat), a ≤ c ∧ c ≤ L ∧ (∀ d, o = some d → a + 2 ≤ c ∧ ∃ x y : Nat, x < 100 ∧ y < 100 ∧ d.1 = nI x ∧ d.2 = nI y) ∧ (∀ (t : Nat) (S H B : Nat → Int32), t < 60 → ∃ S' H' B', FX7_readPair f S H B (nI L) (nI a) (nI t) = (zi o.isSome, S', H', B', nI c) ∧ (∀ j, j ≠ t → S' j = S j ∧ H' j = H j ∧ B' j = B j) ∧ ∀ d, o = some d → S' t = 4 ∧ H' t = d.1 ∧ B' t = d.2) ∧ ∀ w o1 o2 l, ∃ o1' o2' l', FX9_pair g (nI L) (nI a) w o1 o2 l = (zi o.isSome, nI c, 2, o1', o2', l') ∧ ∀ d, o = some d → o1' = d.1 ∧ o2' = d.2 := by
  obtain ⟨o, c, k1, k2, k3, k4, k5, k6⟩ := x_num hL hfg ha
  cases o with
  | none =>
    have h0 := k6 rfl
    rw [hf] at h0
    exact absurd h0 (by decide)
  | some x =>
    obtain ⟨j1, v, hv, hx⟩ := k3 x rfl
    unfold FX7_readPair FX9_pair
    rcases x_take hL hfg k2 62 (by decide) with ⟨t1, -, e7, e9, -⟩ | ⟨-, e7, e9, -⟩
    · obtain ⟨o2, c2, g1, g2, g3, g4, g5, -⟩ := x_num hL hfg (a := c + 1) t1
      cases o2 with
      | none =>
        refine ⟨none, c2, by omega, g2, (fun d hd => by cases hd), fun t S H B ht => ⟨upd S t 4, upd H t x, upd B t (-1), ?_, fun j hj => ⟨pk_un hj, pk_un hj, pk_un hj⟩, fun d hd => by cases hd⟩, fun w o1 o2 l => ?_⟩
        · rw [nI_clamp (show t < 2 ^ 31 by omega), bndx, bndx, k4]
          (repeat rewrite [zo_s])
          (repeat rewrite [zo_n])
          try dsimp only
          rw [bndx, bndx, e7]
          dsimp only
          rw [if_neg (show ¬ (1 : Int32) = 0 by decide), bndx, g4]
          (repeat rewrite [zo_s])
          (repeat rewrite [zo_n])
          try dsimp only
          rw [bndx, pk_us, if_pos rfl]
          rfl
        · obtain ⟨l', e, he⟩ := k5 l
          obtain ⟨l2, e2, -⟩ := g5 l'
          refine ⟨l', o2, l2, ?_, fun d hd => by cases hd⟩
          rw [bndx, e]
          dsimp only [Option.isSome]
          rw [if_neg (show ¬ zi true = 0 by decide), bndx, e9]
          dsimp only
          rw [if_neg (show ¬ (1 : Int32) = 0 by decide), bndx, e2]
          exact if_pos zi_f
      | some y =>
        obtain ⟨i1, u, hu, hy⟩ := g3 y rfl
        refine ⟨some (x, y), c2, by omega, g2, fun d hd => ?_, fun t S H B ht => ⟨upd S t 4, upd H t x, upd B t y, ?_, fun j hj => ⟨pk_un hj, pk_un hj, pk_un hj⟩, fun d hd => ?_⟩, fun w o1 o2 l => ?_⟩
        · cases hd
          exact ⟨by omega, v, u, hv, hu, hx, hy⟩
        · rw [nI_clamp (show t < 2 ^ 31 by omega), bndx, bndx, k4]
          (repeat rewrite [zo_s])
          (repeat rewrite [zo_n])
          try dsimp only
          rw [bndx, bndx, e7]
          dsimp only
          rw [if_neg (show ¬ (1 : Int32) = 0 by decide), bndx, g4]
          (repeat rewrite [zo_s])
          (repeat rewrite [zo_n])
          try dsimp only
          rw [bndx, pk_us, if_neg (show ¬ y = -1 by rw [hy]; exact nI_m1 (by omega))]
          rfl
        · cases hd
          exact ⟨pk_us, pk_us, pk_us⟩
        · obtain ⟨l', e, he⟩ := k5 l
          obtain ⟨l2, e2, he2⟩ := g5 l'
          obtain rfl := he x rfl
          obtain rfl := he2 y rfl
          refine ⟨l', l2, l2, ?_, fun d hd => ?_⟩
          · rw [bndx, e]
            dsimp only [Option.isSome]
            rw [if_neg (show ¬ zi true = 0 by decide), bndx, e9]
            dsimp only
            rw [if_neg (show ¬ (1 : Int32) = 0 by decide), bndx, e2]
            exact if_neg (show ¬ zi true = 0 by decide)
          · cases hd
            exact ⟨rfl, rfl⟩
    · refine ⟨none, c, k1, k2, (fun d hd => by cases hd), fun t S H B ht => ⟨upd S t 4, upd H t x, B, ?_, fun j hj => ⟨pk_un hj, pk_un hj, rfl⟩, fun d hd => by cases hd⟩, fun w o1 o2 l => ?_⟩
      · rw [nI_clamp (show t < 2 ^ 31 by omega), bndx, bndx, k4]
        (repeat rewrite [zo_s])
        (repeat rewrite [zo_n])
        try dsimp only
        rw [bndx, bndx, e7]
        exact if_pos rfl
      · obtain ⟨l', e, he⟩ := k5 l
        refine ⟨l', o2, l', ?_, fun d hd => by cases hd⟩
        rw [bndx, e]
        dsimp only [Option.isSome]
        rw [if_neg (show ¬ zi true = 0 by decide), bndx, e9]
        exact if_pos rfl
/-- a statement -/
def zStm (f g : Nat → Int32) (L a : Nat) (o : Option zD5) (c : Nat) : Prop := a ≤ c ∧ c ≤ L ∧ (∀ d, o = some d → a + 2 ≤ c ∧ zdv d) ∧ (∀ (t : Nat) (S H B E P : Nat → Int32), t < 60 → ∃ S' H' B' E' P', FX7_readStatement f S H B E P (nI L) (nI a) (nI t) = (zi o.isSome, S', H', B', E', P', nI c) ∧ zof t S H B E P S' H' B' E' P' ∧ ∀ d, o = some d → zhd d (S' t) (H' t) (B' t) (E' t) (P' t)) ∧ ∀ w rh rb re rk rs o1 o2 l, ∃ w' rh' rb' re' rk' rs' o1' o2' l', FX9_statement g (nI L) (nI a) w rh rb re rk rs o1 o2 l = (zi o.isSome, nI c, w', rh', rb', re', rk', rs', o1', o2', l') ∧ ∀ d, o = some d → zrd d w' rh' rb' re' rk' rs' o1' o2'
theorem x_stm (hL : L ≤ 120) (hfg : ∀ i, i < L → f i = g i) {a : Nat} (ha : a ≤ L) : ∃ (o : Option zD5) (c : Nat), zStm f g L a o c := by
  unfold zStm FX7_readStatement FX9_statement
  rcases x_take hL hfg ha 33 (by decide) with ⟨t1, -, e7, e9, -⟩ | ⟨-, e7, e9, -⟩
  · obtain ⟨o, c, k1, k2, k3, k4, k5⟩ := x_lit hL hfg (a := a + 1) t1
    cases o with
    | none =>
      refine ⟨none, c, by omega, k2, (fun d hd => by cases hd), fun t S H B E P ht => ⟨upd S t 3, upd H t (-1), B, E, P, ?_, fun j hj => ⟨pk_un hj, pk_un hj, rfl, rfl, rfl⟩, fun d hd => by cases hd⟩, fun w rh rb re rk rs o1 o2 l => ?_⟩
      · rw [bndx, e7]
        dsimp only
        rw [if_neg (show ¬ (1 : Int32) = 0 by decide)]
        unfold FX7_readFact
        rw [nI_clamp (show t < 2 ^ 31 by omega), bndx, bndx, k4]
        (repeat rewrite [zo_s])
        (repeat rewrite [zo_n])
        try dsimp only
        rw [pk_us, if_pos rfl]
        rfl
      · obtain ⟨l', e, -⟩ := k5 l
        refine ⟨0, rh, rb, re, rk, rs, o1, o2, l', ?_, fun d hd => by cases hd⟩
        rw [bndx, e9]
        dsimp only
        rw [if_neg (show ¬ (1 : Int32) = 0 by decide), bndx, e]
        exact if_pos zi_f
    | some h =>
      obtain ⟨j1, q, hq, hx⟩ := k3 h rfl
      refine ⟨some (3, h, 0, 0, 0), c, by omega, k2, fun d hd => ?_, fun t S H B E P ht => ⟨upd S t 3, upd H t h, B, E, P, ?_, fun j hj => ⟨pk_un hj, pk_un hj, rfl, rfl, rfl⟩, fun d hd => ?_⟩, fun w rh rb re rk rs o1 o2 l => ?_⟩
      · cases hd
        exact ⟨by omega, Or.inl ⟨rfl, q, hq, hx⟩⟩
      · rw [bndx, e7]
        dsimp only
        rw [if_neg (show ¬ (1 : Int32) = 0 by decide)]
        unfold FX7_readFact
        rw [nI_clamp (show t < 2 ^ 31 by omega), bndx, bndx, k4]
        (repeat rewrite [zo_s])
        (repeat rewrite [zo_n])
        try dsimp only
        rw [pk_us, if_neg (show ¬ h = -1 by rw [hx]; exact nI_m1 (by omega))]
        rfl
      · cases hd
        exact ⟨pk_us, pk_us, fun h3 => absurd rfl h3, fun h3 => absurd rfl h3⟩
      · obtain ⟨l', e, he⟩ := k5 l
        obtain rfl := he h rfl
        refine ⟨0, l', rb, re, rk, rs, o1, o2, l', ?_, fun d hd => ?_⟩
        · rw [bndx, e9]
          dsimp only
          rw [if_neg (show ¬ (1 : Int32) = 0 by decide), bndx, e]
          exact if_neg (show ¬ zi true = 0 by decide)
        · cases hd
          exact ⟨fun _ => ⟨rfl, rfl⟩, fun h4 => absurd (show (3 : Int32) = 4 from h4) (by decide), fun h3 => absurd rfl h3⟩
  · rcases x_fig hL hfg ha with ⟨d, hd, hlt, en, eh, ei, er⟩ | ⟨en, ei, er⟩
    · obtain ⟨o, c, k1, k2, k3, k4, k5⟩ := x_pair hL hfg ha (by rw [eh, ei])
      refine ⟨o.map (fun d => (4, d.1, d.2, 0, 0)), c, k1, k2, fun d hd => ?_, fun t S H B E P ht => ?_, fun w rh rb re rk rs o1 o2 l => ?_⟩
      · cases o with
        | none => cases hd
        | some y =>
          cases hd
          obtain ⟨i1, i2⟩ := k3 y rfl
          exact ⟨i1, Or.inr (Or.inl ⟨rfl, i2⟩)⟩
      · obtain ⟨S', H', B', e, e1, e2⟩ := k4 t S H B ht
        refine ⟨S', H', B', E, P, ?_, fun j hj => ⟨(e1 j hj).1, (e1 j hj).2.1, (e1 j hj).2.2, rfl, rfl⟩, fun d hd => ?_⟩
        · rw [bndx, e7]
          dsimp only
          rw [if_pos rfl, bndx, en, bndx, zfig_u, ei, if_neg (show ¬ (1 : Int32) = 0 by decide), bndx, e]
          cases o <;> rfl
        · cases o with
          | none => cases hd
          | some y =>
            cases hd
            obtain ⟨i1, i2, i3⟩ := e2 y rfl
            exact ⟨i1, i2, fun _ => i3, fun _ h4 => absurd rfl h4⟩
      · obtain ⟨o1', o2', l', e, e1⟩ := k5 w o1 o2 l
        refine ⟨2, rh, rb, re, rk, rs, o1', o2', l', ?_, fun d hd => ?_⟩
        · rw [bndx, e9]
          dsimp only
          rw [if_pos rfl, bndx, eh, bndx, ei, if_neg (show ¬ (1 : Int32) = 0 by decide), bndx, e]
          cases o <;> rfl
        · cases o with
          | none => cases hd
          | some y =>
            cases hd
            obtain ⟨i1, i2⟩ := e1 y rfl
            exact ⟨fun h3 => absurd (show (4 : Int32) = 3 from h3) (by decide), fun _ => ⟨rfl, i1, i2⟩, fun _ h4 => absurd rfl h4⟩
    · obtain ⟨o, c, k1, k2, k3, k4, k5⟩ := x_rule hL hfg ha
      refine ⟨o, c, k1, k2, fun d hd => ⟨(k3 d hd).1, Or.inr (Or.inr (k3 d hd).2)⟩, fun t S H B E P ht => ?_, fun w rh rb re rk rs o1 o2 l => ?_⟩
      · obtain ⟨S', H', B', E', P', e, e1, e2⟩ := k4 t S H B E P ht
        refine ⟨S', H', B', E', P', ?_, e1, fun d hd => ?_⟩
        · rw [bndx, e7]
          dsimp only
          rw [if_pos rfl, bndx, bndx, en, if_pos rfl, bndx, e]
        · obtain ⟨i1, i2, i3, i4, i5⟩ := e2 d hd
          exact ⟨i1, i2, fun _ => i3, fun _ _ => ⟨i4, i5⟩⟩
      · obtain ⟨rh', rb', re', rk', rs', l', e, e1⟩ := k5 w rh rb re rk rs l
        refine ⟨1, rh', rb', re', rk', rs', o1, o2, l', ?_, fun d hd => ?_⟩
        · rw [bndx, e9]
          dsimp only
          rw [if_pos rfl, bndx, bndx, ei, if_pos rfl, bndx, e]
        · obtain ⟨i1, i2, i3, i4, i5⟩ := e1 d hd
          obtain ⟨-, y2, -⟩ := k3 d hd
          refine ⟨fun h3 => ?_, fun h4 => ?_, fun _ _ => ⟨rfl, i1, i2, i3, i4, i5⟩⟩
          · rw [h3] at y2; exact absurd y2 (by decide)
          · rw [h4] at y2; exact absurd y2 (by decide)
end ZPAR2
