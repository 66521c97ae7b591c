/-! words: one statement after another -/
/-- the statements that stand from a on, to the end -/
def zWl (f g : Nat → Int32) (L : Nat) : Nat → List (Nat × zD5) → Prop
  | _, [] => False
  | a, p :: r => p.1 = a ∧ ∃ c : Nat, zStm f g L a (some p.2) c ∧ ((r = [] ∧ c = L) ∨ (c < L ∧ f c = 59 ∧ zWl f g L (c + 1) r))
/-- the class's rows hold them from i on -/
def zWh (ds : List (Nat × zD5)) (i : Nat) (S H B E P G : Nat → Int32) : Prop := ∀ (k : Nat) (p : Nat × zD5), ds[k]? = some p → zhd p.2 (S (i + k)) (H (i + k)) (B (i + k)) (E (i + k)) (P (i + k)) ∧ G (i + k) = nI p.1
/-- the rows agree below i -/
def zloW (i : Nat) (S H B E P G S' H' B' E' P' G' : Nat → Int32) : Prop := ∀ j : Nat, j < i → S' j = S j ∧ H' j = H j ∧ B' j = B j ∧ E' j = E j ∧ P' j = P j ∧ G' j = G j
theorem zWh_cons {a i : Nat} {d : zD5} {ds : List (Nat × zD5)} {S H B E P G : Nat → Int32} (h1 : zhd d (S i) (H i) (B i) (E i) (P i)) (h2 : G i = nI a) (h : zWh ds (i + 1) S H B E P G) : zWh ((a, d) :: ds) i S H B E P G := fun k p hk => by
  cases k with
  | zero =>
    cases hk
    exact ⟨h1, h2⟩
  | succ k =>
    have hk : ds[k]? = some p := hk
    have := h k p hk
    rw [show i + 1 + k = i + (k + 1) by omega] at this
    exact this
section ZWDS
variable {f g : Nat → Int32} {L : Nat}
theorem x_words (hL : L ≤ 120) (hfg : ∀ i, i < L → f i = g i) : ∀ (m a : Nat), a ≤ L → L < a + m → ∃ (ok : Bool) (ds : List (Nat × zD5)) (b : Nat), b ≤ L ∧ (ok = true → zWl f g L a ds) ∧ (∀ (n i : Nat) (so he bo eo po be : Nat → Int32) (at7 to7 : Int32) (S H B E P G : Nat → Int32), i + n = 61 → 3 * i ≤ a → ∃ S' H' B' E' P' G' told', FX7_split_10 f so he bo eo po be (nI L) at7 to7 (FX7_split_75 f so he bo eo po be (nI L) at7 to7) n S H B E P G (nI a) (nI i) = (zi ok, S', H', B', E', P', G', nI b, nI told') ∧ told' ≤ 60 ∧ zloW i S H B E P G S' H' B' E' P' G' ∧ (ok = true → told' = i + ds.length ∧ zWh ds i S' H' B' E' P' G')) ∧ ∀ (n : Nat) (at9 w9 rh9 rb9 re9 rk9 rs9 o19 o29 l9 w rh rb re rk rs o1 o2 l : Int32), L < a + n → ∃ X, FX9_isRead_5 g (nI L) at9 w9 rh9 rb9 re9 rk9 rs9 o19 o29 l9 (FX9_isRead_23 g (nI L) at9 w9 rh9 rb9 re9 rk9 rs9 o19 o29 l9) n (nI a) w rh rb re rk rs o1 o2 l = (zi ok, nI b, X)
  | 0, a, h1, h2 => absurd h2 (by omega)
  | m + 1, a, h1, h2 => by
    obtain ⟨o, c, s1, s2, s3, s4, s5⟩ := x_stm hL hfg h1
    cases o with
    | none =>
      refine ⟨false, [], c, s2, (fun h => by cases h), fun n i so he bo eo po be at7 to7 S H B E P G hn hi => ?_, fun n at9 w9 rh9 rb9 re9 rk9 rs9 o19 o29 l9 w rh rb re rk rs o1 o2 l hn => ?_⟩
      · cases n with
        | zero => omega
        | succ n =>
          obtain ⟨S', H', B', E', P', e, e1, -⟩ := s4 i S H B E P (by omega)
          refine ⟨S', H', B', E', P', upd G i (nI a), i, ?_, by omega, fun j hj => ?_, fun h => by cases h⟩
          · rw [FX7_split_10, if_neg (show ¬ (60 : Int32) ≤ nI i from nI_ge (b := 60) (by omega) (by omega)), nI_clamp (show i < 2 ^ 31 by omega), bndx, e]
            exact if_pos zi_f
          · obtain ⟨a1, a2, a3, a4, a5⟩ := e1 j (by omega)
            exact ⟨a1, a2, a3, a4, a5, pk_un (by omega)⟩
      · cases n with
        | zero => omega
        | succ n =>
          obtain ⟨w', rh', rb', re', rk', rs', o1', o2', l', e, -⟩ := s5 w rh rb re rk rs o1 o2 l
          refine ⟨(w', rh', rb', re', rk', rs', o1', o2', l'), ?_⟩
          rw [FX9_isRead_5, bndx, e]
          exact if_pos zi_f
    | some d =>
      obtain ⟨j1, j2⟩ := s3 d rfl
      by_cases hc : c < L
      · rcases x_take hL hfg s2 59 (by decide) with ⟨t1, hf, e7, e9, -⟩ | ⟨-, e7, e9, eh⟩
        · obtain ⟨ok, ds, b, b1, b2, b3, b4⟩ := x_words hL hfg m (c + 1) hc (by omega)
          refine ⟨ok, (a, d) :: ds, b, b1, fun h => ⟨rfl, c, ⟨s1, s2, s3, s4, s5⟩, Or.inr ⟨hc, hf, b2 h⟩⟩, fun n i so he bo eo po be at7 to7 S H B E P G hn hi => ?_, fun n at9 w9 rh9 rb9 re9 rk9 rs9 o19 o29 l9 w rh rb re rk rs o1 o2 l hn => ?_⟩
          · cases n with
            | zero => omega
            | succ n =>
              obtain ⟨S', H', B', E', P', e, e1, e2⟩ := s4 i S H B E P (by omega)
              obtain ⟨S2, H2, B2, E2, P2, G2, told', i1, i2, i3, i4⟩ := b3 n (i + 1) so he bo eo po be at7 to7 S' H' B' E' P' (upd G i (nI a)) (by omega) (by omega)
              refine ⟨S2, H2, B2, E2, P2, G2, told', ?_, i2, fun j hj => ?_, fun h => ?_⟩
              · rw [FX7_split_10, if_neg (show ¬ (60 : Int32) ≤ nI i from nI_ge (b := 60) (by omega) (by omega)), nI_clamp (show i < 2 ^ 31 by omega), bndx, e]
                dsimp only [Option.isSome]
                rw [if_neg (show ¬ zi true = 0 by decide), if_pos (show nI c < nI L from nI_lt hc (by omega)), bndx, e7]
                dsimp only
                rw [if_neg (show ¬ (1 : Int32) = 0 by decide), nI_1]
                exact i1
              · obtain ⟨a1, a2, a3, a4, a5⟩ := e1 j (by omega)
                obtain ⟨k1, k2, k3, k4, k5, k6⟩ := i3 j (by omega)
                exact ⟨k1.trans a1, k2.trans a2, k3.trans a3, k4.trans a4, k5.trans a5, k6.trans (pk_un (by omega))⟩
              · obtain ⟨q1, q2⟩ := i4 h
                obtain ⟨k1, k2, k3, k4, k5, k6⟩ := i3 i (by omega)
                refine ⟨by rw [q1, List.length_cons]; omega, zWh_cons ?_ (k6.trans pk_us) q2⟩
                rw [k1, k2, k3, k4, k5]
                exact e2 d rfl
          · cases n with
            | zero => omega
            | succ n =>
              obtain ⟨w', rh', rb', re', rk', rs', o1', o2', l', e, -⟩ := s5 w rh rb re rk rs o1 o2 l
              obtain ⟨X, i1⟩ := b4 n at9 w9 rh9 rb9 re9 rk9 rs9 o19 o29 l9 w' rh' rb' re' rk' rs' o1' o2' l' (by omega)
              refine ⟨X, ?_⟩
              rw [FX9_isRead_5, bndx, e]
              dsimp only [Option.isSome]
              rw [if_neg (show ¬ zi true = 0 by decide), bndx, e9]
              dsimp only
              rw [if_neg (show ¬ (1 : Int32) = 0 by decide)]
              exact i1
        · refine ⟨false, [], c, s2, (fun h => by cases h), fun n i so he bo eo po be at7 to7 S H B E P G hn hi => ?_, fun n at9 w9 rh9 rb9 re9 rk9 rs9 o19 o29 l9 w rh rb re rk rs o1 o2 l hn => ?_⟩
          · cases n with
            | zero => omega
            | succ n =>
              obtain ⟨S', H', B', E', P', e, e1, -⟩ := s4 i S H B E P (by omega)
              refine ⟨S', H', B', E', P', upd G i (nI a), i + 1, ?_, by omega, fun j hj => ?_, fun h => by cases h⟩
              · rw [FX7_split_10, if_neg (show ¬ (60 : Int32) ≤ nI i from nI_ge (b := 60) (by omega) (by omega)), nI_clamp (show i < 2 ^ 31 by omega), bndx, e]
                dsimp only [Option.isSome]
                rw [if_neg (show ¬ zi true = 0 by decide), if_pos (show nI c < nI L from nI_lt hc (by omega)), bndx, e7, nI_1]
                exact if_pos rfl
              · obtain ⟨a1, a2, a3, a4, a5⟩ := e1 j (by omega)
                exact ⟨a1, a2, a3, a4, a5, pk_un (by omega)⟩
          · cases n with
            | zero => omega
            | succ n =>
              obtain ⟨w', rh', rb', re', rk', rs', o1', o2', l', e, -⟩ := s5 w rh rb re rk rs o1 o2 l
              refine ⟨(w', rh', rb', re', rk', rs', o1', o2', l'), ?_⟩
              rw [FX9_isRead_5, bndx, e]
              dsimp only [Option.isSome]
              rw [if_neg (show ¬ zi true = 0 by decide), bndx, e9]
              dsimp only
              rw [if_pos rfl]
              unfold FX9_isRead_23
              exact if_neg (fun h => by have := (nI_eq (by omega) (by omega)).mp h; omega)
      · obtain rfl : c = L := by omega
        have e9 : FX9_takes g (nI c) (nI c) 59 = (0, nI c) := by
          rcases x_take hL hfg s2 59 (by decide) with ⟨t1, -⟩ | ⟨-, -, e9, -⟩
          · omega
          · exact e9
        refine ⟨true, [(a, d)], c, s2, fun _ => ⟨rfl, c, ⟨s1, s2, s3, s4, s5⟩, Or.inl ⟨rfl, rfl⟩⟩, fun n i so he bo eo po be at7 to7 S H B E P G hn hi => ?_, fun n at9 w9 rh9 rb9 re9 rk9 rs9 o19 o29 l9 w rh rb re rk rs o1 o2 l hn => ?_⟩
        · cases n with
          | zero => omega
          | succ n =>
            obtain ⟨S', H', B', E', P', e, e1, e2⟩ := s4 i S H B E P (by omega)
            refine ⟨S', H', B', E', P', upd G i (nI a), i + 1, ?_, by omega, fun j hj => ?_, fun h => ⟨rfl, zWh_cons (e2 d rfl) pk_us (fun k p hk => by cases hk)⟩⟩
            · rw [FX7_split_10, if_neg (show ¬ (60 : Int32) ≤ nI i from nI_ge (b := 60) (by omega) (by omega)), nI_clamp (show i < 2 ^ 31 by omega), bndx, e]
              dsimp only [Option.isSome]
              rw [if_neg (show ¬ zi true = 0 by decide), if_neg (show ¬ nI c < nI c from nI_nlt (Nat.le_refl c) (by omega)), nI_1]
              rfl
            · obtain ⟨a1, a2, a3, a4, a5⟩ := e1 j (by omega)
              exact ⟨a1, a2, a3, a4, a5, pk_un (by omega)⟩
        · cases n with
          | zero => omega
          | succ n =>
            obtain ⟨w', rh', rb', re', rk', rs', o1', o2', l', e, -⟩ := s5 w rh rb re rk rs o1 o2 l
            refine ⟨(w', rh', rb', re', rk', rs', o1', o2', l'), ?_⟩
            rw [FX9_isRead_5, bndx, e]
            dsimp only [Option.isSome]
            rw [if_neg (show ¬ zi true = 0 by decide), bndx, e9]
            dsimp only
            rw [if_pos rfl]
            unfold FX9_isRead_23
            exact if_pos rfl
end ZWDS
