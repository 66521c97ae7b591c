/-! in thought -/
abbrev zRV : Type := (Nat → Int32) × Int32 × (Nat → Int32) × (Nat → Int32) × (Nat → Int32) × (Nat → Int32) × (Nat → Int32) × (Nat → Int32) × Int32 × Int32 × Int32 × Int32 × Int32
abbrev zTG : Type := (Nat → Int32) × (Nat → Int32) × (Nat → Int32) × Int32
/-- the tags of the rules R, as the reference finds them -/
def qtags (R : zC) (G : zTG) : zTG := FX9_tags (qfa R) (qru R) (qkd R) (qhd R) (qbd R) (qex R) (qsg R) (qof R) (qov R) G.1 G.2.1 G.2.2.1 G.2.2.2
def qcome (C : S0) (E : zRV) : zRV := FX4_come E.1 E.2.1 E.2.2.1 E.2.2.2.1 E.2.2.2.2.1 E.2.2.2.2.2.1 E.2.2.2.2.2.2.1 E.2.2.2.2.2.2.2.1 E.2.2.2.2.2.2.2.2.1 E.2.2.2.2.2.2.2.2.2.1 E.2.2.2.2.2.2.2.2.2.2.1 E.2.2.2.2.2.2.2.2.2.2.2.1 E.2.2.2.2.2.2.2.2.2.2.2.2 (g0_kind C) (g0_head C) (g0_body C) (g0_excepts C) (g0_power C) (g0_beats C) (g0_facts C) (g0_size C) (g0_shut C)
def zSt2 (R : zC) (E : zRV) : Prop := ∀ N : Nat, N ≤ 16 → qru R = nI N → zSt (qkd R) (qhd R) (qbd R) (qex R) (qsg R) (qof R) (qov R) (qfa R) N E
/-- whether a tag comes by the rules R -/
def zBv (R : zC) (t q : Nat) : Bool := zb ((qtags R (fun _ => 0, fun _ => 0, fun _ => 0, 0)).2.1 t) q
theorem q_come {C : S0} {R : zC} (h : zRel C R) (E : zRV) (G : zTG) : ∃ N : Nat, N ≤ 16 ∧ qru R = nI N ∧ zEnd (qkd R) (qhd R) (qbd R) (qex R) (qsg R) (qof R) (qov R) (qfa R) N (qcome C E) (qtags R G) := by
  obtain ⟨N, hN, h1, h2, h3, h4, h5, h6, -⟩ := h
  refine ⟨N, hN, h1, ?_⟩
  unfold qcome qtags
  rw [h1, h2, h3]
  exact k_come hN h4 h5 h6
theorem q_come2 {C : S0} {R : zC} (h : zRel C R) (E : zRV) : zSt2 R (qcome C E) := by
  intro N hN h1 a b c d
  obtain ⟨N', hN', h1', k⟩ := q_come h E (a, b, c, d)
  obtain rfl : N' = N := (nI_eq (by omega) (by omega)).mp (h1'.symm.trans h1)
  unfold qtags at k
  rw [h1] at k
  exact k
theorem q_known {C : S0} {R : zC} (h : zRel C R) (G : zTG) {t : Nat} (ht : t < 4) (q : Nat) : zb ((qtags R G).2.1 t) q = zBv R t q := by
  obtain ⟨N, hN, h1, k⟩ := q_come h (fun _ => 0, 0, fun _ => 0, fun _ => 0, fun _ => 0, fun _ => 0, fun _ => 0, fun _ => 0, 0, 0, 0, 0, 0) G
  obtain ⟨N', hN', h1', k'⟩ := q_come h (fun _ => 0, 0, fun _ => 0, fun _ => 0, fun _ => 0, fun _ => 0, fun _ => 0, fun _ => 0, 0, 0, 0, 0, 0) (fun _ => 0, fun _ => 0, fun _ => 0, 0)
  unfold zBv
  rw [← k.2.1 t ht, ← k'.2.1 t ht]
theorem z_end_came {kd hd bd ex sg of ov : Nat → Int32} {fa : Int32} {N : Nat} {T : zRV} {U : zTG} (k : zEnd kd hd bd ex sg of ov fa N T U) {t q : Nat} (ht : t < 4) (hq : q < 20) : (T.1 (20 * t + q) = 0) ↔ zb (U.2.1 t) q = false := by
  obtain ⟨e1, e2, e3, e4, e5, e6, kk, hk, e7, hJ⟩ := k
  obtain ⟨c, hc, ec, eb, -⟩ := hJ t q ht hq
  rw [e1 _ (by omega), ec, eb]
  constructor
  · intro h
    have : c = 0 := (nI_eq (by omega) (by omega)).mp (show nI c = nI 0 from h)
    rw [this]; rfl
  · intro h
    have : ¬ 0 < c := fun h2 => by rw [decide_eq_true h2] at h; cases h
    rw [show c = 0 by omega]; rfl
theorem q_came {C : S0} {R : zC} (h : zRel C R) (E : zRV) {t q : Nat} (ht : t < 4) (hq : q < 20) : ((qcome C E).1 (20 * t + q) = 0) ↔ zBv R t q = false := by
  obtain ⟨N, hN, h1, k⟩ := q_come h E (fun _ => 0, fun _ => 0, fun _ => 0, 0)
  exact z_end_came k ht hq
theorem q_thought {C : S0} {R : zC} (h : zRel C R) (E : zRV) {t q : Nat} (ht : t < 4) (hq : q < 20) : (FX8_comesInThought (g0_kind C) (g0_head C) (g0_body C) (g0_excepts C) (g0_power C) (g0_beats C) (g0_facts C) (g0_size C) (g0_shut C) E.1 E.2.1 E.2.2.1 E.2.2.2.1 E.2.2.2.2.1 E.2.2.2.2.2.1 E.2.2.2.2.2.2.1 E.2.2.2.2.2.2.2.1 E.2.2.2.2.2.2.2.2.1 E.2.2.2.2.2.2.2.2.2.1 E.2.2.2.2.2.2.2.2.2.2.1 E.2.2.2.2.2.2.2.2.2.2.2.1 E.2.2.2.2.2.2.2.2.2.2.2.2 (nI t) (nI q)).1 = zi (zBv R t q) := by
  unfold FX8_comesInThought
  have k := q_came h E ht hq
  unfold qcome at k
  generalize FX4_come E.1 E.2.1 E.2.2.1 E.2.2.2.1 E.2.2.2.2.1 E.2.2.2.2.2.1 E.2.2.2.2.2.2.1 E.2.2.2.2.2.2.2.1 E.2.2.2.2.2.2.2.2.1 E.2.2.2.2.2.2.2.2.2.1 E.2.2.2.2.2.2.2.2.2.2.1 E.2.2.2.2.2.2.2.2.2.2.2.1 E.2.2.2.2.2.2.2.2.2.2.2.2 (g0_kind C) (g0_head C) (g0_body C) (g0_excepts C) (g0_power C) (g0_beats C) (g0_facts C) (g0_size C) (g0_shut C) = Z at k ⊢
  unfold FX4_roundOf
  simp only [bnd]
  rw [z20' ht hq]
  cases e : zBv R t q
  · rw [if_pos (k.mpr e)]; rfl
  · rw [if_neg (fun z => by rw [k.mp z] at e; cases e)]; rfl
theorem q_comes {C : S0} {R : zC} (h : zRel C R) (G : zTG) {t q : Nat} (ht : t < 4) (hq : q < 20) : (FX9_comes (qfa R) (qru R) (qkd R) (qhd R) (qbd R) (qex R) (qsg R) (qof R) (qov R) G.1 G.2.1 G.2.2.1 G.2.2.2 (nI q) (nI t)).1 = zi (zBv R t q) := by
  unfold FX9_comes
  have k := q_known h G ht q
  unfold qtags at k
  generalize FX9_tags (qfa R) (qru R) (qkd R) (qhd R) (qbd R) (qex R) (qsg R) (qof R) (qov R) G.1 G.2.1 G.2.2.1 G.2.2.2 = Z at k ⊢
  simp only [bnd]
  rw [nI_clamp (by omega), zh9 (by omega), k]
/-- a find, or none -/
def zspO (p : Nat → Bool) (N : Nat) (out : Nat → Int32) (z : Int32) (i : Nat) : Int32 := if zfi p (N - i) i < N then out (zfi p (N - i) i) else z
abbrev zsp (p : Nat → Bool) (N : Nat) (z : Int32) (i : Nat) : Int32 := zspO p N nI z i
theorem zfindS {S R : Type} {L : Nat → Int32 → S → R} {P : Int32 → R → Prop} {p : Nat → Bool} {out : Nat → Int32} {z : Int32} (N : Nat) {I : S → Prop} (hend : ∀ n s, I s → P z (L (n + 1) (nI N) s)) (hstep : ∀ n i s, i < N → I s → (p i = true → P (out i) (L (n + 1) (nI i) s)) ∧ (p i = false → ∃ s', I s' ∧ L (n + 1) (nI i) s = L n (nI (i + 1)) s')) : ∀ (n i : Nat) (s : S), i ≤ N → N < i + n → I s → P (zspO p N out z i) (L n (nI i) s)
  | 0, i, s, h1, h2, _ => absurd h2 (by omega)
  | n + 1, i, s, h1, h2, hI => by
    rcases Nat.lt_or_eq_of_le h1 with h3 | rfl
    · obtain ⟨a, b⟩ := hstep n i s h3 hI
      unfold zspO
      rw [show N - i = (N - (i + 1)) + 1 by omega, zfi]
      cases c : p i
      · obtain ⟨s', hI', e⟩ := b c
        rw [if_neg Bool.false_ne_true, e]
        have := zfindS N hend hstep n (i + 1) s' h3 (by omega) hI'
        unfold zspO at this
        exact this
      · rw [if_pos rfl, if_pos h3]
        exact a c
    · unfold zspO
      rw [Nat.sub_self, zfi, if_neg (Nat.lt_irrefl _)]
      exact hend n s hI
theorem zRel_fa {C : S0} {R : zC} {f : Int32} (h : zRel C R) (hf : zLo f) : zRel (s0_facts C f) (qkd R, qhd R, qbd R, qex R, qsg R, qof R, qov R, f, qru R) := by
  obtain ⟨N, hN, h1, h2, h3, h4, h5⟩ := h
  exact ⟨N, hN, h1, h2, rfl, hf, h5⟩
/-- the same but for the facts -/
def ceqF (C B : S0) : Prop := (∀ r : Nat, r < 16 → g0_kind C r = g0_kind B r ∧ g0_head C r = g0_head B r ∧ g0_body C r = g0_body B r ∧ g0_excepts C r = g0_excepts B r ∧ g0_power C r = g0_power B r ∧ g0_beats C r = g0_beats B r) ∧ g0_size C = g0_size B ∧ g0_shut C = g0_shut B
theorem zRel_ceqF {C B : S0} {R : zC} {f : Int32} (e : ceqF C B) (h : zRel B R) (hf : zLo f) : zRel (s0_facts C f) (qkd R, qhd R, qbd R, qex R, qsg R, qof R, qov R, f, qru R) := by
  refine zRel_ceq (B := s0_facts B f) ⟨e.1, rfl, e.2.1, e.2.2⟩ (zRel_fa h hf)
theorem zLo_with {f : Int32} {q : Nat} {is : Int32} (hq : q < 20) (h : zLo f) : zLo (if is = 1 then f ||| (1 <<< (nI q &&& 31)) else f &&& ((1 <<< (nI q &&& 31)) ^^^ (-1))) := by
  intro j hj
  by_cases hj2 : j < 32
  · rw [zwb (by omega) hj2, if_neg (by omega)]
    exact h j hj
  · exact zb_big (by omega)
/-- the court laid into another -/
abbrev zmk (T : (Nat → Int32) × (Nat → Int32) × (Nat → Int32) × (Nat → Int32) × (Nat → Int32) × (Nat → Int32) × Int32 × Int32 × Int32) : S0 := (fun k => if k = 0 then T.2.2.2.2.2.2.1 else if k = 1 then T.2.2.2.2.2.2.2.1 else T.2.2.2.2.2.2.2.2, fun k => if k = 0 then T.1 else if k = 1 then T.2.1 else if k = 2 then T.2.2.1 else if k = 3 then T.2.2.2.1 else if k = 4 then T.2.2.2.2.1 else T.2.2.2.2.2.1)
theorem ceq_mk (d c : S0) : ceq (zmk (FX0_copyFrom (g0_kind d) (g0_head d) (g0_body d) (g0_excepts d) (g0_power d) (g0_beats d) (g0_facts d) (g0_size d) (g0_shut d) (g0_kind c) (g0_head c) (g0_body c) (g0_excepts c) (g0_power c) (g0_beats c) (g0_facts c) (g0_size c) (g0_shut c))) c := ⟨fun r hr => ⟨zcp16 _ _ hr, zcp16 _ _ hr, zcp16 _ _ hr, zcp16 _ _ hr, zcp16 _ _ hr, zcp16 _ _ hr⟩, rfl, rfl, rfl⟩
section ZBDS
variable {rc_isSettled : Int32} {c_kind : Nat → Int32} {c_head : Nat → Int32} {c_body : Nat → Int32} {c_excepts : Nat → Int32} {c_power : Nat → Int32} {c_beats : Nat → Int32} {c_facts : Int32} {c_size : Int32} {c_shut : Int32} {rd_came : Nat → Int32} {rd_last : Int32} {v_known : Nat → Int32} {v_fresh : Nat → Int32} {v_strictFor : Nat → Int32} {v_forwardFor : Nat → Int32} {v_allFor : Nat → Int32} {v_above : Nat → Int32} {v_facts : Int32} {v_applies : Int32} {v_falls : Int32} {v_sureBodies : Int32} {v_neverBodies : Int32}
theorem zbd_set2 (h : zbd rd_came) : zbd ((FX8_settled rc_isSettled c_kind c_head c_body c_excepts c_power c_beats c_facts c_size c_shut rd_came rd_last v_known v_fresh v_strictFor v_forwardFor v_allFor v_above v_facts v_applies v_falls v_sureBodies v_neverBodies)).2.1 := by
  unfold FX8_settled
  split
  · exact zbd_come
  · exact h
end ZBDS
/-- the settled rounds -/
def zSx (isS : Int32) (E : zRV) (R : zC) : Prop := (¬ isS = 0 → zSt2 R E) ∧ zbd E.1
theorem q_settled {C : S0} {R : zC} {isS : Int32} {E : zRV} (h : zRel C R) (hs : zSx isS E R) : ∀ S, FX8_settled isS (g0_kind C) (g0_head C) (g0_body C) (g0_excepts C) (g0_power C) (g0_beats C) (g0_facts C) (g0_size C) (g0_shut C) E.1 E.2.1 E.2.2.1 E.2.2.2.1 E.2.2.2.2.1 E.2.2.2.2.2.1 E.2.2.2.2.2.2.1 E.2.2.2.2.2.2.2.1 E.2.2.2.2.2.2.2.2.1 E.2.2.2.2.2.2.2.2.2.1 E.2.2.2.2.2.2.2.2.2.2.1 E.2.2.2.2.2.2.2.2.2.2.2.1 E.2.2.2.2.2.2.2.2.2.2.2.2 = S → ¬ S.1 = 0 ∧ zSx S.1 S.2 R ∧ zSt2 R S.2 := by
  intro S hS
  unfold FX8_settled at hS
  by_cases c : isS = 0
  · rw [if_pos c] at hS
    simp only [bnd] at hS
    subst hS
    have k := q_come2 h E
    exact ⟨(show ¬ (1 : Int32) = 0 by decide), ⟨fun _ => k, zbd_come⟩, k⟩
  · rw [if_neg c] at hS
    subst hS
    exact ⟨c, hs, hs.1 c⟩
theorem q_st_round {C : S0} {R : zC} {E : zRV} (h : zRel C R) (hs : zSt2 R E) {t q : Nat} (ht : t < 4) (hq : q < 20) : (FX4_roundOf E.1 (nI t) (nI q) = 0) ↔ zBv R t q = false := by
  obtain ⟨N, hN, h1, -⟩ := id h
  have k := hs N hN h1 (fun _ => 0) (fun _ => 0) (fun _ => 0) 0
  unfold FX4_roundOf
  rw [z20' ht hq, z_end_came k ht hq]
  unfold zBv qtags
  rw [h1]
section ZWOULD
theorem e_would {bc bd : S0} {R : zC} {E : zRV} {G : zTG} {x1 x2 x3 : Int32} (hR : zRel bc R) {T : (Int32 × (Nat → Int32) × (Nat → Int32) × (Nat → Int32) × (Nat → Int32) × (Nat → Int32) × (Nat → Int32) × (Int32) × (Int32) × (Int32) × (Nat → Int32) × (Int32) × (Nat → Int32) × (Nat → Int32) × (Nat → Int32) × (Nat → Int32) × (Nat → Int32) × (Nat → Int32) × (Int32) × (Int32) × (Int32) × (Int32) × (Int32))} {V : (Int32 × (Int32) × (Nat → Int32) × (Nat → Int32) × (Nat → Int32) × (Int32))} (hT : FX8_would (g0_kind bc) (g0_head bc) (g0_body bc) (g0_excepts bc) (g0_power bc) (g0_beats bc) (g0_facts bc) (g0_size bc) (g0_shut bc) (g0_kind bd) (g0_head bd) (g0_body bd) (g0_excepts bd) (g0_power bd) (g0_beats bd) (g0_facts bd) (g0_size bd) (g0_shut bd) E.1 E.2.1 E.2.2.1 E.2.2.2.1 E.2.2.2.2.1 E.2.2.2.2.2.1 E.2.2.2.2.2.2.1 E.2.2.2.2.2.2.2.1 E.2.2.2.2.2.2.2.2.1 E.2.2.2.2.2.2.2.2.2.1 E.2.2.2.2.2.2.2.2.2.2.1 E.2.2.2.2.2.2.2.2.2.2.2.1 E.2.2.2.2.2.2.2.2.2.2.2.2 x1 x2 x3 = T) (hV : FX9_would (qfa R) (qru R) (qkd R) (qhd R) (qbd R) (qex R) (qsg R) (qof R) (qov R) G.1 G.2.1 G.2.2.1 G.2.2.2 x1 x2 x3 = V) : T.1 = V.1 ∧ V.2.1 = qfa R := by
  unfold FX8_would at hT
  unfold FX9_would at hV
  simp only [bnd, e_lit, e_bit] at hT hV
  by_cases c1 : FX8_isLiteral x1 = 0
  · rw [if_pos c1] at hT hV; subst hT hV; exact ⟨rfl, rfl⟩
  rw [if_neg c1] at hT hV
  by_cases c2 : FX8_isLiteral x2 = 0
  · rw [if_pos c2] at hT hV; subst hT hV; exact ⟨rfl, rfl⟩
  rw [if_neg c2] at hT hV
  by_cases c3 : FX8_isYesOrNo x3 = 0
  · rw [if_pos c3] at hT hV; subst hT hV; exact ⟨rfl, rfl⟩
  rw [if_neg c3] at hT hV
  obtain ⟨q, hq, rfl⟩ := is_lit c1
  obtain ⟨u, hu, rfl⟩ := is_lit c2
  have hfa : g0_facts bc = qfa R := by obtain ⟨N, -, -, -, h, -⟩ := hR; exact h
  have hlo : zLo (qfa R) := by obtain ⟨N, -, -, -, -, h, -⟩ := hR; exact h
  have hf : zLo (FX9_with (qfa R) (nI u) x3) := zLo_with hu hlo
  have hC := zRel_ceqF (C := zmk (FX0_copyFrom (g0_kind bd) (g0_head bd) (g0_body bd) (g0_excepts bd) (g0_power bd) (g0_beats bd) (g0_facts bd) (g0_size bd) (g0_shut bd) (g0_kind bc) (g0_head bc) (g0_body bc) (g0_excepts bc) (g0_power bc) (g0_beats bc) (g0_facts bc) (g0_size bc) (g0_shut bc))) (f := FX9_with (qfa R) (nI u) x3) ⟨(ceq_mk bd bc).1, (ceq_mk bd bc).2.2.1, (ceq_mk bd bc).2.2.2⟩ hR hf
  have hTE : ∃ D, T = (FX4_tagsOf (qcome (s0_facts (zmk (FX0_copyFrom (g0_kind bd) (g0_head bd) (g0_body bd) (g0_excepts bd) (g0_power bd) (g0_beats bd) (g0_facts bd) (g0_size bd) (g0_shut bd) (g0_kind bc) (g0_head bc) (g0_body bc) (g0_excepts bc) (g0_power bc) (g0_beats bc) (g0_facts bc) (g0_size bc) (g0_shut bc))) (FX9_with (qfa R) (nI u) x3)) E).1 (nI q), D) := by
    rw [← hT, ← hfa]
    exact ⟨_, rfl⟩
  obtain ⟨D, hTE⟩ := hTE
  have hk := fun (t : Nat) (ht : t < 4) => q_came hC E ht hq
  have hk2 := fun (t : Nat) (ht : t < 4) => q_known hC G ht q
  generalize qcome (s0_facts (zmk (FX0_copyFrom (g0_kind bd) (g0_head bd) (g0_body bd) (g0_excepts bd) (g0_power bd) (g0_beats bd) (g0_facts bd) (g0_size bd) (g0_shut bd) (g0_kind bc) (g0_head bc) (g0_body bc) (g0_excepts bc) (g0_power bc) (g0_beats bc) (g0_facts bc) (g0_size bc) (g0_shut bc))) (FX9_with (qfa R) (nI u) x3)) E = Z at hTE hk
  unfold qtags at hk2
  have hV : FX9_would_58 (qfa R) (qru R) (qkd R) (qhd R) (qbd R) (qex R) (qsg R) (qof R) (qov R) G.1 G.2.1 G.2.2.1 G.2.2.2 (nI q) (nI u) x3 (FX9_would_97 (qfa R) (qru R) (qkd R) (qhd R) (qbd R) (qex R) (qsg R) (qof R) (qov R) G.1 G.2.1 G.2.2.1 G.2.2.2 (nI q) (nI u) x3) 5 0 0 (qfa R) (FX9_tags (FX9_with (qfa R) (nI u) x3) (qru R) (qkd R) (qhd R) (qbd R) (qex R) (qsg R) (qof R) (qov R) G.1 G.2.1 G.2.2.1 G.2.2.2).1 (FX9_tags (FX9_with (qfa R) (nI u) x3) (qru R) (qkd R) (qhd R) (qbd R) (qex R) (qsg R) (qof R) (qov R) G.1 G.2.1 G.2.2.1 G.2.2.2).2.1 (FX9_tags (FX9_with (qfa R) (nI u) x3) (qru R) (qkd R) (qhd R) (qbd R) (qex R) (qsg R) (qof R) (qov R) G.1 G.2.1 G.2.2.1 G.2.2.2).2.2.1 (FX9_tags (FX9_with (qfa R) (nI u) x3) (qru R) (qkd R) (qhd R) (qbd R) (qex R) (qsg R) (qof R) (qov R) G.1 G.2.1 G.2.2.1 G.2.2.2).2.2.2 = V := hV
  have hk2 : ∀ t : Nat, t < 4 → zb ((FX9_tags (FX9_with (qfa R) (nI u) x3) (qru R) (qkd R) (qhd R) (qbd R) (qex R) (qsg R) (qof R) (qov R) G.1 G.2.1 G.2.2.1 G.2.2.2).2.1 t) q = zBv (qkd R, qhd R, qbd R, qex R, qsg R, qof R, qov R, FX9_with (qfa R) (nI u) x3, qru R) t q := hk2
  generalize FX9_tags (FX9_with (qfa R) (nI u) x3) (qru R) (qkd R) (qhd R) (qbd R) (qex R) (qsg R) (qof R) (qov R) G.1 G.2.1 G.2.2.1 G.2.2.2 = Y at hV hk2
  generalize zBv (qkd R, qhd R, qbd R, qex R, qsg R, qof R, qov R, FX9_with (qfa R) (nI u) x3, qru R) = B at hk hk2
  obtain ⟨s, hs, e⟩ := zloopI (L := fun n x g => FX4_tagsOf_4 Z.1 (nI q) (FX4_tagsOf_30 Z.1 (nI q)) n g x) (kt := fun g => FX4_tagsOf_30 Z.1 (nI q) g) 4 (I := fun i g => zM g i (fun t => B t q)) (by
    intro n g _
    show FX4_tagsOf_4 Z.1 (nI q) _ (n + 1) g (nI 4) = _
    rw [FX4_tagsOf_4, if_pos (show (4 : Int32) ≤ nI 4 from nI_le (Nat.le_refl 4) (by omega))]) (by
    intro n i g hi h
    show ∃ s' : Int32, _ ∧ FX4_tagsOf_4 Z.1 (nI q) _ (n + 1) g (nI i) = FX4_tagsOf_4 Z.1 (nI q) _ n s' (nI (i + 1))
    rw [FX4_tagsOf_4, if_neg (show ¬ (4 : Int32) ≤ nI i from nI_ge (b := 4) hi (by omega))]
    unfold FX4_roundOf
    simp only [bnd, nI_1]
    rw [z20' hi hq]
    cases eB : B i q
    · rw [if_pos ((hk i hi).mpr eB)]
      exact ⟨_, zM_n h eB, rfl⟩
    · rw [if_neg (fun z => by rw [(hk i hi).mp z] at eB; cases eB)]
      exact ⟨_, zM_y h (by omega) eB, rfl⟩) 5 0 0 (by omega) (by omega) (zM_0 _)
  obtain ⟨s', hs', e'⟩ := zloopI (L := fun n x g => FX9_would_58 (qfa R) (qru R) (qkd R) (qhd R) (qbd R) (qex R) (qsg R) (qof R) (qov R) G.1 G.2.1 G.2.2.1 G.2.2.2 (nI q) (nI u) x3 (FX9_would_97 (qfa R) (qru R) (qkd R) (qhd R) (qbd R) (qex R) (qsg R) (qof R) (qov R) G.1 G.2.1 G.2.2.1 G.2.2.2 (nI q) (nI u) x3) n g x (qfa R) Y.1 Y.2.1 Y.2.2.1 Y.2.2.2) (kt := fun g => FX9_would_97 (qfa R) (qru R) (qkd R) (qhd R) (qbd R) (qex R) (qsg R) (qof R) (qov R) G.1 G.2.1 G.2.2.1 G.2.2.2 (nI q) (nI u) x3 g (qfa R) Y.1 Y.2.1 Y.2.2.1 Y.2.2.2) 4 (I := fun i g => zM g i (fun t => B t q)) (by
    intro n g _
    show FX9_would_58 (qfa R) (qru R) (qkd R) (qhd R) (qbd R) (qex R) (qsg R) (qof R) (qov R) G.1 G.2.1 G.2.2.1 G.2.2.2 (nI q) (nI u) x3 _ (n + 1) g (nI 4) _ _ _ _ _ = _
    rw [FX9_would_58, if_pos (show (4 : Int32) ≤ nI 4 from nI_le (Nat.le_refl 4) (by omega))]) (by
    intro n i g hi h
    show ∃ s' : Int32, _ ∧ FX9_would_58 (qfa R) (qru R) (qkd R) (qhd R) (qbd R) (qex R) (qsg R) (qof R) (qov R) G.1 G.2.1 G.2.2.1 G.2.2.2 (nI q) (nI u) x3 _ (n + 1) g (nI i) _ _ _ _ _ = FX9_would_58 (qfa R) (qru R) (qkd R) (qhd R) (qbd R) (qex R) (qsg R) (qof R) (qov R) G.1 G.2.1 G.2.2.1 G.2.2.2 (nI q) (nI u) x3 _ n s' (nI (i + 1)) _ _ _ _ _
    rw [FX9_would_58, if_neg (show ¬ (4 : Int32) ≤ nI i from nI_ge (b := 4) hi (by omega))]
    simp only [bnd, nI_1]
    rw [nI_clamp (by omega), zh9 (by omega), hk2 i hi]
    cases eB : B i q
    · rw [if_pos zi_f]
      exact ⟨_, zM_n0 h eB, rfl⟩
    · rw [if_neg (show ¬ zi true = 0 by decide)]
      exact ⟨_, zM_y h (by omega) eB, rfl⟩) 5 0 0 (by omega) (by omega) (zM_0 _)
  have e : FX4_tagsOf Z.1 (nI q) = s := e
  have e' : V = (s', qfa R, Y) := by rw [← hV]; exact e'
  rw [hTE, e, e']
  exact ⟨zM_eq hs hs' (fun _ _ => rfl), rfl⟩
end ZWOULD
