theorem zm2 {i : Nat} (hi : i < 2 ^ 31) : ¬ nI i = (-2 : Int32) := fun h => nI_pos hi (by rw [h]; decide)
theorem zm2' : (2 : Int32) = nI 2 := rfl
theorem zRel_lo {C : S0} {R : zC} (h : zRel C R) : g0_facts C = qfa R ∧ zLo (qfa R) := by obtain ⟨N, -, -, -, a, b, -⟩ := h; exact ⟨a, b⟩
section ZKEY
/-- whether another fact is a key -/
def zKy (R : zC) (l q : Nat) : Bool := !decide (q = l) && !zb (qfa R) q && zBv (qkd R, qhd R, qbd R, qex R, qsg R, qof R, qov R, (if (1 : Int32) = 1 then qfa R ||| (1 <<< (nI q &&& 31)) else qfa R &&& ((1 <<< (nI q &&& 31)) ^^^ (-1))), qru R) 2 l
theorem k_key {bc bd : S0} {R : zC} {E E0 E1 : zRV} {isS r1 : Int32} {l : Nat} (hl : l < 20) (hR : zRel bc R) : ∀ (n i : Nat) (s : S0 × zRV), i ≤ 20 → 20 < i + n → ceqF s.1 bc → ∃ D : S0 × zRV, FX8_key_37 isS (g0_kind bc) (g0_head bc) (g0_body bc) (g0_excepts bc) (g0_power bc) (g0_beats bc) (g0_facts bc) (g0_size bc) (g0_shut bc) E0.1 E0.2.1 E0.2.2.1 E0.2.2.2.1 E0.2.2.2.2.1 E0.2.2.2.2.2.1 E0.2.2.2.2.2.2.1 E0.2.2.2.2.2.2.2.1 E0.2.2.2.2.2.2.2.2.1 E0.2.2.2.2.2.2.2.2.2.1 E0.2.2.2.2.2.2.2.2.2.2.1 E0.2.2.2.2.2.2.2.2.2.2.2.1 E0.2.2.2.2.2.2.2.2.2.2.2.2 (g0_kind bd) (g0_head bd) (g0_body bd) (g0_excepts bd) (g0_power bd) (g0_beats bd) (g0_facts bd) (g0_size bd) (g0_shut bd) E.1 E.2.1 E.2.2.1 E.2.2.2.1 E.2.2.2.2.1 E.2.2.2.2.2.1 E.2.2.2.2.2.2.1 E.2.2.2.2.2.2.2.1 E.2.2.2.2.2.2.2.2.1 E.2.2.2.2.2.2.2.2.2.1 E.2.2.2.2.2.2.2.2.2.2.1 E.2.2.2.2.2.2.2.2.2.2.2.1 E.2.2.2.2.2.2.2.2.2.2.2.2 (nI l) (FX8_key_98 isS (g0_kind bc) (g0_head bc) (g0_body bc) (g0_excepts bc) (g0_power bc) (g0_beats bc) (g0_facts bc) (g0_size bc) (g0_shut bc) E0.1 E0.2.1 E0.2.2.1 E0.2.2.2.1 E0.2.2.2.2.1 E0.2.2.2.2.2.1 E0.2.2.2.2.2.2.1 E0.2.2.2.2.2.2.2.1 E0.2.2.2.2.2.2.2.2.1 E0.2.2.2.2.2.2.2.2.2.1 E0.2.2.2.2.2.2.2.2.2.2.1 E0.2.2.2.2.2.2.2.2.2.2.2.1 E0.2.2.2.2.2.2.2.2.2.2.2.2 (g0_kind bd) (g0_head bd) (g0_body bd) (g0_excepts bd) (g0_power bd) (g0_beats bd) (g0_facts bd) (g0_size bd) (g0_shut bd) E.1 E.2.1 E.2.2.1 E.2.2.2.1 E.2.2.2.2.1 E.2.2.2.2.2.1 E.2.2.2.2.2.2.1 E.2.2.2.2.2.2.2.1 E.2.2.2.2.2.2.2.2.1 E.2.2.2.2.2.2.2.2.2.1 E.2.2.2.2.2.2.2.2.2.2.1 E.2.2.2.2.2.2.2.2.2.2.2.1 E.2.2.2.2.2.2.2.2.2.2.2.2 (nI l)) n (nI i) r1 E1.1 E1.2.1 E1.2.2.1 E1.2.2.2.1 E1.2.2.2.2.1 E1.2.2.2.2.2.1 E1.2.2.2.2.2.2.1 E1.2.2.2.2.2.2.2.1 E1.2.2.2.2.2.2.2.2.1 E1.2.2.2.2.2.2.2.2.2.1 E1.2.2.2.2.2.2.2.2.2.2.1 E1.2.2.2.2.2.2.2.2.2.2.2.1 E1.2.2.2.2.2.2.2.2.2.2.2.2 (g0_kind s.1) (g0_head s.1) (g0_body s.1) (g0_excepts s.1) (g0_power s.1) (g0_beats s.1) (g0_facts s.1) (g0_size s.1) (g0_shut s.1) s.2.1 s.2.2.1 s.2.2.2.1 s.2.2.2.2.1 s.2.2.2.2.2.1 s.2.2.2.2.2.2.1 s.2.2.2.2.2.2.2.1 s.2.2.2.2.2.2.2.2.1 s.2.2.2.2.2.2.2.2.2.1 s.2.2.2.2.2.2.2.2.2.2.1 s.2.2.2.2.2.2.2.2.2.2.2.1 s.2.2.2.2.2.2.2.2.2.2.2.2.1 s.2.2.2.2.2.2.2.2.2.2.2.2.2 = (zsp (zKy R l) 20 (-2) i, r1, E1.1, E1.2.1, E1.2.2.1, E1.2.2.2.1, E1.2.2.2.2.1, E1.2.2.2.2.2.1, E1.2.2.2.2.2.2.1, E1.2.2.2.2.2.2.2.1, E1.2.2.2.2.2.2.2.2.1, E1.2.2.2.2.2.2.2.2.2.1, E1.2.2.2.2.2.2.2.2.2.2.1, E1.2.2.2.2.2.2.2.2.2.2.2.1, E1.2.2.2.2.2.2.2.2.2.2.2.2, g0_kind D.1, g0_head D.1, g0_body D.1, g0_excepts D.1, g0_power D.1, g0_beats D.1, g0_facts D.1, g0_size D.1, g0_shut D.1, D.2) := by
  obtain ⟨hfa, hlo⟩ := zRel_lo hR
  refine zfindS (P := fun v r => ∃ D : S0 × zRV, r = (v, r1, E1.1, E1.2.1, E1.2.2.1, E1.2.2.2.1, E1.2.2.2.2.1, E1.2.2.2.2.2.1, E1.2.2.2.2.2.2.1, E1.2.2.2.2.2.2.2.1, E1.2.2.2.2.2.2.2.2.1, E1.2.2.2.2.2.2.2.2.2.1, E1.2.2.2.2.2.2.2.2.2.2.1, E1.2.2.2.2.2.2.2.2.2.2.2.1, E1.2.2.2.2.2.2.2.2.2.2.2.2, g0_kind D.1, g0_head D.1, g0_body D.1, g0_excepts D.1, g0_power D.1, g0_beats D.1, g0_facts D.1, g0_size D.1, g0_shut D.1, D.2)) (L := fun n x (s : S0 × zRV) => FX8_key_37 isS (g0_kind bc) (g0_head bc) (g0_body bc) (g0_excepts bc) (g0_power bc) (g0_beats bc) (g0_facts bc) (g0_size bc) (g0_shut bc) E0.1 E0.2.1 E0.2.2.1 E0.2.2.2.1 E0.2.2.2.2.1 E0.2.2.2.2.2.1 E0.2.2.2.2.2.2.1 E0.2.2.2.2.2.2.2.1 E0.2.2.2.2.2.2.2.2.1 E0.2.2.2.2.2.2.2.2.2.1 E0.2.2.2.2.2.2.2.2.2.2.1 E0.2.2.2.2.2.2.2.2.2.2.2.1 E0.2.2.2.2.2.2.2.2.2.2.2.2 (g0_kind bd) (g0_head bd) (g0_body bd) (g0_excepts bd) (g0_power bd) (g0_beats bd) (g0_facts bd) (g0_size bd) (g0_shut bd) E.1 E.2.1 E.2.2.1 E.2.2.2.1 E.2.2.2.2.1 E.2.2.2.2.2.1 E.2.2.2.2.2.2.1 E.2.2.2.2.2.2.2.1 E.2.2.2.2.2.2.2.2.1 E.2.2.2.2.2.2.2.2.2.1 E.2.2.2.2.2.2.2.2.2.2.1 E.2.2.2.2.2.2.2.2.2.2.2.1 E.2.2.2.2.2.2.2.2.2.2.2.2 (nI l) (FX8_key_98 isS (g0_kind bc) (g0_head bc) (g0_body bc) (g0_excepts bc) (g0_power bc) (g0_beats bc) (g0_facts bc) (g0_size bc) (g0_shut bc) E0.1 E0.2.1 E0.2.2.1 E0.2.2.2.1 E0.2.2.2.2.1 E0.2.2.2.2.2.1 E0.2.2.2.2.2.2.1 E0.2.2.2.2.2.2.2.1 E0.2.2.2.2.2.2.2.2.1 E0.2.2.2.2.2.2.2.2.2.1 E0.2.2.2.2.2.2.2.2.2.2.1 E0.2.2.2.2.2.2.2.2.2.2.2.1 E0.2.2.2.2.2.2.2.2.2.2.2.2 (g0_kind bd) (g0_head bd) (g0_body bd) (g0_excepts bd) (g0_power bd) (g0_beats bd) (g0_facts bd) (g0_size bd) (g0_shut bd) E.1 E.2.1 E.2.2.1 E.2.2.2.1 E.2.2.2.2.1 E.2.2.2.2.2.1 E.2.2.2.2.2.2.1 E.2.2.2.2.2.2.2.1 E.2.2.2.2.2.2.2.2.1 E.2.2.2.2.2.2.2.2.2.1 E.2.2.2.2.2.2.2.2.2.2.1 E.2.2.2.2.2.2.2.2.2.2.2.1 E.2.2.2.2.2.2.2.2.2.2.2.2 (nI l)) n x r1 E1.1 E1.2.1 E1.2.2.1 E1.2.2.2.1 E1.2.2.2.2.1 E1.2.2.2.2.2.1 E1.2.2.2.2.2.2.1 E1.2.2.2.2.2.2.2.1 E1.2.2.2.2.2.2.2.2.1 E1.2.2.2.2.2.2.2.2.2.1 E1.2.2.2.2.2.2.2.2.2.2.1 E1.2.2.2.2.2.2.2.2.2.2.2.1 E1.2.2.2.2.2.2.2.2.2.2.2.2 (g0_kind s.1) (g0_head s.1) (g0_body s.1) (g0_excepts s.1) (g0_power s.1) (g0_beats s.1) (g0_facts s.1) (g0_size s.1) (g0_shut s.1) s.2.1 s.2.2.1 s.2.2.2.1 s.2.2.2.2.1 s.2.2.2.2.2.1 s.2.2.2.2.2.2.1 s.2.2.2.2.2.2.2.1 s.2.2.2.2.2.2.2.2.1 s.2.2.2.2.2.2.2.2.2.1 s.2.2.2.2.2.2.2.2.2.2.1 s.2.2.2.2.2.2.2.2.2.2.2.1 s.2.2.2.2.2.2.2.2.2.2.2.2.1 s.2.2.2.2.2.2.2.2.2.2.2.2.2) (I := fun s => ceqF s.1 bc) 20 ?_ ?_
  · intro n s _
    refine ⟨s, ?_⟩
    show FX8_key_37 isS (g0_kind bc) (g0_head bc) (g0_body bc) (g0_excepts bc) (g0_power bc) (g0_beats bc) (g0_facts bc) (g0_size bc) (g0_shut bc) E0.1 E0.2.1 E0.2.2.1 E0.2.2.2.1 E0.2.2.2.2.1 E0.2.2.2.2.2.1 E0.2.2.2.2.2.2.1 E0.2.2.2.2.2.2.2.1 E0.2.2.2.2.2.2.2.2.1 E0.2.2.2.2.2.2.2.2.2.1 E0.2.2.2.2.2.2.2.2.2.2.1 E0.2.2.2.2.2.2.2.2.2.2.2.1 E0.2.2.2.2.2.2.2.2.2.2.2.2 (g0_kind bd) (g0_head bd) (g0_body bd) (g0_excepts bd) (g0_power bd) (g0_beats bd) (g0_facts bd) (g0_size bd) (g0_shut bd) E.1 E.2.1 E.2.2.1 E.2.2.2.1 E.2.2.2.2.1 E.2.2.2.2.2.1 E.2.2.2.2.2.2.1 E.2.2.2.2.2.2.2.1 E.2.2.2.2.2.2.2.2.1 E.2.2.2.2.2.2.2.2.2.1 E.2.2.2.2.2.2.2.2.2.2.1 E.2.2.2.2.2.2.2.2.2.2.2.1 E.2.2.2.2.2.2.2.2.2.2.2.2 (nI l) _ (n + 1) (nI 20) r1 E1.1 E1.2.1 E1.2.2.1 E1.2.2.2.1 E1.2.2.2.2.1 E1.2.2.2.2.2.1 E1.2.2.2.2.2.2.1 E1.2.2.2.2.2.2.2.1 E1.2.2.2.2.2.2.2.2.1 E1.2.2.2.2.2.2.2.2.2.1 E1.2.2.2.2.2.2.2.2.2.2.1 E1.2.2.2.2.2.2.2.2.2.2.2.1 E1.2.2.2.2.2.2.2.2.2.2.2.2 (g0_kind s.1) (g0_head s.1) (g0_body s.1) (g0_excepts s.1) (g0_power s.1) (g0_beats s.1) (g0_facts s.1) (g0_size s.1) (g0_shut s.1) s.2.1 s.2.2.1 s.2.2.2.1 s.2.2.2.2.1 s.2.2.2.2.2.1 s.2.2.2.2.2.2.1 s.2.2.2.2.2.2.2.1 s.2.2.2.2.2.2.2.2.1 s.2.2.2.2.2.2.2.2.2.1 s.2.2.2.2.2.2.2.2.2.2.1 s.2.2.2.2.2.2.2.2.2.2.2.1 s.2.2.2.2.2.2.2.2.2.2.2.2.1 s.2.2.2.2.2.2.2.2.2.2.2.2.2 = _
    rw [FX8_key_37, if_pos (show (20 : Int32) ≤ nI 20 from nI_le (Nat.le_refl 20) (by omega))]
    rfl
  · intro n i s hi hs
    have hlo2 : zLo (if (1 : Int32) = 1 then qfa R ||| (1 <<< (nI i &&& 31)) else qfa R &&& ((1 <<< (nI i &&& 31)) ^^^ (-1))) := zLo_with hi hlo
    have hC := zRel_ceqF hs hR hlo2
    have hB := q_thought hC s.2 (t := 2) (q := l) (by decide) hl
    have hw : FX8_withBit (g0_facts bc) (nI i) 1 = (if (1 : Int32) = 1 then qfa R ||| (1 <<< (nI i &&& 31)) else qfa R &&& ((1 <<< (nI i &&& 31)) ^^^ (-1))) := by rw [hfa]; rfl
    generalize hF : (if (1 : Int32) = 1 then qfa R ||| (1 <<< (nI i &&& 31)) else qfa R &&& ((1 <<< (nI i &&& 31)) ^^^ (-1))) = F at hlo2 hC hB hw
    have hB : (FX8_comesInThought (g0_kind s.1) (g0_head s.1) (g0_body s.1) (g0_excepts s.1) (g0_power s.1) (g0_beats s.1) F (g0_size s.1) (g0_shut s.1) s.2.1 s.2.2.1 s.2.2.2.1 s.2.2.2.2.1 s.2.2.2.2.2.1 s.2.2.2.2.2.2.1 s.2.2.2.2.2.2.2.1 s.2.2.2.2.2.2.2.2.1 s.2.2.2.2.2.2.2.2.2.1 s.2.2.2.2.2.2.2.2.2.2.1 s.2.2.2.2.2.2.2.2.2.2.2.1 s.2.2.2.2.2.2.2.2.2.2.2.2.1 s.2.2.2.2.2.2.2.2.2.2.2.2.2 2 (nI l)).1 = zi (zBv (qkd R, qhd R, qbd R, qex R, qsg R, qof R, qov R, F, qru R) 2 l) := hB
    have hun : FX8_key_37 isS (g0_kind bc) (g0_head bc) (g0_body bc) (g0_excepts bc) (g0_power bc) (g0_beats bc) (g0_facts bc) (g0_size bc) (g0_shut bc) E0.1 E0.2.1 E0.2.2.1 E0.2.2.2.1 E0.2.2.2.2.1 E0.2.2.2.2.2.1 E0.2.2.2.2.2.2.1 E0.2.2.2.2.2.2.2.1 E0.2.2.2.2.2.2.2.2.1 E0.2.2.2.2.2.2.2.2.2.1 E0.2.2.2.2.2.2.2.2.2.2.1 E0.2.2.2.2.2.2.2.2.2.2.2.1 E0.2.2.2.2.2.2.2.2.2.2.2.2 (g0_kind bd) (g0_head bd) (g0_body bd) (g0_excepts bd) (g0_power bd) (g0_beats bd) (g0_facts bd) (g0_size bd) (g0_shut bd) E.1 E.2.1 E.2.2.1 E.2.2.2.1 E.2.2.2.2.1 E.2.2.2.2.2.1 E.2.2.2.2.2.2.1 E.2.2.2.2.2.2.2.1 E.2.2.2.2.2.2.2.2.1 E.2.2.2.2.2.2.2.2.2.1 E.2.2.2.2.2.2.2.2.2.2.1 E.2.2.2.2.2.2.2.2.2.2.2.1 E.2.2.2.2.2.2.2.2.2.2.2.2 (nI l) (FX8_key_98 isS (g0_kind bc) (g0_head bc) (g0_body bc) (g0_excepts bc) (g0_power bc) (g0_beats bc) (g0_facts bc) (g0_size bc) (g0_shut bc) E0.1 E0.2.1 E0.2.2.1 E0.2.2.2.1 E0.2.2.2.2.1 E0.2.2.2.2.2.1 E0.2.2.2.2.2.2.1 E0.2.2.2.2.2.2.2.1 E0.2.2.2.2.2.2.2.2.1 E0.2.2.2.2.2.2.2.2.2.1 E0.2.2.2.2.2.2.2.2.2.2.1 E0.2.2.2.2.2.2.2.2.2.2.2.1 E0.2.2.2.2.2.2.2.2.2.2.2.2 (g0_kind bd) (g0_head bd) (g0_body bd) (g0_excepts bd) (g0_power bd) (g0_beats bd) (g0_facts bd) (g0_size bd) (g0_shut bd) E.1 E.2.1 E.2.2.1 E.2.2.2.1 E.2.2.2.2.1 E.2.2.2.2.2.1 E.2.2.2.2.2.2.1 E.2.2.2.2.2.2.2.1 E.2.2.2.2.2.2.2.2.1 E.2.2.2.2.2.2.2.2.2.1 E.2.2.2.2.2.2.2.2.2.2.1 E.2.2.2.2.2.2.2.2.2.2.2.1 E.2.2.2.2.2.2.2.2.2.2.2.2 (nI l)) (n + 1) (nI i) r1 E1.1 E1.2.1 E1.2.2.1 E1.2.2.2.1 E1.2.2.2.2.1 E1.2.2.2.2.2.1 E1.2.2.2.2.2.2.1 E1.2.2.2.2.2.2.2.1 E1.2.2.2.2.2.2.2.2.1 E1.2.2.2.2.2.2.2.2.2.1 E1.2.2.2.2.2.2.2.2.2.2.1 E1.2.2.2.2.2.2.2.2.2.2.2.1 E1.2.2.2.2.2.2.2.2.2.2.2.2 (g0_kind s.1) (g0_head s.1) (g0_body s.1) (g0_excepts s.1) (g0_power s.1) (g0_beats s.1) (g0_facts s.1) (g0_size s.1) (g0_shut s.1) s.2.1 s.2.2.1 s.2.2.2.1 s.2.2.2.2.1 s.2.2.2.2.2.1 s.2.2.2.2.2.2.1 s.2.2.2.2.2.2.2.1 s.2.2.2.2.2.2.2.2.1 s.2.2.2.2.2.2.2.2.2.1 s.2.2.2.2.2.2.2.2.2.2.1 s.2.2.2.2.2.2.2.2.2.2.2.1 s.2.2.2.2.2.2.2.2.2.2.2.2.1 s.2.2.2.2.2.2.2.2.2.2.2.2.2 = _ := FX8_key_37.eq_2 ..
    rw [if_neg (show ¬ (20 : Int32) ≤ nI i from nI_ge (b := 20) hi (by omega))] at hun
    simp only [bnd, nI_1] at hun
    have hbf : zb (g0_facts bc) i = zb (qfa R) i := by rw [hfa]
    rw [hw, zhas (show i < 32 by omega), hbf] at hun
    have hky : zKy R l i = (!decide (i = l) && !zb (qfa R) i && zBv (qkd R, qhd R, qbd R, qex R, qsg R, qof R, qov R, F, qru R) 2 l) := by unfold zKy; rw [hF]
    have nxt : ∀ e : zRV, ∃ s' : S0 × zRV, ceqF s'.1 bc ∧ FX8_key_37 isS (g0_kind bc) (g0_head bc) (g0_body bc) (g0_excepts bc) (g0_power bc) (g0_beats bc) (g0_facts bc) (g0_size bc) (g0_shut bc) E0.1 E0.2.1 E0.2.2.1 E0.2.2.2.1 E0.2.2.2.2.1 E0.2.2.2.2.2.1 E0.2.2.2.2.2.2.1 E0.2.2.2.2.2.2.2.1 E0.2.2.2.2.2.2.2.2.1 E0.2.2.2.2.2.2.2.2.2.1 E0.2.2.2.2.2.2.2.2.2.2.1 E0.2.2.2.2.2.2.2.2.2.2.2.1 E0.2.2.2.2.2.2.2.2.2.2.2.2 (g0_kind bd) (g0_head bd) (g0_body bd) (g0_excepts bd) (g0_power bd) (g0_beats bd) (g0_facts bd) (g0_size bd) (g0_shut bd) E.1 E.2.1 E.2.2.1 E.2.2.2.1 E.2.2.2.2.1 E.2.2.2.2.2.1 E.2.2.2.2.2.2.1 E.2.2.2.2.2.2.2.1 E.2.2.2.2.2.2.2.2.1 E.2.2.2.2.2.2.2.2.2.1 E.2.2.2.2.2.2.2.2.2.2.1 E.2.2.2.2.2.2.2.2.2.2.2.1 E.2.2.2.2.2.2.2.2.2.2.2.2 (nI l) (FX8_key_98 isS (g0_kind bc) (g0_head bc) (g0_body bc) (g0_excepts bc) (g0_power bc) (g0_beats bc) (g0_facts bc) (g0_size bc) (g0_shut bc) E0.1 E0.2.1 E0.2.2.1 E0.2.2.2.1 E0.2.2.2.2.1 E0.2.2.2.2.2.1 E0.2.2.2.2.2.2.1 E0.2.2.2.2.2.2.2.1 E0.2.2.2.2.2.2.2.2.1 E0.2.2.2.2.2.2.2.2.2.1 E0.2.2.2.2.2.2.2.2.2.2.1 E0.2.2.2.2.2.2.2.2.2.2.2.1 E0.2.2.2.2.2.2.2.2.2.2.2.2 (g0_kind bd) (g0_head bd) (g0_body bd) (g0_excepts bd) (g0_power bd) (g0_beats bd) (g0_facts bd) (g0_size bd) (g0_shut bd) E.1 E.2.1 E.2.2.1 E.2.2.2.1 E.2.2.2.2.1 E.2.2.2.2.2.1 E.2.2.2.2.2.2.1 E.2.2.2.2.2.2.2.1 E.2.2.2.2.2.2.2.2.1 E.2.2.2.2.2.2.2.2.2.1 E.2.2.2.2.2.2.2.2.2.2.1 E.2.2.2.2.2.2.2.2.2.2.2.1 E.2.2.2.2.2.2.2.2.2.2.2.2 (nI l)) n (nI (i + 1)) r1 E1.1 E1.2.1 E1.2.2.1 E1.2.2.2.1 E1.2.2.2.2.1 E1.2.2.2.2.2.1 E1.2.2.2.2.2.2.1 E1.2.2.2.2.2.2.2.1 E1.2.2.2.2.2.2.2.2.1 E1.2.2.2.2.2.2.2.2.2.1 E1.2.2.2.2.2.2.2.2.2.2.1 E1.2.2.2.2.2.2.2.2.2.2.2.1 E1.2.2.2.2.2.2.2.2.2.2.2.2 (g0_kind s.1) (g0_head s.1) (g0_body s.1) (g0_excepts s.1) (g0_power s.1) (g0_beats s.1) F (g0_size s.1) (g0_shut s.1) e.1 e.2.1 e.2.2.1 e.2.2.2.1 e.2.2.2.2.1 e.2.2.2.2.2.1 e.2.2.2.2.2.2.1 e.2.2.2.2.2.2.2.1 e.2.2.2.2.2.2.2.2.1 e.2.2.2.2.2.2.2.2.2.1 e.2.2.2.2.2.2.2.2.2.2.1 e.2.2.2.2.2.2.2.2.2.2.2.1 e.2.2.2.2.2.2.2.2.2.2.2.2 = FX8_key_37 isS (g0_kind bc) (g0_head bc) (g0_body bc) (g0_excepts bc) (g0_power bc) (g0_beats bc) (g0_facts bc) (g0_size bc) (g0_shut bc) E0.1 E0.2.1 E0.2.2.1 E0.2.2.2.1 E0.2.2.2.2.1 E0.2.2.2.2.2.1 E0.2.2.2.2.2.2.1 E0.2.2.2.2.2.2.2.1 E0.2.2.2.2.2.2.2.2.1 E0.2.2.2.2.2.2.2.2.2.1 E0.2.2.2.2.2.2.2.2.2.2.1 E0.2.2.2.2.2.2.2.2.2.2.2.1 E0.2.2.2.2.2.2.2.2.2.2.2.2 (g0_kind bd) (g0_head bd) (g0_body bd) (g0_excepts bd) (g0_power bd) (g0_beats bd) (g0_facts bd) (g0_size bd) (g0_shut bd) E.1 E.2.1 E.2.2.1 E.2.2.2.1 E.2.2.2.2.1 E.2.2.2.2.2.1 E.2.2.2.2.2.2.1 E.2.2.2.2.2.2.2.1 E.2.2.2.2.2.2.2.2.1 E.2.2.2.2.2.2.2.2.2.1 E.2.2.2.2.2.2.2.2.2.2.1 E.2.2.2.2.2.2.2.2.2.2.2.1 E.2.2.2.2.2.2.2.2.2.2.2.2 (nI l) (FX8_key_98 isS (g0_kind bc) (g0_head bc) (g0_body bc) (g0_excepts bc) (g0_power bc) (g0_beats bc) (g0_facts bc) (g0_size bc) (g0_shut bc) E0.1 E0.2.1 E0.2.2.1 E0.2.2.2.1 E0.2.2.2.2.1 E0.2.2.2.2.2.1 E0.2.2.2.2.2.2.1 E0.2.2.2.2.2.2.2.1 E0.2.2.2.2.2.2.2.2.1 E0.2.2.2.2.2.2.2.2.2.1 E0.2.2.2.2.2.2.2.2.2.2.1 E0.2.2.2.2.2.2.2.2.2.2.2.1 E0.2.2.2.2.2.2.2.2.2.2.2.2 (g0_kind bd) (g0_head bd) (g0_body bd) (g0_excepts bd) (g0_power bd) (g0_beats bd) (g0_facts bd) (g0_size bd) (g0_shut bd) E.1 E.2.1 E.2.2.1 E.2.2.2.1 E.2.2.2.2.1 E.2.2.2.2.2.1 E.2.2.2.2.2.2.1 E.2.2.2.2.2.2.2.1 E.2.2.2.2.2.2.2.2.1 E.2.2.2.2.2.2.2.2.2.1 E.2.2.2.2.2.2.2.2.2.2.1 E.2.2.2.2.2.2.2.2.2.2.2.1 E.2.2.2.2.2.2.2.2.2.2.2.2 (nI l)) n (nI (i + 1)) r1 E1.1 E1.2.1 E1.2.2.1 E1.2.2.2.1 E1.2.2.2.2.1 E1.2.2.2.2.2.1 E1.2.2.2.2.2.2.1 E1.2.2.2.2.2.2.2.1 E1.2.2.2.2.2.2.2.2.1 E1.2.2.2.2.2.2.2.2.2.1 E1.2.2.2.2.2.2.2.2.2.2.1 E1.2.2.2.2.2.2.2.2.2.2.2.1 E1.2.2.2.2.2.2.2.2.2.2.2.2 (g0_kind s'.1) (g0_head s'.1) (g0_body s'.1) (g0_excepts s'.1) (g0_power s'.1) (g0_beats s'.1) (g0_facts s'.1) (g0_size s'.1) (g0_shut s'.1) s'.2.1 s'.2.2.1 s'.2.2.2.1 s'.2.2.2.2.1 s'.2.2.2.2.2.1 s'.2.2.2.2.2.2.1 s'.2.2.2.2.2.2.2.1 s'.2.2.2.2.2.2.2.2.1 s'.2.2.2.2.2.2.2.2.2.1 s'.2.2.2.2.2.2.2.2.2.2.1 s'.2.2.2.2.2.2.2.2.2.2.2.1 s'.2.2.2.2.2.2.2.2.2.2.2.2.1 s'.2.2.2.2.2.2.2.2.2.2.2.2.2 := fun e => ⟨(s0_facts s.1 F, e), hs, rfl⟩
    by_cases c1 : i = l
    · rw [if_pos (show nI i = nI l by rw [c1])] at hun
      rw [hky, decide_eq_true c1]
      exact ⟨fun h => (by cases h), fun _ => by
        obtain ⟨s', h1, h2⟩ := nxt s.2
        exact ⟨s', h1, hun.trans h2⟩⟩
    · rw [if_neg (show ¬ nI i = nI l from fun e => c1 ((nI_eq (by omega) (by omega)).mp e))] at hun
      rw [hky, decide_eq_false c1]
      cases hb : zb (qfa R) i
      · rw [hb, if_neg (show ¬ false = true by decide), if_pos rfl] at hun
        rw [hB] at hun
        cases hv : zBv (qkd R, qhd R, qbd R, qex R, qsg R, qof R, qov R, F, qru R) 2 l
        · rw [hv, if_pos zi_f] at hun
          exact ⟨fun h => (by cases h), fun _ => by
            obtain ⟨s', h1, h2⟩ := nxt (FX8_comesInThought (g0_kind s.1) (g0_head s.1) (g0_body s.1) (g0_excepts s.1) (g0_power s.1) (g0_beats s.1) F (g0_size s.1) (g0_shut s.1) s.2.1 s.2.2.1 s.2.2.2.1 s.2.2.2.2.1 s.2.2.2.2.2.1 s.2.2.2.2.2.2.1 s.2.2.2.2.2.2.2.1 s.2.2.2.2.2.2.2.2.1 s.2.2.2.2.2.2.2.2.2.1 s.2.2.2.2.2.2.2.2.2.2.1 s.2.2.2.2.2.2.2.2.2.2.2.1 s.2.2.2.2.2.2.2.2.2.2.2.2.1 s.2.2.2.2.2.2.2.2.2.2.2.2.2 2 (nI l)).2
            exact ⟨s', h1, hun.trans h2⟩⟩
        · rw [hv, if_neg (show ¬ zi true = 0 by decide)] at hun
          exact ⟨fun _ => ⟨(s0_facts s.1 F, (FX8_comesInThought (g0_kind s.1) (g0_head s.1) (g0_body s.1) (g0_excepts s.1) (g0_power s.1) (g0_beats s.1) F (g0_size s.1) (g0_shut s.1) s.2.1 s.2.2.1 s.2.2.2.1 s.2.2.2.2.1 s.2.2.2.2.2.1 s.2.2.2.2.2.2.1 s.2.2.2.2.2.2.2.1 s.2.2.2.2.2.2.2.2.1 s.2.2.2.2.2.2.2.2.2.1 s.2.2.2.2.2.2.2.2.2.2.1 s.2.2.2.2.2.2.2.2.2.2.2.1 s.2.2.2.2.2.2.2.2.2.2.2.2.1 s.2.2.2.2.2.2.2.2.2.2.2.2.2 2 (nI l)).2), hun⟩, fun h => (by cases h)⟩
      · rw [hb, if_pos rfl, if_neg (show ¬ (1 : Int32) = 0 by decide)] at hun
        exact ⟨fun h => (by cases h), fun _ => by
          obtain ⟨s', h1, h2⟩ := nxt s.2
          exact ⟨s', h1, hun.trans h2⟩⟩
theorem r_key {bc : S0} {R : zC} {G : zTG} {l : Nat} (hl : l < 20) (hR : zRel bc R) : ∀ (n i : Nat) (s : Int32 × zTG), i ≤ 20 → 20 < i + n → True → ∃ D : zTG, FX9_key_32 (qfa R) (qru R) (qkd R) (qhd R) (qbd R) (qex R) (qsg R) (qof R) (qov R) G.1 G.2.1 G.2.2.1 G.2.2.2 (nI l) (FX9_key_97 (qfa R) (qru R) (qkd R) (qhd R) (qbd R) (qex R) (qsg R) (qof R) (qov R) G.1 G.2.1 G.2.2.1 G.2.2.2 (nI l)) n (qfa R) (-2) (nI i) s.1 s.2.1 s.2.2.1 s.2.2.2.1 s.2.2.2.2 = (zsp (zKy R l) 20 (-2) i, qfa R, D) := by
  obtain ⟨hfa, hlo⟩ := zRel_lo hR
  refine zfindS (P := fun v r => ∃ D : zTG, r = (v, qfa R, D)) (L := fun n x (s : Int32 × zTG) => FX9_key_32 (qfa R) (qru R) (qkd R) (qhd R) (qbd R) (qex R) (qsg R) (qof R) (qov R) G.1 G.2.1 G.2.2.1 G.2.2.2 (nI l) (FX9_key_97 (qfa R) (qru R) (qkd R) (qhd R) (qbd R) (qex R) (qsg R) (qof R) (qov R) G.1 G.2.1 G.2.2.1 G.2.2.2 (nI l)) n (qfa R) (-2) x s.1 s.2.1 s.2.2.1 s.2.2.2.1 s.2.2.2.2) (I := fun _ => True) 20 ?_ ?_
  · intro n s _
    refine ⟨s.2, ?_⟩
    show FX9_key_32 (qfa R) (qru R) (qkd R) (qhd R) (qbd R) (qex R) (qsg R) (qof R) (qov R) G.1 G.2.1 G.2.2.1 G.2.2.2 (nI l) _ (n + 1) (qfa R) (-2) (nI 20) s.1 s.2.1 s.2.2.1 s.2.2.2.1 s.2.2.2.2 = _
    rw [FX9_key_32, if_pos (show (20 : Int32) ≤ nI 20 from nI_le (Nat.le_refl 20) (by omega))]
    rfl
  · intro n i s hi _
    have hlo2 : zLo (if (1 : Int32) = 1 then qfa R ||| (1 <<< (nI i &&& 31)) else qfa R &&& ((1 <<< (nI i &&& 31)) ^^^ (-1))) := zLo_with hi hlo
    have hC := zRel_fa hR hlo2
    have hB := q_comes hC s.2 (t := 2) (q := l) (by decide) hl
    have hw : FX9_with (qfa R) (nI i) 1 = (if (1 : Int32) = 1 then qfa R ||| (1 <<< (nI i &&& 31)) else qfa R &&& ((1 <<< (nI i &&& 31)) ^^^ (-1))) := rfl
    generalize hF : (if (1 : Int32) = 1 then qfa R ||| (1 <<< (nI i &&& 31)) else qfa R &&& ((1 <<< (nI i &&& 31)) ^^^ (-1))) = F at hlo2 hC hB hw
    have hB : (FX9_comes F (qru R) (qkd R) (qhd R) (qbd R) (qex R) (qsg R) (qof R) (qov R) s.2.1 s.2.2.1 s.2.2.2.1 s.2.2.2.2 (nI l) 2).1 = zi (zBv (qkd R, qhd R, qbd R, qex R, qsg R, qof R, qov R, F, qru R) 2 l) := hB
    have hun : FX9_key_32 (qfa R) (qru R) (qkd R) (qhd R) (qbd R) (qex R) (qsg R) (qof R) (qov R) G.1 G.2.1 G.2.2.1 G.2.2.2 (nI l) (FX9_key_97 (qfa R) (qru R) (qkd R) (qhd R) (qbd R) (qex R) (qsg R) (qof R) (qov R) G.1 G.2.1 G.2.2.1 G.2.2.2 (nI l)) (n + 1) (qfa R) (-2) (nI i) s.1 s.2.1 s.2.2.1 s.2.2.2.1 s.2.2.2.2 = _ := FX9_key_32.eq_2 ..
    rw [if_neg (show ¬ (20 : Int32) ≤ nI i from nI_ge (b := 20) hi (by omega)), if_pos rfl] at hun
    simp only [bnd, nI_1] at hun
    rw [hw, zh9 (show i < 32 by omega)] at hun
    have hky : zKy R l i = (!decide (i = l) && !zb (qfa R) i && zBv (qkd R, qhd R, qbd R, qex R, qsg R, qof R, qov R, F, qru R) 2 l) := by unfold zKy; rw [hF]
    by_cases c1 : i = l
    · rw [if_pos (show nI i = nI l by rw [c1])] at hun
      rw [hky, decide_eq_true c1]
      exact ⟨fun h => (by cases h), fun _ => ⟨s, trivial, hun⟩⟩
    · rw [if_neg (show ¬ nI i = nI l from fun e => c1 ((nI_eq (by omega) (by omega)).mp e))] at hun
      rw [hky, decide_eq_false c1]
      cases hb : zb (qfa R) i
      · rw [hb, if_pos zi_f, hB] at hun
        cases hv : zBv (qkd R, qhd R, qbd R, qex R, qsg R, qof R, qov R, F, qru R) 2 l
        · rw [hv, if_pos zi_f] at hun
          exact ⟨fun h => (by cases h), fun _ => ⟨(F, (FX9_comes F (qru R) (qkd R) (qhd R) (qbd R) (qex R) (qsg R) (qof R) (qov R) s.2.1 s.2.2.1 s.2.2.2.1 s.2.2.2.2 (nI l) 2).2), trivial, hun⟩⟩
        · rw [hv, if_neg (show ¬ zi true = 0 by decide)] at hun
          refine ⟨fun _ => ?_, fun h => (by cases h)⟩
          refine ⟨(FX9_comes F (qru R) (qkd R) (qhd R) (qbd R) (qex R) (qsg R) (qof R) (qov R) s.2.1 s.2.2.1 s.2.2.2.1 s.2.2.2.2 (nI l) 2).2, hun.trans ?_⟩
          cases n with
          | zero => rfl
          | succ n =>
            rw [FX9_key_32]
            by_cases c2 : (20 : Int32) ≤ nI (i + 1)
            · rw [if_pos c2]; rfl
            · rw [if_neg c2, if_neg (zm2 (by omega))]; rfl
      · rw [hb, if_neg (show ¬ zi true = 0 by decide)] at hun
        exact ⟨fun h => (by cases h), fun _ => ⟨s, trivial, hun⟩⟩
theorem e_key {bc bd : S0} {R : zC} {E E1 : zRV} {G : zTG} {isS x1 : Int32} (hR : zRel bc R) (hs : zSx isS E1 R) {T : (Int32 × (Int32) × (Nat → Int32) × (Int32) × (Nat → Int32) × (Nat → Int32) × (Nat → Int32) × (Nat → Int32) × (Nat → Int32) × (Nat → Int32) × (Int32) × (Int32) × (Int32) × (Int32) × (Int32) × (Nat → Int32) × (Nat → Int32) × (Nat → Int32) × (Nat → Int32) × (Nat → Int32) × (Nat → Int32) × (Int32) × (Int32) × (Int32) × (Nat → Int32) × (Int32) × (Nat → Int32) × (Nat → Int32) × (Nat → Int32) × (Nat → Int32) × (Nat → Int32) × (Nat → Int32) × (Int32) × (Int32) × (Int32) × (Int32) × (Int32))} {V : (Int32 × (Int32) × (Nat → Int32) × (Nat → Int32) × (Nat → Int32) × (Int32))} (hT : FX8_key isS (g0_kind bc) (g0_head bc) (g0_body bc) (g0_excepts bc) (g0_power bc) (g0_beats bc) (g0_facts bc) (g0_size bc) (g0_shut bc) E1.1 E1.2.1 E1.2.2.1 E1.2.2.2.1 E1.2.2.2.2.1 E1.2.2.2.2.2.1 E1.2.2.2.2.2.2.1 E1.2.2.2.2.2.2.2.1 E1.2.2.2.2.2.2.2.2.1 E1.2.2.2.2.2.2.2.2.2.1 E1.2.2.2.2.2.2.2.2.2.2.1 E1.2.2.2.2.2.2.2.2.2.2.2.1 E1.2.2.2.2.2.2.2.2.2.2.2.2 (g0_kind bd) (g0_head bd) (g0_body bd) (g0_excepts bd) (g0_power bd) (g0_beats bd) (g0_facts bd) (g0_size bd) (g0_shut bd) E.1 E.2.1 E.2.2.1 E.2.2.2.1 E.2.2.2.2.1 E.2.2.2.2.2.1 E.2.2.2.2.2.2.1 E.2.2.2.2.2.2.2.1 E.2.2.2.2.2.2.2.2.1 E.2.2.2.2.2.2.2.2.2.1 E.2.2.2.2.2.2.2.2.2.2.1 E.2.2.2.2.2.2.2.2.2.2.2.1 E.2.2.2.2.2.2.2.2.2.2.2.2 x1 = T) (hV : FX9_key (qfa R) (qru R) (qkd R) (qhd R) (qbd R) (qex R) (qsg R) (qof R) (qov R) G.1 G.2.1 G.2.2.1 G.2.2.2 x1 = V) : T.1 = V.1 ∧ V.2.1 = qfa R ∧ zSx T.2.1 ((T.2.2.1, T.2.2.2.1, T.2.2.2.2.1, T.2.2.2.2.2.1, T.2.2.2.2.2.2.1, T.2.2.2.2.2.2.2.1, T.2.2.2.2.2.2.2.2.1, T.2.2.2.2.2.2.2.2.2.1, T.2.2.2.2.2.2.2.2.2.2.1, T.2.2.2.2.2.2.2.2.2.2.2.1, T.2.2.2.2.2.2.2.2.2.2.2.2.1, T.2.2.2.2.2.2.2.2.2.2.2.2.2.1, T.2.2.2.2.2.2.2.2.2.2.2.2.2.2.1)) R := by
  unfold FX8_key at hT
  unfold FX9_key at hV
  simp only [bnd, e_lit] at hT hV
  by_cases c1 : FX8_isLiteral x1 = 0
  · rw [if_pos c1] at hT hV; subst hT hV; exact ⟨rfl, rfl, hs⟩
  rw [if_neg c1] at hT hV
  obtain ⟨l, hl, rfl⟩ := is_lit c1
  obtain ⟨s1, s2, s3⟩ := q_settled hR hs _ rfl
  have hrd := q_st_round hR s3 (t := 2) (q := l) (by decide) hl
  have hcm : (FX9_comes (qfa R) (qru R) (qkd R) (qhd R) (qbd R) (qex R) (qsg R) (qof R) (qov R) G.1 G.2.1 G.2.2.1 G.2.2.2 (nI l) 2).1 = zi (zBv R 2 l) := q_comes hR G (t := 2) (by decide) hl
  generalize FX8_settled isS (g0_kind bc) (g0_head bc) (g0_body bc) (g0_excepts bc) (g0_power bc) (g0_beats bc) (g0_facts bc) (g0_size bc) (g0_shut bc) E1.1 E1.2.1 E1.2.2.1 E1.2.2.2.1 E1.2.2.2.2.1 E1.2.2.2.2.2.1 E1.2.2.2.2.2.2.1 E1.2.2.2.2.2.2.2.1 E1.2.2.2.2.2.2.2.2.1 E1.2.2.2.2.2.2.2.2.2.1 E1.2.2.2.2.2.2.2.2.2.2.1 E1.2.2.2.2.2.2.2.2.2.2.2.1 E1.2.2.2.2.2.2.2.2.2.2.2.2 = S at hT s1 s2 s3 hrd
  rw [hcm] at hV
  cases hv : zBv R 2 l
  · rw [hv, if_pos zi_f] at hV
    rw [if_pos (show FX4_roundOf S.2.1 2 (nI l) = 0 from hrd.mpr hv)] at hT
    obtain ⟨D, eT⟩ := k_key (bd := bd) (E := E) (E0 := E1) (E1 := S.2) (isS := isS) (r1 := S.1) hl hR 21 0 (zmk (FX0_copyFrom (g0_kind bd) (g0_head bd) (g0_body bd) (g0_excepts bd) (g0_power bd) (g0_beats bd) (g0_facts bd) (g0_size bd) (g0_shut bd) (g0_kind bc) (g0_head bc) (g0_body bc) (g0_excepts bc) (g0_power bc) (g0_beats bc) (g0_facts bc) (g0_size bc) (g0_shut bc)), E) (by omega) (by omega) ⟨(ceq_mk bd bc).1, (ceq_mk bd bc).2.2.1, (ceq_mk bd bc).2.2.2⟩
    obtain ⟨D', eV⟩ := r_key (G := G) hl hR 21 0 (qfa R, (FX9_comes (qfa R) (qru R) (qkd R) (qhd R) (qbd R) (qex R) (qsg R) (qof R) (qov R) G.1 G.2.1 G.2.2.1 G.2.2.2 (nI l) 2).2) (by omega) (by omega) trivial
    have eT := hT.symm.trans eT
    have eV := hV.symm.trans eV
    rw [eT, eV]
    exact ⟨rfl, rfl, s2⟩
  · rw [hv, if_neg (show ¬ zi true = 0 by decide)] at hV
    rw [if_neg (show ¬ FX4_roundOf S.2.1 2 (nI l) = 0 from fun z => by rw [hrd.mp z] at hv; cases hv)] at hT
    subst hT hV
    exact ⟨rfl, rfl, s2⟩
end ZKEY
section ZHINGE
/-- the same but for what is off -/
def ceqS (C B : S0) : Prop := (∀ r : Nat, r < 16 → g0_kind C r = g0_kind B r ∧ g0_head C r = g0_head B r ∧ g0_body C r = g0_body B r ∧ g0_excepts C r = g0_excepts B r ∧ g0_power C r = g0_power B r ∧ g0_beats C r = g0_beats B r) ∧ g0_facts C = g0_facts B ∧ g0_size C = g0_size B
theorem zRel_of {C B : S0} {R : zC} {r N : Nat} (e : ceqS C B) (h : zRel B R) (hN : N ≤ 16) (hru : qru R = nI N) (hr : r < N) : zRel (s0_shut C (FX8_withBit (g0_shut B) (nI r) 1)) (qkd R, qhd R, qbd R, qex R, qsg R, upd (qof R) r 1, qov R, qfa R, qru R) := by
  refine zRel_ceq (B := s0_shut B (FX8_withBit (g0_shut B) (nI r) 1)) ⟨e.1, e.2.1, e.2.2, rfl⟩ ?_
  obtain ⟨N', hN', h1, h2, h3, h4, h5, h6, h7, h8, h9⟩ := h
  obtain rfl : N' = N := (nI_eq (by omega) (by omega)).mp (h1.symm.trans hru)
  refine ⟨N', hN, h1, h2, h3, h4, fun j hj => ?_, h6, fun j hj => ?_, h8, h9⟩
  · obtain ⟨a1, a2, a3, a4, a5, a6, a7⟩ := h5 j hj
    refine ⟨a1, a2, a3, a4, a5, a6, ?_⟩
    show upd (qof R) r 1 j = zi (zb (if (1 : Int32) = 1 then g0_shut B ||| (1 <<< (nI r &&& 31)) else g0_shut B &&& ((1 <<< (nI r &&& 31)) ^^^ (-1))) j)
    rw [zwb (by omega) (by omega)]
    by_cases e : j = r
    · subst e
      rw [pk_us, if_pos rfl]; rfl
    · rw [pk_un e, if_neg e]
      exact a7
  · show zb (if (1 : Int32) = 1 then g0_shut B ||| (1 <<< (nI r &&& 31)) else g0_shut B &&& ((1 <<< (nI r &&& 31)) ^^^ (-1))) j = false
    by_cases hj2 : j < 32
    · rw [zwb (by omega) hj2, if_neg (by omega)]
      exact h7 j hj
    · exact zb_big (by omega)
/-- whether a rule is a hinge -/
def zHg (R : zC) (t l r : Nat) : Bool := decide (qof R r = 0) && (zBv (qkd R, qhd R, qbd R, qex R, qsg R, upd (qof R) r 1, qov R, qfa R, qru R) t l ^^ zBv R t l)
theorem zi_inj {a b : Bool} : (zi a = zi b) ↔ a = b := by cases a <;> cases b <;> decide
theorem k_hinges {bc bd : S0} {R : zC} {E E0 E1 : zRV} {isS r1 : Int32} {t l N : Nat} (ht : t < 4) (hl : l < 20) (hR : zRel bc R) (hN : N ≤ 16) (hru : qru R = nI N) (hsz : g0_size bc = nI N) : ∀ s : S0 × zRV, ceqS s.1 bc → ∃ (f : Int32) (D : S0 × zRV), zM f N (zHg R t l) ∧ FX8_hinges_51 isS (g0_kind bc) (g0_head bc) (g0_body bc) (g0_excepts bc) (g0_power bc) (g0_beats bc) (g0_facts bc) (g0_size bc) (g0_shut bc) E0.1 E0.2.1 E0.2.2.1 E0.2.2.2.1 E0.2.2.2.2.1 E0.2.2.2.2.2.1 E0.2.2.2.2.2.2.1 E0.2.2.2.2.2.2.2.1 E0.2.2.2.2.2.2.2.2.1 E0.2.2.2.2.2.2.2.2.2.1 E0.2.2.2.2.2.2.2.2.2.2.1 E0.2.2.2.2.2.2.2.2.2.2.2.1 E0.2.2.2.2.2.2.2.2.2.2.2.2 (g0_kind bd) (g0_head bd) (g0_body bd) (g0_excepts bd) (g0_power bd) (g0_beats bd) (g0_facts bd) (g0_size bd) (g0_shut bd) E.1 E.2.1 E.2.2.1 E.2.2.2.1 E.2.2.2.2.1 E.2.2.2.2.2.1 E.2.2.2.2.2.2.1 E.2.2.2.2.2.2.2.1 E.2.2.2.2.2.2.2.2.1 E.2.2.2.2.2.2.2.2.2.1 E.2.2.2.2.2.2.2.2.2.2.1 E.2.2.2.2.2.2.2.2.2.2.2.1 E.2.2.2.2.2.2.2.2.2.2.2.2 (nI l) (nI t) (FX8_hinges_123 isS (g0_kind bc) (g0_head bc) (g0_body bc) (g0_excepts bc) (g0_power bc) (g0_beats bc) (g0_facts bc) (g0_size bc) (g0_shut bc) E0.1 E0.2.1 E0.2.2.1 E0.2.2.2.1 E0.2.2.2.2.1 E0.2.2.2.2.2.1 E0.2.2.2.2.2.2.1 E0.2.2.2.2.2.2.2.1 E0.2.2.2.2.2.2.2.2.1 E0.2.2.2.2.2.2.2.2.2.1 E0.2.2.2.2.2.2.2.2.2.2.1 E0.2.2.2.2.2.2.2.2.2.2.2.1 E0.2.2.2.2.2.2.2.2.2.2.2.2 (g0_kind bd) (g0_head bd) (g0_body bd) (g0_excepts bd) (g0_power bd) (g0_beats bd) (g0_facts bd) (g0_size bd) (g0_shut bd) E.1 E.2.1 E.2.2.1 E.2.2.2.1 E.2.2.2.2.1 E.2.2.2.2.2.1 E.2.2.2.2.2.2.1 E.2.2.2.2.2.2.2.1 E.2.2.2.2.2.2.2.2.1 E.2.2.2.2.2.2.2.2.2.1 E.2.2.2.2.2.2.2.2.2.2.1 E.2.2.2.2.2.2.2.2.2.2.2.1 E.2.2.2.2.2.2.2.2.2.2.2.2 (nI l) (nI t)) 17 (zi (zBv R t l)) 0 0 r1 E1.1 E1.2.1 E1.2.2.1 E1.2.2.2.1 E1.2.2.2.2.1 E1.2.2.2.2.2.1 E1.2.2.2.2.2.2.1 E1.2.2.2.2.2.2.2.1 E1.2.2.2.2.2.2.2.2.1 E1.2.2.2.2.2.2.2.2.2.1 E1.2.2.2.2.2.2.2.2.2.2.1 E1.2.2.2.2.2.2.2.2.2.2.2.1 E1.2.2.2.2.2.2.2.2.2.2.2.2 (g0_kind s.1) (g0_head s.1) (g0_body s.1) (g0_excepts s.1) (g0_power s.1) (g0_beats s.1) (g0_facts s.1) (g0_size s.1) (g0_shut s.1) s.2.1 s.2.2.1 s.2.2.2.1 s.2.2.2.2.1 s.2.2.2.2.2.1 s.2.2.2.2.2.2.1 s.2.2.2.2.2.2.2.1 s.2.2.2.2.2.2.2.2.1 s.2.2.2.2.2.2.2.2.2.1 s.2.2.2.2.2.2.2.2.2.2.1 s.2.2.2.2.2.2.2.2.2.2.2.1 s.2.2.2.2.2.2.2.2.2.2.2.2.1 s.2.2.2.2.2.2.2.2.2.2.2.2.2 = (f, r1, E1.1, E1.2.1, E1.2.2.1, E1.2.2.2.1, E1.2.2.2.2.1, E1.2.2.2.2.2.1, E1.2.2.2.2.2.2.1, E1.2.2.2.2.2.2.2.1, E1.2.2.2.2.2.2.2.2.1, E1.2.2.2.2.2.2.2.2.2.1, E1.2.2.2.2.2.2.2.2.2.2.1, E1.2.2.2.2.2.2.2.2.2.2.2.1, E1.2.2.2.2.2.2.2.2.2.2.2.2, g0_kind D.1, g0_head D.1, g0_body D.1, g0_excepts D.1, g0_power D.1, g0_beats D.1, g0_facts D.1, g0_size D.1, g0_shut D.1, D.2) := by
  intro s0 hs0
  have h5 : ∀ r : Nat, r < N → qof R r = zi (zb (g0_shut bc) r) := by
    obtain ⟨N', hN', h1, h2, h3, h4, h5, -⟩ := hR
    obtain rfl : N' = N := (nI_eq (by omega) (by omega)).mp (h1.symm.trans hru)
    exact fun r hr => (h5 r hr).2.2.2.2.2.2
  obtain ⟨s, ⟨hs, hs2⟩, e⟩ := zloopI (L := fun n x (s : Int32 × S0 × zRV) => FX8_hinges_51 isS (g0_kind bc) (g0_head bc) (g0_body bc) (g0_excepts bc) (g0_power bc) (g0_beats bc) (g0_facts bc) (g0_size bc) (g0_shut bc) E0.1 E0.2.1 E0.2.2.1 E0.2.2.2.1 E0.2.2.2.2.1 E0.2.2.2.2.2.1 E0.2.2.2.2.2.2.1 E0.2.2.2.2.2.2.2.1 E0.2.2.2.2.2.2.2.2.1 E0.2.2.2.2.2.2.2.2.2.1 E0.2.2.2.2.2.2.2.2.2.2.1 E0.2.2.2.2.2.2.2.2.2.2.2.1 E0.2.2.2.2.2.2.2.2.2.2.2.2 (g0_kind bd) (g0_head bd) (g0_body bd) (g0_excepts bd) (g0_power bd) (g0_beats bd) (g0_facts bd) (g0_size bd) (g0_shut bd) E.1 E.2.1 E.2.2.1 E.2.2.2.1 E.2.2.2.2.1 E.2.2.2.2.2.1 E.2.2.2.2.2.2.1 E.2.2.2.2.2.2.2.1 E.2.2.2.2.2.2.2.2.1 E.2.2.2.2.2.2.2.2.2.1 E.2.2.2.2.2.2.2.2.2.2.1 E.2.2.2.2.2.2.2.2.2.2.2.1 E.2.2.2.2.2.2.2.2.2.2.2.2 (nI l) (nI t) (FX8_hinges_123 isS (g0_kind bc) (g0_head bc) (g0_body bc) (g0_excepts bc) (g0_power bc) (g0_beats bc) (g0_facts bc) (g0_size bc) (g0_shut bc) E0.1 E0.2.1 E0.2.2.1 E0.2.2.2.1 E0.2.2.2.2.1 E0.2.2.2.2.2.1 E0.2.2.2.2.2.2.1 E0.2.2.2.2.2.2.2.1 E0.2.2.2.2.2.2.2.2.1 E0.2.2.2.2.2.2.2.2.2.1 E0.2.2.2.2.2.2.2.2.2.2.1 E0.2.2.2.2.2.2.2.2.2.2.2.1 E0.2.2.2.2.2.2.2.2.2.2.2.2 (g0_kind bd) (g0_head bd) (g0_body bd) (g0_excepts bd) (g0_power bd) (g0_beats bd) (g0_facts bd) (g0_size bd) (g0_shut bd) E.1 E.2.1 E.2.2.1 E.2.2.2.1 E.2.2.2.2.1 E.2.2.2.2.2.1 E.2.2.2.2.2.2.1 E.2.2.2.2.2.2.2.1 E.2.2.2.2.2.2.2.2.1 E.2.2.2.2.2.2.2.2.2.1 E.2.2.2.2.2.2.2.2.2.2.1 E.2.2.2.2.2.2.2.2.2.2.2.1 E.2.2.2.2.2.2.2.2.2.2.2.2 (nI l) (nI t)) n (zi (zBv R t l)) s.1 x r1 E1.1 E1.2.1 E1.2.2.1 E1.2.2.2.1 E1.2.2.2.2.1 E1.2.2.2.2.2.1 E1.2.2.2.2.2.2.1 E1.2.2.2.2.2.2.2.1 E1.2.2.2.2.2.2.2.2.1 E1.2.2.2.2.2.2.2.2.2.1 E1.2.2.2.2.2.2.2.2.2.2.1 E1.2.2.2.2.2.2.2.2.2.2.2.1 E1.2.2.2.2.2.2.2.2.2.2.2.2 (g0_kind s.2.1) (g0_head s.2.1) (g0_body s.2.1) (g0_excepts s.2.1) (g0_power s.2.1) (g0_beats s.2.1) (g0_facts s.2.1) (g0_size s.2.1) (g0_shut s.2.1) s.2.2.1 s.2.2.2.1 s.2.2.2.2.1 s.2.2.2.2.2.1 s.2.2.2.2.2.2.1 s.2.2.2.2.2.2.2.1 s.2.2.2.2.2.2.2.2.1 s.2.2.2.2.2.2.2.2.2.1 s.2.2.2.2.2.2.2.2.2.2.1 s.2.2.2.2.2.2.2.2.2.2.2.1 s.2.2.2.2.2.2.2.2.2.2.2.2.1 s.2.2.2.2.2.2.2.2.2.2.2.2.2.1 s.2.2.2.2.2.2.2.2.2.2.2.2.2.2) (kt := fun s => (s.1, r1, E1.1, E1.2.1, E1.2.2.1, E1.2.2.2.1, E1.2.2.2.2.1, E1.2.2.2.2.2.1, E1.2.2.2.2.2.2.1, E1.2.2.2.2.2.2.2.1, E1.2.2.2.2.2.2.2.2.1, E1.2.2.2.2.2.2.2.2.2.1, E1.2.2.2.2.2.2.2.2.2.2.1, E1.2.2.2.2.2.2.2.2.2.2.2.1, E1.2.2.2.2.2.2.2.2.2.2.2.2, g0_kind s.2.1, g0_head s.2.1, g0_body s.2.1, g0_excepts s.2.1, g0_power s.2.1, g0_beats s.2.1, g0_facts s.2.1, g0_size s.2.1, g0_shut s.2.1, s.2.2)) N (I := fun i s => zM s.1 i (zHg R t l) ∧ ceqS s.2.1 bc) (by
    intro n s _
    show FX8_hinges_51 isS (g0_kind bc) (g0_head bc) (g0_body bc) (g0_excepts bc) (g0_power bc) (g0_beats bc) (g0_facts bc) (g0_size bc) (g0_shut bc) E0.1 E0.2.1 E0.2.2.1 E0.2.2.2.1 E0.2.2.2.2.1 E0.2.2.2.2.2.1 E0.2.2.2.2.2.2.1 E0.2.2.2.2.2.2.2.1 E0.2.2.2.2.2.2.2.2.1 E0.2.2.2.2.2.2.2.2.2.1 E0.2.2.2.2.2.2.2.2.2.2.1 E0.2.2.2.2.2.2.2.2.2.2.2.1 E0.2.2.2.2.2.2.2.2.2.2.2.2 (g0_kind bd) (g0_head bd) (g0_body bd) (g0_excepts bd) (g0_power bd) (g0_beats bd) (g0_facts bd) (g0_size bd) (g0_shut bd) E.1 E.2.1 E.2.2.1 E.2.2.2.1 E.2.2.2.2.1 E.2.2.2.2.2.1 E.2.2.2.2.2.2.1 E.2.2.2.2.2.2.2.1 E.2.2.2.2.2.2.2.2.1 E.2.2.2.2.2.2.2.2.2.1 E.2.2.2.2.2.2.2.2.2.2.1 E.2.2.2.2.2.2.2.2.2.2.2.1 E.2.2.2.2.2.2.2.2.2.2.2.2 (nI l) (nI t) _ (n + 1) (zi (zBv R t l)) s.1 (nI N) r1 E1.1 E1.2.1 E1.2.2.1 E1.2.2.2.1 E1.2.2.2.2.1 E1.2.2.2.2.2.1 E1.2.2.2.2.2.2.1 E1.2.2.2.2.2.2.2.1 E1.2.2.2.2.2.2.2.2.1 E1.2.2.2.2.2.2.2.2.2.1 E1.2.2.2.2.2.2.2.2.2.2.1 E1.2.2.2.2.2.2.2.2.2.2.2.1 E1.2.2.2.2.2.2.2.2.2.2.2.2 (g0_kind s.2.1) (g0_head s.2.1) (g0_body s.2.1) (g0_excepts s.2.1) (g0_power s.2.1) (g0_beats s.2.1) (g0_facts s.2.1) (g0_size s.2.1) (g0_shut s.2.1) s.2.2.1 s.2.2.2.1 s.2.2.2.2.1 s.2.2.2.2.2.1 s.2.2.2.2.2.2.1 s.2.2.2.2.2.2.2.1 s.2.2.2.2.2.2.2.2.1 s.2.2.2.2.2.2.2.2.2.1 s.2.2.2.2.2.2.2.2.2.2.1 s.2.2.2.2.2.2.2.2.2.2.2.1 s.2.2.2.2.2.2.2.2.2.2.2.2.1 s.2.2.2.2.2.2.2.2.2.2.2.2.2.1 s.2.2.2.2.2.2.2.2.2.2.2.2.2.2 = _
    rw [FX8_hinges_51, hsz, if_pos (nI_le (Nat.le_refl N) (by omega))]
    rfl) (by
    intro n i s hi hs
    obtain ⟨hm, hs⟩ := hs
    have hC := zRel_of hs hR hN hru hi
    have hB := q_thought hC s.2.2 ht hl
    have hun : FX8_hinges_51 isS (g0_kind bc) (g0_head bc) (g0_body bc) (g0_excepts bc) (g0_power bc) (g0_beats bc) (g0_facts bc) (g0_size bc) (g0_shut bc) E0.1 E0.2.1 E0.2.2.1 E0.2.2.2.1 E0.2.2.2.2.1 E0.2.2.2.2.2.1 E0.2.2.2.2.2.2.1 E0.2.2.2.2.2.2.2.1 E0.2.2.2.2.2.2.2.2.1 E0.2.2.2.2.2.2.2.2.2.1 E0.2.2.2.2.2.2.2.2.2.2.1 E0.2.2.2.2.2.2.2.2.2.2.2.1 E0.2.2.2.2.2.2.2.2.2.2.2.2 (g0_kind bd) (g0_head bd) (g0_body bd) (g0_excepts bd) (g0_power bd) (g0_beats bd) (g0_facts bd) (g0_size bd) (g0_shut bd) E.1 E.2.1 E.2.2.1 E.2.2.2.1 E.2.2.2.2.1 E.2.2.2.2.2.1 E.2.2.2.2.2.2.1 E.2.2.2.2.2.2.2.1 E.2.2.2.2.2.2.2.2.1 E.2.2.2.2.2.2.2.2.2.1 E.2.2.2.2.2.2.2.2.2.2.1 E.2.2.2.2.2.2.2.2.2.2.2.1 E.2.2.2.2.2.2.2.2.2.2.2.2 (nI l) (nI t) (FX8_hinges_123 isS (g0_kind bc) (g0_head bc) (g0_body bc) (g0_excepts bc) (g0_power bc) (g0_beats bc) (g0_facts bc) (g0_size bc) (g0_shut bc) E0.1 E0.2.1 E0.2.2.1 E0.2.2.2.1 E0.2.2.2.2.1 E0.2.2.2.2.2.1 E0.2.2.2.2.2.2.1 E0.2.2.2.2.2.2.2.1 E0.2.2.2.2.2.2.2.2.1 E0.2.2.2.2.2.2.2.2.2.1 E0.2.2.2.2.2.2.2.2.2.2.1 E0.2.2.2.2.2.2.2.2.2.2.2.1 E0.2.2.2.2.2.2.2.2.2.2.2.2 (g0_kind bd) (g0_head bd) (g0_body bd) (g0_excepts bd) (g0_power bd) (g0_beats bd) (g0_facts bd) (g0_size bd) (g0_shut bd) E.1 E.2.1 E.2.2.1 E.2.2.2.1 E.2.2.2.2.1 E.2.2.2.2.2.1 E.2.2.2.2.2.2.1 E.2.2.2.2.2.2.2.1 E.2.2.2.2.2.2.2.2.1 E.2.2.2.2.2.2.2.2.2.1 E.2.2.2.2.2.2.2.2.2.2.1 E.2.2.2.2.2.2.2.2.2.2.2.1 E.2.2.2.2.2.2.2.2.2.2.2.2 (nI l) (nI t)) (n + 1) (zi (zBv R t l)) s.1 (nI i) r1 E1.1 E1.2.1 E1.2.2.1 E1.2.2.2.1 E1.2.2.2.2.1 E1.2.2.2.2.2.1 E1.2.2.2.2.2.2.1 E1.2.2.2.2.2.2.2.1 E1.2.2.2.2.2.2.2.2.1 E1.2.2.2.2.2.2.2.2.2.1 E1.2.2.2.2.2.2.2.2.2.2.1 E1.2.2.2.2.2.2.2.2.2.2.2.1 E1.2.2.2.2.2.2.2.2.2.2.2.2 (g0_kind s.2.1) (g0_head s.2.1) (g0_body s.2.1) (g0_excepts s.2.1) (g0_power s.2.1) (g0_beats s.2.1) (g0_facts s.2.1) (g0_size s.2.1) (g0_shut s.2.1) s.2.2.1 s.2.2.2.1 s.2.2.2.2.1 s.2.2.2.2.2.1 s.2.2.2.2.2.2.1 s.2.2.2.2.2.2.2.1 s.2.2.2.2.2.2.2.2.1 s.2.2.2.2.2.2.2.2.2.1 s.2.2.2.2.2.2.2.2.2.2.1 s.2.2.2.2.2.2.2.2.2.2.2.1 s.2.2.2.2.2.2.2.2.2.2.2.2.1 s.2.2.2.2.2.2.2.2.2.2.2.2.2.1 s.2.2.2.2.2.2.2.2.2.2.2.2.2.2 = _ := FX8_hinges_51.eq_2 ..
    rw [if_neg (show ¬ g0_size bc ≤ nI i from by rw [hsz]; exact nI_ge hi (by omega))] at hun
    simp only [bnd, nI_1] at hun
    rw [zhas (show i < 32 by omega)] at hun
    have hB : (FX8_comesInThought (g0_kind s.2.1) (g0_head s.2.1) (g0_body s.2.1) (g0_excepts s.2.1) (g0_power s.2.1) (g0_beats s.2.1) (g0_facts s.2.1) (g0_size s.2.1) (FX8_withBit (g0_shut bc) (nI i) 1) s.2.2.1 s.2.2.2.1 s.2.2.2.2.1 s.2.2.2.2.2.1 s.2.2.2.2.2.2.1 s.2.2.2.2.2.2.2.1 s.2.2.2.2.2.2.2.2.1 s.2.2.2.2.2.2.2.2.2.1 s.2.2.2.2.2.2.2.2.2.2.1 s.2.2.2.2.2.2.2.2.2.2.2.1 s.2.2.2.2.2.2.2.2.2.2.2.2.1 s.2.2.2.2.2.2.2.2.2.2.2.2.2.1 s.2.2.2.2.2.2.2.2.2.2.2.2.2.2 (nI t) (nI l)).1 = _ := hB
    have hp : zHg R t l i = (!zb (g0_shut bc) i && (zBv (qkd R, qhd R, qbd R, qex R, qsg R, upd (qof R) i 1, qov R, qfa R, qru R) t l ^^ zBv R t l)) := by
      unfold zHg
      rw [h5 i hi, zdi]
    cases hb : zb (g0_shut bc) i
    · rw [hb, if_neg (show ¬ false = true by decide), if_pos rfl, hB] at hun
      by_cases c : zBv (qkd R, qhd R, qbd R, qex R, qsg R, upd (qof R) i 1, qov R, qfa R, qru R) t l = zBv R t l
      · rw [if_pos (zi_inj.mpr c)] at hun
        exact ⟨(s.1, s0_shut s.2.1 (FX8_withBit (g0_shut bc) (nI i) 1), (FX8_comesInThought (g0_kind s.2.1) (g0_head s.2.1) (g0_body s.2.1) (g0_excepts s.2.1) (g0_power s.2.1) (g0_beats s.2.1) (g0_facts s.2.1) (g0_size s.2.1) (FX8_withBit (g0_shut bc) (nI i) 1) s.2.2.1 s.2.2.2.1 s.2.2.2.2.1 s.2.2.2.2.2.1 s.2.2.2.2.2.2.1 s.2.2.2.2.2.2.2.1 s.2.2.2.2.2.2.2.2.1 s.2.2.2.2.2.2.2.2.2.1 s.2.2.2.2.2.2.2.2.2.2.1 s.2.2.2.2.2.2.2.2.2.2.2.1 s.2.2.2.2.2.2.2.2.2.2.2.2.1 s.2.2.2.2.2.2.2.2.2.2.2.2.2.1 s.2.2.2.2.2.2.2.2.2.2.2.2.2.2 (nI t) (nI l)).2), ⟨zM_n hm (by rw [hp, c, Bool.xor_self, Bool.and_false]), hs⟩, hun⟩
      · rw [if_neg (fun z => c (zi_inj.mp z))] at hun
        exact ⟨(s.1 ||| (1 <<< (nI i &&& 31)), s0_shut s.2.1 (FX8_withBit (g0_shut bc) (nI i) 1), (FX8_comesInThought (g0_kind s.2.1) (g0_head s.2.1) (g0_body s.2.1) (g0_excepts s.2.1) (g0_power s.2.1) (g0_beats s.2.1) (g0_facts s.2.1) (g0_size s.2.1) (FX8_withBit (g0_shut bc) (nI i) 1) s.2.2.1 s.2.2.2.1 s.2.2.2.2.1 s.2.2.2.2.2.1 s.2.2.2.2.2.2.1 s.2.2.2.2.2.2.2.1 s.2.2.2.2.2.2.2.2.1 s.2.2.2.2.2.2.2.2.2.1 s.2.2.2.2.2.2.2.2.2.2.1 s.2.2.2.2.2.2.2.2.2.2.2.1 s.2.2.2.2.2.2.2.2.2.2.2.2.1 s.2.2.2.2.2.2.2.2.2.2.2.2.2.1 s.2.2.2.2.2.2.2.2.2.2.2.2.2.2 (nI t) (nI l)).2), ⟨zM_y hm (by omega) (by
          rw [hp, hb]
          cases z1 : zBv (qkd R, qhd R, qbd R, qex R, qsg R, upd (qof R) i 1, qov R, qfa R, qru R) t l <;> cases z2 : zBv R t l
          · exact absurd (z1.trans z2.symm) c
          · rfl
          · rfl
          · exact absurd (z1.trans z2.symm) c), hs⟩, hun⟩
    · rw [hb, if_pos rfl, if_neg (show ¬ (1 : Int32) = 0 by decide)] at hun
      exact ⟨(s.1, s0_shut s.2.1 (FX8_withBit (g0_shut bc) (nI i) 1), s.2.2), ⟨zM_n hm (by rw [hp, hb]; rfl), hs⟩, hun⟩) 17 0 (0, s0) (by omega) (by omega) ⟨zM_0 _, hs0⟩
  exact ⟨s.1, s.2, hs, e⟩
theorem r_hinges {bc : S0} {R : zC} {G : zTG} {t l N : Nat} (ht : t < 4) (hl : l < 20) (hR : zRel bc R) (hN : N ≤ 16) (hru : qru R = nI N) : ∀ s : zTG, ∃ (f : Int32) (D : zTG), zM f N (zHg R t l) ∧ FX9_hinges_29 (qfa R) (qru R) (qkd R) (qhd R) (qbd R) (qex R) (qsg R) (qof R) (qov R) G.1 G.2.1 G.2.2.1 G.2.2.2 (nI l) (nI t) (FX9_hinges_93 (qfa R) (qru R) (qkd R) (qhd R) (qbd R) (qex R) (qsg R) (qof R) (qov R) G.1 G.2.1 G.2.2.1 G.2.2.2 (nI l) (nI t)) 17 (zi (zBv R t l)) 0 0 (qof R) s.1 s.2.1 s.2.2.1 s.2.2.2 = (f, qof R, D) := by
  intro s0
  obtain ⟨s, hs, e⟩ := zloopI (L := fun n x (s : Int32 × zTG) => FX9_hinges_29 (qfa R) (qru R) (qkd R) (qhd R) (qbd R) (qex R) (qsg R) (qof R) (qov R) G.1 G.2.1 G.2.2.1 G.2.2.2 (nI l) (nI t) (FX9_hinges_93 (qfa R) (qru R) (qkd R) (qhd R) (qbd R) (qex R) (qsg R) (qof R) (qov R) G.1 G.2.1 G.2.2.1 G.2.2.2 (nI l) (nI t)) n (zi (zBv R t l)) s.1 x (qof R) s.2.1 s.2.2.1 s.2.2.2.1 s.2.2.2.2) (kt := fun s => (s.1, qof R, s.2)) N (I := fun i s => zM s.1 i (zHg R t l)) (by
    intro n s _
    show FX9_hinges_29 (qfa R) (qru R) (qkd R) (qhd R) (qbd R) (qex R) (qsg R) (qof R) (qov R) G.1 G.2.1 G.2.2.1 G.2.2.2 (nI l) (nI t) _ (n + 1) (zi (zBv R t l)) s.1 (nI N) (qof R) s.2.1 s.2.2.1 s.2.2.2.1 s.2.2.2.2 = _
    rw [FX9_hinges_29, hru, if_pos (nI_le (Nat.le_refl N) (by omega))]
    rfl) (by
    intro n i s hi hm
    have hC := zRel_of (C := bc) ⟨fun _ _ => ⟨rfl, rfl, rfl, rfl, rfl, rfl⟩, rfl, rfl⟩ hR hN hru hi
    have hB := q_comes hC s.2 ht hl
    have hun : FX9_hinges_29 (qfa R) (qru R) (qkd R) (qhd R) (qbd R) (qex R) (qsg R) (qof R) (qov R) G.1 G.2.1 G.2.2.1 G.2.2.2 (nI l) (nI t) (FX9_hinges_93 (qfa R) (qru R) (qkd R) (qhd R) (qbd R) (qex R) (qsg R) (qof R) (qov R) G.1 G.2.1 G.2.2.1 G.2.2.2 (nI l) (nI t)) (n + 1) (zi (zBv R t l)) s.1 (nI i) (qof R) s.2.1 s.2.2.1 s.2.2.2.1 s.2.2.2.2 = _ := FX9_hinges_29.eq_2 ..
    rw [if_neg (show ¬ qru R ≤ nI i from by rw [hru]; exact nI_ge hi (by omega))] at hun
    unfold FX9_hinges_76 at hun
    simp only [bnd, nI_1] at hun
    rw [nI_clamp (show i < 2 ^ 31 by omega)] at hun
    have hB : (FX9_comes (qfa R) (qru R) (qkd R) (qhd R) (qbd R) (qex R) (qsg R) (upd (qof R) i 1) (qov R) s.2.1 s.2.2.1 s.2.2.2.1 s.2.2.2.2 (nI l) (nI t)).1 = _ := hB
    by_cases c0 : qof R i = 0
    · have hp : zHg R t l i = (zBv (qkd R, qhd R, qbd R, qex R, qsg R, upd (qof R) i 1, qov R, qfa R, qru R) t l ^^ zBv R t l) := by
        unfold zHg
        rw [decide_eq_true c0, Bool.true_and]
      have hz : upd (upd (qof R) i 1) i 0 = qof R := by
        have := zupd2 (qof R) i 1
        rw [c0] at this
        exact this
      rw [if_pos c0, hB, hz] at hun
      by_cases c : zBv (qkd R, qhd R, qbd R, qex R, qsg R, upd (qof R) i 1, qov R, qfa R, qru R) t l = zBv R t l
      · rw [if_pos (zi_inj.mpr c)] at hun
        exact ⟨(s.1 ||| 0, (FX9_comes (qfa R) (qru R) (qkd R) (qhd R) (qbd R) (qex R) (qsg R) (upd (qof R) i 1) (qov R) s.2.1 s.2.2.1 s.2.2.2.1 s.2.2.2.2 (nI l) (nI t)).2), zM_n0 hm (by rw [hp, c, Bool.xor_self]), hun⟩
      · rw [if_neg (fun z => c (zi_inj.mp z))] at hun
        exact ⟨(s.1 ||| (1 <<< (nI i &&& 31)), (FX9_comes (qfa R) (qru R) (qkd R) (qhd R) (qbd R) (qex R) (qsg R) (upd (qof R) i 1) (qov R) s.2.1 s.2.2.1 s.2.2.2.1 s.2.2.2.2 (nI l) (nI t)).2), zM_y hm (by omega) (by
          rw [hp]
          cases z1 : zBv (qkd R, qhd R, qbd R, qex R, qsg R, upd (qof R) i 1, qov R, qfa R, qru R) t l <;> cases z2 : zBv R t l
          · exact absurd (z1.trans z2.symm) c
          · rfl
          · rfl
          · exact absurd (z1.trans z2.symm) c), hun⟩
    · rw [if_neg c0] at hun
      exact ⟨s, zM_n hm (by unfold zHg; rw [decide_eq_false c0, Bool.false_and]), hun⟩) 17 0 (0, s0) (by omega) (by omega) (zM_0 _)
  exact ⟨s.1, s.2, hs, e⟩
theorem e_hinges {bc bd : S0} {R : zC} {E E1 : zRV} {G : zTG} {isS x1 x2 : Int32} (hR : zRel bc R) (hs : zSx isS E1 R) {T : (Int32 × (Int32) × (Nat → Int32) × (Int32) × (Nat → Int32) × (Nat → Int32) × (Nat → Int32) × (Nat → Int32) × (Nat → Int32) × (Nat → Int32) × (Int32) × (Int32) × (Int32) × (Int32) × (Int32) × (Nat → Int32) × (Nat → Int32) × (Nat → Int32) × (Nat → Int32) × (Nat → Int32) × (Nat → Int32) × (Int32) × (Int32) × (Int32) × (Nat → Int32) × (Int32) × (Nat → Int32) × (Nat → Int32) × (Nat → Int32) × (Nat → Int32) × (Nat → Int32) × (Nat → Int32) × (Int32) × (Int32) × (Int32) × (Int32) × (Int32))} {V : (Int32 × (Nat → Int32) × (Nat → Int32) × (Nat → Int32) × (Nat → Int32) × (Int32))} (hT : FX8_hinges isS (g0_kind bc) (g0_head bc) (g0_body bc) (g0_excepts bc) (g0_power bc) (g0_beats bc) (g0_facts bc) (g0_size bc) (g0_shut bc) E1.1 E1.2.1 E1.2.2.1 E1.2.2.2.1 E1.2.2.2.2.1 E1.2.2.2.2.2.1 E1.2.2.2.2.2.2.1 E1.2.2.2.2.2.2.2.1 E1.2.2.2.2.2.2.2.2.1 E1.2.2.2.2.2.2.2.2.2.1 E1.2.2.2.2.2.2.2.2.2.2.1 E1.2.2.2.2.2.2.2.2.2.2.2.1 E1.2.2.2.2.2.2.2.2.2.2.2.2 (g0_kind bd) (g0_head bd) (g0_body bd) (g0_excepts bd) (g0_power bd) (g0_beats bd) (g0_facts bd) (g0_size bd) (g0_shut bd) E.1 E.2.1 E.2.2.1 E.2.2.2.1 E.2.2.2.2.1 E.2.2.2.2.2.1 E.2.2.2.2.2.2.1 E.2.2.2.2.2.2.2.1 E.2.2.2.2.2.2.2.2.1 E.2.2.2.2.2.2.2.2.2.1 E.2.2.2.2.2.2.2.2.2.2.1 E.2.2.2.2.2.2.2.2.2.2.2.1 E.2.2.2.2.2.2.2.2.2.2.2.2 x1 x2 = T) (hV : FX9_hinges (qfa R) (qru R) (qkd R) (qhd R) (qbd R) (qex R) (qsg R) (qof R) (qov R) G.1 G.2.1 G.2.2.1 G.2.2.2 x1 x2 = V) : T.1 = V.1 ∧ V.2.1 = qof R ∧ zSx T.2.1 ((T.2.2.1, T.2.2.2.1, T.2.2.2.2.1, T.2.2.2.2.2.1, T.2.2.2.2.2.2.1, T.2.2.2.2.2.2.2.1, T.2.2.2.2.2.2.2.2.1, T.2.2.2.2.2.2.2.2.2.1, T.2.2.2.2.2.2.2.2.2.2.1, T.2.2.2.2.2.2.2.2.2.2.2.1, T.2.2.2.2.2.2.2.2.2.2.2.2.1, T.2.2.2.2.2.2.2.2.2.2.2.2.2.1, T.2.2.2.2.2.2.2.2.2.2.2.2.2.2.1)) R := by
  unfold FX8_hinges at hT
  unfold FX9_hinges at hV
  simp only [bnd, e_lit, e_tag9] at hT hV
  by_cases c1 : FX8_isLiteral x1 = 0
  · rw [if_pos c1] at hT hV; subst hT hV; exact ⟨rfl, rfl, hs⟩
  rw [if_neg c1] at hT hV
  by_cases c2 : FX8_isTag x2 = 0
  · rw [if_pos c2] at hT hV; subst hT hV; exact ⟨rfl, rfl, hs⟩
  rw [if_neg c2] at hT hV
  obtain ⟨l, hl, rfl⟩ := is_lit c1
  obtain ⟨t, ht, rfl⟩ := is_tag c2
  obtain ⟨N, hN, hru, hsz, -⟩ := id hR
  obtain ⟨s1, s2, s3⟩ := q_settled hR hs _ rfl
  have hrd := q_st_round hR s3 ht hl
  have hcm : (FX9_comes (qfa R) (qru R) (qkd R) (qhd R) (qbd R) (qex R) (qsg R) (qof R) (qov R) G.1 G.2.1 G.2.2.1 G.2.2.2 (nI l) (nI t)).1 = zi (zBv R t l) := q_comes hR G ht hl
  generalize FX8_settled isS (g0_kind bc) (g0_head bc) (g0_body bc) (g0_excepts bc) (g0_power bc) (g0_beats bc) (g0_facts bc) (g0_size bc) (g0_shut bc) E1.1 E1.2.1 E1.2.2.1 E1.2.2.2.1 E1.2.2.2.2.1 E1.2.2.2.2.2.1 E1.2.2.2.2.2.2.1 E1.2.2.2.2.2.2.2.1 E1.2.2.2.2.2.2.2.2.1 E1.2.2.2.2.2.2.2.2.2.1 E1.2.2.2.2.2.2.2.2.2.2.1 E1.2.2.2.2.2.2.2.2.2.2.2.1 E1.2.2.2.2.2.2.2.2.2.2.2.2 = S at hT s1 s2 s3 hrd
  rw [hcm] at hV
  obtain ⟨f', D', hf', eV⟩ := r_hinges (G := G) ht hl hR hN hru (FX9_comes (qfa R) (qru R) (qkd R) (qhd R) (qbd R) (qex R) (qsg R) (qof R) (qov R) G.1 G.2.1 G.2.2.1 G.2.2.2 (nI l) (nI t)).2
  have eV := hV.symm.trans eV
  have hT : FX8_hinges_33 isS (g0_kind bc) (g0_head bc) (g0_body bc) (g0_excepts bc) (g0_power bc) (g0_beats bc) (g0_facts bc) (g0_size bc) (g0_shut bc) E1.1 E1.2.1 E1.2.2.1 E1.2.2.2.1 E1.2.2.2.2.1 E1.2.2.2.2.2.1 E1.2.2.2.2.2.2.1 E1.2.2.2.2.2.2.2.1 E1.2.2.2.2.2.2.2.2.1 E1.2.2.2.2.2.2.2.2.2.1 E1.2.2.2.2.2.2.2.2.2.2.1 E1.2.2.2.2.2.2.2.2.2.2.2.1 E1.2.2.2.2.2.2.2.2.2.2.2.2 (g0_kind bd) (g0_head bd) (g0_body bd) (g0_excepts bd) (g0_power bd) (g0_beats bd) (g0_facts bd) (g0_size bd) (g0_shut bd) E.1 E.2.1 E.2.2.1 E.2.2.2.1 E.2.2.2.2.1 E.2.2.2.2.2.1 E.2.2.2.2.2.2.1 E.2.2.2.2.2.2.2.1 E.2.2.2.2.2.2.2.2.1 E.2.2.2.2.2.2.2.2.2.1 E.2.2.2.2.2.2.2.2.2.2.1 E.2.2.2.2.2.2.2.2.2.2.2.1 E.2.2.2.2.2.2.2.2.2.2.2.2 (nI l) (nI t) (zi (zBv R t l)) S.1 S.2.1 S.2.2.1 S.2.2.2.1 S.2.2.2.2.1 S.2.2.2.2.2.1 S.2.2.2.2.2.2.1 S.2.2.2.2.2.2.2.1 S.2.2.2.2.2.2.2.2.1 S.2.2.2.2.2.2.2.2.2.1 S.2.2.2.2.2.2.2.2.2.2.1 S.2.2.2.2.2.2.2.2.2.2.2.1 S.2.2.2.2.2.2.2.2.2.2.2.2.1 S.2.2.2.2.2.2.2.2.2.2.2.2.2 (g0_kind bd) (g0_head bd) (g0_body bd) (g0_excepts bd) (g0_power bd) (g0_beats bd) (g0_facts bd) (g0_size bd) (g0_shut bd) E.1 E.2.1 E.2.2.1 E.2.2.2.1 E.2.2.2.2.1 E.2.2.2.2.2.1 E.2.2.2.2.2.2.1 E.2.2.2.2.2.2.2.1 E.2.2.2.2.2.2.2.2.1 E.2.2.2.2.2.2.2.2.2.1 E.2.2.2.2.2.2.2.2.2.2.1 E.2.2.2.2.2.2.2.2.2.2.2.1 E.2.2.2.2.2.2.2.2.2.2.2.2 = T := by
    rw [← hT]
    cases hv : zBv R t l
    · rw [if_pos (hrd.mpr hv)]; rfl
    · rw [if_neg (show ¬ FX4_roundOf S.2.1 (nI t) (nI l) = 0 from fun z => by rw [hrd.mp z] at hv; cases hv)]; rfl
  obtain ⟨f, D, hf, eT⟩ := k_hinges (bd := bd) (E := E) (E0 := E1) (E1 := S.2) (isS := isS) (r1 := S.1) ht hl hR hN hru hsz (zmk (FX0_copyFrom (g0_kind bd) (g0_head bd) (g0_body bd) (g0_excepts bd) (g0_power bd) (g0_beats bd) (g0_facts bd) (g0_size bd) (g0_shut bd) (g0_kind bc) (g0_head bc) (g0_body bc) (g0_excepts bc) (g0_power bc) (g0_beats bc) (g0_facts bc) (g0_size bc) (g0_shut bc)), E) ⟨(ceq_mk bd bc).1, (ceq_mk bd bc).2.1, (ceq_mk bd bc).2.2.1⟩
  unfold FX8_hinges_33 at hT
  simp only [bnd] at hT
  have eT := hT.symm.trans eT
  rw [eT, eV]
  exact ⟨zM_eq hf hf' (fun _ _ => rfl), rfl, s2⟩
end ZHINGE
section ZLEAST
/-- the same but for one strength -/
def ceqP (r : Nat) (C B : S0) : Prop := (∀ j : Nat, j < 16 → g0_kind C j = g0_kind B j ∧ g0_head C j = g0_head B j ∧ g0_body C j = g0_body B j ∧ g0_excepts C j = g0_excepts B j ∧ (¬ j = r → g0_power C j = g0_power B j) ∧ g0_beats C j = g0_beats B j) ∧ g0_facts C = g0_facts B ∧ g0_size C = g0_size B ∧ g0_shut C = g0_shut B
theorem zRel_sg {C B : S0} {R : zC} {r N v : Nat} (e : ceqP r C B) (h : zRel B R) (hN : N ≤ 16) (hru : qru R = nI N) (hr : r < N) (hv : v < 10) : zRel (s0_power C (upd (g0_power C) r (nI v))) (qkd R, qhd R, qbd R, qex R, upd (qsg R) r (nI v), qof R, qov R, qfa R, qru R) := by
  refine zRel_ceq (B := s0_power B (upd (g0_power B) r (nI v))) ⟨fun j hj => ?_, e.2.1, e.2.2.1, e.2.2.2⟩ ?_
  · obtain ⟨a1, a2, a3, a4, a5, a6⟩ := e.1 j hj
    refine ⟨a1, a2, a3, a4, ?_, a6⟩
    show upd (g0_power C) r (nI v) j = upd (g0_power B) r (nI v) j
    by_cases e : j = r
    · subst e; rw [pk_us, pk_us]
    · rw [pk_un e, pk_un e]; exact a5 e
  · obtain ⟨N', hN', h1, h2, h3, h4, h5, h6, h7⟩ := h
    obtain rfl : N' = N := (nI_eq (by omega) (by omega)).mp (h1.symm.trans hru)
    refine ⟨N', hN, h1, h2, h3, h4, fun j hj => ?_, fun j hj => ?_, h7⟩
    · obtain ⟨a1, a2, a3, a4, a5, a6, a7⟩ := h5 j hj
      refine ⟨a1, a2, a3, a4, ?_, a6, a7⟩
      show upd (g0_power B) r (nI v) j = upd (qsg R) r (nI v) j
      by_cases e : j = r
      · subst e; rw [pk_us, pk_us]
      · rw [pk_un e, pk_un e]; exact a5
    · obtain ⟨a1, a2, a3, a4, a5, a6⟩ := h6 j hj
      refine ⟨a1, a2, a3, a4, ?_, a6⟩
      show ∃ k : Nat, k < 10 ∧ upd (qsg R) r (nI v) j = nI k
      by_cases e : j = r
      · subst e; rw [pk_us]; exact ⟨v, hv, rfl⟩
      · rw [pk_un e]; exact a5
def zLs (R : zC) (r l v : Nat) : Bool := zBv (qkd R, qhd R, qbd R, qex R, upd (qsg R) r (nI v), qof R, qov R, qfa R, qru R) 2 l
theorem k_least {bc bd : S0} {R : zC} {E : zRV} {r l N : Nat} (hl : l < 20) (hR : zRel bc R) (hN : N ≤ 16) (hru : qru R = nI N) (hr : r < N) : ∀ (n i : Nat) (s : S0 × zRV), i ≤ 10 → 10 < i + n → ceqP r s.1 bc → ∃ D : S0 × zRV, FX8_least_33 (g0_kind bc) (g0_head bc) (g0_body bc) (g0_excepts bc) (g0_power bc) (g0_beats bc) (g0_facts bc) (g0_size bc) (g0_shut bc) (g0_kind bd) (g0_head bd) (g0_body bd) (g0_excepts bd) (g0_power bd) (g0_beats bd) (g0_facts bd) (g0_size bd) (g0_shut bd) E.1 E.2.1 E.2.2.1 E.2.2.2.1 E.2.2.2.2.1 E.2.2.2.2.2.1 E.2.2.2.2.2.2.1 E.2.2.2.2.2.2.2.1 E.2.2.2.2.2.2.2.2.1 E.2.2.2.2.2.2.2.2.2.1 E.2.2.2.2.2.2.2.2.2.2.1 E.2.2.2.2.2.2.2.2.2.2.2.1 E.2.2.2.2.2.2.2.2.2.2.2.2 (nI r) (nI l) (FX8_least_66 (g0_kind bc) (g0_head bc) (g0_body bc) (g0_excepts bc) (g0_power bc) (g0_beats bc) (g0_facts bc) (g0_size bc) (g0_shut bc) (g0_kind bd) (g0_head bd) (g0_body bd) (g0_excepts bd) (g0_power bd) (g0_beats bd) (g0_facts bd) (g0_size bd) (g0_shut bd) E.1 E.2.1 E.2.2.1 E.2.2.2.1 E.2.2.2.2.1 E.2.2.2.2.2.1 E.2.2.2.2.2.2.1 E.2.2.2.2.2.2.2.1 E.2.2.2.2.2.2.2.2.1 E.2.2.2.2.2.2.2.2.2.1 E.2.2.2.2.2.2.2.2.2.2.1 E.2.2.2.2.2.2.2.2.2.2.2.1 E.2.2.2.2.2.2.2.2.2.2.2.2 (nI r) (nI l)) n (nI i) (g0_kind s.1) (g0_head s.1) (g0_body s.1) (g0_excepts s.1) (g0_power s.1) (g0_beats s.1) (g0_facts s.1) (g0_size s.1) (g0_shut s.1) s.2.1 s.2.2.1 s.2.2.2.1 s.2.2.2.2.1 s.2.2.2.2.2.1 s.2.2.2.2.2.2.1 s.2.2.2.2.2.2.2.1 s.2.2.2.2.2.2.2.2.1 s.2.2.2.2.2.2.2.2.2.1 s.2.2.2.2.2.2.2.2.2.2.1 s.2.2.2.2.2.2.2.2.2.2.2.1 s.2.2.2.2.2.2.2.2.2.2.2.2.1 s.2.2.2.2.2.2.2.2.2.2.2.2.2 = (zsp (zLs R r l) 10 (-2) i, g0_kind D.1, g0_head D.1, g0_body D.1, g0_excepts D.1, g0_power D.1, g0_beats D.1, g0_facts D.1, g0_size D.1, g0_shut D.1, D.2) := by
  refine zfindS (P := fun v w => ∃ D : S0 × zRV, w = (v, g0_kind D.1, g0_head D.1, g0_body D.1, g0_excepts D.1, g0_power D.1, g0_beats D.1, g0_facts D.1, g0_size D.1, g0_shut D.1, D.2)) (L := fun n x (s : S0 × zRV) => FX8_least_33 (g0_kind bc) (g0_head bc) (g0_body bc) (g0_excepts bc) (g0_power bc) (g0_beats bc) (g0_facts bc) (g0_size bc) (g0_shut bc) (g0_kind bd) (g0_head bd) (g0_body bd) (g0_excepts bd) (g0_power bd) (g0_beats bd) (g0_facts bd) (g0_size bd) (g0_shut bd) E.1 E.2.1 E.2.2.1 E.2.2.2.1 E.2.2.2.2.1 E.2.2.2.2.2.1 E.2.2.2.2.2.2.1 E.2.2.2.2.2.2.2.1 E.2.2.2.2.2.2.2.2.1 E.2.2.2.2.2.2.2.2.2.1 E.2.2.2.2.2.2.2.2.2.2.1 E.2.2.2.2.2.2.2.2.2.2.2.1 E.2.2.2.2.2.2.2.2.2.2.2.2 (nI r) (nI l) (FX8_least_66 (g0_kind bc) (g0_head bc) (g0_body bc) (g0_excepts bc) (g0_power bc) (g0_beats bc) (g0_facts bc) (g0_size bc) (g0_shut bc) (g0_kind bd) (g0_head bd) (g0_body bd) (g0_excepts bd) (g0_power bd) (g0_beats bd) (g0_facts bd) (g0_size bd) (g0_shut bd) E.1 E.2.1 E.2.2.1 E.2.2.2.1 E.2.2.2.2.1 E.2.2.2.2.2.1 E.2.2.2.2.2.2.1 E.2.2.2.2.2.2.2.1 E.2.2.2.2.2.2.2.2.1 E.2.2.2.2.2.2.2.2.2.1 E.2.2.2.2.2.2.2.2.2.2.1 E.2.2.2.2.2.2.2.2.2.2.2.1 E.2.2.2.2.2.2.2.2.2.2.2.2 (nI r) (nI l)) n x (g0_kind s.1) (g0_head s.1) (g0_body s.1) (g0_excepts s.1) (g0_power s.1) (g0_beats s.1) (g0_facts s.1) (g0_size s.1) (g0_shut s.1) s.2.1 s.2.2.1 s.2.2.2.1 s.2.2.2.2.1 s.2.2.2.2.2.1 s.2.2.2.2.2.2.1 s.2.2.2.2.2.2.2.1 s.2.2.2.2.2.2.2.2.1 s.2.2.2.2.2.2.2.2.2.1 s.2.2.2.2.2.2.2.2.2.2.1 s.2.2.2.2.2.2.2.2.2.2.2.1 s.2.2.2.2.2.2.2.2.2.2.2.2.1 s.2.2.2.2.2.2.2.2.2.2.2.2.2) (I := fun s => ceqP r s.1 bc) 10 ?_ ?_
  · intro n s _
    refine ⟨s, ?_⟩
    show FX8_least_33 (g0_kind bc) (g0_head bc) (g0_body bc) (g0_excepts bc) (g0_power bc) (g0_beats bc) (g0_facts bc) (g0_size bc) (g0_shut bc) (g0_kind bd) (g0_head bd) (g0_body bd) (g0_excepts bd) (g0_power bd) (g0_beats bd) (g0_facts bd) (g0_size bd) (g0_shut bd) E.1 E.2.1 E.2.2.1 E.2.2.2.1 E.2.2.2.2.1 E.2.2.2.2.2.1 E.2.2.2.2.2.2.1 E.2.2.2.2.2.2.2.1 E.2.2.2.2.2.2.2.2.1 E.2.2.2.2.2.2.2.2.2.1 E.2.2.2.2.2.2.2.2.2.2.1 E.2.2.2.2.2.2.2.2.2.2.2.1 E.2.2.2.2.2.2.2.2.2.2.2.2 (nI r) (nI l) _ (n + 1) (nI 10) (g0_kind s.1) (g0_head s.1) (g0_body s.1) (g0_excepts s.1) (g0_power s.1) (g0_beats s.1) (g0_facts s.1) (g0_size s.1) (g0_shut s.1) s.2.1 s.2.2.1 s.2.2.2.1 s.2.2.2.2.1 s.2.2.2.2.2.1 s.2.2.2.2.2.2.1 s.2.2.2.2.2.2.2.1 s.2.2.2.2.2.2.2.2.1 s.2.2.2.2.2.2.2.2.2.1 s.2.2.2.2.2.2.2.2.2.2.1 s.2.2.2.2.2.2.2.2.2.2.2.1 s.2.2.2.2.2.2.2.2.2.2.2.2.1 s.2.2.2.2.2.2.2.2.2.2.2.2.2 = _
    rw [FX8_least_33, if_pos (show (9 : Int32) < nI 10 from nI_lt (a := 9) (by omega) (by omega))]
    rfl
  · intro n i s hi hs
    have hC := zRel_sg hs hR hN hru hr hi
    have hB := q_thought hC s.2 (t := 2) (by decide) hl
    have hun : FX8_least_33 (g0_kind bc) (g0_head bc) (g0_body bc) (g0_excepts bc) (g0_power bc) (g0_beats bc) (g0_facts bc) (g0_size bc) (g0_shut bc) (g0_kind bd) (g0_head bd) (g0_body bd) (g0_excepts bd) (g0_power bd) (g0_beats bd) (g0_facts bd) (g0_size bd) (g0_shut bd) E.1 E.2.1 E.2.2.1 E.2.2.2.1 E.2.2.2.2.1 E.2.2.2.2.2.1 E.2.2.2.2.2.2.1 E.2.2.2.2.2.2.2.1 E.2.2.2.2.2.2.2.2.1 E.2.2.2.2.2.2.2.2.2.1 E.2.2.2.2.2.2.2.2.2.2.1 E.2.2.2.2.2.2.2.2.2.2.2.1 E.2.2.2.2.2.2.2.2.2.2.2.2 (nI r) (nI l) (FX8_least_66 (g0_kind bc) (g0_head bc) (g0_body bc) (g0_excepts bc) (g0_power bc) (g0_beats bc) (g0_facts bc) (g0_size bc) (g0_shut bc) (g0_kind bd) (g0_head bd) (g0_body bd) (g0_excepts bd) (g0_power bd) (g0_beats bd) (g0_facts bd) (g0_size bd) (g0_shut bd) E.1 E.2.1 E.2.2.1 E.2.2.2.1 E.2.2.2.2.1 E.2.2.2.2.2.1 E.2.2.2.2.2.2.1 E.2.2.2.2.2.2.2.1 E.2.2.2.2.2.2.2.2.1 E.2.2.2.2.2.2.2.2.2.1 E.2.2.2.2.2.2.2.2.2.2.1 E.2.2.2.2.2.2.2.2.2.2.2.1 E.2.2.2.2.2.2.2.2.2.2.2.2 (nI r) (nI l)) (n + 1) (nI i) (g0_kind s.1) (g0_head s.1) (g0_body s.1) (g0_excepts s.1) (g0_power s.1) (g0_beats s.1) (g0_facts s.1) (g0_size s.1) (g0_shut s.1) s.2.1 s.2.2.1 s.2.2.2.1 s.2.2.2.2.1 s.2.2.2.2.2.1 s.2.2.2.2.2.2.1 s.2.2.2.2.2.2.2.1 s.2.2.2.2.2.2.2.2.1 s.2.2.2.2.2.2.2.2.2.1 s.2.2.2.2.2.2.2.2.2.2.1 s.2.2.2.2.2.2.2.2.2.2.2.1 s.2.2.2.2.2.2.2.2.2.2.2.2.1 s.2.2.2.2.2.2.2.2.2.2.2.2.2 = _ := FX8_least_33.eq_2 ..
    rw [if_neg (show ¬ (9 : Int32) < nI i from nI_nlt (a := 9) (b := i) (by omega) (by omega))] at hun
    simp only [bnd, nI_1] at hun
    rw [nI_clamp (show r < 2 ^ 31 by omega)] at hun
    have hB : (FX8_comesInThought (g0_kind s.1) (g0_head s.1) (g0_body s.1) (g0_excepts s.1) (upd (g0_power s.1) r (nI i)) (g0_beats s.1) (g0_facts s.1) (g0_size s.1) (g0_shut s.1) s.2.1 s.2.2.1 s.2.2.2.1 s.2.2.2.2.1 s.2.2.2.2.2.1 s.2.2.2.2.2.2.1 s.2.2.2.2.2.2.2.1 s.2.2.2.2.2.2.2.2.1 s.2.2.2.2.2.2.2.2.2.1 s.2.2.2.2.2.2.2.2.2.2.1 s.2.2.2.2.2.2.2.2.2.2.2.1 s.2.2.2.2.2.2.2.2.2.2.2.2.1 s.2.2.2.2.2.2.2.2.2.2.2.2.2 2 (nI l)).1 = _ := hB
    rw [hB] at hun
    have hI : ceqP r (s0_power s.1 (upd (g0_power s.1) r (nI i))) bc := ⟨fun j hj => by
      obtain ⟨a1, a2, a3, a4, a5, a6⟩ := hs.1 j hj
      exact ⟨a1, a2, a3, a4, fun h => (pk_un h).trans (a5 h), a6⟩, hs.2⟩
    have hp : zLs R r l i = zBv (qkd R, qhd R, qbd R, qex R, upd (qsg R) r (nI i), qof R, qov R, qfa R, qru R) 2 l := rfl
    rw [hp]
    cases hv : zBv (qkd R, qhd R, qbd R, qex R, upd (qsg R) r (nI i), qof R, qov R, qfa R, qru R) 2 l
    · rw [hv, if_pos zi_f] at hun
      exact ⟨fun h => (by cases h), fun _ => ⟨(s0_power s.1 (upd (g0_power s.1) r (nI i)), (FX8_comesInThought (g0_kind s.1) (g0_head s.1) (g0_body s.1) (g0_excepts s.1) (upd (g0_power s.1) r (nI i)) (g0_beats s.1) (g0_facts s.1) (g0_size s.1) (g0_shut s.1) s.2.1 s.2.2.1 s.2.2.2.1 s.2.2.2.2.1 s.2.2.2.2.2.1 s.2.2.2.2.2.2.1 s.2.2.2.2.2.2.2.1 s.2.2.2.2.2.2.2.2.1 s.2.2.2.2.2.2.2.2.2.1 s.2.2.2.2.2.2.2.2.2.2.1 s.2.2.2.2.2.2.2.2.2.2.2.1 s.2.2.2.2.2.2.2.2.2.2.2.2.1 s.2.2.2.2.2.2.2.2.2.2.2.2.2 2 (nI l)).2), hI, hun⟩⟩
    · rw [hv, if_neg (show ¬ zi true = 0 by decide)] at hun
      exact ⟨fun _ => ⟨(s0_power s.1 (upd (g0_power s.1) r (nI i)), (FX8_comesInThought (g0_kind s.1) (g0_head s.1) (g0_body s.1) (g0_excepts s.1) (upd (g0_power s.1) r (nI i)) (g0_beats s.1) (g0_facts s.1) (g0_size s.1) (g0_shut s.1) s.2.1 s.2.2.1 s.2.2.2.1 s.2.2.2.2.1 s.2.2.2.2.2.1 s.2.2.2.2.2.2.1 s.2.2.2.2.2.2.2.1 s.2.2.2.2.2.2.2.2.1 s.2.2.2.2.2.2.2.2.2.1 s.2.2.2.2.2.2.2.2.2.2.1 s.2.2.2.2.2.2.2.2.2.2.2.1 s.2.2.2.2.2.2.2.2.2.2.2.2.1 s.2.2.2.2.2.2.2.2.2.2.2.2.2 2 (nI l)).2), hun⟩, fun h => (by cases h)⟩
theorem zup_off {f g : Nat → Int32} {r : Nat} {x : Int32} (h : ∀ j, ¬ j = r → f j = g j) : upd f r x = upd g r x := by
  funext j
  by_cases e : j = r
  · subst e; rw [pk_us, pk_us]
  · rw [pk_un e, pk_un e, h j e]
theorem zup_on {f g : Nat → Int32} {r : Nat} (h : ∀ j, ¬ j = r → f j = g j) : upd f r (g r) = g := by
  funext j
  by_cases e : j = r
  · subst e; rw [pk_us]
  · rw [pk_un e, h j e]
theorem r_least {bc : S0} {R : zC} {G : zTG} {r l N : Nat} (hl : l < 20) (hR : zRel bc R) (hN : N ≤ 16) (hru : qru R = nI N) (hr : r < N) : ∀ (n i : Nat) (s : (Nat → Int32) × zTG), i ≤ 10 → 10 < i + n → (∀ j, ¬ j = r → s.1 j = qsg R j) → ∃ D : zTG, FX9_least_31 (qfa R) (qru R) (qkd R) (qhd R) (qbd R) (qex R) (qsg R) (qof R) (qov R) G.1 G.2.1 G.2.2.1 G.2.2.2 (nI r) (nI l) (FX9_least_77 (qfa R) (qru R) (qkd R) (qhd R) (qbd R) (qex R) (qsg R) (qof R) (qov R) G.1 G.2.1 G.2.2.1 G.2.2.2 (nI r) (nI l)) n (qsg R r) (-2) (nI i) s.1 s.2.1 s.2.2.1 s.2.2.2.1 s.2.2.2.2 = (zsp (zLs R r l) 10 (-2) i, qsg R, D) := by
  have fin : ∀ (f : Nat → Int32) (v : Int32) (g : zTG), (∀ j, ¬ j = r → f j = qsg R j) → FX9_least_77 (qfa R) (qru R) (qkd R) (qhd R) (qbd R) (qex R) (qsg R) (qof R) (qov R) G.1 G.2.1 G.2.2.1 G.2.2.2 (nI r) (nI l) (qsg R r) v f g.1 g.2.1 g.2.2.1 g.2.2.2 = (v, qsg R, g) := fun f v g hf => by
    unfold FX9_least_77
    rw [nI_clamp (by omega), zup_on hf]
  refine zfindS (P := fun v w => ∃ D : zTG, w = (v, qsg R, D)) (L := fun n x (s : (Nat → Int32) × zTG) => FX9_least_31 (qfa R) (qru R) (qkd R) (qhd R) (qbd R) (qex R) (qsg R) (qof R) (qov R) G.1 G.2.1 G.2.2.1 G.2.2.2 (nI r) (nI l) (FX9_least_77 (qfa R) (qru R) (qkd R) (qhd R) (qbd R) (qex R) (qsg R) (qof R) (qov R) G.1 G.2.1 G.2.2.1 G.2.2.2 (nI r) (nI l)) n (qsg R r) (-2) x s.1 s.2.1 s.2.2.1 s.2.2.2.1 s.2.2.2.2) (I := fun s => ∀ j, ¬ j = r → s.1 j = qsg R j) 10 ?_ ?_
  · intro n s hs
    refine ⟨s.2, ?_⟩
    show FX9_least_31 (qfa R) (qru R) (qkd R) (qhd R) (qbd R) (qex R) (qsg R) (qof R) (qov R) G.1 G.2.1 G.2.2.1 G.2.2.2 (nI r) (nI l) _ (n + 1) (qsg R r) (-2) (nI 10) s.1 s.2.1 s.2.2.1 s.2.2.2.1 s.2.2.2.2 = _
    rw [FX9_least_31, if_pos (show (10 : Int32) ≤ nI 10 from nI_le (Nat.le_refl 10) (by omega))]
    exact fin _ _ _ hs
  · intro n i s hi hs
    have hC := zRel_sg (C := bc) (v := i) ⟨fun _ _ => ⟨rfl, rfl, rfl, rfl, fun _ => rfl, rfl⟩, rfl, rfl, rfl⟩ hR hN hru hr hi
    have hB := q_comes hC s.2 (t := 2) (by decide) hl
    have hun : FX9_least_31 (qfa R) (qru R) (qkd R) (qhd R) (qbd R) (qex R) (qsg R) (qof R) (qov R) G.1 G.2.1 G.2.2.1 G.2.2.2 (nI r) (nI l) (FX9_least_77 (qfa R) (qru R) (qkd R) (qhd R) (qbd R) (qex R) (qsg R) (qof R) (qov R) G.1 G.2.1 G.2.2.1 G.2.2.2 (nI r) (nI l)) (n + 1) (qsg R r) (-2) (nI i) s.1 s.2.1 s.2.2.1 s.2.2.2.1 s.2.2.2.2 = _ := FX9_least_31.eq_2 ..
    rw [if_neg (show ¬ (10 : Int32) ≤ nI i from nI_ge (b := 10) hi (by omega)), if_pos rfl] at hun
    simp only [bnd, nI_1] at hun
    rw [nI_clamp (show r < 2 ^ 31 by omega), zup_off hs] at hun
    have hB : (FX9_comes (qfa R) (qru R) (qkd R) (qhd R) (qbd R) (qex R) (upd (qsg R) r (nI i)) (qof R) (qov R) s.2.1 s.2.2.1 s.2.2.2.1 s.2.2.2.2 (nI l) 2).1 = _ := hB
    rw [hB] at hun
    have hI : ∀ j, ¬ j = r → upd (qsg R) r (nI i) j = qsg R j := fun j h => pk_un h
    have hp : zLs R r l i = zBv (qkd R, qhd R, qbd R, qex R, upd (qsg R) r (nI i), qof R, qov R, qfa R, qru R) 2 l := rfl
    rw [hp]
    cases hv : zBv (qkd R, qhd R, qbd R, qex R, upd (qsg R) r (nI i), qof R, qov R, qfa R, qru R) 2 l
    · rw [hv, if_pos zi_f] at hun
      exact ⟨fun h => (by cases h), fun _ => ⟨(upd (qsg R) r (nI i), (FX9_comes (qfa R) (qru R) (qkd R) (qhd R) (qbd R) (qex R) (upd (qsg R) r (nI i)) (qof R) (qov R) s.2.1 s.2.2.1 s.2.2.2.1 s.2.2.2.2 (nI l) 2).2), hI, hun⟩⟩
    · rw [hv, if_neg (show ¬ zi true = 0 by decide)] at hun
      refine ⟨fun _ => ?_, fun h => (by cases h)⟩
      refine ⟨(FX9_comes (qfa R) (qru R) (qkd R) (qhd R) (qbd R) (qex R) (upd (qsg R) r (nI i)) (qof R) (qov R) s.2.1 s.2.2.1 s.2.2.2.1 s.2.2.2.2 (nI l) 2).2, hun.trans ?_⟩
      cases n with
      | zero => exact fin _ _ _ hI
      | succ n =>
        rw [FX9_least_31]
        by_cases c2 : (10 : Int32) ≤ nI (i + 1)
        · rw [if_pos c2]; exact fin _ _ _ hI
        · rw [if_neg c2, if_neg (zm2 (by omega))]; exact fin _ _ _ hI
theorem e_least {bc bd : S0} {R : zC} {E : zRV} {G : zTG} {x1 x2 : Int32} (hR : zRel bc R) {T : (Int32 × (Nat → Int32) × (Nat → Int32) × (Nat → Int32) × (Nat → Int32) × (Nat → Int32) × (Nat → Int32) × (Int32) × (Int32) × (Int32) × (Nat → Int32) × (Int32) × (Nat → Int32) × (Nat → Int32) × (Nat → Int32) × (Nat → Int32) × (Nat → Int32) × (Nat → Int32) × (Int32) × (Int32) × (Int32) × (Int32) × (Int32))} {V : (Int32 × (Nat → Int32) × (Nat → Int32) × (Nat → Int32) × (Nat → Int32) × (Int32))} (hT : FX8_least (g0_kind bc) (g0_head bc) (g0_body bc) (g0_excepts bc) (g0_power bc) (g0_beats bc) (g0_facts bc) (g0_size bc) (g0_shut bc) (g0_kind bd) (g0_head bd) (g0_body bd) (g0_excepts bd) (g0_power bd) (g0_beats bd) (g0_facts bd) (g0_size bd) (g0_shut bd) E.1 E.2.1 E.2.2.1 E.2.2.2.1 E.2.2.2.2.1 E.2.2.2.2.2.1 E.2.2.2.2.2.2.1 E.2.2.2.2.2.2.2.1 E.2.2.2.2.2.2.2.2.1 E.2.2.2.2.2.2.2.2.2.1 E.2.2.2.2.2.2.2.2.2.2.1 E.2.2.2.2.2.2.2.2.2.2.2.1 E.2.2.2.2.2.2.2.2.2.2.2.2 x1 x2 = T) (hV : FX9_least (qfa R) (qru R) (qkd R) (qhd R) (qbd R) (qex R) (qsg R) (qof R) (qov R) G.1 G.2.1 G.2.2.1 G.2.2.2 x1 x2 = V) : T.1 = V.1 ∧ V.2.1 = qsg R := by
  obtain ⟨N, hN, hru, hsz, -⟩ := id hR
  unfold FX8_least at hT
  unfold FX9_least at hV
  simp only [bnd, e_lit] at hT hV
  rw [hsz] at hT
  by_cases c1 : FX0_hasRule (nI N) x1 = 0
  · rw [if_pos c1] at hT
    rw [show FX9_isRule (qru R) x1 = FX0_hasRule (nI N) x1 from by rw [hru, e_rule hN], if_pos c1] at hV
    subst hT hV; exact ⟨rfl, rfl⟩
  rw [if_neg c1] at hT
  rw [show FX9_isRule (qru R) x1 = FX0_hasRule (nI N) x1 from by rw [hru, e_rule hN], if_neg c1] at hV
  by_cases c2 : FX8_isLiteral x2 = 0
  · rw [if_pos c2] at hT hV; subst hT hV; exact ⟨rfl, rfl⟩
  rw [if_neg c2] at hT hV
  obtain ⟨r, hr, rfl⟩ := has_rule hN c1
  obtain ⟨l, hl, rfl⟩ := is_lit c2
  rw [nI_clamp (by omega)] at hV
  obtain ⟨D, eT⟩ := k_least (bd := bd) (E := E) hl hR hN hru hr 11 0 (zmk (FX0_copyFrom (g0_kind bd) (g0_head bd) (g0_body bd) (g0_excepts bd) (g0_power bd) (g0_beats bd) (g0_facts bd) (g0_size bd) (g0_shut bd) (g0_kind bc) (g0_head bc) (g0_body bc) (g0_excepts bc) (g0_power bc) (g0_beats bc) (g0_facts bc) (g0_size bc) (g0_shut bc)), E) (by omega) (by omega) ⟨fun j hj => by
    obtain ⟨a1, a2, a3, a4, a5, a6⟩ := (ceq_mk bd bc).1 j hj
    exact ⟨a1, a2, a3, a4, fun _ => a5, a6⟩, (ceq_mk bd bc).2⟩
  obtain ⟨D', eV⟩ := r_least (G := G) hl hR hN hru hr 11 0 (qsg R, G) (by omega) (by omega) (fun _ _ => rfl)
  rw [hsz] at eT
  have eT := hT.symm.trans eT
  have eV := hV.symm.trans eV
  rw [eT, eV]
  exact ⟨rfl, rfl⟩
end ZLEAST
