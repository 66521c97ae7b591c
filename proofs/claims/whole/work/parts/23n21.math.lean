/-! promise: proof -/
abbrev zPVT : Type := (Nat → Int32) × (Nat → Int32) × (Nat → Int32) × (Nat → Int32) × (Nat → Int32) × Int32 × Int32 × Int32 × Int32 × Int32
section ZEP
theorem e_proof {bc : S0} {R : zC} {E : zRV} {G : zTG} {PV : zPVT} {isS x1 x2 x3 pl ln : Int32} {pw ps nd ls : Nat → Int32} (hR : zRel bc R) (hs : zSx isS E R) {T : (Int32 × (Int32) × (Nat → Int32) × (Int32) × (Nat → Int32) × (Nat → Int32) × (Nat → Int32) × (Nat → Int32) × (Nat → Int32) × (Nat → Int32) × (Int32) × (Int32) × (Int32) × (Int32) × (Int32) × (Nat → Int32) × (Nat → Int32) × (Int32) × (Nat → Int32) × (Nat → Int32) × (Nat → Int32) × (Nat → Int32) × (Nat → Int32) × (Int32) × (Int32) × (Int32) × (Int32) × (Int32))} {V : (Int32 × (Nat → Int32) × (Nat → Int32) × (Nat → Int32) × (Int32) × (Nat → Int32) × (Nat → Int32) × (Int32))} (hT : FX8_proof isS (g0_kind bc) (g0_head bc) (g0_body bc) (g0_excepts bc) (g0_power bc) (g0_beats bc) (g0_facts bc) (g0_size bc) (g0_shut bc) E.1 E.2.1 E.2.2.1 E.2.2.2.1 E.2.2.2.2.1 E.2.2.2.2.2.1 E.2.2.2.2.2.2.1 E.2.2.2.2.2.2.2.1 E.2.2.2.2.2.2.2.2.1 E.2.2.2.2.2.2.2.2.2.1 E.2.2.2.2.2.2.2.2.2.2.1 E.2.2.2.2.2.2.2.2.2.2.2.1 E.2.2.2.2.2.2.2.2.2.2.2.2 pw ps pl PV.1 PV.2.1 PV.2.2.1 PV.2.2.2.1 PV.2.2.2.2.1 PV.2.2.2.2.2.1 PV.2.2.2.2.2.2.1 PV.2.2.2.2.2.2.2.1 PV.2.2.2.2.2.2.2.2.1 PV.2.2.2.2.2.2.2.2.2 x1 x2 x3 = T) (hV : FX9_proof (qfa R) (qru R) (qkd R) (qhd R) (qbd R) (qex R) (qsg R) (qof R) (qov R) G.1 G.2.1 G.2.2.1 G.2.2.2 nd ls ln x1 x2 x3 = V) : T.1 = V.1 ∧ zSx T.2.1 ((T.2.2.1, T.2.2.2.1, T.2.2.2.2.1, T.2.2.2.2.2.1, T.2.2.2.2.2.2.1, T.2.2.2.2.2.2.2.1, T.2.2.2.2.2.2.2.2.1, T.2.2.2.2.2.2.2.2.2.1, T.2.2.2.2.2.2.2.2.2.2.1, T.2.2.2.2.2.2.2.2.2.2.2.1, T.2.2.2.2.2.2.2.2.2.2.2.2.1, T.2.2.2.2.2.2.2.2.2.2.2.2.2.1, T.2.2.2.2.2.2.2.2.2.2.2.2.2.2.1)) R := by
  obtain ⟨S, U, N, eS, eU, sS, hN, hru, k⟩ := q_ask (G := G) hR hs
  obtain ⟨N', hN', h1, h2, h3, h4, h5, h6, -⟩ := id hR
  obtain rfl : N = N' := (nI_eq (by omega) (by omega)).mp (hru.symm.trans h1)
  unfold FX8_proof at hT
  unfold FX9_proof at hV
  rw [bndx] at hT hV
  rw [e_lit] at hV
  by_cases c1 : FX8_isLiteral x1 = 0
  · rw [if_pos c1] at hT hV; subst hT hV; exact ⟨rfl, hs⟩
  rw [if_neg c1, bndx] at hT hV
  rw [e_tag9] at hV
  by_cases c2 : FX8_isTag x2 = 0
  · rw [if_pos c2] at hT hV; subst hT hV; exact ⟨rfl, hs⟩
  rw [if_neg c2] at hT hV
  by_cases c3 : (-1) ≤ x3
  · obtain ⟨q, hq, rfl⟩ := is_lit c1
    obtain ⟨t, ht, rfl⟩ := is_tag c2
    obtain ⟨h, hh, hc⟩ := (zRd_of k).1 (20 * t + q) (by omega)
    have kr := r_proves (m_needed := nd) (m_listed := ls) (m_lists := ln) hN hru eU (zRd_of k) ht hq hc hh
    have er : FX4_roundOf S.2.1 (nI t) (nI q) = nI h := by
      unfold FX4_roundOf
      rw [z20' ht hq, k.1 _ (by omega), hc]
    rw [if_pos c3, bndx, eS, bndx, er] at hT
    by_cases h0 : h = 0
    · subst h0
      rw [if_pos rfl] at kr
      rw [if_pos (show nI 0 = (0 : Int32) by decide)] at hT
      rw [if_pos c3, bndx, kr, if_pos rfl] at hV
      subst hT hV
      exact ⟨rfl, sS⟩
    · rw [if_neg h0] at kr
      rw [if_neg (show ¬ nI h = (0 : Int32) from fun e => h0 ((nI_eq (b := 0) (by omega) (by omega)).mp e)), bndx] at hT
      rw [if_pos c3, bndx, kr, if_neg (show ¬ (1 : Int32) = 0 by decide)] at hV
      have kb : ∃ X, FX3_build pw ps pl PV.1 PV.2.1 PV.2.2.1 PV.2.2.2.1 PV.2.2.2.2.1 PV.2.2.2.2.2.1 PV.2.2.2.2.2.2.1 PV.2.2.2.2.2.2.2.1 PV.2.2.2.2.2.2.2.2.1 PV.2.2.2.2.2.2.2.2.2 (g0_kind bc) (g0_head bc) (g0_body bc) (g0_excepts bc) (g0_power bc) (g0_beats bc) (g0_facts bc) (g0_size bc) (g0_shut bc) S.2.1 (nI t) (nI q) = (zdn R N U.1 h (upd (zfill 4 0 pw) (nI t).toNatClampNeg (1 <<< (nI q &&& 31))), (zlis U.1 (zdn R N U.1 h (upd (zfill 4 0 pw) (nI t).toNatClampNeg (1 <<< (nI q &&& 31)))) h (ps, 0)).1, nI (zlis U.1 (zdn R N U.1 h (upd (zfill 4 0 pw) (nI t).toNatClampNeg (1 <<< (nI q &&& 31)))) h (ps, 0)).2, X) := k_build hN h5 h6 h2 h3 k.1 (zRd_of k) ht hq rfl rfl hc hh rfl
      obtain ⟨X, eb⟩ := kb
      have hl := zlis_congr (f := ps) (f' := ls) (c := U.1) (zdn_congr (R := R) (N := N) (c := U.1) h (zwf_eq (w := pw) (w' := nd) (q := q) ht)) h
      have hA : (zlis U.1 (zdn R N U.1 h (upd (zfill 4 0 pw) (nI t).toNatClampNeg (1 <<< (nI q &&& 31)))) h (ps, 0)).2 ≤ 80 := zlis_80 hh
      rw [eb] at hT
      generalize zlis U.1 (zdn R N U.1 h (upd (zfill 4 0 pw) (nI t).toNatClampNeg (1 <<< (nI q &&& 31)))) h (ps, 0) = A at hT hl hA
      generalize zlis U.1 (zdn R N U.1 h (zwf nd t q)) h (ls, 0) = B at hV hl
      obtain ⟨e1, e2⟩ := hl
      rw [← e1] at hV
      dsimp only at hT hV
      by_cases c4 : x3 < nI A.2
      · rw [if_pos c4] at hT hV
        by_cases c5 : 0 ≤ x3
        · rw [if_pos c5] at hT hV
          rw [bndx, bndx] at hT
          unfold FX3_tagAt FX3_literalAt at hT
          obtain ⟨j, hj, rfl⟩ := nI_of (Int32.not_lt.mpr c5)
          have hlt : j < A.2 := (nI_ltI hj (by omega)).mp c4
          rw [nI_clamp hj, e2 j hlt] at hT
          rw [nI_clamp hj] at hV
          subst hT hV
          exact ⟨rfl, sS⟩
        · rw [if_neg c5] at hT hV
          subst hT hV
          exact ⟨rfl, sS⟩
      · rw [if_neg c4] at hT hV
        subst hT hV
        exact ⟨rfl, sS⟩
  · rw [if_neg c3] at hT hV
    subst hT hV
    exact ⟨rfl, hs⟩
end ZEP
