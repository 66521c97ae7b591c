/-! promise: prints -/
section ZEPR
theorem e_prints {bc : S0} {R : zC} {E : zRV} {G : zTG} {PV : zPVT} {isS x1 x2 pl ln ppl mpl : Int32} {pw ps nd ls pb mp : Nat → Int32} (hR : zRel bc R) (hs : zSx isS E R) (hp : zPap pb mp ppl mpl) {T : (Int32 × (Int32) × (Nat → Int32) × (Int32) × (Nat → Int32) × (Nat → Int32) × (Nat → Int32) × (Nat → Int32) × (Nat → Int32) × (Nat → Int32) × (Int32) × (Int32) × (Int32) × (Int32) × (Int32) × (Nat → Int32) × (Nat → Int32) × (Int32) × (Nat → Int32) × (Nat → Int32) × (Nat → Int32) × (Nat → Int32) × (Nat → Int32) × (Int32) × (Int32) × (Int32) × (Int32) × (Int32) × (Nat → Int32) × (Int32))} {V : (Int32 × (Nat → Int32) × (Int32) × (Nat → Int32) × (Nat → Int32) × (Nat → Int32) × (Int32) × (Nat → Int32) × (Nat → Int32) × (Int32))} (hT : FX8_prints isS (g0_kind bc) (g0_head bc) (g0_body bc) (g0_excepts bc) (g0_power bc) (g0_beats bc) (g0_facts bc) (g0_size bc) (g0_shut bc) E.1 E.2.1 E.2.2.1 E.2.2.2.1 E.2.2.2.2.1 E.2.2.2.2.2.1 E.2.2.2.2.2.2.1 E.2.2.2.2.2.2.2.1 E.2.2.2.2.2.2.2.2.1 E.2.2.2.2.2.2.2.2.2.1 E.2.2.2.2.2.2.2.2.2.2.1 E.2.2.2.2.2.2.2.2.2.2.2.1 E.2.2.2.2.2.2.2.2.2.2.2.2 pw ps pl PV.1 PV.2.1 PV.2.2.1 PV.2.2.2.1 PV.2.2.2.2.1 PV.2.2.2.2.2.1 PV.2.2.2.2.2.2.1 PV.2.2.2.2.2.2.2.1 PV.2.2.2.2.2.2.2.2.1 PV.2.2.2.2.2.2.2.2.2 pb ppl x1 x2 = T) (hV : FX9_prints (qfa R) (qru R) (qkd R) (qhd R) (qbd R) (qex R) (qsg R) (qof R) (qov R) mp mpl G.1 G.2.1 G.2.2.1 G.2.2.2 nd ls ln x1 x2 = V) : T.1 = V.1 ∧ zSx T.2.1 ((T.2.2.1, T.2.2.2.1, T.2.2.2.2.1, T.2.2.2.2.2.1, T.2.2.2.2.2.2.1, T.2.2.2.2.2.2.2.1, T.2.2.2.2.2.2.2.2.1, T.2.2.2.2.2.2.2.2.2.1, T.2.2.2.2.2.2.2.2.2.2.1, T.2.2.2.2.2.2.2.2.2.2.2.1, T.2.2.2.2.2.2.2.2.2.2.2.2.1, T.2.2.2.2.2.2.2.2.2.2.2.2.2.1, T.2.2.2.2.2.2.2.2.2.2.2.2.2.2.1)) R ∧ zPap (T.2.2.2.2.2.2.2.2.2.2.2.2.2.2.2.2.2.2.2.2.2.2.2.2.2.2.2.2.1) V.2.1 (T.2.2.2.2.2.2.2.2.2.2.2.2.2.2.2.2.2.2.2.2.2.2.2.2.2.2.2.2.2) V.2.2.1 := by
  obtain ⟨S, U, N, eS, eU, sS, hN, hru, k⟩ := q_ask (G := G) hR hs
  obtain ⟨N', hN', h1, h2, h3, h4, h5, h6, -⟩ := id hR
  obtain rfl : N = N' := (nI_eq (by omega) (by omega)).mp (hru.symm.trans h1)
  unfold FX8_prints at hT
  unfold FX9_prints at hV
  by_cases c0 : x1 = -1
  · rw [if_pos c0, bndx] at hT
    rw [if_pos c0] at hV
    unfold FX9_prints_21 at hV
    rw [if_pos c0] at hV
    unfold FX9_prints_38 at hV
    rw [r_q45r hN c0 h1] at hV
    unfold FX9_prints_92 at hV
    unfold FX2_printRules at hT
    rw [h2] at hT
    have kk : zPb (108 * N) (FX2_printRules_7 pb ppl (g0_kind bc) (g0_head bc) (g0_body bc) (g0_excepts bc) (g0_power bc) (nI N) (FX2_printRules_111 pb ppl (g0_kind bc) (g0_head bc) (g0_body bc) (g0_excepts bc) (g0_power bc) (nI N)) 17 0 pb 0) (zq (qkd R) (qhd R) (qbd R) (qex R) (qsg R) N (mp, 0)) := p_rules hN (fun r hr => ⟨(h5 r hr).1, (h5 r hr).2.1, (h5 r hr).2.2.1, (h5 r hr).2.2.2.1, (h5 r hr).2.2.2.2.1⟩) (fun r hr => ⟨(h6 r hr).1, (h6 r hr).2.1⟩) 17 0 (pb, 0) (by omega) (by omega) (zPb_0 pb mp)
    obtain ⟨e, p⟩ := zPap_of kk (by omega)
    subst hT hV
    exact ⟨e, hs, p⟩
  · rw [if_neg c0, bndx] at hT hV
    rw [e_lit] at hV
    by_cases c1 : FX8_isLiteral x1 = 0
    · rw [if_pos c1] at hT hV; subst hT hV; exact ⟨rfl, hs, hp⟩
    rw [if_neg c1, bndx] at hT hV
    rw [e_tag9] at hV
    by_cases c2 : FX8_isTag x2 = 0
    · rw [if_pos c2] at hT hV; subst hT hV; exact ⟨rfl, hs, hp⟩
    rw [if_neg c2] at hT hV
    unfold FX9_prints_21 at hV
    rw [if_neg c0] at hV
    obtain ⟨q, hq, rfl⟩ := is_lit c1
    obtain ⟨t, ht, rfl⟩ := is_tag c2
    obtain ⟨h, hh, hc⟩ := (zRd_of k).1 (20 * t + q) (by omega)
    have kr := r_proves (m_needed := nd) (m_listed := ls) (m_lists := ln) hN hru eU (zRd_of k) ht hq hc hh
    have er : FX4_roundOf S.2.1 (nI t) (nI q) = nI h := by
      unfold FX4_roundOf
      rw [z20' ht hq, k.1 _ (by omega), hc]
    rw [bndx, eS, bndx, er] at hT
    by_cases h0 : h = 0
    · subst h0
      rw [if_pos rfl] at kr
      rw [if_pos (show nI 0 = (0 : Int32) by decide)] at hT
      rw [bndx, kr, if_pos rfl] at hV
      subst hT hV
      exact ⟨rfl, sS, hp⟩
    · rw [if_neg h0] at kr
      rw [if_neg (show ¬ nI h = (0 : Int32) from fun e => h0 ((nI_eq (b := 0) (by omega) (by omega)).mp e)), bndx] at hT
      rw [bndx, kr, if_neg (show ¬ (1 : Int32) = 0 by decide)] at hV
      have kb : ∃ X, FX3_build pw ps pl PV.1 PV.2.1 PV.2.2.1 PV.2.2.2.1 PV.2.2.2.2.1 PV.2.2.2.2.2.1 PV.2.2.2.2.2.2.1 PV.2.2.2.2.2.2.2.1 PV.2.2.2.2.2.2.2.2.1 PV.2.2.2.2.2.2.2.2.2 (g0_kind bc) (g0_head bc) (g0_body bc) (g0_excepts bc) (g0_power bc) (g0_beats bc) (g0_facts bc) (g0_size bc) (g0_shut bc) S.2.1 (nI t) (nI q) = (zdn R N U.1 h (upd (zfill 4 0 pw) (nI t).toNatClampNeg (1 <<< (nI q &&& 31))), (zlis U.1 (zdn R N U.1 h (upd (zfill 4 0 pw) (nI t).toNatClampNeg (1 <<< (nI q &&& 31)))) h (ps, 0)).1, nI (zlis U.1 (zdn R N U.1 h (upd (zfill 4 0 pw) (nI t).toNatClampNeg (1 <<< (nI q &&& 31)))) h (ps, 0)).2, X) := k_build hN h5 h6 h2 h3 k.1 (zRd_of k) ht hq rfl rfl hc hh rfl
      obtain ⟨X, eb⟩ := kb
      have hl := zlis_congr (f := ps) (f' := ls) (c := U.1) (zdn_congr (R := R) (N := N) (c := U.1) h (zwf_eq (w := pw) (w' := nd) (q := q) ht)) h
      have hA : (zlis U.1 (zdn R N U.1 h (upd (zfill 4 0 pw) (nI t).toNatClampNeg (1 <<< (nI q &&& 31)))) h (ps, 0)).2 ≤ 80 := zlis_80 hh
      have hAv := zlis_v (c := U.1) (w := zdn R N U.1 h (upd (zfill 4 0 pw) (nI t).toNatClampNeg (1 <<< (nI q &&& 31)))) (f := ps) h
      rw [eb, bndx] at hT
      generalize zlis U.1 (zdn R N U.1 h (upd (zfill 4 0 pw) (nI t).toNatClampNeg (1 <<< (nI q &&& 31)))) h (ps, 0) = A at hT hl hA hAv
      generalize zlis U.1 (zdn R N U.1 h (zwf nd t q)) h (ls, 0) = B at hV hl
      obtain ⟨e1, e2⟩ := hl
      rw [← e1] at hV
      dsimp only at hT hV
      unfold FX9_prints_38 at hV
      rw [r_q45t hA (nI_pos' (by omega))] at hV
      unfold FX9_prints_92 at hV
      unfold FX2_printProof at hT
      have kk : zPb (4 * A.2) (FX2_printProof_7 pb ppl A.1 (nI A.2) (FX2_printProof_49 pb ppl A.1 (nI A.2)) 81 0 pb 0) (zqt B.1 A.2 (mp, 0)) := p_proof hA (fun i hi => ⟨e2 i hi, by rw [← e2 i hi]; exact hAv i hi⟩) 81 0 (pb, 0) (by omega) (by omega) (zPb_0 pb mp)
      obtain ⟨e, p⟩ := zPap_of kk (by omega)
      subst hT hV
      exact ⟨e, sS, p⟩
end ZEPR
