/-! the paper: what both print, byte by byte -/
/-- both have printed the same, n bytes at most -/
def zPb (n : Nat) (T V : (Nat → Int32) × Int32) : Prop := ∃ P : Nat, P ≤ n ∧ T.2 = nI P ∧ V.2 = nI P ∧ ∀ i : Nat, i < P → T.1 i = V.1 i
theorem zPb_le {n m : Nat} {T V : (Nat → Int32) × Int32} (h : zPb n T V) (hm : n ≤ m) : zPb m T V := by
  obtain ⟨P, h1, h2⟩ := h
  exact ⟨P, by omega, h2⟩
theorem p_put {n : Nat} {T V : (Nat → Int32) × Int32} {x : Int32} (h : zPb n T V) (hn : n < 2000) : zPb (n + 1) (FX2_put T.1 T.2 x) (FX9_print V.1 V.2 x) := by
  obtain ⟨f, p⟩ := T
  obtain ⟨g, m⟩ := V
  obtain ⟨P, hP, e1, e2, h3⟩ := h
  obtain rfl : p = nI P := e1
  obtain rfl : m = nI P := e2
  show zPb (n + 1) (FX2_put f (nI P) x) (FX9_print g (nI P) x)
  unfold FX2_put FX9_print
  rw [if_neg (show ¬ (2000 : Int32) ≤ nI P from nI_ge (b := 2000) (by omega) (by omega)), nI_clamp (show P < 2 ^ 31 by omega), nI_1]
  refine ⟨P + 1, by omega, rfl, rfl, fun i hi => ?_⟩
  show upd f P x i = upd g P x i
  by_cases e : i = P
  · rw [e, pk_us, pk_us]
  · rw [pk_un e, pk_un e]
    exact h3 i (by omega)
theorem p_oth {q : Nat} (hq : q < 20) (h : ¬ q < 10) : FX8_otherOf (nI q) = nI (q % 10) := by
  have key : ∀ q : Nat, q < 20 → ¬ q < 10 → FX8_otherOf (nI q) = nI (q % 10) := by decide +kernel
  exact key q hq h
theorem p_ten {q : Nat} (hq : q < 20) : nI q - nI q / 10 * 10 = nI (q % 10) := pk_rem (d := 10) (by omega) (by omega) (by omega)
theorem p_lit {n q : Nat} {T V : (Nat → Int32) × Int32} (hq : q < 20) (h : zPb n T V) (hn : n + 2 ≤ 2000) : zPb (n + (if q < 10 then 1 else 2)) (FX2_putLiteral T.1 T.2 (nI q)) (FX9_printLiteral V.1 V.2 (nI q)) := by
  unfold FX2_putLiteral FX9_printLiteral FX9_printLiteral_12
  rw [p_ten hq]
  by_cases c : q < 10
  · rw [if_pos c, if_pos (show nI q < (10 : Int32) from nI_lt c (by decide)), if_pos (show nI q ≤ (9 : Int32) from nI_le (b := 9) (by omega) (by decide)), bndx, bndx, Nat.mod_eq_of_lt c]
    exact p_put h (by omega)
  · rw [if_neg c, if_neg (show ¬ nI q < (10 : Int32) from nI_nlt (b := 10) (by omega) (by omega)), if_neg (show ¬ nI q ≤ (9 : Int32) from nI_ge (a := 9) (by omega) (by omega)), bndx, bndx, bndx, bndx, p_oth hq c]
    have k := p_put (x := 126) h (by omega)
    generalize FX2_put T.1 T.2 126 = T1 at k ⊢
    generalize FX9_print V.1 V.2 126 = V1 at k ⊢
    rw [bndx]
    exact p_put k (by omega)
/-- what is left to the literals from i on -/
def zlb (i : Nat) : Nat := if i < 10 then 50 - 2 * i else 60 - 3 * i
theorem zlb_3 {i : Nat} (h : i < 20) : 3 ≤ zlb i := by
  unfold zlb
  split <;> omega
theorem zlb_s {i : Nat} (h : i < 20) : zlb (i + 1) + (if i < 10 then 1 else 2) + 1 ≤ zlb i := by
  unfold zlb
  by_cases c : i < 10
  · rw [if_pos c, if_pos c]
    by_cases d : i + 1 < 10
    · rw [if_pos d]; omega
    · rw [if_neg d]; omega
  · rw [if_neg c, if_neg c, if_neg (show ¬ i + 1 < 10 by omega)]; omega
theorem p_all4 {f0 g0 : Nat → Int32} {p0 m0 x : Int32} : ∀ (n i : Nat) (b : Int32) (N : Nat) (T V : (Nat → Int32) × Int32), i ≤ 20 → 20 < i + n → zPb N T V → N + zlb i ≤ 2000 → zPb (N + zlb i) (FX2_putLiterals_4 f0 p0 x (FX2_putLiterals_41 f0 p0 x) n b (nI i) T.1 T.2) (FX9_printAll_4 g0 m0 x (FX9_printAll_41 g0 m0 x) n b (nI i) V.1 V.2)
  | 0, i, b, N, T, V, h1, h2, _, _ => absurd h2 (by omega)
  | n + 1, i, b, N, T, V, h1, h2, h, hN => by
    rw [FX2_putLiterals_4, FX9_printAll_4]
    by_cases c : i < 20
    · have hs := zlb_s c
      have h3 := zlb_3 c
      rw [if_neg (show ¬ (20 : Int32) ≤ nI i from nI_ge (b := 20) c (by omega)), if_neg (show ¬ (20 : Int32) ≤ nI i from nI_ge (b := 20) c (by omega)), bndx, bndx, zh98, zh8 (by omega), nI_1]
      cases e : zb x i
      · rw [if_pos zi_f, bndx, if_pos zi_f]
        exact zPb_le (p_all4 n (i + 1) b N T V (by omega) (by omega) h (by omega)) (by omega)
      · rw [if_neg (show ¬ zi true = 0 by decide), bndx, if_neg (show ¬ zi true = 0 by decide)]
        by_cases c0 : b = 0
        · rw [if_pos c0, if_pos c0, bndx]
          have k1 := p_put (x := 44) h (by omega)
          generalize FX2_put T.1 T.2 44 = T1 at k1 ⊢
          generalize FX9_print V.1 V.2 44 = V1 at k1 ⊢
          unfold FX2_putLiterals_28 FX9_printAll_28
          rw [bndx, bndx, nI_1]
          have k2 := p_lit c k1 (by omega)
          generalize FX2_putLiteral T1.1 T1.2 (nI i) = T2 at k2 ⊢
          generalize FX9_printLiteral V1.1 V1.2 (nI i) = V2 at k2 ⊢
          exact zPb_le (p_all4 n (i + 1) 0 _ T2 V2 (by omega) (by omega) k2 (by omega)) (by omega)
        · rw [if_neg c0, if_neg c0]
          unfold FX2_putLiterals_28 FX9_printAll_28
          rw [bndx, bndx, nI_1]
          have k2 := p_lit c h (by omega)
          generalize FX2_putLiteral T.1 T.2 (nI i) = T2 at k2 ⊢
          generalize FX9_printLiteral V.1 V.2 (nI i) = V2 at k2 ⊢
          exact zPb_le (p_all4 n (i + 1) 0 _ T2 V2 (by omega) (by omega) k2 (by omega)) (by omega)
    · obtain rfl : i = 20 := by omega
      rw [if_pos (show (20 : Int32) ≤ nI 20 from nI_le (Nat.le_refl 20) (by omega)), if_pos (show (20 : Int32) ≤ nI 20 from nI_le (Nat.le_refl 20) (by omega))]
      exact zPb_le h (by omega)
theorem p_all {n : Nat} {T V : (Nat → Int32) × Int32} {x : Int32} (h : zPb n T V) (hn : n + 50 ≤ 2000) : zPb (n + 50) (FX2_putLiterals T.1 T.2 x) (FX9_printAll V.1 V.2 x) :=
  p_all4 (x := x) 21 0 1 n T V (by omega) (by omega) h hn
/-- what the reference has printed of the rules below i -/
def zq (kd hd bd ex sg : Nat → Int32) : Nat → (Nat → Int32) × Int32 → (Nat → Int32) × Int32
  | 0, V => V
  | i + 1, V => FX9_printRule kd hd bd ex sg (zq kd hd bd ex sg i V).1 (zq kd hd bd ex sg i V).2 (nI i)
/-- what the reference has printed of the tags ahead of the i-th -/
def zqt (ls : Nat → Int32) : Nat → (Nat → Int32) × Int32 → (Nat → Int32) × Int32
  | 0, V => V
  | i + 1, V => FX9_printTag (zqt ls i V).1 (zqt ls i V).2 (ls i)
theorem r_prule {kd hd bd ex sg : Nat → Int32} {V : (Nat → Int32) × Int32} {r : Nat} (hr : r < 16) (hk : kd r = 0 ∨ kd r = 1 ∨ kd r = 2) : FX9_printRule kd hd bd ex sg V.1 V.2 (nI r) = FX9_printRule_42 kd hd bd ex sg V.1 V.2 (nI r) (zARROWS (kd r).toNatClampNeg) (FX9_printAll V.1 V.2 (bd r)).1 (FX9_printAll V.1 V.2 (bd r)).2 := by
  unfold FX9_printRule
  rw [bndx, nI_clamp (show r < 2 ^ 31 by omega)]
  rcases hk with e | e | e
  · rw [if_pos e, e]; rfl
  · rw [if_neg (show ¬ kd r = 0 by rw [e]; decide), if_pos e, e]; rfl
  · rw [if_neg (show ¬ kd r = 0 by rw [e]; decide), if_neg (show ¬ kd r = 1 by rw [e]; decide), e]; rfl
section ZPRU
variable {pb ck ch cb ce cp kd hd bd ex sg : Nat → Int32} {pl : Int32} {N : Nat}
theorem p_tail {cs : Int32} {rc7 : Int32 → (Nat → Int32) → Int32 → (Nat → Int32) × Int32} {kt7 : (Nat → Int32) → Int32 → (Nat → Int32) × Int32} {T V ZN : (Nat → Int32) × Int32} {W : Nat → Int32} {w : Int32} {n i M : Nat} (hi : i < 16) (a5 : cp i = sg i) (h : zPb n T V) (hn : n + 3 ≤ 2000) (ih : ∀ T', zPb (n + 3) T' (FX9_printRule_86 kd hd bd ex sg W w (nI i) V.1 V.2) → zPb M (rc7 (nI (i + 1)) T'.1 T'.2) ZN) : zPb M (FX2_printRules_80 pb pl ck ch cb ce cp cs rc7 kt7 (nI i) T.1 T.2) ZN := by
  unfold FX2_printRules_80
  unfold FX9_printRule_86 at ih
  rw [nI_clamp (show i < 2 ^ 31 by omega), bndx] at ih
  rw [nI_clamp (show i < 2 ^ 31 by omega), bndx, a5, nI_1]
  have k := p_put (x := 42) h (by omega)
  generalize FX2_put T.1 T.2 42 = T1 at k ⊢
  generalize FX9_print V.1 V.2 42 = V1 at k ih
  rw [bndx] at ih
  rw [bndx]
  have k := p_put (x := 48 + sg i) k (by omega)
  generalize FX2_put T1.1 T1.2 (48 + sg i) = T2 at k ⊢
  generalize FX9_print V1.1 V1.2 (48 + sg i) = V2 at k ih
  rw [bndx] at ih
  rw [bndx]
  have k := p_put (x := 59) k (by omega)
  generalize FX2_put T2.1 T2.2 59 = T3 at k ⊢
  generalize FX9_print V2.1 V2.2 59 = V3 at k ih
  exact ih T3 k
theorem p_rules (hN : N ≤ 16) (hs : ∀ r, r < N → ck r = kd r ∧ ch r = hd r ∧ cb r = bd r ∧ ce r = ex r ∧ cp r = sg r) (hv : ∀ r, r < N → (kd r = 0 ∨ kd r = 1 ∨ kd r = 2) ∧ ∃ j : Nat, j < 20 ∧ hd r = nI j) {V0 : (Nat → Int32) × Int32} : ∀ (n i : Nat) (T : (Nat → Int32) × Int32), i ≤ N → N < i + n → zPb (108 * i) T (zq kd hd bd ex sg i V0) → zPb (108 * N) (FX2_printRules_7 pb pl ck ch cb ce cp (nI N) (FX2_printRules_111 pb pl ck ch cb ce cp (nI N)) n (nI i) T.1 T.2) (zq kd hd bd ex sg N V0)
  | 0, i, T, h1, h2, _ => absurd h2 (by omega)
  | n + 1, i, T, h1, h2, h => by
    rw [FX2_printRules_7]
    by_cases c : i < N
    · have ih := fun T' => p_rules hN hs hv (V0 := V0) n (i + 1) T' c (by omega)
      obtain ⟨a1, a2, a3, a4, a5⟩ := hs i c
      obtain ⟨b1, j, b2, b3⟩ := hv i c
      rw [if_neg (nI_ge c (by omega)), nI_clamp (show i < 2 ^ 31 by omega), a1, a2, a3, a4]
      have ez : zq kd hd bd ex sg (i + 1) V0 = FX9_printRule kd hd bd ex sg (zq kd hd bd ex sg i V0).1 (zq kd hd bd ex sg i V0).2 (nI i) := rfl
      rw [r_prule (by omega) b1] at ez
      unfold FX9_printRule_42 at ez
      rw [nI_clamp (show i < 2 ^ 31 by omega), bndx] at ez
      generalize zq kd hd bd ex sg (i + 1) V0 = Z at ez ih
      generalize zq kd hd bd ex sg N V0 = ZN at ih ⊢
      generalize zq kd hd bd ex sg i V0 = V at h ez
      have k := p_all (x := bd i) h (by omega)
      rw [bndx]
      generalize FX2_putLiterals T.1 T.2 (bd i) = T1 at k ⊢
      generalize FX9_printAll V.1 V.2 (bd i) = V1 at k ez
      have k := p_put (x := zARROWS (kd i).toNatClampNeg) k (by omega)
      rw [bndx]
      generalize FX2_put T1.1 T1.2 (zARROWS (kd i).toNatClampNeg) = T2 at k ⊢
      generalize FX9_print V1.1 V1.2 (zARROWS (kd i).toNatClampNeg) = V2 at k ez
      have k := p_put (x := 62) k (by omega)
      rw [bndx]
      rw [bndx] at ez
      generalize FX2_put T2.1 T2.2 62 = T3 at k ⊢
      generalize FX9_print V2.1 V2.2 62 = V3 at k ez
      rw [b3] at ez ⊢
      have k : zPb (108 * i + 54) _ _ := zPb_le (p_lit b2 k (by omega)) (by split <;> omega)
      rw [bndx]
      rw [bndx] at ez
      generalize FX2_putLiteral T3.1 T3.2 (nI j) = T4 at k ⊢
      generalize FX9_printLiteral V3.1 V3.2 (nI j) = V4 at k ez
      by_cases ce0 : ex i = 0
      · rw [if_pos ce0] at ez ⊢
        exact p_tail (W := V.1) (w := V.2) (by omega) a5 k (by omega) (fun T' hT' => ih T' (by rw [ez]; exact zPb_le hT' (by omega)))
      · rw [if_neg ce0] at ez ⊢
        have k := p_put (x := 63) k (by omega)
        rw [bndx]
        rw [bndx] at ez
        generalize FX2_put T4.1 T4.2 63 = T5 at k ⊢
        generalize FX9_print V4.1 V4.2 63 = V5 at k ez
        have k := p_all (x := ex i) k (by omega)
        rw [bndx]
        rw [bndx] at ez
        generalize FX2_putLiterals T5.1 T5.2 (ex i) = T6 at k ⊢
        generalize FX9_printAll V5.1 V5.2 (ex i) = V6 at k ez
        exact p_tail (W := V.1) (w := V.2) (by omega) a5 k (by omega) (fun T' hT' => ih T' (by rw [ez]; exact zPb_le hT' (by omega)))
    · obtain rfl : i = N := by omega
      rw [if_pos (nI_le (Nat.le_refl _) (by omega))]
      exact h
end ZPRU
section ZPPR
variable {pb st : Nat → Int32} {pl : Int32} {L : Nat}
theorem r_ptag {V : (Nat → Int32) × Int32} {j : Nat} (hj : j < 80) : FX9_printTag V.1 V.2 (nI j) = FX9_printTag_37 V.1 V.2 (nI j) (zMARKS (j / 20)) V.1 V.2 := by
  unfold FX9_printTag
  have e : nI j / 20 = nI (j / 20) := pk_div (d := 20) (by omega) (by omega) (by omega)
  rw [e]
  have ht : j / 20 < 4 := by omega
  generalize j / 20 = t at ht
  rcases (show t = 0 ∨ t = 1 ∨ t = 2 ∨ t = 3 by omega) with rfl | rfl | rfl | rfl
  · rw [if_pos (show nI 0 = (0 : Int32) by decide)]; rfl
  · rw [if_neg (show ¬ nI 1 = (0 : Int32) by decide), if_pos (show nI 1 = (1 : Int32) by decide)]; rfl
  · rw [if_neg (show ¬ nI 2 = (0 : Int32) by decide), if_neg (show ¬ nI 2 = (1 : Int32) by decide), if_pos (show nI 2 = (2 : Int32) by decide)]; rfl
  · rw [if_neg (show ¬ nI 3 = (0 : Int32) by decide), if_neg (show ¬ nI 3 = (1 : Int32) by decide), if_neg (show ¬ nI 3 = (2 : Int32) by decide)]; rfl
theorem p_proof {ls : Nat → Int32} (hL : L ≤ 80) (hs : ∀ k, k < L → st k = ls k ∧ ∃ j : Nat, j < 80 ∧ ls k = nI j) {V0 : (Nat → Int32) × Int32} : ∀ (n i : Nat) (T : (Nat → Int32) × Int32), i ≤ L → L < i + n → zPb (4 * i) T (zqt ls i V0) → zPb (4 * L) (FX2_printProof_7 pb pl st (nI L) (FX2_printProof_49 pb pl st (nI L)) n (nI i) T.1 T.2) (zqt ls L V0)
  | 0, i, T, h1, h2, _ => absurd h2 (by omega)
  | n + 1, i, T, h1, h2, h => by
    rw [FX2_printProof_7]
    by_cases c : i < L
    · have ih := fun T' => p_proof hL hs (V0 := V0) n (i + 1) T' c (by omega)
      obtain ⟨a1, j, a2, a3⟩ := hs i c
      have e1 : nI j / 20 = nI (j / 20) := pk_div (d := 20) (by omega) (by omega) (by omega)
      have e2 : nI j - nI j / 20 * 20 = nI (j % 20) := pk_rem (d := 20) (by omega) (by omega) (by omega)
      have ht : FX3_tagAt st (nI i) = nI (j / 20) := by
        unfold FX3_tagAt
        rw [nI_clamp (show i < 2 ^ 31 by omega), a1, a3, e1]
      have hl : FX3_literalAt st (nI i) = nI (j % 20) := by
        unfold FX3_literalAt
        rw [nI_clamp (show i < 2 ^ 31 by omega), a1, a3, e2]
      rw [if_neg (nI_ge c (by omega)), bndx, ht, nI_clamp (show j / 20 < 2 ^ 31 by omega), hl, nI_1]
      have ez : zqt ls (i + 1) V0 = FX9_printTag (zqt ls i V0).1 (zqt ls i V0).2 (ls i) := rfl
      rw [a3, r_ptag a2] at ez
      unfold FX9_printTag_37 at ez
      rw [e2, bndx] at ez
      generalize zqt ls (i + 1) V0 = Z at ez ih
      generalize zqt ls L V0 = ZN at ih ⊢
      generalize zqt ls i V0 = V at h ez
      have k := p_put (x := zMARKS (j / 20)) h (by omega)
      rw [bndx]
      generalize FX2_put T.1 T.2 (zMARKS (j / 20)) = T1 at k ⊢
      generalize FX9_print V.1 V.2 (zMARKS (j / 20)) = V1 at k ez
      rw [bndx]
      have k : zPb (4 * i + 3) _ _ := zPb_le (p_lit (show j % 20 < 20 by omega) k (by omega)) (by split <;> omega)
      rw [bndx]
      rw [bndx] at ez
      generalize FX2_putLiteral T1.1 T1.2 (nI (j % 20)) = T2 at k ⊢
      generalize FX9_printLiteral V1.1 V1.2 (nI (j % 20)) = V2 at k ez
      have k := p_put (x := 59) k (by omega)
      rw [bndx]
      rw [bndx] at ez
      generalize FX2_put T2.1 T2.2 59 = T3 at k ⊢
      generalize FX9_print V2.1 V2.2 59 = V3 at k ez
      exact ih T3 (by rw [ez]; exact zPb_le k (by omega))
    · obtain rfl : i = L := by omega
      rw [if_pos (nI_le (Nat.le_refl _) (by omega))]
      exact h
end ZPPR
section ZQ45
variable {m_facts : Int32} {m_rules : Int32} {m_kind : Nat → Int32} {m_head : Nat → Int32} {m_body : Nat → Int32} {m_except : Nat → Int32} {m_strength : Nat → Int32} {m_off : Nat → Int32} {m_over : Nat → Int32} {m_paper : Nat → Int32} {m_papers : Int32} {m_came : Nat → Int32} {m_known : Nat → Int32} {m_fresh : Nat → Int32} {m_rounds : Int32} {m_needed : Nat → Int32} {m_listed : Nat → Int32} {m_lists : Int32} {x1 : Int32} {x2 : Int32}
theorem r_q45r {kt45 : (Nat → Int32) → (Int32) → (Nat → Int32) → (Nat → Int32) → (Nat → Int32) → (Int32) → (Nat → Int32) → (Nat → Int32) → (Int32) → (Int32 × (Nat → Int32) × (Int32) × (Nat → Int32) × (Nat → Int32) × (Nat → Int32) × (Int32) × (Nat → Int32) × (Nat → Int32) × (Int32))} {N : Nat} {c K fr w ls pp : Nat → Int32} {rd ln : Int32} (hN : N ≤ 16) (hx : x1 = -1) (hru : m_rules = nI N) : (FX9_prints_45 m_facts m_rules m_kind m_head m_body m_except m_strength m_off m_over m_paper m_papers m_came m_known m_fresh m_rounds m_needed m_listed m_lists x1 x2) kt45 82 0 pp 0 c K fr rd w ls ln = kt45 (zq m_kind m_head m_body m_except m_strength N (pp, 0)).1 (zq m_kind m_head m_body m_except m_strength N (pp, 0)).2 c K fr rd w ls ln := by
  obtain ⟨s, hs, e⟩ := zloopI (L := fun n x s => (FX9_prints_45 m_facts m_rules m_kind m_head m_body m_except m_strength m_off m_over m_paper m_papers m_came m_known m_fresh m_rounds m_needed m_listed m_lists x1 x2) kt45 n x s.1 s.2 c K fr rd w ls ln) (kt := fun s => kt45 s.1 s.2 c K fr rd w ls ln) N (I := fun i s => s = zq m_kind m_head m_body m_except m_strength i (pp, 0)) (by
    intro n s _
    have hun : (FX9_prints_45 m_facts m_rules m_kind m_head m_body m_except m_strength m_off m_over m_paper m_papers m_came m_known m_fresh m_rounds m_needed m_listed m_lists x1 x2) kt45 (n + 1) (nI N) s.1 s.2 c K fr rd w ls ln = _ := FX9_prints_45.eq_2 ..
    unfold FX9_prints_61 at hun
    rw [if_neg (show ¬ 0 ≤ x1 by rw [hx]; decide), if_neg (show ¬ 0 ≤ x1 by rw [hx]; decide), hru, if_pos (nI_le (Nat.le_refl _) (by omega))] at hun
    rw [hru]
    exact hun) (by
    intro n i s hi hs
    refine ⟨_, rfl, ?_⟩
    have hun : (FX9_prints_45 m_facts m_rules m_kind m_head m_body m_except m_strength m_off m_over m_paper m_papers m_came m_known m_fresh m_rounds m_needed m_listed m_lists x1 x2) kt45 (n + 1) (nI i) s.1 s.2 c K fr rd w ls ln = _ := FX9_prints_45.eq_2 ..
    unfold FX9_prints_61 at hun
    rw [if_neg (show ¬ 0 ≤ x1 by rw [hx]; decide), if_neg (show ¬ 0 ≤ x1 by rw [hx]; decide), if_neg (show ¬ m_rules ≤ nI i by rw [hru]; exact nI_ge hi (by omega)), bndx, nI_1, hs] at hun
    rw [hs]
    exact hun) 82 0 (pp, 0) (by omega) (by omega) rfl
  rw [hs] at e
  exact e
theorem r_q45t {kt45 : (Nat → Int32) → (Int32) → (Nat → Int32) → (Nat → Int32) → (Nat → Int32) → (Int32) → (Nat → Int32) → (Nat → Int32) → (Int32) → (Int32 × (Nat → Int32) × (Int32) × (Nat → Int32) × (Nat → Int32) × (Nat → Int32) × (Int32) × (Nat → Int32) × (Nat → Int32) × (Int32))} {L : Nat} {c K fr w ls pp : Nat → Int32} {rd : Int32} (hL : L ≤ 80) (hx : 0 ≤ x1) : (FX9_prints_45 m_facts m_rules m_kind m_head m_body m_except m_strength m_off m_over m_paper m_papers m_came m_known m_fresh m_rounds m_needed m_listed m_lists x1 x2) kt45 82 0 pp 0 c K fr rd w ls (nI L) = kt45 (zqt ls L (pp, 0)).1 (zqt ls L (pp, 0)).2 c K fr rd w ls (nI L) := by
  obtain ⟨s, hs, e⟩ := zloopI (L := fun n x s => (FX9_prints_45 m_facts m_rules m_kind m_head m_body m_except m_strength m_off m_over m_paper m_papers m_came m_known m_fresh m_rounds m_needed m_listed m_lists x1 x2) kt45 n x s.1 s.2 c K fr rd w ls (nI L)) (kt := fun s => kt45 s.1 s.2 c K fr rd w ls (nI L)) L (I := fun i s => s = zqt ls i (pp, 0)) (by
    intro n s _
    have hun : (FX9_prints_45 m_facts m_rules m_kind m_head m_body m_except m_strength m_off m_over m_paper m_papers m_came m_known m_fresh m_rounds m_needed m_listed m_lists x1 x2) kt45 (n + 1) (nI L) s.1 s.2 c K fr rd w ls (nI L) = _ := FX9_prints_45.eq_2 ..
    unfold FX9_prints_61 at hun
    rw [if_pos hx, if_pos (nI_le (Nat.le_refl _) (by omega))] at hun
    exact hun) (by
    intro n i s hi hs
    refine ⟨_, rfl, ?_⟩
    have hun : (FX9_prints_45 m_facts m_rules m_kind m_head m_body m_except m_strength m_off m_over m_paper m_papers m_came m_known m_fresh m_rounds m_needed m_listed m_lists x1 x2) kt45 (n + 1) (nI i) s.1 s.2 c K fr rd w ls (nI L) = _ := FX9_prints_45.eq_2 ..
    unfold FX9_prints_61 at hun
    rw [if_pos hx, if_neg (nI_ge hi (by omega)), if_pos hx, bndx, nI_1, nI_clamp (show i < 2 ^ 31 by omega), hs] at hun
    rw [hs]
    exact hun) 82 0 (pp, 0) (by omega) (by omega) rfl
  rw [hs] at e
  exact e
end ZQ45
/-- what stands in the list -/
theorem zli_v {c w : Nat → Int32} {ρ : Nat} {s : (Nat → Int32) × Nat} (h : ∀ i, i < s.2 → ∃ j : Nat, j < 80 ∧ s.1 i = nI j) : ∀ k : Nat, k ≤ 80 → ∀ i, i < (zli c w ρ k s).2 → ∃ j : Nat, j < 80 ∧ (zli c w ρ k s).1 i = nI j
  | 0, _ => h
  | k + 1, hk => by
    have ih := zli_v (c := c) (w := w) (ρ := ρ) h k (by omega)
    have e : zli c w ρ (k + 1) s = if (decide (c k = nI ρ) && zb (w (k / 20)) (k % 20)) = true then (upd (zli c w ρ k s).1 (zli c w ρ k s).2 (nI k), (zli c w ρ k s).2 + 1) else zli c w ρ k s := rfl
    rw [e]
    by_cases c1 : (decide (c k = nI ρ) && zb (w (k / 20)) (k % 20)) = true
    · rw [if_pos c1]
      intro i hi
      have hi : i < (zli c w ρ k s).2 + 1 := hi
      show ∃ j : Nat, j < 80 ∧ upd (zli c w ρ k s).1 (zli c w ρ k s).2 (nI k) i = nI j
      by_cases e2 : i = (zli c w ρ k s).2
      · rw [e2, pk_us]
        exact ⟨k, by omega, rfl⟩
      · rw [pk_un e2]
        exact ih i (by omega)
    · rw [if_neg c1]
      exact ih
theorem zlis_v {c w f : Nat → Int32} : ∀ ρ : Nat, ∀ i, i < (zlis c w ρ (f, 0)).2 → ∃ j : Nat, j < 80 ∧ (zlis c w ρ (f, 0)).1 i = nI j
  | 0 => fun i hi => absurd hi (Nat.not_lt_zero i)
  | ρ + 1 => zli_v (zlis_v ρ) 80 (Nat.le_refl 80)
theorem zPap_of {n : Nat} {T V : (Nat → Int32) × Int32} (h : zPb n T V) (hn : n ≤ 2000) : T.2 = V.2 ∧ zPap T.1 V.1 T.2 V.2 := by
  obtain ⟨P, hP, e1, e2, h3⟩ := h
  exact ⟨e1.trans e2.symm, e2.trans e1.symm, P, by omega, e1, h3⟩
theorem zPb_0 (f g : Nat → Int32) : zPb 0 (f, 0) (g, 0) := ⟨0, Nat.le_refl 0, rfl, rfl, fun i hi => absurd hi (Nat.not_lt_zero i)⟩
