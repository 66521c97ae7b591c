/-! a rule comes; undone, done again; the image -/
def zadd (X : zC) (r : Nat) (x1 x2 x3 x4 x5 : Int32) : zC := (upd (qkd X) r x1, upd (qhd X) r x2, upd (qbd X) r x3, upd (qex X) r x4, upd (qsg X) r x5, upd (qof X) r 0, (fun k => if k < 16 then upd (qov X) r 0 k &&& ((1 <<< (nI r &&& 31)) ^^^ (-1)) else upd (qov X) r 0 k), qfa X, qru X)
theorem zupd_c (f : Nat → Int32) {a b : Nat} (x y : Int32) (h : ¬ a = b) : upd (upd f a x) b y = upd (upd f b y) a x := by
  funext j
  by_cases e : j = a
  · subst e
    rw [pk_un h, pk_us, pk_us]
  · rw [pk_un (f := upd f b y) e]
    by_cases e2 : j = b
    · subst e2; rw [pk_us, pk_us]
    · rw [pk_un e2, pk_un e2, pk_un e]
theorem zmask {f : Int32} {r : Nat} (hr : r < 32) {j : Nat} : zb (f &&& ((1 <<< (nI r &&& 31)) ^^^ (-1))) j = (zb f j && !decide (j = r)) := by
  by_cases hj : j < 32
  · rw [zb_and, zb_not hj, zb_one hr]
  · rw [zb_big (by omega), zb_big (x := f) (by omega)]; rfl
theorem zadd_bec {X : zC} {r : Nat} {x1 x2 x3 x4 x5 w o wi v : Int32} (hr : r < 16) (h : ¬ w = 0 → ¬ w = 1 → ∃ k q : Nat, k < r ∧ q < r ∧ o = nI k ∧ (w = 4 → wi = nI q)) (hw : w = 0 ∨ w = 1 ∨ w = 2 ∨ w = 3 ∨ w = 4) : zadd (qbec X w o wi v) r x1 x2 x3 x4 x5 = qbec (zadd X r x1 x2 x3 x4 x5) w o wi v := by
  rcases hw with rfl | rfl | rfl | rfl | rfl
  · rw [qbec_fa, qbec_fa]; rfl
  · rw [qbec_ru, qbec_ru]; rfl
  · obtain ⟨k, q, hk, hq, rfl, -⟩ := h (by decide) (by decide)
    rw [qbec_of, qbec_of, nI_clamp (by omega)]
    show (_, _, _, _, _, upd (upd (qof X) k v) r 0, _, _, _) = (_, _, _, _, _, upd (upd (qof X) r 0) k v, _, _, _)
    rw [zupd_c _ _ _ (show ¬ k = r by omega)]
    rfl
  · obtain ⟨k, q, hk, hq, rfl, -⟩ := h (by decide) (by decide)
    rw [qbec_sg, qbec_sg, nI_clamp (by omega)]
    show (_, _, _, _, upd (upd (qsg X) k v) r x5, _, _, _, _) = (_, _, _, _, upd (upd (qsg X) r x5) k v, _, _, _, _)
    rw [zupd_c _ _ _ (show ¬ k = r by omega)]
    rfl
  · obtain ⟨k, q, hk, hq, rfl, e⟩ := h (by decide) (by decide)
    rw [qbec_ov, qbec_ov, nI_clamp (by omega), e rfl]
    have key : (fun j => if j < 16 then upd (upd (qov X) k (if v = 1 then qov X k ||| (1 <<< (nI q &&& 31)) else qov X k &&& ((1 <<< (nI q &&& 31)) ^^^ (-1)))) r 0 j &&& ((1 <<< (nI r &&& 31)) ^^^ (-1)) else upd (upd (qov X) k (if v = 1 then qov X k ||| (1 <<< (nI q &&& 31)) else qov X k &&& ((1 <<< (nI q &&& 31)) ^^^ (-1)))) r 0 j) = upd (qov (zadd X r x1 x2 x3 x4 x5)) k (if v = 1 then qov (zadd X r x1 x2 x3 x4 x5) k ||| (1 <<< (nI q &&& 31)) else qov (zadd X r x1 x2 x3 x4 x5) k &&& ((1 <<< (nI q &&& 31)) ^^^ (-1))) := by
      have ek : qov (zadd X r x1 x2 x3 x4 x5) k = qov X k &&& ((1 <<< (nI r &&& 31)) ^^^ (-1)) := by
        show (if k < 16 then upd (qov X) r 0 k &&& _ else _) = _
        rw [if_pos (by omega), pk_un (by omega)]
      rw [ek]
      funext j
      by_cases e1 : j = k
      · subst e1
        rw [if_pos (by omega), pk_un (by omega), pk_us, pk_us]
        refine zb_ext (fun i hi => ?_)
        rw [zmask (by omega), zwb (by omega) hi, zwb (by omega) hi, zmask (by omega)]
        by_cases e2 : i = q
        · subst e2
          rw [if_pos rfl, if_pos rfl, decide_eq_false (show ¬ i = r by omega)]
          cases decide (v = 1) <;> rfl
        · rw [if_neg e2, if_neg e2]
      · rw [pk_un (f := qov (zadd X r x1 x2 x3 x4 x5)) e1]
        show _ = (if j < 16 then upd (qov X) r 0 j &&& _ else upd (qov X) r 0 j)
        by_cases e2 : j = r
        · subst e2
          rw [pk_us, pk_us]
        · rw [pk_un e2, pk_un e1, pk_un e2]
    show (_, _, _, _, _, _, (fun j => _), _, _) = _
    refine Prod.ext rfl (Prod.ext rfl (Prod.ext rfl (Prod.ext rfl (Prod.ext rfl (Prod.ext rfl (Prod.ext ?_ rfl))))))
    exact key
theorem zadd_rel {C : S0} {X : zC} {r M : Nat} {x1 x2 x3 x4 x5 : Int32} (hr : r < 16) (hM : qru X = nI M) (hMr : M ≤ r) (h : zRel C X) : zRel C (zadd X r x1 x2 x3 x4 x5) := by
  obtain ⟨N, hN, h1, h2, h3, h4, h5, h6, h7, h8, h9⟩ := h
  obtain rfl : N = M := (nI_eq (by omega) (by omega)).mp (h1.symm.trans hM)
  have hov : ∀ j, j < N → (if j < 16 then upd (qov X) r 0 j &&& ((1 <<< (nI r &&& 31)) ^^^ (-1)) else upd (qov X) r 0 j) = qov X j := fun j hj => by
    rw [if_pos (by omega), pk_un (by omega)]
    refine zb_ext (fun i hi => ?_)
    rw [zmask (by omega)]
    cases e : zb (qov X j) i
    · rfl
    · have := ((h6 j hj).2.2.2.2.2 i e).1
      rw [decide_eq_false (show ¬ i = r by omega)]; rfl
  refine ⟨N, hN, h1, h2, h3, h4, fun j hj => ?_, fun j hj => ?_, h7, h8, h9⟩
  · obtain ⟨a1, a2, a3, a4, a5, a6, a7⟩ := h5 j hj
    refine ⟨a1.trans (pk_un (by omega)).symm, a2.trans (pk_un (by omega)).symm, a3.trans (pk_un (by omega)).symm, a4.trans (pk_un (by omega)).symm, a5.trans (pk_un (by omega)).symm, a6.trans (hov j hj).symm, (pk_un (by omega)).trans a7⟩
  · obtain ⟨a1, a2, a3, a4, a5, a6⟩ := h6 j hj
    show (upd (qkd X) r x1 j = 0 ∨ upd (qkd X) r x1 j = 1 ∨ upd (qkd X) r x1 j = 2) ∧ (∃ k : Nat, k < 20 ∧ upd (qhd X) r x2 j = nI k) ∧ (∀ q, 20 ≤ q → zb (upd (qbd X) r x3 j) q = false) ∧ (∀ q, 20 ≤ q → zb (upd (qex X) r x4 j) q = false) ∧ (∃ k : Nat, k < 10 ∧ upd (qsg X) r x5 j = nI k) ∧ ∀ o, zb (if j < 16 then upd (qov X) r 0 j &&& ((1 <<< (nI r &&& 31)) ^^^ (-1)) else upd (qov X) r 0 j) o = true → o < N ∧ o ≠ j
    rw [pk_un (by omega), pk_un (by omega), pk_un (by omega), pk_un (by omega), pk_un (by omega), hov j hj]
    exact ⟨a1, a2, a3, a4, a5, a6⟩
theorem qwf_cases {Y : zC} {w o wi : Int32} (h : qwf Y w o wi) : w = 0 ∨ w = 1 ∨ w = 2 ∨ w = 3 ∨ w = 4 := by
  rcases h with h | h | ⟨h | h | h, -⟩
  · exact Or.inl h
  · exact Or.inr (Or.inl h)
  · exact Or.inr (Or.inr (Or.inl h))
  · exact Or.inr (Or.inr (Or.inr (Or.inl h)))
  · exact Or.inr (Or.inr (Or.inr (Or.inr h)))
theorem zHis_add {sg : Nat → Nat} {y : Nat → S0} {D U r : Nat} {ch : Nat → Int32} {R : zC} {x1 x2 x3 x4 x5 : Int32} (h : zHis sg y D U ch R) (hr : r < 16) (hR : qru R = nI r) : zHis sg y D 0 ch (zadd R r x1 x2 x3 x4 x5) := by
  obtain ⟨h1, h2, h3, X, e1, e2, e3⟩ := zHis_trunc h
  have hN : ∀ i : Nat, i ≤ D → ∃ M : Nat, M ≤ r ∧ qru (X (D - i)) = nI M := by
    intro i
    induction i with
    | zero => exact fun _ => ⟨r, Nat.le_refl r, by rw [Nat.sub_zero, ← e1.2.2, hR]⟩
    | succ i ih =>
      intro hi
      obtain ⟨M, hM, e⟩ := ih (by omega)
      obtain ⟨-, -, -, A, B, hAB, hB, qA, qB⟩ := e3 (D - (i + 1)) (by omega)
      rw [show D - (i + 1) + 1 = D - i from by omega, e] at qB
      have := (nI_eq (by omega) (by omega)).mp qB
      exact ⟨A, by omega, qA⟩
  have hN2 : ∀ j : Nat, j ≤ D → ∃ M : Nat, M ≤ r ∧ qru (X j) = nI M := fun j hj => by
    have := hN (D - j) (by omega)
    rw [show D - (D - j) = j from by omega] at this
    exact this
  refine ⟨h1, h2, by omega, fun j => zadd (X j) r x1 x2 x3 x4 x5, ?_, fun j hj => ?_, fun j hj => ?_⟩
  · obtain ⟨f1, f2, f3⟩ := e1
    refine ⟨fun k hk => ?_, f2, f3⟩
    obtain ⟨a1, a2, a3, a4, a5, a6, a7⟩ := f1 k hk
    have u : ∀ (f g : Nat → Int32) (x : Int32), f k = g k → upd f r x k = upd g r x k := fun f g x e => by
      by_cases c : k = r
      · subst c; rw [pk_us, pk_us]
      · rw [pk_un c, pk_un c, e]
    refine ⟨u _ _ _ a1, u _ _ _ a2, u _ _ _ a3, u _ _ _ a4, u _ _ _ a5, u _ _ _ a6, ?_⟩
    show (if k < 16 then _ else _) = (if k < 16 then _ else _)
    rw [if_pos hk, if_pos hk, u _ _ _ a7]
  · obtain ⟨M, hM, e⟩ := hN2 j (by omega)
    exact zadd_rel hr e hM (e2 j hj)
  · obtain ⟨g1, g2, g3, A, B, hAB, hB, qA, qB⟩ := e3 j hj
    obtain ⟨M, hM, e⟩ := hN2 (j + 1) (by omega)
    have hc := qwf_cases g3
    have ho : ¬ ch (5 * j) = 0 → ¬ ch (5 * j) = 1 → ∃ k q : Nat, k < r ∧ q < r ∧ ch (5 * j + 1) = nI k ∧ (ch (5 * j) = 4 → ch (5 * j + 2) = nI q) := fun n0 n1 => by
      rcases g3 with q | q | ⟨-, N, k, q, hN, eN, hk, hq, eo, ew⟩
      · exact absurd q n0
      · exact absurd q n1
      · have : N = M := (nI_eq (by omega) (by omega)).mp (eN.symm.trans e)
        exact ⟨k, q, by omega, by omega, eo, ew⟩
    refine ⟨?_, ?_, g3, A, B, hAB, hB, qA, qB⟩
    · show zadd (X (j + 1)) r x1 x2 x3 x4 x5 = qbec (zadd (X j) r x1 x2 x3 x4 x5) _ _ _ _
      rw [← zadd_bec hr ho hc, ← g1]
    · show zadd (X j) r x1 x2 x3 x4 x5 = qbec (zadd (X (j + 1)) r x1 x2 x3 x4 x5) _ _ _ _
      rw [← zadd_bec hr ho hc, ← g2]
theorem zadd_out {X : zC} {r : Nat} {x1 x2 x3 x4 x5 : Int32} (hr : r < 16) : qout X (zadd X r x1 x2 x3 x4 x5) := fun k hk => by
  refine ⟨pk_un (by omega), pk_un (by omega), pk_un (by omega), pk_un (by omega), pk_un (by omega), pk_un (by omega), ?_⟩
  show (if k < 16 then _ else upd (qov X) r 0 k) = _
  rw [if_neg (by omega), pk_un (by omega)]
section ZADDS
variable {m_facts : Int32} {m_rules : Int32} {m_kind : Nat → Int32} {m_head : Nat → Int32} {m_body : Nat → Int32} {m_except : Nat → Int32} {m_strength : Nat → Int32} {m_off : Nat → Int32} {m_over : Nat → Int32} {m_change : Nat → Int32} {m_done : Int32} {m_undone : Int32} {x1 : Int32} {x2 : Int32} {x3 : Int32} {x4 : Int32} {x5 : Int32}
theorem r_adds67 {kt67 : (Int32) → (Int32) → (Int32) → (Nat → Int32) → (Nat → Int32) → (Nat → Int32) → (Nat → Int32) → (Nat → Int32) → (Nat → Int32) → (Nat → Int32) → (Nat → Int32) → (Int32) → (Int32) → (Int32 × (Int32) × (Int32) × (Nat → Int32) × (Nat → Int32) × (Nat → Int32) × (Nat → Int32) × (Nat → Int32) × (Nat → Int32) × (Nat → Int32) × (Nat → Int32) × (Int32) × (Int32))} {r : Nat} (hr : r < 16) (a b : Int32) (f1 f2 f3 f4 f5 f6 f7 f8 : Nat → Int32) (c d : Int32) : (FX9_adds_67 m_facts m_rules m_kind m_head m_body m_except m_strength m_off m_over m_change m_done m_undone x1 x2 x3 x4 x5) kt67 17 (nI r) 0 a b f1 f2 f3 f4 f5 f6 f7 f8 c d = kt67 (nI r) a b f1 f2 f3 f4 f5 f6 (fun k => if k < 16 then f7 k &&& ((1 <<< (nI r &&& 31)) ^^^ (-1)) else f7 k) f8 c d := by
  obtain ⟨s, hs, e⟩ := zloopI (L := fun n x g => (FX9_adds_67 m_facts m_rules m_kind m_head m_body m_except m_strength m_off m_over m_change m_done m_undone x1 x2 x3 x4 x5) kt67 n (nI r) x a b f1 f2 f3 f4 f5 f6 g f8 c d) (kt := fun g => kt67 (nI r) a b f1 f2 f3 f4 f5 f6 g f8 c d) 16 (I := fun i g => g = fun k => if k < i then f7 k &&& ((1 <<< (nI r &&& 31)) ^^^ (-1)) else f7 k) (by
    intro n g _
    show (FX9_adds_67 m_facts m_rules m_kind m_head m_body m_except m_strength m_off m_over m_change m_done m_undone x1 x2 x3 x4 x5) kt67 (n + 1) (nI r) (nI 16) a b f1 f2 f3 f4 f5 f6 g f8 c d = _
    rw [FX9_adds_67, if_pos (show (16 : Int32) ≤ nI 16 from nI_le (Nat.le_refl 16) (by omega))]) (by
    intro n i g hi h
    subst h
    refine ⟨fun k => if k < i + 1 then f7 k &&& ((1 <<< (nI r &&& 31)) ^^^ (-1)) else f7 k, rfl, ?_⟩
    show (FX9_adds_67 m_facts m_rules m_kind m_head m_body m_except m_strength m_off m_over m_change m_done m_undone x1 x2 x3 x4 x5) kt67 (n + 1) (nI r) (nI i) a b f1 f2 f3 f4 f5 f6 _ f8 c d = (FX9_adds_67 m_facts m_rules m_kind m_head m_body m_except m_strength m_off m_over m_change m_done m_undone x1 x2 x3 x4 x5) kt67 n (nI r) (nI (i + 1)) a b f1 f2 f3 f4 f5 f6 _ f8 c d
    rw [FX9_adds_67, if_neg (show ¬ (16 : Int32) ≤ nI i from nI_ge (b := 16) hi (by omega))]
    simp only [bnd, nI_1, nI_clamp (show i < 2 ^ 31 by omega)]
    congr 1
    funext k
    by_cases e : k = i
    · subst e
      rw [pk_us, if_neg (by omega), if_pos (by omega)]
    · rw [pk_un e]
      by_cases e2 : k < i
      · rw [if_pos e2, if_pos (by omega)]
      · rw [if_neg e2, if_neg (by omega)]) 17 0 f7 (by omega) (by omega) (by funext k; rw [if_neg (by omega)])
  subst hs
  exact e
end ZADDS
def zrok (x1 x2 x3 x4 x5 : Int32) : Prop := ¬ x1 < 0 ∧ ¬ 2 < x1 ∧ ¬ FX8_isLiteral x2 = 0 ∧ ¬ FX8_isStrength x5 = 0 ∧ ¬ FX8_areLiterals x3 = 0 ∧ ¬ FX8_areLiterals x4 = 0 ∧ (x1 = 0 → x4 = 0)
section ZRULE
variable {rc_isSettled : Int32} {c_kind : Nat → Int32} {c_head : Nat → Int32} {c_body : Nat → Int32} {c_excepts : Nat → Int32} {c_power : Nat → Int32} {c_beats : Nat → Int32} {c_facts : Int32} {c_size : Int32} {c_shut : Int32} {hi_sg : Nat → Nat} {hi_y : Nat → S0} {hi_D : Nat} {hi_un : Int32} {x1 : Int32} {x2 : Int32} {x3 : Int32} {x4 : Int32} {x5 : Int32}
theorem rule_bad8 (h : ¬ zrok x1 x2 x3 x4 x5) : (FX8_rule rc_isSettled c_kind c_head c_body c_excepts c_power c_beats c_facts c_size c_shut hi_sg hi_y hi_D hi_un x1 x2 x3 x4 x5) = (-1, rc_isSettled, c_kind, c_head, c_body, c_excepts, c_power, c_beats, c_size, hi_sg, hi_y, hi_D, hi_un) := by
  unfold FX8_rule
  simp only [bnd]
  by_cases p1 : x1 < 0
  · rw [if_pos p1]
  rw [if_neg p1]
  by_cases p2 : 2 < x1
  · rw [if_pos p2]
  rw [if_neg p2]
  by_cases p3 : FX8_isLiteral x2 = 0
  · rw [if_pos p3]
  rw [if_neg p3]
  by_cases p4 : FX8_isStrength x5 = 0
  · rw [if_pos p4]
  rw [if_neg p4]
  by_cases p5 : FX8_areLiterals x3 = 0
  · rw [if_pos p5]
  rw [if_neg p5]
  by_cases p6 : FX8_areLiterals x4 = 0
  · rw [if_pos p6]
  rw [if_neg p6]
  by_cases p7 : x1 = 0
  · rw [if_pos p7]
    by_cases p8 : x4 = 0
    · exact absurd ⟨p1, p2, p3, p4, p5, p6, fun _ => p8⟩ h
    · rw [if_neg p8]
  · exact absurd ⟨p1, p2, p3, p4, p5, p6, fun e => absurd e p7⟩ h
theorem rule_ok8 (h : zrok x1 x2 x3 x4 x5) : (FX8_rule rc_isSettled c_kind c_head c_body c_excepts c_power c_beats c_facts c_size c_shut hi_sg hi_y hi_D hi_un x1 x2 x3 x4 x5) = (FX8_rule_52 rc_isSettled c_kind c_head c_body c_excepts c_power c_beats c_facts c_size c_shut hi_sg hi_y hi_D hi_un x1 x2 x3 x4 x5) rc_isSettled c_kind c_head c_body c_excepts c_power c_beats c_size hi_sg hi_y hi_D hi_un := by
  obtain ⟨p1, p2, p3, p4, p5, p6, p7⟩ := h
  unfold FX8_rule
  simp only [bnd]
  rw [if_neg p1, if_neg p2, if_neg p3, if_neg p4, if_neg p5, if_neg p6]
  by_cases c : x1 = 0
  · rw [if_pos c, if_pos (p7 c)]
  · rw [if_neg c]
end ZRULE
section ZRULE9
variable {m_facts : Int32} {m_rules : Int32} {m_kind : Nat → Int32} {m_head : Nat → Int32} {m_body : Nat → Int32} {m_except : Nat → Int32} {m_strength : Nat → Int32} {m_off : Nat → Int32} {m_over : Nat → Int32} {m_change : Nat → Int32} {m_done : Int32} {m_undone : Int32} {x1 : Int32} {x2 : Int32} {x3 : Int32} {x4 : Int32} {x5 : Int32}
theorem e_in2 (x : Int32) : FX9_in x 0 2 = if x < 0 then 0 else if 2 < x then 0 else 1 := (show FX9_in x 0 2 = if x < 0 then 0 else if 2 < x then 0 else 1 from rfl).trans (Eq.refl _)
theorem rule_bad9 (h : ¬ zrok x1 x2 x3 x4 x5) : (FX9_rule m_facts m_rules m_kind m_head m_body m_except m_strength m_off m_over m_change m_done m_undone x1 x2 x3 x4 x5) = (-1, m_facts, m_rules, m_kind, m_head, m_body, m_except, m_strength, m_off, m_over, m_change, m_done, m_undone) := by
  unfold FX9_rule
  simp only [bnd, e_lit, e_str2, e_are2, e_in2]
  by_cases p1 : x1 < 0
  · rw [if_pos p1, if_pos rfl]
  rw [if_neg p1]
  by_cases p2 : 2 < x1
  · rw [if_pos p2, if_pos rfl]
  rw [if_neg p2, if_neg (show ¬ (1 : Int32) = 0 by decide)]
  by_cases p3 : FX8_isLiteral x2 = 0
  · rw [if_pos p3]
  rw [if_neg p3]
  by_cases p5 : FX8_areLiterals x3 = 0
  · rw [if_pos p5]
  rw [if_neg p5]
  by_cases p6 : FX8_areLiterals x4 = 0
  · rw [if_pos p6]
  rw [if_neg p6]
  by_cases p4 : FX8_isStrength x5 = 0
  · rw [if_pos p4]
  rw [if_neg p4]
  by_cases p7 : x1 = 0
  · rw [if_pos p7]
    by_cases p8 : x4 = 0
    · exact absurd ⟨p1, p2, p3, p4, p5, p6, fun _ => p8⟩ h
    · rw [if_neg p8]
  · exact absurd ⟨p1, p2, p3, p4, p5, p6, fun e => absurd e p7⟩ h
theorem rule_ok9 (h : zrok x1 x2 x3 x4 x5) : (FX9_rule m_facts m_rules m_kind m_head m_body m_except m_strength m_off m_over m_change m_done m_undone x1 x2 x3 x4 x5) = (FX9_rule_59 m_facts m_rules m_kind m_head m_body m_except m_strength m_off m_over m_change m_done m_undone x1 x2 x3 x4 x5) m_facts m_rules m_kind m_head m_body m_except m_strength m_off m_over m_change m_done m_undone := by
  obtain ⟨p1, p2, p3, p4, p5, p6, p7⟩ := h
  unfold FX9_rule
  simp only [bnd, e_lit, e_str2, e_are2, e_in2]
  rw [if_neg p1, if_neg p2, if_neg (show ¬ (1 : Int32) = 0 by decide), if_neg p3, if_neg p5, if_neg p6, if_neg p4]
  by_cases c : x1 = 0
  · rw [if_pos c, if_pos (p7 c)]
  · rw [if_neg c]
end ZRULE9
theorem are_lits {x : Int32} (c : ¬ FX8_areLiterals x = 0) : ∀ q, 20 ≤ q → zb x q = false := by
  obtain ⟨j, hj, rfl⟩ := vp_in_of (zguard9 (k := 1048575) (N := 1048575) rfl (by decide) c) (by decide)
  intro q hq
  have hj : j < 2 ^ 20 := hj
  unfold zb nI
  rw [show (Int32.ofNat j).toBitVec = BitVec.ofNat 32 j from rfl, BitVec.getLsbD_ofNat, Nat.testBit_lt_two_pow (Nat.lt_of_lt_of_le hj (Nat.pow_le_pow_right (by decide) hq)), Bool.and_false]
theorem is_kind {x : Int32} (h1 : ¬ x < 0) (h2 : ¬ 2 < x) : x = 0 ∨ x = 1 ∨ x = 2 := by
  obtain ⟨j, hj, rfl⟩ := nI_of h1
  rw [show (2 : Int32) = nI 2 from rfl, nI_ltI (by decide) hj] at h2
  rcases (show j = 0 ∨ j = 1 ∨ j = 2 by omega) with rfl | rfl | rfl
  · exact Or.inl rfl
  · exact Or.inr (Or.inl rfl)
  · exact Or.inr (Or.inr rfl)
/-- the court with one rule more -/
abbrev s0_all (bc : S0) (kd hd bd ex sg ov : Nat → Int32) (sz : Int32) : S0 := s0_size (s0_beats (s0_power (s0_excepts (s0_body (s0_head (s0_kind bc kd) hd) bd) ex) sg) ov) sz
theorem q_add {bc : S0} {R : zC} {r : Nat} {x1 x2 x3 x4 x5 : Int32} (hr : r < 16) (h1 : qru R = nI r) (hR : zRel bc R) (ok : zrok x1 x2 x3 x4 x5) : zRel (s0_all bc (upd (g0_kind bc) r x1) (upd (g0_head bc) r x2) (upd (g0_body bc) r x3) (upd (g0_excepts bc) r x4) (upd (g0_power bc) r x5) (upd (g0_beats bc) r 0) (nI (r + 1))) (qbec (zadd R r x1 x2 x3 x4 x5) 1 (nI r) 0 1) := by
  obtain ⟨p1, p2, p3, p4, p5, p6, p7⟩ := ok
  have hz := zadd_rel (x1 := x1) (x2 := x2) (x3 := x3) (x4 := x4) (x5 := x5) hr h1 (Nat.le_refl r) hR
  obtain ⟨N, hN, h1', h2, h3, h4, h5, h6, h7, h8, h9⟩ := hz
  obtain rfl : N = r := (nI_eq (by omega) (by omega)).mp (h1'.symm.trans h1)
  rw [qbec_ru]
  have hovN : (if N < 16 then upd (qov R) N 0 N &&& ((1 <<< (nI N &&& 31)) ^^^ (-1)) else upd (qov R) N 0 N) = 0 := by
    rw [if_pos hr, pk_us]
    exact zb_ext (fun i hi => by rw [zb_and, zb_0, Bool.false_and])
  refine ⟨N + 1, by omega, nI_1 N, rfl, h3, h4, fun j hj => ?_, fun j hj => ?_, fun q hq => h7 q (by omega), fun j hj => ?_, fun j hj => ?_⟩
  · show upd (g0_kind bc) N x1 j = upd (qkd R) N x1 j ∧ upd (g0_head bc) N x2 j = upd (qhd R) N x2 j ∧ upd (g0_body bc) N x3 j = upd (qbd R) N x3 j ∧ upd (g0_excepts bc) N x4 j = upd (qex R) N x4 j ∧ upd (g0_power bc) N x5 j = upd (qsg R) N x5 j ∧ upd (g0_beats bc) N 0 j = (if j < 16 then upd (qov R) N 0 j &&& ((1 <<< (nI N &&& 31)) ^^^ (-1)) else upd (qov R) N 0 j) ∧ upd (qof R) N 0 j = zi (zb (g0_shut bc) j)
    by_cases e : j = N
    · subst e
      rw [hovN]
      simp only [pk_us, true_and]
      rw [h7 j (Nat.le_refl j)]
      rfl
    · obtain ⟨a1, a2, a3, a4, a5, a6, a7⟩ := h5 j (by omega)
      have a1 : g0_kind bc j = upd (qkd R) N x1 j := a1
      have a2 : g0_head bc j = upd (qhd R) N x2 j := a2
      have a3 : g0_body bc j = upd (qbd R) N x3 j := a3
      have a4 : g0_excepts bc j = upd (qex R) N x4 j := a4
      have a5 : g0_power bc j = upd (qsg R) N x5 j := a5
      exact ⟨(pk_un e).trans a1, (pk_un e).trans a2, (pk_un e).trans a3, (pk_un e).trans a4, (pk_un e).trans a5, (pk_un e).trans a6, a7⟩
  · show (upd (qkd R) N x1 j = 0 ∨ upd (qkd R) N x1 j = 1 ∨ upd (qkd R) N x1 j = 2) ∧ (∃ k : Nat, k < 20 ∧ upd (qhd R) N x2 j = nI k) ∧ (∀ q, 20 ≤ q → zb (upd (qbd R) N x3 j) q = false) ∧ (∀ q, 20 ≤ q → zb (upd (qex R) N x4 j) q = false) ∧ (∃ k : Nat, k < 10 ∧ upd (qsg R) N x5 j = nI k) ∧ ∀ o, zb (if j < 16 then upd (qov R) N 0 j &&& ((1 <<< (nI N &&& 31)) ^^^ (-1)) else upd (qov R) N 0 j) o = true → o < N + 1 ∧ o ≠ j
    by_cases e : j = N
    · subst e
      rw [hovN]
      simp only [pk_us]
      exact ⟨is_kind p1 p2, is_lit p3, are_lits p5, are_lits p6, is_str p4, fun o h => by rw [zb_0] at h; cases h⟩
    · obtain ⟨a1, a2, a3, a4, a5, a6⟩ := h6 j (by omega)
      exact ⟨a1, a2, a3, a4, a5, fun o h => by obtain ⟨u1, u2⟩ := a6 o h; exact ⟨by omega, u2⟩⟩
  · show vp_in (upd (g0_head bc) N x2 j) 20
    by_cases e : j = N
    · subst e
      rw [pk_us]
      exact zisLit p3
    · rw [pk_un e]
      exact h8 j hj
  · show vp_in (upd (g0_kind bc) N x1 j) 3
    by_cases e : j = N
    · subst e
      rw [pk_us]
      rcases is_kind p1 p2 with q | q | q <;> rw [q]
      · exact vp_in_nI (n := 0) (by decide) (by decide)
      · exact vp_in_nI (n := 1) (by decide) (by decide)
      · exact vp_in_nI (n := 2) (by decide) (by decide)
    · rw [pk_un e]
      exact h9 j hj
