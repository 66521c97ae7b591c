/-! the court that the law makes -/
abbrev zMS : Type := Int32 × (Nat → Int32) × (Nat → Int32) × (Nat → Int32) × (Nat → Int32) × (Nat → Int32) × (Nat → Int32) × Int32 × Int32 × Int32 × (Nat → Nat) × (Nat → S0) × Nat × Int32
theorem zlo_are {v : Int32} (h : zLo v) : ¬ FX8_areLiterals v = 0 := by
  have hm : v.toBitVec.toNat < 2 ^ 20 := Nat.lt_pow_two_of_testBit _ (fun i hi => h i hi)
  have e : v = nI v.toBitVec.toNat := by
    apply Int32.toBitVec_inj.mp
    show v.toBitVec = BitVec.ofNat 32 v.toBitVec.toNat
    rw [BitVec.ofNat_toNat, BitVec.setWidth_eq]
  generalize v.toBitVec.toNat = m at hm e
  subst e
  unfold FX8_areLiterals
  rw [if_neg (nI_pos (by omega)), if_neg (show ¬ (1048575 : Int32) < nI m from by
    rw [show (1048575 : Int32) = nI 1048575 from rfl, nI_ltI (by decide) (by omega)]
    omega)]
  decide
theorem zlo_0 : zLo 0 := fun q _ => zb_0 q
theorem zand31 (x : Int32) : ∃ k : Nat, k < 32 ∧ x &&& 31 = nI k := by
  refine ⟨(x &&& 31).toBitVec.toNat, ?_, ?_⟩
  · have e : (x &&& 31).toBitVec.toNat = x.toBitVec.toNat &&& 31 := by
      rw [Int32.toBitVec_and, BitVec.toNat_and]; rfl
    rw [e]
    exact Nat.lt_succ_of_le Nat.and_le_right
  · apply Int32.toBitVec_inj.mp
    show (x &&& 31).toBitVec = BitVec.ofNat 32 (x &&& 31).toBitVec.toNat
    rw [BitVec.ofNat_toNat, BitVec.setWidth_eq]
theorem zsome_e (x : Int32) : ∃ e : Nat, e < 20 ∧ ((x &&& 31) - (x &&& 31) / 12 * 12 ≤ 5 → (x &&& 31) - (x &&& 31) / 12 * 12 + 0 = nI e) ∧ (¬ (x &&& 31) - (x &&& 31) / 12 * 12 ≤ 5 → (x &&& 31) - (x &&& 31) / 12 * 12 + 4 = nI e) := by
  obtain ⟨k, hk, e⟩ := zand31 x
  have e2 : (x &&& 31) - (x &&& 31) / 12 * 12 = nI (k % 12) := by
    rw [e]
    exact pk_rem (d := 12) (by omega) (by decide) (by decide)
  rw [e2]
  by_cases c : nI (k % 12) ≤ 5
  · exact ⟨k % 12, by omega, fun _ => nI_add (k % 12) 0, fun h => absurd c h⟩
  · exact ⟨k % 12 + 4, by omega, fun h => absurd h c, fun _ => nI_add (k % 12) 4⟩
theorem zlo_bit {v : Int32} {e : Nat} (h : zLo v) (he : e < 20) : zLo (v ||| (1 <<< (nI e &&& 31))) := fun q hq => by
  rw [zb_or, h q hq, zb_one (by omega), decide_eq_false (by omega)]; rfl
theorem m_some {x : Int32} {n : Nat} (hn : n ≤ 2) : zLo (FL_some x (nI n)) := by
  unfold FL_some
  obtain ⟨s, hs, e⟩ := zloopI (L := fun m i s => FL_some_4 x (nI n) (FL_some_52 x (nI n)) m s i) (kt := fun s => s) n (I := fun _ s => zLo s) (by
    intro m s _
    have hun : FL_some_4 x (nI n) (FL_some_52 x (nI n)) (m + 1) s (nI n) = _ := FL_some_4.eq_2 ..
    rw [if_pos (show nI n ≤ nI n from nI_le (Nat.le_refl n) (by omega))] at hun
    exact hun) (by
    intro m i s hi hs
    have hun : FL_some_4 x (nI n) (FL_some_52 x (nI n)) (m + 1) s (nI i) = _ := FL_some_4.eq_2 ..
    rw [if_neg (show ¬ nI n ≤ nI i from nI_ge hi (by omega))] at hun
    unfold FL_some_42 at hun
    rw [nI_1] at hun
    obtain ⟨e, he, e1, e2⟩ := zsome_e ((x.toUInt32 >>> ((5 * nI i).toUInt32 &&& Int32.toUInt32 31)).toInt32)
    show ∃ s' : Int32, _ ∧ FL_some_4 x (nI n) (FL_some_52 x (nI n)) (m + 1) s (nI i) = FL_some_4 x (nI n) (FL_some_52 x (nI n)) m s' (nI (i + 1))
    generalize (x.toUInt32 >>> ((5 * nI i).toUInt32 &&& Int32.toUInt32 31)).toInt32 = z at hun e1 e2
    by_cases c : (z &&& 31) - (z &&& 31) / 12 * 12 ≤ 5
    · rw [if_pos c, e1 c] at hun
      exact ⟨_, zlo_bit hs he, hun⟩
    · rw [if_neg c, e2 c] at hun
      exact ⟨_, zlo_bit hs he, hun⟩) 3 0 0 (by omega) (by omega) zlo_0
  rw [show FL_some_4 x (nI n) (FL_some_52 x (nI n)) 3 0 0 = s from e]
  exact hs
section ZMADE
variable {rc_isSettled c_facts c_size c_shut hi_un x1 : Int32} {c_kind c_head c_body c_excepts c_power c_beats sc : Nat → Int32} {hi_sg : Nat → Nat} {hi_y : Nat → S0} {hi_D : Nat}
theorem m_rule {isS fa sh un a1 a2 a3 a4 a5 : Int32} {kd hd bd ex pw bt : Nat → Int32} {sg : Nat → Nat} {y : Nat → S0} {D k : Nat} (h : zrok a1 a2 a3 a4 a5) (hk : k < 16) : ∃ (sg' : Nat → Nat) (y' : Nat → S0) (D' : Nat) (un' : Int32), FX8_rule isS kd hd bd ex pw bt fa (nI k) sh sg y D un a1 a2 a3 a4 a5 = (nI k, 0, upd kd k a1, upd hd k a2, upd bd k a3, upd ex k a4, upd pw k a5, upd bt k 0, nI (k + 1), sg', y', D', un') ∧ ((∀ j : Nat, j < 13 → sg j < 13) → ∀ j : Nat, j < 13 → sg' j < 13) ∧ (D ≤ 12 → D' ≤ 12) := by
  have hs : FX0_add kd hd bd ex pw bt (nI k) a1 a2 a3 a4 a5 = (1, upd kd k a1, upd hd k a2, upd bd k a3, upd ex k a4, upd pw k a5, upd bt k 0, nI (k + 1)) := by
    unfold FX0_add
    rw [if_pos (show nI k < 16 from nI_lt (b := 16) hk (by decide)), bndx, bndx, bndx, bndx, bndx, bndx, nI_clamp (by omega), nI_1]
  refine ⟨zkS sg D, va_up y (zkS sg D (zkD D)) (zcq (y (zkS sg D (zkD D))) (upd kd k a1) (upd hd k a2) (upd bd k a3) (upd ex k a4) (upd pw k a5) (upd bt k 0) fa (nI (k + 1)) sh), zkD D, 0, ?_, fun h => zkS_lt h, fun h => zkD_le h⟩
  · rw [rule_ok8 h]
    unfold FX8_rule_52
    rw [bndx, hs]
    dsimp only
    rw [if_neg (show ¬ (1 : Int32) = 0 by decide), bndx]
    unfold FX8_changed FX1_keep
    rw [bndx, show nI (k + 1) - 1 = nI k by rw [show (1 : Int32) = nI 1 from rfl, pk_sub (by omega), Nat.add_sub_cancel]]
theorem z_with {x : Int32} {q : Nat} : FX8_withBit x (nI q) 1 = x ||| (1 <<< (nI q &&& 31)) := if_pos rfl
theorem m_off {isS fa sh un : Int32} {kd hd bd ex pw bt : Nat → Int32} {sg : Nat → Nat} {y : Nat → S0} {D k n : Nat} (hk : k < n) (hn : n ≤ 16) (hz : zb sh k = false) : ∃ (sg' : Nat → Nat) (y' : Nat → S0) (D' : Nat) (un' : Int32), FX8_off isS kd hd bd ex pw bt fa (nI n) sh sg y D un (nI k) 1 = ((0 : Int32), (0 : Int32), sh ||| (1 <<< (nI k &&& 31)), sg', y', D', un') ∧ ((∀ j : Nat, j < 13 → sg j < 13) → ∀ j : Nat, j < 13 → sg' j < 13) ∧ (D ≤ 12 → D' ≤ 12) := by
  refine ⟨zkS sg D, va_up y (zkS sg D (zkD D)) (zcq (y (zkS sg D (zkD D))) kd hd bd ex pw bt fa (nI n) (sh ||| (1 <<< (nI k &&& 31)))), zkD D, 0, ?_, fun h => zkS_lt h, fun h => zkD_le h⟩
  · unfold FX8_off FX8_changed FX1_keep
    rw [bndx, q_has hn hk, if_neg (by decide), bndx, if_neg (show ¬ FX8_isYesOrNo 1 = 0 by decide), bndx, bndx, bndx, bndx, z_bit (show k < 32 by omega), hz, z_with]
    rfl
theorem m_fact {isS fa sz sh un : Int32} {kd hd bd ex pw bt : Nat → Int32} {sg : Nat → Nat} {y : Nat → S0} {D q : Nat} (hq : q < 20) (hz : zb fa q = false) : ∃ (sg' : Nat → Nat) (y' : Nat → S0) (D' : Nat) (un' : Int32), FX8_fact isS kd hd bd ex pw bt fa sz sh sg y D un (nI q) 1 = ((0 : Int32), (0 : Int32), fa ||| (1 <<< (nI q &&& 31)), sg', y', D', un') ∧ ((∀ j : Nat, j < 13 → sg j < 13) → ∀ j : Nat, j < 13 → sg' j < 13) ∧ (D ≤ 12 → D' ≤ 12) := by
  refine ⟨zkS sg D, va_up y (zkS sg D (zkD D)) (zcq (y (zkS sg D (zkD D))) kd hd bd ex pw bt (fa ||| (1 <<< (nI q &&& 31))) sz sh), zkD D, 0, ?_, fun h => zkS_lt h, fun h => zkD_le h⟩
  · unfold FX8_fact FX8_changed FX1_keep
    rw [bndx, if_neg (q_lit hq), bndx, if_neg (show ¬ FX8_isYesOrNo 1 = 0 by decide), bndx, bndx, bndx, bndx, z_bit (show q < 32 by omega), hz, z_with]
    rfl
/-- pairs tell of rules there are, of two, one way alone -/
def zBt (N : Nat) (bt : Nat → Int32) : Prop := (∀ r : Nat, r < N → ∀ o, zb (bt r) o = true → o < N ∧ o ≠ r) ∧ ∀ r k : Nat, r < N → k < N → zb (bt r) k = true → zb (bt k) r = true → False
theorem m_over {fa sh un : Int32} {kd hd bd ex pw bt : Nat → Int32} {sg : Nat → Nat} {y : Nat → S0} {D a b N : Nat} (hN : N ≤ 16) (ha : a < N) (hb : b < N) (hB : zBt N bt) : ∃ (ans : Int32) (bt' : Nat → Int32) (sg' : Nat → Nat) (y' : Nat → S0) (D' : Nat) (un' : Int32), FX8_over 0 kd hd bd ex pw bt fa (nI N) sh sg y D un (nI a) (nI b) 1 = (ans, 0, bt', sg', y', D', un') ∧ ((a = b ∧ ans = -1) ∨ (¬ a = b ∧ (ans = 0 ∨ ans = 1 ∨ ans = -5))) ∧ zBt N bt' ∧ ((∀ j : Nat, j < 13 → sg j < 13) → ∀ j : Nat, j < 13 → sg' j < 13) ∧ (D ≤ 12 → D' ≤ 12) := by
  have hu : FX8_over 0 kd hd bd ex pw bt fa (nI N) sh sg y D un (nI a) (nI b) 1 = _ := FX8_over.eq_1 ..
  rw [bndx, q_has hN ha, if_neg (by decide), bndx, q_has hN hb, if_neg (by decide), bndx, if_neg (show ¬ FX8_isYesOrNo 1 = 0 by decide), if_pos (show (1 : Int32) = 1 from rfl), bndx, nI_clamp (show b < 2 ^ 31 by omega), zh8 (show a < 32 by omega)] at hu
  by_cases hab : a = b
  · rw [if_pos (show nI a = nI b by rw [hab])] at hu
    exact ⟨_, _, _, _, _, _, hu, Or.inl ⟨hab, rfl⟩, hB, fun h => h, fun h => h⟩
  · rw [if_neg (fun e => hab ((nI_eq (by omega) (by omega)).mp e))] at hu
    cases hz : zb (bt b) a
    · rw [hz, if_pos zi_f] at hu
      unfold FX8_over_60 FX8_changed FX1_keep at hu
      rw [bndx, bndx, bndx, bndx, nI_clamp (show a < 2 ^ 31 by omega), z_bit (show b < 32 by omega), z_with] at hu
      have hbit : ∀ r o : Nat, zb (upd bt a (bt a ||| (1 <<< (nI b &&& 31))) r) o = true ↔ zb (bt r) o = true ∨ (r = a ∧ o = b) := fun r o => by
        by_cases c : r = a
        · subst c
          rw [pk_us, zb_or, zb_one (by omega), Bool.or_eq_true, decide_eq_true_iff]
          exact ⟨fun z => z.imp id (fun e => ⟨rfl, e⟩), fun z => z.imp id (fun e => e.2)⟩
        · rw [pk_un c]
          exact ⟨Or.inl, fun z => z.elim id (fun e => absurd e.1 c)⟩
      refine ⟨_, _, _, _, _, _, hu, Or.inr ⟨hab, ?_⟩, ⟨fun r hr o ho => ?_, fun r k hr hk h1 h2 => ?_⟩, fun h => zkS_lt h, fun h => zkD_le h⟩
      · cases zb (bt a) b
        · exact Or.inl rfl
        · exact Or.inr (Or.inl rfl)
      · rcases (hbit r o).mp ho with z | ⟨z1, z2⟩
        · exact hB.1 r hr o z
        · rw [z1, z2]; exact ⟨hb, fun e => hab e.symm⟩
      · rcases (hbit r k).mp h1 with z | ⟨z1, z2⟩
        · rcases (hbit k r).mp h2 with w | ⟨w1, w2⟩
          · exact hB.2 r k hr hk z w
          · rw [w1, w2] at z
            rw [hz] at z; cases z
        · rcases (hbit k r).mp h2 with w | ⟨w1, w2⟩
          · rw [z1, z2] at w
            rw [hz] at w; cases w
          · exact hab (z1.symm.trans w2)
    · rw [hz, if_neg (show ¬ zi true = 0 by decide)] at hu
      exact ⟨_, _, _, _, _, _, hu, Or.inr ⟨hab, Or.inr (Or.inr rfl)⟩, hB, fun h => h, fun h => h⟩
/-- what is made so far: k rules, no pairs, no facts -/
def zM1 (k : Nat) (s : zMS) : Prop := s.1 = 0 ∧ (∀ r : Nat, r < k → (s.2.1 r = 0 ∨ s.2.1 r = 1 ∨ s.2.1 r = 2) ∧ (∃ j : Nat, j < 20 ∧ s.2.2.1 r = nI j) ∧ zLo (s.2.2.2.1 r) ∧ zLo (s.2.2.2.2.1 r) ∧ (∃ j : Nat, j < 10 ∧ s.2.2.2.2.2.1 r = nI j) ∧ s.2.2.2.2.2.2.1 r = 0) ∧ s.2.2.2.2.2.2.2.1 = 0 ∧ s.2.2.2.2.2.2.2.2.1 = nI k ∧ (∀ q, k ≤ q → zb s.2.2.2.2.2.2.2.2.2.1 q = false) ∧ (∀ r : Nat, r < 16 → vp_in (s.2.2.1 r) 20) ∧ (∀ j : Nat, j < 13 → s.2.2.2.2.2.2.2.2.2.2.1 j < 13) ∧ s.2.2.2.2.2.2.2.2.2.2.2.2.1 ≤ 12
/-- what is made behind the rules: pairs, and facts of the first atoms -/
def zM2 (N i : Nat) (s : zMS) : Prop := s.1 = 0 ∧ (∀ r : Nat, r < N → (s.2.1 r = 0 ∨ s.2.1 r = 1 ∨ s.2.1 r = 2) ∧ (∃ j : Nat, j < 20 ∧ s.2.2.1 r = nI j) ∧ zLo (s.2.2.2.1 r) ∧ zLo (s.2.2.2.2.1 r) ∧ (∃ j : Nat, j < 10 ∧ s.2.2.2.2.2.1 r = nI j)) ∧ zBt N s.2.2.2.2.2.2.1 ∧ (∀ q, zb s.2.2.2.2.2.2.2.1 q = true → q < 20 ∧ (q < i ∨ (10 ≤ q ∧ q < 10 + i))) ∧ s.2.2.2.2.2.2.2.2.1 = nI N ∧ (∀ r : Nat, r < 16 → vp_in (s.2.2.1 r) 20) ∧ (∀ j : Nat, j < 13 → s.2.2.2.2.2.2.2.2.2.2.1 j < 13) ∧ s.2.2.2.2.2.2.2.2.2.2.2.2.1 ≤ 12
theorem zstr {p : Nat} (h : p < 10) : ¬ FX8_isStrength (nI p) = 0 := by
  have key : ∀ p : Nat, p < 10 → ¬ FX8_isStrength (nI p) = 0 := by decide +kernel
  exact key p h
theorem zrem (x s d : Int32) {k m : Nat} (hk : 1 ≤ k) (hs : ((s.toUInt32 &&& Int32.toUInt32 31).toBitVec % 32).toNat = k) (hd : d = nI m) (h0 : 0 < m) (h1 : m < 2 ^ 31) : ∃ j : Nat, j < m ∧ (x.toUInt32 >>> (s.toUInt32 &&& Int32.toUInt32 31)).toInt32 - (x.toUInt32 >>> (s.toUInt32 &&& Int32.toUInt32 31)).toInt32 / d * d = nI j := by
  obtain ⟨j, hj, e⟩ := zush (x := x) hk hs
  rw [e, hd]
  exact ⟨j % m, Nat.mod_lt _ h0, pk_rem hj h0 h1⟩
theorem m_112 {rc10 : (Int32) → (Int32) → (Nat → Int32) → (Nat → Int32) → (Nat → Int32) → (Nat → Int32) → (Nat → Int32) → (Nat → Int32) → (Int32) → (Int32) → (Int32) → (Nat → Nat) → (Nat → S0) → (Nat) → (Int32) → (Int32 × (Int32) × (Nat → Int32) × (Nat → Int32) × (Nat → Int32) × (Nat → Int32) × (Nat → Int32) × (Nat → Int32) × (Int32) × (Int32) × (Int32) × (Nat → Nat) × (Nat → S0) × (Nat) × (Int32))} {kt10 : (Int32) → (Nat → Int32) → (Nat → Int32) → (Nat → Int32) → (Nat → Int32) → (Nat → Int32) → (Nat → Int32) → (Int32) → (Int32) → (Int32) → (Nat → Nat) → (Nat → S0) → (Nat) → (Int32) → (Int32 × (Int32) × (Nat → Int32) × (Nat → Int32) × (Nat → Int32) × (Nat → Int32) × (Nat → Int32) × (Nat → Int32) × (Int32) × (Int32) × (Int32) × (Nat → Nat) × (Nat → S0) × (Nat) × (Int32))} {k a2 : Nat} {x4 x5 a1 a4 : Int32} {s : zMS} (hk : k < 10) (h : zM1 k s) (hkd : a1 = 0 ∨ a1 = 1 ∨ a1 = 2) (h2 : a2 < 20) (h4 : zLo a4) (h04 : a1 = 0 → a4 = 0) : ∃ s' : zMS, zM1 (k + 1) s' ∧ (FL_made_1_112 rc_isSettled c_kind c_head c_body c_excepts c_power c_beats c_facts c_size c_shut hi_sg hi_y hi_D hi_un x1 sc) rc10 kt10 (nI k) x4 x5 a1 (nI a2) a4 s.1 s.2.1 s.2.2.1 s.2.2.2.1 s.2.2.2.2.1 s.2.2.2.2.2.1 s.2.2.2.2.2.2.1 s.2.2.2.2.2.2.2.1 s.2.2.2.2.2.2.2.2.1 s.2.2.2.2.2.2.2.2.2.1 s.2.2.2.2.2.2.2.2.2.2.1 s.2.2.2.2.2.2.2.2.2.2.2.1 s.2.2.2.2.2.2.2.2.2.2.2.2.1 s.2.2.2.2.2.2.2.2.2.2.2.2.2 = rc10 (nI (k + 1)) s'.1 s'.2.1 s'.2.2.1 s'.2.2.2.1 s'.2.2.2.2.1 s'.2.2.2.2.2.1 s'.2.2.2.2.2.2.1 s'.2.2.2.2.2.2.2.1 s'.2.2.2.2.2.2.2.2.1 s'.2.2.2.2.2.2.2.2.2.1 s'.2.2.2.2.2.2.2.2.2.2.1 s'.2.2.2.2.2.2.2.2.2.2.2.1 s'.2.2.2.2.2.2.2.2.2.2.2.2.1 s'.2.2.2.2.2.2.2.2.2.2.2.2.2 := by
  obtain ⟨isS, kd, hd, bd, ex, pw, bt, fa, sz, sh, sg, y, D, un⟩ := s
  obtain ⟨c1, c2, c3, c4, c5, c6, c7, c8⟩ := h
  dsimp only at c1 c2 c3 c4 c5 c6 c7 c8 ⊢
  subst c1 c3 c4
  obtain ⟨j3, hj3, e3⟩ := zrem x4 11 3 (k := 11) (m := 3) (by decide) (by decide) rfl (by decide) (by decide)
  obtain ⟨j4, hj4, e4⟩ := zrem x4 14 4 (k := 14) (m := 4) (by decide) (by decide) rfl (by decide) (by decide)
  unfold FL_made_1_112
  rw [bndx, e3, e4]
  have hb := m_some (x := x5) (n := j3) (by omega)
  generalize FL_some x5 (nI j3) = a3 at hb
  have hr : zrok a1 (nI a2) a3 a4 (nI j4) := ⟨by rcases hkd with z | z | z <;> rw [z] <;> decide, by rcases hkd with z | z | z <;> rw [z] <;> decide, q_lit h2, zstr (by omega), zlo_are hb, zlo_are h4, h04⟩
  obtain ⟨sg1, y1, D1, un1, er, hs1, hD1⟩ := m_rule (isS := 0) (fa := 0) (sh := sh) (un := un) (kd := kd) (hd := hd) (bd := bd) (ex := ex) (pw := pw) (bt := bt) (sg := sg) (y := y) (D := D) hr (show k < 16 by omega)
  rw [bndx, er]
  dsimp only
  rw [if_pos rfl]
  have hrules : ∀ r : Nat, r < k + 1 → (upd kd k a1 r = 0 ∨ upd kd k a1 r = 1 ∨ upd kd k a1 r = 2) ∧ (∃ j : Nat, j < 20 ∧ upd hd k (nI a2) r = nI j) ∧ zLo (upd bd k a3 r) ∧ zLo (upd ex k a4 r) ∧ (∃ j : Nat, j < 10 ∧ upd pw k (nI j4) r = nI j) ∧ upd bt k 0 r = 0 := fun r hr => by
    by_cases c : r = k
    · subst c
      rw [pk_us, pk_us, pk_us, pk_us, pk_us, pk_us]
      exact ⟨hkd, ⟨a2, h2, rfl⟩, hb, h4, ⟨j4, by omega, rfl⟩, rfl⟩
    · rw [pk_un c, pk_un c, pk_un c, pk_un c, pk_un c, pk_un c]
      exact c2 r (by omega)
  have hheads : ∀ r : Nat, r < 16 → vp_in (upd hd k (nI a2) r) 20 := fun r hr => by
    by_cases c : r = k
    · subst c; rw [pk_us]; exact vp_in_nI h2 (by decide)
    · rw [pk_un c]; exact c6 r hr
  by_cases c9 : (x4.toUInt32 >>> ((20 : Int32).toUInt32 &&& Int32.toUInt32 31)).toInt32 - (x4.toUInt32 >>> ((20 : Int32).toUInt32 &&& Int32.toUInt32 31)).toInt32 / 9 * 9 = 0
  · rw [if_pos c9]
    obtain ⟨sg2, y2, D2, un2, eo, hs2, hD2⟩ := m_off (isS := 0) (fa := 0) (sh := sh) (un := un1) (kd := upd kd k a1) (hd := upd hd k (nI a2)) (bd := upd bd k a3) (ex := upd ex k a4) (pw := upd pw k (nI j4)) (bt := upd bt k 0) (sg := sg1) (y := y1) (D := D1) (Nat.lt_succ_self k) (show k + 1 ≤ 16 by omega) (c5 k (Nat.le_refl k))
    rw [bndx, eo]
    dsimp only
    rw [if_pos rfl, nI_1]
    refine ⟨(0, upd kd k a1, upd hd k (nI a2), upd bd k a3, upd ex k a4, upd pw k (nI j4), upd bt k 0, 0, nI (k + 1), sh ||| (1 <<< (nI k &&& 31)), sg2, y2, D2, un2), ⟨rfl, hrules, rfl, rfl, fun q hq => ?_, hheads, hs2 (hs1 c7), hD2 (hD1 c8)⟩, rfl⟩
    show zb (sh ||| (1 <<< (nI k &&& 31))) q = false
    rw [zb_or, c5 q (by omega), zb_one (by omega), decide_eq_false (by omega)]; rfl
  · rw [if_neg c9, nI_1]
    exact ⟨(0, upd kd k a1, upd hd k (nI a2), upd bd k a3, upd ex k a4, upd pw k (nI j4), upd bt k 0, 0, nI (k + 1), sh, sg1, y1, D1, un1), ⟨rfl, hrules, rfl, rfl, fun q hq => c5 q (by omega), hheads, hs1 c7, hD1 c8⟩, rfl⟩
theorem m_55 {rc10 : (Int32) → (Int32) → (Nat → Int32) → (Nat → Int32) → (Nat → Int32) → (Nat → Int32) → (Nat → Int32) → (Nat → Int32) → (Int32) → (Int32) → (Int32) → (Nat → Nat) → (Nat → S0) → (Nat) → (Int32) → (Int32 × (Int32) × (Nat → Int32) × (Nat → Int32) × (Nat → Int32) × (Nat → Int32) × (Nat → Int32) × (Nat → Int32) × (Int32) × (Int32) × (Int32) × (Nat → Nat) × (Nat → S0) × (Nat) × (Int32))} {kt10 : (Int32) → (Nat → Int32) → (Nat → Int32) → (Nat → Int32) → (Nat → Int32) → (Nat → Int32) → (Nat → Int32) → (Int32) → (Int32) → (Int32) → (Nat → Nat) → (Nat → S0) → (Nat) → (Int32) → (Int32 × (Int32) × (Nat → Int32) × (Nat → Int32) × (Nat → Int32) × (Nat → Int32) × (Nat → Int32) × (Nat → Int32) × (Int32) × (Int32) × (Int32) × (Nat → Nat) × (Nat → S0) × (Nat) × (Int32))} {k : Nat} {x4 x5 a1 : Int32} {s : zMS} (hk : k < 10) (h : zM1 k s) (hkd : a1 = 0 ∨ a1 = 1 ∨ a1 = 2) : ∃ s' : zMS, zM1 (k + 1) s' ∧ (FL_made_1_55 rc_isSettled c_kind c_head c_body c_excepts c_power c_beats c_facts c_size c_shut hi_sg hi_y hi_D hi_un x1 sc) rc10 kt10 (nI k) x4 x5 a1 s.1 s.2.1 s.2.2.1 s.2.2.2.1 s.2.2.2.2.1 s.2.2.2.2.2.1 s.2.2.2.2.2.2.1 s.2.2.2.2.2.2.2.1 s.2.2.2.2.2.2.2.2.1 s.2.2.2.2.2.2.2.2.2.1 s.2.2.2.2.2.2.2.2.2.2.1 s.2.2.2.2.2.2.2.2.2.2.2.1 s.2.2.2.2.2.2.2.2.2.2.2.2.1 s.2.2.2.2.2.2.2.2.2.2.2.2.2 = rc10 (nI (k + 1)) s'.1 s'.2.1 s'.2.2.1 s'.2.2.2.1 s'.2.2.2.2.1 s'.2.2.2.2.2.1 s'.2.2.2.2.2.2.1 s'.2.2.2.2.2.2.2.1 s'.2.2.2.2.2.2.2.2.1 s'.2.2.2.2.2.2.2.2.2.1 s'.2.2.2.2.2.2.2.2.2.2.1 s'.2.2.2.2.2.2.2.2.2.2.2.1 s'.2.2.2.2.2.2.2.2.2.2.2.2.1 s'.2.2.2.2.2.2.2.2.2.2.2.2.2 := by
  obtain ⟨j, hj, e⟩ := zrem x4 3 6 (k := 3) (m := 6) (by decide) (by decide) rfl (by decide) (by decide)
  have key : ∀ a2 : Nat, a2 < 20 → ∀ u v : Int32, u + v = nI a2 → ∃ s' : zMS, zM1 (k + 1) s' ∧ (FL_made_1_81 rc_isSettled c_kind c_head c_body c_excepts c_power c_beats c_facts c_size c_shut hi_sg hi_y hi_D hi_un x1 sc) rc10 kt10 (nI k) x4 x5 a1 u v s.1 s.2.1 s.2.2.1 s.2.2.2.1 s.2.2.2.2.1 s.2.2.2.2.2.1 s.2.2.2.2.2.2.1 s.2.2.2.2.2.2.2.1 s.2.2.2.2.2.2.2.2.1 s.2.2.2.2.2.2.2.2.2.1 s.2.2.2.2.2.2.2.2.2.2.1 s.2.2.2.2.2.2.2.2.2.2.2.1 s.2.2.2.2.2.2.2.2.2.2.2.2.1 s.2.2.2.2.2.2.2.2.2.2.2.2.2 = rc10 (nI (k + 1)) s'.1 s'.2.1 s'.2.2.1 s'.2.2.2.1 s'.2.2.2.2.1 s'.2.2.2.2.2.1 s'.2.2.2.2.2.2.1 s'.2.2.2.2.2.2.2.1 s'.2.2.2.2.2.2.2.2.1 s'.2.2.2.2.2.2.2.2.2.1 s'.2.2.2.2.2.2.2.2.2.2.1 s'.2.2.2.2.2.2.2.2.2.2.2.1 s'.2.2.2.2.2.2.2.2.2.2.2.2.1 s'.2.2.2.2.2.2.2.2.2.2.2.2.2 := by
    intro a2 h2 u v huv
    unfold FL_made_1_81 FL_made_1_99
    rw [huv]
    by_cases c : a1 = 0
    · rw [if_pos c]
      exact m_112 hk h hkd h2 zlo_0 (fun _ => rfl)
    · rw [if_neg c]
      split
      · rw [bndx]
        exact m_112 hk h hkd h2 (m_some (n := 1) (by decide)) (fun z => absurd z c)
      · exact m_112 hk h hkd h2 zlo_0 (fun _ => rfl)
  unfold FL_made_1_55
  rw [e]
  split
  · exact key (j + 10) (by omega) (nI j) 10 (nI_add j 10)
  · exact key j (by omega) (nI j) 0 (nI_add j 0)
theorem m_10 {kt10 : (Int32) → (Nat → Int32) → (Nat → Int32) → (Nat → Int32) → (Nat → Int32) → (Nat → Int32) → (Nat → Int32) → (Int32) → (Int32) → (Int32) → (Nat → Nat) → (Nat → S0) → (Nat) → (Int32) → (Int32 × (Int32) × (Nat → Int32) × (Nat → Int32) × (Nat → Int32) × (Nat → Int32) × (Nat → Int32) × (Nat → Int32) × (Int32) × (Int32) × (Int32) × (Nat → Nat) × (Nat → S0) × (Nat) × (Int32))} {N : Nat} (hN : N ≤ 10) {s0 : zMS} (h : zM1 0 s0) : ∃ s : zMS, zM1 N s ∧ (FL_made_1_10 rc_isSettled c_kind c_head c_body c_excepts c_power c_beats c_facts c_size c_shut hi_sg hi_y hi_D hi_un (nI N) sc) kt10 11 0 s0.1 s0.2.1 s0.2.2.1 s0.2.2.2.1 s0.2.2.2.2.1 s0.2.2.2.2.2.1 s0.2.2.2.2.2.2.1 s0.2.2.2.2.2.2.2.1 s0.2.2.2.2.2.2.2.2.1 s0.2.2.2.2.2.2.2.2.2.1 s0.2.2.2.2.2.2.2.2.2.2.1 s0.2.2.2.2.2.2.2.2.2.2.2.1 s0.2.2.2.2.2.2.2.2.2.2.2.2.1 s0.2.2.2.2.2.2.2.2.2.2.2.2.2 = kt10 s.1 s.2.1 s.2.2.1 s.2.2.2.1 s.2.2.2.2.1 s.2.2.2.2.2.1 s.2.2.2.2.2.2.1 s.2.2.2.2.2.2.2.1 s.2.2.2.2.2.2.2.2.1 s.2.2.2.2.2.2.2.2.2.1 s.2.2.2.2.2.2.2.2.2.2.1 s.2.2.2.2.2.2.2.2.2.2.2.1 s.2.2.2.2.2.2.2.2.2.2.2.2.1 s.2.2.2.2.2.2.2.2.2.2.2.2.2 := by
  exact zloopI (S := zMS) (L := fun n i s => (FL_made_1_10 rc_isSettled c_kind c_head c_body c_excepts c_power c_beats c_facts c_size c_shut hi_sg hi_y hi_D hi_un (nI N) sc) kt10 n i s.1 s.2.1 s.2.2.1 s.2.2.2.1 s.2.2.2.2.1 s.2.2.2.2.2.1 s.2.2.2.2.2.2.1 s.2.2.2.2.2.2.2.1 s.2.2.2.2.2.2.2.2.1 s.2.2.2.2.2.2.2.2.2.1 s.2.2.2.2.2.2.2.2.2.2.1 s.2.2.2.2.2.2.2.2.2.2.2.1 s.2.2.2.2.2.2.2.2.2.2.2.2.1 s.2.2.2.2.2.2.2.2.2.2.2.2.2) (kt := fun s => kt10 s.1 s.2.1 s.2.2.1 s.2.2.2.1 s.2.2.2.2.1 s.2.2.2.2.2.1 s.2.2.2.2.2.2.1 s.2.2.2.2.2.2.2.1 s.2.2.2.2.2.2.2.2.1 s.2.2.2.2.2.2.2.2.2.1 s.2.2.2.2.2.2.2.2.2.2.1 s.2.2.2.2.2.2.2.2.2.2.2.1 s.2.2.2.2.2.2.2.2.2.2.2.2.1 s.2.2.2.2.2.2.2.2.2.2.2.2.2) N (I := fun i s => zM1 i s) (by
    intro n s _
    have hun : (FL_made_1_10 rc_isSettled c_kind c_head c_body c_excepts c_power c_beats c_facts c_size c_shut hi_sg hi_y hi_D hi_un (nI N) sc) kt10 (n + 1) (nI N) s.1 s.2.1 s.2.2.1 s.2.2.2.1 s.2.2.2.2.1 s.2.2.2.2.2.1 s.2.2.2.2.2.2.1 s.2.2.2.2.2.2.2.1 s.2.2.2.2.2.2.2.2.1 s.2.2.2.2.2.2.2.2.2.1 s.2.2.2.2.2.2.2.2.2.2.1 s.2.2.2.2.2.2.2.2.2.2.2.1 s.2.2.2.2.2.2.2.2.2.2.2.2.1 s.2.2.2.2.2.2.2.2.2.2.2.2.2 = _ := FL_made_1_10.eq_2 ..
    rw [if_pos (show nI N ≤ nI N from nI_le (Nat.le_refl N) (by omega))] at hun
    exact hun) (by
    intro n k s hk hs
    have hun : (FL_made_1_10 rc_isSettled c_kind c_head c_body c_excepts c_power c_beats c_facts c_size c_shut hi_sg hi_y hi_D hi_un (nI N) sc) kt10 (n + 1) (nI k) s.1 s.2.1 s.2.2.1 s.2.2.2.1 s.2.2.2.2.1 s.2.2.2.2.2.1 s.2.2.2.2.2.2.1 s.2.2.2.2.2.2.2.1 s.2.2.2.2.2.2.2.2.1 s.2.2.2.2.2.2.2.2.2.1 s.2.2.2.2.2.2.2.2.2.2.1 s.2.2.2.2.2.2.2.2.2.2.2.1 s.2.2.2.2.2.2.2.2.2.2.2.2.1 s.2.2.2.2.2.2.2.2.2.2.2.2.2 = _ := FL_made_1_10.eq_2 ..
    rw [if_neg (show ¬ nI N ≤ nI k from nI_ge hk (by omega))] at hun
    obtain ⟨j, hj, e⟩ := zush (x := sc (2 * nI k).toNatClampNeg) (s := 1) (k := 1) (by decide) (by decide)
    generalize (sc (2 * nI k).toNatClampNeg) = u at hun e
    rw [e] at hun
    have e4 : nI j - nI j / 4 * 4 = nI (j % 4) := pk_rem (d := 4) hj (by decide) (by decide)
    rw [e4] at hun
    have hkd : ∀ a : Int32, (nI (j % 4) = 3 ∧ a = 1) ∨ (¬ nI (j % 4) = 3 ∧ a = nI (j % 4)) → a = 0 ∨ a = 1 ∨ a = 2 := fun a ha => by
      rcases ha with ⟨_, z⟩ | ⟨z1, z⟩
      · exact Or.inr (Or.inl z)
      · rcases (show j % 4 = 0 ∨ j % 4 = 1 ∨ j % 4 = 2 ∨ j % 4 = 3 by omega) with w | w | w | w
        · exact Or.inl (by rw [z, w]; rfl)
        · exact Or.inr (Or.inl (by rw [z, w]; rfl))
        · exact Or.inr (Or.inr (by rw [z, w]; rfl))
        · exact absurd (by rw [w]; rfl) z1
    show ∃ s' : zMS, _ ∧ (FL_made_1_10 rc_isSettled c_kind c_head c_body c_excepts c_power c_beats c_facts c_size c_shut hi_sg hi_y hi_D hi_un (nI N) sc) kt10 (n + 1) (nI k) s.1 s.2.1 s.2.2.1 s.2.2.2.1 s.2.2.2.2.1 s.2.2.2.2.2.1 s.2.2.2.2.2.2.1 s.2.2.2.2.2.2.2.1 s.2.2.2.2.2.2.2.2.1 s.2.2.2.2.2.2.2.2.2.1 s.2.2.2.2.2.2.2.2.2.2.1 s.2.2.2.2.2.2.2.2.2.2.2.1 s.2.2.2.2.2.2.2.2.2.2.2.2.1 s.2.2.2.2.2.2.2.2.2.2.2.2.2 = (FL_made_1_10 rc_isSettled c_kind c_head c_body c_excepts c_power c_beats c_facts c_size c_shut hi_sg hi_y hi_D hi_un (nI N) sc) kt10 n (nI (k + 1)) s'.1 s'.2.1 s'.2.2.1 s'.2.2.2.1 s'.2.2.2.2.1 s'.2.2.2.2.2.1 s'.2.2.2.2.2.2.1 s'.2.2.2.2.2.2.2.1 s'.2.2.2.2.2.2.2.2.1 s'.2.2.2.2.2.2.2.2.2.1 s'.2.2.2.2.2.2.2.2.2.2.1 s'.2.2.2.2.2.2.2.2.2.2.2.1 s'.2.2.2.2.2.2.2.2.2.2.2.2.1 s'.2.2.2.2.2.2.2.2.2.2.2.2.2
    by_cases c : nI (j % 4) = 3
    · rw [if_pos c] at hun
      rw [hun]
      exact m_55 (by omega) hs (Or.inr (Or.inl rfl))
    · rw [if_neg c] at hun
      rw [hun]
      exact m_55 (by omega) hs (hkd _ (Or.inr ⟨c, rfl⟩))) 11 0 s0 (by omega) (by omega) h
theorem m_179 {kt179 : (Int32) → (Nat → Int32) → (Nat → Int32) → (Nat → Int32) → (Nat → Int32) → (Nat → Int32) → (Nat → Int32) → (Int32) → (Int32) → (Int32) → (Nat → Nat) → (Nat → S0) → (Nat) → (Int32) → (Int32 × (Int32) × (Nat → Int32) × (Nat → Int32) × (Nat → Int32) × (Nat → Int32) × (Nat → Int32) × (Nat → Int32) × (Int32) × (Int32) × (Int32) × (Nat → Nat) × (Nat → S0) × (Nat) × (Int32))} {N : Nat} (hN : N ≤ 10) {s0 : zMS} (h : zM2 N 0 s0) : ∃ s : zMS, zM2 N 0 s ∧ (FL_made_1_179 rc_isSettled c_kind c_head c_body c_excepts c_power c_beats c_facts c_size c_shut hi_sg hi_y hi_D hi_un (nI N) sc) kt179 4 0 s0.1 s0.2.1 s0.2.2.1 s0.2.2.2.1 s0.2.2.2.2.1 s0.2.2.2.2.2.1 s0.2.2.2.2.2.2.1 s0.2.2.2.2.2.2.2.1 s0.2.2.2.2.2.2.2.2.1 s0.2.2.2.2.2.2.2.2.2.1 s0.2.2.2.2.2.2.2.2.2.2.1 s0.2.2.2.2.2.2.2.2.2.2.2.1 s0.2.2.2.2.2.2.2.2.2.2.2.2.1 s0.2.2.2.2.2.2.2.2.2.2.2.2.2 = kt179 s.1 s.2.1 s.2.2.1 s.2.2.2.1 s.2.2.2.2.1 s.2.2.2.2.2.1 s.2.2.2.2.2.2.1 s.2.2.2.2.2.2.2.1 s.2.2.2.2.2.2.2.2.1 s.2.2.2.2.2.2.2.2.2.1 s.2.2.2.2.2.2.2.2.2.2.1 s.2.2.2.2.2.2.2.2.2.2.2.1 s.2.2.2.2.2.2.2.2.2.2.2.2.1 s.2.2.2.2.2.2.2.2.2.2.2.2.2 := by
  by_cases hN1 : nI N ≤ 1
  · refine ⟨s0, h, ?_⟩
    have hun : (FL_made_1_179 rc_isSettled c_kind c_head c_body c_excepts c_power c_beats c_facts c_size c_shut hi_sg hi_y hi_D hi_un (nI N) sc) kt179 (3 + 1) (nI 0) s0.1 s0.2.1 s0.2.2.1 s0.2.2.2.1 s0.2.2.2.2.1 s0.2.2.2.2.2.1 s0.2.2.2.2.2.2.1 s0.2.2.2.2.2.2.2.1 s0.2.2.2.2.2.2.2.2.1 s0.2.2.2.2.2.2.2.2.2.1 s0.2.2.2.2.2.2.2.2.2.2.1 s0.2.2.2.2.2.2.2.2.2.2.2.1 s0.2.2.2.2.2.2.2.2.2.2.2.2.1 s0.2.2.2.2.2.2.2.2.2.2.2.2.2 = _ := FL_made_1_179.eq_2 ..
    rw [if_neg (show ¬ (3 : Int32) ≤ nI 0 by decide), if_pos hN1] at hun
    exact hun
  have hN2 : 1 < N := by
    rw [show (1 : Int32) = nI 1 from rfl, nI_leI (by omega) (by decide)] at hN1
    omega
  exact zloopI (S := zMS) (L := fun n i s => (FL_made_1_179 rc_isSettled c_kind c_head c_body c_excepts c_power c_beats c_facts c_size c_shut hi_sg hi_y hi_D hi_un (nI N) sc) kt179 n i s.1 s.2.1 s.2.2.1 s.2.2.2.1 s.2.2.2.2.1 s.2.2.2.2.2.1 s.2.2.2.2.2.2.1 s.2.2.2.2.2.2.2.1 s.2.2.2.2.2.2.2.2.1 s.2.2.2.2.2.2.2.2.2.1 s.2.2.2.2.2.2.2.2.2.2.1 s.2.2.2.2.2.2.2.2.2.2.2.1 s.2.2.2.2.2.2.2.2.2.2.2.2.1 s.2.2.2.2.2.2.2.2.2.2.2.2.2) (kt := fun s => kt179 s.1 s.2.1 s.2.2.1 s.2.2.2.1 s.2.2.2.2.1 s.2.2.2.2.2.1 s.2.2.2.2.2.2.1 s.2.2.2.2.2.2.2.1 s.2.2.2.2.2.2.2.2.1 s.2.2.2.2.2.2.2.2.2.1 s.2.2.2.2.2.2.2.2.2.2.1 s.2.2.2.2.2.2.2.2.2.2.2.1 s.2.2.2.2.2.2.2.2.2.2.2.2.1 s.2.2.2.2.2.2.2.2.2.2.2.2.2) 3 (I := fun _ s => zM2 N 0 s) (by
    intro n s _
    have hun : (FL_made_1_179 rc_isSettled c_kind c_head c_body c_excepts c_power c_beats c_facts c_size c_shut hi_sg hi_y hi_D hi_un (nI N) sc) kt179 (n + 1) (nI 3) s.1 s.2.1 s.2.2.1 s.2.2.2.1 s.2.2.2.2.1 s.2.2.2.2.2.1 s.2.2.2.2.2.2.1 s.2.2.2.2.2.2.2.1 s.2.2.2.2.2.2.2.2.1 s.2.2.2.2.2.2.2.2.2.1 s.2.2.2.2.2.2.2.2.2.2.1 s.2.2.2.2.2.2.2.2.2.2.2.1 s.2.2.2.2.2.2.2.2.2.2.2.2.1 s.2.2.2.2.2.2.2.2.2.2.2.2.2 = _ := FL_made_1_179.eq_2 ..
    rw [if_pos (show (3 : Int32) ≤ nI 3 from nI_le (Nat.le_refl 3) (by omega))] at hun
    exact hun) (by
    intro n k s hk hs
    have hun : (FL_made_1_179 rc_isSettled c_kind c_head c_body c_excepts c_power c_beats c_facts c_size c_shut hi_sg hi_y hi_D hi_un (nI N) sc) kt179 (n + 1) (nI k) s.1 s.2.1 s.2.2.1 s.2.2.2.1 s.2.2.2.2.1 s.2.2.2.2.2.1 s.2.2.2.2.2.2.1 s.2.2.2.2.2.2.2.1 s.2.2.2.2.2.2.2.2.1 s.2.2.2.2.2.2.2.2.2.1 s.2.2.2.2.2.2.2.2.2.2.1 s.2.2.2.2.2.2.2.2.2.2.2.1 s.2.2.2.2.2.2.2.2.2.2.2.2.1 s.2.2.2.2.2.2.2.2.2.2.2.2.2 = _ := FL_made_1_179.eq_2 ..
    rw [if_neg (show ¬ (3 : Int32) ≤ nI k from nI_ge (b := 3) hk (by omega)), if_neg hN1] at hun
    show ∃ s' : zMS, _ ∧ (FL_made_1_179 rc_isSettled c_kind c_head c_body c_excepts c_power c_beats c_facts c_size c_shut hi_sg hi_y hi_D hi_un (nI N) sc) kt179 (n + 1) (nI k) s.1 s.2.1 s.2.2.1 s.2.2.2.1 s.2.2.2.2.1 s.2.2.2.2.2.1 s.2.2.2.2.2.2.1 s.2.2.2.2.2.2.2.1 s.2.2.2.2.2.2.2.2.1 s.2.2.2.2.2.2.2.2.2.1 s.2.2.2.2.2.2.2.2.2.2.1 s.2.2.2.2.2.2.2.2.2.2.2.1 s.2.2.2.2.2.2.2.2.2.2.2.2.1 s.2.2.2.2.2.2.2.2.2.2.2.2.2 = (FL_made_1_179 rc_isSettled c_kind c_head c_body c_excepts c_power c_beats c_facts c_size c_shut hi_sg hi_y hi_D hi_un (nI N) sc) kt179 n (nI (k + 1)) s'.1 s'.2.1 s'.2.2.1 s'.2.2.2.1 s'.2.2.2.2.1 s'.2.2.2.2.2.1 s'.2.2.2.2.2.2.1 s'.2.2.2.2.2.2.2.1 s'.2.2.2.2.2.2.2.2.1 s'.2.2.2.2.2.2.2.2.2.1 s'.2.2.2.2.2.2.2.2.2.2.1 s'.2.2.2.2.2.2.2.2.2.2.2.1 s'.2.2.2.2.2.2.2.2.2.2.2.2.1 s'.2.2.2.2.2.2.2.2.2.2.2.2.2
    rw [hun, nI_1]
    generalize hc : (Int32.toUInt32 (sc (2 * nI N + nI k).toNatClampNeg) >>> ((1 : Int32).toUInt32 &&& Int32.toUInt32 31)).toInt32 = c
    split
    · exact ⟨s, hs, rfl⟩
    · obtain ⟨isS, kd, hd, bd, ex, pw, bt, fa, sz, sh, sg, y, D, un⟩ := s
      obtain ⟨c1, c2, c3, c4, c5, c6, c7, c8⟩ := hs
      dsimp only at c1 c2 c3 c4 c5 c6 c7 c8 ⊢
      subst c1 c5
      obtain ⟨j, hj, ej⟩ : ∃ j : Nat, j < 2 ^ 31 ∧ c = nI j := by
        rw [← hc]
        exact zush (s := 1) (k := 1) (by decide) (by decide)
      have ea : c - c / nI N * nI N = nI (j % N) := by
        rw [ej]
        exact pk_rem hj (by omega) (by omega)
      obtain ⟨b, hb, eb⟩ := zrem c 6 (nI N) (k := 6) (m := N) (by decide) (by decide) rfl (by omega) (by omega)
      rw [ea, eb]
      have ha : j % N < N := Nat.mod_lt _ (by omega)
      generalize j % N = a at ha
      obtain ⟨ans, bt', sg', y', D', un', eo, hans, hB', hs', hD'⟩ := m_over (fa := fa) (sh := sh) (un := un) (kd := kd) (hd := hd) (bd := bd) (ex := ex) (pw := pw) (sg := sg) (y := y) (D := D) (show N ≤ 16 by omega) ha hb c3
      rw [bndx, eo]
      dsimp only
      have h255 : ∀ rc179 kt179' k1, ((a = b ∧ k1 = (-1 : Int32)) ∨ (¬ a = b ∧ k1 = 0)) → (FL_made_1_255 rc_isSettled c_kind c_head c_body c_excepts c_power c_beats c_facts c_size c_shut hi_sg hi_y hi_D hi_un (nI N) sc) rc179 kt179' (nI k) ans ans k1 0 kd hd bd ex pw bt' fa (nI N) sh sg' y' D' un' = rc179 (nI (k + 1)) 0 kd hd bd ex pw bt' fa (nI N) sh sg' y' D' un' := by
        intro rc179 kt179' k1 hk1
        unfold FL_made_1_255
        rw [nI_1]
        rcases hans with ⟨z1, z2⟩ | ⟨z1, z2⟩
        · rcases hk1 with ⟨w1, w2⟩ | ⟨w1, w2⟩
          · rw [if_pos (z2.trans w2.symm)]
          · exact absurd z1 w1
        · rcases hk1 with ⟨w1, w2⟩ | ⟨w1, w2⟩
          · exact absurd w1 z1
          · rcases z2 with z2 | z2 | z2
            · rw [if_pos (z2.trans w2.symm)]
            · rw [z2, w2, if_neg (show ¬ (1 : Int32) = 0 by decide), if_pos rfl]
            · rw [z2, w2, if_neg (show ¬ (-5 : Int32) = 0 by decide), if_neg (show ¬ (-5 : Int32) = 1 by decide), if_pos rfl]
      refine ⟨(0, kd, hd, bd, ex, pw, bt', fa, nI N, sh, sg', y', D', un'), ⟨rfl, c2, hB', c4, rfl, c6, hs' c7, hD' c8⟩, ?_⟩
      by_cases hab : a = b
      · rw [if_pos (show nI a = nI b by rw [hab])]
        exact h255 _ _ _ (Or.inl ⟨hab, rfl⟩)
      · rw [if_neg (fun z => hab ((nI_eq (by omega) (by omega)).mp z))]
        exact h255 _ _ _ (Or.inr ⟨hab, rfl⟩)) 4 0 s0 (by omega) (by omega) h
theorem m_294 {kt294 : (Int32) → (Nat → Int32) → (Nat → Int32) → (Nat → Int32) → (Nat → Int32) → (Nat → Int32) → (Nat → Int32) → (Int32) → (Int32) → (Int32) → (Nat → Nat) → (Nat → S0) → (Nat) → (Int32) → (Int32 × (Int32) × (Nat → Int32) × (Nat → Int32) × (Nat → Int32) × (Nat → Int32) × (Nat → Int32) × (Nat → Int32) × (Int32) × (Int32) × (Int32) × (Nat → Nat) × (Nat → S0) × (Nat) × (Int32))} {N : Nat} {x3 : Int32} {s0 : zMS} (h : zM2 N 0 s0) : ∃ s : zMS, zM2 N 6 s ∧ (FL_made_1_294 rc_isSettled c_kind c_head c_body c_excepts c_power c_beats c_facts c_size c_shut hi_sg hi_y hi_D hi_un (nI N) sc) kt294 7 x3 0 s0.1 s0.2.1 s0.2.2.1 s0.2.2.2.1 s0.2.2.2.2.1 s0.2.2.2.2.2.1 s0.2.2.2.2.2.2.1 s0.2.2.2.2.2.2.2.1 s0.2.2.2.2.2.2.2.2.1 s0.2.2.2.2.2.2.2.2.2.1 s0.2.2.2.2.2.2.2.2.2.2.1 s0.2.2.2.2.2.2.2.2.2.2.2.1 s0.2.2.2.2.2.2.2.2.2.2.2.2.1 s0.2.2.2.2.2.2.2.2.2.2.2.2.2 = kt294 s.1 s.2.1 s.2.2.1 s.2.2.2.1 s.2.2.2.2.1 s.2.2.2.2.2.1 s.2.2.2.2.2.2.1 s.2.2.2.2.2.2.2.1 s.2.2.2.2.2.2.2.2.1 s.2.2.2.2.2.2.2.2.2.1 s.2.2.2.2.2.2.2.2.2.2.1 s.2.2.2.2.2.2.2.2.2.2.2.1 s.2.2.2.2.2.2.2.2.2.2.2.2.1 s.2.2.2.2.2.2.2.2.2.2.2.2.2 := by
  exact zloopI (S := zMS) (L := fun n i s => (FL_made_1_294 rc_isSettled c_kind c_head c_body c_excepts c_power c_beats c_facts c_size c_shut hi_sg hi_y hi_D hi_un (nI N) sc) kt294 n x3 i s.1 s.2.1 s.2.2.1 s.2.2.2.1 s.2.2.2.2.1 s.2.2.2.2.2.1 s.2.2.2.2.2.2.1 s.2.2.2.2.2.2.2.1 s.2.2.2.2.2.2.2.2.1 s.2.2.2.2.2.2.2.2.2.1 s.2.2.2.2.2.2.2.2.2.2.1 s.2.2.2.2.2.2.2.2.2.2.2.1 s.2.2.2.2.2.2.2.2.2.2.2.2.1 s.2.2.2.2.2.2.2.2.2.2.2.2.2) (kt := fun s => kt294 s.1 s.2.1 s.2.2.1 s.2.2.2.1 s.2.2.2.2.1 s.2.2.2.2.2.1 s.2.2.2.2.2.2.1 s.2.2.2.2.2.2.2.1 s.2.2.2.2.2.2.2.2.1 s.2.2.2.2.2.2.2.2.2.1 s.2.2.2.2.2.2.2.2.2.2.1 s.2.2.2.2.2.2.2.2.2.2.2.1 s.2.2.2.2.2.2.2.2.2.2.2.2.1 s.2.2.2.2.2.2.2.2.2.2.2.2.2) 6 (I := fun i s => zM2 N i s) (by
    intro n s _
    have hun : (FL_made_1_294 rc_isSettled c_kind c_head c_body c_excepts c_power c_beats c_facts c_size c_shut hi_sg hi_y hi_D hi_un (nI N) sc) kt294 (n + 1) x3 (nI 6) s.1 s.2.1 s.2.2.1 s.2.2.2.1 s.2.2.2.2.1 s.2.2.2.2.2.1 s.2.2.2.2.2.2.1 s.2.2.2.2.2.2.2.1 s.2.2.2.2.2.2.2.2.1 s.2.2.2.2.2.2.2.2.2.1 s.2.2.2.2.2.2.2.2.2.2.1 s.2.2.2.2.2.2.2.2.2.2.2.1 s.2.2.2.2.2.2.2.2.2.2.2.2.1 s.2.2.2.2.2.2.2.2.2.2.2.2.2 = _ := FL_made_1_294.eq_2 ..
    rw [if_pos (show (6 : Int32) ≤ nI 6 from nI_le (Nat.le_refl 6) (by omega))] at hun
    exact hun) (by
    intro n k s hk hs
    have hun : (FL_made_1_294 rc_isSettled c_kind c_head c_body c_excepts c_power c_beats c_facts c_size c_shut hi_sg hi_y hi_D hi_un (nI N) sc) kt294 (n + 1) x3 (nI k) s.1 s.2.1 s.2.2.1 s.2.2.2.1 s.2.2.2.2.1 s.2.2.2.2.2.1 s.2.2.2.2.2.2.1 s.2.2.2.2.2.2.2.1 s.2.2.2.2.2.2.2.2.1 s.2.2.2.2.2.2.2.2.2.1 s.2.2.2.2.2.2.2.2.2.2.1 s.2.2.2.2.2.2.2.2.2.2.2.1 s.2.2.2.2.2.2.2.2.2.2.2.2.1 s.2.2.2.2.2.2.2.2.2.2.2.2.2 = _ := FL_made_1_294.eq_2 ..
    rw [if_neg (show ¬ (6 : Int32) ≤ nI k from nI_ge (b := 6) hk (by omega)), nI_1] at hun
    show ∃ s' : zMS, _ ∧ (FL_made_1_294 rc_isSettled c_kind c_head c_body c_excepts c_power c_beats c_facts c_size c_shut hi_sg hi_y hi_D hi_un (nI N) sc) kt294 (n + 1) x3 (nI k) s.1 s.2.1 s.2.2.1 s.2.2.2.1 s.2.2.2.2.1 s.2.2.2.2.2.1 s.2.2.2.2.2.2.1 s.2.2.2.2.2.2.2.1 s.2.2.2.2.2.2.2.2.1 s.2.2.2.2.2.2.2.2.2.1 s.2.2.2.2.2.2.2.2.2.2.1 s.2.2.2.2.2.2.2.2.2.2.2.1 s.2.2.2.2.2.2.2.2.2.2.2.2.1 s.2.2.2.2.2.2.2.2.2.2.2.2.2 = (FL_made_1_294 rc_isSettled c_kind c_head c_body c_excepts c_power c_beats c_facts c_size c_shut hi_sg hi_y hi_D hi_un (nI N) sc) kt294 n x3 (nI (k + 1)) s'.1 s'.2.1 s'.2.2.1 s'.2.2.2.1 s'.2.2.2.2.1 s'.2.2.2.2.2.1 s'.2.2.2.2.2.2.1 s'.2.2.2.2.2.2.2.1 s'.2.2.2.2.2.2.2.2.1 s'.2.2.2.2.2.2.2.2.2.1 s'.2.2.2.2.2.2.2.2.2.2.1 s'.2.2.2.2.2.2.2.2.2.2.2.1 s'.2.2.2.2.2.2.2.2.2.2.2.2.1 s'.2.2.2.2.2.2.2.2.2.2.2.2.2
    rw [hun]
    generalize (x3.toUInt32 >>> ((2 * nI k).toUInt32 &&& Int32.toUInt32 31)).toInt32 = u
    obtain ⟨isS, kd, hd, bd, ex, pw, bt, fa, sz, sh, sg, y, D, un⟩ := s
    obtain ⟨c1, c2, c3, c4, c5, c6, c7, c8⟩ := hs
    dsimp only at c1 c2 c3 c4 c5 c6 c7 c8 ⊢
    subst c1 c5
    split
    · exact ⟨(0, kd, hd, bd, ex, pw, bt, fa, nI N, sh, sg, y, D, un), ⟨rfl, c2, c3, fun q hq => ⟨(c4 q hq).1, by have := (c4 q hq).2; omega⟩, rfl, c6, c7, c8⟩, rfl⟩
    · rename_i hlt
      obtain ⟨m, hm, em⟩ : ∃ m : Nat, m < 2 ∧ u &&& 3 = nI m := by
        refine ⟨(u &&& 3).toBitVec.toNat, ?_, ?_⟩
        · have e : (u &&& 3) = nI (u &&& 3).toBitVec.toNat := by
            apply Int32.toBitVec_inj.mp
            show (u &&& 3).toBitVec = BitVec.ofNat 32 (u &&& 3).toBitVec.toNat
            rw [BitVec.ofNat_toNat, BitVec.setWidth_eq]
          have e4 : (u &&& 3).toBitVec.toNat < 4 := by
            have e5 : (u &&& 3).toBitVec.toNat = u.toBitVec.toNat &&& 3 := by
              rw [Int32.toBitVec_and, BitVec.toNat_and]; rfl
            rw [e5]
            exact Nat.lt_succ_of_le Nat.and_le_right
          generalize (u &&& 3).toBitVec.toNat = w at e e4
          rw [e, show (2 : Int32) = nI 2 from rfl, nI_leI (by decide) (by omega)] at hlt
          omega
        · apply Int32.toBitVec_inj.mp
          show (u &&& 3).toBitVec = BitVec.ofNat 32 (u &&& 3).toBitVec.toNat
          rw [BitVec.ofNat_toNat, BitVec.setWidth_eq]
      have eq_ : nI k + 10 * (u &&& 3) = nI (k + 10 * m) := by
        rw [em, show (10 : Int32) = nI 10 from rfl, pk_mul, nI_add]
      have hz : zb fa (k + 10 * m) = false := by
        cases e : zb fa (k + 10 * m)
        · rfl
        · have := (c4 _ e).2
          omega
      obtain ⟨sg', y', D', un', ef, hs', hD'⟩ := m_fact (isS := 0) (sz := nI N) (sh := sh) (un := un) (kd := kd) (hd := hd) (bd := bd) (ex := ex) (pw := pw) (bt := bt) (sg := sg) (y := y) (D := D) (show k + 10 * m < 20 by omega) hz
      rw [eq_, bndx, ef]
      dsimp only
      rw [if_pos rfl]
      refine ⟨(0, kd, hd, bd, ex, pw, bt, fa ||| (1 <<< (nI (k + 10 * m) &&& 31)), nI N, sh, sg', y', D', un'), ⟨rfl, c2, c3, fun q hq => ?_, rfl, c6, hs' c7, hD' c8⟩, rfl⟩
      have hq : zb (fa ||| (1 <<< (nI (k + 10 * m) &&& 31))) q = true := hq
      rw [zb_or, zb_one (by omega), Bool.or_eq_true, decide_eq_true_iff] at hq
      rcases hq with z | z
      · exact ⟨(c4 q z).1, by have := (c4 q z).2; omega⟩
      · omega) 7 0 s0 (by omega) (by omega) h
theorem m_made {N : Nat} (hN : N ≤ 10) (h : zM1 0 ((rc_isSettled, c_kind, c_head, c_body, c_excepts, c_power, c_beats, c_facts, c_size, c_shut, hi_sg, hi_y, hi_D, hi_un) : zMS)) : ∃ s : zMS, zM2 N 6 s ∧ (FL_made_1 rc_isSettled c_kind c_head c_body c_excepts c_power c_beats c_facts c_size c_shut hi_sg hi_y hi_D hi_un (nI N) sc) = (1, s) := by
  unfold FL_made_1
  obtain ⟨s1, h1, e1⟩ := m_10 (rc_isSettled := rc_isSettled) (c_kind := c_kind) (c_head := c_head) (c_body := c_body) (c_excepts := c_excepts) (c_power := c_power) (c_beats := c_beats) (c_facts := c_facts) (c_size := c_size) (c_shut := c_shut) (hi_sg := hi_sg) (hi_y := hi_y) (hi_D := hi_D) (hi_un := hi_un) (sc := sc) (kt10 := (FL_made_1_177 rc_isSettled c_kind c_head c_body c_excepts c_power c_beats c_facts c_size c_shut hi_sg hi_y hi_D hi_un (nI N) sc)) hN h
  rw [show (FL_made_1_10 rc_isSettled c_kind c_head c_body c_excepts c_power c_beats c_facts c_size c_shut hi_sg hi_y hi_D hi_un (nI N) sc) ((FL_made_1_177 rc_isSettled c_kind c_head c_body c_excepts c_power c_beats c_facts c_size c_shut hi_sg hi_y hi_D hi_un (nI N) sc)) 11 0 rc_isSettled c_kind c_head c_body c_excepts c_power c_beats c_facts c_size c_shut hi_sg hi_y hi_D hi_un = _ from e1]
  unfold FL_made_1_177
  have h12 : zM2 N 0 s1 := by
    obtain ⟨c1, c2, c3, c4, c5, c6, c7, c8⟩ := h1
    refine ⟨c1, fun r hr => ⟨(c2 r hr).1, (c2 r hr).2.1, (c2 r hr).2.2.1, (c2 r hr).2.2.2.1, (c2 r hr).2.2.2.2.1⟩, ⟨fun r hr o ho => ?_, fun r k hr hk h3 h4 => ?_⟩, fun q hq => ?_, c4, c6, c7, c8⟩
    · rw [(c2 r hr).2.2.2.2.2, zb_0] at ho; cases ho
    · rw [(c2 r hr).2.2.2.2.2, zb_0] at h3; cases h3
    · rw [c3, zb_0] at hq; cases hq
  obtain ⟨s2, h2, e2⟩ := m_179 (rc_isSettled := rc_isSettled) (c_kind := c_kind) (c_head := c_head) (c_body := c_body) (c_excepts := c_excepts) (c_power := c_power) (c_beats := c_beats) (c_facts := c_facts) (c_size := c_size) (c_shut := c_shut) (hi_sg := hi_sg) (hi_y := hi_y) (hi_D := hi_D) (hi_un := hi_un) (sc := sc) (kt179 := (FL_made_1_279 rc_isSettled c_kind c_head c_body c_excepts c_power c_beats c_facts c_size c_shut hi_sg hi_y hi_D hi_un (nI N) sc)) hN h12
  rw [e2]
  unfold FL_made_1_279
  obtain ⟨s3, h3, e3⟩ := m_294 (rc_isSettled := rc_isSettled) (c_kind := c_kind) (c_head := c_head) (c_body := c_body) (c_excepts := c_excepts) (c_power := c_power) (c_beats := c_beats) (c_facts := c_facts) (c_size := c_size) (c_shut := c_shut) (hi_sg := hi_sg) (hi_y := hi_y) (hi_D := hi_D) (hi_un := hi_un) (sc := sc) (kt294 := (FL_made_1_341 rc_isSettled c_kind c_head c_body c_excepts c_power c_beats c_facts c_size c_shut hi_sg hi_y hi_D hi_un (nI N) sc)) h2
  rw [e3]
  exact ⟨s3, h3, rfl⟩
end ZMADE
