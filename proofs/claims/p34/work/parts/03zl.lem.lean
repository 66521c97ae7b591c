theorem zother {x : Int32} (h : vp_in x 20) : vp_in (FX8_otherOf x) 20 := by
  obtain ⟨j, hj, rfl⟩ := vp_in_of h (by decide)
  have key : ∀ j : Nat, j < 20 → ¬ (FX8_otherOf (nI j) < 0 ∨ 20 ≤ (FX8_otherOf (nI j)).toNatClampNeg) := by decide +kernel
  exact key j hj
theorem zguard {x k : Int32} {N : Nat} (hk : k = nI N) (hN : N < 2 ^ 31) (c : ¬ (if x < 0 then (0 : Int32) else if k ≤ x then 0 else 1) = 0) : vp_in x N := by
  by_cases h1 : x < 0
  · rw [if_pos h1] at c
    exact absurd rfl c
  · rw [if_neg h1] at c
    by_cases h2 : k ≤ x
    · rw [if_pos h2] at c
      exact absurd rfl c
    · obtain ⟨j, hj, rfl⟩ := nI_of h1
      rw [hk, nI_leI hN hj] at h2
      exact vp_in_nI (by omega) hN
theorem zguard9 {x k : Int32} {N : Nat} (hk : k = nI N) (hN : N + 1 < 2 ^ 31) (c : ¬ (if x < 0 then (0 : Int32) else if k < x then 0 else 1) = 0) : vp_in x (N + 1) := by
  by_cases h1 : x < 0
  · rw [if_pos h1] at c
    exact absurd rfl c
  · rw [if_neg h1] at c
    by_cases h2 : k < x
    · rw [if_pos h2] at c
      exact absurd rfl c
    · obtain ⟨j, hj, rfl⟩ := nI_of h1
      rw [hk, nI_ltI (by omega) hj] at h2
      exact vp_in_nI (by omega) hN
theorem zisLit {x : Int32} (c : ¬ FX8_isLiteral x = 0) : vp_in x 20 := zguard (k := 20) rfl (by decide) c
theorem zisTag {x : Int32} (c : ¬ FX8_isTag x = 0) : vp_in x 4 := zguard (k := 4) rfl (by decide) c
/-! bits of ints -/
def zb (x : Int32) (q : Nat) : Bool := x.toBitVec.getLsbD q
theorem zb_or (x y : Int32) (q : Nat) : zb (x ||| y) q = (zb x q || zb y q) := by
  unfold zb; rw [Int32.toBitVec_or, BitVec.getLsbD_or]
theorem zb_and (x y : Int32) (q : Nat) : zb (x &&& y) q = (zb x q && zb y q) := by
  unfold zb; rw [Int32.toBitVec_and, BitVec.getLsbD_and]
theorem zb_xor (x y : Int32) (q : Nat) : zb (x ^^^ y) q = (zb x q ^^ zb y q) := by
  unfold zb; rw [Int32.toBitVec_xor, BitVec.getLsbD_xor]
theorem zb_m1 {q : Nat} (h : q < 32) : zb (-1) q = true := by
  have key : ∀ q : Nat, q < 32 → zb (-1) q = true := by decide +kernel
  exact key q h
theorem zb_not {x : Int32} {q : Nat} (h : q < 32) : zb (x ^^^ (-1)) q = !zb x q := by
  rw [zb_xor, zb_m1 h]; cases zb x q <;> rfl
theorem zb_0 (q : Nat) : zb 0 q = false := by
  unfold zb; rw [show (0 : Int32).toBitVec = 0#32 from rfl, BitVec.getLsbD_zero]
theorem zb_big {x : Int32} {q : Nat} (h : 32 ≤ q) : zb x q = false := BitVec.getLsbD_of_ge _ _ h
theorem zb_ext {x y : Int32} (h : ∀ q, q < 32 → zb x q = zb y q) : x = y := by
  apply Int32.toBitVec_inj.mp
  exact BitVec.eq_of_getLsbD_eq (fun i hi => h i hi)
theorem zb_one {k q : Nat} (hk : k < 32) : zb (1 <<< (nI k &&& 31)) q = decide (q = k) := by
  by_cases hq : q < 32
  · have key : ∀ k : Nat, k < 32 → ∀ q : Nat, q < 32 → zb (1 <<< (nI k &&& 31)) q = decide (q = k) := by decide +kernel
    exact key k hk q hq
  · rw [zb_big (by omega)]
    simp; omega
theorem zand1 (x : Int32) : (x &&& 1 = 1) ↔ zb x 0 = true := by
  constructor
  · intro h
    have h2 := congrArg (fun z => zb z 0) h
    simp only [zb_and] at h2
    rw [show zb 1 0 = true from by decide] at h2
    simpa using h2
  · intro h
    refine zb_ext (fun q hq => ?_)
    rw [zb_and]
    rcases Nat.eq_zero_or_pos q with rfl | h0
    · rw [h]; decide
    · have key : ∀ q : Nat, q < 32 → 0 < q → zb 1 q = false := by decide +kernel
      rw [key q hq h0, Bool.and_false]
theorem zshr {x : Int32} {q : Nat} (h : q < 32) : zb (x >>> (nI q &&& 31)) 0 = zb x q := by
  have key : ∀ q : Nat, q < 32 → ((nI q &&& 31).toBitVec.smod 32).toNat = q := by decide +kernel
  have hs := key q h
  unfold zb
  rw [Int32.toBitVec_shiftRight]
  show BitVec.getLsbD (BitVec.sshiftRight x.toBitVec ((nI q &&& 31).toBitVec.smod 32).toNat) 0 = _
  rw [hs, BitVec.getLsbD_sshiftRight]
  simp [h]
theorem zhas {x : Int32} {q : Nat} (h : q < 32) : FX8_has x (nI q) = if zb x q = true then 1 else 0 := by
  unfold FX8_has
  rw [← zshr h]
  by_cases c : zb (x >>> (nI q &&& 31)) 0 = true
  · rw [if_pos ((zand1 _).mpr c), if_pos c]
  · rw [if_neg (fun z => c ((zand1 _).mp z)), if_neg c]
theorem zhas0 {x : Int32} {q : Nat} (h : q < 32) : FX8_has x (nI q) = 0 ↔ zb x q = false := by
  rw [zhas h]
  cases zb x q <;> simp
/-- f's bits lie below 20, and none is k's -/
def zfr (k f : Int32) : Prop := ∀ q : Nat, zb f q = true → q < 20 ∧ zb k q = false
theorem zfr_0 (k : Int32) : zfr k 0 := fun q h => by rw [zb_0] at h; cases h
theorem zfr_or0 {k f : Int32} (h : zfr k f) : zfr k (f ||| 0) := fun q hq => by
  rw [zb_or, zb_0, Bool.or_false] at hq
  exact h q hq
theorem zfr_or1' {k f : Int32} {i : Nat} (h : zfr k f) (hi : i < 20) (hk : zb k i = false) : zfr k (f ||| (1 <<< (nI i &&& 31))) := fun q hq => by
  rw [zb_or, zb_one (by omega)] at hq
  rcases Bool.or_eq_true _ _ ▸ hq with hq | hq
  · exact h q hq
  · have : q = i := by simpa using hq
    subst this
    exact ⟨hi, hk⟩
def zbits (x : Int32) : Nat := (List.range 20).countP (fun q => zb x q)
def zcnt (k : Nat → Int32) : Nat := zbits (k 0) + zbits (k 1) + zbits (k 2) + zbits (k 3)
theorem zbits_le (x : Int32) : zbits x ≤ 20 := by
  have := List.countP_le_length (p := fun q => zb x q) (l := List.range 20)
  rw [List.length_range] at this
  exact this
theorem zcnt_le (k : Nat → Int32) : zcnt k ≤ 80 := by
  have h0 := zbits_le (k 0)
  have h1 := zbits_le (k 1)
  have h2 := zbits_le (k 2)
  have h3 := zbits_le (k 3)
  unfold zcnt
  omega
theorem zbits_mono {x y : Int32} (h : ∀ q, zb x q = true → zb y q = true) : zbits x ≤ zbits y := List.countP_mono_left (fun q _ hq => h q hq)
theorem zcount_lt : ∀ (l : List Nat) (p q : Nat → Bool), (∀ a, p a = true → q a = true) → (∃ a ∈ l, p a = false ∧ q a = true) → l.countP p < l.countP q
  | [], _, _, _, h => by obtain ⟨a, h1, -⟩ := h; cases h1
  | b :: l, p, q, hm, h => by
    have hle : l.countP p ≤ l.countP q := List.countP_mono_left (fun a _ ha => hm a ha)
    rw [List.countP_cons, List.countP_cons]
    obtain ⟨a, h1, h2, h3⟩ := h
    rcases List.mem_cons.mp h1 with rfl | h1
    · rw [h2, h3]
      simp
      omega
    · have ih := zcount_lt l p q hm ⟨a, h1, h2, h3⟩
      by_cases hp : p b = true
      · rw [hp, hm b hp]; simp; omega
      · have hp : p b = false := by simpa using hp
        rw [hp]
        by_cases hq : q b = true
        · rw [hq]; simp; omega
        · have hq : q b = false := by simpa using hq
          rw [hq]; simp; omega
theorem zbits_grow {x f : Int32} (h : zfr x f) (hn : ¬ f = 0) : zbits x + 1 ≤ zbits (x ||| f) := by
  have hex : ∃ q, zb f q = true := by
    by_cases he : ∃ q, zb f q = true
    · exact he
    · exact absurd (zb_ext (fun q _ => by
        rw [zb_0]
        cases hz : zb f q
        · rfl
        · exact absurd ⟨q, hz⟩ he)) hn
  obtain ⟨q, hq⟩ := hex
  obtain ⟨h1, h2⟩ := h q hq
  exact zcount_lt _ _ _ (fun a ha => by rw [zb_or, ha]; rfl) ⟨q, List.mem_range.mpr h1, h2, by rw [zb_or, hq, Bool.or_true]⟩
theorem zbits_or (x f : Int32) : zbits x ≤ zbits (x ||| f) := zbits_mono (fun q h => by rw [zb_or, h]; rfl)
theorem zge4 {i : Nat} (h : i ≤ 4) (c : (4 : Int32) ≤ nI i) : i = 4 := by
  rw [show (4 : Int32) = nI 4 from rfl, nI_leI (by decide) (by omega)] at c
  omega
theorem ztagD {i : Nat} {k k0 f : Nat → Int32} (hi : i < 4) (h : ∀ t : Nat, k t = if t < i then k0 t ||| f t else k0 t) : ∀ t : Nat, upd k (nI i).toNatClampNeg (k (nI i).toNatClampNeg ||| f (nI i).toNatClampNeg) t = if t < i + 1 then k0 t ||| f t else k0 t := by
  intro t
  rw [nI_clamp (by omega)]
  by_cases ht : t = i
  · subst ht
    rw [pk_us, h t, if_neg (Nat.lt_irrefl t), if_pos (Nat.lt_succ_self t)]
  · rw [pk_un ht, h t]
    by_cases h2 : t < i
    · rw [if_pos h2, if_pos (by omega)]
    · rw [if_neg h2, if_neg (by omega)]
theorem ztagN {n : Nat} {x y : Int32} {k k0 f : Nat → Int32} (hn : (x = 0 ∧ 1 ≤ n + 1) ∨ (¬ x = 0 ∧ 82 ≤ zcnt k0 + (n + 1))) (c : ¬ x = 0) (hA : ∀ t : Nat, t < 4 → zfr (k0 t) (f t)) (hB : ¬ y = 0 → ∃ t : Nat, t < 4 ∧ ¬ f t = 0) (hD : ∀ t : Nat, k t = if t < 4 then k0 t ||| f t else k0 t) : (y = 0 ∧ 1 ≤ n) ∨ (¬ y = 0 ∧ 82 ≤ zcnt k + n) := by
  have h2 : 82 ≤ zcnt k0 + (n + 1) := by
    rcases hn with h | h
    · exact absurd h.1 c
    · exact h.2
  by_cases hy : y = 0
  · have := zcnt_le k0
    exact Or.inl ⟨hy, by omega⟩
  · refine Or.inr ⟨hy, ?_⟩
    obtain ⟨t, ht, hf⟩ := hB hy
    have e : ∀ t, t < 4 → k t = k0 t ||| f t := fun t h => by rw [hD t, if_pos h]
    have m0 := zbits_or (k0 0) (f 0)
    have m1 := zbits_or (k0 1) (f 1)
    have m2 := zbits_or (k0 2) (f 2)
    have m3 := zbits_or (k0 3) (f 3)
    have g := zbits_grow (hA t ht) hf
    unfold zcnt at h2 ⊢
    rw [e 0 (by decide), e 1 (by decide), e 2 (by decide), e 3 (by decide)]
    rcases (show t = 0 ∨ t = 1 ∨ t = 2 ∨ t = 3 by omega) with rfl | rfl | rfl | rfl <;> omega
