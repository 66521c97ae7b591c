/-! the first bit -/
theorem zb_t {x : Int32} {i : Nat} : zb x i = x.toBitVec.toNat.testBit i := rfl
theorem zlow {x : Int32} {k : Nat} (hk : zb x k = true) (hn : ∀ i, i < k → zb x i = false) : k < 32 ∧ ∃ m : Nat, x.toBitVec.toNat = 2 ^ (k + 1) * m + 2 ^ k := by
  have h32 : k < 32 := by
    rcases Nat.lt_or_ge k 32 with h | h
    · exact h
    · rw [zb_big h] at hk; cases hk
  refine ⟨h32, x.toBitVec.toNat / 2 ^ (k + 1), ?_⟩
  have e : x.toBitVec.toNat % 2 ^ (k + 1) = 2 ^ k := Nat.eq_of_testBit_eq (fun j => by
    rw [Nat.testBit_mod_two_pow, Nat.testBit_two_pow]
    rcases Nat.lt_trichotomy j k with h | h | h
    · rw [show x.toBitVec.toNat.testBit j = false from hn j h, decide_eq_false (show ¬ k = j by omega), Bool.and_false]
    · subst h
      rw [show x.toBitVec.toNat.testBit j = true from hk, decide_eq_true (show j < j + 1 by omega), decide_eq_true rfl]; rfl
    · rw [decide_eq_false (show ¬ j < k + 1 by omega), decide_eq_false (show ¬ k = j by omega)]; rfl)
  have := Nat.div_add_mod x.toBitVec.toNat (2 ^ (k + 1))
  rw [e] at this
  exact this.symm
theorem zsub1 {x : Int32} {n : Nat} (h : x.toBitVec.toNat = n + 1) : (x - 1).toBitVec.toNat = n := by
  have hlt := x.toBitVec.isLt
  rw [Int32.toBitVec_sub, BitVec.toNat_sub, show (1 : Int32).toBitVec.toNat = 1 from by decide, h]
  rw [h] at hlt
  omega
theorem zpred {x : Int32} {k : Nat} (hk : zb x k = true) (hn : ∀ i, i < k → zb x i = false) (i : Nat) : zb (x - 1) i = if i < k then true else if i = k then false else zb x i := by
  obtain ⟨h32, m, e⟩ := zlow hk hn
  have hp : 0 < 2 ^ k := Nat.two_pow_pos k
  have e1 : (x - 1).toBitVec.toNat = 2 ^ (k + 1) * m + (2 ^ k - 1) := zsub1 (by rw [e]; omega)
  have hb : 2 ^ k - 1 < 2 ^ (k + 1) := by rw [Nat.pow_succ]; omega
  have hb2 : 2 ^ k < 2 ^ (k + 1) := by rw [Nat.pow_succ]; omega
  rw [zb_t, zb_t, e1, e, Nat.testBit_two_pow_mul_add m hb, Nat.testBit_two_pow_mul_add m hb2, Nat.testBit_two_pow_sub_one, Nat.testBit_two_pow]
  rcases Nat.lt_trichotomy i k with h | h | h
  · rw [if_pos (by omega), if_pos h, decide_eq_true h]
  · rw [if_pos (by omega), if_neg (by omega), if_pos h, decide_eq_false (by omega)]
  · rw [if_neg (by omega), if_neg (by omega), if_neg (by omega), if_neg (by omega)]
theorem zneg {x : Int32} {n : Nat} (h : x.toBitVec.toNat = n + 1) (i : Nat) (hi : i < 32) : zb (-x) i = !zb (x - 1) i := by
  have hlt := x.toBitVec.isLt
  rw [h] at hlt
  have e : (-x).toBitVec.toNat = 2 ^ 32 - (n + 1) := by
    rw [Int32.toBitVec_neg, BitVec.toNat_neg, h]
    exact Nat.mod_eq_of_lt (by omega)
  rw [zb_t, zb_t, e, zsub1 h, Nat.testBit_two_pow_sub_succ (by omega), decide_eq_true hi, Bool.true_and]
def zny (x0 y : Int32) : Int32 := if 0 < y then (if y ≤ 65536 then (FJ6_numberOfTrailingZeros_0f7a4_34 x0 y 1) else (FJ6_numberOfTrailingZeros_0f7a4_34 x0 ((y.toUInt32 >>> ((16 : Int32).toUInt32 &&& Int32.toUInt32 31)).toInt32) (1 + 16))) else (y &&& 32)
theorem zny_0 (x0 y : Int32) : zny x0 y = zny 0 y := by
  unfold zny FJ6_numberOfTrailingZeros_0f7a4_34 FJ6_numberOfTrailingZeros_0f7a4_49 FJ6_numberOfTrailingZeros_0f7a4_62
  rfl
theorem zny_k : ∀ k : Nat, k < 32 → zny 0 (nI (2 ^ k - 1)) = nI k := by decide +kernel
theorem zb_nI {n i : Nat} (hi : i < 32) : zb (nI n) i = n.testBit i := by
  unfold zb nI
  rw [show (Int32.ofNat n).toBitVec = BitVec.ofNat 32 n from rfl, BitVec.getLsbD_ofNat, decide_eq_true hi, Bool.true_and]
theorem z_ntz {x : Int32} {k : Nat} (hk : zb x k = true) (hn : ∀ i, i < k → zb x i = false) : FX9_firstOf x = nI k := by
  obtain ⟨h32, -⟩ := zlow hk hn
  have hy : (x ^^^ (-1)) &&& (x - 1) = nI (2 ^ k - 1) := zb_ext (fun i hi => by
    rw [zb_and, zb_not hi, zpred hk hn, zb_nI hi, Nat.testBit_two_pow_sub_one]
    rcases Nat.lt_trichotomy i k with h | h | h
    · rw [if_pos h, hn i h, decide_eq_true h]; rfl
    · rw [if_neg (by omega), if_pos h, Bool.and_false, decide_eq_false (by omega)]
    · rw [if_neg (by omega), if_neg (by omega), decide_eq_false (by omega)]
      cases zb x i <;> rfl)
  have e : FX9_firstOf x = zny x ((x ^^^ (-1)) &&& (x - 1)) := rfl
  rw [e, hy, zny_0, zny_k k h32]
theorem z_ex {x : Int32} (h : ¬ x = 0) : ∃ k : Nat, k < 32 ∧ zb x k = true ∧ ∀ i, i < k → zb x i = false := by
  have hE : zE (zb x) 32 = true := by
    cases e : zE (zb x) 32
    · exact absurd (zb_ext (fun q hq => by rw [zE_f.mp e q hq, zb_0])) h
    · rfl
  unfold zE at hE
  have hl := of_decide_eq_true hE
  exact ⟨zF (zb x) 32, hl, zF_yes hl, fun i hi => zF_no hi⟩
/-- the first bit alone -/
theorem z_first {x : Int32} (h : ¬ x = 0) : FX8_lowestBit x = 1 <<< (FX9_firstOf x &&& 31) ∧ ∀ q, zb (FX8_lowestBit x) q = true → zb x q = true := by
  obtain ⟨k, h32, hk, hn⟩ := z_ex h
  rw [z_ntz hk hn]
  have e : FX8_lowestBit x = 1 <<< (nI k &&& 31) := by
    obtain ⟨-, m, e⟩ := zlow hk hn
    have hp : 0 < 2 ^ k := Nat.two_pow_pos k
    have e2 : x.toBitVec.toNat = (2 ^ (k + 1) * m + (2 ^ k - 1)) + 1 := by rw [e]; omega
    refine zb_ext (fun i hi => ?_)
    unfold FX8_lowestBit
    rw [zb_and, zneg e2 i hi, zpred hk hn, zb_one h32]
    rcases Nat.lt_trichotomy i k with h | h | h
    · rw [if_pos h, hn i h, decide_eq_false (by omega)]; rfl
    · rw [if_neg (by omega), if_pos h, h, hk, decide_eq_true rfl]; rfl
    · rw [if_neg (by omega), if_neg (by omega), decide_eq_false (by omega)]
      cases zb x i <;> rfl
  refine ⟨e, fun q hq => ?_⟩
  rw [e, zb_one h32] at hq
  rw [of_decide_eq_true hq]
  exact hk
theorem z_low0 : FX8_lowestBit 0 = 0 := by decide
theorem z_lowin {x : Int32} {q : Nat} (h : zb (FX8_lowestBit x) q = true) : zb x q = true := by
  by_cases c : x = 0
  · rw [c, z_low0, zb_0] at h; cases h
  · exact (z_first c).2 q h
/-! what is wanted: masks that are laid to others -/
def zorf (w A : Nat → Int32) : Nat → Int32 := fun t => w t ||| A t
def zone1 (i : Nat) (c : Int32) : Nat → Int32 := fun t => if t = i then c else 0
def zno : Nat → Int32 := fun _ => 0
theorem zor0 (x : Int32) : x ||| 0 = x := zb_ext (fun q _ => by rw [zb_or, zb_0, Bool.or_false])
theorem zorA (x y z : Int32) : x ||| y ||| z = x ||| (y ||| z) := zb_ext (fun q _ => by rw [zb_or, zb_or, zb_or, zb_or, Bool.or_assoc])
theorem zorf_no (w : Nat → Int32) : zorf w zno = w := funext (fun t => zor0 _)
theorem zorf_2 (w A B : Nat → Int32) : zorf (zorf w A) B = zorf w (zorf A B) := funext (fun t => zorA _ _ _)
theorem zorf_u (w : Nat → Int32) (i : Nat) (c : Int32) : upd w i (w i ||| c) = zorf w (zone1 i c) := funext (fun t => by
  unfold zorf zone1
  by_cases e : t = i
  · subst e; rw [pk_us, if_pos rfl]
  · rw [pk_un e, if_neg e, zor0])
def zfa (f : Nat → Nat → Int32) : Nat → Nat → Int32
  | 0 => zno
  | i + 1 => zorf (zfa f i) (f i)
theorem zfa_s (w : Nat → Int32) (f : Nat → Nat → Int32) (i : Nat) : zorf (zorf w (zfa f i)) (f i) = zorf w (zfa f (i + 1)) := zorf_2 _ _ _
theorem zfa_stop {f : Nat → Nat → Int32} {N : Nat} : ∀ M : Nat, (∀ i, N ≤ i → i < N + M → f i = zno) → zfa f (N + M) = zfa f N
  | 0, _ => rfl
  | M + 1, h => by
    show zorf (zfa f (N + M)) (f (N + M)) = _
    rw [h (N + M) (by omega) (by omega), zorf_no]
    exact zfa_stop M (fun i h1 h2 => h i h1 (by omega))
theorem zfa_16 {f : Nat → Nat → Int32} {N : Nat} (hN : N ≤ 16) (h : ∀ i, N ≤ i → i < 16 → f i = zno) : zfa f 16 = zfa f N := by
  have := zfa_stop (f := f) (N := N) (16 - N) (fun i h1 h2 => h i h1 (by omega))
  rw [show N + (16 - N) = 16 by omega] at this
  exact this
/-- what is laid is known -/
def zsub (K A : Nat → Int32) : Prop := ∀ t q, zb (A t) q = true → t < 4 ∧ zb (K t) q = true
theorem zsub_no (K : Nat → Int32) : zsub K zno := fun t q h => by
  have h : zb 0 q = true := h
  rw [zb_0] at h; cases h
theorem zsub_or {K A B : Nat → Int32} (h : zsub K A) (h' : zsub K B) : zsub K (zorf A B) := fun t q hq => by
  have hq : zb (A t ||| B t) q = true := hq
  rw [zb_or, Bool.or_eq_true] at hq
  exact hq.elim (h t q) (h' t q)
theorem zsub_1 {K : Nat → Int32} {i : Nat} {c : Int32} (hi : i < 4) (h : ∀ q, zb c q = true → zb (K i) q = true) : zsub K (zone1 i c) := fun t q hq => by
  unfold zone1 at hq
  by_cases e : t = i
  · subst e
    rw [if_pos rfl] at hq
    exact ⟨hi, h q hq⟩
  · rw [if_neg e, zb_0] at hq; cases hq
theorem zsub_fa {K : Nat → Int32} {f : Nat → Nat → Int32} : ∀ N : Nat, (∀ i, i < N → zsub K (f i)) → zsub K (zfa f N)
  | 0, _ => zsub_no K
  | N + 1, h => zsub_or (zsub_fa N (fun i hi => h i (by omega))) (h N (by omega))
theorem zin_and {a b : Int32} (h : a &&& (b ^^^ (-1)) = 0) : ∀ q, zb a q = true → zb b q = true := fun q hq => by
  have hq32 : q < 32 := by
    rcases Nat.lt_or_ge q 32 with h | h
    · exact h
    · rw [zb_big h] at hq; cases hq
  have := zb_0 q
  rw [← h, zb_and, zb_not hq32, hq] at this
  cases e : zb b q
  · rw [e] at this; cases this
  · rfl
section ZNEED
variable (kd hd bd ex sg of ov : Nat → Int32) (fa : Int32) (N : Nat) (K : Nat → Int32)
def aFall (r : Nat) : Nat → Int32 := if bd r &&& K 3 = 0 then zone1 2 (FX8_lowestBit (ex r &&& K 2)) else zone1 3 (FX8_lowestBit (bd r &&& K 3))
def aForce (r : Nat) : Nat → Int32 := zorf (zone1 2 (bd r)) (zone1 3 (ex r))
def aNS (q : Nat) : Nat → Int32 := if zb fa q = true then zno else if zF (fun r => aStr kd hd of r (nI q) && aSb bd K r) N < N then zone1 0 (bd (zF (fun r => aStr kd hd of r (nI q) && aSb bd K r) N)) else zno
def aNN (q : Nat) : Nat → Int32 := zfa (fun r => if aStr kd hd of r (nI q) = true then zone1 1 (FX8_lowestBit (bd r &&& K 1)) else zno) N
def aNL (q : Nat) : Nat → Int32 := if zb (K 0) q = true then zone1 0 (1 <<< (nI q &&& 31)) else zorf (zorf (aForce bd ex (zF (aFrc kd hd bd ex of K q) N)) (zone1 1 (1 <<< (nI (aOth q) &&& 31)))) (zfa (fun r => if aFor hd of r (nI (aOth q)) = true then (if aFal bd ex K r = true then aFall bd ex K r else aForce bd ex (zF (fun s => aFrc kd hd bd ex of K q s && aAbv sg ov s r) N)) else zno) N)
def aNU (q : Nat) : Nat → Int32 := zorf (zone1 1 (1 <<< (nI q &&& 31))) (if zE (aUnf kd hd bd ex of K q) N = false then zfa (fun r => if aFwd kd hd of r (nI q) = true then aFall bd ex K r else zno) N else if zb (K 0) (aOth q) = true then zone1 0 (1 <<< (nI (aOth q) &&& 31)) else zorf (aForce bd ex (zF (aVic kd hd bd ex sg of ov N K q) N)) (zfa (fun r => if aFwd kd hd of r (nI q) && aAbv sg ov r (zF (aVic kd hd bd ex sg of ov N K q) N) then aFall bd ex K r else zno) N))
def aNeed (t q : Nat) : Nat → Int32 := match t with
  | 0 => aNS kd hd bd of fa N K q
  | 1 => aNN kd hd bd of N K q
  | 2 => aNL kd hd bd ex sg of ov N K q
  | _ => aNU kd hd bd ex sg of ov N K q
end ZNEED
section ZSUBS
variable {kd hd bd ex sg of ov : Nat → Int32} {fa : Int32} {N : Nat} {K : Nat → Int32}
theorem aFall_in (r : Nat) : zsub K (aFall bd ex K r) := by
  unfold aFall
  split
  · exact zsub_1 (by decide) (fun q hq => by
      have := z_lowin hq
      rw [zb_and, Bool.and_eq_true] at this
      exact this.2)
  · exact zsub_1 (by decide) (fun q hq => by
      have := z_lowin hq
      rw [zb_and, Bool.and_eq_true] at this
      exact this.2)
theorem aForce_in {r : Nat} (h : aApp bd ex K r = true) : zsub K (aForce bd ex r) := by
  unfold aApp at h
  rw [Bool.and_eq_true] at h
  exact zsub_or (zsub_1 (by decide) (zin_and (of_decide_eq_true h.1))) (zsub_1 (by decide) (zin_and (of_decide_eq_true h.2)))
theorem zin_1 {k : Nat} {c : Int32} (hk : k < 32) (h : zb c k = true) : ∀ q, zb (1 <<< (nI k &&& 31)) q = true → zb c q = true := fun q hq => by
  rw [zb_one hk] at hq
  rw [of_decide_eq_true hq]
  exact h
theorem zE_F {p : Nat → Bool} {N : Nat} (h : zE p N = true) : zF p N < N ∧ p (zF p N) = true := by
  unfold zE at h
  have := of_decide_eq_true h
  exact ⟨this, zF_yes this⟩
/-- what is needed came ahead -/
theorem aNeed_in {t q : Nat} (ht : t < 4) (hq : q < 20) (h : aHolds kd hd bd ex sg of ov fa N K t q = true) : zsub K (aNeed kd hd bd ex sg of ov fa N K t q) := by
  have ho := aOth_lt hq
  match t, ht, h with
  | 0, _, _ =>
    show zsub K (aNS kd hd bd of fa N K q)
    unfold aNS
    split
    · exact zsub_no K
    · split
      · next c =>
        have := zF_yes c
        rw [Bool.and_eq_true] at this
        exact zsub_1 (by decide) (zin_and (of_decide_eq_true this.2))
      · exact zsub_no K
  | 1, _, _ =>
    show zsub K (aNN kd hd bd of N K q)
    refine zsub_fa N (fun r hr => ?_)
    split
    · exact zsub_1 (by decide) (fun i hi => by
        have := z_lowin hi
        rw [zb_and, Bool.and_eq_true] at this
        exact this.2)
    · exact zsub_no K
  | 2, _, h =>
    have h : aLikely kd hd bd ex sg of ov N K q = true := h
    show zsub K (aNL kd hd bd ex sg of ov N K q)
    unfold aNL
    by_cases c : zb (K 0) q = true
    · rw [if_pos c]
      exact zsub_1 (by decide) (zin_1 (by omega) c)
    · rw [if_neg c]
      unfold aLikely at h
      simp only [Bool.or_eq_true, Bool.and_eq_true] at h
      obtain ⟨⟨h1, h2⟩, h3⟩ := h.resolve_left c
      refine zsub_or (zsub_or (aForce_in ?_) (zsub_1 (by decide) (zin_1 (by omega) h1))) (zsub_fa N (fun r hr => ?_))
      · have := (zE_F h2).2
        unfold aFrc at this
        rw [Bool.and_eq_true] at this
        exact this.2
      · by_cases c1 : aFor hd of r (nI (aOth q)) = true
        · rw [if_pos c1]
          by_cases c2 : aFal bd ex K r = true
          · rw [if_pos c2]
            exact aFall_in r
          · rw [if_neg c2]
            have h3 : zE (aThr kd hd bd ex sg of ov N K q) N = false := by
              cases e : zE (aThr kd hd bd ex sg of ov N K q) N
              · rfl
              · rw [e] at h3; cases h3
            have := zE_f.mp h3 r hr
            unfold aThr at this
            rw [c1, (Bool.not_eq_true _).mp c2] at this
            have h4 : zE (fun s => aFrc kd hd bd ex of K q s && aAbv sg ov s r) N = true := by
              cases e : zE (fun s => aFrc kd hd bd ex of K q s && aAbv sg ov s r) N
              · rw [e] at this; cases this
              · rfl
            have := (zE_F h4).2
            simp only [Bool.and_eq_true] at this
            have := this.1
            unfold aFrc at this
            rw [Bool.and_eq_true] at this
            exact aForce_in this.2
        · rw [if_neg c1]
          exact zsub_no K
  | 3, _, h =>
    have h : aUnlikely kd hd bd ex sg of ov N K q = true := h
    show zsub K (aNU kd hd bd ex sg of ov N K q)
    unfold aNU
    unfold aUnlikely at h
    simp only [Bool.or_eq_true, Bool.and_eq_true] at h
    obtain ⟨h1, h2⟩ := h
    refine zsub_or (zsub_1 (by decide) (zin_1 (by omega) h1)) ?_
    split
    · exact zsub_fa N (fun r hr => by
        split
        · exact aFall_in r
        · exact zsub_no K)
    · next c =>
      split
      · next c2 => exact zsub_1 (by decide) (zin_1 (by omega) c2)
      · next c2 =>
        have h3 : zE (aVic kd hd bd ex sg of ov N K q) N = true := by
          rcases h2 with (h2 | h2) | h2
          · rw [Bool.not_eq_true'] at h2
            exact absurd h2 c
          · exact absurd h2 c2
          · exact h2
        have := (zE_F h3).2
        unfold aVic at this
        simp only [Bool.and_eq_true] at this
        refine zsub_or (aForce_in this.1.2) (zsub_fa N (fun r hr => ?_))
        split
        · exact aFall_in r
        · exact zsub_no K
end ZSUBS
