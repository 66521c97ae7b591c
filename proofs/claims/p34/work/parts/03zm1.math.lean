/-! bools as ints, masks, loops -/
def zi (b : Bool) : Int32 := if b = true then 1 else 0
theorem zi0 {b : Bool} : zi b = 0 ↔ b = false := by cases b <;> decide
theorem zi_t : zi true = 1 := rfl
theorem zi_f : zi false = 0 := rfl
theorem zi_eq {a b : Bool} (h : a = b) : zi a = zi b := by rw [h]
theorem zc0 : (0 : Int32).toNatClampNeg = 0 := by decide
theorem zc1 : (1 : Int32).toNatClampNeg = 1 := by decide
theorem zc2 : (2 : Int32).toNatClampNeg = 2 := by decide
theorem zc3 : (3 : Int32).toNatClampNeg = 3 := by decide
theorem zh8 {x : Int32} {q : Nat} (h : q < 32) : FX8_has x (nI q) = zi (zb x q) := zhas h
theorem zloopI {S R : Type} {L : Nat → Int32 → S → R} {kt : S → R} (N : Nat) {I : Nat → S → Prop} (hend : ∀ n s, I N s → L (n + 1) (nI N) s = kt s) (hstep : ∀ n i s, i < N → I i s → ∃ s', I (i + 1) s' ∧ L (n + 1) (nI i) s = L n (nI (i + 1)) s') : ∀ (n i : Nat) (s : S), i ≤ N → N < i + n → I i s → ∃ s', I N s' ∧ L n (nI i) s = kt s'
  | 0, i, s, h1, h2, h => absurd h2 (by omega)
  | n + 1, i, s, h1, h2, h => by
    rcases Nat.lt_or_eq_of_le h1 with h3 | rfl
    · obtain ⟨s', hs, e⟩ := hstep n i s h3 h
      obtain ⟨s2, hs2, e2⟩ := zloopI N hend hstep n (i + 1) s' h3 (by omega) hs
      exact ⟨s2, hs2, e.trans e2⟩
    · exact ⟨s, h, hend n s h⟩
/-- the first place from i on, k places long, where p holds; i + k if there is none -/
def zfi (p : Nat → Bool) : Nat → Nat → Nat
  | 0, i => i
  | k + 1, i => if p i = true then i else zfi p k (i + 1)
theorem zfi_ge (p : Nat → Bool) : ∀ k i : Nat, i ≤ zfi p k i
  | 0, i => Nat.le_refl i
  | k + 1, i => by
    rw [zfi]
    split
    · exact Nat.le_refl i
    · exact Nat.le_trans (Nat.le_succ i) (zfi_ge p k (i + 1))
theorem zfi_le (p : Nat → Bool) : ∀ k i : Nat, zfi p k i ≤ i + k
  | 0, i => Nat.le_refl i
  | k + 1, i => by
    rw [zfi]
    split
    · exact Nat.le_add_right i _
    · have := zfi_le p k (i + 1)
      omega
theorem zfi_yes (p : Nat → Bool) : ∀ k i : Nat, zfi p k i < i + k → p (zfi p k i) = true
  | 0, i, h => absurd h (Nat.lt_irrefl _)
  | k + 1, i, h => by
    rw [zfi] at h ⊢
    by_cases c : p i = true
    · rw [if_pos c]; exact c
    · rw [if_neg c] at h ⊢
      exact zfi_yes p k (i + 1) (by omega)
theorem zfi_no (p : Nat → Bool) : ∀ k i j : Nat, i ≤ j → j < zfi p k i → p j = false
  | 0, i, j, h1, h2 => absurd h2 (Nat.not_lt.mpr h1)
  | k + 1, i, j, h1, h2 => by
    rw [zfi] at h2
    by_cases c : p i = true
    · rw [if_pos c] at h2
      exact absurd h2 (Nat.not_lt.mpr h1)
    · rw [if_neg c] at h2
      rcases Nat.lt_or_eq_of_le h1 with h3 | rfl
      · exact zfi_no p k (i + 1) j h3 h2
      · simpa using c
theorem zfindL {R : Type} {L : Nat → Int32 → R} {kt : R} {out : Nat → R} {p : Nat → Bool} (N : Nat) (hend : ∀ n, L (n + 1) (nI N) = kt) (hstep : ∀ n i, i < N → L (n + 1) (nI i) = if p i = true then out i else L n (nI (i + 1))) : ∀ n i : Nat, i ≤ N → N < i + n → L n (nI i) = if zfi p (N - i) i < N then out (zfi p (N - i) i) else kt
  | 0, i, h1, h2 => absurd h2 (by omega)
  | n + 1, i, h1, h2 => by
    rcases Nat.lt_or_eq_of_le h1 with h3 | rfl
    · rw [hstep n i h3, show N - i = (N - (i + 1)) + 1 by omega, zfi]
      by_cases c : p i = true
      · rw [if_pos c, if_pos c, if_pos h3]
      · rw [if_neg c, if_neg c]
        exact zfindL N hend hstep n (i + 1) h3 (by omega)
    · rw [hend n, Nat.sub_self, zfi, if_neg (Nat.lt_irrefl _)]
def zF (p : Nat → Bool) (N : Nat) : Nat := zfi p N 0
def zE (p : Nat → Bool) (N : Nat) : Bool := decide (zF p N < N)
theorem zF_le (p : Nat → Bool) (N : Nat) : zF p N ≤ N := by have := zfi_le p N 0; unfold zF; omega
theorem zF_yes {p : Nat → Bool} {N : Nat} (h : zF p N < N) : p (zF p N) = true := zfi_yes p N 0 (by unfold zF at h; omega)
theorem zF_no {p : Nat → Bool} {N j : Nat} (h : j < zF p N) : p j = false := zfi_no p N 0 j (Nat.zero_le j) h
theorem zE_t {p : Nat → Bool} {N : Nat} : zE p N = true ↔ ∃ r, r < N ∧ p r = true := by
  unfold zE
  constructor
  · intro h
    have h := of_decide_eq_true h
    exact ⟨_, h, zF_yes h⟩
  · rintro ⟨r, hr, hp⟩
    refine decide_eq_true (Nat.not_le.mp (fun hc => ?_))
    have := zF_no (p := p) (N := N) (j := r) (by omega)
    rw [hp] at this
    cases this
theorem zE_f {p : Nat → Bool} {N : Nat} : zE p N = false ↔ ∀ r, r < N → p r = false := by
  constructor
  · intro h r hr
    cases hp : p r
    · rfl
    · rw [zE_t.mpr ⟨r, hr, hp⟩] at h; cases h
  · intro h
    cases hz : zE p N
    · rfl
    · obtain ⟨r, hr, hp⟩ := zE_t.mp hz
      rw [h r hr] at hp; cases hp
theorem zF_eq {p p' : Nat → Bool} {N : Nat} (h : ∀ r, r < N → p r = p' r) : zF p N = zF p' N := by
  have key : ∀ k i : Nat, i + k ≤ N → zfi p k i = zfi p' k i := by
    intro k
    induction k with
    | zero => intro i _; rfl
    | succ k ih =>
      intro i hi
      rw [zfi, zfi, h i (by omega), ih (i + 1) (by omega)]
  exact key N 0 (by omega)
theorem zE_eq {p p' : Nat → Bool} {N : Nat} (h : ∀ r, r < N → p r = p' r) : zE p N = zE p' N := by unfold zE; rw [zF_eq h]
theorem zF_uniq {p : Nat → Bool} {N j : Nat} (hj : j ≤ N) (hp : j < N → p j = true) (hn : ∀ k, k < j → p k = false) : zF p N = j := by
  rcases Nat.lt_trichotomy (zF p N) j with h | h | h
  · have h1 := zF_yes (p := p) (N := N) (by omega)
    rw [hn _ h] at h1; cases h1
  · exact h
  · have h1 := zF_no (p := p) (N := N) h
    rw [hp (by have := zF_le p N; omega)] at h1; cases h1
/-- a find that answers yes or no -/
theorem zfindB {L : Nat → Int32 → Int32} {p : Nat → Bool} {N : Nat} (hend : ∀ n, L (n + 1) (nI N) = 0) (hstep : ∀ n i, i < N → L (n + 1) (nI i) = if p i = true then 1 else L n (nI (i + 1))) (n : Nat) (hn : N < n) : L n 0 = zi (zE p N) := by
  have h := zfindL (L := L) (kt := 0) (out := fun _ => 1) N hend hstep n 0 (Nat.zero_le N) (by omega)
  rw [show (0 : Int32) = nI 0 from rfl, h, Nat.sub_zero]
  unfold zi zE zF
  by_cases c : zfi p N 0 < N
  · rw [if_pos c, if_pos (decide_eq_true c)]
  · rw [if_neg c, if_neg (by rw [decide_eq_false c]; exact Bool.false_ne_true)]
theorem zfindA {L : Nat → Int32 → Int32} {p : Nat → Bool} {N : Nat} (hend : ∀ n, L (n + 1) (nI N) = 1) (hstep : ∀ n i, i < N → L (n + 1) (nI i) = if p i = true then 0 else L n (nI (i + 1))) (n : Nat) (hn : N < n) : L n 0 = zi (!zE p N) := by
  have h := zfindL (L := L) (kt := 1) (out := fun _ => 0) N hend hstep n 0 (Nat.zero_le N) (by omega)
  rw [show (0 : Int32) = nI 0 from rfl, h, Nat.sub_zero]
  unfold zi zE zF
  by_cases c : zfi p N 0 < N
  · rw [if_pos c, if_neg (by rw [decide_eq_true c]; exact Bool.false_ne_true)]
  · rw [if_neg c, if_pos (by rw [decide_eq_false c]; rfl)]
/-- s has the bits below i of p -/
def zM (s : Int32) (i : Nat) (p : Nat → Bool) : Prop := ∀ q, zb s q = (decide (q < i) && p q)
theorem zM_0 (p : Nat → Bool) : zM 0 0 p := fun q => by rw [zb_0, decide_eq_false (Nat.not_lt_zero q)]; rfl
theorem zM_y {s : Int32} {i : Nat} {p : Nat → Bool} (h : zM s i p) (hi : i < 32) (hp : p i = true) : zM (s ||| (1 <<< (nI i &&& 31))) (i + 1) p := fun q => by
  rw [zb_or, zb_one hi, h q]
  rcases Nat.lt_trichotomy q i with c | c | c
  · rw [decide_eq_true c, decide_eq_false (Nat.ne_of_lt c), decide_eq_true (show q < i + 1 by omega), Bool.or_false]
  · subst c
    rw [decide_eq_false (Nat.lt_irrefl q), decide_eq_true rfl, decide_eq_true (Nat.lt_succ_self q), hp]; rfl
  · rw [decide_eq_false (show ¬ q < i by omega), decide_eq_false (show ¬ q = i by omega), decide_eq_false (show ¬ q < i + 1 by omega)]; rfl
theorem zM_n {s : Int32} {i : Nat} {p : Nat → Bool} (h : zM s i p) (hp : p i = false) : zM s (i + 1) p := fun q => by
  rw [h q]
  rcases Nat.lt_trichotomy q i with c | c | c
  · rw [decide_eq_true c, decide_eq_true (show q < i + 1 by omega)]
  · subst c
    rw [hp, Bool.and_false, Bool.and_false]
  · rw [decide_eq_false (show ¬ q < i by omega), decide_eq_false (show ¬ q < i + 1 by omega)]
theorem zM_n0 {s : Int32} {i : Nat} {p : Nat → Bool} (h : zM s i p) (hp : p i = false) : zM (s ||| 0) (i + 1) p := fun q => by
  rw [zb_or, zb_0, Bool.or_false]; exact zM_n h hp q
theorem zM_eq {s s' : Int32} {N : Nat} {p p' : Nat → Bool} (h : zM s N p) (h' : zM s' N p') (he : ∀ q, q < N → p q = p' q) : s = s' := zb_ext (fun q _ => by
  rw [h q, h' q]
  by_cases c : q < N
  · rw [he q c]
  · rw [decide_eq_false c]; rfl)
theorem zM_b {s : Int32} {N q : Nat} {p : Nat → Bool} (h : zM s N p) (hq : q < N) : zb s q = p q := by rw [h q, decide_eq_true hq]; rfl
theorem zM_o {s : Int32} {N q : Nat} {p : Nat → Bool} (h : zM s N p) (hq : N ≤ q) : zb s q = false := by rw [h q, decide_eq_false (Nat.not_lt.mpr hq)]; rfl
theorem zM_ext {s : Int32} {N : Nat} {p p' : Nat → Bool} (h : zM s N p) (he : ∀ q, q < N → p q = p' q) : zM s N p' := fun q => by
  rw [h q]
  by_cases c : q < N
  · rw [he q c]
  · rw [decide_eq_false c]; rfl
theorem zM_00 {s : Int32} {N : Nat} {p : Nat → Bool} (h : zM s N p) : s = 0 ↔ zE p N = false := by
  constructor
  · intro e
    refine zE_f.mpr (fun r hr => ?_)
    rw [← zM_b h hr, e, zb_0]
  · intro e
    refine zb_ext (fun q _ => ?_)
    rw [zb_0, h q]
    by_cases c : q < N
    · rw [zE_f.mp e q c, Bool.and_false]
    · rw [decide_eq_false c]; rfl
theorem zM_i {s : Int32} {N : Nat} {p : Nat → Bool} (h : zM s N p) : (decide (s = 0)) = !zE p N := by
  cases hz : zE p N
  · rw [decide_eq_true ((zM_00 h).mpr hz)]; rfl
  · rw [decide_eq_false (fun e => by rw [(zM_00 h).mp e] at hz; cases hz)]; rfl
/-! what a court says, by the tags that are known: rules by their numbers, literals as ints -/
section ZCOURT
variable (kd hd bd ex sg of ov : Nat → Int32) (fa : Int32) (N : Nat) (K : Nat → Int32)
def aFor (r : Nat) (x : Int32) : Bool := decide (of r = 0) && decide (hd r = x)
def aFwd (r : Nat) (x : Int32) : Bool := aFor hd of r x && !decide (2 ≤ kd r)
def aStr (r : Nat) (x : Int32) : Bool := aFor hd of r x && decide (kd r = 0)
def aAbv (r o : Nat) : Bool := if zb (ov r) o || zb (ov o) r then zb (ov r) o else !decide (sg r ≤ sg o)
def aApp (r : Nat) : Bool := decide (bd r &&& (K 2 ^^^ (-1)) = 0) && decide (ex r &&& (K 3 ^^^ (-1)) = 0)
def aFal (r : Nat) : Bool := !(decide (bd r &&& K 3 = 0) && decide (ex r &&& K 2 = 0))
def aSb (r : Nat) : Bool := decide (bd r &&& (K 0 ^^^ (-1)) = 0)
def aNb (r : Nat) : Bool := !decide (bd r &&& K 1 = 0)
def aOth (q : Nat) : Nat := if q < 10 then q + 10 else q - 10
def aSure (q : Nat) : Bool := zb fa q || zE (fun r => aStr kd hd of r (nI q) && aSb bd K r) N
def aNever (q : Nat) : Bool := !zb fa q && !zE (fun r => aStr kd hd of r (nI q) && !aNb bd K r) N
def aFrc (q : Nat) (r : Nat) : Bool := aFwd kd hd of r (nI q) && aApp bd ex K r
def aThr (q : Nat) (r : Nat) : Bool := aFor hd of r (nI (aOth q)) && !aFal bd ex K r && !zE (fun s => aFrc kd hd bd ex of K q s && aAbv sg ov s r) N
def aUnf (q : Nat) (r : Nat) : Bool := aFwd kd hd of r (nI q) && !aFal bd ex K r
def aVic (q : Nat) (r : Nat) : Bool := aFor hd of r (nI (aOth q)) && aApp bd ex K r && !zE (fun s => aUnf kd hd bd ex of K q s && aAbv sg ov s r) N
def aLikely (q : Nat) : Bool := zb (K 0) q || (zb (K 1) (aOth q) && zE (aFrc kd hd bd ex of K q) N && !zE (aThr kd hd bd ex sg of ov N K q) N)
def aUnlikely (q : Nat) : Bool := zb (K 1) q && (!zE (aUnf kd hd bd ex of K q) N || zb (K 0) (aOth q) || zE (aVic kd hd bd ex sg of ov N K q) N)
def aHolds (t q : Nat) : Bool := match t with
  | 0 => aSure kd hd bd of fa N K q
  | 1 => aNever kd hd bd of fa N K q
  | 2 => aLikely kd hd bd ex sg of ov N K q
  | _ => aUnlikely kd hd bd ex sg of ov N K q
/-- what is new of a tag -/
def aNew (t q : Nat) : Bool := !zb (K t) q && aHolds kd hd bd ex sg of ov fa N K t q
end ZCOURT
theorem aOth_lt {q : Nat} (h : q < 20) : aOth q < 20 := by unfold aOth; split <;> omega
theorem aOth8 {q : Nat} (h : q < 20) : FX8_otherOf (nI q) = nI (aOth q) := by
  have key : ∀ q : Nat, q < 20 → FX8_otherOf (nI q) = nI (aOth q) := by decide +kernel
  exact key q h
