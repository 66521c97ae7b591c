/-! the reference's sentences -/
section ZREF
variable {m_facts : Int32} {m_kind m_head m_body m_except m_strength m_off m_over m_known : Nat → Int32} {N : Nat}
theorem r_isFor {r : Nat} {x : Int32} (hr : r < 16) : (FX9_isFor m_head m_off (nI r) x) = zi (aFor m_head m_off r x) := by
  unfold FX9_isFor aFor
  rw [nI_clamp (by omega)]
  by_cases h1 : m_off r = 0
  · rw [if_pos h1, decide_eq_true h1]
    by_cases h2 : m_head r = x
    · rw [if_pos h2, decide_eq_true h2]; rfl
    · rw [if_neg h2, decide_eq_false h2]; rfl
  · rw [if_neg h1, decide_eq_false h1]; rfl
theorem r_isForward {r : Nat} {x : Int32} (hr : r < 16) : (FX9_isForward m_kind m_head m_off (nI r) x) = zi (aFwd m_kind m_head m_off r x) := by
  unfold FX9_isForward aFwd
  simp only [bnd, zi0, r_isFor hr, nI_clamp (show r < 2 ^ 31 by omega)]
  cases aFor m_head m_off r x
  · rfl
  · by_cases h : 2 ≤ m_kind r
    · rw [if_neg (by decide), if_pos h, decide_eq_true h]; rfl
    · rw [if_neg (by decide), if_neg h, decide_eq_false h]; rfl
theorem r_isAbove {r o : Nat} (hr : r < 16) (ho : o < 16) : (FX9_isAbove m_strength m_over (nI r) (nI o)) = zi (aAbv m_strength m_over r o) := by
  unfold FX9_isAbove aAbv
  simp only [bnd, zi0, zh9 (show o < 32 by omega), zh9 (show r < 32 by omega), nI_clamp (show r < 2 ^ 31 by omega), nI_clamp (show o < 2 ^ 31 by omega)]
  cases zb (m_over r) o
  · cases zb (m_over o) r
    · by_cases h : m_strength r ≤ m_strength o
      · rw [if_pos rfl, if_pos rfl, if_pos h, decide_eq_true h]; rfl
      · rw [if_pos rfl, if_pos rfl, if_neg h, decide_eq_false h]; rfl
    · rfl
  · rfl
theorem r_applies {r : Nat} (hr : r < 16) : (FX9_applies m_body m_except m_known (nI r)) = zi (aApp m_body m_except m_known r) := by
  unfold FX9_applies aApp
  simp only [nI_clamp (show r < 2 ^ 31 by omega), zc2, zc3]
  by_cases h1 : m_body r &&& (m_known 2 ^^^ (-1)) = 0
  · rw [if_pos h1, decide_eq_true h1]
    by_cases h2 : m_except r &&& (m_known 3 ^^^ (-1)) = 0
    · rw [if_pos h2, decide_eq_true h2]; rfl
    · rw [if_neg h2, decide_eq_false h2]; rfl
  · rw [if_neg h1, decide_eq_false h1]; rfl
theorem r_falls {r : Nat} (hr : r < 16) : (FX9_falls m_body m_except m_known (nI r)) = zi (aFal m_body m_except m_known r) := by
  unfold FX9_falls aFal
  simp only [nI_clamp (show r < 2 ^ 31 by omega), zc2, zc3]
  by_cases h1 : m_body r &&& m_known 3 = 0
  · rw [if_pos h1, decide_eq_true h1]
    by_cases h2 : m_except r &&& m_known 2 = 0
    · rw [if_pos h2, decide_eq_true h2]; rfl
    · rw [if_neg h2, decide_eq_false h2]; rfl
  · rw [if_neg h1, decide_eq_false h1]; rfl
theorem r_isSure {q : Nat} (hN : N ≤ 16) (hq : q < 20) : (FX9_isSure m_facts (nI N) m_kind m_head m_body m_off m_known (nI q)) = zi (aSure m_kind m_head m_body m_off m_facts N m_known q) := by
  unfold FX9_isSure aSure
  simp only [bnd, zi0, zh9 (show q < 32 by omega)]
  cases zb m_facts q
  · rw [if_pos rfl, Bool.false_or]
    refine zfindB (L := fun n x => (FX9_isSure_15 m_facts (nI N) m_kind m_head m_body m_off m_known (nI q)) ((FX9_isSure_67 m_facts (nI N) m_kind m_head m_body m_off m_known (nI q))) n x) ?_ ?_ 17 (by omega)
    · intro n
      show (FX9_isSure_15 m_facts (nI N) m_kind m_head m_body m_off m_known (nI q)) _ (n + 1) (nI N) = 0
      rw [FX9_isSure_15, if_pos (nI_le (Nat.le_refl N) (by omega))]; rfl
    · intro n i hi
      show (FX9_isSure_15 m_facts (nI N) m_kind m_head m_body m_off m_known (nI q)) _ (n + 1) (nI i) = _
      rw [FX9_isSure_15, if_neg (nI_ge hi (by omega))]
      unfold aStr aSb
      simp only [bnd, zi0, r_isFor (show i < 16 by omega), nI_clamp (show i < 2 ^ 31 by omega), nI_1, zc0]
      cases aFor m_head m_off i (nI q)
      · rfl
      · by_cases h1 : m_kind i = 0
        · by_cases h2 : m_body i &&& (m_known 0 ^^^ (-1)) = 0
          · rw [if_neg (by decide), if_pos h1, if_pos h2, decide_eq_true h1, decide_eq_true h2]; rfl
          · rw [if_neg (by decide), if_pos h1, if_neg h2, decide_eq_true h1, decide_eq_false h2]; rfl
        · rw [if_neg (by decide), if_neg h1, decide_eq_false h1]; rfl
  · rfl
theorem r_isNever {q : Nat} (hN : N ≤ 16) (hq : q < 20) : (FX9_isNever m_facts (nI N) m_kind m_head m_body m_off m_known (nI q)) = zi (aNever m_kind m_head m_body m_off m_facts N m_known q) := by
  unfold FX9_isNever aNever
  simp only [bnd, zi0, zh9 (show q < 32 by omega)]
  cases zb m_facts q
  · rw [if_pos rfl, Bool.not_false, Bool.true_and]
    refine zfindA (L := fun n x => (FX9_isNever_15 m_facts (nI N) m_kind m_head m_body m_off m_known (nI q)) ((FX9_isNever_65 m_facts (nI N) m_kind m_head m_body m_off m_known (nI q))) n x) ?_ ?_ 17 (by omega)
    · intro n
      show (FX9_isNever_15 m_facts (nI N) m_kind m_head m_body m_off m_known (nI q)) _ (n + 1) (nI N) = 1
      rw [FX9_isNever_15, if_pos (nI_le (Nat.le_refl N) (by omega))]; rfl
    · intro n i hi
      show (FX9_isNever_15 m_facts (nI N) m_kind m_head m_body m_off m_known (nI q)) _ (n + 1) (nI i) = _
      rw [FX9_isNever_15, if_neg (nI_ge hi (by omega))]
      unfold aStr aNb
      simp only [bnd, zi0, r_isFor (show i < 16 by omega), nI_clamp (show i < 2 ^ 31 by omega), nI_1, zc1]
      cases aFor m_head m_off i (nI q)
      · rfl
      · by_cases h1 : m_kind i = 0
        · by_cases h2 : m_body i &&& m_known 1 = 0
          · rw [if_neg (by decide), if_pos h1, if_pos h2, decide_eq_true h1, decide_eq_true h2]; rfl
          · rw [if_neg (by decide), if_pos h1, if_neg h2, decide_eq_true h1, decide_eq_false h2]; rfl
        · rw [if_neg (by decide), if_neg h1, decide_eq_false h1]; rfl
  · rfl
/-- the first forward rule that applies; above one -/
def aFr1 (kd hd bd ex of : Nat → Int32) (N : Nat) (K : Nat → Int32) (q : Nat) : Int32 := if zE (aFrc kd hd bd ex of K q) N = true then nI (zF (aFrc kd hd bd ex of K q) N) else -1
def aFr2 (kd hd bd ex sg of ov : Nat → Int32) (N : Nat) (K : Nat → Int32) (q o : Nat) : Int32 := if zE (fun s => aFrc kd hd bd ex of K q s && aAbv sg ov s o) N = true then nI (zF (fun s => aFrc kd hd bd ex of K q s && aAbv sg ov s o) N) else -1
theorem zEF {p : Nat → Bool} {N : Nat} {a b : Int32} : (if zF p N < N then a else b) = if zE p N = true then a else b := by
  unfold zE
  by_cases c : zF p N < N
  · rw [if_pos c, if_pos (decide_eq_true c)]
  · rw [if_neg c, if_neg (by rw [decide_eq_false c]; exact Bool.false_ne_true)]
theorem r_forcing1 {q : Nat} (hN : N ≤ 16) : (FX9_forcing (nI N) m_kind m_head m_body m_except m_strength m_off m_over m_known (nI q) (-1)) = aFr1 m_kind m_head m_body m_except m_off N m_known q := by
  unfold FX9_forcing aFr1
  rw [← zEF]
  refine zfindL (L := fun n x => (FX9_forcing_2 (nI N) m_kind m_head m_body m_except m_strength m_off m_over m_known (nI q) (-1)) ((FX9_forcing_48 (nI N) m_kind m_head m_body m_except m_strength m_off m_over m_known (nI q) (-1))) n x) (kt := -1) (out := fun r => nI r) N ?_ ?_ 17 0 (Nat.zero_le N) (by omega)
  · intro n
    show (FX9_forcing_2 (nI N) m_kind m_head m_body m_except m_strength m_off m_over m_known (nI q) (-1)) _ (n + 1) (nI N) = -1
    rw [FX9_forcing_2, if_pos (nI_le (Nat.le_refl N) (by omega))]; rfl
  · intro n i hi
    show (FX9_forcing_2 (nI N) m_kind m_head m_body m_except m_strength m_off m_over m_known (nI q) (-1)) _ (n + 1) (nI i) = _
    rw [FX9_forcing_2, if_neg (nI_ge hi (by omega))]
    unfold aFrc
    simp only [bnd, zi0, r_isForward (show i < 16 by omega), r_applies (show i < 16 by omega), nI_1]
    cases aFwd m_kind m_head m_off i (nI q)
    · rfl
    · cases aApp m_body m_except m_known i <;> rfl
theorem r_forcing2 {q o : Nat} (hN : N ≤ 16) (ho : o < 16) : (FX9_forcing (nI N) m_kind m_head m_body m_except m_strength m_off m_over m_known (nI q) (nI o)) = aFr2 m_kind m_head m_body m_except m_strength m_off m_over N m_known q o := by
  unfold FX9_forcing aFr2
  rw [← zEF]
  refine zfindL (L := fun n x => (FX9_forcing_2 (nI N) m_kind m_head m_body m_except m_strength m_off m_over m_known (nI q) (nI o)) ((FX9_forcing_48 (nI N) m_kind m_head m_body m_except m_strength m_off m_over m_known (nI q) (nI o))) n x) (kt := -1) (out := fun r => nI r) N ?_ ?_ 17 0 (Nat.zero_le N) (by omega)
  · intro n
    show (FX9_forcing_2 (nI N) m_kind m_head m_body m_except m_strength m_off m_over m_known (nI q) (nI o)) _ (n + 1) (nI N) = -1
    rw [FX9_forcing_2, if_pos (nI_le (Nat.le_refl N) (by omega))]; rfl
  · intro n i hi
    show (FX9_forcing_2 (nI N) m_kind m_head m_body m_except m_strength m_off m_over m_known (nI q) (nI o)) _ (n + 1) (nI i) = _
    rw [FX9_forcing_2, if_neg (nI_ge hi (by omega))]
    unfold aFrc
    simp only [bnd, zi0, r_isForward (show i < 16 by omega), r_applies (show i < 16 by omega), r_isAbove (show i < 16 by omega) ho, nI_1, if_neg (nI_pos (show o < 2 ^ 31 by omega))]
    cases aFwd m_kind m_head m_off i (nI q)
    · rfl
    · cases aApp m_body m_except m_known i
      · rfl
      · cases aAbv m_strength m_over i o <;> rfl
theorem zfr_0le {b : Bool} {k : Nat} (hk : k < 2 ^ 31) : (0 ≤ (if b = true then nI k else -1)) ↔ b = true := by
  cases b
  · simp
  · simp [nI_pos' hk]
theorem zfr_lt0 {b : Bool} {k : Nat} (hk : k < 2 ^ 31) : ((if b = true then nI k else -1) < 0) ↔ b = false := by
  cases b
  · simp
  · simp [nI_pos hk]
theorem aFr1_0 {kd hd bd ex of : Nat → Int32} {K : Nat → Int32} {q : Nat} (hN : N ≤ 16) : (0 ≤ aFr1 kd hd bd ex of N K q) ↔ zE (aFrc kd hd bd ex of K q) N = true := zfr_0le (by have := zF_le (aFrc kd hd bd ex of K q) N; omega)
theorem aFr2_0 {kd hd bd ex sg of ov : Nat → Int32} {K : Nat → Int32} {q o : Nat} (hN : N ≤ 16) : (0 ≤ aFr2 kd hd bd ex sg of ov N K q o) ↔ zE (fun s => aFrc kd hd bd ex of K q s && aAbv sg ov s o) N = true := zfr_0le (by have := zF_le (fun s => aFrc kd hd bd ex of K q s && aAbv sg ov s o) N; omega)
theorem aFr2_l {kd hd bd ex sg of ov : Nat → Int32} {K : Nat → Int32} {q o : Nat} (hN : N ≤ 16) : (aFr2 kd hd bd ex sg of ov N K q o < 0) ↔ zE (fun s => aFrc kd hd bd ex of K q s && aAbv sg ov s o) N = false := zfr_lt0 (by have := zF_le (fun s => aFrc kd hd bd ex of K q s && aAbv sg ov s o) N; omega)
theorem r_isLikely {q : Nat} (hN : N ≤ 16) (hq : q < 20) : (FX9_isLikely (nI N) m_kind m_head m_body m_except m_strength m_off m_over m_known (nI q)) = zi (aLikely m_kind m_head m_body m_except m_strength m_off m_over N m_known q) := by
  have ho := aOth_lt hq
  unfold FX9_isLikely aLikely
  simp only [bnd, zi0, zh9 (show q < 32 by omega), aOth9 hq, zh9 (show aOth q < 32 by omega), zc0, zc1, r_forcing1 hN, aFr1_0 hN]
  cases zb (m_known 0) q
  · rw [if_pos rfl]
    cases zb (m_known 1) (aOth q)
    · rfl
    · rw [if_neg (by decide)]
      cases zE (aFrc m_kind m_head m_body m_except m_off m_known q) N
      · rfl
      · rw [if_pos rfl]
        simp only [Bool.false_or, Bool.true_and]
        refine zfindA (p := aThr m_kind m_head m_body m_except m_strength m_off m_over N m_known q) (L := fun n x => (FX9_isLikely_44 (nI N) m_kind m_head m_body m_except m_strength m_off m_over m_known (nI q)) ((FX9_isLikely_89 (nI N) m_kind m_head m_body m_except m_strength m_off m_over m_known (nI q))) n x) ?_ ?_ 17 (by omega)
        · intro n
          show (FX9_isLikely_44 (nI N) m_kind m_head m_body m_except m_strength m_off m_over m_known (nI q)) _ (n + 1) (nI N) = 1
          rw [FX9_isLikely_44, if_pos (nI_le (Nat.le_refl N) (by omega))]; rfl
        · intro n i hi
          show (FX9_isLikely_44 (nI N) m_kind m_head m_body m_except m_strength m_off m_over m_known (nI q)) _ (n + 1) (nI i) = _
          rw [FX9_isLikely_44, if_neg (nI_ge hi (by omega))]
          unfold aThr
          simp only [bnd, zi0, aOth9 hq, r_isFor (show i < 16 by omega), r_falls (show i < 16 by omega), r_forcing2 hN (show i < 16 by omega), aFr2_0 hN, nI_1]
          cases aFor m_head m_off i (nI (aOth q))
          · rfl
          · cases aFal m_body m_except m_known i
            · cases zE (fun s => aFrc m_kind m_head m_body m_except m_off m_known q s && aAbv m_strength m_over s i) N <;> rfl
            · rfl
  · rfl
theorem r_allFall {q : Nat} (hN : N ≤ 16) : (FX9_allFall (nI N) m_kind m_head m_body m_except m_off m_known (nI q)) = zi (!zE (aUnf m_kind m_head m_body m_except m_off m_known q) N) := by
  unfold FX9_allFall
  refine zfindA (p := aUnf m_kind m_head m_body m_except m_off m_known q) (L := fun n x => (FX9_allFall_2 (nI N) m_kind m_head m_body m_except m_off m_known (nI q)) ((FX9_allFall_35 (nI N) m_kind m_head m_body m_except m_off m_known (nI q))) n x) ?_ ?_ 17 (by omega)
  · intro n
    show (FX9_allFall_2 (nI N) m_kind m_head m_body m_except m_off m_known (nI q)) _ (n + 1) (nI N) = 1
    rw [FX9_allFall_2, if_pos (nI_le (Nat.le_refl N) (by omega))]; rfl
  · intro n i hi
    show (FX9_allFall_2 (nI N) m_kind m_head m_body m_except m_off m_known (nI q)) _ (n + 1) (nI i) = _
    rw [FX9_allFall_2, if_neg (nI_ge hi (by omega))]
    unfold aUnf
    simp only [bnd, zi0, r_isForward (show i < 16 by omega), r_falls (show i < 16 by omega), nI_1]
    cases aFwd m_kind m_head m_off i (nI q)
    · rfl
    · cases aFal m_body m_except m_known i <;> rfl
theorem r_isBeaten {q o : Nat} (hN : N ≤ 16) (ho : o < 16) : (FX9_isBeaten (nI N) m_kind m_head m_body m_except m_strength m_off m_over m_known (nI o) (nI q)) = zi (zE (fun s => aUnf m_kind m_head m_body m_except m_off m_known q s && aAbv m_strength m_over s o) N) := by
  unfold FX9_isBeaten
  refine zfindB (p := fun s => aUnf m_kind m_head m_body m_except m_off m_known q s && aAbv m_strength m_over s o) (L := fun n x => (FX9_isBeaten_2 (nI N) m_kind m_head m_body m_except m_strength m_off m_over m_known (nI o) (nI q)) ((FX9_isBeaten_44 (nI N) m_kind m_head m_body m_except m_strength m_off m_over m_known (nI o) (nI q))) n x) ?_ ?_ 17 (by omega)
  · intro n
    show (FX9_isBeaten_2 (nI N) m_kind m_head m_body m_except m_strength m_off m_over m_known (nI o) (nI q)) _ (n + 1) (nI N) = 0
    rw [FX9_isBeaten_2, if_pos (nI_le (Nat.le_refl N) (by omega))]; rfl
  · intro n i hi
    show (FX9_isBeaten_2 (nI N) m_kind m_head m_body m_except m_strength m_off m_over m_known (nI o) (nI q)) _ (n + 1) (nI i) = _
    rw [FX9_isBeaten_2, if_neg (nI_ge hi (by omega))]
    unfold aUnf
    simp only [bnd, zi0, r_isForward (show i < 16 by omega), r_falls (show i < 16 by omega), r_isAbove (show i < 16 by omega) ho, nI_1]
    cases aFwd m_kind m_head m_off i (nI q)
    · rfl
    · cases aFal m_body m_except m_known i
      · cases aAbv m_strength m_over i o <;> rfl
      · rfl
def aHin (kd hd bd ex sg of ov : Nat → Int32) (N : Nat) (K : Nat → Int32) (q : Nat) : Int32 := if zE (aVic kd hd bd ex sg of ov N K q) N = true then nI (zF (aVic kd hd bd ex sg of ov N K q) N) else -1
theorem r_hindering {q : Nat} (hN : N ≤ 16) (hq : q < 20) : (FX9_hindering (nI N) m_kind m_head m_body m_except m_strength m_off m_over m_known (nI q)) = aHin m_kind m_head m_body m_except m_strength m_off m_over N m_known q := by
  unfold FX9_hindering aHin
  rw [← zEF]
  refine zfindL (L := fun n x => (FX9_hindering_2 (nI N) m_kind m_head m_body m_except m_strength m_off m_over m_known (nI q)) ((FX9_hindering_47 (nI N) m_kind m_head m_body m_except m_strength m_off m_over m_known (nI q))) n x) (kt := -1) (out := fun r => nI r) N ?_ ?_ 17 0 (Nat.zero_le N) (by omega)
  · intro n
    show (FX9_hindering_2 (nI N) m_kind m_head m_body m_except m_strength m_off m_over m_known (nI q)) _ (n + 1) (nI N) = -1
    rw [FX9_hindering_2, if_pos (nI_le (Nat.le_refl N) (by omega))]; rfl
  · intro n i hi
    show (FX9_hindering_2 (nI N) m_kind m_head m_body m_except m_strength m_off m_over m_known (nI q)) _ (n + 1) (nI i) = _
    rw [FX9_hindering_2, if_neg (nI_ge hi (by omega))]
    unfold aVic
    simp only [bnd, zi0, aOth9 hq, r_isFor (show i < 16 by omega), r_applies (show i < 16 by omega), r_isBeaten hN (show i < 16 by omega), nI_1]
    cases aFor m_head m_off i (nI (aOth q))
    · rfl
    · cases aApp m_body m_except m_known i
      · rfl
      · cases zE (fun s => aUnf m_kind m_head m_body m_except m_off m_known q s && aAbv m_strength m_over s i) N <;> rfl
theorem aHin_l {kd hd bd ex sg of ov : Nat → Int32} {K : Nat → Int32} {q : Nat} (hN : N ≤ 16) : (aHin kd hd bd ex sg of ov N K q < 0) ↔ zE (aVic kd hd bd ex sg of ov N K q) N = false := zfr_lt0 (by have := zF_le (aVic kd hd bd ex sg of ov N K q) N; omega)
theorem r_isUnlikely {q : Nat} (hN : N ≤ 16) (hq : q < 20) : (FX9_isUnlikely (nI N) m_kind m_head m_body m_except m_strength m_off m_over m_known (nI q)) = zi (aUnlikely m_kind m_head m_body m_except m_strength m_off m_over N m_known q) := by
  have ho := aOth_lt hq
  unfold FX9_isUnlikely aUnlikely
  simp only [bnd, zi0, zh9 (show q < 32 by omega), aOth9 hq, zh9 (show aOth q < 32 by omega), zc0, zc1, r_allFall hN, r_hindering hN hq, aHin_l hN]
  cases zb (m_known 1) q
  · rfl
  · cases zE (aUnf m_kind m_head m_body m_except m_off m_known q) N
    · rfl
    · cases zb (m_known 0) (aOth q)
      · cases zE (aVic m_kind m_head m_body m_except m_strength m_off m_over N m_known q) N <;> rfl
      · rfl
theorem r_holds {t q : Nat} (hN : N ≤ 16) (ht : t < 4) (hq : q < 20) : (FX9_holds m_facts (nI N) m_kind m_head m_body m_except m_strength m_off m_over m_known (nI t) (nI q)) = zi (aHolds m_kind m_head m_body m_except m_strength m_off m_over m_facts N m_known t q) := by
  unfold FX9_holds
  simp only [bnd, zi0, r_isSure hN hq, r_isNever hN hq, r_isLikely hN hq, r_isUnlikely hN hq]
  rcases (show t = 0 ∨ t = 1 ∨ t = 2 ∨ t = 3 by omega) with rfl | rfl | rfl | rfl <;> rfl
end ZREF
