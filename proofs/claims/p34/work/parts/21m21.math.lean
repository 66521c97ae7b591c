/-! nothing is sure and never so, likely and unlikely -/
theorem zin_and {a b : Int32} (h : a &&& (b ^^^ (-1)) = 0) : ∀ q, zb a q = true → zb b q = true := fun q hq => by
  have hq32 : q < 32 := by
    rcases Nat.lt_or_ge q 32 with z | z
    · exact z
    · unfold zb at hq
      rw [BitVec.getLsbD_of_ge _ _ z] at hq
      cases hq
  have h1 : zb (a &&& (b ^^^ (-1))) q = false := by rw [h, zb_0]
  rw [zb_and, zb_not hq32, hq] at h1
  cases e : zb b q
  · rw [e] at h1; cases h1
  · rfl
theorem zbit_ex {x : Int32} (h : ¬ x = 0) : ∃ q, zb x q = true := by
  by_cases he : ∃ q, zb x q = true
  · exact he
  · exact absurd (zb_ext (fun q _ => by
      rw [zb_0]
      cases hz : zb x q
      · rfl
      · exact absurd ⟨q, hz⟩ he)) h
def zmk (p : Nat → Bool) : Nat → Int32
  | 0 => 0
  | n + 1 => if p n = true then zmk p n ||| (1 <<< (nI n &&& 31)) else zmk p n
theorem zmk_M (p : Nat → Bool) : ∀ n : Nat, n ≤ 32 → zM (zmk p n) n p
  | 0, _ => zM_0 p
  | n + 1, h => by
    show zM (if p n = true then zmk p n ||| (1 <<< (nI n &&& 31)) else zmk p n) (n + 1) p
    cases e : p n
    · rw [if_neg Bool.false_ne_true]; exact zM_n (zmk_M p n (by omega)) e
    · rw [if_pos rfl]; exact zM_y (zmk_M p n (by omega)) (by omega) e
/-- what was known ahead of a round -/
def zKc (c : Nat → Int32) (ρ : Nat) : Nat → Int32 := fun t => zmk (zah c ρ t) 20
theorem zKc_M (c : Nat → Int32) (ρ t : Nat) : zM (zKc c ρ t) 20 (zah c ρ t) := zmk_M _ 20 (by decide)
/-- the round of a tag, 0 where it doesn't come -/
def zcr (c : Nat → Int32) (t q : Nat) : Nat := (c (20 * t + q)).toNatClampNeg
section ZCONS
variable {kd hd bd ex sg of ov c : Nat → Int32} {fa : Int32} {N k : Nat}
theorem zcr_e (h : zQr kd hd bd ex sg of ov fa N k c) (hk : k ≤ 80) {t q : Nat} (ht : t < 4) (hq : q < 20) : c (20 * t + q) = nI (zcr c t q) ∧ zcr c t q ≤ k := by
  obtain ⟨g, hg, e⟩ := h.1 (20 * t + q) (by omega)
  have e2 : zcr c t q = g := by unfold zcr; rw [e, nI_clamp (by omega)]
  rw [e2]
  exact ⟨e, hg⟩
theorem zK_i (h : zQr kd hd bd ex sg of ov fa N k c) (hk : k ≤ 80) {t q ρ : Nat} (ht : t < 4) (hq : q < 20) (hρ : ρ ≤ 81) : zb (zKc c ρ t) q = true ↔ 0 < zcr c t q ∧ zcr c t q < ρ := by
  obtain ⟨e, hle⟩ := zcr_e h hk ht hq
  rw [zM_b (zKc_M c ρ t) hq, zah_nI e (by omega) (by omega), Bool.and_eq_true, decide_eq_true_iff, decide_eq_true_iff]
theorem zK_lo {ρ t q : Nat} (h : zb (zKc c ρ t) q = true) : q < 20 := by
  rw [zKc_M c ρ t q, Bool.and_eq_true] at h
  exact of_decide_eq_true h.1
theorem zheld (h : zQr kd hd bd ex sg of ov fa N k c) (hk : k ≤ 80) {t q : Nat} (ht : t < 4) (hq : q < 20) (h0 : 0 < zcr c t q) : aHolds kd hd bd ex sg of ov fa N (zKc c (zcr c t q)) t q = true := by
  obtain ⟨e, hle⟩ := zcr_e h hk ht hq
  have h1 := ((h.2 (zcr c t q) h0 hle (zKc c (zcr c t q)) (fun t' _ => zKc_M c _ t')).1 t q ht hq).mp e
  unfold aNew at h1
  rw [Bool.and_eq_true] at h1
  exact h1.2
theorem zcons1 (h : zQr kd hd bd ex sg of ov fa N k c) (hk : k ≤ 80) : ∀ n q : Nat, q < 20 → zcr c 0 q + zcr c 1 q ≤ n → 0 < zcr c 0 q → 0 < zcr c 1 q → False
  | 0, q, hq, hn, h0, h1 => by omega
  | n + 1, q, hq, hn, h0, h1 => by
    have b0 := (zcr_e h hk (t := 0) (by decide) hq).2
    have b1 := (zcr_e h hk (t := 1) (by decide) hq).2
    have hs : aSure kd hd bd of fa N (zKc c (zcr c 0 q)) q = true := zheld (t := 0) h hk (by decide) hq h0
    have hv : aNever kd hd bd of fa N (zKc c (zcr c 1 q)) q = true := zheld (t := 1) h hk (by decide) hq h1
    unfold aSure at hs
    unfold aNever at hv
    rw [Bool.and_eq_true] at hv
    obtain ⟨v1, v2⟩ := hv
    rw [Bool.or_eq_true] at hs
    rcases hs with s1 | s1
    · rw [s1] at v1; exact absurd v1 (by decide)
    · obtain ⟨r, hr, hp⟩ := zE_t.mp s1
      have hp : (aStr kd hd of r (nI q) && aSb bd (zKc c (zcr c 0 q)) r) = true := hp
      rw [Bool.and_eq_true] at hp
      obtain ⟨p1, p2⟩ := hp
      have v3 : zE (fun r => aStr kd hd of r (nI q) && !aNb bd (zKc c (zcr c 1 q)) r) N = false := by
        cases e : zE (fun r => aStr kd hd of r (nI q) && !aNb bd (zKc c (zcr c 1 q)) r) N
        · rfl
        · rw [e] at v2; exact absurd v2 (by decide)
      have v4 : (aStr kd hd of r (nI q) && !aNb bd (zKc c (zcr c 1 q)) r) = false := zE_f.mp v3 r hr
      rw [p1, Bool.true_and] at v4
      unfold aNb at v4
      have v5 : ¬ bd r &&& zKc c (zcr c 1 q) 1 = 0 := fun e => by
        rw [decide_eq_true e] at v4
        exact absurd v4 (by decide)
      obtain ⟨b, hb⟩ := zbit_ex v5
      rw [zb_and, Bool.and_eq_true] at hb
      unfold aSb at p2
      have hb0 := zin_and (of_decide_eq_true p2) b hb.1
      have hb20 := zK_lo hb0
      have i0 := (zK_i h hk (t := 0) (by decide) hb20 (by omega)).mp hb0
      have i1 := (zK_i h hk (t := 1) (by decide) hb20 (by omega)).mp hb.2
      exact zcons1 h hk n b hb20 (by omega) i0.1 i1.1
theorem zappfal (h : zQr kd hd bd ex sg of ov fa N k c) (hk : k ≤ 80) {r x y : Nat} (hx : x ≤ 81) (hy : y ≤ 81) (ha : aApp bd ex (zKc c x) r = true) (hf : aFal bd ex (zKc c y) r = true) : ∃ b : Nat, b < 20 ∧ 0 < zcr c 2 b ∧ 0 < zcr c 3 b ∧ ((zcr c 2 b < x ∧ zcr c 3 b < y) ∨ (zcr c 3 b < x ∧ zcr c 2 b < y)) := by
  unfold aApp at ha
  rw [Bool.and_eq_true] at ha
  have a1 := zin_and (of_decide_eq_true ha.1)
  have a2 := zin_and (of_decide_eq_true ha.2)
  unfold aFal at hf
  by_cases e1 : bd r &&& zKc c y 3 = 0
  · have e2 : ¬ ex r &&& zKc c y 2 = 0 := fun e2 => by
      rw [decide_eq_true e1, decide_eq_true e2] at hf
      exact absurd hf (by decide)
    obtain ⟨b, hb⟩ := zbit_ex e2
    rw [zb_and, Bool.and_eq_true] at hb
    have hb20 := zK_lo hb.2
    have i2 := (zK_i h hk (t := 2) (by decide) hb20 hy).mp hb.2
    have i3 := (zK_i h hk (t := 3) (by decide) hb20 hx).mp (a2 b hb.1)
    exact ⟨b, hb20, i2.1, i3.1, Or.inr ⟨i3.2, i2.2⟩⟩
  · obtain ⟨b, hb⟩ := zbit_ex e1
    rw [zb_and, Bool.and_eq_true] at hb
    have hb20 := zK_lo hb.2
    have i3 := (zK_i h hk (t := 3) (by decide) hb20 hy).mp hb.2
    have i2 := (zK_i h hk (t := 2) (by decide) hb20 hx).mp (a1 b hb.1)
    exact ⟨b, hb20, i2.1, i3.1, Or.inl ⟨i2.2, i3.2⟩⟩
theorem zandl {a b : Bool} (h : (a && b) = false) (ha : a = true) : b = false := by rw [ha] at h; exact h
theorem znotf {a : Bool} (h : (!a) = true) : a = false := by cases a <;> first | rfl | exact absurd h (by decide)
theorem znott {a : Bool} (h : (!a) = false) : a = true := by cases a <;> first | rfl | exact absurd h (by decide)
theorem zcons2 (h : zQr kd hd bd ex sg of ov fa N k c) (hk : k ≤ 80) : ∀ n q : Nat, q < 20 → zcr c 2 q + zcr c 3 q ≤ n → 0 < zcr c 2 q → 0 < zcr c 3 q → False
  | 0, q, hq, hn, h2, h3 => by omega
  | n + 1, q, hq, hn, h2, h3 => by
    have ho := aOth_lt hq
    have b2 := (zcr_e h hk (t := 2) (by decide) hq).2
    have b3 := (zcr_e h hk (t := 3) (by decide) hq).2
    have hl : aLikely kd hd bd ex sg of ov N (zKc c (zcr c 2 q)) q = true := zheld (t := 2) h hk (by decide) hq h2
    have hu : aUnlikely kd hd bd ex sg of ov N (zKc c (zcr c 3 q)) q = true := zheld (t := 3) h hk (by decide) hq h3
    unfold aLikely at hl
    unfold aUnlikely at hu
    rw [Bool.and_eq_true] at hu
    obtain ⟨u1, u2⟩ := hu
    have n1 := ((zK_i h hk (t := 1) (by decide) hq (by omega)).mp u1).1
    have nc : ∀ r : Nat, aApp bd ex (zKc c (zcr c 2 q)) r = true → aFal bd ex (zKc c (zcr c 3 q)) r = true → False := fun r ha hf => by
      obtain ⟨b, hb, p2, p3, hlt⟩ := zappfal h hk (by omega) (by omega) ha hf
      exact zcons2 h hk n b hb (by rcases hlt with ⟨_, _⟩ | ⟨_, _⟩ <;> omega) p2 p3
    have nc' : ∀ r : Nat, aApp bd ex (zKc c (zcr c 3 q)) r = true → aFal bd ex (zKc c (zcr c 2 q)) r = true → False := fun r ha hf => by
      obtain ⟨b, hb, p2, p3, hlt⟩ := zappfal h hk (by omega) (by omega) ha hf
      exact zcons2 h hk n b hb (by rcases hlt with ⟨_, _⟩ | ⟨_, _⟩ <;> omega) p2 p3
    rw [Bool.or_eq_true] at hl
    rcases hl with l1 | l1
    · exact zcons1 h hk _ q hq (Nat.le_refl _) ((zK_i h hk (t := 0) (by decide) hq (by omega)).mp l1).1 n1
    · rw [Bool.and_eq_true, Bool.and_eq_true] at l1
      obtain ⟨⟨m1, m2⟩, m3⟩ := l1
      have m3 := znotf m3
      rw [Bool.or_eq_true, Bool.or_eq_true] at u2
      rcases u2 with (u2 | u2) | u2
      · have u2 := znotf u2
        obtain ⟨r, hr, hp⟩ := zE_t.mp m2
        unfold aFrc at hp
        rw [Bool.and_eq_true] at hp
        have hf := zE_f.mp u2 r hr
        unfold aUnf at hf
        exact nc r hp.2 (znott (zandl hf hp.1))
      · exact zcons1 h hk _ (aOth q) ho (Nat.le_refl _) ((zK_i h hk (t := 0) (by decide) ho (by omega)).mp u2).1 ((zK_i h hk (t := 1) (by decide) ho (by omega)).mp m1).1
      · obtain ⟨s, hs, hp⟩ := zE_t.mp u2
        unfold aVic at hp
        rw [Bool.and_eq_true, Bool.and_eq_true] at hp
        obtain ⟨⟨p1, p2⟩, p3⟩ := hp
        have p3 := znotf p3
        have ht := zE_f.mp m3 s hs
        unfold aThr at ht
        cases eF : aFal bd ex (zKc c (zcr c 2 q)) s
        · rw [p1, eF] at ht
          have ht := znott (zandl (show ((true && !false) && !zE (fun x => aFrc kd hd bd ex of (zKc c (zcr c 2 q)) q x && aAbv sg ov x s) N) = false from ht) rfl)
          obtain ⟨x, hx, hpx⟩ := zE_t.mp ht
          have hpx : (aFrc kd hd bd ex of (zKc c (zcr c 2 q)) q x && aAbv sg ov x s) = true := hpx
          unfold aFrc at hpx
          rw [Bool.and_eq_true, Bool.and_eq_true] at hpx
          have hv := zE_f.mp p3 x hx
          have hv : (aUnf kd hd bd ex of (zKc c (zcr c 3 q)) q x && aAbv sg ov x s) = false := hv
          unfold aUnf at hv
          rw [hpx.1.1, hpx.2, Bool.true_and, Bool.and_true] at hv
          exact nc x hpx.1.2 (znott hv)
        · exact nc' s p2 eF
/-- what is known at the end -/
theorem zK_mono (h : zQr kd hd bd ex sg of ov fa N k c) (hk : k ≤ 80) {t q ρ : Nat} (ht : t < 4) (hρ : ρ ≤ k + 1) (hz : zb (zKc c ρ t) q = true) : zb (zKc c (k + 1) t) q = true := by
  have hq := zK_lo hz
  have := (zK_i h hk ht hq (by omega)).mp hz
  exact (zK_i h hk ht hq (by omega)).mpr ⟨this.1, by omega⟩
theorem zand_of {a b : Int32} (h : ∀ q, q < 32 → zb a q = true → zb b q = true) : a &&& (b ^^^ (-1)) = 0 := zb_ext (fun q hq => by
  rw [zb_and, zb_not hq, zb_0]
  cases e : zb a q
  · rfl
  · rw [h q hq e]; rfl)
theorem zapp_mono (h : zQr kd hd bd ex sg of ov fa N k c) (hk : k ≤ 80) {r ρ : Nat} (hρ : ρ ≤ k + 1) (ha : aApp bd ex (zKc c ρ) r = true) : aApp bd ex (zKc c (k + 1)) r = true := by
  unfold aApp at ha ⊢
  rw [Bool.and_eq_true] at ha ⊢
  exact ⟨decide_eq_true (zand_of (fun q _ hq => zK_mono h hk (by decide) hρ (zin_and (of_decide_eq_true ha.1) q hq))), decide_eq_true (zand_of (fun q _ hq => zK_mono h hk (by decide) hρ (zin_and (of_decide_eq_true ha.2) q hq)))⟩
theorem aOth2 {q : Nat} (h : q < 20) : aOth (aOth q) = q := by unfold aOth; split <;> split <;> omega
/-- both sides likely, the one not sure: each forward rule that applies has one of the other side above it -/
theorem zchain (h : zQr kd hd bd ex sg of ov fa N k c) (hk : k ≤ 80) {y : Nat} (hy : y < 20) (h2 : 0 < zcr c 2 y) (h0 : zcr c 0 y = 0) : (∃ s : Nat, s < N ∧ aFwd kd hd of s (nI y) = true ∧ aApp bd ex (zKc c (k + 1)) s = true) ∧ (0 < zcr c 1 (aOth y)) ∧ ∀ r : Nat, r < N → aFwd kd hd of r (nI (aOth y)) = true → aApp bd ex (zKc c (k + 1)) r = true → ∃ s : Nat, s < N ∧ aFwd kd hd of s (nI y) = true ∧ aApp bd ex (zKc c (k + 1)) s = true ∧ aAbv sg ov s r = true := by
  have ho := aOth_lt hy
  have b2 := (zcr_e h hk (t := 2) (by decide) hy).2
  have hl : aLikely kd hd bd ex sg of ov N (zKc c (zcr c 2 y)) y = true := zheld (t := 2) h hk (by decide) hy h2
  unfold aLikely at hl
  rw [Bool.or_eq_true] at hl
  rcases hl with l1 | l1
  · have := ((zK_i h hk (t := 0) (by decide) hy (by omega)).mp l1).1
    omega
  · rw [Bool.and_eq_true, Bool.and_eq_true] at l1
    obtain ⟨⟨m1, m2⟩, m3⟩ := l1
    have m3 := znotf m3
    refine ⟨?_, ((zK_i h hk (t := 1) (by decide) ho (by omega)).mp m1).1, fun r hr hw ha => ?_⟩
    · obtain ⟨r, hr, hp⟩ := zE_t.mp m2
      unfold aFrc at hp
      rw [Bool.and_eq_true] at hp
      exact ⟨r, hr, hp.1, zapp_mono h hk (by omega) hp.2⟩
    · have ht := zE_f.mp m3 r hr
      unfold aThr at ht
      unfold aFwd at hw
      rw [Bool.and_eq_true] at hw
      have nf : aFal bd ex (zKc c (zcr c 2 y)) r = false := by
        cases e : aFal bd ex (zKc c (zcr c 2 y)) r
        · rfl
        · obtain ⟨b, hb, p2, p3, -⟩ := zappfal h hk (by omega) (by omega) ha e
          exact (zcons2 h hk _ b hb (Nat.le_refl _) p2 p3).elim
      rw [hw.1, nf] at ht
      have ht := znott (zandl (show ((true && !false) && !zE (fun x => aFrc kd hd bd ex of (zKc c (zcr c 2 y)) y x && aAbv sg ov x r) N) = false from ht) rfl)
      obtain ⟨x, hx, hpx⟩ := zE_t.mp ht
      have hpx : (aFrc kd hd bd ex of (zKc c (zcr c 2 y)) y x && aAbv sg ov x r) = true := hpx
      unfold aFrc at hpx
      rw [Bool.and_eq_true, Bool.and_eq_true] at hpx
      exact ⟨x, hx, hpx.1.1, zapp_mono h hk (by omega) hpx.1.2, hpx.2⟩
end ZCONS
