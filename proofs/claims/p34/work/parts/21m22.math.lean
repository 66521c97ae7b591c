/-! rules that are above one another: paths, what is reached, circles -/
def zpt (E : Nat → Nat → Bool) : Nat → Nat → Nat → Prop
  | 0, r, s => E r s = true
  | n + 1, r, s => ∃ m : Nat, E r m = true ∧ zpt E n m s
theorem zpt_app {E : Nat → Nat → Bool} {m : Nat} : ∀ (n : Nat) {a b c : Nat}, zpt E n a b → zpt E m b c → ∃ j : Nat, zpt E j a c
  | 0, a, b, c, h, h' => ⟨m + 1, b, h, h'⟩
  | n + 1, a, b, c, h, h' => by
    obtain ⟨x, h1, h2⟩ := h
    obtain ⟨j, hj⟩ := zpt_app n h2 h'
    exact ⟨j + 1, x, h1, hj⟩
theorem zpt_rot {E : Nat → Nat → Bool} {r : Nat} : ∀ n : Nat, zpt E n r r → ∃ m : Nat, E r m = true ∧ ∃ j : Nat, zpt E j m m
  | 0, h => ⟨r, h, 0, h⟩
  | n + 1, h => by
    obtain ⟨m, h1, h2⟩ := h
    refine ⟨m, h1, ?_⟩
    exact zpt_app (m := 0) n h2 h1
theorem zpt_last {E : Nat → Nat → Bool} : ∀ (n : Nat) {a b : Nat}, zpt E n a b → ∃ m : Nat, E m b = true ∧ (a = m ∨ ∃ j : Nat, zpt E j a m)
  | 0, a, b, h => ⟨a, h, Or.inl rfl⟩
  | n + 1, a, b, h => by
    obtain ⟨x, h1, h2⟩ := h
    obtain ⟨m, h3, h4⟩ := zpt_last n h2
    refine ⟨m, h3, Or.inr ?_⟩
    rcases h4 with rfl | ⟨j, h4⟩
    · exact ⟨0, h1⟩
    · exact ⟨j + 1, x, h1, h4⟩
theorem zpt_tor {E : Nat → Nat → Bool} {r n : Nat} (h : zpt E n r r) : ∃ m : Nat, E m r = true ∧ ∃ j : Nat, zpt E j m m := by
  obtain ⟨m, h1, h2⟩ := zpt_last n h
  refine ⟨m, h1, ?_⟩
  rcases h2 with rfl | ⟨j, h2⟩
  · exact ⟨0, h1⟩
  · exact zpt_app (m := j) 0 h1 h2
/-- a row of reach, whole -/
theorem zrow_at (b : Nat) (f : Nat → Int32) : ∀ n r : Nat, zrow b n f r = if r < n ∧ zb (f r) b = true then f r ||| f b else f r
  | 0, r => by rw [if_neg (fun z => absurd z.1 (Nat.not_lt_zero r))]; rfl
  | n + 1, r => by
    have hb : zrow b n f b = f b := by
      rw [zrow_at b f n b]
      split
      · exact zb_ext (fun q _ => by rw [zb_or, Bool.or_self])
      · rfl
    have hn : zrow b n f n = f n := by rw [zrow_at b f n n, if_neg (fun z => absurd z.1 (Nat.lt_irrefl n))]
    rw [zrow_s]
    unfold zst
    rw [hb, hn]
    by_cases e : zb (f n) b = true
    · rw [if_pos e]
      by_cases hr : r = n
      · subst hr
        rw [pk_us, if_pos ⟨Nat.lt_succ_self r, e⟩]
      · rw [pk_un hr, zrow_at b f n r]
        by_cases c : r < n ∧ zb (f r) b = true
        · rw [if_pos c, if_pos ⟨by omega, c.2⟩]
        · rw [if_neg c, if_neg (fun z => c ⟨by omega, z.2⟩)]
    · rw [if_neg e, zrow_at b f n r]
      by_cases c : r < n ∧ zb (f r) b = true
      · rw [if_pos c, if_pos ⟨by omega, c.2⟩]
      · rw [if_neg c, if_neg (fun z => c ⟨by
          have := z.1
          rcases Nat.lt_or_ge r n with q | q
          · exact q
          · have hrn : r = n := by omega
            rw [hrn] at z
            exact absurd z.2 e, z.2⟩)]
theorem zrow_i {b r s : Nat} {f : Nat → Int32} (hr : r < 16) : zb (zrow b 16 f r) s = true ↔ zb (f r) s = true ∨ (zb (f r) b = true ∧ zb (f b) s = true) := by
  rw [zrow_at]
  by_cases e : zb (f r) b = true
  · rw [if_pos ⟨hr, e⟩, zb_or, Bool.or_eq_true]
    exact ⟨fun z => z.elim Or.inl (fun z => Or.inr ⟨e, z⟩), fun z => z.elim Or.inl (fun z => Or.inr z.2)⟩
  · rw [if_neg (fun z => e z.2)]
    exact ⟨Or.inl, fun z => z.elim id (fun z => absurd z.1 e)⟩
theorem zclo_sub {f : Nat → Int32} {r s : Nat} (hr : r < 16) (h : zb (f r) s = true) : ∀ m : Nat, zb (zclo m 16 f r) s = true
  | 0 => h
  | m + 1 => by rw [zclo_s]; exact (zrow_i hr).mpr (Or.inl (zclo_sub hr h m))
theorem zclo_tr {f : Nat → Int32} : ∀ m : Nat, m ≤ 16 → ∀ b r s : Nat, b < m → r < 16 → zb (zclo m 16 f r) b = true → zb (zclo m 16 f b) s = true → zb (zclo m 16 f r) s = true
  | 0, _, b, r, s, hb, _, _, _ => absurd hb (Nat.not_lt_zero b)
  | m + 1, hm, b, r, s, hb, hr, h1, h2 => by
    have ih := zclo_tr (f := f) m (by omega)
    rw [zclo_s] at h1 h2 ⊢
    generalize zclo m 16 f = g at h1 h2 ih ⊢
    have h1 := (zrow_i hr).mp h1
    have h2 := (zrow_i (show b < 16 by omega)).mp h2
    apply (zrow_i hr).mpr
    by_cases e : b = m
    · subst e
      have rb : zb (g r) b = true := h1.elim id (fun z => z.1)
      have bs : zb (g b) s = true := h2.elim id (fun z => z.2)
      exact Or.inr ⟨rb, bs⟩
    · have hbm : b < m := by omega
      rcases h1 with h1 | ⟨h1, h1'⟩
      · rcases h2 with h2 | ⟨h2, h2'⟩
        · exact Or.inl (ih b r s hbm hr h1 h2)
        · exact Or.inr ⟨ih b r m hbm hr h1 h2, h2'⟩
      · rcases h2 with h2 | ⟨h2, h2'⟩
        · exact Or.inr ⟨h1, ih b m s hbm (by omega) h1' h2⟩
        · exact Or.inr ⟨h1, h2'⟩
theorem zclo_pt {f : Nat → Int32} : ∀ m : Nat, m ≤ 16 → ∀ r s : Nat, r < 16 → zb (zclo m 16 f r) s = true → ∃ j : Nat, zpt (fun a b => zb (f a) b) j r s
  | 0, _, r, s, _, h => ⟨0, h⟩
  | m + 1, hm, r, s, hr, h => by
    rw [zclo_s] at h
    rcases (zrow_i hr).mp h with h | ⟨h1, h2⟩
    · exact zclo_pt m (by omega) r s hr h
    · obtain ⟨j, hj⟩ := zclo_pt m (by omega) r m hr h1
      obtain ⟨i, hi⟩ := zclo_pt m (by omega) m s (by omega) h2
      exact zpt_app j hj hi
/-- where each of some has another of them beyond it, one comes round -/
theorem zmaxl {B : Nat → Nat → Bool} {n : Nat} (ht : ∀ a b c : Nat, a < n → b < n → c < n → B a b = true → B b c = true → B a c = true) (hi : ∀ a : Nat, a < n → B a a = false) {S : Nat → Prop} (hS : ∀ r : Nat, S r → r < n ∧ ∃ s : Nat, S s ∧ B r s = true) : ∀ (m r : Nat), S r → (List.range n).countP (fun s => decide (s < n) && B r s) ≤ m → False := by
  have dec : ∀ r : Nat, S r → ∃ s : Nat, S s ∧ (List.range n).countP (fun x => decide (x < n) && B s x) < (List.range n).countP (fun x => decide (x < n) && B r x) := fun r hr => by
    obtain ⟨hrn, s, hs, hB⟩ := hS r hr
    have hsn := (hS s hs).1
    refine ⟨s, hs, zcount_lt _ _ _ (fun a ha => ?_) ⟨s, List.mem_range.mpr hsn, ?_, ?_⟩⟩
    · rw [Bool.and_eq_true] at ha ⊢
      exact ⟨ha.1, ht r s a hrn hsn (of_decide_eq_true ha.1) hB ha.2⟩
    · show (decide (s < n) && B s s) = false
      rw [hi s hsn, Bool.and_false]
    · show (decide (s < n) && B r s) = true
      rw [hB, decide_eq_true hsn]; rfl
  intro m
  induction m with
  | zero =>
    intro r hr h
    obtain ⟨s, _, hlt⟩ := dec r hr
    omega
  | succ m ih =>
    intro r hr h
    obtain ⟨s, hs, hlt⟩ := dec r hr
    exact ih s hs (by omega)
section ZCIR
variable {v_above v_reach : Nat → Int32} {sg ov : Nat → Int32} {N : Nat}
/-- what the court says of circles: those that are above one that is above one .. that is above them -/
theorem k_circ (hN : N ≤ 16) (hab : ∀ r : Nat, r < 16 → zM (v_above r) N (fun o => decide (r < N) && aAbv sg ov r o)) : ∃ x : Int32, (∃ v : Nat → Int32, FX6_circles v_above v_reach = (x, v)) ∧ (∀ r : Nat, zb x r = true → r < N ∧ ∃ j : Nat, zpt (fun a b => decide (a < N) && (decide (b < N) && aAbv sg ov a b)) j r r) ∧ (x = 0 → ∀ S : Nat → Prop, (∀ r : Nat, S r → r < N) → ((∀ r : Nat, S r → ∃ s : Nat, S s ∧ aAbv sg ov r s = true) ∨ (∀ r : Nat, S r → ∃ s : Nat, S s ∧ aAbv sg ov s r = true)) → ∀ r : Nat, ¬ S r) := by
  have hz := k_circles (v_above := v_above) (v_reach := v_reach)
  have hcp : ∀ r : Nat, r < 16 → va_cpy v_above v_reach (0 : Int32).toNatClampNeg (0 : Int32).toNatClampNeg (16 : Int32).toNatClampNeg r = v_above r := fun r hr => by
    rw [zc0, show (16 : Int32).toNatClampNeg = 16 by decide]
    unfold va_cpy
    rw [if_pos ⟨Nat.zero_le r, by omega⟩]
    congr 1
    omega
  generalize va_cpy v_above v_reach (0 : Int32).toNatClampNeg (0 : Int32).toNatClampNeg (16 : Int32).toNatClampNeg = f at hz hcp
  have hf : ∀ r s : Nat, r < 16 → (zb (f r) s = true ↔ (decide (r < N) && (decide (s < N) && aAbv sg ov r s)) = true) := fun r s hr => by
    rw [hcp r hr, hab r hr s]
    show (decide (s < N) && (decide (r < N) && aAbv sg ov r s)) = true ↔ (decide (r < N) && (decide (s < N) && aAbv sg ov r s)) = true
    cases decide (r < N) <;> cases decide (s < N) <;> cases aAbv sg ov r s <;> decide
  have hlt : ∀ (j r s : Nat), r < 16 → zpt (fun a b => zb (f a) b) j r s → zpt (fun a b => decide (a < N) && (decide (b < N) && aAbv sg ov a b)) j r s := by
    intro j
    induction j with
    | zero => exact fun r s hr h => (hf r s hr).mp h
    | succ j ih =>
      intro r s hr h
      obtain ⟨m, h1, h2⟩ := h
      have h1' := (hf r m hr).mp h1
      have hm : m < N := by
        rw [Bool.and_eq_true, Bool.and_eq_true] at h1'
        exact of_decide_eq_true h1'.2.1
      exact ⟨m, h1', ih m s (by omega) h2⟩
  refine ⟨(FX6_circles v_above v_reach).1, ⟨(FX6_circles v_above v_reach).2, rfl⟩, fun r hr => ?_, fun h0 S hS hE r hr => ?_⟩
  · have hr16 : r < 16 := by
      rcases Nat.lt_or_ge r 16 with z | z
      · exact z
      · rw [zM_o hz z] at hr; cases hr
    rw [zM_b hz hr16] at hr
    obtain ⟨j, hj⟩ := zclo_pt 16 (Nat.le_refl 16) r r hr16 hr
    have hj := hlt j r r hr16 hj
    refine ⟨?_, j, hj⟩
    cases j with
    | zero =>
      have hj : (decide (r < N) && (decide (r < N) && aAbv sg ov r r)) = true := hj
      rw [Bool.and_eq_true] at hj
      exact of_decide_eq_true hj.1
    | succ j =>
      obtain ⟨m, h1, -⟩ := hj
      rw [Bool.and_eq_true] at h1
      exact of_decide_eq_true h1.1
  · have hir : ∀ a : Nat, a < 16 → zb (zclo 16 16 f a) a = false := fun a ha => by
      rw [← zM_b hz ha, h0, zb_0]
    have htr : ∀ a b c : Nat, a < 16 → b < 16 → c < 16 → zb (zclo 16 16 f a) b = true → zb (zclo 16 16 f b) c = true → zb (zclo 16 16 f a) c = true := fun a b c ha hb _ h1 h2 => zclo_tr 16 (Nat.le_refl 16) b a c hb ha h1 h2
    have hedge : ∀ a b : Nat, a < N → b < N → aAbv sg ov a b = true → zb (zclo 16 16 f a) b = true := fun a b ha hb h => zclo_sub (by omega) ((hf a b (by omega)).mpr (by rw [decide_eq_true ha, decide_eq_true hb, h]; rfl)) 16
    rcases hE with hE | hE
    · exact zmaxl (B := fun a b => zb (zclo 16 16 f a) b) (n := 16) htr hir (S := S) (fun r hr => by
        obtain ⟨s, hs, he⟩ := hE r hr
        exact ⟨Nat.lt_of_lt_of_le (hS r hr) hN, s, hs, hedge r s (hS r hr) (hS s hs) he⟩) _ r hr (Nat.le_refl _)
    · exact zmaxl (B := fun a b => zb (zclo 16 16 f b) a) (n := 16) (fun a b c ha hb hc h1 h2 => htr c b a hc hb ha h2 h1) hir (S := S) (fun r hr => by
        obtain ⟨s, hs, he⟩ := hE r hr
        exact ⟨Nat.lt_of_lt_of_le (hS r hr) hN, s, hs, hedge s r (hS s hs) (hS r hr) he⟩) _ r hr (Nat.le_refl _)
end ZCIR
