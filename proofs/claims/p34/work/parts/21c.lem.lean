/-! the law's own: rows of an array of four and of one as long as there are rules, words -/
abbrev S10 : Type := Nat → Int32
abbrev S11 : Type := Nat → Int32
def g10_x (z : S10) : Nat → Int32 := z
def s10_x (_ : S10) (x : Nat → Int32) : S10 := x
def w10 (G : zG) (a : Nat → Nat) (z : S10) : va_W := [(a 0, .inl (G.2.1, 4, .inl (g10_x z)))]
def g11_x (z : S11) : Nat → Int32 := z
def s11_x (_ : S11) (x : Nat → Int32) : S11 := x
def w11 (G : zG) (a : Nat → Nat) (n : Nat) (z : S11) : va_W := [(a 0, .inl (G.2.1, n, .inl (g11_x z)))]
theorem gg10_x (z : S10) (x : Nat → Int32) : g10_x (s10_x z x) = x := rfl
theorem ss10_x (z : S10) (x y : Nat → Int32) : s10_x (s10_x z x) y = s10_x z y := rfl
theorem se10_x (z : S10) : s10_x z (g10_x z) = z := rfl
theorem gg11_x (z : S11) (x : Nat → Int32) : g11_x (s11_x z x) = x := rfl
theorem ss11_x (z : S11) (x y : Nat → Int32) : s11_x (s11_x z x) y = s11_x z y := rfl
theorem se11_x (z : S11) : s11_x z (g11_x z) = z := rfl
theorem wf10 (G : zG) (a : Nat → Nat) (z y : S10) : (w10 G a z).map Prod.fst = (w10 G a y).map Prod.fst := rfl
theorem wf11 (G : zG) (a : Nat → Nat) (n : Nat) (z y : S11) : (w11 G a n z).map Prod.fst = (w11 G a n y).map Prod.fst := rfl
section ZLROW
variable {p : Program} {l : Launch} {e : Env} {R : Room} {s : State} {m : MethodId} {args : Array Value} {below : List Frame} {meth : Method} {c : Code} {H : Heap} {locs : List Loc} {cells slots : Nat} {Q : State → Prop}
variable {cc : ByteArray} {pc : Nat} {ls : Array Slot} {rest st0 : List Value} {G : zG} {A : Nat → Prop} {bs bs1 : zB} {H0 : Heap} {nL : Nat} {Ts : List Cond} {own : String}
theorem zl10_x (S : CallFix p m c cc nL s args Ts own) (hK : zK G s) (hP : zP G bs H) (i : Nat) {a : Nat → Nat} {z : S10} (hi : bs[i]? = some (w10 G a z)) {j : Int32} (hin : vp_in j 4) {f : Nat → Int32} (hv : g10_x z = f) (hdg : decode cc pc = .ok (.iaload, 1)) (kk : W p l e R s m args below meth c H locs cells slots Q (F0 m (pc + 1) ls (.int (f j.toNatClampNeg) :: rest))) : W p l e R s m args below meth c H locs cells slots Q (F0 m pc ls (.int j :: .ref (a 0) :: rest)) := zald S hK hP i hi 0 rfl hin hdg (by subst hv; exact kk)
theorem zs10_x (S : CallFix p m c cc nL s args Ts own) (hK : zK G s) (hP : zP G bs H) (hD : zD A bs) (hS : va_S A H0 H locs) (i : Nat) {a : Nat → Nat} {z : S10} (hi : bs[i]? = some (w10 G a z)) {j x : Int32} (hin : vp_in j 4) {f : Nat → Int32} (hv : g10_x z = f) (hdg : decode cc pc = .ok (.iastore, 1)) (hbs : bs.set i (w10 G a (s10_x z (upd f j.toNatClampNeg x))) = bs1) (kk : ∀ (H1 : Heap) (locs1 : List Loc), zP G bs1 H1 → zD A bs1 → va_S A H0 H1 locs1 → W p l e R s m args below meth c H1 locs1 cells slots Q (F0 m (pc + 1) ls rest)) : W p l e R s m args below meth c H locs cells slots Q (F0 m pc ls (.int x :: .int j :: .ref (a 0) :: rest)) := by
  subst hv
  exact zast S hK hP hD hS i hi 0 rfl hin rfl hbs hdg kk
theorem zl11_x (S : CallFix p m c cc nL s args Ts own) (hK : zK G s) (hP : zP G bs H) (i : Nat) {a : Nat → Nat} {n : Nat} {z : S11} (hi : bs[i]? = some (w11 G a n z)) {j : Int32} (hin : vp_in j n) {f : Nat → Int32} (hv : g11_x z = f) (hdg : decode cc pc = .ok (.iaload, 1)) (kk : W p l e R s m args below meth c H locs cells slots Q (F0 m (pc + 1) ls (.int (f j.toNatClampNeg) :: rest))) : W p l e R s m args below meth c H locs cells slots Q (F0 m pc ls (.int j :: .ref (a 0) :: rest)) := zald S hK hP i hi 0 rfl hin hdg (by subst hv; exact kk)
theorem zs11_x (S : CallFix p m c cc nL s args Ts own) (hK : zK G s) (hP : zP G bs H) (hD : zD A bs) (hS : va_S A H0 H locs) (i : Nat) {a : Nat → Nat} {n : Nat} {z : S11} (hi : bs[i]? = some (w11 G a n z)) {j x : Int32} (hin : vp_in j n) {f : Nat → Int32} (hv : g11_x z = f) (hdg : decode cc pc = .ok (.iastore, 1)) (hbs : bs.set i (w11 G a n (s11_x z (upd f j.toNatClampNeg x))) = bs1) (kk : ∀ (H1 : Heap) (locs1 : List Loc), zP G bs1 H1 → zD A bs1 → va_S A H0 H1 locs1 → W p l e R s m args below meth c H1 locs1 cells slots Q (F0 m (pc + 1) ls rest)) : W p l e R s m args below meth c H locs cells slots Q (F0 m pc ls (.int x :: .int j :: .ref (a 0) :: rest)) := by
  subst hv
  exact zast S hK hP hD hS i hi 0 rfl hin rfl hbs hdg kk
end ZLROW
/-- no or yes -/
def zbo (x : Int32) : Prop := x = 0 ∨ x = 1
theorem zbo_or {x y : Int32} (h : zbo x) (h' : zbo y) : zbo (x ||| y) := by
  rcases h with rfl | rfl <;> rcases h' with rfl | rfl <;> first | exact Or.inl rfl | exact Or.inr rfl
theorem zbo_and {x y : Int32} (h : zbo x) (h' : zbo y) : zbo (x &&& y) := by
  rcases h with rfl | rfl <;> rcases h' with rfl | rfl <;> first | exact Or.inl rfl | exact Or.inr rfl
theorem zbo_has (x y : Int32) : zbo (FL_has x y) := by
  unfold FL_has
  split
  · exact Or.inr rfl
  · exact Or.inl rfl
theorem zbo_n {x : Int32} (h : zbo x) : narrow .boolean (.int x) = .int x := by
  rcases h with rfl | rfl
  · exact zn0
  · exact zn1
/-! rules are taken away one by one: it ends -/
theorem zms0 (x : Int32) : zbits x + 2 ≤ 23 := by have := zbits_le x; omega
theorem zms {a b x y : Int32} {n : Nat} (h : (x = 0 ∨ zbits a + 2 ≤ n + 1) ∧ 1 ≤ n + 1) (c : ¬ x = 0) (hv : zbits b ≤ zbits a ∧ (y = 0 ∨ zbits b + 1 ≤ zbits a)) : (y = 0 ∨ zbits b + 2 ≤ n) ∧ 1 ≤ n := by
  rcases h.1 with h1 | h1
  · exact absurd h1 c
  · rcases hv.2 with h2 | h2
    · exact ⟨Or.inl h2, by omega⟩
    · exact ⟨Or.inr (by omega), by omega⟩
theorem zless_b {x : Int32} {i q : Nat} (hi : i < 32) : zb (x &&& ((1 <<< (nI i &&& 31)) ^^^ (-1))) q = (zb x q && !decide (q = i)) := by
  by_cases hq : q < 32
  · rw [zb_and, zb_not hq, zb_one hi]
  · rw [zb_big (by omega), zb_big (by omega)]; rfl
theorem zless_le {x : Int32} {i : Nat} (hi : i < 32) : zbits (x &&& ((1 <<< (nI i &&& 31)) ^^^ (-1))) ≤ zbits x := zbits_mono (fun q h => by
  rw [zless_b hi, Bool.and_eq_true] at h
  exact h.1)
theorem zless_lt {x : Int32} {i : Nat} (hi : i < 20) (h : zb x i = true) : zbits (x &&& ((1 <<< (nI i &&& 31)) ^^^ (-1))) + 1 ≤ zbits x := by
  unfold zbits
  refine zcount_lt _ _ _ (fun q h => ?_) ⟨i, List.mem_range.mpr hi, ?_, h⟩
  · rw [zless_b (by omega), Bool.and_eq_true] at h
    exact h.1
  · show zb (x &&& ((1 <<< (nI i &&& 31)) ^^^ (-1))) i = false
    rw [zless_b (by omega), decide_eq_true rfl, Bool.not_true, Bool.and_false]
theorem zmr {a x y : Int32} {i NR : Nat} (hc : ¬ FL_has x (nI i) = 0) (hi : i < NR) (hN : NR ≤ 10) (hv : zbits x ≤ zbits a ∧ (y = 0 ∨ zbits x + 1 ≤ zbits a)) : zbits (x &&& ((1 <<< (nI i &&& 31)) ^^^ (-1))) ≤ zbits a ∧ ((1 : Int32) = 0 ∨ zbits (x &&& ((1 <<< (nI i &&& 31)) ^^^ (-1))) + 1 ≤ zbits a) := by
  have hb : zb x i = true := by
    cases e : zb x i
    · exfalso
      apply hc
      show FX8_has x (nI i) = 0
      rw [zhas (show i < 32 by omega), e]
      rfl
    · rfl
  have h1 := zless_lt (show i < 20 by omega) hb
  exact ⟨by omega, Or.inr (by omega)⟩
theorem zush {x s : Int32} {k : Nat} (hk : 1 ≤ k) (hs : ((s.toUInt32 &&& Int32.toUInt32 31).toBitVec % 32).toNat = k) : ∃ j : Nat, j < 2 ^ 31 ∧ (x.toUInt32 >>> (s.toUInt32 &&& Int32.toUInt32 31)).toInt32 = nI j := by
  have h := pk_ushr x s k hs
  generalize (x.toUInt32 >>> (s.toUInt32 &&& Int32.toUInt32 31)).toInt32 = v at h ⊢
  refine ⟨v.toBitVec.toNat, ?_, ?_⟩
  · rw [h]
    have h1 := x.toBitVec.isLt
    have h2 : 2 ^ 1 ≤ 2 ^ k := Nat.pow_le_pow_right (by decide) hk
    have h3 : x.toBitVec.toNat / 2 ^ k ≤ x.toBitVec.toNat / 2 := Nat.div_le_div_left h2 (by decide)
    omega
  · apply Int32.toBitVec_inj.mp
    show v.toBitVec = BitVec.ofNat 32 v.toBitVec.toNat
    rw [BitVec.ofNat_toNat, BitVec.setWidth_eq]
