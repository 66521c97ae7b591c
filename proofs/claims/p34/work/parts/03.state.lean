abbrev S0 : Type := (Nat → Int32) × (Nat → Nat → Int32)
def g0_kind (z : S0) : Nat → Int32 := z.2 0
def s0_kind (z : S0) (x : Nat → Int32) : S0 := (z.1, va_up z.2 0 x)
def g0_head (z : S0) : Nat → Int32 := z.2 1
def s0_head (z : S0) (x : Nat → Int32) : S0 := (z.1, va_up z.2 1 x)
def g0_body (z : S0) : Nat → Int32 := z.2 2
def s0_body (z : S0) (x : Nat → Int32) : S0 := (z.1, va_up z.2 2 x)
def g0_excepts (z : S0) : Nat → Int32 := z.2 3
def s0_excepts (z : S0) (x : Nat → Int32) : S0 := (z.1, va_up z.2 3 x)
def g0_power (z : S0) : Nat → Int32 := z.2 4
def s0_power (z : S0) (x : Nat → Int32) : S0 := (z.1, va_up z.2 4 x)
def g0_beats (z : S0) : Nat → Int32 := z.2 5
def s0_beats (z : S0) (x : Nat → Int32) : S0 := (z.1, va_up z.2 5 x)
def g0_facts (z : S0) : Int32 := z.1 0
def s0_facts (z : S0) (x : Int32) : S0 := (va_up z.1 0 x, z.2)
def g0_size (z : S0) : Int32 := z.1 1
def s0_size (z : S0) (x : Int32) : S0 := (va_up z.1 1 x, z.2)
def g0_shut (z : S0) : Int32 := z.1 2
def s0_shut (z : S0) (x : Int32) : S0 := (va_up z.1 2 x, z.2)
def w0 (G : zG) (a : Nat → Nat) (z : S0) : va_W := [(a 0, .inr (0, [.ref (a 1), .ref (a 2), .ref (a 3), .ref (a 4), .ref (a 5), .ref (a 6), .int (g0_facts z), .int (g0_size z), .int (g0_shut z)])), (a 1, .inl (G.2.1, 16, .inl (g0_kind z))), (a 2, .inl (G.2.1, 16, .inl (g0_head z))), (a 3, .inl (G.2.1, 16, .inl (g0_body z))), (a 4, .inl (G.2.1, 16, .inl (g0_excepts z))), (a 5, .inl (G.2.1, 16, .inl (g0_power z))), (a 6, .inl (G.2.1, 16, .inl (g0_beats z)))]
abbrev S2 : Type := (Nat → Int32) × (Nat → Nat → Int32)
def g2_bytes (z : S2) : Nat → Int32 := z.2 0
def s2_bytes (z : S2) (x : Nat → Int32) : S2 := (z.1, va_up z.2 0 x)
def g2_length (z : S2) : Int32 := z.1 0
def s2_length (z : S2) (x : Int32) : S2 := (va_up z.1 0 x, z.2)
def w2 (G : zG) (a : Nat → Nat) (z : S2) : va_W := [(a 0, .inr (2, [.ref (a 1), .int (g2_length z)])), (a 1, .inl (G.2.1, 2000, .inl (g2_bytes z)))]
abbrev S3 : Type := (Nat → Int32) × (Nat → Nat → Int32)
def g3_wanted (z : S3) : Nat → Int32 := z.2 0
def s3_wanted (z : S3) (x : Nat → Int32) : S3 := (z.1, va_up z.2 0 x)
def g3_steps (z : S3) : Nat → Int32 := z.2 1
def s3_steps (z : S3) (x : Nat → Int32) : S3 := (z.1, va_up z.2 1 x)
def g3_length (z : S3) : Int32 := z.1 0
def s3_length (z : S3) (x : Int32) : S3 := (va_up z.1 0 x, z.2)
def w3 (G : zG) (a : Nat → Nat) (r_view : Nat) (z : S3) : va_W := [(a 0, .inr (3, [.ref r_view, .ref (a 1), .ref (a 2), .int (g3_length z)])), (a 1, .inl (G.2.1, 4, .inl (g3_wanted z))), (a 2, .inl (G.2.1, 80, .inl (g3_steps z)))]
abbrev S4 : Type := (Nat → Int32) × (Nat → Nat → Int32)
def g4_came (z : S4) : Nat → Int32 := z.2 0
def s4_came (z : S4) (x : Nat → Int32) : S4 := (z.1, va_up z.2 0 x)
def g4_last (z : S4) : Int32 := z.1 0
def s4_last (z : S4) (x : Int32) : S4 := (va_up z.1 0 x, z.2)
def w4 (G : zG) (a : Nat → Nat) (r_view : Nat) (z : S4) : va_W := [(a 0, .inr (4, [.ref r_view, .ref (a 1), .int (g4_last z)])), (a 1, .inl (G.2.1, 80, .inl (g4_came z)))]
abbrev S6 : Type := (Nat → Int32) × (Nat → Nat → Int32)
def g6_known (z : S6) : Nat → Int32 := z.2 0
def s6_known (z : S6) (x : Nat → Int32) : S6 := (z.1, va_up z.2 0 x)
def g6_fresh (z : S6) : Nat → Int32 := z.2 1
def s6_fresh (z : S6) (x : Nat → Int32) : S6 := (z.1, va_up z.2 1 x)
def g6_strictFor (z : S6) : Nat → Int32 := z.2 2
def s6_strictFor (z : S6) (x : Nat → Int32) : S6 := (z.1, va_up z.2 2 x)
def g6_forwardFor (z : S6) : Nat → Int32 := z.2 3
def s6_forwardFor (z : S6) (x : Nat → Int32) : S6 := (z.1, va_up z.2 3 x)
def g6_allFor (z : S6) : Nat → Int32 := z.2 4
def s6_allFor (z : S6) (x : Nat → Int32) : S6 := (z.1, va_up z.2 4 x)
def g6_above (z : S6) : Nat → Int32 := z.2 5
def s6_above (z : S6) (x : Nat → Int32) : S6 := (z.1, va_up z.2 5 x)
def g6_reach (z : S6) : Nat → Int32 := z.2 6
def s6_reach (z : S6) (x : Nat → Int32) : S6 := (z.1, va_up z.2 6 x)
def g6_facts (z : S6) : Int32 := z.1 0
def s6_facts (z : S6) (x : Int32) : S6 := (va_up z.1 0 x, z.2)
def g6_applies (z : S6) : Int32 := z.1 1
def s6_applies (z : S6) (x : Int32) : S6 := (va_up z.1 1 x, z.2)
def g6_falls (z : S6) : Int32 := z.1 2
def s6_falls (z : S6) (x : Int32) : S6 := (va_up z.1 2 x, z.2)
def g6_sureBodies (z : S6) : Int32 := z.1 3
def s6_sureBodies (z : S6) (x : Int32) : S6 := (va_up z.1 3 x, z.2)
def g6_neverBodies (z : S6) : Int32 := z.1 4
def s6_neverBodies (z : S6) (x : Int32) : S6 := (va_up z.1 4 x, z.2)
def w6 (G : zG) (a : Nat → Nat) (z : S6) : va_W := [(a 0, .inr (6, [.ref (a 1), .ref (a 2), .ref (a 3), .ref (a 4), .ref (a 5), .ref (a 6), .ref (a 7), .int (g6_facts z), .int (g6_applies z), .int (g6_falls z), .int (g6_sureBodies z), .int (g6_neverBodies z)])), (a 1, .inl (G.2.1, 4, .inl (g6_known z))), (a 2, .inl (G.2.1, 4, .inl (g6_fresh z))), (a 3, .inl (G.2.1, 20, .inl (g6_strictFor z))), (a 4, .inl (G.2.1, 20, .inl (g6_forwardFor z))), (a 5, .inl (G.2.1, 20, .inl (g6_allFor z))), (a 6, .inl (G.2.1, 16, .inl (g6_above z))), (a 7, .inl (G.2.1, 16, .inl (g6_reach z)))]
abbrev S7 : Type := (Nat → Int32) × (Nat → Nat → Int32)
def g7_tape (z : S7) : Nat → Int32 := z.2 0
def s7_tape (z : S7) (x : Nat → Int32) : S7 := (z.1, va_up z.2 0 x)
def g7_sort (z : S7) : Nat → Int32 := z.2 1
def s7_sort (z : S7) (x : Nat → Int32) : S7 := (z.1, va_up z.2 1 x)
def g7_head (z : S7) : Nat → Int32 := z.2 2
def s7_head (z : S7) (x : Nat → Int32) : S7 := (z.1, va_up z.2 2 x)
def g7_body (z : S7) : Nat → Int32 := z.2 3
def s7_body (z : S7) (x : Nat → Int32) : S7 := (z.1, va_up z.2 3 x)
def g7_excepts (z : S7) : Nat → Int32 := z.2 4
def s7_excepts (z : S7) (x : Nat → Int32) : S7 := (z.1, va_up z.2 4 x)
def g7_power (z : S7) : Nat → Int32 := z.2 5
def s7_power (z : S7) (x : Nat → Int32) : S7 := (z.1, va_up z.2 5 x)
def g7_begins (z : S7) : Nat → Int32 := z.2 6
def s7_begins (z : S7) (x : Nat → Int32) : S7 := (z.1, va_up z.2 6 x)
def g7_length (z : S7) : Int32 := z.1 0
def s7_length (z : S7) (x : Int32) : S7 := (va_up z.1 0 x, z.2)
def g7_at (z : S7) : Int32 := z.1 1
def s7_at (z : S7) (x : Int32) : S7 := (va_up z.1 1 x, z.2)
def g7_told (z : S7) : Int32 := z.1 2
def s7_told (z : S7) (x : Int32) : S7 := (va_up z.1 2 x, z.2)
def w7 (G : zG) (a : Nat → Nat) (z : S7) : va_W := [(a 0, .inr (7, [.ref (a 1), .ref (a 2), .ref (a 3), .ref (a 4), .ref (a 5), .ref (a 6), .ref (a 7), .int (g7_length z), .int (g7_at z), .int (g7_told z)])), (a 1, .inl (G.2.1, 120, .inl (g7_tape z))), (a 2, .inl (G.2.1, 60, .inl (g7_sort z))), (a 3, .inl (G.2.1, 60, .inl (g7_head z))), (a 4, .inl (G.2.1, 60, .inl (g7_body z))), (a 5, .inl (G.2.1, 60, .inl (g7_excepts z))), (a 6, .inl (G.2.1, 60, .inl (g7_power z))), (a 7, .inl (G.2.1, 60, .inl (g7_begins z)))]
abbrev S8 : Type := (Nat → Int32) × (Nat → Nat → Int32)
def g8_isKept (z : S8) : Int32 := z.1 0
def s8_isKept (z : S8) (x : Int32) : S8 := (va_up z.1 0 x, z.2)
def g8_isSettled (z : S8) : Int32 := z.1 1
def s8_isSettled (z : S8) (x : Int32) : S8 := (va_up z.1 1 x, z.2)
def w8 (G : zG) (a : Nat → Nat) (r_court : Nat) (r_rounds : Nat) (r_thought : Nat) (r_thoughtRounds : Nat) (r_chain : Nat) (r_history : Nat) (r_kept : Nat) (r_words : Nat) (r_sheet : Nat) (r_rows : Nat) (z : S8) : va_W := [(a 0, .inr (8, [.ref r_court, .ref r_rounds, .ref r_thought, .ref r_thoughtRounds, .ref r_chain, .ref r_history, .ref r_kept, .ref r_words, .ref r_sheet, .ref r_rows, .int (g8_isKept z), .int (g8_isSettled z)]))]
theorem zsw3 {x : Int32} (h0 : ¬ x = 0) (h1 : ¬ x = 1) (h2 : ¬ x = 2) : x.toInt < 0 ∨ 2 < x.toInt := by
  have e : ∀ k : Int32, ¬ x = k → x.toInt ≠ k.toInt := fun k h q => h (Int32.toInt_inj.mp q)
  have e0 : x.toInt ≠ 0 := e 0 h0
  have e1 : x.toInt ≠ 1 := e 1 h1
  have e2 : x.toInt ≠ 2 := e 2 h2
  omega
theorem zsw4 {x : Int32} (h0 : ¬ x = 0) (h1 : ¬ x = 1) (h2 : ¬ x = 2) (h3 : ¬ x = 3) : x.toInt < 0 ∨ 3 < x.toInt := by
  have e : ∀ k : Int32, ¬ x = k → x.toInt ≠ k.toInt := fun k h q => h (Int32.toInt_inj.mp q)
  have e0 : x.toInt ≠ 0 := e 0 h0
  have e1 : x.toInt ≠ 1 := e 1 h1
  have e2 : x.toInt ≠ 2 := e 2 h2
  have e3 : x.toInt ≠ 3 := e 3 h3
  omega
theorem zsw5 {x : Int32} (h0 : ¬ x = 0) (h1 : ¬ x = 1) (h2 : ¬ x = 2) (h3 : ¬ x = 3) (h4 : ¬ x = 4) : x.toInt < 0 ∨ 4 < x.toInt := by
  have e : ∀ k : Int32, ¬ x = k → x.toInt ≠ k.toInt := fun k h q => h (Int32.toInt_inj.mp q)
  have e0 : x.toInt ≠ 0 := e 0 h0
  have e1 : x.toInt ≠ 1 := e 1 h1
  have e2 : x.toInt ≠ 2 := e 2 h2
  have e3 : x.toInt ≠ 3 := e 3 h3
  have e4 : x.toInt ≠ 4 := e 4 h4
  omega
theorem zsw8 {x : Int32} (h0 : ¬ x = 0) (h1 : ¬ x = 1) (h2 : ¬ x = 2) (h3 : ¬ x = 3) (h4 : ¬ x = 4) (h5 : ¬ x = 5) (h6 : ¬ x = 6) (h7 : ¬ x = 7) : x.toInt < 0 ∨ 7 < x.toInt := by
  have e : ∀ k : Int32, ¬ x = k → x.toInt ≠ k.toInt := fun k h q => h (Int32.toInt_inj.mp q)
  have e0 : x.toInt ≠ 0 := e 0 h0
  have e1 : x.toInt ≠ 1 := e 1 h1
  have e2 : x.toInt ≠ 2 := e 2 h2
  have e3 : x.toInt ≠ 3 := e 3 h3
  have e4 : x.toInt ≠ 4 := e 4 h4
  have e5 : x.toInt ≠ 5 := e 5 h5
  have e6 : x.toInt ≠ 6 := e 6 h6
  have e7 : x.toInt ≠ 7 := e 7 h7
  omega
theorem zsw12 {x : Int32} (h0 : ¬ x = 0) (h1 : ¬ x = 1) (h2 : ¬ x = 2) (h3 : ¬ x = 3) (h4 : ¬ x = 4) (h5 : ¬ x = 5) (h6 : ¬ x = 6) (h7 : ¬ x = 7) (h8 : ¬ x = 8) (h9 : ¬ x = 9) (h10 : ¬ x = 10) (h11 : ¬ x = 11) : x.toInt < 0 ∨ 11 < x.toInt := by
  have e : ∀ k : Int32, ¬ x = k → x.toInt ≠ k.toInt := fun k h q => h (Int32.toInt_inj.mp q)
  have e0 : x.toInt ≠ 0 := e 0 h0
  have e1 : x.toInt ≠ 1 := e 1 h1
  have e2 : x.toInt ≠ 2 := e 2 h2
  have e3 : x.toInt ≠ 3 := e 3 h3
  have e4 : x.toInt ≠ 4 := e 4 h4
  have e5 : x.toInt ≠ 5 := e 5 h5
  have e6 : x.toInt ≠ 6 := e 6 h6
  have e7 : x.toInt ≠ 7 := e 7 h7
  have e8 : x.toInt ≠ 8 := e 8 h8
  have e9 : x.toInt ≠ 9 := e 9 h9
  have e10 : x.toInt ≠ 10 := e 10 h10
  have e11 : x.toInt ≠ 11 := e 11 h11
  omega
theorem zup_up {α : Type} (f : Nat → α) (k : Nat) (x y : α) : va_up (va_up f k x) k y = va_up f k y := by
  funext j
  by_cases h : j = k <;> simp [va_up, h]
theorem zup_self {α : Type} (f : Nat → α) (k : Nat) : va_up f k (f k) = f := by
  funext j
  by_cases h : j = k <;> simp [va_up, h]
theorem zup_comm {α : Type} (f : Nat → α) {k l : Nat} (h : l ≠ k) (x y : α) : va_up (va_up f k x) l y = va_up (va_up f l y) k x := by
  funext j
  by_cases h1 : j = k
  · subst h1
    simp [va_up, Ne.symm h]
  · simp [va_up, h1]
theorem zfitb {v : Int32} (hn : narrow .boolean (.int v) = .int v) : fits .boolean (.int v) = true := by
  have := fits_narrow_boolean v
  rw [hn] at this
  exact this
section ZFLD
variable {p : Program} {l : Launch} {e : Env} {R : Room} {s : State} {m : MethodId} {args : Array Value} {below : List Frame} {meth : Method} {c : Code} {H : Heap} {locs : List Loc} {cells slots : Nat} {Q : State → Prop}
variable {cc : ByteArray} {pc : Nat} {ls : Array Slot} {rest st0 : List Value} {G : zG} {A : Nat → Prop} {bs bs1 : zB} {H0 : Heap} {nL : Nat} {Ts : List Cond} {own : String}
theorem gg0_kind (z : S0) (x : (Nat → Int32)) : g0_kind (s0_kind z x) = x := va_up_self z.2 0 x
theorem ss0_kind (z : S0) (x y : (Nat → Int32)) : s0_kind (s0_kind z x) y = s0_kind z y := congrArg (fun q => (z.1, q)) (zup_up z.2 0 x y)
theorem se0_kind (z : S0) : s0_kind z (g0_kind z) = z := congrArg (fun q => (z.1, q)) (zup_self z.2 0)
theorem gs0_kind_head (z : S0) (x : (Nat → Int32)) : g0_kind (s0_head z x) = g0_kind z := va_up_ne (k := 1) (j := 0) z.2 x (by decide)
theorem cm0_kind_head (z : S0) (x : (Nat → Int32)) (y : (Nat → Int32)) : s0_kind (s0_head z x) y = s0_head (s0_kind z y) x := congrArg (fun q => (z.1, q)) (zup_comm (k := 1) (l := 0) z.2 (by decide) x y)
theorem gs0_kind_body (z : S0) (x : (Nat → Int32)) : g0_kind (s0_body z x) = g0_kind z := va_up_ne (k := 2) (j := 0) z.2 x (by decide)
theorem cm0_kind_body (z : S0) (x : (Nat → Int32)) (y : (Nat → Int32)) : s0_kind (s0_body z x) y = s0_body (s0_kind z y) x := congrArg (fun q => (z.1, q)) (zup_comm (k := 2) (l := 0) z.2 (by decide) x y)
theorem gs0_kind_excepts (z : S0) (x : (Nat → Int32)) : g0_kind (s0_excepts z x) = g0_kind z := va_up_ne (k := 3) (j := 0) z.2 x (by decide)
theorem cm0_kind_excepts (z : S0) (x : (Nat → Int32)) (y : (Nat → Int32)) : s0_kind (s0_excepts z x) y = s0_excepts (s0_kind z y) x := congrArg (fun q => (z.1, q)) (zup_comm (k := 3) (l := 0) z.2 (by decide) x y)
theorem gs0_kind_power (z : S0) (x : (Nat → Int32)) : g0_kind (s0_power z x) = g0_kind z := va_up_ne (k := 4) (j := 0) z.2 x (by decide)
theorem cm0_kind_power (z : S0) (x : (Nat → Int32)) (y : (Nat → Int32)) : s0_kind (s0_power z x) y = s0_power (s0_kind z y) x := congrArg (fun q => (z.1, q)) (zup_comm (k := 4) (l := 0) z.2 (by decide) x y)
theorem gs0_kind_beats (z : S0) (x : (Nat → Int32)) : g0_kind (s0_beats z x) = g0_kind z := va_up_ne (k := 5) (j := 0) z.2 x (by decide)
theorem cm0_kind_beats (z : S0) (x : (Nat → Int32)) (y : (Nat → Int32)) : s0_kind (s0_beats z x) y = s0_beats (s0_kind z y) x := congrArg (fun q => (z.1, q)) (zup_comm (k := 5) (l := 0) z.2 (by decide) x y)
theorem gs0_kind_facts (z : S0) (x : Int32) : g0_kind (s0_facts z x) = g0_kind z := rfl
theorem cm0_kind_facts (z : S0) (x : Int32) (y : (Nat → Int32)) : s0_kind (s0_facts z x) y = s0_facts (s0_kind z y) x := rfl
theorem gs0_kind_size (z : S0) (x : Int32) : g0_kind (s0_size z x) = g0_kind z := rfl
theorem cm0_kind_size (z : S0) (x : Int32) (y : (Nat → Int32)) : s0_kind (s0_size z x) y = s0_size (s0_kind z y) x := rfl
theorem gs0_kind_shut (z : S0) (x : Int32) : g0_kind (s0_shut z x) = g0_kind z := rfl
theorem cm0_kind_shut (z : S0) (x : Int32) (y : (Nat → Int32)) : s0_kind (s0_shut z x) y = s0_shut (s0_kind z y) x := rfl
theorem gg0_head (z : S0) (x : (Nat → Int32)) : g0_head (s0_head z x) = x := va_up_self z.2 1 x
theorem ss0_head (z : S0) (x y : (Nat → Int32)) : s0_head (s0_head z x) y = s0_head z y := congrArg (fun q => (z.1, q)) (zup_up z.2 1 x y)
theorem se0_head (z : S0) : s0_head z (g0_head z) = z := congrArg (fun q => (z.1, q)) (zup_self z.2 1)
theorem gs0_head_kind (z : S0) (x : (Nat → Int32)) : g0_head (s0_kind z x) = g0_head z := va_up_ne (k := 0) (j := 1) z.2 x (by decide)
theorem gs0_head_body (z : S0) (x : (Nat → Int32)) : g0_head (s0_body z x) = g0_head z := va_up_ne (k := 2) (j := 1) z.2 x (by decide)
theorem cm0_head_body (z : S0) (x : (Nat → Int32)) (y : (Nat → Int32)) : s0_head (s0_body z x) y = s0_body (s0_head z y) x := congrArg (fun q => (z.1, q)) (zup_comm (k := 2) (l := 1) z.2 (by decide) x y)
theorem gs0_head_excepts (z : S0) (x : (Nat → Int32)) : g0_head (s0_excepts z x) = g0_head z := va_up_ne (k := 3) (j := 1) z.2 x (by decide)
theorem cm0_head_excepts (z : S0) (x : (Nat → Int32)) (y : (Nat → Int32)) : s0_head (s0_excepts z x) y = s0_excepts (s0_head z y) x := congrArg (fun q => (z.1, q)) (zup_comm (k := 3) (l := 1) z.2 (by decide) x y)
theorem gs0_head_power (z : S0) (x : (Nat → Int32)) : g0_head (s0_power z x) = g0_head z := va_up_ne (k := 4) (j := 1) z.2 x (by decide)
theorem cm0_head_power (z : S0) (x : (Nat → Int32)) (y : (Nat → Int32)) : s0_head (s0_power z x) y = s0_power (s0_head z y) x := congrArg (fun q => (z.1, q)) (zup_comm (k := 4) (l := 1) z.2 (by decide) x y)
theorem gs0_head_beats (z : S0) (x : (Nat → Int32)) : g0_head (s0_beats z x) = g0_head z := va_up_ne (k := 5) (j := 1) z.2 x (by decide)
theorem cm0_head_beats (z : S0) (x : (Nat → Int32)) (y : (Nat → Int32)) : s0_head (s0_beats z x) y = s0_beats (s0_head z y) x := congrArg (fun q => (z.1, q)) (zup_comm (k := 5) (l := 1) z.2 (by decide) x y)
theorem gs0_head_facts (z : S0) (x : Int32) : g0_head (s0_facts z x) = g0_head z := rfl
theorem cm0_head_facts (z : S0) (x : Int32) (y : (Nat → Int32)) : s0_head (s0_facts z x) y = s0_facts (s0_head z y) x := rfl
theorem gs0_head_size (z : S0) (x : Int32) : g0_head (s0_size z x) = g0_head z := rfl
theorem cm0_head_size (z : S0) (x : Int32) (y : (Nat → Int32)) : s0_head (s0_size z x) y = s0_size (s0_head z y) x := rfl
theorem gs0_head_shut (z : S0) (x : Int32) : g0_head (s0_shut z x) = g0_head z := rfl
theorem cm0_head_shut (z : S0) (x : Int32) (y : (Nat → Int32)) : s0_head (s0_shut z x) y = s0_shut (s0_head z y) x := rfl
theorem gg0_body (z : S0) (x : (Nat → Int32)) : g0_body (s0_body z x) = x := va_up_self z.2 2 x
theorem ss0_body (z : S0) (x y : (Nat → Int32)) : s0_body (s0_body z x) y = s0_body z y := congrArg (fun q => (z.1, q)) (zup_up z.2 2 x y)
theorem se0_body (z : S0) : s0_body z (g0_body z) = z := congrArg (fun q => (z.1, q)) (zup_self z.2 2)
theorem gs0_body_kind (z : S0) (x : (Nat → Int32)) : g0_body (s0_kind z x) = g0_body z := va_up_ne (k := 0) (j := 2) z.2 x (by decide)
theorem gs0_body_head (z : S0) (x : (Nat → Int32)) : g0_body (s0_head z x) = g0_body z := va_up_ne (k := 1) (j := 2) z.2 x (by decide)
theorem gs0_body_excepts (z : S0) (x : (Nat → Int32)) : g0_body (s0_excepts z x) = g0_body z := va_up_ne (k := 3) (j := 2) z.2 x (by decide)
theorem cm0_body_excepts (z : S0) (x : (Nat → Int32)) (y : (Nat → Int32)) : s0_body (s0_excepts z x) y = s0_excepts (s0_body z y) x := congrArg (fun q => (z.1, q)) (zup_comm (k := 3) (l := 2) z.2 (by decide) x y)
theorem gs0_body_power (z : S0) (x : (Nat → Int32)) : g0_body (s0_power z x) = g0_body z := va_up_ne (k := 4) (j := 2) z.2 x (by decide)
theorem cm0_body_power (z : S0) (x : (Nat → Int32)) (y : (Nat → Int32)) : s0_body (s0_power z x) y = s0_power (s0_body z y) x := congrArg (fun q => (z.1, q)) (zup_comm (k := 4) (l := 2) z.2 (by decide) x y)
theorem gs0_body_beats (z : S0) (x : (Nat → Int32)) : g0_body (s0_beats z x) = g0_body z := va_up_ne (k := 5) (j := 2) z.2 x (by decide)
theorem cm0_body_beats (z : S0) (x : (Nat → Int32)) (y : (Nat → Int32)) : s0_body (s0_beats z x) y = s0_beats (s0_body z y) x := congrArg (fun q => (z.1, q)) (zup_comm (k := 5) (l := 2) z.2 (by decide) x y)
theorem gs0_body_facts (z : S0) (x : Int32) : g0_body (s0_facts z x) = g0_body z := rfl
theorem cm0_body_facts (z : S0) (x : Int32) (y : (Nat → Int32)) : s0_body (s0_facts z x) y = s0_facts (s0_body z y) x := rfl
theorem gs0_body_size (z : S0) (x : Int32) : g0_body (s0_size z x) = g0_body z := rfl
theorem cm0_body_size (z : S0) (x : Int32) (y : (Nat → Int32)) : s0_body (s0_size z x) y = s0_size (s0_body z y) x := rfl
theorem gs0_body_shut (z : S0) (x : Int32) : g0_body (s0_shut z x) = g0_body z := rfl
theorem cm0_body_shut (z : S0) (x : Int32) (y : (Nat → Int32)) : s0_body (s0_shut z x) y = s0_shut (s0_body z y) x := rfl
theorem gg0_excepts (z : S0) (x : (Nat → Int32)) : g0_excepts (s0_excepts z x) = x := va_up_self z.2 3 x
theorem ss0_excepts (z : S0) (x y : (Nat → Int32)) : s0_excepts (s0_excepts z x) y = s0_excepts z y := congrArg (fun q => (z.1, q)) (zup_up z.2 3 x y)
theorem se0_excepts (z : S0) : s0_excepts z (g0_excepts z) = z := congrArg (fun q => (z.1, q)) (zup_self z.2 3)
theorem gs0_excepts_kind (z : S0) (x : (Nat → Int32)) : g0_excepts (s0_kind z x) = g0_excepts z := va_up_ne (k := 0) (j := 3) z.2 x (by decide)
theorem gs0_excepts_head (z : S0) (x : (Nat → Int32)) : g0_excepts (s0_head z x) = g0_excepts z := va_up_ne (k := 1) (j := 3) z.2 x (by decide)
theorem gs0_excepts_body (z : S0) (x : (Nat → Int32)) : g0_excepts (s0_body z x) = g0_excepts z := va_up_ne (k := 2) (j := 3) z.2 x (by decide)
theorem gs0_excepts_power (z : S0) (x : (Nat → Int32)) : g0_excepts (s0_power z x) = g0_excepts z := va_up_ne (k := 4) (j := 3) z.2 x (by decide)
theorem cm0_excepts_power (z : S0) (x : (Nat → Int32)) (y : (Nat → Int32)) : s0_excepts (s0_power z x) y = s0_power (s0_excepts z y) x := congrArg (fun q => (z.1, q)) (zup_comm (k := 4) (l := 3) z.2 (by decide) x y)
theorem gs0_excepts_beats (z : S0) (x : (Nat → Int32)) : g0_excepts (s0_beats z x) = g0_excepts z := va_up_ne (k := 5) (j := 3) z.2 x (by decide)
theorem cm0_excepts_beats (z : S0) (x : (Nat → Int32)) (y : (Nat → Int32)) : s0_excepts (s0_beats z x) y = s0_beats (s0_excepts z y) x := congrArg (fun q => (z.1, q)) (zup_comm (k := 5) (l := 3) z.2 (by decide) x y)
theorem gs0_excepts_facts (z : S0) (x : Int32) : g0_excepts (s0_facts z x) = g0_excepts z := rfl
theorem cm0_excepts_facts (z : S0) (x : Int32) (y : (Nat → Int32)) : s0_excepts (s0_facts z x) y = s0_facts (s0_excepts z y) x := rfl
theorem gs0_excepts_size (z : S0) (x : Int32) : g0_excepts (s0_size z x) = g0_excepts z := rfl
theorem cm0_excepts_size (z : S0) (x : Int32) (y : (Nat → Int32)) : s0_excepts (s0_size z x) y = s0_size (s0_excepts z y) x := rfl
theorem gs0_excepts_shut (z : S0) (x : Int32) : g0_excepts (s0_shut z x) = g0_excepts z := rfl
theorem cm0_excepts_shut (z : S0) (x : Int32) (y : (Nat → Int32)) : s0_excepts (s0_shut z x) y = s0_shut (s0_excepts z y) x := rfl
theorem gg0_power (z : S0) (x : (Nat → Int32)) : g0_power (s0_power z x) = x := va_up_self z.2 4 x
theorem ss0_power (z : S0) (x y : (Nat → Int32)) : s0_power (s0_power z x) y = s0_power z y := congrArg (fun q => (z.1, q)) (zup_up z.2 4 x y)
theorem se0_power (z : S0) : s0_power z (g0_power z) = z := congrArg (fun q => (z.1, q)) (zup_self z.2 4)
theorem gs0_power_kind (z : S0) (x : (Nat → Int32)) : g0_power (s0_kind z x) = g0_power z := va_up_ne (k := 0) (j := 4) z.2 x (by decide)
theorem gs0_power_head (z : S0) (x : (Nat → Int32)) : g0_power (s0_head z x) = g0_power z := va_up_ne (k := 1) (j := 4) z.2 x (by decide)
theorem gs0_power_body (z : S0) (x : (Nat → Int32)) : g0_power (s0_body z x) = g0_power z := va_up_ne (k := 2) (j := 4) z.2 x (by decide)
theorem gs0_power_excepts (z : S0) (x : (Nat → Int32)) : g0_power (s0_excepts z x) = g0_power z := va_up_ne (k := 3) (j := 4) z.2 x (by decide)
theorem gs0_power_beats (z : S0) (x : (Nat → Int32)) : g0_power (s0_beats z x) = g0_power z := va_up_ne (k := 5) (j := 4) z.2 x (by decide)
theorem cm0_power_beats (z : S0) (x : (Nat → Int32)) (y : (Nat → Int32)) : s0_power (s0_beats z x) y = s0_beats (s0_power z y) x := congrArg (fun q => (z.1, q)) (zup_comm (k := 5) (l := 4) z.2 (by decide) x y)
theorem gs0_power_facts (z : S0) (x : Int32) : g0_power (s0_facts z x) = g0_power z := rfl
theorem cm0_power_facts (z : S0) (x : Int32) (y : (Nat → Int32)) : s0_power (s0_facts z x) y = s0_facts (s0_power z y) x := rfl
theorem gs0_power_size (z : S0) (x : Int32) : g0_power (s0_size z x) = g0_power z := rfl
theorem cm0_power_size (z : S0) (x : Int32) (y : (Nat → Int32)) : s0_power (s0_size z x) y = s0_size (s0_power z y) x := rfl
theorem gs0_power_shut (z : S0) (x : Int32) : g0_power (s0_shut z x) = g0_power z := rfl
theorem cm0_power_shut (z : S0) (x : Int32) (y : (Nat → Int32)) : s0_power (s0_shut z x) y = s0_shut (s0_power z y) x := rfl
theorem gg0_beats (z : S0) (x : (Nat → Int32)) : g0_beats (s0_beats z x) = x := va_up_self z.2 5 x
theorem ss0_beats (z : S0) (x y : (Nat → Int32)) : s0_beats (s0_beats z x) y = s0_beats z y := congrArg (fun q => (z.1, q)) (zup_up z.2 5 x y)
theorem se0_beats (z : S0) : s0_beats z (g0_beats z) = z := congrArg (fun q => (z.1, q)) (zup_self z.2 5)
theorem gs0_beats_kind (z : S0) (x : (Nat → Int32)) : g0_beats (s0_kind z x) = g0_beats z := va_up_ne (k := 0) (j := 5) z.2 x (by decide)
theorem gs0_beats_head (z : S0) (x : (Nat → Int32)) : g0_beats (s0_head z x) = g0_beats z := va_up_ne (k := 1) (j := 5) z.2 x (by decide)
theorem gs0_beats_body (z : S0) (x : (Nat → Int32)) : g0_beats (s0_body z x) = g0_beats z := va_up_ne (k := 2) (j := 5) z.2 x (by decide)
theorem gs0_beats_excepts (z : S0) (x : (Nat → Int32)) : g0_beats (s0_excepts z x) = g0_beats z := va_up_ne (k := 3) (j := 5) z.2 x (by decide)
theorem gs0_beats_power (z : S0) (x : (Nat → Int32)) : g0_beats (s0_power z x) = g0_beats z := va_up_ne (k := 4) (j := 5) z.2 x (by decide)
theorem gs0_beats_facts (z : S0) (x : Int32) : g0_beats (s0_facts z x) = g0_beats z := rfl
theorem cm0_beats_facts (z : S0) (x : Int32) (y : (Nat → Int32)) : s0_beats (s0_facts z x) y = s0_facts (s0_beats z y) x := rfl
theorem gs0_beats_size (z : S0) (x : Int32) : g0_beats (s0_size z x) = g0_beats z := rfl
theorem cm0_beats_size (z : S0) (x : Int32) (y : (Nat → Int32)) : s0_beats (s0_size z x) y = s0_size (s0_beats z y) x := rfl
theorem gs0_beats_shut (z : S0) (x : Int32) : g0_beats (s0_shut z x) = g0_beats z := rfl
theorem cm0_beats_shut (z : S0) (x : Int32) (y : (Nat → Int32)) : s0_beats (s0_shut z x) y = s0_shut (s0_beats z y) x := rfl
theorem gg0_facts (z : S0) (x : Int32) : g0_facts (s0_facts z x) = x := va_up_self z.1 0 x
theorem ss0_facts (z : S0) (x y : Int32) : s0_facts (s0_facts z x) y = s0_facts z y := congrArg (fun q => (q, z.2)) (zup_up z.1 0 x y)
theorem se0_facts (z : S0) : s0_facts z (g0_facts z) = z := congrArg (fun q => (q, z.2)) (zup_self z.1 0)
theorem gs0_facts_kind (z : S0) (x : (Nat → Int32)) : g0_facts (s0_kind z x) = g0_facts z := rfl
theorem gs0_facts_head (z : S0) (x : (Nat → Int32)) : g0_facts (s0_head z x) = g0_facts z := rfl
theorem gs0_facts_body (z : S0) (x : (Nat → Int32)) : g0_facts (s0_body z x) = g0_facts z := rfl
theorem gs0_facts_excepts (z : S0) (x : (Nat → Int32)) : g0_facts (s0_excepts z x) = g0_facts z := rfl
theorem gs0_facts_power (z : S0) (x : (Nat → Int32)) : g0_facts (s0_power z x) = g0_facts z := rfl
theorem gs0_facts_beats (z : S0) (x : (Nat → Int32)) : g0_facts (s0_beats z x) = g0_facts z := rfl
theorem gs0_facts_size (z : S0) (x : Int32) : g0_facts (s0_size z x) = g0_facts z := va_up_ne (k := 1) (j := 0) z.1 x (by decide)
theorem cm0_facts_size (z : S0) (x : Int32) (y : Int32) : s0_facts (s0_size z x) y = s0_size (s0_facts z y) x := congrArg (fun q => (q, z.2)) (zup_comm (k := 1) (l := 0) z.1 (by decide) x y)
theorem gs0_facts_shut (z : S0) (x : Int32) : g0_facts (s0_shut z x) = g0_facts z := va_up_ne (k := 2) (j := 0) z.1 x (by decide)
theorem cm0_facts_shut (z : S0) (x : Int32) (y : Int32) : s0_facts (s0_shut z x) y = s0_shut (s0_facts z y) x := congrArg (fun q => (q, z.2)) (zup_comm (k := 2) (l := 0) z.1 (by decide) x y)
theorem gg0_size (z : S0) (x : Int32) : g0_size (s0_size z x) = x := va_up_self z.1 1 x
theorem ss0_size (z : S0) (x y : Int32) : s0_size (s0_size z x) y = s0_size z y := congrArg (fun q => (q, z.2)) (zup_up z.1 1 x y)
theorem se0_size (z : S0) : s0_size z (g0_size z) = z := congrArg (fun q => (q, z.2)) (zup_self z.1 1)
theorem gs0_size_kind (z : S0) (x : (Nat → Int32)) : g0_size (s0_kind z x) = g0_size z := rfl
theorem gs0_size_head (z : S0) (x : (Nat → Int32)) : g0_size (s0_head z x) = g0_size z := rfl
theorem gs0_size_body (z : S0) (x : (Nat → Int32)) : g0_size (s0_body z x) = g0_size z := rfl
theorem gs0_size_excepts (z : S0) (x : (Nat → Int32)) : g0_size (s0_excepts z x) = g0_size z := rfl
theorem gs0_size_power (z : S0) (x : (Nat → Int32)) : g0_size (s0_power z x) = g0_size z := rfl
theorem gs0_size_beats (z : S0) (x : (Nat → Int32)) : g0_size (s0_beats z x) = g0_size z := rfl
theorem gs0_size_facts (z : S0) (x : Int32) : g0_size (s0_facts z x) = g0_size z := va_up_ne (k := 0) (j := 1) z.1 x (by decide)
theorem gs0_size_shut (z : S0) (x : Int32) : g0_size (s0_shut z x) = g0_size z := va_up_ne (k := 2) (j := 1) z.1 x (by decide)
theorem cm0_size_shut (z : S0) (x : Int32) (y : Int32) : s0_size (s0_shut z x) y = s0_shut (s0_size z y) x := congrArg (fun q => (q, z.2)) (zup_comm (k := 2) (l := 1) z.1 (by decide) x y)
theorem gg0_shut (z : S0) (x : Int32) : g0_shut (s0_shut z x) = x := va_up_self z.1 2 x
theorem ss0_shut (z : S0) (x y : Int32) : s0_shut (s0_shut z x) y = s0_shut z y := congrArg (fun q => (q, z.2)) (zup_up z.1 2 x y)
theorem se0_shut (z : S0) : s0_shut z (g0_shut z) = z := congrArg (fun q => (q, z.2)) (zup_self z.1 2)
theorem gs0_shut_kind (z : S0) (x : (Nat → Int32)) : g0_shut (s0_kind z x) = g0_shut z := rfl
theorem gs0_shut_head (z : S0) (x : (Nat → Int32)) : g0_shut (s0_head z x) = g0_shut z := rfl
theorem gs0_shut_body (z : S0) (x : (Nat → Int32)) : g0_shut (s0_body z x) = g0_shut z := rfl
theorem gs0_shut_excepts (z : S0) (x : (Nat → Int32)) : g0_shut (s0_excepts z x) = g0_shut z := rfl
theorem gs0_shut_power (z : S0) (x : (Nat → Int32)) : g0_shut (s0_power z x) = g0_shut z := rfl
theorem gs0_shut_beats (z : S0) (x : (Nat → Int32)) : g0_shut (s0_beats z x) = g0_shut z := rfl
theorem gs0_shut_facts (z : S0) (x : Int32) : g0_shut (s0_facts z x) = g0_shut z := va_up_ne (k := 0) (j := 2) z.1 x (by decide)
theorem gs0_shut_size (z : S0) (x : Int32) : g0_shut (s0_size z x) = g0_shut z := va_up_ne (k := 1) (j := 2) z.1 x (by decide)
theorem zg0_kind (S : CallFix p m c cc nL s args Ts own) {index : Nat} (hin : ∀ w ∈ u_ws RX0 TX0 9, w ∈ Ts) (hK : zK G s) (hP : zP G bs H) (i : Nat) {a : Nat → Nat} {z : S0} (hi : bs[i]? = some (w0 G a z)) (hlink : Cond.fieldLink own index "RuleCourt$Court" "kind" "[I" ∈ Ts) (hdg : decode cc pc = .ok (.getfield index, 3)) (kk : W p l e R s m args below meth c H locs cells slots Q (F0 m (pc + 3) ls (.ref (a 1) :: rest))) : W p l e R s m args below meth c H locs cells slots Q (F0 m pc ls (.ref (a 0) :: rest)) := zget S hin hK hP i hi 0 rfl (ci := 0) rfl 0 (by decide) hlink rfl rfl hdg kk
theorem zl0_kind (S : CallFix p m c cc nL s args Ts own) (hK : zK G s) (hP : zP G bs H) (i : Nat) {a : Nat → Nat} {z : S0} (hi : bs[i]? = some (w0 G a z)) {j : Int32} (hin : vp_in j 16) {f : Nat → Int32} (hv : g0_kind z = f) (hdg : decode cc pc = .ok (.iaload, 1)) (kk : W p l e R s m args below meth c H locs cells slots Q (F0 m (pc + 1) ls (.int (f j.toNatClampNeg) :: rest))) : W p l e R s m args below meth c H locs cells slots Q (F0 m pc ls (.int j :: .ref (a 1) :: rest)) := zald S hK hP i hi 1 rfl hin hdg (by subst hv; exact kk)
theorem zs0_kind (S : CallFix p m c cc nL s args Ts own) (hK : zK G s) (hP : zP G bs H) (hD : zD A bs) (hS : va_S A H0 H locs) (i : Nat) {a : Nat → Nat} {z : S0} (hi : bs[i]? = some (w0 G a z)) {j x : Int32} (hin : vp_in j 16) {f : Nat → Int32} (hv : g0_kind z = f) (hdg : decode cc pc = .ok (.iastore, 1)) (hbs : bs.set i (w0 G a (s0_kind z (upd f j.toNatClampNeg x))) = bs1) (kk : ∀ (H1 : Heap) (locs1 : List Loc), zP G bs1 H1 → zD A bs1 → va_S A H0 H1 locs1 → W p l e R s m args below meth c H1 locs1 cells slots Q (F0 m (pc + 1) ls rest)) : W p l e R s m args below meth c H locs cells slots Q (F0 m pc ls (.int x :: .int j :: .ref (a 1) :: rest)) := by
  subst hv
  exact zast S hK hP hD hS i hi 1 rfl hin rfl hbs hdg kk
theorem pt0_kind (G : zG) (a : Nat → Nat) (z : S0) (f : Nat → Int32) : (w0 G a z).set 1 (a 1, .inl (G.2.1, 16, .inl f)) = w0 G a (s0_kind z f) := rfl
theorem zg0_head (S : CallFix p m c cc nL s args Ts own) {index : Nat} (hin : ∀ w ∈ u_ws RX0 TX0 9, w ∈ Ts) (hK : zK G s) (hP : zP G bs H) (i : Nat) {a : Nat → Nat} {z : S0} (hi : bs[i]? = some (w0 G a z)) (hlink : Cond.fieldLink own index "RuleCourt$Court" "head" "[I" ∈ Ts) (hdg : decode cc pc = .ok (.getfield index, 3)) (kk : W p l e R s m args below meth c H locs cells slots Q (F0 m (pc + 3) ls (.ref (a 2) :: rest))) : W p l e R s m args below meth c H locs cells slots Q (F0 m pc ls (.ref (a 0) :: rest)) := zget S hin hK hP i hi 0 rfl (ci := 0) rfl 1 (by decide) hlink rfl rfl hdg kk
theorem zl0_head (S : CallFix p m c cc nL s args Ts own) (hK : zK G s) (hP : zP G bs H) (i : Nat) {a : Nat → Nat} {z : S0} (hi : bs[i]? = some (w0 G a z)) {j : Int32} (hin : vp_in j 16) {f : Nat → Int32} (hv : g0_head z = f) (hdg : decode cc pc = .ok (.iaload, 1)) (kk : W p l e R s m args below meth c H locs cells slots Q (F0 m (pc + 1) ls (.int (f j.toNatClampNeg) :: rest))) : W p l e R s m args below meth c H locs cells slots Q (F0 m pc ls (.int j :: .ref (a 2) :: rest)) := zald S hK hP i hi 2 rfl hin hdg (by subst hv; exact kk)
theorem zs0_head (S : CallFix p m c cc nL s args Ts own) (hK : zK G s) (hP : zP G bs H) (hD : zD A bs) (hS : va_S A H0 H locs) (i : Nat) {a : Nat → Nat} {z : S0} (hi : bs[i]? = some (w0 G a z)) {j x : Int32} (hin : vp_in j 16) {f : Nat → Int32} (hv : g0_head z = f) (hdg : decode cc pc = .ok (.iastore, 1)) (hbs : bs.set i (w0 G a (s0_head z (upd f j.toNatClampNeg x))) = bs1) (kk : ∀ (H1 : Heap) (locs1 : List Loc), zP G bs1 H1 → zD A bs1 → va_S A H0 H1 locs1 → W p l e R s m args below meth c H1 locs1 cells slots Q (F0 m (pc + 1) ls rest)) : W p l e R s m args below meth c H locs cells slots Q (F0 m pc ls (.int x :: .int j :: .ref (a 2) :: rest)) := by
  subst hv
  exact zast S hK hP hD hS i hi 2 rfl hin rfl hbs hdg kk
theorem pt0_head (G : zG) (a : Nat → Nat) (z : S0) (f : Nat → Int32) : (w0 G a z).set 2 (a 2, .inl (G.2.1, 16, .inl f)) = w0 G a (s0_head z f) := rfl
theorem zg0_body (S : CallFix p m c cc nL s args Ts own) {index : Nat} (hin : ∀ w ∈ u_ws RX0 TX0 9, w ∈ Ts) (hK : zK G s) (hP : zP G bs H) (i : Nat) {a : Nat → Nat} {z : S0} (hi : bs[i]? = some (w0 G a z)) (hlink : Cond.fieldLink own index "RuleCourt$Court" "body" "[I" ∈ Ts) (hdg : decode cc pc = .ok (.getfield index, 3)) (kk : W p l e R s m args below meth c H locs cells slots Q (F0 m (pc + 3) ls (.ref (a 3) :: rest))) : W p l e R s m args below meth c H locs cells slots Q (F0 m pc ls (.ref (a 0) :: rest)) := zget S hin hK hP i hi 0 rfl (ci := 0) rfl 2 (by decide) hlink rfl rfl hdg kk
theorem zl0_body (S : CallFix p m c cc nL s args Ts own) (hK : zK G s) (hP : zP G bs H) (i : Nat) {a : Nat → Nat} {z : S0} (hi : bs[i]? = some (w0 G a z)) {j : Int32} (hin : vp_in j 16) {f : Nat → Int32} (hv : g0_body z = f) (hdg : decode cc pc = .ok (.iaload, 1)) (kk : W p l e R s m args below meth c H locs cells slots Q (F0 m (pc + 1) ls (.int (f j.toNatClampNeg) :: rest))) : W p l e R s m args below meth c H locs cells slots Q (F0 m pc ls (.int j :: .ref (a 3) :: rest)) := zald S hK hP i hi 3 rfl hin hdg (by subst hv; exact kk)
theorem zs0_body (S : CallFix p m c cc nL s args Ts own) (hK : zK G s) (hP : zP G bs H) (hD : zD A bs) (hS : va_S A H0 H locs) (i : Nat) {a : Nat → Nat} {z : S0} (hi : bs[i]? = some (w0 G a z)) {j x : Int32} (hin : vp_in j 16) {f : Nat → Int32} (hv : g0_body z = f) (hdg : decode cc pc = .ok (.iastore, 1)) (hbs : bs.set i (w0 G a (s0_body z (upd f j.toNatClampNeg x))) = bs1) (kk : ∀ (H1 : Heap) (locs1 : List Loc), zP G bs1 H1 → zD A bs1 → va_S A H0 H1 locs1 → W p l e R s m args below meth c H1 locs1 cells slots Q (F0 m (pc + 1) ls rest)) : W p l e R s m args below meth c H locs cells slots Q (F0 m pc ls (.int x :: .int j :: .ref (a 3) :: rest)) := by
  subst hv
  exact zast S hK hP hD hS i hi 3 rfl hin rfl hbs hdg kk
theorem pt0_body (G : zG) (a : Nat → Nat) (z : S0) (f : Nat → Int32) : (w0 G a z).set 3 (a 3, .inl (G.2.1, 16, .inl f)) = w0 G a (s0_body z f) := rfl
theorem zg0_excepts (S : CallFix p m c cc nL s args Ts own) {index : Nat} (hin : ∀ w ∈ u_ws RX0 TX0 9, w ∈ Ts) (hK : zK G s) (hP : zP G bs H) (i : Nat) {a : Nat → Nat} {z : S0} (hi : bs[i]? = some (w0 G a z)) (hlink : Cond.fieldLink own index "RuleCourt$Court" "excepts" "[I" ∈ Ts) (hdg : decode cc pc = .ok (.getfield index, 3)) (kk : W p l e R s m args below meth c H locs cells slots Q (F0 m (pc + 3) ls (.ref (a 4) :: rest))) : W p l e R s m args below meth c H locs cells slots Q (F0 m pc ls (.ref (a 0) :: rest)) := zget S hin hK hP i hi 0 rfl (ci := 0) rfl 3 (by decide) hlink rfl rfl hdg kk
theorem zl0_excepts (S : CallFix p m c cc nL s args Ts own) (hK : zK G s) (hP : zP G bs H) (i : Nat) {a : Nat → Nat} {z : S0} (hi : bs[i]? = some (w0 G a z)) {j : Int32} (hin : vp_in j 16) {f : Nat → Int32} (hv : g0_excepts z = f) (hdg : decode cc pc = .ok (.iaload, 1)) (kk : W p l e R s m args below meth c H locs cells slots Q (F0 m (pc + 1) ls (.int (f j.toNatClampNeg) :: rest))) : W p l e R s m args below meth c H locs cells slots Q (F0 m pc ls (.int j :: .ref (a 4) :: rest)) := zald S hK hP i hi 4 rfl hin hdg (by subst hv; exact kk)
theorem zs0_excepts (S : CallFix p m c cc nL s args Ts own) (hK : zK G s) (hP : zP G bs H) (hD : zD A bs) (hS : va_S A H0 H locs) (i : Nat) {a : Nat → Nat} {z : S0} (hi : bs[i]? = some (w0 G a z)) {j x : Int32} (hin : vp_in j 16) {f : Nat → Int32} (hv : g0_excepts z = f) (hdg : decode cc pc = .ok (.iastore, 1)) (hbs : bs.set i (w0 G a (s0_excepts z (upd f j.toNatClampNeg x))) = bs1) (kk : ∀ (H1 : Heap) (locs1 : List Loc), zP G bs1 H1 → zD A bs1 → va_S A H0 H1 locs1 → W p l e R s m args below meth c H1 locs1 cells slots Q (F0 m (pc + 1) ls rest)) : W p l e R s m args below meth c H locs cells slots Q (F0 m pc ls (.int x :: .int j :: .ref (a 4) :: rest)) := by
  subst hv
  exact zast S hK hP hD hS i hi 4 rfl hin rfl hbs hdg kk
theorem pt0_excepts (G : zG) (a : Nat → Nat) (z : S0) (f : Nat → Int32) : (w0 G a z).set 4 (a 4, .inl (G.2.1, 16, .inl f)) = w0 G a (s0_excepts z f) := rfl
theorem zg0_power (S : CallFix p m c cc nL s args Ts own) {index : Nat} (hin : ∀ w ∈ u_ws RX0 TX0 9, w ∈ Ts) (hK : zK G s) (hP : zP G bs H) (i : Nat) {a : Nat → Nat} {z : S0} (hi : bs[i]? = some (w0 G a z)) (hlink : Cond.fieldLink own index "RuleCourt$Court" "power" "[I" ∈ Ts) (hdg : decode cc pc = .ok (.getfield index, 3)) (kk : W p l e R s m args below meth c H locs cells slots Q (F0 m (pc + 3) ls (.ref (a 5) :: rest))) : W p l e R s m args below meth c H locs cells slots Q (F0 m pc ls (.ref (a 0) :: rest)) := zget S hin hK hP i hi 0 rfl (ci := 0) rfl 4 (by decide) hlink rfl rfl hdg kk
theorem zl0_power (S : CallFix p m c cc nL s args Ts own) (hK : zK G s) (hP : zP G bs H) (i : Nat) {a : Nat → Nat} {z : S0} (hi : bs[i]? = some (w0 G a z)) {j : Int32} (hin : vp_in j 16) {f : Nat → Int32} (hv : g0_power z = f) (hdg : decode cc pc = .ok (.iaload, 1)) (kk : W p l e R s m args below meth c H locs cells slots Q (F0 m (pc + 1) ls (.int (f j.toNatClampNeg) :: rest))) : W p l e R s m args below meth c H locs cells slots Q (F0 m pc ls (.int j :: .ref (a 5) :: rest)) := zald S hK hP i hi 5 rfl hin hdg (by subst hv; exact kk)
theorem zs0_power (S : CallFix p m c cc nL s args Ts own) (hK : zK G s) (hP : zP G bs H) (hD : zD A bs) (hS : va_S A H0 H locs) (i : Nat) {a : Nat → Nat} {z : S0} (hi : bs[i]? = some (w0 G a z)) {j x : Int32} (hin : vp_in j 16) {f : Nat → Int32} (hv : g0_power z = f) (hdg : decode cc pc = .ok (.iastore, 1)) (hbs : bs.set i (w0 G a (s0_power z (upd f j.toNatClampNeg x))) = bs1) (kk : ∀ (H1 : Heap) (locs1 : List Loc), zP G bs1 H1 → zD A bs1 → va_S A H0 H1 locs1 → W p l e R s m args below meth c H1 locs1 cells slots Q (F0 m (pc + 1) ls rest)) : W p l e R s m args below meth c H locs cells slots Q (F0 m pc ls (.int x :: .int j :: .ref (a 5) :: rest)) := by
  subst hv
  exact zast S hK hP hD hS i hi 5 rfl hin rfl hbs hdg kk
theorem pt0_power (G : zG) (a : Nat → Nat) (z : S0) (f : Nat → Int32) : (w0 G a z).set 5 (a 5, .inl (G.2.1, 16, .inl f)) = w0 G a (s0_power z f) := rfl
theorem zg0_beats (S : CallFix p m c cc nL s args Ts own) {index : Nat} (hin : ∀ w ∈ u_ws RX0 TX0 9, w ∈ Ts) (hK : zK G s) (hP : zP G bs H) (i : Nat) {a : Nat → Nat} {z : S0} (hi : bs[i]? = some (w0 G a z)) (hlink : Cond.fieldLink own index "RuleCourt$Court" "beats" "[I" ∈ Ts) (hdg : decode cc pc = .ok (.getfield index, 3)) (kk : W p l e R s m args below meth c H locs cells slots Q (F0 m (pc + 3) ls (.ref (a 6) :: rest))) : W p l e R s m args below meth c H locs cells slots Q (F0 m pc ls (.ref (a 0) :: rest)) := zget S hin hK hP i hi 0 rfl (ci := 0) rfl 5 (by decide) hlink rfl rfl hdg kk
theorem zl0_beats (S : CallFix p m c cc nL s args Ts own) (hK : zK G s) (hP : zP G bs H) (i : Nat) {a : Nat → Nat} {z : S0} (hi : bs[i]? = some (w0 G a z)) {j : Int32} (hin : vp_in j 16) {f : Nat → Int32} (hv : g0_beats z = f) (hdg : decode cc pc = .ok (.iaload, 1)) (kk : W p l e R s m args below meth c H locs cells slots Q (F0 m (pc + 1) ls (.int (f j.toNatClampNeg) :: rest))) : W p l e R s m args below meth c H locs cells slots Q (F0 m pc ls (.int j :: .ref (a 6) :: rest)) := zald S hK hP i hi 6 rfl hin hdg (by subst hv; exact kk)
theorem zs0_beats (S : CallFix p m c cc nL s args Ts own) (hK : zK G s) (hP : zP G bs H) (hD : zD A bs) (hS : va_S A H0 H locs) (i : Nat) {a : Nat → Nat} {z : S0} (hi : bs[i]? = some (w0 G a z)) {j x : Int32} (hin : vp_in j 16) {f : Nat → Int32} (hv : g0_beats z = f) (hdg : decode cc pc = .ok (.iastore, 1)) (hbs : bs.set i (w0 G a (s0_beats z (upd f j.toNatClampNeg x))) = bs1) (kk : ∀ (H1 : Heap) (locs1 : List Loc), zP G bs1 H1 → zD A bs1 → va_S A H0 H1 locs1 → W p l e R s m args below meth c H1 locs1 cells slots Q (F0 m (pc + 1) ls rest)) : W p l e R s m args below meth c H locs cells slots Q (F0 m pc ls (.int x :: .int j :: .ref (a 6) :: rest)) := by
  subst hv
  exact zast S hK hP hD hS i hi 6 rfl hin rfl hbs hdg kk
theorem pt0_beats (G : zG) (a : Nat → Nat) (z : S0) (f : Nat → Int32) : (w0 G a z).set 6 (a 6, .inl (G.2.1, 16, .inl f)) = w0 G a (s0_beats z f) := rfl
theorem zg0_facts (S : CallFix p m c cc nL s args Ts own) {index : Nat} (hin : ∀ w ∈ u_ws RX0 TX0 9, w ∈ Ts) (hK : zK G s) (hP : zP G bs H) (i : Nat) {a : Nat → Nat} {z : S0} (hi : bs[i]? = some (w0 G a z)) (hlink : Cond.fieldLink own index "RuleCourt$Court" "facts" "I" ∈ Ts) {v : Int32} (hv : g0_facts z = v) (hdg : decode cc pc = .ok (.getfield index, 3)) (kk : W p l e R s m args below meth c H locs cells slots Q (F0 m (pc + 3) ls (.int v :: rest))) : W p l e R s m args below meth c H locs cells slots Q (F0 m pc ls (.ref (a 0) :: rest)) := zget S hin hK hP i hi 0 rfl (ci := 0) rfl 6 (by decide) hlink rfl rfl hdg (by subst hv; exact kk)
theorem zp0_facts (S : CallFix p m c cc nL s args Ts own) {index : Nat} (hin : ∀ w ∈ u_ws RX0 TX0 9, w ∈ Ts) (hK : zK G s) (hP : zP G bs H) (hD : zD A bs) (hS : va_S A H0 H locs) (i : Nat) {a : Nat → Nat} {z : S0} (hi : bs[i]? = some (w0 G a z)) (hlink : Cond.fieldLink own index "RuleCourt$Court" "facts" "I" ∈ Ts) {v : Int32} (hdg : decode cc pc = .ok (.putfield index, 3)) (hbs : bs.set i (w0 G a (s0_facts z v)) = bs1) (kk : ∀ (H1 : Heap) (locs1 : List Loc), zP G bs1 H1 → zD A bs1 → va_S A H0 H1 locs1 → W p l e R s m args below meth c H1 locs1 cells slots Q (F0 m (pc + 3) ls rest)) : W p l e R s m args below meth c H locs cells slots Q (F0 m pc ls (.int v :: .ref (a 0) :: rest)) := zput S hin tyX0 tyX0_ok nmX0 hK hP hD hS i hi 0 rfl (ci := 0) rfl 6 (by decide) hlink rfl rfl rfl rfl (Nat.le_of_ble_eq_true rfl) rfl hbs hdg kk
theorem zg0_size (S : CallFix p m c cc nL s args Ts own) {index : Nat} (hin : ∀ w ∈ u_ws RX0 TX0 9, w ∈ Ts) (hK : zK G s) (hP : zP G bs H) (i : Nat) {a : Nat → Nat} {z : S0} (hi : bs[i]? = some (w0 G a z)) (hlink : Cond.fieldLink own index "RuleCourt$Court" "size" "I" ∈ Ts) {v : Int32} (hv : g0_size z = v) (hdg : decode cc pc = .ok (.getfield index, 3)) (kk : W p l e R s m args below meth c H locs cells slots Q (F0 m (pc + 3) ls (.int v :: rest))) : W p l e R s m args below meth c H locs cells slots Q (F0 m pc ls (.ref (a 0) :: rest)) := zget S hin hK hP i hi 0 rfl (ci := 0) rfl 7 (by decide) hlink rfl rfl hdg (by subst hv; exact kk)
theorem zp0_size (S : CallFix p m c cc nL s args Ts own) {index : Nat} (hin : ∀ w ∈ u_ws RX0 TX0 9, w ∈ Ts) (hK : zK G s) (hP : zP G bs H) (hD : zD A bs) (hS : va_S A H0 H locs) (i : Nat) {a : Nat → Nat} {z : S0} (hi : bs[i]? = some (w0 G a z)) (hlink : Cond.fieldLink own index "RuleCourt$Court" "size" "I" ∈ Ts) {v : Int32} (hdg : decode cc pc = .ok (.putfield index, 3)) (hbs : bs.set i (w0 G a (s0_size z v)) = bs1) (kk : ∀ (H1 : Heap) (locs1 : List Loc), zP G bs1 H1 → zD A bs1 → va_S A H0 H1 locs1 → W p l e R s m args below meth c H1 locs1 cells slots Q (F0 m (pc + 3) ls rest)) : W p l e R s m args below meth c H locs cells slots Q (F0 m pc ls (.int v :: .ref (a 0) :: rest)) := zput S hin tyX0 tyX0_ok nmX0 hK hP hD hS i hi 0 rfl (ci := 0) rfl 7 (by decide) hlink rfl rfl rfl rfl (Nat.le_of_ble_eq_true rfl) rfl hbs hdg kk
theorem zg0_shut (S : CallFix p m c cc nL s args Ts own) {index : Nat} (hin : ∀ w ∈ u_ws RX0 TX0 9, w ∈ Ts) (hK : zK G s) (hP : zP G bs H) (i : Nat) {a : Nat → Nat} {z : S0} (hi : bs[i]? = some (w0 G a z)) (hlink : Cond.fieldLink own index "RuleCourt$Court" "shut" "I" ∈ Ts) {v : Int32} (hv : g0_shut z = v) (hdg : decode cc pc = .ok (.getfield index, 3)) (kk : W p l e R s m args below meth c H locs cells slots Q (F0 m (pc + 3) ls (.int v :: rest))) : W p l e R s m args below meth c H locs cells slots Q (F0 m pc ls (.ref (a 0) :: rest)) := zget S hin hK hP i hi 0 rfl (ci := 0) rfl 8 (by decide) hlink rfl rfl hdg (by subst hv; exact kk)
theorem zp0_shut (S : CallFix p m c cc nL s args Ts own) {index : Nat} (hin : ∀ w ∈ u_ws RX0 TX0 9, w ∈ Ts) (hK : zK G s) (hP : zP G bs H) (hD : zD A bs) (hS : va_S A H0 H locs) (i : Nat) {a : Nat → Nat} {z : S0} (hi : bs[i]? = some (w0 G a z)) (hlink : Cond.fieldLink own index "RuleCourt$Court" "shut" "I" ∈ Ts) {v : Int32} (hdg : decode cc pc = .ok (.putfield index, 3)) (hbs : bs.set i (w0 G a (s0_shut z v)) = bs1) (kk : ∀ (H1 : Heap) (locs1 : List Loc), zP G bs1 H1 → zD A bs1 → va_S A H0 H1 locs1 → W p l e R s m args below meth c H1 locs1 cells slots Q (F0 m (pc + 3) ls rest)) : W p l e R s m args below meth c H locs cells slots Q (F0 m pc ls (.int v :: .ref (a 0) :: rest)) := zput S hin tyX0 tyX0_ok nmX0 hK hP hD hS i hi 0 rfl (ci := 0) rfl 8 (by decide) hlink rfl rfl rfl rfl (Nat.le_of_ble_eq_true rfl) rfl hbs hdg kk
theorem gg2_bytes (z : S2) (x : (Nat → Int32)) : g2_bytes (s2_bytes z x) = x := va_up_self z.2 0 x
theorem ss2_bytes (z : S2) (x y : (Nat → Int32)) : s2_bytes (s2_bytes z x) y = s2_bytes z y := congrArg (fun q => (z.1, q)) (zup_up z.2 0 x y)
theorem se2_bytes (z : S2) : s2_bytes z (g2_bytes z) = z := congrArg (fun q => (z.1, q)) (zup_self z.2 0)
theorem gs2_bytes_length (z : S2) (x : Int32) : g2_bytes (s2_length z x) = g2_bytes z := rfl
theorem cm2_bytes_length (z : S2) (x : Int32) (y : (Nat → Int32)) : s2_bytes (s2_length z x) y = s2_length (s2_bytes z y) x := rfl
theorem gg2_length (z : S2) (x : Int32) : g2_length (s2_length z x) = x := va_up_self z.1 0 x
theorem ss2_length (z : S2) (x y : Int32) : s2_length (s2_length z x) y = s2_length z y := congrArg (fun q => (q, z.2)) (zup_up z.1 0 x y)
theorem se2_length (z : S2) : s2_length z (g2_length z) = z := congrArg (fun q => (q, z.2)) (zup_self z.1 0)
theorem gs2_length_bytes (z : S2) (x : (Nat → Int32)) : g2_length (s2_bytes z x) = g2_length z := rfl
theorem zg2_bytes (S : CallFix p m c cc nL s args Ts own) {index : Nat} (hin : ∀ w ∈ u_ws RX2 TX2 2, w ∈ Ts) (hK : zK G s) (hP : zP G bs H) (i : Nat) {a : Nat → Nat} {z : S2} (hi : bs[i]? = some (w2 G a z)) (hlink : Cond.fieldLink own index "RuleCourt$Paper" "bytes" "[I" ∈ Ts) (hdg : decode cc pc = .ok (.getfield index, 3)) (kk : W p l e R s m args below meth c H locs cells slots Q (F0 m (pc + 3) ls (.ref (a 1) :: rest))) : W p l e R s m args below meth c H locs cells slots Q (F0 m pc ls (.ref (a 0) :: rest)) := zget S hin hK hP i hi 0 rfl (ci := 2) rfl 0 (by decide) hlink rfl rfl hdg kk
theorem zl2_bytes (S : CallFix p m c cc nL s args Ts own) (hK : zK G s) (hP : zP G bs H) (i : Nat) {a : Nat → Nat} {z : S2} (hi : bs[i]? = some (w2 G a z)) {j : Int32} (hin : vp_in j 2000) {f : Nat → Int32} (hv : g2_bytes z = f) (hdg : decode cc pc = .ok (.iaload, 1)) (kk : W p l e R s m args below meth c H locs cells slots Q (F0 m (pc + 1) ls (.int (f j.toNatClampNeg) :: rest))) : W p l e R s m args below meth c H locs cells slots Q (F0 m pc ls (.int j :: .ref (a 1) :: rest)) := zald S hK hP i hi 1 rfl hin hdg (by subst hv; exact kk)
theorem zs2_bytes (S : CallFix p m c cc nL s args Ts own) (hK : zK G s) (hP : zP G bs H) (hD : zD A bs) (hS : va_S A H0 H locs) (i : Nat) {a : Nat → Nat} {z : S2} (hi : bs[i]? = some (w2 G a z)) {j x : Int32} (hin : vp_in j 2000) {f : Nat → Int32} (hv : g2_bytes z = f) (hdg : decode cc pc = .ok (.iastore, 1)) (hbs : bs.set i (w2 G a (s2_bytes z (upd f j.toNatClampNeg x))) = bs1) (kk : ∀ (H1 : Heap) (locs1 : List Loc), zP G bs1 H1 → zD A bs1 → va_S A H0 H1 locs1 → W p l e R s m args below meth c H1 locs1 cells slots Q (F0 m (pc + 1) ls rest)) : W p l e R s m args below meth c H locs cells slots Q (F0 m pc ls (.int x :: .int j :: .ref (a 1) :: rest)) := by
  subst hv
  exact zast S hK hP hD hS i hi 1 rfl hin rfl hbs hdg kk
theorem pt2_bytes (G : zG) (a : Nat → Nat) (z : S2) (f : Nat → Int32) : (w2 G a z).set 1 (a 1, .inl (G.2.1, 2000, .inl f)) = w2 G a (s2_bytes z f) := rfl
theorem zg2_length (S : CallFix p m c cc nL s args Ts own) {index : Nat} (hin : ∀ w ∈ u_ws RX2 TX2 2, w ∈ Ts) (hK : zK G s) (hP : zP G bs H) (i : Nat) {a : Nat → Nat} {z : S2} (hi : bs[i]? = some (w2 G a z)) (hlink : Cond.fieldLink own index "RuleCourt$Paper" "length" "I" ∈ Ts) {v : Int32} (hv : g2_length z = v) (hdg : decode cc pc = .ok (.getfield index, 3)) (kk : W p l e R s m args below meth c H locs cells slots Q (F0 m (pc + 3) ls (.int v :: rest))) : W p l e R s m args below meth c H locs cells slots Q (F0 m pc ls (.ref (a 0) :: rest)) := zget S hin hK hP i hi 0 rfl (ci := 2) rfl 1 (by decide) hlink rfl rfl hdg (by subst hv; exact kk)
theorem zp2_length (S : CallFix p m c cc nL s args Ts own) {index : Nat} (hin : ∀ w ∈ u_ws RX2 TX2 2, w ∈ Ts) (hK : zK G s) (hP : zP G bs H) (hD : zD A bs) (hS : va_S A H0 H locs) (i : Nat) {a : Nat → Nat} {z : S2} (hi : bs[i]? = some (w2 G a z)) (hlink : Cond.fieldLink own index "RuleCourt$Paper" "length" "I" ∈ Ts) {v : Int32} (hdg : decode cc pc = .ok (.putfield index, 3)) (hbs : bs.set i (w2 G a (s2_length z v)) = bs1) (kk : ∀ (H1 : Heap) (locs1 : List Loc), zP G bs1 H1 → zD A bs1 → va_S A H0 H1 locs1 → W p l e R s m args below meth c H1 locs1 cells slots Q (F0 m (pc + 3) ls rest)) : W p l e R s m args below meth c H locs cells slots Q (F0 m pc ls (.int v :: .ref (a 0) :: rest)) := zput S hin tyX2 tyX2_ok nmX2 hK hP hD hS i hi 0 rfl (ci := 2) rfl 1 (by decide) hlink rfl rfl rfl rfl (Nat.le_of_ble_eq_true rfl) rfl hbs hdg kk
theorem gg3_wanted (z : S3) (x : (Nat → Int32)) : g3_wanted (s3_wanted z x) = x := va_up_self z.2 0 x
theorem ss3_wanted (z : S3) (x y : (Nat → Int32)) : s3_wanted (s3_wanted z x) y = s3_wanted z y := congrArg (fun q => (z.1, q)) (zup_up z.2 0 x y)
theorem se3_wanted (z : S3) : s3_wanted z (g3_wanted z) = z := congrArg (fun q => (z.1, q)) (zup_self z.2 0)
theorem gs3_wanted_steps (z : S3) (x : (Nat → Int32)) : g3_wanted (s3_steps z x) = g3_wanted z := va_up_ne (k := 1) (j := 0) z.2 x (by decide)
theorem gs3_wanted_length (z : S3) (x : Int32) : g3_wanted (s3_length z x) = g3_wanted z := rfl
theorem gg3_steps (z : S3) (x : (Nat → Int32)) : g3_steps (s3_steps z x) = x := va_up_self z.2 1 x
theorem ss3_steps (z : S3) (x y : (Nat → Int32)) : s3_steps (s3_steps z x) y = s3_steps z y := congrArg (fun q => (z.1, q)) (zup_up z.2 1 x y)
theorem se3_steps (z : S3) : s3_steps z (g3_steps z) = z := congrArg (fun q => (z.1, q)) (zup_self z.2 1)
theorem gs3_steps_wanted (z : S3) (x : (Nat → Int32)) : g3_steps (s3_wanted z x) = g3_steps z := va_up_ne (k := 0) (j := 1) z.2 x (by decide)
theorem gs3_steps_length (z : S3) (x : Int32) : g3_steps (s3_length z x) = g3_steps z := rfl
theorem cm3_steps_length (z : S3) (x : Int32) (y : (Nat → Int32)) : s3_steps (s3_length z x) y = s3_length (s3_steps z y) x := rfl
theorem gg3_length (z : S3) (x : Int32) : g3_length (s3_length z x) = x := va_up_self z.1 0 x
theorem ss3_length (z : S3) (x y : Int32) : s3_length (s3_length z x) y = s3_length z y := congrArg (fun q => (q, z.2)) (zup_up z.1 0 x y)
theorem se3_length (z : S3) : s3_length z (g3_length z) = z := congrArg (fun q => (q, z.2)) (zup_self z.1 0)
theorem gs3_length_wanted (z : S3) (x : (Nat → Int32)) : g3_length (s3_wanted z x) = g3_length z := rfl
theorem gs3_length_steps (z : S3) (x : (Nat → Int32)) : g3_length (s3_steps z x) = g3_length z := rfl
theorem zg3_view (S : CallFix p m c cc nL s args Ts own) {index : Nat} (hin : ∀ w ∈ u_ws RX3 TX3 4, w ∈ Ts) (hK : zK G s) (hP : zP G bs H) (i : Nat) {a : Nat → Nat} {r_view : Nat} {z : S3} (hi : bs[i]? = some (w3 G a r_view z)) (hlink : Cond.fieldLink own index "RuleCourt$Proof" "view" "LRuleCourt$View;" ∈ Ts) (hdg : decode cc pc = .ok (.getfield index, 3)) (kk : W p l e R s m args below meth c H locs cells slots Q (F0 m (pc + 3) ls (.ref r_view :: rest))) : W p l e R s m args below meth c H locs cells slots Q (F0 m pc ls (.ref (a 0) :: rest)) := zget S hin hK hP i hi 0 rfl (ci := 3) rfl 0 (by decide) hlink rfl rfl hdg kk
theorem zg3_wanted (S : CallFix p m c cc nL s args Ts own) {index : Nat} (hin : ∀ w ∈ u_ws RX3 TX3 4, w ∈ Ts) (hK : zK G s) (hP : zP G bs H) (i : Nat) {a : Nat → Nat} {r_view : Nat} {z : S3} (hi : bs[i]? = some (w3 G a r_view z)) (hlink : Cond.fieldLink own index "RuleCourt$Proof" "wanted" "[I" ∈ Ts) (hdg : decode cc pc = .ok (.getfield index, 3)) (kk : W p l e R s m args below meth c H locs cells slots Q (F0 m (pc + 3) ls (.ref (a 1) :: rest))) : W p l e R s m args below meth c H locs cells slots Q (F0 m pc ls (.ref (a 0) :: rest)) := zget S hin hK hP i hi 0 rfl (ci := 3) rfl 1 (by decide) hlink rfl rfl hdg kk
theorem zl3_wanted (S : CallFix p m c cc nL s args Ts own) (hK : zK G s) (hP : zP G bs H) (i : Nat) {a : Nat → Nat} {r_view : Nat} {z : S3} (hi : bs[i]? = some (w3 G a r_view z)) {j : Int32} (hin : vp_in j 4) {f : Nat → Int32} (hv : g3_wanted z = f) (hdg : decode cc pc = .ok (.iaload, 1)) (kk : W p l e R s m args below meth c H locs cells slots Q (F0 m (pc + 1) ls (.int (f j.toNatClampNeg) :: rest))) : W p l e R s m args below meth c H locs cells slots Q (F0 m pc ls (.int j :: .ref (a 1) :: rest)) := zald S hK hP i hi 1 rfl hin hdg (by subst hv; exact kk)
theorem zs3_wanted (S : CallFix p m c cc nL s args Ts own) (hK : zK G s) (hP : zP G bs H) (hD : zD A bs) (hS : va_S A H0 H locs) (i : Nat) {a : Nat → Nat} {r_view : Nat} {z : S3} (hi : bs[i]? = some (w3 G a r_view z)) {j x : Int32} (hin : vp_in j 4) {f : Nat → Int32} (hv : g3_wanted z = f) (hdg : decode cc pc = .ok (.iastore, 1)) (hbs : bs.set i (w3 G a r_view (s3_wanted z (upd f j.toNatClampNeg x))) = bs1) (kk : ∀ (H1 : Heap) (locs1 : List Loc), zP G bs1 H1 → zD A bs1 → va_S A H0 H1 locs1 → W p l e R s m args below meth c H1 locs1 cells slots Q (F0 m (pc + 1) ls rest)) : W p l e R s m args below meth c H locs cells slots Q (F0 m pc ls (.int x :: .int j :: .ref (a 1) :: rest)) := by
  subst hv
  exact zast S hK hP hD hS i hi 1 rfl hin rfl hbs hdg kk
theorem pt3_wanted (G : zG) (a : Nat → Nat) (r_view : Nat) (z : S3) (f : Nat → Int32) : (w3 G a r_view z).set 1 (a 1, .inl (G.2.1, 4, .inl f)) = w3 G a r_view (s3_wanted z f) := rfl
theorem zg3_steps (S : CallFix p m c cc nL s args Ts own) {index : Nat} (hin : ∀ w ∈ u_ws RX3 TX3 4, w ∈ Ts) (hK : zK G s) (hP : zP G bs H) (i : Nat) {a : Nat → Nat} {r_view : Nat} {z : S3} (hi : bs[i]? = some (w3 G a r_view z)) (hlink : Cond.fieldLink own index "RuleCourt$Proof" "steps" "[I" ∈ Ts) (hdg : decode cc pc = .ok (.getfield index, 3)) (kk : W p l e R s m args below meth c H locs cells slots Q (F0 m (pc + 3) ls (.ref (a 2) :: rest))) : W p l e R s m args below meth c H locs cells slots Q (F0 m pc ls (.ref (a 0) :: rest)) := zget S hin hK hP i hi 0 rfl (ci := 3) rfl 2 (by decide) hlink rfl rfl hdg kk
theorem zl3_steps (S : CallFix p m c cc nL s args Ts own) (hK : zK G s) (hP : zP G bs H) (i : Nat) {a : Nat → Nat} {r_view : Nat} {z : S3} (hi : bs[i]? = some (w3 G a r_view z)) {j : Int32} (hin : vp_in j 80) {f : Nat → Int32} (hv : g3_steps z = f) (hdg : decode cc pc = .ok (.iaload, 1)) (kk : W p l e R s m args below meth c H locs cells slots Q (F0 m (pc + 1) ls (.int (f j.toNatClampNeg) :: rest))) : W p l e R s m args below meth c H locs cells slots Q (F0 m pc ls (.int j :: .ref (a 2) :: rest)) := zald S hK hP i hi 2 rfl hin hdg (by subst hv; exact kk)
theorem zs3_steps (S : CallFix p m c cc nL s args Ts own) (hK : zK G s) (hP : zP G bs H) (hD : zD A bs) (hS : va_S A H0 H locs) (i : Nat) {a : Nat → Nat} {r_view : Nat} {z : S3} (hi : bs[i]? = some (w3 G a r_view z)) {j x : Int32} (hin : vp_in j 80) {f : Nat → Int32} (hv : g3_steps z = f) (hdg : decode cc pc = .ok (.iastore, 1)) (hbs : bs.set i (w3 G a r_view (s3_steps z (upd f j.toNatClampNeg x))) = bs1) (kk : ∀ (H1 : Heap) (locs1 : List Loc), zP G bs1 H1 → zD A bs1 → va_S A H0 H1 locs1 → W p l e R s m args below meth c H1 locs1 cells slots Q (F0 m (pc + 1) ls rest)) : W p l e R s m args below meth c H locs cells slots Q (F0 m pc ls (.int x :: .int j :: .ref (a 2) :: rest)) := by
  subst hv
  exact zast S hK hP hD hS i hi 2 rfl hin rfl hbs hdg kk
theorem pt3_steps (G : zG) (a : Nat → Nat) (r_view : Nat) (z : S3) (f : Nat → Int32) : (w3 G a r_view z).set 2 (a 2, .inl (G.2.1, 80, .inl f)) = w3 G a r_view (s3_steps z f) := rfl
theorem zg3_length (S : CallFix p m c cc nL s args Ts own) {index : Nat} (hin : ∀ w ∈ u_ws RX3 TX3 4, w ∈ Ts) (hK : zK G s) (hP : zP G bs H) (i : Nat) {a : Nat → Nat} {r_view : Nat} {z : S3} (hi : bs[i]? = some (w3 G a r_view z)) (hlink : Cond.fieldLink own index "RuleCourt$Proof" "length" "I" ∈ Ts) {v : Int32} (hv : g3_length z = v) (hdg : decode cc pc = .ok (.getfield index, 3)) (kk : W p l e R s m args below meth c H locs cells slots Q (F0 m (pc + 3) ls (.int v :: rest))) : W p l e R s m args below meth c H locs cells slots Q (F0 m pc ls (.ref (a 0) :: rest)) := zget S hin hK hP i hi 0 rfl (ci := 3) rfl 3 (by decide) hlink rfl rfl hdg (by subst hv; exact kk)
theorem zp3_length (S : CallFix p m c cc nL s args Ts own) {index : Nat} (hin : ∀ w ∈ u_ws RX3 TX3 4, w ∈ Ts) (hK : zK G s) (hP : zP G bs H) (hD : zD A bs) (hS : va_S A H0 H locs) (i : Nat) {a : Nat → Nat} {r_view : Nat} {z : S3} (hi : bs[i]? = some (w3 G a r_view z)) (hlink : Cond.fieldLink own index "RuleCourt$Proof" "length" "I" ∈ Ts) {v : Int32} (hdg : decode cc pc = .ok (.putfield index, 3)) (hbs : bs.set i (w3 G a r_view (s3_length z v)) = bs1) (kk : ∀ (H1 : Heap) (locs1 : List Loc), zP G bs1 H1 → zD A bs1 → va_S A H0 H1 locs1 → W p l e R s m args below meth c H1 locs1 cells slots Q (F0 m (pc + 3) ls rest)) : W p l e R s m args below meth c H locs cells slots Q (F0 m pc ls (.int v :: .ref (a 0) :: rest)) := zput S hin tyX3 tyX3_ok nmX3 hK hP hD hS i hi 0 rfl (ci := 3) rfl 3 (by decide) hlink rfl rfl rfl rfl (Nat.le_of_ble_eq_true rfl) rfl hbs hdg kk
theorem gg4_came (z : S4) (x : (Nat → Int32)) : g4_came (s4_came z x) = x := va_up_self z.2 0 x
theorem ss4_came (z : S4) (x y : (Nat → Int32)) : s4_came (s4_came z x) y = s4_came z y := congrArg (fun q => (z.1, q)) (zup_up z.2 0 x y)
theorem se4_came (z : S4) : s4_came z (g4_came z) = z := congrArg (fun q => (z.1, q)) (zup_self z.2 0)
theorem gs4_came_last (z : S4) (x : Int32) : g4_came (s4_last z x) = g4_came z := rfl
theorem cm4_came_last (z : S4) (x : Int32) (y : (Nat → Int32)) : s4_came (s4_last z x) y = s4_last (s4_came z y) x := rfl
theorem gg4_last (z : S4) (x : Int32) : g4_last (s4_last z x) = x := va_up_self z.1 0 x
theorem ss4_last (z : S4) (x y : Int32) : s4_last (s4_last z x) y = s4_last z y := congrArg (fun q => (q, z.2)) (zup_up z.1 0 x y)
theorem se4_last (z : S4) : s4_last z (g4_last z) = z := congrArg (fun q => (q, z.2)) (zup_self z.1 0)
theorem gs4_last_came (z : S4) (x : (Nat → Int32)) : g4_last (s4_came z x) = g4_last z := rfl
theorem zg4_view (S : CallFix p m c cc nL s args Ts own) {index : Nat} (hin : ∀ w ∈ u_ws RX4 TX4 3, w ∈ Ts) (hK : zK G s) (hP : zP G bs H) (i : Nat) {a : Nat → Nat} {r_view : Nat} {z : S4} (hi : bs[i]? = some (w4 G a r_view z)) (hlink : Cond.fieldLink own index "RuleCourt$Rounds" "view" "LRuleCourt$View;" ∈ Ts) (hdg : decode cc pc = .ok (.getfield index, 3)) (kk : W p l e R s m args below meth c H locs cells slots Q (F0 m (pc + 3) ls (.ref r_view :: rest))) : W p l e R s m args below meth c H locs cells slots Q (F0 m pc ls (.ref (a 0) :: rest)) := zget S hin hK hP i hi 0 rfl (ci := 4) rfl 0 (by decide) hlink rfl rfl hdg kk
theorem zg4_came (S : CallFix p m c cc nL s args Ts own) {index : Nat} (hin : ∀ w ∈ u_ws RX4 TX4 3, w ∈ Ts) (hK : zK G s) (hP : zP G bs H) (i : Nat) {a : Nat → Nat} {r_view : Nat} {z : S4} (hi : bs[i]? = some (w4 G a r_view z)) (hlink : Cond.fieldLink own index "RuleCourt$Rounds" "came" "[I" ∈ Ts) (hdg : decode cc pc = .ok (.getfield index, 3)) (kk : W p l e R s m args below meth c H locs cells slots Q (F0 m (pc + 3) ls (.ref (a 1) :: rest))) : W p l e R s m args below meth c H locs cells slots Q (F0 m pc ls (.ref (a 0) :: rest)) := zget S hin hK hP i hi 0 rfl (ci := 4) rfl 1 (by decide) hlink rfl rfl hdg kk
theorem zl4_came (S : CallFix p m c cc nL s args Ts own) (hK : zK G s) (hP : zP G bs H) (i : Nat) {a : Nat → Nat} {r_view : Nat} {z : S4} (hi : bs[i]? = some (w4 G a r_view z)) {j : Int32} (hin : vp_in j 80) {f : Nat → Int32} (hv : g4_came z = f) (hdg : decode cc pc = .ok (.iaload, 1)) (kk : W p l e R s m args below meth c H locs cells slots Q (F0 m (pc + 1) ls (.int (f j.toNatClampNeg) :: rest))) : W p l e R s m args below meth c H locs cells slots Q (F0 m pc ls (.int j :: .ref (a 1) :: rest)) := zald S hK hP i hi 1 rfl hin hdg (by subst hv; exact kk)
theorem zs4_came (S : CallFix p m c cc nL s args Ts own) (hK : zK G s) (hP : zP G bs H) (hD : zD A bs) (hS : va_S A H0 H locs) (i : Nat) {a : Nat → Nat} {r_view : Nat} {z : S4} (hi : bs[i]? = some (w4 G a r_view z)) {j x : Int32} (hin : vp_in j 80) {f : Nat → Int32} (hv : g4_came z = f) (hdg : decode cc pc = .ok (.iastore, 1)) (hbs : bs.set i (w4 G a r_view (s4_came z (upd f j.toNatClampNeg x))) = bs1) (kk : ∀ (H1 : Heap) (locs1 : List Loc), zP G bs1 H1 → zD A bs1 → va_S A H0 H1 locs1 → W p l e R s m args below meth c H1 locs1 cells slots Q (F0 m (pc + 1) ls rest)) : W p l e R s m args below meth c H locs cells slots Q (F0 m pc ls (.int x :: .int j :: .ref (a 1) :: rest)) := by
  subst hv
  exact zast S hK hP hD hS i hi 1 rfl hin rfl hbs hdg kk
theorem pt4_came (G : zG) (a : Nat → Nat) (r_view : Nat) (z : S4) (f : Nat → Int32) : (w4 G a r_view z).set 1 (a 1, .inl (G.2.1, 80, .inl f)) = w4 G a r_view (s4_came z f) := rfl
theorem zg4_last (S : CallFix p m c cc nL s args Ts own) {index : Nat} (hin : ∀ w ∈ u_ws RX4 TX4 3, w ∈ Ts) (hK : zK G s) (hP : zP G bs H) (i : Nat) {a : Nat → Nat} {r_view : Nat} {z : S4} (hi : bs[i]? = some (w4 G a r_view z)) (hlink : Cond.fieldLink own index "RuleCourt$Rounds" "last" "I" ∈ Ts) {v : Int32} (hv : g4_last z = v) (hdg : decode cc pc = .ok (.getfield index, 3)) (kk : W p l e R s m args below meth c H locs cells slots Q (F0 m (pc + 3) ls (.int v :: rest))) : W p l e R s m args below meth c H locs cells slots Q (F0 m pc ls (.ref (a 0) :: rest)) := zget S hin hK hP i hi 0 rfl (ci := 4) rfl 2 (by decide) hlink rfl rfl hdg (by subst hv; exact kk)
theorem zp4_last (S : CallFix p m c cc nL s args Ts own) {index : Nat} (hin : ∀ w ∈ u_ws RX4 TX4 3, w ∈ Ts) (hK : zK G s) (hP : zP G bs H) (hD : zD A bs) (hS : va_S A H0 H locs) (i : Nat) {a : Nat → Nat} {r_view : Nat} {z : S4} (hi : bs[i]? = some (w4 G a r_view z)) (hlink : Cond.fieldLink own index "RuleCourt$Rounds" "last" "I" ∈ Ts) {v : Int32} (hdg : decode cc pc = .ok (.putfield index, 3)) (hbs : bs.set i (w4 G a r_view (s4_last z v)) = bs1) (kk : ∀ (H1 : Heap) (locs1 : List Loc), zP G bs1 H1 → zD A bs1 → va_S A H0 H1 locs1 → W p l e R s m args below meth c H1 locs1 cells slots Q (F0 m (pc + 3) ls rest)) : W p l e R s m args below meth c H locs cells slots Q (F0 m pc ls (.int v :: .ref (a 0) :: rest)) := zput S hin tyX4 tyX4_ok nmX4 hK hP hD hS i hi 0 rfl (ci := 4) rfl 2 (by decide) hlink rfl rfl rfl rfl (Nat.le_of_ble_eq_true rfl) rfl hbs hdg kk
theorem gg6_known (z : S6) (x : (Nat → Int32)) : g6_known (s6_known z x) = x := va_up_self z.2 0 x
theorem ss6_known (z : S6) (x y : (Nat → Int32)) : s6_known (s6_known z x) y = s6_known z y := congrArg (fun q => (z.1, q)) (zup_up z.2 0 x y)
theorem se6_known (z : S6) : s6_known z (g6_known z) = z := congrArg (fun q => (z.1, q)) (zup_self z.2 0)
theorem gs6_known_fresh (z : S6) (x : (Nat → Int32)) : g6_known (s6_fresh z x) = g6_known z := va_up_ne (k := 1) (j := 0) z.2 x (by decide)
theorem cm6_known_fresh (z : S6) (x : (Nat → Int32)) (y : (Nat → Int32)) : s6_known (s6_fresh z x) y = s6_fresh (s6_known z y) x := congrArg (fun q => (z.1, q)) (zup_comm (k := 1) (l := 0) z.2 (by decide) x y)
theorem gs6_known_strictFor (z : S6) (x : (Nat → Int32)) : g6_known (s6_strictFor z x) = g6_known z := va_up_ne (k := 2) (j := 0) z.2 x (by decide)
theorem cm6_known_strictFor (z : S6) (x : (Nat → Int32)) (y : (Nat → Int32)) : s6_known (s6_strictFor z x) y = s6_strictFor (s6_known z y) x := congrArg (fun q => (z.1, q)) (zup_comm (k := 2) (l := 0) z.2 (by decide) x y)
theorem gs6_known_forwardFor (z : S6) (x : (Nat → Int32)) : g6_known (s6_forwardFor z x) = g6_known z := va_up_ne (k := 3) (j := 0) z.2 x (by decide)
theorem cm6_known_forwardFor (z : S6) (x : (Nat → Int32)) (y : (Nat → Int32)) : s6_known (s6_forwardFor z x) y = s6_forwardFor (s6_known z y) x := congrArg (fun q => (z.1, q)) (zup_comm (k := 3) (l := 0) z.2 (by decide) x y)
theorem gs6_known_allFor (z : S6) (x : (Nat → Int32)) : g6_known (s6_allFor z x) = g6_known z := va_up_ne (k := 4) (j := 0) z.2 x (by decide)
theorem cm6_known_allFor (z : S6) (x : (Nat → Int32)) (y : (Nat → Int32)) : s6_known (s6_allFor z x) y = s6_allFor (s6_known z y) x := congrArg (fun q => (z.1, q)) (zup_comm (k := 4) (l := 0) z.2 (by decide) x y)
theorem gs6_known_above (z : S6) (x : (Nat → Int32)) : g6_known (s6_above z x) = g6_known z := va_up_ne (k := 5) (j := 0) z.2 x (by decide)
theorem cm6_known_above (z : S6) (x : (Nat → Int32)) (y : (Nat → Int32)) : s6_known (s6_above z x) y = s6_above (s6_known z y) x := congrArg (fun q => (z.1, q)) (zup_comm (k := 5) (l := 0) z.2 (by decide) x y)
theorem gs6_known_facts (z : S6) (x : Int32) : g6_known (s6_facts z x) = g6_known z := rfl
theorem cm6_known_facts (z : S6) (x : Int32) (y : (Nat → Int32)) : s6_known (s6_facts z x) y = s6_facts (s6_known z y) x := rfl
theorem gs6_known_applies (z : S6) (x : Int32) : g6_known (s6_applies z x) = g6_known z := rfl
theorem cm6_known_applies (z : S6) (x : Int32) (y : (Nat → Int32)) : s6_known (s6_applies z x) y = s6_applies (s6_known z y) x := rfl
theorem gs6_known_falls (z : S6) (x : Int32) : g6_known (s6_falls z x) = g6_known z := rfl
theorem cm6_known_falls (z : S6) (x : Int32) (y : (Nat → Int32)) : s6_known (s6_falls z x) y = s6_falls (s6_known z y) x := rfl
theorem gs6_known_sureBodies (z : S6) (x : Int32) : g6_known (s6_sureBodies z x) = g6_known z := rfl
theorem cm6_known_sureBodies (z : S6) (x : Int32) (y : (Nat → Int32)) : s6_known (s6_sureBodies z x) y = s6_sureBodies (s6_known z y) x := rfl
theorem gs6_known_neverBodies (z : S6) (x : Int32) : g6_known (s6_neverBodies z x) = g6_known z := rfl
theorem cm6_known_neverBodies (z : S6) (x : Int32) (y : (Nat → Int32)) : s6_known (s6_neverBodies z x) y = s6_neverBodies (s6_known z y) x := rfl
theorem gg6_fresh (z : S6) (x : (Nat → Int32)) : g6_fresh (s6_fresh z x) = x := va_up_self z.2 1 x
theorem ss6_fresh (z : S6) (x y : (Nat → Int32)) : s6_fresh (s6_fresh z x) y = s6_fresh z y := congrArg (fun q => (z.1, q)) (zup_up z.2 1 x y)
theorem se6_fresh (z : S6) : s6_fresh z (g6_fresh z) = z := congrArg (fun q => (z.1, q)) (zup_self z.2 1)
theorem gs6_fresh_known (z : S6) (x : (Nat → Int32)) : g6_fresh (s6_known z x) = g6_fresh z := va_up_ne (k := 0) (j := 1) z.2 x (by decide)
theorem gs6_fresh_strictFor (z : S6) (x : (Nat → Int32)) : g6_fresh (s6_strictFor z x) = g6_fresh z := va_up_ne (k := 2) (j := 1) z.2 x (by decide)
theorem cm6_fresh_strictFor (z : S6) (x : (Nat → Int32)) (y : (Nat → Int32)) : s6_fresh (s6_strictFor z x) y = s6_strictFor (s6_fresh z y) x := congrArg (fun q => (z.1, q)) (zup_comm (k := 2) (l := 1) z.2 (by decide) x y)
theorem gs6_fresh_forwardFor (z : S6) (x : (Nat → Int32)) : g6_fresh (s6_forwardFor z x) = g6_fresh z := va_up_ne (k := 3) (j := 1) z.2 x (by decide)
theorem cm6_fresh_forwardFor (z : S6) (x : (Nat → Int32)) (y : (Nat → Int32)) : s6_fresh (s6_forwardFor z x) y = s6_forwardFor (s6_fresh z y) x := congrArg (fun q => (z.1, q)) (zup_comm (k := 3) (l := 1) z.2 (by decide) x y)
theorem gs6_fresh_allFor (z : S6) (x : (Nat → Int32)) : g6_fresh (s6_allFor z x) = g6_fresh z := va_up_ne (k := 4) (j := 1) z.2 x (by decide)
theorem cm6_fresh_allFor (z : S6) (x : (Nat → Int32)) (y : (Nat → Int32)) : s6_fresh (s6_allFor z x) y = s6_allFor (s6_fresh z y) x := congrArg (fun q => (z.1, q)) (zup_comm (k := 4) (l := 1) z.2 (by decide) x y)
theorem gs6_fresh_above (z : S6) (x : (Nat → Int32)) : g6_fresh (s6_above z x) = g6_fresh z := va_up_ne (k := 5) (j := 1) z.2 x (by decide)
theorem cm6_fresh_above (z : S6) (x : (Nat → Int32)) (y : (Nat → Int32)) : s6_fresh (s6_above z x) y = s6_above (s6_fresh z y) x := congrArg (fun q => (z.1, q)) (zup_comm (k := 5) (l := 1) z.2 (by decide) x y)
theorem gs6_fresh_facts (z : S6) (x : Int32) : g6_fresh (s6_facts z x) = g6_fresh z := rfl
theorem cm6_fresh_facts (z : S6) (x : Int32) (y : (Nat → Int32)) : s6_fresh (s6_facts z x) y = s6_facts (s6_fresh z y) x := rfl
theorem gs6_fresh_applies (z : S6) (x : Int32) : g6_fresh (s6_applies z x) = g6_fresh z := rfl
theorem cm6_fresh_applies (z : S6) (x : Int32) (y : (Nat → Int32)) : s6_fresh (s6_applies z x) y = s6_applies (s6_fresh z y) x := rfl
theorem gs6_fresh_falls (z : S6) (x : Int32) : g6_fresh (s6_falls z x) = g6_fresh z := rfl
theorem cm6_fresh_falls (z : S6) (x : Int32) (y : (Nat → Int32)) : s6_fresh (s6_falls z x) y = s6_falls (s6_fresh z y) x := rfl
theorem gs6_fresh_sureBodies (z : S6) (x : Int32) : g6_fresh (s6_sureBodies z x) = g6_fresh z := rfl
theorem cm6_fresh_sureBodies (z : S6) (x : Int32) (y : (Nat → Int32)) : s6_fresh (s6_sureBodies z x) y = s6_sureBodies (s6_fresh z y) x := rfl
theorem gs6_fresh_neverBodies (z : S6) (x : Int32) : g6_fresh (s6_neverBodies z x) = g6_fresh z := rfl
theorem cm6_fresh_neverBodies (z : S6) (x : Int32) (y : (Nat → Int32)) : s6_fresh (s6_neverBodies z x) y = s6_neverBodies (s6_fresh z y) x := rfl
theorem gg6_strictFor (z : S6) (x : (Nat → Int32)) : g6_strictFor (s6_strictFor z x) = x := va_up_self z.2 2 x
theorem ss6_strictFor (z : S6) (x y : (Nat → Int32)) : s6_strictFor (s6_strictFor z x) y = s6_strictFor z y := congrArg (fun q => (z.1, q)) (zup_up z.2 2 x y)
theorem se6_strictFor (z : S6) : s6_strictFor z (g6_strictFor z) = z := congrArg (fun q => (z.1, q)) (zup_self z.2 2)
theorem gs6_strictFor_known (z : S6) (x : (Nat → Int32)) : g6_strictFor (s6_known z x) = g6_strictFor z := va_up_ne (k := 0) (j := 2) z.2 x (by decide)
theorem gs6_strictFor_fresh (z : S6) (x : (Nat → Int32)) : g6_strictFor (s6_fresh z x) = g6_strictFor z := va_up_ne (k := 1) (j := 2) z.2 x (by decide)
theorem gs6_strictFor_forwardFor (z : S6) (x : (Nat → Int32)) : g6_strictFor (s6_forwardFor z x) = g6_strictFor z := va_up_ne (k := 3) (j := 2) z.2 x (by decide)
theorem cm6_strictFor_forwardFor (z : S6) (x : (Nat → Int32)) (y : (Nat → Int32)) : s6_strictFor (s6_forwardFor z x) y = s6_forwardFor (s6_strictFor z y) x := congrArg (fun q => (z.1, q)) (zup_comm (k := 3) (l := 2) z.2 (by decide) x y)
theorem gs6_strictFor_allFor (z : S6) (x : (Nat → Int32)) : g6_strictFor (s6_allFor z x) = g6_strictFor z := va_up_ne (k := 4) (j := 2) z.2 x (by decide)
theorem cm6_strictFor_allFor (z : S6) (x : (Nat → Int32)) (y : (Nat → Int32)) : s6_strictFor (s6_allFor z x) y = s6_allFor (s6_strictFor z y) x := congrArg (fun q => (z.1, q)) (zup_comm (k := 4) (l := 2) z.2 (by decide) x y)
theorem gs6_strictFor_above (z : S6) (x : (Nat → Int32)) : g6_strictFor (s6_above z x) = g6_strictFor z := va_up_ne (k := 5) (j := 2) z.2 x (by decide)
theorem cm6_strictFor_above (z : S6) (x : (Nat → Int32)) (y : (Nat → Int32)) : s6_strictFor (s6_above z x) y = s6_above (s6_strictFor z y) x := congrArg (fun q => (z.1, q)) (zup_comm (k := 5) (l := 2) z.2 (by decide) x y)
theorem gs6_strictFor_facts (z : S6) (x : Int32) : g6_strictFor (s6_facts z x) = g6_strictFor z := rfl
theorem cm6_strictFor_facts (z : S6) (x : Int32) (y : (Nat → Int32)) : s6_strictFor (s6_facts z x) y = s6_facts (s6_strictFor z y) x := rfl
theorem gs6_strictFor_applies (z : S6) (x : Int32) : g6_strictFor (s6_applies z x) = g6_strictFor z := rfl
theorem cm6_strictFor_applies (z : S6) (x : Int32) (y : (Nat → Int32)) : s6_strictFor (s6_applies z x) y = s6_applies (s6_strictFor z y) x := rfl
theorem gs6_strictFor_falls (z : S6) (x : Int32) : g6_strictFor (s6_falls z x) = g6_strictFor z := rfl
theorem cm6_strictFor_falls (z : S6) (x : Int32) (y : (Nat → Int32)) : s6_strictFor (s6_falls z x) y = s6_falls (s6_strictFor z y) x := rfl
theorem gs6_strictFor_sureBodies (z : S6) (x : Int32) : g6_strictFor (s6_sureBodies z x) = g6_strictFor z := rfl
theorem cm6_strictFor_sureBodies (z : S6) (x : Int32) (y : (Nat → Int32)) : s6_strictFor (s6_sureBodies z x) y = s6_sureBodies (s6_strictFor z y) x := rfl
theorem gs6_strictFor_neverBodies (z : S6) (x : Int32) : g6_strictFor (s6_neverBodies z x) = g6_strictFor z := rfl
theorem cm6_strictFor_neverBodies (z : S6) (x : Int32) (y : (Nat → Int32)) : s6_strictFor (s6_neverBodies z x) y = s6_neverBodies (s6_strictFor z y) x := rfl
theorem gg6_forwardFor (z : S6) (x : (Nat → Int32)) : g6_forwardFor (s6_forwardFor z x) = x := va_up_self z.2 3 x
theorem ss6_forwardFor (z : S6) (x y : (Nat → Int32)) : s6_forwardFor (s6_forwardFor z x) y = s6_forwardFor z y := congrArg (fun q => (z.1, q)) (zup_up z.2 3 x y)
theorem se6_forwardFor (z : S6) : s6_forwardFor z (g6_forwardFor z) = z := congrArg (fun q => (z.1, q)) (zup_self z.2 3)
theorem gs6_forwardFor_known (z : S6) (x : (Nat → Int32)) : g6_forwardFor (s6_known z x) = g6_forwardFor z := va_up_ne (k := 0) (j := 3) z.2 x (by decide)
theorem gs6_forwardFor_fresh (z : S6) (x : (Nat → Int32)) : g6_forwardFor (s6_fresh z x) = g6_forwardFor z := va_up_ne (k := 1) (j := 3) z.2 x (by decide)
theorem gs6_forwardFor_strictFor (z : S6) (x : (Nat → Int32)) : g6_forwardFor (s6_strictFor z x) = g6_forwardFor z := va_up_ne (k := 2) (j := 3) z.2 x (by decide)
theorem gs6_forwardFor_allFor (z : S6) (x : (Nat → Int32)) : g6_forwardFor (s6_allFor z x) = g6_forwardFor z := va_up_ne (k := 4) (j := 3) z.2 x (by decide)
theorem cm6_forwardFor_allFor (z : S6) (x : (Nat → Int32)) (y : (Nat → Int32)) : s6_forwardFor (s6_allFor z x) y = s6_allFor (s6_forwardFor z y) x := congrArg (fun q => (z.1, q)) (zup_comm (k := 4) (l := 3) z.2 (by decide) x y)
theorem gs6_forwardFor_above (z : S6) (x : (Nat → Int32)) : g6_forwardFor (s6_above z x) = g6_forwardFor z := va_up_ne (k := 5) (j := 3) z.2 x (by decide)
theorem cm6_forwardFor_above (z : S6) (x : (Nat → Int32)) (y : (Nat → Int32)) : s6_forwardFor (s6_above z x) y = s6_above (s6_forwardFor z y) x := congrArg (fun q => (z.1, q)) (zup_comm (k := 5) (l := 3) z.2 (by decide) x y)
theorem gs6_forwardFor_facts (z : S6) (x : Int32) : g6_forwardFor (s6_facts z x) = g6_forwardFor z := rfl
theorem cm6_forwardFor_facts (z : S6) (x : Int32) (y : (Nat → Int32)) : s6_forwardFor (s6_facts z x) y = s6_facts (s6_forwardFor z y) x := rfl
theorem gs6_forwardFor_applies (z : S6) (x : Int32) : g6_forwardFor (s6_applies z x) = g6_forwardFor z := rfl
theorem cm6_forwardFor_applies (z : S6) (x : Int32) (y : (Nat → Int32)) : s6_forwardFor (s6_applies z x) y = s6_applies (s6_forwardFor z y) x := rfl
theorem gs6_forwardFor_falls (z : S6) (x : Int32) : g6_forwardFor (s6_falls z x) = g6_forwardFor z := rfl
theorem cm6_forwardFor_falls (z : S6) (x : Int32) (y : (Nat → Int32)) : s6_forwardFor (s6_falls z x) y = s6_falls (s6_forwardFor z y) x := rfl
theorem gs6_forwardFor_sureBodies (z : S6) (x : Int32) : g6_forwardFor (s6_sureBodies z x) = g6_forwardFor z := rfl
theorem cm6_forwardFor_sureBodies (z : S6) (x : Int32) (y : (Nat → Int32)) : s6_forwardFor (s6_sureBodies z x) y = s6_sureBodies (s6_forwardFor z y) x := rfl
theorem gs6_forwardFor_neverBodies (z : S6) (x : Int32) : g6_forwardFor (s6_neverBodies z x) = g6_forwardFor z := rfl
theorem cm6_forwardFor_neverBodies (z : S6) (x : Int32) (y : (Nat → Int32)) : s6_forwardFor (s6_neverBodies z x) y = s6_neverBodies (s6_forwardFor z y) x := rfl
theorem gg6_allFor (z : S6) (x : (Nat → Int32)) : g6_allFor (s6_allFor z x) = x := va_up_self z.2 4 x
theorem ss6_allFor (z : S6) (x y : (Nat → Int32)) : s6_allFor (s6_allFor z x) y = s6_allFor z y := congrArg (fun q => (z.1, q)) (zup_up z.2 4 x y)
theorem se6_allFor (z : S6) : s6_allFor z (g6_allFor z) = z := congrArg (fun q => (z.1, q)) (zup_self z.2 4)
theorem gs6_allFor_known (z : S6) (x : (Nat → Int32)) : g6_allFor (s6_known z x) = g6_allFor z := va_up_ne (k := 0) (j := 4) z.2 x (by decide)
theorem gs6_allFor_fresh (z : S6) (x : (Nat → Int32)) : g6_allFor (s6_fresh z x) = g6_allFor z := va_up_ne (k := 1) (j := 4) z.2 x (by decide)
theorem gs6_allFor_strictFor (z : S6) (x : (Nat → Int32)) : g6_allFor (s6_strictFor z x) = g6_allFor z := va_up_ne (k := 2) (j := 4) z.2 x (by decide)
theorem gs6_allFor_forwardFor (z : S6) (x : (Nat → Int32)) : g6_allFor (s6_forwardFor z x) = g6_allFor z := va_up_ne (k := 3) (j := 4) z.2 x (by decide)
theorem gs6_allFor_above (z : S6) (x : (Nat → Int32)) : g6_allFor (s6_above z x) = g6_allFor z := va_up_ne (k := 5) (j := 4) z.2 x (by decide)
theorem cm6_allFor_above (z : S6) (x : (Nat → Int32)) (y : (Nat → Int32)) : s6_allFor (s6_above z x) y = s6_above (s6_allFor z y) x := congrArg (fun q => (z.1, q)) (zup_comm (k := 5) (l := 4) z.2 (by decide) x y)
theorem gs6_allFor_facts (z : S6) (x : Int32) : g6_allFor (s6_facts z x) = g6_allFor z := rfl
theorem cm6_allFor_facts (z : S6) (x : Int32) (y : (Nat → Int32)) : s6_allFor (s6_facts z x) y = s6_facts (s6_allFor z y) x := rfl
theorem gs6_allFor_applies (z : S6) (x : Int32) : g6_allFor (s6_applies z x) = g6_allFor z := rfl
theorem cm6_allFor_applies (z : S6) (x : Int32) (y : (Nat → Int32)) : s6_allFor (s6_applies z x) y = s6_applies (s6_allFor z y) x := rfl
theorem gs6_allFor_falls (z : S6) (x : Int32) : g6_allFor (s6_falls z x) = g6_allFor z := rfl
theorem cm6_allFor_falls (z : S6) (x : Int32) (y : (Nat → Int32)) : s6_allFor (s6_falls z x) y = s6_falls (s6_allFor z y) x := rfl
theorem gs6_allFor_sureBodies (z : S6) (x : Int32) : g6_allFor (s6_sureBodies z x) = g6_allFor z := rfl
theorem cm6_allFor_sureBodies (z : S6) (x : Int32) (y : (Nat → Int32)) : s6_allFor (s6_sureBodies z x) y = s6_sureBodies (s6_allFor z y) x := rfl
theorem gs6_allFor_neverBodies (z : S6) (x : Int32) : g6_allFor (s6_neverBodies z x) = g6_allFor z := rfl
theorem cm6_allFor_neverBodies (z : S6) (x : Int32) (y : (Nat → Int32)) : s6_allFor (s6_neverBodies z x) y = s6_neverBodies (s6_allFor z y) x := rfl
theorem gg6_above (z : S6) (x : (Nat → Int32)) : g6_above (s6_above z x) = x := va_up_self z.2 5 x
theorem ss6_above (z : S6) (x y : (Nat → Int32)) : s6_above (s6_above z x) y = s6_above z y := congrArg (fun q => (z.1, q)) (zup_up z.2 5 x y)
theorem se6_above (z : S6) : s6_above z (g6_above z) = z := congrArg (fun q => (z.1, q)) (zup_self z.2 5)
theorem gs6_above_known (z : S6) (x : (Nat → Int32)) : g6_above (s6_known z x) = g6_above z := va_up_ne (k := 0) (j := 5) z.2 x (by decide)
theorem gs6_above_fresh (z : S6) (x : (Nat → Int32)) : g6_above (s6_fresh z x) = g6_above z := va_up_ne (k := 1) (j := 5) z.2 x (by decide)
theorem gs6_above_strictFor (z : S6) (x : (Nat → Int32)) : g6_above (s6_strictFor z x) = g6_above z := va_up_ne (k := 2) (j := 5) z.2 x (by decide)
theorem gs6_above_forwardFor (z : S6) (x : (Nat → Int32)) : g6_above (s6_forwardFor z x) = g6_above z := va_up_ne (k := 3) (j := 5) z.2 x (by decide)
theorem gs6_above_allFor (z : S6) (x : (Nat → Int32)) : g6_above (s6_allFor z x) = g6_above z := va_up_ne (k := 4) (j := 5) z.2 x (by decide)
theorem gs6_above_facts (z : S6) (x : Int32) : g6_above (s6_facts z x) = g6_above z := rfl
theorem cm6_above_facts (z : S6) (x : Int32) (y : (Nat → Int32)) : s6_above (s6_facts z x) y = s6_facts (s6_above z y) x := rfl
theorem gs6_above_applies (z : S6) (x : Int32) : g6_above (s6_applies z x) = g6_above z := rfl
theorem cm6_above_applies (z : S6) (x : Int32) (y : (Nat → Int32)) : s6_above (s6_applies z x) y = s6_applies (s6_above z y) x := rfl
theorem gs6_above_falls (z : S6) (x : Int32) : g6_above (s6_falls z x) = g6_above z := rfl
theorem cm6_above_falls (z : S6) (x : Int32) (y : (Nat → Int32)) : s6_above (s6_falls z x) y = s6_falls (s6_above z y) x := rfl
theorem gs6_above_sureBodies (z : S6) (x : Int32) : g6_above (s6_sureBodies z x) = g6_above z := rfl
theorem cm6_above_sureBodies (z : S6) (x : Int32) (y : (Nat → Int32)) : s6_above (s6_sureBodies z x) y = s6_sureBodies (s6_above z y) x := rfl
theorem gs6_above_neverBodies (z : S6) (x : Int32) : g6_above (s6_neverBodies z x) = g6_above z := rfl
theorem cm6_above_neverBodies (z : S6) (x : Int32) (y : (Nat → Int32)) : s6_above (s6_neverBodies z x) y = s6_neverBodies (s6_above z y) x := rfl
theorem gg6_reach (z : S6) (x : (Nat → Int32)) : g6_reach (s6_reach z x) = x := va_up_self z.2 6 x
theorem ss6_reach (z : S6) (x y : (Nat → Int32)) : s6_reach (s6_reach z x) y = s6_reach z y := congrArg (fun q => (z.1, q)) (zup_up z.2 6 x y)
theorem se6_reach (z : S6) : s6_reach z (g6_reach z) = z := congrArg (fun q => (z.1, q)) (zup_self z.2 6)
theorem gs6_reach_known (z : S6) (x : (Nat → Int32)) : g6_reach (s6_known z x) = g6_reach z := va_up_ne (k := 0) (j := 6) z.2 x (by decide)
theorem gs6_reach_fresh (z : S6) (x : (Nat → Int32)) : g6_reach (s6_fresh z x) = g6_reach z := va_up_ne (k := 1) (j := 6) z.2 x (by decide)
theorem gs6_reach_strictFor (z : S6) (x : (Nat → Int32)) : g6_reach (s6_strictFor z x) = g6_reach z := va_up_ne (k := 2) (j := 6) z.2 x (by decide)
theorem gs6_reach_forwardFor (z : S6) (x : (Nat → Int32)) : g6_reach (s6_forwardFor z x) = g6_reach z := va_up_ne (k := 3) (j := 6) z.2 x (by decide)
theorem gs6_reach_allFor (z : S6) (x : (Nat → Int32)) : g6_reach (s6_allFor z x) = g6_reach z := va_up_ne (k := 4) (j := 6) z.2 x (by decide)
theorem gs6_reach_above (z : S6) (x : (Nat → Int32)) : g6_reach (s6_above z x) = g6_reach z := va_up_ne (k := 5) (j := 6) z.2 x (by decide)
theorem gs6_reach_facts (z : S6) (x : Int32) : g6_reach (s6_facts z x) = g6_reach z := rfl
theorem cm6_reach_facts (z : S6) (x : Int32) (y : (Nat → Int32)) : s6_reach (s6_facts z x) y = s6_facts (s6_reach z y) x := rfl
theorem gs6_reach_applies (z : S6) (x : Int32) : g6_reach (s6_applies z x) = g6_reach z := rfl
theorem cm6_reach_applies (z : S6) (x : Int32) (y : (Nat → Int32)) : s6_reach (s6_applies z x) y = s6_applies (s6_reach z y) x := rfl
theorem gs6_reach_falls (z : S6) (x : Int32) : g6_reach (s6_falls z x) = g6_reach z := rfl
theorem cm6_reach_falls (z : S6) (x : Int32) (y : (Nat → Int32)) : s6_reach (s6_falls z x) y = s6_falls (s6_reach z y) x := rfl
theorem gs6_reach_sureBodies (z : S6) (x : Int32) : g6_reach (s6_sureBodies z x) = g6_reach z := rfl
theorem cm6_reach_sureBodies (z : S6) (x : Int32) (y : (Nat → Int32)) : s6_reach (s6_sureBodies z x) y = s6_sureBodies (s6_reach z y) x := rfl
theorem gs6_reach_neverBodies (z : S6) (x : Int32) : g6_reach (s6_neverBodies z x) = g6_reach z := rfl
theorem cm6_reach_neverBodies (z : S6) (x : Int32) (y : (Nat → Int32)) : s6_reach (s6_neverBodies z x) y = s6_neverBodies (s6_reach z y) x := rfl
theorem gg6_facts (z : S6) (x : Int32) : g6_facts (s6_facts z x) = x := va_up_self z.1 0 x
theorem ss6_facts (z : S6) (x y : Int32) : s6_facts (s6_facts z x) y = s6_facts z y := congrArg (fun q => (q, z.2)) (zup_up z.1 0 x y)
theorem se6_facts (z : S6) : s6_facts z (g6_facts z) = z := congrArg (fun q => (q, z.2)) (zup_self z.1 0)
theorem gs6_facts_known (z : S6) (x : (Nat → Int32)) : g6_facts (s6_known z x) = g6_facts z := rfl
theorem gs6_facts_fresh (z : S6) (x : (Nat → Int32)) : g6_facts (s6_fresh z x) = g6_facts z := rfl
theorem gs6_facts_strictFor (z : S6) (x : (Nat → Int32)) : g6_facts (s6_strictFor z x) = g6_facts z := rfl
theorem gs6_facts_forwardFor (z : S6) (x : (Nat → Int32)) : g6_facts (s6_forwardFor z x) = g6_facts z := rfl
theorem gs6_facts_allFor (z : S6) (x : (Nat → Int32)) : g6_facts (s6_allFor z x) = g6_facts z := rfl
theorem gs6_facts_above (z : S6) (x : (Nat → Int32)) : g6_facts (s6_above z x) = g6_facts z := rfl
theorem gs6_facts_reach (z : S6) (x : (Nat → Int32)) : g6_facts (s6_reach z x) = g6_facts z := rfl
theorem gs6_facts_applies (z : S6) (x : Int32) : g6_facts (s6_applies z x) = g6_facts z := va_up_ne (k := 1) (j := 0) z.1 x (by decide)
theorem cm6_facts_applies (z : S6) (x : Int32) (y : Int32) : s6_facts (s6_applies z x) y = s6_applies (s6_facts z y) x := congrArg (fun q => (q, z.2)) (zup_comm (k := 1) (l := 0) z.1 (by decide) x y)
theorem gs6_facts_falls (z : S6) (x : Int32) : g6_facts (s6_falls z x) = g6_facts z := va_up_ne (k := 2) (j := 0) z.1 x (by decide)
theorem cm6_facts_falls (z : S6) (x : Int32) (y : Int32) : s6_facts (s6_falls z x) y = s6_falls (s6_facts z y) x := congrArg (fun q => (q, z.2)) (zup_comm (k := 2) (l := 0) z.1 (by decide) x y)
theorem gs6_facts_sureBodies (z : S6) (x : Int32) : g6_facts (s6_sureBodies z x) = g6_facts z := va_up_ne (k := 3) (j := 0) z.1 x (by decide)
theorem cm6_facts_sureBodies (z : S6) (x : Int32) (y : Int32) : s6_facts (s6_sureBodies z x) y = s6_sureBodies (s6_facts z y) x := congrArg (fun q => (q, z.2)) (zup_comm (k := 3) (l := 0) z.1 (by decide) x y)
theorem gs6_facts_neverBodies (z : S6) (x : Int32) : g6_facts (s6_neverBodies z x) = g6_facts z := va_up_ne (k := 4) (j := 0) z.1 x (by decide)
theorem cm6_facts_neverBodies (z : S6) (x : Int32) (y : Int32) : s6_facts (s6_neverBodies z x) y = s6_neverBodies (s6_facts z y) x := congrArg (fun q => (q, z.2)) (zup_comm (k := 4) (l := 0) z.1 (by decide) x y)
theorem gg6_applies (z : S6) (x : Int32) : g6_applies (s6_applies z x) = x := va_up_self z.1 1 x
theorem ss6_applies (z : S6) (x y : Int32) : s6_applies (s6_applies z x) y = s6_applies z y := congrArg (fun q => (q, z.2)) (zup_up z.1 1 x y)
theorem se6_applies (z : S6) : s6_applies z (g6_applies z) = z := congrArg (fun q => (q, z.2)) (zup_self z.1 1)
theorem gs6_applies_known (z : S6) (x : (Nat → Int32)) : g6_applies (s6_known z x) = g6_applies z := rfl
theorem gs6_applies_fresh (z : S6) (x : (Nat → Int32)) : g6_applies (s6_fresh z x) = g6_applies z := rfl
theorem gs6_applies_strictFor (z : S6) (x : (Nat → Int32)) : g6_applies (s6_strictFor z x) = g6_applies z := rfl
theorem gs6_applies_forwardFor (z : S6) (x : (Nat → Int32)) : g6_applies (s6_forwardFor z x) = g6_applies z := rfl
theorem gs6_applies_allFor (z : S6) (x : (Nat → Int32)) : g6_applies (s6_allFor z x) = g6_applies z := rfl
theorem gs6_applies_above (z : S6) (x : (Nat → Int32)) : g6_applies (s6_above z x) = g6_applies z := rfl
theorem gs6_applies_reach (z : S6) (x : (Nat → Int32)) : g6_applies (s6_reach z x) = g6_applies z := rfl
theorem gs6_applies_facts (z : S6) (x : Int32) : g6_applies (s6_facts z x) = g6_applies z := va_up_ne (k := 0) (j := 1) z.1 x (by decide)
theorem gs6_applies_falls (z : S6) (x : Int32) : g6_applies (s6_falls z x) = g6_applies z := va_up_ne (k := 2) (j := 1) z.1 x (by decide)
theorem cm6_applies_falls (z : S6) (x : Int32) (y : Int32) : s6_applies (s6_falls z x) y = s6_falls (s6_applies z y) x := congrArg (fun q => (q, z.2)) (zup_comm (k := 2) (l := 1) z.1 (by decide) x y)
theorem gs6_applies_sureBodies (z : S6) (x : Int32) : g6_applies (s6_sureBodies z x) = g6_applies z := va_up_ne (k := 3) (j := 1) z.1 x (by decide)
theorem cm6_applies_sureBodies (z : S6) (x : Int32) (y : Int32) : s6_applies (s6_sureBodies z x) y = s6_sureBodies (s6_applies z y) x := congrArg (fun q => (q, z.2)) (zup_comm (k := 3) (l := 1) z.1 (by decide) x y)
theorem gs6_applies_neverBodies (z : S6) (x : Int32) : g6_applies (s6_neverBodies z x) = g6_applies z := va_up_ne (k := 4) (j := 1) z.1 x (by decide)
theorem cm6_applies_neverBodies (z : S6) (x : Int32) (y : Int32) : s6_applies (s6_neverBodies z x) y = s6_neverBodies (s6_applies z y) x := congrArg (fun q => (q, z.2)) (zup_comm (k := 4) (l := 1) z.1 (by decide) x y)
theorem gg6_falls (z : S6) (x : Int32) : g6_falls (s6_falls z x) = x := va_up_self z.1 2 x
theorem ss6_falls (z : S6) (x y : Int32) : s6_falls (s6_falls z x) y = s6_falls z y := congrArg (fun q => (q, z.2)) (zup_up z.1 2 x y)
theorem se6_falls (z : S6) : s6_falls z (g6_falls z) = z := congrArg (fun q => (q, z.2)) (zup_self z.1 2)
theorem gs6_falls_known (z : S6) (x : (Nat → Int32)) : g6_falls (s6_known z x) = g6_falls z := rfl
theorem gs6_falls_fresh (z : S6) (x : (Nat → Int32)) : g6_falls (s6_fresh z x) = g6_falls z := rfl
theorem gs6_falls_strictFor (z : S6) (x : (Nat → Int32)) : g6_falls (s6_strictFor z x) = g6_falls z := rfl
theorem gs6_falls_forwardFor (z : S6) (x : (Nat → Int32)) : g6_falls (s6_forwardFor z x) = g6_falls z := rfl
theorem gs6_falls_allFor (z : S6) (x : (Nat → Int32)) : g6_falls (s6_allFor z x) = g6_falls z := rfl
theorem gs6_falls_above (z : S6) (x : (Nat → Int32)) : g6_falls (s6_above z x) = g6_falls z := rfl
theorem gs6_falls_reach (z : S6) (x : (Nat → Int32)) : g6_falls (s6_reach z x) = g6_falls z := rfl
theorem gs6_falls_facts (z : S6) (x : Int32) : g6_falls (s6_facts z x) = g6_falls z := va_up_ne (k := 0) (j := 2) z.1 x (by decide)
theorem gs6_falls_applies (z : S6) (x : Int32) : g6_falls (s6_applies z x) = g6_falls z := va_up_ne (k := 1) (j := 2) z.1 x (by decide)
theorem gs6_falls_sureBodies (z : S6) (x : Int32) : g6_falls (s6_sureBodies z x) = g6_falls z := va_up_ne (k := 3) (j := 2) z.1 x (by decide)
theorem cm6_falls_sureBodies (z : S6) (x : Int32) (y : Int32) : s6_falls (s6_sureBodies z x) y = s6_sureBodies (s6_falls z y) x := congrArg (fun q => (q, z.2)) (zup_comm (k := 3) (l := 2) z.1 (by decide) x y)
theorem gs6_falls_neverBodies (z : S6) (x : Int32) : g6_falls (s6_neverBodies z x) = g6_falls z := va_up_ne (k := 4) (j := 2) z.1 x (by decide)
theorem cm6_falls_neverBodies (z : S6) (x : Int32) (y : Int32) : s6_falls (s6_neverBodies z x) y = s6_neverBodies (s6_falls z y) x := congrArg (fun q => (q, z.2)) (zup_comm (k := 4) (l := 2) z.1 (by decide) x y)
theorem gg6_sureBodies (z : S6) (x : Int32) : g6_sureBodies (s6_sureBodies z x) = x := va_up_self z.1 3 x
theorem ss6_sureBodies (z : S6) (x y : Int32) : s6_sureBodies (s6_sureBodies z x) y = s6_sureBodies z y := congrArg (fun q => (q, z.2)) (zup_up z.1 3 x y)
theorem se6_sureBodies (z : S6) : s6_sureBodies z (g6_sureBodies z) = z := congrArg (fun q => (q, z.2)) (zup_self z.1 3)
theorem gs6_sureBodies_known (z : S6) (x : (Nat → Int32)) : g6_sureBodies (s6_known z x) = g6_sureBodies z := rfl
theorem gs6_sureBodies_fresh (z : S6) (x : (Nat → Int32)) : g6_sureBodies (s6_fresh z x) = g6_sureBodies z := rfl
theorem gs6_sureBodies_strictFor (z : S6) (x : (Nat → Int32)) : g6_sureBodies (s6_strictFor z x) = g6_sureBodies z := rfl
theorem gs6_sureBodies_forwardFor (z : S6) (x : (Nat → Int32)) : g6_sureBodies (s6_forwardFor z x) = g6_sureBodies z := rfl
theorem gs6_sureBodies_allFor (z : S6) (x : (Nat → Int32)) : g6_sureBodies (s6_allFor z x) = g6_sureBodies z := rfl
theorem gs6_sureBodies_above (z : S6) (x : (Nat → Int32)) : g6_sureBodies (s6_above z x) = g6_sureBodies z := rfl
theorem gs6_sureBodies_reach (z : S6) (x : (Nat → Int32)) : g6_sureBodies (s6_reach z x) = g6_sureBodies z := rfl
theorem gs6_sureBodies_facts (z : S6) (x : Int32) : g6_sureBodies (s6_facts z x) = g6_sureBodies z := va_up_ne (k := 0) (j := 3) z.1 x (by decide)
theorem gs6_sureBodies_applies (z : S6) (x : Int32) : g6_sureBodies (s6_applies z x) = g6_sureBodies z := va_up_ne (k := 1) (j := 3) z.1 x (by decide)
theorem gs6_sureBodies_falls (z : S6) (x : Int32) : g6_sureBodies (s6_falls z x) = g6_sureBodies z := va_up_ne (k := 2) (j := 3) z.1 x (by decide)
theorem gs6_sureBodies_neverBodies (z : S6) (x : Int32) : g6_sureBodies (s6_neverBodies z x) = g6_sureBodies z := va_up_ne (k := 4) (j := 3) z.1 x (by decide)
theorem cm6_sureBodies_neverBodies (z : S6) (x : Int32) (y : Int32) : s6_sureBodies (s6_neverBodies z x) y = s6_neverBodies (s6_sureBodies z y) x := congrArg (fun q => (q, z.2)) (zup_comm (k := 4) (l := 3) z.1 (by decide) x y)
theorem gg6_neverBodies (z : S6) (x : Int32) : g6_neverBodies (s6_neverBodies z x) = x := va_up_self z.1 4 x
theorem ss6_neverBodies (z : S6) (x y : Int32) : s6_neverBodies (s6_neverBodies z x) y = s6_neverBodies z y := congrArg (fun q => (q, z.2)) (zup_up z.1 4 x y)
theorem se6_neverBodies (z : S6) : s6_neverBodies z (g6_neverBodies z) = z := congrArg (fun q => (q, z.2)) (zup_self z.1 4)
theorem gs6_neverBodies_known (z : S6) (x : (Nat → Int32)) : g6_neverBodies (s6_known z x) = g6_neverBodies z := rfl
theorem gs6_neverBodies_fresh (z : S6) (x : (Nat → Int32)) : g6_neverBodies (s6_fresh z x) = g6_neverBodies z := rfl
theorem gs6_neverBodies_strictFor (z : S6) (x : (Nat → Int32)) : g6_neverBodies (s6_strictFor z x) = g6_neverBodies z := rfl
theorem gs6_neverBodies_forwardFor (z : S6) (x : (Nat → Int32)) : g6_neverBodies (s6_forwardFor z x) = g6_neverBodies z := rfl
theorem gs6_neverBodies_allFor (z : S6) (x : (Nat → Int32)) : g6_neverBodies (s6_allFor z x) = g6_neverBodies z := rfl
theorem gs6_neverBodies_above (z : S6) (x : (Nat → Int32)) : g6_neverBodies (s6_above z x) = g6_neverBodies z := rfl
theorem gs6_neverBodies_reach (z : S6) (x : (Nat → Int32)) : g6_neverBodies (s6_reach z x) = g6_neverBodies z := rfl
theorem gs6_neverBodies_facts (z : S6) (x : Int32) : g6_neverBodies (s6_facts z x) = g6_neverBodies z := va_up_ne (k := 0) (j := 4) z.1 x (by decide)
theorem gs6_neverBodies_applies (z : S6) (x : Int32) : g6_neverBodies (s6_applies z x) = g6_neverBodies z := va_up_ne (k := 1) (j := 4) z.1 x (by decide)
theorem gs6_neverBodies_falls (z : S6) (x : Int32) : g6_neverBodies (s6_falls z x) = g6_neverBodies z := va_up_ne (k := 2) (j := 4) z.1 x (by decide)
theorem gs6_neverBodies_sureBodies (z : S6) (x : Int32) : g6_neverBodies (s6_sureBodies z x) = g6_neverBodies z := va_up_ne (k := 3) (j := 4) z.1 x (by decide)
theorem zg6_known (S : CallFix p m c cc nL s args Ts own) {index : Nat} (hin : ∀ w ∈ u_ws RX6 TX6 12, w ∈ Ts) (hK : zK G s) (hP : zP G bs H) (i : Nat) {a : Nat → Nat} {z : S6} (hi : bs[i]? = some (w6 G a z)) (hlink : Cond.fieldLink own index "RuleCourt$View" "known" "[I" ∈ Ts) (hdg : decode cc pc = .ok (.getfield index, 3)) (kk : W p l e R s m args below meth c H locs cells slots Q (F0 m (pc + 3) ls (.ref (a 1) :: rest))) : W p l e R s m args below meth c H locs cells slots Q (F0 m pc ls (.ref (a 0) :: rest)) := zget S hin hK hP i hi 0 rfl (ci := 6) rfl 0 (by decide) hlink rfl rfl hdg kk
theorem zl6_known (S : CallFix p m c cc nL s args Ts own) (hK : zK G s) (hP : zP G bs H) (i : Nat) {a : Nat → Nat} {z : S6} (hi : bs[i]? = some (w6 G a z)) {j : Int32} (hin : vp_in j 4) {f : Nat → Int32} (hv : g6_known z = f) (hdg : decode cc pc = .ok (.iaload, 1)) (kk : W p l e R s m args below meth c H locs cells slots Q (F0 m (pc + 1) ls (.int (f j.toNatClampNeg) :: rest))) : W p l e R s m args below meth c H locs cells slots Q (F0 m pc ls (.int j :: .ref (a 1) :: rest)) := zald S hK hP i hi 1 rfl hin hdg (by subst hv; exact kk)
theorem zs6_known (S : CallFix p m c cc nL s args Ts own) (hK : zK G s) (hP : zP G bs H) (hD : zD A bs) (hS : va_S A H0 H locs) (i : Nat) {a : Nat → Nat} {z : S6} (hi : bs[i]? = some (w6 G a z)) {j x : Int32} (hin : vp_in j 4) {f : Nat → Int32} (hv : g6_known z = f) (hdg : decode cc pc = .ok (.iastore, 1)) (hbs : bs.set i (w6 G a (s6_known z (upd f j.toNatClampNeg x))) = bs1) (kk : ∀ (H1 : Heap) (locs1 : List Loc), zP G bs1 H1 → zD A bs1 → va_S A H0 H1 locs1 → W p l e R s m args below meth c H1 locs1 cells slots Q (F0 m (pc + 1) ls rest)) : W p l e R s m args below meth c H locs cells slots Q (F0 m pc ls (.int x :: .int j :: .ref (a 1) :: rest)) := by
  subst hv
  exact zast S hK hP hD hS i hi 1 rfl hin rfl hbs hdg kk
theorem pt6_known (G : zG) (a : Nat → Nat) (z : S6) (f : Nat → Int32) : (w6 G a z).set 1 (a 1, .inl (G.2.1, 4, .inl f)) = w6 G a (s6_known z f) := rfl
theorem zg6_fresh (S : CallFix p m c cc nL s args Ts own) {index : Nat} (hin : ∀ w ∈ u_ws RX6 TX6 12, w ∈ Ts) (hK : zK G s) (hP : zP G bs H) (i : Nat) {a : Nat → Nat} {z : S6} (hi : bs[i]? = some (w6 G a z)) (hlink : Cond.fieldLink own index "RuleCourt$View" "fresh" "[I" ∈ Ts) (hdg : decode cc pc = .ok (.getfield index, 3)) (kk : W p l e R s m args below meth c H locs cells slots Q (F0 m (pc + 3) ls (.ref (a 2) :: rest))) : W p l e R s m args below meth c H locs cells slots Q (F0 m pc ls (.ref (a 0) :: rest)) := zget S hin hK hP i hi 0 rfl (ci := 6) rfl 1 (by decide) hlink rfl rfl hdg kk
theorem zl6_fresh (S : CallFix p m c cc nL s args Ts own) (hK : zK G s) (hP : zP G bs H) (i : Nat) {a : Nat → Nat} {z : S6} (hi : bs[i]? = some (w6 G a z)) {j : Int32} (hin : vp_in j 4) {f : Nat → Int32} (hv : g6_fresh z = f) (hdg : decode cc pc = .ok (.iaload, 1)) (kk : W p l e R s m args below meth c H locs cells slots Q (F0 m (pc + 1) ls (.int (f j.toNatClampNeg) :: rest))) : W p l e R s m args below meth c H locs cells slots Q (F0 m pc ls (.int j :: .ref (a 2) :: rest)) := zald S hK hP i hi 2 rfl hin hdg (by subst hv; exact kk)
theorem zs6_fresh (S : CallFix p m c cc nL s args Ts own) (hK : zK G s) (hP : zP G bs H) (hD : zD A bs) (hS : va_S A H0 H locs) (i : Nat) {a : Nat → Nat} {z : S6} (hi : bs[i]? = some (w6 G a z)) {j x : Int32} (hin : vp_in j 4) {f : Nat → Int32} (hv : g6_fresh z = f) (hdg : decode cc pc = .ok (.iastore, 1)) (hbs : bs.set i (w6 G a (s6_fresh z (upd f j.toNatClampNeg x))) = bs1) (kk : ∀ (H1 : Heap) (locs1 : List Loc), zP G bs1 H1 → zD A bs1 → va_S A H0 H1 locs1 → W p l e R s m args below meth c H1 locs1 cells slots Q (F0 m (pc + 1) ls rest)) : W p l e R s m args below meth c H locs cells slots Q (F0 m pc ls (.int x :: .int j :: .ref (a 2) :: rest)) := by
  subst hv
  exact zast S hK hP hD hS i hi 2 rfl hin rfl hbs hdg kk
theorem pt6_fresh (G : zG) (a : Nat → Nat) (z : S6) (f : Nat → Int32) : (w6 G a z).set 2 (a 2, .inl (G.2.1, 4, .inl f)) = w6 G a (s6_fresh z f) := rfl
theorem zg6_strictFor (S : CallFix p m c cc nL s args Ts own) {index : Nat} (hin : ∀ w ∈ u_ws RX6 TX6 12, w ∈ Ts) (hK : zK G s) (hP : zP G bs H) (i : Nat) {a : Nat → Nat} {z : S6} (hi : bs[i]? = some (w6 G a z)) (hlink : Cond.fieldLink own index "RuleCourt$View" "strictFor" "[I" ∈ Ts) (hdg : decode cc pc = .ok (.getfield index, 3)) (kk : W p l e R s m args below meth c H locs cells slots Q (F0 m (pc + 3) ls (.ref (a 3) :: rest))) : W p l e R s m args below meth c H locs cells slots Q (F0 m pc ls (.ref (a 0) :: rest)) := zget S hin hK hP i hi 0 rfl (ci := 6) rfl 2 (by decide) hlink rfl rfl hdg kk
theorem zl6_strictFor (S : CallFix p m c cc nL s args Ts own) (hK : zK G s) (hP : zP G bs H) (i : Nat) {a : Nat → Nat} {z : S6} (hi : bs[i]? = some (w6 G a z)) {j : Int32} (hin : vp_in j 20) {f : Nat → Int32} (hv : g6_strictFor z = f) (hdg : decode cc pc = .ok (.iaload, 1)) (kk : W p l e R s m args below meth c H locs cells slots Q (F0 m (pc + 1) ls (.int (f j.toNatClampNeg) :: rest))) : W p l e R s m args below meth c H locs cells slots Q (F0 m pc ls (.int j :: .ref (a 3) :: rest)) := zald S hK hP i hi 3 rfl hin hdg (by subst hv; exact kk)
theorem zs6_strictFor (S : CallFix p m c cc nL s args Ts own) (hK : zK G s) (hP : zP G bs H) (hD : zD A bs) (hS : va_S A H0 H locs) (i : Nat) {a : Nat → Nat} {z : S6} (hi : bs[i]? = some (w6 G a z)) {j x : Int32} (hin : vp_in j 20) {f : Nat → Int32} (hv : g6_strictFor z = f) (hdg : decode cc pc = .ok (.iastore, 1)) (hbs : bs.set i (w6 G a (s6_strictFor z (upd f j.toNatClampNeg x))) = bs1) (kk : ∀ (H1 : Heap) (locs1 : List Loc), zP G bs1 H1 → zD A bs1 → va_S A H0 H1 locs1 → W p l e R s m args below meth c H1 locs1 cells slots Q (F0 m (pc + 1) ls rest)) : W p l e R s m args below meth c H locs cells slots Q (F0 m pc ls (.int x :: .int j :: .ref (a 3) :: rest)) := by
  subst hv
  exact zast S hK hP hD hS i hi 3 rfl hin rfl hbs hdg kk
theorem pt6_strictFor (G : zG) (a : Nat → Nat) (z : S6) (f : Nat → Int32) : (w6 G a z).set 3 (a 3, .inl (G.2.1, 20, .inl f)) = w6 G a (s6_strictFor z f) := rfl
theorem zg6_forwardFor (S : CallFix p m c cc nL s args Ts own) {index : Nat} (hin : ∀ w ∈ u_ws RX6 TX6 12, w ∈ Ts) (hK : zK G s) (hP : zP G bs H) (i : Nat) {a : Nat → Nat} {z : S6} (hi : bs[i]? = some (w6 G a z)) (hlink : Cond.fieldLink own index "RuleCourt$View" "forwardFor" "[I" ∈ Ts) (hdg : decode cc pc = .ok (.getfield index, 3)) (kk : W p l e R s m args below meth c H locs cells slots Q (F0 m (pc + 3) ls (.ref (a 4) :: rest))) : W p l e R s m args below meth c H locs cells slots Q (F0 m pc ls (.ref (a 0) :: rest)) := zget S hin hK hP i hi 0 rfl (ci := 6) rfl 3 (by decide) hlink rfl rfl hdg kk
theorem zl6_forwardFor (S : CallFix p m c cc nL s args Ts own) (hK : zK G s) (hP : zP G bs H) (i : Nat) {a : Nat → Nat} {z : S6} (hi : bs[i]? = some (w6 G a z)) {j : Int32} (hin : vp_in j 20) {f : Nat → Int32} (hv : g6_forwardFor z = f) (hdg : decode cc pc = .ok (.iaload, 1)) (kk : W p l e R s m args below meth c H locs cells slots Q (F0 m (pc + 1) ls (.int (f j.toNatClampNeg) :: rest))) : W p l e R s m args below meth c H locs cells slots Q (F0 m pc ls (.int j :: .ref (a 4) :: rest)) := zald S hK hP i hi 4 rfl hin hdg (by subst hv; exact kk)
theorem zs6_forwardFor (S : CallFix p m c cc nL s args Ts own) (hK : zK G s) (hP : zP G bs H) (hD : zD A bs) (hS : va_S A H0 H locs) (i : Nat) {a : Nat → Nat} {z : S6} (hi : bs[i]? = some (w6 G a z)) {j x : Int32} (hin : vp_in j 20) {f : Nat → Int32} (hv : g6_forwardFor z = f) (hdg : decode cc pc = .ok (.iastore, 1)) (hbs : bs.set i (w6 G a (s6_forwardFor z (upd f j.toNatClampNeg x))) = bs1) (kk : ∀ (H1 : Heap) (locs1 : List Loc), zP G bs1 H1 → zD A bs1 → va_S A H0 H1 locs1 → W p l e R s m args below meth c H1 locs1 cells slots Q (F0 m (pc + 1) ls rest)) : W p l e R s m args below meth c H locs cells slots Q (F0 m pc ls (.int x :: .int j :: .ref (a 4) :: rest)) := by
  subst hv
  exact zast S hK hP hD hS i hi 4 rfl hin rfl hbs hdg kk
theorem pt6_forwardFor (G : zG) (a : Nat → Nat) (z : S6) (f : Nat → Int32) : (w6 G a z).set 4 (a 4, .inl (G.2.1, 20, .inl f)) = w6 G a (s6_forwardFor z f) := rfl
theorem zg6_allFor (S : CallFix p m c cc nL s args Ts own) {index : Nat} (hin : ∀ w ∈ u_ws RX6 TX6 12, w ∈ Ts) (hK : zK G s) (hP : zP G bs H) (i : Nat) {a : Nat → Nat} {z : S6} (hi : bs[i]? = some (w6 G a z)) (hlink : Cond.fieldLink own index "RuleCourt$View" "allFor" "[I" ∈ Ts) (hdg : decode cc pc = .ok (.getfield index, 3)) (kk : W p l e R s m args below meth c H locs cells slots Q (F0 m (pc + 3) ls (.ref (a 5) :: rest))) : W p l e R s m args below meth c H locs cells slots Q (F0 m pc ls (.ref (a 0) :: rest)) := zget S hin hK hP i hi 0 rfl (ci := 6) rfl 4 (by decide) hlink rfl rfl hdg kk
theorem zl6_allFor (S : CallFix p m c cc nL s args Ts own) (hK : zK G s) (hP : zP G bs H) (i : Nat) {a : Nat → Nat} {z : S6} (hi : bs[i]? = some (w6 G a z)) {j : Int32} (hin : vp_in j 20) {f : Nat → Int32} (hv : g6_allFor z = f) (hdg : decode cc pc = .ok (.iaload, 1)) (kk : W p l e R s m args below meth c H locs cells slots Q (F0 m (pc + 1) ls (.int (f j.toNatClampNeg) :: rest))) : W p l e R s m args below meth c H locs cells slots Q (F0 m pc ls (.int j :: .ref (a 5) :: rest)) := zald S hK hP i hi 5 rfl hin hdg (by subst hv; exact kk)
theorem zs6_allFor (S : CallFix p m c cc nL s args Ts own) (hK : zK G s) (hP : zP G bs H) (hD : zD A bs) (hS : va_S A H0 H locs) (i : Nat) {a : Nat → Nat} {z : S6} (hi : bs[i]? = some (w6 G a z)) {j x : Int32} (hin : vp_in j 20) {f : Nat → Int32} (hv : g6_allFor z = f) (hdg : decode cc pc = .ok (.iastore, 1)) (hbs : bs.set i (w6 G a (s6_allFor z (upd f j.toNatClampNeg x))) = bs1) (kk : ∀ (H1 : Heap) (locs1 : List Loc), zP G bs1 H1 → zD A bs1 → va_S A H0 H1 locs1 → W p l e R s m args below meth c H1 locs1 cells slots Q (F0 m (pc + 1) ls rest)) : W p l e R s m args below meth c H locs cells slots Q (F0 m pc ls (.int x :: .int j :: .ref (a 5) :: rest)) := by
  subst hv
  exact zast S hK hP hD hS i hi 5 rfl hin rfl hbs hdg kk
theorem pt6_allFor (G : zG) (a : Nat → Nat) (z : S6) (f : Nat → Int32) : (w6 G a z).set 5 (a 5, .inl (G.2.1, 20, .inl f)) = w6 G a (s6_allFor z f) := rfl
theorem zg6_above (S : CallFix p m c cc nL s args Ts own) {index : Nat} (hin : ∀ w ∈ u_ws RX6 TX6 12, w ∈ Ts) (hK : zK G s) (hP : zP G bs H) (i : Nat) {a : Nat → Nat} {z : S6} (hi : bs[i]? = some (w6 G a z)) (hlink : Cond.fieldLink own index "RuleCourt$View" "above" "[I" ∈ Ts) (hdg : decode cc pc = .ok (.getfield index, 3)) (kk : W p l e R s m args below meth c H locs cells slots Q (F0 m (pc + 3) ls (.ref (a 6) :: rest))) : W p l e R s m args below meth c H locs cells slots Q (F0 m pc ls (.ref (a 0) :: rest)) := zget S hin hK hP i hi 0 rfl (ci := 6) rfl 5 (by decide) hlink rfl rfl hdg kk
theorem zl6_above (S : CallFix p m c cc nL s args Ts own) (hK : zK G s) (hP : zP G bs H) (i : Nat) {a : Nat → Nat} {z : S6} (hi : bs[i]? = some (w6 G a z)) {j : Int32} (hin : vp_in j 16) {f : Nat → Int32} (hv : g6_above z = f) (hdg : decode cc pc = .ok (.iaload, 1)) (kk : W p l e R s m args below meth c H locs cells slots Q (F0 m (pc + 1) ls (.int (f j.toNatClampNeg) :: rest))) : W p l e R s m args below meth c H locs cells slots Q (F0 m pc ls (.int j :: .ref (a 6) :: rest)) := zald S hK hP i hi 6 rfl hin hdg (by subst hv; exact kk)
theorem zs6_above (S : CallFix p m c cc nL s args Ts own) (hK : zK G s) (hP : zP G bs H) (hD : zD A bs) (hS : va_S A H0 H locs) (i : Nat) {a : Nat → Nat} {z : S6} (hi : bs[i]? = some (w6 G a z)) {j x : Int32} (hin : vp_in j 16) {f : Nat → Int32} (hv : g6_above z = f) (hdg : decode cc pc = .ok (.iastore, 1)) (hbs : bs.set i (w6 G a (s6_above z (upd f j.toNatClampNeg x))) = bs1) (kk : ∀ (H1 : Heap) (locs1 : List Loc), zP G bs1 H1 → zD A bs1 → va_S A H0 H1 locs1 → W p l e R s m args below meth c H1 locs1 cells slots Q (F0 m (pc + 1) ls rest)) : W p l e R s m args below meth c H locs cells slots Q (F0 m pc ls (.int x :: .int j :: .ref (a 6) :: rest)) := by
  subst hv
  exact zast S hK hP hD hS i hi 6 rfl hin rfl hbs hdg kk
theorem pt6_above (G : zG) (a : Nat → Nat) (z : S6) (f : Nat → Int32) : (w6 G a z).set 6 (a 6, .inl (G.2.1, 16, .inl f)) = w6 G a (s6_above z f) := rfl
theorem zg6_reach (S : CallFix p m c cc nL s args Ts own) {index : Nat} (hin : ∀ w ∈ u_ws RX6 TX6 12, w ∈ Ts) (hK : zK G s) (hP : zP G bs H) (i : Nat) {a : Nat → Nat} {z : S6} (hi : bs[i]? = some (w6 G a z)) (hlink : Cond.fieldLink own index "RuleCourt$View" "reach" "[I" ∈ Ts) (hdg : decode cc pc = .ok (.getfield index, 3)) (kk : W p l e R s m args below meth c H locs cells slots Q (F0 m (pc + 3) ls (.ref (a 7) :: rest))) : W p l e R s m args below meth c H locs cells slots Q (F0 m pc ls (.ref (a 0) :: rest)) := zget S hin hK hP i hi 0 rfl (ci := 6) rfl 6 (by decide) hlink rfl rfl hdg kk
theorem zl6_reach (S : CallFix p m c cc nL s args Ts own) (hK : zK G s) (hP : zP G bs H) (i : Nat) {a : Nat → Nat} {z : S6} (hi : bs[i]? = some (w6 G a z)) {j : Int32} (hin : vp_in j 16) {f : Nat → Int32} (hv : g6_reach z = f) (hdg : decode cc pc = .ok (.iaload, 1)) (kk : W p l e R s m args below meth c H locs cells slots Q (F0 m (pc + 1) ls (.int (f j.toNatClampNeg) :: rest))) : W p l e R s m args below meth c H locs cells slots Q (F0 m pc ls (.int j :: .ref (a 7) :: rest)) := zald S hK hP i hi 7 rfl hin hdg (by subst hv; exact kk)
theorem zs6_reach (S : CallFix p m c cc nL s args Ts own) (hK : zK G s) (hP : zP G bs H) (hD : zD A bs) (hS : va_S A H0 H locs) (i : Nat) {a : Nat → Nat} {z : S6} (hi : bs[i]? = some (w6 G a z)) {j x : Int32} (hin : vp_in j 16) {f : Nat → Int32} (hv : g6_reach z = f) (hdg : decode cc pc = .ok (.iastore, 1)) (hbs : bs.set i (w6 G a (s6_reach z (upd f j.toNatClampNeg x))) = bs1) (kk : ∀ (H1 : Heap) (locs1 : List Loc), zP G bs1 H1 → zD A bs1 → va_S A H0 H1 locs1 → W p l e R s m args below meth c H1 locs1 cells slots Q (F0 m (pc + 1) ls rest)) : W p l e R s m args below meth c H locs cells slots Q (F0 m pc ls (.int x :: .int j :: .ref (a 7) :: rest)) := by
  subst hv
  exact zast S hK hP hD hS i hi 7 rfl hin rfl hbs hdg kk
theorem pt6_reach (G : zG) (a : Nat → Nat) (z : S6) (f : Nat → Int32) : (w6 G a z).set 7 (a 7, .inl (G.2.1, 16, .inl f)) = w6 G a (s6_reach z f) := rfl
theorem zg6_facts (S : CallFix p m c cc nL s args Ts own) {index : Nat} (hin : ∀ w ∈ u_ws RX6 TX6 12, w ∈ Ts) (hK : zK G s) (hP : zP G bs H) (i : Nat) {a : Nat → Nat} {z : S6} (hi : bs[i]? = some (w6 G a z)) (hlink : Cond.fieldLink own index "RuleCourt$View" "facts" "I" ∈ Ts) {v : Int32} (hv : g6_facts z = v) (hdg : decode cc pc = .ok (.getfield index, 3)) (kk : W p l e R s m args below meth c H locs cells slots Q (F0 m (pc + 3) ls (.int v :: rest))) : W p l e R s m args below meth c H locs cells slots Q (F0 m pc ls (.ref (a 0) :: rest)) := zget S hin hK hP i hi 0 rfl (ci := 6) rfl 7 (by decide) hlink rfl rfl hdg (by subst hv; exact kk)
theorem zp6_facts (S : CallFix p m c cc nL s args Ts own) {index : Nat} (hin : ∀ w ∈ u_ws RX6 TX6 12, w ∈ Ts) (hK : zK G s) (hP : zP G bs H) (hD : zD A bs) (hS : va_S A H0 H locs) (i : Nat) {a : Nat → Nat} {z : S6} (hi : bs[i]? = some (w6 G a z)) (hlink : Cond.fieldLink own index "RuleCourt$View" "facts" "I" ∈ Ts) {v : Int32} (hdg : decode cc pc = .ok (.putfield index, 3)) (hbs : bs.set i (w6 G a (s6_facts z v)) = bs1) (kk : ∀ (H1 : Heap) (locs1 : List Loc), zP G bs1 H1 → zD A bs1 → va_S A H0 H1 locs1 → W p l e R s m args below meth c H1 locs1 cells slots Q (F0 m (pc + 3) ls rest)) : W p l e R s m args below meth c H locs cells slots Q (F0 m pc ls (.int v :: .ref (a 0) :: rest)) := zput S hin tyX6 tyX6_ok nmX6 hK hP hD hS i hi 0 rfl (ci := 6) rfl 7 (by decide) hlink rfl rfl rfl rfl (Nat.le_of_ble_eq_true rfl) rfl hbs hdg kk
theorem zg6_applies (S : CallFix p m c cc nL s args Ts own) {index : Nat} (hin : ∀ w ∈ u_ws RX6 TX6 12, w ∈ Ts) (hK : zK G s) (hP : zP G bs H) (i : Nat) {a : Nat → Nat} {z : S6} (hi : bs[i]? = some (w6 G a z)) (hlink : Cond.fieldLink own index "RuleCourt$View" "applies" "I" ∈ Ts) {v : Int32} (hv : g6_applies z = v) (hdg : decode cc pc = .ok (.getfield index, 3)) (kk : W p l e R s m args below meth c H locs cells slots Q (F0 m (pc + 3) ls (.int v :: rest))) : W p l e R s m args below meth c H locs cells slots Q (F0 m pc ls (.ref (a 0) :: rest)) := zget S hin hK hP i hi 0 rfl (ci := 6) rfl 8 (by decide) hlink rfl rfl hdg (by subst hv; exact kk)
theorem zp6_applies (S : CallFix p m c cc nL s args Ts own) {index : Nat} (hin : ∀ w ∈ u_ws RX6 TX6 12, w ∈ Ts) (hK : zK G s) (hP : zP G bs H) (hD : zD A bs) (hS : va_S A H0 H locs) (i : Nat) {a : Nat → Nat} {z : S6} (hi : bs[i]? = some (w6 G a z)) (hlink : Cond.fieldLink own index "RuleCourt$View" "applies" "I" ∈ Ts) {v : Int32} (hdg : decode cc pc = .ok (.putfield index, 3)) (hbs : bs.set i (w6 G a (s6_applies z v)) = bs1) (kk : ∀ (H1 : Heap) (locs1 : List Loc), zP G bs1 H1 → zD A bs1 → va_S A H0 H1 locs1 → W p l e R s m args below meth c H1 locs1 cells slots Q (F0 m (pc + 3) ls rest)) : W p l e R s m args below meth c H locs cells slots Q (F0 m pc ls (.int v :: .ref (a 0) :: rest)) := zput S hin tyX6 tyX6_ok nmX6 hK hP hD hS i hi 0 rfl (ci := 6) rfl 8 (by decide) hlink rfl rfl rfl rfl (Nat.le_of_ble_eq_true rfl) rfl hbs hdg kk
theorem zg6_falls (S : CallFix p m c cc nL s args Ts own) {index : Nat} (hin : ∀ w ∈ u_ws RX6 TX6 12, w ∈ Ts) (hK : zK G s) (hP : zP G bs H) (i : Nat) {a : Nat → Nat} {z : S6} (hi : bs[i]? = some (w6 G a z)) (hlink : Cond.fieldLink own index "RuleCourt$View" "falls" "I" ∈ Ts) {v : Int32} (hv : g6_falls z = v) (hdg : decode cc pc = .ok (.getfield index, 3)) (kk : W p l e R s m args below meth c H locs cells slots Q (F0 m (pc + 3) ls (.int v :: rest))) : W p l e R s m args below meth c H locs cells slots Q (F0 m pc ls (.ref (a 0) :: rest)) := zget S hin hK hP i hi 0 rfl (ci := 6) rfl 9 (by decide) hlink rfl rfl hdg (by subst hv; exact kk)
theorem zp6_falls (S : CallFix p m c cc nL s args Ts own) {index : Nat} (hin : ∀ w ∈ u_ws RX6 TX6 12, w ∈ Ts) (hK : zK G s) (hP : zP G bs H) (hD : zD A bs) (hS : va_S A H0 H locs) (i : Nat) {a : Nat → Nat} {z : S6} (hi : bs[i]? = some (w6 G a z)) (hlink : Cond.fieldLink own index "RuleCourt$View" "falls" "I" ∈ Ts) {v : Int32} (hdg : decode cc pc = .ok (.putfield index, 3)) (hbs : bs.set i (w6 G a (s6_falls z v)) = bs1) (kk : ∀ (H1 : Heap) (locs1 : List Loc), zP G bs1 H1 → zD A bs1 → va_S A H0 H1 locs1 → W p l e R s m args below meth c H1 locs1 cells slots Q (F0 m (pc + 3) ls rest)) : W p l e R s m args below meth c H locs cells slots Q (F0 m pc ls (.int v :: .ref (a 0) :: rest)) := zput S hin tyX6 tyX6_ok nmX6 hK hP hD hS i hi 0 rfl (ci := 6) rfl 9 (by decide) hlink rfl rfl rfl rfl (Nat.le_of_ble_eq_true rfl) rfl hbs hdg kk
theorem zg6_sureBodies (S : CallFix p m c cc nL s args Ts own) {index : Nat} (hin : ∀ w ∈ u_ws RX6 TX6 12, w ∈ Ts) (hK : zK G s) (hP : zP G bs H) (i : Nat) {a : Nat → Nat} {z : S6} (hi : bs[i]? = some (w6 G a z)) (hlink : Cond.fieldLink own index "RuleCourt$View" "sureBodies" "I" ∈ Ts) {v : Int32} (hv : g6_sureBodies z = v) (hdg : decode cc pc = .ok (.getfield index, 3)) (kk : W p l e R s m args below meth c H locs cells slots Q (F0 m (pc + 3) ls (.int v :: rest))) : W p l e R s m args below meth c H locs cells slots Q (F0 m pc ls (.ref (a 0) :: rest)) := zget S hin hK hP i hi 0 rfl (ci := 6) rfl 10 (by decide) hlink rfl rfl hdg (by subst hv; exact kk)
theorem zp6_sureBodies (S : CallFix p m c cc nL s args Ts own) {index : Nat} (hin : ∀ w ∈ u_ws RX6 TX6 12, w ∈ Ts) (hK : zK G s) (hP : zP G bs H) (hD : zD A bs) (hS : va_S A H0 H locs) (i : Nat) {a : Nat → Nat} {z : S6} (hi : bs[i]? = some (w6 G a z)) (hlink : Cond.fieldLink own index "RuleCourt$View" "sureBodies" "I" ∈ Ts) {v : Int32} (hdg : decode cc pc = .ok (.putfield index, 3)) (hbs : bs.set i (w6 G a (s6_sureBodies z v)) = bs1) (kk : ∀ (H1 : Heap) (locs1 : List Loc), zP G bs1 H1 → zD A bs1 → va_S A H0 H1 locs1 → W p l e R s m args below meth c H1 locs1 cells slots Q (F0 m (pc + 3) ls rest)) : W p l e R s m args below meth c H locs cells slots Q (F0 m pc ls (.int v :: .ref (a 0) :: rest)) := zput S hin tyX6 tyX6_ok nmX6 hK hP hD hS i hi 0 rfl (ci := 6) rfl 10 (by decide) hlink rfl rfl rfl rfl (Nat.le_of_ble_eq_true rfl) rfl hbs hdg kk
theorem zg6_neverBodies (S : CallFix p m c cc nL s args Ts own) {index : Nat} (hin : ∀ w ∈ u_ws RX6 TX6 12, w ∈ Ts) (hK : zK G s) (hP : zP G bs H) (i : Nat) {a : Nat → Nat} {z : S6} (hi : bs[i]? = some (w6 G a z)) (hlink : Cond.fieldLink own index "RuleCourt$View" "neverBodies" "I" ∈ Ts) {v : Int32} (hv : g6_neverBodies z = v) (hdg : decode cc pc = .ok (.getfield index, 3)) (kk : W p l e R s m args below meth c H locs cells slots Q (F0 m (pc + 3) ls (.int v :: rest))) : W p l e R s m args below meth c H locs cells slots Q (F0 m pc ls (.ref (a 0) :: rest)) := zget S hin hK hP i hi 0 rfl (ci := 6) rfl 11 (by decide) hlink rfl rfl hdg (by subst hv; exact kk)
theorem zp6_neverBodies (S : CallFix p m c cc nL s args Ts own) {index : Nat} (hin : ∀ w ∈ u_ws RX6 TX6 12, w ∈ Ts) (hK : zK G s) (hP : zP G bs H) (hD : zD A bs) (hS : va_S A H0 H locs) (i : Nat) {a : Nat → Nat} {z : S6} (hi : bs[i]? = some (w6 G a z)) (hlink : Cond.fieldLink own index "RuleCourt$View" "neverBodies" "I" ∈ Ts) {v : Int32} (hdg : decode cc pc = .ok (.putfield index, 3)) (hbs : bs.set i (w6 G a (s6_neverBodies z v)) = bs1) (kk : ∀ (H1 : Heap) (locs1 : List Loc), zP G bs1 H1 → zD A bs1 → va_S A H0 H1 locs1 → W p l e R s m args below meth c H1 locs1 cells slots Q (F0 m (pc + 3) ls rest)) : W p l e R s m args below meth c H locs cells slots Q (F0 m pc ls (.int v :: .ref (a 0) :: rest)) := zput S hin tyX6 tyX6_ok nmX6 hK hP hD hS i hi 0 rfl (ci := 6) rfl 11 (by decide) hlink rfl rfl rfl rfl (Nat.le_of_ble_eq_true rfl) rfl hbs hdg kk
theorem gg7_tape (z : S7) (x : (Nat → Int32)) : g7_tape (s7_tape z x) = x := va_up_self z.2 0 x
theorem ss7_tape (z : S7) (x y : (Nat → Int32)) : s7_tape (s7_tape z x) y = s7_tape z y := congrArg (fun q => (z.1, q)) (zup_up z.2 0 x y)
theorem se7_tape (z : S7) : s7_tape z (g7_tape z) = z := congrArg (fun q => (z.1, q)) (zup_self z.2 0)
theorem gs7_tape_sort (z : S7) (x : (Nat → Int32)) : g7_tape (s7_sort z x) = g7_tape z := va_up_ne (k := 1) (j := 0) z.2 x (by decide)
theorem gs7_tape_head (z : S7) (x : (Nat → Int32)) : g7_tape (s7_head z x) = g7_tape z := va_up_ne (k := 2) (j := 0) z.2 x (by decide)
theorem gs7_tape_body (z : S7) (x : (Nat → Int32)) : g7_tape (s7_body z x) = g7_tape z := va_up_ne (k := 3) (j := 0) z.2 x (by decide)
theorem gs7_tape_excepts (z : S7) (x : (Nat → Int32)) : g7_tape (s7_excepts z x) = g7_tape z := va_up_ne (k := 4) (j := 0) z.2 x (by decide)
theorem gs7_tape_power (z : S7) (x : (Nat → Int32)) : g7_tape (s7_power z x) = g7_tape z := va_up_ne (k := 5) (j := 0) z.2 x (by decide)
theorem gs7_tape_begins (z : S7) (x : (Nat → Int32)) : g7_tape (s7_begins z x) = g7_tape z := va_up_ne (k := 6) (j := 0) z.2 x (by decide)
theorem gs7_tape_at (z : S7) (x : Int32) : g7_tape (s7_at z x) = g7_tape z := rfl
theorem gs7_tape_told (z : S7) (x : Int32) : g7_tape (s7_told z x) = g7_tape z := rfl
theorem gg7_sort (z : S7) (x : (Nat → Int32)) : g7_sort (s7_sort z x) = x := va_up_self z.2 1 x
theorem ss7_sort (z : S7) (x y : (Nat → Int32)) : s7_sort (s7_sort z x) y = s7_sort z y := congrArg (fun q => (z.1, q)) (zup_up z.2 1 x y)
theorem se7_sort (z : S7) : s7_sort z (g7_sort z) = z := congrArg (fun q => (z.1, q)) (zup_self z.2 1)
theorem gs7_sort_head (z : S7) (x : (Nat → Int32)) : g7_sort (s7_head z x) = g7_sort z := va_up_ne (k := 2) (j := 1) z.2 x (by decide)
theorem cm7_sort_head (z : S7) (x : (Nat → Int32)) (y : (Nat → Int32)) : s7_sort (s7_head z x) y = s7_head (s7_sort z y) x := congrArg (fun q => (z.1, q)) (zup_comm (k := 2) (l := 1) z.2 (by decide) x y)
theorem gs7_sort_body (z : S7) (x : (Nat → Int32)) : g7_sort (s7_body z x) = g7_sort z := va_up_ne (k := 3) (j := 1) z.2 x (by decide)
theorem cm7_sort_body (z : S7) (x : (Nat → Int32)) (y : (Nat → Int32)) : s7_sort (s7_body z x) y = s7_body (s7_sort z y) x := congrArg (fun q => (z.1, q)) (zup_comm (k := 3) (l := 1) z.2 (by decide) x y)
theorem gs7_sort_excepts (z : S7) (x : (Nat → Int32)) : g7_sort (s7_excepts z x) = g7_sort z := va_up_ne (k := 4) (j := 1) z.2 x (by decide)
theorem cm7_sort_excepts (z : S7) (x : (Nat → Int32)) (y : (Nat → Int32)) : s7_sort (s7_excepts z x) y = s7_excepts (s7_sort z y) x := congrArg (fun q => (z.1, q)) (zup_comm (k := 4) (l := 1) z.2 (by decide) x y)
theorem gs7_sort_power (z : S7) (x : (Nat → Int32)) : g7_sort (s7_power z x) = g7_sort z := va_up_ne (k := 5) (j := 1) z.2 x (by decide)
theorem cm7_sort_power (z : S7) (x : (Nat → Int32)) (y : (Nat → Int32)) : s7_sort (s7_power z x) y = s7_power (s7_sort z y) x := congrArg (fun q => (z.1, q)) (zup_comm (k := 5) (l := 1) z.2 (by decide) x y)
theorem gs7_sort_begins (z : S7) (x : (Nat → Int32)) : g7_sort (s7_begins z x) = g7_sort z := va_up_ne (k := 6) (j := 1) z.2 x (by decide)
theorem cm7_sort_begins (z : S7) (x : (Nat → Int32)) (y : (Nat → Int32)) : s7_sort (s7_begins z x) y = s7_begins (s7_sort z y) x := congrArg (fun q => (z.1, q)) (zup_comm (k := 6) (l := 1) z.2 (by decide) x y)
theorem gs7_sort_length (z : S7) (x : Int32) : g7_sort (s7_length z x) = g7_sort z := rfl
theorem gs7_sort_at (z : S7) (x : Int32) : g7_sort (s7_at z x) = g7_sort z := rfl
theorem cm7_sort_at (z : S7) (x : Int32) (y : (Nat → Int32)) : s7_sort (s7_at z x) y = s7_at (s7_sort z y) x := rfl
theorem gs7_sort_told (z : S7) (x : Int32) : g7_sort (s7_told z x) = g7_sort z := rfl
theorem cm7_sort_told (z : S7) (x : Int32) (y : (Nat → Int32)) : s7_sort (s7_told z x) y = s7_told (s7_sort z y) x := rfl
theorem gg7_head (z : S7) (x : (Nat → Int32)) : g7_head (s7_head z x) = x := va_up_self z.2 2 x
theorem ss7_head (z : S7) (x y : (Nat → Int32)) : s7_head (s7_head z x) y = s7_head z y := congrArg (fun q => (z.1, q)) (zup_up z.2 2 x y)
theorem se7_head (z : S7) : s7_head z (g7_head z) = z := congrArg (fun q => (z.1, q)) (zup_self z.2 2)
theorem gs7_head_sort (z : S7) (x : (Nat → Int32)) : g7_head (s7_sort z x) = g7_head z := va_up_ne (k := 1) (j := 2) z.2 x (by decide)
theorem gs7_head_body (z : S7) (x : (Nat → Int32)) : g7_head (s7_body z x) = g7_head z := va_up_ne (k := 3) (j := 2) z.2 x (by decide)
theorem cm7_head_body (z : S7) (x : (Nat → Int32)) (y : (Nat → Int32)) : s7_head (s7_body z x) y = s7_body (s7_head z y) x := congrArg (fun q => (z.1, q)) (zup_comm (k := 3) (l := 2) z.2 (by decide) x y)
theorem gs7_head_excepts (z : S7) (x : (Nat → Int32)) : g7_head (s7_excepts z x) = g7_head z := va_up_ne (k := 4) (j := 2) z.2 x (by decide)
theorem cm7_head_excepts (z : S7) (x : (Nat → Int32)) (y : (Nat → Int32)) : s7_head (s7_excepts z x) y = s7_excepts (s7_head z y) x := congrArg (fun q => (z.1, q)) (zup_comm (k := 4) (l := 2) z.2 (by decide) x y)
theorem gs7_head_power (z : S7) (x : (Nat → Int32)) : g7_head (s7_power z x) = g7_head z := va_up_ne (k := 5) (j := 2) z.2 x (by decide)
theorem cm7_head_power (z : S7) (x : (Nat → Int32)) (y : (Nat → Int32)) : s7_head (s7_power z x) y = s7_power (s7_head z y) x := congrArg (fun q => (z.1, q)) (zup_comm (k := 5) (l := 2) z.2 (by decide) x y)
theorem gs7_head_begins (z : S7) (x : (Nat → Int32)) : g7_head (s7_begins z x) = g7_head z := va_up_ne (k := 6) (j := 2) z.2 x (by decide)
theorem cm7_head_begins (z : S7) (x : (Nat → Int32)) (y : (Nat → Int32)) : s7_head (s7_begins z x) y = s7_begins (s7_head z y) x := congrArg (fun q => (z.1, q)) (zup_comm (k := 6) (l := 2) z.2 (by decide) x y)
theorem gs7_head_length (z : S7) (x : Int32) : g7_head (s7_length z x) = g7_head z := rfl
theorem gs7_head_at (z : S7) (x : Int32) : g7_head (s7_at z x) = g7_head z := rfl
theorem cm7_head_at (z : S7) (x : Int32) (y : (Nat → Int32)) : s7_head (s7_at z x) y = s7_at (s7_head z y) x := rfl
theorem gs7_head_told (z : S7) (x : Int32) : g7_head (s7_told z x) = g7_head z := rfl
theorem cm7_head_told (z : S7) (x : Int32) (y : (Nat → Int32)) : s7_head (s7_told z x) y = s7_told (s7_head z y) x := rfl
theorem gg7_body (z : S7) (x : (Nat → Int32)) : g7_body (s7_body z x) = x := va_up_self z.2 3 x
theorem ss7_body (z : S7) (x y : (Nat → Int32)) : s7_body (s7_body z x) y = s7_body z y := congrArg (fun q => (z.1, q)) (zup_up z.2 3 x y)
theorem se7_body (z : S7) : s7_body z (g7_body z) = z := congrArg (fun q => (z.1, q)) (zup_self z.2 3)
theorem gs7_body_sort (z : S7) (x : (Nat → Int32)) : g7_body (s7_sort z x) = g7_body z := va_up_ne (k := 1) (j := 3) z.2 x (by decide)
theorem gs7_body_head (z : S7) (x : (Nat → Int32)) : g7_body (s7_head z x) = g7_body z := va_up_ne (k := 2) (j := 3) z.2 x (by decide)
theorem gs7_body_excepts (z : S7) (x : (Nat → Int32)) : g7_body (s7_excepts z x) = g7_body z := va_up_ne (k := 4) (j := 3) z.2 x (by decide)
theorem cm7_body_excepts (z : S7) (x : (Nat → Int32)) (y : (Nat → Int32)) : s7_body (s7_excepts z x) y = s7_excepts (s7_body z y) x := congrArg (fun q => (z.1, q)) (zup_comm (k := 4) (l := 3) z.2 (by decide) x y)
theorem gs7_body_power (z : S7) (x : (Nat → Int32)) : g7_body (s7_power z x) = g7_body z := va_up_ne (k := 5) (j := 3) z.2 x (by decide)
theorem cm7_body_power (z : S7) (x : (Nat → Int32)) (y : (Nat → Int32)) : s7_body (s7_power z x) y = s7_power (s7_body z y) x := congrArg (fun q => (z.1, q)) (zup_comm (k := 5) (l := 3) z.2 (by decide) x y)
theorem gs7_body_begins (z : S7) (x : (Nat → Int32)) : g7_body (s7_begins z x) = g7_body z := va_up_ne (k := 6) (j := 3) z.2 x (by decide)
theorem cm7_body_begins (z : S7) (x : (Nat → Int32)) (y : (Nat → Int32)) : s7_body (s7_begins z x) y = s7_begins (s7_body z y) x := congrArg (fun q => (z.1, q)) (zup_comm (k := 6) (l := 3) z.2 (by decide) x y)
theorem gs7_body_length (z : S7) (x : Int32) : g7_body (s7_length z x) = g7_body z := rfl
theorem gs7_body_at (z : S7) (x : Int32) : g7_body (s7_at z x) = g7_body z := rfl
theorem cm7_body_at (z : S7) (x : Int32) (y : (Nat → Int32)) : s7_body (s7_at z x) y = s7_at (s7_body z y) x := rfl
theorem gs7_body_told (z : S7) (x : Int32) : g7_body (s7_told z x) = g7_body z := rfl
theorem cm7_body_told (z : S7) (x : Int32) (y : (Nat → Int32)) : s7_body (s7_told z x) y = s7_told (s7_body z y) x := rfl
theorem gg7_excepts (z : S7) (x : (Nat → Int32)) : g7_excepts (s7_excepts z x) = x := va_up_self z.2 4 x
theorem ss7_excepts (z : S7) (x y : (Nat → Int32)) : s7_excepts (s7_excepts z x) y = s7_excepts z y := congrArg (fun q => (z.1, q)) (zup_up z.2 4 x y)
theorem se7_excepts (z : S7) : s7_excepts z (g7_excepts z) = z := congrArg (fun q => (z.1, q)) (zup_self z.2 4)
theorem gs7_excepts_sort (z : S7) (x : (Nat → Int32)) : g7_excepts (s7_sort z x) = g7_excepts z := va_up_ne (k := 1) (j := 4) z.2 x (by decide)
theorem gs7_excepts_head (z : S7) (x : (Nat → Int32)) : g7_excepts (s7_head z x) = g7_excepts z := va_up_ne (k := 2) (j := 4) z.2 x (by decide)
theorem gs7_excepts_body (z : S7) (x : (Nat → Int32)) : g7_excepts (s7_body z x) = g7_excepts z := va_up_ne (k := 3) (j := 4) z.2 x (by decide)
theorem gs7_excepts_power (z : S7) (x : (Nat → Int32)) : g7_excepts (s7_power z x) = g7_excepts z := va_up_ne (k := 5) (j := 4) z.2 x (by decide)
theorem cm7_excepts_power (z : S7) (x : (Nat → Int32)) (y : (Nat → Int32)) : s7_excepts (s7_power z x) y = s7_power (s7_excepts z y) x := congrArg (fun q => (z.1, q)) (zup_comm (k := 5) (l := 4) z.2 (by decide) x y)
theorem gs7_excepts_begins (z : S7) (x : (Nat → Int32)) : g7_excepts (s7_begins z x) = g7_excepts z := va_up_ne (k := 6) (j := 4) z.2 x (by decide)
theorem cm7_excepts_begins (z : S7) (x : (Nat → Int32)) (y : (Nat → Int32)) : s7_excepts (s7_begins z x) y = s7_begins (s7_excepts z y) x := congrArg (fun q => (z.1, q)) (zup_comm (k := 6) (l := 4) z.2 (by decide) x y)
theorem gs7_excepts_length (z : S7) (x : Int32) : g7_excepts (s7_length z x) = g7_excepts z := rfl
theorem gs7_excepts_at (z : S7) (x : Int32) : g7_excepts (s7_at z x) = g7_excepts z := rfl
theorem cm7_excepts_at (z : S7) (x : Int32) (y : (Nat → Int32)) : s7_excepts (s7_at z x) y = s7_at (s7_excepts z y) x := rfl
theorem gs7_excepts_told (z : S7) (x : Int32) : g7_excepts (s7_told z x) = g7_excepts z := rfl
theorem cm7_excepts_told (z : S7) (x : Int32) (y : (Nat → Int32)) : s7_excepts (s7_told z x) y = s7_told (s7_excepts z y) x := rfl
theorem gg7_power (z : S7) (x : (Nat → Int32)) : g7_power (s7_power z x) = x := va_up_self z.2 5 x
theorem ss7_power (z : S7) (x y : (Nat → Int32)) : s7_power (s7_power z x) y = s7_power z y := congrArg (fun q => (z.1, q)) (zup_up z.2 5 x y)
theorem se7_power (z : S7) : s7_power z (g7_power z) = z := congrArg (fun q => (z.1, q)) (zup_self z.2 5)
theorem gs7_power_sort (z : S7) (x : (Nat → Int32)) : g7_power (s7_sort z x) = g7_power z := va_up_ne (k := 1) (j := 5) z.2 x (by decide)
theorem gs7_power_head (z : S7) (x : (Nat → Int32)) : g7_power (s7_head z x) = g7_power z := va_up_ne (k := 2) (j := 5) z.2 x (by decide)
theorem gs7_power_body (z : S7) (x : (Nat → Int32)) : g7_power (s7_body z x) = g7_power z := va_up_ne (k := 3) (j := 5) z.2 x (by decide)
theorem gs7_power_excepts (z : S7) (x : (Nat → Int32)) : g7_power (s7_excepts z x) = g7_power z := va_up_ne (k := 4) (j := 5) z.2 x (by decide)
theorem gs7_power_begins (z : S7) (x : (Nat → Int32)) : g7_power (s7_begins z x) = g7_power z := va_up_ne (k := 6) (j := 5) z.2 x (by decide)
theorem cm7_power_begins (z : S7) (x : (Nat → Int32)) (y : (Nat → Int32)) : s7_power (s7_begins z x) y = s7_begins (s7_power z y) x := congrArg (fun q => (z.1, q)) (zup_comm (k := 6) (l := 5) z.2 (by decide) x y)
theorem gs7_power_length (z : S7) (x : Int32) : g7_power (s7_length z x) = g7_power z := rfl
theorem gs7_power_at (z : S7) (x : Int32) : g7_power (s7_at z x) = g7_power z := rfl
theorem cm7_power_at (z : S7) (x : Int32) (y : (Nat → Int32)) : s7_power (s7_at z x) y = s7_at (s7_power z y) x := rfl
theorem gs7_power_told (z : S7) (x : Int32) : g7_power (s7_told z x) = g7_power z := rfl
theorem cm7_power_told (z : S7) (x : Int32) (y : (Nat → Int32)) : s7_power (s7_told z x) y = s7_told (s7_power z y) x := rfl
theorem gg7_begins (z : S7) (x : (Nat → Int32)) : g7_begins (s7_begins z x) = x := va_up_self z.2 6 x
theorem ss7_begins (z : S7) (x y : (Nat → Int32)) : s7_begins (s7_begins z x) y = s7_begins z y := congrArg (fun q => (z.1, q)) (zup_up z.2 6 x y)
theorem se7_begins (z : S7) : s7_begins z (g7_begins z) = z := congrArg (fun q => (z.1, q)) (zup_self z.2 6)
theorem gs7_begins_sort (z : S7) (x : (Nat → Int32)) : g7_begins (s7_sort z x) = g7_begins z := va_up_ne (k := 1) (j := 6) z.2 x (by decide)
theorem gs7_begins_head (z : S7) (x : (Nat → Int32)) : g7_begins (s7_head z x) = g7_begins z := va_up_ne (k := 2) (j := 6) z.2 x (by decide)
theorem gs7_begins_body (z : S7) (x : (Nat → Int32)) : g7_begins (s7_body z x) = g7_begins z := va_up_ne (k := 3) (j := 6) z.2 x (by decide)
theorem gs7_begins_excepts (z : S7) (x : (Nat → Int32)) : g7_begins (s7_excepts z x) = g7_begins z := va_up_ne (k := 4) (j := 6) z.2 x (by decide)
theorem gs7_begins_power (z : S7) (x : (Nat → Int32)) : g7_begins (s7_power z x) = g7_begins z := va_up_ne (k := 5) (j := 6) z.2 x (by decide)
theorem gs7_begins_length (z : S7) (x : Int32) : g7_begins (s7_length z x) = g7_begins z := rfl
theorem gs7_begins_at (z : S7) (x : Int32) : g7_begins (s7_at z x) = g7_begins z := rfl
theorem cm7_begins_at (z : S7) (x : Int32) (y : (Nat → Int32)) : s7_begins (s7_at z x) y = s7_at (s7_begins z y) x := rfl
theorem gs7_begins_told (z : S7) (x : Int32) : g7_begins (s7_told z x) = g7_begins z := rfl
theorem cm7_begins_told (z : S7) (x : Int32) (y : (Nat → Int32)) : s7_begins (s7_told z x) y = s7_told (s7_begins z y) x := rfl
theorem gg7_length (z : S7) (x : Int32) : g7_length (s7_length z x) = x := va_up_self z.1 0 x
theorem ss7_length (z : S7) (x y : Int32) : s7_length (s7_length z x) y = s7_length z y := congrArg (fun q => (q, z.2)) (zup_up z.1 0 x y)
theorem se7_length (z : S7) : s7_length z (g7_length z) = z := congrArg (fun q => (q, z.2)) (zup_self z.1 0)
theorem gs7_length_tape (z : S7) (x : (Nat → Int32)) : g7_length (s7_tape z x) = g7_length z := rfl
theorem gs7_length_sort (z : S7) (x : (Nat → Int32)) : g7_length (s7_sort z x) = g7_length z := rfl
theorem gs7_length_head (z : S7) (x : (Nat → Int32)) : g7_length (s7_head z x) = g7_length z := rfl
theorem gs7_length_body (z : S7) (x : (Nat → Int32)) : g7_length (s7_body z x) = g7_length z := rfl
theorem gs7_length_excepts (z : S7) (x : (Nat → Int32)) : g7_length (s7_excepts z x) = g7_length z := rfl
theorem gs7_length_power (z : S7) (x : (Nat → Int32)) : g7_length (s7_power z x) = g7_length z := rfl
theorem gs7_length_begins (z : S7) (x : (Nat → Int32)) : g7_length (s7_begins z x) = g7_length z := rfl
theorem gs7_length_at (z : S7) (x : Int32) : g7_length (s7_at z x) = g7_length z := va_up_ne (k := 1) (j := 0) z.1 x (by decide)
theorem cm7_length_at (z : S7) (x : Int32) (y : Int32) : s7_length (s7_at z x) y = s7_at (s7_length z y) x := congrArg (fun q => (q, z.2)) (zup_comm (k := 1) (l := 0) z.1 (by decide) x y)
theorem gs7_length_told (z : S7) (x : Int32) : g7_length (s7_told z x) = g7_length z := va_up_ne (k := 2) (j := 0) z.1 x (by decide)
theorem cm7_length_told (z : S7) (x : Int32) (y : Int32) : s7_length (s7_told z x) y = s7_told (s7_length z y) x := congrArg (fun q => (q, z.2)) (zup_comm (k := 2) (l := 0) z.1 (by decide) x y)
theorem gg7_at (z : S7) (x : Int32) : g7_at (s7_at z x) = x := va_up_self z.1 1 x
theorem ss7_at (z : S7) (x y : Int32) : s7_at (s7_at z x) y = s7_at z y := congrArg (fun q => (q, z.2)) (zup_up z.1 1 x y)
theorem se7_at (z : S7) : s7_at z (g7_at z) = z := congrArg (fun q => (q, z.2)) (zup_self z.1 1)
theorem gs7_at_sort (z : S7) (x : (Nat → Int32)) : g7_at (s7_sort z x) = g7_at z := rfl
theorem gs7_at_head (z : S7) (x : (Nat → Int32)) : g7_at (s7_head z x) = g7_at z := rfl
theorem gs7_at_body (z : S7) (x : (Nat → Int32)) : g7_at (s7_body z x) = g7_at z := rfl
theorem gs7_at_excepts (z : S7) (x : (Nat → Int32)) : g7_at (s7_excepts z x) = g7_at z := rfl
theorem gs7_at_begins (z : S7) (x : (Nat → Int32)) : g7_at (s7_begins z x) = g7_at z := rfl
theorem gs7_at_length (z : S7) (x : Int32) : g7_at (s7_length z x) = g7_at z := va_up_ne (k := 0) (j := 1) z.1 x (by decide)
theorem gs7_at_told (z : S7) (x : Int32) : g7_at (s7_told z x) = g7_at z := va_up_ne (k := 2) (j := 1) z.1 x (by decide)
theorem cm7_at_told (z : S7) (x : Int32) (y : Int32) : s7_at (s7_told z x) y = s7_told (s7_at z y) x := congrArg (fun q => (q, z.2)) (zup_comm (k := 2) (l := 1) z.1 (by decide) x y)
theorem gg7_told (z : S7) (x : Int32) : g7_told (s7_told z x) = x := va_up_self z.1 2 x
theorem ss7_told (z : S7) (x y : Int32) : s7_told (s7_told z x) y = s7_told z y := congrArg (fun q => (q, z.2)) (zup_up z.1 2 x y)
theorem se7_told (z : S7) : s7_told z (g7_told z) = z := congrArg (fun q => (q, z.2)) (zup_self z.1 2)
theorem gs7_told_sort (z : S7) (x : (Nat → Int32)) : g7_told (s7_sort z x) = g7_told z := rfl
theorem gs7_told_head (z : S7) (x : (Nat → Int32)) : g7_told (s7_head z x) = g7_told z := rfl
theorem gs7_told_body (z : S7) (x : (Nat → Int32)) : g7_told (s7_body z x) = g7_told z := rfl
theorem gs7_told_excepts (z : S7) (x : (Nat → Int32)) : g7_told (s7_excepts z x) = g7_told z := rfl
theorem gs7_told_power (z : S7) (x : (Nat → Int32)) : g7_told (s7_power z x) = g7_told z := rfl
theorem gs7_told_begins (z : S7) (x : (Nat → Int32)) : g7_told (s7_begins z x) = g7_told z := rfl
theorem gs7_told_at (z : S7) (x : Int32) : g7_told (s7_at z x) = g7_told z := va_up_ne (k := 1) (j := 2) z.1 x (by decide)
theorem zg7_tape (S : CallFix p m c cc nL s args Ts own) {index : Nat} (hin : ∀ w ∈ u_ws RX7 TX7 10, w ∈ Ts) (hK : zK G s) (hP : zP G bs H) (i : Nat) {a : Nat → Nat} {z : S7} (hi : bs[i]? = some (w7 G a z)) (hlink : Cond.fieldLink own index "RuleCourt$Words" "tape" "[I" ∈ Ts) (hdg : decode cc pc = .ok (.getfield index, 3)) (kk : W p l e R s m args below meth c H locs cells slots Q (F0 m (pc + 3) ls (.ref (a 1) :: rest))) : W p l e R s m args below meth c H locs cells slots Q (F0 m pc ls (.ref (a 0) :: rest)) := zget S hin hK hP i hi 0 rfl (ci := 7) rfl 0 (by decide) hlink rfl rfl hdg kk
theorem zl7_tape (S : CallFix p m c cc nL s args Ts own) (hK : zK G s) (hP : zP G bs H) (i : Nat) {a : Nat → Nat} {z : S7} (hi : bs[i]? = some (w7 G a z)) {j : Int32} (hin : vp_in j 120) {f : Nat → Int32} (hv : g7_tape z = f) (hdg : decode cc pc = .ok (.iaload, 1)) (kk : W p l e R s m args below meth c H locs cells slots Q (F0 m (pc + 1) ls (.int (f j.toNatClampNeg) :: rest))) : W p l e R s m args below meth c H locs cells slots Q (F0 m pc ls (.int j :: .ref (a 1) :: rest)) := zald S hK hP i hi 1 rfl hin hdg (by subst hv; exact kk)
theorem zs7_tape (S : CallFix p m c cc nL s args Ts own) (hK : zK G s) (hP : zP G bs H) (hD : zD A bs) (hS : va_S A H0 H locs) (i : Nat) {a : Nat → Nat} {z : S7} (hi : bs[i]? = some (w7 G a z)) {j x : Int32} (hin : vp_in j 120) {f : Nat → Int32} (hv : g7_tape z = f) (hdg : decode cc pc = .ok (.iastore, 1)) (hbs : bs.set i (w7 G a (s7_tape z (upd f j.toNatClampNeg x))) = bs1) (kk : ∀ (H1 : Heap) (locs1 : List Loc), zP G bs1 H1 → zD A bs1 → va_S A H0 H1 locs1 → W p l e R s m args below meth c H1 locs1 cells slots Q (F0 m (pc + 1) ls rest)) : W p l e R s m args below meth c H locs cells slots Q (F0 m pc ls (.int x :: .int j :: .ref (a 1) :: rest)) := by
  subst hv
  exact zast S hK hP hD hS i hi 1 rfl hin rfl hbs hdg kk
theorem pt7_tape (G : zG) (a : Nat → Nat) (z : S7) (f : Nat → Int32) : (w7 G a z).set 1 (a 1, .inl (G.2.1, 120, .inl f)) = w7 G a (s7_tape z f) := rfl
theorem zg7_sort (S : CallFix p m c cc nL s args Ts own) {index : Nat} (hin : ∀ w ∈ u_ws RX7 TX7 10, w ∈ Ts) (hK : zK G s) (hP : zP G bs H) (i : Nat) {a : Nat → Nat} {z : S7} (hi : bs[i]? = some (w7 G a z)) (hlink : Cond.fieldLink own index "RuleCourt$Words" "sort" "[I" ∈ Ts) (hdg : decode cc pc = .ok (.getfield index, 3)) (kk : W p l e R s m args below meth c H locs cells slots Q (F0 m (pc + 3) ls (.ref (a 2) :: rest))) : W p l e R s m args below meth c H locs cells slots Q (F0 m pc ls (.ref (a 0) :: rest)) := zget S hin hK hP i hi 0 rfl (ci := 7) rfl 1 (by decide) hlink rfl rfl hdg kk
theorem zl7_sort (S : CallFix p m c cc nL s args Ts own) (hK : zK G s) (hP : zP G bs H) (i : Nat) {a : Nat → Nat} {z : S7} (hi : bs[i]? = some (w7 G a z)) {j : Int32} (hin : vp_in j 60) {f : Nat → Int32} (hv : g7_sort z = f) (hdg : decode cc pc = .ok (.iaload, 1)) (kk : W p l e R s m args below meth c H locs cells slots Q (F0 m (pc + 1) ls (.int (f j.toNatClampNeg) :: rest))) : W p l e R s m args below meth c H locs cells slots Q (F0 m pc ls (.int j :: .ref (a 2) :: rest)) := zald S hK hP i hi 2 rfl hin hdg (by subst hv; exact kk)
theorem zs7_sort (S : CallFix p m c cc nL s args Ts own) (hK : zK G s) (hP : zP G bs H) (hD : zD A bs) (hS : va_S A H0 H locs) (i : Nat) {a : Nat → Nat} {z : S7} (hi : bs[i]? = some (w7 G a z)) {j x : Int32} (hin : vp_in j 60) {f : Nat → Int32} (hv : g7_sort z = f) (hdg : decode cc pc = .ok (.iastore, 1)) (hbs : bs.set i (w7 G a (s7_sort z (upd f j.toNatClampNeg x))) = bs1) (kk : ∀ (H1 : Heap) (locs1 : List Loc), zP G bs1 H1 → zD A bs1 → va_S A H0 H1 locs1 → W p l e R s m args below meth c H1 locs1 cells slots Q (F0 m (pc + 1) ls rest)) : W p l e R s m args below meth c H locs cells slots Q (F0 m pc ls (.int x :: .int j :: .ref (a 2) :: rest)) := by
  subst hv
  exact zast S hK hP hD hS i hi 2 rfl hin rfl hbs hdg kk
theorem pt7_sort (G : zG) (a : Nat → Nat) (z : S7) (f : Nat → Int32) : (w7 G a z).set 2 (a 2, .inl (G.2.1, 60, .inl f)) = w7 G a (s7_sort z f) := rfl
theorem zg7_head (S : CallFix p m c cc nL s args Ts own) {index : Nat} (hin : ∀ w ∈ u_ws RX7 TX7 10, w ∈ Ts) (hK : zK G s) (hP : zP G bs H) (i : Nat) {a : Nat → Nat} {z : S7} (hi : bs[i]? = some (w7 G a z)) (hlink : Cond.fieldLink own index "RuleCourt$Words" "head" "[I" ∈ Ts) (hdg : decode cc pc = .ok (.getfield index, 3)) (kk : W p l e R s m args below meth c H locs cells slots Q (F0 m (pc + 3) ls (.ref (a 3) :: rest))) : W p l e R s m args below meth c H locs cells slots Q (F0 m pc ls (.ref (a 0) :: rest)) := zget S hin hK hP i hi 0 rfl (ci := 7) rfl 2 (by decide) hlink rfl rfl hdg kk
theorem zl7_head (S : CallFix p m c cc nL s args Ts own) (hK : zK G s) (hP : zP G bs H) (i : Nat) {a : Nat → Nat} {z : S7} (hi : bs[i]? = some (w7 G a z)) {j : Int32} (hin : vp_in j 60) {f : Nat → Int32} (hv : g7_head z = f) (hdg : decode cc pc = .ok (.iaload, 1)) (kk : W p l e R s m args below meth c H locs cells slots Q (F0 m (pc + 1) ls (.int (f j.toNatClampNeg) :: rest))) : W p l e R s m args below meth c H locs cells slots Q (F0 m pc ls (.int j :: .ref (a 3) :: rest)) := zald S hK hP i hi 3 rfl hin hdg (by subst hv; exact kk)
theorem zs7_head (S : CallFix p m c cc nL s args Ts own) (hK : zK G s) (hP : zP G bs H) (hD : zD A bs) (hS : va_S A H0 H locs) (i : Nat) {a : Nat → Nat} {z : S7} (hi : bs[i]? = some (w7 G a z)) {j x : Int32} (hin : vp_in j 60) {f : Nat → Int32} (hv : g7_head z = f) (hdg : decode cc pc = .ok (.iastore, 1)) (hbs : bs.set i (w7 G a (s7_head z (upd f j.toNatClampNeg x))) = bs1) (kk : ∀ (H1 : Heap) (locs1 : List Loc), zP G bs1 H1 → zD A bs1 → va_S A H0 H1 locs1 → W p l e R s m args below meth c H1 locs1 cells slots Q (F0 m (pc + 1) ls rest)) : W p l e R s m args below meth c H locs cells slots Q (F0 m pc ls (.int x :: .int j :: .ref (a 3) :: rest)) := by
  subst hv
  exact zast S hK hP hD hS i hi 3 rfl hin rfl hbs hdg kk
theorem pt7_head (G : zG) (a : Nat → Nat) (z : S7) (f : Nat → Int32) : (w7 G a z).set 3 (a 3, .inl (G.2.1, 60, .inl f)) = w7 G a (s7_head z f) := rfl
theorem zg7_body (S : CallFix p m c cc nL s args Ts own) {index : Nat} (hin : ∀ w ∈ u_ws RX7 TX7 10, w ∈ Ts) (hK : zK G s) (hP : zP G bs H) (i : Nat) {a : Nat → Nat} {z : S7} (hi : bs[i]? = some (w7 G a z)) (hlink : Cond.fieldLink own index "RuleCourt$Words" "body" "[I" ∈ Ts) (hdg : decode cc pc = .ok (.getfield index, 3)) (kk : W p l e R s m args below meth c H locs cells slots Q (F0 m (pc + 3) ls (.ref (a 4) :: rest))) : W p l e R s m args below meth c H locs cells slots Q (F0 m pc ls (.ref (a 0) :: rest)) := zget S hin hK hP i hi 0 rfl (ci := 7) rfl 3 (by decide) hlink rfl rfl hdg kk
theorem zl7_body (S : CallFix p m c cc nL s args Ts own) (hK : zK G s) (hP : zP G bs H) (i : Nat) {a : Nat → Nat} {z : S7} (hi : bs[i]? = some (w7 G a z)) {j : Int32} (hin : vp_in j 60) {f : Nat → Int32} (hv : g7_body z = f) (hdg : decode cc pc = .ok (.iaload, 1)) (kk : W p l e R s m args below meth c H locs cells slots Q (F0 m (pc + 1) ls (.int (f j.toNatClampNeg) :: rest))) : W p l e R s m args below meth c H locs cells slots Q (F0 m pc ls (.int j :: .ref (a 4) :: rest)) := zald S hK hP i hi 4 rfl hin hdg (by subst hv; exact kk)
theorem zs7_body (S : CallFix p m c cc nL s args Ts own) (hK : zK G s) (hP : zP G bs H) (hD : zD A bs) (hS : va_S A H0 H locs) (i : Nat) {a : Nat → Nat} {z : S7} (hi : bs[i]? = some (w7 G a z)) {j x : Int32} (hin : vp_in j 60) {f : Nat → Int32} (hv : g7_body z = f) (hdg : decode cc pc = .ok (.iastore, 1)) (hbs : bs.set i (w7 G a (s7_body z (upd f j.toNatClampNeg x))) = bs1) (kk : ∀ (H1 : Heap) (locs1 : List Loc), zP G bs1 H1 → zD A bs1 → va_S A H0 H1 locs1 → W p l e R s m args below meth c H1 locs1 cells slots Q (F0 m (pc + 1) ls rest)) : W p l e R s m args below meth c H locs cells slots Q (F0 m pc ls (.int x :: .int j :: .ref (a 4) :: rest)) := by
  subst hv
  exact zast S hK hP hD hS i hi 4 rfl hin rfl hbs hdg kk
theorem pt7_body (G : zG) (a : Nat → Nat) (z : S7) (f : Nat → Int32) : (w7 G a z).set 4 (a 4, .inl (G.2.1, 60, .inl f)) = w7 G a (s7_body z f) := rfl
theorem zg7_excepts (S : CallFix p m c cc nL s args Ts own) {index : Nat} (hin : ∀ w ∈ u_ws RX7 TX7 10, w ∈ Ts) (hK : zK G s) (hP : zP G bs H) (i : Nat) {a : Nat → Nat} {z : S7} (hi : bs[i]? = some (w7 G a z)) (hlink : Cond.fieldLink own index "RuleCourt$Words" "excepts" "[I" ∈ Ts) (hdg : decode cc pc = .ok (.getfield index, 3)) (kk : W p l e R s m args below meth c H locs cells slots Q (F0 m (pc + 3) ls (.ref (a 5) :: rest))) : W p l e R s m args below meth c H locs cells slots Q (F0 m pc ls (.ref (a 0) :: rest)) := zget S hin hK hP i hi 0 rfl (ci := 7) rfl 4 (by decide) hlink rfl rfl hdg kk
theorem zl7_excepts (S : CallFix p m c cc nL s args Ts own) (hK : zK G s) (hP : zP G bs H) (i : Nat) {a : Nat → Nat} {z : S7} (hi : bs[i]? = some (w7 G a z)) {j : Int32} (hin : vp_in j 60) {f : Nat → Int32} (hv : g7_excepts z = f) (hdg : decode cc pc = .ok (.iaload, 1)) (kk : W p l e R s m args below meth c H locs cells slots Q (F0 m (pc + 1) ls (.int (f j.toNatClampNeg) :: rest))) : W p l e R s m args below meth c H locs cells slots Q (F0 m pc ls (.int j :: .ref (a 5) :: rest)) := zald S hK hP i hi 5 rfl hin hdg (by subst hv; exact kk)
theorem zs7_excepts (S : CallFix p m c cc nL s args Ts own) (hK : zK G s) (hP : zP G bs H) (hD : zD A bs) (hS : va_S A H0 H locs) (i : Nat) {a : Nat → Nat} {z : S7} (hi : bs[i]? = some (w7 G a z)) {j x : Int32} (hin : vp_in j 60) {f : Nat → Int32} (hv : g7_excepts z = f) (hdg : decode cc pc = .ok (.iastore, 1)) (hbs : bs.set i (w7 G a (s7_excepts z (upd f j.toNatClampNeg x))) = bs1) (kk : ∀ (H1 : Heap) (locs1 : List Loc), zP G bs1 H1 → zD A bs1 → va_S A H0 H1 locs1 → W p l e R s m args below meth c H1 locs1 cells slots Q (F0 m (pc + 1) ls rest)) : W p l e R s m args below meth c H locs cells slots Q (F0 m pc ls (.int x :: .int j :: .ref (a 5) :: rest)) := by
  subst hv
  exact zast S hK hP hD hS i hi 5 rfl hin rfl hbs hdg kk
theorem pt7_excepts (G : zG) (a : Nat → Nat) (z : S7) (f : Nat → Int32) : (w7 G a z).set 5 (a 5, .inl (G.2.1, 60, .inl f)) = w7 G a (s7_excepts z f) := rfl
theorem zg7_power (S : CallFix p m c cc nL s args Ts own) {index : Nat} (hin : ∀ w ∈ u_ws RX7 TX7 10, w ∈ Ts) (hK : zK G s) (hP : zP G bs H) (i : Nat) {a : Nat → Nat} {z : S7} (hi : bs[i]? = some (w7 G a z)) (hlink : Cond.fieldLink own index "RuleCourt$Words" "power" "[I" ∈ Ts) (hdg : decode cc pc = .ok (.getfield index, 3)) (kk : W p l e R s m args below meth c H locs cells slots Q (F0 m (pc + 3) ls (.ref (a 6) :: rest))) : W p l e R s m args below meth c H locs cells slots Q (F0 m pc ls (.ref (a 0) :: rest)) := zget S hin hK hP i hi 0 rfl (ci := 7) rfl 5 (by decide) hlink rfl rfl hdg kk
theorem zl7_power (S : CallFix p m c cc nL s args Ts own) (hK : zK G s) (hP : zP G bs H) (i : Nat) {a : Nat → Nat} {z : S7} (hi : bs[i]? = some (w7 G a z)) {j : Int32} (hin : vp_in j 60) {f : Nat → Int32} (hv : g7_power z = f) (hdg : decode cc pc = .ok (.iaload, 1)) (kk : W p l e R s m args below meth c H locs cells slots Q (F0 m (pc + 1) ls (.int (f j.toNatClampNeg) :: rest))) : W p l e R s m args below meth c H locs cells slots Q (F0 m pc ls (.int j :: .ref (a 6) :: rest)) := zald S hK hP i hi 6 rfl hin hdg (by subst hv; exact kk)
theorem zs7_power (S : CallFix p m c cc nL s args Ts own) (hK : zK G s) (hP : zP G bs H) (hD : zD A bs) (hS : va_S A H0 H locs) (i : Nat) {a : Nat → Nat} {z : S7} (hi : bs[i]? = some (w7 G a z)) {j x : Int32} (hin : vp_in j 60) {f : Nat → Int32} (hv : g7_power z = f) (hdg : decode cc pc = .ok (.iastore, 1)) (hbs : bs.set i (w7 G a (s7_power z (upd f j.toNatClampNeg x))) = bs1) (kk : ∀ (H1 : Heap) (locs1 : List Loc), zP G bs1 H1 → zD A bs1 → va_S A H0 H1 locs1 → W p l e R s m args below meth c H1 locs1 cells slots Q (F0 m (pc + 1) ls rest)) : W p l e R s m args below meth c H locs cells slots Q (F0 m pc ls (.int x :: .int j :: .ref (a 6) :: rest)) := by
  subst hv
  exact zast S hK hP hD hS i hi 6 rfl hin rfl hbs hdg kk
theorem pt7_power (G : zG) (a : Nat → Nat) (z : S7) (f : Nat → Int32) : (w7 G a z).set 6 (a 6, .inl (G.2.1, 60, .inl f)) = w7 G a (s7_power z f) := rfl
theorem zg7_begins (S : CallFix p m c cc nL s args Ts own) {index : Nat} (hin : ∀ w ∈ u_ws RX7 TX7 10, w ∈ Ts) (hK : zK G s) (hP : zP G bs H) (i : Nat) {a : Nat → Nat} {z : S7} (hi : bs[i]? = some (w7 G a z)) (hlink : Cond.fieldLink own index "RuleCourt$Words" "begins" "[I" ∈ Ts) (hdg : decode cc pc = .ok (.getfield index, 3)) (kk : W p l e R s m args below meth c H locs cells slots Q (F0 m (pc + 3) ls (.ref (a 7) :: rest))) : W p l e R s m args below meth c H locs cells slots Q (F0 m pc ls (.ref (a 0) :: rest)) := zget S hin hK hP i hi 0 rfl (ci := 7) rfl 6 (by decide) hlink rfl rfl hdg kk
theorem zl7_begins (S : CallFix p m c cc nL s args Ts own) (hK : zK G s) (hP : zP G bs H) (i : Nat) {a : Nat → Nat} {z : S7} (hi : bs[i]? = some (w7 G a z)) {j : Int32} (hin : vp_in j 60) {f : Nat → Int32} (hv : g7_begins z = f) (hdg : decode cc pc = .ok (.iaload, 1)) (kk : W p l e R s m args below meth c H locs cells slots Q (F0 m (pc + 1) ls (.int (f j.toNatClampNeg) :: rest))) : W p l e R s m args below meth c H locs cells slots Q (F0 m pc ls (.int j :: .ref (a 7) :: rest)) := zald S hK hP i hi 7 rfl hin hdg (by subst hv; exact kk)
theorem zs7_begins (S : CallFix p m c cc nL s args Ts own) (hK : zK G s) (hP : zP G bs H) (hD : zD A bs) (hS : va_S A H0 H locs) (i : Nat) {a : Nat → Nat} {z : S7} (hi : bs[i]? = some (w7 G a z)) {j x : Int32} (hin : vp_in j 60) {f : Nat → Int32} (hv : g7_begins z = f) (hdg : decode cc pc = .ok (.iastore, 1)) (hbs : bs.set i (w7 G a (s7_begins z (upd f j.toNatClampNeg x))) = bs1) (kk : ∀ (H1 : Heap) (locs1 : List Loc), zP G bs1 H1 → zD A bs1 → va_S A H0 H1 locs1 → W p l e R s m args below meth c H1 locs1 cells slots Q (F0 m (pc + 1) ls rest)) : W p l e R s m args below meth c H locs cells slots Q (F0 m pc ls (.int x :: .int j :: .ref (a 7) :: rest)) := by
  subst hv
  exact zast S hK hP hD hS i hi 7 rfl hin rfl hbs hdg kk
theorem pt7_begins (G : zG) (a : Nat → Nat) (z : S7) (f : Nat → Int32) : (w7 G a z).set 7 (a 7, .inl (G.2.1, 60, .inl f)) = w7 G a (s7_begins z f) := rfl
theorem zg7_length (S : CallFix p m c cc nL s args Ts own) {index : Nat} (hin : ∀ w ∈ u_ws RX7 TX7 10, w ∈ Ts) (hK : zK G s) (hP : zP G bs H) (i : Nat) {a : Nat → Nat} {z : S7} (hi : bs[i]? = some (w7 G a z)) (hlink : Cond.fieldLink own index "RuleCourt$Words" "length" "I" ∈ Ts) {v : Int32} (hv : g7_length z = v) (hdg : decode cc pc = .ok (.getfield index, 3)) (kk : W p l e R s m args below meth c H locs cells slots Q (F0 m (pc + 3) ls (.int v :: rest))) : W p l e R s m args below meth c H locs cells slots Q (F0 m pc ls (.ref (a 0) :: rest)) := zget S hin hK hP i hi 0 rfl (ci := 7) rfl 7 (by decide) hlink rfl rfl hdg (by subst hv; exact kk)
theorem zp7_length (S : CallFix p m c cc nL s args Ts own) {index : Nat} (hin : ∀ w ∈ u_ws RX7 TX7 10, w ∈ Ts) (hK : zK G s) (hP : zP G bs H) (hD : zD A bs) (hS : va_S A H0 H locs) (i : Nat) {a : Nat → Nat} {z : S7} (hi : bs[i]? = some (w7 G a z)) (hlink : Cond.fieldLink own index "RuleCourt$Words" "length" "I" ∈ Ts) {v : Int32} (hdg : decode cc pc = .ok (.putfield index, 3)) (hbs : bs.set i (w7 G a (s7_length z v)) = bs1) (kk : ∀ (H1 : Heap) (locs1 : List Loc), zP G bs1 H1 → zD A bs1 → va_S A H0 H1 locs1 → W p l e R s m args below meth c H1 locs1 cells slots Q (F0 m (pc + 3) ls rest)) : W p l e R s m args below meth c H locs cells slots Q (F0 m pc ls (.int v :: .ref (a 0) :: rest)) := zput S hin tyX7 tyX7_ok nmX7 hK hP hD hS i hi 0 rfl (ci := 7) rfl 7 (by decide) hlink rfl rfl rfl rfl (Nat.le_of_ble_eq_true rfl) rfl hbs hdg kk
theorem zg7_at (S : CallFix p m c cc nL s args Ts own) {index : Nat} (hin : ∀ w ∈ u_ws RX7 TX7 10, w ∈ Ts) (hK : zK G s) (hP : zP G bs H) (i : Nat) {a : Nat → Nat} {z : S7} (hi : bs[i]? = some (w7 G a z)) (hlink : Cond.fieldLink own index "RuleCourt$Words" "at" "I" ∈ Ts) {v : Int32} (hv : g7_at z = v) (hdg : decode cc pc = .ok (.getfield index, 3)) (kk : W p l e R s m args below meth c H locs cells slots Q (F0 m (pc + 3) ls (.int v :: rest))) : W p l e R s m args below meth c H locs cells slots Q (F0 m pc ls (.ref (a 0) :: rest)) := zget S hin hK hP i hi 0 rfl (ci := 7) rfl 8 (by decide) hlink rfl rfl hdg (by subst hv; exact kk)
theorem zp7_at (S : CallFix p m c cc nL s args Ts own) {index : Nat} (hin : ∀ w ∈ u_ws RX7 TX7 10, w ∈ Ts) (hK : zK G s) (hP : zP G bs H) (hD : zD A bs) (hS : va_S A H0 H locs) (i : Nat) {a : Nat → Nat} {z : S7} (hi : bs[i]? = some (w7 G a z)) (hlink : Cond.fieldLink own index "RuleCourt$Words" "at" "I" ∈ Ts) {v : Int32} (hdg : decode cc pc = .ok (.putfield index, 3)) (hbs : bs.set i (w7 G a (s7_at z v)) = bs1) (kk : ∀ (H1 : Heap) (locs1 : List Loc), zP G bs1 H1 → zD A bs1 → va_S A H0 H1 locs1 → W p l e R s m args below meth c H1 locs1 cells slots Q (F0 m (pc + 3) ls rest)) : W p l e R s m args below meth c H locs cells slots Q (F0 m pc ls (.int v :: .ref (a 0) :: rest)) := zput S hin tyX7 tyX7_ok nmX7 hK hP hD hS i hi 0 rfl (ci := 7) rfl 8 (by decide) hlink rfl rfl rfl rfl (Nat.le_of_ble_eq_true rfl) rfl hbs hdg kk
theorem zg7_told (S : CallFix p m c cc nL s args Ts own) {index : Nat} (hin : ∀ w ∈ u_ws RX7 TX7 10, w ∈ Ts) (hK : zK G s) (hP : zP G bs H) (i : Nat) {a : Nat → Nat} {z : S7} (hi : bs[i]? = some (w7 G a z)) (hlink : Cond.fieldLink own index "RuleCourt$Words" "told" "I" ∈ Ts) {v : Int32} (hv : g7_told z = v) (hdg : decode cc pc = .ok (.getfield index, 3)) (kk : W p l e R s m args below meth c H locs cells slots Q (F0 m (pc + 3) ls (.int v :: rest))) : W p l e R s m args below meth c H locs cells slots Q (F0 m pc ls (.ref (a 0) :: rest)) := zget S hin hK hP i hi 0 rfl (ci := 7) rfl 9 (by decide) hlink rfl rfl hdg (by subst hv; exact kk)
theorem zp7_told (S : CallFix p m c cc nL s args Ts own) {index : Nat} (hin : ∀ w ∈ u_ws RX7 TX7 10, w ∈ Ts) (hK : zK G s) (hP : zP G bs H) (hD : zD A bs) (hS : va_S A H0 H locs) (i : Nat) {a : Nat → Nat} {z : S7} (hi : bs[i]? = some (w7 G a z)) (hlink : Cond.fieldLink own index "RuleCourt$Words" "told" "I" ∈ Ts) {v : Int32} (hdg : decode cc pc = .ok (.putfield index, 3)) (hbs : bs.set i (w7 G a (s7_told z v)) = bs1) (kk : ∀ (H1 : Heap) (locs1 : List Loc), zP G bs1 H1 → zD A bs1 → va_S A H0 H1 locs1 → W p l e R s m args below meth c H1 locs1 cells slots Q (F0 m (pc + 3) ls rest)) : W p l e R s m args below meth c H locs cells slots Q (F0 m pc ls (.int v :: .ref (a 0) :: rest)) := zput S hin tyX7 tyX7_ok nmX7 hK hP hD hS i hi 0 rfl (ci := 7) rfl 9 (by decide) hlink rfl rfl rfl rfl (Nat.le_of_ble_eq_true rfl) rfl hbs hdg kk
theorem gg8_isKept (z : S8) (x : Int32) : g8_isKept (s8_isKept z x) = x := va_up_self z.1 0 x
theorem ss8_isKept (z : S8) (x y : Int32) : s8_isKept (s8_isKept z x) y = s8_isKept z y := congrArg (fun q => (q, z.2)) (zup_up z.1 0 x y)
theorem se8_isKept (z : S8) : s8_isKept z (g8_isKept z) = z := congrArg (fun q => (q, z.2)) (zup_self z.1 0)
theorem gg8_isSettled (z : S8) (x : Int32) : g8_isSettled (s8_isSettled z x) = x := va_up_self z.1 1 x
theorem ss8_isSettled (z : S8) (x y : Int32) : s8_isSettled (s8_isSettled z x) y = s8_isSettled z y := congrArg (fun q => (q, z.2)) (zup_up z.1 1 x y)
theorem se8_isSettled (z : S8) : s8_isSettled z (g8_isSettled z) = z := congrArg (fun q => (q, z.2)) (zup_self z.1 1)
theorem zg8_court (S : CallFix p m c cc nL s args Ts own) {index : Nat} (hin : ∀ w ∈ u_ws RX8 TX8 12, w ∈ Ts) (hK : zK G s) (hP : zP G bs H) (i : Nat) {a : Nat → Nat} {r_court : Nat} {r_rounds : Nat} {r_thought : Nat} {r_thoughtRounds : Nat} {r_chain : Nat} {r_history : Nat} {r_kept : Nat} {r_words : Nat} {r_sheet : Nat} {r_rows : Nat} {z : S8} (hi : bs[i]? = some (w8 G a r_court r_rounds r_thought r_thoughtRounds r_chain r_history r_kept r_words r_sheet r_rows z)) (hlink : Cond.fieldLink own index "RuleCourt" "court" "LRuleCourt$Court;" ∈ Ts) (hdg : decode cc pc = .ok (.getfield index, 3)) (kk : W p l e R s m args below meth c H locs cells slots Q (F0 m (pc + 3) ls (.ref r_court :: rest))) : W p l e R s m args below meth c H locs cells slots Q (F0 m pc ls (.ref (a 0) :: rest)) := zget S hin hK hP i hi 0 rfl (ci := 8) rfl 0 (by decide) hlink rfl rfl hdg kk
theorem zg8_rounds (S : CallFix p m c cc nL s args Ts own) {index : Nat} (hin : ∀ w ∈ u_ws RX8 TX8 12, w ∈ Ts) (hK : zK G s) (hP : zP G bs H) (i : Nat) {a : Nat → Nat} {r_court : Nat} {r_rounds : Nat} {r_thought : Nat} {r_thoughtRounds : Nat} {r_chain : Nat} {r_history : Nat} {r_kept : Nat} {r_words : Nat} {r_sheet : Nat} {r_rows : Nat} {z : S8} (hi : bs[i]? = some (w8 G a r_court r_rounds r_thought r_thoughtRounds r_chain r_history r_kept r_words r_sheet r_rows z)) (hlink : Cond.fieldLink own index "RuleCourt" "rounds" "LRuleCourt$Rounds;" ∈ Ts) (hdg : decode cc pc = .ok (.getfield index, 3)) (kk : W p l e R s m args below meth c H locs cells slots Q (F0 m (pc + 3) ls (.ref r_rounds :: rest))) : W p l e R s m args below meth c H locs cells slots Q (F0 m pc ls (.ref (a 0) :: rest)) := zget S hin hK hP i hi 0 rfl (ci := 8) rfl 1 (by decide) hlink rfl rfl hdg kk
theorem zg8_thought (S : CallFix p m c cc nL s args Ts own) {index : Nat} (hin : ∀ w ∈ u_ws RX8 TX8 12, w ∈ Ts) (hK : zK G s) (hP : zP G bs H) (i : Nat) {a : Nat → Nat} {r_court : Nat} {r_rounds : Nat} {r_thought : Nat} {r_thoughtRounds : Nat} {r_chain : Nat} {r_history : Nat} {r_kept : Nat} {r_words : Nat} {r_sheet : Nat} {r_rows : Nat} {z : S8} (hi : bs[i]? = some (w8 G a r_court r_rounds r_thought r_thoughtRounds r_chain r_history r_kept r_words r_sheet r_rows z)) (hlink : Cond.fieldLink own index "RuleCourt" "thought" "LRuleCourt$Court;" ∈ Ts) (hdg : decode cc pc = .ok (.getfield index, 3)) (kk : W p l e R s m args below meth c H locs cells slots Q (F0 m (pc + 3) ls (.ref r_thought :: rest))) : W p l e R s m args below meth c H locs cells slots Q (F0 m pc ls (.ref (a 0) :: rest)) := zget S hin hK hP i hi 0 rfl (ci := 8) rfl 2 (by decide) hlink rfl rfl hdg kk
theorem zg8_thoughtRounds (S : CallFix p m c cc nL s args Ts own) {index : Nat} (hin : ∀ w ∈ u_ws RX8 TX8 12, w ∈ Ts) (hK : zK G s) (hP : zP G bs H) (i : Nat) {a : Nat → Nat} {r_court : Nat} {r_rounds : Nat} {r_thought : Nat} {r_thoughtRounds : Nat} {r_chain : Nat} {r_history : Nat} {r_kept : Nat} {r_words : Nat} {r_sheet : Nat} {r_rows : Nat} {z : S8} (hi : bs[i]? = some (w8 G a r_court r_rounds r_thought r_thoughtRounds r_chain r_history r_kept r_words r_sheet r_rows z)) (hlink : Cond.fieldLink own index "RuleCourt" "thoughtRounds" "LRuleCourt$Rounds;" ∈ Ts) (hdg : decode cc pc = .ok (.getfield index, 3)) (kk : W p l e R s m args below meth c H locs cells slots Q (F0 m (pc + 3) ls (.ref r_thoughtRounds :: rest))) : W p l e R s m args below meth c H locs cells slots Q (F0 m pc ls (.ref (a 0) :: rest)) := zget S hin hK hP i hi 0 rfl (ci := 8) rfl 3 (by decide) hlink rfl rfl hdg kk
theorem zg8_chain (S : CallFix p m c cc nL s args Ts own) {index : Nat} (hin : ∀ w ∈ u_ws RX8 TX8 12, w ∈ Ts) (hK : zK G s) (hP : zP G bs H) (i : Nat) {a : Nat → Nat} {r_court : Nat} {r_rounds : Nat} {r_thought : Nat} {r_thoughtRounds : Nat} {r_chain : Nat} {r_history : Nat} {r_kept : Nat} {r_words : Nat} {r_sheet : Nat} {r_rows : Nat} {z : S8} (hi : bs[i]? = some (w8 G a r_court r_rounds r_thought r_thoughtRounds r_chain r_history r_kept r_words r_sheet r_rows z)) (hlink : Cond.fieldLink own index "RuleCourt" "chain" "LRuleCourt$Proof;" ∈ Ts) (hdg : decode cc pc = .ok (.getfield index, 3)) (kk : W p l e R s m args below meth c H locs cells slots Q (F0 m (pc + 3) ls (.ref r_chain :: rest))) : W p l e R s m args below meth c H locs cells slots Q (F0 m pc ls (.ref (a 0) :: rest)) := zget S hin hK hP i hi 0 rfl (ci := 8) rfl 4 (by decide) hlink rfl rfl hdg kk
theorem zg8_history (S : CallFix p m c cc nL s args Ts own) {index : Nat} (hin : ∀ w ∈ u_ws RX8 TX8 12, w ∈ Ts) (hK : zK G s) (hP : zP G bs H) (i : Nat) {a : Nat → Nat} {r_court : Nat} {r_rounds : Nat} {r_thought : Nat} {r_thoughtRounds : Nat} {r_chain : Nat} {r_history : Nat} {r_kept : Nat} {r_words : Nat} {r_sheet : Nat} {r_rows : Nat} {z : S8} (hi : bs[i]? = some (w8 G a r_court r_rounds r_thought r_thoughtRounds r_chain r_history r_kept r_words r_sheet r_rows z)) (hlink : Cond.fieldLink own index "RuleCourt" "history" "LRuleCourt$History;" ∈ Ts) (hdg : decode cc pc = .ok (.getfield index, 3)) (kk : W p l e R s m args below meth c H locs cells slots Q (F0 m (pc + 3) ls (.ref r_history :: rest))) : W p l e R s m args below meth c H locs cells slots Q (F0 m pc ls (.ref (a 0) :: rest)) := zget S hin hK hP i hi 0 rfl (ci := 8) rfl 5 (by decide) hlink rfl rfl hdg kk
theorem zg8_kept (S : CallFix p m c cc nL s args Ts own) {index : Nat} (hin : ∀ w ∈ u_ws RX8 TX8 12, w ∈ Ts) (hK : zK G s) (hP : zP G bs H) (i : Nat) {a : Nat → Nat} {r_court : Nat} {r_rounds : Nat} {r_thought : Nat} {r_thoughtRounds : Nat} {r_chain : Nat} {r_history : Nat} {r_kept : Nat} {r_words : Nat} {r_sheet : Nat} {r_rows : Nat} {z : S8} (hi : bs[i]? = some (w8 G a r_court r_rounds r_thought r_thoughtRounds r_chain r_history r_kept r_words r_sheet r_rows z)) (hlink : Cond.fieldLink own index "RuleCourt" "kept" "LRuleCourt$Court;" ∈ Ts) (hdg : decode cc pc = .ok (.getfield index, 3)) (kk : W p l e R s m args below meth c H locs cells slots Q (F0 m (pc + 3) ls (.ref r_kept :: rest))) : W p l e R s m args below meth c H locs cells slots Q (F0 m pc ls (.ref (a 0) :: rest)) := zget S hin hK hP i hi 0 rfl (ci := 8) rfl 6 (by decide) hlink rfl rfl hdg kk
theorem zg8_words (S : CallFix p m c cc nL s args Ts own) {index : Nat} (hin : ∀ w ∈ u_ws RX8 TX8 12, w ∈ Ts) (hK : zK G s) (hP : zP G bs H) (i : Nat) {a : Nat → Nat} {r_court : Nat} {r_rounds : Nat} {r_thought : Nat} {r_thoughtRounds : Nat} {r_chain : Nat} {r_history : Nat} {r_kept : Nat} {r_words : Nat} {r_sheet : Nat} {r_rows : Nat} {z : S8} (hi : bs[i]? = some (w8 G a r_court r_rounds r_thought r_thoughtRounds r_chain r_history r_kept r_words r_sheet r_rows z)) (hlink : Cond.fieldLink own index "RuleCourt" "words" "LRuleCourt$Words;" ∈ Ts) (hdg : decode cc pc = .ok (.getfield index, 3)) (kk : W p l e R s m args below meth c H locs cells slots Q (F0 m (pc + 3) ls (.ref r_words :: rest))) : W p l e R s m args below meth c H locs cells slots Q (F0 m pc ls (.ref (a 0) :: rest)) := zget S hin hK hP i hi 0 rfl (ci := 8) rfl 7 (by decide) hlink rfl rfl hdg kk
theorem zg8_sheet (S : CallFix p m c cc nL s args Ts own) {index : Nat} (hin : ∀ w ∈ u_ws RX8 TX8 12, w ∈ Ts) (hK : zK G s) (hP : zP G bs H) (i : Nat) {a : Nat → Nat} {r_court : Nat} {r_rounds : Nat} {r_thought : Nat} {r_thoughtRounds : Nat} {r_chain : Nat} {r_history : Nat} {r_kept : Nat} {r_words : Nat} {r_sheet : Nat} {r_rows : Nat} {z : S8} (hi : bs[i]? = some (w8 G a r_court r_rounds r_thought r_thoughtRounds r_chain r_history r_kept r_words r_sheet r_rows z)) (hlink : Cond.fieldLink own index "RuleCourt" "sheet" "LRuleCourt$Paper;" ∈ Ts) (hdg : decode cc pc = .ok (.getfield index, 3)) (kk : W p l e R s m args below meth c H locs cells slots Q (F0 m (pc + 3) ls (.ref r_sheet :: rest))) : W p l e R s m args below meth c H locs cells slots Q (F0 m pc ls (.ref (a 0) :: rest)) := zget S hin hK hP i hi 0 rfl (ci := 8) rfl 8 (by decide) hlink rfl rfl hdg kk
theorem zg8_rows (S : CallFix p m c cc nL s args Ts own) {index : Nat} (hin : ∀ w ∈ u_ws RX8 TX8 12, w ∈ Ts) (hK : zK G s) (hP : zP G bs H) (i : Nat) {a : Nat → Nat} {r_court : Nat} {r_rounds : Nat} {r_thought : Nat} {r_thoughtRounds : Nat} {r_chain : Nat} {r_history : Nat} {r_kept : Nat} {r_words : Nat} {r_sheet : Nat} {r_rows : Nat} {z : S8} (hi : bs[i]? = some (w8 G a r_court r_rounds r_thought r_thoughtRounds r_chain r_history r_kept r_words r_sheet r_rows z)) (hlink : Cond.fieldLink own index "RuleCourt" "rows" "LRuleCourt$Rows;" ∈ Ts) (hdg : decode cc pc = .ok (.getfield index, 3)) (kk : W p l e R s m args below meth c H locs cells slots Q (F0 m (pc + 3) ls (.ref r_rows :: rest))) : W p l e R s m args below meth c H locs cells slots Q (F0 m pc ls (.ref (a 0) :: rest)) := zget S hin hK hP i hi 0 rfl (ci := 8) rfl 9 (by decide) hlink rfl rfl hdg kk
theorem zg8_isKept (S : CallFix p m c cc nL s args Ts own) {index : Nat} (hin : ∀ w ∈ u_ws RX8 TX8 12, w ∈ Ts) (hK : zK G s) (hP : zP G bs H) (i : Nat) {a : Nat → Nat} {r_court : Nat} {r_rounds : Nat} {r_thought : Nat} {r_thoughtRounds : Nat} {r_chain : Nat} {r_history : Nat} {r_kept : Nat} {r_words : Nat} {r_sheet : Nat} {r_rows : Nat} {z : S8} (hi : bs[i]? = some (w8 G a r_court r_rounds r_thought r_thoughtRounds r_chain r_history r_kept r_words r_sheet r_rows z)) (hlink : Cond.fieldLink own index "RuleCourt" "isKept" "Z" ∈ Ts) {v : Int32} (hv : g8_isKept z = v) (hdg : decode cc pc = .ok (.getfield index, 3)) (kk : W p l e R s m args below meth c H locs cells slots Q (F0 m (pc + 3) ls (.int v :: rest))) : W p l e R s m args below meth c H locs cells slots Q (F0 m pc ls (.ref (a 0) :: rest)) := zget S hin hK hP i hi 0 rfl (ci := 8) rfl 10 (by decide) hlink rfl rfl hdg (by subst hv; exact kk)
theorem zp8_isKept (S : CallFix p m c cc nL s args Ts own) {index : Nat} (hin : ∀ w ∈ u_ws RX8 TX8 12, w ∈ Ts) (hK : zK G s) (hP : zP G bs H) (hD : zD A bs) (hS : va_S A H0 H locs) (i : Nat) {a : Nat → Nat} {r_court : Nat} {r_rounds : Nat} {r_thought : Nat} {r_thoughtRounds : Nat} {r_chain : Nat} {r_history : Nat} {r_kept : Nat} {r_words : Nat} {r_sheet : Nat} {r_rows : Nat} {z : S8} (hi : bs[i]? = some (w8 G a r_court r_rounds r_thought r_thoughtRounds r_chain r_history r_kept r_words r_sheet r_rows z)) (hlink : Cond.fieldLink own index "RuleCourt" "isKept" "Z" ∈ Ts) {v : Int32} (hn : narrow .boolean (.int v) = .int v) (hdg : decode cc pc = .ok (.putfield index, 3)) (hbs : bs.set i (w8 G a r_court r_rounds r_thought r_thoughtRounds r_chain r_history r_kept r_words r_sheet r_rows (s8_isKept z v)) = bs1) (kk : ∀ (H1 : Heap) (locs1 : List Loc), zP G bs1 H1 → zD A bs1 → va_S A H0 H1 locs1 → W p l e R s m args below meth c H1 locs1 cells slots Q (F0 m (pc + 3) ls rest)) : W p l e R s m args below meth c H locs cells slots Q (F0 m pc ls (.int v :: .ref (a 0) :: rest)) := zput S hin tyX8 tyX8_ok nmX8 hK hP hD hS i hi 0 rfl (ci := 8) rfl 10 (by decide) hlink rfl rfl hn (zfitb hn) (Nat.le_of_ble_eq_true rfl) rfl hbs hdg kk
theorem zg8_isSettled (S : CallFix p m c cc nL s args Ts own) {index : Nat} (hin : ∀ w ∈ u_ws RX8 TX8 12, w ∈ Ts) (hK : zK G s) (hP : zP G bs H) (i : Nat) {a : Nat → Nat} {r_court : Nat} {r_rounds : Nat} {r_thought : Nat} {r_thoughtRounds : Nat} {r_chain : Nat} {r_history : Nat} {r_kept : Nat} {r_words : Nat} {r_sheet : Nat} {r_rows : Nat} {z : S8} (hi : bs[i]? = some (w8 G a r_court r_rounds r_thought r_thoughtRounds r_chain r_history r_kept r_words r_sheet r_rows z)) (hlink : Cond.fieldLink own index "RuleCourt" "isSettled" "Z" ∈ Ts) {v : Int32} (hv : g8_isSettled z = v) (hdg : decode cc pc = .ok (.getfield index, 3)) (kk : W p l e R s m args below meth c H locs cells slots Q (F0 m (pc + 3) ls (.int v :: rest))) : W p l e R s m args below meth c H locs cells slots Q (F0 m pc ls (.ref (a 0) :: rest)) := zget S hin hK hP i hi 0 rfl (ci := 8) rfl 11 (by decide) hlink rfl rfl hdg (by subst hv; exact kk)
theorem zp8_isSettled (S : CallFix p m c cc nL s args Ts own) {index : Nat} (hin : ∀ w ∈ u_ws RX8 TX8 12, w ∈ Ts) (hK : zK G s) (hP : zP G bs H) (hD : zD A bs) (hS : va_S A H0 H locs) (i : Nat) {a : Nat → Nat} {r_court : Nat} {r_rounds : Nat} {r_thought : Nat} {r_thoughtRounds : Nat} {r_chain : Nat} {r_history : Nat} {r_kept : Nat} {r_words : Nat} {r_sheet : Nat} {r_rows : Nat} {z : S8} (hi : bs[i]? = some (w8 G a r_court r_rounds r_thought r_thoughtRounds r_chain r_history r_kept r_words r_sheet r_rows z)) (hlink : Cond.fieldLink own index "RuleCourt" "isSettled" "Z" ∈ Ts) {v : Int32} (hn : narrow .boolean (.int v) = .int v) (hdg : decode cc pc = .ok (.putfield index, 3)) (hbs : bs.set i (w8 G a r_court r_rounds r_thought r_thoughtRounds r_chain r_history r_kept r_words r_sheet r_rows (s8_isSettled z v)) = bs1) (kk : ∀ (H1 : Heap) (locs1 : List Loc), zP G bs1 H1 → zD A bs1 → va_S A H0 H1 locs1 → W p l e R s m args below meth c H1 locs1 cells slots Q (F0 m (pc + 3) ls rest)) : W p l e R s m args below meth c H locs cells slots Q (F0 m pc ls (.int v :: .ref (a 0) :: rest)) := zput S hin tyX8 tyX8_ok nmX8 hK hP hD hS i hi 0 rfl (ci := 8) rfl 11 (by decide) hlink rfl rfl hn (zfitb hn) (Nat.le_of_ble_eq_true rfl) rfl hbs hdg kk
end ZFLD
theorem wf0 (G : zG) (a : Nat → Nat) (z y : S0) : (w0 G a z).map Prod.fst = (w0 G a y).map Prod.fst := rfl
theorem wf2 (G : zG) (a : Nat → Nat) (z y : S2) : (w2 G a z).map Prod.fst = (w2 G a y).map Prod.fst := rfl
theorem wf3 (G : zG) (a : Nat → Nat) (r_view : Nat) (z y : S3) : (w3 G a r_view z).map Prod.fst = (w3 G a r_view y).map Prod.fst := rfl
theorem wf4 (G : zG) (a : Nat → Nat) (r_view : Nat) (z y : S4) : (w4 G a r_view z).map Prod.fst = (w4 G a r_view y).map Prod.fst := rfl
theorem wf6 (G : zG) (a : Nat → Nat) (z y : S6) : (w6 G a z).map Prod.fst = (w6 G a y).map Prod.fst := rfl
theorem wf7 (G : zG) (a : Nat → Nat) (z y : S7) : (w7 G a z).map Prod.fst = (w7 G a y).map Prod.fst := rfl
theorem wf8 (G : zG) (a : Nat → Nat) (r_court : Nat) (r_rounds : Nat) (r_thought : Nat) (r_thoughtRounds : Nat) (r_chain : Nat) (r_history : Nat) (r_kept : Nat) (r_words : Nat) (r_sheet : Nat) (r_rows : Nat) (z y : S8) : (w8 G a r_court r_rounds r_thought r_thoughtRounds r_chain r_history r_kept r_words r_sheet r_rows z).map Prod.fst = (w8 G a r_court r_rounds r_thought r_thoughtRounds r_chain r_history r_kept r_words r_sheet r_rows y).map Prod.fst := rfl
theorem zfl_cons {b c : va_W} {bs cs : zB} (h : b.map Prod.fst = c.map Prod.fst) (t : bs.map (List.map Prod.fst) = cs.map (List.map Prod.fst)) : (b :: bs).map (List.map Prod.fst) = (c :: cs).map (List.map Prod.fst) := by rw [List.map_cons, List.map_cons, h, t]
def zfill (n : Nat) (v : Int32) (f : Nat → Int32) : Nat → Int32 := fun j => if j < n then v else f j
theorem zfill_0 (v : Int32) (f : Nat → Int32) : zfill 0 v f = f := by
  funext j
  simp [zfill]
theorem zfill_s {i : Nat} (v : Int32) (f : Nat → Int32) : upd (zfill i v f) i v = zfill (i + 1) v f := by
  funext j
  by_cases h : j = i
  · subst h
    rw [pk_us]
    simp [zfill]
  · rw [pk_un h]
    simp only [zfill]
    by_cases h2 : j < i
    · rw [if_pos h2, if_pos (by omega)]
    · rw [if_neg h2, if_neg (by omega)]
def rmJ7_fill_53178 : Room := { frames := 0, cells := 0, slots := 0, locals := 0 }
set_option maxHeartbeats 4000000 in
set_option maxRecDepth 100000 in
theorem c_fill (l : Launch) (G : zG) (a N : Nat) (hN : N ≤ 4096) (f : Nat → Int32) (v : Int32) : zV l yJ7_fill_53178 wsJ7_fill_53178 rmJ7_fill_53178 G [.ref a, .int v] [[(a, .inl (G.2.1, N, .inl f))]] [[(a, .inl (G.2.1, N, .inl (zfill N v f)))]] := by
  refine zV.mk (cc := cJ7_fill_53178) (maxL := 4) (by decide +kernel) rfl (Nat.le_of_ble_eq_true rfl) rfl ?_
  intro p e s m args below meth c Q A ls S hK hD hA hP hl hret
  have hx := S.1
  have hb := S.2.1
  have hS : va_S A s.heap s.heap [] := va_S.rf
  have hl : lv_has ls 4 [(0, .ref a), (1, .int v)] := hl
  refine lv_iconst (v := 0) hx hb dJ7_fill_53178_0 (by decide) ?_
  refine lv_istore_n (lv' := [(2, .int 0), (0, .ref a), (1, .int v)]) hx hb dJ7_fill_53178_1 rfl hl (by decide) rfl (fun ls hl => ?_)
  refine lv_aload_n hx hb dJ7_fill_53178_2 rfl (lv_at hl 1 rfl) ?_
  refine zlen S hK hP 0 rfl 0 rfl dJ7_fill_53178_3 ?_
  refine lv_istore_n (lv' := [(3, .int (nI N)), (2, .int 0), (0, .ref a), (1, .int v)]) hx hb dJ7_fill_53178_4 rfl hl (by decide) rfl (fun ls hl => ?_)
  have hB : ∀ (n i : Nat) (H : Heap) (locs : List Loc) (ls : Array Slot), i ≤ N → N + 1 ≤ i + n → zP G [[(a, .inl (G.2.1, N, .inl (zfill i v f)))]] H → zD A [[(a, .inl (G.2.1, N, .inl (zfill i v f)))]] → va_S A s.heap H locs → lv_has ls 4 [(2, .int (nI i)), (3, .int (nI N)), (0, .ref a), (1, .int v)] → W p l e rmJ7_fill_53178 s m args below meth c H locs 0 0 Q (F0 m 5 ls []) := by
    intro n
    induction n with
    | zero =>
      intro i H locs ls h1 h2
      exact absurd h2 (by omega)
    | succ n ih =>
      intro i H locs ls h1 h2 hP hD hS hl
      refine lv_iload_n hx hb dJ7_fill_53178_5 rfl (lv_at hl 0 rfl) ?_
      refine lv_iload_n hx hb dJ7_fill_53178_6 rfl (lv_at hl 1 rfl) ?_
      refine lv_icmp_ge (tgt := 20) hx hb dJ7_fill_53178_7 (by decide) (fun c7 => ?_) (fun c7 => ?_)
      · have hi : i = N := by
          rw [nI_leI (by omega) (by omega)] at c7
          omega
        subst hi
        exact hret _ _ _ _ _ rfl hP hS dJ7_fill_53178_20
      · have hi : i < N := zlt rfl (by omega) (by omega) c7
        refine lv_aload_n hx hb dJ7_fill_53178_10 rfl (lv_at hl 2 rfl) ?_
        refine lv_iload_n hx hb dJ7_fill_53178_11 rfl (lv_at hl 0 rfl) ?_
        refine lv_iload_n hx hb dJ7_fill_53178_12 rfl (lv_at hl 3 rfl) ?_
        refine zast (f := zfill i v f) (bs' := [[(a, .inl (G.2.1, N, .inl (upd (zfill i v f) (nI i).toNatClampNeg v)))]]) S hK hP hD hS 0 rfl 0 rfl (vp_in_nI hi (by omega)) rfl rfl dJ7_fill_53178_13 (fun H locs hP hD hS => ?_)
        rw [nI_clamp (by omega), zfill_s] at hP hD
        refine lv_iinc (v := nI (i + 1)) (lv' := [(2, .int (nI (i + 1))), (3, .int (nI N)), (0, .ref a), (1, .int v)]) hx hb dJ7_fill_53178_14 hl (k := 0) rfl (nI_1 i) (by decide) rfl (fun ls hl => ?_)
        refine lv_goto (tgt := 5) hx hb dJ7_fill_53178_17 (by decide) ?_
        exact ih (i + 1) H locs ls (by omega) (by omega) hP hD hS hl
  exact hB (N + 1) 0 _ _ ls (Nat.zero_le _) (by omega) (by rw [zfill_0]; exact hP) (by rw [zfill_0]; exact hD) hS (lv_sub hl [1, 0, 2, 3] rfl)
section ZFILL
variable {p : Program} {l : Launch} {e : Env} {R : Room} {s : State} {m : MethodId} {args : Array Value} {below : List Frame} {meth : Method} {c : Code} {H : Heap} {locs : List Loc} {cells slots : Nat} {Q : State → Prop}
variable {cc : ByteArray} {pc : Nat} {ls : Array Slot} {rest st0 : List Value} {G : zG} {A : Nat → Prop} {a : Nat} {bs bs' bsc bsc' : zB} {H0 : Heap} {nL : Nat} {Ts : List Cond} {own : String}
def zone (bs : zB) : zB := bs.flatten.map (fun q => [q])
theorem zone_flat (ws : va_W) : (ws.map (fun q => [q])).flatten = ws := by
  induction ws with
  | nil => rfl
  | cons x t ih => rw [List.map_cons, List.flatten_cons, ih]; rfl
theorem zfillC (S : CallFix p m c cc nL s args Ts own) {index : Nat} (cw : CallB R s args own index yJ7_fill_53178 cJ7_fill_53178 4 none wsJ7_fill_53178 rmJ7_fill_53178 0 0 2 ∧ (Cond.static yJ7_fill_53178).before args s = true) (hK : zK G s) (hP : zP G bs H) (hD : zD A bs) (hS : va_S A H0 H locs) (hA : ∀ q, H0.size ≤ q → A q) (i : Nat) {blk blk' : va_W} (hi : bs[i]? = some blk) (q0 : Nat) {n : Nat} {f : Nat → Int32} (ha : blk[q0]? = some (a, .inl (G.2.1, n, .inl f))) (hn : n ≤ 4096) {v : Int32}
    (hnew : blk.set q0 (a, .inl (G.2.1, n, .inl (zfill n v f))) = blk') (hbs : bs.set i blk' = bs') (hls : ls.size = nL) (hW : 2 * (F0 m pc ls rest).monitorRoom + (rest.map fun v => v.category).sum ≤ 8) (hdg : decode cc pc = .ok (.invokestatic index, 3))
    (kk : ∀ (H1 : Heap) (locs1 : List Loc), zP G bs' H1 → zD A bs' → va_S A H0 H1 locs1 → W p l e R s m args below meth c H1 locs1 cells slots Q (F0 m (pc + 3) ls rest)) : (hf : cells ≤ R.cells ∧ slots ≤ R.slots := by exact ⟨Nat.zero_le _, Nat.zero_le _⟩) → W p l e R s m args below meth c H locs cells slots Q (F0 m pc ls (.int v :: .ref a :: rest)) := by
  intro hf
  obtain ⟨k, hk1, hk2⟩ := zflat_at hi ha
  have hc := c_fill l G a n hn f v
  have e0 : (zone bs).flatten = bs.flatten := zone_flat _
  have hP1 : zP G (zone bs) H := zP.of (by rw [e0]; exact hP.flat)
  have hD1 : zD A (zone bs) := zD.of_flat (by rw [e0]; exact hD.flat)
  have hsub : [k].map (fun i => (zone bs)[i]?) = ([[(a, .inl (G.2.1, n, .inl f))]] : zB).map some := by
    simp only [List.map_cons, List.map_nil]
    unfold zone
    rw [List.getElem?_map, hk1]; rfl
  refine zgoV (bs' := (zone bs).set k [(a, .inl (G.2.1, n, .inl (zfill n v f)))]) hc [k] hsub rfl rfl hP1 hD1 hS hA (va_runS (As := [.ref a, .int v]) (rest := rest) S (hc.2 _) cw (zpS hK hP1 hD1 hsub rfl) rfl rfl hls rfl hW hdg hf) (fun H1 locs1 hP2 hD2 hS2 => ?_)
  have e1 : ((zone bs).set k [(a, .inl (G.2.1, n, .inl (zfill n v f)))]).flatten = bs'.flatten := by
    rw [← hbs, ← hnew, ← hk2]
    unfold zone
    have h9 : ((bs.flatten).map (fun q => [q])).set k [(a, .inl (G.2.1, n, .inl (zfill n v f)))] = ((bs.flatten).set k (a, .inl (G.2.1, n, .inl (zfill n v f)))).map (fun q => [q]) := List.map_set.symm
    rw [h9]
    exact zone_flat _
  refine kk H1 locs1 (zP.of ?_) (zD.of_flat ?_) hS2
  · rw [← e1]; exact hP2.flat
  · rw [← e1]; exact hD2.flat
end ZFILL
theorem zfld_lt {x k : Int32} {N n : Nat} (hx : x = nI N) (hN : N < 2 ^ 31) (hk : k = nI n) (hn : n < 2 ^ 31) (c : x < k) : vp_in x n := by
  rw [hx, hk, nI_ltI hN hn] at c
  rw [hx]
  exact vp_in_nI c hn
theorem zfld_nle {x k : Int32} {N n : Nat} (hx : x = nI N) (hN : N < 2 ^ 31) (hk : k = nI n) (hn : n < 2 ^ 31) (c : ¬ k ≤ x) : vp_in x n := by
  rw [hx, hk, nI_leI hn hN] at c
  rw [hx]
  exact vp_in_nI (by omega) hn
theorem znlt {k : Int32} {i n : Nat} (hk : k = nI n) (hi : i < 2 ^ 31) (hn : n < 2 ^ 31) (c : ¬ k < nI i) : i ≤ n := by
  rw [hk, nI_ltI hn hi] at c
  omega
theorem zlinL {k x y : Int32} {A B N : Nat} (c : Nat) (hk : k = nI c) (hx : vp_in x A) (hy : vp_in y B) (hA : A < 2 ^ 31) (hB : B < 2 ^ 31) (hN : N < 2 ^ 31) (h : c * (A - 1) + B ≤ N) : vp_in (k * x + y) N := by
  obtain ⟨i, hi, rfl⟩ := vp_in_of hx hA
  obtain ⟨j, hj, rfl⟩ := vp_in_of hy hB
  rw [hk, pk_mul, nI_add]
  refine vp_in_nI ?_ hN
  have : c * i ≤ c * (A - 1) := Nat.mul_le_mul_left c (by omega)
  omega
theorem zlinR {k x y : Int32} {A B N : Nat} (c : Nat) (hk : k = nI c) (hx : vp_in x A) (hy : vp_in y B) (hA : A < 2 ^ 31) (hB : B < 2 ^ 31) (hN : N < 2 ^ 31) (h : c * (A - 1) + B ≤ N) : vp_in (x * k + y) N := by
  obtain ⟨i, hi, rfl⟩ := vp_in_of hx hA
  obtain ⟨j, hj, rfl⟩ := vp_in_of hy hB
  rw [hk, pk_mul, nI_add, Nat.mul_comm]
  refine vp_in_nI ?_ hN
  have : c * i ≤ c * (A - 1) := Nat.mul_le_mul_left c (by omega)
  omega
theorem zaddL {k y : Int32} {B N : Nat} (c : Nat) (hk : k = nI c) (hy : vp_in y B) (hB : B < 2 ^ 31) (hN : N < 2 ^ 31) (h : c + B ≤ N) : vp_in (k + y) N := by
  obtain ⟨j, hj, rfl⟩ := vp_in_of hy hB
  rw [hk, nI_add]
  exact vp_in_nI (by omega) hN
theorem zaddR {k y : Int32} {B N : Nat} (c : Nat) (hk : k = nI c) (hy : vp_in y B) (hB : B < 2 ^ 31) (hN : N < 2 ^ 31) (h : c + B ≤ N) : vp_in (y + k) N := by
  obtain ⟨j, hj, rfl⟩ := vp_in_of hy hB
  rw [hk, nI_add]
  exact vp_in_nI (by omega) hN
theorem zup {x : Int32} {A B : Nat} (h : vp_in x A) (hA : A ≤ B) : vp_in x B := fun q => h (q.imp id (fun z => Nat.le_trans hA z))
theorem znpred {r : Nat} (h : 0 < r) : nI r + (-1) = nI (r - 1) := by
  obtain ⟨q, rfl⟩ : ∃ q, r = q + 1 := ⟨r - 1, by omega⟩
  rw [pk_m1, Nat.add_sub_cancel]
theorem znpos {r : Nat} (c : ¬ nI r ≤ 0) : 0 < r := by
  rcases Nat.eq_zero_or_pos r with h | h
  · subst h
    exact absurd (by decide) c
  · exact h
theorem znext {x k : Int32} {n : Nat} (h : ∃ L : Nat, L ≤ n ∧ x = nI L) (hk : k = nI n) (hn : n < 2 ^ 31) (c : ¬ k ≤ x) : ∃ L : Nat, L ≤ n ∧ x + 1 = nI L := by
  obtain ⟨L, hL, rfl⟩ := h
  rw [hk, nI_leI hn (by omega)] at c
  exact ⟨L + 1, by omega, nI_1 L⟩
theorem z5_0 {x : Int32} (h : ∃ N : Nat, N ≤ 11 ∧ x = nI N) : vp_in (5 * x) 60 := by
  obtain ⟨N, h1, rfl⟩ := h
  rw [show (5 : Int32) = nI 5 from rfl, pk_mul]
  exact vp_in_nI (by omega) (by decide)
theorem z5 {x k : Int32} {n : Nat} (hk : k = nI n) (hn : n < 5) (h : ∃ N : Nat, N ≤ 11 ∧ x = nI N) : vp_in (5 * x + k) 60 := by
  obtain ⟨N, h1, rfl⟩ := h
  rw [show (5 : Int32) = nI 5 from rfl, hk, pk_mul, nI_add]
  exact vp_in_nI (by omega) (by decide)
theorem zd11 {x : Int32} (h : ∃ N : Nat, N ≤ 12 ∧ x = nI N) (c : ¬ x = 12) : ∃ N : Nat, N ≤ 11 ∧ x = nI N := by
  obtain ⟨N, h1, rfl⟩ := h
  refine ⟨N, ?_, rfl⟩
  rcases Nat.lt_or_ge N 12 with q | q
  · omega
  · have : N = 12 := by omega
    subst this
    exact absurd rfl c
theorem zdm {x : Int32} (h : ∃ N : Nat, N ≤ 12 ∧ x = nI N) (c : ¬ x = 0) : ∃ N : Nat, N ≤ 11 ∧ x - 1 = nI N := by
  obtain ⟨N, h1, rfl⟩ := h
  rcases Nat.eq_zero_or_pos N with q | q
  · subst q
    exact absurd (by decide) c
  · exact ⟨N - 1, by omega, by rw [show (1 : Int32) = nI 1 from rfl, pk_sub (by omega)]⟩
def zTp (len q : Int32) : Prop := ∃ L a : Nat, L ≤ 120 ∧ a ≤ L ∧ len = nI L ∧ q = nI a
theorem zTp_in {len q : Int32} (h : zTp len q) (c : ¬ len ≤ q) : vp_in q 120 := by
  obtain ⟨L, a, h1, h2, rfl, rfl⟩ := h
  rw [nI_leI (by omega) (by omega)] at c
  exact vp_in_nI (by omega) (by decide)
theorem zTp_in1 {len q : Int32} (h : zTp len q) (c : ¬ len ≤ q + 1) : vp_in (q + 1) 120 := by
  obtain ⟨L, a, h1, h2, rfl, rfl⟩ := h
  rw [nI_1, nI_leI (by omega) (by omega)] at c
  rw [nI_1]
  exact vp_in_nI (by omega) (by decide)
theorem zTp_s {len q : Int32} (h : zTp len q) (c : ¬ len ≤ q) : zTp len (q + 1) := by
  obtain ⟨L, a, h1, h2, rfl, rfl⟩ := h
  rw [nI_leI (by omega) (by omega)] at c
  exact ⟨L, a + 1, h1, by omega, rfl, nI_1 a⟩
theorem zchg {f : Nat → Int32} {x : Int32} (h : ∀ j : Nat, j < 12 → ¬ f (5 * j) = 0 → ¬ f (5 * j) = 1 → vp_in (f (5 * j + 1)) 16) (hd : ∃ N : Nat, N ≤ 11 ∧ x = nI N) : ¬ f (5 * x).toNatClampNeg = 0 → ¬ f (5 * x).toNatClampNeg = 1 → vp_in (f (5 * x + 1).toNatClampNeg) 16 := by
  obtain ⟨N, h1, rfl⟩ := hd
  have e1 : (5 * nI N).toNatClampNeg = 5 * N := by
    rw [show (5 : Int32) = nI 5 from rfl, pk_mul, nI_clamp (by omega)]
  have e2 : (5 * nI N + 1).toNatClampNeg = 5 * N + 1 := by
    rw [show (5 : Int32) = nI 5 from rfl, pk_mul, nI_1, nI_clamp (by omega)]
  rw [e1, e2]
  exact h N (by omega)

