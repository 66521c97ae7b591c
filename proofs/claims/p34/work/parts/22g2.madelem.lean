theorem zrem3 (x : Int32) : ∃ N : Nat, N ≤ 2 ∧ (x.toUInt32 >>> ((11 : Int32).toUInt32 &&& Int32.toUInt32 31)).toInt32 - (x.toUInt32 >>> ((11 : Int32).toUInt32 &&& Int32.toUInt32 31)).toInt32 / 3 * 3 = nI N := by
  obtain ⟨j, hj, e⟩ := zush (x := x) (s := 11) (k := 11) (by decide) (by decide)
  rw [e]
  exact ⟨j % 3, by omega, pk_rem (d := 3) hj (by decide) (by decide)⟩
theorem znext16 {c : Int32} (h : ∃ N : Nat, N ≤ 16 ∧ c = nI N) (hc : c < 16) : ∃ N : Nat, N ≤ 16 ∧ c + 1 = nI N := by
  obtain ⟨N, hN, e⟩ := h
  rw [e, show (16 : Int32) = nI 16 from rfl, nI_ltI (by omega) (by decide)] at hc
  exact ⟨N + 1, by omega, by rw [e, nI_1]⟩
theorem zne1 {x : Int32} (h : ¬ x ≤ 1) : ¬ x = 0 := fun e => h (by rw [e]; decide)
theorem zsgX_rule {rc_isSettled : Int32} {c_kind : Nat → Int32} {c_head : Nat → Int32} {c_body : Nat → Int32} {c_excepts : Nat → Int32} {c_power : Nat → Int32} {c_beats : Nat → Int32} {c_facts : Int32} {c_size : Int32} {c_shut : Int32} {hi_sg : Nat → Nat} {hi_y : Nat → S0} {hi_D : Nat} {hi_un : Int32} {x1 : Int32} {x2 : Int32} {x3 : Int32} {x4 : Int32} {x5 : Int32} (h : ∀ j : Nat, j < 13 → hi_sg j < 13) : ∀ j : Nat, j < 13 → (FX8_rule rc_isSettled c_kind c_head c_body c_excepts c_power c_beats c_facts c_size c_shut hi_sg hi_y hi_D hi_un x1 x2 x3 x4 x5).2.2.2.2.2.2.2.2.2.1 j < 13 := by
  unfold FX8_rule FX8_rule_52 FX8_changed FX1_keep FX0_add
  simp only [bnd]
  repeat' split
  all_goals first | exact h | exact zkS_lt h

theorem zdX_rule {rc_isSettled : Int32} {c_kind : Nat → Int32} {c_head : Nat → Int32} {c_body : Nat → Int32} {c_excepts : Nat → Int32} {c_power : Nat → Int32} {c_beats : Nat → Int32} {c_facts : Int32} {c_size : Int32} {c_shut : Int32} {hi_sg : Nat → Nat} {hi_y : Nat → S0} {hi_D : Nat} {hi_un : Int32} {x1 : Int32} {x2 : Int32} {x3 : Int32} {x4 : Int32} {x5 : Int32} (h : hi_D ≤ 12) : (FX8_rule rc_isSettled c_kind c_head c_body c_excepts c_power c_beats c_facts c_size c_shut hi_sg hi_y hi_D hi_un x1 x2 x3 x4 x5).2.2.2.2.2.2.2.2.2.2.2.1 ≤ 12 := by
  unfold FX8_rule FX8_rule_52 FX8_changed FX1_keep FX0_add
  simp only [bnd]
  repeat' split
  all_goals first | exact h | exact zkD_le h

theorem zszX_rule {rc_isSettled : Int32} {c_kind : Nat → Int32} {c_head : Nat → Int32} {c_body : Nat → Int32} {c_excepts : Nat → Int32} {c_power : Nat → Int32} {c_beats : Nat → Int32} {c_facts : Int32} {c_size : Int32} {c_shut : Int32} {hi_sg : Nat → Nat} {hi_y : Nat → S0} {hi_D : Nat} {hi_un : Int32} {x1 : Int32} {x2 : Int32} {x3 : Int32} {x4 : Int32} {x5 : Int32} (h : ∃ N : Nat, N ≤ 16 ∧ c_size = nI N) : ∃ N : Nat, N ≤ 16 ∧ (FX8_rule rc_isSettled c_kind c_head c_body c_excepts c_power c_beats c_facts c_size c_shut hi_sg hi_y hi_D hi_un x1 x2 x3 x4 x5).2.2.2.2.2.2.2.2.1 = nI N := by
  unfold FX8_rule FX8_rule_52 FX8_changed FX1_keep FX0_add
  simp only [bnd]
  repeat' split
  all_goals first | exact h | exact znext16 h (by assumption)

theorem zsgX_off {rc_isSettled : Int32} {c_kind : Nat → Int32} {c_head : Nat → Int32} {c_body : Nat → Int32} {c_excepts : Nat → Int32} {c_power : Nat → Int32} {c_beats : Nat → Int32} {c_facts : Int32} {c_size : Int32} {c_shut : Int32} {hi_sg : Nat → Nat} {hi_y : Nat → S0} {hi_D : Nat} {hi_un : Int32} {x1 : Int32} {x2 : Int32} (h : ∀ j : Nat, j < 13 → hi_sg j < 13) : ∀ j : Nat, j < 13 → (FX8_off rc_isSettled c_kind c_head c_body c_excepts c_power c_beats c_facts c_size c_shut hi_sg hi_y hi_D hi_un x1 x2).2.2.2.1 j < 13 := by
  unfold FX8_off FX8_changed FX1_keep
  simp only [bnd]
  repeat' split
  all_goals first | exact h | exact zkS_lt h

theorem zdX_off {rc_isSettled : Int32} {c_kind : Nat → Int32} {c_head : Nat → Int32} {c_body : Nat → Int32} {c_excepts : Nat → Int32} {c_power : Nat → Int32} {c_beats : Nat → Int32} {c_facts : Int32} {c_size : Int32} {c_shut : Int32} {hi_sg : Nat → Nat} {hi_y : Nat → S0} {hi_D : Nat} {hi_un : Int32} {x1 : Int32} {x2 : Int32} (h : hi_D ≤ 12) : (FX8_off rc_isSettled c_kind c_head c_body c_excepts c_power c_beats c_facts c_size c_shut hi_sg hi_y hi_D hi_un x1 x2).2.2.2.2.2.1 ≤ 12 := by
  unfold FX8_off FX8_changed FX1_keep
  simp only [bnd]
  repeat' split
  all_goals first | exact h | exact zkD_le h

theorem zsgX_over {rc_isSettled : Int32} {c_kind : Nat → Int32} {c_head : Nat → Int32} {c_body : Nat → Int32} {c_excepts : Nat → Int32} {c_power : Nat → Int32} {c_beats : Nat → Int32} {c_facts : Int32} {c_size : Int32} {c_shut : Int32} {hi_sg : Nat → Nat} {hi_y : Nat → S0} {hi_D : Nat} {hi_un : Int32} {x1 : Int32} {x2 : Int32} {x3 : Int32} (h : ∀ j : Nat, j < 13 → hi_sg j < 13) : ∀ j : Nat, j < 13 → (FX8_over rc_isSettled c_kind c_head c_body c_excepts c_power c_beats c_facts c_size c_shut hi_sg hi_y hi_D hi_un x1 x2 x3).2.2.2.1 j < 13 := by
  unfold FX8_over FX8_over_60 FX8_changed FX1_keep
  simp only [bnd]
  repeat' split
  all_goals first | exact h | exact zkS_lt h

theorem zdX_over {rc_isSettled : Int32} {c_kind : Nat → Int32} {c_head : Nat → Int32} {c_body : Nat → Int32} {c_excepts : Nat → Int32} {c_power : Nat → Int32} {c_beats : Nat → Int32} {c_facts : Int32} {c_size : Int32} {c_shut : Int32} {hi_sg : Nat → Nat} {hi_y : Nat → S0} {hi_D : Nat} {hi_un : Int32} {x1 : Int32} {x2 : Int32} {x3 : Int32} (h : hi_D ≤ 12) : (FX8_over rc_isSettled c_kind c_head c_body c_excepts c_power c_beats c_facts c_size c_shut hi_sg hi_y hi_D hi_un x1 x2 x3).2.2.2.2.2.1 ≤ 12 := by
  unfold FX8_over FX8_over_60 FX8_changed FX1_keep
  simp only [bnd]
  repeat' split
  all_goals first | exact h | exact zkD_le h

theorem zsgX_fact {rc_isSettled : Int32} {c_kind : Nat → Int32} {c_head : Nat → Int32} {c_body : Nat → Int32} {c_excepts : Nat → Int32} {c_power : Nat → Int32} {c_beats : Nat → Int32} {c_facts : Int32} {c_size : Int32} {c_shut : Int32} {hi_sg : Nat → Nat} {hi_y : Nat → S0} {hi_D : Nat} {hi_un : Int32} {x1 : Int32} {x2 : Int32} (h : ∀ j : Nat, j < 13 → hi_sg j < 13) : ∀ j : Nat, j < 13 → (FX8_fact rc_isSettled c_kind c_head c_body c_excepts c_power c_beats c_facts c_size c_shut hi_sg hi_y hi_D hi_un x1 x2).2.2.2.1 j < 13 := by
  unfold FX8_fact FX8_changed FX1_keep
  simp only [bnd]
  repeat' split
  all_goals first | exact h | exact zkS_lt h

theorem zdX_fact {rc_isSettled : Int32} {c_kind : Nat → Int32} {c_head : Nat → Int32} {c_body : Nat → Int32} {c_excepts : Nat → Int32} {c_power : Nat → Int32} {c_beats : Nat → Int32} {c_facts : Int32} {c_size : Int32} {c_shut : Int32} {hi_sg : Nat → Nat} {hi_y : Nat → S0} {hi_D : Nat} {hi_un : Int32} {x1 : Int32} {x2 : Int32} (h : hi_D ≤ 12) : (FX8_fact rc_isSettled c_kind c_head c_body c_excepts c_power c_beats c_facts c_size c_shut hi_sg hi_y hi_D hi_un x1 x2).2.2.2.2.2.1 ≤ 12 := by
  unfold FX8_fact FX8_changed FX1_keep
  simp only [bnd]
  repeat' split
  all_goals first | exact h | exact zkD_le h

theorem zk2 {i : Nat} (h : i < 1000) : ∃ k : Nat, k < 2 ^ 31 ∧ 2 * nI i = nI k := ⟨2 * i, by omega, pk_mul 2 i⟩
theorem zk21 {i : Nat} (h : i < 1000) : ∃ k : Nat, k < 2 ^ 31 ∧ 2 * nI i + 1 = nI k := ⟨2 * i + 1, by omega, by rw [show 2 * nI i = nI (2 * i) from pk_mul 2 i]; exact nI_add (2 * i) 1⟩
theorem zk2x {x : Int32} {N i : Nat} (hx : x = nI N) (hN : N ≤ 10) (h : i < 1000) : ∃ k : Nat, k < 2 ^ 31 ∧ 2 * x + nI i = nI k := ⟨2 * N + i, by omega, by rw [hx, show 2 * nI N = nI (2 * N) from pk_mul 2 N]; exact nI_add (2 * N) i⟩
theorem zk24 {x : Int32} {N : Nat} (hx : x = nI N) (hN : N ≤ 10) : ∃ k : Nat, k < 2 ^ 31 ∧ 2 * x + 4 = nI k := ⟨2 * N + 4, by omega, by rw [hx, show 2 * nI N = nI (2 * N) from pk_mul 2 N]; exact nI_add (2 * N) 4⟩
def rmL_cell : Room := { frames := 0, cells := 0, slots := 0, locals := 0 }
def rmL_made : Room := { frames := 5, cells := 163, slots := 4896, locals := 130 }
/-- a script of ints lies at b -/
def zXp (b L : Nat) (xs : Nat → Int32) (U : State) : Prop := va_X b L xs U U.heap ∧ b < U.heap.size
theorem c_L_cell (l : Launch) {b L : Nat} {xs : Nat → Int32} (hL : L < 2 ^ 31) {k : Nat} (hk : k < 2 ^ 31) {v : Int32} (hv : (if k < L then xs k else 40503 * nI k) = v) : Met l yL_cell wsL_cell rmL_cell (va_Pc [.ref b, .int (nI k)] (zXp b L xs)) (vp_Si (fun r' => r' = v ∧ narrow .int (.int r') = .int r')) 0 0 (fun _ => False) := by
  refine Met.ofW (cc := cL_cell) (maxL := 2) (ret := some .int) (by decide +kernel) rfl ?_
  intro p e s m args below meth c s₁ B hml hv0
  obtain ⟨rfl, hX, hbl⟩ := hv0
  have hx := B.exec
  have hb := B.bytes
  have hr := B.returns
  have hts := atoms_spec (ws := wsL_cell) B.pre
  have hown : s.vm.findClass RL = some m.cls := findClass_of_methodNamed B.named
  have hlocks := B.notSynchronized
  have hl := lv_entry ([.ref b, .int (nI k)]) (n := 2) (Nat.le_of_ble_eq_true rfl)
  rw [lg_entry_eq]
  generalize (lg_sl ([.ref b, .int (nI k)]) ++ List.replicate (2 - (lg_sl ([.ref b, .int (nI k)])).length) Slot.unset).toArray = ls at hl ⊢
  have hl : lv_has ls 2 [(0, .ref b), (1, .int (nI k))] := hl
  have hS : va_S (fun _ => False) s.heap s.heap [] := va_S.rf
  refine lv_iload_n hx hb dL_cell_0 rfl (lv_at hl 1 rfl) ?_
  refine lv_aload_n hx hb dL_cell_1 rfl (lv_at hl 0 rfl) ?_
  refine va_slen (A := fun _ => False) hx hb hX hbl (fun h => h) hS dL_cell_2 ?_
  refine lv_icmp_ge (tgt := 12) hx hb dL_cell_3 (by decide) (fun c3 => ?_) (fun c3 => ?_)
  · have hkL : ¬ k < L := fun h => nI_ge h hL c3
    rw [if_neg hkL] at hv
    subst hv
    refine lv_ldc (v := 40503) hx hb hown (hts (.constant RL 7 (40503)) (by decide +kernel)) dL_cell_12 ?_
    refine lv_iload_n hx hb dL_cell_14 rfl (lv_at hl 1 rfl) ?_
    refine lv_imul hx hb dL_cell_15 ?_
    exact W.zret hx hb hr rfl (fun t ht hW => ⟨_, rfl, ⟨rfl, rfl⟩, ht⟩) (fun q hq => by cases hq) dL_cell_16
  · have hkL : k < L := by
      rcases Nat.lt_or_ge k L with h | h
      · exact h
      · exact absurd (nI_le h hk) c3
    rw [if_pos hkL] at hv
    subst hv
    refine lv_aload_n hx hb dL_cell_6 rfl (lv_at hl 0 rfl) ?_
    refine lv_iload_n hx hb dL_cell_7 rfl (lv_at hl 1 rfl) ?_
    refine va_sld (A := fun _ => False) hx hb hX hbl (fun h => h) hS (vp_in_nI hkL hL) dL_cell_8 ?_
    refine lv_goto (tgt := 16) hx hb dL_cell_9 (by decide) ?_
    rw [nI_clamp hk]
    exact W.zret hx hb hr rfl (fun t ht hW => ⟨_, rfl, ⟨rfl, rfl⟩, ht⟩) (fun q hq => by cases hq) dL_cell_16
section ZCELL
variable {p : Program} {l : Launch} {e : Env} {R : Room} {s : State} {m : MethodId} {args : Array Value} {below : List Frame} {meth : Method} {c : Code} {H : Heap} {locs : List Loc} {cells slots : Nat} {Q : State → Prop}
variable {cc : ByteArray} {pc : Nat} {ls : Array Slot} {A : Nat → Prop} {nL : Nat} {Ts : List Cond} {own : String} {b L : Nat} {xs sc : Nat → Int32}
theorem zX_pre {As : List Value} (hX : va_X b L xs s s.heap) (hbl : b < s.heap.size) (hbA : ¬ A b) (hS : va_S A s.heap H locs) : PreS s H (va_Pc As (zXp b L xs)) As :=
  ⟨fun a U g mk z => ⟨z.1, va_X.moved (Vm.Alike.refl _) z.2.1, z.2.2⟩, fun U hU hW => ⟨rfl, by rw [hU]; exact (hX.kept (hS.2.1 b hbl hbA)).moved hW.alike, by rw [hU]; exact Nat.lt_of_lt_of_le hbl hS.1⟩⟩
theorem zcell (S : CallFix p m c cc nL s args Ts own) (hL : L < 2 ^ 31) (hX : va_X b L xs s s.heap) (hbl : b < s.heap.size) (hbA : ¬ A b) (hS : va_S A s.heap H locs) (hls : ls.size = nL) (hsc : ∀ j : Nat, sc j = if j < L then xs j else 40503 * nI j) {x : Int32} (hk : ∃ k : Nat, k < 2 ^ 31 ∧ x = nI k) (hg : GoodIn Ts (va_wsS own 11 yL_cell wsL_cell)) (hR : 1 ≤ R.frames ∧ 21 ≤ R.locals) (hf : cells ≤ R.cells ∧ slots ≤ R.slots) (hdg : decode cc pc = .ok (.invokestatic 11, 3))
    (kk : W p l e R s m args below meth c H locs cells slots Q (F0 m (pc + 3) ls [.int (sc x.toNatClampNeg)])) : W p l e R s m args below meth c H locs cells slots Q (F0 m pc ls [.int x, .ref b]) := by
  obtain ⟨k, hk, rfl⟩ := hk
  rw [nI_clamp hk] at kk
  exact zgoR (va_runS (As := [.ref b, .int (nI k)]) (rest := []) S (c_L_cell l hL hk (hsc k).symm) (va_cwS 2 S.2.2.2.2 hg rfl rfl rfl (by decide +kernel) hR) (zX_pre hX hbl hbA hS) rfl rfl hls rfl (lv_room (Nat.le_of_ble_eq_true rfl)) hdg hf) (fun _ => kk)
end ZCELL
