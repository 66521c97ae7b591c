/-! constructors: a new object with all that its constructor makes -/
def zad (q : List Nat) : Nat → Nat := fun k => q.getD k 0
def zNpre (G : zG) (q ci : Nat) (fs : List Value) (sz : Nat) (U : State) : Prop := U.heap.size = sz ∧ va_P G.1 vwCl [(q, .inr (ci, fs))] U.heap ∧ zK G U ∧ va_D (fun _ => True) [(q, .inr (ci, fs))]
/-- the contract of a constructor: it makes mc cells of ms slots; the object and what it holds are a world that P tells of -/
def zNew (l : Launch) (y : MethodName) (ws : List Cond) (rm : Room) (G : zG) (ci : Nat) (fs : List Value) (mc ms : Nat) (P : Nat → va_W → Prop) : Prop :=
  ∀ q sz : Nat, Met l y ws rm (va_Pc [.ref q] (zNpre G q ci fs sz)) (va_Qv (fun _ : Unit => True) (fun _ t => ∃ w : va_W, P q w ∧ va_P G.1 vwCl w t.heap ∧ va_D (va_A [(q, .inr (ci, fs))] sz) w) (va_A [(q, .inr (ci, fs))] sz)) mc ms (va_A [(q, .inr (ci, fs))] sz)
theorem zpre_left {D : va_G} {cl : List vw_C} {a b : va_W} {H : Heap} (h : va_P D cl (a ++ b) H) : va_P D cl a H := fun k x hk => h k x (by
  rw [List.getElem?_append_left (List.getElem?_eq_some_iff.mp hk).1]
  exact hk)
theorem zdis_left {A : Nat → Prop} {a b : va_W} (h : va_D A (a ++ b)) : va_D A a := by
  have e : ∀ (k : Nat) (x : Nat × va_E), a[k]? = some x → (a ++ b)[k]? = some x := fun k x hk => by
    rw [List.getElem?_append_left (List.getElem?_eq_some_iff.mp hk).1]
    exact hk
  exact ⟨fun i j p q hp hq hpq => h.1 i j p q (e i p hp) (e j q hq) hpq, fun k q hk => h.2 k q (e k q hk)⟩
section ZCT
variable {p : Program} {l : Launch} {e : Env} {R : Room} {s : State} {m : MethodId} {args : Array Value} {below : List Frame} {meth : Method} {c : Code} {H : Heap} {locs : List Loc} {cells slots : Nat} {Q : State → Prop}
variable {cc : ByteArray} {pc : Nat} {ls : Array Slot} {rest : List Value} {G : zG} {A : Nat → Prop} {ws : va_W} {nL : Nat} {Ts : List Cond} {own : String} {H0 : Heap}
theorem zc_newa (S : CallFix p m c cc nL s args Ts own) (harr : Cond.arrayClass .int ∈ Ts) (hK : zK G s) (hP : va_P G.1 vwCl ws H) (hD : va_D A ws) (hS : va_S A H0 H locs) (hA : ∀ q, H0.size ≤ q → A q) {n : Int32} {N : Nat} (hn : n = nI N) (hN : N ≤ 100000) (hcells : cells + 1 ≤ R.cells) (hslots : slots + N ≤ R.slots) (hdg : decode cc pc = .ok (.newarray .int, 2))
    (kk : ∀ (q : Nat) (H1 : Heap), va_P G.1 vwCl (ws ++ [(q, .inl (G.2.1, N, .inl (fun _ => 0)))]) H1 → va_D A (ws ++ [(q, .inl (G.2.1, N, .inl (fun _ => 0)))]) → va_S A H0 H1 locs → W p l e R s m args below meth c H1 locs (cells + 1) (slots + N) Q (F0 m (pc + 2) ls (.ref q :: rest))) : W p l e R s m args below meth c H locs cells slots Q (F0 m pc ls (.int n :: rest)) := by
  subst hn
  refine va_newa (atype := .int) (ty := .int) (N' := N) (a0 := (N, .inl (fun _ => 0))) S.1 S.2.1 (S.2.2.2.2 _ harr) rfl hK.1 hP hD hS hA (fun cA => rfl) (nI_pos (by omega)) (nI_clamp (by omega)) (by show N * 4 ≤ 536870912; omega) hcells hslots hdg (fun q cA H1 hK1 hP1 hD1 hS1 => ?_)
  have e1 : s.vm.findClass ("[" ++ FieldType.int.toString) = some cA := (hK1.2 3 (cA, .int) rfl).2
  have e2 : s.vm.findClass ("[" ++ FieldType.int.toString) = some G.2.1 := (hK.1.2 0 (G.2.1, .int) rfl).2
  have e3 : cA = G.2.1 := Option.some.inj (e1.symm.trans e2)
  subst e3
  exact kk q H1 hP1 hD1 hS1
theorem zc_behind {q ci mc ms : Nat} {fs : List Value} {P : Nat → va_W → Prop} {H1 : Heap} {locs1 : List Loc} {a0 : Array Value} {st0 : List Value} {pc0 : Nat}
    (hr : va_Run p l e R s m args below meth c H locs cells slots mc ms (F0 m pc0 ls st0) rest (va_Qv (fun _ : Unit => True) (fun _ t => ∃ w : va_W, P q w ∧ va_P G.1 vwCl w t.heap ∧ va_D (va_A [(q, .inr (ci, fs))] H.size) w) (va_A [(q, .inr (ci, fs))] H.size) a0) (va_A [(q, .inr (ci, fs))] H.size))
    (hP : va_P G.1 vwCl (ws ++ [(q, .inr (ci, fs))]) H) (hD : va_D A (ws ++ [(q, .inr (ci, fs))])) (hS : va_S A H0 H locs) (hA : ∀ q, H0.size ≤ q → A q)
    (kk : ∀ (w : va_W) (H1 : Heap) (locs1 : List Loc), P q w → va_P G.1 vwCl (ws ++ w) H1 → va_D A (ws ++ w) → va_S A H0 H1 locs1 → W p l e R s m args below meth c H1 locs1 (cells + mc) (slots + ms) Q (F0 m (pc0 + 3) ls rest)) : W p l e R s m args below meth c H locs cells slots Q (F0 m pc0 ls st0) := by
  have hlen : (ws ++ [((q, .inr (ci, fs)) : Nat × va_E)])[ws.length]? = some (q, .inr (ci, fs)) := by simp
  have hF := va_free (wc := [(q, .inr (ci, fs))]) hD hS hA [ws.length] (by simp)
  refine va_callv hr hS (fun x _ h => hF x h) hF (fun u t H2 locs2 ht hvm hw hB hz hk hS2 => ?_)
  obtain ⟨w, hPw, hP2, hD2⟩ := hB
  rw [ht] at hP2
  have hold : ∀ (k : Nat) (x : Nat × va_E), ws[k]? = some x → x.1 < H.size ∧ ¬ va_A [((q, .inr (ci, fs)) : Nat × va_E)] H.size x.1 := fun k x hx => by
    have hkl : k < ws.length := (List.getElem?_eq_some_iff.mp hx).1
    have hx2 : (ws ++ [((q, .inr (ci, fs)) : Nat × va_E)])[k]? = some x := by rw [List.getElem?_append_left hkl]; exact hx
    have hlt := (hP k x hx2).lt
    refine ⟨hlt, fun h => ?_⟩
    rcases h with ⟨k2, e2, h2⟩ | h2
    · have hk2 : k2 < 1 := (List.getElem?_eq_some_iff.mp h2).1
      rw [show k2 = 0 by omega] at h2
      have e3 : q = x.1 := by
        have := Option.some.inj h2
        exact congrArg Prod.fst this
      have := hD.1 k ws.length x _ hx2 hlen e3.symm
      omega
    · omega
  refine kk w H2 locs2 hPw (((zpre_left hP).kept (fun k x hx => hk x.1 (hold k x hx).1 (hold k x hx).2)).app hP2) (va_D.app (zdis_left hD) (hD2.weaken (fun k x _ h => hF x.1 h)) (fun i j x y hx hy hxy => (hold i x hx).2 (by rw [hxy]; exact hD2.2 j y hy))) hS2
theorem zc_pre {q ci : Nat} {fs : List Value} (hK : zK G s) (hP : va_P G.1 vwCl (ws ++ [(q, .inr (ci, fs))]) H) : PreS s H (va_Pc [.ref q] (zNpre G q ci fs H.size)) [.ref q] := by
  have hP1 : va_P G.1 vwCl [(q, .inr (ci, fs))] H := fun k x hx => by
    have hk : k < 1 := (List.getElem?_eq_some_iff.mp hx).1
    obtain rfl : k = 0 := by omega
    exact hP ws.length x (by rw [List.getElem?_append_right (Nat.le_refl _), Nat.sub_self]; exact hx)
  have hD1 : va_D (fun _ => True) [((q, .inr (ci, fs)) : Nat × va_E)] := ⟨fun i j x y hx hy _ => by
    have hi : i < 1 := (List.getElem?_eq_some_iff.mp hx).1
    have hj : j < 1 := (List.getElem?_eq_some_iff.mp hy).1
    omega, fun _ _ _ => trivial⟩
  exact ⟨fun a U g mk z => by obtain ⟨z0, z1, zP, zK1, zD1⟩ := z; exact ⟨z0, z1, zP, zK1.calling, zD1⟩, fun U hU hW => ⟨rfl, by rw [hU], by rw [hU]; exact hP1, hK.warm hW, hD1⟩⟩
/-- new C(): the private or nested one -/
theorem zc_newN (S : CallFix p m c cc nL s args Ts own) {C host : String} {T : u_T} {N ci index index2 maxL mc ms : Nat} {fs : List Value} {y : MethodName} {wsy : List Cond} {rm : Room} {bytes : ByteArray} {P : Nat → va_W → Prop} (hin : ∀ w ∈ u_ws C T N, w ∈ Ts) (ty : Nat → FieldType) (hty : ∀ k, k < N → parseFieldDescriptor (T k).2.2.1 = some (ty k)) (hcl : Cond.classLink own index C ∈ Ts) (hinst : Cond.instantiable C N ∈ Ts) (hini : Cond.initialized C ∈ Ts) (hK : zK G s) (hP : va_P G.1 vwCl ws H) (hD : va_D A ws) (hS : va_S A H0 H locs) (hA : ∀ q, H0.size ≤ q → A q) (hc : vwCl[ci]? = some (C, T, N)) (hfs : ∀ j, j < N → defaultValue (ty j) = vp_V fs j)
    (hM : zNew l y wsy rm G ci fs mc ms P) (cw : va_CN R s args own index2 y host bytes maxL none wsy rm mc ms 0 ∧ y.name = "<init>" ∧ (Cond.instanceMethod y).before args s = true) (hsz : ls.size = nL) (hst : 1 + (rest.map fun v => v.category).sum ≤ 8) (hcells : cells + 1 + mc ≤ R.cells) (hslots : slots + N + ms ≤ R.slots) (hd1 : decode cc pc = .ok (.new index, 3)) (hd2 : decode cc (pc + 3) = .ok (.dup, 1)) (hd3 : decode cc (pc + 4) = .ok (.invokespecial index2, 3))
    (kk : ∀ (q : Nat) (w : va_W) (H1 : Heap) (locs1 : List Loc), P q w → va_P G.1 vwCl (ws ++ w) H1 → va_D A (ws ++ w) → va_S A H0 H1 locs1 → W p l e R s m args below meth c H1 locs1 (cells + 1 + mc) (slots + N + ms) Q (F0 m (pc + 7) ls (.ref q :: rest))) : W p l e R s m args below meth c H locs cells slots Q (F0 m pc ls rest) := by
  refine va_new S.1 S.2.1 S.2.2.2.2 hin ty hty S.2.2.2.1 (S.2.2.2.2 _ hcl) (S.2.2.2.2 _ hinst) (S.2.2.2.2 _ hini) hK.1 hP hD hS hA hc hfs (by omega) (by omega) hd1 (fun q H1 hP1 hD1 hS1 => ?_)
  refine lv_dup S.1 S.2.1 hd2 rfl ?_
  exact zc_behind (pc0 := pc + 4) (va_runIN (As := []) (rest := .ref q :: rest) S (hM q H1.size) cw (zc_pre hK hP1) rfl rfl hsz rfl (lv_room (by simpa [Value.category] using hst)) hd3 ⟨hcells, hslots⟩) hP1 hD1 hS1 hA (fun w H2 locs2 hw hP2 hD2 hS2 => kk q w H2 locs2 hw hP2 hD2 hS2)
/-- new C(): the other -/
theorem zc_newP (S : CallFix p m c cc nL s args Ts own) {C : String} {T : u_T} {N ci index index2 maxL mc ms : Nat} {fs : List Value} {y : MethodName} {wsy : List Cond} {rm : Room} {bytes : ByteArray} {P : Nat → va_W → Prop} (hin : ∀ w ∈ u_ws C T N, w ∈ Ts) (ty : Nat → FieldType) (hty : ∀ k, k < N → parseFieldDescriptor (T k).2.2.1 = some (ty k)) (hcl : Cond.classLink own index C ∈ Ts) (hinst : Cond.instantiable C N ∈ Ts) (hini : Cond.initialized C ∈ Ts) (hK : zK G s) (hP : va_P G.1 vwCl ws H) (hD : va_D A ws) (hS : va_S A H0 H locs) (hA : ∀ q, H0.size ≤ q → A q) (hc : vwCl[ci]? = some (C, T, N)) (hfs : ∀ j, j < N → defaultValue (ty j) = vp_V fs j)
    (hM : zNew l y wsy rm G ci fs mc ms P) (cw : CallB R s args own index2 y bytes maxL none wsy rm mc ms 0 ∧ y.name = "<init>" ∧ (Cond.instanceMethod y).before args s = true) (hsz : ls.size = nL) (hst : 1 + (rest.map fun v => v.category).sum ≤ 8) (hcells : cells + 1 + mc ≤ R.cells) (hslots : slots + N + ms ≤ R.slots) (hd1 : decode cc pc = .ok (.new index, 3)) (hd2 : decode cc (pc + 3) = .ok (.dup, 1)) (hd3 : decode cc (pc + 4) = .ok (.invokespecial index2, 3))
    (kk : ∀ (q : Nat) (w : va_W) (H1 : Heap) (locs1 : List Loc), P q w → va_P G.1 vwCl (ws ++ w) H1 → va_D A (ws ++ w) → va_S A H0 H1 locs1 → W p l e R s m args below meth c H1 locs1 (cells + 1 + mc) (slots + N + ms) Q (F0 m (pc + 7) ls (.ref q :: rest))) : W p l e R s m args below meth c H locs cells slots Q (F0 m pc ls rest) := by
  refine va_new S.1 S.2.1 S.2.2.2.2 hin ty hty S.2.2.2.1 (S.2.2.2.2 _ hcl) (S.2.2.2.2 _ hinst) (S.2.2.2.2 _ hini) hK.1 hP hD hS hA hc hfs (by omega) (by omega) hd1 (fun q H1 hP1 hD1 hS1 => ?_)
  refine lv_dup S.1 S.2.1 hd2 rfl ?_
  exact zc_behind (pc0 := pc + 4) (va_runI (As := []) (rest := .ref q :: rest) S (hM q H1.size) cw (zc_pre hK hP1) rfl rfl hsz rfl (lv_room (by simpa [Value.category] using hst)) hd3 ⟨hcells, hslots⟩) hP1 hD1 hS1 hA (fun w H2 locs2 hw hP2 hD2 hS2 => kk q w H2 locs2 hw hP2 hD2 hS2)
end ZCT
abbrev zz0 : S0 := (fun _ => 0, fun _ _ => 0)
abbrev zz2 : S2 := (fun _ => 0, fun _ _ => 0)
abbrev zz3 : S3 := (fun _ => 0, fun _ _ => 0)
abbrev zz4 : S4 := (fun _ => 0, fun _ _ => 0)
abbrev zz6 : S6 := (fun _ => 0, fun _ _ => 0)
abbrev zz7 : S7 := (fun _ => 0, fun _ _ => 0)
theorem in_ctor0 : ∀ w ∈ u_ws RX0 TX0 9, w ∈ wsX0_init := by decide +kernel
theorem zdf0 : ∀ j, j < 9 → defaultValue (tyX0 j) = vp_V [.null, .null, .null, .null, .null, .null, .int 0, .int 0, .int 0] j := by decide +kernel
def rmX0_init : Room := { frames := 1, cells := 6, slots := 96, locals := 12 }
set_option maxHeartbeats 4000000 in
set_option maxRecDepth 100000 in
theorem c_X0_init (l : Launch) (G : zG) : zNew l yX0_init wsX0_init rmX0_init G 0 [.null, .null, .null, .null, .null, .null, .int 0, .int 0, .int 0] 6 96 (fun q w => ∃ a : Nat → Nat, a 0 = q ∧ w = w0 G a zz0) := by
  intro h0 sz
  refine Met.ofW (cc := cX0_init) (maxL := 1) (ret := none) (by decide +kernel) rfl ?_
  intro p e s m args below meth c s₁ B hml hv
  obtain ⟨rfl, hsz, hP, hK, hD0⟩ := hv
  have hx := B.exec
  have hb := B.bytes
  have hr := B.returns
  have hts := atoms_spec (ws := wsX0_init) B.pre
  have hown : s.vm.findClass RX0 = some m.cls := findClass_of_methodNamed B.named
  have hlocks := B.notSynchronized
  have hin : meth.name = "<init>" := (name_of_methodNamed B.named B.method).1
  have S : CallFix p m c cX0_init 1 s _ wsX0_init RX0 := ⟨hx, hb, hml, hown, hts⟩
  subst hsz
  have hD := hD0.self (sz := s.heap.size)
  generalize hAe : va_A [((h0, .inr (0, [.null, .null, .null, .null, .null, .null, .int 0, .int 0, .int 0])) : Nat × va_E)] s.heap.size = A at hD ⊢
  have hA : ∀ q : Nat, s.heap.size ≤ q → A q := fun q h => by rw [← hAe]; exact Or.inr h
  have hS : va_S A s.heap s.heap [] := va_S.rf
  have hP : va_P G.1 vwCl [(h0, .inr (0, [.null, .null, .null, .null, .null, .null, .int 0, .int 0, .int 0]))] s.heap := hP
  have hl := lv_entry ([.ref h0]) (n := 1) (Nat.le_of_ble_eq_true rfl)
  rw [lg_entry_eq]
  generalize (lg_sl ([.ref h0]) ++ List.replicate (1 - (lg_sl ([.ref h0])).length) Slot.unset).toArray = ls at hl ⊢
  have hl : lv_has ls 1 [(0, .ref h0)] := hl
  refine lv_aload_n hx hb dX0_init_0 rfl (lv_at hl 0 rfl) ?_
  refine W.objInit hx hb hown (hts (.methodLink RX0 3 objectInit) (by decide +kernel)) (hts (.instanceMethod objectInit) (by decide +kernel)) (hts (.code objectInit ⟨#[0xb1]⟩ 1 none) (by decide +kernel)) rfl (by rw [hml]; exact hl.1) rfl dX0_init_1 (Nat.le_of_ble_eq_true rfl) (Nat.le_of_ble_eq_true rfl) ?_
  refine W.eq (g2 := F0 m 4 ls []) rfl ?_
  refine lv_aload_n hx hb dX0_init_4 rfl (lv_at hl 0 rfl) ?_
  refine lv_bipush (v := 16) hx hb dX0_init_5 (by decide) ?_
  refine zc_newa (N := 16) S (by decide +kernel) hK hP hD hS hA rfl (by decide) (Nat.le_of_ble_eq_true rfl) (Nat.le_of_ble_eq_true rfl) dX0_init_7 (fun q1 H hP hD hS => ?_)
  have hP : va_P G.1 vwCl ([(h0, .inr (0, [.null, .null, .null, .null, .null, .null, .int 0, .int 0, .int 0]))] ++ [(q1, .inl (G.2.1, 16, .inl (fun _ => 0)))]) H := hP
  have hD : va_D A ([(h0, .inr (0, [.null, .null, .null, .null, .null, .null, .int 0, .int 0, .int 0]))] ++ [(q1, .inl (G.2.1, 16, .inl (fun _ => 0)))]) := hD
  refine va_putF (D := G.1) (ci := 0) (v := .ref q1) (ty := .array .int) (C := RX0) (T := TX0) (N := 9) hx hb hts in_ctor0 tyX0 tyX0_ok nmX0 hown hK.1 hP hD hS 0 rfl rfl 0 (by decide) (hts (.fieldLink RX0 9 "RuleCourt$Court" "kind" "[I") (by decide +kernel)) (fun _ h9 => h9) rfl hin rfl rfl (by first | rfl | decide) rfl (Nat.le_of_ble_eq_true rfl) dX0_init_9 (fun H locs hP hD hS => ?_)
  have hP : va_P G.1 vwCl ([(h0, .inr (0, [.ref q1, .null, .null, .null, .null, .null, .int 0, .int 0, .int 0]))] ++ [(q1, .inl (G.2.1, 16, .inl (fun _ => 0)))]) H := hP
  have hD : va_D A ([(h0, .inr (0, [.ref q1, .null, .null, .null, .null, .null, .int 0, .int 0, .int 0]))] ++ [(q1, .inl (G.2.1, 16, .inl (fun _ => 0)))]) := hD
  refine lv_aload_n hx hb dX0_init_12 rfl (lv_at hl 0 rfl) ?_
  refine lv_bipush (v := 16) hx hb dX0_init_13 (by decide) ?_
  refine zc_newa (N := 16) S (by decide +kernel) hK hP hD hS hA rfl (by decide) (Nat.le_of_ble_eq_true rfl) (Nat.le_of_ble_eq_true rfl) dX0_init_15 (fun q2 H hP hD hS => ?_)
  have hP : va_P G.1 vwCl (([(h0, .inr (0, [.ref q1, .null, .null, .null, .null, .null, .int 0, .int 0, .int 0]))] ++ [(q1, .inl (G.2.1, 16, .inl (fun _ => 0)))]) ++ [(q2, .inl (G.2.1, 16, .inl (fun _ => 0)))]) H := hP
  have hD : va_D A (([(h0, .inr (0, [.ref q1, .null, .null, .null, .null, .null, .int 0, .int 0, .int 0]))] ++ [(q1, .inl (G.2.1, 16, .inl (fun _ => 0)))]) ++ [(q2, .inl (G.2.1, 16, .inl (fun _ => 0)))]) := hD
  refine va_putF (D := G.1) (ci := 0) (v := .ref q2) (ty := .array .int) (C := RX0) (T := TX0) (N := 9) hx hb hts in_ctor0 tyX0 tyX0_ok nmX0 hown hK.1 hP hD hS 0 rfl rfl 1 (by decide) (hts (.fieldLink RX0 15 "RuleCourt$Court" "head" "[I") (by decide +kernel)) (fun _ h9 => h9) rfl hin rfl rfl (by first | rfl | decide) rfl (Nat.le_of_ble_eq_true rfl) dX0_init_17 (fun H locs hP hD hS => ?_)
  have hP : va_P G.1 vwCl (([(h0, .inr (0, [.ref q1, .ref q2, .null, .null, .null, .null, .int 0, .int 0, .int 0]))] ++ [(q1, .inl (G.2.1, 16, .inl (fun _ => 0)))]) ++ [(q2, .inl (G.2.1, 16, .inl (fun _ => 0)))]) H := hP
  have hD : va_D A (([(h0, .inr (0, [.ref q1, .ref q2, .null, .null, .null, .null, .int 0, .int 0, .int 0]))] ++ [(q1, .inl (G.2.1, 16, .inl (fun _ => 0)))]) ++ [(q2, .inl (G.2.1, 16, .inl (fun _ => 0)))]) := hD
  refine lv_aload_n hx hb dX0_init_20 rfl (lv_at hl 0 rfl) ?_
  refine lv_bipush (v := 16) hx hb dX0_init_21 (by decide) ?_
  refine zc_newa (N := 16) S (by decide +kernel) hK hP hD hS hA rfl (by decide) (Nat.le_of_ble_eq_true rfl) (Nat.le_of_ble_eq_true rfl) dX0_init_23 (fun q3 H hP hD hS => ?_)
  have hP : va_P G.1 vwCl ((([(h0, .inr (0, [.ref q1, .ref q2, .null, .null, .null, .null, .int 0, .int 0, .int 0]))] ++ [(q1, .inl (G.2.1, 16, .inl (fun _ => 0)))]) ++ [(q2, .inl (G.2.1, 16, .inl (fun _ => 0)))]) ++ [(q3, .inl (G.2.1, 16, .inl (fun _ => 0)))]) H := hP
  have hD : va_D A ((([(h0, .inr (0, [.ref q1, .ref q2, .null, .null, .null, .null, .int 0, .int 0, .int 0]))] ++ [(q1, .inl (G.2.1, 16, .inl (fun _ => 0)))]) ++ [(q2, .inl (G.2.1, 16, .inl (fun _ => 0)))]) ++ [(q3, .inl (G.2.1, 16, .inl (fun _ => 0)))]) := hD
  refine va_putF (D := G.1) (ci := 0) (v := .ref q3) (ty := .array .int) (C := RX0) (T := TX0) (N := 9) hx hb hts in_ctor0 tyX0 tyX0_ok nmX0 hown hK.1 hP hD hS 0 rfl rfl 2 (by decide) (hts (.fieldLink RX0 18 "RuleCourt$Court" "body" "[I") (by decide +kernel)) (fun _ h9 => h9) rfl hin rfl rfl (by first | rfl | decide) rfl (Nat.le_of_ble_eq_true rfl) dX0_init_25 (fun H locs hP hD hS => ?_)
  have hP : va_P G.1 vwCl ((([(h0, .inr (0, [.ref q1, .ref q2, .ref q3, .null, .null, .null, .int 0, .int 0, .int 0]))] ++ [(q1, .inl (G.2.1, 16, .inl (fun _ => 0)))]) ++ [(q2, .inl (G.2.1, 16, .inl (fun _ => 0)))]) ++ [(q3, .inl (G.2.1, 16, .inl (fun _ => 0)))]) H := hP
  have hD : va_D A ((([(h0, .inr (0, [.ref q1, .ref q2, .ref q3, .null, .null, .null, .int 0, .int 0, .int 0]))] ++ [(q1, .inl (G.2.1, 16, .inl (fun _ => 0)))]) ++ [(q2, .inl (G.2.1, 16, .inl (fun _ => 0)))]) ++ [(q3, .inl (G.2.1, 16, .inl (fun _ => 0)))]) := hD
  refine lv_aload_n hx hb dX0_init_28 rfl (lv_at hl 0 rfl) ?_
  refine lv_bipush (v := 16) hx hb dX0_init_29 (by decide) ?_
  refine zc_newa (N := 16) S (by decide +kernel) hK hP hD hS hA rfl (by decide) (Nat.le_of_ble_eq_true rfl) (Nat.le_of_ble_eq_true rfl) dX0_init_31 (fun q4 H hP hD hS => ?_)
  have hP : va_P G.1 vwCl (((([(h0, .inr (0, [.ref q1, .ref q2, .ref q3, .null, .null, .null, .int 0, .int 0, .int 0]))] ++ [(q1, .inl (G.2.1, 16, .inl (fun _ => 0)))]) ++ [(q2, .inl (G.2.1, 16, .inl (fun _ => 0)))]) ++ [(q3, .inl (G.2.1, 16, .inl (fun _ => 0)))]) ++ [(q4, .inl (G.2.1, 16, .inl (fun _ => 0)))]) H := hP
  have hD : va_D A (((([(h0, .inr (0, [.ref q1, .ref q2, .ref q3, .null, .null, .null, .int 0, .int 0, .int 0]))] ++ [(q1, .inl (G.2.1, 16, .inl (fun _ => 0)))]) ++ [(q2, .inl (G.2.1, 16, .inl (fun _ => 0)))]) ++ [(q3, .inl (G.2.1, 16, .inl (fun _ => 0)))]) ++ [(q4, .inl (G.2.1, 16, .inl (fun _ => 0)))]) := hD
  refine va_putF (D := G.1) (ci := 0) (v := .ref q4) (ty := .array .int) (C := RX0) (T := TX0) (N := 9) hx hb hts in_ctor0 tyX0 tyX0_ok nmX0 hown hK.1 hP hD hS 0 rfl rfl 3 (by decide) (hts (.fieldLink RX0 21 "RuleCourt$Court" "excepts" "[I") (by decide +kernel)) (fun _ h9 => h9) rfl hin rfl rfl (by first | rfl | decide) rfl (Nat.le_of_ble_eq_true rfl) dX0_init_33 (fun H locs hP hD hS => ?_)
  have hP : va_P G.1 vwCl (((([(h0, .inr (0, [.ref q1, .ref q2, .ref q3, .ref q4, .null, .null, .int 0, .int 0, .int 0]))] ++ [(q1, .inl (G.2.1, 16, .inl (fun _ => 0)))]) ++ [(q2, .inl (G.2.1, 16, .inl (fun _ => 0)))]) ++ [(q3, .inl (G.2.1, 16, .inl (fun _ => 0)))]) ++ [(q4, .inl (G.2.1, 16, .inl (fun _ => 0)))]) H := hP
  have hD : va_D A (((([(h0, .inr (0, [.ref q1, .ref q2, .ref q3, .ref q4, .null, .null, .int 0, .int 0, .int 0]))] ++ [(q1, .inl (G.2.1, 16, .inl (fun _ => 0)))]) ++ [(q2, .inl (G.2.1, 16, .inl (fun _ => 0)))]) ++ [(q3, .inl (G.2.1, 16, .inl (fun _ => 0)))]) ++ [(q4, .inl (G.2.1, 16, .inl (fun _ => 0)))]) := hD
  refine lv_aload_n hx hb dX0_init_36 rfl (lv_at hl 0 rfl) ?_
  refine lv_bipush (v := 16) hx hb dX0_init_37 (by decide) ?_
  refine zc_newa (N := 16) S (by decide +kernel) hK hP hD hS hA rfl (by decide) (Nat.le_of_ble_eq_true rfl) (Nat.le_of_ble_eq_true rfl) dX0_init_39 (fun q5 H hP hD hS => ?_)
  have hP : va_P G.1 vwCl ((((([(h0, .inr (0, [.ref q1, .ref q2, .ref q3, .ref q4, .null, .null, .int 0, .int 0, .int 0]))] ++ [(q1, .inl (G.2.1, 16, .inl (fun _ => 0)))]) ++ [(q2, .inl (G.2.1, 16, .inl (fun _ => 0)))]) ++ [(q3, .inl (G.2.1, 16, .inl (fun _ => 0)))]) ++ [(q4, .inl (G.2.1, 16, .inl (fun _ => 0)))]) ++ [(q5, .inl (G.2.1, 16, .inl (fun _ => 0)))]) H := hP
  have hD : va_D A ((((([(h0, .inr (0, [.ref q1, .ref q2, .ref q3, .ref q4, .null, .null, .int 0, .int 0, .int 0]))] ++ [(q1, .inl (G.2.1, 16, .inl (fun _ => 0)))]) ++ [(q2, .inl (G.2.1, 16, .inl (fun _ => 0)))]) ++ [(q3, .inl (G.2.1, 16, .inl (fun _ => 0)))]) ++ [(q4, .inl (G.2.1, 16, .inl (fun _ => 0)))]) ++ [(q5, .inl (G.2.1, 16, .inl (fun _ => 0)))]) := hD
  refine va_putF (D := G.1) (ci := 0) (v := .ref q5) (ty := .array .int) (C := RX0) (T := TX0) (N := 9) hx hb hts in_ctor0 tyX0 tyX0_ok nmX0 hown hK.1 hP hD hS 0 rfl rfl 4 (by decide) (hts (.fieldLink RX0 24 "RuleCourt$Court" "power" "[I") (by decide +kernel)) (fun _ h9 => h9) rfl hin rfl rfl (by first | rfl | decide) rfl (Nat.le_of_ble_eq_true rfl) dX0_init_41 (fun H locs hP hD hS => ?_)
  have hP : va_P G.1 vwCl ((((([(h0, .inr (0, [.ref q1, .ref q2, .ref q3, .ref q4, .ref q5, .null, .int 0, .int 0, .int 0]))] ++ [(q1, .inl (G.2.1, 16, .inl (fun _ => 0)))]) ++ [(q2, .inl (G.2.1, 16, .inl (fun _ => 0)))]) ++ [(q3, .inl (G.2.1, 16, .inl (fun _ => 0)))]) ++ [(q4, .inl (G.2.1, 16, .inl (fun _ => 0)))]) ++ [(q5, .inl (G.2.1, 16, .inl (fun _ => 0)))]) H := hP
  have hD : va_D A ((((([(h0, .inr (0, [.ref q1, .ref q2, .ref q3, .ref q4, .ref q5, .null, .int 0, .int 0, .int 0]))] ++ [(q1, .inl (G.2.1, 16, .inl (fun _ => 0)))]) ++ [(q2, .inl (G.2.1, 16, .inl (fun _ => 0)))]) ++ [(q3, .inl (G.2.1, 16, .inl (fun _ => 0)))]) ++ [(q4, .inl (G.2.1, 16, .inl (fun _ => 0)))]) ++ [(q5, .inl (G.2.1, 16, .inl (fun _ => 0)))]) := hD
  refine lv_aload_n hx hb dX0_init_44 rfl (lv_at hl 0 rfl) ?_
  refine lv_bipush (v := 16) hx hb dX0_init_45 (by decide) ?_
  refine zc_newa (N := 16) S (by decide +kernel) hK hP hD hS hA rfl (by decide) (Nat.le_of_ble_eq_true rfl) (Nat.le_of_ble_eq_true rfl) dX0_init_47 (fun q6 H hP hD hS => ?_)
  have hP : va_P G.1 vwCl (((((([(h0, .inr (0, [.ref q1, .ref q2, .ref q3, .ref q4, .ref q5, .null, .int 0, .int 0, .int 0]))] ++ [(q1, .inl (G.2.1, 16, .inl (fun _ => 0)))]) ++ [(q2, .inl (G.2.1, 16, .inl (fun _ => 0)))]) ++ [(q3, .inl (G.2.1, 16, .inl (fun _ => 0)))]) ++ [(q4, .inl (G.2.1, 16, .inl (fun _ => 0)))]) ++ [(q5, .inl (G.2.1, 16, .inl (fun _ => 0)))]) ++ [(q6, .inl (G.2.1, 16, .inl (fun _ => 0)))]) H := hP
  have hD : va_D A (((((([(h0, .inr (0, [.ref q1, .ref q2, .ref q3, .ref q4, .ref q5, .null, .int 0, .int 0, .int 0]))] ++ [(q1, .inl (G.2.1, 16, .inl (fun _ => 0)))]) ++ [(q2, .inl (G.2.1, 16, .inl (fun _ => 0)))]) ++ [(q3, .inl (G.2.1, 16, .inl (fun _ => 0)))]) ++ [(q4, .inl (G.2.1, 16, .inl (fun _ => 0)))]) ++ [(q5, .inl (G.2.1, 16, .inl (fun _ => 0)))]) ++ [(q6, .inl (G.2.1, 16, .inl (fun _ => 0)))]) := hD
  refine va_putF (D := G.1) (ci := 0) (v := .ref q6) (ty := .array .int) (C := RX0) (T := TX0) (N := 9) hx hb hts in_ctor0 tyX0 tyX0_ok nmX0 hown hK.1 hP hD hS 0 rfl rfl 5 (by decide) (hts (.fieldLink RX0 27 "RuleCourt$Court" "beats" "[I") (by decide +kernel)) (fun _ h9 => h9) rfl hin rfl rfl (by first | rfl | decide) rfl (Nat.le_of_ble_eq_true rfl) dX0_init_49 (fun H locs hP hD hS => ?_)
  have hP : va_P G.1 vwCl (((((([(h0, .inr (0, [.ref q1, .ref q2, .ref q3, .ref q4, .ref q5, .ref q6, .int 0, .int 0, .int 0]))] ++ [(q1, .inl (G.2.1, 16, .inl (fun _ => 0)))]) ++ [(q2, .inl (G.2.1, 16, .inl (fun _ => 0)))]) ++ [(q3, .inl (G.2.1, 16, .inl (fun _ => 0)))]) ++ [(q4, .inl (G.2.1, 16, .inl (fun _ => 0)))]) ++ [(q5, .inl (G.2.1, 16, .inl (fun _ => 0)))]) ++ [(q6, .inl (G.2.1, 16, .inl (fun _ => 0)))]) H := hP
  have hD : va_D A (((((([(h0, .inr (0, [.ref q1, .ref q2, .ref q3, .ref q4, .ref q5, .ref q6, .int 0, .int 0, .int 0]))] ++ [(q1, .inl (G.2.1, 16, .inl (fun _ => 0)))]) ++ [(q2, .inl (G.2.1, 16, .inl (fun _ => 0)))]) ++ [(q3, .inl (G.2.1, 16, .inl (fun _ => 0)))]) ++ [(q4, .inl (G.2.1, 16, .inl (fun _ => 0)))]) ++ [(q5, .inl (G.2.1, 16, .inl (fun _ => 0)))]) ++ [(q6, .inl (G.2.1, 16, .inl (fun _ => 0)))]) := hD
  refine lv_aload_n hx hb dX0_init_52 rfl (lv_at hl 0 rfl) ?_
  refine lv_iconst (v := 0) hx hb dX0_init_53 (by decide) ?_
  refine va_put (D := G.1) (ci := 0) (v := .int 0) (ty := .int) (C := RX0) (T := TX0) (N := 9) hx hb hts in_ctor0 tyX0 tyX0_ok nmX0 hown hK.1 hP hD hS 0 rfl rfl 6 (by decide) (hts (.fieldLink RX0 30 "RuleCourt$Court" "facts" "I") (by decide +kernel)) (fun _ h9 => h9) rfl rfl (by first | rfl | decide) rfl (Nat.le_of_ble_eq_true rfl) dX0_init_54 (fun H locs hP hD hS => ?_)
  have hP : va_P G.1 vwCl (((((([(h0, .inr (0, [.ref q1, .ref q2, .ref q3, .ref q4, .ref q5, .ref q6, .int 0, .int 0, .int 0]))] ++ [(q1, .inl (G.2.1, 16, .inl (fun _ => 0)))]) ++ [(q2, .inl (G.2.1, 16, .inl (fun _ => 0)))]) ++ [(q3, .inl (G.2.1, 16, .inl (fun _ => 0)))]) ++ [(q4, .inl (G.2.1, 16, .inl (fun _ => 0)))]) ++ [(q5, .inl (G.2.1, 16, .inl (fun _ => 0)))]) ++ [(q6, .inl (G.2.1, 16, .inl (fun _ => 0)))]) H := hP
  have hD : va_D A (((((([(h0, .inr (0, [.ref q1, .ref q2, .ref q3, .ref q4, .ref q5, .ref q6, .int 0, .int 0, .int 0]))] ++ [(q1, .inl (G.2.1, 16, .inl (fun _ => 0)))]) ++ [(q2, .inl (G.2.1, 16, .inl (fun _ => 0)))]) ++ [(q3, .inl (G.2.1, 16, .inl (fun _ => 0)))]) ++ [(q4, .inl (G.2.1, 16, .inl (fun _ => 0)))]) ++ [(q5, .inl (G.2.1, 16, .inl (fun _ => 0)))]) ++ [(q6, .inl (G.2.1, 16, .inl (fun _ => 0)))]) := hD
  refine lv_aload_n hx hb dX0_init_57 rfl (lv_at hl 0 rfl) ?_
  refine lv_iconst (v := 0) hx hb dX0_init_58 (by decide) ?_
  refine va_put (D := G.1) (ci := 0) (v := .int 0) (ty := .int) (C := RX0) (T := TX0) (N := 9) hx hb hts in_ctor0 tyX0 tyX0_ok nmX0 hown hK.1 hP hD hS 0 rfl rfl 7 (by decide) (hts (.fieldLink RX0 34 "RuleCourt$Court" "size" "I") (by decide +kernel)) (fun _ h9 => h9) rfl rfl (by first | rfl | decide) rfl (Nat.le_of_ble_eq_true rfl) dX0_init_59 (fun H locs hP hD hS => ?_)
  have hP : va_P G.1 vwCl (((((([(h0, .inr (0, [.ref q1, .ref q2, .ref q3, .ref q4, .ref q5, .ref q6, .int 0, .int 0, .int 0]))] ++ [(q1, .inl (G.2.1, 16, .inl (fun _ => 0)))]) ++ [(q2, .inl (G.2.1, 16, .inl (fun _ => 0)))]) ++ [(q3, .inl (G.2.1, 16, .inl (fun _ => 0)))]) ++ [(q4, .inl (G.2.1, 16, .inl (fun _ => 0)))]) ++ [(q5, .inl (G.2.1, 16, .inl (fun _ => 0)))]) ++ [(q6, .inl (G.2.1, 16, .inl (fun _ => 0)))]) H := hP
  have hD : va_D A (((((([(h0, .inr (0, [.ref q1, .ref q2, .ref q3, .ref q4, .ref q5, .ref q6, .int 0, .int 0, .int 0]))] ++ [(q1, .inl (G.2.1, 16, .inl (fun _ => 0)))]) ++ [(q2, .inl (G.2.1, 16, .inl (fun _ => 0)))]) ++ [(q3, .inl (G.2.1, 16, .inl (fun _ => 0)))]) ++ [(q4, .inl (G.2.1, 16, .inl (fun _ => 0)))]) ++ [(q5, .inl (G.2.1, 16, .inl (fun _ => 0)))]) ++ [(q6, .inl (G.2.1, 16, .inl (fun _ => 0)))]) := hD
  refine lv_aload_n hx hb dX0_init_62 rfl (lv_at hl 0 rfl) ?_
  refine lv_iconst (v := 0) hx hb dX0_init_63 (by decide) ?_
  refine va_put (D := G.1) (ci := 0) (v := .int 0) (ty := .int) (C := RX0) (T := TX0) (N := 9) hx hb hts in_ctor0 tyX0 tyX0_ok nmX0 hown hK.1 hP hD hS 0 rfl rfl 8 (by decide) (hts (.fieldLink RX0 37 "RuleCourt$Court" "shut" "I") (by decide +kernel)) (fun _ h9 => h9) rfl rfl (by first | rfl | decide) rfl (Nat.le_of_ble_eq_true rfl) dX0_init_64 (fun H locs hP hD hS => ?_)
  have hP : va_P G.1 vwCl (((((([(h0, .inr (0, [.ref q1, .ref q2, .ref q3, .ref q4, .ref q5, .ref q6, .int 0, .int 0, .int 0]))] ++ [(q1, .inl (G.2.1, 16, .inl (fun _ => 0)))]) ++ [(q2, .inl (G.2.1, 16, .inl (fun _ => 0)))]) ++ [(q3, .inl (G.2.1, 16, .inl (fun _ => 0)))]) ++ [(q4, .inl (G.2.1, 16, .inl (fun _ => 0)))]) ++ [(q5, .inl (G.2.1, 16, .inl (fun _ => 0)))]) ++ [(q6, .inl (G.2.1, 16, .inl (fun _ => 0)))]) H := hP
  have hD : va_D A (((((([(h0, .inr (0, [.ref q1, .ref q2, .ref q3, .ref q4, .ref q5, .ref q6, .int 0, .int 0, .int 0]))] ++ [(q1, .inl (G.2.1, 16, .inl (fun _ => 0)))]) ++ [(q2, .inl (G.2.1, 16, .inl (fun _ => 0)))]) ++ [(q3, .inl (G.2.1, 16, .inl (fun _ => 0)))]) ++ [(q4, .inl (G.2.1, 16, .inl (fun _ => 0)))]) ++ [(q5, .inl (G.2.1, 16, .inl (fun _ => 0)))]) ++ [(q6, .inl (G.2.1, 16, .inl (fun _ => 0)))]) := hD
  exact W.vret hx hb hr (fun t ht hW => ⟨⟨(), rfl, trivial, _, ⟨zad [h0, q1, q2, q3, q4, q5, q6], rfl, rfl⟩, by rw [ht]; exact hP, hD⟩, hS.F ht⟩) hS.2.2 dX0_init_67
theorem in_ctor6 : ∀ w ∈ u_ws RX6 TX6 12, w ∈ wsX6_init := by decide +kernel
theorem zdf6 : ∀ j, j < 12 → defaultValue (tyX6 j) = vp_V [.null, .null, .null, .null, .null, .null, .null, .int 0, .int 0, .int 0, .int 0, .int 0] j := by decide +kernel
def rmX6_init : Room := { frames := 1, cells := 7, slots := 100, locals := 12 }
set_option maxHeartbeats 4000000 in
set_option maxRecDepth 100000 in
theorem c_X6_init (l : Launch) (G : zG) : zNew l yX6_init wsX6_init rmX6_init G 6 [.null, .null, .null, .null, .null, .null, .null, .int 0, .int 0, .int 0, .int 0, .int 0] 7 100 (fun q w => ∃ a : Nat → Nat, a 0 = q ∧ w = w6 G a zz6) := by
  intro h0 sz
  refine Met.ofW (cc := cX6_init) (maxL := 1) (ret := none) (by decide +kernel) rfl ?_
  intro p e s m args below meth c s₁ B hml hv
  obtain ⟨rfl, hsz, hP, hK, hD0⟩ := hv
  have hx := B.exec
  have hb := B.bytes
  have hr := B.returns
  have hts := atoms_spec (ws := wsX6_init) B.pre
  have hown : s.vm.findClass RX6 = some m.cls := findClass_of_methodNamed B.named
  have hlocks := B.notSynchronized
  have hin : meth.name = "<init>" := (name_of_methodNamed B.named B.method).1
  have S : CallFix p m c cX6_init 1 s _ wsX6_init RX6 := ⟨hx, hb, hml, hown, hts⟩
  subst hsz
  have hD := hD0.self (sz := s.heap.size)
  generalize hAe : va_A [((h0, .inr (6, [.null, .null, .null, .null, .null, .null, .null, .int 0, .int 0, .int 0, .int 0, .int 0])) : Nat × va_E)] s.heap.size = A at hD ⊢
  have hA : ∀ q : Nat, s.heap.size ≤ q → A q := fun q h => by rw [← hAe]; exact Or.inr h
  have hS : va_S A s.heap s.heap [] := va_S.rf
  have hP : va_P G.1 vwCl [(h0, .inr (6, [.null, .null, .null, .null, .null, .null, .null, .int 0, .int 0, .int 0, .int 0, .int 0]))] s.heap := hP
  have hl := lv_entry ([.ref h0]) (n := 1) (Nat.le_of_ble_eq_true rfl)
  rw [lg_entry_eq]
  generalize (lg_sl ([.ref h0]) ++ List.replicate (1 - (lg_sl ([.ref h0])).length) Slot.unset).toArray = ls at hl ⊢
  have hl : lv_has ls 1 [(0, .ref h0)] := hl
  refine lv_aload_n hx hb dX6_init_0 rfl (lv_at hl 0 rfl) ?_
  refine W.objInit hx hb hown (hts (.methodLink RX6 3 objectInit) (by decide +kernel)) (hts (.instanceMethod objectInit) (by decide +kernel)) (hts (.code objectInit ⟨#[0xb1]⟩ 1 none) (by decide +kernel)) rfl (by rw [hml]; exact hl.1) rfl dX6_init_1 (Nat.le_of_ble_eq_true rfl) (Nat.le_of_ble_eq_true rfl) ?_
  refine W.eq (g2 := F0 m 4 ls []) rfl ?_
  refine lv_aload_n hx hb dX6_init_4 rfl (lv_at hl 0 rfl) ?_
  refine lv_iconst (v := 4) hx hb dX6_init_5 (by decide) ?_
  refine zc_newa (N := 4) S (by decide +kernel) hK hP hD hS hA rfl (by decide) (Nat.le_of_ble_eq_true rfl) (Nat.le_of_ble_eq_true rfl) dX6_init_6 (fun q1 H hP hD hS => ?_)
  have hP : va_P G.1 vwCl ([(h0, .inr (6, [.null, .null, .null, .null, .null, .null, .null, .int 0, .int 0, .int 0, .int 0, .int 0]))] ++ [(q1, .inl (G.2.1, 4, .inl (fun _ => 0)))]) H := hP
  have hD : va_D A ([(h0, .inr (6, [.null, .null, .null, .null, .null, .null, .null, .int 0, .int 0, .int 0, .int 0, .int 0]))] ++ [(q1, .inl (G.2.1, 4, .inl (fun _ => 0)))]) := hD
  refine va_putF (D := G.1) (ci := 6) (v := .ref q1) (ty := .array .int) (C := RX6) (T := TX6) (N := 12) hx hb hts in_ctor6 tyX6 tyX6_ok nmX6 hown hK.1 hP hD hS 0 rfl rfl 0 (by decide) (hts (.fieldLink RX6 9 "RuleCourt$View" "known" "[I") (by decide +kernel)) (fun _ h9 => h9) rfl hin rfl rfl (by first | rfl | decide) rfl (Nat.le_of_ble_eq_true rfl) dX6_init_8 (fun H locs hP hD hS => ?_)
  have hP : va_P G.1 vwCl ([(h0, .inr (6, [.ref q1, .null, .null, .null, .null, .null, .null, .int 0, .int 0, .int 0, .int 0, .int 0]))] ++ [(q1, .inl (G.2.1, 4, .inl (fun _ => 0)))]) H := hP
  have hD : va_D A ([(h0, .inr (6, [.ref q1, .null, .null, .null, .null, .null, .null, .int 0, .int 0, .int 0, .int 0, .int 0]))] ++ [(q1, .inl (G.2.1, 4, .inl (fun _ => 0)))]) := hD
  refine lv_aload_n hx hb dX6_init_11 rfl (lv_at hl 0 rfl) ?_
  refine lv_iconst (v := 4) hx hb dX6_init_12 (by decide) ?_
  refine zc_newa (N := 4) S (by decide +kernel) hK hP hD hS hA rfl (by decide) (Nat.le_of_ble_eq_true rfl) (Nat.le_of_ble_eq_true rfl) dX6_init_13 (fun q2 H hP hD hS => ?_)
  have hP : va_P G.1 vwCl (([(h0, .inr (6, [.ref q1, .null, .null, .null, .null, .null, .null, .int 0, .int 0, .int 0, .int 0, .int 0]))] ++ [(q1, .inl (G.2.1, 4, .inl (fun _ => 0)))]) ++ [(q2, .inl (G.2.1, 4, .inl (fun _ => 0)))]) H := hP
  have hD : va_D A (([(h0, .inr (6, [.ref q1, .null, .null, .null, .null, .null, .null, .int 0, .int 0, .int 0, .int 0, .int 0]))] ++ [(q1, .inl (G.2.1, 4, .inl (fun _ => 0)))]) ++ [(q2, .inl (G.2.1, 4, .inl (fun _ => 0)))]) := hD
  refine va_putF (D := G.1) (ci := 6) (v := .ref q2) (ty := .array .int) (C := RX6) (T := TX6) (N := 12) hx hb hts in_ctor6 tyX6 tyX6_ok nmX6 hown hK.1 hP hD hS 0 rfl rfl 1 (by decide) (hts (.fieldLink RX6 15 "RuleCourt$View" "fresh" "[I") (by decide +kernel)) (fun _ h9 => h9) rfl hin rfl rfl (by first | rfl | decide) rfl (Nat.le_of_ble_eq_true rfl) dX6_init_15 (fun H locs hP hD hS => ?_)
  have hP : va_P G.1 vwCl (([(h0, .inr (6, [.ref q1, .ref q2, .null, .null, .null, .null, .null, .int 0, .int 0, .int 0, .int 0, .int 0]))] ++ [(q1, .inl (G.2.1, 4, .inl (fun _ => 0)))]) ++ [(q2, .inl (G.2.1, 4, .inl (fun _ => 0)))]) H := hP
  have hD : va_D A (([(h0, .inr (6, [.ref q1, .ref q2, .null, .null, .null, .null, .null, .int 0, .int 0, .int 0, .int 0, .int 0]))] ++ [(q1, .inl (G.2.1, 4, .inl (fun _ => 0)))]) ++ [(q2, .inl (G.2.1, 4, .inl (fun _ => 0)))]) := hD
  refine lv_aload_n hx hb dX6_init_18 rfl (lv_at hl 0 rfl) ?_
  refine lv_bipush (v := 20) hx hb dX6_init_19 (by decide) ?_
  refine zc_newa (N := 20) S (by decide +kernel) hK hP hD hS hA rfl (by decide) (Nat.le_of_ble_eq_true rfl) (Nat.le_of_ble_eq_true rfl) dX6_init_21 (fun q3 H hP hD hS => ?_)
  have hP : va_P G.1 vwCl ((([(h0, .inr (6, [.ref q1, .ref q2, .null, .null, .null, .null, .null, .int 0, .int 0, .int 0, .int 0, .int 0]))] ++ [(q1, .inl (G.2.1, 4, .inl (fun _ => 0)))]) ++ [(q2, .inl (G.2.1, 4, .inl (fun _ => 0)))]) ++ [(q3, .inl (G.2.1, 20, .inl (fun _ => 0)))]) H := hP
  have hD : va_D A ((([(h0, .inr (6, [.ref q1, .ref q2, .null, .null, .null, .null, .null, .int 0, .int 0, .int 0, .int 0, .int 0]))] ++ [(q1, .inl (G.2.1, 4, .inl (fun _ => 0)))]) ++ [(q2, .inl (G.2.1, 4, .inl (fun _ => 0)))]) ++ [(q3, .inl (G.2.1, 20, .inl (fun _ => 0)))]) := hD
  refine va_putF (D := G.1) (ci := 6) (v := .ref q3) (ty := .array .int) (C := RX6) (T := TX6) (N := 12) hx hb hts in_ctor6 tyX6 tyX6_ok nmX6 hown hK.1 hP hD hS 0 rfl rfl 2 (by decide) (hts (.fieldLink RX6 18 "RuleCourt$View" "strictFor" "[I") (by decide +kernel)) (fun _ h9 => h9) rfl hin rfl rfl (by first | rfl | decide) rfl (Nat.le_of_ble_eq_true rfl) dX6_init_23 (fun H locs hP hD hS => ?_)
  have hP : va_P G.1 vwCl ((([(h0, .inr (6, [.ref q1, .ref q2, .ref q3, .null, .null, .null, .null, .int 0, .int 0, .int 0, .int 0, .int 0]))] ++ [(q1, .inl (G.2.1, 4, .inl (fun _ => 0)))]) ++ [(q2, .inl (G.2.1, 4, .inl (fun _ => 0)))]) ++ [(q3, .inl (G.2.1, 20, .inl (fun _ => 0)))]) H := hP
  have hD : va_D A ((([(h0, .inr (6, [.ref q1, .ref q2, .ref q3, .null, .null, .null, .null, .int 0, .int 0, .int 0, .int 0, .int 0]))] ++ [(q1, .inl (G.2.1, 4, .inl (fun _ => 0)))]) ++ [(q2, .inl (G.2.1, 4, .inl (fun _ => 0)))]) ++ [(q3, .inl (G.2.1, 20, .inl (fun _ => 0)))]) := hD
  refine lv_aload_n hx hb dX6_init_26 rfl (lv_at hl 0 rfl) ?_
  refine lv_bipush (v := 20) hx hb dX6_init_27 (by decide) ?_
  refine zc_newa (N := 20) S (by decide +kernel) hK hP hD hS hA rfl (by decide) (Nat.le_of_ble_eq_true rfl) (Nat.le_of_ble_eq_true rfl) dX6_init_29 (fun q4 H hP hD hS => ?_)
  have hP : va_P G.1 vwCl (((([(h0, .inr (6, [.ref q1, .ref q2, .ref q3, .null, .null, .null, .null, .int 0, .int 0, .int 0, .int 0, .int 0]))] ++ [(q1, .inl (G.2.1, 4, .inl (fun _ => 0)))]) ++ [(q2, .inl (G.2.1, 4, .inl (fun _ => 0)))]) ++ [(q3, .inl (G.2.1, 20, .inl (fun _ => 0)))]) ++ [(q4, .inl (G.2.1, 20, .inl (fun _ => 0)))]) H := hP
  have hD : va_D A (((([(h0, .inr (6, [.ref q1, .ref q2, .ref q3, .null, .null, .null, .null, .int 0, .int 0, .int 0, .int 0, .int 0]))] ++ [(q1, .inl (G.2.1, 4, .inl (fun _ => 0)))]) ++ [(q2, .inl (G.2.1, 4, .inl (fun _ => 0)))]) ++ [(q3, .inl (G.2.1, 20, .inl (fun _ => 0)))]) ++ [(q4, .inl (G.2.1, 20, .inl (fun _ => 0)))]) := hD
  refine va_putF (D := G.1) (ci := 6) (v := .ref q4) (ty := .array .int) (C := RX6) (T := TX6) (N := 12) hx hb hts in_ctor6 tyX6 tyX6_ok nmX6 hown hK.1 hP hD hS 0 rfl rfl 3 (by decide) (hts (.fieldLink RX6 21 "RuleCourt$View" "forwardFor" "[I") (by decide +kernel)) (fun _ h9 => h9) rfl hin rfl rfl (by first | rfl | decide) rfl (Nat.le_of_ble_eq_true rfl) dX6_init_31 (fun H locs hP hD hS => ?_)
  have hP : va_P G.1 vwCl (((([(h0, .inr (6, [.ref q1, .ref q2, .ref q3, .ref q4, .null, .null, .null, .int 0, .int 0, .int 0, .int 0, .int 0]))] ++ [(q1, .inl (G.2.1, 4, .inl (fun _ => 0)))]) ++ [(q2, .inl (G.2.1, 4, .inl (fun _ => 0)))]) ++ [(q3, .inl (G.2.1, 20, .inl (fun _ => 0)))]) ++ [(q4, .inl (G.2.1, 20, .inl (fun _ => 0)))]) H := hP
  have hD : va_D A (((([(h0, .inr (6, [.ref q1, .ref q2, .ref q3, .ref q4, .null, .null, .null, .int 0, .int 0, .int 0, .int 0, .int 0]))] ++ [(q1, .inl (G.2.1, 4, .inl (fun _ => 0)))]) ++ [(q2, .inl (G.2.1, 4, .inl (fun _ => 0)))]) ++ [(q3, .inl (G.2.1, 20, .inl (fun _ => 0)))]) ++ [(q4, .inl (G.2.1, 20, .inl (fun _ => 0)))]) := hD
  refine lv_aload_n hx hb dX6_init_34 rfl (lv_at hl 0 rfl) ?_
  refine lv_bipush (v := 20) hx hb dX6_init_35 (by decide) ?_
  refine zc_newa (N := 20) S (by decide +kernel) hK hP hD hS hA rfl (by decide) (Nat.le_of_ble_eq_true rfl) (Nat.le_of_ble_eq_true rfl) dX6_init_37 (fun q5 H hP hD hS => ?_)
  have hP : va_P G.1 vwCl ((((([(h0, .inr (6, [.ref q1, .ref q2, .ref q3, .ref q4, .null, .null, .null, .int 0, .int 0, .int 0, .int 0, .int 0]))] ++ [(q1, .inl (G.2.1, 4, .inl (fun _ => 0)))]) ++ [(q2, .inl (G.2.1, 4, .inl (fun _ => 0)))]) ++ [(q3, .inl (G.2.1, 20, .inl (fun _ => 0)))]) ++ [(q4, .inl (G.2.1, 20, .inl (fun _ => 0)))]) ++ [(q5, .inl (G.2.1, 20, .inl (fun _ => 0)))]) H := hP
  have hD : va_D A ((((([(h0, .inr (6, [.ref q1, .ref q2, .ref q3, .ref q4, .null, .null, .null, .int 0, .int 0, .int 0, .int 0, .int 0]))] ++ [(q1, .inl (G.2.1, 4, .inl (fun _ => 0)))]) ++ [(q2, .inl (G.2.1, 4, .inl (fun _ => 0)))]) ++ [(q3, .inl (G.2.1, 20, .inl (fun _ => 0)))]) ++ [(q4, .inl (G.2.1, 20, .inl (fun _ => 0)))]) ++ [(q5, .inl (G.2.1, 20, .inl (fun _ => 0)))]) := hD
  refine va_putF (D := G.1) (ci := 6) (v := .ref q5) (ty := .array .int) (C := RX6) (T := TX6) (N := 12) hx hb hts in_ctor6 tyX6 tyX6_ok nmX6 hown hK.1 hP hD hS 0 rfl rfl 4 (by decide) (hts (.fieldLink RX6 24 "RuleCourt$View" "allFor" "[I") (by decide +kernel)) (fun _ h9 => h9) rfl hin rfl rfl (by first | rfl | decide) rfl (Nat.le_of_ble_eq_true rfl) dX6_init_39 (fun H locs hP hD hS => ?_)
  have hP : va_P G.1 vwCl ((((([(h0, .inr (6, [.ref q1, .ref q2, .ref q3, .ref q4, .ref q5, .null, .null, .int 0, .int 0, .int 0, .int 0, .int 0]))] ++ [(q1, .inl (G.2.1, 4, .inl (fun _ => 0)))]) ++ [(q2, .inl (G.2.1, 4, .inl (fun _ => 0)))]) ++ [(q3, .inl (G.2.1, 20, .inl (fun _ => 0)))]) ++ [(q4, .inl (G.2.1, 20, .inl (fun _ => 0)))]) ++ [(q5, .inl (G.2.1, 20, .inl (fun _ => 0)))]) H := hP
  have hD : va_D A ((((([(h0, .inr (6, [.ref q1, .ref q2, .ref q3, .ref q4, .ref q5, .null, .null, .int 0, .int 0, .int 0, .int 0, .int 0]))] ++ [(q1, .inl (G.2.1, 4, .inl (fun _ => 0)))]) ++ [(q2, .inl (G.2.1, 4, .inl (fun _ => 0)))]) ++ [(q3, .inl (G.2.1, 20, .inl (fun _ => 0)))]) ++ [(q4, .inl (G.2.1, 20, .inl (fun _ => 0)))]) ++ [(q5, .inl (G.2.1, 20, .inl (fun _ => 0)))]) := hD
  refine lv_aload_n hx hb dX6_init_42 rfl (lv_at hl 0 rfl) ?_
  refine lv_bipush (v := 16) hx hb dX6_init_43 (by decide) ?_
  refine zc_newa (N := 16) S (by decide +kernel) hK hP hD hS hA rfl (by decide) (Nat.le_of_ble_eq_true rfl) (Nat.le_of_ble_eq_true rfl) dX6_init_45 (fun q6 H hP hD hS => ?_)
  have hP : va_P G.1 vwCl (((((([(h0, .inr (6, [.ref q1, .ref q2, .ref q3, .ref q4, .ref q5, .null, .null, .int 0, .int 0, .int 0, .int 0, .int 0]))] ++ [(q1, .inl (G.2.1, 4, .inl (fun _ => 0)))]) ++ [(q2, .inl (G.2.1, 4, .inl (fun _ => 0)))]) ++ [(q3, .inl (G.2.1, 20, .inl (fun _ => 0)))]) ++ [(q4, .inl (G.2.1, 20, .inl (fun _ => 0)))]) ++ [(q5, .inl (G.2.1, 20, .inl (fun _ => 0)))]) ++ [(q6, .inl (G.2.1, 16, .inl (fun _ => 0)))]) H := hP
  have hD : va_D A (((((([(h0, .inr (6, [.ref q1, .ref q2, .ref q3, .ref q4, .ref q5, .null, .null, .int 0, .int 0, .int 0, .int 0, .int 0]))] ++ [(q1, .inl (G.2.1, 4, .inl (fun _ => 0)))]) ++ [(q2, .inl (G.2.1, 4, .inl (fun _ => 0)))]) ++ [(q3, .inl (G.2.1, 20, .inl (fun _ => 0)))]) ++ [(q4, .inl (G.2.1, 20, .inl (fun _ => 0)))]) ++ [(q5, .inl (G.2.1, 20, .inl (fun _ => 0)))]) ++ [(q6, .inl (G.2.1, 16, .inl (fun _ => 0)))]) := hD
  refine va_putF (D := G.1) (ci := 6) (v := .ref q6) (ty := .array .int) (C := RX6) (T := TX6) (N := 12) hx hb hts in_ctor6 tyX6 tyX6_ok nmX6 hown hK.1 hP hD hS 0 rfl rfl 5 (by decide) (hts (.fieldLink RX6 27 "RuleCourt$View" "above" "[I") (by decide +kernel)) (fun _ h9 => h9) rfl hin rfl rfl (by first | rfl | decide) rfl (Nat.le_of_ble_eq_true rfl) dX6_init_47 (fun H locs hP hD hS => ?_)
  have hP : va_P G.1 vwCl (((((([(h0, .inr (6, [.ref q1, .ref q2, .ref q3, .ref q4, .ref q5, .ref q6, .null, .int 0, .int 0, .int 0, .int 0, .int 0]))] ++ [(q1, .inl (G.2.1, 4, .inl (fun _ => 0)))]) ++ [(q2, .inl (G.2.1, 4, .inl (fun _ => 0)))]) ++ [(q3, .inl (G.2.1, 20, .inl (fun _ => 0)))]) ++ [(q4, .inl (G.2.1, 20, .inl (fun _ => 0)))]) ++ [(q5, .inl (G.2.1, 20, .inl (fun _ => 0)))]) ++ [(q6, .inl (G.2.1, 16, .inl (fun _ => 0)))]) H := hP
  have hD : va_D A (((((([(h0, .inr (6, [.ref q1, .ref q2, .ref q3, .ref q4, .ref q5, .ref q6, .null, .int 0, .int 0, .int 0, .int 0, .int 0]))] ++ [(q1, .inl (G.2.1, 4, .inl (fun _ => 0)))]) ++ [(q2, .inl (G.2.1, 4, .inl (fun _ => 0)))]) ++ [(q3, .inl (G.2.1, 20, .inl (fun _ => 0)))]) ++ [(q4, .inl (G.2.1, 20, .inl (fun _ => 0)))]) ++ [(q5, .inl (G.2.1, 20, .inl (fun _ => 0)))]) ++ [(q6, .inl (G.2.1, 16, .inl (fun _ => 0)))]) := hD
  refine lv_aload_n hx hb dX6_init_50 rfl (lv_at hl 0 rfl) ?_
  refine lv_bipush (v := 16) hx hb dX6_init_51 (by decide) ?_
  refine zc_newa (N := 16) S (by decide +kernel) hK hP hD hS hA rfl (by decide) (Nat.le_of_ble_eq_true rfl) (Nat.le_of_ble_eq_true rfl) dX6_init_53 (fun q7 H hP hD hS => ?_)
  have hP : va_P G.1 vwCl ((((((([(h0, .inr (6, [.ref q1, .ref q2, .ref q3, .ref q4, .ref q5, .ref q6, .null, .int 0, .int 0, .int 0, .int 0, .int 0]))] ++ [(q1, .inl (G.2.1, 4, .inl (fun _ => 0)))]) ++ [(q2, .inl (G.2.1, 4, .inl (fun _ => 0)))]) ++ [(q3, .inl (G.2.1, 20, .inl (fun _ => 0)))]) ++ [(q4, .inl (G.2.1, 20, .inl (fun _ => 0)))]) ++ [(q5, .inl (G.2.1, 20, .inl (fun _ => 0)))]) ++ [(q6, .inl (G.2.1, 16, .inl (fun _ => 0)))]) ++ [(q7, .inl (G.2.1, 16, .inl (fun _ => 0)))]) H := hP
  have hD : va_D A ((((((([(h0, .inr (6, [.ref q1, .ref q2, .ref q3, .ref q4, .ref q5, .ref q6, .null, .int 0, .int 0, .int 0, .int 0, .int 0]))] ++ [(q1, .inl (G.2.1, 4, .inl (fun _ => 0)))]) ++ [(q2, .inl (G.2.1, 4, .inl (fun _ => 0)))]) ++ [(q3, .inl (G.2.1, 20, .inl (fun _ => 0)))]) ++ [(q4, .inl (G.2.1, 20, .inl (fun _ => 0)))]) ++ [(q5, .inl (G.2.1, 20, .inl (fun _ => 0)))]) ++ [(q6, .inl (G.2.1, 16, .inl (fun _ => 0)))]) ++ [(q7, .inl (G.2.1, 16, .inl (fun _ => 0)))]) := hD
  refine va_putF (D := G.1) (ci := 6) (v := .ref q7) (ty := .array .int) (C := RX6) (T := TX6) (N := 12) hx hb hts in_ctor6 tyX6 tyX6_ok nmX6 hown hK.1 hP hD hS 0 rfl rfl 6 (by decide) (hts (.fieldLink RX6 30 "RuleCourt$View" "reach" "[I") (by decide +kernel)) (fun _ h9 => h9) rfl hin rfl rfl (by first | rfl | decide) rfl (Nat.le_of_ble_eq_true rfl) dX6_init_55 (fun H locs hP hD hS => ?_)
  have hP : va_P G.1 vwCl ((((((([(h0, .inr (6, [.ref q1, .ref q2, .ref q3, .ref q4, .ref q5, .ref q6, .ref q7, .int 0, .int 0, .int 0, .int 0, .int 0]))] ++ [(q1, .inl (G.2.1, 4, .inl (fun _ => 0)))]) ++ [(q2, .inl (G.2.1, 4, .inl (fun _ => 0)))]) ++ [(q3, .inl (G.2.1, 20, .inl (fun _ => 0)))]) ++ [(q4, .inl (G.2.1, 20, .inl (fun _ => 0)))]) ++ [(q5, .inl (G.2.1, 20, .inl (fun _ => 0)))]) ++ [(q6, .inl (G.2.1, 16, .inl (fun _ => 0)))]) ++ [(q7, .inl (G.2.1, 16, .inl (fun _ => 0)))]) H := hP
  have hD : va_D A ((((((([(h0, .inr (6, [.ref q1, .ref q2, .ref q3, .ref q4, .ref q5, .ref q6, .ref q7, .int 0, .int 0, .int 0, .int 0, .int 0]))] ++ [(q1, .inl (G.2.1, 4, .inl (fun _ => 0)))]) ++ [(q2, .inl (G.2.1, 4, .inl (fun _ => 0)))]) ++ [(q3, .inl (G.2.1, 20, .inl (fun _ => 0)))]) ++ [(q4, .inl (G.2.1, 20, .inl (fun _ => 0)))]) ++ [(q5, .inl (G.2.1, 20, .inl (fun _ => 0)))]) ++ [(q6, .inl (G.2.1, 16, .inl (fun _ => 0)))]) ++ [(q7, .inl (G.2.1, 16, .inl (fun _ => 0)))]) := hD
  refine lv_aload_n hx hb dX6_init_58 rfl (lv_at hl 0 rfl) ?_
  refine lv_iconst (v := 0) hx hb dX6_init_59 (by decide) ?_
  refine va_put (D := G.1) (ci := 6) (v := .int 0) (ty := .int) (C := RX6) (T := TX6) (N := 12) hx hb hts in_ctor6 tyX6 tyX6_ok nmX6 hown hK.1 hP hD hS 0 rfl rfl 7 (by decide) (hts (.fieldLink RX6 33 "RuleCourt$View" "facts" "I") (by decide +kernel)) (fun _ h9 => h9) rfl rfl (by first | rfl | decide) rfl (Nat.le_of_ble_eq_true rfl) dX6_init_60 (fun H locs hP hD hS => ?_)
  have hP : va_P G.1 vwCl ((((((([(h0, .inr (6, [.ref q1, .ref q2, .ref q3, .ref q4, .ref q5, .ref q6, .ref q7, .int 0, .int 0, .int 0, .int 0, .int 0]))] ++ [(q1, .inl (G.2.1, 4, .inl (fun _ => 0)))]) ++ [(q2, .inl (G.2.1, 4, .inl (fun _ => 0)))]) ++ [(q3, .inl (G.2.1, 20, .inl (fun _ => 0)))]) ++ [(q4, .inl (G.2.1, 20, .inl (fun _ => 0)))]) ++ [(q5, .inl (G.2.1, 20, .inl (fun _ => 0)))]) ++ [(q6, .inl (G.2.1, 16, .inl (fun _ => 0)))]) ++ [(q7, .inl (G.2.1, 16, .inl (fun _ => 0)))]) H := hP
  have hD : va_D A ((((((([(h0, .inr (6, [.ref q1, .ref q2, .ref q3, .ref q4, .ref q5, .ref q6, .ref q7, .int 0, .int 0, .int 0, .int 0, .int 0]))] ++ [(q1, .inl (G.2.1, 4, .inl (fun _ => 0)))]) ++ [(q2, .inl (G.2.1, 4, .inl (fun _ => 0)))]) ++ [(q3, .inl (G.2.1, 20, .inl (fun _ => 0)))]) ++ [(q4, .inl (G.2.1, 20, .inl (fun _ => 0)))]) ++ [(q5, .inl (G.2.1, 20, .inl (fun _ => 0)))]) ++ [(q6, .inl (G.2.1, 16, .inl (fun _ => 0)))]) ++ [(q7, .inl (G.2.1, 16, .inl (fun _ => 0)))]) := hD
  refine lv_aload_n hx hb dX6_init_63 rfl (lv_at hl 0 rfl) ?_
  refine lv_iconst (v := 0) hx hb dX6_init_64 (by decide) ?_
  refine va_put (D := G.1) (ci := 6) (v := .int 0) (ty := .int) (C := RX6) (T := TX6) (N := 12) hx hb hts in_ctor6 tyX6 tyX6_ok nmX6 hown hK.1 hP hD hS 0 rfl rfl 8 (by decide) (hts (.fieldLink RX6 37 "RuleCourt$View" "applies" "I") (by decide +kernel)) (fun _ h9 => h9) rfl rfl (by first | rfl | decide) rfl (Nat.le_of_ble_eq_true rfl) dX6_init_65 (fun H locs hP hD hS => ?_)
  have hP : va_P G.1 vwCl ((((((([(h0, .inr (6, [.ref q1, .ref q2, .ref q3, .ref q4, .ref q5, .ref q6, .ref q7, .int 0, .int 0, .int 0, .int 0, .int 0]))] ++ [(q1, .inl (G.2.1, 4, .inl (fun _ => 0)))]) ++ [(q2, .inl (G.2.1, 4, .inl (fun _ => 0)))]) ++ [(q3, .inl (G.2.1, 20, .inl (fun _ => 0)))]) ++ [(q4, .inl (G.2.1, 20, .inl (fun _ => 0)))]) ++ [(q5, .inl (G.2.1, 20, .inl (fun _ => 0)))]) ++ [(q6, .inl (G.2.1, 16, .inl (fun _ => 0)))]) ++ [(q7, .inl (G.2.1, 16, .inl (fun _ => 0)))]) H := hP
  have hD : va_D A ((((((([(h0, .inr (6, [.ref q1, .ref q2, .ref q3, .ref q4, .ref q5, .ref q6, .ref q7, .int 0, .int 0, .int 0, .int 0, .int 0]))] ++ [(q1, .inl (G.2.1, 4, .inl (fun _ => 0)))]) ++ [(q2, .inl (G.2.1, 4, .inl (fun _ => 0)))]) ++ [(q3, .inl (G.2.1, 20, .inl (fun _ => 0)))]) ++ [(q4, .inl (G.2.1, 20, .inl (fun _ => 0)))]) ++ [(q5, .inl (G.2.1, 20, .inl (fun _ => 0)))]) ++ [(q6, .inl (G.2.1, 16, .inl (fun _ => 0)))]) ++ [(q7, .inl (G.2.1, 16, .inl (fun _ => 0)))]) := hD
  refine lv_aload_n hx hb dX6_init_68 rfl (lv_at hl 0 rfl) ?_
  refine lv_iconst (v := 0) hx hb dX6_init_69 (by decide) ?_
  refine va_put (D := G.1) (ci := 6) (v := .int 0) (ty := .int) (C := RX6) (T := TX6) (N := 12) hx hb hts in_ctor6 tyX6 tyX6_ok nmX6 hown hK.1 hP hD hS 0 rfl rfl 9 (by decide) (hts (.fieldLink RX6 40 "RuleCourt$View" "falls" "I") (by decide +kernel)) (fun _ h9 => h9) rfl rfl (by first | rfl | decide) rfl (Nat.le_of_ble_eq_true rfl) dX6_init_70 (fun H locs hP hD hS => ?_)
  have hP : va_P G.1 vwCl ((((((([(h0, .inr (6, [.ref q1, .ref q2, .ref q3, .ref q4, .ref q5, .ref q6, .ref q7, .int 0, .int 0, .int 0, .int 0, .int 0]))] ++ [(q1, .inl (G.2.1, 4, .inl (fun _ => 0)))]) ++ [(q2, .inl (G.2.1, 4, .inl (fun _ => 0)))]) ++ [(q3, .inl (G.2.1, 20, .inl (fun _ => 0)))]) ++ [(q4, .inl (G.2.1, 20, .inl (fun _ => 0)))]) ++ [(q5, .inl (G.2.1, 20, .inl (fun _ => 0)))]) ++ [(q6, .inl (G.2.1, 16, .inl (fun _ => 0)))]) ++ [(q7, .inl (G.2.1, 16, .inl (fun _ => 0)))]) H := hP
  have hD : va_D A ((((((([(h0, .inr (6, [.ref q1, .ref q2, .ref q3, .ref q4, .ref q5, .ref q6, .ref q7, .int 0, .int 0, .int 0, .int 0, .int 0]))] ++ [(q1, .inl (G.2.1, 4, .inl (fun _ => 0)))]) ++ [(q2, .inl (G.2.1, 4, .inl (fun _ => 0)))]) ++ [(q3, .inl (G.2.1, 20, .inl (fun _ => 0)))]) ++ [(q4, .inl (G.2.1, 20, .inl (fun _ => 0)))]) ++ [(q5, .inl (G.2.1, 20, .inl (fun _ => 0)))]) ++ [(q6, .inl (G.2.1, 16, .inl (fun _ => 0)))]) ++ [(q7, .inl (G.2.1, 16, .inl (fun _ => 0)))]) := hD
  refine lv_aload_n hx hb dX6_init_73 rfl (lv_at hl 0 rfl) ?_
  refine lv_iconst (v := 0) hx hb dX6_init_74 (by decide) ?_
  refine va_put (D := G.1) (ci := 6) (v := .int 0) (ty := .int) (C := RX6) (T := TX6) (N := 12) hx hb hts in_ctor6 tyX6 tyX6_ok nmX6 hown hK.1 hP hD hS 0 rfl rfl 10 (by decide) (hts (.fieldLink RX6 43 "RuleCourt$View" "sureBodies" "I") (by decide +kernel)) (fun _ h9 => h9) rfl rfl (by first | rfl | decide) rfl (Nat.le_of_ble_eq_true rfl) dX6_init_75 (fun H locs hP hD hS => ?_)
  have hP : va_P G.1 vwCl ((((((([(h0, .inr (6, [.ref q1, .ref q2, .ref q3, .ref q4, .ref q5, .ref q6, .ref q7, .int 0, .int 0, .int 0, .int 0, .int 0]))] ++ [(q1, .inl (G.2.1, 4, .inl (fun _ => 0)))]) ++ [(q2, .inl (G.2.1, 4, .inl (fun _ => 0)))]) ++ [(q3, .inl (G.2.1, 20, .inl (fun _ => 0)))]) ++ [(q4, .inl (G.2.1, 20, .inl (fun _ => 0)))]) ++ [(q5, .inl (G.2.1, 20, .inl (fun _ => 0)))]) ++ [(q6, .inl (G.2.1, 16, .inl (fun _ => 0)))]) ++ [(q7, .inl (G.2.1, 16, .inl (fun _ => 0)))]) H := hP
  have hD : va_D A ((((((([(h0, .inr (6, [.ref q1, .ref q2, .ref q3, .ref q4, .ref q5, .ref q6, .ref q7, .int 0, .int 0, .int 0, .int 0, .int 0]))] ++ [(q1, .inl (G.2.1, 4, .inl (fun _ => 0)))]) ++ [(q2, .inl (G.2.1, 4, .inl (fun _ => 0)))]) ++ [(q3, .inl (G.2.1, 20, .inl (fun _ => 0)))]) ++ [(q4, .inl (G.2.1, 20, .inl (fun _ => 0)))]) ++ [(q5, .inl (G.2.1, 20, .inl (fun _ => 0)))]) ++ [(q6, .inl (G.2.1, 16, .inl (fun _ => 0)))]) ++ [(q7, .inl (G.2.1, 16, .inl (fun _ => 0)))]) := hD
  refine lv_aload_n hx hb dX6_init_78 rfl (lv_at hl 0 rfl) ?_
  refine lv_iconst (v := 0) hx hb dX6_init_79 (by decide) ?_
  refine va_put (D := G.1) (ci := 6) (v := .int 0) (ty := .int) (C := RX6) (T := TX6) (N := 12) hx hb hts in_ctor6 tyX6 tyX6_ok nmX6 hown hK.1 hP hD hS 0 rfl rfl 11 (by decide) (hts (.fieldLink RX6 46 "RuleCourt$View" "neverBodies" "I") (by decide +kernel)) (fun _ h9 => h9) rfl rfl (by first | rfl | decide) rfl (Nat.le_of_ble_eq_true rfl) dX6_init_80 (fun H locs hP hD hS => ?_)
  have hP : va_P G.1 vwCl ((((((([(h0, .inr (6, [.ref q1, .ref q2, .ref q3, .ref q4, .ref q5, .ref q6, .ref q7, .int 0, .int 0, .int 0, .int 0, .int 0]))] ++ [(q1, .inl (G.2.1, 4, .inl (fun _ => 0)))]) ++ [(q2, .inl (G.2.1, 4, .inl (fun _ => 0)))]) ++ [(q3, .inl (G.2.1, 20, .inl (fun _ => 0)))]) ++ [(q4, .inl (G.2.1, 20, .inl (fun _ => 0)))]) ++ [(q5, .inl (G.2.1, 20, .inl (fun _ => 0)))]) ++ [(q6, .inl (G.2.1, 16, .inl (fun _ => 0)))]) ++ [(q7, .inl (G.2.1, 16, .inl (fun _ => 0)))]) H := hP
  have hD : va_D A ((((((([(h0, .inr (6, [.ref q1, .ref q2, .ref q3, .ref q4, .ref q5, .ref q6, .ref q7, .int 0, .int 0, .int 0, .int 0, .int 0]))] ++ [(q1, .inl (G.2.1, 4, .inl (fun _ => 0)))]) ++ [(q2, .inl (G.2.1, 4, .inl (fun _ => 0)))]) ++ [(q3, .inl (G.2.1, 20, .inl (fun _ => 0)))]) ++ [(q4, .inl (G.2.1, 20, .inl (fun _ => 0)))]) ++ [(q5, .inl (G.2.1, 20, .inl (fun _ => 0)))]) ++ [(q6, .inl (G.2.1, 16, .inl (fun _ => 0)))]) ++ [(q7, .inl (G.2.1, 16, .inl (fun _ => 0)))]) := hD
  exact W.vret hx hb hr (fun t ht hW => ⟨⟨(), rfl, trivial, _, ⟨zad [h0, q1, q2, q3, q4, q5, q6, q7], rfl, rfl⟩, by rw [ht]; exact hP, hD⟩, hS.F ht⟩) hS.2.2 dX6_init_83
theorem in_ctor7 : ∀ w ∈ u_ws RX7 TX7 10, w ∈ wsX7_init := by decide +kernel
theorem zdf7 : ∀ j, j < 10 → defaultValue (tyX7 j) = vp_V [.null, .null, .null, .null, .null, .null, .null, .int 0, .int 0, .int 0] j := by decide +kernel
def rmX7_init : Room := { frames := 1, cells := 7, slots := 480, locals := 12 }
set_option maxHeartbeats 4000000 in
set_option maxRecDepth 100000 in
theorem c_X7_init (l : Launch) (G : zG) : zNew l yX7_init wsX7_init rmX7_init G 7 [.null, .null, .null, .null, .null, .null, .null, .int 0, .int 0, .int 0] 7 480 (fun q w => ∃ a : Nat → Nat, a 0 = q ∧ w = w7 G a zz7) := by
  intro h0 sz
  refine Met.ofW (cc := cX7_init) (maxL := 1) (ret := none) (by decide +kernel) rfl ?_
  intro p e s m args below meth c s₁ B hml hv
  obtain ⟨rfl, hsz, hP, hK, hD0⟩ := hv
  have hx := B.exec
  have hb := B.bytes
  have hr := B.returns
  have hts := atoms_spec (ws := wsX7_init) B.pre
  have hown : s.vm.findClass RX7 = some m.cls := findClass_of_methodNamed B.named
  have hlocks := B.notSynchronized
  have hin : meth.name = "<init>" := (name_of_methodNamed B.named B.method).1
  have S : CallFix p m c cX7_init 1 s _ wsX7_init RX7 := ⟨hx, hb, hml, hown, hts⟩
  subst hsz
  have hD := hD0.self (sz := s.heap.size)
  generalize hAe : va_A [((h0, .inr (7, [.null, .null, .null, .null, .null, .null, .null, .int 0, .int 0, .int 0])) : Nat × va_E)] s.heap.size = A at hD ⊢
  have hA : ∀ q : Nat, s.heap.size ≤ q → A q := fun q h => by rw [← hAe]; exact Or.inr h
  have hS : va_S A s.heap s.heap [] := va_S.rf
  have hP : va_P G.1 vwCl [(h0, .inr (7, [.null, .null, .null, .null, .null, .null, .null, .int 0, .int 0, .int 0]))] s.heap := hP
  have hl := lv_entry ([.ref h0]) (n := 1) (Nat.le_of_ble_eq_true rfl)
  rw [lg_entry_eq]
  generalize (lg_sl ([.ref h0]) ++ List.replicate (1 - (lg_sl ([.ref h0])).length) Slot.unset).toArray = ls at hl ⊢
  have hl : lv_has ls 1 [(0, .ref h0)] := hl
  refine lv_aload_n hx hb dX7_init_0 rfl (lv_at hl 0 rfl) ?_
  refine W.objInit hx hb hown (hts (.methodLink RX7 3 objectInit) (by decide +kernel)) (hts (.instanceMethod objectInit) (by decide +kernel)) (hts (.code objectInit ⟨#[0xb1]⟩ 1 none) (by decide +kernel)) rfl (by rw [hml]; exact hl.1) rfl dX7_init_1 (Nat.le_of_ble_eq_true rfl) (Nat.le_of_ble_eq_true rfl) ?_
  refine W.eq (g2 := F0 m 4 ls []) rfl ?_
  refine lv_aload_n hx hb dX7_init_4 rfl (lv_at hl 0 rfl) ?_
  refine lv_bipush (v := 120) hx hb dX7_init_5 (by decide) ?_
  refine zc_newa (N := 120) S (by decide +kernel) hK hP hD hS hA rfl (by decide) (Nat.le_of_ble_eq_true rfl) (Nat.le_of_ble_eq_true rfl) dX7_init_7 (fun q1 H hP hD hS => ?_)
  have hP : va_P G.1 vwCl ([(h0, .inr (7, [.null, .null, .null, .null, .null, .null, .null, .int 0, .int 0, .int 0]))] ++ [(q1, .inl (G.2.1, 120, .inl (fun _ => 0)))]) H := hP
  have hD : va_D A ([(h0, .inr (7, [.null, .null, .null, .null, .null, .null, .null, .int 0, .int 0, .int 0]))] ++ [(q1, .inl (G.2.1, 120, .inl (fun _ => 0)))]) := hD
  refine va_putF (D := G.1) (ci := 7) (v := .ref q1) (ty := .array .int) (C := RX7) (T := TX7) (N := 10) hx hb hts in_ctor7 tyX7 tyX7_ok nmX7 hown hK.1 hP hD hS 0 rfl rfl 0 (by decide) (hts (.fieldLink RX7 9 "RuleCourt$Words" "tape" "[I") (by decide +kernel)) (fun _ h9 => h9) rfl hin rfl rfl (by first | rfl | decide) rfl (Nat.le_of_ble_eq_true rfl) dX7_init_9 (fun H locs hP hD hS => ?_)
  have hP : va_P G.1 vwCl ([(h0, .inr (7, [.ref q1, .null, .null, .null, .null, .null, .null, .int 0, .int 0, .int 0]))] ++ [(q1, .inl (G.2.1, 120, .inl (fun _ => 0)))]) H := hP
  have hD : va_D A ([(h0, .inr (7, [.ref q1, .null, .null, .null, .null, .null, .null, .int 0, .int 0, .int 0]))] ++ [(q1, .inl (G.2.1, 120, .inl (fun _ => 0)))]) := hD
  refine lv_aload_n hx hb dX7_init_12 rfl (lv_at hl 0 rfl) ?_
  refine lv_bipush (v := 60) hx hb dX7_init_13 (by decide) ?_
  refine zc_newa (N := 60) S (by decide +kernel) hK hP hD hS hA rfl (by decide) (Nat.le_of_ble_eq_true rfl) (Nat.le_of_ble_eq_true rfl) dX7_init_15 (fun q2 H hP hD hS => ?_)
  have hP : va_P G.1 vwCl (([(h0, .inr (7, [.ref q1, .null, .null, .null, .null, .null, .null, .int 0, .int 0, .int 0]))] ++ [(q1, .inl (G.2.1, 120, .inl (fun _ => 0)))]) ++ [(q2, .inl (G.2.1, 60, .inl (fun _ => 0)))]) H := hP
  have hD : va_D A (([(h0, .inr (7, [.ref q1, .null, .null, .null, .null, .null, .null, .int 0, .int 0, .int 0]))] ++ [(q1, .inl (G.2.1, 120, .inl (fun _ => 0)))]) ++ [(q2, .inl (G.2.1, 60, .inl (fun _ => 0)))]) := hD
  refine va_putF (D := G.1) (ci := 7) (v := .ref q2) (ty := .array .int) (C := RX7) (T := TX7) (N := 10) hx hb hts in_ctor7 tyX7 tyX7_ok nmX7 hown hK.1 hP hD hS 0 rfl rfl 1 (by decide) (hts (.fieldLink RX7 15 "RuleCourt$Words" "sort" "[I") (by decide +kernel)) (fun _ h9 => h9) rfl hin rfl rfl (by first | rfl | decide) rfl (Nat.le_of_ble_eq_true rfl) dX7_init_17 (fun H locs hP hD hS => ?_)
  have hP : va_P G.1 vwCl (([(h0, .inr (7, [.ref q1, .ref q2, .null, .null, .null, .null, .null, .int 0, .int 0, .int 0]))] ++ [(q1, .inl (G.2.1, 120, .inl (fun _ => 0)))]) ++ [(q2, .inl (G.2.1, 60, .inl (fun _ => 0)))]) H := hP
  have hD : va_D A (([(h0, .inr (7, [.ref q1, .ref q2, .null, .null, .null, .null, .null, .int 0, .int 0, .int 0]))] ++ [(q1, .inl (G.2.1, 120, .inl (fun _ => 0)))]) ++ [(q2, .inl (G.2.1, 60, .inl (fun _ => 0)))]) := hD
  refine lv_aload_n hx hb dX7_init_20 rfl (lv_at hl 0 rfl) ?_
  refine lv_bipush (v := 60) hx hb dX7_init_21 (by decide) ?_
  refine zc_newa (N := 60) S (by decide +kernel) hK hP hD hS hA rfl (by decide) (Nat.le_of_ble_eq_true rfl) (Nat.le_of_ble_eq_true rfl) dX7_init_23 (fun q3 H hP hD hS => ?_)
  have hP : va_P G.1 vwCl ((([(h0, .inr (7, [.ref q1, .ref q2, .null, .null, .null, .null, .null, .int 0, .int 0, .int 0]))] ++ [(q1, .inl (G.2.1, 120, .inl (fun _ => 0)))]) ++ [(q2, .inl (G.2.1, 60, .inl (fun _ => 0)))]) ++ [(q3, .inl (G.2.1, 60, .inl (fun _ => 0)))]) H := hP
  have hD : va_D A ((([(h0, .inr (7, [.ref q1, .ref q2, .null, .null, .null, .null, .null, .int 0, .int 0, .int 0]))] ++ [(q1, .inl (G.2.1, 120, .inl (fun _ => 0)))]) ++ [(q2, .inl (G.2.1, 60, .inl (fun _ => 0)))]) ++ [(q3, .inl (G.2.1, 60, .inl (fun _ => 0)))]) := hD
  refine va_putF (D := G.1) (ci := 7) (v := .ref q3) (ty := .array .int) (C := RX7) (T := TX7) (N := 10) hx hb hts in_ctor7 tyX7 tyX7_ok nmX7 hown hK.1 hP hD hS 0 rfl rfl 2 (by decide) (hts (.fieldLink RX7 18 "RuleCourt$Words" "head" "[I") (by decide +kernel)) (fun _ h9 => h9) rfl hin rfl rfl (by first | rfl | decide) rfl (Nat.le_of_ble_eq_true rfl) dX7_init_25 (fun H locs hP hD hS => ?_)
  have hP : va_P G.1 vwCl ((([(h0, .inr (7, [.ref q1, .ref q2, .ref q3, .null, .null, .null, .null, .int 0, .int 0, .int 0]))] ++ [(q1, .inl (G.2.1, 120, .inl (fun _ => 0)))]) ++ [(q2, .inl (G.2.1, 60, .inl (fun _ => 0)))]) ++ [(q3, .inl (G.2.1, 60, .inl (fun _ => 0)))]) H := hP
  have hD : va_D A ((([(h0, .inr (7, [.ref q1, .ref q2, .ref q3, .null, .null, .null, .null, .int 0, .int 0, .int 0]))] ++ [(q1, .inl (G.2.1, 120, .inl (fun _ => 0)))]) ++ [(q2, .inl (G.2.1, 60, .inl (fun _ => 0)))]) ++ [(q3, .inl (G.2.1, 60, .inl (fun _ => 0)))]) := hD
  refine lv_aload_n hx hb dX7_init_28 rfl (lv_at hl 0 rfl) ?_
  refine lv_bipush (v := 60) hx hb dX7_init_29 (by decide) ?_
  refine zc_newa (N := 60) S (by decide +kernel) hK hP hD hS hA rfl (by decide) (Nat.le_of_ble_eq_true rfl) (Nat.le_of_ble_eq_true rfl) dX7_init_31 (fun q4 H hP hD hS => ?_)
  have hP : va_P G.1 vwCl (((([(h0, .inr (7, [.ref q1, .ref q2, .ref q3, .null, .null, .null, .null, .int 0, .int 0, .int 0]))] ++ [(q1, .inl (G.2.1, 120, .inl (fun _ => 0)))]) ++ [(q2, .inl (G.2.1, 60, .inl (fun _ => 0)))]) ++ [(q3, .inl (G.2.1, 60, .inl (fun _ => 0)))]) ++ [(q4, .inl (G.2.1, 60, .inl (fun _ => 0)))]) H := hP
  have hD : va_D A (((([(h0, .inr (7, [.ref q1, .ref q2, .ref q3, .null, .null, .null, .null, .int 0, .int 0, .int 0]))] ++ [(q1, .inl (G.2.1, 120, .inl (fun _ => 0)))]) ++ [(q2, .inl (G.2.1, 60, .inl (fun _ => 0)))]) ++ [(q3, .inl (G.2.1, 60, .inl (fun _ => 0)))]) ++ [(q4, .inl (G.2.1, 60, .inl (fun _ => 0)))]) := hD
  refine va_putF (D := G.1) (ci := 7) (v := .ref q4) (ty := .array .int) (C := RX7) (T := TX7) (N := 10) hx hb hts in_ctor7 tyX7 tyX7_ok nmX7 hown hK.1 hP hD hS 0 rfl rfl 3 (by decide) (hts (.fieldLink RX7 21 "RuleCourt$Words" "body" "[I") (by decide +kernel)) (fun _ h9 => h9) rfl hin rfl rfl (by first | rfl | decide) rfl (Nat.le_of_ble_eq_true rfl) dX7_init_33 (fun H locs hP hD hS => ?_)
  have hP : va_P G.1 vwCl (((([(h0, .inr (7, [.ref q1, .ref q2, .ref q3, .ref q4, .null, .null, .null, .int 0, .int 0, .int 0]))] ++ [(q1, .inl (G.2.1, 120, .inl (fun _ => 0)))]) ++ [(q2, .inl (G.2.1, 60, .inl (fun _ => 0)))]) ++ [(q3, .inl (G.2.1, 60, .inl (fun _ => 0)))]) ++ [(q4, .inl (G.2.1, 60, .inl (fun _ => 0)))]) H := hP
  have hD : va_D A (((([(h0, .inr (7, [.ref q1, .ref q2, .ref q3, .ref q4, .null, .null, .null, .int 0, .int 0, .int 0]))] ++ [(q1, .inl (G.2.1, 120, .inl (fun _ => 0)))]) ++ [(q2, .inl (G.2.1, 60, .inl (fun _ => 0)))]) ++ [(q3, .inl (G.2.1, 60, .inl (fun _ => 0)))]) ++ [(q4, .inl (G.2.1, 60, .inl (fun _ => 0)))]) := hD
  refine lv_aload_n hx hb dX7_init_36 rfl (lv_at hl 0 rfl) ?_
  refine lv_bipush (v := 60) hx hb dX7_init_37 (by decide) ?_
  refine zc_newa (N := 60) S (by decide +kernel) hK hP hD hS hA rfl (by decide) (Nat.le_of_ble_eq_true rfl) (Nat.le_of_ble_eq_true rfl) dX7_init_39 (fun q5 H hP hD hS => ?_)
  have hP : va_P G.1 vwCl ((((([(h0, .inr (7, [.ref q1, .ref q2, .ref q3, .ref q4, .null, .null, .null, .int 0, .int 0, .int 0]))] ++ [(q1, .inl (G.2.1, 120, .inl (fun _ => 0)))]) ++ [(q2, .inl (G.2.1, 60, .inl (fun _ => 0)))]) ++ [(q3, .inl (G.2.1, 60, .inl (fun _ => 0)))]) ++ [(q4, .inl (G.2.1, 60, .inl (fun _ => 0)))]) ++ [(q5, .inl (G.2.1, 60, .inl (fun _ => 0)))]) H := hP
  have hD : va_D A ((((([(h0, .inr (7, [.ref q1, .ref q2, .ref q3, .ref q4, .null, .null, .null, .int 0, .int 0, .int 0]))] ++ [(q1, .inl (G.2.1, 120, .inl (fun _ => 0)))]) ++ [(q2, .inl (G.2.1, 60, .inl (fun _ => 0)))]) ++ [(q3, .inl (G.2.1, 60, .inl (fun _ => 0)))]) ++ [(q4, .inl (G.2.1, 60, .inl (fun _ => 0)))]) ++ [(q5, .inl (G.2.1, 60, .inl (fun _ => 0)))]) := hD
  refine va_putF (D := G.1) (ci := 7) (v := .ref q5) (ty := .array .int) (C := RX7) (T := TX7) (N := 10) hx hb hts in_ctor7 tyX7 tyX7_ok nmX7 hown hK.1 hP hD hS 0 rfl rfl 4 (by decide) (hts (.fieldLink RX7 24 "RuleCourt$Words" "excepts" "[I") (by decide +kernel)) (fun _ h9 => h9) rfl hin rfl rfl (by first | rfl | decide) rfl (Nat.le_of_ble_eq_true rfl) dX7_init_41 (fun H locs hP hD hS => ?_)
  have hP : va_P G.1 vwCl ((((([(h0, .inr (7, [.ref q1, .ref q2, .ref q3, .ref q4, .ref q5, .null, .null, .int 0, .int 0, .int 0]))] ++ [(q1, .inl (G.2.1, 120, .inl (fun _ => 0)))]) ++ [(q2, .inl (G.2.1, 60, .inl (fun _ => 0)))]) ++ [(q3, .inl (G.2.1, 60, .inl (fun _ => 0)))]) ++ [(q4, .inl (G.2.1, 60, .inl (fun _ => 0)))]) ++ [(q5, .inl (G.2.1, 60, .inl (fun _ => 0)))]) H := hP
  have hD : va_D A ((((([(h0, .inr (7, [.ref q1, .ref q2, .ref q3, .ref q4, .ref q5, .null, .null, .int 0, .int 0, .int 0]))] ++ [(q1, .inl (G.2.1, 120, .inl (fun _ => 0)))]) ++ [(q2, .inl (G.2.1, 60, .inl (fun _ => 0)))]) ++ [(q3, .inl (G.2.1, 60, .inl (fun _ => 0)))]) ++ [(q4, .inl (G.2.1, 60, .inl (fun _ => 0)))]) ++ [(q5, .inl (G.2.1, 60, .inl (fun _ => 0)))]) := hD
  refine lv_aload_n hx hb dX7_init_44 rfl (lv_at hl 0 rfl) ?_
  refine lv_bipush (v := 60) hx hb dX7_init_45 (by decide) ?_
  refine zc_newa (N := 60) S (by decide +kernel) hK hP hD hS hA rfl (by decide) (Nat.le_of_ble_eq_true rfl) (Nat.le_of_ble_eq_true rfl) dX7_init_47 (fun q6 H hP hD hS => ?_)
  have hP : va_P G.1 vwCl (((((([(h0, .inr (7, [.ref q1, .ref q2, .ref q3, .ref q4, .ref q5, .null, .null, .int 0, .int 0, .int 0]))] ++ [(q1, .inl (G.2.1, 120, .inl (fun _ => 0)))]) ++ [(q2, .inl (G.2.1, 60, .inl (fun _ => 0)))]) ++ [(q3, .inl (G.2.1, 60, .inl (fun _ => 0)))]) ++ [(q4, .inl (G.2.1, 60, .inl (fun _ => 0)))]) ++ [(q5, .inl (G.2.1, 60, .inl (fun _ => 0)))]) ++ [(q6, .inl (G.2.1, 60, .inl (fun _ => 0)))]) H := hP
  have hD : va_D A (((((([(h0, .inr (7, [.ref q1, .ref q2, .ref q3, .ref q4, .ref q5, .null, .null, .int 0, .int 0, .int 0]))] ++ [(q1, .inl (G.2.1, 120, .inl (fun _ => 0)))]) ++ [(q2, .inl (G.2.1, 60, .inl (fun _ => 0)))]) ++ [(q3, .inl (G.2.1, 60, .inl (fun _ => 0)))]) ++ [(q4, .inl (G.2.1, 60, .inl (fun _ => 0)))]) ++ [(q5, .inl (G.2.1, 60, .inl (fun _ => 0)))]) ++ [(q6, .inl (G.2.1, 60, .inl (fun _ => 0)))]) := hD
  refine va_putF (D := G.1) (ci := 7) (v := .ref q6) (ty := .array .int) (C := RX7) (T := TX7) (N := 10) hx hb hts in_ctor7 tyX7 tyX7_ok nmX7 hown hK.1 hP hD hS 0 rfl rfl 5 (by decide) (hts (.fieldLink RX7 27 "RuleCourt$Words" "power" "[I") (by decide +kernel)) (fun _ h9 => h9) rfl hin rfl rfl (by first | rfl | decide) rfl (Nat.le_of_ble_eq_true rfl) dX7_init_49 (fun H locs hP hD hS => ?_)
  have hP : va_P G.1 vwCl (((((([(h0, .inr (7, [.ref q1, .ref q2, .ref q3, .ref q4, .ref q5, .ref q6, .null, .int 0, .int 0, .int 0]))] ++ [(q1, .inl (G.2.1, 120, .inl (fun _ => 0)))]) ++ [(q2, .inl (G.2.1, 60, .inl (fun _ => 0)))]) ++ [(q3, .inl (G.2.1, 60, .inl (fun _ => 0)))]) ++ [(q4, .inl (G.2.1, 60, .inl (fun _ => 0)))]) ++ [(q5, .inl (G.2.1, 60, .inl (fun _ => 0)))]) ++ [(q6, .inl (G.2.1, 60, .inl (fun _ => 0)))]) H := hP
  have hD : va_D A (((((([(h0, .inr (7, [.ref q1, .ref q2, .ref q3, .ref q4, .ref q5, .ref q6, .null, .int 0, .int 0, .int 0]))] ++ [(q1, .inl (G.2.1, 120, .inl (fun _ => 0)))]) ++ [(q2, .inl (G.2.1, 60, .inl (fun _ => 0)))]) ++ [(q3, .inl (G.2.1, 60, .inl (fun _ => 0)))]) ++ [(q4, .inl (G.2.1, 60, .inl (fun _ => 0)))]) ++ [(q5, .inl (G.2.1, 60, .inl (fun _ => 0)))]) ++ [(q6, .inl (G.2.1, 60, .inl (fun _ => 0)))]) := hD
  refine lv_aload_n hx hb dX7_init_52 rfl (lv_at hl 0 rfl) ?_
  refine lv_bipush (v := 60) hx hb dX7_init_53 (by decide) ?_
  refine zc_newa (N := 60) S (by decide +kernel) hK hP hD hS hA rfl (by decide) (Nat.le_of_ble_eq_true rfl) (Nat.le_of_ble_eq_true rfl) dX7_init_55 (fun q7 H hP hD hS => ?_)
  have hP : va_P G.1 vwCl ((((((([(h0, .inr (7, [.ref q1, .ref q2, .ref q3, .ref q4, .ref q5, .ref q6, .null, .int 0, .int 0, .int 0]))] ++ [(q1, .inl (G.2.1, 120, .inl (fun _ => 0)))]) ++ [(q2, .inl (G.2.1, 60, .inl (fun _ => 0)))]) ++ [(q3, .inl (G.2.1, 60, .inl (fun _ => 0)))]) ++ [(q4, .inl (G.2.1, 60, .inl (fun _ => 0)))]) ++ [(q5, .inl (G.2.1, 60, .inl (fun _ => 0)))]) ++ [(q6, .inl (G.2.1, 60, .inl (fun _ => 0)))]) ++ [(q7, .inl (G.2.1, 60, .inl (fun _ => 0)))]) H := hP
  have hD : va_D A ((((((([(h0, .inr (7, [.ref q1, .ref q2, .ref q3, .ref q4, .ref q5, .ref q6, .null, .int 0, .int 0, .int 0]))] ++ [(q1, .inl (G.2.1, 120, .inl (fun _ => 0)))]) ++ [(q2, .inl (G.2.1, 60, .inl (fun _ => 0)))]) ++ [(q3, .inl (G.2.1, 60, .inl (fun _ => 0)))]) ++ [(q4, .inl (G.2.1, 60, .inl (fun _ => 0)))]) ++ [(q5, .inl (G.2.1, 60, .inl (fun _ => 0)))]) ++ [(q6, .inl (G.2.1, 60, .inl (fun _ => 0)))]) ++ [(q7, .inl (G.2.1, 60, .inl (fun _ => 0)))]) := hD
  refine va_putF (D := G.1) (ci := 7) (v := .ref q7) (ty := .array .int) (C := RX7) (T := TX7) (N := 10) hx hb hts in_ctor7 tyX7 tyX7_ok nmX7 hown hK.1 hP hD hS 0 rfl rfl 6 (by decide) (hts (.fieldLink RX7 30 "RuleCourt$Words" "begins" "[I") (by decide +kernel)) (fun _ h9 => h9) rfl hin rfl rfl (by first | rfl | decide) rfl (Nat.le_of_ble_eq_true rfl) dX7_init_57 (fun H locs hP hD hS => ?_)
  have hP : va_P G.1 vwCl ((((((([(h0, .inr (7, [.ref q1, .ref q2, .ref q3, .ref q4, .ref q5, .ref q6, .ref q7, .int 0, .int 0, .int 0]))] ++ [(q1, .inl (G.2.1, 120, .inl (fun _ => 0)))]) ++ [(q2, .inl (G.2.1, 60, .inl (fun _ => 0)))]) ++ [(q3, .inl (G.2.1, 60, .inl (fun _ => 0)))]) ++ [(q4, .inl (G.2.1, 60, .inl (fun _ => 0)))]) ++ [(q5, .inl (G.2.1, 60, .inl (fun _ => 0)))]) ++ [(q6, .inl (G.2.1, 60, .inl (fun _ => 0)))]) ++ [(q7, .inl (G.2.1, 60, .inl (fun _ => 0)))]) H := hP
  have hD : va_D A ((((((([(h0, .inr (7, [.ref q1, .ref q2, .ref q3, .ref q4, .ref q5, .ref q6, .ref q7, .int 0, .int 0, .int 0]))] ++ [(q1, .inl (G.2.1, 120, .inl (fun _ => 0)))]) ++ [(q2, .inl (G.2.1, 60, .inl (fun _ => 0)))]) ++ [(q3, .inl (G.2.1, 60, .inl (fun _ => 0)))]) ++ [(q4, .inl (G.2.1, 60, .inl (fun _ => 0)))]) ++ [(q5, .inl (G.2.1, 60, .inl (fun _ => 0)))]) ++ [(q6, .inl (G.2.1, 60, .inl (fun _ => 0)))]) ++ [(q7, .inl (G.2.1, 60, .inl (fun _ => 0)))]) := hD
  refine lv_aload_n hx hb dX7_init_60 rfl (lv_at hl 0 rfl) ?_
  refine lv_iconst (v := 0) hx hb dX7_init_61 (by decide) ?_
  refine va_put (D := G.1) (ci := 7) (v := .int 0) (ty := .int) (C := RX7) (T := TX7) (N := 10) hx hb hts in_ctor7 tyX7 tyX7_ok nmX7 hown hK.1 hP hD hS 0 rfl rfl 7 (by decide) (hts (.fieldLink RX7 33 "RuleCourt$Words" "length" "I") (by decide +kernel)) (fun _ h9 => h9) rfl rfl (by first | rfl | decide) rfl (Nat.le_of_ble_eq_true rfl) dX7_init_62 (fun H locs hP hD hS => ?_)
  have hP : va_P G.1 vwCl ((((((([(h0, .inr (7, [.ref q1, .ref q2, .ref q3, .ref q4, .ref q5, .ref q6, .ref q7, .int 0, .int 0, .int 0]))] ++ [(q1, .inl (G.2.1, 120, .inl (fun _ => 0)))]) ++ [(q2, .inl (G.2.1, 60, .inl (fun _ => 0)))]) ++ [(q3, .inl (G.2.1, 60, .inl (fun _ => 0)))]) ++ [(q4, .inl (G.2.1, 60, .inl (fun _ => 0)))]) ++ [(q5, .inl (G.2.1, 60, .inl (fun _ => 0)))]) ++ [(q6, .inl (G.2.1, 60, .inl (fun _ => 0)))]) ++ [(q7, .inl (G.2.1, 60, .inl (fun _ => 0)))]) H := hP
  have hD : va_D A ((((((([(h0, .inr (7, [.ref q1, .ref q2, .ref q3, .ref q4, .ref q5, .ref q6, .ref q7, .int 0, .int 0, .int 0]))] ++ [(q1, .inl (G.2.1, 120, .inl (fun _ => 0)))]) ++ [(q2, .inl (G.2.1, 60, .inl (fun _ => 0)))]) ++ [(q3, .inl (G.2.1, 60, .inl (fun _ => 0)))]) ++ [(q4, .inl (G.2.1, 60, .inl (fun _ => 0)))]) ++ [(q5, .inl (G.2.1, 60, .inl (fun _ => 0)))]) ++ [(q6, .inl (G.2.1, 60, .inl (fun _ => 0)))]) ++ [(q7, .inl (G.2.1, 60, .inl (fun _ => 0)))]) := hD
  refine lv_aload_n hx hb dX7_init_65 rfl (lv_at hl 0 rfl) ?_
  refine lv_iconst (v := 0) hx hb dX7_init_66 (by decide) ?_
  refine va_put (D := G.1) (ci := 7) (v := .int 0) (ty := .int) (C := RX7) (T := TX7) (N := 10) hx hb hts in_ctor7 tyX7 tyX7_ok nmX7 hown hK.1 hP hD hS 0 rfl rfl 8 (by decide) (hts (.fieldLink RX7 37 "RuleCourt$Words" "at" "I") (by decide +kernel)) (fun _ h9 => h9) rfl rfl (by first | rfl | decide) rfl (Nat.le_of_ble_eq_true rfl) dX7_init_67 (fun H locs hP hD hS => ?_)
  have hP : va_P G.1 vwCl ((((((([(h0, .inr (7, [.ref q1, .ref q2, .ref q3, .ref q4, .ref q5, .ref q6, .ref q7, .int 0, .int 0, .int 0]))] ++ [(q1, .inl (G.2.1, 120, .inl (fun _ => 0)))]) ++ [(q2, .inl (G.2.1, 60, .inl (fun _ => 0)))]) ++ [(q3, .inl (G.2.1, 60, .inl (fun _ => 0)))]) ++ [(q4, .inl (G.2.1, 60, .inl (fun _ => 0)))]) ++ [(q5, .inl (G.2.1, 60, .inl (fun _ => 0)))]) ++ [(q6, .inl (G.2.1, 60, .inl (fun _ => 0)))]) ++ [(q7, .inl (G.2.1, 60, .inl (fun _ => 0)))]) H := hP
  have hD : va_D A ((((((([(h0, .inr (7, [.ref q1, .ref q2, .ref q3, .ref q4, .ref q5, .ref q6, .ref q7, .int 0, .int 0, .int 0]))] ++ [(q1, .inl (G.2.1, 120, .inl (fun _ => 0)))]) ++ [(q2, .inl (G.2.1, 60, .inl (fun _ => 0)))]) ++ [(q3, .inl (G.2.1, 60, .inl (fun _ => 0)))]) ++ [(q4, .inl (G.2.1, 60, .inl (fun _ => 0)))]) ++ [(q5, .inl (G.2.1, 60, .inl (fun _ => 0)))]) ++ [(q6, .inl (G.2.1, 60, .inl (fun _ => 0)))]) ++ [(q7, .inl (G.2.1, 60, .inl (fun _ => 0)))]) := hD
  refine lv_aload_n hx hb dX7_init_70 rfl (lv_at hl 0 rfl) ?_
  refine lv_iconst (v := 0) hx hb dX7_init_71 (by decide) ?_
  refine va_put (D := G.1) (ci := 7) (v := .int 0) (ty := .int) (C := RX7) (T := TX7) (N := 10) hx hb hts in_ctor7 tyX7 tyX7_ok nmX7 hown hK.1 hP hD hS 0 rfl rfl 9 (by decide) (hts (.fieldLink RX7 40 "RuleCourt$Words" "told" "I") (by decide +kernel)) (fun _ h9 => h9) rfl rfl (by first | rfl | decide) rfl (Nat.le_of_ble_eq_true rfl) dX7_init_72 (fun H locs hP hD hS => ?_)
  have hP : va_P G.1 vwCl ((((((([(h0, .inr (7, [.ref q1, .ref q2, .ref q3, .ref q4, .ref q5, .ref q6, .ref q7, .int 0, .int 0, .int 0]))] ++ [(q1, .inl (G.2.1, 120, .inl (fun _ => 0)))]) ++ [(q2, .inl (G.2.1, 60, .inl (fun _ => 0)))]) ++ [(q3, .inl (G.2.1, 60, .inl (fun _ => 0)))]) ++ [(q4, .inl (G.2.1, 60, .inl (fun _ => 0)))]) ++ [(q5, .inl (G.2.1, 60, .inl (fun _ => 0)))]) ++ [(q6, .inl (G.2.1, 60, .inl (fun _ => 0)))]) ++ [(q7, .inl (G.2.1, 60, .inl (fun _ => 0)))]) H := hP
  have hD : va_D A ((((((([(h0, .inr (7, [.ref q1, .ref q2, .ref q3, .ref q4, .ref q5, .ref q6, .ref q7, .int 0, .int 0, .int 0]))] ++ [(q1, .inl (G.2.1, 120, .inl (fun _ => 0)))]) ++ [(q2, .inl (G.2.1, 60, .inl (fun _ => 0)))]) ++ [(q3, .inl (G.2.1, 60, .inl (fun _ => 0)))]) ++ [(q4, .inl (G.2.1, 60, .inl (fun _ => 0)))]) ++ [(q5, .inl (G.2.1, 60, .inl (fun _ => 0)))]) ++ [(q6, .inl (G.2.1, 60, .inl (fun _ => 0)))]) ++ [(q7, .inl (G.2.1, 60, .inl (fun _ => 0)))]) := hD
  exact W.vret hx hb hr (fun t ht hW => ⟨⟨(), rfl, trivial, _, ⟨zad [h0, q1, q2, q3, q4, q5, q6, q7], rfl, rfl⟩, by rw [ht]; exact hP, hD⟩, hS.F ht⟩) hS.2.2 dX7_init_75
theorem in_ctor2 : ∀ w ∈ u_ws RX2 TX2 2, w ∈ wsX2_init := by decide +kernel
theorem zdf2 : ∀ j, j < 2 → defaultValue (tyX2 j) = vp_V [.null, .int 0] j := by decide +kernel
def rmX2_init : Room := { frames := 1, cells := 1, slots := 2000, locals := 12 }
set_option maxHeartbeats 4000000 in
set_option maxRecDepth 100000 in
theorem c_X2_init (l : Launch) (G : zG) : zNew l yX2_init wsX2_init rmX2_init G 2 [.null, .int 0] 1 2000 (fun q w => ∃ a : Nat → Nat, a 0 = q ∧ w = w2 G a zz2) := by
  intro h0 sz
  refine Met.ofW (cc := cX2_init) (maxL := 1) (ret := none) (by decide +kernel) rfl ?_
  intro p e s m args below meth c s₁ B hml hv
  obtain ⟨rfl, hsz, hP, hK, hD0⟩ := hv
  have hx := B.exec
  have hb := B.bytes
  have hr := B.returns
  have hts := atoms_spec (ws := wsX2_init) B.pre
  have hown : s.vm.findClass RX2 = some m.cls := findClass_of_methodNamed B.named
  have hlocks := B.notSynchronized
  have hin : meth.name = "<init>" := (name_of_methodNamed B.named B.method).1
  have S : CallFix p m c cX2_init 1 s _ wsX2_init RX2 := ⟨hx, hb, hml, hown, hts⟩
  subst hsz
  have hD := hD0.self (sz := s.heap.size)
  generalize hAe : va_A [((h0, .inr (2, [.null, .int 0])) : Nat × va_E)] s.heap.size = A at hD ⊢
  have hA : ∀ q : Nat, s.heap.size ≤ q → A q := fun q h => by rw [← hAe]; exact Or.inr h
  have hS : va_S A s.heap s.heap [] := va_S.rf
  have hP : va_P G.1 vwCl [(h0, .inr (2, [.null, .int 0]))] s.heap := hP
  have hl := lv_entry ([.ref h0]) (n := 1) (Nat.le_of_ble_eq_true rfl)
  rw [lg_entry_eq]
  generalize (lg_sl ([.ref h0]) ++ List.replicate (1 - (lg_sl ([.ref h0])).length) Slot.unset).toArray = ls at hl ⊢
  have hl : lv_has ls 1 [(0, .ref h0)] := hl
  refine lv_aload_n hx hb dX2_init_0 rfl (lv_at hl 0 rfl) ?_
  refine W.objInit hx hb hown (hts (.methodLink RX2 3 objectInit) (by decide +kernel)) (hts (.instanceMethod objectInit) (by decide +kernel)) (hts (.code objectInit ⟨#[0xb1]⟩ 1 none) (by decide +kernel)) rfl (by rw [hml]; exact hl.1) rfl dX2_init_1 (Nat.le_of_ble_eq_true rfl) (Nat.le_of_ble_eq_true rfl) ?_
  refine W.eq (g2 := F0 m 4 ls []) rfl ?_
  refine lv_aload_n hx hb dX2_init_4 rfl (lv_at hl 0 rfl) ?_
  refine lv_sipush (v := 2000) hx hb dX2_init_5 (by decide) ?_
  refine zc_newa (N := 2000) S (by decide +kernel) hK hP hD hS hA rfl (by decide) (Nat.le_of_ble_eq_true rfl) (Nat.le_of_ble_eq_true rfl) dX2_init_8 (fun q1 H hP hD hS => ?_)
  have hP : va_P G.1 vwCl ([(h0, .inr (2, [.null, .int 0]))] ++ [(q1, .inl (G.2.1, 2000, .inl (fun _ => 0)))]) H := hP
  have hD : va_D A ([(h0, .inr (2, [.null, .int 0]))] ++ [(q1, .inl (G.2.1, 2000, .inl (fun _ => 0)))]) := hD
  refine va_putF (D := G.1) (ci := 2) (v := .ref q1) (ty := .array .int) (C := RX2) (T := TX2) (N := 2) hx hb hts in_ctor2 tyX2 tyX2_ok nmX2 hown hK.1 hP hD hS 0 rfl rfl 0 (by decide) (hts (.fieldLink RX2 9 "RuleCourt$Paper" "bytes" "[I") (by decide +kernel)) (fun _ h9 => h9) rfl hin rfl rfl (by first | rfl | decide) rfl (Nat.le_of_ble_eq_true rfl) dX2_init_10 (fun H locs hP hD hS => ?_)
  have hP : va_P G.1 vwCl ([(h0, .inr (2, [.ref q1, .int 0]))] ++ [(q1, .inl (G.2.1, 2000, .inl (fun _ => 0)))]) H := hP
  have hD : va_D A ([(h0, .inr (2, [.ref q1, .int 0]))] ++ [(q1, .inl (G.2.1, 2000, .inl (fun _ => 0)))]) := hD
  refine lv_aload_n hx hb dX2_init_13 rfl (lv_at hl 0 rfl) ?_
  refine lv_iconst (v := 0) hx hb dX2_init_14 (by decide) ?_
  refine va_put (D := G.1) (ci := 2) (v := .int 0) (ty := .int) (C := RX2) (T := TX2) (N := 2) hx hb hts in_ctor2 tyX2 tyX2_ok nmX2 hown hK.1 hP hD hS 0 rfl rfl 1 (by decide) (hts (.fieldLink RX2 15 "RuleCourt$Paper" "length" "I") (by decide +kernel)) (fun _ h9 => h9) rfl rfl (by first | rfl | decide) rfl (Nat.le_of_ble_eq_true rfl) dX2_init_15 (fun H locs hP hD hS => ?_)
  have hP : va_P G.1 vwCl ([(h0, .inr (2, [.ref q1, .int 0]))] ++ [(q1, .inl (G.2.1, 2000, .inl (fun _ => 0)))]) H := hP
  have hD : va_D A ([(h0, .inr (2, [.ref q1, .int 0]))] ++ [(q1, .inl (G.2.1, 2000, .inl (fun _ => 0)))]) := hD
  exact W.vret hx hb hr (fun t ht hW => ⟨⟨(), rfl, trivial, _, ⟨zad [h0, q1], rfl, rfl⟩, by rw [ht]; exact hP, hD⟩, hS.F ht⟩) hS.2.2 dX2_init_18
theorem in_ctor4 : ∀ w ∈ u_ws RX4 TX4 3, w ∈ wsX4_init := by decide +kernel
theorem zdf4 : ∀ j, j < 3 → defaultValue (tyX4 j) = vp_V [.null, .null, .int 0] j := by decide +kernel
def rmX4_init : Room := { frames := 2, cells := 9, slots := 192, locals := 44 }
set_option maxHeartbeats 4000000 in
set_option maxRecDepth 100000 in
theorem c_X4_init (l : Launch) (G : zG) : zNew l yX4_init wsX4_init rmX4_init G 4 [.null, .null, .int 0] 9 192 (fun q w => ∃ a v : Nat → Nat, a 0 = q ∧ w = w4 G a (v 0) zz4 ++ w6 G v zz6) := by
  intro h0 sz
  refine Met.ofW (cc := cX4_init) (maxL := 1) (ret := none) (by decide +kernel) rfl ?_
  intro p e s m args below meth c s₁ B hml hv
  obtain ⟨rfl, hsz, hP, hK, hD0⟩ := hv
  have hx := B.exec
  have hb := B.bytes
  have hr := B.returns
  have hts := atoms_spec (ws := wsX4_init) B.pre
  have hown : s.vm.findClass RX4 = some m.cls := findClass_of_methodNamed B.named
  have hlocks := B.notSynchronized
  have hin : meth.name = "<init>" := (name_of_methodNamed B.named B.method).1
  have S : CallFix p m c cX4_init 1 s _ wsX4_init RX4 := ⟨hx, hb, hml, hown, hts⟩
  subst hsz
  have hD := hD0.self (sz := s.heap.size)
  generalize hAe : va_A [((h0, .inr (4, [.null, .null, .int 0])) : Nat × va_E)] s.heap.size = A at hD ⊢
  have hA : ∀ q : Nat, s.heap.size ≤ q → A q := fun q h => by rw [← hAe]; exact Or.inr h
  have hS : va_S A s.heap s.heap [] := va_S.rf
  have hP : va_P G.1 vwCl [(h0, .inr (4, [.null, .null, .int 0]))] s.heap := hP
  have hl := lv_entry ([.ref h0]) (n := 1) (Nat.le_of_ble_eq_true rfl)
  rw [lg_entry_eq]
  generalize (lg_sl ([.ref h0]) ++ List.replicate (1 - (lg_sl ([.ref h0])).length) Slot.unset).toArray = ls at hl ⊢
  have hl : lv_has ls 1 [(0, .ref h0)] := hl
  refine lv_aload_n hx hb dX4_init_0 rfl (lv_at hl 0 rfl) ?_
  refine W.objInit hx hb hown (hts (.methodLink RX4 3 objectInit) (by decide +kernel)) (hts (.instanceMethod objectInit) (by decide +kernel)) (hts (.code objectInit ⟨#[0xb1]⟩ 1 none) (by decide +kernel)) rfl (by rw [hml]; exact hl.1) rfl dX4_init_1 (Nat.le_of_ble_eq_true rfl) (Nat.le_of_ble_eq_true rfl) ?_
  refine W.eq (g2 := F0 m 4 ls []) rfl ?_
  refine lv_aload_n hx hb dX4_init_4 rfl (lv_at hl 0 rfl) ?_
  refine zc_newN (ci := 6) (fs := [.null, .null, .null, .null, .null, .null, .null, .int 0, .int 0, .int 0, .int 0, .int 0]) (T := TX6) (N := 12) S (by decide +kernel) tyX6 tyX6_ok (by decide +kernel) (by decide +kernel) (by decide +kernel) hK hP hD hS hA rfl zdf6 (c_X6_init l G) ⟨va_cnB 0 hts gX4_init_X6_init_n11 rfl rfl rfl (hK.2 (.methodLinkNest RX4 11 yX6_init "RuleCourt") (by decide +kernel)) (hts (.initialized RX6) (by decide +kernel)) (by decide +kernel) ⟨Nat.le_of_ble_eq_true rfl, Nat.le_of_ble_eq_true rfl⟩, rfl, hts (.instanceMethod yX6_init) (by decide +kernel)⟩ hl.1 (Nat.le_of_ble_eq_true rfl) (Nat.le_of_ble_eq_true rfl) (Nat.le_of_ble_eq_true rfl) dX4_init_5 dX4_init_8 dX4_init_9 (fun q1 wq1 H locs hwq1 hP hD hS => ?_)
  obtain ⟨aq1, rfl, rfl⟩ := hwq1
  have hP : va_P G.1 vwCl ([(h0, .inr (4, [.null, .null, .int 0]))] ++ w6 G aq1 zz6) H := hP
  have hD : va_D A ([(h0, .inr (4, [.null, .null, .int 0]))] ++ w6 G aq1 zz6) := hD
  refine va_putF (D := G.1) (ci := 4) (v := .ref (aq1 0)) (ty := .object "RuleCourt$View") (C := RX4) (T := TX4) (N := 3) hx hb hts in_ctor4 tyX4 tyX4_ok nmX4 hown hK.1 hP hD hS 0 rfl rfl 0 (by decide) (hts (.fieldLink RX4 12 "RuleCourt$Rounds" "view" "LRuleCourt$View;") (by decide +kernel)) (fun _ h9 => h9) rfl hin rfl rfl (by first | rfl | decide) rfl (Nat.le_of_ble_eq_true rfl) dX4_init_12 (fun H locs hP hD hS => ?_)
  have hP : va_P G.1 vwCl ([(h0, .inr (4, [.ref (aq1 0), .null, .int 0]))] ++ w6 G aq1 zz6) H := hP
  have hD : va_D A ([(h0, .inr (4, [.ref (aq1 0), .null, .int 0]))] ++ w6 G aq1 zz6) := hD
  refine lv_aload_n hx hb dX4_init_15 rfl (lv_at hl 0 rfl) ?_
  refine lv_bipush (v := 80) hx hb dX4_init_16 (by decide) ?_
  refine zc_newa (N := 80) S (by decide +kernel) hK hP hD hS hA rfl (by decide) (Nat.le_of_ble_eq_true rfl) (Nat.le_of_ble_eq_true rfl) dX4_init_18 (fun q2 H hP hD hS => ?_)
  have hP : va_P G.1 vwCl (([(h0, .inr (4, [.ref (aq1 0), .null, .int 0]))] ++ w6 G aq1 zz6) ++ [(q2, .inl (G.2.1, 80, .inl (fun _ => 0)))]) H := hP
  have hD : va_D A (([(h0, .inr (4, [.ref (aq1 0), .null, .int 0]))] ++ w6 G aq1 zz6) ++ [(q2, .inl (G.2.1, 80, .inl (fun _ => 0)))]) := hD
  refine va_putF (D := G.1) (ci := 4) (v := .ref q2) (ty := .array .int) (C := RX4) (T := TX4) (N := 3) hx hb hts in_ctor4 tyX4 tyX4_ok nmX4 hown hK.1 hP hD hS 0 rfl rfl 1 (by decide) (hts (.fieldLink RX4 18 "RuleCourt$Rounds" "came" "[I") (by decide +kernel)) (fun _ h9 => h9) rfl hin rfl rfl (by first | rfl | decide) rfl (Nat.le_of_ble_eq_true rfl) dX4_init_20 (fun H locs hP hD hS => ?_)
  have hP : va_P G.1 vwCl (([(h0, .inr (4, [.ref (aq1 0), .ref q2, .int 0]))] ++ w6 G aq1 zz6) ++ [(q2, .inl (G.2.1, 80, .inl (fun _ => 0)))]) H := hP
  have hD : va_D A (([(h0, .inr (4, [.ref (aq1 0), .ref q2, .int 0]))] ++ w6 G aq1 zz6) ++ [(q2, .inl (G.2.1, 80, .inl (fun _ => 0)))]) := hD
  refine lv_aload_n hx hb dX4_init_23 rfl (lv_at hl 0 rfl) ?_
  refine lv_iconst (v := 0) hx hb dX4_init_24 (by decide) ?_
  refine va_put (D := G.1) (ci := 4) (v := .int 0) (ty := .int) (C := RX4) (T := TX4) (N := 3) hx hb hts in_ctor4 tyX4 tyX4_ok nmX4 hown hK.1 hP hD hS 0 rfl rfl 2 (by decide) (hts (.fieldLink RX4 22 "RuleCourt$Rounds" "last" "I") (by decide +kernel)) (fun _ h9 => h9) rfl rfl (by first | rfl | decide) rfl (Nat.le_of_ble_eq_true rfl) dX4_init_25 (fun H locs hP hD hS => ?_)
  have hP : va_P G.1 vwCl (([(h0, .inr (4, [.ref (aq1 0), .ref q2, .int 0]))] ++ w6 G aq1 zz6) ++ [(q2, .inl (G.2.1, 80, .inl (fun _ => 0)))]) H := hP
  have hD : va_D A (([(h0, .inr (4, [.ref (aq1 0), .ref q2, .int 0]))] ++ w6 G aq1 zz6) ++ [(q2, .inl (G.2.1, 80, .inl (fun _ => 0)))]) := hD
  have hP9 := hP.sub (ws' := w4 G (zad [h0, q2]) (aq1 0) zz4 ++ w6 G aq1 zz6) [0, 9, 1, 2, 3, 4, 5, 6, 7, 8] rfl
  have hD9 := hD.sub (ws' := w4 G (zad [h0, q2]) (aq1 0) zz4 ++ w6 G aq1 zz6) [0, 9, 1, 2, 3, 4, 5, 6, 7, 8] (by decide) rfl
  exact W.vret hx hb hr (fun t ht hW => ⟨⟨(), rfl, trivial, _, ⟨zad [h0, q2], aq1, rfl, rfl⟩, by rw [ht]; exact hP9, hD9⟩, hS.F ht⟩) hS.2.2 dX4_init_28
theorem in_ctor3 : ∀ w ∈ u_ws RX3 TX3 4, w ∈ wsX3_init := by decide +kernel
theorem zdf3 : ∀ j, j < 4 → defaultValue (tyX3 j) = vp_V [.null, .null, .null, .int 0] j := by decide +kernel
def rmX3_init : Room := { frames := 2, cells := 10, slots := 196, locals := 44 }
set_option maxHeartbeats 4000000 in
set_option maxRecDepth 100000 in
theorem c_X3_init (l : Launch) (G : zG) : zNew l yX3_init wsX3_init rmX3_init G 3 [.null, .null, .null, .int 0] 10 196 (fun q w => ∃ a v : Nat → Nat, a 0 = q ∧ w = w3 G a (v 0) zz3 ++ w6 G v zz6) := by
  intro h0 sz
  refine Met.ofW (cc := cX3_init) (maxL := 1) (ret := none) (by decide +kernel) rfl ?_
  intro p e s m args below meth c s₁ B hml hv
  obtain ⟨rfl, hsz, hP, hK, hD0⟩ := hv
  have hx := B.exec
  have hb := B.bytes
  have hr := B.returns
  have hts := atoms_spec (ws := wsX3_init) B.pre
  have hown : s.vm.findClass RX3 = some m.cls := findClass_of_methodNamed B.named
  have hlocks := B.notSynchronized
  have hin : meth.name = "<init>" := (name_of_methodNamed B.named B.method).1
  have S : CallFix p m c cX3_init 1 s _ wsX3_init RX3 := ⟨hx, hb, hml, hown, hts⟩
  subst hsz
  have hD := hD0.self (sz := s.heap.size)
  generalize hAe : va_A [((h0, .inr (3, [.null, .null, .null, .int 0])) : Nat × va_E)] s.heap.size = A at hD ⊢
  have hA : ∀ q : Nat, s.heap.size ≤ q → A q := fun q h => by rw [← hAe]; exact Or.inr h
  have hS : va_S A s.heap s.heap [] := va_S.rf
  have hP : va_P G.1 vwCl [(h0, .inr (3, [.null, .null, .null, .int 0]))] s.heap := hP
  have hl := lv_entry ([.ref h0]) (n := 1) (Nat.le_of_ble_eq_true rfl)
  rw [lg_entry_eq]
  generalize (lg_sl ([.ref h0]) ++ List.replicate (1 - (lg_sl ([.ref h0])).length) Slot.unset).toArray = ls at hl ⊢
  have hl : lv_has ls 1 [(0, .ref h0)] := hl
  refine lv_aload_n hx hb dX3_init_0 rfl (lv_at hl 0 rfl) ?_
  refine W.objInit hx hb hown (hts (.methodLink RX3 3 objectInit) (by decide +kernel)) (hts (.instanceMethod objectInit) (by decide +kernel)) (hts (.code objectInit ⟨#[0xb1]⟩ 1 none) (by decide +kernel)) rfl (by rw [hml]; exact hl.1) rfl dX3_init_1 (Nat.le_of_ble_eq_true rfl) (Nat.le_of_ble_eq_true rfl) ?_
  refine W.eq (g2 := F0 m 4 ls []) rfl ?_
  refine lv_aload_n hx hb dX3_init_4 rfl (lv_at hl 0 rfl) ?_
  refine zc_newN (ci := 6) (fs := [.null, .null, .null, .null, .null, .null, .null, .int 0, .int 0, .int 0, .int 0, .int 0]) (T := TX6) (N := 12) S (by decide +kernel) tyX6 tyX6_ok (by decide +kernel) (by decide +kernel) (by decide +kernel) hK hP hD hS hA rfl zdf6 (c_X6_init l G) ⟨va_cnB 0 hts gX3_init_X6_init_n11 rfl rfl rfl (hK.2 (.methodLinkNest RX3 11 yX6_init "RuleCourt") (by decide +kernel)) (hts (.initialized RX6) (by decide +kernel)) (by decide +kernel) ⟨Nat.le_of_ble_eq_true rfl, Nat.le_of_ble_eq_true rfl⟩, rfl, hts (.instanceMethod yX6_init) (by decide +kernel)⟩ hl.1 (Nat.le_of_ble_eq_true rfl) (Nat.le_of_ble_eq_true rfl) (Nat.le_of_ble_eq_true rfl) dX3_init_5 dX3_init_8 dX3_init_9 (fun q1 wq1 H locs hwq1 hP hD hS => ?_)
  obtain ⟨aq1, rfl, rfl⟩ := hwq1
  have hP : va_P G.1 vwCl ([(h0, .inr (3, [.null, .null, .null, .int 0]))] ++ w6 G aq1 zz6) H := hP
  have hD : va_D A ([(h0, .inr (3, [.null, .null, .null, .int 0]))] ++ w6 G aq1 zz6) := hD
  refine va_putF (D := G.1) (ci := 3) (v := .ref (aq1 0)) (ty := .object "RuleCourt$View") (C := RX3) (T := TX3) (N := 4) hx hb hts in_ctor3 tyX3 tyX3_ok nmX3 hown hK.1 hP hD hS 0 rfl rfl 0 (by decide) (hts (.fieldLink RX3 12 "RuleCourt$Proof" "view" "LRuleCourt$View;") (by decide +kernel)) (fun _ h9 => h9) rfl hin rfl rfl (by first | rfl | decide) rfl (Nat.le_of_ble_eq_true rfl) dX3_init_12 (fun H locs hP hD hS => ?_)
  have hP : va_P G.1 vwCl ([(h0, .inr (3, [.ref (aq1 0), .null, .null, .int 0]))] ++ w6 G aq1 zz6) H := hP
  have hD : va_D A ([(h0, .inr (3, [.ref (aq1 0), .null, .null, .int 0]))] ++ w6 G aq1 zz6) := hD
  refine lv_aload_n hx hb dX3_init_15 rfl (lv_at hl 0 rfl) ?_
  refine lv_iconst (v := 4) hx hb dX3_init_16 (by decide) ?_
  refine zc_newa (N := 4) S (by decide +kernel) hK hP hD hS hA rfl (by decide) (Nat.le_of_ble_eq_true rfl) (Nat.le_of_ble_eq_true rfl) dX3_init_17 (fun q2 H hP hD hS => ?_)
  have hP : va_P G.1 vwCl (([(h0, .inr (3, [.ref (aq1 0), .null, .null, .int 0]))] ++ w6 G aq1 zz6) ++ [(q2, .inl (G.2.1, 4, .inl (fun _ => 0)))]) H := hP
  have hD : va_D A (([(h0, .inr (3, [.ref (aq1 0), .null, .null, .int 0]))] ++ w6 G aq1 zz6) ++ [(q2, .inl (G.2.1, 4, .inl (fun _ => 0)))]) := hD
  refine va_putF (D := G.1) (ci := 3) (v := .ref q2) (ty := .array .int) (C := RX3) (T := TX3) (N := 4) hx hb hts in_ctor3 tyX3 tyX3_ok nmX3 hown hK.1 hP hD hS 0 rfl rfl 1 (by decide) (hts (.fieldLink RX3 18 "RuleCourt$Proof" "wanted" "[I") (by decide +kernel)) (fun _ h9 => h9) rfl hin rfl rfl (by first | rfl | decide) rfl (Nat.le_of_ble_eq_true rfl) dX3_init_19 (fun H locs hP hD hS => ?_)
  have hP : va_P G.1 vwCl (([(h0, .inr (3, [.ref (aq1 0), .ref q2, .null, .int 0]))] ++ w6 G aq1 zz6) ++ [(q2, .inl (G.2.1, 4, .inl (fun _ => 0)))]) H := hP
  have hD : va_D A (([(h0, .inr (3, [.ref (aq1 0), .ref q2, .null, .int 0]))] ++ w6 G aq1 zz6) ++ [(q2, .inl (G.2.1, 4, .inl (fun _ => 0)))]) := hD
  refine lv_aload_n hx hb dX3_init_22 rfl (lv_at hl 0 rfl) ?_
  refine lv_bipush (v := 80) hx hb dX3_init_23 (by decide) ?_
  refine zc_newa (N := 80) S (by decide +kernel) hK hP hD hS hA rfl (by decide) (Nat.le_of_ble_eq_true rfl) (Nat.le_of_ble_eq_true rfl) dX3_init_25 (fun q3 H hP hD hS => ?_)
  have hP : va_P G.1 vwCl ((([(h0, .inr (3, [.ref (aq1 0), .ref q2, .null, .int 0]))] ++ w6 G aq1 zz6) ++ [(q2, .inl (G.2.1, 4, .inl (fun _ => 0)))]) ++ [(q3, .inl (G.2.1, 80, .inl (fun _ => 0)))]) H := hP
  have hD : va_D A ((([(h0, .inr (3, [.ref (aq1 0), .ref q2, .null, .int 0]))] ++ w6 G aq1 zz6) ++ [(q2, .inl (G.2.1, 4, .inl (fun _ => 0)))]) ++ [(q3, .inl (G.2.1, 80, .inl (fun _ => 0)))]) := hD
  refine va_putF (D := G.1) (ci := 3) (v := .ref q3) (ty := .array .int) (C := RX3) (T := TX3) (N := 4) hx hb hts in_ctor3 tyX3 tyX3_ok nmX3 hown hK.1 hP hD hS 0 rfl rfl 2 (by decide) (hts (.fieldLink RX3 22 "RuleCourt$Proof" "steps" "[I") (by decide +kernel)) (fun _ h9 => h9) rfl hin rfl rfl (by first | rfl | decide) rfl (Nat.le_of_ble_eq_true rfl) dX3_init_27 (fun H locs hP hD hS => ?_)
  have hP : va_P G.1 vwCl ((([(h0, .inr (3, [.ref (aq1 0), .ref q2, .ref q3, .int 0]))] ++ w6 G aq1 zz6) ++ [(q2, .inl (G.2.1, 4, .inl (fun _ => 0)))]) ++ [(q3, .inl (G.2.1, 80, .inl (fun _ => 0)))]) H := hP
  have hD : va_D A ((([(h0, .inr (3, [.ref (aq1 0), .ref q2, .ref q3, .int 0]))] ++ w6 G aq1 zz6) ++ [(q2, .inl (G.2.1, 4, .inl (fun _ => 0)))]) ++ [(q3, .inl (G.2.1, 80, .inl (fun _ => 0)))]) := hD
  refine lv_aload_n hx hb dX3_init_30 rfl (lv_at hl 0 rfl) ?_
  refine lv_iconst (v := 0) hx hb dX3_init_31 (by decide) ?_
  refine va_put (D := G.1) (ci := 3) (v := .int 0) (ty := .int) (C := RX3) (T := TX3) (N := 4) hx hb hts in_ctor3 tyX3 tyX3_ok nmX3 hown hK.1 hP hD hS 0 rfl rfl 3 (by decide) (hts (.fieldLink RX3 25 "RuleCourt$Proof" "length" "I") (by decide +kernel)) (fun _ h9 => h9) rfl rfl (by first | rfl | decide) rfl (Nat.le_of_ble_eq_true rfl) dX3_init_32 (fun H locs hP hD hS => ?_)
  have hP : va_P G.1 vwCl ((([(h0, .inr (3, [.ref (aq1 0), .ref q2, .ref q3, .int 0]))] ++ w6 G aq1 zz6) ++ [(q2, .inl (G.2.1, 4, .inl (fun _ => 0)))]) ++ [(q3, .inl (G.2.1, 80, .inl (fun _ => 0)))]) H := hP
  have hD : va_D A ((([(h0, .inr (3, [.ref (aq1 0), .ref q2, .ref q3, .int 0]))] ++ w6 G aq1 zz6) ++ [(q2, .inl (G.2.1, 4, .inl (fun _ => 0)))]) ++ [(q3, .inl (G.2.1, 80, .inl (fun _ => 0)))]) := hD
  have hP9 := hP.sub (ws' := w3 G (zad [h0, q2, q3]) (aq1 0) zz3 ++ w6 G aq1 zz6) [0, 9, 10, 1, 2, 3, 4, 5, 6, 7, 8] rfl
  have hD9 := hD.sub (ws' := w3 G (zad [h0, q2, q3]) (aq1 0) zz3 ++ w6 G aq1 zz6) [0, 9, 10, 1, 2, 3, 4, 5, 6, 7, 8] (by decide) rfl
  exact W.vret hx hb hr (fun t ht hW => ⟨⟨(), rfl, trivial, _, ⟨zad [h0, q2, q3], aq1, rfl, rfl⟩, by rw [ht]; exact hP9, hD9⟩, hS.F ht⟩) hS.2.2 dX3_init_35
