/-! constructors: a new object with all that its constructor makes -/
def zad (q : List Nat) : Nat → Nat := fun k => q.getD k 0
def zAO (U : State) : Prop := va_AO RX0 U ∧ (Cond.arrayOver (.array .int)).before #[] U = true
theorem zAO.moved {u U : State} (hvm : u.vm.Alike U.vm) (h : zAO u) : zAO U := by
  refine ⟨h.1.moved hvm, ?_⟩
  obtain ⟨comp, c, k, h1, h2, h3, h4, h5⟩ := arrayOverA_spec h.2
  obtain ⟨k', hk', he⟩ := hvm.2.2 _ _ h3
  have hi : (U.vm.classes.findIdx? fun (x : Class) => match x.kind with | .array component _ => component == comp | _ => false) = some c := by
    rw [hvm.findIdx?_eq _ (fun _ => rfl)]
    exact h2
  have f1 : U.vm.findClass (FieldType.array .int).toString = some comp := by rw [hvm.findClass]; exact h1
  have f2 : U.vm.findClass ("[" ++ (FieldType.array .int).toString) = some c := by rw [hvm.findClass]; exact h5
  have hkind : k'.kind = .array comp (.array .int) := by rw [he]; exact h4
  unfold Cond.before Cond.holds
  simp only [Cond.value]
  rw [f1, Option.bind_some]
  refine (congrArg (fun o : Option Nat => (o.bind (fun c => (U.vm.classes[c]?).map fun (k : Class) => match k.kind with | .array _ ty => decide (ty = FieldType.array .int) && decide (U.vm.findClass ("[" ++ (FieldType.array .int).toString) = some c) | _ => false) == some true)) hi).trans ?_
  simp [hk', hkind, f2]
def zNpre (G : zG) (q ci : Nat) (fs : List Value) (sz : Nat) (U : State) : Prop := U.heap.size = sz ∧ va_P G.1 vwCl [(q, .inr (ci, fs))] U.heap ∧ zK G U ∧ va_D (fun _ => True) [(q, .inr (ci, fs))] ∧ zAO U
/-- the contract of a constructor: it makes mc cells of ms slots; the object and what it holds are a world that P tells of -/
def zNew (l : Launch) (y : MethodName) (ws : List Cond) (rm : Room) (G : zG) (ci : Nat) (fs : List Value) (mc ms : Nat) (P : Nat → va_W → Prop) : Prop :=
  ∀ q sz : Nat, Met l y ws rm (va_Pc [.ref q] (zNpre G q ci fs sz)) (va_Qv (fun _ : Unit => True) (fun _ t => ∃ w : va_W, P q w ∧ va_P G.1 vwCl w t.heap ∧ va_D (va_A [(q, .inr (ci, fs))] sz) w) (va_A [(q, .inr (ci, fs))] sz)) mc ms (va_A [(q, .inr (ci, fs))] sz)
theorem zpre_left {D : va_G} {cl : List vw_C} {a b : va_W} {H : Heap} (h : va_P D cl (a ++ b) H) : va_P D cl a H := fun k x hk => h k x (by
  rw [List.getElem?_append_left (List.getElem?_eq_some_iff.mp hk).1]
  exact hk)
theorem zdis_left {A : Nat → Prop} {a b : va_W} (h : va_D A (a ++ b)) : va_D A a := by
  have e : ∀ (k : Nat) (x : Nat × va_E), a[k]? = some x → (a ++ b)[k]? = some x := fun k x hk => by
    rw [List.getElem?_append_left (List.getElem?_eq_some_iff.mp hk).1]
    exact hk
  exact ⟨fun i j p q hp hq hpq => h.1 i j p q (e i p hp) (e j q hq) hpq, fun k q hk => h.2 k q (e k q hk)⟩
section ZCT
variable {p : Program} {l : Launch} {e : Env} {R : Room} {s : State} {m : MethodId} {args : Array Value} {below : List Frame} {meth : Method} {c : Code} {H : Heap} {locs : List Loc} {cells slots : Nat} {Q : State → Prop}
variable {cc : ByteArray} {pc : Nat} {ls : Array Slot} {rest : List Value} {G : zG} {A : Nat → Prop} {ws : va_W} {nL : Nat} {Ts : List Cond} {own : String} {H0 : Heap}
theorem zc_newa (S : CallFix p m c cc nL s args Ts own) (harr : Cond.arrayClass .int ∈ Ts) (hK : zK G s) (hP : va_P G.1 vwCl ws H) (hD : va_D A ws) (hS : va_S A H0 H locs) (hA : ∀ q, H0.size ≤ q → A q) {n : Int32} {N : Nat} (hn : n = nI N) (hN : N ≤ 100000) (hcells : cells + 1 ≤ R.cells) (hslots : slots + N ≤ R.slots) (hdg : decode cc pc = .ok (.newarray .int, 2))
    (kk : ∀ (q : Nat) (H1 : Heap), va_P G.1 vwCl (ws ++ [(q, .inl (G.2.1, N, .inl (fun _ => 0)))]) H1 → va_D A (ws ++ [(q, .inl (G.2.1, N, .inl (fun _ => 0)))]) → va_S A H0 H1 locs → W p l e R s m args below meth c H1 locs (cells + 1) (slots + N) Q (F0 m (pc + 2) ls (.ref q :: rest))) : W p l e R s m args below meth c H locs cells slots Q (F0 m pc ls (.int n :: rest)) := by
  subst hn
  refine va_newa (atype := .int) (ty := .int) (N' := N) (a0 := (N, .inl (fun _ => 0))) S.1 S.2.1 (S.2.2.2.2 _ harr) rfl hK.1 hP hD hS hA (fun cA => rfl) (nI_pos (by omega)) (nI_clamp (by omega)) (by show N * 4 ≤ 536870912; omega) hcells hslots hdg (fun q cA H1 hK1 hP1 hD1 hS1 => ?_)
  have e1 : s.vm.findClass ("[" ++ FieldType.int.toString) = some cA := (hK1.2 3 (cA, .int) rfl).2
  have e2 : s.vm.findClass ("[" ++ FieldType.int.toString) = some G.2.1 := (hK.1.2 0 (G.2.1, .int) rfl).2
  have e3 : cA = G.2.1 := Option.some.inj (e1.symm.trans e2)
  subst e3
  exact kk q H1 hP1 hD1 hS1
theorem zc_behind {q ci mc ms : Nat} {fs : List Value} {P : Nat → va_W → Prop} {a0 : Array Value} {st0 : List Value} {pc0 : Nat}
    (hr : va_Run p l e R s m args below meth c H locs cells slots mc ms (F0 m pc0 ls st0) rest (va_Qv (fun _ : Unit => True) (fun _ t => ∃ w : va_W, P q w ∧ va_P G.1 vwCl w t.heap ∧ va_D (va_A [(q, .inr (ci, fs))] H.size) w) (va_A [(q, .inr (ci, fs))] H.size) a0) (va_A [(q, .inr (ci, fs))] H.size))
    (hP : va_P G.1 vwCl (ws ++ [(q, .inr (ci, fs))]) H) (hD : va_D A (ws ++ [(q, .inr (ci, fs))])) (hS : va_S A H0 H locs) (hA : ∀ q, H0.size ≤ q → A q)
    (kk : ∀ (w : va_W) (H1 : Heap) (locs1 : List Loc), P q w → va_P G.1 vwCl (ws ++ w) H1 → va_D A (ws ++ w) → va_S A H0 H1 locs1 → W p l e R s m args below meth c H1 locs1 (cells + mc) (slots + ms) Q (F0 m (pc0 + 3) ls rest)) : W p l e R s m args below meth c H locs cells slots Q (F0 m pc0 ls st0) := by
  have hlen : (ws ++ [((q, .inr (ci, fs)) : Nat × va_E)])[ws.length]? = some (q, .inr (ci, fs)) := by simp
  have hF := va_free (wc := [(q, .inr (ci, fs))]) hD hS hA [ws.length] (by simp)
  refine va_callv hr hS (fun x _ h => hF x h) hF (fun u t H2 locs2 ht hvm hw hB hz hk hS2 => ?_)
  obtain ⟨w, hPw, hP2, hD2⟩ := hB
  rw [ht] at hP2
  have hold : ∀ (k : Nat) (x : Nat × va_E), ws[k]? = some x → x.1 < H.size ∧ ¬ va_A [((q, .inr (ci, fs)) : Nat × va_E)] H.size x.1 := fun k x hx => by
    have hkl : k < ws.length := (List.getElem?_eq_some_iff.mp hx).1
    have hx2 : (ws ++ [((q, .inr (ci, fs)) : Nat × va_E)])[k]? = some x := by rw [List.getElem?_append_left hkl]; exact hx
    have hlt := (hP k x hx2).lt
    refine ⟨hlt, fun h => ?_⟩
    rcases h with ⟨k2, e2, h2⟩ | h2
    · have hk2 : k2 < 1 := (List.getElem?_eq_some_iff.mp h2).1
      rw [show k2 = 0 by omega] at h2
      have e3 : q = x.1 := by
        have := Option.some.inj h2
        exact congrArg Prod.fst this
      have := hD.1 k ws.length x _ hx2 hlen e3.symm
      omega
    · omega
  refine kk w H2 locs2 hPw (((zpre_left hP).kept (fun k x hx => hk x.1 (hold k x hx).1 (hold k x hx).2)).app hP2) (va_D.app (zdis_left hD) (hD2.weaken (fun k x _ h => hF x.1 h)) (fun i j x y hx hy hxy => (hold i x hx).2 (by rw [hxy]; exact hD2.2 j y hy))) hS2
theorem zc_pre {q ci : Nat} {fs : List Value} (hAO : zAO s) (hK : zK G s) (hP : va_P G.1 vwCl (ws ++ [(q, .inr (ci, fs))]) H) : PreS s H (va_Pc [.ref q] (zNpre G q ci fs H.size)) [.ref q] := by
  have hP1 : va_P G.1 vwCl [(q, .inr (ci, fs))] H := fun k x hx => by
    have hk : k < 1 := (List.getElem?_eq_some_iff.mp hx).1
    obtain rfl : k = 0 := by omega
    exact hP ws.length x (by rw [List.getElem?_append_right (Nat.le_refl _), Nat.sub_self]; exact hx)
  have hD1 : va_D (fun _ => True) [((q, .inr (ci, fs)) : Nat × va_E)] := ⟨fun i j x y hx hy _ => by
    have hi : i < 1 := (List.getElem?_eq_some_iff.mp hx).1
    have hj : j < 1 := (List.getElem?_eq_some_iff.mp hy).1
    omega, fun _ _ _ => trivial⟩
  exact ⟨fun a U g mk z => by obtain ⟨z0, z1, zP, zK1, zD1, zA1⟩ := z; exact ⟨z0, z1, zP, zK1.calling, zD1, zA1.moved (Vm.Alike.refl _)⟩, fun U hU hW => ⟨rfl, by rw [hU], by rw [hU]; exact hP1, hK.warm hW, hD1, hAO.moved hW.alike⟩⟩
/-- new C(): the private or nested one -/
theorem zc_newN (S : CallFix p m c cc nL s args Ts own) {C host : String} {T : u_T} {N ci index index2 maxL mc ms : Nat} {fs : List Value} {y : MethodName} {wsy : List Cond} {rm : Room} {bytes : ByteArray} {P : Nat → va_W → Prop} (hin : ∀ w ∈ u_ws C T N, w ∈ Ts) (ty : Nat → FieldType) (hty : ∀ k, k < N → parseFieldDescriptor (T k).2.2.1 = some (ty k)) (hcl : Cond.classLink own index C ∈ Ts) (hinst : Cond.instantiable C N ∈ Ts) (hini : Cond.initialized C ∈ Ts) (hAO : zAO s) (hK : zK G s) (hP : va_P G.1 vwCl ws H) (hD : va_D A ws) (hS : va_S A H0 H locs) (hA : ∀ q, H0.size ≤ q → A q) (hc : vwCl[ci]? = some (C, T, N)) (hfs : ∀ j, j < N → defaultValue (ty j) = vp_V fs j)
    (hM : zNew l y wsy rm G ci fs mc ms P) (cw : va_CN R s args own index2 y host bytes maxL none wsy rm mc ms 0 ∧ y.name = "<init>" ∧ (Cond.instanceMethod y).before args s = true) (hsz : ls.size = nL) (hst : 1 + (rest.map fun v => v.category).sum ≤ 8) (hcells : cells + 1 + mc ≤ R.cells) (hslots : slots + N + ms ≤ R.slots) (hd1 : decode cc pc = .ok (.new index, 3)) (hd2 : decode cc (pc + 3) = .ok (.dup, 1)) (hd3 : decode cc (pc + 4) = .ok (.invokespecial index2, 3))
    (kk : ∀ (q : Nat) (w : va_W) (H1 : Heap) (locs1 : List Loc), P q w → va_P G.1 vwCl (ws ++ w) H1 → va_D A (ws ++ w) → va_S A H0 H1 locs1 → W p l e R s m args below meth c H1 locs1 (cells + 1 + mc) (slots + N + ms) Q (F0 m (pc + 7) ls (.ref q :: rest))) : W p l e R s m args below meth c H locs cells slots Q (F0 m pc ls rest) := by
  refine va_new S.1 S.2.1 S.2.2.2.2 hin ty hty S.2.2.2.1 (S.2.2.2.2 _ hcl) (S.2.2.2.2 _ hinst) (S.2.2.2.2 _ hini) hK.1 hP hD hS hA hc hfs (by omega) (by omega) hd1 (fun q H1 hP1 hD1 hS1 => ?_)
  refine lv_dup S.1 S.2.1 hd2 rfl ?_
  exact zc_behind (pc0 := pc + 4) (va_runIN (As := []) (rest := .ref q :: rest) S (hM q H1.size) cw (zc_pre hAO hK hP1) rfl rfl hsz rfl (lv_room (by simpa [Value.category] using hst)) hd3 ⟨hcells, hslots⟩) hP1 hD1 hS1 hA (fun w H2 locs2 hw hP2 hD2 hS2 => kk q w H2 locs2 hw hP2 hD2 hS2)
/-- new C(): the other -/
theorem zc_newP (S : CallFix p m c cc nL s args Ts own) {C : String} {T : u_T} {N ci index index2 maxL mc ms : Nat} {fs : List Value} {y : MethodName} {wsy : List Cond} {rm : Room} {bytes : ByteArray} {P : Nat → va_W → Prop} (hin : ∀ w ∈ u_ws C T N, w ∈ Ts) (ty : Nat → FieldType) (hty : ∀ k, k < N → parseFieldDescriptor (T k).2.2.1 = some (ty k)) (hcl : Cond.classLink own index C ∈ Ts) (hinst : Cond.instantiable C N ∈ Ts) (hini : Cond.initialized C ∈ Ts) (hAO : zAO s) (hK : zK G s) (hP : va_P G.1 vwCl ws H) (hD : va_D A ws) (hS : va_S A H0 H locs) (hA : ∀ q, H0.size ≤ q → A q) (hc : vwCl[ci]? = some (C, T, N)) (hfs : ∀ j, j < N → defaultValue (ty j) = vp_V fs j)
    (hM : zNew l y wsy rm G ci fs mc ms P) (cw : CallB R s args own index2 y bytes maxL none wsy rm mc ms 0 ∧ y.name = "<init>" ∧ (Cond.instanceMethod y).before args s = true) (hsz : ls.size = nL) (hst : 1 + (rest.map fun v => v.category).sum ≤ 8) (hcells : cells + 1 + mc ≤ R.cells) (hslots : slots + N + ms ≤ R.slots) (hd1 : decode cc pc = .ok (.new index, 3)) (hd2 : decode cc (pc + 3) = .ok (.dup, 1)) (hd3 : decode cc (pc + 4) = .ok (.invokespecial index2, 3))
    (kk : ∀ (q : Nat) (w : va_W) (H1 : Heap) (locs1 : List Loc), P q w → va_P G.1 vwCl (ws ++ w) H1 → va_D A (ws ++ w) → va_S A H0 H1 locs1 → W p l e R s m args below meth c H1 locs1 (cells + 1 + mc) (slots + N + ms) Q (F0 m (pc + 7) ls (.ref q :: rest))) : W p l e R s m args below meth c H locs cells slots Q (F0 m pc ls rest) := by
  refine va_new S.1 S.2.1 S.2.2.2.2 hin ty hty S.2.2.2.1 (S.2.2.2.2 _ hcl) (S.2.2.2.2 _ hinst) (S.2.2.2.2 _ hini) hK.1 hP hD hS hA hc hfs (by omega) (by omega) hd1 (fun q H1 hP1 hD1 hS1 => ?_)
  refine lv_dup S.1 S.2.1 hd2 rfl ?_
  exact zc_behind (pc0 := pc + 4) (va_runI (As := []) (rest := .ref q :: rest) S (hM q H1.size) cw (zc_pre hAO hK hP1) rfl rfl hsz rfl (lv_room (by simpa [Value.category] using hst)) hd3 ⟨hcells, hslots⟩) hP1 hD1 hS1 hA (fun w H2 locs2 hw hP2 hD2 hS2 => kk q w H2 locs2 hw hP2 hD2 hS2)
end ZCT
abbrev zz0 : S0 := (fun _ => 0, fun _ _ => 0)
abbrev zz2 : S2 := (fun _ => 0, fun _ _ => 0)
abbrev zz3 : S3 := (fun _ => 0, fun _ _ => 0)
abbrev zz4 : S4 := (fun _ => 0, fun _ _ => 0)
abbrev zz6 : S6 := (fun _ => 0, fun _ _ => 0)
abbrev zz7 : S7 := (fun _ => 0, fun _ _ => 0)
