/-! a new row of ints, and a row cloned, behind a world -/
section ZNEW
variable {p : Program} {l : Launch} {e : Env} {R : Room} {s : State} {m : MethodId} {args : Array Value} {below : List Frame} {meth : Method} {c : Code} {H : Heap} {locs : List Loc} {cells slots : Nat} {Q : State → Prop}
variable {cc : ByteArray} {pc : Nat} {ls : Array Slot} {rest : List Value} {G : zG} {A : Nat → Prop} {bs : zB} {nL : Nat} {Ts : List Cond} {own : String} {H0 : Heap}
theorem zfl1 (bs : zB) (x : Nat × va_E) : (bs ++ [[x]]).flatten = bs.flatten ++ [x] := by
  rw [List.flatten_append]; rfl
theorem zg_newa (S : CallFix p m c cc nL s args Ts own) (harr : Cond.arrayClass .int ∈ Ts) (hK : zK G s) (hP : zP G bs H) (hD : zD A bs) (hS : va_S A H0 H locs) (hA : ∀ q, H0.size ≤ q → A q) {n : Int32} {N : Nat} (hn : n = nI N) (hN : N ≤ 100000) (hcells : cells + 1 ≤ R.cells) (hslots : slots + N ≤ R.slots) (hdg : decode cc pc = .ok (.newarray .int, 2))
    (kk : ∀ (q : Nat) (H1 : Heap), zP G (bs ++ [[(q, .inl (G.2.1, N, .inl (fun _ => 0)))]]) H1 → zD A (bs ++ [[(q, .inl (G.2.1, N, .inl (fun _ => 0)))]]) → va_S A H0 H1 locs → W p l e R s m args below meth c H1 locs (cells + 1) (slots + N) Q (F0 m (pc + 2) ls (.ref q :: rest))) : W p l e R s m args below meth c H locs cells slots Q (F0 m pc ls (.int n :: rest)) := by
  refine zc_newa S harr hK hP.flat hD.flat hS hA hn hN hcells hslots hdg (fun q H1 hP1 hD1 hS1 => ?_)
  rw [← zfl1] at hP1 hD1
  exact kk q H1 (zP.of hP1) (zD.of_flat hD1) hS1
theorem zg_clone (S : CallFix p m c cc nL s args Ts own) {index index2 : Nat} (hlink : Cond.methodLink own index ⟨"[I", "clone", "()Ljava/lang/Object;"⟩ ∈ Ts) (hsame : Cond.sameMethod "[I" "java/lang/Object" "clone" "()Ljava/lang/Object;" ∈ Ts) (hnat : Cond.native ⟨"java/lang/Object", "clone", "()Ljava/lang/Object;"⟩ ∈ Ts) (hinst : Cond.instanceMethod ⟨"java/lang/Object", "clone", "()Ljava/lang/Object;"⟩ ∈ Ts) (hsel : Cond.selects "[I" ⟨"[I", "clone", "()Ljava/lang/Object;"⟩ ⟨"java/lang/Object", "clone", "()Ljava/lang/Object;"⟩ ∈ Ts) (hcls : Cond.classLink own index2 "[I" ∈ Ts) (hcl : va_Nw (.castable "[I" "java/lang/Cloneable") s) (hls : ls.size = nL) (hK : zK G s) (hP : zP G bs H) (hD : zD A bs) (hS : va_S A H0 H locs) (hA : ∀ q, H0.size ≤ q → A q) (i : Nat) {blk : va_W} (hi : bs[i]? = some blk) (q0 : Nat) {a n : Nat} {f : Nat → Int32} (ha : blk[q0]? = some (a, .inl (G.2.1, n, .inl f)))
    (hframes : 1 ≤ R.frames) (hlocals : (rest.map fun v => v.category).sum + 14 ≤ R.locals) (hcells : cells + 1 ≤ R.cells) (hslots : slots + n ≤ R.slots) (hdg : decode cc pc = .ok (.invokevirtual index, 3)) (hdg2 : decode cc (pc + 3) = .ok (.checkcast index2, 3))
    (kk : ∀ (q : Nat) (H1 : Heap), zP G (bs ++ [[(q, .inl (G.2.1, n, .inl f))]]) H1 → zD A (bs ++ [[(q, .inl (G.2.1, n, .inl f))]]) → va_S A H0 H1 locs → W p l e R s m args below meth c H1 locs (cells + 1) (slots + n) Q (F0 m (pc + 3 + 3) ls (.ref q :: rest))) : W p l e R s m args below meth c H locs cells slots Q (F0 m pc ls (.ref a :: rest)) := by
  have e2 : s.vm.findClass ("[" ++ FieldType.int.toString) = some G.2.1 := (hK.1.2 0 (G.2.1, .int) rfl).2
  have e1 : s.vm.findClass "[I" = some G.2.1 := by
    rw [show ("[" ++ FieldType.int.toString) = "[I" from by decide] at e2
    exact e2
  obtain ⟨k, hk, -⟩ := zflat_at hi ha
  refine va_clone (ty := .int) (x := (n, .inl f)) S.1 S.2.1 (S.2.2.1.trans hls.symm) S.2.2.2.1 (S.2.2.2.2 _ hlink) (S.2.2.2.2 _ hsame) (S.2.2.2.2 _ hnat) (S.2.2.2.2 _ hinst) (S.2.2.2.2 _ hsel) hcl hK.1 hP.flat hD.flat hS hA k 0 hk rfl e1 (va_fit (fun i _ => rfl)) hframes hlocals hcells hslots hdg (fun q H1 hK1 hP1 hD1 hS1 => ?_)
  refine va_castA S.1 S.2.1 S.2.2.2.1 (S.2.2.2.2 _ hcls) hP1 bs.flatten.length (x := (n, .inl f)) (cA := G.2.1) (by rw [List.getElem?_append_right (Nat.le_refl _), Nat.sub_self]; rfl) e1 hdg2 ?_
  rw [← zfl1] at hP1 hD1
  exact kk q H1 (zP.of hP1) (zD.of_flat hD1) hS1
end ZNEW
