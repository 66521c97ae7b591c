/-! the class Rows: its values are an array of four arrays -/
theorem zc_multi {p : Program} {l : Launch} {e : Env} {R : Room} {s : State} {m : MethodId} {args : Array Value} {below : List Frame} {meth : Method} {c : Code} {H : Heap} {locs : List Loc} {cells slots : Nat} {Q : State → Prop} {cc : ByteArray} {pc : Nat} {ls : Array Slot} {rest : List Value} {G : zG} {A : Nat → Prop} {ws : va_W} {nL : Nat} {Ts : List Cond} {own : String} {H0 : Heap} {index : Nat} (S : CallFix p m c cc nL s args Ts own) (hcl : Cond.classLink own index ("[" ++ (FieldType.array .int).toString) ∈ Ts) (hAO : zAO s) (harr : Cond.arrayClass .int ∈ Ts) (hK : zK G s) (hP : va_P G.1 vwCl ws H) (hD : va_D A ws) (hS : va_S A H0 H locs) (hA : ∀ q, H0.size ≤ q → A q) (hcells : cells + (1 + 4) ≤ R.cells) (hslots : slots + (4 + 96) ≤ R.slots) (hdg : decode cc pc = .ok (.multianewarray index 2, 4))
    (kk : ∀ (q : Nat) (H1 : Heap), va_P G.1 vwCl (ws ++ [(q, .inl (G.2.2.2, 4, .inr (.inr (.inr (.inr (fun j => some (q + 1 + j))))))), (q + 1, .inl (G.2.1, 24, .inl (fun _ => 0))), (q + 2, .inl (G.2.1, 24, .inl (fun _ => 0))), (q + 3, .inl (G.2.1, 24, .inl (fun _ => 0))), (q + 4, .inl (G.2.1, 24, .inl (fun _ => 0)))]) H1 → va_D A (ws ++ [(q, .inl (G.2.2.2, 4, .inr (.inr (.inr (.inr (fun j => some (q + 1 + j))))))), (q + 1, .inl (G.2.1, 24, .inl (fun _ => 0))), (q + 2, .inl (G.2.1, 24, .inl (fun _ => 0))), (q + 3, .inl (G.2.1, 24, .inl (fun _ => 0))), (q + 4, .inl (G.2.1, 24, .inl (fun _ => 0)))]) → va_S A H0 H1 locs → W p l e R s m args below meth c H1 locs (cells + 1 + 4) (slots + 4 + 4 * 24) Q (F0 m (pc + 4) ls (.ref q :: rest))) : W p l e R s m args below meth c H locs cells slots Q (F0 m pc ls (.int 24 :: .int 4 :: rest)) := by
  have e4 : (4 : Int32).toNatClampNeg = 4 := by decide
  have e24 : (24 : Int32).toNatClampNeg = 24 := by decide
  intro T hT X
  subst hT
  obtain ⟨vm1, cA, comp, -, hfA, hfC, -, -, X1, st⟩ := X.multianewarray2F S.1 (ty := .int) S.2.2.2.1 (S.2.2.2.2 _ hcl) hAO.2 (S.2.2.2.2 _ harr) (g := F0 m pc ls (.int 24 :: .int 4 :: rest)) rfl (by rw [S.2.1]; exact hdg) rfl (by decide) (by decide) (by decide) (by decide) (by decide) rfl rfl (by rw [e4]; exact hcells) (by rw [e4, e24]; exact hslots)
  rw [e4, e24] at X1 st
  have ea : cA = G.2.2.2 := Option.some.inj (hfA.symm.trans (hK.1.2 2 (G.2.2.2, .array .int) rfl).2)
  have ec : comp = G.2.1 := Option.some.inj (hfC.symm.trans (hK.1.2 0 (G.2.1, .int) rfl).2)
  subst ea ec
  have g1 := (Jvm.Free.Multi.fill_facts (T.setVm vm1) G.2.2.2 G.2.1 4 24 (defaultValue .int) 4).1
  have g2 := (Jvm.Free.Multi.fill_facts (T.setVm vm1) G.2.2.2 G.2.1 4 24 (defaultValue .int) 4).2.1
  have g3 : ∀ a : Nat, a < T.heap.size → _ := fun a ha => Jvm.Free.Multi.fill_old (T.setVm vm1) G.2.2.2 G.2.1 4 24 (defaultValue .int) (a := a) ha 4
  have g4 := Jvm.Free.Multi.fill_inner (T.setVm vm1) G.2.2.2 G.2.1 4 24 (defaultValue .int) 4
  have hh : (T.setVm vm1).heap = T.heap := rfl
  rw [hh] at g1 g2 g3 g4
  generalize Jvm.Free.Multi.fill (T.setVm vm1) G.2.2.2 G.2.1 4 24 (defaultValue .int) 4 = T1 at X1 st g1 g2 g3 g4
  have eo : Jvm.Free.Multi.outerC G.2.2.2 4 T.heap.size 4 = arrV G.2.2.2 4 (fun j => va_rf (some (T.heap.size + 1 + j))) := by
    show (((({ cls := G.2.2.2, slots := Array.replicate 4 .null, vm := .none } : Cell).setSlot 0 (.ref (T.heap.size + 1 + 0))).setSlot 1 (.ref (T.heap.size + 1 + 1))).setSlot 2 (.ref (T.heap.size + 1 + 2))).setSlot 3 (.ref (T.heap.size + 1 + 3)) = _
    rw [arrV_new, arrV_store, arrV_store, arrV_store, arrV_store]
    unfold arrV
    congr 2
    funext j
    match j with
    | ⟨0, _⟩ => rfl
    | ⟨1, _⟩ => rfl
    | ⟨2, _⟩ => rfl
    | ⟨3, _⟩ => rfl
  have ei : Jvm.Free.Multi.innerC G.2.1 24 (defaultValue .int) = arrV G.2.1 24 (fun _ => .int 0) := arrV_new G.2.1 24 (.int 0)
  rw [eo] at g2
  rw [ei] at g4
  have hk : ∀ (k : Nat) (x : Nat × va_E), ws[k]? = some x → T1.heap[x.1]? = T.heap[x.1]? := fun k x hx => g3 x.1 ((hP k x hx).lt)
  have key : ∀ (i : Nat) (x : Nat × va_E), ([(T.heap.size, .inl (G.2.2.2, 4, .inr (.inr (.inr (.inr (fun j => some (T.heap.size + 1 + j))))))), (T.heap.size + 1, .inl (G.2.1, 24, .inl (fun _ => 0))), (T.heap.size + 2, .inl (G.2.1, 24, .inl (fun _ => 0))), (T.heap.size + 3, .inl (G.2.1, 24, .inl (fun _ => 0))), (T.heap.size + 4, .inl (G.2.1, 24, .inl (fun _ => 0)))] : va_W)[i]? = some x → x.1 = T.heap.size + i ∧ va_at G.1 vwCl x T1.heap := fun i x hx => by
    match i, hx with
    | 0, hx => have e := Option.some.inj hx; subst e; exact ⟨rfl, g2⟩
    | 1, hx => have e := Option.some.inj hx; subst e; exact ⟨rfl, g4 0 (by omega)⟩
    | 2, hx => have e := Option.some.inj hx; subst e; exact ⟨rfl, g4 1 (by omega)⟩
    | 3, hx => have e := Option.some.inj hx; subst e; exact ⟨rfl, g4 2 (by omega)⟩
    | 4, hx => have e := Option.some.inj hx; subst e; exact ⟨rfl, g4 3 (by omega)⟩
    | i + 5, hx => exact absurd (show i + 5 < 5 from (List.getElem?_eq_some_iff.mp hx).1) (by omega)
  obtain ⟨t, a1, b1⟩ := kk T.heap.size T1.heap ((hP.kept hk).app (fun k x hx => (key k x hx).2))
    (va_D.app hD ⟨fun i j x y hx hy hxy => by have h1 := (key i x hx).1; have h2 := (key j y hy).1; omega, fun k x hx => hA _ (by rw [(key k x hx).1]; have := hS.1; omega)⟩ (fun i j x y hx hy hxy => by have h1 := (hP i x hx).lt; have h2 := (key j y hy).1; omega))
    ⟨by have := hS.1; omega, fun x h1 h2 => (g3 x (Nat.lt_of_lt_of_le h1 hS.1)).trans (hS.2.1 x h1 h2), hS.2.2⟩ T1 rfl X1
  exact ⟨t, st t a1, b1⟩
