/-! the class Rows: its values are an array of four arrays of 24 ints, made by one instruction -/
/-- the outer array when i of its four are in it -/
def zmO (c : ClassId) (h i : Nat) : Cell := arrV c 4 (fun j => if j < i then .ref (h + 1 + j) else .null)
theorem zmO_set (c : ClassId) (h i : Nat) : (zmO c h i).setSlot i (.ref (h + 1 + i)) = zmO c h (i + 1) := by
  unfold zmO
  rw [arrV_store]
  congr 1
  funext j
  unfold updV
  by_cases e : j = i
  · rw [if_pos e, if_pos (by omega), e]
  · rw [if_neg e]
    show (if j < i then Value.ref (h + 1 + j) else .null) = if j < i + 1 then Value.ref (h + 1 + j) else .null
    by_cases h1 : j < i
    · rw [if_pos h1, if_pos (by omega)]
    · rw [if_neg h1, if_neg (by omega)]
theorem zmO_4 (c : ClassId) (h : Nat) : zmO c h 4 = arrV c 4 (fun j => va_rf (some (h + 1 + j))) := by
  unfold zmO arrV
  congr 2
  funext j
  show (if j.1 < 4 then Value.ref (h + 1 + j.1) else .null) = Value.ref (h + 1 + j.1)
  rw [if_pos j.2]
theorem zmO_0 (c : ClassId) (h : Nat) : ({ cls := c, slots := Array.replicate 4 .null, vm := .none } : Cell) = zmO c h 0 := by
  rw [arrV_new]
  unfold zmO
  congr 1
theorem zmO_f (c : ClassId) (h i : Nat) : (zmO c h i).cls = c ∧ (zmO c h i).vm = .none ∧ (zmO c h i).slots.size = 4 := ⟨rfl, rfl, arrV_size _ _ _⟩
/-- the inner one -/
def zmI (c : ClassId) : Cell := arrV c 24 (fun _ => .int 0)
theorem zmI_0 (c : ClassId) : ({ cls := c, slots := Array.replicate 24 (.int 0), vm := .none } : Cell) = zmI c := arrV_new c 24 (.int 0)
/-- the state when i are in it -/
def zmS (s : State) (c comp : ClassId) : Nat → State
  | 0 => s.pushCell (zmO c s.heap.size 0)
  | i + 1 => ((zmS s c comp i).pushCell (zmI comp)).setCell s.heap.size (zmO c s.heap.size (i + 1))
theorem zmS_a (s : State) (c comp : ClassId) : ∀ i, (zmS s c comp i).heap.size = s.heap.size + 1 + i ∧ (zmS s c comp i).heap[s.heap.size]? = some (zmO c s.heap.size i) ∧ (zmS s c comp i).vm = s.vm ∧ (zmS s c comp i).slotsUsed = s.slotsUsed + 4 + i * 24
  | 0 => ⟨by simp [zmS], by simp [zmS], rfl, by simp [zmS, (zmO_f c s.heap.size 0).2.2]⟩
  | i + 1 => by
    obtain ⟨a, b, d, u⟩ := zmS_a s c comp i
    have hlt : s.heap.size < (zmS s c comp i).heap.size := by omega
    have hb : ((zmS s c comp i).pushCell (zmI comp)).heap[s.heap.size]? = some (zmO c s.heap.size i) := by rw [State.heap_pushCell_of_lt (h := hlt)]; exact b
    refine ⟨?_, State.heap_setCell_self hb, by simp [zmS, d], ?_⟩
    · simp [zmS, State.setCell, a]; omega
    · have e : (zmI comp).slots.size = 24 := arrV_size _ _ _
      simp [zmS, u, e, Nat.succ_mul]; omega
theorem zmS_old (s : State) (c comp : ClassId) {a : Nat} (ha : a < s.heap.size) : ∀ i, (zmS s c comp i).heap[a]? = s.heap[a]?
  | 0 => State.heap_pushCell_of_lt _ _ ha
  | i + 1 => by
    have f1 := (zmS_a s c comp i).1
    show (((zmS s c comp i).pushCell (zmI comp)).setCell s.heap.size _).heap[a]? = _
    have hl : a < (zmS s c comp i).heap.size := by rw [f1]; omega
    rw [State.heap_setCell_other (Nat.ne_of_gt ha), State.heap_pushCell_of_lt (h := hl)]
    exact zmS_old s c comp ha i
theorem zmS_in (s : State) (c comp : ClassId) : ∀ i j, j < i → (zmS s c comp i).heap[s.heap.size + 1 + j]? = some (zmI comp)
  | 0, _, h => absurd h (Nat.not_lt_zero _)
  | i + 1, j, h => by
    have f1 := (zmS_a s c comp i).1
    show (((zmS s c comp i).pushCell (zmI comp)).setCell s.heap.size _).heap[s.heap.size + 1 + j]? = _
    rw [State.heap_setCell_other (show s.heap.size ≠ s.heap.size + 1 + j by omega)]
    by_cases hj : j < i
    · have hl : s.heap.size + 1 + j < (zmS s c comp i).heap.size := by rw [f1]; omega
      rw [State.heap_pushCell_of_lt (h := hl)]
      exact zmS_in s c comp i j hj
    · have e : s.heap.size + 1 + j = (zmS s c comp i).heap.size := by rw [f1]; omega
      rw [e]
      simp
theorem zmS_top (s : State) (f : JFrame) (c comp : ClassId) : ∀ i, zmS (s.setTop f) c comp i = (zmS s c comp i).setTop f
  | 0 => rfl
  | i + 1 => by simp only [zmS, zmS_top s f c comp i, State.heap_setTop, State.pushCell_setTop, State.setCell_setTop]
section ZMWP
variable {E : CtlPost} {e : Env} {d : Bool} {acts : List Action} {s : State}
theorem zm_new {c comp : ClassId} {k : Class} {type : FieldType} {len : Nat} {init : Value} (hk : s.vm.classes[c]? = some k) (hkind : k.kind = .array comp type) (hlimit : ¬ len > e.platform.arrayLengthLimit) (hheap : ¬ len * componentBytes type > e.platform.maxHeapBytes) (hfit : fits type init = true) (hdef : init.isDefault = true) {Q : Addr → Pre} (h1 : s.heap.size < e.platform.maxCells) (h2 : s.slotsUsed + len ≤ e.platform.maxSlots) (hq : Q s.heap.size d acts (s.pushCell { cls := c, slots := Array.replicate len init, vm := .none })) : wp (Jvm.newArray c len init) Q E e d acts s := by
  have hfits : ∀ i v, (Array.replicate len init)[i]? = some v → s.fitsSlot c .none i v = true := fun i v hv => by
    rw [Array.getElem?_replicate] at hv
    split at hv
    · obtain rfl := Option.some.inj hv
      simp [State.fitsSlot, State.slotType?, hk, hkind, hfit]
    · cases hv
  have hda : allocActs (Array.replicate len init) s.heap.size acts = acts := by
    unfold allocActs
    rw [if_pos (by rw [Array.all_replicate]; split <;> simp [hdef])]
  simp only [Jvm.newArray, Jvm.arrayFits, wp_bind', W.ask, W.ite, hlimit, if_false, wp_pure', W.theClass, hk, hkind, hheap, W.alloc, W.stop, Option.some.injEq, exists_eq_left', Array.size_replicate, hda]
  rw [if_neg (by omega)]
  exact ⟨h1, h2, hfits, hq⟩
theorem zm_make {c comp cc : ClassId} {k kc : Class} (hk : s.vm.classes[c]? = some k) (hkind : k.kind = .array comp (.array .int)) (hkc : s.vm.classes[comp]? = some kc) (hkindc : kc.kind = .array cc .int) (hl : ¬ 24 > e.platform.arrayLengthLimit) (hh : ¬ 24 * 4 > e.platform.maxHeapBytes) (hc : s.heap.size + 1 + 4 ≤ e.platform.maxCells) (hs : s.slotsUsed + 4 + 4 * 24 ≤ e.platform.maxSlots) {Q : Addr → Pre} (hq : ∀ d' acts', Q s.heap.size d' acts' (zmS s c comp 4)) : wp (multianewarray.make c [4, 24]) Q E e d acts s := by
  rw [multianewarray.make]
  simp only [wp_bind', W.ite, show ¬ ((4 : Int32) < 0) by decide, if_false, wp_pure', W.theClass, hk, hkind, Option.some.injEq, exists_eq_left', show (4 : Int32).toNatClampNeg = 4 by decide]
  refine zm_new hk hkind (by omega) (by show ¬ 4 * 4 > _; omega) rfl rfl (by omega) (by omega) ?_
  rw [zmO_0 c s.heap.size, show ((4 : Int32) == 0) = false by decide]
  simp only [Bool.false_eq_true, if_false]
  rw [wp_bind', Std.Legacy.Range.forIn_eq_forIn_range']
  show wp (forIn (List.range' 0 4 1) PUnit.unit _) _ E e d acts _
  refine wp_forIn_inv (fun rest s' => ∃ i, i ≤ 4 ∧ rest = List.range' i (4 - i) ∧ s' = zmS s c comp i) _ _ ⟨0, Nat.zero_le _, rfl, rfl⟩ ?_ ?_
  · rintro x rest s' d' acts' Q' ⟨i, hi, hr, rfl⟩ hnext
    have hlt : i < 4 := by
      rcases Nat.lt_or_ge i 4 with h | h
      · exact h
      · rw [show 4 - i = 0 by omega] at hr
        cases hr
    rw [show 4 - i = (4 - (i + 1)) + 1 by omega, List.range'_succ] at hr
    have hx : x = i := (List.cons.inj hr).1
    have hr := (List.cons.inj hr).2
    subst hx
    obtain ⟨f1, f2, f3, f4⟩ := zmS_a s c comp x
    obtain ⟨o1, o2, o3⟩ := zmO_f c s.heap.size x
    have hlt0 : s.heap.size < (zmS s c comp x).heap.size := by rw [f1]; omega
    simp only [wp_bind']
    rw [multianewarray.make]
    simp only [wp_bind', W.ite, show ¬ ((24 : Int32) < 0) by decide, if_false, wp_pure', W.theClass, f3, hkc, hkindc, Option.some.injEq, exists_eq_left', show (24 : Int32).toNatClampNeg = 24 by decide]
    refine zm_new (by rw [f3]; exact hkc) hkindc hl hh rfl rfl (by rw [f1]; omega) (by rw [f4]; omega) ?_
    rw [show defaultValue .int = Value.int 0 from rfl, zmI_0 comp]
    simp only [wp_bind', W.writeLoc, wp_pure']
    refine ⟨zmO c s.heap.size x, by rw [State.heap_pushCell_of_lt (h := hlt0)]; exact f2, by rw [o2]; simp, by rw [o3]; exact hlt, ?_, hnext _ _ _ ⟨x + 1, hlt, hr, ?_⟩⟩
    · rw [o1, o2]
      simp [State.fitsSlot, State.slotType?, f3, hk, hkind]
      try rfl
    · rw [f1, zmO_set]
      rfl
  · rintro s' d' acts' ⟨i, hi, hr, rfl⟩
    have h4 : i = 4 := by
      rcases Nat.lt_or_ge i 4 with h | h
      · rw [show 4 - i = (4 - (i + 1)) + 1 by omega, List.range'_succ] at hr
        cases hr
      · omega
    subst h4
    simp only [wp_pure']
    exact hq _ _
end ZMWP
theorem zmX {p : Program} {l : Launch} {e : Env} {R : Room} {s : State} {m : MethodId} {args : Array Value} {below : List Frame} {meth : Method} {c : Code} {T : State} {locs : List Loc} {cells slots : Nat} (X : Stand p l e R s m args below meth c T locs cells slots) (cA comp : ClassId) : ∀ i, Stand p l e R s m args below meth c (zmS T cA comp i) locs (cells + 1 + i) (slots + 4 + i * 24)
  | 0 => by
    have h := X.pushed (zmO cA T.heap.size 0)
    rw [(zmO_f cA T.heap.size 0).2.2] at h
    simpa [zmS] using h
  | i + 1 => by
    have Xi := zmX X cA comp i
    obtain ⟨f1, f2, f3, f4⟩ := zmS_a T cA comp i
    have hlt0 : T.heap.size < (zmS T cA comp i).heap.size := by rw [f1]; omega
    have hcell : ((zmS T cA comp i).pushCell (zmI comp)).heap[T.heap.size]? = some (zmO cA T.heap.size i) := by rw [State.heap_pushCell_of_lt (h := hlt0)]; exact f2
    have h := (Xi.pushed (zmI comp)).stored hcell i (.ref (T.heap.size + 1 + i))
    rw [zmO_set, show (zmI comp).slots.size = 24 from arrV_size _ _ _, show slots + 4 + i * 24 + 24 = slots + 4 + (i + 1) * 24 by rw [Nat.succ_mul]; omega] at h
    have hg : s.heap.size ≤ T.heap.size := X.same.2.1
    exact Stand.forget h (fun y hy => by
      have e := List.mem_singleton.mp hy
      rw [e]
      exact hg)
theorem zc_multi {p : Program} {l : Launch} {e : Env} {R : Room} {s : State} {m : MethodId} {args : Array Value} {below : List Frame} {meth : Method} {c : Code} {H : Heap} {locs : List Loc} {cells slots : Nat} {Q : State → Prop} {cc : ByteArray} {pc : Nat} {ls : Array Slot} {rest : List Value} {G : zG} {A : Nat → Prop} {ws : va_W} {nL : Nat} {Ts : List Cond} {own : String} {H0 : Heap} {index : Nat} (S : CallFix p m c cc nL s args Ts own) (hcl : Cond.classLink own index ("[" ++ (FieldType.array .int).toString) ∈ Ts) (hAO : zAO s) (harr : Cond.arrayClass .int ∈ Ts) (hK : zK G s) (hP : va_P G.1 vwCl ws H) (hD : va_D A ws) (hS : va_S A H0 H locs) (hA : ∀ q, H0.size ≤ q → A q) (hcells : cells + (1 + 4) ≤ R.cells) (hslots : slots + (4 + 96) ≤ R.slots) (hdg : decode cc pc = .ok (.multianewarray index 2, 4))
    (kk : ∀ (q : Nat) (H1 : Heap), va_P G.1 vwCl (ws ++ [(q, .inl (G.2.2.2, 4, .inr (.inr (.inr (.inr (fun j => some (q + 1 + j))))))), (q + 1, .inl (G.2.1, 24, .inl (fun _ => 0))), (q + 2, .inl (G.2.1, 24, .inl (fun _ => 0))), (q + 3, .inl (G.2.1, 24, .inl (fun _ => 0))), (q + 4, .inl (G.2.1, 24, .inl (fun _ => 0)))]) H1 → va_D A (ws ++ [(q, .inl (G.2.2.2, 4, .inr (.inr (.inr (.inr (fun j => some (q + 1 + j))))))), (q + 1, .inl (G.2.1, 24, .inl (fun _ => 0))), (q + 2, .inl (G.2.1, 24, .inl (fun _ => 0))), (q + 3, .inl (G.2.1, 24, .inl (fun _ => 0))), (q + 4, .inl (G.2.1, 24, .inl (fun _ => 0)))]) → va_S A H0 H1 locs → W p l e R s m args below meth c H1 locs (cells + 1 + 4) (slots + 4 + 4 * 24) Q (F0 m (pc + 4) ls (.ref q :: rest))) : W p l e R s m args below meth c H locs cells slots Q (F0 m pc ls (.int 24 :: .int 4 :: rest)) := by
  intro T hT X
  subst hT
  have hx := S.1
  have hb := S.2.1
  subst hb
  have hpl : e.platform.magicAccessors = ({} : Platform).magicAccessors := by rw [X.admits.platform]
  obtain ⟨comp, cA, kA, hcomp, -, hkA, hkindA, hnameA⟩ := arrayOverA_spec hAO.2
  obtain ⟨comp1, kC, cc1, hcomp1, hkC, hkindC⟩ := Cond.arrayClass_spec (S.2.2.2.2 _ harr)
  have ecomp : comp1 = comp := Option.some.inj (hcomp1.symm.trans hcomp)
  subst ecomp
  have ea : cA = G.2.2.2 := Option.some.inj (hnameA.symm.trans (hK.1.2 2 (G.2.2.2, .array .int) rfl).2)
  have ec : comp1 = G.2.1 := Option.some.inj (hcomp1.symm.trans (hK.1.2 0 (G.2.1, .int) rfl).2)
  obtain ⟨c0, hfc0, hlk⟩ := Cond.classLink_spec S.2.2.2.1 (S.2.2.2.2 _ hcl) e.platform hpl
  have e0 : cA = c0 := Option.some.inj (hnameA.symm.trans hfc0)
  subst e0
  subst ea ec
  obtain ⟨hg1, hwarm1, hready1⟩ := State.classEntry (e := e) X.warmed hlk
  generalize T.vm.noted m.cls index (.cls G.2.2.2) = vm1 at hg1 hwarm1 hready1
  have hal : s.vm.Alike vm1 := hwarm1.alike
  obtain ⟨kA1, hkA1, heA⟩ := hal.2.2 _ _ hkA
  obtain ⟨kC1, hkC1, heC⟩ := hal.2.2 _ _ hkC
  have hkindA1 : kA1.kind = .array G.2.1 (.array .int) := by rw [heA]; exact hkindA
  have hkindC1 : kC1.kind = .array cc1 .int := by rw [heC]; exact hkindC
  have X1 := zmX (X.noted hwarm1) G.2.2.2 G.2.1 4
  obtain ⟨hr1, hr2⟩ := X.roomAbove hcells hslots
  obtain ⟨g1, g2, -, -⟩ := zmS_a (T.setVm vm1) G.2.2.2 G.2.1 4
  have g3 : ∀ a : Nat, a < T.heap.size → (zmS (T.setVm vm1) G.2.2.2 G.2.1 4).heap[a]? = T.heap[a]? := fun a ha => zmS_old (T.setVm vm1) G.2.2.2 G.2.1 (a := a) ha 4
  have g4 := zmS_in (T.setVm vm1) G.2.2.2 G.2.1 4
  have hh : (T.setVm vm1).heap = T.heap := rfl
  rw [hh] at g1 g2 g4
  rw [zmO_4] at g2
  have hk : ∀ (k : Nat) (x : Nat × va_E), ws[k]? = some x → (zmS (T.setVm vm1) G.2.2.2 G.2.1 4).heap[x.1]? = T.heap[x.1]? := fun k x hx => g3 x.1 ((hP k x hx).lt)
  have key : ∀ (i : Nat) (x : Nat × va_E), ([(T.heap.size, .inl (G.2.2.2, 4, .inr (.inr (.inr (.inr (fun j => some (T.heap.size + 1 + j))))))), (T.heap.size + 1, .inl (G.2.1, 24, .inl (fun _ => 0))), (T.heap.size + 2, .inl (G.2.1, 24, .inl (fun _ => 0))), (T.heap.size + 3, .inl (G.2.1, 24, .inl (fun _ => 0))), (T.heap.size + 4, .inl (G.2.1, 24, .inl (fun _ => 0)))] : va_W)[i]? = some x → x.1 = T.heap.size + i ∧ va_at G.1 vwCl x (zmS (T.setVm vm1) G.2.2.2 G.2.1 4).heap := fun i x hx => by
    match i, hx with
    | 0, hx => have e := Option.some.inj hx; subst e; exact ⟨rfl, g2⟩
    | 1, hx => have e := Option.some.inj hx; subst e; exact ⟨rfl, g4 0 (by omega)⟩
    | 2, hx => have e := Option.some.inj hx; subst e; exact ⟨rfl, g4 1 (by omega)⟩
    | 3, hx => have e := Option.some.inj hx; subst e; exact ⟨rfl, g4 2 (by omega)⟩
    | 4, hx => have e := Option.some.inj hx; subst e; exact ⟨rfl, g4 3 (by omega)⟩
    | i + 5, hx => exact absurd (show i + 5 < 5 from (List.getElem?_eq_some_iff.mp hx).1) (by omega)
  obtain ⟨t, a1, b1⟩ := kk T.heap.size (zmS (T.setVm vm1) G.2.2.2 G.2.1 4).heap ((hP.kept hk).app (fun k x hx => (key k x hx).2))
    (va_D.app hD ⟨fun i j x y hx hy hxy => by have h1 := (key i x hx).1; have h2 := (key j y hy).1; omega, fun k x hx => hA _ (by rw [(key k x hx).1]; have := hS.1; omega)⟩ (fun i j x y hx hy hxy => by have h1 := (hP i x hx).lt; have h2 := (key j y hy).1; omega))
    ⟨by have := hS.1; omega, fun x h1 h2 => (g3 x (Nat.lt_of_lt_of_le h1 hS.1)).trans (hS.2.1 x h1 h2), hS.2.2⟩ _ rfl X1
  refine ⟨t, ?_, b1⟩
  have hl : ¬ 24 > e.platform.arrayLengthLimit := by rw [Launch.admits_arrayLengthLimit X.admits]; omega
  have hh2 : ¬ 24 * 4 > e.platform.maxHeapBytes := by rw [Launch.admits_maxHeapBytes X.admits]; omega
  jvm_step X.here [hx, hdg]
  simp only [multianewarray.sem, wp_bind', W.resolveClassAt_links (State.method?_setTop (F0 m pc ls (.int 24 :: .int 4 :: rest)) X.here.top) hg1]
  rw [W.popN, if_neg (by decide)]
  refine ⟨F0 m pc ls (.int 24 :: .int 4 :: rest), State.topJava?_setTop' (s := T.setVm vm1) _ X.here.top, [.int 4, .int 24], rest, rfl, rfl, ?_⟩
  simp only [List.mapM_cons, List.mapM_nil, wp_bind', wp_pure']
  refine zm_make (k := kA1) (kc := kC1) (comp := G.2.1) (cc := cc1) hkA1 hkindA1 hkC1 hkindC1 hl hh2 (by show T.heap.size + 1 + 4 ≤ _; omega) (by show T.slotsUsed + 4 + 4 * 24 ≤ _; omega) (fun d' acts' => ?_)
  have eS : ∀ f : JFrame, ((T.setTop (F0 m pc ls (.int 24 :: .int 4 :: rest))).setVm vm1).setTop f = (T.setVm vm1).setTop f := fun f => by
    show ((T.setVm vm1).setTop _).setTop _ = _
    rw [State.setTop_setTop]
  rw [eS, zmS_top]
  simp only [wp_bind', W.mark, W.pushRef, State.topJava?_setTop' _ X1.here.top, Option.some.injEq, exists_eq_left', State.setTop_setTop, State.heap_setTop]
  intro acts
  simp [jvm, X1.here.top]
  exact a1
