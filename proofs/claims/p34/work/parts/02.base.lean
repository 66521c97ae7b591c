/-! the layer: worlds as lists of blocks, contracts with one answer and one end world, rows over blocks -/
theorem zNs_one {own : String} {i : Nat} {x : MethodName} {h : String} : ∃ (a : String) (j : Nat) (z : MethodName) (g : String), Cond.methodLinkNest own i x h = .methodLinkNest a j z g := ⟨_, _, _, _, rfl⟩
def zNs : List Cond := [.methodLinkNest RX0 46 yX8_has "RuleCourt", .methodLinkNest RX6 68 yX8_has "RuleCourt", .methodLinkNest RX6 107 yX8_otherOf "RuleCourt", .methodLinkNest RX4 52 yX8_has "RuleCourt", .methodLinkNest RX8 13 yX0_init "RuleCourt", .methodLinkNest RX8 20 yX4_init "RuleCourt", .methodLinkNest RX4 11 yX6_init "RuleCourt", .methodLinkNest RX8 33 yX3_init "RuleCourt", .methodLinkNest RX3 11 yX6_init "RuleCourt", .methodLinkNest RX1 24 yX0_init "RuleCourt", .methodLinkNest RX8 50 yX7_init "RuleCourt", .methodLinkNest RX8 57 yX2_init "RuleCourt", .methodLinkNest RX8 64 yX5_init "RuleCourt"]
theorem zNs_ok : ∀ w ∈ zNs, ∃ (a : String) (j : Nat) (z : MethodName) (g : String), w = .methodLinkNest a j z g := by
  unfold zNs
  repeat (refine List.forall_mem_cons.mpr ⟨zNs_one, ?_⟩)
  exact fun _ h => absurd h List.not_mem_nil
def zN (U : State) : Prop := ∀ w ∈ zNs, va_Nw w U
theorem zN.warm {s U : State} (hW : s.WarmedH U.vm) (h : zN s) : zN U := fun w hw => by
  obtain ⟨a, i, x, g, rfl⟩ := zNs_ok w hw
  exact va_Nw.warmM hW (h _ hw)
theorem zN.same {u U : State} (e : u.vm = U.vm) (h : zN u) : zN U := fun w hw => by
  obtain ⟨a, i, x, g, rfl⟩ := zNs_ok w hw
  exact va_Nw.same rfl e (h _ hw)
abbrev zG : Type := va_G × ClassId × ClassId × ClassId
def zT (G : zG) : List (ClassId × FieldType) := [(G.2.1, .int), (G.2.2.1, .object "RuleCourt$Court"), (G.2.2.2, .array .int)]
def zK (G : zG) (U : State) : Prop := va_K G.1 vwCl (zT G) U ∧ zN U
theorem zK.warm {G : zG} {s U : State} (hW : s.WarmedH U.vm) (h : zK G s) : zK G U := ⟨va_K.moved hW.alike h.1, h.2.warm hW⟩
theorem zK.calling {G : zG} {U : State} {g : JFrame} {mk : MethodId} {a : Array Value} (h : zK G U) : zK G (U.calling g mk a) := ⟨va_K.moved (u := U) (U := U.calling g mk a) (Vm.Alike.refl U.vm) h.1, zN.same (u := U) (U := U.calling g mk a) rfl h.2⟩
abbrev zB : Type := List va_W
def zP (G : zG) (bs : zB) (H : Heap) : Prop := ∀ b ∈ bs, ∀ q ∈ b, va_at G.1 vwCl q H
def zAd (bs : zB) : List Nat := bs.flatten.map Prod.fst
def zD (A : Nat → Prop) (bs : zB) : Prop := (zAd bs).Nodup ∧ ∀ a ∈ zAd bs, A a
theorem zP.blk {G : zG} {bs : zB} {H : Heap} (h : zP G bs H) {i : Nat} {b : va_W} (hi : bs[i]? = some b) : va_P G.1 vwCl b H := fun k q hk => h b (List.mem_of_getElem? hi) q (List.mem_of_getElem? hk)
theorem zP.flat {G : zG} {bs : zB} {H : Heap} (h : zP G bs H) : va_P G.1 vwCl bs.flatten H := fun k q hk => by
  obtain ⟨b, hb, hq⟩ := List.mem_flatten.mp (List.mem_of_getElem? hk)
  exact h b hb q hq
theorem zP.of {G : zG} {bs : zB} {H : Heap} (h : va_P G.1 vwCl bs.flatten H) : zP G bs H := fun b hb q hq => by
  obtain ⟨i, hi⟩ := List.getElem?_of_mem (List.mem_flatten.mpr ⟨b, hb, hq⟩)
  exact h i q hi
theorem zD.flat {A : Nat → Prop} {bs : zB} (h : zD A bs) : va_D A bs.flatten := by
  refine ⟨fun i j p q hi hj hpq => ?_, fun k q hk => h.2 q.1 (List.mem_map.mpr ⟨q, List.mem_of_getElem? hk, rfl⟩)⟩
  have h1 : (zAd bs)[i]? = some p.1 := by unfold zAd; rw [List.getElem?_map, hi]; rfl
  have h2 : (zAd bs)[j]? = some q.1 := by unfold zAd; rw [List.getElem?_map, hj]; rfl
  have hl : i < (zAd bs).length := (List.getElem?_eq_some_iff.mp h1).1
  refine (List.getElem?_inj hl h.1).mp ?_
  rw [h1, h2, hpq]
theorem zD.to {A : Nat → Prop} {bs bs' : zB} (h : zD A bs) (e : zAd bs' = zAd bs) : zD A bs' := by
  unfold zD; rw [e]; exact h
theorem zD.weaken {A B : Nat → Prop} {bs : zB} (h : zD A bs) (hAB : ∀ a, a ∈ zAd bs → A a → B a) : zD B bs := ⟨h.1, fun a ha => hAB a ha (h.2 a ha)⟩
theorem zA_iff {bs : zB} {sz q : Nat} : va_A bs.flatten sz q ↔ q ∈ zAd bs ∨ sz ≤ q := by
  constructor
  · rintro (⟨k, e, h⟩ | h)
    · exact Or.inl (List.mem_map.mpr ⟨(q, e), List.mem_of_getElem? h, rfl⟩)
    · exact Or.inr h
  · rintro (h | h)
    · obtain ⟨x, hx, rfl⟩ := List.mem_map.mp h
      obtain ⟨i, hi⟩ := List.getElem?_of_mem hx
      exact Or.inl ⟨i, x.2, hi⟩
    · exact Or.inr h
theorem zflat_at {bs : zB} : ∀ {i : Nat} {b : va_W}, bs[i]? = some b → ∀ {k : Nat} {q : Nat × va_E}, b[k]? = some q → ∃ n, bs.flatten[n]? = some q ∧ ∀ x, bs.flatten.set n x = (bs.set i (b.set k x)).flatten := by
  induction bs with
  | nil => intro i b h; simp at h
  | cons c t ih =>
    intro i b hi k q hk
    cases i with
    | zero =>
      simp only [List.getElem?_cons_zero, Option.some.injEq] at hi
      subst hi
      have hl : k < c.length := (List.getElem?_eq_some_iff.mp hk).1
      refine ⟨k, ?_, fun x => ?_⟩
      · rw [List.flatten_cons, List.getElem?_append_left hl]; exact hk
      · rw [List.flatten_cons, List.set_cons_zero, List.flatten_cons, List.set_append_left _ _ hl]
    | succ i =>
      simp only [List.getElem?_cons_succ] at hi
      obtain ⟨n, h1, h2⟩ := ih hi hk
      refine ⟨c.length + n, ?_, fun x => ?_⟩
      · rw [List.flatten_cons, List.getElem?_append_right (Nat.le_add_right _ _), Nat.add_sub_cancel_left]; exact h1
      · rw [List.flatten_cons, List.set_cons_succ, List.flatten_cons, List.set_append_right _ _ (Nat.le_add_right _ _), Nat.add_sub_cancel_left, h2 x]
theorem zD.of_flat {A : Nat → Prop} {bs : zB} (h : va_D A bs.flatten) : zD A bs := by
  refine ⟨?_, fun a ha => ?_⟩
  · unfold zAd
    refine List.pairwise_iff_getElem.mpr (fun i j hi hj hij hne => ?_)
    simp only [List.length_map] at hi hj
    simp only [List.getElem_map] at hne
    exact absurd (h.1 i j _ _ (List.getElem?_eq_getElem hi) (List.getElem?_eq_getElem hj) hne) (Nat.ne_of_lt hij)
  · obtain ⟨x, hx, rfl⟩ := List.mem_map.mp ha
    obtain ⟨i, hi⟩ := List.getElem?_of_mem hx
    exact h.2 i x hi
/-- blocks put in the places of others -/
def zrep : zB → List Nat → zB → zB
  | bs, i :: is, b :: cs => zrep (bs.set i b) is cs
  | bs, _, _ => bs
theorem zfst_set {bs : zB} {i : Nat} {b b' : va_W} (hi : bs[i]? = some b) (e : b'.map Prod.fst = b.map Prod.fst) : zAd (bs.set i b') = zAd bs := by
  unfold zAd
  rw [List.map_flatten, List.map_flatten, List.map_set, e]
  congr 1
  refine List.ext_getElem? (fun j => ?_)
  by_cases hj : i = j
  · subst hj
    have hl : i < (bs.map (List.map Prod.fst)).length := by rw [List.length_map]; exact (List.getElem?_eq_some_iff.mp hi).1
    rw [List.getElem?_set_self hl, List.getElem?_map, hi]; rfl
  · rw [List.getElem?_set_ne hj]
theorem zrep_spec {G : zG} {H1 : Heap} : ∀ (is : List Nat) (bs cs cs' : zB), is.map (fun i => bs[i]?) = cs.map some → va_nd is = true → cs'.map (List.map Prod.fst) = cs.map (List.map Prod.fst) → zP G cs' H1 → (∀ (j : Nat) (b : va_W), bs[j]? = some b → j ∉ is → ∀ q ∈ b, va_at G.1 vwCl q H1) → zP G (zrep bs is cs') H1 ∧ zAd (zrep bs is cs') = zAd bs
  | [], bs, cs, cs', h1, _, _, _, hr => by
    refine ⟨?_, by cases cs' <;> rfl⟩
    have : zrep bs [] cs' = bs := by cases cs' <;> rfl
    rw [this]
    intro b hb q hq
    obtain ⟨j, hj⟩ := List.getElem?_of_mem hb
    exact hr j b hj List.not_mem_nil q hq
  | i :: is, bs, cs, cs', h1, hn, he, hP, hr => by
    cases cs with
    | nil => simp at h1
    | cons c cs =>
      cases cs' with
      | nil => simp at he
      | cons c' cs' =>
        simp only [List.map_cons, List.cons.injEq] at h1 he
        simp only [va_nd, Bool.and_eq_true, decide_eq_true_eq] at hn
        have hl : i < bs.length := (List.getElem?_eq_some_iff.mp h1.1).1
        have e1 := zfst_set h1.1 he.1
        have k1 : is.map (fun j => (bs.set i c')[j]?) = cs.map some := by
          rw [← h1.2]
          refine List.map_congr_left (fun j hj => ?_)
          rw [List.getElem?_set_ne (fun z => hn.1 (by rw [z]; exact hj))]
        obtain ⟨a1, a2⟩ := zrep_spec is (bs.set i c') cs cs' k1 hn.2 he.2 (fun b hb => hP b (List.mem_cons_of_mem _ hb)) (fun j b hj hji q hq => by
          by_cases hij : i = j
          · subst hij
            rw [List.getElem?_set_self hl] at hj
            cases hj
            exact hP _ List.mem_cons_self q hq
          · rw [List.getElem?_set_ne hij] at hj
            exact hr j b hj (fun z => by
              rcases List.mem_cons.mp z with z | z
              · exact hij z.symm
              · exact hji z) q hq)
        exact ⟨a1, a2.trans e1⟩
theorem zsub_mem {bs cs : zB} {is : List Nat} (h : is.map (fun i => bs[i]?) = cs.map some) {c : va_W} (hc : c ∈ cs) : ∃ i ∈ is, bs[i]? = some c := by
  have h1 : some c ∈ is.map (fun i => bs[i]?) := by rw [h]; exact List.mem_map.mpr ⟨c, hc, rfl⟩
  obtain ⟨i, hi, e⟩ := List.mem_map.mp h1
  exact ⟨i, hi, e⟩
theorem zP.sub {G : zG} {bs cs : zB} {H : Heap} (hP : zP G bs H) {is : List Nat} (h : is.map (fun i => bs[i]?) = cs.map some) : zP G cs H := fun c hc q hq => by
  obtain ⟨i, -, e⟩ := zsub_mem h hc
  exact hP c (List.mem_of_getElem? e) q hq
theorem zAd_mem {bs : zB} {a : Nat} : a ∈ zAd bs ↔ ∃ b ∈ bs, ∃ q ∈ b, q.1 = a := by
  unfold zAd
  constructor
  · intro h
    obtain ⟨q, hq, e⟩ := List.mem_map.mp h
    obtain ⟨b, hb, hq⟩ := List.mem_flatten.mp hq
    exact ⟨b, hb, q, hq, e⟩
  · rintro ⟨b, hb, q, hq, e⟩
    exact List.mem_map.mpr ⟨q, List.mem_flatten.mpr ⟨b, hb, hq⟩, e⟩
/-- one address stands in one block alone -/
theorem zD.one {A : Nat → Prop} : ∀ {bs : zB}, zD A bs → ∀ {i j : Nat} {b c : va_W}, bs[i]? = some b → bs[j]? = some c → ∀ {x y : Nat × va_E}, x ∈ b → y ∈ c → x.1 = y.1 → i = j := by
  intro bs h i j b c hi hj x y hx hy e
  have key : ∀ {bs : zB}, (zAd bs).Nodup → ∀ {i j : Nat} {b c : va_W}, bs[i]? = some b → bs[j]? = some c → x ∈ b → y ∈ c → i < j → False := by
    intro bs
    induction bs with
    | nil => intro _ i j b c hi; simp at hi
    | cons d t ih =>
      intro hn i j b c hi hj hx hy hlt
      have hz : zAd (d :: t) = d.map Prod.fst ++ zAd t := by unfold zAd; rw [List.flatten_cons, List.map_append]
      rw [hz] at hn
      obtain ⟨n1, n2, n3⟩ := List.nodup_append.mp hn
      cases j with
      | zero => exact absurd hlt (Nat.not_lt_zero _)
      | succ j =>
        simp only [List.getElem?_cons_succ] at hj
        cases i with
        | zero =>
          simp only [List.getElem?_cons_zero, Option.some.injEq] at hi
          subst hi
          exact n3 x.1 (List.mem_map.mpr ⟨x, hx, rfl⟩) y.1 (zAd_mem.mpr ⟨c, List.mem_of_getElem? hj, y, hy, rfl⟩) e
        | succ i =>
          simp only [List.getElem?_cons_succ] at hi
          exact ih n2 hi hj hx hy (Nat.lt_of_succ_lt_succ hlt)
  rcases Nat.lt_trichotomy i j with q | q | q
  · exact (key h.1 hi hj hx hy q).elim
  · exact q
  · have key2 : ∀ {bs : zB}, (zAd bs).Nodup → ∀ {i j : Nat} {b c : va_W}, bs[i]? = some b → bs[j]? = some c → x ∈ b → y ∈ c → j < i → False := by
      intro bs
      induction bs with
      | nil => intro _ i j b c hi; simp at hi
      | cons d t ih =>
        intro hn i j b c hi hj hx hy hlt
        have hz : zAd (d :: t) = d.map Prod.fst ++ zAd t := by unfold zAd; rw [List.flatten_cons, List.map_append]
        rw [hz] at hn
        obtain ⟨n1, n2, n3⟩ := List.nodup_append.mp hn
        cases i with
        | zero => exact absurd hlt (Nat.not_lt_zero _)
        | succ i =>
          simp only [List.getElem?_cons_succ] at hi
          cases j with
          | zero =>
            simp only [List.getElem?_cons_zero, Option.some.injEq] at hj
            subst hj
            exact n3 y.1 (List.mem_map.mpr ⟨y, hy, rfl⟩) x.1 (zAd_mem.mpr ⟨b, List.mem_of_getElem? hi, x, hx, rfl⟩) e.symm
          | succ j =>
            simp only [List.getElem?_cons_succ] at hj
            exact ih n2 hi hj hx hy (Nat.lt_of_succ_lt_succ hlt)
    exact (key2 h.1 hi hj hx hy q).elim
theorem zP.lt {G : zG} {bs : zB} {H : Heap} (hP : zP G bs H) {a : Nat} (h : a ∈ zAd bs) : a < H.size := by
  obtain ⟨b, hb, q, hq, rfl⟩ := zAd_mem.mp h
  exact (hP b hb q hq).lt
theorem zD.sub {A : Nat → Prop} {bs cs : zB} (hD : zD A bs) (is : List Nat) (hn : va_nd is = true) (h : is.map (fun i => bs[i]?) = cs.map some) : zD A cs := by
  have hfl := hD.flat
  refine ⟨?_, fun a ha => ?_⟩
  · have key : ∀ (is : List Nat) (cs : zB), va_nd is = true → is.map (fun i => bs[i]?) = cs.map some → (zAd cs).Nodup := by
      intro is
      induction is with
      | nil => intro cs _ h; cases cs with
        | nil => exact List.nodup_nil
        | cons c t => simp at h
      | cons i is ih =>
        intro cs hn h
        cases cs with
        | nil => simp at h
        | cons c cs =>
          simp only [List.map_cons, List.cons.injEq] at h
          simp only [va_nd, Bool.and_eq_true, decide_eq_true_eq] at hn
          have hz : zAd (c :: cs) = c.map Prod.fst ++ zAd cs := by unfold zAd; rw [List.flatten_cons, List.map_append]
          rw [hz]
          refine List.nodup_append.mpr ⟨?_, ih cs hn.2 h.2, ?_⟩
          · have hs : (c.map Prod.fst).Sublist (zAd bs) := by
              unfold zAd
              refine List.Sublist.map _ ?_
              exact List.sublist_flatten_of_mem (List.mem_of_getElem? h.1)
            exact hD.1.sublist hs
          · intro a ha b hb e
            obtain ⟨x, hx, rfl⟩ := List.mem_map.mp ha
            obtain ⟨d, hd, y, hy, rfl⟩ := zAd_mem.mp hb
            obtain ⟨j, hj, ej⟩ := zsub_mem h.2 hd
            have := hD.one h.1 ej hx hy e
            exact hn.1 (by rw [this]; exact hj)
    exact key is cs hn h
  · obtain ⟨c, hc, q, hq, rfl⟩ := zAd_mem.mp ha
    obtain ⟨i, -, e⟩ := zsub_mem h hc
    exact hD.2 _ (zAd_mem.mpr ⟨c, List.mem_of_getElem? e, q, hq, rfl⟩)
def zPre (G : zG) (bs : zB) (sz : Nat) (U : State) : Prop := U.heap.size = sz ∧ zP G bs U.heap ∧ zK G U ∧ zD (fun _ => True) bs
theorem zPre_blind {G : zG} {as : List Value} {bs : zB} {sz : Nat} : FrameBlind (va_Pc as (zPre G bs sz)) := fun _ _ _ _ q => by
  obtain ⟨q0, q1, qP, qK, qD⟩ := q
  exact ⟨q0, q1, qP, qK.calling, qD⟩
/-- a contract with an int (or boolean) for its answer: the answer, the world behind it -/
def zI (l : Launch) (y : MethodName) (ws : List Cond) (rm : Room) (ty : FieldType) (G : zG) (as : List Value) (bs : zB) (r : Int32) (bs' : zB) : Prop :=
  bs'.map (List.map Prod.fst) = bs.map (List.map Prod.fst) ∧ ∀ sz, Met l y ws rm (va_Pc as (zPre G bs sz)) (va_Qi (fun r' (_ : Unit) => r' = r ∧ narrow ty (.int r') = .int r') (fun _ t => zP G bs' t.heap) (va_A bs.flatten sz)) 0 0 (va_A bs.flatten sz)
def zV (l : Launch) (y : MethodName) (ws : List Cond) (rm : Room) (G : zG) (as : List Value) (bs : zB) (bs' : zB) : Prop :=
  bs'.map (List.map Prod.fst) = bs.map (List.map Prod.fst) ∧ ∀ sz, Met l y ws rm (va_Pc as (zPre G bs sz)) (va_Qv (fun (_ : Unit) => True) (fun _ t => zP G bs' t.heap) (va_A bs.flatten sz)) 0 0 (va_A bs.flatten sz)
/-- contracts of methods that change nothing -/
def zR (l : Launch) (y : MethodName) (ws : List Cond) (rm : Room) (ty : FieldType) (G : zG) (as : List Value) (bs : zB) (r : Int32) : Prop :=
  ∀ sz, Met l y ws rm (va_Pc as (zPre G bs sz)) (vp_Si (fun r' => r' = r ∧ narrow ty (.int r') = .int r')) 0 0 (fun _ => False)
def zL (l : Launch) (y : MethodName) (ws : List Cond) (rm : Room) (G : zG) (as : List Value) (bs : zB) (r : Int64) : Prop :=
  ∀ sz, Met l y ws rm (va_Pc as (zPre G bs sz)) (vp_Sl (fun r' => r' = r)) 0 0 (fun _ => False)
/-- a cell for its answer, at an address that is known -/
def zQ (l : Launch) (y : MethodName) (ws : List Cond) (rm : Room) (G : zG) (as : List Value) (bs : zB) (r : Nat) (bs' : zB) : Prop :=
  bs'.map (List.map Prod.fst) = bs.map (List.map Prod.fst) ∧ ∀ sz, Met l y ws rm (va_Pc as (zPre G bs sz)) (va_Qr (fun (_ : Unit) => True) (fun _ a t => a = r ∧ zP G bs' t.heap) (va_A bs.flatten sz)) 0 0 (va_A bs.flatten sz)
section ZMK
variable {l : Launch} {y : MethodName} {ws ws' : List Cond} {rm : Room} {ty : FieldType} {G : zG} {as : List Value} {bs bs' : zB} {r : Int32} {cc : ByteArray} {maxL : Nat}
theorem zI.mk (hy : plainName y.cls = true) (hw : ws = Cond.code y cc maxL (some ty) :: ws') (has : (lg_sl as).length ≤ maxL) (hfst : bs'.map (List.map Prod.fst) = bs.map (List.map Prod.fst))
    (body : ∀ (p : Program) (e : Env) (s : State) (m : MethodId) (args : Array Value) (below : List Frame) (meth : Method) (c : Code) (Q : State → Prop) (A : Nat → Prop) (ls : Array Slot), CallFix p m c cc maxL s args ws y.cls → zK G s → zD A bs → (∀ q, s.heap.size ≤ q → A q) → zP G bs s.heap → lv_has ls maxL (lv_args 0 as) →
      (∀ (v : Int32) (bs2 : zB) (H : Heap) (locs : List Loc) (pc : Nat) (ls : Array Slot), (r, bs') = (v, bs2) → narrow ty (.int v) = .int v → zP G bs2 H → va_S A s.heap H locs → decode cc pc = .ok (.ireturn, 1) → W p l e rm s m args below meth c H locs 0 0 Q (F0 m pc ls [.int v])) →
      W p l e rm s m args below meth c s.heap [] 0 0 Q (F0 m 0 ls [])) : zI l y ws rm ty G as bs r bs' := by
  refine ⟨hfst, fun sz => Met.ofW (cc := cc) (maxL := maxL) (ret := some ty) hy hw ?_⟩
  intro p e s m args below meth c s₁ B hml hv
  obtain ⟨rfl, hsz, hP, hK, hD0⟩ := hv
  have hx := B.exec
  have hb := B.bytes
  have hr := B.returns
  have hts := atoms_spec (ws := ws) B.pre
  have hown : s.vm.findClass y.cls = some m.cls := findClass_of_methodNamed B.named
  have hlocks := B.notSynchronized
  subst hsz
  have hl := lv_entry as (n := maxL) has
  rw [lg_entry_eq]
  generalize (lg_sl as ++ List.replicate (maxL - (lg_sl as).length) Slot.unset).toArray = ls at hl ⊢
  refine body p e s m _ below meth c _ (va_A bs.flatten s.heap.size) ls ⟨hx, hb, hml, hown, hts⟩ hK ⟨hD0.1, fun a ha => zA_iff.mpr (Or.inl ha)⟩ (fun q h => Or.inr h) hP hl ?_
  intro v bs2 H locs pc ls hv hn hPf hSf hdg
  cases hv
  exact W.zret hx hb hr hn (fun t ht hW => ⟨⟨_, (), rfl, ⟨rfl, hn⟩, by show zP G _ t.heap; rw [ht]; exact hPf⟩, hSf.F ht⟩) hSf.2.2 hdg
theorem zV.mk (hy : plainName y.cls = true) (hw : ws = Cond.code y cc maxL none :: ws') (has : (lg_sl as).length ≤ maxL) (hfst : bs'.map (List.map Prod.fst) = bs.map (List.map Prod.fst))
    (body : ∀ (p : Program) (e : Env) (s : State) (m : MethodId) (args : Array Value) (below : List Frame) (meth : Method) (c : Code) (Q : State → Prop) (A : Nat → Prop) (ls : Array Slot), CallFix p m c cc maxL s args ws y.cls → zK G s → zD A bs → (∀ q, s.heap.size ≤ q → A q) → zP G bs s.heap → lv_has ls maxL (lv_args 0 as) →
      (∀ (bs2 : zB) (H : Heap) (locs : List Loc) (pc : Nat) (ls : Array Slot), bs' = bs2 → zP G bs2 H → va_S A s.heap H locs → decode cc pc = .ok (.return_, 1) → W p l e rm s m args below meth c H locs 0 0 Q (F0 m pc ls [])) →
      W p l e rm s m args below meth c s.heap [] 0 0 Q (F0 m 0 ls [])) : zV l y ws rm G as bs bs' := by
  refine ⟨hfst, fun sz => Met.ofW (cc := cc) (maxL := maxL) (ret := none) hy hw ?_⟩
  intro p e s m args below meth c s₁ B hml hv
  obtain ⟨rfl, hsz, hP, hK, hD0⟩ := hv
  have hx := B.exec
  have hb := B.bytes
  have hr := B.returns
  have hts := atoms_spec (ws := ws) B.pre
  have hown : s.vm.findClass y.cls = some m.cls := findClass_of_methodNamed B.named
  have hlocks := B.notSynchronized
  subst hsz
  have hl := lv_entry as (n := maxL) has
  rw [lg_entry_eq]
  generalize (lg_sl as ++ List.replicate (maxL - (lg_sl as).length) Slot.unset).toArray = ls at hl ⊢
  refine body p e s m _ below meth c _ (va_A bs.flatten s.heap.size) ls ⟨hx, hb, hml, hown, hts⟩ hK ⟨hD0.1, fun a ha => zA_iff.mpr (Or.inl ha)⟩ (fun q h => Or.inr h) hP hl ?_
  intro bs2 H locs pc ls hv hPf hSf hdg
  cases hv
  exact W.vret hx hb hr (fun t ht hW => ⟨⟨(), rfl, trivial, by show zP G _ t.heap; rw [ht]; exact hPf⟩, hSf.F ht⟩) hSf.2.2 hdg
theorem zR.mk (hy : plainName y.cls = true) (hw : ws = Cond.code y cc maxL (some ty) :: ws') (has : (lg_sl as).length ≤ maxL)
    (body : ∀ (p : Program) (e : Env) (s : State) (m : MethodId) (args : Array Value) (below : List Frame) (meth : Method) (c : Code) (Q : State → Prop) (A : Nat → Prop) (ls : Array Slot), CallFix p m c cc maxL s args ws y.cls → zK G s → zD A bs → (∀ q, s.heap.size ≤ q → A q) → zP G bs s.heap → lv_has ls maxL (lv_args 0 as) →
      (∀ (v : Int32) (pc : Nat) (ls : Array Slot), r = v → narrow ty (.int v) = .int v → decode cc pc = .ok (.ireturn, 1) → W p l e rm s m args below meth c s.heap [] 0 0 Q (F0 m pc ls [.int v])) →
      W p l e rm s m args below meth c s.heap [] 0 0 Q (F0 m 0 ls [])) : zR l y ws rm ty G as bs r := by
  refine fun sz => Met.ofW (cc := cc) (maxL := maxL) (ret := some ty) hy hw ?_
  intro p e s m args below meth c s₁ B hml hv
  obtain ⟨rfl, hsz, hP, hK, hD0⟩ := hv
  have hx := B.exec
  have hb := B.bytes
  have hr := B.returns
  have hts := atoms_spec (ws := ws) B.pre
  have hown : s.vm.findClass y.cls = some m.cls := findClass_of_methodNamed B.named
  have hlocks := B.notSynchronized
  subst hsz
  have hl := lv_entry as (n := maxL) has
  rw [lg_entry_eq]
  generalize (lg_sl as ++ List.replicate (maxL - (lg_sl as).length) Slot.unset).toArray = ls at hl ⊢
  refine body p e s m _ below meth c _ (va_A bs.flatten s.heap.size) ls ⟨hx, hb, hml, hown, hts⟩ hK ⟨hD0.1, fun a ha => zA_iff.mpr (Or.inl ha)⟩ (fun q h => Or.inr h) hP hl ?_
  intro v pc ls hv hn hdg
  cases hv
  exact W.zret hx hb hr hn (fun t ht hW => ⟨_, rfl, ⟨rfl, hn⟩, ht⟩) (fun q hq => by cases hq) hdg
theorem zL.mk {r : Int64} (hy : plainName y.cls = true) (hw : ws = Cond.code y cc maxL (some .long) :: ws') (has : (lg_sl as).length ≤ maxL)
    (body : ∀ (p : Program) (e : Env) (s : State) (m : MethodId) (args : Array Value) (below : List Frame) (meth : Method) (c : Code) (Q : State → Prop) (A : Nat → Prop) (ls : Array Slot), CallFix p m c cc maxL s args ws y.cls → zK G s → zD A bs → (∀ q, s.heap.size ≤ q → A q) → zP G bs s.heap → lv_has ls maxL (lv_args 0 as) →
      (∀ (v : Int64) (pc : Nat) (ls : Array Slot), r = v → decode cc pc = .ok (.lreturn, 1) → W p l e rm s m args below meth c s.heap [] 0 0 Q (F0 m pc ls [.long v])) →
      W p l e rm s m args below meth c s.heap [] 0 0 Q (F0 m 0 ls [])) : zL l y ws rm G as bs r := by
  refine fun sz => Met.ofW (cc := cc) (maxL := maxL) (ret := some .long) hy hw ?_
  intro p e s m args below meth c s₁ B hml hv
  obtain ⟨rfl, hsz, hP, hK, hD0⟩ := hv
  have hx := B.exec
  have hb := B.bytes
  have hr := B.returns
  have hts := atoms_spec (ws := ws) B.pre
  have hown : s.vm.findClass y.cls = some m.cls := findClass_of_methodNamed B.named
  have hlocks := B.notSynchronized
  subst hsz
  have hl := lv_entry as (n := maxL) has
  rw [lg_entry_eq]
  generalize (lg_sl as ++ List.replicate (maxL - (lg_sl as).length) Slot.unset).toArray = ls at hl ⊢
  refine body p e s m _ below meth c _ (va_A bs.flatten s.heap.size) ls ⟨hx, hb, hml, hown, hts⟩ hK ⟨hD0.1, fun a ha => zA_iff.mpr (Or.inl ha)⟩ (fun q h => Or.inr h) hP hl ?_
  intro v pc ls hv hdg
  cases hv
  exact W.lret hx hb hr (fun t ht hW => ⟨_, rfl, rfl, ht⟩) (fun q hq => by cases hq) hdg
theorem zQ.mk {r : Nat} {C : String} (hy : plainName y.cls = true) (hw : ws = Cond.code y cc maxL (some (.object C)) :: ws') (has : (lg_sl as).length ≤ maxL) (hfst : bs'.map (List.map Prod.fst) = bs.map (List.map Prod.fst))
    (body : ∀ (p : Program) (e : Env) (s : State) (m : MethodId) (args : Array Value) (below : List Frame) (meth : Method) (c : Code) (Q : State → Prop) (A : Nat → Prop) (ls : Array Slot), CallFix p m c cc maxL s args ws y.cls → zK G s → zD A bs → (∀ q, s.heap.size ≤ q → A q) → zP G bs s.heap → lv_has ls maxL (lv_args 0 as) →
      (∀ (bs2 : zB) (H : Heap) (locs : List Loc) (pc : Nat) (ls : Array Slot), bs' = bs2 → zP G bs2 H → va_S A s.heap H locs → decode cc pc = .ok (.areturn, 1) → W p l e rm s m args below meth c H locs 0 0 Q (F0 m pc ls [.ref r])) →
      W p l e rm s m args below meth c s.heap [] 0 0 Q (F0 m 0 ls [])) : zQ l y ws rm G as bs r bs' := by
  refine ⟨hfst, fun sz => Met.ofW (cc := cc) (maxL := maxL) (ret := some (.object C)) hy hw ?_⟩
  intro p e s m args below meth c s₁ B hml hv
  obtain ⟨rfl, hsz, hP, hK, hD0⟩ := hv
  have hx := B.exec
  have hb := B.bytes
  have hr := B.returns
  have hts := atoms_spec (ws := ws) B.pre
  have hown : s.vm.findClass y.cls = some m.cls := findClass_of_methodNamed B.named
  have hlocks := B.notSynchronized
  subst hsz
  have hl := lv_entry as (n := maxL) has
  rw [lg_entry_eq]
  generalize (lg_sl as ++ List.replicate (maxL - (lg_sl as).length) Slot.unset).toArray = ls at hl ⊢
  refine body p e s m _ below meth c _ (va_A bs.flatten s.heap.size) ls ⟨hx, hb, hml, hown, hts⟩ hK ⟨hD0.1, fun a ha => zA_iff.mpr (Or.inl ha)⟩ (fun q h => Or.inr h) hP hl ?_
  intro bs2 H locs pc ls hv hPf hSf hdg
  cases hv
  exact W.aret hx hb hr (Or.inl ⟨C, rfl⟩) (Or.inr ⟨_, rfl⟩) (fun t ht hW => ⟨⟨(), r, rfl, trivial, rfl, by show zP G _ t.heap; rw [ht]; exact hPf⟩, hSf.F ht⟩) hSf.2.2 hdg
end ZMK
section ZROW
variable {p : Program} {l : Launch} {e : Env} {R : Room} {s : State} {m : MethodId} {args : Array Value} {below : List Frame} {meth : Method} {c : Code} {H : Heap} {locs : List Loc} {cells slots : Nat} {Q : State → Prop}
variable {cc : ByteArray} {pc : Nat} {ls : Array Slot} {rest st0 : List Value} {G : zG} {A : Nat → Prop} {a : Nat} {bs bs' bsc bsc' : zB} {H0 : Heap} {nL : Nat} {Ts : List Cond} {own : String}
theorem zget (S : CallFix p m c cc nL s args Ts own) {C : String} {T : u_T} {N ci index : Nat} (hin : ∀ w ∈ u_ws C T N, w ∈ Ts) (hK : zK G s) (hP : zP G bs H) (i : Nat) {blk : va_W} (hi : bs[i]? = some blk) (q0 : Nat) {fs : List Value} (he : blk[q0]? = some (a, .inr (ci, fs))) (hc : vwCl[ci]? = some (C, T, N)) (k : Nat) (hk : k < N) (hlink : Cond.fieldLink own index C (T k).2.1 (T k).2.2.1 ∈ Ts) (hsame : (T k).1 = C) {v : Value} (hv : fs[k]? = some v) (hdg : decode cc pc = .ok (.getfield index, 3))
    (kk : W p l e R s m args below meth c H locs cells slots Q (F0 m (pc + 3) ls (v :: rest))) : W p l e R s m args below meth c H locs cells slots Q (F0 m pc ls (.ref a :: rest)) :=
  va_get S.1 S.2.1 S.2.2.2.2 hin S.2.2.2.1 hK.1 (hP.blk hi) q0 he hc k hk (S.2.2.2.2 _ hlink) (fun x h => by rw [hsame] at h; exact h) hv hdg kk
theorem zput (S : CallFix p m c cc nL s args Ts own) {C : String} {T : u_T} {N ci index : Nat} (hin : ∀ w ∈ u_ws C T N, w ∈ Ts) (ty0 : Nat → FieldType) (hty : ∀ k, k < N → parseFieldDescriptor (T k).2.2.1 = some (ty0 k)) (hnm : ∀ a, a < N → ∀ b, b < N → a ≠ b → (T a).2.1 ≠ (T b).2.1) (hK : zK G s) (hP : zP G bs H) (hD : zD A bs) (hS : va_S A H0 H locs) (i : Nat) {blk blk' : va_W} (hi : bs[i]? = some blk) (q0 : Nat) {fs : List Value} (he : blk[q0]? = some (a, .inr (ci, fs))) (hc : vwCl[ci]? = some (C, T, N)) (k : Nat) (hk : k < N) (hlink : Cond.fieldLink own index C (T k).2.1 (T k).2.2.1 ∈ Ts) (hsame : (T k).1 = C) (hfin : (T k).2.2.2 = false) {v : Value} (hn : narrow (ty0 k) v = v) (hfit : fits (ty0 k) v = true) (hl : k < fs.length)
    (hnew : blk.set q0 (a, .inr (ci, fs.set k v)) = blk') (hbs : bs.set i blk' = bs') (hdg : decode cc pc = .ok (.putfield index, 3))
    (kk : ∀ (H1 : Heap) (locs1 : List Loc), zP G bs' H1 → zD A bs' → va_S A H0 H1 locs1 → W p l e R s m args below meth c H1 locs1 cells slots Q (F0 m (pc + 3) ls rest)) : W p l e R s m args below meth c H locs cells slots Q (F0 m pc ls (v :: .ref a :: rest)) := by
  obtain ⟨n, hn1, hn2⟩ := zflat_at hi he
  refine va_put S.1 S.2.1 S.2.2.2.2 hin ty0 hty hnm S.2.2.2.1 hK.1 hP.flat hD.flat hS n hn1 hc k hk (S.2.2.2.2 _ hlink) (fun x h => by rw [hsame] at h; exact h) hfin (hty k hk) hn hfit hl hdg (fun H1 locs1 hP1 hD1 hS1 => ?_)
  rw [hn2, hnew, hbs] at hP1 hD1
  exact kk H1 locs1 (zP.of hP1) (zD.of_flat hD1) hS1
theorem zald (S : CallFix p m c cc nL s args Ts own) (hK : zK G s) (hP : zP G bs H) (i : Nat) {blk : va_W} (hi : bs[i]? = some blk) (q0 : Nat) {n : Nat} {f : Nat → Int32} (ha : blk[q0]? = some (a, .inl (G.2.1, n, .inl f))) {j : Int32} (hin : vp_in j n) (hdg : decode cc pc = .ok (.iaload, 1))
    (kk : W p l e R s m args below meth c H locs cells slots Q (F0 m (pc + 1) ls (.int (f j.toNatClampNeg) :: rest))) : W p l e R s m args below meth c H locs cells slots Q (F0 m pc ls (.int j :: .ref a :: rest)) :=
  va_iald S.1 S.2.1 hK.1 (hP.blk hi) q0 0 ha rfl hin hdg kk
theorem zast (S : CallFix p m c cc nL s args Ts own) (hK : zK G s) (hP : zP G bs H) (hD : zD A bs) (hS : va_S A H0 H locs) (i : Nat) {blk blk' : va_W} (hi : bs[i]? = some blk) (q0 : Nat) {n : Nat} {f : Nat → Int32} (ha : blk[q0]? = some (a, .inl (G.2.1, n, .inl f))) {j x : Int32} (hin : vp_in j n)
    (hnew : blk.set q0 (a, .inl (G.2.1, n, .inl (upd f j.toNatClampNeg x))) = blk') (hbs : bs.set i blk' = bs') (hdg : decode cc pc = .ok (.iastore, 1))
    (kk : ∀ (H1 : Heap) (locs1 : List Loc), zP G bs' H1 → zD A bs' → va_S A H0 H1 locs1 → W p l e R s m args below meth c H1 locs1 cells slots Q (F0 m (pc + 1) ls rest)) : W p l e R s m args below meth c H locs cells slots Q (F0 m pc ls (.int x :: .int j :: .ref a :: rest)) := by
  obtain ⟨k, hn1, hn2⟩ := zflat_at hi ha
  refine va_iast S.1 S.2.1 hK.1 hP.flat hD.flat hS k 0 hn1 rfl hin hdg (fun H1 locs1 hP1 hD1 hS1 => ?_)
  rw [hn2, hnew, hbs] at hP1 hD1
  exact kk H1 locs1 (zP.of hP1) (zD.of_flat hD1) hS1
theorem zlen (S : CallFix p m c cc nL s args Ts own) (hK : zK G s) (hP : zP G bs H) (i : Nat) {blk : va_W} (hi : bs[i]? = some blk) (q0 : Nat) {n : Nat} {f : Nat → Int32} (ha : blk[q0]? = some (a, .inl (G.2.1, n, .inl f))) (hdg : decode cc pc = .ok (.arraylength, 1))
    (kk : W p l e R s m args below meth c H locs cells slots Q (F0 m (pc + 1) ls (.int (nI n) :: rest))) : W p l e R s m args below meth c H locs cells slots Q (F0 m pc ls (.ref a :: rest)) :=
  va_alen S.1 S.2.1 hK.1 (hP.blk hi) q0 0 ha rfl rfl hdg kk
theorem zcopy (S : CallFix p m c cc nL s args Ts own) {index : Nat} (hlink : Cond.methodLink own index arraycopyName ∈ Ts) (hnat : Cond.native arraycopyName ∈ Ts) (hstat : Cond.static arraycopyName ∈ Ts) (hini : Cond.initialized "java/lang/System" ∈ Ts) (hls : ls.size = nL) (hK : zK G s) (hP : zP G bs H) (hD : zD A bs) (hS : va_S A H0 H locs) (i0 : Nat) {blk0 : va_W} (hi0 : bs[i0]? = some blk0) (q0 : Nat) {a0 n0 : Nat} {f : Nat → Int32} (ha0 : blk0[q0]? = some (a0, .inl (G.2.1, n0, .inl f))) (i1 : Nat) {blk1 blk' : va_W} (hi1 : bs[i1]? = some blk1) (q1 : Nat) {n1 : Nat} {g : Nat → Int32} (ha1 : blk1[q1]? = some (a, .inl (G.2.1, n1, .inl g)))
    {sp dp n : Int32} (h1 : ¬ sp < 0) (h2 : ¬ dp < 0) (h3 : ¬ n < 0) (h4 : sp.toNatClampNeg + n.toNatClampNeg ≤ n0) (h5 : dp.toNatClampNeg + n.toNatClampNeg ≤ n1) (hnew : blk1.set q1 (a, .inl (G.2.1, n1, .inl (va_cpy f g sp.toNatClampNeg dp.toNatClampNeg n.toNatClampNeg))) = blk') (hbs : bs.set i1 blk' = bs')
    (hframes : 1 ≤ R.frames) (hlocals : (rest.map fun v => v.category).sum + (nativeFrameWords "java/lang/System" "arraycopy" 5 + 11) ≤ R.locals) (hdg : decode cc pc = .ok (.invokestatic index, 3))
    (kk : ∀ (H1 : Heap) (locs1 : List Loc), zP G bs' H1 → zD A bs' → va_S A H0 H1 locs1 → W p l e R s m args below meth c H1 locs1 cells slots Q (F0 m (pc + 3) ls rest)) : W p l e R s m args below meth c H locs cells slots Q (F0 m pc ls (.int n :: .int dp :: .ref a :: .int sp :: .ref a0 :: rest)) := by
  obtain ⟨k0, hk0, -⟩ := zflat_at hi0 ha0
  obtain ⟨k1, hk1, hk2⟩ := zflat_at hi1 ha1
  refine va_copyi S.1 S.2.1 (S.2.2.1.trans hls.symm) S.2.2.2.1 (S.2.2.2.2 _ hlink) (S.2.2.2.2 _ hnat) (S.2.2.2.2 _ hstat) (S.2.2.2.2 _ hini) hK.1 hP.flat hD.flat hS k0 k1 0 0 (ty := .int) hk0 hk1 rfl rfl rfl h1 h2 h3 h4 h5 (fun _ _ => rfl) hframes hlocals hdg (fun H1 locs1 hP1 hD1 hS1 => ?_)
  rw [hk2, hnew, hbs] at hP1 hD1
  exact kk H1 locs1 (zP.of hP1) (zD.of_flat hD1) hS1
theorem zpS {as : List Value} (hK : zK G s) (hP : zP G bs H) (hD : zD A bs) {is : List Nat} (hsub : is.map (fun i => bs[i]?) = bsc.map some) (hnd : va_nd is = true) : PreS s H (va_Pc as (zPre G bsc H.size)) as :=
  ⟨zPre_blind, fun U hU hW => ⟨rfl, by rw [hU], by rw [hU]; exact hP.sub hsub, hK.warm hW, (hD.sub is hnd hsub).weaken (fun _ _ _ => trivial)⟩⟩
theorem zpV {b : Nat} {As : List Value} (hK : zK G s) (hP : zP G bs H) (hD : zD A bs) {is : List Nat} (hsub : is.map (fun i => bs[i]?) = bsc.map some) (hnd : va_nd is = true) (i0 : Nat) {blk : va_W} (hi0 : bs[i0]? = some blk) {fs : List Value} {ci : Nat} (he : blk[0]? = some (b, .inr (ci, fs))) {C : String} {T : u_T} {N : Nat} (hc : vwCl[ci]? = some (C, T, N)) : PreV s H C b (va_Pc (.ref b :: As) (zPre G bsc H.size)) As :=
  ⟨zPre_blind, va_recv hK.1 (hP.blk hi0) hc he, fun U hU hW => ⟨rfl, by rw [hU], by rw [hU]; exact hP.sub hsub, hK.warm hW, (hD.sub is hnd hsub).weaken (fun _ _ _ => trivial)⟩⟩
theorem zfree (hD : zD A bs) (hS : va_S A H0 H locs) (hA : ∀ q, H0.size ≤ q → A q) {is : List Nat} (hsub : is.map (fun i => bs[i]?) = bsc.map some) : ∀ q, va_A bsc.flatten H.size q → A q := by
  intro q h
  rcases zA_iff.mp h with h | h
  · obtain ⟨c, hc, x, hx, rfl⟩ := zAd_mem.mp h
    obtain ⟨i, -, e⟩ := zsub_mem hsub hc
    exact hD.2 _ (zAd_mem.mpr ⟨c, List.mem_of_getElem? e, x, hx, rfl⟩)
  · exact hA q (Nat.le_trans hS.1 h)
theorem zbehind (hP : zP G bs H) (hD : zD A bs) {is : List Nat} (hsub : is.map (fun i => bs[i]?) = bsc.map some) (hnd : va_nd is = true) (hfst : bsc'.map (List.map Prod.fst) = bsc.map (List.map Prod.fst)) (hnew : zrep bs is bsc' = bs') {H1 : Heap} (hP1 : zP G bsc' H1) (hk : ∀ q : Nat, q < H.size → ¬ va_A bsc.flatten H.size q → H1[q]? = H[q]?) : zP G bs' H1 ∧ zD A bs' := by
  subst hnew
  obtain ⟨a1, a2⟩ := zrep_spec is bs bsc bsc' hsub hnd hfst hP1 (fun j b hj hji q hq => (hP b (List.mem_of_getElem? hj) q hq).kept (hk q.1 (hP b (List.mem_of_getElem? hj) q hq).lt (fun z => by
    rcases zA_iff.mp z with h | h
    · obtain ⟨c, hc, x, hx, e⟩ := zAd_mem.mp h
      obtain ⟨i, hi, ei⟩ := zsub_mem hsub hc
      have hij := hD.one ei hj hx hq e
      exact hji (by rw [← hij]; exact hi)
    · exact absurd (hP b (List.mem_of_getElem? hj) q hq).lt (Nat.not_lt.mpr h))))
  exact ⟨a1, hD.to a2⟩
theorem zgoI {y : MethodName} {ws : List Cond} {rm : Room} {ty : FieldType} {as : List Value} {r : Int32} {a0 : Array Value} (hM : zI l y ws rm ty G as bsc r bsc') (is : List Nat) (hsub : is.map (fun i => bs[i]?) = bsc.map some) (hnd : va_nd is = true) (hnew : zrep bs is bsc' = bs') (hP : zP G bs H) (hD : zD A bs) (hS : va_S A H0 H locs) (hA : ∀ q, H0.size ≤ q → A q)
    (hr : va_Run p l e R s m args below meth c H locs cells slots 0 0 (F0 m pc ls st0) rest (va_Qi (fun r' (_ : Unit) => r' = r ∧ narrow ty (.int r') = .int r') (fun _ t => zP G bsc' t.heap) (va_A bsc.flatten H.size) a0) (va_A bsc.flatten H.size))
    (kk : ∀ (H1 : Heap) (locs1 : List Loc), narrow ty (.int r) = .int r → zP G bs' H1 → zD A bs' → va_S A H0 H1 locs1 → W p l e R s m args below meth c H1 locs1 cells slots Q (F0 m (pc + 3) ls (.int r :: rest))) : W p l e R s m args below meth c H locs cells slots Q (F0 m pc ls st0) := by
  have hF := zfree hD hS hA hsub
  refine va_calli hr hS (fun q _ h => hF q h) hF (fun r' u t H1 locs1 ht hvm hw hB hz hk hS1 => ?_)
  obtain ⟨rfl, hn⟩ := hw
  rw [ht] at hB
  obtain ⟨b1, b2⟩ := zbehind hP hD hsub hnd hM.1 hnew hB hk
  exact kk H1 locs1 hn b1 b2 hS1
theorem zgoV {y : MethodName} {ws : List Cond} {rm : Room} {as : List Value} {a0 : Array Value} (hM : zV l y ws rm G as bsc bsc') (is : List Nat) (hsub : is.map (fun i => bs[i]?) = bsc.map some) (hnd : va_nd is = true) (hnew : zrep bs is bsc' = bs') (hP : zP G bs H) (hD : zD A bs) (hS : va_S A H0 H locs) (hA : ∀ q, H0.size ≤ q → A q)
    (hr : va_Run p l e R s m args below meth c H locs cells slots 0 0 (F0 m pc ls st0) rest (va_Qv (fun (_ : Unit) => True) (fun _ t => zP G bsc' t.heap) (va_A bsc.flatten H.size) a0) (va_A bsc.flatten H.size))
    (kk : ∀ (H1 : Heap) (locs1 : List Loc), zP G bs' H1 → zD A bs' → va_S A H0 H1 locs1 → W p l e R s m args below meth c H1 locs1 cells slots Q (F0 m (pc + 3) ls rest)) : W p l e R s m args below meth c H locs cells slots Q (F0 m pc ls st0) := by
  have hF := zfree hD hS hA hsub
  refine va_callv hr hS (fun q _ h => hF q h) hF (fun u t H1 locs1 ht hvm hw hB hz hk hS1 => ?_)
  rw [ht] at hB
  obtain ⟨b1, b2⟩ := zbehind hP hD hsub hnd hM.1 hnew hB hk
  exact kk H1 locs1 b1 b2 hS1
theorem zgoQ {y : MethodName} {ws : List Cond} {rm : Room} {as : List Value} {r : Nat} {a0 : Array Value} (hM : zQ l y ws rm G as bsc r bsc') (is : List Nat) (hsub : is.map (fun i => bs[i]?) = bsc.map some) (hnd : va_nd is = true) (hnew : zrep bs is bsc' = bs') (hP : zP G bs H) (hD : zD A bs) (hS : va_S A H0 H locs) (hA : ∀ q, H0.size ≤ q → A q)
    (hr : va_Run p l e R s m args below meth c H locs cells slots 0 0 (F0 m pc ls st0) rest (va_Qr (fun (_ : Unit) => True) (fun _ a t => a = r ∧ zP G bsc' t.heap) (va_A bsc.flatten H.size) a0) (va_A bsc.flatten H.size))
    (kk : ∀ (H1 : Heap) (locs1 : List Loc), zP G bs' H1 → zD A bs' → va_S A H0 H1 locs1 → W p l e R s m args below meth c H1 locs1 cells slots Q (F0 m (pc + 3) ls (.ref r :: rest))) : W p l e R s m args below meth c H locs cells slots Q (F0 m pc ls st0) := by
  have hF := zfree hD hS hA hsub
  refine va_callr hr hS (fun q _ h => hF q h) hF (fun u ra t H1 locs1 ht hvm hw hB hz hk hS1 => ?_)
  obtain ⟨rfl, hB⟩ := hB
  rw [ht] at hB
  obtain ⟨b1, b2⟩ := zbehind hP hD hsub hnd hM.1 hnew hB hk
  exact kk H1 locs1 b1 b2 hS1
/-- behind a call that changes nothing -/
theorem zgoR {ty : FieldType} {r : Int32} {a0 : Array Value} (hr : va_Run p l e R s m args below meth c H locs cells slots 0 0 (F0 m pc ls st0) rest (vp_Si (fun r' => r' = r ∧ narrow ty (.int r') = .int r') a0) (fun _ => False))
    (kk : narrow ty (.int r) = .int r → W p l e R s m args below meth c H locs cells slots Q (F0 m (pc + 3) ls (.int r :: rest))) : W p l e R s m args below meth c H locs cells slots Q (F0 m pc ls st0) := by
  intro T hT X
  obtain ⟨v, st₀, t, T', L, h0, X', hL, e1, e2, ⟨r', hv, ⟨rfl, hn⟩, hh⟩, st⟩ := hr T hT X
  cases hv
  obtain ⟨t2, a1, b1⟩ := kk hn T' (by rw [e1, hh, h0]) (Stand.forget X' (fun q h => (hL q h).elim))
  exact ⟨t2, st t2 a1, b1⟩
theorem zgoL {r : Int64} {a0 : Array Value} (hr : va_Run p l e R s m args below meth c H locs cells slots 0 0 (F0 m pc ls st0) rest (vp_Sl (fun r' => r' = r) a0) (fun _ => False))
    (kk : W p l e R s m args below meth c H locs cells slots Q (F0 m (pc + 3) ls (.long r :: rest))) : W p l e R s m args below meth c H locs cells slots Q (F0 m pc ls st0) := by
  intro T hT X
  obtain ⟨v, st₀, t, T', L, h0, X', hL, e1, e2, ⟨r', hv, rfl, hh⟩, st⟩ := hr T hT X
  cases hv
  obtain ⟨t2, a1, b1⟩ := kk T' (by rw [e1, hh, h0]) (Stand.forget X' (fun q h => (hL q h).elim))
  exact ⟨t2, st t2 a1, b1⟩
end ZROW
/-- a value by a name -/
def bnd {α β : Type} (x : α) (f : α → β) : β := f x
theorem bnd_eq {α β : Type} {x y : α} {f : α → β} (h : x = y) : bnd x f = f y := by rw [h]; rfl
theorem zlt {i N : Nat} {x : Int32} (hx : x = nI N) (hi : i < 2 ^ 31) (hN : N < 2 ^ 31) (c : ¬ x ≤ nI i) : i < N := by
  rw [hx, nI_leI hN hi] at c
  omega
theorem zin_k {k : Int32} {n N : Nat} (hk : k = nI n) (h : n < N) (hN : N < 2 ^ 31) : vp_in k N := by rw [hk]; exact vp_in_nI h hN
theorem zn1 : narrow .boolean (.int 1) = .int 1 := by decide
theorem zn0 : narrow .boolean (.int 0) = .int 0 := by decide
