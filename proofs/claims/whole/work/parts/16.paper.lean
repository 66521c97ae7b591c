/-! the two rows of marks that nobody writes; contracts that stand on them -/
def zU (A : Nat → Prop) (U : State) : Prop := ∃ t u : Nat, va_Z "RuleCourt$Paper" "MARKS" "[C" (.ref t) A U U.heap ∧ va_T .char t 4 (fun j => .int (zMARKS j)) A U U.heap ∧ va_Z "RuleCourt$Paper" "ARROWS" "[C" (.ref u) A U U.heap ∧ va_T .char u 3 (fun j => .int (zARROWS j)) A U U.heap
theorem zU.to {A B : Nat → Prop} {s U : State} {H : Heap} {locs : List Loc} (h : zU A s) (hW : s.vm.Alike U.vm) (hS : va_S A s.heap H locs) (hU : U.heap = H) (hAB : ∀ q, B q → A q) : zU B U := by
  obtain ⟨t, u, h1, h2, h3, h4⟩ := h
  have k : ∀ a : Nat, a < s.heap.size → ¬ A a → H[a]? = s.heap[a]? := fun a h g => hS.2.1 a h g
  refine ⟨t, u, ?_, ?_, ?_, ?_⟩
  · rw [hU]; exact ((h1.kept k).moved hW).narrow hAB
  · rw [hU]; exact ((h2.kept k).moved hW).narrow hAB
  · rw [hU]; exact ((h3.kept k).moved hW).narrow hAB
  · rw [hU]; exact ((h4.kept k).moved hW).narrow hAB
theorem zU.calling {A : Nat → Prop} {U : State} {g : JFrame} {mk : MethodId} {a : Array Value} (h : zU A U) : zU A (U.calling g mk a) := by
  obtain ⟨t, u, h1, h2, h3, h4⟩ := h
  exact ⟨t, u, va_Z.moved (u := U) (U := U.calling g mk a) (Vm.Alike.refl U.vm) h1, va_T.moved (u := U) (U := U.calling g mk a) (Vm.Alike.refl U.vm) h2, va_Z.moved (u := U) (U := U.calling g mk a) (Vm.Alike.refl U.vm) h3, va_T.moved (u := U) (U := U.calling g mk a) (Vm.Alike.refl U.vm) h4⟩
def zPreS (G : zG) (bs : zB) (sz : Nat) (U : State) : Prop := zPre G bs sz U ∧ zU (va_A bs.flatten sz) U
theorem zPreS_blind {G : zG} {as : List Value} {bs : zB} {sz : Nat} : FrameBlind (va_Pc as (zPreS G bs sz)) := fun _ _ _ _ q => by
  obtain ⟨q0, ⟨q1, qP, qK, qD⟩, qU⟩ := q
  exact ⟨q0, ⟨q1, qP, qK.calling, qD⟩, qU.calling⟩
def zIs (l : Launch) (y : MethodName) (ws : List Cond) (rm : Room) (ty : FieldType) (G : zG) (as : List Value) (bs : zB) (r : Int32) (bs' : zB) : Prop :=
  bs'.map (List.map Prod.fst) = bs.map (List.map Prod.fst) ∧ ∀ sz, Met l y ws rm (va_Pc as (zPreS G bs sz)) (va_Qi (fun r' (_ : Unit) => r' = r ∧ narrow ty (.int r') = .int r') (fun _ t => zP G bs' t.heap) (va_A bs.flatten sz)) 0 0 (va_A bs.flatten sz)
def zVs (l : Launch) (y : MethodName) (ws : List Cond) (rm : Room) (G : zG) (as : List Value) (bs : zB) (bs' : zB) : Prop :=
  bs'.map (List.map Prod.fst) = bs.map (List.map Prod.fst) ∧ ∀ sz, Met l y ws rm (va_Pc as (zPreS G bs sz)) (va_Qv (fun (_ : Unit) => True) (fun _ t => zP G bs' t.heap) (va_A bs.flatten sz)) 0 0 (va_A bs.flatten sz)
section ZSTM
variable {l : Launch} {y : MethodName} {ws ws' : List Cond} {rm : Room} {ty : FieldType} {G : zG} {as : List Value} {bs bs' : zB} {r : Int32} {cc : ByteArray} {maxL : Nat}
theorem zIs.mk (hy : plainName y.cls = true) (hw : ws = Cond.code y cc maxL (some ty) :: ws') (has : (lg_sl as).length ≤ maxL) (hfst : bs'.map (List.map Prod.fst) = bs.map (List.map Prod.fst))
    (body : ∀ (p : Program) (e : Env) (s : State) (m : MethodId) (args : Array Value) (below : List Frame) (meth : Method) (c : Code) (Q : State → Prop) (A : Nat → Prop) (ls : Array Slot), CallFix p m c cc maxL s args ws y.cls → zK G s → zU A s → zD A bs → (∀ q, s.heap.size ≤ q → A q) → zP G bs s.heap → lv_has ls maxL (lv_args 0 as) →
      (∀ (v : Int32) (bs2 : zB) (H : Heap) (locs : List Loc) (pc : Nat) (ls : Array Slot), (r, bs') = (v, bs2) → narrow ty (.int v) = .int v → zP G bs2 H → va_S A s.heap H locs → decode cc pc = .ok (.ireturn, 1) → W p l e rm s m args below meth c H locs 0 0 Q (F0 m pc ls [.int v])) →
      W p l e rm s m args below meth c s.heap [] 0 0 Q (F0 m 0 ls [])) : zIs l y ws rm ty G as bs r bs' := by
  refine ⟨hfst, fun sz => Met.ofW (cc := cc) (maxL := maxL) (ret := some ty) hy hw ?_⟩
  intro p e s m args below meth c s₁ B hml hv
  obtain ⟨rfl, ⟨hsz, hP, hK, hD0⟩, hU⟩ := hv
  have hx := B.exec
  have hb := B.bytes
  have hr := B.returns
  have hts := atoms_spec (ws := ws) B.pre
  have hown : s.vm.findClass y.cls = some m.cls := findClass_of_methodNamed B.named
  have hlocks := B.notSynchronized
  subst hsz
  have hl := lv_entry as (n := maxL) has
  rw [lg_entry_eq]
  generalize (lg_sl as ++ List.replicate (maxL - (lg_sl as).length) Slot.unset).toArray = ls at hl ⊢
  refine body p e s m _ below meth c _ (va_A bs.flatten s.heap.size) ls ⟨hx, hb, hml, hown, hts⟩ hK hU ⟨hD0.1, fun a ha => zA_iff.mpr (Or.inl ha)⟩ (fun q h => Or.inr h) hP hl ?_
  intro v bs2 H locs pc ls hv hn hPf hSf hdg
  cases hv
  exact W.zret hx hb hr hn (fun t ht hW => ⟨⟨_, (), rfl, ⟨rfl, hn⟩, by show zP G _ t.heap; rw [ht]; exact hPf⟩, hSf.F ht⟩) hSf.2.2 hdg
theorem zVs.mk (hy : plainName y.cls = true) (hw : ws = Cond.code y cc maxL none :: ws') (has : (lg_sl as).length ≤ maxL) (hfst : bs'.map (List.map Prod.fst) = bs.map (List.map Prod.fst))
    (body : ∀ (p : Program) (e : Env) (s : State) (m : MethodId) (args : Array Value) (below : List Frame) (meth : Method) (c : Code) (Q : State → Prop) (A : Nat → Prop) (ls : Array Slot), CallFix p m c cc maxL s args ws y.cls → zK G s → zU A s → zD A bs → (∀ q, s.heap.size ≤ q → A q) → zP G bs s.heap → lv_has ls maxL (lv_args 0 as) →
      (∀ (bs2 : zB) (H : Heap) (locs : List Loc) (pc : Nat) (ls : Array Slot), bs' = bs2 → zP G bs2 H → va_S A s.heap H locs → decode cc pc = .ok (.return_, 1) → W p l e rm s m args below meth c H locs 0 0 Q (F0 m pc ls [])) →
      W p l e rm s m args below meth c s.heap [] 0 0 Q (F0 m 0 ls [])) : zVs l y ws rm G as bs bs' := by
  refine ⟨hfst, fun sz => Met.ofW (cc := cc) (maxL := maxL) (ret := none) hy hw ?_⟩
  intro p e s m args below meth c s₁ B hml hv
  obtain ⟨rfl, ⟨hsz, hP, hK, hD0⟩, hU⟩ := hv
  have hx := B.exec
  have hb := B.bytes
  have hr := B.returns
  have hts := atoms_spec (ws := ws) B.pre
  have hown : s.vm.findClass y.cls = some m.cls := findClass_of_methodNamed B.named
  have hlocks := B.notSynchronized
  subst hsz
  have hl := lv_entry as (n := maxL) has
  rw [lg_entry_eq]
  generalize (lg_sl as ++ List.replicate (maxL - (lg_sl as).length) Slot.unset).toArray = ls at hl ⊢
  refine body p e s m _ below meth c _ (va_A bs.flatten s.heap.size) ls ⟨hx, hb, hml, hown, hts⟩ hK hU ⟨hD0.1, fun a ha => zA_iff.mpr (Or.inl ha)⟩ (fun q h => Or.inr h) hP hl ?_
  intro bs2 H locs pc ls hv hPf hSf hdg
  cases hv
  exact W.vret hx hb hr (fun t ht hW => ⟨⟨(), rfl, trivial, by show zP G _ t.heap; rw [ht]; exact hPf⟩, hSf.F ht⟩) hSf.2.2 hdg
end ZSTM
section ZSTR
variable {p : Program} {l : Launch} {e : Env} {R : Room} {s : State} {m : MethodId} {args : Array Value} {below : List Frame} {meth : Method} {c : Code} {H : Heap} {locs : List Loc} {cells slots : Nat} {Q : State → Prop}
variable {cc : ByteArray} {pc : Nat} {ls : Array Slot} {rest st0 : List Value} {G : zG} {A : Nat → Prop} {a : Nat} {bs bs' bsc bsc' : zB} {nL : Nat} {Ts : List Cond} {own : String}
theorem zpVs {b : Nat} {As : List Value} (hU : zU A s) (hS : va_S A s.heap H locs) (hA : ∀ q, s.heap.size ≤ q → A q) (hK : zK G s) (hP : zP G bs H) (hD : zD A bs) {is : List Nat} (hsub : is.map (fun i => bs[i]?) = bsc.map some) (hnd : va_nd is = true) (i0 : Nat) {blk : va_W} (hi0 : bs[i0]? = some blk) {fs : List Value} {ci : Nat} (he : blk[0]? = some (b, .inr (ci, fs))) {C : String} {T : u_T} {N : Nat} (hc : vwCl[ci]? = some (C, T, N)) : PreV s H C b (va_Pc (.ref b :: As) (zPreS G bsc H.size)) As :=
  ⟨zPreS_blind, va_recv hK.1 (hP.blk hi0) hc he, fun U hU1 hW => ⟨rfl, ⟨by rw [hU1], by rw [hU1]; exact hP.sub hsub, hK.warm hW, (hD.sub is hnd hsub).weaken (fun _ _ _ => trivial)⟩, hU.to hW.alike hS hU1 (zfree hD hS hA hsub)⟩⟩
theorem zgoVs {y : MethodName} {ws : List Cond} {rm : Room} {as : List Value} {a0 : Array Value} {H0 : Heap} (hM : zVs l y ws rm G as bsc bsc') (is : List Nat) (hsub : is.map (fun i => bs[i]?) = bsc.map some) (hnd : va_nd is = true) (hnew : zrep bs is bsc' = bs') (hP : zP G bs H) (hD : zD A bs) (hS : va_S A H0 H locs) (hA : ∀ q, H0.size ≤ q → A q)
    (hr : va_Run p l e R s m args below meth c H locs cells slots 0 0 (F0 m pc ls st0) rest (va_Qv (fun (_ : Unit) => True) (fun _ t => zP G bsc' t.heap) (va_A bsc.flatten H.size) a0) (va_A bsc.flatten H.size))
    (kk : ∀ (H1 : Heap) (locs1 : List Loc), zP G bs' H1 → zD A bs' → va_S A H0 H1 locs1 → W p l e R s m args below meth c H1 locs1 cells slots Q (F0 m (pc + 3) ls rest)) : W p l e R s m args below meth c H locs cells slots Q (F0 m pc ls st0) := by
  have hF := zfree hD hS hA hsub
  refine va_callv hr hS (fun q _ h => hF q h) hF (fun u t H1 locs1 ht hvm hw hB hz hk hS1 => ?_)
  rw [ht] at hB
  obtain ⟨b1, b2⟩ := zbehind hP hD hsub hnd hM.1 hnew hB hk
  exact kk H1 locs1 b1 b2 hS1
theorem zgoIs {y : MethodName} {ws : List Cond} {rm : Room} {ty : FieldType} {as : List Value} {r : Int32} {a0 : Array Value} {H0 : Heap} (hM : zIs l y ws rm ty G as bsc r bsc') (is : List Nat) (hsub : is.map (fun i => bs[i]?) = bsc.map some) (hnd : va_nd is = true) (hnew : zrep bs is bsc' = bs') (hP : zP G bs H) (hD : zD A bs) (hS : va_S A H0 H locs) (hA : ∀ q, H0.size ≤ q → A q)
    (hr : va_Run p l e R s m args below meth c H locs cells slots 0 0 (F0 m pc ls st0) rest (va_Qi (fun r' (_ : Unit) => r' = r ∧ narrow ty (.int r') = .int r') (fun _ t => zP G bsc' t.heap) (va_A bsc.flatten H.size) a0) (va_A bsc.flatten H.size))
    (kk : ∀ (H1 : Heap) (locs1 : List Loc), narrow ty (.int r) = .int r → zP G bs' H1 → zD A bs' → va_S A H0 H1 locs1 → W p l e R s m args below meth c H1 locs1 cells slots Q (F0 m (pc + 3) ls (.int r :: rest))) : W p l e R s m args below meth c H locs cells slots Q (F0 m pc ls st0) := by
  have hF := zfree hD hS hA hsub
  refine va_calli hr hS (fun q _ h => hF q h) hF (fun r' u t H1 locs1 ht hvm hw hB hz hk hS1 => ?_)
  obtain ⟨rfl, hn⟩ := hw
  rw [ht] at hB
  obtain ⟨b1, b2⟩ := zbehind hP hD hsub hnd hM.1 hnew hB hk
  exact kk H1 locs1 hn b1 b2 hS1
end ZSTR

theorem in_X2_put_2 : ∀ w ∈ u_ws RX2 TX2 2, w ∈ wsX2_put := by decide +kernel
def rmX2_put : Room := { frames := 0, cells := 0, slots := 0, locals := 0 }
set_option maxHeartbeats 4000000 in
set_option maxRecDepth 100000 in
theorem c_X2_put (l : Launch) (G : zG) (apa : Nat → Nat) (bpa : S2) (x1 : Int32) (hz_pa_length : ∃ N : Nat, N ≤ 2000 ∧ g2_length bpa = nI N) (T : (Nat → Int32) × (Int32)) (hT : FX2_put (g2_bytes bpa) (g2_length bpa) x1 = T) : zV l yX2_put wsX2_put rmX2_put G [.ref (apa 0), .int x1] [w2 G apa bpa] [w2 G apa (s2_length (s2_bytes bpa T.1) T.2)] := by
  refine zV.mk (cc := cX2_put) (maxL := 2) (by decide +kernel) rfl (Nat.le_of_ble_eq_true rfl) (zfl_cons (wf2 _ _ _ _) rfl) ?_
  intro p e s m args below meth c Q A ls S hK hD hA hP hl hret
  have hx := S.1
  have hb := S.2.1
  have hS : va_S A s.heap s.heap [] := va_S.rf
  have hl : lv_has ls 2 [(0, .ref (apa 0)), (1, .int x1)] := hl
  have hE := hT.symm.trans (FX2_put.eq_1 _ _ _)
  refine lv_aload_n hx hb dX2_put_0 rfl (lv_at hl 0 rfl) ?_
  refine zg2_length S in_X2_put_2 hK hP 0 rfl (List.mem_of_getElem? (i := 1) rfl) (v := (g2_length bpa)) rfl dX2_put_1 ?_
  refine lv_sipush (v := 2000) hx hb dX2_put_4 (by decide) ?_
  refine lv_icmp_ge (tgt := 30) hx hb dX2_put_7 (by decide) (fun c7 => ?_) (fun c7 => ?_)
  · have hE := hE.trans (if_pos c7)
    rw [show bpa = (s2_length (s2_bytes bpa (g2_bytes bpa)) (g2_length bpa)) from (((se2_bytes _).symm).trans (((se2_length _).symm).trans (congrArg (fun v => s2_length (s2_bytes bpa (g2_bytes bpa)) v) (gs2_length_bytes _ (g2_bytes bpa)))))] at hP hD
    exact hret _ _ _ _ _ (by subst hE; rfl) hP hS dX2_put_30
  · have hE := hE.trans (if_neg c7)
    have hi_pa_length : vp_in (g2_length bpa) 2000 := by obtain ⟨N, h1, h2⟩ := hz_pa_length; exact zfld_nle h2 (by omega) rfl (by decide) c7
    refine lv_aload_n hx hb dX2_put_10 rfl (lv_at hl 0 rfl) ?_
    refine zg2_bytes S in_X2_put_2 hK hP 0 rfl (List.mem_of_getElem? (i := 2) rfl) dX2_put_11 ?_
    refine lv_aload_n hx hb dX2_put_14 rfl (lv_at hl 0 rfl) ?_
    refine zg2_length S in_X2_put_2 hK hP 0 rfl (List.mem_of_getElem? (i := 1) rfl) (v := (g2_length bpa)) rfl dX2_put_15 ?_
    refine lv_iload_n hx hb dX2_put_18 rfl (lv_at hl 1 rfl) ?_
    refine zs2_bytes (bs1 := [w2 G apa (s2_bytes bpa (upd (g2_bytes bpa) (g2_length bpa).toNatClampNeg x1))]) S hK hP hD hS 0 rfl hi_pa_length (f := (g2_bytes bpa)) rfl dX2_put_19 rfl (fun H locs hP hD hS => ?_)
    refine lv_aload_n hx hb dX2_put_20 rfl (lv_at hl 0 rfl) ?_
    refine lv_dup hx hb dX2_put_21 rfl ?_
    refine zg2_length S in_X2_put_2 hK hP 0 rfl (List.mem_of_getElem? (i := 1) rfl) (v := (g2_length bpa)) (gs2_length_bytes _ (upd (g2_bytes bpa) (g2_length bpa).toNatClampNeg x1)) dX2_put_22 ?_
    refine lv_iconst (v := 1) hx hb dX2_put_25 (by decide) ?_
    refine lv_iadd hx hb dX2_put_26 ?_
    refine zp2_length (bs1 := [w2 G apa (s2_length (s2_bytes bpa (upd (g2_bytes bpa) (g2_length bpa).toNatClampNeg x1)) ((g2_length bpa) + 1))]) S in_X2_put_2 hK hP hD hS 0 rfl (List.mem_of_getElem? (i := 1) rfl) dX2_put_27 rfl (fun H locs hP hD hS => ?_)
    exact hret _ _ _ _ _ (by subst hE; rfl) hP hS dX2_put_30

theorem zput2 {b : Nat → Int32} {l x : Int32} (h : ∃ N : Nat, N ≤ 2000 ∧ l = nI N) : ∃ N : Nat, N ≤ 2000 ∧ (FX2_put b l x).2 = nI N := by
  unfold FX2_put
  split
  · exact h
  · exact znext h rfl (by decide) (by assumption)

def rmX2_putLiteral : Room := { frames := 1, cells := 0, slots := 0, locals := 21 }
set_option maxHeartbeats 4000000 in
set_option maxRecDepth 100000 in
theorem c_X2_putLiteral (l : Launch) (G : zG) (apa : Nat → Nat) (bpa : S2) (x1 : Int32) (hz_pa_length : ∃ N : Nat, N ≤ 2000 ∧ g2_length bpa = nI N) (T : (Nat → Int32) × (Int32)) (hT : FX2_putLiteral (g2_bytes bpa) (g2_length bpa) x1 = T) : zV l yX2_putLiteral wsX2_putLiteral rmX2_putLiteral G [.ref (apa 0), .int x1] [w2 G apa bpa] [w2 G apa (s2_length (s2_bytes bpa T.1) T.2)] := by
  refine zV.mk (cc := cX2_putLiteral) (maxL := 2) (by decide +kernel) rfl (Nat.le_of_ble_eq_true rfl) (zfl_cons (wf2 _ _ _ _) rfl) ?_
  intro p e s m args below meth c Q A ls S hK hD hA hP hl hret
  have hx := S.1
  have hb := S.2.1
  have hS : va_S A s.heap s.heap [] := va_S.rf
  have hl : lv_has ls 2 [(0, .ref (apa 0)), (1, .int x1)] := hl
  have hE := hT.symm.trans (FX2_putLiteral.eq_1 _ _ _)
  refine lv_iload_n hx hb dX2_putLiteral_0 rfl (lv_at hl 1 rfl) ?_
  refine lv_bipush (v := 10) hx hb dX2_putLiteral_1 (by decide) ?_
  refine lv_icmp_lt (tgt := 26) hx hb dX2_putLiteral_3 (by decide) (fun c3 => ?_) (fun c3 => ?_)
  · have hE := hE.trans (if_pos c3)
    refine lv_aload_n hx hb dX2_putLiteral_26 rfl (lv_at hl 0 rfl) ?_
    refine lv_bipush (v := 97) hx hb dX2_putLiteral_27 (by decide) ?_
    refine lv_iload_n hx hb dX2_putLiteral_29 rfl (lv_at hl 1 rfl) ?_
    refine lv_iadd hx hb dX2_putLiteral_30 ?_
    obtain ⟨t31, ht31⟩ : ∃ z, FX2_put (g2_bytes bpa) (g2_length bpa) (97 + x1) = z := ⟨_, rfl⟩
    have hE := hE.trans (bnd_eq ht31)
    have hc := c_X2_put l G apa bpa (97 + x1) (hz_pa_length) _ ht31
    refine zgoV (bs' := [w2 G apa (s2_length (s2_bytes bpa t31.1) t31.2)]) hc [0] rfl rfl rfl hP hD hS hA (va_runV (As := [.int (97 + x1)]) (rest := []) S (hc.2 _) (cwV 1 S.2.2.2.2 gX2_putLiteral_X2_put rfl rfl rfl (by decide +kernel) ⟨Nat.le_of_ble_eq_true rfl, Nat.le_of_ble_eq_true rfl⟩) (zpV hK hP hD (is := [0]) rfl rfl 0 rfl rfl (ci := 2) rfl) rfl rfl hl.1 rfl (lv_room (Nat.le_of_ble_eq_true rfl)) dX2_putLiteral_31 ⟨Nat.zero_le _, Nat.zero_le _⟩) (fun H locs hP hD hS => ?_)
    have hz_pa_length_31 : ∃ N : Nat, N ≤ 2000 ∧ t31.2 = nI N := by rw [← ht31]; exact zput2 hz_pa_length
    exact hret _ _ _ _ _ (by subst hE; rfl) hP hS dX2_putLiteral_34
  · have hE := hE.trans (if_neg c3)
    refine lv_aload_n hx hb dX2_putLiteral_6 rfl (lv_at hl 0 rfl) ?_
    refine lv_bipush (v := 126) hx hb dX2_putLiteral_7 (by decide) ?_
    obtain ⟨t9, ht9⟩ : ∃ z, FX2_put (g2_bytes bpa) (g2_length bpa) 126 = z := ⟨_, rfl⟩
    have hE := hE.trans (bnd_eq ht9)
    have hc := c_X2_put l G apa bpa 126 (hz_pa_length) _ ht9
    refine zgoV (bs' := [w2 G apa (s2_length (s2_bytes bpa t9.1) t9.2)]) hc [0] rfl rfl rfl hP hD hS hA (va_runV (As := [.int 126]) (rest := []) S (hc.2 _) (cwV 1 S.2.2.2.2 gX2_putLiteral_X2_put rfl rfl rfl (by decide +kernel) ⟨Nat.le_of_ble_eq_true rfl, Nat.le_of_ble_eq_true rfl⟩) (zpV hK hP hD (is := [0]) rfl rfl 0 rfl rfl (ci := 2) rfl) rfl rfl hl.1 rfl (lv_room (Nat.le_of_ble_eq_true rfl)) dX2_putLiteral_9 ⟨Nat.zero_le _, Nat.zero_le _⟩) (fun H locs hP hD hS => ?_)
    have hz_pa_length_9 : ∃ N : Nat, N ≤ 2000 ∧ t9.2 = nI N := by rw [← ht9]; exact zput2 hz_pa_length
    refine lv_aload_n hx hb dX2_putLiteral_12 rfl (lv_at hl 0 rfl) ?_
    refine lv_bipush (v := 97) hx hb dX2_putLiteral_13 (by decide) ?_
    refine lv_iload_n hx hb dX2_putLiteral_15 rfl (lv_at hl 1 rfl) ?_
    obtain ⟨t16, ht16⟩ : ∃ z, FX8_otherOf x1 = z := ⟨_, rfl⟩
    have hE := hE.trans (bnd_eq ht16)
    have hc := c_X8_otherOf l G x1 _ ht16
    refine zgoR (va_runSN (As := [.int x1]) (rest := [.int 97, .ref (apa 0)]) S (hc _) ⟨va_cnB (host := "RuleCourt") 1 S.2.2.2.2 gX2_putLiteral_X8_otherOf_n70 rfl rfl rfl (hK.2 _ (List.mem_of_getElem? (i := 20) rfl)) (S.2.2.2.2 _ (List.mem_of_getElem? (i := 9) rfl)) (by decide +kernel) ⟨Nat.le_of_ble_eq_true rfl, Nat.le_of_ble_eq_true rfl⟩, S.2.2.2.2 _ (List.mem_of_getElem? (i := 8) rfl), trivial⟩ (zpS hK hP hD (is := []) rfl rfl) rfl rfl hl.1 rfl (lv_room (Nat.le_of_ble_eq_true rfl)) dX2_putLiteral_16 ⟨Nat.zero_le _, Nat.zero_le _⟩) (fun hn16 => ?_)
    refine lv_iadd hx hb dX2_putLiteral_19 ?_
    obtain ⟨t20, ht20⟩ : ∃ z, FX2_put t9.1 t9.2 (97 + t16) = z := ⟨_, rfl⟩
    have hE := hE.trans (bnd_eq ht20)
    have hc := c_X2_put l G apa (s2_length (s2_bytes bpa t9.1) t9.2) (97 + t16) (hz_pa_length_9) _ (by simp only [gs2_bytes_length, gg2_bytes, gg2_length]; exact ht20)
    refine zgoV (bs' := [w2 G apa (s2_length (s2_bytes (s2_length (s2_bytes bpa t9.1) t9.2) t20.1) t20.2)]) hc [0] rfl rfl rfl hP hD hS hA (va_runV (As := [.int (97 + t16)]) (rest := []) S (hc.2 _) (cwV 1 S.2.2.2.2 gX2_putLiteral_X2_put rfl rfl rfl (by decide +kernel) ⟨Nat.le_of_ble_eq_true rfl, Nat.le_of_ble_eq_true rfl⟩) (zpV hK hP hD (is := [0]) rfl rfl 0 rfl rfl (ci := 2) rfl) rfl rfl hl.1 rfl (lv_room (Nat.le_of_ble_eq_true rfl)) dX2_putLiteral_20 ⟨Nat.zero_le _, Nat.zero_le _⟩) (fun H locs hP hD hS => ?_)
    have hz_pa_length_20 : ∃ N : Nat, N ≤ 2000 ∧ t20.2 = nI N := by rw [← ht20]; exact zput2 hz_pa_length_9
    refine lv_goto (tgt := 34) hx hb dX2_putLiteral_23 (by decide) ?_
    rw [show (s2_length (s2_bytes (s2_length (s2_bytes bpa t9.1) t9.2) t20.1) t20.2) = (s2_length (s2_bytes bpa t20.1) t20.2) from ((congrArg (fun z => s2_length z t20.2) ((cm2_bytes_length _ t9.2 t20.1).trans (congrArg (fun z => s2_length z t9.2) (ss2_bytes _ t9.1 t20.1)))).trans (ss2_length _ t9.2 t20.2))] at hP hD
    exact hret _ _ _ _ _ (by subst hE; rfl) hP hS dX2_putLiteral_34

theorem zputL {b : Nat → Int32} {l x : Int32} (h : ∃ N : Nat, N ≤ 2000 ∧ l = nI N) : ∃ N : Nat, N ≤ 2000 ∧ (FX2_putLiteral b l x).2 = nI N := by
  simp only [FX2_putLiteral, bndy]
  split
  · exact zput2 h
  · exact zput2 (zput2 h)

theorem in_X2_printProof_2 : ∀ w ∈ u_ws RX2 TX2 2, w ∈ wsX2_printProof := by decide +kernel
theorem in_X2_printProof_3 : ∀ w ∈ u_ws RX3 TX3 4, w ∈ wsX2_printProof := by decide +kernel
def rmX2_printProof : Room := { frames := 2, cells := 0, slots := 0, locals := 42 }
set_option maxHeartbeats 4000000 in
set_option maxRecDepth 100000 in
theorem c_X2_printProof (l : Launch) (G : zG) (apa : Nat → Nat) (apr : Nat → Nat) (opr_view : Nat) (bpa : S2) (bpr : S3) (hs_pr_steps : ∀ j : Nat, j < 80 → vp_in (g3_steps bpr j / 20) 4) (hz_pr_length : ∃ N : Nat, N ≤ 80 ∧ g3_length bpr = nI N) (T : (Nat → Int32) × (Int32)) (hT : FX2_printProof (g2_bytes bpa) (g2_length bpa) (g3_steps bpr) (g3_length bpr) = T) : zVs l yX2_printProof wsX2_printProof rmX2_printProof G [.ref (apa 0), .ref (apr 0)] [w2 G apa bpa, w3 G apr opr_view bpr] [w2 G apa (s2_length (s2_bytes bpa T.1) T.2), w3 G apr opr_view bpr] := by
  refine zVs.mk (cc := cX2_printProof) (maxL := 3) (by decide +kernel) rfl (Nat.le_of_ble_eq_true rfl) (zfl_cons (wf2 _ _ _ _) (zfl_cons rfl rfl)) ?_
  intro p e s m args below meth c Q A ls S hK hU hD hA hP hl hret
  obtain ⟨tM, tA, hZM, hTM, hZA, hTA⟩ := id hU
  have hx := S.1
  have hb := S.2.1
  have hS : va_S A s.heap s.heap [] := va_S.rf
  have hl : lv_has ls 3 [(0, .ref (apa 0)), (1, .ref (apr 0))] := hl
  obtain ⟨N_pr_length, hN_pr_length, hs_pr_length⟩ := id hz_pr_length
  have hE := hT.symm.trans (FX2_printProof.eq_1 _ _ _ _)
  refine lv_aload_n hx hb dX2_printProof_0 rfl (lv_at hl 0 rfl) ?_
  refine lv_iconst (v := 0) hx hb dX2_printProof_1 (by decide) ?_
  refine zp2_length (bs1 := [w2 G apa (s2_length bpa 0), w3 G apr opr_view bpr]) S in_X2_printProof_2 hK hP hD hS 0 rfl (List.mem_of_getElem? (i := 1) rfl) dX2_printProof_2 rfl (fun H locs hP hD hS => ?_)
  have hz_pa_length_2 : ∃ N : Nat, N ≤ 2000 ∧ 0 = nI N := ⟨0, by omega, rfl⟩
  refine lv_iconst (v := 0) hx hb dX2_printProof_5 (by decide) ?_
  have hB49 : ∀ (pa_bytes_49 : Nat → Int32) (pa_length_49 : Int32) (H : Heap) (locs : List Loc) (ls : Array Slot), (∃ N : Nat, N ≤ 2000 ∧ pa_length_49 = nI N) → T = FX2_printProof_49 (g2_bytes bpa) (g2_length bpa) (g3_steps bpr) (g3_length bpr) pa_bytes_49 pa_length_49 → zP G [w2 G apa (s2_length (s2_bytes bpa pa_bytes_49) pa_length_49), w3 G apr opr_view bpr] H → zD A [w2 G apa (s2_length (s2_bytes bpa pa_bytes_49) pa_length_49), w3 G apr opr_view bpr] → va_S A s.heap H locs → lv_has ls 3 [] → W p l e rmX2_printProof s m args below meth c H locs 0 0 Q (F0 m 49 ls []) := by
    intro pa_bytes_49 pa_length_49 H locs ls hz_pa_length_B49 hE hP hD hS hl
    have hE := hE.trans (FX2_printProof_49.eq_1 _ _ _ _ _ _)
    exact hret _ _ _ _ _ (by subst hE; rfl) hP hS dX2_printProof_49
  have hB7 : ∀ (n7 : Nat) (i2_7 : Nat) (pa_bytes_7 : Nat → Int32) (pa_length_7 : Int32) (H : Heap) (locs : List Loc) (ls : Array Slot), (i2_7 ≤ N_pr_length) → (∃ N : Nat, N ≤ 2000 ∧ pa_length_7 = nI N) → 81 ≤ i2_7 + n7 → T = FX2_printProof_7 (g2_bytes bpa) (g2_length bpa) (g3_steps bpr) (g3_length bpr) (FX2_printProof_49 (g2_bytes bpa) (g2_length bpa) (g3_steps bpr) (g3_length bpr)) n7 (nI i2_7) pa_bytes_7 pa_length_7 → zP G [w2 G apa (s2_length (s2_bytes bpa pa_bytes_7) pa_length_7), w3 G apr opr_view bpr] H → zD A [w2 G apa (s2_length (s2_bytes bpa pa_bytes_7) pa_length_7), w3 G apr opr_view bpr] → va_S A s.heap H locs → lv_has ls 3 [(0, .ref (apa 0)), (1, .ref (apr 0)), (2, .int (nI i2_7))] → W p l e rmX2_printProof s m args below meth c H locs 0 0 Q (F0 m 7 ls []) := by
    intro n7
    induction n7 with
    | zero =>
      intro i2_7 pa_bytes_7 pa_length_7 H locs ls hi2_7 hz_pa_length_B7 hn hE hP hD hS hl
      exact absurd hn (by omega)
    | succ n7 ih7 =>
      intro i2_7 pa_bytes_7 pa_length_7 H locs ls hi2_7 hz_pa_length_B7 hn hE hP hD hS hl
      have hE := hE.trans (FX2_printProof_7.eq_2 _ _ _ _ _ _ _ _ _)
      refine lv_iload_n hx hb dX2_printProof_7 rfl (lv_at hl 2 rfl) ?_
      refine lv_aload_n hx hb dX2_printProof_8 rfl (lv_at hl 1 rfl) ?_
      refine zg3_length S in_X2_printProof_3 hK hP 1 rfl (List.mem_of_getElem? (i := 2) rfl) (v := (g3_length bpr)) rfl dX2_printProof_9 ?_
      refine lv_icmp_ge (tgt := 49) hx hb dX2_printProof_12 (by decide) (fun c12 => ?_) (fun c12 => ?_)
      · have hE := hE.trans (if_pos c12)
        exact hB49 pa_bytes_7 pa_length_7 _ _ _ (by exact hz_pa_length_B7) hE hP hD hS (lv_sub hl [] rfl)
      · have hE := hE.trans (if_neg c12)
        have hl2_7 : i2_7 < N_pr_length := zlt hs_pr_length (by omega) (by omega) c12
        refine lv_aload_n hx hb dX2_printProof_15 rfl (lv_at hl 0 rfl) ?_
        refine va_gets hx hb (v := .ref tM) hZM hS S.2.2.2.1 (S.2.2.2.2 _ (List.mem_of_getElem? (i := 3) rfl)) (fun x h => h) dX2_printProof_16 ?_
        refine lv_aload_n hx hb dX2_printProof_19 rfl (lv_at hl 1 rfl) ?_
        refine lv_iload_n hx hb dX2_printProof_20 rfl (lv_at hl 2 rfl) ?_
        obtain ⟨t21, ht21⟩ : ∃ z, FX3_tagAt (g3_steps bpr) (nI i2_7) = z := ⟨_, rfl⟩
        have hE := hE.trans (bnd_eq ht21)
        have hc := c_X3_tagAt l G apr opr_view bpr (nI i2_7) ((vp_in_nI (by omega) (by omega))) _ ht21
        refine zgoR (va_runV (As := [.int (nI i2_7)]) (rest := [.ref tM, .ref (apa 0)]) S (hc _) (cwV 1 S.2.2.2.2 gX2_printProof_X3_tagAt rfl rfl rfl (by decide +kernel) ⟨Nat.le_of_ble_eq_true rfl, Nat.le_of_ble_eq_true rfl⟩) (zpV hK hP hD (is := [1]) rfl rfl 1 rfl rfl (ci := 3) rfl) rfl rfl hl.1 rfl (lv_room (Nat.le_of_ble_eq_true rfl)) dX2_printProof_21 ⟨Nat.zero_le _, Nat.zero_le _⟩) (fun hn21 => ?_)
        refine va_tc hx hb hTM hS (by rw [← ht21]; unfold FX3_tagAt; rw [nI_clamp (by omega)]; exact hs_pr_steps _ (by omega)) rfl dX2_printProof_24 ?_
        obtain ⟨t25, ht25⟩ : ∃ z, FX2_put pa_bytes_7 pa_length_7 (zMARKS t21.toNatClampNeg) = z := ⟨_, rfl⟩
        have hE := hE.trans (bnd_eq ht25)
        have hc := c_X2_put l G apa (s2_length (s2_bytes bpa pa_bytes_7) pa_length_7) (zMARKS t21.toNatClampNeg) (hz_pa_length_B7) _ (by simp only [gs2_bytes_length, gg2_bytes, gg2_length]; exact ht25)
        refine zgoV (bs' := [w2 G apa (s2_length (s2_bytes (s2_length (s2_bytes bpa pa_bytes_7) pa_length_7) t25.1) t25.2), w3 G apr opr_view bpr]) hc [0] rfl rfl rfl hP hD hS hA (va_runV (As := [.int (zMARKS t21.toNatClampNeg)]) (rest := []) S (hc.2 _) (cwV 1 S.2.2.2.2 gX2_printProof_X2_put rfl rfl rfl (by decide +kernel) ⟨Nat.le_of_ble_eq_true rfl, Nat.le_of_ble_eq_true rfl⟩) (zpV hK hP hD (is := [0]) rfl rfl 0 rfl rfl (ci := 2) rfl) rfl rfl hl.1 rfl (lv_room (Nat.le_of_ble_eq_true rfl)) dX2_printProof_25 ⟨Nat.zero_le _, Nat.zero_le _⟩) (fun H locs hP hD hS => ?_)
        have hz_pa_length_25 : ∃ N : Nat, N ≤ 2000 ∧ t25.2 = nI N := by rw [← ht25]; exact zput2 hz_pa_length_B7
        refine lv_aload_n hx hb dX2_printProof_28 rfl (lv_at hl 0 rfl) ?_
        refine lv_aload_n hx hb dX2_printProof_29 rfl (lv_at hl 1 rfl) ?_
        refine lv_iload_n hx hb dX2_printProof_30 rfl (lv_at hl 2 rfl) ?_
        obtain ⟨t31, ht31⟩ : ∃ z, FX3_literalAt (g3_steps bpr) (nI i2_7) = z := ⟨_, rfl⟩
        have hE := hE.trans (bnd_eq ht31)
        have hc := c_X3_literalAt l G apr opr_view bpr (nI i2_7) ((vp_in_nI (by omega) (by omega))) _ ht31
        refine zgoR (va_runV (As := [.int (nI i2_7)]) (rest := [.ref (apa 0)]) S (hc _) (cwV 1 S.2.2.2.2 gX2_printProof_X3_literalAt rfl rfl rfl (by decide +kernel) ⟨Nat.le_of_ble_eq_true rfl, Nat.le_of_ble_eq_true rfl⟩) (zpV hK hP hD (is := [1]) rfl rfl 1 rfl rfl (ci := 3) rfl) rfl rfl hl.1 rfl (lv_room (Nat.le_of_ble_eq_true rfl)) dX2_printProof_31 ⟨Nat.zero_le _, Nat.zero_le _⟩) (fun hn31 => ?_)
        obtain ⟨t34, ht34⟩ : ∃ z, FX2_putLiteral t25.1 t25.2 t31 = z := ⟨_, rfl⟩
        have hE := hE.trans (bnd_eq ht34)
        have hc := c_X2_putLiteral l G apa (s2_length (s2_bytes (s2_length (s2_bytes bpa pa_bytes_7) pa_length_7) t25.1) t25.2) t31 (hz_pa_length_25) _ (by simp only [gs2_bytes_length, gg2_bytes, gg2_length]; exact ht34)
        refine zgoV (bs' := [w2 G apa (s2_length (s2_bytes (s2_length (s2_bytes (s2_length (s2_bytes bpa pa_bytes_7) pa_length_7) t25.1) t25.2) t34.1) t34.2), w3 G apr opr_view bpr]) hc [0] rfl rfl rfl hP hD hS hA (va_runV (As := [.int t31]) (rest := []) S (hc.2 _) (cwV 1 S.2.2.2.2 gX2_printProof_X2_putLiteral rfl rfl rfl (by decide +kernel) ⟨Nat.le_of_ble_eq_true rfl, Nat.le_of_ble_eq_true rfl⟩) (zpV hK hP hD (is := [0]) rfl rfl 0 rfl rfl (ci := 2) rfl) rfl rfl hl.1 rfl (lv_room (Nat.le_of_ble_eq_true rfl)) dX2_printProof_34 ⟨Nat.zero_le _, Nat.zero_le _⟩) (fun H locs hP hD hS => ?_)
        have hz_pa_length_34 : ∃ N : Nat, N ≤ 2000 ∧ t34.2 = nI N := by rw [← ht34]; exact zputL hz_pa_length_25
        refine lv_aload_n hx hb dX2_printProof_37 rfl (lv_at hl 0 rfl) ?_
        refine lv_bipush (v := 59) hx hb dX2_printProof_38 (by decide) ?_
        obtain ⟨t40, ht40⟩ : ∃ z, FX2_put t34.1 t34.2 59 = z := ⟨_, rfl⟩
        have hE := hE.trans (bnd_eq ht40)
        have hc := c_X2_put l G apa (s2_length (s2_bytes (s2_length (s2_bytes (s2_length (s2_bytes bpa pa_bytes_7) pa_length_7) t25.1) t25.2) t34.1) t34.2) 59 (hz_pa_length_34) _ (by simp only [gs2_bytes_length, gg2_bytes, gg2_length]; exact ht40)
        refine zgoV (bs' := [w2 G apa (s2_length (s2_bytes (s2_length (s2_bytes (s2_length (s2_bytes (s2_length (s2_bytes bpa pa_bytes_7) pa_length_7) t25.1) t25.2) t34.1) t34.2) t40.1) t40.2), w3 G apr opr_view bpr]) hc [0] rfl rfl rfl hP hD hS hA (va_runV (As := [.int 59]) (rest := []) S (hc.2 _) (cwV 1 S.2.2.2.2 gX2_printProof_X2_put rfl rfl rfl (by decide +kernel) ⟨Nat.le_of_ble_eq_true rfl, Nat.le_of_ble_eq_true rfl⟩) (zpV hK hP hD (is := [0]) rfl rfl 0 rfl rfl (ci := 2) rfl) rfl rfl hl.1 rfl (lv_room (Nat.le_of_ble_eq_true rfl)) dX2_printProof_40 ⟨Nat.zero_le _, Nat.zero_le _⟩) (fun H locs hP hD hS => ?_)
        have hz_pa_length_40 : ∃ N : Nat, N ≤ 2000 ∧ t40.2 = nI N := by rw [← ht40]; exact zput2 hz_pa_length_34
        refine lv_iinc (v := (nI (i2_7 + 1))) (lv' := [(2, .int (nI (i2_7 + 1))), (0, .ref (apa 0)), (1, .ref (apr 0))]) hx hb dX2_printProof_43 hl (k := 2) rfl (nI_1 i2_7) (by decide) rfl (fun ls hl => ?_)
        try rw [nI_1 i2_7] at hE
        refine lv_goto (tgt := 7) hx hb dX2_printProof_46 (by decide) ?_
        rw [show (s2_length (s2_bytes (s2_length (s2_bytes (s2_length (s2_bytes (s2_length (s2_bytes bpa pa_bytes_7) pa_length_7) t25.1) t25.2) t34.1) t34.2) t40.1) t40.2) = (s2_length (s2_bytes bpa t40.1) t40.2) from ((congrArg (fun z => s2_length z t40.2) ((congrArg (fun z => s2_bytes z t40.1) ((congrArg (fun z => s2_length z t34.2) ((congrArg (fun z => s2_bytes z t34.1) ((congrArg (fun z => s2_length z t25.2) ((cm2_bytes_length _ pa_length_7 t25.1).trans (congrArg (fun z => s2_length z pa_length_7) (ss2_bytes _ pa_bytes_7 t25.1)))).trans (ss2_length _ pa_length_7 t25.2))).trans ((cm2_bytes_length _ t25.2 t34.1).trans (congrArg (fun z => s2_length z t25.2) (ss2_bytes _ t25.1 t34.1))))).trans (ss2_length _ t25.2 t34.2))).trans ((cm2_bytes_length _ t34.2 t40.1).trans (congrArg (fun z => s2_length z t34.2) (ss2_bytes _ t34.1 t40.1))))).trans (ss2_length _ t34.2 t40.2))] at hP hD
        exact ih7 (i2_7 + 1) t40.1 t40.2 _ _ _ (by first | assumption | omega) (by exact hz_pa_length_40) (by omega) hE hP hD hS (lv_sub hl [1, 2, 0] rfl)
  refine lv_istore_n (lv' := [(2, .int 0), (0, .ref (apa 0)), (1, .ref (apr 0))]) hx hb dX2_printProof_6 rfl hl (by decide) rfl (fun ls hl => ?_)
  rw [show (s2_length bpa 0) = (s2_length (s2_bytes bpa (g2_bytes bpa)) 0) from (congrArg (fun z => s2_length z 0) ((se2_bytes _).symm))] at hP hD
  exact hB7 81 0 (g2_bytes bpa) 0 _ _ _ (by first | assumption | omega) (by exact hz_pa_length_2) (by omega) hE hP hD hS (lv_sub hl [1, 2, 0] rfl)

def rmX2_putLiterals : Room := { frames := 2, cells := 0, slots := 0, locals := 42 }
set_option maxHeartbeats 4000000 in
set_option maxRecDepth 100000 in
theorem c_X2_putLiterals (l : Launch) (G : zG) (apa : Nat → Nat) (bpa : S2) (x1 : Int32) (hz_pa_length : ∃ N : Nat, N ≤ 2000 ∧ g2_length bpa = nI N) (T : (Nat → Int32) × (Int32)) (hT : FX2_putLiterals (g2_bytes bpa) (g2_length bpa) x1 = T) : zV l yX2_putLiterals wsX2_putLiterals rmX2_putLiterals G [.ref (apa 0), .int x1] [w2 G apa bpa] [w2 G apa (s2_length (s2_bytes bpa T.1) T.2)] := by
  refine zV.mk (cc := cX2_putLiterals) (maxL := 4) (by decide +kernel) rfl (Nat.le_of_ble_eq_true rfl) (zfl_cons (wf2 _ _ _ _) rfl) ?_
  intro p e s m args below meth c Q A ls S hK hD hA hP hl hret
  have hx := S.1
  have hb := S.2.1
  have hS : va_S A s.heap s.heap [] := va_S.rf
  have hl : lv_has ls 4 [(0, .ref (apa 0)), (1, .int x1)] := hl
  have hE := hT.symm.trans (FX2_putLiterals.eq_1 _ _ _)
  refine lv_iconst (v := 1) hx hb dX2_putLiterals_0 (by decide) ?_
  refine lv_istore_n (lv' := [(2, .int 1), (0, .ref (apa 0)), (1, .int x1)]) hx hb dX2_putLiterals_1 rfl hl (by decide) rfl (fun ls hl => ?_)
  refine lv_iconst (v := 0) hx hb dX2_putLiterals_2 (by decide) ?_
  have hB41 : ∀ (pa_bytes_41 : Nat → Int32) (pa_length_41 : Int32) (H : Heap) (locs : List Loc) (ls : Array Slot), (∃ N : Nat, N ≤ 2000 ∧ pa_length_41 = nI N) → T = FX2_putLiterals_41 (g2_bytes bpa) (g2_length bpa) x1 pa_bytes_41 pa_length_41 → zP G [w2 G apa (s2_length (s2_bytes bpa pa_bytes_41) pa_length_41)] H → zD A [w2 G apa (s2_length (s2_bytes bpa pa_bytes_41) pa_length_41)] → va_S A s.heap H locs → lv_has ls 4 [] → W p l e rmX2_putLiterals s m args below meth c H locs 0 0 Q (F0 m 41 ls []) := by
    intro pa_bytes_41 pa_length_41 H locs ls hz_pa_length_B41 hE hP hD hS hl
    have hE := hE.trans (FX2_putLiterals_41.eq_1 _ _ _ _ _)
    exact hret _ _ _ _ _ (by subst hE; rfl) hP hS dX2_putLiterals_41
  have hB4 : ∀ (n4 : Nat) (x2_4 : Int32) (i3_4 : Nat) (pa_bytes_4 : Nat → Int32) (pa_length_4 : Int32) (H : Heap) (locs : List Loc) (ls : Array Slot), (i3_4 ≤ 20) → (∃ N : Nat, N ≤ 2000 ∧ pa_length_4 = nI N) → 21 ≤ i3_4 + n4 → T = FX2_putLiterals_4 (g2_bytes bpa) (g2_length bpa) x1 (FX2_putLiterals_41 (g2_bytes bpa) (g2_length bpa) x1) n4 x2_4 (nI i3_4) pa_bytes_4 pa_length_4 → zP G [w2 G apa (s2_length (s2_bytes bpa pa_bytes_4) pa_length_4)] H → zD A [w2 G apa (s2_length (s2_bytes bpa pa_bytes_4) pa_length_4)] → va_S A s.heap H locs → lv_has ls 4 [(0, .ref (apa 0)), (1, .int x1), (2, .int x2_4), (3, .int (nI i3_4))] → W p l e rmX2_putLiterals s m args below meth c H locs 0 0 Q (F0 m 4 ls []) := by
    intro n4
    induction n4 with
    | zero =>
      intro x2_4 i3_4 pa_bytes_4 pa_length_4 H locs ls hi3_4 hz_pa_length_B4 hn hE hP hD hS hl
      exact absurd hn (by omega)
    | succ n4 ih4 =>
      intro x2_4 i3_4 pa_bytes_4 pa_length_4 H locs ls hi3_4 hz_pa_length_B4 hn hE hP hD hS hl
      have hE := hE.trans (FX2_putLiterals_4.eq_2 _ _ _ _ _ _ _ _ _)
      refine lv_iload_n hx hb dX2_putLiterals_4 rfl (lv_at hl 3 rfl) ?_
      refine lv_bipush (v := 20) hx hb dX2_putLiterals_5 (by decide) ?_
      refine lv_icmp_ge (tgt := 41) hx hb dX2_putLiterals_7 (by decide) (fun c7 => ?_) (fun c7 => ?_)
      · have hE := hE.trans (if_pos c7)
        exact hB41 pa_bytes_4 pa_length_4 _ _ _ (by exact hz_pa_length_B4) hE hP hD hS (lv_sub hl [] rfl)
      · have hE := hE.trans (if_neg c7)
        have hl3_4 : i3_4 < 20 := zlt (N := 20) rfl (by omega) (by omega) c7
        refine lv_iload_n hx hb dX2_putLiterals_10 rfl (lv_at hl 1 rfl) ?_
        refine lv_iload_n hx hb dX2_putLiterals_11 rfl (lv_at hl 3 rfl) ?_
        obtain ⟨t12, ht12⟩ : ∃ z, FX8_has x1 (nI i3_4) = z := ⟨_, rfl⟩
        have hE := hE.trans (bnd_eq ht12)
        have hc := c_X8_has l G x1 (nI i3_4) _ ht12
        refine zgoR (va_runSN (As := [.int x1, .int (nI i3_4)]) (rest := []) S (hc _) ⟨va_cnB (host := "RuleCourt") 2 S.2.2.2.2 gX2_putLiterals_X8_has_n66 rfl rfl rfl (hK.2 _ (List.mem_of_getElem? (i := 19) rfl)) (S.2.2.2.2 _ (List.mem_of_getElem? (i := 2) rfl)) (by decide +kernel) ⟨Nat.le_of_ble_eq_true rfl, Nat.le_of_ble_eq_true rfl⟩, S.2.2.2.2 _ (List.mem_of_getElem? (i := 1) rfl), trivial⟩ (zpS hK hP hD (is := []) rfl rfl) rfl rfl hl.1 rfl (lv_room (Nat.le_of_ble_eq_true rfl)) dX2_putLiterals_12 ⟨Nat.zero_le _, Nat.zero_le _⟩) (fun hn12 => ?_)
        refine lv_if_eq (tgt := 35) hx hb dX2_putLiterals_15 (by decide) (fun c15 => ?_) (fun c15 => ?_)
        · have hE := hE.trans (if_pos c15)
          refine lv_iinc (v := (nI (i3_4 + 1))) (lv' := [(3, .int (nI (i3_4 + 1))), (0, .ref (apa 0)), (1, .int x1), (2, .int x2_4)]) hx hb dX2_putLiterals_35 hl (k := 3) rfl (nI_1 i3_4) (by decide) rfl (fun ls hl => ?_)
          try rw [nI_1 i3_4] at hE
          refine lv_goto (tgt := 4) hx hb dX2_putLiterals_38 (by decide) ?_
          exact ih4 x2_4 (i3_4 + 1) pa_bytes_4 pa_length_4 _ _ _ (by first | assumption | omega) (by exact hz_pa_length_B4) (by omega) hE hP hD hS (lv_sub hl [1, 2, 3, 0] rfl)
        · have hE := hE.trans (if_neg c15)
          refine lv_iload_n hx hb dX2_putLiterals_18 rfl (lv_at hl 2 rfl) ?_
          have hB28 : ∀ (pa_bytes_28 : Nat → Int32) (pa_length_28 : Int32) (H : Heap) (locs : List Loc) (ls : Array Slot), (∃ N : Nat, N ≤ 2000 ∧ pa_length_28 = nI N) → T = FX2_putLiterals_28 (g2_bytes bpa) (g2_length bpa) x1 (fun x2_4' x3_4' pa_bytes_4' pa_length_4' => FX2_putLiterals_4 (g2_bytes bpa) (g2_length bpa) x1 (FX2_putLiterals_41 (g2_bytes bpa) (g2_length bpa) x1) n4 x2_4' x3_4' pa_bytes_4' pa_length_4') (FX2_putLiterals_41 (g2_bytes bpa) (g2_length bpa) x1) (nI i3_4) pa_bytes_28 pa_length_28 → zP G [w2 G apa (s2_length (s2_bytes bpa pa_bytes_28) pa_length_28)] H → zD A [w2 G apa (s2_length (s2_bytes bpa pa_bytes_28) pa_length_28)] → va_S A s.heap H locs → lv_has ls 4 [(0, .ref (apa 0)), (1, .int x1), (3, .int (nI i3_4))] → W p l e rmX2_putLiterals s m args below meth c H locs 0 0 Q (F0 m 28 ls []) := by
            intro pa_bytes_28 pa_length_28 H locs ls hz_pa_length_B28 hE hP hD hS hl
            have hE := hE.trans (FX2_putLiterals_28.eq_1 _ _ _ _ _ _ _ _)
            refine lv_iconst (v := 0) hx hb dX2_putLiterals_28 (by decide) ?_
            refine lv_istore_n (lv' := [(2, .int 0), (0, .ref (apa 0)), (1, .int x1), (3, .int (nI i3_4))]) hx hb dX2_putLiterals_29 rfl hl (by decide) rfl (fun ls hl => ?_)
            refine lv_aload_n hx hb dX2_putLiterals_30 rfl (lv_at hl 1 rfl) ?_
            refine lv_iload_n hx hb dX2_putLiterals_31 rfl (lv_at hl 3 rfl) ?_
            obtain ⟨t32, ht32⟩ : ∃ z, FX2_putLiteral pa_bytes_28 pa_length_28 (nI i3_4) = z := ⟨_, rfl⟩
            have hE := hE.trans (bnd_eq ht32)
            have hc := c_X2_putLiteral l G apa (s2_length (s2_bytes bpa pa_bytes_28) pa_length_28) (nI i3_4) (hz_pa_length_B28) _ (by simp only [gs2_bytes_length, gg2_bytes, gg2_length]; exact ht32)
            refine zgoV (bs' := [w2 G apa (s2_length (s2_bytes (s2_length (s2_bytes bpa pa_bytes_28) pa_length_28) t32.1) t32.2)]) hc [0] rfl rfl rfl hP hD hS hA (va_runV (As := [.int (nI i3_4)]) (rest := []) S (hc.2 _) (cwV 1 S.2.2.2.2 gX2_putLiterals_X2_putLiteral rfl rfl rfl (by decide +kernel) ⟨Nat.le_of_ble_eq_true rfl, Nat.le_of_ble_eq_true rfl⟩) (zpV hK hP hD (is := [0]) rfl rfl 0 rfl rfl (ci := 2) rfl) rfl rfl hl.1 rfl (lv_room (Nat.le_of_ble_eq_true rfl)) dX2_putLiterals_32 ⟨Nat.zero_le _, Nat.zero_le _⟩) (fun H locs hP hD hS => ?_)
            have hz_pa_length_32 : ∃ N : Nat, N ≤ 2000 ∧ t32.2 = nI N := by rw [← ht32]; exact zputL hz_pa_length_B28
            refine lv_iinc (v := (nI (i3_4 + 1))) (lv' := [(3, .int (nI (i3_4 + 1))), (2, .int 0), (0, .ref (apa 0)), (1, .int x1)]) hx hb dX2_putLiterals_35 hl (k := 3) rfl (nI_1 i3_4) (by decide) rfl (fun ls hl => ?_)
            try rw [nI_1 i3_4] at hE
            refine lv_goto (tgt := 4) hx hb dX2_putLiterals_38 (by decide) ?_
            rw [show (s2_length (s2_bytes (s2_length (s2_bytes bpa pa_bytes_28) pa_length_28) t32.1) t32.2) = (s2_length (s2_bytes bpa t32.1) t32.2) from ((congrArg (fun z => s2_length z t32.2) ((cm2_bytes_length _ pa_length_28 t32.1).trans (congrArg (fun z => s2_length z pa_length_28) (ss2_bytes _ pa_bytes_28 t32.1)))).trans (ss2_length _ pa_length_28 t32.2))] at hP hD
            exact ih4 0 (i3_4 + 1) t32.1 t32.2 _ _ _ (by first | assumption | omega) (by exact hz_pa_length_32) (by omega) hE hP hD hS (lv_sub hl [2, 3, 1, 0] rfl)
          refine lv_if_ne (tgt := 28) hx hb dX2_putLiterals_19 (by decide) (fun c19 => ?_) (fun c19 => ?_)
          · have hE := hE.trans (if_neg c19)
            exact hB28 pa_bytes_4 pa_length_4 _ _ _ (by exact hz_pa_length_B4) hE hP hD hS (lv_sub hl [0, 1, 3] rfl)
          · have hE := hE.trans (if_pos c19)
            refine lv_aload_n hx hb dX2_putLiterals_22 rfl (lv_at hl 0 rfl) ?_
            refine lv_bipush (v := 44) hx hb dX2_putLiterals_23 (by decide) ?_
            obtain ⟨t25, ht25⟩ : ∃ z, FX2_put pa_bytes_4 pa_length_4 44 = z := ⟨_, rfl⟩
            have hE := hE.trans (bnd_eq ht25)
            have hc := c_X2_put l G apa (s2_length (s2_bytes bpa pa_bytes_4) pa_length_4) 44 (hz_pa_length_B4) _ (by simp only [gs2_bytes_length, gg2_bytes, gg2_length]; exact ht25)
            refine zgoV (bs' := [w2 G apa (s2_length (s2_bytes (s2_length (s2_bytes bpa pa_bytes_4) pa_length_4) t25.1) t25.2)]) hc [0] rfl rfl rfl hP hD hS hA (va_runV (As := [.int 44]) (rest := []) S (hc.2 _) (cwV 1 S.2.2.2.2 gX2_putLiterals_X2_put rfl rfl rfl (by decide +kernel) ⟨Nat.le_of_ble_eq_true rfl, Nat.le_of_ble_eq_true rfl⟩) (zpV hK hP hD (is := [0]) rfl rfl 0 rfl rfl (ci := 2) rfl) rfl rfl hl.1 rfl (lv_room (Nat.le_of_ble_eq_true rfl)) dX2_putLiterals_25 ⟨Nat.zero_le _, Nat.zero_le _⟩) (fun H locs hP hD hS => ?_)
            have hz_pa_length_25 : ∃ N : Nat, N ≤ 2000 ∧ t25.2 = nI N := by rw [← ht25]; exact zput2 hz_pa_length_B4
            rw [show (s2_length (s2_bytes (s2_length (s2_bytes bpa pa_bytes_4) pa_length_4) t25.1) t25.2) = (s2_length (s2_bytes bpa t25.1) t25.2) from ((congrArg (fun z => s2_length z t25.2) ((cm2_bytes_length _ pa_length_4 t25.1).trans (congrArg (fun z => s2_length z pa_length_4) (ss2_bytes _ pa_bytes_4 t25.1)))).trans (ss2_length _ pa_length_4 t25.2))] at hP hD
            exact hB28 t25.1 t25.2 _ _ _ (by exact hz_pa_length_25) hE hP hD hS (lv_sub hl [0, 1, 3] rfl)
  refine lv_istore_n (lv' := [(3, .int 0), (2, .int 1), (0, .ref (apa 0)), (1, .int x1)]) hx hb dX2_putLiterals_3 rfl hl (by decide) rfl (fun ls hl => ?_)
  rw [show bpa = (s2_length (s2_bytes bpa (g2_bytes bpa)) (g2_length bpa)) from (((se2_bytes _).symm).trans (((se2_length _).symm).trans (congrArg (fun v => s2_length (s2_bytes bpa (g2_bytes bpa)) v) (gs2_length_bytes _ (g2_bytes bpa)))))] at hP hD
  exact hB4 21 1 0 (g2_bytes bpa) (g2_length bpa) _ _ _ (by first | assumption | omega) (by exact hz_pa_length) (by omega) hE hP hD hS (lv_sub hl [2, 3, 1, 0] rfl)

theorem zputLs4 {b0 : Nat → Int32} {l0 x : Int32} {kt : (Nat → Int32) → Int32 → (Nat → Int32) × Int32} (hk : ∀ b l, (∃ N : Nat, N ≤ 2000 ∧ l = nI N) → ∃ N : Nat, N ≤ 2000 ∧ (kt b l).2 = nI N) : ∀ (n : Nat) (f i : Int32) (b : Nat → Int32) (l : Int32), (∃ N : Nat, N ≤ 2000 ∧ l = nI N) → ∃ N : Nat, N ≤ 2000 ∧ (FX2_putLiterals_4 b0 l0 x kt n f i b l).2 = nI N
  | 0, f, i, b, l, h => hk _ _ h
  | n + 1, f, i, b, l, h => by
    rw [FX2_putLiterals_4]
    simp only [bndy, FX2_putLiterals_28]
    repeat' split
    all_goals first | exact hk _ _ h | exact zputLs4 hk n _ _ _ _ h | exact zputLs4 hk n _ _ _ _ (zputL h) | exact zputLs4 hk n _ _ _ _ (zputL (zput2 h))
theorem zputLs {b : Nat → Int32} {l x : Int32} (h : ∃ N : Nat, N ≤ 2000 ∧ l = nI N) : ∃ N : Nat, N ≤ 2000 ∧ (FX2_putLiterals b l x).2 = nI N := zputLs4 (fun _ _ h => h) _ _ _ _ _ h

theorem in_X2_printRules_0 : ∀ w ∈ u_ws RX0 TX0 9, w ∈ wsX2_printRules := by decide +kernel
theorem in_X2_printRules_2 : ∀ w ∈ u_ws RX2 TX2 2, w ∈ wsX2_printRules := by decide +kernel
def rmX2_printRules : Room := { frames := 3, cells := 0, slots := 0, locals := 65 }
set_option maxHeartbeats 4000000 in
set_option maxRecDepth 100000 in
theorem c_X2_printRules (l : Launch) (G : zG) (apa : Nat → Nat) (ac : Nat → Nat) (bpa : S2) (bc : S0) (hk_c_kind : ∀ r : Nat, r < 16 → vp_in (g0_kind bc r) 3) (hz_c_size : ∃ N : Nat, N ≤ 16 ∧ g0_size bc = nI N) (T : (Nat → Int32) × (Int32)) (hT : FX2_printRules (g2_bytes bpa) (g2_length bpa) (g0_kind bc) (g0_head bc) (g0_body bc) (g0_excepts bc) (g0_power bc) (g0_size bc) = T) : zVs l yX2_printRules wsX2_printRules rmX2_printRules G [.ref (apa 0), .ref (ac 0)] [w2 G apa bpa, w0 G ac bc] [w2 G apa (s2_length (s2_bytes bpa T.1) T.2), w0 G ac bc] := by
  refine zVs.mk (cc := cX2_printRules) (maxL := 3) (by decide +kernel) rfl (Nat.le_of_ble_eq_true rfl) (zfl_cons (wf2 _ _ _ _) (zfl_cons rfl rfl)) ?_
  intro p e s m args below meth c Q A ls S hK hU hD hA hP hl hret
  obtain ⟨tM, tA, hZM, hTM, hZA, hTA⟩ := id hU
  have hx := S.1
  have hb := S.2.1
  have hS : va_S A s.heap s.heap [] := va_S.rf
  have hl : lv_has ls 3 [(0, .ref (apa 0)), (1, .ref (ac 0))] := hl
  obtain ⟨N_c_size, hN_c_size, hs_c_size⟩ := id hz_c_size
  have hE := hT.symm.trans (FX2_printRules.eq_1 _ _ _ _ _ _ _ _)
  refine lv_aload_n hx hb dX2_printRules_0 rfl (lv_at hl 0 rfl) ?_
  refine lv_iconst (v := 0) hx hb dX2_printRules_1 (by decide) ?_
  refine zp2_length (bs1 := [w2 G apa (s2_length bpa 0), w0 G ac bc]) S in_X2_printRules_2 hK hP hD hS 0 rfl (List.mem_of_getElem? (i := 1) rfl) dX2_printRules_2 rfl (fun H locs hP hD hS => ?_)
  have hz_pa_length_2 : ∃ N : Nat, N ≤ 2000 ∧ 0 = nI N := ⟨0, by omega, rfl⟩
  refine lv_iconst (v := 0) hx hb dX2_printRules_5 (by decide) ?_
  have hB111 : ∀ (pa_bytes_111 : Nat → Int32) (pa_length_111 : Int32) (H : Heap) (locs : List Loc) (ls : Array Slot), (∃ N : Nat, N ≤ 2000 ∧ pa_length_111 = nI N) → T = FX2_printRules_111 (g2_bytes bpa) (g2_length bpa) (g0_kind bc) (g0_head bc) (g0_body bc) (g0_excepts bc) (g0_power bc) (g0_size bc) pa_bytes_111 pa_length_111 → zP G [w2 G apa (s2_length (s2_bytes bpa pa_bytes_111) pa_length_111), w0 G ac bc] H → zD A [w2 G apa (s2_length (s2_bytes bpa pa_bytes_111) pa_length_111), w0 G ac bc] → va_S A s.heap H locs → lv_has ls 3 [] → W p l e rmX2_printRules s m args below meth c H locs 0 0 Q (F0 m 111 ls []) := by
    intro pa_bytes_111 pa_length_111 H locs ls hz_pa_length_B111 hE hP hD hS hl
    have hE := hE.trans (FX2_printRules_111.eq_1 _ _ _ _ _ _ _ _ _ _)
    exact hret _ _ _ _ _ (by subst hE; rfl) hP hS dX2_printRules_111
  have hB7 : ∀ (n7 : Nat) (i2_7 : Nat) (pa_bytes_7 : Nat → Int32) (pa_length_7 : Int32) (H : Heap) (locs : List Loc) (ls : Array Slot), (i2_7 ≤ N_c_size) → (∃ N : Nat, N ≤ 2000 ∧ pa_length_7 = nI N) → 17 ≤ i2_7 + n7 → T = FX2_printRules_7 (g2_bytes bpa) (g2_length bpa) (g0_kind bc) (g0_head bc) (g0_body bc) (g0_excepts bc) (g0_power bc) (g0_size bc) (FX2_printRules_111 (g2_bytes bpa) (g2_length bpa) (g0_kind bc) (g0_head bc) (g0_body bc) (g0_excepts bc) (g0_power bc) (g0_size bc)) n7 (nI i2_7) pa_bytes_7 pa_length_7 → zP G [w2 G apa (s2_length (s2_bytes bpa pa_bytes_7) pa_length_7), w0 G ac bc] H → zD A [w2 G apa (s2_length (s2_bytes bpa pa_bytes_7) pa_length_7), w0 G ac bc] → va_S A s.heap H locs → lv_has ls 3 [(0, .ref (apa 0)), (1, .ref (ac 0)), (2, .int (nI i2_7))] → W p l e rmX2_printRules s m args below meth c H locs 0 0 Q (F0 m 7 ls []) := by
    intro n7
    induction n7 with
    | zero =>
      intro i2_7 pa_bytes_7 pa_length_7 H locs ls hi2_7 hz_pa_length_B7 hn hE hP hD hS hl
      exact absurd hn (by omega)
    | succ n7 ih7 =>
      intro i2_7 pa_bytes_7 pa_length_7 H locs ls hi2_7 hz_pa_length_B7 hn hE hP hD hS hl
      have hE := hE.trans (FX2_printRules_7.eq_2 _ _ _ _ _ _ _ _ _ _ _ _ _)
      refine lv_iload_n hx hb dX2_printRules_7 rfl (lv_at hl 2 rfl) ?_
      refine lv_aload_n hx hb dX2_printRules_8 rfl (lv_at hl 1 rfl) ?_
      refine zg0_size S in_X2_printRules_0 hK hP 1 rfl (List.mem_of_getElem? (i := 2) rfl) (v := (g0_size bc)) rfl dX2_printRules_9 ?_
      refine lv_icmp_ge (tgt := 111) hx hb dX2_printRules_12 (by decide) (fun c12 => ?_) (fun c12 => ?_)
      · have hE := hE.trans (if_pos c12)
        exact hB111 pa_bytes_7 pa_length_7 _ _ _ (by exact hz_pa_length_B7) hE hP hD hS (lv_sub hl [] rfl)
      · have hE := hE.trans (if_neg c12)
        have hl2_7 : i2_7 < N_c_size := zlt hs_c_size (by omega) (by omega) c12
        refine lv_aload_n hx hb dX2_printRules_15 rfl (lv_at hl 0 rfl) ?_
        refine lv_aload_n hx hb dX2_printRules_16 rfl (lv_at hl 1 rfl) ?_
        refine zg0_body S in_X2_printRules_0 hK hP 1 rfl (List.mem_of_getElem? (i := 3) rfl) dX2_printRules_17 ?_
        refine lv_iload_n hx hb dX2_printRules_20 rfl (lv_at hl 2 rfl) ?_
        refine zl0_body S hK hP 1 rfl (vp_in_nI (by omega) (by omega)) (f := (g0_body bc)) rfl dX2_printRules_21 ?_
        obtain ⟨t22, ht22⟩ : ∃ z, FX2_putLiterals pa_bytes_7 pa_length_7 ((g0_body bc) (nI i2_7).toNatClampNeg) = z := ⟨_, rfl⟩
        have hE := hE.trans (bnd_eq ht22)
        have hc := c_X2_putLiterals l G apa (s2_length (s2_bytes bpa pa_bytes_7) pa_length_7) ((g0_body bc) (nI i2_7).toNatClampNeg) (hz_pa_length_B7) _ (by simp only [gs2_bytes_length, gg2_bytes, gg2_length]; exact ht22)
        refine zgoV (bs' := [w2 G apa (s2_length (s2_bytes (s2_length (s2_bytes bpa pa_bytes_7) pa_length_7) t22.1) t22.2), w0 G ac bc]) hc [0] rfl rfl rfl hP hD hS hA (va_runV (As := [.int ((g0_body bc) (nI i2_7).toNatClampNeg)]) (rest := []) S (hc.2 _) (cwV 1 S.2.2.2.2 gX2_printRules_X2_putLiterals rfl rfl rfl (by decide +kernel) ⟨Nat.le_of_ble_eq_true rfl, Nat.le_of_ble_eq_true rfl⟩) (zpV hK hP hD (is := [0]) rfl rfl 0 rfl rfl (ci := 2) rfl) rfl rfl hl.1 rfl (lv_room (Nat.le_of_ble_eq_true rfl)) dX2_printRules_22 ⟨Nat.zero_le _, Nat.zero_le _⟩) (fun H locs hP hD hS => ?_)
        have hz_pa_length_22 : ∃ N : Nat, N ≤ 2000 ∧ t22.2 = nI N := by rw [← ht22]; exact zputLs hz_pa_length_B7
        refine lv_aload_n hx hb dX2_printRules_25 rfl (lv_at hl 0 rfl) ?_
        refine va_gets hx hb (v := .ref tA) hZA hS S.2.2.2.1 (S.2.2.2.2 _ (List.mem_of_getElem? (i := 4) rfl)) (fun x h => h) dX2_printRules_26 ?_
        refine lv_aload_n hx hb dX2_printRules_29 rfl (lv_at hl 1 rfl) ?_
        refine zg0_kind S in_X2_printRules_0 hK hP 1 rfl (List.mem_of_getElem? (i := 5) rfl) dX2_printRules_30 ?_
        refine lv_iload_n hx hb dX2_printRules_33 rfl (lv_at hl 2 rfl) ?_
        refine zl0_kind S hK hP 1 rfl (vp_in_nI (by omega) (by omega)) (f := (g0_kind bc)) rfl dX2_printRules_34 ?_
        refine va_tc hx hb hTA hS (by rw [nI_clamp (by omega)]; exact hk_c_kind _ (by omega)) rfl dX2_printRules_35 ?_
        obtain ⟨t36, ht36⟩ : ∃ z, FX2_put t22.1 t22.2 (zARROWS ((g0_kind bc) (nI i2_7).toNatClampNeg).toNatClampNeg) = z := ⟨_, rfl⟩
        have hE := hE.trans (bnd_eq ht36)
        have hc := c_X2_put l G apa (s2_length (s2_bytes (s2_length (s2_bytes bpa pa_bytes_7) pa_length_7) t22.1) t22.2) (zARROWS ((g0_kind bc) (nI i2_7).toNatClampNeg).toNatClampNeg) (hz_pa_length_22) _ (by simp only [gs2_bytes_length, gg2_bytes, gg2_length]; exact ht36)
        refine zgoV (bs' := [w2 G apa (s2_length (s2_bytes (s2_length (s2_bytes (s2_length (s2_bytes bpa pa_bytes_7) pa_length_7) t22.1) t22.2) t36.1) t36.2), w0 G ac bc]) hc [0] rfl rfl rfl hP hD hS hA (va_runV (As := [.int (zARROWS ((g0_kind bc) (nI i2_7).toNatClampNeg).toNatClampNeg)]) (rest := []) S (hc.2 _) (cwV 1 S.2.2.2.2 gX2_printRules_X2_put rfl rfl rfl (by decide +kernel) ⟨Nat.le_of_ble_eq_true rfl, Nat.le_of_ble_eq_true rfl⟩) (zpV hK hP hD (is := [0]) rfl rfl 0 rfl rfl (ci := 2) rfl) rfl rfl hl.1 rfl (lv_room (Nat.le_of_ble_eq_true rfl)) dX2_printRules_36 ⟨Nat.zero_le _, Nat.zero_le _⟩) (fun H locs hP hD hS => ?_)
        have hz_pa_length_36 : ∃ N : Nat, N ≤ 2000 ∧ t36.2 = nI N := by rw [← ht36]; exact zput2 hz_pa_length_22
        refine lv_aload_n hx hb dX2_printRules_39 rfl (lv_at hl 0 rfl) ?_
        refine lv_bipush (v := 62) hx hb dX2_printRules_40 (by decide) ?_
        obtain ⟨t42, ht42⟩ : ∃ z, FX2_put t36.1 t36.2 62 = z := ⟨_, rfl⟩
        have hE := hE.trans (bnd_eq ht42)
        have hc := c_X2_put l G apa (s2_length (s2_bytes (s2_length (s2_bytes (s2_length (s2_bytes bpa pa_bytes_7) pa_length_7) t22.1) t22.2) t36.1) t36.2) 62 (hz_pa_length_36) _ (by simp only [gs2_bytes_length, gg2_bytes, gg2_length]; exact ht42)
        refine zgoV (bs' := [w2 G apa (s2_length (s2_bytes (s2_length (s2_bytes (s2_length (s2_bytes (s2_length (s2_bytes bpa pa_bytes_7) pa_length_7) t22.1) t22.2) t36.1) t36.2) t42.1) t42.2), w0 G ac bc]) hc [0] rfl rfl rfl hP hD hS hA (va_runV (As := [.int 62]) (rest := []) S (hc.2 _) (cwV 1 S.2.2.2.2 gX2_printRules_X2_put rfl rfl rfl (by decide +kernel) ⟨Nat.le_of_ble_eq_true rfl, Nat.le_of_ble_eq_true rfl⟩) (zpV hK hP hD (is := [0]) rfl rfl 0 rfl rfl (ci := 2) rfl) rfl rfl hl.1 rfl (lv_room (Nat.le_of_ble_eq_true rfl)) dX2_printRules_42 ⟨Nat.zero_le _, Nat.zero_le _⟩) (fun H locs hP hD hS => ?_)
        have hz_pa_length_42 : ∃ N : Nat, N ≤ 2000 ∧ t42.2 = nI N := by rw [← ht42]; exact zput2 hz_pa_length_36
        refine lv_aload_n hx hb dX2_printRules_45 rfl (lv_at hl 0 rfl) ?_
        refine lv_aload_n hx hb dX2_printRules_46 rfl (lv_at hl 1 rfl) ?_
        refine zg0_head S in_X2_printRules_0 hK hP 1 rfl (List.mem_of_getElem? (i := 6) rfl) dX2_printRules_47 ?_
        refine lv_iload_n hx hb dX2_printRules_50 rfl (lv_at hl 2 rfl) ?_
        refine zl0_head S hK hP 1 rfl (vp_in_nI (by omega) (by omega)) (f := (g0_head bc)) rfl dX2_printRules_51 ?_
        obtain ⟨t52, ht52⟩ : ∃ z, FX2_putLiteral t42.1 t42.2 ((g0_head bc) (nI i2_7).toNatClampNeg) = z := ⟨_, rfl⟩
        have hE := hE.trans (bnd_eq ht52)
        have hc := c_X2_putLiteral l G apa (s2_length (s2_bytes (s2_length (s2_bytes (s2_length (s2_bytes (s2_length (s2_bytes bpa pa_bytes_7) pa_length_7) t22.1) t22.2) t36.1) t36.2) t42.1) t42.2) ((g0_head bc) (nI i2_7).toNatClampNeg) (hz_pa_length_42) _ (by simp only [gs2_bytes_length, gg2_bytes, gg2_length]; exact ht52)
        refine zgoV (bs' := [w2 G apa (s2_length (s2_bytes (s2_length (s2_bytes (s2_length (s2_bytes (s2_length (s2_bytes (s2_length (s2_bytes bpa pa_bytes_7) pa_length_7) t22.1) t22.2) t36.1) t36.2) t42.1) t42.2) t52.1) t52.2), w0 G ac bc]) hc [0] rfl rfl rfl hP hD hS hA (va_runV (As := [.int ((g0_head bc) (nI i2_7).toNatClampNeg)]) (rest := []) S (hc.2 _) (cwV 1 S.2.2.2.2 gX2_printRules_X2_putLiteral rfl rfl rfl (by decide +kernel) ⟨Nat.le_of_ble_eq_true rfl, Nat.le_of_ble_eq_true rfl⟩) (zpV hK hP hD (is := [0]) rfl rfl 0 rfl rfl (ci := 2) rfl) rfl rfl hl.1 rfl (lv_room (Nat.le_of_ble_eq_true rfl)) dX2_printRules_52 ⟨Nat.zero_le _, Nat.zero_le _⟩) (fun H locs hP hD hS => ?_)
        have hz_pa_length_52 : ∃ N : Nat, N ≤ 2000 ∧ t52.2 = nI N := by rw [← ht52]; exact zputL hz_pa_length_42
        refine lv_aload_n hx hb dX2_printRules_55 rfl (lv_at hl 1 rfl) ?_
        refine zg0_excepts S in_X2_printRules_0 hK hP 1 rfl (List.mem_of_getElem? (i := 7) rfl) dX2_printRules_56 ?_
        refine lv_iload_n hx hb dX2_printRules_59 rfl (lv_at hl 2 rfl) ?_
        refine zl0_excepts S hK hP 1 rfl (vp_in_nI (by omega) (by omega)) (f := (g0_excepts bc)) rfl dX2_printRules_60 ?_
        have hB80 : ∀ (pa_bytes_80 : Nat → Int32) (pa_length_80 : Int32) (H : Heap) (locs : List Loc) (ls : Array Slot), (∃ N : Nat, N ≤ 2000 ∧ pa_length_80 = nI N) → T = FX2_printRules_80 (g2_bytes bpa) (g2_length bpa) (g0_kind bc) (g0_head bc) (g0_body bc) (g0_excepts bc) (g0_power bc) (g0_size bc) (fun x2_7' pa_bytes_7' pa_length_7' => FX2_printRules_7 (g2_bytes bpa) (g2_length bpa) (g0_kind bc) (g0_head bc) (g0_body bc) (g0_excepts bc) (g0_power bc) (g0_size bc) (FX2_printRules_111 (g2_bytes bpa) (g2_length bpa) (g0_kind bc) (g0_head bc) (g0_body bc) (g0_excepts bc) (g0_power bc) (g0_size bc)) n7 x2_7' pa_bytes_7' pa_length_7') (FX2_printRules_111 (g2_bytes bpa) (g2_length bpa) (g0_kind bc) (g0_head bc) (g0_body bc) (g0_excepts bc) (g0_power bc) (g0_size bc)) (nI i2_7) pa_bytes_80 pa_length_80 → zP G [w2 G apa (s2_length (s2_bytes bpa pa_bytes_80) pa_length_80), w0 G ac bc] H → zD A [w2 G apa (s2_length (s2_bytes bpa pa_bytes_80) pa_length_80), w0 G ac bc] → va_S A s.heap H locs → lv_has ls 3 [(0, .ref (apa 0)), (1, .ref (ac 0)), (2, .int (nI i2_7))] → W p l e rmX2_printRules s m args below meth c H locs 0 0 Q (F0 m 80 ls []) := by
          intro pa_bytes_80 pa_length_80 H locs ls hz_pa_length_B80 hE hP hD hS hl
          have hE := hE.trans (FX2_printRules_80.eq_1 _ _ _ _ _ _ _ _ _ _ _ _ _)
          refine lv_aload_n hx hb dX2_printRules_80 rfl (lv_at hl 0 rfl) ?_
          refine lv_bipush (v := 42) hx hb dX2_printRules_81 (by decide) ?_
          obtain ⟨t83, ht83⟩ : ∃ z, FX2_put pa_bytes_80 pa_length_80 42 = z := ⟨_, rfl⟩
          have hE := hE.trans (bnd_eq ht83)
          have hc := c_X2_put l G apa (s2_length (s2_bytes bpa pa_bytes_80) pa_length_80) 42 (hz_pa_length_B80) _ (by simp only [gs2_bytes_length, gg2_bytes, gg2_length]; exact ht83)
          refine zgoV (bs' := [w2 G apa (s2_length (s2_bytes (s2_length (s2_bytes bpa pa_bytes_80) pa_length_80) t83.1) t83.2), w0 G ac bc]) hc [0] rfl rfl rfl hP hD hS hA (va_runV (As := [.int 42]) (rest := []) S (hc.2 _) (cwV 1 S.2.2.2.2 gX2_printRules_X2_put rfl rfl rfl (by decide +kernel) ⟨Nat.le_of_ble_eq_true rfl, Nat.le_of_ble_eq_true rfl⟩) (zpV hK hP hD (is := [0]) rfl rfl 0 rfl rfl (ci := 2) rfl) rfl rfl hl.1 rfl (lv_room (Nat.le_of_ble_eq_true rfl)) dX2_printRules_83 ⟨Nat.zero_le _, Nat.zero_le _⟩) (fun H locs hP hD hS => ?_)
          have hz_pa_length_83 : ∃ N : Nat, N ≤ 2000 ∧ t83.2 = nI N := by rw [← ht83]; exact zput2 hz_pa_length_B80
          refine lv_aload_n hx hb dX2_printRules_86 rfl (lv_at hl 0 rfl) ?_
          refine lv_bipush (v := 48) hx hb dX2_printRules_87 (by decide) ?_
          refine lv_aload_n hx hb dX2_printRules_89 rfl (lv_at hl 1 rfl) ?_
          refine zg0_power S in_X2_printRules_0 hK hP 1 rfl (List.mem_of_getElem? (i := 8) rfl) dX2_printRules_90 ?_
          refine lv_iload_n hx hb dX2_printRules_93 rfl (lv_at hl 2 rfl) ?_
          refine zl0_power S hK hP 1 rfl (vp_in_nI (by omega) (by omega)) (f := (g0_power bc)) rfl dX2_printRules_94 ?_
          refine lv_iadd hx hb dX2_printRules_95 ?_
          obtain ⟨t96, ht96⟩ : ∃ z, FX2_put t83.1 t83.2 (48 + ((g0_power bc) (nI i2_7).toNatClampNeg)) = z := ⟨_, rfl⟩
          have hE := hE.trans (bnd_eq ht96)
          have hc := c_X2_put l G apa (s2_length (s2_bytes (s2_length (s2_bytes bpa pa_bytes_80) pa_length_80) t83.1) t83.2) (48 + ((g0_power bc) (nI i2_7).toNatClampNeg)) (hz_pa_length_83) _ (by simp only [gs2_bytes_length, gg2_bytes, gg2_length]; exact ht96)
          refine zgoV (bs' := [w2 G apa (s2_length (s2_bytes (s2_length (s2_bytes (s2_length (s2_bytes bpa pa_bytes_80) pa_length_80) t83.1) t83.2) t96.1) t96.2), w0 G ac bc]) hc [0] rfl rfl rfl hP hD hS hA (va_runV (As := [.int (48 + ((g0_power bc) (nI i2_7).toNatClampNeg))]) (rest := []) S (hc.2 _) (cwV 1 S.2.2.2.2 gX2_printRules_X2_put rfl rfl rfl (by decide +kernel) ⟨Nat.le_of_ble_eq_true rfl, Nat.le_of_ble_eq_true rfl⟩) (zpV hK hP hD (is := [0]) rfl rfl 0 rfl rfl (ci := 2) rfl) rfl rfl hl.1 rfl (lv_room (Nat.le_of_ble_eq_true rfl)) dX2_printRules_96 ⟨Nat.zero_le _, Nat.zero_le _⟩) (fun H locs hP hD hS => ?_)
          have hz_pa_length_96 : ∃ N : Nat, N ≤ 2000 ∧ t96.2 = nI N := by rw [← ht96]; exact zput2 hz_pa_length_83
          refine lv_aload_n hx hb dX2_printRules_99 rfl (lv_at hl 0 rfl) ?_
          refine lv_bipush (v := 59) hx hb dX2_printRules_100 (by decide) ?_
          obtain ⟨t102, ht102⟩ : ∃ z, FX2_put t96.1 t96.2 59 = z := ⟨_, rfl⟩
          have hE := hE.trans (bnd_eq ht102)
          have hc := c_X2_put l G apa (s2_length (s2_bytes (s2_length (s2_bytes (s2_length (s2_bytes bpa pa_bytes_80) pa_length_80) t83.1) t83.2) t96.1) t96.2) 59 (hz_pa_length_96) _ (by simp only [gs2_bytes_length, gg2_bytes, gg2_length]; exact ht102)
          refine zgoV (bs' := [w2 G apa (s2_length (s2_bytes (s2_length (s2_bytes (s2_length (s2_bytes (s2_length (s2_bytes bpa pa_bytes_80) pa_length_80) t83.1) t83.2) t96.1) t96.2) t102.1) t102.2), w0 G ac bc]) hc [0] rfl rfl rfl hP hD hS hA (va_runV (As := [.int 59]) (rest := []) S (hc.2 _) (cwV 1 S.2.2.2.2 gX2_printRules_X2_put rfl rfl rfl (by decide +kernel) ⟨Nat.le_of_ble_eq_true rfl, Nat.le_of_ble_eq_true rfl⟩) (zpV hK hP hD (is := [0]) rfl rfl 0 rfl rfl (ci := 2) rfl) rfl rfl hl.1 rfl (lv_room (Nat.le_of_ble_eq_true rfl)) dX2_printRules_102 ⟨Nat.zero_le _, Nat.zero_le _⟩) (fun H locs hP hD hS => ?_)
          have hz_pa_length_102 : ∃ N : Nat, N ≤ 2000 ∧ t102.2 = nI N := by rw [← ht102]; exact zput2 hz_pa_length_96
          refine lv_iinc (v := (nI (i2_7 + 1))) (lv' := [(2, .int (nI (i2_7 + 1))), (0, .ref (apa 0)), (1, .ref (ac 0))]) hx hb dX2_printRules_105 hl (k := 2) rfl (nI_1 i2_7) (by decide) rfl (fun ls hl => ?_)
          try rw [nI_1 i2_7] at hE
          refine lv_goto (tgt := 7) hx hb dX2_printRules_108 (by decide) ?_
          rw [show (s2_length (s2_bytes (s2_length (s2_bytes (s2_length (s2_bytes (s2_length (s2_bytes bpa pa_bytes_80) pa_length_80) t83.1) t83.2) t96.1) t96.2) t102.1) t102.2) = (s2_length (s2_bytes bpa t102.1) t102.2) from ((congrArg (fun z => s2_length z t102.2) ((congrArg (fun z => s2_bytes z t102.1) ((congrArg (fun z => s2_length z t96.2) ((congrArg (fun z => s2_bytes z t96.1) ((congrArg (fun z => s2_length z t83.2) ((cm2_bytes_length _ pa_length_80 t83.1).trans (congrArg (fun z => s2_length z pa_length_80) (ss2_bytes _ pa_bytes_80 t83.1)))).trans (ss2_length _ pa_length_80 t83.2))).trans ((cm2_bytes_length _ t83.2 t96.1).trans (congrArg (fun z => s2_length z t83.2) (ss2_bytes _ t83.1 t96.1))))).trans (ss2_length _ t83.2 t96.2))).trans ((cm2_bytes_length _ t96.2 t102.1).trans (congrArg (fun z => s2_length z t96.2) (ss2_bytes _ t96.1 t102.1))))).trans (ss2_length _ t96.2 t102.2))] at hP hD
          exact ih7 (i2_7 + 1) t102.1 t102.2 _ _ _ (by first | assumption | omega) (by exact hz_pa_length_102) (by omega) hE hP hD hS (lv_sub hl [1, 2, 0] rfl)
        refine lv_if_eq (tgt := 80) hx hb dX2_printRules_61 (by decide) (fun c61 => ?_) (fun c61 => ?_)
        · have hE := hE.trans (if_pos c61)
          rw [show (s2_length (s2_bytes (s2_length (s2_bytes (s2_length (s2_bytes (s2_length (s2_bytes (s2_length (s2_bytes bpa pa_bytes_7) pa_length_7) t22.1) t22.2) t36.1) t36.2) t42.1) t42.2) t52.1) t52.2) = (s2_length (s2_bytes bpa t52.1) t52.2) from ((congrArg (fun z => s2_length z t52.2) ((congrArg (fun z => s2_bytes z t52.1) ((congrArg (fun z => s2_length z t42.2) ((congrArg (fun z => s2_bytes z t42.1) ((congrArg (fun z => s2_length z t36.2) ((congrArg (fun z => s2_bytes z t36.1) ((congrArg (fun z => s2_length z t22.2) ((cm2_bytes_length _ pa_length_7 t22.1).trans (congrArg (fun z => s2_length z pa_length_7) (ss2_bytes _ pa_bytes_7 t22.1)))).trans (ss2_length _ pa_length_7 t22.2))).trans ((cm2_bytes_length _ t22.2 t36.1).trans (congrArg (fun z => s2_length z t22.2) (ss2_bytes _ t22.1 t36.1))))).trans (ss2_length _ t22.2 t36.2))).trans ((cm2_bytes_length _ t36.2 t42.1).trans (congrArg (fun z => s2_length z t36.2) (ss2_bytes _ t36.1 t42.1))))).trans (ss2_length _ t36.2 t42.2))).trans ((cm2_bytes_length _ t42.2 t52.1).trans (congrArg (fun z => s2_length z t42.2) (ss2_bytes _ t42.1 t52.1))))).trans (ss2_length _ t42.2 t52.2))] at hP hD
          exact hB80 t52.1 t52.2 _ _ _ (by exact hz_pa_length_52) hE hP hD hS (lv_sub hl [0, 1, 2] rfl)
        · have hE := hE.trans (if_neg c61)
          refine lv_aload_n hx hb dX2_printRules_64 rfl (lv_at hl 0 rfl) ?_
          refine lv_bipush (v := 63) hx hb dX2_printRules_65 (by decide) ?_
          obtain ⟨t67, ht67⟩ : ∃ z, FX2_put t52.1 t52.2 63 = z := ⟨_, rfl⟩
          have hE := hE.trans (bnd_eq ht67)
          have hc := c_X2_put l G apa (s2_length (s2_bytes (s2_length (s2_bytes (s2_length (s2_bytes (s2_length (s2_bytes (s2_length (s2_bytes bpa pa_bytes_7) pa_length_7) t22.1) t22.2) t36.1) t36.2) t42.1) t42.2) t52.1) t52.2) 63 (hz_pa_length_52) _ (by simp only [gs2_bytes_length, gg2_bytes, gg2_length]; exact ht67)
          refine zgoV (bs' := [w2 G apa (s2_length (s2_bytes (s2_length (s2_bytes (s2_length (s2_bytes (s2_length (s2_bytes (s2_length (s2_bytes (s2_length (s2_bytes bpa pa_bytes_7) pa_length_7) t22.1) t22.2) t36.1) t36.2) t42.1) t42.2) t52.1) t52.2) t67.1) t67.2), w0 G ac bc]) hc [0] rfl rfl rfl hP hD hS hA (va_runV (As := [.int 63]) (rest := []) S (hc.2 _) (cwV 1 S.2.2.2.2 gX2_printRules_X2_put rfl rfl rfl (by decide +kernel) ⟨Nat.le_of_ble_eq_true rfl, Nat.le_of_ble_eq_true rfl⟩) (zpV hK hP hD (is := [0]) rfl rfl 0 rfl rfl (ci := 2) rfl) rfl rfl hl.1 rfl (lv_room (Nat.le_of_ble_eq_true rfl)) dX2_printRules_67 ⟨Nat.zero_le _, Nat.zero_le _⟩) (fun H locs hP hD hS => ?_)
          have hz_pa_length_67 : ∃ N : Nat, N ≤ 2000 ∧ t67.2 = nI N := by rw [← ht67]; exact zput2 hz_pa_length_52
          refine lv_aload_n hx hb dX2_printRules_70 rfl (lv_at hl 0 rfl) ?_
          refine lv_aload_n hx hb dX2_printRules_71 rfl (lv_at hl 1 rfl) ?_
          refine zg0_excepts S in_X2_printRules_0 hK hP 1 rfl (List.mem_of_getElem? (i := 7) rfl) dX2_printRules_72 ?_
          refine lv_iload_n hx hb dX2_printRules_75 rfl (lv_at hl 2 rfl) ?_
          refine zl0_excepts S hK hP 1 rfl (vp_in_nI (by omega) (by omega)) (f := (g0_excepts bc)) rfl dX2_printRules_76 ?_
          obtain ⟨t77, ht77⟩ : ∃ z, FX2_putLiterals t67.1 t67.2 ((g0_excepts bc) (nI i2_7).toNatClampNeg) = z := ⟨_, rfl⟩
          have hE := hE.trans (bnd_eq ht77)
          have hc := c_X2_putLiterals l G apa (s2_length (s2_bytes (s2_length (s2_bytes (s2_length (s2_bytes (s2_length (s2_bytes (s2_length (s2_bytes (s2_length (s2_bytes bpa pa_bytes_7) pa_length_7) t22.1) t22.2) t36.1) t36.2) t42.1) t42.2) t52.1) t52.2) t67.1) t67.2) ((g0_excepts bc) (nI i2_7).toNatClampNeg) (hz_pa_length_67) _ (by simp only [gs2_bytes_length, gg2_bytes, gg2_length]; exact ht77)
          refine zgoV (bs' := [w2 G apa (s2_length (s2_bytes (s2_length (s2_bytes (s2_length (s2_bytes (s2_length (s2_bytes (s2_length (s2_bytes (s2_length (s2_bytes (s2_length (s2_bytes bpa pa_bytes_7) pa_length_7) t22.1) t22.2) t36.1) t36.2) t42.1) t42.2) t52.1) t52.2) t67.1) t67.2) t77.1) t77.2), w0 G ac bc]) hc [0] rfl rfl rfl hP hD hS hA (va_runV (As := [.int ((g0_excepts bc) (nI i2_7).toNatClampNeg)]) (rest := []) S (hc.2 _) (cwV 1 S.2.2.2.2 gX2_printRules_X2_putLiterals rfl rfl rfl (by decide +kernel) ⟨Nat.le_of_ble_eq_true rfl, Nat.le_of_ble_eq_true rfl⟩) (zpV hK hP hD (is := [0]) rfl rfl 0 rfl rfl (ci := 2) rfl) rfl rfl hl.1 rfl (lv_room (Nat.le_of_ble_eq_true rfl)) dX2_printRules_77 ⟨Nat.zero_le _, Nat.zero_le _⟩) (fun H locs hP hD hS => ?_)
          have hz_pa_length_77 : ∃ N : Nat, N ≤ 2000 ∧ t77.2 = nI N := by rw [← ht77]; exact zputLs hz_pa_length_67
          rw [show (s2_length (s2_bytes (s2_length (s2_bytes (s2_length (s2_bytes (s2_length (s2_bytes (s2_length (s2_bytes (s2_length (s2_bytes (s2_length (s2_bytes bpa pa_bytes_7) pa_length_7) t22.1) t22.2) t36.1) t36.2) t42.1) t42.2) t52.1) t52.2) t67.1) t67.2) t77.1) t77.2) = (s2_length (s2_bytes bpa t77.1) t77.2) from ((congrArg (fun z => s2_length z t77.2) ((congrArg (fun z => s2_bytes z t77.1) ((congrArg (fun z => s2_length z t67.2) ((congrArg (fun z => s2_bytes z t67.1) ((congrArg (fun z => s2_length z t52.2) ((congrArg (fun z => s2_bytes z t52.1) ((congrArg (fun z => s2_length z t42.2) ((congrArg (fun z => s2_bytes z t42.1) ((congrArg (fun z => s2_length z t36.2) ((congrArg (fun z => s2_bytes z t36.1) ((congrArg (fun z => s2_length z t22.2) ((cm2_bytes_length _ pa_length_7 t22.1).trans (congrArg (fun z => s2_length z pa_length_7) (ss2_bytes _ pa_bytes_7 t22.1)))).trans (ss2_length _ pa_length_7 t22.2))).trans ((cm2_bytes_length _ t22.2 t36.1).trans (congrArg (fun z => s2_length z t22.2) (ss2_bytes _ t22.1 t36.1))))).trans (ss2_length _ t22.2 t36.2))).trans ((cm2_bytes_length _ t36.2 t42.1).trans (congrArg (fun z => s2_length z t36.2) (ss2_bytes _ t36.1 t42.1))))).trans (ss2_length _ t36.2 t42.2))).trans ((cm2_bytes_length _ t42.2 t52.1).trans (congrArg (fun z => s2_length z t42.2) (ss2_bytes _ t42.1 t52.1))))).trans (ss2_length _ t42.2 t52.2))).trans ((cm2_bytes_length _ t52.2 t67.1).trans (congrArg (fun z => s2_length z t52.2) (ss2_bytes _ t52.1 t67.1))))).trans (ss2_length _ t52.2 t67.2))).trans ((cm2_bytes_length _ t67.2 t77.1).trans (congrArg (fun z => s2_length z t67.2) (ss2_bytes _ t67.1 t77.1))))).trans (ss2_length _ t67.2 t77.2))] at hP hD
          exact hB80 t77.1 t77.2 _ _ _ (by exact hz_pa_length_77) hE hP hD hS (lv_sub hl [0, 1, 2] rfl)
  refine lv_istore_n (lv' := [(2, .int 0), (0, .ref (apa 0)), (1, .ref (ac 0))]) hx hb dX2_printRules_6 rfl hl (by decide) rfl (fun ls hl => ?_)
  rw [show (s2_length bpa 0) = (s2_length (s2_bytes bpa (g2_bytes bpa)) 0) from (congrArg (fun z => s2_length z 0) ((se2_bytes _).symm))] at hP hD
  exact hB7 17 0 (g2_bytes bpa) 0 _ _ _ (by first | assumption | omega) (by exact hz_pa_length_2) (by omega) hE hP hD hS (lv_sub hl [1, 2, 0] rfl)

