abbrev S5 : Type := (Nat → Nat → Int32) × (Nat → Int32)
def g5_vals (z : S5) : Nat → Nat → Int32 := z.1
def g5_size (z : S5) : Nat → Int32 := z.2
def s5_vals (z : S5) (x : Nat → Nat → Int32) : S5 := (x, z.2)
def s5_size (z : S5) (x : Nat → Int32) : S5 := (z.1, x)
def w5 (G : zG) (a : Nat → Nat) (z : S5) : va_W := [(a 0, .inr (5, [.ref (a 1), .ref (a 2)])), (a 1, .inl (G.2.2.2, 4, .inr (.inr (.inr (.inr (fun j => some (a (3 + j)))))))), (a 2, .inl (G.2.1, 4, .inl (g5_size z))), (a 3, .inl (G.2.1, 24, .inl (g5_vals z 0))), (a 4, .inl (G.2.1, 24, .inl (g5_vals z 1))), (a 5, .inl (G.2.1, 24, .inl (g5_vals z 2))), (a 6, .inl (G.2.1, 24, .inl (g5_vals z 3)))]
theorem gg5_vals (z : S5) (x : Nat → Nat → Int32) : g5_vals (s5_vals z x) = x := rfl
theorem ss5_vals (z : S5) (x y : Nat → Nat → Int32) : s5_vals (s5_vals z x) y = s5_vals z y := rfl
theorem se5_vals (z : S5) : s5_vals z (g5_vals z) = z := rfl
theorem gs5_vals_size (z : S5) (x : Nat → Int32) : g5_vals (s5_size z x) = g5_vals z := rfl
theorem gg5_size (z : S5) (x : Nat → Int32) : g5_size (s5_size z x) = x := rfl
theorem ss5_size (z : S5) (x y : Nat → Int32) : s5_size (s5_size z x) y = s5_size z y := rfl
theorem se5_size (z : S5) : s5_size z (g5_size z) = z := rfl
theorem gs5_size_vals (z : S5) (x : Nat → Nat → Int32) : g5_size (s5_vals z x) = g5_size z := rfl
theorem cm5_vals_size (z : S5) (x : Nat → Int32) (y : Nat → Nat → Int32) : s5_vals (s5_size z x) y = s5_size (s5_vals z y) x := rfl
theorem wf5 (G : zG) (a : Nat → Nat) (z y : S5) : (w5 G a z).map Prod.fst = (w5 G a y).map Prod.fst := rfl
section ZFLD5
variable {p : Program} {l : Launch} {e : Env} {R : Room} {s : State} {m : MethodId} {args : Array Value} {below : List Frame} {meth : Method} {c : Code} {H : Heap} {locs : List Loc} {cells slots : Nat} {Q : State → Prop}
variable {cc : ByteArray} {pc : Nat} {ls : Array Slot} {rest st0 : List Value} {G : zG} {A : Nat → Prop} {bs bs1 : zB} {H0 : Heap} {nL : Nat} {Ts : List Cond} {own : String}
theorem zg5_values (S : CallFix p m c cc nL s args Ts own) {index : Nat} (hin : ∀ w ∈ u_ws RX5 TX5 2, w ∈ Ts) (hK : zK G s) (hP : zP G bs H) (i : Nat) {a : Nat → Nat} {z : S5} (hi : bs[i]? = some (w5 G a z)) (hlink : Cond.fieldLink own index "RuleCourt$Rows" "values" "[[I" ∈ Ts) (hdg : decode cc pc = .ok (.getfield index, 3)) (kk : W p l e R s m args below meth c H locs cells slots Q (F0 m (pc + 3) ls (.ref (a 1) :: rest))) : W p l e R s m args below meth c H locs cells slots Q (F0 m pc ls (.ref (a 0) :: rest)) := zget S hin hK hP i hi 0 rfl (ci := 5) rfl 0 (by decide) hlink rfl rfl hdg kk
theorem zg5_size (S : CallFix p m c cc nL s args Ts own) {index : Nat} (hin : ∀ w ∈ u_ws RX5 TX5 2, w ∈ Ts) (hK : zK G s) (hP : zP G bs H) (i : Nat) {a : Nat → Nat} {z : S5} (hi : bs[i]? = some (w5 G a z)) (hlink : Cond.fieldLink own index "RuleCourt$Rows" "size" "[I" ∈ Ts) (hdg : decode cc pc = .ok (.getfield index, 3)) (kk : W p l e R s m args below meth c H locs cells slots Q (F0 m (pc + 3) ls (.ref (a 2) :: rest))) : W p l e R s m args below meth c H locs cells slots Q (F0 m pc ls (.ref (a 0) :: rest)) := zget S hin hK hP i hi 0 rfl (ci := 5) rfl 1 (by decide) hlink rfl rfl hdg kk
theorem zl5_size (S : CallFix p m c cc nL s args Ts own) (hK : zK G s) (hP : zP G bs H) (i : Nat) {a : Nat → Nat} {z : S5} (hi : bs[i]? = some (w5 G a z)) {j : Int32} (hin : vp_in j 4) {f : Nat → Int32} (hv : g5_size z = f) (hdg : decode cc pc = .ok (.iaload, 1)) (kk : W p l e R s m args below meth c H locs cells slots Q (F0 m (pc + 1) ls (.int (f j.toNatClampNeg) :: rest))) : W p l e R s m args below meth c H locs cells slots Q (F0 m pc ls (.int j :: .ref (a 2) :: rest)) := zald S hK hP i hi 2 rfl hin hdg (by subst hv; exact kk)
theorem zs5_size (S : CallFix p m c cc nL s args Ts own) (hK : zK G s) (hP : zP G bs H) (hD : zD A bs) (hS : va_S A H0 H locs) (i : Nat) {a : Nat → Nat} {z : S5} (hi : bs[i]? = some (w5 G a z)) {j x : Int32} (hin : vp_in j 4) {f : Nat → Int32} (hv : g5_size z = f) (hdg : decode cc pc = .ok (.iastore, 1)) (hbs : bs.set i (w5 G a (s5_size z (upd f j.toNatClampNeg x))) = bs1) (kk : ∀ (H1 : Heap) (locs1 : List Loc), zP G bs1 H1 → zD A bs1 → va_S A H0 H1 locs1 → W p l e R s m args below meth c H1 locs1 cells slots Q (F0 m (pc + 1) ls rest)) : W p l e R s m args below meth c H locs cells slots Q (F0 m pc ls (.int x :: .int j :: .ref (a 2) :: rest)) := by
  subst hv
  exact zast S hK hP hD hS i hi 2 rfl hin rfl hbs hdg kk
theorem zaldA (S : CallFix p m c cc nL s args Ts own) (hK : zK G s) (hP : zP G bs H) (i : Nat) {blk : va_W} (hi : bs[i]? = some blk) (q0 : Nat) {a n : Nat} {f : Nat → Option Nat} (ha : blk[q0]? = some (a, .inl (G.2.2.2, n, .inr (.inr (.inr (.inr f)))))) {j : Int32} (hin : vp_in j n) {k : Nat} (hf : f j.toNatClampNeg = some k) (hdg : decode cc pc = .ok (.aaload, 1))
    (kk : W p l e R s m args below meth c H locs cells slots Q (F0 m (pc + 1) ls (.ref k :: rest))) : W p l e R s m args below meth c H locs cells slots Q (F0 m pc ls (.int j :: .ref a :: rest)) := by
  have hlt : j.toNatClampNeg < n := Nat.not_le.mp fun q => hin (Or.inr q)
  exact W.aald (v := va_rf (f j.toNatClampNeg)) (ty := .array .int) S.1 S.2.1 ((hP.blk hi) q0 _ ha) ((hK.1.2 2 _ rfl).1 n (fun j => va_rf (f j))) rfl (fun q => by cases q) (by show ¬ (j < 0 ∨ (arrV _ _ _).slots.size ≤ _); rw [arrV_size]; exact hin) (by show (arrV _ _ _).slots[_]? = _; rw [arrV_read _ _ hlt]) rfl rfl hdg (by rw [hf]; exact kk)
end ZFLD5
theorem w5_row {G : zG} {a : Nat → Nat} {z : S5} {k : Nat} (h : k < 4) : (w5 G a z)[3 + k]? = some (a (3 + k), .inl (G.2.1, 24, .inl (g5_vals z k))) := by
  match k, h with
  | 0, _ => rfl
  | 1, _ => rfl
  | 2, _ => rfl
  | 3, _ => rfl
theorem w5_set {G : zG} {a : Nat → Nat} {z : S5} {k : Nat} (h : k < 4) (f : Nat → Int32) : (w5 G a z).set (3 + k) (a (3 + k), .inl (G.2.1, 24, .inl f)) = w5 G a (s5_vals z (va_up (g5_vals z) k f)) := by
  match k, h with
  | 0, _ => rfl
  | 1, _ => rfl
  | 2, _ => rfl
  | 3, _ => rfl
theorem in_X5_at_5 : ∀ w ∈ u_ws RX5 TX5 2, w ∈ wsX5_at := by decide +kernel
def rmX5_at : Room := { frames := 0, cells := 0, slots := 0, locals := 0 }

set_option maxHeartbeats 4000000 in
set_option maxRecDepth 100000 in
theorem c_X5_at (l : Launch) (G : zG) (aro : Nat → Nat) (bro : S5) (x1 : Int32) (x2 : Int32) (hx1_4 : vp_in x1 4) (hx2_24 : vp_in x2 24) (T : Int32) (hT : FX5_at (g5_vals bro) x1 x2 = T) : zR l yX5_at wsX5_at rmX5_at .int G [.ref (aro 0), .int x1, .int x2] [w5 G aro bro] T := by
  refine zR.mk (cc := cX5_at) (maxL := 3) (by decide +kernel) rfl (Nat.le_of_ble_eq_true rfl) ?_
  intro p e s m args below meth c Q A ls S hK hD hA hP hl hret
  have hx := S.1
  have hb := S.2.1
  have hl : lv_has ls 3 [(0, .ref (aro 0)), (1, .int x1), (2, .int x2)] := hl
  obtain ⟨k, hk, hx1⟩ := vp_in_of hx1_4 (by decide)
  subst hx1
  have hkc : (nI k).toNatClampNeg = k := nI_clamp (by omega)
  refine lv_aload_n hx hb dX5_at_0 rfl (lv_at hl 0 rfl) ?_
  refine zg5_values S in_X5_at_5 hK hP 0 rfl (List.mem_of_getElem? (i := 1) rfl) dX5_at_1 ?_
  refine lv_iload_n hx hb dX5_at_4 rfl (lv_at hl 1 rfl) ?_
  refine zaldA (k := aro (3 + k)) S hK hP 0 rfl 1 rfl (vp_in_nI hk (by decide)) (by rw [hkc]) dX5_at_5 ?_
  refine lv_iload_n hx hb dX5_at_6 rfl (lv_at hl 2 rfl) ?_
  refine zald S hK hP 0 rfl (3 + k) (w5_row hk) hx2_24 dX5_at_7 ?_
  exact hret _ _ _ (by rw [← hT]; unfold FX5_at; rw [hkc]) rfl dX5_at_8

theorem in_X5_put_5 : ∀ w ∈ u_ws RX5 TX5 2, w ∈ wsX5_put := by decide +kernel
def rmX5_put : Room := { frames := 0, cells := 0, slots := 0, locals := 0 }

set_option maxHeartbeats 4000000 in
set_option maxRecDepth 100000 in
theorem c_X5_put (l : Launch) (G : zG) (aro : Nat → Nat) (bro : S5) (x1 : Int32) (x2 : Int32) (x3 : Int32) (hx1_4 : vp_in x1 4) (hx2_24 : vp_in x2 24) (T : Nat → Nat → Int32) (hT : FX5_put (g5_vals bro) x1 x2 x3 = T) : zV l yX5_put wsX5_put rmX5_put G [.ref (aro 0), .int x1, .int x2, .int x3] [w5 G aro bro] [w5 G aro (s5_vals bro T)] := by
  refine zV.mk (cc := cX5_put) (maxL := 4) (by decide +kernel) rfl (Nat.le_of_ble_eq_true rfl) rfl ?_
  intro p e s m args below meth c Q A ls S hK hD hA hP hl hret
  have hx := S.1
  have hb := S.2.1
  have hS : va_S A s.heap s.heap [] := va_S.rf
  have hl : lv_has ls 4 [(0, .ref (aro 0)), (1, .int x1), (2, .int x2), (3, .int x3)] := hl
  obtain ⟨k, hk, hx1⟩ := vp_in_of hx1_4 (by decide)
  subst hx1
  have hkc : (nI k).toNatClampNeg = k := nI_clamp (by omega)
  refine lv_aload_n hx hb dX5_put_0 rfl (lv_at hl 0 rfl) ?_
  refine zg5_values S in_X5_put_5 hK hP 0 rfl (List.mem_of_getElem? (i := 1) rfl) dX5_put_1 ?_
  refine lv_iload_n hx hb dX5_put_4 rfl (lv_at hl 1 rfl) ?_
  refine zaldA (k := aro (3 + k)) S hK hP 0 rfl 1 rfl (vp_in_nI hk (by decide)) (by rw [hkc]) dX5_put_5 ?_
  refine lv_iload_n hx hb dX5_put_6 rfl (lv_at hl 2 rfl) ?_
  refine lv_iload_n hx hb dX5_put_7 rfl (lv_at hl 3 rfl) ?_
  refine zast (bs' := [w5 G aro (s5_vals bro T)]) S hK hP hD hS 0 rfl (3 + k) (w5_row hk) hx2_24 (w5_set hk _) (by rw [← hT]; unfold FX5_put; rw [hkc]; rfl) dX5_put_8 (fun H locs hP hD hS => ?_)
  exact hret _ _ _ _ _ rfl hP hS dX5_put_9

theorem in_X5_make_5 : ∀ w ∈ u_ws RX5 TX5 2, w ∈ wsX5_make := by decide +kernel
def rmX5_make : Room := { frames := 1, cells := 0, slots := 0, locals := 23 }

set_option maxHeartbeats 4000000 in
set_option maxRecDepth 100000 in
theorem c_X5_make (l : Launch) (G : zG) (aro : Nat → Nat) (bro : S5) (x1 : Int32) (x2 : Int32) (hx1_4 : vp_in x1 4) (T : (Nat → Nat → Int32) × (Nat → Int32)) (hT : FX5_make (g5_vals bro) (g5_size bro) x1 x2 = T) : zV l yX5_make wsX5_make rmX5_make G [.ref (aro 0), .int x1, .int x2] [w5 G aro bro] [w5 G aro (s5_size (s5_vals bro T.1) T.2)] := by
  refine zV.mk (cc := cX5_make) (maxL := 3) (by decide +kernel) rfl (Nat.le_of_ble_eq_true rfl) rfl ?_
  intro p e s m args below meth c Q A ls S hK hD hA hP hl hret
  have hx := S.1
  have hb := S.2.1
  have hS : va_S A s.heap s.heap [] := va_S.rf
  have hl : lv_has ls 3 [(0, .ref (aro 0)), (1, .int x1), (2, .int x2)] := hl
  obtain ⟨k, hk, hx1⟩ := vp_in_of hx1_4 (by decide)
  subst hx1
  have hkc : (nI k).toNatClampNeg = k := nI_clamp (by omega)
  refine lv_aload_n hx hb dX5_make_0 rfl (lv_at hl 0 rfl) ?_
  refine zg5_values S in_X5_make_5 hK hP 0 rfl (List.mem_of_getElem? (i := 1) rfl) dX5_make_1 ?_
  refine lv_iload_n hx hb dX5_make_4 rfl (lv_at hl 1 rfl) ?_
  refine zaldA (k := aro (3 + k)) S hK hP 0 rfl 1 rfl (vp_in_nI hk (by decide)) (by rw [hkc]) dX5_make_5 ?_
  refine lv_iconst (v := 0) hx hb dX5_make_6 (by decide) ?_
  refine zfillC (f := g5_vals bro k) (bs' := [w5 G aro (s5_vals bro (va_up (g5_vals bro) k (zfill 24 0 (g5_vals bro k))))]) (rest := []) S (va_cwS 2 S.2.2.2.2 gX5_make_J7_fill_53178 rfl rfl rfl (by decide +kernel) ⟨Nat.le_of_ble_eq_true rfl, Nat.le_of_ble_eq_true rfl⟩) hK hP hD hS hA 0 rfl (3 + k) (w5_row hk) (Nat.le_of_ble_eq_true rfl) (w5_set hk _) rfl hl.1 (lv_room (Nat.le_of_ble_eq_true rfl)) dX5_make_7 (fun H locs hP hD hS => ?_)
  refine lv_aload_n hx hb dX5_make_10 rfl (lv_at hl 0 rfl) ?_
  refine zg5_size S in_X5_make_5 hK hP 0 rfl (List.mem_of_getElem? (i := 2) rfl) dX5_make_11 ?_
  refine lv_iload_n hx hb dX5_make_14 rfl (lv_at hl 1 rfl) ?_
  refine lv_iload_n hx hb dX5_make_15 rfl (lv_at hl 2 rfl) ?_
  refine zs5_size (bs1 := [w5 G aro (s5_size (s5_vals bro T.1) T.2)]) (f := g5_size bro) S hK hP hD hS 0 rfl (vp_in_nI hk (by decide)) rfl dX5_make_16 (by rw [← hT]; unfold FX5_make; rw [hkc]; rfl) (fun H locs hP hD hS => ?_)
  exact hret _ _ _ _ _ rfl hP hS dX5_make_17


theorem in_X5_holds_5 : ∀ w ∈ u_ws RX5 TX5 2, w ∈ wsX5_holds := by decide +kernel
def rmX5_holds : Room := { frames := 0, cells := 0, slots := 0, locals := 0 }
set_option maxHeartbeats 4000000 in
set_option maxRecDepth 100000 in
theorem c_X5_holds (l : Launch) (G : zG) (aro : Nat → Nat) (bro : S5) (x1 : Int32) (hx1_4 : vp_in x1 4) (T : Int32) (hT : FX5_holds (g5_size bro) x1 = T) : zR l yX5_holds wsX5_holds rmX5_holds .boolean G [.ref (aro 0), .int x1] [w5 G aro bro] T := by
  refine zR.mk (cc := cX5_holds) (maxL := 2) (by decide +kernel) rfl (Nat.le_of_ble_eq_true rfl) ?_
  intro p e s m args below meth c Q A ls S hK hD hA hP hl hret
  have hx := S.1
  have hb := S.2.1
  have hl : lv_has ls 2 [(0, .ref (aro 0)), (1, .int x1)] := hl
  have hE := hT.symm.trans (FX5_holds.eq_1 _ _)
  refine lv_aload_n hx hb dX5_holds_0 rfl (lv_at hl 0 rfl) ?_
  refine zg5_size S in_X5_holds_5 hK hP 0 rfl (List.mem_of_getElem? (i := 1) rfl) dX5_holds_1 ?_
  refine lv_iload_n hx hb dX5_holds_4 rfl (lv_at hl 1 rfl) ?_
  refine zl5_size S hK hP 0 rfl hx1_4 (f := (g5_size bro)) rfl dX5_holds_5 ?_
  refine lv_iconst (v := (-1)) hx hb dX5_holds_6 (by decide) ?_
  refine lv_icmp_eq (tgt := 14) hx hb dX5_holds_7 (by decide) (fun c7 => ?_) (fun c7 => ?_)
  · have hE := hE.trans (if_pos c7)
    refine lv_iconst (v := 0) hx hb dX5_holds_14 (by decide) ?_
    exact hret _ _ _ hE zn0 dX5_holds_15
  · have hE := hE.trans (if_neg c7)
    refine lv_iconst (v := 1) hx hb dX5_holds_10 (by decide) ?_
    refine lv_goto (tgt := 15) hx hb dX5_holds_11 (by decide) ?_
    exact hret _ _ _ hE zn1 dX5_holds_15

theorem in_X5_hasPlace_5 : ∀ w ∈ u_ws RX5 TX5 2, w ∈ wsX5_hasPlace := by decide +kernel
def rmX5_hasPlace : Room := { frames := 0, cells := 0, slots := 0, locals := 0 }
set_option maxHeartbeats 4000000 in
set_option maxRecDepth 100000 in
theorem c_X5_hasPlace (l : Launch) (G : zG) (aro : Nat → Nat) (bro : S5) (x1 : Int32) (x2 : Int32) (hx1_4 : vp_in x1 4) (T : Int32) (hT : FX5_hasPlace (g5_size bro) x1 x2 = T) : zR l yX5_hasPlace wsX5_hasPlace rmX5_hasPlace .boolean G [.ref (aro 0), .int x1, .int x2] [w5 G aro bro] T := by
  refine zR.mk (cc := cX5_hasPlace) (maxL := 3) (by decide +kernel) rfl (Nat.le_of_ble_eq_true rfl) ?_
  intro p e s m args below meth c Q A ls S hK hD hA hP hl hret
  have hx := S.1
  have hb := S.2.1
  have hl : lv_has ls 3 [(0, .ref (aro 0)), (1, .int x1), (2, .int x2)] := hl
  have hE := hT.symm.trans (FX5_hasPlace.eq_1 _ _ _)
  refine lv_iload_n hx hb dX5_hasPlace_0 rfl (lv_at hl 2 rfl) ?_
  refine lv_if_lt (tgt := 18) hx hb dX5_hasPlace_1 (by decide) (fun c1 => ?_) (fun c1 => ?_)
  · have hE := hE.trans (if_pos c1)
    refine lv_iconst (v := 0) hx hb dX5_hasPlace_18 (by decide) ?_
    exact hret _ _ _ hE zn0 dX5_hasPlace_19
  · have hE := hE.trans (if_neg c1)
    refine lv_iload_n hx hb dX5_hasPlace_4 rfl (lv_at hl 2 rfl) ?_
    refine lv_aload_n hx hb dX5_hasPlace_5 rfl (lv_at hl 0 rfl) ?_
    refine zg5_size S in_X5_hasPlace_5 hK hP 0 rfl (List.mem_of_getElem? (i := 1) rfl) dX5_hasPlace_6 ?_
    refine lv_iload_n hx hb dX5_hasPlace_9 rfl (lv_at hl 1 rfl) ?_
    refine zl5_size S hK hP 0 rfl hx1_4 (f := (g5_size bro)) rfl dX5_hasPlace_10 ?_
    refine lv_icmp_ge (tgt := 18) hx hb dX5_hasPlace_11 (by decide) (fun c11 => ?_) (fun c11 => ?_)
    · have hE := hE.trans (if_pos c11)
      refine lv_iconst (v := 0) hx hb dX5_hasPlace_18 (by decide) ?_
      exact hret _ _ _ hE zn0 dX5_hasPlace_19
    · have hE := hE.trans (if_neg c11)
      refine lv_iconst (v := 1) hx hb dX5_hasPlace_14 (by decide) ?_
      refine lv_goto (tgt := 19) hx hb dX5_hasPlace_15 (by decide) ?_
      exact hret _ _ _ hE zn1 dX5_hasPlace_19

theorem zplace {x y : Int32} {f : Nat → Int32} (h : ∀ t : Nat, t < 4 → f t = -1 ∨ ∃ N : Nat, N ≤ 24 ∧ f t = nI N) (hx : vp_in x 4) (c : ¬ FX5_hasPlace f x y = 0) : vp_in y 24 := by
  obtain ⟨a, ha, rfl⟩ := vp_in_of hx (by decide)
  unfold FX5_hasPlace at c
  rw [nI_clamp (by omega)] at c
  by_cases h1 : y < 0
  · rw [if_pos h1] at c; exact absurd rfl c
  · rw [if_neg h1] at c
    by_cases h2 : f a ≤ y
    · rw [if_pos h2] at c; exact absurd rfl c
    · obtain ⟨j, hj, rfl⟩ := nI_of h1
      rcases h a ha with q | ⟨N, hN, q⟩
      · rw [q] at h2
        exact absurd (Int32.le_iff_toInt_le.mpr (by rw [nI_toInt hj, show (-1 : Int32).toInt = -1 from by decide]; omega)) h2
      · rw [q, nI_leI (by omega) hj] at h2
        exact vp_in_nI (by omega) (by decide)

