/-! History: the array of thirteen courts, by a row of numbers sg: kept[j] is the court at aik (sg j) -/
def w1 (G : zG) (a : Nat → Nat) (aik : Nat → Nat → Nat) (sg : Nat → Nat) (dn un : Int32) : va_W := [(a 0, .inr (1, [.ref (a 1), .int dn, .int un])), (a 1, .inl (G.2.2.1, 13, .inr (.inr (.inr (.inr (fun j => some (aik (sg j) 0)))))))]
def hcs (G : zG) (aik : Nat → Nat → Nat) (y : Nat → S0) : zB := [w0 G (aik 0) (y 0), w0 G (aik 1) (y 1), w0 G (aik 2) (y 2), w0 G (aik 3) (y 3), w0 G (aik 4) (y 4), w0 G (aik 5) (y 5), w0 G (aik 6) (y 6), w0 G (aik 7) (y 7), w0 G (aik 8) (y 8), w0 G (aik 9) (y 9), w0 G (aik 10) (y 10), w0 G (aik 11) (y 11), w0 G (aik 12) (y 12)]
theorem hcs_get {G : zG} {aik : Nat → Nat → Nat} {y : Nat → S0} {k : Nat} (h : k < 13) : (hcs G aik y)[k]? = some (w0 G (aik k) (y k)) := by
  match k, h with
  | 0, _ => rfl
  | 1, _ => rfl
  | 2, _ => rfl
  | 3, _ => rfl
  | 4, _ => rfl
  | 5, _ => rfl
  | 6, _ => rfl
  | 7, _ => rfl
  | 8, _ => rfl
  | 9, _ => rfl
  | 10, _ => rfl
  | 11, _ => rfl
  | 12, _ => rfl
theorem hcs_set {G : zG} {aik : Nat → Nat → Nat} {y : Nat → S0} {k : Nat} {z : S0} (h : k < 13) : (hcs G aik y).set k (w0 G (aik k) z) = hcs G aik (va_up y k z) := by
  refine List.ext_getElem? (fun j => ?_)
  by_cases hj : j < 13
  · rw [hcs_get hj]
    by_cases hk : k = j
    · subst hk
      rw [List.getElem?_set_self (by exact hj)]
      simp [va_up]
    · rw [List.getElem?_set_ne hk, hcs_get hj]
      simp [va_up, Ne.symm hk]
  · rw [List.getElem?_eq_none (by rw [List.length_set]; exact Nat.le_of_not_lt hj), List.getElem?_eq_none (Nat.le_of_not_lt hj)]
theorem hcs_fst0 (G : zG) (aik : Nat → Nat → Nat) (y z : Nat → S0) : (hcs G aik z).map (List.map Prod.fst) = (hcs G aik y).map (List.map Prod.fst) := by
  have h : ∀ a i, (w0 G a (z i)).map Prod.fst = (w0 G a (y i)).map Prod.fst := fun _ _ => rfl
  simp only [hcs, List.map_cons, List.map_nil, h]
section ZHQ
variable {p : Program} {l : Launch} {e : Env} {R : Room} {s : State} {m : MethodId} {args : Array Value} {below : List Frame} {meth : Method} {c : Code} {H : Heap} {locs : List Loc} {cells slots : Nat} {Q : State → Prop}
variable {cc : ByteArray} {pc : Nat} {ls : Array Slot} {rest st0 : List Value} {G : zG} {A : Nat → Prop} {a : Nat} {bs bs' bsc bsc' : zB} {H0 : Heap} {nL : Nat} {Ts : List Cond} {own : String}
theorem zaldq (S : CallFix p m c cc nL s args Ts own) (hK : zK G s) (hP : zP G bs H) (i : Nat) {blk : va_W} (hi : bs[i]? = some blk) (q0 : Nat) {n : Nat} {f : Nat → Option Nat} (ha : blk[q0]? = some (a, .inl (G.2.2.1, n, .inr (.inr (.inr (.inr f)))))) {j : Int32} (hin : vp_in j n) {k : Nat} (hf : f j.toNatClampNeg = some k) (hdg : decode cc pc = .ok (.aaload, 1))
    (kk : W p l e R s m args below meth c H locs cells slots Q (F0 m (pc + 1) ls (.ref k :: rest))) : W p l e R s m args below meth c H locs cells slots Q (F0 m pc ls (.int j :: .ref a :: rest)) :=
  va_aldq S.1 S.2.1 hK.1 (hP.blk hi) q0 1 ha rfl hin hdg (by rw [hf]; exact kk)
theorem zastq (S : CallFix p m c cc nL s args Ts own) (hK : zK G s) (hP : zP G bs H) (hD : zD A bs) (hS : va_S A H0 H locs) (i : Nat) {blk blk' : va_W} (hi : bs[i]? = some blk) (q0 : Nat) {n : Nat} {f : Nat → Option Nat} (ha : blk[q0]? = some (a, .inl (G.2.2.1, n, .inr (.inr (.inr (.inr f)))))) (i2 : Nat) {blk2 : va_W} (hi2 : bs[i2]? = some blk2) {v : Nat} {vs : List Value} (hv : blk2[0]? = some (v, .inr (0, vs))) {j : Int32} (hin : vp_in j n)
    (hnew : blk.set q0 (a, .inl (G.2.2.1, n, .inr (.inr (.inr (.inr (va_up f j.toNatClampNeg (some v))))))) = blk') (hbs : bs.set i blk' = bs') (hdg : decode cc pc = .ok (.aastore, 1))
    (kk : ∀ (H1 : Heap) (locs1 : List Loc), zP G bs' H1 → zD A bs' → va_S A H0 H1 locs1 → W p l e R s m args below meth c H1 locs1 cells slots Q (F0 m (pc + 1) ls rest)) : W p l e R s m args below meth c H locs cells slots Q (F0 m pc ls (.ref v :: .int j :: .ref a :: rest)) := by
  obtain ⟨k, hn1, hn2⟩ := zflat_at hi ha
  obtain ⟨k2, hm1, -⟩ := zflat_at hi2 hv
  refine va_astq S.1 S.2.1 hK.1 hP.flat hD.flat hS k 1 k2 0 (r := (RX0, TX0, 9)) hn1 rfl hm1 rfl hin hdg (fun H1 locs1 hP1 hD1 hS1 => ?_)
  rw [hn2, hnew, hbs] at hP1 hD1
  exact kk H1 locs1 (zP.of hP1) (zD.of_flat hD1) hS1
end ZHQ
/-- sg behind dropOldest's loop, i places moved -/
def zsh (i : Nat) (sg : Nat → Nat) : Nat → Nat := fun j => if j < i then sg (j + 1) else sg j
theorem zsh_0 (sg : Nat → Nat) : zsh 0 sg = sg := by funext j; simp [zsh]
theorem zsh_s {i : Nat} (sg : Nat → Nat) : va_up (zsh i sg) i (sg (i + 1)) = zsh (i + 1) sg := by
  funext j
  by_cases h : j = i
  · subst h; simp [va_up, zsh]
  · simp only [va_up, zsh, if_neg h]
    by_cases h2 : j < i
    · rw [if_pos h2, if_pos (by omega)]
    · rw [if_neg h2, if_neg (by omega)]
theorem zsh_rot (sg : Nat → Nat) : va_up (zsh 12 sg) 12 (sg 0) = zrot sg := by
  funext j
  by_cases h : j = 12
  · subst h; simp [va_up, zrot]
  · simp only [va_up, zsh, zrot, if_neg h]
theorem zsome_up {aik : Nat → Nat → Nat} {sg : Nat → Nat} {i k : Nat} : va_up (fun j => some (aik (sg j) 0)) i (some (aik k 0)) = fun j => some (aik (va_up sg i k j) 0) := by
  funext j
  by_cases h : j = i
  · subst h; simp [va_up]
  · simp [va_up, h]
/-- a court behind copyFrom of another -/
theorem hcs_get2 {G : zG} {aik : Nat → Nat → Nat} {y : Nat → S0} {x0 x1 : va_W} {k : Nat} (h : k < 13) : (x0 :: x1 :: hcs G aik y)[2 + k]? = some (w0 G (aik k) (y k)) := by
  rw [show 2 + k = k + 1 + 1 from by omega, List.getElem?_cons_succ, List.getElem?_cons_succ, hcs_get h]
theorem hcs_same {G : zG} {aik : Nat → Nat → Nat} {y : Nat → S0} {k : Nat} (h : k < 13) : (hcs G aik y).set k (w0 G (aik k) (y k)) = hcs G aik y := by
  rw [hcs_set h]
  congr 1
  funext j
  by_cases e : j = k
  · subst e; simp [va_up]
  · simp [va_up, e]
theorem in_X1_dropOldest_1 : ∀ w ∈ u_ws RX1 TX1 3, w ∈ wsX1_dropOldest := by decide +kernel
def rmX1_dropOldest : Room := { frames := 0, cells := 0, slots := 0, locals := 0 }
set_option maxHeartbeats 4000000 in
set_option maxRecDepth 100000 in
theorem c_X1_dropOldest (l : Launch) (G : zG) (ahi : Nat → Nat) (aik : Nat → Nat → Nat) (sg : Nat → Nat) (y : Nat → S0) (dn un : Int32) (hsg : ∀ j : Nat, j < 13 → sg j < 13) : zV l yX1_dropOldest wsX1_dropOldest rmX1_dropOldest G [.ref (ahi 0)] (w1 G ahi aik sg dn un :: hcs G aik y) (w1 G ahi aik (zrot sg) dn un :: hcs G aik y) := by
  refine zV.mk (cc := cX1_dropOldest) (maxL := 3) (by decide +kernel) rfl (Nat.le_of_ble_eq_true rfl) rfl ?_
  intro p e s m args below meth c Q A ls S hK hD hA hP hl hret
  have hx := S.1
  have hb := S.2.1
  have hS : va_S A s.heap s.heap [] := va_S.rf
  have hl : lv_has ls 3 [(0, .ref (ahi 0))] := hl
  refine lv_aload_n hx hb dX1_dropOldest_0 rfl (lv_at hl 0 rfl) ?_
  refine zget (v := .ref (ahi 1)) S in_X1_dropOldest_1 hK hP 0 rfl 0 rfl (ci := 1) rfl 0 (by decide) (List.mem_of_getElem? (i := 1) rfl) rfl rfl dX1_dropOldest_1 ?_
  refine lv_iconst (v := 0) hx hb dX1_dropOldest_4 (by decide) ?_
  refine zaldq (k := aik (sg 0) 0) S hK hP 0 rfl 1 rfl (zin_k (n := 0) rfl (by decide) (by decide)) rfl dX1_dropOldest_5 ?_
  refine lv_astore_n (lv' := [(1, .ref (aik (sg 0) 0)), (0, .ref (ahi 0))]) hx hb dX1_dropOldest_6 rfl hl (by decide) rfl (fun ls hl => ?_)
  refine lv_iconst (v := 0) hx hb dX1_dropOldest_7 (by decide) ?_
  refine lv_istore_n (lv' := [(2, .int 0), (1, .ref (aik (sg 0) 0)), (0, .ref (ahi 0))]) hx hb dX1_dropOldest_8 rfl hl (by decide) rfl (fun ls hl => ?_)
  have hB : ∀ (n i : Nat) (H : Heap) (locs : List Loc) (ls : Array Slot), i ≤ 12 → 13 ≤ i + n → zP G (w1 G ahi aik (zsh i sg) dn un :: hcs G aik y) H → zD A (w1 G ahi aik (zsh i sg) dn un :: hcs G aik y) → va_S A s.heap H locs → lv_has ls 3 [(2, .int (nI i)), (1, .ref (aik (sg 0) 0)), (0, .ref (ahi 0))] → W p l e rmX1_dropOldest s m args below meth c H locs 0 0 Q (F0 m 9 ls []) := by
    intro n
    induction n with
    | zero =>
      intro i H locs ls h1 h2
      exact absurd h2 (by omega)
    | succ n ih =>
      intro i H locs ls h1 h2 hP hD hS hl
      refine lv_iload_n hx hb dX1_dropOldest_9 rfl (lv_at hl 0 rfl) ?_
      refine lv_bipush (v := 12) hx hb dX1_dropOldest_10 (by decide) ?_
      refine lv_icmp_ge (tgt := 35) hx hb dX1_dropOldest_12 (by decide) (fun c12 => ?_) (fun c12 => ?_)
      · have hi : i = 12 := by
          rw [show (12 : Int32) = nI 12 from rfl, nI_leI (by omega) (by omega)] at c12
          omega
        subst hi
        refine lv_aload_n hx hb dX1_dropOldest_35 rfl (lv_at hl 2 rfl) ?_
        refine zget (v := .ref (ahi 1)) S in_X1_dropOldest_1 hK hP 0 rfl 0 rfl (ci := 1) rfl 0 (by decide) (List.mem_of_getElem? (i := 1) rfl) rfl rfl dX1_dropOldest_36 ?_
        refine lv_bipush (v := 12) hx hb dX1_dropOldest_39 (by decide) ?_
        refine lv_aload_n hx hb dX1_dropOldest_41 rfl (lv_at hl 1 rfl) ?_
        refine zastq (f := fun j => some (aik (zsh 12 sg j) 0)) (bs' := w1 G ahi aik (zrot sg) dn un :: hcs G aik y) S hK hP hD hS 0 rfl 1 rfl (1 + sg 0) (by rw [Nat.add_comm, List.getElem?_cons_succ]; exact hcs_get (hsg 0 (by decide))) rfl (zin_k (n := 12) rfl (by decide) (by decide)) rfl (by rw [show (12 : Int32).toNatClampNeg = 12 from by decide, zsome_up, zsh_rot]; rfl) dX1_dropOldest_42 (fun H locs hP hD hS => ?_)
        exact hret _ _ _ _ _ rfl hP hS dX1_dropOldest_43
      · have hi : i < 12 := zlt (N := 12) rfl (by omega) (by omega) c12
        refine lv_aload_n hx hb dX1_dropOldest_15 rfl (lv_at hl 2 rfl) ?_
        refine zget (v := .ref (ahi 1)) S in_X1_dropOldest_1 hK hP 0 rfl 0 rfl (ci := 1) rfl 0 (by decide) (List.mem_of_getElem? (i := 1) rfl) rfl rfl dX1_dropOldest_16 ?_
        refine lv_iload_n hx hb dX1_dropOldest_19 rfl (lv_at hl 0 rfl) ?_
        refine lv_aload_n hx hb dX1_dropOldest_20 rfl (lv_at hl 2 rfl) ?_
        refine zget (v := .ref (ahi 1)) S in_X1_dropOldest_1 hK hP 0 rfl 0 rfl (ci := 1) rfl 0 (by decide) (List.mem_of_getElem? (i := 1) rfl) rfl rfl dX1_dropOldest_21 ?_
        refine lv_iload_n hx hb dX1_dropOldest_24 rfl (lv_at hl 0 rfl) ?_
        refine lv_iconst (v := 1) hx hb dX1_dropOldest_25 (by decide) ?_
        refine lv_iadd hx hb dX1_dropOldest_26 ?_
        rw [nI_1]
        refine zaldq (k := aik (sg (i + 1)) 0) S hK hP 0 rfl 1 rfl (vp_in_nI (by omega) (by decide)) (by rw [nI_clamp (by omega)]; simp only [zsh]; rw [if_neg (by omega)]) dX1_dropOldest_27 ?_
        refine zastq (f := fun j => some (aik (zsh i sg j) 0)) (bs' := w1 G ahi aik (zsh (i + 1) sg) dn un :: hcs G aik y) S hK hP hD hS 0 rfl 1 rfl (1 + sg (i + 1)) (by rw [Nat.add_comm, List.getElem?_cons_succ]; exact hcs_get (hsg (i + 1) (by omega))) rfl (vp_in_nI (by omega) (by decide)) rfl (by rw [nI_clamp (by omega), zsome_up, zsh_s]; rfl) dX1_dropOldest_28 (fun H locs hP hD hS => ?_)
        refine lv_iinc (v := nI (i + 1)) (lv' := [(2, .int (nI (i + 1))), (1, .ref (aik (sg 0) 0)), (0, .ref (ahi 0))]) hx hb dX1_dropOldest_29 hl (k := 0) rfl (nI_1 i) (by decide) rfl (fun ls hl => ?_)
        refine lv_goto (tgt := 9) hx hb dX1_dropOldest_32 (by decide) ?_
        exact ih (i + 1) _ _ _ (by omega) (by omega) hP hD hS hl
  exact hB 13 0 _ _ ls (by omega) (by omega) (by rw [zsh_0]; exact hP) (by rw [zsh_0]; exact hD) hS hl

theorem w0_fst (G : zG) (a : Nat → Nat) (x y : S0) : (w0 G a x).map Prod.fst = (w0 G a y).map Prod.fst := rfl
theorem hcs_fst {G : zG} {aik : Nat → Nat → Nat} {y z : Nat → S0} {x0 x0' x1 x1' : va_W} (h : ∀ _ : Unit, x0'.map Prod.fst = x0.map Prod.fst ∧ x1'.map Prod.fst = x1.map Prod.fst) : (x0' :: x1' :: hcs G aik z).map (List.map Prod.fst) = (x0 :: x1 :: hcs G aik y).map (List.map Prod.fst) := by
  rw [List.map_cons, List.map_cons, List.map_cons, List.map_cons, (h ()).1, (h ()).2]
  rfl
theorem in_X1_keep_1 : ∀ w ∈ u_ws RX1 TX1 3, w ∈ wsX1_keep := by decide +kernel
def rmX1_keep : Room := { frames := 2, cells := 0, slots := 0, locals := 61 }
set_option maxHeartbeats 4000000 in
set_option maxRecDepth 100000 in
theorem d_X1_keep (l : Launch) (G : zG) (ahi ac : Nat → Nat) (aik : Nat → Nat → Nat) (sg : Nat → Nat) (y : Nat → S0) (bc : S0) (D : Nat) (un : Int32) (hsg : ∀ j : Nat, j < 13 → sg j < 13) (hD12 : D ≤ 12) : zV l yX1_keep wsX1_keep rmX1_keep G [.ref (ahi 0), .ref (ac 0)] (w1 G ahi aik sg (nI D) un :: w0 G ac bc :: hcs G aik y) (w1 G ahi aik (zkS sg D) (nI (zkD D)) 0 :: w0 G ac bc :: hcs G aik (va_up y (zkS sg D (zkD D)) (zcp (y (zkS sg D (zkD D))) bc))) := by
  refine zV.mk (cc := cX1_keep) (maxL := 2) (by decide +kernel) rfl (Nat.le_of_ble_eq_true rfl) (hcs_fst (fun _ => ⟨rfl, rfl⟩)) ?_
  intro p e s m args below meth c Q A ls S hK hD hA hP hl hret
  have hx := S.1
  have hb := S.2.1
  have hS : va_S A s.heap s.heap [] := va_S.rf
  have hl : lv_has ls 2 [(0, .ref (ahi 0)), (1, .ref (ac 0))] := hl
  have hB : ∀ (sg2 : Nat → Nat) (D2 : Nat) (H : Heap) (locs : List Loc) (ls : Array Slot), sg2 = zkS sg D → D2 = zkD D → D2 ≤ 12 → sg2 D2 < 13 → zP G (w1 G ahi aik sg2 (nI D2) un :: w0 G ac bc :: hcs G aik y) H → zD A (w1 G ahi aik sg2 (nI D2) un :: w0 G ac bc :: hcs G aik y) → va_S A s.heap H locs → lv_has ls 2 [(0, .ref (ahi 0)), (1, .ref (ac 0))] → W p l e rmX1_keep s m args below meth c H locs 0 0 Q (F0 m 26 ls []) := by
    intro sg2 D2 H locs ls e1 e2 h12 hk hP hD hS hl
    refine lv_aload_n hx hb dX1_keep_26 rfl (lv_at hl 0 rfl) ?_
    refine lv_iconst (v := 0) hx hb dX1_keep_27 (by decide) ?_
    refine zput (v := .int 0) (bs' := w1 G ahi aik sg2 (nI D2) 0 :: w0 G ac bc :: hcs G aik y) S in_X1_keep_1 tyX1 tyX1_ok nmX1 hK hP hD hS 0 rfl 0 rfl (ci := 1) rfl 2 (by decide) (List.mem_of_getElem? (i := 2) rfl) rfl rfl rfl rfl (Nat.le_of_ble_eq_true rfl) rfl rfl dX1_keep_28 (fun H locs hP hD hS => ?_)
    refine lv_aload_n hx hb dX1_keep_31 rfl (lv_at hl 0 rfl) ?_
    refine zget (v := .ref (ahi 1)) S in_X1_keep_1 hK hP 0 rfl 0 rfl (ci := 1) rfl 0 (by decide) (List.mem_of_getElem? (i := 3) rfl) rfl rfl dX1_keep_32 ?_
    refine lv_aload_n hx hb dX1_keep_35 rfl (lv_at hl 0 rfl) ?_
    refine zget (v := .int (nI D2)) S in_X1_keep_1 hK hP 0 rfl 0 rfl (ci := 1) rfl 1 (by decide) (List.mem_of_getElem? (i := 1) rfl) rfl rfl dX1_keep_36 ?_
    refine zaldq (k := aik (sg2 D2) 0) S hK hP 0 rfl 1 rfl (vp_in_nI (by omega) (by decide)) (by rw [nI_clamp (by omega)]) dX1_keep_39 ?_
    refine lv_aload_n hx hb dX1_keep_40 rfl (lv_at hl 1 rfl) ?_
    have hc := c_X0_copyFrom l G (aik (sg2 D2)) ac (y (sg2 D2)) bc _ rfl
    have hsub : [2 + (sg2 D2), 1].map (fun i => (w1 G ahi aik sg2 (nI D2) 0 :: w0 G ac bc :: hcs G aik y)[i]?) = ([w0 G (aik (sg2 D2)) (y (sg2 D2)), w0 G ac bc] : zB).map some := (by simp only [List.map_cons, List.map_nil]; rw [show 2 + (sg2 D2) = (sg2 D2) + 1 + 1 from by omega, List.getElem?_cons_succ, List.getElem?_cons_succ, hcs_get hk]; rfl)
    have hnd : va_nd [2 + (sg2 D2), 1] = true := by simp [va_nd]; try omega
    refine zgoV (bs' := w1 G ahi aik sg2 (nI D2) 0 :: w0 G ac bc :: hcs G aik (va_up y (sg2 D2) (zcp (y (sg2 D2)) bc))) hc [2 + (sg2 D2), 1] hsub hnd (by show ((w1 G ahi aik sg2 (nI D2) 0 :: w0 G ac bc :: hcs G aik y).set (2 + (sg2 D2)) _).set 1 _ = _; rw [show 2 + (sg2 D2) = (sg2 D2) + 1 + 1 from by omega, List.set_cons_succ, List.set_cons_succ, List.set_cons_succ, hcs_set hk]; rfl) hP hD hS hA (va_runV (As := [.ref (ac 0)]) (rest := []) S (hc.2 _) (cwV 1 S.2.2.2.2 gX1_keep_X0_copyFrom rfl rfl rfl (by decide +kernel) ⟨Nat.le_of_ble_eq_true rfl, Nat.le_of_ble_eq_true rfl⟩) (zpV hK hP hD hsub hnd (2 + (sg2 D2)) (hcs_get2 hk) rfl (ci := 0) rfl) rfl rfl hl.1 rfl (lv_room (Nat.le_of_ble_eq_true rfl)) dX1_keep_41 ⟨Nat.zero_le _, Nat.zero_le _⟩) (fun H locs hP hD hS => ?_)
    exact hret _ _ _ _ _ (by rw [← e1, ← e2]) hP hS dX1_keep_44
  refine lv_aload_n hx hb dX1_keep_0 rfl (lv_at hl 0 rfl) ?_
  refine zget (v := .int (nI D)) S in_X1_keep_1 hK hP 0 rfl 0 rfl (ci := 1) rfl 1 (by decide) (List.mem_of_getElem? (i := 1) rfl) rfl rfl dX1_keep_1 ?_
  refine lv_bipush (v := 12) hx hb dX1_keep_4 (by decide) ?_
  refine lv_icmp_ge (tgt := 22) hx hb dX1_keep_6 (by decide) (fun c6 => ?_) (fun c6 => ?_)
  · have h12 : D = 12 := by
      rw [show (12 : Int32) = nI 12 from rfl, nI_leI (by omega) (by omega)] at c6
      omega
    subst h12
    refine lv_aload_n hx hb dX1_keep_22 rfl (lv_at hl 0 rfl) ?_
    have hc := c_X1_dropOldest l G ahi aik sg y (nI 12) un hsg
    refine zgoV (bs' := w1 G ahi aik (zrot sg) (nI 12) un :: w0 G ac bc :: hcs G aik y) hc [0, 2, 3, 4, 5, 6, 7, 8, 9, 10, 11, 12, 13, 14] rfl rfl rfl hP hD hS hA (va_runV (As := []) (rest := []) S (hc.2 _) (cwV 0 S.2.2.2.2 gX1_keep_X1_dropOldest rfl rfl rfl (by decide +kernel) ⟨Nat.le_of_ble_eq_true rfl, Nat.le_of_ble_eq_true rfl⟩) (zpV hK hP hD (is := [0, 2, 3, 4, 5, 6, 7, 8, 9, 10, 11, 12, 13, 14]) rfl rfl 0 rfl rfl (ci := 1) rfl) rfl rfl hl.1 rfl (lv_room (Nat.le_of_ble_eq_true rfl)) dX1_keep_23 ⟨Nat.zero_le _, Nat.zero_le _⟩) (fun H locs hP hD hS => ?_)
    exact hB (zrot sg) 12 _ _ _ (by simp [zkS]) (by simp [zkD]) (Nat.le_refl 12) (by simp [zrot]; exact hsg 0 (by decide)) hP hD hS hl
  · have h12 : D < 12 := zlt (N := 12) rfl (by omega) (by omega) c6
    refine lv_aload_n hx hb dX1_keep_9 rfl (lv_at hl 0 rfl) ?_
    refine lv_dup hx hb dX1_keep_10 rfl ?_
    refine zget (v := .int (nI D)) S in_X1_keep_1 hK hP 0 rfl 0 rfl (ci := 1) rfl 1 (by decide) (List.mem_of_getElem? (i := 1) rfl) rfl rfl dX1_keep_11 ?_
    refine lv_iconst (v := 1) hx hb dX1_keep_14 (by decide) ?_
    refine lv_iadd hx hb dX1_keep_15 ?_
    rw [nI_1]
    refine zput (v := .int (nI (D + 1))) (bs' := w1 G ahi aik sg (nI (D + 1)) un :: w0 G ac bc :: hcs G aik y) S in_X1_keep_1 tyX1 tyX1_ok nmX1 hK hP hD hS 0 rfl 0 rfl (ci := 1) rfl 1 (by decide) (List.mem_of_getElem? (i := 1) rfl) rfl rfl rfl rfl (Nat.le_of_ble_eq_true rfl) rfl rfl dX1_keep_16 (fun H locs hP hD hS => ?_)
    refine lv_goto (tgt := 26) hx hb dX1_keep_19 (by decide) ?_
    exact hB sg (D + 1) _ _ _ (by simp [zkS, h12]) (by simp [zkD, h12]) (by omega) (hsg _ (by omega)) hP hD hS hl


theorem zkS_lt {sg : Nat → Nat} {D : Nat} (h : ∀ j : Nat, j < 13 → sg j < 13) : ∀ j : Nat, j < 13 → zkS sg D j < 13 := fun j hj => by
  unfold zkS
  split
  · exact h j hj
  · unfold zrot
    split
    · exact h _ (by omega)
    · split
      · exact h 0 (by decide)
      · exact h j hj
theorem zkD_le {D : Nat} (h : D ≤ 12) : zkD D ≤ 12 := by
  unfold zkD
  split <;> omega
theorem c_X1_keep (l : Launch) (G : zG) (ahi : Nat → Nat) (aik : Nat → Nat → Nat) (ac : Nat → Nat) (sg : Nat → Nat) (y : Nat → S0) (D : Nat) (un : Int32) (bc : S0) (hs_hi_sg : ∀ j : Nat, j < 13 → sg j < 13) (hd_hi_D : D ≤ 12) (T : (Nat → Nat) × (Nat → S0) × Nat × Int32) (hT : FX1_keep sg y D (g0_kind bc) (g0_head bc) (g0_body bc) (g0_excepts bc) (g0_power bc) (g0_beats bc) (g0_facts bc) (g0_size bc) (g0_shut bc) = T) : zV l yX1_keep wsX1_keep rmX1_keep G [.ref (ahi 0), .ref (ac 0)] (w1 G ahi aik sg (nI D) un :: w0 G ac bc :: hcs G aik y) (w1 G ahi aik T.1 (nI T.2.2.1) T.2.2.2 :: w0 G ac bc :: hcs G aik T.2.1) := by
  subst hT
  exact d_X1_keep l G ahi ac aik sg y bc D un hs_hi_sg hd_hi_D

