/-! a court is made -/
def zcM (s : zMS) : S0 := s0_shut (s0_size (s0_facts (s0_beats (s0_power (s0_excepts (s0_body (s0_head (s0_kind zz0 s.2.1) s.2.2.1) s.2.2.2.1) s.2.2.2.2.1) s.2.2.2.2.2.1) s.2.2.2.2.2.2.1) s.2.2.2.2.2.2.2.1) s.2.2.2.2.2.2.2.2.1) s.2.2.2.2.2.2.2.2.2.1
def zMpre (G : zG) (b L : Nat) (xs : Nat → Int32) (sz : Nat) (U : State) : Prop := U.heap.size = sz ∧ zXp b L xs U ∧ zK G U ∧ zAO U
/-- the court that is made, and the world that it stands in -/
def zMpost (G : zG) (NR sz : Nat) (a : Nat) (H : Heap) : Prop := ∃ (arc ac ard av awd apa ahi : Nat → Nat) (aik : Nat → Nat → Nat) (ot oth och ok oro : Nat) (s : zMS), a = arc 0 ∧ zM2 NR 6 s ∧ zP G (w8 G arc (ac 0) (ard 0) ot oth och (ahi 0) ok (awd 0) (apa 0) oro (s8_isSettled zz8 s.1) :: w0 G ac (zcM s) :: w4 G ard (av 0) zz4 :: w6 G av zz6 :: w7 G awd zz7 :: w2 G apa zz2 :: w1 G ahi aik s.2.2.2.2.2.2.2.2.2.2.1 (nI s.2.2.2.2.2.2.2.2.2.2.2.2.1) s.2.2.2.2.2.2.2.2.2.2.2.2.2 :: hcs G aik s.2.2.2.2.2.2.2.2.2.2.2.1) H ∧ zD (fun q : Nat => sz ≤ q) (w8 G arc (ac 0) (ard 0) ot oth och (ahi 0) ok (awd 0) (apa 0) oro (s8_isSettled zz8 s.1) :: w0 G ac (zcM s) :: w4 G ard (av 0) zz4 :: w6 G av zz6 :: w7 G awd zz7 :: w2 G apa zz2 :: w1 G ahi aik s.2.2.2.2.2.2.2.2.2.2.1 (nI s.2.2.2.2.2.2.2.2.2.2.2.2.1) s.2.2.2.2.2.2.2.2.2.2.2.2.2 :: hcs G aik s.2.2.2.2.2.2.2.2.2.2.2.1)
set_option maxHeartbeats 4000000 in
set_option maxRecDepth 100000 in
theorem c_L_made (l : Launch) (G : zG) {b L : Nat} {xs : Nat → Int32} (hL : L < 2 ^ 31) {NR : Nat} (hNR : NR ≤ 10) (sz : Nat) : Met l yL_made wsL_made rmL_made (va_Pc [.ref b, .int (nI NR)] (zMpre G b L xs sz)) (va_Qr (fun _ : Unit => True) (fun _ a t => zMpost G NR sz a t.heap) (fun q : Nat => sz ≤ q)) 163 4896 (fun q : Nat => sz ≤ q) := by
  refine Met.ofW (cc := cL_made) (maxL := 9) (ret := some (.object "RuleCourt")) (by decide +kernel) rfl ?_
  intro p e s m args below meth c s₁ B hml hv
  obtain ⟨rfl, hsz, ⟨hX, hbl⟩, hK, hAO⟩ := hv
  have hx := B.exec
  have hb := B.bytes
  have hr := B.returns
  have hts := atoms_spec (ws := wsL_made) B.pre
  have hown : s.vm.findClass RL = some m.cls := findClass_of_methodNamed B.named
  have hlocks := B.notSynchronized
  have S : CallFix p m c cL_made 9 s _ wsL_made RL := ⟨hx, hb, hml, hown, hts⟩
  subst hsz
  have hA : ∀ q : Nat, s.heap.size ≤ q → (fun q : Nat => s.heap.size ≤ q) q := fun q h => h
  have hbA : ¬ (fun q : Nat => s.heap.size ≤ q) b := Nat.not_le.mpr hbl
  have hS : va_S (fun q : Nat => s.heap.size ≤ q) s.heap s.heap [] := va_S.rf
  have hP : va_P G.1 vwCl [] s.heap := fun k q h => by simp at h
  have hD : va_D (fun q : Nat => s.heap.size ≤ q) [] := ⟨fun i j p q h => by simp at h, fun k q h => by simp at h⟩
  have hl := lv_entry ([.ref b, .int (nI NR)]) (n := 9) (Nat.le_of_ble_eq_true rfl)
  rw [lg_entry_eq]
  generalize (lg_sl ([.ref b, .int (nI NR)]) ++ List.replicate (9 - (lg_sl ([.ref b, .int (nI NR)])).length) Slot.unset).toArray = ls at hl ⊢
  have hl : lv_has ls 9 [(0, .ref b), (1, .int (nI NR))] := hl
  refine zc_newP (ci := 8) (fs := [.null, .null, .null, .null, .null, .null, .null, .null, .null, .null, .int 0, .int 0]) (T := TX8) (N := 12) S (by decide +kernel) tyX8 tyX8_ok (by decide +kernel) (by decide +kernel) (by decide +kernel) hAO hK hP hD hS hA rfl zdf8 (c_X8_init l G (c_X5_init l G)) (cwI 0 S.2.2.2.2 gL_made_X8_init rfl rfl rfl (S.2.2.2.2 (.initialized RX8) (by decide +kernel)) (S.2.2.2.2 (.methodLink RL 10 yX8_init) (by decide +kernel)) (S.2.2.2.2 (.instanceMethod yX8_init) (by decide +kernel)) rfl (by decide +kernel) ⟨Nat.le_of_ble_eq_true rfl, Nat.le_of_ble_eq_true rfl⟩) hl.1 (Nat.le_of_ble_eq_true rfl) (Nat.le_of_ble_eq_true rfl) (Nat.le_of_ble_eq_true rfl) dL_made_0 dL_made_3 dL_made_4 (fun q8 wq8 H locs hw8 hP hD hS => ?_)
  obtain ⟨aq1, aq2, vq2, aq3, aq4, vq4, aq5, vq5, aq6, bq6, aq7, aq8, aq9, aq10, rfl⟩ := hw8
  refine lv_astore_n (lv' := [(2, .ref q8), (0, .ref b), (1, .int (nI NR))]) hx hb dL_made_7 rfl hl (by decide) rfl (fun ls hl => ?_)
  have ew : [] ++ ((((((((((w8 G (zad [q8]) (aq1 0) (aq2 0) (aq3 0) (aq4 0) (aq5 0) (aq6 0) (aq7 0) (aq8 0) (aq9 0) (aq10 0) zz8 ++ w0 G aq1 zz0) ++ (w4 G aq2 (vq2 0) zz4 ++ w6 G vq2 zz6)) ++ w0 G aq3 zz0) ++ (w4 G aq4 (vq4 0) zz4 ++ w6 G vq4 zz6)) ++ (w3 G aq5 (vq5 0) zz3 ++ w6 G vq5 zz6)) ++ (w1 G aq6 bq6 (fun j => j) 0 0 ++ (hcs G bq6 (fun _ => zz0)).flatten)) ++ w0 G aq7 zz0) ++ w7 G aq8 zz7) ++ w2 G aq9 zz2) ++ w5 G aq10 zz5) = (w8 G (zad [q8]) (aq1 0) (aq2 0) (aq3 0) (aq4 0) (aq5 0) (aq6 0) (aq7 0) (aq8 0) (aq9 0) (aq10 0) zz8 :: w0 G aq1 zz0 :: w4 G aq2 (vq2 0) zz4 :: w6 G vq2 zz6 :: w0 G aq3 zz0 :: w4 G aq4 (vq4 0) zz4 :: w6 G vq4 zz6 :: w3 G aq5 (vq5 0) zz3 :: w6 G vq5 zz6 :: w1 G aq6 bq6 (fun j => j) 0 0 :: (hcs G bq6 (fun _ => zz0) ++ [w0 G aq7 zz0, w7 G aq8 zz7, w2 G aq9 zz2, w5 G aq10 zz5]) : zB).flatten := by
    simp only [List.flatten_cons, List.flatten_append, List.flatten_nil, List.append_assoc, List.nil_append, List.append_nil, List.cons_append]
  rw [ew] at hP hD
  have hP2 : zP G (w8 G (zad [q8]) (aq1 0) (aq2 0) (aq3 0) (aq4 0) (aq5 0) (aq6 0) (aq7 0) (aq8 0) (aq9 0) (aq10 0) zz8 :: w0 G aq1 zz0 :: w4 G aq2 (vq2 0) zz4 :: w6 G vq2 zz6 :: w7 G aq8 zz7 :: w2 G aq9 zz2 :: w1 G aq6 bq6 (fun j => j) (nI 0) 0 :: hcs G bq6 (fun _ => zz0)) H := zP.sub (zP.of hP) (is := [0, 1, 2, 3, 24, 25, 9, 10, 11, 12, 13, 14, 15, 16, 17, 18, 19, 20, 21, 22]) rfl
  have hD2 : zD (fun q : Nat => s.heap.size ≤ q) (w8 G (zad [q8]) (aq1 0) (aq2 0) (aq3 0) (aq4 0) (aq5 0) (aq6 0) (aq7 0) (aq8 0) (aq9 0) (aq10 0) zz8 :: w0 G aq1 zz0 :: w4 G aq2 (vq2 0) zz4 :: w6 G vq2 zz6 :: w7 G aq8 zz7 :: w2 G aq9 zz2 :: w1 G aq6 bq6 (fun j => j) (nI 0) 0 :: hcs G bq6 (fun _ => zz0)) := zD.sub (zD.of_flat hD) [0, 1, 2, 3, 24, 25, 9, 10, 11, 12, 13, 14, 15, 16, 17, 18, 19, 20, 21, 22] (by decide) rfl
  obtain ⟨st, hst, est⟩ := m_made (rc_isSettled := g8_isSettled zz8) (c_kind := g0_kind zz0) (c_head := g0_head zz0) (c_body := g0_body zz0) (c_excepts := g0_excepts zz0) (c_power := g0_power zz0) (c_beats := g0_beats zz0) (c_facts := g0_facts zz0) (c_size := g0_size zz0) (c_shut := g0_shut zz0) (hi_sg := fun j => j) (hi_y := fun _ => zz0) (hi_D := 0) (hi_un := 0) (sc := fun j => if j < L then xs j else 40503 * nI j) hNR ⟨rfl, fun r hr => absurd hr (Nat.not_lt_zero r), rfl, rfl, fun q _ => zb_0 q, fun r _ => vp_in_nI (n := 0) (N := 20) (by decide) (by decide), fun j h => h, Nat.zero_le _⟩
  refine seg_L_made_1 G (zad [q8]) aq1 aq2 vq2 aq8 aq9 aq6 bq6 (aq3 0) (aq4 0) (aq5 0) (aq7 0) (aq10 0) zz8 zz0 zz4 zz6 zz7 zz2 (fun j => j) (fun _ => zz0) 0 0 NR b L xs hL hX hbl hbA (nI NR) (fun j => if j < L then xs j else 40503 * nI j) rfl hNR ⟨0, by decide, rfl⟩ (fun _ => rfl) (fun j h => h) (Nat.zero_le _) _ est rfl S hK hA (Nat.le_of_ble_eq_true rfl) (Nat.le_of_ble_eq_true rfl) hP2 hD2 hS (lv_sub hl [1, 2, 0] rfl) (fun H locs ls hP hD hS hl => ?_)
  refine lv_aload_n hx hb dL_made_341 rfl (lv_at hl 0 rfl) ?_
  exact W.aret hx hb hr (Or.inl ⟨"RuleCourt", rfl⟩) (Or.inr ⟨_, rfl⟩) (fun t ht hW => ⟨⟨(), _, rfl, trivial, zad [q8], aq1, aq2, vq2, aq8, aq9, aq6, bq6, aq3 0, aq4 0, aq5 0, aq7 0, aq10 0, st, rfl, hst, by rw [ht]; exact hP, hD⟩, hS.F ht⟩) hS.2.2 dL_made_342
