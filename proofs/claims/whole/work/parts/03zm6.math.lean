/-! the class's rounds beside the reference's -/
section ZNOTE
variable {rd_last : Int32} {rd_came v_known v_fresh : Nat → Int32}
theorem k_note32 {rc2 : (Int32) → (Nat → Int32) → (Nat → Int32) → ((Nat → Int32) × (Nat → Int32))} {kt2 : (Nat → Int32) → (Nat → Int32) → ((Nat → Int32) × (Nat → Int32))} {kt32 : (Int32) → (Nat → Int32) → (Nat → Int32) → ((Nat → Int32) × (Nat → Int32))} {t : Nat} {m : Int32} (ht : t < 4) (came known : Nat → Int32) : (FX4_note_32 rd_came rd_last v_known v_fresh) rc2 kt2 kt32 21 (nI t) m 0 came known = kt32 (nI t) (zcm came m rd_last t 20) known := by
  obtain ⟨s, hs, e⟩ := zloopI (L := fun n x c => (FX4_note_32 rd_came rd_last v_known v_fresh) rc2 kt2 kt32 n (nI t) m x c known) (kt := fun c => kt32 (nI t) c known) 20 (I := fun i c => c = zcm came m rd_last t i) (by
    intro n c _
    show (FX4_note_32 rd_came rd_last v_known v_fresh) rc2 kt2 kt32 (n + 1) (nI t) m (nI 20) c known = _
    rw [FX4_note_32, if_pos (show (20 : Int32) ≤ nI 20 by decide)]) (by
    intro n i c hi h
    subst h
    show ∃ s' : Nat → Int32, _ ∧ (FX4_note_32 rd_came rd_last v_known v_fresh) rc2 kt2 kt32 (n + 1) (nI t) m (nI i) (zcm came m rd_last t i) known = (FX4_note_32 rd_came rd_last v_known v_fresh) rc2 kt2 kt32 n (nI t) m (nI (i + 1)) s' known
    rw [FX4_note_32, if_neg (show ¬ (20 : Int32) ≤ nI i from nI_ge (b := 20) hi (by decide))]
    simp only [bnd, zh8 (show i < 32 by omega), zi0, nI_1, z20' ht hi]
    cases h : zb m i
    · exact ⟨_, zcm_n h, rfl⟩
    · exact ⟨_, zcm_y h, rfl⟩) 21 0 came (by omega) (by omega) (zcm_0 _ _ _ _).symm
  subst hs
  exact e
theorem k_note : ∃ s : (Nat → Int32) × (Nat → Int32), ((∀ t, s.2 t = if t < 4 then v_known t ||| v_fresh t else v_known t) ∧ ∀ t q, t < 4 → q < 20 → s.1 (20 * t + q) = if zb (v_fresh t) q = true then rd_last else rd_came (20 * t + q)) ∧ (FX4_note rd_came rd_last v_known v_fresh) = s := by
  unfold FX4_note
  refine (zloopI (S := (Nat → Int32) × (Nat → Int32)) (L := fun n x s => (FX4_note_2 rd_came rd_last v_known v_fresh) ((FX4_note_73 rd_came rd_last v_known v_fresh)) n x s.1 s.2) (kt := fun s => s) 4 (I := fun i s => (∀ t, s.2 t = if t < i then v_known t ||| v_fresh t else v_known t) ∧ ∀ t q, t < 4 → q < 20 → s.1 (20 * t + q) = if t < i ∧ zb (v_fresh t) q = true then rd_last else rd_came (20 * t + q)) ?_ ?_ 5 0 (rd_came, v_known) (by omega) (by omega) ⟨fun t => by rw [if_neg (Nat.not_lt_zero t)], fun t q _ _ => by rw [if_neg (fun z => absurd z.1 (Nat.not_lt_zero t))]⟩).imp (fun s h => ⟨⟨h.1.1, fun t q ht hq => ?_⟩, h.2⟩)
  · intro n s _
    show (FX4_note_2 rd_came rd_last v_known v_fresh) ((FX4_note_73 rd_came rd_last v_known v_fresh)) (n + 1) (nI 4) s.1 s.2 = s
    rw [FX4_note_2, if_pos (show (4 : Int32) ≤ nI 4 by decide)]; rfl
  · intro n i s hi ⟨h1, h2⟩
    show ∃ s' : (Nat → Int32) × (Nat → Int32), _ ∧ (FX4_note_2 rd_came rd_last v_known v_fresh) ((FX4_note_73 rd_came rd_last v_known v_fresh)) (n + 1) (nI i) s.1 s.2 = (FX4_note_2 rd_came rd_last v_known v_fresh) ((FX4_note_73 rd_came rd_last v_known v_fresh)) n (nI (i + 1)) s'.1 s'.2
    rw [FX4_note_2, if_neg (show ¬ (4 : Int32) ≤ nI i from nI_ge (b := 4) hi (by decide)), k_note32 hi, nI_clamp (show i < 2 ^ 31 by omega)]
    refine ⟨(zcm s.1 (v_fresh i) rd_last i 20, upd s.2 i (s.2 i ||| v_fresh i)), ⟨fun t => ?_, fun t q ht hq => ?_⟩, by unfold FX4_note_67; rw [nI_1]⟩
    · show upd s.2 i (s.2 i ||| v_fresh i) t = _
      by_cases e : t = i
      · subst e
        rw [pk_us, h1 t, if_neg (Nat.lt_irrefl t), if_pos (Nat.lt_succ_self t)]
      · rw [pk_un e, h1 t]
        by_cases c : t < i
        · rw [if_pos c, if_pos (by omega)]
        · rw [if_neg c, if_neg (by omega)]
    · show zcm s.1 (v_fresh i) rd_last i 20 (20 * t + q) = _
      rw [zcm_at hq, h2 t q ht hq]
      by_cases e : t = i
      · subst e
        by_cases h : zb (v_fresh t) q = true
        · rw [if_pos ⟨rfl, h⟩, if_pos ⟨Nat.lt_succ_self t, h⟩]
        · rw [if_neg (fun z => h z.2), if_neg (fun z => h z.2), if_neg (fun z => h z.2)]
      · rw [if_neg (fun z => e z.1)]
        by_cases c : t < i ∧ zb (v_fresh t) q = true
        · rw [if_pos c, if_pos ⟨by omega, c.2⟩]
        · rw [if_neg c, if_neg (fun z => c ⟨by omega, z.2⟩)]
  · rw [h.1.2 t q ht hq]
    by_cases c : zb (v_fresh t) q = true
    · rw [if_pos ⟨ht, c⟩, if_pos c]
    · rw [if_neg (fun z => c z.2), if_neg c]
end ZNOTE
/-- what came did so by what came ahead -/
def zJ (kd hd bd ex sg of ov : Nat → Int32) (fa : Int32) (N k : Nat) (came known : Nat → Int32) : Prop :=
  ∀ t q, t < 4 → q < 20 → ∃ c : Nat, c ≤ k ∧ came (20 * t + q) = nI c ∧ (zb (known t) q = decide (0 < c)) ∧ (0 < c → ∀ K : Nat → Int32, (∀ t', t' < 4 → zM (K t') 20 (fun q' => decide (0 < came (20 * t' + q')) && decide (came (20 * t' + q') < nI c))) → aNew kd hd bd ex sg of ov fa N K t q = true)
theorem zbits_20 {x : Int32} (h : zbits x = 20) : ∀ q, q < 20 → zb x q = true := by
  intro q hq
  unfold zbits at h
  have h2 : (List.range 20).countP (fun q => zb x q) = (List.range 20).length := by rw [h, List.length_range]
  exact List.countP_eq_length.mp h2 q (List.mem_range.mpr hq)
theorem zcnt_all {K : Nat → Int32} (h : 80 ≤ zcnt K) : ∀ t q, t < 4 → q < 20 → zb (K t) q = true := by
  have h0 := zbits_le (K 0)
  have h1 := zbits_le (K 1)
  have h2 := zbits_le (K 2)
  have h3 := zbits_le (K 3)
  unfold zcnt at h
  intro t q ht hq
  rcases (show t = 0 ∨ t = 1 ∨ t = 2 ∨ t = 3 by omega) with rfl | rfl | rfl | rfl
  · exact zbits_20 (by omega) q hq
  · exact zbits_20 (by omega) q hq
  · exact zbits_20 (by omega) q hq
  · exact zbits_20 (by omega) q hq
theorem zcnt_grow {k k2 f : Nat → Int32} (hA : ∀ t : Nat, t < 4 → zfr (k t) (f t)) (hB : ∃ t : Nat, t < 4 ∧ ¬ f t = 0) (hD : ∀ t : Nat, t < 4 → k2 t = k t ||| f t) : zcnt k + 1 ≤ zcnt k2 := by
  obtain ⟨t, ht, hf⟩ := hB
  have m0 := zbits_or (k 0) (f 0)
  have m1 := zbits_or (k 1) (f 1)
  have m2 := zbits_or (k 2) (f 2)
  have m3 := zbits_or (k 3) (f 3)
  have g := zbits_grow (hA t ht) hf
  unfold zcnt
  rw [hD 0 (by decide), hD 1 (by decide), hD 2 (by decide), hD 3 (by decide)]
  rcases (show t = 0 ∨ t = 1 ∨ t = 2 ∨ t = 3 by omega) with rfl | rfl | rfl | rfl <;> omega
theorem zJ_step {kd hd bd ex sg of ov : Nat → Int32} {fa : Int32} {N k : Nat} {came known came2 known2 f : Nat → Int32} (hk : k < 80) (h : zJ kd hd bd ex sg of ov fa N k came known) (hL : ∀ t, t < 4 → zLo (known t)) (hf : ∀ t, t < 4 → zM (f t) 20 (aNew kd hd bd ex sg of ov fa N known t)) (hkn : ∀ t, t < 4 → known2 t = known t ||| f t) (hc : ∀ t q, t < 4 → q < 20 → came2 (20 * t + q) = if zb (f t) q = true then nI (k + 1) else came (20 * t + q)) : zJ kd hd bd ex sg of ov fa N (k + 1) came2 known2 := by
  have hnk : ∀ t q, t < 4 → zb (f t) q = true → zb (known t) q = false := fun t q ht hq => by
    by_cases c : q < 20
    · rw [zM_b (hf t ht) c] at hq
      unfold aNew at hq
      cases hz : zb (known t) q
      · rfl
      · rw [hz] at hq; exact absurd hq (by simp)
    · rw [zM_o (hf t ht) (by omega)] at hq; cases hq
  intro t q ht hq
  obtain ⟨c, h1, h2, h3, h4⟩ := h t q ht hq
  by_cases hz : zb (f t) q = true
  · refine ⟨k + 1, Nat.le_refl _, by rw [hc t q ht hq, if_pos hz], by rw [hkn t ht, zb_or, hz, Bool.or_true, decide_eq_true (Nat.succ_pos k)], fun _ K hK => ?_⟩
    have e : ∀ t', t' < 4 → K t' = known t' := fun t' ht' => by
      refine zb_ext (fun q' _ => ?_)
      by_cases hq' : q' < 20
      · rw [zM_b (hK t' ht') hq']
        obtain ⟨c', g1, g2, g3, -⟩ := h t' q' ht' hq'
        rw [hc t' q' ht' hq', g3]
        by_cases hz' : zb (f t') q' = true
        · rw [if_pos hz', decide_eq_false (nI_nlt (Nat.le_refl _) (by omega)), Bool.and_false]
          have := hnk t' q' ht' hz'
          rw [g3] at this
          exact this.symm
        · rw [if_neg hz', g2, decide_eq_true (nI_lt (show c' < k + 1 by omega) (by omega)), Bool.and_true]
          exact decide_eq_decide.mpr (by rw [show (0 : Int32) = nI 0 from rfl, nI_ltI (by decide) (by omega)])
      · rw [zM_o (hK t' ht') (by omega), hL t' ht' q' (by omega)]
    rw [aNew_congr e ht q, ← zM_b (hf t ht) hq]
    exact hz
  · have hz0 : zb (f t) q = false := by simpa using hz
    refine ⟨c, by omega, by rw [hc t q ht hq, if_neg hz]; exact h2, by rw [hkn t ht, zb_or, hz0, Bool.or_false]; exact h3, fun h0 K hK => h4 h0 K (fun t' ht' => zM_ext (hK t' ht') (fun q' hq' => ?_))⟩
    obtain ⟨c', g1, g2, g3, -⟩ := h t' q' ht' hq'
    rw [hc t' q' ht' hq']
    by_cases hz' : zb (f t') q' = true
    · rw [if_pos hz', decide_eq_false (nI_nlt (show c ≤ k + 1 by omega) (by omega)), Bool.and_false, g2]
      have := hnk t' q' ht' hz'
      rw [g3] at this
      have hc0 : c' = 0 := by
        have := of_decide_eq_false this
        omega
      rw [hc0]
      rfl
    · rw [if_neg hz']
/-- the class's answer beside the reference's -/
def zEnd (kd hd bd ex sg of ov : Nat → Int32) (fa : Int32) (N : Nat) (T : ((Nat → Int32) × (Int32) × (Nat → Int32) × (Nat → Int32) × (Nat → Int32) × (Nat → Int32) × (Nat → Int32) × (Nat → Int32) × (Int32) × (Int32) × (Int32) × (Int32) × (Int32))) (U : ((Nat → Int32) × (Nat → Int32) × (Nat → Int32) × (Int32))) : Prop :=
  (∀ j, j < 80 → T.1 j = U.1 j) ∧ (∀ t, t < 4 → T.2.2.1 t = U.2.1 t) ∧ T.2.1 = U.2.2.2 ∧ zVw N kd hd sg of ov fa T.2.2.2.2.1 T.2.2.2.2.2.1 T.2.2.2.2.2.2.1 T.2.2.2.2.2.2.2.1 T.2.2.2.2.2.2.2.2.1 ∧ zWg N bd ex T.2.2.1 T.2.2.2.2.2.2.2.2.2.1 T.2.2.2.2.2.2.2.2.2.2.1 T.2.2.2.2.2.2.2.2.2.2.2.1 T.2.2.2.2.2.2.2.2.2.2.2.2 ∧ (∀ t, t < 4 → zLo (T.2.2.1 t)) ∧ ∃ k, k ≤ 80 ∧ T.2.1 = nI k ∧ zJ kd hd bd ex sg of ov fa N k U.1 U.2.1
section ZLOCK
variable {fa m_rounds rd_last v_facts v_applies v_falls v_sureBodies v_neverBodies c_shut : Int32} {rd_came v_known v_fresh v_strictFor v_forwardFor v_allFor v_above c_kind c_head c_body c_excepts c_power c_beats m_came m_known m_fresh m_kind m_head m_body m_except m_strength m_off m_over : Nat → Int32} {N : Nat}
theorem k_lock {kt31 : (Nat → Int32) → (Int32) → (Nat → Int32) → (Nat → Int32) → (Nat → Int32) → (Nat → Int32) → (Nat → Int32) → (Nat → Int32) → (Int32) → (Int32) → (Int32) → (Int32) → (Int32) → ((Nat → Int32) × (Int32) × (Nat → Int32) × (Nat → Int32) × (Nat → Int32) × (Nat → Int32) × (Nat → Int32) × (Nat → Int32) × (Int32) × (Int32) × (Int32) × (Int32) × (Int32))} {kt48 : (Nat → Int32) → (Nat → Int32) → (Nat → Int32) → (Int32) → ((Nat → Int32) × (Nat → Int32) × (Nat → Int32) × (Int32))} (hN : N ≤ 16) (hfa : zLo fa) (hs : zSame N c_kind c_head c_body c_excepts c_power c_beats c_shut m_kind m_head m_body m_except m_strength m_off m_over) : ∀ (n i : Nat) (came known fresh st fw al ab : Nat → Int32) (last vf ap fl sb nb : Int32) (came' known' fresh' : Nat → Int32), n + i = 82 → 1 ≤ i → i ≤ 81 → (∀ j, j < 80 → came j = came' j) → (∀ t, t < 4 → known t = known' t) → last = nI (i - 1) → zVw N m_kind m_head m_strength m_off m_over fa st fw al ab vf → zWg N m_body m_except known ap fl sb nb → (∀ t, t < 4 → zLo (known t)) → i ≤ zcnt known + 1 → zJ m_kind m_head m_body m_except m_strength m_off m_over fa N (i - 1) came' known' →
    ∃ p : ((Nat → Int32) × (Int32) × (Nat → Int32) × (Nat → Int32) × (Nat → Int32) × (Nat → Int32) × (Nat → Int32) × (Nat → Int32) × (Int32) × (Int32) × (Int32) × (Int32) × (Int32)) × ((Nat → Int32) × (Nat → Int32) × (Nat → Int32) × (Int32)), zEnd m_kind m_head m_body m_except m_strength m_off m_over fa N p.1 p.2 ∧ (FX4_come_31 rd_came rd_last v_known v_fresh v_strictFor v_forwardFor v_allFor v_above v_facts v_applies v_falls v_sureBodies v_neverBodies c_kind c_head c_body c_excepts c_power c_beats fa (nI N) c_shut) kt31 (n + 1) (nI i) came last known fresh st fw al ab vf ap fl sb nb = kt31 p.1.1 p.1.2.1 p.1.2.2.1 p.1.2.2.2.1 p.1.2.2.2.2.1 p.1.2.2.2.2.2.1 p.1.2.2.2.2.2.2.1 p.1.2.2.2.2.2.2.2.1 p.1.2.2.2.2.2.2.2.2.1 p.1.2.2.2.2.2.2.2.2.2.1 p.1.2.2.2.2.2.2.2.2.2.2.1 p.1.2.2.2.2.2.2.2.2.2.2.2.1 p.1.2.2.2.2.2.2.2.2.2.2.2.2 ∧ (FX9_tags_48 fa (nI N) m_kind m_head m_body m_except m_strength m_off m_over m_came m_known m_fresh m_rounds) kt48 (n + 1) 1 came' known' fresh' last = kt48 p.2.1 p.2.2.1 p.2.2.2.1 p.2.2.2.2 := by
  intro n
  induction n with
  | zero => intro i _ _ _ _ _ _ _ _ _ _ _ _ _ _ _ _ h1 h2 h3; omega
  | succ n ih =>
    intro i came known fresh st fw al ab last vf ap fl sb nb came' known' fresh' hni h1 h81 hc hk hl hw hg hL hcnt hJ
    have hL' : ∀ t, t < 4 → zLo (known' t) := fun t ht => by rw [← hk t ht]; exact hL t ht
    obtain ⟨s, ⟨g1, g2, g3, g4, g5⟩, e⟩ := r_t48 (m_facts := fa) (m_rounds := m_rounds) (m_kind := m_kind) (m_head := m_head) (m_body := m_body) (m_except := m_except) (m_strength := m_strength) (m_off := m_off) (m_over := m_over) (m_came := m_came) (m_known := m_known) (m_fresh := m_fresh) (kt48 := kt48) (n := n + 1) hN came' known' fresh' last
    rw [e]
    obtain ⟨x, c2, k2, f2, r2⟩ := s
    dsimp only at g1 g2 g3 g4 g5 ⊢
    have hend : x = 0 → (∀ t, t < 4 → f2 t = 0) → ∀ fr : Nat → Int32, ∃ p : ((Nat → Int32) × (Int32) × (Nat → Int32) × (Nat → Int32) × (Nat → Int32) × (Nat → Int32) × (Nat → Int32) × (Nat → Int32) × (Int32) × (Int32) × (Int32) × (Int32) × (Int32)) × ((Nat → Int32) × (Nat → Int32) × (Nat → Int32) × (Int32)), zEnd m_kind m_head m_body m_except m_strength m_off m_over fa N p.1 p.2 ∧ kt31 came last known fr st fw al ab vf ap fl sb nb = kt31 p.1.1 p.1.2.1 p.1.2.2.1 p.1.2.2.2.1 p.1.2.2.2.2.1 p.1.2.2.2.2.2.1 p.1.2.2.2.2.2.2.1 p.1.2.2.2.2.2.2.2.1 p.1.2.2.2.2.2.2.2.2.1 p.1.2.2.2.2.2.2.2.2.2.1 p.1.2.2.2.2.2.2.2.2.2.2.1 p.1.2.2.2.2.2.2.2.2.2.2.2.1 p.1.2.2.2.2.2.2.2.2.2.2.2.2 ∧ (FX9_tags_48 fa (nI N) m_kind m_head m_body m_except m_strength m_off m_over m_came m_known m_fresh m_rounds) kt48 (n + 1) x c2 k2 f2 r2 = kt48 p.2.1 p.2.2.1 p.2.2.2.1 p.2.2.2.2 := by
      intro hx h0 fr
      subst hx
      have ek : ∀ t, t < 4 → k2 t = known' t := fun t ht => by rw [g4 t ht, h0 t ht, Int32.or_zero]
      have ec : ∀ t q, t < 4 → q < 20 → c2 (20 * t + q) = came' (20 * t + q) := fun t q ht hq => (g5 t q ht hq).trans (if_neg (by
        show ¬ zb (f2 t) q = true
        rw [h0 t ht, zb_0]
        exact Bool.false_ne_true))
      refine ⟨((came, last, known, fr, st, fw, al, ab, vf, ap, fl, sb, nb), (c2, k2, f2, r2)), ⟨fun j hj => ?_, fun t ht => ?_, ?_, hw, hg, hL, i - 1, by omega, hl, ?_⟩, rfl, ?_⟩
      · show came j = c2 j
        have := ec (j / 20) (j % 20) (by omega) (by omega)
        rw [show 20 * (j / 20) + j % 20 = j by omega] at this
        rw [this, hc j hj]
      · show known t = k2 t
        rw [ek t ht, hk t ht]
      · show last = r2
        rw [g3, Int32.add_zero]
      · intro t q ht hq
        obtain ⟨c, a1, a2, a3, a4⟩ := hJ t q ht hq
        show ∃ c : Nat, c ≤ i - 1 ∧ c2 (20 * t + q) = nI c ∧ (zb (k2 t) q = decide (0 < c)) ∧ _
        refine ⟨c, a1, by rw [ec t q ht hq]; exact a2, by rw [ek t ht]; exact a3, fun h0 K hK => a4 h0 K (fun t' ht' => zM_ext (hK t' ht') (fun q' hq' => ?_))⟩
        show (decide (0 < c2 (20 * t' + q')) && decide (c2 (20 * t' + q') < nI c)) = _
        rw [ec t' q' ht' hq']
      · rw [FX9_tags_48, if_pos rfl]
    rw [FX4_come_31]
    by_cases c80 : 80 < nI i
    · rw [if_pos c80]
      have hi : i = 81 := by
        rw [show (80 : Int32) = nI 80 from rfl, nI_ltI (by decide) (by omega)] at c80
        omega
      have hall := zcnt_all (K := known) (by omega)
      have h0 : ∀ t, t < 4 → f2 t = 0 := fun t ht => (zM_00 (g1 t ht)).mpr (zE_f.mpr (fun q hq => by
        unfold aNew
        rw [← hk t ht, hall t q ht hq]; rfl))
      rcases g2 with g2 | ⟨-, t, ht, g2⟩
      · exact hend g2.1 g2.2 fresh
      · exact absurd (h0 t ht) g2
    · rw [if_neg c80]
      have hi : i ≤ 80 := by
        rw [show (80 : Int32) = nI 80 from rfl, nI_ltI (by decide) (by omega)] at c80
        omega
      obtain ⟨b, ⟨b1, b2⟩, eb⟩ := k_brings (v_fresh := fresh) hN hfa hL hw hg
      simp only [bnd]
      rw [eb]
      obtain ⟨y, f⟩ := b
      dsimp only at b1 b2 ⊢
      have ef : ∀ t, t < 4 → f t = f2 t := fun t ht => zM_eq (b1 t ht) (g1 t ht) (fun q _ => aNew_congr hk ht q)
      rcases b2 with ⟨hy, b2⟩ | ⟨hy, t0, ht0, b2⟩
      · rw [if_pos hy]
        rcases g2 with g2 | ⟨-, t, ht, g2⟩
        · exact hend g2.1 g2.2 f
        · exact absurd (by rw [← ef t ht]; exact b2 t ht) g2
      · rw [if_neg (by rw [hy]; decide)]
        have hx : x = 1 := by
          rcases g2 with g2 | g2
          · exact absurd (by rw [ef t0 ht0]; exact g2.2 t0 ht0) b2
          · exact g2.1
        subst hx
        have hr2 : r2 = nI i := by rw [g3, hl, nI_1, show i - 1 + 1 = i by omega]
        obtain ⟨nt, ⟨n1, n2⟩, en⟩ := k_note (rd_last := nI i) (rd_came := came) (v_known := known) (v_fresh := f)
        rw [en]
        obtain ⟨c3, k3⟩ := nt
        dsimp only at n1 n2 ⊢
        obtain ⟨w, hwg, ew⟩ := k_weigh (v_applies := ap) (v_falls := fl) (v_sureBodies := sb) (v_neverBodies := nb) (c_body := c_body) (c_excepts := c_excepts) (v_known := k3) (bd := m_body) (ex := m_except) hN (fun r hr => ⟨(hs r hr).2.2.1, (hs r hr).2.2.2.1⟩)
        rw [ew, nI_1]
        have hk3 : ∀ t, t < 4 → k3 t = k2 t := fun t ht => by rw [n1 t, if_pos ht, g4 t ht, hk t ht, ef t ht]
        have hkn : ∀ t, t < 4 → k3 t = known t ||| f t := fun t ht => by rw [n1 t, if_pos ht]
        subst hr2
        refine ih (i + 1) c3 k3 f st fw al ab (nI i) vf w.1 w.2.1 w.2.2.1 w.2.2.2 c2 k2 f2 (by omega) (by omega) (by omega) (fun j hj => ?_) hk3 (by rw [Nat.add_sub_cancel]) hw hwg (fun t ht => by rw [hkn t ht]; exact zLo_or (hL t ht) (zM_L (b1 t ht))) ?_ ?_
        · have a := n2 (j / 20) (j % 20) (by omega) (by omega)
          have b := g5 (j / 20) (j % 20) (by omega) (by omega)
          rw [show 20 * (j / 20) + j % 20 = j by omega] at a b
          rw [a, b, ef _ (by omega), hc j hj]
        · have := zcnt_grow (k := known) (k2 := k3) (f := f) (fun t ht q hq => by
            by_cases c : q < 20
            · rw [zM_b (b1 t ht) c] at hq
              unfold aNew at hq
              refine ⟨c, ?_⟩
              cases hz : zb (known t) q
              · rfl
              · rw [hz] at hq; exact absurd hq (by simp)
            · rw [zM_o (b1 t ht) (by omega)] at hq; cases hq) ⟨t0, ht0, b2⟩ hkn
          omega
        · have := zJ_step (k := i - 1) (came2 := c2) (known2 := k2) (f := f2) (by omega) hJ hL' g1 g4 (fun t q ht hq => by rw [show i - 1 + 1 = i by omega]; exact g5 t q ht hq)
          rw [show i - 1 + 1 = i by omega] at this
          rw [Nat.add_sub_cancel]
          exact this
theorem k_come (hN : N ≤ 16) (hfa : zLo fa) (hs : zSame N c_kind c_head c_body c_excepts c_power c_beats c_shut m_kind m_head m_body m_except m_strength m_off m_over) (hv : zVal N m_kind m_head m_body m_except m_strength m_over) : zEnd m_kind m_head m_body m_except m_strength m_off m_over fa N (FX4_come rd_came rd_last v_known v_fresh v_strictFor v_forwardFor v_allFor v_above v_facts v_applies v_falls v_sureBodies v_neverBodies c_kind c_head c_body c_excepts c_power c_beats fa (nI N) c_shut) ((FX9_tags fa (nI N) m_kind m_head m_body m_except m_strength m_off m_over m_came m_known m_fresh m_rounds)) := by
  obtain ⟨s, ⟨h1, h2⟩, e⟩ := k_enter (v_facts := v_facts) (c_facts := fa) (v_known := v_known) (v_strictFor := v_strictFor) (v_forwardFor := v_forwardFor) (v_allFor := v_allFor) (v_above := v_above) hN hs hv
  obtain ⟨w, hwg, ew⟩ := k_weigh (v_applies := v_applies) (v_falls := v_falls) (v_sureBodies := v_sureBodies) (v_neverBodies := v_neverBodies) (c_body := c_body) (c_excepts := c_excepts) (v_known := s.1) (bd := m_body) (ex := m_except) hN (fun r hr => ⟨(hs r hr).2.2.1, (hs r hr).2.2.2.1⟩)
  obtain ⟨u, ⟨u1, u2⟩, eu⟩ := r_t0 (m_facts := fa) (m_rounds := m_rounds) (m_kind := m_kind) (m_head := m_head) (m_body := m_body) (m_except := m_except) (m_strength := m_strength) (m_off := m_off) (m_over := m_over) (m_came := m_came) (m_known := m_known) (m_fresh := m_fresh) (N := N)
  rw [eu]
  unfold FX4_come
  simp only [bnd]
  rw [e, ew]
  obtain ⟨p, hp, e1, e2⟩ := k_lock (rd_last := rd_last) (v_facts := v_facts) (v_applies := v_applies) (v_falls := v_falls) (v_sureBodies := v_sureBodies) (v_neverBodies := v_neverBodies) (m_rounds := m_rounds) (rd_came := rd_came) (v_known := v_known) (v_fresh := v_fresh) (v_strictFor := v_strictFor) (v_forwardFor := v_forwardFor) (v_allFor := v_allFor) (v_above := v_above) (m_came := m_came) (m_known := m_known) (m_fresh := m_fresh) (kt31 := (FX4_come_70 rd_came rd_last v_known v_fresh v_strictFor v_forwardFor v_allFor v_above v_facts v_applies v_falls v_sureBodies v_neverBodies c_kind c_head c_body c_excepts c_power c_beats fa (nI N) c_shut)) (kt48 := (FX9_tags_236 fa (nI N) m_kind m_head m_body m_except m_strength m_off m_over m_came m_known m_fresh m_rounds)) hN hfa hs 81 1 (zfill 80 0 rd_came) s.1 v_fresh s.2.1 s.2.2.1 s.2.2.2.1 s.2.2.2.2.1 0 s.2.2.2.2.2 w.1 w.2.1 w.2.2.1 w.2.2.2 u.1 u.2 m_fresh (by omega) (by omega) (by omega) (fun j hj => by rw [u1 j hj]; exact if_pos hj) (fun t ht => by rw [u2 t ht, h1 t ht]) rfl h2 hwg (fun t ht q _ => by rw [h1 t ht, zb_0]) (by omega) (fun t q ht hq => ⟨0, Nat.le_refl 0, u1 _ (by omega), by rw [u2 t ht, zb_0]; rfl, fun h => absurd h (Nat.lt_irrefl 0)⟩)
  exact (congr (congrArg (zEnd m_kind m_head m_body m_except m_strength m_off m_over fa N) (show _ = p.1 from e1)) (show _ = p.2 from e2)).mpr hp
end ZLOCK
