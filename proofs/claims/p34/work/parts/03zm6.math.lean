/-! the class's rounds beside the reference's -/
section ZNOTE
variable {rd_last : Int32} {rd_came v_known v_fresh : Nat → Int32}
theorem k_note32 {rc2 : (Int32) → (Nat → Int32) → (Nat → Int32) → ((Nat → Int32) × (Nat → Int32))} {kt2 : (Nat → Int32) → (Nat → Int32) → ((Nat → Int32) × (Nat → Int32))} {kt32 : (Int32) → (Nat → Int32) → (Nat → Int32) → ((Nat → Int32) × (Nat → Int32))} {t : Nat} {m : Int32} (ht : t < 4) (came known : Nat → Int32) : (FX4_note_32 rd_came rd_last v_known v_fresh) rc2 kt2 kt32 21 (nI t) m 0 came known = kt32 (nI t) (zcm came m rd_last t 20) known := by
  obtain ⟨s, hs, e⟩ := zloopI (L := fun n x c => (FX4_note_32 rd_came rd_last v_known v_fresh) rc2 kt2 kt32 n (nI t) m x c known) (kt := fun c => kt32 (nI t) c known) 20 (I := fun i c => c = zcm came m rd_last t i) (by
    intro n c _
    show (FX4_note_32 rd_came rd_last v_known v_fresh) rc2 kt2 kt32 (n + 1) (nI t) m (nI 20) c known = _
    rw [FX4_note_32, if_pos (show (20 : Int32) ≤ nI 20 by decide)]) (by
    intro n i c hi h
    subst h
    show ∃ s' : Nat → Int32, _ ∧ (FX4_note_32 rd_came rd_last v_known v_fresh) rc2 kt2 kt32 (n + 1) (nI t) m (nI i) (zcm came m rd_last t i) known = (FX4_note_32 rd_came rd_last v_known v_fresh) rc2 kt2 kt32 n (nI t) m (nI (i + 1)) s' known
    rw [FX4_note_32, if_neg (show ¬ (20 : Int32) ≤ nI i from nI_ge (b := 20) hi (by decide))]
    simp only [bnd, zh8 (show i < 32 by omega), zi0, nI_1, z20' ht hi]
    cases h : zb m i
    · exact ⟨_, zcm_n h, rfl⟩
    · exact ⟨_, zcm_y h, rfl⟩) 21 0 came (by omega) (by omega) (zcm_0 _ _ _ _).symm
  subst hs
  exact e
theorem k_note : ∃ s : (Nat → Int32) × (Nat → Int32), ((∀ t, s.2 t = if t < 4 then v_known t ||| v_fresh t else v_known t) ∧ ∀ t q, t < 4 → q < 20 → s.1 (20 * t + q) = if zb (v_fresh t) q = true then rd_last else rd_came (20 * t + q)) ∧ (FX4_note rd_came rd_last v_known v_fresh) = s := by
  unfold FX4_note
  refine (zloopI (S := (Nat → Int32) × (Nat → Int32)) (L := fun n x s => (FX4_note_2 rd_came rd_last v_known v_fresh) ((FX4_note_73 rd_came rd_last v_known v_fresh)) n x s.1 s.2) (kt := fun s => s) 4 (I := fun i s => (∀ t, s.2 t = if t < i then v_known t ||| v_fresh t else v_known t) ∧ ∀ t q, t < 4 → q < 20 → s.1 (20 * t + q) = if t < i ∧ zb (v_fresh t) q = true then rd_last else rd_came (20 * t + q)) ?_ ?_ 5 0 (rd_came, v_known) (by omega) (by omega) ⟨fun t => by rw [if_neg (Nat.not_lt_zero t)], fun t q _ _ => by rw [if_neg (fun z => absurd z.1 (Nat.not_lt_zero t))]⟩).imp (fun s h => ⟨⟨h.1.1, fun t q ht hq => ?_⟩, h.2⟩)
  · intro n s _
    show (FX4_note_2 rd_came rd_last v_known v_fresh) ((FX4_note_73 rd_came rd_last v_known v_fresh)) (n + 1) (nI 4) s.1 s.2 = s
    rw [FX4_note_2, if_pos (show (4 : Int32) ≤ nI 4 by decide)]; rfl
  · intro n i s hi ⟨h1, h2⟩
    show ∃ s' : (Nat → Int32) × (Nat → Int32), _ ∧ (FX4_note_2 rd_came rd_last v_known v_fresh) ((FX4_note_73 rd_came rd_last v_known v_fresh)) (n + 1) (nI i) s.1 s.2 = (FX4_note_2 rd_came rd_last v_known v_fresh) ((FX4_note_73 rd_came rd_last v_known v_fresh)) n (nI (i + 1)) s'.1 s'.2
    rw [FX4_note_2, if_neg (show ¬ (4 : Int32) ≤ nI i from nI_ge (b := 4) hi (by decide)), k_note32 hi, nI_clamp (show i < 2 ^ 31 by omega)]
    refine ⟨(zcm s.1 (v_fresh i) rd_last i 20, upd s.2 i (s.2 i ||| v_fresh i)), ⟨fun t => ?_, fun t q ht hq => ?_⟩, by unfold FX4_note_67; rw [nI_1]⟩
    · show upd s.2 i (s.2 i ||| v_fresh i) t = _
      by_cases e : t = i
      · subst e
        rw [pk_us, h1 t, if_neg (Nat.lt_irrefl t), if_pos (Nat.lt_succ_self t)]
      · rw [pk_un e, h1 t]
        by_cases c : t < i
        · rw [if_pos c, if_pos (by omega)]
        · rw [if_neg c, if_neg (by omega)]
    · show zcm s.1 (v_fresh i) rd_last i 20 (20 * t + q) = _
      rw [zcm_at hq, h2 t q ht hq]
      by_cases e : t = i
      · subst e
        by_cases h : zb (v_fresh t) q = true
        · rw [if_pos ⟨rfl, h⟩, if_pos ⟨Nat.lt_succ_self t, h⟩]
        · rw [if_neg (fun z => h z.2), if_neg (fun z => h z.2), if_neg (fun z => h z.2)]
      · rw [if_neg (fun z => e z.1)]
        by_cases c : t < i ∧ zb (v_fresh t) q = true
        · rw [if_pos c, if_pos ⟨by omega, c.2⟩]
        · rw [if_neg c, if_neg (fun z => c ⟨by omega, z.2⟩)]
  · rw [h.1.2 t q ht hq]
    by_cases c : zb (v_fresh t) q = true
    · rw [if_pos ⟨ht, c⟩, if_pos c]
    · rw [if_neg (fun z => c z.2), if_neg c]
end ZNOTE
/-- what came did so by what came ahead -/
def zJ (kd hd bd ex sg of ov : Nat → Int32) (fa : Int32) (N k : Nat) (came known : Nat → Int32) : Prop :=
  ∀ t q, t < 4 → q < 20 → ∃ c : Nat, c ≤ k ∧ came (20 * t + q) = nI c ∧ (zb (known t) q = decide (0 < c)) ∧ (0 < c → ∀ K : Nat → Int32, (∀ t', t' < 4 → zM (K t') 20 (fun q' => decide (0 < came (20 * t' + q')) && decide (came (20 * t' + q') < nI c))) → aNew kd hd bd ex sg of ov fa N K t q = true)
theorem zbits_20 {x : Int32} (h : zbits x = 20) : ∀ q, q < 20 → zb x q = true := by
  intro q hq
  unfold zbits at h
  have h2 : (List.range 20).countP (fun q => zb x q) = (List.range 20).length := by rw [h, List.length_range]
  exact List.countP_eq_length.mp h2 q (List.mem_range.mpr hq)
theorem zcnt_all {K : Nat → Int32} (h : 80 ≤ zcnt K) : ∀ t q, t < 4 → q < 20 → zb (K t) q = true := by
  have h0 := zbits_le (K 0)
  have h1 := zbits_le (K 1)
  have h2 := zbits_le (K 2)
  have h3 := zbits_le (K 3)
  unfold zcnt at h
  intro t q ht hq
  rcases (show t = 0 ∨ t = 1 ∨ t = 2 ∨ t = 3 by omega) with rfl | rfl | rfl | rfl
  · exact zbits_20 (by omega) q hq
  · exact zbits_20 (by omega) q hq
  · exact zbits_20 (by omega) q hq
  · exact zbits_20 (by omega) q hq
theorem zcnt_grow {k k2 f : Nat → Int32} (hA : ∀ t : Nat, t < 4 → zfr (k t) (f t)) (hB : ∃ t : Nat, t < 4 ∧ ¬ f t = 0) (hD : ∀ t : Nat, t < 4 → k2 t = k t ||| f t) : zcnt k + 1 ≤ zcnt k2 := by
  obtain ⟨t, ht, hf⟩ := hB
  have m0 := zbits_or (k 0) (f 0)
  have m1 := zbits_or (k 1) (f 1)
  have m2 := zbits_or (k 2) (f 2)
  have m3 := zbits_or (k 3) (f 3)
  have g := zbits_grow (hA t ht) hf
  unfold zcnt
  rw [hD 0 (by decide), hD 1 (by decide), hD 2 (by decide), hD 3 (by decide)]
  rcases (show t = 0 ∨ t = 1 ∨ t = 2 ∨ t = 3 by omega) with rfl | rfl | rfl | rfl <;> omega
theorem zJ_step {kd hd bd ex sg of ov : Nat → Int32} {fa : Int32} {N k : Nat} {came known came2 known2 f : Nat → Int32} (hk : k < 80) (h : zJ kd hd bd ex sg of ov fa N k came known) (hL : ∀ t, t < 4 → zLo (known t)) (hf : ∀ t, t < 4 → zM (f t) 20 (aNew kd hd bd ex sg of ov fa N known t)) (hkn : ∀ t, t < 4 → known2 t = known t ||| f t) (hc : ∀ t q, t < 4 → q < 20 → came2 (20 * t + q) = if zb (f t) q = true then nI (k + 1) else came (20 * t + q)) : zJ kd hd bd ex sg of ov fa N (k + 1) came2 known2 := by
  have hnk : ∀ t q, t < 4 → zb (f t) q = true → zb (known t) q = false := fun t q ht hq => by
    by_cases c : q < 20
    · rw [zM_b (hf t ht) c] at hq
      unfold aNew at hq
      cases hz : zb (known t) q
      · rfl
      · rw [hz] at hq; exact absurd hq (by simp)
    · rw [zM_o (hf t ht) (by omega)] at hq; cases hq
  intro t q ht hq
  obtain ⟨c, h1, h2, h3, h4⟩ := h t q ht hq
  by_cases hz : zb (f t) q = true
  · refine ⟨k + 1, Nat.le_refl _, by rw [hc t q ht hq, if_pos hz], by rw [hkn t ht, zb_or, hz, Bool.or_true, decide_eq_true (Nat.succ_pos k)], fun _ K hK => ?_⟩
    have e : ∀ t', t' < 4 → K t' = known t' := fun t' ht' => by
      refine zb_ext (fun q' _ => ?_)
      by_cases hq' : q' < 20
      · rw [zM_b (hK t' ht') hq']
        obtain ⟨c', g1, g2, g3, -⟩ := h t' q' ht' hq'
        rw [hc t' q' ht' hq', g3]
        by_cases hz' : zb (f t') q' = true
        · rw [if_pos hz', decide_eq_false (nI_nlt (Nat.le_refl _) (by omega)), Bool.and_false]
          have := hnk t' q' ht' hz'
          rw [g3] at this
          exact this.symm
        · rw [if_neg hz', g2, decide_eq_true (nI_lt (show c' < k + 1 by omega) (by omega)), Bool.and_true]
          exact decide_eq_decide.mpr (by rw [show (0 : Int32) = nI 0 from rfl, nI_ltI (by decide) (by omega)])
      · rw [zM_o (hK t' ht') (by omega), hL t' ht' q' (by omega)]
    rw [aNew_congr e ht q, ← zM_b (hf t ht) hq]
    exact hz
  · have hz0 : zb (f t) q = false := by simpa using hz
    refine ⟨c, by omega, by rw [hc t q ht hq, if_neg hz]; exact h2, by rw [hkn t ht, zb_or, hz0, Bool.or_false]; exact h3, fun h0 K hK => h4 h0 K (fun t' ht' => zM_ext (hK t' ht') (fun q' hq' => ?_))⟩
    obtain ⟨c', g1, g2, g3, -⟩ := h t' q' ht' hq'
    rw [hc t' q' ht' hq']
    by_cases hz' : zb (f t') q' = true
    · rw [if_pos hz', decide_eq_false (nI_nlt (show c ≤ k + 1 by omega) (by omega)), Bool.and_false, g2]
      have := hnk t' q' ht' hz'
      rw [g3] at this
      have hc0 : c' = 0 := by
        have := of_decide_eq_false this
        omega
      rw [hc0]
      rfl
    · rw [if_neg hz']
section ZLOCK
variable {fa m_rounds rd_last v_facts v_applies v_falls v_sureBodies v_neverBodies c_shut : Int32} {rd_came v_known v_fresh v_strictFor v_forwardFor v_allFor v_above c_kind c_head c_body c_excepts c_power c_beats m_came m_known m_fresh m_kind m_head m_body m_except m_strength m_off m_over : Nat → Int32} {N : Nat}
end ZLOCK

