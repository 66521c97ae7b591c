/-! the law's look at all that came -/
theorem zshr10 {x : Int32} {b : Nat} (h : b < 20) : zb (x >>> (10 &&& 31)) b = zb x (b + 10) := by
  unfold zb
  rw [Int32.toBitVec_shiftRight]
  show BitVec.getLsbD (BitVec.sshiftRight x.toBitVec (((10 : Int32) &&& 31).toBitVec.smod 32).toNat) b = _
  rw [show (((10 : Int32) &&& 31).toBitVec.smod 32).toNat = 10 by decide, BitVec.getLsbD_sshiftRight]
  have h1 : ¬ 32 ≤ b := by omega
  have h2 : 10 + b < 32 := by omega
  simp [h1, h2, Nat.add_comm]
  intro h3
  omega
theorem zshl10 {x : Int32} {b : Nat} (h : b < 32) : zb (x <<< (10 &&& 31)) b = (!decide (b < 10) && zb x (b - 10)) := by
  unfold zb
  rw [Int32.toBitVec_shiftLeft]
  show BitVec.getLsbD (BitVec.shiftLeft x.toBitVec (((10 : Int32) &&& 31).toBitVec.smod 32).toNat) b = _
  rw [show (((10 : Int32) &&& 31).toBitVec.smod 32).toNat = 10 by decide]
  show BitVec.getLsbD (x.toBitVec <<< 10) b = _
  rw [BitVec.getLsbD_shiftLeft, decide_eq_true h, Bool.true_and]
theorem zlow {b : Nat} (h : b < 32) : zb 1048575 b = decide (b < 20) := by
  have key : ∀ b : Nat, b < 32 → zb 1048575 b = decide (b < 20) := by decide +kernel
  exact key b h
/-- both sides likely -/
def zboth (x : Int32) : Int32 := x &&& ((x >>> (10 &&& 31)) ||| ((x <<< (10 &&& 31)) &&& 1048575))
theorem zboth_b {x : Int32} (hx : zLo x) {b : Nat} (hb : b < 20) : zb (zboth x) b = (zb x b && zb x (aOth b)) := by
  unfold zboth aOth
  rw [zb_and, zb_or, zb_and, zshr10 hb, zshl10 (by omega), zlow (by omega), decide_eq_true hb, Bool.and_true]
  by_cases c : b < 10
  · rw [if_pos c, decide_eq_true c]
    show (zb x b && (zb x (b + 10) || false)) = _
    rw [Bool.or_false]
  · rw [if_neg c, decide_eq_false c, hx (b + 10) (by omega)]
    rfl
theorem zboth_lo {x : Int32} (hx : zLo x) : zLo (zboth x) := fun q hq => by
  unfold zboth
  rw [zb_and, hx q hq, Bool.false_and]
theorem zboth_8 {x : Int32} (hx : zLo x) : x &&& ((x <<< (10 &&& 31)) ||| (x >>> (10 &&& 31))) = zboth x := zb_ext (fun b hb => by
  unfold zboth
  rw [zb_and, zb_and, zb_or, zb_or, zb_and, zlow hb]
  by_cases c : b < 20
  · rw [decide_eq_true c, Bool.and_true, Bool.or_comm]
  · rw [hx b (by omega), Bool.false_and, Bool.false_and])
/-- how many bits, tag by tag -/
def zhm (K : Nat → Int32) : Nat → Int32
  | 0 => 0
  | n + 1 => zhm K n + FJ6_bitCount_0f7a4 (K n)
theorem zhm_eq {K K' : Nat → Int32} : ∀ n : Nat, (∀ t : Nat, t < n → K t = K' t) → zhm K n = zhm K' n
  | 0, _ => rfl
  | n + 1, h => by
    show zhm K n + FJ6_bitCount_0f7a4 (K n) = zhm K' n + FJ6_bitCount_0f7a4 (K' n)
    rw [zhm_eq n (fun t ht => h t (by omega)), h n (Nat.lt_succ_self n)]
theorem k_howMany (K : Nat → Int32) : FX4_howMany K = zhm K 4 := by
  unfold FX4_howMany
  obtain ⟨s, hs, e⟩ := zloopI (L := fun n i s => FX4_howMany_4 K (FX4_howMany_30 K) n s i) (kt := fun s => s) 4 (I := fun i s => s = zhm K i) (by
    intro n s _
    have hun : FX4_howMany_4 K (FX4_howMany_30 K) (n + 1) s (nI 4) = _ := FX4_howMany_4.eq_2 ..
    rw [if_pos (show (4 : Int32) ≤ nI 4 from nI_le (Nat.le_refl 4) (by omega))] at hun
    exact hun) (by
    intro n i s hi hs
    subst hs
    refine ⟨_, rfl, ?_⟩
    have hun : FX4_howMany_4 K (FX4_howMany_30 K) (n + 1) (zhm K i) (nI i) = _ := FX4_howMany_4.eq_2 ..
    rw [if_neg (show ¬ (4 : Int32) ≤ nI i from nI_ge (b := 4) hi (by omega)), bndx, nI_clamp (show i < 2 ^ 31 by omega), nI_1] at hun
    exact hun) 5 0 0 (by omega) (by omega) rfl
  subst hs
  exact e
section ZSEG2
variable {c_kind c_head c_body c_excepts c_power c_beats rd_came v_known v_allFor tf of : Nat → Int32} {c_facts c_shut x1 : Int32} {N k : Nat}
theorem q_end {t : Nat} (hh : zSC c_kind c_head c_body c_excepts c_power c_beats of c_facts N k rd_came v_known v_allFor) (ht : t < 4) : v_known t = zKc rd_came (k + 1) t := zM_eq (hh.2.2.2.2.2.2.2 t ht) (zKc_M _ _ t) (fun _ _ => rfl)
theorem q_kn {t q : Nat} (hh : zSC c_kind c_head c_body c_excepts c_power c_beats of c_facts N k rd_came v_known v_allFor) (ht : t < 4) (hq : q < 20) : zb (v_known t) q = true ↔ 0 < zcr rd_came t q := by
  rw [q_end hh ht, zK_i hh.2.2.2.2.2.1 hh.2.1 ht hq (by have := hh.2.1; omega)]
  have := (zcr_e hh.2.2.2.2.2.1 hh.2.1 ht hq).2
  constructor
  · exact fun z => z.1
  · exact fun z => ⟨z, by omega⟩
theorem q_sl (hh : zSC c_kind c_head c_body c_excepts c_power c_beats of c_facts N k rd_came v_known v_allFor) {q : Nat} (hq : q < 20) (h : zb (v_known 0) q = true) : zb (v_known 2) q = true := by
  have h2 := hh.2.2.2.2.2.2.1 2 q (by decide) hq
  unfold aNew at h2
  have h3 : aHolds c_kind c_head c_body c_excepts c_power of c_beats c_facts N v_known 2 q = true := by
    show aLikely c_kind c_head c_body c_excepts c_power of c_beats N v_known q = true
    unfold aLikely
    rw [h, Bool.true_or]
  rw [h3, Bool.and_true] at h2
  exact znott h2
theorem q_un (hh : zSC c_kind c_head c_body c_excepts c_power c_beats of c_facts N k rd_came v_known v_allFor) {q : Nat} (hq : q < 20) (h : zb (v_known 3) q = true) : zb (v_known 1) q = true := by
  have h0 := (q_kn hh (t := 3) (by decide) hq).mp h
  have h1 : aUnlikely c_kind c_head c_body c_excepts c_power of c_beats N (zKc rd_came (zcr rd_came 3 q)) q = true := zheld (t := 3) hh.2.2.2.2.2.1 hh.2.1 (by decide) hq h0
  unfold aUnlikely at h1
  rw [Bool.and_eq_true] at h1
  have hle := (zcr_e hh.2.2.2.2.2.1 hh.2.1 (t := 3) (by decide) hq).2
  have := (zK_i hh.2.2.2.2.2.1 hh.2.1 (t := 1) (by decide) hq (by have := hh.2.1; omega)).mp h1.1
  exact (q_kn hh (t := 1) (by decide) hq).mpr this.1
theorem q_lo (hh : zSC c_kind c_head c_body c_excepts c_power c_beats of c_facts N k rd_came v_known v_allFor) {t : Nat} (ht : t < 4) : zLo (v_known t) := zM_L (hh.2.2.2.2.2.2.2 t ht)
theorem q_seg2 (hh : zSC c_kind c_head c_body c_excepts c_power c_beats of c_facts N k rd_came v_known v_allFor) (hT : ∀ t : Nat, t < 4 → zM (tf t) 20 (zah rd_came (k + 1) t)) : FL_law_2 rd_came v_known tf x1 = (1, zboth (v_known 2)) := by
  have eT : ∀ t : Nat, t < 4 → tf t = v_known t := fun t ht => zM_eq (hT t ht) (hh.2.2.2.2.2.2.2 t ht) (fun _ _ => rfl)
  have hQ := hh.2.2.2.2.2.1
  have hk := hh.2.1
  unfold FL_law_2
  obtain ⟨s, hs, e⟩ := zloopI (L := fun n i s => FL_law_2_262 rd_came v_known tf x1 (FL_law_2_302 rd_came v_known tf x1) n s i) (kt := fun s => FL_law_2_302 rd_came v_known tf x1 s) 4 (I := fun i s => s = zhm tf i) (by
    intro n s _
    have hun : FL_law_2_262 rd_came v_known tf x1 (FL_law_2_302 rd_came v_known tf x1) (n + 1) s (nI 4) = _ := FL_law_2_262.eq_2 ..
    rw [if_pos (show (4 : Int32) ≤ nI 4 from nI_le (Nat.le_refl 4) (by omega))] at hun
    exact hun) (by
    intro n t s ht hs
    subst hs
    refine ⟨_, rfl, ?_⟩
    have hun : FL_law_2_262 rd_came v_known tf x1 (FL_law_2_302 rd_came v_known tf x1) (n + 1) (zhm tf t) (nI t) = _ := FL_law_2_262.eq_2 ..
    have htg : FX8_tagged_s rd_came v_known (nI t) 0 = tf t := by
      unfold FX8_tagged_s
      rw [if_neg (q_tag ht), if_pos (show (0 : Int32) ≤ 0 by decide), if_pos rfl, nI_clamp (by omega), eT t ht]
    rw [if_neg (show ¬ (4 : Int32) ≤ nI t from nI_ge (b := 4) ht (by omega)), bndx, bndx, htg, nI_clamp (show t < 2 ^ 31 by omega), if_pos rfl, nI_1] at hun
    exact hun) 5 0 0 (by omega) (by omega) rfl
  subst hs
  refine Eq.trans (show _ = FL_law_2_302 rd_came v_known tf x1 (zhm tf 4) from e) ?_
  have hz : ∀ t t' : Nat, t < 4 → t' < 4 → (∀ q : Nat, q < 20 → 0 < zcr rd_came t q → 0 < zcr rd_came t' q → False) → tf t &&& tf t' = 0 := fun t t' ht ht' h => zb_ext (fun q _ => by
    rw [zb_and, zb_0, eT t ht, eT t' ht']
    by_cases hq : q < 20
    · cases a : zb (v_known t) q
      · rfl
      · cases b : zb (v_known t') q
        · rfl
        · exact (h q hq ((q_kn hh ht hq).mp a) ((q_kn hh ht' hq).mp b)).elim
    · rw [q_lo hh ht q (by omega), Bool.false_and])
  have hs : ∀ t t' : Nat, t < 4 → t' < 4 → (∀ q : Nat, q < 20 → zb (v_known t) q = true → zb (v_known t') q = true) → tf t &&& (tf t' ^^^ (-1)) = 0 := fun t t' ht ht' h => zand_of (fun q _ hq => by
    rw [eT t ht] at hq
    rw [eT t' ht']
    by_cases hq2 : q < 20
    · exact h q hq2 hq
    · rw [q_lo hh ht q (by omega)] at hq; cases hq)
  unfold FL_law_2_302
  rw [bndx, bndx, bndx, zc0, zc1, zc2, zc3, show FX8_count_6 v_known 6 = FX4_howMany v_known from rfl, show FX8_count_3 v_known 3 = FX6_likelyBothWays v_known from rfl, show FX8_count_2 v_known 2 = FX6_missing v_known from rfl, k_howMany, if_pos (show zhm v_known 4 = zhm tf 4 from zhm_eq 4 (fun t ht => (eT t ht).symm))]
  have e3 : FX6_likelyBothWays v_known = tf 2 &&& ((tf 2 >>> (10 &&& 31)) ||| ((tf 2 <<< (10 &&& 31)) &&& 1048575)) := by
    unfold FX6_likelyBothWays
    rw [zc2, eT 2 (by decide)]
    exact zboth_8 (q_lo hh (t := 2) (by decide))
  have e2 : FX6_missing v_known = 1048575 &&& ((tf 2 ||| tf 3) ^^^ (-1)) := by
    unfold FX6_missing
    rw [zc2, zc3, eT 2 (by decide), eT 3 (by decide)]
  rw [if_pos e3, if_pos e2, if_pos (hz 0 1 (by decide) (by decide) (fun q hq h0 h1 => zcons1 hQ hk _ q hq (Nat.le_refl _) h0 h1)), if_pos (hz 2 3 (by decide) (by decide) (fun q hq h0 h1 => zcons2 hQ hk _ q hq (Nat.le_refl _) h0 h1)), if_pos (hs 0 2 (by decide) (by decide) (fun q hq h => q_sl hh hq h)), if_pos (hs 3 1 (by decide) (by decide) (fun q hq h => q_un hh hq h))]
  show ((1 : Int32), tf 2 &&& ((tf 2 >>> (10 &&& 31)) ||| ((tf 2 <<< (10 &&& 31)) &&& 1048575))) = (1, zboth (v_known 2))
  rw [eT 2 (by decide)]
  rfl
end ZSEG2
