/-! rounds: a tag comes in the first round in which its sentence holds by what came ahead -/
/-- came ahead of a round -/
def zah (c : Nat → Int32) (ρ t q : Nat) : Bool := decide (0 < c (20 * t + q)) && decide (c (20 * t + q) < nI ρ)
def zQr (kd hd bd ex sg of ov : Nat → Int32) (fa : Int32) (N k : Nat) (c : Nat → Int32) : Prop :=
  (∀ j : Nat, j < 80 → ∃ h : Nat, h ≤ k ∧ c j = nI h) ∧ ∀ ρ : Nat, 1 ≤ ρ → ρ ≤ k → ∀ K : Nat → Int32, (∀ t : Nat, t < 4 → zM (K t) 20 (zah c ρ t)) → (∀ t q : Nat, t < 4 → q < 20 → (c (20 * t + q) = nI ρ ↔ aNew kd hd bd ex sg of ov fa N K t q = true)) ∧ ∃ t q : Nat, t < 4 ∧ q < 20 ∧ c (20 * t + q) = nI ρ
theorem zah_nI {c : Nat → Int32} {t q h ρ : Nat} (e : c (20 * t + q) = nI h) (h1 : h < 2 ^ 31) (h2 : ρ < 2 ^ 31) : zah c ρ t q = (decide (0 < h) && decide (h < ρ)) := by
  unfold zah
  rw [e]
  have a : (decide ((0 : Int32) < nI h)) = decide (0 < h) := decide_eq_decide.mpr (by rw [show (0 : Int32) = nI 0 from rfl, nI_ltI (by decide) h1])
  have b : (decide (nI h < nI ρ)) = decide (h < ρ) := decide_eq_decide.mpr (nI_ltI h1 h2)
  rw [a, b]
theorem zQ_step {kd hd bd ex sg of ov : Nat → Int32} {fa : Int32} {N k : Nat} {c known f c2 : Nat → Int32} (hk : k < 80) (h : zQr kd hd bd ex sg of ov fa N k c) (hm : ∀ t : Nat, t < 4 → zM (known t) 20 (zah c (k + 1) t)) (hf : ∀ t : Nat, t < 4 → zM (f t) 20 (aNew kd hd bd ex sg of ov fa N known t)) (hx : ∃ t : Nat, t < 4 ∧ ¬ f t = 0) (hc : ∀ t q : Nat, t < 4 → q < 20 → c2 (20 * t + q) = if zb (f t) q = true then nI (k + 1) else c (20 * t + q)) : zQr kd hd bd ex sg of ov fa N (k + 1) c2 ∧ ∀ t : Nat, t < 4 → zM (known t ||| f t) 20 (zah c2 (k + 2) t) := by
  have hold : ∀ t q : Nat, t < 4 → q < 20 → ∃ g : Nat, g ≤ k ∧ c (20 * t + q) = nI g ∧ (zb (f t) q = true → g = 0) ∧ ((zb (f t) q = false ∧ c2 (20 * t + q) = nI g) ∨ (zb (f t) q = true ∧ c2 (20 * t + q) = nI (k + 1))) := fun t q ht hq => by
    obtain ⟨g, hg, e⟩ := h.1 (20 * t + q) (by omega)
    refine ⟨g, hg, e, fun hb => ?_, ?_⟩
    · rw [zM_b (hf t ht) hq] at hb
      unfold aNew at hb
      rw [Bool.and_eq_true, zM_b (hm t ht) hq, zah_nI e (by omega) (by omega)] at hb
      have h1 := hb.1
      rw [decide_eq_true (show g < k + 1 by omega), Bool.and_true] at h1
      rcases Nat.eq_zero_or_pos g with z | z
      · exact z
      · rw [decide_eq_true z] at h1; exact absurd h1 (by decide)
    · have e2 := hc t q ht hq
      cases hb : zb (f t) q
      · rw [hb, if_neg Bool.false_ne_true] at e2
        exact Or.inl ⟨rfl, e2.trans e⟩
      · rw [hb, if_pos rfl] at e2
        exact Or.inr ⟨rfl, e2⟩
  have same : ∀ ρ t q : Nat, ρ ≤ k + 1 → t < 4 → q < 20 → zah c2 ρ t q = zah c ρ t q := fun ρ t q hρ ht hq => by
    obtain ⟨g, hg, e, h0, h1⟩ := hold t q ht hq
    rcases h1 with ⟨_, h1⟩ | ⟨hb, h1⟩
    · rw [zah_nI e (by omega) (by omega), zah_nI h1 (by omega) (by omega)]
    · rw [zah_nI e (by omega) (by omega), zah_nI h1 (by omega) (by omega), h0 hb, decide_eq_false (show ¬ k + 1 < ρ by omega), Bool.and_false]
      rfl
  refine ⟨⟨fun j hj => ?_, fun ρ h1 h2 K hK => ?_⟩, fun t ht => ?_⟩
  · obtain ⟨g, hg, -, -, h1⟩ := hold (j / 20) (j % 20) (by omega) (by omega)
    rw [Nat.div_add_mod] at h1
    rcases h1 with ⟨_, h1⟩ | ⟨_, h1⟩
    · exact ⟨g, by omega, h1⟩
    · exact ⟨k + 1, Nat.le_refl _, h1⟩
  · have hK' : ∀ t : Nat, t < 4 → zM (K t) 20 (zah c ρ t) := fun t ht => zM_ext (hK t ht) (fun q hq => same ρ t q h2 ht hq)
    by_cases hρ : ρ ≤ k
    · obtain ⟨a, t0, q0, ht0, hq0, e0⟩ := h.2 ρ h1 hρ K hK'
      refine ⟨fun t q ht hq => ?_, t0, q0, ht0, hq0, ?_⟩
      · rw [← a t q ht hq]
        obtain ⟨g, hg, e, h0, h3⟩ := hold t q ht hq
        rcases h3 with ⟨_, h3⟩ | ⟨hb, h3⟩
        · rw [h3, e]
        · rw [h3, e, nI_eq (by omega) (by omega), nI_eq (by omega) (by omega), h0 hb]
          constructor <;> intro z <;> omega
      · obtain ⟨g, hg, e, h0, h3⟩ := hold t0 q0 ht0 hq0
        rcases h3 with ⟨_, h3⟩ | ⟨hb, h3⟩
        · rw [h3, ← e, e0]
        · rw [e0, nI_eq (by omega) (by omega)] at e
          have := h0 hb
          omega
    · obtain rfl : ρ = k + 1 := by omega
      have eK : ∀ t : Nat, t < 4 → K t = known t := fun t ht => zM_eq (hK' t ht) (hm t ht) (fun q _ => rfl)
      have key : ∀ t q : Nat, t < 4 → q < 20 → (c2 (20 * t + q) = nI (k + 1) ↔ zb (f t) q = true) := fun t q ht hq => by
        obtain ⟨g, hg, e, h0, h3⟩ := hold t q ht hq
        rcases h3 with ⟨hb, h3⟩ | ⟨hb, h3⟩
        · rw [h3, hb, nI_eq (by omega) (by omega)]
          constructor
          · intro z; omega
          · intro z; cases z
        · rw [h3, hb]
          exact ⟨fun _ => rfl, fun _ => rfl⟩
      refine ⟨fun t q ht hq => ?_, ?_⟩
      · rw [key t q ht hq, zM_b (hf t ht) hq, aNew_congr eK ht q]
      · obtain ⟨t, ht, hn⟩ := hx
        have : zE (aNew kd hd bd ex sg of ov fa N known t) 20 = true := by
          cases e : zE (aNew kd hd bd ex sg of ov fa N known t) 20
          · exact absurd ((zM_00 (hf t ht)).mpr e) hn
          · rfl
        obtain ⟨q, hq, hp⟩ := zE_t.mp this
        exact ⟨t, q, ht, hq, (key t q ht hq).mpr (by rw [zM_b (hf t ht) hq]; exact hp)⟩
  · intro q
    rw [zb_or, hm t ht q, hf t ht q]
    by_cases hq : q < 20
    · rw [decide_eq_true hq, Bool.true_and, Bool.true_and, Bool.true_and, ← zM_b (hf t ht) hq]
      obtain ⟨g, hg, e, h0, h3⟩ := hold t q ht hq
      rw [zah_nI e (by omega) (by omega)]
      rcases h3 with ⟨hb, h3⟩ | ⟨hb, h3⟩
      · rw [zah_nI h3 (by omega) (by omega), hb, Bool.or_false, decide_eq_true (show g < k + 1 by omega), decide_eq_true (show g < k + 2 by omega)]
      · rw [zah_nI h3 (by omega) (by omega), hb, Bool.or_true, decide_eq_true (show 0 < k + 1 by omega), decide_eq_true (show k + 1 < k + 2 by omega)]
        rfl
    · rw [decide_eq_false hq]; rfl
/-- the class's rounds at their end -/
def zFin (kd hd bd ex sg of ov : Nat → Int32) (fa : Int32) (N : Nat) (T : ((Nat → Int32) × (Int32) × (Nat → Int32) × (Nat → Int32) × (Nat → Int32) × (Nat → Int32) × (Nat → Int32) × (Nat → Int32) × (Int32) × (Int32) × (Int32) × (Int32) × (Int32))) : Prop :=
  ∃ k : Nat, k ≤ 80 ∧ T.2.1 = nI k ∧ zQr kd hd bd ex sg of ov fa N k T.1 ∧ (∀ t : Nat, t < 4 → zM (T.2.2.1 t) 20 (zah T.1 (k + 1) t)) ∧ (∀ t q : Nat, t < 4 → q < 20 → aNew kd hd bd ex sg of ov fa N T.2.2.1 t q = false) ∧ zVw N kd hd sg of ov fa T.2.2.2.2.1 T.2.2.2.2.2.1 T.2.2.2.2.2.2.1 T.2.2.2.2.2.2.2.1 T.2.2.2.2.2.2.2.2.1 ∧ zWg N bd ex T.2.2.1 T.2.2.2.2.2.2.2.2.2.1 T.2.2.2.2.2.2.2.2.2.2.1 T.2.2.2.2.2.2.2.2.2.2.2.1 T.2.2.2.2.2.2.2.2.2.2.2.2
section ZLOCK
variable {fa rd_last v_facts v_applies v_falls v_sureBodies v_neverBodies c_shut : Int32} {rd_came v_known v_fresh v_strictFor v_forwardFor v_allFor v_above c_kind c_head c_body c_excepts c_power c_beats kd hd bd ex sg of ov : Nat → Int32} {N : Nat}
theorem k_lock {kt31 : (Nat → Int32) → (Int32) → (Nat → Int32) → (Nat → Int32) → (Nat → Int32) → (Nat → Int32) → (Nat → Int32) → (Nat → Int32) → (Int32) → (Int32) → (Int32) → (Int32) → (Int32) → ((Nat → Int32) × (Int32) × (Nat → Int32) × (Nat → Int32) × (Nat → Int32) × (Nat → Int32) × (Nat → Int32) × (Nat → Int32) × (Int32) × (Int32) × (Int32) × (Int32) × (Int32))} (hN : N ≤ 16) (hfa : zLo fa) (hs : zSame N c_kind c_head c_body c_excepts c_power c_beats c_shut kd hd bd ex sg of ov) : ∀ (n i : Nat) (came known fresh st fw al ab : Nat → Int32) (last vf ap fl sb nb : Int32), n + i = 82 → 1 ≤ i → i ≤ 81 → last = nI (i - 1) → zVw N kd hd sg of ov fa st fw al ab vf → zWg N bd ex known ap fl sb nb → (∀ t : Nat, t < 4 → zM (known t) 20 (zah came i t)) → i ≤ zcnt known + 1 → zQr kd hd bd ex sg of ov fa N (i - 1) came →
    ∃ p : ((Nat → Int32) × (Int32) × (Nat → Int32) × (Nat → Int32) × (Nat → Int32) × (Nat → Int32) × (Nat → Int32) × (Nat → Int32) × (Int32) × (Int32) × (Int32) × (Int32) × (Int32)), zFin kd hd bd ex sg of ov fa N p ∧ (FX4_come_31 rd_came rd_last v_known v_fresh v_strictFor v_forwardFor v_allFor v_above v_facts v_applies v_falls v_sureBodies v_neverBodies c_kind c_head c_body c_excepts c_power c_beats fa (nI N) c_shut) kt31 (n + 1) (nI i) came last known fresh st fw al ab vf ap fl sb nb = kt31 p.1 p.2.1 p.2.2.1 p.2.2.2.1 p.2.2.2.2.1 p.2.2.2.2.2.1 p.2.2.2.2.2.2.1 p.2.2.2.2.2.2.2.1 p.2.2.2.2.2.2.2.2.1 p.2.2.2.2.2.2.2.2.2.1 p.2.2.2.2.2.2.2.2.2.2.1 p.2.2.2.2.2.2.2.2.2.2.2.1 p.2.2.2.2.2.2.2.2.2.2.2.2 := by
  intro n
  induction n with
  | zero => intro i _ _ _ _ _ _ _ _ _ _ _ _ _ h1 h2 h3; omega
  | succ n ih =>
    intro i came known fresh st fw al ab last vf ap fl sb nb hni h1 h81 hl hw hg hm hcnt hQ
    have hL : ∀ t : Nat, t < 4 → zLo (known t) := fun t ht => zM_L (hm t ht)
    have hend : (∀ t q : Nat, t < 4 → q < 20 → aNew kd hd bd ex sg of ov fa N known t q = false) → ∀ fr : Nat → Int32, ∃ p : ((Nat → Int32) × (Int32) × (Nat → Int32) × (Nat → Int32) × (Nat → Int32) × (Nat → Int32) × (Nat → Int32) × (Nat → Int32) × (Int32) × (Int32) × (Int32) × (Int32) × (Int32)), zFin kd hd bd ex sg of ov fa N p ∧ kt31 came last known fr st fw al ab vf ap fl sb nb = kt31 p.1 p.2.1 p.2.2.1 p.2.2.2.1 p.2.2.2.2.1 p.2.2.2.2.2.1 p.2.2.2.2.2.2.1 p.2.2.2.2.2.2.2.1 p.2.2.2.2.2.2.2.2.1 p.2.2.2.2.2.2.2.2.2.1 p.2.2.2.2.2.2.2.2.2.2.1 p.2.2.2.2.2.2.2.2.2.2.2.1 p.2.2.2.2.2.2.2.2.2.2.2.2 := fun h0 fr => ⟨(came, last, known, fr, st, fw, al, ab, vf, ap, fl, sb, nb), ⟨i - 1, by omega, hl, hQ, by rw [show i - 1 + 1 = i by omega]; exact hm, h0, hw, hg⟩, rfl⟩
    rw [FX4_come_31]
    by_cases c80 : 80 < nI i
    · rw [if_pos c80]
      have hi : i = 81 := by
        rw [show (80 : Int32) = nI 80 from rfl, nI_ltI (by decide) (by omega)] at c80
        omega
      have hall := zcnt_all (K := known) (by omega)
      exact hend (fun t q ht hq => by
        unfold aNew
        rw [hall t q ht hq]; rfl) fresh
    · rw [if_neg c80]
      have hi : i ≤ 80 := by
        rw [show (80 : Int32) = nI 80 from rfl, nI_ltI (by decide) (by omega)] at c80
        omega
      obtain ⟨b, ⟨b1, b2⟩, eb⟩ := k_brings (v_fresh := fresh) hN hfa hL hw hg
      simp only [bnd]
      rw [eb]
      obtain ⟨y, f⟩ := b
      dsimp only at b1 b2 ⊢
      rcases b2 with ⟨hy, b2⟩ | ⟨hy, t0, ht0, b2⟩
      · rw [if_pos hy]
        exact hend (fun t q ht hq => zE_f.mp ((zM_00 (b1 t ht)).mp (b2 t ht)) q hq) f
      · rw [if_neg (by rw [hy]; decide)]
        obtain ⟨nt, ⟨n1, n2⟩, en⟩ := k_note (rd_last := nI i) (rd_came := came) (v_known := known) (v_fresh := f)
        rw [en]
        obtain ⟨c3, k3⟩ := nt
        dsimp only at n1 n2 ⊢
        obtain ⟨w, hwg, ew⟩ := k_weigh (v_applies := ap) (v_falls := fl) (v_sureBodies := sb) (v_neverBodies := nb) (c_body := c_body) (c_excepts := c_excepts) (v_known := k3) (bd := bd) (ex := ex) hN (fun r hr => ⟨(hs r hr).2.2.1, (hs r hr).2.2.2.1⟩)
        rw [ew, nI_1]
        have hkn : ∀ t, t < 4 → k3 t = known t ||| f t := fun t ht => by rw [n1 t, if_pos ht]
        have hst := zQ_step (k := i - 1) (c := came) (known := known) (f := f) (c2 := c3) (by omega) hQ (by rw [show i - 1 + 1 = i by omega]; exact hm) b1 ⟨t0, ht0, b2⟩ (by rw [show i - 1 + 1 = i by omega]; exact n2)
        rw [show i - 1 + 1 = i by omega, show i - 1 + 2 = i + 1 by omega] at hst
        refine ih (i + 1) c3 k3 f st fw al ab (nI i) vf w.1 w.2.1 w.2.2.1 w.2.2.2 (by omega) (by omega) (by omega) (by rw [Nat.add_sub_cancel]) hw hwg (fun t ht => by rw [hkn t ht]; exact hst.2 t ht) ?_ (by rw [Nat.add_sub_cancel]; exact hst.1)
        have := zcnt_grow (k := known) (k2 := k3) (f := f) (fun t ht q hq => by
          by_cases c : q < 20
          · rw [zM_b (b1 t ht) c] at hq
            unfold aNew at hq
            refine ⟨c, ?_⟩
            cases hz : zb (known t) q
            · rfl
            · rw [hz] at hq; exact absurd hq (by simp)
          · rw [zM_o (b1 t ht) (by omega)] at hq; cases hq) ⟨t0, ht0, b2⟩ hkn
        omega
theorem k_come (hN : N ≤ 16) (hfa : zLo fa) (hs : zSame N c_kind c_head c_body c_excepts c_power c_beats c_shut kd hd bd ex sg of ov) (hv : zVal N kd hd bd ex sg ov) : zFin kd hd bd ex sg of ov fa N (FX4_come rd_came rd_last v_known v_fresh v_strictFor v_forwardFor v_allFor v_above v_facts v_applies v_falls v_sureBodies v_neverBodies c_kind c_head c_body c_excepts c_power c_beats fa (nI N) c_shut) := by
  obtain ⟨s, ⟨h1, h2⟩, e⟩ := k_enter (v_facts := v_facts) (c_facts := fa) (v_known := v_known) (v_strictFor := v_strictFor) (v_forwardFor := v_forwardFor) (v_allFor := v_allFor) (v_above := v_above) hN hs hv
  obtain ⟨w, hwg, ew⟩ := k_weigh (v_applies := v_applies) (v_falls := v_falls) (v_sureBodies := v_sureBodies) (v_neverBodies := v_neverBodies) (c_body := c_body) (c_excepts := c_excepts) (v_known := s.1) (bd := bd) (ex := ex) hN (fun r hr => ⟨(hs r hr).2.2.1, (hs r hr).2.2.2.1⟩)
  unfold FX4_come
  simp only [bnd]
  rw [e, ew]
  have z0 : ∀ j : Nat, j < 80 → zfill 80 0 rd_came j = nI 0 := fun j hj => if_pos hj
  obtain ⟨p, hp, e1⟩ := k_lock (rd_last := rd_last) (v_facts := v_facts) (v_applies := v_applies) (v_falls := v_falls) (v_sureBodies := v_sureBodies) (v_neverBodies := v_neverBodies) (rd_came := rd_came) (v_known := v_known) (v_fresh := v_fresh) (v_strictFor := v_strictFor) (v_forwardFor := v_forwardFor) (v_allFor := v_allFor) (v_above := v_above) (kt31 := (FX4_come_70 rd_came rd_last v_known v_fresh v_strictFor v_forwardFor v_allFor v_above v_facts v_applies v_falls v_sureBodies v_neverBodies c_kind c_head c_body c_excepts c_power c_beats fa (nI N) c_shut)) hN hfa hs 81 1 (zfill 80 0 rd_came) s.1 v_fresh s.2.1 s.2.2.1 s.2.2.2.1 s.2.2.2.2.1 0 s.2.2.2.2.2 w.1 w.2.1 w.2.2.1 w.2.2.2 (by omega) (by omega) (by omega) rfl h2 hwg (fun t ht q => by
    rw [h1 t ht, zb_0]
    by_cases hq : q < 20
    · rw [zah_nI (z0 (20 * t + q) (by omega)) (by decide) (by decide), decide_eq_false (Nat.lt_irrefl 0), Bool.false_and, Bool.and_false]
    · rw [decide_eq_false hq, Bool.false_and]) (by omega) ⟨fun j hj => ⟨0, Nat.le_refl 0, z0 j hj⟩, fun ρ h3 h4 => by omega⟩
  exact (congrArg (zFin kd hd bd ex sg of ov fa N) (show _ = p from e1)).mpr hp
end ZLOCK
