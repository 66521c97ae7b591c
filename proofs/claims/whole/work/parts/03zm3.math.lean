/-! the reference's rounds -/
theorem zx {α R S : Type} {A : α → Prop} {X : R} {g : α → R} {I : S → Prop} {k : S → R} (h : ∃ a, A a ∧ X = g a) (h2 : ∀ a, A a → ∃ s, I s ∧ g a = k s) : ∃ s, I s ∧ X = k s := by
  obtain ⟨a, ha, e⟩ := h
  obtain ⟨s, hs, e2⟩ := h2 a ha
  exact ⟨s, hs, e.trans e2⟩
theorem aHolds_congr {kd hd bd ex sg of ov : Nat → Int32} {fa : Int32} {N : Nat} {K K' : Nat → Int32} (h : ∀ t : Nat, t < 4 → K t = K' t) (t q : Nat) : aHolds kd hd bd ex sg of ov fa N K t q = aHolds kd hd bd ex sg of ov fa N K' t q := by
  have h0 := h 0 (by decide)
  have h1 := h 1 (by decide)
  have h2 := h 2 (by decide)
  have h3 := h 3 (by decide)
  have e1 : aApp bd ex K = aApp bd ex K' := by funext r; unfold aApp; rw [h2, h3]
  have e2 : aFal bd ex K = aFal bd ex K' := by funext r; unfold aFal; rw [h2, h3]
  have e3 : aSb bd K = aSb bd K' := by funext r; unfold aSb; rw [h0]
  have e4 : aNb bd K = aNb bd K' := by funext r; unfold aNb; rw [h1]
  have e5 : aFrc kd hd bd ex of K = aFrc kd hd bd ex of K' := by funext q r; unfold aFrc; rw [e1]
  have e6 : aUnf kd hd bd ex of K = aUnf kd hd bd ex of K' := by funext q r; unfold aUnf; rw [e2]
  have e7 : aThr kd hd bd ex sg of ov N K = aThr kd hd bd ex sg of ov N K' := by funext q r; unfold aThr; rw [e2, e5]
  have e8 : aVic kd hd bd ex sg of ov N K = aVic kd hd bd ex sg of ov N K' := by funext q r; unfold aVic; rw [e1, e6]
  have f0 : aSure kd hd bd of fa N K q = aSure kd hd bd of fa N K' q := by unfold aSure; rw [e3]
  have f1 : aNever kd hd bd of fa N K q = aNever kd hd bd of fa N K' q := by unfold aNever; rw [e4]
  have f2 : aLikely kd hd bd ex sg of ov N K q = aLikely kd hd bd ex sg of ov N K' q := by unfold aLikely; rw [h0, h1, e5, e7]
  have f3 : aUnlikely kd hd bd ex sg of ov N K q = aUnlikely kd hd bd ex sg of ov N K' q := by unfold aUnlikely; rw [h0, h1, e6, e8]
  unfold aHolds
  split
  · exact f0
  · exact f1
  · exact f2
  · exact f3
theorem aNew_congr {kd hd bd ex sg of ov : Nat → Int32} {fa : Int32} {N : Nat} {K K' : Nat → Int32} (h : ∀ t : Nat, t < 4 → K t = K' t) {t : Nat} (ht : t < 4) (q : Nat) : aNew kd hd bd ex sg of ov fa N K t q = aNew kd hd bd ex sg of ov fa N K' t q := by
  unfold aNew
  rw [h t ht, aHolds_congr h t q]
section ZTAGS
variable {m_facts m_rounds : Int32} {m_kind m_head m_body m_except m_strength m_off m_over m_came m_known m_fresh : Nat → Int32} {N : Nat}
theorem r_t70 {rc48 : (Int32) → (Nat → Int32) → (Nat → Int32) → (Nat → Int32) → (Int32) → ((Nat → Int32) × (Nat → Int32) × (Nat → Int32) × (Int32))} {kt48 : (Nat → Int32) → (Nat → Int32) → (Nat → Int32) → (Int32) → ((Nat → Int32) × (Nat → Int32) × (Nat → Int32) × (Int32))} {rc56 : (Int32) → (Int32) → (Nat → Int32) → (Nat → Int32) → (Nat → Int32) → (Int32) → ((Nat → Int32) × (Nat → Int32) × (Nat → Int32) × (Int32))} {kt56 : (Int32) → (Nat → Int32) → (Nat → Int32) → (Nat → Int32) → (Int32) → ((Nat → Int32) × (Nat → Int32) × (Nat → Int32) × (Int32))} {kt70 : (Int32) → (Int32) → (Nat → Int32) → (Nat → Int32) → (Nat → Int32) → (Int32) → ((Nat → Int32) × (Nat → Int32) × (Nat → Int32) × (Int32))} {x1 : Int32} {t : Nat} (hN : N ≤ 16) (ht : t < 4) (came known fresh : Nat → Int32) (rounds : Int32) (h0 : fresh t = 0) : ∃ f' : Nat → Int32, ((∀ j, j ≠ t → f' j = fresh j) ∧ zM (f' t) 20 (aNew m_kind m_head m_body m_except m_strength m_off m_over m_facts N known t)) ∧ (FX9_tags_70 m_facts (nI N) m_kind m_head m_body m_except m_strength m_off m_over m_came m_known m_fresh m_rounds) rc48 kt48 rc56 kt56 kt70 21 x1 (nI t) 0 came known fresh rounds = kt70 x1 (nI t) came known f' rounds := by
  refine zloopI (L := fun n x f => (FX9_tags_70 m_facts (nI N) m_kind m_head m_body m_except m_strength m_off m_over m_came m_known m_fresh m_rounds) rc48 kt48 rc56 kt56 kt70 n x1 (nI t) x came known f rounds) (kt := fun f => kt70 x1 (nI t) came known f rounds) 20 (I := fun i f => (∀ j, j ≠ t → f j = fresh j) ∧ zM (f t) i (aNew m_kind m_head m_body m_except m_strength m_off m_over m_facts N known t)) ?_ ?_ 21 0 fresh (by omega) (by omega) ⟨fun _ _ => rfl, by rw [h0]; exact zM_0 _⟩
  · intro n f _
    show (FX9_tags_70 m_facts (nI N) m_kind m_head m_body m_except m_strength m_off m_over m_came m_known m_fresh m_rounds) rc48 kt48 rc56 kt56 kt70 (n + 1) x1 (nI t) (nI 20) came known f rounds = kt70 x1 (nI t) came known f rounds
    rw [FX9_tags_70, if_pos (show (20 : Int32) ≤ nI 20 by decide)]
  · intro n i f hi ⟨h1, h2⟩
    show ∃ s' : Nat → Int32, _ ∧ (FX9_tags_70 m_facts (nI N) m_kind m_head m_body m_except m_strength m_off m_over m_came m_known m_fresh m_rounds) rc48 kt48 rc56 kt56 kt70 (n + 1) x1 (nI t) (nI i) came known f rounds = (FX9_tags_70 m_facts (nI N) m_kind m_head m_body m_except m_strength m_off m_over m_came m_known m_fresh m_rounds) rc48 kt48 rc56 kt56 kt70 n x1 (nI t) (nI (i + 1)) came known s' rounds
    rw [FX9_tags_70, if_neg (show ¬ (20 : Int32) ≤ nI i from nI_ge (b := 20) hi (by decide))]
    simp only [bnd, zh9 (show i < 32 by omega), nI_clamp (show t < 2 ^ 31 by omega), r_holds hN ht hi, zi0, nI_1]
    cases h : zb (known t) i
    · cases h3 : aHolds m_kind m_head m_body m_except m_strength m_off m_over m_facts N known t i
      · refine ⟨upd f t (f t ||| 0), ⟨fun j hj => by rw [pk_un hj]; exact h1 j hj, ?_⟩, rfl⟩
        rw [pk_us]
        exact zM_n0 h2 (by unfold aNew; rw [h, h3]; rfl)
      · refine ⟨upd f t (f t ||| (1 <<< (nI i &&& 31))), ⟨fun j hj => by rw [pk_un hj]; exact h1 j hj, ?_⟩, rfl⟩
        rw [pk_us]
        exact zM_y h2 (by omega) (by unfold aNew; rw [h, h3]; rfl)
    · refine ⟨upd f t (f t ||| 0), ⟨fun j hj => by rw [pk_un hj]; exact h1 j hj, ?_⟩, rfl⟩
      rw [pk_us]
      exact zM_n0 h2 (by unfold aNew; rw [h]; rfl)
theorem r_t120 {rc48 : (Int32) → (Nat → Int32) → (Nat → Int32) → (Nat → Int32) → (Int32) → ((Nat → Int32) × (Nat → Int32) × (Nat → Int32) × (Int32))} {kt48 : (Nat → Int32) → (Nat → Int32) → (Nat → Int32) → (Int32) → ((Nat → Int32) × (Nat → Int32) × (Nat → Int32) × (Int32))} {rc56 : (Int32) → (Int32) → (Nat → Int32) → (Nat → Int32) → (Nat → Int32) → (Int32) → ((Nat → Int32) × (Nat → Int32) × (Nat → Int32) × (Int32))} {kt56 : (Int32) → (Nat → Int32) → (Nat → Int32) → (Nat → Int32) → (Int32) → ((Nat → Int32) × (Nat → Int32) × (Nat → Int32) × (Int32))} {x1 : Int32} {t : Nat} (ht : t < 4) (came known fresh : Nat → Int32) (rounds : Int32) (hx : x1 = 0 ∨ x1 = 1) : (FX9_tags_120 m_facts (nI N) m_kind m_head m_body m_except m_strength m_off m_over m_came m_known m_fresh m_rounds) rc48 kt48 rc56 kt56 x1 (nI t) came known fresh rounds = rc56 (if x1 = 0 ∧ fresh t = 0 then 0 else 1) (nI (t + 1)) came known fresh rounds := by
  unfold FX9_tags_120
  simp only [nI_clamp (show t < 2 ^ 31 by omega), nI_1]
  rcases hx with rfl | rfl
  · by_cases h : fresh t = 0
    · rw [if_pos rfl, if_pos h, if_pos ⟨rfl, h⟩]
    · rw [if_pos rfl, if_neg h, if_neg (fun z => h z.2)]
  · rw [if_neg (by decide), if_neg (fun z => absurd z.1 (by decide))]
def zfl (x : Int32) (i : Nat) (f : Nat → Int32) : Prop := (x = 0 ∧ ∀ t, t < i → f t = 0) ∨ (x = 1 ∧ ∃ t, t < i ∧ ¬ f t = 0)
theorem r_t56 {rc48 : (Int32) → (Nat → Int32) → (Nat → Int32) → (Nat → Int32) → (Int32) → ((Nat → Int32) × (Nat → Int32) × (Nat → Int32) × (Int32))} {kt48 : (Nat → Int32) → (Nat → Int32) → (Nat → Int32) → (Int32) → ((Nat → Int32) × (Nat → Int32) × (Nat → Int32) × (Int32))} {kt56 : (Int32) → (Nat → Int32) → (Nat → Int32) → (Nat → Int32) → (Int32) → ((Nat → Int32) × (Nat → Int32) × (Nat → Int32) × (Int32))} (hN : N ≤ 16) (came known fresh : Nat → Int32) (rounds : Int32) : ∃ s : Int32 × (Nat → Int32), ((∀ t, t < 4 → zM (s.2 t) 20 (aNew m_kind m_head m_body m_except m_strength m_off m_over m_facts N known t)) ∧ zfl s.1 4 s.2) ∧ (FX9_tags_56 m_facts (nI N) m_kind m_head m_body m_except m_strength m_off m_over m_came m_known m_fresh m_rounds) rc48 kt48 kt56 5 0 0 came known fresh rounds = kt56 s.1 came known s.2 rounds := by
  refine zloopI (L := fun n x s => (FX9_tags_56 m_facts (nI N) m_kind m_head m_body m_except m_strength m_off m_over m_came m_known m_fresh m_rounds) rc48 kt48 kt56 n s.1 x came known s.2 rounds) (kt := fun s => kt56 s.1 came known s.2 rounds) 4 (I := fun i s => (∀ t, t < i → zM (s.2 t) 20 (aNew m_kind m_head m_body m_except m_strength m_off m_over m_facts N known t)) ∧ zfl s.1 i s.2) ?_ ?_ 5 0 ((0 : Int32), fresh) (by omega) (by omega) ⟨fun t h => absurd h (Nat.not_lt_zero t), Or.inl ⟨rfl, fun t h => absurd h (Nat.not_lt_zero t)⟩⟩
  · intro n s _
    show (FX9_tags_56 m_facts (nI N) m_kind m_head m_body m_except m_strength m_off m_over m_came m_known m_fresh m_rounds) rc48 kt48 kt56 (n + 1) s.1 (nI 4) came known s.2 rounds = _
    rw [FX9_tags_56, if_pos (show (4 : Int32) ≤ nI 4 by decide)]
  · intro n i s hi ⟨h1, h2⟩
    show ∃ s' : Int32 × (Nat → Int32), _ ∧ (FX9_tags_56 m_facts (nI N) m_kind m_head m_body m_except m_strength m_off m_over m_came m_known m_fresh m_rounds) rc48 kt48 kt56 (n + 1) s.1 (nI i) came known s.2 rounds = (FX9_tags_56 m_facts (nI N) m_kind m_head m_body m_except m_strength m_off m_over m_came m_known m_fresh m_rounds) rc48 kt48 kt56 n s'.1 (nI (i + 1)) came known s'.2 rounds
    rw [FX9_tags_56, if_neg (show ¬ (4 : Int32) ≤ nI i from nI_ge (b := 4) hi (by decide)), nI_clamp (show i < 2 ^ 31 by omega)]
    refine zx (r_t70 hN hi came known (upd s.2 i 0) rounds pk_us) (fun f hf => ?_)
    obtain ⟨hf1, hf2⟩ := hf
    have hx : s.1 = 0 ∨ s.1 = 1 := by
      rcases h2 with h2 | h2
      · exact Or.inl h2.1
      · exact Or.inr h2.1
    have hold : ∀ t, t < i → f t = s.2 t := fun t ht => by rw [hf1 t (Nat.ne_of_lt ht), pk_un (Nat.ne_of_lt ht)]
    refine ⟨(if s.1 = 0 ∧ f i = 0 then 0 else 1, f), ⟨fun t ht => ?_, ?_⟩, r_t120 hi came known f rounds hx⟩
    · rcases Nat.lt_succ_iff_lt_or_eq.mp ht with h | rfl
      · show zM (f t) 20 _
        rw [hold t h]; exact h1 t h
      · exact hf2
    · unfold zfl at h2 ⊢
      dsimp only
      rcases h2 with ⟨e, h2⟩ | ⟨e, t, ht, h2⟩
      · by_cases hz : f i = 0
        · rw [if_pos ⟨e, hz⟩]
          refine Or.inl ⟨rfl, fun t ht => ?_⟩
          rcases Nat.lt_succ_iff_lt_or_eq.mp ht with h | rfl
          · rw [hold t h]; exact h2 t h
          · exact hz
        · rw [if_neg (fun z => hz z.2)]
          exact Or.inr ⟨rfl, i, Nat.lt_succ_self i, hz⟩
      · rw [if_neg (fun z => by rw [z.1] at e; exact absurd e (by decide))]
        exact Or.inr ⟨rfl, t, Nat.lt_succ_of_lt ht, by rw [hold t ht]; exact h2⟩
theorem z20 {t i : Nat} (ht : t < 4) (hi : i < 20) : ((20 : Int32) * nI t + nI i).toNatClampNeg = 20 * t + i := by
  rw [show (20 : Int32) = nI 20 from rfl, pk_mul, nI_add, nI_clamp (by omega)]
theorem z20' {t i : Nat} (ht : t < 4) (hi : i < 20) : (nI t * (20 : Int32) + nI i).toNatClampNeg = 20 * t + i := by
  rw [show (20 : Int32) = nI 20 from rfl, pk_mul, nI_add, nI_clamp (by omega), Nat.mul_comm]
def zcm (c0 : Nat → Int32) (m x : Int32) (t i j : Nat) : Int32 := if 20 * t ≤ j ∧ j < 20 * t + i ∧ zb m (j - 20 * t) = true then x else c0 j
theorem zcm_0 (c0 : Nat → Int32) (m x : Int32) (t : Nat) : zcm c0 m x t 0 = c0 := by
  funext j
  unfold zcm
  rw [if_neg (fun h => by omega)]
theorem zcm_y {c0 : Nat → Int32} {m x : Int32} {t i : Nat} (h : zb m i = true) : upd (zcm c0 m x t i) (20 * t + i) x = zcm c0 m x t (i + 1) := by
  funext j
  by_cases e : j = 20 * t + i
  · subst e
    rw [pk_us]
    unfold zcm
    rw [if_pos ⟨by omega, by omega, by rw [Nat.add_sub_cancel_left]; exact h⟩]
  · rw [pk_un e]
    unfold zcm
    by_cases c : 20 * t ≤ j ∧ j < 20 * t + i ∧ zb m (j - 20 * t) = true
    · rw [if_pos c, if_pos ⟨c.1, by omega, c.2.2⟩]
    · rw [if_neg c, if_neg (fun z => c ⟨z.1, by omega, z.2.2⟩)]
theorem zcm_n {c0 : Nat → Int32} {m x : Int32} {t i : Nat} (h : zb m i = false) : zcm c0 m x t i = zcm c0 m x t (i + 1) := by
  funext j
  unfold zcm
  by_cases c : 20 * t ≤ j ∧ j < 20 * t + i ∧ zb m (j - 20 * t) = true
  · rw [if_pos c, if_pos ⟨c.1, by omega, c.2.2⟩]
  · rw [if_neg c, if_neg (fun z => by
      by_cases e : j = 20 * t + i
      · subst e
        rw [Nat.add_sub_cancel_left, h] at z
        exact Bool.false_ne_true z.2.2
      · exact c ⟨z.1, by omega, z.2.2⟩)]
theorem zcm_at {c0 : Nat → Int32} {m x : Int32} {t t' q : Nat} (hq : q < 20) : zcm c0 m x t 20 (20 * t' + q) = if t' = t ∧ zb m q = true then x else c0 (20 * t' + q) := by
  unfold zcm
  by_cases e : t' = t
  · subst e
    rw [Nat.add_sub_cancel_left]
    by_cases h : zb m q = true
    · rw [if_pos ⟨by omega, by omega, h⟩, if_pos ⟨rfl, h⟩]
    · rw [if_neg (fun z => h z.2.2), if_neg (fun z => h z.2)]
  · rw [if_neg (fun z => by omega), if_neg (fun z => e z.1)]
theorem r_t187 {rc48 : (Int32) → (Nat → Int32) → (Nat → Int32) → (Nat → Int32) → (Int32) → ((Nat → Int32) × (Nat → Int32) × (Nat → Int32) × (Int32))} {kt48 : (Nat → Int32) → (Nat → Int32) → (Nat → Int32) → (Int32) → ((Nat → Int32) × (Nat → Int32) × (Nat → Int32) × (Int32))} {rc165 : (Int32) → (Int32) → (Nat → Int32) → (Nat → Int32) → (Nat → Int32) → (Int32) → ((Nat → Int32) × (Nat → Int32) × (Nat → Int32) × (Int32))} {kt165 : (Int32) → (Nat → Int32) → (Nat → Int32) → (Nat → Int32) → (Int32) → ((Nat → Int32) × (Nat → Int32) × (Nat → Int32) × (Int32))} {kt187 : (Int32) → (Int32) → (Nat → Int32) → (Nat → Int32) → (Nat → Int32) → (Int32) → ((Nat → Int32) × (Nat → Int32) × (Nat → Int32) × (Int32))} {x1 : Int32} {t : Nat} (ht : t < 4) (came known fresh : Nat → Int32) (rounds : Int32) : (FX9_tags_187 m_facts (nI N) m_kind m_head m_body m_except m_strength m_off m_over m_came m_known m_fresh m_rounds) rc48 kt48 rc165 kt165 kt187 21 x1 (nI t) 0 came known fresh rounds = kt187 x1 (nI t) (zcm came (fresh t) rounds t 20) known fresh rounds := by
  obtain ⟨s, hs, e⟩ := zloopI (L := fun n x c => (FX9_tags_187 m_facts (nI N) m_kind m_head m_body m_except m_strength m_off m_over m_came m_known m_fresh m_rounds) rc48 kt48 rc165 kt165 kt187 n x1 (nI t) x c known fresh rounds) (kt := fun c => kt187 x1 (nI t) c known fresh rounds) 20 (I := fun i c => c = zcm came (fresh t) rounds t i) (by
    intro n c _
    show (FX9_tags_187 m_facts (nI N) m_kind m_head m_body m_except m_strength m_off m_over m_came m_known m_fresh m_rounds) rc48 kt48 rc165 kt165 kt187 (n + 1) x1 (nI t) (nI 20) c known fresh rounds = _
    rw [FX9_tags_187, if_pos (show (20 : Int32) ≤ nI 20 by decide)]) (by
    intro n i c hi h
    subst h
    show ∃ s' : Nat → Int32, _ ∧ (FX9_tags_187 m_facts (nI N) m_kind m_head m_body m_except m_strength m_off m_over m_came m_known m_fresh m_rounds) rc48 kt48 rc165 kt165 kt187 (n + 1) x1 (nI t) (nI i) (zcm came (fresh t) rounds t i) known fresh rounds = (FX9_tags_187 m_facts (nI N) m_kind m_head m_body m_except m_strength m_off m_over m_came m_known m_fresh m_rounds) rc48 kt48 rc165 kt165 kt187 n x1 (nI t) (nI (i + 1)) s' known fresh rounds
    rw [FX9_tags_187, if_neg (show ¬ (20 : Int32) ≤ nI i from nI_ge (b := 20) hi (by decide))]
    simp only [bnd, zh9 (show i < 32 by omega), nI_clamp (show t < 2 ^ 31 by omega), zi0, nI_1, z20 ht hi]
    cases h : zb (fresh t) i
    · exact ⟨_, zcm_n h, rfl⟩
    · exact ⟨_, zcm_y h, rfl⟩) 21 0 came (by omega) (by omega) (zcm_0 _ _ _ _).symm
  subst hs
  exact e
theorem r_t165 {rc48 : (Int32) → (Nat → Int32) → (Nat → Int32) → (Nat → Int32) → (Int32) → ((Nat → Int32) × (Nat → Int32) × (Nat → Int32) × (Int32))} {kt48 : (Nat → Int32) → (Nat → Int32) → (Nat → Int32) → (Int32) → ((Nat → Int32) × (Nat → Int32) × (Nat → Int32) × (Int32))} {kt165 : (Int32) → (Nat → Int32) → (Nat → Int32) → (Nat → Int32) → (Int32) → ((Nat → Int32) × (Nat → Int32) × (Nat → Int32) × (Int32))} {x1 : Int32} (came known fresh : Nat → Int32) (rounds : Int32) : ∃ s : (Nat → Int32) × (Nat → Int32), ((∀ t, s.2 t = if t < 4 then known t ||| fresh t else known t) ∧ ∀ t q, t < 4 → q < 20 → s.1 (20 * t + q) = if zb (fresh t) q = true then rounds else came (20 * t + q)) ∧ (FX9_tags_165 m_facts (nI N) m_kind m_head m_body m_except m_strength m_off m_over m_came m_known m_fresh m_rounds) rc48 kt48 kt165 5 x1 0 came known fresh rounds = kt165 x1 s.1 s.2 fresh rounds := by
  refine (zloopI (L := fun n x s => (FX9_tags_165 m_facts (nI N) m_kind m_head m_body m_except m_strength m_off m_over m_came m_known m_fresh m_rounds) rc48 kt48 kt165 n x1 x s.1 s.2 fresh rounds) (kt := fun s => kt165 x1 s.1 s.2 fresh rounds) 4 (I := fun i s => (∀ t, s.2 t = if t < i then known t ||| fresh t else known t) ∧ ∀ t q, t < 4 → q < 20 → s.1 (20 * t + q) = if t < i ∧ zb (fresh t) q = true then rounds else came (20 * t + q)) ?_ ?_ 5 0 (came, known) (by omega) (by omega) ⟨fun t => by rw [if_neg (Nat.not_lt_zero t)], fun t q _ _ => by rw [if_neg (fun z => absurd z.1 (Nat.not_lt_zero t))]⟩).imp (fun s h => ⟨⟨h.1.1, fun t q ht hq => ?_⟩, h.2⟩)
  · intro n s _
    show (FX9_tags_165 m_facts (nI N) m_kind m_head m_body m_except m_strength m_off m_over m_came m_known m_fresh m_rounds) rc48 kt48 kt165 (n + 1) x1 (nI 4) s.1 s.2 fresh rounds = _
    rw [FX9_tags_165, if_pos (show (4 : Int32) ≤ nI 4 by decide)]
  · intro n i s hi ⟨h1, h2⟩
    show ∃ s' : (Nat → Int32) × (Nat → Int32), _ ∧ (FX9_tags_165 m_facts (nI N) m_kind m_head m_body m_except m_strength m_off m_over m_came m_known m_fresh m_rounds) rc48 kt48 kt165 (n + 1) x1 (nI i) s.1 s.2 fresh rounds = (FX9_tags_165 m_facts (nI N) m_kind m_head m_body m_except m_strength m_off m_over m_came m_known m_fresh m_rounds) rc48 kt48 kt165 n x1 (nI (i + 1)) s'.1 s'.2 fresh rounds
    rw [FX9_tags_165, if_neg (show ¬ (4 : Int32) ≤ nI i from nI_ge (b := 4) hi (by decide)), r_t187 hi, nI_clamp (show i < 2 ^ 31 by omega)]
    refine ⟨(zcm s.1 (fresh i) rounds i 20, upd s.2 i (s.2 i ||| fresh i)), ⟨fun t => ?_, fun t q ht hq => ?_⟩, by unfold FX9_tags_227; rw [nI_1]⟩
    · show upd s.2 i (s.2 i ||| fresh i) t = _
      by_cases e : t = i
      · subst e
        rw [pk_us, h1 t, if_neg (Nat.lt_irrefl t), if_pos (Nat.lt_succ_self t)]
      · rw [pk_un e, h1 t]
        by_cases c : t < i
        · rw [if_pos c, if_pos (by omega)]
        · rw [if_neg c, if_neg (by omega)]
    · show zcm s.1 (fresh i) rounds i 20 (20 * t + q) = _
      rw [zcm_at hq, h2 t q ht hq]
      by_cases e : t = i
      · subst e
        by_cases h : zb (fresh t) q = true
        · rw [if_pos ⟨rfl, h⟩, if_pos ⟨Nat.lt_succ_self t, h⟩]
        · rw [if_neg (fun z => h z.2), if_neg (fun z => h z.2), if_neg (fun z => h z.2)]
      · rw [if_neg (fun z => e z.1)]
        by_cases c : t < i ∧ zb (fresh t) q = true
        · rw [if_pos c, if_pos ⟨by omega, c.2⟩]
        · rw [if_neg c, if_neg (fun z => c ⟨by omega, z.2⟩)]
  · rw [h.1.2 t q ht hq]
    by_cases c : zb (fresh t) q = true
    · rw [if_pos ⟨ht, c⟩, if_pos c]
    · rw [if_neg (fun z => c z.2), if_neg c]
/-- one round of the reference: flag, came, known, fresh, rounds behind it -/
def zrnd (kd hd bd ex sg of ov : Nat → Int32) (fa : Int32) (N : Nat) (came known : Nat → Int32) (rounds : Int32) (s : Int32 × (Nat → Int32) × (Nat → Int32) × (Nat → Int32) × Int32) : Prop :=
  (∀ t, t < 4 → zM (s.2.2.2.1 t) 20 (aNew kd hd bd ex sg of ov fa N known t)) ∧ zfl s.1 4 s.2.2.2.1 ∧ s.2.2.2.2 = rounds + s.1 ∧ (∀ t, t < 4 → s.2.2.1 t = known t ||| s.2.2.2.1 t) ∧ ∀ t q, t < 4 → q < 20 → s.2.1 (20 * t + q) = if zb (s.2.2.2.1 t) q = true then s.2.2.2.2 else came (20 * t + q)
theorem r_t48 {kt48 : (Nat → Int32) → (Nat → Int32) → (Nat → Int32) → (Int32) → ((Nat → Int32) × (Nat → Int32) × (Nat → Int32) × (Int32))} {n : Nat} (hN : N ≤ 16) (came known fresh : Nat → Int32) (rounds : Int32) : ∃ s, zrnd m_kind m_head m_body m_except m_strength m_off m_over m_facts N came known rounds s ∧ (FX9_tags_48 m_facts (nI N) m_kind m_head m_body m_except m_strength m_off m_over m_came m_known m_fresh m_rounds) kt48 (n + 1) 1 came known fresh rounds = (FX9_tags_48 m_facts (nI N) m_kind m_head m_body m_except m_strength m_off m_over m_came m_known m_fresh m_rounds) kt48 n s.1 s.2.1 s.2.2.1 s.2.2.2.1 s.2.2.2.2 := by
  rw [FX9_tags_48, if_neg (by decide)]
  refine zx (r_t56 hN came known fresh rounds) (fun s hs => ?_)
  obtain ⟨x, f⟩ := s
  obtain ⟨h1, h2⟩ := hs
  dsimp only at h1 h2 ⊢
  unfold FX9_tags_145 FX9_tags_159
  have hx : x = 0 ∨ x = 1 := by
    rcases h2 with h2 | h2
    · exact Or.inl h2.1
    · exact Or.inr h2.1
  rcases hx with rfl | rfl
  · rw [if_pos rfl]
    refine zx (r_t165 came known f (rounds + 0)) (fun s hs => ?_)
    exact ⟨(0, s.1, s.2, f, rounds + 0), ⟨h1, h2, rfl, fun t ht => by show s.2 t = _; rw [hs.1 t, if_pos ht], hs.2⟩, rfl⟩
  · rw [if_neg (by decide)]
    refine zx (r_t165 came known f (rounds + 1)) (fun s hs => ?_)
    exact ⟨(1, s.1, s.2, f, rounds + 1), ⟨h1, h2, rfl, fun t ht => by show s.2 t = _; rw [hs.1 t, if_pos ht], hs.2⟩, rfl⟩
theorem r_t23 {kt23 : (Nat → Int32) → (Nat → Int32) → (Nat → Int32) → (Int32) → ((Nat → Int32) × (Nat → Int32) × (Nat → Int32) × (Int32))} (came known fresh : Nat → Int32) (rounds : Int32) : ∃ s : Nat → Int32, (∀ t, t < 4 → s t = 0) ∧ (FX9_tags_23 m_facts (nI N) m_kind m_head m_body m_except m_strength m_off m_over m_came m_known m_fresh m_rounds) kt23 5 0 came known fresh rounds = kt23 came s fresh rounds := by
  refine zloopI (L := fun n x s => (FX9_tags_23 m_facts (nI N) m_kind m_head m_body m_except m_strength m_off m_over m_came m_known m_fresh m_rounds) kt23 n x came s fresh rounds) (kt := fun s => kt23 came s fresh rounds) 4 (I := fun i s => ∀ t, t < i → s t = 0) ?_ ?_ 5 0 known (by omega) (by omega) (fun t h => absurd h (Nat.not_lt_zero t))
  · intro n s _
    show (FX9_tags_23 m_facts (nI N) m_kind m_head m_body m_except m_strength m_off m_over m_came m_known m_fresh m_rounds) kt23 (n + 1) (nI 4) came s fresh rounds = _
    rw [FX9_tags_23, if_pos (show (4 : Int32) ≤ nI 4 by decide)]
  · intro n i s hi h
    show ∃ s' : Nat → Int32, _ ∧ (FX9_tags_23 m_facts (nI N) m_kind m_head m_body m_except m_strength m_off m_over m_came m_known m_fresh m_rounds) kt23 (n + 1) (nI i) came s fresh rounds = (FX9_tags_23 m_facts (nI N) m_kind m_head m_body m_except m_strength m_off m_over m_came m_known m_fresh m_rounds) kt23 n (nI (i + 1)) came s' fresh rounds
    rw [FX9_tags_23, if_neg (show ¬ (4 : Int32) ≤ nI i from nI_ge (b := 4) hi (by decide)), nI_1, nI_clamp (show i < 2 ^ 31 by omega)]
    refine ⟨upd s i 0, fun t ht => ?_, rfl⟩
    by_cases e : t = i
    · subst e; rw [pk_us]
    · rw [pk_un e]; exact h t (by omega)
theorem r_t2 {kt2 : (Nat → Int32) → (Nat → Int32) → (Nat → Int32) → (Int32) → ((Nat → Int32) × (Nat → Int32) × (Nat → Int32) × (Int32))} (came known fresh : Nat → Int32) (rounds : Int32) : ∃ s : Nat → Int32, (∀ j, j < 80 → s j = 0) ∧ (FX9_tags_2 m_facts (nI N) m_kind m_head m_body m_except m_strength m_off m_over m_came m_known m_fresh m_rounds) kt2 81 0 came known fresh rounds = kt2 s known fresh rounds := by
  refine zloopI (L := fun n x s => (FX9_tags_2 m_facts (nI N) m_kind m_head m_body m_except m_strength m_off m_over m_came m_known m_fresh m_rounds) kt2 n x s known fresh rounds) (kt := fun s => kt2 s known fresh rounds) 80 (I := fun i s => ∀ j, j < i → s j = 0) ?_ ?_ 81 0 came (by omega) (by omega) (fun t h => absurd h (Nat.not_lt_zero t))
  · intro n s _
    show (FX9_tags_2 m_facts (nI N) m_kind m_head m_body m_except m_strength m_off m_over m_came m_known m_fresh m_rounds) kt2 (n + 1) (nI 80) s known fresh rounds = _
    rw [FX9_tags_2, if_pos (show (80 : Int32) ≤ nI 80 by decide)]
  · intro n i s hi h
    show ∃ s' : Nat → Int32, _ ∧ (FX9_tags_2 m_facts (nI N) m_kind m_head m_body m_except m_strength m_off m_over m_came m_known m_fresh m_rounds) kt2 (n + 1) (nI i) s known fresh rounds = (FX9_tags_2 m_facts (nI N) m_kind m_head m_body m_except m_strength m_off m_over m_came m_known m_fresh m_rounds) kt2 n (nI (i + 1)) s' known fresh rounds
    rw [FX9_tags_2, if_neg (show ¬ (80 : Int32) ≤ nI i from nI_ge (b := 80) hi (by decide)), nI_1, nI_clamp (show i < 2 ^ 31 by omega)]
    refine ⟨upd s i 0, fun t ht => ?_, rfl⟩
    by_cases e : t = i
    · subst e; rw [pk_us]
    · rw [pk_un e]; exact h t (by omega)
theorem r_t0 : ∃ s : (Nat → Int32) × (Nat → Int32), ((∀ j, j < 80 → s.1 j = 0) ∧ ∀ t, t < 4 → s.2 t = 0) ∧ (FX9_tags m_facts (nI N) m_kind m_head m_body m_except m_strength m_off m_over m_came m_known m_fresh m_rounds) = (FX9_tags_48 m_facts (nI N) m_kind m_head m_body m_except m_strength m_off m_over m_came m_known m_fresh m_rounds) ((FX9_tags_236 m_facts (nI N) m_kind m_head m_body m_except m_strength m_off m_over m_came m_known m_fresh m_rounds)) 82 1 s.1 s.2 m_fresh 0 := by
  unfold FX9_tags
  refine zx (r_t2 m_came m_known m_fresh m_rounds) (fun c hc => ?_)
  unfold FX9_tags_21
  refine zx (r_t23 c m_known m_fresh m_rounds) (fun k hk => ?_)
  unfold FX9_tags_41
  exact ⟨(c, k), ⟨hc, hk⟩, rfl⟩
end ZTAGS
