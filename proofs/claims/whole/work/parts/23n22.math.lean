/-! what the walks of the reference's proof ask for -/
section ZNLS
variable {m_kind m_head m_body m_except m_strength m_off m_over K : Nat → Int32} {N : Nat}
theorem r_zNL {q : Nat} (hN : N ≤ 16) (hq : q < 20) (h : aLikely m_kind m_head m_body m_except m_strength m_off m_over N K q = true) : zNL (nI N) m_kind m_head m_body m_except m_strength m_off m_over K (nI q) := by
  intro hc
  rw [zc0, zh9 (by omega)] at hc
  have c : zb (K 0) q = false := by
    cases e : zb (K 0) q
    · rfl
    · rw [e] at hc; exact absurd hc (by decide)
  unfold aLikely at h
  rw [c, Bool.false_or] at h
  simp only [Bool.and_eq_true] at h
  obtain ⟨⟨h1, h2⟩, h3⟩ := h
  have h3 : zE (aThr m_kind m_head m_body m_except m_strength m_off m_over N K q) N = false := by
    cases e : zE (aThr m_kind m_head m_body m_except m_strength m_off m_over N K q) N
    · rfl
    · rw [e] at h3; cases h3
  refine ⟨?_, fun r hr hlt hf hl => ?_⟩
  · rw [r_forcing1 hN]
    unfold aFr1
    rw [zFr h2]
    have := (zE_F h2).1
    exact vp_in_nI (by omega) (by decide)
  · have hr' : r < N := (nI_ltI (by omega) (by omega)).mp hlt
    rw [aOth9 hq, r_isFor hr] at hf
    rw [r_falls hr] at hl
    have c1 : aFor m_head m_off r (nI (aOth q)) = true := by
      cases e : aFor m_head m_off r (nI (aOth q))
      · rw [e] at hf; exact absurd rfl hf
      · rfl
    have c2 : aFal m_body m_except K r = false := by
      cases e : aFal m_body m_except K r
      · rfl
      · rw [e] at hl; exact absurd hl (by decide)
    have h4 := zE_f.mp h3 r hr'
    unfold aThr at h4
    rw [c1, c2] at h4
    have h5 : zE (fun s => aFrc m_kind m_head m_body m_except m_off K q s && aAbv m_strength m_over s r) N = true := by
      cases e : zE (fun s => aFrc m_kind m_head m_body m_except m_off K q s && aAbv m_strength m_over s r) N
      · rw [e] at h4; cases h4
      · rfl
    rw [r_forcing2 hN hr]
    unfold aFr2
    rw [zFr h5]
    have := (zE_F h5).1
    exact vp_in_nI (by omega) (by decide)
end ZNLS
theorem q_zPv {C : S0} {R : zC} (h : zRel C R) (G : zTG) : zPv (qfa R) (qru R) (qkd R) (qhd R) (qbd R) (qex R) (qsg R) (qof R) (qov R) G.1 G.2.1 G.2.2.1 G.2.2.2 := by
  intro T hT
  obtain ⟨N, hN, hru, k⟩ := q_come h ((fun _ => 0), 0, (fun _ => 0), (fun _ => 0), (fun _ => 0), (fun _ => 0), (fun _ => 0), (fun _ => 0), 0, 0, 0, 0, 0) G
  have hT : qtags R G = T := hT
  rw [hT] at k
  have hz := zRd_of k
  refine ⟨fun j hj => hz.1 j hj, fun ρ j hj h1 h2 hc ht K hK => ?_⟩
  rw [(z_i20 hj).2, hru]
  rw [(z_i20 hj).1] at ht
  have h2' : j / 20 = 2 := (nI_eq (b := 2) (by omega) (by omega)).mp ht
  have hA := hz.2 2 (j % 20) ρ (by decide) (by omega) h1 h2 (by rw [show 20 * 2 + j % 20 = j by omega]; exact hc) K (fun t' ht' => by rw [hK t' ht']; exact zKc_M T.1 ρ ht')
  exact r_zNL hN (by omega) hA
theorem q_hpl {C : S0} {R : zC} (h : zRel C R) (G : zTG) {nd ls : Nat → Int32} {ln x1 x2 : Int32} : ∀ T, vp_in x1 20 → vp_in x2 4 → FX9_proves (qfa R) (qru R) (qkd R) (qhd R) (qbd R) (qex R) (qsg R) (qof R) (qov R) G.1 G.2.1 G.2.2.1 G.2.2.2 nd ls ln x1 x2 = T → ¬ T.1 = 0 → ∃ N : Nat, N ≤ 80 ∧ T.2.2.2.2.2.2.2 = nI N := by
  intro T hx hy hT hn
  obtain ⟨q, hq, rfl⟩ := vp_in_of hx (by decide)
  obtain ⟨t, ht, rfl⟩ := vp_in_of hy (by decide)
  obtain ⟨N, hN, hru, k⟩ := q_come h ((fun _ => 0), 0, (fun _ => 0), (fun _ => 0), (fun _ => 0), (fun _ => 0), (fun _ => 0), (fun _ => 0), 0, 0, 0, 0, 0) G
  obtain ⟨ρ, hρ, hc⟩ := (zRd_of k).1 (20 * t + q) (by omega)
  rw [r_proves hN hru rfl (zRd_of k) ht hq hc hρ] at hT
  by_cases h0 : ρ = 0
  · rw [if_pos h0] at hT
    subst hT
    exact absurd rfl hn
  · rw [if_neg h0] at hT
    subst hT
    exact ⟨_, zlis_80 hρ, rfl⟩
