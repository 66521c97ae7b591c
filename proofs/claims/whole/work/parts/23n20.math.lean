/-! a proof of the class, whole -/
section ZKB
variable {pr_wanted : Nat → Int32} {pr_steps : Nat → Int32} {pr_length : Int32} {v_known : Nat → Int32} {v_strictFor : Nat → Int32} {v_forwardFor : Nat → Int32} {v_allFor : Nat → Int32} {v_above : Nat → Int32} {v_facts : Int32} {v_applies : Int32} {v_falls : Int32} {v_sureBodies : Int32} {v_neverBodies : Int32} {c_kind : Nat → Int32} {c_head : Nat → Int32} {c_body : Nat → Int32} {c_excepts : Nat → Int32} {c_power : Nat → Int32} {c_beats : Nat → Int32} {c_facts : Int32} {c_size : Int32} {c_shut : Int32} {rd_came : Nat → Int32} {x3 : Int32} {x4 : Int32}
theorem k_build {R : zC} {N t q h : Nat} {c W : Nat → Int32} (hN : N ≤ 16) (hs : zSame N c_kind c_head c_body c_excepts c_power c_beats c_shut (qkd R) (qhd R) (qbd R) (qex R) (qsg R) (qof R) (qov R)) (hv : zVal N (qkd R) (qhd R) (qbd R) (qex R) (qsg R) (qov R)) (hsz : c_size = nI N) (hfa : c_facts = qfa R) (hc8 : ∀ j : Nat, j < 80 → rd_came j = c j) (hz : zRd R N c) (ht : t < 4) (hq : q < 20) (hx3 : x3 = nI t) (hx4 : x4 = nI q) (hc : c (20 * t + q) = nI h) (hh : h ≤ 80) (hW : upd (zfill 4 0 pr_wanted) x3.toNatClampNeg (1 <<< (x4 &&& 31)) = W) : ∃ V, (FX3_build pr_wanted pr_steps pr_length v_known v_strictFor v_forwardFor v_allFor v_above v_facts v_applies v_falls v_sureBodies v_neverBodies c_kind c_head c_body c_excepts c_power c_beats c_facts c_size c_shut rd_came x3 x4) = (zdn R N c h W, (zlis c (zdn R N c h W) h (pr_steps, 0)).1, nI (zlis c (zdn R N c h W) h (pr_steps, 0)).2, V) := by
  have er : FX4_roundOf rd_came x3 x4 = nI h := by
    rw [hx3, hx4]
    unfold FX4_roundOf
    rw [z20' ht hq, hc8 _ (by omega), hc]
  obtain ⟨s, ⟨-, hw⟩, es⟩ := k_enter (v_known := v_known) (v_strictFor := v_strictFor) (v_forwardFor := v_forwardFor) (v_allFor := v_allFor) (v_above := v_above) (v_facts := v_facts) (c_facts := c_facts) hN hs hv
  have es : FX6_enter v_known v_strictFor v_forwardFor v_allFor v_above v_facts c_kind c_head c_power c_beats c_facts c_size c_shut = s := by rw [hsz]; exact es
  rw [hfa] at hw
  have e : ∃ (K' : Nat → Int32) (a' f' s' n' : Int32), (FX3_build_39 pr_wanted pr_steps pr_length v_known v_strictFor v_forwardFor v_allFor v_above v_facts v_applies v_falls v_sureBodies v_neverBodies c_kind c_head c_body c_excepts c_power c_beats c_facts c_size c_shut rd_came x3 x4) ((FX3_build_66 pr_wanted pr_steps pr_length v_known v_strictFor v_forwardFor v_allFor v_above v_facts v_applies v_falls v_sureBodies v_neverBodies c_kind c_head c_body c_excepts c_power c_beats c_facts c_size c_shut rd_came x3 x4)) 82 (nI h) (nI h) W pr_steps pr_length s.1 s.2.1 s.2.2.1 s.2.2.2.1 s.2.2.2.2.1 s.2.2.2.2.2 v_applies v_falls v_sureBodies v_neverBodies = (FX3_build_66 pr_wanted pr_steps pr_length v_known v_strictFor v_forwardFor v_allFor v_above v_facts v_applies v_falls v_sureBodies v_neverBodies c_kind c_head c_body c_excepts c_power c_beats c_facts c_size c_shut rd_came x3 x4) (nI h) (zdn R N c h W) pr_steps pr_length K' s.2.1 s.2.2.1 s.2.2.2.1 s.2.2.2.2.1 s.2.2.2.2.2 a' f' s' n' := k_b39 hN hz hsz hc8 hw (fun r hr => ⟨(hs r hr).2.2.1, (hs r hr).2.2.2.1⟩) h hh 82 s.1 W v_applies v_falls v_sureBodies v_neverBodies (by omega)
  obtain ⟨K', a', f', s', n', e⟩ := e
  have k : (FX3_build_74 pr_wanted pr_steps pr_length v_known v_strictFor v_forwardFor v_allFor v_above v_facts v_applies v_falls v_sureBodies v_neverBodies c_kind c_head c_body c_excepts c_power c_beats c_facts c_size c_shut rd_came x3 x4) ((FX3_build_94 pr_wanted pr_steps pr_length v_known v_strictFor v_forwardFor v_allFor v_above v_facts v_applies v_falls v_sureBodies v_neverBodies c_kind c_head c_body c_excepts c_power c_beats c_facts c_size c_shut rd_came x3 x4)) 82 (nI h) (nI (0 + 1)) (zdn R N c h W) (zlis c (zdn R N c h W) 0 (pr_steps, 0)).1 (nI (zlis c (zdn R N c h W) 0 (pr_steps, 0)).2) K' s.2.1 s.2.2.1 s.2.2.2.1 s.2.2.2.2.1 s.2.2.2.2.2 a' f' s' n' = (FX3_build_94 pr_wanted pr_steps pr_length v_known v_strictFor v_forwardFor v_allFor v_above v_facts v_applies v_falls v_sureBodies v_neverBodies c_kind c_head c_body c_excepts c_power c_beats c_facts c_size c_shut rd_came x3 x4) (zdn R N c h W) (zlis c (zdn R N c h W) h (pr_steps, 0)).1 (nI (zlis c (zdn R N c h W) h (pr_steps, 0)).2) K' s.2.1 s.2.2.1 s.2.2.2.1 s.2.2.2.2.1 s.2.2.2.2.2 a' f' s' n' := k_b74 hh hc8 h 0 82 (by omega) (by omega)
  refine ⟨(K', s.2.1, s.2.2.1, s.2.2.2.1, s.2.2.2.2.1, s.2.2.2.2.2, a', f', s', n'), ?_⟩
  unfold FX3_build
  rw [bndx, er, bndx, es, hW]
  refine e.trans ?_
  unfold FX3_build_66
  refine Eq.trans ?_ (k.trans ?_)
  · rfl
  · unfold FX3_build_94
    rfl
end ZKB
theorem zwf_eq {w w' : Nat → Int32} {t q : Nat} (ht : t < 4) : ∀ i, i < 4 → upd (zfill 4 0 w) (nI t).toNatClampNeg (1 <<< (nI q &&& 31)) i = zwf w' t q i := fun i hi => by
  rw [nI_clamp (by omega)]
  show _ = upd (zw4 w' 4) t (1 <<< (nI q &&& 31)) i
  by_cases e : i = t
  · rw [e, pk_us, pk_us]
  · rw [pk_un e, pk_un e, zw4_lt w' 4 i hi]
    exact if_pos hi
