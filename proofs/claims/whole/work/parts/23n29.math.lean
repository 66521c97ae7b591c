/-! words: all statements -/
section ZLOOP
variable {rc_isSettled : Int32} {wd_tape : Nat → Int32} {wd_sort : Nat → Int32} {wd_head : Nat → Int32} {wd_body : Nat → Int32} {wd_excepts : Nat → Int32} {wd_power : Nat → Int32} {wd_begins : Nat → Int32} {wd_length : Int32} {wd_at : Int32} {wd_told : Int32} {c_kind : Nat → Int32} {c_head : Nat → Int32} {c_body : Nat → Int32} {c_excepts : Nat → Int32} {c_power : Nat → Int32} {c_beats : Nat → Int32} {c_facts : Int32} {c_size : Int32} {c_shut : Int32} {d_kind : Nat → Int32} {d_head : Nat → Int32} {d_body : Nat → Int32} {d_excepts : Nat → Int32} {d_power : Nat → Int32} {d_beats : Nat → Int32} {d_facts : Int32} {d_size : Int32} {d_shut : Int32} {hi_sg : Nat → Nat} {hi_y : Nat → S0} {hi_D : Nat} {hi_un : Int32}
variable {m_facts : Int32} {m_rules : Int32} {m_kind : Nat → Int32} {m_head : Nat → Int32} {m_body : Nat → Int32} {m_except : Nat → Int32} {m_strength : Nat → Int32} {m_off : Nat → Int32} {m_over : Nat → Int32} {m_change : Nat → Int32} {m_done : Int32} {m_undone : Int32} {m_tape : Nat → Int32} {m_taped : Int32} {m_before : Nat → Int32} {m_changeBefore : Nat → Int32} {m_at : Int32} {m_word : Int32} {m_readHead : Int32} {m_readBody : Int32} {m_readExcept : Int32} {m_readKind : Int32} {m_readStrength : Int32} {m_one : Int32} {m_other : Int32} {m_latest : Int32}
variable {f g : Nat → Int32} {L : Nat}
theorem x_loop {kt70 : (Int32) → (Int32) → (Int32) → (Int32) → (Int32) → (Nat → Int32) → (Nat → Int32) → (Nat → Int32) → (Nat → Int32) → (Nat → Int32) → (Nat → Int32) → (Nat → Int32) → (Nat → Int32) → (Int32) → (Int32) → (Nat → Int32) → (Nat → Int32) → (Int32) → (Int32) → (Int32) → (Int32) → (Int32) → (Int32) → (Int32) → (Int32) → (Int32) → (Int32) → (Int32 × (Int32) × (Int32) × (Nat → Int32) × (Nat → Int32) × (Nat → Int32) × (Nat → Int32) × (Nat → Int32) × (Nat → Int32) × (Nat → Int32) × (Nat → Int32) × (Int32) × (Int32) × (Nat → Int32) × (Nat → Int32) × (Int32) × (Int32) × (Int32) × (Int32) × (Int32) × (Int32) × (Int32) × (Int32) × (Int32) × (Int32))} {isS x1 x2 a7 a8 ln at7 td un0 : Int32} {S H B E P G a1 a2 a3 a4 a5 a6 be cb : Nat → Int32} {sg0 : Nat → Nat} {y0 : Nat → S0} {D0 : Nat} : ∀ (ds : List (Nat × zD5)) (a i cnt : Nat) (dC C : S0) (R : zC) (sg : Nat → Nat) (y : Nat → S0) (D U : Nat) (ch : Nat → Int32) (isC w rh rb re rk rs o1 o2 l : Int32), zWl f g L a ds → i + ds.length ≤ 60 → zWh ds i S H B E P G → zRel dC R → zRel C R → g0_shut C = c_shut → zHis sg y D U ch R → zcgs ch → D ≤ 12 → td = nI (i + ds.length) → cnt + ds.length ≤ 60 → L ≤ 120 → (∀ j, j < L → f j = g j) → (∃ (b : Nat) (z1 z2 z3 z4 z5 z6 : Nat → Int32) (z7 z8 : Int32), (∀ n, i + n = 61 → (FX8_reads_45 rc_isSettled wd_tape wd_sort wd_head wd_body wd_excepts wd_power wd_begins wd_length wd_at wd_told c_kind c_head c_body c_excepts c_power c_beats c_facts c_size c_shut d_kind d_head d_body d_excepts d_power d_beats d_facts d_size d_shut hi_sg hi_y hi_D hi_un) ((FX8_reads_91 rc_isSettled wd_tape wd_sort wd_head wd_body wd_excepts wd_power wd_begins wd_length wd_at wd_told c_kind c_head c_body c_excepts c_power c_beats c_facts c_size c_shut d_kind d_head d_body d_excepts d_power d_beats d_facts d_size d_shut hi_sg hi_y hi_D hi_un)) n (nI i) isS S H B E P G ln at7 td a1 a2 a3 a4 a5 a6 a7 a8 (g0_kind dC) (g0_head dC) (g0_body dC) (g0_excepts dC) (g0_power dC) (g0_beats dC) (g0_facts dC) (g0_size dC) (g0_shut dC) sg0 y0 D0 un0 = ((-2000) - nI b, isS, S, H, B, E, P, G, ln, at7, td, a1, a2, a3, a4, a5, a6, a7, a8, z1, z2, z3, z4, z5, z6, z7, z8, g0_shut dC, sg0, y0, D0, un0)) ∧ ∃ (R' : zC) (ch' : Nat → Int32) (dn' ud' at' w' rh' rb' re' rk' rs' o1' o2' l' : Int32), qout R R' ∧ ∀ m, ds.length < m → (FX9_readsAll_70 m_facts m_rules m_kind m_head m_body m_except m_strength m_off m_over m_change m_done m_undone g (nI L) m_before m_changeBefore m_at m_word m_readHead m_readBody m_readExcept m_readKind m_readStrength m_one m_other m_latest) kt70 m x1 x2 (nI cnt) 1 (qfa R) (qru R) (qkd R) (qhd R) (qbd R) (qex R) (qsg R) (qof R) (qov R) ch (nI D) (nI U) be cb (nI a) w rh rb re rk rs o1 o2 l = kt70 x1 x2 (nI b) (qfa R') (qru R') (qkd R') (qhd R') (qbd R') (qex R') (qsg R') (qof R') (qov R') ch' dn' ud' be cb at' w' rh' rb' re' rk' rs' o1' o2' l') ∨ (∃ (z1 z2 z3 z4 z5 z6 : Nat → Int32) (z7 z8 : Int32) (C' : S0) (R' : zC) (sg' : Nat → Nat) (y' : Nat → S0) (D' : Nat) (ch' : Nat → Int32) (un' dn' ud' at' w' rh' rb' re' rk' rs' o1' o2' l' : Int32), (∀ n, i + n = 61 → (FX8_reads_45 rc_isSettled wd_tape wd_sort wd_head wd_body wd_excepts wd_power wd_begins wd_length wd_at wd_told c_kind c_head c_body c_excepts c_power c_beats c_facts c_size c_shut d_kind d_head d_body d_excepts d_power d_beats d_facts d_size d_shut hi_sg hi_y hi_D hi_un) ((FX8_reads_91 rc_isSettled wd_tape wd_sort wd_head wd_body wd_excepts wd_power wd_begins wd_length wd_at wd_told c_kind c_head c_body c_excepts c_power c_beats c_facts c_size c_shut d_kind d_head d_body d_excepts d_power d_beats d_facts d_size d_shut hi_sg hi_y hi_D hi_un)) n (nI i) isS S H B E P G ln at7 td a1 a2 a3 a4 a5 a6 a7 a8 (g0_kind dC) (g0_head dC) (g0_body dC) (g0_excepts dC) (g0_power dC) (g0_beats dC) (g0_facts dC) (g0_size dC) (g0_shut dC) sg0 y0 D0 un0 = (FX8_reads_91 rc_isSettled wd_tape wd_sort wd_head wd_body wd_excepts wd_power wd_begins wd_length wd_at wd_told c_kind c_head c_body c_excepts c_power c_beats c_facts c_size c_shut d_kind d_head d_body d_excepts d_power d_beats d_facts d_size d_shut hi_sg hi_y hi_D hi_un) isS S H B E P G ln at7 td a1 a2 a3 a4 a5 a6 a7 a8 z1 z2 z3 z4 z5 z6 z7 z8 (g0_shut dC) sg0 y0 D0 un0) ∧ (∀ m, ds.length < m → (FX9_readsAll_70 m_facts m_rules m_kind m_head m_body m_except m_strength m_off m_over m_change m_done m_undone g (nI L) m_before m_changeBefore m_at m_word m_readHead m_readBody m_readExcept m_readKind m_readStrength m_one m_other m_latest) kt70 m x1 x2 (nI cnt) 1 (qfa R) (qru R) (qkd R) (qhd R) (qbd R) (qex R) (qsg R) (qof R) (qov R) ch (nI D) (nI U) be cb (nI a) w rh rb re rk rs o1 o2 l = (nI (cnt + ds.length), qfa R', qru R', qkd R', qhd R', qbd R', qex R', qsg R', qof R', qov R', ch', dn', ud', be, cb, at', w', rh', rb', re', rk', rs', o1', o2', l')) ∧ zCh isC 0 C' sg' y' D' un' R R' ch' dn' ud' ∧ g0_shut C' = c_shut ∧ ∀ n (u1 u2 u3 u4 u5 u6 : Nat → Int32) (u7 u8 u9 : Int32), i + n = 61 → (FX8_reads_93 rc_isSettled wd_tape wd_sort wd_head wd_body wd_excepts wd_power wd_begins wd_length wd_at wd_told c_kind c_head c_body c_excepts c_power c_beats c_facts c_size c_shut d_kind d_head d_body d_excepts d_power d_beats d_facts d_size d_shut hi_sg hi_y hi_D hi_un) ((FX8_reads_127 rc_isSettled wd_tape wd_sort wd_head wd_body wd_excepts wd_power wd_begins wd_length wd_at wd_told c_kind c_head c_body c_excepts c_power c_beats c_facts c_size c_shut d_kind d_head d_body d_excepts d_power d_beats d_facts d_size d_shut hi_sg hi_y hi_D hi_un)) n (nI i) isC S H B E P G ln at7 td (g0_kind C) (g0_head C) (g0_body C) (g0_excepts C) (g0_power C) (g0_beats C) (g0_facts C) (g0_size C) u1 u2 u3 u4 u5 u6 u7 u8 u9 sg y D (nI U) = (FX8_reads_127 rc_isSettled wd_tape wd_sort wd_head wd_body wd_excepts wd_power wd_begins wd_length wd_at wd_told c_kind c_head c_body c_excepts c_power c_beats c_facts c_size c_shut d_kind d_head d_body d_excepts d_power d_beats d_facts d_size d_shut hi_sg hi_y hi_D hi_un) 0 S H B E P G ln at7 td (g0_kind C') (g0_head C') (g0_body C') (g0_excepts C') (g0_power C') (g0_beats C') (g0_facts C') (g0_size C') u1 u2 u3 u4 u5 u6 u7 u8 u9 sg' y' D' un')
  | [], _, _, _, _, _, _, _, _, _, _, _, _, _, _, _, _, _, _, _, _, _, hW, _, _, _, _, _, _, _, _, _, _, _, _ => False.elim hW
  | p :: r, a, i, cnt, dC, C, R, sg, y, D, U, ch, isC, w, rh, rb, re, rk, rs, o1, o2, l, hW, hlen, hh, hRd, hRc, hsh, hH, hg, hD, htd, hcn, hL, hfg => by
    obtain ⟨hp, c, hs, hc⟩ := hW
    obtain ⟨s1, s2, s3, s4, s5⟩ := hs
    obtain ⟨sa, hv⟩ := s3 p.2 rfl
    obtain ⟨hh1, hh2⟩ := hh 0 p rfl
    rw [Nat.add_zero] at hh1 hh2
    rw [List.length_cons] at hlen htd hcn
    rw [hp] at hh2
    obtain ⟨w', rh', rb', re', rk', rs', o1', o2', l', es, er⟩ := s5 w rh rb re rk rs o1 o2 l
    have hr := er p.2 rfl
    generalize hT : FX7_tell S H B E P (g0_kind dC) (g0_head dC) (g0_body dC) (g0_excepts dC) (g0_power dC) (g0_beats dC) (g0_facts dC) (g0_size dC) (nI i) = T
    generalize hTC : FX7_tell S H B E P (g0_kind C) (g0_head C) (g0_body C) (g0_excepts C) (g0_power C) (g0_beats C) (g0_facts C) (g0_size C) (nI i) = Y
    generalize hV : FX9_isDone (qfa R) (qru R) (qkd R) (qhd R) (qbd R) (qex R) (qsg R) (qof R) (qov R) ch (nI D) (nI U) w' rh' rb' re' rk' rs' o1' o2' = V
    have k1 := x_tell (isS := isC) hD hRd hH hg hv (by omega) hh1 hr hT hV
    have k2 := x_tell (isS := isC) hD hRc hH hg hv (by omega) hh1 hr hTC hV
    have hti : ¬ td ≤ nI i := by rw [htd]; exact nI_ge (by omega) (by omega)
    have h45 : ∀ n, (FX8_reads_45 rc_isSettled wd_tape wd_sort wd_head wd_body wd_excepts wd_power wd_begins wd_length wd_at wd_told c_kind c_head c_body c_excepts c_power c_beats c_facts c_size c_shut d_kind d_head d_body d_excepts d_power d_beats d_facts d_size d_shut hi_sg hi_y hi_D hi_un) ((FX8_reads_91 rc_isSettled wd_tape wd_sort wd_head wd_body wd_excepts wd_power wd_begins wd_length wd_at wd_told c_kind c_head c_body c_excepts c_power c_beats c_facts c_size c_shut d_kind d_head d_body d_excepts d_power d_beats d_facts d_size d_shut hi_sg hi_y hi_D hi_un)) (n + 1) (nI i) isS S H B E P G ln at7 td a1 a2 a3 a4 a5 a6 a7 a8 (g0_kind dC) (g0_head dC) (g0_body dC) (g0_excepts dC) (g0_power dC) (g0_beats dC) (g0_facts dC) (g0_size dC) (g0_shut dC) sg0 y0 D0 un0 = if T.1 = 0 then ((-2000) - nI a, isS, S, H, B, E, P, G, ln, at7, td, a1, a2, a3, a4, a5, a6, a7, a8, T.2.1, T.2.2.1, T.2.2.2.1, T.2.2.2.2.1, T.2.2.2.2.2.1, T.2.2.2.2.2.2.1, T.2.2.2.2.2.2.2.1, T.2.2.2.2.2.2.2.2, g0_shut dC, sg0, y0, D0, un0) else (FX8_reads_45 rc_isSettled wd_tape wd_sort wd_head wd_body wd_excepts wd_power wd_begins wd_length wd_at wd_told c_kind c_head c_body c_excepts c_power c_beats c_facts c_size c_shut d_kind d_head d_body d_excepts d_power d_beats d_facts d_size d_shut hi_sg hi_y hi_D hi_un) ((FX8_reads_91 rc_isSettled wd_tape wd_sort wd_head wd_body wd_excepts wd_power wd_begins wd_length wd_at wd_told c_kind c_head c_body c_excepts c_power c_beats c_facts c_size c_shut d_kind d_head d_body d_excepts d_power d_beats d_facts d_size d_shut hi_sg hi_y hi_D hi_un)) n (nI (i + 1)) isS S H B E P G ln at7 td a1 a2 a3 a4 a5 a6 a7 a8 T.2.1 T.2.2.1 T.2.2.2.1 T.2.2.2.2.1 T.2.2.2.2.2.1 T.2.2.2.2.2.2.1 T.2.2.2.2.2.2.2.1 T.2.2.2.2.2.2.2.2 (g0_shut dC) sg0 y0 D0 un0 := fun n => by
      rw [FX8_reads_45, if_neg hti, bndx, hT, nI_clamp (show i < 2 ^ 31 by omega), hh2, nI_1]
    have h70 : ∀ m, (FX9_readsAll_70 m_facts m_rules m_kind m_head m_body m_except m_strength m_off m_over m_change m_done m_undone g (nI L) m_before m_changeBefore m_at m_word m_readHead m_readBody m_readExcept m_readKind m_readStrength m_one m_other m_latest) kt70 (m + 1) x1 x2 (nI cnt) 1 (qfa R) (qru R) (qkd R) (qhd R) (qbd R) (qex R) (qsg R) (qof R) (qov R) ch (nI D) (nI U) be cb (nI a) w rh rb re rk rs o1 o2 l = if V.1 = 0 then kt70 x1 x2 (nI a) V.2.1 V.2.2.1 V.2.2.2.1 V.2.2.2.2.1 V.2.2.2.2.2.1 V.2.2.2.2.2.2.1 V.2.2.2.2.2.2.2.1 V.2.2.2.2.2.2.2.2.1 V.2.2.2.2.2.2.2.2.2.1 V.2.2.2.2.2.2.2.2.2.2.1 V.2.2.2.2.2.2.2.2.2.2.2.1 V.2.2.2.2.2.2.2.2.2.2.2.2 be cb (nI c) w' rh' rb' re' rk' rs' o1' o2' l' else (FX9_readsAll_70 m_facts m_rules m_kind m_head m_body m_except m_strength m_off m_over m_change m_done m_undone g (nI L) m_before m_changeBefore m_at m_word m_readHead m_readBody m_readExcept m_readKind m_readStrength m_one m_other m_latest) kt70 m x1 x2 (nI (cnt + 1)) (FX9_takes g (nI L) (nI c) 59).1 V.2.1 V.2.2.1 V.2.2.2.1 V.2.2.2.2.1 V.2.2.2.2.2.1 V.2.2.2.2.2.2.1 V.2.2.2.2.2.2.2.1 V.2.2.2.2.2.2.2.2.1 V.2.2.2.2.2.2.2.2.2.1 V.2.2.2.2.2.2.2.2.2.2.1 V.2.2.2.2.2.2.2.2.2.2.2.1 V.2.2.2.2.2.2.2.2.2.2.2.2 be cb (FX9_takes g (nI L) (nI c) 59).2 w' rh' rb' re' rk' rs' o1' o2' l' := fun m => by
      rw [FX9_readsAll_70, if_neg (show ¬ (1 : Int32) = 0 by decide), bndx, es]
      dsimp only
      rw [bndx, hV, bndx, nI_1]
    rcases k1 with ⟨t0, v0⟩ | ⟨t1, v1, zd⟩
    · left
      refine ⟨a, T.2.1, T.2.2.1, T.2.2.2.1, T.2.2.2.2.1, T.2.2.2.2.2.1, T.2.2.2.2.2.2.1, T.2.2.2.2.2.2.2.1, T.2.2.2.2.2.2.2.2, fun n hn => ?_, R, ch, nI D, nI U, nI c, w', rh', rb', re', rk', rs', o1', o2', l', qout_r R, fun m hm => ?_⟩
      · cases n with
        | zero => omega
        | succ n => rw [h45, if_pos t0]
      · cases m with
        | zero => omega
        | succ m =>
          rw [h70, v0]
          exact if_pos rfl
    · have hz := k2.resolve_left (fun h => by
        have h0 := h.2
        rw [h0] at v1
        exact absurd (show (0 : Int32) = 1 from v1) (by decide))
      obtain ⟨-, -, hz⟩ := hz
      obtain ⟨z1, z2, ⟨U1, z3, z4, z5⟩, z6, z7, z8, -⟩ := hz
      obtain ⟨-, -, -, zd6, -⟩ := zd
      have hT0 : ¬ T.1 = 0 := by rw [t1]; decide
      have hV0 : ¬ V.1 = 0 := by rw [v1]; decide
      have h93 : ∀ n (u1 u2 u3 u4 u5 u6 : Nat → Int32) (u7 u8 u9 : Int32), (FX8_reads_93 rc_isSettled wd_tape wd_sort wd_head wd_body wd_excepts wd_power wd_begins wd_length wd_at wd_told c_kind c_head c_body c_excepts c_power c_beats c_facts c_size c_shut d_kind d_head d_body d_excepts d_power d_beats d_facts d_size d_shut hi_sg hi_y hi_D hi_un) ((FX8_reads_127 rc_isSettled wd_tape wd_sort wd_head wd_body wd_excepts wd_power wd_begins wd_length wd_at wd_told c_kind c_head c_body c_excepts c_power c_beats c_facts c_size c_shut d_kind d_head d_body d_excepts d_power d_beats d_facts d_size d_shut hi_sg hi_y hi_D hi_un)) (n + 1) (nI i) isC S H B E P G ln at7 td (g0_kind C) (g0_head C) (g0_body C) (g0_excepts C) (g0_power C) (g0_beats C) (g0_facts C) (g0_size C) u1 u2 u3 u4 u5 u6 u7 u8 u9 sg y D (nI U) = (FX8_reads_93 rc_isSettled wd_tape wd_sort wd_head wd_body wd_excepts wd_power wd_begins wd_length wd_at wd_told c_kind c_head c_body c_excepts c_power c_beats c_facts c_size c_shut d_kind d_head d_body d_excepts d_power d_beats d_facts d_size d_shut hi_sg hi_y hi_D hi_un) ((FX8_reads_127 rc_isSettled wd_tape wd_sort wd_head wd_body wd_excepts wd_power wd_begins wd_length wd_at wd_told c_kind c_head c_body c_excepts c_power c_beats c_facts c_size c_shut d_kind d_head d_body d_excepts d_power d_beats d_facts d_size d_shut hi_sg hi_y hi_D hi_un)) n (nI (i + 1)) (FX8_changed isC Y.2.1 Y.2.2.1 Y.2.2.2.1 Y.2.2.2.2.1 Y.2.2.2.2.2.1 Y.2.2.2.2.2.2.1 Y.2.2.2.2.2.2.2.1 Y.2.2.2.2.2.2.2.2 (g0_shut C) sg y D (nI U)).1 S H B E P G ln at7 td Y.2.1 Y.2.2.1 Y.2.2.2.1 Y.2.2.2.2.1 Y.2.2.2.2.2.1 Y.2.2.2.2.2.2.1 Y.2.2.2.2.2.2.2.1 Y.2.2.2.2.2.2.2.2 u1 u2 u3 u4 u5 u6 u7 u8 u9 (FX8_changed isC Y.2.1 Y.2.2.1 Y.2.2.2.1 Y.2.2.2.2.1 Y.2.2.2.2.2.1 Y.2.2.2.2.2.2.1 Y.2.2.2.2.2.2.2.1 Y.2.2.2.2.2.2.2.2 (g0_shut C) sg y D (nI U)).2.1 (FX8_changed isC Y.2.1 Y.2.2.1 Y.2.2.2.1 Y.2.2.2.2.1 Y.2.2.2.2.2.1 Y.2.2.2.2.2.2.1 Y.2.2.2.2.2.2.2.1 Y.2.2.2.2.2.2.2.2 (g0_shut C) sg y D (nI U)).2.2.1 (FX8_changed isC Y.2.1 Y.2.2.1 Y.2.2.2.1 Y.2.2.2.2.1 Y.2.2.2.2.2.1 Y.2.2.2.2.2.2.1 Y.2.2.2.2.2.2.2.1 Y.2.2.2.2.2.2.2.2 (g0_shut C) sg y D (nI U)).2.2.2.1 (FX8_changed isC Y.2.1 Y.2.2.1 Y.2.2.2.1 Y.2.2.2.2.1 Y.2.2.2.2.2.1 Y.2.2.2.2.2.2.1 Y.2.2.2.2.2.2.2.1 Y.2.2.2.2.2.2.2.2 (g0_shut C) sg y D (nI U)).2.2.2.2 := fun n u1 u2 u3 u4 u5 u6 u7 u8 u9 => by
        rw [FX8_reads_93, if_neg hti, bndx, hTC, bndx, nI_1, hsh]
      generalize hK : FX8_changed isC Y.2.1 Y.2.2.1 Y.2.2.2.1 Y.2.2.2.2.1 Y.2.2.2.2.2.1 Y.2.2.2.2.2.2.1 Y.2.2.2.2.2.2.2.1 Y.2.2.2.2.2.2.2.2 (g0_shut C) sg y D (nI U) = K at z1 z2 z3 z4 z5 z6 z7 z8 h93
      have hK0 : K.1 = 0 := by rw [← hK]; rfl
      rcases hc with ⟨hr0, hcL⟩ | ⟨hlt, hf, hWr⟩
      · right
        subst hr0
        rw [List.length_nil, Nat.zero_add] at hlen htd hcn
        have e9 : FX9_takes g (nI L) (nI c) 59 = (0, nI c) := by
          rcases x_take hL hfg s2 59 (by decide) with ⟨t1, -⟩ | ⟨-, -, e9, -⟩
          · omega
          · exact e9
        refine ⟨T.2.1, T.2.2.1, T.2.2.2.1, T.2.2.2.2.1, T.2.2.2.2.2.1, T.2.2.2.2.2.2.1, T.2.2.2.2.2.2.2.1, T.2.2.2.2.2.2.2.2, s0_cp C Y.2.1 Y.2.2.1 Y.2.2.2.1 Y.2.2.2.2.1 Y.2.2.2.2.2.1 Y.2.2.2.2.2.2.1 Y.2.2.2.2.2.2.2.1 Y.2.2.2.2.2.2.2.2 (g0_shut C), (V.2.2.2.1, V.2.2.2.2.1, V.2.2.2.2.2.1, V.2.2.2.2.2.2.1, V.2.2.2.2.2.2.2.1, V.2.2.2.2.2.2.2.2.1, V.2.2.2.2.2.2.2.2.2.1, V.2.1, V.2.2.1), K.2.1, K.2.2.1, K.2.2.2.1, V.2.2.2.2.2.2.2.2.2.2.1, K.2.2.2.2, V.2.2.2.2.2.2.2.2.2.2.2.1, V.2.2.2.2.2.2.2.2.2.2.2.2, nI c, w', rh', rb', re', rk', rs', o1', o2', l', fun n hn => ?_, fun m hm => ?_, ⟨z1, z2, ⟨U1, z3, z4, z5⟩, z6, z7, z8, Or.inl rfl⟩, hsh, fun n u1 u2 u3 u4 u5 u6 u7 u8 u9 hn => ?_⟩
        · cases n with
          | zero => omega
          | succ n =>
            rw [h45, if_neg hT0]
            cases n with
            | zero => omega
            | succ n => rw [FX8_reads_45, if_pos (show td ≤ nI (i + 1) by rw [htd]; exact nI_le (Nat.le_refl _) (by omega))]
        · cases m with
          | zero => omega
          | succ m =>
            rw [h70, if_neg hV0, e9]
            cases m with
            | zero => exact absurd hm (Nat.lt_irrefl 1)
            | succ m =>
              rw [FX9_readsAll_70]
              exact if_pos rfl
        · cases n with
          | zero => omega
          | succ n =>
            rw [h93]
            cases n with
            | zero => omega
            | succ n =>
              rw [FX8_reads_93, if_pos (show td ≤ nI (i + 1) by rw [htd]; exact nI_le (Nat.le_refl _) (by omega)), hK0]
              rfl
      · have e9 : FX9_takes g (nI L) (nI c) 59 = (1, nI (c + 1)) := by
          rcases x_take hL hfg s2 59 (by decide) with ⟨-, -, -, e9, -⟩ | ⟨hn, -⟩
          · exact e9
          · exact absurd hf (hn hlt)
        have hh' : zWh r (i + 1) S H B E P G := fun k q hk => by
          have := hh (k + 1) q hk
          rw [show i + (k + 1) = i + 1 + k by omega] at this
          exact this
        have ih := x_loop (kt70 := kt70) (isS := isS) (x1 := x1) (x2 := x2) (a7 := a7) (a8 := a8) (ln := ln) (at7 := at7) (td := td) (un0 := un0) (S := S) (H := H) (B := B) (E := E) (P := P) (G := G) (a1 := a1) (a2 := a2) (a3 := a3) (a4 := a4) (a5 := a5) (a6 := a6) (be := be) (cb := cb) (sg0 := sg0) (y0 := y0) (D0 := D0) r (c + 1) (i + 1) (cnt + 1) (s0_cp dC T.2.1 T.2.2.1 T.2.2.2.1 T.2.2.2.2.1 T.2.2.2.2.2.1 T.2.2.2.2.2.2.1 T.2.2.2.2.2.2.2.1 T.2.2.2.2.2.2.2.2 (g0_shut dC)) (s0_cp C Y.2.1 Y.2.2.1 Y.2.2.2.1 Y.2.2.2.2.1 Y.2.2.2.2.2.1 Y.2.2.2.2.2.2.1 Y.2.2.2.2.2.2.2.1 Y.2.2.2.2.2.2.2.2 (g0_shut C)) (V.2.2.2.1, V.2.2.2.2.1, V.2.2.2.2.2.1, V.2.2.2.2.2.2.1, V.2.2.2.2.2.2.2.1, V.2.2.2.2.2.2.2.2.1, V.2.2.2.2.2.2.2.2.2.1, V.2.1, V.2.2.1) K.2.1 K.2.2.1 K.2.2.2.1 U1 V.2.2.2.2.2.2.2.2.2.2.1 K.1 w' rh' rb' re' rk' rs' o1' o2' l' hWr (by omega) hh' zd6 z6 hsh z5 z7 z1 (by rw [htd]; congr 1; omega) (by omega) hL hfg
        rw [z2, z4] at h70
        rw [z3] at h93
        rcases ih with ⟨b, q1, q2, q3, q4, q5, q6, q7, q8, f1, R', ch', dn', ud', at', v1', v2', v3', v4', v5', v6', v7', v8', v9', f2, f3⟩ | ⟨q1, q2, q3, q4, q5, q6, q7, q8, C', R', sg', y', D', ch', un', dn', ud', at', v1', v2', v3', v4', v5', v6', v7', v8', v9', f1, f2, f3, f4, f5⟩
        · left
          refine ⟨b, q1, q2, q3, q4, q5, q6, q7, q8, fun n hn => ?_, R', ch', dn', ud', at', v1', v2', v3', v4', v5', v6', v7', v8', v9', qout_t z8 f2, fun m hm => ?_⟩
          · cases n with
            | zero => omega
            | succ n =>
              rw [h45, if_neg hT0]
              exact f1 n (by omega)
          · cases m with
            | zero => omega
            | succ m =>
              rw [h70, if_neg hV0, e9]
              exact f3 m (by rw [List.length_cons] at hm; omega)
        · right
          obtain ⟨y1, y2, y3, y4, y5, y6, -⟩ := f3
          refine ⟨q1, q2, q3, q4, q5, q6, q7, q8, C', R', sg', y', D', ch', un', dn', ud', at', v1', v2', v3', v4', v5', v6', v7', v8', v9', fun n hn => ?_, fun m hm => ?_, ⟨y1, y2, y3, y4, y5, qout_t z8 y6, Or.inl rfl⟩, f4, fun n u1 u2 u3 u4 u5 u6 u7 u8 u9 hn => ?_⟩
          · cases n with
            | zero => omega
            | succ n =>
              rw [h45, if_neg hT0]
              exact f1 n (by omega)
          · cases m with
            | zero => omega
            | succ m =>
              rw [h70, if_neg hV0, e9, List.length_cons, show cnt + (r.length + 1) = cnt + 1 + r.length by omega]
              exact f2 m (by rw [List.length_cons] at hm; omega)
          · cases n with
            | zero => omega
            | succ n =>
              rw [h93]
              exact f5 n u1 u2 u3 u4 u5 u6 u7 u8 u9 (by omega)
end ZLOOP
