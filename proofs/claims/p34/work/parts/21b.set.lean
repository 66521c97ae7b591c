set_option maxHeartbeats 1000000 in
theorem c_X8_rulesFor_s (l : Launch) (G : zG) (arc : Nat → Nat) (ac : Nat → Nat) (ard : Nat → Nat) (av : Nat → Nat) (orc_thought : Nat) (orc_thoughtRounds : Nat) (orc_chain : Nat) (orc_history : Nat) (orc_kept : Nat) (orc_words : Nat) (orc_sheet : Nat) (orc_rows : Nat) (brc : S8) (bc : S0) (brd : S4) (bv : S6) (x1 : Int32) (hh_c_head : ∀ r : Nat, r < 16 → vp_in (g0_head bc r) 20) (hz_c_size : ∃ N : Nat, N ≤ 16 ∧ g0_size bc = nI N) (hu_rc_isSettled : ¬ g8_isSettled brc = 0) (T : Int32) (hT : FX8_rulesFor_s (g6_allFor bv) x1 = T) : zI l yX8_rulesFor wsX8_rulesFor rmX8_rulesFor .int G [.ref (arc 0), .int x1] [w8 G arc (ac 0) (ard 0) orc_thought orc_thoughtRounds orc_chain orc_history orc_kept orc_words orc_sheet orc_rows brc, w0 G ac bc, w4 G ard (av 0) brd, w6 G av bv] T [w8 G arc (ac 0) (ard 0) orc_thought orc_thoughtRounds orc_chain orc_history orc_kept orc_words orc_sheet orc_rows brc, w0 G ac bc, w4 G ard (av 0) brd, w6 G av bv] := by
  have h := c_X8_rulesFor l G arc ac ard av orc_thought orc_thoughtRounds orc_chain orc_history orc_kept orc_words orc_sheet orc_rows brc bc brd bv x1 hh_c_head hz_c_size _ rfl
  have e : FX8_rulesFor (g8_isSettled brc) (g0_kind bc) (g0_head bc) (g0_body bc) (g0_excepts bc) (g0_power bc) (g0_beats bc) (g0_facts bc) (g0_size bc) (g0_shut bc) (g4_came brd) (g4_last brd) (g6_known bv) (g6_fresh bv) (g6_strictFor bv) (g6_forwardFor bv) (g6_allFor bv) (g6_above bv) (g6_facts bv) (g6_applies bv) (g6_falls bv) (g6_sureBodies bv) (g6_neverBodies bv) x1 = (T, (g8_isSettled brc), (g4_came brd), (g4_last brd), (g6_known bv), (g6_fresh bv), (g6_strictFor bv), (g6_forwardFor bv), (g6_allFor bv), (g6_above bv), (g6_facts bv), (g6_applies bv), (g6_falls bv), (g6_sureBodies bv), (g6_neverBodies bv)) := by
    rw [← hT]
    unfold FX8_rulesFor FX8_rulesFor_s FX8_settled
    simp only [bnd, if_neg hu_rc_isSettled]
    repeat' (first | rfl | split)
  rw [e] at h
  simp only [se8_isSettled, se4_came, se4_last, se6_known, se6_fresh, se6_strictFor, se6_forwardFor, se6_allFor, se6_above, se6_facts, se6_applies, se6_falls, se6_sureBodies, se6_neverBodies] at h
  exact h

set_option maxHeartbeats 1000000 in
theorem c_X8_tag_s (l : Launch) (G : zG) (arc : Nat → Nat) (ac : Nat → Nat) (ard : Nat → Nat) (av : Nat → Nat) (orc_thought : Nat) (orc_thoughtRounds : Nat) (orc_chain : Nat) (orc_history : Nat) (orc_kept : Nat) (orc_words : Nat) (orc_sheet : Nat) (orc_rows : Nat) (brc : S8) (bc : S0) (brd : S4) (bv : S6) (x1 : Int32) (x2 : Int32) (hh_c_head : ∀ r : Nat, r < 16 → vp_in (g0_head bc r) 20) (hz_c_size : ∃ N : Nat, N ≤ 16 ∧ g0_size bc = nI N) (hu_rc_isSettled : ¬ g8_isSettled brc = 0) (T : Int32) (hT : FX8_tag_s (g4_came brd) x1 x2 = T) : zI l yX8_tag wsX8_tag rmX8_tag .int G [.ref (arc 0), .int x1, .int x2] [w8 G arc (ac 0) (ard 0) orc_thought orc_thoughtRounds orc_chain orc_history orc_kept orc_words orc_sheet orc_rows brc, w0 G ac bc, w4 G ard (av 0) brd, w6 G av bv] T [w8 G arc (ac 0) (ard 0) orc_thought orc_thoughtRounds orc_chain orc_history orc_kept orc_words orc_sheet orc_rows brc, w0 G ac bc, w4 G ard (av 0) brd, w6 G av bv] := by
  have h := c_X8_tag l G arc ac ard av orc_thought orc_thoughtRounds orc_chain orc_history orc_kept orc_words orc_sheet orc_rows brc bc brd bv x1 x2 hh_c_head hz_c_size _ rfl
  have e : FX8_tag (g8_isSettled brc) (g0_kind bc) (g0_head bc) (g0_body bc) (g0_excepts bc) (g0_power bc) (g0_beats bc) (g0_facts bc) (g0_size bc) (g0_shut bc) (g4_came brd) (g4_last brd) (g6_known bv) (g6_fresh bv) (g6_strictFor bv) (g6_forwardFor bv) (g6_allFor bv) (g6_above bv) (g6_facts bv) (g6_applies bv) (g6_falls bv) (g6_sureBodies bv) (g6_neverBodies bv) x1 x2 = (T, (g8_isSettled brc), (g4_came brd), (g4_last brd), (g6_known bv), (g6_fresh bv), (g6_strictFor bv), (g6_forwardFor bv), (g6_allFor bv), (g6_above bv), (g6_facts bv), (g6_applies bv), (g6_falls bv), (g6_sureBodies bv), (g6_neverBodies bv)) := by
    rw [← hT]
    unfold FX8_tag FX8_tag_s FX8_settled
    simp only [bnd, if_neg hu_rc_isSettled]
    repeat' (first | rfl | split)
  rw [e] at h
  simp only [se8_isSettled, se4_came, se4_last, se6_known, se6_fresh, se6_strictFor, se6_forwardFor, se6_allFor, se6_above, se6_facts, se6_applies, se6_falls, se6_sureBodies, se6_neverBodies] at h
  exact h

set_option maxHeartbeats 1000000 in
theorem c_X8_tagged_s (l : Launch) (G : zG) (arc : Nat → Nat) (ac : Nat → Nat) (ard : Nat → Nat) (av : Nat → Nat) (orc_thought : Nat) (orc_thoughtRounds : Nat) (orc_chain : Nat) (orc_history : Nat) (orc_kept : Nat) (orc_words : Nat) (orc_sheet : Nat) (orc_rows : Nat) (brc : S8) (bc : S0) (brd : S4) (bv : S6) (x1 : Int32) (x2 : Int32) (hh_c_head : ∀ r : Nat, r < 16 → vp_in (g0_head bc r) 20) (hz_c_size : ∃ N : Nat, N ≤ 16 ∧ g0_size bc = nI N) (hu_rc_isSettled : ¬ g8_isSettled brc = 0) (T : Int32) (hT : FX8_tagged_s (g4_came brd) (g6_known bv) x1 x2 = T) : zI l yX8_tagged wsX8_tagged rmX8_tagged .int G [.ref (arc 0), .int x1, .int x2] [w8 G arc (ac 0) (ard 0) orc_thought orc_thoughtRounds orc_chain orc_history orc_kept orc_words orc_sheet orc_rows brc, w0 G ac bc, w4 G ard (av 0) brd, w6 G av bv] T [w8 G arc (ac 0) (ard 0) orc_thought orc_thoughtRounds orc_chain orc_history orc_kept orc_words orc_sheet orc_rows brc, w0 G ac bc, w4 G ard (av 0) brd, w6 G av bv] := by
  have h := c_X8_tagged l G arc ac ard av orc_thought orc_thoughtRounds orc_chain orc_history orc_kept orc_words orc_sheet orc_rows brc bc brd bv x1 x2 hh_c_head hz_c_size _ rfl
  have e : FX8_tagged (g8_isSettled brc) (g0_kind bc) (g0_head bc) (g0_body bc) (g0_excepts bc) (g0_power bc) (g0_beats bc) (g0_facts bc) (g0_size bc) (g0_shut bc) (g4_came brd) (g4_last brd) (g6_known bv) (g6_fresh bv) (g6_strictFor bv) (g6_forwardFor bv) (g6_allFor bv) (g6_above bv) (g6_facts bv) (g6_applies bv) (g6_falls bv) (g6_sureBodies bv) (g6_neverBodies bv) x1 x2 = (T, (g8_isSettled brc), (g4_came brd), (g4_last brd), (g6_known bv), (g6_fresh bv), (g6_strictFor bv), (g6_forwardFor bv), (g6_allFor bv), (g6_above bv), (g6_facts bv), (g6_applies bv), (g6_falls bv), (g6_sureBodies bv), (g6_neverBodies bv)) := by
    rw [← hT]
    unfold FX8_tagged FX8_tagged_s FX8_settled
    simp only [bnd, if_neg hu_rc_isSettled]
    repeat' (first | rfl | split)
  rw [e] at h
  simp only [se8_isSettled, se4_came, se4_last, se6_known, se6_fresh, se6_strictFor, se6_forwardFor, se6_allFor, se6_above, se6_facts, se6_applies, se6_falls, se6_sureBodies, se6_neverBodies] at h
  exact h

set_option maxHeartbeats 1000000 in
theorem c_X8_state_s (l : Launch) (G : zG) (arc : Nat → Nat) (ac : Nat → Nat) (ard : Nat → Nat) (av : Nat → Nat) (orc_thought : Nat) (orc_thoughtRounds : Nat) (orc_chain : Nat) (orc_history : Nat) (orc_kept : Nat) (orc_words : Nat) (orc_sheet : Nat) (orc_rows : Nat) (brc : S8) (bc : S0) (brd : S4) (bv : S6) (x1 : Int32) (hh_c_head : ∀ r : Nat, r < 16 → vp_in (g0_head bc r) 20) (hz_c_size : ∃ N : Nat, N ≤ 16 ∧ g0_size bc = nI N) (hu_rc_isSettled : ¬ g8_isSettled brc = 0) (T : Int32) (hT : FX8_state_s (g0_size bc) (g6_applies bv) (g6_falls bv) x1 = T) : zI l yX8_state wsX8_state rmX8_state .int G [.ref (arc 0), .int x1] [w8 G arc (ac 0) (ard 0) orc_thought orc_thoughtRounds orc_chain orc_history orc_kept orc_words orc_sheet orc_rows brc, w0 G ac bc, w4 G ard (av 0) brd, w6 G av bv] T [w8 G arc (ac 0) (ard 0) orc_thought orc_thoughtRounds orc_chain orc_history orc_kept orc_words orc_sheet orc_rows brc, w0 G ac bc, w4 G ard (av 0) brd, w6 G av bv] := by
  have h := c_X8_state l G arc ac ard av orc_thought orc_thoughtRounds orc_chain orc_history orc_kept orc_words orc_sheet orc_rows brc bc brd bv x1 hh_c_head hz_c_size _ rfl
  have e : FX8_state (g8_isSettled brc) (g0_kind bc) (g0_head bc) (g0_body bc) (g0_excepts bc) (g0_power bc) (g0_beats bc) (g0_facts bc) (g0_size bc) (g0_shut bc) (g4_came brd) (g4_last brd) (g6_known bv) (g6_fresh bv) (g6_strictFor bv) (g6_forwardFor bv) (g6_allFor bv) (g6_above bv) (g6_facts bv) (g6_applies bv) (g6_falls bv) (g6_sureBodies bv) (g6_neverBodies bv) x1 = (T, (g8_isSettled brc), (g4_came brd), (g4_last brd), (g6_known bv), (g6_fresh bv), (g6_strictFor bv), (g6_forwardFor bv), (g6_allFor bv), (g6_above bv), (g6_facts bv), (g6_applies bv), (g6_falls bv), (g6_sureBodies bv), (g6_neverBodies bv)) := by
    rw [← hT]
    unfold FX8_state FX8_state_s FX8_settled
    simp only [bnd, if_neg hu_rc_isSettled]
    repeat' (first | rfl | split)
  rw [e] at h
  simp only [se8_isSettled, se4_came, se4_last, se6_known, se6_fresh, se6_strictFor, se6_forwardFor, se6_allFor, se6_above, se6_facts, se6_applies, se6_falls, se6_sureBodies, se6_neverBodies] at h
  exact h

set_option maxHeartbeats 1000000 in
theorem c_X8_sides_s (l : Launch) (G : zG) (arc : Nat → Nat) (ac : Nat → Nat) (ard : Nat → Nat) (av : Nat → Nat) (orc_thought : Nat) (orc_thoughtRounds : Nat) (orc_chain : Nat) (orc_history : Nat) (orc_kept : Nat) (orc_words : Nat) (orc_sheet : Nat) (orc_rows : Nat) (brc : S8) (bc : S0) (brd : S4) (bv : S6) (x1 : Int32) (x2 : Int32) (hh_c_head : ∀ r : Nat, r < 16 → vp_in (g0_head bc r) 20) (hz_c_size : ∃ N : Nat, N ≤ 16 ∧ g0_size bc = nI N) (hu_rc_isSettled : ¬ g8_isSettled brc = 0) (T : Int32) (hT : FX8_sides_s (g6_forwardFor bv) (g6_allFor bv) (g6_above bv) (g6_applies bv) (g6_falls bv) x1 x2 = T) : zI l yX8_sides wsX8_sides rmX8_sides .int G [.ref (arc 0), .int x1, .int x2] [w8 G arc (ac 0) (ard 0) orc_thought orc_thoughtRounds orc_chain orc_history orc_kept orc_words orc_sheet orc_rows brc, w0 G ac bc, w4 G ard (av 0) brd, w6 G av bv] T [w8 G arc (ac 0) (ard 0) orc_thought orc_thoughtRounds orc_chain orc_history orc_kept orc_words orc_sheet orc_rows brc, w0 G ac bc, w4 G ard (av 0) brd, w6 G av bv] := by
  have h := c_X8_sides l G arc ac ard av orc_thought orc_thoughtRounds orc_chain orc_history orc_kept orc_words orc_sheet orc_rows brc bc brd bv x1 x2 hh_c_head hz_c_size _ rfl
  have e : FX8_sides (g8_isSettled brc) (g0_kind bc) (g0_head bc) (g0_body bc) (g0_excepts bc) (g0_power bc) (g0_beats bc) (g0_facts bc) (g0_size bc) (g0_shut bc) (g4_came brd) (g4_last brd) (g6_known bv) (g6_fresh bv) (g6_strictFor bv) (g6_forwardFor bv) (g6_allFor bv) (g6_above bv) (g6_facts bv) (g6_applies bv) (g6_falls bv) (g6_sureBodies bv) (g6_neverBodies bv) x1 x2 = (T, (g8_isSettled brc), (g4_came brd), (g4_last brd), (g6_known bv), (g6_fresh bv), (g6_strictFor bv), (g6_forwardFor bv), (g6_allFor bv), (g6_above bv), (g6_facts bv), (g6_applies bv), (g6_falls bv), (g6_sureBodies bv), (g6_neverBodies bv)) := by
    rw [← hT]
    unfold FX8_sides FX8_sides_s FX8_settled
    simp only [bnd, if_neg hu_rc_isSettled]
    repeat' (first | rfl | split)
  rw [e] at h
  simp only [se8_isSettled, se4_came, se4_last, se6_known, se6_fresh, se6_strictFor, se6_forwardFor, se6_allFor, se6_above, se6_facts, se6_applies, se6_falls, se6_sureBodies, se6_neverBodies] at h
  exact h

set_option maxHeartbeats 1000000 in
theorem c_X8_count_0 (l : Launch) (G : zG) (arc : Nat → Nat) (ac : Nat → Nat) (ard : Nat → Nat) (av : Nat → Nat) (awd : Nat → Nat) (apa : Nat → Nat) (ahi : Nat → Nat) (aik : Nat → Nat → Nat) (orc_thought : Nat) (orc_thoughtRounds : Nat) (orc_chain : Nat) (orc_kept : Nat) (orc_rows : Nat) (brc : S8) (bc : S0) (brd : S4) (bv : S6) (bwd : S7) (bpa : S2) (sg : Nat → Nat) (y : Nat → S0) (D : Nat) (un : Int32) (x1 : Int32) (hh_c_head : ∀ r : Nat, r < 16 → vp_in (g0_head bc r) 20) (hz_c_size : ∃ N : Nat, N ≤ 16 ∧ g0_size bc = nI N) (hu_rc_isSettled : ¬ g8_isSettled brc = 0) (hv1 : x1 = 0) (T : Int32) (hT : FX8_count_0 (g0_facts bc) x1 = T) : zI l yX8_count wsX8_count rmX8_count .int G [.ref (arc 0), .int x1] (w8 G arc (ac 0) (ard 0) orc_thought orc_thoughtRounds orc_chain (ahi 0) orc_kept (awd 0) (apa 0) orc_rows brc :: w0 G ac bc :: w4 G ard (av 0) brd :: w6 G av bv :: w7 G awd bwd :: w2 G apa bpa :: w1 G ahi aik sg (nI D) un :: hcs G aik y) T (w8 G arc (ac 0) (ard 0) orc_thought orc_thoughtRounds orc_chain (ahi 0) orc_kept (awd 0) (apa 0) orc_rows brc :: w0 G ac bc :: w4 G ard (av 0) brd :: w6 G av bv :: w7 G awd bwd :: w2 G apa bpa :: w1 G ahi aik sg (nI D) un :: hcs G aik y) := by
  subst hv1
  have h := c_X8_count l G arc ac ard av awd apa ahi aik orc_thought orc_thoughtRounds orc_chain orc_kept orc_rows brc bc brd bv bwd bpa sg y D un 0 hh_c_head hz_c_size _ rfl
  have e : FX8_count (g8_isSettled brc) (g0_kind bc) (g0_head bc) (g0_body bc) (g0_excepts bc) (g0_power bc) (g0_beats bc) (g0_facts bc) (g0_size bc) (g0_shut bc) (g4_came brd) (g4_last brd) (g6_known bv) (g6_fresh bv) (g6_strictFor bv) (g6_forwardFor bv) (g6_allFor bv) (g6_above bv) (g6_reach bv) (g6_facts bv) (g6_applies bv) (g6_falls bv) (g6_sureBodies bv) (g6_neverBodies bv) (g7_length bwd) (g2_length bpa) D un 0 = (T, (g8_isSettled brc), (g4_came brd), (g4_last brd), (g6_known bv), (g6_fresh bv), (g6_strictFor bv), (g6_forwardFor bv), (g6_allFor bv), (g6_above bv), (g6_reach bv), (g6_facts bv), (g6_applies bv), (g6_falls bv), (g6_sureBodies bv), (g6_neverBodies bv)) := by
    rw [← hT]
    unfold FX8_count FX8_count_0 FX8_settled
    rw [if_pos rfl]
  rw [e] at h
  simp only [se8_isSettled, se4_came, se4_last, se6_known, se6_fresh, se6_strictFor, se6_forwardFor, se6_allFor, se6_above, se6_reach, se6_facts, se6_applies, se6_falls, se6_sureBodies, se6_neverBodies] at h
  exact h

set_option maxHeartbeats 1000000 in
theorem c_X8_count_1 (l : Launch) (G : zG) (arc : Nat → Nat) (ac : Nat → Nat) (ard : Nat → Nat) (av : Nat → Nat) (awd : Nat → Nat) (apa : Nat → Nat) (ahi : Nat → Nat) (aik : Nat → Nat → Nat) (orc_thought : Nat) (orc_thoughtRounds : Nat) (orc_chain : Nat) (orc_kept : Nat) (orc_rows : Nat) (brc : S8) (bc : S0) (brd : S4) (bv : S6) (bwd : S7) (bpa : S2) (sg : Nat → Nat) (y : Nat → S0) (D : Nat) (un : Int32) (x1 : Int32) (hh_c_head : ∀ r : Nat, r < 16 → vp_in (g0_head bc r) 20) (hz_c_size : ∃ N : Nat, N ≤ 16 ∧ g0_size bc = nI N) (hu_rc_isSettled : ¬ g8_isSettled brc = 0) (hv1 : x1 = 1) (T : Int32 × (Nat → Int32)) (hT : FX8_count_1 (g6_above bv) (g6_reach bv) x1 = T) : zI l yX8_count wsX8_count rmX8_count .int G [.ref (arc 0), .int x1] (w8 G arc (ac 0) (ard 0) orc_thought orc_thoughtRounds orc_chain (ahi 0) orc_kept (awd 0) (apa 0) orc_rows brc :: w0 G ac bc :: w4 G ard (av 0) brd :: w6 G av bv :: w7 G awd bwd :: w2 G apa bpa :: w1 G ahi aik sg (nI D) un :: hcs G aik y) T.1 (w8 G arc (ac 0) (ard 0) orc_thought orc_thoughtRounds orc_chain (ahi 0) orc_kept (awd 0) (apa 0) orc_rows brc :: w0 G ac bc :: w4 G ard (av 0) brd :: w6 G av (s6_reach bv T.2) :: w7 G awd bwd :: w2 G apa bpa :: w1 G ahi aik sg (nI D) un :: hcs G aik y) := by
  subst hv1
  have h := c_X8_count l G arc ac ard av awd apa ahi aik orc_thought orc_thoughtRounds orc_chain orc_kept orc_rows brc bc brd bv bwd bpa sg y D un 1 hh_c_head hz_c_size _ rfl
  have e : FX8_count (g8_isSettled brc) (g0_kind bc) (g0_head bc) (g0_body bc) (g0_excepts bc) (g0_power bc) (g0_beats bc) (g0_facts bc) (g0_size bc) (g0_shut bc) (g4_came brd) (g4_last brd) (g6_known bv) (g6_fresh bv) (g6_strictFor bv) (g6_forwardFor bv) (g6_allFor bv) (g6_above bv) (g6_reach bv) (g6_facts bv) (g6_applies bv) (g6_falls bv) (g6_sureBodies bv) (g6_neverBodies bv) (g7_length bwd) (g2_length bpa) D un 1 = (T.1, (g8_isSettled brc), (g4_came brd), (g4_last brd), (g6_known bv), (g6_fresh bv), (g6_strictFor bv), (g6_forwardFor bv), (g6_allFor bv), (g6_above bv), T.2, (g6_facts bv), (g6_applies bv), (g6_falls bv), (g6_sureBodies bv), (g6_neverBodies bv)) := by
    rw [← hT]
    unfold FX8_count FX8_count_1 FX8_settled
    rw [if_neg (show ¬ (1 : Int32) = 0 by decide)]
    rw [if_pos rfl]
    simp only [bnd, if_neg hu_rc_isSettled]
  rw [e] at h
  have hcm_facts : s6_facts (s6_reach bv T.2) (g6_facts bv) = s6_reach bv T.2 := se6_facts (s6_reach bv T.2)
  have hcm_applies : s6_applies (s6_reach bv T.2) (g6_applies bv) = s6_reach bv T.2 := se6_applies (s6_reach bv T.2)
  have hcm_falls : s6_falls (s6_reach bv T.2) (g6_falls bv) = s6_reach bv T.2 := se6_falls (s6_reach bv T.2)
  have hcm_sureBodies : s6_sureBodies (s6_reach bv T.2) (g6_sureBodies bv) = s6_reach bv T.2 := se6_sureBodies (s6_reach bv T.2)
  have hcm_neverBodies : s6_neverBodies (s6_reach bv T.2) (g6_neverBodies bv) = s6_reach bv T.2 := se6_neverBodies (s6_reach bv T.2)
  simp only [se8_isSettled, se4_came, se4_last, se6_known, se6_fresh, se6_strictFor, se6_forwardFor, se6_allFor, se6_above, se6_facts, se6_applies, se6_falls, se6_sureBodies, se6_neverBodies, hcm_facts, hcm_applies, hcm_falls, hcm_sureBodies, hcm_neverBodies] at h
  exact h

set_option maxHeartbeats 1000000 in
theorem c_X8_count_2 (l : Launch) (G : zG) (arc : Nat → Nat) (ac : Nat → Nat) (ard : Nat → Nat) (av : Nat → Nat) (awd : Nat → Nat) (apa : Nat → Nat) (ahi : Nat → Nat) (aik : Nat → Nat → Nat) (orc_thought : Nat) (orc_thoughtRounds : Nat) (orc_chain : Nat) (orc_kept : Nat) (orc_rows : Nat) (brc : S8) (bc : S0) (brd : S4) (bv : S6) (bwd : S7) (bpa : S2) (sg : Nat → Nat) (y : Nat → S0) (D : Nat) (un : Int32) (x1 : Int32) (hh_c_head : ∀ r : Nat, r < 16 → vp_in (g0_head bc r) 20) (hz_c_size : ∃ N : Nat, N ≤ 16 ∧ g0_size bc = nI N) (hu_rc_isSettled : ¬ g8_isSettled brc = 0) (hv1 : x1 = 2) (T : Int32) (hT : FX8_count_2 (g6_known bv) x1 = T) : zI l yX8_count wsX8_count rmX8_count .int G [.ref (arc 0), .int x1] (w8 G arc (ac 0) (ard 0) orc_thought orc_thoughtRounds orc_chain (ahi 0) orc_kept (awd 0) (apa 0) orc_rows brc :: w0 G ac bc :: w4 G ard (av 0) brd :: w6 G av bv :: w7 G awd bwd :: w2 G apa bpa :: w1 G ahi aik sg (nI D) un :: hcs G aik y) T (w8 G arc (ac 0) (ard 0) orc_thought orc_thoughtRounds orc_chain (ahi 0) orc_kept (awd 0) (apa 0) orc_rows brc :: w0 G ac bc :: w4 G ard (av 0) brd :: w6 G av bv :: w7 G awd bwd :: w2 G apa bpa :: w1 G ahi aik sg (nI D) un :: hcs G aik y) := by
  subst hv1
  have h := c_X8_count l G arc ac ard av awd apa ahi aik orc_thought orc_thoughtRounds orc_chain orc_kept orc_rows brc bc brd bv bwd bpa sg y D un 2 hh_c_head hz_c_size _ rfl
  have e : FX8_count (g8_isSettled brc) (g0_kind bc) (g0_head bc) (g0_body bc) (g0_excepts bc) (g0_power bc) (g0_beats bc) (g0_facts bc) (g0_size bc) (g0_shut bc) (g4_came brd) (g4_last brd) (g6_known bv) (g6_fresh bv) (g6_strictFor bv) (g6_forwardFor bv) (g6_allFor bv) (g6_above bv) (g6_reach bv) (g6_facts bv) (g6_applies bv) (g6_falls bv) (g6_sureBodies bv) (g6_neverBodies bv) (g7_length bwd) (g2_length bpa) D un 2 = (T, (g8_isSettled brc), (g4_came brd), (g4_last brd), (g6_known bv), (g6_fresh bv), (g6_strictFor bv), (g6_forwardFor bv), (g6_allFor bv), (g6_above bv), (g6_reach bv), (g6_facts bv), (g6_applies bv), (g6_falls bv), (g6_sureBodies bv), (g6_neverBodies bv)) := by
    rw [← hT]
    unfold FX8_count FX8_count_2 FX8_settled
    rw [if_neg (show ¬ (2 : Int32) = 0 by decide)]
    rw [if_neg (show ¬ (2 : Int32) = 1 by decide)]
    rw [if_pos rfl]
    simp only [bnd, if_neg hu_rc_isSettled]
  rw [e] at h
  simp only [se8_isSettled, se4_came, se4_last, se6_known, se6_fresh, se6_strictFor, se6_forwardFor, se6_allFor, se6_above, se6_reach, se6_facts, se6_applies, se6_falls, se6_sureBodies, se6_neverBodies] at h
  exact h

set_option maxHeartbeats 1000000 in
theorem c_X8_count_3 (l : Launch) (G : zG) (arc : Nat → Nat) (ac : Nat → Nat) (ard : Nat → Nat) (av : Nat → Nat) (awd : Nat → Nat) (apa : Nat → Nat) (ahi : Nat → Nat) (aik : Nat → Nat → Nat) (orc_thought : Nat) (orc_thoughtRounds : Nat) (orc_chain : Nat) (orc_kept : Nat) (orc_rows : Nat) (brc : S8) (bc : S0) (brd : S4) (bv : S6) (bwd : S7) (bpa : S2) (sg : Nat → Nat) (y : Nat → S0) (D : Nat) (un : Int32) (x1 : Int32) (hh_c_head : ∀ r : Nat, r < 16 → vp_in (g0_head bc r) 20) (hz_c_size : ∃ N : Nat, N ≤ 16 ∧ g0_size bc = nI N) (hu_rc_isSettled : ¬ g8_isSettled brc = 0) (hv1 : x1 = 3) (T : Int32) (hT : FX8_count_3 (g6_known bv) x1 = T) : zI l yX8_count wsX8_count rmX8_count .int G [.ref (arc 0), .int x1] (w8 G arc (ac 0) (ard 0) orc_thought orc_thoughtRounds orc_chain (ahi 0) orc_kept (awd 0) (apa 0) orc_rows brc :: w0 G ac bc :: w4 G ard (av 0) brd :: w6 G av bv :: w7 G awd bwd :: w2 G apa bpa :: w1 G ahi aik sg (nI D) un :: hcs G aik y) T (w8 G arc (ac 0) (ard 0) orc_thought orc_thoughtRounds orc_chain (ahi 0) orc_kept (awd 0) (apa 0) orc_rows brc :: w0 G ac bc :: w4 G ard (av 0) brd :: w6 G av bv :: w7 G awd bwd :: w2 G apa bpa :: w1 G ahi aik sg (nI D) un :: hcs G aik y) := by
  subst hv1
  have h := c_X8_count l G arc ac ard av awd apa ahi aik orc_thought orc_thoughtRounds orc_chain orc_kept orc_rows brc bc brd bv bwd bpa sg y D un 3 hh_c_head hz_c_size _ rfl
  have e : FX8_count (g8_isSettled brc) (g0_kind bc) (g0_head bc) (g0_body bc) (g0_excepts bc) (g0_power bc) (g0_beats bc) (g0_facts bc) (g0_size bc) (g0_shut bc) (g4_came brd) (g4_last brd) (g6_known bv) (g6_fresh bv) (g6_strictFor bv) (g6_forwardFor bv) (g6_allFor bv) (g6_above bv) (g6_reach bv) (g6_facts bv) (g6_applies bv) (g6_falls bv) (g6_sureBodies bv) (g6_neverBodies bv) (g7_length bwd) (g2_length bpa) D un 3 = (T, (g8_isSettled brc), (g4_came brd), (g4_last brd), (g6_known bv), (g6_fresh bv), (g6_strictFor bv), (g6_forwardFor bv), (g6_allFor bv), (g6_above bv), (g6_reach bv), (g6_facts bv), (g6_applies bv), (g6_falls bv), (g6_sureBodies bv), (g6_neverBodies bv)) := by
    rw [← hT]
    unfold FX8_count FX8_count_3 FX8_settled
    rw [if_neg (show ¬ (3 : Int32) = 0 by decide)]
    rw [if_neg (show ¬ (3 : Int32) = 1 by decide)]
    rw [if_neg (show ¬ (3 : Int32) = 2 by decide)]
    rw [if_pos rfl]
    simp only [bnd, if_neg hu_rc_isSettled]
  rw [e] at h
  simp only [se8_isSettled, se4_came, se4_last, se6_known, se6_fresh, se6_strictFor, se6_forwardFor, se6_allFor, se6_above, se6_reach, se6_facts, se6_applies, se6_falls, se6_sureBodies, se6_neverBodies] at h
  exact h

set_option maxHeartbeats 1000000 in
theorem c_X8_count_4 (l : Launch) (G : zG) (arc : Nat → Nat) (ac : Nat → Nat) (ard : Nat → Nat) (av : Nat → Nat) (awd : Nat → Nat) (apa : Nat → Nat) (ahi : Nat → Nat) (aik : Nat → Nat → Nat) (orc_thought : Nat) (orc_thoughtRounds : Nat) (orc_chain : Nat) (orc_kept : Nat) (orc_rows : Nat) (brc : S8) (bc : S0) (brd : S4) (bv : S6) (bwd : S7) (bpa : S2) (sg : Nat → Nat) (y : Nat → S0) (D : Nat) (un : Int32) (x1 : Int32) (hh_c_head : ∀ r : Nat, r < 16 → vp_in (g0_head bc r) 20) (hz_c_size : ∃ N : Nat, N ≤ 16 ∧ g0_size bc = nI N) (hu_rc_isSettled : ¬ g8_isSettled brc = 0) (hv1 : x1 = 4) (T : Int32) (hT : FX8_count_4 (g0_size bc) x1 = T) : zI l yX8_count wsX8_count rmX8_count .int G [.ref (arc 0), .int x1] (w8 G arc (ac 0) (ard 0) orc_thought orc_thoughtRounds orc_chain (ahi 0) orc_kept (awd 0) (apa 0) orc_rows brc :: w0 G ac bc :: w4 G ard (av 0) brd :: w6 G av bv :: w7 G awd bwd :: w2 G apa bpa :: w1 G ahi aik sg (nI D) un :: hcs G aik y) T (w8 G arc (ac 0) (ard 0) orc_thought orc_thoughtRounds orc_chain (ahi 0) orc_kept (awd 0) (apa 0) orc_rows brc :: w0 G ac bc :: w4 G ard (av 0) brd :: w6 G av bv :: w7 G awd bwd :: w2 G apa bpa :: w1 G ahi aik sg (nI D) un :: hcs G aik y) := by
  subst hv1
  have h := c_X8_count l G arc ac ard av awd apa ahi aik orc_thought orc_thoughtRounds orc_chain orc_kept orc_rows brc bc brd bv bwd bpa sg y D un 4 hh_c_head hz_c_size _ rfl
  have e : FX8_count (g8_isSettled brc) (g0_kind bc) (g0_head bc) (g0_body bc) (g0_excepts bc) (g0_power bc) (g0_beats bc) (g0_facts bc) (g0_size bc) (g0_shut bc) (g4_came brd) (g4_last brd) (g6_known bv) (g6_fresh bv) (g6_strictFor bv) (g6_forwardFor bv) (g6_allFor bv) (g6_above bv) (g6_reach bv) (g6_facts bv) (g6_applies bv) (g6_falls bv) (g6_sureBodies bv) (g6_neverBodies bv) (g7_length bwd) (g2_length bpa) D un 4 = (T, (g8_isSettled brc), (g4_came brd), (g4_last brd), (g6_known bv), (g6_fresh bv), (g6_strictFor bv), (g6_forwardFor bv), (g6_allFor bv), (g6_above bv), (g6_reach bv), (g6_facts bv), (g6_applies bv), (g6_falls bv), (g6_sureBodies bv), (g6_neverBodies bv)) := by
    rw [← hT]
    unfold FX8_count FX8_count_4 FX8_settled
    rw [if_neg (show ¬ (4 : Int32) = 0 by decide)]
    rw [if_neg (show ¬ (4 : Int32) = 1 by decide)]
    rw [if_neg (show ¬ (4 : Int32) = 2 by decide)]
    rw [if_neg (show ¬ (4 : Int32) = 3 by decide)]
    rw [if_pos rfl]
  rw [e] at h
  simp only [se8_isSettled, se4_came, se4_last, se6_known, se6_fresh, se6_strictFor, se6_forwardFor, se6_allFor, se6_above, se6_reach, se6_facts, se6_applies, se6_falls, se6_sureBodies, se6_neverBodies] at h
  exact h

set_option maxHeartbeats 1000000 in
theorem c_X8_count_5 (l : Launch) (G : zG) (arc : Nat → Nat) (ac : Nat → Nat) (ard : Nat → Nat) (av : Nat → Nat) (awd : Nat → Nat) (apa : Nat → Nat) (ahi : Nat → Nat) (aik : Nat → Nat → Nat) (orc_thought : Nat) (orc_thoughtRounds : Nat) (orc_chain : Nat) (orc_kept : Nat) (orc_rows : Nat) (brc : S8) (bc : S0) (brd : S4) (bv : S6) (bwd : S7) (bpa : S2) (sg : Nat → Nat) (y : Nat → S0) (D : Nat) (un : Int32) (x1 : Int32) (hh_c_head : ∀ r : Nat, r < 16 → vp_in (g0_head bc r) 20) (hz_c_size : ∃ N : Nat, N ≤ 16 ∧ g0_size bc = nI N) (hu_rc_isSettled : ¬ g8_isSettled brc = 0) (hv1 : x1 = 5) (T : Int32) (hT : FX8_count_5 (g0_beats bc) (g0_size bc) x1 = T) : zI l yX8_count wsX8_count rmX8_count .int G [.ref (arc 0), .int x1] (w8 G arc (ac 0) (ard 0) orc_thought orc_thoughtRounds orc_chain (ahi 0) orc_kept (awd 0) (apa 0) orc_rows brc :: w0 G ac bc :: w4 G ard (av 0) brd :: w6 G av bv :: w7 G awd bwd :: w2 G apa bpa :: w1 G ahi aik sg (nI D) un :: hcs G aik y) T (w8 G arc (ac 0) (ard 0) orc_thought orc_thoughtRounds orc_chain (ahi 0) orc_kept (awd 0) (apa 0) orc_rows brc :: w0 G ac bc :: w4 G ard (av 0) brd :: w6 G av bv :: w7 G awd bwd :: w2 G apa bpa :: w1 G ahi aik sg (nI D) un :: hcs G aik y) := by
  subst hv1
  have h := c_X8_count l G arc ac ard av awd apa ahi aik orc_thought orc_thoughtRounds orc_chain orc_kept orc_rows brc bc brd bv bwd bpa sg y D un 5 hh_c_head hz_c_size _ rfl
  have e : FX8_count (g8_isSettled brc) (g0_kind bc) (g0_head bc) (g0_body bc) (g0_excepts bc) (g0_power bc) (g0_beats bc) (g0_facts bc) (g0_size bc) (g0_shut bc) (g4_came brd) (g4_last brd) (g6_known bv) (g6_fresh bv) (g6_strictFor bv) (g6_forwardFor bv) (g6_allFor bv) (g6_above bv) (g6_reach bv) (g6_facts bv) (g6_applies bv) (g6_falls bv) (g6_sureBodies bv) (g6_neverBodies bv) (g7_length bwd) (g2_length bpa) D un 5 = (T, (g8_isSettled brc), (g4_came brd), (g4_last brd), (g6_known bv), (g6_fresh bv), (g6_strictFor bv), (g6_forwardFor bv), (g6_allFor bv), (g6_above bv), (g6_reach bv), (g6_facts bv), (g6_applies bv), (g6_falls bv), (g6_sureBodies bv), (g6_neverBodies bv)) := by
    rw [← hT]
    unfold FX8_count FX8_count_5 FX8_settled
    rw [if_neg (show ¬ (5 : Int32) = 0 by decide)]
    rw [if_neg (show ¬ (5 : Int32) = 1 by decide)]
    rw [if_neg (show ¬ (5 : Int32) = 2 by decide)]
    rw [if_neg (show ¬ (5 : Int32) = 3 by decide)]
    rw [if_neg (show ¬ (5 : Int32) = 4 by decide)]
    rw [if_pos rfl]
    simp only [bnd]
  rw [e] at h
  simp only [se8_isSettled, se4_came, se4_last, se6_known, se6_fresh, se6_strictFor, se6_forwardFor, se6_allFor, se6_above, se6_reach, se6_facts, se6_applies, se6_falls, se6_sureBodies, se6_neverBodies] at h
  exact h

set_option maxHeartbeats 1000000 in
theorem c_X8_count_6 (l : Launch) (G : zG) (arc : Nat → Nat) (ac : Nat → Nat) (ard : Nat → Nat) (av : Nat → Nat) (awd : Nat → Nat) (apa : Nat → Nat) (ahi : Nat → Nat) (aik : Nat → Nat → Nat) (orc_thought : Nat) (orc_thoughtRounds : Nat) (orc_chain : Nat) (orc_kept : Nat) (orc_rows : Nat) (brc : S8) (bc : S0) (brd : S4) (bv : S6) (bwd : S7) (bpa : S2) (sg : Nat → Nat) (y : Nat → S0) (D : Nat) (un : Int32) (x1 : Int32) (hh_c_head : ∀ r : Nat, r < 16 → vp_in (g0_head bc r) 20) (hz_c_size : ∃ N : Nat, N ≤ 16 ∧ g0_size bc = nI N) (hu_rc_isSettled : ¬ g8_isSettled brc = 0) (hv1 : x1 = 6) (T : Int32) (hT : FX8_count_6 (g6_known bv) x1 = T) : zI l yX8_count wsX8_count rmX8_count .int G [.ref (arc 0), .int x1] (w8 G arc (ac 0) (ard 0) orc_thought orc_thoughtRounds orc_chain (ahi 0) orc_kept (awd 0) (apa 0) orc_rows brc :: w0 G ac bc :: w4 G ard (av 0) brd :: w6 G av bv :: w7 G awd bwd :: w2 G apa bpa :: w1 G ahi aik sg (nI D) un :: hcs G aik y) T (w8 G arc (ac 0) (ard 0) orc_thought orc_thoughtRounds orc_chain (ahi 0) orc_kept (awd 0) (apa 0) orc_rows brc :: w0 G ac bc :: w4 G ard (av 0) brd :: w6 G av bv :: w7 G awd bwd :: w2 G apa bpa :: w1 G ahi aik sg (nI D) un :: hcs G aik y) := by
  subst hv1
  have h := c_X8_count l G arc ac ard av awd apa ahi aik orc_thought orc_thoughtRounds orc_chain orc_kept orc_rows brc bc brd bv bwd bpa sg y D un 6 hh_c_head hz_c_size _ rfl
  have e : FX8_count (g8_isSettled brc) (g0_kind bc) (g0_head bc) (g0_body bc) (g0_excepts bc) (g0_power bc) (g0_beats bc) (g0_facts bc) (g0_size bc) (g0_shut bc) (g4_came brd) (g4_last brd) (g6_known bv) (g6_fresh bv) (g6_strictFor bv) (g6_forwardFor bv) (g6_allFor bv) (g6_above bv) (g6_reach bv) (g6_facts bv) (g6_applies bv) (g6_falls bv) (g6_sureBodies bv) (g6_neverBodies bv) (g7_length bwd) (g2_length bpa) D un 6 = (T, (g8_isSettled brc), (g4_came brd), (g4_last brd), (g6_known bv), (g6_fresh bv), (g6_strictFor bv), (g6_forwardFor bv), (g6_allFor bv), (g6_above bv), (g6_reach bv), (g6_facts bv), (g6_applies bv), (g6_falls bv), (g6_sureBodies bv), (g6_neverBodies bv)) := by
    rw [← hT]
    unfold FX8_count FX8_count_6 FX8_settled
    rw [if_neg (show ¬ (6 : Int32) = 0 by decide)]
    rw [if_neg (show ¬ (6 : Int32) = 1 by decide)]
    rw [if_neg (show ¬ (6 : Int32) = 2 by decide)]
    rw [if_neg (show ¬ (6 : Int32) = 3 by decide)]
    rw [if_neg (show ¬ (6 : Int32) = 4 by decide)]
    rw [if_neg (show ¬ (6 : Int32) = 5 by decide)]
    rw [if_pos rfl]
    simp only [bnd, if_neg hu_rc_isSettled]
  rw [e] at h
  simp only [se8_isSettled, se4_came, se4_last, se6_known, se6_fresh, se6_strictFor, se6_forwardFor, se6_allFor, se6_above, se6_reach, se6_facts, se6_applies, se6_falls, se6_sureBodies, se6_neverBodies] at h
  exact h
