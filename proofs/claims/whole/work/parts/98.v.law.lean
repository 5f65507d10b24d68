/-! ===== the law: at the start; case by case ===== -/
theorem s0_z {c : Nat} (h : c ≠ 46 ∧ c ≠ 47 ∧ c ≠ 3 ∧ c ≠ 54) (j : Nat) : rd S0 c j = nI 0 := by
  unfold rd S0
  simp only [if_neg h.1, if_neg h.2.1, if_neg h.2.2.1, if_neg h.2.2.2]
  rfl
theorem s0_54 {j : Nat} (h : j ≠ 7) : rd S0 54 j = nI 0 := by
  show (if j = 7 then (5 : Int32) else 0) = _
  rw [if_neg h]; rfl
theorem s0_547 : rd S0 54 7 = nI 5 := rfl
theorem s0_34 : rd S0 3 4 = nI 5 := rfl
theorem nv0 {c : Nat} (h : c ≠ 46 ∧ c ≠ 47 ∧ c ≠ 3 ∧ c ≠ 54) (j : Nat) : nv S0 c j = 0 := nv_n (s0_z h j) (by decide)
theorem s0_46 : ∀ p : Fin 6, rd S0 46 p.1 = nI (nv S0 46 p.1) ∧ nv S0 46 p.1 < 64 ∧ ∀ q : Fin 6, tb (nv S0 46 p.1) q.1 = decide (p.1 = q.1) := by decide +kernel
theorem s0_47 : ∀ p : Fin 6, rd S0 47 p.1 = -1 := by decide +kernel
theorem inv0 : Inv S0 := by
  refine ⟨?_, ?_, ⟨fun w hw => ?_, fun l hl => ?_⟩, ?_, fun i hi => ?_, fun i hi => ?_, fun p hp => ?_, ?_⟩
  · have hn : nP S0 = 0 := by unfold nP; rw [s0_z (by decide)]; exact cl_n (by decide)
    unfold I_pcs
    rw [hn]
    exact ⟨by decide, s0_z (by decide) 1, s0_54 (by decide), fun p hp => by omega⟩
  · have hn : ct S0 = 5 := nv_n s0_34 (by decide)
    unfold I_cut
    rw [hn]
    exact ⟨s0_34, s0_547, by decide⟩
  · unfold OKw
    have e : wx S0 w = 0 := by unfold wx; rw [s0_z (by decide)]; rfl
    rw [nv0 (by decide), e]
    exact ⟨s0_z (by decide) w, by decide, s0_z (by decide) w, by decide, fun j hj => by omega⟩
  · unfold OKl
    rw [nv0 (by decide)]
    exact ⟨s0_z (by decide) l, by decide, s0_z (by decide) l, fun j hj => by omega⟩
  · exact ⟨0, by decide, s0_z (by decide) 1, s0_54 (by decide), fun i hi => by omega⟩
  · exact ⟨0, by decide, s0_z (by decide) i, s0_z (by decide) i⟩
  · exact ⟨0, 0, by decide, by decide, s0_z (by decide) i, s0_z (by decide) i, s0_z (by decide) i, s0_z (by decide) i⟩
  · obtain ⟨h1, h2, h3⟩ := s0_46 ⟨p, hp⟩
    refine ⟨h1, h2, by rw [nv0 (by decide)]; exact s0_z (by decide) p, by rw [nv0 (by decide)]; decide, fun q hq => ?_⟩
    rw [nv0 (c := 72) (by decide), show tb 0 q = false from Nat.zero_testBit q, Bool.or_false]
    exact h3 ⟨q, hq⟩
  · refine ⟨0, 0, (fun _ => 0, fun _ => 0, fun _ => 0, fun _ => false, fun _ => []), by decide, by decide, fun c hc => by omega, ⟨fun c hc => by omega, fun c d hc => by omega⟩, ⟨s0_z (by decide) 7, s0_z (by decide) 8, ?_, fun c hc => by omega, fun p hp => Or.inr ⟨fun c hc => by omega, s0_47 ⟨p, hp⟩⟩⟩, ⟨s0_54 (by decide), s0_54 (by decide), fun c hc => by omega⟩⟩
    unfold nC; rw [s0_z (by decide)]; exact cl_n (by decide)
def Gd (v3 : Int32) (L : Nat) : Prop := inb (v3 + (1 : Int32)) L ∧ inb (v3 + (2 : Int32)) L ∧ inb (v3 + (3 : Int32)) L ∧ inb (v3 + (4 : Int32)) L ∧ inb (v3 + (5 : Int32)) L ∧ inb (v3 + (6 : Int32)) L
theorem law_c0 {xs : Nat → Int32} {L : Nat} {v3 : Int32} {J : St → Option Int32} {S : St} (G : Gd v3 L) (h : Inv S) (hJ : ∀ S', Inv S' → J S' = some 1) : f_law_c0 xs L v3 J S = some 1 := by
  obtain ⟨g1, g2, g3, g4, g5, g6⟩ := G
  obtain ⟨r, S1, S2, p1, p2, p3, p4⟩ := piece_ok (xs (Int32.toNatClampNeg (v3 + (1 : Int32)))) (xs (Int32.toNatClampNeg (v3 + (2 : Int32)))) (xs (Int32.toNatClampNeg (v3 + (3 : Int32)))) (xs (Int32.toNatClampNeg (v3 + (4 : Int32)))) (xs (Int32.toNatClampNeg (v3 + (5 : Int32)))) h.1
  unfold f_law_c0
  rw [gd_t g1, gd_t g2, gd_t g3, gd_t g4, gd_t g5, p1, bd_some, gd_t g1, gd_t g2, gd_t g3, gd_t g4, gd_t g5, p2, bd_some, if_pos rfl]
  exact hJ S2 (inv_pc h p4 p3)
theorem law_c1 {xs : Nat → Int32} {L : Nat} {v3 : Int32} {J : St → Option Int32} {S : St} (G : Gd v3 L) (h : Inv S) (hJ : ∀ S', Inv S' → J S' = some 1) : f_law_c1 xs L v3 J S = some 1 := by
  obtain ⟨g1, g2, g3, g4, g5, g6⟩ := G
  obtain ⟨r, S1, S2, p1, p2, p3, p4⟩ := worn_ok (xs (Int32.toNatClampNeg (v3 + (1 : Int32)))) (xs (Int32.toNatClampNeg (v3 + (2 : Int32)))) h.1
  unfold f_law_c1
  rw [gd_t g1, gd_t g2, p1, bd_some, gd_t g1, gd_t g2, p2, bd_some, if_pos rfl]
  exact hJ S2 (inv_pp h (kp_fr p4 (fun c j z => W_pcs_i.mp z)) p3)
theorem law_c2 {xs : Nat → Int32} {L : Nat} {v3 : Int32} {J : St → Option Int32} {S : St} (G : Gd v3 L) (h : Inv S) (hJ : ∀ S', Inv S' → J S' = some 1) : f_law_c2 xs L v3 J S = some 1 := by
  obtain ⟨g1, g2, g3, g4, g5, g6⟩ := G
  obtain ⟨r, p1, p2⟩ := of_all (xs (Int32.toNatClampNeg (v3 + (1 : Int32)))) (xs (Int32.toNatClampNeg (v3 + (2 : Int32)))) (xs (Int32.toNatClampNeg (v3 + (3 : Int32)))) h.1
  unfold f_law_c2
  rw [gd_t g1, gd_t g2, gd_t g3, p1, bd_some, gd_t g1, gd_t g2, gd_t g3, p2, bd_some, if_pos rfl]
  exact hJ S h
theorem law_c3 {xs : Nat → Int32} {L : Nat} {v3 : Int32} {J : St → Option Int32} {S : St} (G : Gd v3 L) (h : Inv S) (hJ : ∀ S', Inv S' → J S' = some 1) : f_law_c3 xs L v3 J S = some 1 := by
  obtain ⟨g1, g2, g3, g4, g5, g6⟩ := G
  obtain ⟨r, p1, p2⟩ := lost_all  h.1
  unfold f_law_c3
  rw [p1, bd_some, p2, bd_some, if_pos rfl]
  exact hJ S h
theorem law_c4 {xs : Nat → Int32} {L : Nat} {v3 : Int32} {J : St → Option Int32} {S : St} (G : Gd v3 L) (h : Inv S) (hJ : ∀ S', Inv S' → J S' = some 1) : f_law_c4 xs L v3 J S = some 1 := by
  obtain ⟨g1, g2, g3, g4, g5, g6⟩ := G
  obtain ⟨r, S1, S2, p1, p2, p3⟩ := said_all (xs (Int32.toNatClampNeg (v3 + (1 : Int32)))) ((lshlv (Int32.toInt64 (xs (Int32.toNatClampNeg (v3 + (2 : Int32))))) (32 : Int32)) ||| ((Int32.toInt64 (xs (Int32.toNatClampNeg (v3 + (3 : Int32))))) &&& (4294967295 : Int64))) (xs (Int32.toNatClampNeg (v3 + (4 : Int32)))) (xs (Int32.toNatClampNeg (v3 + (5 : Int32)))) h.1 h.2.1
  unfold f_law_c4
  rw [gd_t g1, gd_t g2, gd_t g3, gd_t g4, gd_t g5, p1, bd_some, gd_t g1, gd_t g2, gd_t g3, gd_t g4, gd_t g5, p2, bd_some, if_pos rfl]
  exact hJ S2 (inv_sd h p3)
theorem law_c5 {xs : Nat → Int32} {L : Nat} {v3 : Int32} {J : St → Option Int32} {S : St} (G : Gd v3 L) (h : Inv S) (hJ : ∀ S', Inv S' → J S' = some 1) : f_law_c5 xs L v3 J S = some 1 := by
  obtain ⟨g1, g2, g3, g4, g5, g6⟩ := G
  obtain ⟨r, S1, S2, p1, p2, p3⟩ := bit_all (xs (Int32.toNatClampNeg (v3 + (1 : Int32)))) ((lshlv (Int32.toInt64 (xs (Int32.toNatClampNeg (v3 + (2 : Int32))))) (32 : Int32)) ||| ((Int32.toInt64 (xs (Int32.toNatClampNeg (v3 + (3 : Int32))))) &&& (4294967295 : Int64))) (xs (Int32.toNatClampNeg (v3 + (4 : Int32)))) (xs (Int32.toNatClampNeg (v3 + (5 : Int32)))) h.1 h.2.1
  unfold f_law_c5
  rw [gd_t g1, gd_t g2, gd_t g3, gd_t g4, gd_t g5, p1, bd_some, gd_t g1, gd_t g2, gd_t g3, gd_t g4, gd_t g5, p2, bd_some, if_pos rfl]
  exact hJ S2 (inv_sd h p3)
theorem law_c6 {xs : Nat → Int32} {L : Nat} {v3 : Int32} {J : St → Option Int32} {S : St} (G : Gd v3 L) (h : Inv S) (hJ : ∀ S', Inv S' → J S' = some 1) : f_law_c6 xs L v3 J S = some 1 := by
  obtain ⟨g1, g2, g3, g4, g5, g6⟩ := G
  obtain ⟨r, S1, S2, p1, p2, p3, p4, p5⟩ := write_ok ((lshlv (Int32.toInt64 (xs (Int32.toNatClampNeg (v3 + (1 : Int32))))) (32 : Int32)) ||| ((Int32.toInt64 (xs (Int32.toNatClampNeg (v3 + (2 : Int32))))) &&& (4294967295 : Int64))) (xs (Int32.toNatClampNeg (v3 + (3 : Int32)))) h.2.2.2.1
  unfold f_law_c6
  rw [gd_t g1, gd_t g2, gd_t g3, p1, bd_some, gd_t g1, gd_t g2, gd_t g3, p2, bd_some, if_pos rfl]
  exact hJ S2 (inv_wr h p4 p3)
theorem law_c7 {xs : Nat → Int32} {L : Nat} {v3 : Int32} {J : St → Option Int32} {S : St} (G : Gd v3 L) (h : Inv S) (hJ : ∀ S', Inv S' → J S' = some 1) : f_law_c7 xs L v3 J S = some 1 := by
  obtain ⟨g1, g2, g3, g4, g5, g6⟩ := G
  obtain ⟨r, S1, S2, p1, p2, p3, p4⟩ := erase_ok  h.2.2.2.1
  unfold f_law_c7
  rw [p1, bd_some, p2, bd_some, if_pos rfl]
  refine hJ S2 (inv_wr h (fun c j z => ?_) p3)
  rw [p4, rw_ne (by unfold wW at z; omega), rw_ne (by unfold wW at z; omega)]
theorem law_c8 {xs : Nat → Int32} {L : Nat} {v3 : Int32} {J : St → Option Int32} {S : St} (G : Gd v3 L) (h : Inv S) (hJ : ∀ S', Inv S' → J S' = some 1) : f_law_c8 xs L v3 J S = some 1 := by
  obtain ⟨g1, g2, g3, g4, g5, g6⟩ := G
  obtain ⟨r, S1, S2, p1, p2, p3, p4⟩ := fault_all  h.2.2.2.1
  unfold f_law_c8
  rw [p1, bd_some, p2, bd_some, if_pos rfl]
  exact hJ S2 (inv_f h p3)
theorem law_c9 {xs : Nat → Int32} {L : Nat} {v3 : Int32} {J : St → Option Int32} {S : St} (G : Gd v3 L) (h : Inv S) (hJ : ∀ S', Inv S' → J S' = some 1) : f_law_c9 xs L v3 J S = some 1 := by
  obtain ⟨g1, g2, g3, g4, g5, g6⟩ := G
  obtain ⟨r, S1, S2, p1, p2, p3, p4, p5, p6, p7, p8⟩ := told_all  h.2.2.2.1 h.2.2.1 h.2.1 h.2.2.2.2.2.2.1
  unfold f_law_c9
  rw [p1, bd_some, p2, bd_some, if_pos rfl]
  exact hJ S2 (inv_td h p3 p4 p5 p6 p7 p8)
theorem law_c10 {xs : Nat → Int32} {L : Nat} {v3 : Int32} {J : St → Option Int32} {S : St} (G : Gd v3 L) (h : Inv S) (hJ : ∀ S', Inv S' → J S' = some 1) : f_law_c10 xs L v3 J S = some 1 := by
  obtain ⟨g1, g2, g3, g4, g5, g6⟩ := G
  obtain ⟨r, p1, p2⟩ := word_all (xs (Int32.toNatClampNeg (v3 + (1 : Int32)))) (xs (Int32.toNatClampNeg (v3 + (2 : Int32)))) h.2.2.1
  unfold f_law_c10
  rw [gd_t g1, gd_t g2, p1, bd_some, gd_t g1, gd_t g2, p2, bd_some, if_pos rfl]
  exact hJ S h
theorem law_c11 {xs : Nat → Int32} {L : Nat} {v3 : Int32} {J : St → Option Int32} {S : St} (G : Gd v3 L) (h : Inv S) (hJ : ∀ S', Inv S' → J S' = some 1) : f_law_c11 xs L v3 J S = some 1 := by
  obtain ⟨g1, g2, g3, g4, g5, g6⟩ := G
  obtain ⟨r, S1, S2, p1, p2, p3⟩ := line_all (xs (Int32.toNatClampNeg (v3 + (1 : Int32)))) (xs (Int32.toNatClampNeg (v3 + (2 : Int32)))) (xs (Int32.toNatClampNeg (v3 + (3 : Int32)))) h.2.2.1
  unfold f_law_c11
  rw [gd_t g1, gd_t g2, gd_t g3, p1, bd_some, gd_t g1, gd_t g2, gd_t g3, p2, bd_some, if_pos rfl]
  exact hJ S2 (inv_sp h p3)
theorem law_c12 {xs : Nat → Int32} {L : Nat} {v3 : Int32} {J : St → Option Int32} {S : St} (G : Gd v3 L) (h : Inv S) (hJ : ∀ S', Inv S' → J S' = some 1) : f_law_c12 xs L v3 J S = some 1 := by
  obtain ⟨g1, g2, g3, g4, g5, g6⟩ := G
  obtain ⟨r, S1, S2, p1, p2, p3⟩ := jar_all (xs (Int32.toNatClampNeg (v3 + (1 : Int32)))) (xs (Int32.toNatClampNeg (v3 + (2 : Int32)))) (xs (Int32.toNatClampNeg (v3 + (3 : Int32)))) h.1 h.2.1 h.2.2.1
  unfold f_law_c12
  rw [gd_t g1, gd_t g2, gd_t g3, p1, bd_some, gd_t g1, gd_t g2, gd_t g3, p2, bd_some, if_pos rfl]
  exact hJ S2 (inv_jr h p3)
theorem law_c13 {xs : Nat → Int32} {L : Nat} {v3 : Int32} {J : St → Option Int32} {S : St} (G : Gd v3 L) (h : Inv S) (hJ : ∀ S', Inv S' → J S' = some 1) : f_law_c13 xs L v3 J S = some 1 := by
  obtain ⟨g1, g2, g3, g4, g5, g6⟩ := G
  obtain ⟨r, S1, S2, p1, p2, p3, p4⟩ := call_all (xs (Int32.toNatClampNeg (v3 + (1 : Int32)))) (xs (Int32.toNatClampNeg (v3 + (2 : Int32)))) (xs (Int32.toNatClampNeg (v3 + (3 : Int32)))) (xs (Int32.toNatClampNeg (v3 + (4 : Int32)))) (xs (Int32.toNatClampNeg (v3 + (5 : Int32)))) (if (xs (Int32.toNatClampNeg (v3 + (6 : Int32)))) = 0 then (0 : Int32) else (1 : Int32)) (by split; exact Or.inl rfl; exact Or.inr rfl) h.2.2.2.2.2.2 h.2.2.1
  unfold f_law_c13
  rw [gd_t g1, gd_t g2, gd_t g3, gd_t g4, gd_t g5, gd_t g6, lt_eq, p1, bd_some, gd_t g1, gd_t g2, gd_t g3, gd_t g4, gd_t g5, gd_t g6, lt_eq, p2, bd_some, if_pos rfl]
  exact hJ S2 (inv_call h p4 p3)
theorem law_c14 {xs : Nat → Int32} {L : Nat} {v3 : Int32} {J : St → Option Int32} {S : St} (G : Gd v3 L) (h : Inv S) (hJ : ∀ S', Inv S' → J S' = some 1) : f_law_c14 xs L v3 J S = some 1 := by
  obtain ⟨g1, g2, g3, g4, g5, g6⟩ := G
  obtain ⟨r, S1, S2, p1, p2, p3, p4⟩ := run_all (xs (Int32.toNatClampNeg (v3 + (1 : Int32)))) h.2.2.2.2.2.2 h.2.2.2.2.2.1 h.2.2.1 h.1 h.2.1
  unfold f_law_c14
  rw [gd_t g1, p1, bd_some, gd_t g1, p2, bd_some, if_pos rfl]
  exact hJ S2 (inv_rn h p4 p3)
theorem law_c15 {xs : Nat → Int32} {L : Nat} {v3 : Int32} {J : St → Option Int32} {S : St} (G : Gd v3 L) (h : Inv S) (hJ : ∀ S', Inv S' → J S' = some 1) : f_law_c15 xs L v3 J S = some 1 := by
  obtain ⟨g1, g2, g3, g4, g5, g6⟩ := G
  obtain ⟨r, p1, p2⟩ := heard_all (xs (Int32.toNatClampNeg (v3 + (1 : Int32)))) (xs (Int32.toNatClampNeg (v3 + (2 : Int32)))) h.2.2.2.2.2.2
  unfold f_law_c15
  rw [gd_t g1, gd_t g2, p1, bd_some, gd_t g1, gd_t g2, p2, bd_some, if_pos rfl]
  exact hJ S h
theorem law_c16 {xs : Nat → Int32} {L : Nat} {v3 : Int32} {J : St → Option Int32} {S : St} (G : Gd v3 L) (h : Inv S) (hJ : ∀ S', Inv S' → J S' = some 1) : f_law_c16 xs L v3 J S = some 1 := by
  obtain ⟨g1, g2, g3, g4, g5, g6⟩ := G
  obtain ⟨r, p1, p2⟩ := speaks_all (xs (Int32.toNatClampNeg (v3 + (1 : Int32)))) h.2.2.2.2.2.2
  unfold f_law_c16
  rw [gd_t g1, p1, bd_some, gd_t g1, p2, bd_some, if_pos rfl]
  exact hJ S h
theorem law_c17 {xs : Nat → Int32} {L : Nat} {v3 : Int32} {J : St → Option Int32} {S : St} (G : Gd v3 L) (h : Inv S) (hJ : ∀ S', Inv S' → J S' = some 1) : f_law_c17 xs L v3 J S = some 1 := by
  obtain ⟨g1, g2, g3, g4, g5, g6⟩ := G
  obtain ⟨r, p1, p2⟩ := voice_all (xs (Int32.toNatClampNeg (v3 + (1 : Int32)))) (xs (Int32.toNatClampNeg (v3 + (2 : Int32)))) h.2.2.2.2.2.1
  unfold f_law_c17
  rw [gd_t g1, gd_t g2, p1, bd_some, gd_t g1, gd_t g2, p2, bd_some, if_pos rfl]
  exact hJ S h
theorem law_c18 {xs : Nat → Int32} {L : Nat} {v3 : Int32} {J : St → Option Int32} {S : St} (G : Gd v3 L) (h : Inv S) (hJ : ∀ S', Inv S' → J S' = some 1) : f_law_c18 xs L v3 J S = some 1 := by
  obtain ⟨g1, g2, g3, g4, g5, g6⟩ := G
  obtain ⟨r, S1, S2, p1, p2, p3, p4⟩ := wish_ok (xs (Int32.toNatClampNeg (v3 + (1 : Int32)))) (xs (Int32.toNatClampNeg (v3 + (2 : Int32)))) (xs (Int32.toNatClampNeg (v3 + (3 : Int32)))) h.2.2.2.2.2.1
  unfold f_law_c18
  rw [gd_t g1, gd_t g2, gd_t g3, p1, bd_some, gd_t g1, gd_t g2, gd_t g3, p2, bd_some, if_pos rfl]
  exact hJ S2 (inv_vv h (kp_fr p4 (fun c j z => W_vox_i.mp z)) p3)
theorem law_c19 {xs : Nat → Int32} {L : Nat} {v3 : Int32} {J : St → Option Int32} {S : St} (G : Gd v3 L) (h : Inv S) (hJ : ∀ S', Inv S' → J S' = some 1) : f_law_c19 xs L v3 J S = some 1 := by
  obtain ⟨g1, g2, g3, g4, g5, g6⟩ := G
  obtain ⟨r, S1, S2, p1, p2, p3, p4⟩ := change_ok (xs (Int32.toNatClampNeg (v3 + (1 : Int32)))) h.2.2.2.2.2.1
  unfold f_law_c19
  rw [gd_t g1, p1, bd_some, gd_t g1, p2, bd_some, if_pos rfl]
  exact hJ S2 (inv_vv h (kp_fr p4 (fun c j z => W_vox_i.mp z)) p3)
theorem law_c20 {xs : Nat → Int32} {L : Nat} {v3 : Int32} {J : St → Option Int32} {S : St} (G : Gd v3 L) (h : Inv S) (hJ : ∀ S', Inv S' → J S' = some 1) : f_law_c20 xs L v3 J S = some 1 := by
  obtain ⟨g1, g2, g3, g4, g5, g6⟩ := G
  obtain ⟨r, S1, S2, p1, p2, p3⟩ := record_all  h.2.2.1
  unfold f_law_c20
  rw [p1, bd_some, p2, bd_some, if_pos rfl]
  exact hJ S2 (inv_rc h p3)
theorem law_c21 {xs : Nat → Int32} {L : Nat} {v3 : Int32} {J : St → Option Int32} {S : St} (G : Gd v3 L) (h : Inv S) (hJ : ∀ S', Inv S' → J S' = some 1) : f_law_c21 xs L v3 J S = some 1 := by
  obtain ⟨g1, g2, g3, g4, g5, g6⟩ := G
  obtain ⟨r, S1, S2, p1, p2, p3, p4⟩ := crowd_ok (xs (Int32.toNatClampNeg (v3 + (1 : Int32)))) (xs (Int32.toNatClampNeg (v3 + (2 : Int32)))) h.2.2.2.2.1
  unfold f_law_c21
  rw [gd_t g1, gd_t g2, p1, bd_some, gd_t g1, gd_t g2, p2, bd_some, if_pos rfl]
  exact hJ S2 (inv_ll h (kp_fr p4 (fun c j z => W_loud_i.mp z)) p3)
theorem law_c22 {xs : Nat → Int32} {L : Nat} {v3 : Int32} {J : St → Option Int32} {S : St} (G : Gd v3 L) (h : Inv S) (hJ : ∀ S', Inv S' → J S' = some 1) : f_law_c22 xs L v3 J S = some 1 := by
  obtain ⟨g1, g2, g3, g4, g5, g6⟩ := G
  obtain ⟨r, p1, p2⟩ := understood_all (xs (Int32.toNatClampNeg (v3 + (1 : Int32)))) (xs (Int32.toNatClampNeg (v3 + (2 : Int32)))) h.2.2.2.2.1
  unfold f_law_c22
  rw [gd_t g1, gd_t g2, p1, bd_some, gd_t g1, gd_t g2, p2, bd_some, if_pos rfl]
  exact hJ S h
theorem law_c23 {xs : Nat → Int32} {L : Nat} {v3 : Int32} {J : St → Option Int32} {S : St} (G : Gd v3 L) (h : Inv S) (hJ : ∀ S', Inv S' → J S' = some 1) : f_law_c23 xs L v3 J S = some 1 := by
  obtain ⟨g1, g2, g3, g4, g5, g6⟩ := G
  obtain ⟨r, p1, p2⟩ := power_all (xs (Int32.toNatClampNeg (v3 + (1 : Int32)))) (xs (Int32.toNatClampNeg (v3 + (2 : Int32)))) h.2.2.2.2.1
  unfold f_law_c23
  rw [gd_t g1, gd_t g2, p1, bd_some, gd_t g1, gd_t g2, p2, bd_some, if_pos rfl]
  exact hJ S h
theorem law_c24 {xs : Nat → Int32} {L : Nat} {v3 : Int32} {J : St → Option Int32} {S : St} (G : Gd v3 L) (h : Inv S) (hJ : ∀ S', Inv S' → J S' = some 1) : f_law_c24 xs L v3 J S = some 1 := by
  obtain ⟨g1, g2, g3, g4, g5, g6⟩ := G
  obtain ⟨r, p1, p2⟩ := count_all (xs (Int32.toNatClampNeg (v3 + (1 : Int32)))) h.1 h.2.2.2.1 h.2.2.1 h.2.1 h.2.2.2.2.2.2
  unfold f_law_c24
  rw [gd_t g1, p1, bd_some, gd_t g1, p2, bd_some, if_pos rfl]
  exact hJ S h
