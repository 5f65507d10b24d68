/-! ===== told: the invariants, by what is told ===== -/
theorem bv_n {n : Nat} (h : n < 4294967296) : (nI n).toBitVec.toNat = n := by
  show (BitVec.ofNat 32 n).toNat = n
  rw [BitVec.toNat_ofNat]; exact Nat.mod_eq_of_lt h
theorem n_bv (x : Int32) : x = nI x.toBitVec.toNat := by
  apply Int32.toBitVec_inj.mp
  show x.toBitVec = BitVec.ofNat 32 x.toBitVec.toNat
  rw [BitVec.ofNat_toNat, BitVec.setWidth_eq]
theorem lex_back {D : Dt} {S : St} (hD : okD D) (hC : rC D S) (hM : rM D S) : I_lex S := by
  obtain ⟨d1, d2, d3⟩ := hD
  obtain ⟨c1, c2, c3, c4⟩ := hC
  obtain ⟨m1, m2, m3, m4⟩ := hM
  refine ⟨fun w hw => ?_, fun l hl => ?_⟩
  · obtain ⟨h8, hd⟩ := d1 w hw
    obtain ⟨a1, a2⟩ := c1 w hw
    obtain ⟨b1, b2⟩ := m1 w hw
    have e : nv S 16 w = (D.1 w).length := nv_n a1 (by omega)
    have hlt := pkd_lt (l := D.1 w) _ hd
    have h2 : (16 : Nat) ^ (D.1 w).length ≤ 16 ^ 8 := Nat.pow_le_pow_right (by decide) h8
    have e2 : wx S w = pkd (D.1 w) (D.1 w).length := by unfold wx; rw [a2]; exact bv_n (Nat.lt_of_lt_of_le hlt h2)
    unfold OKw
    rw [e, e2]
    refine ⟨a1, h8, b1, hlt, fun j hj => ?_⟩
    rw [pkd_dig _ hd j hj]; exact b2 j hj
  · obtain ⟨h8, hd⟩ := d2 l hl
    obtain ⟨a1, a2⟩ := c2 l hl
    obtain ⟨b1, b2⟩ := m2 l hl
    have e : nv S 18 l = (D.2.1 l).length := nv_n a1 (by omega)
    unfold OKl
    rw [e]
    refine ⟨a1, h8, b1, fun j hj => ?_⟩
    have h3 := hd j hj
    have e2 : nv S 17 (8 * l + j) = (D.2.1 l).getD j 0 := nv_n (a2 j hj) (by omega)
    rw [e2]
    exact ⟨a2 j hj, h3, b2 j hj⟩
theorem cut_back {D : Dt} {S : St} (hD : okD D) (hC : rC D S) (hM : rM D S) : I_cut S := by
  have e : ct S = D.2.2.1 := nv_n hC.2.2.1 (by have := hD.2.2; omega)
  unfold I_cut
  rw [e]
  exact ⟨hC.2.2.1, hM.2.2.1, hD.2.2⟩
theorem near_back {D : Dt} {S : St} (hC : rC D S) (hM : rM D S) : I_near S := by
  intro p hp
  obtain ⟨m, a1, a2, a3⟩ := hC.2.2.2 p hp
  obtain ⟨n, b1, b2, b3⟩ := hM.2.2.2 p hp
  have e1 : nv S 46 p = m := nv_n a2 (by omega)
  have e2 : nv S 72 p = n := nv_n b2 (by omega)
  rw [e1, e2]
  exact ⟨a2, a1, b2, b1, fun q hq => by rw [a3 q hq, b3 q hq]⟩
def dg (x n : Nat) : List Nat := (List.range n).map (fun j => x / 16 ^ j % 16)
theorem dg_len (x n : Nat) : (dg x n).length = n := by unfold dg; rw [List.length_map, List.length_range]
theorem dg_get {x n i : Nat} (h : i < n) : (dg x n).getD i 0 = x / 16 ^ i % 16 := by
  unfold dg
  rw [List.getD_eq_getElem?_getD, List.getElem?_map, List.getElem?_range h]; rfl
theorem pkd_dg {x n : Nat} : ∀ k, k ≤ n → pkd (dg x n) k = x % 16 ^ k := by
  intro k
  induction k with
  | zero => intro _; show 0 = x % 1; rw [Nat.mod_one]
  | succ k ih =>
    intro h
    show pkd (dg x n) k + (dg x n).getD k 0 * 16 ^ k = _
    rw [ih (by omega), dg_get (by omega), Nat.pow_succ, Nat.mod_mul, Nat.mul_comm (16 ^ k)]
def dL (S : St) (c b n : Nat) : List Nat := (List.range n).map (fun j => nv S c (b + j))
theorem dL_len (S : St) (c b n : Nat) : (dL S c b n).length = n := by unfold dL; rw [List.length_map, List.length_range]
theorem dL_get {S : St} {c b n i : Nat} (h : i < n) : (dL S c b n).getD i 0 = nv S c (b + i) := by
  unfold dL
  rw [List.getD_eq_getElem?_getD, List.getElem?_map, List.getElem?_range h]; rfl
def dOf (S : St) : Dt := (fun w => dg (wx S w) (nv S 16 w), fun l => dL S 17 (8 * l) (nv S 18 l), ct S, fun p q => tb (nv S 72 p) q)
theorem d_of {S : St} (hX : I_lex S) (hc : I_cut S) (hn : I_near S) : okD (dOf S) ∧ rC (dOf S) S ∧ rM (dOf S) S := by
  refine ⟨⟨fun w hw => ?_, fun l hl => ?_, hc.2.2⟩, ⟨fun w hw => ?_, fun l hl => ?_, hc.1, fun p hp => ?_⟩, ⟨fun w hw => ?_, fun l hl => ?_, hc.2.1, fun p hp => ?_⟩⟩
  · obtain ⟨a1, a2, a3, a4, a5⟩ := hX.1 w hw
    show (dg (wx S w) (nv S 16 w)).length ≤ 8 ∧ ∀ i, i < (dg (wx S w) (nv S 16 w)).length → (dg (wx S w) (nv S 16 w)).getD i 0 < 16
    rw [dg_len]
    exact ⟨a2, fun i hi => by rw [dg_get hi]; exact Nat.mod_lt _ (by decide)⟩
  · obtain ⟨a1, a2, a3, a4⟩ := hX.2 l hl
    show (dL S 17 (8 * l) (nv S 18 l)).length ≤ 8 ∧ ∀ i, i < (dL S 17 (8 * l) (nv S 18 l)).length → (dL S 17 (8 * l) (nv S 18 l)).getD i 0 = 100 ∨ (dL S 17 (8 * l) (nv S 18 l)).getD i 0 < 32
    rw [dL_len]
    exact ⟨a2, fun i hi => by rw [dL_get hi]; exact (a4 i hi).2.1⟩
  · obtain ⟨a1, a2, a3, a4, a5⟩ := hX.1 w hw
    show rd S 16 w = nI (dg (wx S w) (nv S 16 w)).length ∧ rd S 15 w = nI (pkd (dg (wx S w) (nv S 16 w)) (dg (wx S w) (nv S 16 w)).length)
    rw [dg_len, pkd_dg _ (Nat.le_refl _), Nat.mod_eq_of_lt a4]
    exact ⟨a1, n_bv _⟩
  · obtain ⟨a1, a2, a3, a4⟩ := hX.2 l hl
    show rd S 18 l = nI (dL S 17 (8 * l) (nv S 18 l)).length ∧ ∀ j, j < (dL S 17 (8 * l) (nv S 18 l)).length → rd S 17 (8 * l + j) = nI ((dL S 17 (8 * l) (nv S 18 l)).getD j 0)
    rw [dL_len]
    exact ⟨a1, fun i hi => by rw [dL_get hi]; exact (a4 i hi).1⟩
  · obtain ⟨h1, h2, h3, h4, h5⟩ := hn p hp
    exact ⟨nv S 46 p, h2, h1, h5⟩
  · obtain ⟨a1, a2, a3, a4, a5⟩ := hX.1 w hw
    show rd S 67 w = nI (dg (wx S w) (nv S 16 w)).length ∧ ∀ j, j < (dg (wx S w) (nv S 16 w)).length → rd S 68 (8 * w + j) = nI ((dg (wx S w) (nv S 16 w)).getD j 0)
    rw [dg_len]
    exact ⟨a3, fun i hi => by rw [dg_get hi]; exact a5 i hi⟩
  · obtain ⟨a1, a2, a3, a4⟩ := hX.2 l hl
    show rd S 69 l = nI (dL S 17 (8 * l) (nv S 18 l)).length ∧ ∀ j, j < (dL S 17 (8 * l) (nv S 18 l)).length → rd S 70 (8 * l + j) = nI (p32 ((dL S 17 (8 * l) (nv S 18 l)).getD j 0))
    rw [dL_len]
    exact ⟨a3, fun i hi => by rw [dL_get hi]; exact (a4 i hi).2.2⟩
  · obtain ⟨h1, h2, h3, h4, h5⟩ := hn p hp
    exact ⟨nv S 72 p, h4, h3, fun q hq => rfl⟩
