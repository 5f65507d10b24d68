/-! ===== a new piece ===== -/
theorem amt4i {i : Nat} (h : i < 8) : ((((4 : Int32) * nI i) &&& 31).toBitVec.smod 32).toNat = 4 * i := by
  have : ∀ i : Fin 8, ((((4 : Int32) * nI i.1) &&& 31).toBitVec.smod 32).toNat = 4 * i.1 := by decide +kernel
  exact this ⟨i, h⟩
theorem sshr_and32 (x : BitVec 32) (n : Nat) (h : n ≤ 28) : x.sshiftRight n &&& 15#32 = (x >>> n) &&& 15#32 := by
  apply BitVec.eq_of_getLsbD_eq
  intro k hk
  rw [BitVec.getLsbD_and, BitVec.getLsbD_and]
  by_cases c : k < 4
  · rw [BitVec.getLsbD_sshiftRight, BitVec.getLsbD_ushiftRight]
    have h1 : decide (32 ≤ k) = false := decide_eq_false (by omega)
    rw [h1, if_pos (by omega)]; rfl
  · have : (15#32).getLsbD k = false := by
      show (15 % 2 ^ 32).testBit k = false
      exact Nat.testBit_lt_two_pow (Nat.lt_of_lt_of_le (show 15 % 2 ^ 32 < 2 ^ 4 by decide) (Nat.pow_le_pow_right (by decide) (by omega)))
    rw [this, Bool.and_false, Bool.and_false]
theorem snd_m (v : Int32) {i : Nat} (h : i < 8) : (v >>> (((4 : Int32) * nI i) &&& 31)) &&& (15 : Int32) = nI (v.toBitVec.toNat / 16 ^ i % 16) := by
  apply Int32.toBitVec_inj.mp
  show BitVec.sshiftRight v.toBitVec ((((4 : Int32) * nI i) &&& 31).toBitVec.smod 32).toNat &&& 15#32 = BitVec.ofNat 32 _
  rw [amt4i h, sshr_and32 _ _ (by omega)]
  apply BitVec.eq_of_toNat_eq
  rw [BitVec.toNat_and, BitVec.toNat_ushiftRight]
  show v.toBitVec.toNat >>> (4 * i) &&& (2 ^ 4 - 1) = _
  rw [Nat.and_two_pow_sub_one_eq_mod, Nat.shiftRight_eq_div_pow, BitVec.toNat_ofNat, p416]
  have := Nat.mod_lt (v.toBitVec.toNat / 16 ^ i) (show 16 > 0 by decide)
  generalize v.toBitVec.toNat / 16 ^ i = z at *
  omega
theorem dig_mod (x : Nat) {l i : Nat} (h : i < l) : x % 16 ^ l / 16 ^ i % 16 = x / 16 ^ i % 16 := by
  obtain ⟨d, rfl⟩ : ∃ d, l = i + (d + 1) := ⟨l - i - 1, by omega⟩
  rw [Nat.pow_add, Nat.mod_mul_right_div_self, Nat.mod_mod_of_dvd]
  exact ⟨16 ^ d, by rw [Nat.pow_succ, Nat.mul_comm]⟩
def X_pc (c j : Nat) : Prop := (c = 1 ∧ j = 1) ∨ (c = 900 ∧ j = 0) ∨ (c = 54 ∧ j = 0) ∨ (55 ≤ c ∧ c ≤ 60) ∨ (200 ≤ c ∧ c < 232)
theorem pieceL_ok {S : St} (v1 : Int32) {l b e y n0 : Nat} (hl : l ≤ 8) (hn : n0 < 16) (h54 : rd S 54 0 = nI n0) :
    ∃ S', f_X11_piece_L59
              (fun  (S26 : St) =>
                gd_ (inb (rd S26 54 0) 16) <|
                lt_ (wr S26 56 (Int32.toNatClampNeg (rd S26 54 0)) (nI l)) fun S27 =>
                gd_ (inb (rd S27 54 0) 16) <|
                lt_ (wr S27 57 (Int32.toNatClampNeg (rd S27 54 0)) (nI b)) fun S29 =>
                gd_ (inb (rd S29 54 0) 16) <|
                lt_ (wr S29 58 (Int32.toNatClampNeg (rd S29 54 0)) (nI e)) fun S31 =>
                gd_ (inb (rd S31 54 0) 16) <|
                lt_ (wr S31 59 (Int32.toNatClampNeg (rd S31 54 0)) (nI y)) fun S33 =>
                gd_ (inb (rd S33 54 0) 16) <|
                lt_ (wr S33 60 (Int32.toNatClampNeg (rd S33 54 0)) (0 : Int32)) fun S35 =>
                lt_ (wr S35 54 0 ((rd S35 54 0) + (1 : Int32))) fun S37 =>
                some (((rd S37 54 0) - (1 : Int32)), S37)) v1 (nI l) (nI b) (nI e) (nI y) FU (0 : Int32) S = some (nI n0, S') ∧
      rd S' 54 0 = nI (n0 + 1) ∧ rd S' 56 n0 = nI l ∧ rd S' 57 n0 = nI b ∧ rd S' 58 n0 = nI e ∧ rd S' 59 n0 = nI y ∧ rd S' 60 n0 = nI 0 ∧ (∀ j, j < l → rd S' 55 (8 * n0 + j) = nI (v1.toBitVec.toNat / 16 ^ j % 16)) ∧ fr (fun c j => (c = 54 ∧ j = 0) ∨ (c = 55 ∧ 8 * n0 ≤ j) ∨ ((56 ≤ c ∧ c ≤ 60) ∧ j = n0)) S S' := by
  refine loopC (fun f (a : St) i => f_X11_piece_L59 _ v1 (nI l) (nI b) (nI e) (nI y) f (nI i) a) (fun x => ∃ S', x = some (nI n0, S') ∧
      rd S' 54 0 = nI (n0 + 1) ∧ rd S' 56 n0 = nI l ∧ rd S' 57 n0 = nI b ∧ rd S' 58 n0 = nI e ∧ rd S' 59 n0 = nI y ∧ rd S' 60 n0 = nI 0 ∧ (∀ j, j < l → rd S' 55 (8 * n0 + j) = nI (v1.toBitVec.toNat / 16 ^ j % 16)) ∧ fr (fun c j => (c = 54 ∧ j = 0) ∨ (c = 55 ∧ 8 * n0 ≤ j) ∨ ((56 ≤ c ∧ c ≤ 60) ∧ j = n0)) S S')
    (fun i a => (∀ j, j < i → rd a 55 (8 * n0 + j) = nI (v1.toBitVec.toNat / 16 ^ j % 16)) ∧ fr (fun c j => c = 55 ∧ 8 * n0 ≤ j) S a) l ?_ ?_ l 0 FU S (by omega) (by unfold FU; omega) ⟨fun j hj => by omega, fr.refl _ _⟩
  · intro f a ⟨h1, h2⟩
    have e0 : rd a 54 0 = nI n0 := by rw [h2 _ _ (by omega)]; exact h54
    refine ⟨wr (wr (wr (wr (wr (wr a 56 n0 (nI l)) 57 n0 (nI b)) 58 n0 (nI e)) 59 n0 (nI y)) 60 n0 (nI 0)) 54 0 (nI (n0 + 1)), ?_, ?_, ?_, ?_, ?_, ?_, ?_, fun j hj => ?_, ?_⟩
    · show f_X11_piece_L59 _ _ _ _ _ _ _ _ _ = _
      rw [f_X11_piece_L59]
      simp (disch := omega) only [md_n, lt_eq, bd_some, gN, gN2, le_T, le_F, lt_T, lt_F, eq_T, eq_F, cN, plus_n, mul_n, rem_n, div_n, sub_n, re_T, re_F, rl_wr, rd_wl, ne_m1, m1_ne, m1_lt, m1_le, m1_ge, m1_gt, m1_refl, ↓reduceIte, L0, L1, L2, L3, L4, L5, L6, L7, L8, L9, L10, L11, L15, L16, L17, L18, L20, L24, L26, L28, L31, L32, L35, L36, L48, L57, L59, L63, L64, L96, L97, L99, L100, L112, L122, L128, L200, L255, L256, L1000, L1024, L2000, L3000, L1000000, L1000000007, e0, Nat.add_sub_cancel]
    · rw [rw_eq]
    · simp (disch := omega) only [md_n, lt_eq, bd_some, gN, gN2, le_T, le_F, lt_T, lt_F, eq_T, eq_F, cN, plus_n, mul_n, rem_n, div_n, sub_n, re_T, re_F, rl_wr, rd_wl, ne_m1, m1_ne, m1_lt, m1_le, m1_ge, m1_gt, m1_refl, ↓reduceIte, L0, L1, L2, L3, L4, L5, L6, L7, L8, L9, L10, L11, L15, L16, L17, L18, L20, L24, L26, L28, L31, L32, L35, L36, L48, L57, L59, L63, L64, L96, L97, L99, L100, L112, L122, L128, L200, L255, L256, L1000, L1024, L2000, L3000, L1000000, L1000000007]
    · simp (disch := omega) only [md_n, lt_eq, bd_some, gN, gN2, le_T, le_F, lt_T, lt_F, eq_T, eq_F, cN, plus_n, mul_n, rem_n, div_n, sub_n, re_T, re_F, rl_wr, rd_wl, ne_m1, m1_ne, m1_lt, m1_le, m1_ge, m1_gt, m1_refl, ↓reduceIte, L0, L1, L2, L3, L4, L5, L6, L7, L8, L9, L10, L11, L15, L16, L17, L18, L20, L24, L26, L28, L31, L32, L35, L36, L48, L57, L59, L63, L64, L96, L97, L99, L100, L112, L122, L128, L200, L255, L256, L1000, L1024, L2000, L3000, L1000000, L1000000007]
    · simp (disch := omega) only [md_n, lt_eq, bd_some, gN, gN2, le_T, le_F, lt_T, lt_F, eq_T, eq_F, cN, plus_n, mul_n, rem_n, div_n, sub_n, re_T, re_F, rl_wr, rd_wl, ne_m1, m1_ne, m1_lt, m1_le, m1_ge, m1_gt, m1_refl, ↓reduceIte, L0, L1, L2, L3, L4, L5, L6, L7, L8, L9, L10, L11, L15, L16, L17, L18, L20, L24, L26, L28, L31, L32, L35, L36, L48, L57, L59, L63, L64, L96, L97, L99, L100, L112, L122, L128, L200, L255, L256, L1000, L1024, L2000, L3000, L1000000, L1000000007]
    · simp (disch := omega) only [md_n, lt_eq, bd_some, gN, gN2, le_T, le_F, lt_T, lt_F, eq_T, eq_F, cN, plus_n, mul_n, rem_n, div_n, sub_n, re_T, re_F, rl_wr, rd_wl, ne_m1, m1_ne, m1_lt, m1_le, m1_ge, m1_gt, m1_refl, ↓reduceIte, L0, L1, L2, L3, L4, L5, L6, L7, L8, L9, L10, L11, L15, L16, L17, L18, L20, L24, L26, L28, L31, L32, L35, L36, L48, L57, L59, L63, L64, L96, L97, L99, L100, L112, L122, L128, L200, L255, L256, L1000, L1024, L2000, L3000, L1000000, L1000000007]
    · simp (disch := omega) only [md_n, lt_eq, bd_some, gN, gN2, le_T, le_F, lt_T, lt_F, eq_T, eq_F, cN, plus_n, mul_n, rem_n, div_n, sub_n, re_T, re_F, rl_wr, rd_wl, ne_m1, m1_ne, m1_lt, m1_le, m1_ge, m1_gt, m1_refl, ↓reduceIte, L0, L1, L2, L3, L4, L5, L6, L7, L8, L9, L10, L11, L15, L16, L17, L18, L20, L24, L26, L28, L31, L32, L35, L36, L48, L57, L59, L63, L64, L96, L97, L99, L100, L112, L122, L128, L200, L255, L256, L1000, L1024, L2000, L3000, L1000000, L1000000007]
    · simp (disch := omega) only [md_n, lt_eq, bd_some, gN, gN2, le_T, le_F, lt_T, lt_F, eq_T, eq_F, cN, plus_n, mul_n, rem_n, div_n, sub_n, re_T, re_F, rl_wr, rd_wl, ne_m1, m1_ne, m1_lt, m1_le, m1_ge, m1_gt, m1_refl, ↓reduceIte, L0, L1, L2, L3, L4, L5, L6, L7, L8, L9, L10, L11, L15, L16, L17, L18, L20, L24, L26, L28, L31, L32, L35, L36, L48, L57, L59, L63, L64, L96, L97, L99, L100, L112, L122, L128, L200, L255, L256, L1000, L1024, L2000, L3000, L1000000, L1000000007]
      exact h1 j hj
    · exact ((((((h2.mono (fun c j h => by omega)).wr (by omega)).wr (by omega)).wr (by omega)).wr (by omega)).wr (by omega)).wr (by omega)
  · intro f a i hi ⟨h1, h2⟩
    have e0 : rd a 54 0 = nI n0 := by rw [h2 _ _ (by omega)]; exact h54
    refine Or.inr ⟨wr a 55 (8 * n0 + i) (nI (v1.toBitVec.toNat / 16 ^ i % 16)), ?_, fun j hj => ?_, h2.wr (by omega)⟩
    · show f_X11_piece_L59 _ _ _ _ _ _ _ _ _ = _
      rw [f_X11_piece_L59, snd_m v1 (show i < 8 by omega)]
      simp (disch := omega) only [md_n, lt_eq, bd_some, gN, gN2, le_T, le_F, lt_T, lt_F, eq_T, eq_F, cN, plus_n, mul_n, rem_n, div_n, sub_n, re_T, re_F, rl_wr, rd_wl, ne_m1, m1_ne, m1_lt, m1_le, m1_ge, m1_gt, m1_refl, ↓reduceIte, L0, L1, L2, L3, L4, L5, L6, L7, L8, L9, L10, L11, L15, L16, L17, L18, L20, L24, L26, L28, L31, L32, L35, L36, L48, L57, L59, L63, L64, L96, L97, L99, L100, L112, L122, L128, L200, L255, L256, L1000, L1024, L2000, L3000, L1000000, L1000000007, e0]
    · by_cases c : j = i
      · subst c; rw [rw_eq]
      · rw [rw_ne (by omega)]; exact h1 j (by omega)
theorem rd_mkP (S : St) (n : Nat) (a b c : Int32) (f : Nat → Int32) (k j : Nat) : rd (mkP S n a b c f) k j = if k = 200 + 2 * n then (if j = 0 then a else if j = 1 then b else if j = 2 then c else 0) else if k = 200 + 2 * n + 1 then f j else rd S k j := rfl
theorem pieceC_ok {S : St} (v1 : Int32) {l b e y : Nat} (hI : I_pcs S) (hn : nP S < 16) (hl1 : 1 ≤ l) (hl : l ≤ 8) (hy : y < 4) :
    ∃ S', fa_piece v1 (nI l) (nI b) (nI e) (nI y) S = some (nI (nP S), S') ∧ nP S' = nP S + 1 ∧ rd S' 1 1 = nI (nP S + 1) ∧ (∀ p, p < nP S + 1 → OKc S' p ∧ rd S' (200 + 2 * p) 5 = nI (lst S' p)) ∧ pl S' (nP S) = l ∧ px S' (nP S) = v1.toBitVec.toNat % 16 ^ l ∧ pv S' (nP S) = y ∧ pw S' (nP S) = 0 ∧ (∀ j, j < l → rd S' (200 + 2 * nP S + 1) j = tone b e l j) ∧ (∀ p, p < nP S → pl S' p = pl S p ∧ px S' p = px S p ∧ pv S' p = pv S p ∧ pw S' p = pw S p ∧ ∀ j, rd S' (200 + 2 * p + 1) j = rd S (200 + 2 * p + 1) j) ∧
      fr (fun c j => (c = 1 ∧ j = 1) ∨ (c = 900 ∧ j = 0) ∨ (200 ≤ c ∧ c < 232)) S S' := by
  obtain ⟨h16, h11, h54, hA⟩ := hI
  obtain ⟨t, t1, t2⟩ := pcT_ok (b := b) (e := e) hl1 hl
  unfold fa_piece
  rw [t1]
  show ∃ S', gd_ (nP S < 16) _ = _ ∧ _
  rw [gd_t hn, sndOf_ok v1 hl, p416]
  generalize hn0 : nP S = n0 at *
  have hxl : v1.toBitVec.toNat % 16 ^ l < 16 ^ l := Nat.mod_lt _ (Nat.pow_pos (by decide))
  have hx32 : v1.toBitVec.toNat % 16 ^ l < 4294967296 := Nat.lt_of_lt_of_le hxl (pow16 hl)
  generalize hxx : v1.toBitVec.toNat % 16 ^ l = xx at *
  unfold f_X8_add
  generalize hSa : mkP S n0 (nI xx) (nI l) (nI y) t = Sa
  have ra : ∀ k j, k ≠ 200 + 2 * n0 → k ≠ 200 + 2 * n0 + 1 → rd Sa k j = rd S k j := fun k j h1 h2 => by rw [← hSa, rd_mkP, if_neg h1, if_neg h2]
  have rp' : ∀ j, rd Sa (200 + 2 * n0) j = (if j = 0 then nI xx else if j = 1 then nI l else if j = 2 then nI y else 0) := fun j => by rw [← hSa, rd_mkP, if_pos rfl]
  have rt : ∀ j, rd Sa (200 + 2 * n0 + 1) j = t j := fun j => by rw [← hSa, rd_mkP, if_neg (by omega), if_pos rfl]
  have na : nP Sa = n0 := by rw [← hn0]; unfold nP; rw [ra _ _ (by omega) (by omega)]
  have r11 : rd Sa 1 1 = nI n0 := by rw [ra _ _ (by omega) (by omega)]; exact h11
  rw [r11, na, gd_t ⟨inb_n hn (by decide), cl_n (by omega), rfl⟩, lt_eq, lt_eq, rw_ne (by omega), r11, show nI n0 + (1 : Int32) = nI (n0 + 1) from plus_n n0 1]
  generalize hSb : wr (wr Sa 900 0 (nI (n0 + 1))) 1 1 (nI (n0 + 1)) = Sb
  have rb : ∀ k j, k ≠ 900 → k ≠ 1 → rd Sb k j = rd Sa k j := fun k j h1 h2 => by rw [← hSb, rw_ne (Or.inl h2), rw_ne (Or.inl h1)]
  have nb : nP Sb = n0 + 1 := by
    unfold nP
    rw [← hSb, rw_ne (by omega), rw_eq, cl_n (by omega)]
  have b11 : rd Sb 1 1 = nI (n0 + 1) := by rw [← hSb, rw_eq]
  have accS : ∀ p, p < n0 → pl Sb p = pl S p ∧ px Sb p = px S p ∧ pv Sb p = pv S p ∧ pw Sb p = pw S p ∧ ∀ j, rd Sb (200 + 2 * p) j = rd S (200 + 2 * p) j := by
    intro p hp
    have hr : ∀ j, rd Sb (200 + 2 * p) j = rd S (200 + 2 * p) j := fun j => by rw [rb _ _ (by omega) (by omega), ra _ _ (by omega) (by omega)]
    refine ⟨?_, ?_, ?_, ?_, hr⟩
    · unfold pl; rw [hr]
    · unfold px; rw [hr]
    · unfold pv; rw [hr]
    · unfold pw; rw [hr]
  have hrn : ∀ j, rd Sb (200 + 2 * n0) j = (if j = 0 then nI xx else if j = 1 then nI l else if j = 2 then nI y else 0) := fun j => by rw [rb _ _ (by omega) (by omega), rp']
  have aL : pl Sb n0 = l := by unfold pl; rw [hrn]; exact cl_n (by omega)
  have aX : px Sb n0 = xx := by unfold px; rw [hrn]; exact pk_tn hx32
  have aV : pv Sb n0 = y := by unfold pv; rw [hrn]; exact cl_n (by omega)
  have aW : pw Sb n0 = 0 := by unfold pw; rw [hrn]; rfl
  have hcb : ∀ q, q < n0 + 1 → OKc Sb q := by
    intro q hq
    by_cases c : q = n0
    · subst c
      unfold OKc
      rw [aL, aX, aV, aW, hrn, hrn, hrn, hrn]
      exact ⟨hl1, hl, hy, Nat.pow_pos (by decide), hxl, rfl, rfl, rfl, rfl⟩
    · obtain ⟨z1, z2, z3, z4, z5⟩ := accS q (by omega)
      unfold OKc
      rw [z1, z2, z3, z4, z5, z5, z5, z5]
      exact (hA q (by omega)).1
  obtain ⟨S', m1, m2, m3⟩ := mend_ok nb (by omega) b11 hcb
  obtain ⟨d1, d2, d3, d4, d5⟩ := m2.acc
  have s11 : rd S' 1 1 = nI (n0 + 1) := by rw [m2.1 _ _ (by omega)]; exact b11
  refine ⟨S', ?_, by rw [d5, nb], s11, fun p hp => ⟨OKc_of m2 (hcb p hp), ?_⟩, by rw [d1, aL], by rw [d2, aX], by rw [d3, aV], by rw [d4, aW], fun j hj => ?_, fun p hp => ?_, fun c j hc => ?_⟩
  · rw [m1, bd_some, s11, show (1 : Int32) = nI 1 from rfl, sub_n (by omega), Nat.add_sub_cancel]
  · rw [m3 p hp]
    unfold lst
    rw [d5, lstK_of m2]
  · rw [m2.1 _ _ (by omega), rb _ _ (by omega) (by omega), rt]; exact t2 j hj
  · obtain ⟨z1, z2, z3, z4, z5⟩ := accS p hp
    rw [d1, d2, d3, d4]
    exact ⟨z1, z2, z3, z4, fun j => by rw [m2.1 _ _ (by omega), rb _ _ (by omega) (by omega), ra _ _ (by omega) (by omega)]⟩
  · rw [m2.1 _ _ (by omega), ← hSb, rw_ne (by omega), rw_ne (by omega), ra _ _ (by omega) (by omega)]
theorem piece_ok (v1 v2 v3 v4 v5 : Int32) {S : St} (hI : I_pcs S) : ∃ r S1 S2, f_X10_piece v1 v2 v3 v4 v5 S = some (r, S1) ∧ f_X11_piece v1 v2 v3 v4 v5 S1 = some (r, S2) ∧ I_pcs S2 ∧ fr X_pc S S2 := by
  have hI' := hI
  unfold f_X10_piece f_X11_piece
  rcases bl1 v2 8 (by decide) with h | ⟨l, hl1, hl, rfl, h⟩
  · exact ⟨-3, S, S, by rw [within_in, show f_X11_in v2 1 8 S = _ from h S]; rfl, by rw [show f_X11_in v2 1 8 S = _ from h S]; rfl, hI, fr.refl _ _⟩
  rw [within_in, show f_X11_in (nI l) 1 8 S = _ from h S, bd_some, if_neg (by decide)]
  rcases bl v3 100 (by decide) (by decide) with g | ⟨b, hb, rfl, g⟩
  · exact ⟨-3, S, S, by rw [show f_X10_below v3 100 S = _ from (g S).1]; rfl, by rw [show f_X11_in (nI l) 1 8 S = _ from h S, bd_some, if_neg (by decide), show f_X11_in v3 0 99 S = _ from (g S).2]; rfl, hI, fr.refl _ _⟩
  rw [show f_X10_below (nI b) 100 S = _ from (g S).1, bd_some, if_neg (by decide)]
  rcases bl v4 100 (by decide) (by decide) with k | ⟨e, he, rfl, k⟩
  · exact ⟨-3, S, S, by rw [show f_X10_below v4 100 S = _ from (k S).1]; rfl, by rw [show f_X11_in (nI l) 1 8 S = _ from h S, bd_some, if_neg (by decide), show f_X11_in (nI b) 0 99 S = _ from (g S).2, bd_some, if_neg (by decide), show f_X11_in v4 0 99 S = _ from (k S).2]; rfl, hI, fr.refl _ _⟩
  rw [show f_X10_below (nI e) 100 S = _ from (k S).1, bd_some, if_neg (by decide)]
  rcases bl v5 4 (by decide) (by decide) with w | ⟨y, hy, rfl, w⟩
  · exact ⟨-3, S, S, by rw [show f_X10_below v5 4 S = _ from (w S).1]; rfl, by rw [show f_X11_in (nI l) 1 8 S = _ from h S, bd_some, if_neg (by decide), show f_X11_in (nI b) 0 99 S = _ from (g S).2, bd_some, if_neg (by decide), show f_X11_in (nI e) 0 99 S = _ from (k S).2, bd_some, if_neg (by decide), show f_X11_in v5 0 3 S = _ from (w S).2]; rfl, hI, fr.refl _ _⟩
  rw [show f_X10_below (nI y) 4 S = _ from (w S).1, bd_some, if_neg (by decide)]
  obtain ⟨h16, h11, h54, hA⟩ := hI
  by_cases c : nP S = 16
  · refine ⟨-5, S, S, ?_, ?_, hI', fr.refl _ _⟩
    · rw [h11, c]; rfl
    · rw [show f_X11_in (nI l) 1 8 S = _ from h S, bd_some, if_neg (by decide), show f_X11_in (nI b) 0 99 S = _ from (g S).2, bd_some, if_neg (by decide), show f_X11_in (nI e) 0 99 S = _ from (k S).2, bd_some, if_neg (by decide), show f_X11_in (nI y) 0 3 S = _ from (w S).2, bd_some, if_neg (by decide), h54, c]; rfl
  · obtain ⟨S1, a1, a2, a3, a4, a5, a6, a7, a8, a9, a10, a11⟩ := pieceC_ok (b := b) (e := e) v1 hI' (by omega) hl1 hl hy
    obtain ⟨S2, b1, b2, b3, b4, b5, b6, b7, b8, b9⟩ := pieceL_ok (S := S1) (b := b) (e := e) (y := y) (n0 := nP S) v1 hl (by omega) (by rw [a11 _ _ (by omega)]; exact h54)
    have hcl : ∀ k j, 200 ≤ k ∨ k = 1 → rd S2 k j = rd S1 k j := fun k j hk => b9 k j (by omega)
    have n2 : nP S2 = nP S + 1 := by rw [← a2]; unfold nP; rw [hcl _ _ (by omega)]
    have acc : pl S2 = pl S1 ∧ px S2 = px S1 ∧ pv S2 = pv S1 ∧ pw S2 = pw S1 := by
      refine ⟨?_, ?_, ?_, ?_⟩
      · funext p; unfold pl; rw [hcl _ _ (by omega)]
      · funext p; unfold px; rw [hcl _ _ (by omega)]
      · funext p; unfold pv; rw [hcl _ _ (by omega)]
      · funext p; unfold pw; rw [hcl _ _ (by omega)]
    obtain ⟨c1, c2, c3, c4⟩ := acc
    have hal : al S2 = al S1 := by funext p q; unfold al; rw [c1, c2, c3]
    have hlst : ∀ p, lst S2 p = lst S1 p := fun p => by unfold lst; rw [n2, a2, lstK_cg hal c4]
    refine ⟨nI (nP S), S1, S2, ?_, ?_, ⟨by omega, by rw [n2, hcl _ _ (by omega)]; exact a3, by rw [n2]; exact b2, fun p hp => ⟨?_, ?_, ?_⟩⟩, fun c j hc => ?_⟩
    · rw [h11, if_pos (show nI (nP S) < (16 : Int32) from of_eq_true (lt_T (a := nP S) (b := 16) (by omega)))]; exact a1
    · rw [show f_X11_in (nI l) 1 8 S1 = _ from h S1, bd_some, if_neg (by decide), show f_X11_in (nI b) 0 99 S1 = _ from (g S1).2, bd_some, if_neg (by decide), show f_X11_in (nI e) 0 99 S1 = _ from (k S1).2, bd_some, if_neg (by decide), show f_X11_in (nI y) 0 3 S1 = _ from (w S1).2, bd_some, if_neg (by decide), a11 54 0 (by omega), h54, if_neg (show ¬ nI (nP S) = (16 : Int32) from of_eq_false (eq_F (a := nP S) (b := 16) (by omega)))]
      exact b1
    · have := (a4 p (by omega)).1
      unfold OKc at this ⊢
      rw [c1, c2, c3, c4, hcl _ 0 (by omega), hcl _ 1 (by omega), hcl _ 2 (by omega), hcl _ 4 (by omega)]
      exact this
    · unfold OKm
      rw [c1, c2, c3, c4]
      by_cases d : p = nP S
      · subst d
        have eb : pb S2 (nP S) = b := by unfold pb; rw [b4]; exact cl_n (by omega)
        have ee : pe S2 (nP S) = e := by unfold pe; rw [b5]; exact cl_n (by omega)
        rw [a5, a6, a7, a8, eb, ee]
        refine ⟨hb, he, b3, b4, b5, b6, b7, fun j hj => ⟨?_, ?_⟩⟩
        · rw [b8 j hj, dig_mod _ hj]
        · rw [hcl _ _ (by omega)]; exact a9 j hj
      · have hp' : p < nP S := by omega
        obtain ⟨z1, z2, z3, z4, z5⟩ := a10 p hp'
        obtain ⟨y1, y2, y3, y4, y5, y6, y7, y8⟩ := (hA p hp').2.1
        have hm : ∀ k, 56 ≤ k → k ≤ 60 → rd S2 k p = rd S k p := fun k h1 h2 => by rw [b9 _ _ (by omega), a11 _ _ (by omega)]
        have eb : pb S2 p = pb S p := by unfold pb; rw [hm 57 (by omega) (by omega)]
        have ee : pe S2 p = pe S p := by unfold pe; rw [hm 58 (by omega) (by omega)]
        rw [z1, z2, z3, z4, eb, ee, hm 56 (by omega) (by omega), hm 57 (by omega) (by omega), hm 58 (by omega) (by omega), hm 59 (by omega) (by omega), hm 60 (by omega) (by omega)]
        refine ⟨y1, y2, y3, y4, y5, y6, y7, fun j hj => ?_⟩
        have hl8 := (hA p hp').1.2.1
        rw [b9 55 _ (by omega), a11 55 _ (by omega), hcl _ _ (by omega), z5]
        exact y8 j hj
    · rw [hlst, hcl _ _ (by omega)]; exact (a4 p (by omega)).2
    · unfold X_pc at hc
      rw [b9 _ _ (by omega), a11 _ _ (by omega)]
