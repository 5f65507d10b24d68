/-! ===== a nibble both ways; rows filled; tones gathered; the sum ===== -/
theorem amt4 {i : Nat} (h : i < 16) : ((((4 : Int32) * nI i).toInt64 &&& 63).toBitVec.smod 64).toNat = 4 * i ∧ ((((4 : Int32) * nI i).toInt64.toUInt64 &&& Int64.toUInt64 63).toNat % 64) = 4 * i := by
  have : ∀ i : Fin 16, ((((4 : Int32) * nI i.1).toInt64 &&& 63).toBitVec.smod 64).toNat = 4 * i.1 ∧ ((((4 : Int32) * nI i.1).toInt64.toUInt64 &&& Int64.toUInt64 63).toNat % 64) = 4 * i.1 := by decide +kernel
  exact this ⟨i, h⟩
theorem nib_lt (v : Int64) (i : Nat) : nib v i < 16 := Nat.mod_lt _ (by decide)
theorem p416 (i : Nat) : (2 : Nat) ^ (4 * i) = 16 ^ i := by rw [Nat.pow_mul]
theorem nib_c {i : Nat} (v : Int64) (h : i < 16) : (Int64.toInt32 (lushrv v ((4 : Int32) * nI i))) &&& (15 : Int32) = nI (nib v i) := by
  apply Int32.toBitVec_inj.mp
  show ((v.toUInt64 >>> (((4 : Int32) * nI i).toInt64.toUInt64 &&& Int64.toUInt64 63)).toBitVec.signExtend 32) &&& 15#32 = BitVec.ofNat 32 (nib v i)
  apply BitVec.eq_of_toNat_eq
  rw [BitVec.toNat_and, BitVec.signExtend_eq_setWidth_of_le _ (by decide), BitVec.toNat_setWidth, UInt64.toNat_toBitVec, UInt64.toNat_shiftRight, (amt4 h).2]
  show v.toBitVec.toNat >>> (4 * i) % 2 ^ 32 &&& (2 ^ 4 - 1) = _
  rw [Nat.and_two_pow_sub_one_eq_mod, Nat.shiftRight_eq_div_pow, BitVec.toNat_ofNat, p416]
  have := nib_lt v i
  unfold nib at *
  generalize v.toBitVec.toNat / 16 ^ i = z at *
  omega
theorem sshr_and4 (x : BitVec 64) (n : Nat) (h : n ≤ 60) : x.sshiftRight n &&& 15#64 = (x >>> n) &&& 15#64 := by
  apply BitVec.eq_of_getLsbD_eq
  intro k hk
  rw [BitVec.getLsbD_and, BitVec.getLsbD_and]
  by_cases c : k < 4
  · rw [BitVec.getLsbD_sshiftRight, BitVec.getLsbD_ushiftRight]
    have h1 : decide (64 ≤ k) = false := decide_eq_false (by omega)
    rw [h1, if_pos (by omega)]; rfl
  · have : (15#64).getLsbD k = false := by
      show (15 % 2 ^ 64).testBit k = false
      exact Nat.testBit_lt_two_pow (Nat.lt_of_lt_of_le (show 15 % 2 ^ 64 < 2 ^ 4 by decide) (Nat.pow_le_pow_right (by decide) (by omega)))
    rw [this, Bool.and_false, Bool.and_false]
theorem nib_m {i : Nat} (v : Int64) (h : i < 16) : Int64.toInt32 ((lshrv v ((4 : Int32) * nI i)) &&& (15 : Int64)) = nI (nib v i) := by
  apply Int32.toBitVec_inj.mp
  show (BitVec.sshiftRight v.toBitVec ((((4 : Int32) * nI i).toInt64 &&& 63).toBitVec.smod 64).toNat &&& 15#64).signExtend 32 = BitVec.ofNat 32 (nib v i)
  rw [(amt4 h).1, sshr_and4 _ _ (by omega)]
  apply BitVec.eq_of_toNat_eq
  rw [BitVec.signExtend_eq_setWidth_of_le _ (by decide), BitVec.toNat_setWidth, BitVec.toNat_and, BitVec.toNat_ushiftRight]
  show (v.toBitVec.toNat >>> (4 * i) &&& (2 ^ 4 - 1)) % 2 ^ 32 = _
  rw [Nat.and_two_pow_sub_one_eq_mod, Nat.shiftRight_eq_div_pow, BitVec.toNat_ofNat, p416]
  rfl
theorem fill_ok {S : St} {c N : Nat} {v : Int32} (hN : alen c = N) (hN2 : N ≤ 2000) : ∃ S', f_J7_fill_53178 c v S = some ((), S') ∧ (∀ j, j < N → rd S' c j = v) ∧ fr (fun k _ => k = c) S S' := by
  unfold f_J7_fill_53178
  rw [hN, lt_eq]
  refine loopC (fun f (b : St) i => f_J7_fill_53178_L5 (fun S9 => some ((), S9)) c v (nI N) f (nI i) b) (fun x => ∃ S', x = some ((), S') ∧ (∀ j, j < N → rd S' c j = v) ∧ fr (fun k _ => k = c) S S') (fun i b => (∀ j, j < i → rd b c j = v) ∧ fr (fun k _ => k = c) S b) N ?_ ?_ N 0 FU S (by omega) (by unfold FU; omega) ⟨fun j hj => by omega, fr.refl _ _⟩
  · intro f b ⟨h1, h2⟩
    refine ⟨b, ?_, h1, h2⟩
    rw [f_J7_fill_53178_L5]
    simp (disch := omega) only [md_n, lt_eq, bd_some, gN, gN2, le_T, le_F, lt_T, lt_F, eq_T, eq_F, cN, plus_n, mul_n, rem_n, div_n, sub_n, re_T, re_F, rl_wr, rd_wl, ne_m1, m1_ne, m1_lt, m1_le, m1_ge, m1_gt, m1_refl, ↓reduceIte, L0, L1, L2, L3, L4, L5, L6, L7, L8, L9, L10, L11, L15, L16, L17, L18, L20, L24, L26, L28, L31, L32, L35, L36, L48, L57, L59, L63, L64, L96, L97, L99, L100, L112, L122, L128, L200, L255, L256, L1000, L1024, L2000, L3000, L1000000, L1000000007]
  · intro f b i hi ⟨h1, h2⟩
    refine Or.inr ⟨wr b c i v, ?_, fun j hj => ?_, h2.wr rfl⟩
    · show f_J7_fill_53178_L5 _ _ _ _ _ _ _ = _
      rw [f_J7_fill_53178_L5, hN]
      simp (disch := omega) only [md_n, lt_eq, bd_some, gN, gN2, le_T, le_F, lt_T, lt_F, eq_T, eq_F, cN, plus_n, mul_n, rem_n, div_n, sub_n, re_T, re_F, rl_wr, rd_wl, ne_m1, m1_ne, m1_lt, m1_le, m1_ge, m1_gt, m1_refl, ↓reduceIte, L0, L1, L2, L3, L4, L5, L6, L7, L8, L9, L10, L11, L15, L16, L17, L18, L20, L24, L26, L28, L31, L32, L35, L36, L48, L57, L59, L63, L64, L96, L97, L99, L100, L112, L122, L128, L200, L255, L256, L1000, L1024, L2000, L3000, L1000000, L1000000007]
    · by_cases d : j = i
      · subst d; rw [rw_eq]
      · rw [rw_ne (Or.inr d)]; exact h1 j (by omega)
theorem fl_sum (p : Nat → Bool) (n : Nat) (f : Nat → Nat) (h : ∀ s, p s = false → f s = 0) : sN ((List.range n).filter p).length (fun m => f (((List.range n).filter p).getD m 0)) = sN n f := by
  induction n with
  | zero => rfl
  | succ n ih =>
    rw [List.range_succ, List.filter_append]
    cases c : p n
    · simp only [List.filter_cons, c, List.filter_nil, List.append_nil, sN, h n c, Nat.add_zero, ih, if_neg (show ¬ false = true by decide)]
    · simp only [List.filter_cons, c, List.filter_nil, if_true]
      rw [List.length_append, List.length_singleton, sN, gA2, sN, ← ih]
      congr 1
      exact sN_congr (fun i hi => by rw [gA1 hi])
theorem sumUp_ok {S a : St} {v b0 : Nat} {B : Nat → Pl} (hb0 : b0 < 10000) (hU : hasL a 5 3 6 (usL S v)) (hB0 : ∀ s, us S v s = false → ∀ j, B s j = 0)
    (hB : ∀ t, us S v t = true → rp (rd a 11 t) (rd a 12 t) (B t) b0) :
    ∃ a', f_X6_sumUp a = some ((), a') ∧ fr (fun c j => c = 3 ∧ (j = 14 ∨ j = 15)) a a' ∧ rp (rd a' 3 14) (rd a' 3 15) (fun j => sN 100 (fun s => B s j)) b0 := by
  obtain ⟨u1, -, -, -, -, u6⟩ := fl_facts (us S v) 100
  have hsum : (fun j => sN 100 (fun s => B s j)) = fun j => sN (usL S v).length (fun m => B ((usL S v).getD m 0) j) := by
    funext j
    exact (fl_sum (us S v) 100 (fun s => B s j) (fun s hs => hB0 s hs j)).symm
  rw [hsum]
  rw [show (List.range 100).filter (us S v) = usL S v from rfl] at u1 u6
  generalize usL S v = U at *
  unfold f_X6_sumUp
  rw [lt_eq, lt_eq]
  refine loopC (fun f (b : St) i => f_X6_sumUp_L13 (fun S31 => some ((), S31)) f (nI i) b) (fun x => ∃ a', x = some ((), a') ∧ fr (fun c j => c = 3 ∧ (j = 14 ∨ j = 15)) a a' ∧ rp (rd a' 3 14) (rd a' 3 15) (fun j => sN U.length (fun m => B (U.getD m 0) j)) b0) (fun i b => fr (fun c j => c = 3 ∧ (j = 14 ∨ j = 15)) a b ∧ rp (rd b 3 14) (rd b 3 15) (fun j => sN i (fun m => B (U.getD m 0) j)) b0) U.length ?_ ?_ U.length 0 FU _ (by omega) (by unfold FU; omega) ⟨((fr.refl _ _).wr (by omega)).wr (by omega), by rw [rw_ne (by omega), rw_eq, rw_eq]; exact rp_z (fun _ => rfl)⟩
  · intro f b ⟨hf, hb⟩
    refine ⟨b, ?_, hf, hb⟩
    have e1 : rd b 3 6 = nI U.length := by rw [hf 3 6 (by omega)]; exact hU.1
    rw [f_X6_sumUp_L13]
    simp (disch := omega) only [md_n, lt_eq, bd_some, gN, gN2, le_T, le_F, lt_T, lt_F, eq_T, eq_F, cN, plus_n, mul_n, rem_n, div_n, sub_n, re_T, re_F, rl_wr, rd_wl, ne_m1, m1_ne, m1_lt, m1_le, m1_ge, m1_gt, m1_refl, ↓reduceIte, L0, L1, L2, L3, L4, L5, L6, L7, L8, L9, L10, L11, L15, L16, L17, L18, L20, L24, L26, L28, L31, L32, L35, L36, L48, L57, L59, L63, L64, L96, L97, L99, L100, L112, L122, L128, L200, L255, L256, L1000, L1024, L2000, L3000, L1000000, L1000000007, e1]
  · intro f b i hi ⟨hf, hb⟩
    right
    have e1 : rd b 3 6 = nI U.length := by rw [hf 3 6 (by omega)]; exact hU.1
    have e2 : rd b 5 i = nI (U.getD i 0) := by rw [hf 5 i (by omega)]; exact hU.2 i hi
    obtain ⟨w1, w2⟩ := u1 i hi
    have hq := hB _ w2
    rw [← hf 11 _ (by omega), ← hf 12 _ (by omega)] at hq
    show ∃ a', _ ∧ _ ∧ rp (rd a' 3 14) (rd a' 3 15) (fun j => sN i (fun m => B (U.getD m 0) j) + B (U.getD i 0) j) b0
    generalize hP : (fun j => sN i (fun m => B (U.getD m 0) j)) = P at *
    rw [show (fun j => sN i (fun m => B (U.getD m 0) j) + B (U.getD i 0) j) = fun j => P j + B (U.getD i 0) j by rw [← hP]]
    generalize B (U.getD i 0) = Q at *
    have keep : ∀ {x y : Int32}, fr (fun c j => c = 3 ∧ (j = 14 ∨ j = 15)) a (wr (wr b 3 14 x) 3 15 y) := (hf.wr (by omega)).wr (by omega)
    rcases hb with ⟨p1, p2, p3⟩ | ⟨j, p1, p2, p3, p4⟩
    · rcases hq with ⟨q1, q2, q3⟩ | ⟨m, q1, q2, q3, q4⟩
      · obtain ⟨z, hz, p3⟩ : ∃ z, z = 0 ∧ rd b 3 15 = nI z := ⟨0, rfl, p3⟩
        obtain ⟨y, hy, q3⟩ : ∃ z, z = 0 ∧ rd b 12 (U.getD i 0) = nI z := ⟨0, rfl, q3⟩
        refine ⟨wr b 3 15 (nI ((z + y) % 1000000007)), ?_, hf.wr (by omega), ?_⟩
        · rw [f_X6_sumUp_L13]
          simp (disch := omega) only [md_n, lt_eq, bd_some, gN, gN2, le_T, le_F, lt_T, lt_F, eq_T, eq_F, cN, plus_n, mul_n, rem_n, div_n, sub_n, re_T, re_F, rl_wr, rd_wl, ne_m1, m1_ne, m1_lt, m1_le, m1_ge, m1_gt, m1_refl, ↓reduceIte, L0, L1, L2, L3, L4, L5, L6, L7, L8, L9, L10, L11, L15, L16, L17, L18, L20, L24, L26, L28, L31, L32, L35, L36, L48, L57, L59, L63, L64, L96, L97, L99, L100, L112, L122, L128, L200, L255, L256, L1000, L1024, L2000, L3000, L1000000, L1000000007, e1, e2, p2, p3, q2, q3]
        · rw [rw_ne (by omega), rw_eq, p2, hz, hy]
          exact rp_z (fun k => by rw [p1, q1])
      · refine ⟨wr (wr b 3 14 (nI m)) 3 15 (nI (Q m % 1000000007)), ?_, keep, ?_⟩
        · rw [f_X6_sumUp_L13]
          simp (disch := omega) only [md_n, lt_eq, bd_some, gN, gN2, le_T, le_F, lt_T, lt_F, eq_T, eq_F, cN, plus_n, mul_n, rem_n, div_n, sub_n, re_T, re_F, rl_wr, rd_wl, ne_m1, m1_ne, m1_lt, m1_le, m1_ge, m1_gt, m1_refl, ↓reduceIte, L0, L1, L2, L3, L4, L5, L6, L7, L8, L9, L10, L11, L15, L16, L17, L18, L20, L24, L26, L28, L31, L32, L35, L36, L48, L57, L59, L63, L64, L96, L97, L99, L100, L112, L122, L128, L200, L255, L256, L1000, L1024, L2000, L3000, L1000000, L1000000007, e1, e2, p2, p3, q3, q4]
        · rw [rw_ne (by omega), rw_eq, rw_eq, show (fun j => P j + Q j) = Q by funext j; rw [p1 j, Nat.zero_add]]
          exact Or.inr ⟨m, q1, q2, rfl, rfl⟩
    · have hm2 := Nat.mod_lt (P j) (show 1000000007 > 0 by decide)
      rcases hq with ⟨q1, q2, q3⟩ | ⟨m, q1, q2, q3, q4⟩
      · refine ⟨b, ?_, hf, ?_⟩
        · rw [f_X6_sumUp_L13]
          simp (disch := omega) only [md_n, lt_eq, bd_some, gN, gN2, le_T, le_F, lt_T, lt_F, eq_T, eq_F, cN, plus_n, mul_n, rem_n, div_n, sub_n, re_T, re_F, rl_wr, rd_wl, ne_m1, m1_ne, m1_lt, m1_le, m1_ge, m1_gt, m1_refl, ↓reduceIte, L0, L1, L2, L3, L4, L5, L6, L7, L8, L9, L10, L11, L15, L16, L17, L18, L20, L24, L26, L28, L31, L32, L35, L36, L48, L57, L59, L63, L64, L96, L97, L99, L100, L112, L122, L128, L200, L255, L256, L1000, L1024, L2000, L3000, L1000000, L1000000007, e1, e2, p3, p4, q2, q3]
        · rw [show (fun j => P j + Q j) = P by funext j; rw [q1 j, Nat.add_zero]]
          exact Or.inr ⟨j, p1, p2, p3, p4⟩
      · have hm := Nat.mod_lt (Q m) (show 1000000007 > 0 by decide)
        rcases Nat.lt_trichotomy m j with c | c | c
        · refine ⟨wr (wr b 3 14 (nI m)) 3 15 (nI (Q m % 1000000007)), ?_, keep, ?_⟩
          · rw [f_X6_sumUp_L13]
            simp (disch := omega) only [md_n, lt_eq, bd_some, gN, gN2, le_T, le_F, lt_T, lt_F, eq_T, eq_F, cN, plus_n, mul_n, rem_n, div_n, sub_n, re_T, re_F, rl_wr, rd_wl, ne_m1, m1_ne, m1_lt, m1_le, m1_ge, m1_gt, m1_refl, ↓reduceIte, L0, L1, L2, L3, L4, L5, L6, L7, L8, L9, L10, L11, L15, L16, L17, L18, L20, L24, L26, L28, L31, L32, L35, L36, L48, L57, L59, L63, L64, L96, L97, L99, L100, L112, L122, L128, L200, L255, L256, L1000, L1024, L2000, L3000, L1000000, L1000000007, e1, e2, p3, p4, q3, q4]
          · obtain ⟨a1, a2⟩ := isL_add_l q2 p2 c
            rw [rw_ne (by omega), rw_eq, rw_eq, show (fun j => P j + Q j) = fun j => Q j + P j by funext j; exact Nat.add_comm _ _]
            exact Or.inr ⟨m, q1, a1, rfl, by show _ = nI ((Q m + P m) % _); rw [a2]⟩
        · subst c
          refine ⟨wr b 3 15 (nI ((P m + Q m) % 1000000007)), ?_, hf.wr (by omega), ?_⟩
          · rw [f_X6_sumUp_L13, Nat.add_mod]
            simp (disch := omega) only [md_n, lt_eq, bd_some, gN, gN2, le_T, le_F, lt_T, lt_F, eq_T, eq_F, cN, plus_n, mul_n, rem_n, div_n, sub_n, re_T, re_F, rl_wr, rd_wl, ne_m1, m1_ne, m1_lt, m1_le, m1_ge, m1_gt, m1_refl, ↓reduceIte, L0, L1, L2, L3, L4, L5, L6, L7, L8, L9, L10, L11, L15, L16, L17, L18, L20, L24, L26, L28, L31, L32, L35, L36, L48, L57, L59, L63, L64, L96, L97, L99, L100, L112, L122, L128, L200, L255, L256, L1000, L1024, L2000, L3000, L1000000, L1000000007, e1, e2, p3, p4, q3, q4]
          · rw [rw_ne (by omega), rw_eq, p3]
            refine Or.inr ⟨m, q1, ⟨?_, fun k hk => ?_⟩, rfl, rfl⟩
            · have := p2.1; show P m + Q m ≠ 0; omega
            · show P k + Q k = 0; rw [p2.2 k hk, q2.2 k hk]
        · refine ⟨b, ?_, hf, ?_⟩
          · rw [f_X6_sumUp_L13]
            simp (disch := omega) only [md_n, lt_eq, bd_some, gN, gN2, le_T, le_F, lt_T, lt_F, eq_T, eq_F, cN, plus_n, mul_n, rem_n, div_n, sub_n, re_T, re_F, rl_wr, rd_wl, ne_m1, m1_ne, m1_lt, m1_le, m1_ge, m1_gt, m1_refl, ↓reduceIte, L0, L1, L2, L3, L4, L5, L6, L7, L8, L9, L10, L11, L15, L16, L17, L18, L20, L24, L26, L28, L31, L32, L35, L36, L48, L57, L59, L63, L64, L96, L97, L99, L100, L112, L122, L128, L200, L255, L256, L1000, L1024, L2000, L3000, L1000000, L1000000007, e1, e2, p3, p4, q3, q4]
          · obtain ⟨a1, a2⟩ := isL_add_l p2 q2 c
            exact Or.inr ⟨j, p1, a1, p3, by show _ = nI ((P j + Q j) % _); rw [a2, p4]⟩
