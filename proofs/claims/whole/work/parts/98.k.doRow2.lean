/-! ===== told: doRow ===== -/
theorem doRow_ok {D : Dt} {row : Rw} {a : St} {v : Nat} (hv : v + 11 ≤ 110) (hr : rwOK row) (hR : rowM v row a) (hD : okD D) (hM : rM D a) : ∃ a', f_X11_doRow (nI v) a = some ((), a') ∧ rM (apD row D) a' ∧ fr XdM a a' := by
  obtain ⟨r1, r2, r3, r4⟩ := hR
  have m1 : nI v + (1 : Int32) = nI (v + 1) := plus_n v 1
  have m2 : nI v + (2 : Int32) = nI (v + 2) := plus_n v 2
  have k0 : Int32.toNatClampNeg (nI v) = v := cl_n (by omega)
  have k1 : Int32.toNatClampNeg (nI (v + 1)) = v + 1 := cl_n (by omega)
  have k2 : Int32.toNatClampNeg (nI (v + 2)) = v + 2 := cl_n (by omega)
  unfold f_X11_doRow
  rcases hr with h | h | h | h
  · obtain ⟨h1, h2, h3, h4, h5⟩ := h
    obtain ⟨r5, r6⟩ := r3 (by omega)
    rw [h1] at r1
    have r6' : ∀ i, i < row.2.2.length → rd (wr a 67 row.2.1 (nI row.2.2.length)) 66 (v + 3 + i) = nI (row.2.2.getD i 0) := fun i hi => by
      rw [rw_ne (by omega), r6 i hi, if_pos h1]
    obtain ⟨a', p1, p2, p3⟩ := doWL (v := v) (r := row.2.1) (n := row.2.2.length) (g := fun i => row.2.2.getD i 0) hv h2 h4 (fun (S36 : St) => some ((), S36)) row.2.2.length 0 FU (wr a 67 row.2.1 (nI row.2.2.length)) (by omega) (by unfold FU; omega) r6'
    refine ⟨a', ?_, dom0 h1 hM hD (p2.mono (fun c j h => by omega)) (fun i hi => p3 i (by omega) hi), ((fr.refl _ _).wr (by unfold XdM; omega)).trans (p2.mono (fun c j h => by unfold XdM; omega))⟩
    rw [← p1]
    have k3 : Int32.toNatClampNeg (nI row.2.1) = row.2.1 := cl_n (by omega)
    simp (disch := omega) only [md_n, lt_eq, bd_some, gN, gN2, le_T, le_F, lt_T, lt_F, eq_T, eq_F, cN, plus_n, mul_n, rem_n, div_n, sub_n, re_T, re_F, rl_wr, rd_wl, ne_m1, m1_ne, m1_lt, m1_le, m1_ge, m1_gt, m1_refl, ↓reduceIte, L0, L1, L2, L3, L4, L5, L6, L7, L8, L9, L10, L11, L15, L16, L17, L18, L20, L24, L26, L28, L31, L32, L35, L36, L48, L57, L59, L63, L64, L96, L97, L99, L100, L112, L122, L128, L200, L255, L256, L1000, L1024, L2000, L3000, L1000000, L1000000007, m1, m2, k0, k1, k2, r1, r2, r5, k3]
  · obtain ⟨h1, h2, h3, h4, h5⟩ := h
    obtain ⟨r5, r6⟩ := r3 (by omega)
    rw [h1] at r1
    have r6' : ∀ i, i < row.2.2.length → rd (wr a 69 row.2.1 (nI row.2.2.length)) 66 (v + 3 + i) = nI (p32 (row.2.2.getD i 0)) := fun i hi => by
      rw [rw_ne (by omega), r6 i hi, if_neg (by omega)]
    obtain ⟨a', p1, p2, p3⟩ := doLL (v := v) (r := row.2.1) (n := row.2.2.length) (g := fun i => p32 (row.2.2.getD i 0)) hv h2 h4 (fun (S36 : St) => some ((), S36)) row.2.2.length 0 FU (wr a 69 row.2.1 (nI row.2.2.length)) (by omega) (by unfold FU; omega) r6'
    refine ⟨a', ?_, dom1 h1 hM hD (p2.mono (fun c j h => by omega)) (fun i hi => p3 i (by omega) hi), ((fr.refl _ _).wr (by unfold XdM; omega)).trans (p2.mono (fun c j h => by unfold XdM; omega))⟩
    rw [← p1]
    have k3 : Int32.toNatClampNeg (nI row.2.1) = row.2.1 := cl_n (by omega)
    simp (disch := omega) only [md_n, lt_eq, bd_some, gN, gN2, le_T, le_F, lt_T, lt_F, eq_T, eq_F, cN, plus_n, mul_n, rem_n, div_n, sub_n, re_T, re_F, rl_wr, rd_wl, ne_m1, m1_ne, m1_lt, m1_le, m1_ge, m1_gt, m1_refl, ↓reduceIte, L0, L1, L2, L3, L4, L5, L6, L7, L8, L9, L10, L11, L15, L16, L17, L18, L20, L24, L26, L28, L31, L32, L35, L36, L48, L57, L59, L63, L64, L96, L97, L99, L100, L112, L122, L128, L200, L255, L256, L1000, L1024, L2000, L3000, L1000000, L1000000007, m1, m2, k0, k1, k2, r1, r2, r5, k3]
  · obtain ⟨h1, h2⟩ := h
    rw [h1] at r1
    refine ⟨_, ?_, dom2 h1 hM, (fr.refl _ _).wr (by unfold XdM; omega)⟩
    simp (disch := omega) only [md_n, lt_eq, bd_some, gN, gN2, le_T, le_F, lt_T, lt_F, eq_T, eq_F, cN, plus_n, mul_n, rem_n, div_n, sub_n, re_T, re_F, rl_wr, rd_wl, ne_m1, m1_ne, m1_lt, m1_le, m1_ge, m1_gt, m1_refl, ↓reduceIte, L0, L1, L2, L3, L4, L5, L6, L7, L8, L9, L10, L11, L15, L16, L17, L18, L20, L24, L26, L28, L31, L32, L35, L36, L48, L57, L59, L63, L64, L96, L97, L99, L100, L112, L122, L128, L200, L255, L256, L1000, L1024, L2000, L3000, L1000000, L1000000007, m1, m2, k0, k1, k2, r1, r2]
  · obtain ⟨h1, h2, h3, h4, h5⟩ := h
    have r5 := r4 (by omega)
    have kx : Int32.toNatClampNeg (nI row.2.1) = row.2.1 := cl_n (by omega)
    have ky : Int32.toNatClampNeg (nI (row.2.2.getD 0 0)) = row.2.2.getD 0 0 := cl_n (by omega)
    rcases h1 with h1 | h1
    · rw [h1] at r1
      obtain ⟨m, k, q1, q2, q3, q4, q5⟩ := bits_join (c := 72) (f := D.2.2.2) h2 h4 h5 hM.2.2.2
      have e1 := stb_n q1 h4
      have e2 := stb_n q2 h2
      have q6 : rd (wr a 72 row.2.1 (nI (stb m (row.2.2.getD 0 0)))) 72 (row.2.2.getD 0 0) = nI k := by rw [rw_ne (by omega)]; exact q4
      refine ⟨wr (wr a 72 row.2.1 (nI (stb m (row.2.2.getD 0 0)))) 72 (row.2.2.getD 0 0) (nI (stb k row.2.1)), ?_, ?_, ((fr.refl _ _).wr (by unfold XdM; omega)).wr (by unfold XdM; omega)⟩
      · simp only [m1, m2, k0, k1, k2, r1, r2, r5, lt_eq, kx, ky, q3, e1, q6, e2]
        simp (disch := omega) only [md_n, lt_eq, bd_some, gN, gN2, le_T, le_F, lt_T, lt_F, eq_T, eq_F, cN, plus_n, mul_n, rem_n, div_n, sub_n, re_T, re_F, rl_wr, rd_wl, ne_m1, m1_ne, m1_lt, m1_le, m1_ge, m1_gt, m1_refl, ↓reduceIte, L0, L1, L2, L3, L4, L5, L6, L7, L8, L9, L10, L11, L15, L16, L17, L18, L20, L24, L26, L28, L31, L32, L35, L36, L48, L57, L59, L63, L64, L96, L97, L99, L100, L112, L122, L128, L200, L255, L256, L1000, L1024, L2000, L3000, L1000000, L1000000007]
      · unfold apD
        rw [if_neg (by omega), if_neg (by omega), if_neg (by omega), if_pos h1]
        exact rM_near hM (((fr.refl _ _).wr (by omega)).wr (by omega)) q5
    · rw [h1] at r1
      obtain ⟨m, k, q1, q2, q3, q4, q5⟩ := bits_part (c := 72) (f := D.2.2.2) h2 h4 h5 hM.2.2.2
      have e1 := clr_n q1 h4
      have e2 := clr_n q2 h2
      have q6 : rd (wr a 72 row.2.1 (nI (clr m (row.2.2.getD 0 0)))) 72 (row.2.2.getD 0 0) = nI k := by rw [rw_ne (by omega)]; exact q4
      refine ⟨wr (wr a 72 row.2.1 (nI (clr m (row.2.2.getD 0 0)))) 72 (row.2.2.getD 0 0) (nI (clr k row.2.1)), ?_, ?_, ((fr.refl _ _).wr (by unfold XdM; omega)).wr (by unfold XdM; omega)⟩
      · simp only [m1, m2, k0, k1, k2, r1, r2, r5, lt_eq, kx, ky, q3, e1, q6, e2]
        simp (disch := omega) only [md_n, lt_eq, bd_some, gN, gN2, le_T, le_F, lt_T, lt_F, eq_T, eq_F, cN, plus_n, mul_n, rem_n, div_n, sub_n, re_T, re_F, rl_wr, rd_wl, ne_m1, m1_ne, m1_lt, m1_le, m1_ge, m1_gt, m1_refl, ↓reduceIte, L0, L1, L2, L3, L4, L5, L6, L7, L8, L9, L10, L11, L15, L16, L17, L18, L20, L24, L26, L28, L31, L32, L35, L36, L48, L57, L59, L63, L64, L96, L97, L99, L100, L112, L122, L128, L200, L255, L256, L1000, L1024, L2000, L3000, L1000000, L1000000007]
      · unfold apD
        rw [if_neg (by omega), if_neg (by omega), if_neg (by omega), if_neg (by omega)]
        exact rM_near hM (((fr.refl _ _).wr (by omega)).wr (by omega)) q5
