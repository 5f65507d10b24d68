/-! ===== told: join and part ===== -/
theorem join_ok {a : St} {x y m k : Nat} (hx : x < 6) (hy : y < 6) (hxy : y ≠ x) (hm : m < 64) (hk : k < 64) (h1 : rd a 46 x = nI m) (h2 : rd a 46 y = nI k) : f_X7_join (nI x) (nI y) a = some ((), wr (wr a 46 x (nI (stb m y))) 46 y (nI (stb k x))) := by
  unfold f_X7_join
  have cx : Int32.toNatClampNeg (nI x) = x := cl_n (by omega)
  have cy : Int32.toNatClampNeg (nI y) = y := cl_n (by omega)
  have e1 := stb_n hm hy
  have e2 := stb_n hk hx
  have h3 : rd (wr a 46 x (nI (stb m y))) 46 y = nI k := by rw [rw_ne (by omega)]; exact h2
  simp only [cx, cy, h1, e1, lt_eq, h3, e2]
  simp (disch := omega) only [md_n, lt_eq, bd_some, gN, gN2, le_T, le_F, lt_T, lt_F, eq_T, eq_F, cN, plus_n, mul_n, rem_n, div_n, sub_n, re_T, re_F, rl_wr, rd_wl, ne_m1, m1_ne, m1_lt, m1_le, m1_ge, m1_gt, m1_refl, ↓reduceIte, L0, L1, L2, L3, L4, L5, L6, L7, L8, L9, L10, L11, L15, L16, L17, L18, L20, L24, L26, L28, L31, L32, L35, L36, L48, L57, L59, L63, L64, L96, L97, L99, L100, L112, L122, L128, L200, L255, L256, L1000, L1024, L2000, L3000, L1000000, L1000000007]
theorem part_ok {a : St} {x y m k : Nat} (hx : x < 6) (hy : y < 6) (hxy : y ≠ x) (hm : m < 64) (hk : k < 64) (h1 : rd a 46 x = nI m) (h2 : rd a 46 y = nI k) : f_X7_part (nI x) (nI y) a = some ((), wr (wr a 46 x (nI (clr m y))) 46 y (nI (clr k x))) := by
  unfold f_X7_part
  have cx : Int32.toNatClampNeg (nI x) = x := cl_n (by omega)
  have cy : Int32.toNatClampNeg (nI y) = y := cl_n (by omega)
  have e1 := clr_n hm hy
  have e2 := clr_n hk hx
  have h3 : rd (wr a 46 x (nI (clr m y))) 46 y = nI k := by rw [rw_ne (by omega)]; exact h2
  simp only [cx, cy, h1, e1, lt_eq, h3, e2]
  simp (disch := omega) only [md_n, lt_eq, bd_some, gN, gN2, le_T, le_F, lt_T, lt_F, eq_T, eq_F, cN, plus_n, mul_n, rem_n, div_n, sub_n, re_T, re_F, rl_wr, rd_wl, ne_m1, m1_ne, m1_lt, m1_le, m1_ge, m1_gt, m1_refl, ↓reduceIte, L0, L1, L2, L3, L4, L5, L6, L7, L8, L9, L10, L11, L15, L16, L17, L18, L20, L24, L26, L28, L31, L32, L35, L36, L48, L57, L59, L63, L64, L96, L97, L99, L100, L112, L122, L128, L200, L255, L256, L1000, L1024, L2000, L3000, L1000000, L1000000007]
