theorem Txt.cg {S a : St} {B : Nat → Nat} {N : Nat} (h : Txt S B N) (h1 : rd a 20 1 = rd S 20 1) (h2 : rd a 54 12 = rd S 54 12) (h3 : ∀ j, rd a 21 j = rd S 21 j) (h4 : ∀ j, rd a 65 j = rd S 65 j) : Txt a B N := by
  obtain ⟨t1, t2, t3, t4⟩ := h
  exact ⟨t1, by rw [h1]; exact t2, by rw [h2]; exact t3, fun i hi => by rw [h3, h4]; exact t4 i hi⟩
theorem Txt.u {S a : St} {B : Nat → Nat} {N : Nat} (h : Txt S B N) (hf : fr Xu S a) : Txt a B N := h.cg (hf _ _ (by unfold Xu; omega)) (hf _ _ (by unfold Xu; omega)) (fun j => hf _ _ (by unfold Xu; omega)) (fun j => hf _ _ (by unfold Xu; omega))
theorem Txt.t {S a : St} {B : Nat → Nat} {N : Nat} (h : Txt S B N) (hf : fr Xt S a) : Txt a B N := h.cg (hf _ _ (by unfold Xt; omega)) (hf _ _ (by unfold Xt; omega)) (fun j => hf _ _ (by unfold Xt; omega)) (fun j => hf _ _ (by unfold Xt; omega))
theorem TxtM.cg {S a : St} {B : Nat → Nat} {N : Nat} (h : TxtM S B N) (_ : rd a 20 1 = rd S 20 1) (h2 : rd a 54 12 = rd S 54 12) (_ : ∀ j, rd a 21 j = rd S 21 j) (h4 : ∀ j, rd a 65 j = rd S 65 j) : TxtM a B N := by
  obtain ⟨t1, t2, t3, t4⟩ := h
  exact ⟨t1, trivial, by rw [h2]; exact t3, fun i hi => by rw [h4]; exact t4 i hi⟩
def KtL (S79 : St) : Option (Unit × St) :=
              lt_ (fun (t80 : Int64) (S81 : St) =>
                  lt_ (wl S81 54 16 t80) fun S82 =>
                  some ((), S82)) fun J216 =>
              if ((rd S79 54 14) - (rd S79 54 15)) ≤ (9 : Int32) then
                J216 (rl S79 54 16) S79
              else
                J216 (-4 : Int64) S79
def KtD (S62 : St) : Option (Unit × St) :=
                lt_ (fun (t63 : Int64) (S64 : St) =>
                    lt_ (wl S64 54 16 t63) fun S65 =>
                    some ((), S65)) fun J351 =>
                if (rd S62 54 17) ≤ (2 : Int32) then
                  J351 (-1 : Int64) S62
                else
                  J351 (-4 : Int64) S62
def KtS (S40 : St) : Option (Unit × St) :=
            gd_ (inb (rd S40 54 14) 200) <|
            lt_ (fun (t43 : Int64) (S44 : St) =>
                lt_ (wl S44 54 16 t43) fun S45 =>
                lt_ (wr S45 54 14 ((rd S45 54 14) + (1 : Int32))) fun S46 =>
                some ((), S46)) fun J401 =>
            if (rd S40 65 (Int32.toNatClampNeg (rd S40 54 14))) = (59 : Int32) then
              J401 (-3 : Int64) S40
            else
              gd_ (inb (rd S40 54 14) 200) <|
              if (rd S40 65 (Int32.toNatClampNeg (rd S40 54 14))) = (35 : Int32) then
                J401 (-5 : Int64) S40
              else
                J401 (-4 : Int64) S40
def KtI (S32 : St) : Option (Unit × St) :=
      if (rd S32 54 14) = (rd S32 54 12) then
        lt_ (wl S32 54 16 (-2 : Int64)) fun S84 =>
        some ((), S84)
      else
        gd_ (inb (rd S32 54 14) 200) <|
        bd_ (f_X11_in (rd S32 65 (Int32.toNatClampNeg (rd S32 54 14))) (97 : Int32) (122 : Int32) S32) fun r35 S36 =>
        if r35 = 0 then
          gd_ (inb (rd S36 54 14) 200) <|
          bd_ (f_X11_in (rd S36 65 (Int32.toNatClampNeg (rd S36 54 14))) (48 : Int32) (57 : Int32) S36) fun r39 S40 =>
          if r39 = 0 then
            KtS S40
          else
            f_X11_nextToken_L241 KtD FU S40
        else
          lt_ (wl S36 54 16 (0 : Int64)) fun S67 =>
          f_X11_nextToken_L101 KtL FU S67
def KtB (S29 : St) : Option (Unit × St) :=
      lt_ (wr S29 54 15 (rd S29 54 14)) fun S30 =>
      lt_ (wr S30 54 17 (0 : Int32)) fun S31 =>
      lt_ (wr S31 54 18 (0 : Int32)) fun S32 => KtI S32
theorem nt_eq (S : St) : f_X11_nextToken S = f_X11_nextToken_L0 KtB FU S := rfl
theorem KtL_ok {B : Nat → Nat} {N e : Nat} (he : e ≤ N) (hN : N ≤ 200) (hk : tK B N e = 1) {a' : St} (l2 : rd a' 54 14 = nI (tE B N e)) (l3 : rd a' 54 15 = nI (tB B N e)) (l4 : tE B N e - tB B N e ≤ 9 → rl a' 54 16 = lN (wc B (tB B N e) (tE B N e - tB B N e))) : KtL a' = some ((), wl a' 54 16 (tokV B N e)) := by
  obtain ⟨y1, y2, y3, y4, -⟩ := tok_facts B he
  have hV : tokV B N e = if tE B N e - tB B N e ≤ 9 then lN (wc B (tB B N e) (tE B N e - tB B N e)) else -4 := by
    unfold tokV; rw [if_neg (by omega), if_neg (by omega), if_neg (by omega)]
  unfold KtL
  rw [lt_eq, l2, l3, sub_n y3, hV]
  by_cases d : tE B N e - tB B N e ≤ 9
  · rw [if_pos d, if_pos (show nI (tE B N e - tB B N e) ≤ (9 : Int32) from of_eq_true (le_T (b := 9) (by omega))), l4 d]; rfl
  · rw [if_neg d, if_neg (show ¬ nI (tE B N e - tB B N e) ≤ (9 : Int32) from of_eq_false (le_F (b := 9) (by omega)))]; rfl
theorem KtD_ok {B : Nat → Nat} {N e : Nat} (he : e ≤ N) (hN : N ≤ 200) (hk : tK B N e = 2) {a' : St} (l2 : rd a' 54 17 = nI (tE B N e - tB B N e)) : KtD a' = some ((), wl a' 54 16 (tokV B N e)) := by
  obtain ⟨y1, y2, y3, y4, -⟩ := tok_facts B he
  have hV : tokV B N e = if tE B N e - tB B N e ≤ 2 then -1 else -4 := by
    unfold tokV; rw [if_neg (by omega), if_neg (by omega), if_pos (by omega)]
  unfold KtD
  rw [lt_eq, l2, hV]
  by_cases d : tE B N e - tB B N e ≤ 2
  · rw [if_pos d, if_pos (show nI (tE B N e - tB B N e) ≤ (2 : Int32) from of_eq_true (le_T (b := 2) (by omega)))]; rfl
  · rw [if_neg d, if_neg (show ¬ nI (tE B N e - tB B N e) ≤ (2 : Int32) from of_eq_false (le_F (b := 2) (by omega)))]; rfl
theorem KtS_ok {B : Nat → Nat} {N e : Nat} (he : e ≤ N) (hN : N ≤ 200) (hk : tK B N e = 3) {b : St} (h14 : rd b 54 14 = nI (tB B N e)) (h65 : rd b 65 (tB B N e) = nI (B (tB B N e))) (hB : B (tB B N e) < 256) : KtS b = some ((), wr (wl b 54 16 (tokV B N e)) 54 14 (nI (tE B N e))) := by
  obtain ⟨y1, y2, y3, y4, y5, y6, y7, y8, y9, y10⟩ := tok_facts B he
  have hlt := (y9 hk).2
  have hV : tokV B N e = if B (tB B N e) = 59 then -3 else if B (tB B N e) = 35 then -5 else -4 := by
    unfold tokV; rw [if_neg (by omega), if_pos hk]
  unfold KtS
  rw [hV, y8 hk]
  by_cases d1 : B (tB B N e) = 59
  · rw [if_pos d1]
    simp (disch := omega) only [md_n, lt_eq, bd_some, gN, gN2, le_T, le_F, lt_T, lt_F, eq_T, eq_F, cN, plus_n, mul_n, rem_n, div_n, sub_n, re_T, re_F, rl_wr, rd_wl, ne_m1, m1_ne, m1_lt, m1_le, m1_ge, m1_gt, m1_refl, ↓reduceIte, L0, L1, L2, L3, L4, L5, L6, L7, L8, L9, L10, L11, L15, L16, L17, L18, L20, L24, L26, L28, L31, L32, L35, L36, L48, L57, L59, L63, L64, L96, L97, L99, L100, L112, L122, L128, L200, L255, L256, L1000, L1024, L2000, L3000, L1000000, L1000000007, h14, h65]
  · rw [if_neg d1]
    by_cases d2 : B (tB B N e) = 35
    · rw [if_pos d2]
      simp (disch := omega) only [md_n, lt_eq, bd_some, gN, gN2, le_T, le_F, lt_T, lt_F, eq_T, eq_F, cN, plus_n, mul_n, rem_n, div_n, sub_n, re_T, re_F, rl_wr, rd_wl, ne_m1, m1_ne, m1_lt, m1_le, m1_ge, m1_gt, m1_refl, ↓reduceIte, L0, L1, L2, L3, L4, L5, L6, L7, L8, L9, L10, L11, L15, L16, L17, L18, L20, L24, L26, L28, L31, L32, L35, L36, L48, L57, L59, L63, L64, L96, L97, L99, L100, L112, L122, L128, L200, L255, L256, L1000, L1024, L2000, L3000, L1000000, L1000000007, h14, h65]
    · rw [if_neg d2]
      simp (disch := omega) only [md_n, lt_eq, bd_some, gN, gN2, le_T, le_F, lt_T, lt_F, eq_T, eq_F, cN, plus_n, mul_n, rem_n, div_n, sub_n, re_T, re_F, rl_wr, rd_wl, ne_m1, m1_ne, m1_lt, m1_le, m1_ge, m1_gt, m1_refl, ↓reduceIte, L0, L1, L2, L3, L4, L5, L6, L7, L8, L9, L10, L11, L15, L16, L17, L18, L20, L24, L26, L28, L31, L32, L35, L36, L48, L57, L59, L63, L64, L96, L97, L99, L100, L112, L122, L128, L200, L255, L256, L1000, L1024, L2000, L3000, L1000000, L1000000007, h14, h65]
theorem KtI_ok {a b : St} {B : Nat → Nat} {N e : Nat} (hT : TxtM a B N) (he : e ≤ N) (hf : fr Xn a b) (s14 : rd b 54 14 = nI (tB B N e)) (s15 : rd b 54 15 = nI (tB B N e)) (s17 : rd b 54 17 = nI 0) (s18 : rd b 54 18 = nI 0) : ∃ a', KtI b = some ((), a') ∧ ldM B N e a' ∧ fr Xn a a' := by
  have hT0 := hT
  obtain ⟨t1, -, t2, t4⟩ := hT
  obtain ⟨y1, y2, y3, y4, y5, y6, y7, y8, y9, y10⟩ := tok_facts B he
  have s12 : rd b 54 12 = nI N := by rw [hf _ _ (by unfold Xn; omega)]; exact t2
  unfold KtI
  rw [s14, s12]
  by_cases c : tB B N e = N
  · refine ⟨wl b 54 16 (-2), ?_, ⟨by rw [rd_wl]; exact s15, by rw [rd_wl, y7 (y5.mpr c)]; exact s14, ?_, fun z => by have := y5.mpr c; omega⟩, hf.wl⟩
    · rw [if_pos (by rw [c])]; rfl
    · rw [rl_eq]; exact (if_pos (y5.mpr c)).symm
  · have hlt : tB B N e < N := by omega
    have hb256 := (t4 _ hlt).1
    have e2 : rd b 65 (tB B N e) = nI (B (tB B N e)) := by rw [hf _ _ (by unfold Xn; omega)]; exact (t4 _ hlt).2.2
    have hkd : tK B N e = kd (B (tB B N e)) := if_neg c
    rw [if_neg (by rw [eq_n (by omega) (by omega)]; exact c), gd_t (inb_n (by omega) (by decide)), cl_n (by omega), e2]
    rcases kd_cases (B (tB B N e)) with ⟨k1, k2⟩ | ⟨k1, k2⟩ | ⟨k1, k2, k3⟩
    · rw [k1] at hkd
      obtain ⟨a', l1, l2, l3, l4, l5⟩ := lettersM (S := a) (b0 := wl b 54 16 0) hT0 he hkd hf.wl (by rw [rd_wl]; exact s14) (by rw [rd_wl]; exact s15) rl_eq KtL
      refine ⟨wl a' 54 16 (tokV B N e), ?_, ⟨by rw [rd_wl]; exact l3, by rw [rd_wl]; exact l2, rl_eq, fun z => by omega⟩, l5.wl⟩
      rw [show f_X11_in (nI (B (tB B N e))) 97 122 b = _ from in_T (v := B (tB B N e)) (a := 97) (b := 122) b (by omega), bd_some, if_neg (by decide), lt_eq, l1]
      exact KtL_ok he t1 hkd l2 l3 l4
    · rw [k1] at hkd
      obtain ⟨a', l1, l2, l3, l4, l5, l6⟩ := digitsM (S := a) (b0 := b) hT0 he hkd hf s14 s15 s17 s18 KtD
      refine ⟨wl a' 54 16 (tokV B N e), ?_, ⟨by rw [rd_wl]; exact l3, by rw [rd_wl]; exact l2, rl_eq, fun _ z => by rw [rd_wl]; exact l5 z⟩, l6.wl⟩
      rw [show f_X11_in (nI (B (tB B N e))) 97 122 b = _ from in_F (v := B (tB B N e)) (a := 97) (b := 122) b (by omega), bd_some, if_pos (by decide), s14, gd_t (inb_n (by omega) (by decide)), cl_n (by omega), e2, show f_X11_in (nI (B (tB B N e))) 48 57 b = _ from in_T (v := B (tB B N e)) (a := 48) (b := 57) b (by omega), bd_some, if_neg (by decide), l1]
      exact KtD_ok he t1 hkd l4
    · rw [k1] at hkd
      refine ⟨wr (wl b 54 16 (tokV B N e)) 54 14 (nI (tE B N e)), ?_, ⟨by rw [rw_ne (by omega), rd_wl]; exact s15, rw_eq, by rw [rl_wr]; exact rl_eq, fun z => by omega⟩, (hf.wl).wr (by unfold Xn; omega)⟩
      rw [show f_X11_in (nI (B (tB B N e))) 97 122 b = _ from in_F (v := B (tB B N e)) (a := 97) (b := 122) b (by omega), bd_some, if_pos (by decide), s14, gd_t (inb_n (by omega) (by decide)), cl_n (by omega), e2, show f_X11_in (nI (B (tB B N e))) 48 57 b = _ from in_F (v := B (tB B N e)) (a := 48) (b := 57) b (by omega), bd_some, if_pos (by decide)]
      exact KtS_ok he t1 hkd s14 e2 hb256
theorem nextToken_ok {a : St} {B : Nat → Nat} {N e : Nat} (hT : TxtM a B N) (he : e ≤ N) (h14 : rd a 54 14 = nI e) : ∃ a', f_X11_nextToken a = some ((), a') ∧ ldM B N e a' ∧ fr Xn a a' := by
  have hT0 := hT
  obtain ⟨t1, -, t2, t4⟩ := hT
  rw [nt_eq]
  have key : ∀ b, rd b 54 14 = nI (tB B N e) → fr Xn a b → ∃ a', KtB b = some ((), a') ∧ ldM B N e a' ∧ fr Xn a a' := by
    intro b h5 hb
    unfold KtB
    rw [lt_eq, lt_eq, lt_eq, h5]
    refine KtI_ok hT0 he (((hb.wr (by unfold Xn; omega)).wr (by unfold Xn; omega)).wr (by unfold Xn; omega)) ?_ ?_ ?_ ?_
    · rw [rw_ne (by omega), rw_ne (by omega), rw_ne (by omega)]; exact h5
    · rw [rw_ne (by omega), rw_ne (by omega), rw_eq]
    · rw [rw_ne (by omega), rw_eq]; rfl
    · rw [rw_eq]; rfl
  refine loopC (fun f (b : St) _ => f_X11_nextToken_L0 KtB f b) (fun x => ∃ a', x = some ((), a') ∧ ldM B N e a' ∧ fr Xn a a') (fun i b => e ≤ i ∧ rd b 54 14 = nI i ∧ skp B (N - i) i = tB B N e ∧ fr Xn a b) N ?_ ?_ (N - e) e FU a (by omega) (by unfold FU; omega) ⟨Nat.le_refl _, h14, rfl, fr.refl _ _⟩
  · intro f b ⟨w0, w1, w2, w3⟩
    have e1 : rd b 54 12 = nI N := by rw [w3 _ _ (by unfold Xn; omega)]; exact t2
    rw [Nat.sub_self, skp] at w2
    show ∃ a', f_X11_nextToken_L0 _ (f + 1) b = _ ∧ _
    rw [f_X11_nextToken_L0, e1, w1, if_pos (Int32.le_refl _)]
    exact key b (by rw [← w2]; exact w1) w3
  · intro f b i hi ⟨w0, w1, w2, w3⟩
    have e1 : rd b 54 12 = nI N := by rw [w3 _ _ (by unfold Xn; omega)]; exact t2
    have e3 : rd b 65 i = nI (B i) := by rw [w3 _ _ (by unfold Xn; omega)]; exact (t4 i hi).2.2
    have hb := (t4 i hi).1
    rw [show N - i = (N - (i + 1)) + 1 by omega, skp] at w2
    by_cases d : B i = 32
    · right
      rw [if_pos d] at w2
      refine ⟨wr b 54 14 (nI (i + 1)), ?_, by omega, rw_eq, w2, w3.wr (by unfold Xn; omega)⟩
      show f_X11_nextToken_L0 _ (f + 1) b = f_X11_nextToken_L0 _ f _
      rw [f_X11_nextToken_L0]
      rw [d] at e3
      simp (disch := omega) only [md_n, lt_eq, bd_some, gN, gN2, le_T, le_F, lt_T, lt_F, eq_T, eq_F, cN, plus_n, mul_n, rem_n, div_n, sub_n, re_T, re_F, rl_wr, rd_wl, ne_m1, m1_ne, m1_lt, m1_le, m1_ge, m1_gt, m1_refl, ↓reduceIte, L0, L1, L2, L3, L4, L5, L6, L7, L8, L9, L10, L11, L15, L16, L17, L18, L20, L24, L26, L28, L31, L32, L35, L36, L48, L57, L59, L63, L64, L96, L97, L99, L100, L112, L122, L128, L200, L255, L256, L1000, L1024, L2000, L3000, L1000000, L1000000007, e1, w1, e3]
    · left
      rw [if_neg d] at w2
      show ∃ a', f_X11_nextToken_L0 _ (f + 1) b = _ ∧ _
      rw [f_X11_nextToken_L0, e1, w1, if_neg (by rw [le_n (by omega) (by omega)]; omega), gd_t (inb_n (by omega) (by decide)), cl_n (by omega), e3, if_neg (show ¬ nI (B i) = (32 : Int32) from of_eq_false (eq_F (a := B i) (b := 32) (by omega)))]
      exact key b (by rw [← w2]; exact w1) w3
/-! which word a token is -/
theorem lg0 {x y : Int64} : (lg_cmp x y = 0) ↔ x = y := by
  unfold lg_cmp
  by_cases h : x = y
  · subst h
    rw [if_neg (show ¬ x > x from Int64.lt_irrefl), if_pos rfl]; exact ⟨fun _ => rfl, fun _ => rfl⟩
  · rw [if_neg h]
    constructor
    · intro z
      split at z
      · exact absurd z (by decide)
      · exact absurd z (by decide)
    · intro z; exact absurd z h
