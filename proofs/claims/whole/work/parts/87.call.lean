/-! ===== call ===== -/
theorem in_c (v a b : Int32) : (∀ S, f_X11_in v a b S = some (0, S)) ∨ (¬ v < a ∧ ¬ b < v ∧ ∀ S, f_X11_in v a b S = some (1, S)) := by
  by_cases c1 : v < a
  · left; intro S; unfold f_X11_in; rw [lt_eq, if_pos c1]
  · by_cases c2 : b < v
    · left; intro S; unfold f_X11_in; rw [lt_eq, if_neg c1, if_pos c2]
    · right; refine ⟨c1, c2, fun S => ?_⟩; unfold f_X11_in; rw [lt_eq, if_neg c1, if_neg c2]
theorem rd_mkC (S : St) (n : Nat) (a b c d : Int32) (k j : Nat) : rd (mkC S n a b c d) k j = if k = 300 + 2 * n then (if j = 0 then a else if j = 1 then b else if j = 2 then c else if j = 3 then d else if j = 8 then -1 else 0) else if k = 300 + 2 * n + 1 then 0 else rd S k j := by
  show (if k = 300 + 2 * n then _ else if k = 300 + 2 * n + 1 then _ else _) = _
  split
  · rfl
  · split <;> rfl
def X_call (c j : Nat) : Prop := (c = 900 ∧ j = 1) ∨ (c = 43 ∧ j = 7) ∨ (300 ≤ c ∧ c < 348) ∨ (75 ≤ c ∧ c ≤ 84) ∨ (c = 54 ∧ j = 32)
def newA (n : Nat) (A : Ast) : Ast := (fup A.st n 0, fup A.sd n 0, fup A.bg n (-1), fup A.ts n false, A.en)
theorem call_all (v1 v2 v3 v4 v5 v6 : Int32) (h6 : v6 = 0 ∨ v6 = 1) {S : St} (hI : I_sta S) (hX : I_lex S) : ∃ r S1 S2, f_X10_call v1 v2 v3 v4 v5 v6 S = some (r, S1) ∧ f_X11_call v1 v2 v3 v4 v5 v6 S1 = some (r, S2) ∧ I_sta S2 ∧ fr X_call S S2 := by
  have hI' := hI
  unfold f_X10_call f_X11_call
  rcases bl v1 6 (by decide) (by decide) with h | ⟨p, hp, rfl, h⟩
  · exact ⟨-2, S, S, by rw [show f_X10_below v1 6 S = _ from (h S).1]; rfl, by rw [platf_n v1 S 0 (Or.inl rfl) (h S).2]; rfl, hI', fr.refl _ _⟩
  have hpl : ∀ S, f_X11_isPlatform (nI p) S = some (1, S) := fun S => platf_n (nI p) S 1 (Or.inr rfl) (h S).2
  rw [show f_X10_below (nI p) 6 S = _ from (h S).1, bd_some, if_neg (by decide)]
  rcases knows_ok v2 hX with g | ⟨l, hl, rfl, hl0, g⟩
  · obtain ⟨g1, g2⟩ := g S (fun _ => rfl) (fun _ => rfl)
    exact ⟨-2, S, S, by rw [g1]; rfl, by rw [hpl, bd_some, if_neg (by decide), g2]; rfl, hI', fr.refl _ _⟩
  obtain ⟨g1, g1'⟩ := g S (fun _ => rfl) (fun _ => rfl)
  rw [g1, bd_some, if_neg (by decide)]
  rcases bl v3 100 (by decide) (by decide) with k | ⟨v, hv, rfl, k⟩
  · exact ⟨-3, S, S, by rw [show f_X10_below v3 100 S = _ from (k S).1]; rfl, by rw [hpl, bd_some, if_neg (by decide), g1', bd_some, if_neg (by decide), show f_X11_in v3 0 99 S = _ from (k S).2]; rfl, hI', fr.refl _ _⟩
  rw [show f_X10_below (nI v) 100 S = _ from (k S).1, bd_some, if_neg (by decide), within_in]
  rcases bl v4 2001 (by decide) (by decide) with w | ⟨r, hr, rfl, w⟩
  · exact ⟨-3, S, S, by rw [show f_X11_in v4 0 2000 S = _ from (w S).2]; rfl, by rw [hpl, bd_some, if_neg (by decide), g1', bd_some, if_neg (by decide), show f_X11_in (nI v) 0 99 S = _ from (k S).2, bd_some, if_neg (by decide), show f_X11_in v4 0 2000 S = _ from (w S).2]; rfl, hI', fr.refl _ _⟩
  rw [show f_X11_in (nI r) 0 2000 S = _ from (w S).2, bd_some, if_neg (by decide), within_in, show nI r + (1 : Int32) = nI (r + 1) from plus_n r 1]
  rcases in_c v5 (nI (r + 1)) 3000 with y | ⟨y1, y2, y⟩
  · exact ⟨-3, S, S, by rw [y]; rfl, by rw [hpl, bd_some, if_neg (by decide), g1', bd_some, if_neg (by decide), show f_X11_in (nI v) 0 99 S = _ from (k S).2, bd_some, if_neg (by decide), show f_X11_in (nI r) 0 2000 S = _ from (w S).2, bd_some, if_neg (by decide), y]; rfl, hI', fr.refl _ _⟩
  obtain ⟨s, hs31, rfl⟩ := nI_of (x := v5) (fun z => y1 (Int32.lt_of_lt_of_le z (nI_pos' (by omega))))
  have hs : s ≤ 3000 := by
    have : ¬ (3000 < s) := fun z => y2 (of_eq_true (lt_T (a := 3000) (b := s) (by omega)))
    omega
  obtain ⟨hN, n, T, A, h24, hT, hO, hw, hR, hM⟩ := hI
  rw [y, bd_some, if_neg (by decide), hR.1]
  by_cases c24 : n = 24
  · refine ⟨-5, S, S, by rw [c24]; rfl, ?_, hI', fr.refl _ _⟩
    rw [hpl, bd_some, if_neg (by decide), g1', bd_some, if_neg (by decide), show f_X11_in (nI v) 0 99 S = _ from (k S).2, bd_some, if_neg (by decide), show f_X11_in (nI r) 0 2000 S = _ from (w S).2, bd_some, if_neg (by decide), y, bd_some, if_neg (by decide), hM.1, c24]; rfl
  have hbz : bz v6 := h6
  have hnc := hR.2.2.1
  -- the class
  generalize hSa : wr (wr (mkC S n (nI p) (nI l) (nI v) v6) (300 + 2 * n) 4 (nI r)) (300 + 2 * n) 5 (nI s) = Sa
  have ra : ∀ k j, k ≠ 300 + 2 * n → k ≠ 300 + 2 * n + 1 → rd Sa k j = rd S k j := fun k j h1 h2 => by rw [← hSa, rw_ne (by omega), rw_ne (by omega), rd_mkC, if_neg h1, if_neg h2]
  have rc : ∀ j, rd Sa (300 + 2 * n) j = if j = 5 then nI s else if j = 4 then nI r else if j = 0 then nI p else if j = 1 then nI l else if j = 2 then nI v else if j = 3 then v6 else if j = 8 then -1 else 0 := fun j => by
    rw [← hSa]
    by_cases j5 : j = 5
    · subst j5; rw [rw_eq, if_pos rfl]
    · rw [rw_ne (Or.inr j5), if_neg j5]
      by_cases j4 : j = 4
      · subst j4; rw [rw_eq, if_pos rfl]
      · rw [rw_ne (Or.inr j4), if_neg j4, rd_mkC, if_pos rfl]
  have na : nC Sa = n := by rw [← hnc]; unfold nC; rw [ra _ _ (by omega) (by omega)]
  have r7 : rd Sa 43 7 = nI n := by rw [ra _ _ (by omega) (by omega)]; exact hR.1
  generalize hS1 : wr (wr Sa 900 1 (nI (n + 1))) 43 7 (nI (n + 1)) = S1
  have hcls : (if nI n < (24 : Int32) then fa_call (nI p) (nI l) (nI v) (nI r) (nI s) v6 S else some ((-5 : Int32), S)) = some (nI n, S1) := by
    rw [if_pos (show nI n < (24 : Int32) from of_eq_true (lt_T (a := n) (b := 24) (by omega)))]
    unfold fa_call
    rw [gd_t hbz, hnc, gd_t (show n < 24 by omega), lt_eq, lt_eq, hSa]
    unfold f_X7_add
    have i7 : rd (wr Sa 900 1 (nI (n + 1))) 43 7 = nI n := by rw [rw_ne (by omega), r7]
    have s7 : rd S1 43 7 = nI (n + 1) := by rw [← hS1, rw_eq]
    rw [r7, na, gd_t ⟨inb_n (by omega) (by decide), cl_n (by omega), rfl⟩, lt_eq, lt_eq, i7, show nI n + (1 : Int32) = nI (n + 1) from plus_n n 1, hS1, s7, show (1 : Int32) = nI 1 from rfl, sub_n (by omega), Nat.add_sub_cancel]
  have r1 : ∀ k j, k ≠ 300 + 2 * n → k ≠ 300 + 2 * n + 1 → (k ≠ 900 ∨ j ≠ 1) → (k ≠ 43 ∨ j ≠ 7) → rd S1 k j = rd S k j := fun k j h1 h2 h3 h4 => by rw [← hS1, rw_ne h4, rw_ne h3, ra k j h1 h2]
  have rc1 : ∀ j, rd S1 (300 + 2 * n) j = if j = 5 then nI s else if j = 4 then nI r else if j = 0 then nI p else if j = 1 then nI l else if j = 2 then nI v else if j = 3 then v6 else if j = 8 then -1 else 0 := fun j => by rw [← hS1, rw_ne (by omega), rw_ne (by omega), rc]
  -- the model
  have m32 : rd S1 54 32 = nI n := by rw [r1 _ _ (by omega) (by omega) (by omega) (by omega)]; exact hM.1
  generalize hS2 : wr (wr (wr (wr (wr (wr (wr (wr (wr (wr (wr S1 75 n (nI p)) 76 n (nI l)) 77 n (nI v)) 78 n (nI r)) 79 n (nI s)) 80 n v6) 81 n (nI 0)) 82 n (nI 0)) 83 n (-nI 1)) 84 n (nI 0)) 54 32 (nI (n + 1)) = S2
  have hF2 : fr (fun c j => (75 ≤ c ∧ c ≤ 84 ∧ j = n) ∨ (c = 54 ∧ j = 32)) S1 S2 := by
    rw [← hS2]
    exact (((((((((((fr.refl _ _).wr (by omega)).wr (by omega)).wr (by omega)).wr (by omega)).wr (by omega)).wr (by omega)).wr (by omega)).wr (by omega)).wr (by omega)).wr (by omega)).wr (by omega)
  have hm : (bd_ (f_X11_isPlatform (nI p) S1) fun r12 S13 =>
  if r12 = 0 then
    some ((-2 : Int32), S13)
  else
    bd_ (f_X11_isLine (nI l) S13) fun r15 S16 =>
    if r15 = 0 then
      some ((-2 : Int32), S16)
    else
      bd_ (f_X11_in (nI v) (0 : Int32) (99 : Int32) S16) fun r18 S19 =>
      if r18 = 0 then
        some ((-3 : Int32), S19)
      else
        bd_ (f_X11_in (nI r) (0 : Int32) (2000 : Int32) S19) fun r21 S22 =>
        if r21 = 0 then
          some ((-3 : Int32), S22)
        else
          bd_ (f_X11_in (nI s) (nI (r + 1)) (3000 : Int32) S22) fun r24 S25 =>
          if r24 = 0 then
            some ((-3 : Int32), S25)
          else
            if (rd S25 54 32) = (24 : Int32) then
              some ((-5 : Int32), S25)
            else
              gd_ (inb (rd S25 54 32) 24) <|
              lt_ (wr S25 75 (Int32.toNatClampNeg (rd S25 54 32)) (nI p)) fun S28 =>
              gd_ (inb (rd S28 54 32) 24) <|
              lt_ (wr S28 76 (Int32.toNatClampNeg (rd S28 54 32)) (nI l)) fun S30 =>
              gd_ (inb (rd S30 54 32) 24) <|
              lt_ (wr S30 77 (Int32.toNatClampNeg (rd S30 54 32)) (nI v)) fun S32 =>
              gd_ (inb (rd S32 54 32) 24) <|
              lt_ (wr S32 78 (Int32.toNatClampNeg (rd S32 54 32)) (nI r)) fun S34 =>
              gd_ (inb (rd S34 54 32) 24) <|
              lt_ (wr S34 79 (Int32.toNatClampNeg (rd S34 54 32)) (nI s)) fun S36 =>
              gd_ (inb (rd S36 54 32) 24) <|
              gd_ (bz v6) <|
              lt_ (wr S36 80 (Int32.toNatClampNeg (rd S36 54 32)) v6) fun S38 =>
              gd_ (inb (rd S38 54 32) 24) <|
              lt_ (wr S38 81 (Int32.toNatClampNeg (rd S38 54 32)) (0 : Int32)) fun S41 =>
              gd_ (inb (rd S41 54 32) 24) <|
              lt_ (wr S41 82 (Int32.toNatClampNeg (rd S41 54 32)) (0 : Int32)) fun S43 =>
              gd_ (inb (rd S43 54 32) 24) <|
              lt_ (wr S43 83 (Int32.toNatClampNeg (rd S43 54 32)) (-1 : Int32)) fun S45 =>
              gd_ (inb (rd S45 54 32) 24) <|
              lt_ (wr S45 84 (Int32.toNatClampNeg (rd S45 54 32)) (0 : Int32)) fun S47 =>
              lt_ (wr S47 54 32 ((rd S47 54 32) + (1 : Int32))) fun S49 =>
              some (((rd S49 54 32) - (1 : Int32)), S49)) = some (nI n, S2) := by
    obtain ⟨-, g2⟩ := g S1 (fun j => r1 _ _ (by omega) (by omega) (by omega) (by omega)) (fun j => r1 _ _ (by omega) (by omega) (by omega) (by omega))
    rw [hpl, bd_some, if_neg (by decide), g2, bd_some, if_neg (by decide), show f_X11_in (nI v) 0 99 S1 = _ from (k S1).2, bd_some, if_neg (by decide), show f_X11_in (nI r) 0 2000 S1 = _ from (w S1).2, bd_some, if_neg (by decide), y S1, bd_some, if_neg (by decide)]
    have hgb : ∀ {β : Type} {x : Option β}, gd_ (bz v6) x = x := fun {β} {x} => gd_t hbz
    simp (disch := omega) only [md_n, lt_eq, bd_some, gN, gN2, le_T, le_F, lt_T, lt_F, eq_T, eq_F, cN, plus_n, mul_n, rem_n, div_n, sub_n, re_T, re_F, rl_wr, rd_wl, ne_m1, m1_ne, m1_lt, m1_le, m1_ge, m1_gt, m1_refl, ↓reduceIte, L0, L1, L2, L3, L4, L5, L6, L7, L8, L9, L10, L11, L15, L16, L17, L18, L20, L24, L26, L28, L31, L32, L35, L36, L48, L57, L59, L63, L64, L96, L97, L99, L100, L112, L122, L128, L200, L255, L256, L1000, L1024, L2000, L3000, L1000000, L1000000007, m32, hgb, Nat.add_sub_cancel, hS2]
  have hcut : ∀ c, c < n → OKs S2 c ∧ pa S2 c = pa S c := fun c hc => OKs_cg (hO c hc) (fun j hj => by rw [hF2 _ _ (by omega), r1 _ _ (by omega) (by omega) (by omega) (by omega)]) (fun k h1 h2 => by rw [hF2 _ _ (by omega), r1 _ _ (by omega) (by omega) (by omega) (by omega)]) (fun z => by unfold nv at z ⊢; rw [hF2 _ _ (by omega), r1 _ _ (by omega) (by omega) (by omega) (by omega)]; exact z)
  have c2 : ∀ j, rd S2 (300 + 2 * n) j = rd S1 (300 + 2 * n) j := fun j => hF2 _ _ (by omega)
  have pan : pa S2 n = p := by unfold pa nv; rw [c2, rc1]; exact cl_n (by omega)
  have lin : li S2 n = l := by unfold li nv; rw [c2, rc1]; exact cl_n (by omega)
  have nun : nu S2 n = v := by unfold nu nv; rw [c2, rc1]; exact cl_n (by omega)
  have ren : re S2 n = r := by unfold re nv; rw [c2, rc1]; exact cl_n (by omega)
  have sln : sl S2 n = s := by unfold sl nv; rw [c2, rc1]; exact cl_n (by omega)
  have dan : bI (da S2 n) = v6 := by
    unfold da
    rw [c2, rc1]
    rcases h6 with rfl | rfl
    · rfl
    · rfl
  have hnew : OKs S2 n := by
    unfold OKs
    rw [pan, lin, nun, ren, sln, dan, c2, c2, c2, c2, c2, c2, rc1, rc1, rc1, rc1, rc1, rc1]
    have h18 : nv S2 18 l = nv S 18 l := by unfold nv; rw [hF2 _ _ (by omega), r1 _ _ (by omega) (by omega) (by omega) (by omega)]
    refine ⟨⟨hp, rfl, ?_⟩, ⟨hl, rfl, ?_, by rw [h18]; exact hl0⟩, ⟨hv, rfl, ?_⟩, ⟨rfl, ?_⟩, ⟨by omega, rfl, ?_⟩, ⟨hs, rfl, ?_⟩⟩
    all_goals rw [← hS2]
    all_goals simp (disch := omega) only [md_n, lt_eq, bd_some, gN, gN2, le_T, le_F, lt_T, lt_F, eq_T, eq_F, cN, plus_n, mul_n, rem_n, div_n, sub_n, re_T, re_F, rl_wr, rd_wl, ne_m1, m1_ne, m1_lt, m1_le, m1_ge, m1_gt, m1_refl, ↓reduceIte, L0, L1, L2, L3, L4, L5, L6, L7, L8, L9, L10, L11, L15, L16, L17, L18, L20, L24, L26, L28, L31, L32, L35, L36, L48, L57, L59, L63, L64, L96, L97, L99, L100, L112, L122, L128, L200, L255, L256, L1000, L1024, L2000, L3000, L1000000, L1000000007]
  have hAst : ∀ c, c < n → (newA n A).st c = A.st c ∧ (newA n A).sd c = A.sd c ∧ (newA n A).bg c = A.bg c ∧ (newA n A).ts c = A.ts c := fun c hc => ⟨fup_ne _ _ (by omega), fup_ne _ _ (by omega), fup_ne _ _ (by omega), fup_ne _ _ (by omega)⟩
  have hAn : (newA n A).st n = 0 ∧ (newA n A).sd n = 0 ∧ (newA n A).bg n = -1 ∧ (newA n A).ts n = false := ⟨fup_eq _ _ _, fup_eq _ _ _, fup_eq _ _ _, fup_eq _ _ _⟩
  refine ⟨nI n, S1, S2, hcls, hm, ⟨near_cg hN (fun j => by rw [hF2 _ _ (by omega), r1 _ _ (by omega) (by omega) (by omega) (by omega)]) (fun j => by rw [hF2 _ _ (by omega), r1 _ _ (by omega) (by omega) (by omega) (by omega)]), n + 1, T, newA n A, by omega, hT, fun c hc => ?_, ⟨fun c hc => ?_, fun c d hc hd e1 e2 e3 => ?_⟩, ⟨?_, ?_, ?_, fun c hc => ?_, fun q hq => ?_⟩, ⟨?_, ?_, fun c hc => ?_⟩⟩, fun c j hc => ?_⟩
  · by_cases d : c = n
    · subst d; exact hnew
    · exact (hcut c (by omega)).1
  · by_cases d : c = n
    · subst d; rw [hAn.1, hAn.2.1]; exact ⟨by omega, fun _ => rfl, by omega, fun z => by omega⟩
    · obtain ⟨a1, a2, -, -⟩ := hAst c (by omega)
      rw [a1, a2]; exact hw.1 c (by omega)
  · have hcn : c ≠ n := fun z => by rw [z, hAn.1] at e1; omega
    have hdn : d ≠ n := fun z => by rw [z, hAn.1] at e2; omega
    rw [(hAst c (by omega)).1] at e1
    rw [(hAst d (by omega)).1] at e2
    rw [(hcut c (by omega)).2, (hcut d (by omega)).2] at e3
    exact hw.2 c d (by omega) (by omega) e1 e2 e3
  · rw [hF2 _ _ (by omega), ← hS1, rw_eq]
  · rw [hF2 _ _ (by omega), r1 _ _ (by omega) (by omega) (by omega) (by omega)]; exact hR.2.1
  · unfold nC; rw [hF2 _ _ (by omega), ← hS1, rw_ne (by omega), rw_eq, cl_n (by omega)]
  · by_cases d : c = n
    · subst d
      rw [hAn.1, hAn.2.1, hAn.2.2.1, hAn.2.2.2, c2, c2, c2, c2, c2, rc1, rc1, rc1, rc1, rc1]
      exact ⟨rfl, rfl, rfl, rfl, fun _ => rfl, fun z => by omega⟩
    · obtain ⟨a1, a2, a3, a4⟩ := hAst c (by omega)
      have e : ∀ j, rd S2 (300 + 2 * c) j = rd S (300 + 2 * c) j := fun j => by rw [hF2 _ _ (by omega), r1 _ _ (by omega) (by omega) (by omega) (by omega)]
      have e2 : ∀ j, rd S2 (300 + 2 * c + 1) j = rd S (300 + 2 * c + 1) j := fun j => by rw [hF2 _ _ (by omega), r1 _ _ (by omega) (by omega) (by omega) (by omega)]
      rw [a1, a2, a3, a4, e, e, e, e, e, e]
      obtain ⟨k1, k2, k3, k4, k5, k6⟩ := hR.2.2.2.1 c (by omega)
      refine ⟨k1, k2, k3, k4, k5, fun z => ?_⟩
      obtain ⟨m1, m2, m3⟩ := k6 z
      exact ⟨m1, fun i hi => by rw [e2]; exact m2 i hi, m3⟩
  · rw [hF2 _ _ (by omega), r1 _ _ (by omega) (by omega) (by omega) (by omega)]
    rcases hR.2.2.2.2 q hq with ⟨c, z1, z2, z3, z4⟩ | ⟨z1, z2⟩
    · exact Or.inl ⟨c, by omega, by rw [(hAst c z1).1]; exact z2, by rw [(hcut c z1).2]; exact z3, z4⟩
    · refine Or.inr ⟨fun c hc hz hpq => ?_, z2⟩
      have hcn : c ≠ n := fun z => by rw [z, hAn.1] at hz; omega
      rw [(hAst c (by omega)).1] at hz
      rw [(hcut c (by omega)).2] at hpq
      exact z1 c (by omega) hz hpq
  · rw [← hS2, rw_eq]
  · rw [hF2 _ _ (by omega), r1 _ _ (by omega) (by omega) (by omega) (by omega)]; exact hM.2.1
  · by_cases d : c = n
    · subst d
      rw [hAn.1, hAn.2.1, hAn.2.2.1, hAn.2.2.2, ← hS2]
      refine ⟨?_, ?_, ?_, ?_, fun z => by omega⟩
      · simp (disch := omega) only [md_n, lt_eq, bd_some, gN, gN2, le_T, le_F, lt_T, lt_F, eq_T, eq_F, cN, plus_n, mul_n, rem_n, div_n, sub_n, re_T, re_F, rl_wr, rd_wl, ne_m1, m1_ne, m1_lt, m1_le, m1_ge, m1_gt, m1_refl, ↓reduceIte, L0, L1, L2, L3, L4, L5, L6, L7, L8, L9, L10, L11, L15, L16, L17, L18, L20, L24, L26, L28, L31, L32, L35, L36, L48, L57, L59, L63, L64, L96, L97, L99, L100, L112, L122, L128, L200, L255, L256, L1000, L1024, L2000, L3000, L1000000, L1000000007]
      · simp (disch := omega) only [md_n, lt_eq, bd_some, gN, gN2, le_T, le_F, lt_T, lt_F, eq_T, eq_F, cN, plus_n, mul_n, rem_n, div_n, sub_n, re_T, re_F, rl_wr, rd_wl, ne_m1, m1_ne, m1_lt, m1_le, m1_ge, m1_gt, m1_refl, ↓reduceIte, L0, L1, L2, L3, L4, L5, L6, L7, L8, L9, L10, L11, L15, L16, L17, L18, L20, L24, L26, L28, L31, L32, L35, L36, L48, L57, L59, L63, L64, L96, L97, L99, L100, L112, L122, L128, L200, L255, L256, L1000, L1024, L2000, L3000, L1000000, L1000000007]
      · rw [rw_ne (by omega), rw_ne (by omega), rw_eq]; rfl
      · simp (disch := omega) only [md_n, lt_eq, bd_some, gN, gN2, le_T, le_F, lt_T, lt_F, eq_T, eq_F, cN, plus_n, mul_n, rem_n, div_n, sub_n, re_T, re_F, rl_wr, rd_wl, ne_m1, m1_ne, m1_lt, m1_le, m1_ge, m1_gt, m1_refl, ↓reduceIte, L0, L1, L2, L3, L4, L5, L6, L7, L8, L9, L10, L11, L15, L16, L17, L18, L20, L24, L26, L28, L31, L32, L35, L36, L48, L57, L59, L63, L64, L96, L97, L99, L100, L112, L122, L128, L200, L255, L256, L1000, L1024, L2000, L3000, L1000000, L1000000007]
        rfl
    · obtain ⟨a1, a2, a3, a4⟩ := hAst c (by omega)
      have e : ∀ k j, k ≠ 54 → j ≠ n → (75 ≤ k ∧ k ≤ 84) → rd S2 k j = rd S k j := fun k j h1 h2 h3 => by rw [hF2 _ _ (by omega), r1 _ _ (by omega) (by omega) (by omega) (by omega)]
      rw [a1, a2, a3, a4, e _ _ (by omega) d (by omega), e _ _ (by omega) d (by omega), e _ _ (by omega) d (by omega), e _ _ (by omega) d (by omega)]
      obtain ⟨k1, k2, k3, k4, k5⟩ := hM.2.2 c (by omega)
      refine ⟨k1, k2, k3, k4, fun z => ?_⟩
      obtain ⟨m1, m2⟩ := k5 z
      exact ⟨by rw [hF2 _ _ (by omega), r1 _ _ (by omega) (by omega) (by omega) (by omega)]; exact m1, fun i hi => by rw [hF2 _ _ (by omega), r1 _ _ (by omega) (by omega) (by omega) (by omega)]; exact m2 i hi⟩
  · unfold X_call at hc
    rw [hF2 _ _ (by omega), r1 _ _ (by omega) (by omega) (by omega) (by omega)]
