/-! ===== the model lays a row out: all bits, all places ===== -/
def Kgo (q B p i m : Nat) (x46 : Int32) (x47 : Int64) (S48 : St) : Option (Unit × St) :=
              lt_ (fun (t49 : Int32) (t50 : Int32) (S51 : St) =>
                  gd_ (inb t49 17408) <|
                  lt_ (wr S51 61 (Int32.toNatClampNeg t49) t50) fun S52 =>
                  gd_ (inb (((1024 : Int32) * nI q) + nI B) 17408) <|
                  lt_ (wr S52 62 (Int32.toNatClampNeg (((1024 : Int32) * nI q) + nI B)) (Int64.toInt32 (x47 - x47 / (1000000007 : Int64) * (1000000007 : Int64)))) fun S54 =>
                  some ((), S54)) fun J253 =>
              if x46 = (1000000 : Int32) then
                J253 (((1024 : Int32) * nI q) + nI B) (1000000 : Int32) S48
              else
                bd_ (f_X11_cutsOf (nI p) (nI i) (nI (m + 1)) S48) fun r57 S58 =>
                J253 (((1024 : Int32) * nI q) + nI B) (x46 + r57) S58
theorem goOn_eq {b : St} {n q B : Nat} (hn : n ≤ 16) (hq : q < 16) (hB : B < 1024) : f_X11_goOn (nI q) (nI B) (nI n) b = f_X11_goOn_L59 (Kgo q B (B / 64) (B / 8 % 8) (B % 8)) (nI q) (nI B) (nI n) (nI (B / 64)) (nI (B / 8 % 8)) (nI (B % 8 + 1)) (nI (q + (B % 8 + 1))) FU (nI (if q + (B % 8 + 1) = n then 0 else 1000000)) (lN (if q + (B % 8 + 1) = n then 1 else 0)) (nI 0) b := by
  have e1 : nI B / (64 : Int32) = nI (B / 64) := div_n (d := 64) (by omega)
  have e2 : nI B / (8 : Int32) = nI (B / 8) := div_n (d := 8) (by omega)
  have e3 : nI (B / 8) - nI (B / 8) / (8 : Int32) * (8 : Int32) = nI (B / 8 % 8) := rem_n (d := 8) (by omega)
  have e4 : nI B - nI (B / 8) * (8 : Int32) + (1 : Int32) = nI (B % 8 + 1) := by
    rw [← e2, show (8 : Int32) = nI 8 from rfl, rem_n (by omega), show (1 : Int32) = nI 1 from rfl, plus_n]
  unfold f_X11_goOn
  rw [lt_eq, lt_eq, lt_eq, lt_eq, lt_eq, e1, e2, e3, e4, plus_n]
  by_cases c : q + (B % 8 + 1) = n
  · rw [if_pos c, if_pos c, if_pos (by rw [c])]
    show lt_ _ _ = _
    rw [lt_eq, if_pos (by rw [c])]
    rfl
  · rw [if_neg c, if_neg c, if_neg (by rw [eq_n (by omega) (by omega)]; exact c)]
    show lt_ _ _ = _
    rw [lt_eq, if_neg (by rw [eq_n (by omega) (by omega)]; exact c)]
    rfl
theorem goOn_ok {S b : St} {v n q k B : Nat} {r : Nat → Nat} (hI : I_pcs S) (hc : I_cut S) (hf : fr Xm S b) (hn : n ≤ 16) (hk : q + (k + 1) = n) (hB : B < 64 * nP S)
    (h1 : pv S (B / 64) = v) (h2 : B / 8 % 8 + B % 8 < pl S (B / 64)) (h3 : B % 8 ≤ k) (h4 : rn S r (B / 64) (B % 8) (B / 8 % 8) q = true)
    (hL : ∀ u, q < u → u < n → laid S v n r u b) :
    ∃ J w, f_X11_goOn (nI q) (nI B) (nI n) b = some ((), wr (wr b 61 (1024 * q + B) J) 62 (1024 * q + B) w) ∧ rp J w (LB S v n r k B) (300 * k + 200) := by
  have h16 := hI.1
  have hP := Xm_pc hf
  have hp : B / 64 < nP S := by omega
  have hct : rd b 54 7 = nI (ct S) := by rw [hf 54 7 (by unfold Xm; omega)]; exact hc.2.1
  have hcuts := cutsOf_ok hI hP hct hp h2
  have hcE := cE_lt hc (B / 64) (B / 8 % 8 + B % 8)
  have hcB := cB_lt hc (B / 8 % 8)
  obtain ⟨d0, -⟩ := pm_p hI hP hp
  have hLB : LB S v n r k B = sh (cB S (B / 8 % 8) + cE S (B / 64) (B / 8 % 8 + B % 8)) (DT S v n r (k - B % 8) (tn S (B / 64) (B / 8 % 8 + B % 8))) := if_pos ⟨h1, h2, h3, by rw [show n - (k + 1) = q by omega]; exact h4⟩
  rw [hLB, goOn_eq hn (by omega) (by omega)]
  clear hLB
  have i8 : B / 8 % 8 < 8 := by omega
  have m8 : B % 8 < 8 := by omega
  -- what comes behind
  have key : ∃ J z, rl2 J z (DT S v n r (k - B % 8) (tn S (B / 64) (B / 8 % 8 + B % 8))) (300 * (k - B % 8)) 1024 ∧ f_X11_goOn_L59 (Kgo q B (B / 64) (B / 8 % 8) (B % 8)) (nI q) (nI B) (nI n) (nI (B / 64)) (nI (B / 8 % 8)) (nI (B % 8 + 1)) (nI (q + (B % 8 + 1))) FU (nI (if q + (B % 8 + 1) = n then 0 else 1000000)) (lN (if q + (B % 8 + 1) = n then 1 else 0)) (nI 0) b = Kgo q B (B / 64) (B / 8 % 8) (B % 8) J z b := by
    by_cases c : q + (B % 8 + 1) = n
    · refine ⟨nI 0, lN 1, ?_, ?_⟩
      · rw [show k - B % 8 = 0 by omega, DT_0]
        exact Or.inr ⟨0, 1, Nat.le_refl _, ⟨by unfold one; rw [if_pos rfl]; exact Nat.one_ne_zero, fun k hk => absurd hk (Nat.not_lt_zero k)⟩, rfl, rfl, by unfold one; rw [if_pos rfl], by omega⟩
      · rw [if_pos c, if_pos c]
        show f_X11_goOn_L59 _ _ _ _ _ _ _ _ (19999 + 1) _ _ _ _ = _
        rw [f_X11_goOn_L59]
        simp (disch := omega) only [md_n, lt_eq, bd_some, gN, gN2, le_T, le_F, lt_T, lt_F, eq_T, eq_F, cN, plus_n, mul_n, rem_n, div_n, sub_n, re_T, re_F, rl_wr, rd_wl, ne_m1, m1_ne, m1_lt, m1_le, m1_ge, m1_gt, m1_refl, ↓reduceIte, L0, L1, L2, L3, L4, L5, L6, L7, L8, L9, L10, L11, L15, L16, L17, L18, L20, L24, L26, L28, L31, L32, L35, L36, L48, L57, L59, L63, L64, L96, L97, L99, L100, L112, L122, L128, L200, L255, L256, L1000, L1024, L2000, L3000, L1000000, L1000000007, d0]
    · obtain ⟨k1, hk1⟩ : ∃ k1, q + (B % 8 + 1) + (k1 + 1) = n := ⟨n - (q + (B % 8 + 1)) - 1, by omega⟩
      rw [if_neg c, if_neg c, show k - B % 8 = k1 + 1 by omega]
      exact goOnL_ok hI hf hn hk1 hp h2 (hL _ (by omega) (by omega)) _
  obtain ⟨J, z, g1, g2⟩ := key
  rw [g2]
  unfold Kgo
  rw [show (1000000007 : Int64) = lN 1000000007 from rfl]
  generalize DT S v n r (k - B % 8) (tn S (B / 64) (B / 8 % 8 + B % 8)) = P at *
  rcases g1 with ⟨p1, rfl, rfl⟩ | ⟨j, s, p1, p2, rfl, rfl, p5, p6⟩
  · refine ⟨nI 1000000, nI 0, ?_, rp_z (sh_zero _ p1)⟩
    rw [pk_lRem (by decide) (by decide) (by decide), Nat.zero_mod, lN_i]
    simp (disch := omega) only [md_n, lt_eq, bd_some, gN, gN2, le_T, le_F, lt_T, lt_F, eq_T, eq_F, cN, plus_n, mul_n, rem_n, div_n, sub_n, re_T, re_F, rl_wr, rd_wl, ne_m1, m1_ne, m1_lt, m1_le, m1_ge, m1_gt, m1_refl, ↓reduceIte, L0, L1, L2, L3, L4, L5, L6, L7, L8, L9, L10, L11, L15, L16, L17, L18, L20, L24, L26, L28, L31, L32, L35, L36, L48, L57, L59, L63, L64, L96, L97, L99, L100, L112, L122, L128, L200, L255, L256, L1000, L1024, L2000, L3000, L1000000, L1000000007]
  · generalize hcc : cB S (B / 8 % 8) + cE S (B / 64) (B / 8 % 8 + B % 8) = cu at *
    refine ⟨nI (j + cu), nI (P j % 1000000007), ?_, Or.inr ⟨j + cu, by omega, p2.mv cu, rfl, ?_⟩⟩
    · rw [pk_lRem (by omega) (by decide) (by decide), p5, lN_i]
      simp (disch := omega) only [md_n, lt_eq, bd_some, gN, gN2, le_T, le_F, lt_T, lt_F, eq_T, eq_F, cN, plus_n, mul_n, rem_n, div_n, sub_n, re_T, re_F, rl_wr, rd_wl, ne_m1, m1_ne, m1_lt, m1_le, m1_ge, m1_gt, m1_refl, ↓reduceIte, L0, L1, L2, L3, L4, L5, L6, L7, L8, L9, L10, L11, L15, L16, L17, L18, L20, L24, L26, L28, L31, L32, L35, L36, L48, L57, L59, L63, L64, L96, L97, L99, L100, L112, L122, L128, L200, L255, L256, L1000, L1024, L2000, L3000, L1000000, L1000000007, hcuts]
    · unfold sh; rw [if_pos (by omega), Nat.add_sub_cancel]
theorem layL_ok {S b : St} {v n q k : Nat} {r : Nat → Nat} (hI : I_pcs S) (hc : I_cut S) (hv : v < 4) (hf : fr Xm S b) (hn : n ≤ 16) (hk : q + (k + 1) = n) (hrow : ∀ x, x < n → rd b 63 x = nI (r x)) (hr : ∀ x, r x < 16)
    (hL : ∀ u, q < u → u < n → laid S v n r u b) (K : St → Option (Unit × St)) :
    ∃ b', f_X11_layOut_L11 K (nI v) (nI n) (nI q) FU (nI 0) b = K b' ∧ fr (fun c j => (c = 61 ∨ c = 62) ∧ 1024 * q ≤ j ∧ j < 1024 * q + 1024) b b' ∧ laid S v n r q b' := by
  have h16 := hI.1
  have hkq : n - 1 - q = k := by omega
  refine loopC (fun f (b : St) B => f_X11_layOut_L11 K (nI v) (nI n) (nI q) f (nI B) b) (fun x => ∃ b', x = K b' ∧ fr (fun c j => (c = 61 ∨ c = 62) ∧ 1024 * q ≤ j ∧ j < 1024 * q + 1024) b b' ∧ laid S v n r q b')
    (fun B b' => fr (fun c j => (c = 61 ∨ c = 62) ∧ 1024 * q ≤ j ∧ j < 1024 * q + 1024) b b' ∧ ∀ C, C < B → rp (rd b' 61 (1024 * q + C)) (rd b' 62 (1024 * q + C)) (LB S v n r k C) (300 * k + 200)) (64 * nP S) ?_ ?_ (64 * nP S) 0 FU b (by omega) (by unfold FU; omega) ⟨fr.refl _ _, fun C hC => by omega⟩
  · intro f b1 ⟨g1, g2⟩
    have e0 : rd b1 54 0 = nI (nP S) := by rw [g1 _ _ (by omega), hf 54 0 (by unfold Xm; omega)]; exact hI.2.2.1
    refine ⟨b1, ?_, g1, fun C hC => by rw [hkq]; exact g2 C hC⟩
    rw [f_X11_layOut_L11]
    simp (disch := omega) only [md_n, lt_eq, bd_some, gN, gN2, le_T, le_F, lt_T, lt_F, eq_T, eq_F, cN, plus_n, mul_n, rem_n, div_n, sub_n, re_T, re_F, rl_wr, rd_wl, ne_m1, m1_ne, m1_lt, m1_le, m1_ge, m1_gt, m1_refl, ↓reduceIte, L0, L1, L2, L3, L4, L5, L6, L7, L8, L9, L10, L11, L15, L16, L17, L18, L20, L24, L26, L28, L31, L32, L35, L36, L48, L57, L59, L63, L64, L96, L97, L99, L100, L112, L122, L128, L200, L255, L256, L1000, L1024, L2000, L3000, L1000000, L1000000007, e0]
  · intro f b1 B hB ⟨g1, g2⟩
    right
    have e0 : rd b1 54 0 = nI (nP S) := by rw [g1 _ _ (by omega), hf 54 0 (by unfold Xm; omega)]; exact hI.2.2.1
    have hp : B / 64 < nP S := by omega
    generalize hb2 : wr (wr b1 61 (1024 * q + B) (nI 1000000)) 62 (1024 * q + B) (nI 0) = b2
    have g : fr (fun c j => (c = 61 ∨ c = 62) ∧ j = 1024 * q + B) b1 b2 := by rw [← hb2]; exact ((fr.refl _ _).wr (by omega)).wr (by omega)
    have hf2 : fr Xm S b2 := (hf.trans (g1.mono (fun c j h => by unfold Xm; omega))).trans (g.mono (fun c j h => by unfold Xm; omega))
    have hrow2 : ∀ x, x < n → rd b2 63 x = nI (r x) := fun x hx => by rw [g _ _ (by omega), g1 _ _ (by omega)]; exact hrow x hx
    have hib := isBit_ok (S := S) (b := b2) (v := v) (n := n) (q := q) (p := B / 64) (i := B / 8 % 8) (m := B % 8) (r := r) hI (Xm_pc hf2) hp (by omega) (by omega) hn (by omega) hrow2 hr hv
    by_cases c : pv S (B / 64) = v ∧ B / 8 % 8 + B % 8 < pl S (B / 64) ∧ q + B % 8 < n ∧ rn S r (B / 64) (B % 8) (B / 8 % 8) q = true
    · rw [decide_eq_true c] at hib
      have hib2 : f_X11_isBit (nI v) (nI q) (nI n) (nI (B / 64)) (nI (B / 8 % 8)) (nI (B % 8 + 1)) b2 = some (nI 1, b2) := hib
      obtain ⟨J, w, o1, o2⟩ := goOn_ok (S := S) (b := b2) (v := v) (n := n) (q := q) (k := k) (B := B) (r := r) hI hc hf2 hn hk hB c.1 c.2.1 (by omega) c.2.2.2 (fun u hu hun C hC => by rw [g _ _ (by omega), g _ _ (by omega), g1 _ _ (by omega), g1 _ _ (by omega)]; exact hL u hu hun C hC)
      refine ⟨wr (wr b2 61 (1024 * q + B) J) 62 (1024 * q + B) w, ?_, ((g1.trans (g.mono (fun c j h => by omega))).wr (by omega)).wr (by omega), fun C hC => ?_⟩
      · rw [f_X11_layOut_L11]
        simp (disch := omega) only [md_n, lt_eq, bd_some, gN, gN2, le_T, le_F, lt_T, lt_F, eq_T, eq_F, cN, plus_n, mul_n, rem_n, div_n, sub_n, re_T, re_F, rl_wr, rd_wl, ne_m1, m1_ne, m1_lt, m1_le, m1_ge, m1_gt, m1_refl, ↓reduceIte, L0, L1, L2, L3, L4, L5, L6, L7, L8, L9, L10, L11, L15, L16, L17, L18, L20, L24, L26, L28, L31, L32, L35, L36, L48, L57, L59, L63, L64, L96, L97, L99, L100, L112, L122, L128, L200, L255, L256, L1000, L1024, L2000, L3000, L1000000, L1000000007, e0, hb2, hib2, o1]
      · by_cases d : C = B
        · subst d
          rw [rw_ne (by omega), rw_eq, rw_eq]; exact o2
        · rw [rw_ne (by omega), rw_ne (by omega), rw_ne (by omega), rw_ne (by omega), g _ _ (by omega), g _ _ (by omega)]; exact g2 C (by omega)
    · rw [decide_eq_false c] at hib
      have hib2 : f_X11_isBit (nI v) (nI q) (nI n) (nI (B / 64)) (nI (B / 8 % 8)) (nI (B % 8 + 1)) b2 = some (nI 0, b2) := hib
      refine ⟨b2, ?_, g1.trans (g.mono (fun c j h => by omega)), fun C hC => ?_⟩
      · rw [f_X11_layOut_L11]
        simp (disch := omega) only [md_n, lt_eq, bd_some, gN, gN2, le_T, le_F, lt_T, lt_F, eq_T, eq_F, cN, plus_n, mul_n, rem_n, div_n, sub_n, re_T, re_F, rl_wr, rd_wl, ne_m1, m1_ne, m1_lt, m1_le, m1_ge, m1_gt, m1_refl, ↓reduceIte, L0, L1, L2, L3, L4, L5, L6, L7, L8, L9, L10, L11, L15, L16, L17, L18, L20, L24, L26, L28, L31, L32, L35, L36, L48, L57, L59, L63, L64, L96, L97, L99, L100, L112, L122, L128, L200, L255, L256, L1000, L1024, L2000, L3000, L1000000, L1000000007, e0, hb2, hib2]
      · by_cases d : C = B
        · subst d
          have : LB S v n r k C = fun _ => 0 := if_neg (fun z => c ⟨z.1, z.2.1, by omega, by have := z.2.2.2; rw [show n - (k + 1) = q by omega] at this; exact this⟩)
          rw [this, ← hb2, rw_ne (by omega), rw_eq, rw_eq]
          exact rp_z (fun _ => rfl)
        · rw [g _ _ (by omega), g _ _ (by omega)]; exact g2 C (by omega)
theorem layOut_ok {S b : St} {v n : Nat} {r : Nat → Nat} (hI : I_pcs S) (hc : I_cut S) (hv : v < 4) (hf : fr Xm S b) (hn1 : 1 ≤ n) (hn : n ≤ 16) (hrow : ∀ x, x < n → rd b 63 x = nI (r x)) (hr : ∀ x, r x < 16) :
    ∃ b', f_X11_layOut (nI v) (nI n) b = some ((), b') ∧ fr (fun c _ => c = 61 ∨ c = 62) b b' ∧ ∀ u, u < n → laid S v n r u b' := by
  unfold f_X11_layOut
  rw [lt_eq, show nI n - (1 : Int32) = dn n by rw [show (1 : Int32) = nI 1 from rfl, sub_n hn1]; obtain ⟨z, rfl⟩ : ∃ z, n = z + 1 := ⟨n - 1, by omega⟩; rfl]
  refine loopD (fun f (a : St) i => f_X11_layOut_L4 (fun S28 => some ((), S28)) (nI v) (nI n) f i a) (fun y => ∃ b', y = some ((), b') ∧ fr (fun c _ => c = 61 ∨ c = 62) b b' ∧ ∀ u, u < n → laid S v n r u b')
    (fun i a => i ≤ n ∧ fr (fun c _ => c = 61 ∨ c = 62) b a ∧ ∀ u, i ≤ u → u < n → laid S v n r u a) ?_ ?_ n FU b (by unfold FU; omega) ⟨Nat.le_refl _, fr.refl _ _, fun u h1 h2 => by omega⟩
  · intro f a ⟨_, g1, g2⟩
    refine ⟨a, ?_, g1, fun u hu => g2 u (by omega) hu⟩
    rw [f_X11_layOut_L4, if_pos (by decide)]
  · intro f a q ⟨hq, g1, g2⟩
    right
    have hfa : fr Xm S a := hf.trans (g1.mono (fun c j h => by unfold Xm; omega))
    obtain ⟨a2, o1, o2, o3⟩ := layL_ok (S := S) (b := a) (v := v) (n := n) (q := q) (k := n - (q + 1)) (r := r) hI hc hv hfa hn (by omega) (fun x hx => by rw [g1 _ _ (by omega)]; exact hrow x hx) hr (fun u h1 h2 => g2 u (by omega) h2) (fun S26 => f_X11_layOut_L4 (fun S28 => some ((), S28)) (nI v) (nI n) f (nI q + -1) S26)
    refine ⟨a2, ?_, by omega, g1.trans (o2.mono (fun c j h => by omega)), fun u h1 h2 => ?_⟩
    · show f_X11_layOut_L4 _ _ _ _ _ _ = _
      rw [f_X11_layOut_L4, if_neg (nI_pos (n := q) (by omega))]
      exact o1
    · by_cases c : u = q
      · subst c; exact o3
      · intro C hC
        have h16 := hI.1
        rw [o2 _ _ (by omega), o2 _ _ (by omega)]
        exact g2 u (by omega) h2 C hC
