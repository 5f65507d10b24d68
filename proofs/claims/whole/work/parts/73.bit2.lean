theorem rn_cg {S b : St} (h : sameP S b) (h16 : nP S ≤ 16) {r : Nat → Nat} {p : Nat} (hp : p < 16) : ∀ m i q, rn b r p m i q = rn S r p m i q := by
  have hs : ∀ i q, sy b r p i q = sy S r p i q := fun i q => by unfold sy; rw [(h.acc hp).2.1, h.ls h16 hp]
  intro m
  induction m with
  | zero => intro i q; rw [rn, rn, hs]
  | succ m ih => intro i q; rw [rn, rn, hs, ih]
theorem good_cg {S b : St} (h : sameP S b) (h16 : nP S ≤ 16) (hct : ct b = ct S) {v n : Nat} {r : Nat → Nat} {k : Nat} {to : Option Nat} {due p i m : Nat} (hp : p < 16) : good b v n r k to due p i m = good S v n r k to due p i m := by
  obtain ⟨a1, a2, a3, a4, a5, a6, a7⟩ := h.acc hp
  unfold good
  rw [a1, a3, rn_cg h h16 hp, a7, (D_cg h h16 hct v n r (k - m)).1]
  have e1 : cE b p (i + m) = cE S p (i + m) := by unfold cE; rw [a1, hct]
  have e2 : cB b i = cB S i := by unfold cB; rw [hct]
  have e3 : dT b to p i = dT S to p i := by
    cases to with
    | none => rfl
    | some t => show dst t (tn b p i) = dst t (tn S p i); rw [a7]
  rw [e1, e2, e3]
theorem fstC_cg {S b : St} (h : sameP S b) (h16 : nP S ≤ 16) (hct : ct b = ct S) {v n : Nat} {r : Nat → Nat} {k : Nat} {to : Option Nat} {due C : Nat} : fstC b v n r k to due C ↔ fstC S v n r k to due C := by
  unfold fstC
  rw [h.n]
  constructor
  · rintro ⟨h1, h2, h3⟩
    refine ⟨h1, ?_, fun c hc => ?_⟩
    · unfold goodC at *; rw [← good_cg h h16 hct (by omega)]; exact h2
    · have := h3 c hc; unfold goodC at *; rw [← good_cg h h16 hct (by omega)]; exact this
  · rintro ⟨h1, h2, h3⟩
    refine ⟨h1, ?_, fun c hc => ?_⟩
    · unfold goodC at *; rw [good_cg h h16 hct (by omega)]; exact h2
    · have := h3 c hc; unfold goodC at *; rw [good_cg h h16 hct (by omega)]; exact this
theorem PathR_cg {S b : St} (h : sameP S b) (h16 : nP S ≤ 16) (hct : ct b = ct S) {v n : Nat} {r : Nat → Nat} : ∀ (L : List Nat) (rem : Nat) (to : Option Nat) (due : Nat), PathR b v n r L rem to due → PathR S v n r L rem to due := by
  intro L
  induction L with
  | nil => intro rem to due h; exact h
  | cons C L ih =>
    intro rem to due hp
    obtain ⟨k, h1, h2, d, h3, h4⟩ := hp
    have h2' := (fstC_cg h h16 hct).mp h2
    have hC : C / 64 < 16 := by have := h2'.1; omega
    have ht := (h.acc hC).2.2.2.2.2.2
    rw [ht, (D_cg h h16 hct v n r (k - C % 8)).1] at h3
    rw [ht] at h4
    exact ⟨k, h1, h2', d, h3, ih _ _ _ h4⟩
theorem bit_all (v1 : Int32) (x : Int64) (v4 v5 : Int32) {S : St} (hI : I_pcs S) (hc : I_cut S) : ∃ r S1 S2, f_X10_bit v1 x v4 v5 S = some (r, S1) ∧ f_X11_bit v1 x v4 v5 S1 = some (r, S2) ∧ fr Xsd S S2 := by
  unfold f_X10_bit f_X11_bit
  rcases bl v1 4 (by decide) (by decide) with h | ⟨v, hv, rfl, h⟩
  · obtain ⟨h1, h2⟩ := h S
    exact ⟨-3, S, S, by rw [show f_X10_below v1 4 S = _ from h1]; rfl, by rw [show f_X11_in v1 0 3 S = _ from h2]; rfl, fr.refl _ _⟩
  rw [show f_X10_below (nI v) 4 S = _ from (h S).1, bd_some, if_neg (by decide), within_in]
  rcases bl1 v4 16 (by decide) with g | ⟨n, hn1, hn, rfl, g⟩
  · exact ⟨-3, S, S, by rw [show f_X11_in v4 1 16 S = _ from g S]; rfl, by rw [show f_X11_in (nI v) 0 3 S = _ from (h S).2, bd_some, if_neg (by decide), show f_X11_in v4 1 16 S = _ from g S]; rfl, fr.refl _ _⟩
  rw [show f_X11_in (nI n) 1 16 S = _ from g S, bd_some, if_neg (by decide)]
  have key : ∀ w5, (-1 : Int32) ≤ w5 → (w5 = -1 ∨ ∃ y, y < 2147483648 ∧ w5 = nI y) → ∃ r S1 S2, (bd_ (f_X6_weigh (nI v) x (nI n) S) fun r9 S10 =>
        bd_ (f_X6_findFirst  S10) fun r11 S12 =>
        if (rd S12 3 17) = 0 then
          some ((-1 : Int32), S12)
        else
          if w5 = (-1 : Int32) then
            some ((rd S12 3 17), S12)
          else
            if (rd S12 3 17) ≤ w5 then
              some ((-1 : Int32), S12)
            else
              gd_ (inb w5 16) <|
              some ((rd S12 13 (Int32.toNatClampNeg w5)), S12)) = some (r, S1) ∧ (bd_ (f_X11_layRow x (nI n) S1) fun r20 S21 =>
        bd_ (f_X11_layOut (nI v) (nI n) S21) fun r22 S23 =>
        bd_ (f_X11_leastOf  S23) fun r24 S25 =>
        if r24 = (1000000 : Int32) then
          some ((-1 : Int32), S25)
        else
          bd_ (f_X11_leastOf  S25) fun r27 S28 =>
          f_X11_bit_L69
            (fun (x59 : Int32) (S60 : St) =>
              if w5 = (-1 : Int32) then
                some (x59, S60)
              else
                if x59 ≤ w5 then
                  some ((-1 : Int32), S60)
                else
                  gd_ (inb w5 16) <|
                  some ((rd S60 64 (Int32.toNatClampNeg w5)), S60))
            (nI n) w5 FU (0 : Int32) (0 : Int32) r27 (-1 : Int32) S28) = some (r, S2) ∧ fr Xsd S S2 := by
    intro w5 hw hw2
    obtain ⟨k, rfl⟩ : ∃ k, n = k + 1 := ⟨n - 1, by omega⟩
    obtain ⟨S1, a1, a2, a3, a4⟩ := weigh_ok (S := S) (v := v) (n := k + 1) (x := x) (r := nib x) hI hc hv (by omega) (by omega) (nib_lt x) (fun _ _ => rfl)
    obtain ⟨S2, b1, b2, b3⟩ := findFirst_ok hI hc hv (by omega) (by omega) (nib_lt x) a2 a4 a3
    have hs := Xw_same b2
    have hI2 := hs.I hI
    have hcc := Xw_ct b2
    obtain ⟨S3, d1, d2, d3⟩ := layRow_ok (S := S2) x (n := k + 1) (by omega)
    have hfb : fr Xm S2 S3 := d2.mono (fun c j h => by unfold Xm; omega)
    obtain ⟨S4, e1, e2, e3⟩ := layOut_ok (S := S2) (b := S3) (v := v) (n := k + 1) (r := nib x) hI2 (Xw_cut b2 hc) hv hfb (by omega) (by omega) d3 (nib_lt x)
    have hf4 : fr Xm S2 S4 := hfb.trans (e2.mono (fun c j h => by unfold Xm; omega))
    have h54 : rd S4 54 0 = nI (nP S2) := by rw [hf4 _ _ (by unfold Xm; omega)]; exact hI2.2.2.1
    obtain ⟨J, f1, f2⟩ := leastOf_ok hI2 (show k ≤ 15 by omega) h54 (e3 0 (by omega))
    have hT := Tot_cg hs hI.1 hcc v (k + 1) (nib x) (k + 1)
    rcases b3 with ⟨p1, p2⟩ | ⟨due, L, p1, p2, p3, p4, p5, p6⟩
    · have hJ : J = nI 1000000 := by
        rcases f2 with ⟨-, e⟩ | ⟨i, -, i2, -⟩
        · exact e
        · rw [hT] at i2; exact absurd (p1 i) i2.1
      subst hJ
      refine ⟨-1, S2, S4, ?_, ?_, (b2.mono (fun c j h => Or.inl h)).trans (hf4.mono (fun c j h => Or.inr h))⟩
      · rw [a1, bd_some, b1, bd_some, p2]; rfl
      · rw [d1, bd_some, e1, bd_some, f1, bd_some]; rfl
    · have hJ : J = nI due ∧ due ≤ 300 * k + 200 := by
        rcases f2 with ⟨e, -⟩ | ⟨i, i1, i2, e⟩
        · rw [hT] at e; exact absurd (e due) p1.1
        · rw [hT] at i2; rw [e, i2.uniq p1]; exact ⟨rfl, by rw [i2.uniq p1] at i1; exact i1⟩
      obtain ⟨rfl, hdue⟩ := hJ
      obtain ⟨L', S5, q1, q2, q3, q4, q5, q6⟩ := bit69_ok (S := S2) (v := v) (n := k + 1) (r := nib x) (v5 := w5) (fun (x59 : Int32) (S60 : St) =>
              if w5 = (-1 : Int32) then
                some (x59, S60)
              else
                if x59 ≤ w5 then
                  some ((-1 : Int32), S60)
                else
                  gd_ (inb w5 16) <|
                  some ((rd S60 64 (Int32.toNatClampNeg w5)), S60)) hI2 (Xw_cut b2 hc) (by omega) (k + 1) 0 none due 0 S4 FU (by omega) (by unfold FU; omega) (by omega) (by omega) (fun t ht => by cases ht) (fun _ => by show isL (Tot S2 v (k + 1) (nib x) (k + 1)) due; rw [hT]; exact p1) hf4 e3
      have := PathR_uniq _ _ _ _ _ p2 (PathR_cg hs hI.1 hcc _ _ _ _ q2)
      subst this
      have hlen : 0 < L.length := List.length_pos_iff.mpr p3
      rw [Nat.zero_add] at q1
      have hne : ¬ nI due = (1000000 : Int32) := of_eq_false (eq_F (b := 1000000) (by omega))
      have hne2 : ¬ nI L.length = (0 : Int32) := of_eq_false (eq_F (b := 0) (by omega))
      have hF : fr Xsd S S5 := (b2.mono (fun c j h => Or.inl h)).trans (q6.mono (fun c j h => Or.inr h))
      rcases hw2 with rfl | ⟨y, hy, rfl⟩
      · refine ⟨nI L.length, S2, S5, ?_, ?_, hF⟩
        · rw [a1, bd_some, b1, bd_some, p5, if_neg hne2, if_pos rfl]
        · rw [d1, bd_some, e1, bd_some, f1, bd_some, if_neg hne, f1, bd_some]
          refine q1.trans ?_
          rw [if_pos rfl]
      · have hny : ¬ nI y = (-1 : Int32) := of_eq_false (ne_m1 hy)
        by_cases c : L.length ≤ y
        · refine ⟨-1, S2, S5, ?_, ?_, hF⟩
          · rw [a1, bd_some, b1, bd_some, p5, if_neg hne2, if_neg hny, if_pos (by rw [le_n (by omega) (by omega)]; exact c)]
          · rw [d1, bd_some, e1, bd_some, f1, bd_some, if_neg hne, f1, bd_some]
            refine q1.trans ?_
            rw [if_neg hny, if_pos (by rw [le_n (by omega) (by omega)]; exact c)]
        · have q4' := q4 y (by omega)
          rw [Nat.zero_add] at q4'
          refine ⟨nI (cde (L.getD y 0)), S2, S5, ?_, ?_, hF⟩
          · rw [a1, bd_some, b1, bd_some, p5, if_neg hne2, if_neg hny, if_neg (by rw [le_n (by omega) (by omega)]; exact c), gd_t (inb_n (by omega) (by decide)), cl_n hy, p6 y (by omega)]
          · rw [d1, bd_some, e1, bd_some, f1, bd_some, if_neg hne, f1, bd_some]
            refine q1.trans ?_
            rw [if_neg hny, if_neg (by rw [le_n (by omega) (by omega)]; exact c), gd_t (inb_n (by omega) (by decide)), cl_n hy, q4']
  rcases m1c v5 with c | rfl | ⟨y, hy, rfl⟩
  · exact ⟨-3, S, S, by rw [if_neg c], by rw [show f_X11_in (nI v) 0 3 S = _ from (h S).2, bd_some, if_neg (by decide), show f_X11_in (nI n) 1 16 S = _ from g S, bd_some, if_neg (by decide), if_neg c], fr.refl _ _⟩
  · obtain ⟨r, S1, S2, k1, k2, k3⟩ := key (-1) (by decide) (Or.inl rfl)
    refine ⟨r, S1, S2, by rw [if_pos (by decide)]; exact k1, ?_, k3⟩
    rw [show f_X11_in (nI v) 0 3 S1 = _ from (h S1).2, bd_some, if_neg (by decide), show f_X11_in (nI n) 1 16 S1 = _ from g S1, bd_some, if_neg (by decide), if_pos (by decide)]
    exact k2
  · have hq1 : (-1 : Int32) ≤ nI y := of_eq_true (m1_le hy)
    obtain ⟨r, S1, S2, k1, k2, k3⟩ := key (nI y) hq1 (Or.inr ⟨y, hy, rfl⟩)
    refine ⟨r, S1, S2, by rw [if_pos hq1]; exact k1, ?_, k3⟩
    rw [show f_X11_in (nI v) 0 3 S1 = _ from (h S1).2, bd_some, if_neg (by decide), show f_X11_in (nI n) 1 16 S1 = _ from g S1, bd_some, if_neg (by decide), if_pos hq1]
    exact k2
