/-! ===== loudness: power, and the three calls ===== -/
def crw (S : St) (i : Nat) : Nat := (rd S 53 i).toNatClampNeg
theorem I_loud.c {S : St} (hI : I_loud S) {i : Nat} (hi : i < 16) : crw S i ≤ 99 ∧ rd S 53 i = nI (crw S i) ∧ rd S 89 i = nI (crw S i) := by
  obtain ⟨c, a, b, d⟩ := hI i hi
  unfold crw
  rw [b, d, cl_n (by omega)]; exact ⟨a, rfl, rfl⟩
theorem mmax_n {a b : Nat} (ha : a < 2147483648) (hb : b < 2147483648) : mmax (nI a) (nI b) = nI (max a b) := by
  unfold mmax
  simp only [lt_n ha hb]
  by_cases h : a < b
  · rw [if_pos h, Nat.max_eq_right (by omega)]
  · rw [if_neg h, Nat.max_eq_left (by omega)]
theorem mmin_n {a b : Nat} (ha : a < 2147483648) (hb : b < 2147483648) : mmin (nI a) (nI b) = nI (min a b) := by
  unfold mmin
  simp only [lt_n hb ha]
  by_cases h : b < a
  · rw [if_pos h, Nat.min_eq_right (by omega)]
  · rw [if_neg h, Nat.min_eq_left (by omega)]
def pwS (S : St) (s m i a : Nat) : Nat := if tb m i then max a (11 + 3 * dst s i + crw S i) else a
def pwr (S : St) (s m : Nat) : Nat := (List.range' 0 16).foldl (fun a i => pwS S s m i a) 0
theorem pwS_le {S : St} (hI : I_loud S) {s m i a : Nat} (hs : s < 16) (hi : i < 16) (ha : a ≤ 200) : pwS S s m i a ≤ 200 := by
  have := (hI.c hi).1
  have := dst_lt hs hi
  unfold pwS
  split <;> omega
theorem leastPower_ok {S : St} (hI : I_loud S) {s m : Nat} (hs : s < 16) (hm : m < 65536) : pwr S s m ≤ 200 ∧ f_X2_leastPower (nI s) (nI m) S = some (nI (pwr S s m), S) := by
  obtain ⟨z, e1, e3, e2⟩ := loopN (fun f (a : Nat) i => f_X2_leastPower_L5 (fun x S => some (x, S)) (nI s) (nI m) f (nI a) (nI i) S) (fun a => some (nI a, S)) (fun i a => pwS S s m i a) (fun _ a => a ≤ 200) 16
    (fun f a _ => by rw [f_X2_leastPower_L5, lit, if_pos (by rw [le_n (by decide) (by decide)]; exact Nat.le_refl _)])
    (fun f a i hi ha => by
      refine ⟨?_, pwS_le hI hs hi ha⟩
      obtain ⟨h1, h2, h3⟩ := hI.c hi
      have hd := dst_lt hs hi
      rw [f_X2_leastPower_L5, lit, if_neg (by rw [le_n (by decide) (by omega)]; omega)]
      simp only [lt_eq, tb_c (show m < 2147483648 by omega) (show i < 32 by omega), needed_n hs hi h1 h2, bd_some, mmax_n (show a < 2147483648 by omega) (show 11 + 3 * dst s i + crw S i < 2147483648 by omega), pwS]
      by_cases c : tb m i = true
      · rw [if_pos c, if_pos c]; simp only [lit, plus_n]
      · rw [if_neg c, if_neg c]; simp only [lit, plus_n]) 16 0 FU 0 rfl (by decide) (by omega)
  have e : z = pwr S s m := e1
  rw [e] at e2 e3
  exact ⟨e3, e2⟩
theorem powerAt_ok {S : St} (hI : I_loud S) {s m : Nat} (hs : s < 16) (hm : m < 65536) : f_X11_powerAt (nI s) (nI m) S = some (nI (pwr S s m), S) := by
  obtain ⟨z, e1, e3, e2⟩ := loopN (fun f (a : Nat) i => f_X11_powerAt_L5 (fun x S => some (x, S)) (nI s) (nI m) f (nI a) (nI i) S) (fun a => some (nI a, S)) (fun i a => pwS S s m i a) (fun _ a => a ≤ 200) 16
    (fun f a _ => by rw [f_X11_powerAt_L5, lit, if_pos (by rw [le_n (by decide) (by decide)]; exact Nat.le_refl _)])
    (fun f a i hi ha => by
      refine ⟨?_, pwS_le hI hs hi ha⟩
      obtain ⟨h1, h2, h3⟩ := hI.c hi
      have hd := dst_lt hs hi
      rw [f_X11_powerAt_L5, lit, if_neg (by rw [le_n (by decide) (by omega)]; omega)]
      simp only [lt_eq, tb_m (show m < 2147483648 by omega) (show i < 32 by omega), apart_n (show s < 1073741824 by omega) (show i < 1073741824 by omega), bd_some, pwS, gd_t (inb_n hi (show 16 < 2147483648 by decide)), cl_n (show i < 2147483648 by omega), h3]
      by_cases c : tb m i = true
      · rw [if_pos c, if_pos c]
        simp only [lit, mul_n, plus_n, le_n (show 11 + 3 * dst s i + crw S i < 2147483648 by omega) (show a < 2147483648 by omega)]
        by_cases c2 : 11 + 3 * dst s i + crw S i ≤ a
        · rw [if_pos c2, Nat.max_eq_left c2]
        · rw [if_neg c2, Nat.max_eq_right (by omega)]
      · rw [if_neg c, if_neg c]
        simp only [lit, plus_n, le_n (show 0 < 2147483648 by omega) (show a < 2147483648 by omega)]
        rw [if_pos (Nat.zero_le _)]) 16 0 FU 0 rfl (by decide) (by omega)
  have e : z = pwr S s m := e1
  rw [e] at e2
  exact e2
def bsS (S : St) (m i b : Nat) : Nat := if pwr S b m ≤ pwr S i m then b else i
theorem best_ok {S : St} (hI : I_loud S) {m : Nat} (hm : m < 65536) : ∃ r, f_X2_bestSpot (nI m) S = some (r, S) ∧ f_X11_power_L46
            (fun (x16 : Int32) (S17 : St) =>
              bd_ (f_X11_powerAt x16 (nI m) S17) fun r18 S19 =>
              some ((((16 : Int32) * r18) + x16), S19))
            (nI m) FU (0 : Int32) (1 : Int32) S = some (r, S) := by
  obtain ⟨z, e1, e3, e2⟩ := loopN (fun f (b : Nat) i => f_X2_bestSpot_L12 (fun x S => some (x, S)) (nI m) f (nI (16 * pwr S b m + b)) (nI i) S) (fun b => some (nI (16 * pwr S b m + b), S)) (fun i b => bsS S m i b) (fun i b => b < i) 16
    (fun f a _ => by rw [f_X2_bestSpot_L12, lit, if_pos (by rw [le_n (by decide) (by decide)]; exact Nat.le_refl _)])
    (fun f a i hi ha => by
      have p1 := (leastPower_ok hI (s := i) hi hm).1
      have p2 := (leastPower_ok hI (s := a) (by omega) hm).1
      refine ⟨?_, by unfold bsS; split <;> omega⟩
      rw [f_X2_bestSpot_L12, lit, if_neg (by rw [le_n (by decide) (by omega)]; omega), (leastPower_ok hI hi hm).2, bd_some]
      simp only [lt_eq, lit, mul_n, plus_n]
      rw [mmin_n (by omega) (by omega)]
      unfold bsS
      by_cases c : pwr S a m ≤ pwr S i m
      · rw [if_pos c, Nat.min_eq_left (by omega)]
      · rw [if_neg c, Nat.min_eq_right (by omega)]) 15 1 FU 0 rfl (by decide) (by omega)
  obtain ⟨z', e1', e3', e2'⟩ := loopN (fun f (b : Nat) i => f_X11_power_L46 (fun (x16 : Int32) (S17 : St) =>
              bd_ (f_X11_powerAt x16 (nI m) S17) fun r18 S19 =>
              some ((((16 : Int32) * r18) + x16), S19)) (nI m) f (nI b) (nI i) S) (fun b => some (nI (16 * pwr S b m + b), S)) (fun i b => bsS S m i b) (fun i b => b < i) 16
    (fun f a ha => by rw [f_X11_power_L46, lit, if_pos (by rw [le_n (by decide) (by decide)]; exact Nat.le_refl _), powerAt_ok hI ha hm, bd_some, mul_n, plus_n])
    (fun f a i hi ha => by
      have p1 := (leastPower_ok hI (s := i) hi hm).1
      have p2 := (leastPower_ok hI (s := a) (by omega) hm).1
      refine ⟨?_, by unfold bsS; split <;> omega⟩
      rw [f_X11_power_L46, lit, if_neg (by rw [le_n (by decide) (by omega)]; omega), powerAt_ok hI hi hm, bd_some, powerAt_ok hI (by omega) hm, bd_some]
      simp only [lt_eq, lit, plus_n, le_n (show pwr S a m < 2147483648 by omega) (show pwr S i m < 2147483648 by omega)]
      unfold bsS
      by_cases c : pwr S a m ≤ pwr S i m
      · rw [if_pos c, if_pos c]
      · rw [if_neg c, if_neg c]) 15 1 FU 0 rfl (by decide) (by omega)
  have e : z' = z := e1'.trans e1.symm
  rw [e] at e2'
  refine ⟨_, ?_, e2'⟩
  unfold f_X2_bestSpot
  rw [lit, (leastPower_ok hI (by decide) hm).2, bd_some]
  simp only [lt_eq]
  rw [lit, mul_n]
  exact e2
def W_loud (c : Nat) : Bool := c == 53 || c == 89
theorem spot_n (v : Int32) (S : St) (r : Int32) (hr : r = 0 ∨ r = 1) (h : f_X11_in v (nI 0) (nI 15) S = some (r, S)) : f_X11_isSpot v S = some (r, S) := by
  unfold f_X11_isSpot
  rw [show f_X11_in v 0 15 S = some (r, S) from h, bd_some, gd_t (by rcases hr with rfl | rfl <;> decide)]
theorem crowd_ok (v1 v2 : Int32) {S : St} (hI : I_loud S) : ∃ r S1 S2, f_X10_crowd v1 v2 S = some (r, S1) ∧ f_X11_crowd v1 v2 S1 = some (r, S2) ∧ I_loud S2 ∧ kp W_loud S S2 := by
  rcases bl v1 16 (by decide) (by decide) with h | ⟨i, hi, rfl, h⟩
  · refine ⟨-2, S, S, ?_, ?_, hI, kp.refl _ _⟩
    · unfold f_X10_crowd; rw [show f_X10_below v1 16 S = _ from (h S).1, bd_some, if_pos rfl]
    · unfold f_X11_crowd; rw [spot_n v1 S 0 (Or.inl rfl) (h S).2, bd_some, if_pos rfl]
  rcases bl v2 100 (by decide) (by decide) with g | ⟨c, hc, rfl, g⟩
  · refine ⟨-3, S, S, ?_, ?_, hI, kp.refl _ _⟩
    · unfold f_X10_crowd; rw [show f_X10_below (nI i) 16 S = _ from (h S).1, bd_some, if_neg (by decide), show f_X10_below v2 100 S = _ from (g S).1, bd_some, if_pos rfl]
    · unfold f_X11_crowd; rw [spot_n (nI i) S 1 (Or.inr rfl) (h S).2, bd_some, if_neg (by decide), show f_X11_in v2 0 99 S = _ from (g S).2, bd_some, if_pos rfl]
  · obtain ⟨h1, h2, h3⟩ := hI.c hi
    refine ⟨nI (crw S i), wr S 53 i (nI c), wr (wr S 53 i (nI c)) 89 i (nI c), ?_, ?_, ?_, ?_⟩
    · unfold f_X10_crowd; rw [show f_X10_below (nI i) 16 S = _ from (h S).1, bd_some, if_neg (by decide), show f_X10_below (nI c) 100 S = _ from (g S).1, bd_some, if_neg (by decide), gd_t (inb_n hi (by decide)), lt_eq, gd_t (inb_n hi (by decide)), cl_n (by omega), h2]; rfl
    · unfold f_X11_crowd; rw [spot_n (nI i) _ 1 (Or.inr rfl) (h _).2, bd_some, if_neg (by decide), show f_X11_in (nI c) 0 99 (wr S 53 i (nI c)) = _ from (g _).2, bd_some, if_neg (by decide), gd_t (inb_n hi (by decide)), lt_eq, gd_t (inb_n hi (by decide)), cl_n (by omega), rd_wr, if_neg (by omega), h3]; rfl
    · intro j hj
      obtain ⟨x, a, b, d⟩ := hI j hj
      by_cases e : j = i
      · exact ⟨c, by omega, by rw [rd_wr, if_neg (by omega), rd_wr, if_pos ⟨rfl, e⟩], by rw [rd_wr, if_pos ⟨rfl, e⟩]⟩
      · exact ⟨x, a, by rw [rd_wr, if_neg (by omega), rd_wr, if_neg (by omega), b], by rw [rd_wr, if_neg (by omega), rd_wr, if_neg (by omega), d]⟩
    · exact (kp.wr _ _ _ _ (by decide)).trans (kp.wr _ _ _ _ (by decide))
theorem understood_all (v1 v2 : Int32) {S : St} (hI : I_loud S) : ∃ r, f_X10_understood v1 v2 S = some (r, S) ∧ f_X11_understood v1 v2 S = some (r, S) := by
  rcases bl v1 16 (by decide) (by decide) with h | ⟨i, hi, rfl, h⟩
  · refine ⟨-2, ?_, ?_⟩
    · unfold f_X10_understood; rw [show f_X10_below v1 16 S = _ from (h S).1, bd_some, if_pos rfl]
    · unfold f_X11_understood; rw [spot_n v1 S 0 (Or.inl rfl) (h S).2, bd_some, if_pos rfl]
  rcases bl v2 1000 (by decide) (by decide) with g | ⟨c, hc, rfl, g⟩
  · refine ⟨-3, ?_, ?_⟩
    · unfold f_X10_understood; rw [show f_X10_below (nI i) 16 S = _ from (h S).1, bd_some, if_neg (by decide), show f_X10_below v2 1000 S = _ from (g S).1, bd_some, if_pos rfl]
    · unfold f_X11_understood; rw [spot_n (nI i) S 1 (Or.inr rfl) (h S).2, bd_some, if_neg (by decide), show f_X11_in v2 0 999 S = _ from (g S).2, bd_some, if_pos rfl]
  · obtain ⟨r, a, b⟩ := understood_ok hI hi hc
    refine ⟨r, ?_, ?_⟩
    · unfold f_X10_understood; rw [show f_X10_below (nI i) 16 S = _ from (h S).1, bd_some, if_neg (by decide), show f_X10_below (nI c) 1000 S = _ from (g S).1, bd_some, if_neg (by decide), a, bd_some]
    · unfold f_X11_understood; rw [spot_n (nI i) S 1 (Or.inr rfl) (h S).2, bd_some, if_neg (by decide), show f_X11_in (nI c) 0 999 S = _ from (g S).2, bd_some, if_neg (by decide)]; exact b
theorem power_all (v1 v2 : Int32) {S : St} (hI : I_loud S) : ∃ r, f_X10_power v1 v2 S = some (r, S) ∧ f_X11_power v1 v2 S = some (r, S) := by
  unfold f_X10_power f_X11_power
  simp only [lt_eq]
  by_cases c : v1 = -1
  · rw [if_pos c, if_pos c]
    rcases bl v2 65536 (by decide) (by decide) with g | ⟨m, hm, rfl, g⟩
    · exact ⟨-3, by rw [show f_X10_below v2 65536 S = _ from (g S).1, bd_some, if_pos rfl], by rw [show f_X11_in v2 0 65535 S = _ from (g S).2, bd_some, if_pos rfl]⟩
    · obtain ⟨r, a, b⟩ := best_ok hI hm
      exact ⟨r, by rw [show f_X10_below (nI m) 65536 S = _ from (g S).1, bd_some, if_neg (by decide), if_pos c, a, bd_some], by rw [show f_X11_in (nI m) 0 65535 S = _ from (g S).2, bd_some, if_neg (by decide), if_pos c]; exact b⟩
  · rw [if_neg c, if_neg c]
    rcases bl v1 16 (by decide) (by decide) with h | ⟨i, hi, rfl, h⟩
    · exact ⟨-2, by rw [show f_X10_below v1 16 S = _ from (h S).1, bd_some, if_pos rfl], by rw [spot_n v1 S 0 (Or.inl rfl) (h S).2, bd_some, if_pos rfl]⟩
    rw [show f_X10_below (nI i) 16 S = _ from (h S).1, bd_some, if_neg (by decide), spot_n (nI i) S 1 (Or.inr rfl) (h S).2, bd_some, if_neg (by decide)]
    rcases bl v2 65536 (by decide) (by decide) with g | ⟨m, hm, rfl, g⟩
    · exact ⟨-3, by rw [show f_X10_below v2 65536 S = _ from (g S).1, bd_some, if_pos rfl], by rw [show f_X11_in v2 0 65535 S = _ from (g S).2, bd_some, if_pos rfl]⟩
    · exact ⟨nI (pwr S i m), by rw [show f_X10_below (nI m) 65536 S = _ from (g S).1, bd_some, if_neg (by decide), if_neg c, (leastPower_ok hI hi hm).2, bd_some], by rw [show f_X11_in (nI m) 0 65535 S = _ from (g S).2, bd_some, if_neg (by decide), if_neg c, powerAt_ok hI hi hm, bd_some]⟩
