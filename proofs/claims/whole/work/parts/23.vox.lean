/-! ===== the voices of the platforms: voice, wish, change ===== -/
def I_vox (S : St) : Prop := ∀ i, i < 6 → ∃ v w, v < 4 ∧ w ≤ 5 ∧ rd S 44 i = nI v ∧ rd S 45 i = nI w ∧ rd S 73 i = nI v ∧ rd S 74 i = nI w
def vo (S : St) (i : Nat) : Nat := (rd S 44 i).toNatClampNeg
def wi (S : St) (i : Nat) : Nat := (rd S 45 i).toNatClampNeg
theorem I_vox.c {S : St} (hI : I_vox S) {i : Nat} (hi : i < 6) : vo S i < 4 ∧ wi S i ≤ 5 ∧ rd S 44 i = nI (vo S i) ∧ rd S 45 i = nI (wi S i) ∧ rd S 73 i = nI (vo S i) ∧ rd S 74 i = nI (wi S i) := by
  obtain ⟨v, w, h1, h2, a, b, d, e⟩ := hI i hi
  unfold vo wi
  rw [a, b, d, e, cl_n (by omega), cl_n (by omega)]; exact ⟨h1, h2, rfl, rfl, rfl, rfl⟩
def W_vox (c : Nat) : Bool := c == 44 || c == 45 || c == 73 || c == 74
theorem platf_n (v : Int32) (S : St) (r : Int32) (hr : r = 0 ∨ r = 1) (h : f_X11_in v (nI 0) (nI 5) S = some (r, S)) : f_X11_isPlatform v S = some (r, S) := by
  unfold f_X11_isPlatform
  rw [show f_X11_in v 0 5 S = some (r, S) from h, bd_some, gd_t (by rcases hr with rfl | rfl <;> decide)]
theorem voice_all (v1 v2 : Int32) {S : St} (hI : I_vox S) : ∃ r, f_X10_voice v1 v2 S = some (r, S) ∧ f_X11_voice v1 v2 S = some (r, S) := by
  unfold f_X10_voice f_X11_voice
  rcases bl v1 6 (by decide) (by decide) with h | ⟨i, hi, rfl, h⟩
  · exact ⟨-2, by rw [show f_X10_below v1 6 S = _ from (h S).1, bd_some, if_pos rfl], by rw [platf_n v1 S 0 (Or.inl rfl) (h S).2, bd_some, if_pos rfl]⟩
  rw [show f_X10_below (nI i) 6 S = _ from (h S).1, bd_some, if_neg (by decide), platf_n (nI i) S 1 (Or.inr rfl) (h S).2, bd_some, if_neg (by decide)]
  obtain ⟨-, -, a, b, c, d⟩ := hI.c hi
  rcases bl v2 2 (by decide) (by decide) with g | ⟨m, hm, rfl, g⟩
  · have g0 : v2 ≠ 0 := by
      intro e; rw [e] at g
      have := (g S).1
      unfold f_X10_below at this
      simp only [lt_eq] at this
      rw [if_neg (by decide), if_neg (by decide)] at this
      exact absurd this (by intro e; injection e with e; injection e with e; exact absurd e (by decide))
    have g1 : v2 ≠ 1 := by
      intro e; rw [e] at g
      have := (g S).1
      unfold f_X10_below at this
      simp only [lt_eq] at this
      rw [if_neg (by decide), if_neg (by decide)] at this
      exact absurd this (by intro e; injection e with e; injection e with e; exact absurd e (by decide))
    exact ⟨-3, by rw [show f_X10_below v2 2 S = _ from (g S).1, bd_some, if_pos rfl], by rw [if_neg g0, if_neg g1]⟩
  · rw [show f_X10_below (nI m) 2 S = _ from (g S).1, bd_some, if_neg (by decide), gd_t (inb_n hi (by decide)), gd_t (inb_n hi (by decide)), gd_t (inb_n hi (by decide)), gd_t (inb_n hi (by decide)), cl_n (by omega), a, b, c, d]
    have : m = 0 ∨ m = 1 := by omega
    rcases this with rfl | rfl
    · exact ⟨_, by rw [if_pos (by decide)], by rw [if_pos (by decide)]⟩
    · exact ⟨_, by rw [if_neg (by decide)], by rw [if_neg (by decide), if_pos (by decide)]⟩
theorem wish_ok (v1 v2 v3 : Int32) {S : St} (hI : I_vox S) : ∃ r S1 S2, f_X10_wish v1 v2 v3 S = some (r, S1) ∧ f_X11_wish v1 v2 v3 S1 = some (r, S2) ∧ I_vox S2 ∧ kp W_vox S S2 := by
  unfold f_X10_wish f_X11_wish
  rcases bl v1 6 (by decide) (by decide) with h | ⟨i, hi, rfl, h⟩
  · exact ⟨-2, S, S, by rw [show f_X10_below v1 6 S = _ from (h S).1, bd_some, if_pos rfl], by rw [platf_n v1 S 0 (Or.inl rfl) (h S).2, bd_some, if_pos rfl], hI, kp.refl _ _⟩
  rcases bl v2 4 (by decide) (by decide) with g | ⟨m, hm, rfl, g⟩
  · exact ⟨-3, S, S, by rw [show f_X10_below (nI i) 6 S = _ from (h S).1, bd_some, if_neg (by decide), show f_X10_below v2 4 S = _ from (g S).1, bd_some, if_pos rfl], by rw [platf_n (nI i) S 1 (Or.inr rfl) (h S).2, bd_some, if_neg (by decide), show f_X11_in v2 0 3 S = _ from (g S).2, bd_some, if_pos rfl], hI, kp.refl _ _⟩
  rcases bl1 v3 5 (by decide) with k | ⟨n, hn, hn', rfl, k⟩
  · exact ⟨-3, S, S, by rw [show f_X10_below (nI i) 6 S = _ from (h S).1, bd_some, if_neg (by decide), show f_X10_below (nI m) 4 S = _ from (g S).1, bd_some, if_neg (by decide), within_in, show f_X11_in v3 1 5 S = _ from k S, bd_some, if_pos rfl], by rw [platf_n (nI i) S 1 (Or.inr rfl) (h S).2, bd_some, if_neg (by decide), show f_X11_in (nI m) 0 3 S = _ from (g S).2, bd_some, if_neg (by decide), show f_X11_in v3 1 5 S = _ from k S, bd_some, if_pos rfl], hI, kp.refl _ _⟩
  · obtain ⟨-, -, a, b, c, d⟩ := hI.c hi
    refine ⟨nI (vo S i), wr (wr S 44 i (nI m)) 45 i (nI n), wr (wr (wr (wr S 44 i (nI m)) 45 i (nI n)) 73 i (nI m)) 74 i (nI n), ?_, ?_, ?_, ?_⟩
    · rw [show f_X10_below (nI i) 6 S = _ from (h S).1, bd_some, if_neg (by decide), show f_X10_below (nI m) 4 S = _ from (g S).1, bd_some, if_neg (by decide), within_in, show f_X11_in (nI n) 1 5 S = _ from k S, bd_some, if_neg (by decide)]
      simp only [lt_eq, gd_t (inb_n hi (show 6 < 2147483648 by decide)), cl_n (show i < 2147483648 by omega), a]
    · rw [platf_n (nI i) _ 1 (Or.inr rfl) (h _).2, bd_some, if_neg (by decide), show f_X11_in (nI m) 0 3 _ = _ from (g _).2, bd_some, if_neg (by decide), show f_X11_in (nI n) 1 5 _ = _ from k _, bd_some, if_neg (by decide)]
      simp only [lt_eq, gd_t (inb_n hi (show 6 < 2147483648 by decide)), cl_n (show i < 2147483648 by omega)]
      rw [rd_wr, if_neg (by omega), rd_wr, if_neg (by omega), c]
    · intro j hj
      obtain ⟨x, y, h1, h2, a', b', c', d'⟩ := hI j hj
      by_cases e : j = i
      · subst e
        exact ⟨m, n, hm, hn', by simp [rd_wr], by simp [rd_wr], by simp [rd_wr], by simp [rd_wr]⟩
      · exact ⟨x, y, h1, h2, by simp [rd_wr, e, a'], by simp [rd_wr, e, b'], by simp [rd_wr, e, c'], by simp [rd_wr, e, d']⟩
    · exact (((kp.wr _ _ _ _ (by decide)).trans (kp.wr _ _ _ _ (by decide))).trans (kp.wr _ _ _ _ (by decide))).trans (kp.wr _ _ _ _ (by decide))
/-! change -/
def nvo (v w : Nat → Nat) (g i : Nat) : Nat := if w i = 0 then g else v i
def cng (v w : Nat → Nat) (g : Nat) : Nat → Nat
  | 0 => 0
  | k + 1 => cng v w g k + (if nvo v w g k = g then 1 else 0)
theorem cng_le (v w : Nat → Nat) (g k : Nat) : cng v w g k ≤ k := by
  induction k with
  | zero => exact Nat.le_refl _
  | succ k ih => rw [cng]; split <;> omega
def W44 (c : Nat) : Bool := c == 44 || c == 45
def W73 (c : Nat) : Bool := c == 73 || c == 74
def PCh (A B : Nat) (v w : Nat → Nat) (g : Nat) (W : Nat → Bool) (S : St) (i : Nat) (a : Int32 × St) : Prop :=
  a.1 = nI (cng v w g i) ∧ (∀ j, j < 6 → rd a.2 A j = nI (if j < i then nvo v w g j else v j) ∧ rd a.2 B j = nI (if j < i then w j - 1 else w j)) ∧ kp W S a.2
theorem PCh.step {A B : Nat} {v w : Nat → Nat} {g : Nat} {W : Nat → Bool} {S : St} {i : Nat} {a : Int32 × St} (hA : W A = true) (hB : W B = true) (hAB : A ≠ B) (hi : i < 6) (h : PCh A B v w g W S i a) :
    PCh A B v w g W S (i + 1) (nI (cng v w g (i + 1)), if w i = 0 then wr a.2 A i (nI g) else wr a.2 B i (nI (w i - 1))) := by
  obtain ⟨h1, h2, h3⟩ := h
  refine ⟨rfl, fun j hj => ?_, ?_⟩
  · obtain ⟨x, y⟩ := h2 j hj
    by_cases c : w i = 0
    · rw [if_pos c]
      by_cases e : j = i
      · subst e
        rw [if_pos (by omega), if_pos (by omega), nvo, if_pos c]
        refine ⟨by rw [rd_wr, if_pos ⟨rfl, rfl⟩], ?_⟩
        rw [rd_wr, if_neg (by omega), y, if_neg (by omega), c]
      · rw [rw_ne (Or.inr e), rw_ne (Or.inr e), x, y]
        by_cases d : j < i
        · rw [if_pos d, if_pos d, if_pos (by omega), if_pos (by omega)]; exact ⟨rfl, rfl⟩
        · rw [if_neg d, if_neg d, if_neg (by omega), if_neg (by omega)]; exact ⟨rfl, rfl⟩
    · rw [if_neg c]
      by_cases e : j = i
      · subst e
        rw [if_pos (by omega), if_pos (by omega), nvo, if_neg c]
        refine ⟨?_, by rw [rd_wr, if_pos ⟨rfl, rfl⟩]⟩
        rw [rd_wr, if_neg (by omega), x, if_neg (by omega)]
      · rw [rw_ne (Or.inr e), rw_ne (Or.inr e), x, y]
        by_cases d : j < i
        · rw [if_pos d, if_pos d, if_pos (by omega), if_pos (by omega)]; exact ⟨rfl, rfl⟩
        · rw [if_neg d, if_neg d, if_neg (by omega), if_neg (by omega)]; exact ⟨rfl, rfl⟩
  · by_cases c : w i = 0
    · simp only [if_pos c]; exact h3.trans (kp.wr _ _ _ _ hA)
    · simp only [if_neg c]; exact h3.trans (kp.wr _ _ _ _ hB)
theorem giveAll_ok {v w : Nat → Nat} {g : Nat} {S : St} (hv : ∀ i, i < 6 → v i < 4) (hw : ∀ i, i < 6 → w i ≤ 5) (hg : g < 4) (h : ∀ i, i < 6 → rd S 44 i = nI (v i) ∧ rd S 45 i = nI (w i)) :
    ∃ r S', f_X7_giveAll (nI g) S = some (r, S') ∧ PCh 44 45 v w g W44 S 6 (r, S') := by
  unfold f_X7_giveAll
  refine loopC (fun f (a : Int32 × St) i => f_X7_giveAll_L4 (fun x S => some (x, S)) (nI g) f a.1 (nI i) a.2) (fun x => ∃ r S', x = some (r, S') ∧ PCh 44 45 v w g W44 S 6 (r, S')) (PCh 44 45 v w g W44 S) 6 ?_ ?_ 6 0 FU (0, S) rfl (by decide) ⟨rfl, fun j hj => by rw [if_neg (by omega), if_neg (by omega)]; exact h j hj, kp.refl _ _⟩
  · intro f a ha
    exact ⟨a.1, a.2, by rw [f_X7_giveAll_L4, lit, if_pos (by rw [le_n (by decide) (by decide)]; exact Nat.le_refl _)], ha⟩
  · intro f a i hi ha
    have hs := ha.step (by decide) (by decide) (by decide) hi
    refine Or.inr ⟨_, ?_, hs⟩
    obtain ⟨h1, h2, h3⟩ := ha
    obtain ⟨x, y⟩ := h2 i hi
    rw [if_neg (by omega)] at x y
    have := hv i hi
    have := hw i hi
    rw [f_X7_giveAll_L4, lit, if_neg (by rw [le_n (by decide) (by omega)]; omega)]
    simp only [lt_eq, gd_t (inb_n hi (show 6 < 2147483648 by decide)), cl_n (show i < 2147483648 by omega), y, ← nI_0, le_n (show w i < 2147483648 by omega) (show 0 < 2147483648 by omega), h1]
    by_cases c : w i = 0
    · rw [if_pos (by omega), if_pos c, rw_eq, if_pos rfl, lit, plus_n, plus_n, cng, nvo, if_pos c, if_pos rfl]
    · rw [if_neg (by omega), if_neg c, rw_ne (by omega), x, lit, sub_n (by omega)]
      simp only [plus_n, cng, nvo, if_neg c, eq_n (show v i < 2147483648 by omega) (show g < 2147483648 by omega)]
      by_cases e : v i = g
      · rw [if_pos e, if_pos e]
      · simp only [if_neg e, Nat.add_zero]
theorem change_m {v w : Nat → Nat} {g : Nat} {S : St} (hv : ∀ i, i < 6 → v i < 4) (hw : ∀ i, i < 6 → w i ≤ 5) (hg : g < 4) (h : ∀ i, i < 6 → rd S 73 i = nI (v i) ∧ rd S 74 i = nI (w i)) :
    ∃ r S', f_X11_change_L16 (fun x S => some (x, S)) (nI g) FU (nI 0) (nI 0) S = some (r, S') ∧ PCh 73 74 v w g W73 S 6 (r, S') := by
  refine loopC (fun f (a : Int32 × St) i => f_X11_change_L16 (fun x S => some (x, S)) (nI g) f a.1 (nI i) a.2) (fun x => ∃ r S', x = some (r, S') ∧ PCh 73 74 v w g W73 S 6 (r, S')) (PCh 73 74 v w g W73 S) 6 ?_ ?_ 6 0 FU (nI 0, S) rfl (by decide) ⟨rfl, fun j hj => by rw [if_neg (by omega), if_neg (by omega)]; exact h j hj, kp.refl _ _⟩
  · intro f a ha
    exact ⟨a.1, a.2, by rw [f_X11_change_L16, lit, if_pos (by rw [le_n (by decide) (by decide)]; exact Nat.le_refl _)], ha⟩
  · intro f a i hi ha
    have hs := ha.step (by decide) (by decide) (by decide) hi
    refine Or.inr ⟨_, ?_, hs⟩
    obtain ⟨h1, h2, h3⟩ := ha
    obtain ⟨x, y⟩ := h2 i hi
    rw [if_neg (by omega)] at x y
    have := hv i hi
    have := hw i hi
    rw [f_X11_change_L16, lit, if_neg (by rw [le_n (by decide) (by omega)]; omega)]
    simp only [lt_eq, gd_t (inb_n hi (show 6 < 2147483648 by decide)), cl_n (show i < 2147483648 by omega), y, ← nI_0, le_n (show w i < 2147483648 by omega) (show 0 < 2147483648 by omega), h1]
    by_cases c : w i = 0
    · rw [if_pos (by omega), if_pos c, rw_eq, if_pos rfl, lit, plus_n, plus_n, cng, nvo, if_pos c, if_pos rfl]
    · rw [if_neg (by omega), if_neg c, rw_ne (by omega), x, lit, sub_n (by omega)]
      simp only [plus_n, cng, nvo, if_neg c, eq_n (show v i < 2147483648 by omega) (show g < 2147483648 by omega)]
      by_cases e : v i = g
      · rw [if_pos e, if_pos e]
      · rw [if_neg e, if_neg e]
theorem change_ok (v1 : Int32) {S : St} (hI : I_vox S) : ∃ r S1 S2, f_X10_change v1 S = some (r, S1) ∧ f_X11_change v1 S1 = some (r, S2) ∧ I_vox S2 ∧ kp W_vox S S2 := by
  unfold f_X10_change f_X11_change
  rcases bl v1 4 (by decide) (by decide) with h | ⟨g, hg, rfl, h⟩
  · exact ⟨-3, S, S, by rw [show f_X10_below v1 4 S = _ from (h S).1, bd_some, if_pos rfl], by rw [show f_X11_in v1 0 3 S = _ from (h S).2, bd_some, if_pos rfl], hI, kp.refl _ _⟩
  obtain ⟨r, S1, e1, a1, b1, k1⟩ := giveAll_ok (v := vo S) (w := wi S) (fun i hi => (hI.c hi).1) (fun i hi => (hI.c hi).2.1) hg (fun i hi => ⟨(hI.c hi).2.2.1, (hI.c hi).2.2.2.1⟩)
  obtain ⟨r2, S2, e2, a2, b2, k2⟩ := change_m (S := S1) (v := vo S) (w := wi S) (fun i hi => (hI.c hi).1) (fun i hi => (hI.c hi).2.1) hg (fun i hi => ⟨by rw [(k1 73 rfl).1]; exact (hI.c hi).2.2.2.2.1, by rw [(k1 74 rfl).1]; exact (hI.c hi).2.2.2.2.2⟩)
  refine ⟨r, S1, S2, ?_, ?_, ?_, ?_⟩
  · rw [show f_X10_below (nI g) 4 S = _ from (h S).1, bd_some, if_neg (by decide), e1, bd_some]
  · rw [show f_X11_in (nI g) 0 3 S1 = _ from (h S1).2, bd_some, if_neg (by decide)]
    rw [show r = r2 from a1.trans a2.symm]; exact e2
  · intro i hi
    obtain ⟨p, q, -⟩ := hI.c hi
    refine ⟨nvo (vo S) (wi S) g i, wi S i - 1, by unfold nvo; split <;> omega, by omega, ?_, ?_, ?_, ?_⟩
    · rw [(k2 44 rfl).1, (b1 i hi).1, if_pos hi]
    · rw [(k2 45 rfl).1, (b1 i hi).2, if_pos hi]
    · rw [(b2 i hi).1, if_pos hi]
    · rw [(b2 i hi).2, if_pos hi]
  · refine (k1.mono ?_).trans (k2.mono ?_)
    · intro c; unfold W_vox W44; cases c == 44 <;> cases c == 45 <;> simp
    · intro c; unfold W_vox W73; cases c == 73 <;> cases c == 74 <;> simp
