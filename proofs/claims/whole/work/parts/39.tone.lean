/-! ===== a new piece: its tones, its sounds ===== -/
theorem tone_0 (b e l : Nat) : tone b e l 0 = nI b := by
  unfold tone
  split
  · rfl
  · rw [nI_0, Int32.zero_mul, Int32.zero_div, Int32.add_zero]
theorem upd_eq (f : Nat → Int32) (i : Nat) (v : Int32) : upd f i v i = v := by simp [upd]
theorem upd_ne (f : Nat → Int32) (i j : Nat) (v : Int32) (h : j ≠ i) : upd f i v j = f j := by simp [upd, h]
theorem pcT_ok {b e l : Nat} (h1 : 1 ≤ l) (h8 : l ≤ 8) : ∃ t, pcT (nI l) (nI b) (nI e) = some t ∧ ∀ j, j < l → t j = tone b e l j := by
  unfold pcT
  refine loopC (fun f (a : Nat → Int32) i => pcL (nI l) (nI b) (nI e) f (nI i) a) (fun x => ∃ t, x = some t ∧ ∀ j, j < l → t j = tone b e l j) (fun i a => 1 ≤ i ∧ ∀ j, j < i → a j = tone b e l j) l ?_ ?_ (l - 1) 1 FU _ (by omega) (by unfold FU; omega) ⟨by omega, fun j hj => ?_⟩
  · intro f a ha
    exact ⟨a, by rw [pcL, if_pos (by rw [le_n (by omega) (by omega)]; exact Nat.le_refl _)], ha.2⟩
  · intro f a i hi ha
    refine Or.inr ⟨upd a i (tone b e l i), ?_, by omega, fun j hj => ?_⟩
    · rw [pcL, if_neg (by rw [le_n (by omega) (by omega)]; omega), if_neg (by rw [show (8 : Int32) = nI 8 from rfl, le_n (by omega) (by omega)]; omega), gd_t (by rw [show (1 : Int32) = nI 1 from rfl, sub_n h1, ← nI_0, eq_n (by omega) (by decide)]; omega), gd_t (inb_n (by omega) (by decide)), lt_eq, cl_n (by omega)]
      unfold tone
      rw [if_neg (by omega), show nI i + 1 = nI (i + 1) from plus_n i 1]
    · by_cases c : j = i
      · rw [c, upd_eq]
      · rw [upd_ne _ _ _ _ c]; exact ha.2 j (by omega)
  · have : j = 0 := by omega
    rw [this, tone_0]
    exact upd_eq _ _ _
theorem sndOf_ok (v : Int32) {l : Nat} (h8 : l ≤ 8) : sndOf v (nI l) = nI (v.toBitVec.toNat % 2 ^ (4 * l)) := by
  have hv : v = nI v.toBitVec.toNat := by
    apply Int32.toBitVec_inj.mp
    rw [nI_bv, BitVec.ofNat_toNat, BitVec.setWidth_eq]
  have hx : v.toBitVec.toNat < 4294967296 := v.toBitVec.isLt
  unfold sndOf
  by_cases c : l = 8
  · rw [if_pos (by rw [c]; decide), c, Nat.mod_eq_of_lt (show v.toBitVec.toNat < 2 ^ (4 * 8) from hx)]
    exact hv
  · have hm : ∀ l : Fin 8, ((1 : Int32) <<< (((4 : Int32) * nI l.1) &&& 31)) - (1 : Int32) = nI (2 ^ (4 * l.1) - 1) := by decide +kernel
    have hb : ∀ l : Fin 8, 2 ^ (4 * l.1) - 1 < 4294967296 := by decide +kernel
    rw [if_neg (by rw [show (8 : Int32) = nI 8 from rfl, le_n (by omega) (by omega)]; omega), hm ⟨l, by omega⟩]
    conv => lhs; lhs; rw [hv]
    rw [and_n hx (hb ⟨l, by omega⟩), Nat.and_two_pow_sub_one_eq_mod]
