/-! ===== loudness: crowd, understood, power ===== -/
def I_loud (S : St) : Prop := ∀ i, i < 16 → ∃ c, c ≤ 99 ∧ rd S 53 i = nI c ∧ rd S 89 i = nI c
theorem I_loud.fr {S S' : St} (h : I_loud S) (h1 : ∀ j, rd S' 53 j = rd S 53 j) (h2 : ∀ j, rd S' 89 j = rd S 89 j) : I_loud S' := fun i hi => by
  obtain ⟨c, a, b, d⟩ := h i hi
  exact ⟨c, a, by rw [h1]; exact b, by rw [h2]; exact d⟩
theorem needed_n {S : St} {a b c : Nat} (ha : a < 16) (hb : b < 16) (hc : c ≤ 99) (h : rd S 53 b = nI c) : f_X2_needed (nI a) (nI b) S = some (nI (11 + 3 * dst a b + c), S) := by
  unfold f_X2_needed
  rw [gd_t (inb_n hb (by decide)), mabs_n (by omega) (by omega), cl_n (by omega), h, lit, lit, mul_n, plus_n, plus_n]
theorem dst_lt {a b n : Nat} (ha : a < n) (hb : b < n) : dst a b < n := by unfold dst; omega
/-- what is understood: one step -/
def undS (S : St) (s v i : Nat) (t : Int32) : Int32 := if v < 11 + 3 * dst s i + (rd S 53 i).toNatClampNeg then t else t ||| ((1 : Int32) <<< (nI i &&& 31))
theorem understood_ok {S : St} (hI : I_loud S) {s v : Nat} (hs : s < 16) (hv : v < 1000) : ∃ r, f_X2_reached (nI s) (nI v) S = some (r, S) ∧ f_X11_understood_L29 (fun x S => some (x, S)) (nI s) (nI v) FU 0 0 S = some (r, S) := by
  have hc : ∀ i, i < 16 → (rd S 53 i).toNatClampNeg ≤ 99 ∧ rd S 53 i = nI (rd S 53 i).toNatClampNeg ∧ rd S 89 i = nI (rd S 53 i).toNatClampNeg := fun i hi => by
    obtain ⟨c, a, b, d⟩ := hI i hi
    rw [b, d, cl_n (by omega)]; exact ⟨a, rfl, rfl⟩
  obtain ⟨z, e1, -, e2⟩ := loopN (fun f (a : Int32) i => f_X2_reached_L5 (fun x S => some (x, S)) (nI s) (nI v) f a (nI i) S) (fun a => some (a, S)) (fun i a => undS S s v i a) (fun _ _ => True) 16
    (fun f a _ => by rw [f_X2_reached_L5, lit, if_pos (by rw [le_n (by decide) (by decide)]; exact Nat.le_refl _)])
    (fun f a i hi _ => by
      refine ⟨?_, trivial⟩
      obtain ⟨h1, h2, h3⟩ := hc i hi
      rw [f_X2_reached_L5, lit, if_neg (by rw [le_n (by decide) (by omega)]; omega), needed_n hs hi h1 h2, bd_some]
      have := dst_lt hs hi
      simp only [lt_eq, lt_n (show v < 2147483648 by omega) (show 11 + 3 * dst s i + (rd S 53 i).toNatClampNeg < 2147483648 by omega), lit, plus_n, undS]
      by_cases c : v < 11 + 3 * dst s i + (rd S 53 i).toNatClampNeg
      · rw [if_pos c, if_pos c]
      · rw [if_neg c, if_neg c]) 16 0 FU 0 rfl (by decide) trivial
  obtain ⟨z', e1', -, e2'⟩ := loopN (fun f (a : Int32) i => f_X11_understood_L29 (fun x S => some (x, S)) (nI s) (nI v) f a (nI i) S) (fun a => some (a, S)) (fun i a => undS S s v i a) (fun _ _ => True) 16
    (fun f a _ => by rw [f_X11_understood_L29, lit, if_pos (by rw [le_n (by decide) (by decide)]; exact Nat.le_refl _)])
    (fun f a i hi _ => by
      refine ⟨?_, trivial⟩
      obtain ⟨h1, h2, h3⟩ := hc i hi
      rw [f_X11_understood_L29, lit, if_neg (by rw [le_n (by decide) (by omega)]; omega), apart_n (by omega) (by omega), bd_some, gd_t (inb_n hi (by decide)), cl_n (by omega), h3]
      have := dst_lt hs hi
      simp only [lt_eq, undS]
      have e : (nI v - (3 : Int32) * nI (dst s i) - nI (rd S 53 i).toNatClampNeg ≤ 10) = (v < 11 + 3 * dst s i + (rd S 53 i).toNatClampNeg) := by
        apply propext
        rw [Int32.le_iff_toInt_le, lit, mul_n]
        have t1 : (nI v - nI (3 * dst s i)).toInt = (v : Int) - (3 * dst s i : Nat) := pk_sub_toInt (by omega) (by omega)
        have t2 : (nI v - nI (3 * dst s i) - nI (rd S 53 i).toNatClampNeg).toInt = (v : Int) - (3 * dst s i : Nat) - ((rd S 53 i).toNatClampNeg : Nat) := by
          rw [Int32.toInt_sub, t1, nI_toInt (by omega)]
          apply Int.bmod_eq_of_le <;> omega
        rw [t2, show (10 : Int32).toInt = 10 by decide]
        omega
      simp only [e]
      by_cases c : v < 11 + 3 * dst s i + (rd S 53 i).toNatClampNeg
      · rw [if_pos c, if_pos c, lit, lit, plus_n, show a ||| nI 0 = a by apply Int32.toBitVec_inj.mp; show a.toBitVec ||| 0#32 = _; simp]
      · rw [if_neg c, if_neg c, lit, plus_n]) 16 0 FU 0 rfl (by decide) trivial
  refine ⟨z, ?_, ?_⟩
  · unfold f_X2_reached; exact e2
  · rw [e1, ← e1']; exact e2'
