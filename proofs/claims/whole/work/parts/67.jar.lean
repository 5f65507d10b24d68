/-! ===== jar: all words of a line ===== -/
theorem nib_w (x : Int32) {i : Nat} (h : i < 8) : nib (Int32.toInt64 x) i = x.toBitVec.toNat / 16 ^ i % 16 := by
  have e : (Int32.toInt64 x).toBitVec = x.toBitVec.signExtend 64 := rfl
  unfold nib
  rw [e]
  have hx := x.toBitVec.isLt
  have e2 : ∃ c, (x.toBitVec.signExtend 64).toNat = x.toBitVec.toNat + c * 4294967296 := by
    rw [BitVec.toNat_signExtend, BitVec.toNat_setWidth]
    cases x.toBitVec.msb
    · exact ⟨0, by simp only [Bool.false_eq_true, if_false]; omega⟩
    · exact ⟨4294967295, by simp only [if_true]; omega⟩
  obtain ⟨c, e2⟩ := e2
  rw [e2]
  generalize x.toBitVec.toNat = y at *
  have : i = 0 ∨ i = 1 ∨ i = 2 ∨ i = 3 ∨ i = 4 ∨ i = 5 ∨ i = 6 ∨ i = 7 := by omega
  rcases this with rfl | rfl | rfl | rfl | rfl | rfl | rfl | rfl
  · rw [show 16 ^ 0 = 1 from rfl]; omega
  · rw [show 16 ^ 1 = 16 from rfl]; omega
  · rw [show 16 ^ 2 = 256 from rfl]; omega
  · rw [show 16 ^ 3 = 4096 from rfl]; omega
  · rw [show 16 ^ 4 = 65536 from rfl]; omega
  · rw [show 16 ^ 5 = 1048576 from rfl]; omega
  · rw [show 16 ^ 6 = 16777216 from rfl]; omega
  · rw [show 16 ^ 7 = 268435456 from rfl]; omega
noncomputable def lsO (P : Pl) : Option Nat := @dite _ (∃ j, isL P j) (Classical.propDecidable _) (fun h => some h.choose) (fun _ => none)
theorem lsO_some {P : Pl} {j : Nat} (h : isL P j) : lsO P = some j := by
  have hh : ∃ j, isL P j := ⟨j, h⟩
  unfold lsO
  rw [dif_pos hh]
  exact congrArg some (hh.choose_spec.uniq h)
theorem lsO_none {P : Pl} (h : ∀ j, P j = 0) : lsO P = none := by
  unfold lsO
  rw [dif_neg]
  rintro ⟨j, hj⟩
  exact hj.1 (h j)
def rwd (S : St) (w i : Nat) : Nat := wx S w / 16 ^ i % 16
noncomputable def fw (S : St) (v w : Nat) : Option Nat := lsO (Tot S v (nv S 16 w) (rwd S w) (nv S 16 w))
def jarR (f : Nat → Option Nat) : List Nat → Nat → Int32
  | [], s => nI s
  | w :: ws, s => match f w with
    | none => -1
    | some j => jarR f ws (s + j)
theorem jarR_n {f : Nat → Option Nat} {w : Nat} {ws : List Nat} {s : Nat} (h : f w = none) : jarR f (w :: ws) s = -1 := by rw [jarR, h]
theorem jarR_s {f : Nat → Option Nat} {w : Nat} {ws : List Nat} {s j : Nat} (h : f w = some j) : jarR f (w :: ws) s = jarR f ws (s + j) := by rw [jarR, h]
theorem Xw_lex {S b : St} (h : fr Xw S b) : ∀ c j, lexD c → rd b c j = rd S c j := fun c j hc => h c j (by unfold lexD at hc; unfold Xw; omega)
theorem Xm_lex {S b : St} (h : fr Xm S b) : ∀ c j, lexD c → rd b c j = rd S c j := fun c j hc => h c j (by unfold lexD at hc; unfold Xm; omega)
theorem fw_cg {S b : St} (h1 : sameP S b) (h16 : nP S ≤ 16) (hct : ct b = ct S) (h2 : ∀ c j, lexD c → rd b c j = rd S c j) (v : Nat) : fw b v = fw S v := by
  funext w
  unfold fw
  rw [(lex_cg h2).1, Tot_cg h1 h16 hct]
  congr 2
  funext i
  unfold rwd
  rw [(lex_cg h2).2.1]
theorem jarC_ok {S : St} {v : Nat} {L : List Nat} (hI : I_pcs S) (hc : I_cut S) (hX : I_lex S) (hv : v < 4) (hL : L.length ≤ 16) (hw : ∀ w ∈ L, w < 32) (ht : wtold S L = true) (hS : hasL S 19 14 5 L) :
    ∃ S', f_X6_jarOfWords (nI v) S = some (jarR (fw S v) L 0, S') ∧ fr Xw S S' := by
  unfold f_X6_jarOfWords
  refine loopC (fun f (a : Nat × St) i => f_X6_jarOfWords_L5 (fun S17 => some ((-1 : Int32), S17)) (fun x18 S19 => some (x18, S19)) (nI v) f (nI a.1) (nI i) a.2) (fun y => ∃ S', y = some (jarR (fw S v) L 0, S') ∧ fr Xw S S')
    (fun i a => jarR (fw S v) (L.drop i) a.1 = jarR (fw S v) L 0 ∧ a.1 ≤ 5000 * i ∧ fr Xw S a.2) L.length ?_ ?_ L.length 0 FU (0, S) (by omega) (by unfold FU; omega) ⟨rfl, by omega, fr.refl _ _⟩
  · rintro f ⟨s, a⟩ ⟨h1, h2, h3⟩
    have e1 : rd a 14 5 = nI L.length := by rw [h3 _ _ (by unfold Xw; omega)]; exact hS.1
    rw [List.drop_length, jarR] at h1
    refine ⟨a, ?_, h3⟩
    show f_X6_jarOfWords_L5 _ _ _ _ _ _ _ = _
    rw [f_X6_jarOfWords_L5, ← h1]
    simp (disch := omega) only [md_n, lt_eq, bd_some, gN, gN2, le_T, le_F, lt_T, lt_F, eq_T, eq_F, cN, plus_n, mul_n, rem_n, div_n, sub_n, re_T, re_F, rl_wr, rd_wl, ne_m1, m1_ne, m1_lt, m1_le, m1_ge, m1_gt, m1_refl, ↓reduceIte, L0, L1, L2, L3, L4, L5, L6, L7, L8, L9, L10, L11, L15, L16, L17, L18, L20, L24, L26, L28, L31, L32, L35, L36, L48, L57, L59, L63, L64, L96, L97, L99, L100, L112, L122, L128, L200, L255, L256, L1000, L1024, L2000, L3000, L1000000, L1000000007, e1]
  · rintro f ⟨s, a⟩ i hi ⟨h1, h2, h3⟩
    replace h2 : s ≤ 5000 * i := h2
    have e1 : rd a 14 5 = nI L.length := by rw [h3 _ _ (by unfold Xw; omega)]; exact hS.1
    have e2 : rd a 19 i = nI (L.getD i 0) := by rw [h3 _ _ (by unfold Xw; omega)]; exact hS.2 i hi
    have hwi := hw _ (mem_at hi)
    have hk := hX.1 _ hwi
    have hti := told_at ht hi
    have h15 : rd a 15 (L.getD i 0) = nI (wx S (L.getD i 0)) := by rw [h3 _ _ (by unfold Xw; omega)]; exact hk.x.2
    have h16 : rd a 16 (L.getD i 0) = nI (nv S 16 (L.getD i 0)) := by rw [h3 _ _ (by unfold Xw; omega)]; exact hk.1
    have h8 := hk.2.1
    rw [drop_at hi] at h1
    have hs := Xw_same h3
    have hIa := hs.I hI
    obtain ⟨b, o1, o2, o3, -⟩ := weigh_ok (S := a) (v := v) (n := nv S 16 (L.getD i 0)) (x := Int32.toInt64 (nI (wx S (L.getD i 0)))) (r := rwd S (L.getD i 0)) hIa (Xw_cut h3 hc) hv hti (by omega) (fun j => Nat.mod_lt _ (by decide)) (fun j hj => by rw [nib_w _ (by omega), pk_tn (show wx S (L.getD i 0) < 2 ^ 32 from hk.x.1)]; rfl)
    rw [Tot_cg hs hI.1 (Xw_ct h3)] at o3
    have hfr : fr Xw S b := h3.trans o2.1
    rcases o3 with ⟨p1, p2, p3⟩ | ⟨j, p1, p2, p3, p4⟩
    · left
      rw [jarR_n (show fw S v (L.getD i 0) = none from lsO_none p1)] at h1
      refine ⟨b, ?_, hfr⟩
      show f_X6_jarOfWords_L5 _ _ _ _ _ _ _ = _
      rw [f_X6_jarOfWords_L5, ← h1]
      simp (disch := omega) only [md_n, lt_eq, bd_some, gN, gN2, le_T, le_F, lt_T, lt_F, eq_T, eq_F, cN, plus_n, mul_n, rem_n, div_n, sub_n, re_T, re_F, rl_wr, rd_wl, ne_m1, m1_ne, m1_lt, m1_le, m1_ge, m1_gt, m1_refl, ↓reduceIte, L0, L1, L2, L3, L4, L5, L6, L7, L8, L9, L10, L11, L15, L16, L17, L18, L20, L24, L26, L28, L31, L32, L35, L36, L48, L57, L59, L63, L64, L96, L97, L99, L100, L112, L122, L128, L200, L255, L256, L1000, L1024, L2000, L3000, L1000000, L1000000007, e1, e2, h15, h16, o1, p2]
    · right
      rw [jarR_s (show fw S v (L.getD i 0) = some j from lsO_some p2)] at h1
      refine ⟨(s + j, b), ?_, h1, by show s + j ≤ _; omega, hfr⟩
      show f_X6_jarOfWords_L5 _ _ _ _ _ _ _ = _
      rw [f_X6_jarOfWords_L5]
      simp (disch := omega) only [md_n, lt_eq, bd_some, gN, gN2, le_T, le_F, lt_T, lt_F, eq_T, eq_F, cN, plus_n, mul_n, rem_n, div_n, sub_n, re_T, re_F, rl_wr, rd_wl, ne_m1, m1_ne, m1_lt, m1_le, m1_ge, m1_gt, m1_refl, ↓reduceIte, L0, L1, L2, L3, L4, L5, L6, L7, L8, L9, L10, L11, L15, L16, L17, L18, L20, L24, L26, L28, L31, L32, L35, L36, L48, L57, L59, L63, L64, L96, L97, L99, L100, L112, L122, L128, L200, L255, L256, L1000, L1024, L2000, L3000, L1000000, L1000000007, e1, e2, h15, h16, o1, p3]
theorem jarOf_ok {S b : St} {v w : Nat} (hI : I_pcs S) (hc : I_cut S) (hX : I_lex S) (hv : v < 4) (hw : w < 32) (hw1 : 1 ≤ nv S 16 w) (hf : fr Xm S b) : ∃ J b', f_X11_jarOf (nI w) (nI v) b = some (J, b') ∧ fr Xm S b' ∧ ((fw S v w = none ∧ J = nI 1000000) ∨ ∃ j, fw S v w = some j ∧ j ≤ 5000 ∧ J = nI j) := by
  obtain ⟨w1, w2, w3, w4, w5⟩ := hX.1 w hw
  unfold f_X11_jarOf
  refine loopC (fun f (a : St) i => f_X11_jarOf_L2 _ (nI w) (nI v) f (nI i) a) (fun y => ∃ J b', y = some (J, b') ∧ fr Xm S b' ∧ ((fw S v w = none ∧ J = nI 1000000) ∨ ∃ j, fw S v w = some j ∧ j ≤ 5000 ∧ J = nI j)) (fun i a => fr Xm S a ∧ ∀ m, m < i → rd a 63 m = nI (rwd S w m)) (nv S 16 w) ?_ ?_ (nv S 16 w) 0 FU b (by omega) (by unfold FU; omega) ⟨hf, fun m hm => by omega⟩
  · intro f a ⟨h1, h2⟩
    have e1 : rd a 67 w = nI (nv S 16 w) := by rw [h1 _ _ (by unfold Xm; omega)]; exact w3
    obtain ⟨k, hk⟩ : ∃ k, nv S 16 w = k + 1 := ⟨nv S 16 w - 1, by omega⟩
    obtain ⟨a2, o1, o2, o3⟩ := layOut_ok (S := S) (b := a) (v := v) (n := nv S 16 w) (r := rwd S w) hI hc hv h1 hw1 (by omega) h2 (fun j => Nat.mod_lt _ (by decide))
    have h54 : rd a2 54 0 = nI (nP S) := by rw [o2 _ _ (by omega), h1 _ _ (by unfold Xm; omega)]; exact hI.2.2.1
    have o4 := o3 0 (by omega)
    rw [hk] at o4
    obtain ⟨J, d1, d2⟩ := leastOf_ok (S := S) (b := a2) (v := v) (k := k) (r := rwd S w) hI (by omega) h54 o4
    have hfwd : fw S v w = lsO (Tot S v (k + 1) (rwd S w) (k + 1)) := by unfold fw; rw [hk]
    refine ⟨J, a2, ?_, h1.trans (o2.mono (fun c j h => by unfold Xm; omega)), ?_⟩
    · show f_X11_jarOf_L2 _ _ _ _ _ _ = _
      rw [f_X11_jarOf_L2]
      simp (disch := omega) only [md_n, lt_eq, bd_some, gN, gN2, le_T, le_F, lt_T, lt_F, eq_T, eq_F, cN, plus_n, mul_n, rem_n, div_n, sub_n, re_T, re_F, rl_wr, rd_wl, ne_m1, m1_ne, m1_lt, m1_le, m1_ge, m1_gt, m1_refl, ↓reduceIte, L0, L1, L2, L3, L4, L5, L6, L7, L8, L9, L10, L11, L15, L16, L17, L18, L20, L24, L26, L28, L31, L32, L35, L36, L48, L57, L59, L63, L64, L96, L97, L99, L100, L112, L122, L128, L200, L255, L256, L1000, L1024, L2000, L3000, L1000000, L1000000007, e1, o1, d1]
    · rw [hfwd]
      rcases d2 with ⟨q1, q2⟩ | ⟨j, q1, q2, q3⟩
      · exact Or.inl ⟨lsO_none q1, q2⟩
      · exact Or.inr ⟨j, lsO_some q2, by omega, q3⟩
  · intro f a i hi ⟨h1, h2⟩
    have e1 : rd a 67 w = nI (nv S 16 w) := by rw [h1 _ _ (by unfold Xm; omega)]; exact w3
    have e2 : rd a 68 (8 * w + i) = nI (rwd S w i) := by rw [h1 _ _ (by unfold Xm; omega)]; exact w5 i hi
    refine Or.inr ⟨wr a 63 i (nI (rwd S w i)), ?_, h1.wr (by unfold Xm; omega), fun m hm => ?_⟩
    · show f_X11_jarOf_L2 _ _ _ _ _ _ = _
      rw [f_X11_jarOf_L2]
      simp (disch := omega) only [md_n, lt_eq, bd_some, gN, gN2, le_T, le_F, lt_T, lt_F, eq_T, eq_F, cN, plus_n, mul_n, rem_n, div_n, sub_n, re_T, re_F, rl_wr, rd_wl, ne_m1, m1_ne, m1_lt, m1_le, m1_ge, m1_gt, m1_refl, ↓reduceIte, L0, L1, L2, L3, L4, L5, L6, L7, L8, L9, L10, L11, L15, L16, L17, L18, L20, L24, L26, L28, L31, L32, L35, L36, L48, L57, L59, L63, L64, L96, L97, L99, L100, L112, L122, L128, L200, L255, L256, L1000, L1024, L2000, L3000, L1000000, L1000000007, e1, e2]
    · by_cases c : m = i
      · subst c; rw [rw_eq]
      · rw [rw_ne (Or.inr c)]; exact h2 m (by omega)
theorem jarM_ok {S : St} {v : Nat} {L : List Nat} (hI : I_pcs S) (hc : I_cut S) (hX : I_lex S) (hv : v < 4) (hL : L.length ≤ 16) (hw : ∀ w ∈ L, w < 32) (ht : wtold S L = true) (hS : hasL S 71 54 26 L) :
    ∃ S', f_X11_jarOfAll (nI v) S = some (jarR (fw S v) L 0, S') ∧ fr Xm S S' := by
  unfold f_X11_jarOfAll
  refine loopC (fun f (a : Nat × St) i => f_X11_jarOfAll_L4 (fun S11 => some ((-1 : Int32), S11)) (fun x12 S13 => some (x12, S13)) (nI v) f (nI a.1) (nI i) a.2) (fun y => ∃ S', y = some (jarR (fw S v) L 0, S') ∧ fr Xm S S')
    (fun i a => jarR (fw S v) (L.drop i) a.1 = jarR (fw S v) L 0 ∧ a.1 ≤ 5000 * i ∧ fr Xm S a.2) L.length ?_ ?_ L.length 0 FU (0, S) (by omega) (by unfold FU; omega) ⟨rfl, by omega, fr.refl _ _⟩
  · rintro f ⟨s, a⟩ ⟨h1, h2, h3⟩
    have e1 : rd a 54 26 = nI L.length := by rw [h3 _ _ (by unfold Xm; omega)]; exact hS.1
    rw [List.drop_length, jarR] at h1
    refine ⟨a, ?_, h3⟩
    show f_X11_jarOfAll_L4 _ _ _ _ _ _ _ = _
    rw [f_X11_jarOfAll_L4, ← h1]
    simp (disch := omega) only [md_n, lt_eq, bd_some, gN, gN2, le_T, le_F, lt_T, lt_F, eq_T, eq_F, cN, plus_n, mul_n, rem_n, div_n, sub_n, re_T, re_F, rl_wr, rd_wl, ne_m1, m1_ne, m1_lt, m1_le, m1_ge, m1_gt, m1_refl, ↓reduceIte, L0, L1, L2, L3, L4, L5, L6, L7, L8, L9, L10, L11, L15, L16, L17, L18, L20, L24, L26, L28, L31, L32, L35, L36, L48, L57, L59, L63, L64, L96, L97, L99, L100, L112, L122, L128, L200, L255, L256, L1000, L1024, L2000, L3000, L1000000, L1000000007, e1]
  · rintro f ⟨s, a⟩ i hi ⟨h1, h2, h3⟩
    replace h2 : s ≤ 5000 * i := h2
    have e1 : rd a 54 26 = nI L.length := by rw [h3 _ _ (by unfold Xm; omega)]; exact hS.1
    have e2 : rd a 71 i = nI (L.getD i 0) := by rw [h3 _ _ (by unfold Xm; omega)]; exact hS.2 i hi
    rw [drop_at hi] at h1
    obtain ⟨J, b, o1, o2, o3⟩ := jarOf_ok hI hc hX hv (hw _ (mem_at hi)) (told_at ht hi) h3
    rcases o3 with ⟨p1, rfl⟩ | ⟨j, p1, p2, rfl⟩
    · left
      rw [jarR_n p1] at h1
      refine ⟨b, ?_, o2⟩
      show f_X11_jarOfAll_L4 _ _ _ _ _ _ _ = _
      rw [f_X11_jarOfAll_L4, ← h1]
      simp (disch := omega) only [md_n, lt_eq, bd_some, gN, gN2, le_T, le_F, lt_T, lt_F, eq_T, eq_F, cN, plus_n, mul_n, rem_n, div_n, sub_n, re_T, re_F, rl_wr, rd_wl, ne_m1, m1_ne, m1_lt, m1_le, m1_ge, m1_gt, m1_refl, ↓reduceIte, L0, L1, L2, L3, L4, L5, L6, L7, L8, L9, L10, L11, L15, L16, L17, L18, L20, L24, L26, L28, L31, L32, L35, L36, L48, L57, L59, L63, L64, L96, L97, L99, L100, L112, L122, L128, L200, L255, L256, L1000, L1024, L2000, L3000, L1000000, L1000000007, e1, e2, o1]
    · right
      rw [jarR_s p1] at h1
      refine ⟨(s + j, b), ?_, h1, by show s + j ≤ _; omega, o2⟩
      show f_X11_jarOfAll_L4 _ _ _ _ _ _ _ = _
      rw [f_X11_jarOfAll_L4]
      simp (disch := omega) only [md_n, lt_eq, bd_some, gN, gN2, le_T, le_F, lt_T, lt_F, eq_T, eq_F, cN, plus_n, mul_n, rem_n, div_n, sub_n, re_T, re_F, rl_wr, rd_wl, ne_m1, m1_ne, m1_lt, m1_le, m1_ge, m1_gt, m1_refl, ↓reduceIte, L0, L1, L2, L3, L4, L5, L6, L7, L8, L9, L10, L11, L15, L16, L17, L18, L20, L24, L26, L28, L31, L32, L35, L36, L48, L57, L59, L63, L64, L96, L97, L99, L100, L112, L122, L128, L200, L255, L256, L1000, L1024, L2000, L3000, L1000000, L1000000007, e1, e2, o1]
def Xj (c j : Nat) : Prop := Xsc c j ∨ Xw c j
def Xk (c j : Nat) : Prop := Xsm c j ∨ Xm c j
theorem Xsc_same {S b : St} (h : fr Xsc S b) : sameP S b := fun c j hc => h c j (by unfold pcA pcD at hc; unfold Xsc; omega)
theorem Xsm_same {S b : St} (h : fr Xsm S b) : sameP S b := fun c j hc => h c j (by unfold pcA pcD at hc; unfold Xsm; omega)
theorem ct_of {S b : St} (h : rd b 3 4 = rd S 3 4) : ct b = ct S := by unfold ct nv; rw [h]
theorem cut_of {S b : St} (h : rd b 3 4 = rd S 3 4) (h2 : rd b 54 7 = rd S 54 7) (hc : I_cut S) : I_cut b := by
  unfold I_cut; rw [ct_of h, h, h2]; exact hc
/-- class: the line is spelled, then its words are weighed -/
theorem speakC {S : St} {l v y : Nat} (hI : I_pcs S) (hc : I_cut S) (hX : I_lex S) (hl : l < 8) (hv : v < 100) (hy : y < 4) :
    ∃ S1, f_X1_spell (nI l) (nI v) S = some (bI (wtold S (spk S l v)), S1) ∧ fr Xsc S S1 ∧ hasL S1 19 14 5 (spk S l v) ∧ (wtold S (spk S l v) = true → ∃ S2, f_X6_jarOfWords (nI y) S1 = some (jarR (fw S y) (spk S l v) 0, S2) ∧ fr Xw S1 S2) := by
  obtain ⟨S1, a1, a2, a3⟩ := spell_ok hX hl hv
  obtain ⟨f1, f2, f3, f4⟩ := spk_facts hX hl hv
  refine ⟨S1, a1, a3, a2, fun ht => ?_⟩
  have hs := Xsc_same a3
  have hx := Xsc_lex a3
  have h34 : rd S1 3 4 = rd S 3 4 := a3 _ _ (by unfold Xsc; omega)
  obtain ⟨S2, b1, b2⟩ := jarC_ok (hs.I hI) (cut_of h34 (a3 _ _ (by unfold Xsc; omega)) hc) (hX.cg hx) hy f1 f3 (by rw [wtold_cg hx]; exact ht) a2
  rw [fw_cg hs hI.1 (ct_of h34) hx] at b1
  exact ⟨S2, b1, b2⟩
theorem speakM {S : St} {l v y : Nat} (hI : I_pcs S) (hc : I_cut S) (hX : I_lex S) (hl : l < 8) (hv : v < 100) (hy : y < 4) :
    ∃ S1, f_X11_canSpeak (nI l) (nI v) S = some (bI (wtold S (spk S l v)), S1) ∧ fr Xsm S S1 ∧ hasL S1 71 54 26 (spk S l v) ∧ (wtold S (spk S l v) = true → ∃ S2, f_X11_jarOfAll (nI y) S1 = some (jarR (fw S y) (spk S l v) 0, S2) ∧ fr Xm S1 S2) := by
  obtain ⟨S1, a1, a2, a3⟩ := canSpeak_ok hX hl hv
  obtain ⟨f1, f2, f3, f4⟩ := spk_facts hX hl hv
  refine ⟨S1, a1, a3, a2, fun ht => ?_⟩
  have hs := Xsm_same a3
  have hx := Xsm_lex a3
  have h34 : rd S1 3 4 = rd S 3 4 := a3 _ _ (by unfold Xsm; omega)
  obtain ⟨S2, b1, b2⟩ := jarM_ok (hs.I hI) (cut_of h34 (a3 _ _ (by unfold Xsm; omega)) hc) (hX.cg hx) hy f1 f3 (by rw [wtold_cg hx]; exact ht) a2
  rw [fw_cg hs hI.1 (ct_of h34) hx] at b1
  exact ⟨S2, b1, b2⟩
def Xjr (c j : Nat) : Prop := Xsc c j ∨ Xw c j ∨ Xsm c j ∨ Xm c j
theorem jar_all (v1 v2 v3 : Int32) {S : St} (hI : I_pcs S) (hc : I_cut S) (hX : I_lex S) : ∃ r S1 S2, f_X10_jar v1 v2 v3 S = some (r, S1) ∧ f_X11_jar v1 v2 v3 S1 = some (r, S2) ∧ fr Xjr S S2 := by
  unfold f_X10_jar f_X11_jar
  rcases knows_ok v1 hX with h | ⟨l, hl, rfl, hl0, h⟩
  · obtain ⟨h1, h2⟩ := h S (fun _ => rfl) (fun _ => rfl)
    exact ⟨-2, S, S, by rw [h1]; rfl, by rw [h2]; rfl, fr.refl _ _⟩
  obtain ⟨h1, h1'⟩ := h S (fun _ => rfl) (fun _ => rfl)
  rw [h1, bd_some, if_neg (by decide)]
  rcases bl v2 100 (by decide) (by decide) with g | ⟨v, hv, rfl, g⟩
  · exact ⟨-3, S, S, by rw [show f_X10_below v2 100 S = _ from (g S).1]; rfl, by rw [h1', bd_some, if_neg (by decide), show f_X11_in v2 0 99 S = _ from (g S).2]; rfl, fr.refl _ _⟩
  rw [show f_X10_below (nI v) 100 S = _ from (g S).1, bd_some, if_neg (by decide)]
  rcases bl v3 4 (by decide) (by decide) with w | ⟨y, hy, rfl, w⟩
  · exact ⟨-3, S, S, by rw [show f_X10_below v3 4 S = _ from (w S).1]; rfl, by rw [h1', bd_some, if_neg (by decide), show f_X11_in (nI v) 0 99 S = _ from (g S).2, bd_some, if_neg (by decide), show f_X11_in v3 0 3 S = _ from (w S).2]; rfl, fr.refl _ _⟩
  rw [show f_X10_below (nI y) 4 S = _ from (w S).1, bd_some, if_neg (by decide)]
  obtain ⟨S1, a1, a2, a3, a4⟩ := speakC hI hc hX hl hv hy
  rw [a1, bd_some]
  by_cases ht : wtold S (spk S l v) = true
  · obtain ⟨S2, b1, b2⟩ := a4 ht
    have hf : fr Xj S S2 := (a2.mono (fun _ _ h => Or.inl h)).trans (b2.mono (fun _ _ h => Or.inr h))
    have hs : sameP S S2 := fun c j hc => hf c j (by unfold pcA pcD at hc; unfold Xj Xsc Xw; omega)
    have hx : ∀ c j, lexD c → rd S2 c j = rd S c j := fun c j hc => hf c j (by unfold lexD at hc; unfold Xj Xsc Xw; omega)
    have h34 : rd S2 3 4 = rd S 3 4 := hf _ _ (by unfold Xj Xsc Xw; omega)
    have h547 : rd S2 54 7 = rd S 54 7 := hf _ _ (by unfold Xj Xsc Xw; omega)
    obtain ⟨S3, c1, c2, c3, c4⟩ := speakM (hs.I hI) (cut_of h34 h547 hc) (hX.cg hx) hl hv hy
    rw [spk_cg hx, wtold_cg hx, fw_cg hs hI.1 (ct_of h34) hx] at c4
    rw [spk_cg hx, wtold_cg hx] at c1
    obtain ⟨S4, d1, d2⟩ := c4 ht
    obtain ⟨-, h2⟩ := h S2 (fun j => hx 18 j (by unfold lexD; omega)) (fun j => hx 69 j (by unfold lexD; omega))
    refine ⟨jarR (fw S y) (spk S l v) 0, S2, S4, ?_, ?_, ((hf.mono (fun _ _ h => h.elim Or.inl (fun h => Or.inr (Or.inl h)))).trans (c2.mono (fun _ _ h => Or.inr (Or.inr (Or.inl h))))).trans (d2.mono (fun _ _ h => Or.inr (Or.inr (Or.inr h))))⟩
    · rw [ht, if_neg (by decide), b1, bd_some]
    · rw [h2, bd_some, if_neg (by decide), show f_X11_in (nI v) 0 99 S2 = _ from (g S2).2, bd_some, if_neg (by decide), show f_X11_in (nI y) 0 3 S2 = _ from (w S2).2, bd_some, if_neg (by decide), c1, bd_some, ht, if_neg (by decide), d1, bd_some]
  · have hx := Xsc_lex a2
    obtain ⟨S3, c1, c2, c3⟩ := canSpeak_ok (hX.cg hx) hl hv
    rw [spk_cg hx, wtold_cg hx] at c1
    obtain ⟨-, h2⟩ := h S1 (fun j => hx 18 j (by unfold lexD; omega)) (fun j => hx 69 j (by unfold lexD; omega))
    refine ⟨-4, S1, S3, ?_, ?_, (a2.mono (fun _ _ h => Or.inl h)).trans (c3.mono (fun _ _ h => Or.inr (Or.inr (Or.inl h))))⟩
    · rw [Bool.eq_false_iff.mpr ht]; rfl
    · rw [h2, bd_some, if_neg (by decide), show f_X11_in (nI v) 0 99 S1 = _ from (g S1).2, bd_some, if_neg (by decide), show f_X11_in (nI y) 0 3 S1 = _ from (w S1).2, bd_some, if_neg (by decide), c1, bd_some, Bool.eq_false_iff.mpr ht]; rfl
