/-! ===== the law: what holds between two calls ===== -/
def dSt (c j : Nat) : Prop := (c = 43 ∧ (j = 7 ∨ j = 8)) ∨ (c = 900 ∧ j = 1) ∨ c = 47 ∨ (300 ≤ c ∧ c < 348) ∨ (75 ≤ c ∧ c ≤ 86) ∨ (c = 54 ∧ (j = 31 ∨ j = 32))
theorem byt_keep {S b : St} (h : I_byt S) (e : ∀ c j, wW c j → rd b c j = rd S c j) : I_byt b := by
  obtain ⟨n, h1, h2, h3, h4⟩ := h
  refine ⟨n, h1, by rw [e _ _ (by unfold wW; omega)]; exact h2, by rw [e _ _ (by unfold wW; omega)]; exact h3, fun i hi => ?_⟩
  obtain ⟨x, x1, x2, x3⟩ := h4 i hi
  exact ⟨x, x1, by rw [e _ _ (by unfold wW; omega)]; exact x2, by rw [e _ _ (by unfold wW; omega)]; exact x3⟩
theorem repC_c2 {S x y : St} {n T : Nat} {A : Ast} (hn : n ≤ 24) (h : repC S n T A x) (e : ∀ c j, dSt c j → rd y c j = rd x c j) : repC S n T A y := by
  obtain ⟨g1, g2, g3, g4, g5⟩ := h
  refine ⟨by rw [e _ _ (by unfold dSt; omega)]; exact g1, by rw [e _ _ (by unfold dSt; omega)]; exact g2, by unfold nC at g3 ⊢; rw [e _ _ (by unfold dSt; omega)]; exact g3, fun c hc => ?_, fun p hp => ?_⟩
  · have e0 : ∀ j, rd y (300 + 2 * c) j = rd x (300 + 2 * c) j := fun j => e _ _ (by unfold dSt; omega)
    have e1 : ∀ j, rd y (300 + 2 * c + 1) j = rd x (300 + 2 * c + 1) j := fun j => e _ _ (by unfold dSt; omega)
    simp only [e0, e1]
    exact g4 c hc
  · rw [e _ _ (by unfold dSt; omega)]; exact g5 p hp
theorem repM_c2 {x y : St} {n T : Nat} {A : Ast} (h : repM n T A x) (e : ∀ c j, dSt c j → rd y c j = rd x c j) : repM n T A y := by
  obtain ⟨g1, g2, g4⟩ := h
  refine ⟨by rw [e _ _ (by unfold dSt; omega)]; exact g1, by rw [e _ _ (by unfold dSt; omega)]; exact g2, fun c hc => ?_⟩
  have e0 : ∀ k j, 75 ≤ k → k ≤ 86 → rd y k j = rd x k j := fun k j h1 h2 => e _ _ (by unfold dSt; omega)
  rw [e0 81 _ (by omega) (by omega), e0 82 _ (by omega) (by omega), e0 83 _ (by omega) (by omega), e0 84 _ (by omega) (by omega), e0 85 _ (by omega) (by omega)]
  obtain ⟨z1, z2, z3, z4, z5⟩ := g4 c hc
  exact ⟨z1, z2, z3, z4, fun z => ⟨(z5 z).1, fun i hi => by rw [e0 86 _ (by omega) (by omega)]; exact (z5 z).2 i hi⟩⟩
theorem sta_keep {S b : St} (h : I_sta S) (hn : I_near b) (e : ∀ c j, dSt c j → rd b c j = rd S c j) (h18 : ∀ l, l < 8 → 0 < nv S 18 l → 0 < nv b 18 l) : I_sta b := by
  obtain ⟨-, n, T, A, n1, n2, n3, n4, n5, n6⟩ := h
  have ho : ∀ c, c < n → OKs b c ∧ pa b c = pa S c := fun c hc => OKs_cg (n3 c hc) (fun j _ => e _ _ (by unfold dSt; omega)) (fun k h1 h2 => e _ _ (by unfold dSt; omega)) (h18 _ (n3 c hc).2.1.1)
  have hp : ∀ c, c < n → pa b c = pa S c := fun c hc => (ho c hc).2
  exact ⟨hn, n, T, A, n1, n2, fun c hc => (ho c hc).1, wf_cg n4 hp, repC_c2 n1 (repC_cg n5 hp) e, repM_c2 n6 e⟩
def Inv (S : St) : Prop := I_pcs S ∧ I_cut S ∧ I_lex S ∧ I_byt S ∧ I_loud S ∧ I_vox S ∧ I_sta S
theorem Inv.of {S b : St} (h : Inv S) (hp : I_pcs b ∨ ∀ c j, pcA c j → rd b c j = rd S c j) (hc : I_cut b ∨ ∀ c j, (c = 3 ∧ j = 4) ∨ (c = 54 ∧ j = 7) → rd b c j = rd S c j)
    (hx : I_lex b ∨ ∀ c j, lexD c → rd b c j = rd S c j) (hb : I_byt b ∨ ∀ c j, wW c j → rd b c j = rd S c j) (hl : I_loud b ∨ ∀ c j, c = 53 ∨ c = 89 → rd b c j = rd S c j)
    (hv : I_vox b ∨ ∀ c j, c = 44 ∨ c = 45 ∨ c = 73 ∨ c = 74 → rd b c j = rd S c j) (hs : I_sta b ∨ ∀ c j, dSt c j ∨ c = 46 ∨ c = 72 ∨ c = 18 → rd b c j = rd S c j) : Inv b := by
  obtain ⟨i1, i2, i3, i4, i5, i6, i7⟩ := h
  refine ⟨?_, ?_, ?_, ?_, ?_, ?_, ?_⟩
  · rcases hp with h | h
    · exact h
    · exact sameP.I h i1
  · rcases hc with h | h
    · exact h
    · exact cut_of (h _ _ (by omega)) (h _ _ (by omega)) i2
  · rcases hx with h | h
    · exact h
    · exact i3.cg h
  · rcases hb with h | h
    · exact h
    · exact byt_keep i4 h
  · rcases hl with h | h
    · exact h
    · exact i5.fr (fun j => h _ _ (by omega)) (fun j => h _ _ (by omega))
  · rcases hv with h | h
    · exact h
    · exact i6.cg h
  · rcases hs with h | h
    · exact h
    · refine sta_keep i7 (near_cg i7.1 (fun j => h _ _ (by omega)) (fun j => h _ _ (by omega))) (fun c j z => h _ _ (Or.inl z)) (fun l _ z => ?_)
      have : nv b 18 l = nv S 18 l := by unfold nv; rw [h _ _ (by omega)]
      rw [this]; exact z
theorem kp.fr {W : Nat → Bool} {S b : St} (h : kp W S b) : fr (fun c _ => W c = true) S b := fun c j hc => (h c (by cases z : W c; rfl; exact absurd z hc)).1 j
theorem inv_pc {S b : St} (h : Inv S) (g : fr X_pc S b) (hp : I_pcs b) : Inv b :=
  h.of (Or.inl hp) (Or.inr (fun c j z => g _ _ (by unfold X_pc; omega))) (Or.inr (fun c j z => g _ _ (by unfold lexD at z; unfold X_pc; omega))) (Or.inr (fun c j z => g _ _ (by unfold wW at z; unfold X_pc; omega))) (Or.inr (fun c j z => g _ _ (by unfold X_pc; omega))) (Or.inr (fun c j z => g _ _ (by unfold X_pc; omega))) (Or.inr (fun c j z => g _ _ (by unfold dSt at z; unfold X_pc; omega)))
theorem inv_sd {S b : St} (h : Inv S) (g : fr Xsd S b)  : Inv b :=
  h.of (Or.inr (fun c j z => g _ _ (by unfold pcA pcD at z; unfold Xsd Xw Xm; omega))) (Or.inr (fun c j z => g _ _ (by unfold Xsd Xw Xm; omega))) (Or.inr (fun c j z => g _ _ (by unfold lexD at z; unfold Xsd Xw Xm; omega))) (Or.inr (fun c j z => g _ _ (by unfold wW at z; unfold Xsd Xw Xm; omega))) (Or.inr (fun c j z => g _ _ (by unfold Xsd Xw Xm; omega))) (Or.inr (fun c j z => g _ _ (by unfold Xsd Xw Xm; omega))) (Or.inr (fun c j z => g _ _ (by unfold dSt at z; unfold Xsd Xw Xm; omega)))
theorem inv_f {S b : St} (h : Inv S) (g : fr Xf S b)  : Inv b :=
  h.of (Or.inr (fun c j z => g _ _ (by unfold pcA pcD at z; unfold Xf Xt Xu; omega))) (Or.inr (fun c j z => g _ _ (by unfold Xf Xt Xu; omega))) (Or.inr (fun c j z => g _ _ (by unfold lexD at z; unfold Xf Xt Xu; omega))) (Or.inr (fun c j z => g _ _ (by unfold wW at z; unfold Xf Xt Xu; omega))) (Or.inr (fun c j z => g _ _ (by unfold Xf Xt Xu; omega))) (Or.inr (fun c j z => g _ _ (by unfold Xf Xt Xu; omega))) (Or.inr (fun c j z => g _ _ (by unfold dSt at z; unfold Xf Xt Xu; omega)))
theorem inv_sp {S b : St} (h : Inv S) (g : fr Xsp S b)  : Inv b :=
  h.of (Or.inr (fun c j z => g _ _ (by unfold pcA pcD at z; unfold Xsp Xsc Xsm; omega))) (Or.inr (fun c j z => g _ _ (by unfold Xsp Xsc Xsm; omega))) (Or.inr (fun c j z => g _ _ (by unfold lexD at z; unfold Xsp Xsc Xsm; omega))) (Or.inr (fun c j z => g _ _ (by unfold wW at z; unfold Xsp Xsc Xsm; omega))) (Or.inr (fun c j z => g _ _ (by unfold Xsp Xsc Xsm; omega))) (Or.inr (fun c j z => g _ _ (by unfold Xsp Xsc Xsm; omega))) (Or.inr (fun c j z => g _ _ (by unfold dSt at z; unfold Xsp Xsc Xsm; omega)))
theorem inv_jr {S b : St} (h : Inv S) (g : fr Xjr S b)  : Inv b :=
  h.of (Or.inr (fun c j z => g _ _ (by unfold pcA pcD at z; unfold Xjr Xsc Xsm Xw Xm; omega))) (Or.inr (fun c j z => g _ _ (by unfold Xjr Xsc Xsm Xw Xm; omega))) (Or.inr (fun c j z => g _ _ (by unfold lexD at z; unfold Xjr Xsc Xsm Xw Xm; omega))) (Or.inr (fun c j z => g _ _ (by unfold wW at z; unfold Xjr Xsc Xsm Xw Xm; omega))) (Or.inr (fun c j z => g _ _ (by unfold Xjr Xsc Xsm Xw Xm; omega))) (Or.inr (fun c j z => g _ _ (by unfold Xjr Xsc Xsm Xw Xm; omega))) (Or.inr (fun c j z => g _ _ (by unfold dSt at z; unfold Xjr Xsc Xsm Xw Xm; omega)))
theorem inv_call {S b : St} (h : Inv S) (g : fr X_call S b) (hs : I_sta b) : Inv b :=
  h.of (Or.inr (fun c j z => g _ _ (by unfold pcA pcD at z; unfold X_call; omega))) (Or.inr (fun c j z => g _ _ (by unfold X_call; omega))) (Or.inr (fun c j z => g _ _ (by unfold lexD at z; unfold X_call; omega))) (Or.inr (fun c j z => g _ _ (by unfold wW at z; unfold X_call; omega))) (Or.inr (fun c j z => g _ _ (by unfold X_call; omega))) (Or.inr (fun c j z => g _ _ (by unfold X_call; omega))) (Or.inl hs)
theorem inv_rn {S b : St} (h : Inv S) (g : fr Xrn S b) (hs : I_sta b) : Inv b :=
  h.of (Or.inr (fun c j z => g _ _ (by unfold pcA pcD at z; unfold Xrn XcC XcM Xsc Xsm Xw Xm; omega))) (Or.inr (fun c j z => g _ _ (by unfold Xrn XcC XcM Xsc Xsm Xw Xm; omega))) (Or.inr (fun c j z => g _ _ (by unfold lexD at z; unfold Xrn XcC XcM Xsc Xsm Xw Xm; omega))) (Or.inr (fun c j z => g _ _ (by unfold wW at z; unfold Xrn XcC XcM Xsc Xsm Xw Xm; omega))) (Or.inr (fun c j z => g _ _ (by unfold Xrn XcC XcM Xsc Xsm Xw Xm; omega))) (Or.inr (fun c j z => g _ _ (by unfold Xrn XcC XcM Xsc Xsm Xw Xm; omega))) (Or.inl hs)
theorem inv_rc {S b : St} (h : Inv S) (g : fr Xrc S b)  : Inv b :=
  h.of (Or.inr (fun c j z => g _ _ (by unfold pcA pcD at z; unfold Xrc Xsc Xsm; omega))) (Or.inr (fun c j z => g _ _ (by unfold Xrc Xsc Xsm; omega))) (Or.inr (fun c j z => g _ _ (by unfold lexD at z; unfold Xrc Xsc Xsm; omega))) (Or.inr (fun c j z => g _ _ (by unfold wW at z; unfold Xrc Xsc Xsm; omega))) (Or.inr (fun c j z => g _ _ (by unfold Xrc Xsc Xsm; omega))) (Or.inr (fun c j z => g _ _ (by unfold Xrc Xsc Xsm; omega))) (Or.inr (fun c j z => g _ _ (by unfold dSt at z; unfold Xrc Xsc Xsm; omega)))
theorem inv_wr {S b : St} (h : Inv S) (g : fr wW S b) (hb : I_byt b) : Inv b :=
  h.of (Or.inr (fun c j z => g _ _ (by unfold pcA pcD at z; unfold wW; omega))) (Or.inr (fun c j z => g _ _ (by unfold wW; omega))) (Or.inr (fun c j z => g _ _ (by unfold lexD at z; unfold wW; omega))) (Or.inl hb) (Or.inr (fun c j z => g _ _ (by unfold wW; omega))) (Or.inr (fun c j z => g _ _ (by unfold wW; omega))) (Or.inr (fun c j z => g _ _ (by unfold dSt at z; unfold wW; omega)))
theorem inv_td {S b : St} (h : Inv S) (g : fr Xtd S b) (hb : I_byt b) (hx : I_lex b) (hc : I_cut b) (hn : I_near b) (h18 : ∀ l, l < 8 → 0 < nv S 18 l → 0 < nv b 18 l) : Inv b :=
  h.of (Or.inr (fun c j z => g _ _ (by unfold pcA pcD at z; unfold Xtd Xt Xu XfC XdM; omega))) (Or.inl hc) (Or.inl hx) (Or.inl hb) (Or.inr (fun c j z => g _ _ (by unfold Xtd Xt Xu XfC XdM; omega))) (Or.inr (fun c j z => g _ _ (by unfold Xtd Xt Xu XfC XdM; omega)))
    (Or.inl (sta_keep h.2.2.2.2.2.2 hn (fun c j z => g _ _ (by unfold dSt at z; unfold Xtd Xt Xu XfC XdM; omega)) h18))
theorem W_pcs_i {c : Nat} : W_pcs c = true ↔ c = 60 ∨ (200 ≤ c ∧ c < 232) := by
  unfold W_pcs
  rw [Bool.or_eq_true, beq_iff_eq, decide_eq_true_iff]
theorem W_vox_i {c : Nat} : W_vox c = true ↔ c = 44 ∨ c = 45 ∨ c = 73 ∨ c = 74 := by
  unfold W_vox
  simp only [Bool.or_eq_true, beq_iff_eq, or_assoc]
theorem W_loud_i {c : Nat} : W_loud c = true ↔ c = 53 ∨ c = 89 := by
  unfold W_loud
  simp only [Bool.or_eq_true, beq_iff_eq]
theorem kp_fr {W : Nat → Bool} {X : Nat → Nat → Prop} {S b : St} (h : kp W S b) (hX : ∀ c j, W c = true → X c j) : fr X S b := h.fr.mono hX
def Xpp (c _ : Nat) : Prop := c = 60 ∨ (200 ≤ c ∧ c < 232)
def Xvv (c _ : Nat) : Prop := c = 44 ∨ c = 45 ∨ c = 73 ∨ c = 74
def Xll (c _ : Nat) : Prop := c = 53 ∨ c = 89
theorem inv_pp {S b : St} (h : Inv S) (g : fr Xpp S b) (hp : I_pcs b) : Inv b :=
  h.of (Or.inl hp) (Or.inr (fun c j z => g _ _ (by unfold Xpp; omega))) (Or.inr (fun c j z => g _ _ (by unfold lexD at z; unfold Xpp; omega))) (Or.inr (fun c j z => g _ _ (by unfold wW at z; unfold Xpp; omega))) (Or.inr (fun c j z => g _ _ (by unfold Xpp; omega))) (Or.inr (fun c j z => g _ _ (by unfold Xpp; omega))) (Or.inr (fun c j z => g _ _ (by unfold dSt at z; unfold Xpp; omega)))
theorem inv_vv {S b : St} (h : Inv S) (g : fr Xvv S b) (hv : I_vox b) : Inv b :=
  h.of (Or.inr (fun c j z => g _ _ (by unfold pcA pcD at z; unfold Xvv; omega))) (Or.inr (fun c j z => g _ _ (by unfold Xvv; omega))) (Or.inr (fun c j z => g _ _ (by unfold lexD at z; unfold Xvv; omega))) (Or.inr (fun c j z => g _ _ (by unfold wW at z; unfold Xvv; omega))) (Or.inr (fun c j z => g _ _ (by unfold Xvv; omega))) (Or.inl hv) (Or.inr (fun c j z => g _ _ (by unfold dSt at z; unfold Xvv; omega)))
theorem inv_ll {S b : St} (h : Inv S) (g : fr Xll S b) (hl : I_loud b) : Inv b :=
  h.of (Or.inr (fun c j z => g _ _ (by unfold pcA pcD at z; unfold Xll; omega))) (Or.inr (fun c j z => g _ _ (by unfold Xll; omega))) (Or.inr (fun c j z => g _ _ (by unfold lexD at z; unfold Xll; omega))) (Or.inr (fun c j z => g _ _ (by unfold wW at z; unfold Xll; omega))) (Or.inl hl) (Or.inr (fun c j z => g _ _ (by unfold Xll; omega))) (Or.inr (fun c j z => g _ _ (by unfold dSt at z; unfold Xll; omega)))
