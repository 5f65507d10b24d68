/-! ===== run, heard, speaks ===== -/
def I_sta (S : St) : Prop := I_near S ∧ ∃ n T A, n ≤ 24 ∧ T ≤ 2000 ∧ (∀ c, c < n → OKs S c) ∧ wf S n A ∧ repC S n T A S ∧ repM n T A S
theorem OKs_cg {S b : St} {c : Nat} (h : OKs S c) (h0 : ∀ j, j < 6 → rd b (300 + 2 * c) j = rd S (300 + 2 * c) j) (h1 : ∀ k, 75 ≤ k → k ≤ 80 → rd b k c = rd S k c) (h18 : 0 < nv S 18 (li S c) → 0 < nv b 18 (li S c)) : OKs b c ∧ pa b c = pa S c := by
  have e1 : pa b c = pa S c := by unfold pa nv; rw [h0 0 (by omega)]
  have e2 : li b c = li S c := by unfold li nv; rw [h0 1 (by omega)]
  have e3 : nu b c = nu S c := by unfold nu nv; rw [h0 2 (by omega)]
  have e4 : da b c = da S c := by unfold da; rw [h0 3 (by omega)]
  have e5 : re b c = re S c := by unfold re nv; rw [h0 4 (by omega)]
  have e6 : sl b c = sl S c := by unfold sl nv; rw [h0 5 (by omega)]
  refine ⟨?_, e1⟩
  unfold OKs at h ⊢
  rw [e1, e2, e3, e4, e5, e6, h0 0 (by omega), h0 1 (by omega), h0 2 (by omega), h0 3 (by omega), h0 4 (by omega), h0 5 (by omega), h1 75 (by omega) (by omega), h1 76 (by omega) (by omega), h1 77 (by omega) (by omega), h1 78 (by omega) (by omega), h1 79 (by omega) (by omega), h1 80 (by omega) (by omega)]
  exact ⟨h.1, ⟨h.2.1.1, h.2.1.2.1, h.2.1.2.2.1, h18 h.2.1.2.2.2⟩, h.2.2⟩
theorem near_cg {S b : St} (h : I_near S) (h1 : ∀ j, rd b 46 j = rd S 46 j) (h2 : ∀ j, rd b 72 j = rd S 72 j) : I_near b := by
  intro p hp
  have e1 : nv b 46 p = nv S 46 p := by unfold nv; rw [h1]
  have e2 : nv b 72 p = nv S 72 p := by unfold nv; rw [h2]
  rw [e1, e2, h1, h2]
  exact h p hp
theorem wf_cg {S b : St} {n : Nat} {A : Ast} (h : wf S n A) (hp : ∀ c, c < n → pa b c = pa S c) : wf b n A :=
  ⟨h.1, fun c d hc hd e1 e2 e3 => h.2 c d hc hd e1 e2 (by rw [← hp c hc, ← hp d hd]; exact e3)⟩
theorem repC_cg {S b x : St} {n T : Nat} {A : Ast} (h : repC S n T A x) (hp : ∀ c, c < n → pa b c = pa S c) : repC b n T A x := by
  obtain ⟨g1, g2, g3, g4, g5⟩ := h
  refine ⟨g1, g2, g3, g4, fun p hpp => ?_⟩
  rcases g5 p hpp with ⟨c, c1, c2, c3, c4⟩ | ⟨c1, c2⟩
  · exact Or.inl ⟨c, c1, c2, by rw [hp c c1]; exact c3, c4⟩
  · exact Or.inr ⟨fun c hc hz => by rw [hp c hc]; exact c1 c hc hz, c2⟩
/-- the same calls in another state -/
def sameC (S b : St) (n : Nat) : Prop := (∀ c, c < n → pa b c = pa S c ∧ da b c = da S c ∧ re b c = re S c ∧ sl b c = sl S c ∧ mu b c = mu S c) ∧ ∀ p q, nr b p q = nr S p q
theorem all_cg {L : List Nat} {p q : Nat → Bool} (h : ∀ o, o ∈ L → p o = q o) : L.all p = L.all q := by
  induction L with
  | nil => rfl
  | cons x L ih => rw [List.all_cons, List.all_cons, h x List.mem_cons_self, ih (fun o ho => h o (List.mem_cons_of_mem _ ho))]
theorem ready_cg {S b : St} {n : Nat} (h : sameC S b n) {T c : Nat} {A : Ast} (hc : c < n) : ready b T A c = ready S T A c := by unfold ready; rw [(h.1 c hc).2.2.1]
theorem heardBy_cg {S b : St} {n : Nat} (h : sameC S b n) {c o : Nat} {A : Ast} (hc : c < n) (ho : o < n) : heardBy b A c o = heardBy S A c o := by unfold heardBy; rw [(h.1 c hc).1, (h.1 o ho).1, h.2]
theorem free_cg {S b : St} {n : Nat} (h : sameC S b n) {c : Nat} {A : Ast} (hc : c < n) : free b n A c = free S n A c := all_cg (fun o ho => by rw [heardBy_cg h hc (List.mem_range.mp ho)])
theorem calm_cg {S b : St} {n : Nat} (h : sameC S b n) {c T : Nat} {A : Ast} (hc : c < n) : calm b n T A c = calm S n T A c := all_cg (fun o ho => by
  have ho' := List.mem_range.mp ho
  rw [(h.1 o ho').2.1, ready_cg h ho', (h.1 c hc).1, (h.1 o ho').1, h.2])
theorem beg_cg {S b : St} {n : Nat} (h : sameC S b n) {c T : Nat} {A : Ast} (hc : c < n) : beg b T c A = beg S T c A := by unfold beg; rw [(h.1 c hc).2.2.2.2]
theorem hushA_cg {S b : St} {n : Nat} (h : sameC S b n) {c : Nat} {A : Ast} (hc : c < n) : hushA b n c A = hushA S n c A := by
  unfold hushA
  have : (fun o => A.ts o || (decide (o < n) && heardBy b A c o && !(da b o))) = fun o => A.ts o || (decide (o < n) && heardBy S A c o && !(da S o)) := by
    funext o
    by_cases ho : o < n
    · rw [heardBy_cg h hc ho, (h.1 o ho).2.1]
    · rw [decide_eq_false ho, Bool.false_and, Bool.false_and, Bool.false_and, Bool.false_and]
  rw [this]
theorem stlA_cg {S b : St} {n : Nat} (h : sameC S b n) {T : Nat} {A : Ast} : stlA b n T A = stlA S n T A := by
  unfold stlA
  have : (fun c => if c < n ∧ A.st c = 0 ∧ sl b c ≤ T then 4 else A.st c) = fun c => if c < n ∧ A.st c = 0 ∧ sl S c ≤ T then 4 else A.st c := by
    funext c
    by_cases hc : c < n
    · rw [(h.1 c hc).2.2.2.1]
    · rw [if_neg (fun z => hc z.1), if_neg (fun z => hc z.1)]
  rw [this]
theorem dngS_cg {S b : St} {n : Nat} (h : sameC S b n) {c T : Nat} {A : Ast} (hc : c < n) : dngS b n T c A = dngS S n T c A := by
  unfold dngS
  rw [(h.1 c hc).2.1, ready_cg h hc, free_cg h hc, hushA_cg h hc, beg_cg h hc]
theorem othS_cg {S b : St} {n : Nat} (h : sameC S b n) {c T : Nat} {A : Ast} (hc : c < n) : othS b n T c A = othS S n T c A := by
  unfold othS
  rw [(h.1 c hc).2.1, ready_cg h hc, calm_cg h hc, free_cg h hc, beg_cg h hc]
theorem dngA_cg {S b : St} {n : Nat} (h : sameC S b n) {T : Nat} {A : Ast} : ∀ i, i ≤ n → dngA b n T i A = dngA S n T i A := by
  intro i
  induction i with
  | zero => intro _; rfl
  | succ i ih => intro hi; rw [dngA, dngA, ih (by omega), dngS_cg h (by omega)]
theorem othA_cg {S b : St} {n : Nat} (h : sameC S b n) {T : Nat} {A : Ast} : ∀ i, i ≤ n → othA b n T i A = othA S n T i A := by
  intro i
  induction i with
  | zero => intro _; rfl
  | succ i ih => intro hi; rw [othA, othA, ih (by omega), othS_cg h (by omega)]
theorem tickN_cg {S b : St} {n : Nat} (h : sameC S b n) {T : Nat} {A : Ast} : ∀ i, tickN b n T i A = tickN S n T i A := by
  intro i
  induction i with
  | zero => rfl
  | succ i ih =>
    rw [tickN, tickN, ih]
    unfold tickA
    rw [stlA_cg h, dngA_cg h n (Nat.le_refl _), othA_cg h n (Nat.le_refl _)]
theorem repM.keepC {b b' : St} {n T : Nat} {A : Ast} (h : repM n T A b) (hn : n ≤ 24) (hf : fr XcC b b') : repM n T A b' := by
  obtain ⟨g1, g2, g4⟩ := h
  refine ⟨by rw [hf _ _ (by unfold XcC Xsc Xw; omega)]; exact g1, by rw [hf _ _ (by unfold XcC Xsc Xw; omega)]; exact g2, fun c hc => ?_⟩
  obtain ⟨k1, k2, k3, k4, k5⟩ := g4 c hc
  refine ⟨by rw [hf _ _ (by unfold XcC Xsc Xw; omega)]; exact k1, by rw [hf _ _ (by unfold XcC Xsc Xw; omega)]; exact k2, by rw [hf _ _ (by unfold XcC Xsc Xw; omega)]; exact k3, by rw [hf _ _ (by unfold XcC Xsc Xw; omega)]; exact k4, fun z => ?_⟩
  obtain ⟨m1, m2⟩ := k5 z
  exact ⟨by rw [hf _ _ (by unfold XcC Xsc Xw; omega)]; exact m1, fun i hi => by rw [hf _ _ (by unfold XcC Xsc Xw; omega)]; exact m2 i hi⟩
theorem repC.keepM {S b b' : St} {n T : Nat} {A : Ast} (h : repC S n T A b) (hn : n ≤ 24) (hf : fr XcM b b') : repC S n T A b' := by
  obtain ⟨g1, g2, g3, g4, g5⟩ := h
  refine ⟨by rw [hf _ _ (by unfold XcM Xsm Xm; omega)]; exact g1, by rw [hf _ _ (by unfold XcM Xsm Xm; omega)]; exact g2, by rw [← g3]; unfold nC; rw [hf _ _ (by unfold XcM Xsm Xm; omega)], fun c hc => ?_, fun p hp => ?_⟩
  · have e : ∀ j, rd b' (300 + 2 * c) j = rd b (300 + 2 * c) j := fun j => hf _ _ (by unfold XcM Xsm Xm; omega)
    have e2 : ∀ j, rd b' (300 + 2 * c + 1) j = rd b (300 + 2 * c + 1) j := fun j => hf _ _ (by unfold XcM Xsm Xm; omega)
    rw [e, e, e, e, e, e]
    obtain ⟨k1, k2, k3, k4, k5, k6⟩ := g4 c hc
    refine ⟨k1, k2, k3, k4, k5, fun z => ?_⟩
    obtain ⟨m1, m2, m3⟩ := k6 z
    exact ⟨m1, fun i hi => by rw [e2]; exact m2 i hi, m3⟩
  · rw [hf _ _ (by unfold XcM Xsm Xm; omega)]; exact g5 p hp
theorem I_vox.cg {S b : St} (h : I_vox S) (hf : ∀ k j, k = 44 ∨ k = 45 ∨ k = 73 ∨ k = 74 → rd b k j = rd S k j) : I_vox b := fun i hi => by
  obtain ⟨v, w, h1, h2, h3, h4, h5, h6⟩ := h i hi
  exact ⟨v, w, h1, h2, by rw [hf _ _ (by omega)]; exact h3, by rw [hf _ _ (by omega)]; exact h4, by rw [hf _ _ (by omega)]; exact h5, by rw [hf _ _ (by omega)]; exact h6⟩
def Xrn (c j : Nat) : Prop := XcC c j ∨ XcM c j
theorem run_all (v1 : Int32) {S : St} (hI : I_sta S) (hV : I_vox S) (hX : I_lex S) (hP : I_pcs S) (hc : I_cut S) : ∃ r S1 S2, f_X10_run v1 S = some (r, S1) ∧ f_X11_run v1 S1 = some (r, S2) ∧ I_sta S2 ∧ fr Xrn S S2 := by
  have hI' := hI
  obtain ⟨hN, n, T, A, h24, hT, hO, hw, hR, hM⟩ := hI
  have hS : Still S n T := ⟨h24, hT, hO, hN, hV, hX, hP, hc⟩
  unfold f_X10_run f_X11_run
  rcases bl1 v1 100 (by decide) with h | ⟨k, hk1, hk, rfl, h⟩
  · exact ⟨-3, S, S, by rw [within_in, show f_X11_in v1 1 100 S = _ from h S]; rfl, by rw [show f_X11_in v1 1 100 S = _ from h S]; rfl, hI', fr.refl _ _⟩
  rw [within_in, show f_X11_in (nI k) 1 100 S = _ from h S, bd_some, if_neg (by decide), hR.2.1, plus_n]
  by_cases d : T + k ≤ 2000
  · obtain ⟨S1, a1, a2, a3, a4⟩ := runC_ok hS hw hR d (fun (S10 : St) => some ((rd S10 43 8), S10))
    have hM1 : repM n T A S1 := hM.keepC h24 a3
    obtain ⟨hs, hx, h34, h547⟩ := XcC_all a3
    have h1 : ∀ c, c < n → OKs S1 c ∧ pa S1 c = pa S c := fun c hc => OKs_cg (hO c hc) (fun j hj => a3 _ _ (by unfold XcC Xsc Xw; omega)) (fun k h1 h2 => a3 _ _ (by unfold XcC Xsc Xw; omega)) (fun z => by unfold nv at z ⊢; rw [a3 _ _ (by unfold XcC Xsc Xw; omega)]; exact z)
    have hN1 := near_cg hN (b := S1) (fun j => a3 _ _ (by unfold XcC Xsc Xw; omega)) (fun j => a3 _ _ (by unfold XcC Xsc Xw; omega))
    have hV1 := hV.cg (b := S1) (fun k j hk => a3 _ _ (by unfold XcC Xsc Xw; omega))
    have hS1 : Still S1 n T := ⟨h24, hT, fun c hc => (h1 c hc).1, hN1, hV1, hX.cg hx, hs.I hP, cut_of h34 h547 hc⟩
    have hsame : sameC S S1 n := by
      refine ⟨fun c hc => ⟨(h1 c hc).2, ?_, ?_, ?_, ?_⟩, fun p q => ?_⟩
      · unfold da; rw [a3 _ _ (by unfold XcC Xsc Xw; omega)]
      · unfold re nv; rw [a3 _ _ (by unfold XcC Xsc Xw; omega)]
      · unfold sl nv; rw [a3 _ _ (by unfold XcC Xsc Xw; omega)]
      · have el : li S1 c = li S c := by unfold li nv; rw [a3 _ _ (by unfold XcC Xsc Xw; omega)]
        have en : nu S1 c = nu S c := by unfold nu nv; rw [a3 _ _ (by unfold XcC Xsc Xw; omega)]
        have ev : vo S1 (pa S c) = vo S (pa S c) := by unfold vo; rw [a3 _ _ (by unfold XcC Xsc Xw; omega)]
        have ee : ∀ L s, ends S1 L s = ends S L s := by
          intro L
          induction L with
          | nil => intro s; rfl
          | cons w ws ih => intro s; rw [ends, ends, (lex_cg hx).1, ih]
        unfold mu
        rw [(h1 c hc).2, el, en, ev, spk_cg hx, wtold_cg hx, fw_cg hs hP.1 (ct_of h34) hx, ee]
      · unfold nr nv; rw [a3 _ _ (by unfold XcC Xsc Xw; omega)]
    have hpa : ∀ c, c < n → pa S1 c = pa S c := fun c hc => (h1 c hc).2
    obtain ⟨S2, b1, b2, b3⟩ := runM_ok hS1 (wf_cg hw hpa) (fr.refl _ _) hM1 d (fun (S10 : St) => some ((rd S10 54 31), S10))
    rw [tickN_cg hsame] at b2
    have h2 : ∀ c, c < n → OKs S2 c ∧ pa S2 c = pa S1 c := fun c hc => OKs_cg (h1 c hc).1 (fun j hj => b3 _ _ (by unfold XcM Xsm Xm; omega)) (fun k h1 h2 => b3 _ _ (by unfold XcM Xsm Xm; omega)) (fun z => by unfold nv at z ⊢; rw [b3 _ _ (by unfold XcM Xsm Xm; omega)]; exact z)
    have hpa2 : ∀ c, c < n → pa S2 c = pa S c := fun c hc => by rw [(h2 c hc).2]; exact hpa c hc
    refine ⟨nI (T + k), S1, S2, ?_, ?_, ⟨?_, n, T + k, tickN S n T k A, h24, d, fun c hc => (h2 c hc).1, wf_cg a4 hpa2, repC_cg (a2.keepM h24 b3) hpa2, b2⟩, (a3.mono (fun _ _ h => Or.inl h)).trans (b3.mono (fun _ _ h => Or.inr h))⟩
    · rw [if_pos (show nI (T + k) ≤ (2000 : Int32) from of_eq_true (le_T (a := T + k) (b := 2000) (by omega)))]
      refine a1.trans ?_
      rw [a2.2.1]
    · rw [show f_X11_in (nI k) 1 100 S1 = _ from h S1, bd_some, if_neg (by decide), hM1.2.1, plus_n, if_pos (show nI (T + k) ≤ (2000 : Int32) from of_eq_true (le_T (a := T + k) (b := 2000) (by omega)))]
      refine b1.trans ?_
      rw [b2.2.1]
    · exact near_cg hN1 (fun j => b3 _ _ (by unfold XcM Xsm Xm; omega)) (fun j => b3 _ _ (by unfold XcM Xsm Xm; omega))
  · refine ⟨-3, S, S, ?_, ?_, hI', fr.refl _ _⟩
    · rw [if_neg (show ¬ nI (T + k) ≤ (2000 : Int32) from of_eq_false (le_F (a := T + k) (b := 2000) (by omega)))]
    · rw [show f_X11_in (nI k) 1 100 S = _ from h S, bd_some, if_neg (by decide), hM.2.1, plus_n, if_neg (show ¬ nI (T + k) ≤ (2000 : Int32) from of_eq_false (le_F (a := T + k) (b := 2000) (by omega)))]
theorem heard_all (v1 v2 : Int32) {S : St} (hI : I_sta S) : ∃ r, f_X10_heard v1 v2 S = some (r, S) ∧ f_X11_heard v1 v2 S = some (r, S) := by
  obtain ⟨hN, n, T, A, h24, hT, hO, hw, hR, hM⟩ := hI
  unfold f_X10_heard f_X11_heard
  rw [hR.1, hM.1]
  rcases blz v1 n (by omega) with h | ⟨c, hc, rfl, h⟩
  · exact ⟨-2, by rw [(h S).1]; rfl, by rw [show f_X11_in v1 0 (nI n - 1) S = _ from (h S).2]; rfl⟩
  rw [(h S).1, bd_some, if_neg (by decide), show f_X11_in (nI c) 0 (nI n - 1) S = _ from (h S).2, bd_some, if_neg (by decide), gd_t (show inb (nI c) 24 ∧ (nI c).toNatClampNeg < nC S from ⟨inb_n (by omega) (by decide), by rw [cl_n (by omega), hR.2.2.1]; exact hc⟩), lt_eq]
  simp only [cl_n (show c < 2147483648 by omega), gd_t (inb_n (show c < 24 by omega) (by decide))]
  obtain ⟨k1, k2, k3, -⟩ := hR.2.2.2.1 c hc
  obtain ⟨m1, m2, m3, -⟩ := hM.2.2 c hc
  rw [k1, k2, k3, m1, m2, m3]
  by_cases d0 : v2 = 0
  · rw [if_pos d0]; exact ⟨_, rfl, rfl⟩
  by_cases d1 : v2 = 1
  · rw [if_neg d0, if_pos d1]; exact ⟨_, rfl, rfl⟩
  by_cases d2 : v2 = 2
  · rw [if_neg d0, if_neg d1, if_pos d2]; exact ⟨_, rfl, rfl⟩
  · rw [if_neg d0, if_neg d1, if_neg d2]; exact ⟨_, rfl, rfl⟩
theorem speaks_all (v1 : Int32) {S : St} (hI : I_sta S) : ∃ r, f_X10_speaks v1 S = some (r, S) ∧ f_X11_speaks v1 S = some (r, S) := by
  obtain ⟨hN, n, T, A, h24, hT, hO, hw, hR, hM⟩ := hI
  unfold f_X10_speaks f_X11_speaks
  rcases bl v1 6 (by decide) (by decide) with h | ⟨p, hp, rfl, h⟩
  · exact ⟨-2, by rw [show f_X10_below v1 6 S = _ from (h S).1]; rfl, by rw [platf_n v1 S 0 (Or.inl rfl) (h S).2]; rfl⟩
  rw [show f_X10_below (nI p) 6 S = _ from (h S).1, bd_some, if_neg (by decide), platf_n (nI p) S 1 (Or.inr rfl) (h S).2, bd_some, if_neg (by decide), gd_t (inb_n hp (by decide)), cl_n (by omega)]
  refine ⟨rd S 47 p, rfl, ?_⟩
  have hst : ∀ c, c < n → A.st c ≤ 5 := fun c hc => (hw.1 c hc).1
  refine loopC (fun f (x : Int32) i => f_X11_speaks_L14 (fun x16 S17 => some (x16, S17)) (nI p) f x (nI i) S) (fun y => y = some (rd S 47 p, S)) (fun i x => (∀ c, c < i → A.st c = 1 → pa S c ≠ p) ∧ x = -1 ∨ (∃ c, c < i ∧ A.st c = 1 ∧ pa S c = p ∧ x = nI c)) n ?_ ?_ n 0 FU _ (by omega) (by unfold FU; omega) (Or.inl ⟨fun c hc => by omega, rfl⟩)
  · intro f x hx
    have e7 := hM.1
    have : x = rd S 47 p := by
      rcases hR.2.2.2.2 p hp with ⟨c, c1, c2, c3, c4⟩ | ⟨c1, c2⟩
      · rcases hx with ⟨h1, -⟩ | ⟨d, d1, d2, d3, d4⟩
        · exact absurd c3 (h1 c c1 c2)
        · rw [d4, c4, hw.2 d c d1 c1 d2 c2 (by rw [d3, c3])]
      · rcases hx with ⟨-, h1⟩ | ⟨d, d1, d2, d3, d4⟩
        · rw [h1, c2]
        · exact absurd d3 (c1 d d1 d2)
    rw [← this]
    show f_X11_speaks_L14 _ _ _ _ _ _ = _
    rw [f_X11_speaks_L14]
    simp (disch := omega) only [md_n, lt_eq, bd_some, gN, gN2, le_T, le_F, lt_T, lt_F, eq_T, eq_F, cN, plus_n, mul_n, rem_n, div_n, sub_n, re_T, re_F, rl_wr, rd_wl, ne_m1, m1_ne, m1_lt, m1_le, m1_ge, m1_gt, m1_refl, ↓reduceIte, L0, L1, L2, L3, L4, L5, L6, L7, L8, L9, L10, L11, L15, L16, L17, L18, L20, L24, L26, L28, L31, L32, L35, L36, L48, L57, L59, L63, L64, L96, L97, L99, L100, L112, L122, L128, L200, L255, L256, L1000, L1024, L2000, L3000, L1000000, L1000000007, e7]
  · intro f x c hc hx
    right
    have e7 := hM.1
    have e81 := (hM.2.2 c hc).1
    have e75 := (hO c hc).1.2.2
    have hpa := (hO c hc).1.1
    have hs := hst c hc
    by_cases d1 : A.st c = 1
    · by_cases d2 : pa S c = p
      · refine ⟨nI c, ?_, Or.inr ⟨c, by omega, d1, d2, rfl⟩⟩
        show f_X11_speaks_L14 _ _ _ _ _ _ = _
        rw [f_X11_speaks_L14]
        simp (disch := omega) only [md_n, lt_eq, bd_some, gN, gN2, le_T, le_F, lt_T, lt_F, eq_T, eq_F, cN, plus_n, mul_n, rem_n, div_n, sub_n, re_T, re_F, rl_wr, rd_wl, ne_m1, m1_ne, m1_lt, m1_le, m1_ge, m1_gt, m1_refl, ↓reduceIte, L0, L1, L2, L3, L4, L5, L6, L7, L8, L9, L10, L11, L15, L16, L17, L18, L20, L24, L26, L28, L31, L32, L35, L36, L48, L57, L59, L63, L64, L96, L97, L99, L100, L112, L122, L128, L200, L255, L256, L1000, L1024, L2000, L3000, L1000000, L1000000007, e7, e81, e75]
      · refine ⟨x, ?_, ?_⟩
        · show f_X11_speaks_L14 _ _ _ _ _ _ = _
          rw [f_X11_speaks_L14]
          simp (disch := omega) only [md_n, lt_eq, bd_some, gN, gN2, le_T, le_F, lt_T, lt_F, eq_T, eq_F, cN, plus_n, mul_n, rem_n, div_n, sub_n, re_T, re_F, rl_wr, rd_wl, ne_m1, m1_ne, m1_lt, m1_le, m1_ge, m1_gt, m1_refl, ↓reduceIte, L0, L1, L2, L3, L4, L5, L6, L7, L8, L9, L10, L11, L15, L16, L17, L18, L20, L24, L26, L28, L31, L32, L35, L36, L48, L57, L59, L63, L64, L96, L97, L99, L100, L112, L122, L128, L200, L255, L256, L1000, L1024, L2000, L3000, L1000000, L1000000007, e7, e81, e75]
        · rcases hx with ⟨h1, h2⟩ | ⟨d, k1, k2⟩
          · exact Or.inl ⟨fun e he hz hpe => by
              by_cases y : e = c
              · subst y; exact d2 hpe
              · exact h1 e (by omega) hz hpe, h2⟩
          · exact Or.inr ⟨d, by omega, k2⟩
    · refine ⟨x, ?_, ?_⟩
      · show f_X11_speaks_L14 _ _ _ _ _ _ = _
        rw [f_X11_speaks_L14]
        simp (disch := omega) only [md_n, lt_eq, bd_some, gN, gN2, le_T, le_F, lt_T, lt_F, eq_T, eq_F, cN, plus_n, mul_n, rem_n, div_n, sub_n, re_T, re_F, rl_wr, rd_wl, ne_m1, m1_ne, m1_lt, m1_le, m1_ge, m1_gt, m1_refl, ↓reduceIte, L0, L1, L2, L3, L4, L5, L6, L7, L8, L9, L10, L11, L15, L16, L17, L18, L20, L24, L26, L28, L31, L32, L35, L36, L48, L57, L59, L63, L64, L96, L97, L99, L100, L112, L122, L128, L200, L255, L256, L1000, L1024, L2000, L3000, L1000000, L1000000007, e7, e81]
      · rcases hx with ⟨h1, h2⟩ | ⟨d, k1, k2⟩
        · exact Or.inl ⟨fun e he hz hpe => by
            by_cases y : e = c
            · subst y; exact d1 hz
            · exact h1 e (by omega) hz hpe, h2⟩
        · exact Or.inr ⟨d, by omega, k2⟩
