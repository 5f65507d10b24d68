/-! ===== a call begins ===== -/
def psum (S : St) (L : List Nat) (i : Nat) : Nat := lenN S (L.take i)
theorem ends_len (S : St) (L : List Nat) : ∀ s, (ends S L s).length = L.length := by
  induction L with
  | nil => intro s; rfl
  | cons w ws ih => intro s; rw [ends, List.length_cons, List.length_cons, ih]
theorem ends_get (S : St) (L : List Nat) : ∀ s i, i < L.length → (ends S L s).getD i 0 = s + psum S L (i + 1) := by
  induction L with
  | nil => intro s i hi; simp at hi
  | cons w ws ih =>
    intro s i hi
    cases i with
    | zero => show s + nv S 16 w = s + lenN S [w]; rw [lenN, lenN, Nat.add_zero]
    | succ i =>
      show (ends S ws (s + nv S 16 w)).getD i 0 = s + lenN S (w :: ws.take (i + 1))
      rw [ih _ i (by simp at hi; omega), lenN]
      unfold psum
      omega
theorem psum_s (S : St) {L : List Nat} {i : Nat} (h : i < L.length) : psum S L (i + 1) = psum S L i + nv S 16 (L.getD i 0) := by
  induction L generalizing i with
  | nil => simp at h
  | cons w ws ih =>
    cases i with
    | zero => show nv S 16 w + lenN S [] = lenN S [] + nv S 16 w; exact Nat.add_comm _ _
    | succ i =>
      show lenN S (w :: ws.take (i + 1)) = lenN S (w :: ws.take i) + nv S 16 (ws.getD i 0)
      have := ih (i := i) (by simp at h; omega)
      unfold psum at this
      rw [lenN, lenN, this]
      omega
theorem psum_le {S : St} {L : List Nat} (hI : I_lex S) (hw : ∀ w ∈ L, w < 32) (i : Nat) : psum S L i ≤ 8 * L.length := by
  have := lenN_le (S := S) (L := L.take i) hI (fun w hw' => hw w (List.mem_of_mem_take hw'))
  have h2 : (L.take i).length ≤ L.length := by rw [List.length_take]; omega
  unfold psum
  omega
theorem ends_incr {S : St} {L : List Nat} (hI : I_lex S) (hw : ∀ w ∈ L, w < 32) (ht : wtold S L = true) (hne : 0 < L.length) (h16 : L.length ≤ 16) : incr (ends S L 0) ∧ 0 < (ends S L 0).getD 0 0 ∧ 0 < lastE (ends S L 0) := by
  have hl := ends_len S L 0
  have hlast : 0 < psum S L L.length := by
    have := psum_s S (L := L) (i := L.length - 1) (by omega)
    rw [show L.length - 1 + 1 = L.length by omega] at this
    have := told_at ht (i := L.length - 1) (by omega)
    omega
  refine ⟨⟨fun z => ?_, by rw [hl]; exact h16, fun i hi => ?_, fun i hi => ?_⟩, ?_, ?_⟩
  · rw [z] at hl; simp at hl; omega
  · rw [hl] at hi
    rw [ends_get S L 0 i hi]
    have := psum_le hI hw (i + 1)
    omega
  · rw [hl] at hi
    rw [ends_get S L 0 i (by omega), ends_get S L 0 (i + 1) hi, psum_s S hi]
    have := told_at ht hi
    omega
  · rw [ends_get S L 0 0 hne, psum_s S hne]
    have := told_at ht hne
    omega
  · unfold lastE
    rw [hl, ends_get S L 0 _ (by omega), show L.length - 1 + 1 = L.length by omega]
    omega
theorem repC.keep {S b b' : St} {n T : Nat} {A : Ast} (h : repC S n T A b) (hn : n ≤ 24) (hf : fr (fun c j => Xsc c j ∨ Xw c j) b b') : repC S n T A b' := by
  obtain ⟨g1, g2, g3, g4, g5⟩ := h
  refine ⟨by rw [hf _ _ (by unfold Xsc Xw; omega)]; exact g1, by rw [hf _ _ (by unfold Xsc Xw; omega)]; exact g2, by rw [← g3]; unfold nC; rw [hf _ _ (by unfold Xsc Xw; omega)], fun c hc => ?_, fun p hp => ?_⟩
  · have e : ∀ j, rd b' (300 + 2 * c) j = rd b (300 + 2 * c) j := fun j => hf _ _ (by unfold Xsc Xw; omega)
    have e2 : ∀ j, rd b' (300 + 2 * c + 1) j = rd b (300 + 2 * c + 1) j := fun j => hf _ _ (by unfold Xsc Xw; omega)
    rw [e, e, e, e, e, e]
    obtain ⟨k1, k2, k3, k4, k5, k6⟩ := g4 c hc
    refine ⟨k1, k2, k3, k4, k5, fun z => ?_⟩
    obtain ⟨m1, m2, m3⟩ := k6 z
    exact ⟨m1, fun i hi => by rw [e2]; exact m2 i hi, m3⟩
  · rw [hf _ _ (by unfold Xsc Xw; omega)]; exact g5 p hp
theorem repM.keep {b b' : St} {n T : Nat} {A : Ast} (h : repM n T A b) (hn : n ≤ 24) (hf : fr (fun c j => Xsm c j ∨ Xm c j) b b') : repM n T A b' := by
  obtain ⟨g1, g2, g4⟩ := h
  refine ⟨by rw [hf _ _ (by unfold Xsm Xm; omega)]; exact g1, by rw [hf _ _ (by unfold Xsm Xm; omega)]; exact g2, fun c hc => ?_⟩
  obtain ⟨k1, k2, k3, k4, k5⟩ := g4 c hc
  refine ⟨by rw [hf _ _ (by unfold Xsm Xm; omega)]; exact k1, by rw [hf _ _ (by unfold Xsm Xm; omega)]; exact k2, by rw [hf _ _ (by unfold Xsm Xm; omega)]; exact k3, by rw [hf _ _ (by unfold Xsm Xm; omega)]; exact k4, fun z => ?_⟩
  obtain ⟨m1, m2⟩ := k5 z
  exact ⟨by rw [hf _ _ (by unfold Xsm Xm; omega)]; exact m1, fun i hi => by rw [hf _ _ (by unfold Xsm Xm; omega)]; exact m2 i hi⟩
theorem free_no {S : St} {n : Nat} {A : Ast} {c o : Nat} (h : free S n A c = true) (ho : o < n) : heardBy S A c o = false := by
  unfold free at h
  rw [List.all_eq_true] at h
  have := h o (List.mem_range.mpr ho)
  simpa using this
theorem free_of {S : St} {n : Nat} {A : Ast} {c : Nat} (h : ∀ o, o < n → heardBy S A c o = false) : free S n A c = true := by
  unfold free
  rw [List.all_eq_true]
  intro o ho
  rw [h o (List.mem_range.mp ho)]; rfl
theorem free_f {S : St} {n : Nat} {A : Ast} {c o : Nat} (ho : o < n) (h : heardBy S A c o = true) : free S n A c = false := by
  cases hc : free S n A c
  · rfl
  · rw [free_no hc ho] at h; cases h
theorem near_self {S : St} {p : Nat} (h : I_near S) (hp : p < 6) : nr S p p = true := by
  obtain ⟨-, -, -, -, e⟩ := h p hp
  unfold nr
  rw [e p hp, decide_eq_true rfl]; rfl
/-- what a beginning leaves well -/
theorem beg_wf {S : St} {n T c : Nat} {A : Ast} (hS : Still S n T) (hw : wf S n A) (hc : c < n) (h0 : A.st c = 0) (hfr : free S n A c = true) : wf S n (beg S T c A) := by
  obtain ⟨⟨p1, -, -⟩, ⟨l1, -, -, l2⟩, ⟨n1, -⟩, -⟩ := hS.2.2.1 c hc
  have hX : I_lex S := hS.2.2.2.2.2.1
  obtain ⟨f1, f2, f3, f4⟩ := spk_facts hX l1 n1
  unfold beg
  cases hmu : mu S c with
  | none =>
    refine ⟨fun d hd => ?_, fun d e hd he z1 z2 z3 => ?_⟩
    · by_cases k : d = c
      · subst k
        refine ⟨?_, ?_, (hw.1 d hd).2.2.1, ?_⟩
        · show fup A.st d 5 d ≤ 5; rw [fup_eq]; omega
        · intro z; have : fup A.st d 5 d = 0 := z; rw [fup_eq] at this; omega
        · intro z; have : fup A.st d 5 d = 1 := z; rw [fup_eq] at this; omega
      · have e : fup A.st c 5 d = A.st d := fup_ne _ _ k
        obtain ⟨a1, a2, a3, a4⟩ := hw.1 d hd
        exact ⟨by show fup A.st c 5 d ≤ 5; rw [e]; exact a1, fun z => a2 (by have : fup A.st c 5 d = 0 := z; rw [e] at this; exact this), a3, fun z => a4 (by have : fup A.st c 5 d = 1 := z; rw [e] at this; exact this)⟩
    · have z1' : fup A.st c 5 d = 1 := z1
      have z2' : fup A.st c 5 e = 1 := z2
      have kd : d ≠ c := fun k => by rw [k, fup_eq] at z1'; omega
      have ke : e ≠ c := fun k => by rw [k, fup_eq] at z2'; omega
      rw [fup_ne _ _ kd] at z1'
      rw [fup_ne _ _ ke] at z2'
      exact hw.2 d e hd he z1' z2' z3
  | some E =>
    have hE : wtold S (spk S (li S c) (nu S c)) = true ∧ E = ends S (spk S (li S c) (nu S c)) 0 := by
      unfold mu at hmu
      split at hmu
      · next h =>
        split at hmu
        · cases hmu
        · exact ⟨h, (Option.some.inj hmu).symm⟩
      · cases hmu
    obtain ⟨i1, i2, i3⟩ := ends_incr hX f3 hE.1 (by omega) f1
    rw [← hE.2] at i1 i2 i3
    have hno : ∀ d, d < n → A.st d = 1 → pa S d ≠ pa S c := fun d hd hz hp => by
      have := free_no hfr hd
      unfold heardBy at this
      rw [hp, near_self hS.2.2.2.1 p1, decide_eq_true hz] at this
      cases this
    refine ⟨fun d hd => ?_, fun d e hd he z1 z2 z3 => ?_⟩
    · by_cases k : d = c
      · subst k
        refine ⟨?_, ?_, (hw.1 d hd).2.2.1, ?_⟩
        · show fup A.st d 1 d ≤ 5; rw [fup_eq]; omega
        · intro z; have : fup A.st d 1 d = 0 := z; rw [fup_eq] at this; omega
        · intro _
          show incr (fup A.en d E d) ∧ A.sd d < lastE (fup A.en d E d)
          rw [fup_eq, (hw.1 d hd).2.1 h0]
          exact ⟨i1, i3⟩
      · have e : fup A.st c 1 d = A.st d := fup_ne _ _ k
        obtain ⟨a1, a2, a3, a4⟩ := hw.1 d hd
        refine ⟨by show fup A.st c 1 d ≤ 5; rw [e]; exact a1, fun z => a2 (by have : fup A.st c 1 d = 0 := z; rw [e] at this; exact this), a3, fun z => ?_⟩
        show incr (fup A.en c E d) ∧ A.sd d < lastE (fup A.en c E d)
        rw [fup_ne _ _ k]
        exact a4 (by have : fup A.st c 1 d = 1 := z; rw [e] at this; exact this)
    · have z1' : fup A.st c 1 d = 1 := z1
      have z2' : fup A.st c 1 e = 1 := z2
      by_cases kd : d = c
      · by_cases ke : e = c
        · rw [kd, ke]
        · rw [fup_ne _ _ ke] at z2'
          exact absurd (by rw [← z3, kd]) (hno e he z2')
      · rw [fup_ne _ _ kd] at z1'
        by_cases ke : e = c
        · exact absurd (by rw [z3, ke]) (hno d hd z1')
        · rw [fup_ne _ _ ke] at z2'
          exact hw.2 d e hd he z1' z2' z3
theorem hush_wf {S : St} {n c : Nat} {A : Ast} (hw : wf S n A) : wf S n (hushA S n c A) := hw
