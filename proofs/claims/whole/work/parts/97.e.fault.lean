/-! ===== isRead, and fault ===== -/
theorem byt_txt {S : St} (h : I_byt S) : ∃ N, Txt S (fun i => nv S 21 i) N := by
  obtain ⟨n, h1, h2, h3, h4⟩ := h
  refine ⟨n, h1, h2, h3, fun i hi => ?_⟩
  obtain ⟨b, c1, c2, c3⟩ := h4 i hi
  have e : nv S 21 i = b := by unfold nv; rw [c2]; exact cl_n (by omega)
  show nv S 21 i < 256 ∧ rd S 21 i = nI (nv S 21 i) ∧ rd S 65 i = nI (nv S 21 i)
  rw [e]
  exact ⟨c1, c2, c3⟩
theorem Txt.byt {S : St} {B : Nat → Nat} {N : Nat} (h : Txt S B N) : I_byt S := ⟨N, h.1, h.2.1, h.2.2.1, fun i hi => ⟨B i, h.2.2.2 i hi⟩⟩
theorem isRead_e0 (a : St) : f_X11_isRead a = f_X11_isRead_L12 KR1 KR2 FU (1 : Int32) (wr (wr a 54 14 (0 : Int32)) 54 20 (0 : Int32)) := by
  unfold f_X11_isRead KR1 KR2
  rw [lt_eq, lt_eq]
theorem isRead_eq (a : St) : f_X11_isRead a = f_X11_isRead_L12 KR1 KR2 FU (nI 1) (wr (wr a 54 14 (nI 0)) 54 20 (nI 0)) := by
  rw [isRead_e0, L1, L0]
theorem isRead_ok {a : St} {B : Nat → Nat} {N : Nat} (hT : TxtM a B N) :
    ∃ a', ((∃ ft, txtT B N 10 0 = .inl ft ∧ f_X11_isRead a = some (0, a') ∧ rd a' 54 19 = nI ft) ∨ (∃ l, txtT B N 10 0 = .inr l ∧ f_X11_isRead a = some (1, a') ∧ rd a' 54 20 = nI l.length ∧ l.length ≤ 10 ∧ ∀ j, j < l.length → rowM (11 * j) (l.getD j r0) a')) ∧ fr Xu a a' := by
  rw [isRead_eq]
  have g0 : fr (Xz 0) a (wr (wr a 54 14 (nI 0)) 54 20 (nI 0)) := ((fr.refl _ _).wr (by unfold Xz; omega)).wr (by unfold Xz; omega)
  obtain ⟨a', q1, q2⟩ := readML_ok (B := B) (N := N) 10 0 0 (wr (wr a 54 14 (nI 0)) 54 20 (nI 0)) FU (by omega) (by omega) (Nat.zero_le _) (by unfold FU; omega) (Xz_txt hT g0) (by rw [rw_ne (by omega), rw_eq]) rw_eq
  refine ⟨a', ?_, (g0.trans q2).mono (fun c j h => by unfold Xz at h; unfold Xu; omega)⟩
  rcases q1 with ⟨ft, p1, p2, p3⟩ | ⟨l, p1, p2, p3, p4, p5⟩
  · exact Or.inl ⟨ft, p1, p2, p3⟩
  · refine Or.inr ⟨l, p1, p2, by rw [p3, Nat.zero_add], by omega, fun j hj => ?_⟩
    have := p5 j hj
    rw [Nat.zero_add] at this; exact this
def Xf (c j : Nat) : Prop := Xt c j ∨ Xu c j
theorem fault_all {S : St} (h : I_byt S) : ∃ r S1 S2, f_X10_fault S = some (r, S1) ∧ f_X11_fault S1 = some (r, S2) ∧ fr Xf S S2 ∧ I_byt S2 := by
  obtain ⟨N, hT⟩ := byt_txt h
  obtain ⟨a, o1, o2⟩ := read_ok hT
  have hTa := hT.t o2
  obtain ⟨b, q1, q2⟩ := isRead_ok (TxtM.of hTa rfl (fun _ => rfl))
  have hfr : fr Xf S b := (o2.mono (fun c j h => Or.inl h)).trans (q2.mono (fun c j h => Or.inr h))
  have hb := (hTa.u q2).byt
  unfold f_X10_fault f_X11_fault
  rcases o1 with ⟨ft, p1, p2⟩ | ⟨l, p1, p2, -⟩
  · rcases q1 with ⟨ft', p3, p4, p5⟩ | ⟨l', p3, -⟩
    · have e : ft = ft' := Sum.inl.inj (p1.symm.trans p3)
      subst e
      exact ⟨nI ft, a, b, by rw [p2, bd_some], by rw [p4, bd_some, if_pos rfl, p5], hfr, hb⟩
    · rw [p1] at p3; cases p3
  · rcases q1 with ⟨ft', p3, -⟩ | ⟨l', p3, p4, -⟩
    · rw [p1] at p3; cases p3
    · exact ⟨-1, a, b, by rw [p2, bd_some], by rw [p4, bd_some, if_neg (by decide)], hfr, hb⟩
