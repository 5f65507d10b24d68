/-! ===== told: where a fault lies; told ===== -/
def bd2 {α : Type} (N : Nat) : Nat ⊕ (α × Nat) → Prop
  | .inl f => f ≤ N
  | .inr y => y.2 ≤ N
theorem tB_le {B : Nat → Nat} {N p : Nat} (hp : p ≤ N) : tB B N p ≤ N := (tok_facts B hp).2.1
theorem tE_le {B : Nat → Nat} {N p : Nat} (hp : p ≤ N) : tE B N p ≤ N := (tok_facts B hp).2.2.2.1
theorem fin_bd {B : Nat → Nat} {N p : Nat} {row : Rw} (hp : p ≤ N) : bd2 N (fin B N row p) := by
  unfold fin
  split
  · exact hp
  · exact tB_le hp
theorem partsT_bd {B : Nat → Nat} {N : Nat} : ∀ (r p : Nat), p ≤ N → bd2 N (partsT B N r p) := by
  intro r
  induction r with
  | zero => intro p hp; rw [partsT]; exact tB_le hp
  | succ r ih =>
    intro p hp
    rw [partsT]
    split
    · exact tB_le hp
    · split
      · exact tE_le hp
      · have := ih (tE B N p) (tE_le hp)
        split
        · next f h => rw [h] at this; exact this
        · next l q h => rw [h] at this; exact this
theorem two_bd {B : Nat → Nat} {N k p : Nat} (hp : p ≤ N) : bd2 N (two B N k p) := by
  unfold two
  split
  · exact tB_le hp
  · split
    · exact tB_le (tE_le hp)
    · split
      · exact tB_le (tE_le hp)
      · exact fin_bd (tE_le (tE_le hp))
theorem rowT_bd {B : Nat → Nat} {N p : Nat} (hp : p ≤ N) : bd2 N (rowT B N p) := by
  have h1 : tE B N p ≤ N := tE_le hp
  unfold rowT
  generalize tE B N p = p1 at *
  split
  · unfold rowW
    split
    · exact tB_le h1
    · split
      · split
        · exact tB_le (tE_le (tE_le h1))
        · exact fin_bd (tE_le (tE_le (tE_le h1)))
      · exact tB_le (tE_le h1)
  · split
    · unfold rowL
      split
      · exact tB_le h1
      · split
        · have := partsT_bd (B := B) (N := N) 8 (tE B N (tE B N p1)) (tE_le (tE_le h1))
          split
          · next f h => rw [h] at this; exact this
          · next l q h => rw [h] at this; exact this
        · exact tB_le (tE_le h1)
    · split
      · unfold rowU
        split
        · exact tB_le h1
        · exact fin_bd (tE_le h1)
      · split
        · exact two_bd h1
        · split
          · exact two_bd h1
          · exact tB_le hp
theorem txtT_bd {B : Nat → Nat} {N : Nat} : ∀ (r p f : Nat), p ≤ N → txtT B N r p = .inl f → f ≤ N := by
  intro r
  induction r with
  | zero => intro p f _ h; rw [txtT] at h; have := Sum.inl.inj h; omega
  | succ r ih =>
    intro p f hp h
    have hb := rowT_bd (B := B) hp
    rw [txtT] at h
    cases hr : rowT B N p with
    | inl f' =>
      rw [hr] at h hb
      have e : f' = f := Sum.inl.inj h
      rw [← e]; exact hb
    | inr y =>
      obtain ⟨row, q⟩ := y
      rw [hr] at h hb
      replace hb : q ≤ N := hb
      replace h : (if tK B N q = 0 then .inr [row] else if r = 0 then .inl (tB B N q) else match txtT B N r (tE B N q) with | .inl f => .inl f | .inr l => .inr (row :: l) : Nat ⊕ List Rw) = .inl f := by
        rw [← h]
        split
        · next c => symm; exact if_pos c
        · next c =>
          split
          · next c2 => symm; exact if_neg c
          · next c2 =>
            symm
            refine (if_neg c).trans ?_
            first | rfl | (cases txtT B N r (tE B N q) <;> rfl)
      split at h
      · cases h
      · split at h
        · rw [← Sum.inl.inj h]; exact tB_le hb
        · cases ht : txtT B N r (tE B N q) with
          | inl f' =>
            rw [ht] at h
            have e : f' = f := Sum.inl.inj h
            rw [← e]
            exact ih _ _ (tE_le hb) ht
          | inr l => rw [ht] at h; cases h
theorem apD_pos {row : Rw} {D : Dt} (h : rwOK row) {l : Nat} (h0 : 0 < (D.2.1 l).length) : 0 < ((apD row D).2.1 l).length := by
  unfold apD
  rcases h with h | h | h | h
  · rw [if_pos h.1]; exact h0
  · rw [if_neg (by omega), if_pos h.1]
    show 0 < (upL D.2.1 row.2.1 row.2.2 l).length
    unfold upL
    split
    · exact h.2.2.1
    · exact h0
  · rw [if_neg (by omega), if_neg (by omega), if_pos h.1]; exact h0
  · rw [if_neg (by omega), if_neg (by omega), if_neg (by omega)]
    split <;> exact h0
theorem apT_pos {L : List Rw} {D : Dt} (hl : ∀ j, j < L.length → rwOK (L.getD j r0)) {l : Nat} (h0 : 0 < (D.2.1 l).length) : ∀ k, k ≤ L.length → 0 < ((apT L D k).2.1 l).length := by
  intro k
  induction k with
  | zero => intro _; exact h0
  | succ k ih => intro h; exact apD_pos (hl k (by omega)) (ih (by omega))
theorem rC_cg {D : Dt} {a b : St} (h : rC D a) (e : ∀ c j, XfC c j → rd b c j = rd a c j) : rC D b := by
  obtain ⟨h1, h2, h3, h4⟩ := h
  refine ⟨fun w hw => ?_, fun l hl => ?_, ?_, fun p hp => ?_⟩
  · rw [e _ _ (by unfold XfC; omega), e _ _ (by unfold XfC; omega)]; exact h1 w hw
  · refine ⟨by rw [e _ _ (by unfold XfC; omega)]; exact (h2 l hl).1, fun j hj => by rw [e _ _ (by unfold XfC; omega)]; exact (h2 l hl).2 j hj⟩
  · rw [e _ _ (by unfold XfC; omega)]; exact h3
  · rw [e _ _ (by unfold XfC; omega)]; exact h4 p hp
theorem rM_cg {D : Dt} {a b : St} (h : rM D a) (e : ∀ c j, XdM c j → rd b c j = rd a c j) : rM D b := by
  obtain ⟨h1, h2, h3, h4⟩ := h
  refine ⟨fun w hw => ?_, fun l hl => ?_, ?_, fun p hp => ?_⟩
  · refine ⟨by rw [e _ _ (by unfold XdM; omega)]; exact (h1 w hw).1, fun j hj => by rw [e _ _ (by unfold XdM; omega)]; exact (h1 w hw).2 j hj⟩
  · refine ⟨by rw [e _ _ (by unfold XdM; omega)]; exact (h2 l hl).1, fun j hj => by rw [e _ _ (by unfold XdM; omega)]; exact (h2 l hl).2 j hj⟩
  · rw [e _ _ (by unfold XdM; omega)]; exact h3
  · rw [e _ _ (by unfold XdM; omega)]; exact h4 p hp
def Xtd (c j : Nat) : Prop := Xt c j ∨ Xu c j ∨ XfC c j ∨ XdM c j ∨ (c = 20 ∧ j = 1) ∨ (c = 54 ∧ j = 12)
def KtC (x : Int32) (S15 : St) : Option (Int32 × St) :=
        bd_ (f_X9_empty  S15) fun r16 S17 =>
        some (x, S17)
def KtM (S10 : St) : Option (Int32 × St) :=
        lt_ (wr S10 54 12 (0 : Int32)) fun S11 =>
        some ((rd S11 54 20), S11)
theorem told_all {S : St} (hB : I_byt S) (hX : I_lex S) (hc : I_cut S) (hn : I_near S) : ∃ r S1 S2, f_X10_told S = some (r, S1) ∧ f_X11_told S1 = some (r, S2) ∧ fr Xtd S S2 ∧ I_byt S2 ∧ I_lex S2 ∧ I_cut S2 ∧ I_near S2 ∧ ∀ l, l < 8 → 0 < nv S 18 l → 0 < nv S2 18 l := by
  obtain ⟨N, hT⟩ := byt_txt hB
  obtain ⟨a, o1, o2⟩ := read_ok hT
  have hTa := hT.t o2
  obtain ⟨hD, hC, hM⟩ := d_of hX hc hn
  have o2' : fr Xtd S a := o2.mono (fun c j h => Or.inl h)
  have hC1 : rC (dOf S) a := rC_cg hC (fun c j h => o2 _ _ (by unfold XfC at h; unfold Xt; omega))
  have hrow := fun l h => txtT_ok (B := fun i => nv S 21 i) (N := N) 10 0 l (Nat.zero_le _) h
  unfold f_X10_told f_X11_told
  rcases o1 with ⟨ft, p1, p2⟩ | ⟨l, p1, p2, p3, p4, p5⟩
  · obtain ⟨b, q1, q2⟩ := isRead_ok (TxtM.of hTa rfl (fun _ => rfl))
    rcases q1 with ⟨ft', p3, p4, p5⟩ | ⟨l', p3, -⟩
    · have hft := txtT_bd _ _ _ (Nat.zero_le _) p1
      have hN := hT.1
      have hfr : fr Xf S b := (o2.mono (fun c j h => Or.inl h)).trans (q2.mono (fun c j h => Or.inr h))
      have hCb : rC (dOf S) b := rC_cg hC (fun c j h => hfr _ _ (by unfold XfC at h; unfold Xf Xt Xu; omega))
      have hMb : rM (dOf S) b := rM_cg hM (fun c j h => hfr _ _ (by unfold XdM at h; unfold Xf Xt Xu; omega))
      refine ⟨-4, a, b, ?_, ?_, hfr.mono (fun c j h => ?_), (hTa.u q2).byt, lex_back hD hCb hMb, cut_back hD hCb hMb, near_back hCb hMb, fun l hl h => ?_⟩
      · rw [p2, bd_some, if_neg (show ¬ nI ft = (-1 : Int32) from of_eq_false (ne_m1 (by omega)))]
      · rw [p4, bd_some, if_pos rfl]
      · rcases h with h | h
        · exact Or.inl h
        · exact Or.inr (Or.inl h)
      · have e : nv b 18 l = nv S 18 l := by unfold nv; rw [hfr _ _ (by unfold Xf Xt Xu; omega)]
        rw [e]; exact h
    · rw [p1] at p3; cases p3
  · obtain ⟨-, hok⟩ := hrow l p1
    have hN := hT.1
    obtain ⟨a1, u1, u2, u3⟩ := toldCL (K := KtC (nI l.length)) p4 hD hok l.length 0 FU a (by omega) (by unfold FU; omega) p5 hC1
    have e1 : KtC (nI l.length) a1 = some (nI l.length, wr a1 20 1 0) := rfl
    generalize ha2 : wr a1 20 1 0 = a2 at *
    have g2 : fr (fun c j => c = 20 ∧ j = 1) a1 a2 := by rw [← ha2]; exact (fr.refl _ _).wr ⟨rfl, rfl⟩
    have e20 : rd a2 20 1 = nI 0 := by rw [← ha2, rw_eq]; rfl
    have g12 : fr (fun c j => XfC c j ∨ (c = 20 ∧ j = 1)) a a2 := (u3.mono (fun c j h => Or.inl h)).trans (g2.mono (fun c j h => Or.inr h))
    have hTM : TxtM a2 (fun i => nv S 21 i) N := TxtM.of hTa (g12 _ _ (by unfold XfC; omega)) (fun j => g12 _ _ (by unfold XfC; omega))
    obtain ⟨b, q1, q2⟩ := isRead_ok hTM
    rcases q1 with ⟨ft', p6, -⟩ | ⟨l', p6, p7, p8, p9, p10⟩
    · rw [p1] at p6; cases p6
    · have e : l = l' := Sum.inr.inj (p1.symm.trans p6)
      subst e
      have hMb : rM (dOf S) b := rM_cg hM (fun c j h => by rw [q2 _ _ (by unfold XdM at h; unfold Xu; omega), g12 _ _ (by unfold XdM at h; unfold XfC; omega), o2 _ _ (by unfold XdM at h; unfold Xt; omega)])
      obtain ⟨b1, v1, v2, v3⟩ := toldML (K := KtM) p4 hD hok l.length 0 FU b (by omega) (by unfold FU; omega) p8 p10 hMb
      have e2 : KtM b1 = some (nI l.length, wr b1 54 12 0) := by
        unfold KtM
        rw [lt_eq, rw_ne (by omega), v3 _ _ (by unfold XdM; omega), p8]
      generalize hb2 : wr b1 54 12 0 = b2 at *
      have w2 : fr (fun c j => c = 54 ∧ j = 12) b1 b2 := by rw [← hb2]; exact (fr.refl _ _).wr ⟨rfl, rfl⟩
      have e54 : rd b2 54 12 = nI 0 := by rw [← hb2, rw_eq]; rfl
      have hM2 : rM (apT l (dOf S) l.length) b2 := rM_cg v2 (fun c j h => w2 _ _ (by unfold XdM at h; omega))
      have hback : fr (fun c j => Xu c j ∨ XdM c j ∨ (c = 54 ∧ j = 12)) a2 b2 := ((q2.mono (fun c j h => Or.inl h)).trans (v3.mono (fun c j h => Or.inr (Or.inl h)))).trans (w2.mono (fun c j h => Or.inr (Or.inr h)))
      have hC2 : rC (apT l (dOf S) l.length) b2 := rC_cg u2 (fun c j h => by rw [hback _ _ (by unfold XfC at h; unfold Xu XdM; omega), g2 _ _ (by unfold XfC at h; omega)])
      have hD2 := apT_ok hD hok l.length (Nat.le_refl _)
      refine ⟨nI l.length, a2, b2, ?_, ?_, ?_, ?_, lex_back hD2 hC2 hM2, cut_back hD2 hC2 hM2, near_back hC2 hM2, fun k hk h => ?_⟩
      · rw [p2, bd_some, if_pos rfl, lt_eq, p3]
        exact u1.trans e1
      · rw [p7, bd_some, if_neg (by decide)]
        exact v1.trans e2
      · refine (o2'.trans (g12.mono (fun c j h => ?_))).trans (hback.mono (fun c j h => ?_))
        · unfold Xtd
          rcases h with h | h
          · exact Or.inr (Or.inr (Or.inl h))
          · exact Or.inr (Or.inr (Or.inr (Or.inr (Or.inl h))))
        · unfold Xtd
          rcases h with h | h | h
          · exact Or.inr (Or.inl h)
          · exact Or.inr (Or.inr (Or.inr (Or.inl h)))
          · exact Or.inr (Or.inr (Or.inr (Or.inr (Or.inr h))))
      · exact ⟨0, by omega, by rw [hback _ _ (by unfold Xu XdM; omega)]; exact e20, e54, fun i hi => by omega⟩
      · obtain ⟨c2, -⟩ := hC2.2.1 k hk
        have h8 := (hD2.2.1 k hk).1
        rw [nv_n c2 (by omega)]
        refine apT_pos hok ?_ _ (Nat.le_refl _)
        show 0 < (dL S 17 (8 * k) (nv S 18 k)).length
        rw [dL_len]; exact h
