/-! ===== record: which set, the model; record ===== -/
def Xdr (c j : Nat) : Prop := c = 87 ∨ Xsm c j
theorem Xdr_rc {a b : St} (h : fr Xdr a b) : fr Xrc a b := h.mono (fun c j h => by
  rcases h with h | h
  · exact Or.inr (Or.inr (Or.inl h))
  · exact Or.inr (Or.inr (Or.inr (Or.inr (Or.inr h)))))
theorem does_ok {S a0 : St} {m : Nat} (hI : I_lex S) (hf : fr Xrc S a0) (hm : m < 256) (hW : hasS a0 88 (rnm S 4)) : ∃ a, f_X11_doesRecord (nI m) a0 = some (bI (PMb S m), a) ∧ fr Xdr a0 a := by
  obtain ⟨a1, c1, c2, c3⟩ := clear_ok alen_87 a0
  have h0 : f_X11_doesRecord (nI m) a0 = bd_ (f_X11_clearSteps 87 a0) fun r5 S6 => f_X11_doesRecord_L10 Kd1 Kd2 (nI m) FU (0 : Int32) S6 := by
    unfold f_X11_doesRecord Kd1 Kd2 Kd3
    rfl
  rw [h0, c1, bd_some, L0]
  have c3' : fr Xdr a0 a1 := c3.mono (fun c j h => Or.inl h)
  have rc : ∀ a, fr Xdr a0 a → fr Xrc S a := fun a h => hf.trans (Xdr_rc h)
  have hno : ∀ l, l < 8 → tb m l = true → usb S l = false → PMb S m = false := fun l hl h1 h2 => by
    unfold PMb
    rw [show (List.range 8).all (fun l => !tb m l || usb S l) = false from ?_, Bool.false_and]
    rw [List.all_eq_false]
    exact ⟨l, List.mem_range.mpr hl, by rw [h1, h2]; decide⟩
  refine loopC (fun f (a : St) l => f_X11_doesRecord_L10 Kd1 Kd2 (nI m) f (nI l) a) (fun y => ∃ a, y = some (bI (PMb S m), a) ∧ fr Xdr a0 a) (fun l a => hasS a 87 (rT S m l) ∧ fr Xdr a0 a ∧ ∀ k, k < l → tb m k = true → usb S k = true) 8 ?_ ?_ 8 0 FU a1 (by omega) (by unfold FU; omega) ⟨c2, c3', fun k hk => by omega⟩
  · intro f a ⟨g1, g2, g3⟩
    refine ⟨a, ?_, g2⟩
    show f_X11_doesRecord_L10 _ _ _ (f + 1) _ _ = _
    rw [f_X11_doesRecord_L10, if_pos (show (8 : Int32) ≤ nI 8 from Int32.le_refl _)]
    refine rows_ok (W := rnm S 4) (T := rT S m 8) (hasS_cg hW (fun j => g2 _ _ (by unfold Xdr Xsm; omega))) g1 (rnm_lt 4) ?_
    have hall : (List.range 8).all (fun l => !tb m l || usb S l) = true := by
      rw [List.all_eq_true]
      intro l hl
      cases h : tb m l
      · rfl
      · rw [g3 l (List.mem_range.mp hl) h]; rfl
    unfold PMb
    rw [hall, Bool.true_and, PCb_iff]
    constructor
    · intro h c hc
      obtain ⟨l, l1, l2, l3⟩ := h c hc
      refine (rT_mem 8).mpr ⟨l, l1, l2, ?_⟩
      unfold lst0 at l3
      rw [if_pos (g3 l l1 l2)] at l3; exact l3
    · intro h c hc
      obtain ⟨l, l1, l2, l3⟩ := (rT_mem 8).mp (h c hc)
      refine ⟨l, l1, l2, ?_⟩
      unfold lst0
      rw [if_pos (g3 l l1 l2)]; exact l3
  · intro f a l hl ⟨g1, g2, g3⟩
    have ga := rc a g2
    have e1 : nI l + (1 : Int32) = nI (l + 1) := plus_n l 1
    have ht := tb_m (m := m) (i := l) (by omega) (by omega)
    obtain ⟨-, k1⟩ := knows_n hI ga hl
    have hn := hasNumberM_ok hI ga hl
    have hlx := Xrc_lex ga
    obtain ⟨a2, s1, s2, s3⟩ := canSpeak_ok (l := l) (v := 0) (hI.cg hlx) hl (by decide)
    rw [wtold_cg hlx, spk_cg hlx] at s1
    rw [spk_cg hlx] at s2
    have g2a : fr Xdr a0 a2 := g2.trans (s3.mono (fun c j h => Or.inr h))
    have ga2 := rc a2 g2a
    obtain ⟨f1, -, -, f4⟩ := spk_facts hI hl (v := 0) (by decide)
    obtain ⟨a3, d1, d2, d3⟩ := add_ok (n := 87) (T := rT S m l) (L := spk S l 0) hI alen_87 (Or.inl rfl) ga2 (hasS_cg g1 (fun j => s3 _ _ (by unfold Xsm; omega))) f1 f4 s2.2
    show (∃ a_1, f_X11_doesRecord_L10 Kd1 Kd2 (nI m) (f + 1) (nI l) a = some (bI (PMb S m), a_1) ∧ fr Xdr a0 a_1) ∨ ∃ a', f_X11_doesRecord_L10 Kd1 Kd2 (nI m) (f + 1) (nI l) a = f_X11_doesRecord_L10 Kd1 Kd2 (nI m) f (nI (l + 1)) a' ∧ hasS a' 87 (rT S m (l + 1)) ∧ fr Xdr a0 a' ∧ ∀ (k : Nat), k < l + 1 → tb m k = true → usb S k = true
    have hst : f_X11_doesRecord_L10 Kd1 Kd2 (nI m) (f + 1) (nI l) a = if tb m l = true then (bd_ (f_X11_isLine (nI l) a) fun r11 S12 =>
        if r11 = 0 then
          Kd1 S12
        else
          bd_ (f_X11_hasNumber (nI l) S12) fun r14 S15 =>
          if r14 = 0 then
            bd_ (f_X11_canSpeak (nI l) (0 : Int32) S15) fun r17 S18 =>
            if r17 = 0 then
              Kd1 S18
            else
              bd_ (f_X11_addSteps 87 (0 : Int32) (rd S18 54 26) S18) fun r20 S21 =>
              f_X11_doesRecord_L10 Kd1 Kd2 (nI m) f (nI (l + 1)) S21
          else
            Kd1 S15) else f_X11_doesRecord_L10 Kd1 Kd2 (nI m) f (nI (l + 1)) a := by
      rw [f_X11_doesRecord_L10, if_neg (show ¬ (8 : Int32) ≤ nI l from of_eq_false (le_F (a := 8) (by omega))), lt_eq]
      simp only [ht, lt_eq, e1]
    rw [hst]
    by_cases d : tb m l = true
    · rw [if_pos d, k1, bd_some]
      by_cases u1 : 0 < nv S 18 l
      · rw [decide_eq_true u1, if_neg (show ¬ bI true = 0 by decide), hn, bd_some]
        cases u2 : hnb S l
        · rw [if_pos (show bI false = 0 from rfl), show (0 : Int32) = nI 0 from rfl, s1, bd_some]
          cases u3 : wtold S (spk S l 0)
          · left
            rw [if_pos (show bI false = nI 0 from rfl), hno l hl d (by unfold usb; rw [u3, Bool.and_false])]
            exact ⟨a2, rfl, g2a⟩
          · right
            rw [if_neg (show ¬ bI true = nI 0 by decide), s2.1, d1, bd_some]
            refine ⟨a3, rfl, ?_, g2a.trans (d3.mono (fun c j h => Or.inl h)), fun k hk hb => ?_⟩
            · rw [rT, if_pos d]; exact d2
            · by_cases y : k = l
              · subst y; unfold usb; rw [decide_eq_true u1, u2, u3]; rfl
              · exact g3 k (by omega) hb
        · left
          rw [if_neg (show ¬ bI true = 0 by decide), hno l hl d (by unfold usb; rw [u2, Bool.not_true, Bool.and_false, Bool.false_and])]
          exact ⟨a, rfl, g2⟩
      · left
        rw [decide_eq_false u1, if_pos (show bI false = 0 from rfl), hno l hl d (by unfold usb; rw [decide_eq_false u1, Bool.false_and, Bool.false_and])]
        exact ⟨a, rfl, g2⟩
    · right
      rw [if_neg d]
      refine ⟨a, rfl, ?_, g2, fun k hk hb => ?_⟩
      · rw [rT, if_neg d, List.append_nil]; exact g1
      · by_cases y : k = l
        · subst y; exact absurd hb d
        · exact g3 k (by omega) hb
def Kv2 (x32 : Int32) (S33 : St) : Option (Int32 × St) := some (x32, S33)
def Kv1 (S15 : St) : Option (Int32 × St) := f_X11_record_L53 Kv2 FU (-1 : Int32) (0 : Int32) S15
theorem bestM_ok {S a0 : St} (hI : I_lex S) (hf : fr Xrc S a0) (hW : hasS a0 88 (rnm S 4)) : ∃ a, Kv1 a0 = some (bsI (bs (PMb S) 256), a) ∧ fr Xrc S a := by
  have hb0 : bsI (bs (PMb S) 0) = (-1 : Int32) := rfl
  unfold Kv1
  rw [L0, ← hb0]
  refine loopC (fun f (a : St) v => f_X11_record_L53 Kv2 f (bsI (bs (PMb S) v)) (nI v) a) (fun y => ∃ a, y = some (bsI (bs (PMb S) 256), a) ∧ fr Xrc S a) (fun _ a => fr Xrc S a ∧ hasS a 88 (rnm S 4)) 256 ?_ ?_ 256 0 FU a0 (by omega) (by unfold FU; omega) ⟨hf, hW⟩
  · intro f a ⟨g1, g2⟩
    refine ⟨a, ?_, g1⟩
    show f_X11_record_L53 _ (f + 1) _ _ _ = _
    rw [f_X11_record_L53, if_pos (show (256 : Int32) ≤ nI 256 from Int32.le_refl _), Kv2]
  · intro f a v hv ⟨g1, g2⟩
    right
    obtain ⟨a', d1, d2⟩ := does_ok hI g1 hv g2
    have g1' : fr Xrc S a' := g1.trans (Xdr_rc d2)
    have g2' : hasS a' 88 (rnm S 4) := hasS_cg g2 (fun j => d2 _ _ (by unfold Xdr Xsm; omega))
    have e1 : nI v + (1 : Int32) = nI (v + 1) := plus_n v 1
    show ∃ a', f_X11_record_L53 _ (f + 1) _ _ _ = f_X11_record_L53 _ f _ _ a' ∧ _
    have h256 : ¬ (256 : Int32) ≤ nI v := by rw [L256]; exact of_eq_false (le_F (by omega))
    rw [f_X11_record_L53, if_neg h256]
    simp only [lt_eq, e1, d1, bd_some]
    cases hb : bs (PMb S) v with
    | none =>
      have en : bs (PMb S) (v + 1) = if PMb S v then some v else none := by rw [bs, hb]
      rw [if_pos (show bsI none = (-1 : Int32) from rfl), en]
      cases d : PMb S v
      · exact ⟨a', rfl, g1', g2'⟩
      · exact ⟨a', rfl, g1', g2'⟩
    | some x =>
      have hx := bs_lt _ _ hb
      have en : bs (PMb S) (v + 1) = if pcn x 8 ≤ pcn v 8 then some x else if PMb S v then some v else some x := by rw [bs, hb]
      have q1 := pcn_le x 8
      have q2 := pcn_le v 8
      rw [if_neg (show ¬ bsI (some x) = (-1 : Int32) from of_eq_false (ne_m1 (by omega))), bits_ok hv, bd_some, show bsI (some x) = nI x from rfl, bits_ok (by omega), bd_some, en]
      by_cases c : pcn x 8 ≤ pcn v 8
      · rw [if_pos (of_eq_true (le_T (by omega))), if_pos c]
        exact ⟨a, rfl, g1, g2⟩
      · rw [if_neg (of_eq_false (le_F (by omega))), if_neg c, d1, bd_some]
        cases d : PMb S v
        · exact ⟨a', rfl, g1', g2'⟩
        · exact ⟨a', rfl, g1', g2'⟩
theorem recordM_ok {S a0 : St} (hI : I_lex S) (hf : fr Xrc S a0) : ∃ a, f_X11_record a0 = some (bsI (bs (PMb S) 256), a) ∧ fr Xrc S a := by
  obtain ⟨a1, c1, c2, c3⟩ := clear_ok alen_88 a0
  have h0 : f_X11_record a0 = bd_ (f_X11_clearSteps 88 a0) fun r5 S6 => f_X11_record_L11 Kv1 FU (28 : Int32) S6 := by
    unfold f_X11_record Kv1 Kv2
    rfl
  rw [h0, c1, bd_some, L28]
  have hf1 : fr Xrc S a1 := hf.trans (c3.mono (fun c j h => by unfold Xrc; omega))
  refine loopC (fun f (a : St) i => f_X11_record_L11 Kv1 f (nI i) a) (fun y => ∃ a, y = some (bsI (bs (PMb S) 256), a) ∧ fr Xrc S a) (fun i a => 28 ≤ i ∧ fr Xrc S a ∧ hasS a 88 (rnm S (i - 28))) 32 ?_ ?_ 4 28 FU a1 (by omega) (by unfold FU; omega) ⟨Nat.le_refl _, hf1, c2⟩
  · intro f a ⟨_, g1, g2⟩
    obtain ⟨a', b1, b2⟩ := bestM_ok hI g1 g2
    refine ⟨a', ?_, b2⟩
    show f_X11_record_L11 _ (f + 1) _ _ = _
    rw [f_X11_record_L11, if_pos (show (32 : Int32) ≤ nI 32 from Int32.le_refl _), b1]
  · intro f a i hi ⟨h28, g1, g2⟩
    right
    obtain ⟨o1, h8, o3, -, -⟩ := hI.1 i hi
    have e1 : nI i + (1 : Int32) = nI (i + 1) := plus_n i 1
    have e67 : rd a 67 i = nI (nv S 16 i) := by rw [g1 _ _ (by unfold Xrc Xsc Xsm; omega)]; exact o3
    have en : rnm S (i + 1 - 28) = rnm S (i - 28) ++ (if nv S 16 i = 0 then [] else rsF S [i]) := by
      rw [show i + 1 - 28 = (i - 28) + 1 by omega, rnm, show 28 + (i - 28) = i by omega]
    show ∃ a', f_X11_record_L11 _ (f + 1) _ _ = f_X11_record_L11 _ f (nI (i + 1)) a' ∧ _
    rw [f_X11_record_L11, if_neg (show ¬ (32 : Int32) ≤ nI i from of_eq_false (le_F (a := 32) (by omega))), gd_t (inb_n hi (by decide)), cl_n (by omega), e67, lt_eq, lt_eq, e1, en]
    by_cases d : nv S 16 i = 0
    · rw [if_pos (show nI (nv S 16 i) ≤ 0 by rw [d]; exact Int32.le_refl _), if_pos d, List.append_nil]
      exact ⟨a, rfl, by omega, g1, g2⟩
    · have hfa : fr Xrc S (wr a 71 0 (nI i)) := g1.wr (by unfold Xrc Xsm; omega)
      have hk0 : ∀ k, k < [i].length → k = 0 := fun k hk => by simp at hk; omega
      obtain ⟨a', d1, d2, d3⟩ := add_ok (n := 88) (T := rnm S (i - 28)) (L := [i]) hI alen_88 (Or.inr rfl) hfa (hasS_cg g2 (fun j => rw_ne (by omega))) (by show 1 ≤ 16; decide) (fun k hk => by rw [hk0 k hk]; exact hi) (fun k hk => by rw [hk0 k hk]; exact rw_eq)
      rw [if_neg (show ¬ nI (nv S 16 i) ≤ (0 : Int32) from of_eq_false (le_F (b := 0) (by omega))), if_neg d]
      refine ⟨a', ?_, by omega, hfa.trans (d3.mono (fun c j h => by unfold Xrc; omega)), d2⟩
      rw [show wr a 71 (Int32.toNatClampNeg (0 : Int32)) (nI i) = wr a 71 0 (nI i) from rfl, show f_X11_addSteps 88 (0 : Int32) (1 : Int32) (wr a 71 0 (nI i)) = _ from d1, bd_some]
      show lt_ (nI (i + 1)) (fun x10 => f_X11_record_L11 Kv1 f x10 a') = _
      rw [lt_eq]
theorem record_all {S : St} (hI : I_lex S) : ∃ r S1 S2, f_X10_record S = some (r, S1) ∧ f_X11_record S1 = some (r, S2) ∧ fr Xrc S S2 := by
  obtain ⟨a, h1, h2⟩ := recordC_ok hI
  obtain ⟨b, h3, h4⟩ := recordM_ok hI h2
  exact ⟨_, a, b, h1, by rw [h3, PM_bs], h4⟩
