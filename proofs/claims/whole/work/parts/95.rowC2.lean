theorem otherC_ok {S a : St} {B : Nat → Nat} {N p n1 s : Nat} (hT : Txt S B N) (hf : fr Xt S a) (hp : p ≤ N) (hn1 : n1 < 10) (hl : ldC B N p a) (hs : s < 6) (h1 : rd a (23 + n1) 1 = nI s) :
    ∃ a', ((∃ v, numB B N p 6 = some v ∧ v ≠ s ∧ f_X9_readOther n1 a = some (1, a') ∧ ldC B N (tE B N p) a' ∧ rd a' (33 + n1) 0 = nI v) ∨ ((numB B N p 6 = none ∨ numB B N p 6 = some s) ∧ f_X9_readOther n1 a = some (0, a') ∧ rd a' 20 5 = nI (tB B N p))) ∧ fr (fun c j => (c = 20 ∧ (j = 4 ∨ j = 5 ∨ j = 6)) ∨ (c = 23 + n1 ∧ j = 3) ∨ c = 33 + n1) a a' := by
  obtain ⟨y1, y2, y3, y4, -⟩ := tok_facts B hp
  have hnum := numberC_ok hT hf hp hl
  unfold f_X9_readOther
  cases hn : num B N p with
  | none =>
    have hnum' : f_X9_number a = some (-1, a) := by rw [hnum, hn]
    rw [hnum', bd_some, belowm, bd_some, if_pos rfl]
    exact ⟨a, Or.inr ⟨Or.inl (by unfold numB; rw [hn]), rfl, hl.1⟩, fr.refl _ _⟩
  | some v =>
    have hv := num_le hp hn
    have hnum' : f_X9_number a = some (nI v, a) := by rw [hnum, hn]
    rw [hnum', bd_some, show f_X10_below (nI v) 6 a = _ from belowv (v := v) (b := 6) (by omega) (by omega) a, bd_some]
    by_cases c : v < 6
    · have hB : numB B N p 6 = some v := numB_some.mpr ⟨hn, c⟩
      rw [decide_eq_true c, if_neg (by decide), h1]
      by_cases d : v = s
      · rw [if_pos (by rw [d])]
        exact ⟨a, Or.inr ⟨Or.inr (by rw [hB, d]), rfl, hl.1⟩, fr.refl _ _⟩
      · rw [if_neg (by rw [eq_n (by omega) (by omega)]; exact d), lt_eq, lt_eq]
        have g : fr (fun c j => (c = 23 + n1 ∧ j = 3) ∨ c = 33 + n1) a (wr (wr a (33 + n1) (Int32.toNatClampNeg 0) (nI v)) (23 + n1) 3 1) := ((fr.refl _ _).wr (by omega)).wr (by omega)
        obtain ⟨a2, o1, o2, o3⟩ := step_ok (S := S) hT (hf.trans (g.mono (fun c j h => by unfold Xt; omega))) y4 (by rw [g _ _ (by omega)]; exact hl.2.1)
        rw [o1, bd_some]
        refine ⟨a2, Or.inl ⟨v, hB, d, rfl, o2, ?_⟩, (g.mono (fun c j h => Or.inr h)).trans (o3.mono (fun c j h => Or.inl h))⟩
        rw [o3 _ _ (by omega), rw_ne (by omega)]
        exact rw_eq
    · rw [decide_eq_false c, if_pos (by decide)]
      exact ⟨a, Or.inr ⟨Or.inl (by unfold numB; rw [hn]; exact if_neg c), rfl, hl.1⟩, fr.refl _ _⟩
def rowC (n1 : Nat) (row : Rw) (a : St) : Prop := rd a (23 + n1) 0 = nI row.1 ∧ rd a (23 + n1) 1 = nI row.2.1 ∧ (row.1 ≤ 1 → rd a (23 + n1) 3 = nI row.2.2.length) ∧ ∀ i, i < row.2.2.length → rd a (33 + n1) i = nI (row.2.2.getD i 0)
/-- how a row is read by the class: it fails, or it stands and the token behind it is at hand -/
def outC (B : Nat → Nat) (N p n1 : Nat) (x : Option (Int32 × St)) (a : St) : Prop := ∃ a', fr (Xr n1) a a' ∧ ((∃ ft, rowT B N p = .inl ft ∧ x = some (0, a') ∧ rd a' 20 5 = nI ft) ∨ (∃ row q, x = some (1, a') ∧ q ≤ N ∧ ldC B N q a' ∧ rowT B N p = (if term B N q = true then .inr (row, q) else .inl (tB B N q)) ∧ (term B N q = true → rowC n1 row a')))
theorem two_l {B : Nat → Nat} {N k p : Nat} (h : numB B N p 6 = none) : two B N k p = .inl (tB B N p) := by unfold two; rw [h]
theorem two_m {B : Nat → Nat} {N k p a : Nat} (h : numB B N p 6 = some a) (h2 : numB B N (tE B N p) 6 = none ∨ numB B N (tE B N p) 6 = some a) : two B N k p = .inl (tB B N (tE B N p)) := by
  unfold two
  rw [h]
  rcases h2 with h2 | h2
  · rw [h2]
  · rw [h2]; exact if_pos rfl
theorem two_r {B : Nat → Nat} {N k p a b : Nat} (h : numB B N p 6 = some a) (h2 : numB B N (tE B N p) 6 = some b) (hne : b ≠ a) : two B N k p = fin B N (k, a, [b]) (tE B N (tE B N p)) := by
  unfold two
  rw [h, h2]
  exact if_neg (fun z => hne z.symm)
theorem readRow_ok {S a : St} {B : Nat → Nat} {N p n1 : Nat} (hT : Txt S B N) (hf : fr Xt S a) (hp : p ≤ N) (hn1 : n1 < 10) (hl : ldC B N p a) : outC B N p n1 (f_X9_readRow n1 a) a := by
  obtain ⟨y1, y2, y3, y4, -⟩ := tok_facts B hp
  have y5 := (tok_facts B y4).2.2.2.1
  have y6 := (tok_facts B y5).2.2.2.1
  have y7 := (tok_facts B y6).2.2.2.1
  unfold f_X9_readRow
  rw [lt_eq]
  have g0 : fr (Xr n1) a (wr a (23 + n1) 3 0) := (fr.refl _ _).wr (by unfold Xr; omega)
  generalize ha0 : wr a (23 + n1) 3 0 = a0 at *
  have h30 : rd a0 (23 + n1) 3 = nI 0 := by rw [← ha0, rw_eq]; rfl
  have hl0 : ldC B N p a0 := ⟨by rw [← ha0, rw_ne (by omega)]; exact hl.1, by rw [← ha0, rw_ne (by omega)]; exact hl.2.1, by rw [← ha0, rw_ne (by omega)]; exact hl.2.2⟩
  have hf0 := Xr_t hn1 hf g0
  have k0 : ∀ {b c : St}, fr (fun c j => c = 20 ∧ (j = 4 ∨ j = 5 ∨ j = 6)) b c → fr (Xr n1) b c := fun h => h.mono (fun c j h => by unfold Xr; omega)
  have k1 : ∀ {b c : St}, fr (fun c j => (c = 20 ∧ (j = 4 ∨ j = 5 ∨ j = 6)) ∨ (c = 23 + n1 ∧ j = 1)) b c → fr (Xr n1) b c := fun h => h.mono (fun c j h => by unfold Xr; omega)
  have k3 : ∀ {b c : St}, fr (fun c j => (c = 20 ∧ (j = 4 ∨ j = 5 ∨ j = 6)) ∨ (c = 23 + n1 ∧ j = 3) ∨ c = 33 + n1) b c → fr (Xr n1) b c := fun h => h.mono (fun c j h => by unfold Xr; omega)
  -- a kind is set, a subject read
  have hkind : ∀ (b : St) (z : Int32), fr (Xr n1) a b → ldC B N (tE B N p) b → rd b (23 + n1) 3 = nI 0 → fr (Xr n1) a (wr b (23 + n1) 0 z) ∧ ldC B N (tE B N p) (wr b (23 + n1) 0 z) ∧ rd (wr b (23 + n1) 0 z) (23 + n1) 3 = nI 0 ∧ rd (wr b (23 + n1) 0 z) (23 + n1) 0 = z := fun b z h1 h2 h3 => ⟨h1.wr (by unfold Xr; omega), ⟨by rw [rw_ne (by omega)]; exact h2.1, by rw [rw_ne (by omega)]; exact h2.2.1, by rw [rw_ne (by omega)]; exact h2.2.2⟩, by rw [rw_ne (by omega)]; exact h3, rw_eq⟩
  -- the two of near and far
  have htwo : ∀ (b : St) (k : Nat), fr (Xr n1) a b → ldC B N (tE B N p) b → rd b (23 + n1) 3 = nI 0 → 2 ≤ k → rowT B N p = two B N k (tE B N p) → outC B N p n1 (lt_ (wr b (23 + n1) 0 (nI k)) fun S23 =>
            bd_ (f_X9_readSubject n1 (6 : Int32) S23) fun r24 S25 =>
            lt_ (fun  (S26 : St) =>
                some ((0 : Int32), S26)) fun J195 =>
            if r24 = 0 then
              J195  S25
            else
              bd_ (f_X9_readOther n1 S25) fun r28 S29 =>
              if r28 = 0 then
                J195  S29
              else
                some ((1 : Int32), S29)) a := by
    intro b k h1 h2 h3 hk2 hrow
    rw [lt_eq]
    obtain ⟨e1, e2, e3, e4⟩ := hkind b (nI k) h1 h2 h3
    generalize wr b (23 + n1) 0 (nI k) = b1 at *
    obtain ⟨b2, o1, o2⟩ := subjectC_ok (n1 := n1) (b := 6) hT (Xr_t hn1 hf e1) y4 hn1 (by omega) e2
    have f2 := e1.trans (k1 o2)
    rcases o1 with ⟨v, v1, v2, v3, v4⟩ | ⟨v1, v2, v3⟩
    · rw [show f_X9_readSubject n1 6 b1 = _ from v2, bd_some, lt_eq, if_neg (by decide)]
      have hv6 := (numB_some.mp v1).2
      obtain ⟨b3, u1, u2⟩ := otherC_ok (s := v) hT (Xr_t hn1 hf f2) y5 hn1 v3 hv6 v4
      have f3 := f2.trans (k3 u2)
      rcases u1 with ⟨w, w1, w2, w3, w4, w5⟩ | ⟨w1, w2, w3⟩
      · refine ⟨b3, f3, Or.inr ⟨(k, v, [w]), tE B N (tE B N (tE B N p)), by rw [w3, bd_some, if_neg (by decide)], y6, w4, by rw [hrow, two_r v1 w1 w2]; rfl, fun _ => ⟨?_, ?_, fun z => ?_, fun i hi => ?_⟩⟩⟩
        · rw [u2 _ _ (by omega), o2 _ _ (by omega)]; exact e4
        · rw [u2 _ _ (by omega)]; exact v4
        · have z' : k ≤ 1 := z; omega
        · have : i = 0 := by simp at hi; omega
          subst this; exact w5
      · exact ⟨b3, f3, Or.inl ⟨_, by rw [hrow]; exact two_m v1 w1, by rw [w2, bd_some, if_pos rfl], w3⟩⟩
    · rw [show f_X9_readSubject n1 6 b1 = _ from v2, bd_some, lt_eq, if_pos rfl]
      exact ⟨b2, f2, Or.inl ⟨_, by rw [hrow]; exact two_l v1, rfl, v3⟩⟩
  obtain ⟨a1, t1, t2, t3, t4⟩ := takes_ok (i := 0) hT hf0 hp (by omega) hl0
  rw [t1, bd_some]
  cases h0 : wIs B N p 0
  case true =>
    -- word
    rw [if_neg (by decide)]
    refine (show outC B N p n1 (lt_ _ _) a from ?_)
    rw [lt_eq]
    obtain ⟨e1, e2, e3, e4⟩ := hkind a1 0 (g0.trans (k0 t4)) (t2 h0) (by rw [t4 _ _ (by omega)]; exact h30)
    generalize wr a1 (23 + n1) 0 0 = b1 at *
    have hrow : rowT B N p = rowW B N (tE B N p) := by unfold rowT; rw [if_pos h0]
    unfold rowW at hrow
    obtain ⟨b2, o1, o2⟩ := subjectC_ok (n1 := n1) (b := 32) hT (Xr_t hn1 hf e1) y4 hn1 (by omega) e2
    have f2 := e1.trans (k1 o2)
    rcases o1 with ⟨v, v1, v2, v3, v4⟩ | ⟨v1, v2, v3⟩
    · rw [show f_X9_readSubject n1 32 b1 = _ from v2, bd_some, lt_eq, if_neg (by decide)]
      rw [v1] at hrow
      obtain ⟨b3, u1, u2, u3, u4⟩ := takes_ok (i := 1) hT (Xr_t hn1 hf f2) y5 (by omega) v3
      have f3 := f2.trans (k0 u4)
      rw [u1, bd_some]
      cases h1 : wIs B N (tE B N (tE B N p)) 1
      · rw [if_pos (by decide)]
        replace hrow : rowT B N p = .inl (tB B N (tE B N (tE B N p))) := by rw [hrow]; exact if_neg (by rw [h1]; decide)
        exact ⟨b3, f3, Or.inl ⟨_, hrow, rfl, by rw [u3 h1]; exact v3.1⟩⟩
      · rw [if_neg (by decide)]
        have hs3 : rd b3 (23 + n1) 3 = nI 0 := by rw [u4 _ _ (by omega), o2 _ _ (by omega)]; exact e3
        obtain ⟨b4, w1, w2⟩ := soundsC_ok hT (Xr_t hn1 hf f3) y6 hn1 (u2 h1) hs3
        have f4 := f3.trans (k3 w2)
        rcases w1 with ⟨l, x1, x2, x3, x4, x5⟩ | ⟨x1, x2, x3⟩
        · rw [x2, bd_some, if_neg (by decide)]
          replace hrow : rowT B N p = fin B N (0, v, l) (tE B N (tE B N (tE B N (tE B N p)))) := by
            rw [hrow]
            show (if _ then _ else _) = _
            rw [if_pos h1, x1]
          refine ⟨b4, f4, Or.inr ⟨(0, v, l), _, rfl, y7, x3, hrow, fun _ => ⟨?_, ?_, fun _ => x4, x5⟩⟩⟩
          · rw [w2 _ _ (by omega), u4 _ _ (by omega), o2 _ _ (by omega)]; exact e4
          · rw [w2 _ _ (by omega), u4 _ _ (by omega)]; exact v4
        · rw [x2, bd_some, if_pos rfl]
          replace hrow : rowT B N p = .inl (tB B N (tE B N (tE B N (tE B N p)))) := by
            rw [hrow]
            show (if _ then _ else _) = _
            rw [if_pos h1, x1]
          exact ⟨b4, f4, Or.inl ⟨_, hrow, rfl, x3⟩⟩
    · rw [show f_X9_readSubject n1 32 b1 = _ from v2, bd_some, lt_eq, if_pos rfl]
      rw [v1] at hrow
      exact ⟨b2, f2, Or.inl ⟨_, hrow, rfl, v3⟩⟩
  case false =>
    rw [if_pos (by decide)]
    have e0 := t3 h0
    subst e0
    obtain ⟨c1, s1, s2, s3, s4⟩ := takes_ok (i := 2) hT hf0 hp (by omega) hl0
    rw [s1, bd_some]
    cases h2 : wIs B N p 2
    case true =>
      -- line
      rw [if_neg (by decide)]
      refine (show outC B N p n1 (lt_ _ _) a from ?_)
      rw [lt_eq]
      obtain ⟨e1, e2, e3, e4⟩ := hkind c1 1 (g0.trans (k0 s4)) (s2 h2) (by rw [s4 _ _ (by omega)]; exact h30)
      generalize wr c1 (23 + n1) 0 1 = b1 at *
      have hrow : rowT B N p = rowL B N (tE B N p) := by unfold rowT; rw [if_neg (by rw [h0]; decide), if_pos h2]
      unfold rowL at hrow
      obtain ⟨b2, o1, o2⟩ := subjectC_ok (n1 := n1) (b := 8) hT (Xr_t hn1 hf e1) y4 hn1 (by omega) e2
      have f2 := e1.trans (k1 o2)
      rcases o1 with ⟨v, v1, v2, v3, v4⟩ | ⟨v1, v2, v3⟩
      · rw [show f_X9_readSubject n1 8 b1 = _ from v2, bd_some, lt_eq, if_neg (by decide)]
        rw [v1] at hrow
        obtain ⟨b3, u1, u2, u3, u4⟩ := takes_ok (i := 1) hT (Xr_t hn1 hf f2) y5 (by omega) v3
        have f3 := f2.trans (k0 u4)
        rw [u1, bd_some]
        cases h1 : wIs B N (tE B N (tE B N p)) 1
        · rw [if_pos (by decide)]
          replace hrow : rowT B N p = .inl (tB B N (tE B N (tE B N p))) := by rw [hrow]; exact if_neg (by rw [h1]; decide)
          exact ⟨b3, f3, Or.inl ⟨_, hrow, rfl, by rw [u3 h1]; exact v3.1⟩⟩
        · rw [if_neg (by decide)]
          have hs3 : rd b3 (23 + n1) 3 = nI 0 := by rw [u4 _ _ (by omega), o2 _ _ (by omega)]; exact e3
          obtain ⟨b4, w1, -, w2⟩ := partsC_ok (n1 := n1) hT hn1 8 0 (tE B N (tE B N (tE B N p))) b3 FU (by omega) y6 (by unfold FU; omega) (fun z => by omega) (Xr_t hn1 hf f3) (u2 h1) hs3
          have f4 := f3.trans (k3 w2)
          have hpd : f_X9_readParts n1 b3 = f_X9_readParts_L0 (fun S25 => some ((0 : Int32), S25)) (fun S26 => some ((1 : Int32), S26)) (fun S27 => some ((1 : Int32), S27)) n1 FU b3 := rfl
          rw [hpd]
          rcases w1 with ⟨ft, x1, x2⟩ | ⟨l, q, x1, x2, x3, x4, x5, x6, x7, x8⟩
          · replace hrow : rowT B N p = .inl ft := by
              rw [hrow]
              show (if _ then _ else _) = _
              rw [if_pos h1, x1]
            rcases x2 with ⟨x2, x3⟩ | ⟨x2, q, x3, x4, x5, x6⟩
            · rw [x2, bd_some, if_pos rfl]
              exact ⟨b4, f4, Or.inl ⟨ft, hrow, rfl, x3⟩⟩
            · rw [x2, bd_some, if_neg (by decide)]
              exact ⟨b4, f4, Or.inr ⟨(0, 0, []), q, rfl, x3, x4, by rw [hrow, if_neg (by rw [x5]; decide), x6], fun z => by rw [x5] at z; cases z⟩⟩
          · rw [x2, bd_some, if_neg (by decide)]
            replace hrow : rowT B N p = .inr ((1, v, l), q) := by
              rw [hrow]
              show (if _ then _ else _) = _
              rw [if_pos h1, x1]
            refine ⟨b4, f4, Or.inr ⟨(1, v, l), q, rfl, x3, x4, by rw [hrow, if_pos x5], fun _ => ⟨?_, ?_, fun _ => ?_, fun i hi => ?_⟩⟩⟩
            · rw [w2 _ _ (by omega), u4 _ _ (by omega), o2 _ _ (by omega)]; exact e4
            · rw [w2 _ _ (by omega), u4 _ _ (by omega)]; exact v4
            · rw [x6, Nat.zero_add]
            · have := x8 i hi; rw [Nat.zero_add] at this; exact this
      · rw [show f_X9_readSubject n1 8 b1 = _ from v2, bd_some, lt_eq, if_pos rfl]
        rw [v1] at hrow
        exact ⟨b2, f2, Or.inl ⟨_, hrow, rfl, v3⟩⟩
    case false =>
      rw [if_pos (by decide)]
      have e0 := s3 h2
      subst e0
      obtain ⟨c1, s1, s2, s3, s4⟩ := takes_ok (i := 3) hT hf0 hp (by omega) hl0
      rw [s1, bd_some]
      cases h3 : wIs B N p 3
      case true =>
        -- cut
        rw [if_neg (by decide)]
        refine (show outC B N p n1 (lt_ _ _) a from ?_)
        rw [lt_eq]
        obtain ⟨e1, e2, e3, e4⟩ := hkind c1 2 (g0.trans (k0 s4)) (s2 h3) (by rw [s4 _ _ (by omega)]; exact h30)
        generalize wr c1 (23 + n1) 0 2 = b1 at *
        have hrow : rowT B N p = rowU B N (tE B N p) := by unfold rowT; rw [if_neg (by rw [h0]; decide), if_neg (by rw [h2]; decide), if_pos h3]
        unfold rowU at hrow
        obtain ⟨b2, o1, o2⟩ := subjectC_ok (n1 := n1) (b := 100) hT (Xr_t hn1 hf e1) y4 hn1 (by omega) e2
        have f2 := e1.trans (k1 o2)
        rcases o1 with ⟨v, v1, v2, v3, v4⟩ | ⟨v1, v2, v3⟩
        · rw [show f_X9_readSubject n1 100 b1 = _ from v2, bd_some, gd_t (Or.inr rfl)]
          rw [v1] at hrow
          exact ⟨b2, f2, Or.inr ⟨(2, v, []), _, rfl, y5, v3, hrow, fun _ => ⟨by rw [o2 _ _ (by omega)]; exact e4, v4, fun z => by have z' : 2 ≤ 1 := z; omega, fun i hi => by simp at hi⟩⟩⟩
        · rw [show f_X9_readSubject n1 100 b1 = _ from v2, bd_some, gd_t (Or.inl rfl)]
          rw [v1] at hrow
          exact ⟨b2, f2, Or.inl ⟨_, hrow, rfl, v3⟩⟩
      case false =>
        rw [if_pos (by decide)]
        have e0 := s3 h3
        subst e0
        obtain ⟨c1, s1, s2, s3, s4⟩ := takes_ok (i := 4) hT hf0 hp (by omega) hl0
        rw [s1, bd_some]
        cases h4 : wIs B N p 4
        case true =>
          rw [if_neg (by decide)]
          exact htwo c1 3 (g0.trans (k0 s4)) (s2 h4) (by rw [s4 _ _ (by omega)]; exact h30) (by omega) (by unfold rowT; rw [if_neg (by rw [h0]; decide), if_neg (by rw [h2]; decide), if_neg (by rw [h3]; decide), if_pos h4])
        case false =>
          rw [if_pos (by decide)]
          have e0 := s3 h4
          subst e0
          obtain ⟨c1, s1, s2, s3, s4⟩ := takes_ok (i := 5) hT hf0 hp (by omega) hl0
          rw [s1, bd_some]
          cases h5 : wIs B N p 5
          case true =>
            rw [if_neg (by decide)]
            exact htwo c1 4 (g0.trans (k0 s4)) (s2 h5) (by rw [s4 _ _ (by omega)]; exact h30) (by omega) (by unfold rowT; rw [if_neg (by rw [h0]; decide), if_neg (by rw [h2]; decide), if_neg (by rw [h3]; decide), if_neg (by rw [h4]; decide), if_pos h5])
          case false =>
            rw [if_pos (by decide)]
            have e0 := s3 h5
            subst e0
            exact ⟨_, g0, Or.inl ⟨tB B N p, by unfold rowT; rw [if_neg (by rw [h0]; decide), if_neg (by rw [h2]; decide), if_neg (by rw [h3]; decide), if_neg (by rw [h4]; decide), if_neg (by rw [h5]; decide)], rfl, hl0.1⟩⟩
