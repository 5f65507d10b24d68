def rowM (w : Nat) (row : Rw) (a : St) : Prop := rd a 66 w = nI row.1 ∧ rd a 66 (w + 1) = nI row.2.1 ∧ (row.1 ≤ 1 → rd a 66 (w + 2) = nI row.2.2.length ∧ ∀ i, i < row.2.2.length → rd a 66 (w + 3 + i) = nI (if row.1 = 0 then row.2.2.getD i 0 else p32 (row.2.2.getD i 0))) ∧ (3 ≤ row.1 → rd a 66 (w + 2) = nI (row.2.2.getD 0 0))
def outM (B : Nat → Nat) (N p w : Nat) (x : Option (Int32 × St)) (a : St) : Prop := ∃ a', fr (Xv w) a a' ∧ ((∃ ft, rowT B N p = .inl ft ∧ x = some (0, a') ∧ rd a' 54 19 = nI ft) ∨ (∃ row q, x = some (1, a') ∧ q ≤ N ∧ ldM B N q a' ∧ rowT B N p = (if term B N q = true then .inr (row, q) else .inl (tB B N q)) ∧ (term B N q = true → rowM w row a')))
theorem areTwo_ok {a0 a : St} {B : Nat → Nat} {N p q w k : Nat} (hT0 : TxtM a0 B N) (hp : q ≤ N) (hw : w + 11 ≤ 110) (hk : 3 ≤ k) (hf : fr (Xv w) a0 a) (h14 : rd a 54 14 = nI q) (h0 : rd a 66 w = nI k) (hrow : rowT B N p = two B N k q) : outM B N p w (f_X11_areTwo (nI w) a) a0 := by
  have hT := Xv_txt hT0 hf
  obtain ⟨y1, y2, y3, y4, -⟩ := tok_facts B hp
  have y5 := (tok_facts B y4).2.2.2.1
  unfold f_X11_areTwo
  rw [show nI w + (1 : Int32) = nI (w + 1) from plus_n w 1, show nI w + (2 : Int32) = nI (w + 2) from plus_n w 2]
  obtain ⟨a1, o1, o2⟩ := isNumber_ok (x := w + 1) (hi := 5) hT hp h14 (by omega) (by omega)
  have f1 : fr (Xv w) a0 a1 := hf.trans (o2.mono (fun c j h => by unfold Xv; omega))
  rcases o1 with ⟨v, v1, v2, v3, v4, v5⟩ | ⟨v1, v2, v3⟩
  · rw [show f_X11_isNumber (nI (w + 1)) 0 5 a = _ from v2, bd_some, if_neg (by decide)]
    have hT1 := Xv_txt hT0 f1
    obtain ⟨a2, u1, u2⟩ := isNumber_ok (x := w + 2) (hi := 5) hT1 y4 v4 (by omega) (by omega)
    have f2 : fr (Xv w) a0 a2 := f1.trans (u2.mono (fun c j h => by unfold Xv; omega))
    rcases u1 with ⟨z, z1, z2, z3, z4, z5⟩ | ⟨z1, z2, z3⟩
    · rw [show f_X11_isNumber (nI (w + 2)) 0 5 a1 = _ from z2, bd_some, if_neg (by decide), gd_t (inb_n (show w + 1 < 110 by omega) (by decide)), gd_t (inb_n (show w + 2 < 110 by omega) (by decide)), cl_n (by omega), cl_n (by omega)]
      have e1 : rd a2 66 (w + 1) = nI v := by rw [u2 _ _ (by omega)]; exact v3
      have hv6 := (numB_some.mp v1).2
      have hz6 := (numB_some.mp z1).2
      rw [e1, z3]
      by_cases d : v = z
      · rw [if_pos (by rw [d]), fails_ok z5, bd_some, gd_t (Or.inl rfl)]
        exact ⟨_, f2.wr (by unfold Xv; omega), Or.inl ⟨_, by rw [hrow]; exact two_m v1 (Or.inr (by rw [d]; exact z1)), rfl, rw_eq⟩⟩
      · rw [if_neg (by rw [eq_n (by omega) (by omega)]; exact d)]
        have hT2 := Xv_txt hT0 f2
        obtain ⟨a3, s1, s2, s3⟩ := nextToken_ok hT2 y5 z4
        rw [s1, bd_some]
        refine ⟨a3, f2.trans (s3.mono (fun c j h => by unfold Xn at h; unfold Xv; omega)), Or.inr ⟨(k, v, [z]), _, rfl, y5, s2, by rw [hrow, two_r v1 z1 (fun x => d x.symm)]; rfl, fun _ => ⟨?_, ?_, fun x => ?_, fun _ => ?_⟩⟩⟩
        · rw [s3 _ _ (by unfold Xn; omega), u2 _ _ (by omega), o2 _ _ (by omega)]; exact h0
        · rw [s3 _ _ (by unfold Xn; omega)]; exact e1
        · have x' : k ≤ 1 := x; omega
        · rw [s3 _ _ (by unfold Xn; omega)]; exact z3
    · rw [show f_X11_isNumber (nI (w + 2)) 0 5 a1 = _ from z2, bd_some, if_pos rfl]
      exact ⟨a2, f2, Or.inl ⟨_, by rw [hrow]; exact two_m v1 (Or.inl z1), rfl, z3⟩⟩
  · rw [show f_X11_isNumber (nI (w + 1)) 0 5 a = _ from v2, bd_some, if_pos rfl]
    exact ⟨a1, f1, Or.inl ⟨_, by rw [hrow]; exact two_l v1, rfl, v3⟩⟩
theorem isRowOfText_ok {a : St} {B : Nat → Nat} {N p w : Nat} (hT : TxtM a B N) (hp : p ≤ N) (hw : w + 11 ≤ 110) (h14 : rd a 54 14 = nI p) : outM B N p w (f_X11_isRowOfText (nI w) a) a := by
  obtain ⟨y1, y2, y3, y4, -⟩ := tok_facts B hp
  have y5 := (tok_facts B y4).2.2.2.1
  have y6 := (tok_facts B y5).2.2.2.1
  have y7 := (tok_facts B y6).2.2.2.1
  obtain ⟨a1, o1, ⟨o2, o3, o4, o5⟩, o6⟩ := nextToken_ok hT hp h14
  have g1 : fr (Xv w) a a1 := o6.mono (fun c j h => by unfold Xn at h; unfold Xv; omega)
  unfold f_X11_isRowOfText
  rw [o1, bd_some, o4]
  have hwd : ∀ i, i < 6 → ((lg_cmp (tokV B N p) (lN (cdw i)) = 0) ↔ wIs B N p i = true) := fun i hi => lg0.trans (tokV_w hp hi)
  have hset : ∀ z : Int32, fr (Xv w) a (wr a1 66 w z) ∧ rd (wr a1 66 w z) 54 14 = nI (tE B N p) ∧ rd (wr a1 66 w z) 54 15 = nI (tB B N p) ∧ rd (wr a1 66 w z) 66 w = z := fun z => ⟨g1.wr (by unfold Xv; omega), by rw [rw_ne (by omega)]; exact o3, by rw [rw_ne (by omega)]; exact o2, rw_eq⟩
  rw [lt_eq]
  -- what each kind leads to
  have goW : wIs B N p 0 = true → outM B N p w (bd_ (f_X11_isNumber (nI w + (1 : Int32)) (0 : Int32) (31 : Int32) (wr a1 66 w 0)) fun r15 S16 =>
        lt_ (fun  (S17 : St) =>
            some ((0 : Int32), S17)) fun J160 =>
        if r15 = 0 then
          J160  S16
        else
          bd_ (f_X11_isIs  S16) fun r19 S20 =>
          if r19 = 0 then
            J160  S20
          else
            bd_ (f_X11_isRow (nI w) S20) fun r22 S23 =>
            if r22 = 0 then
              J160  S23
            else
              some ((1 : Int32), S23)) a := by
    intro h0
    obtain ⟨f0, e14, e15, e66⟩ := hset 0
    generalize wr a1 66 w 0 = b1 at *
    have hrow : rowT B N p = rowW B N (tE B N p) := by unfold rowT; rw [if_pos h0]
    unfold rowW at hrow
    rw [show nI w + (1 : Int32) = nI (w + 1) from plus_n w 1]
    obtain ⟨b2, u1, u2⟩ := isNumber_ok (x := w + 1) (hi := 31) (Xv_txt hT f0) y4 e14 (by omega) (by omega)
    have f2 : fr (Xv w) a b2 := f0.trans (u2.mono (fun c j h => by unfold Xv; omega))
    rcases u1 with ⟨v, v1, v2, v3, v4, v5⟩ | ⟨v1, v2, v3⟩
    · rw [show f_X11_isNumber (nI (w + 1)) 0 31 b1 = _ from v2, bd_some, lt_eq, if_neg (by decide)]
      rw [v1] at hrow
      obtain ⟨b3, s1, s2⟩ := isIs_ok (Xv_txt hT f2) y5 v4
      have f3 : fr (Xv w) a b3 := f2.trans (s2.mono (fun c j h => by unfold Xv; omega))
      rcases s1 with ⟨h1, s3, s4⟩ | ⟨h1, s3, s4⟩
      · rw [s3, bd_some, if_neg (by decide)]
        obtain ⟨b4, x1, x2⟩ := isRow_ok (Xv_txt hT f3) y6 s4 hw
        have f4 : fr (Xv w) a b4 := f3.trans (x2.mono (fun c j h => by unfold Xy at h; unfold Xv; omega))
        rcases x1 with ⟨l, q1, q2, q3, q4, q5⟩ | ⟨q1, q2, q3⟩
        · rw [q2, bd_some, if_neg (by decide)]
          replace hrow : rowT B N p = fin B N (0, v, l) (tE B N (tE B N (tE B N (tE B N p)))) := by
            rw [hrow]
            show (if _ then _ else _) = _
            rw [if_pos h1, q1]
          refine ⟨b4, f4, Or.inr ⟨(0, v, l), _, rfl, y7, q3, hrow, fun _ => ⟨?_, ?_, fun _ => ⟨q4, fun i hi => by rw [if_pos rfl]; exact q5 i hi⟩, fun z => by have z' : 3 ≤ 0 := z; omega⟩⟩⟩
          · rw [x2 _ _ (by unfold Xy; omega), s2 _ _ (by omega), u2 _ _ (by omega)]; exact e66
          · rw [x2 _ _ (by unfold Xy; omega), s2 _ _ (by omega)]; exact v3
        · rw [q2, bd_some, if_pos rfl]
          replace hrow : rowT B N p = .inl (tB B N (tE B N (tE B N (tE B N p)))) := by
            rw [hrow]
            show (if _ then _ else _) = _
            rw [if_pos h1, q1]
          exact ⟨b4, f4, Or.inl ⟨_, hrow, rfl, q3⟩⟩
      · rw [s3, bd_some, if_pos rfl]
        replace hrow : rowT B N p = .inl (tB B N (tE B N (tE B N p))) := by rw [hrow]; exact if_neg (by rw [h1]; decide)
        exact ⟨b3, f3, Or.inl ⟨_, hrow, rfl, s4⟩⟩
    · rw [show f_X11_isNumber (nI (w + 1)) 0 31 b1 = _ from v2, bd_some, lt_eq, if_pos rfl]
      rw [v1] at hrow
      exact ⟨b2, f2, Or.inl ⟨_, hrow, rfl, v3⟩⟩
  have goL : wIs B N p 0 = false → wIs B N p 2 = true → outM B N p w (bd_ (f_X11_isNumber (nI w + (1 : Int32)) (0 : Int32) (7 : Int32) (wr a1 66 w 1)) fun r26 S27 =>
        lt_ (fun  (S28 : St) =>
            some ((0 : Int32), S28)) fun J194 =>
        if r26 = 0 then
          J194  S27
        else
          bd_ (f_X11_isIs  S27) fun r30 S31 =>
          if r30 = 0 then
            J194  S31
          else
            bd_ (f_X11_areParts (nI w) S31) fun r33 S34 =>
            if r33 = 0 then
              J194  S34
            else
              some ((1 : Int32), S34)) a := by
    intro h0 h2
    obtain ⟨f0, e14, e15, e66⟩ := hset 1
    generalize wr a1 66 w 1 = b1 at *
    have hrow : rowT B N p = rowL B N (tE B N p) := by unfold rowT; rw [if_neg (by rw [h0]; decide), if_pos h2]
    unfold rowL at hrow
    rw [show nI w + (1 : Int32) = nI (w + 1) from plus_n w 1]
    obtain ⟨b2, u1, u2⟩ := isNumber_ok (x := w + 1) (hi := 7) (Xv_txt hT f0) y4 e14 (by omega) (by omega)
    have f2 : fr (Xv w) a b2 := f0.trans (u2.mono (fun c j h => by unfold Xv; omega))
    rcases u1 with ⟨v, v1, v2, v3, v4, v5⟩ | ⟨v1, v2, v3⟩
    · rw [show f_X11_isNumber (nI (w + 1)) 0 7 b1 = _ from v2, bd_some, lt_eq, if_neg (by decide)]
      rw [v1] at hrow
      obtain ⟨b3, s1, s2⟩ := isIs_ok (Xv_txt hT f2) y5 v4
      have f3 : fr (Xv w) a b3 := f2.trans (s2.mono (fun c j h => by unfold Xv; omega))
      rcases s1 with ⟨h1, s3, s4⟩ | ⟨h1, s3, s4⟩
      · rw [s3, bd_some, if_neg (by decide)]
        have hrow' : ∀ z, (match partsT B N 8 (tE B N (tE B N (tE B N p))) with | .inl f => (.inl f : Nat ⊕ (Rw × Nat)) | .inr (l, q) => .inr ((1, v, l), q)) = z → rowT B N p = z := fun z hz => by
          rw [hrow]
          show (if _ then _ else _) = _
          rw [if_pos h1, ← hz]
          cases partsT B N 8 (tE B N (tE B N (tE B N p))) <;> rfl
        -- parts
        unfold f_X11_areParts
        obtain ⟨c1, t1, t2, t3⟩ := nextToken_ok (Xv_txt hT f3) y6 s4
        rw [t1, bd_some]
        have fc : fr (Xv w) a c1 := f3.trans (t3.mono (fun c j h => by unfold Xn at h; unfold Xv; omega))
        obtain ⟨c2, q1, q2⟩ := partsM_ok (w := w) hw (fun  (S22 : St) =>
              bd_ (f_X11_fails  S22) fun r23 S24 =>
              gd_ (bz r23) <| some (r23, S24))
            (fun (x25 : Int32) (S26 : St) =>
              gd_ (inb (nI w + (2 : Int32)) 110) <|
              lt_ (wr S26 66 (Int32.toNatClampNeg (nI w + (2 : Int32))) x25) fun S27 =>
              lt_ (fun  (S29 : St) =>
                  some ((1 : Int32), S29)) fun J119 =>
              if 0 < x25 then
                J119  S27
              else
                bd_ (f_X11_fails  S27) fun r31 S32 =>
                if r31 = 0 then
                  some ((0 : Int32), S32)
                else
                  J119  S32) 8 0 (tE B N (tE B N (tE B N p))) c1 FU (by omega) y6 (by unfold FU; omega) (Xv_txt hT fc) t2
        have fd : fr (Xv w) a c2 := fc.trans (q2.mono (fun c j h => by unfold Xv; omega))
        -- what the end of the parts does
        have hK2 : ∀ s', (gd_ (inb (nI w + (2 : Int32)) 110) <|
              lt_ (wr c2 66 (Int32.toNatClampNeg (nI w + (2 : Int32))) (nI s')) fun S27 =>
              lt_ (fun  (S29 : St) =>
                  some ((1 : Int32), S29)) fun J119 =>
              if 0 < nI s' then
                J119  S27
              else
                bd_ (f_X11_fails  S27) fun r31 S32 =>
                if r31 = 0 then
                  some ((0 : Int32), S32)
                else
                  J119  S32) = (if 0 < nI s' then some ((1 : Int32), wr c2 66 (w + 2) (nI s')) else bd_ (f_X11_fails (wr c2 66 (w + 2) (nI s'))) fun r31 S32 => if r31 = 0 then some ((0 : Int32), S32) else some ((1 : Int32), S32)) := fun s' => by
          rw [show nI w + (2 : Int32) = nI (w + 2) from plus_n w 2, gd_t (inb_n (show w + 2 < 110 by omega) (by decide)), cl_n (by omega), lt_eq, lt_eq]
        have hld : ∀ q s', ldM B N q c2 → ldM B N q (wr c2 66 (w + 2) (nI s')) := fun q s' h => ⟨by rw [rw_ne (by omega)]; exact h.1, by rw [rw_ne (by omega)]; exact h.2.1, by rw [rl_wr]; exact h.2.2.1, fun z1 z2 => by rw [rw_ne (by omega)]; exact h.2.2.2 z1 z2⟩
        have hfz : ∀ q, ldM B N q c2 → (bd_ (f_X11_fails (wr c2 66 (w + 2) (nI 0))) fun r31 S32 => if r31 = 0 then some ((0 : Int32), S32) else some ((1 : Int32), S32)) = some (0, wr (wr c2 66 (w + 2) (nI 0)) 54 19 (nI (tB B N q))) := fun q h => by
          rw [fails_ok (show rd (wr c2 66 (w + 2) (nI 0)) 54 15 = nI (tB B N q) by rw [rw_ne (by omega)]; exact h.1), bd_some, if_pos rfl]
        have fe : ∀ s', fr (Xv w) a (wr c2 66 (w + 2) (nI s')) := fun s' => fd.wr (by unfold Xv; omega)
        have hpos : ∀ s', 1 ≤ s' → s' ≤ 8 → (0 : Int32) < nI s' := fun s' h1 h2 => of_eq_true (lt_T (a := 0) (by omega))
        have hzero : ¬ (0 : Int32) < nI 0 := by decide
        show outM B N p w (bd_ (f_X11_areParts_L6 _ _ (nI w) FU (nI 0) c1) _) a
        rcases q1 with ⟨ht, rfl, p2⟩ | ⟨ht, p1⟩
        · rw [p2, hK2 0, if_neg hzero, hfz _ t2, bd_some, if_pos rfl]
          have hpr : prt B N (tE B N (tE B N (tE B N p))) = none := by
            have hte := tokV_end (B := B) y6
            unfold term at ht
            rw [Bool.or_eq_true, Bool.and_eq_true] at ht
            have hv2 : tokV B N (tE B N (tE B N (tE B N p))) = -2 ∨ tokV B N (tE B N (tE B N (tE B N p))) = -3 := by
              rcases ht with z | ⟨z1, z2⟩
              · exact Or.inl (hte.1.mpr (of_decide_eq_true z))
              · exact Or.inr (hte.2.mpr ⟨of_decide_eq_true z1, of_decide_eq_true z2⟩)
            unfold prt
            rw [if_neg (fun z => by have := (tokV_hash y6).mpr z; rw [this] at hv2; exact absurd hv2 (by decide))]
            unfold numB
            cases hn : num B N (tE B N (tE B N (tE B N p))) with
            | none => rfl
            | some x => exact absurd hv2 (by rw [(tokV_num y6).mpr ⟨x, hn⟩]; decide)
          exact ⟨_, (fe 0).wr (by unfold Xv; omega), Or.inl ⟨_, hrow' _ (by rw [partsT, hpr]), rfl, rw_eq⟩⟩
        · rcases p1 with ⟨ft, p1, p2⟩ | ⟨l, q, p1, p2, p3, p4, p5, p6, p7, p8⟩
          · have hr := hrow' (.inl ft) (by rw [p1])
            rcases p2 with ⟨p2, p3⟩ | ⟨s', q, p2, p3, p4, p5, p6, p7, p8⟩
            · rw [p2, fails_ok p3, bd_some, gd_t (Or.inl rfl), bd_some, if_pos rfl]
              exact ⟨_, fd.wr (by unfold Xv; omega), Or.inl ⟨ft, hr, rfl, rw_eq⟩⟩
            · rw [p2, hK2 s']
              by_cases hs0 : s' = 0
              · subst hs0
                rw [if_neg hzero, hfz q p6, bd_some, if_pos rfl]
                exact ⟨_, (fe 0).wr (by unfold Xv; omega), Or.inl ⟨ft, hr, rfl, by rw [rw_eq, p8]⟩⟩
              · rw [if_pos (hpos s' (by omega) p4), bd_some, if_neg (by decide)]
                exact ⟨_, fe s', Or.inr ⟨(0, 0, []), q, rfl, p5, hld q s' p6, by rw [hr, if_neg (by rw [p7]; decide), p8], fun z => by rw [p7] at z; cases z⟩⟩
          · have hr := hrow' (.inr ((1, v, l), q)) (by rw [p1])
            rw [p2, Nat.zero_add, hK2 l.length, if_pos (hpos _ p3 (by omega)), bd_some, if_neg (by decide)]
            refine ⟨_, fe l.length, Or.inr ⟨(1, v, l), q, rfl, p5, hld q _ p6, by rw [hr, if_pos p7], fun _ => ⟨?_, ?_, fun _ => ⟨rw_eq, fun i hi => ?_⟩, fun z => by have z' : 3 ≤ 1 := z; omega⟩⟩⟩
            · rw [rw_ne (by omega), q2 _ _ (by omega), t3 _ _ (by unfold Xn; omega), s2 _ _ (by omega), u2 _ _ (by omega)]; exact e66
            · rw [rw_ne (by omega), q2 _ _ (by omega), t3 _ _ (by unfold Xn; omega), s2 _ _ (by omega)]; exact v3
            · have := p8 i hi
              rw [Nat.zero_add] at this
              rw [rw_ne (by omega)]
              show _ = nI (if (1 : Nat) = 0 then _ else _)
              rw [if_neg (by decide)]; exact this
      · rw [s3, bd_some, if_pos rfl]
        replace hrow : rowT B N p = .inl (tB B N (tE B N (tE B N p))) := by rw [hrow]; exact if_neg (by rw [h1]; decide)
        exact ⟨b3, f3, Or.inl ⟨_, hrow, rfl, s4⟩⟩
    · rw [show f_X11_isNumber (nI (w + 1)) 0 7 b1 = _ from v2, bd_some, lt_eq, if_pos rfl]
      rw [v1] at hrow
      exact ⟨b2, f2, Or.inl ⟨_, hrow, rfl, v3⟩⟩
  have hin : inb (nI w) 110 := inb_n (by omega) (by decide)
  have hcl : (nI w).toNatClampNeg = w := cl_n (by omega)
  have goU : wIs B N p 0 = false → wIs B N p 2 = false → wIs B N p 3 = true → outM B N p w (bd_ (f_X11_isNumber (nI w + (1 : Int32)) (0 : Int32) (99 : Int32) (wr a1 66 w 2)) fun r37 S38 =>
        if r37 = 0 then
          some ((0 : Int32), S38)
        else
          bd_ (f_X11_nextToken  S38) fun r40 S41 =>
          some ((1 : Int32), S41)) a := by
    intro h0 h2 h3
    obtain ⟨f0, e14, e15, e66⟩ := hset 2
    generalize wr a1 66 w 2 = b1 at *
    have hrow : rowT B N p = rowU B N (tE B N p) := by unfold rowT; rw [if_neg (by rw [h0]; decide), if_neg (by rw [h2]; decide), if_pos h3]
    unfold rowU at hrow
    rw [show nI w + (1 : Int32) = nI (w + 1) from plus_n w 1]
    obtain ⟨b2, u1, u2⟩ := isNumber_ok (x := w + 1) (hi := 99) (Xv_txt hT f0) y4 e14 (by omega) (by omega)
    have f2 : fr (Xv w) a b2 := f0.trans (u2.mono (fun c j h => by unfold Xv; omega))
    rcases u1 with ⟨v, v1, v2, v3, v4, v5⟩ | ⟨v1, v2, v3⟩
    · rw [show f_X11_isNumber (nI (w + 1)) 0 99 b1 = _ from v2, bd_some, if_neg (by decide)]
      rw [v1] at hrow
      obtain ⟨b3, s1, s2, s3⟩ := nextToken_ok (Xv_txt hT f2) y5 v4
      rw [s1, bd_some]
      refine ⟨b3, f2.trans (s3.mono (fun c j h => by unfold Xn at h; unfold Xv; omega)), Or.inr ⟨(2, v, []), _, rfl, y5, s2, hrow, fun _ => ⟨?_, ?_, fun z => by have z' : 2 ≤ 1 := z; omega, fun z => by have z' : 3 ≤ 2 := z; omega⟩⟩⟩
      · rw [s3 _ _ (by unfold Xn; omega), u2 _ _ (by omega)]; exact e66
      · rw [s3 _ _ (by unfold Xn; omega)]; exact v3
    · rw [show f_X11_isNumber (nI (w + 1)) 0 99 b1 = _ from v2, bd_some, if_pos rfl]
      rw [v1] at hrow
      exact ⟨b2, f2, Or.inl ⟨_, hrow, rfl, v3⟩⟩
  have goT : ∀ k : Nat, 3 ≤ k → rowT B N p = two B N k (tE B N p) → outM B N p w (bd_ (f_X11_areTwo (nI w) (wr a1 66 w (nI k))) fun r12 S13 => gd_ (bz r12) <| some (r12, S13)) a := by
    intro k hk hrow
    obtain ⟨f0, e14, e15, e66⟩ := hset (nI k)
    obtain ⟨a', h1, h2⟩ := areTwo_ok (k := k) hT y4 hw hk f0 e14 e66 hrow
    refine ⟨a', h1, ?_⟩
    rcases h2 with ⟨ft, p1, p2, p3⟩ | ⟨row, q, p1, p2⟩
    · exact Or.inl ⟨ft, p1, by rw [p2, bd_some, gd_t (Or.inl rfl)], p3⟩
    · exact Or.inr ⟨row, q, by rw [p1, bd_some, gd_t (Or.inr rfl)], p2⟩
  cases h0 : wIs B N p 0
  case true =>
    rw [if_pos (show lg_cmp (tokV B N p) (464134 : Int64) = 0 from (hwd 0 (by omega)).mpr h0)]
    refine (show outM B N p w (gd_ (inb (nI w) 110) _) a from ?_)
    rw [gd_t hin]
    simp only [hcl, lt_eq, gd_t hin, rw_eq, if_true]
    exact goW h0
  case false =>
  rw [if_neg (show ¬ lg_cmp (tokV B N p) (464134 : Int64) = 0 from fun z => by have := (hwd 0 (by omega)).mp z; rw [h0] at this; cases this)]
  cases h2 : wIs B N p 2
  case true =>
    rw [if_pos (show lg_cmp (tokV B N p) (243140 : Int64) = 0 from (hwd 2 (by omega)).mpr h2)]
    refine (show outM B N p w (gd_ (inb (nI w) 110) _) a from ?_)
    rw [gd_t hin]
    simp only [hcl, lt_eq, gd_t hin, rw_eq, if_true, if_neg (show ¬ (1 : Int32) = 0 by decide)]
    exact goL h0 h2
  case false =>
  rw [if_neg (show ¬ lg_cmp (tokV B N p) (243140 : Int64) = 0 from fun z => by have := (hwd 2 (by omega)).mp z; rw [h2] at this; cases this)]
  cases h3 : wIs B N p 3
  case true =>
    rw [if_pos (show lg_cmp (tokV B N p) (2774 : Int64) = 0 from (hwd 3 (by omega)).mpr h3)]
    refine (show outM B N p w (gd_ (inb (nI w) 110) _) a from ?_)
    rw [gd_t hin]
    simp only [hcl, lt_eq, gd_t hin, rw_eq, if_true, if_neg (show ¬ (2 : Int32) = 0 by decide), if_neg (show ¬ (2 : Int32) = 1 by decide)]
    exact goU h0 h2 h3
  case false =>
  rw [if_neg (show ¬ lg_cmp (tokV B N p) (2774 : Int64) = 0 from fun z => by have := (hwd 3 (by omega)).mp z; rw [h3] at this; cases this)]
  cases h4 : wIs B N p 4
  case true =>
    rw [if_pos (show lg_cmp (tokV B N p) (279252 : Int64) = 0 from (hwd 4 (by omega)).mpr h4)]
    refine (show outM B N p w (gd_ (inb (nI w) 110) _) a from ?_)
    rw [gd_t hin]
    simp only [hcl, lt_eq, gd_t hin, rw_eq, if_true, if_neg (show ¬ (3 : Int32) = 0 by decide), if_neg (show ¬ (3 : Int32) = 1 by decide), if_neg (show ¬ (3 : Int32) = 2 by decide)]
    exact goT 3 (by omega) (by unfold rowT; rw [if_neg (by rw [h0]; decide), if_neg (by rw [h2]; decide), if_neg (by rw [h3]; decide), if_pos h4])
  case false =>
  rw [if_neg (show ¬ lg_cmp (tokV B N p) (279252 : Int64) = 0 from fun z => by have := (hwd 4 (by omega)).mp z; rw [h4] at this; cases this)]
  cases h5 : wIs B N p 5
  case true =>
    rw [if_pos (show lg_cmp (tokV B N p) (4419 : Int64) = 0 from (hwd 5 (by omega)).mpr h5)]
    refine (show outM B N p w (gd_ (inb (nI w) 110) _) a from ?_)
    rw [gd_t hin]
    simp only [hcl, lt_eq, gd_t hin, rw_eq, if_true, if_neg (show ¬ (4 : Int32) = 0 by decide), if_neg (show ¬ (4 : Int32) = 1 by decide), if_neg (show ¬ (4 : Int32) = 2 by decide), if_neg (show ¬ (4 : Int32) = 3 by decide)]
    exact goT 4 (by omega) (by unfold rowT; rw [if_neg (by rw [h0]; decide), if_neg (by rw [h2]; decide), if_neg (by rw [h3]; decide), if_neg (by rw [h4]; decide), if_pos h5])
  case false =>
  rw [if_neg (show ¬ lg_cmp (tokV B N p) (4419 : Int64) = 0 from fun z => by have := (hwd 5 (by omega)).mp z; rw [h5] at this; cases this)]
  refine (show outM B N p w (gd_ (inb (nI w) 110) _) a from ?_)
  rw [gd_t hin]
  obtain ⟨f0, e14, e15, e66⟩ := hset (-1)
  simp only [hcl, lt_eq, gd_t hin, rw_eq, if_neg (show ¬ (-1 : Int32) = 0 by decide), if_neg (show ¬ (-1 : Int32) = 1 by decide), if_neg (show ¬ (-1 : Int32) = 2 by decide), if_neg (show ¬ (-1 : Int32) = 3 by decide), if_neg (show ¬ (-1 : Int32) = 4 by decide), fails_ok e15, bd_some]
  refine ⟨wr (wr a1 66 w (-1)) 54 19 (nI (tB B N p)), f0.wr (by unfold Xv; omega), Or.inl ⟨tB B N p, by unfold rowT; rw [if_neg (by rw [h0]; decide), if_neg (by rw [h2]; decide), if_neg (by rw [h3]; decide), if_neg (by rw [h4]; decide), if_neg (by rw [h5]; decide)], ?_, rw_eq⟩⟩
  exact gd_t (Or.inl rfl)
