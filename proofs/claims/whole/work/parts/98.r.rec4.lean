/-! ===== record: the class ===== -/
def lst0 (S : St) (l : Nat) : List Nat := if usb S l = true then rsF S (spk S l 0) else []
/-- the covers of the lines below l -/
def cvO (S a : St) (Q : List Nat) (l : Nat) : Prop := ∀ k, k < l → ∃ b, rl a 51 k = lN b ∧ cvr Q (lst0 S k) b
theorem qOK_cg {a b : St} {Q : List Nat} (h : qOK a Q) (g : fr Xsc a b) : qOK b Q := by
  obtain ⟨⟨h1, h2⟩, h3⟩ := h
  exact ⟨⟨by rw [g _ _ (by unfold Xsc; omega)]; exact h1, fun i hi => by rw [g _ _ (by unfold Xsc; omega)]; exact h2 i hi⟩, h3⟩
theorem lines_ok {S a0 : St} {Q : List Nat} (hI : I_lex S) (hf : fr Xrc S a0) (hQ : qOK a0 Q) (K : St → Option (Int32 × St)) : ∃ a, f_X4_fewestLines_L6 K FU (nI 0) a0 = K a ∧ fr Xrc S a ∧ qOK a Q ∧ cvO S a Q 8 := by
  refine loopC (fun f (a : St) l => f_X4_fewestLines_L6 K f (nI l) a) (fun y => ∃ a, y = K a ∧ fr Xrc S a ∧ qOK a Q ∧ cvO S a Q 8) (fun l a => fr Xrc S a ∧ qOK a Q ∧ cvO S a Q l) 8 ?_ ?_ 8 0 FU a0 (by omega) (by unfold FU; omega) ⟨hf, hQ, fun k hk => by omega⟩
  · intro f a ⟨g1, g2, g3⟩
    refine ⟨a, ?_, g1, g2, g3⟩
    show f_X4_fewestLines_L6 _ (f + 1) _ _ = _
    rw [f_X4_fewestLines_L6, if_pos (show (8 : Int32) ≤ nI 8 from Int32.le_refl _)]
  · intro f a l hl ⟨g1, g2, g3⟩
    right
    have ga : fr Xrc S (wl a 51 l 0) := g1.wl
    have qa : qOK (wl a 51 l 0) Q := by
      obtain ⟨⟨h1, h2⟩, h3⟩ := g2
      exact ⟨⟨by rw [rd_wl]; exact h1, fun i hi => by rw [rd_wl]; exact h2 i hi⟩, h3⟩
    have ca : ∀ k, k < l → ∃ b, rl (wl a 51 l 0) 51 k = lN b ∧ cvr Q (lst0 S k) b := fun k hk => by
      obtain ⟨b, h1, h2⟩ := g3 k hk
      exact ⟨b, by rw [rl_wl, if_neg (by omega)]; exact h1, h2⟩
    have cl0 : rl (wl a 51 l 0) 51 l = lN 0 := by rw [rl_eq]; rfl
    generalize ha1 : wl a 51 l 0 = a1 at *
    have e1 : nI l + (1 : Int32) = nI (l + 1) := plus_n l 1
    obtain ⟨k1, -⟩ := knows_n hI ga hl
    have hn := hasNumberC_ok hI ga hl
    have hlx := Xrc_lex ga
    obtain ⟨a2, s1, s2, s3⟩ := spell_ok (l := l) (v := 0) (hI.cg hlx) hl (by decide)
    rw [wtold_cg hlx, spk_cg hlx] at s1
    rw [spk_cg hlx] at s2
    have ga2 : fr Xrc S a2 := ga.trans (s3.mono (fun c j h => Or.inr (Or.inr (Or.inr (Or.inr (Or.inl h))))))
    have qa2 := qOK_cg qa s3
    have r2 : ∀ j, rl a2 51 j = rl a1 51 j := fun j => rl_spell _ _ _ _ _ s1 51 j
    obtain ⟨f1, -, -, f4⟩ := spk_facts hI hl (v := 0) (by decide)
    obtain ⟨b, c1, c2⟩ := spoken_ok hI ga2 qa2 s2 f1 f4
    have hun : ∀ a', rl a' 51 l = lN 0 → (∀ j, rl a' 51 j = rl a1 51 j) → usb S l = false → cvO S a' Q (l + 1) := by
      intro a' h0 hr hu k hk
      by_cases d : k = l
      · subst d
        refine ⟨0, h0, ?_⟩
        unfold lst0
        rw [if_neg (by rw [hu]; decide)]
        exact cvr0 Q
      · obtain ⟨b, h1, h2⟩ := ca k (by omega)
        exact ⟨b, by rw [hr]; exact h1, h2⟩
    show ∃ a', f_X4_fewestLines_L6 K (f + 1) (nI l) a = f_X4_fewestLines_L6 K f (nI (l + 1)) a' ∧ fr Xrc S a' ∧ qOK a' Q ∧ cvO S a' Q (l + 1)
    have hcl : (nI l).toNatClampNeg = l := cl_n (by omega)
    have hin : inb (nI l) 8 := inb_n hl (by decide)
    rw [f_X4_fewestLines_L6, if_neg (show ¬ (8 : Int32) ≤ nI l from of_eq_false (le_F (a := 8) (by omega)))]
    simp only [gd_t hin, lt_eq, hcl, show wl a 51 l (0 : Int64) = a1 from ha1, k1, bd_some, e1]
    by_cases u1 : 0 < nv S 18 l
    · rw [decide_eq_true u1, if_neg (show ¬ bI true = 0 by decide), hn, bd_some]
      cases u2 : hnb S l
      · rw [if_pos (show bI false = 0 from rfl), show (0 : Int32) = nI 0 from rfl, s1, bd_some]
        cases u3 : wtold S (spk S l 0)
        · rw [if_pos (show bI false = nI 0 from rfl)]
          exact ⟨a2, rfl, ga2, qa2, hun a2 (by rw [r2]; exact cl0) r2 (by unfold usb; rw [u3, Bool.and_false])⟩
        · rw [if_neg (show ¬ bI true = nI 0 by decide), c1, bd_some]
          refine ⟨wl a2 51 l (lN b), rfl, ga2.wl, ?_, fun k hk => ?_⟩
          · obtain ⟨⟨h1, h2⟩, h3⟩ := qa2
            exact ⟨⟨by rw [rd_wl]; exact h1, fun i hi => by rw [rd_wl]; exact h2 i hi⟩, h3⟩
          · by_cases d : k = l
            · subst d
              refine ⟨b, rl_eq, ?_⟩
              unfold lst0
              rw [if_pos (by unfold usb; rw [decide_eq_true u1, u2, u3]; rfl)]
              exact c2
            · obtain ⟨b', h1, h2⟩ := ca k (by omega)
              exact ⟨b', by rw [rl_wl, if_neg (by omega), r2]; exact h1, h2⟩
      · rw [if_neg (show ¬ bI true = 0 by decide)]
        exact ⟨a1, rfl, ga, qa, hun a1 cl0 (fun _ => rfl) (by unfold usb; rw [u2, Bool.not_true, Bool.and_false, Bool.false_and])⟩
    · rw [decide_eq_false u1, if_pos (show bI false = 0 from rfl)]
      exact ⟨a1, rfl, ga, qa, hun a1 cl0 (fun _ => rfl) (by unfold usb; rw [decide_eq_false u1, Bool.false_and, Bool.false_and])⟩
/-- a set of lines covers all names -/
def PCb (S : St) (m : Nat) : Bool := (rnm S 4).all (fun c => (List.range 8).any (fun l => tb m l && (usb S l && (rsF S (spk S l 0)).contains c)))
def PMb (S : St) (m : Nat) : Bool := (List.range 8).all (fun l => !tb m l || usb S l) && PCb S m
theorem PCb_iff {S : St} {m : Nat} : PCb S m = true ↔ ∀ c ∈ rnm S 4, ∃ l, l < 8 ∧ tb m l = true ∧ c ∈ lst0 S l := by
  unfold PCb
  rw [List.all_eq_true]
  have key : ∀ c, ((List.range 8).any (fun l => tb m l && (usb S l && (rsF S (spk S l 0)).contains c)) = true ↔ ∃ l, l < 8 ∧ tb m l = true ∧ c ∈ lst0 S l) := by
    intro c
    rw [any_at]
    constructor
    · rintro ⟨l, h1, h2⟩
      rw [Bool.and_eq_true, Bool.and_eq_true] at h2
      refine ⟨l, h1, h2.1, ?_⟩
      unfold lst0
      rw [if_pos h2.2.1]
      exact List.contains_iff_mem.mp h2.2.2
    · rintro ⟨l, h1, h2, h3⟩
      refine ⟨l, h1, ?_⟩
      unfold lst0 at h3
      split at h3
      · next u => rw [Bool.and_eq_true, Bool.and_eq_true]; exact ⟨h2, u, List.contains_iff_mem.mpr h3⟩
      · exact absurd h3 List.not_mem_nil
  exact ⟨fun h c hc => (key c).mp (h c hc), fun h c hc => (key c).mpr (h c hc)⟩
theorem PM_bs (S : St) : bs (PCb S) 256 = bs (PMb S) 256 := by
  refine (bs_eq (fun m h => ?_) (fun m hm h1 h2 => ?_) 256 (Nat.le_refl _)).1
  · unfold PMb at h; rw [Bool.and_eq_true] at h; exact h.2
  · unfold PMb at h2
    rw [h1, Bool.and_true, List.all_eq_false] at h2
    obtain ⟨l, hl, h3⟩ := h2
    replace hl := List.mem_range.mp hl
    rw [Bool.not_eq_true, Bool.or_eq_false_iff, Bool.not_eq_false'] at h3
    obtain ⟨d1, d2, d3⟩ := drop1 hm hl h3.1
    refine ⟨m ^^^ 2 ^ l, d1, ?_, d2⟩
    rw [PCb_iff] at h1 ⊢
    intro c hc
    obtain ⟨k, k1, k2, k3⟩ := h1 c hc
    refine ⟨k, k1, ?_, k3⟩
    rw [d3 k k1, k2, Bool.true_and]
    have : k ≠ l := fun e => by
      rw [e] at k3
      unfold lst0 at k3
      rw [if_neg (by rw [h3.2]; decide)] at k3
      exact absurd k3 List.not_mem_nil
    rw [decide_eq_false this]; rfl
theorem coverSet_ok {S a : St} {Q : List Nat} {m : Nat} (hm : m < 256) (hq : Q.length ≤ 36) (hc : cvO S a Q 8) (hQ : ∀ x, x ∈ Q ↔ x ∈ rnm S 4) : ∃ b, f_X4_coverOfSet (nI m) a = some (lN b, a) ∧ b < 2 ^ 36 ∧ (b = 2 ^ Q.length - 1 ↔ PCb S m = true) := by
  have key : ∃ b, f_X4_coverOfSet (nI m) a = some (lN b, a) ∧ b < 2 ^ 36 ∧ ∀ i, (tb b i = true ↔ ∃ k, k < 8 ∧ tb m k = true ∧ i < Q.length ∧ Q.getD i 0 ∈ lst0 S k) := by
    unfold f_X4_coverOfSet
    refine loopC (fun f (b : Nat) l => f_X4_coverOfSet_L5 (fun x11 S12 => some (x11, S12)) (nI m) f (lN b) (nI l) a) (fun y => ∃ b, y = some (lN b, a) ∧ b < 2 ^ 36 ∧ ∀ i, (tb b i = true ↔ ∃ k, k < 8 ∧ tb m k = true ∧ i < Q.length ∧ Q.getD i 0 ∈ lst0 S k)) (fun l b => b < 2 ^ 36 ∧ ∀ i, (tb b i = true ↔ ∃ k, k < l ∧ tb m k = true ∧ i < Q.length ∧ Q.getD i 0 ∈ lst0 S k)) 8 ?_ ?_ 8 0 FU 0 (by omega) (by unfold FU; omega) ⟨by decide, fun i => ⟨fun z => (tb0 z).elim, fun ⟨k, z, _⟩ => by omega⟩⟩
    · intro f b ⟨h1, h2⟩
      refine ⟨b, ?_, h1, h2⟩
      show f_X4_coverOfSet_L5 _ _ (f + 1) _ _ _ = _
      rw [f_X4_coverOfSet_L5, if_pos (show (8 : Int32) ≤ nI 8 from Int32.le_refl _)]
    · intro f b l hl ⟨h1, h2⟩
      right
      have e1 : nI l + (1 : Int32) = nI (l + 1) := plus_n l 1
      obtain ⟨b', c1, c2, c3⟩ := hc l hl
      have ht := tb_c (m := m) (i := l) (by omega) (by omega)
      have hst : f_X4_coverOfSet_L5 (fun x11 S12 => some (x11, S12)) (nI m) (f + 1) (lN b) (nI l) a = if tb m l = true then f_X4_coverOfSet_L5 (fun x11 S12 => some (x11, S12)) (nI m) f (lN b ||| lN b') (nI (l + 1)) a else f_X4_coverOfSet_L5 (fun x11 S12 => some (x11, S12)) (nI m) f (lN b) (nI (l + 1)) a := by
        rw [f_X4_coverOfSet_L5, if_neg (show ¬ (8 : Int32) ≤ nI l from of_eq_false (le_F (a := 8) (by omega))), lt_eq, e1, gd_t (inb_n hl (by decide)), cl_n (by omega), c1]
        simp only [ht, lt_eq]
      by_cases d : tb m l = true
      · refine ⟨b ||| b', ?_, Nat.or_lt_two_pow h1 c2, fun i => ?_⟩
        · show f_X4_coverOfSet_L5 _ _ (f + 1) _ _ _ = f_X4_coverOfSet_L5 _ _ f _ _ _
          rw [hst, if_pos d, lor_n (lt63 h1) (lt63 c2)]
        · rw [tb_or, Bool.or_eq_true, h2 i, c3 i]
          constructor
          · rintro (⟨k, z1, z2⟩ | z)
            · exact ⟨k, by omega, z2⟩
            · exact ⟨l, by omega, d, z⟩
          · rintro ⟨k, z1, z2⟩
            by_cases y : k = l
            · subst y; exact Or.inr z2.2
            · exact Or.inl ⟨k, by omega, z2⟩
      · refine ⟨b, ?_, h1, fun i => ?_⟩
        · show f_X4_coverOfSet_L5 _ _ (f + 1) _ _ _ = f_X4_coverOfSet_L5 _ _ f _ _ _
          rw [hst, if_neg d]
        · rw [h2 i]
          constructor
          · rintro ⟨k, z1, z2⟩; exact ⟨k, by omega, z2⟩
          · rintro ⟨k, z1, z2⟩
            by_cases y : k = l
            · subst y; exact absurd z2.1 d
            · exact ⟨k, by omega, z2⟩
  obtain ⟨b, b1, b2, b3⟩ := key
  refine ⟨b, b1, b2, ?_⟩
  rw [full_iff (fun i hi => by
    rw [Bool.eq_false_iff]; intro z
    obtain ⟨k, _, _, z3, _⟩ := (b3 i).mp z
    omega), PCb_iff]
  constructor
  · intro h c hcm
    obtain ⟨i, hi, e⟩ := at_mem ((hQ c).mpr hcm)
    obtain ⟨k, z1, z2, z3, z4⟩ := (b3 i).mp (h i hi)
    exact ⟨k, z1, z2, by rw [e] at z4; exact z4⟩
  · intro h i hi
    obtain ⟨k, z1, z2, z3⟩ := h (Q.getD i 0) ((hQ _).mp (mem_at hi))
    exact (b3 i).mpr ⟨k, z1, z2, hi, z3⟩
def bsI : Option Nat → Int32
  | none => -1
  | some b => nI b
def Kr2 (x45 : Int32) (S46 : St) : Option (Int32 × St) := some (x45, S46)
theorem bestC_step {S a : St} {Q : List Nat} (hq : Q.length ≤ 36) (hc : cvO S a Q 8) (hQ : ∀ x, x ∈ Q ↔ x ∈ rnm S 4) (f v : Nat) (hv : v < 256) : f_X4_fewestLines_L83 Kr2 (lN (2 ^ Q.length - 1)) (f + 1) (bsI (bs (PCb S) v)) (nI v) a = f_X4_fewestLines_L83 Kr2 (lN (2 ^ Q.length - 1)) f (bsI (bs (PCb S) (v + 1))) (nI (v + 1)) a := by
  obtain ⟨b, b1, b2, b3⟩ := coverSet_ok hv hq hc hQ
  have hcmp : (lg_cmp (lN b) (lN (2 ^ Q.length - 1)) = 0) ↔ PCb S v = true := by rw [lcmp (lt63 b2) (Nat.lt_of_le_of_lt (Nat.sub_le _ _) (Nat.lt_of_le_of_lt (p36 hq) (by decide))), b3]
  clear b2 b3
  generalize lN (2 ^ Q.length - 1) = FL at *
  have e1 : nI v + (1 : Int32) = nI (v + 1) := plus_n v 1
  have h10 : ¬ (1 : Int32) = 0 := by decide
  have h00 : (0 : Int32) = 0 := rfl
  have h256 : ¬ (256 : Int32) ≤ nI v := by rw [L256]; exact of_eq_false (le_F (by omega))
  rw [f_X4_fewestLines_L83, if_neg h256]
  cases hb : bs (PCb S) v with
  | none =>
    have en : bs (PCb S) (v + 1) = if PCb S v then some v else none := by rw [bs, hb]
    have hne : bsI none = (-1 : Int32) := rfl
    simp only [lt_eq, e1, if_pos hne, if_neg h10, b1, bd_some]
    rw [en]
    by_cases d : PCb S v = true
    · rw [if_pos (hcmp.mpr d), if_pos d, show bsI (some v) = nI v from rfl]
    · rw [if_neg (fun z => d (hcmp.mp z)), if_neg d]
  | some x =>
    have hx := bs_lt _ _ hb
    have en : bs (PCb S) (v + 1) = if pcn x 8 ≤ pcn v 8 then some x else if PCb S v then some v else some x := by rw [bs, hb]
    have q1 := pcn_le x 8
    have q2 := pcn_le v 8
    have hne : ¬ nI x = (-1 : Int32) := of_eq_false (ne_m1 (by omega))
    have hbs : bsI (some x) = nI x := rfl
    have k1 := bitCount_ok hv a
    have k2 := bitCount_ok (show x < 256 by omega) a
    simp only [lt_eq, e1, if_neg h10, if_pos h00, if_true]
    rw [hbs, if_neg hne, k1, bd_some, k2, bd_some, b1, bd_some, en]
    by_cases c : pcn x 8 ≤ pcn v 8
    · rw [if_pos (of_eq_true (le_T (by omega))), if_pos c, hbs]
    · rw [if_neg (of_eq_false (le_F (by omega))), if_neg c]
      by_cases d : PCb S v = true
      · rw [if_pos (hcmp.mpr d), if_pos d, show bsI (some v) = nI v from rfl]
      · rw [if_neg (fun z => d (hcmp.mp z)), if_neg d, hbs]
theorem bestC_ok {S a : St} {Q : List Nat} (hq : Q.length ≤ 36) (hc : cvO S a Q 8) (hQ : ∀ x, x ∈ Q ↔ x ∈ rnm S 4) : f_X4_fewestLines_L83 Kr2 (lN (2 ^ Q.length - 1)) FU (-1) (nI 0) a = some (bsI (bs (PCb S) 256), a) := by
  have hb0 : bsI (bs (PCb S) 0) = (-1 : Int32) := rfl
  rw [← hb0]
  refine loopC (fun f (_ : Unit) v => f_X4_fewestLines_L83 Kr2 (lN (2 ^ Q.length - 1)) f (bsI (bs (PCb S) v)) (nI v) a) (fun y => y = some (bsI (bs (PCb S) 256), a)) (fun _ _ => True) 256 ?_ ?_ 256 0 FU () (by omega) (by unfold FU; omega) trivial
  · intro f _ _
    show f_X4_fewestLines_L83 _ _ (f + 1) _ _ _ = _
    rw [f_X4_fewestLines_L83, if_pos (show (256 : Int32) ≤ nI 256 from Int32.le_refl _), Kr2]
  · intro f _ v hv _
    right
    refine ⟨(), ?_, trivial⟩
    exact bestC_step hq hc hQ f v hv
def Kr1 (S26 : St) : Option (Int32 × St) :=
      lt_ ((lshlv (1 : Int64) (rd S26 49 2)) - (1 : Int64)) fun x27 =>
      f_X4_fewestLines_L83 Kr2 x27 FU (-1 : Int32) (0 : Int32) S26
theorem recordC_ok {S : St} (hI : I_lex S) : ∃ a, f_X10_record S = some (bsI (bs (PCb S) 256), a) ∧ fr Xrc S a := by
  obtain ⟨a1, Q, g1, g2, g3, g4⟩ := gather_ok hI
  obtain ⟨a, n1, n2, n3, n4⟩ := lines_ok hI (Xq_rc g2) g3 Kr1
  refine ⟨a, ?_, n2⟩
  have h0 : f_X4_fewestLines S = bd_ (f_X4_gatherNames S) fun r6 S7 => f_X4_fewestLines_L6 Kr1 FU (0 : Int32) S7 := by
    unfold f_X4_fewestLines Kr1 Kr2
    rfl
  have hk : Kr1 a = some (bsI (bs (PCb S) 256), a) := by
    unfold Kr1
    rw [n3.1.1, full_n n3.2.1, lt_eq, L0]
    exact bestC_ok n3.2.1 n4 g4
  unfold f_X10_record
  rw [h0, g1, bd_some, show (0 : Int32) = nI 0 from rfl, n1, hk, bd_some]
