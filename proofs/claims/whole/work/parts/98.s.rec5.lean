/-! ===== record: the model ===== -/
def hasS (a : St) (n : Nat) (T : List Nat) : Prop := ∀ r, r < 17 → ∃ m, m < 131072 ∧ rd a n r = nI m ∧ ∀ b, b < 17 → (tb m b = true ↔ r * 17 + b ∈ T)
theorem hasS_cg {a a' : St} {n : Nat} {T : List Nat} (h : hasS a n T) (e : ∀ j, rd a' n j = rd a n j) : hasS a' n T := fun r hr => by
  rw [e]; exact h r hr
theorem hasS_add {a : St} {n p x : Nat} {T : List Nat} (h : hasS a n T) (hp : p < 17) (hx : x < 17) : ∃ m, rd a n p = nI m ∧ m < 131072 ∧ hasS (wr a n p (nI (m ||| 2 ^ x))) n (T ++ [p * 17 + x]) := by
  obtain ⟨m, m1, m2, m3⟩ := h p hp
  refine ⟨m, m2, m1, fun r hr => ?_⟩
  by_cases d : r = p
  · subst d
    refine ⟨m ||| 2 ^ x, ?_, rw_eq, fun b hb => ?_⟩
    · exact Nat.or_lt_two_pow (n := 17) m1 (Nat.pow_lt_pow_right (by decide) hx)
    · rw [tb_or, Bool.or_eq_true, m3 b hb, tb_pow, List.mem_append, List.mem_singleton]
      constructor
      · rintro (z | z)
        · exact Or.inl z
        · have : x = b := of_decide_eq_true z
          subst this; exact Or.inr rfl
      · rintro (z | z)
        · exact Or.inl z
        · exact Or.inr (decide_eq_true (by omega))
  · obtain ⟨k, k1, k2, k3⟩ := h r hr
    refine ⟨k, k1, by rw [rw_ne (Or.inr d)]; exact k2, fun b hb => ?_⟩
    rw [k3 b hb, List.mem_append, List.mem_singleton]
    exact ⟨fun z => Or.inl z, fun z => by rcases z with z | z; exact z; omega⟩
theorem alen_87 : alen 87 = 17 := rfl
theorem alen_88 : alen 88 = 17 := rfl
theorem clear_ok {n : Nat} (hn : alen n = 17) (a0 : St) : ∃ a, f_X11_clearSteps n a0 = some ((), a) ∧ hasS a n [] ∧ fr (fun c _ => c = n) a0 a := by
  unfold f_X11_clearSteps
  refine loopC (fun f (a : St) i => f_X11_clearSteps_L2 (fun S7 => some ((), S7)) n f (nI i) a) (fun y => ∃ a, y = some ((), a) ∧ hasS a n [] ∧ fr (fun c _ => c = n) a0 a) (fun i a => (∀ j, j < i → rd a n j = nI 0) ∧ fr (fun c _ => c = n) a0 a) 17 ?_ ?_ 17 0 FU a0 (by omega) (by unfold FU; omega) ⟨fun j hj => by omega, fr.refl _ _⟩
  · intro f a ⟨g1, g2⟩
    refine ⟨a, ?_, fun r hr => ⟨0, by decide, g1 r hr, fun b _ => ⟨fun z => (tb0 z).elim, fun z => absurd z List.not_mem_nil⟩⟩, g2⟩
    show f_X11_clearSteps_L2 _ _ (f + 1) _ _ = _
    rw [f_X11_clearSteps_L2, if_pos (show (17 : Int32) ≤ nI 17 from Int32.le_refl _)]
  · intro f a i hi ⟨g1, g2⟩
    right
    refine ⟨wr a n i (nI 0), ?_, fun j hj => ?_, g2.wr rfl⟩
    · show f_X11_clearSteps_L2 _ _ (f + 1) _ _ = f_X11_clearSteps_L2 _ _ f _ _
      rw [f_X11_clearSteps_L2, if_neg (show ¬ (17 : Int32) ≤ nI i from of_eq_false (le_F (a := 17) (by omega))), hn, gd_t (inb_n hi (by decide)), cl_n (by omega), lt_eq, lt_eq, show nI i + (1 : Int32) = nI (i + 1) from plus_n i 1]; rfl
    · by_cases y : j = i
      · rw [y, rw_eq]
      · rw [rw_ne (Or.inr y)]; exact g1 j (by omega)
theorem add18 {S a0 : St} {n w p k : Nat} {T : List Nat} (hI : I_lex S) (hn : alen n = 17) (hnn : n = 87 ∨ n = 88) (hf : fr Xrc S a0) (hT : hasS a0 n T) (hw : w < 32) (hk : k < 16) (h71 : rd a0 71 k = nI w) (hp : p ≤ 16) (v2 v3 : Int32) (K : Int32 → St → Option (Unit × St)) :
    ∃ a, f_X11_addSteps_L18 K n v2 v3 (nI k) FU (nI p) (nI 0) a0 = K (nI (rpv (rsn S w) p (nv S 16 w))) a ∧ hasS a n (T ++ rst (rsn S w) p (nv S 16 w)) ∧ fr (fun c _ => c = n) a0 a := by
  obtain ⟨o1, h8, o3, -, o5⟩ := hI.1 w hw
  refine loopC (fun f (a : St) i => f_X11_addSteps_L18 K n v2 v3 (nI k) f (nI (rpv (rsn S w) p i)) (nI i) a) (fun y => ∃ a, y = K (nI (rpv (rsn S w) p (nv S 16 w))) a ∧ hasS a n (T ++ rst (rsn S w) p (nv S 16 w)) ∧ fr (fun c _ => c = n) a0 a)
    (fun i a => hasS a n (T ++ rst (rsn S w) p i) ∧ fr (fun c _ => c = n) a0 a) (nv S 16 w) ?_ ?_ (nv S 16 w) 0 FU a0 (by omega) (by unfold FU; omega) ⟨by rw [rst, List.append_nil]; exact hT, fr.refl _ _⟩
  · intro f a ⟨g1, g2⟩
    have e71 : rd a 71 k = nI w := by rw [g2 _ _ (by omega)]; exact h71
    have e67 : rd a 67 w = nI (nv S 16 w) := by rw [g2 _ _ (by omega), hf _ _ (by unfold Xrc Xsc Xsm; omega)]; exact o3
    refine ⟨a, ?_, g1, g2⟩
    show f_X11_addSteps_L18 _ _ _ _ _ (f + 1) _ _ _ = _
    have hc1 : (nI k).toNatClampNeg = k := cl_n (by omega)
    have hc2 : (nI w).toNatClampNeg = w := cl_n (by omega)
    have hi1 : inb (nI k) 16 := inb_n hk (by decide)
    have hi2 : inb (nI w) 32 := inb_n hw (by decide)
    rw [f_X11_addSteps_L18]
    simp only [hc1, e71, hc2, e67, gd_t hi1, gd_t hi2]
    rw [if_pos (Int32.le_refl _)]
  · intro f a i hi ⟨g1, g2⟩
    right
    have e71 : rd a 71 k = nI w := by rw [g2 _ _ (by omega)]; exact h71
    have e67 : rd a 67 w = nI (nv S 16 w) := by rw [g2 _ _ (by omega), hf _ _ (by unfold Xrc Xsc Xsm; omega)]; exact o3
    have e68 : rd a 68 (8 * w + i) = nI (rsn S w i) := by rw [g2 _ _ (by omega), hf _ _ (by unfold Xrc Xsc Xsm; omega)]; exact o5 i hi
    have hp1 := rpv_le S w hp i
    have hs := rsn_lt S w i
    obtain ⟨m, m1, m2, m3⟩ := hasS_add (p := rpv (rsn S w) p i) (x := rsn S w i) g1 (by omega) (by omega)
    have h217 : 2 ^ rsn S w i < 2 ^ 17 := Nat.pow_lt_pow_right (by decide) (by omega)
    refine ⟨_, ?_, by rw [rst, ← List.append_assoc]; exact m3, g2.wr rfl⟩
    show f_X11_addSteps_L18 _ _ _ _ _ (f + 1) _ _ _ = f_X11_addSteps_L18 _ _ _ _ _ f (nI (rsn S w i)) _ _
    have hc1 : (nI k).toNatClampNeg = k := cl_n (by omega)
    have hc2 : (nI w).toNatClampNeg = w := cl_n (by omega)
    have hc3 : (nI (8 * w + i)).toNatClampNeg = 8 * w + i := cl_n (by omega)
    have hc4 : (nI (rpv (rsn S w) p i)).toNatClampNeg = rpv (rsn S w) p i := cl_n (by omega)
    have hi1 : inb (nI k) 16 := inb_n hk (by decide)
    have hi2 : inb (nI w) 32 := inb_n hw (by decide)
    have hi3 : inb (nI (8 * w + i)) 256 := inb_n (by omega) (by decide)
    have hi4 : inb (nI (rpv (rsn S w) p i)) 17 := inb_n (by omega) (by decide)
    have e8 : (8 : Int32) * nI w + nI i = nI (8 * w + i) := by rw [show (8 : Int32) = nI 8 from rfl, mul_n, plus_n]
    have e9 : nI m ||| ((1 : Int32) <<< (nI (rsn S w i) &&& 31)) = nI (m ||| 2 ^ rsn S w i) := by rw [shl17 (by omega), or_n (by omega) (by omega)]
    have e1 : nI i + (1 : Int32) = nI (i + 1) := plus_n i 1
    rw [f_X11_addSteps_L18]
    simp only [hc1, e71, hc2, e67, gd_t hi1, gd_t hi2, e8, gd_t hi3, hc3, e68, hn, gd_t hi4, hc4, m1, e9, e1, lt_eq]
    rw [if_neg (of_eq_false (le_F (by omega)))]
def Kas (n : Nat) (x26 : Int32) (S27 : St) : Option (Unit × St) :=
      gd_ (inb x26 (alen n)) <|
      gd_ (inb x26 (alen n)) <|
      lt_ (wr S27 n (Int32.toNatClampNeg x26) ((rd S27 n (Int32.toNatClampNeg x26)) ||| (65536 : Int32))) fun S29 =>
      some ((), S29)
theorem add_ok {S a0 : St} {n : Nat} {T L : List Nat} (hI : I_lex S) (hn : alen n = 17) (hnn : n = 87 ∨ n = 88) (hf : fr Xrc S a0) (hT : hasS a0 n T) (h16 : L.length ≤ 16) (hw : ∀ i, i < L.length → L.getD i 0 < 32) (h71 : ∀ i, i < L.length → rd a0 71 i = nI (L.getD i 0)) :
    ∃ a, f_X11_addSteps n (nI 0) (nI L.length) a0 = some ((), a) ∧ hasS a n (T ++ rsF S L) ∧ fr (fun c _ => c = n) a0 a := by
  have h0 : f_X11_addSteps n (nI 0) (nI L.length) a0 = f_X11_addSteps_L7 (Kas n) n (nI 0) (nI L.length) FU (16 : Int32) (nI 0) a0 := by
    unfold f_X11_addSteps
    rfl
  rw [h0, L16]
  refine loopC (fun f (a : St) k => f_X11_addSteps_L7 (Kas n) n (nI 0) (nI L.length) f (nI (rpL S L k)) (nI k) a) (fun y => ∃ a, y = some ((), a) ∧ hasS a n (T ++ rsF S L) ∧ fr (fun c _ => c = n) a0 a) (fun k a => hasS a n (T ++ rsL S L k) ∧ fr (fun c _ => c = n) a0 a) L.length ?_ ?_ L.length 0 FU a0 (by omega) (by unfold FU; omega) ⟨by rw [rsL, List.append_nil]; exact hT, fr.refl _ _⟩
  · intro f a ⟨g1, g2⟩
    have hp := rpL_le S L L.length
    obtain ⟨m, m1, m2, m3⟩ := hasS_add (p := rpL S L L.length) (x := 16) g1 (by omega) (by omega)
    refine ⟨_, ?_, by rw [rsF, ← List.append_assoc]; exact m3, g2.wr rfl⟩
    show f_X11_addSteps_L7 _ _ _ _ (f + 1) _ _ _ = _
    rw [f_X11_addSteps_L7, plus_n, Nat.zero_add, if_pos (Int32.le_refl _)]
    unfold Kas
    rw [hn, gd_t (inb_n (by omega) (by decide)), gd_t (inb_n (by omega) (by decide)), cl_n (by omega), m1, show (65536 : Int32) = nI (2 ^ 16) from rfl, or_n (by omega) (by decide), lt_eq]
  · intro f a k hk ⟨g1, g2⟩
    right
    have hfa : fr Xrc S a := hf.trans (g2.mono (fun c j h => by unfold Xrc; omega))
    obtain ⟨a', b1, b2, b3⟩ := add18 (w := L.getD k 0) (k := k) (p := rpL S L k) hI hn hnn hfa g1 (hw k hk) (by omega) (by rw [g2 _ _ (by omega)]; exact h71 k hk) (rpL_le S L k) (nI 0) (nI L.length) (fun (x23 : Int32) (S24 : St) =>
          lt_ (nI k + (1 : Int32)) fun x25 =>
          f_X11_addSteps_L7 (Kas n) n (nI 0) (nI L.length) f x23 x25 S24)
    refine ⟨a', ?_, by rw [rsL, ← List.append_assoc]; exact b2, g2.trans b3⟩
    show f_X11_addSteps_L7 _ _ _ _ (f + 1) _ _ _ = f_X11_addSteps_L7 _ _ _ _ f (nI (rpv (rsn S (L.getD k 0)) (rpL S L k) (nv S 16 (L.getD k 0)))) (nI (k + 1)) a'
    rw [f_X11_addSteps_L7, show nI 0 + nI L.length = nI L.length by rw [plus_n, Nat.zero_add], if_neg (of_eq_false (le_F (by omega)))]
    refine Eq.trans b1 ?_
    rw [lt_eq, show nI k + (1 : Int32) = nI (k + 1) from plus_n k 1]
/-- the steps of a set's lines -/
def rT (S : St) (m : Nat) : Nat → List Nat
  | 0 => []
  | k + 1 => rT S m k ++ (if tb m k = true then rsF S (spk S k 0) else [])
theorem rT_mem {S : St} {m c : Nat} : ∀ l, c ∈ rT S m l ↔ ∃ k, k < l ∧ tb m k = true ∧ c ∈ rsF S (spk S k 0) := by
  intro l
  induction l with
  | zero => exact ⟨fun z => absurd z List.not_mem_nil, fun ⟨k, z, _⟩ => by omega⟩
  | succ l ih =>
    rw [rT, List.mem_append, ih]
    constructor
    · rintro (⟨k, z1, z2⟩ | z)
      · exact ⟨k, by omega, z2⟩
      · split at z
        · next d => exact ⟨l, by omega, d, z⟩
        · exact absurd z List.not_mem_nil
    · rintro ⟨k, z1, z2, z3⟩
      by_cases y : k = l
      · subst y
        right
        rw [if_pos z2]; exact z3
      · exact Or.inl ⟨k, by omega, z2, z3⟩
def Kd1 (S22 : St) : Option (Int32 × St) := some ((0 : Int32), S22)
def Kd3 (x33 : Int32) (S34 : St) : Option (Int32 × St) := gd_ (bz x33) <| some (x33, S34)
def Kd2 (S23 : St) : Option (Int32 × St) := f_X11_doesRecord_L75 Kd3 FU (1 : Int32) (0 : Int32) S23
theorem rows_ok {a : St} {W T : List Nat} (hW : hasS a 88 W) (hT : hasS a 87 T) (hb : ∀ c ∈ W, c < 289) {B : Bool} (hB : B = true ↔ ∀ c ∈ W, c ∈ T) : Kd2 a = some (bI B, a) := by
  unfold Kd2
  rw [L1, L0]
  refine loopC (fun f (b : Bool) r => f_X11_doesRecord_L75 Kd3 f (bI b) (nI r) a) (fun y => y = some (bI B, a)) (fun r b => b = true ↔ ∀ c ∈ W, c < r * 17 → c ∈ T) 17 ?_ ?_ 17 0 FU true (by omega) (by unfold FU; omega) ⟨fun _ c _ z => by omega, fun _ => rfl⟩
  · intro f b h
    have e : b = B := by
      cases hB2 : B
      · cases hb2 : b
        · rfl
        · have := h.mp hb2
          have : B = true := hB.mpr (fun c hc => this c hc (by have := hb c hc; omega))
          rw [hB2] at this; cases this
      · exact h.mpr (fun c hc _ => hB.mp hB2 c hc)
    show f_X11_doesRecord_L75 _ (f + 1) _ _ _ = _
    rw [f_X11_doesRecord_L75, if_pos (show (17 : Int32) ≤ nI 17 from Int32.le_refl _), e]
    unfold Kd3
    rw [gd_t]
    cases B
    · exact Or.inl rfl
    · exact Or.inr rfl
  · intro f b r hr h
    right
    obtain ⟨m, m1, m2, m3⟩ := hW r hr
    obtain ⟨k, k1, k2, k3⟩ := hT r hr
    have hsub := sub_bits m1 k1
    have e1 : nI r + (1 : Int32) = nI (r + 1) := plus_n r 1
    have hst : ∀ x, f_X11_doesRecord_L75 Kd3 (f + 1) x (nI r) a = if x = 0 then f_X11_doesRecord_L75 Kd3 f 0 (nI (r + 1)) a else if (nI m &&& (nI k ^^^ (-1 : Int32))) = 0 then f_X11_doesRecord_L75 Kd3 f 1 (nI (r + 1)) a else f_X11_doesRecord_L75 Kd3 f 0 (nI (r + 1)) a := by
      intro x
      have hc1 : (nI r).toNatClampNeg = r := cl_n (by omega)
      have hi1 : inb (nI r) 17 := inb_n hr (by decide)
      rw [f_X11_doesRecord_L75, if_neg (show ¬ (17 : Int32) ≤ nI r from of_eq_false (le_F (a := 17) (by omega)))]
      simp only [lt_eq, gd_t hi1, hc1, m2, k2, e1]
    have hrow : (∀ c ∈ W, c < (r + 1) * 17 → c ∈ T) ↔ (∀ c ∈ W, c < r * 17 → c ∈ T) ∧ ∀ b, b < 17 → tb m b = true → tb k b = true := by
      constructor
      · intro z
        refine ⟨fun c hc hl => z c hc (by omega), fun b hb1 hb2 => ?_⟩
        exact (k3 b hb1).mpr (z _ ((m3 b hb1).mp hb2) (by omega))
      · rintro ⟨z1, z2⟩ c hc hl
        by_cases y : c < r * 17
        · exact z1 c hc y
        · have e : c = r * 17 + (c - r * 17) := by omega
          have hlt : c - r * 17 < 17 := by omega
          rw [e] at hc ⊢
          exact (k3 _ hlt).mp (z2 _ hlt ((m3 _ hlt).mpr hc))
    cases b
    · refine ⟨false, ?_, ⟨fun z => (by cases z), fun z => ?_⟩⟩
      · show f_X11_doesRecord_L75 _ (f + 1) 0 _ _ = f_X11_doesRecord_L75 _ f 0 _ _
        rw [hst, if_pos rfl]
      · exact h.mpr (hrow.mp z).1
    · by_cases d : ∀ b, b < 17 → tb m b = true → tb k b = true
      · refine ⟨true, ?_, ⟨fun _ => hrow.mpr ⟨h.mp rfl, d⟩, fun _ => rfl⟩⟩
        show f_X11_doesRecord_L75 _ (f + 1) 1 _ _ = f_X11_doesRecord_L75 _ f 1 _ _
        rw [hst, if_neg (by decide), if_pos (hsub.mpr d)]
      · refine ⟨false, ?_, ⟨fun z => (by cases z), fun z => absurd (hrow.mp z).2 d⟩⟩
        show f_X11_doesRecord_L75 _ (f + 1) 1 _ _ = f_X11_doesRecord_L75 _ f 0 _ _
        rw [hst, if_neg (by decide), if_neg (fun z => d (hsub.mp z))]
theorem rst_lt {S : St} {w p : Nat} (hp : p ≤ 16) : ∀ k, ∀ c ∈ rst (rsn S w) p k, c < 289 := by
  intro k
  induction k with
  | zero => intro c hc; exact absurd hc List.not_mem_nil
  | succ k ih =>
    intro c hc
    rw [rst, List.mem_append, List.mem_singleton] at hc
    rcases hc with hc | hc
    · exact ih c hc
    · have := rpv_le S w hp k
      have := rsn_lt S w k
      omega
theorem rsF_lt {S : St} {L : List Nat} : ∀ c ∈ rsF S L, c < 289 := by
  have key : ∀ k, ∀ c ∈ rsL S L k, c < 289 := by
    intro k
    induction k with
    | zero => intro c hc; exact absurd hc List.not_mem_nil
    | succ k ih =>
      intro c hc
      rw [rsL, List.mem_append] at hc
      rcases hc with hc | hc
      · exact ih c hc
      · exact rst_lt (rpL_le S L k) _ c hc
  intro c hc
  rw [rsF, List.mem_append, List.mem_singleton] at hc
  rcases hc with hc | hc
  · exact key _ c hc
  · have := rpL_le S L L.length
    omega
theorem rnm_lt {S : St} : ∀ k, ∀ c ∈ rnm S k, c < 289 := by
  intro k
  induction k with
  | zero => intro c hc; exact absurd hc List.not_mem_nil
  | succ k ih =>
    intro c hc
    rw [rnm, List.mem_append] at hc
    rcases hc with hc | hc
    · exact ih c hc
    · split at hc
      · exact absurd hc List.not_mem_nil
      · exact rsF_lt c hc
