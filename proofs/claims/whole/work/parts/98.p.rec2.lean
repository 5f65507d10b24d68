/-! ===== record: steps; the class gathers the names ===== -/
def rsn (S : St) (w i : Nat) : Nat := wx S w / 16 ^ i % 16
def rpv (g : Nat → Nat) (p : Nat) : Nat → Nat
  | 0 => p
  | k + 1 => g k
def rst (g : Nat → Nat) (p : Nat) : Nat → List Nat
  | 0 => []
  | k + 1 => rst g p k ++ [rpv g p k * 17 + g k]
def rpL (S : St) (L : List Nat) : Nat → Nat
  | 0 => 16
  | k + 1 => rpv (rsn S (L.getD k 0)) (rpL S L k) (nv S 16 (L.getD k 0))
def rsL (S : St) (L : List Nat) : Nat → List Nat
  | 0 => []
  | k + 1 => rsL S L k ++ rst (rsn S (L.getD k 0)) (rpL S L k) (nv S 16 (L.getD k 0))
def rsF (S : St) (L : List Nat) : List Nat := rsL S L L.length ++ [rpL S L L.length * 17 + 16]
def rnm (S : St) : Nat → List Nat
  | 0 => []
  | k + 1 => rnm S k ++ (if nv S 16 (28 + k) = 0 then [] else rsF S [28 + k])
theorem rsn_lt (S : St) (w i : Nat) : rsn S w i < 16 := Nat.mod_lt _ (by decide)
theorem rpv_le (S : St) (w : Nat) {p : Nat} (hp : p ≤ 16) : ∀ k, rpv (rsn S w) p k ≤ 16
  | 0 => hp
  | k + 1 => Nat.le_of_lt (rsn_lt S w k)
theorem rpL_le (S : St) (L : List Nat) : ∀ k, rpL S L k ≤ 16
  | 0 => Nat.le_refl _
  | k + 1 => rpv_le S _ (rpL_le S L k) _
def Xrc (c j : Nat) : Prop := c = 50 ∨ (c = 49 ∧ j = 2) ∨ c = 87 ∨ c = 88 ∨ Xsc c j ∨ Xsm c j
theorem Xrc_lex {S S' : St} (h : fr Xrc S S') : ∀ c j, lexD c → rd S' c j = rd S c j := fun c j hc => h c j (by unfold lexD at hc; unfold Xrc Xsc Xsm; omega)
theorem sndC_cg {S a : St} (hI : I_lex S) (h : fr Xrc S a) {w i : Nat} (hw : w < 32) (hi : i < nv S 16 w) : f_X1_soundOf (nI w) (nI i) a = some (nI (rsn S w i), a) := by
  have hl := Xrc_lex h
  obtain ⟨e1, e2, -, -⟩ := lex_cg hl
  have := soundOf_ok ((hI.cg hl).1 w hw) hw (i := i) (by rw [e1]; exact hi)
  rw [this, e2]; rfl
theorem len_cg {S a : St} (hI : I_lex S) (h : fr Xrc S a) {w : Nat} (hw : w < 32) : rd a 16 w = nI (nv S 16 w) := by
  rw [h _ _ (by unfold Xrc Xsc Xsm; omega)]; exact (hI.1 w hw).1
theorem at_mem {L : List Nat} {x : Nat} (h : x ∈ L) : ∃ i, i < L.length ∧ L.getD i 0 = x := by
  obtain ⟨i, hi, e⟩ := List.getElem_of_mem h
  exact ⟨i, hi, by rw [List.getD_eq_getElem?_getD, List.getElem?_eq_getElem hi]; exact e⟩
theorem nd_at {L : List Nat} (h : L.Nodup) {i j : Nat} (hi : i < L.length) (hj : j < L.length) (e : L.getD i 0 = L.getD j 0) : i = j := by
  rw [List.getD_eq_getElem?_getD, List.getElem?_eq_getElem hi, List.getD_eq_getElem?_getD, List.getElem?_eq_getElem hj] at e
  replace e : L[i] = L[j] := e
  have hp := List.pairwise_iff_getElem.mp h
  rcases Nat.lt_trichotomy i j with c | c | c
  · exact absurd e (hp i j hi hj c)
  · exact c
  · exact absurd e.symm (hp j i hj hi c)
/-- the steps wanted, one behind the other -/
def qOK (a : St) (Q : List Nat) : Prop := hasL a 50 49 2 Q ∧ Q.length ≤ 36 ∧ (∀ x ∈ Q, x < 289) ∧ Q.Nodup
theorem bitOf_ok {a : St} {Q : List Nat} {c : Nat} (h : qOK a Q) (hc : c < 289) : ∃ b, f_X4_bitOf (nI c) a = some (lN b, a) ∧ b < 2 ^ 36 ∧ (b = 0 ↔ c ∉ Q) ∧ ∀ i, (tb b i = true ↔ i < Q.length ∧ Q.getD i 0 = c) := by
  obtain ⟨⟨h1, h2⟩, h3, h4, h5⟩ := h
  unfold f_X4_bitOf
  refine loopC (fun f (_ : Unit) i => f_X4_bitOf_L2 _ _ (nI c) f (nI i) a) (fun x => ∃ b, x = some (lN b, a) ∧ b < 2 ^ 36 ∧ (b = 0 ↔ c ∉ Q) ∧ ∀ i, (tb b i = true ↔ i < Q.length ∧ Q.getD i 0 = c)) (fun i _ => ∀ j, j < i → Q.getD j 0 ≠ c) Q.length ?_ ?_ Q.length 0 FU () (by omega) (by unfold FU; omega) (fun j hj => by omega)
  · intro f _ hn
    refine ⟨0, ?_, by decide, ⟨fun _ hm => ?_, fun _ => rfl⟩, fun i => ⟨fun z => ?_, fun z => absurd z.2 (hn i z.1)⟩⟩
    · show f_X4_bitOf_L2 _ _ _ (f + 1) _ _ = _
      rw [f_X4_bitOf_L2, h1, if_pos (Int32.le_refl _)]; rfl
    · obtain ⟨i, hi, e⟩ := at_mem hm
      exact hn i hi e
    · unfold tb at z; rw [Nat.zero_testBit] at z; cases z
  · intro f _ i hi hn
    have e := h2 i hi
    have hx := h4 _ (mem_at hi)
    have hst : f_X4_bitOf_L2 (fun (x7 : Int32) (S8 : St) => some ((lshlv (1 : Int64) x7), S8)) (fun (S9 : St) => some ((0 : Int64), S9)) (nI c) (f + 1) (nI i) a = if nI (Q.getD i 0) = nI c then some (lN (2 ^ i), a) else f_X4_bitOf_L2 (fun (x7 : Int32) (S8 : St) => some ((lshlv (1 : Int64) x7), S8)) (fun (S9 : St) => some ((0 : Int64), S9)) (nI c) f (nI (i + 1)) a := by
      rw [f_X4_bitOf_L2, h1, if_neg (of_eq_false (le_F (by omega))), gd_t (inb_n (by omega) (by decide)), cl_n (by omega), e, lshl_n (by omega), lt_eq, show nI i + (1 : Int32) = nI (i + 1) from plus_n i 1]
    by_cases d : Q.getD i 0 = c
    · left
      refine ⟨2 ^ i, ?_, ?_, ⟨fun z => ?_, fun z => ?_⟩, fun j => ?_⟩
      · show f_X4_bitOf_L2 _ _ _ (f + 1) _ _ = _
        rw [hst, if_pos (by rw [d])]
      · exact Nat.pow_lt_pow_right (by decide) (by omega)
      · have := Nat.one_le_two_pow (n := i); omega
      · exact absurd (d ▸ mem_at hi) z
      · rw [tb_pow]
        constructor
        · intro z
          have : i = j := of_decide_eq_true z
          subst this; exact ⟨hi, d⟩
        · intro z
          exact decide_eq_true (nd_at h5 hi z.1 (d.trans z.2.symm))
    · right
      refine ⟨(), ?_, fun j hj => ?_⟩
      · show f_X4_bitOf_L2 _ _ _ (f + 1) _ _ = f_X4_bitOf_L2 _ _ _ f _ _
        rw [hst, if_neg (by rw [eq_n (by omega) (by omega)]; exact d)]
      · by_cases y : j = i
        · rw [y]; exact d
        · exact hn j (by omega)
def Xq (c j : Nat) : Prop := c = 50 ∨ (c = 49 ∧ j = 2)
theorem Xq_rc {S a : St} (h : fr Xq S a) : fr Xrc S a := h.mono (fun c j h => by unfold Xq at h; unfold Xrc; omega)
theorem need_ok {a : St} {Q : List Nat} {c : Nat} (h : qOK a Q) (hc : c < 289) (hl : Q.length < 36) : ∃ a' Q', f_X4_need (nI c) a = some ((), a') ∧ qOK a' Q' ∧ (∀ x, x ∈ Q' ↔ x ∈ Q ∨ x = c) ∧ Q'.length ≤ Q.length + 1 ∧ fr Xq a a' := by
  obtain ⟨b, b1, b2, b3, -⟩ := bitOf_ok h hc
  unfold f_X4_need
  rw [b1, bd_some]
  have hz : (lg_cmp (lN b) (0 : Int64) = 0) ↔ b = 0 := lcmp (b := 0) (Nat.lt_trans b2 (by decide)) (by decide)
  by_cases d : c ∈ Q
  · rw [if_neg (fun z => (b3.mp (hz.mp z)) d)]
    exact ⟨a, Q, rfl, h, fun x => ⟨fun z => Or.inl z, fun z => by rcases z with z | z; exact z; rw [z]; exact d⟩, by omega, fr.refl _ _⟩
  · obtain ⟨g1, g2, g3, g4⟩ := h
    rw [if_pos (hz.mpr (b3.mpr d))]
    have e1 := g1.1
    refine ⟨wr (wr a 50 Q.length (nI c)) 49 2 (nI (Q.length + 1)), Q ++ [c], ?_, ⟨g1.snoc (by decide) rfl, by rw [List.length_append]; show Q.length + 1 ≤ 36; omega, fun x hx => ?_, ?_⟩, fun x => by rw [List.mem_append, List.mem_singleton], by rw [List.length_append]; show Q.length + 1 ≤ _; omega, ((fr.refl _ _).wr (Or.inl rfl)).wr (Or.inr ⟨rfl, rfl⟩)⟩
    · simp (disch := omega) only [md_n, lt_eq, bd_some, gN, gN2, le_T, le_F, lt_T, lt_F, eq_T, eq_F, cN, plus_n, mul_n, rem_n, div_n, sub_n, re_T, re_F, rl_wr, rd_wl, ne_m1, m1_ne, m1_lt, m1_le, m1_ge, m1_gt, m1_refl, ↓reduceIte, L0, L1, L2, L3, L4, L5, L6, L7, L8, L9, L10, L11, L15, L16, L17, L18, L20, L24, L26, L28, L31, L32, L35, L36, L48, L57, L59, L63, L64, L96, L97, L99, L100, L112, L122, L128, L200, L255, L256, L1000, L1024, L2000, L3000, L1000000, L1000000007, e1]
    · rw [List.mem_append, List.mem_singleton] at hx
      rcases hx with hx | hx
      · exact g3 x hx
      · rw [hx]; exact hc
    · rw [List.nodup_append]
      refine ⟨g4, by simp, fun x hx y hy => ?_⟩
      rw [List.mem_singleton] at hy
      intro e
      rw [hy] at e
      exact d (e ▸ hx)
theorem gatherL {S : St} {w n0 : Nat} {T0 : List Nat} (hI : I_lex S) (hw : w < 32) (h0 : n0 + 9 ≤ 36) (K : Int32 → St → Option (Unit × St)) {a : St} {Q : List Nat} (hf : fr Xq S a) (hQ : qOK a Q) (hm : ∀ x, x ∈ Q ↔ x ∈ T0) (hn : Q.length ≤ n0) :
    ∃ a' Q', f_X4_gatherNames_L19 K (nI w) FU (nI 16) (nI 0) a = K (nI (rpv (rsn S w) 16 (nv S 16 w))) a' ∧ fr Xq S a' ∧ qOK a' Q' ∧ (∀ x, x ∈ Q' ↔ x ∈ T0 ∨ x ∈ rst (rsn S w) 16 (nv S 16 w)) ∧ Q'.length ≤ n0 + nv S 16 w := by
  have h8 := (hI.1 w hw).2.1
  refine loopC (fun f (a : St) i => f_X4_gatherNames_L19 K (nI w) f (nI (rpv (rsn S w) 16 i)) (nI i) a) (fun y => ∃ a' Q', y = K (nI (rpv (rsn S w) 16 (nv S 16 w))) a' ∧ fr Xq S a' ∧ qOK a' Q' ∧ (∀ x, x ∈ Q' ↔ x ∈ T0 ∨ x ∈ rst (rsn S w) 16 (nv S 16 w)) ∧ Q'.length ≤ n0 + nv S 16 w)
    (fun i a => fr Xq S a ∧ ∃ Q, qOK a Q ∧ (∀ x, x ∈ Q ↔ x ∈ T0 ∨ x ∈ rst (rsn S w) 16 i) ∧ Q.length ≤ n0 + i) (nv S 16 w) ?_ ?_ (nv S 16 w) 0 FU a (by omega) (by unfold FU; omega) ⟨hf, Q, hQ, fun x => by rw [hm x]; exact ⟨fun z => Or.inl z, fun z => by rcases z with z | z; exact z; exact absurd z (by unfold rst; exact List.not_mem_nil)⟩, hn⟩
  · intro f a ⟨g1, Q, g2, g3, g4⟩
    refine ⟨a, Q, ?_, g1, g2, g3, g4⟩
    show f_X4_gatherNames_L19 _ _ (f + 1) _ _ _ = _
    rw [f_X4_gatherNames_L19, gd_t (inb_n hw (by decide)), cl_n (by omega), len_cg hI (Xq_rc g1) hw, if_pos (Int32.le_refl _)]
  · intro f a i hi ⟨g1, Q, g2, g3, g4⟩
    right
    have hp := rpv_le S w (p := 16) (Nat.le_refl _) i
    have hs := rsn_lt S w i
    obtain ⟨a', Q', n1, n2, n3, n4, n5⟩ := need_ok (c := rpv (rsn S w) 16 i * 17 + rsn S w i) g2 (by omega) (by omega)
    refine ⟨a', ?_, g1.trans n5, Q', n2, fun x => ?_, by omega⟩
    · show f_X4_gatherNames_L19 _ _ (f + 1) _ _ _ = f_X4_gatherNames_L19 _ _ f (nI (rsn S w i)) _ _
      rw [f_X4_gatherNames_L19, gd_t (inb_n hw (by decide)), cl_n (by omega), len_cg hI (Xq_rc g1) hw, if_neg (of_eq_false (le_F (by omega))), sndC_cg hI (Xq_rc g1) hw hi, bd_some]
      unfold f_X4_stepOf
      rw [bd_some, show (17 : Int32) = nI 17 from rfl, mul_n, plus_n, n1, bd_some, lt_eq, show nI i + (1 : Int32) = nI (i + 1) from plus_n i 1]
    · rw [n3 x, g3 x, rst, List.mem_append, List.mem_singleton]
      exact ⟨fun z => by rcases z with (z | z) | z; exact Or.inl z; exact Or.inr (Or.inl z); exact Or.inr (Or.inr z), fun z => by rcases z with z | z | z; exact Or.inl (Or.inl z); exact Or.inl (Or.inr z); exact Or.inr z⟩
theorem rsF1 (S : St) (w : Nat) : rsF S [w] = rst (rsn S w) 16 (nv S 16 w) ++ [rpv (rsn S w) 16 (nv S 16 w) * 17 + 16] := by
  show (([] : List Nat) ++ rst (rsn S w) 16 (nv S 16 w)) ++ _ = _
  rw [List.nil_append]; rfl
def Kgn (S25 : St) : Option (Unit × St) := some ((), S25)
def Kgi (f i : Nat) (x16 : Int32) (S17 : St) : Option (Unit × St) :=
          lt_ (fun  (S18 : St) =>
              lt_ (nI i + (1 : Int32)) fun x19 =>
              f_X4_gatherNames_L8 Kgn f x19 S18) fun J78 =>
          if x16 = (16 : Int32) then
            J78  S17
          else
            bd_ (f_X4_stepOf x16 (16 : Int32) S17) fun r21 S22 =>
            bd_ (f_X4_need r21 S22) fun r23 S24 =>
            J78  S24
theorem gather_ok {S : St} (hI : I_lex S) : ∃ a Q, f_X4_gatherNames S = some ((), a) ∧ fr Xq S a ∧ qOK a Q ∧ ∀ x, x ∈ Q ↔ x ∈ rnm S 4 := by
  have h0 : f_X4_gatherNames S = f_X4_gatherNames_L8 Kgn FU (28 : Int32) (wr S 49 2 (0 : Int32)) := by
    unfold f_X4_gatherNames Kgn
    rw [lt_eq]
  rw [h0, L28, L0]
  refine loopC (fun f (a : St) i => f_X4_gatherNames_L8 Kgn f (nI i) a) (fun y => ∃ a Q, y = some ((), a) ∧ fr Xq S a ∧ qOK a Q ∧ ∀ x, x ∈ Q ↔ x ∈ rnm S 4) (fun i a => 28 ≤ i ∧ fr Xq S a ∧ ∃ Q, qOK a Q ∧ (∀ x, x ∈ Q ↔ x ∈ rnm S (i - 28)) ∧ Q.length ≤ 9 * (i - 28)) 32 ?_ ?_ 4 28 FU _ (by omega) (by unfold FU; omega) ⟨Nat.le_refl _, (fr.refl _ _).wr (Or.inr ⟨rfl, rfl⟩), [], ⟨hasL.nil rw_eq, by simp, by simp, by simp⟩, fun x => Iff.rfl, by simp⟩
  · intro f a ⟨_, g1, Q, g2, g3, g4⟩
    refine ⟨a, Q, ?_, g1, g2, g3⟩
    show f_X4_gatherNames_L8 _ (f + 1) _ _ = _
    rw [f_X4_gatherNames_L8, if_pos (show (32 : Int32) ≤ nI 32 from Int32.le_refl _)]; rfl
  · intro f a i hi ⟨h28, g1, Q, g2, g3, g4⟩
    right
    have h8 := (hI.1 i hi).2.1
    obtain ⟨a1, Q1, n1, n2, n3, n4, n5⟩ := gatherL (w := i) (n0 := 9 * (i - 28)) (T0 := rnm S (i - 28)) hI hi (by omega) (Kgi f i) g1 g2 g3 g4
    have e0 : f_X4_gatherNames_L8 Kgn (f + 1) (nI i) a = Kgi f i (nI (rpv (rsn S i) 16 (nv S 16 i))) a1 := by
      rw [f_X4_gatherNames_L8, if_neg (show ¬ (32 : Int32) ≤ nI i from of_eq_false (le_F (a := 32) (by omega)))]
      exact n1
    have en : rnm S (i + 1 - 28) = rnm S (i - 28) ++ (if nv S 16 i = 0 then [] else rsF S [i]) := by
      rw [show i + 1 - 28 = (i - 28) + 1 by omega, rnm, show 28 + (i - 28) = i by omega]
    have hp := rpv_le S i (p := 16) (Nat.le_refl _) (nv S 16 i)
    by_cases d : nv S 16 i = 0
    · refine ⟨a1, ?_, by omega, n2, Q1, n3, fun x => ?_, by omega⟩
      · show f_X4_gatherNames_L8 Kgn (f + 1) (nI i) a = f_X4_gatherNames_L8 Kgn f (nI (i + 1)) a1
        rw [e0, d, Kgi, lt_eq, if_pos (show nI (rpv (rsn S i) 16 0) = (16 : Int32) from rfl)]
        show lt_ (nI i + (1 : Int32)) (fun x19 => f_X4_gatherNames_L8 Kgn f x19 a1) = _
        rw [lt_eq, show nI i + (1 : Int32) = nI (i + 1) from plus_n i 1]
      · rw [n4 x, en, if_pos d, d, List.append_nil]
        exact ⟨fun z => by rcases z with z | z; exact z; exact absurd z (by unfold rst; exact List.not_mem_nil), fun z => Or.inl z⟩
    · obtain ⟨k, hk⟩ : ∃ k, nv S 16 i = k + 1 := ⟨nv S 16 i - 1, by omega⟩
      have hlt : rpv (rsn S i) 16 (nv S 16 i) < 16 := by rw [hk]; exact rsn_lt S i k
      obtain ⟨a2, Q2, m1, m2, m3, m4, m5⟩ := need_ok (c := rpv (rsn S i) 16 (nv S 16 i) * 17 + 16) n3 (by omega) (by omega)
      refine ⟨a2, ?_, by omega, n2.trans m5, Q2, m2, fun x => ?_, by omega⟩
      · show f_X4_gatherNames_L8 Kgn (f + 1) (nI i) a = f_X4_gatherNames_L8 Kgn f (nI (i + 1)) a2
        rw [e0, Kgi, lt_eq, if_neg (show ¬ nI (rpv (rsn S i) 16 (nv S 16 i)) = (16 : Int32) from of_eq_false (eq_F (b := 16) (by omega)))]
        unfold f_X4_stepOf
        rw [bd_some, show (17 : Int32) = nI 17 from rfl, show (16 : Int32) = nI 16 from rfl, mul_n, plus_n, m1, bd_some]
        show lt_ (nI i + (1 : Int32)) (fun x19 => f_X4_gatherNames_L8 Kgn f x19 a2) = _
        rw [lt_eq, show nI i + (1 : Int32) = nI (i + 1) from plus_n i 1]
      · rw [m3 x, n4 x, en, if_neg d, rsF1, List.mem_append, List.mem_append, List.mem_singleton]
        exact ⟨fun z => by rcases z with (z | z) | z; exact Or.inl z; exact Or.inr (Or.inl z); exact Or.inr (Or.inr z), fun z => by rcases z with z | z | z; exact Or.inl (Or.inl z); exact Or.inl (Or.inr z); exact Or.inr z⟩
