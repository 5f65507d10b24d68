/-! ===== new pieces and calls: the state grows ===== -/
def ids (g : Nat × Nat) : List Nat := List.range 90 ++ ((List.range (2 * g.1)).map (fun i => 200 + i) ++ (List.range (2 * g.2)).map (fun i => 300 + i))
theorem mem_ids {g : Nat × Nat} {k : Nat} : k ∈ ids g ↔ live g k := by
  unfold ids live
  rw [List.mem_append, List.mem_append, List.mem_range, List.mem_map, List.mem_map]
  constructor
  · rintro (h | ⟨i, h, rfl⟩ | ⟨i, h, rfl⟩)
    · exact Or.inl h
    · have := List.mem_range.mp h; exact Or.inr (Or.inl ⟨by omega, by omega⟩)
    · have := List.mem_range.mp h; exact Or.inr (Or.inr ⟨by omega, by omega⟩)
  · rintro (h | ⟨h1, h2⟩ | ⟨h1, h2⟩)
    · exact Or.inl h
    · exact Or.inr (Or.inl ⟨k - 200, List.mem_range.mpr (by omega), by omega⟩)
    · exact Or.inr (Or.inr ⟨k - 300, List.mem_range.mpr (by omega), by omega⟩)
theorem ids_nodup {g : Nat × Nat} (h1 : g.1 ≤ 16) : (ids g).Nodup := by
  unfold ids
  rw [List.nodup_append, List.nodup_append]
  refine ⟨List.nodup_range, ⟨?_, ?_, ?_⟩, ?_⟩
  · exact List.pairwise_map.mpr (List.nodup_range.imp (fun h e => h (by omega)))
  · exact List.pairwise_map.mpr (List.nodup_range.imp (fun h e => h (by omega)))
  · intro a ha b hb e
    obtain ⟨i, hi, rfl⟩ := List.mem_map.mp ha
    obtain ⟨j, hj, rfl⟩ := List.mem_map.mp hb
    have := List.mem_range.mp hi
    omega
  · intro a ha b hb e
    have := List.mem_range.mp ha
    rcases List.mem_append.mp hb with h | h
    · obtain ⟨i, hi, rfl⟩ := List.mem_map.mp h; omega
    · obtain ⟨i, hi, rfl⟩ := List.mem_map.mp h; omega
def wlist (cy : Nat → ClassId) (α : Nat → Nat) (g : Nat × Nat) (S : St) : va_W := (ids g).map (fun k => (α k, cel S α cy k))
theorem Rp.wls {E : En} {α : Nat → Nat} {g : Nat × Nat} {S : St} {H : Heap} (h : Rp E α g S H) : va_P E.1 vwCl (wlist E.2.1 α g S) H ∧ va_D E.2.2.1 (wlist E.2.1 α g S) := by
  refine ⟨vP_mem.mpr (fun q hq => ?_), vD_iff.mpr ⟨?_, fun q hq => ?_⟩⟩
  · obtain ⟨k, hk, rfl⟩ := List.mem_map.mp hq
    exact (h.2.1 k (mem_ids.mp hk)).1
  · show ((List.map (fun k => (α k, cel S α E.2.1 k)) (ids g)).map (fun q => q.1)).Nodup
    rw [List.map_map]
    refine List.pairwise_map.mpr ((ids_nodup h.1.1).imp_of_mem (fun {a b} ha hb hab e => hab ?_))
    exact h.2.2 a b (mem_ids.mp ha) (mem_ids.mp hb) e
  · obtain ⟨k, hk, rfl⟩ := List.mem_map.mp hq
    exact (h.2.1 k (mem_ids.mp hk)).2
/-- the targets of a cell's references are there when it is -/
theorem tg_st : (List.range 90).all (fun k => match layT.getD k (.inr (9, 0)) with | .inl o => o.2.all (fun d => decide (d < 92)) | .inr _ => true) = true := by decide +kernel
theorem cel_al {S : St} {α α' : Nat → Nat} {cy : Nat → ClassId} {g : Nat × Nat} {k : Nat} (ha : ∀ k, live g k → α' k = α k) (hk : live g k) (h1 : g.1 ≤ 16) (h2 : g.2 ≤ 24) (hp : nP S ≤ g.1) (hc : nC S ≤ g.2) : cel S α' cy k = cel S α cy k := by
  have hr : ∀ t, refs α' S t = refs α S t := by
    intro t
    funext i
    unfold refs
    by_cases c3 : t = 3
    · rw [if_pos c3, if_pos c3]
      by_cases hi : i < nP S
      · rw [if_pos hi, if_pos hi, ha _ (live_p (by omega))]
      · rw [if_neg hi, if_neg hi]
    · rw [if_neg c3, if_neg c3]
      by_cases c4 : t = 4
      · rw [if_pos c4, if_pos c4]
        by_cases hi : i < 10
        · rw [if_pos hi, if_pos hi, ha _ (live_r hi)]
        · rw [if_neg hi, if_neg hi]
      · rw [if_neg c4, if_neg c4]
        by_cases c5 : t = 5
        · rw [if_pos c5, if_pos c5]
          by_cases hi : i < nC S
          · rw [if_pos hi, if_pos hi, ha _ (live_c (by omega))]
          · rw [if_neg hi, if_neg hi]
        · rw [if_neg c5, if_neg c5]
  have hf : ∀ (ks : List Nat), (∀ d ∈ ks, ∀ n, d = n + 2 → live g n) → ks.mapIdx (fun j kd => fv S α' k j kd) = ks.mapIdx (fun j kd => fv S α k j kd) := by
    intro ks hks
    apply List.ext_getElem?
    intro i
    rw [List.getElem?_mapIdx, List.getElem?_mapIdx]
    cases hi : ks[i]? with
    | none => rfl
    | some d =>
      show some (fv S α' k i d) = some (fv S α k i d)
      match d, hi with
      | 0, _ => rfl
      | 1, _ => rfl
      | n + 2, hi => show some (Value.ref (α' n)) = some (Value.ref (α n)); rw [ha n (hks _ (List.mem_of_getElem? hi) n rfl)]
  unfold cel
  cases hly : lay k with
  | inr a => simp only [arrC, hr]
  | inl o =>
    simp only
    rw [hf o.2 ?_]
    intro d hd n hn
    rcases hk with h | ⟨ha1, ha2⟩ | ⟨ha1, ha2⟩
    · unfold lay at hly
      rw [if_pos h] at hly
      have h9 := List.all_eq_true.mp tg_st k (List.mem_range.mpr h)
      rw [hly] at h9
      have h8 := List.all_eq_true.mp h9 d hd
      simp only [decide_eq_true_eq] at h8
      exact live_st (by omega)
    · unfold lay at hly
      rw [if_neg (by omega), if_pos (by omega)] at hly
      by_cases c : k % 2 = 0
      · rw [if_pos c] at hly
        cases hly
        simp only [List.mem_cons, List.not_mem_nil, or_false] at hd
        have : n = k + 1 := by omega
        exact Or.inr (Or.inl ⟨by omega, by omega⟩)
      · rw [if_neg c] at hly; cases hly
    · unfold lay at hly
      rw [if_neg (by omega), if_neg (by omega), if_pos (by omega)] at hly
      by_cases c : k % 2 = 0
      · rw [if_pos c] at hly
        cases hly
        simp only [List.mem_cons, List.not_mem_nil, or_false] at hd
        have : n = k + 1 := by omega
        exact Or.inr (Or.inr ⟨by omega, by omega⟩)
      · rw [if_neg c] at hly; cases hly
abbrev Qa (E : En) (α : Nat → Nat) (g : Nat × Nat) (z : Int32 × St) : Array Value → State → Outcome → State → Prop := va_Qi (fun (r : Int32) (u : St) => r = z.1 ∧ u = z.2) (fun u t => ∃ (α' : Nat → Nat) (g' : Nat × Nat), (∀ k, live g k → live g' k ∧ α' k = α k) ∧ Rp E α' g' u t.heap ∧ g'.1 = nP u ∧ g'.2 = nC u) E.2.2.1
/-- a new piece's cells -/
def mkP (S : St) (n : Nat) (a b c : Int32) (f : Nat → Int32) : St := (fun k j => if k = 200 + 2 * n then (if j = 0 then a else if j = 1 then b else if j = 2 then c else 0) else if k = 200 + 2 * n + 1 then f j else S.1 k j, S.2)
def mkC (S : St) (n : Nat) (a b c d : Int32) : St := (fun k j => if k = 300 + 2 * n then (if j = 0 then a else if j = 1 then b else if j = 2 then c else if j = 3 then d else if j = 8 then -1 else 0) else if k = 300 + 2 * n + 1 then 0 else S.1 k j, S.2)
theorem Rp.grow {E : En} {α : Nat → Nat} {g g2 : Nat × Nat} {S S2 : St} {H : Heap} {X : va_W} {b1 b2 : Nat} {e1 e2 : va_E} {n : Nat} (hX : X = wlist E.2.1 α g S) (hb : (n = 200 + 2 * g.1 ∧ g2 = (g.1 + 1, g.2)) ∨ (n = 300 + 2 * g.2 ∧ g2 = (g.1, g.2 + 1))) (h16 : g2.1 ≤ 16) (h24 : g2.2 ≤ 24) (hp : nP S ≤ g.1) (hc : nC S ≤ g.2) (hP : va_P E.1 vwCl (X ++ [(b1, e1), (b2, e2)]) H) (hD : va_D E.2.2.1 (X ++ [(b1, e1), (b2, e2)])) (hinj : ∀ i j, live g i → live g j → α i = α j → i = j)
    (hS1 : ∀ k i, k ≠ n → k ≠ n + 1 → rd S2 k i = rd S k i) (hS2 : ∀ k i, rl S2 k i = rl S k i) {α2 : Nat → Nat} (hα : α2 = fun k => if k = n then b1 else if k = n + 1 then b2 else α k) (he1 : cel S2 α2 E.2.1 n = e1) (he2 : cel S2 α2 E.2.1 (n + 1) = e2) : (∀ k, live g k → live g2 k ∧ α2 k = α k) ∧ Rp E α2 g2 S2 H := by
  have hold : ∀ k, live g k → live g2 k ∧ α2 k = α k ∧ k ≠ n ∧ k ≠ n + 1 := by
    intro k hk
    have hkn : k ≠ n ∧ k ≠ n + 1 := by
      rcases hb with ⟨h, h'⟩ | ⟨h, h'⟩ <;> rw [h'] at h16 h24 <;> rcases hk with hk | hk | hk <;> simp only at h16 h24 <;> omega
    refine ⟨?_, by rw [hα]; simp only [if_neg hkn.1, if_neg hkn.2], hkn.1, hkn.2⟩
    rcases hb with ⟨h, h'⟩ | ⟨h, h'⟩ <;> rw [h'] <;> rcases hk with hk | hk | hk
    · exact Or.inl hk
    · exact Or.inr (Or.inl ⟨hk.1, by simp only; omega⟩)
    · exact Or.inr (Or.inr hk)
    · exact Or.inl hk
    · exact Or.inr (Or.inl hk)
    · exact Or.inr (Or.inr ⟨hk.1, by simp only; omega⟩)
  have hnew : ∀ k, live g2 k → live g k ∨ k = n ∨ k = n + 1 := by
    intro k hk
    rcases hb with ⟨h, h'⟩ | ⟨h, h'⟩ <;> rw [h'] at hk <;> rcases hk with hk | hk | hk <;> try simp only at hk
    · exact Or.inl (Or.inl hk)
    · by_cases c : k < 200 + 2 * g.1
      · exact Or.inl (Or.inr (Or.inl ⟨hk.1, c⟩))
      · exact Or.inr (by omega)
    · exact Or.inl (Or.inr (Or.inr hk))
    · exact Or.inl (Or.inl hk)
    · exact Or.inl (Or.inr (Or.inl hk))
    · by_cases c : k < 300 + 2 * g.2
      · exact Or.inl (Or.inr (Or.inr ⟨hk.1, c⟩))
      · exact Or.inr (by omega)
  have hn9 : n + 1 < 900 := by rcases hb with ⟨h, h'⟩ | ⟨h, h'⟩ <;> rw [h'] at h16 h24 <;> simp only at h16 h24 <;> omega
  have hnP : nP S2 = nP S := by unfold nP; rw [hS1 900 0 (by omega) (by omega)]
  have hnC : nC S2 = nC S := by unfold nC; rw [hS1 900 1 (by omega) (by omega)]
  have g16 : g.1 ≤ 16 := by rcases hb with ⟨h, h'⟩ | ⟨h, h'⟩ <;> rw [h'] at h16 <;> simp only at h16 <;> omega
  have g24 : g.2 ≤ 24 := by rcases hb with ⟨h, h'⟩ | ⟨h, h'⟩ <;> rw [h'] at h24 <;> simp only at h24 <;> omega
  have hm := vP_mem.mp hP
  obtain ⟨hnd, hA⟩ := vD_iff.mp hD
  rw [List.map_append, List.nodup_append] at hnd
  have a1 : α2 n = b1 := by rw [hα]; simp only [if_pos]
  have a2 : α2 (n + 1) = b2 := by rw [hα]; simp only [if_neg (show ¬ n + 1 = n by omega), if_pos]
  have mem : ∀ k, live g k → (α k, cel S α E.2.1 k) ∈ X := fun k hk => by rw [hX]; exact List.mem_map.mpr ⟨k, mem_ids.mpr hk, rfl⟩
  have ne1 : ∀ k, live g k → α k ≠ b1 ∧ α k ≠ b2 := fun k hk => by
    have hmx : α k ∈ X.map (fun q => q.1) := List.mem_map.mpr ⟨_, mem k hk, rfl⟩
    exact ⟨hnd.2.2 _ hmx _ (by simp), hnd.2.2 _ hmx _ (by simp)⟩
  have ne2 : b1 ≠ b2 := by
    have := hnd.2.1
    simp at this
    exact this
  refine ⟨fun k hk => ⟨(hold k hk).1, (hold k hk).2.1⟩, ⟨h16, h24, ?_, ?_⟩, fun k hk => ?_, fun i j hi hj hij => ?_⟩
  · rw [hnP]; rcases hb with ⟨h, h'⟩ | ⟨h, h'⟩ <;> rw [h'] <;> simp only <;> omega
  · rw [hnC]; rcases hb with ⟨h, h'⟩ | ⟨h, h'⟩ <;> rw [h'] <;> simp only <;> omega
  · rcases hnew k hk with h | h | h
    · obtain ⟨q1, q2, q3, q4⟩ := hold k h
      have e1 : cel S2 α2 E.2.1 k = cel S α E.2.1 k := by
        rw [cel_al (g := g) (α := α) (fun k hk => (hold k hk).2.1) h g16 g24 (by rw [hnP]; exact hp) (by rw [hnC]; exact hc)]
        exact cel_ne (fun i => hS1 k i q3 q4) (fun i => hS2 k i) hnP hnC
      rw [e1, q2]
      exact ⟨hm _ (List.mem_append_left _ (mem k h)), hA (α k, cel S α E.2.1 k) (List.mem_append_left _ (mem k h))⟩
    · rw [h, he1, a1]
      exact ⟨hm _ (List.mem_append_right _ (by simp)), hA (b1, e1) (List.mem_append_right _ (by simp))⟩
    · rw [h, he2, a2]
      exact ⟨hm _ (List.mem_append_right _ (by simp)), hA (b2, e2) (List.mem_append_right _ (by simp))⟩
  · rcases hnew i hi with h | h | h <;> rcases hnew j hj with h' | h' | h'
    · rw [(hold i h).2.1, (hold j h').2.1] at hij; exact hinj i j h h' hij
    · rw [(hold i h).2.1, h', a1] at hij; exact absurd hij (ne1 i h).1
    · rw [(hold i h).2.1, h', a2] at hij; exact absurd hij (ne1 i h).2
    · rw [(hold j h').2.1, h, a1] at hij; exact absurd hij.symm (ne1 j h').1
    · rw [h, h']
    · rw [h, h', a1, a2] at hij; exact absurd hij ne2
    · rw [(hold j h').2.1, h, a2] at hij; exact absurd hij.symm (ne1 j h').2
    · rw [h, h', a1, a2] at hij; exact absurd hij.symm ne2
    · rw [h, h']
theorem isDoubleOf_S {a b : Nat} {S S' : St} {r : Int32} (h : f_X3_isDoubleOf a b S = some (r, S')) : S' = S := by
  unfold f_X3_isDoubleOf lt_ at h
  simp only at h
  repeat (first | (cases h; rfl) | split at h)
theorem mend22_n {K66 : Int32 → St → Option (Unit × St)} {v1 : Int32} {z : Unit × St} : ∀ (f : Nat) (v2 v3 : Int32) (S : St), (∀ x, K66 x S = some z → nP z.2 = nP S ∧ nC z.2 = nC S) → f_X8_mend_L22 K66 v1 f v2 v3 S = some z → nP z.2 = nP S ∧ nC z.2 = nC S := by
  intro f
  induction f with
  | zero => intro v2 v3 S hK h; rw [f_X8_mend_L22] at h; cases h
  | succ f ih =>
    intro v2 v3 S hK h
    rw [f_X8_mend_L22] at h
    by_cases c : (rd S 1 1) ≤ v3
    · exact hK _ (ite_t c h)
    · have h := ite_f c h
      obtain ⟨-, h⟩ := gd_e h
      obtain ⟨-, h⟩ := gd_e h
      obtain ⟨r, S1, h1, h⟩ := bd_e h
      rw [isDoubleOf_S h1] at h
      obtain ⟨J, eJ, h⟩ := lt_e h
      by_cases c2 : r = 0
      · have h := ite_t c2 h
        rw [eJ] at h
        exact ih _ _ _ hK h
      · have h := ite_f c2 h
        obtain ⟨-, h⟩ := gd_e h
        obtain ⟨x, -, h⟩ := lt_e h
        rw [eJ] at h
        exact ih _ _ _ hK h
theorem mend2_n {z : Unit × St} {K82 : St → Option (Unit × St)} (hK : ∀ S, K82 S = some z → nP z.2 = nP S ∧ nC z.2 = nC S) : ∀ (f : Nat) (v1 : Int32) (S : St), nP S ≤ 16 → f_X8_mend_L2 K82 f v1 S = some z → nP z.2 = nP S ∧ nC z.2 = nC S := by
  intro f
  induction f with
  | zero => intro v1 S hn h; rw [f_X8_mend_L2] at h; cases h
  | succ f ih =>
    intro v1 S hn h
    rw [f_X8_mend_L2] at h
    by_cases c : (rd S 1 1) ≤ v1
    · exact hK _ (ite_t c h)
    · have h := ite_f c h
      obtain ⟨-, h⟩ := gd_e h
      obtain ⟨x, -, h⟩ := lt_e h
      refine mend22_n _ _ _ _ (fun x hx => ?_) h
      obtain ⟨g1, hx⟩ := gd_e hx
      obtain ⟨S1, e1, hx⟩ := lt_e hx
      obtain ⟨x2, -, hx⟩ := lt_e hx
      have e2 : nP S1 = nP S := by rw [e1]; exact nP_wr (by omega)
      have e3 : nC S1 = nC S := by rw [e1]; exact nC_wr (by omega)
      have := ih _ _ (by omega) hx
      rw [this.1, this.2, e2, e3]
      exact ⟨rfl, rfl⟩
theorem add_n {n : Nat} {S : St} {r : Int32} {S' : St} (hn : nP S < 16) (h : f_X8_add n S = some (r, S')) : nP S' = nP S + 1 ∧ nC S' = nC S := by
  unfold f_X8_add at h
  obtain ⟨g1, h⟩ := gd_e h
  obtain ⟨S1, e1, h⟩ := lt_e h
  obtain ⟨S2, e2, h⟩ := lt_e h
  obtain ⟨u, S3, h3, h⟩ := bd_e h
  obtain ⟨-, hS⟩ := Prod.mk.inj (Option.some.inj h)
  rw [← hS]
  have a1 : nP S1 = nP S + 1 := by rw [e1]; unfold nP; rw [rd_wr, if_pos ⟨rfl, rfl⟩]; exact nI_clamp (by unfold nP at hn; omega)
  have a2 : nC S1 = nC S := by rw [e1]; unfold nC; rw [rd_wr, if_neg (by decide)]
  have b1 : nP S2 = nP S1 := by rw [e2]; exact nP_wr (by decide)
  have b2 : nC S2 = nC S1 := by rw [e2]; exact nC_wr (by decide)
  unfold f_X8_mend at h3
  have := mend2_n (fun S h => by cases h; exact ⟨rfl, rfl⟩) _ _ _ (by omega) h3
  simp only at this
  rw [this.1, this.2, b1, b2, a1, a2]
  exact ⟨rfl, rfl⟩
theorem addC_n {n : Nat} {S : St} {r : Int32} {S' : St} (hn : nC S < 24) (h : f_X7_add n S = some (r, S')) : nP S' = nP S ∧ nC S' = nC S + 1 := by
  unfold f_X7_add at h
  obtain ⟨g1, h⟩ := gd_e h
  obtain ⟨S1, e1, h⟩ := lt_e h
  obtain ⟨S2, e2, h⟩ := lt_e h
  obtain ⟨-, hS⟩ := Prod.mk.inj (Option.some.inj h)
  have a1 : nC S1 = nC S + 1 := by rw [e1]; unfold nC; rw [rd_wr, if_pos ⟨rfl, rfl⟩]; exact nI_clamp (by unfold nC at hn; omega)
  have a2 : nP S1 = nP S := by rw [e1]; unfold nP; rw [rd_wr, if_neg (by decide)]
  have b1 : nP S2 = nP S1 := by rw [e2]; exact nP_wr (by decide)
  have b2 : nC S2 = nC S1 := by rw [e2]; exact nC_wr (by decide)
  rw [← hS, b1, b2, a1, a2]
  exact ⟨rfl, rfl⟩
theorem g_metA {l : Launch} {y : MethodName} {own : String} {cc : ByteArray} {maxL : Nat} {ret : Option FieldType} {rm : Room} {Qc : Array Value → State → Outcome → State → Prop} {mc ms : Nat} {E : En} {α : Nat → Nat} {g : Nat × Nat} {S : St} (av : List Value) (hy : plainName y.cls = true) (ho : y.cls = own) (hl : (lg_sl av).length ≤ maxL)
    (body : ∀ (p : Program) (e : Env) (s : State) (m : MethodId) (below : List Frame) (meth : Method) (c : Code) (ls : Array Slot), Cx p s m av.toArray meth c own cc maxL ret E → Kc E s → Rp E α g S s.heap → lv_has ls maxL (lv_args 0 av) → W p l e rm s m av.toArray below meth c s.heap [] 0 0 (MQ below Qc av.toArray s mc ms E.2.2.1) (F0 m 0 ls [])) :
    Met l y (wsY y cc maxL ret) rm (va_Pc av (fun U => Wd E α g S U ∧ Kc E U)) Qc mc ms E.2.2.1 := by
  refine Met.ofW (cc := cc) (maxL := maxL) (ret := ret) hy rfl ?_
  intro p e s m args below meth c s₁ B hml hv
  obtain ⟨rfl, ⟨hR, hK⟩, hKc⟩ := hv
  have hts := atoms_spec (ws := wsY y cc maxL ret) B.pre
  have hown : s.vm.findClass own = some m.cls := by rw [← ho]; exact findClass_of_methodNamed B.named
  have hl2 := lv_entry av (n := maxL) hl
  rw [lg_entry_eq]
  exact body p e s m below meth c _ ⟨B.exec, B.bytes, hml, hown, fun w hw => hts w (List.mem_cons_of_mem _ hw), B.notSynchronized, B.returns, hK⟩ hKc hR hl2
theorem g_reta {p : Program} {l : Launch} {e : Env} {R : Room} {s : State} {m : MethodId} {args : Array Value} {below : List Frame} {meth : Method} {c : Code} {H : Heap} {locs : List Loc} {cells slots mc ms : Nat} {cc : ByteArray} {pc nL : Nat} {ls : Array Slot} {own : String} {E : En} {α α0 : Nat → Nat} {g g0 : Nat × Nat} {S : St} (C : Cx p s m args meth c own cc nL (some .int) E) (hR : Rp E α g S H) (hS : va_S E.2.2.1 s.heap H locs) (hα : ∀ k, live g0 k → live g k ∧ α k = α0 k) (hg : g.1 = nP S ∧ g.2 = nC S) (hcs : cells ≤ mc ∧ slots ≤ ms) {v : Int32} {z : Int32 × St} (hz : some (v, S) = some z) (hdg : decode cc pc = .ok (.ireturn, 1)) : W p l e R s m args below meth c H locs cells slots (MQ below (Qa E α0 g0 z) args s mc ms E.2.2.1) (F0 m pc ls [.int v]) := by
  cases hz
  refine W.widen hcs.1 hcs.2 ?_
  exact W.iret C.1 C.2.1 C.2.2.2.2.2.2.1 (fun t ht hW => ⟨⟨v, S, rfl, ⟨rfl, rfl⟩, α, g, hα, by rw [ht]; exact hR, hg⟩, hS.F ht⟩) hS.2.2 hdg C.2.2.2.2.2.1
theorem va_S.up {A B : Nat → Prop} {H0 H : Heap} {locs : List Loc} (h : va_S A H0 H locs) (hAB : ∀ q, A q → B q) : va_S B H0 H locs := ⟨h.1, fun q h1 h2 => h.2.1 q h1 (fun z => h2 (hAB q z)), fun l hl => hAB _ (h.2.2 l hl)⟩
theorem s_X10_below {a b : Int32} {S S' : St} {r : Int32} (h : f_X10_below a b S = some (r, S')) : S' = S := by
  unfold f_X10_below at h
  repeat (first | (cases h; rfl) | split at h)
theorem s_X10_within {a b c : Int32} {S S' : St} {r : Int32} (h : f_X10_within a b c S = some (r, S')) : S' = S := by
  unfold f_X10_within at h
  repeat (first | (cases h; rfl) | split at h)
theorem s_X1_knows {a : Int32} {S S' : St} {r : Int32} (h : f_X1_knows a S = some (r, S')) : S' = S := by
  unfold f_X1_knows at h
  obtain ⟨r1, S1, h1, h⟩ := bd_e h
  rw [s_X10_below h1] at h
  obtain ⟨J, eJ, h⟩ := lt_e h
  by_cases c : r1 = 0
  · have h := ite_t c h; rw [eJ] at h; cases h; rfl
  · have h := ite_f c h
    obtain ⟨-, h⟩ := gd_e h
    split at h
    · rw [eJ] at h; cases h; rfl
    · cases h; rfl
def ob_ {α β : Type} (x : Option α) (f : α → Option β) : Option β := match x with
  | none => none
  | some a => f a
theorem ob_e {α β : Type} {x : Option α} {f : α → Option β} {z : β} (h : ob_ x f = some z) : ∃ a, x = some a ∧ f a = some z := by
  cases x with
  | none => cases h
  | some a => exact ⟨a, rfl, h⟩
def fa_piece (v1 v2 v3 v4 v5 : Int32) (S : St) : Option (Int32 × St) := ob_ (pcT v2 v3 v4) fun b => gd_ (nP S < 16) <| f_X8_add (nP S) (mkP S (nP S) (sndOf v1 v2) v2 v5 b)
def fa_call (v1 v2 v3 v4 v5 v6 : Int32) (S : St) : Option (Int32 × St) := gd_ (bz v6) <| gd_ (nC S < 24) <| lt_ (wr (mkC S (nC S) v1 v2 v3 v6) (300 + 2 * nC S) 4 v4) fun S1 => lt_ (wr S1 (300 + 2 * nC S) 5 v5) fun S2 => f_X7_add (nC S) S2
abbrev rm_X10_piece : Room := { frames := 3, cells := 2, slots := 14, locals := 65 }
theorem m_X10_piece : MV yX10_piece RX10 cX10_piece 6 (some .int) 5 := ⟨q371, q372, q68, q373, by decide +kernel⟩
abbrev rm_X10_call : Room := { frames := 2, cells := 2, slots := 29, locals := 42 }
theorem m_X10_call : MV yX10_call RX10 cX10_call 8 (some .int) 6 := ⟨q720, q721, q68, q722, by decide +kernel⟩
set_option maxHeartbeats 8000000 in
set_option maxRecDepth 100000 in
theorem wa_piece {p : Program} {l : Launch} {e : Env} {s : State} {m : MethodId} {args : Array Value} {below : List Frame} {meth : Method} {c : Code} {E : En} {α : Nat → Nat} {g : Nat × Nat} {S : St} {z : Int32 × St} {H : Heap} {locs : List Loc} {ls : Array Slot} {v1 v2 v3 v4 v5 : Int32} (C : Cx p s m args meth c RX10 cX10_piece 6 (some .int) E) (hKc : Kc E s) (hg : g.1 = nP S ∧ g.2 = nC S) (hR : Rp E α g S H) (hS : va_S E.2.2.1 s.heap H locs) (hl : lv_has ls 6 [(1, .int v1), (2, .int v2), (3, .int v3), (4, .int v4), (5, .int v5)]) (h : fa_piece v1 v2 v3 v4 v5 S = some z) : W p l e rm_X10_piece s m args below meth c H locs 0 0 (MQ below (Qa E α g z) args s 2 14 E.2.2.1) (F0 m 60 ls [.ref (α 1)]) := by
  obtain ⟨hx, hb, hml, hown, hts, hlk, hrt, hKs⟩ := id C
  unfold fa_piece at h
  rw [← hg.1] at h
  obtain ⟨b, hb9, h⟩ := ob_e h
  obtain ⟨hn16, h⟩ := gd_e h
  obtain ⟨hP, hD⟩ := hR.wls
  have hA := hKs.2.1
  generalize hX : wlist E.2.1 α g S = X at hP hD
  refine va_new (ci := 3) (fs := [.int 0, .int 0, .int 0, .null, .int 0, .int 0]) (C := RX3) (T := TX3) (N := 6) hx hb hts inl3 tyX3 tyX3_ok hown (hts _ q380) (hts _ q381) (hts _ q78) hKc.1 hP hD hS hA rfl (fun j hj => by rcases (show j = 0 ∨ j = 1 ∨ j = 2 ∨ j = 3 ∨ j = 4 ∨ j = 5 by omega) with rfl | rfl | rfl | rfl | rfl | rfl <;> rfl) (Nat.le_of_ble_eq_true rfl) (Nat.le_of_ble_eq_true rfl) dX10_piece_60 (fun q H hP hD hS => ?_)
  obtain ⟨hP, hD⟩ := n_sw0 hP hD
  refine lv_dup hx hb dX10_piece_63 rfl ?_
  refine lv_iload_n hx hb dX10_piece_64 rfl (lv_at hl 0 rfl) ?_
  refine lv_iload_n hx hb dX10_piece_65 rfl (lv_at hl 1 rfl) ?_
  refine lv_iload_n hx hb dX10_piece_66 rfl (lv_at hl 2 rfl) ?_
  refine lv_iload hx hb dX10_piece_67 (lv_at hl 3 rfl) ?_
  refine lv_iload hx hb dX10_piece_69 (lv_at hl 4 rfl) ?_
  have hPc := hP.sub (ws' := [(q, .inr (3, [.int 0, .int 0, .int 0, .null, .int 0, .int 0]))]) [0] rfl
  have hDc := hD.sub (ws' := [(q, .inr (3, [.int 0, .int 0, .int 0, .null, .int 0, .int 0]))]) [0] (by decide) rfl
  have hFc := va_free (wc := [(q, .inr (3, [.int 0, .int 0, .int 0, .null, .int 0, .int 0]))]) hD hS hA [0] rfl
  refine va_callv (va_runI (As := [.int v1, .int v2, .int v3, .int v4, .int v5]) (rest := [.ref q, .ref (α 1)]) ⟨hx, hb, hml, hown, hts⟩ (c_X3_init l (E := E) (h0 := q) (sz := H.size) v1 v2 v3 v4 v5 hb9) (cwI 5 hts (wsGoodIn q384) rfl rfl rfl (hts _ q78) (hts _ q382) (hts _ q383) rfl (by decide +kernel) ⟨Nat.le_of_ble_eq_true rfl, Nat.le_of_ble_eq_true rfl⟩) ⟨PI.blind, fun U hU hW => ⟨rfl, by rw [hU], by rw [hU]; exact hPc, hKc.call hW, hDc.weaken (fun _ _ _ _ => trivial)⟩⟩ rfl rfl hl.1 rfl (lv_room (Nat.le_of_ble_eq_true rfl)) dX10_piece_71 ⟨Nat.le_of_ble_eq_true rfl, Nat.le_of_ble_eq_true rfl⟩) hS (fun q _ h => hFc q h) hFc (fun u t H1 locs ht hvm hw hB hz1 hk1 hS => ?_)
  obtain ⟨hP1, hD1⟩ := hB
  rw [ht] at hP1
  obtain ⟨hP, hD⟩ := n_join0 hP hD hk1 hFc hP1 hD1
  generalize H1 = H at hP hS ⊢
  clear hPc hDc hFc hk1 hz1 hvm hw hP1 hD1 ht
  obtain ⟨α2, hα⟩ : ∃ a : Nat → Nat, a = fun k => if k = 200 + 2 * g.1 then q else if k = 200 + 2 * g.1 + 1 then u 0 else α k := ⟨_, rfl⟩
  have q1 : α2 (200 + 2 * g.1) = q := by rw [hα]; simp only [if_pos]
  have q2 : α2 (200 + 2 * g.1 + 1) = u 0 := by rw [hα]; simp only [if_neg (show ¬ 200 + 2 * g.1 + 1 = 200 + 2 * g.1 by omega), if_pos]
  have r1 : ∀ j, rd (mkP S g.1 (sndOf v1 v2) v2 v5 b) (200 + 2 * g.1) j = if j = 0 then sndOf v1 v2 else if j = 1 then v2 else if j = 2 then v5 else 0 := fun j => by show (if 200 + 2 * g.1 = 200 + 2 * g.1 then _ else _) = _; rw [if_pos rfl]
  have r2 : rd (mkP S g.1 (sndOf v1 v2) v2 v5 b) (200 + 2 * g.1 + 1) = b := by funext j; show (if 200 + 2 * g.1 + 1 = 200 + 2 * g.1 then _ else if 200 + 2 * g.1 + 1 = 200 + 2 * g.1 + 1 then _ else _) = _; rw [if_neg (by omega), if_pos rfl]
  have r3 : ∀ k i, k ≠ 200 + 2 * g.1 → k ≠ 200 + 2 * g.1 + 1 → rd (mkP S g.1 (sndOf v1 v2) v2 v5 b) k i = rd S k i := fun k i h1 h2 => by show (if k = 200 + 2 * g.1 then _ else if k = 200 + 2 * g.1 + 1 then _ else _) = _; rw [if_neg h1, if_neg h2]; rfl
  have he1 : cel (mkP S g.1 (sndOf v1 v2) v2 v5 b) α2 E.2.1 (200 + 2 * g.1) = .inr (3, [.int (sndOf v1 v2), .int v2, .int v5, .ref (u 0), .int 0, .int 0]) := by
    rw [cel_o (lay_p (by omega))]
    simp [List.mapIdx_cons, fv, r1, q2]
  have he2 : cel (mkP S g.1 (sndOf v1 v2) v2 v5 b) α2 E.2.1 (200 + 2 * g.1 + 1) = .inl (E.2.1 0, 8, .inl b) := by
    rw [cel_a (lay_pt (by omega))]
    unfold arrC
    rw [if_pos (Or.inl rfl), r2]
  obtain ⟨hal, hR2⟩ := Rp.grow (g2 := (g.1 + 1, g.2)) (S2 := mkP S g.1 (sndOf v1 v2) v2 v5 b) hX.symm (Or.inl ⟨rfl, rfl⟩) (by show g.1 + 1 ≤ 16; omega) hR.1.2.1 hR.1.2.2.1 hR.1.2.2.2 hP hD hR.2.2 r3 (fun _ _ => rfl) hα he1 he2
  obtain ⟨r9, S9⟩ := z
  refine W.eq (g2 := F0 m 74 ls [.ref (α2 (200 + 2 * g.1)), .ref (α2 1)]) (by rw [q1, (hal 1 (live_st (by decide))).2]) ?_
  have n1 : nP (mkP S g.1 (sndOf v1 v2) v2 v5 b) = g.1 := by unfold nP; rw [r3 900 0 (by omega) (by omega)]; exact hg.1.symm
  have n2 : nC (mkP S g.1 (sndOf v1 v2) v2 v5 b) = g.2 := by unfold nC; rw [r3 900 1 (by omega) (by omega)]; exact hg.2.symm
  refine g_ci hS (g_runV C hR2 hS (k := 1) (As := [.ref (α2 (200 + 2 * g.1))]) (rest := []) (c_X8_add l (n1 := g.1) (by show g.1 < g.1 + 1; omega) h) (live_st (by decide)) rfl vw8 m_X8_add q412 ⟨rfl, rfl⟩ ⟨Nat.le_of_ble_eq_true rfl, Nat.le_of_ble_eq_true rfl⟩ rfl hl.1 rfl (Nat.le_of_ble_eq_true rfl) dX10_piece_74 ⟨Nat.le_of_ble_eq_true rfl, Nat.le_of_ble_eq_true rfl⟩) (fun H locs hR hS => ?_)
  have hn9 := add_n (by omega) h
  exact g_reta C hR hS hal ⟨by rw [hn9.1, n1], by rw [hn9.2, n2]⟩ ⟨Nat.le_of_ble_eq_true rfl, Nat.le_of_ble_eq_true rfl⟩ rfl dX10_piece_77
set_option maxHeartbeats 8000000 in
set_option maxRecDepth 100000 in
theorem wa_call {p : Program} {l : Launch} {e : Env} {s : State} {m : MethodId} {args : Array Value} {below : List Frame} {meth : Method} {c : Code} {E : En} {α : Nat → Nat} {g : Nat × Nat} {S : St} {z : Int32 × St} {H : Heap} {locs : List Loc} {ls : Array Slot} {v1 v2 v3 v4 v5 v6 : Int32} (C : Cx p s m args meth c RX10 cX10_call 8 (some .int) E) (hKc : Kc E s) (hg : g.1 = nP S ∧ g.2 = nC S) (hR : Rp E α g S H) (hS : va_S E.2.2.1 s.heap H locs) (hl : lv_has ls 8 [(0, .ref (α 0)), (1, .int v1), (2, .int v2), (3, .int v3), (4, .int v4), (5, .int v5), (6, .int v6)]) (h : fa_call v1 v2 v3 v4 v5 v6 S = some z) : W p l e rm_X10_call s m args below meth c H locs 0 0 (MQ below (Qa E α g z) args s 2 29 E.2.2.1) (F0 m 77 ls []) := by
  obtain ⟨hx, hb, hml, hown, hts, hlk, hrt, hKs⟩ := id C
  unfold fa_call at h
  rw [← hg.2] at h
  obtain ⟨hbz, h⟩ := gd_e h
  obtain ⟨hn24, h⟩ := gd_e h
  obtain ⟨hP, hD⟩ := hR.wls
  have hA := hKs.2.1
  generalize hX : wlist E.2.1 α g S = X at hP hD
  refine va_new (ci := 0) (fs := [.int 0, .int 0, .int 0, .int 0, .int 0, .int 0, .int 0, .int 0, .int 0, .int 0, .null, .int 0, .int 0]) (C := RX0) (T := TX0) (N := 13) hx hb hts inl0 tyX0 tyX0_ok hown (hts _ q723) (hts _ q724) (hts _ q86) hKc.1 hP hD hS hA rfl (fun j hj => by rcases (show j = 0 ∨ j = 1 ∨ j = 2 ∨ j = 3 ∨ j = 4 ∨ j = 5 ∨ j = 6 ∨ j = 7 ∨ j = 8 ∨ j = 9 ∨ j = 10 ∨ j = 11 ∨ j = 12 by omega) with rfl | rfl | rfl | rfl | rfl | rfl | rfl | rfl | rfl | rfl | rfl | rfl | rfl <;> rfl) (Nat.le_of_ble_eq_true rfl) (Nat.le_of_ble_eq_true rfl) dX10_call_77 (fun q H hP hD hS => ?_)
  obtain ⟨hP, hD⟩ := n_sw0 hP hD
  refine lv_dup hx hb dX10_call_80 rfl ?_
  refine lv_iload_n hx hb dX10_call_81 rfl (lv_at hl 1 rfl) ?_
  refine lv_iload_n hx hb dX10_call_82 rfl (lv_at hl 2 rfl) ?_
  refine lv_iload_n hx hb dX10_call_83 rfl (lv_at hl 3 rfl) ?_
  refine lv_iload hx hb dX10_call_84 (lv_at hl 6 rfl) ?_
  have hPc := hP.sub (ws' := [(q, .inr (0, [.int 0, .int 0, .int 0, .int 0, .int 0, .int 0, .int 0, .int 0, .int 0, .int 0, .null, .int 0, .int 0]))]) [0] rfl
  have hDc := hD.sub (ws' := [(q, .inr (0, [.int 0, .int 0, .int 0, .int 0, .int 0, .int 0, .int 0, .int 0, .int 0, .int 0, .null, .int 0, .int 0]))]) [0] (by decide) rfl
  have hFc := va_free (wc := [(q, .inr (0, [.int 0, .int 0, .int 0, .int 0, .int 0, .int 0, .int 0, .int 0, .int 0, .int 0, .null, .int 0, .int 0]))]) hD hS hA [0] rfl
  refine va_callv (va_runI (As := [.int v1, .int v2, .int v3, .int v6]) (rest := [.ref q]) ⟨hx, hb, hml, hown, hts⟩ (c_X0_init l (E := E) (h0 := q) (sz := H.size) v1 v2 v3 v6 hbz) (cwI 4 hts (wsGoodIn q727) rfl rfl rfl (hts _ q86) (hts _ q725) (hts _ q726) rfl (by decide +kernel) ⟨Nat.le_of_ble_eq_true rfl, Nat.le_of_ble_eq_true rfl⟩) ⟨PI.blind, fun U hU hW => ⟨rfl, by rw [hU], by rw [hU]; exact hPc, hKc.call hW, hDc.weaken (fun _ _ _ _ => trivial)⟩⟩ rfl rfl hl.1 rfl (lv_room (Nat.le_of_ble_eq_true rfl)) dX10_call_86 ⟨Nat.le_of_ble_eq_true rfl, Nat.le_of_ble_eq_true rfl⟩) hS (fun q _ h => hFc q h) hFc (fun u t H1 locs ht hvm hw hB hz1 hk1 hS => ?_)
  obtain ⟨hP1, hD1⟩ := hB
  rw [ht] at hP1
  obtain ⟨hP, hD⟩ := n_join0 hP hD hk1 hFc hP1 hD1
  generalize H1 = H at hP hS ⊢
  clear hPc hDc hFc hk1 hz1 hvm hw hP1 hD1 ht
  obtain ⟨α2, hα⟩ : ∃ a : Nat → Nat, a = fun k => if k = 300 + 2 * g.2 then q else if k = 300 + 2 * g.2 + 1 then u 0 else α k := ⟨_, rfl⟩
  have q1 : α2 (300 + 2 * g.2) = q := by rw [hα]; simp only [if_pos]
  have q2 : α2 (300 + 2 * g.2 + 1) = u 0 := by rw [hα]; simp only [if_neg (show ¬ 300 + 2 * g.2 + 1 = 300 + 2 * g.2 by omega), if_pos]
  have r1 : ∀ j, rd (mkC S g.2 v1 v2 v3 v6) (300 + 2 * g.2) j = if j = 0 then v1 else if j = 1 then v2 else if j = 2 then v3 else if j = 3 then v6 else if j = 8 then -1 else 0 := fun j => by show (if 300 + 2 * g.2 = 300 + 2 * g.2 then _ else _) = _; rw [if_pos rfl]
  have r2 : rd (mkC S g.2 v1 v2 v3 v6) (300 + 2 * g.2 + 1) = fun _ => 0 := by funext j; show (if 300 + 2 * g.2 + 1 = 300 + 2 * g.2 then _ else if 300 + 2 * g.2 + 1 = 300 + 2 * g.2 + 1 then _ else _) = _; rw [if_neg (by omega), if_pos rfl]
  have r3 : ∀ k i, k ≠ 300 + 2 * g.2 → k ≠ 300 + 2 * g.2 + 1 → rd (mkC S g.2 v1 v2 v3 v6) k i = rd S k i := fun k i h1 h2 => by show (if k = 300 + 2 * g.2 then _ else if k = 300 + 2 * g.2 + 1 then _ else _) = _; rw [if_neg h1, if_neg h2]; rfl
  have he1 : cel (mkC S g.2 v1 v2 v3 v6) α2 E.2.1 (300 + 2 * g.2) = .inr (0, [.int v1, .int v2, .int v3, .int v6, .int 0, .int 0, .int 0, .int 0, .int (-1 : Int32), .int 0, .ref (u 0), .int 0, .int 0]) := by
    rw [cel_o (lay_c (by omega))]
    simp [List.mapIdx_cons, fv, r1, q2]
  have he2 : cel (mkC S g.2 v1 v2 v3 v6) α2 E.2.1 (300 + 2 * g.2 + 1) = .inl (E.2.1 0, 16, .inl (fun _ => 0)) := by
    rw [cel_a (lay_ce (by omega))]
    unfold arrC
    rw [if_pos (Or.inl rfl), r2]
  obtain ⟨hal, hR2⟩ := Rp.grow (g2 := (g.1, g.2 + 1)) (S2 := mkC S g.2 v1 v2 v3 v6) hX.symm (Or.inr ⟨rfl, rfl⟩) hR.1.1 (by show g.2 + 1 ≤ 24; omega) hR.1.2.2.1 hR.1.2.2.2 hP hD hR.2.2 r3 (fun _ _ => rfl) hα he1 he2
  have n1 : nP (mkC S g.2 v1 v2 v3 v6) = g.1 := by unfold nP; rw [r3 900 0 (by omega) (by omega)]; exact hg.1.symm
  have n2 : nC (mkC S g.2 v1 v2 v3 v6) = g.2 := by unfold nC; rw [r3 900 1 (by omega) (by omega)]; exact hg.2.symm
  have hl : lv_has ls 8 [(0, .ref (α2 0)), (1, .int v1), (2, .int v2), (3, .int v3), (4, .int v4), (5, .int v5), (6, .int v6)] := by rw [(hal 0 (live_st (by decide))).2]; exact hl
  have hn : g.2 < ((g.1, g.2 + 1) : Nat × Nat).2 := by show g.2 < g.2 + 1; omega
  clear hR
  have hR := hR2
  refine W.eq (g2 := F0 m 89 ls [.ref (α2 (300 + 2 * g.2))]) (by rw [q1]) ?_
  refine lv_astore (lv' := [(7, .ref (α2 (300 + 2 * g.2))), (0, .ref (α2 0)), (1, .int v1), (2, .int v2), (3, .int v3), (4, .int v4), (5, .int v5), (6, .int v6)]) hx hb dX10_call_89 hl (by decide) rfl (fun ls hl => ?_)
  refine lv_aload hx hb dX10_call_91 (lv_at hl 0 rfl) ?_
  refine lv_iload hx hb dX10_call_93 (lv_at hl 5 rfl) ?_
  obtain ⟨S5, e5, h⟩ := lt_e h
  refine g_puti C hR hS (k := 300 + 2 * g.2) (j := 4) (live_c hn) (lay_c (by omega)) rfl vw0 inl0 (by decide) (ty0 := tyX0) tyX0_ok nmX0 q738 rfl rfl rfl e5 dX10_call_95 (fun H locs hR hS => ?_)
  refine lv_aload hx hb dX10_call_98 (lv_at hl 0 rfl) ?_
  refine lv_iload hx hb dX10_call_100 (lv_at hl 6 rfl) ?_
  obtain ⟨S6, e6, h⟩ := lt_e h
  refine g_puti C hR hS (k := 300 + 2 * g.2) (j := 5) (live_c hn) (lay_c (by omega)) rfl vw0 inl0 (by decide) (ty0 := tyX0) tyX0_ok nmX0 q740 rfl rfl rfl e6 dX10_call_102 (fun H locs hR hS => ?_)
  refine lv_aload_n hx hb dX10_call_105 rfl (lv_at hl 1 rfl) ?_
  refine g_getr (t := 43) C hR (k := 0) (j := 4) (live_st (by decide)) rfl rfl vw10 inl10 (by decide) q352 dX10_call_106 ?_
  refine lv_aload hx hb dX10_call_109 (lv_at hl 0 rfl) ?_
  obtain ⟨r9, S9⟩ := z
  refine g_ci hS (g_runV C hR hS (k := 43) (As := [.ref (α2 (300 + 2 * g.2))]) (rest := []) (c_X7_add l (n1 := g.2) hn h) (live_st (by decide)) rfl vw7 m_X7_add q780 ⟨rfl, rfl⟩ ⟨Nat.le_of_ble_eq_true rfl, Nat.le_of_ble_eq_true rfl⟩ rfl hl.1 rfl (Nat.le_of_ble_eq_true rfl) dX10_call_111 ⟨Nat.le_of_ble_eq_true rfl, Nat.le_of_ble_eq_true rfl⟩) (fun H locs hR hS => ?_)
  have m1 : nP S6 = g.1 ∧ nC S6 = g.2 := by rw [e6, nP_wr (by omega), nC_wr (by omega), e5, nP_wr (by omega), nC_wr (by omega)]; exact ⟨n1, n2⟩
  have hn9 := addC_n (by omega) h
  exact g_reta C hR hS hal ⟨by rw [hn9.1, m1.1], by rw [hn9.2, m1.2]⟩ ⟨Nat.le_of_ble_eq_true rfl, Nat.le_of_ble_eq_true rfl⟩ rfl dX10_call_114
def f_X10_piece (v1 : Int32) (v2 : Int32) (v3 : Int32) (v4 : Int32) (v5 : Int32) (S : St) : Option (Int32 × St) :=
  bd_ (f_X10_within v2 (1 : Int32) (8 : Int32) S) fun r1 S2 =>
  if r1 = 0 then
    some ((-3 : Int32), S2)
  else
    bd_ (f_X10_below v3 (100 : Int32) S2) fun r4 S5 =>
    if r4 = 0 then
      some ((-3 : Int32), S5)
    else
      bd_ (f_X10_below v4 (100 : Int32) S5) fun r7 S8 =>
      if r7 = 0 then
        some ((-3 : Int32), S8)
      else
        bd_ (f_X10_below v5 (4 : Int32) S8) fun r10 S11 =>
        if r10 = 0 then
          some ((-3 : Int32), S11)
        else
          if (rd S11 1 1) < (16 : Int32) then
            fa_piece v1 v2 v3 v4 v5 S11
          else
            some ((-5 : Int32), S11)

set_option maxHeartbeats 4000000 in
set_option maxRecDepth 100000 in
theorem c_X10_piece (l : Launch) {E : En} {α : Nat → Nat} {g : Nat × Nat} {v1 : Int32} {v2 : Int32} {v3 : Int32} {v4 : Int32} {v5 : Int32} {S : St}  {z : Int32 × St} (hg : g.1 = nP S ∧ g.2 = nC S) (h : f_X10_piece v1 v2 v3 v4 v5 S = some z) : Met l yX10_piece (wsY yX10_piece cX10_piece 6 (some .int)) rm_X10_piece (va_Pc [.ref (α 0), .int v1, .int v2, .int v3, .int v4, .int v5] (fun U => Wd E α g S U ∧ Kc E U)) (Qa E α g z) 2 14 E.2.2.1 := by
  refine g_metA [.ref (α 0), .int v1, .int v2, .int v3, .int v4, .int v5] (by decide) rfl (Nat.le_of_ble_eq_true rfl) ?_
  intro p e s m below meth c ls C hKc hR hl
  generalize hae : ([.ref (α 0), .int v1, .int v2, .int v3, .int v4, .int v5] : List Value).toArray = args at C ⊢
  have hl : lv_has ls 6 [(0, .ref (α 0)), (1, .int v1), (2, .int v2), (3, .int v3), (4, .int v4), (5, .int v5)] := hl
  obtain ⟨hx, hb, hml, hown, hts, hlk, hrt, hKs⟩ := id C
  have hS : va_S E.2.2.1 s.heap s.heap [] := va_S.rf
  unfold f_X10_piece at h
  refine lv_iload_n hx hb dX10_piece_0 rfl (lv_at hl 2 rfl) ?_
  refine lv_iconst (v := 1) hx hb dX10_piece_1 (by decide) ?_
  refine lv_bipush (v := 8) hx hb dX10_piece_2 (by decide) ?_
  obtain ⟨r1, S2, hr1, h⟩ := bd_e h
  have es_S2 := s_X10_within hr1
  refine g_ci hS (g_runS C hR hS (As := [.int v2, .int (1 : Int32), .int (8 : Int32)]) (rest := []) (c_X10_within l  hr1) m_X10_within q374 ⟨rfl, rfl⟩ ⟨Nat.le_of_ble_eq_true rfl, Nat.le_of_ble_eq_true rfl⟩ rfl hl.1 rfl (Nat.le_of_ble_eq_true rfl) dX10_piece_4 ⟨Nat.zero_le _, Nat.zero_le _⟩) (fun H locs hR hS => ?_)
  refine lv_if_eq (tgt := 38) hx hb dX10_piece_7 (by decide) (fun c3 => ?_) (fun c3 => ?_)
  · have h := ite_t c3 h
    refine lv_bipush (v := -3) hx hb dX10_piece_38 (by decide) ?_
    exact g_reta C hR hS (fun _ hk => ⟨hk, rfl⟩) (by subst_vars; exact hg) ⟨Nat.zero_le _, Nat.zero_le _⟩ h dX10_piece_40
  · have h := ite_f c3 h
    refine lv_iload_n hx hb dX10_piece_10 rfl (lv_at hl 3 rfl) ?_
    refine lv_bipush (v := 100) hx hb dX10_piece_11 (by decide) ?_
    obtain ⟨r4, S5, hr4, h⟩ := bd_e h
    have es_S5 := s_X10_below hr4
    refine g_ci hS (g_runS C hR hS (As := [.int v3, .int (100 : Int32)]) (rest := []) (c_X10_below l  hr4) m_X10_below q377 ⟨rfl, rfl⟩ ⟨Nat.le_of_ble_eq_true rfl, Nat.le_of_ble_eq_true rfl⟩ rfl hl.1 rfl (Nat.le_of_ble_eq_true rfl) dX10_piece_13 ⟨Nat.zero_le _, Nat.zero_le _⟩) (fun H locs hR hS => ?_)
    refine lv_if_eq (tgt := 38) hx hb dX10_piece_16 (by decide) (fun c6 => ?_) (fun c6 => ?_)
    · have h := ite_t c6 h
      refine lv_bipush (v := -3) hx hb dX10_piece_38 (by decide) ?_
      exact g_reta C hR hS (fun _ hk => ⟨hk, rfl⟩) (by subst_vars; exact hg) ⟨Nat.zero_le _, Nat.zero_le _⟩ h dX10_piece_40
    · have h := ite_f c6 h
      refine lv_iload hx hb dX10_piece_19 (lv_at hl 4 rfl) ?_
      refine lv_bipush (v := 100) hx hb dX10_piece_21 (by decide) ?_
      obtain ⟨r7, S8, hr7, h⟩ := bd_e h
      have es_S8 := s_X10_below hr7
      refine g_ci hS (g_runS C hR hS (As := [.int v4, .int (100 : Int32)]) (rest := []) (c_X10_below l  hr7) m_X10_below q377 ⟨rfl, rfl⟩ ⟨Nat.le_of_ble_eq_true rfl, Nat.le_of_ble_eq_true rfl⟩ rfl hl.1 rfl (Nat.le_of_ble_eq_true rfl) dX10_piece_23 ⟨Nat.zero_le _, Nat.zero_le _⟩) (fun H locs hR hS => ?_)
      refine lv_if_eq (tgt := 38) hx hb dX10_piece_26 (by decide) (fun c9 => ?_) (fun c9 => ?_)
      · have h := ite_t c9 h
        refine lv_bipush (v := -3) hx hb dX10_piece_38 (by decide) ?_
        exact g_reta C hR hS (fun _ hk => ⟨hk, rfl⟩) (by subst_vars; exact hg) ⟨Nat.zero_le _, Nat.zero_le _⟩ h dX10_piece_40
      · have h := ite_f c9 h
        refine lv_iload hx hb dX10_piece_29 (lv_at hl 5 rfl) ?_
        refine lv_iconst (v := 4) hx hb dX10_piece_31 (by decide) ?_
        obtain ⟨r10, S11, hr10, h⟩ := bd_e h
        have es_S11 := s_X10_below hr10
        refine g_ci hS (g_runS C hR hS (As := [.int v5, .int (4 : Int32)]) (rest := []) (c_X10_below l  hr10) m_X10_below q377 ⟨rfl, rfl⟩ ⟨Nat.le_of_ble_eq_true rfl, Nat.le_of_ble_eq_true rfl⟩ rfl hl.1 rfl (Nat.le_of_ble_eq_true rfl) dX10_piece_32 ⟨Nat.zero_le _, Nat.zero_le _⟩) (fun H locs hR hS => ?_)
        refine lv_if_ne (tgt := 41) hx hb dX10_piece_35 (by decide) (fun c12 => ?_) (fun c12 => ?_)
        · have h := ite_f c12 h
          refine lv_aload_n hx hb dX10_piece_41 rfl (lv_at hl 0 rfl) ?_
          refine g_getr (t := 1) C hR (k := 0) (j := 0) (live_st (by decide)) rfl rfl (vw10) inl10 (by decide) q348 dX10_piece_42 ?_
          refine g_geti C hR (k := 1) (j := 1) (live_st (by decide)) rfl rfl (vw8) inl8 (by decide) q107 dX10_piece_45 ?_
          refine lv_bipush (v := 16) hx hb dX10_piece_48 (by decide) ?_
          refine lv_icmp_lt (tgt := 56) hx hb dX10_piece_50 (by decide) (fun c13 => ?_) (fun c13 => ?_)
          · have h := ite_t c13 h
            refine lv_aload_n hx hb dX10_piece_56 rfl (lv_at hl 0 rfl) ?_
            refine g_getr (t := 1) C hR (k := 0) (j := 0) (live_st (by decide)) rfl rfl (vw10) inl10 (by decide) q348 dX10_piece_57 ?_
            exact wa_piece C hKc (by subst_vars; exact hg) hR hS (lv_sub hl [1, 2, 3, 4, 5] rfl) h
          · have h := ite_f c13 h
            refine lv_bipush (v := -5) hx hb dX10_piece_53 (by decide) ?_
            exact g_reta C hR hS (fun _ hk => ⟨hk, rfl⟩) (by subst_vars; exact hg) ⟨Nat.zero_le _, Nat.zero_le _⟩ h dX10_piece_55
        · have h := ite_t c12 h
          refine lv_bipush (v := -3) hx hb dX10_piece_38 (by decide) ?_
          exact g_reta C hR hS (fun _ hk => ⟨hk, rfl⟩) (by subst_vars; exact hg) ⟨Nat.zero_le _, Nat.zero_le _⟩ h dX10_piece_40

def f_X10_call (v1 : Int32) (v2 : Int32) (v3 : Int32) (v4 : Int32) (v5 : Int32) (v6 : Int32) (S : St) : Option (Int32 × St) :=
  bd_ (f_X10_below v1 (6 : Int32) S) fun r1 S2 =>
  if r1 = 0 then
    some ((-2 : Int32), S2)
  else
    bd_ (f_X1_knows v2 S2) fun r4 S5 =>
    if r4 = 0 then
      some ((-2 : Int32), S5)
    else
      bd_ (f_X10_below v3 (100 : Int32) S5) fun r7 S8 =>
      if r7 = 0 then
        some ((-3 : Int32), S8)
      else
        bd_ (f_X10_within v4 (0 : Int32) (2000 : Int32) S8) fun r10 S11 =>
        if r10 = 0 then
          some ((-3 : Int32), S11)
        else
          bd_ (f_X10_within v5 (v4 + (1 : Int32)) (3000 : Int32) S11) fun r13 S14 =>
          if r13 = 0 then
            some ((-3 : Int32), S14)
          else
            if (rd S14 43 7) < (24 : Int32) then
              fa_call v1 v2 v3 v4 v5 v6 S14
            else
              some ((-5 : Int32), S14)

set_option maxHeartbeats 4000000 in
set_option maxRecDepth 100000 in
theorem c_X10_call (l : Launch) {E : En} {α : Nat → Nat} {g : Nat × Nat} {v1 : Int32} {v2 : Int32} {v3 : Int32} {v4 : Int32} {v5 : Int32} {v6 : Int32} {S : St}  {z : Int32 × St} (hg : g.1 = nP S ∧ g.2 = nC S) (h : f_X10_call v1 v2 v3 v4 v5 v6 S = some z) : Met l yX10_call (wsY yX10_call cX10_call 8 (some .int)) rm_X10_call (va_Pc [.ref (α 0), .int v1, .int v2, .int v3, .int v4, .int v5, .int v6] (fun U => Wd E α g S U ∧ Kc E U)) (Qa E α g z) 2 29 E.2.2.1 := by
  refine g_metA [.ref (α 0), .int v1, .int v2, .int v3, .int v4, .int v5, .int v6] (by decide) rfl (Nat.le_of_ble_eq_true rfl) ?_
  intro p e s m below meth c ls C hKc hR hl
  generalize hae : ([.ref (α 0), .int v1, .int v2, .int v3, .int v4, .int v5, .int v6] : List Value).toArray = args at C ⊢
  have hl : lv_has ls 8 [(0, .ref (α 0)), (1, .int v1), (2, .int v2), (3, .int v3), (4, .int v4), (5, .int v5), (6, .int v6)] := hl
  obtain ⟨hx, hb, hml, hown, hts, hlk, hrt, hKs⟩ := id C
  have hS : va_S E.2.2.1 s.heap s.heap [] := va_S.rf
  unfold f_X10_call at h
  refine lv_iload_n hx hb dX10_call_0 rfl (lv_at hl 1 rfl) ?_
  refine lv_bipush (v := 6) hx hb dX10_call_1 (by decide) ?_
  obtain ⟨r1, S2, hr1, h⟩ := bd_e h
  have es_S2 := s_X10_below hr1
  refine g_ci hS (g_runS C hR hS (As := [.int v1, .int (6 : Int32)]) (rest := []) (c_X10_below l  hr1) m_X10_below q377 ⟨rfl, rfl⟩ ⟨Nat.le_of_ble_eq_true rfl, Nat.le_of_ble_eq_true rfl⟩ rfl hl.1 rfl (Nat.le_of_ble_eq_true rfl) dX10_call_3 ⟨Nat.zero_le _, Nat.zero_le _⟩) (fun H locs hR hS => ?_)
  refine lv_if_eq (tgt := 20) hx hb dX10_call_6 (by decide) (fun c3 => ?_) (fun c3 => ?_)
  · have h := ite_t c3 h
    refine lv_bipush (v := -2) hx hb dX10_call_20 (by decide) ?_
    exact g_reta C hR hS (fun _ hk => ⟨hk, rfl⟩) (by subst_vars; exact hg) ⟨Nat.zero_le _, Nat.zero_le _⟩ h dX10_call_22
  · have h := ite_f c3 h
    refine lv_aload_n hx hb dX10_call_9 rfl (lv_at hl 0 rfl) ?_
    refine g_getr (t := 14) C hR (k := 0) (j := 2) (live_st (by decide)) rfl rfl (vw10) inl10 (by decide) q350 dX10_call_10 ?_
    refine lv_iload_n hx hb dX10_call_13 rfl (lv_at hl 2 rfl) ?_
    obtain ⟨r4, S5, hr4, h⟩ := bd_e h
    have es_S5 := s_X1_knows hr4
    refine g_ci hS (g_runV C hR hS (k := 14) (As := [.int v2]) (rest := []) (c_X1_knows l  hr4) (live_st (by decide)) rfl (vw1) m_X1_knows q684 ⟨rfl, rfl⟩ ⟨Nat.le_of_ble_eq_true rfl, Nat.le_of_ble_eq_true rfl⟩ rfl hl.1 rfl (Nat.le_of_ble_eq_true rfl) dX10_call_14 ⟨Nat.zero_le _, Nat.zero_le _⟩) (fun H locs hR hS => ?_)
    refine lv_if_ne (tgt := 23) hx hb dX10_call_17 (by decide) (fun c6 => ?_) (fun c6 => ?_)
    · have h := ite_f c6 h
      refine lv_iload_n hx hb dX10_call_23 rfl (lv_at hl 3 rfl) ?_
      refine lv_bipush (v := 100) hx hb dX10_call_24 (by decide) ?_
      obtain ⟨r7, S8, hr7, h⟩ := bd_e h
      have es_S8 := s_X10_below hr7
      refine g_ci hS (g_runS C hR hS (As := [.int v3, .int (100 : Int32)]) (rest := []) (c_X10_below l  hr7) m_X10_below q377 ⟨rfl, rfl⟩ ⟨Nat.le_of_ble_eq_true rfl, Nat.le_of_ble_eq_true rfl⟩ rfl hl.1 rfl (Nat.le_of_ble_eq_true rfl) dX10_call_26 ⟨Nat.zero_le _, Nat.zero_le _⟩) (fun H locs hR hS => ?_)
      refine lv_if_eq (tgt := 59) hx hb dX10_call_29 (by decide) (fun c9 => ?_) (fun c9 => ?_)
      · have h := ite_t c9 h
        refine lv_bipush (v := -3) hx hb dX10_call_59 (by decide) ?_
        exact g_reta C hR hS (fun _ hk => ⟨hk, rfl⟩) (by subst_vars; exact hg) ⟨Nat.zero_le _, Nat.zero_le _⟩ h dX10_call_61
      · have h := ite_f c9 h
        refine lv_iload hx hb dX10_call_32 (lv_at hl 4 rfl) ?_
        refine lv_iconst (v := 0) hx hb dX10_call_34 (by decide) ?_
        refine lv_sipush (v := 2000) hx hb dX10_call_35 (by decide) ?_
        obtain ⟨r10, S11, hr10, h⟩ := bd_e h
        have es_S11 := s_X10_within hr10
        refine g_ci hS (g_runS C hR hS (As := [.int v4, .int (0 : Int32), .int (2000 : Int32)]) (rest := []) (c_X10_within l  hr10) m_X10_within q374 ⟨rfl, rfl⟩ ⟨Nat.le_of_ble_eq_true rfl, Nat.le_of_ble_eq_true rfl⟩ rfl hl.1 rfl (Nat.le_of_ble_eq_true rfl) dX10_call_38 ⟨Nat.zero_le _, Nat.zero_le _⟩) (fun H locs hR hS => ?_)
        refine lv_if_eq (tgt := 59) hx hb dX10_call_41 (by decide) (fun c12 => ?_) (fun c12 => ?_)
        · have h := ite_t c12 h
          refine lv_bipush (v := -3) hx hb dX10_call_59 (by decide) ?_
          exact g_reta C hR hS (fun _ hk => ⟨hk, rfl⟩) (by subst_vars; exact hg) ⟨Nat.zero_le _, Nat.zero_le _⟩ h dX10_call_61
        · have h := ite_f c12 h
          refine lv_iload hx hb dX10_call_44 (lv_at hl 5 rfl) ?_
          refine lv_iload hx hb dX10_call_46 (lv_at hl 4 rfl) ?_
          refine lv_iconst (v := 1) hx hb dX10_call_48 (by decide) ?_
          refine lv_iadd hx hb dX10_call_49 ?_
          refine lv_sipush (v := 3000) hx hb dX10_call_50 (by decide) ?_
          obtain ⟨r13, S14, hr13, h⟩ := bd_e h
          have es_S14 := s_X10_within hr13
          refine g_ci hS (g_runS C hR hS (As := [.int v5, .int (v4 + (1 : Int32)), .int (3000 : Int32)]) (rest := []) (c_X10_within l  hr13) m_X10_within q374 ⟨rfl, rfl⟩ ⟨Nat.le_of_ble_eq_true rfl, Nat.le_of_ble_eq_true rfl⟩ rfl hl.1 rfl (Nat.le_of_ble_eq_true rfl) dX10_call_53 ⟨Nat.zero_le _, Nat.zero_le _⟩) (fun H locs hR hS => ?_)
          refine lv_if_ne (tgt := 62) hx hb dX10_call_56 (by decide) (fun c15 => ?_) (fun c15 => ?_)
          · have h := ite_f c15 h
            refine lv_aload_n hx hb dX10_call_62 rfl (lv_at hl 0 rfl) ?_
            refine g_getr (t := 43) C hR (k := 0) (j := 4) (live_st (by decide)) rfl rfl (vw10) inl10 (by decide) q352 dX10_call_63 ?_
            refine g_geti C hR (k := 43) (j := 7) (live_st (by decide)) rfl rfl (vw7) inl7 (by decide) q295 dX10_call_66 ?_
            refine lv_bipush (v := 24) hx hb dX10_call_69 (by decide) ?_
            refine lv_icmp_lt (tgt := 77) hx hb dX10_call_71 (by decide) (fun c16 => ?_) (fun c16 => ?_)
            · have h := ite_t c16 h
              exact wa_call C hKc (by subst_vars; exact hg) hR hS hl h
            · have h := ite_f c16 h
              refine lv_bipush (v := -5) hx hb dX10_call_74 (by decide) ?_
              exact g_reta C hR hS (fun _ hk => ⟨hk, rfl⟩) (by subst_vars; exact hg) ⟨Nat.zero_le _, Nat.zero_le _⟩ h dX10_call_76
          · have h := ite_t c15 h
            refine lv_bipush (v := -3) hx hb dX10_call_59 (by decide) ?_
            exact g_reta C hR hS (fun _ hk => ⟨hk, rfl⟩) (by subst_vars; exact hg) ⟨Nat.zero_le _, Nat.zero_le _⟩ h dX10_call_61
    · have h := ite_t c6 h
      refine lv_bipush (v := -2) hx hb dX10_call_20 (by decide) ?_
      exact g_reta C hR hS (fun _ hk => ⟨hk, rfl⟩) (by subst_vars; exact hg) ⟨Nat.zero_le _, Nat.zero_le _⟩ h dX10_call_22

