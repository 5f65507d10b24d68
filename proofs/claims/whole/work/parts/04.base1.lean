/-- the cells that are there from the start: an object's class and fields (0 an int, 1 a long, n + 2 the cell n), or an array's kind and length -/
def layT : List ((Nat × List Nat) ⊕ (Nat × Nat)) := [.inl (10, [3, 5, 16, 22, 45, 51, 54]),
  .inl (8, [4, 0]),
  .inr (3, 16),
  .inl (6, [3, 6, 0, 0, 0, 7, 0, 8, 9, 10, 11, 12, 13, 14, 0, 0, 15, 0]),
  .inr (0, 16),
  .inr (0, 100),
  .inr (0, 100),
  .inr (0, 1700),
  .inr (0, 1700),
  .inr (0, 128),
  .inr (0, 128),
  .inr (0, 100),
  .inr (0, 100),
  .inr (0, 16),
  .inl (1, [17, 18, 19, 20, 21, 0]),
  .inr (0, 32),
  .inr (0, 32),
  .inr (0, 64),
  .inr (0, 8),
  .inr (0, 16),
  .inl (9, [23, 0, 24, 0, 0, 0, 0]),
  .inr (0, 200),
  .inr (4, 10),
  .inl (5, [0, 0, 35, 0]),
  .inl (5, [0, 0, 36, 0]),
  .inl (5, [0, 0, 37, 0]),
  .inl (5, [0, 0, 38, 0]),
  .inl (5, [0, 0, 39, 0]),
  .inl (5, [0, 0, 40, 0]),
  .inl (5, [0, 0, 41, 0]),
  .inl (5, [0, 0, 42, 0]),
  .inl (5, [0, 0, 43, 0]),
  .inl (5, [0, 0, 44, 0]),
  .inr (0, 8),
  .inr (0, 8),
  .inr (0, 8),
  .inr (0, 8),
  .inr (0, 8),
  .inr (0, 8),
  .inr (0, 8),
  .inr (0, 8),
  .inr (0, 8),
  .inr (0, 8),
  .inl (7, [16, 5, 46, 47, 48, 49, 50, 0, 0]),
  .inr (0, 6),
  .inr (0, 6),
  .inr (0, 6),
  .inr (0, 6),
  .inr (5, 24),
  .inl (4, [16, 52, 0, 53]),
  .inr (0, 36),
  .inr (1, 8),
  .inl (2, [55]),
  .inr (0, 16),
  .inl (11, [0, 57, 58, 59, 60, 61, 62, 0, 63, 64, 65, 66, 0, 67, 0, 0, 1, 0, 0, 0, 0, 68, 69, 70, 71, 72, 0, 73, 74, 75, 76, 0, 0, 77, 78, 79, 80, 81, 82, 83, 84, 85, 86, 87, 88, 89, 90, 91]),
  .inr (0, 128),
  .inr (0, 16),
  .inr (0, 16),
  .inr (0, 16),
  .inr (0, 16),
  .inr (0, 16),
  .inr (0, 17408),
  .inr (0, 17408),
  .inr (0, 16),
  .inr (0, 16),
  .inr (0, 200),
  .inr (0, 110),
  .inr (0, 32),
  .inr (0, 256),
  .inr (0, 8),
  .inr (0, 64),
  .inr (0, 16),
  .inr (0, 6),
  .inr (0, 6),
  .inr (0, 6),
  .inr (0, 24),
  .inr (0, 24),
  .inr (0, 24),
  .inr (0, 24),
  .inr (0, 24),
  .inr (2, 24),
  .inr (0, 24),
  .inr (0, 24),
  .inr (0, 24),
  .inr (2, 24),
  .inr (0, 24),
  .inr (0, 384),
  .inr (0, 17),
  .inr (0, 17),
  .inr (0, 16)]
def lay (k : Nat) : (Nat × List Nat) ⊕ (Nat × Nat) :=
  if k < 90 then layT.getD k (.inr (9, 0))
  else if 200 ≤ k ∧ k < 232 then (if k % 2 = 0 then .inl (3, [0, 0, 0, k + 1 + 2, 0, 0]) else .inr (0, 8))
  else if 300 ≤ k ∧ k < 348 then (if k % 2 = 0 then .inl (0, [0, 0, 0, 0, 0, 0, 0, 0, 0, 0, k + 1 + 2, 0, 0]) else .inr (0, 16))
  else .inr (9, 0)
/-! ===== the abstract state: what the cells hold, by a cell's number and a place in it ===== -/
abbrev St : Type := (Nat → Nat → Int32) × (Nat → Nat → Int64)
def gup {α : Type} (f : Nat → Nat → α) (k j : Nat) (v : α) : Nat → Nat → α := fun a b => if a = k ∧ b = j then v else f a b
def rd (S : St) (k j : Nat) : Int32 := S.1 k j
def rl (S : St) (k j : Nat) : Int64 := S.2 k j
def wr (S : St) (k j : Nat) (v : Int32) : St := (gup S.1 k j v, S.2)
def wl (S : St) (k j : Nat) (v : Int64) : St := (S.1, gup S.2 k j v)
/-- how many pieces, calls there are: kept at a number that is no cell's -/
def nP (S : St) : Nat := (rd S 900 0).toNatClampNeg
def nC (S : St) : Nat := (rd S 900 1).toNatClampNeg
def live (g : Nat × Nat) (k : Nat) : Prop := k < 90 ∨ (200 ≤ k ∧ k < 200 + 2 * g.1) ∨ (300 ≤ k ∧ k < 300 + 2 * g.2)
def fv (S : St) (α : Nat → Nat) (k j : Nat) : Nat → Value
  | 0 => .int (rd S k j)
  | 1 => .long (rl S k j)
  | n + 2 => .ref (α n)
def refs (α : Nat → Nat) (S : St) (t : Nat) : Nat → Option Nat := fun i =>
  if t = 3 then (if i < nP S then some (α (200 + 2 * i)) else none)
  else if t = 4 then (if i < 10 then some (α (23 + i)) else none)
  else if t = 5 then (if i < nC S then some (α (300 + 2 * i)) else none) else none
def arrC (S : St) (α : Nat → Nat) (k t : Nat) : (Nat → Int32) ⊕ (Nat → Int64) ⊕ (Nat → UInt32) ⊕ (Nat → UInt64) ⊕ (Nat → Option Nat) :=
  if t = 0 ∨ t = 2 then .inl (rd S k) else if t = 1 then .inr (.inl (rl S k)) else .inr (.inr (.inr (.inr (refs α S t))))
def cel (S : St) (α : Nat → Nat) (cy : Nat → ClassId) (k : Nat) : va_E := match lay k with
  | .inl o => .inr (o.1, o.2.mapIdx (fun j kd => fv S α k j kd))
  | .inr a => .inl (cy a.1, a.2, arrC S α k a.1)
/-- what is the same all through a run: the classes' places, the arrays' classes, the run's own addresses, the texts' addresses -/
abbrev En : Type := va_G × (Nat → ClassId) × (Nat → Prop) × (Nat → Nat) × (Nat → Nat)
abbrev En.D (E : En) : va_G := E.1
abbrev En.cy (E : En) : Nat → ClassId := E.2.1
abbrev En.A (E : En) : Nat → Prop := E.2.2.1
abbrev En.aK (E : En) : Nat → Nat := E.2.2.2.1
abbrev En.aV (E : En) : Nat → Nat := E.2.2.2.2
def tysL (E : En) : List (ClassId × FieldType) := [(E.2.1 0, .int), (E.2.1 1, .long), (E.2.1 2, .boolean), (E.2.1 3, .object RX3), (E.2.1 4, .object RX5), (E.2.1 5, .object RX0)]
/-- the heap holds the state -/
def Rp (E : En) (α : Nat → Nat) (g : Nat × Nat) (S : St) (H : Heap) : Prop :=
  (g.1 ≤ 16 ∧ g.2 ≤ 24 ∧ nP S ≤ g.1 ∧ nC S ≤ g.2) ∧ (∀ k : Nat, live g k → va_at E.1 vwCl (α k, cel S α E.2.1 k) H ∧ E.2.2.1 (α k)) ∧ (∀ i j : Nat, live g i → live g j → α i = α j → i = j)
def nestW : List Cond := [.methodLinkNest RX1 39 yX10_below RX10, .methodLinkNest RX9 91 yX10_below RX10]
def lenJS : List Nat := [4, 2, 4, 3, 4, 3]
def bytJS : List (List Int32) := [[119, 111, 114, 100], [105, 115], [108, 105, 110, 101], [99, 117, 116], [110, 101, 97, 114], [102, 97, 114]]
def strI : List (Nat × String) := [(54, "word"), (65, "is"), (70, "line"), (75, "cut"), (77, "near"), (82, "far")]
/-- what the machine's tables and the old heap hold -/
def Ks (E : En) (U : State) : Prop :=
  va_K E.1 vwCl (tysL E) U ∧ (∀ q : Nat, U.heap.size ≤ q → E.2.2.1 q) ∧ (∀ w ∈ nestW, va_Nw w U) ∧ (∀ i : Nat, i < 6 → vk_R RX9 (strI.getD i (0, "")).1 (strI.getD i (0, "")).2 (E.2.2.2.1 i) U) ∧ vk_S 6 lenJS bytJS E.2.2.2.1 E.2.2.2.2 E.2.2.1 U U.heap ∧ va_Z "java/lang/String" "COMPACT_STRINGS" "Z" (.int 1) E.2.2.1 U U.heap ∧ va_Zq "jdk/internal/util/Preconditions" "SIOOBE_FORMATTER" "Ljava/util/function/BiFunction;" E.2.2.1 U U.heap
def Wd (E : En) (α : Nat → Nat) (g : Nat × Nat) (S : St) (U : State) : Prop := Rp E α g S U.heap ∧ Ks E U
theorem live_st {g : Nat × Nat} {k : Nat} (h : k < 90) : live g k := Or.inl h
theorem live_p {g : Nat × Nat} {n : Nat} (h : n < g.1) : live g (200 + 2 * n) := Or.inr (Or.inl ⟨by omega, by omega⟩)
theorem live_pt {g : Nat × Nat} {n : Nat} (h : n < g.1) : live g (200 + 2 * n + 1) := Or.inr (Or.inl ⟨by omega, by omega⟩)
theorem live_c {g : Nat × Nat} {n : Nat} (h : n < g.2) : live g (300 + 2 * n) := Or.inr (Or.inr ⟨by omega, by omega⟩)
theorem live_ce {g : Nat × Nat} {n : Nat} (h : n < g.2) : live g (300 + 2 * n + 1) := Or.inr (Or.inr ⟨by omega, by omega⟩)
theorem live_r {g : Nat × Nat} {n : Nat} (h : n < 10) : live g (23 + n) := Or.inl (by omega)
theorem live_ri {g : Nat × Nat} {n : Nat} (h : n < 10) : live g (33 + n) := Or.inl (by omega)
theorem lay_p {n : Nat} (h : n < 16) : lay (200 + 2 * n) = .inl (3, [0, 0, 0, 200 + 2 * n + 1 + 2, 0, 0]) := by
  unfold lay
  rw [if_neg (by omega), if_pos (by omega), if_pos (by omega)]
theorem lay_pt {n : Nat} (h : n < 16) : lay (200 + 2 * n + 1) = .inr (0, 8) := by
  unfold lay
  rw [if_neg (by omega), if_pos (by omega), if_neg (by omega)]
theorem lay_c {n : Nat} (h : n < 24) : lay (300 + 2 * n) = .inl (0, [0, 0, 0, 0, 0, 0, 0, 0, 0, 0, 300 + 2 * n + 1 + 2, 0, 0]) := by
  unfold lay
  rw [if_neg (by omega), if_neg (by omega), if_pos (by omega), if_pos (by omega)]
theorem lay_ce {n : Nat} (h : n < 24) : lay (300 + 2 * n + 1) = .inr (0, 16) := by
  unfold lay
  rw [if_neg (by omega), if_neg (by omega), if_pos (by omega), if_neg (by omega)]
theorem lay_r {n : Nat} (h : n < 10) : lay (23 + n) = .inl (5, [0, 0, 33 + n + 2, 0]) := by
  match n, h with
  | 0, _ => rfl
  | 1, _ => rfl
  | 2, _ => rfl
  | 3, _ => rfl
  | 4, _ => rfl
  | 5, _ => rfl
  | 6, _ => rfl
  | 7, _ => rfl
  | 8, _ => rfl
  | 9, _ => rfl
  | n + 10, h => omega
theorem lay_ri {n : Nat} (h : n < 10) : lay (33 + n) = .inr (0, 8) := by
  match n, h with
  | 0, _ => rfl
  | 1, _ => rfl
  | 2, _ => rfl
  | 3, _ => rfl
  | 4, _ => rfl
  | 5, _ => rfl
  | 6, _ => rfl
  | 7, _ => rfl
  | 8, _ => rfl
  | 9, _ => rfl
  | n + 10, h => omega
theorem lay_lt {k : Nat} {x : (Nat × List Nat) ⊕ (Nat × Nat)} (h : lay k = x) (hx : x ≠ .inr (9, 0)) : k < 900 := by
  rcases Nat.lt_or_ge k 900 with h1 | h1
  · exact h1
  · exfalso
    apply hx
    rw [← h]
    unfold lay
    rw [if_neg (by omega), if_neg (by omega), if_neg (by omega)]
theorem cel_o {S : St} {α : Nat → Nat} {cy : Nat → ClassId} {k ci : Nat} {ks : List Nat} (h : lay k = .inl (ci, ks)) : cel S α cy k = .inr (ci, ks.mapIdx (fun j kd => fv S α k j kd)) := by
  unfold cel; rw [h]
theorem cel_a {S : St} {α : Nat → Nat} {cy : Nat → ClassId} {k t n : Nat} (h : lay k = .inr (t, n)) : cel S α cy k = .inl (cy t, n, arrC S α k t) := by
  unfold cel; rw [h]
theorem fs_at {S : St} {α : Nat → Nat} {k j kd : Nat} {ks : List Nat} (h : ks[j]? = some kd) : (ks.mapIdx (fun j kd => fv S α k j kd))[j]? = some (fv S α k j kd) := by
  rw [List.getElem?_mapIdx, h]; rfl
theorem rd_wr (S : St) (k j a b : Nat) (v : Int32) : rd (wr S k j v) a b = if a = k ∧ b = j then v else rd S a b := rfl
theorem rd_wl (S : St) (k j a b : Nat) (v : Int64) : rd (wl S k j v) a b = rd S a b := rfl
theorem rl_wl (S : St) (k j a b : Nat) (v : Int64) : rl (wl S k j v) a b = if a = k ∧ b = j then v else rl S a b := rfl
theorem rl_wr (S : St) (k j a b : Nat) (v : Int32) : rl (wr S k j v) a b = rl S a b := rfl
theorem nP_wr {S : St} {k j : Nat} {v : Int32} (h : k < 900) : nP (wr S k j v) = nP S := by
  unfold nP; rw [rd_wr, if_neg (by omega)]
theorem nC_wr {S : St} {k j : Nat} {v : Int32} (h : k < 900) : nC (wr S k j v) = nC S := by
  unfold nC; rw [rd_wr, if_neg (by omega)]
theorem fv_wr_ne {S : St} {α : Nat → Nat} {k j q i : Nat} {v : Int32} (h : ¬ (q = k ∧ i = j)) (kd : Nat) : fv (wr S k j v) α q i kd = fv S α q i kd := by
  match kd with
  | 0 => show Value.int (rd _ _ _) = _; rw [rd_wr, if_neg h]; rfl
  | 1 => rfl
  | n + 2 => rfl
theorem fv_wl_ne {S : St} {α : Nat → Nat} {k j q i : Nat} {v : Int64} (h : ¬ (q = k ∧ i = j)) (kd : Nat) : fv (wl S k j v) α q i kd = fv S α q i kd := by
  match kd with
  | 0 => rfl
  | 1 => show Value.long (rl _ _ _) = _; rw [rl_wl, if_neg h]; rfl
  | n + 2 => rfl
theorem cel_ne {S S' : St} {α : Nat → Nat} {cy : Nat → ClassId} {q : Nat} (h1 : ∀ i, rd S' q i = rd S q i) (h2 : ∀ i, rl S' q i = rl S q i) (h3 : nP S' = nP S) (h4 : nC S' = nC S) : cel S' α cy q = cel S α cy q := by
  have e1 : rd S' q = rd S q := funext h1
  have e2 : rl S' q = rl S q := funext h2
  have e3 : ∀ j kd, fv S' α q j kd = fv S α q j kd := by
    intro j kd
    match kd with
    | 0 => show Value.int (rd S' q j) = Value.int (rd S q j); rw [h1]
    | 1 => show Value.long (rl S' q j) = Value.long (rl S q j); rw [h2]
    | n + 2 => rfl
  have e4 : ∀ t, refs α S' t = refs α S t := fun t => by unfold refs; rw [h3, h4]
  unfold cel arrC
  rw [e1, e2]
  simp only [e3, e4]
theorem cel_wr_f {S : St} {α : Nat → Nat} {cy : Nat → ClassId} {k j ci : Nat} {ks : List Nat} {v : Int32} (hl : lay k = .inl (ci, ks)) (hj : ks[j]? = some 0) : cel (wr S k j v) α cy k = .inr (ci, (ks.mapIdx (fun j kd => fv S α k j kd)).set j (.int v)) := by
  rw [cel_o hl]
  congr 2
  apply List.ext_getElem?
  intro i
  rw [List.getElem?_mapIdx, List.getElem?_set]
  by_cases hi : j = i
  · subst hi
    rw [if_pos rfl, hj]
    have : j < ks.length := (List.getElem?_eq_some_iff.mp hj).1
    rw [if_pos (by rw [List.length_mapIdx]; exact this)]
    show some (Value.int (rd _ _ _)) = _
    rw [rd_wr, if_pos ⟨rfl, rfl⟩]
  · rw [if_neg hi, List.getElem?_mapIdx]
    cases ks[i]? with
    | none => rfl
    | some kd => show some (fv (wr S k j v) α k i kd) = some (fv S α k i kd); rw [fv_wr_ne (fun h => hi h.2.symm)]
theorem cel_wl_f {S : St} {α : Nat → Nat} {cy : Nat → ClassId} {k j ci : Nat} {ks : List Nat} {v : Int64} (hl : lay k = .inl (ci, ks)) (hj : ks[j]? = some 1) : cel (wl S k j v) α cy k = .inr (ci, (ks.mapIdx (fun j kd => fv S α k j kd)).set j (.long v)) := by
  rw [cel_o hl]
  congr 2
  apply List.ext_getElem?
  intro i
  rw [List.getElem?_mapIdx, List.getElem?_set]
  by_cases hi : j = i
  · subst hi
    rw [if_pos rfl, hj]
    have : j < ks.length := (List.getElem?_eq_some_iff.mp hj).1
    rw [if_pos (by rw [List.length_mapIdx]; exact this)]
    show some (Value.long (rl _ _ _)) = _
    rw [rl_wl, if_pos ⟨rfl, rfl⟩]
  · rw [if_neg hi, List.getElem?_mapIdx]
    cases ks[i]? with
    | none => rfl
    | some kd => show some (fv (wl S k j v) α k i kd) = some (fv S α k i kd); rw [fv_wl_ne (fun h => hi h.2.symm)]
theorem rd_wr_row (S : St) (k j : Nat) (v : Int32) : rd (wr S k j v) k = upd (rd S k) j v := by
  funext i
  rw [rd_wr]
  by_cases h : i = j
  · subst h; rw [if_pos ⟨rfl, rfl⟩, pk_us]
  · rw [if_neg (fun q => h q.2), pk_un h]
theorem rl_wl_row (S : St) (k j : Nat) (v : Int64) : rl (wl S k j v) k = vp_updL (rl S k) j v := by
  funext i
  rw [rl_wl]
  by_cases h : i = j
  · subst h; rw [if_pos ⟨rfl, rfl⟩, pk_uLs]
  · rw [if_neg (fun q => h q.2), pk_uLn h]
theorem cel_wr_a {S : St} {α : Nat → Nat} {cy : Nat → ClassId} {k j n : Nat} {v : Int32} (t : Nat) (ht : t = 0 ∨ t = 2) (hl : lay k = .inr (t, n)) : cel (wr S k j v) α cy k = .inl (cy t, n, .inl (upd (rd S k) j v)) := by
  rw [cel_a hl]
  unfold arrC
  rw [if_pos ht, rd_wr_row]
theorem cel_wl_a {S : St} {α : Nat → Nat} {cy : Nat → ClassId} {k j n : Nat} {v : Int64} (hl : lay k = .inr (1, n)) : cel (wl S k j v) α cy k = .inl (cy 1, n, .inr (.inl (vp_updL (rl S k) j v))) := by
  rw [cel_a hl]
  unfold arrC
  rw [if_neg (by decide), if_pos rfl, rl_wl_row]
theorem Rp.put {E : En} {α : Nat → Nat} {g : Nat × Nat} {S S' : St} {H H1 : Heap} (hR : Rp E α g S H) {k : Nat} (hk : live g k) (hat : va_at E.1 vwCl (α k, cel S' α E.2.1 k) H1) (oq : ∀ q : Nat, q ≠ α k → H1[q]? = H[q]?) (h1 : ∀ q i, q ≠ k → rd S' q i = rd S q i) (h2 : ∀ q i, q ≠ k → rl S' q i = rl S q i) (hp : nP S' = nP S) (hc : nC S' = nC S) : Rp E α g S' H1 := by
  obtain ⟨⟨a1, a2, a3, a4⟩, b, d⟩ := hR
  refine ⟨⟨a1, a2, hp ▸ a3, hc ▸ a4⟩, fun q hq => ?_, d⟩
  by_cases e : q = k
  · subst e
    exact ⟨hat, (b q hq).2⟩
  · refine ⟨?_, (b q hq).2⟩
    rw [cel_ne (fun i => h1 q i e) (fun i => h2 q i e) hp hc]
    exact (b q hq).1.kept (oq _ (fun z => e (d q k hq hk z)))
theorem Ks.call {E : En} {s U : State} {H : Heap} {locs : List Loc} (h : Ks E s) (hS : va_S E.2.2.1 s.heap H locs) (hU : U.heap = H) (hW : s.WarmedH U.vm) : Ks E U := by
  obtain ⟨h1, h2, h3, h4, h5, h6, h7⟩ := h
  refine ⟨va_K.moved hW.alike h1, fun q hq => h2 q (by rw [hU] at hq; have := hS.1; omega), fun w hw => ?_, fun i hi => (h4 i hi).warm hW, ?_, ?_, ?_⟩
  · have := h3 w hw
    simp only [nestW, List.mem_cons, List.not_mem_nil, or_false] at hw
    rcases hw with rfl | rfl <;> exact va_Nw.warmM hW this
  · rw [hU]; exact (h5.moved hW.alike).kept hS.2.1
  · rw [hU]; exact (h6.moved hW.alike).kept hS.2.1
  · rw [hU]; exact (h7.moved hW.alike).kept hS.2.1
theorem Ks.blind {E : En} {U : State} {g : JFrame} {mk : MethodId} {a : Array Value} (h : Ks E U) : Ks E (U.calling g mk a) := by
  obtain ⟨h1, h2, h3, h4, h5, h6, h7⟩ := h
  refine ⟨va_K.moved (u := U) (U := U.calling g mk a) (Vm.Alike.refl U.vm) h1, h2, fun w hw => ?_, fun i hi => (h4 i hi).same rfl, vk_S.moved (u := U) (U := U.calling g mk a) (Vm.Alike.refl U.vm) h5, va_Z.moved (u := U) (U := U.calling g mk a) (Vm.Alike.refl U.vm) h6, va_Zq.moved (u := U) (U := U.calling g mk a) (Vm.Alike.refl U.vm) h7⟩
  have := h3 w hw
  simp only [nestW, List.mem_cons, List.not_mem_nil, or_false] at hw
  rcases hw with rfl | rfl <;> exact va_Nw.same rfl rfl this
theorem Wd.blind {E : En} {α : Nat → Nat} {g : Nat × Nat} {S : St} {av : List Value} : FrameBlind (va_Pc av (Wd E α g S)) := fun a U f mk h => ⟨h.1, h.2.1, h.2.2.blind⟩
