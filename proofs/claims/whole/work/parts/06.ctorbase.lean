def nestI : List Cond := [.methodLinkNest RX10 9 yX8_init RX10, .methodLinkNest RX10 17 yX1_init RX10, .methodLinkNest RX10 59 yX2_init RX10, .methodLinkNest RX9 21 yX5_init RX10]
/-- what the constructors need of the tables -/
def Kc (E : En) (U : State) : Prop := va_K E.1 vwCl (tysL E) U ∧ (va_AO RX3 U ∧ va_AO RX5 U ∧ va_AO RX0 U) ∧ (∀ w ∈ nestI, va_Nw w U)
theorem Kc.call {E : En} {s U : State} (h : Kc E s) (hW : s.WarmedH U.vm) : Kc E U := by
  obtain ⟨h1, ⟨a, b, c⟩, h3⟩ := h
  refine ⟨va_K.moved hW.alike h1, ⟨a.moved hW.alike, b.moved hW.alike, c.moved hW.alike⟩, fun w hw => ?_⟩
  have := h3 w hw
  simp only [nestI, List.mem_cons, List.not_mem_nil, or_false] at hw
  rcases hw with rfl | rfl | rfl | rfl <;> exact va_Nw.warmM hW this
theorem Kc.blind {E : En} {U : State} {g : JFrame} {mk : MethodId} {a : Array Value} (h : Kc E U) : Kc E (U.calling g mk a) := by
  obtain ⟨h1, ⟨x, b, c⟩, h3⟩ := h
  refine ⟨va_K.moved (u := U) (U := U.calling g mk a) (Vm.Alike.refl U.vm) h1, ⟨va_AO.moved (u := U) (U := U.calling g mk a) (Vm.Alike.refl U.vm) x, va_AO.moved (u := U) (U := U.calling g mk a) (Vm.Alike.refl U.vm) b, va_AO.moved (u := U) (U := U.calling g mk a) (Vm.Alike.refl U.vm) c⟩, fun w hw => ?_⟩
  have := h3 w hw
  simp only [nestI, List.mem_cons, List.not_mem_nil, or_false] at hw
  rcases hw with rfl | rfl | rfl | rfl <;> exact va_Nw.same rfl rfl this
/-- a constructor's start: the new object's cell, fields as they are born -/
def PI (E : En) (ws : va_W) (sz : Nat) (U : State) : Prop := U.heap.size = sz ∧ va_P E.1 vwCl ws U.heap ∧ Kc E U ∧ va_D (fun _ => True) ws
theorem PI.blind {E : En} {ws : va_W} {sz : Nat} {av : List Value} : FrameBlind (va_Pc av (PI E ws sz)) := fun a U f mk h => ⟨h.1, h.2.1, h.2.2.1, h.2.2.2.1.blind, h.2.2.2.2⟩
abbrev QI {T : Type} (E : En) (ws : va_W) (sz : Nat) (w : T → va_W) : Array Value → State → Outcome → State → Prop := va_Qv (fun _ : T => True) (fun q t => va_P E.1 vwCl (w q) t.heap ∧ va_D (va_A ws sz) (w q)) (va_A ws sz)
abbrev CI (p : Program) (s : State) (m : MethodId) (args : Array Value) (meth : Method) (c : Code) (own : String) (cc : ByteArray) (nL : Nat) (E : En) : Prop :=
  p.tables.exec = Jvm.exec ∧ c.code = cc ∧ c.maxLocals = nL ∧ s.vm.findClass own = some m.cls ∧ (∀ w ∈ wsL_law, w.before args s = true) ∧ meth.locks = false ∧ meth.sig.returnType = none ∧ meth.name = "<init>" ∧ Kc E s
theorem n_met {l : Launch} {y : MethodName} {own : String} {cc : ByteArray} {maxL : Nat} {rm : Room} {E : En} {ws : va_W} {sz mc ms : Nat} {Qc : Array Value → State → Outcome → State → Prop} (av : List Value) (hy : plainName y.cls = true) (ho : y.cls = own) (hyn : y.name = "<init>") (hl : (lg_sl av).length ≤ maxL)
    (body : ∀ (p : Program) (e : Env) (s : State) (m : MethodId) (below : List Frame) (meth : Method) (c : Code) (ls : Array Slot), CI p s m av.toArray meth c own cc maxL E → va_P E.1 vwCl ws s.heap → va_D (va_A ws s.heap.size) ws → s.heap.size = sz → lv_has ls maxL (lv_args 0 av) → W p l e rm s m av.toArray below meth c s.heap [] 0 0 (MQ below Qc av.toArray s mc ms (va_A ws sz)) (F0 m 0 ls [])) :
    Met l y (wsY y cc maxL none) rm (va_Pc av (PI E ws sz)) Qc mc ms (va_A ws sz) := by
  refine Met.ofW (cc := cc) (maxL := maxL) (ret := none) hy rfl ?_
  intro p e s m args below meth c s₁ B hml hv
  obtain ⟨rfl, hsz, hP, hK, hD0⟩ := hv
  have hts := atoms_spec (ws := wsY y cc maxL none) B.pre
  have hown : s.vm.findClass own = some m.cls := by rw [← ho]; exact findClass_of_methodNamed B.named
  have hin : meth.name = "<init>" := by rw [← hyn]; exact (name_of_methodNamed B.named B.method).1
  have hl2 := lv_entry av (n := maxL) hl
  rw [lg_entry_eq]
  exact body p e s m below meth c _ ⟨B.exec, B.bytes, hml, hown, fun w hw => hts w (List.mem_cons_of_mem _ hw), B.notSynchronized, B.returns, hin, hK⟩ hP hD0.self hsz hl2
theorem q_oi : Cond.code Lib.objectInit ⟨#[0xb1]⟩ 1 none ∈ wsL_law := ws_at 94 (by decide +kernel) (by decide +kernel)
theorem vP_mem {D : va_G} {cl : List vw_C} {ws : va_W} {H : Heap} : va_P D cl ws H ↔ ∀ q ∈ ws, va_at D cl q H := by
  refine ⟨fun h q hq => ?_, fun h k q hk => h q (List.mem_of_getElem? hk)⟩
  obtain ⟨i, hi⟩ := List.getElem?_of_mem hq
  exact h i q hi
theorem vD_iff {A : Nat → Prop} {ws : va_W} : va_D A ws ↔ (ws.map (fun q => q.1)).Nodup ∧ ∀ q ∈ ws, A q.1 := by
  constructor
  · intro h
    refine ⟨?_, fun q hq => ?_⟩
    · refine List.pairwise_iff_getElem.mpr (fun i j hi hj hij he => ?_)
      simp only [List.getElem_map] at he
      rw [List.length_map] at hi hj
      have := h.1 i j _ _ (List.getElem?_eq_getElem hi) (List.getElem?_eq_getElem hj) he
      omega
    · obtain ⟨i, hi⟩ := List.getElem?_of_mem hq
      exact h.2 i q hi
  · intro ⟨h1, h2⟩
    refine ⟨fun i j x y hx hy hxy => ?_, fun k q hk => h2 q (List.mem_of_getElem? hk)⟩
    have h1 := List.pairwise_iff_getElem.mp h1
    obtain ⟨li, ei⟩ := List.getElem?_eq_some_iff.mp hx
    obtain ⟨lj, ej⟩ := List.getElem?_eq_some_iff.mp hy
    rcases Nat.lt_trichotomy i j with h | h | h
    · have h9 := h1 i j (by rw [List.length_map]; exact li) (by rw [List.length_map]; exact lj) h
      simp only [List.getElem_map] at h9
      exact absurd (by rw [ei, ej, hxy]) h9
    · exact h
    · have h9 := h1 j i (by rw [List.length_map]; exact lj) (by rw [List.length_map]; exact li) h
      simp only [List.getElem_map] at h9
      exact absurd (by rw [ei, ej, hxy]) h9
theorem n_perm {D : va_G} {cl : List vw_C} {A : Nat → Prop} {w w' : va_W} {H : Heap} (hp : w.Perm w') (hP : va_P D cl w H) (hD : va_D A w) : va_P D cl w' H ∧ va_D A w' := by
  refine ⟨vP_mem.mpr (fun q hq => vP_mem.mp hP q (hp.mem_iff.mpr hq)), vD_iff.mpr ⟨?_, fun q hq => (vD_iff.mp hD).2 q (hp.mem_iff.mpr hq)⟩⟩
  exact (hp.map _).nodup_iff.mp (vD_iff.mp hD).1
theorem n_sw0 {D : va_G} {cl : List vw_C} {A : Nat → Prop} {X : va_W} {b : Nat × va_E} {H : Heap} (hP : va_P D cl (X ++ [b]) H) (hD : va_D A (X ++ [b])) : va_P D cl (b :: X) H ∧ va_D A (b :: X) := n_perm (List.perm_append_singleton b X) hP hD
theorem n_sw {D : va_G} {cl : List vw_C} {A : Nat → Prop} {X : va_W} {a b : Nat × va_E} {H : Heap} (hP : va_P D cl ((a :: X) ++ [b]) H) (hD : va_D A ((a :: X) ++ [b])) : va_P D cl (a :: b :: X) H ∧ va_D A (a :: b :: X) := n_perm ((List.perm_append_singleton b (a :: X)).trans (List.Perm.swap a b X)) hP hD
theorem n_join0 {A : Nat → Prop} {D : va_G} {cl : List vw_C} {b : Nat × va_E} {X w1 : va_W} {H H1 : Heap} (hP : va_P D cl (b :: X) H) (hD : va_D A (b :: X)) (hk : ∀ q : Nat, q < H.size → ¬ va_A [b] H.size q → H1[q]? = H[q]?) (hF : ∀ q, va_A [b] H.size q → A q) (hP1 : va_P D cl w1 H1) (hD1 : va_D (va_A [b] H.size) w1) : va_P D cl (X ++ w1) H1 ∧ va_D A (X ++ w1) := by
  have hm := vP_mem.mp hP
  obtain ⟨hn, hA⟩ := vD_iff.mp hD
  have apart : ∀ q ∈ X, q.1 < H.size ∧ ¬ va_A [b] H.size q.1 := by
    intro q hq
    have hl := (hm q (List.mem_cons_of_mem _ hq)).lt
    refine ⟨hl, fun h => ?_⟩
    rcases h with ⟨k, e, h⟩ | h
    · have hbq : (q.1, e) = b := by
        have := List.mem_of_getElem? h
        exact List.mem_singleton.mp this
      rw [List.map_cons, List.nodup_cons] at hn
      exact hn.1 (List.mem_map.mpr ⟨q, hq, by rw [← hbq]⟩)
    · omega
  refine ⟨vP_mem.mpr (fun q hq => ?_), vD_iff.mpr ⟨?_, fun q hq => ?_⟩⟩
  · rcases List.mem_append.mp hq with h | h
    · obtain ⟨g1, g2⟩ := apart q h
      exact (hm q (List.mem_cons_of_mem _ h)).kept (hk q.1 g1 g2)
    · exact vP_mem.mp hP1 q h
  · rw [List.map_append, List.nodup_append]
    rw [List.map_cons, List.nodup_cons] at hn
    refine ⟨hn.2, (vD_iff.mp hD1).1, fun x hx y hy hxy => ?_⟩
    obtain ⟨q, hq, rfl⟩ := List.mem_map.mp hx
    obtain ⟨r, hr, rfl⟩ := List.mem_map.mp hy
    exact (apart q hq).2 (by rw [hxy]; exact (vD_iff.mp hD1).2 r hr)
  · rcases List.mem_append.mp hq with h | h
    · exact hA q (List.mem_cons_of_mem _ h)
    · exact hF _ ((vD_iff.mp hD1).2 q h)
theorem n_join1 {A : Nat → Prop} {D : va_G} {cl : List vw_C} {a b : Nat × va_E} {X w1 : va_W} {H H1 : Heap} (hP : va_P D cl (a :: b :: X) H) (hD : va_D A (a :: b :: X)) (hk : ∀ q : Nat, q < H.size → ¬ va_A [b] H.size q → H1[q]? = H[q]?) (hF : ∀ q, va_A [b] H.size q → A q) (hP1 : va_P D cl w1 H1) (hD1 : va_D (va_A [b] H.size) w1) : va_P D cl (a :: (X ++ w1)) H1 ∧ va_D A (a :: (X ++ w1)) := by
  obtain ⟨h1, h2⟩ := n_perm (List.Perm.swap b a X) hP hD
  exact n_join0 (b := b) (X := a :: X) h1 h2 hk hF hP1 hD1
section N1
variable {p : Program} {l : Launch} {e : Env} {R : Room} {s : State} {m : MethodId} {args : Array Value} {below : List Frame} {meth : Method} {c : Code} {H : Heap} {locs : List Loc} {cells slots : Nat} {Q : State → Prop}
variable {cc : ByteArray} {pc nL : Nat} {ls : Array Slot} {rest : List Value} {own : String} {E : En} {A : Nat → Prop} {ws : va_W}
theorem n_ra {tys : List (ClassId × FieldType)} {cA : ClassId} {ty : FieldType} {i : Nat} {D : va_G} {cl : List vw_C} (hty : ∀ C, ty ≠ .object C) {cB : ClassId} (h1 : va_K D cl (tys ++ [(cA, ty)]) s) (h2 : tys[i]? = some (cB, ty)) : cA = cB := by
  have a := (h1.2 tys.length (cA, ty) (by simp)).2
  have b := (h1.2 i (cB, ty) (by rw [List.getElem?_append_left (List.getElem?_eq_some_iff.mp h2).1]; exact h2)).2
  cases ty <;> first | exact Option.some.inj (a.symm.trans b) | exact absurd rfl (hty _)
theorem n_rq {tys : List (ClassId × FieldType)} {cA : ClassId} {Cn : String} {i : Nat} {D : va_G} {cl : List vw_C} {cB : ClassId} (h1 : va_K D cl (tys ++ [(cA, .object Cn)]) s) (h2 : tys[i]? = some (cB, .object Cn)) : cA = cB := by
  obtain ⟨_, _, _, _, _, a⟩ := (h1.2 tys.length (cA, .object Cn) (by simp)).2
  obtain ⟨_, _, _, _, _, b⟩ := (h1.2 i (cB, .object Cn) (by rw [List.getElem?_append_left (List.getElem?_eq_some_iff.mp h2).1]; exact h2)).2
  exact Option.some.inj (a.symm.trans b)
theorem n_newi (C : CI p s m args meth c own cc nL E) (hP : va_P E.1 vwCl ws H) (hD : va_D A ws) (hS : va_S A s.heap H locs) (hA : ∀ q : Nat, s.heap.size ≤ q → A q) {n : Int32} {N : Nat} (hn : ¬ n < 0) (hN : n.toNatClampNeg = N) (hby : N * 4 ≤ 536870912) (hcells : cells + 1 ≤ R.cells) (hslots : slots + N ≤ R.slots) (hdg : decode cc pc = .ok (.newarray .int, 2))
    (kk : ∀ (q : Nat) (H1 : Heap), va_P E.1 vwCl (ws ++ [(q, .inl (E.2.1 0, N, .inl (fun _ => 0)))]) H1 → va_D A (ws ++ [(q, .inl (E.2.1 0, N, .inl (fun _ => 0)))]) → va_S A s.heap H1 locs → W p l e R s m args below meth c H1 locs (cells + 1) (slots + N) Q (F0 m (pc + 2) ls (.ref q :: rest))) : W p l e R s m args below meth c H locs cells slots Q (F0 m pc ls (.int n :: rest)) := by
  obtain ⟨hx, hb, hml, hown, hts, -, -, -, hK, -⟩ := C
  refine va_newa (atype := .int) (a0 := (N, .inl (fun _ => 0))) hx hb (hts _ q179) rfl hK hP hD hS hA (fun cA => rfl) hn hN hby hcells hslots hdg (fun q cA H1 hK1 hP1 hD1 hS1 => ?_)
  have e1 : cA = E.2.1 0 := n_ra (i := 0) (by intro C h; cases h) hK1 rfl
  subst e1
  exact kk q H1 hP1 hD1 hS1
theorem n_newz (C : CI p s m args meth c own cc nL E) (hP : va_P E.1 vwCl ws H) (hD : va_D A ws) (hS : va_S A s.heap H locs) (hA : ∀ q : Nat, s.heap.size ≤ q → A q) {n : Int32} {N : Nat} (hn : ¬ n < 0) (hN : n.toNatClampNeg = N) (hby : N * 1 ≤ 536870912) (hcells : cells + 1 ≤ R.cells) (hslots : slots + N ≤ R.slots) (hdg : decode cc pc = .ok (.newarray .boolean, 2))
    (kk : ∀ (q : Nat) (H1 : Heap), va_P E.1 vwCl (ws ++ [(q, .inl (E.2.1 2, N, .inl (fun _ => 0)))]) H1 → va_D A (ws ++ [(q, .inl (E.2.1 2, N, .inl (fun _ => 0)))]) → va_S A s.heap H1 locs → W p l e R s m args below meth c H1 locs (cells + 1) (slots + N) Q (F0 m (pc + 2) ls (.ref q :: rest))) : W p l e R s m args below meth c H locs cells slots Q (F0 m pc ls (.int n :: rest)) := by
  obtain ⟨hx, hb, hml, hown, hts, -, -, -, hK, -⟩ := C
  refine va_newa (atype := .boolean) (a0 := (N, .inl (fun _ => 0))) hx hb (hts _ q1088) rfl hK hP hD hS hA (fun cA => rfl) hn hN hby hcells hslots hdg (fun q cA H1 hK1 hP1 hD1 hS1 => ?_)
  have e1 : cA = E.2.1 2 := n_ra (i := 2) (by intro C h; cases h) hK1 rfl
  subst e1
  exact kk q H1 hP1 hD1 hS1
theorem n_newl (C : CI p s m args meth c own cc nL E) (hP : va_P E.1 vwCl ws H) (hD : va_D A ws) (hS : va_S A s.heap H locs) (hA : ∀ q : Nat, s.heap.size ≤ q → A q) {n : Int32} {N : Nat} (hn : ¬ n < 0) (hN : n.toNatClampNeg = N) (hby : N * 8 ≤ 536870912) (hcells : cells + 1 ≤ R.cells) (hslots : slots + N ≤ R.slots) (hdg : decode cc pc = .ok (.newarray .long, 2))
    (kk : ∀ (q : Nat) (H1 : Heap), va_P E.1 vwCl (ws ++ [(q, .inl (E.2.1 1, N, .inr (.inl (fun _ => 0))))]) H1 → va_D A (ws ++ [(q, .inl (E.2.1 1, N, .inr (.inl (fun _ => 0))))]) → va_S A s.heap H1 locs → W p l e R s m args below meth c H1 locs (cells + 1) (slots + N) Q (F0 m (pc + 2) ls (.ref q :: rest))) : W p l e R s m args below meth c H locs cells slots Q (F0 m pc ls (.int n :: rest)) := by
  obtain ⟨hx, hb, hml, hown, hts, -, -, -, hK, -⟩ := C
  refine va_newa (atype := .long) (a0 := (N, .inr (.inl (fun _ => 0)))) hx hb (hts _ q336) rfl hK hP hD hS hA (fun cA => rfl) hn hN hby hcells hslots hdg (fun q cA H1 hK1 hP1 hD1 hS1 => ?_)
  have e1 : cA = E.2.1 1 := n_ra (i := 1) (by intro C h; cases h) hK1 rfl
  subst e1
  exact kk q H1 hP1 hD1 hS1
theorem n_newq (t : Nat) {Cn : String} (C : CI p s m args meth c own cc nL E) (ht : (tysL E)[t]? = some (E.2.1 t, .object Cn)) (hao : va_AO Cn s) {idx : Nat} (hcl : Cond.classLink own idx Cn ∈ wsL_law) (hP : va_P E.1 vwCl ws H) (hD : va_D A ws) (hS : va_S A s.heap H locs) (hA : ∀ q : Nat, s.heap.size ≤ q → A q) {n : Int32} {N : Nat} (hn : ¬ n < 0) (hN : n.toNatClampNeg = N) (hby : N * 4 ≤ 536870912) (hcells : cells + 1 ≤ R.cells) (hslots : slots + N ≤ R.slots) (hdg : decode cc pc = .ok (.anewarray idx, 3))
    (kk : ∀ (q : Nat) (H1 : Heap), va_P E.1 vwCl (ws ++ [(q, .inl (E.2.1 t, N, .inr (.inr (.inr (.inr (fun _ => none))))))]) H1 → va_D A (ws ++ [(q, .inl (E.2.1 t, N, .inr (.inr (.inr (.inr (fun _ => none))))))]) → va_S A s.heap H1 locs → W p l e R s m args below meth c H1 locs (cells + 1) (slots + N) Q (F0 m (pc + 3) ls (.ref q :: rest))) : W p l e R s m args below meth c H locs cells slots Q (F0 m pc ls (.int n :: rest)) := by
  obtain ⟨hx, hb, hml, hown, hts, -, -, -, hK, -⟩ := C
  refine va_newq hx hb hown (hts _ hcl) hao hK hP hD hS hA hn hN hby hcells hslots hdg (fun q cA H1 hK1 hP1 hD1 hS1 => ?_)
  have e1 : cA = E.2.1 t := n_rq (i := t) hK1 ht
  subst e1
  exact kk q H1 hP1 hD1 hS1
end N1
