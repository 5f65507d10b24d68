/-! ===== rows of the machine over the abstract state ===== -/
abbrev Cx (p : Program) (s : State) (m : MethodId) (args : Array Value) (meth : Method) (c : Code) (own : String) (cc : ByteArray) (nL : Nat) (ret : Option FieldType) (E : En) : Prop :=
  p.tables.exec = Jvm.exec ∧ c.code = cc ∧ c.maxLocals = nL ∧ s.vm.findClass own = some m.cls ∧ (∀ w ∈ wsL_law, w.before args s = true) ∧ meth.locks = false ∧ meth.sig.returnType = ret ∧ Ks E s
abbrev bz (v : Int32) : Prop := v = 0 ∨ v = 1
abbrev inb (i : Int32) (n : Nat) : Prop := ¬ (i < 0 ∨ n ≤ i.toNatClampNeg)
def ushr (x y : Int32) : Int32 := (x.toUInt32 >>> (y.toUInt32 &&& Int32.toUInt32 31)).toInt32
def lushrv (x : Int64) (y : Int32) : Int64 := (x.toUInt64 >>> (y.toInt64.toUInt64 &&& Int64.toUInt64 63)).toInt64
def lshlv (x : Int64) (y : Int32) : Int64 := x <<< (y.toInt64 &&& 63)
def lshrv (x : Int64) (y : Int32) : Int64 := x >>> (y.toInt64 &&& 63)
def alen (k : Nat) : Nat := match lay k with
  | .inr a => a.2
  | .inl _ => 0
def FU : Nat := 20000
def mabs (x : Int32) : Int32 := if 0 ≤ x then x else 0 - x
def mmax (x y : Int32) : Int32 := if x < y then y else x
def mmin (x y : Int32) : Int32 := if y < x then y else x
theorem vw0 : vwCl[0]? = some (RX0, TX0, 13) := rfl
theorem vw1 : vwCl[1]? = some (RX1, TX1, 6) := rfl
theorem vw2 : vwCl[2]? = some (RX2, TX2, 1) := rfl
theorem vw3 : vwCl[3]? = some (RX3, TX3, 6) := rfl
theorem vw4 : vwCl[4]? = some (RX4, TX4, 4) := rfl
theorem vw5 : vwCl[5]? = some (RX5, TX5, 4) := rfl
theorem vw6 : vwCl[6]? = some (RX6, TX6, 18) := rfl
theorem vw7 : vwCl[7]? = some (RX7, TX7, 9) := rfl
theorem vw8 : vwCl[8]? = some (RX8, TX8, 2) := rfl
theorem vw9 : vwCl[9]? = some (RX9, TX9, 7) := rfl
theorem vw10 : vwCl[10]? = some (RX10, TX10, 7) := rfl
theorem vw11 : vwCl[11]? = some (RX11, TX11, 48) := rfl
theorem tsw_ne {x : Int32} {k : Int} {y : Int32} (h : ¬ x = y) (hy : y.toInt = k) : x.toInt ≠ k := fun q => h (Int32.toInt_inj.mp (q.trans hy.symm))
theorem bz_n {v : Int32} (h : bz v) : narrow .boolean (.int v) = .int v := by rcases h with rfl | rfl <;> rfl
theorem bz_f {v : Int32} (h : bz v) : fits .boolean (.int v) = true := by rcases h with rfl | rfl <;> rfl
theorem bz_v {v : Int32} (h : bz v) : vp_nar .boolean v = v := by rcases h with rfl | rfl <;> rfl
theorem bz0 : bz 0 := Or.inl rfl
theorem bz1 : bz 1 := Or.inr rfl
theorem Rp.one {E : En} {α : Nat → Nat} {g : Nat × Nat} {S : St} {H : Heap} (hR : Rp E α g S H) {k : Nat} (hk : live g k) {x : va_E} (he : cel S α E.2.1 k = x) : va_P E.1 vwCl [(α k, x)] H := by
  intro i q h
  match i, h with
  | 0, h => cases h; rw [← he]; exact (hR.2.1 k hk).1
  | i + 1, h => simp at h
/-- what a method's walk, its answer and its calls need of its tables -/
def MV (y : MethodName) (Cn : String) (bytes : ByteArray) (maxL : Nat) (ret : Option FieldType) (n : Nat) : Prop :=
  Cond.instanceMethod y ∈ wsL_law ∧ Cond.selects Cn y y ∈ wsL_law ∧ Cond.initialized Cn ∈ wsL_law ∧ Cond.code y bytes maxL ret ∈ wsL_law ∧ (y.cls = Cn ∧ y.cls ≠ "java/lang/invoke/MethodHandle" ∧ y.cls ≠ "java/lang/invoke/VarHandle" ∧ (parseMethodDescriptor y.desc).map (fun d => d.parameters.length) = some n)
def MS (y : MethodName) (bytes : ByteArray) (maxL : Nat) (ret : Option FieldType) (n : Nat) : Prop :=
  Cond.static y ∈ wsL_law ∧ Cond.initialized y.cls ∈ wsL_law ∧ Cond.code y bytes maxL ret ∈ wsL_law ∧ (y.cls ≠ "java/lang/invoke/MethodHandle" ∧ y.cls ≠ "java/lang/invoke/VarHandle" ∧ (parseMethodDescriptor y.desc).map (fun d => d.parameters.length) = some n)
theorem wsGood {w : Cond} (h : w ∈ wsL_law) : w ∈ wsL_law ∧ ((w.onTables && w.keeps) = true ∨ ∃ ty, w = .arrayClass ty) := ⟨h, good_of_word (wsG w h)⟩
theorem wsGoodIn {w : Cond} (h : w ∈ wsL_law) : GoodIn wsL_law (w :: wsL_law) := fun v hv => by
  rcases List.mem_cons.mp hv with rfl | hv
  · exact wsGood h
  · exact wsGood hv
/-- the words of every method: its code, and all words of the law -/
abbrev wsY (y : MethodName) (bytes : ByteArray) (maxL : Nat) (ret : Option FieldType) : List Cond := Cond.code y bytes maxL ret :: wsL_law
abbrev Qi (E : En) (α : Nat → Nat) (g : Nat × Nat) (z : Int32 × St) : Array Value → State → Outcome → State → Prop := va_Qi (fun (r : Int32) (u : St) => r = z.1 ∧ u = z.2) (fun u t => Rp E α g u t.heap) E.2.2.1
abbrev Ql (E : En) (α : Nat → Nat) (g : Nat × Nat) (z : Int64 × St) : Array Value → State → Outcome → State → Prop := va_Ql (fun (r : Int64) (u : St) => r = z.1 ∧ u = z.2) (fun u t => Rp E α g u t.heap) E.2.2.1
abbrev Qv (E : En) (α : Nat → Nat) (g : Nat × Nat) (z : Unit × St) : Array Value → State → Outcome → State → Prop := va_Qv (fun (u : St) => u = z.2) (fun u t => Rp E α g u t.heap) E.2.2.1
theorem g_met {l : Launch} {y : MethodName} {own : String} {cc : ByteArray} {maxL : Nat} {ret : Option FieldType} {rm : Room} {Qc : Array Value → State → Outcome → State → Prop} {E : En} {α : Nat → Nat} {g : Nat × Nat} {S : St} (av : List Value) (hy : plainName y.cls = true) (ho : y.cls = own) (hl : (lg_sl av).length ≤ maxL)
    (body : ∀ (p : Program) (e : Env) (s : State) (m : MethodId) (below : List Frame) (meth : Method) (c : Code) (ls : Array Slot), Cx p s m av.toArray meth c own cc maxL ret E → Rp E α g S s.heap → lv_has ls maxL (lv_args 0 av) → W p l e rm s m av.toArray below meth c s.heap [] 0 0 (MQ below Qc av.toArray s 0 0 E.2.2.1) (F0 m 0 ls [])) :
    Met l y (wsY y cc maxL ret) rm (va_Pc av (Wd E α g S)) Qc 0 0 E.2.2.1 := by
  refine Met.ofW (cc := cc) (maxL := maxL) (ret := ret) hy rfl ?_
  intro p e s m args below meth c s₁ B hml hv
  obtain ⟨rfl, hR, hK⟩ := hv
  have hts := atoms_spec (ws := wsY y cc maxL ret) B.pre
  have hown : s.vm.findClass own = some m.cls := by rw [← ho]; exact findClass_of_methodNamed B.named
  have hl2 := lv_entry av (n := maxL) hl
  rw [lg_entry_eq]
  exact body p e s m below meth c _ ⟨B.exec, B.bytes, hml, hown, fun w hw => hts w (List.mem_cons_of_mem _ hw), B.notSynchronized, B.returns, hK⟩ hR hl2
theorem refs_3 (α : Nat → Nat) (S : St) (j : Nat) : refs α S 3 j = if j < nP S then some (α (200 + 2 * j)) else none := by unfold refs; rw [if_pos rfl]
theorem refs_5 (α : Nat → Nat) (S : St) (j : Nat) : refs α S 5 j = if j < nC S then some (α (300 + 2 * j)) else none := by unfold refs; rw [if_neg (by decide), if_neg (by decide), if_pos rfl]
theorem lay_one {t : Nat} (c : Nat) (ht : t ≠ 9 ∧ t ≠ 0) (h : (List.range 90).all (fun k => decide (k = c) || (match layT.getD k (.inr (9, 0)) with | .inr a => decide (a.1 ≠ t) | .inl _ => true)) = true) {q : Nat} (hq : q ≠ c) (n : Nat) : lay q ≠ .inr (t, n) := by
  intro hl
  unfold lay at hl
  by_cases h1 : q < 90
  · rw [if_pos h1] at hl
    have h2 := List.all_eq_true.mp h q (List.mem_range.mpr h1)
    rw [hl] at h2
    simp [hq] at h2
  · rw [if_neg h1] at hl
    split at hl
    · split at hl
      · cases hl
      · have := Sum.inr.inj hl; exact ht.2 (Prod.mk.inj this).1.symm
    · split at hl
      · split at hl
        · cases hl
        · have := Sum.inr.inj hl; exact ht.2 (Prod.mk.inj this).1.symm
      · have := Sum.inr.inj hl; exact ht.1 (Prod.mk.inj this).1.symm
theorem lay_2 {q : Nat} (hq : q ≠ 2) (n : Nat) : lay q ≠ .inr (3, n) := lay_one 2 (by decide) (by decide +kernel) hq n
theorem lay_48 {q : Nat} (hq : q ≠ 48) (n : Nat) : lay q ≠ .inr (5, n) := lay_one 48 (by decide) (by decide +kernel) hq n
section G1
variable {p : Program} {l : Launch} {e : Env} {R : Room} {s : State} {m : MethodId} {args : Array Value} {below : List Frame} {meth : Method} {c : Code} {H : Heap} {locs : List Loc} {cells slots : Nat} {Q : State → Prop}
variable {cc : ByteArray} {pc nL : Nat} {ls : Array Slot} {rest : List Value} {own : String} {ret : Option FieldType} {E : En} {α : Nat → Nat} {g : Nat × Nat} {S : St}
theorem g_getv (C : Cx p s m args meth c own cc nL ret E) (hR : Rp E α g S H) {k j kd ci : Nat} {ks : List Nat} (hk : live g k) (hl : lay k = .inl (ci, ks)) (hj : ks[j]? = some kd) {Cn : String} {T : u_T} {N idx : Nat} (hc : vwCl[ci]? = some (Cn, T, N)) (hin : ∀ w ∈ u_ws Cn T N, w ∈ wsL_law) (hjN : j < N) (hlink : Cond.fieldLink own idx (T j).1 (T j).2.1 (T j).2.2.1 ∈ wsL_law) (hdg : decode cc pc = .ok (.getfield idx, 3))
    (kk : W p l e R s m args below meth c H locs cells slots Q (F0 m (pc + 3) ls (fv S α k j kd :: rest))) : W p l e R s m args below meth c H locs cells slots Q (F0 m pc ls (.ref (α k) :: rest)) := by
  obtain ⟨hx, hb, -, hown, hts, -, -, hK, -⟩ := C
  exact va_get (D := E.1) (ws := [(α k, _)]) hx hb hts hin hown hK (hR.one hk (cel_o hl)) 0 rfl hc j hjN (hts _ hlink) (fun _ h => h) (fs_at hj) hdg kk
theorem g_geti (C : Cx p s m args meth c own cc nL ret E) (hR : Rp E α g S H) {k j ci : Nat} {ks : List Nat} (hk : live g k) (hl : lay k = .inl (ci, ks)) (hj : ks[j]? = some 0) {Cn : String} {T : u_T} {N idx : Nat} (hc : vwCl[ci]? = some (Cn, T, N)) (hin : ∀ w ∈ u_ws Cn T N, w ∈ wsL_law) (hjN : j < N) (hlink : Cond.fieldLink own idx (T j).1 (T j).2.1 (T j).2.2.1 ∈ wsL_law) (hdg : decode cc pc = .ok (.getfield idx, 3))
    (kk : W p l e R s m args below meth c H locs cells slots Q (F0 m (pc + 3) ls (.int (rd S k j) :: rest))) : W p l e R s m args below meth c H locs cells slots Q (F0 m pc ls (.ref (α k) :: rest)) := g_getv C hR hk hl hj hc hin hjN hlink hdg kk
theorem g_getl (C : Cx p s m args meth c own cc nL ret E) (hR : Rp E α g S H) {k j ci : Nat} {ks : List Nat} (hk : live g k) (hl : lay k = .inl (ci, ks)) (hj : ks[j]? = some 1) {Cn : String} {T : u_T} {N idx : Nat} (hc : vwCl[ci]? = some (Cn, T, N)) (hin : ∀ w ∈ u_ws Cn T N, w ∈ wsL_law) (hjN : j < N) (hlink : Cond.fieldLink own idx (T j).1 (T j).2.1 (T j).2.2.1 ∈ wsL_law) (hdg : decode cc pc = .ok (.getfield idx, 3))
    (kk : W p l e R s m args below meth c H locs cells slots Q (F0 m (pc + 3) ls (.long (rl S k j) :: rest))) : W p l e R s m args below meth c H locs cells slots Q (F0 m pc ls (.ref (α k) :: rest)) := g_getv C hR hk hl hj hc hin hjN hlink hdg kk
theorem g_getr {t : Nat} (C : Cx p s m args meth c own cc nL ret E) (hR : Rp E α g S H) {k j ci : Nat} {ks : List Nat} (hk : live g k) (hl : lay k = .inl (ci, ks)) (hj : ks[j]? = some (t + 2)) {Cn : String} {T : u_T} {N idx : Nat} (hc : vwCl[ci]? = some (Cn, T, N)) (hin : ∀ w ∈ u_ws Cn T N, w ∈ wsL_law) (hjN : j < N) (hlink : Cond.fieldLink own idx (T j).1 (T j).2.1 (T j).2.2.1 ∈ wsL_law) (hdg : decode cc pc = .ok (.getfield idx, 3))
    (kk : W p l e R s m args below meth c H locs cells slots Q (F0 m (pc + 3) ls (.ref (α t) :: rest))) : W p l e R s m args below meth c H locs cells slots Q (F0 m pc ls (.ref (α k) :: rest)) := g_getv C hR hk hl hj hc hin hjN hlink hdg kk
theorem g_nmi {x y : Int32} (e9 : y = x) (k : W p l e R s m args below meth c H locs cells slots Q (F0 m pc ls (.int y :: rest))) : W p l e R s m args below meth c H locs cells slots Q (F0 m pc ls (.int x :: rest)) := e9 ▸ k
theorem g_nml {x y : Int64} (e9 : y = x) (k : W p l e R s m args below meth c H locs cells slots Q (F0 m pc ls (.long y :: rest))) : W p l e R s m args below meth c H locs cells slots Q (F0 m pc ls (.long x :: rest)) := e9 ▸ k
theorem g_nmP {x y : Nat} (e9 : y = x) (k : W p l e R s m args below meth c H locs cells slots Q (F0 m pc ls (.ref (α (200 + 2 * y)) :: rest))) : W p l e R s m args below meth c H locs cells slots Q (F0 m pc ls (.ref (α (200 + 2 * x)) :: rest)) := e9 ▸ k
theorem g_nmC {x y : Nat} (e9 : y = x) (k : W p l e R s m args below meth c H locs cells slots Q (F0 m pc ls (.ref (α (300 + 2 * y)) :: rest))) : W p l e R s m args below meth c H locs cells slots Q (F0 m pc ls (.ref (α (300 + 2 * x)) :: rest)) := e9 ▸ k
theorem g_nmR {x y : Nat} (e9 : y = x) (k : W p l e R s m args below meth c H locs cells slots Q (F0 m pc ls (.ref (α (23 + y)) :: rest))) : W p l e R s m args below meth c H locs cells slots Q (F0 m pc ls (.ref (α (23 + x)) :: rest)) := e9 ▸ k
theorem g_putv (C : Cx p s m args meth c own cc nL ret E) {H0 : Heap} {S' : St} (hR : Rp E α g S H) (hS : va_S E.2.2.1 H0 H locs) {k j kd ci : Nat} {ks : List Nat} (hk : live g k) (hl : lay k = .inl (ci, ks)) (hj : ks[j]? = some kd) {Cn : String} {T : u_T} {N idx : Nat} (hc : vwCl[ci]? = some (Cn, T, N)) (hin : ∀ w ∈ u_ws Cn T N, w ∈ wsL_law) (hjN : j < N) {ty0 : Nat → FieldType} (hty : ∀ k, k < N → parseFieldDescriptor (T k).2.2.1 = some (ty0 k)) (hnm : ∀ a, a < N → ∀ b, b < N → a ≠ b → (T a).2.1 ≠ (T b).2.1) (hlink : Cond.fieldLink own idx (T j).1 (T j).2.1 (T j).2.2.1 ∈ wsL_law) (hfin : (T j).2.2.2 = false) {v : Value} (hn : narrow (ty0 j) v = v) (hf : fits (ty0 j) v = true)
    (hcel : cel S' α E.2.1 k = .inr (ci, (ks.mapIdx (fun j kd => fv S α k j kd)).set j v)) (h1 : ∀ q i, q ≠ k → rd S' q i = rd S q i) (h2 : ∀ q i, q ≠ k → rl S' q i = rl S q i) (hp : nP S' = nP S) (hc2 : nC S' = nC S) (hdg : decode cc pc = .ok (.putfield idx, 3))
    (kk : ∀ (H1 : Heap) (locs1 : List Loc), Rp E α g S' H1 → va_S E.2.2.1 H0 H1 locs1 → W p l e R s m args below meth c H1 locs1 cells slots Q (F0 m (pc + 3) ls rest)) : W p l e R s m args below meth c H locs cells slots Q (F0 m pc ls (v :: .ref (α k) :: rest)) := by
  obtain ⟨hx, hb, -, hown, hts, -, -, hK, -⟩ := C
  have hap := va_apart (own := own) hts hin ty0 hty hnm hK hc
  have hw := hR.2.1 k hk
  rw [cel_o hl] at hw
  obtain ⟨⟨r, g1, cell, q1, q2, q3, q4⟩, hAk⟩ := hw
  have hr : r = (Cn, T, N) := Option.some.inj (g1.symm.trans hc)
  subst hr
  obtain ⟨hS2, hfc, kC, hkC, hkind⟩ := hK.1 ci _ hc
  obtain ⟨cf, kf, fi, f, hi, hsl⟩ := hS2 j hjN
  have hlay := hts _ (hin _ (u_in_lay hjN))
  unfold u_lay at hlay
  rw [if_neg (by rw [hfin]; decide)] at hlay
  have hst := (u_facts hfc hkC (u_lays hts hin hjN) hi).1
  have h6 := u_store hfc hkC hkind hlay hi (hty j hjN) hn hf
  have hlen : j < (ks.mapIdx (fun j kd => fv S α k j kd)).length := by rw [List.length_mapIdx]; exact (List.getElem?_eq_some_iff.mp hj).1
  refine W.putK hx hb (f := f) ⟨hown, hts _ hlink, ⟨_, _, _, hi⟩, hst⟩ (by rw [q2]; exact h6) q1 q3 (by rw [hsl]; exact k2_hasslot (q4 j hjN)) rfl rfl hdg fun H' e1 e2 e3 => ?_
  rw [hsl] at e1 ⊢
  refine kk H' _ (hR.put hk ?_ e3 h1 h2 hp hc2) (hS.put e2 e3 hAk)
  rw [hcel]
  exact ⟨_, hc, t_OB.to (V := updV (vp_V _) j v) ⟨_, e1, q2, q3, t_set q4 hap hjN v⟩ (fun i _ => vp_updV_set hlen v i)⟩
/-- putfield of an int or a boolean -/
theorem g_puti (C : Cx p s m args meth c own cc nL ret E) {H0 : Heap} (hR : Rp E α g S H) (hS : va_S E.2.2.1 H0 H locs) {k j ci : Nat} {ks : List Nat} (hk : live g k) (hl : lay k = .inl (ci, ks)) (hj : ks[j]? = some 0) {Cn : String} {T : u_T} {N idx : Nat} (hc : vwCl[ci]? = some (Cn, T, N)) (hin : ∀ w ∈ u_ws Cn T N, w ∈ wsL_law) (hjN : j < N) {ty0 : Nat → FieldType} (hty : ∀ k, k < N → parseFieldDescriptor (T k).2.2.1 = some (ty0 k)) (hnm : ∀ a, a < N → ∀ b, b < N → a ≠ b → (T a).2.1 ≠ (T b).2.1) (hlink : Cond.fieldLink own idx (T j).1 (T j).2.1 (T j).2.2.1 ∈ wsL_law) (hfin : (T j).2.2.2 = false) {v : Int32} (hn : narrow (ty0 j) (.int v) = .int v) (hf : fits (ty0 j) (.int v) = true) {S1 : St} (he : S1 = wr S k j v) (hdg : decode cc pc = .ok (.putfield idx, 3))
    (kk : ∀ (H1 : Heap) (locs1 : List Loc), Rp E α g S1 H1 → va_S E.2.2.1 H0 H1 locs1 → W p l e R s m args below meth c H1 locs1 cells slots Q (F0 m (pc + 3) ls rest)) : W p l e R s m args below meth c H locs cells slots Q (F0 m pc ls (.int v :: .ref (α k) :: rest)) := by
  subst he
  have h9 := lay_lt hl (by intro h; cases h)
  exact g_putv C hR hS hk hl hj hc hin hjN hty hnm hlink hfin hn hf (cel_wr_f hl hj) (fun q i h => by rw [rd_wr, if_neg (fun z => h z.1)]) (fun q i _ => rfl) (nP_wr h9) (nC_wr h9) hdg kk
theorem g_putl (C : Cx p s m args meth c own cc nL ret E) {H0 : Heap} (hR : Rp E α g S H) (hS : va_S E.2.2.1 H0 H locs) {k j ci : Nat} {ks : List Nat} (hk : live g k) (hl : lay k = .inl (ci, ks)) (hj : ks[j]? = some 1) {Cn : String} {T : u_T} {N idx : Nat} (hc : vwCl[ci]? = some (Cn, T, N)) (hin : ∀ w ∈ u_ws Cn T N, w ∈ wsL_law) (hjN : j < N) {ty0 : Nat → FieldType} (hty : ∀ k, k < N → parseFieldDescriptor (T k).2.2.1 = some (ty0 k)) (hnm : ∀ a, a < N → ∀ b, b < N → a ≠ b → (T a).2.1 ≠ (T b).2.1) (hlink : Cond.fieldLink own idx (T j).1 (T j).2.1 (T j).2.2.1 ∈ wsL_law) (hfin : (T j).2.2.2 = false) {v : Int64} (hn : narrow (ty0 j) (.long v) = .long v) (hf : fits (ty0 j) (.long v) = true) {S1 : St} (he : S1 = wl S k j v) (hdg : decode cc pc = .ok (.putfield idx, 3))
    (kk : ∀ (H1 : Heap) (locs1 : List Loc), Rp E α g S1 H1 → va_S E.2.2.1 H0 H1 locs1 → W p l e R s m args below meth c H1 locs1 cells slots Q (F0 m (pc + 3) ls rest)) : W p l e R s m args below meth c H locs cells slots Q (F0 m pc ls (.long v :: .ref (α k) :: rest)) := by
  subst he
  exact g_putv C hR hS hk hl hj hc hin hjN hty hnm hlink hfin hn hf (cel_wl_f hl hj) (fun q i _ => rfl) (fun q i h => by rw [rl_wl, if_neg (fun z => h z.1)]) rfl rfl hdg kk
theorem g_iald (C : Cx p s m args meth c own cc nL ret E) (hR : Rp E α g S H) {k n : Nat} (hk : live g k) (hl : lay k = .inr (0, n)) {i : Int32} (hin : vp_in i n) (hdg : decode cc pc = .ok (.iaload, 1))
    (kk : W p l e R s m args below meth c H locs cells slots Q (F0 m (pc + 1) ls (.int (rd S k i.toNatClampNeg) :: rest))) : W p l e R s m args below meth c H locs cells slots Q (F0 m pc ls (.int i :: .ref (α k) :: rest)) := by
  obtain ⟨hx, hb, -, hown, hts, -, -, hK, -⟩ := C
  exact va_iald (D := E.1) (ws := [(α k, _)]) hx hb hK (hR.one hk (cel_a hl)) 0 0 rfl rfl hin hdg kk
theorem g_zald (C : Cx p s m args meth c own cc nL ret E) (hR : Rp E α g S H) {k n : Nat} (hk : live g k) (hl : lay k = .inr (2, n)) {i : Int32} (hin : vp_in i n) (hdg : decode cc pc = .ok (.baload, 1))
    (kk : W p l e R s m args below meth c H locs cells slots Q (F0 m (pc + 1) ls (.int (rd S k i.toNatClampNeg) :: rest))) : W p l e R s m args below meth c H locs cells slots Q (F0 m pc ls (.int i :: .ref (α k) :: rest)) := by
  obtain ⟨hx, hb, -, hown, hts, -, -, hK, -⟩ := C
  exact va_zald (D := E.1) (ws := [(α k, _)]) hx hb hK (hR.one hk (cel_a hl)) 0 2 rfl rfl hin hdg kk
theorem g_lald (C : Cx p s m args meth c own cc nL ret E) (hR : Rp E α g S H) {k n : Nat} (hk : live g k) (hl : lay k = .inr (1, n)) {i : Int32} (hin : vp_in i n) (hdg : decode cc pc = .ok (.laload, 1))
    (kk : W p l e R s m args below meth c H locs cells slots Q (F0 m (pc + 1) ls (.long (rl S k i.toNatClampNeg) :: rest))) : W p l e R s m args below meth c H locs cells slots Q (F0 m pc ls (.int i :: .ref (α k) :: rest)) := by
  obtain ⟨hx, hb, -, hown, hts, -, -, hK, -⟩ := C
  exact va_lald (D := E.1) (ws := [(α k, _)]) hx hb hK (hR.one hk (cel_a hl)) 0 1 rfl rfl hin hdg kk
theorem g_alen (C : Cx p s m args meth c own cc nL ret E) (hR : Rp E α g S H) {k n : Nat} (hk : live g k) (hl : lay k = .inr (0, n)) (hdg : decode cc pc = .ok (.arraylength, 1))
    (kk : W p l e R s m args below meth c H locs cells slots Q (F0 m (pc + 1) ls (.int (nI n) :: rest))) : W p l e R s m args below meth c H locs cells slots Q (F0 m pc ls (.ref (α k) :: rest)) := by
  obtain ⟨hx, hb, -, hown, hts, -, -, hK, -⟩ := C
  exact va_alen (D := E.1) (ws := [(α k, _)]) hx hb hK (hR.one hk (cel_a hl)) 0 0 rfl rfl rfl hdg kk
theorem g_aldP (C : Cx p s m args meth c own cc nL ret E) (hR : Rp E α g S H) {i : Int32} (hin : vp_in i 16) (hi : i.toNatClampNeg < nP S) (hdg : decode cc pc = .ok (.aaload, 1))
    (kk : i.toNatClampNeg < g.1 → W p l e R s m args below meth c H locs cells slots Q (F0 m (pc + 1) ls (.ref (α (200 + 2 * i.toNatClampNeg)) :: rest))) : W p l e R s m args below meth c H locs cells slots Q (F0 m pc ls (.int i :: .ref (α 2) :: rest)) := by
  obtain ⟨hx, hb, -, hown, hts, -, -, hK, -⟩ := C
  have hg : i.toNatClampNeg < g.1 := Nat.lt_of_lt_of_le hi hR.1.2.2.1
  refine va_aldq (D := E.1) (ws := [(α 2, _)]) hx hb hK (hR.one (live_st (by decide)) (cel_a (t := 3) (n := 16) rfl)) 0 3 rfl rfl hin hdg ?_
  have e : refs α S 3 i.toNatClampNeg = some (α (200 + 2 * i.toNatClampNeg)) := by
    unfold refs; rw [if_pos rfl, if_pos hi]
  rw [e]
  exact kk hg
theorem g_aldC (C : Cx p s m args meth c own cc nL ret E) (hR : Rp E α g S H) {i : Int32} (hin : vp_in i 24) (hi : i.toNatClampNeg < nC S) (hdg : decode cc pc = .ok (.aaload, 1))
    (kk : i.toNatClampNeg < g.2 → W p l e R s m args below meth c H locs cells slots Q (F0 m (pc + 1) ls (.ref (α (300 + 2 * i.toNatClampNeg)) :: rest))) : W p l e R s m args below meth c H locs cells slots Q (F0 m pc ls (.int i :: .ref (α 48) :: rest)) := by
  obtain ⟨hx, hb, -, hown, hts, -, -, hK, -⟩ := C
  have hg : i.toNatClampNeg < g.2 := Nat.lt_of_lt_of_le hi hR.1.2.2.2
  refine va_aldq (D := E.1) (ws := [(α 48, _)]) hx hb hK (hR.one (live_st (by decide)) (cel_a (t := 5) (n := 24) rfl)) 0 5 rfl rfl hin hdg ?_
  have e : refs α S 5 i.toNatClampNeg = some (α (300 + 2 * i.toNatClampNeg)) := by
    unfold refs; rw [if_neg (by decide), if_neg (by decide), if_pos rfl, if_pos hi]
  rw [e]
  exact kk hg
theorem g_aldR (C : Cx p s m args meth c own cc nL ret E) (hR : Rp E α g S H) {i : Int32} (hin : vp_in i 10) (hdg : decode cc pc = .ok (.aaload, 1))
    (kk : i.toNatClampNeg < 10 → W p l e R s m args below meth c H locs cells slots Q (F0 m (pc + 1) ls (.ref (α (23 + i.toNatClampNeg)) :: rest))) : W p l e R s m args below meth c H locs cells slots Q (F0 m pc ls (.int i :: .ref (α 22) :: rest)) := by
  obtain ⟨hx, hb, -, hown, hts, -, -, hK, -⟩ := C
  have hg : i.toNatClampNeg < 10 := Nat.not_le.mp fun q => hin (Or.inr q)
  refine va_aldq (D := E.1) (ws := [(α 22, _)]) hx hb hK (hR.one (live_st (by decide)) (cel_a (t := 4) (n := 10) rfl)) 0 4 rfl rfl hin hdg ?_
  have e : refs α S 4 i.toNatClampNeg = some (α (23 + i.toNatClampNeg)) := by
    unfold refs; rw [if_neg (by decide), if_pos rfl, if_pos hg]
  rw [e]
  exact kk hg
theorem g_iast (C : Cx p s m args meth c own cc nL ret E) {H0 : Heap} (hR : Rp E α g S H) (hS : va_S E.2.2.1 H0 H locs) {k n : Nat} (hk : live g k) (hl : lay k = .inr (0, n)) {i x : Int32} (hin : vp_in i n) {S1 : St} (he : S1 = wr S k i.toNatClampNeg x) (hdg : decode cc pc = .ok (.iastore, 1))
    (kk : ∀ (H1 : Heap) (locs1 : List Loc), Rp E α g S1 H1 → va_S E.2.2.1 H0 H1 locs1 → W p l e R s m args below meth c H1 locs1 cells slots Q (F0 m (pc + 1) ls rest)) : W p l e R s m args below meth c H locs cells slots Q (F0 m pc ls (.int x :: .int i :: .ref (α k) :: rest)) := by
  subst he
  obtain ⟨hx, hb, -, hown, hts, -, -, hK, -⟩ := C
  have h9 := lay_lt hl (by intro h; cases h)
  have hw := hR.2.1 k hk
  rw [cel_a hl] at hw
  refine W.iast hx hb hw.1 ((hK.2 0 _ rfl).1 n (fun j => .int (rd S k j))) (fun q => by cases q) (by show ¬ (i < 0 ∨ (arrV _ _ _).slots.size ≤ _); rw [arrV_size]; exact hin) rfl rfl hdg fun H1 e z oq => ?_
  refine kk H1 _ (hR.put hk ?_ oq (fun q i h => by rw [rd_wr, if_neg (fun z => h z.1)]) (fun q i _ => rfl) (nP_wr h9) (nC_wr h9)) (hS.put z oq hw.2)
  rw [cel_wr_a 0 (Or.inl rfl) hl]
  show H1[α k]? = some (vp_cell _ _)
  rw [e]
  show some (Cell.setSlot (vp_cell (E.2.1 0) (n, .inl (rd S k))) _ _) = _
  rw [vp_cell_i, vp_cell_i, arrV_store]
  congr 2
  funext q
  by_cases hq : q = i.toNatClampNeg
  · subst hq
    simp [updV, upd]
  · simp [updV, upd, hq]
theorem g_zast (C : Cx p s m args meth c own cc nL ret E) {H0 : Heap} (hR : Rp E α g S H) (hS : va_S E.2.2.1 H0 H locs) {k n : Nat} (hk : live g k) (hl : lay k = .inr (2, n)) {i x : Int32} (hin : vp_in i n) (hz : bz x) {S1 : St} (he : S1 = wr S k i.toNatClampNeg x) (hdg : decode cc pc = .ok (.bastore, 1))
    (kk : ∀ (H1 : Heap) (locs1 : List Loc), Rp E α g S1 H1 → va_S E.2.2.1 H0 H1 locs1 → W p l e R s m args below meth c H1 locs1 cells slots Q (F0 m (pc + 1) ls rest)) : W p l e R s m args below meth c H locs cells slots Q (F0 m pc ls (.int x :: .int i :: .ref (α k) :: rest)) := by
  subst he
  obtain ⟨hx, hb, -, hown, hts, -, -, hK, -⟩ := C
  have h9 := lay_lt hl (by intro h; cases h)
  have hw := hR.2.1 k hk
  rw [cel_a hl] at hw
  refine W.zast hx hb hw.1 ((hK.2 2 _ rfl).1 n (fun j => .int (rd S k j))) (fun q => by cases q) (by show ¬ (i < 0 ∨ (arrV _ _ _).slots.size ≤ _); rw [arrV_size]; exact hin) rfl rfl hdg fun H1 e z oq => ?_
  refine kk H1 _ (hR.put hk ?_ oq (fun q i h => by rw [rd_wr, if_neg (fun z => h z.1)]) (fun q i _ => rfl) (nP_wr h9) (nC_wr h9)) (hS.put z oq hw.2)
  rw [cel_wr_a 2 (Or.inr rfl) hl]
  show H1[α k]? = some (vp_cell _ _)
  rw [e, bz_n hz]
  show some (Cell.setSlot (vp_cell (E.2.1 2) (n, .inl (rd S k))) _ _) = _
  rw [vp_cell_i, vp_cell_i, arrV_store]
  congr 2
  funext q
  by_cases hq : q = i.toNatClampNeg
  · subst hq
    simp [updV, upd]
  · simp [updV, upd, hq]
theorem g_last (C : Cx p s m args meth c own cc nL ret E) {H0 : Heap} (hR : Rp E α g S H) (hS : va_S E.2.2.1 H0 H locs) {k n : Nat} (hk : live g k) (hl : lay k = .inr (1, n)) {i : Int32} {x : Int64} (hin : vp_in i n) {S1 : St} (he : S1 = wl S k i.toNatClampNeg x) (hdg : decode cc pc = .ok (.lastore, 1))
    (kk : ∀ (H1 : Heap) (locs1 : List Loc), Rp E α g S1 H1 → va_S E.2.2.1 H0 H1 locs1 → W p l e R s m args below meth c H1 locs1 cells slots Q (F0 m (pc + 1) ls rest)) : W p l e R s m args below meth c H locs cells slots Q (F0 m pc ls (.long x :: .int i :: .ref (α k) :: rest)) := by
  subst he
  obtain ⟨hx, hb, -, hown, hts, -, -, hK, -⟩ := C
  have hw := hR.2.1 k hk
  rw [cel_a hl] at hw
  refine W.last hx hb hw.1 ((hK.2 1 _ rfl).1 n (fun j => .long (rl S k j))) (fun q => by cases q) (by show ¬ (i < 0 ∨ (arrV _ _ _).slots.size ≤ _); rw [arrV_size]; exact hin) rfl rfl hdg fun H1 e z oq => ?_
  refine kk H1 _ (hR.put hk ?_ oq (fun q i _ => rfl) (fun q i h => by rw [rl_wl, if_neg (fun z => h z.1)]) rfl rfl) (hS.put z oq hw.2)
  rw [cel_wl_a hl]
  show H1[α k]? = some (vp_cell _ _)
  rw [e]
  show some (Cell.setSlot (vp_cell (E.2.1 1) (n, .inr (.inl (rl S k)))) _ _) = _
  rw [vp_cell_l, vp_cell_l, arrV_store]
  congr 2
  funext q
  by_cases hq : q = i.toNatClampNeg
  · subst hq
    simp [updV, vp_updL]
  · simp [updV, vp_updL, hq]
theorem qm_abs : Cond.code Lib.Math.abs.name Lib.Math.abs.code 1 (some .int) ∈ wsL_law := ws_at 524 (by decide +kernel) (by decide +kernel)
theorem g_mabs (C : Cx p s m args meth c own cc nL ret E) (hml : c.maxLocals = ls.size) {idx : Nat} (hlink : Cond.methodLink own idx Lib.Math.abs.name ∈ wsL_law) (hframes : 1 ≤ R.frames) (hlocals : (rest.map fun v => v.category).sum + 13 ≤ R.locals) (hc : cells ≤ R.cells) (hs : slots ≤ R.slots) {x : Int32} (hdg : decode cc pc = .ok (.invokestatic idx, 3))
    (kk : W p l e R s m args below meth c H locs cells slots Q (F0 m (pc + 3) ls (.int (mabs x) :: rest))) : W p l e R s m args below meth c H locs cells slots Q (F0 m pc ls (.int x :: rest)) :=
  va_mabs C.1 C.2.1 hml C.2.2.2.1 (C.2.2.2.2.1 _ hlink) (C.2.2.2.2.1 _ q523) (C.2.2.2.2.1 _ q81) (C.2.2.2.2.1 _ qm_abs) hframes hlocals hc hs hdg kk
theorem qm_max : Cond.code Lib.Math.max.name Lib.Math.max.code 2 (some .int) ∈ wsL_law := ws_at 925 (by decide +kernel) (by decide +kernel)
theorem g_mmax (C : Cx p s m args meth c own cc nL ret E) (hml : c.maxLocals = ls.size) {idx : Nat} (hlink : Cond.methodLink own idx Lib.Math.max.name ∈ wsL_law) (hframes : 1 ≤ R.frames) (hlocals : (rest.map fun v => v.category).sum + 13 ≤ R.locals) (hc : cells ≤ R.cells) (hs : slots ≤ R.slots) {x y : Int32} (hdg : decode cc pc = .ok (.invokestatic idx, 3))
    (kk : W p l e R s m args below meth c H locs cells slots Q (F0 m (pc + 3) ls (.int (mmax x y) :: rest))) : W p l e R s m args below meth c H locs cells slots Q (F0 m pc ls (.int y :: .int x :: rest)) :=
  va_mmax C.1 C.2.1 hml C.2.2.2.1 (C.2.2.2.2.1 _ hlink) (C.2.2.2.2.1 _ q924) (C.2.2.2.2.1 _ q81) (C.2.2.2.2.1 _ qm_max) hframes hlocals hc hs hdg kk
theorem qm_min : Cond.code Lib.Math.min.name Lib.Math.min.code 2 (some .int) ∈ wsL_law := ws_at 928 (by decide +kernel) (by decide +kernel)
theorem g_mmin (C : Cx p s m args meth c own cc nL ret E) (hml : c.maxLocals = ls.size) {idx : Nat} (hlink : Cond.methodLink own idx Lib.Math.min.name ∈ wsL_law) (hframes : 1 ≤ R.frames) (hlocals : (rest.map fun v => v.category).sum + 13 ≤ R.locals) (hc : cells ≤ R.cells) (hs : slots ≤ R.slots) {x y : Int32} (hdg : decode cc pc = .ok (.invokestatic idx, 3))
    (kk : W p l e R s m args below meth c H locs cells slots Q (F0 m (pc + 3) ls (.int (mmin x y) :: rest))) : W p l e R s m args below meth c H locs cells slots Q (F0 m pc ls (.int y :: .int x :: rest)) :=
  va_mmin C.1 C.2.1 hml C.2.2.2.1 (C.2.2.2.2.1 _ hlink) (C.2.2.2.2.1 _ q927) (C.2.2.2.2.1 _ q81) (C.2.2.2.2.1 _ qm_min) hframes hlocals hc hs hdg kk
set_option maxHeartbeats 4000000 in
theorem g_astP (C : Cx p s m args meth c own cc nL ret E) {H0 : Heap} (hR : Rp E α g S H) (hS : va_S E.2.2.1 H0 H locs) {i : Int32} {n : Nat} (hn : n < g.1) (hin : inb i 16 ∧ i.toNatClampNeg = nP S ∧ n = nP S) {S1 : St} (he : S1 = wr S 900 0 (nI (nP S + 1))) (hdg : decode cc pc = .ok (.aastore, 1))
    (kk : ∀ (H1 : Heap) (locs1 : List Loc), Rp E α g S1 H1 → va_S E.2.2.1 H0 H1 locs1 → W p l e R s m args below meth c H1 locs1 cells slots Q (F0 m (pc + 1) ls rest)) : W p l e R s m args below meth c H locs cells slots Q (F0 m pc ls (.ref (α (200 + 2 * n)) :: .int i :: .ref (α 2) :: rest)) := by
  subst he
  obtain ⟨hx, hb, -, hown, hts, -, -, hK, -⟩ := C
  obtain ⟨hi1, hi2, hi3⟩ := hin
  have hlt : i.toNatClampNeg < 16 := Nat.not_le.mp fun q => hi1 (Or.inr q)
  have h0 : ¬ i < 0 := fun q => hi1 (Or.inl q)
  have hk : live g 2 := live_st (by decide)
  have hw := hR.2.1 2 hk
  rw [cel_a (t := 3) (n := 16) rfl] at hw
  have hv := (hR.2.1 (200 + 2 * n) (live_p hn)).1
  rw [cel_o (lay_p (Nat.lt_of_lt_of_le hn hR.1.1))] at hv
  obtain ⟨r', hr', cellV, g1, g2, g3, -⟩ := hv
  have hcls := (hK.1 3 _ vw3).2
  obtain ⟨kA, comp, k1, k2, k3, -⟩ := (hK.2 3 _ rfl).2
  have hcomp : comp = E.1.1 3 := Option.some.inj (k3.symm.trans hcls.1)
  subst hcomp
  obtain ⟨kC, hkC, -⟩ := hcls.2
  have hc1 : H[α 2]? = some (arrV (E.2.1 3) 16 (fun j => va_rf (refs α S 3 j))) := hw.1
  have hnn : nP (wr S 900 0 (nI (nP S + 1))) = nP S + 1 := by
    unfold nP; rw [rd_wr, if_pos ⟨rfl, rfl⟩]; exact nI_clamp (by have := hR.1.1; have h9 : nP S < g.1 := hi3 ▸ hn; unfold nP at h9; omega)
  have hno : nC (wr S 900 0 (nI (nP S + 1))) = nC S := by
    unfold nC; rw [rd_wr, if_neg (by decide)]
  refine W.aast hx hb (a := α 2) (v := α (200 + 2 * n)) hc1 (fun q h => by cases h) (fun h => by cases h) k1 k2 rfl hkC ⟨h0, by show _ < (arrV _ _ _).slots.size; rw [arrV_size]; exact hlt⟩ g1 (fun q h => by rw [g3] at h; cases h) (by rw [g2]; exact hkC) (by rw [g2]; exact va_assign hcls) rfl rfl hdg fun H1 e z oq => ?_
  refine kk H1 _ ?_ (hS.put z oq hw.2)
  obtain ⟨⟨a1, a2, a3, a4⟩, b, d⟩ := hR
  refine ⟨⟨a1, a2, by rw [hnn]; exact hi3 ▸ hn, by rw [hno]; exact a4⟩, fun q hq => ⟨?_, (b q hq).2⟩, d⟩
  by_cases hqe : q = 2
  · subst hqe
    rw [cel_a (t := 3) (n := 16) rfl]
    show H1[α 2]? = some (vp_cell _ _)
    rw [e]
    show some (Cell.setSlot (arrV (E.2.1 3) 16 (fun j => va_rf (refs α S 3 j))) i.toNatClampNeg (.ref (α (200 + 2 * n)))) = some (arrV (E.2.1 3) 16 (fun j => va_rf (refs α (wr S 900 0 (nI (nP S + 1))) 3 j)))
    rw [arrV_store]
    congr 2
    funext j
    simp only [refs_3, hnn, updV]
    by_cases hj : j = i.toNatClampNeg
    · rw [if_pos hj, hj, hi2, if_pos (Nat.lt_succ_self _), hi3]
      rfl
    · rw [if_neg hj]
      rw [hi2] at hj
      by_cases hj2 : j < nP S
      · rw [if_pos hj2, if_pos (by omega)]
      · rw [if_neg hj2, if_neg (by omega)]
  · have e2 : cel (wr S 900 0 (nI (nP S + 1))) α E.2.1 q = cel S α E.2.1 q := by
      have hq9 : q ≠ 900 := by rcases hq with h | h | h <;> omega
      have hl2 : ∀ n, lay q ≠ .inr (3, n) := lay_2 hqe
      have e1 : rd (wr S 900 0 (nI (nP S + 1))) q = rd S q := by funext i; rw [rd_wr, if_neg (fun z => hq9 z.1)]
      have e3 : ∀ j kd, fv (wr S 900 0 (nI (nP S + 1))) α q j kd = fv S α q j kd := fun j kd => fv_wr_ne (fun z => hq9 z.1) kd
      unfold cel
      cases hly : lay q with
      | inl o => simp only [e3]
      | inr a =>
        obtain ⟨t, n9⟩ := a
        have ht : t ≠ 3 := fun z => hl2 n9 (by rw [hly, z])
        simp only [arrC, e1]
        congr 3
        show (if t = 0 ∨ t = 2 then _ else if t = 1 then Sum.inr (Sum.inl (rl S q)) else _) = _
        by_cases c1 : t = 0 ∨ t = 2
        · rw [if_pos c1, if_pos c1]
        · rw [if_neg c1, if_neg c1]
          by_cases c2 : t = 1
          · rw [if_pos c2, if_pos c2]
          · rw [if_neg c2, if_neg c2]
            congr 4
            funext i
            unfold refs
            rw [if_neg ht, if_neg ht, hno]
    rw [e2]
    exact (b q hq).1.kept (oq _ (fun z9 => hqe (d q 2 hq hk z9)))
set_option maxHeartbeats 4000000 in
theorem g_astC (C : Cx p s m args meth c own cc nL ret E) {H0 : Heap} (hR : Rp E α g S H) (hS : va_S E.2.2.1 H0 H locs) {i : Int32} {n : Nat} (hn : n < g.2) (hin : inb i 24 ∧ i.toNatClampNeg = nC S ∧ n = nC S) {S1 : St} (he : S1 = wr S 900 1 (nI (nC S + 1))) (hdg : decode cc pc = .ok (.aastore, 1))
    (kk : ∀ (H1 : Heap) (locs1 : List Loc), Rp E α g S1 H1 → va_S E.2.2.1 H0 H1 locs1 → W p l e R s m args below meth c H1 locs1 cells slots Q (F0 m (pc + 1) ls rest)) : W p l e R s m args below meth c H locs cells slots Q (F0 m pc ls (.ref (α (300 + 2 * n)) :: .int i :: .ref (α 48) :: rest)) := by
  subst he
  obtain ⟨hx, hb, -, hown, hts, -, -, hK, -⟩ := C
  obtain ⟨hi1, hi2, hi3⟩ := hin
  have hlt : i.toNatClampNeg < 24 := Nat.not_le.mp fun q => hi1 (Or.inr q)
  have h0 : ¬ i < 0 := fun q => hi1 (Or.inl q)
  have hk : live g 48 := live_st (by decide)
  have hw := hR.2.1 48 hk
  rw [cel_a (t := 5) (n := 24) rfl] at hw
  have hv := (hR.2.1 (300 + 2 * n) (live_c hn)).1
  rw [cel_o (lay_c (Nat.lt_of_lt_of_le hn hR.1.2.1))] at hv
  obtain ⟨r', hr', cellV, g1, g2, g3, -⟩ := hv
  have hcls := (hK.1 0 _ vw0).2
  obtain ⟨kA, comp, k1, k2, k3, -⟩ := (hK.2 5 _ rfl).2
  have hcomp : comp = E.1.1 0 := Option.some.inj (k3.symm.trans hcls.1)
  subst hcomp
  obtain ⟨kC, hkC, -⟩ := hcls.2
  have hc1 : H[α 48]? = some (arrV (E.2.1 5) 24 (fun j => va_rf (refs α S 5 j))) := hw.1
  have hnn : nC (wr S 900 1 (nI (nC S + 1))) = nC S + 1 := by
    unfold nC; rw [rd_wr, if_pos ⟨rfl, rfl⟩]; exact nI_clamp (by have := hR.1.2.1; have h9 : nC S < g.2 := hi3 ▸ hn; unfold nC at h9; omega)
  have hno : nP (wr S 900 1 (nI (nC S + 1))) = nP S := by
    unfold nP; rw [rd_wr, if_neg (by decide)]
  refine W.aast hx hb (a := α 48) (v := α (300 + 2 * n)) hc1 (fun q h => by cases h) (fun h => by cases h) k1 k2 rfl hkC ⟨h0, by show _ < (arrV _ _ _).slots.size; rw [arrV_size]; exact hlt⟩ g1 (fun q h => by rw [g3] at h; cases h) (by rw [g2]; exact hkC) (by rw [g2]; exact va_assign hcls) rfl rfl hdg fun H1 e z oq => ?_
  refine kk H1 _ ?_ (hS.put z oq hw.2)
  obtain ⟨⟨a1, a2, a3, a4⟩, b, d⟩ := hR
  refine ⟨⟨a1, a2, by rw [hno]; exact a3, by rw [hnn]; exact hi3 ▸ hn⟩, fun q hq => ⟨?_, (b q hq).2⟩, d⟩
  by_cases hqe : q = 48
  · subst hqe
    rw [cel_a (t := 5) (n := 24) rfl]
    show H1[α 48]? = some (vp_cell _ _)
    rw [e]
    show some (Cell.setSlot (arrV (E.2.1 5) 24 (fun j => va_rf (refs α S 5 j))) i.toNatClampNeg (.ref (α (300 + 2 * n)))) = some (arrV (E.2.1 5) 24 (fun j => va_rf (refs α (wr S 900 1 (nI (nC S + 1))) 5 j)))
    rw [arrV_store]
    congr 2
    funext j
    simp only [refs_5, hnn, updV]
    by_cases hj : j = i.toNatClampNeg
    · rw [if_pos hj, hj, hi2, if_pos (Nat.lt_succ_self _), hi3]
      rfl
    · rw [if_neg hj]
      rw [hi2] at hj
      by_cases hj2 : j < nC S
      · rw [if_pos hj2, if_pos (by omega)]
      · rw [if_neg hj2, if_neg (by omega)]
  · have e2 : cel (wr S 900 1 (nI (nC S + 1))) α E.2.1 q = cel S α E.2.1 q := by
      have hq9 : q ≠ 900 := by rcases hq with h | h | h <;> omega
      have hl2 : ∀ n, lay q ≠ .inr (5, n) := lay_48 hqe
      have e1 : rd (wr S 900 1 (nI (nC S + 1))) q = rd S q := by funext i; rw [rd_wr, if_neg (fun z => hq9 z.1)]
      have e3 : ∀ j kd, fv (wr S 900 1 (nI (nC S + 1))) α q j kd = fv S α q j kd := fun j kd => fv_wr_ne (fun z => hq9 z.1) kd
      unfold cel
      cases hly : lay q with
      | inl o => simp only [e3]
      | inr a =>
        obtain ⟨t, n9⟩ := a
        have ht : t ≠ 5 := fun z => hl2 n9 (by rw [hly, z])
        simp only [arrC, e1]
        congr 3
        show (if t = 0 ∨ t = 2 then _ else if t = 1 then Sum.inr (Sum.inl (rl S q)) else _) = _
        by_cases c1 : t = 0 ∨ t = 2
        · rw [if_pos c1, if_pos c1]
        · rw [if_neg c1, if_neg c1]
          by_cases c2 : t = 1
          · rw [if_pos c2, if_pos c2]
          · rw [if_neg c2, if_neg c2]
            congr 4
            funext i
            unfold refs
            rw [hno, if_neg ht, if_neg ht]
    rw [e2]
    exact (b q hq).1.kept (oq _ (fun z9 => hqe (d q 48 hq hk z9)))
/-! calls -/
theorem g_runV (C : Cx p s m args meth c own cc nL ret E) (hR : Rp E α g S H) (hS : va_S E.2.2.1 s.heap H locs) {y : MethodName} {bytes : ByteArray} {maxL : Nat} {ret2 : Option FieldType} {rm : Room} {As st0 : List Value} {Qc : Array Value → State → Outcome → State → Prop} {k ci idx n : Nat} {ks : List Nat} {Cn : String} {T : u_T} {N : Nat}
    (hM : Met l y (wsY y bytes maxL ret2) rm (va_Pc (.ref (α k) :: As) (Wd E α g S)) Qc 0 0 E.2.2.1) (hk : live g k) (hl : lay k = .inl (ci, ks)) (hc : vwCl[ci]? = some (Cn, T, N)) (hV : MV y Cn bytes maxL ret2 n) (hlink : Cond.methodLink own idx y ∈ wsL_law) (hrc : rm.cells = 0 ∧ rm.slots = 0) (hRm : rm.frames + 1 ≤ R.frames ∧ 8 + (maxL + 11) + rm.locals ≤ R.locals) (hn : As.length = n) (hsz : ls.size = nL) (hst : st0 = As.reverse ++ .ref (α k) :: rest) (hrm : (rest.map fun v => v.category).sum ≤ 8) (hdg : decode cc pc = .ok (.invokevirtual idx, 3)) (hf : cells ≤ R.cells ∧ slots ≤ R.slots) :
    va_Run p l e R s m args below meth c H locs cells slots 0 0 (F0 m pc ls st0) rest (Qc (Value.ref (α k) :: As).toArray) E.2.2.1 := by
  obtain ⟨hx, hb, hml, hown, hts, -, -, hK⟩ := C
  obtain ⟨v1, v2, v3, v4, v5⟩ := hV
  subst hst
  refine va_runV (As := As) (rest := rest) ⟨hx, hb, hml, hown, hts⟩ hM (cwV n hts (fun w hw => ?_) rfl hrc.1 hrc.2 v5 hRm) ⟨Wd.blind, va_recv hK.1 (hR.one hk (cel_o hl)) hc (q0 := 0) rfl, fun U hU hW => ⟨rfl, by rw [hU]; exact hR, hK.call hS hU hW⟩⟩ rfl hn hsz rfl (lv_room hrm) hdg hf
  simp only [wsV, List.mem_append, List.mem_cons, List.not_mem_nil, or_false] at hw
  rcases hw with (rfl | rfl | rfl | rfl) | rfl | hw
  · exact wsGood hlink
  · exact wsGood v1
  · exact wsGood v2
  · exact wsGood v3
  · exact wsGood v4
  · exact wsGood hw
theorem g_runS (C : Cx p s m args meth c own cc nL ret E) (hR : Rp E α g S H) (hS : va_S E.2.2.1 s.heap H locs) {y : MethodName} {bytes : ByteArray} {maxL : Nat} {ret2 : Option FieldType} {rm : Room} {As st0 : List Value} {Qc : Array Value → State → Outcome → State → Prop} {idx n : Nat}
    (hM : Met l y (wsY y bytes maxL ret2) rm (va_Pc As (Wd E α g S)) Qc 0 0 E.2.2.1) (hV : MS y bytes maxL ret2 n) (hlink : Cond.methodLink own idx y ∈ wsL_law) (hrc : rm.cells = 0 ∧ rm.slots = 0) (hRm : rm.frames + 1 ≤ R.frames ∧ 8 + (maxL + 11) + rm.locals ≤ R.locals) (hn : As.length = n) (hsz : ls.size = nL) (hst : st0 = As.reverse ++ rest) (hrm : (rest.map fun v => v.category).sum ≤ 8) (hdg : decode cc pc = .ok (.invokestatic idx, 3)) (hf : cells ≤ R.cells ∧ slots ≤ R.slots) :
    va_Run p l e R s m args below meth c H locs cells slots 0 0 (F0 m pc ls st0) rest (Qc As.toArray) E.2.2.1 := by
  obtain ⟨hx, hb, hml, hown, hts, -, -, hK⟩ := C
  obtain ⟨v1, v2, v3, v4⟩ := hV
  subst hst
  exact va_runS (As := As) (rest := rest) ⟨hx, hb, hml, hown, hts⟩ hM ⟨callB_of n hts (wsGoodIn v3) rfl hrc.1 hrc.2 (hts _ v2) (hts _ hlink) v4 hRm, hts _ v1⟩ ⟨Wd.blind, fun U hU hW => ⟨rfl, by rw [hU]; exact hR, hK.call hS hU hW⟩⟩ rfl hn hsz rfl (lv_room hrm) hdg hf
theorem g_runN (C : Cx p s m args meth c own cc nL ret E) (hR : Rp E α g S H) (hS : va_S E.2.2.1 s.heap H locs) {y : MethodName} {bytes : ByteArray} {maxL : Nat} {ret2 : Option FieldType} {rm : Room} {As st0 : List Value} {Qc : Array Value → State → Outcome → State → Prop} {idx n : Nat} {host : String}
    (hM : Met l y (wsY y bytes maxL ret2) rm (va_Pc As (Wd E α g S)) Qc 0 0 E.2.2.1) (hV : MS y bytes maxL ret2 n) (hlink : Cond.methodLinkNest own idx y host ∈ nestW) (hrc : rm.cells = 0 ∧ rm.slots = 0) (hRm : rm.frames + 1 ≤ R.frames ∧ 8 + (maxL + 11) + rm.locals ≤ R.locals) (hn : As.length = n) (hsz : ls.size = nL) (hst : st0 = As.reverse ++ rest) (hrm : (rest.map fun v => v.category).sum ≤ 8) (hdg : decode cc pc = .ok (.invokestatic idx, 3)) (hf : cells ≤ R.cells ∧ slots ≤ R.slots) :
    va_Run p l e R s m args below meth c H locs cells slots 0 0 (F0 m pc ls st0) rest (Qc As.toArray) E.2.2.1 := by
  obtain ⟨hx, hb, hml, hown, hts, -, -, hK⟩ := C
  obtain ⟨v1, v2, v3, v4⟩ := hV
  subst hst
  exact va_runSN (As := As) (rest := rest) ⟨hx, hb, hml, hown, hts⟩ hM ⟨va_cnB n hts (wsGoodIn v3) rfl hrc.1 hrc.2 (hK.2.2.1 _ hlink) (hts _ v2) v4 hRm, hts _ v1, trivial⟩ ⟨Wd.blind, fun U hU hW => ⟨rfl, by rw [hU]; exact hR, hK.call hS hU hW⟩⟩ rfl hn hsz rfl (lv_room hrm) hdg hf
variable {st0 : List Value} {a : Array Value} {H0 : Heap}
theorem g_ci {r9 : Int32} {S9 : St} (hS : va_S E.2.2.1 H0 H locs) (hr : va_Run p l e R s m args below meth c H locs cells slots 0 0 (F0 m pc ls st0) rest (Qi E α g (r9, S9) a) E.2.2.1)
    (kk : ∀ (H1 : Heap) (locs1 : List Loc), Rp E α g S9 H1 → va_S E.2.2.1 H0 H1 locs1 → W p l e R s m args below meth c H1 locs1 cells slots Q (F0 m (pc + 3) ls (.int r9 :: rest))) : W p l e R s m args below meth c H locs cells slots Q (F0 m pc ls st0) :=
  va_calli hr hS (fun _ _ h => h) (fun _ h => h) (fun r u t H1 locs1 ht hvm hp hB hz hk hS1 => by
    obtain ⟨rfl, rfl⟩ := hp
    rw [ht] at hB
    exact kk H1 locs1 hB hS1)
theorem g_cl {r9 : Int64} {S9 : St} (hS : va_S E.2.2.1 H0 H locs) (hr : va_Run p l e R s m args below meth c H locs cells slots 0 0 (F0 m pc ls st0) rest (Ql E α g (r9, S9) a) E.2.2.1)
    (kk : ∀ (H1 : Heap) (locs1 : List Loc), Rp E α g S9 H1 → va_S E.2.2.1 H0 H1 locs1 → W p l e R s m args below meth c H1 locs1 cells slots Q (F0 m (pc + 3) ls (.long r9 :: rest))) : W p l e R s m args below meth c H locs cells slots Q (F0 m pc ls st0) :=
  va_calll hr hS (fun _ _ h => h) (fun _ h => h) (fun r u t H1 locs1 ht hvm hp hB hz hk hS1 => by
    obtain ⟨rfl, rfl⟩ := hp
    rw [ht] at hB
    exact kk H1 locs1 hB hS1)
theorem g_cv {r9 : Unit} {S9 : St} (hS : va_S E.2.2.1 H0 H locs) (hr : va_Run p l e R s m args below meth c H locs cells slots 0 0 (F0 m pc ls st0) rest (Qv E α g (r9, S9) a) E.2.2.1)
    (kk : ∀ (H1 : Heap) (locs1 : List Loc), Rp E α g S9 H1 → va_S E.2.2.1 H0 H1 locs1 → W p l e R s m args below meth c H1 locs1 cells slots Q (F0 m (pc + 3) ls rest)) : W p l e R s m args below meth c H locs cells slots Q (F0 m pc ls st0) :=
  va_callv hr hS (fun _ _ h => h) (fun _ h => h) (fun u t H1 locs1 ht hvm hp hB hz hk hS1 => by
    subst hp
    rw [ht] at hB
    exact kk H1 locs1 hB hS1)
theorem g_runT (C : Cx p s m args meth c own cc nL ret E) (hR : Rp E α g S H) {y : MethodName} {bytes : ByteArray} {maxL : Nat} {ret2 : Option FieldType} {rm : Room} {As : List Value} {Qc : Array Value → State → Outcome → State → Prop} {i idx n : Nat} (hS : va_S E.2.2.1 s.heap H locs)
    (hM : Met l y (wsY y bytes maxL ret2) rm (va_Pc (.ref (E.2.2.2.1 i) :: As) (Wd E α g S)) Qc 0 0 E.2.2.1) (hi : i < 6) (hV : MV y RJ0 bytes maxL ret2 n) (hlink : Cond.methodLink own idx y ∈ wsL_law) (hrc : rm.cells = 0 ∧ rm.slots = 0) (hRm : rm.frames + 1 ≤ R.frames ∧ 8 + (maxL + 11) + rm.locals ≤ R.locals) (hn : As.length = n) (hsz : ls.size = nL) (hst : st0 = As.reverse ++ .ref (E.2.2.2.1 i) :: rest) (hrm : (rest.map fun v => v.category).sum ≤ 8) (hdg : decode cc pc = .ok (.invokevirtual idx, 3)) (hf : cells ≤ R.cells ∧ slots ≤ R.slots) :
    va_Run p l e R s m args below meth c H locs cells slots 0 0 (F0 m pc ls st0) rest (Qc (Value.ref (E.2.2.2.1 i) :: As).toArray) E.2.2.1 := by
  obtain ⟨hx, hb, hml, hown, hts, -, -, hK⟩ := C
  obtain ⟨v1, v2, v3, v4, v5⟩ := hV
  subst hst
  refine va_runV (As := As) (rest := rest) ⟨hx, hb, hml, hown, hts⟩ hM (cwV n hts (fun w hw => ?_) rfl hrc.1 hrc.2 v5 hRm) ⟨Wd.blind, vk_recv hK.2.2.2.2.1 hi hS, fun U hU hW => ⟨rfl, by rw [hU]; exact hR, hK.call hS hU hW⟩⟩ rfl hn hsz rfl (lv_room hrm) hdg hf
  simp only [wsV, List.mem_append, List.mem_cons, List.not_mem_nil, or_false] at hw
  rcases hw with (rfl | rfl | rfl | rfl) | rfl | hw
  · exact wsGood hlink
  · exact wsGood v1
  · exact wsGood v2
  · exact wsGood v3
  · exact wsGood v4
  · exact wsGood hw
/-! the ends -/
theorem g_nret {ty : FieldType} (C : Cx p s m args meth c own cc nL (some ty) E) (hR : Rp E α g S H) (hS : va_S E.2.2.1 s.heap H locs) {v : Int32} (hv : narrow ty (.int v) = .int v) {z : Int32 × St} (hz : some (v, S) = some z) (hdg : decode cc pc = .ok (.ireturn, 1)) : W p l e R s m args below meth c H locs cells slots (MQ below (Qi E α g z) args s cells slots E.2.2.1) (F0 m pc ls [.int v]) := by
  cases hz
  exact W.zret C.1 C.2.1 C.2.2.2.2.2.2.1 hv (fun t ht hW => ⟨⟨v, S, rfl, ⟨rfl, rfl⟩, by show Rp E α g S t.heap; rw [ht]; exact hR⟩, hS.F ht⟩) hS.2.2 hdg C.2.2.2.2.2.1
theorem g_iret (C : Cx p s m args meth c own cc nL (some .int) E) (hR : Rp E α g S H) (hS : va_S E.2.2.1 s.heap H locs) {v : Int32} {z : Int32 × St} (hz : some (v, S) = some z) (hdg : decode cc pc = .ok (.ireturn, 1)) : W p l e R s m args below meth c H locs cells slots (MQ below (Qi E α g z) args s cells slots E.2.2.1) (F0 m pc ls [.int v]) := by
  cases hz
  exact W.iret C.1 C.2.1 C.2.2.2.2.2.2.1 (fun t ht hW => ⟨⟨v, S, rfl, ⟨rfl, rfl⟩, by show Rp E α g S t.heap; rw [ht]; exact hR⟩, hS.F ht⟩) hS.2.2 hdg C.2.2.2.2.2.1
theorem g_zret (C : Cx p s m args meth c own cc nL (some .boolean) E) (hR : Rp E α g S H) (hS : va_S E.2.2.1 s.heap H locs) {v : Int32} (hv : bz v) {z : Int32 × St} (hz : some (v, S) = some z) (hdg : decode cc pc = .ok (.ireturn, 1)) : W p l e R s m args below meth c H locs cells slots (MQ below (Qi E α g z) args s cells slots E.2.2.1) (F0 m pc ls [.int v]) := by
  cases hz
  exact W.zret C.1 C.2.1 C.2.2.2.2.2.2.1 (bz_n hv) (fun t ht hW => ⟨⟨v, S, rfl, ⟨rfl, rfl⟩, by show Rp E α g S t.heap; rw [ht]; exact hR⟩, hS.F ht⟩) hS.2.2 hdg C.2.2.2.2.2.1
theorem g_lret (C : Cx p s m args meth c own cc nL (some .long) E) (hR : Rp E α g S H) (hS : va_S E.2.2.1 s.heap H locs) {v : Int64} {z : Int64 × St} (hz : some (v, S) = some z) (hdg : decode cc pc = .ok (.lreturn, 1)) : W p l e R s m args below meth c H locs cells slots (MQ below (Ql E α g z) args s cells slots E.2.2.1) (F0 m pc ls [.long v]) := by
  cases hz
  exact W.lret C.1 C.2.1 C.2.2.2.2.2.2.1 (fun t ht hW => ⟨⟨v, S, rfl, ⟨rfl, rfl⟩, by show Rp E α g S t.heap; rw [ht]; exact hR⟩, hS.F ht⟩) hS.2.2 hdg C.2.2.2.2.2.1
theorem g_vret (C : Cx p s m args meth c own cc nL none E) (hR : Rp E α g S H) (hS : va_S E.2.2.1 s.heap H locs) {z : Unit × St} (hz : some ((), S) = some z) (hdg : decode cc pc = .ok (.return_, 1)) : W p l e R s m args below meth c H locs cells slots (MQ below (Qv E α g z) args s cells slots E.2.2.1) (F0 m pc ls []) := by
  cases hz
  exact W.vret C.1 C.2.1 C.2.2.2.2.2.2.1 (fun t ht hW => ⟨⟨S, rfl, rfl, by show Rp E α g S t.heap; rw [ht]; exact hR⟩, hS.F ht⟩) hS.2.2 hdg C.2.2.2.2.2.1
end G1
/-! ===== the pure side's own small words ===== -/
def lt_ {α β : Type} (x : α) (f : α → Option β) : Option β := f x
def gd_ {β : Type} (c : Prop) [Decidable c] (x : Option β) : Option β := if c then x else none
def bd_ {ρ β : Type} (x : Option (ρ × St)) (f : ρ → St → Option β) : Option β := match x with
  | none => none
  | some q => f q.1 q.2
theorem lt_e {α β : Type} {x : α} {f : α → Option β} {z : β} (h : lt_ x f = some z) : ∃ y, y = x ∧ f y = some z := ⟨x, rfl, h⟩
theorem gd_e {β : Type} {c : Prop} [Decidable c] {x : Option β} {z : β} (h : gd_ c x = some z) : c ∧ x = some z := by
  unfold gd_ at h
  by_cases hc : c
  · rw [if_pos hc] at h; exact ⟨hc, h⟩
  · rw [if_neg hc] at h; cases h
theorem bd_e {ρ β : Type} {x : Option (ρ × St)} {f : ρ → St → Option β} {z : β} (h : bd_ x f = some z) : ∃ r S1, x = some (r, S1) ∧ f r S1 = some z := by
  cases x with
  | none => cases h
  | some q => exact ⟨q.1, q.2, rfl, h⟩
theorem ite_t {β : Type} {c : Prop} {i : Decidable c} {x y z : β} (hc : c) (h : @ite β c i x y = z) : x = z := by rwa [if_pos hc] at h
theorem ite_f {β : Type} {c : Prop} {i : Decidable c} {x y z : β} (hc : ¬ c) (h : @ite β c i x y = z) : y = z := by rwa [if_neg hc] at h
