theorem Rp.norm {E : En} {α : Nat → Nat} {g : Nat × Nat} {S : St} {H : Heap} (h : Rp E α g S H) : Rp E α (nP S, nC S) S H := by
  obtain ⟨⟨a1, a2, a3, a4⟩, b, d⟩ := h
  have hl : ∀ k, live (nP S, nC S) k → live g k := by
    intro k hk
    rcases hk with hk | hk | hk
    · exact Or.inl hk
    · exact Or.inr (Or.inl ⟨hk.1, by have := hk.2; simp only at this; omega⟩)
    · exact Or.inr (Or.inr ⟨hk.1, by have := hk.2; simp only at this; omega⟩)
  exact ⟨⟨by show nP S ≤ 16; omega, by show nC S ≤ 24; omega, Nat.le_refl _, Nat.le_refl _⟩, fun k hk => b k (hl k hk), fun i j hi hj => d i j (hl i hi) (hl j hj)⟩
section GA
variable {p : Program} {l : Launch} {e : Env} {R : Room} {s : State} {m : MethodId} {args : Array Value} {below : List Frame} {meth : Method} {c : Code} {H : Heap} {locs : List Loc} {cells slots mc ms : Nat} {Q : State → Prop}
variable {cc : ByteArray} {pc nL : Nat} {ls : Array Slot} {rest st0 : List Value} {own : String} {ret : Option FieldType} {E : En} {α : Nat → Nat} {g : Nat × Nat} {S : St} {a : Array Value} {H0 : Heap}
theorem g_runA (C : Cx p s m args meth c own cc nL ret E) (hKc : Kc E s) (hR : Rp E α g S H) (hS : va_S E.2.2.1 s.heap H locs) {y : MethodName} {bytes : ByteArray} {maxL : Nat} {ret2 : Option FieldType} {rm : Room} {As : List Value} {Qc : Array Value → State → Outcome → State → Prop} {k ci idx n : Nat} {ks : List Nat} {Cn : String} {T : u_T} {N : Nat}
    (hM : Met l y (wsY y bytes maxL ret2) rm (va_Pc (.ref (α k) :: As) (fun U => Wd E α g S U ∧ Kc E U)) Qc mc ms E.2.2.1) (hk : live g k) (hl : lay k = .inl (ci, ks)) (hc : vwCl[ci]? = some (Cn, T, N)) (hV : MV y Cn bytes maxL ret2 n) (hlink : Cond.methodLink own idx y ∈ wsL_law) (hrc : rm.cells = mc ∧ rm.slots = ms) (hRm : rm.frames + 1 ≤ R.frames ∧ 8 + (maxL + 11) + rm.locals ≤ R.locals) (hn : As.length = n) (hsz : ls.size = nL) (hst : st0 = As.reverse ++ .ref (α k) :: rest) (hrm : (rest.map fun v => v.category).sum ≤ 8) (hdg : decode cc pc = .ok (.invokevirtual idx, 3)) (hf : cells + mc ≤ R.cells ∧ slots + ms ≤ R.slots) :
    va_Run p l e R s m args below meth c H locs cells slots mc ms (F0 m pc ls st0) rest (Qc (Value.ref (α k) :: As).toArray) E.2.2.1 := by
  obtain ⟨hx, hb, hml, hown, hts, -, -, hK⟩ := C
  obtain ⟨v1, v2, v3, v4, v5⟩ := hV
  subst hst
  refine va_runV (As := As) (rest := rest) ⟨hx, hb, hml, hown, hts⟩ hM (cwV n hts (fun w hw => ?_) rfl hrc.1 hrc.2 v5 hRm) ⟨fun a U f mk h => ⟨h.1, ⟨h.2.1.1, h.2.1.2.blind⟩, h.2.2.blind⟩, va_recv hK.1 (hR.one hk (cel_o hl)) hc (q0 := 0) rfl, fun U hU hW => ⟨rfl, ⟨by rw [hU]; exact hR, hK.call hS hU hW⟩, hKc.call hW⟩⟩ rfl hn hsz rfl (lv_room hrm) hdg hf
  simp only [wsV, List.mem_append, List.mem_cons, List.not_mem_nil, or_false] at hw
  rcases hw with (rfl | rfl | rfl | rfl) | rfl | hw
  · exact wsGood hlink
  · exact wsGood v1
  · exact wsGood v2
  · exact wsGood v3
  · exact wsGood v4
  · exact wsGood hw
theorem g_ca {r9 : Int32} {S9 : St} (hS : va_S E.2.2.1 H0 H locs) (hr : va_Run p l e R s m args below meth c H locs cells slots mc ms (F0 m pc ls st0) rest (Qa E α g (r9, S9) a) E.2.2.1)
    (kk : ∀ (α2 : Nat → Nat) (g2 : Nat × Nat) (H1 : Heap) (locs1 : List Loc), (∀ k, live g k → live g2 k ∧ α2 k = α k) → Rp E α2 g2 S9 H1 → va_S E.2.2.1 H0 H1 locs1 → W p l e R s m args below meth c H1 locs1 (cells + mc) (slots + ms) Q (F0 m (pc + 3) ls (.int r9 :: rest))) : W p l e R s m args below meth c H locs cells slots Q (F0 m pc ls st0) :=
  va_calli hr hS (fun _ _ h => h) (fun _ h => h) (fun r u t H1 locs1 ht hvm hp hB hz hk hS1 => by
    obtain ⟨rfl, rfl⟩ := hp
    obtain ⟨α2, g2, h1, h2, -⟩ := hB
    rw [ht] at h2
    exact kk α2 g2 H1 locs1 h1 h2 hS1)
end GA
def f_law_c0 (xs : Nat → Int32) (L : Nat) (v3 : Int32) (J : St → Option Int32) (S : St) : Option Int32 :=
  gd_ (inb (v3 + (1 : Int32)) L) <|
  gd_ (inb (v3 + (2 : Int32)) L) <|
  gd_ (inb (v3 + (3 : Int32)) L) <|
  gd_ (inb (v3 + (4 : Int32)) L) <|
  gd_ (inb (v3 + (5 : Int32)) L) <|
  bd_ (f_X10_piece (xs (Int32.toNatClampNeg (v3 + (1 : Int32)))) (xs (Int32.toNatClampNeg (v3 + (2 : Int32)))) (xs (Int32.toNatClampNeg (v3 + (3 : Int32)))) (xs (Int32.toNatClampNeg (v3 + (4 : Int32)))) (xs (Int32.toNatClampNeg (v3 + (5 : Int32)))) S) fun r6 S7 =>
  gd_ (inb (v3 + (1 : Int32)) L) <|
  gd_ (inb (v3 + (2 : Int32)) L) <|
  gd_ (inb (v3 + (3 : Int32)) L) <|
  gd_ (inb (v3 + (4 : Int32)) L) <|
  gd_ (inb (v3 + (5 : Int32)) L) <|
  bd_ (f_X11_piece (xs (Int32.toNatClampNeg (v3 + (1 : Int32)))) (xs (Int32.toNatClampNeg (v3 + (2 : Int32)))) (xs (Int32.toNatClampNeg (v3 + (3 : Int32)))) (xs (Int32.toNatClampNeg (v3 + (4 : Int32)))) (xs (Int32.toNatClampNeg (v3 + (5 : Int32)))) S7) fun r13 S14 =>
  if r6 = r13 then
    J S14
  else
    some (0 : Int32)
def f_law_c1 (xs : Nat → Int32) (L : Nat) (v3 : Int32) (J : St → Option Int32) (S : St) : Option Int32 :=
  gd_ (inb (v3 + (1 : Int32)) L) <|
  gd_ (inb (v3 + (2 : Int32)) L) <|
  bd_ (f_X10_worn (xs (Int32.toNatClampNeg (v3 + (1 : Int32)))) (xs (Int32.toNatClampNeg (v3 + (2 : Int32)))) S) fun r18 S19 =>
  gd_ (inb (v3 + (1 : Int32)) L) <|
  gd_ (inb (v3 + (2 : Int32)) L) <|
  bd_ (f_X11_worn (xs (Int32.toNatClampNeg (v3 + (1 : Int32)))) (xs (Int32.toNatClampNeg (v3 + (2 : Int32)))) S19) fun r22 S23 =>
  if r18 = r22 then
    J S23
  else
    some (0 : Int32)
def f_law_c2 (xs : Nat → Int32) (L : Nat) (v3 : Int32) (J : St → Option Int32) (S : St) : Option Int32 :=
  gd_ (inb (v3 + (1 : Int32)) L) <|
  gd_ (inb (v3 + (2 : Int32)) L) <|
  gd_ (inb (v3 + (3 : Int32)) L) <|
  bd_ (f_X10_of (xs (Int32.toNatClampNeg (v3 + (1 : Int32)))) (xs (Int32.toNatClampNeg (v3 + (2 : Int32)))) (xs (Int32.toNatClampNeg (v3 + (3 : Int32)))) S) fun r28 S29 =>
  gd_ (inb (v3 + (1 : Int32)) L) <|
  gd_ (inb (v3 + (2 : Int32)) L) <|
  gd_ (inb (v3 + (3 : Int32)) L) <|
  bd_ (f_X11_of (xs (Int32.toNatClampNeg (v3 + (1 : Int32)))) (xs (Int32.toNatClampNeg (v3 + (2 : Int32)))) (xs (Int32.toNatClampNeg (v3 + (3 : Int32)))) S29) fun r33 S34 =>
  if r28 = r33 then
    J S34
  else
    some (0 : Int32)
def f_law_c3 (xs : Nat → Int32) (L : Nat) (v3 : Int32) (J : St → Option Int32) (S : St) : Option Int32 :=
  bd_ (f_X10_lost  S) fun r36 S37 =>
  bd_ (f_X11_lost  S37) fun r38 S39 =>
  if r36 = r38 then
    J S39
  else
    some (0 : Int32)
def f_law_c4 (xs : Nat → Int32) (L : Nat) (v3 : Int32) (J : St → Option Int32) (S : St) : Option Int32 :=
  gd_ (inb (v3 + (1 : Int32)) L) <|
  gd_ (inb (v3 + (2 : Int32)) L) <|
  gd_ (inb (v3 + (3 : Int32)) L) <|
  gd_ (inb (v3 + (4 : Int32)) L) <|
  gd_ (inb (v3 + (5 : Int32)) L) <|
  bd_ (f_X10_said (xs (Int32.toNatClampNeg (v3 + (1 : Int32)))) ((lshlv (Int32.toInt64 (xs (Int32.toNatClampNeg (v3 + (2 : Int32))))) (32 : Int32)) ||| ((Int32.toInt64 (xs (Int32.toNatClampNeg (v3 + (3 : Int32))))) &&& (4294967295 : Int64))) (xs (Int32.toNatClampNeg (v3 + (4 : Int32)))) (xs (Int32.toNatClampNeg (v3 + (5 : Int32)))) S) fun r46 S47 =>
  gd_ (inb (v3 + (1 : Int32)) L) <|
  gd_ (inb (v3 + (2 : Int32)) L) <|
  gd_ (inb (v3 + (3 : Int32)) L) <|
  gd_ (inb (v3 + (4 : Int32)) L) <|
  gd_ (inb (v3 + (5 : Int32)) L) <|
  bd_ (f_X11_said (xs (Int32.toNatClampNeg (v3 + (1 : Int32)))) ((lshlv (Int32.toInt64 (xs (Int32.toNatClampNeg (v3 + (2 : Int32))))) (32 : Int32)) ||| ((Int32.toInt64 (xs (Int32.toNatClampNeg (v3 + (3 : Int32))))) &&& (4294967295 : Int64))) (xs (Int32.toNatClampNeg (v3 + (4 : Int32)))) (xs (Int32.toNatClampNeg (v3 + (5 : Int32)))) S47) fun r53 S54 =>
  if r46 = r53 then
    J S54
  else
    some (0 : Int32)
def f_law_c5 (xs : Nat → Int32) (L : Nat) (v3 : Int32) (J : St → Option Int32) (S : St) : Option Int32 :=
  gd_ (inb (v3 + (1 : Int32)) L) <|
  gd_ (inb (v3 + (2 : Int32)) L) <|
  gd_ (inb (v3 + (3 : Int32)) L) <|
  gd_ (inb (v3 + (4 : Int32)) L) <|
  gd_ (inb (v3 + (5 : Int32)) L) <|
  bd_ (f_X10_bit (xs (Int32.toNatClampNeg (v3 + (1 : Int32)))) ((lshlv (Int32.toInt64 (xs (Int32.toNatClampNeg (v3 + (2 : Int32))))) (32 : Int32)) ||| ((Int32.toInt64 (xs (Int32.toNatClampNeg (v3 + (3 : Int32))))) &&& (4294967295 : Int64))) (xs (Int32.toNatClampNeg (v3 + (4 : Int32)))) (xs (Int32.toNatClampNeg (v3 + (5 : Int32)))) S) fun r61 S62 =>
  gd_ (inb (v3 + (1 : Int32)) L) <|
  gd_ (inb (v3 + (2 : Int32)) L) <|
  gd_ (inb (v3 + (3 : Int32)) L) <|
  gd_ (inb (v3 + (4 : Int32)) L) <|
  gd_ (inb (v3 + (5 : Int32)) L) <|
  bd_ (f_X11_bit (xs (Int32.toNatClampNeg (v3 + (1 : Int32)))) ((lshlv (Int32.toInt64 (xs (Int32.toNatClampNeg (v3 + (2 : Int32))))) (32 : Int32)) ||| ((Int32.toInt64 (xs (Int32.toNatClampNeg (v3 + (3 : Int32))))) &&& (4294967295 : Int64))) (xs (Int32.toNatClampNeg (v3 + (4 : Int32)))) (xs (Int32.toNatClampNeg (v3 + (5 : Int32)))) S62) fun r68 S69 =>
  if r61 = r68 then
    J S69
  else
    some (0 : Int32)
def f_law_c6 (xs : Nat → Int32) (L : Nat) (v3 : Int32) (J : St → Option Int32) (S : St) : Option Int32 :=
  gd_ (inb (v3 + (1 : Int32)) L) <|
  gd_ (inb (v3 + (2 : Int32)) L) <|
  gd_ (inb (v3 + (3 : Int32)) L) <|
  bd_ (f_X10_write ((lshlv (Int32.toInt64 (xs (Int32.toNatClampNeg (v3 + (1 : Int32))))) (32 : Int32)) ||| ((Int32.toInt64 (xs (Int32.toNatClampNeg (v3 + (2 : Int32))))) &&& (4294967295 : Int64))) (xs (Int32.toNatClampNeg (v3 + (3 : Int32)))) S) fun r74 S75 =>
  gd_ (inb (v3 + (1 : Int32)) L) <|
  gd_ (inb (v3 + (2 : Int32)) L) <|
  gd_ (inb (v3 + (3 : Int32)) L) <|
  bd_ (f_X11_write ((lshlv (Int32.toInt64 (xs (Int32.toNatClampNeg (v3 + (1 : Int32))))) (32 : Int32)) ||| ((Int32.toInt64 (xs (Int32.toNatClampNeg (v3 + (2 : Int32))))) &&& (4294967295 : Int64))) (xs (Int32.toNatClampNeg (v3 + (3 : Int32)))) S75) fun r79 S80 =>
  if r74 = r79 then
    J S80
  else
    some (0 : Int32)
def f_law_c7 (xs : Nat → Int32) (L : Nat) (v3 : Int32) (J : St → Option Int32) (S : St) : Option Int32 :=
  bd_ (f_X10_erase  S) fun r82 S83 =>
  bd_ (f_X11_erase  S83) fun r84 S85 =>
  if r82 = r84 then
    J S85
  else
    some (0 : Int32)
def f_law_c8 (xs : Nat → Int32) (L : Nat) (v3 : Int32) (J : St → Option Int32) (S : St) : Option Int32 :=
  bd_ (f_X10_fault  S) fun r87 S88 =>
  bd_ (f_X11_fault  S88) fun r89 S90 =>
  if r87 = r89 then
    J S90
  else
    some (0 : Int32)
def f_law_c9 (xs : Nat → Int32) (L : Nat) (v3 : Int32) (J : St → Option Int32) (S : St) : Option Int32 :=
  bd_ (f_X10_told  S) fun r92 S93 =>
  bd_ (f_X11_told  S93) fun r94 S95 =>
  if r92 = r94 then
    J S95
  else
    some (0 : Int32)
def f_law_c10 (xs : Nat → Int32) (L : Nat) (v3 : Int32) (J : St → Option Int32) (S : St) : Option Int32 :=
  gd_ (inb (v3 + (1 : Int32)) L) <|
  gd_ (inb (v3 + (2 : Int32)) L) <|
  bd_ (f_X10_word (xs (Int32.toNatClampNeg (v3 + (1 : Int32)))) (xs (Int32.toNatClampNeg (v3 + (2 : Int32)))) S) fun r99 S100 =>
  gd_ (inb (v3 + (1 : Int32)) L) <|
  gd_ (inb (v3 + (2 : Int32)) L) <|
  bd_ (f_X11_word (xs (Int32.toNatClampNeg (v3 + (1 : Int32)))) (xs (Int32.toNatClampNeg (v3 + (2 : Int32)))) S100) fun r103 S104 =>
  if r99 = r103 then
    J S104
  else
    some (0 : Int32)
def f_law_c11 (xs : Nat → Int32) (L : Nat) (v3 : Int32) (J : St → Option Int32) (S : St) : Option Int32 :=
  gd_ (inb (v3 + (1 : Int32)) L) <|
  gd_ (inb (v3 + (2 : Int32)) L) <|
  gd_ (inb (v3 + (3 : Int32)) L) <|
  bd_ (f_X10_line (xs (Int32.toNatClampNeg (v3 + (1 : Int32)))) (xs (Int32.toNatClampNeg (v3 + (2 : Int32)))) (xs (Int32.toNatClampNeg (v3 + (3 : Int32)))) S) fun r109 S110 =>
  gd_ (inb (v3 + (1 : Int32)) L) <|
  gd_ (inb (v3 + (2 : Int32)) L) <|
  gd_ (inb (v3 + (3 : Int32)) L) <|
  bd_ (f_X11_line (xs (Int32.toNatClampNeg (v3 + (1 : Int32)))) (xs (Int32.toNatClampNeg (v3 + (2 : Int32)))) (xs (Int32.toNatClampNeg (v3 + (3 : Int32)))) S110) fun r114 S115 =>
  if r109 = r114 then
    J S115
  else
    some (0 : Int32)
def f_law_c12 (xs : Nat → Int32) (L : Nat) (v3 : Int32) (J : St → Option Int32) (S : St) : Option Int32 :=
  gd_ (inb (v3 + (1 : Int32)) L) <|
  gd_ (inb (v3 + (2 : Int32)) L) <|
  gd_ (inb (v3 + (3 : Int32)) L) <|
  bd_ (f_X10_jar (xs (Int32.toNatClampNeg (v3 + (1 : Int32)))) (xs (Int32.toNatClampNeg (v3 + (2 : Int32)))) (xs (Int32.toNatClampNeg (v3 + (3 : Int32)))) S) fun r120 S121 =>
  gd_ (inb (v3 + (1 : Int32)) L) <|
  gd_ (inb (v3 + (2 : Int32)) L) <|
  gd_ (inb (v3 + (3 : Int32)) L) <|
  bd_ (f_X11_jar (xs (Int32.toNatClampNeg (v3 + (1 : Int32)))) (xs (Int32.toNatClampNeg (v3 + (2 : Int32)))) (xs (Int32.toNatClampNeg (v3 + (3 : Int32)))) S121) fun r125 S126 =>
  if r120 = r125 then
    J S126
  else
    some (0 : Int32)
def f_law_c13 (xs : Nat → Int32) (L : Nat) (v3 : Int32) (J : St → Option Int32) (S : St) : Option Int32 :=
  gd_ (inb (v3 + (1 : Int32)) L) <|
  gd_ (inb (v3 + (2 : Int32)) L) <|
  gd_ (inb (v3 + (3 : Int32)) L) <|
  gd_ (inb (v3 + (4 : Int32)) L) <|
  gd_ (inb (v3 + (5 : Int32)) L) <|
  gd_ (inb (v3 + (6 : Int32)) L) <|
  lt_ (if (xs (Int32.toNatClampNeg (v3 + (6 : Int32)))) = 0 then (0 : Int32) else (1 : Int32)) fun x134 =>
  bd_ (f_X10_call (xs (Int32.toNatClampNeg (v3 + (1 : Int32)))) (xs (Int32.toNatClampNeg (v3 + (2 : Int32)))) (xs (Int32.toNatClampNeg (v3 + (3 : Int32)))) (xs (Int32.toNatClampNeg (v3 + (4 : Int32)))) (xs (Int32.toNatClampNeg (v3 + (5 : Int32)))) x134 S) fun r136 S137 =>
  gd_ (inb (v3 + (1 : Int32)) L) <|
  gd_ (inb (v3 + (2 : Int32)) L) <|
  gd_ (inb (v3 + (3 : Int32)) L) <|
  gd_ (inb (v3 + (4 : Int32)) L) <|
  gd_ (inb (v3 + (5 : Int32)) L) <|
  gd_ (inb (v3 + (6 : Int32)) L) <|
  lt_ (if (xs (Int32.toNatClampNeg (v3 + (6 : Int32)))) = 0 then (0 : Int32) else (1 : Int32)) fun x144 =>
  bd_ (f_X11_call (xs (Int32.toNatClampNeg (v3 + (1 : Int32)))) (xs (Int32.toNatClampNeg (v3 + (2 : Int32)))) (xs (Int32.toNatClampNeg (v3 + (3 : Int32)))) (xs (Int32.toNatClampNeg (v3 + (4 : Int32)))) (xs (Int32.toNatClampNeg (v3 + (5 : Int32)))) x144 S137) fun r146 S147 =>
  if r136 = r146 then
    J S147
  else
    some (0 : Int32)
def f_law_c14 (xs : Nat → Int32) (L : Nat) (v3 : Int32) (J : St → Option Int32) (S : St) : Option Int32 :=
  gd_ (inb (v3 + (1 : Int32)) L) <|
  bd_ (f_X10_run (xs (Int32.toNatClampNeg (v3 + (1 : Int32)))) S) fun r150 S151 =>
  gd_ (inb (v3 + (1 : Int32)) L) <|
  bd_ (f_X11_run (xs (Int32.toNatClampNeg (v3 + (1 : Int32)))) S151) fun r153 S154 =>
  if r150 = r153 then
    J S154
  else
    some (0 : Int32)
def f_law_c15 (xs : Nat → Int32) (L : Nat) (v3 : Int32) (J : St → Option Int32) (S : St) : Option Int32 :=
  gd_ (inb (v3 + (1 : Int32)) L) <|
  gd_ (inb (v3 + (2 : Int32)) L) <|
  bd_ (f_X10_heard (xs (Int32.toNatClampNeg (v3 + (1 : Int32)))) (xs (Int32.toNatClampNeg (v3 + (2 : Int32)))) S) fun r158 S159 =>
  gd_ (inb (v3 + (1 : Int32)) L) <|
  gd_ (inb (v3 + (2 : Int32)) L) <|
  bd_ (f_X11_heard (xs (Int32.toNatClampNeg (v3 + (1 : Int32)))) (xs (Int32.toNatClampNeg (v3 + (2 : Int32)))) S159) fun r162 S163 =>
  if r158 = r162 then
    J S163
  else
    some (0 : Int32)
def f_law_c16 (xs : Nat → Int32) (L : Nat) (v3 : Int32) (J : St → Option Int32) (S : St) : Option Int32 :=
  gd_ (inb (v3 + (1 : Int32)) L) <|
  bd_ (f_X10_speaks (xs (Int32.toNatClampNeg (v3 + (1 : Int32)))) S) fun r166 S167 =>
  gd_ (inb (v3 + (1 : Int32)) L) <|
  bd_ (f_X11_speaks (xs (Int32.toNatClampNeg (v3 + (1 : Int32)))) S167) fun r169 S170 =>
  if r166 = r169 then
    J S170
  else
    some (0 : Int32)
def f_law_c17 (xs : Nat → Int32) (L : Nat) (v3 : Int32) (J : St → Option Int32) (S : St) : Option Int32 :=
  gd_ (inb (v3 + (1 : Int32)) L) <|
  gd_ (inb (v3 + (2 : Int32)) L) <|
  bd_ (f_X10_voice (xs (Int32.toNatClampNeg (v3 + (1 : Int32)))) (xs (Int32.toNatClampNeg (v3 + (2 : Int32)))) S) fun r174 S175 =>
  gd_ (inb (v3 + (1 : Int32)) L) <|
  gd_ (inb (v3 + (2 : Int32)) L) <|
  bd_ (f_X11_voice (xs (Int32.toNatClampNeg (v3 + (1 : Int32)))) (xs (Int32.toNatClampNeg (v3 + (2 : Int32)))) S175) fun r178 S179 =>
  if r174 = r178 then
    J S179
  else
    some (0 : Int32)
def f_law_c18 (xs : Nat → Int32) (L : Nat) (v3 : Int32) (J : St → Option Int32) (S : St) : Option Int32 :=
  gd_ (inb (v3 + (1 : Int32)) L) <|
  gd_ (inb (v3 + (2 : Int32)) L) <|
  gd_ (inb (v3 + (3 : Int32)) L) <|
  bd_ (f_X10_wish (xs (Int32.toNatClampNeg (v3 + (1 : Int32)))) (xs (Int32.toNatClampNeg (v3 + (2 : Int32)))) (xs (Int32.toNatClampNeg (v3 + (3 : Int32)))) S) fun r184 S185 =>
  gd_ (inb (v3 + (1 : Int32)) L) <|
  gd_ (inb (v3 + (2 : Int32)) L) <|
  gd_ (inb (v3 + (3 : Int32)) L) <|
  bd_ (f_X11_wish (xs (Int32.toNatClampNeg (v3 + (1 : Int32)))) (xs (Int32.toNatClampNeg (v3 + (2 : Int32)))) (xs (Int32.toNatClampNeg (v3 + (3 : Int32)))) S185) fun r189 S190 =>
  if r184 = r189 then
    J S190
  else
    some (0 : Int32)
def f_law_c19 (xs : Nat → Int32) (L : Nat) (v3 : Int32) (J : St → Option Int32) (S : St) : Option Int32 :=
  gd_ (inb (v3 + (1 : Int32)) L) <|
  bd_ (f_X10_change (xs (Int32.toNatClampNeg (v3 + (1 : Int32)))) S) fun r193 S194 =>
  gd_ (inb (v3 + (1 : Int32)) L) <|
  bd_ (f_X11_change (xs (Int32.toNatClampNeg (v3 + (1 : Int32)))) S194) fun r196 S197 =>
  if r193 = r196 then
    J S197
  else
    some (0 : Int32)
def f_law_c20 (xs : Nat → Int32) (L : Nat) (v3 : Int32) (J : St → Option Int32) (S : St) : Option Int32 :=
  bd_ (f_X10_record  S) fun r199 S200 =>
  bd_ (f_X11_record  S200) fun r201 S202 =>
  if r199 = r201 then
    J S202
  else
    some (0 : Int32)
def f_law_c21 (xs : Nat → Int32) (L : Nat) (v3 : Int32) (J : St → Option Int32) (S : St) : Option Int32 :=
  gd_ (inb (v3 + (1 : Int32)) L) <|
  gd_ (inb (v3 + (2 : Int32)) L) <|
  bd_ (f_X10_crowd (xs (Int32.toNatClampNeg (v3 + (1 : Int32)))) (xs (Int32.toNatClampNeg (v3 + (2 : Int32)))) S) fun r206 S207 =>
  gd_ (inb (v3 + (1 : Int32)) L) <|
  gd_ (inb (v3 + (2 : Int32)) L) <|
  bd_ (f_X11_crowd (xs (Int32.toNatClampNeg (v3 + (1 : Int32)))) (xs (Int32.toNatClampNeg (v3 + (2 : Int32)))) S207) fun r210 S211 =>
  if r206 = r210 then
    J S211
  else
    some (0 : Int32)
def f_law_c22 (xs : Nat → Int32) (L : Nat) (v3 : Int32) (J : St → Option Int32) (S : St) : Option Int32 :=
  gd_ (inb (v3 + (1 : Int32)) L) <|
  gd_ (inb (v3 + (2 : Int32)) L) <|
  bd_ (f_X10_understood (xs (Int32.toNatClampNeg (v3 + (1 : Int32)))) (xs (Int32.toNatClampNeg (v3 + (2 : Int32)))) S) fun r215 S216 =>
  gd_ (inb (v3 + (1 : Int32)) L) <|
  gd_ (inb (v3 + (2 : Int32)) L) <|
  bd_ (f_X11_understood (xs (Int32.toNatClampNeg (v3 + (1 : Int32)))) (xs (Int32.toNatClampNeg (v3 + (2 : Int32)))) S216) fun r219 S220 =>
  if r215 = r219 then
    J S220
  else
    some (0 : Int32)
def f_law_c23 (xs : Nat → Int32) (L : Nat) (v3 : Int32) (J : St → Option Int32) (S : St) : Option Int32 :=
  gd_ (inb (v3 + (1 : Int32)) L) <|
  gd_ (inb (v3 + (2 : Int32)) L) <|
  bd_ (f_X10_power (xs (Int32.toNatClampNeg (v3 + (1 : Int32)))) (xs (Int32.toNatClampNeg (v3 + (2 : Int32)))) S) fun r224 S225 =>
  gd_ (inb (v3 + (1 : Int32)) L) <|
  gd_ (inb (v3 + (2 : Int32)) L) <|
  bd_ (f_X11_power (xs (Int32.toNatClampNeg (v3 + (1 : Int32)))) (xs (Int32.toNatClampNeg (v3 + (2 : Int32)))) S225) fun r228 S229 =>
  if r224 = r228 then
    J S229
  else
    some (0 : Int32)
def f_law_c24 (xs : Nat → Int32) (L : Nat) (v3 : Int32) (J : St → Option Int32) (S : St) : Option Int32 :=
  gd_ (inb (v3 + (1 : Int32)) L) <|
  bd_ (f_X10_count (xs (Int32.toNatClampNeg (v3 + (1 : Int32)))) S) fun r232 S233 =>
  gd_ (inb (v3 + (1 : Int32)) L) <|
  bd_ (f_X11_count (xs (Int32.toNatClampNeg (v3 + (1 : Int32)))) S233) fun r235 S236 =>
  if r232 = r235 then
    J S236
  else
    some (0 : Int32)
def f_law_L (xs : Nat → Int32) (L : Nat) : Nat → Int32 → St → Option Int32
  | 0, _, _ => none
  | f + 1, v3, S =>
    if (nI L - (7 : Int32)) < v3 then some (1 : Int32)
    else
      gd_ (inb v3 L) <|
      lt_ (fun (S : St) => lt_ (v3 + (7 : Int32)) fun x => f_law_L xs L f x S) fun J =>
      if (xs (Int32.toNatClampNeg v3) &&& (31 : Int32)) = (0 : Int32) then f_law_c0 xs L v3 J S else
      if (xs (Int32.toNatClampNeg v3) &&& (31 : Int32)) = (1 : Int32) then f_law_c1 xs L v3 J S else
      if (xs (Int32.toNatClampNeg v3) &&& (31 : Int32)) = (2 : Int32) then f_law_c2 xs L v3 J S else
      if (xs (Int32.toNatClampNeg v3) &&& (31 : Int32)) = (3 : Int32) then f_law_c3 xs L v3 J S else
      if (xs (Int32.toNatClampNeg v3) &&& (31 : Int32)) = (4 : Int32) then f_law_c4 xs L v3 J S else
      if (xs (Int32.toNatClampNeg v3) &&& (31 : Int32)) = (5 : Int32) then f_law_c5 xs L v3 J S else
      if (xs (Int32.toNatClampNeg v3) &&& (31 : Int32)) = (6 : Int32) then f_law_c6 xs L v3 J S else
      if (xs (Int32.toNatClampNeg v3) &&& (31 : Int32)) = (7 : Int32) then f_law_c7 xs L v3 J S else
      if (xs (Int32.toNatClampNeg v3) &&& (31 : Int32)) = (8 : Int32) then f_law_c8 xs L v3 J S else
      if (xs (Int32.toNatClampNeg v3) &&& (31 : Int32)) = (9 : Int32) then f_law_c9 xs L v3 J S else
      if (xs (Int32.toNatClampNeg v3) &&& (31 : Int32)) = (10 : Int32) then f_law_c10 xs L v3 J S else
      if (xs (Int32.toNatClampNeg v3) &&& (31 : Int32)) = (11 : Int32) then f_law_c11 xs L v3 J S else
      if (xs (Int32.toNatClampNeg v3) &&& (31 : Int32)) = (12 : Int32) then f_law_c12 xs L v3 J S else
      if (xs (Int32.toNatClampNeg v3) &&& (31 : Int32)) = (13 : Int32) then f_law_c13 xs L v3 J S else
      if (xs (Int32.toNatClampNeg v3) &&& (31 : Int32)) = (14 : Int32) then f_law_c14 xs L v3 J S else
      if (xs (Int32.toNatClampNeg v3) &&& (31 : Int32)) = (15 : Int32) then f_law_c15 xs L v3 J S else
      if (xs (Int32.toNatClampNeg v3) &&& (31 : Int32)) = (16 : Int32) then f_law_c16 xs L v3 J S else
      if (xs (Int32.toNatClampNeg v3) &&& (31 : Int32)) = (17 : Int32) then f_law_c17 xs L v3 J S else
      if (xs (Int32.toNatClampNeg v3) &&& (31 : Int32)) = (18 : Int32) then f_law_c18 xs L v3 J S else
      if (xs (Int32.toNatClampNeg v3) &&& (31 : Int32)) = (19 : Int32) then f_law_c19 xs L v3 J S else
      if (xs (Int32.toNatClampNeg v3) &&& (31 : Int32)) = (20 : Int32) then f_law_c20 xs L v3 J S else
      if (xs (Int32.toNatClampNeg v3) &&& (31 : Int32)) = (21 : Int32) then f_law_c21 xs L v3 J S else
      if (xs (Int32.toNatClampNeg v3) &&& (31 : Int32)) = (22 : Int32) then f_law_c22 xs L v3 J S else
      if (xs (Int32.toNatClampNeg v3) &&& (31 : Int32)) = (23 : Int32) then f_law_c23 xs L v3 J S else
      if (xs (Int32.toNatClampNeg v3) &&& (31 : Int32)) = (24 : Int32) then f_law_c24 xs L v3 J S else
      J S
set_option maxHeartbeats 4000000 in
set_option maxRecDepth 100000 in
theorem w_law_c0 {p : Program} {l : Launch} {e : Env} {s : State} {m : MethodId} {below : List Frame} {meth : Method} {c : Code} {E : En} {b L : Nat} {xs : Nat → Int32} (C : Cx p s m #[Value.ref b] meth c RL cL_law 4 (some .boolean) E) (hKc : Kc E s) (hX : va_X b L xs s s.heap) (hbl : b < s.heap.size) (hbA : ¬ E.2.2.1 b) {v3 : Int32} {J : St → Option Int32} {c0 s0 : Nat} (hcs : c0 + 2 ≤ 600000 ∧ s0 + 29 ≤ 7302249) (hJ : ∀ (S : St) (α : Nat → Nat) (H : Heap) (locs : List Loc) (ls : Array Slot) (ce sl : Nat), Rp E α (nP S, nC S) S H → va_S E.2.2.1 s.heap H locs → lv_has ls 4 [(0, .ref b), (1, .ref (α 0)), (2, .ref (α 54)), (3, .int v3)] → ce ≤ c0 + 2 → sl ≤ s0 + 29 → J S = some 1 → W p l e room_1 s m #[Value.ref b] below meth c H locs ce sl (lw_Z below #[Value.ref b] s) (F0 m 1091 ls [])) {S : St} {α : Nat → Nat} {g : Nat × Nat} (hg : g.1 = nP S ∧ g.2 = nC S) {H : Heap} {locs : List Loc} {ls : Array Slot} (hR : Rp E α g S H) (hS : va_S E.2.2.1 s.heap H locs) (hl : lv_has ls 4 [(0, .ref b), (1, .ref (α 0)), (2, .ref (α 54)), (3, .int v3)]) (h : f_law_c0 xs L v3 J S = some 1) : W p l e room_1 s m #[Value.ref b] below meth c H locs c0 s0 (lw_Z below #[Value.ref b] s) (F0 m 148 ls []) := by
  obtain ⟨hx, hb, hml, hown, hts, hlk, hrt, hKs⟩ := id C
  unfold f_law_c0 at h
  refine lv_aload_n hx hb dL_law_148 rfl (lv_at hl 1 rfl) ?_
  refine lv_aload_n hx hb dL_law_149 rfl (lv_at hl 0 rfl) ?_
  refine lv_iload_n hx hb dL_law_150 rfl (lv_at hl 3 rfl) ?_
  refine lv_iconst (v := 1) hx hb dL_law_151 (by decide) ?_
  refine lv_iadd hx hb dL_law_152 ?_
  obtain ⟨g1, h⟩ := gd_e h
  refine va_sld hx hb hX hbl hbA hS g1 dL_law_153 ?_
  refine lv_aload_n hx hb dL_law_154 rfl (lv_at hl 0 rfl) ?_
  refine lv_iload_n hx hb dL_law_155 rfl (lv_at hl 3 rfl) ?_
  refine lv_iconst (v := 2) hx hb dL_law_156 (by decide) ?_
  refine lv_iadd hx hb dL_law_157 ?_
  obtain ⟨g2, h⟩ := gd_e h
  refine va_sld hx hb hX hbl hbA hS g2 dL_law_158 ?_
  refine lv_aload_n hx hb dL_law_159 rfl (lv_at hl 0 rfl) ?_
  refine lv_iload_n hx hb dL_law_160 rfl (lv_at hl 3 rfl) ?_
  refine lv_iconst (v := 3) hx hb dL_law_161 (by decide) ?_
  refine lv_iadd hx hb dL_law_162 ?_
  obtain ⟨g3, h⟩ := gd_e h
  refine va_sld hx hb hX hbl hbA hS g3 dL_law_163 ?_
  refine lv_aload_n hx hb dL_law_164 rfl (lv_at hl 0 rfl) ?_
  refine lv_iload_n hx hb dL_law_165 rfl (lv_at hl 3 rfl) ?_
  refine lv_iconst (v := 4) hx hb dL_law_166 (by decide) ?_
  refine lv_iadd hx hb dL_law_167 ?_
  obtain ⟨g4, h⟩ := gd_e h
  refine va_sld hx hb hX hbl hbA hS g4 dL_law_168 ?_
  refine lv_aload_n hx hb dL_law_169 rfl (lv_at hl 0 rfl) ?_
  refine lv_iload_n hx hb dL_law_170 rfl (lv_at hl 3 rfl) ?_
  refine lv_iconst (v := 5) hx hb dL_law_171 (by decide) ?_
  refine lv_iadd hx hb dL_law_172 ?_
  obtain ⟨g5, h⟩ := gd_e h
  refine va_sld hx hb hX hbl hbA hS g5 dL_law_173 ?_
  obtain ⟨r6, S7, hr6, h⟩ := bd_e h
  refine g_ca hS (g_runA C hKc hR hS (k := 0) (As := [.int (xs (Int32.toNatClampNeg (v3 + (1 : Int32)))), .int (xs (Int32.toNatClampNeg (v3 + (2 : Int32)))), .int (xs (Int32.toNatClampNeg (v3 + (3 : Int32)))), .int (xs (Int32.toNatClampNeg (v3 + (4 : Int32)))), .int (xs (Int32.toNatClampNeg (v3 + (5 : Int32))))]) (rest := []) (c_X10_piece l hg hr6) (live_st (by decide)) rfl vw10 m_X10_piece q370 ⟨rfl, rfl⟩ ⟨Nat.le_of_ble_eq_true rfl, Nat.le_of_ble_eq_true rfl⟩ rfl hl.1 rfl (Nat.le_of_ble_eq_true rfl) dL_law_174 (by show _ + 2 ≤ 600000 ∧ _ + 14 ≤ 7302249; omega)) (fun α2 g2 H locs hal hR hS => ?_)
  have hl : lv_has ls 4 [(0, .ref b), (1, .ref (α2 0)), (2, .ref (α2 54)), (3, .int v3)] := by rw [(hal 0 (live_st (by decide))).2, (hal 54 (live_st (by decide))).2]; exact hl
  refine lv_aload_n hx hb dL_law_177 rfl (lv_at hl 2 rfl) ?_
  refine lv_aload_n hx hb dL_law_178 rfl (lv_at hl 0 rfl) ?_
  refine lv_iload_n hx hb dL_law_179 rfl (lv_at hl 3 rfl) ?_
  refine lv_iconst (v := 1) hx hb dL_law_180 (by decide) ?_
  refine lv_iadd hx hb dL_law_181 ?_
  obtain ⟨g8, h⟩ := gd_e h
  refine va_sld hx hb hX hbl hbA hS g8 dL_law_182 ?_
  refine lv_aload_n hx hb dL_law_183 rfl (lv_at hl 0 rfl) ?_
  refine lv_iload_n hx hb dL_law_184 rfl (lv_at hl 3 rfl) ?_
  refine lv_iconst (v := 2) hx hb dL_law_185 (by decide) ?_
  refine lv_iadd hx hb dL_law_186 ?_
  obtain ⟨g9, h⟩ := gd_e h
  refine va_sld hx hb hX hbl hbA hS g9 dL_law_187 ?_
  refine lv_aload_n hx hb dL_law_188 rfl (lv_at hl 0 rfl) ?_
  refine lv_iload_n hx hb dL_law_189 rfl (lv_at hl 3 rfl) ?_
  refine lv_iconst (v := 3) hx hb dL_law_190 (by decide) ?_
  refine lv_iadd hx hb dL_law_191 ?_
  obtain ⟨g10, h⟩ := gd_e h
  refine va_sld hx hb hX hbl hbA hS g10 dL_law_192 ?_
  refine lv_aload_n hx hb dL_law_193 rfl (lv_at hl 0 rfl) ?_
  refine lv_iload_n hx hb dL_law_194 rfl (lv_at hl 3 rfl) ?_
  refine lv_iconst (v := 4) hx hb dL_law_195 (by decide) ?_
  refine lv_iadd hx hb dL_law_196 ?_
  obtain ⟨g11, h⟩ := gd_e h
  refine va_sld hx hb hX hbl hbA hS g11 dL_law_197 ?_
  refine lv_aload_n hx hb dL_law_198 rfl (lv_at hl 0 rfl) ?_
  refine lv_iload_n hx hb dL_law_199 rfl (lv_at hl 3 rfl) ?_
  refine lv_iconst (v := 5) hx hb dL_law_200 (by decide) ?_
  refine lv_iadd hx hb dL_law_201 ?_
  obtain ⟨g12, h⟩ := gd_e h
  refine va_sld hx hb hX hbl hbA hS g12 dL_law_202 ?_
  obtain ⟨r13, S14, hr13, h⟩ := bd_e h
  refine g_ci hS (g_runV C hR hS (k := 54) (As := [.int (xs (Int32.toNatClampNeg (v3 + (1 : Int32)))), .int (xs (Int32.toNatClampNeg (v3 + (2 : Int32)))), .int (xs (Int32.toNatClampNeg (v3 + (3 : Int32)))), .int (xs (Int32.toNatClampNeg (v3 + (4 : Int32)))), .int (xs (Int32.toNatClampNeg (v3 + (5 : Int32))))]) (rest := [.int r6]) (c_X11_piece l hr13) (live_st (by decide)) rfl vw11 m_X11_piece q1089 ⟨rfl, rfl⟩ ⟨Nat.le_of_ble_eq_true rfl, Nat.le_of_ble_eq_true rfl⟩ rfl hl.1 rfl (Nat.le_of_ble_eq_true rfl) dL_law_203 (by show _ ≤ 600000 ∧ _ ≤ 7302249; omega)) (fun H locs hR hS => ?_)
  refine lv_icmp_eq (tgt := 1091) hx hb dL_law_206 (by decide) (fun c15 => ?_) (fun c15 => ?_)
  · have h := ite_t c15 h
    exact hJ _ _ _ _ _ _ _ hR.norm hS hl (by omega) (by omega) h
  · have h := ite_f c15 h
    exact absurd (Option.some.inj h) (by decide)
set_option maxHeartbeats 4000000 in
set_option maxRecDepth 100000 in
theorem w_law_c1 {p : Program} {l : Launch} {e : Env} {s : State} {m : MethodId} {below : List Frame} {meth : Method} {c : Code} {E : En} {b L : Nat} {xs : Nat → Int32} (C : Cx p s m #[Value.ref b] meth c RL cL_law 4 (some .boolean) E) (hKc : Kc E s) (hX : va_X b L xs s s.heap) (hbl : b < s.heap.size) (hbA : ¬ E.2.2.1 b) {v3 : Int32} {J : St → Option Int32} {c0 s0 : Nat} (hcs : c0 + 2 ≤ 600000 ∧ s0 + 29 ≤ 7302249) (hJ : ∀ (S : St) (α : Nat → Nat) (H : Heap) (locs : List Loc) (ls : Array Slot) (ce sl : Nat), Rp E α (nP S, nC S) S H → va_S E.2.2.1 s.heap H locs → lv_has ls 4 [(0, .ref b), (1, .ref (α 0)), (2, .ref (α 54)), (3, .int v3)] → ce ≤ c0 + 2 → sl ≤ s0 + 29 → J S = some 1 → W p l e room_1 s m #[Value.ref b] below meth c H locs ce sl (lw_Z below #[Value.ref b] s) (F0 m 1091 ls [])) {S : St} {α : Nat → Nat} {g : Nat × Nat} (hg : g.1 = nP S ∧ g.2 = nC S) {H : Heap} {locs : List Loc} {ls : Array Slot} (hR : Rp E α g S H) (hS : va_S E.2.2.1 s.heap H locs) (hl : lv_has ls 4 [(0, .ref b), (1, .ref (α 0)), (2, .ref (α 54)), (3, .int v3)]) (h : f_law_c1 xs L v3 J S = some 1) : W p l e room_1 s m #[Value.ref b] below meth c H locs c0 s0 (lw_Z below #[Value.ref b] s) (F0 m 211 ls []) := by
  obtain ⟨hx, hb, hml, hown, hts, hlk, hrt, hKs⟩ := id C
  unfold f_law_c1 at h
  refine lv_aload_n hx hb dL_law_211 rfl (lv_at hl 1 rfl) ?_
  refine lv_aload_n hx hb dL_law_212 rfl (lv_at hl 0 rfl) ?_
  refine lv_iload_n hx hb dL_law_213 rfl (lv_at hl 3 rfl) ?_
  refine lv_iconst (v := 1) hx hb dL_law_214 (by decide) ?_
  refine lv_iadd hx hb dL_law_215 ?_
  obtain ⟨g16, h⟩ := gd_e h
  refine va_sld hx hb hX hbl hbA hS g16 dL_law_216 ?_
  refine lv_aload_n hx hb dL_law_217 rfl (lv_at hl 0 rfl) ?_
  refine lv_iload_n hx hb dL_law_218 rfl (lv_at hl 3 rfl) ?_
  refine lv_iconst (v := 2) hx hb dL_law_219 (by decide) ?_
  refine lv_iadd hx hb dL_law_220 ?_
  obtain ⟨g17, h⟩ := gd_e h
  refine va_sld hx hb hX hbl hbA hS g17 dL_law_221 ?_
  obtain ⟨r18, S19, hr18, h⟩ := bd_e h
  refine g_ci hS (g_runV C hR hS (k := 0) (As := [.int (xs (Int32.toNatClampNeg (v3 + (1 : Int32)))), .int (xs (Int32.toNatClampNeg (v3 + (2 : Int32))))]) (rest := []) (c_X10_worn l hr18) (live_st (by decide)) rfl vw10 m_X10_worn q424 ⟨rfl, rfl⟩ ⟨Nat.le_of_ble_eq_true rfl, Nat.le_of_ble_eq_true rfl⟩ rfl hl.1 rfl (Nat.le_of_ble_eq_true rfl) dL_law_222 (by show _ ≤ 600000 ∧ _ ≤ 7302249; omega)) (fun H locs hR hS => ?_)
  refine lv_aload_n hx hb dL_law_225 rfl (lv_at hl 2 rfl) ?_
  refine lv_aload_n hx hb dL_law_226 rfl (lv_at hl 0 rfl) ?_
  refine lv_iload_n hx hb dL_law_227 rfl (lv_at hl 3 rfl) ?_
  refine lv_iconst (v := 1) hx hb dL_law_228 (by decide) ?_
  refine lv_iadd hx hb dL_law_229 ?_
  obtain ⟨g20, h⟩ := gd_e h
  refine va_sld hx hb hX hbl hbA hS g20 dL_law_230 ?_
  refine lv_aload_n hx hb dL_law_231 rfl (lv_at hl 0 rfl) ?_
  refine lv_iload_n hx hb dL_law_232 rfl (lv_at hl 3 rfl) ?_
  refine lv_iconst (v := 2) hx hb dL_law_233 (by decide) ?_
  refine lv_iadd hx hb dL_law_234 ?_
  obtain ⟨g21, h⟩ := gd_e h
  refine va_sld hx hb hX hbl hbA hS g21 dL_law_235 ?_
  obtain ⟨r22, S23, hr22, h⟩ := bd_e h
  refine g_ci hS (g_runV C hR hS (k := 54) (As := [.int (xs (Int32.toNatClampNeg (v3 + (1 : Int32)))), .int (xs (Int32.toNatClampNeg (v3 + (2 : Int32))))]) (rest := [.int r18]) (c_X11_worn l hr22) (live_st (by decide)) rfl vw11 m_X11_worn q1096 ⟨rfl, rfl⟩ ⟨Nat.le_of_ble_eq_true rfl, Nat.le_of_ble_eq_true rfl⟩ rfl hl.1 rfl (Nat.le_of_ble_eq_true rfl) dL_law_236 (by show _ ≤ 600000 ∧ _ ≤ 7302249; omega)) (fun H locs hR hS => ?_)
  refine lv_icmp_eq (tgt := 1091) hx hb dL_law_239 (by decide) (fun c24 => ?_) (fun c24 => ?_)
  · have h := ite_t c24 h
    exact hJ _ _ _ _ _ _ _ hR.norm hS hl (by omega) (by omega) h
  · have h := ite_f c24 h
    exact absurd (Option.some.inj h) (by decide)
set_option maxHeartbeats 4000000 in
set_option maxRecDepth 100000 in
theorem w_law_c2 {p : Program} {l : Launch} {e : Env} {s : State} {m : MethodId} {below : List Frame} {meth : Method} {c : Code} {E : En} {b L : Nat} {xs : Nat → Int32} (C : Cx p s m #[Value.ref b] meth c RL cL_law 4 (some .boolean) E) (hKc : Kc E s) (hX : va_X b L xs s s.heap) (hbl : b < s.heap.size) (hbA : ¬ E.2.2.1 b) {v3 : Int32} {J : St → Option Int32} {c0 s0 : Nat} (hcs : c0 + 2 ≤ 600000 ∧ s0 + 29 ≤ 7302249) (hJ : ∀ (S : St) (α : Nat → Nat) (H : Heap) (locs : List Loc) (ls : Array Slot) (ce sl : Nat), Rp E α (nP S, nC S) S H → va_S E.2.2.1 s.heap H locs → lv_has ls 4 [(0, .ref b), (1, .ref (α 0)), (2, .ref (α 54)), (3, .int v3)] → ce ≤ c0 + 2 → sl ≤ s0 + 29 → J S = some 1 → W p l e room_1 s m #[Value.ref b] below meth c H locs ce sl (lw_Z below #[Value.ref b] s) (F0 m 1091 ls [])) {S : St} {α : Nat → Nat} {g : Nat × Nat} (hg : g.1 = nP S ∧ g.2 = nC S) {H : Heap} {locs : List Loc} {ls : Array Slot} (hR : Rp E α g S H) (hS : va_S E.2.2.1 s.heap H locs) (hl : lv_has ls 4 [(0, .ref b), (1, .ref (α 0)), (2, .ref (α 54)), (3, .int v3)]) (h : f_law_c2 xs L v3 J S = some 1) : W p l e room_1 s m #[Value.ref b] below meth c H locs c0 s0 (lw_Z below #[Value.ref b] s) (F0 m 244 ls []) := by
  obtain ⟨hx, hb, hml, hown, hts, hlk, hrt, hKs⟩ := id C
  unfold f_law_c2 at h
  refine lv_aload_n hx hb dL_law_244 rfl (lv_at hl 1 rfl) ?_
  refine lv_aload_n hx hb dL_law_245 rfl (lv_at hl 0 rfl) ?_
  refine lv_iload_n hx hb dL_law_246 rfl (lv_at hl 3 rfl) ?_
  refine lv_iconst (v := 1) hx hb dL_law_247 (by decide) ?_
  refine lv_iadd hx hb dL_law_248 ?_
  obtain ⟨g25, h⟩ := gd_e h
  refine va_sld hx hb hX hbl hbA hS g25 dL_law_249 ?_
  refine lv_aload_n hx hb dL_law_250 rfl (lv_at hl 0 rfl) ?_
  refine lv_iload_n hx hb dL_law_251 rfl (lv_at hl 3 rfl) ?_
  refine lv_iconst (v := 2) hx hb dL_law_252 (by decide) ?_
  refine lv_iadd hx hb dL_law_253 ?_
  obtain ⟨g26, h⟩ := gd_e h
  refine va_sld hx hb hX hbl hbA hS g26 dL_law_254 ?_
  refine lv_aload_n hx hb dL_law_255 rfl (lv_at hl 0 rfl) ?_
  refine lv_iload_n hx hb dL_law_256 rfl (lv_at hl 3 rfl) ?_
  refine lv_iconst (v := 3) hx hb dL_law_257 (by decide) ?_
  refine lv_iadd hx hb dL_law_258 ?_
  obtain ⟨g27, h⟩ := gd_e h
  refine va_sld hx hb hX hbl hbA hS g27 dL_law_259 ?_
  obtain ⟨r28, S29, hr28, h⟩ := bd_e h
  refine g_ci hS (g_runV C hR hS (k := 0) (As := [.int (xs (Int32.toNatClampNeg (v3 + (1 : Int32)))), .int (xs (Int32.toNatClampNeg (v3 + (2 : Int32)))), .int (xs (Int32.toNatClampNeg (v3 + (3 : Int32))))]) (rest := []) (c_X10_of l hr28) (live_st (by decide)) rfl vw10 m_X10_of q432 ⟨rfl, rfl⟩ ⟨Nat.le_of_ble_eq_true rfl, Nat.le_of_ble_eq_true rfl⟩ rfl hl.1 rfl (Nat.le_of_ble_eq_true rfl) dL_law_260 (by show _ ≤ 600000 ∧ _ ≤ 7302249; omega)) (fun H locs hR hS => ?_)
  refine lv_aload_n hx hb dL_law_263 rfl (lv_at hl 2 rfl) ?_
  refine lv_aload_n hx hb dL_law_264 rfl (lv_at hl 0 rfl) ?_
  refine lv_iload_n hx hb dL_law_265 rfl (lv_at hl 3 rfl) ?_
  refine lv_iconst (v := 1) hx hb dL_law_266 (by decide) ?_
  refine lv_iadd hx hb dL_law_267 ?_
  obtain ⟨g30, h⟩ := gd_e h
  refine va_sld hx hb hX hbl hbA hS g30 dL_law_268 ?_
  refine lv_aload_n hx hb dL_law_269 rfl (lv_at hl 0 rfl) ?_
  refine lv_iload_n hx hb dL_law_270 rfl (lv_at hl 3 rfl) ?_
  refine lv_iconst (v := 2) hx hb dL_law_271 (by decide) ?_
  refine lv_iadd hx hb dL_law_272 ?_
  obtain ⟨g31, h⟩ := gd_e h
  refine va_sld hx hb hX hbl hbA hS g31 dL_law_273 ?_
  refine lv_aload_n hx hb dL_law_274 rfl (lv_at hl 0 rfl) ?_
  refine lv_iload_n hx hb dL_law_275 rfl (lv_at hl 3 rfl) ?_
  refine lv_iconst (v := 3) hx hb dL_law_276 (by decide) ?_
  refine lv_iadd hx hb dL_law_277 ?_
  obtain ⟨g32, h⟩ := gd_e h
  refine va_sld hx hb hX hbl hbA hS g32 dL_law_278 ?_
  obtain ⟨r33, S34, hr33, h⟩ := bd_e h
  refine g_ci hS (g_runV C hR hS (k := 54) (As := [.int (xs (Int32.toNatClampNeg (v3 + (1 : Int32)))), .int (xs (Int32.toNatClampNeg (v3 + (2 : Int32)))), .int (xs (Int32.toNatClampNeg (v3 + (3 : Int32))))]) (rest := [.int r28]) (c_X11_of l hr33) (live_st (by decide)) rfl vw11 m_X11_of q1104 ⟨rfl, rfl⟩ ⟨Nat.le_of_ble_eq_true rfl, Nat.le_of_ble_eq_true rfl⟩ rfl hl.1 rfl (Nat.le_of_ble_eq_true rfl) dL_law_279 (by show _ ≤ 600000 ∧ _ ≤ 7302249; omega)) (fun H locs hR hS => ?_)
  refine lv_icmp_eq (tgt := 1091) hx hb dL_law_282 (by decide) (fun c35 => ?_) (fun c35 => ?_)
  · have h := ite_t c35 h
    exact hJ _ _ _ _ _ _ _ hR.norm hS hl (by omega) (by omega) h
  · have h := ite_f c35 h
    exact absurd (Option.some.inj h) (by decide)
set_option maxHeartbeats 4000000 in
set_option maxRecDepth 100000 in
theorem w_law_c3 {p : Program} {l : Launch} {e : Env} {s : State} {m : MethodId} {below : List Frame} {meth : Method} {c : Code} {E : En} {b L : Nat} {xs : Nat → Int32} (C : Cx p s m #[Value.ref b] meth c RL cL_law 4 (some .boolean) E) (hKc : Kc E s) (hX : va_X b L xs s s.heap) (hbl : b < s.heap.size) (hbA : ¬ E.2.2.1 b) {v3 : Int32} {J : St → Option Int32} {c0 s0 : Nat} (hcs : c0 + 2 ≤ 600000 ∧ s0 + 29 ≤ 7302249) (hJ : ∀ (S : St) (α : Nat → Nat) (H : Heap) (locs : List Loc) (ls : Array Slot) (ce sl : Nat), Rp E α (nP S, nC S) S H → va_S E.2.2.1 s.heap H locs → lv_has ls 4 [(0, .ref b), (1, .ref (α 0)), (2, .ref (α 54)), (3, .int v3)] → ce ≤ c0 + 2 → sl ≤ s0 + 29 → J S = some 1 → W p l e room_1 s m #[Value.ref b] below meth c H locs ce sl (lw_Z below #[Value.ref b] s) (F0 m 1091 ls [])) {S : St} {α : Nat → Nat} {g : Nat × Nat} (hg : g.1 = nP S ∧ g.2 = nC S) {H : Heap} {locs : List Loc} {ls : Array Slot} (hR : Rp E α g S H) (hS : va_S E.2.2.1 s.heap H locs) (hl : lv_has ls 4 [(0, .ref b), (1, .ref (α 0)), (2, .ref (α 54)), (3, .int v3)]) (h : f_law_c3 xs L v3 J S = some 1) : W p l e room_1 s m #[Value.ref b] below meth c H locs c0 s0 (lw_Z below #[Value.ref b] s) (F0 m 287 ls []) := by
  obtain ⟨hx, hb, hml, hown, hts, hlk, hrt, hKs⟩ := id C
  unfold f_law_c3 at h
  refine lv_aload_n hx hb dL_law_287 rfl (lv_at hl 1 rfl) ?_
  obtain ⟨r36, S37, hr36, h⟩ := bd_e h
  refine g_ci hS (g_runV C hR hS (k := 0) (As := []) (rest := []) (c_X10_lost l hr36) (live_st (by decide)) rfl vw10 m_X10_lost q444 ⟨rfl, rfl⟩ ⟨Nat.le_of_ble_eq_true rfl, Nat.le_of_ble_eq_true rfl⟩ rfl hl.1 rfl (Nat.le_of_ble_eq_true rfl) dL_law_288 (by show _ ≤ 600000 ∧ _ ≤ 7302249; omega)) (fun H locs hR hS => ?_)
  refine lv_aload_n hx hb dL_law_291 rfl (lv_at hl 2 rfl) ?_
  obtain ⟨r38, S39, hr38, h⟩ := bd_e h
  refine g_ci hS (g_runV C hR hS (k := 54) (As := []) (rest := [.int r36]) (c_X11_lost l hr38) (live_st (by decide)) rfl vw11 m_X11_lost q1120 ⟨rfl, rfl⟩ ⟨Nat.le_of_ble_eq_true rfl, Nat.le_of_ble_eq_true rfl⟩ rfl hl.1 rfl (Nat.le_of_ble_eq_true rfl) dL_law_292 (by show _ ≤ 600000 ∧ _ ≤ 7302249; omega)) (fun H locs hR hS => ?_)
  refine lv_icmp_eq (tgt := 1091) hx hb dL_law_295 (by decide) (fun c40 => ?_) (fun c40 => ?_)
  · have h := ite_t c40 h
    exact hJ _ _ _ _ _ _ _ hR.norm hS hl (by omega) (by omega) h
  · have h := ite_f c40 h
    exact absurd (Option.some.inj h) (by decide)
set_option maxHeartbeats 4000000 in
set_option maxRecDepth 100000 in
theorem w_law_c4 {p : Program} {l : Launch} {e : Env} {s : State} {m : MethodId} {below : List Frame} {meth : Method} {c : Code} {E : En} {b L : Nat} {xs : Nat → Int32} (C : Cx p s m #[Value.ref b] meth c RL cL_law 4 (some .boolean) E) (hKc : Kc E s) (hX : va_X b L xs s s.heap) (hbl : b < s.heap.size) (hbA : ¬ E.2.2.1 b) {v3 : Int32} {J : St → Option Int32} {c0 s0 : Nat} (hcs : c0 + 2 ≤ 600000 ∧ s0 + 29 ≤ 7302249) (hJ : ∀ (S : St) (α : Nat → Nat) (H : Heap) (locs : List Loc) (ls : Array Slot) (ce sl : Nat), Rp E α (nP S, nC S) S H → va_S E.2.2.1 s.heap H locs → lv_has ls 4 [(0, .ref b), (1, .ref (α 0)), (2, .ref (α 54)), (3, .int v3)] → ce ≤ c0 + 2 → sl ≤ s0 + 29 → J S = some 1 → W p l e room_1 s m #[Value.ref b] below meth c H locs ce sl (lw_Z below #[Value.ref b] s) (F0 m 1091 ls [])) {S : St} {α : Nat → Nat} {g : Nat × Nat} (hg : g.1 = nP S ∧ g.2 = nC S) {H : Heap} {locs : List Loc} {ls : Array Slot} (hR : Rp E α g S H) (hS : va_S E.2.2.1 s.heap H locs) (hl : lv_has ls 4 [(0, .ref b), (1, .ref (α 0)), (2, .ref (α 54)), (3, .int v3)]) (h : f_law_c4 xs L v3 J S = some 1) : W p l e room_1 s m #[Value.ref b] below meth c H locs c0 s0 (lw_Z below #[Value.ref b] s) (F0 m 300 ls []) := by
  obtain ⟨hx, hb, hml, hown, hts, hlk, hrt, hKs⟩ := id C
  unfold f_law_c4 at h
  refine lv_aload_n hx hb dL_law_300 rfl (lv_at hl 1 rfl) ?_
  refine lv_aload_n hx hb dL_law_301 rfl (lv_at hl 0 rfl) ?_
  refine lv_iload_n hx hb dL_law_302 rfl (lv_at hl 3 rfl) ?_
  refine lv_iconst (v := 1) hx hb dL_law_303 (by decide) ?_
  refine lv_iadd hx hb dL_law_304 ?_
  obtain ⟨g41, h⟩ := gd_e h
  refine va_sld hx hb hX hbl hbA hS g41 dL_law_305 ?_
  refine lv_aload_n hx hb dL_law_306 rfl (lv_at hl 0 rfl) ?_
  refine lv_iload_n hx hb dL_law_307 rfl (lv_at hl 3 rfl) ?_
  refine lv_iconst (v := 2) hx hb dL_law_308 (by decide) ?_
  refine lv_iadd hx hb dL_law_309 ?_
  obtain ⟨g42, h⟩ := gd_e h
  refine va_sld hx hb hX hbl hbA hS g42 dL_law_310 ?_
  refine lv_i2l (v := Int32.toInt64 (xs (Int32.toNatClampNeg (v3 + (2 : Int32))))) hx hb dL_law_311 rfl ?_
  refine lv_bipush (v := 32) hx hb dL_law_312 (by decide) ?_
  refine lv_lshl (v := lshlv (Int32.toInt64 (xs (Int32.toNatClampNeg (v3 + (2 : Int32))))) (32 : Int32)) hx hb dL_law_314 rfl ?_
  refine lv_aload_n hx hb dL_law_315 rfl (lv_at hl 0 rfl) ?_
  refine lv_iload_n hx hb dL_law_316 rfl (lv_at hl 3 rfl) ?_
  refine lv_iconst (v := 3) hx hb dL_law_317 (by decide) ?_
  refine lv_iadd hx hb dL_law_318 ?_
  obtain ⟨g43, h⟩ := gd_e h
  refine va_sld hx hb hX hbl hbA hS g43 dL_law_319 ?_
  refine lv_i2l (v := Int32.toInt64 (xs (Int32.toNatClampNeg (v3 + (3 : Int32))))) hx hb dL_law_320 rfl ?_
  refine lv_ldc2 (v := 4294967295) hx hb hown (hts _ q1366) dL_law_321 ?_
  refine lv_land hx hb dL_law_324 ?_
  refine lv_lor hx hb dL_law_325 ?_
  refine lv_aload_n hx hb dL_law_326 rfl (lv_at hl 0 rfl) ?_
  refine lv_iload_n hx hb dL_law_327 rfl (lv_at hl 3 rfl) ?_
  refine lv_iconst (v := 4) hx hb dL_law_328 (by decide) ?_
  refine lv_iadd hx hb dL_law_329 ?_
  obtain ⟨g44, h⟩ := gd_e h
  refine va_sld hx hb hX hbl hbA hS g44 dL_law_330 ?_
  refine lv_aload_n hx hb dL_law_331 rfl (lv_at hl 0 rfl) ?_
  refine lv_iload_n hx hb dL_law_332 rfl (lv_at hl 3 rfl) ?_
  refine lv_iconst (v := 5) hx hb dL_law_333 (by decide) ?_
  refine lv_iadd hx hb dL_law_334 ?_
  obtain ⟨g45, h⟩ := gd_e h
  refine va_sld hx hb hX hbl hbA hS g45 dL_law_335 ?_
  obtain ⟨r46, S47, hr46, h⟩ := bd_e h
  refine g_ci hS (g_runV C hR hS (k := 0) (As := [.int (xs (Int32.toNatClampNeg (v3 + (1 : Int32)))), .long ((lshlv (Int32.toInt64 (xs (Int32.toNatClampNeg (v3 + (2 : Int32))))) (32 : Int32)) ||| ((Int32.toInt64 (xs (Int32.toNatClampNeg (v3 + (3 : Int32))))) &&& (4294967295 : Int64))), .int (xs (Int32.toNatClampNeg (v3 + (4 : Int32)))), .int (xs (Int32.toNatClampNeg (v3 + (5 : Int32))))]) (rest := []) (c_X10_said l hr46) (live_st (by decide)) rfl vw10 m_X10_said q458 ⟨rfl, rfl⟩ ⟨Nat.le_of_ble_eq_true rfl, Nat.le_of_ble_eq_true rfl⟩ rfl hl.1 rfl (Nat.le_of_ble_eq_true rfl) dL_law_336 (by show _ ≤ 600000 ∧ _ ≤ 7302249; omega)) (fun H locs hR hS => ?_)
  refine lv_aload_n hx hb dL_law_339 rfl (lv_at hl 2 rfl) ?_
  refine lv_aload_n hx hb dL_law_340 rfl (lv_at hl 0 rfl) ?_
  refine lv_iload_n hx hb dL_law_341 rfl (lv_at hl 3 rfl) ?_
  refine lv_iconst (v := 1) hx hb dL_law_342 (by decide) ?_
  refine lv_iadd hx hb dL_law_343 ?_
  obtain ⟨g48, h⟩ := gd_e h
  refine va_sld hx hb hX hbl hbA hS g48 dL_law_344 ?_
  refine lv_aload_n hx hb dL_law_345 rfl (lv_at hl 0 rfl) ?_
  refine lv_iload_n hx hb dL_law_346 rfl (lv_at hl 3 rfl) ?_
  refine lv_iconst (v := 2) hx hb dL_law_347 (by decide) ?_
  refine lv_iadd hx hb dL_law_348 ?_
  obtain ⟨g49, h⟩ := gd_e h
  refine va_sld hx hb hX hbl hbA hS g49 dL_law_349 ?_
  refine lv_i2l (v := Int32.toInt64 (xs (Int32.toNatClampNeg (v3 + (2 : Int32))))) hx hb dL_law_350 rfl ?_
  refine lv_bipush (v := 32) hx hb dL_law_351 (by decide) ?_
  refine lv_lshl (v := lshlv (Int32.toInt64 (xs (Int32.toNatClampNeg (v3 + (2 : Int32))))) (32 : Int32)) hx hb dL_law_353 rfl ?_
  refine lv_aload_n hx hb dL_law_354 rfl (lv_at hl 0 rfl) ?_
  refine lv_iload_n hx hb dL_law_355 rfl (lv_at hl 3 rfl) ?_
  refine lv_iconst (v := 3) hx hb dL_law_356 (by decide) ?_
  refine lv_iadd hx hb dL_law_357 ?_
  obtain ⟨g50, h⟩ := gd_e h
  refine va_sld hx hb hX hbl hbA hS g50 dL_law_358 ?_
  refine lv_i2l (v := Int32.toInt64 (xs (Int32.toNatClampNeg (v3 + (3 : Int32))))) hx hb dL_law_359 rfl ?_
  refine lv_ldc2 (v := 4294967295) hx hb hown (hts _ q1366) dL_law_360 ?_
  refine lv_land hx hb dL_law_363 ?_
  refine lv_lor hx hb dL_law_364 ?_
  refine lv_aload_n hx hb dL_law_365 rfl (lv_at hl 0 rfl) ?_
  refine lv_iload_n hx hb dL_law_366 rfl (lv_at hl 3 rfl) ?_
  refine lv_iconst (v := 4) hx hb dL_law_367 (by decide) ?_
  refine lv_iadd hx hb dL_law_368 ?_
  obtain ⟨g51, h⟩ := gd_e h
  refine va_sld hx hb hX hbl hbA hS g51 dL_law_369 ?_
  refine lv_aload_n hx hb dL_law_370 rfl (lv_at hl 0 rfl) ?_
  refine lv_iload_n hx hb dL_law_371 rfl (lv_at hl 3 rfl) ?_
  refine lv_iconst (v := 5) hx hb dL_law_372 (by decide) ?_
  refine lv_iadd hx hb dL_law_373 ?_
  obtain ⟨g52, h⟩ := gd_e h
  refine va_sld hx hb hX hbl hbA hS g52 dL_law_374 ?_
  obtain ⟨r53, S54, hr53, h⟩ := bd_e h
  refine g_ci hS (g_runV C hR hS (k := 54) (As := [.int (xs (Int32.toNatClampNeg (v3 + (1 : Int32)))), .long ((lshlv (Int32.toInt64 (xs (Int32.toNatClampNeg (v3 + (2 : Int32))))) (32 : Int32)) ||| ((Int32.toInt64 (xs (Int32.toNatClampNeg (v3 + (3 : Int32))))) &&& (4294967295 : Int64))), .int (xs (Int32.toNatClampNeg (v3 + (4 : Int32)))), .int (xs (Int32.toNatClampNeg (v3 + (5 : Int32))))]) (rest := [.int r46]) (c_X11_said l hr53) (live_st (by decide)) rfl vw11 m_X11_said q1124 ⟨rfl, rfl⟩ ⟨Nat.le_of_ble_eq_true rfl, Nat.le_of_ble_eq_true rfl⟩ rfl hl.1 rfl (Nat.le_of_ble_eq_true rfl) dL_law_375 (by show _ ≤ 600000 ∧ _ ≤ 7302249; omega)) (fun H locs hR hS => ?_)
  refine lv_icmp_eq (tgt := 1091) hx hb dL_law_378 (by decide) (fun c55 => ?_) (fun c55 => ?_)
  · have h := ite_t c55 h
    exact hJ _ _ _ _ _ _ _ hR.norm hS hl (by omega) (by omega) h
  · have h := ite_f c55 h
    exact absurd (Option.some.inj h) (by decide)
set_option maxHeartbeats 4000000 in
set_option maxRecDepth 100000 in
theorem w_law_c5 {p : Program} {l : Launch} {e : Env} {s : State} {m : MethodId} {below : List Frame} {meth : Method} {c : Code} {E : En} {b L : Nat} {xs : Nat → Int32} (C : Cx p s m #[Value.ref b] meth c RL cL_law 4 (some .boolean) E) (hKc : Kc E s) (hX : va_X b L xs s s.heap) (hbl : b < s.heap.size) (hbA : ¬ E.2.2.1 b) {v3 : Int32} {J : St → Option Int32} {c0 s0 : Nat} (hcs : c0 + 2 ≤ 600000 ∧ s0 + 29 ≤ 7302249) (hJ : ∀ (S : St) (α : Nat → Nat) (H : Heap) (locs : List Loc) (ls : Array Slot) (ce sl : Nat), Rp E α (nP S, nC S) S H → va_S E.2.2.1 s.heap H locs → lv_has ls 4 [(0, .ref b), (1, .ref (α 0)), (2, .ref (α 54)), (3, .int v3)] → ce ≤ c0 + 2 → sl ≤ s0 + 29 → J S = some 1 → W p l e room_1 s m #[Value.ref b] below meth c H locs ce sl (lw_Z below #[Value.ref b] s) (F0 m 1091 ls [])) {S : St} {α : Nat → Nat} {g : Nat × Nat} (hg : g.1 = nP S ∧ g.2 = nC S) {H : Heap} {locs : List Loc} {ls : Array Slot} (hR : Rp E α g S H) (hS : va_S E.2.2.1 s.heap H locs) (hl : lv_has ls 4 [(0, .ref b), (1, .ref (α 0)), (2, .ref (α 54)), (3, .int v3)]) (h : f_law_c5 xs L v3 J S = some 1) : W p l e room_1 s m #[Value.ref b] below meth c H locs c0 s0 (lw_Z below #[Value.ref b] s) (F0 m 383 ls []) := by
  obtain ⟨hx, hb, hml, hown, hts, hlk, hrt, hKs⟩ := id C
  unfold f_law_c5 at h
  refine lv_aload_n hx hb dL_law_383 rfl (lv_at hl 1 rfl) ?_
  refine lv_aload_n hx hb dL_law_384 rfl (lv_at hl 0 rfl) ?_
  refine lv_iload_n hx hb dL_law_385 rfl (lv_at hl 3 rfl) ?_
  refine lv_iconst (v := 1) hx hb dL_law_386 (by decide) ?_
  refine lv_iadd hx hb dL_law_387 ?_
  obtain ⟨g56, h⟩ := gd_e h
  refine va_sld hx hb hX hbl hbA hS g56 dL_law_388 ?_
  refine lv_aload_n hx hb dL_law_389 rfl (lv_at hl 0 rfl) ?_
  refine lv_iload_n hx hb dL_law_390 rfl (lv_at hl 3 rfl) ?_
  refine lv_iconst (v := 2) hx hb dL_law_391 (by decide) ?_
  refine lv_iadd hx hb dL_law_392 ?_
  obtain ⟨g57, h⟩ := gd_e h
  refine va_sld hx hb hX hbl hbA hS g57 dL_law_393 ?_
  refine lv_i2l (v := Int32.toInt64 (xs (Int32.toNatClampNeg (v3 + (2 : Int32))))) hx hb dL_law_394 rfl ?_
  refine lv_bipush (v := 32) hx hb dL_law_395 (by decide) ?_
  refine lv_lshl (v := lshlv (Int32.toInt64 (xs (Int32.toNatClampNeg (v3 + (2 : Int32))))) (32 : Int32)) hx hb dL_law_397 rfl ?_
  refine lv_aload_n hx hb dL_law_398 rfl (lv_at hl 0 rfl) ?_
  refine lv_iload_n hx hb dL_law_399 rfl (lv_at hl 3 rfl) ?_
  refine lv_iconst (v := 3) hx hb dL_law_400 (by decide) ?_
  refine lv_iadd hx hb dL_law_401 ?_
  obtain ⟨g58, h⟩ := gd_e h
  refine va_sld hx hb hX hbl hbA hS g58 dL_law_402 ?_
  refine lv_i2l (v := Int32.toInt64 (xs (Int32.toNatClampNeg (v3 + (3 : Int32))))) hx hb dL_law_403 rfl ?_
  refine lv_ldc2 (v := 4294967295) hx hb hown (hts _ q1366) dL_law_404 ?_
  refine lv_land hx hb dL_law_407 ?_
  refine lv_lor hx hb dL_law_408 ?_
  refine lv_aload_n hx hb dL_law_409 rfl (lv_at hl 0 rfl) ?_
  refine lv_iload_n hx hb dL_law_410 rfl (lv_at hl 3 rfl) ?_
  refine lv_iconst (v := 4) hx hb dL_law_411 (by decide) ?_
  refine lv_iadd hx hb dL_law_412 ?_
  obtain ⟨g59, h⟩ := gd_e h
  refine va_sld hx hb hX hbl hbA hS g59 dL_law_413 ?_
  refine lv_aload_n hx hb dL_law_414 rfl (lv_at hl 0 rfl) ?_
  refine lv_iload_n hx hb dL_law_415 rfl (lv_at hl 3 rfl) ?_
  refine lv_iconst (v := 5) hx hb dL_law_416 (by decide) ?_
  refine lv_iadd hx hb dL_law_417 ?_
  obtain ⟨g60, h⟩ := gd_e h
  refine va_sld hx hb hX hbl hbA hS g60 dL_law_418 ?_
  obtain ⟨r61, S62, hr61, h⟩ := bd_e h
  refine g_ci hS (g_runV C hR hS (k := 0) (As := [.int (xs (Int32.toNatClampNeg (v3 + (1 : Int32)))), .long ((lshlv (Int32.toInt64 (xs (Int32.toNatClampNeg (v3 + (2 : Int32))))) (32 : Int32)) ||| ((Int32.toInt64 (xs (Int32.toNatClampNeg (v3 + (3 : Int32))))) &&& (4294967295 : Int64))), .int (xs (Int32.toNatClampNeg (v3 + (4 : Int32)))), .int (xs (Int32.toNatClampNeg (v3 + (5 : Int32))))]) (rest := []) (c_X10_bit l hr61) (live_st (by decide)) rfl vw10 m_X10_bit q510 ⟨rfl, rfl⟩ ⟨Nat.le_of_ble_eq_true rfl, Nat.le_of_ble_eq_true rfl⟩ rfl hl.1 rfl (Nat.le_of_ble_eq_true rfl) dL_law_419 (by show _ ≤ 600000 ∧ _ ≤ 7302249; omega)) (fun H locs hR hS => ?_)
  refine lv_aload_n hx hb dL_law_422 rfl (lv_at hl 2 rfl) ?_
  refine lv_aload_n hx hb dL_law_423 rfl (lv_at hl 0 rfl) ?_
  refine lv_iload_n hx hb dL_law_424 rfl (lv_at hl 3 rfl) ?_
  refine lv_iconst (v := 1) hx hb dL_law_425 (by decide) ?_
  refine lv_iadd hx hb dL_law_426 ?_
  obtain ⟨g63, h⟩ := gd_e h
  refine va_sld hx hb hX hbl hbA hS g63 dL_law_427 ?_
  refine lv_aload_n hx hb dL_law_428 rfl (lv_at hl 0 rfl) ?_
  refine lv_iload_n hx hb dL_law_429 rfl (lv_at hl 3 rfl) ?_
  refine lv_iconst (v := 2) hx hb dL_law_430 (by decide) ?_
  refine lv_iadd hx hb dL_law_431 ?_
  obtain ⟨g64, h⟩ := gd_e h
  refine va_sld hx hb hX hbl hbA hS g64 dL_law_432 ?_
  refine lv_i2l (v := Int32.toInt64 (xs (Int32.toNatClampNeg (v3 + (2 : Int32))))) hx hb dL_law_433 rfl ?_
  refine lv_bipush (v := 32) hx hb dL_law_434 (by decide) ?_
  refine lv_lshl (v := lshlv (Int32.toInt64 (xs (Int32.toNatClampNeg (v3 + (2 : Int32))))) (32 : Int32)) hx hb dL_law_436 rfl ?_
  refine lv_aload_n hx hb dL_law_437 rfl (lv_at hl 0 rfl) ?_
  refine lv_iload_n hx hb dL_law_438 rfl (lv_at hl 3 rfl) ?_
  refine lv_iconst (v := 3) hx hb dL_law_439 (by decide) ?_
  refine lv_iadd hx hb dL_law_440 ?_
  obtain ⟨g65, h⟩ := gd_e h
  refine va_sld hx hb hX hbl hbA hS g65 dL_law_441 ?_
  refine lv_i2l (v := Int32.toInt64 (xs (Int32.toNatClampNeg (v3 + (3 : Int32))))) hx hb dL_law_442 rfl ?_
  refine lv_ldc2 (v := 4294967295) hx hb hown (hts _ q1366) dL_law_443 ?_
  refine lv_land hx hb dL_law_446 ?_
  refine lv_lor hx hb dL_law_447 ?_
  refine lv_aload_n hx hb dL_law_448 rfl (lv_at hl 0 rfl) ?_
  refine lv_iload_n hx hb dL_law_449 rfl (lv_at hl 3 rfl) ?_
  refine lv_iconst (v := 4) hx hb dL_law_450 (by decide) ?_
  refine lv_iadd hx hb dL_law_451 ?_
  obtain ⟨g66, h⟩ := gd_e h
  refine va_sld hx hb hX hbl hbA hS g66 dL_law_452 ?_
  refine lv_aload_n hx hb dL_law_453 rfl (lv_at hl 0 rfl) ?_
  refine lv_iload_n hx hb dL_law_454 rfl (lv_at hl 3 rfl) ?_
  refine lv_iconst (v := 5) hx hb dL_law_455 (by decide) ?_
  refine lv_iadd hx hb dL_law_456 ?_
  obtain ⟨g67, h⟩ := gd_e h
  refine va_sld hx hb hX hbl hbA hS g67 dL_law_457 ?_
  obtain ⟨r68, S69, hr68, h⟩ := bd_e h
  refine g_ci hS (g_runV C hR hS (k := 54) (As := [.int (xs (Int32.toNatClampNeg (v3 + (1 : Int32)))), .long ((lshlv (Int32.toInt64 (xs (Int32.toNatClampNeg (v3 + (2 : Int32))))) (32 : Int32)) ||| ((Int32.toInt64 (xs (Int32.toNatClampNeg (v3 + (3 : Int32))))) &&& (4294967295 : Int64))), .int (xs (Int32.toNatClampNeg (v3 + (4 : Int32)))), .int (xs (Int32.toNatClampNeg (v3 + (5 : Int32))))]) (rest := [.int r61]) (c_X11_bit l hr68) (live_st (by decide)) rfl vw11 m_X11_bit q1158 ⟨rfl, rfl⟩ ⟨Nat.le_of_ble_eq_true rfl, Nat.le_of_ble_eq_true rfl⟩ rfl hl.1 rfl (Nat.le_of_ble_eq_true rfl) dL_law_458 (by show _ ≤ 600000 ∧ _ ≤ 7302249; omega)) (fun H locs hR hS => ?_)
  refine lv_icmp_eq (tgt := 1091) hx hb dL_law_461 (by decide) (fun c70 => ?_) (fun c70 => ?_)
  · have h := ite_t c70 h
    exact hJ _ _ _ _ _ _ _ hR.norm hS hl (by omega) (by omega) h
  · have h := ite_f c70 h
    exact absurd (Option.some.inj h) (by decide)
set_option maxHeartbeats 4000000 in
set_option maxRecDepth 100000 in
theorem w_law_c6 {p : Program} {l : Launch} {e : Env} {s : State} {m : MethodId} {below : List Frame} {meth : Method} {c : Code} {E : En} {b L : Nat} {xs : Nat → Int32} (C : Cx p s m #[Value.ref b] meth c RL cL_law 4 (some .boolean) E) (hKc : Kc E s) (hX : va_X b L xs s s.heap) (hbl : b < s.heap.size) (hbA : ¬ E.2.2.1 b) {v3 : Int32} {J : St → Option Int32} {c0 s0 : Nat} (hcs : c0 + 2 ≤ 600000 ∧ s0 + 29 ≤ 7302249) (hJ : ∀ (S : St) (α : Nat → Nat) (H : Heap) (locs : List Loc) (ls : Array Slot) (ce sl : Nat), Rp E α (nP S, nC S) S H → va_S E.2.2.1 s.heap H locs → lv_has ls 4 [(0, .ref b), (1, .ref (α 0)), (2, .ref (α 54)), (3, .int v3)] → ce ≤ c0 + 2 → sl ≤ s0 + 29 → J S = some 1 → W p l e room_1 s m #[Value.ref b] below meth c H locs ce sl (lw_Z below #[Value.ref b] s) (F0 m 1091 ls [])) {S : St} {α : Nat → Nat} {g : Nat × Nat} (hg : g.1 = nP S ∧ g.2 = nC S) {H : Heap} {locs : List Loc} {ls : Array Slot} (hR : Rp E α g S H) (hS : va_S E.2.2.1 s.heap H locs) (hl : lv_has ls 4 [(0, .ref b), (1, .ref (α 0)), (2, .ref (α 54)), (3, .int v3)]) (h : f_law_c6 xs L v3 J S = some 1) : W p l e room_1 s m #[Value.ref b] below meth c H locs c0 s0 (lw_Z below #[Value.ref b] s) (F0 m 466 ls []) := by
  obtain ⟨hx, hb, hml, hown, hts, hlk, hrt, hKs⟩ := id C
  unfold f_law_c6 at h
  refine lv_aload_n hx hb dL_law_466 rfl (lv_at hl 1 rfl) ?_
  refine lv_aload_n hx hb dL_law_467 rfl (lv_at hl 0 rfl) ?_
  refine lv_iload_n hx hb dL_law_468 rfl (lv_at hl 3 rfl) ?_
  refine lv_iconst (v := 1) hx hb dL_law_469 (by decide) ?_
  refine lv_iadd hx hb dL_law_470 ?_
  obtain ⟨g71, h⟩ := gd_e h
  refine va_sld hx hb hX hbl hbA hS g71 dL_law_471 ?_
  refine lv_i2l (v := Int32.toInt64 (xs (Int32.toNatClampNeg (v3 + (1 : Int32))))) hx hb dL_law_472 rfl ?_
  refine lv_bipush (v := 32) hx hb dL_law_473 (by decide) ?_
  refine lv_lshl (v := lshlv (Int32.toInt64 (xs (Int32.toNatClampNeg (v3 + (1 : Int32))))) (32 : Int32)) hx hb dL_law_475 rfl ?_
  refine lv_aload_n hx hb dL_law_476 rfl (lv_at hl 0 rfl) ?_
  refine lv_iload_n hx hb dL_law_477 rfl (lv_at hl 3 rfl) ?_
  refine lv_iconst (v := 2) hx hb dL_law_478 (by decide) ?_
  refine lv_iadd hx hb dL_law_479 ?_
  obtain ⟨g72, h⟩ := gd_e h
  refine va_sld hx hb hX hbl hbA hS g72 dL_law_480 ?_
  refine lv_i2l (v := Int32.toInt64 (xs (Int32.toNatClampNeg (v3 + (2 : Int32))))) hx hb dL_law_481 rfl ?_
  refine lv_ldc2 (v := 4294967295) hx hb hown (hts _ q1366) dL_law_482 ?_
  refine lv_land hx hb dL_law_485 ?_
  refine lv_lor hx hb dL_law_486 ?_
  refine lv_aload_n hx hb dL_law_487 rfl (lv_at hl 0 rfl) ?_
  refine lv_iload_n hx hb dL_law_488 rfl (lv_at hl 3 rfl) ?_
  refine lv_iconst (v := 3) hx hb dL_law_489 (by decide) ?_
  refine lv_iadd hx hb dL_law_490 ?_
  obtain ⟨g73, h⟩ := gd_e h
  refine va_sld hx hb hX hbl hbA hS g73 dL_law_491 ?_
  obtain ⟨r74, S75, hr74, h⟩ := bd_e h
  refine g_ci hS (g_runV C hR hS (k := 0) (As := [.long ((lshlv (Int32.toInt64 (xs (Int32.toNatClampNeg (v3 + (1 : Int32))))) (32 : Int32)) ||| ((Int32.toInt64 (xs (Int32.toNatClampNeg (v3 + (2 : Int32))))) &&& (4294967295 : Int64))), .int (xs (Int32.toNatClampNeg (v3 + (3 : Int32))))]) (rest := []) (c_X10_write l hr74) (live_st (by decide)) rfl vw10 m_X10_write q529 ⟨rfl, rfl⟩ ⟨Nat.le_of_ble_eq_true rfl, Nat.le_of_ble_eq_true rfl⟩ rfl hl.1 rfl (Nat.le_of_ble_eq_true rfl) dL_law_492 (by show _ ≤ 600000 ∧ _ ≤ 7302249; omega)) (fun H locs hR hS => ?_)
  refine lv_aload_n hx hb dL_law_495 rfl (lv_at hl 2 rfl) ?_
  refine lv_aload_n hx hb dL_law_496 rfl (lv_at hl 0 rfl) ?_
  refine lv_iload_n hx hb dL_law_497 rfl (lv_at hl 3 rfl) ?_
  refine lv_iconst (v := 1) hx hb dL_law_498 (by decide) ?_
  refine lv_iadd hx hb dL_law_499 ?_
  obtain ⟨g76, h⟩ := gd_e h
  refine va_sld hx hb hX hbl hbA hS g76 dL_law_500 ?_
  refine lv_i2l (v := Int32.toInt64 (xs (Int32.toNatClampNeg (v3 + (1 : Int32))))) hx hb dL_law_501 rfl ?_
  refine lv_bipush (v := 32) hx hb dL_law_502 (by decide) ?_
  refine lv_lshl (v := lshlv (Int32.toInt64 (xs (Int32.toNatClampNeg (v3 + (1 : Int32))))) (32 : Int32)) hx hb dL_law_504 rfl ?_
  refine lv_aload_n hx hb dL_law_505 rfl (lv_at hl 0 rfl) ?_
  refine lv_iload_n hx hb dL_law_506 rfl (lv_at hl 3 rfl) ?_
  refine lv_iconst (v := 2) hx hb dL_law_507 (by decide) ?_
  refine lv_iadd hx hb dL_law_508 ?_
  obtain ⟨g77, h⟩ := gd_e h
  refine va_sld hx hb hX hbl hbA hS g77 dL_law_509 ?_
  refine lv_i2l (v := Int32.toInt64 (xs (Int32.toNatClampNeg (v3 + (2 : Int32))))) hx hb dL_law_510 rfl ?_
  refine lv_ldc2 (v := 4294967295) hx hb hown (hts _ q1366) dL_law_511 ?_
  refine lv_land hx hb dL_law_514 ?_
  refine lv_lor hx hb dL_law_515 ?_
  refine lv_aload_n hx hb dL_law_516 rfl (lv_at hl 0 rfl) ?_
  refine lv_iload_n hx hb dL_law_517 rfl (lv_at hl 3 rfl) ?_
  refine lv_iconst (v := 3) hx hb dL_law_518 (by decide) ?_
  refine lv_iadd hx hb dL_law_519 ?_
  obtain ⟨g78, h⟩ := gd_e h
  refine va_sld hx hb hX hbl hbA hS g78 dL_law_520 ?_
  obtain ⟨r79, S80, hr79, h⟩ := bd_e h
  refine g_ci hS (g_runV C hR hS (k := 54) (As := [.long ((lshlv (Int32.toInt64 (xs (Int32.toNatClampNeg (v3 + (1 : Int32))))) (32 : Int32)) ||| ((Int32.toInt64 (xs (Int32.toNatClampNeg (v3 + (2 : Int32))))) &&& (4294967295 : Int64))), .int (xs (Int32.toNatClampNeg (v3 + (3 : Int32))))]) (rest := [.int r74]) (c_X11_write l hr79) (live_st (by decide)) rfl vw11 m_X11_write q1162 ⟨rfl, rfl⟩ ⟨Nat.le_of_ble_eq_true rfl, Nat.le_of_ble_eq_true rfl⟩ rfl hl.1 rfl (Nat.le_of_ble_eq_true rfl) dL_law_521 (by show _ ≤ 600000 ∧ _ ≤ 7302249; omega)) (fun H locs hR hS => ?_)
  refine lv_icmp_eq (tgt := 1091) hx hb dL_law_524 (by decide) (fun c81 => ?_) (fun c81 => ?_)
  · have h := ite_t c81 h
    exact hJ _ _ _ _ _ _ _ hR.norm hS hl (by omega) (by omega) h
  · have h := ite_f c81 h
    exact absurd (Option.some.inj h) (by decide)
set_option maxHeartbeats 4000000 in
set_option maxRecDepth 100000 in
theorem w_law_c7 {p : Program} {l : Launch} {e : Env} {s : State} {m : MethodId} {below : List Frame} {meth : Method} {c : Code} {E : En} {b L : Nat} {xs : Nat → Int32} (C : Cx p s m #[Value.ref b] meth c RL cL_law 4 (some .boolean) E) (hKc : Kc E s) (hX : va_X b L xs s s.heap) (hbl : b < s.heap.size) (hbA : ¬ E.2.2.1 b) {v3 : Int32} {J : St → Option Int32} {c0 s0 : Nat} (hcs : c0 + 2 ≤ 600000 ∧ s0 + 29 ≤ 7302249) (hJ : ∀ (S : St) (α : Nat → Nat) (H : Heap) (locs : List Loc) (ls : Array Slot) (ce sl : Nat), Rp E α (nP S, nC S) S H → va_S E.2.2.1 s.heap H locs → lv_has ls 4 [(0, .ref b), (1, .ref (α 0)), (2, .ref (α 54)), (3, .int v3)] → ce ≤ c0 + 2 → sl ≤ s0 + 29 → J S = some 1 → W p l e room_1 s m #[Value.ref b] below meth c H locs ce sl (lw_Z below #[Value.ref b] s) (F0 m 1091 ls [])) {S : St} {α : Nat → Nat} {g : Nat × Nat} (hg : g.1 = nP S ∧ g.2 = nC S) {H : Heap} {locs : List Loc} {ls : Array Slot} (hR : Rp E α g S H) (hS : va_S E.2.2.1 s.heap H locs) (hl : lv_has ls 4 [(0, .ref b), (1, .ref (α 0)), (2, .ref (α 54)), (3, .int v3)]) (h : f_law_c7 xs L v3 J S = some 1) : W p l e room_1 s m #[Value.ref b] below meth c H locs c0 s0 (lw_Z below #[Value.ref b] s) (F0 m 529 ls []) := by
  obtain ⟨hx, hb, hml, hown, hts, hlk, hrt, hKs⟩ := id C
  unfold f_law_c7 at h
  refine lv_aload_n hx hb dL_law_529 rfl (lv_at hl 1 rfl) ?_
  obtain ⟨r82, S83, hr82, h⟩ := bd_e h
  refine g_ci hS (g_runV C hR hS (k := 0) (As := []) (rest := []) (c_X10_erase l hr82) (live_st (by decide)) rfl vw10 m_X10_erase q537 ⟨rfl, rfl⟩ ⟨Nat.le_of_ble_eq_true rfl, Nat.le_of_ble_eq_true rfl⟩ rfl hl.1 rfl (Nat.le_of_ble_eq_true rfl) dL_law_530 (by show _ ≤ 600000 ∧ _ ≤ 7302249; omega)) (fun H locs hR hS => ?_)
  refine lv_aload_n hx hb dL_law_533 rfl (lv_at hl 2 rfl) ?_
  obtain ⟨r84, S85, hr84, h⟩ := bd_e h
  refine g_ci hS (g_runV C hR hS (k := 54) (As := []) (rest := [.int r82]) (c_X11_erase l hr84) (live_st (by decide)) rfl vw11 m_X11_erase q1167 ⟨rfl, rfl⟩ ⟨Nat.le_of_ble_eq_true rfl, Nat.le_of_ble_eq_true rfl⟩ rfl hl.1 rfl (Nat.le_of_ble_eq_true rfl) dL_law_534 (by show _ ≤ 600000 ∧ _ ≤ 7302249; omega)) (fun H locs hR hS => ?_)
  refine lv_icmp_eq (tgt := 1091) hx hb dL_law_537 (by decide) (fun c86 => ?_) (fun c86 => ?_)
  · have h := ite_t c86 h
    exact hJ _ _ _ _ _ _ _ hR.norm hS hl (by omega) (by omega) h
  · have h := ite_f c86 h
    exact absurd (Option.some.inj h) (by decide)
set_option maxHeartbeats 4000000 in
set_option maxRecDepth 100000 in
theorem w_law_c8 {p : Program} {l : Launch} {e : Env} {s : State} {m : MethodId} {below : List Frame} {meth : Method} {c : Code} {E : En} {b L : Nat} {xs : Nat → Int32} (C : Cx p s m #[Value.ref b] meth c RL cL_law 4 (some .boolean) E) (hKc : Kc E s) (hX : va_X b L xs s s.heap) (hbl : b < s.heap.size) (hbA : ¬ E.2.2.1 b) {v3 : Int32} {J : St → Option Int32} {c0 s0 : Nat} (hcs : c0 + 2 ≤ 600000 ∧ s0 + 29 ≤ 7302249) (hJ : ∀ (S : St) (α : Nat → Nat) (H : Heap) (locs : List Loc) (ls : Array Slot) (ce sl : Nat), Rp E α (nP S, nC S) S H → va_S E.2.2.1 s.heap H locs → lv_has ls 4 [(0, .ref b), (1, .ref (α 0)), (2, .ref (α 54)), (3, .int v3)] → ce ≤ c0 + 2 → sl ≤ s0 + 29 → J S = some 1 → W p l e room_1 s m #[Value.ref b] below meth c H locs ce sl (lw_Z below #[Value.ref b] s) (F0 m 1091 ls [])) {S : St} {α : Nat → Nat} {g : Nat × Nat} (hg : g.1 = nP S ∧ g.2 = nC S) {H : Heap} {locs : List Loc} {ls : Array Slot} (hR : Rp E α g S H) (hS : va_S E.2.2.1 s.heap H locs) (hl : lv_has ls 4 [(0, .ref b), (1, .ref (α 0)), (2, .ref (α 54)), (3, .int v3)]) (h : f_law_c8 xs L v3 J S = some 1) : W p l e room_1 s m #[Value.ref b] below meth c H locs c0 s0 (lw_Z below #[Value.ref b] s) (F0 m 542 ls []) := by
  obtain ⟨hx, hb, hml, hown, hts, hlk, hrt, hKs⟩ := id C
  unfold f_law_c8 at h
  refine lv_aload_n hx hb dL_law_542 rfl (lv_at hl 1 rfl) ?_
  obtain ⟨r87, S88, hr87, h⟩ := bd_e h
  refine g_ci hS (g_runV C hR hS (k := 0) (As := []) (rest := []) (c_X10_fault l hr87) (live_st (by decide)) rfl vw10 m_X10_fault q545 ⟨rfl, rfl⟩ ⟨Nat.le_of_ble_eq_true rfl, Nat.le_of_ble_eq_true rfl⟩ rfl hl.1 rfl (Nat.le_of_ble_eq_true rfl) dL_law_543 (by show _ ≤ 600000 ∧ _ ≤ 7302249; omega)) (fun H locs hR hS => ?_)
  refine lv_aload_n hx hb dL_law_546 rfl (lv_at hl 2 rfl) ?_
  obtain ⟨r89, S90, hr89, h⟩ := bd_e h
  refine g_ci hS (g_runV C hR hS (k := 54) (As := []) (rest := [.int r87]) (c_X11_fault l hr89) (live_st (by decide)) rfl vw11 m_X11_fault q1171 ⟨rfl, rfl⟩ ⟨Nat.le_of_ble_eq_true rfl, Nat.le_of_ble_eq_true rfl⟩ rfl hl.1 rfl (Nat.le_of_ble_eq_true rfl) dL_law_547 (by show _ ≤ 600000 ∧ _ ≤ 7302249; omega)) (fun H locs hR hS => ?_)
  refine lv_icmp_eq (tgt := 1091) hx hb dL_law_550 (by decide) (fun c91 => ?_) (fun c91 => ?_)
  · have h := ite_t c91 h
    exact hJ _ _ _ _ _ _ _ hR.norm hS hl (by omega) (by omega) h
  · have h := ite_f c91 h
    exact absurd (Option.some.inj h) (by decide)
set_option maxHeartbeats 4000000 in
set_option maxRecDepth 100000 in
theorem w_law_c9 {p : Program} {l : Launch} {e : Env} {s : State} {m : MethodId} {below : List Frame} {meth : Method} {c : Code} {E : En} {b L : Nat} {xs : Nat → Int32} (C : Cx p s m #[Value.ref b] meth c RL cL_law 4 (some .boolean) E) (hKc : Kc E s) (hX : va_X b L xs s s.heap) (hbl : b < s.heap.size) (hbA : ¬ E.2.2.1 b) {v3 : Int32} {J : St → Option Int32} {c0 s0 : Nat} (hcs : c0 + 2 ≤ 600000 ∧ s0 + 29 ≤ 7302249) (hJ : ∀ (S : St) (α : Nat → Nat) (H : Heap) (locs : List Loc) (ls : Array Slot) (ce sl : Nat), Rp E α (nP S, nC S) S H → va_S E.2.2.1 s.heap H locs → lv_has ls 4 [(0, .ref b), (1, .ref (α 0)), (2, .ref (α 54)), (3, .int v3)] → ce ≤ c0 + 2 → sl ≤ s0 + 29 → J S = some 1 → W p l e room_1 s m #[Value.ref b] below meth c H locs ce sl (lw_Z below #[Value.ref b] s) (F0 m 1091 ls [])) {S : St} {α : Nat → Nat} {g : Nat × Nat} (hg : g.1 = nP S ∧ g.2 = nC S) {H : Heap} {locs : List Loc} {ls : Array Slot} (hR : Rp E α g S H) (hS : va_S E.2.2.1 s.heap H locs) (hl : lv_has ls 4 [(0, .ref b), (1, .ref (α 0)), (2, .ref (α 54)), (3, .int v3)]) (h : f_law_c9 xs L v3 J S = some 1) : W p l e room_1 s m #[Value.ref b] below meth c H locs c0 s0 (lw_Z below #[Value.ref b] s) (F0 m 555 ls []) := by
  obtain ⟨hx, hb, hml, hown, hts, hlk, hrt, hKs⟩ := id C
  unfold f_law_c9 at h
  refine lv_aload_n hx hb dL_law_555 rfl (lv_at hl 1 rfl) ?_
  obtain ⟨r92, S93, hr92, h⟩ := bd_e h
  refine g_ci hS (g_runV C hR hS (k := 0) (As := []) (rest := []) (c_X10_told l hr92) (live_st (by decide)) rfl vw10 m_X10_told q648 ⟨rfl, rfl⟩ ⟨Nat.le_of_ble_eq_true rfl, Nat.le_of_ble_eq_true rfl⟩ rfl hl.1 rfl (Nat.le_of_ble_eq_true rfl) dL_law_556 (by show _ ≤ 600000 ∧ _ ≤ 7302249; omega)) (fun H locs hR hS => ?_)
  refine lv_aload_n hx hb dL_law_559 rfl (lv_at hl 2 rfl) ?_
  obtain ⟨r94, S95, hr94, h⟩ := bd_e h
  refine g_ci hS (g_runV C hR hS (k := 54) (As := []) (rest := [.int r92]) (c_X11_told l hr94) (live_st (by decide)) rfl vw11 m_X11_told q1224 ⟨rfl, rfl⟩ ⟨Nat.le_of_ble_eq_true rfl, Nat.le_of_ble_eq_true rfl⟩ rfl hl.1 rfl (Nat.le_of_ble_eq_true rfl) dL_law_560 (by show _ ≤ 600000 ∧ _ ≤ 7302249; omega)) (fun H locs hR hS => ?_)
  refine lv_icmp_eq (tgt := 1091) hx hb dL_law_563 (by decide) (fun c96 => ?_) (fun c96 => ?_)
  · have h := ite_t c96 h
    exact hJ _ _ _ _ _ _ _ hR.norm hS hl (by omega) (by omega) h
  · have h := ite_f c96 h
    exact absurd (Option.some.inj h) (by decide)
set_option maxHeartbeats 4000000 in
set_option maxRecDepth 100000 in
theorem w_law_c10 {p : Program} {l : Launch} {e : Env} {s : State} {m : MethodId} {below : List Frame} {meth : Method} {c : Code} {E : En} {b L : Nat} {xs : Nat → Int32} (C : Cx p s m #[Value.ref b] meth c RL cL_law 4 (some .boolean) E) (hKc : Kc E s) (hX : va_X b L xs s s.heap) (hbl : b < s.heap.size) (hbA : ¬ E.2.2.1 b) {v3 : Int32} {J : St → Option Int32} {c0 s0 : Nat} (hcs : c0 + 2 ≤ 600000 ∧ s0 + 29 ≤ 7302249) (hJ : ∀ (S : St) (α : Nat → Nat) (H : Heap) (locs : List Loc) (ls : Array Slot) (ce sl : Nat), Rp E α (nP S, nC S) S H → va_S E.2.2.1 s.heap H locs → lv_has ls 4 [(0, .ref b), (1, .ref (α 0)), (2, .ref (α 54)), (3, .int v3)] → ce ≤ c0 + 2 → sl ≤ s0 + 29 → J S = some 1 → W p l e room_1 s m #[Value.ref b] below meth c H locs ce sl (lw_Z below #[Value.ref b] s) (F0 m 1091 ls [])) {S : St} {α : Nat → Nat} {g : Nat × Nat} (hg : g.1 = nP S ∧ g.2 = nC S) {H : Heap} {locs : List Loc} {ls : Array Slot} (hR : Rp E α g S H) (hS : va_S E.2.2.1 s.heap H locs) (hl : lv_has ls 4 [(0, .ref b), (1, .ref (α 0)), (2, .ref (α 54)), (3, .int v3)]) (h : f_law_c10 xs L v3 J S = some 1) : W p l e room_1 s m #[Value.ref b] below meth c H locs c0 s0 (lw_Z below #[Value.ref b] s) (F0 m 568 ls []) := by
  obtain ⟨hx, hb, hml, hown, hts, hlk, hrt, hKs⟩ := id C
  unfold f_law_c10 at h
  refine lv_aload_n hx hb dL_law_568 rfl (lv_at hl 1 rfl) ?_
  refine lv_aload_n hx hb dL_law_569 rfl (lv_at hl 0 rfl) ?_
  refine lv_iload_n hx hb dL_law_570 rfl (lv_at hl 3 rfl) ?_
  refine lv_iconst (v := 1) hx hb dL_law_571 (by decide) ?_
  refine lv_iadd hx hb dL_law_572 ?_
  obtain ⟨g97, h⟩ := gd_e h
  refine va_sld hx hb hX hbl hbA hS g97 dL_law_573 ?_
  refine lv_aload_n hx hb dL_law_574 rfl (lv_at hl 0 rfl) ?_
  refine lv_iload_n hx hb dL_law_575 rfl (lv_at hl 3 rfl) ?_
  refine lv_iconst (v := 2) hx hb dL_law_576 (by decide) ?_
  refine lv_iadd hx hb dL_law_577 ?_
  obtain ⟨g98, h⟩ := gd_e h
  refine va_sld hx hb hX hbl hbA hS g98 dL_law_578 ?_
  obtain ⟨r99, S100, hr99, h⟩ := bd_e h
  refine g_ci hS (g_runV C hR hS (k := 0) (As := [.int (xs (Int32.toNatClampNeg (v3 + (1 : Int32)))), .int (xs (Int32.toNatClampNeg (v3 + (2 : Int32))))]) (rest := []) (c_X10_word l hr99) (live_st (by decide)) rfl vw10 m_X10_word q672 ⟨rfl, rfl⟩ ⟨Nat.le_of_ble_eq_true rfl, Nat.le_of_ble_eq_true rfl⟩ rfl hl.1 rfl (Nat.le_of_ble_eq_true rfl) dL_law_579 (by show _ ≤ 600000 ∧ _ ≤ 7302249; omega)) (fun H locs hR hS => ?_)
  refine lv_aload_n hx hb dL_law_582 rfl (lv_at hl 2 rfl) ?_
  refine lv_aload_n hx hb dL_law_583 rfl (lv_at hl 0 rfl) ?_
  refine lv_iload_n hx hb dL_law_584 rfl (lv_at hl 3 rfl) ?_
  refine lv_iconst (v := 1) hx hb dL_law_585 (by decide) ?_
  refine lv_iadd hx hb dL_law_586 ?_
  obtain ⟨g101, h⟩ := gd_e h
  refine va_sld hx hb hX hbl hbA hS g101 dL_law_587 ?_
  refine lv_aload_n hx hb dL_law_588 rfl (lv_at hl 0 rfl) ?_
  refine lv_iload_n hx hb dL_law_589 rfl (lv_at hl 3 rfl) ?_
  refine lv_iconst (v := 2) hx hb dL_law_590 (by decide) ?_
  refine lv_iadd hx hb dL_law_591 ?_
  obtain ⟨g102, h⟩ := gd_e h
  refine va_sld hx hb hX hbl hbA hS g102 dL_law_592 ?_
  obtain ⟨r103, S104, hr103, h⟩ := bd_e h
  refine g_ci hS (g_runV C hR hS (k := 54) (As := [.int (xs (Int32.toNatClampNeg (v3 + (1 : Int32)))), .int (xs (Int32.toNatClampNeg (v3 + (2 : Int32))))]) (rest := [.int r99]) (c_X11_word l hr103) (live_st (by decide)) rfl vw11 m_X11_word q1232 ⟨rfl, rfl⟩ ⟨Nat.le_of_ble_eq_true rfl, Nat.le_of_ble_eq_true rfl⟩ rfl hl.1 rfl (Nat.le_of_ble_eq_true rfl) dL_law_593 (by show _ ≤ 600000 ∧ _ ≤ 7302249; omega)) (fun H locs hR hS => ?_)
  refine lv_icmp_eq (tgt := 1091) hx hb dL_law_596 (by decide) (fun c105 => ?_) (fun c105 => ?_)
  · have h := ite_t c105 h
    exact hJ _ _ _ _ _ _ _ hR.norm hS hl (by omega) (by omega) h
  · have h := ite_f c105 h
    exact absurd (Option.some.inj h) (by decide)
set_option maxHeartbeats 4000000 in
set_option maxRecDepth 100000 in
theorem w_law_c11 {p : Program} {l : Launch} {e : Env} {s : State} {m : MethodId} {below : List Frame} {meth : Method} {c : Code} {E : En} {b L : Nat} {xs : Nat → Int32} (C : Cx p s m #[Value.ref b] meth c RL cL_law 4 (some .boolean) E) (hKc : Kc E s) (hX : va_X b L xs s s.heap) (hbl : b < s.heap.size) (hbA : ¬ E.2.2.1 b) {v3 : Int32} {J : St → Option Int32} {c0 s0 : Nat} (hcs : c0 + 2 ≤ 600000 ∧ s0 + 29 ≤ 7302249) (hJ : ∀ (S : St) (α : Nat → Nat) (H : Heap) (locs : List Loc) (ls : Array Slot) (ce sl : Nat), Rp E α (nP S, nC S) S H → va_S E.2.2.1 s.heap H locs → lv_has ls 4 [(0, .ref b), (1, .ref (α 0)), (2, .ref (α 54)), (3, .int v3)] → ce ≤ c0 + 2 → sl ≤ s0 + 29 → J S = some 1 → W p l e room_1 s m #[Value.ref b] below meth c H locs ce sl (lw_Z below #[Value.ref b] s) (F0 m 1091 ls [])) {S : St} {α : Nat → Nat} {g : Nat × Nat} (hg : g.1 = nP S ∧ g.2 = nC S) {H : Heap} {locs : List Loc} {ls : Array Slot} (hR : Rp E α g S H) (hS : va_S E.2.2.1 s.heap H locs) (hl : lv_has ls 4 [(0, .ref b), (1, .ref (α 0)), (2, .ref (α 54)), (3, .int v3)]) (h : f_law_c11 xs L v3 J S = some 1) : W p l e room_1 s m #[Value.ref b] below meth c H locs c0 s0 (lw_Z below #[Value.ref b] s) (F0 m 601 ls []) := by
  obtain ⟨hx, hb, hml, hown, hts, hlk, hrt, hKs⟩ := id C
  unfold f_law_c11 at h
  refine lv_aload_n hx hb dL_law_601 rfl (lv_at hl 1 rfl) ?_
  refine lv_aload_n hx hb dL_law_602 rfl (lv_at hl 0 rfl) ?_
  refine lv_iload_n hx hb dL_law_603 rfl (lv_at hl 3 rfl) ?_
  refine lv_iconst (v := 1) hx hb dL_law_604 (by decide) ?_
  refine lv_iadd hx hb dL_law_605 ?_
  obtain ⟨g106, h⟩ := gd_e h
  refine va_sld hx hb hX hbl hbA hS g106 dL_law_606 ?_
  refine lv_aload_n hx hb dL_law_607 rfl (lv_at hl 0 rfl) ?_
  refine lv_iload_n hx hb dL_law_608 rfl (lv_at hl 3 rfl) ?_
  refine lv_iconst (v := 2) hx hb dL_law_609 (by decide) ?_
  refine lv_iadd hx hb dL_law_610 ?_
  obtain ⟨g107, h⟩ := gd_e h
  refine va_sld hx hb hX hbl hbA hS g107 dL_law_611 ?_
  refine lv_aload_n hx hb dL_law_612 rfl (lv_at hl 0 rfl) ?_
  refine lv_iload_n hx hb dL_law_613 rfl (lv_at hl 3 rfl) ?_
  refine lv_iconst (v := 3) hx hb dL_law_614 (by decide) ?_
  refine lv_iadd hx hb dL_law_615 ?_
  obtain ⟨g108, h⟩ := gd_e h
  refine va_sld hx hb hX hbl hbA hS g108 dL_law_616 ?_
  obtain ⟨r109, S110, hr109, h⟩ := bd_e h
  refine g_ci hS (g_runV C hR hS (k := 0) (As := [.int (xs (Int32.toNatClampNeg (v3 + (1 : Int32)))), .int (xs (Int32.toNatClampNeg (v3 + (2 : Int32)))), .int (xs (Int32.toNatClampNeg (v3 + (3 : Int32))))]) (rest := []) (c_X10_line l hr109) (live_st (by decide)) rfl vw10 m_X10_line q680 ⟨rfl, rfl⟩ ⟨Nat.le_of_ble_eq_true rfl, Nat.le_of_ble_eq_true rfl⟩ rfl hl.1 rfl (Nat.le_of_ble_eq_true rfl) dL_law_617 (by show _ ≤ 600000 ∧ _ ≤ 7302249; omega)) (fun H locs hR hS => ?_)
  refine lv_aload_n hx hb dL_law_620 rfl (lv_at hl 2 rfl) ?_
  refine lv_aload_n hx hb dL_law_621 rfl (lv_at hl 0 rfl) ?_
  refine lv_iload_n hx hb dL_law_622 rfl (lv_at hl 3 rfl) ?_
  refine lv_iconst (v := 1) hx hb dL_law_623 (by decide) ?_
  refine lv_iadd hx hb dL_law_624 ?_
  obtain ⟨g111, h⟩ := gd_e h
  refine va_sld hx hb hX hbl hbA hS g111 dL_law_625 ?_
  refine lv_aload_n hx hb dL_law_626 rfl (lv_at hl 0 rfl) ?_
  refine lv_iload_n hx hb dL_law_627 rfl (lv_at hl 3 rfl) ?_
  refine lv_iconst (v := 2) hx hb dL_law_628 (by decide) ?_
  refine lv_iadd hx hb dL_law_629 ?_
  obtain ⟨g112, h⟩ := gd_e h
  refine va_sld hx hb hX hbl hbA hS g112 dL_law_630 ?_
  refine lv_aload_n hx hb dL_law_631 rfl (lv_at hl 0 rfl) ?_
  refine lv_iload_n hx hb dL_law_632 rfl (lv_at hl 3 rfl) ?_
  refine lv_iconst (v := 3) hx hb dL_law_633 (by decide) ?_
  refine lv_iadd hx hb dL_law_634 ?_
  obtain ⟨g113, h⟩ := gd_e h
  refine va_sld hx hb hX hbl hbA hS g113 dL_law_635 ?_
  obtain ⟨r114, S115, hr114, h⟩ := bd_e h
  refine g_ci hS (g_runV C hR hS (k := 54) (As := [.int (xs (Int32.toNatClampNeg (v3 + (1 : Int32)))), .int (xs (Int32.toNatClampNeg (v3 + (2 : Int32)))), .int (xs (Int32.toNatClampNeg (v3 + (3 : Int32))))]) (rest := [.int r109]) (c_X11_line l hr114) (live_st (by decide)) rfl vw11 m_X11_line q1236 ⟨rfl, rfl⟩ ⟨Nat.le_of_ble_eq_true rfl, Nat.le_of_ble_eq_true rfl⟩ rfl hl.1 rfl (Nat.le_of_ble_eq_true rfl) dL_law_636 (by show _ ≤ 600000 ∧ _ ≤ 7302249; omega)) (fun H locs hR hS => ?_)
  refine lv_icmp_eq (tgt := 1091) hx hb dL_law_639 (by decide) (fun c116 => ?_) (fun c116 => ?_)
  · have h := ite_t c116 h
    exact hJ _ _ _ _ _ _ _ hR.norm hS hl (by omega) (by omega) h
  · have h := ite_f c116 h
    exact absurd (Option.some.inj h) (by decide)
set_option maxHeartbeats 4000000 in
set_option maxRecDepth 100000 in
theorem w_law_c12 {p : Program} {l : Launch} {e : Env} {s : State} {m : MethodId} {below : List Frame} {meth : Method} {c : Code} {E : En} {b L : Nat} {xs : Nat → Int32} (C : Cx p s m #[Value.ref b] meth c RL cL_law 4 (some .boolean) E) (hKc : Kc E s) (hX : va_X b L xs s s.heap) (hbl : b < s.heap.size) (hbA : ¬ E.2.2.1 b) {v3 : Int32} {J : St → Option Int32} {c0 s0 : Nat} (hcs : c0 + 2 ≤ 600000 ∧ s0 + 29 ≤ 7302249) (hJ : ∀ (S : St) (α : Nat → Nat) (H : Heap) (locs : List Loc) (ls : Array Slot) (ce sl : Nat), Rp E α (nP S, nC S) S H → va_S E.2.2.1 s.heap H locs → lv_has ls 4 [(0, .ref b), (1, .ref (α 0)), (2, .ref (α 54)), (3, .int v3)] → ce ≤ c0 + 2 → sl ≤ s0 + 29 → J S = some 1 → W p l e room_1 s m #[Value.ref b] below meth c H locs ce sl (lw_Z below #[Value.ref b] s) (F0 m 1091 ls [])) {S : St} {α : Nat → Nat} {g : Nat × Nat} (hg : g.1 = nP S ∧ g.2 = nC S) {H : Heap} {locs : List Loc} {ls : Array Slot} (hR : Rp E α g S H) (hS : va_S E.2.2.1 s.heap H locs) (hl : lv_has ls 4 [(0, .ref b), (1, .ref (α 0)), (2, .ref (α 54)), (3, .int v3)]) (h : f_law_c12 xs L v3 J S = some 1) : W p l e room_1 s m #[Value.ref b] below meth c H locs c0 s0 (lw_Z below #[Value.ref b] s) (F0 m 644 ls []) := by
  obtain ⟨hx, hb, hml, hown, hts, hlk, hrt, hKs⟩ := id C
  unfold f_law_c12 at h
  refine lv_aload_n hx hb dL_law_644 rfl (lv_at hl 1 rfl) ?_
  refine lv_aload_n hx hb dL_law_645 rfl (lv_at hl 0 rfl) ?_
  refine lv_iload_n hx hb dL_law_646 rfl (lv_at hl 3 rfl) ?_
  refine lv_iconst (v := 1) hx hb dL_law_647 (by decide) ?_
  refine lv_iadd hx hb dL_law_648 ?_
  obtain ⟨g117, h⟩ := gd_e h
  refine va_sld hx hb hX hbl hbA hS g117 dL_law_649 ?_
  refine lv_aload_n hx hb dL_law_650 rfl (lv_at hl 0 rfl) ?_
  refine lv_iload_n hx hb dL_law_651 rfl (lv_at hl 3 rfl) ?_
  refine lv_iconst (v := 2) hx hb dL_law_652 (by decide) ?_
  refine lv_iadd hx hb dL_law_653 ?_
  obtain ⟨g118, h⟩ := gd_e h
  refine va_sld hx hb hX hbl hbA hS g118 dL_law_654 ?_
  refine lv_aload_n hx hb dL_law_655 rfl (lv_at hl 0 rfl) ?_
  refine lv_iload_n hx hb dL_law_656 rfl (lv_at hl 3 rfl) ?_
  refine lv_iconst (v := 3) hx hb dL_law_657 (by decide) ?_
  refine lv_iadd hx hb dL_law_658 ?_
  obtain ⟨g119, h⟩ := gd_e h
  refine va_sld hx hb hX hbl hbA hS g119 dL_law_659 ?_
  obtain ⟨r120, S121, hr120, h⟩ := bd_e h
  refine g_ci hS (g_runV C hR hS (k := 0) (As := [.int (xs (Int32.toNatClampNeg (v3 + (1 : Int32)))), .int (xs (Int32.toNatClampNeg (v3 + (2 : Int32)))), .int (xs (Int32.toNatClampNeg (v3 + (3 : Int32))))]) (rest := []) (c_X10_jar l hr120) (live_st (by decide)) rfl vw10 m_X10_jar q710 ⟨rfl, rfl⟩ ⟨Nat.le_of_ble_eq_true rfl, Nat.le_of_ble_eq_true rfl⟩ rfl hl.1 rfl (Nat.le_of_ble_eq_true rfl) dL_law_660 (by show _ ≤ 600000 ∧ _ ≤ 7302249; omega)) (fun H locs hR hS => ?_)
  refine lv_aload_n hx hb dL_law_663 rfl (lv_at hl 2 rfl) ?_
  refine lv_aload_n hx hb dL_law_664 rfl (lv_at hl 0 rfl) ?_
  refine lv_iload_n hx hb dL_law_665 rfl (lv_at hl 3 rfl) ?_
  refine lv_iconst (v := 1) hx hb dL_law_666 (by decide) ?_
  refine lv_iadd hx hb dL_law_667 ?_
  obtain ⟨g122, h⟩ := gd_e h
  refine va_sld hx hb hX hbl hbA hS g122 dL_law_668 ?_
  refine lv_aload_n hx hb dL_law_669 rfl (lv_at hl 0 rfl) ?_
  refine lv_iload_n hx hb dL_law_670 rfl (lv_at hl 3 rfl) ?_
  refine lv_iconst (v := 2) hx hb dL_law_671 (by decide) ?_
  refine lv_iadd hx hb dL_law_672 ?_
  obtain ⟨g123, h⟩ := gd_e h
  refine va_sld hx hb hX hbl hbA hS g123 dL_law_673 ?_
  refine lv_aload_n hx hb dL_law_674 rfl (lv_at hl 0 rfl) ?_
  refine lv_iload_n hx hb dL_law_675 rfl (lv_at hl 3 rfl) ?_
  refine lv_iconst (v := 3) hx hb dL_law_676 (by decide) ?_
  refine lv_iadd hx hb dL_law_677 ?_
  obtain ⟨g124, h⟩ := gd_e h
  refine va_sld hx hb hX hbl hbA hS g124 dL_law_678 ?_
  obtain ⟨r125, S126, hr125, h⟩ := bd_e h
  refine g_ci hS (g_runV C hR hS (k := 54) (As := [.int (xs (Int32.toNatClampNeg (v3 + (1 : Int32)))), .int (xs (Int32.toNatClampNeg (v3 + (2 : Int32)))), .int (xs (Int32.toNatClampNeg (v3 + (3 : Int32))))]) (rest := [.int r120]) (c_X11_jar l hr125) (live_st (by decide)) rfl vw11 m_X11_jar q1252 ⟨rfl, rfl⟩ ⟨Nat.le_of_ble_eq_true rfl, Nat.le_of_ble_eq_true rfl⟩ rfl hl.1 rfl (Nat.le_of_ble_eq_true rfl) dL_law_679 (by show _ ≤ 600000 ∧ _ ≤ 7302249; omega)) (fun H locs hR hS => ?_)
  refine lv_icmp_eq (tgt := 1091) hx hb dL_law_682 (by decide) (fun c127 => ?_) (fun c127 => ?_)
  · have h := ite_t c127 h
    exact hJ _ _ _ _ _ _ _ hR.norm hS hl (by omega) (by omega) h
  · have h := ite_f c127 h
    exact absurd (Option.some.inj h) (by decide)
set_option maxHeartbeats 4000000 in
set_option maxRecDepth 100000 in
theorem w_law_c13 {p : Program} {l : Launch} {e : Env} {s : State} {m : MethodId} {below : List Frame} {meth : Method} {c : Code} {E : En} {b L : Nat} {xs : Nat → Int32} (C : Cx p s m #[Value.ref b] meth c RL cL_law 4 (some .boolean) E) (hKc : Kc E s) (hX : va_X b L xs s s.heap) (hbl : b < s.heap.size) (hbA : ¬ E.2.2.1 b) {v3 : Int32} {J : St → Option Int32} {c0 s0 : Nat} (hcs : c0 + 2 ≤ 600000 ∧ s0 + 29 ≤ 7302249) (hJ : ∀ (S : St) (α : Nat → Nat) (H : Heap) (locs : List Loc) (ls : Array Slot) (ce sl : Nat), Rp E α (nP S, nC S) S H → va_S E.2.2.1 s.heap H locs → lv_has ls 4 [(0, .ref b), (1, .ref (α 0)), (2, .ref (α 54)), (3, .int v3)] → ce ≤ c0 + 2 → sl ≤ s0 + 29 → J S = some 1 → W p l e room_1 s m #[Value.ref b] below meth c H locs ce sl (lw_Z below #[Value.ref b] s) (F0 m 1091 ls [])) {S : St} {α : Nat → Nat} {g : Nat × Nat} (hg : g.1 = nP S ∧ g.2 = nC S) {H : Heap} {locs : List Loc} {ls : Array Slot} (hR : Rp E α g S H) (hS : va_S E.2.2.1 s.heap H locs) (hl : lv_has ls 4 [(0, .ref b), (1, .ref (α 0)), (2, .ref (α 54)), (3, .int v3)]) (h : f_law_c13 xs L v3 J S = some 1) : W p l e room_1 s m #[Value.ref b] below meth c H locs c0 s0 (lw_Z below #[Value.ref b] s) (F0 m 687 ls []) := by
  obtain ⟨hx, hb, hml, hown, hts, hlk, hrt, hKs⟩ := id C
  unfold f_law_c13 at h
  refine lv_aload_n hx hb dL_law_687 rfl (lv_at hl 1 rfl) ?_
  refine lv_aload_n hx hb dL_law_688 rfl (lv_at hl 0 rfl) ?_
  refine lv_iload_n hx hb dL_law_689 rfl (lv_at hl 3 rfl) ?_
  refine lv_iconst (v := 1) hx hb dL_law_690 (by decide) ?_
  refine lv_iadd hx hb dL_law_691 ?_
  obtain ⟨g128, h⟩ := gd_e h
  refine va_sld hx hb hX hbl hbA hS g128 dL_law_692 ?_
  refine lv_aload_n hx hb dL_law_693 rfl (lv_at hl 0 rfl) ?_
  refine lv_iload_n hx hb dL_law_694 rfl (lv_at hl 3 rfl) ?_
  refine lv_iconst (v := 2) hx hb dL_law_695 (by decide) ?_
  refine lv_iadd hx hb dL_law_696 ?_
  obtain ⟨g129, h⟩ := gd_e h
  refine va_sld hx hb hX hbl hbA hS g129 dL_law_697 ?_
  refine lv_aload_n hx hb dL_law_698 rfl (lv_at hl 0 rfl) ?_
  refine lv_iload_n hx hb dL_law_699 rfl (lv_at hl 3 rfl) ?_
  refine lv_iconst (v := 3) hx hb dL_law_700 (by decide) ?_
  refine lv_iadd hx hb dL_law_701 ?_
  obtain ⟨g130, h⟩ := gd_e h
  refine va_sld hx hb hX hbl hbA hS g130 dL_law_702 ?_
  refine lv_aload_n hx hb dL_law_703 rfl (lv_at hl 0 rfl) ?_
  refine lv_iload_n hx hb dL_law_704 rfl (lv_at hl 3 rfl) ?_
  refine lv_iconst (v := 4) hx hb dL_law_705 (by decide) ?_
  refine lv_iadd hx hb dL_law_706 ?_
  obtain ⟨g131, h⟩ := gd_e h
  refine va_sld hx hb hX hbl hbA hS g131 dL_law_707 ?_
  refine lv_aload_n hx hb dL_law_708 rfl (lv_at hl 0 rfl) ?_
  refine lv_iload_n hx hb dL_law_709 rfl (lv_at hl 3 rfl) ?_
  refine lv_iconst (v := 5) hx hb dL_law_710 (by decide) ?_
  refine lv_iadd hx hb dL_law_711 ?_
  obtain ⟨g132, h⟩ := gd_e h
  refine va_sld hx hb hX hbl hbA hS g132 dL_law_712 ?_
  refine lv_aload_n hx hb dL_law_713 rfl (lv_at hl 0 rfl) ?_
  refine lv_iload_n hx hb dL_law_714 rfl (lv_at hl 3 rfl) ?_
  refine lv_bipush (v := 6) hx hb dL_law_715 (by decide) ?_
  refine lv_iadd hx hb dL_law_717 ?_
  obtain ⟨g133, h⟩ := gd_e h
  refine va_sld hx hb hX hbl hbA hS g133 dL_law_718 ?_
  obtain ⟨x134, ex134, h⟩ := lt_e h
  have hBx134 : W p l e room_1 s m #[Value.ref b] below meth c H locs c0 s0 (lw_Z below #[Value.ref b] s) (F0 m 727 ls [.int x134, .int (xs (Int32.toNatClampNeg (v3 + (5 : Int32)))), .int (xs (Int32.toNatClampNeg (v3 + (4 : Int32)))), .int (xs (Int32.toNatClampNeg (v3 + (3 : Int32)))), .int (xs (Int32.toNatClampNeg (v3 + (2 : Int32)))), .int (xs (Int32.toNatClampNeg (v3 + (1 : Int32)))), .ref (α 0)]) := by
    clear ex134
    obtain ⟨r136, S137, hr136, h⟩ := bd_e h
    refine g_ca hS (g_runA C hKc hR hS (k := 0) (As := [.int (xs (Int32.toNatClampNeg (v3 + (1 : Int32)))), .int (xs (Int32.toNatClampNeg (v3 + (2 : Int32)))), .int (xs (Int32.toNatClampNeg (v3 + (3 : Int32)))), .int (xs (Int32.toNatClampNeg (v3 + (4 : Int32)))), .int (xs (Int32.toNatClampNeg (v3 + (5 : Int32)))), .int x134]) (rest := []) (c_X10_call l hg hr136) (live_st (by decide)) rfl vw10 m_X10_call q719 ⟨rfl, rfl⟩ ⟨Nat.le_of_ble_eq_true rfl, Nat.le_of_ble_eq_true rfl⟩ rfl hl.1 rfl (Nat.le_of_ble_eq_true rfl) dL_law_727 (by show _ + 2 ≤ 600000 ∧ _ + 29 ≤ 7302249; omega)) (fun α2 g2 H locs hal hR hS => ?_)
    have hl : lv_has ls 4 [(0, .ref b), (1, .ref (α2 0)), (2, .ref (α2 54)), (3, .int v3)] := by rw [(hal 0 (live_st (by decide))).2, (hal 54 (live_st (by decide))).2]; exact hl
    refine lv_aload_n hx hb dL_law_730 rfl (lv_at hl 2 rfl) ?_
    refine lv_aload_n hx hb dL_law_731 rfl (lv_at hl 0 rfl) ?_
    refine lv_iload_n hx hb dL_law_732 rfl (lv_at hl 3 rfl) ?_
    refine lv_iconst (v := 1) hx hb dL_law_733 (by decide) ?_
    refine lv_iadd hx hb dL_law_734 ?_
    obtain ⟨g138, h⟩ := gd_e h
    refine va_sld hx hb hX hbl hbA hS g138 dL_law_735 ?_
    refine lv_aload_n hx hb dL_law_736 rfl (lv_at hl 0 rfl) ?_
    refine lv_iload_n hx hb dL_law_737 rfl (lv_at hl 3 rfl) ?_
    refine lv_iconst (v := 2) hx hb dL_law_738 (by decide) ?_
    refine lv_iadd hx hb dL_law_739 ?_
    obtain ⟨g139, h⟩ := gd_e h
    refine va_sld hx hb hX hbl hbA hS g139 dL_law_740 ?_
    refine lv_aload_n hx hb dL_law_741 rfl (lv_at hl 0 rfl) ?_
    refine lv_iload_n hx hb dL_law_742 rfl (lv_at hl 3 rfl) ?_
    refine lv_iconst (v := 3) hx hb dL_law_743 (by decide) ?_
    refine lv_iadd hx hb dL_law_744 ?_
    obtain ⟨g140, h⟩ := gd_e h
    refine va_sld hx hb hX hbl hbA hS g140 dL_law_745 ?_
    refine lv_aload_n hx hb dL_law_746 rfl (lv_at hl 0 rfl) ?_
    refine lv_iload_n hx hb dL_law_747 rfl (lv_at hl 3 rfl) ?_
    refine lv_iconst (v := 4) hx hb dL_law_748 (by decide) ?_
    refine lv_iadd hx hb dL_law_749 ?_
    obtain ⟨g141, h⟩ := gd_e h
    refine va_sld hx hb hX hbl hbA hS g141 dL_law_750 ?_
    refine lv_aload_n hx hb dL_law_751 rfl (lv_at hl 0 rfl) ?_
    refine lv_iload_n hx hb dL_law_752 rfl (lv_at hl 3 rfl) ?_
    refine lv_iconst (v := 5) hx hb dL_law_753 (by decide) ?_
    refine lv_iadd hx hb dL_law_754 ?_
    obtain ⟨g142, h⟩ := gd_e h
    refine va_sld hx hb hX hbl hbA hS g142 dL_law_755 ?_
    refine lv_aload_n hx hb dL_law_756 rfl (lv_at hl 0 rfl) ?_
    refine lv_iload_n hx hb dL_law_757 rfl (lv_at hl 3 rfl) ?_
    refine lv_bipush (v := 6) hx hb dL_law_758 (by decide) ?_
    refine lv_iadd hx hb dL_law_760 ?_
    obtain ⟨g143, h⟩ := gd_e h
    refine va_sld hx hb hX hbl hbA hS g143 dL_law_761 ?_
    obtain ⟨x144, ex144, h⟩ := lt_e h
    have hBx144 : W p l e room_1 s m #[Value.ref b] below meth c H locs (c0 + 2) (s0 + 29) (lw_Z below #[Value.ref b] s) (F0 m 770 ls [.int x144, .int (xs (Int32.toNatClampNeg (v3 + (5 : Int32)))), .int (xs (Int32.toNatClampNeg (v3 + (4 : Int32)))), .int (xs (Int32.toNatClampNeg (v3 + (3 : Int32)))), .int (xs (Int32.toNatClampNeg (v3 + (2 : Int32)))), .int (xs (Int32.toNatClampNeg (v3 + (1 : Int32)))), .ref (α2 54), .int r136]) := by
      clear ex144
      obtain ⟨r146, S147, hr146, h⟩ := bd_e h
      refine g_ci hS (g_runV C hR hS (k := 54) (As := [.int (xs (Int32.toNatClampNeg (v3 + (1 : Int32)))), .int (xs (Int32.toNatClampNeg (v3 + (2 : Int32)))), .int (xs (Int32.toNatClampNeg (v3 + (3 : Int32)))), .int (xs (Int32.toNatClampNeg (v3 + (4 : Int32)))), .int (xs (Int32.toNatClampNeg (v3 + (5 : Int32)))), .int x144]) (rest := [.int r136]) (c_X11_call l hr146) (live_st (by decide)) rfl vw11 m_X11_call q1264 ⟨rfl, rfl⟩ ⟨Nat.le_of_ble_eq_true rfl, Nat.le_of_ble_eq_true rfl⟩ rfl hl.1 rfl (Nat.le_of_ble_eq_true rfl) dL_law_770 (by show _ ≤ 600000 ∧ _ ≤ 7302249; omega)) (fun H locs hR hS => ?_)
      refine lv_icmp_eq (tgt := 1091) hx hb dL_law_773 (by decide) (fun c148 => ?_) (fun c148 => ?_)
      · have h := ite_t c148 h
        exact hJ _ _ _ _ _ _ _ hR.norm hS hl (by omega) (by omega) h
      · have h := ite_f c148 h
        exact absurd (Option.some.inj h) (by decide)
    refine lv_if_eq (tgt := 769) hx hb dL_law_762 (by decide) (fun c145 => ?_) (fun c145 => ?_)
    · refine lv_iconst (v := 0) hx hb dL_law_769 (by decide) ?_
      rw [if_pos c145] at ex144
      rw [ex144] at hBx144
      exact hBx144
    · refine lv_iconst (v := 1) hx hb dL_law_765 (by decide) ?_
      refine lv_goto (tgt := 770) hx hb dL_law_766 (by decide) ?_
      rw [if_neg c145] at ex144
      rw [ex144] at hBx144
      exact hBx144
  refine lv_if_eq (tgt := 726) hx hb dL_law_719 (by decide) (fun c135 => ?_) (fun c135 => ?_)
  · refine lv_iconst (v := 0) hx hb dL_law_726 (by decide) ?_
    rw [if_pos c135] at ex134
    rw [ex134] at hBx134
    exact hBx134
  · refine lv_iconst (v := 1) hx hb dL_law_722 (by decide) ?_
    refine lv_goto (tgt := 727) hx hb dL_law_723 (by decide) ?_
    rw [if_neg c135] at ex134
    rw [ex134] at hBx134
    exact hBx134
set_option maxHeartbeats 4000000 in
set_option maxRecDepth 100000 in
theorem w_law_c14 {p : Program} {l : Launch} {e : Env} {s : State} {m : MethodId} {below : List Frame} {meth : Method} {c : Code} {E : En} {b L : Nat} {xs : Nat → Int32} (C : Cx p s m #[Value.ref b] meth c RL cL_law 4 (some .boolean) E) (hKc : Kc E s) (hX : va_X b L xs s s.heap) (hbl : b < s.heap.size) (hbA : ¬ E.2.2.1 b) {v3 : Int32} {J : St → Option Int32} {c0 s0 : Nat} (hcs : c0 + 2 ≤ 600000 ∧ s0 + 29 ≤ 7302249) (hJ : ∀ (S : St) (α : Nat → Nat) (H : Heap) (locs : List Loc) (ls : Array Slot) (ce sl : Nat), Rp E α (nP S, nC S) S H → va_S E.2.2.1 s.heap H locs → lv_has ls 4 [(0, .ref b), (1, .ref (α 0)), (2, .ref (α 54)), (3, .int v3)] → ce ≤ c0 + 2 → sl ≤ s0 + 29 → J S = some 1 → W p l e room_1 s m #[Value.ref b] below meth c H locs ce sl (lw_Z below #[Value.ref b] s) (F0 m 1091 ls [])) {S : St} {α : Nat → Nat} {g : Nat × Nat} (hg : g.1 = nP S ∧ g.2 = nC S) {H : Heap} {locs : List Loc} {ls : Array Slot} (hR : Rp E α g S H) (hS : va_S E.2.2.1 s.heap H locs) (hl : lv_has ls 4 [(0, .ref b), (1, .ref (α 0)), (2, .ref (α 54)), (3, .int v3)]) (h : f_law_c14 xs L v3 J S = some 1) : W p l e room_1 s m #[Value.ref b] below meth c H locs c0 s0 (lw_Z below #[Value.ref b] s) (F0 m 778 ls []) := by
  obtain ⟨hx, hb, hml, hown, hts, hlk, hrt, hKs⟩ := id C
  unfold f_law_c14 at h
  refine lv_aload_n hx hb dL_law_778 rfl (lv_at hl 1 rfl) ?_
  refine lv_aload_n hx hb dL_law_779 rfl (lv_at hl 0 rfl) ?_
  refine lv_iload_n hx hb dL_law_780 rfl (lv_at hl 3 rfl) ?_
  refine lv_iconst (v := 1) hx hb dL_law_781 (by decide) ?_
  refine lv_iadd hx hb dL_law_782 ?_
  obtain ⟨g149, h⟩ := gd_e h
  refine va_sld hx hb hX hbl hbA hS g149 dL_law_783 ?_
  obtain ⟨r150, S151, hr150, h⟩ := bd_e h
  refine g_ci hS (g_runV C hR hS (k := 0) (As := [.int (xs (Int32.toNatClampNeg (v3 + (1 : Int32))))]) (rest := []) (c_X10_run l hr150) (live_st (by decide)) rfl vw10 m_X10_run q784 ⟨rfl, rfl⟩ ⟨Nat.le_of_ble_eq_true rfl, Nat.le_of_ble_eq_true rfl⟩ rfl hl.1 rfl (Nat.le_of_ble_eq_true rfl) dL_law_784 (by show _ ≤ 600000 ∧ _ ≤ 7302249; omega)) (fun H locs hR hS => ?_)
  refine lv_aload_n hx hb dL_law_787 rfl (lv_at hl 2 rfl) ?_
  refine lv_aload_n hx hb dL_law_788 rfl (lv_at hl 0 rfl) ?_
  refine lv_iload_n hx hb dL_law_789 rfl (lv_at hl 3 rfl) ?_
  refine lv_iconst (v := 1) hx hb dL_law_790 (by decide) ?_
  refine lv_iadd hx hb dL_law_791 ?_
  obtain ⟨g152, h⟩ := gd_e h
  refine va_sld hx hb hX hbl hbA hS g152 dL_law_792 ?_
  obtain ⟨r153, S154, hr153, h⟩ := bd_e h
  refine g_ci hS (g_runV C hR hS (k := 54) (As := [.int (xs (Int32.toNatClampNeg (v3 + (1 : Int32))))]) (rest := [.int r150]) (c_X11_run l hr153) (live_st (by decide)) rfl vw11 m_X11_run q1271 ⟨rfl, rfl⟩ ⟨Nat.le_of_ble_eq_true rfl, Nat.le_of_ble_eq_true rfl⟩ rfl hl.1 rfl (Nat.le_of_ble_eq_true rfl) dL_law_793 (by show _ ≤ 600000 ∧ _ ≤ 7302249; omega)) (fun H locs hR hS => ?_)
  refine lv_icmp_eq (tgt := 1091) hx hb dL_law_796 (by decide) (fun c155 => ?_) (fun c155 => ?_)
  · have h := ite_t c155 h
    exact hJ _ _ _ _ _ _ _ hR.norm hS hl (by omega) (by omega) h
  · have h := ite_f c155 h
    exact absurd (Option.some.inj h) (by decide)
set_option maxHeartbeats 4000000 in
set_option maxRecDepth 100000 in
theorem w_law_c15 {p : Program} {l : Launch} {e : Env} {s : State} {m : MethodId} {below : List Frame} {meth : Method} {c : Code} {E : En} {b L : Nat} {xs : Nat → Int32} (C : Cx p s m #[Value.ref b] meth c RL cL_law 4 (some .boolean) E) (hKc : Kc E s) (hX : va_X b L xs s s.heap) (hbl : b < s.heap.size) (hbA : ¬ E.2.2.1 b) {v3 : Int32} {J : St → Option Int32} {c0 s0 : Nat} (hcs : c0 + 2 ≤ 600000 ∧ s0 + 29 ≤ 7302249) (hJ : ∀ (S : St) (α : Nat → Nat) (H : Heap) (locs : List Loc) (ls : Array Slot) (ce sl : Nat), Rp E α (nP S, nC S) S H → va_S E.2.2.1 s.heap H locs → lv_has ls 4 [(0, .ref b), (1, .ref (α 0)), (2, .ref (α 54)), (3, .int v3)] → ce ≤ c0 + 2 → sl ≤ s0 + 29 → J S = some 1 → W p l e room_1 s m #[Value.ref b] below meth c H locs ce sl (lw_Z below #[Value.ref b] s) (F0 m 1091 ls [])) {S : St} {α : Nat → Nat} {g : Nat × Nat} (hg : g.1 = nP S ∧ g.2 = nC S) {H : Heap} {locs : List Loc} {ls : Array Slot} (hR : Rp E α g S H) (hS : va_S E.2.2.1 s.heap H locs) (hl : lv_has ls 4 [(0, .ref b), (1, .ref (α 0)), (2, .ref (α 54)), (3, .int v3)]) (h : f_law_c15 xs L v3 J S = some 1) : W p l e room_1 s m #[Value.ref b] below meth c H locs c0 s0 (lw_Z below #[Value.ref b] s) (F0 m 801 ls []) := by
  obtain ⟨hx, hb, hml, hown, hts, hlk, hrt, hKs⟩ := id C
  unfold f_law_c15 at h
  refine lv_aload_n hx hb dL_law_801 rfl (lv_at hl 1 rfl) ?_
  refine lv_aload_n hx hb dL_law_802 rfl (lv_at hl 0 rfl) ?_
  refine lv_iload_n hx hb dL_law_803 rfl (lv_at hl 3 rfl) ?_
  refine lv_iconst (v := 1) hx hb dL_law_804 (by decide) ?_
  refine lv_iadd hx hb dL_law_805 ?_
  obtain ⟨g156, h⟩ := gd_e h
  refine va_sld hx hb hX hbl hbA hS g156 dL_law_806 ?_
  refine lv_aload_n hx hb dL_law_807 rfl (lv_at hl 0 rfl) ?_
  refine lv_iload_n hx hb dL_law_808 rfl (lv_at hl 3 rfl) ?_
  refine lv_iconst (v := 2) hx hb dL_law_809 (by decide) ?_
  refine lv_iadd hx hb dL_law_810 ?_
  obtain ⟨g157, h⟩ := gd_e h
  refine va_sld hx hb hX hbl hbA hS g157 dL_law_811 ?_
  obtain ⟨r158, S159, hr158, h⟩ := bd_e h
  refine g_ci hS (g_runV C hR hS (k := 0) (As := [.int (xs (Int32.toNatClampNeg (v3 + (1 : Int32)))), .int (xs (Int32.toNatClampNeg (v3 + (2 : Int32))))]) (rest := []) (c_X10_heard l hr158) (live_st (by decide)) rfl vw10 m_X10_heard q830 ⟨rfl, rfl⟩ ⟨Nat.le_of_ble_eq_true rfl, Nat.le_of_ble_eq_true rfl⟩ rfl hl.1 rfl (Nat.le_of_ble_eq_true rfl) dL_law_812 (by show _ ≤ 600000 ∧ _ ≤ 7302249; omega)) (fun H locs hR hS => ?_)
  refine lv_aload_n hx hb dL_law_815 rfl (lv_at hl 2 rfl) ?_
  refine lv_aload_n hx hb dL_law_816 rfl (lv_at hl 0 rfl) ?_
  refine lv_iload_n hx hb dL_law_817 rfl (lv_at hl 3 rfl) ?_
  refine lv_iconst (v := 1) hx hb dL_law_818 (by decide) ?_
  refine lv_iadd hx hb dL_law_819 ?_
  obtain ⟨g160, h⟩ := gd_e h
  refine va_sld hx hb hX hbl hbA hS g160 dL_law_820 ?_
  refine lv_aload_n hx hb dL_law_821 rfl (lv_at hl 0 rfl) ?_
  refine lv_iload_n hx hb dL_law_822 rfl (lv_at hl 3 rfl) ?_
  refine lv_iconst (v := 2) hx hb dL_law_823 (by decide) ?_
  refine lv_iadd hx hb dL_law_824 ?_
  obtain ⟨g161, h⟩ := gd_e h
  refine va_sld hx hb hX hbl hbA hS g161 dL_law_825 ?_
  obtain ⟨r162, S163, hr162, h⟩ := bd_e h
  refine g_ci hS (g_runV C hR hS (k := 54) (As := [.int (xs (Int32.toNatClampNeg (v3 + (1 : Int32)))), .int (xs (Int32.toNatClampNeg (v3 + (2 : Int32))))]) (rest := [.int r158]) (c_X11_heard l hr162) (live_st (by decide)) rfl vw11 m_X11_heard q1295 ⟨rfl, rfl⟩ ⟨Nat.le_of_ble_eq_true rfl, Nat.le_of_ble_eq_true rfl⟩ rfl hl.1 rfl (Nat.le_of_ble_eq_true rfl) dL_law_826 (by show _ ≤ 600000 ∧ _ ≤ 7302249; omega)) (fun H locs hR hS => ?_)
  refine lv_icmp_eq (tgt := 1091) hx hb dL_law_829 (by decide) (fun c164 => ?_) (fun c164 => ?_)
  · have h := ite_t c164 h
    exact hJ _ _ _ _ _ _ _ hR.norm hS hl (by omega) (by omega) h
  · have h := ite_f c164 h
    exact absurd (Option.some.inj h) (by decide)
set_option maxHeartbeats 4000000 in
set_option maxRecDepth 100000 in
theorem w_law_c16 {p : Program} {l : Launch} {e : Env} {s : State} {m : MethodId} {below : List Frame} {meth : Method} {c : Code} {E : En} {b L : Nat} {xs : Nat → Int32} (C : Cx p s m #[Value.ref b] meth c RL cL_law 4 (some .boolean) E) (hKc : Kc E s) (hX : va_X b L xs s s.heap) (hbl : b < s.heap.size) (hbA : ¬ E.2.2.1 b) {v3 : Int32} {J : St → Option Int32} {c0 s0 : Nat} (hcs : c0 + 2 ≤ 600000 ∧ s0 + 29 ≤ 7302249) (hJ : ∀ (S : St) (α : Nat → Nat) (H : Heap) (locs : List Loc) (ls : Array Slot) (ce sl : Nat), Rp E α (nP S, nC S) S H → va_S E.2.2.1 s.heap H locs → lv_has ls 4 [(0, .ref b), (1, .ref (α 0)), (2, .ref (α 54)), (3, .int v3)] → ce ≤ c0 + 2 → sl ≤ s0 + 29 → J S = some 1 → W p l e room_1 s m #[Value.ref b] below meth c H locs ce sl (lw_Z below #[Value.ref b] s) (F0 m 1091 ls [])) {S : St} {α : Nat → Nat} {g : Nat × Nat} (hg : g.1 = nP S ∧ g.2 = nC S) {H : Heap} {locs : List Loc} {ls : Array Slot} (hR : Rp E α g S H) (hS : va_S E.2.2.1 s.heap H locs) (hl : lv_has ls 4 [(0, .ref b), (1, .ref (α 0)), (2, .ref (α 54)), (3, .int v3)]) (h : f_law_c16 xs L v3 J S = some 1) : W p l e room_1 s m #[Value.ref b] below meth c H locs c0 s0 (lw_Z below #[Value.ref b] s) (F0 m 834 ls []) := by
  obtain ⟨hx, hb, hml, hown, hts, hlk, hrt, hKs⟩ := id C
  unfold f_law_c16 at h
  refine lv_aload_n hx hb dL_law_834 rfl (lv_at hl 1 rfl) ?_
  refine lv_aload_n hx hb dL_law_835 rfl (lv_at hl 0 rfl) ?_
  refine lv_iload_n hx hb dL_law_836 rfl (lv_at hl 3 rfl) ?_
  refine lv_iconst (v := 1) hx hb dL_law_837 (by decide) ?_
  refine lv_iadd hx hb dL_law_838 ?_
  obtain ⟨g165, h⟩ := gd_e h
  refine va_sld hx hb hX hbl hbA hS g165 dL_law_839 ?_
  obtain ⟨r166, S167, hr166, h⟩ := bd_e h
  refine g_ci hS (g_runV C hR hS (k := 0) (As := [.int (xs (Int32.toNatClampNeg (v3 + (1 : Int32))))]) (rest := []) (c_X10_speaks l hr166) (live_st (by decide)) rfl vw10 m_X10_speaks q834 ⟨rfl, rfl⟩ ⟨Nat.le_of_ble_eq_true rfl, Nat.le_of_ble_eq_true rfl⟩ rfl hl.1 rfl (Nat.le_of_ble_eq_true rfl) dL_law_840 (by show _ ≤ 600000 ∧ _ ≤ 7302249; omega)) (fun H locs hR hS => ?_)
  refine lv_aload_n hx hb dL_law_843 rfl (lv_at hl 2 rfl) ?_
  refine lv_aload_n hx hb dL_law_844 rfl (lv_at hl 0 rfl) ?_
  refine lv_iload_n hx hb dL_law_845 rfl (lv_at hl 3 rfl) ?_
  refine lv_iconst (v := 1) hx hb dL_law_846 (by decide) ?_
  refine lv_iadd hx hb dL_law_847 ?_
  obtain ⟨g168, h⟩ := gd_e h
  refine va_sld hx hb hX hbl hbA hS g168 dL_law_848 ?_
  obtain ⟨r169, S170, hr169, h⟩ := bd_e h
  refine g_ci hS (g_runV C hR hS (k := 54) (As := [.int (xs (Int32.toNatClampNeg (v3 + (1 : Int32))))]) (rest := [.int r166]) (c_X11_speaks l hr169) (live_st (by decide)) rfl vw11 m_X11_speaks q1299 ⟨rfl, rfl⟩ ⟨Nat.le_of_ble_eq_true rfl, Nat.le_of_ble_eq_true rfl⟩ rfl hl.1 rfl (Nat.le_of_ble_eq_true rfl) dL_law_849 (by show _ ≤ 600000 ∧ _ ≤ 7302249; omega)) (fun H locs hR hS => ?_)
  refine lv_icmp_eq (tgt := 1091) hx hb dL_law_852 (by decide) (fun c171 => ?_) (fun c171 => ?_)
  · have h := ite_t c171 h
    exact hJ _ _ _ _ _ _ _ hR.norm hS hl (by omega) (by omega) h
  · have h := ite_f c171 h
    exact absurd (Option.some.inj h) (by decide)
set_option maxHeartbeats 4000000 in
set_option maxRecDepth 100000 in
theorem w_law_c17 {p : Program} {l : Launch} {e : Env} {s : State} {m : MethodId} {below : List Frame} {meth : Method} {c : Code} {E : En} {b L : Nat} {xs : Nat → Int32} (C : Cx p s m #[Value.ref b] meth c RL cL_law 4 (some .boolean) E) (hKc : Kc E s) (hX : va_X b L xs s s.heap) (hbl : b < s.heap.size) (hbA : ¬ E.2.2.1 b) {v3 : Int32} {J : St → Option Int32} {c0 s0 : Nat} (hcs : c0 + 2 ≤ 600000 ∧ s0 + 29 ≤ 7302249) (hJ : ∀ (S : St) (α : Nat → Nat) (H : Heap) (locs : List Loc) (ls : Array Slot) (ce sl : Nat), Rp E α (nP S, nC S) S H → va_S E.2.2.1 s.heap H locs → lv_has ls 4 [(0, .ref b), (1, .ref (α 0)), (2, .ref (α 54)), (3, .int v3)] → ce ≤ c0 + 2 → sl ≤ s0 + 29 → J S = some 1 → W p l e room_1 s m #[Value.ref b] below meth c H locs ce sl (lw_Z below #[Value.ref b] s) (F0 m 1091 ls [])) {S : St} {α : Nat → Nat} {g : Nat × Nat} (hg : g.1 = nP S ∧ g.2 = nC S) {H : Heap} {locs : List Loc} {ls : Array Slot} (hR : Rp E α g S H) (hS : va_S E.2.2.1 s.heap H locs) (hl : lv_has ls 4 [(0, .ref b), (1, .ref (α 0)), (2, .ref (α 54)), (3, .int v3)]) (h : f_law_c17 xs L v3 J S = some 1) : W p l e room_1 s m #[Value.ref b] below meth c H locs c0 s0 (lw_Z below #[Value.ref b] s) (F0 m 857 ls []) := by
  obtain ⟨hx, hb, hml, hown, hts, hlk, hrt, hKs⟩ := id C
  unfold f_law_c17 at h
  refine lv_aload_n hx hb dL_law_857 rfl (lv_at hl 1 rfl) ?_
  refine lv_aload_n hx hb dL_law_858 rfl (lv_at hl 0 rfl) ?_
  refine lv_iload_n hx hb dL_law_859 rfl (lv_at hl 3 rfl) ?_
  refine lv_iconst (v := 1) hx hb dL_law_860 (by decide) ?_
  refine lv_iadd hx hb dL_law_861 ?_
  obtain ⟨g172, h⟩ := gd_e h
  refine va_sld hx hb hX hbl hbA hS g172 dL_law_862 ?_
  refine lv_aload_n hx hb dL_law_863 rfl (lv_at hl 0 rfl) ?_
  refine lv_iload_n hx hb dL_law_864 rfl (lv_at hl 3 rfl) ?_
  refine lv_iconst (v := 2) hx hb dL_law_865 (by decide) ?_
  refine lv_iadd hx hb dL_law_866 ?_
  obtain ⟨g173, h⟩ := gd_e h
  refine va_sld hx hb hX hbl hbA hS g173 dL_law_867 ?_
  obtain ⟨r174, S175, hr174, h⟩ := bd_e h
  refine g_ci hS (g_runV C hR hS (k := 0) (As := [.int (xs (Int32.toNatClampNeg (v3 + (1 : Int32)))), .int (xs (Int32.toNatClampNeg (v3 + (2 : Int32))))]) (rest := []) (c_X10_voice l hr174) (live_st (by decide)) rfl vw10 m_X10_voice q838 ⟨rfl, rfl⟩ ⟨Nat.le_of_ble_eq_true rfl, Nat.le_of_ble_eq_true rfl⟩ rfl hl.1 rfl (Nat.le_of_ble_eq_true rfl) dL_law_868 (by show _ ≤ 600000 ∧ _ ≤ 7302249; omega)) (fun H locs hR hS => ?_)
  refine lv_aload_n hx hb dL_law_871 rfl (lv_at hl 2 rfl) ?_
  refine lv_aload_n hx hb dL_law_872 rfl (lv_at hl 0 rfl) ?_
  refine lv_iload_n hx hb dL_law_873 rfl (lv_at hl 3 rfl) ?_
  refine lv_iconst (v := 1) hx hb dL_law_874 (by decide) ?_
  refine lv_iadd hx hb dL_law_875 ?_
  obtain ⟨g176, h⟩ := gd_e h
  refine va_sld hx hb hX hbl hbA hS g176 dL_law_876 ?_
  refine lv_aload_n hx hb dL_law_877 rfl (lv_at hl 0 rfl) ?_
  refine lv_iload_n hx hb dL_law_878 rfl (lv_at hl 3 rfl) ?_
  refine lv_iconst (v := 2) hx hb dL_law_879 (by decide) ?_
  refine lv_iadd hx hb dL_law_880 ?_
  obtain ⟨g177, h⟩ := gd_e h
  refine va_sld hx hb hX hbl hbA hS g177 dL_law_881 ?_
  obtain ⟨r178, S179, hr178, h⟩ := bd_e h
  refine g_ci hS (g_runV C hR hS (k := 54) (As := [.int (xs (Int32.toNatClampNeg (v3 + (1 : Int32)))), .int (xs (Int32.toNatClampNeg (v3 + (2 : Int32))))]) (rest := [.int r174]) (c_X11_voice l hr178) (live_st (by decide)) rfl vw11 m_X11_voice q1303 ⟨rfl, rfl⟩ ⟨Nat.le_of_ble_eq_true rfl, Nat.le_of_ble_eq_true rfl⟩ rfl hl.1 rfl (Nat.le_of_ble_eq_true rfl) dL_law_882 (by show _ ≤ 600000 ∧ _ ≤ 7302249; omega)) (fun H locs hR hS => ?_)
  refine lv_icmp_eq (tgt := 1091) hx hb dL_law_885 (by decide) (fun c180 => ?_) (fun c180 => ?_)
  · have h := ite_t c180 h
    exact hJ _ _ _ _ _ _ _ hR.norm hS hl (by omega) (by omega) h
  · have h := ite_f c180 h
    exact absurd (Option.some.inj h) (by decide)
set_option maxHeartbeats 4000000 in
set_option maxRecDepth 100000 in
theorem w_law_c18 {p : Program} {l : Launch} {e : Env} {s : State} {m : MethodId} {below : List Frame} {meth : Method} {c : Code} {E : En} {b L : Nat} {xs : Nat → Int32} (C : Cx p s m #[Value.ref b] meth c RL cL_law 4 (some .boolean) E) (hKc : Kc E s) (hX : va_X b L xs s s.heap) (hbl : b < s.heap.size) (hbA : ¬ E.2.2.1 b) {v3 : Int32} {J : St → Option Int32} {c0 s0 : Nat} (hcs : c0 + 2 ≤ 600000 ∧ s0 + 29 ≤ 7302249) (hJ : ∀ (S : St) (α : Nat → Nat) (H : Heap) (locs : List Loc) (ls : Array Slot) (ce sl : Nat), Rp E α (nP S, nC S) S H → va_S E.2.2.1 s.heap H locs → lv_has ls 4 [(0, .ref b), (1, .ref (α 0)), (2, .ref (α 54)), (3, .int v3)] → ce ≤ c0 + 2 → sl ≤ s0 + 29 → J S = some 1 → W p l e room_1 s m #[Value.ref b] below meth c H locs ce sl (lw_Z below #[Value.ref b] s) (F0 m 1091 ls [])) {S : St} {α : Nat → Nat} {g : Nat × Nat} (hg : g.1 = nP S ∧ g.2 = nC S) {H : Heap} {locs : List Loc} {ls : Array Slot} (hR : Rp E α g S H) (hS : va_S E.2.2.1 s.heap H locs) (hl : lv_has ls 4 [(0, .ref b), (1, .ref (α 0)), (2, .ref (α 54)), (3, .int v3)]) (h : f_law_c18 xs L v3 J S = some 1) : W p l e room_1 s m #[Value.ref b] below meth c H locs c0 s0 (lw_Z below #[Value.ref b] s) (F0 m 890 ls []) := by
  obtain ⟨hx, hb, hml, hown, hts, hlk, hrt, hKs⟩ := id C
  unfold f_law_c18 at h
  refine lv_aload_n hx hb dL_law_890 rfl (lv_at hl 1 rfl) ?_
  refine lv_aload_n hx hb dL_law_891 rfl (lv_at hl 0 rfl) ?_
  refine lv_iload_n hx hb dL_law_892 rfl (lv_at hl 3 rfl) ?_
  refine lv_iconst (v := 1) hx hb dL_law_893 (by decide) ?_
  refine lv_iadd hx hb dL_law_894 ?_
  obtain ⟨g181, h⟩ := gd_e h
  refine va_sld hx hb hX hbl hbA hS g181 dL_law_895 ?_
  refine lv_aload_n hx hb dL_law_896 rfl (lv_at hl 0 rfl) ?_
  refine lv_iload_n hx hb dL_law_897 rfl (lv_at hl 3 rfl) ?_
  refine lv_iconst (v := 2) hx hb dL_law_898 (by decide) ?_
  refine lv_iadd hx hb dL_law_899 ?_
  obtain ⟨g182, h⟩ := gd_e h
  refine va_sld hx hb hX hbl hbA hS g182 dL_law_900 ?_
  refine lv_aload_n hx hb dL_law_901 rfl (lv_at hl 0 rfl) ?_
  refine lv_iload_n hx hb dL_law_902 rfl (lv_at hl 3 rfl) ?_
  refine lv_iconst (v := 3) hx hb dL_law_903 (by decide) ?_
  refine lv_iadd hx hb dL_law_904 ?_
  obtain ⟨g183, h⟩ := gd_e h
  refine va_sld hx hb hX hbl hbA hS g183 dL_law_905 ?_
  obtain ⟨r184, S185, hr184, h⟩ := bd_e h
  refine g_ci hS (g_runV C hR hS (k := 0) (As := [.int (xs (Int32.toNatClampNeg (v3 + (1 : Int32)))), .int (xs (Int32.toNatClampNeg (v3 + (2 : Int32)))), .int (xs (Int32.toNatClampNeg (v3 + (3 : Int32))))]) (rest := []) (c_X10_wish l hr184) (live_st (by decide)) rfl vw10 m_X10_wish q842 ⟨rfl, rfl⟩ ⟨Nat.le_of_ble_eq_true rfl, Nat.le_of_ble_eq_true rfl⟩ rfl hl.1 rfl (Nat.le_of_ble_eq_true rfl) dL_law_906 (by show _ ≤ 600000 ∧ _ ≤ 7302249; omega)) (fun H locs hR hS => ?_)
  refine lv_aload_n hx hb dL_law_909 rfl (lv_at hl 2 rfl) ?_
  refine lv_aload_n hx hb dL_law_910 rfl (lv_at hl 0 rfl) ?_
  refine lv_iload_n hx hb dL_law_911 rfl (lv_at hl 3 rfl) ?_
  refine lv_iconst (v := 1) hx hb dL_law_912 (by decide) ?_
  refine lv_iadd hx hb dL_law_913 ?_
  obtain ⟨g186, h⟩ := gd_e h
  refine va_sld hx hb hX hbl hbA hS g186 dL_law_914 ?_
  refine lv_aload_n hx hb dL_law_915 rfl (lv_at hl 0 rfl) ?_
  refine lv_iload_n hx hb dL_law_916 rfl (lv_at hl 3 rfl) ?_
  refine lv_iconst (v := 2) hx hb dL_law_917 (by decide) ?_
  refine lv_iadd hx hb dL_law_918 ?_
  obtain ⟨g187, h⟩ := gd_e h
  refine va_sld hx hb hX hbl hbA hS g187 dL_law_919 ?_
  refine lv_aload_n hx hb dL_law_920 rfl (lv_at hl 0 rfl) ?_
  refine lv_iload_n hx hb dL_law_921 rfl (lv_at hl 3 rfl) ?_
  refine lv_iconst (v := 3) hx hb dL_law_922 (by decide) ?_
  refine lv_iadd hx hb dL_law_923 ?_
  obtain ⟨g188, h⟩ := gd_e h
  refine va_sld hx hb hX hbl hbA hS g188 dL_law_924 ?_
  obtain ⟨r189, S190, hr189, h⟩ := bd_e h
  refine g_ci hS (g_runV C hR hS (k := 54) (As := [.int (xs (Int32.toNatClampNeg (v3 + (1 : Int32)))), .int (xs (Int32.toNatClampNeg (v3 + (2 : Int32)))), .int (xs (Int32.toNatClampNeg (v3 + (3 : Int32))))]) (rest := [.int r184]) (c_X11_wish l hr189) (live_st (by decide)) rfl vw11 m_X11_wish q1307 ⟨rfl, rfl⟩ ⟨Nat.le_of_ble_eq_true rfl, Nat.le_of_ble_eq_true rfl⟩ rfl hl.1 rfl (Nat.le_of_ble_eq_true rfl) dL_law_925 (by show _ ≤ 600000 ∧ _ ≤ 7302249; omega)) (fun H locs hR hS => ?_)
  refine lv_icmp_eq (tgt := 1091) hx hb dL_law_928 (by decide) (fun c191 => ?_) (fun c191 => ?_)
  · have h := ite_t c191 h
    exact hJ _ _ _ _ _ _ _ hR.norm hS hl (by omega) (by omega) h
  · have h := ite_f c191 h
    exact absurd (Option.some.inj h) (by decide)
set_option maxHeartbeats 4000000 in
set_option maxRecDepth 100000 in
theorem w_law_c19 {p : Program} {l : Launch} {e : Env} {s : State} {m : MethodId} {below : List Frame} {meth : Method} {c : Code} {E : En} {b L : Nat} {xs : Nat → Int32} (C : Cx p s m #[Value.ref b] meth c RL cL_law 4 (some .boolean) E) (hKc : Kc E s) (hX : va_X b L xs s s.heap) (hbl : b < s.heap.size) (hbA : ¬ E.2.2.1 b) {v3 : Int32} {J : St → Option Int32} {c0 s0 : Nat} (hcs : c0 + 2 ≤ 600000 ∧ s0 + 29 ≤ 7302249) (hJ : ∀ (S : St) (α : Nat → Nat) (H : Heap) (locs : List Loc) (ls : Array Slot) (ce sl : Nat), Rp E α (nP S, nC S) S H → va_S E.2.2.1 s.heap H locs → lv_has ls 4 [(0, .ref b), (1, .ref (α 0)), (2, .ref (α 54)), (3, .int v3)] → ce ≤ c0 + 2 → sl ≤ s0 + 29 → J S = some 1 → W p l e room_1 s m #[Value.ref b] below meth c H locs ce sl (lw_Z below #[Value.ref b] s) (F0 m 1091 ls [])) {S : St} {α : Nat → Nat} {g : Nat × Nat} (hg : g.1 = nP S ∧ g.2 = nC S) {H : Heap} {locs : List Loc} {ls : Array Slot} (hR : Rp E α g S H) (hS : va_S E.2.2.1 s.heap H locs) (hl : lv_has ls 4 [(0, .ref b), (1, .ref (α 0)), (2, .ref (α 54)), (3, .int v3)]) (h : f_law_c19 xs L v3 J S = some 1) : W p l e room_1 s m #[Value.ref b] below meth c H locs c0 s0 (lw_Z below #[Value.ref b] s) (F0 m 933 ls []) := by
  obtain ⟨hx, hb, hml, hown, hts, hlk, hrt, hKs⟩ := id C
  unfold f_law_c19 at h
  refine lv_aload_n hx hb dL_law_933 rfl (lv_at hl 1 rfl) ?_
  refine lv_aload_n hx hb dL_law_934 rfl (lv_at hl 0 rfl) ?_
  refine lv_iload_n hx hb dL_law_935 rfl (lv_at hl 3 rfl) ?_
  refine lv_iconst (v := 1) hx hb dL_law_936 (by decide) ?_
  refine lv_iadd hx hb dL_law_937 ?_
  obtain ⟨g192, h⟩ := gd_e h
  refine va_sld hx hb hX hbl hbA hS g192 dL_law_938 ?_
  obtain ⟨r193, S194, hr193, h⟩ := bd_e h
  refine g_ci hS (g_runV C hR hS (k := 0) (As := [.int (xs (Int32.toNatClampNeg (v3 + (1 : Int32))))]) (rest := []) (c_X10_change l hr193) (live_st (by decide)) rfl vw10 m_X10_change q846 ⟨rfl, rfl⟩ ⟨Nat.le_of_ble_eq_true rfl, Nat.le_of_ble_eq_true rfl⟩ rfl hl.1 rfl (Nat.le_of_ble_eq_true rfl) dL_law_939 (by show _ ≤ 600000 ∧ _ ≤ 7302249; omega)) (fun H locs hR hS => ?_)
  refine lv_aload_n hx hb dL_law_942 rfl (lv_at hl 2 rfl) ?_
  refine lv_aload_n hx hb dL_law_943 rfl (lv_at hl 0 rfl) ?_
  refine lv_iload_n hx hb dL_law_944 rfl (lv_at hl 3 rfl) ?_
  refine lv_iconst (v := 1) hx hb dL_law_945 (by decide) ?_
  refine lv_iadd hx hb dL_law_946 ?_
  obtain ⟨g195, h⟩ := gd_e h
  refine va_sld hx hb hX hbl hbA hS g195 dL_law_947 ?_
  obtain ⟨r196, S197, hr196, h⟩ := bd_e h
  refine g_ci hS (g_runV C hR hS (k := 54) (As := [.int (xs (Int32.toNatClampNeg (v3 + (1 : Int32))))]) (rest := [.int r193]) (c_X11_change l hr196) (live_st (by decide)) rfl vw11 m_X11_change q1311 ⟨rfl, rfl⟩ ⟨Nat.le_of_ble_eq_true rfl, Nat.le_of_ble_eq_true rfl⟩ rfl hl.1 rfl (Nat.le_of_ble_eq_true rfl) dL_law_948 (by show _ ≤ 600000 ∧ _ ≤ 7302249; omega)) (fun H locs hR hS => ?_)
  refine lv_icmp_eq (tgt := 1091) hx hb dL_law_951 (by decide) (fun c198 => ?_) (fun c198 => ?_)
  · have h := ite_t c198 h
    exact hJ _ _ _ _ _ _ _ hR.norm hS hl (by omega) (by omega) h
  · have h := ite_f c198 h
    exact absurd (Option.some.inj h) (by decide)
set_option maxHeartbeats 4000000 in
set_option maxRecDepth 100000 in
theorem w_law_c20 {p : Program} {l : Launch} {e : Env} {s : State} {m : MethodId} {below : List Frame} {meth : Method} {c : Code} {E : En} {b L : Nat} {xs : Nat → Int32} (C : Cx p s m #[Value.ref b] meth c RL cL_law 4 (some .boolean) E) (hKc : Kc E s) (hX : va_X b L xs s s.heap) (hbl : b < s.heap.size) (hbA : ¬ E.2.2.1 b) {v3 : Int32} {J : St → Option Int32} {c0 s0 : Nat} (hcs : c0 + 2 ≤ 600000 ∧ s0 + 29 ≤ 7302249) (hJ : ∀ (S : St) (α : Nat → Nat) (H : Heap) (locs : List Loc) (ls : Array Slot) (ce sl : Nat), Rp E α (nP S, nC S) S H → va_S E.2.2.1 s.heap H locs → lv_has ls 4 [(0, .ref b), (1, .ref (α 0)), (2, .ref (α 54)), (3, .int v3)] → ce ≤ c0 + 2 → sl ≤ s0 + 29 → J S = some 1 → W p l e room_1 s m #[Value.ref b] below meth c H locs ce sl (lw_Z below #[Value.ref b] s) (F0 m 1091 ls [])) {S : St} {α : Nat → Nat} {g : Nat × Nat} (hg : g.1 = nP S ∧ g.2 = nC S) {H : Heap} {locs : List Loc} {ls : Array Slot} (hR : Rp E α g S H) (hS : va_S E.2.2.1 s.heap H locs) (hl : lv_has ls 4 [(0, .ref b), (1, .ref (α 0)), (2, .ref (α 54)), (3, .int v3)]) (h : f_law_c20 xs L v3 J S = some 1) : W p l e room_1 s m #[Value.ref b] below meth c H locs c0 s0 (lw_Z below #[Value.ref b] s) (F0 m 956 ls []) := by
  obtain ⟨hx, hb, hml, hown, hts, hlk, hrt, hKs⟩ := id C
  unfold f_law_c20 at h
  refine lv_aload_n hx hb dL_law_956 rfl (lv_at hl 1 rfl) ?_
  obtain ⟨r199, S200, hr199, h⟩ := bd_e h
  refine g_ci hS (g_runV C hR hS (k := 0) (As := []) (rest := []) (c_X10_record l hr199) (live_st (by decide)) rfl vw10 m_X10_record q854 ⟨rfl, rfl⟩ ⟨Nat.le_of_ble_eq_true rfl, Nat.le_of_ble_eq_true rfl⟩ rfl hl.1 rfl (Nat.le_of_ble_eq_true rfl) dL_law_957 (by show _ ≤ 600000 ∧ _ ≤ 7302249; omega)) (fun H locs hR hS => ?_)
  refine lv_aload_n hx hb dL_law_960 rfl (lv_at hl 2 rfl) ?_
  obtain ⟨r201, S202, hr201, h⟩ := bd_e h
  refine g_ci hS (g_runV C hR hS (k := 54) (As := []) (rest := [.int r199]) (c_X11_record l hr201) (live_st (by decide)) rfl vw11 m_X11_record q1315 ⟨rfl, rfl⟩ ⟨Nat.le_of_ble_eq_true rfl, Nat.le_of_ble_eq_true rfl⟩ rfl hl.1 rfl (Nat.le_of_ble_eq_true rfl) dL_law_961 (by show _ ≤ 600000 ∧ _ ≤ 7302249; omega)) (fun H locs hR hS => ?_)
  refine lv_icmp_eq (tgt := 1091) hx hb dL_law_964 (by decide) (fun c203 => ?_) (fun c203 => ?_)
  · have h := ite_t c203 h
    exact hJ _ _ _ _ _ _ _ hR.norm hS hl (by omega) (by omega) h
  · have h := ite_f c203 h
    exact absurd (Option.some.inj h) (by decide)
set_option maxHeartbeats 4000000 in
set_option maxRecDepth 100000 in
theorem w_law_c21 {p : Program} {l : Launch} {e : Env} {s : State} {m : MethodId} {below : List Frame} {meth : Method} {c : Code} {E : En} {b L : Nat} {xs : Nat → Int32} (C : Cx p s m #[Value.ref b] meth c RL cL_law 4 (some .boolean) E) (hKc : Kc E s) (hX : va_X b L xs s s.heap) (hbl : b < s.heap.size) (hbA : ¬ E.2.2.1 b) {v3 : Int32} {J : St → Option Int32} {c0 s0 : Nat} (hcs : c0 + 2 ≤ 600000 ∧ s0 + 29 ≤ 7302249) (hJ : ∀ (S : St) (α : Nat → Nat) (H : Heap) (locs : List Loc) (ls : Array Slot) (ce sl : Nat), Rp E α (nP S, nC S) S H → va_S E.2.2.1 s.heap H locs → lv_has ls 4 [(0, .ref b), (1, .ref (α 0)), (2, .ref (α 54)), (3, .int v3)] → ce ≤ c0 + 2 → sl ≤ s0 + 29 → J S = some 1 → W p l e room_1 s m #[Value.ref b] below meth c H locs ce sl (lw_Z below #[Value.ref b] s) (F0 m 1091 ls [])) {S : St} {α : Nat → Nat} {g : Nat × Nat} (hg : g.1 = nP S ∧ g.2 = nC S) {H : Heap} {locs : List Loc} {ls : Array Slot} (hR : Rp E α g S H) (hS : va_S E.2.2.1 s.heap H locs) (hl : lv_has ls 4 [(0, .ref b), (1, .ref (α 0)), (2, .ref (α 54)), (3, .int v3)]) (h : f_law_c21 xs L v3 J S = some 1) : W p l e room_1 s m #[Value.ref b] below meth c H locs c0 s0 (lw_Z below #[Value.ref b] s) (F0 m 969 ls []) := by
  obtain ⟨hx, hb, hml, hown, hts, hlk, hrt, hKs⟩ := id C
  unfold f_law_c21 at h
  refine lv_aload_n hx hb dL_law_969 rfl (lv_at hl 1 rfl) ?_
  refine lv_aload_n hx hb dL_law_970 rfl (lv_at hl 0 rfl) ?_
  refine lv_iload_n hx hb dL_law_971 rfl (lv_at hl 3 rfl) ?_
  refine lv_iconst (v := 1) hx hb dL_law_972 (by decide) ?_
  refine lv_iadd hx hb dL_law_973 ?_
  obtain ⟨g204, h⟩ := gd_e h
  refine va_sld hx hb hX hbl hbA hS g204 dL_law_974 ?_
  refine lv_aload_n hx hb dL_law_975 rfl (lv_at hl 0 rfl) ?_
  refine lv_iload_n hx hb dL_law_976 rfl (lv_at hl 3 rfl) ?_
  refine lv_iconst (v := 2) hx hb dL_law_977 (by decide) ?_
  refine lv_iadd hx hb dL_law_978 ?_
  obtain ⟨g205, h⟩ := gd_e h
  refine va_sld hx hb hX hbl hbA hS g205 dL_law_979 ?_
  obtain ⟨r206, S207, hr206, h⟩ := bd_e h
  refine g_ci hS (g_runV C hR hS (k := 0) (As := [.int (xs (Int32.toNatClampNeg (v3 + (1 : Int32)))), .int (xs (Int32.toNatClampNeg (v3 + (2 : Int32))))]) (rest := []) (c_X10_crowd l hr206) (live_st (by decide)) rfl vw10 m_X10_crowd q893 ⟨rfl, rfl⟩ ⟨Nat.le_of_ble_eq_true rfl, Nat.le_of_ble_eq_true rfl⟩ rfl hl.1 rfl (Nat.le_of_ble_eq_true rfl) dL_law_980 (by show _ ≤ 600000 ∧ _ ≤ 7302249; omega)) (fun H locs hR hS => ?_)
  refine lv_aload_n hx hb dL_law_983 rfl (lv_at hl 2 rfl) ?_
  refine lv_aload_n hx hb dL_law_984 rfl (lv_at hl 0 rfl) ?_
  refine lv_iload_n hx hb dL_law_985 rfl (lv_at hl 3 rfl) ?_
  refine lv_iconst (v := 1) hx hb dL_law_986 (by decide) ?_
  refine lv_iadd hx hb dL_law_987 ?_
  obtain ⟨g208, h⟩ := gd_e h
  refine va_sld hx hb hX hbl hbA hS g208 dL_law_988 ?_
  refine lv_aload_n hx hb dL_law_989 rfl (lv_at hl 0 rfl) ?_
  refine lv_iload_n hx hb dL_law_990 rfl (lv_at hl 3 rfl) ?_
  refine lv_iconst (v := 2) hx hb dL_law_991 (by decide) ?_
  refine lv_iadd hx hb dL_law_992 ?_
  obtain ⟨g209, h⟩ := gd_e h
  refine va_sld hx hb hX hbl hbA hS g209 dL_law_993 ?_
  obtain ⟨r210, S211, hr210, h⟩ := bd_e h
  refine g_ci hS (g_runV C hR hS (k := 54) (As := [.int (xs (Int32.toNatClampNeg (v3 + (1 : Int32)))), .int (xs (Int32.toNatClampNeg (v3 + (2 : Int32))))]) (rest := [.int r206]) (c_X11_crowd l hr210) (live_st (by decide)) rfl vw11 m_X11_crowd q1339 ⟨rfl, rfl⟩ ⟨Nat.le_of_ble_eq_true rfl, Nat.le_of_ble_eq_true rfl⟩ rfl hl.1 rfl (Nat.le_of_ble_eq_true rfl) dL_law_994 (by show _ ≤ 600000 ∧ _ ≤ 7302249; omega)) (fun H locs hR hS => ?_)
  refine lv_icmp_eq (tgt := 1091) hx hb dL_law_997 (by decide) (fun c212 => ?_) (fun c212 => ?_)
  · have h := ite_t c212 h
    exact hJ _ _ _ _ _ _ _ hR.norm hS hl (by omega) (by omega) h
  · have h := ite_f c212 h
    exact absurd (Option.some.inj h) (by decide)
set_option maxHeartbeats 4000000 in
set_option maxRecDepth 100000 in
theorem w_law_c22 {p : Program} {l : Launch} {e : Env} {s : State} {m : MethodId} {below : List Frame} {meth : Method} {c : Code} {E : En} {b L : Nat} {xs : Nat → Int32} (C : Cx p s m #[Value.ref b] meth c RL cL_law 4 (some .boolean) E) (hKc : Kc E s) (hX : va_X b L xs s s.heap) (hbl : b < s.heap.size) (hbA : ¬ E.2.2.1 b) {v3 : Int32} {J : St → Option Int32} {c0 s0 : Nat} (hcs : c0 + 2 ≤ 600000 ∧ s0 + 29 ≤ 7302249) (hJ : ∀ (S : St) (α : Nat → Nat) (H : Heap) (locs : List Loc) (ls : Array Slot) (ce sl : Nat), Rp E α (nP S, nC S) S H → va_S E.2.2.1 s.heap H locs → lv_has ls 4 [(0, .ref b), (1, .ref (α 0)), (2, .ref (α 54)), (3, .int v3)] → ce ≤ c0 + 2 → sl ≤ s0 + 29 → J S = some 1 → W p l e room_1 s m #[Value.ref b] below meth c H locs ce sl (lw_Z below #[Value.ref b] s) (F0 m 1091 ls [])) {S : St} {α : Nat → Nat} {g : Nat × Nat} (hg : g.1 = nP S ∧ g.2 = nC S) {H : Heap} {locs : List Loc} {ls : Array Slot} (hR : Rp E α g S H) (hS : va_S E.2.2.1 s.heap H locs) (hl : lv_has ls 4 [(0, .ref b), (1, .ref (α 0)), (2, .ref (α 54)), (3, .int v3)]) (h : f_law_c22 xs L v3 J S = some 1) : W p l e room_1 s m #[Value.ref b] below meth c H locs c0 s0 (lw_Z below #[Value.ref b] s) (F0 m 1002 ls []) := by
  obtain ⟨hx, hb, hml, hown, hts, hlk, hrt, hKs⟩ := id C
  unfold f_law_c22 at h
  refine lv_aload_n hx hb dL_law_1002 rfl (lv_at hl 1 rfl) ?_
  refine lv_aload_n hx hb dL_law_1003 rfl (lv_at hl 0 rfl) ?_
  refine lv_iload_n hx hb dL_law_1004 rfl (lv_at hl 3 rfl) ?_
  refine lv_iconst (v := 1) hx hb dL_law_1005 (by decide) ?_
  refine lv_iadd hx hb dL_law_1006 ?_
  obtain ⟨g213, h⟩ := gd_e h
  refine va_sld hx hb hX hbl hbA hS g213 dL_law_1007 ?_
  refine lv_aload_n hx hb dL_law_1008 rfl (lv_at hl 0 rfl) ?_
  refine lv_iload_n hx hb dL_law_1009 rfl (lv_at hl 3 rfl) ?_
  refine lv_iconst (v := 2) hx hb dL_law_1010 (by decide) ?_
  refine lv_iadd hx hb dL_law_1011 ?_
  obtain ⟨g214, h⟩ := gd_e h
  refine va_sld hx hb hX hbl hbA hS g214 dL_law_1012 ?_
  obtain ⟨r215, S216, hr215, h⟩ := bd_e h
  refine g_ci hS (g_runV C hR hS (k := 0) (As := [.int (xs (Int32.toNatClampNeg (v3 + (1 : Int32)))), .int (xs (Int32.toNatClampNeg (v3 + (2 : Int32))))]) (rest := []) (c_X10_understood l hr215) (live_st (by decide)) rfl vw10 m_X10_understood q897 ⟨rfl, rfl⟩ ⟨Nat.le_of_ble_eq_true rfl, Nat.le_of_ble_eq_true rfl⟩ rfl hl.1 rfl (Nat.le_of_ble_eq_true rfl) dL_law_1013 (by show _ ≤ 600000 ∧ _ ≤ 7302249; omega)) (fun H locs hR hS => ?_)
  refine lv_aload_n hx hb dL_law_1016 rfl (lv_at hl 2 rfl) ?_
  refine lv_aload_n hx hb dL_law_1017 rfl (lv_at hl 0 rfl) ?_
  refine lv_iload_n hx hb dL_law_1018 rfl (lv_at hl 3 rfl) ?_
  refine lv_iconst (v := 1) hx hb dL_law_1019 (by decide) ?_
  refine lv_iadd hx hb dL_law_1020 ?_
  obtain ⟨g217, h⟩ := gd_e h
  refine va_sld hx hb hX hbl hbA hS g217 dL_law_1021 ?_
  refine lv_aload_n hx hb dL_law_1022 rfl (lv_at hl 0 rfl) ?_
  refine lv_iload_n hx hb dL_law_1023 rfl (lv_at hl 3 rfl) ?_
  refine lv_iconst (v := 2) hx hb dL_law_1024 (by decide) ?_
  refine lv_iadd hx hb dL_law_1025 ?_
  obtain ⟨g218, h⟩ := gd_e h
  refine va_sld hx hb hX hbl hbA hS g218 dL_law_1026 ?_
  obtain ⟨r219, S220, hr219, h⟩ := bd_e h
  refine g_ci hS (g_runV C hR hS (k := 54) (As := [.int (xs (Int32.toNatClampNeg (v3 + (1 : Int32)))), .int (xs (Int32.toNatClampNeg (v3 + (2 : Int32))))]) (rest := [.int r215]) (c_X11_understood l hr219) (live_st (by decide)) rfl vw11 m_X11_understood q1346 ⟨rfl, rfl⟩ ⟨Nat.le_of_ble_eq_true rfl, Nat.le_of_ble_eq_true rfl⟩ rfl hl.1 rfl (Nat.le_of_ble_eq_true rfl) dL_law_1027 (by show _ ≤ 600000 ∧ _ ≤ 7302249; omega)) (fun H locs hR hS => ?_)
  refine lv_icmp_eq (tgt := 1091) hx hb dL_law_1030 (by decide) (fun c221 => ?_) (fun c221 => ?_)
  · have h := ite_t c221 h
    exact hJ _ _ _ _ _ _ _ hR.norm hS hl (by omega) (by omega) h
  · have h := ite_f c221 h
    exact absurd (Option.some.inj h) (by decide)
set_option maxHeartbeats 4000000 in
set_option maxRecDepth 100000 in
theorem w_law_c23 {p : Program} {l : Launch} {e : Env} {s : State} {m : MethodId} {below : List Frame} {meth : Method} {c : Code} {E : En} {b L : Nat} {xs : Nat → Int32} (C : Cx p s m #[Value.ref b] meth c RL cL_law 4 (some .boolean) E) (hKc : Kc E s) (hX : va_X b L xs s s.heap) (hbl : b < s.heap.size) (hbA : ¬ E.2.2.1 b) {v3 : Int32} {J : St → Option Int32} {c0 s0 : Nat} (hcs : c0 + 2 ≤ 600000 ∧ s0 + 29 ≤ 7302249) (hJ : ∀ (S : St) (α : Nat → Nat) (H : Heap) (locs : List Loc) (ls : Array Slot) (ce sl : Nat), Rp E α (nP S, nC S) S H → va_S E.2.2.1 s.heap H locs → lv_has ls 4 [(0, .ref b), (1, .ref (α 0)), (2, .ref (α 54)), (3, .int v3)] → ce ≤ c0 + 2 → sl ≤ s0 + 29 → J S = some 1 → W p l e room_1 s m #[Value.ref b] below meth c H locs ce sl (lw_Z below #[Value.ref b] s) (F0 m 1091 ls [])) {S : St} {α : Nat → Nat} {g : Nat × Nat} (hg : g.1 = nP S ∧ g.2 = nC S) {H : Heap} {locs : List Loc} {ls : Array Slot} (hR : Rp E α g S H) (hS : va_S E.2.2.1 s.heap H locs) (hl : lv_has ls 4 [(0, .ref b), (1, .ref (α 0)), (2, .ref (α 54)), (3, .int v3)]) (h : f_law_c23 xs L v3 J S = some 1) : W p l e room_1 s m #[Value.ref b] below meth c H locs c0 s0 (lw_Z below #[Value.ref b] s) (F0 m 1035 ls []) := by
  obtain ⟨hx, hb, hml, hown, hts, hlk, hrt, hKs⟩ := id C
  unfold f_law_c23 at h
  refine lv_aload_n hx hb dL_law_1035 rfl (lv_at hl 1 rfl) ?_
  refine lv_aload_n hx hb dL_law_1036 rfl (lv_at hl 0 rfl) ?_
  refine lv_iload_n hx hb dL_law_1037 rfl (lv_at hl 3 rfl) ?_
  refine lv_iconst (v := 1) hx hb dL_law_1038 (by decide) ?_
  refine lv_iadd hx hb dL_law_1039 ?_
  obtain ⟨g222, h⟩ := gd_e h
  refine va_sld hx hb hX hbl hbA hS g222 dL_law_1040 ?_
  refine lv_aload_n hx hb dL_law_1041 rfl (lv_at hl 0 rfl) ?_
  refine lv_iload_n hx hb dL_law_1042 rfl (lv_at hl 3 rfl) ?_
  refine lv_iconst (v := 2) hx hb dL_law_1043 (by decide) ?_
  refine lv_iadd hx hb dL_law_1044 ?_
  obtain ⟨g223, h⟩ := gd_e h
  refine va_sld hx hb hX hbl hbA hS g223 dL_law_1045 ?_
  obtain ⟨r224, S225, hr224, h⟩ := bd_e h
  refine g_ci hS (g_runV C hR hS (k := 0) (As := [.int (xs (Int32.toNatClampNeg (v3 + (1 : Int32)))), .int (xs (Int32.toNatClampNeg (v3 + (2 : Int32))))]) (rest := []) (c_X10_power l hr224) (live_st (by decide)) rfl vw10 m_X10_power q910 ⟨rfl, rfl⟩ ⟨Nat.le_of_ble_eq_true rfl, Nat.le_of_ble_eq_true rfl⟩ rfl hl.1 rfl (Nat.le_of_ble_eq_true rfl) dL_law_1046 (by show _ ≤ 600000 ∧ _ ≤ 7302249; omega)) (fun H locs hR hS => ?_)
  refine lv_aload_n hx hb dL_law_1049 rfl (lv_at hl 2 rfl) ?_
  refine lv_aload_n hx hb dL_law_1050 rfl (lv_at hl 0 rfl) ?_
  refine lv_iload_n hx hb dL_law_1051 rfl (lv_at hl 3 rfl) ?_
  refine lv_iconst (v := 1) hx hb dL_law_1052 (by decide) ?_
  refine lv_iadd hx hb dL_law_1053 ?_
  obtain ⟨g226, h⟩ := gd_e h
  refine va_sld hx hb hX hbl hbA hS g226 dL_law_1054 ?_
  refine lv_aload_n hx hb dL_law_1055 rfl (lv_at hl 0 rfl) ?_
  refine lv_iload_n hx hb dL_law_1056 rfl (lv_at hl 3 rfl) ?_
  refine lv_iconst (v := 2) hx hb dL_law_1057 (by decide) ?_
  refine lv_iadd hx hb dL_law_1058 ?_
  obtain ⟨g227, h⟩ := gd_e h
  refine va_sld hx hb hX hbl hbA hS g227 dL_law_1059 ?_
  obtain ⟨r228, S229, hr228, h⟩ := bd_e h
  refine g_ci hS (g_runV C hR hS (k := 54) (As := [.int (xs (Int32.toNatClampNeg (v3 + (1 : Int32)))), .int (xs (Int32.toNatClampNeg (v3 + (2 : Int32))))]) (rest := [.int r224]) (c_X11_power l hr228) (live_st (by decide)) rfl vw11 m_X11_power q1350 ⟨rfl, rfl⟩ ⟨Nat.le_of_ble_eq_true rfl, Nat.le_of_ble_eq_true rfl⟩ rfl hl.1 rfl (Nat.le_of_ble_eq_true rfl) dL_law_1060 (by show _ ≤ 600000 ∧ _ ≤ 7302249; omega)) (fun H locs hR hS => ?_)
  refine lv_icmp_eq (tgt := 1091) hx hb dL_law_1063 (by decide) (fun c230 => ?_) (fun c230 => ?_)
  · have h := ite_t c230 h
    exact hJ _ _ _ _ _ _ _ hR.norm hS hl (by omega) (by omega) h
  · have h := ite_f c230 h
    exact absurd (Option.some.inj h) (by decide)
set_option maxHeartbeats 4000000 in
set_option maxRecDepth 100000 in
theorem w_law_c24 {p : Program} {l : Launch} {e : Env} {s : State} {m : MethodId} {below : List Frame} {meth : Method} {c : Code} {E : En} {b L : Nat} {xs : Nat → Int32} (C : Cx p s m #[Value.ref b] meth c RL cL_law 4 (some .boolean) E) (hKc : Kc E s) (hX : va_X b L xs s s.heap) (hbl : b < s.heap.size) (hbA : ¬ E.2.2.1 b) {v3 : Int32} {J : St → Option Int32} {c0 s0 : Nat} (hcs : c0 + 2 ≤ 600000 ∧ s0 + 29 ≤ 7302249) (hJ : ∀ (S : St) (α : Nat → Nat) (H : Heap) (locs : List Loc) (ls : Array Slot) (ce sl : Nat), Rp E α (nP S, nC S) S H → va_S E.2.2.1 s.heap H locs → lv_has ls 4 [(0, .ref b), (1, .ref (α 0)), (2, .ref (α 54)), (3, .int v3)] → ce ≤ c0 + 2 → sl ≤ s0 + 29 → J S = some 1 → W p l e room_1 s m #[Value.ref b] below meth c H locs ce sl (lw_Z below #[Value.ref b] s) (F0 m 1091 ls [])) {S : St} {α : Nat → Nat} {g : Nat × Nat} (hg : g.1 = nP S ∧ g.2 = nC S) {H : Heap} {locs : List Loc} {ls : Array Slot} (hR : Rp E α g S H) (hS : va_S E.2.2.1 s.heap H locs) (hl : lv_has ls 4 [(0, .ref b), (1, .ref (α 0)), (2, .ref (α 54)), (3, .int v3)]) (h : f_law_c24 xs L v3 J S = some 1) : W p l e room_1 s m #[Value.ref b] below meth c H locs c0 s0 (lw_Z below #[Value.ref b] s) (F0 m 1068 ls []) := by
  obtain ⟨hx, hb, hml, hown, hts, hlk, hrt, hKs⟩ := id C
  unfold f_law_c24 at h
  refine lv_aload_n hx hb dL_law_1068 rfl (lv_at hl 1 rfl) ?_
  refine lv_aload_n hx hb dL_law_1069 rfl (lv_at hl 0 rfl) ?_
  refine lv_iload_n hx hb dL_law_1070 rfl (lv_at hl 3 rfl) ?_
  refine lv_iconst (v := 1) hx hb dL_law_1071 (by decide) ?_
  refine lv_iadd hx hb dL_law_1072 ?_
  obtain ⟨g231, h⟩ := gd_e h
  refine va_sld hx hb hX hbl hbA hS g231 dL_law_1073 ?_
  obtain ⟨r232, S233, hr232, h⟩ := bd_e h
  refine g_ci hS (g_runV C hR hS (k := 0) (As := [.int (xs (Int32.toNatClampNeg (v3 + (1 : Int32))))]) (rest := []) (c_X10_count l hr232) (live_st (by decide)) rfl vw10 m_X10_count q930 ⟨rfl, rfl⟩ ⟨Nat.le_of_ble_eq_true rfl, Nat.le_of_ble_eq_true rfl⟩ rfl hl.1 rfl (Nat.le_of_ble_eq_true rfl) dL_law_1074 (by show _ ≤ 600000 ∧ _ ≤ 7302249; omega)) (fun H locs hR hS => ?_)
  refine lv_aload_n hx hb dL_law_1077 rfl (lv_at hl 2 rfl) ?_
  refine lv_aload_n hx hb dL_law_1078 rfl (lv_at hl 0 rfl) ?_
  refine lv_iload_n hx hb dL_law_1079 rfl (lv_at hl 3 rfl) ?_
  refine lv_iconst (v := 1) hx hb dL_law_1080 (by decide) ?_
  refine lv_iadd hx hb dL_law_1081 ?_
  obtain ⟨g234, h⟩ := gd_e h
  refine va_sld hx hb hX hbl hbA hS g234 dL_law_1082 ?_
  obtain ⟨r235, S236, hr235, h⟩ := bd_e h
  refine g_ci hS (g_runV C hR hS (k := 54) (As := [.int (xs (Int32.toNatClampNeg (v3 + (1 : Int32))))]) (rest := [.int r232]) (c_X11_count l hr235) (live_st (by decide)) rfl vw11 m_X11_count q1359 ⟨rfl, rfl⟩ ⟨Nat.le_of_ble_eq_true rfl, Nat.le_of_ble_eq_true rfl⟩ rfl hl.1 rfl (Nat.le_of_ble_eq_true rfl) dL_law_1083 (by show _ ≤ 600000 ∧ _ ≤ 7302249; omega)) (fun H locs hR hS => ?_)
  refine lv_icmp_eq (tgt := 1091) hx hb dL_law_1086 (by decide) (fun c237 => ?_) (fun c237 => ?_)
  · have h := ite_t c237 h
    exact hJ _ _ _ _ _ _ _ hR.norm hS hl (by omega) (by omega) h
  · have h := ite_f c237 h
    exact absurd (Option.some.inj h) (by decide)
set_option maxHeartbeats 8000000 in
set_option maxRecDepth 100000 in
theorem w_law_L {p : Program} {l : Launch} {e : Env} {s : State} {m : MethodId} {below : List Frame} {meth : Method} {c : Code} {E : En} {b L : Nat} {xs : Nat → Int32} (C : Cx p s m #[Value.ref b] meth c RL cL_law 4 (some .boolean) E) (hKc : Kc E s) (hX : va_X b L xs s s.heap) (hbl : b < s.heap.size) (hbA : ¬ E.2.2.1 b) : ∀ (f : Nat) (v3 : Int32) (S : St) (α : Nat → Nat) (H : Heap) (locs : List Loc) (ls : Array Slot) (c0 s0 : Nat), Rp E α (nP S, nC S) S H → va_S E.2.2.1 s.heap H locs → lv_has ls 4 [(0, .ref b), (1, .ref (α 0)), (2, .ref (α 54)), (3, .int v3)] → c0 + 2 * f ≤ 600000 → s0 + 29 * f ≤ 7302249 → f_law_L xs L f v3 S = some 1 → (∀ q, E.2.2.1 q → s.heap.size ≤ q) → W p l e room_1 s m #[Value.ref b] below meth c H locs c0 s0 (lw_Z below #[Value.ref b] s) (F0 m 18 ls []) := by
  obtain ⟨hx, hb, hml, hown, hts, hlk, hrt, hKs⟩ := id C
  intro f
  induction f with
  | zero => intro v3 S α H locs ls c0 s0 hR hS hl h1 h2 h; rw [f_law_L] at h; cases h
  | succ f ih =>
    intro v3 S α H locs ls c0 s0 hR hS hl h1 h2 h hAs
    rw [f_law_L] at h
    refine lv_iload_n hx hb dL_law_18 rfl (lv_at hl 3 rfl) ?_
    refine lv_aload_n hx hb dL_law_19 rfl (lv_at hl 0 rfl) ?_
    refine va_slen hx hb hX hbl hbA hS dL_law_20 ?_
    refine lv_bipush (v := 7) hx hb dL_law_21 (by decide) ?_
    refine lv_isub hx hb dL_law_23 ?_
    refine lv_icmp_gt (tgt := 1097) hx hb dL_law_24 (by decide) (fun c1 => ?_) (fun c1 => ?_)
    · refine lv_iconst (v := 1) hx hb dL_law_1097 (by decide) ?_
      refine va_forget (fun q hq => hAs _ (hS.2.2 q hq)) ?_
      refine W.widen (k := 600000) (n := 7302249) (by omega) (by omega) ?_
      exact lw_ret hx hb hrt hlk dL_law_1098
    have h := ite_f c1 h
    obtain ⟨g1, h⟩ := gd_e h
    obtain ⟨J, eJ, h⟩ := lt_e h
    have hJ : ∀ (S : St) (α : Nat → Nat) (H : Heap) (locs : List Loc) (ls : Array Slot) (ce sl : Nat), Rp E α (nP S, nC S) S H → va_S E.2.2.1 s.heap H locs → lv_has ls 4 [(0, .ref b), (1, .ref (α 0)), (2, .ref (α 54)), (3, .int v3)] → ce ≤ c0 + 2 → sl ≤ s0 + 29 → J S = some 1 → W p l e room_1 s m #[Value.ref b] below meth c H locs ce sl (lw_Z below #[Value.ref b] s) (F0 m 1091 ls []) := by
      intro S α H locs ls ce sl hR hS hl hce hsl h
      rw [eJ] at h
      obtain ⟨x, ex, h⟩ := lt_e h
      refine lv_iinc (v := x) (lv' := [(3, .int x), (0, .ref b), (1, .ref (α 0)), (2, .ref (α 54))]) hx hb dL_law_1091 hl (k := 3) rfl (by rw [ex]; rfl) (by decide) rfl (fun ls hl => ?_)
      refine lv_goto (tgt := 18) hx hb dL_law_1094 (by decide) ?_
      exact ih x S α H locs ls ce sl hR hS (lv_sub hl [1, 2, 3, 0] rfl) (by omega) (by omega) h hAs
    clear eJ ih
    refine lv_aload_n hx hb dL_law_27 rfl (lv_at hl 0 rfl) ?_
    refine lv_iload_n hx hb dL_law_28 rfl (lv_at hl 3 rfl) ?_
    refine va_sld hx hb hX hbl hbA hS g1 dL_law_29 ?_
    refine lv_bipush (v := 31) hx hb dL_law_30 (by decide) ?_
    refine lv_iand hx hb dL_law_32 ?_
    by_cases k0 : (xs (Int32.toNatClampNeg v3) &&& (31 : Int32)) = (0 : Int32)
    · have h := ite_t k0 h
      refine lv_tableIn (off := 115) (tgt := 148) hx hb dL_law_33 (by rw [k0]; decide) (by rw [k0]; decide) (by rw [k0]; rfl) (by decide) ?_
      exact w_law_c0 C hKc hX hbl hbA ⟨by omega, by omega⟩ hJ ⟨rfl, rfl⟩ hR hS hl h
    have h := ite_f k0 h
    by_cases k1 : (xs (Int32.toNatClampNeg v3) &&& (31 : Int32)) = (1 : Int32)
    · have h := ite_t k1 h
      refine lv_tableIn (off := 178) (tgt := 211) hx hb dL_law_33 (by rw [k1]; decide) (by rw [k1]; decide) (by rw [k1]; rfl) (by decide) ?_
      exact w_law_c1 C hKc hX hbl hbA ⟨by omega, by omega⟩ hJ ⟨rfl, rfl⟩ hR hS hl h
    have h := ite_f k1 h
    by_cases k2 : (xs (Int32.toNatClampNeg v3) &&& (31 : Int32)) = (2 : Int32)
    · have h := ite_t k2 h
      refine lv_tableIn (off := 211) (tgt := 244) hx hb dL_law_33 (by rw [k2]; decide) (by rw [k2]; decide) (by rw [k2]; rfl) (by decide) ?_
      exact w_law_c2 C hKc hX hbl hbA ⟨by omega, by omega⟩ hJ ⟨rfl, rfl⟩ hR hS hl h
    have h := ite_f k2 h
    by_cases k3 : (xs (Int32.toNatClampNeg v3) &&& (31 : Int32)) = (3 : Int32)
    · have h := ite_t k3 h
      refine lv_tableIn (off := 254) (tgt := 287) hx hb dL_law_33 (by rw [k3]; decide) (by rw [k3]; decide) (by rw [k3]; rfl) (by decide) ?_
      exact w_law_c3 C hKc hX hbl hbA ⟨by omega, by omega⟩ hJ ⟨rfl, rfl⟩ hR hS hl h
    have h := ite_f k3 h
    by_cases k4 : (xs (Int32.toNatClampNeg v3) &&& (31 : Int32)) = (4 : Int32)
    · have h := ite_t k4 h
      refine lv_tableIn (off := 267) (tgt := 300) hx hb dL_law_33 (by rw [k4]; decide) (by rw [k4]; decide) (by rw [k4]; rfl) (by decide) ?_
      exact w_law_c4 C hKc hX hbl hbA ⟨by omega, by omega⟩ hJ ⟨rfl, rfl⟩ hR hS hl h
    have h := ite_f k4 h
    by_cases k5 : (xs (Int32.toNatClampNeg v3) &&& (31 : Int32)) = (5 : Int32)
    · have h := ite_t k5 h
      refine lv_tableIn (off := 350) (tgt := 383) hx hb dL_law_33 (by rw [k5]; decide) (by rw [k5]; decide) (by rw [k5]; rfl) (by decide) ?_
      exact w_law_c5 C hKc hX hbl hbA ⟨by omega, by omega⟩ hJ ⟨rfl, rfl⟩ hR hS hl h
    have h := ite_f k5 h
    by_cases k6 : (xs (Int32.toNatClampNeg v3) &&& (31 : Int32)) = (6 : Int32)
    · have h := ite_t k6 h
      refine lv_tableIn (off := 433) (tgt := 466) hx hb dL_law_33 (by rw [k6]; decide) (by rw [k6]; decide) (by rw [k6]; rfl) (by decide) ?_
      exact w_law_c6 C hKc hX hbl hbA ⟨by omega, by omega⟩ hJ ⟨rfl, rfl⟩ hR hS hl h
    have h := ite_f k6 h
    by_cases k7 : (xs (Int32.toNatClampNeg v3) &&& (31 : Int32)) = (7 : Int32)
    · have h := ite_t k7 h
      refine lv_tableIn (off := 496) (tgt := 529) hx hb dL_law_33 (by rw [k7]; decide) (by rw [k7]; decide) (by rw [k7]; rfl) (by decide) ?_
      exact w_law_c7 C hKc hX hbl hbA ⟨by omega, by omega⟩ hJ ⟨rfl, rfl⟩ hR hS hl h
    have h := ite_f k7 h
    by_cases k8 : (xs (Int32.toNatClampNeg v3) &&& (31 : Int32)) = (8 : Int32)
    · have h := ite_t k8 h
      refine lv_tableIn (off := 509) (tgt := 542) hx hb dL_law_33 (by rw [k8]; decide) (by rw [k8]; decide) (by rw [k8]; rfl) (by decide) ?_
      exact w_law_c8 C hKc hX hbl hbA ⟨by omega, by omega⟩ hJ ⟨rfl, rfl⟩ hR hS hl h
    have h := ite_f k8 h
    by_cases k9 : (xs (Int32.toNatClampNeg v3) &&& (31 : Int32)) = (9 : Int32)
    · have h := ite_t k9 h
      refine lv_tableIn (off := 522) (tgt := 555) hx hb dL_law_33 (by rw [k9]; decide) (by rw [k9]; decide) (by rw [k9]; rfl) (by decide) ?_
      exact w_law_c9 C hKc hX hbl hbA ⟨by omega, by omega⟩ hJ ⟨rfl, rfl⟩ hR hS hl h
    have h := ite_f k9 h
    by_cases k10 : (xs (Int32.toNatClampNeg v3) &&& (31 : Int32)) = (10 : Int32)
    · have h := ite_t k10 h
      refine lv_tableIn (off := 535) (tgt := 568) hx hb dL_law_33 (by rw [k10]; decide) (by rw [k10]; decide) (by rw [k10]; rfl) (by decide) ?_
      exact w_law_c10 C hKc hX hbl hbA ⟨by omega, by omega⟩ hJ ⟨rfl, rfl⟩ hR hS hl h
    have h := ite_f k10 h
    by_cases k11 : (xs (Int32.toNatClampNeg v3) &&& (31 : Int32)) = (11 : Int32)
    · have h := ite_t k11 h
      refine lv_tableIn (off := 568) (tgt := 601) hx hb dL_law_33 (by rw [k11]; decide) (by rw [k11]; decide) (by rw [k11]; rfl) (by decide) ?_
      exact w_law_c11 C hKc hX hbl hbA ⟨by omega, by omega⟩ hJ ⟨rfl, rfl⟩ hR hS hl h
    have h := ite_f k11 h
    by_cases k12 : (xs (Int32.toNatClampNeg v3) &&& (31 : Int32)) = (12 : Int32)
    · have h := ite_t k12 h
      refine lv_tableIn (off := 611) (tgt := 644) hx hb dL_law_33 (by rw [k12]; decide) (by rw [k12]; decide) (by rw [k12]; rfl) (by decide) ?_
      exact w_law_c12 C hKc hX hbl hbA ⟨by omega, by omega⟩ hJ ⟨rfl, rfl⟩ hR hS hl h
    have h := ite_f k12 h
    by_cases k13 : (xs (Int32.toNatClampNeg v3) &&& (31 : Int32)) = (13 : Int32)
    · have h := ite_t k13 h
      refine lv_tableIn (off := 654) (tgt := 687) hx hb dL_law_33 (by rw [k13]; decide) (by rw [k13]; decide) (by rw [k13]; rfl) (by decide) ?_
      exact w_law_c13 C hKc hX hbl hbA ⟨by omega, by omega⟩ hJ ⟨rfl, rfl⟩ hR hS hl h
    have h := ite_f k13 h
    by_cases k14 : (xs (Int32.toNatClampNeg v3) &&& (31 : Int32)) = (14 : Int32)
    · have h := ite_t k14 h
      refine lv_tableIn (off := 745) (tgt := 778) hx hb dL_law_33 (by rw [k14]; decide) (by rw [k14]; decide) (by rw [k14]; rfl) (by decide) ?_
      exact w_law_c14 C hKc hX hbl hbA ⟨by omega, by omega⟩ hJ ⟨rfl, rfl⟩ hR hS hl h
    have h := ite_f k14 h
    by_cases k15 : (xs (Int32.toNatClampNeg v3) &&& (31 : Int32)) = (15 : Int32)
    · have h := ite_t k15 h
      refine lv_tableIn (off := 768) (tgt := 801) hx hb dL_law_33 (by rw [k15]; decide) (by rw [k15]; decide) (by rw [k15]; rfl) (by decide) ?_
      exact w_law_c15 C hKc hX hbl hbA ⟨by omega, by omega⟩ hJ ⟨rfl, rfl⟩ hR hS hl h
    have h := ite_f k15 h
    by_cases k16 : (xs (Int32.toNatClampNeg v3) &&& (31 : Int32)) = (16 : Int32)
    · have h := ite_t k16 h
      refine lv_tableIn (off := 801) (tgt := 834) hx hb dL_law_33 (by rw [k16]; decide) (by rw [k16]; decide) (by rw [k16]; rfl) (by decide) ?_
      exact w_law_c16 C hKc hX hbl hbA ⟨by omega, by omega⟩ hJ ⟨rfl, rfl⟩ hR hS hl h
    have h := ite_f k16 h
    by_cases k17 : (xs (Int32.toNatClampNeg v3) &&& (31 : Int32)) = (17 : Int32)
    · have h := ite_t k17 h
      refine lv_tableIn (off := 824) (tgt := 857) hx hb dL_law_33 (by rw [k17]; decide) (by rw [k17]; decide) (by rw [k17]; rfl) (by decide) ?_
      exact w_law_c17 C hKc hX hbl hbA ⟨by omega, by omega⟩ hJ ⟨rfl, rfl⟩ hR hS hl h
    have h := ite_f k17 h
    by_cases k18 : (xs (Int32.toNatClampNeg v3) &&& (31 : Int32)) = (18 : Int32)
    · have h := ite_t k18 h
      refine lv_tableIn (off := 857) (tgt := 890) hx hb dL_law_33 (by rw [k18]; decide) (by rw [k18]; decide) (by rw [k18]; rfl) (by decide) ?_
      exact w_law_c18 C hKc hX hbl hbA ⟨by omega, by omega⟩ hJ ⟨rfl, rfl⟩ hR hS hl h
    have h := ite_f k18 h
    by_cases k19 : (xs (Int32.toNatClampNeg v3) &&& (31 : Int32)) = (19 : Int32)
    · have h := ite_t k19 h
      refine lv_tableIn (off := 900) (tgt := 933) hx hb dL_law_33 (by rw [k19]; decide) (by rw [k19]; decide) (by rw [k19]; rfl) (by decide) ?_
      exact w_law_c19 C hKc hX hbl hbA ⟨by omega, by omega⟩ hJ ⟨rfl, rfl⟩ hR hS hl h
    have h := ite_f k19 h
    by_cases k20 : (xs (Int32.toNatClampNeg v3) &&& (31 : Int32)) = (20 : Int32)
    · have h := ite_t k20 h
      refine lv_tableIn (off := 923) (tgt := 956) hx hb dL_law_33 (by rw [k20]; decide) (by rw [k20]; decide) (by rw [k20]; rfl) (by decide) ?_
      exact w_law_c20 C hKc hX hbl hbA ⟨by omega, by omega⟩ hJ ⟨rfl, rfl⟩ hR hS hl h
    have h := ite_f k20 h
    by_cases k21 : (xs (Int32.toNatClampNeg v3) &&& (31 : Int32)) = (21 : Int32)
    · have h := ite_t k21 h
      refine lv_tableIn (off := 936) (tgt := 969) hx hb dL_law_33 (by rw [k21]; decide) (by rw [k21]; decide) (by rw [k21]; rfl) (by decide) ?_
      exact w_law_c21 C hKc hX hbl hbA ⟨by omega, by omega⟩ hJ ⟨rfl, rfl⟩ hR hS hl h
    have h := ite_f k21 h
    by_cases k22 : (xs (Int32.toNatClampNeg v3) &&& (31 : Int32)) = (22 : Int32)
    · have h := ite_t k22 h
      refine lv_tableIn (off := 969) (tgt := 1002) hx hb dL_law_33 (by rw [k22]; decide) (by rw [k22]; decide) (by rw [k22]; rfl) (by decide) ?_
      exact w_law_c22 C hKc hX hbl hbA ⟨by omega, by omega⟩ hJ ⟨rfl, rfl⟩ hR hS hl h
    have h := ite_f k22 h
    by_cases k23 : (xs (Int32.toNatClampNeg v3) &&& (31 : Int32)) = (23 : Int32)
    · have h := ite_t k23 h
      refine lv_tableIn (off := 1002) (tgt := 1035) hx hb dL_law_33 (by rw [k23]; decide) (by rw [k23]; decide) (by rw [k23]; rfl) (by decide) ?_
      exact w_law_c23 C hKc hX hbl hbA ⟨by omega, by omega⟩ hJ ⟨rfl, rfl⟩ hR hS hl h
    have h := ite_f k23 h
    by_cases k24 : (xs (Int32.toNatClampNeg v3) &&& (31 : Int32)) = (24 : Int32)
    · have h := ite_t k24 h
      refine lv_tableIn (off := 1035) (tgt := 1068) hx hb dL_law_33 (by rw [k24]; decide) (by rw [k24]; decide) (by rw [k24]; rfl) (by decide) ?_
      exact w_law_c24 C hKc hX hbl hbA ⟨by omega, by omega⟩ hJ ⟨rfl, rfl⟩ hR hS hl h
    have h := ite_f k24 h
    have k0 := tsw_ne (k := 0) k0 (by decide)
    have k1 := tsw_ne (k := 1) k1 (by decide)
    have k2 := tsw_ne (k := 2) k2 (by decide)
    have k3 := tsw_ne (k := 3) k3 (by decide)
    have k4 := tsw_ne (k := 4) k4 (by decide)
    have k5 := tsw_ne (k := 5) k5 (by decide)
    have k6 := tsw_ne (k := 6) k6 (by decide)
    have k7 := tsw_ne (k := 7) k7 (by decide)
    have k8 := tsw_ne (k := 8) k8 (by decide)
    have k9 := tsw_ne (k := 9) k9 (by decide)
    have k10 := tsw_ne (k := 10) k10 (by decide)
    have k11 := tsw_ne (k := 11) k11 (by decide)
    have k12 := tsw_ne (k := 12) k12 (by decide)
    have k13 := tsw_ne (k := 13) k13 (by decide)
    have k14 := tsw_ne (k := 14) k14 (by decide)
    have k15 := tsw_ne (k := 15) k15 (by decide)
    have k16 := tsw_ne (k := 16) k16 (by decide)
    have k17 := tsw_ne (k := 17) k17 (by decide)
    have k18 := tsw_ne (k := 18) k18 (by decide)
    have k19 := tsw_ne (k := 19) k19 (by decide)
    have k20 := tsw_ne (k := 20) k20 (by decide)
    have k21 := tsw_ne (k := 21) k21 (by decide)
    have k22 := tsw_ne (k := 22) k22 (by decide)
    have k23 := tsw_ne (k := 23) k23 (by decide)
    have k24 := tsw_ne (k := 24) k24 (by decide)
    refine lv_tableOut (tgt := 1091) hx hb dL_law_33 (by omega) (by decide) ?_
    exact hJ _ _ _ _ _ _ _ hR hS hl (by omega) (by omega) h
