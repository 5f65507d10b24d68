/-! OneVoice$Loudness.leastPower(II)I -/
abbrev rm_X2_leastPower : Room := { frames := 2, cells := 0, slots := 0, locals := 42 }
theorem m_X2_leastPower : MV yX2_leastPower RX2 cX2_leastPower 5 (some .int) 2 := ⟨q920, q921, q76, q922, by decide +kernel⟩
def f_X2_leastPower_L5 (K40 : Int32 → St → Option (Int32 × St)) (v1 : Int32) (v2 : Int32) : Nat → Int32 → Int32 → St → Option (Int32 × St)
  | 0, _, _, _ => none
  | f + 1, v3, v4, S =>
    if (16 : Int32) ≤ v4 then
      K40 v3 S
    else
      lt_ (fun (x3 : Int32) (S4 : St) =>
          lt_ (v4 + (1 : Int32)) fun x5 =>
          f_X2_leastPower_L5 K40 v1 v2 f x3 x5 S4) fun J34 =>
      if ((ushr v2 v4) &&& (1 : Int32)) = (1 : Int32) then
        bd_ (f_X2_needed v1 v4 S) fun r7 S8 =>
        lt_ (mmax v3 r7) fun x9 =>
        J34 x9 S8
      else
        J34 v3 S

def f_X2_leastPower (v1 : Int32) (v2 : Int32) (S : St) : Option (Int32 × St) :=
  f_X2_leastPower_L5
    (fun (x10 : Int32) (S11 : St) =>
      some (x10, S11))
    v1 v2 FU (0 : Int32) (0 : Int32) S

set_option maxHeartbeats 4000000 in
set_option maxRecDepth 100000 in
theorem w_X2_leastPower_L5 {p : Program} {l : Launch} {e : Env} {s : State} {m : MethodId} {args : Array Value} {below : List Frame} {meth : Method} {c : Code} {E : En} {α : Nat → Nat} {g : Nat × Nat} (C : Cx p s m args meth c RX2 cX2_leastPower 5 (some .int) E) {z : Int32 × St} {K40 : Int32 → St → Option (Int32 × St)} {v1 : Int32} {v2 : Int32}
    (hK40 : ∀ (y3 : Int32) (S : St) (H : Heap) (locs : List Loc) (ls : Array Slot), Rp E α g S H → va_S E.2.2.1 s.heap H locs → lv_has ls 5 [(3, .int y3)] → K40 y3 S = some z → W p l e rm_X2_leastPower s m args below meth c H locs 0 0 (MQ below (Qi E α g z) args s 0 0 E.2.2.1) (F0 m 40 ls [])) :
    ∀ (f : Nat) (v3 : Int32) (v4 : Int32) (S : St) (H : Heap) (locs : List Loc) (ls : Array Slot), Rp E α g S H → va_S E.2.2.1 s.heap H locs → lv_has ls 5 [(0, .ref (α 52)), (1, .int v1), (2, .int v2), (3, .int v3), (4, .int v4)] → f_X2_leastPower_L5 K40 v1 v2 f v3 v4 S = some z → W p l e rm_X2_leastPower s m args below meth c H locs 0 0 (MQ below (Qi E α g z) args s 0 0 E.2.2.1) (F0 m 5 ls []) := by
  obtain ⟨hx, hb, hml, hown, hts, hlk, hrt, hKs⟩ := id C
  intro f
  induction f with
  | zero =>
    intro v3 v4 S H locs ls  hR hS hl h
    rw [f_X2_leastPower_L5] at h
    cases h
  | succ f ih =>
    intro v3 v4 S H locs ls  hR hS hl h
    rw [f_X2_leastPower_L5] at h
    refine lv_iload hx hb dX2_leastPower_5 (lv_at hl 4 rfl) ?_
    refine lv_bipush (v := 16) hx hb dX2_leastPower_7 (by decide) ?_
    refine lv_icmp_ge (tgt := 40) hx hb dX2_leastPower_9 (by decide) (fun c2 => ?_) (fun c2 => ?_)
    · have h := ite_t c2 h
      exact hK40 _ _ _ _ _  hR hS (lv_sub hl [3] rfl) h
    · have h := ite_f c2 h
      refine lv_iload_n hx hb dX2_leastPower_12 rfl (lv_at hl 2 rfl) ?_
      refine lv_iload hx hb dX2_leastPower_13 (lv_at hl 4 rfl) ?_
      refine lv_iushr (v := ushr v2 v4) hx hb dX2_leastPower_15 rfl ?_
      refine lv_iconst (v := 1) hx hb dX2_leastPower_16 (by decide) ?_
      refine lv_iand hx hb dX2_leastPower_17 ?_
      refine lv_iconst (v := 1) hx hb dX2_leastPower_18 (by decide) ?_
      obtain ⟨J34, eJ34, h⟩ := lt_e h
      have hJ34 : ∀ (x3 : Int32) (S4 : St) (H : Heap) (locs : List Loc) (ls : Array Slot), Rp E α g S4 H → va_S E.2.2.1 s.heap H locs → lv_has ls 5 [(0, .ref (α 52)), (1, .int v1), (2, .int v2), (3, .int x3), (4, .int v4)] → J34 x3 S4 = some z → W p l e rm_X2_leastPower s m args below meth c H locs 0 0 (MQ below (Qi E α g z) args s 0 0 E.2.2.1) (F0 m 34 ls []) := by
        intro x3 S4 H locs ls  hR hS hl h
        rw [eJ34] at h
        obtain ⟨x5, ex5, h⟩ := lt_e h
        refine lv_iinc (v := x5) (lv' := [(4, .int x5), (0, .ref (α 52)), (1, .int v1), (2, .int v2), (3, .int x3)]) hx hb dX2_leastPower_34 hl (k := 4) rfl (by rw [ex5]; rfl) (by decide) rfl (fun ls hl => ?_)
        refine lv_goto (tgt := 5) hx hb dX2_leastPower_37 (by decide) ?_
        exact ih _ _ _ _ _ _  hR hS (lv_sub hl [1, 2, 3, 4, 0] rfl) h
      clear eJ34
      refine lv_icmp_ne (tgt := 34) hx hb dX2_leastPower_19 (by decide) (fun c6 => ?_) (fun c6 => ?_)
      · have h := ite_f c6 h
        exact hJ34 _ _ _ _ _  hR hS hl h
      · have h := ite_t c6 h
        refine lv_iload_n hx hb dX2_leastPower_22 rfl (lv_at hl 3 rfl) ?_
        refine lv_aload_n hx hb dX2_leastPower_23 rfl (lv_at hl 0 rfl) ?_
        refine lv_iload_n hx hb dX2_leastPower_24 rfl (lv_at hl 1 rfl) ?_
        refine lv_iload hx hb dX2_leastPower_25 (lv_at hl 4 rfl) ?_
        obtain ⟨r7, S8, hr7, h⟩ := bd_e h
        refine g_ci hS (g_runV C hR hS (k := 52) (As := [.int v1, .int v4]) (rest := [.int v3]) (c_X2_needed l  hr7) (live_st (by decide)) rfl (vw2) m_X2_needed q905 ⟨rfl, rfl⟩ ⟨Nat.le_of_ble_eq_true rfl, Nat.le_of_ble_eq_true rfl⟩ rfl hl.1 rfl (Nat.le_of_ble_eq_true rfl) dX2_leastPower_27 ⟨Nat.zero_le _, Nat.zero_le _⟩) (fun H locs hR hS => ?_)
        refine g_mmax C (hml.trans hl.1.symm) q923 (Nat.le_of_ble_eq_true rfl) (Nat.le_of_ble_eq_true rfl) (Nat.zero_le _) (Nat.zero_le _) dX2_leastPower_30 ?_
        obtain ⟨x9, ex9, h⟩ := lt_e h
        refine g_nmi ex9 ?_
        refine lv_istore_n (lv' := [(3, .int x9), (0, .ref (α 52)), (1, .int v1), (2, .int v2), (4, .int v4)]) hx hb dX2_leastPower_33 rfl hl (by decide) rfl (fun ls hl => ?_)
        exact hJ34 _ _ _ _ _  hR hS (lv_sub hl [1, 2, 3, 0, 4] rfl) h

set_option maxHeartbeats 4000000 in
set_option maxRecDepth 100000 in
theorem c_X2_leastPower (l : Launch) {E : En} {α : Nat → Nat} {g : Nat × Nat} {v1 : Int32} {v2 : Int32} {S : St}  {z : Int32 × St} (h : f_X2_leastPower v1 v2 S = some z) : Met l yX2_leastPower (wsY yX2_leastPower cX2_leastPower 5 (some .int)) rm_X2_leastPower (va_Pc [.ref (α 52), .int v1, .int v2] (Wd E α g S)) (Qi E α g z) 0 0 E.2.2.1 := by
  refine g_met [.ref (α 52), .int v1, .int v2] (by decide) rfl (Nat.le_of_ble_eq_true rfl) ?_
  intro p e s m below meth c ls C hR hl
  generalize hae : ([.ref (α 52), .int v1, .int v2] : List Value).toArray = args at C ⊢
  have hl : lv_has ls 5 [(0, .ref (α 52)), (1, .int v1), (2, .int v2)] := hl
  obtain ⟨hx, hb, hml, hown, hts, hlk, hrt, hKs⟩ := id C
  have hS : va_S E.2.2.1 s.heap s.heap [] := va_S.rf
  unfold f_X2_leastPower at h
  refine lv_iconst (v := 0) hx hb dX2_leastPower_0 (by decide) ?_
  refine lv_istore_n (lv' := [(3, .int (0 : Int32)), (0, .ref (α 52)), (1, .int v1), (2, .int v2)]) hx hb dX2_leastPower_1 rfl hl (by decide) rfl (fun ls hl => ?_)
  refine lv_iconst (v := 0) hx hb dX2_leastPower_2 (by decide) ?_
  refine lv_istore (lv' := [(4, .int (0 : Int32)), (3, .int (0 : Int32)), (0, .ref (α 52)), (1, .int v1), (2, .int v2)]) hx hb dX2_leastPower_3 hl (by decide) rfl (fun ls hl => ?_)
  refine w_X2_leastPower_L5 C ?_  _ _ _ _ _ _ _  hR hS (lv_sub hl [2, 3, 4, 1, 0] rfl) h
  · intro x10 S11 H locs ls  hR hS hl h
    refine lv_iload_n hx hb dX2_leastPower_40 rfl (lv_at hl 0 rfl) ?_
    exact g_iret C hR hS h dX2_leastPower_41

/-! OneVoice$Loudness.bestSpot(I)I -/
abbrev rm_X2_bestSpot : Room := { frames := 3, cells := 0, slots := 0, locals := 66 }
theorem m_X2_bestSpot : MV yX2_bestSpot RX2 cX2_bestSpot 4 (some .int) 1 := ⟨q916, q917, q76, q918, by decide +kernel⟩
def f_X2_bestSpot_L12 (K40 : Int32 → St → Option (Int32 × St)) (v1 : Int32) : Nat → Int32 → Int32 → St → Option (Int32 × St)
  | 0, _, _, _ => none
  | f + 1, v2, v3, S =>
    if (16 : Int32) ≤ v3 then
      K40 v2 S
    else
      bd_ (f_X2_leastPower v3 v1 S) fun r7 S8 =>
      lt_ (mmin v2 (((16 : Int32) * r7) + v3)) fun x9 =>
      lt_ (v3 + (1 : Int32)) fun x10 =>
      f_X2_bestSpot_L12 K40 v1 f x9 x10 S8

def f_X2_bestSpot (v1 : Int32) (S : St) : Option (Int32 × St) :=
  bd_ (f_X2_leastPower (0 : Int32) v1 S) fun r3 S4 =>
  lt_ ((16 : Int32) * r3) fun x5 =>
  f_X2_bestSpot_L12
    (fun (x11 : Int32) (S12 : St) =>
      some (x11, S12))
    v1 FU x5 (1 : Int32) S4

set_option maxHeartbeats 4000000 in
set_option maxRecDepth 100000 in
theorem w_X2_bestSpot_L12 {p : Program} {l : Launch} {e : Env} {s : State} {m : MethodId} {args : Array Value} {below : List Frame} {meth : Method} {c : Code} {E : En} {α : Nat → Nat} {g : Nat × Nat} (C : Cx p s m args meth c RX2 cX2_bestSpot 4 (some .int) E) {z : Int32 × St} {K40 : Int32 → St → Option (Int32 × St)} {v1 : Int32}
    (hK40 : ∀ (y2 : Int32) (S : St) (H : Heap) (locs : List Loc) (ls : Array Slot), Rp E α g S H → va_S E.2.2.1 s.heap H locs → lv_has ls 4 [(2, .int y2)] → K40 y2 S = some z → W p l e rm_X2_bestSpot s m args below meth c H locs 0 0 (MQ below (Qi E α g z) args s 0 0 E.2.2.1) (F0 m 40 ls [])) :
    ∀ (f : Nat) (v2 : Int32) (v3 : Int32) (S : St) (H : Heap) (locs : List Loc) (ls : Array Slot), Rp E α g S H → va_S E.2.2.1 s.heap H locs → lv_has ls 4 [(0, .ref (α 52)), (1, .int v1), (2, .int v2), (3, .int v3)] → f_X2_bestSpot_L12 K40 v1 f v2 v3 S = some z → W p l e rm_X2_bestSpot s m args below meth c H locs 0 0 (MQ below (Qi E α g z) args s 0 0 E.2.2.1) (F0 m 12 ls []) := by
  obtain ⟨hx, hb, hml, hown, hts, hlk, hrt, hKs⟩ := id C
  intro f
  induction f with
  | zero =>
    intro v2 v3 S H locs ls  hR hS hl h
    rw [f_X2_bestSpot_L12] at h
    cases h
  | succ f ih =>
    intro v2 v3 S H locs ls  hR hS hl h
    rw [f_X2_bestSpot_L12] at h
    refine lv_iload_n hx hb dX2_bestSpot_12 rfl (lv_at hl 3 rfl) ?_
    refine lv_bipush (v := 16) hx hb dX2_bestSpot_13 (by decide) ?_
    refine lv_icmp_ge (tgt := 40) hx hb dX2_bestSpot_15 (by decide) (fun c6 => ?_) (fun c6 => ?_)
    · have h := ite_t c6 h
      exact hK40 _ _ _ _ _  hR hS (lv_sub hl [2] rfl) h
    · have h := ite_f c6 h
      refine lv_iload_n hx hb dX2_bestSpot_18 rfl (lv_at hl 2 rfl) ?_
      refine lv_bipush (v := 16) hx hb dX2_bestSpot_19 (by decide) ?_
      refine lv_aload_n hx hb dX2_bestSpot_21 rfl (lv_at hl 0 rfl) ?_
      refine lv_iload_n hx hb dX2_bestSpot_22 rfl (lv_at hl 3 rfl) ?_
      refine lv_iload_n hx hb dX2_bestSpot_23 rfl (lv_at hl 1 rfl) ?_
      obtain ⟨r7, S8, hr7, h⟩ := bd_e h
      refine g_ci hS (g_runV C hR hS (k := 52) (As := [.int v3, .int v1]) (rest := [.int (16 : Int32), .int v2]) (c_X2_leastPower l  hr7) (live_st (by decide)) rfl (vw2) m_X2_leastPower q919 ⟨rfl, rfl⟩ ⟨Nat.le_of_ble_eq_true rfl, Nat.le_of_ble_eq_true rfl⟩ rfl hl.1 rfl (Nat.le_of_ble_eq_true rfl) dX2_bestSpot_24 ⟨Nat.zero_le _, Nat.zero_le _⟩) (fun H locs hR hS => ?_)
      refine lv_imul hx hb dX2_bestSpot_27 ?_
      refine lv_iload_n hx hb dX2_bestSpot_28 rfl (lv_at hl 3 rfl) ?_
      refine lv_iadd hx hb dX2_bestSpot_29 ?_
      refine g_mmin C (hml.trans hl.1.symm) q926 (Nat.le_of_ble_eq_true rfl) (Nat.le_of_ble_eq_true rfl) (Nat.zero_le _) (Nat.zero_le _) dX2_bestSpot_30 ?_
      obtain ⟨x9, ex9, h⟩ := lt_e h
      refine g_nmi ex9 ?_
      refine lv_istore_n (lv' := [(2, .int x9), (0, .ref (α 52)), (1, .int v1), (3, .int v3)]) hx hb dX2_bestSpot_33 rfl hl (by decide) rfl (fun ls hl => ?_)
      obtain ⟨x10, ex10, h⟩ := lt_e h
      refine lv_iinc (v := x10) (lv' := [(3, .int x10), (2, .int x9), (0, .ref (α 52)), (1, .int v1)]) hx hb dX2_bestSpot_34 hl (k := 3) rfl (by rw [ex10]; rfl) (by decide) rfl (fun ls hl => ?_)
      refine lv_goto (tgt := 12) hx hb dX2_bestSpot_37 (by decide) ?_
      exact ih _ _ _ _ _ _  hR hS (lv_sub hl [2, 3, 1, 0] rfl) h

set_option maxHeartbeats 4000000 in
set_option maxRecDepth 100000 in
theorem c_X2_bestSpot (l : Launch) {E : En} {α : Nat → Nat} {g : Nat × Nat} {v1 : Int32} {S : St}  {z : Int32 × St} (h : f_X2_bestSpot v1 S = some z) : Met l yX2_bestSpot (wsY yX2_bestSpot cX2_bestSpot 4 (some .int)) rm_X2_bestSpot (va_Pc [.ref (α 52), .int v1] (Wd E α g S)) (Qi E α g z) 0 0 E.2.2.1 := by
  refine g_met [.ref (α 52), .int v1] (by decide) rfl (Nat.le_of_ble_eq_true rfl) ?_
  intro p e s m below meth c ls C hR hl
  generalize hae : ([.ref (α 52), .int v1] : List Value).toArray = args at C ⊢
  have hl : lv_has ls 4 [(0, .ref (α 52)), (1, .int v1)] := hl
  obtain ⟨hx, hb, hml, hown, hts, hlk, hrt, hKs⟩ := id C
  have hS : va_S E.2.2.1 s.heap s.heap [] := va_S.rf
  unfold f_X2_bestSpot at h
  refine lv_bipush (v := 16) hx hb dX2_bestSpot_0 (by decide) ?_
  refine lv_aload_n hx hb dX2_bestSpot_2 rfl (lv_at hl 0 rfl) ?_
  refine lv_iconst (v := 0) hx hb dX2_bestSpot_3 (by decide) ?_
  refine lv_iload_n hx hb dX2_bestSpot_4 rfl (lv_at hl 1 rfl) ?_
  obtain ⟨r3, S4, hr3, h⟩ := bd_e h
  refine g_ci hS (g_runV C hR hS (k := 52) (As := [.int (0 : Int32), .int v1]) (rest := [.int (16 : Int32)]) (c_X2_leastPower l  hr3) (live_st (by decide)) rfl (vw2) m_X2_leastPower q919 ⟨rfl, rfl⟩ ⟨Nat.le_of_ble_eq_true rfl, Nat.le_of_ble_eq_true rfl⟩ rfl hl.1 rfl (Nat.le_of_ble_eq_true rfl) dX2_bestSpot_5 ⟨Nat.zero_le _, Nat.zero_le _⟩) (fun H locs hR hS => ?_)
  refine lv_imul hx hb dX2_bestSpot_8 ?_
  obtain ⟨x5, ex5, h⟩ := lt_e h
  refine g_nmi ex5 ?_
  refine lv_istore_n (lv' := [(2, .int x5), (0, .ref (α 52)), (1, .int v1)]) hx hb dX2_bestSpot_9 rfl hl (by decide) rfl (fun ls hl => ?_)
  refine lv_iconst (v := 1) hx hb dX2_bestSpot_10 (by decide) ?_
  refine lv_istore_n (lv' := [(3, .int (1 : Int32)), (2, .int x5), (0, .ref (α 52)), (1, .int v1)]) hx hb dX2_bestSpot_11 rfl hl (by decide) rfl (fun ls hl => ?_)
  refine w_X2_bestSpot_L12 C ?_  _ _ _ _ _ _ _  hR hS (lv_sub hl [2, 3, 1, 0] rfl) h
  · intro x11 S12 H locs ls  hR hS hl h
    refine lv_iload_n hx hb dX2_bestSpot_40 rfl (lv_at hl 0 rfl) ?_
    exact g_iret C hR hS h dX2_bestSpot_41

/-! OneVoice$Piece.soundAt(I)I -/
abbrev rm_X3_soundAt : Room := { frames := 0, cells := 0, slots := 0, locals := 0 }
theorem m_X3_soundAt : MV yX3_soundAt RX3 cX3_soundAt 2 (some .int) 1 := ⟨q437, q438, q78, q439, by decide +kernel⟩
def f_X3_soundAt (n0 : Nat) (v1 : Int32) (S : St) : Option (Int32 × St) :=
  some (((ushr (rd S (200 + 2 * n0) 0) ((4 : Int32) * v1)) &&& (15 : Int32)), S)

set_option maxHeartbeats 4000000 in
set_option maxRecDepth 100000 in
theorem c_X3_soundAt (l : Launch) {E : En} {α : Nat → Nat} {g : Nat × Nat} {n0 : Nat} {v1 : Int32} {S : St} (hn0 : n0 < g.1) {z : Int32 × St} (h : f_X3_soundAt n0 v1 S = some z) : Met l yX3_soundAt (wsY yX3_soundAt cX3_soundAt 2 (some .int)) rm_X3_soundAt (va_Pc [.ref (α (200 + 2 * n0)), .int v1] (Wd E α g S)) (Qi E α g z) 0 0 E.2.2.1 := by
  refine g_met [.ref (α (200 + 2 * n0)), .int v1] (by decide) rfl (Nat.le_of_ble_eq_true rfl) ?_
  intro p e s m below meth c ls C hR hl
  generalize hae : ([.ref (α (200 + 2 * n0)), .int v1] : List Value).toArray = args at C ⊢
  have hl : lv_has ls 2 [(0, .ref (α (200 + 2 * n0))), (1, .int v1)] := hl
  obtain ⟨hx, hb, hml, hown, hts, hlk, hrt, hKs⟩ := id C
  have hS : va_S E.2.2.1 s.heap s.heap [] := va_S.rf
  unfold f_X3_soundAt at h
  refine lv_aload_n hx hb dX3_soundAt_0 rfl (lv_at hl 0 rfl) ?_
  refine g_geti C hR (k := (200 + 2 * n0)) (j := 0) (live_p hn0) (lay_p (Nat.lt_of_lt_of_le hn0 hR.1.1)) rfl (vw3) inl3 (by decide) q386 dX3_soundAt_1 ?_
  refine lv_iconst (v := 4) hx hb dX3_soundAt_4 (by decide) ?_
  refine lv_iload_n hx hb dX3_soundAt_5 rfl (lv_at hl 1 rfl) ?_
  refine lv_imul hx hb dX3_soundAt_6 ?_
  refine lv_iushr (v := ushr (rd S (200 + 2 * n0) 0) ((4 : Int32) * v1)) hx hb dX3_soundAt_7 rfl ?_
  refine lv_bipush (v := 15) hx hb dX3_soundAt_8 (by decide) ?_
  refine lv_iand hx hb dX3_soundAt_10 ?_
  exact g_iret C hR hS h dX3_soundAt_11

/-! OneVoice$Piece.wearAt(I)I -/
abbrev rm_X3_wearAt : Room := { frames := 0, cells := 0, slots := 0, locals := 0 }
theorem m_X3_wearAt : MV yX3_wearAt RX3 cX3_wearAt 2 (some .int) 1 := ⟨q441, q442, q78, q443, by decide +kernel⟩
def f_X3_wearAt (n0 : Nat) (v1 : Int32) (S : St) : Option (Int32 × St) :=
  some ((((ushr (rd S (200 + 2 * n0) 4) v1) &&& (1 : Int32)) + ((ushr (rd S (200 + 2 * n0) 5) v1) &&& (1 : Int32))), S)

set_option maxHeartbeats 4000000 in
set_option maxRecDepth 100000 in
theorem c_X3_wearAt (l : Launch) {E : En} {α : Nat → Nat} {g : Nat × Nat} {n0 : Nat} {v1 : Int32} {S : St} (hn0 : n0 < g.1) {z : Int32 × St} (h : f_X3_wearAt n0 v1 S = some z) : Met l yX3_wearAt (wsY yX3_wearAt cX3_wearAt 2 (some .int)) rm_X3_wearAt (va_Pc [.ref (α (200 + 2 * n0)), .int v1] (Wd E α g S)) (Qi E α g z) 0 0 E.2.2.1 := by
  refine g_met [.ref (α (200 + 2 * n0)), .int v1] (by decide) rfl (Nat.le_of_ble_eq_true rfl) ?_
  intro p e s m below meth c ls C hR hl
  generalize hae : ([.ref (α (200 + 2 * n0)), .int v1] : List Value).toArray = args at C ⊢
  have hl : lv_has ls 2 [(0, .ref (α (200 + 2 * n0))), (1, .int v1)] := hl
  obtain ⟨hx, hb, hml, hown, hts, hlk, hrt, hKs⟩ := id C
  have hS : va_S E.2.2.1 s.heap s.heap [] := va_S.rf
  unfold f_X3_wearAt at h
  refine lv_aload_n hx hb dX3_wearAt_0 rfl (lv_at hl 0 rfl) ?_
  refine g_geti C hR (k := (200 + 2 * n0)) (j := 4) (live_p hn0) (lay_p (Nat.lt_of_lt_of_le hn0 hR.1.1)) rfl (vw3) inl3 (by decide) q395 dX3_wearAt_1 ?_
  refine lv_iload_n hx hb dX3_wearAt_4 rfl (lv_at hl 1 rfl) ?_
  refine lv_iushr (v := ushr (rd S (200 + 2 * n0) 4) v1) hx hb dX3_wearAt_5 rfl ?_
  refine lv_iconst (v := 1) hx hb dX3_wearAt_6 (by decide) ?_
  refine lv_iand hx hb dX3_wearAt_7 ?_
  refine lv_aload_n hx hb dX3_wearAt_8 rfl (lv_at hl 0 rfl) ?_
  refine g_geti C hR (k := (200 + 2 * n0)) (j := 5) (live_p hn0) (lay_p (Nat.lt_of_lt_of_le hn0 hR.1.1)) rfl (vw3) inl3 (by decide) q397 dX3_wearAt_9 ?_
  refine lv_iload_n hx hb dX3_wearAt_12 rfl (lv_at hl 1 rfl) ?_
  refine lv_iushr (v := ushr (rd S (200 + 2 * n0) 5) v1) hx hb dX3_wearAt_13 rfl ?_
  refine lv_iconst (v := 1) hx hb dX3_wearAt_14 (by decide) ?_
  refine lv_iand hx hb dX3_wearAt_15 ?_
  refine lv_iadd hx hb dX3_wearAt_16 ?_
  exact g_iret C hR hS h dX3_wearAt_17

/-! OneVoice$Piece.isDoubleOf(LOneVoice$Piece;)Z -/
abbrev rm_X3_isDoubleOf : Room := { frames := 0, cells := 0, slots := 0, locals := 0 }
theorem m_X3_isDoubleOf : MV yX3_isDoubleOf RX3 cX3_isDoubleOf 2 (some .boolean) 1 := ⟨q421, q422, q78, q423, by decide +kernel⟩
def f_X3_isDoubleOf (n0 : Nat) (n1 : Nat) (S : St) : Option (Int32 × St) :=
  lt_ (fun  (S1 : St) =>
      some ((0 : Int32), S1)) fun J37 =>
  if (rd S (200 + 2 * n0) 2) = (rd S (200 + 2 * n1) 2) then
    if (rd S (200 + 2 * n0) 1) = (rd S (200 + 2 * n1) 1) then
      if (rd S (200 + 2 * n0) 0) = (rd S (200 + 2 * n1) 0) then
        some ((1 : Int32), S)
      else
        J37  S
    else
      J37  S
  else
    J37  S

set_option maxHeartbeats 4000000 in
set_option maxRecDepth 100000 in
theorem c_X3_isDoubleOf (l : Launch) {E : En} {α : Nat → Nat} {g : Nat × Nat} {n0 : Nat} {n1 : Nat} {S : St} (hn0 : n0 < g.1) (hn1 : n1 < g.1) {z : Int32 × St} (h : f_X3_isDoubleOf n0 n1 S = some z) : Met l yX3_isDoubleOf (wsY yX3_isDoubleOf cX3_isDoubleOf 2 (some .boolean)) rm_X3_isDoubleOf (va_Pc [.ref (α (200 + 2 * n0)), .ref (α (200 + 2 * n1))] (Wd E α g S)) (Qi E α g z) 0 0 E.2.2.1 := by
  refine g_met [.ref (α (200 + 2 * n0)), .ref (α (200 + 2 * n1))] (by decide) rfl (Nat.le_of_ble_eq_true rfl) ?_
  intro p e s m below meth c ls C hR hl
  generalize hae : ([.ref (α (200 + 2 * n0)), .ref (α (200 + 2 * n1))] : List Value).toArray = args at C ⊢
  have hl : lv_has ls 2 [(0, .ref (α (200 + 2 * n0))), (1, .ref (α (200 + 2 * n1)))] := hl
  obtain ⟨hx, hb, hml, hown, hts, hlk, hrt, hKs⟩ := id C
  have hS : va_S E.2.2.1 s.heap s.heap [] := va_S.rf
  unfold f_X3_isDoubleOf at h
  refine lv_aload_n hx hb dX3_isDoubleOf_0 rfl (lv_at hl 0 rfl) ?_
  refine g_geti C hR (k := (200 + 2 * n0)) (j := 2) (live_p hn0) (lay_p (Nat.lt_of_lt_of_le hn0 hR.1.1)) rfl (vw3) inl3 (by decide) q390 dX3_isDoubleOf_1 ?_
  refine lv_aload_n hx hb dX3_isDoubleOf_4 rfl (lv_at hl 1 rfl) ?_
  refine g_geti C hR (k := (200 + 2 * n1)) (j := 2) (live_p hn1) (lay_p (Nat.lt_of_lt_of_le hn1 hR.1.1)) rfl (vw3) inl3 (by decide) q390 dX3_isDoubleOf_5 ?_
  obtain ⟨J37, eJ37, h⟩ := lt_e h
  have hJ37 : ∀ (S1 : St) (H : Heap) (locs : List Loc) (ls : Array Slot), Rp E α g S1 H → va_S E.2.2.1 s.heap H locs → lv_has ls 2 [] → J37  S1 = some z → W p l e rm_X3_isDoubleOf s m args below meth c H locs 0 0 (MQ below (Qi E α g z) args s 0 0 E.2.2.1) (F0 m 37 ls []) := by
    intro  S1 H locs ls  hR hS hl h
    rw [eJ37] at h
    refine lv_iconst (v := 0) hx hb dX3_isDoubleOf_37 (by decide) ?_
    exact g_zret C hR hS bz0 h dX3_isDoubleOf_38
  clear eJ37
  refine lv_icmp_ne (tgt := 37) hx hb dX3_isDoubleOf_8 (by decide) (fun c2 => ?_) (fun c2 => ?_)
  · have h := ite_f c2 h
    exact hJ37  _ _ _ _  hR hS (lv_sub hl [] rfl) h
  · have h := ite_t c2 h
    refine lv_aload_n hx hb dX3_isDoubleOf_11 rfl (lv_at hl 0 rfl) ?_
    refine g_geti C hR (k := (200 + 2 * n0)) (j := 1) (live_p hn0) (lay_p (Nat.lt_of_lt_of_le hn0 hR.1.1)) rfl (vw3) inl3 (by decide) q387 dX3_isDoubleOf_12 ?_
    refine lv_aload_n hx hb dX3_isDoubleOf_15 rfl (lv_at hl 1 rfl) ?_
    refine g_geti C hR (k := (200 + 2 * n1)) (j := 1) (live_p hn1) (lay_p (Nat.lt_of_lt_of_le hn1 hR.1.1)) rfl (vw3) inl3 (by decide) q387 dX3_isDoubleOf_16 ?_
    refine lv_icmp_ne (tgt := 37) hx hb dX3_isDoubleOf_19 (by decide) (fun c3 => ?_) (fun c3 => ?_)
    · have h := ite_f c3 h
      exact hJ37  _ _ _ _  hR hS (lv_sub hl [] rfl) h
    · have h := ite_t c3 h
      refine lv_aload_n hx hb dX3_isDoubleOf_22 rfl (lv_at hl 0 rfl) ?_
      refine g_geti C hR (k := (200 + 2 * n0)) (j := 0) (live_p hn0) (lay_p (Nat.lt_of_lt_of_le hn0 hR.1.1)) rfl (vw3) inl3 (by decide) q386 dX3_isDoubleOf_23 ?_
      refine lv_aload_n hx hb dX3_isDoubleOf_26 rfl (lv_at hl 1 rfl) ?_
      refine g_geti C hR (k := (200 + 2 * n1)) (j := 0) (live_p hn1) (lay_p (Nat.lt_of_lt_of_le hn1 hR.1.1)) rfl (vw3) inl3 (by decide) q386 dX3_isDoubleOf_27 ?_
      refine lv_icmp_ne (tgt := 37) hx hb dX3_isDoubleOf_30 (by decide) (fun c4 => ?_) (fun c4 => ?_)
      · have h := ite_f c4 h
        exact hJ37  _ _ _ _  hR hS (lv_sub hl [] rfl) h
      · have h := ite_t c4 h
        refine lv_iconst (v := 1) hx hb dX3_isDoubleOf_33 (by decide) ?_
        refine lv_goto (tgt := 38) hx hb dX3_isDoubleOf_34 (by decide) ?_
        exact g_zret C hR hS bz1 h dX3_isDoubleOf_38

/-! OneVoice$Piece.says(II)Z -/
abbrev rm_X3_says : Room := { frames := 0, cells := 0, slots := 0, locals := 0 }
theorem m_X3_says : MV yX3_says RX3 cX3_says 3 (some .boolean) 2 := ⟨q479, q480, q78, q481, by decide +kernel⟩
def f_X3_says (n0 : Nat) (v1 : Int32) (v2 : Int32) (S : St) : Option (Int32 × St) :=
  lt_ (fun  (S1 : St) =>
      some ((0 : Int32), S1)) fun J30 =>
  if ((ushr (rd S (200 + 2 * n0) 0) ((4 : Int32) * v1)) &&& (15 : Int32)) = v2 then
    if ((ushr (rd S (200 + 2 * n0) 5) v1) &&& (1 : Int32)) = 0 then
      some ((1 : Int32), S)
    else
      J30  S
  else
    J30  S

set_option maxHeartbeats 4000000 in
set_option maxRecDepth 100000 in
theorem c_X3_says (l : Launch) {E : En} {α : Nat → Nat} {g : Nat × Nat} {n0 : Nat} {v1 : Int32} {v2 : Int32} {S : St} (hn0 : n0 < g.1) {z : Int32 × St} (h : f_X3_says n0 v1 v2 S = some z) : Met l yX3_says (wsY yX3_says cX3_says 3 (some .boolean)) rm_X3_says (va_Pc [.ref (α (200 + 2 * n0)), .int v1, .int v2] (Wd E α g S)) (Qi E α g z) 0 0 E.2.2.1 := by
  refine g_met [.ref (α (200 + 2 * n0)), .int v1, .int v2] (by decide) rfl (Nat.le_of_ble_eq_true rfl) ?_
  intro p e s m below meth c ls C hR hl
  generalize hae : ([.ref (α (200 + 2 * n0)), .int v1, .int v2] : List Value).toArray = args at C ⊢
  have hl : lv_has ls 3 [(0, .ref (α (200 + 2 * n0))), (1, .int v1), (2, .int v2)] := hl
  obtain ⟨hx, hb, hml, hown, hts, hlk, hrt, hKs⟩ := id C
  have hS : va_S E.2.2.1 s.heap s.heap [] := va_S.rf
  unfold f_X3_says at h
  refine lv_aload_n hx hb dX3_says_0 rfl (lv_at hl 0 rfl) ?_
  refine g_geti C hR (k := (200 + 2 * n0)) (j := 0) (live_p hn0) (lay_p (Nat.lt_of_lt_of_le hn0 hR.1.1)) rfl (vw3) inl3 (by decide) q386 dX3_says_1 ?_
  refine lv_iconst (v := 4) hx hb dX3_says_4 (by decide) ?_
  refine lv_iload_n hx hb dX3_says_5 rfl (lv_at hl 1 rfl) ?_
  refine lv_imul hx hb dX3_says_6 ?_
  refine lv_iushr (v := ushr (rd S (200 + 2 * n0) 0) ((4 : Int32) * v1)) hx hb dX3_says_7 rfl ?_
  refine lv_bipush (v := 15) hx hb dX3_says_8 (by decide) ?_
  refine lv_iand hx hb dX3_says_10 ?_
  refine lv_iload_n hx hb dX3_says_11 rfl (lv_at hl 2 rfl) ?_
  obtain ⟨J30, eJ30, h⟩ := lt_e h
  have hJ30 : ∀ (S1 : St) (H : Heap) (locs : List Loc) (ls : Array Slot), Rp E α g S1 H → va_S E.2.2.1 s.heap H locs → lv_has ls 3 [] → J30  S1 = some z → W p l e rm_X3_says s m args below meth c H locs 0 0 (MQ below (Qi E α g z) args s 0 0 E.2.2.1) (F0 m 30 ls []) := by
    intro  S1 H locs ls  hR hS hl h
    rw [eJ30] at h
    refine lv_iconst (v := 0) hx hb dX3_says_30 (by decide) ?_
    exact g_zret C hR hS bz0 h dX3_says_31
  clear eJ30
  refine lv_icmp_ne (tgt := 30) hx hb dX3_says_12 (by decide) (fun c2 => ?_) (fun c2 => ?_)
  · have h := ite_f c2 h
    exact hJ30  _ _ _ _  hR hS (lv_sub hl [] rfl) h
  · have h := ite_t c2 h
    refine lv_aload_n hx hb dX3_says_15 rfl (lv_at hl 0 rfl) ?_
    refine g_geti C hR (k := (200 + 2 * n0)) (j := 5) (live_p hn0) (lay_p (Nat.lt_of_lt_of_le hn0 hR.1.1)) rfl (vw3) inl3 (by decide) q397 dX3_says_16 ?_
    refine lv_iload_n hx hb dX3_says_19 rfl (lv_at hl 1 rfl) ?_
    refine lv_iushr (v := ushr (rd S (200 + 2 * n0) 5) v1) hx hb dX3_says_20 rfl ?_
    refine lv_iconst (v := 1) hx hb dX3_says_21 (by decide) ?_
    refine lv_iand hx hb dX3_says_22 ?_
    refine lv_if_ne (tgt := 30) hx hb dX3_says_23 (by decide) (fun c3 => ?_) (fun c3 => ?_)
    · have h := ite_f c3 h
      exact hJ30  _ _ _ _  hR hS (lv_sub hl [] rfl) h
    · have h := ite_t c3 h
      refine lv_iconst (v := 1) hx hb dX3_says_26 (by decide) ?_
      refine lv_goto (tgt := 31) hx hb dX3_says_27 (by decide) ?_
      exact g_zret C hR hS bz1 h dX3_says_31

/-! OneVoice$Piece.cutsAtBegin(I)I -/
abbrev rm_X3_cutsAtBegin : Room := { frames := 0, cells := 0, slots := 0, locals := 0 }
theorem m_X3_cutsAtBegin : MV yX3_cutsAtBegin RX3 cX3_cutsAtBegin 2 (some .int) 1 := ⟨q491, q492, q78, q493, by decide +kernel⟩
def f_X3_cutsAtBegin (n0 : Nat) (v1 : Int32) (S : St) : Option (Int32 × St) :=
  if v1 = 0 then
    some ((0 : Int32), S)
  else
    some ((1 : Int32), S)

set_option maxHeartbeats 4000000 in
set_option maxRecDepth 100000 in
theorem c_X3_cutsAtBegin (l : Launch) {E : En} {α : Nat → Nat} {g : Nat × Nat} {n0 : Nat} {v1 : Int32} {S : St} (hn0 : n0 < g.1) {z : Int32 × St} (h : f_X3_cutsAtBegin n0 v1 S = some z) : Met l yX3_cutsAtBegin (wsY yX3_cutsAtBegin cX3_cutsAtBegin 2 (some .int)) rm_X3_cutsAtBegin (va_Pc [.ref (α (200 + 2 * n0)), .int v1] (Wd E α g S)) (Qi E α g z) 0 0 E.2.2.1 := by
  refine g_met [.ref (α (200 + 2 * n0)), .int v1] (by decide) rfl (Nat.le_of_ble_eq_true rfl) ?_
  intro p e s m below meth c ls C hR hl
  generalize hae : ([.ref (α (200 + 2 * n0)), .int v1] : List Value).toArray = args at C ⊢
  have hl : lv_has ls 2 [(0, .ref (α (200 + 2 * n0))), (1, .int v1)] := hl
  obtain ⟨hx, hb, hml, hown, hts, hlk, hrt, hKs⟩ := id C
  have hS : va_S E.2.2.1 s.heap s.heap [] := va_S.rf
  unfold f_X3_cutsAtBegin at h
  refine lv_iload_n hx hb dX3_cutsAtBegin_0 rfl (lv_at hl 1 rfl) ?_
  refine lv_if_ne (tgt := 8) hx hb dX3_cutsAtBegin_1 (by decide) (fun c1 => ?_) (fun c1 => ?_)
  · have h := ite_f c1 h
    refine lv_iconst (v := 1) hx hb dX3_cutsAtBegin_8 (by decide) ?_
    exact g_iret C hR hS h dX3_cutsAtBegin_9
  · have h := ite_t c1 h
    refine lv_iconst (v := 0) hx hb dX3_cutsAtBegin_4 (by decide) ?_
    refine lv_goto (tgt := 9) hx hb dX3_cutsAtBegin_5 (by decide) ?_
    exact g_iret C hR hS h dX3_cutsAtBegin_9

/-! OneVoice$Piece.cutsAtEnd(I)I -/
abbrev rm_X3_cutsAtEnd : Room := { frames := 0, cells := 0, slots := 0, locals := 0 }
theorem m_X3_cutsAtEnd : MV yX3_cutsAtEnd RX3 cX3_cutsAtEnd 2 (some .int) 1 := ⟨q483, q484, q78, q485, by decide +kernel⟩
def f_X3_cutsAtEnd (n0 : Nat) (v1 : Int32) (S : St) : Option (Int32 × St) :=
  if v1 = ((rd S (200 + 2 * n0) 1) - (1 : Int32)) then
    some ((0 : Int32), S)
  else
    some ((1 : Int32), S)

set_option maxHeartbeats 4000000 in
set_option maxRecDepth 100000 in
theorem c_X3_cutsAtEnd (l : Launch) {E : En} {α : Nat → Nat} {g : Nat × Nat} {n0 : Nat} {v1 : Int32} {S : St} (hn0 : n0 < g.1) {z : Int32 × St} (h : f_X3_cutsAtEnd n0 v1 S = some z) : Met l yX3_cutsAtEnd (wsY yX3_cutsAtEnd cX3_cutsAtEnd 2 (some .int)) rm_X3_cutsAtEnd (va_Pc [.ref (α (200 + 2 * n0)), .int v1] (Wd E α g S)) (Qi E α g z) 0 0 E.2.2.1 := by
  refine g_met [.ref (α (200 + 2 * n0)), .int v1] (by decide) rfl (Nat.le_of_ble_eq_true rfl) ?_
  intro p e s m below meth c ls C hR hl
  generalize hae : ([.ref (α (200 + 2 * n0)), .int v1] : List Value).toArray = args at C ⊢
  have hl : lv_has ls 2 [(0, .ref (α (200 + 2 * n0))), (1, .int v1)] := hl
  obtain ⟨hx, hb, hml, hown, hts, hlk, hrt, hKs⟩ := id C
  have hS : va_S E.2.2.1 s.heap s.heap [] := va_S.rf
  unfold f_X3_cutsAtEnd at h
  refine lv_iload_n hx hb dX3_cutsAtEnd_0 rfl (lv_at hl 1 rfl) ?_
  refine lv_aload_n hx hb dX3_cutsAtEnd_1 rfl (lv_at hl 0 rfl) ?_
  refine g_geti C hR (k := (200 + 2 * n0)) (j := 1) (live_p hn0) (lay_p (Nat.lt_of_lt_of_le hn0 hR.1.1)) rfl (vw3) inl3 (by decide) q387 dX3_cutsAtEnd_2 ?_
  refine lv_iconst (v := 1) hx hb dX3_cutsAtEnd_5 (by decide) ?_
  refine lv_isub hx hb dX3_cutsAtEnd_6 ?_
  refine lv_icmp_ne (tgt := 14) hx hb dX3_cutsAtEnd_7 (by decide) (fun c1 => ?_) (fun c1 => ?_)
  · have h := ite_f c1 h
    refine lv_iconst (v := 1) hx hb dX3_cutsAtEnd_14 (by decide) ?_
    exact g_iret C hR hS h dX3_cutsAtEnd_15
  · have h := ite_t c1 h
    refine lv_iconst (v := 0) hx hb dX3_cutsAtEnd_10 (by decide) ?_
    refine lv_goto (tgt := 15) hx hb dX3_cutsAtEnd_11 (by decide) ?_
    exact g_iret C hR hS h dX3_cutsAtEnd_15

/-! OneVoice$Recorder.stepOf(II)I -/
abbrev rm_X4_stepOf : Room := { frames := 0, cells := 0, slots := 0, locals := 0 }
theorem m_X4_stepOf : MS yX4_stepOf cX4_stepOf 2 (some .int) 2 := ⟨q868, q75, q869, by decide +kernel⟩
def f_X4_stepOf (v0 : Int32) (v1 : Int32) (S : St) : Option (Int32 × St) :=
  some (((v0 * (17 : Int32)) + v1), S)

set_option maxHeartbeats 4000000 in
set_option maxRecDepth 100000 in
theorem c_X4_stepOf (l : Launch) {E : En} {α : Nat → Nat} {g : Nat × Nat} {v0 : Int32} {v1 : Int32} {S : St}  {z : Int32 × St} (h : f_X4_stepOf v0 v1 S = some z) : Met l yX4_stepOf (wsY yX4_stepOf cX4_stepOf 2 (some .int)) rm_X4_stepOf (va_Pc [.int v0, .int v1] (Wd E α g S)) (Qi E α g z) 0 0 E.2.2.1 := by
  refine g_met [.int v0, .int v1] (by decide) rfl (Nat.le_of_ble_eq_true rfl) ?_
  intro p e s m below meth c ls C hR hl
  generalize hae : ([.int v0, .int v1] : List Value).toArray = args at C ⊢
  have hl : lv_has ls 2 [(0, .int v0), (1, .int v1)] := hl
  obtain ⟨hx, hb, hml, hown, hts, hlk, hrt, hKs⟩ := id C
  have hS : va_S E.2.2.1 s.heap s.heap [] := va_S.rf
  unfold f_X4_stepOf at h
  refine lv_iload_n hx hb dX4_stepOf_0 rfl (lv_at hl 0 rfl) ?_
  refine lv_bipush (v := 17) hx hb dX4_stepOf_1 (by decide) ?_
  refine lv_imul hx hb dX4_stepOf_3 ?_
  refine lv_iload_n hx hb dX4_stepOf_4 rfl (lv_at hl 1 rfl) ?_
  refine lv_iadd hx hb dX4_stepOf_5 ?_
  exact g_iret C hR hS h dX4_stepOf_6

/-! OneVoice$Recorder.bitOf(I)J -/
abbrev rm_X4_bitOf : Room := { frames := 0, cells := 0, slots := 0, locals := 0 }
theorem m_X4_bitOf : MV yX4_bitOf RX4 cX4_bitOf 3 (some .long) 1 := ⟨q876, q28, q75, q877, by decide +kernel⟩
def f_X4_bitOf_L2 (K20 : Int32 → St → Option (Int64 × St)) (K30 : St → Option (Int64 × St)) (v1 : Int32) : Nat → Int32 → St → Option (Int64 × St)
  | 0, _, _ => none
  | f + 1, v2, S =>
    if (rd S 49 2) ≤ v2 then
      K30  S
    else
      gd_ (inb v2 36) <|
      if (rd S 50 (Int32.toNatClampNeg v2)) = v1 then
        K20 v2 S
      else
        lt_ (v2 + (1 : Int32)) fun x6 =>
        f_X4_bitOf_L2 K20 K30 v1 f x6 S

def f_X4_bitOf (v1 : Int32) (S : St) : Option (Int64 × St) :=
  f_X4_bitOf_L2
    (fun (x7 : Int32) (S8 : St) =>
      some ((lshlv (1 : Int64) x7), S8))
    (fun  (S9 : St) =>
      some ((0 : Int64), S9))
    v1 FU (0 : Int32) S

set_option maxHeartbeats 4000000 in
set_option maxRecDepth 100000 in
theorem w_X4_bitOf_L2 {p : Program} {l : Launch} {e : Env} {s : State} {m : MethodId} {args : Array Value} {below : List Frame} {meth : Method} {c : Code} {E : En} {α : Nat → Nat} {g : Nat × Nat} (C : Cx p s m args meth c RX4 cX4_bitOf 3 (some .long) E) {z : Int64 × St} {K20 : Int32 → St → Option (Int64 × St)} {K30 : St → Option (Int64 × St)} {v1 : Int32}
    (hK20 : ∀ (y2 : Int32) (S : St) (H : Heap) (locs : List Loc) (ls : Array Slot), Rp E α g S H → va_S E.2.2.1 s.heap H locs → lv_has ls 3 [(2, .int y2)] → K20 y2 S = some z → W p l e rm_X4_bitOf s m args below meth c H locs 0 0 (MQ below (Ql E α g z) args s 0 0 E.2.2.1) (F0 m 20 ls []))
    (hK30 : ∀ (S : St) (H : Heap) (locs : List Loc) (ls : Array Slot), Rp E α g S H → va_S E.2.2.1 s.heap H locs → lv_has ls 3 [] → K30  S = some z → W p l e rm_X4_bitOf s m args below meth c H locs 0 0 (MQ below (Ql E α g z) args s 0 0 E.2.2.1) (F0 m 30 ls [])) :
    ∀ (f : Nat) (v2 : Int32) (S : St) (H : Heap) (locs : List Loc) (ls : Array Slot), Rp E α g S H → va_S E.2.2.1 s.heap H locs → lv_has ls 3 [(0, .ref (α 49)), (1, .int v1), (2, .int v2)] → f_X4_bitOf_L2 K20 K30 v1 f v2 S = some z → W p l e rm_X4_bitOf s m args below meth c H locs 0 0 (MQ below (Ql E α g z) args s 0 0 E.2.2.1) (F0 m 2 ls []) := by
  obtain ⟨hx, hb, hml, hown, hts, hlk, hrt, hKs⟩ := id C
  intro f
  induction f with
  | zero =>
    intro v2 S H locs ls  hR hS hl h
    rw [f_X4_bitOf_L2] at h
    cases h
  | succ f ih =>
    intro v2 S H locs ls  hR hS hl h
    rw [f_X4_bitOf_L2] at h
    refine lv_iload_n hx hb dX4_bitOf_2 rfl (lv_at hl 2 rfl) ?_
    refine lv_aload_n hx hb dX4_bitOf_3 rfl (lv_at hl 0 rfl) ?_
    refine g_geti C hR (k := 49) (j := 2) (live_st (by decide)) rfl rfl (vw4) inl4 (by decide) q325 dX4_bitOf_4 ?_
    refine lv_icmp_ge (tgt := 30) hx hb dX4_bitOf_7 (by decide) (fun c3 => ?_) (fun c3 => ?_)
    · have h := ite_t c3 h
      exact hK30  _ _ _ _  hR hS (lv_sub hl [] rfl) h
    · have h := ite_f c3 h
      refine lv_aload_n hx hb dX4_bitOf_10 rfl (lv_at hl 0 rfl) ?_
      refine g_getr (t := 50) C hR (k := 49) (j := 1) (live_st (by decide)) rfl rfl (vw4) inl4 (by decide) q324 dX4_bitOf_11 ?_
      refine lv_iload_n hx hb dX4_bitOf_14 rfl (lv_at hl 2 rfl) ?_
      obtain ⟨g4, h⟩ := gd_e h
      refine g_iald C hR (k := 50) (n := 36) (live_st (by decide)) rfl g4 dX4_bitOf_15 ?_
      refine lv_iload_n hx hb dX4_bitOf_16 rfl (lv_at hl 1 rfl) ?_
      refine lv_icmp_ne (tgt := 24) hx hb dX4_bitOf_17 (by decide) (fun c5 => ?_) (fun c5 => ?_)
      · have h := ite_f c5 h
        obtain ⟨x6, ex6, h⟩ := lt_e h
        refine lv_iinc (v := x6) (lv' := [(2, .int x6), (0, .ref (α 49)), (1, .int v1)]) hx hb dX4_bitOf_24 hl (k := 2) rfl (by rw [ex6]; rfl) (by decide) rfl (fun ls hl => ?_)
        refine lv_goto (tgt := 2) hx hb dX4_bitOf_27 (by decide) ?_
        exact ih _ _ _ _ _  hR hS (lv_sub hl [1, 2, 0] rfl) h
      · have h := ite_t c5 h
        exact hK20 _ _ _ _ _  hR hS (lv_sub hl [2] rfl) h

set_option maxHeartbeats 4000000 in
set_option maxRecDepth 100000 in
theorem c_X4_bitOf (l : Launch) {E : En} {α : Nat → Nat} {g : Nat × Nat} {v1 : Int32} {S : St}  {z : Int64 × St} (h : f_X4_bitOf v1 S = some z) : Met l yX4_bitOf (wsY yX4_bitOf cX4_bitOf 3 (some .long)) rm_X4_bitOf (va_Pc [.ref (α 49), .int v1] (Wd E α g S)) (Ql E α g z) 0 0 E.2.2.1 := by
  refine g_met [.ref (α 49), .int v1] (by decide) rfl (Nat.le_of_ble_eq_true rfl) ?_
  intro p e s m below meth c ls C hR hl
  generalize hae : ([.ref (α 49), .int v1] : List Value).toArray = args at C ⊢
  have hl : lv_has ls 3 [(0, .ref (α 49)), (1, .int v1)] := hl
  obtain ⟨hx, hb, hml, hown, hts, hlk, hrt, hKs⟩ := id C
  have hS : va_S E.2.2.1 s.heap s.heap [] := va_S.rf
  unfold f_X4_bitOf at h
  refine lv_iconst (v := 0) hx hb dX4_bitOf_0 (by decide) ?_
  refine lv_istore_n (lv' := [(2, .int (0 : Int32)), (0, .ref (α 49)), (1, .int v1)]) hx hb dX4_bitOf_1 rfl hl (by decide) rfl (fun ls hl => ?_)
  refine w_X4_bitOf_L2 C ?_ ?_  _ _ _ _ _ _  hR hS (lv_sub hl [1, 2, 0] rfl) h
  · intro x7 S8 H locs ls  hR hS hl h
    refine lv_lconst (v := 1) hx hb dX4_bitOf_20 (by decide) ?_
    refine lv_iload_n hx hb dX4_bitOf_21 rfl (lv_at hl 0 rfl) ?_
    refine lv_lshl (v := lshlv (1 : Int64) x7) hx hb dX4_bitOf_22 rfl ?_
    exact g_lret C hR hS h dX4_bitOf_23
  · intro  S9 H locs ls  hR hS hl h
    refine lv_lconst (v := 0) hx hb dX4_bitOf_30 (by decide) ?_
    exact g_lret C hR hS h dX4_bitOf_31

/-! OneVoice$Recorder.need(I)V -/
abbrev rm_X4_need : Room := { frames := 1, cells := 0, slots := 0, locals := 22 }
theorem m_X4_need : MV yX4_need RX4 cX4_need 2 none 1 := ⟨q872, q27, q75, q873, by decide +kernel⟩
def f_X4_need (v1 : Int32) (S : St) : Option (Unit × St) :=
  bd_ (f_X4_bitOf v1 S) fun r3 S4 =>
  if (lg_cmp r3 (0 : Int64)) = 0 then
    if (36 : Int32) ≤ (rd S4 49 2) then
      some ((), S4)
    else
      gd_ (inb (rd S4 49 2) 36) <|
      lt_ (wr S4 50 (Int32.toNatClampNeg (rd S4 49 2)) v1) fun S7 =>
      lt_ (wr S7 49 2 ((rd S7 49 2) + (1 : Int32))) fun S9 =>
      some ((), S9)
  else
    some ((), S4)

set_option maxHeartbeats 4000000 in
set_option maxRecDepth 100000 in
theorem c_X4_need (l : Launch) {E : En} {α : Nat → Nat} {g : Nat × Nat} {v1 : Int32} {S : St}  {z : Unit × St} (h : f_X4_need v1 S = some z) : Met l yX4_need (wsY yX4_need cX4_need 2 none) rm_X4_need (va_Pc [.ref (α 49), .int v1] (Wd E α g S)) (Qv E α g z) 0 0 E.2.2.1 := by
  refine g_met [.ref (α 49), .int v1] (by decide) rfl (Nat.le_of_ble_eq_true rfl) ?_
  intro p e s m below meth c ls C hR hl
  generalize hae : ([.ref (α 49), .int v1] : List Value).toArray = args at C ⊢
  have hl : lv_has ls 2 [(0, .ref (α 49)), (1, .int v1)] := hl
  obtain ⟨hx, hb, hml, hown, hts, hlk, hrt, hKs⟩ := id C
  have hS : va_S E.2.2.1 s.heap s.heap [] := va_S.rf
  unfold f_X4_need at h
  refine lv_aload_n hx hb dX4_need_0 rfl (lv_at hl 0 rfl) ?_
  refine lv_iload_n hx hb dX4_need_1 rfl (lv_at hl 1 rfl) ?_
  obtain ⟨r3, S4, hr3, h⟩ := bd_e h
  refine g_cl hS (g_runV C hR hS (k := 49) (As := [.int v1]) (rest := []) (c_X4_bitOf l  hr3) (live_st (by decide)) rfl (vw4) m_X4_bitOf q874 ⟨rfl, rfl⟩ ⟨Nat.le_of_ble_eq_true rfl, Nat.le_of_ble_eq_true rfl⟩ rfl hl.1 rfl (Nat.le_of_ble_eq_true rfl) dX4_need_2 ⟨Nat.zero_le _, Nat.zero_le _⟩) (fun H locs hR hS => ?_)
  refine lv_lconst (v := 0) hx hb dX4_need_5 (by decide) ?_
  refine W.lcmp hx hb dX4_need_6 ?_
  refine lv_if_ne (tgt := 39) hx hb dX4_need_7 (by decide) (fun c5 => ?_) (fun c5 => ?_)
  · have h := ite_f c5 h
    exact g_vret C hR hS h dX4_need_39
  · have h := ite_t c5 h
    refine lv_aload_n hx hb dX4_need_10 rfl (lv_at hl 0 rfl) ?_
    refine g_geti C hR (k := 49) (j := 2) (live_st (by decide)) rfl rfl (vw4) inl4 (by decide) q325 dX4_need_11 ?_
    refine lv_bipush (v := 36) hx hb dX4_need_14 (by decide) ?_
    refine lv_icmp_ge (tgt := 39) hx hb dX4_need_16 (by decide) (fun c6 => ?_) (fun c6 => ?_)
    · have h := ite_t c6 h
      exact g_vret C hR hS h dX4_need_39
    · have h := ite_f c6 h
      refine lv_aload_n hx hb dX4_need_19 rfl (lv_at hl 0 rfl) ?_
      refine g_getr (t := 50) C hR (k := 49) (j := 1) (live_st (by decide)) rfl rfl (vw4) inl4 (by decide) q324 dX4_need_20 ?_
      refine lv_aload_n hx hb dX4_need_23 rfl (lv_at hl 0 rfl) ?_
      refine g_geti C hR (k := 49) (j := 2) (live_st (by decide)) rfl rfl (vw4) inl4 (by decide) q325 dX4_need_24 ?_
      refine lv_iload_n hx hb dX4_need_27 rfl (lv_at hl 1 rfl) ?_
      obtain ⟨g8, h⟩ := gd_e h
      obtain ⟨S7, eS7, h⟩ := lt_e h
      refine g_iast C hR hS (k := 50) (n := 36) (live_st (by decide)) rfl g8 eS7 dX4_need_28 (fun H locs hR hS => ?_)
      refine lv_aload_n hx hb dX4_need_29 rfl (lv_at hl 0 rfl) ?_
      refine lv_dup hx hb dX4_need_30 rfl ?_
      refine g_geti C hR (k := 49) (j := 2) (live_st (by decide)) rfl rfl (vw4) inl4 (by decide) q325 dX4_need_31 ?_
      refine lv_iconst (v := 1) hx hb dX4_need_34 (by decide) ?_
      refine lv_iadd hx hb dX4_need_35 ?_
      obtain ⟨S9, eS9, h⟩ := lt_e h
      refine g_puti C hR hS (k := 49) (j := 2) (live_st (by decide)) rfl rfl (vw4) inl4 (by decide) (ty0 := tyX4) tyX4_ok nmX4 q325 rfl rfl rfl eS9 dX4_need_36 (fun H locs hR hS => ?_)
      exact g_vret C hR hS h dX4_need_39

/-! OneVoice$Recorder.gatherNames()V -/
abbrev rm_X4_gatherNames : Room := { frames := 2, cells := 0, slots := 0, locals := 43 }
theorem m_X4_gatherNames : MV yX4_gatherNames RX4 cX4_gatherNames 5 none 0 := ⟨q864, q26, q75, q865, by decide +kernel⟩
def f_X4_gatherNames_L19 (K62 : Int32 → St → Option (Unit × St)) (v1 : Int32) : Nat → Int32 → Int32 → St → Option (Unit × St)
  | 0, _, _, _ => none
  | f + 1, v2, v3, S =>
    gd_ (inb v1 32) <|
    if (rd S 16 (Int32.toNatClampNeg v1)) ≤ v3 then
      K62 v2 S
    else
      bd_ (f_X1_soundOf v1 v3 S) fun r9 S10 =>
      bd_ (f_X4_stepOf v2 r9 S10) fun r11 S12 =>
      bd_ (f_X4_need r11 S12) fun r13 S14 =>
      lt_ (v3 + (1 : Int32)) fun x15 =>
      f_X4_gatherNames_L19 K62 v1 f r9 x15 S14

def f_X4_gatherNames_L8 (K84 : St → Option (Unit × St))  : Nat → Int32 → St → Option (Unit × St)
  | 0, _, _ => none
  | f + 1, v1, S =>
    if (32 : Int32) ≤ v1 then
      K84  S
    else
      f_X4_gatherNames_L19
        (fun (x16 : Int32) (S17 : St) =>
          lt_ (fun  (S18 : St) =>
              lt_ (v1 + (1 : Int32)) fun x19 =>
              f_X4_gatherNames_L8 K84 f x19 S18) fun J78 =>
          if x16 = (16 : Int32) then
            J78  S17
          else
            bd_ (f_X4_stepOf x16 (16 : Int32) S17) fun r21 S22 =>
            bd_ (f_X4_need r21 S22) fun r23 S24 =>
            J78  S24)
        v1 FU (16 : Int32) (0 : Int32) S

def f_X4_gatherNames  (S : St) : Option (Unit × St) :=
  lt_ (wr S 49 2 (0 : Int32)) fun S5 =>
  f_X4_gatherNames_L8
    (fun  (S25 : St) =>
      some ((), S25))
     FU (28 : Int32) S5

set_option maxHeartbeats 4000000 in
set_option maxRecDepth 100000 in
theorem w_X4_gatherNames_L19 {p : Program} {l : Launch} {e : Env} {s : State} {m : MethodId} {args : Array Value} {below : List Frame} {meth : Method} {c : Code} {E : En} {α : Nat → Nat} {g : Nat × Nat} (C : Cx p s m args meth c RX4 cX4_gatherNames 5 none E) {z : Unit × St} {K62 : Int32 → St → Option (Unit × St)} {v1 : Int32}
    (hK62 : ∀ (y2 : Int32) (S : St) (H : Heap) (locs : List Loc) (ls : Array Slot), Rp E α g S H → va_S E.2.2.1 s.heap H locs → lv_has ls 5 [(0, .ref (α 49)), (1, .int v1), (2, .int y2)] → K62 y2 S = some z → W p l e rm_X4_gatherNames s m args below meth c H locs 0 0 (MQ below (Qv E α g z) args s 0 0 E.2.2.1) (F0 m 62 ls [])) :
    ∀ (f : Nat) (v2 : Int32) (v3 : Int32) (S : St) (H : Heap) (locs : List Loc) (ls : Array Slot), Rp E α g S H → va_S E.2.2.1 s.heap H locs → lv_has ls 5 [(0, .ref (α 49)), (1, .int v1), (2, .int v2), (3, .int v3)] → f_X4_gatherNames_L19 K62 v1 f v2 v3 S = some z → W p l e rm_X4_gatherNames s m args below meth c H locs 0 0 (MQ below (Qv E α g z) args s 0 0 E.2.2.1) (F0 m 19 ls []) := by
  obtain ⟨hx, hb, hml, hown, hts, hlk, hrt, hKs⟩ := id C
  intro f
  induction f with
  | zero =>
    intro v2 v3 S H locs ls  hR hS hl h
    rw [f_X4_gatherNames_L19] at h
    cases h
  | succ f ih =>
    intro v2 v3 S H locs ls  hR hS hl h
    rw [f_X4_gatherNames_L19] at h
    refine lv_iload_n hx hb dX4_gatherNames_19 rfl (lv_at hl 3 rfl) ?_
    refine lv_aload_n hx hb dX4_gatherNames_20 rfl (lv_at hl 0 rfl) ?_
    refine g_getr (t := 14) C hR (k := 49) (j := 0) (live_st (by decide)) rfl rfl (vw4) inl4 (by decide) q323 dX4_gatherNames_21 ?_
    refine g_getr (t := 16) C hR (k := 14) (j := 1) (live_st (by decide)) rfl rfl (vw1) inl1 (by decide) q190 dX4_gatherNames_24 ?_
    refine lv_iload_n hx hb dX4_gatherNames_27 rfl (lv_at hl 1 rfl) ?_
    obtain ⟨g7, h⟩ := gd_e h
    refine g_iald C hR (k := 16) (n := 32) (live_st (by decide)) rfl g7 dX4_gatherNames_28 ?_
    refine lv_icmp_ge (tgt := 62) hx hb dX4_gatherNames_29 (by decide) (fun c8 => ?_) (fun c8 => ?_)
    · have h := ite_t c8 h
      exact hK62 _ _ _ _ _  hR hS (lv_sub hl [0, 1, 2] rfl) h
    · have h := ite_f c8 h
      refine lv_aload_n hx hb dX4_gatherNames_32 rfl (lv_at hl 0 rfl) ?_
      refine g_getr (t := 14) C hR (k := 49) (j := 0) (live_st (by decide)) rfl rfl (vw4) inl4 (by decide) q323 dX4_gatherNames_33 ?_
      refine lv_iload_n hx hb dX4_gatherNames_36 rfl (lv_at hl 1 rfl) ?_
      refine lv_iload_n hx hb dX4_gatherNames_37 rfl (lv_at hl 3 rfl) ?_
      obtain ⟨r9, S10, hr9, h⟩ := bd_e h
      refine g_ci hS (g_runV C hR hS (k := 14) (As := [.int v1, .int v3]) (rest := []) (c_X1_soundOf l  hr9) (live_st (by decide)) rfl (vw1) m_X1_soundOf q866 ⟨rfl, rfl⟩ ⟨Nat.le_of_ble_eq_true rfl, Nat.le_of_ble_eq_true rfl⟩ rfl hl.1 rfl (Nat.le_of_ble_eq_true rfl) dX4_gatherNames_38 ⟨Nat.zero_le _, Nat.zero_le _⟩) (fun H locs hR hS => ?_)
      refine lv_istore (lv' := [(4, .int r9), (0, .ref (α 49)), (1, .int v1), (2, .int v2), (3, .int v3)]) hx hb dX4_gatherNames_41 hl (by decide) rfl (fun ls hl => ?_)
      refine lv_aload_n hx hb dX4_gatherNames_43 rfl (lv_at hl 1 rfl) ?_
      refine lv_iload_n hx hb dX4_gatherNames_44 rfl (lv_at hl 3 rfl) ?_
      refine lv_iload hx hb dX4_gatherNames_45 (lv_at hl 0 rfl) ?_
      obtain ⟨r11, S12, hr11, h⟩ := bd_e h
      refine g_ci hS (g_runS C hR hS (As := [.int v2, .int r9]) (rest := [.ref (α 49)]) (c_X4_stepOf l  hr11) m_X4_stepOf q867 ⟨rfl, rfl⟩ ⟨Nat.le_of_ble_eq_true rfl, Nat.le_of_ble_eq_true rfl⟩ rfl hl.1 rfl (Nat.le_of_ble_eq_true rfl) dX4_gatherNames_47 ⟨Nat.zero_le _, Nat.zero_le _⟩) (fun H locs hR hS => ?_)
      obtain ⟨r13, S14, hr13, h⟩ := bd_e h
      refine g_cv hS (g_runV C hR hS (k := 49) (As := [.int r11]) (rest := []) (c_X4_need l  hr13) (live_st (by decide)) rfl (vw4) m_X4_need q870 ⟨rfl, rfl⟩ ⟨Nat.le_of_ble_eq_true rfl, Nat.le_of_ble_eq_true rfl⟩ rfl hl.1 rfl (Nat.le_of_ble_eq_true rfl) dX4_gatherNames_50 ⟨Nat.zero_le _, Nat.zero_le _⟩) (fun H locs hR hS => ?_)
      refine lv_iload hx hb dX4_gatherNames_53 (lv_at hl 0 rfl) ?_
      refine lv_istore_n (lv' := [(2, .int r9), (4, .int r9), (0, .ref (α 49)), (1, .int v1), (3, .int v3)]) hx hb dX4_gatherNames_55 rfl hl (by decide) rfl (fun ls hl => ?_)
      obtain ⟨x15, ex15, h⟩ := lt_e h
      refine lv_iinc (v := x15) (lv' := [(3, .int x15), (2, .int r9), (4, .int r9), (0, .ref (α 49)), (1, .int v1)]) hx hb dX4_gatherNames_56 hl (k := 4) rfl (by rw [ex15]; rfl) (by decide) rfl (fun ls hl => ?_)
      refine lv_goto (tgt := 19) hx hb dX4_gatherNames_59 (by decide) ?_
      exact ih _ _ _ _ _ _  hR hS (lv_sub hl [3, 4, 1, 0] rfl) h

set_option maxHeartbeats 4000000 in
set_option maxRecDepth 100000 in
theorem w_X4_gatherNames_L8 {p : Program} {l : Launch} {e : Env} {s : State} {m : MethodId} {args : Array Value} {below : List Frame} {meth : Method} {c : Code} {E : En} {α : Nat → Nat} {g : Nat × Nat} (C : Cx p s m args meth c RX4 cX4_gatherNames 5 none E) {z : Unit × St} {K84 : St → Option (Unit × St)}
    (hK84 : ∀ (S : St) (H : Heap) (locs : List Loc) (ls : Array Slot), Rp E α g S H → va_S E.2.2.1 s.heap H locs → lv_has ls 5 [] → K84  S = some z → W p l e rm_X4_gatherNames s m args below meth c H locs 0 0 (MQ below (Qv E α g z) args s 0 0 E.2.2.1) (F0 m 84 ls [])) :
    ∀ (f : Nat) (v1 : Int32) (S : St) (H : Heap) (locs : List Loc) (ls : Array Slot), Rp E α g S H → va_S E.2.2.1 s.heap H locs → lv_has ls 5 [(0, .ref (α 49)), (1, .int v1)] → f_X4_gatherNames_L8 K84 f v1 S = some z → W p l e rm_X4_gatherNames s m args below meth c H locs 0 0 (MQ below (Qv E α g z) args s 0 0 E.2.2.1) (F0 m 8 ls []) := by
  obtain ⟨hx, hb, hml, hown, hts, hlk, hrt, hKs⟩ := id C
  intro f
  induction f with
  | zero =>
    intro v1 S H locs ls  hR hS hl h
    rw [f_X4_gatherNames_L8] at h
    cases h
  | succ f ih =>
    intro v1 S H locs ls  hR hS hl h
    rw [f_X4_gatherNames_L8] at h
    refine lv_iload_n hx hb dX4_gatherNames_8 rfl (lv_at hl 1 rfl) ?_
    refine lv_bipush (v := 32) hx hb dX4_gatherNames_9 (by decide) ?_
    refine lv_icmp_ge (tgt := 84) hx hb dX4_gatherNames_11 (by decide) (fun c6 => ?_) (fun c6 => ?_)
    · have h := ite_t c6 h
      exact hK84  _ _ _ _  hR hS (lv_sub hl [] rfl) h
    · have h := ite_f c6 h
      refine lv_bipush (v := 16) hx hb dX4_gatherNames_14 (by decide) ?_
      refine lv_istore_n (lv' := [(2, .int (16 : Int32)), (0, .ref (α 49)), (1, .int v1)]) hx hb dX4_gatherNames_16 rfl hl (by decide) rfl (fun ls hl => ?_)
      refine lv_iconst (v := 0) hx hb dX4_gatherNames_17 (by decide) ?_
      refine lv_istore_n (lv' := [(3, .int (0 : Int32)), (2, .int (16 : Int32)), (0, .ref (α 49)), (1, .int v1)]) hx hb dX4_gatherNames_18 rfl hl (by decide) rfl (fun ls hl => ?_)
      refine w_X4_gatherNames_L19 C ?_  _ _ _ _ _ _ _  hR hS (lv_sub hl [2, 3, 1, 0] rfl) h
      · intro x16 S17 H locs ls  hR hS hl h
        refine lv_iload_n hx hb dX4_gatherNames_62 rfl (lv_at hl 2 rfl) ?_
        refine lv_bipush (v := 16) hx hb dX4_gatherNames_63 (by decide) ?_
        obtain ⟨J78, eJ78, h⟩ := lt_e h
        have hJ78 : ∀ (S18 : St) (H : Heap) (locs : List Loc) (ls : Array Slot), Rp E α g S18 H → va_S E.2.2.1 s.heap H locs → lv_has ls 5 [(0, .ref (α 49)), (1, .int v1)] → J78  S18 = some z → W p l e rm_X4_gatherNames s m args below meth c H locs 0 0 (MQ below (Qv E α g z) args s 0 0 E.2.2.1) (F0 m 78 ls []) := by
          intro  S18 H locs ls  hR hS hl h
          rw [eJ78] at h
          obtain ⟨x19, ex19, h⟩ := lt_e h
          refine lv_iinc (v := x19) (lv' := [(1, .int x19), (0, .ref (α 49))]) hx hb dX4_gatherNames_78 hl (k := 1) rfl (by rw [ex19]; rfl) (by decide) rfl (fun ls hl => ?_)
          refine lv_goto (tgt := 8) hx hb dX4_gatherNames_81 (by decide) ?_
          exact ih _ _ _ _ _  hR hS (lv_sub hl [1, 0] rfl) h
        clear eJ78
        refine lv_icmp_eq (tgt := 78) hx hb dX4_gatherNames_65 (by decide) (fun c20 => ?_) (fun c20 => ?_)
        · have h := ite_t c20 h
          exact hJ78  _ _ _ _  hR hS (lv_sub hl [0, 1] rfl) h
        · have h := ite_f c20 h
          refine lv_aload_n hx hb dX4_gatherNames_68 rfl (lv_at hl 0 rfl) ?_
          refine lv_iload_n hx hb dX4_gatherNames_69 rfl (lv_at hl 2 rfl) ?_
          refine lv_bipush (v := 16) hx hb dX4_gatherNames_70 (by decide) ?_
          obtain ⟨r21, S22, hr21, h⟩ := bd_e h
          refine g_ci hS (g_runS C hR hS (As := [.int x16, .int (16 : Int32)]) (rest := [.ref (α 49)]) (c_X4_stepOf l  hr21) m_X4_stepOf q867 ⟨rfl, rfl⟩ ⟨Nat.le_of_ble_eq_true rfl, Nat.le_of_ble_eq_true rfl⟩ rfl hl.1 rfl (Nat.le_of_ble_eq_true rfl) dX4_gatherNames_72 ⟨Nat.zero_le _, Nat.zero_le _⟩) (fun H locs hR hS => ?_)
          obtain ⟨r23, S24, hr23, h⟩ := bd_e h
          refine g_cv hS (g_runV C hR hS (k := 49) (As := [.int r21]) (rest := []) (c_X4_need l  hr23) (live_st (by decide)) rfl (vw4) m_X4_need q870 ⟨rfl, rfl⟩ ⟨Nat.le_of_ble_eq_true rfl, Nat.le_of_ble_eq_true rfl⟩ rfl hl.1 rfl (Nat.le_of_ble_eq_true rfl) dX4_gatherNames_75 ⟨Nat.zero_le _, Nat.zero_le _⟩) (fun H locs hR hS => ?_)
          exact hJ78  _ _ _ _  hR hS (lv_sub hl [0, 1] rfl) h

set_option maxHeartbeats 4000000 in
set_option maxRecDepth 100000 in
theorem c_X4_gatherNames (l : Launch) {E : En} {α : Nat → Nat} {g : Nat × Nat}  {S : St}  {z : Unit × St} (h : f_X4_gatherNames  S = some z) : Met l yX4_gatherNames (wsY yX4_gatherNames cX4_gatherNames 5 none) rm_X4_gatherNames (va_Pc [.ref (α 49)] (Wd E α g S)) (Qv E α g z) 0 0 E.2.2.1 := by
  refine g_met [.ref (α 49)] (by decide) rfl (Nat.le_of_ble_eq_true rfl) ?_
  intro p e s m below meth c ls C hR hl
  generalize hae : ([.ref (α 49)] : List Value).toArray = args at C ⊢
  have hl : lv_has ls 5 [(0, .ref (α 49))] := hl
  obtain ⟨hx, hb, hml, hown, hts, hlk, hrt, hKs⟩ := id C
  have hS : va_S E.2.2.1 s.heap s.heap [] := va_S.rf
  unfold f_X4_gatherNames at h
  refine lv_aload_n hx hb dX4_gatherNames_0 rfl (lv_at hl 0 rfl) ?_
  refine lv_iconst (v := 0) hx hb dX4_gatherNames_1 (by decide) ?_
  obtain ⟨S5, eS5, h⟩ := lt_e h
  refine g_puti C hR hS (k := 49) (j := 2) (live_st (by decide)) rfl rfl (vw4) inl4 (by decide) (ty0 := tyX4) tyX4_ok nmX4 q325 rfl rfl rfl eS5 dX4_gatherNames_2 (fun H locs hR hS => ?_)
  refine lv_bipush (v := 28) hx hb dX4_gatherNames_5 (by decide) ?_
  refine lv_istore_n (lv' := [(1, .int (28 : Int32)), (0, .ref (α 49))]) hx hb dX4_gatherNames_7 rfl hl (by decide) rfl (fun ls hl => ?_)
  refine w_X4_gatherNames_L8 C ?_  _ _ _ _ _ _  hR hS (lv_sub hl [1, 0] rfl) h
  · intro  S25 H locs ls  hR hS hl h
    exact g_vret C hR hS h dX4_gatherNames_84

/-! OneVoice$Recorder.coverOfSpoken()J -/
abbrev rm_X4_coverOfSpoken : Room := { frames := 1, cells := 0, slots := 0, locals := 22 }
theorem m_X4_coverOfSpoken : MV yX4_coverOfSpoken RX4 cX4_coverOfSpoken 8 (some .long) 0 := ⟨q886, q29, q75, q887, by decide +kernel⟩
def f_X4_coverOfSpoken_L35 (K85 : Int64 → Int32 → St → Option (Int64 × St)) (v4 : Int32) (v5 : Int32) : Nat → Int64 → Int32 → Int32 → St → Option (Int64 × St)
  | 0, _, _, _, _ => none
  | f + 1, v1, v3, v6, S =>
    gd_ (inb v5 32) <|
    if (rd S 16 (Int32.toNatClampNeg v5)) ≤ v6 then
      K85 v1 v3 S
    else
      bd_ (f_X1_soundOf v5 v6 S) fun r12 S13 =>
      bd_ (f_X4_stepOf v3 r12 S13) fun r14 S15 =>
      bd_ (f_X4_bitOf r14 S15) fun r16 S17 =>
      lt_ (v1 ||| r16) fun x18 =>
      lt_ (v6 + (1 : Int32)) fun x19 =>
      f_X4_coverOfSpoken_L35 K85 v4 v5 f x18 r12 x19 S17

def f_X4_coverOfSpoken_L8 (K91 : Int64 → Int32 → St → Option (Int64 × St))  : Nat → Int64 → Int32 → Int32 → St → Option (Int64 × St)
  | 0, _, _, _, _ => none
  | f + 1, v1, v3, v4, S =>
    if (rd S 14 5) ≤ v4 then
      K91 v1 v3 S
    else
      gd_ (inb v4 16) <|
      lt_ (rd S 19 (Int32.toNatClampNeg v4)) fun x9 =>
      f_X4_coverOfSpoken_L35
        (fun (x20 : Int64) (x21 : Int32) (S22 : St) =>
          lt_ (v4 + (1 : Int32)) fun x23 =>
          f_X4_coverOfSpoken_L8 K91 f x20 x21 x23 S22)
        v4 x9 FU v1 v3 (0 : Int32) S

def f_X4_coverOfSpoken  (S : St) : Option (Int64 × St) :=
  f_X4_coverOfSpoken_L8
    (fun (x24 : Int64) (x25 : Int32) (S26 : St) =>
      bd_ (f_X4_stepOf x25 (16 : Int32) S26) fun r27 S28 =>
      bd_ (f_X4_bitOf r27 S28) fun r29 S30 =>
      some ((x24 ||| r29), S30))
     FU (0 : Int64) (16 : Int32) (0 : Int32) S

set_option maxHeartbeats 4000000 in
set_option maxRecDepth 100000 in
theorem w_X4_coverOfSpoken_L35 {p : Program} {l : Launch} {e : Env} {s : State} {m : MethodId} {args : Array Value} {below : List Frame} {meth : Method} {c : Code} {E : En} {α : Nat → Nat} {g : Nat × Nat} (C : Cx p s m args meth c RX4 cX4_coverOfSpoken 8 (some .long) E) {z : Int64 × St} {K85 : Int64 → Int32 → St → Option (Int64 × St)} {v4 : Int32} {v5 : Int32}
    (hK85 : ∀ (y1 : Int64) (y3 : Int32) (S : St) (H : Heap) (locs : List Loc) (ls : Array Slot), Rp E α g S H → va_S E.2.2.1 s.heap H locs → lv_has ls 8 [(0, .ref (α 49)), (1, .long y1), (3, .int y3), (4, .int v4)] → K85 y1 y3 S = some z → W p l e rm_X4_coverOfSpoken s m args below meth c H locs 0 0 (MQ below (Ql E α g z) args s 0 0 E.2.2.1) (F0 m 85 ls [])) :
    ∀ (f : Nat) (v1 : Int64) (v3 : Int32) (v6 : Int32) (S : St) (H : Heap) (locs : List Loc) (ls : Array Slot), Rp E α g S H → va_S E.2.2.1 s.heap H locs → lv_has ls 8 [(0, .ref (α 49)), (1, .long v1), (3, .int v3), (4, .int v4), (5, .int v5), (6, .int v6)] → f_X4_coverOfSpoken_L35 K85 v4 v5 f v1 v3 v6 S = some z → W p l e rm_X4_coverOfSpoken s m args below meth c H locs 0 0 (MQ below (Ql E α g z) args s 0 0 E.2.2.1) (F0 m 35 ls []) := by
  obtain ⟨hx, hb, hml, hown, hts, hlk, hrt, hKs⟩ := id C
  intro f
  induction f with
  | zero =>
    intro v1 v3 v6 S H locs ls  hR hS hl h
    rw [f_X4_coverOfSpoken_L35] at h
    cases h
  | succ f ih =>
    intro v1 v3 v6 S H locs ls  hR hS hl h
    rw [f_X4_coverOfSpoken_L35] at h
    refine lv_iload hx hb dX4_coverOfSpoken_35 (lv_at hl 5 rfl) ?_
    refine lv_aload_n hx hb dX4_coverOfSpoken_37 rfl (lv_at hl 0 rfl) ?_
    refine g_getr (t := 14) C hR (k := 49) (j := 0) (live_st (by decide)) rfl rfl (vw4) inl4 (by decide) q323 dX4_coverOfSpoken_38 ?_
    refine g_getr (t := 16) C hR (k := 14) (j := 1) (live_st (by decide)) rfl rfl (vw1) inl1 (by decide) q190 dX4_coverOfSpoken_41 ?_
    refine lv_iload hx hb dX4_coverOfSpoken_44 (lv_at hl 4 rfl) ?_
    obtain ⟨g10, h⟩ := gd_e h
    refine g_iald C hR (k := 16) (n := 32) (live_st (by decide)) rfl g10 dX4_coverOfSpoken_46 ?_
    refine lv_icmp_ge (tgt := 85) hx hb dX4_coverOfSpoken_47 (by decide) (fun c11 => ?_) (fun c11 => ?_)
    · have h := ite_t c11 h
      exact hK85 _ _ _ _ _ _  hR hS (lv_sub hl [0, 1, 2, 3] rfl) h
    · have h := ite_f c11 h
      refine lv_aload_n hx hb dX4_coverOfSpoken_50 rfl (lv_at hl 0 rfl) ?_
      refine g_getr (t := 14) C hR (k := 49) (j := 0) (live_st (by decide)) rfl rfl (vw4) inl4 (by decide) q323 dX4_coverOfSpoken_51 ?_
      refine lv_iload hx hb dX4_coverOfSpoken_54 (lv_at hl 4 rfl) ?_
      refine lv_iload hx hb dX4_coverOfSpoken_56 (lv_at hl 5 rfl) ?_
      obtain ⟨r12, S13, hr12, h⟩ := bd_e h
      refine g_ci hS (g_runV C hR hS (k := 14) (As := [.int v5, .int v6]) (rest := []) (c_X1_soundOf l  hr12) (live_st (by decide)) rfl (vw1) m_X1_soundOf q866 ⟨rfl, rfl⟩ ⟨Nat.le_of_ble_eq_true rfl, Nat.le_of_ble_eq_true rfl⟩ rfl hl.1 rfl (Nat.le_of_ble_eq_true rfl) dX4_coverOfSpoken_58 ⟨Nat.zero_le _, Nat.zero_le _⟩) (fun H locs hR hS => ?_)
      refine lv_istore (lv' := [(7, .int r12), (0, .ref (α 49)), (1, .long v1), (3, .int v3), (4, .int v4), (5, .int v5), (6, .int v6)]) hx hb dX4_coverOfSpoken_61 hl (by decide) rfl (fun ls hl => ?_)
      refine lv_lload_n hx hb dX4_coverOfSpoken_63 rfl (lv_at hl 2 rfl) ?_
      refine lv_aload_n hx hb dX4_coverOfSpoken_64 rfl (lv_at hl 1 rfl) ?_
      refine lv_iload_n hx hb dX4_coverOfSpoken_65 rfl (lv_at hl 3 rfl) ?_
      refine lv_iload hx hb dX4_coverOfSpoken_66 (lv_at hl 0 rfl) ?_
      obtain ⟨r14, S15, hr14, h⟩ := bd_e h
      refine g_ci hS (g_runS C hR hS (As := [.int v3, .int r12]) (rest := [.ref (α 49), .long v1]) (c_X4_stepOf l  hr14) m_X4_stepOf q867 ⟨rfl, rfl⟩ ⟨Nat.le_of_ble_eq_true rfl, Nat.le_of_ble_eq_true rfl⟩ rfl hl.1 rfl (Nat.le_of_ble_eq_true rfl) dX4_coverOfSpoken_68 ⟨Nat.zero_le _, Nat.zero_le _⟩) (fun H locs hR hS => ?_)
      obtain ⟨r16, S17, hr16, h⟩ := bd_e h
      refine g_cl hS (g_runV C hR hS (k := 49) (As := [.int r14]) (rest := [.long v1]) (c_X4_bitOf l  hr16) (live_st (by decide)) rfl (vw4) m_X4_bitOf q874 ⟨rfl, rfl⟩ ⟨Nat.le_of_ble_eq_true rfl, Nat.le_of_ble_eq_true rfl⟩ rfl hl.1 rfl (Nat.le_of_ble_eq_true rfl) dX4_coverOfSpoken_71 ⟨Nat.zero_le _, Nat.zero_le _⟩) (fun H locs hR hS => ?_)
      refine lv_lor hx hb dX4_coverOfSpoken_74 ?_
      obtain ⟨x18, ex18, h⟩ := lt_e h
      refine g_nml ex18 ?_
      refine lv_lstore_n (lv' := [(1, .long x18), (7, .int r12), (0, .ref (α 49)), (3, .int v3), (4, .int v4), (5, .int v5), (6, .int v6)]) hx hb dX4_coverOfSpoken_75 rfl hl (by decide) rfl (fun ls hl => ?_)
      refine lv_iload hx hb dX4_coverOfSpoken_76 (lv_at hl 1 rfl) ?_
      refine lv_istore_n (lv' := [(3, .int r12), (1, .long x18), (7, .int r12), (0, .ref (α 49)), (4, .int v4), (5, .int v5), (6, .int v6)]) hx hb dX4_coverOfSpoken_78 rfl hl (by decide) rfl (fun ls hl => ?_)
      obtain ⟨x19, ex19, h⟩ := lt_e h
      refine lv_iinc (v := x19) (lv' := [(6, .int x19), (3, .int r12), (1, .long x18), (7, .int r12), (0, .ref (α 49)), (4, .int v4), (5, .int v5)]) hx hb dX4_coverOfSpoken_79 hl (k := 6) rfl (by rw [ex19]; rfl) (by decide) rfl (fun ls hl => ?_)
      refine lv_goto (tgt := 35) hx hb dX4_coverOfSpoken_82 (by decide) ?_
      exact ih _ _ _ _ _ _ _  hR hS (lv_sub hl [4, 2, 1, 5, 6, 0] rfl) h

set_option maxHeartbeats 4000000 in
set_option maxRecDepth 100000 in
theorem w_X4_coverOfSpoken_L8 {p : Program} {l : Launch} {e : Env} {s : State} {m : MethodId} {args : Array Value} {below : List Frame} {meth : Method} {c : Code} {E : En} {α : Nat → Nat} {g : Nat × Nat} (C : Cx p s m args meth c RX4 cX4_coverOfSpoken 8 (some .long) E) {z : Int64 × St} {K91 : Int64 → Int32 → St → Option (Int64 × St)}
    (hK91 : ∀ (y1 : Int64) (y3 : Int32) (S : St) (H : Heap) (locs : List Loc) (ls : Array Slot), Rp E α g S H → va_S E.2.2.1 s.heap H locs → lv_has ls 8 [(0, .ref (α 49)), (1, .long y1), (3, .int y3)] → K91 y1 y3 S = some z → W p l e rm_X4_coverOfSpoken s m args below meth c H locs 0 0 (MQ below (Ql E α g z) args s 0 0 E.2.2.1) (F0 m 91 ls [])) :
    ∀ (f : Nat) (v1 : Int64) (v3 : Int32) (v4 : Int32) (S : St) (H : Heap) (locs : List Loc) (ls : Array Slot), Rp E α g S H → va_S E.2.2.1 s.heap H locs → lv_has ls 8 [(0, .ref (α 49)), (1, .long v1), (3, .int v3), (4, .int v4)] → f_X4_coverOfSpoken_L8 K91 f v1 v3 v4 S = some z → W p l e rm_X4_coverOfSpoken s m args below meth c H locs 0 0 (MQ below (Ql E α g z) args s 0 0 E.2.2.1) (F0 m 8 ls []) := by
  obtain ⟨hx, hb, hml, hown, hts, hlk, hrt, hKs⟩ := id C
  intro f
  induction f with
  | zero =>
    intro v1 v3 v4 S H locs ls  hR hS hl h
    rw [f_X4_coverOfSpoken_L8] at h
    cases h
  | succ f ih =>
    intro v1 v3 v4 S H locs ls  hR hS hl h
    rw [f_X4_coverOfSpoken_L8] at h
    refine lv_iload hx hb dX4_coverOfSpoken_8 (lv_at hl 3 rfl) ?_
    refine lv_aload_n hx hb dX4_coverOfSpoken_10 rfl (lv_at hl 0 rfl) ?_
    refine g_getr (t := 14) C hR (k := 49) (j := 0) (live_st (by decide)) rfl rfl (vw4) inl4 (by decide) q323 dX4_coverOfSpoken_11 ?_
    refine g_geti C hR (k := 14) (j := 5) (live_st (by decide)) rfl rfl (vw1) inl1 (by decide) q203 dX4_coverOfSpoken_14 ?_
    refine lv_icmp_ge (tgt := 91) hx hb dX4_coverOfSpoken_17 (by decide) (fun c7 => ?_) (fun c7 => ?_)
    · have h := ite_t c7 h
      exact hK91 _ _ _ _ _ _  hR hS (lv_sub hl [0, 1, 2] rfl) h
    · have h := ite_f c7 h
      refine lv_aload_n hx hb dX4_coverOfSpoken_20 rfl (lv_at hl 0 rfl) ?_
      refine g_getr (t := 14) C hR (k := 49) (j := 0) (live_st (by decide)) rfl rfl (vw4) inl4 (by decide) q323 dX4_coverOfSpoken_21 ?_
      refine g_getr (t := 19) C hR (k := 14) (j := 4) (live_st (by decide)) rfl rfl (vw1) inl1 (by decide) q199 dX4_coverOfSpoken_24 ?_
      refine lv_iload hx hb dX4_coverOfSpoken_27 (lv_at hl 3 rfl) ?_
      obtain ⟨g8, h⟩ := gd_e h
      refine g_iald C hR (k := 19) (n := 16) (live_st (by decide)) rfl g8 dX4_coverOfSpoken_29 ?_
      obtain ⟨x9, ex9, h⟩ := lt_e h
      refine g_nmi ex9 ?_
      refine lv_istore (lv' := [(5, .int x9), (0, .ref (α 49)), (1, .long v1), (3, .int v3), (4, .int v4)]) hx hb dX4_coverOfSpoken_30 hl (by decide) rfl (fun ls hl => ?_)
      refine lv_iconst (v := 0) hx hb dX4_coverOfSpoken_32 (by decide) ?_
      refine lv_istore (lv' := [(6, .int (0 : Int32)), (5, .int x9), (0, .ref (α 49)), (1, .long v1), (3, .int v3), (4, .int v4)]) hx hb dX4_coverOfSpoken_33 hl (by decide) rfl (fun ls hl => ?_)
      refine w_X4_coverOfSpoken_L35 C ?_  _ _ _ _ _ _ _ _  hR hS (lv_sub hl [2, 3, 4, 5, 1, 0] rfl) h
      · intro x20 x21 S22 H locs ls  hR hS hl h
        obtain ⟨x23, ex23, h⟩ := lt_e h
        refine lv_iinc (v := x23) (lv' := [(4, .int x23), (0, .ref (α 49)), (1, .long x20), (3, .int x21)]) hx hb dX4_coverOfSpoken_85 hl (k := 3) rfl (by rw [ex23]; rfl) (by decide) rfl (fun ls hl => ?_)
        refine lv_goto (tgt := 8) hx hb dX4_coverOfSpoken_88 (by decide) ?_
        exact ih _ _ _ _ _ _ _  hR hS (lv_sub hl [1, 2, 3, 0] rfl) h

set_option maxHeartbeats 4000000 in
set_option maxRecDepth 100000 in
theorem c_X4_coverOfSpoken (l : Launch) {E : En} {α : Nat → Nat} {g : Nat × Nat}  {S : St}  {z : Int64 × St} (h : f_X4_coverOfSpoken  S = some z) : Met l yX4_coverOfSpoken (wsY yX4_coverOfSpoken cX4_coverOfSpoken 8 (some .long)) rm_X4_coverOfSpoken (va_Pc [.ref (α 49)] (Wd E α g S)) (Ql E α g z) 0 0 E.2.2.1 := by
  refine g_met [.ref (α 49)] (by decide) rfl (Nat.le_of_ble_eq_true rfl) ?_
  intro p e s m below meth c ls C hR hl
  generalize hae : ([.ref (α 49)] : List Value).toArray = args at C ⊢
  have hl : lv_has ls 8 [(0, .ref (α 49))] := hl
  obtain ⟨hx, hb, hml, hown, hts, hlk, hrt, hKs⟩ := id C
  have hS : va_S E.2.2.1 s.heap s.heap [] := va_S.rf
  unfold f_X4_coverOfSpoken at h
  refine lv_lconst (v := 0) hx hb dX4_coverOfSpoken_0 (by decide) ?_
  refine lv_lstore_n (lv' := [(1, .long (0 : Int64)), (0, .ref (α 49))]) hx hb dX4_coverOfSpoken_1 rfl hl (by decide) rfl (fun ls hl => ?_)
  refine lv_bipush (v := 16) hx hb dX4_coverOfSpoken_2 (by decide) ?_
  refine lv_istore_n (lv' := [(3, .int (16 : Int32)), (1, .long (0 : Int64)), (0, .ref (α 49))]) hx hb dX4_coverOfSpoken_4 rfl hl (by decide) rfl (fun ls hl => ?_)
  refine lv_iconst (v := 0) hx hb dX4_coverOfSpoken_5 (by decide) ?_
  refine lv_istore (lv' := [(4, .int (0 : Int32)), (3, .int (16 : Int32)), (1, .long (0 : Int64)), (0, .ref (α 49))]) hx hb dX4_coverOfSpoken_6 hl (by decide) rfl (fun ls hl => ?_)
  refine w_X4_coverOfSpoken_L8 C ?_  _ _ _ _ _ _ _ _  hR hS (lv_sub hl [3, 2, 1, 0] rfl) h
  · intro x24 x25 S26 H locs ls  hR hS hl h
    refine lv_lload_n hx hb dX4_coverOfSpoken_91 rfl (lv_at hl 1 rfl) ?_
    refine lv_aload_n hx hb dX4_coverOfSpoken_92 rfl (lv_at hl 0 rfl) ?_
    refine lv_iload_n hx hb dX4_coverOfSpoken_93 rfl (lv_at hl 2 rfl) ?_
    refine lv_bipush (v := 16) hx hb dX4_coverOfSpoken_94 (by decide) ?_
    obtain ⟨r27, S28, hr27, h⟩ := bd_e h
    refine g_ci hS (g_runS C hR hS (As := [.int x25, .int (16 : Int32)]) (rest := [.ref (α 49), .long x24]) (c_X4_stepOf l  hr27) m_X4_stepOf q867 ⟨rfl, rfl⟩ ⟨Nat.le_of_ble_eq_true rfl, Nat.le_of_ble_eq_true rfl⟩ rfl hl.1 rfl (Nat.le_of_ble_eq_true rfl) dX4_coverOfSpoken_96 ⟨Nat.zero_le _, Nat.zero_le _⟩) (fun H locs hR hS => ?_)
    obtain ⟨r29, S30, hr29, h⟩ := bd_e h
    refine g_cl hS (g_runV C hR hS (k := 49) (As := [.int r27]) (rest := [.long x24]) (c_X4_bitOf l  hr29) (live_st (by decide)) rfl (vw4) m_X4_bitOf q874 ⟨rfl, rfl⟩ ⟨Nat.le_of_ble_eq_true rfl, Nat.le_of_ble_eq_true rfl⟩ rfl hl.1 rfl (Nat.le_of_ble_eq_true rfl) dX4_coverOfSpoken_99 ⟨Nat.zero_le _, Nat.zero_le _⟩) (fun H locs hR hS => ?_)
    refine lv_lor hx hb dX4_coverOfSpoken_102 ?_
    exact g_lret C hR hS h dX4_coverOfSpoken_103

/-! java/lang/Integer.bitCount(I)I -/
abbrev rm_J6_bitCount_0f7a4 : Room := { frames := 0, cells := 0, slots := 0, locals := 0 }
theorem m_J6_bitCount_0f7a4 : MS yJ6_bitCount_0f7a4 cJ6_bitCount_0f7a4 1 (some .int) 1 := ⟨q453, q79, q454, by decide +kernel⟩
def f_J6_bitCount_0f7a4 (v0 : Int32) (S : St) : Option (Int32 × St) :=
  lt_ (v0 - ((ushr v0 (1 : Int32)) &&& (1431655765 : Int32))) fun x6 =>
  lt_ ((x6 &&& (858993459 : Int32)) + ((ushr x6 (2 : Int32)) &&& (858993459 : Int32))) fun x7 =>
  lt_ ((x7 + (ushr x7 (4 : Int32))) &&& (252645135 : Int32)) fun x8 =>
  lt_ (x8 + (ushr x8 (8 : Int32))) fun x9 =>
  lt_ (x9 + (ushr x9 (16 : Int32))) fun x10 =>
  some ((x10 &&& (63 : Int32)), S)

set_option maxHeartbeats 4000000 in
set_option maxRecDepth 100000 in
theorem c_J6_bitCount_0f7a4 (l : Launch) {E : En} {α : Nat → Nat} {g : Nat × Nat} {v0 : Int32} {S : St}  {z : Int32 × St} (h : f_J6_bitCount_0f7a4 v0 S = some z) : Met l yJ6_bitCount_0f7a4 (wsY yJ6_bitCount_0f7a4 cJ6_bitCount_0f7a4 1 (some .int)) rm_J6_bitCount_0f7a4 (va_Pc [.int v0] (Wd E α g S)) (Qi E α g z) 0 0 E.2.2.1 := by
  refine g_met [.int v0] (by decide) rfl (Nat.le_of_ble_eq_true rfl) ?_
  intro p e s m below meth c ls C hR hl
  generalize hae : ([.int v0] : List Value).toArray = args at C ⊢
  have hl : lv_has ls 1 [(0, .int v0)] := hl
  obtain ⟨hx, hb, hml, hown, hts, hlk, hrt, hKs⟩ := id C
  have hS : va_S E.2.2.1 s.heap s.heap [] := va_S.rf
  unfold f_J6_bitCount_0f7a4 at h
  refine lv_iload_n hx hb dJ6_bitCount_0f7a4_0 rfl (lv_at hl 0 rfl) ?_
  refine lv_iload_n hx hb dJ6_bitCount_0f7a4_1 rfl (lv_at hl 0 rfl) ?_
  refine lv_iconst (v := 1) hx hb dJ6_bitCount_0f7a4_2 (by decide) ?_
  refine lv_iushr (v := ushr v0 (1 : Int32)) hx hb dJ6_bitCount_0f7a4_3 rfl ?_
  refine lv_ldcw (v := 1431655765) hx hb hown (hts _ q455) dJ6_bitCount_0f7a4_4 ?_
  refine lv_iand hx hb dJ6_bitCount_0f7a4_7 ?_
  refine lv_isub hx hb dJ6_bitCount_0f7a4_8 ?_
  obtain ⟨x6, ex6, h⟩ := lt_e h
  refine g_nmi ex6 ?_
  refine lv_istore_n (lv' := [(0, .int x6)]) hx hb dJ6_bitCount_0f7a4_9 rfl hl (by decide) rfl (fun ls hl => ?_)
  refine lv_iload_n hx hb dJ6_bitCount_0f7a4_10 rfl (lv_at hl 0 rfl) ?_
  refine lv_ldcw (v := 858993459) hx hb hown (hts _ q456) dJ6_bitCount_0f7a4_11 ?_
  refine lv_iand hx hb dJ6_bitCount_0f7a4_14 ?_
  refine lv_iload_n hx hb dJ6_bitCount_0f7a4_15 rfl (lv_at hl 0 rfl) ?_
  refine lv_iconst (v := 2) hx hb dJ6_bitCount_0f7a4_16 (by decide) ?_
  refine lv_iushr (v := ushr x6 (2 : Int32)) hx hb dJ6_bitCount_0f7a4_17 rfl ?_
  refine lv_ldcw (v := 858993459) hx hb hown (hts _ q456) dJ6_bitCount_0f7a4_18 ?_
  refine lv_iand hx hb dJ6_bitCount_0f7a4_21 ?_
  refine lv_iadd hx hb dJ6_bitCount_0f7a4_22 ?_
  obtain ⟨x7, ex7, h⟩ := lt_e h
  refine g_nmi ex7 ?_
  refine lv_istore_n (lv' := [(0, .int x7)]) hx hb dJ6_bitCount_0f7a4_23 rfl hl (by decide) rfl (fun ls hl => ?_)
  refine lv_iload_n hx hb dJ6_bitCount_0f7a4_24 rfl (lv_at hl 0 rfl) ?_
  refine lv_iload_n hx hb dJ6_bitCount_0f7a4_25 rfl (lv_at hl 0 rfl) ?_
  refine lv_iconst (v := 4) hx hb dJ6_bitCount_0f7a4_26 (by decide) ?_
  refine lv_iushr (v := ushr x7 (4 : Int32)) hx hb dJ6_bitCount_0f7a4_27 rfl ?_
  refine lv_iadd hx hb dJ6_bitCount_0f7a4_28 ?_
  refine lv_ldcw (v := 252645135) hx hb hown (hts _ q457) dJ6_bitCount_0f7a4_29 ?_
  refine lv_iand hx hb dJ6_bitCount_0f7a4_32 ?_
  obtain ⟨x8, ex8, h⟩ := lt_e h
  refine g_nmi ex8 ?_
  refine lv_istore_n (lv' := [(0, .int x8)]) hx hb dJ6_bitCount_0f7a4_33 rfl hl (by decide) rfl (fun ls hl => ?_)
  refine lv_iload_n hx hb dJ6_bitCount_0f7a4_34 rfl (lv_at hl 0 rfl) ?_
  refine lv_iload_n hx hb dJ6_bitCount_0f7a4_35 rfl (lv_at hl 0 rfl) ?_
  refine lv_bipush (v := 8) hx hb dJ6_bitCount_0f7a4_36 (by decide) ?_
  refine lv_iushr (v := ushr x8 (8 : Int32)) hx hb dJ6_bitCount_0f7a4_38 rfl ?_
  refine lv_iadd hx hb dJ6_bitCount_0f7a4_39 ?_
  obtain ⟨x9, ex9, h⟩ := lt_e h
  refine g_nmi ex9 ?_
  refine lv_istore_n (lv' := [(0, .int x9)]) hx hb dJ6_bitCount_0f7a4_40 rfl hl (by decide) rfl (fun ls hl => ?_)
  refine lv_iload_n hx hb dJ6_bitCount_0f7a4_41 rfl (lv_at hl 0 rfl) ?_
  refine lv_iload_n hx hb dJ6_bitCount_0f7a4_42 rfl (lv_at hl 0 rfl) ?_
  refine lv_bipush (v := 16) hx hb dJ6_bitCount_0f7a4_43 (by decide) ?_
  refine lv_iushr (v := ushr x9 (16 : Int32)) hx hb dJ6_bitCount_0f7a4_45 rfl ?_
  refine lv_iadd hx hb dJ6_bitCount_0f7a4_46 ?_
  obtain ⟨x10, ex10, h⟩ := lt_e h
  refine g_nmi ex10 ?_
  refine lv_istore_n (lv' := [(0, .int x10)]) hx hb dJ6_bitCount_0f7a4_47 rfl hl (by decide) rfl (fun ls hl => ?_)
  refine lv_iload_n hx hb dJ6_bitCount_0f7a4_48 rfl (lv_at hl 0 rfl) ?_
  refine lv_bipush (v := 63) hx hb dJ6_bitCount_0f7a4_49 (by decide) ?_
  refine lv_iand hx hb dJ6_bitCount_0f7a4_51 ?_
  exact g_iret C hR hS h dJ6_bitCount_0f7a4_52

/-! OneVoice$Recorder.coverOfSet(I)J -/
abbrev rm_X4_coverOfSet : Room := { frames := 0, cells := 0, slots := 0, locals := 0 }
theorem m_X4_coverOfSet : MV yX4_coverOfSet RX4 cX4_coverOfSet 5 (some .long) 1 := ⟨q891, q30, q75, q892, by decide +kernel⟩
def f_X4_coverOfSet_L5 (K38 : Int64 → St → Option (Int64 × St)) (v1 : Int32) : Nat → Int64 → Int32 → St → Option (Int64 × St)
  | 0, _, _, _ => none
  | f + 1, v2, v4, S =>
    if (8 : Int32) ≤ v4 then
      K38 v2 S
    else
      lt_ (fun (x5 : Int64) (S6 : St) =>
          lt_ (v4 + (1 : Int32)) fun x7 =>
          f_X4_coverOfSet_L5 K38 v1 f x5 x7 S6) fun J32 =>
      if ((ushr v1 v4) &&& (1 : Int32)) = (1 : Int32) then
        gd_ (inb v4 8) <|
        lt_ (v2 ||| (rl S 51 (Int32.toNatClampNeg v4))) fun x10 =>
        J32 x10 S
      else
        J32 v2 S

def f_X4_coverOfSet (v1 : Int32) (S : St) : Option (Int64 × St) :=
  f_X4_coverOfSet_L5
    (fun (x11 : Int64) (S12 : St) =>
      some (x11, S12))
    v1 FU (0 : Int64) (0 : Int32) S

set_option maxHeartbeats 4000000 in
set_option maxRecDepth 100000 in
theorem w_X4_coverOfSet_L5 {p : Program} {l : Launch} {e : Env} {s : State} {m : MethodId} {args : Array Value} {below : List Frame} {meth : Method} {c : Code} {E : En} {α : Nat → Nat} {g : Nat × Nat} (C : Cx p s m args meth c RX4 cX4_coverOfSet 5 (some .long) E) {z : Int64 × St} {K38 : Int64 → St → Option (Int64 × St)} {v1 : Int32}
    (hK38 : ∀ (y2 : Int64) (S : St) (H : Heap) (locs : List Loc) (ls : Array Slot), Rp E α g S H → va_S E.2.2.1 s.heap H locs → lv_has ls 5 [(2, .long y2)] → K38 y2 S = some z → W p l e rm_X4_coverOfSet s m args below meth c H locs 0 0 (MQ below (Ql E α g z) args s 0 0 E.2.2.1) (F0 m 38 ls [])) :
    ∀ (f : Nat) (v2 : Int64) (v4 : Int32) (S : St) (H : Heap) (locs : List Loc) (ls : Array Slot), Rp E α g S H → va_S E.2.2.1 s.heap H locs → lv_has ls 5 [(0, .ref (α 49)), (1, .int v1), (2, .long v2), (4, .int v4)] → f_X4_coverOfSet_L5 K38 v1 f v2 v4 S = some z → W p l e rm_X4_coverOfSet s m args below meth c H locs 0 0 (MQ below (Ql E α g z) args s 0 0 E.2.2.1) (F0 m 5 ls []) := by
  obtain ⟨hx, hb, hml, hown, hts, hlk, hrt, hKs⟩ := id C
  intro f
  induction f with
  | zero =>
    intro v2 v4 S H locs ls  hR hS hl h
    rw [f_X4_coverOfSet_L5] at h
    cases h
  | succ f ih =>
    intro v2 v4 S H locs ls  hR hS hl h
    rw [f_X4_coverOfSet_L5] at h
    refine lv_iload hx hb dX4_coverOfSet_5 (lv_at hl 3 rfl) ?_
    refine lv_bipush (v := 8) hx hb dX4_coverOfSet_7 (by decide) ?_
    refine lv_icmp_ge (tgt := 38) hx hb dX4_coverOfSet_9 (by decide) (fun c4 => ?_) (fun c4 => ?_)
    · have h := ite_t c4 h
      exact hK38 _ _ _ _ _  hR hS (lv_sub hl [2] rfl) h
    · have h := ite_f c4 h
      refine lv_iload_n hx hb dX4_coverOfSet_12 rfl (lv_at hl 1 rfl) ?_
      refine lv_iload hx hb dX4_coverOfSet_13 (lv_at hl 3 rfl) ?_
      refine lv_iushr (v := ushr v1 v4) hx hb dX4_coverOfSet_15 rfl ?_
      refine lv_iconst (v := 1) hx hb dX4_coverOfSet_16 (by decide) ?_
      refine lv_iand hx hb dX4_coverOfSet_17 ?_
      refine lv_iconst (v := 1) hx hb dX4_coverOfSet_18 (by decide) ?_
      obtain ⟨J32, eJ32, h⟩ := lt_e h
      have hJ32 : ∀ (x5 : Int64) (S6 : St) (H : Heap) (locs : List Loc) (ls : Array Slot), Rp E α g S6 H → va_S E.2.2.1 s.heap H locs → lv_has ls 5 [(0, .ref (α 49)), (1, .int v1), (2, .long x5), (4, .int v4)] → J32 x5 S6 = some z → W p l e rm_X4_coverOfSet s m args below meth c H locs 0 0 (MQ below (Ql E α g z) args s 0 0 E.2.2.1) (F0 m 32 ls []) := by
        intro x5 S6 H locs ls  hR hS hl h
        rw [eJ32] at h
        obtain ⟨x7, ex7, h⟩ := lt_e h
        refine lv_iinc (v := x7) (lv' := [(4, .int x7), (0, .ref (α 49)), (1, .int v1), (2, .long x5)]) hx hb dX4_coverOfSet_32 hl (k := 3) rfl (by rw [ex7]; rfl) (by decide) rfl (fun ls hl => ?_)
        refine lv_goto (tgt := 5) hx hb dX4_coverOfSet_35 (by decide) ?_
        exact ih _ _ _ _ _ _  hR hS (lv_sub hl [1, 2, 3, 0] rfl) h
      clear eJ32
      refine lv_icmp_ne (tgt := 32) hx hb dX4_coverOfSet_19 (by decide) (fun c8 => ?_) (fun c8 => ?_)
      · have h := ite_f c8 h
        exact hJ32 _ _ _ _ _  hR hS hl h
      · have h := ite_t c8 h
        refine lv_lload_n hx hb dX4_coverOfSet_22 rfl (lv_at hl 2 rfl) ?_
        refine lv_aload_n hx hb dX4_coverOfSet_23 rfl (lv_at hl 0 rfl) ?_
        refine g_getr (t := 51) C hR (k := 49) (j := 3) (live_st (by decide)) rfl rfl (vw4) inl4 (by decide) q326 dX4_coverOfSet_24 ?_
        refine lv_iload hx hb dX4_coverOfSet_27 (lv_at hl 3 rfl) ?_
        obtain ⟨g9, h⟩ := gd_e h
        refine g_lald C hR (k := 51) (n := 8) (live_st (by decide)) rfl g9 dX4_coverOfSet_29 ?_
        refine lv_lor hx hb dX4_coverOfSet_30 ?_
        obtain ⟨x10, ex10, h⟩ := lt_e h
        refine g_nml ex10 ?_
        refine lv_lstore_n (lv' := [(2, .long x10), (0, .ref (α 49)), (1, .int v1), (4, .int v4)]) hx hb dX4_coverOfSet_31 rfl hl (by decide) rfl (fun ls hl => ?_)
        exact hJ32 _ _ _ _ _  hR hS (lv_sub hl [1, 2, 0, 3] rfl) h

set_option maxHeartbeats 4000000 in
set_option maxRecDepth 100000 in
theorem c_X4_coverOfSet (l : Launch) {E : En} {α : Nat → Nat} {g : Nat × Nat} {v1 : Int32} {S : St}  {z : Int64 × St} (h : f_X4_coverOfSet v1 S = some z) : Met l yX4_coverOfSet (wsY yX4_coverOfSet cX4_coverOfSet 5 (some .long)) rm_X4_coverOfSet (va_Pc [.ref (α 49), .int v1] (Wd E α g S)) (Ql E α g z) 0 0 E.2.2.1 := by
  refine g_met [.ref (α 49), .int v1] (by decide) rfl (Nat.le_of_ble_eq_true rfl) ?_
  intro p e s m below meth c ls C hR hl
  generalize hae : ([.ref (α 49), .int v1] : List Value).toArray = args at C ⊢
  have hl : lv_has ls 5 [(0, .ref (α 49)), (1, .int v1)] := hl
  obtain ⟨hx, hb, hml, hown, hts, hlk, hrt, hKs⟩ := id C
  have hS : va_S E.2.2.1 s.heap s.heap [] := va_S.rf
  unfold f_X4_coverOfSet at h
  refine lv_lconst (v := 0) hx hb dX4_coverOfSet_0 (by decide) ?_
  refine lv_lstore_n (lv' := [(2, .long (0 : Int64)), (0, .ref (α 49)), (1, .int v1)]) hx hb dX4_coverOfSet_1 rfl hl (by decide) rfl (fun ls hl => ?_)
  refine lv_iconst (v := 0) hx hb dX4_coverOfSet_2 (by decide) ?_
  refine lv_istore (lv' := [(4, .int (0 : Int32)), (2, .long (0 : Int64)), (0, .ref (α 49)), (1, .int v1)]) hx hb dX4_coverOfSet_3 hl (by decide) rfl (fun ls hl => ?_)
  refine w_X4_coverOfSet_L5 C ?_  _ _ _ _ _ _ _  hR hS (lv_sub hl [2, 3, 1, 0] rfl) h
  · intro x11 S12 H locs ls  hR hS hl h
    refine lv_lload_n hx hb dX4_coverOfSet_38 rfl (lv_at hl 0 rfl) ?_
    exact g_lret C hR hS h dX4_coverOfSet_39
