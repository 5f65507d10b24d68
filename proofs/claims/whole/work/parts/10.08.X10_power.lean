/-! OneVoice.power(II)I -/
abbrev rm_X10_power : Room := { frames := 4, cells := 0, slots := 0, locals := 89 }
theorem m_X10_power : MV yX10_power RX10 cX10_power 3 (some .int) 2 := ⟨q911, q912, q68, q913, by decide +kernel⟩
def f_X10_power (v1 : Int32) (v2 : Int32) (S : St) : Option (Int32 × St) :=
  lt_ (fun  (S1 : St) =>
      bd_ (f_X10_below v2 (65536 : Int32) S1) fun r2 S3 =>
      if r2 = 0 then
        some ((-3 : Int32), S3)
      else
        if v1 = (-1 : Int32) then
          bd_ (f_X2_bestSpot v2 S3) fun r8 S9 =>
          some (r8, S9)
        else
          bd_ (f_X2_leastPower v1 v2 S3) fun r6 S7 =>
          some (r6, S7)) fun J17 =>
  if v1 = (-1 : Int32) then
    J17  S
  else
    bd_ (f_X10_below v1 (16 : Int32) S) fun r11 S12 =>
    if r11 = 0 then
      some ((-2 : Int32), S12)
    else
      J17  S12

set_option maxHeartbeats 4000000 in
set_option maxRecDepth 100000 in
theorem c_X10_power (l : Launch) {E : En} {α : Nat → Nat} {g : Nat × Nat} {v1 : Int32} {v2 : Int32} {S : St}  {z : Int32 × St} (h : f_X10_power v1 v2 S = some z) : Met l yX10_power (wsY yX10_power cX10_power 3 (some .int)) rm_X10_power (va_Pc [.ref (α 0), .int v1, .int v2] (Wd E α g S)) (Qi E α g z) 0 0 E.2.2.1 := by
  refine g_met [.ref (α 0), .int v1, .int v2] (by decide) rfl (Nat.le_of_ble_eq_true rfl) ?_
  intro p e s m below meth c ls C hR hl
  generalize hae : ([.ref (α 0), .int v1, .int v2] : List Value).toArray = args at C ⊢
  have hl : lv_has ls 3 [(0, .ref (α 0)), (1, .int v1), (2, .int v2)] := hl
  obtain ⟨hx, hb, hml, hown, hts, hlk, hrt, hKs⟩ := id C
  have hS : va_S E.2.2.1 s.heap s.heap [] := va_S.rf
  unfold f_X10_power at h
  refine lv_iload_n hx hb dX10_power_0 rfl (lv_at hl 1 rfl) ?_
  refine lv_iconst (v := -1) hx hb dX10_power_1 (by decide) ?_
  obtain ⟨J17, eJ17, h⟩ := lt_e h
  have hJ17 : ∀ (S1 : St) (H : Heap) (locs : List Loc) (ls : Array Slot), Rp E α g S1 H → va_S E.2.2.1 s.heap H locs → lv_has ls 3 [(0, .ref (α 0)), (1, .int v1), (2, .int v2)] → J17  S1 = some z → W p l e rm_X10_power s m args below meth c H locs 0 0 (MQ below (Qi E α g z) args s 0 0 E.2.2.1) (F0 m 17 ls []) := by
    intro  S1 H locs ls  hR hS hl h
    rw [eJ17] at h
    refine lv_iload_n hx hb dX10_power_17 rfl (lv_at hl 2 rfl) ?_
    refine lv_ldc (v := 65536) hx hb hown (hts _ q914) dX10_power_18 ?_
    obtain ⟨r2, S3, hr2, h⟩ := bd_e h
    refine g_ci hS (g_runS C hR hS (As := [.int v2, .int (65536 : Int32)]) (rest := []) (c_X10_below l  hr2) m_X10_below q377 ⟨rfl, rfl⟩ ⟨Nat.le_of_ble_eq_true rfl, Nat.le_of_ble_eq_true rfl⟩ rfl hl.1 rfl (Nat.le_of_ble_eq_true rfl) dX10_power_20 ⟨Nat.zero_le _, Nat.zero_le _⟩) (fun H locs hR hS => ?_)
    refine lv_if_ne (tgt := 29) hx hb dX10_power_23 (by decide) (fun c4 => ?_) (fun c4 => ?_)
    · have h := ite_f c4 h
      refine lv_iload_n hx hb dX10_power_29 rfl (lv_at hl 1 rfl) ?_
      refine lv_iconst (v := -1) hx hb dX10_power_30 (by decide) ?_
      refine lv_icmp_ne (tgt := 45) hx hb dX10_power_31 (by decide) (fun c5 => ?_) (fun c5 => ?_)
      · have h := ite_f c5 h
        refine lv_aload_n hx hb dX10_power_45 rfl (lv_at hl 0 rfl) ?_
        refine g_getr (t := 52) C hR (k := 0) (j := 6) (live_st (by decide)) rfl rfl (vw10) inl10 (by decide) q354 dX10_power_46 ?_
        refine lv_iload_n hx hb dX10_power_49 rfl (lv_at hl 1 rfl) ?_
        refine lv_iload_n hx hb dX10_power_50 rfl (lv_at hl 2 rfl) ?_
        obtain ⟨r6, S7, hr6, h⟩ := bd_e h
        refine g_ci hS (g_runV C hR hS (k := 52) (As := [.int v1, .int v2]) (rest := []) (c_X2_leastPower l  hr6) (live_st (by decide)) rfl (vw2) m_X2_leastPower q929 ⟨rfl, rfl⟩ ⟨Nat.le_of_ble_eq_true rfl, Nat.le_of_ble_eq_true rfl⟩ rfl hl.1 rfl (Nat.le_of_ble_eq_true rfl) dX10_power_51 ⟨Nat.zero_le _, Nat.zero_le _⟩) (fun H locs hR hS => ?_)
        exact g_iret C hR hS h dX10_power_54
      · have h := ite_t c5 h
        refine lv_aload_n hx hb dX10_power_34 rfl (lv_at hl 0 rfl) ?_
        refine g_getr (t := 52) C hR (k := 0) (j := 6) (live_st (by decide)) rfl rfl (vw10) inl10 (by decide) q354 dX10_power_35 ?_
        refine lv_iload_n hx hb dX10_power_38 rfl (lv_at hl 2 rfl) ?_
        obtain ⟨r8, S9, hr8, h⟩ := bd_e h
        refine g_ci hS (g_runV C hR hS (k := 52) (As := [.int v2]) (rest := []) (c_X2_bestSpot l  hr8) (live_st (by decide)) rfl (vw2) m_X2_bestSpot q915 ⟨rfl, rfl⟩ ⟨Nat.le_of_ble_eq_true rfl, Nat.le_of_ble_eq_true rfl⟩ rfl hl.1 rfl (Nat.le_of_ble_eq_true rfl) dX10_power_39 ⟨Nat.zero_le _, Nat.zero_le _⟩) (fun H locs hR hS => ?_)
        refine lv_goto (tgt := 54) hx hb dX10_power_42 (by decide) ?_
        exact g_iret C hR hS h dX10_power_54
    · have h := ite_t c4 h
      refine lv_bipush (v := -3) hx hb dX10_power_26 (by decide) ?_
      exact g_iret C hR hS h dX10_power_28
  clear eJ17
  refine lv_icmp_eq (tgt := 17) hx hb dX10_power_2 (by decide) (fun c10 => ?_) (fun c10 => ?_)
  · have h := ite_t c10 h
    exact hJ17  _ _ _ _  hR hS hl h
  · have h := ite_f c10 h
    refine lv_iload_n hx hb dX10_power_5 rfl (lv_at hl 1 rfl) ?_
    refine lv_bipush (v := 16) hx hb dX10_power_6 (by decide) ?_
    obtain ⟨r11, S12, hr11, h⟩ := bd_e h
    refine g_ci hS (g_runS C hR hS (As := [.int v1, .int (16 : Int32)]) (rest := []) (c_X10_below l  hr11) m_X10_below q377 ⟨rfl, rfl⟩ ⟨Nat.le_of_ble_eq_true rfl, Nat.le_of_ble_eq_true rfl⟩ rfl hl.1 rfl (Nat.le_of_ble_eq_true rfl) dX10_power_8 ⟨Nat.zero_le _, Nat.zero_le _⟩) (fun H locs hR hS => ?_)
    refine lv_if_ne (tgt := 17) hx hb dX10_power_11 (by decide) (fun c13 => ?_) (fun c13 => ?_)
    · have h := ite_f c13 h
      exact hJ17  _ _ _ _  hR hS hl h
    · have h := ite_t c13 h
      refine lv_bipush (v := -2) hx hb dX10_power_14 (by decide) ?_
      exact g_iret C hR hS h dX10_power_16

/-! OneVoice.howManyTold([I)I -/
abbrev rm_X10_howManyTold : Room := { frames := 0, cells := 0, slots := 0, locals := 0 }
theorem m_X10_howManyTold : MS yX10_howManyTold cX10_howManyTold 3 (some .int) 1 := ⟨q935, q68, q936, by decide +kernel⟩
def f_X10_howManyTold_L4 (K25 : Int32 → St → Option (Int32 × St)) (n0 : Nat) : Nat → Int32 → Int32 → St → Option (Int32 × St)
  | 0, _, _, _ => none
  | f + 1, v1, v2, S =>
    if (nI (alen n0)) ≤ v2 then
      K25 v1 S
    else
      gd_ (inb v2 (alen n0)) <|
      lt_ (fun (x6 : Int32) (S7 : St) =>
          lt_ (v2 + (1 : Int32)) fun x8 =>
          f_X10_howManyTold_L4 K25 n0 f x6 x8 S7) fun J19 =>
      if (rd S n0 (Int32.toNatClampNeg v2)) ≤ 0 then
        J19 v1 S
      else
        lt_ (v1 + (1 : Int32)) fun x10 =>
        J19 x10 S

def f_X10_howManyTold (n0 : Nat) (S : St) : Option (Int32 × St) :=
  f_X10_howManyTold_L4
    (fun (x11 : Int32) (S12 : St) =>
      some (x11, S12))
    n0 FU (0 : Int32) (0 : Int32) S

set_option maxHeartbeats 4000000 in
set_option maxRecDepth 100000 in
theorem w_X10_howManyTold_L4 {p : Program} {l : Launch} {e : Env} {s : State} {m : MethodId} {args : Array Value} {below : List Frame} {meth : Method} {c : Code} {E : En} {α : Nat → Nat} {g : Nat × Nat} (C : Cx p s m args meth c RX10 cX10_howManyTold 3 (some .int) E) {z : Int32 × St} {K25 : Int32 → St → Option (Int32 × St)} {n0 : Nat}
    (hK25 : ∀ (y1 : Int32) (S : St) (H : Heap) (locs : List Loc) (ls : Array Slot), Rp E α g S H → va_S E.2.2.1 s.heap H locs → lv_has ls 3 [(1, .int y1)] → K25 y1 S = some z → W p l e rm_X10_howManyTold s m args below meth c H locs 0 0 (MQ below (Qi E α g z) args s 0 0 E.2.2.1) (F0 m 25 ls [])) (hn0 : n0 < 90 ∧ lay n0 = .inr (0, alen n0)) :
    ∀ (f : Nat) (v1 : Int32) (v2 : Int32) (S : St) (H : Heap) (locs : List Loc) (ls : Array Slot), Rp E α g S H → va_S E.2.2.1 s.heap H locs → lv_has ls 3 [(0, .ref (α n0)), (1, .int v1), (2, .int v2)] → f_X10_howManyTold_L4 K25 n0 f v1 v2 S = some z → W p l e rm_X10_howManyTold s m args below meth c H locs 0 0 (MQ below (Qi E α g z) args s 0 0 E.2.2.1) (F0 m 4 ls []) := by
  obtain ⟨hx, hb, hml, hown, hts, hlk, hrt, hKs⟩ := id C
  intro f
  induction f with
  | zero =>
    intro v1 v2 S H locs ls  hR hS hl h
    rw [f_X10_howManyTold_L4] at h
    cases h
  | succ f ih =>
    intro v1 v2 S H locs ls  hR hS hl h
    rw [f_X10_howManyTold_L4] at h
    refine lv_iload_n hx hb dX10_howManyTold_4 rfl (lv_at hl 2 rfl) ?_
    refine lv_aload_n hx hb dX10_howManyTold_5 rfl (lv_at hl 0 rfl) ?_
    refine g_alen C hR (k := n0) (n := (alen n0)) (live_st hn0.1) hn0.2 dX10_howManyTold_6 ?_
    refine lv_icmp_ge (tgt := 25) hx hb dX10_howManyTold_7 (by decide) (fun c4 => ?_) (fun c4 => ?_)
    · have h := ite_t c4 h
      exact hK25 _ _ _ _ _  hR hS (lv_sub hl [1] rfl) h
    · have h := ite_f c4 h
      refine lv_aload_n hx hb dX10_howManyTold_10 rfl (lv_at hl 0 rfl) ?_
      refine lv_iload_n hx hb dX10_howManyTold_11 rfl (lv_at hl 2 rfl) ?_
      obtain ⟨g5, h⟩ := gd_e h
      refine g_iald C hR (k := n0) (n := (alen n0)) (live_st hn0.1) hn0.2 g5 dX10_howManyTold_12 ?_
      obtain ⟨J19, eJ19, h⟩ := lt_e h
      have hJ19 : ∀ (x6 : Int32) (S7 : St) (H : Heap) (locs : List Loc) (ls : Array Slot), Rp E α g S7 H → va_S E.2.2.1 s.heap H locs → lv_has ls 3 [(0, .ref (α n0)), (1, .int x6), (2, .int v2)] → J19 x6 S7 = some z → W p l e rm_X10_howManyTold s m args below meth c H locs 0 0 (MQ below (Qi E α g z) args s 0 0 E.2.2.1) (F0 m 19 ls []) := by
        intro x6 S7 H locs ls  hR hS hl h
        rw [eJ19] at h
        obtain ⟨x8, ex8, h⟩ := lt_e h
        refine lv_iinc (v := x8) (lv' := [(2, .int x8), (0, .ref (α n0)), (1, .int x6)]) hx hb dX10_howManyTold_19 hl (k := 2) rfl (by rw [ex8]; rfl) (by decide) rfl (fun ls hl => ?_)
        refine lv_goto (tgt := 4) hx hb dX10_howManyTold_22 (by decide) ?_
        exact ih _ _ _ _ _ _  hR hS (lv_sub hl [1, 2, 0] rfl) h
      clear eJ19
      refine lv_if_le (tgt := 19) hx hb dX10_howManyTold_13 (by decide) (fun c9 => ?_) (fun c9 => ?_)
      · have h := ite_t c9 h
        exact hJ19 _ _ _ _ _  hR hS hl h
      · have h := ite_f c9 h
        obtain ⟨x10, ex10, h⟩ := lt_e h
        refine lv_iinc (v := x10) (lv' := [(1, .int x10), (0, .ref (α n0)), (2, .int v2)]) hx hb dX10_howManyTold_16 hl (k := 1) rfl (by rw [ex10]; rfl) (by decide) rfl (fun ls hl => ?_)
        exact hJ19 _ _ _ _ _  hR hS (lv_sub hl [1, 0, 2] rfl) h

set_option maxHeartbeats 4000000 in
set_option maxRecDepth 100000 in
theorem c_X10_howManyTold (l : Launch) {E : En} {α : Nat → Nat} {g : Nat × Nat} {n0 : Nat} {S : St} (hn0 : n0 < 90 ∧ lay n0 = .inr (0, alen n0)) {z : Int32 × St} (h : f_X10_howManyTold n0 S = some z) : Met l yX10_howManyTold (wsY yX10_howManyTold cX10_howManyTold 3 (some .int)) rm_X10_howManyTold (va_Pc [.ref (α n0)] (Wd E α g S)) (Qi E α g z) 0 0 E.2.2.1 := by
  refine g_met [.ref (α n0)] (by decide) rfl (Nat.le_of_ble_eq_true rfl) ?_
  intro p e s m below meth c ls C hR hl
  generalize hae : ([.ref (α n0)] : List Value).toArray = args at C ⊢
  have hl : lv_has ls 3 [(0, .ref (α n0))] := hl
  obtain ⟨hx, hb, hml, hown, hts, hlk, hrt, hKs⟩ := id C
  have hS : va_S E.2.2.1 s.heap s.heap [] := va_S.rf
  unfold f_X10_howManyTold at h
  refine lv_iconst (v := 0) hx hb dX10_howManyTold_0 (by decide) ?_
  refine lv_istore_n (lv' := [(1, .int (0 : Int32)), (0, .ref (α n0))]) hx hb dX10_howManyTold_1 rfl hl (by decide) rfl (fun ls hl => ?_)
  refine lv_iconst (v := 0) hx hb dX10_howManyTold_2 (by decide) ?_
  refine lv_istore_n (lv' := [(2, .int (0 : Int32)), (1, .int (0 : Int32)), (0, .ref (α n0))]) hx hb dX10_howManyTold_3 rfl hl (by decide) rfl (fun ls hl => ?_)
  refine w_X10_howManyTold_L4 C ?_ hn0 _ _ _ _ _ _ _  hR hS (lv_sub hl [2, 1, 0] rfl) h
  · intro x11 S12 H locs ls  hR hS hl h
    refine lv_iload_n hx hb dX10_howManyTold_25 rfl (lv_at hl 0 rfl) ?_
    exact g_iret C hR hS h dX10_howManyTold_26

/-! OneVoice.count(I)I -/
abbrev rm_X10_count : Room := { frames := 1, cells := 0, slots := 0, locals := 22 }
theorem m_X10_count : MV yX10_count RX10 cX10_count 2 (some .int) 1 := ⟨q931, q932, q68, q933, by decide +kernel⟩
def f_X10_count (v1 : Int32) (S : St) : Option (Int32 × St) :=
  if v1 = (0 : Int32) then
    some ((rd S 1 1), S)
  else
  if v1 = (1 : Int32) then
    some ((rd S 20 1), S)
  else
  if v1 = (2 : Int32) then
    bd_ (f_X10_howManyTold 16 S) fun r4 S5 =>
    some (r4, S5)
  else
  if v1 = (3 : Int32) then
    bd_ (f_X10_howManyTold 18 S) fun r7 S8 =>
    some (r7, S8)
  else
  if v1 = (4 : Int32) then
    some ((rd S 3 4), S)
  else
  if v1 = (5 : Int32) then
    some ((rd S 43 7), S)
  else
  if v1 = (6 : Int32) then
    some ((rd S 43 8), S)
  else
  some ((-3 : Int32), S)

set_option maxHeartbeats 4000000 in
set_option maxRecDepth 100000 in
theorem c_X10_count (l : Launch) {E : En} {α : Nat → Nat} {g : Nat × Nat} {v1 : Int32} {S : St}  {z : Int32 × St} (h : f_X10_count v1 S = some z) : Met l yX10_count (wsY yX10_count cX10_count 2 (some .int)) rm_X10_count (va_Pc [.ref (α 0), .int v1] (Wd E α g S)) (Qi E α g z) 0 0 E.2.2.1 := by
  refine g_met [.ref (α 0), .int v1] (by decide) rfl (Nat.le_of_ble_eq_true rfl) ?_
  intro p e s m below meth c ls C hR hl
  generalize hae : ([.ref (α 0), .int v1] : List Value).toArray = args at C ⊢
  have hl : lv_has ls 2 [(0, .ref (α 0)), (1, .int v1)] := hl
  obtain ⟨hx, hb, hml, hown, hts, hlk, hrt, hKs⟩ := id C
  have hS : va_S E.2.2.1 s.heap s.heap [] := va_S.rf
  unfold f_X10_count at h
  refine lv_iload_n hx hb dX10_count_0 rfl (lv_at hl 1 rfl) ?_
  by_cases c1 : v1 = (0 : Int32)
  · have h := ite_t c1 h
    refine lv_tableIn (off := 43) (tgt := 44) hx hb dX10_count_1 (by rw [c1]; decide) (by rw [c1]; decide) (by rw [c1]; rfl) (by decide) ?_
    refine lv_aload_n hx hb dX10_count_44 rfl (lv_at hl 0 rfl) ?_
    refine g_getr (t := 1) C hR (k := 0) (j := 0) (live_st (by decide)) rfl rfl (vw10) inl10 (by decide) q348 dX10_count_45 ?_
    refine g_geti C hR (k := 1) (j := 1) (live_st (by decide)) rfl rfl (vw8) inl8 (by decide) q107 dX10_count_48 ?_
    exact g_iret C hR hS h dX10_count_51
  have h := ite_f c1 h
  by_cases c2 : v1 = (1 : Int32)
  · have h := ite_t c2 h
    refine lv_tableIn (off := 51) (tgt := 52) hx hb dX10_count_1 (by rw [c2]; decide) (by rw [c2]; decide) (by rw [c2]; rfl) (by decide) ?_
    refine lv_aload_n hx hb dX10_count_52 rfl (lv_at hl 0 rfl) ?_
    refine g_getr (t := 20) C hR (k := 0) (j := 3) (live_st (by decide)) rfl rfl (vw10) inl10 (by decide) q351 dX10_count_53 ?_
    refine g_geti C hR (k := 20) (j := 1) (live_st (by decide)) rfl rfl (vw9) inl9 (by decide) q252 dX10_count_56 ?_
    exact g_iret C hR hS h dX10_count_59
  have h := ite_f c2 h
  by_cases c3 : v1 = (2 : Int32)
  · have h := ite_t c3 h
    refine lv_tableIn (off := 59) (tgt := 60) hx hb dX10_count_1 (by rw [c3]; decide) (by rw [c3]; decide) (by rw [c3]; rfl) (by decide) ?_
    refine lv_aload_n hx hb dX10_count_60 rfl (lv_at hl 0 rfl) ?_
    refine g_getr (t := 14) C hR (k := 0) (j := 2) (live_st (by decide)) rfl rfl (vw10) inl10 (by decide) q350 dX10_count_61 ?_
    refine g_getr (t := 16) C hR (k := 14) (j := 1) (live_st (by decide)) rfl rfl (vw1) inl1 (by decide) q192 dX10_count_64 ?_
    obtain ⟨r4, S5, hr4, h⟩ := bd_e h
    refine g_ci hS (g_runS C hR hS (As := [.ref (α 16)]) (rest := []) (c_X10_howManyTold l ⟨by decide, rfl⟩ hr4) m_X10_howManyTold q934 ⟨rfl, rfl⟩ ⟨Nat.le_of_ble_eq_true rfl, Nat.le_of_ble_eq_true rfl⟩ rfl hl.1 rfl (Nat.le_of_ble_eq_true rfl) dX10_count_67 ⟨Nat.zero_le _, Nat.zero_le _⟩) (fun H locs hR hS => ?_)
    exact g_iret C hR hS h dX10_count_70
  have h := ite_f c3 h
  by_cases c6 : v1 = (3 : Int32)
  · have h := ite_t c6 h
    refine lv_tableIn (off := 70) (tgt := 71) hx hb dX10_count_1 (by rw [c6]; decide) (by rw [c6]; decide) (by rw [c6]; rfl) (by decide) ?_
    refine lv_aload_n hx hb dX10_count_71 rfl (lv_at hl 0 rfl) ?_
    refine g_getr (t := 14) C hR (k := 0) (j := 2) (live_st (by decide)) rfl rfl (vw10) inl10 (by decide) q350 dX10_count_72 ?_
    refine g_getr (t := 18) C hR (k := 14) (j := 3) (live_st (by decide)) rfl rfl (vw1) inl1 (by decide) q195 dX10_count_75 ?_
    obtain ⟨r7, S8, hr7, h⟩ := bd_e h
    refine g_ci hS (g_runS C hR hS (As := [.ref (α 18)]) (rest := []) (c_X10_howManyTold l ⟨by decide, rfl⟩ hr7) m_X10_howManyTold q934 ⟨rfl, rfl⟩ ⟨Nat.le_of_ble_eq_true rfl, Nat.le_of_ble_eq_true rfl⟩ rfl hl.1 rfl (Nat.le_of_ble_eq_true rfl) dX10_count_78 ⟨Nat.zero_le _, Nat.zero_le _⟩) (fun H locs hR hS => ?_)
    exact g_iret C hR hS h dX10_count_81
  have h := ite_f c6 h
  by_cases c9 : v1 = (4 : Int32)
  · have h := ite_t c9 h
    refine lv_tableIn (off := 81) (tgt := 82) hx hb dX10_count_1 (by rw [c9]; decide) (by rw [c9]; decide) (by rw [c9]; rfl) (by decide) ?_
    refine lv_aload_n hx hb dX10_count_82 rfl (lv_at hl 0 rfl) ?_
    refine g_getr (t := 3) C hR (k := 0) (j := 1) (live_st (by decide)) rfl rfl (vw10) inl10 (by decide) q349 dX10_count_83 ?_
    refine g_geti C hR (k := 3) (j := 4) (live_st (by decide)) rfl rfl (vw6) inl6 (by decide) q125 dX10_count_86 ?_
    exact g_iret C hR hS h dX10_count_89
  have h := ite_f c9 h
  by_cases c10 : v1 = (5 : Int32)
  · have h := ite_t c10 h
    refine lv_tableIn (off := 89) (tgt := 90) hx hb dX10_count_1 (by rw [c10]; decide) (by rw [c10]; decide) (by rw [c10]; rfl) (by decide) ?_
    refine lv_aload_n hx hb dX10_count_90 rfl (lv_at hl 0 rfl) ?_
    refine g_getr (t := 43) C hR (k := 0) (j := 4) (live_st (by decide)) rfl rfl (vw10) inl10 (by decide) q352 dX10_count_91 ?_
    refine g_geti C hR (k := 43) (j := 7) (live_st (by decide)) rfl rfl (vw7) inl7 (by decide) q295 dX10_count_94 ?_
    exact g_iret C hR hS h dX10_count_97
  have h := ite_f c10 h
  by_cases c11 : v1 = (6 : Int32)
  · have h := ite_t c11 h
    refine lv_tableIn (off := 97) (tgt := 98) hx hb dX10_count_1 (by rw [c11]; decide) (by rw [c11]; decide) (by rw [c11]; rfl) (by decide) ?_
    refine lv_aload_n hx hb dX10_count_98 rfl (lv_at hl 0 rfl) ?_
    refine g_getr (t := 43) C hR (k := 0) (j := 4) (live_st (by decide)) rfl rfl (vw10) inl10 (by decide) q352 dX10_count_99 ?_
    refine g_geti C hR (k := 43) (j := 8) (live_st (by decide)) rfl rfl (vw7) inl7 (by decide) q297 dX10_count_102 ?_
    exact g_iret C hR hS h dX10_count_105
  have h := ite_f c11 h
  have c1 := tsw_ne (k := 0) c1 (by decide)
  have c2 := tsw_ne (k := 1) c2 (by decide)
  have c3 := tsw_ne (k := 2) c3 (by decide)
  have c6 := tsw_ne (k := 3) c6 (by decide)
  have c9 := tsw_ne (k := 4) c9 (by decide)
  have c10 := tsw_ne (k := 5) c10 (by decide)
  have c11 := tsw_ne (k := 6) c11 (by decide)
  refine lv_tableOut (tgt := 106) hx hb dX10_count_1 (by omega) (by decide) ?_
  refine lv_bipush (v := -3) hx hb dX10_count_106 (by decide) ?_
  exact g_iret C hR hS h dX10_count_108
