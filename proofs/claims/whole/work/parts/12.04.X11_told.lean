/-! OneVoiceModel.told()I -/
abbrev rm_X11_told : Room := { frames := 6, cells := 0, slots := 0, locals := 128 }
theorem m_X11_told : MV yX11_told RX11 cX11_told 2 (some .int) 0 := ⟨q1225, q1226, q77, q1227, by decide +kernel⟩
def f_X11_told_L12 (K34 : St → Option (Int32 × St))  : Nat → Int32 → St → Option (Int32 × St)
  | 0, _, _ => none
  | f + 1, v1, S =>
    if (rd S 54 20) ≤ v1 then
      K34  S
    else
      bd_ (f_X11_doRow ((11 : Int32) * v1) S) fun r7 S8 =>
      lt_ (v1 + (1 : Int32)) fun x9 =>
      f_X11_told_L12 K34 f x9 S8

def f_X11_told  (S : St) : Option (Int32 × St) :=
  bd_ (f_X11_isRead  S) fun r3 S4 =>
  if r3 = 0 then
    some ((-4 : Int32), S4)
  else
    f_X11_told_L12
      (fun  (S10 : St) =>
        lt_ (wr S10 54 12 (0 : Int32)) fun S11 =>
        some ((rd S11 54 20), S11))
       FU (0 : Int32) S4

set_option maxHeartbeats 4000000 in
set_option maxRecDepth 100000 in
theorem w_X11_told_L12 {p : Program} {l : Launch} {e : Env} {s : State} {m : MethodId} {args : Array Value} {below : List Frame} {meth : Method} {c : Code} {E : En} {α : Nat → Nat} {g : Nat × Nat} (C : Cx p s m args meth c RX11 cX11_told 2 (some .int) E) {z : Int32 × St} {K34 : St → Option (Int32 × St)}
    (hK34 : ∀ (S : St) (H : Heap) (locs : List Loc) (ls : Array Slot), Rp E α g S H → va_S E.2.2.1 s.heap H locs → lv_has ls 2 [(0, .ref (α 54))] → K34  S = some z → W p l e rm_X11_told s m args below meth c H locs 0 0 (MQ below (Qi E α g z) args s 0 0 E.2.2.1) (F0 m 34 ls [])) :
    ∀ (f : Nat) (v1 : Int32) (S : St) (H : Heap) (locs : List Loc) (ls : Array Slot), Rp E α g S H → va_S E.2.2.1 s.heap H locs → lv_has ls 2 [(0, .ref (α 54)), (1, .int v1)] → f_X11_told_L12 K34 f v1 S = some z → W p l e rm_X11_told s m args below meth c H locs 0 0 (MQ below (Qi E α g z) args s 0 0 E.2.2.1) (F0 m 12 ls []) := by
  obtain ⟨hx, hb, hml, hown, hts, hlk, hrt, hKs⟩ := id C
  intro f
  induction f with
  | zero =>
    intro v1 S H locs ls  hR hS hl h
    rw [f_X11_told_L12] at h
    cases h
  | succ f ih =>
    intro v1 S H locs ls  hR hS hl h
    rw [f_X11_told_L12] at h
    refine lv_iload_n hx hb dX11_told_12 rfl (lv_at hl 1 rfl) ?_
    refine lv_aload_n hx hb dX11_told_13 rfl (lv_at hl 0 rfl) ?_
    refine g_geti C hR (k := 54) (j := 20) (live_st (by decide)) rfl rfl (vw11) inl11 (by decide) q963 dX11_told_14 ?_
    refine lv_icmp_ge (tgt := 34) hx hb dX11_told_17 (by decide) (fun c6 => ?_) (fun c6 => ?_)
    · have h := ite_t c6 h
      exact hK34  _ _ _ _  hR hS (lv_sub hl [0] rfl) h
    · have h := ite_f c6 h
      refine lv_aload_n hx hb dX11_told_20 rfl (lv_at hl 0 rfl) ?_
      refine lv_bipush (v := 11) hx hb dX11_told_21 (by decide) ?_
      refine lv_iload_n hx hb dX11_told_23 rfl (lv_at hl 1 rfl) ?_
      refine lv_imul hx hb dX11_told_24 ?_
      obtain ⟨r7, S8, hr7, h⟩ := bd_e h
      refine g_cv hS (g_runV C hR hS (k := 54) (As := [.int ((11 : Int32) * v1)]) (rest := []) (c_X11_doRow l  hr7) (live_st (by decide)) rfl (vw11) m_X11_doRow q1228 ⟨rfl, rfl⟩ ⟨Nat.le_of_ble_eq_true rfl, Nat.le_of_ble_eq_true rfl⟩ rfl hl.1 rfl (Nat.le_of_ble_eq_true rfl) dX11_told_25 ⟨Nat.zero_le _, Nat.zero_le _⟩) (fun H locs hR hS => ?_)
      obtain ⟨x9, ex9, h⟩ := lt_e h
      refine lv_iinc (v := x9) (lv' := [(1, .int x9), (0, .ref (α 54))]) hx hb dX11_told_28 hl (k := 1) rfl (by rw [ex9]; rfl) (by decide) rfl (fun ls hl => ?_)
      refine lv_goto (tgt := 12) hx hb dX11_told_31 (by decide) ?_
      exact ih _ _ _ _ _  hR hS (lv_sub hl [1, 0] rfl) h

set_option maxHeartbeats 4000000 in
set_option maxRecDepth 100000 in
theorem c_X11_told (l : Launch) {E : En} {α : Nat → Nat} {g : Nat × Nat}  {S : St}  {z : Int32 × St} (h : f_X11_told  S = some z) : Met l yX11_told (wsY yX11_told cX11_told 2 (some .int)) rm_X11_told (va_Pc [.ref (α 54)] (Wd E α g S)) (Qi E α g z) 0 0 E.2.2.1 := by
  refine g_met [.ref (α 54)] (by decide) rfl (Nat.le_of_ble_eq_true rfl) ?_
  intro p e s m below meth c ls C hR hl
  generalize hae : ([.ref (α 54)] : List Value).toArray = args at C ⊢
  have hl : lv_has ls 2 [(0, .ref (α 54))] := hl
  obtain ⟨hx, hb, hml, hown, hts, hlk, hrt, hKs⟩ := id C
  have hS : va_S E.2.2.1 s.heap s.heap [] := va_S.rf
  unfold f_X11_told at h
  refine lv_aload_n hx hb dX11_told_0 rfl (lv_at hl 0 rfl) ?_
  obtain ⟨r3, S4, hr3, h⟩ := bd_e h
  refine g_ci hS (g_runV C hR hS (k := 54) (As := []) (rest := []) (c_X11_isRead l  hr3) (live_st (by decide)) rfl (vw11) m_X11_isRead q1175 ⟨rfl, rfl⟩ ⟨Nat.le_of_ble_eq_true rfl, Nat.le_of_ble_eq_true rfl⟩ rfl hl.1 rfl (Nat.le_of_ble_eq_true rfl) dX11_told_1 ⟨Nat.zero_le _, Nat.zero_le _⟩) (fun H locs hR hS => ?_)
  refine lv_if_ne (tgt := 10) hx hb dX11_told_4 (by decide) (fun c5 => ?_) (fun c5 => ?_)
  · have h := ite_f c5 h
    refine lv_iconst (v := 0) hx hb dX11_told_10 (by decide) ?_
    refine lv_istore_n (lv' := [(1, .int (0 : Int32)), (0, .ref (α 54))]) hx hb dX11_told_11 rfl hl (by decide) rfl (fun ls hl => ?_)
    refine w_X11_told_L12 C ?_  _ _ _ _ _ _  hR hS (lv_sub hl [1, 0] rfl) h
    · intro  S10 H locs ls  hR hS hl h
      refine lv_aload_n hx hb dX11_told_34 rfl (lv_at hl 0 rfl) ?_
      refine lv_iconst (v := 0) hx hb dX11_told_35 (by decide) ?_
      obtain ⟨S11, eS11, h⟩ := lt_e h
      refine g_puti C hR hS (k := 54) (j := 12) (live_st (by decide)) rfl rfl (vw11) inl11 (by decide) (ty0 := tyX11) tyX11_ok nmX11 q955 rfl rfl rfl eS11 dX11_told_36 (fun H locs hR hS => ?_)
      refine lv_aload_n hx hb dX11_told_39 rfl (lv_at hl 0 rfl) ?_
      refine g_geti C hR (k := 54) (j := 20) (live_st (by decide)) rfl rfl (vw11) inl11 (by decide) q963 dX11_told_40 ?_
      exact g_iret C hR hS h dX11_told_43
  · have h := ite_t c5 h
    refine lv_bipush (v := -4) hx hb dX11_told_7 (by decide) ?_
    exact g_iret C hR hS h dX11_told_9

/-! OneVoiceModel.word(II)I -/
abbrev rm_X11_word : Room := { frames := 1, cells := 0, slots := 0, locals := 22 }
theorem m_X11_word : MV yX11_word RX11 cX11_word 3 (some .int) 2 := ⟨q1233, q1234, q77, q1235, by decide +kernel⟩
def f_X11_word (v1 : Int32) (v2 : Int32) (S : St) : Option (Int32 × St) :=
  bd_ (f_X11_in v1 (0 : Int32) (31 : Int32) S) fun r4 S5 =>
  if r4 = 0 then
    some ((-2 : Int32), S5)
  else
    if (-1 : Int32) ≤ v2 then
      if v2 = (-1 : Int32) then
        gd_ (inb v1 32) <|
        some ((rd S5 67 (Int32.toNatClampNeg v1)), S5)
      else
        gd_ (inb v1 32) <|
        if (rd S5 67 (Int32.toNatClampNeg v1)) ≤ v2 then
          some ((-1 : Int32), S5)
        else
          gd_ (inb (((8 : Int32) * v1) + v2) 256) <|
          some ((rd S5 68 (Int32.toNatClampNeg (((8 : Int32) * v1) + v2))), S5)
    else
      some ((-3 : Int32), S5)

set_option maxHeartbeats 4000000 in
set_option maxRecDepth 100000 in
theorem c_X11_word (l : Launch) {E : En} {α : Nat → Nat} {g : Nat × Nat} {v1 : Int32} {v2 : Int32} {S : St}  {z : Int32 × St} (h : f_X11_word v1 v2 S = some z) : Met l yX11_word (wsY yX11_word cX11_word 3 (some .int)) rm_X11_word (va_Pc [.ref (α 54), .int v1, .int v2] (Wd E α g S)) (Qi E α g z) 0 0 E.2.2.1 := by
  refine g_met [.ref (α 54), .int v1, .int v2] (by decide) rfl (Nat.le_of_ble_eq_true rfl) ?_
  intro p e s m below meth c ls C hR hl
  generalize hae : ([.ref (α 54), .int v1, .int v2] : List Value).toArray = args at C ⊢
  have hl : lv_has ls 3 [(0, .ref (α 54)), (1, .int v1), (2, .int v2)] := hl
  obtain ⟨hx, hb, hml, hown, hts, hlk, hrt, hKs⟩ := id C
  have hS : va_S E.2.2.1 s.heap s.heap [] := va_S.rf
  unfold f_X11_word at h
  refine lv_iload_n hx hb dX11_word_0 rfl (lv_at hl 1 rfl) ?_
  refine lv_iconst (v := 0) hx hb dX11_word_1 (by decide) ?_
  refine lv_bipush (v := 31) hx hb dX11_word_2 (by decide) ?_
  obtain ⟨r4, S5, hr4, h⟩ := bd_e h
  refine g_ci hS (g_runS C hR hS (As := [.int v1, .int (0 : Int32), .int (31 : Int32)]) (rest := []) (c_X11_in l  hr4) m_X11_in q1093 ⟨rfl, rfl⟩ ⟨Nat.le_of_ble_eq_true rfl, Nat.le_of_ble_eq_true rfl⟩ rfl hl.1 rfl (Nat.le_of_ble_eq_true rfl) dX11_word_4 ⟨Nat.zero_le _, Nat.zero_le _⟩) (fun H locs hR hS => ?_)
  refine lv_if_ne (tgt := 13) hx hb dX11_word_7 (by decide) (fun c6 => ?_) (fun c6 => ?_)
  · have h := ite_f c6 h
    refine lv_iload_n hx hb dX11_word_13 rfl (lv_at hl 2 rfl) ?_
    refine lv_iconst (v := -1) hx hb dX11_word_14 (by decide) ?_
    refine lv_icmp_ge (tgt := 21) hx hb dX11_word_15 (by decide) (fun c7 => ?_) (fun c7 => ?_)
    · have h := ite_t c7 h
      refine lv_iload_n hx hb dX11_word_21 rfl (lv_at hl 2 rfl) ?_
      refine lv_iconst (v := -1) hx hb dX11_word_22 (by decide) ?_
      refine lv_icmp_ne (tgt := 35) hx hb dX11_word_23 (by decide) (fun c8 => ?_) (fun c8 => ?_)
      · have h := ite_f c8 h
        refine lv_iload_n hx hb dX11_word_35 rfl (lv_at hl 2 rfl) ?_
        refine lv_aload_n hx hb dX11_word_36 rfl (lv_at hl 0 rfl) ?_
        refine g_getr (t := 67) C hR (k := 54) (j := 22) (live_st (by decide)) rfl rfl (vw11) inl11 (by decide) q965 dX11_word_37 ?_
        refine lv_iload_n hx hb dX11_word_40 rfl (lv_at hl 1 rfl) ?_
        obtain ⟨g9, h⟩ := gd_e h
        refine g_iald C hR (k := 67) (n := 32) (live_st (by decide)) rfl g9 dX11_word_41 ?_
        refine lv_icmp_ge (tgt := 59) hx hb dX11_word_42 (by decide) (fun c10 => ?_) (fun c10 => ?_)
        · have h := ite_t c10 h
          refine lv_iconst (v := -1) hx hb dX11_word_59 (by decide) ?_
          exact g_iret C hR hS h dX11_word_60
        · have h := ite_f c10 h
          refine lv_aload_n hx hb dX11_word_45 rfl (lv_at hl 0 rfl) ?_
          refine g_getr (t := 68) C hR (k := 54) (j := 23) (live_st (by decide)) rfl rfl (vw11) inl11 (by decide) q966 dX11_word_46 ?_
          refine lv_bipush (v := 8) hx hb dX11_word_49 (by decide) ?_
          refine lv_iload_n hx hb dX11_word_51 rfl (lv_at hl 1 rfl) ?_
          refine lv_imul hx hb dX11_word_52 ?_
          refine lv_iload_n hx hb dX11_word_53 rfl (lv_at hl 2 rfl) ?_
          refine lv_iadd hx hb dX11_word_54 ?_
          obtain ⟨g11, h⟩ := gd_e h
          refine g_iald C hR (k := 68) (n := 256) (live_st (by decide)) rfl g11 dX11_word_55 ?_
          refine lv_goto (tgt := 60) hx hb dX11_word_56 (by decide) ?_
          exact g_iret C hR hS h dX11_word_60
      · have h := ite_t c8 h
        refine lv_aload_n hx hb dX11_word_26 rfl (lv_at hl 0 rfl) ?_
        refine g_getr (t := 67) C hR (k := 54) (j := 22) (live_st (by decide)) rfl rfl (vw11) inl11 (by decide) q965 dX11_word_27 ?_
        refine lv_iload_n hx hb dX11_word_30 rfl (lv_at hl 1 rfl) ?_
        obtain ⟨g12, h⟩ := gd_e h
        refine g_iald C hR (k := 67) (n := 32) (live_st (by decide)) rfl g12 dX11_word_31 ?_
        refine lv_goto (tgt := 60) hx hb dX11_word_32 (by decide) ?_
        exact g_iret C hR hS h dX11_word_60
    · have h := ite_f c7 h
      refine lv_bipush (v := -3) hx hb dX11_word_18 (by decide) ?_
      exact g_iret C hR hS h dX11_word_20
  · have h := ite_t c6 h
    refine lv_bipush (v := -2) hx hb dX11_word_10 (by decide) ?_
    exact g_iret C hR hS h dX11_word_12

/-! OneVoiceModel.isLine(I)Z -/
abbrev rm_X11_isLine : Room := { frames := 1, cells := 0, slots := 0, locals := 22 }
theorem m_X11_isLine : MV yX11_isLine RX11 cX11_isLine 2 (some .boolean) 1 := ⟨q1242, q52, q77, q1243, by decide +kernel⟩
def f_X11_isLine (v1 : Int32) (S : St) : Option (Int32 × St) :=
  bd_ (f_X11_in v1 (0 : Int32) (7 : Int32) S) fun r2 S3 =>
  lt_ (fun  (S4 : St) =>
      some ((0 : Int32), S4)) fun J23 =>
  if r2 = 0 then
    J23  S3
  else
    gd_ (inb v1 8) <|
    if (rd S3 69 (Int32.toNatClampNeg v1)) ≤ 0 then
      J23  S3
    else
      some ((1 : Int32), S3)

set_option maxHeartbeats 4000000 in
set_option maxRecDepth 100000 in
theorem c_X11_isLine (l : Launch) {E : En} {α : Nat → Nat} {g : Nat × Nat} {v1 : Int32} {S : St}  {z : Int32 × St} (h : f_X11_isLine v1 S = some z) : Met l yX11_isLine (wsY yX11_isLine cX11_isLine 2 (some .boolean)) rm_X11_isLine (va_Pc [.ref (α 54), .int v1] (Wd E α g S)) (Qi E α g z) 0 0 E.2.2.1 := by
  refine g_met [.ref (α 54), .int v1] (by decide) rfl (Nat.le_of_ble_eq_true rfl) ?_
  intro p e s m below meth c ls C hR hl
  generalize hae : ([.ref (α 54), .int v1] : List Value).toArray = args at C ⊢
  have hl : lv_has ls 2 [(0, .ref (α 54)), (1, .int v1)] := hl
  obtain ⟨hx, hb, hml, hown, hts, hlk, hrt, hKs⟩ := id C
  have hS : va_S E.2.2.1 s.heap s.heap [] := va_S.rf
  unfold f_X11_isLine at h
  refine lv_iload_n hx hb dX11_isLine_0 rfl (lv_at hl 1 rfl) ?_
  refine lv_iconst (v := 0) hx hb dX11_isLine_1 (by decide) ?_
  refine lv_bipush (v := 7) hx hb dX11_isLine_2 (by decide) ?_
  obtain ⟨r2, S3, hr2, h⟩ := bd_e h
  refine g_ci hS (g_runS C hR hS (As := [.int v1, .int (0 : Int32), .int (7 : Int32)]) (rest := []) (c_X11_in l  hr2) m_X11_in q1093 ⟨rfl, rfl⟩ ⟨Nat.le_of_ble_eq_true rfl, Nat.le_of_ble_eq_true rfl⟩ rfl hl.1 rfl (Nat.le_of_ble_eq_true rfl) dX11_isLine_4 ⟨Nat.zero_le _, Nat.zero_le _⟩) (fun H locs hR hS => ?_)
  obtain ⟨J23, eJ23, h⟩ := lt_e h
  have hJ23 : ∀ (S4 : St) (H : Heap) (locs : List Loc) (ls : Array Slot), Rp E α g S4 H → va_S E.2.2.1 s.heap H locs → lv_has ls 2 [] → J23  S4 = some z → W p l e rm_X11_isLine s m args below meth c H locs 0 0 (MQ below (Qi E α g z) args s 0 0 E.2.2.1) (F0 m 23 ls []) := by
    intro  S4 H locs ls  hR hS hl h
    rw [eJ23] at h
    refine lv_iconst (v := 0) hx hb dX11_isLine_23 (by decide) ?_
    exact g_zret C hR hS bz0 h dX11_isLine_24
  clear eJ23
  refine lv_if_eq (tgt := 23) hx hb dX11_isLine_7 (by decide) (fun c5 => ?_) (fun c5 => ?_)
  · have h := ite_t c5 h
    exact hJ23  _ _ _ _  hR hS (lv_sub hl [] rfl) h
  · have h := ite_f c5 h
    refine lv_aload_n hx hb dX11_isLine_10 rfl (lv_at hl 0 rfl) ?_
    refine g_getr (t := 69) C hR (k := 54) (j := 24) (live_st (by decide)) rfl rfl (vw11) inl11 (by decide) q967 dX11_isLine_11 ?_
    refine lv_iload_n hx hb dX11_isLine_14 rfl (lv_at hl 1 rfl) ?_
    obtain ⟨g6, h⟩ := gd_e h
    refine g_iald C hR (k := 69) (n := 8) (live_st (by decide)) rfl g6 dX11_isLine_15 ?_
    refine lv_if_le (tgt := 23) hx hb dX11_isLine_16 (by decide) (fun c7 => ?_) (fun c7 => ?_)
    · have h := ite_t c7 h
      exact hJ23  _ _ _ _  hR hS (lv_sub hl [] rfl) h
    · have h := ite_f c7 h
      refine lv_iconst (v := 1) hx hb dX11_isLine_19 (by decide) ?_
      refine lv_goto (tgt := 24) hx hb dX11_isLine_20 (by decide) ?_
      exact g_zret C hR hS bz1 h dX11_isLine_24

/-! OneVoiceModel.speak(I)V -/
abbrev rm_X11_speak : Room := { frames := 0, cells := 0, slots := 0, locals := 0 }
theorem m_X11_speak : MV yX11_speak RX11 cX11_speak 2 none 1 := ⟨q1250, q54, q77, q1251, by decide +kernel⟩
def f_X11_speak (v1 : Int32) (S : St) : Option (Unit × St) :=
  gd_ (inb (rd S 54 26) 16) <|
  lt_ (wr S 71 (Int32.toNatClampNeg (rd S 54 26)) v1) fun S3 =>
  lt_ (wr S3 54 26 ((rd S3 54 26) + (1 : Int32))) fun S5 =>
  some ((), S5)

set_option maxHeartbeats 4000000 in
set_option maxRecDepth 100000 in
theorem c_X11_speak (l : Launch) {E : En} {α : Nat → Nat} {g : Nat × Nat} {v1 : Int32} {S : St}  {z : Unit × St} (h : f_X11_speak v1 S = some z) : Met l yX11_speak (wsY yX11_speak cX11_speak 2 none) rm_X11_speak (va_Pc [.ref (α 54), .int v1] (Wd E α g S)) (Qv E α g z) 0 0 E.2.2.1 := by
  refine g_met [.ref (α 54), .int v1] (by decide) rfl (Nat.le_of_ble_eq_true rfl) ?_
  intro p e s m below meth c ls C hR hl
  generalize hae : ([.ref (α 54), .int v1] : List Value).toArray = args at C ⊢
  have hl : lv_has ls 2 [(0, .ref (α 54)), (1, .int v1)] := hl
  obtain ⟨hx, hb, hml, hown, hts, hlk, hrt, hKs⟩ := id C
  have hS : va_S E.2.2.1 s.heap s.heap [] := va_S.rf
  unfold f_X11_speak at h
  refine lv_aload_n hx hb dX11_speak_0 rfl (lv_at hl 0 rfl) ?_
  refine g_getr (t := 71) C hR (k := 54) (j := 27) (live_st (by decide)) rfl rfl (vw11) inl11 (by decide) q970 dX11_speak_1 ?_
  refine lv_aload_n hx hb dX11_speak_4 rfl (lv_at hl 0 rfl) ?_
  refine g_geti C hR (k := 54) (j := 26) (live_st (by decide)) rfl rfl (vw11) inl11 (by decide) q969 dX11_speak_5 ?_
  refine lv_iload_n hx hb dX11_speak_8 rfl (lv_at hl 1 rfl) ?_
  obtain ⟨g4, h⟩ := gd_e h
  obtain ⟨S3, eS3, h⟩ := lt_e h
  refine g_iast C hR hS (k := 71) (n := 16) (live_st (by decide)) rfl g4 eS3 dX11_speak_9 (fun H locs hR hS => ?_)
  refine lv_aload_n hx hb dX11_speak_10 rfl (lv_at hl 0 rfl) ?_
  refine lv_dup hx hb dX11_speak_11 rfl ?_
  refine g_geti C hR (k := 54) (j := 26) (live_st (by decide)) rfl rfl (vw11) inl11 (by decide) q969 dX11_speak_12 ?_
  refine lv_iconst (v := 1) hx hb dX11_speak_15 (by decide) ?_
  refine lv_iadd hx hb dX11_speak_16 ?_
  obtain ⟨S5, eS5, h⟩ := lt_e h
  refine g_puti C hR hS (k := 54) (j := 26) (live_st (by decide)) rfl rfl (vw11) inl11 (by decide) (ty0 := tyX11) tyX11_ok nmX11 q969 rfl rfl rfl eS5 dX11_speak_17 (fun H locs hR hS => ?_)
  exact g_vret C hR hS h dX11_speak_20

/-! OneVoiceModel.canSpeak(II)Z -/
abbrev rm_X11_canSpeak : Room := { frames := 1, cells := 0, slots := 0, locals := 21 }
theorem m_X11_canSpeak : MV yX11_canSpeak RX11 cX11_canSpeak 5 (some .boolean) 2 := ⟨q1246, q53, q77, q1247, by decide +kernel⟩
def f_X11_canSpeak_L7 (K92 : St → Option (Int32 × St)) (v1 : Int32) (v2 : Int32) : Nat → Int32 → St → Option (Int32 × St)
  | 0, _, _ => none
  | f + 1, v3, S =>
    gd_ (inb v1 8) <|
    if (rd S 69 (Int32.toNatClampNeg v1)) ≤ v3 then
      K92  S
    else
      gd_ (inb (((8 : Int32) * v1) + v3) 64) <|
      lt_ (rd S 70 (Int32.toNatClampNeg (((8 : Int32) * v1) + v3))) fun x13 =>
      lt_ (fun  (S14 : St) =>
          lt_ (v3 + (1 : Int32)) fun x15 =>
          f_X11_canSpeak_L7 K92 v1 v2 f x15 S14) fun J86 =>
      if (32 : Int32) ≤ x13 then
        if (20 : Int32) ≤ v2 then
          bd_ (f_X11_speak ((18 : Int32) + (v2 / (10 : Int32))) S) fun r18 S19 =>
          if (v2 - v2 / (10 : Int32) * (10 : Int32)) ≤ 0 then
            J86  S19
          else
            bd_ (f_X11_speak (v2 - v2 / (10 : Int32) * (10 : Int32)) S19) fun r21 S22 =>
            J86  S22
        else
          bd_ (f_X11_speak v2 S) fun r23 S24 =>
          J86  S24
      else
        bd_ (f_X11_speak x13 S) fun r25 S26 =>
        J86  S26

def f_X11_canSpeak_L97 (K137 : Int32 → St → Option (Int32 × St))  : Nat → Int32 → Int32 → St → Option (Int32 × St)
  | 0, _, _, _ => none
  | f + 1, v3, v4, S =>
    if (rd S 54 26) ≤ v4 then
      K137 v3 S
    else
      lt_ (fun (t29 : Int32) (S30 : St) =>
          lt_ (v4 + (1 : Int32)) fun x31 =>
          f_X11_canSpeak_L97 K137 f t29 x31 S30) fun J130 =>
      lt_ (fun  (S32 : St) =>
          J130 (0 : Int32) S32) fun J129 =>
      if v3 = 0 then
        J129  S
      else
        gd_ (inb v4 16) <|
        gd_ (inb (rd S 71 (Int32.toNatClampNeg v4)) 32) <|
        if (rd S 67 (Int32.toNatClampNeg (rd S 71 (Int32.toNatClampNeg v4)))) ≤ 0 then
          J129  S
        else
          J130 (1 : Int32) S

def f_X11_canSpeak (v1 : Int32) (v2 : Int32) (S : St) : Option (Int32 × St) :=
  lt_ (wr S 54 26 (0 : Int32)) fun S9 =>
  f_X11_canSpeak_L7
    (fun  (S27 : St) =>
      f_X11_canSpeak_L97
        (fun (x37 : Int32) (S38 : St) =>
          gd_ (bz x37) <| some (x37, S38))
         FU (1 : Int32) (0 : Int32) S27)
    v1 v2 FU (0 : Int32) S9

set_option maxHeartbeats 4000000 in
set_option maxRecDepth 100000 in
theorem w_X11_canSpeak_L7 {p : Program} {l : Launch} {e : Env} {s : State} {m : MethodId} {args : Array Value} {below : List Frame} {meth : Method} {c : Code} {E : En} {α : Nat → Nat} {g : Nat × Nat} (C : Cx p s m args meth c RX11 cX11_canSpeak 5 (some .boolean) E) {z : Int32 × St} {K92 : St → Option (Int32 × St)} {v1 : Int32} {v2 : Int32}
    (hK92 : ∀ (S : St) (H : Heap) (locs : List Loc) (ls : Array Slot), Rp E α g S H → va_S E.2.2.1 s.heap H locs → lv_has ls 5 [(0, .ref (α 54))] → K92  S = some z → W p l e rm_X11_canSpeak s m args below meth c H locs 0 0 (MQ below (Qi E α g z) args s 0 0 E.2.2.1) (F0 m 92 ls [])) :
    ∀ (f : Nat) (v3 : Int32) (S : St) (H : Heap) (locs : List Loc) (ls : Array Slot), Rp E α g S H → va_S E.2.2.1 s.heap H locs → lv_has ls 5 [(0, .ref (α 54)), (1, .int v1), (2, .int v2), (3, .int v3)] → f_X11_canSpeak_L7 K92 v1 v2 f v3 S = some z → W p l e rm_X11_canSpeak s m args below meth c H locs 0 0 (MQ below (Qi E α g z) args s 0 0 E.2.2.1) (F0 m 7 ls []) := by
  obtain ⟨hx, hb, hml, hown, hts, hlk, hrt, hKs⟩ := id C
  intro f
  induction f with
  | zero =>
    intro v3 S H locs ls  hR hS hl h
    rw [f_X11_canSpeak_L7] at h
    cases h
  | succ f ih =>
    intro v3 S H locs ls  hR hS hl h
    rw [f_X11_canSpeak_L7] at h
    refine lv_iload_n hx hb dX11_canSpeak_7 rfl (lv_at hl 3 rfl) ?_
    refine lv_aload_n hx hb dX11_canSpeak_8 rfl (lv_at hl 0 rfl) ?_
    refine g_getr (t := 69) C hR (k := 54) (j := 24) (live_st (by decide)) rfl rfl (vw11) inl11 (by decide) q967 dX11_canSpeak_9 ?_
    refine lv_iload_n hx hb dX11_canSpeak_12 rfl (lv_at hl 1 rfl) ?_
    obtain ⟨g10, h⟩ := gd_e h
    refine g_iald C hR (k := 69) (n := 8) (live_st (by decide)) rfl g10 dX11_canSpeak_13 ?_
    refine lv_icmp_ge (tgt := 92) hx hb dX11_canSpeak_14 (by decide) (fun c11 => ?_) (fun c11 => ?_)
    · have h := ite_t c11 h
      exact hK92  _ _ _ _  hR hS (lv_sub hl [0] rfl) h
    · have h := ite_f c11 h
      refine lv_aload_n hx hb dX11_canSpeak_17 rfl (lv_at hl 0 rfl) ?_
      refine g_getr (t := 70) C hR (k := 54) (j := 25) (live_st (by decide)) rfl rfl (vw11) inl11 (by decide) q968 dX11_canSpeak_18 ?_
      refine lv_bipush (v := 8) hx hb dX11_canSpeak_21 (by decide) ?_
      refine lv_iload_n hx hb dX11_canSpeak_23 rfl (lv_at hl 1 rfl) ?_
      refine lv_imul hx hb dX11_canSpeak_24 ?_
      refine lv_iload_n hx hb dX11_canSpeak_25 rfl (lv_at hl 3 rfl) ?_
      refine lv_iadd hx hb dX11_canSpeak_26 ?_
      obtain ⟨g12, h⟩ := gd_e h
      refine g_iald C hR (k := 70) (n := 64) (live_st (by decide)) rfl g12 dX11_canSpeak_27 ?_
      obtain ⟨x13, ex13, h⟩ := lt_e h
      refine g_nmi ex13 ?_
      refine lv_istore (lv' := [(4, .int x13), (0, .ref (α 54)), (1, .int v1), (2, .int v2), (3, .int v3)]) hx hb dX11_canSpeak_28 hl (by decide) rfl (fun ls hl => ?_)
      refine lv_iload hx hb dX11_canSpeak_30 (lv_at hl 0 rfl) ?_
      refine lv_bipush (v := 32) hx hb dX11_canSpeak_32 (by decide) ?_
      obtain ⟨J86, eJ86, h⟩ := lt_e h
      have hJ86 : ∀ (S14 : St) (H : Heap) (locs : List Loc) (ls : Array Slot), Rp E α g S14 H → va_S E.2.2.1 s.heap H locs → lv_has ls 5 [(0, .ref (α 54)), (1, .int v1), (2, .int v2), (3, .int v3)] → J86  S14 = some z → W p l e rm_X11_canSpeak s m args below meth c H locs 0 0 (MQ below (Qi E α g z) args s 0 0 E.2.2.1) (F0 m 86 ls []) := by
        intro  S14 H locs ls  hR hS hl h
        rw [eJ86] at h
        obtain ⟨x15, ex15, h⟩ := lt_e h
        refine lv_iinc (v := x15) (lv' := [(3, .int x15), (0, .ref (α 54)), (1, .int v1), (2, .int v2)]) hx hb dX11_canSpeak_86 hl (k := 3) rfl (by rw [ex15]; rfl) (by decide) rfl (fun ls hl => ?_)
        refine lv_goto (tgt := 7) hx hb dX11_canSpeak_89 (by decide) ?_
        exact ih _ _ _ _ _  hR hS (lv_sub hl [1, 2, 3, 0] rfl) h
      clear eJ86
      refine lv_icmp_ge (tgt := 46) hx hb dX11_canSpeak_34 (by decide) (fun c16 => ?_) (fun c16 => ?_)
      · have h := ite_t c16 h
        refine lv_iload_n hx hb dX11_canSpeak_46 rfl (lv_at hl 3 rfl) ?_
        refine lv_bipush (v := 20) hx hb dX11_canSpeak_47 (by decide) ?_
        refine lv_icmp_ge (tgt := 60) hx hb dX11_canSpeak_49 (by decide) (fun c17 => ?_) (fun c17 => ?_)
        · have h := ite_t c17 h
          refine lv_aload_n hx hb dX11_canSpeak_60 rfl (lv_at hl 1 rfl) ?_
          refine lv_bipush (v := 18) hx hb dX11_canSpeak_61 (by decide) ?_
          refine lv_iload_n hx hb dX11_canSpeak_63 rfl (lv_at hl 3 rfl) ?_
          refine lv_bipush (v := 10) hx hb dX11_canSpeak_64 (by decide) ?_
          refine lv_idiv hx hb dX11_canSpeak_66 (by decide) ?_
          refine lv_iadd hx hb dX11_canSpeak_67 ?_
          obtain ⟨r18, S19, hr18, h⟩ := bd_e h
          refine g_cv hS (g_runV C hR hS (k := 54) (As := [.int ((18 : Int32) + (v2 / (10 : Int32)))]) (rest := []) (c_X11_speak l  hr18) (live_st (by decide)) rfl (vw11) m_X11_speak q1248 ⟨rfl, rfl⟩ ⟨Nat.le_of_ble_eq_true rfl, Nat.le_of_ble_eq_true rfl⟩ rfl hl.1 rfl (Nat.le_of_ble_eq_true rfl) dX11_canSpeak_68 ⟨Nat.zero_le _, Nat.zero_le _⟩) (fun H locs hR hS => ?_)
          refine lv_iload_n hx hb dX11_canSpeak_71 rfl (lv_at hl 3 rfl) ?_
          refine lv_bipush (v := 10) hx hb dX11_canSpeak_72 (by decide) ?_
          refine lv_irem hx hb dX11_canSpeak_74 (by decide) ?_
          refine lv_if_le (tgt := 86) hx hb dX11_canSpeak_75 (by decide) (fun c20 => ?_) (fun c20 => ?_)
          · have h := ite_t c20 h
            exact hJ86  _ _ _ _  hR hS (lv_sub hl [1, 2, 3, 4] rfl) h
          · have h := ite_f c20 h
            refine lv_aload_n hx hb dX11_canSpeak_78 rfl (lv_at hl 1 rfl) ?_
            refine lv_iload_n hx hb dX11_canSpeak_79 rfl (lv_at hl 3 rfl) ?_
            refine lv_bipush (v := 10) hx hb dX11_canSpeak_80 (by decide) ?_
            refine lv_irem hx hb dX11_canSpeak_82 (by decide) ?_
            obtain ⟨r21, S22, hr21, h⟩ := bd_e h
            refine g_cv hS (g_runV C hR hS (k := 54) (As := [.int (v2 - v2 / (10 : Int32) * (10 : Int32))]) (rest := []) (c_X11_speak l  hr21) (live_st (by decide)) rfl (vw11) m_X11_speak q1248 ⟨rfl, rfl⟩ ⟨Nat.le_of_ble_eq_true rfl, Nat.le_of_ble_eq_true rfl⟩ rfl hl.1 rfl (Nat.le_of_ble_eq_true rfl) dX11_canSpeak_83 ⟨Nat.zero_le _, Nat.zero_le _⟩) (fun H locs hR hS => ?_)
            exact hJ86  _ _ _ _  hR hS (lv_sub hl [1, 2, 3, 4] rfl) h
        · have h := ite_f c17 h
          refine lv_aload_n hx hb dX11_canSpeak_52 rfl (lv_at hl 1 rfl) ?_
          refine lv_iload_n hx hb dX11_canSpeak_53 rfl (lv_at hl 3 rfl) ?_
          obtain ⟨r23, S24, hr23, h⟩ := bd_e h
          refine g_cv hS (g_runV C hR hS (k := 54) (As := [.int v2]) (rest := []) (c_X11_speak l  hr23) (live_st (by decide)) rfl (vw11) m_X11_speak q1248 ⟨rfl, rfl⟩ ⟨Nat.le_of_ble_eq_true rfl, Nat.le_of_ble_eq_true rfl⟩ rfl hl.1 rfl (Nat.le_of_ble_eq_true rfl) dX11_canSpeak_54 ⟨Nat.zero_le _, Nat.zero_le _⟩) (fun H locs hR hS => ?_)
          refine lv_goto (tgt := 86) hx hb dX11_canSpeak_57 (by decide) ?_
          exact hJ86  _ _ _ _  hR hS (lv_sub hl [1, 2, 3, 4] rfl) h
      · have h := ite_f c16 h
        refine lv_aload_n hx hb dX11_canSpeak_37 rfl (lv_at hl 1 rfl) ?_
        refine lv_iload hx hb dX11_canSpeak_38 (lv_at hl 0 rfl) ?_
        obtain ⟨r25, S26, hr25, h⟩ := bd_e h
        refine g_cv hS (g_runV C hR hS (k := 54) (As := [.int x13]) (rest := []) (c_X11_speak l  hr25) (live_st (by decide)) rfl (vw11) m_X11_speak q1248 ⟨rfl, rfl⟩ ⟨Nat.le_of_ble_eq_true rfl, Nat.le_of_ble_eq_true rfl⟩ rfl hl.1 rfl (Nat.le_of_ble_eq_true rfl) dX11_canSpeak_40 ⟨Nat.zero_le _, Nat.zero_le _⟩) (fun H locs hR hS => ?_)
        refine lv_goto (tgt := 86) hx hb dX11_canSpeak_43 (by decide) ?_
        exact hJ86  _ _ _ _  hR hS (lv_sub hl [1, 2, 3, 4] rfl) h

set_option maxHeartbeats 4000000 in
set_option maxRecDepth 100000 in
theorem w_X11_canSpeak_L97 {p : Program} {l : Launch} {e : Env} {s : State} {m : MethodId} {args : Array Value} {below : List Frame} {meth : Method} {c : Code} {E : En} {α : Nat → Nat} {g : Nat × Nat} (C : Cx p s m args meth c RX11 cX11_canSpeak 5 (some .boolean) E) {z : Int32 × St} {K137 : Int32 → St → Option (Int32 × St)}
    (hK137 : ∀ (y3 : Int32) (S : St) (H : Heap) (locs : List Loc) (ls : Array Slot), Rp E α g S H → va_S E.2.2.1 s.heap H locs → lv_has ls 5 [(3, .int y3)] → K137 y3 S = some z → W p l e rm_X11_canSpeak s m args below meth c H locs 0 0 (MQ below (Qi E α g z) args s 0 0 E.2.2.1) (F0 m 137 ls [])) :
    ∀ (f : Nat) (v3 : Int32) (v4 : Int32) (S : St) (H : Heap) (locs : List Loc) (ls : Array Slot), Rp E α g S H → va_S E.2.2.1 s.heap H locs → lv_has ls 5 [(0, .ref (α 54)), (3, .int v3), (4, .int v4)] → f_X11_canSpeak_L97 K137 f v3 v4 S = some z → W p l e rm_X11_canSpeak s m args below meth c H locs 0 0 (MQ below (Qi E α g z) args s 0 0 E.2.2.1) (F0 m 97 ls []) := by
  obtain ⟨hx, hb, hml, hown, hts, hlk, hrt, hKs⟩ := id C
  intro f
  induction f with
  | zero =>
    intro v3 v4 S H locs ls  hR hS hl h
    rw [f_X11_canSpeak_L97] at h
    cases h
  | succ f ih =>
    intro v3 v4 S H locs ls  hR hS hl h
    rw [f_X11_canSpeak_L97] at h
    refine lv_iload hx hb dX11_canSpeak_97 (lv_at hl 2 rfl) ?_
    refine lv_aload_n hx hb dX11_canSpeak_99 rfl (lv_at hl 0 rfl) ?_
    refine g_geti C hR (k := 54) (j := 26) (live_st (by decide)) rfl rfl (vw11) inl11 (by decide) q969 dX11_canSpeak_100 ?_
    refine lv_icmp_ge (tgt := 137) hx hb dX11_canSpeak_103 (by decide) (fun c28 => ?_) (fun c28 => ?_)
    · have h := ite_t c28 h
      exact hK137 _ _ _ _ _  hR hS (lv_sub hl [1] rfl) h
    · have h := ite_f c28 h
      refine lv_iload_n hx hb dX11_canSpeak_106 rfl (lv_at hl 1 rfl) ?_
      obtain ⟨J130, eJ130, h⟩ := lt_e h
      have hJ130 : ∀ (t29 : Int32) (S30 : St) (H : Heap) (locs : List Loc) (ls : Array Slot), Rp E α g S30 H → va_S E.2.2.1 s.heap H locs → lv_has ls 5 [(0, .ref (α 54)), (4, .int v4)] → J130 t29 S30 = some z → W p l e rm_X11_canSpeak s m args below meth c H locs 0 0 (MQ below (Qi E α g z) args s 0 0 E.2.2.1) (F0 m 130 ls [.int t29]) := by
        intro t29 S30 H locs ls  hR hS hl h
        rw [eJ130] at h
        refine lv_istore_n (lv' := [(3, .int t29), (0, .ref (α 54)), (4, .int v4)]) hx hb dX11_canSpeak_130 rfl hl (by decide) rfl (fun ls hl => ?_)
        obtain ⟨x31, ex31, h⟩ := lt_e h
        refine lv_iinc (v := x31) (lv' := [(4, .int x31), (3, .int t29), (0, .ref (α 54))]) hx hb dX11_canSpeak_131 hl (k := 2) rfl (by rw [ex31]; rfl) (by decide) rfl (fun ls hl => ?_)
        refine lv_goto (tgt := 97) hx hb dX11_canSpeak_134 (by decide) ?_
        exact ih _ _ _ _ _ _  hR hS (lv_sub hl [2, 1, 0] rfl) h
      clear eJ130
      obtain ⟨J129, eJ129, h⟩ := lt_e h
      have hJ129 : ∀ (S32 : St) (H : Heap) (locs : List Loc) (ls : Array Slot), Rp E α g S32 H → va_S E.2.2.1 s.heap H locs → lv_has ls 5 [(0, .ref (α 54)), (4, .int v4)] → J129  S32 = some z → W p l e rm_X11_canSpeak s m args below meth c H locs 0 0 (MQ below (Qi E α g z) args s 0 0 E.2.2.1) (F0 m 129 ls []) := by
        intro  S32 H locs ls  hR hS hl h
        rw [eJ129] at h
        refine lv_iconst (v := 0) hx hb dX11_canSpeak_129 (by decide) ?_
        exact hJ130 _ _ _ _ _  hR hS hl h
      clear eJ129
      refine lv_if_eq (tgt := 129) hx hb dX11_canSpeak_107 (by decide) (fun c33 => ?_) (fun c33 => ?_)
      · have h := ite_t c33 h
        exact hJ129  _ _ _ _  hR hS (lv_sub hl [0, 2] rfl) h
      · have h := ite_f c33 h
        refine lv_aload_n hx hb dX11_canSpeak_110 rfl (lv_at hl 0 rfl) ?_
        refine g_getr (t := 67) C hR (k := 54) (j := 22) (live_st (by decide)) rfl rfl (vw11) inl11 (by decide) q965 dX11_canSpeak_111 ?_
        refine lv_aload_n hx hb dX11_canSpeak_114 rfl (lv_at hl 0 rfl) ?_
        refine g_getr (t := 71) C hR (k := 54) (j := 27) (live_st (by decide)) rfl rfl (vw11) inl11 (by decide) q970 dX11_canSpeak_115 ?_
        refine lv_iload hx hb dX11_canSpeak_118 (lv_at hl 2 rfl) ?_
        obtain ⟨g34, h⟩ := gd_e h
        refine g_iald C hR (k := 71) (n := 16) (live_st (by decide)) rfl g34 dX11_canSpeak_120 ?_
        obtain ⟨g35, h⟩ := gd_e h
        refine g_iald C hR (k := 67) (n := 32) (live_st (by decide)) rfl g35 dX11_canSpeak_121 ?_
        refine lv_if_le (tgt := 129) hx hb dX11_canSpeak_122 (by decide) (fun c36 => ?_) (fun c36 => ?_)
        · have h := ite_t c36 h
          exact hJ129  _ _ _ _  hR hS (lv_sub hl [0, 2] rfl) h
        · have h := ite_f c36 h
          refine lv_iconst (v := 1) hx hb dX11_canSpeak_125 (by decide) ?_
          refine lv_goto (tgt := 130) hx hb dX11_canSpeak_126 (by decide) ?_
          exact hJ130 _ _ _ _ _  hR hS (lv_sub hl [0, 2] rfl) h

set_option maxHeartbeats 4000000 in
set_option maxRecDepth 100000 in
theorem c_X11_canSpeak (l : Launch) {E : En} {α : Nat → Nat} {g : Nat × Nat} {v1 : Int32} {v2 : Int32} {S : St}  {z : Int32 × St} (h : f_X11_canSpeak v1 v2 S = some z) : Met l yX11_canSpeak (wsY yX11_canSpeak cX11_canSpeak 5 (some .boolean)) rm_X11_canSpeak (va_Pc [.ref (α 54), .int v1, .int v2] (Wd E α g S)) (Qi E α g z) 0 0 E.2.2.1 := by
  refine g_met [.ref (α 54), .int v1, .int v2] (by decide) rfl (Nat.le_of_ble_eq_true rfl) ?_
  intro p e s m below meth c ls C hR hl
  generalize hae : ([.ref (α 54), .int v1, .int v2] : List Value).toArray = args at C ⊢
  have hl : lv_has ls 5 [(0, .ref (α 54)), (1, .int v1), (2, .int v2)] := hl
  obtain ⟨hx, hb, hml, hown, hts, hlk, hrt, hKs⟩ := id C
  have hS : va_S E.2.2.1 s.heap s.heap [] := va_S.rf
  unfold f_X11_canSpeak at h
  refine lv_aload_n hx hb dX11_canSpeak_0 rfl (lv_at hl 0 rfl) ?_
  refine lv_iconst (v := 0) hx hb dX11_canSpeak_1 (by decide) ?_
  obtain ⟨S9, eS9, h⟩ := lt_e h
  refine g_puti C hR hS (k := 54) (j := 26) (live_st (by decide)) rfl rfl (vw11) inl11 (by decide) (ty0 := tyX11) tyX11_ok nmX11 q969 rfl rfl rfl eS9 dX11_canSpeak_2 (fun H locs hR hS => ?_)
  refine lv_iconst (v := 0) hx hb dX11_canSpeak_5 (by decide) ?_
  refine lv_istore_n (lv' := [(3, .int (0 : Int32)), (0, .ref (α 54)), (1, .int v1), (2, .int v2)]) hx hb dX11_canSpeak_6 rfl hl (by decide) rfl (fun ls hl => ?_)
  refine w_X11_canSpeak_L7 C ?_  _ _ _ _ _ _  hR hS (lv_sub hl [1, 2, 3, 0] rfl) h
  · intro  S27 H locs ls  hR hS hl h
    refine lv_iconst (v := 1) hx hb dX11_canSpeak_92 (by decide) ?_
    refine lv_istore_n (lv' := [(3, .int (1 : Int32)), (0, .ref (α 54))]) hx hb dX11_canSpeak_93 rfl hl (by decide) rfl (fun ls hl => ?_)
    refine lv_iconst (v := 0) hx hb dX11_canSpeak_94 (by decide) ?_
    refine lv_istore (lv' := [(4, .int (0 : Int32)), (3, .int (1 : Int32)), (0, .ref (α 54))]) hx hb dX11_canSpeak_95 hl (by decide) rfl (fun ls hl => ?_)
    refine w_X11_canSpeak_L97 C ?_  _ _ _ _ _ _ _  hR hS (lv_sub hl [2, 1, 0] rfl) h
    · intro x37 S38 H locs ls  hR hS hl h
      refine lv_iload_n hx hb dX11_canSpeak_137 rfl (lv_at hl 0 rfl) ?_
      obtain ⟨hz, h⟩ := gd_e h
      exact g_zret C hR hS hz h dX11_canSpeak_138

/-! OneVoiceModel.line(III)I -/
abbrev rm_X11_line : Room := { frames := 2, cells := 0, slots := 0, locals := 45 }
theorem m_X11_line : MV yX11_line RX11 cX11_line 7 (some .int) 3 := ⟨q1237, q1238, q77, q1239, by decide +kernel⟩
def f_X11_line_L47 (K86 : Int32 → Int32 → St → Option (Int32 × St)) (K120 : Int32 → St → Option (Int32 × St)) (v3 : Int32) : Nat → Int32 → Int32 → St → Option (Int32 × St)
  | 0, _, _, _ => none
  | f + 1, v4, v5, S =>
    if (rd S 54 26) ≤ v5 then
      K120 v4 S
    else
      gd_ (inb v5 16) <|
      gd_ (inb (rd S 71 (Int32.toNatClampNeg v5)) 32) <|
      lt_ (rd S 67 (Int32.toNatClampNeg (rd S 71 (Int32.toNatClampNeg v5)))) fun x21 =>
      bd_ (f_X11_in v3 v4 ((v4 + x21) - (1 : Int32)) S) fun r22 S23 =>
      if r22 = 0 then
        lt_ (v4 + x21) fun x25 =>
        lt_ (v5 + (1 : Int32)) fun x26 =>
        f_X11_line_L47 K86 K120 v3 f x25 x26 S23
      else
        K86 v4 v5 S23

def f_X11_line (v1 : Int32) (v2 : Int32) (v3 : Int32) (S : St) : Option (Int32 × St) :=
  bd_ (f_X11_isLine v1 S) fun r8 S9 =>
  if r8 = 0 then
    some ((-2 : Int32), S9)
  else
    bd_ (f_X11_in v2 (0 : Int32) (99 : Int32) S9) fun r11 S12 =>
    if r11 = 0 then
      some ((-3 : Int32), S12)
    else
      if (-1 : Int32) ≤ v3 then
        bd_ (f_X11_canSpeak v1 v2 S12) fun r15 S16 =>
        if r15 = 0 then
          some ((-4 : Int32), S16)
        else
          f_X11_line_L47
            (fun (x27 : Int32) (x28 : Int32) (S29 : St) =>
              gd_ (inb x28 16) <|
              gd_ (inb ((((8 : Int32) * (rd S29 71 (Int32.toNatClampNeg x28))) + v3) - x27) 256) <|
              some ((rd S29 68 (Int32.toNatClampNeg ((((8 : Int32) * (rd S29 71 (Int32.toNatClampNeg x28))) + v3) - x27))), S29))
            (fun (x32 : Int32) (S33 : St) =>
              if v3 = (-1 : Int32) then
                some (x32, S33)
              else
                some ((-1 : Int32), S33))
            v3 FU (0 : Int32) (0 : Int32) S16
      else
        some ((-3 : Int32), S12)

set_option maxHeartbeats 4000000 in
set_option maxRecDepth 100000 in
theorem w_X11_line_L47 {p : Program} {l : Launch} {e : Env} {s : State} {m : MethodId} {args : Array Value} {below : List Frame} {meth : Method} {c : Code} {E : En} {α : Nat → Nat} {g : Nat × Nat} (C : Cx p s m args meth c RX11 cX11_line 7 (some .int) E) {z : Int32 × St} {K86 : Int32 → Int32 → St → Option (Int32 × St)} {K120 : Int32 → St → Option (Int32 × St)} {v3 : Int32}
    (hK86 : ∀ (y4 : Int32) (y5 : Int32) (S : St) (H : Heap) (locs : List Loc) (ls : Array Slot), Rp E α g S H → va_S E.2.2.1 s.heap H locs → lv_has ls 7 [(0, .ref (α 54)), (3, .int v3), (4, .int y4), (5, .int y5)] → K86 y4 y5 S = some z → W p l e rm_X11_line s m args below meth c H locs 0 0 (MQ below (Qi E α g z) args s 0 0 E.2.2.1) (F0 m 86 ls []))
    (hK120 : ∀ (y4 : Int32) (S : St) (H : Heap) (locs : List Loc) (ls : Array Slot), Rp E α g S H → va_S E.2.2.1 s.heap H locs → lv_has ls 7 [(3, .int v3), (4, .int y4)] → K120 y4 S = some z → W p l e rm_X11_line s m args below meth c H locs 0 0 (MQ below (Qi E α g z) args s 0 0 E.2.2.1) (F0 m 120 ls [])) :
    ∀ (f : Nat) (v4 : Int32) (v5 : Int32) (S : St) (H : Heap) (locs : List Loc) (ls : Array Slot), Rp E α g S H → va_S E.2.2.1 s.heap H locs → lv_has ls 7 [(0, .ref (α 54)), (3, .int v3), (4, .int v4), (5, .int v5)] → f_X11_line_L47 K86 K120 v3 f v4 v5 S = some z → W p l e rm_X11_line s m args below meth c H locs 0 0 (MQ below (Qi E α g z) args s 0 0 E.2.2.1) (F0 m 47 ls []) := by
  obtain ⟨hx, hb, hml, hown, hts, hlk, hrt, hKs⟩ := id C
  intro f
  induction f with
  | zero =>
    intro v4 v5 S H locs ls  hR hS hl h
    rw [f_X11_line_L47] at h
    cases h
  | succ f ih =>
    intro v4 v5 S H locs ls  hR hS hl h
    rw [f_X11_line_L47] at h
    refine lv_iload hx hb dX11_line_47 (lv_at hl 3 rfl) ?_
    refine lv_aload_n hx hb dX11_line_49 rfl (lv_at hl 0 rfl) ?_
    refine g_geti C hR (k := 54) (j := 26) (live_st (by decide)) rfl rfl (vw11) inl11 (by decide) q969 dX11_line_50 ?_
    refine lv_icmp_ge (tgt := 120) hx hb dX11_line_53 (by decide) (fun c18 => ?_) (fun c18 => ?_)
    · have h := ite_t c18 h
      exact hK120 _ _ _ _ _  hR hS (lv_sub hl [1, 2] rfl) h
    · have h := ite_f c18 h
      refine lv_aload_n hx hb dX11_line_56 rfl (lv_at hl 0 rfl) ?_
      refine g_getr (t := 67) C hR (k := 54) (j := 22) (live_st (by decide)) rfl rfl (vw11) inl11 (by decide) q965 dX11_line_57 ?_
      refine lv_aload_n hx hb dX11_line_60 rfl (lv_at hl 0 rfl) ?_
      refine g_getr (t := 71) C hR (k := 54) (j := 27) (live_st (by decide)) rfl rfl (vw11) inl11 (by decide) q970 dX11_line_61 ?_
      refine lv_iload hx hb dX11_line_64 (lv_at hl 3 rfl) ?_
      obtain ⟨g19, h⟩ := gd_e h
      refine g_iald C hR (k := 71) (n := 16) (live_st (by decide)) rfl g19 dX11_line_66 ?_
      obtain ⟨g20, h⟩ := gd_e h
      refine g_iald C hR (k := 67) (n := 32) (live_st (by decide)) rfl g20 dX11_line_67 ?_
      obtain ⟨x21, ex21, h⟩ := lt_e h
      refine g_nmi ex21 ?_
      refine lv_istore (lv' := [(6, .int x21), (0, .ref (α 54)), (3, .int v3), (4, .int v4), (5, .int v5)]) hx hb dX11_line_68 hl (by decide) rfl (fun ls hl => ?_)
      refine lv_iload_n hx hb dX11_line_70 rfl (lv_at hl 2 rfl) ?_
      refine lv_iload hx hb dX11_line_71 (lv_at hl 3 rfl) ?_
      refine lv_iload hx hb dX11_line_73 (lv_at hl 3 rfl) ?_
      refine lv_iload hx hb dX11_line_75 (lv_at hl 0 rfl) ?_
      refine lv_iadd hx hb dX11_line_77 ?_
      refine lv_iconst (v := 1) hx hb dX11_line_78 (by decide) ?_
      refine lv_isub hx hb dX11_line_79 ?_
      obtain ⟨r22, S23, hr22, h⟩ := bd_e h
      refine g_ci hS (g_runS C hR hS (As := [.int v3, .int v4, .int ((v4 + x21) - (1 : Int32))]) (rest := []) (c_X11_in l  hr22) m_X11_in q1093 ⟨rfl, rfl⟩ ⟨Nat.le_of_ble_eq_true rfl, Nat.le_of_ble_eq_true rfl⟩ rfl hl.1 rfl (Nat.le_of_ble_eq_true rfl) dX11_line_80 ⟨Nat.zero_le _, Nat.zero_le _⟩) (fun H locs hR hS => ?_)
      refine lv_if_eq (tgt := 107) hx hb dX11_line_83 (by decide) (fun c24 => ?_) (fun c24 => ?_)
      · have h := ite_t c24 h
        refine lv_iload hx hb dX11_line_107 (lv_at hl 3 rfl) ?_
        refine lv_iload hx hb dX11_line_109 (lv_at hl 0 rfl) ?_
        refine lv_iadd hx hb dX11_line_111 ?_
        obtain ⟨x25, ex25, h⟩ := lt_e h
        refine g_nmi ex25 ?_
        refine lv_istore (lv' := [(4, .int x25), (6, .int x21), (0, .ref (α 54)), (3, .int v3), (5, .int v5)]) hx hb dX11_line_112 hl (by decide) rfl (fun ls hl => ?_)
        obtain ⟨x26, ex26, h⟩ := lt_e h
        refine lv_iinc (v := x26) (lv' := [(5, .int x26), (4, .int x25), (6, .int x21), (0, .ref (α 54)), (3, .int v3)]) hx hb dX11_line_114 hl (k := 4) rfl (by rw [ex26]; rfl) (by decide) rfl (fun ls hl => ?_)
        refine lv_goto (tgt := 47) hx hb dX11_line_117 (by decide) ?_
        exact ih _ _ _ _ _ _  hR hS (lv_sub hl [3, 4, 1, 0] rfl) h
      · have h := ite_f c24 h
        exact hK86 _ _ _ _ _ _  hR hS (lv_sub hl [1, 2, 3, 4] rfl) h

set_option maxHeartbeats 4000000 in
set_option maxRecDepth 100000 in
theorem c_X11_line (l : Launch) {E : En} {α : Nat → Nat} {g : Nat × Nat} {v1 : Int32} {v2 : Int32} {v3 : Int32} {S : St}  {z : Int32 × St} (h : f_X11_line v1 v2 v3 S = some z) : Met l yX11_line (wsY yX11_line cX11_line 7 (some .int)) rm_X11_line (va_Pc [.ref (α 54), .int v1, .int v2, .int v3] (Wd E α g S)) (Qi E α g z) 0 0 E.2.2.1 := by
  refine g_met [.ref (α 54), .int v1, .int v2, .int v3] (by decide) rfl (Nat.le_of_ble_eq_true rfl) ?_
  intro p e s m below meth c ls C hR hl
  generalize hae : ([.ref (α 54), .int v1, .int v2, .int v3] : List Value).toArray = args at C ⊢
  have hl : lv_has ls 7 [(0, .ref (α 54)), (1, .int v1), (2, .int v2), (3, .int v3)] := hl
  obtain ⟨hx, hb, hml, hown, hts, hlk, hrt, hKs⟩ := id C
  have hS : va_S E.2.2.1 s.heap s.heap [] := va_S.rf
  unfold f_X11_line at h
  refine lv_aload_n hx hb dX11_line_0 rfl (lv_at hl 0 rfl) ?_
  refine lv_iload_n hx hb dX11_line_1 rfl (lv_at hl 1 rfl) ?_
  obtain ⟨r8, S9, hr8, h⟩ := bd_e h
  refine g_ci hS (g_runV C hR hS (k := 54) (As := [.int v1]) (rest := []) (c_X11_isLine l  hr8) (live_st (by decide)) rfl (vw11) m_X11_isLine q1240 ⟨rfl, rfl⟩ ⟨Nat.le_of_ble_eq_true rfl, Nat.le_of_ble_eq_true rfl⟩ rfl hl.1 rfl (Nat.le_of_ble_eq_true rfl) dX11_line_2 ⟨Nat.zero_le _, Nat.zero_le _⟩) (fun H locs hR hS => ?_)
  refine lv_if_ne (tgt := 11) hx hb dX11_line_5 (by decide) (fun c10 => ?_) (fun c10 => ?_)
  · have h := ite_f c10 h
    refine lv_iload_n hx hb dX11_line_11 rfl (lv_at hl 2 rfl) ?_
    refine lv_iconst (v := 0) hx hb dX11_line_12 (by decide) ?_
    refine lv_bipush (v := 99) hx hb dX11_line_13 (by decide) ?_
    obtain ⟨r11, S12, hr11, h⟩ := bd_e h
    refine g_ci hS (g_runS C hR hS (As := [.int v2, .int (0 : Int32), .int (99 : Int32)]) (rest := []) (c_X11_in l  hr11) m_X11_in q1093 ⟨rfl, rfl⟩ ⟨Nat.le_of_ble_eq_true rfl, Nat.le_of_ble_eq_true rfl⟩ rfl hl.1 rfl (Nat.le_of_ble_eq_true rfl) dX11_line_15 ⟨Nat.zero_le _, Nat.zero_le _⟩) (fun H locs hR hS => ?_)
    refine lv_if_eq (tgt := 26) hx hb dX11_line_18 (by decide) (fun c13 => ?_) (fun c13 => ?_)
    · have h := ite_t c13 h
      refine lv_bipush (v := -3) hx hb dX11_line_26 (by decide) ?_
      exact g_iret C hR hS h dX11_line_28
    · have h := ite_f c13 h
      refine lv_iload_n hx hb dX11_line_21 rfl (lv_at hl 3 rfl) ?_
      refine lv_iconst (v := -1) hx hb dX11_line_22 (by decide) ?_
      refine lv_icmp_ge (tgt := 29) hx hb dX11_line_23 (by decide) (fun c14 => ?_) (fun c14 => ?_)
      · have h := ite_t c14 h
        refine lv_aload_n hx hb dX11_line_29 rfl (lv_at hl 0 rfl) ?_
        refine lv_iload_n hx hb dX11_line_30 rfl (lv_at hl 1 rfl) ?_
        refine lv_iload_n hx hb dX11_line_31 rfl (lv_at hl 2 rfl) ?_
        obtain ⟨r15, S16, hr15, h⟩ := bd_e h
        refine g_ci hS (g_runV C hR hS (k := 54) (As := [.int v1, .int v2]) (rest := []) (c_X11_canSpeak l  hr15) (live_st (by decide)) rfl (vw11) m_X11_canSpeak q1244 ⟨rfl, rfl⟩ ⟨Nat.le_of_ble_eq_true rfl, Nat.le_of_ble_eq_true rfl⟩ rfl hl.1 rfl (Nat.le_of_ble_eq_true rfl) dX11_line_32 ⟨Nat.zero_le _, Nat.zero_le _⟩) (fun H locs hR hS => ?_)
        refine lv_if_ne (tgt := 41) hx hb dX11_line_35 (by decide) (fun c17 => ?_) (fun c17 => ?_)
        · have h := ite_f c17 h
          refine lv_iconst (v := 0) hx hb dX11_line_41 (by decide) ?_
          refine lv_istore (lv' := [(4, .int (0 : Int32)), (0, .ref (α 54)), (1, .int v1), (2, .int v2), (3, .int v3)]) hx hb dX11_line_42 hl (by decide) rfl (fun ls hl => ?_)
          refine lv_iconst (v := 0) hx hb dX11_line_44 (by decide) ?_
          refine lv_istore (lv' := [(5, .int (0 : Int32)), (4, .int (0 : Int32)), (0, .ref (α 54)), (1, .int v1), (2, .int v2), (3, .int v3)]) hx hb dX11_line_45 hl (by decide) rfl (fun ls hl => ?_)
          refine w_X11_line_L47 C ?_ ?_  _ _ _ _ _ _ _  hR hS (lv_sub hl [2, 5, 1, 0] rfl) h
          · intro x27 x28 S29 H locs ls  hR hS hl h
            refine lv_aload_n hx hb dX11_line_86 rfl (lv_at hl 0 rfl) ?_
            refine g_getr (t := 68) C hR (k := 54) (j := 23) (live_st (by decide)) rfl rfl (vw11) inl11 (by decide) q966 dX11_line_87 ?_
            refine lv_bipush (v := 8) hx hb dX11_line_90 (by decide) ?_
            refine lv_aload_n hx hb dX11_line_92 rfl (lv_at hl 0 rfl) ?_
            refine g_getr (t := 71) C hR (k := 54) (j := 27) (live_st (by decide)) rfl rfl (vw11) inl11 (by decide) q970 dX11_line_93 ?_
            refine lv_iload hx hb dX11_line_96 (lv_at hl 3 rfl) ?_
            obtain ⟨g30, h⟩ := gd_e h
            refine g_iald C hR (k := 71) (n := 16) (live_st (by decide)) rfl g30 dX11_line_98 ?_
            refine lv_imul hx hb dX11_line_99 ?_
            refine lv_iload_n hx hb dX11_line_100 rfl (lv_at hl 1 rfl) ?_
            refine lv_iadd hx hb dX11_line_101 ?_
            refine lv_iload hx hb dX11_line_102 (lv_at hl 2 rfl) ?_
            refine lv_isub hx hb dX11_line_104 ?_
            obtain ⟨g31, h⟩ := gd_e h
            refine g_iald C hR (k := 68) (n := 256) (live_st (by decide)) rfl g31 dX11_line_105 ?_
            exact g_iret C hR hS h dX11_line_106
          · intro x32 S33 H locs ls  hR hS hl h
            refine lv_iload_n hx hb dX11_line_120 rfl (lv_at hl 0 rfl) ?_
            refine lv_iconst (v := -1) hx hb dX11_line_121 (by decide) ?_
            refine lv_icmp_ne (tgt := 130) hx hb dX11_line_122 (by decide) (fun c34 => ?_) (fun c34 => ?_)
            · have h := ite_f c34 h
              refine lv_iconst (v := -1) hx hb dX11_line_130 (by decide) ?_
              exact g_iret C hR hS h dX11_line_131
            · have h := ite_t c34 h
              refine lv_iload hx hb dX11_line_125 (lv_at hl 1 rfl) ?_
              refine lv_goto (tgt := 131) hx hb dX11_line_127 (by decide) ?_
              exact g_iret C hR hS h dX11_line_131
        · have h := ite_t c17 h
          refine lv_bipush (v := -4) hx hb dX11_line_38 (by decide) ?_
          exact g_iret C hR hS h dX11_line_40
      · have h := ite_f c14 h
        refine lv_bipush (v := -3) hx hb dX11_line_26 (by decide) ?_
        exact g_iret C hR hS h dX11_line_28
  · have h := ite_t c10 h
    refine lv_bipush (v := -2) hx hb dX11_line_8 (by decide) ?_
    exact g_iret C hR hS h dX11_line_10

/-! OneVoiceModel.jarOf(II)I -/
abbrev rm_X11_jarOf : Room := { frames := 4, cells := 0, slots := 0, locals := 101 }
theorem m_X11_jarOf : MV yX11_jarOf RX11 cX11_jarOf 4 (some .int) 2 := ⟨q1262, q56, q77, q1263, by decide +kernel⟩
def f_X11_jarOf_L2 (K35 : St → Option (Int32 × St)) (v1 : Int32) (v2 : Int32) : Nat → Int32 → St → Option (Int32 × St)
  | 0, _, _ => none
  | f + 1, v3, S =>
    gd_ (inb v1 32) <|
    if (rd S 67 (Int32.toNatClampNeg v1)) ≤ v3 then
      K35  S
    else
      gd_ (inb (((8 : Int32) * v1) + v3) 256) <|
      gd_ (inb v3 16) <|
      lt_ (wr S 63 (Int32.toNatClampNeg v3) (rd S 68 (Int32.toNatClampNeg (((8 : Int32) * v1) + v3)))) fun S9 =>
      lt_ (v3 + (1 : Int32)) fun x11 =>
      f_X11_jarOf_L2 K35 v1 v2 f x11 S9

def f_X11_jarOf (v1 : Int32) (v2 : Int32) (S : St) : Option (Int32 × St) :=
  f_X11_jarOf_L2
    (fun  (S12 : St) =>
      gd_ (inb v1 32) <|
      bd_ (f_X11_layOut v2 (rd S12 67 (Int32.toNatClampNeg v1)) S12) fun r14 S15 =>
      bd_ (f_X11_leastOf  S15) fun r16 S17 =>
      some (r16, S17))
    v1 v2 FU (0 : Int32) S

set_option maxHeartbeats 4000000 in
set_option maxRecDepth 100000 in
theorem w_X11_jarOf_L2 {p : Program} {l : Launch} {e : Env} {s : State} {m : MethodId} {args : Array Value} {below : List Frame} {meth : Method} {c : Code} {E : En} {α : Nat → Nat} {g : Nat × Nat} (C : Cx p s m args meth c RX11 cX11_jarOf 4 (some .int) E) {z : Int32 × St} {K35 : St → Option (Int32 × St)} {v1 : Int32} {v2 : Int32}
    (hK35 : ∀ (S : St) (H : Heap) (locs : List Loc) (ls : Array Slot), Rp E α g S H → va_S E.2.2.1 s.heap H locs → lv_has ls 4 [(0, .ref (α 54)), (1, .int v1), (2, .int v2)] → K35  S = some z → W p l e rm_X11_jarOf s m args below meth c H locs 0 0 (MQ below (Qi E α g z) args s 0 0 E.2.2.1) (F0 m 35 ls [])) :
    ∀ (f : Nat) (v3 : Int32) (S : St) (H : Heap) (locs : List Loc) (ls : Array Slot), Rp E α g S H → va_S E.2.2.1 s.heap H locs → lv_has ls 4 [(0, .ref (α 54)), (1, .int v1), (2, .int v2), (3, .int v3)] → f_X11_jarOf_L2 K35 v1 v2 f v3 S = some z → W p l e rm_X11_jarOf s m args below meth c H locs 0 0 (MQ below (Qi E α g z) args s 0 0 E.2.2.1) (F0 m 2 ls []) := by
  obtain ⟨hx, hb, hml, hown, hts, hlk, hrt, hKs⟩ := id C
  intro f
  induction f with
  | zero =>
    intro v3 S H locs ls  hR hS hl h
    rw [f_X11_jarOf_L2] at h
    cases h
  | succ f ih =>
    intro v3 S H locs ls  hR hS hl h
    rw [f_X11_jarOf_L2] at h
    refine lv_iload_n hx hb dX11_jarOf_2 rfl (lv_at hl 3 rfl) ?_
    refine lv_aload_n hx hb dX11_jarOf_3 rfl (lv_at hl 0 rfl) ?_
    refine g_getr (t := 67) C hR (k := 54) (j := 22) (live_st (by decide)) rfl rfl (vw11) inl11 (by decide) q965 dX11_jarOf_4 ?_
    refine lv_iload_n hx hb dX11_jarOf_7 rfl (lv_at hl 1 rfl) ?_
    obtain ⟨g6, h⟩ := gd_e h
    refine g_iald C hR (k := 67) (n := 32) (live_st (by decide)) rfl g6 dX11_jarOf_8 ?_
    refine lv_icmp_ge (tgt := 35) hx hb dX11_jarOf_9 (by decide) (fun c7 => ?_) (fun c7 => ?_)
    · have h := ite_t c7 h
      exact hK35  _ _ _ _  hR hS (lv_sub hl [0, 1, 2] rfl) h
    · have h := ite_f c7 h
      refine lv_aload_n hx hb dX11_jarOf_12 rfl (lv_at hl 0 rfl) ?_
      refine g_getr (t := 63) C hR (k := 54) (j := 10) (live_st (by decide)) rfl rfl (vw11) inl11 (by decide) q953 dX11_jarOf_13 ?_
      refine lv_iload_n hx hb dX11_jarOf_16 rfl (lv_at hl 3 rfl) ?_
      refine lv_aload_n hx hb dX11_jarOf_17 rfl (lv_at hl 0 rfl) ?_
      refine g_getr (t := 68) C hR (k := 54) (j := 23) (live_st (by decide)) rfl rfl (vw11) inl11 (by decide) q966 dX11_jarOf_18 ?_
      refine lv_bipush (v := 8) hx hb dX11_jarOf_21 (by decide) ?_
      refine lv_iload_n hx hb dX11_jarOf_23 rfl (lv_at hl 1 rfl) ?_
      refine lv_imul hx hb dX11_jarOf_24 ?_
      refine lv_iload_n hx hb dX11_jarOf_25 rfl (lv_at hl 3 rfl) ?_
      refine lv_iadd hx hb dX11_jarOf_26 ?_
      obtain ⟨g8, h⟩ := gd_e h
      refine g_iald C hR (k := 68) (n := 256) (live_st (by decide)) rfl g8 dX11_jarOf_27 ?_
      obtain ⟨g10, h⟩ := gd_e h
      obtain ⟨S9, eS9, h⟩ := lt_e h
      refine g_iast C hR hS (k := 63) (n := 16) (live_st (by decide)) rfl g10 eS9 dX11_jarOf_28 (fun H locs hR hS => ?_)
      obtain ⟨x11, ex11, h⟩ := lt_e h
      refine lv_iinc (v := x11) (lv' := [(3, .int x11), (0, .ref (α 54)), (1, .int v1), (2, .int v2)]) hx hb dX11_jarOf_29 hl (k := 3) rfl (by rw [ex11]; rfl) (by decide) rfl (fun ls hl => ?_)
      refine lv_goto (tgt := 2) hx hb dX11_jarOf_32 (by decide) ?_
      exact ih _ _ _ _ _  hR hS (lv_sub hl [1, 2, 3, 0] rfl) h

set_option maxHeartbeats 4000000 in
set_option maxRecDepth 100000 in
theorem c_X11_jarOf (l : Launch) {E : En} {α : Nat → Nat} {g : Nat × Nat} {v1 : Int32} {v2 : Int32} {S : St}  {z : Int32 × St} (h : f_X11_jarOf v1 v2 S = some z) : Met l yX11_jarOf (wsY yX11_jarOf cX11_jarOf 4 (some .int)) rm_X11_jarOf (va_Pc [.ref (α 54), .int v1, .int v2] (Wd E α g S)) (Qi E α g z) 0 0 E.2.2.1 := by
  refine g_met [.ref (α 54), .int v1, .int v2] (by decide) rfl (Nat.le_of_ble_eq_true rfl) ?_
  intro p e s m below meth c ls C hR hl
  generalize hae : ([.ref (α 54), .int v1, .int v2] : List Value).toArray = args at C ⊢
  have hl : lv_has ls 4 [(0, .ref (α 54)), (1, .int v1), (2, .int v2)] := hl
  obtain ⟨hx, hb, hml, hown, hts, hlk, hrt, hKs⟩ := id C
  have hS : va_S E.2.2.1 s.heap s.heap [] := va_S.rf
  unfold f_X11_jarOf at h
  refine lv_iconst (v := 0) hx hb dX11_jarOf_0 (by decide) ?_
  refine lv_istore_n (lv' := [(3, .int (0 : Int32)), (0, .ref (α 54)), (1, .int v1), (2, .int v2)]) hx hb dX11_jarOf_1 rfl hl (by decide) rfl (fun ls hl => ?_)
  refine w_X11_jarOf_L2 C ?_  _ _ _ _ _ _  hR hS (lv_sub hl [1, 2, 3, 0] rfl) h
  · intro  S12 H locs ls  hR hS hl h
    refine lv_aload_n hx hb dX11_jarOf_35 rfl (lv_at hl 0 rfl) ?_
    refine lv_iload_n hx hb dX11_jarOf_36 rfl (lv_at hl 2 rfl) ?_
    refine lv_aload_n hx hb dX11_jarOf_37 rfl (lv_at hl 0 rfl) ?_
    refine g_getr (t := 67) C hR (k := 54) (j := 22) (live_st (by decide)) rfl rfl (vw11) inl11 (by decide) q965 dX11_jarOf_38 ?_
    refine lv_iload_n hx hb dX11_jarOf_41 rfl (lv_at hl 1 rfl) ?_
    obtain ⟨g13, h⟩ := gd_e h
    refine g_iald C hR (k := 67) (n := 32) (live_st (by decide)) rfl g13 dX11_jarOf_42 ?_
    obtain ⟨r14, S15, hr14, h⟩ := bd_e h
    refine g_cv hS (g_runV C hR hS (k := 54) (As := [.int v2, .int (rd S12 67 (Int32.toNatClampNeg v1))]) (rest := []) (c_X11_layOut l  hr14) (live_st (by decide)) rfl (vw11) m_X11_layOut q1133 ⟨rfl, rfl⟩ ⟨Nat.le_of_ble_eq_true rfl, Nat.le_of_ble_eq_true rfl⟩ rfl hl.1 rfl (Nat.le_of_ble_eq_true rfl) dX11_jarOf_43 ⟨Nat.zero_le _, Nat.zero_le _⟩) (fun H locs hR hS => ?_)
    refine lv_aload_n hx hb dX11_jarOf_46 rfl (lv_at hl 0 rfl) ?_
    obtain ⟨r16, S17, hr16, h⟩ := bd_e h
    refine g_ci hS (g_runV C hR hS (k := 54) (As := []) (rest := []) (c_X11_leastOf l  hr16) (live_st (by decide)) rfl (vw11) m_X11_leastOf q1154 ⟨rfl, rfl⟩ ⟨Nat.le_of_ble_eq_true rfl, Nat.le_of_ble_eq_true rfl⟩ rfl hl.1 rfl (Nat.le_of_ble_eq_true rfl) dX11_jarOf_47 ⟨Nat.zero_le _, Nat.zero_le _⟩) (fun H locs hR hS => ?_)
    exact g_iret C hR hS h dX11_jarOf_50

/-! OneVoiceModel.jarOfAll(I)I -/
abbrev rm_X11_jarOfAll : Room := { frames := 5, cells := 0, slots := 0, locals := 124 }
theorem m_X11_jarOfAll : MV yX11_jarOfAll RX11 cX11_jarOfAll 5 (some .int) 1 := ⟨q1258, q55, q77, q1259, by decide +kernel⟩
def f_X11_jarOfAll_L4 (K32 : St → Option (Int32 × St)) (K45 : Int32 → St → Option (Int32 × St)) (v1 : Int32) : Nat → Int32 → Int32 → St → Option (Int32 × St)
  | 0, _, _, _ => none
  | f + 1, v2, v3, S =>
    if (rd S 54 26) ≤ v3 then
      K45 v2 S
    else
      gd_ (inb v3 16) <|
      bd_ (f_X11_jarOf (rd S 71 (Int32.toNatClampNeg v3)) v1 S) fun r6 S7 =>
      if r6 = (1000000 : Int32) then
        K32  S7
      else
        lt_ (v2 + r6) fun x9 =>
        lt_ (v3 + (1 : Int32)) fun x10 =>
        f_X11_jarOfAll_L4 K32 K45 v1 f x9 x10 S7

def f_X11_jarOfAll (v1 : Int32) (S : St) : Option (Int32 × St) :=
  f_X11_jarOfAll_L4
    (fun  (S11 : St) =>
      some ((-1 : Int32), S11))
    (fun (x12 : Int32) (S13 : St) =>
      some (x12, S13))
    v1 FU (0 : Int32) (0 : Int32) S

set_option maxHeartbeats 4000000 in
set_option maxRecDepth 100000 in
theorem w_X11_jarOfAll_L4 {p : Program} {l : Launch} {e : Env} {s : State} {m : MethodId} {args : Array Value} {below : List Frame} {meth : Method} {c : Code} {E : En} {α : Nat → Nat} {g : Nat × Nat} (C : Cx p s m args meth c RX11 cX11_jarOfAll 5 (some .int) E) {z : Int32 × St} {K32 : St → Option (Int32 × St)} {K45 : Int32 → St → Option (Int32 × St)} {v1 : Int32}
    (hK32 : ∀ (S : St) (H : Heap) (locs : List Loc) (ls : Array Slot), Rp E α g S H → va_S E.2.2.1 s.heap H locs → lv_has ls 5 [] → K32  S = some z → W p l e rm_X11_jarOfAll s m args below meth c H locs 0 0 (MQ below (Qi E α g z) args s 0 0 E.2.2.1) (F0 m 32 ls []))
    (hK45 : ∀ (y2 : Int32) (S : St) (H : Heap) (locs : List Loc) (ls : Array Slot), Rp E α g S H → va_S E.2.2.1 s.heap H locs → lv_has ls 5 [(2, .int y2)] → K45 y2 S = some z → W p l e rm_X11_jarOfAll s m args below meth c H locs 0 0 (MQ below (Qi E α g z) args s 0 0 E.2.2.1) (F0 m 45 ls [])) :
    ∀ (f : Nat) (v2 : Int32) (v3 : Int32) (S : St) (H : Heap) (locs : List Loc) (ls : Array Slot), Rp E α g S H → va_S E.2.2.1 s.heap H locs → lv_has ls 5 [(0, .ref (α 54)), (1, .int v1), (2, .int v2), (3, .int v3)] → f_X11_jarOfAll_L4 K32 K45 v1 f v2 v3 S = some z → W p l e rm_X11_jarOfAll s m args below meth c H locs 0 0 (MQ below (Qi E α g z) args s 0 0 E.2.2.1) (F0 m 4 ls []) := by
  obtain ⟨hx, hb, hml, hown, hts, hlk, hrt, hKs⟩ := id C
  intro f
  induction f with
  | zero =>
    intro v2 v3 S H locs ls  hR hS hl h
    rw [f_X11_jarOfAll_L4] at h
    cases h
  | succ f ih =>
    intro v2 v3 S H locs ls  hR hS hl h
    rw [f_X11_jarOfAll_L4] at h
    refine lv_iload_n hx hb dX11_jarOfAll_4 rfl (lv_at hl 3 rfl) ?_
    refine lv_aload_n hx hb dX11_jarOfAll_5 rfl (lv_at hl 0 rfl) ?_
    refine g_geti C hR (k := 54) (j := 26) (live_st (by decide)) rfl rfl (vw11) inl11 (by decide) q969 dX11_jarOfAll_6 ?_
    refine lv_icmp_ge (tgt := 45) hx hb dX11_jarOfAll_9 (by decide) (fun c4 => ?_) (fun c4 => ?_)
    · have h := ite_t c4 h
      exact hK45 _ _ _ _ _  hR hS (lv_sub hl [2] rfl) h
    · have h := ite_f c4 h
      refine lv_aload_n hx hb dX11_jarOfAll_12 rfl (lv_at hl 0 rfl) ?_
      refine lv_aload_n hx hb dX11_jarOfAll_13 rfl (lv_at hl 0 rfl) ?_
      refine g_getr (t := 71) C hR (k := 54) (j := 27) (live_st (by decide)) rfl rfl (vw11) inl11 (by decide) q970 dX11_jarOfAll_14 ?_
      refine lv_iload_n hx hb dX11_jarOfAll_17 rfl (lv_at hl 3 rfl) ?_
      obtain ⟨g5, h⟩ := gd_e h
      refine g_iald C hR (k := 71) (n := 16) (live_st (by decide)) rfl g5 dX11_jarOfAll_18 ?_
      refine lv_iload_n hx hb dX11_jarOfAll_19 rfl (lv_at hl 1 rfl) ?_
      obtain ⟨r6, S7, hr6, h⟩ := bd_e h
      refine g_ci hS (g_runV C hR hS (k := 54) (As := [.int (rd S 71 (Int32.toNatClampNeg v3)), .int v1]) (rest := []) (c_X11_jarOf l  hr6) (live_st (by decide)) rfl (vw11) m_X11_jarOf q1260 ⟨rfl, rfl⟩ ⟨Nat.le_of_ble_eq_true rfl, Nat.le_of_ble_eq_true rfl⟩ rfl hl.1 rfl (Nat.le_of_ble_eq_true rfl) dX11_jarOfAll_20 ⟨Nat.zero_le _, Nat.zero_le _⟩) (fun H locs hR hS => ?_)
      refine lv_istore (lv' := [(4, .int r6), (0, .ref (α 54)), (1, .int v1), (2, .int v2), (3, .int v3)]) hx hb dX11_jarOfAll_23 hl (by decide) rfl (fun ls hl => ?_)
      refine lv_iload hx hb dX11_jarOfAll_25 (lv_at hl 0 rfl) ?_
      refine lv_ldc (v := 1000000) hx hb hown (hts _ q1137) dX11_jarOfAll_27 ?_
      refine lv_icmp_ne (tgt := 34) hx hb dX11_jarOfAll_29 (by decide) (fun c8 => ?_) (fun c8 => ?_)
      · have h := ite_f c8 h
        refine lv_iload_n hx hb dX11_jarOfAll_34 rfl (lv_at hl 3 rfl) ?_
        refine lv_iload hx hb dX11_jarOfAll_35 (lv_at hl 0 rfl) ?_
        refine lv_iadd hx hb dX11_jarOfAll_37 ?_
        obtain ⟨x9, ex9, h⟩ := lt_e h
        refine g_nmi ex9 ?_
        refine lv_istore_n (lv' := [(2, .int x9), (4, .int r6), (0, .ref (α 54)), (1, .int v1), (3, .int v3)]) hx hb dX11_jarOfAll_38 rfl hl (by decide) rfl (fun ls hl => ?_)
        obtain ⟨x10, ex10, h⟩ := lt_e h
        refine lv_iinc (v := x10) (lv' := [(3, .int x10), (2, .int x9), (4, .int r6), (0, .ref (α 54)), (1, .int v1)]) hx hb dX11_jarOfAll_39 hl (k := 4) rfl (by rw [ex10]; rfl) (by decide) rfl (fun ls hl => ?_)
        refine lv_goto (tgt := 4) hx hb dX11_jarOfAll_42 (by decide) ?_
        exact ih _ _ _ _ _ _  hR hS (lv_sub hl [3, 4, 1, 0] rfl) h
      · have h := ite_t c8 h
        exact hK32  _ _ _ _  hR hS (lv_sub hl [] rfl) h

set_option maxHeartbeats 4000000 in
set_option maxRecDepth 100000 in
theorem c_X11_jarOfAll (l : Launch) {E : En} {α : Nat → Nat} {g : Nat × Nat} {v1 : Int32} {S : St}  {z : Int32 × St} (h : f_X11_jarOfAll v1 S = some z) : Met l yX11_jarOfAll (wsY yX11_jarOfAll cX11_jarOfAll 5 (some .int)) rm_X11_jarOfAll (va_Pc [.ref (α 54), .int v1] (Wd E α g S)) (Qi E α g z) 0 0 E.2.2.1 := by
  refine g_met [.ref (α 54), .int v1] (by decide) rfl (Nat.le_of_ble_eq_true rfl) ?_
  intro p e s m below meth c ls C hR hl
  generalize hae : ([.ref (α 54), .int v1] : List Value).toArray = args at C ⊢
  have hl : lv_has ls 5 [(0, .ref (α 54)), (1, .int v1)] := hl
  obtain ⟨hx, hb, hml, hown, hts, hlk, hrt, hKs⟩ := id C
  have hS : va_S E.2.2.1 s.heap s.heap [] := va_S.rf
  unfold f_X11_jarOfAll at h
  refine lv_iconst (v := 0) hx hb dX11_jarOfAll_0 (by decide) ?_
  refine lv_istore_n (lv' := [(2, .int (0 : Int32)), (0, .ref (α 54)), (1, .int v1)]) hx hb dX11_jarOfAll_1 rfl hl (by decide) rfl (fun ls hl => ?_)
  refine lv_iconst (v := 0) hx hb dX11_jarOfAll_2 (by decide) ?_
  refine lv_istore_n (lv' := [(3, .int (0 : Int32)), (2, .int (0 : Int32)), (0, .ref (α 54)), (1, .int v1)]) hx hb dX11_jarOfAll_3 rfl hl (by decide) rfl (fun ls hl => ?_)
  refine w_X11_jarOfAll_L4 C ?_ ?_  _ _ _ _ _ _ _  hR hS (lv_sub hl [2, 3, 1, 0] rfl) h
  · intro  S11 H locs ls  hR hS hl h
    refine lv_iconst (v := -1) hx hb dX11_jarOfAll_32 (by decide) ?_
    exact g_iret C hR hS h dX11_jarOfAll_33
  · intro x12 S13 H locs ls  hR hS hl h
    refine lv_iload_n hx hb dX11_jarOfAll_45 rfl (lv_at hl 0 rfl) ?_
    exact g_iret C hR hS h dX11_jarOfAll_46

/-! OneVoiceModel.jar(III)I -/
abbrev rm_X11_jar : Room := { frames := 6, cells := 0, slots := 0, locals := 148 }
theorem m_X11_jar : MV yX11_jar RX11 cX11_jar 4 (some .int) 3 := ⟨q1253, q1254, q77, q1255, by decide +kernel⟩
def f_X11_jar (v1 : Int32) (v2 : Int32) (v3 : Int32) (S : St) : Option (Int32 × St) :=
  bd_ (f_X11_isLine v1 S) fun r1 S2 =>
  if r1 = 0 then
    some ((-2 : Int32), S2)
  else
    bd_ (f_X11_in v2 (0 : Int32) (99 : Int32) S2) fun r4 S5 =>
    if r4 = 0 then
      some ((-3 : Int32), S5)
    else
      bd_ (f_X11_in v3 (0 : Int32) (3 : Int32) S5) fun r7 S8 =>
      if r7 = 0 then
        some ((-3 : Int32), S8)
      else
        bd_ (f_X11_canSpeak v1 v2 S8) fun r10 S11 =>
        if r10 = 0 then
          some ((-4 : Int32), S11)
        else
          bd_ (f_X11_jarOfAll v3 S11) fun r13 S14 =>
          some (r13, S14)

set_option maxHeartbeats 4000000 in
set_option maxRecDepth 100000 in
theorem c_X11_jar (l : Launch) {E : En} {α : Nat → Nat} {g : Nat × Nat} {v1 : Int32} {v2 : Int32} {v3 : Int32} {S : St}  {z : Int32 × St} (h : f_X11_jar v1 v2 v3 S = some z) : Met l yX11_jar (wsY yX11_jar cX11_jar 4 (some .int)) rm_X11_jar (va_Pc [.ref (α 54), .int v1, .int v2, .int v3] (Wd E α g S)) (Qi E α g z) 0 0 E.2.2.1 := by
  refine g_met [.ref (α 54), .int v1, .int v2, .int v3] (by decide) rfl (Nat.le_of_ble_eq_true rfl) ?_
  intro p e s m below meth c ls C hR hl
  generalize hae : ([.ref (α 54), .int v1, .int v2, .int v3] : List Value).toArray = args at C ⊢
  have hl : lv_has ls 4 [(0, .ref (α 54)), (1, .int v1), (2, .int v2), (3, .int v3)] := hl
  obtain ⟨hx, hb, hml, hown, hts, hlk, hrt, hKs⟩ := id C
  have hS : va_S E.2.2.1 s.heap s.heap [] := va_S.rf
  unfold f_X11_jar at h
  refine lv_aload_n hx hb dX11_jar_0 rfl (lv_at hl 0 rfl) ?_
  refine lv_iload_n hx hb dX11_jar_1 rfl (lv_at hl 1 rfl) ?_
  obtain ⟨r1, S2, hr1, h⟩ := bd_e h
  refine g_ci hS (g_runV C hR hS (k := 54) (As := [.int v1]) (rest := []) (c_X11_isLine l  hr1) (live_st (by decide)) rfl (vw11) m_X11_isLine q1240 ⟨rfl, rfl⟩ ⟨Nat.le_of_ble_eq_true rfl, Nat.le_of_ble_eq_true rfl⟩ rfl hl.1 rfl (Nat.le_of_ble_eq_true rfl) dX11_jar_2 ⟨Nat.zero_le _, Nat.zero_le _⟩) (fun H locs hR hS => ?_)
  refine lv_if_ne (tgt := 11) hx hb dX11_jar_5 (by decide) (fun c3 => ?_) (fun c3 => ?_)
  · have h := ite_f c3 h
    refine lv_iload_n hx hb dX11_jar_11 rfl (lv_at hl 2 rfl) ?_
    refine lv_iconst (v := 0) hx hb dX11_jar_12 (by decide) ?_
    refine lv_bipush (v := 99) hx hb dX11_jar_13 (by decide) ?_
    obtain ⟨r4, S5, hr4, h⟩ := bd_e h
    refine g_ci hS (g_runS C hR hS (As := [.int v2, .int (0 : Int32), .int (99 : Int32)]) (rest := []) (c_X11_in l  hr4) m_X11_in q1093 ⟨rfl, rfl⟩ ⟨Nat.le_of_ble_eq_true rfl, Nat.le_of_ble_eq_true rfl⟩ rfl hl.1 rfl (Nat.le_of_ble_eq_true rfl) dX11_jar_15 ⟨Nat.zero_le _, Nat.zero_le _⟩) (fun H locs hR hS => ?_)
    refine lv_if_eq (tgt := 30) hx hb dX11_jar_18 (by decide) (fun c6 => ?_) (fun c6 => ?_)
    · have h := ite_t c6 h
      refine lv_bipush (v := -3) hx hb dX11_jar_30 (by decide) ?_
      exact g_iret C hR hS h dX11_jar_32
    · have h := ite_f c6 h
      refine lv_iload_n hx hb dX11_jar_21 rfl (lv_at hl 3 rfl) ?_
      refine lv_iconst (v := 0) hx hb dX11_jar_22 (by decide) ?_
      refine lv_iconst (v := 3) hx hb dX11_jar_23 (by decide) ?_
      obtain ⟨r7, S8, hr7, h⟩ := bd_e h
      refine g_ci hS (g_runS C hR hS (As := [.int v3, .int (0 : Int32), .int (3 : Int32)]) (rest := []) (c_X11_in l  hr7) m_X11_in q1093 ⟨rfl, rfl⟩ ⟨Nat.le_of_ble_eq_true rfl, Nat.le_of_ble_eq_true rfl⟩ rfl hl.1 rfl (Nat.le_of_ble_eq_true rfl) dX11_jar_24 ⟨Nat.zero_le _, Nat.zero_le _⟩) (fun H locs hR hS => ?_)
      refine lv_if_ne (tgt := 33) hx hb dX11_jar_27 (by decide) (fun c9 => ?_) (fun c9 => ?_)
      · have h := ite_f c9 h
        refine lv_aload_n hx hb dX11_jar_33 rfl (lv_at hl 0 rfl) ?_
        refine lv_iload_n hx hb dX11_jar_34 rfl (lv_at hl 1 rfl) ?_
        refine lv_iload_n hx hb dX11_jar_35 rfl (lv_at hl 2 rfl) ?_
        obtain ⟨r10, S11, hr10, h⟩ := bd_e h
        refine g_ci hS (g_runV C hR hS (k := 54) (As := [.int v1, .int v2]) (rest := []) (c_X11_canSpeak l  hr10) (live_st (by decide)) rfl (vw11) m_X11_canSpeak q1244 ⟨rfl, rfl⟩ ⟨Nat.le_of_ble_eq_true rfl, Nat.le_of_ble_eq_true rfl⟩ rfl hl.1 rfl (Nat.le_of_ble_eq_true rfl) dX11_jar_36 ⟨Nat.zero_le _, Nat.zero_le _⟩) (fun H locs hR hS => ?_)
        refine lv_if_eq (tgt := 50) hx hb dX11_jar_39 (by decide) (fun c12 => ?_) (fun c12 => ?_)
        · have h := ite_t c12 h
          refine lv_bipush (v := -4) hx hb dX11_jar_50 (by decide) ?_
          exact g_iret C hR hS h dX11_jar_52
        · have h := ite_f c12 h
          refine lv_aload_n hx hb dX11_jar_42 rfl (lv_at hl 0 rfl) ?_
          refine lv_iload_n hx hb dX11_jar_43 rfl (lv_at hl 3 rfl) ?_
          obtain ⟨r13, S14, hr13, h⟩ := bd_e h
          refine g_ci hS (g_runV C hR hS (k := 54) (As := [.int v3]) (rest := []) (c_X11_jarOfAll l  hr13) (live_st (by decide)) rfl (vw11) m_X11_jarOfAll q1256 ⟨rfl, rfl⟩ ⟨Nat.le_of_ble_eq_true rfl, Nat.le_of_ble_eq_true rfl⟩ rfl hl.1 rfl (Nat.le_of_ble_eq_true rfl) dX11_jar_44 ⟨Nat.zero_le _, Nat.zero_le _⟩) (fun H locs hR hS => ?_)
          refine lv_goto (tgt := 52) hx hb dX11_jar_47 (by decide) ?_
          exact g_iret C hR hS h dX11_jar_52
      · have h := ite_t c9 h
        refine lv_bipush (v := -3) hx hb dX11_jar_30 (by decide) ?_
        exact g_iret C hR hS h dX11_jar_32
  · have h := ite_t c3 h
    refine lv_bipush (v := -2) hx hb dX11_jar_8 (by decide) ?_
    exact g_iret C hR hS h dX11_jar_10

/-! OneVoiceModel.isPlatform(I)Z -/
abbrev rm_X11_isPlatform : Room := { frames := 1, cells := 0, slots := 0, locals := 22 }
theorem m_X11_isPlatform : MS yX11_isPlatform cX11_isPlatform 1 (some .boolean) 1 := ⟨q1269, q77, q1270, by decide +kernel⟩
def f_X11_isPlatform (v0 : Int32) (S : St) : Option (Int32 × St) :=
  bd_ (f_X11_in v0 (0 : Int32) (5 : Int32) S) fun r1 S2 =>
  gd_ (bz r1) <| some (r1, S2)

set_option maxHeartbeats 4000000 in
set_option maxRecDepth 100000 in
theorem c_X11_isPlatform (l : Launch) {E : En} {α : Nat → Nat} {g : Nat × Nat} {v0 : Int32} {S : St}  {z : Int32 × St} (h : f_X11_isPlatform v0 S = some z) : Met l yX11_isPlatform (wsY yX11_isPlatform cX11_isPlatform 1 (some .boolean)) rm_X11_isPlatform (va_Pc [.int v0] (Wd E α g S)) (Qi E α g z) 0 0 E.2.2.1 := by
  refine g_met [.int v0] (by decide) rfl (Nat.le_of_ble_eq_true rfl) ?_
  intro p e s m below meth c ls C hR hl
  generalize hae : ([.int v0] : List Value).toArray = args at C ⊢
  have hl : lv_has ls 1 [(0, .int v0)] := hl
  obtain ⟨hx, hb, hml, hown, hts, hlk, hrt, hKs⟩ := id C
  have hS : va_S E.2.2.1 s.heap s.heap [] := va_S.rf
  unfold f_X11_isPlatform at h
  refine lv_iload_n hx hb dX11_isPlatform_0 rfl (lv_at hl 0 rfl) ?_
  refine lv_iconst (v := 0) hx hb dX11_isPlatform_1 (by decide) ?_
  refine lv_iconst (v := 5) hx hb dX11_isPlatform_2 (by decide) ?_
  obtain ⟨r1, S2, hr1, h⟩ := bd_e h
  refine g_ci hS (g_runS C hR hS (As := [.int v0, .int (0 : Int32), .int (5 : Int32)]) (rest := []) (c_X11_in l  hr1) m_X11_in q1093 ⟨rfl, rfl⟩ ⟨Nat.le_of_ble_eq_true rfl, Nat.le_of_ble_eq_true rfl⟩ rfl hl.1 rfl (Nat.le_of_ble_eq_true rfl) dX11_isPlatform_3 ⟨Nat.zero_le _, Nat.zero_le _⟩) (fun H locs hR hS => ?_)
  obtain ⟨hz, h⟩ := gd_e h
  exact g_zret C hR hS hz h dX11_isPlatform_6

/-! OneVoiceModel.call(IIIIIZ)I -/
abbrev rm_X11_call : Room := { frames := 2, cells := 0, slots := 0, locals := 43 }
theorem m_X11_call : MV yX11_call RX11 cX11_call 7 (some .int) 6 := ⟨q1265, q1266, q77, q1267, by decide +kernel⟩
def f_X11_call (v1 : Int32) (v2 : Int32) (v3 : Int32) (v4 : Int32) (v5 : Int32) (v6 : Int32) (S : St) : Option (Int32 × St) :=
  bd_ (f_X11_isPlatform v1 S) fun r12 S13 =>
  if r12 = 0 then
    some ((-2 : Int32), S13)
  else
    bd_ (f_X11_isLine v2 S13) fun r15 S16 =>
    if r15 = 0 then
      some ((-2 : Int32), S16)
    else
      bd_ (f_X11_in v3 (0 : Int32) (99 : Int32) S16) fun r18 S19 =>
      if r18 = 0 then
        some ((-3 : Int32), S19)
      else
        bd_ (f_X11_in v4 (0 : Int32) (2000 : Int32) S19) fun r21 S22 =>
        if r21 = 0 then
          some ((-3 : Int32), S22)
        else
          bd_ (f_X11_in v5 (v4 + (1 : Int32)) (3000 : Int32) S22) fun r24 S25 =>
          if r24 = 0 then
            some ((-3 : Int32), S25)
          else
            if (rd S25 54 32) = (24 : Int32) then
              some ((-5 : Int32), S25)
            else
              gd_ (inb (rd S25 54 32) 24) <|
              lt_ (wr S25 75 (Int32.toNatClampNeg (rd S25 54 32)) v1) fun S28 =>
              gd_ (inb (rd S28 54 32) 24) <|
              lt_ (wr S28 76 (Int32.toNatClampNeg (rd S28 54 32)) v2) fun S30 =>
              gd_ (inb (rd S30 54 32) 24) <|
              lt_ (wr S30 77 (Int32.toNatClampNeg (rd S30 54 32)) v3) fun S32 =>
              gd_ (inb (rd S32 54 32) 24) <|
              lt_ (wr S32 78 (Int32.toNatClampNeg (rd S32 54 32)) v4) fun S34 =>
              gd_ (inb (rd S34 54 32) 24) <|
              lt_ (wr S34 79 (Int32.toNatClampNeg (rd S34 54 32)) v5) fun S36 =>
              gd_ (inb (rd S36 54 32) 24) <|
              gd_ (bz v6) <|
              lt_ (wr S36 80 (Int32.toNatClampNeg (rd S36 54 32)) v6) fun S38 =>
              gd_ (inb (rd S38 54 32) 24) <|
              lt_ (wr S38 81 (Int32.toNatClampNeg (rd S38 54 32)) (0 : Int32)) fun S41 =>
              gd_ (inb (rd S41 54 32) 24) <|
              lt_ (wr S41 82 (Int32.toNatClampNeg (rd S41 54 32)) (0 : Int32)) fun S43 =>
              gd_ (inb (rd S43 54 32) 24) <|
              lt_ (wr S43 83 (Int32.toNatClampNeg (rd S43 54 32)) (-1 : Int32)) fun S45 =>
              gd_ (inb (rd S45 54 32) 24) <|
              lt_ (wr S45 84 (Int32.toNatClampNeg (rd S45 54 32)) (0 : Int32)) fun S47 =>
              lt_ (wr S47 54 32 ((rd S47 54 32) + (1 : Int32))) fun S49 =>
              some (((rd S49 54 32) - (1 : Int32)), S49)

set_option maxHeartbeats 4000000 in
set_option maxRecDepth 100000 in
theorem c_X11_call (l : Launch) {E : En} {α : Nat → Nat} {g : Nat × Nat} {v1 : Int32} {v2 : Int32} {v3 : Int32} {v4 : Int32} {v5 : Int32} {v6 : Int32} {S : St}  {z : Int32 × St} (h : f_X11_call v1 v2 v3 v4 v5 v6 S = some z) : Met l yX11_call (wsY yX11_call cX11_call 7 (some .int)) rm_X11_call (va_Pc [.ref (α 54), .int v1, .int v2, .int v3, .int v4, .int v5, .int v6] (Wd E α g S)) (Qi E α g z) 0 0 E.2.2.1 := by
  refine g_met [.ref (α 54), .int v1, .int v2, .int v3, .int v4, .int v5, .int v6] (by decide) rfl (Nat.le_of_ble_eq_true rfl) ?_
  intro p e s m below meth c ls C hR hl
  generalize hae : ([.ref (α 54), .int v1, .int v2, .int v3, .int v4, .int v5, .int v6] : List Value).toArray = args at C ⊢
  have hl : lv_has ls 7 [(0, .ref (α 54)), (1, .int v1), (2, .int v2), (3, .int v3), (4, .int v4), (5, .int v5), (6, .int v6)] := hl
  obtain ⟨hx, hb, hml, hown, hts, hlk, hrt, hKs⟩ := id C
  have hS : va_S E.2.2.1 s.heap s.heap [] := va_S.rf
  unfold f_X11_call at h
  refine lv_iload_n hx hb dX11_call_0 rfl (lv_at hl 1 rfl) ?_
  obtain ⟨r12, S13, hr12, h⟩ := bd_e h
  refine g_ci hS (g_runS C hR hS (As := [.int v1]) (rest := []) (c_X11_isPlatform l  hr12) m_X11_isPlatform q1268 ⟨rfl, rfl⟩ ⟨Nat.le_of_ble_eq_true rfl, Nat.le_of_ble_eq_true rfl⟩ rfl hl.1 rfl (Nat.le_of_ble_eq_true rfl) dX11_call_1 ⟨Nat.zero_le _, Nat.zero_le _⟩) (fun H locs hR hS => ?_)
  refine lv_if_eq (tgt := 15) hx hb dX11_call_4 (by decide) (fun c14 => ?_) (fun c14 => ?_)
  · have h := ite_t c14 h
    refine lv_bipush (v := -2) hx hb dX11_call_15 (by decide) ?_
    exact g_iret C hR hS h dX11_call_17
  · have h := ite_f c14 h
    refine lv_aload_n hx hb dX11_call_7 rfl (lv_at hl 0 rfl) ?_
    refine lv_iload_n hx hb dX11_call_8 rfl (lv_at hl 2 rfl) ?_
    obtain ⟨r15, S16, hr15, h⟩ := bd_e h
    refine g_ci hS (g_runV C hR hS (k := 54) (As := [.int v2]) (rest := []) (c_X11_isLine l  hr15) (live_st (by decide)) rfl (vw11) m_X11_isLine q1240 ⟨rfl, rfl⟩ ⟨Nat.le_of_ble_eq_true rfl, Nat.le_of_ble_eq_true rfl⟩ rfl hl.1 rfl (Nat.le_of_ble_eq_true rfl) dX11_call_9 ⟨Nat.zero_le _, Nat.zero_le _⟩) (fun H locs hR hS => ?_)
    refine lv_if_ne (tgt := 18) hx hb dX11_call_12 (by decide) (fun c17 => ?_) (fun c17 => ?_)
    · have h := ite_f c17 h
      refine lv_iload_n hx hb dX11_call_18 rfl (lv_at hl 3 rfl) ?_
      refine lv_iconst (v := 0) hx hb dX11_call_19 (by decide) ?_
      refine lv_bipush (v := 99) hx hb dX11_call_20 (by decide) ?_
      obtain ⟨r18, S19, hr18, h⟩ := bd_e h
      refine g_ci hS (g_runS C hR hS (As := [.int v3, .int (0 : Int32), .int (99 : Int32)]) (rest := []) (c_X11_in l  hr18) m_X11_in q1093 ⟨rfl, rfl⟩ ⟨Nat.le_of_ble_eq_true rfl, Nat.le_of_ble_eq_true rfl⟩ rfl hl.1 rfl (Nat.le_of_ble_eq_true rfl) dX11_call_22 ⟨Nat.zero_le _, Nat.zero_le _⟩) (fun H locs hR hS => ?_)
      refine lv_if_eq (tgt := 55) hx hb dX11_call_25 (by decide) (fun c20 => ?_) (fun c20 => ?_)
      · have h := ite_t c20 h
        refine lv_bipush (v := -3) hx hb dX11_call_55 (by decide) ?_
        exact g_iret C hR hS h dX11_call_57
      · have h := ite_f c20 h
        refine lv_iload hx hb dX11_call_28 (lv_at hl 4 rfl) ?_
        refine lv_iconst (v := 0) hx hb dX11_call_30 (by decide) ?_
        refine lv_sipush (v := 2000) hx hb dX11_call_31 (by decide) ?_
        obtain ⟨r21, S22, hr21, h⟩ := bd_e h
        refine g_ci hS (g_runS C hR hS (As := [.int v4, .int (0 : Int32), .int (2000 : Int32)]) (rest := []) (c_X11_in l  hr21) m_X11_in q1093 ⟨rfl, rfl⟩ ⟨Nat.le_of_ble_eq_true rfl, Nat.le_of_ble_eq_true rfl⟩ rfl hl.1 rfl (Nat.le_of_ble_eq_true rfl) dX11_call_34 ⟨Nat.zero_le _, Nat.zero_le _⟩) (fun H locs hR hS => ?_)
        refine lv_if_eq (tgt := 55) hx hb dX11_call_37 (by decide) (fun c23 => ?_) (fun c23 => ?_)
        · have h := ite_t c23 h
          refine lv_bipush (v := -3) hx hb dX11_call_55 (by decide) ?_
          exact g_iret C hR hS h dX11_call_57
        · have h := ite_f c23 h
          refine lv_iload hx hb dX11_call_40 (lv_at hl 5 rfl) ?_
          refine lv_iload hx hb dX11_call_42 (lv_at hl 4 rfl) ?_
          refine lv_iconst (v := 1) hx hb dX11_call_44 (by decide) ?_
          refine lv_iadd hx hb dX11_call_45 ?_
          refine lv_sipush (v := 3000) hx hb dX11_call_46 (by decide) ?_
          obtain ⟨r24, S25, hr24, h⟩ := bd_e h
          refine g_ci hS (g_runS C hR hS (As := [.int v5, .int (v4 + (1 : Int32)), .int (3000 : Int32)]) (rest := []) (c_X11_in l  hr24) m_X11_in q1093 ⟨rfl, rfl⟩ ⟨Nat.le_of_ble_eq_true rfl, Nat.le_of_ble_eq_true rfl⟩ rfl hl.1 rfl (Nat.le_of_ble_eq_true rfl) dX11_call_49 ⟨Nat.zero_le _, Nat.zero_le _⟩) (fun H locs hR hS => ?_)
          refine lv_if_ne (tgt := 58) hx hb dX11_call_52 (by decide) (fun c26 => ?_) (fun c26 => ?_)
          · have h := ite_f c26 h
            refine lv_aload_n hx hb dX11_call_58 rfl (lv_at hl 0 rfl) ?_
            refine g_geti C hR (k := 54) (j := 32) (live_st (by decide)) rfl rfl (vw11) inl11 (by decide) q975 dX11_call_59 ?_
            refine lv_bipush (v := 24) hx hb dX11_call_62 (by decide) ?_
            refine lv_icmp_ne (tgt := 70) hx hb dX11_call_64 (by decide) (fun c27 => ?_) (fun c27 => ?_)
            · have h := ite_f c27 h
              refine lv_aload_n hx hb dX11_call_70 rfl (lv_at hl 0 rfl) ?_
              refine g_getr (t := 75) C hR (k := 54) (j := 33) (live_st (by decide)) rfl rfl (vw11) inl11 (by decide) q976 dX11_call_71 ?_
              refine lv_aload_n hx hb dX11_call_74 rfl (lv_at hl 0 rfl) ?_
              refine g_geti C hR (k := 54) (j := 32) (live_st (by decide)) rfl rfl (vw11) inl11 (by decide) q975 dX11_call_75 ?_
              refine lv_iload_n hx hb dX11_call_78 rfl (lv_at hl 1 rfl) ?_
              obtain ⟨g29, h⟩ := gd_e h
              obtain ⟨S28, eS28, h⟩ := lt_e h
              refine g_iast C hR hS (k := 75) (n := 24) (live_st (by decide)) rfl g29 eS28 dX11_call_79 (fun H locs hR hS => ?_)
              refine lv_aload_n hx hb dX11_call_80 rfl (lv_at hl 0 rfl) ?_
              refine g_getr (t := 76) C hR (k := 54) (j := 34) (live_st (by decide)) rfl rfl (vw11) inl11 (by decide) q977 dX11_call_81 ?_
              refine lv_aload_n hx hb dX11_call_84 rfl (lv_at hl 0 rfl) ?_
              refine g_geti C hR (k := 54) (j := 32) (live_st (by decide)) rfl rfl (vw11) inl11 (by decide) q975 dX11_call_85 ?_
              refine lv_iload_n hx hb dX11_call_88 rfl (lv_at hl 2 rfl) ?_
              obtain ⟨g31, h⟩ := gd_e h
              obtain ⟨S30, eS30, h⟩ := lt_e h
              refine g_iast C hR hS (k := 76) (n := 24) (live_st (by decide)) rfl g31 eS30 dX11_call_89 (fun H locs hR hS => ?_)
              refine lv_aload_n hx hb dX11_call_90 rfl (lv_at hl 0 rfl) ?_
              refine g_getr (t := 77) C hR (k := 54) (j := 35) (live_st (by decide)) rfl rfl (vw11) inl11 (by decide) q978 dX11_call_91 ?_
              refine lv_aload_n hx hb dX11_call_94 rfl (lv_at hl 0 rfl) ?_
              refine g_geti C hR (k := 54) (j := 32) (live_st (by decide)) rfl rfl (vw11) inl11 (by decide) q975 dX11_call_95 ?_
              refine lv_iload_n hx hb dX11_call_98 rfl (lv_at hl 3 rfl) ?_
              obtain ⟨g33, h⟩ := gd_e h
              obtain ⟨S32, eS32, h⟩ := lt_e h
              refine g_iast C hR hS (k := 77) (n := 24) (live_st (by decide)) rfl g33 eS32 dX11_call_99 (fun H locs hR hS => ?_)
              refine lv_aload_n hx hb dX11_call_100 rfl (lv_at hl 0 rfl) ?_
              refine g_getr (t := 78) C hR (k := 54) (j := 36) (live_st (by decide)) rfl rfl (vw11) inl11 (by decide) q979 dX11_call_101 ?_
              refine lv_aload_n hx hb dX11_call_104 rfl (lv_at hl 0 rfl) ?_
              refine g_geti C hR (k := 54) (j := 32) (live_st (by decide)) rfl rfl (vw11) inl11 (by decide) q975 dX11_call_105 ?_
              refine lv_iload hx hb dX11_call_108 (lv_at hl 4 rfl) ?_
              obtain ⟨g35, h⟩ := gd_e h
              obtain ⟨S34, eS34, h⟩ := lt_e h
              refine g_iast C hR hS (k := 78) (n := 24) (live_st (by decide)) rfl g35 eS34 dX11_call_110 (fun H locs hR hS => ?_)
              refine lv_aload_n hx hb dX11_call_111 rfl (lv_at hl 0 rfl) ?_
              refine g_getr (t := 79) C hR (k := 54) (j := 37) (live_st (by decide)) rfl rfl (vw11) inl11 (by decide) q980 dX11_call_112 ?_
              refine lv_aload_n hx hb dX11_call_115 rfl (lv_at hl 0 rfl) ?_
              refine g_geti C hR (k := 54) (j := 32) (live_st (by decide)) rfl rfl (vw11) inl11 (by decide) q975 dX11_call_116 ?_
              refine lv_iload hx hb dX11_call_119 (lv_at hl 5 rfl) ?_
              obtain ⟨g37, h⟩ := gd_e h
              obtain ⟨S36, eS36, h⟩ := lt_e h
              refine g_iast C hR hS (k := 79) (n := 24) (live_st (by decide)) rfl g37 eS36 dX11_call_121 (fun H locs hR hS => ?_)
              refine lv_aload_n hx hb dX11_call_122 rfl (lv_at hl 0 rfl) ?_
              refine g_getr (t := 80) C hR (k := 54) (j := 38) (live_st (by decide)) rfl rfl (vw11) inl11 (by decide) q981 dX11_call_123 ?_
              refine lv_aload_n hx hb dX11_call_126 rfl (lv_at hl 0 rfl) ?_
              refine g_geti C hR (k := 54) (j := 32) (live_st (by decide)) rfl rfl (vw11) inl11 (by decide) q975 dX11_call_127 ?_
              refine lv_iload hx hb dX11_call_130 (lv_at hl 6 rfl) ?_
              obtain ⟨g39, h⟩ := gd_e h
              obtain ⟨g40, h⟩ := gd_e h
              obtain ⟨S38, eS38, h⟩ := lt_e h
              refine g_zast C hR hS (k := 80) (n := 24) (live_st (by decide)) rfl g39 g40 eS38 dX11_call_132 (fun H locs hR hS => ?_)
              refine lv_aload_n hx hb dX11_call_133 rfl (lv_at hl 0 rfl) ?_
              refine g_getr (t := 81) C hR (k := 54) (j := 39) (live_st (by decide)) rfl rfl (vw11) inl11 (by decide) q982 dX11_call_134 ?_
              refine lv_aload_n hx hb dX11_call_137 rfl (lv_at hl 0 rfl) ?_
              refine g_geti C hR (k := 54) (j := 32) (live_st (by decide)) rfl rfl (vw11) inl11 (by decide) q975 dX11_call_138 ?_
              refine lv_iconst (v := 0) hx hb dX11_call_141 (by decide) ?_
              obtain ⟨g42, h⟩ := gd_e h
              obtain ⟨S41, eS41, h⟩ := lt_e h
              refine g_iast C hR hS (k := 81) (n := 24) (live_st (by decide)) rfl g42 eS41 dX11_call_142 (fun H locs hR hS => ?_)
              refine lv_aload_n hx hb dX11_call_143 rfl (lv_at hl 0 rfl) ?_
              refine g_getr (t := 82) C hR (k := 54) (j := 40) (live_st (by decide)) rfl rfl (vw11) inl11 (by decide) q983 dX11_call_144 ?_
              refine lv_aload_n hx hb dX11_call_147 rfl (lv_at hl 0 rfl) ?_
              refine g_geti C hR (k := 54) (j := 32) (live_st (by decide)) rfl rfl (vw11) inl11 (by decide) q975 dX11_call_148 ?_
              refine lv_iconst (v := 0) hx hb dX11_call_151 (by decide) ?_
              obtain ⟨g44, h⟩ := gd_e h
              obtain ⟨S43, eS43, h⟩ := lt_e h
              refine g_iast C hR hS (k := 82) (n := 24) (live_st (by decide)) rfl g44 eS43 dX11_call_152 (fun H locs hR hS => ?_)
              refine lv_aload_n hx hb dX11_call_153 rfl (lv_at hl 0 rfl) ?_
              refine g_getr (t := 83) C hR (k := 54) (j := 41) (live_st (by decide)) rfl rfl (vw11) inl11 (by decide) q984 dX11_call_154 ?_
              refine lv_aload_n hx hb dX11_call_157 rfl (lv_at hl 0 rfl) ?_
              refine g_geti C hR (k := 54) (j := 32) (live_st (by decide)) rfl rfl (vw11) inl11 (by decide) q975 dX11_call_158 ?_
              refine lv_iconst (v := -1) hx hb dX11_call_161 (by decide) ?_
              obtain ⟨g46, h⟩ := gd_e h
              obtain ⟨S45, eS45, h⟩ := lt_e h
              refine g_iast C hR hS (k := 83) (n := 24) (live_st (by decide)) rfl g46 eS45 dX11_call_162 (fun H locs hR hS => ?_)
              refine lv_aload_n hx hb dX11_call_163 rfl (lv_at hl 0 rfl) ?_
              refine g_getr (t := 84) C hR (k := 54) (j := 42) (live_st (by decide)) rfl rfl (vw11) inl11 (by decide) q985 dX11_call_164 ?_
              refine lv_aload_n hx hb dX11_call_167 rfl (lv_at hl 0 rfl) ?_
              refine g_geti C hR (k := 54) (j := 32) (live_st (by decide)) rfl rfl (vw11) inl11 (by decide) q975 dX11_call_168 ?_
              refine lv_iconst (v := 0) hx hb dX11_call_171 (by decide) ?_
              obtain ⟨g48, h⟩ := gd_e h
              obtain ⟨S47, eS47, h⟩ := lt_e h
              refine g_zast C hR hS (k := 84) (n := 24) (live_st (by decide)) rfl g48 bz0 eS47 dX11_call_172 (fun H locs hR hS => ?_)
              refine lv_aload_n hx hb dX11_call_173 rfl (lv_at hl 0 rfl) ?_
              refine lv_dup hx hb dX11_call_174 rfl ?_
              refine g_geti C hR (k := 54) (j := 32) (live_st (by decide)) rfl rfl (vw11) inl11 (by decide) q975 dX11_call_175 ?_
              refine lv_iconst (v := 1) hx hb dX11_call_178 (by decide) ?_
              refine lv_iadd hx hb dX11_call_179 ?_
              obtain ⟨S49, eS49, h⟩ := lt_e h
              refine g_puti C hR hS (k := 54) (j := 32) (live_st (by decide)) rfl rfl (vw11) inl11 (by decide) (ty0 := tyX11) tyX11_ok nmX11 q975 rfl rfl rfl eS49 dX11_call_180 (fun H locs hR hS => ?_)
              refine lv_aload_n hx hb dX11_call_183 rfl (lv_at hl 0 rfl) ?_
              refine g_geti C hR (k := 54) (j := 32) (live_st (by decide)) rfl rfl (vw11) inl11 (by decide) q975 dX11_call_184 ?_
              refine lv_iconst (v := 1) hx hb dX11_call_187 (by decide) ?_
              refine lv_isub hx hb dX11_call_188 ?_
              exact g_iret C hR hS h dX11_call_189
            · have h := ite_t c27 h
              refine lv_bipush (v := -5) hx hb dX11_call_67 (by decide) ?_
              exact g_iret C hR hS h dX11_call_69
          · have h := ite_t c26 h
            refine lv_bipush (v := -3) hx hb dX11_call_55 (by decide) ?_
            exact g_iret C hR hS h dX11_call_57
    · have h := ite_t c17 h
      refine lv_bipush (v := -2) hx hb dX11_call_15 (by decide) ?_
      exact g_iret C hR hS h dX11_call_17

/-! OneVoiceModel.isNear(II)Z -/
abbrev rm_X11_isNear : Room := { frames := 0, cells := 0, slots := 0, locals := 0 }
theorem m_X11_isNear : MV yX11_isNear RX11 cX11_isNear 3 (some .boolean) 2 := ⟨q1285, q59, q77, q1286, by decide +kernel⟩
def f_X11_isNear (v1 : Int32) (v2 : Int32) (S : St) : Option (Int32 × St) :=
  gd_ (inb v1 24) <|
  gd_ (inb v2 24) <|
  lt_ (fun  (S8 : St) =>
      some ((1 : Int32), S8)) fun J39 =>
  if (rd S 75 (Int32.toNatClampNeg v1)) = (rd S 75 (Int32.toNatClampNeg v2)) then
    J39  S
  else
    gd_ (inb v1 24) <|
    gd_ (inb (rd S 75 (Int32.toNatClampNeg v1)) 6) <|
    gd_ (inb v2 24) <|
    if (((rd S 72 (Int32.toNatClampNeg (rd S 75 (Int32.toNatClampNeg v1)))) >>> ((rd S 75 (Int32.toNatClampNeg v2)) &&& 31)) &&& (1 : Int32)) = (1 : Int32) then
      J39  S
    else
      some ((0 : Int32), S)

set_option maxHeartbeats 4000000 in
set_option maxRecDepth 100000 in
theorem c_X11_isNear (l : Launch) {E : En} {α : Nat → Nat} {g : Nat × Nat} {v1 : Int32} {v2 : Int32} {S : St}  {z : Int32 × St} (h : f_X11_isNear v1 v2 S = some z) : Met l yX11_isNear (wsY yX11_isNear cX11_isNear 3 (some .boolean)) rm_X11_isNear (va_Pc [.ref (α 54), .int v1, .int v2] (Wd E α g S)) (Qi E α g z) 0 0 E.2.2.1 := by
  refine g_met [.ref (α 54), .int v1, .int v2] (by decide) rfl (Nat.le_of_ble_eq_true rfl) ?_
  intro p e s m below meth c ls C hR hl
  generalize hae : ([.ref (α 54), .int v1, .int v2] : List Value).toArray = args at C ⊢
  have hl : lv_has ls 3 [(0, .ref (α 54)), (1, .int v1), (2, .int v2)] := hl
  obtain ⟨hx, hb, hml, hown, hts, hlk, hrt, hKs⟩ := id C
  have hS : va_S E.2.2.1 s.heap s.heap [] := va_S.rf
  unfold f_X11_isNear at h
  refine lv_aload_n hx hb dX11_isNear_0 rfl (lv_at hl 0 rfl) ?_
  refine g_getr (t := 75) C hR (k := 54) (j := 33) (live_st (by decide)) rfl rfl (vw11) inl11 (by decide) q976 dX11_isNear_1 ?_
  refine lv_iload_n hx hb dX11_isNear_4 rfl (lv_at hl 1 rfl) ?_
  obtain ⟨g6, h⟩ := gd_e h
  refine g_iald C hR (k := 75) (n := 24) (live_st (by decide)) rfl g6 dX11_isNear_5 ?_
  refine lv_aload_n hx hb dX11_isNear_6 rfl (lv_at hl 0 rfl) ?_
  refine g_getr (t := 75) C hR (k := 54) (j := 33) (live_st (by decide)) rfl rfl (vw11) inl11 (by decide) q976 dX11_isNear_7 ?_
  refine lv_iload_n hx hb dX11_isNear_10 rfl (lv_at hl 2 rfl) ?_
  obtain ⟨g7, h⟩ := gd_e h
  refine g_iald C hR (k := 75) (n := 24) (live_st (by decide)) rfl g7 dX11_isNear_11 ?_
  obtain ⟨J39, eJ39, h⟩ := lt_e h
  have hJ39 : ∀ (S8 : St) (H : Heap) (locs : List Loc) (ls : Array Slot), Rp E α g S8 H → va_S E.2.2.1 s.heap H locs → lv_has ls 3 [] → J39  S8 = some z → W p l e rm_X11_isNear s m args below meth c H locs 0 0 (MQ below (Qi E α g z) args s 0 0 E.2.2.1) (F0 m 39 ls []) := by
    intro  S8 H locs ls  hR hS hl h
    rw [eJ39] at h
    refine lv_iconst (v := 1) hx hb dX11_isNear_39 (by decide) ?_
    refine lv_goto (tgt := 44) hx hb dX11_isNear_40 (by decide) ?_
    exact g_zret C hR hS bz1 h dX11_isNear_44
  clear eJ39
  refine lv_icmp_eq (tgt := 39) hx hb dX11_isNear_12 (by decide) (fun c9 => ?_) (fun c9 => ?_)
  · have h := ite_t c9 h
    exact hJ39  _ _ _ _  hR hS (lv_sub hl [] rfl) h
  · have h := ite_f c9 h
    refine lv_aload_n hx hb dX11_isNear_15 rfl (lv_at hl 0 rfl) ?_
    refine g_getr (t := 72) C hR (k := 54) (j := 28) (live_st (by decide)) rfl rfl (vw11) inl11 (by decide) q971 dX11_isNear_16 ?_
    refine lv_aload_n hx hb dX11_isNear_19 rfl (lv_at hl 0 rfl) ?_
    refine g_getr (t := 75) C hR (k := 54) (j := 33) (live_st (by decide)) rfl rfl (vw11) inl11 (by decide) q976 dX11_isNear_20 ?_
    refine lv_iload_n hx hb dX11_isNear_23 rfl (lv_at hl 1 rfl) ?_
    obtain ⟨g10, h⟩ := gd_e h
    refine g_iald C hR (k := 75) (n := 24) (live_st (by decide)) rfl g10 dX11_isNear_24 ?_
    obtain ⟨g11, h⟩ := gd_e h
    refine g_iald C hR (k := 72) (n := 6) (live_st (by decide)) rfl g11 dX11_isNear_25 ?_
    refine lv_aload_n hx hb dX11_isNear_26 rfl (lv_at hl 0 rfl) ?_
    refine g_getr (t := 75) C hR (k := 54) (j := 33) (live_st (by decide)) rfl rfl (vw11) inl11 (by decide) q976 dX11_isNear_27 ?_
    refine lv_iload_n hx hb dX11_isNear_30 rfl (lv_at hl 2 rfl) ?_
    obtain ⟨g12, h⟩ := gd_e h
    refine g_iald C hR (k := 75) (n := 24) (live_st (by decide)) rfl g12 dX11_isNear_31 ?_
    refine lv_ishr hx hb dX11_isNear_32 ?_
    refine lv_iconst (v := 1) hx hb dX11_isNear_33 (by decide) ?_
    refine lv_iand hx hb dX11_isNear_34 ?_
    refine lv_iconst (v := 1) hx hb dX11_isNear_35 (by decide) ?_
    refine lv_icmp_ne (tgt := 43) hx hb dX11_isNear_36 (by decide) (fun c13 => ?_) (fun c13 => ?_)
    · have h := ite_f c13 h
      refine lv_iconst (v := 0) hx hb dX11_isNear_43 (by decide) ?_
      exact g_zret C hR hS bz0 h dX11_isNear_44
    · have h := ite_t c13 h
      exact hJ39  _ _ _ _  hR hS (lv_sub hl [] rfl) h
