/-! OneVoiceModel.speaks(I)I -/
abbrev rm_X11_speaks : Room := { frames := 2, cells := 0, slots := 0, locals := 42 }
theorem m_X11_speaks : MV yX11_speaks RX11 cX11_speaks 4 (some .int) 1 := ⟨q1300, q1301, q77, q1302, by decide +kernel⟩
def f_X11_speaks_L14 (K54 : Int32 → St → Option (Int32 × St)) (v1 : Int32) : Nat → Int32 → Int32 → St → Option (Int32 × St)
  | 0, _, _, _ => none
  | f + 1, v2, v3, S =>
    if (rd S 54 32) ≤ v3 then
      K54 v2 S
    else
      gd_ (inb v3 24) <|
      lt_ (fun (t9 : Int32) (S10 : St) =>
          lt_ (v3 + (1 : Int32)) fun x11 =>
          f_X11_speaks_L14 K54 v1 f t9 x11 S10) fun J47 =>
      lt_ (fun  (S12 : St) =>
          J47 v2 S12) fun J46 =>
      if (rd S 81 (Int32.toNatClampNeg v3)) = (1 : Int32) then
        gd_ (inb v3 24) <|
        if (rd S 75 (Int32.toNatClampNeg v3)) = v1 then
          J47 v3 S
        else
          J46  S
      else
        J46  S

def f_X11_speaks (v1 : Int32) (S : St) : Option (Int32 × St) :=
  bd_ (f_X11_isPlatform v1 S) fun r4 S5 =>
  if r4 = 0 then
    some ((-2 : Int32), S5)
  else
    f_X11_speaks_L14
      (fun (x16 : Int32) (S17 : St) =>
        some (x16, S17))
      v1 FU (-1 : Int32) (0 : Int32) S5

set_option maxHeartbeats 4000000 in
set_option maxRecDepth 100000 in
theorem w_X11_speaks_L14 {p : Program} {l : Launch} {e : Env} {s : State} {m : MethodId} {args : Array Value} {below : List Frame} {meth : Method} {c : Code} {E : En} {α : Nat → Nat} {g : Nat × Nat} (C : Cx p s m args meth c RX11 cX11_speaks 4 (some .int) E) {z : Int32 × St} {K54 : Int32 → St → Option (Int32 × St)} {v1 : Int32}
    (hK54 : ∀ (y2 : Int32) (S : St) (H : Heap) (locs : List Loc) (ls : Array Slot), Rp E α g S H → va_S E.2.2.1 s.heap H locs → lv_has ls 4 [(2, .int y2)] → K54 y2 S = some z → W p l e rm_X11_speaks s m args below meth c H locs 0 0 (MQ below (Qi E α g z) args s 0 0 E.2.2.1) (F0 m 54 ls [])) :
    ∀ (f : Nat) (v2 : Int32) (v3 : Int32) (S : St) (H : Heap) (locs : List Loc) (ls : Array Slot), Rp E α g S H → va_S E.2.2.1 s.heap H locs → lv_has ls 4 [(0, .ref (α 54)), (1, .int v1), (2, .int v2), (3, .int v3)] → f_X11_speaks_L14 K54 v1 f v2 v3 S = some z → W p l e rm_X11_speaks s m args below meth c H locs 0 0 (MQ below (Qi E α g z) args s 0 0 E.2.2.1) (F0 m 14 ls []) := by
  obtain ⟨hx, hb, hml, hown, hts, hlk, hrt, hKs⟩ := id C
  intro f
  induction f with
  | zero =>
    intro v2 v3 S H locs ls  hR hS hl h
    rw [f_X11_speaks_L14] at h
    cases h
  | succ f ih =>
    intro v2 v3 S H locs ls  hR hS hl h
    rw [f_X11_speaks_L14] at h
    refine lv_iload_n hx hb dX11_speaks_14 rfl (lv_at hl 3 rfl) ?_
    refine lv_aload_n hx hb dX11_speaks_15 rfl (lv_at hl 0 rfl) ?_
    refine g_geti C hR (k := 54) (j := 32) (live_st (by decide)) rfl rfl (vw11) inl11 (by decide) q975 dX11_speaks_16 ?_
    refine lv_icmp_ge (tgt := 54) hx hb dX11_speaks_19 (by decide) (fun c7 => ?_) (fun c7 => ?_)
    · have h := ite_t c7 h
      exact hK54 _ _ _ _ _  hR hS (lv_sub hl [2] rfl) h
    · have h := ite_f c7 h
      refine lv_aload_n hx hb dX11_speaks_22 rfl (lv_at hl 0 rfl) ?_
      refine g_getr (t := 81) C hR (k := 54) (j := 39) (live_st (by decide)) rfl rfl (vw11) inl11 (by decide) q982 dX11_speaks_23 ?_
      refine lv_iload_n hx hb dX11_speaks_26 rfl (lv_at hl 3 rfl) ?_
      obtain ⟨g8, h⟩ := gd_e h
      refine g_iald C hR (k := 81) (n := 24) (live_st (by decide)) rfl g8 dX11_speaks_27 ?_
      refine lv_iconst (v := 1) hx hb dX11_speaks_28 (by decide) ?_
      obtain ⟨J47, eJ47, h⟩ := lt_e h
      have hJ47 : ∀ (t9 : Int32) (S10 : St) (H : Heap) (locs : List Loc) (ls : Array Slot), Rp E α g S10 H → va_S E.2.2.1 s.heap H locs → lv_has ls 4 [(0, .ref (α 54)), (1, .int v1), (3, .int v3)] → J47 t9 S10 = some z → W p l e rm_X11_speaks s m args below meth c H locs 0 0 (MQ below (Qi E α g z) args s 0 0 E.2.2.1) (F0 m 47 ls [.int t9]) := by
        intro t9 S10 H locs ls  hR hS hl h
        rw [eJ47] at h
        refine lv_istore_n (lv' := [(2, .int t9), (0, .ref (α 54)), (1, .int v1), (3, .int v3)]) hx hb dX11_speaks_47 rfl hl (by decide) rfl (fun ls hl => ?_)
        obtain ⟨x11, ex11, h⟩ := lt_e h
        refine lv_iinc (v := x11) (lv' := [(3, .int x11), (2, .int t9), (0, .ref (α 54)), (1, .int v1)]) hx hb dX11_speaks_48 hl (k := 3) rfl (by rw [ex11]; rfl) (by decide) rfl (fun ls hl => ?_)
        refine lv_goto (tgt := 14) hx hb dX11_speaks_51 (by decide) ?_
        exact ih _ _ _ _ _ _  hR hS (lv_sub hl [2, 3, 1, 0] rfl) h
      clear eJ47
      obtain ⟨J46, eJ46, h⟩ := lt_e h
      have hJ46 : ∀ (S12 : St) (H : Heap) (locs : List Loc) (ls : Array Slot), Rp E α g S12 H → va_S E.2.2.1 s.heap H locs → lv_has ls 4 [(0, .ref (α 54)), (1, .int v1), (2, .int v2), (3, .int v3)] → J46  S12 = some z → W p l e rm_X11_speaks s m args below meth c H locs 0 0 (MQ below (Qi E α g z) args s 0 0 E.2.2.1) (F0 m 46 ls []) := by
        intro  S12 H locs ls  hR hS hl h
        rw [eJ46] at h
        refine lv_iload_n hx hb dX11_speaks_46 rfl (lv_at hl 2 rfl) ?_
        exact hJ47 _ _ _ _ _  hR hS (lv_sub hl [0, 1, 3] rfl) h
      clear eJ46
      refine lv_icmp_ne (tgt := 46) hx hb dX11_speaks_29 (by decide) (fun c13 => ?_) (fun c13 => ?_)
      · have h := ite_f c13 h
        exact hJ46  _ _ _ _  hR hS hl h
      · have h := ite_t c13 h
        refine lv_aload_n hx hb dX11_speaks_32 rfl (lv_at hl 0 rfl) ?_
        refine g_getr (t := 75) C hR (k := 54) (j := 33) (live_st (by decide)) rfl rfl (vw11) inl11 (by decide) q976 dX11_speaks_33 ?_
        refine lv_iload_n hx hb dX11_speaks_36 rfl (lv_at hl 3 rfl) ?_
        obtain ⟨g14, h⟩ := gd_e h
        refine g_iald C hR (k := 75) (n := 24) (live_st (by decide)) rfl g14 dX11_speaks_37 ?_
        refine lv_iload_n hx hb dX11_speaks_38 rfl (lv_at hl 1 rfl) ?_
        refine lv_icmp_ne (tgt := 46) hx hb dX11_speaks_39 (by decide) (fun c15 => ?_) (fun c15 => ?_)
        · have h := ite_f c15 h
          exact hJ46  _ _ _ _  hR hS hl h
        · have h := ite_t c15 h
          refine lv_iload_n hx hb dX11_speaks_42 rfl (lv_at hl 3 rfl) ?_
          refine lv_goto (tgt := 47) hx hb dX11_speaks_43 (by decide) ?_
          exact hJ47 _ _ _ _ _  hR hS (lv_sub hl [0, 1, 3] rfl) h

set_option maxHeartbeats 4000000 in
set_option maxRecDepth 100000 in
theorem c_X11_speaks (l : Launch) {E : En} {α : Nat → Nat} {g : Nat × Nat} {v1 : Int32} {S : St}  {z : Int32 × St} (h : f_X11_speaks v1 S = some z) : Met l yX11_speaks (wsY yX11_speaks cX11_speaks 4 (some .int)) rm_X11_speaks (va_Pc [.ref (α 54), .int v1] (Wd E α g S)) (Qi E α g z) 0 0 E.2.2.1 := by
  refine g_met [.ref (α 54), .int v1] (by decide) rfl (Nat.le_of_ble_eq_true rfl) ?_
  intro p e s m below meth c ls C hR hl
  generalize hae : ([.ref (α 54), .int v1] : List Value).toArray = args at C ⊢
  have hl : lv_has ls 4 [(0, .ref (α 54)), (1, .int v1)] := hl
  obtain ⟨hx, hb, hml, hown, hts, hlk, hrt, hKs⟩ := id C
  have hS : va_S E.2.2.1 s.heap s.heap [] := va_S.rf
  unfold f_X11_speaks at h
  refine lv_iload_n hx hb dX11_speaks_0 rfl (lv_at hl 1 rfl) ?_
  obtain ⟨r4, S5, hr4, h⟩ := bd_e h
  refine g_ci hS (g_runS C hR hS (As := [.int v1]) (rest := []) (c_X11_isPlatform l  hr4) m_X11_isPlatform q1268 ⟨rfl, rfl⟩ ⟨Nat.le_of_ble_eq_true rfl, Nat.le_of_ble_eq_true rfl⟩ rfl hl.1 rfl (Nat.le_of_ble_eq_true rfl) dX11_speaks_1 ⟨Nat.zero_le _, Nat.zero_le _⟩) (fun H locs hR hS => ?_)
  refine lv_if_ne (tgt := 10) hx hb dX11_speaks_4 (by decide) (fun c6 => ?_) (fun c6 => ?_)
  · have h := ite_f c6 h
    refine lv_iconst (v := -1) hx hb dX11_speaks_10 (by decide) ?_
    refine lv_istore_n (lv' := [(2, .int (-1 : Int32)), (0, .ref (α 54)), (1, .int v1)]) hx hb dX11_speaks_11 rfl hl (by decide) rfl (fun ls hl => ?_)
    refine lv_iconst (v := 0) hx hb dX11_speaks_12 (by decide) ?_
    refine lv_istore_n (lv' := [(3, .int (0 : Int32)), (2, .int (-1 : Int32)), (0, .ref (α 54)), (1, .int v1)]) hx hb dX11_speaks_13 rfl hl (by decide) rfl (fun ls hl => ?_)
    refine w_X11_speaks_L14 C ?_  _ _ _ _ _ _ _  hR hS (lv_sub hl [2, 3, 1, 0] rfl) h
    · intro x16 S17 H locs ls  hR hS hl h
      refine lv_iload_n hx hb dX11_speaks_54 rfl (lv_at hl 0 rfl) ?_
      exact g_iret C hR hS h dX11_speaks_55
  · have h := ite_t c6 h
    refine lv_bipush (v := -2) hx hb dX11_speaks_7 (by decide) ?_
    exact g_iret C hR hS h dX11_speaks_9

/-! OneVoiceModel.voice(II)I -/
abbrev rm_X11_voice : Room := { frames := 2, cells := 0, slots := 0, locals := 42 }
theorem m_X11_voice : MV yX11_voice RX11 cX11_voice 3 (some .int) 2 := ⟨q1304, q1305, q77, q1306, by decide +kernel⟩
def f_X11_voice (v1 : Int32) (v2 : Int32) (S : St) : Option (Int32 × St) :=
  bd_ (f_X11_isPlatform v1 S) fun r3 S4 =>
  if r3 = 0 then
    some ((-2 : Int32), S4)
  else
    if v2 = 0 then
      gd_ (inb v1 6) <|
      some ((rd S4 73 (Int32.toNatClampNeg v1)), S4)
    else
      if v2 = (1 : Int32) then
        gd_ (inb v1 6) <|
        some ((rd S4 74 (Int32.toNatClampNeg v1)), S4)
      else
        some ((-3 : Int32), S4)

set_option maxHeartbeats 4000000 in
set_option maxRecDepth 100000 in
theorem c_X11_voice (l : Launch) {E : En} {α : Nat → Nat} {g : Nat × Nat} {v1 : Int32} {v2 : Int32} {S : St}  {z : Int32 × St} (h : f_X11_voice v1 v2 S = some z) : Met l yX11_voice (wsY yX11_voice cX11_voice 3 (some .int)) rm_X11_voice (va_Pc [.ref (α 54), .int v1, .int v2] (Wd E α g S)) (Qi E α g z) 0 0 E.2.2.1 := by
  refine g_met [.ref (α 54), .int v1, .int v2] (by decide) rfl (Nat.le_of_ble_eq_true rfl) ?_
  intro p e s m below meth c ls C hR hl
  generalize hae : ([.ref (α 54), .int v1, .int v2] : List Value).toArray = args at C ⊢
  have hl : lv_has ls 3 [(0, .ref (α 54)), (1, .int v1), (2, .int v2)] := hl
  obtain ⟨hx, hb, hml, hown, hts, hlk, hrt, hKs⟩ := id C
  have hS : va_S E.2.2.1 s.heap s.heap [] := va_S.rf
  unfold f_X11_voice at h
  refine lv_iload_n hx hb dX11_voice_0 rfl (lv_at hl 1 rfl) ?_
  obtain ⟨r3, S4, hr3, h⟩ := bd_e h
  refine g_ci hS (g_runS C hR hS (As := [.int v1]) (rest := []) (c_X11_isPlatform l  hr3) m_X11_isPlatform q1268 ⟨rfl, rfl⟩ ⟨Nat.le_of_ble_eq_true rfl, Nat.le_of_ble_eq_true rfl⟩ rfl hl.1 rfl (Nat.le_of_ble_eq_true rfl) dX11_voice_1 ⟨Nat.zero_le _, Nat.zero_le _⟩) (fun H locs hR hS => ?_)
  refine lv_if_ne (tgt := 10) hx hb dX11_voice_4 (by decide) (fun c5 => ?_) (fun c5 => ?_)
  · have h := ite_f c5 h
    refine lv_iload_n hx hb dX11_voice_10 rfl (lv_at hl 2 rfl) ?_
    refine lv_if_ne (tgt := 23) hx hb dX11_voice_11 (by decide) (fun c6 => ?_) (fun c6 => ?_)
    · have h := ite_f c6 h
      refine lv_iload_n hx hb dX11_voice_23 rfl (lv_at hl 2 rfl) ?_
      refine lv_iconst (v := 1) hx hb dX11_voice_24 (by decide) ?_
      refine lv_icmp_ne (tgt := 37) hx hb dX11_voice_25 (by decide) (fun c7 => ?_) (fun c7 => ?_)
      · have h := ite_f c7 h
        refine lv_bipush (v := -3) hx hb dX11_voice_37 (by decide) ?_
        exact g_iret C hR hS h dX11_voice_39
      · have h := ite_t c7 h
        refine lv_aload_n hx hb dX11_voice_28 rfl (lv_at hl 0 rfl) ?_
        refine g_getr (t := 74) C hR (k := 54) (j := 30) (live_st (by decide)) rfl rfl (vw11) inl11 (by decide) q973 dX11_voice_29 ?_
        refine lv_iload_n hx hb dX11_voice_32 rfl (lv_at hl 1 rfl) ?_
        obtain ⟨g8, h⟩ := gd_e h
        refine g_iald C hR (k := 74) (n := 6) (live_st (by decide)) rfl g8 dX11_voice_33 ?_
        refine lv_goto (tgt := 39) hx hb dX11_voice_34 (by decide) ?_
        exact g_iret C hR hS h dX11_voice_39
    · have h := ite_t c6 h
      refine lv_aload_n hx hb dX11_voice_14 rfl (lv_at hl 0 rfl) ?_
      refine g_getr (t := 73) C hR (k := 54) (j := 29) (live_st (by decide)) rfl rfl (vw11) inl11 (by decide) q972 dX11_voice_15 ?_
      refine lv_iload_n hx hb dX11_voice_18 rfl (lv_at hl 1 rfl) ?_
      obtain ⟨g9, h⟩ := gd_e h
      refine g_iald C hR (k := 73) (n := 6) (live_st (by decide)) rfl g9 dX11_voice_19 ?_
      refine lv_goto (tgt := 39) hx hb dX11_voice_20 (by decide) ?_
      exact g_iret C hR hS h dX11_voice_39
  · have h := ite_t c5 h
    refine lv_bipush (v := -2) hx hb dX11_voice_7 (by decide) ?_
    exact g_iret C hR hS h dX11_voice_9

/-! OneVoiceModel.wish(III)I -/
abbrev rm_X11_wish : Room := { frames := 2, cells := 0, slots := 0, locals := 42 }
theorem m_X11_wish : MV yX11_wish RX11 cX11_wish 5 (some .int) 3 := ⟨q1308, q1309, q77, q1310, by decide +kernel⟩
def f_X11_wish (v1 : Int32) (v2 : Int32) (v3 : Int32) (S : St) : Option (Int32 × St) :=
  bd_ (f_X11_isPlatform v1 S) fun r5 S6 =>
  if r5 = 0 then
    some ((-2 : Int32), S6)
  else
    bd_ (f_X11_in v2 (0 : Int32) (3 : Int32) S6) fun r8 S9 =>
    if r8 = 0 then
      some ((-3 : Int32), S9)
    else
      bd_ (f_X11_in v3 (1 : Int32) (5 : Int32) S9) fun r11 S12 =>
      if r11 = 0 then
        some ((-3 : Int32), S12)
      else
        gd_ (inb v1 6) <|
        lt_ (rd S12 73 (Int32.toNatClampNeg v1)) fun x15 =>
        gd_ (inb v1 6) <|
        lt_ (wr S12 73 (Int32.toNatClampNeg v1) v2) fun S16 =>
        gd_ (inb v1 6) <|
        lt_ (wr S16 74 (Int32.toNatClampNeg v1) v3) fun S18 =>
        some (x15, S18)

set_option maxHeartbeats 4000000 in
set_option maxRecDepth 100000 in
theorem c_X11_wish (l : Launch) {E : En} {α : Nat → Nat} {g : Nat × Nat} {v1 : Int32} {v2 : Int32} {v3 : Int32} {S : St}  {z : Int32 × St} (h : f_X11_wish v1 v2 v3 S = some z) : Met l yX11_wish (wsY yX11_wish cX11_wish 5 (some .int)) rm_X11_wish (va_Pc [.ref (α 54), .int v1, .int v2, .int v3] (Wd E α g S)) (Qi E α g z) 0 0 E.2.2.1 := by
  refine g_met [.ref (α 54), .int v1, .int v2, .int v3] (by decide) rfl (Nat.le_of_ble_eq_true rfl) ?_
  intro p e s m below meth c ls C hR hl
  generalize hae : ([.ref (α 54), .int v1, .int v2, .int v3] : List Value).toArray = args at C ⊢
  have hl : lv_has ls 5 [(0, .ref (α 54)), (1, .int v1), (2, .int v2), (3, .int v3)] := hl
  obtain ⟨hx, hb, hml, hown, hts, hlk, hrt, hKs⟩ := id C
  have hS : va_S E.2.2.1 s.heap s.heap [] := va_S.rf
  unfold f_X11_wish at h
  refine lv_iload_n hx hb dX11_wish_0 rfl (lv_at hl 1 rfl) ?_
  obtain ⟨r5, S6, hr5, h⟩ := bd_e h
  refine g_ci hS (g_runS C hR hS (As := [.int v1]) (rest := []) (c_X11_isPlatform l  hr5) m_X11_isPlatform q1268 ⟨rfl, rfl⟩ ⟨Nat.le_of_ble_eq_true rfl, Nat.le_of_ble_eq_true rfl⟩ rfl hl.1 rfl (Nat.le_of_ble_eq_true rfl) dX11_wish_1 ⟨Nat.zero_le _, Nat.zero_le _⟩) (fun H locs hR hS => ?_)
  refine lv_if_ne (tgt := 10) hx hb dX11_wish_4 (by decide) (fun c7 => ?_) (fun c7 => ?_)
  · have h := ite_f c7 h
    refine lv_iload_n hx hb dX11_wish_10 rfl (lv_at hl 2 rfl) ?_
    refine lv_iconst (v := 0) hx hb dX11_wish_11 (by decide) ?_
    refine lv_iconst (v := 3) hx hb dX11_wish_12 (by decide) ?_
    obtain ⟨r8, S9, hr8, h⟩ := bd_e h
    refine g_ci hS (g_runS C hR hS (As := [.int v2, .int (0 : Int32), .int (3 : Int32)]) (rest := []) (c_X11_in l  hr8) m_X11_in q1093 ⟨rfl, rfl⟩ ⟨Nat.le_of_ble_eq_true rfl, Nat.le_of_ble_eq_true rfl⟩ rfl hl.1 rfl (Nat.le_of_ble_eq_true rfl) dX11_wish_13 ⟨Nat.zero_le _, Nat.zero_le _⟩) (fun H locs hR hS => ?_)
    refine lv_if_eq (tgt := 28) hx hb dX11_wish_16 (by decide) (fun c10 => ?_) (fun c10 => ?_)
    · have h := ite_t c10 h
      refine lv_bipush (v := -3) hx hb dX11_wish_28 (by decide) ?_
      exact g_iret C hR hS h dX11_wish_30
    · have h := ite_f c10 h
      refine lv_iload_n hx hb dX11_wish_19 rfl (lv_at hl 3 rfl) ?_
      refine lv_iconst (v := 1) hx hb dX11_wish_20 (by decide) ?_
      refine lv_iconst (v := 5) hx hb dX11_wish_21 (by decide) ?_
      obtain ⟨r11, S12, hr11, h⟩ := bd_e h
      refine g_ci hS (g_runS C hR hS (As := [.int v3, .int (1 : Int32), .int (5 : Int32)]) (rest := []) (c_X11_in l  hr11) m_X11_in q1093 ⟨rfl, rfl⟩ ⟨Nat.le_of_ble_eq_true rfl, Nat.le_of_ble_eq_true rfl⟩ rfl hl.1 rfl (Nat.le_of_ble_eq_true rfl) dX11_wish_22 ⟨Nat.zero_le _, Nat.zero_le _⟩) (fun H locs hR hS => ?_)
      refine lv_if_ne (tgt := 31) hx hb dX11_wish_25 (by decide) (fun c13 => ?_) (fun c13 => ?_)
      · have h := ite_f c13 h
        refine lv_aload_n hx hb dX11_wish_31 rfl (lv_at hl 0 rfl) ?_
        refine g_getr (t := 73) C hR (k := 54) (j := 29) (live_st (by decide)) rfl rfl (vw11) inl11 (by decide) q972 dX11_wish_32 ?_
        refine lv_iload_n hx hb dX11_wish_35 rfl (lv_at hl 1 rfl) ?_
        obtain ⟨g14, h⟩ := gd_e h
        refine g_iald C hR (k := 73) (n := 6) (live_st (by decide)) rfl g14 dX11_wish_36 ?_
        obtain ⟨x15, ex15, h⟩ := lt_e h
        refine g_nmi ex15 ?_
        refine lv_istore (lv' := [(4, .int x15), (0, .ref (α 54)), (1, .int v1), (2, .int v2), (3, .int v3)]) hx hb dX11_wish_37 hl (by decide) rfl (fun ls hl => ?_)
        refine lv_aload_n hx hb dX11_wish_39 rfl (lv_at hl 1 rfl) ?_
        refine g_getr (t := 73) C hR (k := 54) (j := 29) (live_st (by decide)) rfl rfl (vw11) inl11 (by decide) q972 dX11_wish_40 ?_
        refine lv_iload_n hx hb dX11_wish_43 rfl (lv_at hl 2 rfl) ?_
        refine lv_iload_n hx hb dX11_wish_44 rfl (lv_at hl 3 rfl) ?_
        obtain ⟨g17, h⟩ := gd_e h
        obtain ⟨S16, eS16, h⟩ := lt_e h
        refine g_iast C hR hS (k := 73) (n := 6) (live_st (by decide)) rfl g17 eS16 dX11_wish_45 (fun H locs hR hS => ?_)
        refine lv_aload_n hx hb dX11_wish_46 rfl (lv_at hl 1 rfl) ?_
        refine g_getr (t := 74) C hR (k := 54) (j := 30) (live_st (by decide)) rfl rfl (vw11) inl11 (by decide) q973 dX11_wish_47 ?_
        refine lv_iload_n hx hb dX11_wish_50 rfl (lv_at hl 2 rfl) ?_
        refine lv_iload_n hx hb dX11_wish_51 rfl (lv_at hl 4 rfl) ?_
        obtain ⟨g19, h⟩ := gd_e h
        obtain ⟨S18, eS18, h⟩ := lt_e h
        refine g_iast C hR hS (k := 74) (n := 6) (live_st (by decide)) rfl g19 eS18 dX11_wish_52 (fun H locs hR hS => ?_)
        refine lv_iload hx hb dX11_wish_53 (lv_at hl 0 rfl) ?_
        exact g_iret C hR hS h dX11_wish_55
      · have h := ite_t c13 h
        refine lv_bipush (v := -3) hx hb dX11_wish_28 (by decide) ?_
        exact g_iret C hR hS h dX11_wish_30
  · have h := ite_t c7 h
    refine lv_bipush (v := -2) hx hb dX11_wish_7 (by decide) ?_
    exact g_iret C hR hS h dX11_wish_9

/-! OneVoiceModel.change(I)I -/
abbrev rm_X11_change : Room := { frames := 1, cells := 0, slots := 0, locals := 22 }
theorem m_X11_change : MV yX11_change RX11 cX11_change 4 (some .int) 1 := ⟨q1312, q1313, q77, q1314, by decide +kernel⟩
def f_X11_change_L16 (K75 : Int32 → St → Option (Int32 × St)) (v1 : Int32) : Nat → Int32 → Int32 → St → Option (Int32 × St)
  | 0, _, _, _ => none
  | f + 1, v2, v3, S =>
    if (6 : Int32) ≤ v3 then
      K75 v2 S
    else
      gd_ (inb v3 6) <|
      lt_ (fun  (S13 : St) =>
          gd_ (inb v3 6) <|
          lt_ (fun (t15 : Int32) (t16 : Int32) (S17 : St) =>
              lt_ (t15 + t16) fun x18 =>
              lt_ (v3 + (1 : Int32)) fun x19 =>
              f_X11_change_L16 K75 v1 f x18 x19 S17) fun J67 =>
          if (rd S13 73 (Int32.toNatClampNeg v3)) = v1 then
            J67 v2 (1 : Int32) S13
          else
            J67 v2 (0 : Int32) S13) fun J51 =>
      if (rd S 74 (Int32.toNatClampNeg v3)) ≤ 0 then
        gd_ (inb v3 6) <|
        lt_ (wr S 73 (Int32.toNatClampNeg v3) v1) fun S22 =>
        J51  S22
      else
        gd_ (inb v3 6) <|
        gd_ (inb v3 6) <|
        lt_ (wr S 74 (Int32.toNatClampNeg v3) ((rd S 74 (Int32.toNatClampNeg v3)) - (1 : Int32))) fun S25 =>
        J51  S25

def f_X11_change (v1 : Int32) (S : St) : Option (Int32 × St) :=
  bd_ (f_X11_in v1 (0 : Int32) (3 : Int32) S) fun r8 S9 =>
  if r8 = 0 then
    some ((-3 : Int32), S9)
  else
    f_X11_change_L16
      (fun (x27 : Int32) (S28 : St) =>
        some (x27, S28))
      v1 FU (0 : Int32) (0 : Int32) S9

set_option maxHeartbeats 4000000 in
set_option maxRecDepth 100000 in
theorem w_X11_change_L16 {p : Program} {l : Launch} {e : Env} {s : State} {m : MethodId} {args : Array Value} {below : List Frame} {meth : Method} {c : Code} {E : En} {α : Nat → Nat} {g : Nat × Nat} (C : Cx p s m args meth c RX11 cX11_change 4 (some .int) E) {z : Int32 × St} {K75 : Int32 → St → Option (Int32 × St)} {v1 : Int32}
    (hK75 : ∀ (y2 : Int32) (S : St) (H : Heap) (locs : List Loc) (ls : Array Slot), Rp E α g S H → va_S E.2.2.1 s.heap H locs → lv_has ls 4 [(2, .int y2)] → K75 y2 S = some z → W p l e rm_X11_change s m args below meth c H locs 0 0 (MQ below (Qi E α g z) args s 0 0 E.2.2.1) (F0 m 75 ls [])) :
    ∀ (f : Nat) (v2 : Int32) (v3 : Int32) (S : St) (H : Heap) (locs : List Loc) (ls : Array Slot), Rp E α g S H → va_S E.2.2.1 s.heap H locs → lv_has ls 4 [(0, .ref (α 54)), (1, .int v1), (2, .int v2), (3, .int v3)] → f_X11_change_L16 K75 v1 f v2 v3 S = some z → W p l e rm_X11_change s m args below meth c H locs 0 0 (MQ below (Qi E α g z) args s 0 0 E.2.2.1) (F0 m 16 ls []) := by
  obtain ⟨hx, hb, hml, hown, hts, hlk, hrt, hKs⟩ := id C
  intro f
  induction f with
  | zero =>
    intro v2 v3 S H locs ls  hR hS hl h
    rw [f_X11_change_L16] at h
    cases h
  | succ f ih =>
    intro v2 v3 S H locs ls  hR hS hl h
    rw [f_X11_change_L16] at h
    refine lv_iload_n hx hb dX11_change_16 rfl (lv_at hl 3 rfl) ?_
    refine lv_bipush (v := 6) hx hb dX11_change_17 (by decide) ?_
    refine lv_icmp_ge (tgt := 75) hx hb dX11_change_19 (by decide) (fun c11 => ?_) (fun c11 => ?_)
    · have h := ite_t c11 h
      exact hK75 _ _ _ _ _  hR hS (lv_sub hl [2] rfl) h
    · have h := ite_f c11 h
      refine lv_aload_n hx hb dX11_change_22 rfl (lv_at hl 0 rfl) ?_
      refine g_getr (t := 74) C hR (k := 54) (j := 30) (live_st (by decide)) rfl rfl (vw11) inl11 (by decide) q973 dX11_change_23 ?_
      refine lv_iload_n hx hb dX11_change_26 rfl (lv_at hl 3 rfl) ?_
      obtain ⟨g12, h⟩ := gd_e h
      refine g_iald C hR (k := 74) (n := 6) (live_st (by decide)) rfl g12 dX11_change_27 ?_
      obtain ⟨J51, eJ51, h⟩ := lt_e h
      have hJ51 : ∀ (S13 : St) (H : Heap) (locs : List Loc) (ls : Array Slot), Rp E α g S13 H → va_S E.2.2.1 s.heap H locs → lv_has ls 4 [(0, .ref (α 54)), (1, .int v1), (2, .int v2), (3, .int v3)] → J51  S13 = some z → W p l e rm_X11_change s m args below meth c H locs 0 0 (MQ below (Qi E α g z) args s 0 0 E.2.2.1) (F0 m 51 ls []) := by
        intro  S13 H locs ls  hR hS hl h
        rw [eJ51] at h
        refine lv_iload_n hx hb dX11_change_51 rfl (lv_at hl 2 rfl) ?_
        refine lv_aload_n hx hb dX11_change_52 rfl (lv_at hl 0 rfl) ?_
        refine g_getr (t := 73) C hR (k := 54) (j := 29) (live_st (by decide)) rfl rfl (vw11) inl11 (by decide) q972 dX11_change_53 ?_
        refine lv_iload_n hx hb dX11_change_56 rfl (lv_at hl 3 rfl) ?_
        obtain ⟨g14, h⟩ := gd_e h
        refine g_iald C hR (k := 73) (n := 6) (live_st (by decide)) rfl g14 dX11_change_57 ?_
        refine lv_iload_n hx hb dX11_change_58 rfl (lv_at hl 1 rfl) ?_
        obtain ⟨J67, eJ67, h⟩ := lt_e h
        have hJ67 : ∀ (t15 : Int32) (t16 : Int32) (S17 : St) (H : Heap) (locs : List Loc) (ls : Array Slot), Rp E α g S17 H → va_S E.2.2.1 s.heap H locs → lv_has ls 4 [(0, .ref (α 54)), (1, .int v1), (3, .int v3)] → J67 t15 t16 S17 = some z → W p l e rm_X11_change s m args below meth c H locs 0 0 (MQ below (Qi E α g z) args s 0 0 E.2.2.1) (F0 m 67 ls [.int t16, .int t15]) := by
          intro t15 t16 S17 H locs ls  hR hS hl h
          rw [eJ67] at h
          refine lv_iadd hx hb dX11_change_67 ?_
          obtain ⟨x18, ex18, h⟩ := lt_e h
          refine g_nmi ex18 ?_
          refine lv_istore_n (lv' := [(2, .int x18), (0, .ref (α 54)), (1, .int v1), (3, .int v3)]) hx hb dX11_change_68 rfl hl (by decide) rfl (fun ls hl => ?_)
          obtain ⟨x19, ex19, h⟩ := lt_e h
          refine lv_iinc (v := x19) (lv' := [(3, .int x19), (2, .int x18), (0, .ref (α 54)), (1, .int v1)]) hx hb dX11_change_69 hl (k := 3) rfl (by rw [ex19]; rfl) (by decide) rfl (fun ls hl => ?_)
          refine lv_goto (tgt := 16) hx hb dX11_change_72 (by decide) ?_
          exact ih _ _ _ _ _ _  hR hS (lv_sub hl [2, 3, 1, 0] rfl) h
        clear eJ67
        refine lv_icmp_ne (tgt := 66) hx hb dX11_change_59 (by decide) (fun c20 => ?_) (fun c20 => ?_)
        · have h := ite_f c20 h
          refine lv_iconst (v := 0) hx hb dX11_change_66 (by decide) ?_
          exact hJ67 _ _ _ _ _ _  hR hS (lv_sub hl [0, 1, 3] rfl) h
        · have h := ite_t c20 h
          refine lv_iconst (v := 1) hx hb dX11_change_62 (by decide) ?_
          refine lv_goto (tgt := 67) hx hb dX11_change_63 (by decide) ?_
          exact hJ67 _ _ _ _ _ _  hR hS (lv_sub hl [0, 1, 3] rfl) h
      clear eJ51
      refine lv_if_le (tgt := 44) hx hb dX11_change_28 (by decide) (fun c21 => ?_) (fun c21 => ?_)
      · have h := ite_t c21 h
        refine lv_aload_n hx hb dX11_change_44 rfl (lv_at hl 0 rfl) ?_
        refine g_getr (t := 73) C hR (k := 54) (j := 29) (live_st (by decide)) rfl rfl (vw11) inl11 (by decide) q972 dX11_change_45 ?_
        refine lv_iload_n hx hb dX11_change_48 rfl (lv_at hl 3 rfl) ?_
        refine lv_iload_n hx hb dX11_change_49 rfl (lv_at hl 1 rfl) ?_
        obtain ⟨g23, h⟩ := gd_e h
        obtain ⟨S22, eS22, h⟩ := lt_e h
        refine g_iast C hR hS (k := 73) (n := 6) (live_st (by decide)) rfl g23 eS22 dX11_change_50 (fun H locs hR hS => ?_)
        exact hJ51  _ _ _ _  hR hS hl h
      · have h := ite_f c21 h
        refine lv_aload_n hx hb dX11_change_31 rfl (lv_at hl 0 rfl) ?_
        refine g_getr (t := 74) C hR (k := 54) (j := 30) (live_st (by decide)) rfl rfl (vw11) inl11 (by decide) q973 dX11_change_32 ?_
        refine lv_iload_n hx hb dX11_change_35 rfl (lv_at hl 3 rfl) ?_
        refine lv_dup2_11 hx hb dX11_change_36 rfl rfl ?_
        obtain ⟨g24, h⟩ := gd_e h
        refine g_iald C hR (k := 74) (n := 6) (live_st (by decide)) rfl g24 dX11_change_37 ?_
        refine lv_iconst (v := 1) hx hb dX11_change_38 (by decide) ?_
        refine lv_isub hx hb dX11_change_39 ?_
        obtain ⟨g26, h⟩ := gd_e h
        obtain ⟨S25, eS25, h⟩ := lt_e h
        refine g_iast C hR hS (k := 74) (n := 6) (live_st (by decide)) rfl g26 eS25 dX11_change_40 (fun H locs hR hS => ?_)
        refine lv_goto (tgt := 51) hx hb dX11_change_41 (by decide) ?_
        exact hJ51  _ _ _ _  hR hS hl h

set_option maxHeartbeats 4000000 in
set_option maxRecDepth 100000 in
theorem c_X11_change (l : Launch) {E : En} {α : Nat → Nat} {g : Nat × Nat} {v1 : Int32} {S : St}  {z : Int32 × St} (h : f_X11_change v1 S = some z) : Met l yX11_change (wsY yX11_change cX11_change 4 (some .int)) rm_X11_change (va_Pc [.ref (α 54), .int v1] (Wd E α g S)) (Qi E α g z) 0 0 E.2.2.1 := by
  refine g_met [.ref (α 54), .int v1] (by decide) rfl (Nat.le_of_ble_eq_true rfl) ?_
  intro p e s m below meth c ls C hR hl
  generalize hae : ([.ref (α 54), .int v1] : List Value).toArray = args at C ⊢
  have hl : lv_has ls 4 [(0, .ref (α 54)), (1, .int v1)] := hl
  obtain ⟨hx, hb, hml, hown, hts, hlk, hrt, hKs⟩ := id C
  have hS : va_S E.2.2.1 s.heap s.heap [] := va_S.rf
  unfold f_X11_change at h
  refine lv_iload_n hx hb dX11_change_0 rfl (lv_at hl 1 rfl) ?_
  refine lv_iconst (v := 0) hx hb dX11_change_1 (by decide) ?_
  refine lv_iconst (v := 3) hx hb dX11_change_2 (by decide) ?_
  obtain ⟨r8, S9, hr8, h⟩ := bd_e h
  refine g_ci hS (g_runS C hR hS (As := [.int v1, .int (0 : Int32), .int (3 : Int32)]) (rest := []) (c_X11_in l  hr8) m_X11_in q1093 ⟨rfl, rfl⟩ ⟨Nat.le_of_ble_eq_true rfl, Nat.le_of_ble_eq_true rfl⟩ rfl hl.1 rfl (Nat.le_of_ble_eq_true rfl) dX11_change_3 ⟨Nat.zero_le _, Nat.zero_le _⟩) (fun H locs hR hS => ?_)
  refine lv_if_ne (tgt := 12) hx hb dX11_change_6 (by decide) (fun c10 => ?_) (fun c10 => ?_)
  · have h := ite_f c10 h
    refine lv_iconst (v := 0) hx hb dX11_change_12 (by decide) ?_
    refine lv_istore_n (lv' := [(2, .int (0 : Int32)), (0, .ref (α 54)), (1, .int v1)]) hx hb dX11_change_13 rfl hl (by decide) rfl (fun ls hl => ?_)
    refine lv_iconst (v := 0) hx hb dX11_change_14 (by decide) ?_
    refine lv_istore_n (lv' := [(3, .int (0 : Int32)), (2, .int (0 : Int32)), (0, .ref (α 54)), (1, .int v1)]) hx hb dX11_change_15 rfl hl (by decide) rfl (fun ls hl => ?_)
    refine w_X11_change_L16 C ?_  _ _ _ _ _ _ _  hR hS (lv_sub hl [2, 3, 1, 0] rfl) h
    · intro x27 S28 H locs ls  hR hS hl h
      refine lv_iload_n hx hb dX11_change_75 rfl (lv_at hl 0 rfl) ?_
      exact g_iret C hR hS h dX11_change_76
  · have h := ite_t c10 h
    refine lv_bipush (v := -3) hx hb dX11_change_9 (by decide) ?_
    exact g_iret C hR hS h dX11_change_11

/-! OneVoiceModel.clearSteps([I)V -/
abbrev rm_X11_clearSteps : Room := { frames := 0, cells := 0, slots := 0, locals := 0 }
theorem m_X11_clearSteps : MV yX11_clearSteps RX11 cX11_clearSteps 3 none 1 := ⟨q1321, q62, q77, q1322, by decide +kernel⟩
def f_X11_clearSteps_L2 (K18 : St → Option (Unit × St)) (n1 : Nat) : Nat → Int32 → St → Option (Unit × St)
  | 0, _, _ => none
  | f + 1, v2, S =>
    if (17 : Int32) ≤ v2 then
      K18  S
    else
      gd_ (inb v2 (alen n1)) <|
      lt_ (wr S n1 (Int32.toNatClampNeg v2) (0 : Int32)) fun S4 =>
      lt_ (v2 + (1 : Int32)) fun x6 =>
      f_X11_clearSteps_L2 K18 n1 f x6 S4

def f_X11_clearSteps (n1 : Nat) (S : St) : Option (Unit × St) :=
  f_X11_clearSteps_L2
    (fun  (S7 : St) =>
      some ((), S7))
    n1 FU (0 : Int32) S

set_option maxHeartbeats 4000000 in
set_option maxRecDepth 100000 in
theorem w_X11_clearSteps_L2 {p : Program} {l : Launch} {e : Env} {s : State} {m : MethodId} {args : Array Value} {below : List Frame} {meth : Method} {c : Code} {E : En} {α : Nat → Nat} {g : Nat × Nat} (C : Cx p s m args meth c RX11 cX11_clearSteps 3 none E) {z : Unit × St} {K18 : St → Option (Unit × St)} {n1 : Nat}
    (hK18 : ∀ (S : St) (H : Heap) (locs : List Loc) (ls : Array Slot), Rp E α g S H → va_S E.2.2.1 s.heap H locs → lv_has ls 3 [] → K18  S = some z → W p l e rm_X11_clearSteps s m args below meth c H locs 0 0 (MQ below (Qv E α g z) args s 0 0 E.2.2.1) (F0 m 18 ls [])) (hn1 : n1 < 90 ∧ lay n1 = .inr (0, alen n1)) :
    ∀ (f : Nat) (v2 : Int32) (S : St) (H : Heap) (locs : List Loc) (ls : Array Slot), Rp E α g S H → va_S E.2.2.1 s.heap H locs → lv_has ls 3 [(1, .ref (α n1)), (2, .int v2)] → f_X11_clearSteps_L2 K18 n1 f v2 S = some z → W p l e rm_X11_clearSteps s m args below meth c H locs 0 0 (MQ below (Qv E α g z) args s 0 0 E.2.2.1) (F0 m 2 ls []) := by
  obtain ⟨hx, hb, hml, hown, hts, hlk, hrt, hKs⟩ := id C
  intro f
  induction f with
  | zero =>
    intro v2 S H locs ls  hR hS hl h
    rw [f_X11_clearSteps_L2] at h
    cases h
  | succ f ih =>
    intro v2 S H locs ls  hR hS hl h
    rw [f_X11_clearSteps_L2] at h
    refine lv_iload_n hx hb dX11_clearSteps_2 rfl (lv_at hl 1 rfl) ?_
    refine lv_bipush (v := 17) hx hb dX11_clearSteps_3 (by decide) ?_
    refine lv_icmp_ge (tgt := 18) hx hb dX11_clearSteps_5 (by decide) (fun c3 => ?_) (fun c3 => ?_)
    · have h := ite_t c3 h
      exact hK18  _ _ _ _  hR hS (lv_sub hl [] rfl) h
    · have h := ite_f c3 h
      refine lv_aload_n hx hb dX11_clearSteps_8 rfl (lv_at hl 0 rfl) ?_
      refine lv_iload_n hx hb dX11_clearSteps_9 rfl (lv_at hl 1 rfl) ?_
      refine lv_iconst (v := 0) hx hb dX11_clearSteps_10 (by decide) ?_
      obtain ⟨g5, h⟩ := gd_e h
      obtain ⟨S4, eS4, h⟩ := lt_e h
      refine g_iast C hR hS (k := n1) (n := (alen n1)) (live_st hn1.1) hn1.2 g5 eS4 dX11_clearSteps_11 (fun H locs hR hS => ?_)
      obtain ⟨x6, ex6, h⟩ := lt_e h
      refine lv_iinc (v := x6) (lv' := [(2, .int x6), (1, .ref (α n1))]) hx hb dX11_clearSteps_12 hl (k := 1) rfl (by rw [ex6]; rfl) (by decide) rfl (fun ls hl => ?_)
      refine lv_goto (tgt := 2) hx hb dX11_clearSteps_15 (by decide) ?_
      exact ih _ _ _ _ _  hR hS (lv_sub hl [1, 0] rfl) h

set_option maxHeartbeats 4000000 in
set_option maxRecDepth 100000 in
theorem c_X11_clearSteps (l : Launch) {E : En} {α : Nat → Nat} {g : Nat × Nat} {n1 : Nat} {S : St} (hn1 : n1 < 90 ∧ lay n1 = .inr (0, alen n1)) {z : Unit × St} (h : f_X11_clearSteps n1 S = some z) : Met l yX11_clearSteps (wsY yX11_clearSteps cX11_clearSteps 3 none) rm_X11_clearSteps (va_Pc [.ref (α 54), .ref (α n1)] (Wd E α g S)) (Qv E α g z) 0 0 E.2.2.1 := by
  refine g_met [.ref (α 54), .ref (α n1)] (by decide) rfl (Nat.le_of_ble_eq_true rfl) ?_
  intro p e s m below meth c ls C hR hl
  generalize hae : ([.ref (α 54), .ref (α n1)] : List Value).toArray = args at C ⊢
  have hl : lv_has ls 3 [(0, .ref (α 54)), (1, .ref (α n1))] := hl
  obtain ⟨hx, hb, hml, hown, hts, hlk, hrt, hKs⟩ := id C
  have hS : va_S E.2.2.1 s.heap s.heap [] := va_S.rf
  unfold f_X11_clearSteps at h
  refine lv_iconst (v := 0) hx hb dX11_clearSteps_0 (by decide) ?_
  refine lv_istore_n (lv' := [(2, .int (0 : Int32)), (0, .ref (α 54)), (1, .ref (α n1))]) hx hb dX11_clearSteps_1 rfl hl (by decide) rfl (fun ls hl => ?_)
  refine w_X11_clearSteps_L2 C ?_ hn1 _ _ _ _ _ _  hR hS (lv_sub hl [2, 0] rfl) h
  · intro  S7 H locs ls  hR hS hl h
    exact g_vret C hR hS h dX11_clearSteps_18

/-! OneVoiceModel.addSteps([III)V -/
abbrev rm_X11_addSteps : Room := { frames := 0, cells := 0, slots := 0, locals := 0 }
theorem m_X11_addSteps : MV yX11_addSteps RX11 cX11_addSteps 8 none 3 := ⟨q1325, q63, q77, q1326, by decide +kernel⟩
def f_X11_addSteps_L18 (K78 : Int32 → St → Option (Unit × St)) (n1 : Nat) (v2 : Int32) (v3 : Int32) (v5 : Int32) : Nat → Int32 → Int32 → St → Option (Unit × St)
  | 0, _, _, _ => none
  | f + 1, v4, v6, S =>
    gd_ (inb v5 16) <|
    gd_ (inb (rd S 71 (Int32.toNatClampNeg v5)) 32) <|
    if (rd S 67 (Int32.toNatClampNeg (rd S 71 (Int32.toNatClampNeg v5)))) ≤ v6 then
      K78 v4 S
    else
      gd_ (inb v5 16) <|
      gd_ (inb (((8 : Int32) * (rd S 71 (Int32.toNatClampNeg v5))) + v6) 256) <|
      lt_ (rd S 68 (Int32.toNatClampNeg (((8 : Int32) * (rd S 71 (Int32.toNatClampNeg v5))) + v6))) fun x18 =>
      gd_ (inb v4 (alen n1)) <|
      gd_ (inb v4 (alen n1)) <|
      lt_ (wr S n1 (Int32.toNatClampNeg v4) ((rd S n1 (Int32.toNatClampNeg v4)) ||| ((1 : Int32) <<< (x18 &&& 31)))) fun S20 =>
      lt_ (v6 + (1 : Int32)) fun x22 =>
      f_X11_addSteps_L18 K78 n1 v2 v3 v5 f x18 x22 S20

def f_X11_addSteps_L7 (K84 : Int32 → St → Option (Unit × St)) (n1 : Nat) (v2 : Int32) (v3 : Int32) : Nat → Int32 → Int32 → St → Option (Unit × St)
  | 0, _, _, _ => none
  | f + 1, v4, v5, S =>
    if (v2 + v3) ≤ v5 then
      K84 v4 S
    else
      f_X11_addSteps_L18
        (fun (x23 : Int32) (S24 : St) =>
          lt_ (v5 + (1 : Int32)) fun x25 =>
          f_X11_addSteps_L7 K84 n1 v2 v3 f x23 x25 S24)
        n1 v2 v3 v5 FU v4 (0 : Int32) S

def f_X11_addSteps (n1 : Nat) (v2 : Int32) (v3 : Int32) (S : St) : Option (Unit × St) :=
  f_X11_addSteps_L7
    (fun (x26 : Int32) (S27 : St) =>
      gd_ (inb x26 (alen n1)) <|
      gd_ (inb x26 (alen n1)) <|
      lt_ (wr S27 n1 (Int32.toNatClampNeg x26) ((rd S27 n1 (Int32.toNatClampNeg x26)) ||| (65536 : Int32))) fun S29 =>
      some ((), S29))
    n1 v2 v3 FU (16 : Int32) v2 S

set_option maxHeartbeats 4000000 in
set_option maxRecDepth 100000 in
theorem w_X11_addSteps_L18 {p : Program} {l : Launch} {e : Env} {s : State} {m : MethodId} {args : Array Value} {below : List Frame} {meth : Method} {c : Code} {E : En} {α : Nat → Nat} {g : Nat × Nat} (C : Cx p s m args meth c RX11 cX11_addSteps 8 none E) {z : Unit × St} {K78 : Int32 → St → Option (Unit × St)} {n1 : Nat} {v2 : Int32} {v3 : Int32} {v5 : Int32}
    (hK78 : ∀ (y4 : Int32) (S : St) (H : Heap) (locs : List Loc) (ls : Array Slot), Rp E α g S H → va_S E.2.2.1 s.heap H locs → lv_has ls 8 [(0, .ref (α 54)), (1, .ref (α n1)), (2, .int v2), (3, .int v3), (4, .int y4), (5, .int v5)] → K78 y4 S = some z → W p l e rm_X11_addSteps s m args below meth c H locs 0 0 (MQ below (Qv E α g z) args s 0 0 E.2.2.1) (F0 m 78 ls [])) (hn1 : n1 < 90 ∧ lay n1 = .inr (0, alen n1)) :
    ∀ (f : Nat) (v4 : Int32) (v6 : Int32) (S : St) (H : Heap) (locs : List Loc) (ls : Array Slot), Rp E α g S H → va_S E.2.2.1 s.heap H locs → lv_has ls 8 [(0, .ref (α 54)), (1, .ref (α n1)), (2, .int v2), (3, .int v3), (4, .int v4), (5, .int v5), (6, .int v6)] → f_X11_addSteps_L18 K78 n1 v2 v3 v5 f v4 v6 S = some z → W p l e rm_X11_addSteps s m args below meth c H locs 0 0 (MQ below (Qv E α g z) args s 0 0 E.2.2.1) (F0 m 18 ls []) := by
  obtain ⟨hx, hb, hml, hown, hts, hlk, hrt, hKs⟩ := id C
  intro f
  induction f with
  | zero =>
    intro v4 v6 S H locs ls  hR hS hl h
    rw [f_X11_addSteps_L18] at h
    cases h
  | succ f ih =>
    intro v4 v6 S H locs ls  hR hS hl h
    rw [f_X11_addSteps_L18] at h
    refine lv_iload hx hb dX11_addSteps_18 (lv_at hl 6 rfl) ?_
    refine lv_aload_n hx hb dX11_addSteps_20 rfl (lv_at hl 0 rfl) ?_
    refine g_getr (t := 67) C hR (k := 54) (j := 22) (live_st (by decide)) rfl rfl (vw11) inl11 (by decide) q965 dX11_addSteps_21 ?_
    refine lv_aload_n hx hb dX11_addSteps_24 rfl (lv_at hl 0 rfl) ?_
    refine g_getr (t := 71) C hR (k := 54) (j := 27) (live_st (by decide)) rfl rfl (vw11) inl11 (by decide) q970 dX11_addSteps_25 ?_
    refine lv_iload hx hb dX11_addSteps_28 (lv_at hl 5 rfl) ?_
    obtain ⟨g13, h⟩ := gd_e h
    refine g_iald C hR (k := 71) (n := 16) (live_st (by decide)) rfl g13 dX11_addSteps_30 ?_
    obtain ⟨g14, h⟩ := gd_e h
    refine g_iald C hR (k := 67) (n := 32) (live_st (by decide)) rfl g14 dX11_addSteps_31 ?_
    refine lv_icmp_ge (tgt := 78) hx hb dX11_addSteps_32 (by decide) (fun c15 => ?_) (fun c15 => ?_)
    · have h := ite_t c15 h
      exact hK78 _ _ _ _ _  hR hS (lv_sub hl [0, 1, 2, 3, 4, 5] rfl) h
    · have h := ite_f c15 h
      refine lv_aload_n hx hb dX11_addSteps_35 rfl (lv_at hl 0 rfl) ?_
      refine g_getr (t := 68) C hR (k := 54) (j := 23) (live_st (by decide)) rfl rfl (vw11) inl11 (by decide) q966 dX11_addSteps_36 ?_
      refine lv_bipush (v := 8) hx hb dX11_addSteps_39 (by decide) ?_
      refine lv_aload_n hx hb dX11_addSteps_41 rfl (lv_at hl 0 rfl) ?_
      refine g_getr (t := 71) C hR (k := 54) (j := 27) (live_st (by decide)) rfl rfl (vw11) inl11 (by decide) q970 dX11_addSteps_42 ?_
      refine lv_iload hx hb dX11_addSteps_45 (lv_at hl 5 rfl) ?_
      obtain ⟨g16, h⟩ := gd_e h
      refine g_iald C hR (k := 71) (n := 16) (live_st (by decide)) rfl g16 dX11_addSteps_47 ?_
      refine lv_imul hx hb dX11_addSteps_48 ?_
      refine lv_iload hx hb dX11_addSteps_49 (lv_at hl 6 rfl) ?_
      refine lv_iadd hx hb dX11_addSteps_51 ?_
      obtain ⟨g17, h⟩ := gd_e h
      refine g_iald C hR (k := 68) (n := 256) (live_st (by decide)) rfl g17 dX11_addSteps_52 ?_
      obtain ⟨x18, ex18, h⟩ := lt_e h
      refine g_nmi ex18 ?_
      refine lv_istore (lv' := [(7, .int x18), (0, .ref (α 54)), (1, .ref (α n1)), (2, .int v2), (3, .int v3), (4, .int v4), (5, .int v5), (6, .int v6)]) hx hb dX11_addSteps_53 hl (by decide) rfl (fun ls hl => ?_)
      refine lv_aload_n hx hb dX11_addSteps_55 rfl (lv_at hl 2 rfl) ?_
      refine lv_iload hx hb dX11_addSteps_56 (lv_at hl 5 rfl) ?_
      refine lv_aload_n hx hb dX11_addSteps_58 rfl (lv_at hl 2 rfl) ?_
      refine lv_iload hx hb dX11_addSteps_59 (lv_at hl 5 rfl) ?_
      obtain ⟨g19, h⟩ := gd_e h
      refine g_iald C hR (k := n1) (n := (alen n1)) (live_st hn1.1) hn1.2 g19 dX11_addSteps_61 ?_
      refine lv_iconst (v := 1) hx hb dX11_addSteps_62 (by decide) ?_
      refine lv_iload hx hb dX11_addSteps_63 (lv_at hl 0 rfl) ?_
      refine lv_ishl hx hb dX11_addSteps_65 ?_
      refine lv_ior hx hb dX11_addSteps_66 ?_
      obtain ⟨g21, h⟩ := gd_e h
      obtain ⟨S20, eS20, h⟩ := lt_e h
      refine g_iast C hR hS (k := n1) (n := (alen n1)) (live_st hn1.1) hn1.2 g21 eS20 dX11_addSteps_67 (fun H locs hR hS => ?_)
      refine lv_iload hx hb dX11_addSteps_68 (lv_at hl 0 rfl) ?_
      refine lv_istore (lv' := [(4, .int x18), (7, .int x18), (0, .ref (α 54)), (1, .ref (α n1)), (2, .int v2), (3, .int v3), (5, .int v5), (6, .int v6)]) hx hb dX11_addSteps_70 hl (by decide) rfl (fun ls hl => ?_)
      obtain ⟨x22, ex22, h⟩ := lt_e h
      refine lv_iinc (v := x22) (lv' := [(6, .int x22), (4, .int x18), (7, .int x18), (0, .ref (α 54)), (1, .ref (α n1)), (2, .int v2), (3, .int v3), (5, .int v5)]) hx hb dX11_addSteps_72 hl (k := 7) rfl (by rw [ex22]; rfl) (by decide) rfl (fun ls hl => ?_)
      refine lv_goto (tgt := 18) hx hb dX11_addSteps_75 (by decide) ?_
      exact ih _ _ _ _ _ _  hR hS (lv_sub hl [3, 4, 5, 6, 1, 7, 0] rfl) h

set_option maxHeartbeats 4000000 in
set_option maxRecDepth 100000 in
theorem w_X11_addSteps_L7 {p : Program} {l : Launch} {e : Env} {s : State} {m : MethodId} {args : Array Value} {below : List Frame} {meth : Method} {c : Code} {E : En} {α : Nat → Nat} {g : Nat × Nat} (C : Cx p s m args meth c RX11 cX11_addSteps 8 none E) {z : Unit × St} {K84 : Int32 → St → Option (Unit × St)} {n1 : Nat} {v2 : Int32} {v3 : Int32}
    (hK84 : ∀ (y4 : Int32) (S : St) (H : Heap) (locs : List Loc) (ls : Array Slot), Rp E α g S H → va_S E.2.2.1 s.heap H locs → lv_has ls 8 [(1, .ref (α n1)), (4, .int y4)] → K84 y4 S = some z → W p l e rm_X11_addSteps s m args below meth c H locs 0 0 (MQ below (Qv E α g z) args s 0 0 E.2.2.1) (F0 m 84 ls [])) (hn1 : n1 < 90 ∧ lay n1 = .inr (0, alen n1)) :
    ∀ (f : Nat) (v4 : Int32) (v5 : Int32) (S : St) (H : Heap) (locs : List Loc) (ls : Array Slot), Rp E α g S H → va_S E.2.2.1 s.heap H locs → lv_has ls 8 [(0, .ref (α 54)), (1, .ref (α n1)), (2, .int v2), (3, .int v3), (4, .int v4), (5, .int v5)] → f_X11_addSteps_L7 K84 n1 v2 v3 f v4 v5 S = some z → W p l e rm_X11_addSteps s m args below meth c H locs 0 0 (MQ below (Qv E α g z) args s 0 0 E.2.2.1) (F0 m 7 ls []) := by
  obtain ⟨hx, hb, hml, hown, hts, hlk, hrt, hKs⟩ := id C
  intro f
  induction f with
  | zero =>
    intro v4 v5 S H locs ls  hR hS hl h
    rw [f_X11_addSteps_L7] at h
    cases h
  | succ f ih =>
    intro v4 v5 S H locs ls  hR hS hl h
    rw [f_X11_addSteps_L7] at h
    refine lv_iload hx hb dX11_addSteps_7 (lv_at hl 5 rfl) ?_
    refine lv_iload_n hx hb dX11_addSteps_9 rfl (lv_at hl 2 rfl) ?_
    refine lv_iload_n hx hb dX11_addSteps_10 rfl (lv_at hl 3 rfl) ?_
    refine lv_iadd hx hb dX11_addSteps_11 ?_
    refine lv_icmp_ge (tgt := 84) hx hb dX11_addSteps_12 (by decide) (fun c12 => ?_) (fun c12 => ?_)
    · have h := ite_t c12 h
      exact hK84 _ _ _ _ _  hR hS (lv_sub hl [1, 4] rfl) h
    · have h := ite_f c12 h
      refine lv_iconst (v := 0) hx hb dX11_addSteps_15 (by decide) ?_
      refine lv_istore (lv' := [(6, .int (0 : Int32)), (0, .ref (α 54)), (1, .ref (α n1)), (2, .int v2), (3, .int v3), (4, .int v4), (5, .int v5)]) hx hb dX11_addSteps_16 hl (by decide) rfl (fun ls hl => ?_)
      refine w_X11_addSteps_L18 C ?_ hn1 _ _ _ _ _ _ _  hR hS (lv_sub hl [1, 2, 3, 4, 5, 6, 0] rfl) h
      · intro x23 S24 H locs ls  hR hS hl h
        obtain ⟨x25, ex25, h⟩ := lt_e h
        refine lv_iinc (v := x25) (lv' := [(5, .int x25), (0, .ref (α 54)), (1, .ref (α n1)), (2, .int v2), (3, .int v3), (4, .int x23)]) hx hb dX11_addSteps_78 hl (k := 5) rfl (by rw [ex25]; rfl) (by decide) rfl (fun ls hl => ?_)
        refine lv_goto (tgt := 7) hx hb dX11_addSteps_81 (by decide) ?_
        exact ih _ _ _ _ _ _  hR hS (lv_sub hl [1, 2, 3, 4, 5, 0] rfl) h

set_option maxHeartbeats 4000000 in
set_option maxRecDepth 100000 in
theorem c_X11_addSteps (l : Launch) {E : En} {α : Nat → Nat} {g : Nat × Nat} {n1 : Nat} {v2 : Int32} {v3 : Int32} {S : St} (hn1 : n1 < 90 ∧ lay n1 = .inr (0, alen n1)) {z : Unit × St} (h : f_X11_addSteps n1 v2 v3 S = some z) : Met l yX11_addSteps (wsY yX11_addSteps cX11_addSteps 8 none) rm_X11_addSteps (va_Pc [.ref (α 54), .ref (α n1), .int v2, .int v3] (Wd E α g S)) (Qv E α g z) 0 0 E.2.2.1 := by
  refine g_met [.ref (α 54), .ref (α n1), .int v2, .int v3] (by decide) rfl (Nat.le_of_ble_eq_true rfl) ?_
  intro p e s m below meth c ls C hR hl
  generalize hae : ([.ref (α 54), .ref (α n1), .int v2, .int v3] : List Value).toArray = args at C ⊢
  have hl : lv_has ls 8 [(0, .ref (α 54)), (1, .ref (α n1)), (2, .int v2), (3, .int v3)] := hl
  obtain ⟨hx, hb, hml, hown, hts, hlk, hrt, hKs⟩ := id C
  have hS : va_S E.2.2.1 s.heap s.heap [] := va_S.rf
  unfold f_X11_addSteps at h
  refine lv_bipush (v := 16) hx hb dX11_addSteps_0 (by decide) ?_
  refine lv_istore (lv' := [(4, .int (16 : Int32)), (0, .ref (α 54)), (1, .ref (α n1)), (2, .int v2), (3, .int v3)]) hx hb dX11_addSteps_2 hl (by decide) rfl (fun ls hl => ?_)
  refine lv_iload_n hx hb dX11_addSteps_4 rfl (lv_at hl 3 rfl) ?_
  refine lv_istore (lv' := [(5, .int v2), (4, .int (16 : Int32)), (0, .ref (α 54)), (1, .ref (α n1)), (2, .int v2), (3, .int v3)]) hx hb dX11_addSteps_5 hl (by decide) rfl (fun ls hl => ?_)
  refine w_X11_addSteps_L7 C ?_ hn1 _ _ _ _ _ _ _  hR hS (lv_sub hl [2, 3, 4, 5, 1, 0] rfl) h
  · intro x26 S27 H locs ls  hR hS hl h
    refine lv_aload_n hx hb dX11_addSteps_84 rfl (lv_at hl 0 rfl) ?_
    refine lv_iload hx hb dX11_addSteps_85 (lv_at hl 1 rfl) ?_
    refine lv_aload_n hx hb dX11_addSteps_87 rfl (lv_at hl 0 rfl) ?_
    refine lv_iload hx hb dX11_addSteps_88 (lv_at hl 1 rfl) ?_
    obtain ⟨g28, h⟩ := gd_e h
    refine g_iald C hR (k := n1) (n := (alen n1)) (live_st hn1.1) hn1.2 g28 dX11_addSteps_90 ?_
    refine lv_ldcw (v := 65536) hx hb hown (hts _ q1327) dX11_addSteps_91 ?_
    refine lv_ior hx hb dX11_addSteps_94 ?_
    obtain ⟨g30, h⟩ := gd_e h
    obtain ⟨S29, eS29, h⟩ := lt_e h
    refine g_iast C hR hS (k := n1) (n := (alen n1)) (live_st hn1.1) hn1.2 g30 eS29 dX11_addSteps_95 (fun H locs hR hS => ?_)
    exact g_vret C hR hS h dX11_addSteps_96

/-! OneVoiceModel.hasNumber(I)Z -/
abbrev rm_X11_hasNumber : Room := { frames := 0, cells := 0, slots := 0, locals := 0 }
theorem m_X11_hasNumber : MV yX11_hasNumber RX11 cX11_hasNumber 4 (some .boolean) 1 := ⟨q1337, q65, q77, q1338, by decide +kernel⟩
def f_X11_hasNumber_L4 (K46 : Int32 → St → Option (Int32 × St)) (v1 : Int32) : Nat → Int32 → Int32 → St → Option (Int32 × St)
  | 0, _, _, _ => none
  | f + 1, v2, v3, S =>
    gd_ (inb v1 8) <|
    if (rd S 69 (Int32.toNatClampNeg v1)) ≤ v3 then
      K46 v2 S
    else
      lt_ (fun (t6 : Int32) (S7 : St) =>
          lt_ (v3 + (1 : Int32)) fun x8 =>
          f_X11_hasNumber_L4 K46 v1 f t6 x8 S7) fun J39 =>
      lt_ (fun  (S9 : St) =>
          J39 (1 : Int32) S9) fun J34 =>
      if v2 = 0 then
        gd_ (inb (((8 : Int32) * v1) + v3) 64) <|
        if (rd S 70 (Int32.toNatClampNeg (((8 : Int32) * v1) + v3))) = (32 : Int32) then
          J34  S
        else
          J39 (0 : Int32) S
      else
        J34  S

def f_X11_hasNumber (v1 : Int32) (S : St) : Option (Int32 × St) :=
  f_X11_hasNumber_L4
    (fun (x13 : Int32) (S14 : St) =>
      gd_ (bz x13) <| some (x13, S14))
    v1 FU (0 : Int32) (0 : Int32) S

set_option maxHeartbeats 4000000 in
set_option maxRecDepth 100000 in
theorem w_X11_hasNumber_L4 {p : Program} {l : Launch} {e : Env} {s : State} {m : MethodId} {args : Array Value} {below : List Frame} {meth : Method} {c : Code} {E : En} {α : Nat → Nat} {g : Nat × Nat} (C : Cx p s m args meth c RX11 cX11_hasNumber 4 (some .boolean) E) {z : Int32 × St} {K46 : Int32 → St → Option (Int32 × St)} {v1 : Int32}
    (hK46 : ∀ (y2 : Int32) (S : St) (H : Heap) (locs : List Loc) (ls : Array Slot), Rp E α g S H → va_S E.2.2.1 s.heap H locs → lv_has ls 4 [(2, .int y2)] → K46 y2 S = some z → W p l e rm_X11_hasNumber s m args below meth c H locs 0 0 (MQ below (Qi E α g z) args s 0 0 E.2.2.1) (F0 m 46 ls [])) :
    ∀ (f : Nat) (v2 : Int32) (v3 : Int32) (S : St) (H : Heap) (locs : List Loc) (ls : Array Slot), Rp E α g S H → va_S E.2.2.1 s.heap H locs → lv_has ls 4 [(0, .ref (α 54)), (1, .int v1), (2, .int v2), (3, .int v3)] → f_X11_hasNumber_L4 K46 v1 f v2 v3 S = some z → W p l e rm_X11_hasNumber s m args below meth c H locs 0 0 (MQ below (Qi E α g z) args s 0 0 E.2.2.1) (F0 m 4 ls []) := by
  obtain ⟨hx, hb, hml, hown, hts, hlk, hrt, hKs⟩ := id C
  intro f
  induction f with
  | zero =>
    intro v2 v3 S H locs ls  hR hS hl h
    rw [f_X11_hasNumber_L4] at h
    cases h
  | succ f ih =>
    intro v2 v3 S H locs ls  hR hS hl h
    rw [f_X11_hasNumber_L4] at h
    refine lv_iload_n hx hb dX11_hasNumber_4 rfl (lv_at hl 3 rfl) ?_
    refine lv_aload_n hx hb dX11_hasNumber_5 rfl (lv_at hl 0 rfl) ?_
    refine g_getr (t := 69) C hR (k := 54) (j := 24) (live_st (by decide)) rfl rfl (vw11) inl11 (by decide) q967 dX11_hasNumber_6 ?_
    refine lv_iload_n hx hb dX11_hasNumber_9 rfl (lv_at hl 1 rfl) ?_
    obtain ⟨g4, h⟩ := gd_e h
    refine g_iald C hR (k := 69) (n := 8) (live_st (by decide)) rfl g4 dX11_hasNumber_10 ?_
    refine lv_icmp_ge (tgt := 46) hx hb dX11_hasNumber_11 (by decide) (fun c5 => ?_) (fun c5 => ?_)
    · have h := ite_t c5 h
      exact hK46 _ _ _ _ _  hR hS (lv_sub hl [2] rfl) h
    · have h := ite_f c5 h
      refine lv_iload_n hx hb dX11_hasNumber_14 rfl (lv_at hl 2 rfl) ?_
      obtain ⟨J39, eJ39, h⟩ := lt_e h
      have hJ39 : ∀ (t6 : Int32) (S7 : St) (H : Heap) (locs : List Loc) (ls : Array Slot), Rp E α g S7 H → va_S E.2.2.1 s.heap H locs → lv_has ls 4 [(0, .ref (α 54)), (1, .int v1), (3, .int v3)] → J39 t6 S7 = some z → W p l e rm_X11_hasNumber s m args below meth c H locs 0 0 (MQ below (Qi E α g z) args s 0 0 E.2.2.1) (F0 m 39 ls [.int t6]) := by
        intro t6 S7 H locs ls  hR hS hl h
        rw [eJ39] at h
        refine lv_istore_n (lv' := [(2, .int t6), (0, .ref (α 54)), (1, .int v1), (3, .int v3)]) hx hb dX11_hasNumber_39 rfl hl (by decide) rfl (fun ls hl => ?_)
        obtain ⟨x8, ex8, h⟩ := lt_e h
        refine lv_iinc (v := x8) (lv' := [(3, .int x8), (2, .int t6), (0, .ref (α 54)), (1, .int v1)]) hx hb dX11_hasNumber_40 hl (k := 3) rfl (by rw [ex8]; rfl) (by decide) rfl (fun ls hl => ?_)
        refine lv_goto (tgt := 4) hx hb dX11_hasNumber_43 (by decide) ?_
        exact ih _ _ _ _ _ _  hR hS (lv_sub hl [2, 3, 1, 0] rfl) h
      clear eJ39
      obtain ⟨J34, eJ34, h⟩ := lt_e h
      have hJ34 : ∀ (S9 : St) (H : Heap) (locs : List Loc) (ls : Array Slot), Rp E α g S9 H → va_S E.2.2.1 s.heap H locs → lv_has ls 4 [(0, .ref (α 54)), (1, .int v1), (3, .int v3)] → J34  S9 = some z → W p l e rm_X11_hasNumber s m args below meth c H locs 0 0 (MQ below (Qi E α g z) args s 0 0 E.2.2.1) (F0 m 34 ls []) := by
        intro  S9 H locs ls  hR hS hl h
        rw [eJ34] at h
        refine lv_iconst (v := 1) hx hb dX11_hasNumber_34 (by decide) ?_
        refine lv_goto (tgt := 39) hx hb dX11_hasNumber_35 (by decide) ?_
        exact hJ39 _ _ _ _ _  hR hS hl h
      clear eJ34
      refine lv_if_ne (tgt := 34) hx hb dX11_hasNumber_15 (by decide) (fun c10 => ?_) (fun c10 => ?_)
      · have h := ite_f c10 h
        exact hJ34  _ _ _ _  hR hS (lv_sub hl [0, 1, 3] rfl) h
      · have h := ite_t c10 h
        refine lv_aload_n hx hb dX11_hasNumber_18 rfl (lv_at hl 0 rfl) ?_
        refine g_getr (t := 70) C hR (k := 54) (j := 25) (live_st (by decide)) rfl rfl (vw11) inl11 (by decide) q968 dX11_hasNumber_19 ?_
        refine lv_bipush (v := 8) hx hb dX11_hasNumber_22 (by decide) ?_
        refine lv_iload_n hx hb dX11_hasNumber_24 rfl (lv_at hl 1 rfl) ?_
        refine lv_imul hx hb dX11_hasNumber_25 ?_
        refine lv_iload_n hx hb dX11_hasNumber_26 rfl (lv_at hl 3 rfl) ?_
        refine lv_iadd hx hb dX11_hasNumber_27 ?_
        obtain ⟨g11, h⟩ := gd_e h
        refine g_iald C hR (k := 70) (n := 64) (live_st (by decide)) rfl g11 dX11_hasNumber_28 ?_
        refine lv_bipush (v := 32) hx hb dX11_hasNumber_29 (by decide) ?_
        refine lv_icmp_ne (tgt := 38) hx hb dX11_hasNumber_31 (by decide) (fun c12 => ?_) (fun c12 => ?_)
        · have h := ite_f c12 h
          refine lv_iconst (v := 0) hx hb dX11_hasNumber_38 (by decide) ?_
          exact hJ39 _ _ _ _ _  hR hS (lv_sub hl [0, 1, 3] rfl) h
        · have h := ite_t c12 h
          exact hJ34  _ _ _ _  hR hS (lv_sub hl [0, 1, 3] rfl) h

set_option maxHeartbeats 4000000 in
set_option maxRecDepth 100000 in
theorem c_X11_hasNumber (l : Launch) {E : En} {α : Nat → Nat} {g : Nat × Nat} {v1 : Int32} {S : St}  {z : Int32 × St} (h : f_X11_hasNumber v1 S = some z) : Met l yX11_hasNumber (wsY yX11_hasNumber cX11_hasNumber 4 (some .boolean)) rm_X11_hasNumber (va_Pc [.ref (α 54), .int v1] (Wd E α g S)) (Qi E α g z) 0 0 E.2.2.1 := by
  refine g_met [.ref (α 54), .int v1] (by decide) rfl (Nat.le_of_ble_eq_true rfl) ?_
  intro p e s m below meth c ls C hR hl
  generalize hae : ([.ref (α 54), .int v1] : List Value).toArray = args at C ⊢
  have hl : lv_has ls 4 [(0, .ref (α 54)), (1, .int v1)] := hl
  obtain ⟨hx, hb, hml, hown, hts, hlk, hrt, hKs⟩ := id C
  have hS : va_S E.2.2.1 s.heap s.heap [] := va_S.rf
  unfold f_X11_hasNumber at h
  refine lv_iconst (v := 0) hx hb dX11_hasNumber_0 (by decide) ?_
  refine lv_istore_n (lv' := [(2, .int (0 : Int32)), (0, .ref (α 54)), (1, .int v1)]) hx hb dX11_hasNumber_1 rfl hl (by decide) rfl (fun ls hl => ?_)
  refine lv_iconst (v := 0) hx hb dX11_hasNumber_2 (by decide) ?_
  refine lv_istore_n (lv' := [(3, .int (0 : Int32)), (2, .int (0 : Int32)), (0, .ref (α 54)), (1, .int v1)]) hx hb dX11_hasNumber_3 rfl hl (by decide) rfl (fun ls hl => ?_)
  refine w_X11_hasNumber_L4 C ?_  _ _ _ _ _ _ _  hR hS (lv_sub hl [2, 3, 1, 0] rfl) h
  · intro x13 S14 H locs ls  hR hS hl h
    refine lv_iload_n hx hb dX11_hasNumber_46 rfl (lv_at hl 0 rfl) ?_
    obtain ⟨hz, h⟩ := gd_e h
    exact g_zret C hR hS hz h dX11_hasNumber_47

/-! OneVoiceModel.bits(I)I -/
abbrev rm_X11_bits : Room := { frames := 0, cells := 0, slots := 0, locals := 0 }
theorem m_X11_bits : MS yX11_bits cX11_bits 3 (some .int) 1 := ⟨q1329, q77, q1330, by decide +kernel⟩
def f_X11_bits_L4 (K24 : Int32 → St → Option (Int32 × St)) (v0 : Int32) : Nat → Int32 → Int32 → St → Option (Int32 × St)
  | 0, _, _, _ => none
  | f + 1, v1, v2, S =>
    if (16 : Int32) ≤ v2 then
      K24 v1 S
    else
      lt_ (v1 + ((v0 >>> (v2 &&& 31)) &&& (1 : Int32))) fun x4 =>
      lt_ (v2 + (1 : Int32)) fun x5 =>
      f_X11_bits_L4 K24 v0 f x4 x5 S

def f_X11_bits (v0 : Int32) (S : St) : Option (Int32 × St) :=
  f_X11_bits_L4
    (fun (x6 : Int32) (S7 : St) =>
      some (x6, S7))
    v0 FU (0 : Int32) (0 : Int32) S

set_option maxHeartbeats 4000000 in
set_option maxRecDepth 100000 in
theorem w_X11_bits_L4 {p : Program} {l : Launch} {e : Env} {s : State} {m : MethodId} {args : Array Value} {below : List Frame} {meth : Method} {c : Code} {E : En} {α : Nat → Nat} {g : Nat × Nat} (C : Cx p s m args meth c RX11 cX11_bits 3 (some .int) E) {z : Int32 × St} {K24 : Int32 → St → Option (Int32 × St)} {v0 : Int32}
    (hK24 : ∀ (y1 : Int32) (S : St) (H : Heap) (locs : List Loc) (ls : Array Slot), Rp E α g S H → va_S E.2.2.1 s.heap H locs → lv_has ls 3 [(1, .int y1)] → K24 y1 S = some z → W p l e rm_X11_bits s m args below meth c H locs 0 0 (MQ below (Qi E α g z) args s 0 0 E.2.2.1) (F0 m 24 ls [])) :
    ∀ (f : Nat) (v1 : Int32) (v2 : Int32) (S : St) (H : Heap) (locs : List Loc) (ls : Array Slot), Rp E α g S H → va_S E.2.2.1 s.heap H locs → lv_has ls 3 [(0, .int v0), (1, .int v1), (2, .int v2)] → f_X11_bits_L4 K24 v0 f v1 v2 S = some z → W p l e rm_X11_bits s m args below meth c H locs 0 0 (MQ below (Qi E α g z) args s 0 0 E.2.2.1) (F0 m 4 ls []) := by
  obtain ⟨hx, hb, hml, hown, hts, hlk, hrt, hKs⟩ := id C
  intro f
  induction f with
  | zero =>
    intro v1 v2 S H locs ls  hR hS hl h
    rw [f_X11_bits_L4] at h
    cases h
  | succ f ih =>
    intro v1 v2 S H locs ls  hR hS hl h
    rw [f_X11_bits_L4] at h
    refine lv_iload_n hx hb dX11_bits_4 rfl (lv_at hl 2 rfl) ?_
    refine lv_bipush (v := 16) hx hb dX11_bits_5 (by decide) ?_
    refine lv_icmp_ge (tgt := 24) hx hb dX11_bits_7 (by decide) (fun c3 => ?_) (fun c3 => ?_)
    · have h := ite_t c3 h
      exact hK24 _ _ _ _ _  hR hS (lv_sub hl [1] rfl) h
    · have h := ite_f c3 h
      refine lv_iload_n hx hb dX11_bits_10 rfl (lv_at hl 1 rfl) ?_
      refine lv_iload_n hx hb dX11_bits_11 rfl (lv_at hl 0 rfl) ?_
      refine lv_iload_n hx hb dX11_bits_12 rfl (lv_at hl 2 rfl) ?_
      refine lv_ishr hx hb dX11_bits_13 ?_
      refine lv_iconst (v := 1) hx hb dX11_bits_14 (by decide) ?_
      refine lv_iand hx hb dX11_bits_15 ?_
      refine lv_iadd hx hb dX11_bits_16 ?_
      obtain ⟨x4, ex4, h⟩ := lt_e h
      refine g_nmi ex4 ?_
      refine lv_istore_n (lv' := [(1, .int x4), (0, .int v0), (2, .int v2)]) hx hb dX11_bits_17 rfl hl (by decide) rfl (fun ls hl => ?_)
      obtain ⟨x5, ex5, h⟩ := lt_e h
      refine lv_iinc (v := x5) (lv' := [(2, .int x5), (1, .int x4), (0, .int v0)]) hx hb dX11_bits_18 hl (k := 2) rfl (by rw [ex5]; rfl) (by decide) rfl (fun ls hl => ?_)
      refine lv_goto (tgt := 4) hx hb dX11_bits_21 (by decide) ?_
      exact ih _ _ _ _ _ _  hR hS (lv_sub hl [2, 1, 0] rfl) h

set_option maxHeartbeats 4000000 in
set_option maxRecDepth 100000 in
theorem c_X11_bits (l : Launch) {E : En} {α : Nat → Nat} {g : Nat × Nat} {v0 : Int32} {S : St}  {z : Int32 × St} (h : f_X11_bits v0 S = some z) : Met l yX11_bits (wsY yX11_bits cX11_bits 3 (some .int)) rm_X11_bits (va_Pc [.int v0] (Wd E α g S)) (Qi E α g z) 0 0 E.2.2.1 := by
  refine g_met [.int v0] (by decide) rfl (Nat.le_of_ble_eq_true rfl) ?_
  intro p e s m below meth c ls C hR hl
  generalize hae : ([.int v0] : List Value).toArray = args at C ⊢
  have hl : lv_has ls 3 [(0, .int v0)] := hl
  obtain ⟨hx, hb, hml, hown, hts, hlk, hrt, hKs⟩ := id C
  have hS : va_S E.2.2.1 s.heap s.heap [] := va_S.rf
  unfold f_X11_bits at h
  refine lv_iconst (v := 0) hx hb dX11_bits_0 (by decide) ?_
  refine lv_istore_n (lv' := [(1, .int (0 : Int32)), (0, .int v0)]) hx hb dX11_bits_1 rfl hl (by decide) rfl (fun ls hl => ?_)
  refine lv_iconst (v := 0) hx hb dX11_bits_2 (by decide) ?_
  refine lv_istore_n (lv' := [(2, .int (0 : Int32)), (1, .int (0 : Int32)), (0, .int v0)]) hx hb dX11_bits_3 rfl hl (by decide) rfl (fun ls hl => ?_)
  refine w_X11_bits_L4 C ?_  _ _ _ _ _ _ _  hR hS (lv_sub hl [2, 1, 0] rfl) h
  · intro x6 S7 H locs ls  hR hS hl h
    refine lv_iload_n hx hb dX11_bits_24 rfl (lv_at hl 0 rfl) ?_
    exact g_iret C hR hS h dX11_bits_25

/-! OneVoiceModel.doesRecord(I)Z -/
abbrev rm_X11_doesRecord : Room := { frames := 2, cells := 0, slots := 0, locals := 45 }
theorem m_X11_doesRecord : MV yX11_doesRecord RX11 cX11_doesRecord 4 (some .boolean) 1 := ⟨q1333, q64, q77, q1334, by decide +kernel⟩
def f_X11_doesRecord_L10 (K50 : St → Option (Int32 × St)) (K71 : St → Option (Int32 × St)) (v1 : Int32) : Nat → Int32 → St → Option (Int32 × St)
  | 0, _, _ => none
  | f + 1, v2, S =>
    if (8 : Int32) ≤ v2 then
      K71  S
    else
      lt_ (fun  (S8 : St) =>
          lt_ (v2 + (1 : Int32)) fun x9 =>
          f_X11_doesRecord_L10 K50 K71 v1 f x9 S8) fun J65 =>
      if ((v1 >>> (v2 &&& 31)) &&& (1 : Int32)) = (1 : Int32) then
        bd_ (f_X11_isLine v2 S) fun r11 S12 =>
        if r11 = 0 then
          K50  S12
        else
          bd_ (f_X11_hasNumber v2 S12) fun r14 S15 =>
          if r14 = 0 then
            bd_ (f_X11_canSpeak v2 (0 : Int32) S15) fun r17 S18 =>
            if r17 = 0 then
              K50  S18
            else
              bd_ (f_X11_addSteps 87 (0 : Int32) (rd S18 54 26) S18) fun r20 S21 =>
              J65  S21
          else
            K50  S15
      else
        J65  S

def f_X11_doesRecord_L75 (K115 : Int32 → St → Option (Int32 × St))  : Nat → Int32 → Int32 → St → Option (Int32 × St)
  | 0, _, _, _ => none
  | f + 1, v2, v3, S =>
    if (17 : Int32) ≤ v3 then
      K115 v2 S
    else
      lt_ (fun (t25 : Int32) (S26 : St) =>
          lt_ (v3 + (1 : Int32)) fun x27 =>
          f_X11_doesRecord_L75 K115 f t25 x27 S26) fun J108 =>
      lt_ (fun  (S28 : St) =>
          J108 (0 : Int32) S28) fun J107 =>
      if v2 = 0 then
        J107  S
      else
        gd_ (inb v3 17) <|
        gd_ (inb v3 17) <|
        if ((rd S 88 (Int32.toNatClampNeg v3)) &&& ((rd S 87 (Int32.toNatClampNeg v3)) ^^^ (-1 : Int32))) = 0 then
          J108 (1 : Int32) S
        else
          J107  S

def f_X11_doesRecord (v1 : Int32) (S : St) : Option (Int32 × St) :=
  bd_ (f_X11_clearSteps 87 S) fun r5 S6 =>
  f_X11_doesRecord_L10
    (fun  (S22 : St) =>
      some ((0 : Int32), S22))
    (fun  (S23 : St) =>
      f_X11_doesRecord_L75
        (fun (x33 : Int32) (S34 : St) =>
          gd_ (bz x33) <| some (x33, S34))
         FU (1 : Int32) (0 : Int32) S23)
    v1 FU (0 : Int32) S6

set_option maxHeartbeats 4000000 in
set_option maxRecDepth 100000 in
theorem w_X11_doesRecord_L10 {p : Program} {l : Launch} {e : Env} {s : State} {m : MethodId} {args : Array Value} {below : List Frame} {meth : Method} {c : Code} {E : En} {α : Nat → Nat} {g : Nat × Nat} (C : Cx p s m args meth c RX11 cX11_doesRecord 4 (some .boolean) E) {z : Int32 × St} {K50 : St → Option (Int32 × St)} {K71 : St → Option (Int32 × St)} {v1 : Int32}
    (hK50 : ∀ (S : St) (H : Heap) (locs : List Loc) (ls : Array Slot), Rp E α g S H → va_S E.2.2.1 s.heap H locs → lv_has ls 4 [] → K50  S = some z → W p l e rm_X11_doesRecord s m args below meth c H locs 0 0 (MQ below (Qi E α g z) args s 0 0 E.2.2.1) (F0 m 50 ls []))
    (hK71 : ∀ (S : St) (H : Heap) (locs : List Loc) (ls : Array Slot), Rp E α g S H → va_S E.2.2.1 s.heap H locs → lv_has ls 4 [(0, .ref (α 54))] → K71  S = some z → W p l e rm_X11_doesRecord s m args below meth c H locs 0 0 (MQ below (Qi E α g z) args s 0 0 E.2.2.1) (F0 m 71 ls [])) :
    ∀ (f : Nat) (v2 : Int32) (S : St) (H : Heap) (locs : List Loc) (ls : Array Slot), Rp E α g S H → va_S E.2.2.1 s.heap H locs → lv_has ls 4 [(0, .ref (α 54)), (1, .int v1), (2, .int v2)] → f_X11_doesRecord_L10 K50 K71 v1 f v2 S = some z → W p l e rm_X11_doesRecord s m args below meth c H locs 0 0 (MQ below (Qi E α g z) args s 0 0 E.2.2.1) (F0 m 10 ls []) := by
  obtain ⟨hx, hb, hml, hown, hts, hlk, hrt, hKs⟩ := id C
  intro f
  induction f with
  | zero =>
    intro v2 S H locs ls  hR hS hl h
    rw [f_X11_doesRecord_L10] at h
    cases h
  | succ f ih =>
    intro v2 S H locs ls  hR hS hl h
    rw [f_X11_doesRecord_L10] at h
    refine lv_iload_n hx hb dX11_doesRecord_10 rfl (lv_at hl 2 rfl) ?_
    refine lv_bipush (v := 8) hx hb dX11_doesRecord_11 (by decide) ?_
    refine lv_icmp_ge (tgt := 71) hx hb dX11_doesRecord_13 (by decide) (fun c7 => ?_) (fun c7 => ?_)
    · have h := ite_t c7 h
      exact hK71  _ _ _ _  hR hS (lv_sub hl [0] rfl) h
    · have h := ite_f c7 h
      refine lv_iload_n hx hb dX11_doesRecord_16 rfl (lv_at hl 1 rfl) ?_
      refine lv_iload_n hx hb dX11_doesRecord_17 rfl (lv_at hl 2 rfl) ?_
      refine lv_ishr hx hb dX11_doesRecord_18 ?_
      refine lv_iconst (v := 1) hx hb dX11_doesRecord_19 (by decide) ?_
      refine lv_iand hx hb dX11_doesRecord_20 ?_
      refine lv_iconst (v := 1) hx hb dX11_doesRecord_21 (by decide) ?_
      obtain ⟨J65, eJ65, h⟩ := lt_e h
      have hJ65 : ∀ (S8 : St) (H : Heap) (locs : List Loc) (ls : Array Slot), Rp E α g S8 H → va_S E.2.2.1 s.heap H locs → lv_has ls 4 [(0, .ref (α 54)), (1, .int v1), (2, .int v2)] → J65  S8 = some z → W p l e rm_X11_doesRecord s m args below meth c H locs 0 0 (MQ below (Qi E α g z) args s 0 0 E.2.2.1) (F0 m 65 ls []) := by
        intro  S8 H locs ls  hR hS hl h
        rw [eJ65] at h
        obtain ⟨x9, ex9, h⟩ := lt_e h
        refine lv_iinc (v := x9) (lv' := [(2, .int x9), (0, .ref (α 54)), (1, .int v1)]) hx hb dX11_doesRecord_65 hl (k := 2) rfl (by rw [ex9]; rfl) (by decide) rfl (fun ls hl => ?_)
        refine lv_goto (tgt := 10) hx hb dX11_doesRecord_68 (by decide) ?_
        exact ih _ _ _ _ _  hR hS (lv_sub hl [1, 2, 0] rfl) h
      clear eJ65
      refine lv_icmp_ne (tgt := 65) hx hb dX11_doesRecord_22 (by decide) (fun c10 => ?_) (fun c10 => ?_)
      · have h := ite_f c10 h
        exact hJ65  _ _ _ _  hR hS hl h
      · have h := ite_t c10 h
        refine lv_aload_n hx hb dX11_doesRecord_25 rfl (lv_at hl 0 rfl) ?_
        refine lv_iload_n hx hb dX11_doesRecord_26 rfl (lv_at hl 2 rfl) ?_
        obtain ⟨r11, S12, hr11, h⟩ := bd_e h
        refine g_ci hS (g_runV C hR hS (k := 54) (As := [.int v2]) (rest := []) (c_X11_isLine l  hr11) (live_st (by decide)) rfl (vw11) m_X11_isLine q1240 ⟨rfl, rfl⟩ ⟨Nat.le_of_ble_eq_true rfl, Nat.le_of_ble_eq_true rfl⟩ rfl hl.1 rfl (Nat.le_of_ble_eq_true rfl) dX11_doesRecord_27 ⟨Nat.zero_le _, Nat.zero_le _⟩) (fun H locs hR hS => ?_)
        refine lv_if_eq (tgt := 50) hx hb dX11_doesRecord_30 (by decide) (fun c13 => ?_) (fun c13 => ?_)
        · have h := ite_t c13 h
          exact hK50  _ _ _ _  hR hS (lv_sub hl [] rfl) h
        · have h := ite_f c13 h
          refine lv_aload_n hx hb dX11_doesRecord_33 rfl (lv_at hl 0 rfl) ?_
          refine lv_iload_n hx hb dX11_doesRecord_34 rfl (lv_at hl 2 rfl) ?_
          obtain ⟨r14, S15, hr14, h⟩ := bd_e h
          refine g_ci hS (g_runV C hR hS (k := 54) (As := [.int v2]) (rest := []) (c_X11_hasNumber l  hr14) (live_st (by decide)) rfl (vw11) m_X11_hasNumber q1335 ⟨rfl, rfl⟩ ⟨Nat.le_of_ble_eq_true rfl, Nat.le_of_ble_eq_true rfl⟩ rfl hl.1 rfl (Nat.le_of_ble_eq_true rfl) dX11_doesRecord_35 ⟨Nat.zero_le _, Nat.zero_le _⟩) (fun H locs hR hS => ?_)
          refine lv_if_ne (tgt := 50) hx hb dX11_doesRecord_38 (by decide) (fun c16 => ?_) (fun c16 => ?_)
          · have h := ite_f c16 h
            exact hK50  _ _ _ _  hR hS (lv_sub hl [] rfl) h
          · have h := ite_t c16 h
            refine lv_aload_n hx hb dX11_doesRecord_41 rfl (lv_at hl 0 rfl) ?_
            refine lv_iload_n hx hb dX11_doesRecord_42 rfl (lv_at hl 2 rfl) ?_
            refine lv_iconst (v := 0) hx hb dX11_doesRecord_43 (by decide) ?_
            obtain ⟨r17, S18, hr17, h⟩ := bd_e h
            refine g_ci hS (g_runV C hR hS (k := 54) (As := [.int v2, .int (0 : Int32)]) (rest := []) (c_X11_canSpeak l  hr17) (live_st (by decide)) rfl (vw11) m_X11_canSpeak q1244 ⟨rfl, rfl⟩ ⟨Nat.le_of_ble_eq_true rfl, Nat.le_of_ble_eq_true rfl⟩ rfl hl.1 rfl (Nat.le_of_ble_eq_true rfl) dX11_doesRecord_44 ⟨Nat.zero_le _, Nat.zero_le _⟩) (fun H locs hR hS => ?_)
            refine lv_if_ne (tgt := 52) hx hb dX11_doesRecord_47 (by decide) (fun c19 => ?_) (fun c19 => ?_)
            · have h := ite_f c19 h
              refine lv_aload_n hx hb dX11_doesRecord_52 rfl (lv_at hl 0 rfl) ?_
              refine lv_aload_n hx hb dX11_doesRecord_53 rfl (lv_at hl 0 rfl) ?_
              refine g_getr (t := 87) C hR (k := 54) (j := 45) (live_st (by decide)) rfl rfl (vw11) inl11 (by decide) q988 dX11_doesRecord_54 ?_
              refine lv_iconst (v := 0) hx hb dX11_doesRecord_57 (by decide) ?_
              refine lv_aload_n hx hb dX11_doesRecord_58 rfl (lv_at hl 0 rfl) ?_
              refine g_geti C hR (k := 54) (j := 26) (live_st (by decide)) rfl rfl (vw11) inl11 (by decide) q969 dX11_doesRecord_59 ?_
              obtain ⟨r20, S21, hr20, h⟩ := bd_e h
              refine g_cv hS (g_runV C hR hS (k := 54) (As := [.ref (α 87), .int (0 : Int32), .int (rd S18 54 26)]) (rest := []) (c_X11_addSteps l ⟨by decide, rfl⟩ hr20) (live_st (by decide)) rfl (vw11) m_X11_addSteps q1323 ⟨rfl, rfl⟩ ⟨Nat.le_of_ble_eq_true rfl, Nat.le_of_ble_eq_true rfl⟩ rfl hl.1 rfl (Nat.le_of_ble_eq_true rfl) dX11_doesRecord_62 ⟨Nat.zero_le _, Nat.zero_le _⟩) (fun H locs hR hS => ?_)
              exact hJ65  _ _ _ _  hR hS hl h
            · have h := ite_t c19 h
              exact hK50  _ _ _ _  hR hS (lv_sub hl [] rfl) h

set_option maxHeartbeats 4000000 in
set_option maxRecDepth 100000 in
theorem w_X11_doesRecord_L75 {p : Program} {l : Launch} {e : Env} {s : State} {m : MethodId} {args : Array Value} {below : List Frame} {meth : Method} {c : Code} {E : En} {α : Nat → Nat} {g : Nat × Nat} (C : Cx p s m args meth c RX11 cX11_doesRecord 4 (some .boolean) E) {z : Int32 × St} {K115 : Int32 → St → Option (Int32 × St)}
    (hK115 : ∀ (y2 : Int32) (S : St) (H : Heap) (locs : List Loc) (ls : Array Slot), Rp E α g S H → va_S E.2.2.1 s.heap H locs → lv_has ls 4 [(2, .int y2)] → K115 y2 S = some z → W p l e rm_X11_doesRecord s m args below meth c H locs 0 0 (MQ below (Qi E α g z) args s 0 0 E.2.2.1) (F0 m 115 ls [])) :
    ∀ (f : Nat) (v2 : Int32) (v3 : Int32) (S : St) (H : Heap) (locs : List Loc) (ls : Array Slot), Rp E α g S H → va_S E.2.2.1 s.heap H locs → lv_has ls 4 [(0, .ref (α 54)), (2, .int v2), (3, .int v3)] → f_X11_doesRecord_L75 K115 f v2 v3 S = some z → W p l e rm_X11_doesRecord s m args below meth c H locs 0 0 (MQ below (Qi E α g z) args s 0 0 E.2.2.1) (F0 m 75 ls []) := by
  obtain ⟨hx, hb, hml, hown, hts, hlk, hrt, hKs⟩ := id C
  intro f
  induction f with
  | zero =>
    intro v2 v3 S H locs ls  hR hS hl h
    rw [f_X11_doesRecord_L75] at h
    cases h
  | succ f ih =>
    intro v2 v3 S H locs ls  hR hS hl h
    rw [f_X11_doesRecord_L75] at h
    refine lv_iload_n hx hb dX11_doesRecord_75 rfl (lv_at hl 2 rfl) ?_
    refine lv_bipush (v := 17) hx hb dX11_doesRecord_76 (by decide) ?_
    refine lv_icmp_ge (tgt := 115) hx hb dX11_doesRecord_78 (by decide) (fun c24 => ?_) (fun c24 => ?_)
    · have h := ite_t c24 h
      exact hK115 _ _ _ _ _  hR hS (lv_sub hl [1] rfl) h
    · have h := ite_f c24 h
      refine lv_iload_n hx hb dX11_doesRecord_81 rfl (lv_at hl 1 rfl) ?_
      obtain ⟨J108, eJ108, h⟩ := lt_e h
      have hJ108 : ∀ (t25 : Int32) (S26 : St) (H : Heap) (locs : List Loc) (ls : Array Slot), Rp E α g S26 H → va_S E.2.2.1 s.heap H locs → lv_has ls 4 [(0, .ref (α 54)), (3, .int v3)] → J108 t25 S26 = some z → W p l e rm_X11_doesRecord s m args below meth c H locs 0 0 (MQ below (Qi E α g z) args s 0 0 E.2.2.1) (F0 m 108 ls [.int t25]) := by
        intro t25 S26 H locs ls  hR hS hl h
        rw [eJ108] at h
        refine lv_istore_n (lv' := [(2, .int t25), (0, .ref (α 54)), (3, .int v3)]) hx hb dX11_doesRecord_108 rfl hl (by decide) rfl (fun ls hl => ?_)
        obtain ⟨x27, ex27, h⟩ := lt_e h
        refine lv_iinc (v := x27) (lv' := [(3, .int x27), (2, .int t25), (0, .ref (α 54))]) hx hb dX11_doesRecord_109 hl (k := 2) rfl (by rw [ex27]; rfl) (by decide) rfl (fun ls hl => ?_)
        refine lv_goto (tgt := 75) hx hb dX11_doesRecord_112 (by decide) ?_
        exact ih _ _ _ _ _ _  hR hS (lv_sub hl [2, 1, 0] rfl) h
      clear eJ108
      obtain ⟨J107, eJ107, h⟩ := lt_e h
      have hJ107 : ∀ (S28 : St) (H : Heap) (locs : List Loc) (ls : Array Slot), Rp E α g S28 H → va_S E.2.2.1 s.heap H locs → lv_has ls 4 [(0, .ref (α 54)), (3, .int v3)] → J107  S28 = some z → W p l e rm_X11_doesRecord s m args below meth c H locs 0 0 (MQ below (Qi E α g z) args s 0 0 E.2.2.1) (F0 m 107 ls []) := by
        intro  S28 H locs ls  hR hS hl h
        rw [eJ107] at h
        refine lv_iconst (v := 0) hx hb dX11_doesRecord_107 (by decide) ?_
        exact hJ108 _ _ _ _ _  hR hS hl h
      clear eJ107
      refine lv_if_eq (tgt := 107) hx hb dX11_doesRecord_82 (by decide) (fun c29 => ?_) (fun c29 => ?_)
      · have h := ite_t c29 h
        exact hJ107  _ _ _ _  hR hS (lv_sub hl [0, 2] rfl) h
      · have h := ite_f c29 h
        refine lv_aload_n hx hb dX11_doesRecord_85 rfl (lv_at hl 0 rfl) ?_
        refine g_getr (t := 88) C hR (k := 54) (j := 46) (live_st (by decide)) rfl rfl (vw11) inl11 (by decide) q989 dX11_doesRecord_86 ?_
        refine lv_iload_n hx hb dX11_doesRecord_89 rfl (lv_at hl 2 rfl) ?_
        obtain ⟨g30, h⟩ := gd_e h
        refine g_iald C hR (k := 88) (n := 17) (live_st (by decide)) rfl g30 dX11_doesRecord_90 ?_
        refine lv_aload_n hx hb dX11_doesRecord_91 rfl (lv_at hl 0 rfl) ?_
        refine g_getr (t := 87) C hR (k := 54) (j := 45) (live_st (by decide)) rfl rfl (vw11) inl11 (by decide) q988 dX11_doesRecord_92 ?_
        refine lv_iload_n hx hb dX11_doesRecord_95 rfl (lv_at hl 2 rfl) ?_
        obtain ⟨g31, h⟩ := gd_e h
        refine g_iald C hR (k := 87) (n := 17) (live_st (by decide)) rfl g31 dX11_doesRecord_96 ?_
        refine lv_iconst (v := -1) hx hb dX11_doesRecord_97 (by decide) ?_
        refine lv_ixor hx hb dX11_doesRecord_98 ?_
        refine lv_iand hx hb dX11_doesRecord_99 ?_
        refine lv_if_ne (tgt := 107) hx hb dX11_doesRecord_100 (by decide) (fun c32 => ?_) (fun c32 => ?_)
        · have h := ite_f c32 h
          exact hJ107  _ _ _ _  hR hS (lv_sub hl [0, 2] rfl) h
        · have h := ite_t c32 h
          refine lv_iconst (v := 1) hx hb dX11_doesRecord_103 (by decide) ?_
          refine lv_goto (tgt := 108) hx hb dX11_doesRecord_104 (by decide) ?_
          exact hJ108 _ _ _ _ _  hR hS (lv_sub hl [0, 2] rfl) h

set_option maxHeartbeats 4000000 in
set_option maxRecDepth 100000 in
theorem c_X11_doesRecord (l : Launch) {E : En} {α : Nat → Nat} {g : Nat × Nat} {v1 : Int32} {S : St}  {z : Int32 × St} (h : f_X11_doesRecord v1 S = some z) : Met l yX11_doesRecord (wsY yX11_doesRecord cX11_doesRecord 4 (some .boolean)) rm_X11_doesRecord (va_Pc [.ref (α 54), .int v1] (Wd E α g S)) (Qi E α g z) 0 0 E.2.2.1 := by
  refine g_met [.ref (α 54), .int v1] (by decide) rfl (Nat.le_of_ble_eq_true rfl) ?_
  intro p e s m below meth c ls C hR hl
  generalize hae : ([.ref (α 54), .int v1] : List Value).toArray = args at C ⊢
  have hl : lv_has ls 4 [(0, .ref (α 54)), (1, .int v1)] := hl
  obtain ⟨hx, hb, hml, hown, hts, hlk, hrt, hKs⟩ := id C
  have hS : va_S E.2.2.1 s.heap s.heap [] := va_S.rf
  unfold f_X11_doesRecord at h
  refine lv_aload_n hx hb dX11_doesRecord_0 rfl (lv_at hl 0 rfl) ?_
  refine lv_aload_n hx hb dX11_doesRecord_1 rfl (lv_at hl 0 rfl) ?_
  refine g_getr (t := 87) C hR (k := 54) (j := 45) (live_st (by decide)) rfl rfl (vw11) inl11 (by decide) q988 dX11_doesRecord_2 ?_
  obtain ⟨r5, S6, hr5, h⟩ := bd_e h
  refine g_cv hS (g_runV C hR hS (k := 54) (As := [.ref (α 87)]) (rest := []) (c_X11_clearSteps l ⟨by decide, rfl⟩ hr5) (live_st (by decide)) rfl (vw11) m_X11_clearSteps q1319 ⟨rfl, rfl⟩ ⟨Nat.le_of_ble_eq_true rfl, Nat.le_of_ble_eq_true rfl⟩ rfl hl.1 rfl (Nat.le_of_ble_eq_true rfl) dX11_doesRecord_5 ⟨Nat.zero_le _, Nat.zero_le _⟩) (fun H locs hR hS => ?_)
  refine lv_iconst (v := 0) hx hb dX11_doesRecord_8 (by decide) ?_
  refine lv_istore_n (lv' := [(2, .int (0 : Int32)), (0, .ref (α 54)), (1, .int v1)]) hx hb dX11_doesRecord_9 rfl hl (by decide) rfl (fun ls hl => ?_)
  refine w_X11_doesRecord_L10 C ?_ ?_  _ _ _ _ _ _  hR hS (lv_sub hl [1, 2, 0] rfl) h
  · intro  S22 H locs ls  hR hS hl h
    refine lv_iconst (v := 0) hx hb dX11_doesRecord_50 (by decide) ?_
    exact g_zret C hR hS bz0 h dX11_doesRecord_51
  · intro  S23 H locs ls  hR hS hl h
    refine lv_iconst (v := 1) hx hb dX11_doesRecord_71 (by decide) ?_
    refine lv_istore_n (lv' := [(2, .int (1 : Int32)), (0, .ref (α 54))]) hx hb dX11_doesRecord_72 rfl hl (by decide) rfl (fun ls hl => ?_)
    refine lv_iconst (v := 0) hx hb dX11_doesRecord_73 (by decide) ?_
    refine lv_istore_n (lv' := [(3, .int (0 : Int32)), (2, .int (1 : Int32)), (0, .ref (α 54))]) hx hb dX11_doesRecord_74 rfl hl (by decide) rfl (fun ls hl => ?_)
    refine w_X11_doesRecord_L75 C ?_  _ _ _ _ _ _ _  hR hS (lv_sub hl [2, 1, 0] rfl) h
    · intro x33 S34 H locs ls  hR hS hl h
      refine lv_iload_n hx hb dX11_doesRecord_115 rfl (lv_at hl 0 rfl) ?_
      obtain ⟨hz, h⟩ := gd_e h
      exact g_zret C hR hS hz h dX11_doesRecord_116

/-! OneVoiceModel.record()I -/
abbrev rm_X11_record : Room := { frames := 3, cells := 0, slots := 0, locals := 68 }
theorem m_X11_record : MV yX11_record RX11 cX11_record 3 (some .int) 0 := ⟨q1316, q1317, q77, q1318, by decide +kernel⟩
def f_X11_record_L11 (K49 : St → Option (Int32 × St))  : Nat → Int32 → St → Option (Int32 × St)
  | 0, _, _ => none
  | f + 1, v1, S =>
    if (32 : Int32) ≤ v1 then
      K49  S
    else
      gd_ (inb v1 32) <|
      lt_ (fun  (S9 : St) =>
          lt_ (v1 + (1 : Int32)) fun x10 =>
          f_X11_record_L11 K49 f x10 S9) fun J43 =>
      if (rd S 67 (Int32.toNatClampNeg v1)) ≤ 0 then
        J43  S
      else
        lt_ (wr S 71 (Int32.toNatClampNeg (0 : Int32)) v1) fun S12 =>
        bd_ (f_X11_addSteps 88 (0 : Int32) (1 : Int32) S12) fun r13 S14 =>
        J43  S14

def f_X11_record_L53 (K96 : Int32 → St → Option (Int32 × St))  : Nat → Int32 → Int32 → St → Option (Int32 × St)
  | 0, _, _, _ => none
  | f + 1, v1, v2, S =>
    if (256 : Int32) ≤ v2 then
      K96 v1 S
    else
      lt_ (fun (x17 : Int32) (S18 : St) =>
          lt_ (v2 + (1 : Int32)) fun x19 =>
          f_X11_record_L53 K96 f x17 x19 S18) fun J90 =>
      lt_ (fun  (S20 : St) =>
          bd_ (f_X11_doesRecord v2 S20) fun r21 S22 =>
          lt_ (fun (t23 : Int32) (S24 : St) =>
              J90 t23 S24) fun J89 =>
          if r21 = 0 then
            J89 v1 S22
          else
            J89 v2 S22) fun J76 =>
      if v1 = (-1 : Int32) then
        J76  S
      else
        bd_ (f_X11_bits v2 S) fun r27 S28 =>
        bd_ (f_X11_bits v1 S28) fun r29 S30 =>
        if r29 ≤ r27 then
          J90 v1 S30
        else
          J76  S30

def f_X11_record  (S : St) : Option (Int32 × St) :=
  bd_ (f_X11_clearSteps 88 S) fun r5 S6 =>
  f_X11_record_L11
    (fun  (S15 : St) =>
      f_X11_record_L53
        (fun (x32 : Int32) (S33 : St) =>
          some (x32, S33))
         FU (-1 : Int32) (0 : Int32) S15)
     FU (28 : Int32) S6

set_option maxHeartbeats 4000000 in
set_option maxRecDepth 100000 in
theorem w_X11_record_L11 {p : Program} {l : Launch} {e : Env} {s : State} {m : MethodId} {args : Array Value} {below : List Frame} {meth : Method} {c : Code} {E : En} {α : Nat → Nat} {g : Nat × Nat} (C : Cx p s m args meth c RX11 cX11_record 3 (some .int) E) {z : Int32 × St} {K49 : St → Option (Int32 × St)}
    (hK49 : ∀ (S : St) (H : Heap) (locs : List Loc) (ls : Array Slot), Rp E α g S H → va_S E.2.2.1 s.heap H locs → lv_has ls 3 [(0, .ref (α 54))] → K49  S = some z → W p l e rm_X11_record s m args below meth c H locs 0 0 (MQ below (Qi E α g z) args s 0 0 E.2.2.1) (F0 m 49 ls [])) :
    ∀ (f : Nat) (v1 : Int32) (S : St) (H : Heap) (locs : List Loc) (ls : Array Slot), Rp E α g S H → va_S E.2.2.1 s.heap H locs → lv_has ls 3 [(0, .ref (α 54)), (1, .int v1)] → f_X11_record_L11 K49 f v1 S = some z → W p l e rm_X11_record s m args below meth c H locs 0 0 (MQ below (Qi E α g z) args s 0 0 E.2.2.1) (F0 m 11 ls []) := by
  obtain ⟨hx, hb, hml, hown, hts, hlk, hrt, hKs⟩ := id C
  intro f
  induction f with
  | zero =>
    intro v1 S H locs ls  hR hS hl h
    rw [f_X11_record_L11] at h
    cases h
  | succ f ih =>
    intro v1 S H locs ls  hR hS hl h
    rw [f_X11_record_L11] at h
    refine lv_iload_n hx hb dX11_record_11 rfl (lv_at hl 1 rfl) ?_
    refine lv_bipush (v := 32) hx hb dX11_record_12 (by decide) ?_
    refine lv_icmp_ge (tgt := 49) hx hb dX11_record_14 (by decide) (fun c7 => ?_) (fun c7 => ?_)
    · have h := ite_t c7 h
      exact hK49  _ _ _ _  hR hS (lv_sub hl [0] rfl) h
    · have h := ite_f c7 h
      refine lv_aload_n hx hb dX11_record_17 rfl (lv_at hl 0 rfl) ?_
      refine g_getr (t := 67) C hR (k := 54) (j := 22) (live_st (by decide)) rfl rfl (vw11) inl11 (by decide) q965 dX11_record_18 ?_
      refine lv_iload_n hx hb dX11_record_21 rfl (lv_at hl 1 rfl) ?_
      obtain ⟨g8, h⟩ := gd_e h
      refine g_iald C hR (k := 67) (n := 32) (live_st (by decide)) rfl g8 dX11_record_22 ?_
      obtain ⟨J43, eJ43, h⟩ := lt_e h
      have hJ43 : ∀ (S9 : St) (H : Heap) (locs : List Loc) (ls : Array Slot), Rp E α g S9 H → va_S E.2.2.1 s.heap H locs → lv_has ls 3 [(0, .ref (α 54)), (1, .int v1)] → J43  S9 = some z → W p l e rm_X11_record s m args below meth c H locs 0 0 (MQ below (Qi E α g z) args s 0 0 E.2.2.1) (F0 m 43 ls []) := by
        intro  S9 H locs ls  hR hS hl h
        rw [eJ43] at h
        obtain ⟨x10, ex10, h⟩ := lt_e h
        refine lv_iinc (v := x10) (lv' := [(1, .int x10), (0, .ref (α 54))]) hx hb dX11_record_43 hl (k := 1) rfl (by rw [ex10]; rfl) (by decide) rfl (fun ls hl => ?_)
        refine lv_goto (tgt := 11) hx hb dX11_record_46 (by decide) ?_
        exact ih _ _ _ _ _  hR hS (lv_sub hl [1, 0] rfl) h
      clear eJ43
      refine lv_if_le (tgt := 43) hx hb dX11_record_23 (by decide) (fun c11 => ?_) (fun c11 => ?_)
      · have h := ite_t c11 h
        exact hJ43  _ _ _ _  hR hS hl h
      · have h := ite_f c11 h
        refine lv_aload_n hx hb dX11_record_26 rfl (lv_at hl 0 rfl) ?_
        refine g_getr (t := 71) C hR (k := 54) (j := 27) (live_st (by decide)) rfl rfl (vw11) inl11 (by decide) q970 dX11_record_27 ?_
        refine lv_iconst (v := 0) hx hb dX11_record_30 (by decide) ?_
        refine lv_iload_n hx hb dX11_record_31 rfl (lv_at hl 1 rfl) ?_
        obtain ⟨S12, eS12, h⟩ := lt_e h
        refine g_iast C hR hS (k := 71) (n := 16) (live_st (by decide)) rfl (show inb (0 : Int32) 16 by decide) eS12 dX11_record_32 (fun H locs hR hS => ?_)
        refine lv_aload_n hx hb dX11_record_33 rfl (lv_at hl 0 rfl) ?_
        refine lv_aload_n hx hb dX11_record_34 rfl (lv_at hl 0 rfl) ?_
        refine g_getr (t := 88) C hR (k := 54) (j := 46) (live_st (by decide)) rfl rfl (vw11) inl11 (by decide) q989 dX11_record_35 ?_
        refine lv_iconst (v := 0) hx hb dX11_record_38 (by decide) ?_
        refine lv_iconst (v := 1) hx hb dX11_record_39 (by decide) ?_
        obtain ⟨r13, S14, hr13, h⟩ := bd_e h
        refine g_cv hS (g_runV C hR hS (k := 54) (As := [.ref (α 88), .int (0 : Int32), .int (1 : Int32)]) (rest := []) (c_X11_addSteps l ⟨by decide, rfl⟩ hr13) (live_st (by decide)) rfl (vw11) m_X11_addSteps q1323 ⟨rfl, rfl⟩ ⟨Nat.le_of_ble_eq_true rfl, Nat.le_of_ble_eq_true rfl⟩ rfl hl.1 rfl (Nat.le_of_ble_eq_true rfl) dX11_record_40 ⟨Nat.zero_le _, Nat.zero_le _⟩) (fun H locs hR hS => ?_)
        exact hJ43  _ _ _ _  hR hS hl h

set_option maxHeartbeats 4000000 in
set_option maxRecDepth 100000 in
theorem w_X11_record_L53 {p : Program} {l : Launch} {e : Env} {s : State} {m : MethodId} {args : Array Value} {below : List Frame} {meth : Method} {c : Code} {E : En} {α : Nat → Nat} {g : Nat × Nat} (C : Cx p s m args meth c RX11 cX11_record 3 (some .int) E) {z : Int32 × St} {K96 : Int32 → St → Option (Int32 × St)}
    (hK96 : ∀ (y1 : Int32) (S : St) (H : Heap) (locs : List Loc) (ls : Array Slot), Rp E α g S H → va_S E.2.2.1 s.heap H locs → lv_has ls 3 [(1, .int y1)] → K96 y1 S = some z → W p l e rm_X11_record s m args below meth c H locs 0 0 (MQ below (Qi E α g z) args s 0 0 E.2.2.1) (F0 m 96 ls [])) :
    ∀ (f : Nat) (v1 : Int32) (v2 : Int32) (S : St) (H : Heap) (locs : List Loc) (ls : Array Slot), Rp E α g S H → va_S E.2.2.1 s.heap H locs → lv_has ls 3 [(0, .ref (α 54)), (1, .int v1), (2, .int v2)] → f_X11_record_L53 K96 f v1 v2 S = some z → W p l e rm_X11_record s m args below meth c H locs 0 0 (MQ below (Qi E α g z) args s 0 0 E.2.2.1) (F0 m 53 ls []) := by
  obtain ⟨hx, hb, hml, hown, hts, hlk, hrt, hKs⟩ := id C
  intro f
  induction f with
  | zero =>
    intro v1 v2 S H locs ls  hR hS hl h
    rw [f_X11_record_L53] at h
    cases h
  | succ f ih =>
    intro v1 v2 S H locs ls  hR hS hl h
    rw [f_X11_record_L53] at h
    refine lv_iload_n hx hb dX11_record_53 rfl (lv_at hl 2 rfl) ?_
    refine lv_sipush (v := 256) hx hb dX11_record_54 (by decide) ?_
    refine lv_icmp_ge (tgt := 96) hx hb dX11_record_57 (by decide) (fun c16 => ?_) (fun c16 => ?_)
    · have h := ite_t c16 h
      exact hK96 _ _ _ _ _  hR hS (lv_sub hl [1] rfl) h
    · have h := ite_f c16 h
      refine lv_iload_n hx hb dX11_record_60 rfl (lv_at hl 1 rfl) ?_
      refine lv_iconst (v := -1) hx hb dX11_record_61 (by decide) ?_
      obtain ⟨J90, eJ90, h⟩ := lt_e h
      have hJ90 : ∀ (x17 : Int32) (S18 : St) (H : Heap) (locs : List Loc) (ls : Array Slot), Rp E α g S18 H → va_S E.2.2.1 s.heap H locs → lv_has ls 3 [(0, .ref (α 54)), (1, .int x17), (2, .int v2)] → J90 x17 S18 = some z → W p l e rm_X11_record s m args below meth c H locs 0 0 (MQ below (Qi E α g z) args s 0 0 E.2.2.1) (F0 m 90 ls []) := by
        intro x17 S18 H locs ls  hR hS hl h
        rw [eJ90] at h
        obtain ⟨x19, ex19, h⟩ := lt_e h
        refine lv_iinc (v := x19) (lv' := [(2, .int x19), (0, .ref (α 54)), (1, .int x17)]) hx hb dX11_record_90 hl (k := 2) rfl (by rw [ex19]; rfl) (by decide) rfl (fun ls hl => ?_)
        refine lv_goto (tgt := 53) hx hb dX11_record_93 (by decide) ?_
        exact ih _ _ _ _ _ _  hR hS (lv_sub hl [1, 2, 0] rfl) h
      clear eJ90
      obtain ⟨J76, eJ76, h⟩ := lt_e h
      have hJ76 : ∀ (S20 : St) (H : Heap) (locs : List Loc) (ls : Array Slot), Rp E α g S20 H → va_S E.2.2.1 s.heap H locs → lv_has ls 3 [(0, .ref (α 54)), (1, .int v1), (2, .int v2)] → J76  S20 = some z → W p l e rm_X11_record s m args below meth c H locs 0 0 (MQ below (Qi E α g z) args s 0 0 E.2.2.1) (F0 m 76 ls []) := by
        intro  S20 H locs ls  hR hS hl h
        rw [eJ76] at h
        refine lv_aload_n hx hb dX11_record_76 rfl (lv_at hl 0 rfl) ?_
        refine lv_iload_n hx hb dX11_record_77 rfl (lv_at hl 2 rfl) ?_
        obtain ⟨r21, S22, hr21, h⟩ := bd_e h
        refine g_ci hS (g_runV C hR hS (k := 54) (As := [.int v2]) (rest := []) (c_X11_doesRecord l  hr21) (live_st (by decide)) rfl (vw11) m_X11_doesRecord q1331 ⟨rfl, rfl⟩ ⟨Nat.le_of_ble_eq_true rfl, Nat.le_of_ble_eq_true rfl⟩ rfl hl.1 rfl (Nat.le_of_ble_eq_true rfl) dX11_record_78 ⟨Nat.zero_le _, Nat.zero_le _⟩) (fun H locs hR hS => ?_)
        obtain ⟨J89, eJ89, h⟩ := lt_e h
        have hJ89 : ∀ (t23 : Int32) (S24 : St) (H : Heap) (locs : List Loc) (ls : Array Slot), Rp E α g S24 H → va_S E.2.2.1 s.heap H locs → lv_has ls 3 [(0, .ref (α 54)), (2, .int v2)] → J89 t23 S24 = some z → W p l e rm_X11_record s m args below meth c H locs 0 0 (MQ below (Qi E α g z) args s 0 0 E.2.2.1) (F0 m 89 ls [.int t23]) := by
          intro t23 S24 H locs ls  hR hS hl h
          rw [eJ89] at h
          refine lv_istore_n (lv' := [(1, .int t23), (0, .ref (α 54)), (2, .int v2)]) hx hb dX11_record_89 rfl hl (by decide) rfl (fun ls hl => ?_)
          exact hJ90 _ _ _ _ _  hR hS (lv_sub hl [1, 0, 2] rfl) h
        clear eJ89
        refine lv_if_eq (tgt := 88) hx hb dX11_record_81 (by decide) (fun c25 => ?_) (fun c25 => ?_)
        · have h := ite_t c25 h
          refine lv_iload_n hx hb dX11_record_88 rfl (lv_at hl 1 rfl) ?_
          exact hJ89 _ _ _ _ _  hR hS (lv_sub hl [0, 2] rfl) h
        · have h := ite_f c25 h
          refine lv_iload_n hx hb dX11_record_84 rfl (lv_at hl 2 rfl) ?_
          refine lv_goto (tgt := 89) hx hb dX11_record_85 (by decide) ?_
          exact hJ89 _ _ _ _ _  hR hS (lv_sub hl [0, 2] rfl) h
      clear eJ76
      refine lv_icmp_eq (tgt := 76) hx hb dX11_record_62 (by decide) (fun c26 => ?_) (fun c26 => ?_)
      · have h := ite_t c26 h
        exact hJ76  _ _ _ _  hR hS hl h
      · have h := ite_f c26 h
        refine lv_iload_n hx hb dX11_record_65 rfl (lv_at hl 2 rfl) ?_
        obtain ⟨r27, S28, hr27, h⟩ := bd_e h
        refine g_ci hS (g_runS C hR hS (As := [.int v2]) (rest := []) (c_X11_bits l  hr27) m_X11_bits q1328 ⟨rfl, rfl⟩ ⟨Nat.le_of_ble_eq_true rfl, Nat.le_of_ble_eq_true rfl⟩ rfl hl.1 rfl (Nat.le_of_ble_eq_true rfl) dX11_record_66 ⟨Nat.zero_le _, Nat.zero_le _⟩) (fun H locs hR hS => ?_)
        refine lv_iload_n hx hb dX11_record_69 rfl (lv_at hl 1 rfl) ?_
        obtain ⟨r29, S30, hr29, h⟩ := bd_e h
        refine g_ci hS (g_runS C hR hS (As := [.int v1]) (rest := [.int r27]) (c_X11_bits l  hr29) m_X11_bits q1328 ⟨rfl, rfl⟩ ⟨Nat.le_of_ble_eq_true rfl, Nat.le_of_ble_eq_true rfl⟩ rfl hl.1 rfl (Nat.le_of_ble_eq_true rfl) dX11_record_70 ⟨Nat.zero_le _, Nat.zero_le _⟩) (fun H locs hR hS => ?_)
        refine lv_icmp_ge (tgt := 90) hx hb dX11_record_73 (by decide) (fun c31 => ?_) (fun c31 => ?_)
        · have h := ite_t c31 h
          exact hJ90 _ _ _ _ _  hR hS hl h
        · have h := ite_f c31 h
          exact hJ76  _ _ _ _  hR hS hl h

set_option maxHeartbeats 4000000 in
set_option maxRecDepth 100000 in
theorem c_X11_record (l : Launch) {E : En} {α : Nat → Nat} {g : Nat × Nat}  {S : St}  {z : Int32 × St} (h : f_X11_record  S = some z) : Met l yX11_record (wsY yX11_record cX11_record 3 (some .int)) rm_X11_record (va_Pc [.ref (α 54)] (Wd E α g S)) (Qi E α g z) 0 0 E.2.2.1 := by
  refine g_met [.ref (α 54)] (by decide) rfl (Nat.le_of_ble_eq_true rfl) ?_
  intro p e s m below meth c ls C hR hl
  generalize hae : ([.ref (α 54)] : List Value).toArray = args at C ⊢
  have hl : lv_has ls 3 [(0, .ref (α 54))] := hl
  obtain ⟨hx, hb, hml, hown, hts, hlk, hrt, hKs⟩ := id C
  have hS : va_S E.2.2.1 s.heap s.heap [] := va_S.rf
  unfold f_X11_record at h
  refine lv_aload_n hx hb dX11_record_0 rfl (lv_at hl 0 rfl) ?_
  refine lv_aload_n hx hb dX11_record_1 rfl (lv_at hl 0 rfl) ?_
  refine g_getr (t := 88) C hR (k := 54) (j := 46) (live_st (by decide)) rfl rfl (vw11) inl11 (by decide) q989 dX11_record_2 ?_
  obtain ⟨r5, S6, hr5, h⟩ := bd_e h
  refine g_cv hS (g_runV C hR hS (k := 54) (As := [.ref (α 88)]) (rest := []) (c_X11_clearSteps l ⟨by decide, rfl⟩ hr5) (live_st (by decide)) rfl (vw11) m_X11_clearSteps q1319 ⟨rfl, rfl⟩ ⟨Nat.le_of_ble_eq_true rfl, Nat.le_of_ble_eq_true rfl⟩ rfl hl.1 rfl (Nat.le_of_ble_eq_true rfl) dX11_record_5 ⟨Nat.zero_le _, Nat.zero_le _⟩) (fun H locs hR hS => ?_)
  refine lv_bipush (v := 28) hx hb dX11_record_8 (by decide) ?_
  refine lv_istore_n (lv' := [(1, .int (28 : Int32)), (0, .ref (α 54))]) hx hb dX11_record_10 rfl hl (by decide) rfl (fun ls hl => ?_)
  refine w_X11_record_L11 C ?_  _ _ _ _ _ _  hR hS (lv_sub hl [1, 0] rfl) h
  · intro  S15 H locs ls  hR hS hl h
    refine lv_iconst (v := -1) hx hb dX11_record_49 (by decide) ?_
    refine lv_istore_n (lv' := [(1, .int (-1 : Int32)), (0, .ref (α 54))]) hx hb dX11_record_50 rfl hl (by decide) rfl (fun ls hl => ?_)
    refine lv_iconst (v := 0) hx hb dX11_record_51 (by decide) ?_
    refine lv_istore_n (lv' := [(2, .int (0 : Int32)), (1, .int (-1 : Int32)), (0, .ref (α 54))]) hx hb dX11_record_52 rfl hl (by decide) rfl (fun ls hl => ?_)
    refine w_X11_record_L53 C ?_  _ _ _ _ _ _ _  hR hS (lv_sub hl [2, 1, 0] rfl) h
    · intro x32 S33 H locs ls  hR hS hl h
      refine lv_iload_n hx hb dX11_record_96 rfl (lv_at hl 0 rfl) ?_
      exact g_iret C hR hS h dX11_record_97
