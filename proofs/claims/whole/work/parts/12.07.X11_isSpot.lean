/-! OneVoiceModel.isSpot(I)Z -/
abbrev rm_X11_isSpot : Room := { frames := 1, cells := 0, slots := 0, locals := 22 }
theorem m_X11_isSpot : MS yX11_isSpot cX11_isSpot 1 (some .boolean) 1 := ⟨q1344, q77, q1345, by decide +kernel⟩
def f_X11_isSpot (v0 : Int32) (S : St) : Option (Int32 × St) :=
  bd_ (f_X11_in v0 (0 : Int32) (15 : Int32) S) fun r1 S2 =>
  gd_ (bz r1) <| some (r1, S2)

set_option maxHeartbeats 4000000 in
set_option maxRecDepth 100000 in
theorem c_X11_isSpot (l : Launch) {E : En} {α : Nat → Nat} {g : Nat × Nat} {v0 : Int32} {S : St}  {z : Int32 × St} (h : f_X11_isSpot v0 S = some z) : Met l yX11_isSpot (wsY yX11_isSpot cX11_isSpot 1 (some .boolean)) rm_X11_isSpot (va_Pc [.int v0] (Wd E α g S)) (Qi E α g z) 0 0 E.2.2.1 := by
  refine g_met [.int v0] (by decide) rfl (Nat.le_of_ble_eq_true rfl) ?_
  intro p e s m below meth c ls C hR hl
  generalize hae : ([.int v0] : List Value).toArray = args at C ⊢
  have hl : lv_has ls 1 [(0, .int v0)] := hl
  obtain ⟨hx, hb, hml, hown, hts, hlk, hrt, hKs⟩ := id C
  have hS : va_S E.2.2.1 s.heap s.heap [] := va_S.rf
  unfold f_X11_isSpot at h
  refine lv_iload_n hx hb dX11_isSpot_0 rfl (lv_at hl 0 rfl) ?_
  refine lv_iconst (v := 0) hx hb dX11_isSpot_1 (by decide) ?_
  refine lv_bipush (v := 15) hx hb dX11_isSpot_2 (by decide) ?_
  obtain ⟨r1, S2, hr1, h⟩ := bd_e h
  refine g_ci hS (g_runS C hR hS (As := [.int v0, .int (0 : Int32), .int (15 : Int32)]) (rest := []) (c_X11_in l  hr1) m_X11_in q1093 ⟨rfl, rfl⟩ ⟨Nat.le_of_ble_eq_true rfl, Nat.le_of_ble_eq_true rfl⟩ rfl hl.1 rfl (Nat.le_of_ble_eq_true rfl) dX11_isSpot_4 ⟨Nat.zero_le _, Nat.zero_le _⟩) (fun H locs hR hS => ?_)
  obtain ⟨hz, h⟩ := gd_e h
  exact g_zret C hR hS hz h dX11_isSpot_7

/-! OneVoiceModel.crowd(II)I -/
abbrev rm_X11_crowd : Room := { frames := 2, cells := 0, slots := 0, locals := 42 }
theorem m_X11_crowd : MV yX11_crowd RX11 cX11_crowd 4 (some .int) 2 := ⟨q1340, q1341, q77, q1342, by decide +kernel⟩
def f_X11_crowd (v1 : Int32) (v2 : Int32) (S : St) : Option (Int32 × St) :=
  bd_ (f_X11_isSpot v1 S) fun r4 S5 =>
  if r4 = 0 then
    some ((-2 : Int32), S5)
  else
    bd_ (f_X11_in v2 (0 : Int32) (99 : Int32) S5) fun r7 S8 =>
    if r7 = 0 then
      some ((-3 : Int32), S8)
    else
      gd_ (inb v1 16) <|
      lt_ (rd S8 89 (Int32.toNatClampNeg v1)) fun x11 =>
      gd_ (inb v1 16) <|
      lt_ (wr S8 89 (Int32.toNatClampNeg v1) v2) fun S12 =>
      some (x11, S12)

set_option maxHeartbeats 4000000 in
set_option maxRecDepth 100000 in
theorem c_X11_crowd (l : Launch) {E : En} {α : Nat → Nat} {g : Nat × Nat} {v1 : Int32} {v2 : Int32} {S : St}  {z : Int32 × St} (h : f_X11_crowd v1 v2 S = some z) : Met l yX11_crowd (wsY yX11_crowd cX11_crowd 4 (some .int)) rm_X11_crowd (va_Pc [.ref (α 54), .int v1, .int v2] (Wd E α g S)) (Qi E α g z) 0 0 E.2.2.1 := by
  refine g_met [.ref (α 54), .int v1, .int v2] (by decide) rfl (Nat.le_of_ble_eq_true rfl) ?_
  intro p e s m below meth c ls C hR hl
  generalize hae : ([.ref (α 54), .int v1, .int v2] : List Value).toArray = args at C ⊢
  have hl : lv_has ls 4 [(0, .ref (α 54)), (1, .int v1), (2, .int v2)] := hl
  obtain ⟨hx, hb, hml, hown, hts, hlk, hrt, hKs⟩ := id C
  have hS : va_S E.2.2.1 s.heap s.heap [] := va_S.rf
  unfold f_X11_crowd at h
  refine lv_iload_n hx hb dX11_crowd_0 rfl (lv_at hl 1 rfl) ?_
  obtain ⟨r4, S5, hr4, h⟩ := bd_e h
  refine g_ci hS (g_runS C hR hS (As := [.int v1]) (rest := []) (c_X11_isSpot l  hr4) m_X11_isSpot q1343 ⟨rfl, rfl⟩ ⟨Nat.le_of_ble_eq_true rfl, Nat.le_of_ble_eq_true rfl⟩ rfl hl.1 rfl (Nat.le_of_ble_eq_true rfl) dX11_crowd_1 ⟨Nat.zero_le _, Nat.zero_le _⟩) (fun H locs hR hS => ?_)
  refine lv_if_ne (tgt := 10) hx hb dX11_crowd_4 (by decide) (fun c6 => ?_) (fun c6 => ?_)
  · have h := ite_f c6 h
    refine lv_iload_n hx hb dX11_crowd_10 rfl (lv_at hl 2 rfl) ?_
    refine lv_iconst (v := 0) hx hb dX11_crowd_11 (by decide) ?_
    refine lv_bipush (v := 99) hx hb dX11_crowd_12 (by decide) ?_
    obtain ⟨r7, S8, hr7, h⟩ := bd_e h
    refine g_ci hS (g_runS C hR hS (As := [.int v2, .int (0 : Int32), .int (99 : Int32)]) (rest := []) (c_X11_in l  hr7) m_X11_in q1093 ⟨rfl, rfl⟩ ⟨Nat.le_of_ble_eq_true rfl, Nat.le_of_ble_eq_true rfl⟩ rfl hl.1 rfl (Nat.le_of_ble_eq_true rfl) dX11_crowd_14 ⟨Nat.zero_le _, Nat.zero_le _⟩) (fun H locs hR hS => ?_)
    refine lv_if_ne (tgt := 23) hx hb dX11_crowd_17 (by decide) (fun c9 => ?_) (fun c9 => ?_)
    · have h := ite_f c9 h
      refine lv_aload_n hx hb dX11_crowd_23 rfl (lv_at hl 0 rfl) ?_
      refine g_getr (t := 89) C hR (k := 54) (j := 47) (live_st (by decide)) rfl rfl (vw11) inl11 (by decide) q990 dX11_crowd_24 ?_
      refine lv_iload_n hx hb dX11_crowd_27 rfl (lv_at hl 1 rfl) ?_
      obtain ⟨g10, h⟩ := gd_e h
      refine g_iald C hR (k := 89) (n := 16) (live_st (by decide)) rfl g10 dX11_crowd_28 ?_
      obtain ⟨x11, ex11, h⟩ := lt_e h
      refine g_nmi ex11 ?_
      refine lv_istore_n (lv' := [(3, .int x11), (0, .ref (α 54)), (1, .int v1), (2, .int v2)]) hx hb dX11_crowd_29 rfl hl (by decide) rfl (fun ls hl => ?_)
      refine lv_aload_n hx hb dX11_crowd_30 rfl (lv_at hl 1 rfl) ?_
      refine g_getr (t := 89) C hR (k := 54) (j := 47) (live_st (by decide)) rfl rfl (vw11) inl11 (by decide) q990 dX11_crowd_31 ?_
      refine lv_iload_n hx hb dX11_crowd_34 rfl (lv_at hl 2 rfl) ?_
      refine lv_iload_n hx hb dX11_crowd_35 rfl (lv_at hl 3 rfl) ?_
      obtain ⟨g13, h⟩ := gd_e h
      obtain ⟨S12, eS12, h⟩ := lt_e h
      refine g_iast C hR hS (k := 89) (n := 16) (live_st (by decide)) rfl g13 eS12 dX11_crowd_36 (fun H locs hR hS => ?_)
      refine lv_iload_n hx hb dX11_crowd_37 rfl (lv_at hl 0 rfl) ?_
      exact g_iret C hR hS h dX11_crowd_38
    · have h := ite_t c9 h
      refine lv_bipush (v := -3) hx hb dX11_crowd_20 (by decide) ?_
      exact g_iret C hR hS h dX11_crowd_22
  · have h := ite_t c6 h
    refine lv_bipush (v := -2) hx hb dX11_crowd_7 (by decide) ?_
    exact g_iret C hR hS h dX11_crowd_9

/-! OneVoiceModel.understood(II)I -/
abbrev rm_X11_understood : Room := { frames := 2, cells := 0, slots := 0, locals := 42 }
theorem m_X11_understood : MV yX11_understood RX11 cX11_understood 5 (some .int) 2 := ⟨q1347, q1348, q77, q1349, by decide +kernel⟩
def f_X11_understood_L29 (K76 : Int32 → St → Option (Int32 × St)) (v1 : Int32) (v2 : Int32) : Nat → Int32 → Int32 → St → Option (Int32 × St)
  | 0, _, _, _ => none
  | f + 1, v3, v4, S =>
    if (16 : Int32) ≤ v4 then
      K76 v3 S
    else
      bd_ (f_X11_apart v1 v4 S) fun r11 S12 =>
      gd_ (inb v4 16) <|
      lt_ (fun (t14 : Int32) (t15 : Int32) (S16 : St) =>
          lt_ (t14 ||| t15) fun x17 =>
          lt_ (v4 + (1 : Int32)) fun x18 =>
          f_X11_understood_L29 K76 v1 v2 f x17 x18 S16) fun J68 =>
      if ((v2 - ((3 : Int32) * r11)) - (rd S12 89 (Int32.toNatClampNeg v4))) ≤ (10 : Int32) then
        J68 v3 (0 : Int32) S12
      else
        J68 v3 ((1 : Int32) <<< (v4 &&& 31)) S12

def f_X11_understood (v1 : Int32) (v2 : Int32) (S : St) : Option (Int32 × St) :=
  bd_ (f_X11_isSpot v1 S) fun r4 S5 =>
  if r4 = 0 then
    some ((-2 : Int32), S5)
  else
    bd_ (f_X11_in v2 (0 : Int32) (999 : Int32) S5) fun r7 S8 =>
    if r7 = 0 then
      some ((-3 : Int32), S8)
    else
      f_X11_understood_L29
        (fun (x20 : Int32) (S21 : St) =>
          some (x20, S21))
        v1 v2 FU (0 : Int32) (0 : Int32) S8

set_option maxHeartbeats 4000000 in
set_option maxRecDepth 100000 in
theorem w_X11_understood_L29 {p : Program} {l : Launch} {e : Env} {s : State} {m : MethodId} {args : Array Value} {below : List Frame} {meth : Method} {c : Code} {E : En} {α : Nat → Nat} {g : Nat × Nat} (C : Cx p s m args meth c RX11 cX11_understood 5 (some .int) E) {z : Int32 × St} {K76 : Int32 → St → Option (Int32 × St)} {v1 : Int32} {v2 : Int32}
    (hK76 : ∀ (y3 : Int32) (S : St) (H : Heap) (locs : List Loc) (ls : Array Slot), Rp E α g S H → va_S E.2.2.1 s.heap H locs → lv_has ls 5 [(3, .int y3)] → K76 y3 S = some z → W p l e rm_X11_understood s m args below meth c H locs 0 0 (MQ below (Qi E α g z) args s 0 0 E.2.2.1) (F0 m 76 ls [])) :
    ∀ (f : Nat) (v3 : Int32) (v4 : Int32) (S : St) (H : Heap) (locs : List Loc) (ls : Array Slot), Rp E α g S H → va_S E.2.2.1 s.heap H locs → lv_has ls 5 [(0, .ref (α 54)), (1, .int v1), (2, .int v2), (3, .int v3), (4, .int v4)] → f_X11_understood_L29 K76 v1 v2 f v3 v4 S = some z → W p l e rm_X11_understood s m args below meth c H locs 0 0 (MQ below (Qi E α g z) args s 0 0 E.2.2.1) (F0 m 29 ls []) := by
  obtain ⟨hx, hb, hml, hown, hts, hlk, hrt, hKs⟩ := id C
  intro f
  induction f with
  | zero =>
    intro v3 v4 S H locs ls  hR hS hl h
    rw [f_X11_understood_L29] at h
    cases h
  | succ f ih =>
    intro v3 v4 S H locs ls  hR hS hl h
    rw [f_X11_understood_L29] at h
    refine lv_iload hx hb dX11_understood_29 (lv_at hl 4 rfl) ?_
    refine lv_bipush (v := 16) hx hb dX11_understood_31 (by decide) ?_
    refine lv_icmp_ge (tgt := 76) hx hb dX11_understood_33 (by decide) (fun c10 => ?_) (fun c10 => ?_)
    · have h := ite_t c10 h
      exact hK76 _ _ _ _ _  hR hS (lv_sub hl [3] rfl) h
    · have h := ite_f c10 h
      refine lv_iload_n hx hb dX11_understood_36 rfl (lv_at hl 3 rfl) ?_
      refine lv_iload_n hx hb dX11_understood_37 rfl (lv_at hl 2 rfl) ?_
      refine lv_iconst (v := 3) hx hb dX11_understood_38 (by decide) ?_
      refine lv_iload_n hx hb dX11_understood_39 rfl (lv_at hl 1 rfl) ?_
      refine lv_iload hx hb dX11_understood_40 (lv_at hl 4 rfl) ?_
      obtain ⟨r11, S12, hr11, h⟩ := bd_e h
      refine g_ci hS (g_runS C hR hS (As := [.int v1, .int v4]) (rest := [.int (3 : Int32), .int v2, .int v3]) (c_X11_apart l  hr11) m_X11_apart q1146 ⟨rfl, rfl⟩ ⟨Nat.le_of_ble_eq_true rfl, Nat.le_of_ble_eq_true rfl⟩ rfl hl.1 rfl (Nat.le_of_ble_eq_true rfl) dX11_understood_42 ⟨Nat.zero_le _, Nat.zero_le _⟩) (fun H locs hR hS => ?_)
      refine lv_imul hx hb dX11_understood_45 ?_
      refine lv_isub hx hb dX11_understood_46 ?_
      refine lv_aload_n hx hb dX11_understood_47 rfl (lv_at hl 0 rfl) ?_
      refine g_getr (t := 89) C hR (k := 54) (j := 47) (live_st (by decide)) rfl rfl (vw11) inl11 (by decide) q990 dX11_understood_48 ?_
      refine lv_iload hx hb dX11_understood_51 (lv_at hl 4 rfl) ?_
      obtain ⟨g13, h⟩ := gd_e h
      refine g_iald C hR (k := 89) (n := 16) (live_st (by decide)) rfl g13 dX11_understood_53 ?_
      refine lv_isub hx hb dX11_understood_54 ?_
      refine lv_bipush (v := 10) hx hb dX11_understood_55 (by decide) ?_
      obtain ⟨J68, eJ68, h⟩ := lt_e h
      have hJ68 : ∀ (t14 : Int32) (t15 : Int32) (S16 : St) (H : Heap) (locs : List Loc) (ls : Array Slot), Rp E α g S16 H → va_S E.2.2.1 s.heap H locs → lv_has ls 5 [(0, .ref (α 54)), (1, .int v1), (2, .int v2), (4, .int v4)] → J68 t14 t15 S16 = some z → W p l e rm_X11_understood s m args below meth c H locs 0 0 (MQ below (Qi E α g z) args s 0 0 E.2.2.1) (F0 m 68 ls [.int t15, .int t14]) := by
        intro t14 t15 S16 H locs ls  hR hS hl h
        rw [eJ68] at h
        refine lv_ior hx hb dX11_understood_68 ?_
        obtain ⟨x17, ex17, h⟩ := lt_e h
        refine g_nmi ex17 ?_
        refine lv_istore_n (lv' := [(3, .int x17), (0, .ref (α 54)), (1, .int v1), (2, .int v2), (4, .int v4)]) hx hb dX11_understood_69 rfl hl (by decide) rfl (fun ls hl => ?_)
        obtain ⟨x18, ex18, h⟩ := lt_e h
        refine lv_iinc (v := x18) (lv' := [(4, .int x18), (3, .int x17), (0, .ref (α 54)), (1, .int v1), (2, .int v2)]) hx hb dX11_understood_70 hl (k := 4) rfl (by rw [ex18]; rfl) (by decide) rfl (fun ls hl => ?_)
        refine lv_goto (tgt := 29) hx hb dX11_understood_73 (by decide) ?_
        exact ih _ _ _ _ _ _  hR hS (lv_sub hl [2, 3, 4, 1, 0] rfl) h
      clear eJ68
      refine lv_icmp_le (tgt := 67) hx hb dX11_understood_57 (by decide) (fun c19 => ?_) (fun c19 => ?_)
      · have h := ite_t c19 h
        refine lv_iconst (v := 0) hx hb dX11_understood_67 (by decide) ?_
        exact hJ68 _ _ _ _ _ _  hR hS (lv_sub hl [0, 1, 2, 4] rfl) h
      · have h := ite_f c19 h
        refine lv_iconst (v := 1) hx hb dX11_understood_60 (by decide) ?_
        refine lv_iload hx hb dX11_understood_61 (lv_at hl 4 rfl) ?_
        refine lv_ishl hx hb dX11_understood_63 ?_
        refine lv_goto (tgt := 68) hx hb dX11_understood_64 (by decide) ?_
        exact hJ68 _ _ _ _ _ _  hR hS (lv_sub hl [0, 1, 2, 4] rfl) h

set_option maxHeartbeats 4000000 in
set_option maxRecDepth 100000 in
theorem c_X11_understood (l : Launch) {E : En} {α : Nat → Nat} {g : Nat × Nat} {v1 : Int32} {v2 : Int32} {S : St}  {z : Int32 × St} (h : f_X11_understood v1 v2 S = some z) : Met l yX11_understood (wsY yX11_understood cX11_understood 5 (some .int)) rm_X11_understood (va_Pc [.ref (α 54), .int v1, .int v2] (Wd E α g S)) (Qi E α g z) 0 0 E.2.2.1 := by
  refine g_met [.ref (α 54), .int v1, .int v2] (by decide) rfl (Nat.le_of_ble_eq_true rfl) ?_
  intro p e s m below meth c ls C hR hl
  generalize hae : ([.ref (α 54), .int v1, .int v2] : List Value).toArray = args at C ⊢
  have hl : lv_has ls 5 [(0, .ref (α 54)), (1, .int v1), (2, .int v2)] := hl
  obtain ⟨hx, hb, hml, hown, hts, hlk, hrt, hKs⟩ := id C
  have hS : va_S E.2.2.1 s.heap s.heap [] := va_S.rf
  unfold f_X11_understood at h
  refine lv_iload_n hx hb dX11_understood_0 rfl (lv_at hl 1 rfl) ?_
  obtain ⟨r4, S5, hr4, h⟩ := bd_e h
  refine g_ci hS (g_runS C hR hS (As := [.int v1]) (rest := []) (c_X11_isSpot l  hr4) m_X11_isSpot q1343 ⟨rfl, rfl⟩ ⟨Nat.le_of_ble_eq_true rfl, Nat.le_of_ble_eq_true rfl⟩ rfl hl.1 rfl (Nat.le_of_ble_eq_true rfl) dX11_understood_1 ⟨Nat.zero_le _, Nat.zero_le _⟩) (fun H locs hR hS => ?_)
  refine lv_if_ne (tgt := 10) hx hb dX11_understood_4 (by decide) (fun c6 => ?_) (fun c6 => ?_)
  · have h := ite_f c6 h
    refine lv_iload_n hx hb dX11_understood_10 rfl (lv_at hl 2 rfl) ?_
    refine lv_iconst (v := 0) hx hb dX11_understood_11 (by decide) ?_
    refine lv_sipush (v := 999) hx hb dX11_understood_12 (by decide) ?_
    obtain ⟨r7, S8, hr7, h⟩ := bd_e h
    refine g_ci hS (g_runS C hR hS (As := [.int v2, .int (0 : Int32), .int (999 : Int32)]) (rest := []) (c_X11_in l  hr7) m_X11_in q1093 ⟨rfl, rfl⟩ ⟨Nat.le_of_ble_eq_true rfl, Nat.le_of_ble_eq_true rfl⟩ rfl hl.1 rfl (Nat.le_of_ble_eq_true rfl) dX11_understood_15 ⟨Nat.zero_le _, Nat.zero_le _⟩) (fun H locs hR hS => ?_)
    refine lv_if_ne (tgt := 24) hx hb dX11_understood_18 (by decide) (fun c9 => ?_) (fun c9 => ?_)
    · have h := ite_f c9 h
      refine lv_iconst (v := 0) hx hb dX11_understood_24 (by decide) ?_
      refine lv_istore_n (lv' := [(3, .int (0 : Int32)), (0, .ref (α 54)), (1, .int v1), (2, .int v2)]) hx hb dX11_understood_25 rfl hl (by decide) rfl (fun ls hl => ?_)
      refine lv_iconst (v := 0) hx hb dX11_understood_26 (by decide) ?_
      refine lv_istore (lv' := [(4, .int (0 : Int32)), (3, .int (0 : Int32)), (0, .ref (α 54)), (1, .int v1), (2, .int v2)]) hx hb dX11_understood_27 hl (by decide) rfl (fun ls hl => ?_)
      refine w_X11_understood_L29 C ?_  _ _ _ _ _ _ _  hR hS (lv_sub hl [2, 3, 4, 1, 0] rfl) h
      · intro x20 S21 H locs ls  hR hS hl h
        refine lv_iload_n hx hb dX11_understood_76 rfl (lv_at hl 0 rfl) ?_
        exact g_iret C hR hS h dX11_understood_77
    · have h := ite_t c9 h
      refine lv_bipush (v := -3) hx hb dX11_understood_21 (by decide) ?_
      exact g_iret C hR hS h dX11_understood_23
  · have h := ite_t c6 h
    refine lv_bipush (v := -2) hx hb dX11_understood_7 (by decide) ?_
    exact g_iret C hR hS h dX11_understood_9

/-! OneVoiceModel.powerAt(II)I -/
abbrev rm_X11_powerAt : Room := { frames := 1, cells := 0, slots := 0, locals := 21 }
theorem m_X11_powerAt : MV yX11_powerAt RX11 cX11_powerAt 6 (some .int) 2 := ⟨q1357, q66, q77, q1358, by decide +kernel⟩
def f_X11_powerAt_L5 (K66 : Int32 → St → Option (Int32 × St)) (v1 : Int32) (v2 : Int32) : Nat → Int32 → Int32 → St → Option (Int32 × St)
  | 0, _, _, _ => none
  | f + 1, v3, v4, S =>
    if (16 : Int32) ≤ v4 then
      K66 v3 S
    else
      lt_ (fun (t4 : Int32) (S5 : St) =>
          lt_ (fun (t6 : Int32) (S7 : St) =>
              lt_ (v4 + (1 : Int32)) fun x8 =>
              f_X11_powerAt_L5 K66 v1 v2 f t6 x8 S7) fun J59 =>
          if t4 ≤ v3 then
            J59 v3 S5
          else
            J59 t4 S5) fun J45 =>
      if ((v2 >>> (v4 &&& 31)) &&& (1 : Int32)) = (1 : Int32) then
        bd_ (f_X11_apart v1 v4 S) fun r11 S12 =>
        gd_ (inb v4 16) <|
        J45 (((11 : Int32) + ((3 : Int32) * r11)) + (rd S12 89 (Int32.toNatClampNeg v4))) S12
      else
        J45 (0 : Int32) S

def f_X11_powerAt (v1 : Int32) (v2 : Int32) (S : St) : Option (Int32 × St) :=
  f_X11_powerAt_L5
    (fun (x14 : Int32) (S15 : St) =>
      some (x14, S15))
    v1 v2 FU (0 : Int32) (0 : Int32) S

set_option maxHeartbeats 4000000 in
set_option maxRecDepth 100000 in
theorem w_X11_powerAt_L5 {p : Program} {l : Launch} {e : Env} {s : State} {m : MethodId} {args : Array Value} {below : List Frame} {meth : Method} {c : Code} {E : En} {α : Nat → Nat} {g : Nat × Nat} (C : Cx p s m args meth c RX11 cX11_powerAt 6 (some .int) E) {z : Int32 × St} {K66 : Int32 → St → Option (Int32 × St)} {v1 : Int32} {v2 : Int32}
    (hK66 : ∀ (y3 : Int32) (S : St) (H : Heap) (locs : List Loc) (ls : Array Slot), Rp E α g S H → va_S E.2.2.1 s.heap H locs → lv_has ls 6 [(3, .int y3)] → K66 y3 S = some z → W p l e rm_X11_powerAt s m args below meth c H locs 0 0 (MQ below (Qi E α g z) args s 0 0 E.2.2.1) (F0 m 66 ls [])) :
    ∀ (f : Nat) (v3 : Int32) (v4 : Int32) (S : St) (H : Heap) (locs : List Loc) (ls : Array Slot), Rp E α g S H → va_S E.2.2.1 s.heap H locs → lv_has ls 6 [(0, .ref (α 54)), (1, .int v1), (2, .int v2), (3, .int v3), (4, .int v4)] → f_X11_powerAt_L5 K66 v1 v2 f v3 v4 S = some z → W p l e rm_X11_powerAt s m args below meth c H locs 0 0 (MQ below (Qi E α g z) args s 0 0 E.2.2.1) (F0 m 5 ls []) := by
  obtain ⟨hx, hb, hml, hown, hts, hlk, hrt, hKs⟩ := id C
  intro f
  induction f with
  | zero =>
    intro v3 v4 S H locs ls  hR hS hl h
    rw [f_X11_powerAt_L5] at h
    cases h
  | succ f ih =>
    intro v3 v4 S H locs ls  hR hS hl h
    rw [f_X11_powerAt_L5] at h
    refine lv_iload hx hb dX11_powerAt_5 (lv_at hl 4 rfl) ?_
    refine lv_bipush (v := 16) hx hb dX11_powerAt_7 (by decide) ?_
    refine lv_icmp_ge (tgt := 66) hx hb dX11_powerAt_9 (by decide) (fun c3 => ?_) (fun c3 => ?_)
    · have h := ite_t c3 h
      exact hK66 _ _ _ _ _  hR hS (lv_sub hl [3] rfl) h
    · have h := ite_f c3 h
      refine lv_iload_n hx hb dX11_powerAt_12 rfl (lv_at hl 2 rfl) ?_
      refine lv_iload hx hb dX11_powerAt_13 (lv_at hl 4 rfl) ?_
      refine lv_ishr hx hb dX11_powerAt_15 ?_
      refine lv_iconst (v := 1) hx hb dX11_powerAt_16 (by decide) ?_
      refine lv_iand hx hb dX11_powerAt_17 ?_
      refine lv_iconst (v := 1) hx hb dX11_powerAt_18 (by decide) ?_
      obtain ⟨J45, eJ45, h⟩ := lt_e h
      have hJ45 : ∀ (t4 : Int32) (S5 : St) (H : Heap) (locs : List Loc) (ls : Array Slot), Rp E α g S5 H → va_S E.2.2.1 s.heap H locs → lv_has ls 6 [(0, .ref (α 54)), (1, .int v1), (2, .int v2), (3, .int v3), (4, .int v4)] → J45 t4 S5 = some z → W p l e rm_X11_powerAt s m args below meth c H locs 0 0 (MQ below (Qi E α g z) args s 0 0 E.2.2.1) (F0 m 45 ls [.int t4]) := by
        intro t4 S5 H locs ls  hR hS hl h
        rw [eJ45] at h
        refine lv_istore (lv' := [(5, .int t4), (0, .ref (α 54)), (1, .int v1), (2, .int v2), (3, .int v3), (4, .int v4)]) hx hb dX11_powerAt_45 hl (by decide) rfl (fun ls hl => ?_)
        refine lv_iload hx hb dX11_powerAt_47 (lv_at hl 0 rfl) ?_
        refine lv_iload_n hx hb dX11_powerAt_49 rfl (lv_at hl 4 rfl) ?_
        obtain ⟨J59, eJ59, h⟩ := lt_e h
        have hJ59 : ∀ (t6 : Int32) (S7 : St) (H : Heap) (locs : List Loc) (ls : Array Slot), Rp E α g S7 H → va_S E.2.2.1 s.heap H locs → lv_has ls 6 [(0, .ref (α 54)), (1, .int v1), (2, .int v2), (4, .int v4)] → J59 t6 S7 = some z → W p l e rm_X11_powerAt s m args below meth c H locs 0 0 (MQ below (Qi E α g z) args s 0 0 E.2.2.1) (F0 m 59 ls [.int t6]) := by
          intro t6 S7 H locs ls  hR hS hl h
          rw [eJ59] at h
          refine lv_istore_n (lv' := [(3, .int t6), (0, .ref (α 54)), (1, .int v1), (2, .int v2), (4, .int v4)]) hx hb dX11_powerAt_59 rfl hl (by decide) rfl (fun ls hl => ?_)
          obtain ⟨x8, ex8, h⟩ := lt_e h
          refine lv_iinc (v := x8) (lv' := [(4, .int x8), (3, .int t6), (0, .ref (α 54)), (1, .int v1), (2, .int v2)]) hx hb dX11_powerAt_60 hl (k := 4) rfl (by rw [ex8]; rfl) (by decide) rfl (fun ls hl => ?_)
          refine lv_goto (tgt := 5) hx hb dX11_powerAt_63 (by decide) ?_
          exact ih _ _ _ _ _ _  hR hS (lv_sub hl [2, 3, 4, 1, 0] rfl) h
        clear eJ59
        refine lv_icmp_le (tgt := 58) hx hb dX11_powerAt_50 (by decide) (fun c9 => ?_) (fun c9 => ?_)
        · have h := ite_t c9 h
          refine lv_iload_n hx hb dX11_powerAt_58 rfl (lv_at hl 4 rfl) ?_
          exact hJ59 _ _ _ _ _  hR hS (lv_sub hl [1, 2, 3, 5] rfl) h
        · have h := ite_f c9 h
          refine lv_iload hx hb dX11_powerAt_53 (lv_at hl 0 rfl) ?_
          refine lv_goto (tgt := 59) hx hb dX11_powerAt_55 (by decide) ?_
          exact hJ59 _ _ _ _ _  hR hS (lv_sub hl [1, 2, 3, 5] rfl) h
      clear eJ45
      refine lv_icmp_ne (tgt := 44) hx hb dX11_powerAt_19 (by decide) (fun c10 => ?_) (fun c10 => ?_)
      · have h := ite_f c10 h
        refine lv_iconst (v := 0) hx hb dX11_powerAt_44 (by decide) ?_
        exact hJ45 _ _ _ _ _  hR hS hl h
      · have h := ite_t c10 h
        refine lv_bipush (v := 11) hx hb dX11_powerAt_22 (by decide) ?_
        refine lv_iconst (v := 3) hx hb dX11_powerAt_24 (by decide) ?_
        refine lv_iload_n hx hb dX11_powerAt_25 rfl (lv_at hl 1 rfl) ?_
        refine lv_iload hx hb dX11_powerAt_26 (lv_at hl 4 rfl) ?_
        obtain ⟨r11, S12, hr11, h⟩ := bd_e h
        refine g_ci hS (g_runS C hR hS (As := [.int v1, .int v4]) (rest := [.int (3 : Int32), .int (11 : Int32)]) (c_X11_apart l  hr11) m_X11_apart q1146 ⟨rfl, rfl⟩ ⟨Nat.le_of_ble_eq_true rfl, Nat.le_of_ble_eq_true rfl⟩ rfl hl.1 rfl (Nat.le_of_ble_eq_true rfl) dX11_powerAt_28 ⟨Nat.zero_le _, Nat.zero_le _⟩) (fun H locs hR hS => ?_)
        refine lv_imul hx hb dX11_powerAt_31 ?_
        refine lv_iadd hx hb dX11_powerAt_32 ?_
        refine lv_aload_n hx hb dX11_powerAt_33 rfl (lv_at hl 0 rfl) ?_
        refine g_getr (t := 89) C hR (k := 54) (j := 47) (live_st (by decide)) rfl rfl (vw11) inl11 (by decide) q990 dX11_powerAt_34 ?_
        refine lv_iload hx hb dX11_powerAt_37 (lv_at hl 4 rfl) ?_
        obtain ⟨g13, h⟩ := gd_e h
        refine g_iald C hR (k := 89) (n := 16) (live_st (by decide)) rfl g13 dX11_powerAt_39 ?_
        refine lv_iadd hx hb dX11_powerAt_40 ?_
        refine lv_goto (tgt := 45) hx hb dX11_powerAt_41 (by decide) ?_
        exact hJ45 _ _ _ _ _  hR hS hl h

set_option maxHeartbeats 4000000 in
set_option maxRecDepth 100000 in
theorem c_X11_powerAt (l : Launch) {E : En} {α : Nat → Nat} {g : Nat × Nat} {v1 : Int32} {v2 : Int32} {S : St}  {z : Int32 × St} (h : f_X11_powerAt v1 v2 S = some z) : Met l yX11_powerAt (wsY yX11_powerAt cX11_powerAt 6 (some .int)) rm_X11_powerAt (va_Pc [.ref (α 54), .int v1, .int v2] (Wd E α g S)) (Qi E α g z) 0 0 E.2.2.1 := by
  refine g_met [.ref (α 54), .int v1, .int v2] (by decide) rfl (Nat.le_of_ble_eq_true rfl) ?_
  intro p e s m below meth c ls C hR hl
  generalize hae : ([.ref (α 54), .int v1, .int v2] : List Value).toArray = args at C ⊢
  have hl : lv_has ls 6 [(0, .ref (α 54)), (1, .int v1), (2, .int v2)] := hl
  obtain ⟨hx, hb, hml, hown, hts, hlk, hrt, hKs⟩ := id C
  have hS : va_S E.2.2.1 s.heap s.heap [] := va_S.rf
  unfold f_X11_powerAt at h
  refine lv_iconst (v := 0) hx hb dX11_powerAt_0 (by decide) ?_
  refine lv_istore_n (lv' := [(3, .int (0 : Int32)), (0, .ref (α 54)), (1, .int v1), (2, .int v2)]) hx hb dX11_powerAt_1 rfl hl (by decide) rfl (fun ls hl => ?_)
  refine lv_iconst (v := 0) hx hb dX11_powerAt_2 (by decide) ?_
  refine lv_istore (lv' := [(4, .int (0 : Int32)), (3, .int (0 : Int32)), (0, .ref (α 54)), (1, .int v1), (2, .int v2)]) hx hb dX11_powerAt_3 hl (by decide) rfl (fun ls hl => ?_)
  refine w_X11_powerAt_L5 C ?_  _ _ _ _ _ _ _  hR hS (lv_sub hl [2, 3, 4, 1, 0] rfl) h
  · intro x14 S15 H locs ls  hR hS hl h
    refine lv_iload_n hx hb dX11_powerAt_66 rfl (lv_at hl 0 rfl) ?_
    exact g_iret C hR hS h dX11_powerAt_67

/-! OneVoiceModel.power(II)I -/
abbrev rm_X11_power : Room := { frames := 2, cells := 0, slots := 0, locals := 46 }
theorem m_X11_power : MV yX11_power RX11 cX11_power 5 (some .int) 2 := ⟨q1351, q1352, q77, q1353, by decide +kernel⟩
def f_X11_power_L46 (K82 : Int32 → St → Option (Int32 × St)) (v2 : Int32) : Nat → Int32 → Int32 → St → Option (Int32 × St)
  | 0, _, _, _ => none
  | f + 1, v3, v4, S =>
    if (16 : Int32) ≤ v4 then
      K82 v3 S
    else
      bd_ (f_X11_powerAt v4 v2 S) fun r8 S9 =>
      bd_ (f_X11_powerAt v3 v2 S9) fun r10 S11 =>
      lt_ (fun (t12 : Int32) (S13 : St) =>
          lt_ (v4 + (1 : Int32)) fun x14 =>
          f_X11_power_L46 K82 v2 f t12 x14 S13) fun J75 =>
      if r10 ≤ r8 then
        J75 v3 S11
      else
        J75 v4 S11

def f_X11_power (v1 : Int32) (v2 : Int32) (S : St) : Option (Int32 × St) :=
  lt_ (fun  (S2 : St) =>
      bd_ (f_X11_in v2 (0 : Int32) (65535 : Int32) S2) fun r3 S4 =>
      if r3 = 0 then
        some ((-3 : Int32), S4)
      else
        if v1 = (-1 : Int32) then
          f_X11_power_L46
            (fun (x16 : Int32) (S17 : St) =>
              bd_ (f_X11_powerAt x16 v2 S17) fun r18 S19 =>
              some ((((16 : Int32) * r18) + x16), S19))
            v2 FU (0 : Int32) (1 : Int32) S4
        else
          bd_ (f_X11_powerAt v1 v2 S4) fun r20 S21 =>
          some (r20, S21)) fun J15 =>
  if v1 = (-1 : Int32) then
    J15  S
  else
    bd_ (f_X11_isSpot v1 S) fun r23 S24 =>
    if r23 = 0 then
      some ((-2 : Int32), S24)
    else
      J15  S24

set_option maxHeartbeats 4000000 in
set_option maxRecDepth 100000 in
theorem w_X11_power_L46 {p : Program} {l : Launch} {e : Env} {s : State} {m : MethodId} {args : Array Value} {below : List Frame} {meth : Method} {c : Code} {E : En} {α : Nat → Nat} {g : Nat × Nat} (C : Cx p s m args meth c RX11 cX11_power 5 (some .int) E) {z : Int32 × St} {K82 : Int32 → St → Option (Int32 × St)} {v2 : Int32}
    (hK82 : ∀ (y3 : Int32) (S : St) (H : Heap) (locs : List Loc) (ls : Array Slot), Rp E α g S H → va_S E.2.2.1 s.heap H locs → lv_has ls 5 [(0, .ref (α 54)), (2, .int v2), (3, .int y3)] → K82 y3 S = some z → W p l e rm_X11_power s m args below meth c H locs 0 0 (MQ below (Qi E α g z) args s 0 0 E.2.2.1) (F0 m 82 ls [])) :
    ∀ (f : Nat) (v3 : Int32) (v4 : Int32) (S : St) (H : Heap) (locs : List Loc) (ls : Array Slot), Rp E α g S H → va_S E.2.2.1 s.heap H locs → lv_has ls 5 [(0, .ref (α 54)), (2, .int v2), (3, .int v3), (4, .int v4)] → f_X11_power_L46 K82 v2 f v3 v4 S = some z → W p l e rm_X11_power s m args below meth c H locs 0 0 (MQ below (Qi E α g z) args s 0 0 E.2.2.1) (F0 m 46 ls []) := by
  obtain ⟨hx, hb, hml, hown, hts, hlk, hrt, hKs⟩ := id C
  intro f
  induction f with
  | zero =>
    intro v3 v4 S H locs ls  hR hS hl h
    rw [f_X11_power_L46] at h
    cases h
  | succ f ih =>
    intro v3 v4 S H locs ls  hR hS hl h
    rw [f_X11_power_L46] at h
    refine lv_iload hx hb dX11_power_46 (lv_at hl 3 rfl) ?_
    refine lv_bipush (v := 16) hx hb dX11_power_48 (by decide) ?_
    refine lv_icmp_ge (tgt := 82) hx hb dX11_power_50 (by decide) (fun c7 => ?_) (fun c7 => ?_)
    · have h := ite_t c7 h
      exact hK82 _ _ _ _ _  hR hS (lv_sub hl [0, 1, 2] rfl) h
    · have h := ite_f c7 h
      refine lv_aload_n hx hb dX11_power_53 rfl (lv_at hl 0 rfl) ?_
      refine lv_iload hx hb dX11_power_54 (lv_at hl 3 rfl) ?_
      refine lv_iload_n hx hb dX11_power_56 rfl (lv_at hl 1 rfl) ?_
      obtain ⟨r8, S9, hr8, h⟩ := bd_e h
      refine g_ci hS (g_runV C hR hS (k := 54) (As := [.int v4, .int v2]) (rest := []) (c_X11_powerAt l  hr8) (live_st (by decide)) rfl (vw11) m_X11_powerAt q1355 ⟨rfl, rfl⟩ ⟨Nat.le_of_ble_eq_true rfl, Nat.le_of_ble_eq_true rfl⟩ rfl hl.1 rfl (Nat.le_of_ble_eq_true rfl) dX11_power_57 ⟨Nat.zero_le _, Nat.zero_le _⟩) (fun H locs hR hS => ?_)
      refine lv_aload_n hx hb dX11_power_60 rfl (lv_at hl 0 rfl) ?_
      refine lv_iload_n hx hb dX11_power_61 rfl (lv_at hl 2 rfl) ?_
      refine lv_iload_n hx hb dX11_power_62 rfl (lv_at hl 1 rfl) ?_
      obtain ⟨r10, S11, hr10, h⟩ := bd_e h
      refine g_ci hS (g_runV C hR hS (k := 54) (As := [.int v3, .int v2]) (rest := [.int r8]) (c_X11_powerAt l  hr10) (live_st (by decide)) rfl (vw11) m_X11_powerAt q1355 ⟨rfl, rfl⟩ ⟨Nat.le_of_ble_eq_true rfl, Nat.le_of_ble_eq_true rfl⟩ rfl hl.1 rfl (Nat.le_of_ble_eq_true rfl) dX11_power_63 ⟨Nat.zero_le _, Nat.zero_le _⟩) (fun H locs hR hS => ?_)
      obtain ⟨J75, eJ75, h⟩ := lt_e h
      have hJ75 : ∀ (t12 : Int32) (S13 : St) (H : Heap) (locs : List Loc) (ls : Array Slot), Rp E α g S13 H → va_S E.2.2.1 s.heap H locs → lv_has ls 5 [(0, .ref (α 54)), (2, .int v2), (4, .int v4)] → J75 t12 S13 = some z → W p l e rm_X11_power s m args below meth c H locs 0 0 (MQ below (Qi E α g z) args s 0 0 E.2.2.1) (F0 m 75 ls [.int t12]) := by
        intro t12 S13 H locs ls  hR hS hl h
        rw [eJ75] at h
        refine lv_istore_n (lv' := [(3, .int t12), (0, .ref (α 54)), (2, .int v2), (4, .int v4)]) hx hb dX11_power_75 rfl hl (by decide) rfl (fun ls hl => ?_)
        obtain ⟨x14, ex14, h⟩ := lt_e h
        refine lv_iinc (v := x14) (lv' := [(4, .int x14), (3, .int t12), (0, .ref (α 54)), (2, .int v2)]) hx hb dX11_power_76 hl (k := 3) rfl (by rw [ex14]; rfl) (by decide) rfl (fun ls hl => ?_)
        refine lv_goto (tgt := 46) hx hb dX11_power_79 (by decide) ?_
        exact ih _ _ _ _ _ _  hR hS (lv_sub hl [2, 3, 1, 0] rfl) h
      clear eJ75
      refine lv_icmp_ge (tgt := 74) hx hb dX11_power_66 (by decide) (fun c15 => ?_) (fun c15 => ?_)
      · have h := ite_t c15 h
        refine lv_iload_n hx hb dX11_power_74 rfl (lv_at hl 2 rfl) ?_
        exact hJ75 _ _ _ _ _  hR hS (lv_sub hl [0, 1, 3] rfl) h
      · have h := ite_f c15 h
        refine lv_iload hx hb dX11_power_69 (lv_at hl 3 rfl) ?_
        refine lv_goto (tgt := 75) hx hb dX11_power_71 (by decide) ?_
        exact hJ75 _ _ _ _ _  hR hS (lv_sub hl [0, 1, 3] rfl) h

set_option maxHeartbeats 4000000 in
set_option maxRecDepth 100000 in
theorem c_X11_power (l : Launch) {E : En} {α : Nat → Nat} {g : Nat × Nat} {v1 : Int32} {v2 : Int32} {S : St}  {z : Int32 × St} (h : f_X11_power v1 v2 S = some z) : Met l yX11_power (wsY yX11_power cX11_power 5 (some .int)) rm_X11_power (va_Pc [.ref (α 54), .int v1, .int v2] (Wd E α g S)) (Qi E α g z) 0 0 E.2.2.1 := by
  refine g_met [.ref (α 54), .int v1, .int v2] (by decide) rfl (Nat.le_of_ble_eq_true rfl) ?_
  intro p e s m below meth c ls C hR hl
  generalize hae : ([.ref (α 54), .int v1, .int v2] : List Value).toArray = args at C ⊢
  have hl : lv_has ls 5 [(0, .ref (α 54)), (1, .int v1), (2, .int v2)] := hl
  obtain ⟨hx, hb, hml, hown, hts, hlk, hrt, hKs⟩ := id C
  have hS : va_S E.2.2.1 s.heap s.heap [] := va_S.rf
  unfold f_X11_power at h
  refine lv_iload_n hx hb dX11_power_0 rfl (lv_at hl 1 rfl) ?_
  refine lv_iconst (v := -1) hx hb dX11_power_1 (by decide) ?_
  obtain ⟨J15, eJ15, h⟩ := lt_e h
  have hJ15 : ∀ (S2 : St) (H : Heap) (locs : List Loc) (ls : Array Slot), Rp E α g S2 H → va_S E.2.2.1 s.heap H locs → lv_has ls 5 [(0, .ref (α 54)), (1, .int v1), (2, .int v2)] → J15  S2 = some z → W p l e rm_X11_power s m args below meth c H locs 0 0 (MQ below (Qi E α g z) args s 0 0 E.2.2.1) (F0 m 15 ls []) := by
    intro  S2 H locs ls  hR hS hl h
    rw [eJ15] at h
    refine lv_iload_n hx hb dX11_power_15 rfl (lv_at hl 2 rfl) ?_
    refine lv_iconst (v := 0) hx hb dX11_power_16 (by decide) ?_
    refine lv_ldcw (v := 65535) hx hb hown (hts _ q1354) dX11_power_17 ?_
    obtain ⟨r3, S4, hr3, h⟩ := bd_e h
    refine g_ci hS (g_runS C hR hS (As := [.int v2, .int (0 : Int32), .int (65535 : Int32)]) (rest := []) (c_X11_in l  hr3) m_X11_in q1093 ⟨rfl, rfl⟩ ⟨Nat.le_of_ble_eq_true rfl, Nat.le_of_ble_eq_true rfl⟩ rfl hl.1 rfl (Nat.le_of_ble_eq_true rfl) dX11_power_20 ⟨Nat.zero_le _, Nat.zero_le _⟩) (fun H locs hR hS => ?_)
    refine lv_if_ne (tgt := 29) hx hb dX11_power_23 (by decide) (fun c5 => ?_) (fun c5 => ?_)
    · have h := ite_f c5 h
      refine lv_iload_n hx hb dX11_power_29 rfl (lv_at hl 1 rfl) ?_
      refine lv_iconst (v := -1) hx hb dX11_power_30 (by decide) ?_
      refine lv_icmp_eq (tgt := 41) hx hb dX11_power_31 (by decide) (fun c6 => ?_) (fun c6 => ?_)
      · have h := ite_t c6 h
        refine lv_iconst (v := 0) hx hb dX11_power_41 (by decide) ?_
        refine lv_istore_n (lv' := [(3, .int (0 : Int32)), (0, .ref (α 54)), (1, .int v1), (2, .int v2)]) hx hb dX11_power_42 rfl hl (by decide) rfl (fun ls hl => ?_)
        refine lv_iconst (v := 1) hx hb dX11_power_43 (by decide) ?_
        refine lv_istore (lv' := [(4, .int (1 : Int32)), (3, .int (0 : Int32)), (0, .ref (α 54)), (1, .int v1), (2, .int v2)]) hx hb dX11_power_44 hl (by decide) rfl (fun ls hl => ?_)
        refine w_X11_power_L46 C ?_  _ _ _ _ _ _ _  hR hS (lv_sub hl [2, 4, 1, 0] rfl) h
        · intro x16 S17 H locs ls  hR hS hl h
          refine lv_bipush (v := 16) hx hb dX11_power_82 (by decide) ?_
          refine lv_aload_n hx hb dX11_power_84 rfl (lv_at hl 0 rfl) ?_
          refine lv_iload_n hx hb dX11_power_85 rfl (lv_at hl 2 rfl) ?_
          refine lv_iload_n hx hb dX11_power_86 rfl (lv_at hl 1 rfl) ?_
          obtain ⟨r18, S19, hr18, h⟩ := bd_e h
          refine g_ci hS (g_runV C hR hS (k := 54) (As := [.int x16, .int v2]) (rest := [.int (16 : Int32)]) (c_X11_powerAt l  hr18) (live_st (by decide)) rfl (vw11) m_X11_powerAt q1355 ⟨rfl, rfl⟩ ⟨Nat.le_of_ble_eq_true rfl, Nat.le_of_ble_eq_true rfl⟩ rfl hl.1 rfl (Nat.le_of_ble_eq_true rfl) dX11_power_87 ⟨Nat.zero_le _, Nat.zero_le _⟩) (fun H locs hR hS => ?_)
          refine lv_imul hx hb dX11_power_90 ?_
          refine lv_iload_n hx hb dX11_power_91 rfl (lv_at hl 2 rfl) ?_
          refine lv_iadd hx hb dX11_power_92 ?_
          exact g_iret C hR hS h dX11_power_93
      · have h := ite_f c6 h
        refine lv_aload_n hx hb dX11_power_34 rfl (lv_at hl 0 rfl) ?_
        refine lv_iload_n hx hb dX11_power_35 rfl (lv_at hl 1 rfl) ?_
        refine lv_iload_n hx hb dX11_power_36 rfl (lv_at hl 2 rfl) ?_
        obtain ⟨r20, S21, hr20, h⟩ := bd_e h
        refine g_ci hS (g_runV C hR hS (k := 54) (As := [.int v1, .int v2]) (rest := []) (c_X11_powerAt l  hr20) (live_st (by decide)) rfl (vw11) m_X11_powerAt q1355 ⟨rfl, rfl⟩ ⟨Nat.le_of_ble_eq_true rfl, Nat.le_of_ble_eq_true rfl⟩ rfl hl.1 rfl (Nat.le_of_ble_eq_true rfl) dX11_power_37 ⟨Nat.zero_le _, Nat.zero_le _⟩) (fun H locs hR hS => ?_)
        exact g_iret C hR hS h dX11_power_40
    · have h := ite_t c5 h
      refine lv_bipush (v := -3) hx hb dX11_power_26 (by decide) ?_
      exact g_iret C hR hS h dX11_power_28
  clear eJ15
  refine lv_icmp_eq (tgt := 15) hx hb dX11_power_2 (by decide) (fun c22 => ?_) (fun c22 => ?_)
  · have h := ite_t c22 h
    exact hJ15  _ _ _ _  hR hS hl h
  · have h := ite_f c22 h
    refine lv_iload_n hx hb dX11_power_5 rfl (lv_at hl 1 rfl) ?_
    obtain ⟨r23, S24, hr23, h⟩ := bd_e h
    refine g_ci hS (g_runS C hR hS (As := [.int v1]) (rest := []) (c_X11_isSpot l  hr23) m_X11_isSpot q1343 ⟨rfl, rfl⟩ ⟨Nat.le_of_ble_eq_true rfl, Nat.le_of_ble_eq_true rfl⟩ rfl hl.1 rfl (Nat.le_of_ble_eq_true rfl) dX11_power_6 ⟨Nat.zero_le _, Nat.zero_le _⟩) (fun H locs hR hS => ?_)
    refine lv_if_ne (tgt := 15) hx hb dX11_power_9 (by decide) (fun c25 => ?_) (fun c25 => ?_)
    · have h := ite_f c25 h
      exact hJ15  _ _ _ _  hR hS hl h
    · have h := ite_t c25 h
      refine lv_bipush (v := -2) hx hb dX11_power_12 (by decide) ?_
      exact g_iret C hR hS h dX11_power_14

/-! OneVoiceModel.positive([I)I -/
abbrev rm_X11_positive : Room := { frames := 0, cells := 0, slots := 0, locals := 0 }
theorem m_X11_positive : MS yX11_positive cX11_positive 3 (some .int) 1 := ⟨q1364, q77, q1365, by decide +kernel⟩
def f_X11_positive_L4 (K30 : Int32 → St → Option (Int32 × St)) (n0 : Nat) : Nat → Int32 → Int32 → St → Option (Int32 × St)
  | 0, _, _, _ => none
  | f + 1, v1, v2, S =>
    if (nI (alen n0)) ≤ v2 then
      K30 v1 S
    else
      gd_ (inb v2 (alen n0)) <|
      lt_ (fun (t6 : Int32) (t7 : Int32) (S8 : St) =>
          lt_ (t6 + t7) fun x9 =>
          lt_ (v2 + (1 : Int32)) fun x10 =>
          f_X11_positive_L4 K30 n0 f x9 x10 S8) fun J22 =>
      if (rd S n0 (Int32.toNatClampNeg v2)) ≤ 0 then
        J22 v1 (0 : Int32) S
      else
        J22 v1 (1 : Int32) S

def f_X11_positive (n0 : Nat) (S : St) : Option (Int32 × St) :=
  f_X11_positive_L4
    (fun (x12 : Int32) (S13 : St) =>
      some (x12, S13))
    n0 FU (0 : Int32) (0 : Int32) S

set_option maxHeartbeats 4000000 in
set_option maxRecDepth 100000 in
theorem w_X11_positive_L4 {p : Program} {l : Launch} {e : Env} {s : State} {m : MethodId} {args : Array Value} {below : List Frame} {meth : Method} {c : Code} {E : En} {α : Nat → Nat} {g : Nat × Nat} (C : Cx p s m args meth c RX11 cX11_positive 3 (some .int) E) {z : Int32 × St} {K30 : Int32 → St → Option (Int32 × St)} {n0 : Nat}
    (hK30 : ∀ (y1 : Int32) (S : St) (H : Heap) (locs : List Loc) (ls : Array Slot), Rp E α g S H → va_S E.2.2.1 s.heap H locs → lv_has ls 3 [(1, .int y1)] → K30 y1 S = some z → W p l e rm_X11_positive s m args below meth c H locs 0 0 (MQ below (Qi E α g z) args s 0 0 E.2.2.1) (F0 m 30 ls [])) (hn0 : n0 < 90 ∧ lay n0 = .inr (0, alen n0)) :
    ∀ (f : Nat) (v1 : Int32) (v2 : Int32) (S : St) (H : Heap) (locs : List Loc) (ls : Array Slot), Rp E α g S H → va_S E.2.2.1 s.heap H locs → lv_has ls 3 [(0, .ref (α n0)), (1, .int v1), (2, .int v2)] → f_X11_positive_L4 K30 n0 f v1 v2 S = some z → W p l e rm_X11_positive s m args below meth c H locs 0 0 (MQ below (Qi E α g z) args s 0 0 E.2.2.1) (F0 m 4 ls []) := by
  obtain ⟨hx, hb, hml, hown, hts, hlk, hrt, hKs⟩ := id C
  intro f
  induction f with
  | zero =>
    intro v1 v2 S H locs ls  hR hS hl h
    rw [f_X11_positive_L4] at h
    cases h
  | succ f ih =>
    intro v1 v2 S H locs ls  hR hS hl h
    rw [f_X11_positive_L4] at h
    refine lv_iload_n hx hb dX11_positive_4 rfl (lv_at hl 2 rfl) ?_
    refine lv_aload_n hx hb dX11_positive_5 rfl (lv_at hl 0 rfl) ?_
    refine g_alen C hR (k := n0) (n := (alen n0)) (live_st hn0.1) hn0.2 dX11_positive_6 ?_
    refine lv_icmp_ge (tgt := 30) hx hb dX11_positive_7 (by decide) (fun c4 => ?_) (fun c4 => ?_)
    · have h := ite_t c4 h
      exact hK30 _ _ _ _ _  hR hS (lv_sub hl [1] rfl) h
    · have h := ite_f c4 h
      refine lv_iload_n hx hb dX11_positive_10 rfl (lv_at hl 1 rfl) ?_
      refine lv_aload_n hx hb dX11_positive_11 rfl (lv_at hl 0 rfl) ?_
      refine lv_iload_n hx hb dX11_positive_12 rfl (lv_at hl 2 rfl) ?_
      obtain ⟨g5, h⟩ := gd_e h
      refine g_iald C hR (k := n0) (n := (alen n0)) (live_st hn0.1) hn0.2 g5 dX11_positive_13 ?_
      obtain ⟨J22, eJ22, h⟩ := lt_e h
      have hJ22 : ∀ (t6 : Int32) (t7 : Int32) (S8 : St) (H : Heap) (locs : List Loc) (ls : Array Slot), Rp E α g S8 H → va_S E.2.2.1 s.heap H locs → lv_has ls 3 [(0, .ref (α n0)), (2, .int v2)] → J22 t6 t7 S8 = some z → W p l e rm_X11_positive s m args below meth c H locs 0 0 (MQ below (Qi E α g z) args s 0 0 E.2.2.1) (F0 m 22 ls [.int t7, .int t6]) := by
        intro t6 t7 S8 H locs ls  hR hS hl h
        rw [eJ22] at h
        refine lv_iadd hx hb dX11_positive_22 ?_
        obtain ⟨x9, ex9, h⟩ := lt_e h
        refine g_nmi ex9 ?_
        refine lv_istore_n (lv' := [(1, .int x9), (0, .ref (α n0)), (2, .int v2)]) hx hb dX11_positive_23 rfl hl (by decide) rfl (fun ls hl => ?_)
        obtain ⟨x10, ex10, h⟩ := lt_e h
        refine lv_iinc (v := x10) (lv' := [(2, .int x10), (1, .int x9), (0, .ref (α n0))]) hx hb dX11_positive_24 hl (k := 2) rfl (by rw [ex10]; rfl) (by decide) rfl (fun ls hl => ?_)
        refine lv_goto (tgt := 4) hx hb dX11_positive_27 (by decide) ?_
        exact ih _ _ _ _ _ _  hR hS (lv_sub hl [2, 1, 0] rfl) h
      clear eJ22
      refine lv_if_le (tgt := 21) hx hb dX11_positive_14 (by decide) (fun c11 => ?_) (fun c11 => ?_)
      · have h := ite_t c11 h
        refine lv_iconst (v := 0) hx hb dX11_positive_21 (by decide) ?_
        exact hJ22 _ _ _ _ _ _  hR hS (lv_sub hl [0, 2] rfl) h
      · have h := ite_f c11 h
        refine lv_iconst (v := 1) hx hb dX11_positive_17 (by decide) ?_
        refine lv_goto (tgt := 22) hx hb dX11_positive_18 (by decide) ?_
        exact hJ22 _ _ _ _ _ _  hR hS (lv_sub hl [0, 2] rfl) h

set_option maxHeartbeats 4000000 in
set_option maxRecDepth 100000 in
theorem c_X11_positive (l : Launch) {E : En} {α : Nat → Nat} {g : Nat × Nat} {n0 : Nat} {S : St} (hn0 : n0 < 90 ∧ lay n0 = .inr (0, alen n0)) {z : Int32 × St} (h : f_X11_positive n0 S = some z) : Met l yX11_positive (wsY yX11_positive cX11_positive 3 (some .int)) rm_X11_positive (va_Pc [.ref (α n0)] (Wd E α g S)) (Qi E α g z) 0 0 E.2.2.1 := by
  refine g_met [.ref (α n0)] (by decide) rfl (Nat.le_of_ble_eq_true rfl) ?_
  intro p e s m below meth c ls C hR hl
  generalize hae : ([.ref (α n0)] : List Value).toArray = args at C ⊢
  have hl : lv_has ls 3 [(0, .ref (α n0))] := hl
  obtain ⟨hx, hb, hml, hown, hts, hlk, hrt, hKs⟩ := id C
  have hS : va_S E.2.2.1 s.heap s.heap [] := va_S.rf
  unfold f_X11_positive at h
  refine lv_iconst (v := 0) hx hb dX11_positive_0 (by decide) ?_
  refine lv_istore_n (lv' := [(1, .int (0 : Int32)), (0, .ref (α n0))]) hx hb dX11_positive_1 rfl hl (by decide) rfl (fun ls hl => ?_)
  refine lv_iconst (v := 0) hx hb dX11_positive_2 (by decide) ?_
  refine lv_istore_n (lv' := [(2, .int (0 : Int32)), (1, .int (0 : Int32)), (0, .ref (α n0))]) hx hb dX11_positive_3 rfl hl (by decide) rfl (fun ls hl => ?_)
  refine w_X11_positive_L4 C ?_ hn0 _ _ _ _ _ _ _  hR hS (lv_sub hl [2, 1, 0] rfl) h
  · intro x12 S13 H locs ls  hR hS hl h
    refine lv_iload_n hx hb dX11_positive_30 rfl (lv_at hl 0 rfl) ?_
    exact g_iret C hR hS h dX11_positive_31

/-! OneVoiceModel.count(I)I -/
abbrev rm_X11_count : Room := { frames := 1, cells := 0, slots := 0, locals := 22 }
theorem m_X11_count : MV yX11_count RX11 cX11_count 2 (some .int) 1 := ⟨q1360, q1361, q77, q1362, by decide +kernel⟩
def f_X11_count (v1 : Int32) (S : St) : Option (Int32 × St) :=
  if v1 = (0 : Int32) then
    some ((rd S 54 0), S)
  else
  if v1 = (1 : Int32) then
    some ((rd S 54 12), S)
  else
  if v1 = (2 : Int32) then
    bd_ (f_X11_positive 67 S) fun r4 S5 =>
    some (r4, S5)
  else
  if v1 = (3 : Int32) then
    bd_ (f_X11_positive 69 S) fun r7 S8 =>
    some (r7, S8)
  else
  if v1 = (4 : Int32) then
    some ((rd S 54 7), S)
  else
  if v1 = (5 : Int32) then
    some ((rd S 54 32), S)
  else
  if v1 = (6 : Int32) then
    some ((rd S 54 31), S)
  else
  some ((-3 : Int32), S)

set_option maxHeartbeats 4000000 in
set_option maxRecDepth 100000 in
theorem c_X11_count (l : Launch) {E : En} {α : Nat → Nat} {g : Nat × Nat} {v1 : Int32} {S : St}  {z : Int32 × St} (h : f_X11_count v1 S = some z) : Met l yX11_count (wsY yX11_count cX11_count 2 (some .int)) rm_X11_count (va_Pc [.ref (α 54), .int v1] (Wd E α g S)) (Qi E α g z) 0 0 E.2.2.1 := by
  refine g_met [.ref (α 54), .int v1] (by decide) rfl (Nat.le_of_ble_eq_true rfl) ?_
  intro p e s m below meth c ls C hR hl
  generalize hae : ([.ref (α 54), .int v1] : List Value).toArray = args at C ⊢
  have hl : lv_has ls 2 [(0, .ref (α 54)), (1, .int v1)] := hl
  obtain ⟨hx, hb, hml, hown, hts, hlk, hrt, hKs⟩ := id C
  have hS : va_S E.2.2.1 s.heap s.heap [] := va_S.rf
  unfold f_X11_count at h
  refine lv_iload_n hx hb dX11_count_0 rfl (lv_at hl 1 rfl) ?_
  by_cases c1 : v1 = (0 : Int32)
  · have h := ite_t c1 h
    refine lv_tableIn (off := 43) (tgt := 44) hx hb dX11_count_1 (by rw [c1]; decide) (by rw [c1]; decide) (by rw [c1]; rfl) (by decide) ?_
    refine lv_aload_n hx hb dX11_count_44 rfl (lv_at hl 0 rfl) ?_
    refine g_geti C hR (k := 54) (j := 0) (live_st (by decide)) rfl rfl (vw11) inl11 (by decide) q943 dX11_count_45 ?_
    exact g_iret C hR hS h dX11_count_48
  have h := ite_f c1 h
  by_cases c2 : v1 = (1 : Int32)
  · have h := ite_t c2 h
    refine lv_tableIn (off := 48) (tgt := 49) hx hb dX11_count_1 (by rw [c2]; decide) (by rw [c2]; decide) (by rw [c2]; rfl) (by decide) ?_
    refine lv_aload_n hx hb dX11_count_49 rfl (lv_at hl 0 rfl) ?_
    refine g_geti C hR (k := 54) (j := 12) (live_st (by decide)) rfl rfl (vw11) inl11 (by decide) q955 dX11_count_50 ?_
    exact g_iret C hR hS h dX11_count_53
  have h := ite_f c2 h
  by_cases c3 : v1 = (2 : Int32)
  · have h := ite_t c3 h
    refine lv_tableIn (off := 53) (tgt := 54) hx hb dX11_count_1 (by rw [c3]; decide) (by rw [c3]; decide) (by rw [c3]; rfl) (by decide) ?_
    refine lv_aload_n hx hb dX11_count_54 rfl (lv_at hl 0 rfl) ?_
    refine g_getr (t := 67) C hR (k := 54) (j := 22) (live_st (by decide)) rfl rfl (vw11) inl11 (by decide) q965 dX11_count_55 ?_
    obtain ⟨r4, S5, hr4, h⟩ := bd_e h
    refine g_ci hS (g_runS C hR hS (As := [.ref (α 67)]) (rest := []) (c_X11_positive l ⟨by decide, rfl⟩ hr4) m_X11_positive q1363 ⟨rfl, rfl⟩ ⟨Nat.le_of_ble_eq_true rfl, Nat.le_of_ble_eq_true rfl⟩ rfl hl.1 rfl (Nat.le_of_ble_eq_true rfl) dX11_count_58 ⟨Nat.zero_le _, Nat.zero_le _⟩) (fun H locs hR hS => ?_)
    exact g_iret C hR hS h dX11_count_61
  have h := ite_f c3 h
  by_cases c6 : v1 = (3 : Int32)
  · have h := ite_t c6 h
    refine lv_tableIn (off := 61) (tgt := 62) hx hb dX11_count_1 (by rw [c6]; decide) (by rw [c6]; decide) (by rw [c6]; rfl) (by decide) ?_
    refine lv_aload_n hx hb dX11_count_62 rfl (lv_at hl 0 rfl) ?_
    refine g_getr (t := 69) C hR (k := 54) (j := 24) (live_st (by decide)) rfl rfl (vw11) inl11 (by decide) q967 dX11_count_63 ?_
    obtain ⟨r7, S8, hr7, h⟩ := bd_e h
    refine g_ci hS (g_runS C hR hS (As := [.ref (α 69)]) (rest := []) (c_X11_positive l ⟨by decide, rfl⟩ hr7) m_X11_positive q1363 ⟨rfl, rfl⟩ ⟨Nat.le_of_ble_eq_true rfl, Nat.le_of_ble_eq_true rfl⟩ rfl hl.1 rfl (Nat.le_of_ble_eq_true rfl) dX11_count_66 ⟨Nat.zero_le _, Nat.zero_le _⟩) (fun H locs hR hS => ?_)
    exact g_iret C hR hS h dX11_count_69
  have h := ite_f c6 h
  by_cases c9 : v1 = (4 : Int32)
  · have h := ite_t c9 h
    refine lv_tableIn (off := 69) (tgt := 70) hx hb dX11_count_1 (by rw [c9]; decide) (by rw [c9]; decide) (by rw [c9]; rfl) (by decide) ?_
    refine lv_aload_n hx hb dX11_count_70 rfl (lv_at hl 0 rfl) ?_
    refine g_geti C hR (k := 54) (j := 7) (live_st (by decide)) rfl rfl (vw11) inl11 (by decide) q950 dX11_count_71 ?_
    exact g_iret C hR hS h dX11_count_74
  have h := ite_f c9 h
  by_cases c10 : v1 = (5 : Int32)
  · have h := ite_t c10 h
    refine lv_tableIn (off := 74) (tgt := 75) hx hb dX11_count_1 (by rw [c10]; decide) (by rw [c10]; decide) (by rw [c10]; rfl) (by decide) ?_
    refine lv_aload_n hx hb dX11_count_75 rfl (lv_at hl 0 rfl) ?_
    refine g_geti C hR (k := 54) (j := 32) (live_st (by decide)) rfl rfl (vw11) inl11 (by decide) q975 dX11_count_76 ?_
    exact g_iret C hR hS h dX11_count_79
  have h := ite_f c10 h
  by_cases c11 : v1 = (6 : Int32)
  · have h := ite_t c11 h
    refine lv_tableIn (off := 79) (tgt := 80) hx hb dX11_count_1 (by rw [c11]; decide) (by rw [c11]; decide) (by rw [c11]; rfl) (by decide) ?_
    refine lv_aload_n hx hb dX11_count_80 rfl (lv_at hl 0 rfl) ?_
    refine g_geti C hR (k := 54) (j := 31) (live_st (by decide)) rfl rfl (vw11) inl11 (by decide) q974 dX11_count_81 ?_
    exact g_iret C hR hS h dX11_count_84
  have h := ite_f c11 h
  have c1 := tsw_ne (k := 0) c1 (by decide)
  have c2 := tsw_ne (k := 1) c2 (by decide)
  have c3 := tsw_ne (k := 2) c3 (by decide)
  have c6 := tsw_ne (k := 3) c6 (by decide)
  have c9 := tsw_ne (k := 4) c9 (by decide)
  have c10 := tsw_ne (k := 5) c10 (by decide)
  have c11 := tsw_ne (k := 6) c11 (by decide)
  refine lv_tableOut (tgt := 85) hx hb dX11_count_1 (by omega) (by decide) ?_
  refine lv_bipush (v := -3) hx hb dX11_count_85 (by decide) ?_
  exact g_iret C hR hS h dX11_count_87
