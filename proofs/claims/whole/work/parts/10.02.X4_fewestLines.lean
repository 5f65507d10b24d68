/-! OneVoice$Recorder.fewestLines()I -/
abbrev rm_X4_fewestLines : Room := { frames := 3, cells := 0, slots := 0, locals := 67 }
theorem m_X4_fewestLines : MV yX4_fewestLines RX4 cX4_fewestLines 6 (some .int) 0 := ⟨q859, q860, q75, q861, by decide +kernel⟩
def f_X4_fewestLines_L6 (K69 : St → Option (Int32 × St))  : Nat → Int32 → St → Option (Int32 × St)
  | 0, _, _ => none
  | f + 1, v1, S =>
    if (8 : Int32) ≤ v1 then
      K69  S
    else
      gd_ (inb v1 8) <|
      lt_ (wl S 51 (Int32.toNatClampNeg v1) (0 : Int64)) fun S9 =>
      bd_ (f_X1_knows v1 S9) fun r11 S12 =>
      lt_ (fun  (S13 : St) =>
          lt_ (v1 + (1 : Int32)) fun x14 =>
          f_X4_fewestLines_L6 K69 f x14 S13) fun J63 =>
      if r11 = 0 then
        J63  S12
      else
        bd_ (f_X1_hasNumber v1 S12) fun r16 S17 =>
        if r16 = 0 then
          bd_ (f_X1_spell v1 (0 : Int32) S17) fun r19 S20 =>
          if r19 = 0 then
            J63  S20
          else
            bd_ (f_X4_coverOfSpoken  S20) fun r22 S23 =>
            gd_ (inb v1 8) <|
            lt_ (wl S23 51 (Int32.toNatClampNeg v1) r22) fun S24 =>
            J63  S24
        else
          J63  S17

def f_X4_fewestLines_L83 (K140 : Int32 → St → Option (Int32 × St)) (v1 : Int64) : Nat → Int32 → Int32 → St → Option (Int32 × St)
  | 0, _, _, _ => none
  | f + 1, v3, v4, S =>
    if (256 : Int32) ≤ v4 then
      K140 v3 S
    else
      lt_ (fun (t29 : Int32) (S30 : St) =>
          lt_ (fun (x31 : Int32) (S32 : St) =>
              lt_ (v4 + (1 : Int32)) fun x33 =>
              f_X4_fewestLines_L83 K140 v1 f x31 x33 S32) fun J134 =>
          if t29 = 0 then
            J134 v3 S30
          else
            bd_ (f_X4_coverOfSet v4 S30) fun r35 S36 =>
            if (lg_cmp r35 v1) = 0 then
              J134 v4 S36
            else
              J134 v3 S36) fun J113 =>
      lt_ (fun  (S38 : St) =>
          J113 (1 : Int32) S38) fun J108 =>
      if v3 = (-1 : Int32) then
        J108  S
      else
        bd_ (f_J6_bitCount_0f7a4 v4 S) fun r40 S41 =>
        bd_ (f_J6_bitCount_0f7a4 v3 S41) fun r42 S43 =>
        if r42 ≤ r40 then
          J113 (0 : Int32) S43
        else
          J108  S43

def f_X4_fewestLines  (S : St) : Option (Int32 × St) :=
  bd_ (f_X4_gatherNames  S) fun r6 S7 =>
  f_X4_fewestLines_L6
    (fun  (S26 : St) =>
      lt_ ((lshlv (1 : Int64) (rd S26 49 2)) - (1 : Int64)) fun x27 =>
      f_X4_fewestLines_L83
        (fun (x45 : Int32) (S46 : St) =>
          some (x45, S46))
        x27 FU (-1 : Int32) (0 : Int32) S26)
     FU (0 : Int32) S7

set_option maxHeartbeats 4000000 in
set_option maxRecDepth 100000 in
theorem w_X4_fewestLines_L6 {p : Program} {l : Launch} {e : Env} {s : State} {m : MethodId} {args : Array Value} {below : List Frame} {meth : Method} {c : Code} {E : En} {α : Nat → Nat} {g : Nat × Nat} (C : Cx p s m args meth c RX4 cX4_fewestLines 6 (some .int) E) {z : Int32 × St} {K69 : St → Option (Int32 × St)}
    (hK69 : ∀ (S : St) (H : Heap) (locs : List Loc) (ls : Array Slot), Rp E α g S H → va_S E.2.2.1 s.heap H locs → lv_has ls 6 [(0, .ref (α 49))] → K69  S = some z → W p l e rm_X4_fewestLines s m args below meth c H locs 0 0 (MQ below (Qi E α g z) args s 0 0 E.2.2.1) (F0 m 69 ls [])) :
    ∀ (f : Nat) (v1 : Int32) (S : St) (H : Heap) (locs : List Loc) (ls : Array Slot), Rp E α g S H → va_S E.2.2.1 s.heap H locs → lv_has ls 6 [(0, .ref (α 49)), (1, .int v1)] → f_X4_fewestLines_L6 K69 f v1 S = some z → W p l e rm_X4_fewestLines s m args below meth c H locs 0 0 (MQ below (Qi E α g z) args s 0 0 E.2.2.1) (F0 m 6 ls []) := by
  obtain ⟨hx, hb, hml, hown, hts, hlk, hrt, hKs⟩ := id C
  intro f
  induction f with
  | zero =>
    intro v1 S H locs ls  hR hS hl h
    rw [f_X4_fewestLines_L6] at h
    cases h
  | succ f ih =>
    intro v1 S H locs ls  hR hS hl h
    rw [f_X4_fewestLines_L6] at h
    refine lv_iload_n hx hb dX4_fewestLines_6 rfl (lv_at hl 1 rfl) ?_
    refine lv_bipush (v := 8) hx hb dX4_fewestLines_7 (by decide) ?_
    refine lv_icmp_ge (tgt := 69) hx hb dX4_fewestLines_9 (by decide) (fun c8 => ?_) (fun c8 => ?_)
    · have h := ite_t c8 h
      exact hK69  _ _ _ _  hR hS (lv_sub hl [0] rfl) h
    · have h := ite_f c8 h
      refine lv_aload_n hx hb dX4_fewestLines_12 rfl (lv_at hl 0 rfl) ?_
      refine g_getr (t := 51) C hR (k := 49) (j := 3) (live_st (by decide)) rfl rfl (vw4) inl4 (by decide) q326 dX4_fewestLines_13 ?_
      refine lv_iload_n hx hb dX4_fewestLines_16 rfl (lv_at hl 1 rfl) ?_
      refine lv_lconst (v := 0) hx hb dX4_fewestLines_17 (by decide) ?_
      obtain ⟨g10, h⟩ := gd_e h
      obtain ⟨S9, eS9, h⟩ := lt_e h
      refine g_last C hR hS (k := 51) (n := 8) (live_st (by decide)) rfl g10 eS9 dX4_fewestLines_18 (fun H locs hR hS => ?_)
      refine lv_aload_n hx hb dX4_fewestLines_19 rfl (lv_at hl 0 rfl) ?_
      refine g_getr (t := 14) C hR (k := 49) (j := 0) (live_st (by decide)) rfl rfl (vw4) inl4 (by decide) q323 dX4_fewestLines_20 ?_
      refine lv_iload_n hx hb dX4_fewestLines_23 rfl (lv_at hl 1 rfl) ?_
      obtain ⟨r11, S12, hr11, h⟩ := bd_e h
      refine g_ci hS (g_runV C hR hS (k := 14) (As := [.int v1]) (rest := []) (c_X1_knows l  hr11) (live_st (by decide)) rfl (vw1) m_X1_knows q878 ⟨rfl, rfl⟩ ⟨Nat.le_of_ble_eq_true rfl, Nat.le_of_ble_eq_true rfl⟩ rfl hl.1 rfl (Nat.le_of_ble_eq_true rfl) dX4_fewestLines_24 ⟨Nat.zero_le _, Nat.zero_le _⟩) (fun H locs hR hS => ?_)
      obtain ⟨J63, eJ63, h⟩ := lt_e h
      have hJ63 : ∀ (S13 : St) (H : Heap) (locs : List Loc) (ls : Array Slot), Rp E α g S13 H → va_S E.2.2.1 s.heap H locs → lv_has ls 6 [(0, .ref (α 49)), (1, .int v1)] → J63  S13 = some z → W p l e rm_X4_fewestLines s m args below meth c H locs 0 0 (MQ below (Qi E α g z) args s 0 0 E.2.2.1) (F0 m 63 ls []) := by
        intro  S13 H locs ls  hR hS hl h
        rw [eJ63] at h
        obtain ⟨x14, ex14, h⟩ := lt_e h
        refine lv_iinc (v := x14) (lv' := [(1, .int x14), (0, .ref (α 49))]) hx hb dX4_fewestLines_63 hl (k := 1) rfl (by rw [ex14]; rfl) (by decide) rfl (fun ls hl => ?_)
        refine lv_goto (tgt := 6) hx hb dX4_fewestLines_66 (by decide) ?_
        exact ih _ _ _ _ _  hR hS (lv_sub hl [1, 0] rfl) h
      clear eJ63
      refine lv_if_eq (tgt := 63) hx hb dX4_fewestLines_27 (by decide) (fun c15 => ?_) (fun c15 => ?_)
      · have h := ite_t c15 h
        exact hJ63  _ _ _ _  hR hS hl h
      · have h := ite_f c15 h
        refine lv_aload_n hx hb dX4_fewestLines_30 rfl (lv_at hl 0 rfl) ?_
        refine g_getr (t := 14) C hR (k := 49) (j := 0) (live_st (by decide)) rfl rfl (vw4) inl4 (by decide) q323 dX4_fewestLines_31 ?_
        refine lv_iload_n hx hb dX4_fewestLines_34 rfl (lv_at hl 1 rfl) ?_
        obtain ⟨r16, S17, hr16, h⟩ := bd_e h
        refine g_ci hS (g_runV C hR hS (k := 14) (As := [.int v1]) (rest := []) (c_X1_hasNumber l  hr16) (live_st (by decide)) rfl (vw1) m_X1_hasNumber q879 ⟨rfl, rfl⟩ ⟨Nat.le_of_ble_eq_true rfl, Nat.le_of_ble_eq_true rfl⟩ rfl hl.1 rfl (Nat.le_of_ble_eq_true rfl) dX4_fewestLines_35 ⟨Nat.zero_le _, Nat.zero_le _⟩) (fun H locs hR hS => ?_)
        refine lv_if_ne (tgt := 63) hx hb dX4_fewestLines_38 (by decide) (fun c18 => ?_) (fun c18 => ?_)
        · have h := ite_f c18 h
          exact hJ63  _ _ _ _  hR hS hl h
        · have h := ite_t c18 h
          refine lv_aload_n hx hb dX4_fewestLines_41 rfl (lv_at hl 0 rfl) ?_
          refine g_getr (t := 14) C hR (k := 49) (j := 0) (live_st (by decide)) rfl rfl (vw4) inl4 (by decide) q323 dX4_fewestLines_42 ?_
          refine lv_iload_n hx hb dX4_fewestLines_45 rfl (lv_at hl 1 rfl) ?_
          refine lv_iconst (v := 0) hx hb dX4_fewestLines_46 (by decide) ?_
          obtain ⟨r19, S20, hr19, h⟩ := bd_e h
          refine g_ci hS (g_runV C hR hS (k := 14) (As := [.int v1, .int (0 : Int32)]) (rest := []) (c_X1_spell l  hr19) (live_st (by decide)) rfl (vw1) m_X1_spell q883 ⟨rfl, rfl⟩ ⟨Nat.le_of_ble_eq_true rfl, Nat.le_of_ble_eq_true rfl⟩ rfl hl.1 rfl (Nat.le_of_ble_eq_true rfl) dX4_fewestLines_47 ⟨Nat.zero_le _, Nat.zero_le _⟩) (fun H locs hR hS => ?_)
          refine lv_if_eq (tgt := 63) hx hb dX4_fewestLines_50 (by decide) (fun c21 => ?_) (fun c21 => ?_)
          · have h := ite_t c21 h
            exact hJ63  _ _ _ _  hR hS hl h
          · have h := ite_f c21 h
            refine lv_aload_n hx hb dX4_fewestLines_53 rfl (lv_at hl 0 rfl) ?_
            refine g_getr (t := 51) C hR (k := 49) (j := 3) (live_st (by decide)) rfl rfl (vw4) inl4 (by decide) q326 dX4_fewestLines_54 ?_
            refine lv_iload_n hx hb dX4_fewestLines_57 rfl (lv_at hl 1 rfl) ?_
            refine lv_aload_n hx hb dX4_fewestLines_58 rfl (lv_at hl 0 rfl) ?_
            obtain ⟨r22, S23, hr22, h⟩ := bd_e h
            refine g_cl hS (g_runV C hR hS (k := 49) (As := []) (rest := [.int v1, .ref (α 51)]) (c_X4_coverOfSpoken l  hr22) (live_st (by decide)) rfl (vw4) m_X4_coverOfSpoken q884 ⟨rfl, rfl⟩ ⟨Nat.le_of_ble_eq_true rfl, Nat.le_of_ble_eq_true rfl⟩ rfl hl.1 rfl (Nat.le_of_ble_eq_true rfl) dX4_fewestLines_59 ⟨Nat.zero_le _, Nat.zero_le _⟩) (fun H locs hR hS => ?_)
            obtain ⟨g25, h⟩ := gd_e h
            obtain ⟨S24, eS24, h⟩ := lt_e h
            refine g_last C hR hS (k := 51) (n := 8) (live_st (by decide)) rfl g25 eS24 dX4_fewestLines_62 (fun H locs hR hS => ?_)
            exact hJ63  _ _ _ _  hR hS hl h

set_option maxHeartbeats 4000000 in
set_option maxRecDepth 100000 in
theorem w_X4_fewestLines_L83 {p : Program} {l : Launch} {e : Env} {s : State} {m : MethodId} {args : Array Value} {below : List Frame} {meth : Method} {c : Code} {E : En} {α : Nat → Nat} {g : Nat × Nat} (C : Cx p s m args meth c RX4 cX4_fewestLines 6 (some .int) E) {z : Int32 × St} {K140 : Int32 → St → Option (Int32 × St)} {v1 : Int64}
    (hK140 : ∀ (y3 : Int32) (S : St) (H : Heap) (locs : List Loc) (ls : Array Slot), Rp E α g S H → va_S E.2.2.1 s.heap H locs → lv_has ls 6 [(3, .int y3)] → K140 y3 S = some z → W p l e rm_X4_fewestLines s m args below meth c H locs 0 0 (MQ below (Qi E α g z) args s 0 0 E.2.2.1) (F0 m 140 ls [])) :
    ∀ (f : Nat) (v3 : Int32) (v4 : Int32) (S : St) (H : Heap) (locs : List Loc) (ls : Array Slot), Rp E α g S H → va_S E.2.2.1 s.heap H locs → lv_has ls 6 [(0, .ref (α 49)), (1, .long v1), (3, .int v3), (4, .int v4)] → f_X4_fewestLines_L83 K140 v1 f v3 v4 S = some z → W p l e rm_X4_fewestLines s m args below meth c H locs 0 0 (MQ below (Qi E α g z) args s 0 0 E.2.2.1) (F0 m 83 ls []) := by
  obtain ⟨hx, hb, hml, hown, hts, hlk, hrt, hKs⟩ := id C
  intro f
  induction f with
  | zero =>
    intro v3 v4 S H locs ls  hR hS hl h
    rw [f_X4_fewestLines_L83] at h
    cases h
  | succ f ih =>
    intro v3 v4 S H locs ls  hR hS hl h
    rw [f_X4_fewestLines_L83] at h
    refine lv_iload hx hb dX4_fewestLines_83 (lv_at hl 3 rfl) ?_
    refine lv_sipush (v := 256) hx hb dX4_fewestLines_85 (by decide) ?_
    refine lv_icmp_ge (tgt := 140) hx hb dX4_fewestLines_88 (by decide) (fun c28 => ?_) (fun c28 => ?_)
    · have h := ite_t c28 h
      exact hK140 _ _ _ _ _  hR hS (lv_sub hl [2] rfl) h
    · have h := ite_f c28 h
      refine lv_iload_n hx hb dX4_fewestLines_91 rfl (lv_at hl 2 rfl) ?_
      refine lv_iconst (v := -1) hx hb dX4_fewestLines_92 (by decide) ?_
      obtain ⟨J113, eJ113, h⟩ := lt_e h
      have hJ113 : ∀ (t29 : Int32) (S30 : St) (H : Heap) (locs : List Loc) (ls : Array Slot), Rp E α g S30 H → va_S E.2.2.1 s.heap H locs → lv_has ls 6 [(0, .ref (α 49)), (1, .long v1), (3, .int v3), (4, .int v4)] → J113 t29 S30 = some z → W p l e rm_X4_fewestLines s m args below meth c H locs 0 0 (MQ below (Qi E α g z) args s 0 0 E.2.2.1) (F0 m 113 ls [.int t29]) := by
        intro t29 S30 H locs ls  hR hS hl h
        rw [eJ113] at h
        refine lv_istore (lv' := [(5, .int t29), (0, .ref (α 49)), (1, .long v1), (3, .int v3), (4, .int v4)]) hx hb dX4_fewestLines_113 hl (by decide) rfl (fun ls hl => ?_)
        refine lv_iload hx hb dX4_fewestLines_115 (lv_at hl 0 rfl) ?_
        obtain ⟨J134, eJ134, h⟩ := lt_e h
        have hJ134 : ∀ (x31 : Int32) (S32 : St) (H : Heap) (locs : List Loc) (ls : Array Slot), Rp E α g S32 H → va_S E.2.2.1 s.heap H locs → lv_has ls 6 [(0, .ref (α 49)), (1, .long v1), (3, .int x31), (4, .int v4)] → J134 x31 S32 = some z → W p l e rm_X4_fewestLines s m args below meth c H locs 0 0 (MQ below (Qi E α g z) args s 0 0 E.2.2.1) (F0 m 134 ls []) := by
          intro x31 S32 H locs ls  hR hS hl h
          rw [eJ134] at h
          obtain ⟨x33, ex33, h⟩ := lt_e h
          refine lv_iinc (v := x33) (lv' := [(4, .int x33), (0, .ref (α 49)), (1, .long v1), (3, .int x31)]) hx hb dX4_fewestLines_134 hl (k := 3) rfl (by rw [ex33]; rfl) (by decide) rfl (fun ls hl => ?_)
          refine lv_goto (tgt := 83) hx hb dX4_fewestLines_137 (by decide) ?_
          exact ih _ _ _ _ _ _  hR hS (lv_sub hl [1, 2, 3, 0] rfl) h
        clear eJ134
        refine lv_if_eq (tgt := 134) hx hb dX4_fewestLines_117 (by decide) (fun c34 => ?_) (fun c34 => ?_)
        · have h := ite_t c34 h
          exact hJ134 _ _ _ _ _  hR hS (lv_sub hl [1, 2, 3, 4] rfl) h
        · have h := ite_f c34 h
          refine lv_aload_n hx hb dX4_fewestLines_120 rfl (lv_at hl 1 rfl) ?_
          refine lv_iload hx hb dX4_fewestLines_121 (lv_at hl 4 rfl) ?_
          obtain ⟨r35, S36, hr35, h⟩ := bd_e h
          refine g_cl hS (g_runV C hR hS (k := 49) (As := [.int v4]) (rest := []) (c_X4_coverOfSet l  hr35) (live_st (by decide)) rfl (vw4) m_X4_coverOfSet q889 ⟨rfl, rfl⟩ ⟨Nat.le_of_ble_eq_true rfl, Nat.le_of_ble_eq_true rfl⟩ rfl hl.1 rfl (Nat.le_of_ble_eq_true rfl) dX4_fewestLines_123 ⟨Nat.zero_le _, Nat.zero_le _⟩) (fun H locs hR hS => ?_)
          refine lv_lload_n hx hb dX4_fewestLines_126 rfl (lv_at hl 2 rfl) ?_
          refine W.lcmp hx hb dX4_fewestLines_127 ?_
          refine lv_if_ne (tgt := 134) hx hb dX4_fewestLines_128 (by decide) (fun c37 => ?_) (fun c37 => ?_)
          · have h := ite_f c37 h
            exact hJ134 _ _ _ _ _  hR hS (lv_sub hl [1, 2, 3, 4] rfl) h
          · have h := ite_t c37 h
            refine lv_iload hx hb dX4_fewestLines_131 (lv_at hl 4 rfl) ?_
            refine lv_istore_n (lv' := [(3, .int v4), (5, .int t29), (0, .ref (α 49)), (1, .long v1), (4, .int v4)]) hx hb dX4_fewestLines_133 rfl hl (by decide) rfl (fun ls hl => ?_)
            exact hJ134 _ _ _ _ _  hR hS (lv_sub hl [2, 3, 0, 4] rfl) h
      clear eJ113
      obtain ⟨J108, eJ108, h⟩ := lt_e h
      have hJ108 : ∀ (S38 : St) (H : Heap) (locs : List Loc) (ls : Array Slot), Rp E α g S38 H → va_S E.2.2.1 s.heap H locs → lv_has ls 6 [(0, .ref (α 49)), (1, .long v1), (3, .int v3), (4, .int v4)] → J108  S38 = some z → W p l e rm_X4_fewestLines s m args below meth c H locs 0 0 (MQ below (Qi E α g z) args s 0 0 E.2.2.1) (F0 m 108 ls []) := by
        intro  S38 H locs ls  hR hS hl h
        rw [eJ108] at h
        refine lv_iconst (v := 1) hx hb dX4_fewestLines_108 (by decide) ?_
        refine lv_goto (tgt := 113) hx hb dX4_fewestLines_109 (by decide) ?_
        exact hJ113 _ _ _ _ _  hR hS hl h
      clear eJ108
      refine lv_icmp_eq (tgt := 108) hx hb dX4_fewestLines_93 (by decide) (fun c39 => ?_) (fun c39 => ?_)
      · have h := ite_t c39 h
        exact hJ108  _ _ _ _  hR hS hl h
      · have h := ite_f c39 h
        refine lv_iload hx hb dX4_fewestLines_96 (lv_at hl 3 rfl) ?_
        obtain ⟨r40, S41, hr40, h⟩ := bd_e h
        refine g_ci hS (g_runS C hR hS (As := [.int v4]) (rest := []) (c_J6_bitCount_0f7a4 l  hr40) m_J6_bitCount_0f7a4 q888 ⟨rfl, rfl⟩ ⟨Nat.le_of_ble_eq_true rfl, Nat.le_of_ble_eq_true rfl⟩ rfl hl.1 rfl (Nat.le_of_ble_eq_true rfl) dX4_fewestLines_98 ⟨Nat.zero_le _, Nat.zero_le _⟩) (fun H locs hR hS => ?_)
        refine lv_iload_n hx hb dX4_fewestLines_101 rfl (lv_at hl 2 rfl) ?_
        obtain ⟨r42, S43, hr42, h⟩ := bd_e h
        refine g_ci hS (g_runS C hR hS (As := [.int v3]) (rest := [.int r40]) (c_J6_bitCount_0f7a4 l  hr42) m_J6_bitCount_0f7a4 q888 ⟨rfl, rfl⟩ ⟨Nat.le_of_ble_eq_true rfl, Nat.le_of_ble_eq_true rfl⟩ rfl hl.1 rfl (Nat.le_of_ble_eq_true rfl) dX4_fewestLines_102 ⟨Nat.zero_le _, Nat.zero_le _⟩) (fun H locs hR hS => ?_)
        refine lv_icmp_ge (tgt := 112) hx hb dX4_fewestLines_105 (by decide) (fun c44 => ?_) (fun c44 => ?_)
        · have h := ite_t c44 h
          refine lv_iconst (v := 0) hx hb dX4_fewestLines_112 (by decide) ?_
          exact hJ113 _ _ _ _ _  hR hS hl h
        · have h := ite_f c44 h
          exact hJ108  _ _ _ _  hR hS hl h

set_option maxHeartbeats 4000000 in
set_option maxRecDepth 100000 in
theorem c_X4_fewestLines (l : Launch) {E : En} {α : Nat → Nat} {g : Nat × Nat}  {S : St}  {z : Int32 × St} (h : f_X4_fewestLines  S = some z) : Met l yX4_fewestLines (wsY yX4_fewestLines cX4_fewestLines 6 (some .int)) rm_X4_fewestLines (va_Pc [.ref (α 49)] (Wd E α g S)) (Qi E α g z) 0 0 E.2.2.1 := by
  refine g_met [.ref (α 49)] (by decide) rfl (Nat.le_of_ble_eq_true rfl) ?_
  intro p e s m below meth c ls C hR hl
  generalize hae : ([.ref (α 49)] : List Value).toArray = args at C ⊢
  have hl : lv_has ls 6 [(0, .ref (α 49))] := hl
  obtain ⟨hx, hb, hml, hown, hts, hlk, hrt, hKs⟩ := id C
  have hS : va_S E.2.2.1 s.heap s.heap [] := va_S.rf
  unfold f_X4_fewestLines at h
  refine lv_aload_n hx hb dX4_fewestLines_0 rfl (lv_at hl 0 rfl) ?_
  obtain ⟨r6, S7, hr6, h⟩ := bd_e h
  refine g_cv hS (g_runV C hR hS (k := 49) (As := []) (rest := []) (c_X4_gatherNames l  hr6) (live_st (by decide)) rfl (vw4) m_X4_gatherNames q862 ⟨rfl, rfl⟩ ⟨Nat.le_of_ble_eq_true rfl, Nat.le_of_ble_eq_true rfl⟩ rfl hl.1 rfl (Nat.le_of_ble_eq_true rfl) dX4_fewestLines_1 ⟨Nat.zero_le _, Nat.zero_le _⟩) (fun H locs hR hS => ?_)
  refine lv_iconst (v := 0) hx hb dX4_fewestLines_4 (by decide) ?_
  refine lv_istore_n (lv' := [(1, .int (0 : Int32)), (0, .ref (α 49))]) hx hb dX4_fewestLines_5 rfl hl (by decide) rfl (fun ls hl => ?_)
  refine w_X4_fewestLines_L6 C ?_  _ _ _ _ _ _  hR hS (lv_sub hl [1, 0] rfl) h
  · intro  S26 H locs ls  hR hS hl h
    refine lv_lconst (v := 1) hx hb dX4_fewestLines_69 (by decide) ?_
    refine lv_aload_n hx hb dX4_fewestLines_70 rfl (lv_at hl 0 rfl) ?_
    refine g_geti C hR (k := 49) (j := 2) (live_st (by decide)) rfl rfl (vw4) inl4 (by decide) q325 dX4_fewestLines_71 ?_
    refine lv_lshl (v := lshlv (1 : Int64) (rd S26 49 2)) hx hb dX4_fewestLines_74 rfl ?_
    refine lv_lconst (v := 1) hx hb dX4_fewestLines_75 (by decide) ?_
    refine lv_lsub hx hb dX4_fewestLines_76 ?_
    obtain ⟨x27, ex27, h⟩ := lt_e h
    refine g_nml ex27 ?_
    refine lv_lstore_n (lv' := [(1, .long x27), (0, .ref (α 49))]) hx hb dX4_fewestLines_77 rfl hl (by decide) rfl (fun ls hl => ?_)
    refine lv_iconst (v := -1) hx hb dX4_fewestLines_78 (by decide) ?_
    refine lv_istore_n (lv' := [(3, .int (-1 : Int32)), (1, .long x27), (0, .ref (α 49))]) hx hb dX4_fewestLines_79 rfl hl (by decide) rfl (fun ls hl => ?_)
    refine lv_iconst (v := 0) hx hb dX4_fewestLines_80 (by decide) ?_
    refine lv_istore (lv' := [(4, .int (0 : Int32)), (3, .int (-1 : Int32)), (1, .long x27), (0, .ref (α 49))]) hx hb dX4_fewestLines_81 hl (by decide) rfl (fun ls hl => ?_)
    refine w_X4_fewestLines_L83 C ?_  _ _ _ _ _ _ _  hR hS (lv_sub hl [3, 2, 1, 0] rfl) h
    · intro x45 S46 H locs ls  hR hS hl h
      refine lv_iload_n hx hb dX4_fewestLines_140 rfl (lv_at hl 0 rfl) ?_
      exact g_iret C hR hS h dX4_fewestLines_141

/-! OneVoice$Sayer.leastJar()I -/
abbrev rm_X6_leastJar : Room := { frames := 0, cells := 0, slots := 0, locals := 0 }
theorem m_X6_leastJar : MV yX6_leastJar RX6 cX6_leastJar 1 (some .int) 0 := ⟨q507, q508, q70, q509, by decide +kernel⟩
def f_X6_leastJar  (S : St) : Option (Int32 × St) :=
  if (1000000 : Int32) ≤ (rd S 3 14) then
    some ((-1 : Int32), S)
  else
    some ((rd S 3 14), S)

set_option maxHeartbeats 4000000 in
set_option maxRecDepth 100000 in
theorem c_X6_leastJar (l : Launch) {E : En} {α : Nat → Nat} {g : Nat × Nat}  {S : St}  {z : Int32 × St} (h : f_X6_leastJar  S = some z) : Met l yX6_leastJar (wsY yX6_leastJar cX6_leastJar 1 (some .int)) rm_X6_leastJar (va_Pc [.ref (α 3)] (Wd E α g S)) (Qi E α g z) 0 0 E.2.2.1 := by
  refine g_met [.ref (α 3)] (by decide) rfl (Nat.le_of_ble_eq_true rfl) ?_
  intro p e s m below meth c ls C hR hl
  generalize hae : ([.ref (α 3)] : List Value).toArray = args at C ⊢
  have hl : lv_has ls 1 [(0, .ref (α 3))] := hl
  obtain ⟨hx, hb, hml, hown, hts, hlk, hrt, hKs⟩ := id C
  have hS : va_S E.2.2.1 s.heap s.heap [] := va_S.rf
  unfold f_X6_leastJar at h
  refine lv_aload_n hx hb dX6_leastJar_0 rfl (lv_at hl 0 rfl) ?_
  refine g_geti C hR (k := 3) (j := 14) (live_st (by decide)) rfl rfl (vw6) inl6 (by decide) q135 dX6_leastJar_1 ?_
  refine lv_ldc (v := 1000000) hx hb hown (hts _ q473) dX6_leastJar_4 ?_
  refine lv_icmp_ge (tgt := 16) hx hb dX6_leastJar_6 (by decide) (fun c1 => ?_) (fun c1 => ?_)
  · have h := ite_t c1 h
    refine lv_iconst (v := -1) hx hb dX6_leastJar_16 (by decide) ?_
    exact g_iret C hR hS h dX6_leastJar_17
  · have h := ite_f c1 h
    refine lv_aload_n hx hb dX6_leastJar_9 rfl (lv_at hl 0 rfl) ?_
    refine g_geti C hR (k := 3) (j := 14) (live_st (by decide)) rfl rfl (vw6) inl6 (by decide) q135 dX6_leastJar_10 ?_
    refine lv_goto (tgt := 17) hx hb dX6_leastJar_13 (by decide) ?_
    exact g_iret C hR hS h dX6_leastJar_17

/-! java/util/Arrays.fill([II)V -/
abbrev rm_J7_fill_53178 : Room := { frames := 0, cells := 0, slots := 0, locals := 0 }
theorem m_J7_fill_53178 : MS yJ7_fill_53178 cJ7_fill_53178 4 none 2 := ⟨q471, q80, q472, by decide +kernel⟩
def f_J7_fill_53178_L5 (K20 : St → Option (Unit × St)) (n0 : Nat) (v1 : Int32) (v3 : Int32) : Nat → Int32 → St → Option (Unit × St)
  | 0, _, _ => none
  | f + 1, v2, S =>
    if v3 ≤ v2 then
      K20  S
    else
      gd_ (inb v2 (alen n0)) <|
      lt_ (wr S n0 (Int32.toNatClampNeg v2) v1) fun S6 =>
      lt_ (v2 + (1 : Int32)) fun x8 =>
      f_J7_fill_53178_L5 K20 n0 v1 v3 f x8 S6

def f_J7_fill_53178 (n0 : Nat) (v1 : Int32) (S : St) : Option (Unit × St) :=
  lt_ (nI (alen n0)) fun x4 =>
  f_J7_fill_53178_L5
    (fun  (S9 : St) =>
      some ((), S9))
    n0 v1 x4 FU (0 : Int32) S

set_option maxHeartbeats 4000000 in
set_option maxRecDepth 100000 in
theorem w_J7_fill_53178_L5 {p : Program} {l : Launch} {e : Env} {s : State} {m : MethodId} {args : Array Value} {below : List Frame} {meth : Method} {c : Code} {E : En} {α : Nat → Nat} {g : Nat × Nat} (C : Cx p s m args meth c RJ7 cJ7_fill_53178 4 none E) {z : Unit × St} {K20 : St → Option (Unit × St)} {n0 : Nat} {v1 : Int32} {v3 : Int32}
    (hK20 : ∀ (S : St) (H : Heap) (locs : List Loc) (ls : Array Slot), Rp E α g S H → va_S E.2.2.1 s.heap H locs → lv_has ls 4 [] → K20  S = some z → W p l e rm_J7_fill_53178 s m args below meth c H locs 0 0 (MQ below (Qv E α g z) args s 0 0 E.2.2.1) (F0 m 20 ls [])) (hn0 : n0 < 90 ∧ lay n0 = .inr (0, alen n0)) :
    ∀ (f : Nat) (v2 : Int32) (S : St) (H : Heap) (locs : List Loc) (ls : Array Slot), Rp E α g S H → va_S E.2.2.1 s.heap H locs → lv_has ls 4 [(0, .ref (α n0)), (1, .int v1), (2, .int v2), (3, .int v3)] → f_J7_fill_53178_L5 K20 n0 v1 v3 f v2 S = some z → W p l e rm_J7_fill_53178 s m args below meth c H locs 0 0 (MQ below (Qv E α g z) args s 0 0 E.2.2.1) (F0 m 5 ls []) := by
  obtain ⟨hx, hb, hml, hown, hts, hlk, hrt, hKs⟩ := id C
  intro f
  induction f with
  | zero =>
    intro v2 S H locs ls  hR hS hl h
    rw [f_J7_fill_53178_L5] at h
    cases h
  | succ f ih =>
    intro v2 S H locs ls  hR hS hl h
    rw [f_J7_fill_53178_L5] at h
    refine lv_iload_n hx hb dJ7_fill_53178_5 rfl (lv_at hl 2 rfl) ?_
    refine lv_iload_n hx hb dJ7_fill_53178_6 rfl (lv_at hl 3 rfl) ?_
    refine lv_icmp_ge (tgt := 20) hx hb dJ7_fill_53178_7 (by decide) (fun c5 => ?_) (fun c5 => ?_)
    · have h := ite_t c5 h
      exact hK20  _ _ _ _  hR hS (lv_sub hl [] rfl) h
    · have h := ite_f c5 h
      refine lv_aload_n hx hb dJ7_fill_53178_10 rfl (lv_at hl 0 rfl) ?_
      refine lv_iload_n hx hb dJ7_fill_53178_11 rfl (lv_at hl 2 rfl) ?_
      refine lv_iload_n hx hb dJ7_fill_53178_12 rfl (lv_at hl 1 rfl) ?_
      obtain ⟨g7, h⟩ := gd_e h
      obtain ⟨S6, eS6, h⟩ := lt_e h
      refine g_iast C hR hS (k := n0) (n := (alen n0)) (live_st hn0.1) hn0.2 g7 eS6 dJ7_fill_53178_13 (fun H locs hR hS => ?_)
      obtain ⟨x8, ex8, h⟩ := lt_e h
      refine lv_iinc (v := x8) (lv' := [(2, .int x8), (0, .ref (α n0)), (1, .int v1), (3, .int v3)]) hx hb dJ7_fill_53178_14 hl (k := 2) rfl (by rw [ex8]; rfl) (by decide) rfl (fun ls hl => ?_)
      refine lv_goto (tgt := 5) hx hb dJ7_fill_53178_17 (by decide) ?_
      exact ih _ _ _ _ _  hR hS (lv_sub hl [1, 2, 0, 3] rfl) h

set_option maxHeartbeats 4000000 in
set_option maxRecDepth 100000 in
theorem c_J7_fill_53178 (l : Launch) {E : En} {α : Nat → Nat} {g : Nat × Nat} {n0 : Nat} {v1 : Int32} {S : St} (hn0 : n0 < 90 ∧ lay n0 = .inr (0, alen n0)) {z : Unit × St} (h : f_J7_fill_53178 n0 v1 S = some z) : Met l yJ7_fill_53178 (wsY yJ7_fill_53178 cJ7_fill_53178 4 none) rm_J7_fill_53178 (va_Pc [.ref (α n0), .int v1] (Wd E α g S)) (Qv E α g z) 0 0 E.2.2.1 := by
  refine g_met [.ref (α n0), .int v1] (by decide) rfl (Nat.le_of_ble_eq_true rfl) ?_
  intro p e s m below meth c ls C hR hl
  generalize hae : ([.ref (α n0), .int v1] : List Value).toArray = args at C ⊢
  have hl : lv_has ls 4 [(0, .ref (α n0)), (1, .int v1)] := hl
  obtain ⟨hx, hb, hml, hown, hts, hlk, hrt, hKs⟩ := id C
  have hS : va_S E.2.2.1 s.heap s.heap [] := va_S.rf
  unfold f_J7_fill_53178 at h
  refine lv_iconst (v := 0) hx hb dJ7_fill_53178_0 (by decide) ?_
  refine lv_istore_n (lv' := [(2, .int (0 : Int32)), (0, .ref (α n0)), (1, .int v1)]) hx hb dJ7_fill_53178_1 rfl hl (by decide) rfl (fun ls hl => ?_)
  refine lv_aload_n hx hb dJ7_fill_53178_2 rfl (lv_at hl 1 rfl) ?_
  refine g_alen C hR (k := n0) (n := (alen n0)) (live_st hn0.1) hn0.2 dJ7_fill_53178_3 ?_
  obtain ⟨x4, ex4, h⟩ := lt_e h
  refine g_nmi ex4 ?_
  refine lv_istore_n (lv' := [(3, .int x4), (2, .int (0 : Int32)), (0, .ref (α n0)), (1, .int v1)]) hx hb dJ7_fill_53178_4 rfl hl (by decide) rfl (fun ls hl => ?_)
  refine w_J7_fill_53178_L5 C ?_ hn0 _ _ _ _ _ _  hR hS (lv_sub hl [2, 3, 1, 0] rfl) h
  · intro  S9 H locs ls  hR hS hl h
    exact g_vret C hR hS h dJ7_fill_53178_20

/-! OneVoice$Sayer.gatherTones()V -/
abbrev rm_X6_gatherTones : Room := { frames := 1, cells := 0, slots := 0, locals := 23 }
theorem m_X6_gatherTones : MV yX6_gatherTones RX6 cX6_gatherTones 4 none 0 := ⟨q468, q1, q70, q469, by decide +kernel⟩
def f_X6_gatherTones_L33 (K70 : St → Option (Unit × St)) (v1 : Int32) (n2 : Nat) : Nat → Int32 → St → Option (Unit × St)
  | 0, _, _ => none
  | f + 1, v3, S =>
    if (rd S (200 + 2 * n2) 1) ≤ v3 then
      K70  S
    else
      if (rd S (200 + 2 * n2) 2) = (rd S 3 3) then
        gd_ (inb v3 8) <|
        gd_ (inb (rd S (200 + 2 * n2 + 1) (Int32.toNatClampNeg v3)) 100) <|
        lt_ (wr S 6 (Int32.toNatClampNeg (rd S (200 + 2 * n2 + 1) (Int32.toNatClampNeg v3))) (1 : Int32)) fun S22 =>
        lt_ (v3 + (1 : Int32)) fun x24 =>
        f_X6_gatherTones_L33 K70 v1 n2 f x24 S22
      else
        K70  S

def f_X6_gatherTones_L10 (K76 : St → Option (Unit × St))  : Nat → Int32 → St → Option (Unit × St)
  | 0, _, _ => none
  | f + 1, v1, S =>
    if (rd S 1 1) ≤ v1 then
      K76  S
    else
      gd_ (inb v1 16 ∧ (Int32.toNatClampNeg v1) < nP S) <|
      lt_ (Int32.toNatClampNeg v1) fun n18 =>
      f_X6_gatherTones_L33
        (fun  (S25 : St) =>
          lt_ (v1 + (1 : Int32)) fun x26 =>
          f_X6_gatherTones_L10 K76 f x26 S25)
        v1 n18 FU (0 : Int32) S

def f_X6_gatherTones_L83 (K125 : St → Option (Unit × St))  : Nat → Int32 → St → Option (Unit × St)
  | 0, _, _ => none
  | f + 1, v1, S =>
    if (100 : Int32) ≤ v1 then
      K125  S
    else
      gd_ (inb v1 100) <|
      lt_ (fun  (S31 : St) =>
          lt_ (v1 + (1 : Int32)) fun x32 =>
          f_X6_gatherTones_L83 K125 f x32 S31) fun J119 =>
      if (rd S 6 (Int32.toNatClampNeg v1)) = (1 : Int32) then
        gd_ (inb (rd S 3 6) 100) <|
        lt_ (wr S 5 (Int32.toNatClampNeg (rd S 3 6)) v1) fun S34 =>
        lt_ (wr S34 3 6 ((rd S34 3 6) + (1 : Int32))) fun S36 =>
        J119  S36
      else
        J119  S

def f_X6_gatherTones  (S : St) : Option (Unit × St) :=
  bd_ (f_J7_fill_53178 6 (0 : Int32) S) fun r13 S14 =>
  f_X6_gatherTones_L10
    (fun  (S27 : St) =>
      lt_ (wr S27 3 6 (0 : Int32)) fun S28 =>
      f_X6_gatherTones_L83
        (fun  (S37 : St) =>
          some ((), S37))
         FU (0 : Int32) S28)
     FU (0 : Int32) S14

set_option maxHeartbeats 4000000 in
set_option maxRecDepth 100000 in
theorem w_X6_gatherTones_L33 {p : Program} {l : Launch} {e : Env} {s : State} {m : MethodId} {args : Array Value} {below : List Frame} {meth : Method} {c : Code} {E : En} {α : Nat → Nat} {g : Nat × Nat} (C : Cx p s m args meth c RX6 cX6_gatherTones 4 none E) {z : Unit × St} {K70 : St → Option (Unit × St)} {v1 : Int32} {n2 : Nat}
    (hK70 : ∀ (S : St) (H : Heap) (locs : List Loc) (ls : Array Slot), Rp E α g S H → va_S E.2.2.1 s.heap H locs → lv_has ls 4 [(0, .ref (α 3)), (1, .int v1)] → K70  S = some z → W p l e rm_X6_gatherTones s m args below meth c H locs 0 0 (MQ below (Qv E α g z) args s 0 0 E.2.2.1) (F0 m 70 ls [])) (hn2 : n2 < g.1) :
    ∀ (f : Nat) (v3 : Int32) (S : St) (H : Heap) (locs : List Loc) (ls : Array Slot), Rp E α g S H → va_S E.2.2.1 s.heap H locs → lv_has ls 4 [(0, .ref (α 3)), (1, .int v1), (2, .ref (α (200 + 2 * n2))), (3, .int v3)] → f_X6_gatherTones_L33 K70 v1 n2 f v3 S = some z → W p l e rm_X6_gatherTones s m args below meth c H locs 0 0 (MQ below (Qv E α g z) args s 0 0 E.2.2.1) (F0 m 33 ls []) := by
  obtain ⟨hx, hb, hml, hown, hts, hlk, hrt, hKs⟩ := id C
  intro f
  induction f with
  | zero =>
    intro v3 S H locs ls  hR hS hl h
    rw [f_X6_gatherTones_L33] at h
    cases h
  | succ f ih =>
    intro v3 S H locs ls  hR hS hl h
    rw [f_X6_gatherTones_L33] at h
    refine lv_iload_n hx hb dX6_gatherTones_33 rfl (lv_at hl 3 rfl) ?_
    refine lv_aload_n hx hb dX6_gatherTones_34 rfl (lv_at hl 2 rfl) ?_
    refine g_geti C hR (k := (200 + 2 * n2)) (j := 1) (live_p hn2) (lay_p (Nat.lt_of_lt_of_le hn2 hR.1.1)) rfl (vw3) inl3 (by decide) q389 dX6_gatherTones_35 ?_
    refine lv_icmp_ge (tgt := 70) hx hb dX6_gatherTones_38 (by decide) (fun c19 => ?_) (fun c19 => ?_)
    · have h := ite_t c19 h
      exact hK70  _ _ _ _  hR hS (lv_sub hl [0, 1] rfl) h
    · have h := ite_f c19 h
      refine lv_aload_n hx hb dX6_gatherTones_41 rfl (lv_at hl 2 rfl) ?_
      refine g_geti C hR (k := (200 + 2 * n2)) (j := 2) (live_p hn2) (lay_p (Nat.lt_of_lt_of_le hn2 hR.1.1)) rfl (vw3) inl3 (by decide) q391 dX6_gatherTones_42 ?_
      refine lv_aload_n hx hb dX6_gatherTones_45 rfl (lv_at hl 0 rfl) ?_
      refine g_geti C hR (k := 3) (j := 3) (live_st (by decide)) rfl rfl (vw6) inl6 (by decide) q123 dX6_gatherTones_46 ?_
      refine lv_icmp_ne (tgt := 70) hx hb dX6_gatherTones_49 (by decide) (fun c20 => ?_) (fun c20 => ?_)
      · have h := ite_f c20 h
        exact hK70  _ _ _ _  hR hS (lv_sub hl [0, 1] rfl) h
      · have h := ite_t c20 h
        refine lv_aload_n hx hb dX6_gatherTones_52 rfl (lv_at hl 0 rfl) ?_
        refine g_getr (t := 6) C hR (k := 3) (j := 7) (live_st (by decide)) rfl rfl (vw6) inl6 (by decide) q128 dX6_gatherTones_53 ?_
        refine lv_aload_n hx hb dX6_gatherTones_56 rfl (lv_at hl 2 rfl) ?_
        refine g_getr (t := (200 + 2 * n2 + 1)) C hR (k := (200 + 2 * n2)) (j := 3) (live_p hn2) (lay_p (Nat.lt_of_lt_of_le hn2 hR.1.1)) rfl (vw3) inl3 (by decide) q394 dX6_gatherTones_57 ?_
        refine lv_iload_n hx hb dX6_gatherTones_60 rfl (lv_at hl 3 rfl) ?_
        obtain ⟨g21, h⟩ := gd_e h
        refine g_iald C hR (k := (200 + 2 * n2 + 1)) (n := 8) (live_pt hn2) (lay_pt (Nat.lt_of_lt_of_le hn2 hR.1.1)) g21 dX6_gatherTones_61 ?_
        refine lv_iconst (v := 1) hx hb dX6_gatherTones_62 (by decide) ?_
        obtain ⟨g23, h⟩ := gd_e h
        obtain ⟨S22, eS22, h⟩ := lt_e h
        refine g_iast C hR hS (k := 6) (n := 100) (live_st (by decide)) rfl g23 eS22 dX6_gatherTones_63 (fun H locs hR hS => ?_)
        obtain ⟨x24, ex24, h⟩ := lt_e h
        refine lv_iinc (v := x24) (lv' := [(3, .int x24), (0, .ref (α 3)), (1, .int v1), (2, .ref (α (200 + 2 * n2)))]) hx hb dX6_gatherTones_64 hl (k := 3) rfl (by rw [ex24]; rfl) (by decide) rfl (fun ls hl => ?_)
        refine lv_goto (tgt := 33) hx hb dX6_gatherTones_67 (by decide) ?_
        exact ih _ _ _ _ _  hR hS (lv_sub hl [1, 2, 3, 0] rfl) h

set_option maxHeartbeats 4000000 in
set_option maxRecDepth 100000 in
theorem w_X6_gatherTones_L10 {p : Program} {l : Launch} {e : Env} {s : State} {m : MethodId} {args : Array Value} {below : List Frame} {meth : Method} {c : Code} {E : En} {α : Nat → Nat} {g : Nat × Nat} (C : Cx p s m args meth c RX6 cX6_gatherTones 4 none E) {z : Unit × St} {K76 : St → Option (Unit × St)}
    (hK76 : ∀ (S : St) (H : Heap) (locs : List Loc) (ls : Array Slot), Rp E α g S H → va_S E.2.2.1 s.heap H locs → lv_has ls 4 [(0, .ref (α 3))] → K76  S = some z → W p l e rm_X6_gatherTones s m args below meth c H locs 0 0 (MQ below (Qv E α g z) args s 0 0 E.2.2.1) (F0 m 76 ls [])) :
    ∀ (f : Nat) (v1 : Int32) (S : St) (H : Heap) (locs : List Loc) (ls : Array Slot), Rp E α g S H → va_S E.2.2.1 s.heap H locs → lv_has ls 4 [(0, .ref (α 3)), (1, .int v1)] → f_X6_gatherTones_L10 K76 f v1 S = some z → W p l e rm_X6_gatherTones s m args below meth c H locs 0 0 (MQ below (Qv E α g z) args s 0 0 E.2.2.1) (F0 m 10 ls []) := by
  obtain ⟨hx, hb, hml, hown, hts, hlk, hrt, hKs⟩ := id C
  intro f
  induction f with
  | zero =>
    intro v1 S H locs ls  hR hS hl h
    rw [f_X6_gatherTones_L10] at h
    cases h
  | succ f ih =>
    intro v1 S H locs ls  hR hS hl h
    rw [f_X6_gatherTones_L10] at h
    refine lv_iload_n hx hb dX6_gatherTones_10 rfl (lv_at hl 1 rfl) ?_
    refine lv_aload_n hx hb dX6_gatherTones_11 rfl (lv_at hl 0 rfl) ?_
    refine g_getr (t := 1) C hR (k := 3) (j := 0) (live_st (by decide)) rfl rfl (vw6) inl6 (by decide) q120 dX6_gatherTones_12 ?_
    refine g_geti C hR (k := 1) (j := 1) (live_st (by decide)) rfl rfl (vw8) inl8 (by decide) q108 dX6_gatherTones_15 ?_
    refine lv_icmp_ge (tgt := 76) hx hb dX6_gatherTones_18 (by decide) (fun c15 => ?_) (fun c15 => ?_)
    · have h := ite_t c15 h
      exact hK76  _ _ _ _  hR hS (lv_sub hl [0] rfl) h
    · have h := ite_f c15 h
      refine lv_aload_n hx hb dX6_gatherTones_21 rfl (lv_at hl 0 rfl) ?_
      refine g_getr (t := 1) C hR (k := 3) (j := 0) (live_st (by decide)) rfl rfl (vw6) inl6 (by decide) q120 dX6_gatherTones_22 ?_
      refine g_getr (t := 2) C hR (k := 1) (j := 0) (live_st (by decide)) rfl rfl (vw8) inl8 (by decide) q105 dX6_gatherTones_25 ?_
      refine lv_iload_n hx hb dX6_gatherTones_28 rfl (lv_at hl 1 rfl) ?_
      obtain ⟨g16, h⟩ := gd_e h
      refine g_aldP C hR g16.1 g16.2 dX6_gatherTones_29 (fun hn17 => ?_)
      obtain ⟨n18, en18, h⟩ := lt_e h
      have hn18 : n18 < g.1 := by rw [en18]; exact hn17
      refine g_nmP en18 ?_
      refine lv_astore_n (lv' := [(2, .ref (α (200 + 2 * n18))), (0, .ref (α 3)), (1, .int v1)]) hx hb dX6_gatherTones_30 rfl hl (by decide) rfl (fun ls hl => ?_)
      refine lv_iconst (v := 0) hx hb dX6_gatherTones_31 (by decide) ?_
      refine lv_istore_n (lv' := [(3, .int (0 : Int32)), (2, .ref (α (200 + 2 * n18))), (0, .ref (α 3)), (1, .int v1)]) hx hb dX6_gatherTones_32 rfl hl (by decide) rfl (fun ls hl => ?_)
      refine w_X6_gatherTones_L33 C ?_ hn18 _ _ _ _ _ _  hR hS (lv_sub hl [2, 3, 1, 0] rfl) h
      · intro  S25 H locs ls  hR hS hl h
        obtain ⟨x26, ex26, h⟩ := lt_e h
        refine lv_iinc (v := x26) (lv' := [(1, .int x26), (0, .ref (α 3))]) hx hb dX6_gatherTones_70 hl (k := 1) rfl (by rw [ex26]; rfl) (by decide) rfl (fun ls hl => ?_)
        refine lv_goto (tgt := 10) hx hb dX6_gatherTones_73 (by decide) ?_
        exact ih _ _ _ _ _  hR hS (lv_sub hl [1, 0] rfl) h

set_option maxHeartbeats 4000000 in
set_option maxRecDepth 100000 in
theorem w_X6_gatherTones_L83 {p : Program} {l : Launch} {e : Env} {s : State} {m : MethodId} {args : Array Value} {below : List Frame} {meth : Method} {c : Code} {E : En} {α : Nat → Nat} {g : Nat × Nat} (C : Cx p s m args meth c RX6 cX6_gatherTones 4 none E) {z : Unit × St} {K125 : St → Option (Unit × St)}
    (hK125 : ∀ (S : St) (H : Heap) (locs : List Loc) (ls : Array Slot), Rp E α g S H → va_S E.2.2.1 s.heap H locs → lv_has ls 4 [] → K125  S = some z → W p l e rm_X6_gatherTones s m args below meth c H locs 0 0 (MQ below (Qv E α g z) args s 0 0 E.2.2.1) (F0 m 125 ls [])) :
    ∀ (f : Nat) (v1 : Int32) (S : St) (H : Heap) (locs : List Loc) (ls : Array Slot), Rp E α g S H → va_S E.2.2.1 s.heap H locs → lv_has ls 4 [(0, .ref (α 3)), (1, .int v1)] → f_X6_gatherTones_L83 K125 f v1 S = some z → W p l e rm_X6_gatherTones s m args below meth c H locs 0 0 (MQ below (Qv E α g z) args s 0 0 E.2.2.1) (F0 m 83 ls []) := by
  obtain ⟨hx, hb, hml, hown, hts, hlk, hrt, hKs⟩ := id C
  intro f
  induction f with
  | zero =>
    intro v1 S H locs ls  hR hS hl h
    rw [f_X6_gatherTones_L83] at h
    cases h
  | succ f ih =>
    intro v1 S H locs ls  hR hS hl h
    rw [f_X6_gatherTones_L83] at h
    refine lv_iload_n hx hb dX6_gatherTones_83 rfl (lv_at hl 1 rfl) ?_
    refine lv_bipush (v := 100) hx hb dX6_gatherTones_84 (by decide) ?_
    refine lv_icmp_ge (tgt := 125) hx hb dX6_gatherTones_86 (by decide) (fun c29 => ?_) (fun c29 => ?_)
    · have h := ite_t c29 h
      exact hK125  _ _ _ _  hR hS (lv_sub hl [] rfl) h
    · have h := ite_f c29 h
      refine lv_aload_n hx hb dX6_gatherTones_89 rfl (lv_at hl 0 rfl) ?_
      refine g_getr (t := 6) C hR (k := 3) (j := 7) (live_st (by decide)) rfl rfl (vw6) inl6 (by decide) q128 dX6_gatherTones_90 ?_
      refine lv_iload_n hx hb dX6_gatherTones_93 rfl (lv_at hl 1 rfl) ?_
      obtain ⟨g30, h⟩ := gd_e h
      refine g_iald C hR (k := 6) (n := 100) (live_st (by decide)) rfl g30 dX6_gatherTones_94 ?_
      refine lv_iconst (v := 1) hx hb dX6_gatherTones_95 (by decide) ?_
      obtain ⟨J119, eJ119, h⟩ := lt_e h
      have hJ119 : ∀ (S31 : St) (H : Heap) (locs : List Loc) (ls : Array Slot), Rp E α g S31 H → va_S E.2.2.1 s.heap H locs → lv_has ls 4 [(0, .ref (α 3)), (1, .int v1)] → J119  S31 = some z → W p l e rm_X6_gatherTones s m args below meth c H locs 0 0 (MQ below (Qv E α g z) args s 0 0 E.2.2.1) (F0 m 119 ls []) := by
        intro  S31 H locs ls  hR hS hl h
        rw [eJ119] at h
        obtain ⟨x32, ex32, h⟩ := lt_e h
        refine lv_iinc (v := x32) (lv' := [(1, .int x32), (0, .ref (α 3))]) hx hb dX6_gatherTones_119 hl (k := 1) rfl (by rw [ex32]; rfl) (by decide) rfl (fun ls hl => ?_)
        refine lv_goto (tgt := 83) hx hb dX6_gatherTones_122 (by decide) ?_
        exact ih _ _ _ _ _  hR hS (lv_sub hl [1, 0] rfl) h
      clear eJ119
      refine lv_icmp_ne (tgt := 119) hx hb dX6_gatherTones_96 (by decide) (fun c33 => ?_) (fun c33 => ?_)
      · have h := ite_f c33 h
        exact hJ119  _ _ _ _  hR hS hl h
      · have h := ite_t c33 h
        refine lv_aload_n hx hb dX6_gatherTones_99 rfl (lv_at hl 0 rfl) ?_
        refine g_getr (t := 5) C hR (k := 3) (j := 5) (live_st (by decide)) rfl rfl (vw6) inl6 (by decide) q126 dX6_gatherTones_100 ?_
        refine lv_aload_n hx hb dX6_gatherTones_103 rfl (lv_at hl 0 rfl) ?_
        refine g_geti C hR (k := 3) (j := 6) (live_st (by decide)) rfl rfl (vw6) inl6 (by decide) q127 dX6_gatherTones_104 ?_
        refine lv_iload_n hx hb dX6_gatherTones_107 rfl (lv_at hl 1 rfl) ?_
        obtain ⟨g35, h⟩ := gd_e h
        obtain ⟨S34, eS34, h⟩ := lt_e h
        refine g_iast C hR hS (k := 5) (n := 100) (live_st (by decide)) rfl g35 eS34 dX6_gatherTones_108 (fun H locs hR hS => ?_)
        refine lv_aload_n hx hb dX6_gatherTones_109 rfl (lv_at hl 0 rfl) ?_
        refine lv_dup hx hb dX6_gatherTones_110 rfl ?_
        refine g_geti C hR (k := 3) (j := 6) (live_st (by decide)) rfl rfl (vw6) inl6 (by decide) q127 dX6_gatherTones_111 ?_
        refine lv_iconst (v := 1) hx hb dX6_gatherTones_114 (by decide) ?_
        refine lv_iadd hx hb dX6_gatherTones_115 ?_
        obtain ⟨S36, eS36, h⟩ := lt_e h
        refine g_puti C hR hS (k := 3) (j := 6) (live_st (by decide)) rfl rfl (vw6) inl6 (by decide) (ty0 := tyX6) tyX6_ok nmX6 q127 rfl rfl rfl eS36 dX6_gatherTones_116 (fun H locs hR hS => ?_)
        exact hJ119  _ _ _ _  hR hS hl h

set_option maxHeartbeats 4000000 in
set_option maxRecDepth 100000 in
theorem c_X6_gatherTones (l : Launch) {E : En} {α : Nat → Nat} {g : Nat × Nat}  {S : St}  {z : Unit × St} (h : f_X6_gatherTones  S = some z) : Met l yX6_gatherTones (wsY yX6_gatherTones cX6_gatherTones 4 none) rm_X6_gatherTones (va_Pc [.ref (α 3)] (Wd E α g S)) (Qv E α g z) 0 0 E.2.2.1 := by
  refine g_met [.ref (α 3)] (by decide) rfl (Nat.le_of_ble_eq_true rfl) ?_
  intro p e s m below meth c ls C hR hl
  generalize hae : ([.ref (α 3)] : List Value).toArray = args at C ⊢
  have hl : lv_has ls 4 [(0, .ref (α 3))] := hl
  obtain ⟨hx, hb, hml, hown, hts, hlk, hrt, hKs⟩ := id C
  have hS : va_S E.2.2.1 s.heap s.heap [] := va_S.rf
  unfold f_X6_gatherTones at h
  refine lv_aload_n hx hb dX6_gatherTones_0 rfl (lv_at hl 0 rfl) ?_
  refine g_getr (t := 6) C hR (k := 3) (j := 7) (live_st (by decide)) rfl rfl (vw6) inl6 (by decide) q128 dX6_gatherTones_1 ?_
  refine lv_iconst (v := 0) hx hb dX6_gatherTones_4 (by decide) ?_
  obtain ⟨r13, S14, hr13, h⟩ := bd_e h
  refine g_cv hS (g_runS C hR hS (As := [.ref (α 6), .int (0 : Int32)]) (rest := []) (c_J7_fill_53178 l ⟨by decide, rfl⟩ hr13) m_J7_fill_53178 q470 ⟨rfl, rfl⟩ ⟨Nat.le_of_ble_eq_true rfl, Nat.le_of_ble_eq_true rfl⟩ rfl hl.1 rfl (Nat.le_of_ble_eq_true rfl) dX6_gatherTones_5 ⟨Nat.zero_le _, Nat.zero_le _⟩) (fun H locs hR hS => ?_)
  refine lv_iconst (v := 0) hx hb dX6_gatherTones_8 (by decide) ?_
  refine lv_istore_n (lv' := [(1, .int (0 : Int32)), (0, .ref (α 3))]) hx hb dX6_gatherTones_9 rfl hl (by decide) rfl (fun ls hl => ?_)
  refine w_X6_gatherTones_L10 C ?_  _ _ _ _ _ _  hR hS (lv_sub hl [1, 0] rfl) h
  · intro  S27 H locs ls  hR hS hl h
    refine lv_aload_n hx hb dX6_gatherTones_76 rfl (lv_at hl 0 rfl) ?_
    refine lv_iconst (v := 0) hx hb dX6_gatherTones_77 (by decide) ?_
    obtain ⟨S28, eS28, h⟩ := lt_e h
    refine g_puti C hR hS (k := 3) (j := 6) (live_st (by decide)) rfl rfl (vw6) inl6 (by decide) (ty0 := tyX6) tyX6_ok nmX6 q127 rfl rfl rfl eS28 dX6_gatherTones_78 (fun H locs hR hS => ?_)
    refine lv_iconst (v := 0) hx hb dX6_gatherTones_81 (by decide) ?_
    refine lv_istore_n (lv' := [(1, .int (0 : Int32)), (0, .ref (α 3))]) hx hb dX6_gatherTones_82 rfl hl (by decide) rfl (fun ls hl => ?_)
    refine w_X6_gatherTones_L83 C ?_  _ _ _ _ _ _  hR hS (lv_sub hl [1, 0] rfl) h
    · intro  S37 H locs ls  hR hS hl h
      exact g_vret C hR hS h dX6_gatherTones_125

/-! OneVoice$Sayer.offer([I[IIII)V -/
abbrev rm_X6_offer : Room := { frames := 0, cells := 0, slots := 0, locals := 0 }
theorem m_X6_offer : MS yX6_offer cX6_offer 5 none 5 := ⟨q487, q70, q488, by decide +kernel⟩
def f_X6_offer (n0 : Nat) (n1 : Nat) (v2 : Int32) (v3 : Int32) (v4 : Int32) (S : St) : Option (Unit × St) :=
  if v3 < (1000000 : Int32) then
    gd_ (inb v2 (alen n0)) <|
    if (rd S n0 (Int32.toNatClampNeg v2)) ≤ v3 then
      gd_ (inb v2 (alen n0)) <|
      if v3 = (rd S n0 (Int32.toNatClampNeg v2)) then
        gd_ (inb v2 (alen n1)) <|
        gd_ (inb v2 (alen n1)) <|
        lt_ (wr S n1 (Int32.toNatClampNeg v2) (((rd S n1 (Int32.toNatClampNeg v2)) + v4) - ((rd S n1 (Int32.toNatClampNeg v2)) + v4) / (1000000007 : Int32) * (1000000007 : Int32))) fun S13 =>
        some ((), S13)
      else
        some ((), S)
    else
      gd_ (inb v2 (alen n0)) <|
      lt_ (wr S n0 (Int32.toNatClampNeg v2) v3) fun S15 =>
      gd_ (inb v2 (alen n1)) <|
      lt_ (wr S15 n1 (Int32.toNatClampNeg v2) v4) fun S17 =>
      some ((), S17)
  else
    some ((), S)

set_option maxHeartbeats 4000000 in
set_option maxRecDepth 100000 in
theorem c_X6_offer (l : Launch) {E : En} {α : Nat → Nat} {g : Nat × Nat} {n0 : Nat} {n1 : Nat} {v2 : Int32} {v3 : Int32} {v4 : Int32} {S : St} (hn0 : n0 < 90 ∧ lay n0 = .inr (0, alen n0)) (hn1 : n1 < 90 ∧ lay n1 = .inr (0, alen n1)) {z : Unit × St} (h : f_X6_offer n0 n1 v2 v3 v4 S = some z) : Met l yX6_offer (wsY yX6_offer cX6_offer 5 none) rm_X6_offer (va_Pc [.ref (α n0), .ref (α n1), .int v2, .int v3, .int v4] (Wd E α g S)) (Qv E α g z) 0 0 E.2.2.1 := by
  refine g_met [.ref (α n0), .ref (α n1), .int v2, .int v3, .int v4] (by decide) rfl (Nat.le_of_ble_eq_true rfl) ?_
  intro p e s m below meth c ls C hR hl
  generalize hae : ([.ref (α n0), .ref (α n1), .int v2, .int v3, .int v4] : List Value).toArray = args at C ⊢
  have hl : lv_has ls 5 [(0, .ref (α n0)), (1, .ref (α n1)), (2, .int v2), (3, .int v3), (4, .int v4)] := hl
  obtain ⟨hx, hb, hml, hown, hts, hlk, hrt, hKs⟩ := id C
  have hS : va_S E.2.2.1 s.heap s.heap [] := va_S.rf
  unfold f_X6_offer at h
  refine lv_iload_n hx hb dX6_offer_0 rfl (lv_at hl 3 rfl) ?_
  refine lv_ldc (v := 1000000) hx hb hown (hts _ q473) dX6_offer_1 ?_
  refine lv_icmp_lt (tgt := 7) hx hb dX6_offer_3 (by decide) (fun c7 => ?_) (fun c7 => ?_)
  · have h := ite_t c7 h
    refine lv_iload_n hx hb dX6_offer_7 rfl (lv_at hl 3 rfl) ?_
    refine lv_aload_n hx hb dX6_offer_8 rfl (lv_at hl 0 rfl) ?_
    refine lv_iload_n hx hb dX6_offer_9 rfl (lv_at hl 2 rfl) ?_
    obtain ⟨g8, h⟩ := gd_e h
    refine g_iald C hR (k := n0) (n := (alen n0)) (live_st hn0.1) hn0.2 g8 dX6_offer_10 ?_
    refine lv_icmp_ge (tgt := 26) hx hb dX6_offer_11 (by decide) (fun c9 => ?_) (fun c9 => ?_)
    · have h := ite_t c9 h
      refine lv_iload_n hx hb dX6_offer_26 rfl (lv_at hl 3 rfl) ?_
      refine lv_aload_n hx hb dX6_offer_27 rfl (lv_at hl 0 rfl) ?_
      refine lv_iload_n hx hb dX6_offer_28 rfl (lv_at hl 2 rfl) ?_
      obtain ⟨g10, h⟩ := gd_e h
      refine g_iald C hR (k := n0) (n := (alen n0)) (live_st hn0.1) hn0.2 g10 dX6_offer_29 ?_
      refine lv_icmp_ne (tgt := 45) hx hb dX6_offer_30 (by decide) (fun c11 => ?_) (fun c11 => ?_)
      · have h := ite_f c11 h
        exact g_vret C hR hS h dX6_offer_45
      · have h := ite_t c11 h
        refine lv_aload_n hx hb dX6_offer_33 rfl (lv_at hl 1 rfl) ?_
        refine lv_iload_n hx hb dX6_offer_34 rfl (lv_at hl 2 rfl) ?_
        refine lv_aload_n hx hb dX6_offer_35 rfl (lv_at hl 1 rfl) ?_
        refine lv_iload_n hx hb dX6_offer_36 rfl (lv_at hl 2 rfl) ?_
        obtain ⟨g12, h⟩ := gd_e h
        refine g_iald C hR (k := n1) (n := (alen n1)) (live_st hn1.1) hn1.2 g12 dX6_offer_37 ?_
        refine lv_iload hx hb dX6_offer_38 (lv_at hl 4 rfl) ?_
        refine lv_iadd hx hb dX6_offer_40 ?_
        refine lv_ldc (v := 1000000007) hx hb hown (hts _ q489) dX6_offer_41 ?_
        refine lv_irem hx hb dX6_offer_43 (by decide) ?_
        obtain ⟨g14, h⟩ := gd_e h
        obtain ⟨S13, eS13, h⟩ := lt_e h
        refine g_iast C hR hS (k := n1) (n := (alen n1)) (live_st hn1.1) hn1.2 g14 eS13 dX6_offer_44 (fun H locs hR hS => ?_)
        exact g_vret C hR hS h dX6_offer_45
    · have h := ite_f c9 h
      refine lv_aload_n hx hb dX6_offer_14 rfl (lv_at hl 0 rfl) ?_
      refine lv_iload_n hx hb dX6_offer_15 rfl (lv_at hl 2 rfl) ?_
      refine lv_iload_n hx hb dX6_offer_16 rfl (lv_at hl 3 rfl) ?_
      obtain ⟨g16, h⟩ := gd_e h
      obtain ⟨S15, eS15, h⟩ := lt_e h
      refine g_iast C hR hS (k := n0) (n := (alen n0)) (live_st hn0.1) hn0.2 g16 eS15 dX6_offer_17 (fun H locs hR hS => ?_)
      refine lv_aload_n hx hb dX6_offer_18 rfl (lv_at hl 1 rfl) ?_
      refine lv_iload_n hx hb dX6_offer_19 rfl (lv_at hl 2 rfl) ?_
      refine lv_iload hx hb dX6_offer_20 (lv_at hl 4 rfl) ?_
      obtain ⟨g18, h⟩ := gd_e h
      obtain ⟨S17, eS17, h⟩ := lt_e h
      refine g_iast C hR hS (k := n1) (n := (alen n1)) (live_st hn1.1) hn1.2 g18 eS17 dX6_offer_22 (fun H locs hR hS => ?_)
      refine lv_goto (tgt := 45) hx hb dX6_offer_23 (by decide) ?_
      exact g_vret C hR hS h dX6_offer_45
  · have h := ite_f c7 h
    exact g_vret C hR hS h dX6_offer_6

/-! OneVoice$Sayer.weighPiece(II)V -/
abbrev rm_X6_weighPiece : Room := { frames := 1, cells := 0, slots := 0, locals := 24 }
theorem m_X6_weighPiece : MV yX6_weighPiece RX6 cX6_weighPiece 9 none 2 := ⟨q476, q2, q70, q477, by decide +kernel⟩
def f_X6_weighPiece_L13 (K213 : St → Option (Unit × St)) (v1 : Int32) (v2 : Int32) (n3 : Nat) : Nat → Int32 → St → Option (Unit × St)
  | 0, _, _ => none
  | f + 1, v4, S =>
    if (rd S (200 + 2 * n3) 1) ≤ v4 then
      K213  S
    else
      lt_ ((v1 * (8 : Int32)) + v4) fun x23 =>
      gd_ (inb x23 128) <|
      lt_ (wr S 9 (Int32.toNatClampNeg x23) (1000000 : Int32)) fun S24 =>
      gd_ (inb x23 128) <|
      lt_ (wr S24 10 (Int32.toNatClampNeg x23) (0 : Int32)) fun S26 =>
      gd_ (inb v2 16) <|
      bd_ (f_X3_says n3 v4 (rd S26 4 (Int32.toNatClampNeg v2)) S26) fun r29 S30 =>
      lt_ (fun  (S31 : St) =>
          lt_ (v4 + (1 : Int32)) fun x32 =>
          f_X6_weighPiece_L13 K213 v1 v2 n3 f x32 S31) fun J207 =>
      if r29 = 0 then
        J207  S30
      else
        gd_ (inb v4 8) <|
        lt_ (rd S30 (200 + 2 * n3 + 1) (Int32.toNatClampNeg v4)) fun x35 =>
        lt_ (((v2 + (1 : Int32)) * (100 : Int32)) + x35) fun x36 =>
        gd_ (inb x36 1700) <|
        bd_ (f_X3_cutsAtEnd n3 v4 S30) fun r38 S39 =>
        gd_ (inb x36 1700) <|
        bd_ (f_X6_offer 9 10 x23 ((rd S30 7 (Int32.toNatClampNeg x36)) + (r38 * (rd S39 3 4))) (rd S39 8 (Int32.toNatClampNeg x36)) S39) fun r41 S42 =>
        lt_ (fun  (S43 : St) =>
            gd_ (inb x23 128) <|
            bd_ (f_X3_cutsAtBegin n3 v4 S43) fun r45 S46 =>
            lt_ ((rd S43 9 (Int32.toNatClampNeg x23)) + (r45 * (rd S46 3 4))) fun x47 =>
            gd_ (inb x23 128) <|
            bd_ (f_X6_offer 11 12 x35 x47 (rd S46 10 (Int32.toNatClampNeg x23)) S46) fun r49 S50 =>
            J207  S50) fun J164 =>
        if (rd S42 (200 + 2 * n3) 1) ≤ (v4 + (1 : Int32)) then
          J164  S42
        else
          gd_ (inb (x23 + (1 : Int32)) 128) <|
          gd_ (inb (x23 + (1 : Int32)) 128) <|
          bd_ (f_X6_offer 9 10 x23 (rd S42 9 (Int32.toNatClampNeg (x23 + (1 : Int32)))) (rd S42 10 (Int32.toNatClampNeg (x23 + (1 : Int32)))) S42) fun r54 S55 =>
          J164  S55

def f_X6_weighPiece (v1 : Int32) (v2 : Int32) (S : St) : Option (Unit × St) :=
  gd_ (inb v1 16 ∧ (Int32.toNatClampNeg v1) < nP S) <|
  lt_ (Int32.toNatClampNeg v1) fun n21 =>
  f_X6_weighPiece_L13
    (fun  (S56 : St) =>
      some ((), S56))
    v1 v2 n21 FU (0 : Int32) S

set_option maxHeartbeats 4000000 in
set_option maxRecDepth 100000 in
theorem w_X6_weighPiece_L13 {p : Program} {l : Launch} {e : Env} {s : State} {m : MethodId} {args : Array Value} {below : List Frame} {meth : Method} {c : Code} {E : En} {α : Nat → Nat} {g : Nat × Nat} (C : Cx p s m args meth c RX6 cX6_weighPiece 9 none E) {z : Unit × St} {K213 : St → Option (Unit × St)} {v1 : Int32} {v2 : Int32} {n3 : Nat}
    (hK213 : ∀ (S : St) (H : Heap) (locs : List Loc) (ls : Array Slot), Rp E α g S H → va_S E.2.2.1 s.heap H locs → lv_has ls 9 [] → K213  S = some z → W p l e rm_X6_weighPiece s m args below meth c H locs 0 0 (MQ below (Qv E α g z) args s 0 0 E.2.2.1) (F0 m 213 ls [])) (hn3 : n3 < g.1) :
    ∀ (f : Nat) (v4 : Int32) (S : St) (H : Heap) (locs : List Loc) (ls : Array Slot), Rp E α g S H → va_S E.2.2.1 s.heap H locs → lv_has ls 9 [(0, .ref (α 3)), (1, .int v1), (2, .int v2), (3, .ref (α (200 + 2 * n3))), (4, .int v4)] → f_X6_weighPiece_L13 K213 v1 v2 n3 f v4 S = some z → W p l e rm_X6_weighPiece s m args below meth c H locs 0 0 (MQ below (Qv E α g z) args s 0 0 E.2.2.1) (F0 m 13 ls []) := by
  obtain ⟨hx, hb, hml, hown, hts, hlk, hrt, hKs⟩ := id C
  intro f
  induction f with
  | zero =>
    intro v4 S H locs ls  hR hS hl h
    rw [f_X6_weighPiece_L13] at h
    cases h
  | succ f ih =>
    intro v4 S H locs ls  hR hS hl h
    rw [f_X6_weighPiece_L13] at h
    refine lv_iload hx hb dX6_weighPiece_13 (lv_at hl 4 rfl) ?_
    refine lv_aload_n hx hb dX6_weighPiece_15 rfl (lv_at hl 3 rfl) ?_
    refine g_geti C hR (k := (200 + 2 * n3)) (j := 1) (live_p hn3) (lay_p (Nat.lt_of_lt_of_le hn3 hR.1.1)) rfl (vw3) inl3 (by decide) q389 dX6_weighPiece_16 ?_
    refine lv_icmp_ge (tgt := 213) hx hb dX6_weighPiece_19 (by decide) (fun c22 => ?_) (fun c22 => ?_)
    · have h := ite_t c22 h
      exact hK213  _ _ _ _  hR hS (lv_sub hl [] rfl) h
    · have h := ite_f c22 h
      refine lv_iload_n hx hb dX6_weighPiece_22 rfl (lv_at hl 1 rfl) ?_
      refine lv_bipush (v := 8) hx hb dX6_weighPiece_23 (by decide) ?_
      refine lv_imul hx hb dX6_weighPiece_25 ?_
      refine lv_iload hx hb dX6_weighPiece_26 (lv_at hl 4 rfl) ?_
      refine lv_iadd hx hb dX6_weighPiece_28 ?_
      obtain ⟨x23, ex23, h⟩ := lt_e h
      refine g_nmi ex23 ?_
      refine lv_istore (lv' := [(5, .int x23), (0, .ref (α 3)), (1, .int v1), (2, .int v2), (3, .ref (α (200 + 2 * n3))), (4, .int v4)]) hx hb dX6_weighPiece_29 hl (by decide) rfl (fun ls hl => ?_)
      refine lv_aload_n hx hb dX6_weighPiece_31 rfl (lv_at hl 1 rfl) ?_
      refine g_getr (t := 9) C hR (k := 3) (j := 10) (live_st (by decide)) rfl rfl (vw6) inl6 (by decide) q131 dX6_weighPiece_32 ?_
      refine lv_iload hx hb dX6_weighPiece_35 (lv_at hl 0 rfl) ?_
      refine lv_ldc (v := 1000000) hx hb hown (hts _ q473) dX6_weighPiece_37 ?_
      obtain ⟨g25, h⟩ := gd_e h
      obtain ⟨S24, eS24, h⟩ := lt_e h
      refine g_iast C hR hS (k := 9) (n := 128) (live_st (by decide)) rfl g25 eS24 dX6_weighPiece_39 (fun H locs hR hS => ?_)
      refine lv_aload_n hx hb dX6_weighPiece_40 rfl (lv_at hl 1 rfl) ?_
      refine g_getr (t := 10) C hR (k := 3) (j := 11) (live_st (by decide)) rfl rfl (vw6) inl6 (by decide) q132 dX6_weighPiece_41 ?_
      refine lv_iload hx hb dX6_weighPiece_44 (lv_at hl 0 rfl) ?_
      refine lv_iconst (v := 0) hx hb dX6_weighPiece_46 (by decide) ?_
      obtain ⟨g27, h⟩ := gd_e h
      obtain ⟨S26, eS26, h⟩ := lt_e h
      refine g_iast C hR hS (k := 10) (n := 128) (live_st (by decide)) rfl g27 eS26 dX6_weighPiece_47 (fun H locs hR hS => ?_)
      refine lv_aload_n hx hb dX6_weighPiece_48 rfl (lv_at hl 4 rfl) ?_
      refine lv_iload hx hb dX6_weighPiece_49 (lv_at hl 5 rfl) ?_
      refine lv_aload_n hx hb dX6_weighPiece_51 rfl (lv_at hl 1 rfl) ?_
      refine g_getr (t := 4) C hR (k := 3) (j := 1) (live_st (by decide)) rfl rfl (vw6) inl6 (by decide) q121 dX6_weighPiece_52 ?_
      refine lv_iload_n hx hb dX6_weighPiece_55 rfl (lv_at hl 3 rfl) ?_
      obtain ⟨g28, h⟩ := gd_e h
      refine g_iald C hR (k := 4) (n := 16) (live_st (by decide)) rfl g28 dX6_weighPiece_56 ?_
      obtain ⟨r29, S30, hr29, h⟩ := bd_e h
      refine g_ci hS (g_runV C hR hS (k := (200 + 2 * n3)) (As := [.int v4, .int (rd S26 4 (Int32.toNatClampNeg v2))]) (rest := []) (c_X3_says l hn3 hr29) (live_p hn3) (lay_p (Nat.lt_of_lt_of_le hn3 hR.1.1)) (vw3) m_X3_says q478 ⟨rfl, rfl⟩ ⟨Nat.le_of_ble_eq_true rfl, Nat.le_of_ble_eq_true rfl⟩ rfl hl.1 rfl (Nat.le_of_ble_eq_true rfl) dX6_weighPiece_57 ⟨Nat.zero_le _, Nat.zero_le _⟩) (fun H locs hR hS => ?_)
      obtain ⟨J207, eJ207, h⟩ := lt_e h
      have hJ207 : ∀ (S31 : St) (H : Heap) (locs : List Loc) (ls : Array Slot), Rp E α g S31 H → va_S E.2.2.1 s.heap H locs → lv_has ls 9 [(0, .ref (α 3)), (1, .int v1), (2, .int v2), (3, .ref (α (200 + 2 * n3))), (4, .int v4)] → J207  S31 = some z → W p l e rm_X6_weighPiece s m args below meth c H locs 0 0 (MQ below (Qv E α g z) args s 0 0 E.2.2.1) (F0 m 207 ls []) := by
        intro  S31 H locs ls  hR hS hl h
        rw [eJ207] at h
        obtain ⟨x32, ex32, h⟩ := lt_e h
        refine lv_iinc (v := x32) (lv' := [(4, .int x32), (0, .ref (α 3)), (1, .int v1), (2, .int v2), (3, .ref (α (200 + 2 * n3)))]) hx hb dX6_weighPiece_207 hl (k := 4) rfl (by rw [ex32]; rfl) (by decide) rfl (fun ls hl => ?_)
        refine lv_goto (tgt := 13) hx hb dX6_weighPiece_210 (by decide) ?_
        exact ih _ _ _ _ _  hR hS (lv_sub hl [1, 2, 3, 4, 0] rfl) h
      clear eJ207
      refine lv_if_eq (tgt := 207) hx hb dX6_weighPiece_60 (by decide) (fun c33 => ?_) (fun c33 => ?_)
      · have h := ite_t c33 h
        exact hJ207  _ _ _ _  hR hS (lv_sub hl [1, 2, 3, 4, 5] rfl) h
      · have h := ite_f c33 h
        refine lv_aload_n hx hb dX6_weighPiece_63 rfl (lv_at hl 4 rfl) ?_
        refine g_getr (t := (200 + 2 * n3 + 1)) C hR (k := (200 + 2 * n3)) (j := 3) (live_p hn3) (lay_p (Nat.lt_of_lt_of_le hn3 hR.1.1)) rfl (vw3) inl3 (by decide) q394 dX6_weighPiece_64 ?_
        refine lv_iload hx hb dX6_weighPiece_67 (lv_at hl 5 rfl) ?_
        obtain ⟨g34, h⟩ := gd_e h
        refine g_iald C hR (k := (200 + 2 * n3 + 1)) (n := 8) (live_pt hn3) (lay_pt (Nat.lt_of_lt_of_le hn3 hR.1.1)) g34 dX6_weighPiece_69 ?_
        obtain ⟨x35, ex35, h⟩ := lt_e h
        refine g_nmi ex35 ?_
        refine lv_istore (lv' := [(6, .int x35), (5, .int x23), (0, .ref (α 3)), (1, .int v1), (2, .int v2), (3, .ref (α (200 + 2 * n3))), (4, .int v4)]) hx hb dX6_weighPiece_70 hl (by decide) rfl (fun ls hl => ?_)
        refine lv_iload_n hx hb dX6_weighPiece_72 rfl (lv_at hl 4 rfl) ?_
        refine lv_iconst (v := 1) hx hb dX6_weighPiece_73 (by decide) ?_
        refine lv_iadd hx hb dX6_weighPiece_74 ?_
        refine lv_bipush (v := 100) hx hb dX6_weighPiece_75 (by decide) ?_
        refine lv_imul hx hb dX6_weighPiece_77 ?_
        refine lv_iload hx hb dX6_weighPiece_78 (lv_at hl 0 rfl) ?_
        refine lv_iadd hx hb dX6_weighPiece_80 ?_
        obtain ⟨x36, ex36, h⟩ := lt_e h
        refine g_nmi ex36 ?_
        refine lv_istore (lv' := [(7, .int x36), (6, .int x35), (5, .int x23), (0, .ref (α 3)), (1, .int v1), (2, .int v2), (3, .ref (α (200 + 2 * n3))), (4, .int v4)]) hx hb dX6_weighPiece_81 hl (by decide) rfl (fun ls hl => ?_)
        refine lv_aload_n hx hb dX6_weighPiece_83 rfl (lv_at hl 3 rfl) ?_
        refine g_getr (t := 9) C hR (k := 3) (j := 10) (live_st (by decide)) rfl rfl (vw6) inl6 (by decide) q131 dX6_weighPiece_84 ?_
        refine lv_aload_n hx hb dX6_weighPiece_87 rfl (lv_at hl 3 rfl) ?_
        refine g_getr (t := 10) C hR (k := 3) (j := 11) (live_st (by decide)) rfl rfl (vw6) inl6 (by decide) q132 dX6_weighPiece_88 ?_
        refine lv_iload hx hb dX6_weighPiece_91 (lv_at hl 2 rfl) ?_
        refine lv_aload_n hx hb dX6_weighPiece_93 rfl (lv_at hl 3 rfl) ?_
        refine g_getr (t := 7) C hR (k := 3) (j := 8) (live_st (by decide)) rfl rfl (vw6) inl6 (by decide) q129 dX6_weighPiece_94 ?_
        refine lv_iload hx hb dX6_weighPiece_97 (lv_at hl 0 rfl) ?_
        obtain ⟨g37, h⟩ := gd_e h
        refine g_iald C hR (k := 7) (n := 1700) (live_st (by decide)) rfl g37 dX6_weighPiece_99 ?_
        refine lv_aload_n hx hb dX6_weighPiece_100 rfl (lv_at hl 6 rfl) ?_
        refine lv_iload hx hb dX6_weighPiece_101 (lv_at hl 7 rfl) ?_
        obtain ⟨r38, S39, hr38, h⟩ := bd_e h
        refine g_ci hS (g_runV C hR hS (k := (200 + 2 * n3)) (As := [.int v4]) (rest := [.int (rd S30 7 (Int32.toNatClampNeg x36)), .int x23, .ref (α 10), .ref (α 9)]) (c_X3_cutsAtEnd l hn3 hr38) (live_p hn3) (lay_p (Nat.lt_of_lt_of_le hn3 hR.1.1)) (vw3) m_X3_cutsAtEnd q482 ⟨rfl, rfl⟩ ⟨Nat.le_of_ble_eq_true rfl, Nat.le_of_ble_eq_true rfl⟩ rfl hl.1 rfl (Nat.le_of_ble_eq_true rfl) dX6_weighPiece_103 ⟨Nat.zero_le _, Nat.zero_le _⟩) (fun H locs hR hS => ?_)
        refine lv_aload_n hx hb dX6_weighPiece_106 rfl (lv_at hl 3 rfl) ?_
        refine g_geti C hR (k := 3) (j := 4) (live_st (by decide)) rfl rfl (vw6) inl6 (by decide) q124 dX6_weighPiece_107 ?_
        refine lv_imul hx hb dX6_weighPiece_110 ?_
        refine lv_iadd hx hb dX6_weighPiece_111 ?_
        refine lv_aload_n hx hb dX6_weighPiece_112 rfl (lv_at hl 3 rfl) ?_
        refine g_getr (t := 8) C hR (k := 3) (j := 9) (live_st (by decide)) rfl rfl (vw6) inl6 (by decide) q130 dX6_weighPiece_113 ?_
        refine lv_iload hx hb dX6_weighPiece_116 (lv_at hl 0 rfl) ?_
        obtain ⟨g40, h⟩ := gd_e h
        refine g_iald C hR (k := 8) (n := 1700) (live_st (by decide)) rfl g40 dX6_weighPiece_118 ?_
        obtain ⟨r41, S42, hr41, h⟩ := bd_e h
        refine g_cv hS (g_runS C hR hS (As := [.ref (α 9), .ref (α 10), .int x23, .int ((rd S30 7 (Int32.toNatClampNeg x36)) + (r38 * (rd S39 3 4))), .int (rd S39 8 (Int32.toNatClampNeg x36))]) (rest := []) (c_X6_offer l ⟨by decide, rfl⟩ ⟨by decide, rfl⟩ hr41) m_X6_offer q486 ⟨rfl, rfl⟩ ⟨Nat.le_of_ble_eq_true rfl, Nat.le_of_ble_eq_true rfl⟩ rfl hl.1 rfl (Nat.le_of_ble_eq_true rfl) dX6_weighPiece_119 ⟨Nat.zero_le _, Nat.zero_le _⟩) (fun H locs hR hS => ?_)
        refine lv_iload hx hb dX6_weighPiece_122 (lv_at hl 7 rfl) ?_
        refine lv_iconst (v := 1) hx hb dX6_weighPiece_124 (by decide) ?_
        refine lv_iadd hx hb dX6_weighPiece_125 ?_
        refine lv_aload_n hx hb dX6_weighPiece_126 rfl (lv_at hl 6 rfl) ?_
        refine g_geti C hR (k := (200 + 2 * n3)) (j := 1) (live_p hn3) (lay_p (Nat.lt_of_lt_of_le hn3 hR.1.1)) rfl (vw3) inl3 (by decide) q389 dX6_weighPiece_127 ?_
        obtain ⟨J164, eJ164, h⟩ := lt_e h
        have hJ164 : ∀ (S43 : St) (H : Heap) (locs : List Loc) (ls : Array Slot), Rp E α g S43 H → va_S E.2.2.1 s.heap H locs → lv_has ls 9 [(0, .ref (α 3)), (1, .int v1), (2, .int v2), (3, .ref (α (200 + 2 * n3))), (4, .int v4), (5, .int x23), (6, .int x35)] → J164  S43 = some z → W p l e rm_X6_weighPiece s m args below meth c H locs 0 0 (MQ below (Qv E α g z) args s 0 0 E.2.2.1) (F0 m 164 ls []) := by
          intro  S43 H locs ls  hR hS hl h
          rw [eJ164] at h
          refine lv_aload_n hx hb dX6_weighPiece_164 rfl (lv_at hl 0 rfl) ?_
          refine g_getr (t := 9) C hR (k := 3) (j := 10) (live_st (by decide)) rfl rfl (vw6) inl6 (by decide) q131 dX6_weighPiece_165 ?_
          refine lv_iload hx hb dX6_weighPiece_168 (lv_at hl 5 rfl) ?_
          obtain ⟨g44, h⟩ := gd_e h
          refine g_iald C hR (k := 9) (n := 128) (live_st (by decide)) rfl g44 dX6_weighPiece_170 ?_
          refine lv_aload_n hx hb dX6_weighPiece_171 rfl (lv_at hl 3 rfl) ?_
          refine lv_iload hx hb dX6_weighPiece_172 (lv_at hl 4 rfl) ?_
          obtain ⟨r45, S46, hr45, h⟩ := bd_e h
          refine g_ci hS (g_runV C hR hS (k := (200 + 2 * n3)) (As := [.int v4]) (rest := [.int (rd S43 9 (Int32.toNatClampNeg x23))]) (c_X3_cutsAtBegin l hn3 hr45) (live_p hn3) (lay_p (Nat.lt_of_lt_of_le hn3 hR.1.1)) (vw3) m_X3_cutsAtBegin q490 ⟨rfl, rfl⟩ ⟨Nat.le_of_ble_eq_true rfl, Nat.le_of_ble_eq_true rfl⟩ rfl hl.1 rfl (Nat.le_of_ble_eq_true rfl) dX6_weighPiece_174 ⟨Nat.zero_le _, Nat.zero_le _⟩) (fun H locs hR hS => ?_)
          refine lv_aload_n hx hb dX6_weighPiece_177 rfl (lv_at hl 0 rfl) ?_
          refine g_geti C hR (k := 3) (j := 4) (live_st (by decide)) rfl rfl (vw6) inl6 (by decide) q124 dX6_weighPiece_178 ?_
          refine lv_imul hx hb dX6_weighPiece_181 ?_
          refine lv_iadd hx hb dX6_weighPiece_182 ?_
          obtain ⟨x47, ex47, h⟩ := lt_e h
          refine g_nmi ex47 ?_
          refine lv_istore (lv' := [(8, .int x47), (0, .ref (α 3)), (1, .int v1), (2, .int v2), (3, .ref (α (200 + 2 * n3))), (4, .int v4), (5, .int x23), (6, .int x35)]) hx hb dX6_weighPiece_183 hl (by decide) rfl (fun ls hl => ?_)
          refine lv_aload_n hx hb dX6_weighPiece_185 rfl (lv_at hl 1 rfl) ?_
          refine g_getr (t := 11) C hR (k := 3) (j := 12) (live_st (by decide)) rfl rfl (vw6) inl6 (by decide) q133 dX6_weighPiece_186 ?_
          refine lv_aload_n hx hb dX6_weighPiece_189 rfl (lv_at hl 1 rfl) ?_
          refine g_getr (t := 12) C hR (k := 3) (j := 13) (live_st (by decide)) rfl rfl (vw6) inl6 (by decide) q134 dX6_weighPiece_190 ?_
          refine lv_iload hx hb dX6_weighPiece_193 (lv_at hl 7 rfl) ?_
          refine lv_iload hx hb dX6_weighPiece_195 (lv_at hl 0 rfl) ?_
          refine lv_aload_n hx hb dX6_weighPiece_197 rfl (lv_at hl 1 rfl) ?_
          refine g_getr (t := 10) C hR (k := 3) (j := 11) (live_st (by decide)) rfl rfl (vw6) inl6 (by decide) q132 dX6_weighPiece_198 ?_
          refine lv_iload hx hb dX6_weighPiece_201 (lv_at hl 6 rfl) ?_
          obtain ⟨g48, h⟩ := gd_e h
          refine g_iald C hR (k := 10) (n := 128) (live_st (by decide)) rfl g48 dX6_weighPiece_203 ?_
          obtain ⟨r49, S50, hr49, h⟩ := bd_e h
          refine g_cv hS (g_runS C hR hS (As := [.ref (α 11), .ref (α 12), .int x35, .int x47, .int (rd S46 10 (Int32.toNatClampNeg x23))]) (rest := []) (c_X6_offer l ⟨by decide, rfl⟩ ⟨by decide, rfl⟩ hr49) m_X6_offer q486 ⟨rfl, rfl⟩ ⟨Nat.le_of_ble_eq_true rfl, Nat.le_of_ble_eq_true rfl⟩ rfl hl.1 rfl (Nat.le_of_ble_eq_true rfl) dX6_weighPiece_204 ⟨Nat.zero_le _, Nat.zero_le _⟩) (fun H locs hR hS => ?_)
          exact hJ207  _ _ _ _  hR hS (lv_sub hl [1, 2, 3, 4, 5] rfl) h
        clear eJ164
        refine lv_icmp_ge (tgt := 164) hx hb dX6_weighPiece_130 (by decide) (fun c51 => ?_) (fun c51 => ?_)
        · have h := ite_t c51 h
          exact hJ164  _ _ _ _  hR hS (lv_sub hl [3, 4, 5, 6, 7, 2, 1] rfl) h
        · have h := ite_f c51 h
          refine lv_aload_n hx hb dX6_weighPiece_133 rfl (lv_at hl 3 rfl) ?_
          refine g_getr (t := 9) C hR (k := 3) (j := 10) (live_st (by decide)) rfl rfl (vw6) inl6 (by decide) q131 dX6_weighPiece_134 ?_
          refine lv_aload_n hx hb dX6_weighPiece_137 rfl (lv_at hl 3 rfl) ?_
          refine g_getr (t := 10) C hR (k := 3) (j := 11) (live_st (by decide)) rfl rfl (vw6) inl6 (by decide) q132 dX6_weighPiece_138 ?_
          refine lv_iload hx hb dX6_weighPiece_141 (lv_at hl 2 rfl) ?_
          refine lv_aload_n hx hb dX6_weighPiece_143 rfl (lv_at hl 3 rfl) ?_
          refine g_getr (t := 9) C hR (k := 3) (j := 10) (live_st (by decide)) rfl rfl (vw6) inl6 (by decide) q131 dX6_weighPiece_144 ?_
          refine lv_iload hx hb dX6_weighPiece_147 (lv_at hl 2 rfl) ?_
          refine lv_iconst (v := 1) hx hb dX6_weighPiece_149 (by decide) ?_
          refine lv_iadd hx hb dX6_weighPiece_150 ?_
          obtain ⟨g52, h⟩ := gd_e h
          refine g_iald C hR (k := 9) (n := 128) (live_st (by decide)) rfl g52 dX6_weighPiece_151 ?_
          refine lv_aload_n hx hb dX6_weighPiece_152 rfl (lv_at hl 3 rfl) ?_
          refine g_getr (t := 10) C hR (k := 3) (j := 11) (live_st (by decide)) rfl rfl (vw6) inl6 (by decide) q132 dX6_weighPiece_153 ?_
          refine lv_iload hx hb dX6_weighPiece_156 (lv_at hl 2 rfl) ?_
          refine lv_iconst (v := 1) hx hb dX6_weighPiece_158 (by decide) ?_
          refine lv_iadd hx hb dX6_weighPiece_159 ?_
          obtain ⟨g53, h⟩ := gd_e h
          refine g_iald C hR (k := 10) (n := 128) (live_st (by decide)) rfl g53 dX6_weighPiece_160 ?_
          obtain ⟨r54, S55, hr54, h⟩ := bd_e h
          refine g_cv hS (g_runS C hR hS (As := [.ref (α 9), .ref (α 10), .int x23, .int (rd S42 9 (Int32.toNatClampNeg (x23 + (1 : Int32)))), .int (rd S42 10 (Int32.toNatClampNeg (x23 + (1 : Int32))))]) (rest := []) (c_X6_offer l ⟨by decide, rfl⟩ ⟨by decide, rfl⟩ hr54) m_X6_offer q486 ⟨rfl, rfl⟩ ⟨Nat.le_of_ble_eq_true rfl, Nat.le_of_ble_eq_true rfl⟩ rfl hl.1 rfl (Nat.le_of_ble_eq_true rfl) dX6_weighPiece_161 ⟨Nat.zero_le _, Nat.zero_le _⟩) (fun H locs hR hS => ?_)
          exact hJ164  _ _ _ _  hR hS (lv_sub hl [3, 4, 5, 6, 7, 2, 1] rfl) h

set_option maxHeartbeats 4000000 in
set_option maxRecDepth 100000 in
theorem c_X6_weighPiece (l : Launch) {E : En} {α : Nat → Nat} {g : Nat × Nat} {v1 : Int32} {v2 : Int32} {S : St}  {z : Unit × St} (h : f_X6_weighPiece v1 v2 S = some z) : Met l yX6_weighPiece (wsY yX6_weighPiece cX6_weighPiece 9 none) rm_X6_weighPiece (va_Pc [.ref (α 3), .int v1, .int v2] (Wd E α g S)) (Qv E α g z) 0 0 E.2.2.1 := by
  refine g_met [.ref (α 3), .int v1, .int v2] (by decide) rfl (Nat.le_of_ble_eq_true rfl) ?_
  intro p e s m below meth c ls C hR hl
  generalize hae : ([.ref (α 3), .int v1, .int v2] : List Value).toArray = args at C ⊢
  have hl : lv_has ls 9 [(0, .ref (α 3)), (1, .int v1), (2, .int v2)] := hl
  obtain ⟨hx, hb, hml, hown, hts, hlk, hrt, hKs⟩ := id C
  have hS : va_S E.2.2.1 s.heap s.heap [] := va_S.rf
  unfold f_X6_weighPiece at h
  refine lv_aload_n hx hb dX6_weighPiece_0 rfl (lv_at hl 0 rfl) ?_
  refine g_getr (t := 1) C hR (k := 3) (j := 0) (live_st (by decide)) rfl rfl (vw6) inl6 (by decide) q120 dX6_weighPiece_1 ?_
  refine g_getr (t := 2) C hR (k := 1) (j := 0) (live_st (by decide)) rfl rfl (vw8) inl8 (by decide) q105 dX6_weighPiece_4 ?_
  refine lv_iload_n hx hb dX6_weighPiece_7 rfl (lv_at hl 1 rfl) ?_
  obtain ⟨g19, h⟩ := gd_e h
  refine g_aldP C hR g19.1 g19.2 dX6_weighPiece_8 (fun hn20 => ?_)
  obtain ⟨n21, en21, h⟩ := lt_e h
  have hn21 : n21 < g.1 := by rw [en21]; exact hn20
  refine g_nmP en21 ?_
  refine lv_astore_n (lv' := [(3, .ref (α (200 + 2 * n21))), (0, .ref (α 3)), (1, .int v1), (2, .int v2)]) hx hb dX6_weighPiece_9 rfl hl (by decide) rfl (fun ls hl => ?_)
  refine lv_iconst (v := 0) hx hb dX6_weighPiece_10 (by decide) ?_
  refine lv_istore (lv' := [(4, .int (0 : Int32)), (3, .ref (α (200 + 2 * n21))), (0, .ref (α 3)), (1, .int v1), (2, .int v2)]) hx hb dX6_weighPiece_11 hl (by decide) rfl (fun ls hl => ?_)
  refine w_X6_weighPiece_L13 C ?_ hn21 _ _ _ _ _ _  hR hS (lv_sub hl [2, 3, 4, 1, 0] rfl) h
  · intro  S56 H locs ls  hR hS hl h
    exact g_vret C hR hS h dX6_weighPiece_213

/-! OneVoice$Sayer.carryUp(I)V -/
abbrev rm_X6_carryUp : Room := { frames := 1, cells := 0, slots := 0, locals := 24 }
theorem m_X6_carryUp : MV yX6_carryUp RX6 cX6_carryUp 5 none 1 := ⟨q496, q3, q70, q497, by decide +kernel⟩
def f_X6_carryUp_L2 (K102 : St → Option (Unit × St)) (v1 : Int32) : Nat → Int32 → St → Option (Unit × St)
  | 0, _, _ => none
  | f + 1, v2, S =>
    if (rd S 3 6) ≤ v2 then
      K102  S
    else
      gd_ (inb v2 100) <|
      lt_ (rd S 5 (Int32.toNatClampNeg v2)) fun x14 =>
      gd_ (inb x14 100) <|
      gd_ (inb (v1 + x14) 1700) <|
      lt_ (wr S 7 (Int32.toNatClampNeg (v1 + x14)) (rd S 11 (Int32.toNatClampNeg x14))) fun S16 =>
      gd_ (inb x14 100) <|
      gd_ (inb (v1 + x14) 1700) <|
      lt_ (wr S16 8 (Int32.toNatClampNeg (v1 + x14)) (rd S16 12 (Int32.toNatClampNeg x14))) fun S19 =>
      lt_ (fun  (S21 : St) =>
          lt_ (v2 + (1 : Int32)) fun x22 =>
          f_X6_carryUp_L2 K102 v1 f x22 S21) fun J96 =>
      if v2 ≤ 0 then
        J96  S19
      else
        gd_ (inb (v2 - (1 : Int32)) 100) <|
        lt_ (rd S19 5 (Int32.toNatClampNeg (v2 - (1 : Int32)))) fun x25 =>
        gd_ (inb (v1 + x25) 1700) <|
        gd_ (inb (v1 + x25) 1700) <|
        bd_ (f_X6_offer 7 8 (v1 + x14) (((rd S19 7 (Int32.toNatClampNeg (v1 + x25))) + x14) - x25) (rd S19 8 (Int32.toNatClampNeg (v1 + x25))) S19) fun r28 S29 =>
        J96  S29

def f_X6_carryUp (v1 : Int32) (S : St) : Option (Unit × St) :=
  f_X6_carryUp_L2
    (fun  (S30 : St) =>
      some ((), S30))
    v1 FU (0 : Int32) S

set_option maxHeartbeats 4000000 in
set_option maxRecDepth 100000 in
theorem w_X6_carryUp_L2 {p : Program} {l : Launch} {e : Env} {s : State} {m : MethodId} {args : Array Value} {below : List Frame} {meth : Method} {c : Code} {E : En} {α : Nat → Nat} {g : Nat × Nat} (C : Cx p s m args meth c RX6 cX6_carryUp 5 none E) {z : Unit × St} {K102 : St → Option (Unit × St)} {v1 : Int32}
    (hK102 : ∀ (S : St) (H : Heap) (locs : List Loc) (ls : Array Slot), Rp E α g S H → va_S E.2.2.1 s.heap H locs → lv_has ls 5 [] → K102  S = some z → W p l e rm_X6_carryUp s m args below meth c H locs 0 0 (MQ below (Qv E α g z) args s 0 0 E.2.2.1) (F0 m 102 ls [])) :
    ∀ (f : Nat) (v2 : Int32) (S : St) (H : Heap) (locs : List Loc) (ls : Array Slot), Rp E α g S H → va_S E.2.2.1 s.heap H locs → lv_has ls 5 [(0, .ref (α 3)), (1, .int v1), (2, .int v2)] → f_X6_carryUp_L2 K102 v1 f v2 S = some z → W p l e rm_X6_carryUp s m args below meth c H locs 0 0 (MQ below (Qv E α g z) args s 0 0 E.2.2.1) (F0 m 2 ls []) := by
  obtain ⟨hx, hb, hml, hown, hts, hlk, hrt, hKs⟩ := id C
  intro f
  induction f with
  | zero =>
    intro v2 S H locs ls  hR hS hl h
    rw [f_X6_carryUp_L2] at h
    cases h
  | succ f ih =>
    intro v2 S H locs ls  hR hS hl h
    rw [f_X6_carryUp_L2] at h
    refine lv_iload_n hx hb dX6_carryUp_2 rfl (lv_at hl 2 rfl) ?_
    refine lv_aload_n hx hb dX6_carryUp_3 rfl (lv_at hl 0 rfl) ?_
    refine g_geti C hR (k := 3) (j := 6) (live_st (by decide)) rfl rfl (vw6) inl6 (by decide) q127 dX6_carryUp_4 ?_
    refine lv_icmp_ge (tgt := 102) hx hb dX6_carryUp_7 (by decide) (fun c12 => ?_) (fun c12 => ?_)
    · have h := ite_t c12 h
      exact hK102  _ _ _ _  hR hS (lv_sub hl [] rfl) h
    · have h := ite_f c12 h
      refine lv_aload_n hx hb dX6_carryUp_10 rfl (lv_at hl 0 rfl) ?_
      refine g_getr (t := 5) C hR (k := 3) (j := 5) (live_st (by decide)) rfl rfl (vw6) inl6 (by decide) q126 dX6_carryUp_11 ?_
      refine lv_iload_n hx hb dX6_carryUp_14 rfl (lv_at hl 2 rfl) ?_
      obtain ⟨g13, h⟩ := gd_e h
      refine g_iald C hR (k := 5) (n := 100) (live_st (by decide)) rfl g13 dX6_carryUp_15 ?_
      obtain ⟨x14, ex14, h⟩ := lt_e h
      refine g_nmi ex14 ?_
      refine lv_istore_n (lv' := [(3, .int x14), (0, .ref (α 3)), (1, .int v1), (2, .int v2)]) hx hb dX6_carryUp_16 rfl hl (by decide) rfl (fun ls hl => ?_)
      refine lv_aload_n hx hb dX6_carryUp_17 rfl (lv_at hl 1 rfl) ?_
      refine g_getr (t := 7) C hR (k := 3) (j := 8) (live_st (by decide)) rfl rfl (vw6) inl6 (by decide) q129 dX6_carryUp_18 ?_
      refine lv_iload_n hx hb dX6_carryUp_21 rfl (lv_at hl 2 rfl) ?_
      refine lv_iload_n hx hb dX6_carryUp_22 rfl (lv_at hl 0 rfl) ?_
      refine lv_iadd hx hb dX6_carryUp_23 ?_
      refine lv_aload_n hx hb dX6_carryUp_24 rfl (lv_at hl 1 rfl) ?_
      refine g_getr (t := 11) C hR (k := 3) (j := 12) (live_st (by decide)) rfl rfl (vw6) inl6 (by decide) q133 dX6_carryUp_25 ?_
      refine lv_iload_n hx hb dX6_carryUp_28 rfl (lv_at hl 0 rfl) ?_
      obtain ⟨g15, h⟩ := gd_e h
      refine g_iald C hR (k := 11) (n := 100) (live_st (by decide)) rfl g15 dX6_carryUp_29 ?_
      obtain ⟨g17, h⟩ := gd_e h
      obtain ⟨S16, eS16, h⟩ := lt_e h
      refine g_iast C hR hS (k := 7) (n := 1700) (live_st (by decide)) rfl g17 eS16 dX6_carryUp_30 (fun H locs hR hS => ?_)
      refine lv_aload_n hx hb dX6_carryUp_31 rfl (lv_at hl 1 rfl) ?_
      refine g_getr (t := 8) C hR (k := 3) (j := 9) (live_st (by decide)) rfl rfl (vw6) inl6 (by decide) q130 dX6_carryUp_32 ?_
      refine lv_iload_n hx hb dX6_carryUp_35 rfl (lv_at hl 2 rfl) ?_
      refine lv_iload_n hx hb dX6_carryUp_36 rfl (lv_at hl 0 rfl) ?_
      refine lv_iadd hx hb dX6_carryUp_37 ?_
      refine lv_aload_n hx hb dX6_carryUp_38 rfl (lv_at hl 1 rfl) ?_
      refine g_getr (t := 12) C hR (k := 3) (j := 13) (live_st (by decide)) rfl rfl (vw6) inl6 (by decide) q134 dX6_carryUp_39 ?_
      refine lv_iload_n hx hb dX6_carryUp_42 rfl (lv_at hl 0 rfl) ?_
      obtain ⟨g18, h⟩ := gd_e h
      refine g_iald C hR (k := 12) (n := 100) (live_st (by decide)) rfl g18 dX6_carryUp_43 ?_
      obtain ⟨g20, h⟩ := gd_e h
      obtain ⟨S19, eS19, h⟩ := lt_e h
      refine g_iast C hR hS (k := 8) (n := 1700) (live_st (by decide)) rfl g20 eS19 dX6_carryUp_44 (fun H locs hR hS => ?_)
      refine lv_iload_n hx hb dX6_carryUp_45 rfl (lv_at hl 3 rfl) ?_
      obtain ⟨J96, eJ96, h⟩ := lt_e h
      have hJ96 : ∀ (S21 : St) (H : Heap) (locs : List Loc) (ls : Array Slot), Rp E α g S21 H → va_S E.2.2.1 s.heap H locs → lv_has ls 5 [(0, .ref (α 3)), (1, .int v1), (2, .int v2)] → J96  S21 = some z → W p l e rm_X6_carryUp s m args below meth c H locs 0 0 (MQ below (Qv E α g z) args s 0 0 E.2.2.1) (F0 m 96 ls []) := by
        intro  S21 H locs ls  hR hS hl h
        rw [eJ96] at h
        obtain ⟨x22, ex22, h⟩ := lt_e h
        refine lv_iinc (v := x22) (lv' := [(2, .int x22), (0, .ref (α 3)), (1, .int v1)]) hx hb dX6_carryUp_96 hl (k := 2) rfl (by rw [ex22]; rfl) (by decide) rfl (fun ls hl => ?_)
        refine lv_goto (tgt := 2) hx hb dX6_carryUp_99 (by decide) ?_
        exact ih _ _ _ _ _  hR hS (lv_sub hl [1, 2, 0] rfl) h
      clear eJ96
      refine lv_if_le (tgt := 96) hx hb dX6_carryUp_46 (by decide) (fun c23 => ?_) (fun c23 => ?_)
      · have h := ite_t c23 h
        exact hJ96  _ _ _ _  hR hS (lv_sub hl [1, 2, 3] rfl) h
      · have h := ite_f c23 h
        refine lv_aload_n hx hb dX6_carryUp_49 rfl (lv_at hl 1 rfl) ?_
        refine g_getr (t := 5) C hR (k := 3) (j := 5) (live_st (by decide)) rfl rfl (vw6) inl6 (by decide) q126 dX6_carryUp_50 ?_
        refine lv_iload_n hx hb dX6_carryUp_53 rfl (lv_at hl 3 rfl) ?_
        refine lv_iconst (v := 1) hx hb dX6_carryUp_54 (by decide) ?_
        refine lv_isub hx hb dX6_carryUp_55 ?_
        obtain ⟨g24, h⟩ := gd_e h
        refine g_iald C hR (k := 5) (n := 100) (live_st (by decide)) rfl g24 dX6_carryUp_56 ?_
        obtain ⟨x25, ex25, h⟩ := lt_e h
        refine g_nmi ex25 ?_
        refine lv_istore (lv' := [(4, .int x25), (3, .int x14), (0, .ref (α 3)), (1, .int v1), (2, .int v2)]) hx hb dX6_carryUp_57 hl (by decide) rfl (fun ls hl => ?_)
        refine lv_aload_n hx hb dX6_carryUp_59 rfl (lv_at hl 2 rfl) ?_
        refine g_getr (t := 7) C hR (k := 3) (j := 8) (live_st (by decide)) rfl rfl (vw6) inl6 (by decide) q129 dX6_carryUp_60 ?_
        refine lv_aload_n hx hb dX6_carryUp_63 rfl (lv_at hl 2 rfl) ?_
        refine g_getr (t := 8) C hR (k := 3) (j := 9) (live_st (by decide)) rfl rfl (vw6) inl6 (by decide) q130 dX6_carryUp_64 ?_
        refine lv_iload_n hx hb dX6_carryUp_67 rfl (lv_at hl 3 rfl) ?_
        refine lv_iload_n hx hb dX6_carryUp_68 rfl (lv_at hl 1 rfl) ?_
        refine lv_iadd hx hb dX6_carryUp_69 ?_
        refine lv_aload_n hx hb dX6_carryUp_70 rfl (lv_at hl 2 rfl) ?_
        refine g_getr (t := 7) C hR (k := 3) (j := 8) (live_st (by decide)) rfl rfl (vw6) inl6 (by decide) q129 dX6_carryUp_71 ?_
        refine lv_iload_n hx hb dX6_carryUp_74 rfl (lv_at hl 3 rfl) ?_
        refine lv_iload hx hb dX6_carryUp_75 (lv_at hl 0 rfl) ?_
        refine lv_iadd hx hb dX6_carryUp_77 ?_
        obtain ⟨g26, h⟩ := gd_e h
        refine g_iald C hR (k := 7) (n := 1700) (live_st (by decide)) rfl g26 dX6_carryUp_78 ?_
        refine lv_iload_n hx hb dX6_carryUp_79 rfl (lv_at hl 1 rfl) ?_
        refine lv_iadd hx hb dX6_carryUp_80 ?_
        refine lv_iload hx hb dX6_carryUp_81 (lv_at hl 0 rfl) ?_
        refine lv_isub hx hb dX6_carryUp_83 ?_
        refine lv_aload_n hx hb dX6_carryUp_84 rfl (lv_at hl 2 rfl) ?_
        refine g_getr (t := 8) C hR (k := 3) (j := 9) (live_st (by decide)) rfl rfl (vw6) inl6 (by decide) q130 dX6_carryUp_85 ?_
        refine lv_iload_n hx hb dX6_carryUp_88 rfl (lv_at hl 3 rfl) ?_
        refine lv_iload hx hb dX6_carryUp_89 (lv_at hl 0 rfl) ?_
        refine lv_iadd hx hb dX6_carryUp_91 ?_
        obtain ⟨g27, h⟩ := gd_e h
        refine g_iald C hR (k := 8) (n := 1700) (live_st (by decide)) rfl g27 dX6_carryUp_92 ?_
        obtain ⟨r28, S29, hr28, h⟩ := bd_e h
        refine g_cv hS (g_runS C hR hS (As := [.ref (α 7), .ref (α 8), .int (v1 + x14), .int (((rd S19 7 (Int32.toNatClampNeg (v1 + x25))) + x14) - x25), .int (rd S19 8 (Int32.toNatClampNeg (v1 + x25)))]) (rest := []) (c_X6_offer l ⟨by decide, rfl⟩ ⟨by decide, rfl⟩ hr28) m_X6_offer q486 ⟨rfl, rfl⟩ ⟨Nat.le_of_ble_eq_true rfl, Nat.le_of_ble_eq_true rfl⟩ rfl hl.1 rfl (Nat.le_of_ble_eq_true rfl) dX6_carryUp_93 ⟨Nat.zero_le _, Nat.zero_le _⟩) (fun H locs hR hS => ?_)
        exact hJ96  _ _ _ _  hR hS (lv_sub hl [2, 3, 4] rfl) h

set_option maxHeartbeats 4000000 in
set_option maxRecDepth 100000 in
theorem c_X6_carryUp (l : Launch) {E : En} {α : Nat → Nat} {g : Nat × Nat} {v1 : Int32} {S : St}  {z : Unit × St} (h : f_X6_carryUp v1 S = some z) : Met l yX6_carryUp (wsY yX6_carryUp cX6_carryUp 5 none) rm_X6_carryUp (va_Pc [.ref (α 3), .int v1] (Wd E α g S)) (Qv E α g z) 0 0 E.2.2.1 := by
  refine g_met [.ref (α 3), .int v1] (by decide) rfl (Nat.le_of_ble_eq_true rfl) ?_
  intro p e s m below meth c ls C hR hl
  generalize hae : ([.ref (α 3), .int v1] : List Value).toArray = args at C ⊢
  have hl : lv_has ls 5 [(0, .ref (α 3)), (1, .int v1)] := hl
  obtain ⟨hx, hb, hml, hown, hts, hlk, hrt, hKs⟩ := id C
  have hS : va_S E.2.2.1 s.heap s.heap [] := va_S.rf
  unfold f_X6_carryUp at h
  refine lv_iconst (v := 0) hx hb dX6_carryUp_0 (by decide) ?_
  refine lv_istore_n (lv' := [(2, .int (0 : Int32)), (0, .ref (α 3)), (1, .int v1)]) hx hb dX6_carryUp_1 rfl hl (by decide) rfl (fun ls hl => ?_)
  refine w_X6_carryUp_L2 C ?_  _ _ _ _ _ _  hR hS (lv_sub hl [1, 2, 0] rfl) h
  · intro  S30 H locs ls  hR hS hl h
    exact g_vret C hR hS h dX6_carryUp_102

/-! OneVoice$Sayer.carryDown(I)V -/
abbrev rm_X6_carryDown : Room := { frames := 1, cells := 0, slots := 0, locals := 24 }
theorem m_X6_carryDown : MV yX6_carryDown RX6 cX6_carryDown 6 none 1 := ⟨q500, q4, q70, q501, by decide +kernel⟩
def f_X6_carryDown_L7 (K92 : St → Option (Unit × St)) (v1 : Int32) : Nat → Int32 → St → Option (Unit × St)
  | 0, _, _ => none
  | f + 1, v2, S =>
    if v2 < 0 then
      K92  S
    else
      gd_ (inb v2 100) <|
      lt_ (rd S 5 (Int32.toNatClampNeg v2)) fun x14 =>
      gd_ (inb (v2 + (1 : Int32)) 100) <|
      lt_ (rd S 5 (Int32.toNatClampNeg (v2 + (1 : Int32)))) fun x16 =>
      gd_ (inb x16 100) <|
      lt_ (((rd S 11 (Int32.toNatClampNeg x16)) + x16) - x14) fun x18 =>
      gd_ (inb x16 100) <|
      bd_ (f_X6_offer 7 8 (v1 + x14) x18 (rd S 12 (Int32.toNatClampNeg x16)) S) fun r20 S21 =>
      gd_ (inb x16 100) <|
      bd_ (f_X6_offer 11 12 x14 x18 (rd S21 12 (Int32.toNatClampNeg x16)) S21) fun r23 S24 =>
      lt_ (v2 + (-1 : Int32)) fun x25 =>
      f_X6_carryDown_L7 K92 v1 f x25 S24

def f_X6_carryDown (v1 : Int32) (S : St) : Option (Unit × St) :=
  lt_ ((rd S 3 6) - (2 : Int32)) fun x11 =>
  f_X6_carryDown_L7
    (fun  (S26 : St) =>
      some ((), S26))
    v1 FU x11 S

set_option maxHeartbeats 4000000 in
set_option maxRecDepth 100000 in
theorem w_X6_carryDown_L7 {p : Program} {l : Launch} {e : Env} {s : State} {m : MethodId} {args : Array Value} {below : List Frame} {meth : Method} {c : Code} {E : En} {α : Nat → Nat} {g : Nat × Nat} (C : Cx p s m args meth c RX6 cX6_carryDown 6 none E) {z : Unit × St} {K92 : St → Option (Unit × St)} {v1 : Int32}
    (hK92 : ∀ (S : St) (H : Heap) (locs : List Loc) (ls : Array Slot), Rp E α g S H → va_S E.2.2.1 s.heap H locs → lv_has ls 6 [] → K92  S = some z → W p l e rm_X6_carryDown s m args below meth c H locs 0 0 (MQ below (Qv E α g z) args s 0 0 E.2.2.1) (F0 m 92 ls [])) :
    ∀ (f : Nat) (v2 : Int32) (S : St) (H : Heap) (locs : List Loc) (ls : Array Slot), Rp E α g S H → va_S E.2.2.1 s.heap H locs → lv_has ls 6 [(0, .ref (α 3)), (1, .int v1), (2, .int v2)] → f_X6_carryDown_L7 K92 v1 f v2 S = some z → W p l e rm_X6_carryDown s m args below meth c H locs 0 0 (MQ below (Qv E α g z) args s 0 0 E.2.2.1) (F0 m 7 ls []) := by
  obtain ⟨hx, hb, hml, hown, hts, hlk, hrt, hKs⟩ := id C
  intro f
  induction f with
  | zero =>
    intro v2 S H locs ls  hR hS hl h
    rw [f_X6_carryDown_L7] at h
    cases h
  | succ f ih =>
    intro v2 S H locs ls  hR hS hl h
    rw [f_X6_carryDown_L7] at h
    refine lv_iload_n hx hb dX6_carryDown_7 rfl (lv_at hl 2 rfl) ?_
    refine lv_if_lt (tgt := 92) hx hb dX6_carryDown_8 (by decide) (fun c12 => ?_) (fun c12 => ?_)
    · have h := ite_t c12 h
      exact hK92  _ _ _ _  hR hS (lv_sub hl [] rfl) h
    · have h := ite_f c12 h
      refine lv_aload_n hx hb dX6_carryDown_11 rfl (lv_at hl 0 rfl) ?_
      refine g_getr (t := 5) C hR (k := 3) (j := 5) (live_st (by decide)) rfl rfl (vw6) inl6 (by decide) q126 dX6_carryDown_12 ?_
      refine lv_iload_n hx hb dX6_carryDown_15 rfl (lv_at hl 2 rfl) ?_
      obtain ⟨g13, h⟩ := gd_e h
      refine g_iald C hR (k := 5) (n := 100) (live_st (by decide)) rfl g13 dX6_carryDown_16 ?_
      obtain ⟨x14, ex14, h⟩ := lt_e h
      refine g_nmi ex14 ?_
      refine lv_istore_n (lv' := [(3, .int x14), (0, .ref (α 3)), (1, .int v1), (2, .int v2)]) hx hb dX6_carryDown_17 rfl hl (by decide) rfl (fun ls hl => ?_)
      refine lv_aload_n hx hb dX6_carryDown_18 rfl (lv_at hl 1 rfl) ?_
      refine g_getr (t := 5) C hR (k := 3) (j := 5) (live_st (by decide)) rfl rfl (vw6) inl6 (by decide) q126 dX6_carryDown_19 ?_
      refine lv_iload_n hx hb dX6_carryDown_22 rfl (lv_at hl 3 rfl) ?_
      refine lv_iconst (v := 1) hx hb dX6_carryDown_23 (by decide) ?_
      refine lv_iadd hx hb dX6_carryDown_24 ?_
      obtain ⟨g15, h⟩ := gd_e h
      refine g_iald C hR (k := 5) (n := 100) (live_st (by decide)) rfl g15 dX6_carryDown_25 ?_
      obtain ⟨x16, ex16, h⟩ := lt_e h
      refine g_nmi ex16 ?_
      refine lv_istore (lv' := [(4, .int x16), (3, .int x14), (0, .ref (α 3)), (1, .int v1), (2, .int v2)]) hx hb dX6_carryDown_26 hl (by decide) rfl (fun ls hl => ?_)
      refine lv_aload_n hx hb dX6_carryDown_28 rfl (lv_at hl 2 rfl) ?_
      refine g_getr (t := 11) C hR (k := 3) (j := 12) (live_st (by decide)) rfl rfl (vw6) inl6 (by decide) q133 dX6_carryDown_29 ?_
      refine lv_iload hx hb dX6_carryDown_32 (lv_at hl 0 rfl) ?_
      obtain ⟨g17, h⟩ := gd_e h
      refine g_iald C hR (k := 11) (n := 100) (live_st (by decide)) rfl g17 dX6_carryDown_34 ?_
      refine lv_iload hx hb dX6_carryDown_35 (lv_at hl 0 rfl) ?_
      refine lv_iadd hx hb dX6_carryDown_37 ?_
      refine lv_iload_n hx hb dX6_carryDown_38 rfl (lv_at hl 1 rfl) ?_
      refine lv_isub hx hb dX6_carryDown_39 ?_
      obtain ⟨x18, ex18, h⟩ := lt_e h
      refine g_nmi ex18 ?_
      refine lv_istore (lv' := [(5, .int x18), (4, .int x16), (3, .int x14), (0, .ref (α 3)), (1, .int v1), (2, .int v2)]) hx hb dX6_carryDown_40 hl (by decide) rfl (fun ls hl => ?_)
      refine lv_aload_n hx hb dX6_carryDown_42 rfl (lv_at hl 3 rfl) ?_
      refine g_getr (t := 7) C hR (k := 3) (j := 8) (live_st (by decide)) rfl rfl (vw6) inl6 (by decide) q129 dX6_carryDown_43 ?_
      refine lv_aload_n hx hb dX6_carryDown_46 rfl (lv_at hl 3 rfl) ?_
      refine g_getr (t := 8) C hR (k := 3) (j := 9) (live_st (by decide)) rfl rfl (vw6) inl6 (by decide) q130 dX6_carryDown_47 ?_
      refine lv_iload_n hx hb dX6_carryDown_50 rfl (lv_at hl 4 rfl) ?_
      refine lv_iload_n hx hb dX6_carryDown_51 rfl (lv_at hl 2 rfl) ?_
      refine lv_iadd hx hb dX6_carryDown_52 ?_
      refine lv_iload hx hb dX6_carryDown_53 (lv_at hl 0 rfl) ?_
      refine lv_aload_n hx hb dX6_carryDown_55 rfl (lv_at hl 3 rfl) ?_
      refine g_getr (t := 12) C hR (k := 3) (j := 13) (live_st (by decide)) rfl rfl (vw6) inl6 (by decide) q134 dX6_carryDown_56 ?_
      refine lv_iload hx hb dX6_carryDown_59 (lv_at hl 1 rfl) ?_
      obtain ⟨g19, h⟩ := gd_e h
      refine g_iald C hR (k := 12) (n := 100) (live_st (by decide)) rfl g19 dX6_carryDown_61 ?_
      obtain ⟨r20, S21, hr20, h⟩ := bd_e h
      refine g_cv hS (g_runS C hR hS (As := [.ref (α 7), .ref (α 8), .int (v1 + x14), .int x18, .int (rd S 12 (Int32.toNatClampNeg x16))]) (rest := []) (c_X6_offer l ⟨by decide, rfl⟩ ⟨by decide, rfl⟩ hr20) m_X6_offer q486 ⟨rfl, rfl⟩ ⟨Nat.le_of_ble_eq_true rfl, Nat.le_of_ble_eq_true rfl⟩ rfl hl.1 rfl (Nat.le_of_ble_eq_true rfl) dX6_carryDown_62 ⟨Nat.zero_le _, Nat.zero_le _⟩) (fun H locs hR hS => ?_)
      refine lv_aload_n hx hb dX6_carryDown_65 rfl (lv_at hl 3 rfl) ?_
      refine g_getr (t := 11) C hR (k := 3) (j := 12) (live_st (by decide)) rfl rfl (vw6) inl6 (by decide) q133 dX6_carryDown_66 ?_
      refine lv_aload_n hx hb dX6_carryDown_69 rfl (lv_at hl 3 rfl) ?_
      refine g_getr (t := 12) C hR (k := 3) (j := 13) (live_st (by decide)) rfl rfl (vw6) inl6 (by decide) q134 dX6_carryDown_70 ?_
      refine lv_iload_n hx hb dX6_carryDown_73 rfl (lv_at hl 2 rfl) ?_
      refine lv_iload hx hb dX6_carryDown_74 (lv_at hl 0 rfl) ?_
      refine lv_aload_n hx hb dX6_carryDown_76 rfl (lv_at hl 3 rfl) ?_
      refine g_getr (t := 12) C hR (k := 3) (j := 13) (live_st (by decide)) rfl rfl (vw6) inl6 (by decide) q134 dX6_carryDown_77 ?_
      refine lv_iload hx hb dX6_carryDown_80 (lv_at hl 1 rfl) ?_
      obtain ⟨g22, h⟩ := gd_e h
      refine g_iald C hR (k := 12) (n := 100) (live_st (by decide)) rfl g22 dX6_carryDown_82 ?_
      obtain ⟨r23, S24, hr23, h⟩ := bd_e h
      refine g_cv hS (g_runS C hR hS (As := [.ref (α 11), .ref (α 12), .int x14, .int x18, .int (rd S21 12 (Int32.toNatClampNeg x16))]) (rest := []) (c_X6_offer l ⟨by decide, rfl⟩ ⟨by decide, rfl⟩ hr23) m_X6_offer q486 ⟨rfl, rfl⟩ ⟨Nat.le_of_ble_eq_true rfl, Nat.le_of_ble_eq_true rfl⟩ rfl hl.1 rfl (Nat.le_of_ble_eq_true rfl) dX6_carryDown_83 ⟨Nat.zero_le _, Nat.zero_le _⟩) (fun H locs hR hS => ?_)
      obtain ⟨x25, ex25, h⟩ := lt_e h
      refine lv_iinc (v := x25) (lv' := [(2, .int x25), (5, .int x18), (4, .int x16), (3, .int x14), (0, .ref (α 3)), (1, .int v1)]) hx hb dX6_carryDown_86 hl (k := 5) rfl (by rw [ex25]; rfl) (by decide) rfl (fun ls hl => ?_)
      refine lv_goto (tgt := 7) hx hb dX6_carryDown_89 (by decide) ?_
      exact ih _ _ _ _ _  hR hS (lv_sub hl [4, 5, 0] rfl) h

set_option maxHeartbeats 4000000 in
set_option maxRecDepth 100000 in
theorem c_X6_carryDown (l : Launch) {E : En} {α : Nat → Nat} {g : Nat × Nat} {v1 : Int32} {S : St}  {z : Unit × St} (h : f_X6_carryDown v1 S = some z) : Met l yX6_carryDown (wsY yX6_carryDown cX6_carryDown 6 none) rm_X6_carryDown (va_Pc [.ref (α 3), .int v1] (Wd E α g S)) (Qv E α g z) 0 0 E.2.2.1 := by
  refine g_met [.ref (α 3), .int v1] (by decide) rfl (Nat.le_of_ble_eq_true rfl) ?_
  intro p e s m below meth c ls C hR hl
  generalize hae : ([.ref (α 3), .int v1] : List Value).toArray = args at C ⊢
  have hl : lv_has ls 6 [(0, .ref (α 3)), (1, .int v1)] := hl
  obtain ⟨hx, hb, hml, hown, hts, hlk, hrt, hKs⟩ := id C
  have hS : va_S E.2.2.1 s.heap s.heap [] := va_S.rf
  unfold f_X6_carryDown at h
  refine lv_aload_n hx hb dX6_carryDown_0 rfl (lv_at hl 0 rfl) ?_
  refine g_geti C hR (k := 3) (j := 6) (live_st (by decide)) rfl rfl (vw6) inl6 (by decide) q127 dX6_carryDown_1 ?_
  refine lv_iconst (v := 2) hx hb dX6_carryDown_4 (by decide) ?_
  refine lv_isub hx hb dX6_carryDown_5 ?_
  obtain ⟨x11, ex11, h⟩ := lt_e h
  refine g_nmi ex11 ?_
  refine lv_istore_n (lv' := [(2, .int x11), (0, .ref (α 3)), (1, .int v1)]) hx hb dX6_carryDown_6 rfl hl (by decide) rfl (fun ls hl => ?_)
  refine w_X6_carryDown_L7 C ?_  _ _ _ _ _ _  hR hS (lv_sub hl [1, 2, 0] rfl) h
  · intro  S26 H locs ls  hR hS hl h
    exact g_vret C hR hS h dX6_carryDown_92
