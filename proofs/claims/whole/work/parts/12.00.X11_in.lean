/-! OneVoiceModel.in(III)Z -/
abbrev rm_X11_in : Room := { frames := 0, cells := 0, slots := 0, locals := 0 }
theorem m_X11_in : MS yX11_in cX11_in 3 (some .boolean) 3 := ⟨q1094, q77, q1095, by decide +kernel⟩
def f_X11_in (v0 : Int32) (v1 : Int32) (v2 : Int32) (S : St) : Option (Int32 × St) :=
  lt_ (fun  (S1 : St) =>
      some ((0 : Int32), S1)) fun J14 =>
  if v0 < v1 then
    J14  S
  else
    if v2 < v0 then
      J14  S
    else
      some ((1 : Int32), S)

set_option maxHeartbeats 4000000 in
set_option maxRecDepth 100000 in
theorem c_X11_in (l : Launch) {E : En} {α : Nat → Nat} {g : Nat × Nat} {v0 : Int32} {v1 : Int32} {v2 : Int32} {S : St}  {z : Int32 × St} (h : f_X11_in v0 v1 v2 S = some z) : Met l yX11_in (wsY yX11_in cX11_in 3 (some .boolean)) rm_X11_in (va_Pc [.int v0, .int v1, .int v2] (Wd E α g S)) (Qi E α g z) 0 0 E.2.2.1 := by
  refine g_met [.int v0, .int v1, .int v2] (by decide) rfl (Nat.le_of_ble_eq_true rfl) ?_
  intro p e s m below meth c ls C hR hl
  generalize hae : ([.int v0, .int v1, .int v2] : List Value).toArray = args at C ⊢
  have hl : lv_has ls 3 [(0, .int v0), (1, .int v1), (2, .int v2)] := hl
  obtain ⟨hx, hb, hml, hown, hts, hlk, hrt, hKs⟩ := id C
  have hS : va_S E.2.2.1 s.heap s.heap [] := va_S.rf
  unfold f_X11_in at h
  refine lv_iload_n hx hb dX11_in_0 rfl (lv_at hl 0 rfl) ?_
  refine lv_iload_n hx hb dX11_in_1 rfl (lv_at hl 1 rfl) ?_
  obtain ⟨J14, eJ14, h⟩ := lt_e h
  have hJ14 : ∀ (S1 : St) (H : Heap) (locs : List Loc) (ls : Array Slot), Rp E α g S1 H → va_S E.2.2.1 s.heap H locs → lv_has ls 3 [] → J14  S1 = some z → W p l e rm_X11_in s m args below meth c H locs 0 0 (MQ below (Qi E α g z) args s 0 0 E.2.2.1) (F0 m 14 ls []) := by
    intro  S1 H locs ls  hR hS hl h
    rw [eJ14] at h
    refine lv_iconst (v := 0) hx hb dX11_in_14 (by decide) ?_
    exact g_zret C hR hS bz0 h dX11_in_15
  clear eJ14
  refine lv_icmp_lt (tgt := 14) hx hb dX11_in_2 (by decide) (fun c2 => ?_) (fun c2 => ?_)
  · have h := ite_t c2 h
    exact hJ14  _ _ _ _  hR hS (lv_sub hl [] rfl) h
  · have h := ite_f c2 h
    refine lv_iload_n hx hb dX11_in_5 rfl (lv_at hl 0 rfl) ?_
    refine lv_iload_n hx hb dX11_in_6 rfl (lv_at hl 2 rfl) ?_
    refine lv_icmp_gt (tgt := 14) hx hb dX11_in_7 (by decide) (fun c3 => ?_) (fun c3 => ?_)
    · have h := ite_t c3 h
      exact hJ14  _ _ _ _  hR hS (lv_sub hl [] rfl) h
    · have h := ite_f c3 h
      refine lv_iconst (v := 1) hx hb dX11_in_10 (by decide) ?_
      refine lv_goto (tgt := 15) hx hb dX11_in_11 (by decide) ?_
      exact g_zret C hR hS bz1 h dX11_in_15

/-! OneVoiceModel.apart(II)I -/
abbrev rm_X11_apart : Room := { frames := 0, cells := 0, slots := 0, locals := 0 }
theorem m_X11_apart : MS yX11_apart cX11_apart 2 (some .int) 2 := ⟨q1147, q77, q1148, by decide +kernel⟩
def f_X11_apart (v0 : Int32) (v1 : Int32) (S : St) : Option (Int32 × St) :=
  if v0 ≤ v1 then
    some ((v1 - v0), S)
  else
    some ((v0 - v1), S)

set_option maxHeartbeats 4000000 in
set_option maxRecDepth 100000 in
theorem c_X11_apart (l : Launch) {E : En} {α : Nat → Nat} {g : Nat × Nat} {v0 : Int32} {v1 : Int32} {S : St}  {z : Int32 × St} (h : f_X11_apart v0 v1 S = some z) : Met l yX11_apart (wsY yX11_apart cX11_apart 2 (some .int)) rm_X11_apart (va_Pc [.int v0, .int v1] (Wd E α g S)) (Qi E α g z) 0 0 E.2.2.1 := by
  refine g_met [.int v0, .int v1] (by decide) rfl (Nat.le_of_ble_eq_true rfl) ?_
  intro p e s m below meth c ls C hR hl
  generalize hae : ([.int v0, .int v1] : List Value).toArray = args at C ⊢
  have hl : lv_has ls 2 [(0, .int v0), (1, .int v1)] := hl
  obtain ⟨hx, hb, hml, hown, hts, hlk, hrt, hKs⟩ := id C
  have hS : va_S E.2.2.1 s.heap s.heap [] := va_S.rf
  unfold f_X11_apart at h
  refine lv_iload_n hx hb dX11_apart_0 rfl (lv_at hl 0 rfl) ?_
  refine lv_iload_n hx hb dX11_apart_1 rfl (lv_at hl 1 rfl) ?_
  refine lv_icmp_le (tgt := 11) hx hb dX11_apart_2 (by decide) (fun c1 => ?_) (fun c1 => ?_)
  · have h := ite_t c1 h
    refine lv_iload_n hx hb dX11_apart_11 rfl (lv_at hl 1 rfl) ?_
    refine lv_iload_n hx hb dX11_apart_12 rfl (lv_at hl 0 rfl) ?_
    refine lv_isub hx hb dX11_apart_13 ?_
    exact g_iret C hR hS h dX11_apart_14
  · have h := ite_f c1 h
    refine lv_iload_n hx hb dX11_apart_5 rfl (lv_at hl 0 rfl) ?_
    refine lv_iload_n hx hb dX11_apart_6 rfl (lv_at hl 1 rfl) ?_
    refine lv_isub hx hb dX11_apart_7 ?_
    refine lv_goto (tgt := 14) hx hb dX11_apart_8 (by decide) ?_
    exact g_iret C hR hS h dX11_apart_14

/-! OneVoiceModel.piece(IIIII)I -/
abbrev rm_X11_piece : Room := { frames := 1, cells := 0, slots := 0, locals := 22 }
theorem m_X11_piece : MV yX11_piece RX11 cX11_piece 7 (some .int) 5 := ⟨q1090, q1091, q77, q1092, by decide +kernel⟩
def f_X11_piece_L59 (K95 : St → Option (Int32 × St)) (v1 : Int32) (v2 : Int32) (v3 : Int32) (v4 : Int32) (v5 : Int32) : Nat → Int32 → St → Option (Int32 × St)
  | 0, _, _ => none
  | f + 1, v6, S =>
    if v2 ≤ v6 then
      K95  S
    else
      gd_ (inb (((8 : Int32) * (rd S 54 0)) + v6) 128) <|
      lt_ (wr S 55 (Int32.toNatClampNeg (((8 : Int32) * (rd S 54 0)) + v6)) ((v1 >>> (((4 : Int32) * v6) &&& 31)) &&& (15 : Int32))) fun S23 =>
      lt_ (v6 + (1 : Int32)) fun x25 =>
      f_X11_piece_L59 K95 v1 v2 v3 v4 v5 f x25 S23

def f_X11_piece (v1 : Int32) (v2 : Int32) (v3 : Int32) (v4 : Int32) (v5 : Int32) (S : St) : Option (Int32 × St) :=
  bd_ (f_X11_in v2 (1 : Int32) (8 : Int32) S) fun r9 S10 =>
  if r9 = 0 then
    some ((-3 : Int32), S10)
  else
    bd_ (f_X11_in v3 (0 : Int32) (99 : Int32) S10) fun r12 S13 =>
    if r12 = 0 then
      some ((-3 : Int32), S13)
    else
      bd_ (f_X11_in v4 (0 : Int32) (99 : Int32) S13) fun r15 S16 =>
      if r15 = 0 then
        some ((-3 : Int32), S16)
      else
        bd_ (f_X11_in v5 (0 : Int32) (3 : Int32) S16) fun r18 S19 =>
        if r18 = 0 then
          some ((-3 : Int32), S19)
        else
          if (rd S19 54 0) = (16 : Int32) then
            some ((-5 : Int32), S19)
          else
            f_X11_piece_L59
              (fun  (S26 : St) =>
                gd_ (inb (rd S26 54 0) 16) <|
                lt_ (wr S26 56 (Int32.toNatClampNeg (rd S26 54 0)) v2) fun S27 =>
                gd_ (inb (rd S27 54 0) 16) <|
                lt_ (wr S27 57 (Int32.toNatClampNeg (rd S27 54 0)) v3) fun S29 =>
                gd_ (inb (rd S29 54 0) 16) <|
                lt_ (wr S29 58 (Int32.toNatClampNeg (rd S29 54 0)) v4) fun S31 =>
                gd_ (inb (rd S31 54 0) 16) <|
                lt_ (wr S31 59 (Int32.toNatClampNeg (rd S31 54 0)) v5) fun S33 =>
                gd_ (inb (rd S33 54 0) 16) <|
                lt_ (wr S33 60 (Int32.toNatClampNeg (rd S33 54 0)) (0 : Int32)) fun S35 =>
                lt_ (wr S35 54 0 ((rd S35 54 0) + (1 : Int32))) fun S37 =>
                some (((rd S37 54 0) - (1 : Int32)), S37))
              v1 v2 v3 v4 v5 FU (0 : Int32) S19

set_option maxHeartbeats 4000000 in
set_option maxRecDepth 100000 in
theorem w_X11_piece_L59 {p : Program} {l : Launch} {e : Env} {s : State} {m : MethodId} {args : Array Value} {below : List Frame} {meth : Method} {c : Code} {E : En} {α : Nat → Nat} {g : Nat × Nat} (C : Cx p s m args meth c RX11 cX11_piece 7 (some .int) E) {z : Int32 × St} {K95 : St → Option (Int32 × St)} {v1 : Int32} {v2 : Int32} {v3 : Int32} {v4 : Int32} {v5 : Int32}
    (hK95 : ∀ (S : St) (H : Heap) (locs : List Loc) (ls : Array Slot), Rp E α g S H → va_S E.2.2.1 s.heap H locs → lv_has ls 7 [(0, .ref (α 54)), (2, .int v2), (3, .int v3), (4, .int v4), (5, .int v5)] → K95  S = some z → W p l e rm_X11_piece s m args below meth c H locs 0 0 (MQ below (Qi E α g z) args s 0 0 E.2.2.1) (F0 m 95 ls [])) :
    ∀ (f : Nat) (v6 : Int32) (S : St) (H : Heap) (locs : List Loc) (ls : Array Slot), Rp E α g S H → va_S E.2.2.1 s.heap H locs → lv_has ls 7 [(0, .ref (α 54)), (1, .int v1), (2, .int v2), (3, .int v3), (4, .int v4), (5, .int v5), (6, .int v6)] → f_X11_piece_L59 K95 v1 v2 v3 v4 v5 f v6 S = some z → W p l e rm_X11_piece s m args below meth c H locs 0 0 (MQ below (Qi E α g z) args s 0 0 E.2.2.1) (F0 m 59 ls []) := by
  obtain ⟨hx, hb, hml, hown, hts, hlk, hrt, hKs⟩ := id C
  intro f
  induction f with
  | zero =>
    intro v6 S H locs ls  hR hS hl h
    rw [f_X11_piece_L59] at h
    cases h
  | succ f ih =>
    intro v6 S H locs ls  hR hS hl h
    rw [f_X11_piece_L59] at h
    refine lv_iload hx hb dX11_piece_59 (lv_at hl 6 rfl) ?_
    refine lv_iload_n hx hb dX11_piece_61 rfl (lv_at hl 2 rfl) ?_
    refine lv_icmp_ge (tgt := 95) hx hb dX11_piece_62 (by decide) (fun c22 => ?_) (fun c22 => ?_)
    · have h := ite_t c22 h
      exact hK95  _ _ _ _  hR hS (lv_sub hl [0, 2, 3, 4, 5] rfl) h
    · have h := ite_f c22 h
      refine lv_aload_n hx hb dX11_piece_65 rfl (lv_at hl 0 rfl) ?_
      refine g_getr (t := 55) C hR (k := 54) (j := 1) (live_st (by decide)) rfl rfl (vw11) inl11 (by decide) q944 dX11_piece_66 ?_
      refine lv_bipush (v := 8) hx hb dX11_piece_69 (by decide) ?_
      refine lv_aload_n hx hb dX11_piece_71 rfl (lv_at hl 0 rfl) ?_
      refine g_geti C hR (k := 54) (j := 0) (live_st (by decide)) rfl rfl (vw11) inl11 (by decide) q943 dX11_piece_72 ?_
      refine lv_imul hx hb dX11_piece_75 ?_
      refine lv_iload hx hb dX11_piece_76 (lv_at hl 6 rfl) ?_
      refine lv_iadd hx hb dX11_piece_78 ?_
      refine lv_iload_n hx hb dX11_piece_79 rfl (lv_at hl 1 rfl) ?_
      refine lv_iconst (v := 4) hx hb dX11_piece_80 (by decide) ?_
      refine lv_iload hx hb dX11_piece_81 (lv_at hl 6 rfl) ?_
      refine lv_imul hx hb dX11_piece_83 ?_
      refine lv_ishr hx hb dX11_piece_84 ?_
      refine lv_bipush (v := 15) hx hb dX11_piece_85 (by decide) ?_
      refine lv_iand hx hb dX11_piece_87 ?_
      obtain ⟨g24, h⟩ := gd_e h
      obtain ⟨S23, eS23, h⟩ := lt_e h
      refine g_iast C hR hS (k := 55) (n := 128) (live_st (by decide)) rfl g24 eS23 dX11_piece_88 (fun H locs hR hS => ?_)
      obtain ⟨x25, ex25, h⟩ := lt_e h
      refine lv_iinc (v := x25) (lv' := [(6, .int x25), (0, .ref (α 54)), (1, .int v1), (2, .int v2), (3, .int v3), (4, .int v4), (5, .int v5)]) hx hb dX11_piece_89 hl (k := 6) rfl (by rw [ex25]; rfl) (by decide) rfl (fun ls hl => ?_)
      refine lv_goto (tgt := 59) hx hb dX11_piece_92 (by decide) ?_
      exact ih _ _ _ _ _  hR hS (lv_sub hl [1, 2, 3, 4, 5, 6, 0] rfl) h

set_option maxHeartbeats 4000000 in
set_option maxRecDepth 100000 in
theorem c_X11_piece (l : Launch) {E : En} {α : Nat → Nat} {g : Nat × Nat} {v1 : Int32} {v2 : Int32} {v3 : Int32} {v4 : Int32} {v5 : Int32} {S : St}  {z : Int32 × St} (h : f_X11_piece v1 v2 v3 v4 v5 S = some z) : Met l yX11_piece (wsY yX11_piece cX11_piece 7 (some .int)) rm_X11_piece (va_Pc [.ref (α 54), .int v1, .int v2, .int v3, .int v4, .int v5] (Wd E α g S)) (Qi E α g z) 0 0 E.2.2.1 := by
  refine g_met [.ref (α 54), .int v1, .int v2, .int v3, .int v4, .int v5] (by decide) rfl (Nat.le_of_ble_eq_true rfl) ?_
  intro p e s m below meth c ls C hR hl
  generalize hae : ([.ref (α 54), .int v1, .int v2, .int v3, .int v4, .int v5] : List Value).toArray = args at C ⊢
  have hl : lv_has ls 7 [(0, .ref (α 54)), (1, .int v1), (2, .int v2), (3, .int v3), (4, .int v4), (5, .int v5)] := hl
  obtain ⟨hx, hb, hml, hown, hts, hlk, hrt, hKs⟩ := id C
  have hS : va_S E.2.2.1 s.heap s.heap [] := va_S.rf
  unfold f_X11_piece at h
  refine lv_iload_n hx hb dX11_piece_0 rfl (lv_at hl 2 rfl) ?_
  refine lv_iconst (v := 1) hx hb dX11_piece_1 (by decide) ?_
  refine lv_bipush (v := 8) hx hb dX11_piece_2 (by decide) ?_
  obtain ⟨r9, S10, hr9, h⟩ := bd_e h
  refine g_ci hS (g_runS C hR hS (As := [.int v2, .int (1 : Int32), .int (8 : Int32)]) (rest := []) (c_X11_in l  hr9) m_X11_in q1093 ⟨rfl, rfl⟩ ⟨Nat.le_of_ble_eq_true rfl, Nat.le_of_ble_eq_true rfl⟩ rfl hl.1 rfl (Nat.le_of_ble_eq_true rfl) dX11_piece_4 ⟨Nat.zero_le _, Nat.zero_le _⟩) (fun H locs hR hS => ?_)
  refine lv_if_eq (tgt := 41) hx hb dX11_piece_7 (by decide) (fun c11 => ?_) (fun c11 => ?_)
  · have h := ite_t c11 h
    refine lv_bipush (v := -3) hx hb dX11_piece_41 (by decide) ?_
    exact g_iret C hR hS h dX11_piece_43
  · have h := ite_f c11 h
    refine lv_iload_n hx hb dX11_piece_10 rfl (lv_at hl 3 rfl) ?_
    refine lv_iconst (v := 0) hx hb dX11_piece_11 (by decide) ?_
    refine lv_bipush (v := 99) hx hb dX11_piece_12 (by decide) ?_
    obtain ⟨r12, S13, hr12, h⟩ := bd_e h
    refine g_ci hS (g_runS C hR hS (As := [.int v3, .int (0 : Int32), .int (99 : Int32)]) (rest := []) (c_X11_in l  hr12) m_X11_in q1093 ⟨rfl, rfl⟩ ⟨Nat.le_of_ble_eq_true rfl, Nat.le_of_ble_eq_true rfl⟩ rfl hl.1 rfl (Nat.le_of_ble_eq_true rfl) dX11_piece_14 ⟨Nat.zero_le _, Nat.zero_le _⟩) (fun H locs hR hS => ?_)
    refine lv_if_eq (tgt := 41) hx hb dX11_piece_17 (by decide) (fun c14 => ?_) (fun c14 => ?_)
    · have h := ite_t c14 h
      refine lv_bipush (v := -3) hx hb dX11_piece_41 (by decide) ?_
      exact g_iret C hR hS h dX11_piece_43
    · have h := ite_f c14 h
      refine lv_iload hx hb dX11_piece_20 (lv_at hl 4 rfl) ?_
      refine lv_iconst (v := 0) hx hb dX11_piece_22 (by decide) ?_
      refine lv_bipush (v := 99) hx hb dX11_piece_23 (by decide) ?_
      obtain ⟨r15, S16, hr15, h⟩ := bd_e h
      refine g_ci hS (g_runS C hR hS (As := [.int v4, .int (0 : Int32), .int (99 : Int32)]) (rest := []) (c_X11_in l  hr15) m_X11_in q1093 ⟨rfl, rfl⟩ ⟨Nat.le_of_ble_eq_true rfl, Nat.le_of_ble_eq_true rfl⟩ rfl hl.1 rfl (Nat.le_of_ble_eq_true rfl) dX11_piece_25 ⟨Nat.zero_le _, Nat.zero_le _⟩) (fun H locs hR hS => ?_)
      refine lv_if_eq (tgt := 41) hx hb dX11_piece_28 (by decide) (fun c17 => ?_) (fun c17 => ?_)
      · have h := ite_t c17 h
        refine lv_bipush (v := -3) hx hb dX11_piece_41 (by decide) ?_
        exact g_iret C hR hS h dX11_piece_43
      · have h := ite_f c17 h
        refine lv_iload hx hb dX11_piece_31 (lv_at hl 5 rfl) ?_
        refine lv_iconst (v := 0) hx hb dX11_piece_33 (by decide) ?_
        refine lv_iconst (v := 3) hx hb dX11_piece_34 (by decide) ?_
        obtain ⟨r18, S19, hr18, h⟩ := bd_e h
        refine g_ci hS (g_runS C hR hS (As := [.int v5, .int (0 : Int32), .int (3 : Int32)]) (rest := []) (c_X11_in l  hr18) m_X11_in q1093 ⟨rfl, rfl⟩ ⟨Nat.le_of_ble_eq_true rfl, Nat.le_of_ble_eq_true rfl⟩ rfl hl.1 rfl (Nat.le_of_ble_eq_true rfl) dX11_piece_35 ⟨Nat.zero_le _, Nat.zero_le _⟩) (fun H locs hR hS => ?_)
        refine lv_if_ne (tgt := 44) hx hb dX11_piece_38 (by decide) (fun c20 => ?_) (fun c20 => ?_)
        · have h := ite_f c20 h
          refine lv_aload_n hx hb dX11_piece_44 rfl (lv_at hl 0 rfl) ?_
          refine g_geti C hR (k := 54) (j := 0) (live_st (by decide)) rfl rfl (vw11) inl11 (by decide) q943 dX11_piece_45 ?_
          refine lv_bipush (v := 16) hx hb dX11_piece_48 (by decide) ?_
          refine lv_icmp_ne (tgt := 56) hx hb dX11_piece_50 (by decide) (fun c21 => ?_) (fun c21 => ?_)
          · have h := ite_f c21 h
            refine lv_iconst (v := 0) hx hb dX11_piece_56 (by decide) ?_
            refine lv_istore (lv' := [(6, .int (0 : Int32)), (0, .ref (α 54)), (1, .int v1), (2, .int v2), (3, .int v3), (4, .int v4), (5, .int v5)]) hx hb dX11_piece_57 hl (by decide) rfl (fun ls hl => ?_)
            refine w_X11_piece_L59 C ?_  _ _ _ _ _ _  hR hS (lv_sub hl [1, 2, 3, 4, 5, 6, 0] rfl) h
            · intro  S26 H locs ls  hR hS hl h
              refine lv_aload_n hx hb dX11_piece_95 rfl (lv_at hl 0 rfl) ?_
              refine g_getr (t := 56) C hR (k := 54) (j := 2) (live_st (by decide)) rfl rfl (vw11) inl11 (by decide) q945 dX11_piece_96 ?_
              refine lv_aload_n hx hb dX11_piece_99 rfl (lv_at hl 0 rfl) ?_
              refine g_geti C hR (k := 54) (j := 0) (live_st (by decide)) rfl rfl (vw11) inl11 (by decide) q943 dX11_piece_100 ?_
              refine lv_iload_n hx hb dX11_piece_103 rfl (lv_at hl 1 rfl) ?_
              obtain ⟨g28, h⟩ := gd_e h
              obtain ⟨S27, eS27, h⟩ := lt_e h
              refine g_iast C hR hS (k := 56) (n := 16) (live_st (by decide)) rfl g28 eS27 dX11_piece_104 (fun H locs hR hS => ?_)
              refine lv_aload_n hx hb dX11_piece_105 rfl (lv_at hl 0 rfl) ?_
              refine g_getr (t := 57) C hR (k := 54) (j := 3) (live_st (by decide)) rfl rfl (vw11) inl11 (by decide) q946 dX11_piece_106 ?_
              refine lv_aload_n hx hb dX11_piece_109 rfl (lv_at hl 0 rfl) ?_
              refine g_geti C hR (k := 54) (j := 0) (live_st (by decide)) rfl rfl (vw11) inl11 (by decide) q943 dX11_piece_110 ?_
              refine lv_iload_n hx hb dX11_piece_113 rfl (lv_at hl 2 rfl) ?_
              obtain ⟨g30, h⟩ := gd_e h
              obtain ⟨S29, eS29, h⟩ := lt_e h
              refine g_iast C hR hS (k := 57) (n := 16) (live_st (by decide)) rfl g30 eS29 dX11_piece_114 (fun H locs hR hS => ?_)
              refine lv_aload_n hx hb dX11_piece_115 rfl (lv_at hl 0 rfl) ?_
              refine g_getr (t := 58) C hR (k := 54) (j := 4) (live_st (by decide)) rfl rfl (vw11) inl11 (by decide) q947 dX11_piece_116 ?_
              refine lv_aload_n hx hb dX11_piece_119 rfl (lv_at hl 0 rfl) ?_
              refine g_geti C hR (k := 54) (j := 0) (live_st (by decide)) rfl rfl (vw11) inl11 (by decide) q943 dX11_piece_120 ?_
              refine lv_iload hx hb dX11_piece_123 (lv_at hl 3 rfl) ?_
              obtain ⟨g32, h⟩ := gd_e h
              obtain ⟨S31, eS31, h⟩ := lt_e h
              refine g_iast C hR hS (k := 58) (n := 16) (live_st (by decide)) rfl g32 eS31 dX11_piece_125 (fun H locs hR hS => ?_)
              refine lv_aload_n hx hb dX11_piece_126 rfl (lv_at hl 0 rfl) ?_
              refine g_getr (t := 59) C hR (k := 54) (j := 5) (live_st (by decide)) rfl rfl (vw11) inl11 (by decide) q948 dX11_piece_127 ?_
              refine lv_aload_n hx hb dX11_piece_130 rfl (lv_at hl 0 rfl) ?_
              refine g_geti C hR (k := 54) (j := 0) (live_st (by decide)) rfl rfl (vw11) inl11 (by decide) q943 dX11_piece_131 ?_
              refine lv_iload hx hb dX11_piece_134 (lv_at hl 4 rfl) ?_
              obtain ⟨g34, h⟩ := gd_e h
              obtain ⟨S33, eS33, h⟩ := lt_e h
              refine g_iast C hR hS (k := 59) (n := 16) (live_st (by decide)) rfl g34 eS33 dX11_piece_136 (fun H locs hR hS => ?_)
              refine lv_aload_n hx hb dX11_piece_137 rfl (lv_at hl 0 rfl) ?_
              refine g_getr (t := 60) C hR (k := 54) (j := 6) (live_st (by decide)) rfl rfl (vw11) inl11 (by decide) q949 dX11_piece_138 ?_
              refine lv_aload_n hx hb dX11_piece_141 rfl (lv_at hl 0 rfl) ?_
              refine g_geti C hR (k := 54) (j := 0) (live_st (by decide)) rfl rfl (vw11) inl11 (by decide) q943 dX11_piece_142 ?_
              refine lv_iconst (v := 0) hx hb dX11_piece_145 (by decide) ?_
              obtain ⟨g36, h⟩ := gd_e h
              obtain ⟨S35, eS35, h⟩ := lt_e h
              refine g_iast C hR hS (k := 60) (n := 16) (live_st (by decide)) rfl g36 eS35 dX11_piece_146 (fun H locs hR hS => ?_)
              refine lv_aload_n hx hb dX11_piece_147 rfl (lv_at hl 0 rfl) ?_
              refine lv_dup hx hb dX11_piece_148 rfl ?_
              refine g_geti C hR (k := 54) (j := 0) (live_st (by decide)) rfl rfl (vw11) inl11 (by decide) q943 dX11_piece_149 ?_
              refine lv_iconst (v := 1) hx hb dX11_piece_152 (by decide) ?_
              refine lv_iadd hx hb dX11_piece_153 ?_
              obtain ⟨S37, eS37, h⟩ := lt_e h
              refine g_puti C hR hS (k := 54) (j := 0) (live_st (by decide)) rfl rfl (vw11) inl11 (by decide) (ty0 := tyX11) tyX11_ok nmX11 q943 rfl rfl rfl eS37 dX11_piece_154 (fun H locs hR hS => ?_)
              refine lv_aload_n hx hb dX11_piece_157 rfl (lv_at hl 0 rfl) ?_
              refine g_geti C hR (k := 54) (j := 0) (live_st (by decide)) rfl rfl (vw11) inl11 (by decide) q943 dX11_piece_158 ?_
              refine lv_iconst (v := 1) hx hb dX11_piece_161 (by decide) ?_
              refine lv_isub hx hb dX11_piece_162 ?_
              exact g_iret C hR hS h dX11_piece_163
          · have h := ite_t c21 h
            refine lv_bipush (v := -5) hx hb dX11_piece_53 (by decide) ?_
            exact g_iret C hR hS h dX11_piece_55
        · have h := ite_t c20 h
          refine lv_bipush (v := -3) hx hb dX11_piece_41 (by decide) ?_
          exact g_iret C hR hS h dX11_piece_43

/-! OneVoiceModel.isPiece(I)Z -/
abbrev rm_X11_isPiece : Room := { frames := 1, cells := 0, slots := 0, locals := 22 }
theorem m_X11_isPiece : MV yX11_isPiece RX11 cX11_isPiece 2 (some .boolean) 1 := ⟨q1102, q32, q77, q1103, by decide +kernel⟩
def f_X11_isPiece (v1 : Int32) (S : St) : Option (Int32 × St) :=
  bd_ (f_X11_in v1 (0 : Int32) ((rd S 54 0) - (1 : Int32)) S) fun r1 S2 =>
  gd_ (bz r1) <| some (r1, S2)

set_option maxHeartbeats 4000000 in
set_option maxRecDepth 100000 in
theorem c_X11_isPiece (l : Launch) {E : En} {α : Nat → Nat} {g : Nat × Nat} {v1 : Int32} {S : St}  {z : Int32 × St} (h : f_X11_isPiece v1 S = some z) : Met l yX11_isPiece (wsY yX11_isPiece cX11_isPiece 2 (some .boolean)) rm_X11_isPiece (va_Pc [.ref (α 54), .int v1] (Wd E α g S)) (Qi E α g z) 0 0 E.2.2.1 := by
  refine g_met [.ref (α 54), .int v1] (by decide) rfl (Nat.le_of_ble_eq_true rfl) ?_
  intro p e s m below meth c ls C hR hl
  generalize hae : ([.ref (α 54), .int v1] : List Value).toArray = args at C ⊢
  have hl : lv_has ls 2 [(0, .ref (α 54)), (1, .int v1)] := hl
  obtain ⟨hx, hb, hml, hown, hts, hlk, hrt, hKs⟩ := id C
  have hS : va_S E.2.2.1 s.heap s.heap [] := va_S.rf
  unfold f_X11_isPiece at h
  refine lv_iload_n hx hb dX11_isPiece_0 rfl (lv_at hl 1 rfl) ?_
  refine lv_iconst (v := 0) hx hb dX11_isPiece_1 (by decide) ?_
  refine lv_aload_n hx hb dX11_isPiece_2 rfl (lv_at hl 0 rfl) ?_
  refine g_geti C hR (k := 54) (j := 0) (live_st (by decide)) rfl rfl (vw11) inl11 (by decide) q943 dX11_isPiece_3 ?_
  refine lv_iconst (v := 1) hx hb dX11_isPiece_6 (by decide) ?_
  refine lv_isub hx hb dX11_isPiece_7 ?_
  obtain ⟨r1, S2, hr1, h⟩ := bd_e h
  refine g_ci hS (g_runS C hR hS (As := [.int v1, .int (0 : Int32), .int ((rd S 54 0) - (1 : Int32))]) (rest := []) (c_X11_in l  hr1) m_X11_in q1093 ⟨rfl, rfl⟩ ⟨Nat.le_of_ble_eq_true rfl, Nat.le_of_ble_eq_true rfl⟩ rfl hl.1 rfl (Nat.le_of_ble_eq_true rfl) dX11_isPiece_8 ⟨Nat.zero_le _, Nat.zero_le _⟩) (fun H locs hR hS => ?_)
  obtain ⟨hz, h⟩ := gd_e h
  exact g_zret C hR hS hz h dX11_isPiece_11

/-! OneVoiceModel.worn(II)I -/
abbrev rm_X11_worn : Room := { frames := 2, cells := 0, slots := 0, locals := 43 }
theorem m_X11_worn : MV yX11_worn RX11 cX11_worn 4 (some .int) 2 := ⟨q1097, q1098, q77, q1099, by decide +kernel⟩
def f_X11_worn (v1 : Int32) (v2 : Int32) (S : St) : Option (Int32 × St) :=
  bd_ (f_X11_isPiece v1 S) fun r5 S6 =>
  if r5 = 0 then
    some ((-2 : Int32), S6)
  else
    gd_ (inb v1 16) <|
    bd_ (f_X11_in v2 (0 : Int32) (((1 : Int32) <<< ((rd S6 56 (Int32.toNatClampNeg v1)) &&& 31)) - (1 : Int32)) S6) fun r9 S10 =>
    if r9 = 0 then
      some ((-3 : Int32), S10)
    else
      gd_ (inb v1 16) <|
      lt_ (rd S10 60 (Int32.toNatClampNeg v1)) fun x13 =>
      gd_ (inb v1 16) <|
      lt_ (wr S10 60 (Int32.toNatClampNeg v1) v2) fun S14 =>
      some (x13, S14)

set_option maxHeartbeats 4000000 in
set_option maxRecDepth 100000 in
theorem c_X11_worn (l : Launch) {E : En} {α : Nat → Nat} {g : Nat × Nat} {v1 : Int32} {v2 : Int32} {S : St}  {z : Int32 × St} (h : f_X11_worn v1 v2 S = some z) : Met l yX11_worn (wsY yX11_worn cX11_worn 4 (some .int)) rm_X11_worn (va_Pc [.ref (α 54), .int v1, .int v2] (Wd E α g S)) (Qi E α g z) 0 0 E.2.2.1 := by
  refine g_met [.ref (α 54), .int v1, .int v2] (by decide) rfl (Nat.le_of_ble_eq_true rfl) ?_
  intro p e s m below meth c ls C hR hl
  generalize hae : ([.ref (α 54), .int v1, .int v2] : List Value).toArray = args at C ⊢
  have hl : lv_has ls 4 [(0, .ref (α 54)), (1, .int v1), (2, .int v2)] := hl
  obtain ⟨hx, hb, hml, hown, hts, hlk, hrt, hKs⟩ := id C
  have hS : va_S E.2.2.1 s.heap s.heap [] := va_S.rf
  unfold f_X11_worn at h
  refine lv_aload_n hx hb dX11_worn_0 rfl (lv_at hl 0 rfl) ?_
  refine lv_iload_n hx hb dX11_worn_1 rfl (lv_at hl 1 rfl) ?_
  obtain ⟨r5, S6, hr5, h⟩ := bd_e h
  refine g_ci hS (g_runV C hR hS (k := 54) (As := [.int v1]) (rest := []) (c_X11_isPiece l  hr5) (live_st (by decide)) rfl (vw11) m_X11_isPiece q1100 ⟨rfl, rfl⟩ ⟨Nat.le_of_ble_eq_true rfl, Nat.le_of_ble_eq_true rfl⟩ rfl hl.1 rfl (Nat.le_of_ble_eq_true rfl) dX11_worn_2 ⟨Nat.zero_le _, Nat.zero_le _⟩) (fun H locs hR hS => ?_)
  refine lv_if_ne (tgt := 11) hx hb dX11_worn_5 (by decide) (fun c7 => ?_) (fun c7 => ?_)
  · have h := ite_f c7 h
    refine lv_iload_n hx hb dX11_worn_11 rfl (lv_at hl 2 rfl) ?_
    refine lv_iconst (v := 0) hx hb dX11_worn_12 (by decide) ?_
    refine lv_iconst (v := 1) hx hb dX11_worn_13 (by decide) ?_
    refine lv_aload_n hx hb dX11_worn_14 rfl (lv_at hl 0 rfl) ?_
    refine g_getr (t := 56) C hR (k := 54) (j := 2) (live_st (by decide)) rfl rfl (vw11) inl11 (by decide) q945 dX11_worn_15 ?_
    refine lv_iload_n hx hb dX11_worn_18 rfl (lv_at hl 1 rfl) ?_
    obtain ⟨g8, h⟩ := gd_e h
    refine g_iald C hR (k := 56) (n := 16) (live_st (by decide)) rfl g8 dX11_worn_19 ?_
    refine lv_ishl hx hb dX11_worn_20 ?_
    refine lv_iconst (v := 1) hx hb dX11_worn_21 (by decide) ?_
    refine lv_isub hx hb dX11_worn_22 ?_
    obtain ⟨r9, S10, hr9, h⟩ := bd_e h
    refine g_ci hS (g_runS C hR hS (As := [.int v2, .int (0 : Int32), .int (((1 : Int32) <<< ((rd S6 56 (Int32.toNatClampNeg v1)) &&& 31)) - (1 : Int32))]) (rest := []) (c_X11_in l  hr9) m_X11_in q1093 ⟨rfl, rfl⟩ ⟨Nat.le_of_ble_eq_true rfl, Nat.le_of_ble_eq_true rfl⟩ rfl hl.1 rfl (Nat.le_of_ble_eq_true rfl) dX11_worn_23 ⟨Nat.zero_le _, Nat.zero_le _⟩) (fun H locs hR hS => ?_)
    refine lv_if_ne (tgt := 32) hx hb dX11_worn_26 (by decide) (fun c11 => ?_) (fun c11 => ?_)
    · have h := ite_f c11 h
      refine lv_aload_n hx hb dX11_worn_32 rfl (lv_at hl 0 rfl) ?_
      refine g_getr (t := 60) C hR (k := 54) (j := 6) (live_st (by decide)) rfl rfl (vw11) inl11 (by decide) q949 dX11_worn_33 ?_
      refine lv_iload_n hx hb dX11_worn_36 rfl (lv_at hl 1 rfl) ?_
      obtain ⟨g12, h⟩ := gd_e h
      refine g_iald C hR (k := 60) (n := 16) (live_st (by decide)) rfl g12 dX11_worn_37 ?_
      obtain ⟨x13, ex13, h⟩ := lt_e h
      refine g_nmi ex13 ?_
      refine lv_istore_n (lv' := [(3, .int x13), (0, .ref (α 54)), (1, .int v1), (2, .int v2)]) hx hb dX11_worn_38 rfl hl (by decide) rfl (fun ls hl => ?_)
      refine lv_aload_n hx hb dX11_worn_39 rfl (lv_at hl 1 rfl) ?_
      refine g_getr (t := 60) C hR (k := 54) (j := 6) (live_st (by decide)) rfl rfl (vw11) inl11 (by decide) q949 dX11_worn_40 ?_
      refine lv_iload_n hx hb dX11_worn_43 rfl (lv_at hl 2 rfl) ?_
      refine lv_iload_n hx hb dX11_worn_44 rfl (lv_at hl 3 rfl) ?_
      obtain ⟨g15, h⟩ := gd_e h
      obtain ⟨S14, eS14, h⟩ := lt_e h
      refine g_iast C hR hS (k := 60) (n := 16) (live_st (by decide)) rfl g15 eS14 dX11_worn_45 (fun H locs hR hS => ?_)
      refine lv_iload_n hx hb dX11_worn_46 rfl (lv_at hl 0 rfl) ?_
      exact g_iret C hR hS h dX11_worn_47
    · have h := ite_t c11 h
      refine lv_bipush (v := -3) hx hb dX11_worn_29 (by decide) ?_
      exact g_iret C hR hS h dX11_worn_31
  · have h := ite_t c7 h
    refine lv_bipush (v := -2) hx hb dX11_worn_8 (by decide) ?_
    exact g_iret C hR hS h dX11_worn_10

/-! OneVoiceModel.toneOf(II)I -/
abbrev rm_X11_toneOf : Room := { frames := 0, cells := 0, slots := 0, locals := 0 }
theorem m_X11_toneOf : MV yX11_toneOf RX11 cX11_toneOf 3 (some .int) 2 := ⟨q1110, q33, q77, q1111, by decide +kernel⟩
def f_X11_toneOf (v1 : Int32) (v2 : Int32) (S : St) : Option (Int32 × St) :=
  gd_ (inb v1 16) <|
  if (rd S 56 (Int32.toNatClampNeg v1)) = (1 : Int32) then
    gd_ (inb v1 16) <|
    some ((rd S 57 (Int32.toNatClampNeg v1)), S)
  else
    gd_ (inb v1 16) <|
    gd_ (inb v1 16) <|
    gd_ (inb v1 16) <|
    gd_ (inb v1 16) <|
    gd_ (¬ ((rd S 56 (Int32.toNatClampNeg v1)) - (1 : Int32)) = 0) <|
    some (((rd S 57 (Int32.toNatClampNeg v1)) + ((v2 * ((rd S 58 (Int32.toNatClampNeg v1)) - (rd S 57 (Int32.toNatClampNeg v1)))) / ((rd S 56 (Int32.toNatClampNeg v1)) - (1 : Int32)))), S)

set_option maxHeartbeats 4000000 in
set_option maxRecDepth 100000 in
theorem c_X11_toneOf (l : Launch) {E : En} {α : Nat → Nat} {g : Nat × Nat} {v1 : Int32} {v2 : Int32} {S : St}  {z : Int32 × St} (h : f_X11_toneOf v1 v2 S = some z) : Met l yX11_toneOf (wsY yX11_toneOf cX11_toneOf 3 (some .int)) rm_X11_toneOf (va_Pc [.ref (α 54), .int v1, .int v2] (Wd E α g S)) (Qi E α g z) 0 0 E.2.2.1 := by
  refine g_met [.ref (α 54), .int v1, .int v2] (by decide) rfl (Nat.le_of_ble_eq_true rfl) ?_
  intro p e s m below meth c ls C hR hl
  generalize hae : ([.ref (α 54), .int v1, .int v2] : List Value).toArray = args at C ⊢
  have hl : lv_has ls 3 [(0, .ref (α 54)), (1, .int v1), (2, .int v2)] := hl
  obtain ⟨hx, hb, hml, hown, hts, hlk, hrt, hKs⟩ := id C
  have hS : va_S E.2.2.1 s.heap s.heap [] := va_S.rf
  unfold f_X11_toneOf at h
  refine lv_aload_n hx hb dX11_toneOf_0 rfl (lv_at hl 0 rfl) ?_
  refine g_getr (t := 56) C hR (k := 54) (j := 2) (live_st (by decide)) rfl rfl (vw11) inl11 (by decide) q945 dX11_toneOf_1 ?_
  refine lv_iload_n hx hb dX11_toneOf_4 rfl (lv_at hl 1 rfl) ?_
  obtain ⟨g8, h⟩ := gd_e h
  refine g_iald C hR (k := 56) (n := 16) (live_st (by decide)) rfl g8 dX11_toneOf_5 ?_
  refine lv_iconst (v := 1) hx hb dX11_toneOf_6 (by decide) ?_
  refine lv_icmp_ne (tgt := 19) hx hb dX11_toneOf_7 (by decide) (fun c9 => ?_) (fun c9 => ?_)
  · have h := ite_f c9 h
    refine lv_aload_n hx hb dX11_toneOf_19 rfl (lv_at hl 0 rfl) ?_
    refine g_getr (t := 57) C hR (k := 54) (j := 3) (live_st (by decide)) rfl rfl (vw11) inl11 (by decide) q946 dX11_toneOf_20 ?_
    refine lv_iload_n hx hb dX11_toneOf_23 rfl (lv_at hl 1 rfl) ?_
    obtain ⟨g10, h⟩ := gd_e h
    refine g_iald C hR (k := 57) (n := 16) (live_st (by decide)) rfl g10 dX11_toneOf_24 ?_
    refine lv_iload_n hx hb dX11_toneOf_25 rfl (lv_at hl 2 rfl) ?_
    refine lv_aload_n hx hb dX11_toneOf_26 rfl (lv_at hl 0 rfl) ?_
    refine g_getr (t := 58) C hR (k := 54) (j := 4) (live_st (by decide)) rfl rfl (vw11) inl11 (by decide) q947 dX11_toneOf_27 ?_
    refine lv_iload_n hx hb dX11_toneOf_30 rfl (lv_at hl 1 rfl) ?_
    obtain ⟨g11, h⟩ := gd_e h
    refine g_iald C hR (k := 58) (n := 16) (live_st (by decide)) rfl g11 dX11_toneOf_31 ?_
    refine lv_aload_n hx hb dX11_toneOf_32 rfl (lv_at hl 0 rfl) ?_
    refine g_getr (t := 57) C hR (k := 54) (j := 3) (live_st (by decide)) rfl rfl (vw11) inl11 (by decide) q946 dX11_toneOf_33 ?_
    refine lv_iload_n hx hb dX11_toneOf_36 rfl (lv_at hl 1 rfl) ?_
    obtain ⟨g12, h⟩ := gd_e h
    refine g_iald C hR (k := 57) (n := 16) (live_st (by decide)) rfl g12 dX11_toneOf_37 ?_
    refine lv_isub hx hb dX11_toneOf_38 ?_
    refine lv_imul hx hb dX11_toneOf_39 ?_
    refine lv_aload_n hx hb dX11_toneOf_40 rfl (lv_at hl 0 rfl) ?_
    refine g_getr (t := 56) C hR (k := 54) (j := 2) (live_st (by decide)) rfl rfl (vw11) inl11 (by decide) q945 dX11_toneOf_41 ?_
    refine lv_iload_n hx hb dX11_toneOf_44 rfl (lv_at hl 1 rfl) ?_
    obtain ⟨g13, h⟩ := gd_e h
    refine g_iald C hR (k := 56) (n := 16) (live_st (by decide)) rfl g13 dX11_toneOf_45 ?_
    refine lv_iconst (v := 1) hx hb dX11_toneOf_46 (by decide) ?_
    refine lv_isub hx hb dX11_toneOf_47 ?_
    obtain ⟨g14, h⟩ := gd_e h
    refine lv_idiv hx hb dX11_toneOf_48 g14 ?_
    refine lv_iadd hx hb dX11_toneOf_49 ?_
    exact g_iret C hR hS h dX11_toneOf_50
  · have h := ite_t c9 h
    refine lv_aload_n hx hb dX11_toneOf_10 rfl (lv_at hl 0 rfl) ?_
    refine g_getr (t := 57) C hR (k := 54) (j := 3) (live_st (by decide)) rfl rfl (vw11) inl11 (by decide) q946 dX11_toneOf_11 ?_
    refine lv_iload_n hx hb dX11_toneOf_14 rfl (lv_at hl 1 rfl) ?_
    obtain ⟨g15, h⟩ := gd_e h
    refine g_iald C hR (k := 57) (n := 16) (live_st (by decide)) rfl g15 dX11_toneOf_15 ?_
    refine lv_goto (tgt := 50) hx hb dX11_toneOf_16 (by decide) ?_
    exact g_iret C hR hS h dX11_toneOf_50

/-! OneVoiceModel.isAlike(II)Z -/
abbrev rm_X11_isAlike : Room := { frames := 0, cells := 0, slots := 0, locals := 0 }
theorem m_X11_isAlike : MV yX11_isAlike RX11 cX11_isAlike 5 (some .boolean) 2 := ⟨q1118, q35, q77, q1119, by decide +kernel⟩
def f_X11_isAlike_L39 (K93 : Int32 → St → Option (Int32 × St)) (v1 : Int32) (v2 : Int32) : Nat → Int32 → Int32 → St → Option (Int32 × St)
  | 0, _, _, _ => none
  | f + 1, v3, v4, S =>
    gd_ (inb v1 16) <|
    if (rd S 56 (Int32.toNatClampNeg v1)) ≤ v4 then
      K93 v3 S
    else
      lt_ (fun (t15 : Int32) (S16 : St) =>
          lt_ (v4 + (1 : Int32)) fun x17 =>
          f_X11_isAlike_L39 K93 v1 v2 f t15 x17 S16) fun J86 =>
      lt_ (fun  (S18 : St) =>
          J86 (0 : Int32) S18) fun J85 =>
      if v3 = 0 then
        J85  S
      else
        gd_ (inb (((8 : Int32) * v1) + v4) 128) <|
        gd_ (inb (((8 : Int32) * v2) + v4) 128) <|
        if (rd S 55 (Int32.toNatClampNeg (((8 : Int32) * v1) + v4))) = (rd S 55 (Int32.toNatClampNeg (((8 : Int32) * v2) + v4))) then
          J86 (1 : Int32) S
        else
          J85  S

def f_X11_isAlike (v1 : Int32) (v2 : Int32) (S : St) : Option (Int32 × St) :=
  gd_ (inb v1 16) <|
  gd_ (inb v2 16) <|
  lt_ (fun (t11 : Int32) (S12 : St) =>
      f_X11_isAlike_L39
        (fun (x23 : Int32) (S24 : St) =>
          gd_ (bz x23) <| some (x23, S24))
        v1 v2 FU t11 (0 : Int32) S12) fun J35 =>
  lt_ (fun  (S25 : St) =>
      J35 (0 : Int32) S25) fun J34 =>
  if (rd S 59 (Int32.toNatClampNeg v1)) = (rd S 59 (Int32.toNatClampNeg v2)) then
    gd_ (inb v1 16) <|
    gd_ (inb v2 16) <|
    if (rd S 56 (Int32.toNatClampNeg v1)) = (rd S 56 (Int32.toNatClampNeg v2)) then
      J35 (1 : Int32) S
    else
      J34  S
  else
    J34  S

set_option maxHeartbeats 4000000 in
set_option maxRecDepth 100000 in
theorem w_X11_isAlike_L39 {p : Program} {l : Launch} {e : Env} {s : State} {m : MethodId} {args : Array Value} {below : List Frame} {meth : Method} {c : Code} {E : En} {α : Nat → Nat} {g : Nat × Nat} (C : Cx p s m args meth c RX11 cX11_isAlike 5 (some .boolean) E) {z : Int32 × St} {K93 : Int32 → St → Option (Int32 × St)} {v1 : Int32} {v2 : Int32}
    (hK93 : ∀ (y3 : Int32) (S : St) (H : Heap) (locs : List Loc) (ls : Array Slot), Rp E α g S H → va_S E.2.2.1 s.heap H locs → lv_has ls 5 [(3, .int y3)] → K93 y3 S = some z → W p l e rm_X11_isAlike s m args below meth c H locs 0 0 (MQ below (Qi E α g z) args s 0 0 E.2.2.1) (F0 m 93 ls [])) :
    ∀ (f : Nat) (v3 : Int32) (v4 : Int32) (S : St) (H : Heap) (locs : List Loc) (ls : Array Slot), Rp E α g S H → va_S E.2.2.1 s.heap H locs → lv_has ls 5 [(0, .ref (α 54)), (1, .int v1), (2, .int v2), (3, .int v3), (4, .int v4)] → f_X11_isAlike_L39 K93 v1 v2 f v3 v4 S = some z → W p l e rm_X11_isAlike s m args below meth c H locs 0 0 (MQ below (Qi E α g z) args s 0 0 E.2.2.1) (F0 m 39 ls []) := by
  obtain ⟨hx, hb, hml, hown, hts, hlk, hrt, hKs⟩ := id C
  intro f
  induction f with
  | zero =>
    intro v3 v4 S H locs ls  hR hS hl h
    rw [f_X11_isAlike_L39] at h
    cases h
  | succ f ih =>
    intro v3 v4 S H locs ls  hR hS hl h
    rw [f_X11_isAlike_L39] at h
    refine lv_iload hx hb dX11_isAlike_39 (lv_at hl 4 rfl) ?_
    refine lv_aload_n hx hb dX11_isAlike_41 rfl (lv_at hl 0 rfl) ?_
    refine g_getr (t := 56) C hR (k := 54) (j := 2) (live_st (by decide)) rfl rfl (vw11) inl11 (by decide) q945 dX11_isAlike_42 ?_
    refine lv_iload_n hx hb dX11_isAlike_45 rfl (lv_at hl 1 rfl) ?_
    obtain ⟨g13, h⟩ := gd_e h
    refine g_iald C hR (k := 56) (n := 16) (live_st (by decide)) rfl g13 dX11_isAlike_46 ?_
    refine lv_icmp_ge (tgt := 93) hx hb dX11_isAlike_47 (by decide) (fun c14 => ?_) (fun c14 => ?_)
    · have h := ite_t c14 h
      exact hK93 _ _ _ _ _  hR hS (lv_sub hl [3] rfl) h
    · have h := ite_f c14 h
      refine lv_iload_n hx hb dX11_isAlike_50 rfl (lv_at hl 3 rfl) ?_
      obtain ⟨J86, eJ86, h⟩ := lt_e h
      have hJ86 : ∀ (t15 : Int32) (S16 : St) (H : Heap) (locs : List Loc) (ls : Array Slot), Rp E α g S16 H → va_S E.2.2.1 s.heap H locs → lv_has ls 5 [(0, .ref (α 54)), (1, .int v1), (2, .int v2), (4, .int v4)] → J86 t15 S16 = some z → W p l e rm_X11_isAlike s m args below meth c H locs 0 0 (MQ below (Qi E α g z) args s 0 0 E.2.2.1) (F0 m 86 ls [.int t15]) := by
        intro t15 S16 H locs ls  hR hS hl h
        rw [eJ86] at h
        refine lv_istore_n (lv' := [(3, .int t15), (0, .ref (α 54)), (1, .int v1), (2, .int v2), (4, .int v4)]) hx hb dX11_isAlike_86 rfl hl (by decide) rfl (fun ls hl => ?_)
        obtain ⟨x17, ex17, h⟩ := lt_e h
        refine lv_iinc (v := x17) (lv' := [(4, .int x17), (3, .int t15), (0, .ref (α 54)), (1, .int v1), (2, .int v2)]) hx hb dX11_isAlike_87 hl (k := 4) rfl (by rw [ex17]; rfl) (by decide) rfl (fun ls hl => ?_)
        refine lv_goto (tgt := 39) hx hb dX11_isAlike_90 (by decide) ?_
        exact ih _ _ _ _ _ _  hR hS (lv_sub hl [2, 3, 4, 1, 0] rfl) h
      clear eJ86
      obtain ⟨J85, eJ85, h⟩ := lt_e h
      have hJ85 : ∀ (S18 : St) (H : Heap) (locs : List Loc) (ls : Array Slot), Rp E α g S18 H → va_S E.2.2.1 s.heap H locs → lv_has ls 5 [(0, .ref (α 54)), (1, .int v1), (2, .int v2), (4, .int v4)] → J85  S18 = some z → W p l e rm_X11_isAlike s m args below meth c H locs 0 0 (MQ below (Qi E α g z) args s 0 0 E.2.2.1) (F0 m 85 ls []) := by
        intro  S18 H locs ls  hR hS hl h
        rw [eJ85] at h
        refine lv_iconst (v := 0) hx hb dX11_isAlike_85 (by decide) ?_
        exact hJ86 _ _ _ _ _  hR hS hl h
      clear eJ85
      refine lv_if_eq (tgt := 85) hx hb dX11_isAlike_51 (by decide) (fun c19 => ?_) (fun c19 => ?_)
      · have h := ite_t c19 h
        exact hJ85  _ _ _ _  hR hS (lv_sub hl [0, 1, 2, 4] rfl) h
      · have h := ite_f c19 h
        refine lv_aload_n hx hb dX11_isAlike_54 rfl (lv_at hl 0 rfl) ?_
        refine g_getr (t := 55) C hR (k := 54) (j := 1) (live_st (by decide)) rfl rfl (vw11) inl11 (by decide) q944 dX11_isAlike_55 ?_
        refine lv_bipush (v := 8) hx hb dX11_isAlike_58 (by decide) ?_
        refine lv_iload_n hx hb dX11_isAlike_60 rfl (lv_at hl 1 rfl) ?_
        refine lv_imul hx hb dX11_isAlike_61 ?_
        refine lv_iload hx hb dX11_isAlike_62 (lv_at hl 4 rfl) ?_
        refine lv_iadd hx hb dX11_isAlike_64 ?_
        obtain ⟨g20, h⟩ := gd_e h
        refine g_iald C hR (k := 55) (n := 128) (live_st (by decide)) rfl g20 dX11_isAlike_65 ?_
        refine lv_aload_n hx hb dX11_isAlike_66 rfl (lv_at hl 0 rfl) ?_
        refine g_getr (t := 55) C hR (k := 54) (j := 1) (live_st (by decide)) rfl rfl (vw11) inl11 (by decide) q944 dX11_isAlike_67 ?_
        refine lv_bipush (v := 8) hx hb dX11_isAlike_70 (by decide) ?_
        refine lv_iload_n hx hb dX11_isAlike_72 rfl (lv_at hl 2 rfl) ?_
        refine lv_imul hx hb dX11_isAlike_73 ?_
        refine lv_iload hx hb dX11_isAlike_74 (lv_at hl 4 rfl) ?_
        refine lv_iadd hx hb dX11_isAlike_76 ?_
        obtain ⟨g21, h⟩ := gd_e h
        refine g_iald C hR (k := 55) (n := 128) (live_st (by decide)) rfl g21 dX11_isAlike_77 ?_
        refine lv_icmp_ne (tgt := 85) hx hb dX11_isAlike_78 (by decide) (fun c22 => ?_) (fun c22 => ?_)
        · have h := ite_f c22 h
          exact hJ85  _ _ _ _  hR hS (lv_sub hl [0, 1, 2, 4] rfl) h
        · have h := ite_t c22 h
          refine lv_iconst (v := 1) hx hb dX11_isAlike_81 (by decide) ?_
          refine lv_goto (tgt := 86) hx hb dX11_isAlike_82 (by decide) ?_
          exact hJ86 _ _ _ _ _  hR hS (lv_sub hl [0, 1, 2, 4] rfl) h

set_option maxHeartbeats 4000000 in
set_option maxRecDepth 100000 in
theorem c_X11_isAlike (l : Launch) {E : En} {α : Nat → Nat} {g : Nat × Nat} {v1 : Int32} {v2 : Int32} {S : St}  {z : Int32 × St} (h : f_X11_isAlike v1 v2 S = some z) : Met l yX11_isAlike (wsY yX11_isAlike cX11_isAlike 5 (some .boolean)) rm_X11_isAlike (va_Pc [.ref (α 54), .int v1, .int v2] (Wd E α g S)) (Qi E α g z) 0 0 E.2.2.1 := by
  refine g_met [.ref (α 54), .int v1, .int v2] (by decide) rfl (Nat.le_of_ble_eq_true rfl) ?_
  intro p e s m below meth c ls C hR hl
  generalize hae : ([.ref (α 54), .int v1, .int v2] : List Value).toArray = args at C ⊢
  have hl : lv_has ls 5 [(0, .ref (α 54)), (1, .int v1), (2, .int v2)] := hl
  obtain ⟨hx, hb, hml, hown, hts, hlk, hrt, hKs⟩ := id C
  have hS : va_S E.2.2.1 s.heap s.heap [] := va_S.rf
  unfold f_X11_isAlike at h
  refine lv_aload_n hx hb dX11_isAlike_0 rfl (lv_at hl 0 rfl) ?_
  refine g_getr (t := 59) C hR (k := 54) (j := 5) (live_st (by decide)) rfl rfl (vw11) inl11 (by decide) q948 dX11_isAlike_1 ?_
  refine lv_iload_n hx hb dX11_isAlike_4 rfl (lv_at hl 1 rfl) ?_
  obtain ⟨g9, h⟩ := gd_e h
  refine g_iald C hR (k := 59) (n := 16) (live_st (by decide)) rfl g9 dX11_isAlike_5 ?_
  refine lv_aload_n hx hb dX11_isAlike_6 rfl (lv_at hl 0 rfl) ?_
  refine g_getr (t := 59) C hR (k := 54) (j := 5) (live_st (by decide)) rfl rfl (vw11) inl11 (by decide) q948 dX11_isAlike_7 ?_
  refine lv_iload_n hx hb dX11_isAlike_10 rfl (lv_at hl 2 rfl) ?_
  obtain ⟨g10, h⟩ := gd_e h
  refine g_iald C hR (k := 59) (n := 16) (live_st (by decide)) rfl g10 dX11_isAlike_11 ?_
  obtain ⟨J35, eJ35, h⟩ := lt_e h
  have hJ35 : ∀ (t11 : Int32) (S12 : St) (H : Heap) (locs : List Loc) (ls : Array Slot), Rp E α g S12 H → va_S E.2.2.1 s.heap H locs → lv_has ls 5 [(0, .ref (α 54)), (1, .int v1), (2, .int v2)] → J35 t11 S12 = some z → W p l e rm_X11_isAlike s m args below meth c H locs 0 0 (MQ below (Qi E α g z) args s 0 0 E.2.2.1) (F0 m 35 ls [.int t11]) := by
    intro t11 S12 H locs ls  hR hS hl h
    rw [eJ35] at h
    refine lv_istore_n (lv' := [(3, .int t11), (0, .ref (α 54)), (1, .int v1), (2, .int v2)]) hx hb dX11_isAlike_35 rfl hl (by decide) rfl (fun ls hl => ?_)
    refine lv_iconst (v := 0) hx hb dX11_isAlike_36 (by decide) ?_
    refine lv_istore (lv' := [(4, .int (0 : Int32)), (3, .int t11), (0, .ref (α 54)), (1, .int v1), (2, .int v2)]) hx hb dX11_isAlike_37 hl (by decide) rfl (fun ls hl => ?_)
    refine w_X11_isAlike_L39 C ?_  _ _ _ _ _ _ _  hR hS (lv_sub hl [2, 3, 4, 1, 0] rfl) h
    · intro x23 S24 H locs ls  hR hS hl h
      refine lv_iload_n hx hb dX11_isAlike_93 rfl (lv_at hl 0 rfl) ?_
      obtain ⟨hz, h⟩ := gd_e h
      exact g_zret C hR hS hz h dX11_isAlike_94
  clear eJ35
  obtain ⟨J34, eJ34, h⟩ := lt_e h
  have hJ34 : ∀ (S25 : St) (H : Heap) (locs : List Loc) (ls : Array Slot), Rp E α g S25 H → va_S E.2.2.1 s.heap H locs → lv_has ls 5 [(0, .ref (α 54)), (1, .int v1), (2, .int v2)] → J34  S25 = some z → W p l e rm_X11_isAlike s m args below meth c H locs 0 0 (MQ below (Qi E α g z) args s 0 0 E.2.2.1) (F0 m 34 ls []) := by
    intro  S25 H locs ls  hR hS hl h
    rw [eJ34] at h
    refine lv_iconst (v := 0) hx hb dX11_isAlike_34 (by decide) ?_
    exact hJ35 _ _ _ _ _  hR hS hl h
  clear eJ34
  refine lv_icmp_ne (tgt := 34) hx hb dX11_isAlike_12 (by decide) (fun c26 => ?_) (fun c26 => ?_)
  · have h := ite_f c26 h
    exact hJ34  _ _ _ _  hR hS hl h
  · have h := ite_t c26 h
    refine lv_aload_n hx hb dX11_isAlike_15 rfl (lv_at hl 0 rfl) ?_
    refine g_getr (t := 56) C hR (k := 54) (j := 2) (live_st (by decide)) rfl rfl (vw11) inl11 (by decide) q945 dX11_isAlike_16 ?_
    refine lv_iload_n hx hb dX11_isAlike_19 rfl (lv_at hl 1 rfl) ?_
    obtain ⟨g27, h⟩ := gd_e h
    refine g_iald C hR (k := 56) (n := 16) (live_st (by decide)) rfl g27 dX11_isAlike_20 ?_
    refine lv_aload_n hx hb dX11_isAlike_21 rfl (lv_at hl 0 rfl) ?_
    refine g_getr (t := 56) C hR (k := 54) (j := 2) (live_st (by decide)) rfl rfl (vw11) inl11 (by decide) q945 dX11_isAlike_22 ?_
    refine lv_iload_n hx hb dX11_isAlike_25 rfl (lv_at hl 2 rfl) ?_
    obtain ⟨g28, h⟩ := gd_e h
    refine g_iald C hR (k := 56) (n := 16) (live_st (by decide)) rfl g28 dX11_isAlike_26 ?_
    refine lv_icmp_ne (tgt := 34) hx hb dX11_isAlike_27 (by decide) (fun c29 => ?_) (fun c29 => ?_)
    · have h := ite_f c29 h
      exact hJ34  _ _ _ _  hR hS hl h
    · have h := ite_t c29 h
      refine lv_iconst (v := 1) hx hb dX11_isAlike_30 (by decide) ?_
      refine lv_goto (tgt := 35) hx hb dX11_isAlike_31 (by decide) ?_
      exact hJ35 _ _ _ _ _  hR hS hl h

/-! OneVoiceModel.wearOf(II)I -/
abbrev rm_X11_wearOf : Room := { frames := 1, cells := 0, slots := 0, locals := 24 }
theorem m_X11_wearOf : MV yX11_wearOf RX11 cX11_wearOf 4 (some .int) 2 := ⟨q1114, q34, q77, q1115, by decide +kernel⟩
def f_X11_wearOf_L17 (K47 : St → Option (Int32 × St)) (K55 : St → Option (Int32 × St)) (v1 : Int32) (v2 : Int32) : Nat → Int32 → St → Option (Int32 × St)
  | 0, _, _ => none
  | f + 1, v3, S =>
    if (rd S 54 0) ≤ v3 then
      K55  S
    else
      bd_ (f_X11_isAlike v1 v3 S) fun r7 S8 =>
      lt_ (fun  (S9 : St) =>
          lt_ (v3 + (1 : Int32)) fun x10 =>
          f_X11_wearOf_L17 K47 K55 v1 v2 f x10 S9) fun J49 =>
      if r7 = 0 then
        J49  S8
      else
        gd_ (inb v3 16) <|
        if (((rd S8 60 (Int32.toNatClampNeg v3)) >>> (v2 &&& 31)) &&& (1 : Int32)) = 0 then
          K47  S8
        else
          J49  S8

def f_X11_wearOf (v1 : Int32) (v2 : Int32) (S : St) : Option (Int32 × St) :=
  gd_ (inb v1 16) <|
  if (((rd S 60 (Int32.toNatClampNeg v1)) >>> (v2 &&& 31)) &&& (1 : Int32)) = 0 then
    some ((0 : Int32), S)
  else
    f_X11_wearOf_L17
      (fun  (S14 : St) =>
        some ((1 : Int32), S14))
      (fun  (S15 : St) =>
        some ((2 : Int32), S15))
      v1 v2 FU (0 : Int32) S

set_option maxHeartbeats 4000000 in
set_option maxRecDepth 100000 in
theorem w_X11_wearOf_L17 {p : Program} {l : Launch} {e : Env} {s : State} {m : MethodId} {args : Array Value} {below : List Frame} {meth : Method} {c : Code} {E : En} {α : Nat → Nat} {g : Nat × Nat} (C : Cx p s m args meth c RX11 cX11_wearOf 4 (some .int) E) {z : Int32 × St} {K47 : St → Option (Int32 × St)} {K55 : St → Option (Int32 × St)} {v1 : Int32} {v2 : Int32}
    (hK47 : ∀ (S : St) (H : Heap) (locs : List Loc) (ls : Array Slot), Rp E α g S H → va_S E.2.2.1 s.heap H locs → lv_has ls 4 [] → K47  S = some z → W p l e rm_X11_wearOf s m args below meth c H locs 0 0 (MQ below (Qi E α g z) args s 0 0 E.2.2.1) (F0 m 47 ls []))
    (hK55 : ∀ (S : St) (H : Heap) (locs : List Loc) (ls : Array Slot), Rp E α g S H → va_S E.2.2.1 s.heap H locs → lv_has ls 4 [] → K55  S = some z → W p l e rm_X11_wearOf s m args below meth c H locs 0 0 (MQ below (Qi E α g z) args s 0 0 E.2.2.1) (F0 m 55 ls [])) :
    ∀ (f : Nat) (v3 : Int32) (S : St) (H : Heap) (locs : List Loc) (ls : Array Slot), Rp E α g S H → va_S E.2.2.1 s.heap H locs → lv_has ls 4 [(0, .ref (α 54)), (1, .int v1), (2, .int v2), (3, .int v3)] → f_X11_wearOf_L17 K47 K55 v1 v2 f v3 S = some z → W p l e rm_X11_wearOf s m args below meth c H locs 0 0 (MQ below (Qi E α g z) args s 0 0 E.2.2.1) (F0 m 17 ls []) := by
  obtain ⟨hx, hb, hml, hown, hts, hlk, hrt, hKs⟩ := id C
  intro f
  induction f with
  | zero =>
    intro v3 S H locs ls  hR hS hl h
    rw [f_X11_wearOf_L17] at h
    cases h
  | succ f ih =>
    intro v3 S H locs ls  hR hS hl h
    rw [f_X11_wearOf_L17] at h
    refine lv_iload_n hx hb dX11_wearOf_17 rfl (lv_at hl 3 rfl) ?_
    refine lv_aload_n hx hb dX11_wearOf_18 rfl (lv_at hl 0 rfl) ?_
    refine g_geti C hR (k := 54) (j := 0) (live_st (by decide)) rfl rfl (vw11) inl11 (by decide) q943 dX11_wearOf_19 ?_
    refine lv_icmp_ge (tgt := 55) hx hb dX11_wearOf_22 (by decide) (fun c6 => ?_) (fun c6 => ?_)
    · have h := ite_t c6 h
      exact hK55  _ _ _ _  hR hS (lv_sub hl [] rfl) h
    · have h := ite_f c6 h
      refine lv_aload_n hx hb dX11_wearOf_25 rfl (lv_at hl 0 rfl) ?_
      refine lv_iload_n hx hb dX11_wearOf_26 rfl (lv_at hl 1 rfl) ?_
      refine lv_iload_n hx hb dX11_wearOf_27 rfl (lv_at hl 3 rfl) ?_
      obtain ⟨r7, S8, hr7, h⟩ := bd_e h
      refine g_ci hS (g_runV C hR hS (k := 54) (As := [.int v1, .int v3]) (rest := []) (c_X11_isAlike l  hr7) (live_st (by decide)) rfl (vw11) m_X11_isAlike q1116 ⟨rfl, rfl⟩ ⟨Nat.le_of_ble_eq_true rfl, Nat.le_of_ble_eq_true rfl⟩ rfl hl.1 rfl (Nat.le_of_ble_eq_true rfl) dX11_wearOf_28 ⟨Nat.zero_le _, Nat.zero_le _⟩) (fun H locs hR hS => ?_)
      obtain ⟨J49, eJ49, h⟩ := lt_e h
      have hJ49 : ∀ (S9 : St) (H : Heap) (locs : List Loc) (ls : Array Slot), Rp E α g S9 H → va_S E.2.2.1 s.heap H locs → lv_has ls 4 [(0, .ref (α 54)), (1, .int v1), (2, .int v2), (3, .int v3)] → J49  S9 = some z → W p l e rm_X11_wearOf s m args below meth c H locs 0 0 (MQ below (Qi E α g z) args s 0 0 E.2.2.1) (F0 m 49 ls []) := by
        intro  S9 H locs ls  hR hS hl h
        rw [eJ49] at h
        obtain ⟨x10, ex10, h⟩ := lt_e h
        refine lv_iinc (v := x10) (lv' := [(3, .int x10), (0, .ref (α 54)), (1, .int v1), (2, .int v2)]) hx hb dX11_wearOf_49 hl (k := 3) rfl (by rw [ex10]; rfl) (by decide) rfl (fun ls hl => ?_)
        refine lv_goto (tgt := 17) hx hb dX11_wearOf_52 (by decide) ?_
        exact ih _ _ _ _ _  hR hS (lv_sub hl [1, 2, 3, 0] rfl) h
      clear eJ49
      refine lv_if_eq (tgt := 49) hx hb dX11_wearOf_31 (by decide) (fun c11 => ?_) (fun c11 => ?_)
      · have h := ite_t c11 h
        exact hJ49  _ _ _ _  hR hS hl h
      · have h := ite_f c11 h
        refine lv_aload_n hx hb dX11_wearOf_34 rfl (lv_at hl 0 rfl) ?_
        refine g_getr (t := 60) C hR (k := 54) (j := 6) (live_st (by decide)) rfl rfl (vw11) inl11 (by decide) q949 dX11_wearOf_35 ?_
        refine lv_iload_n hx hb dX11_wearOf_38 rfl (lv_at hl 3 rfl) ?_
        obtain ⟨g12, h⟩ := gd_e h
        refine g_iald C hR (k := 60) (n := 16) (live_st (by decide)) rfl g12 dX11_wearOf_39 ?_
        refine lv_iload_n hx hb dX11_wearOf_40 rfl (lv_at hl 2 rfl) ?_
        refine lv_ishr hx hb dX11_wearOf_41 ?_
        refine lv_iconst (v := 1) hx hb dX11_wearOf_42 (by decide) ?_
        refine lv_iand hx hb dX11_wearOf_43 ?_
        refine lv_if_ne (tgt := 49) hx hb dX11_wearOf_44 (by decide) (fun c13 => ?_) (fun c13 => ?_)
        · have h := ite_f c13 h
          exact hJ49  _ _ _ _  hR hS hl h
        · have h := ite_t c13 h
          exact hK47  _ _ _ _  hR hS (lv_sub hl [] rfl) h

set_option maxHeartbeats 4000000 in
set_option maxRecDepth 100000 in
theorem c_X11_wearOf (l : Launch) {E : En} {α : Nat → Nat} {g : Nat × Nat} {v1 : Int32} {v2 : Int32} {S : St}  {z : Int32 × St} (h : f_X11_wearOf v1 v2 S = some z) : Met l yX11_wearOf (wsY yX11_wearOf cX11_wearOf 4 (some .int)) rm_X11_wearOf (va_Pc [.ref (α 54), .int v1, .int v2] (Wd E α g S)) (Qi E α g z) 0 0 E.2.2.1 := by
  refine g_met [.ref (α 54), .int v1, .int v2] (by decide) rfl (Nat.le_of_ble_eq_true rfl) ?_
  intro p e s m below meth c ls C hR hl
  generalize hae : ([.ref (α 54), .int v1, .int v2] : List Value).toArray = args at C ⊢
  have hl : lv_has ls 4 [(0, .ref (α 54)), (1, .int v1), (2, .int v2)] := hl
  obtain ⟨hx, hb, hml, hown, hts, hlk, hrt, hKs⟩ := id C
  have hS : va_S E.2.2.1 s.heap s.heap [] := va_S.rf
  unfold f_X11_wearOf at h
  refine lv_aload_n hx hb dX11_wearOf_0 rfl (lv_at hl 0 rfl) ?_
  refine g_getr (t := 60) C hR (k := 54) (j := 6) (live_st (by decide)) rfl rfl (vw11) inl11 (by decide) q949 dX11_wearOf_1 ?_
  refine lv_iload_n hx hb dX11_wearOf_4 rfl (lv_at hl 1 rfl) ?_
  obtain ⟨g4, h⟩ := gd_e h
  refine g_iald C hR (k := 60) (n := 16) (live_st (by decide)) rfl g4 dX11_wearOf_5 ?_
  refine lv_iload_n hx hb dX11_wearOf_6 rfl (lv_at hl 2 rfl) ?_
  refine lv_ishr hx hb dX11_wearOf_7 ?_
  refine lv_iconst (v := 1) hx hb dX11_wearOf_8 (by decide) ?_
  refine lv_iand hx hb dX11_wearOf_9 ?_
  refine lv_if_ne (tgt := 15) hx hb dX11_wearOf_10 (by decide) (fun c5 => ?_) (fun c5 => ?_)
  · have h := ite_f c5 h
    refine lv_iconst (v := 0) hx hb dX11_wearOf_15 (by decide) ?_
    refine lv_istore_n (lv' := [(3, .int (0 : Int32)), (0, .ref (α 54)), (1, .int v1), (2, .int v2)]) hx hb dX11_wearOf_16 rfl hl (by decide) rfl (fun ls hl => ?_)
    refine w_X11_wearOf_L17 C ?_ ?_  _ _ _ _ _ _  hR hS (lv_sub hl [1, 2, 3, 0] rfl) h
    · intro  S14 H locs ls  hR hS hl h
      refine lv_iconst (v := 1) hx hb dX11_wearOf_47 (by decide) ?_
      exact g_iret C hR hS h dX11_wearOf_48
    · intro  S15 H locs ls  hR hS hl h
      refine lv_iconst (v := 2) hx hb dX11_wearOf_55 (by decide) ?_
      exact g_iret C hR hS h dX11_wearOf_56
  · have h := ite_t c5 h
    refine lv_iconst (v := 0) hx hb dX11_wearOf_13 (by decide) ?_
    exact g_iret C hR hS h dX11_wearOf_14

/-! OneVoiceModel.of(III)I -/
abbrev rm_X11_of : Room := { frames := 2, cells := 0, slots := 0, locals := 47 }
theorem m_X11_of : MV yX11_of RX11 cX11_of 4 (some .int) 3 := ⟨q1105, q1106, q77, q1107, by decide +kernel⟩
def f_X11_of (v1 : Int32) (v2 : Int32) (v3 : Int32) (S : St) : Option (Int32 × St) :=
  bd_ (f_X11_isPiece v1 S) fun r3 S4 =>
  if r3 = 0 then
    some ((-2 : Int32), S4)
  else
    gd_ (inb v1 16) <|
    bd_ (f_X11_in v2 (0 : Int32) ((rd S4 56 (Int32.toNatClampNeg v1)) - (1 : Int32)) S4) fun r7 S8 =>
    if r7 = 0 then
      some ((-2 : Int32), S8)
    else
      if v3 = 0 then
        gd_ (inb (((8 : Int32) * v1) + v2) 128) <|
        some ((rd S8 55 (Int32.toNatClampNeg (((8 : Int32) * v1) + v2))), S8)
      else
        if v3 = (1 : Int32) then
          bd_ (f_X11_toneOf v1 v2 S8) fun r15 S16 =>
          some (r15, S16)
        else
          if v3 = (2 : Int32) then
            bd_ (f_X11_wearOf v1 v2 S8) fun r13 S14 =>
            some (r13, S14)
          else
            some ((-3 : Int32), S8)

set_option maxHeartbeats 4000000 in
set_option maxRecDepth 100000 in
theorem c_X11_of (l : Launch) {E : En} {α : Nat → Nat} {g : Nat × Nat} {v1 : Int32} {v2 : Int32} {v3 : Int32} {S : St}  {z : Int32 × St} (h : f_X11_of v1 v2 v3 S = some z) : Met l yX11_of (wsY yX11_of cX11_of 4 (some .int)) rm_X11_of (va_Pc [.ref (α 54), .int v1, .int v2, .int v3] (Wd E α g S)) (Qi E α g z) 0 0 E.2.2.1 := by
  refine g_met [.ref (α 54), .int v1, .int v2, .int v3] (by decide) rfl (Nat.le_of_ble_eq_true rfl) ?_
  intro p e s m below meth c ls C hR hl
  generalize hae : ([.ref (α 54), .int v1, .int v2, .int v3] : List Value).toArray = args at C ⊢
  have hl : lv_has ls 4 [(0, .ref (α 54)), (1, .int v1), (2, .int v2), (3, .int v3)] := hl
  obtain ⟨hx, hb, hml, hown, hts, hlk, hrt, hKs⟩ := id C
  have hS : va_S E.2.2.1 s.heap s.heap [] := va_S.rf
  unfold f_X11_of at h
  refine lv_aload_n hx hb dX11_of_0 rfl (lv_at hl 0 rfl) ?_
  refine lv_iload_n hx hb dX11_of_1 rfl (lv_at hl 1 rfl) ?_
  obtain ⟨r3, S4, hr3, h⟩ := bd_e h
  refine g_ci hS (g_runV C hR hS (k := 54) (As := [.int v1]) (rest := []) (c_X11_isPiece l  hr3) (live_st (by decide)) rfl (vw11) m_X11_isPiece q1100 ⟨rfl, rfl⟩ ⟨Nat.le_of_ble_eq_true rfl, Nat.le_of_ble_eq_true rfl⟩ rfl hl.1 rfl (Nat.le_of_ble_eq_true rfl) dX11_of_2 ⟨Nat.zero_le _, Nat.zero_le _⟩) (fun H locs hR hS => ?_)
  refine lv_if_eq (tgt := 24) hx hb dX11_of_5 (by decide) (fun c5 => ?_) (fun c5 => ?_)
  · have h := ite_t c5 h
    refine lv_bipush (v := -2) hx hb dX11_of_24 (by decide) ?_
    exact g_iret C hR hS h dX11_of_26
  · have h := ite_f c5 h
    refine lv_iload_n hx hb dX11_of_8 rfl (lv_at hl 2 rfl) ?_
    refine lv_iconst (v := 0) hx hb dX11_of_9 (by decide) ?_
    refine lv_aload_n hx hb dX11_of_10 rfl (lv_at hl 0 rfl) ?_
    refine g_getr (t := 56) C hR (k := 54) (j := 2) (live_st (by decide)) rfl rfl (vw11) inl11 (by decide) q945 dX11_of_11 ?_
    refine lv_iload_n hx hb dX11_of_14 rfl (lv_at hl 1 rfl) ?_
    obtain ⟨g6, h⟩ := gd_e h
    refine g_iald C hR (k := 56) (n := 16) (live_st (by decide)) rfl g6 dX11_of_15 ?_
    refine lv_iconst (v := 1) hx hb dX11_of_16 (by decide) ?_
    refine lv_isub hx hb dX11_of_17 ?_
    obtain ⟨r7, S8, hr7, h⟩ := bd_e h
    refine g_ci hS (g_runS C hR hS (As := [.int v2, .int (0 : Int32), .int ((rd S4 56 (Int32.toNatClampNeg v1)) - (1 : Int32))]) (rest := []) (c_X11_in l  hr7) m_X11_in q1093 ⟨rfl, rfl⟩ ⟨Nat.le_of_ble_eq_true rfl, Nat.le_of_ble_eq_true rfl⟩ rfl hl.1 rfl (Nat.le_of_ble_eq_true rfl) dX11_of_18 ⟨Nat.zero_le _, Nat.zero_le _⟩) (fun H locs hR hS => ?_)
    refine lv_if_ne (tgt := 27) hx hb dX11_of_21 (by decide) (fun c9 => ?_) (fun c9 => ?_)
    · have h := ite_f c9 h
      refine lv_iload_n hx hb dX11_of_27 rfl (lv_at hl 3 rfl) ?_
      refine lv_if_ne (tgt := 45) hx hb dX11_of_28 (by decide) (fun c10 => ?_) (fun c10 => ?_)
      · have h := ite_f c10 h
        refine lv_iload_n hx hb dX11_of_45 rfl (lv_at hl 3 rfl) ?_
        refine lv_iconst (v := 1) hx hb dX11_of_46 (by decide) ?_
        refine lv_icmp_ne (tgt := 59) hx hb dX11_of_47 (by decide) (fun c11 => ?_) (fun c11 => ?_)
        · have h := ite_f c11 h
          refine lv_iload_n hx hb dX11_of_59 rfl (lv_at hl 3 rfl) ?_
          refine lv_iconst (v := 2) hx hb dX11_of_60 (by decide) ?_
          refine lv_icmp_ne (tgt := 73) hx hb dX11_of_61 (by decide) (fun c12 => ?_) (fun c12 => ?_)
          · have h := ite_f c12 h
            refine lv_bipush (v := -3) hx hb dX11_of_73 (by decide) ?_
            exact g_iret C hR hS h dX11_of_75
          · have h := ite_t c12 h
            refine lv_aload_n hx hb dX11_of_64 rfl (lv_at hl 0 rfl) ?_
            refine lv_iload_n hx hb dX11_of_65 rfl (lv_at hl 1 rfl) ?_
            refine lv_iload_n hx hb dX11_of_66 rfl (lv_at hl 2 rfl) ?_
            obtain ⟨r13, S14, hr13, h⟩ := bd_e h
            refine g_ci hS (g_runV C hR hS (k := 54) (As := [.int v1, .int v2]) (rest := []) (c_X11_wearOf l  hr13) (live_st (by decide)) rfl (vw11) m_X11_wearOf q1112 ⟨rfl, rfl⟩ ⟨Nat.le_of_ble_eq_true rfl, Nat.le_of_ble_eq_true rfl⟩ rfl hl.1 rfl (Nat.le_of_ble_eq_true rfl) dX11_of_67 ⟨Nat.zero_le _, Nat.zero_le _⟩) (fun H locs hR hS => ?_)
            refine lv_goto (tgt := 75) hx hb dX11_of_70 (by decide) ?_
            exact g_iret C hR hS h dX11_of_75
        · have h := ite_t c11 h
          refine lv_aload_n hx hb dX11_of_50 rfl (lv_at hl 0 rfl) ?_
          refine lv_iload_n hx hb dX11_of_51 rfl (lv_at hl 1 rfl) ?_
          refine lv_iload_n hx hb dX11_of_52 rfl (lv_at hl 2 rfl) ?_
          obtain ⟨r15, S16, hr15, h⟩ := bd_e h
          refine g_ci hS (g_runV C hR hS (k := 54) (As := [.int v1, .int v2]) (rest := []) (c_X11_toneOf l  hr15) (live_st (by decide)) rfl (vw11) m_X11_toneOf q1108 ⟨rfl, rfl⟩ ⟨Nat.le_of_ble_eq_true rfl, Nat.le_of_ble_eq_true rfl⟩ rfl hl.1 rfl (Nat.le_of_ble_eq_true rfl) dX11_of_53 ⟨Nat.zero_le _, Nat.zero_le _⟩) (fun H locs hR hS => ?_)
          refine lv_goto (tgt := 75) hx hb dX11_of_56 (by decide) ?_
          exact g_iret C hR hS h dX11_of_75
      · have h := ite_t c10 h
        refine lv_aload_n hx hb dX11_of_31 rfl (lv_at hl 0 rfl) ?_
        refine g_getr (t := 55) C hR (k := 54) (j := 1) (live_st (by decide)) rfl rfl (vw11) inl11 (by decide) q944 dX11_of_32 ?_
        refine lv_bipush (v := 8) hx hb dX11_of_35 (by decide) ?_
        refine lv_iload_n hx hb dX11_of_37 rfl (lv_at hl 1 rfl) ?_
        refine lv_imul hx hb dX11_of_38 ?_
        refine lv_iload_n hx hb dX11_of_39 rfl (lv_at hl 2 rfl) ?_
        refine lv_iadd hx hb dX11_of_40 ?_
        obtain ⟨g17, h⟩ := gd_e h
        refine g_iald C hR (k := 55) (n := 128) (live_st (by decide)) rfl g17 dX11_of_41 ?_
        refine lv_goto (tgt := 75) hx hb dX11_of_42 (by decide) ?_
        exact g_iret C hR hS h dX11_of_75
    · have h := ite_t c9 h
      refine lv_bipush (v := -2) hx hb dX11_of_24 (by decide) ?_
      exact g_iret C hR hS h dX11_of_26

/-! OneVoiceModel.lost()I -/
abbrev rm_X11_lost : Room := { frames := 2, cells := 0, slots := 0, locals := 47 }
theorem m_X11_lost : MV yX11_lost RX11 cX11_lost 4 (some .int) 0 := ⟨q1121, q1122, q77, q1123, by decide +kernel⟩
def f_X11_lost_L14 (K48 : Int32 → St → Option (Int32 × St)) (v2 : Int32) : Nat → Int32 → Int32 → St → Option (Int32 × St)
  | 0, _, _, _ => none
  | f + 1, v1, v3, S =>
    gd_ (inb v2 16) <|
    if (rd S 56 (Int32.toNatClampNeg v2)) ≤ v3 then
      K48 v1 S
    else
      bd_ (f_X11_wearOf v2 v3 S) fun r8 S9 =>
      lt_ (fun (t10 : Int32) (t11 : Int32) (S12 : St) =>
          lt_ (t10 + t11) fun x13 =>
          lt_ (v3 + (1 : Int32)) fun x14 =>
          f_X11_lost_L14 K48 v2 f x13 x14 S12) fun J40 =>
      if r8 = (2 : Int32) then
        J40 v1 (1 : Int32) S9
      else
        J40 v1 (0 : Int32) S9

def f_X11_lost_L4 (K54 : Int32 → St → Option (Int32 × St))  : Nat → Int32 → Int32 → St → Option (Int32 × St)
  | 0, _, _, _ => none
  | f + 1, v1, v2, S =>
    if (rd S 54 0) ≤ v2 then
      K54 v1 S
    else
      f_X11_lost_L14
        (fun (x16 : Int32) (S17 : St) =>
          lt_ (v2 + (1 : Int32)) fun x18 =>
          f_X11_lost_L4 K54 f x16 x18 S17)
        v2 FU v1 (0 : Int32) S

def f_X11_lost  (S : St) : Option (Int32 × St) :=
  f_X11_lost_L4
    (fun (x19 : Int32) (S20 : St) =>
      some (x19, S20))
     FU (0 : Int32) (0 : Int32) S

set_option maxHeartbeats 4000000 in
set_option maxRecDepth 100000 in
theorem w_X11_lost_L14 {p : Program} {l : Launch} {e : Env} {s : State} {m : MethodId} {args : Array Value} {below : List Frame} {meth : Method} {c : Code} {E : En} {α : Nat → Nat} {g : Nat × Nat} (C : Cx p s m args meth c RX11 cX11_lost 4 (some .int) E) {z : Int32 × St} {K48 : Int32 → St → Option (Int32 × St)} {v2 : Int32}
    (hK48 : ∀ (y1 : Int32) (S : St) (H : Heap) (locs : List Loc) (ls : Array Slot), Rp E α g S H → va_S E.2.2.1 s.heap H locs → lv_has ls 4 [(0, .ref (α 54)), (1, .int y1), (2, .int v2)] → K48 y1 S = some z → W p l e rm_X11_lost s m args below meth c H locs 0 0 (MQ below (Qi E α g z) args s 0 0 E.2.2.1) (F0 m 48 ls [])) :
    ∀ (f : Nat) (v1 : Int32) (v3 : Int32) (S : St) (H : Heap) (locs : List Loc) (ls : Array Slot), Rp E α g S H → va_S E.2.2.1 s.heap H locs → lv_has ls 4 [(0, .ref (α 54)), (1, .int v1), (2, .int v2), (3, .int v3)] → f_X11_lost_L14 K48 v2 f v1 v3 S = some z → W p l e rm_X11_lost s m args below meth c H locs 0 0 (MQ below (Qi E α g z) args s 0 0 E.2.2.1) (F0 m 14 ls []) := by
  obtain ⟨hx, hb, hml, hown, hts, hlk, hrt, hKs⟩ := id C
  intro f
  induction f with
  | zero =>
    intro v1 v3 S H locs ls  hR hS hl h
    rw [f_X11_lost_L14] at h
    cases h
  | succ f ih =>
    intro v1 v3 S H locs ls  hR hS hl h
    rw [f_X11_lost_L14] at h
    refine lv_iload_n hx hb dX11_lost_14 rfl (lv_at hl 3 rfl) ?_
    refine lv_aload_n hx hb dX11_lost_15 rfl (lv_at hl 0 rfl) ?_
    refine g_getr (t := 56) C hR (k := 54) (j := 2) (live_st (by decide)) rfl rfl (vw11) inl11 (by decide) q945 dX11_lost_16 ?_
    refine lv_iload_n hx hb dX11_lost_19 rfl (lv_at hl 2 rfl) ?_
    obtain ⟨g6, h⟩ := gd_e h
    refine g_iald C hR (k := 56) (n := 16) (live_st (by decide)) rfl g6 dX11_lost_20 ?_
    refine lv_icmp_ge (tgt := 48) hx hb dX11_lost_21 (by decide) (fun c7 => ?_) (fun c7 => ?_)
    · have h := ite_t c7 h
      exact hK48 _ _ _ _ _  hR hS (lv_sub hl [0, 1, 2] rfl) h
    · have h := ite_f c7 h
      refine lv_iload_n hx hb dX11_lost_24 rfl (lv_at hl 1 rfl) ?_
      refine lv_aload_n hx hb dX11_lost_25 rfl (lv_at hl 0 rfl) ?_
      refine lv_iload_n hx hb dX11_lost_26 rfl (lv_at hl 2 rfl) ?_
      refine lv_iload_n hx hb dX11_lost_27 rfl (lv_at hl 3 rfl) ?_
      obtain ⟨r8, S9, hr8, h⟩ := bd_e h
      refine g_ci hS (g_runV C hR hS (k := 54) (As := [.int v2, .int v3]) (rest := [.int v1]) (c_X11_wearOf l  hr8) (live_st (by decide)) rfl (vw11) m_X11_wearOf q1112 ⟨rfl, rfl⟩ ⟨Nat.le_of_ble_eq_true rfl, Nat.le_of_ble_eq_true rfl⟩ rfl hl.1 rfl (Nat.le_of_ble_eq_true rfl) dX11_lost_28 ⟨Nat.zero_le _, Nat.zero_le _⟩) (fun H locs hR hS => ?_)
      refine lv_iconst (v := 2) hx hb dX11_lost_31 (by decide) ?_
      obtain ⟨J40, eJ40, h⟩ := lt_e h
      have hJ40 : ∀ (t10 : Int32) (t11 : Int32) (S12 : St) (H : Heap) (locs : List Loc) (ls : Array Slot), Rp E α g S12 H → va_S E.2.2.1 s.heap H locs → lv_has ls 4 [(0, .ref (α 54)), (2, .int v2), (3, .int v3)] → J40 t10 t11 S12 = some z → W p l e rm_X11_lost s m args below meth c H locs 0 0 (MQ below (Qi E α g z) args s 0 0 E.2.2.1) (F0 m 40 ls [.int t11, .int t10]) := by
        intro t10 t11 S12 H locs ls  hR hS hl h
        rw [eJ40] at h
        refine lv_iadd hx hb dX11_lost_40 ?_
        obtain ⟨x13, ex13, h⟩ := lt_e h
        refine g_nmi ex13 ?_
        refine lv_istore_n (lv' := [(1, .int x13), (0, .ref (α 54)), (2, .int v2), (3, .int v3)]) hx hb dX11_lost_41 rfl hl (by decide) rfl (fun ls hl => ?_)
        obtain ⟨x14, ex14, h⟩ := lt_e h
        refine lv_iinc (v := x14) (lv' := [(3, .int x14), (1, .int x13), (0, .ref (α 54)), (2, .int v2)]) hx hb dX11_lost_42 hl (k := 3) rfl (by rw [ex14]; rfl) (by decide) rfl (fun ls hl => ?_)
        refine lv_goto (tgt := 14) hx hb dX11_lost_45 (by decide) ?_
        exact ih _ _ _ _ _ _  hR hS (lv_sub hl [2, 1, 3, 0] rfl) h
      clear eJ40
      refine lv_icmp_ne (tgt := 39) hx hb dX11_lost_32 (by decide) (fun c15 => ?_) (fun c15 => ?_)
      · have h := ite_f c15 h
        refine lv_iconst (v := 0) hx hb dX11_lost_39 (by decide) ?_
        exact hJ40 _ _ _ _ _ _  hR hS (lv_sub hl [0, 2, 3] rfl) h
      · have h := ite_t c15 h
        refine lv_iconst (v := 1) hx hb dX11_lost_35 (by decide) ?_
        refine lv_goto (tgt := 40) hx hb dX11_lost_36 (by decide) ?_
        exact hJ40 _ _ _ _ _ _  hR hS (lv_sub hl [0, 2, 3] rfl) h

set_option maxHeartbeats 4000000 in
set_option maxRecDepth 100000 in
theorem w_X11_lost_L4 {p : Program} {l : Launch} {e : Env} {s : State} {m : MethodId} {args : Array Value} {below : List Frame} {meth : Method} {c : Code} {E : En} {α : Nat → Nat} {g : Nat × Nat} (C : Cx p s m args meth c RX11 cX11_lost 4 (some .int) E) {z : Int32 × St} {K54 : Int32 → St → Option (Int32 × St)}
    (hK54 : ∀ (y1 : Int32) (S : St) (H : Heap) (locs : List Loc) (ls : Array Slot), Rp E α g S H → va_S E.2.2.1 s.heap H locs → lv_has ls 4 [(1, .int y1)] → K54 y1 S = some z → W p l e rm_X11_lost s m args below meth c H locs 0 0 (MQ below (Qi E α g z) args s 0 0 E.2.2.1) (F0 m 54 ls [])) :
    ∀ (f : Nat) (v1 : Int32) (v2 : Int32) (S : St) (H : Heap) (locs : List Loc) (ls : Array Slot), Rp E α g S H → va_S E.2.2.1 s.heap H locs → lv_has ls 4 [(0, .ref (α 54)), (1, .int v1), (2, .int v2)] → f_X11_lost_L4 K54 f v1 v2 S = some z → W p l e rm_X11_lost s m args below meth c H locs 0 0 (MQ below (Qi E α g z) args s 0 0 E.2.2.1) (F0 m 4 ls []) := by
  obtain ⟨hx, hb, hml, hown, hts, hlk, hrt, hKs⟩ := id C
  intro f
  induction f with
  | zero =>
    intro v1 v2 S H locs ls  hR hS hl h
    rw [f_X11_lost_L4] at h
    cases h
  | succ f ih =>
    intro v1 v2 S H locs ls  hR hS hl h
    rw [f_X11_lost_L4] at h
    refine lv_iload_n hx hb dX11_lost_4 rfl (lv_at hl 2 rfl) ?_
    refine lv_aload_n hx hb dX11_lost_5 rfl (lv_at hl 0 rfl) ?_
    refine g_geti C hR (k := 54) (j := 0) (live_st (by decide)) rfl rfl (vw11) inl11 (by decide) q943 dX11_lost_6 ?_
    refine lv_icmp_ge (tgt := 54) hx hb dX11_lost_9 (by decide) (fun c5 => ?_) (fun c5 => ?_)
    · have h := ite_t c5 h
      exact hK54 _ _ _ _ _  hR hS (lv_sub hl [1] rfl) h
    · have h := ite_f c5 h
      refine lv_iconst (v := 0) hx hb dX11_lost_12 (by decide) ?_
      refine lv_istore_n (lv' := [(3, .int (0 : Int32)), (0, .ref (α 54)), (1, .int v1), (2, .int v2)]) hx hb dX11_lost_13 rfl hl (by decide) rfl (fun ls hl => ?_)
      refine w_X11_lost_L14 C ?_  _ _ _ _ _ _ _  hR hS (lv_sub hl [1, 2, 3, 0] rfl) h
      · intro x16 S17 H locs ls  hR hS hl h
        obtain ⟨x18, ex18, h⟩ := lt_e h
        refine lv_iinc (v := x18) (lv' := [(2, .int x18), (0, .ref (α 54)), (1, .int x16)]) hx hb dX11_lost_48 hl (k := 2) rfl (by rw [ex18]; rfl) (by decide) rfl (fun ls hl => ?_)
        refine lv_goto (tgt := 4) hx hb dX11_lost_51 (by decide) ?_
        exact ih _ _ _ _ _ _  hR hS (lv_sub hl [1, 2, 0] rfl) h

set_option maxHeartbeats 4000000 in
set_option maxRecDepth 100000 in
theorem c_X11_lost (l : Launch) {E : En} {α : Nat → Nat} {g : Nat × Nat}  {S : St}  {z : Int32 × St} (h : f_X11_lost  S = some z) : Met l yX11_lost (wsY yX11_lost cX11_lost 4 (some .int)) rm_X11_lost (va_Pc [.ref (α 54)] (Wd E α g S)) (Qi E α g z) 0 0 E.2.2.1 := by
  refine g_met [.ref (α 54)] (by decide) rfl (Nat.le_of_ble_eq_true rfl) ?_
  intro p e s m below meth c ls C hR hl
  generalize hae : ([.ref (α 54)] : List Value).toArray = args at C ⊢
  have hl : lv_has ls 4 [(0, .ref (α 54))] := hl
  obtain ⟨hx, hb, hml, hown, hts, hlk, hrt, hKs⟩ := id C
  have hS : va_S E.2.2.1 s.heap s.heap [] := va_S.rf
  unfold f_X11_lost at h
  refine lv_iconst (v := 0) hx hb dX11_lost_0 (by decide) ?_
  refine lv_istore_n (lv' := [(1, .int (0 : Int32)), (0, .ref (α 54))]) hx hb dX11_lost_1 rfl hl (by decide) rfl (fun ls hl => ?_)
  refine lv_iconst (v := 0) hx hb dX11_lost_2 (by decide) ?_
  refine lv_istore_n (lv' := [(2, .int (0 : Int32)), (1, .int (0 : Int32)), (0, .ref (α 54))]) hx hb dX11_lost_3 rfl hl (by decide) rfl (fun ls hl => ?_)
  refine w_X11_lost_L4 C ?_  _ _ _ _ _ _ _  hR hS (lv_sub hl [2, 1, 0] rfl) h
  · intro x19 S20 H locs ls  hR hS hl h
    refine lv_iload_n hx hb dX11_lost_54 rfl (lv_at hl 0 rfl) ?_
    exact g_iret C hR hS h dX11_lost_55

/-! OneVoiceModel.isBit(IIIIII)Z -/
abbrev rm_X11_isBit : Room := { frames := 2, cells := 0, slots := 0, locals := 47 }
theorem m_X11_isBit : MV yX11_isBit RX11 cX11_isBit 8 (some .boolean) 6 := ⟨q1140, q38, q77, q1141, by decide +kernel⟩
def f_X11_isBit_L39 (K89 : St → Option (Int32 × St)) (K97 : St → Option (Int32 × St)) (v2 : Int32) (v4 : Int32) (v5 : Int32) (v6 : Int32) : Nat → Int32 → St → Option (Int32 × St)
  | 0, _, _ => none
  | f + 1, v7, S =>
    if v6 ≤ v7 then
      K97  S
    else
      gd_ (inb ((((8 : Int32) * v4) + v5) + v7) 128) <|
      gd_ (inb (v2 + v7) 16) <|
      if (rd S 55 (Int32.toNatClampNeg ((((8 : Int32) * v4) + v5) + v7))) = (rd S 63 (Int32.toNatClampNeg (v2 + v7))) then
        bd_ (f_X11_wearOf v4 (v5 + v7) S) fun r15 S16 =>
        if r15 = (2 : Int32) then
          K89  S16
        else
          lt_ (v7 + (1 : Int32)) fun x18 =>
          f_X11_isBit_L39 K89 K97 v2 v4 v5 v6 f x18 S16
      else
        K89  S

def f_X11_isBit (v1 : Int32) (v2 : Int32) (v3 : Int32) (v4 : Int32) (v5 : Int32) (v6 : Int32) (S : St) : Option (Int32 × St) :=
  gd_ (inb v4 16) <|
  if (rd S 59 (Int32.toNatClampNeg v4)) = v1 then
    gd_ (inb v4 16) <|
    if (rd S 56 (Int32.toNatClampNeg v4)) < (v5 + v6) then
      some ((0 : Int32), S)
    else
      if (v2 + v6) ≤ v3 then
        f_X11_isBit_L39
          (fun  (S19 : St) =>
            some ((0 : Int32), S19))
          (fun  (S20 : St) =>
            some ((1 : Int32), S20))
          v2 v4 v5 v6 FU (0 : Int32) S
      else
        some ((0 : Int32), S)
  else
    some ((0 : Int32), S)

set_option maxHeartbeats 4000000 in
set_option maxRecDepth 100000 in
theorem w_X11_isBit_L39 {p : Program} {l : Launch} {e : Env} {s : State} {m : MethodId} {args : Array Value} {below : List Frame} {meth : Method} {c : Code} {E : En} {α : Nat → Nat} {g : Nat × Nat} (C : Cx p s m args meth c RX11 cX11_isBit 8 (some .boolean) E) {z : Int32 × St} {K89 : St → Option (Int32 × St)} {K97 : St → Option (Int32 × St)} {v2 : Int32} {v4 : Int32} {v5 : Int32} {v6 : Int32}
    (hK89 : ∀ (S : St) (H : Heap) (locs : List Loc) (ls : Array Slot), Rp E α g S H → va_S E.2.2.1 s.heap H locs → lv_has ls 8 [] → K89  S = some z → W p l e rm_X11_isBit s m args below meth c H locs 0 0 (MQ below (Qi E α g z) args s 0 0 E.2.2.1) (F0 m 89 ls []))
    (hK97 : ∀ (S : St) (H : Heap) (locs : List Loc) (ls : Array Slot), Rp E α g S H → va_S E.2.2.1 s.heap H locs → lv_has ls 8 [] → K97  S = some z → W p l e rm_X11_isBit s m args below meth c H locs 0 0 (MQ below (Qi E α g z) args s 0 0 E.2.2.1) (F0 m 97 ls [])) :
    ∀ (f : Nat) (v7 : Int32) (S : St) (H : Heap) (locs : List Loc) (ls : Array Slot), Rp E α g S H → va_S E.2.2.1 s.heap H locs → lv_has ls 8 [(0, .ref (α 54)), (2, .int v2), (4, .int v4), (5, .int v5), (6, .int v6), (7, .int v7)] → f_X11_isBit_L39 K89 K97 v2 v4 v5 v6 f v7 S = some z → W p l e rm_X11_isBit s m args below meth c H locs 0 0 (MQ below (Qi E α g z) args s 0 0 E.2.2.1) (F0 m 39 ls []) := by
  obtain ⟨hx, hb, hml, hown, hts, hlk, hrt, hKs⟩ := id C
  intro f
  induction f with
  | zero =>
    intro v7 S H locs ls  hR hS hl h
    rw [f_X11_isBit_L39] at h
    cases h
  | succ f ih =>
    intro v7 S H locs ls  hR hS hl h
    rw [f_X11_isBit_L39] at h
    refine lv_iload hx hb dX11_isBit_39 (lv_at hl 5 rfl) ?_
    refine lv_iload hx hb dX11_isBit_41 (lv_at hl 4 rfl) ?_
    refine lv_icmp_ge (tgt := 97) hx hb dX11_isBit_43 (by decide) (fun c11 => ?_) (fun c11 => ?_)
    · have h := ite_t c11 h
      exact hK97  _ _ _ _  hR hS (lv_sub hl [] rfl) h
    · have h := ite_f c11 h
      refine lv_aload_n hx hb dX11_isBit_46 rfl (lv_at hl 0 rfl) ?_
      refine g_getr (t := 55) C hR (k := 54) (j := 1) (live_st (by decide)) rfl rfl (vw11) inl11 (by decide) q944 dX11_isBit_47 ?_
      refine lv_bipush (v := 8) hx hb dX11_isBit_50 (by decide) ?_
      refine lv_iload hx hb dX11_isBit_52 (lv_at hl 2 rfl) ?_
      refine lv_imul hx hb dX11_isBit_54 ?_
      refine lv_iload hx hb dX11_isBit_55 (lv_at hl 3 rfl) ?_
      refine lv_iadd hx hb dX11_isBit_57 ?_
      refine lv_iload hx hb dX11_isBit_58 (lv_at hl 5 rfl) ?_
      refine lv_iadd hx hb dX11_isBit_60 ?_
      obtain ⟨g12, h⟩ := gd_e h
      refine g_iald C hR (k := 55) (n := 128) (live_st (by decide)) rfl g12 dX11_isBit_61 ?_
      refine lv_aload_n hx hb dX11_isBit_62 rfl (lv_at hl 0 rfl) ?_
      refine g_getr (t := 63) C hR (k := 54) (j := 10) (live_st (by decide)) rfl rfl (vw11) inl11 (by decide) q953 dX11_isBit_63 ?_
      refine lv_iload_n hx hb dX11_isBit_66 rfl (lv_at hl 1 rfl) ?_
      refine lv_iload hx hb dX11_isBit_67 (lv_at hl 5 rfl) ?_
      refine lv_iadd hx hb dX11_isBit_69 ?_
      obtain ⟨g13, h⟩ := gd_e h
      refine g_iald C hR (k := 63) (n := 16) (live_st (by decide)) rfl g13 dX11_isBit_70 ?_
      refine lv_icmp_ne (tgt := 89) hx hb dX11_isBit_71 (by decide) (fun c14 => ?_) (fun c14 => ?_)
      · have h := ite_f c14 h
        exact hK89  _ _ _ _  hR hS (lv_sub hl [] rfl) h
      · have h := ite_t c14 h
        refine lv_aload_n hx hb dX11_isBit_74 rfl (lv_at hl 0 rfl) ?_
        refine lv_iload hx hb dX11_isBit_75 (lv_at hl 2 rfl) ?_
        refine lv_iload hx hb dX11_isBit_77 (lv_at hl 3 rfl) ?_
        refine lv_iload hx hb dX11_isBit_79 (lv_at hl 5 rfl) ?_
        refine lv_iadd hx hb dX11_isBit_81 ?_
        obtain ⟨r15, S16, hr15, h⟩ := bd_e h
        refine g_ci hS (g_runV C hR hS (k := 54) (As := [.int v4, .int (v5 + v7)]) (rest := []) (c_X11_wearOf l  hr15) (live_st (by decide)) rfl (vw11) m_X11_wearOf q1112 ⟨rfl, rfl⟩ ⟨Nat.le_of_ble_eq_true rfl, Nat.le_of_ble_eq_true rfl⟩ rfl hl.1 rfl (Nat.le_of_ble_eq_true rfl) dX11_isBit_82 ⟨Nat.zero_le _, Nat.zero_le _⟩) (fun H locs hR hS => ?_)
        refine lv_iconst (v := 2) hx hb dX11_isBit_85 (by decide) ?_
        refine lv_icmp_ne (tgt := 91) hx hb dX11_isBit_86 (by decide) (fun c17 => ?_) (fun c17 => ?_)
        · have h := ite_f c17 h
          obtain ⟨x18, ex18, h⟩ := lt_e h
          refine lv_iinc (v := x18) (lv' := [(7, .int x18), (0, .ref (α 54)), (2, .int v2), (4, .int v4), (5, .int v5), (6, .int v6)]) hx hb dX11_isBit_91 hl (k := 5) rfl (by rw [ex18]; rfl) (by decide) rfl (fun ls hl => ?_)
          refine lv_goto (tgt := 39) hx hb dX11_isBit_94 (by decide) ?_
          exact ih _ _ _ _ _  hR hS (lv_sub hl [1, 2, 3, 4, 5, 0] rfl) h
        · have h := ite_t c17 h
          exact hK89  _ _ _ _  hR hS (lv_sub hl [] rfl) h

set_option maxHeartbeats 4000000 in
set_option maxRecDepth 100000 in
theorem c_X11_isBit (l : Launch) {E : En} {α : Nat → Nat} {g : Nat × Nat} {v1 : Int32} {v2 : Int32} {v3 : Int32} {v4 : Int32} {v5 : Int32} {v6 : Int32} {S : St}  {z : Int32 × St} (h : f_X11_isBit v1 v2 v3 v4 v5 v6 S = some z) : Met l yX11_isBit (wsY yX11_isBit cX11_isBit 8 (some .boolean)) rm_X11_isBit (va_Pc [.ref (α 54), .int v1, .int v2, .int v3, .int v4, .int v5, .int v6] (Wd E α g S)) (Qi E α g z) 0 0 E.2.2.1 := by
  refine g_met [.ref (α 54), .int v1, .int v2, .int v3, .int v4, .int v5, .int v6] (by decide) rfl (Nat.le_of_ble_eq_true rfl) ?_
  intro p e s m below meth c ls C hR hl
  generalize hae : ([.ref (α 54), .int v1, .int v2, .int v3, .int v4, .int v5, .int v6] : List Value).toArray = args at C ⊢
  have hl : lv_has ls 8 [(0, .ref (α 54)), (1, .int v1), (2, .int v2), (3, .int v3), (4, .int v4), (5, .int v5), (6, .int v6)] := hl
  obtain ⟨hx, hb, hml, hown, hts, hlk, hrt, hKs⟩ := id C
  have hS : va_S E.2.2.1 s.heap s.heap [] := va_S.rf
  unfold f_X11_isBit at h
  refine lv_aload_n hx hb dX11_isBit_0 rfl (lv_at hl 0 rfl) ?_
  refine g_getr (t := 59) C hR (k := 54) (j := 5) (live_st (by decide)) rfl rfl (vw11) inl11 (by decide) q948 dX11_isBit_1 ?_
  refine lv_iload hx hb dX11_isBit_4 (lv_at hl 4 rfl) ?_
  obtain ⟨g6, h⟩ := gd_e h
  refine g_iald C hR (k := 59) (n := 16) (live_st (by decide)) rfl g6 dX11_isBit_6 ?_
  refine lv_iload_n hx hb dX11_isBit_7 rfl (lv_at hl 1 rfl) ?_
  refine lv_icmp_ne (tgt := 34) hx hb dX11_isBit_8 (by decide) (fun c7 => ?_) (fun c7 => ?_)
  · have h := ite_f c7 h
    refine lv_iconst (v := 0) hx hb dX11_isBit_34 (by decide) ?_
    exact g_zret C hR hS bz0 h dX11_isBit_35
  · have h := ite_t c7 h
    refine lv_iload hx hb dX11_isBit_11 (lv_at hl 5 rfl) ?_
    refine lv_iload hx hb dX11_isBit_13 (lv_at hl 6 rfl) ?_
    refine lv_iadd hx hb dX11_isBit_15 ?_
    refine lv_aload_n hx hb dX11_isBit_16 rfl (lv_at hl 0 rfl) ?_
    refine g_getr (t := 56) C hR (k := 54) (j := 2) (live_st (by decide)) rfl rfl (vw11) inl11 (by decide) q945 dX11_isBit_17 ?_
    refine lv_iload hx hb dX11_isBit_20 (lv_at hl 4 rfl) ?_
    obtain ⟨g8, h⟩ := gd_e h
    refine g_iald C hR (k := 56) (n := 16) (live_st (by decide)) rfl g8 dX11_isBit_22 ?_
    refine lv_icmp_gt (tgt := 34) hx hb dX11_isBit_23 (by decide) (fun c9 => ?_) (fun c9 => ?_)
    · have h := ite_t c9 h
      refine lv_iconst (v := 0) hx hb dX11_isBit_34 (by decide) ?_
      exact g_zret C hR hS bz0 h dX11_isBit_35
    · have h := ite_f c9 h
      refine lv_iload_n hx hb dX11_isBit_26 rfl (lv_at hl 2 rfl) ?_
      refine lv_iload hx hb dX11_isBit_27 (lv_at hl 6 rfl) ?_
      refine lv_iadd hx hb dX11_isBit_29 ?_
      refine lv_iload_n hx hb dX11_isBit_30 rfl (lv_at hl 3 rfl) ?_
      refine lv_icmp_le (tgt := 36) hx hb dX11_isBit_31 (by decide) (fun c10 => ?_) (fun c10 => ?_)
      · have h := ite_t c10 h
        refine lv_iconst (v := 0) hx hb dX11_isBit_36 (by decide) ?_
        refine lv_istore (lv' := [(7, .int (0 : Int32)), (0, .ref (α 54)), (1, .int v1), (2, .int v2), (3, .int v3), (4, .int v4), (5, .int v5), (6, .int v6)]) hx hb dX11_isBit_37 hl (by decide) rfl (fun ls hl => ?_)
        refine w_X11_isBit_L39 C ?_ ?_  _ _ _ _ _ _  hR hS (lv_sub hl [1, 3, 5, 6, 7, 0] rfl) h
        · intro  S19 H locs ls  hR hS hl h
          refine lv_iconst (v := 0) hx hb dX11_isBit_89 (by decide) ?_
          exact g_zret C hR hS bz0 h dX11_isBit_90
        · intro  S20 H locs ls  hR hS hl h
          refine lv_iconst (v := 1) hx hb dX11_isBit_97 (by decide) ?_
          exact g_zret C hR hS bz1 h dX11_isBit_98
      · have h := ite_f c10 h
        refine lv_iconst (v := 0) hx hb dX11_isBit_34 (by decide) ?_
        exact g_zret C hR hS bz0 h dX11_isBit_35

/-! OneVoiceModel.cutsOf(III)I -/
abbrev rm_X11_cutsOf : Room := { frames := 0, cells := 0, slots := 0, locals := 0 }
theorem m_X11_cutsOf : MV yX11_cutsOf RX11 cX11_cutsOf 4 (some .int) 3 := ⟨q1151, q40, q77, q1152, by decide +kernel⟩
def f_X11_cutsOf (v1 : Int32) (v2 : Int32) (v3 : Int32) (S : St) : Option (Int32 × St) :=
  lt_ (fun (t2 : Int32) (t3 : Int32) (S4 : St) =>
      gd_ (inb v1 16) <|
      if (rd S4 56 (Int32.toNatClampNeg v1)) ≤ (v2 + v3) then
        some ((t2 * (t3 + (0 : Int32))), S4)
      else
        some ((t2 * (t3 + (1 : Int32))), S4)) fun J13 =>
  if v2 ≤ 0 then
    J13 (rd S 54 7) (0 : Int32) S
  else
    J13 (rd S 54 7) (1 : Int32) S

set_option maxHeartbeats 4000000 in
set_option maxRecDepth 100000 in
theorem c_X11_cutsOf (l : Launch) {E : En} {α : Nat → Nat} {g : Nat × Nat} {v1 : Int32} {v2 : Int32} {v3 : Int32} {S : St}  {z : Int32 × St} (h : f_X11_cutsOf v1 v2 v3 S = some z) : Met l yX11_cutsOf (wsY yX11_cutsOf cX11_cutsOf 4 (some .int)) rm_X11_cutsOf (va_Pc [.ref (α 54), .int v1, .int v2, .int v3] (Wd E α g S)) (Qi E α g z) 0 0 E.2.2.1 := by
  refine g_met [.ref (α 54), .int v1, .int v2, .int v3] (by decide) rfl (Nat.le_of_ble_eq_true rfl) ?_
  intro p e s m below meth c ls C hR hl
  generalize hae : ([.ref (α 54), .int v1, .int v2, .int v3] : List Value).toArray = args at C ⊢
  have hl : lv_has ls 4 [(0, .ref (α 54)), (1, .int v1), (2, .int v2), (3, .int v3)] := hl
  obtain ⟨hx, hb, hml, hown, hts, hlk, hrt, hKs⟩ := id C
  have hS : va_S E.2.2.1 s.heap s.heap [] := va_S.rf
  unfold f_X11_cutsOf at h
  refine lv_aload_n hx hb dX11_cutsOf_0 rfl (lv_at hl 0 rfl) ?_
  refine g_geti C hR (k := 54) (j := 7) (live_st (by decide)) rfl rfl (vw11) inl11 (by decide) q950 dX11_cutsOf_1 ?_
  refine lv_iload_n hx hb dX11_cutsOf_4 rfl (lv_at hl 2 rfl) ?_
  obtain ⟨J13, eJ13, h⟩ := lt_e h
  have hJ13 : ∀ (t2 : Int32) (t3 : Int32) (S4 : St) (H : Heap) (locs : List Loc) (ls : Array Slot), Rp E α g S4 H → va_S E.2.2.1 s.heap H locs → lv_has ls 4 [(0, .ref (α 54)), (1, .int v1), (2, .int v2), (3, .int v3)] → J13 t2 t3 S4 = some z → W p l e rm_X11_cutsOf s m args below meth c H locs 0 0 (MQ below (Qi E α g z) args s 0 0 E.2.2.1) (F0 m 13 ls [.int t3, .int t2]) := by
    intro t2 t3 S4 H locs ls  hR hS hl h
    rw [eJ13] at h
    refine lv_iload_n hx hb dX11_cutsOf_13 rfl (lv_at hl 2 rfl) ?_
    refine lv_iload_n hx hb dX11_cutsOf_14 rfl (lv_at hl 3 rfl) ?_
    refine lv_iadd hx hb dX11_cutsOf_15 ?_
    refine lv_aload_n hx hb dX11_cutsOf_16 rfl (lv_at hl 0 rfl) ?_
    refine g_getr (t := 56) C hR (k := 54) (j := 2) (live_st (by decide)) rfl rfl (vw11) inl11 (by decide) q945 dX11_cutsOf_17 ?_
    refine lv_iload_n hx hb dX11_cutsOf_20 rfl (lv_at hl 1 rfl) ?_
    obtain ⟨g5, h⟩ := gd_e h
    refine g_iald C hR (k := 56) (n := 16) (live_st (by decide)) rfl g5 dX11_cutsOf_21 ?_
    refine lv_icmp_ge (tgt := 29) hx hb dX11_cutsOf_22 (by decide) (fun c6 => ?_) (fun c6 => ?_)
    · have h := ite_t c6 h
      refine lv_iconst (v := 0) hx hb dX11_cutsOf_29 (by decide) ?_
      refine lv_iadd hx hb dX11_cutsOf_30 ?_
      refine lv_imul hx hb dX11_cutsOf_31 ?_
      exact g_iret C hR hS h dX11_cutsOf_32
    · have h := ite_f c6 h
      refine lv_iconst (v := 1) hx hb dX11_cutsOf_25 (by decide) ?_
      refine lv_goto (tgt := 30) hx hb dX11_cutsOf_26 (by decide) ?_
      refine lv_iadd hx hb dX11_cutsOf_30 ?_
      refine lv_imul hx hb dX11_cutsOf_31 ?_
      exact g_iret C hR hS h dX11_cutsOf_32
  clear eJ13
  refine lv_if_le (tgt := 12) hx hb dX11_cutsOf_5 (by decide) (fun c7 => ?_) (fun c7 => ?_)
  · have h := ite_t c7 h
    refine lv_iconst (v := 0) hx hb dX11_cutsOf_12 (by decide) ?_
    exact hJ13 _ _ _ _ _ _  hR hS hl h
  · have h := ite_f c7 h
    refine lv_iconst (v := 1) hx hb dX11_cutsOf_8 (by decide) ?_
    refine lv_goto (tgt := 13) hx hb dX11_cutsOf_9 (by decide) ?_
    exact hJ13 _ _ _ _ _ _  hR hS hl h
