/-! OneVoice.bit(IJII)I -/
abbrev rm_X10_bit : Room := { frames := 4, cells := 0, slots := 0, locals := 102 }
theorem m_X10_bit : MV yX10_bit RX10 cX10_bit 6 (some .int) 4 := ⟨q511, q512, q68, q513, by decide +kernel⟩
def f_X10_bit (v1 : Int32) (v2 : Int64) (v4 : Int32) (v5 : Int32) (S : St) : Option (Int32 × St) :=
  bd_ (f_X10_below v1 (4 : Int32) S) fun r2 S3 =>
  if r2 = 0 then
    some ((-3 : Int32), S3)
  else
    bd_ (f_X10_within v4 (1 : Int32) (16 : Int32) S3) fun r5 S6 =>
    if r5 = 0 then
      some ((-3 : Int32), S6)
    else
      if (-1 : Int32) ≤ v5 then
        bd_ (f_X6_weigh v1 v2 v4 S6) fun r9 S10 =>
        bd_ (f_X6_findFirst  S10) fun r11 S12 =>
        if (rd S12 3 17) = 0 then
          some ((-1 : Int32), S12)
        else
          if v5 = (-1 : Int32) then
            some ((rd S12 3 17), S12)
          else
            if (rd S12 3 17) ≤ v5 then
              some ((-1 : Int32), S12)
            else
              gd_ (inb v5 16) <|
              some ((rd S12 13 (Int32.toNatClampNeg v5)), S12)
      else
        some ((-3 : Int32), S6)

set_option maxHeartbeats 4000000 in
set_option maxRecDepth 100000 in
theorem c_X10_bit (l : Launch) {E : En} {α : Nat → Nat} {g : Nat × Nat} {v1 : Int32} {v2 : Int64} {v4 : Int32} {v5 : Int32} {S : St}  {z : Int32 × St} (h : f_X10_bit v1 v2 v4 v5 S = some z) : Met l yX10_bit (wsY yX10_bit cX10_bit 6 (some .int)) rm_X10_bit (va_Pc [.ref (α 0), .int v1, .long v2, .int v4, .int v5] (Wd E α g S)) (Qi E α g z) 0 0 E.2.2.1 := by
  refine g_met [.ref (α 0), .int v1, .long v2, .int v4, .int v5] (by decide) rfl (Nat.le_of_ble_eq_true rfl) ?_
  intro p e s m below meth c ls C hR hl
  generalize hae : ([.ref (α 0), .int v1, .long v2, .int v4, .int v5] : List Value).toArray = args at C ⊢
  have hl : lv_has ls 6 [(0, .ref (α 0)), (1, .int v1), (2, .long v2), (4, .int v4), (5, .int v5)] := hl
  obtain ⟨hx, hb, hml, hown, hts, hlk, hrt, hKs⟩ := id C
  have hS : va_S E.2.2.1 s.heap s.heap [] := va_S.rf
  unfold f_X10_bit at h
  refine lv_iload_n hx hb dX10_bit_0 rfl (lv_at hl 1 rfl) ?_
  refine lv_iconst (v := 4) hx hb dX10_bit_1 (by decide) ?_
  obtain ⟨r2, S3, hr2, h⟩ := bd_e h
  refine g_ci hS (g_runS C hR hS (As := [.int v1, .int (4 : Int32)]) (rest := []) (c_X10_below l  hr2) m_X10_below q377 ⟨rfl, rfl⟩ ⟨Nat.le_of_ble_eq_true rfl, Nat.le_of_ble_eq_true rfl⟩ rfl hl.1 rfl (Nat.le_of_ble_eq_true rfl) dX10_bit_2 ⟨Nat.zero_le _, Nat.zero_le _⟩) (fun H locs hR hS => ?_)
  refine lv_if_eq (tgt := 25) hx hb dX10_bit_5 (by decide) (fun c4 => ?_) (fun c4 => ?_)
  · have h := ite_t c4 h
    refine lv_bipush (v := -3) hx hb dX10_bit_25 (by decide) ?_
    exact g_iret C hR hS h dX10_bit_27
  · have h := ite_f c4 h
    refine lv_iload hx hb dX10_bit_8 (lv_at hl 3 rfl) ?_
    refine lv_iconst (v := 1) hx hb dX10_bit_10 (by decide) ?_
    refine lv_bipush (v := 16) hx hb dX10_bit_11 (by decide) ?_
    obtain ⟨r5, S6, hr5, h⟩ := bd_e h
    refine g_ci hS (g_runS C hR hS (As := [.int v4, .int (1 : Int32), .int (16 : Int32)]) (rest := []) (c_X10_within l  hr5) m_X10_within q374 ⟨rfl, rfl⟩ ⟨Nat.le_of_ble_eq_true rfl, Nat.le_of_ble_eq_true rfl⟩ rfl hl.1 rfl (Nat.le_of_ble_eq_true rfl) dX10_bit_13 ⟨Nat.zero_le _, Nat.zero_le _⟩) (fun H locs hR hS => ?_)
    refine lv_if_eq (tgt := 25) hx hb dX10_bit_16 (by decide) (fun c7 => ?_) (fun c7 => ?_)
    · have h := ite_t c7 h
      refine lv_bipush (v := -3) hx hb dX10_bit_25 (by decide) ?_
      exact g_iret C hR hS h dX10_bit_27
    · have h := ite_f c7 h
      refine lv_iload hx hb dX10_bit_19 (lv_at hl 4 rfl) ?_
      refine lv_iconst (v := -1) hx hb dX10_bit_21 (by decide) ?_
      refine lv_icmp_ge (tgt := 28) hx hb dX10_bit_22 (by decide) (fun c8 => ?_) (fun c8 => ?_)
      · have h := ite_t c8 h
        refine lv_aload_n hx hb dX10_bit_28 rfl (lv_at hl 0 rfl) ?_
        refine g_getr (t := 3) C hR (k := 0) (j := 1) (live_st (by decide)) rfl rfl (vw10) inl10 (by decide) q349 dX10_bit_29 ?_
        refine lv_iload_n hx hb dX10_bit_32 rfl (lv_at hl 1 rfl) ?_
        refine lv_lload_n hx hb dX10_bit_33 rfl (lv_at hl 2 rfl) ?_
        refine lv_iload hx hb dX10_bit_34 (lv_at hl 3 rfl) ?_
        obtain ⟨r9, S10, hr9, h⟩ := bd_e h
        refine g_cv hS (g_runV C hR hS (k := 3) (As := [.int v1, .long v2, .int v4]) (rest := []) (c_X6_weigh l  hr9) (live_st (by decide)) rfl (vw6) m_X6_weigh q462 ⟨rfl, rfl⟩ ⟨Nat.le_of_ble_eq_true rfl, Nat.le_of_ble_eq_true rfl⟩ rfl hl.1 rfl (Nat.le_of_ble_eq_true rfl) dX10_bit_36 ⟨Nat.zero_le _, Nat.zero_le _⟩) (fun H locs hR hS => ?_)
        refine lv_aload_n hx hb dX10_bit_39 rfl (lv_at hl 0 rfl) ?_
        refine g_getr (t := 3) C hR (k := 0) (j := 1) (live_st (by decide)) rfl rfl (vw10) inl10 (by decide) q349 dX10_bit_40 ?_
        obtain ⟨r11, S12, hr11, h⟩ := bd_e h
        refine g_cv hS (g_runV C hR hS (k := 3) (As := []) (rest := []) (c_X6_findFirst l  hr11) (live_st (by decide)) rfl (vw6) m_X6_findFirst q514 ⟨rfl, rfl⟩ ⟨Nat.le_of_ble_eq_true rfl, Nat.le_of_ble_eq_true rfl⟩ rfl hl.1 rfl (Nat.le_of_ble_eq_true rfl) dX10_bit_43 ⟨Nat.zero_le _, Nat.zero_le _⟩) (fun H locs hR hS => ?_)
        refine lv_aload_n hx hb dX10_bit_46 rfl (lv_at hl 0 rfl) ?_
        refine g_getr (t := 3) C hR (k := 0) (j := 1) (live_st (by decide)) rfl rfl (vw10) inl10 (by decide) q349 dX10_bit_47 ?_
        refine g_geti C hR (k := 3) (j := 17) (live_st (by decide)) rfl rfl (vw6) inl6 (by decide) q140 dX10_bit_50 ?_
        refine lv_if_ne (tgt := 58) hx hb dX10_bit_53 (by decide) (fun c13 => ?_) (fun c13 => ?_)
        · have h := ite_f c13 h
          refine lv_iload hx hb dX10_bit_58 (lv_at hl 4 rfl) ?_
          refine lv_iconst (v := -1) hx hb dX10_bit_60 (by decide) ?_
          refine lv_icmp_ne (tgt := 72) hx hb dX10_bit_61 (by decide) (fun c14 => ?_) (fun c14 => ?_)
          · have h := ite_f c14 h
            refine lv_iload hx hb dX10_bit_72 (lv_at hl 4 rfl) ?_
            refine lv_aload_n hx hb dX10_bit_74 rfl (lv_at hl 0 rfl) ?_
            refine g_getr (t := 3) C hR (k := 0) (j := 1) (live_st (by decide)) rfl rfl (vw10) inl10 (by decide) q349 dX10_bit_75 ?_
            refine g_geti C hR (k := 3) (j := 17) (live_st (by decide)) rfl rfl (vw6) inl6 (by decide) q140 dX10_bit_78 ?_
            refine lv_icmp_ge (tgt := 97) hx hb dX10_bit_81 (by decide) (fun c15 => ?_) (fun c15 => ?_)
            · have h := ite_t c15 h
              refine lv_iconst (v := -1) hx hb dX10_bit_97 (by decide) ?_
              exact g_iret C hR hS h dX10_bit_98
            · have h := ite_f c15 h
              refine lv_aload_n hx hb dX10_bit_84 rfl (lv_at hl 0 rfl) ?_
              refine g_getr (t := 3) C hR (k := 0) (j := 1) (live_st (by decide)) rfl rfl (vw10) inl10 (by decide) q349 dX10_bit_85 ?_
              refine g_getr (t := 13) C hR (k := 3) (j := 16) (live_st (by decide)) rfl rfl (vw6) inl6 (by decide) q139 dX10_bit_88 ?_
              refine lv_iload hx hb dX10_bit_91 (lv_at hl 4 rfl) ?_
              obtain ⟨g16, h⟩ := gd_e h
              refine g_iald C hR (k := 13) (n := 16) (live_st (by decide)) rfl g16 dX10_bit_93 ?_
              refine lv_goto (tgt := 98) hx hb dX10_bit_94 (by decide) ?_
              exact g_iret C hR hS h dX10_bit_98
          · have h := ite_t c14 h
            refine lv_aload_n hx hb dX10_bit_64 rfl (lv_at hl 0 rfl) ?_
            refine g_getr (t := 3) C hR (k := 0) (j := 1) (live_st (by decide)) rfl rfl (vw10) inl10 (by decide) q349 dX10_bit_65 ?_
            refine g_geti C hR (k := 3) (j := 17) (live_st (by decide)) rfl rfl (vw6) inl6 (by decide) q140 dX10_bit_68 ?_
            exact g_iret C hR hS h dX10_bit_71
        · have h := ite_t c13 h
          refine lv_iconst (v := -1) hx hb dX10_bit_56 (by decide) ?_
          exact g_iret C hR hS h dX10_bit_57
      · have h := ite_f c8 h
        refine lv_bipush (v := -3) hx hb dX10_bit_25 (by decide) ?_
        exact g_iret C hR hS h dX10_bit_27

/-! OneVoice.write(JI)I -/
abbrev rm_X10_write : Room := { frames := 1, cells := 0, slots := 0, locals := 24 }
theorem m_X10_write : MV yX10_write RX10 cX10_write 4 (some .int) 2 := ⟨q530, q531, q68, q532, by decide +kernel⟩
def f_X10_write (v1 : Int64) (v3 : Int32) (S : St) : Option (Int32 × St) :=
  bd_ (f_X10_within v3 (1 : Int32) (8 : Int32) S) fun r1 S2 =>
  if r1 = 0 then
    some ((-3 : Int32), S2)
  else
    if ((rd S2 20 1) + v3) ≤ (200 : Int32) then
      bd_ (f_X9_append v1 v3 S2) fun r5 S6 =>
      some (r5, S6)
    else
      some ((-5 : Int32), S2)

set_option maxHeartbeats 4000000 in
set_option maxRecDepth 100000 in
theorem c_X10_write (l : Launch) {E : En} {α : Nat → Nat} {g : Nat × Nat} {v1 : Int64} {v3 : Int32} {S : St}  {z : Int32 × St} (h : f_X10_write v1 v3 S = some z) : Met l yX10_write (wsY yX10_write cX10_write 4 (some .int)) rm_X10_write (va_Pc [.ref (α 0), .long v1, .int v3] (Wd E α g S)) (Qi E α g z) 0 0 E.2.2.1 := by
  refine g_met [.ref (α 0), .long v1, .int v3] (by decide) rfl (Nat.le_of_ble_eq_true rfl) ?_
  intro p e s m below meth c ls C hR hl
  generalize hae : ([.ref (α 0), .long v1, .int v3] : List Value).toArray = args at C ⊢
  have hl : lv_has ls 4 [(0, .ref (α 0)), (1, .long v1), (3, .int v3)] := hl
  obtain ⟨hx, hb, hml, hown, hts, hlk, hrt, hKs⟩ := id C
  have hS : va_S E.2.2.1 s.heap s.heap [] := va_S.rf
  unfold f_X10_write at h
  refine lv_iload_n hx hb dX10_write_0 rfl (lv_at hl 2 rfl) ?_
  refine lv_iconst (v := 1) hx hb dX10_write_1 (by decide) ?_
  refine lv_bipush (v := 8) hx hb dX10_write_2 (by decide) ?_
  obtain ⟨r1, S2, hr1, h⟩ := bd_e h
  refine g_ci hS (g_runS C hR hS (As := [.int v3, .int (1 : Int32), .int (8 : Int32)]) (rest := []) (c_X10_within l  hr1) m_X10_within q374 ⟨rfl, rfl⟩ ⟨Nat.le_of_ble_eq_true rfl, Nat.le_of_ble_eq_true rfl⟩ rfl hl.1 rfl (Nat.le_of_ble_eq_true rfl) dX10_write_4 ⟨Nat.zero_le _, Nat.zero_le _⟩) (fun H locs hR hS => ?_)
  refine lv_if_ne (tgt := 13) hx hb dX10_write_7 (by decide) (fun c3 => ?_) (fun c3 => ?_)
  · have h := ite_f c3 h
    refine lv_aload_n hx hb dX10_write_13 rfl (lv_at hl 0 rfl) ?_
    refine g_getr (t := 20) C hR (k := 0) (j := 3) (live_st (by decide)) rfl rfl (vw10) inl10 (by decide) q351 dX10_write_14 ?_
    refine g_geti C hR (k := 20) (j := 1) (live_st (by decide)) rfl rfl (vw9) inl9 (by decide) q252 dX10_write_17 ?_
    refine lv_iload_n hx hb dX10_write_20 rfl (lv_at hl 2 rfl) ?_
    refine lv_iadd hx hb dX10_write_21 ?_
    refine lv_sipush (v := 200) hx hb dX10_write_22 (by decide) ?_
    refine lv_icmp_le (tgt := 31) hx hb dX10_write_25 (by decide) (fun c4 => ?_) (fun c4 => ?_)
    · have h := ite_t c4 h
      refine lv_aload_n hx hb dX10_write_31 rfl (lv_at hl 0 rfl) ?_
      refine g_getr (t := 20) C hR (k := 0) (j := 3) (live_st (by decide)) rfl rfl (vw10) inl10 (by decide) q351 dX10_write_32 ?_
      refine lv_lload_n hx hb dX10_write_35 rfl (lv_at hl 1 rfl) ?_
      refine lv_iload_n hx hb dX10_write_36 rfl (lv_at hl 2 rfl) ?_
      obtain ⟨r5, S6, hr5, h⟩ := bd_e h
      refine g_ci hS (g_runV C hR hS (k := 20) (As := [.long v1, .int v3]) (rest := []) (c_X9_append l  hr5) (live_st (by decide)) rfl (vw9) m_X9_append q533 ⟨rfl, rfl⟩ ⟨Nat.le_of_ble_eq_true rfl, Nat.le_of_ble_eq_true rfl⟩ rfl hl.1 rfl (Nat.le_of_ble_eq_true rfl) dX10_write_37 ⟨Nat.zero_le _, Nat.zero_le _⟩) (fun H locs hR hS => ?_)
      exact g_iret C hR hS h dX10_write_40
    · have h := ite_f c4 h
      refine lv_bipush (v := -5) hx hb dX10_write_28 (by decide) ?_
      exact g_iret C hR hS h dX10_write_30
  · have h := ite_t c3 h
    refine lv_bipush (v := -3) hx hb dX10_write_10 (by decide) ?_
    exact g_iret C hR hS h dX10_write_12

/-! OneVoice.erase()I -/
abbrev rm_X10_erase : Room := { frames := 1, cells := 0, slots := 0, locals := 21 }
theorem m_X10_erase : MV yX10_erase RX10 cX10_erase 1 (some .int) 0 := ⟨q538, q539, q68, q540, by decide +kernel⟩
def f_X10_erase  (S : St) : Option (Int32 × St) :=
  bd_ (f_X9_empty  S) fun r1 S2 =>
  some (r1, S2)

set_option maxHeartbeats 4000000 in
set_option maxRecDepth 100000 in
theorem c_X10_erase (l : Launch) {E : En} {α : Nat → Nat} {g : Nat × Nat}  {S : St}  {z : Int32 × St} (h : f_X10_erase  S = some z) : Met l yX10_erase (wsY yX10_erase cX10_erase 1 (some .int)) rm_X10_erase (va_Pc [.ref (α 0)] (Wd E α g S)) (Qi E α g z) 0 0 E.2.2.1 := by
  refine g_met [.ref (α 0)] (by decide) rfl (Nat.le_of_ble_eq_true rfl) ?_
  intro p e s m below meth c ls C hR hl
  generalize hae : ([.ref (α 0)] : List Value).toArray = args at C ⊢
  have hl : lv_has ls 1 [(0, .ref (α 0))] := hl
  obtain ⟨hx, hb, hml, hown, hts, hlk, hrt, hKs⟩ := id C
  have hS : va_S E.2.2.1 s.heap s.heap [] := va_S.rf
  unfold f_X10_erase at h
  refine lv_aload_n hx hb dX10_erase_0 rfl (lv_at hl 0 rfl) ?_
  refine g_getr (t := 20) C hR (k := 0) (j := 3) (live_st (by decide)) rfl rfl (vw10) inl10 (by decide) q351 dX10_erase_1 ?_
  obtain ⟨r1, S2, hr1, h⟩ := bd_e h
  refine g_ci hS (g_runV C hR hS (k := 20) (As := []) (rest := []) (c_X9_empty l  hr1) (live_st (by decide)) rfl (vw9) m_X9_empty q541 ⟨rfl, rfl⟩ ⟨Nat.le_of_ble_eq_true rfl, Nat.le_of_ble_eq_true rfl⟩ rfl hl.1 rfl (Nat.le_of_ble_eq_true rfl) dX10_erase_4 ⟨Nat.zero_le _, Nat.zero_le _⟩) (fun H locs hR hS => ?_)
  exact g_iret C hR hS h dX10_erase_7

/-! OneVoice.fault()I -/
abbrev rm_X10_fault : Room := { frames := 7, cells := 0, slots := 0, locals := 149 }
theorem m_X10_fault : MV yX10_fault RX10 cX10_fault 1 (some .int) 0 := ⟨q546, q547, q68, q548, by decide +kernel⟩
def f_X10_fault  (S : St) : Option (Int32 × St) :=
  bd_ (f_X9_read  S) fun r1 S2 =>
  some (r1, S2)

set_option maxHeartbeats 4000000 in
set_option maxRecDepth 100000 in
theorem c_X10_fault (l : Launch) {E : En} {α : Nat → Nat} {g : Nat × Nat}  {S : St}  {z : Int32 × St} (h : f_X10_fault  S = some z) : Met l yX10_fault (wsY yX10_fault cX10_fault 1 (some .int)) rm_X10_fault (va_Pc [.ref (α 0)] (Wd E α g S)) (Qi E α g z) 0 0 E.2.2.1 := by
  refine g_met [.ref (α 0)] (by decide) rfl (Nat.le_of_ble_eq_true rfl) ?_
  intro p e s m below meth c ls C hR hl
  generalize hae : ([.ref (α 0)] : List Value).toArray = args at C ⊢
  have hl : lv_has ls 1 [(0, .ref (α 0))] := hl
  obtain ⟨hx, hb, hml, hown, hts, hlk, hrt, hKs⟩ := id C
  have hS : va_S E.2.2.1 s.heap s.heap [] := va_S.rf
  unfold f_X10_fault at h
  refine lv_aload_n hx hb dX10_fault_0 rfl (lv_at hl 0 rfl) ?_
  refine g_getr (t := 20) C hR (k := 0) (j := 3) (live_st (by decide)) rfl rfl (vw10) inl10 (by decide) q351 dX10_fault_1 ?_
  obtain ⟨r1, S2, hr1, h⟩ := bd_e h
  refine g_ci hS (g_runV C hR hS (k := 20) (As := []) (rest := []) (c_X9_read l  hr1) (live_st (by decide)) rfl (vw9) m_X9_read q549 ⟨rfl, rfl⟩ ⟨Nat.le_of_ble_eq_true rfl, Nat.le_of_ble_eq_true rfl⟩ rfl hl.1 rfl (Nat.le_of_ble_eq_true rfl) dX10_fault_4 ⟨Nat.zero_le _, Nat.zero_le _⟩) (fun H locs hR hS => ?_)
  exact g_iret C hR hS h dX10_fault_7

/-! OneVoice.follow(LOneVoice$Row;)V -/
abbrev rm_X10_follow : Room := { frames := 1, cells := 0, slots := 0, locals := 23 }
theorem m_X10_follow : MV yX10_follow RX10 cX10_follow 2 none 1 := ⟨q654, q17, q68, q655, by decide +kernel⟩
def f_X10_follow (n1 : Nat) (S : St) : Option (Unit × St) :=
  if (rd S (23 + n1) 0) = (0 : Int32) then
    bd_ (f_X1_tellWord n1 S) fun r3 S4 =>
    some ((), S4)
  else
  if (rd S (23 + n1) 0) = (1 : Int32) then
    bd_ (f_X1_tellLine n1 S) fun r6 S7 =>
    some ((), S7)
  else
  if (rd S (23 + n1) 0) = (2 : Int32) then
    lt_ (wr S 3 4 (rd S (23 + n1) 1)) fun S9 =>
    some ((), S9)
  else
  if (rd S (23 + n1) 0) = (3 : Int32) then
    bd_ (f_X7_join (rd S (23 + n1) 1) (rd S (33 + n1) (Int32.toNatClampNeg (0 : Int32))) S) fun r11 S12 =>
    some ((), S12)
  else
  if (rd S (23 + n1) 0) = (4 : Int32) then
    bd_ (f_X7_part (rd S (23 + n1) 1) (rd S (33 + n1) (Int32.toNatClampNeg (0 : Int32))) S) fun r14 S15 =>
    some ((), S15)
  else
  some ((), S)

set_option maxHeartbeats 4000000 in
set_option maxRecDepth 100000 in
theorem c_X10_follow (l : Launch) {E : En} {α : Nat → Nat} {g : Nat × Nat} {n1 : Nat} {S : St} (hn1 : n1 < 10) {z : Unit × St} (h : f_X10_follow n1 S = some z) : Met l yX10_follow (wsY yX10_follow cX10_follow 2 none) rm_X10_follow (va_Pc [.ref (α 0), .ref (α (23 + n1))] (Wd E α g S)) (Qv E α g z) 0 0 E.2.2.1 := by
  refine g_met [.ref (α 0), .ref (α (23 + n1))] (by decide) rfl (Nat.le_of_ble_eq_true rfl) ?_
  intro p e s m below meth c ls C hR hl
  generalize hae : ([.ref (α 0), .ref (α (23 + n1))] : List Value).toArray = args at C ⊢
  have hl : lv_has ls 2 [(0, .ref (α 0)), (1, .ref (α (23 + n1)))] := hl
  obtain ⟨hx, hb, hml, hown, hts, hlk, hrt, hKs⟩ := id C
  have hS : va_S E.2.2.1 s.heap s.heap [] := va_S.rf
  unfold f_X10_follow at h
  refine lv_aload_n hx hb dX10_follow_0 rfl (lv_at hl 1 rfl) ?_
  refine g_geti C hR (k := (23 + n1)) (j := 0) (live_r hn1) (lay_r hn1) rfl (vw5) inl5 (by decide) q231 dX10_follow_1 ?_
  by_cases c2 : (rd S (23 + n1) 0) = (0 : Int32)
  · have h := ite_t c2 h
    refine lv_tableIn (off := 36) (tgt := 40) hx hb dX10_follow_4 (by rw [c2]; decide) (by rw [c2]; decide) (by rw [c2]; rfl) (by decide) ?_
    refine lv_aload_n hx hb dX10_follow_40 rfl (lv_at hl 0 rfl) ?_
    refine g_getr (t := 14) C hR (k := 0) (j := 2) (live_st (by decide)) rfl rfl (vw10) inl10 (by decide) q350 dX10_follow_41 ?_
    refine lv_aload_n hx hb dX10_follow_44 rfl (lv_at hl 1 rfl) ?_
    obtain ⟨r3, S4, hr3, h⟩ := bd_e h
    refine g_cv hS (g_runV C hR hS (k := 14) (As := [.ref (α (23 + n1))]) (rest := []) (c_X1_tellWord l hn1 hr3) (live_st (by decide)) rfl (vw1) m_X1_tellWord q656 ⟨rfl, rfl⟩ ⟨Nat.le_of_ble_eq_true rfl, Nat.le_of_ble_eq_true rfl⟩ rfl hl.1 rfl (Nat.le_of_ble_eq_true rfl) dX10_follow_45 ⟨Nat.zero_le _, Nat.zero_le _⟩) (fun H locs hR hS => ?_)
    refine lv_goto (tgt := 116) hx hb dX10_follow_48 (by decide) ?_
    exact g_vret C hR hS h dX10_follow_116
  have h := ite_f c2 h
  by_cases c5 : (rd S (23 + n1) 0) = (1 : Int32)
  · have h := ite_t c5 h
    refine lv_tableIn (off := 47) (tgt := 51) hx hb dX10_follow_4 (by rw [c5]; decide) (by rw [c5]; decide) (by rw [c5]; rfl) (by decide) ?_
    refine lv_aload_n hx hb dX10_follow_51 rfl (lv_at hl 0 rfl) ?_
    refine g_getr (t := 14) C hR (k := 0) (j := 2) (live_st (by decide)) rfl rfl (vw10) inl10 (by decide) q350 dX10_follow_52 ?_
    refine lv_aload_n hx hb dX10_follow_55 rfl (lv_at hl 1 rfl) ?_
    obtain ⟨r6, S7, hr6, h⟩ := bd_e h
    refine g_cv hS (g_runV C hR hS (k := 14) (As := [.ref (α (23 + n1))]) (rest := []) (c_X1_tellLine l hn1 hr6) (live_st (by decide)) rfl (vw1) m_X1_tellLine q660 ⟨rfl, rfl⟩ ⟨Nat.le_of_ble_eq_true rfl, Nat.le_of_ble_eq_true rfl⟩ rfl hl.1 rfl (Nat.le_of_ble_eq_true rfl) dX10_follow_56 ⟨Nat.zero_le _, Nat.zero_le _⟩) (fun H locs hR hS => ?_)
    refine lv_goto (tgt := 116) hx hb dX10_follow_59 (by decide) ?_
    exact g_vret C hR hS h dX10_follow_116
  have h := ite_f c5 h
  by_cases c8 : (rd S (23 + n1) 0) = (2 : Int32)
  · have h := ite_t c8 h
    refine lv_tableIn (off := 58) (tgt := 62) hx hb dX10_follow_4 (by rw [c8]; decide) (by rw [c8]; decide) (by rw [c8]; rfl) (by decide) ?_
    refine lv_aload_n hx hb dX10_follow_62 rfl (lv_at hl 0 rfl) ?_
    refine g_getr (t := 3) C hR (k := 0) (j := 1) (live_st (by decide)) rfl rfl (vw10) inl10 (by decide) q349 dX10_follow_63 ?_
    refine lv_aload_n hx hb dX10_follow_66 rfl (lv_at hl 1 rfl) ?_
    refine g_geti C hR (k := (23 + n1)) (j := 1) (live_r hn1) (lay_r hn1) rfl (vw5) inl5 (by decide) q234 dX10_follow_67 ?_
    obtain ⟨S9, eS9, h⟩ := lt_e h
    refine g_puti C hR hS (k := 3) (j := 4) (live_st (by decide)) rfl rfl (vw6) inl6 (by decide) (ty0 := tyX6) tyX6_ok nmX6 q125 rfl rfl rfl eS9 dX10_follow_70 (fun H locs hR hS => ?_)
    refine lv_goto (tgt := 116) hx hb dX10_follow_73 (by decide) ?_
    exact g_vret C hR hS h dX10_follow_116
  have h := ite_f c8 h
  by_cases c10 : (rd S (23 + n1) 0) = (3 : Int32)
  · have h := ite_t c10 h
    refine lv_tableIn (off := 72) (tgt := 76) hx hb dX10_follow_4 (by rw [c10]; decide) (by rw [c10]; decide) (by rw [c10]; rfl) (by decide) ?_
    refine lv_aload_n hx hb dX10_follow_76 rfl (lv_at hl 0 rfl) ?_
    refine g_getr (t := 43) C hR (k := 0) (j := 4) (live_st (by decide)) rfl rfl (vw10) inl10 (by decide) q352 dX10_follow_77 ?_
    refine lv_aload_n hx hb dX10_follow_80 rfl (lv_at hl 1 rfl) ?_
    refine g_geti C hR (k := (23 + n1)) (j := 1) (live_r hn1) (lay_r hn1) rfl (vw5) inl5 (by decide) q234 dX10_follow_81 ?_
    refine lv_aload_n hx hb dX10_follow_84 rfl (lv_at hl 1 rfl) ?_
    refine g_getr (t := (33 + n1)) C hR (k := (23 + n1)) (j := 2) (live_r hn1) (lay_r hn1) rfl (vw5) inl5 (by decide) q238 dX10_follow_85 ?_
    refine lv_iconst (v := 0) hx hb dX10_follow_88 (by decide) ?_
    refine g_iald C hR (k := (33 + n1)) (n := 8) (live_ri hn1) (lay_ri hn1) (show inb (0 : Int32) 8 by decide) dX10_follow_89 ?_
    obtain ⟨r11, S12, hr11, h⟩ := bd_e h
    refine g_cv hS (g_runV C hR hS (k := 43) (As := [.int (rd S (23 + n1) 1), .int (rd S (33 + n1) (Int32.toNatClampNeg (0 : Int32)))]) (rest := []) (c_X7_join l  hr11) (live_st (by decide)) rfl (vw7) m_X7_join q664 ⟨rfl, rfl⟩ ⟨Nat.le_of_ble_eq_true rfl, Nat.le_of_ble_eq_true rfl⟩ rfl hl.1 rfl (Nat.le_of_ble_eq_true rfl) dX10_follow_90 ⟨Nat.zero_le _, Nat.zero_le _⟩) (fun H locs hR hS => ?_)
    refine lv_goto (tgt := 116) hx hb dX10_follow_93 (by decide) ?_
    exact g_vret C hR hS h dX10_follow_116
  have h := ite_f c10 h
  by_cases c13 : (rd S (23 + n1) 0) = (4 : Int32)
  · have h := ite_t c13 h
    refine lv_tableIn (off := 92) (tgt := 96) hx hb dX10_follow_4 (by rw [c13]; decide) (by rw [c13]; decide) (by rw [c13]; rfl) (by decide) ?_
    refine lv_aload_n hx hb dX10_follow_96 rfl (lv_at hl 0 rfl) ?_
    refine g_getr (t := 43) C hR (k := 0) (j := 4) (live_st (by decide)) rfl rfl (vw10) inl10 (by decide) q352 dX10_follow_97 ?_
    refine lv_aload_n hx hb dX10_follow_100 rfl (lv_at hl 1 rfl) ?_
    refine g_geti C hR (k := (23 + n1)) (j := 1) (live_r hn1) (lay_r hn1) rfl (vw5) inl5 (by decide) q234 dX10_follow_101 ?_
    refine lv_aload_n hx hb dX10_follow_104 rfl (lv_at hl 1 rfl) ?_
    refine g_getr (t := (33 + n1)) C hR (k := (23 + n1)) (j := 2) (live_r hn1) (lay_r hn1) rfl (vw5) inl5 (by decide) q238 dX10_follow_105 ?_
    refine lv_iconst (v := 0) hx hb dX10_follow_108 (by decide) ?_
    refine g_iald C hR (k := (33 + n1)) (n := 8) (live_ri hn1) (lay_ri hn1) (show inb (0 : Int32) 8 by decide) dX10_follow_109 ?_
    obtain ⟨r14, S15, hr14, h⟩ := bd_e h
    refine g_cv hS (g_runV C hR hS (k := 43) (As := [.int (rd S (23 + n1) 1), .int (rd S (33 + n1) (Int32.toNatClampNeg (0 : Int32)))]) (rest := []) (c_X7_part l  hr14) (live_st (by decide)) rfl (vw7) m_X7_part q668 ⟨rfl, rfl⟩ ⟨Nat.le_of_ble_eq_true rfl, Nat.le_of_ble_eq_true rfl⟩ rfl hl.1 rfl (Nat.le_of_ble_eq_true rfl) dX10_follow_110 ⟨Nat.zero_le _, Nat.zero_le _⟩) (fun H locs hR hS => ?_)
    refine lv_goto (tgt := 116) hx hb dX10_follow_113 (by decide) ?_
    exact g_vret C hR hS h dX10_follow_116
  have h := ite_f c13 h
  have c2 := tsw_ne (k := 0) c2 (by decide)
  have c5 := tsw_ne (k := 1) c5 (by decide)
  have c8 := tsw_ne (k := 2) c8 (by decide)
  have c10 := tsw_ne (k := 3) c10 (by decide)
  have c13 := tsw_ne (k := 4) c13 (by decide)
  refine lv_tableOut (tgt := 116) hx hb dX10_follow_4 (by omega) (by decide) ?_
  exact g_vret C hR hS h dX10_follow_116

/-! OneVoice.told()I -/
abbrev rm_X10_told : Room := { frames := 7, cells := 0, slots := 0, locals := 149 }
theorem m_X10_told : MV yX10_told RX10 cX10_told 3 (some .int) 0 := ⟨q649, q650, q68, q651, by decide +kernel⟩
def f_X10_told_L24 (K48 : St → Option (Int32 × St)) (v1 : Int32) : Nat → Int32 → St → Option (Int32 × St)
  | 0, _, _ => none
  | f + 1, v2, S =>
    if v1 ≤ v2 then
      K48  S
    else
      gd_ (inb v2 10) <|
      bd_ (f_X10_follow (Int32.toNatClampNeg v2) S) fun r12 S13 =>
      lt_ (v2 + (1 : Int32)) fun x14 =>
      f_X10_told_L24 K48 v1 f x14 S13

def f_X10_told  (S : St) : Option (Int32 × St) :=
  bd_ (f_X9_read  S) fun r5 S6 =>
  if r5 = (-1 : Int32) then
    lt_ (rd S6 20 3) fun x8 =>
    f_X10_told_L24
      (fun  (S15 : St) =>
        bd_ (f_X9_empty  S15) fun r16 S17 =>
        some (x8, S17))
      x8 FU (0 : Int32) S6
  else
    some ((-4 : Int32), S6)

set_option maxHeartbeats 4000000 in
set_option maxRecDepth 100000 in
theorem w_X10_told_L24 {p : Program} {l : Launch} {e : Env} {s : State} {m : MethodId} {args : Array Value} {below : List Frame} {meth : Method} {c : Code} {E : En} {α : Nat → Nat} {g : Nat × Nat} (C : Cx p s m args meth c RX10 cX10_told 3 (some .int) E) {z : Int32 × St} {K48 : St → Option (Int32 × St)} {v1 : Int32}
    (hK48 : ∀ (S : St) (H : Heap) (locs : List Loc) (ls : Array Slot), Rp E α g S H → va_S E.2.2.1 s.heap H locs → lv_has ls 3 [(0, .ref (α 0)), (1, .int v1)] → K48  S = some z → W p l e rm_X10_told s m args below meth c H locs 0 0 (MQ below (Qi E α g z) args s 0 0 E.2.2.1) (F0 m 48 ls [])) :
    ∀ (f : Nat) (v2 : Int32) (S : St) (H : Heap) (locs : List Loc) (ls : Array Slot), Rp E α g S H → va_S E.2.2.1 s.heap H locs → lv_has ls 3 [(0, .ref (α 0)), (1, .int v1), (2, .int v2)] → f_X10_told_L24 K48 v1 f v2 S = some z → W p l e rm_X10_told s m args below meth c H locs 0 0 (MQ below (Qi E α g z) args s 0 0 E.2.2.1) (F0 m 24 ls []) := by
  obtain ⟨hx, hb, hml, hown, hts, hlk, hrt, hKs⟩ := id C
  intro f
  induction f with
  | zero =>
    intro v2 S H locs ls  hR hS hl h
    rw [f_X10_told_L24] at h
    cases h
  | succ f ih =>
    intro v2 S H locs ls  hR hS hl h
    rw [f_X10_told_L24] at h
    refine lv_iload_n hx hb dX10_told_24 rfl (lv_at hl 2 rfl) ?_
    refine lv_iload_n hx hb dX10_told_25 rfl (lv_at hl 1 rfl) ?_
    refine lv_icmp_ge (tgt := 48) hx hb dX10_told_26 (by decide) (fun c9 => ?_) (fun c9 => ?_)
    · have h := ite_t c9 h
      exact hK48  _ _ _ _  hR hS (lv_sub hl [0, 1] rfl) h
    · have h := ite_f c9 h
      refine lv_aload_n hx hb dX10_told_29 rfl (lv_at hl 0 rfl) ?_
      refine lv_aload_n hx hb dX10_told_30 rfl (lv_at hl 0 rfl) ?_
      refine g_getr (t := 20) C hR (k := 0) (j := 3) (live_st (by decide)) rfl rfl (vw10) inl10 (by decide) q351 dX10_told_31 ?_
      refine g_getr (t := 22) C hR (k := 20) (j := 2) (live_st (by decide)) rfl rfl (vw9) inl9 (by decide) q254 dX10_told_34 ?_
      refine lv_iload_n hx hb dX10_told_37 rfl (lv_at hl 2 rfl) ?_
      obtain ⟨g10, h⟩ := gd_e h
      refine g_aldR C hR g10 dX10_told_38 (fun hn11 => ?_)
      obtain ⟨r12, S13, hr12, h⟩ := bd_e h
      refine g_cv hS (g_runV C hR hS (k := 0) (As := [.ref (α (23 + (Int32.toNatClampNeg v2)))]) (rest := []) (c_X10_follow l hn11 hr12) (live_st (by decide)) rfl (vw10) m_X10_follow q652 ⟨rfl, rfl⟩ ⟨Nat.le_of_ble_eq_true rfl, Nat.le_of_ble_eq_true rfl⟩ rfl hl.1 rfl (Nat.le_of_ble_eq_true rfl) dX10_told_39 ⟨Nat.zero_le _, Nat.zero_le _⟩) (fun H locs hR hS => ?_)
      obtain ⟨x14, ex14, h⟩ := lt_e h
      refine lv_iinc (v := x14) (lv' := [(2, .int x14), (0, .ref (α 0)), (1, .int v1)]) hx hb dX10_told_42 hl (k := 2) rfl (by rw [ex14]; rfl) (by decide) rfl (fun ls hl => ?_)
      refine lv_goto (tgt := 24) hx hb dX10_told_45 (by decide) ?_
      exact ih _ _ _ _ _  hR hS (lv_sub hl [1, 2, 0] rfl) h

set_option maxHeartbeats 4000000 in
set_option maxRecDepth 100000 in
theorem c_X10_told (l : Launch) {E : En} {α : Nat → Nat} {g : Nat × Nat}  {S : St}  {z : Int32 × St} (h : f_X10_told  S = some z) : Met l yX10_told (wsY yX10_told cX10_told 3 (some .int)) rm_X10_told (va_Pc [.ref (α 0)] (Wd E α g S)) (Qi E α g z) 0 0 E.2.2.1 := by
  refine g_met [.ref (α 0)] (by decide) rfl (Nat.le_of_ble_eq_true rfl) ?_
  intro p e s m below meth c ls C hR hl
  generalize hae : ([.ref (α 0)] : List Value).toArray = args at C ⊢
  have hl : lv_has ls 3 [(0, .ref (α 0))] := hl
  obtain ⟨hx, hb, hml, hown, hts, hlk, hrt, hKs⟩ := id C
  have hS : va_S E.2.2.1 s.heap s.heap [] := va_S.rf
  unfold f_X10_told at h
  refine lv_aload_n hx hb dX10_told_0 rfl (lv_at hl 0 rfl) ?_
  refine g_getr (t := 20) C hR (k := 0) (j := 3) (live_st (by decide)) rfl rfl (vw10) inl10 (by decide) q351 dX10_told_1 ?_
  obtain ⟨r5, S6, hr5, h⟩ := bd_e h
  refine g_ci hS (g_runV C hR hS (k := 20) (As := []) (rest := []) (c_X9_read l  hr5) (live_st (by decide)) rfl (vw9) m_X9_read q549 ⟨rfl, rfl⟩ ⟨Nat.le_of_ble_eq_true rfl, Nat.le_of_ble_eq_true rfl⟩ rfl hl.1 rfl (Nat.le_of_ble_eq_true rfl) dX10_told_4 ⟨Nat.zero_le _, Nat.zero_le _⟩) (fun H locs hR hS => ?_)
  refine lv_iconst (v := -1) hx hb dX10_told_7 (by decide) ?_
  refine lv_icmp_eq (tgt := 14) hx hb dX10_told_8 (by decide) (fun c7 => ?_) (fun c7 => ?_)
  · have h := ite_t c7 h
    refine lv_aload_n hx hb dX10_told_14 rfl (lv_at hl 0 rfl) ?_
    refine g_getr (t := 20) C hR (k := 0) (j := 3) (live_st (by decide)) rfl rfl (vw10) inl10 (by decide) q351 dX10_told_15 ?_
    refine g_geti C hR (k := 20) (j := 3) (live_st (by decide)) rfl rfl (vw9) inl9 (by decide) q256 dX10_told_18 ?_
    obtain ⟨x8, ex8, h⟩ := lt_e h
    refine g_nmi ex8 ?_
    refine lv_istore_n (lv' := [(1, .int x8), (0, .ref (α 0))]) hx hb dX10_told_21 rfl hl (by decide) rfl (fun ls hl => ?_)
    refine lv_iconst (v := 0) hx hb dX10_told_22 (by decide) ?_
    refine lv_istore_n (lv' := [(2, .int (0 : Int32)), (1, .int x8), (0, .ref (α 0))]) hx hb dX10_told_23 rfl hl (by decide) rfl (fun ls hl => ?_)
    refine w_X10_told_L24 C ?_  _ _ _ _ _ _  hR hS (lv_sub hl [2, 1, 0] rfl) h
    · intro  S15 H locs ls  hR hS hl h
      refine lv_aload_n hx hb dX10_told_48 rfl (lv_at hl 0 rfl) ?_
      refine g_getr (t := 20) C hR (k := 0) (j := 3) (live_st (by decide)) rfl rfl (vw10) inl10 (by decide) q351 dX10_told_49 ?_
      obtain ⟨r16, S17, hr16, h⟩ := bd_e h
      refine g_ci hS (g_runV C hR hS (k := 20) (As := []) (rest := []) (c_X9_empty l  hr16) (live_st (by decide)) rfl (vw9) m_X9_empty q541 ⟨rfl, rfl⟩ ⟨Nat.le_of_ble_eq_true rfl, Nat.le_of_ble_eq_true rfl⟩ rfl hl.1 rfl (Nat.le_of_ble_eq_true rfl) dX10_told_52 ⟨Nat.zero_le _, Nat.zero_le _⟩) (fun H locs hR hS => ?_)
      refine lv_pop hx hb dX10_told_55 rfl ?_
      refine lv_iload_n hx hb dX10_told_56 rfl (lv_at hl 1 rfl) ?_
      exact g_iret C hR hS h dX10_told_57
  · have h := ite_f c7 h
    refine lv_bipush (v := -4) hx hb dX10_told_11 (by decide) ?_
    exact g_iret C hR hS h dX10_told_13

/-! OneVoice.word(II)I -/
abbrev rm_X10_word : Room := { frames := 1, cells := 0, slots := 0, locals := 22 }
theorem m_X10_word : MV yX10_word RX10 cX10_word 3 (some .int) 2 := ⟨q673, q674, q68, q675, by decide +kernel⟩
def f_X10_word (v1 : Int32) (v2 : Int32) (S : St) : Option (Int32 × St) :=
  bd_ (f_X10_below v1 (32 : Int32) S) fun r3 S4 =>
  if r3 = 0 then
    some ((-2 : Int32), S4)
  else
    if (-1 : Int32) ≤ v2 then
      if v2 = (-1 : Int32) then
        gd_ (inb v1 32) <|
        some ((rd S4 16 (Int32.toNatClampNeg v1)), S4)
      else
        gd_ (inb v1 32) <|
        if (rd S4 16 (Int32.toNatClampNeg v1)) ≤ v2 then
          some ((-1 : Int32), S4)
        else
          bd_ (f_X1_soundOf v1 v2 S4) fun r10 S11 =>
          some (r10, S11)
    else
      some ((-3 : Int32), S4)

set_option maxHeartbeats 4000000 in
set_option maxRecDepth 100000 in
theorem c_X10_word (l : Launch) {E : En} {α : Nat → Nat} {g : Nat × Nat} {v1 : Int32} {v2 : Int32} {S : St}  {z : Int32 × St} (h : f_X10_word v1 v2 S = some z) : Met l yX10_word (wsY yX10_word cX10_word 3 (some .int)) rm_X10_word (va_Pc [.ref (α 0), .int v1, .int v2] (Wd E α g S)) (Qi E α g z) 0 0 E.2.2.1 := by
  refine g_met [.ref (α 0), .int v1, .int v2] (by decide) rfl (Nat.le_of_ble_eq_true rfl) ?_
  intro p e s m below meth c ls C hR hl
  generalize hae : ([.ref (α 0), .int v1, .int v2] : List Value).toArray = args at C ⊢
  have hl : lv_has ls 3 [(0, .ref (α 0)), (1, .int v1), (2, .int v2)] := hl
  obtain ⟨hx, hb, hml, hown, hts, hlk, hrt, hKs⟩ := id C
  have hS : va_S E.2.2.1 s.heap s.heap [] := va_S.rf
  unfold f_X10_word at h
  refine lv_iload_n hx hb dX10_word_0 rfl (lv_at hl 1 rfl) ?_
  refine lv_bipush (v := 32) hx hb dX10_word_1 (by decide) ?_
  obtain ⟨r3, S4, hr3, h⟩ := bd_e h
  refine g_ci hS (g_runS C hR hS (As := [.int v1, .int (32 : Int32)]) (rest := []) (c_X10_below l  hr3) m_X10_below q377 ⟨rfl, rfl⟩ ⟨Nat.le_of_ble_eq_true rfl, Nat.le_of_ble_eq_true rfl⟩ rfl hl.1 rfl (Nat.le_of_ble_eq_true rfl) dX10_word_3 ⟨Nat.zero_le _, Nat.zero_le _⟩) (fun H locs hR hS => ?_)
  refine lv_if_ne (tgt := 12) hx hb dX10_word_6 (by decide) (fun c5 => ?_) (fun c5 => ?_)
  · have h := ite_f c5 h
    refine lv_iload_n hx hb dX10_word_12 rfl (lv_at hl 2 rfl) ?_
    refine lv_iconst (v := -1) hx hb dX10_word_13 (by decide) ?_
    refine lv_icmp_ge (tgt := 20) hx hb dX10_word_14 (by decide) (fun c6 => ?_) (fun c6 => ?_)
    · have h := ite_t c6 h
      refine lv_iload_n hx hb dX10_word_20 rfl (lv_at hl 2 rfl) ?_
      refine lv_iconst (v := -1) hx hb dX10_word_21 (by decide) ?_
      refine lv_icmp_ne (tgt := 35) hx hb dX10_word_22 (by decide) (fun c7 => ?_) (fun c7 => ?_)
      · have h := ite_f c7 h
        refine lv_iload_n hx hb dX10_word_35 rfl (lv_at hl 2 rfl) ?_
        refine lv_aload_n hx hb dX10_word_36 rfl (lv_at hl 0 rfl) ?_
        refine g_getr (t := 14) C hR (k := 0) (j := 2) (live_st (by decide)) rfl rfl (vw10) inl10 (by decide) q350 dX10_word_37 ?_
        refine g_getr (t := 16) C hR (k := 14) (j := 1) (live_st (by decide)) rfl rfl (vw1) inl1 (by decide) q192 dX10_word_40 ?_
        refine lv_iload_n hx hb dX10_word_43 rfl (lv_at hl 1 rfl) ?_
        obtain ⟨g8, h⟩ := gd_e h
        refine g_iald C hR (k := 16) (n := 32) (live_st (by decide)) rfl g8 dX10_word_44 ?_
        refine lv_icmp_ge (tgt := 60) hx hb dX10_word_45 (by decide) (fun c9 => ?_) (fun c9 => ?_)
        · have h := ite_t c9 h
          refine lv_iconst (v := -1) hx hb dX10_word_60 (by decide) ?_
          exact g_iret C hR hS h dX10_word_61
        · have h := ite_f c9 h
          refine lv_aload_n hx hb dX10_word_48 rfl (lv_at hl 0 rfl) ?_
          refine g_getr (t := 14) C hR (k := 0) (j := 2) (live_st (by decide)) rfl rfl (vw10) inl10 (by decide) q350 dX10_word_49 ?_
          refine lv_iload_n hx hb dX10_word_52 rfl (lv_at hl 1 rfl) ?_
          refine lv_iload_n hx hb dX10_word_53 rfl (lv_at hl 2 rfl) ?_
          obtain ⟨r10, S11, hr10, h⟩ := bd_e h
          refine g_ci hS (g_runV C hR hS (k := 14) (As := [.int v1, .int v2]) (rest := []) (c_X1_soundOf l  hr10) (live_st (by decide)) rfl (vw1) m_X1_soundOf q676 ⟨rfl, rfl⟩ ⟨Nat.le_of_ble_eq_true rfl, Nat.le_of_ble_eq_true rfl⟩ rfl hl.1 rfl (Nat.le_of_ble_eq_true rfl) dX10_word_54 ⟨Nat.zero_le _, Nat.zero_le _⟩) (fun H locs hR hS => ?_)
          refine lv_goto (tgt := 61) hx hb dX10_word_57 (by decide) ?_
          exact g_iret C hR hS h dX10_word_61
      · have h := ite_t c7 h
        refine lv_aload_n hx hb dX10_word_25 rfl (lv_at hl 0 rfl) ?_
        refine g_getr (t := 14) C hR (k := 0) (j := 2) (live_st (by decide)) rfl rfl (vw10) inl10 (by decide) q350 dX10_word_26 ?_
        refine g_getr (t := 16) C hR (k := 14) (j := 1) (live_st (by decide)) rfl rfl (vw1) inl1 (by decide) q192 dX10_word_29 ?_
        refine lv_iload_n hx hb dX10_word_32 rfl (lv_at hl 1 rfl) ?_
        obtain ⟨g12, h⟩ := gd_e h
        refine g_iald C hR (k := 16) (n := 32) (live_st (by decide)) rfl g12 dX10_word_33 ?_
        exact g_iret C hR hS h dX10_word_34
    · have h := ite_f c6 h
      refine lv_bipush (v := -3) hx hb dX10_word_17 (by decide) ?_
      exact g_iret C hR hS h dX10_word_19
  · have h := ite_t c5 h
    refine lv_bipush (v := -2) hx hb dX10_word_9 (by decide) ?_
    exact g_iret C hR hS h dX10_word_11

/-! OneVoice.line(III)I -/
abbrev rm_X10_line : Room := { frames := 3, cells := 0, slots := 0, locals := 66 }
theorem m_X10_line : MV yX10_line RX10 cX10_line 4 (some .int) 3 := ⟨q681, q682, q68, q683, by decide +kernel⟩
def f_X10_line (v1 : Int32) (v2 : Int32) (v3 : Int32) (S : St) : Option (Int32 × St) :=
  bd_ (f_X1_knows v1 S) fun r1 S2 =>
  if r1 = 0 then
    some ((-2 : Int32), S2)
  else
    bd_ (f_X10_below v2 (100 : Int32) S2) fun r4 S5 =>
    if r4 = 0 then
      some ((-3 : Int32), S5)
    else
      if (-1 : Int32) ≤ v3 then
        bd_ (f_X1_spell v1 v2 S5) fun r8 S9 =>
        if r8 = 0 then
          some ((-4 : Int32), S9)
        else
          if v3 = (-1 : Int32) then
            bd_ (f_X1_spokenLength  S9) fun r14 S15 =>
            some (r14, S15)
          else
            bd_ (f_X1_spokenSound v3 S9) fun r12 S13 =>
            some (r12, S13)
      else
        some ((-3 : Int32), S5)

set_option maxHeartbeats 4000000 in
set_option maxRecDepth 100000 in
theorem c_X10_line (l : Launch) {E : En} {α : Nat → Nat} {g : Nat × Nat} {v1 : Int32} {v2 : Int32} {v3 : Int32} {S : St}  {z : Int32 × St} (h : f_X10_line v1 v2 v3 S = some z) : Met l yX10_line (wsY yX10_line cX10_line 4 (some .int)) rm_X10_line (va_Pc [.ref (α 0), .int v1, .int v2, .int v3] (Wd E α g S)) (Qi E α g z) 0 0 E.2.2.1 := by
  refine g_met [.ref (α 0), .int v1, .int v2, .int v3] (by decide) rfl (Nat.le_of_ble_eq_true rfl) ?_
  intro p e s m below meth c ls C hR hl
  generalize hae : ([.ref (α 0), .int v1, .int v2, .int v3] : List Value).toArray = args at C ⊢
  have hl : lv_has ls 4 [(0, .ref (α 0)), (1, .int v1), (2, .int v2), (3, .int v3)] := hl
  obtain ⟨hx, hb, hml, hown, hts, hlk, hrt, hKs⟩ := id C
  have hS : va_S E.2.2.1 s.heap s.heap [] := va_S.rf
  unfold f_X10_line at h
  refine lv_aload_n hx hb dX10_line_0 rfl (lv_at hl 0 rfl) ?_
  refine g_getr (t := 14) C hR (k := 0) (j := 2) (live_st (by decide)) rfl rfl (vw10) inl10 (by decide) q350 dX10_line_1 ?_
  refine lv_iload_n hx hb dX10_line_4 rfl (lv_at hl 1 rfl) ?_
  obtain ⟨r1, S2, hr1, h⟩ := bd_e h
  refine g_ci hS (g_runV C hR hS (k := 14) (As := [.int v1]) (rest := []) (c_X1_knows l  hr1) (live_st (by decide)) rfl (vw1) m_X1_knows q684 ⟨rfl, rfl⟩ ⟨Nat.le_of_ble_eq_true rfl, Nat.le_of_ble_eq_true rfl⟩ rfl hl.1 rfl (Nat.le_of_ble_eq_true rfl) dX10_line_5 ⟨Nat.zero_le _, Nat.zero_le _⟩) (fun H locs hR hS => ?_)
  refine lv_if_ne (tgt := 14) hx hb dX10_line_8 (by decide) (fun c3 => ?_) (fun c3 => ?_)
  · have h := ite_f c3 h
    refine lv_iload_n hx hb dX10_line_14 rfl (lv_at hl 2 rfl) ?_
    refine lv_bipush (v := 100) hx hb dX10_line_15 (by decide) ?_
    obtain ⟨r4, S5, hr4, h⟩ := bd_e h
    refine g_ci hS (g_runS C hR hS (As := [.int v2, .int (100 : Int32)]) (rest := []) (c_X10_below l  hr4) m_X10_below q377 ⟨rfl, rfl⟩ ⟨Nat.le_of_ble_eq_true rfl, Nat.le_of_ble_eq_true rfl⟩ rfl hl.1 rfl (Nat.le_of_ble_eq_true rfl) dX10_line_17 ⟨Nat.zero_le _, Nat.zero_le _⟩) (fun H locs hR hS => ?_)
    refine lv_if_eq (tgt := 28) hx hb dX10_line_20 (by decide) (fun c6 => ?_) (fun c6 => ?_)
    · have h := ite_t c6 h
      refine lv_bipush (v := -3) hx hb dX10_line_28 (by decide) ?_
      exact g_iret C hR hS h dX10_line_30
    · have h := ite_f c6 h
      refine lv_iload_n hx hb dX10_line_23 rfl (lv_at hl 3 rfl) ?_
      refine lv_iconst (v := -1) hx hb dX10_line_24 (by decide) ?_
      refine lv_icmp_ge (tgt := 31) hx hb dX10_line_25 (by decide) (fun c7 => ?_) (fun c7 => ?_)
      · have h := ite_t c7 h
        refine lv_aload_n hx hb dX10_line_31 rfl (lv_at hl 0 rfl) ?_
        refine g_getr (t := 14) C hR (k := 0) (j := 2) (live_st (by decide)) rfl rfl (vw10) inl10 (by decide) q350 dX10_line_32 ?_
        refine lv_iload_n hx hb dX10_line_35 rfl (lv_at hl 1 rfl) ?_
        refine lv_iload_n hx hb dX10_line_36 rfl (lv_at hl 2 rfl) ?_
        obtain ⟨r8, S9, hr8, h⟩ := bd_e h
        refine g_ci hS (g_runV C hR hS (k := 14) (As := [.int v1, .int v2]) (rest := []) (c_X1_spell l  hr8) (live_st (by decide)) rfl (vw1) m_X1_spell q689 ⟨rfl, rfl⟩ ⟨Nat.le_of_ble_eq_true rfl, Nat.le_of_ble_eq_true rfl⟩ rfl hl.1 rfl (Nat.le_of_ble_eq_true rfl) dX10_line_37 ⟨Nat.zero_le _, Nat.zero_le _⟩) (fun H locs hR hS => ?_)
        refine lv_if_ne (tgt := 46) hx hb dX10_line_40 (by decide) (fun c10 => ?_) (fun c10 => ?_)
        · have h := ite_f c10 h
          refine lv_iload_n hx hb dX10_line_46 rfl (lv_at hl 3 rfl) ?_
          refine lv_iconst (v := -1) hx hb dX10_line_47 (by decide) ?_
          refine lv_icmp_ne (tgt := 61) hx hb dX10_line_48 (by decide) (fun c11 => ?_) (fun c11 => ?_)
          · have h := ite_f c11 h
            refine lv_aload_n hx hb dX10_line_61 rfl (lv_at hl 0 rfl) ?_
            refine g_getr (t := 14) C hR (k := 0) (j := 2) (live_st (by decide)) rfl rfl (vw10) inl10 (by decide) q350 dX10_line_62 ?_
            refine lv_iload_n hx hb dX10_line_65 rfl (lv_at hl 3 rfl) ?_
            obtain ⟨r12, S13, hr12, h⟩ := bd_e h
            refine g_ci hS (g_runV C hR hS (k := 14) (As := [.int v3]) (rest := []) (c_X1_spokenSound l  hr12) (live_st (by decide)) rfl (vw1) m_X1_spokenSound q705 ⟨rfl, rfl⟩ ⟨Nat.le_of_ble_eq_true rfl, Nat.le_of_ble_eq_true rfl⟩ rfl hl.1 rfl (Nat.le_of_ble_eq_true rfl) dX10_line_66 ⟨Nat.zero_le _, Nat.zero_le _⟩) (fun H locs hR hS => ?_)
            exact g_iret C hR hS h dX10_line_69
          · have h := ite_t c11 h
            refine lv_aload_n hx hb dX10_line_51 rfl (lv_at hl 0 rfl) ?_
            refine g_getr (t := 14) C hR (k := 0) (j := 2) (live_st (by decide)) rfl rfl (vw10) inl10 (by decide) q350 dX10_line_52 ?_
            obtain ⟨r14, S15, hr14, h⟩ := bd_e h
            refine g_ci hS (g_runV C hR hS (k := 14) (As := []) (rest := []) (c_X1_spokenLength l  hr14) (live_st (by decide)) rfl (vw1) m_X1_spokenLength q701 ⟨rfl, rfl⟩ ⟨Nat.le_of_ble_eq_true rfl, Nat.le_of_ble_eq_true rfl⟩ rfl hl.1 rfl (Nat.le_of_ble_eq_true rfl) dX10_line_55 ⟨Nat.zero_le _, Nat.zero_le _⟩) (fun H locs hR hS => ?_)
            refine lv_goto (tgt := 69) hx hb dX10_line_58 (by decide) ?_
            exact g_iret C hR hS h dX10_line_69
        · have h := ite_t c10 h
          refine lv_bipush (v := -4) hx hb dX10_line_43 (by decide) ?_
          exact g_iret C hR hS h dX10_line_45
      · have h := ite_f c7 h
        refine lv_bipush (v := -3) hx hb dX10_line_28 (by decide) ?_
        exact g_iret C hR hS h dX10_line_30
  · have h := ite_t c3 h
    refine lv_bipush (v := -2) hx hb dX10_line_11 (by decide) ?_
    exact g_iret C hR hS h dX10_line_13

/-! OneVoice.jar(III)I -/
abbrev rm_X10_jar : Room := { frames := 4, cells := 0, slots := 0, locals := 103 }
theorem m_X10_jar : MV yX10_jar RX10 cX10_jar 4 (some .int) 3 := ⟨q711, q712, q68, q713, by decide +kernel⟩
def f_X10_jar (v1 : Int32) (v2 : Int32) (v3 : Int32) (S : St) : Option (Int32 × St) :=
  bd_ (f_X1_knows v1 S) fun r1 S2 =>
  if r1 = 0 then
    some ((-2 : Int32), S2)
  else
    bd_ (f_X10_below v2 (100 : Int32) S2) fun r4 S5 =>
    if r4 = 0 then
      some ((-3 : Int32), S5)
    else
      bd_ (f_X10_below v3 (4 : Int32) S5) fun r7 S8 =>
      if r7 = 0 then
        some ((-3 : Int32), S8)
      else
        bd_ (f_X1_spell v1 v2 S8) fun r10 S11 =>
        if r10 = 0 then
          some ((-4 : Int32), S11)
        else
          bd_ (f_X6_jarOfWords v3 S11) fun r13 S14 =>
          some (r13, S14)

set_option maxHeartbeats 4000000 in
set_option maxRecDepth 100000 in
theorem c_X10_jar (l : Launch) {E : En} {α : Nat → Nat} {g : Nat × Nat} {v1 : Int32} {v2 : Int32} {v3 : Int32} {S : St}  {z : Int32 × St} (h : f_X10_jar v1 v2 v3 S = some z) : Met l yX10_jar (wsY yX10_jar cX10_jar 4 (some .int)) rm_X10_jar (va_Pc [.ref (α 0), .int v1, .int v2, .int v3] (Wd E α g S)) (Qi E α g z) 0 0 E.2.2.1 := by
  refine g_met [.ref (α 0), .int v1, .int v2, .int v3] (by decide) rfl (Nat.le_of_ble_eq_true rfl) ?_
  intro p e s m below meth c ls C hR hl
  generalize hae : ([.ref (α 0), .int v1, .int v2, .int v3] : List Value).toArray = args at C ⊢
  have hl : lv_has ls 4 [(0, .ref (α 0)), (1, .int v1), (2, .int v2), (3, .int v3)] := hl
  obtain ⟨hx, hb, hml, hown, hts, hlk, hrt, hKs⟩ := id C
  have hS : va_S E.2.2.1 s.heap s.heap [] := va_S.rf
  unfold f_X10_jar at h
  refine lv_aload_n hx hb dX10_jar_0 rfl (lv_at hl 0 rfl) ?_
  refine g_getr (t := 14) C hR (k := 0) (j := 2) (live_st (by decide)) rfl rfl (vw10) inl10 (by decide) q350 dX10_jar_1 ?_
  refine lv_iload_n hx hb dX10_jar_4 rfl (lv_at hl 1 rfl) ?_
  obtain ⟨r1, S2, hr1, h⟩ := bd_e h
  refine g_ci hS (g_runV C hR hS (k := 14) (As := [.int v1]) (rest := []) (c_X1_knows l  hr1) (live_st (by decide)) rfl (vw1) m_X1_knows q684 ⟨rfl, rfl⟩ ⟨Nat.le_of_ble_eq_true rfl, Nat.le_of_ble_eq_true rfl⟩ rfl hl.1 rfl (Nat.le_of_ble_eq_true rfl) dX10_jar_5 ⟨Nat.zero_le _, Nat.zero_le _⟩) (fun H locs hR hS => ?_)
  refine lv_if_ne (tgt := 14) hx hb dX10_jar_8 (by decide) (fun c3 => ?_) (fun c3 => ?_)
  · have h := ite_f c3 h
    refine lv_iload_n hx hb dX10_jar_14 rfl (lv_at hl 2 rfl) ?_
    refine lv_bipush (v := 100) hx hb dX10_jar_15 (by decide) ?_
    obtain ⟨r4, S5, hr4, h⟩ := bd_e h
    refine g_ci hS (g_runS C hR hS (As := [.int v2, .int (100 : Int32)]) (rest := []) (c_X10_below l  hr4) m_X10_below q377 ⟨rfl, rfl⟩ ⟨Nat.le_of_ble_eq_true rfl, Nat.le_of_ble_eq_true rfl⟩ rfl hl.1 rfl (Nat.le_of_ble_eq_true rfl) dX10_jar_17 ⟨Nat.zero_le _, Nat.zero_le _⟩) (fun H locs hR hS => ?_)
    refine lv_if_eq (tgt := 31) hx hb dX10_jar_20 (by decide) (fun c6 => ?_) (fun c6 => ?_)
    · have h := ite_t c6 h
      refine lv_bipush (v := -3) hx hb dX10_jar_31 (by decide) ?_
      exact g_iret C hR hS h dX10_jar_33
    · have h := ite_f c6 h
      refine lv_iload_n hx hb dX10_jar_23 rfl (lv_at hl 3 rfl) ?_
      refine lv_iconst (v := 4) hx hb dX10_jar_24 (by decide) ?_
      obtain ⟨r7, S8, hr7, h⟩ := bd_e h
      refine g_ci hS (g_runS C hR hS (As := [.int v3, .int (4 : Int32)]) (rest := []) (c_X10_below l  hr7) m_X10_below q377 ⟨rfl, rfl⟩ ⟨Nat.le_of_ble_eq_true rfl, Nat.le_of_ble_eq_true rfl⟩ rfl hl.1 rfl (Nat.le_of_ble_eq_true rfl) dX10_jar_25 ⟨Nat.zero_le _, Nat.zero_le _⟩) (fun H locs hR hS => ?_)
      refine lv_if_ne (tgt := 34) hx hb dX10_jar_28 (by decide) (fun c9 => ?_) (fun c9 => ?_)
      · have h := ite_f c9 h
        refine lv_aload_n hx hb dX10_jar_34 rfl (lv_at hl 0 rfl) ?_
        refine g_getr (t := 14) C hR (k := 0) (j := 2) (live_st (by decide)) rfl rfl (vw10) inl10 (by decide) q350 dX10_jar_35 ?_
        refine lv_iload_n hx hb dX10_jar_38 rfl (lv_at hl 1 rfl) ?_
        refine lv_iload_n hx hb dX10_jar_39 rfl (lv_at hl 2 rfl) ?_
        obtain ⟨r10, S11, hr10, h⟩ := bd_e h
        refine g_ci hS (g_runV C hR hS (k := 14) (As := [.int v1, .int v2]) (rest := []) (c_X1_spell l  hr10) (live_st (by decide)) rfl (vw1) m_X1_spell q689 ⟨rfl, rfl⟩ ⟨Nat.le_of_ble_eq_true rfl, Nat.le_of_ble_eq_true rfl⟩ rfl hl.1 rfl (Nat.le_of_ble_eq_true rfl) dX10_jar_40 ⟨Nat.zero_le _, Nat.zero_le _⟩) (fun H locs hR hS => ?_)
        refine lv_if_ne (tgt := 49) hx hb dX10_jar_43 (by decide) (fun c12 => ?_) (fun c12 => ?_)
        · have h := ite_f c12 h
          refine lv_aload_n hx hb dX10_jar_49 rfl (lv_at hl 0 rfl) ?_
          refine g_getr (t := 3) C hR (k := 0) (j := 1) (live_st (by decide)) rfl rfl (vw10) inl10 (by decide) q349 dX10_jar_50 ?_
          refine lv_aload_n hx hb dX10_jar_53 rfl (lv_at hl 0 rfl) ?_
          refine g_getr (t := 14) C hR (k := 0) (j := 2) (live_st (by decide)) rfl rfl (vw10) inl10 (by decide) q350 dX10_jar_54 ?_
          refine lv_iload_n hx hb dX10_jar_57 rfl (lv_at hl 3 rfl) ?_
          obtain ⟨r13, S14, hr13, h⟩ := bd_e h
          refine g_ci hS (g_runV C hR hS (k := 3) (As := [.ref (α 14), .int v3]) (rest := []) (c_X6_jarOfWords l  hr13) (live_st (by decide)) rfl (vw6) m_X6_jarOfWords q714 ⟨rfl, rfl⟩ ⟨Nat.le_of_ble_eq_true rfl, Nat.le_of_ble_eq_true rfl⟩ rfl hl.1 rfl (Nat.le_of_ble_eq_true rfl) dX10_jar_58 ⟨Nat.zero_le _, Nat.zero_le _⟩) (fun H locs hR hS => ?_)
          exact g_iret C hR hS h dX10_jar_61
        · have h := ite_t c12 h
          refine lv_bipush (v := -4) hx hb dX10_jar_46 (by decide) ?_
          exact g_iret C hR hS h dX10_jar_48
      · have h := ite_t c9 h
        refine lv_bipush (v := -3) hx hb dX10_jar_31 (by decide) ?_
        exact g_iret C hR hS h dX10_jar_33
  · have h := ite_t c3 h
    refine lv_bipush (v := -2) hx hb dX10_jar_11 (by decide) ?_
    exact g_iret C hR hS h dX10_jar_13

/-! OneVoice.run(I)I -/
abbrev rm_X10_run : Room := { frames := 6, cells := 0, slots := 0, locals := 148 }
theorem m_X10_run : MV yX10_run RX10 cX10_run 3 (some .int) 1 := ⟨q785, q786, q68, q787, by decide +kernel⟩
def f_X10_run_L30 (K48 : St → Option (Int32 × St)) (v1 : Int32) : Nat → Int32 → St → Option (Int32 × St)
  | 0, _, _ => none
  | f + 1, v2, S =>
    if v1 ≤ v2 then
      K48  S
    else
      bd_ (f_X7_tick  S) fun r7 S8 =>
      lt_ (v2 + (1 : Int32)) fun x9 =>
      f_X10_run_L30 K48 v1 f x9 S8

def f_X10_run (v1 : Int32) (S : St) : Option (Int32 × St) :=
  bd_ (f_X10_within v1 (1 : Int32) (100 : Int32) S) fun r2 S3 =>
  if r2 = 0 then
    some ((-3 : Int32), S3)
  else
    if ((rd S3 43 8) + v1) ≤ (2000 : Int32) then
      f_X10_run_L30
        (fun  (S10 : St) =>
          some ((rd S10 43 8), S10))
        v1 FU (0 : Int32) S3
    else
      some ((-3 : Int32), S3)

set_option maxHeartbeats 4000000 in
set_option maxRecDepth 100000 in
theorem w_X10_run_L30 {p : Program} {l : Launch} {e : Env} {s : State} {m : MethodId} {args : Array Value} {below : List Frame} {meth : Method} {c : Code} {E : En} {α : Nat → Nat} {g : Nat × Nat} (C : Cx p s m args meth c RX10 cX10_run 3 (some .int) E) {z : Int32 × St} {K48 : St → Option (Int32 × St)} {v1 : Int32}
    (hK48 : ∀ (S : St) (H : Heap) (locs : List Loc) (ls : Array Slot), Rp E α g S H → va_S E.2.2.1 s.heap H locs → lv_has ls 3 [(0, .ref (α 0))] → K48  S = some z → W p l e rm_X10_run s m args below meth c H locs 0 0 (MQ below (Qi E α g z) args s 0 0 E.2.2.1) (F0 m 48 ls [])) :
    ∀ (f : Nat) (v2 : Int32) (S : St) (H : Heap) (locs : List Loc) (ls : Array Slot), Rp E α g S H → va_S E.2.2.1 s.heap H locs → lv_has ls 3 [(0, .ref (α 0)), (1, .int v1), (2, .int v2)] → f_X10_run_L30 K48 v1 f v2 S = some z → W p l e rm_X10_run s m args below meth c H locs 0 0 (MQ below (Qi E α g z) args s 0 0 E.2.2.1) (F0 m 30 ls []) := by
  obtain ⟨hx, hb, hml, hown, hts, hlk, hrt, hKs⟩ := id C
  intro f
  induction f with
  | zero =>
    intro v2 S H locs ls  hR hS hl h
    rw [f_X10_run_L30] at h
    cases h
  | succ f ih =>
    intro v2 S H locs ls  hR hS hl h
    rw [f_X10_run_L30] at h
    refine lv_iload_n hx hb dX10_run_30 rfl (lv_at hl 2 rfl) ?_
    refine lv_iload_n hx hb dX10_run_31 rfl (lv_at hl 1 rfl) ?_
    refine lv_icmp_ge (tgt := 48) hx hb dX10_run_32 (by decide) (fun c6 => ?_) (fun c6 => ?_)
    · have h := ite_t c6 h
      exact hK48  _ _ _ _  hR hS (lv_sub hl [0] rfl) h
    · have h := ite_f c6 h
      refine lv_aload_n hx hb dX10_run_35 rfl (lv_at hl 0 rfl) ?_
      refine g_getr (t := 43) C hR (k := 0) (j := 4) (live_st (by decide)) rfl rfl (vw10) inl10 (by decide) q352 dX10_run_36 ?_
      obtain ⟨r7, S8, hr7, h⟩ := bd_e h
      refine g_cv hS (g_runV C hR hS (k := 43) (As := []) (rest := []) (c_X7_tick l  hr7) (live_st (by decide)) rfl (vw7) m_X7_tick q788 ⟨rfl, rfl⟩ ⟨Nat.le_of_ble_eq_true rfl, Nat.le_of_ble_eq_true rfl⟩ rfl hl.1 rfl (Nat.le_of_ble_eq_true rfl) dX10_run_39 ⟨Nat.zero_le _, Nat.zero_le _⟩) (fun H locs hR hS => ?_)
      obtain ⟨x9, ex9, h⟩ := lt_e h
      refine lv_iinc (v := x9) (lv' := [(2, .int x9), (0, .ref (α 0)), (1, .int v1)]) hx hb dX10_run_42 hl (k := 2) rfl (by rw [ex9]; rfl) (by decide) rfl (fun ls hl => ?_)
      refine lv_goto (tgt := 30) hx hb dX10_run_45 (by decide) ?_
      exact ih _ _ _ _ _  hR hS (lv_sub hl [1, 2, 0] rfl) h

set_option maxHeartbeats 4000000 in
set_option maxRecDepth 100000 in
theorem c_X10_run (l : Launch) {E : En} {α : Nat → Nat} {g : Nat × Nat} {v1 : Int32} {S : St}  {z : Int32 × St} (h : f_X10_run v1 S = some z) : Met l yX10_run (wsY yX10_run cX10_run 3 (some .int)) rm_X10_run (va_Pc [.ref (α 0), .int v1] (Wd E α g S)) (Qi E α g z) 0 0 E.2.2.1 := by
  refine g_met [.ref (α 0), .int v1] (by decide) rfl (Nat.le_of_ble_eq_true rfl) ?_
  intro p e s m below meth c ls C hR hl
  generalize hae : ([.ref (α 0), .int v1] : List Value).toArray = args at C ⊢
  have hl : lv_has ls 3 [(0, .ref (α 0)), (1, .int v1)] := hl
  obtain ⟨hx, hb, hml, hown, hts, hlk, hrt, hKs⟩ := id C
  have hS : va_S E.2.2.1 s.heap s.heap [] := va_S.rf
  unfold f_X10_run at h
  refine lv_iload_n hx hb dX10_run_0 rfl (lv_at hl 1 rfl) ?_
  refine lv_iconst (v := 1) hx hb dX10_run_1 (by decide) ?_
  refine lv_bipush (v := 100) hx hb dX10_run_2 (by decide) ?_
  obtain ⟨r2, S3, hr2, h⟩ := bd_e h
  refine g_ci hS (g_runS C hR hS (As := [.int v1, .int (1 : Int32), .int (100 : Int32)]) (rest := []) (c_X10_within l  hr2) m_X10_within q374 ⟨rfl, rfl⟩ ⟨Nat.le_of_ble_eq_true rfl, Nat.le_of_ble_eq_true rfl⟩ rfl hl.1 rfl (Nat.le_of_ble_eq_true rfl) dX10_run_4 ⟨Nat.zero_le _, Nat.zero_le _⟩) (fun H locs hR hS => ?_)
  refine lv_if_eq (tgt := 25) hx hb dX10_run_7 (by decide) (fun c4 => ?_) (fun c4 => ?_)
  · have h := ite_t c4 h
    refine lv_bipush (v := -3) hx hb dX10_run_25 (by decide) ?_
    exact g_iret C hR hS h dX10_run_27
  · have h := ite_f c4 h
    refine lv_aload_n hx hb dX10_run_10 rfl (lv_at hl 0 rfl) ?_
    refine g_getr (t := 43) C hR (k := 0) (j := 4) (live_st (by decide)) rfl rfl (vw10) inl10 (by decide) q352 dX10_run_11 ?_
    refine g_geti C hR (k := 43) (j := 8) (live_st (by decide)) rfl rfl (vw7) inl7 (by decide) q297 dX10_run_14 ?_
    refine lv_iload_n hx hb dX10_run_17 rfl (lv_at hl 1 rfl) ?_
    refine lv_iadd hx hb dX10_run_18 ?_
    refine lv_sipush (v := 2000) hx hb dX10_run_19 (by decide) ?_
    refine lv_icmp_le (tgt := 28) hx hb dX10_run_22 (by decide) (fun c5 => ?_) (fun c5 => ?_)
    · have h := ite_t c5 h
      refine lv_iconst (v := 0) hx hb dX10_run_28 (by decide) ?_
      refine lv_istore_n (lv' := [(2, .int (0 : Int32)), (0, .ref (α 0)), (1, .int v1)]) hx hb dX10_run_29 rfl hl (by decide) rfl (fun ls hl => ?_)
      refine w_X10_run_L30 C ?_  _ _ _ _ _ _  hR hS (lv_sub hl [1, 2, 0] rfl) h
      · intro  S10 H locs ls  hR hS hl h
        refine lv_aload_n hx hb dX10_run_48 rfl (lv_at hl 0 rfl) ?_
        refine g_getr (t := 43) C hR (k := 0) (j := 4) (live_st (by decide)) rfl rfl (vw10) inl10 (by decide) q352 dX10_run_49 ?_
        refine g_geti C hR (k := 43) (j := 8) (live_st (by decide)) rfl rfl (vw7) inl7 (by decide) q297 dX10_run_52 ?_
        exact g_iret C hR hS h dX10_run_55
    · have h := ite_f c5 h
      refine lv_bipush (v := -3) hx hb dX10_run_25 (by decide) ?_
      exact g_iret C hR hS h dX10_run_27

/-! OneVoice.heard(II)I -/
abbrev rm_X10_heard : Room := { frames := 1, cells := 0, slots := 0, locals := 21 }
theorem m_X10_heard : MV yX10_heard RX10 cX10_heard 4 (some .int) 2 := ⟨q831, q832, q68, q833, by decide +kernel⟩
def f_X10_heard (v1 : Int32) (v2 : Int32) (S : St) : Option (Int32 × St) :=
  bd_ (f_X10_below v1 (rd S 43 7) S) fun r4 S5 =>
  if r4 = 0 then
    some ((-2 : Int32), S5)
  else
    gd_ (inb v1 24 ∧ (Int32.toNatClampNeg v1) < nC S5) <|
    lt_ (Int32.toNatClampNeg v1) fun n9 =>
    if v2 = (0 : Int32) then
      some ((rd S5 (300 + 2 * n9) 6), S5)
    else
    if v2 = (1 : Int32) then
      some ((rd S5 (300 + 2 * n9) 7), S5)
    else
    if v2 = (2 : Int32) then
      some ((rd S5 (300 + 2 * n9) 8), S5)
    else
    some ((-3 : Int32), S5)

set_option maxHeartbeats 4000000 in
set_option maxRecDepth 100000 in
theorem c_X10_heard (l : Launch) {E : En} {α : Nat → Nat} {g : Nat × Nat} {v1 : Int32} {v2 : Int32} {S : St}  {z : Int32 × St} (h : f_X10_heard v1 v2 S = some z) : Met l yX10_heard (wsY yX10_heard cX10_heard 4 (some .int)) rm_X10_heard (va_Pc [.ref (α 0), .int v1, .int v2] (Wd E α g S)) (Qi E α g z) 0 0 E.2.2.1 := by
  refine g_met [.ref (α 0), .int v1, .int v2] (by decide) rfl (Nat.le_of_ble_eq_true rfl) ?_
  intro p e s m below meth c ls C hR hl
  generalize hae : ([.ref (α 0), .int v1, .int v2] : List Value).toArray = args at C ⊢
  have hl : lv_has ls 4 [(0, .ref (α 0)), (1, .int v1), (2, .int v2)] := hl
  obtain ⟨hx, hb, hml, hown, hts, hlk, hrt, hKs⟩ := id C
  have hS : va_S E.2.2.1 s.heap s.heap [] := va_S.rf
  unfold f_X10_heard at h
  refine lv_iload_n hx hb dX10_heard_0 rfl (lv_at hl 1 rfl) ?_
  refine lv_aload_n hx hb dX10_heard_1 rfl (lv_at hl 0 rfl) ?_
  refine g_getr (t := 43) C hR (k := 0) (j := 4) (live_st (by decide)) rfl rfl (vw10) inl10 (by decide) q352 dX10_heard_2 ?_
  refine g_geti C hR (k := 43) (j := 7) (live_st (by decide)) rfl rfl (vw7) inl7 (by decide) q295 dX10_heard_5 ?_
  obtain ⟨r4, S5, hr4, h⟩ := bd_e h
  refine g_ci hS (g_runS C hR hS (As := [.int v1, .int (rd S 43 7)]) (rest := []) (c_X10_below l  hr4) m_X10_below q377 ⟨rfl, rfl⟩ ⟨Nat.le_of_ble_eq_true rfl, Nat.le_of_ble_eq_true rfl⟩ rfl hl.1 rfl (Nat.le_of_ble_eq_true rfl) dX10_heard_8 ⟨Nat.zero_le _, Nat.zero_le _⟩) (fun H locs hR hS => ?_)
  refine lv_if_ne (tgt := 17) hx hb dX10_heard_11 (by decide) (fun c6 => ?_) (fun c6 => ?_)
  · have h := ite_f c6 h
    refine lv_aload_n hx hb dX10_heard_17 rfl (lv_at hl 0 rfl) ?_
    refine g_getr (t := 43) C hR (k := 0) (j := 4) (live_st (by decide)) rfl rfl (vw10) inl10 (by decide) q352 dX10_heard_18 ?_
    refine g_getr (t := 48) C hR (k := 43) (j := 6) (live_st (by decide)) rfl rfl (vw7) inl7 (by decide) q293 dX10_heard_21 ?_
    refine lv_iload_n hx hb dX10_heard_24 rfl (lv_at hl 1 rfl) ?_
    obtain ⟨g7, h⟩ := gd_e h
    refine g_aldC C hR g7.1 g7.2 dX10_heard_25 (fun hn8 => ?_)
    obtain ⟨n9, en9, h⟩ := lt_e h
    have hn9 : n9 < g.2 := by rw [en9]; exact hn8
    refine g_nmC en9 ?_
    refine lv_astore_n (lv' := [(3, .ref (α (300 + 2 * n9))), (0, .ref (α 0)), (1, .int v1), (2, .int v2)]) hx hb dX10_heard_26 rfl hl (by decide) rfl (fun ls hl => ?_)
    refine lv_iload_n hx hb dX10_heard_27 rfl (lv_at hl 3 rfl) ?_
    by_cases c10 : v2 = (0 : Int32)
    · have h := ite_t c10 h
      refine lv_tableIn (off := 28) (tgt := 56) hx hb dX10_heard_28 (by rw [c10]; decide) (by rw [c10]; decide) (by rw [c10]; rfl) (by decide) ?_
      refine lv_aload_n hx hb dX10_heard_56 rfl (lv_at hl 0 rfl) ?_
      refine g_geti C hR (k := (300 + 2 * n9)) (j := 6) (live_c hn9) (lay_c (Nat.lt_of_lt_of_le hn9 hR.1.2.1)) rfl (vw0) inl0 (by decide) q743 dX10_heard_57 ?_
      exact g_iret C hR hS h dX10_heard_60
    have h := ite_f c10 h
    by_cases c11 : v2 = (1 : Int32)
    · have h := ite_t c11 h
      refine lv_tableIn (off := 33) (tgt := 61) hx hb dX10_heard_28 (by rw [c11]; decide) (by rw [c11]; decide) (by rw [c11]; rfl) (by decide) ?_
      refine lv_aload_n hx hb dX10_heard_61 rfl (lv_at hl 0 rfl) ?_
      refine g_geti C hR (k := (300 + 2 * n9)) (j := 7) (live_c hn9) (lay_c (Nat.lt_of_lt_of_le hn9 hR.1.2.1)) rfl (vw0) inl0 (by decide) q745 dX10_heard_62 ?_
      exact g_iret C hR hS h dX10_heard_65
    have h := ite_f c11 h
    by_cases c12 : v2 = (2 : Int32)
    · have h := ite_t c12 h
      refine lv_tableIn (off := 38) (tgt := 66) hx hb dX10_heard_28 (by rw [c12]; decide) (by rw [c12]; decide) (by rw [c12]; rfl) (by decide) ?_
      refine lv_aload_n hx hb dX10_heard_66 rfl (lv_at hl 0 rfl) ?_
      refine g_geti C hR (k := (300 + 2 * n9)) (j := 8) (live_c hn9) (lay_c (Nat.lt_of_lt_of_le hn9 hR.1.2.1)) rfl (vw0) inl0 (by decide) q747 dX10_heard_67 ?_
      exact g_iret C hR hS h dX10_heard_70
    have h := ite_f c12 h
    have c10 := tsw_ne (k := 0) c10 (by decide)
    have c11 := tsw_ne (k := 1) c11 (by decide)
    have c12 := tsw_ne (k := 2) c12 (by decide)
    refine lv_tableOut (tgt := 71) hx hb dX10_heard_28 (by omega) (by decide) ?_
    refine lv_bipush (v := -3) hx hb dX10_heard_71 (by decide) ?_
    exact g_iret C hR hS h dX10_heard_73
  · have h := ite_t c6 h
    refine lv_bipush (v := -2) hx hb dX10_heard_14 (by decide) ?_
    exact g_iret C hR hS h dX10_heard_16

/-! OneVoice.speaks(I)I -/
abbrev rm_X10_speaks : Room := { frames := 1, cells := 0, slots := 0, locals := 21 }
theorem m_X10_speaks : MV yX10_speaks RX10 cX10_speaks 2 (some .int) 1 := ⟨q835, q836, q68, q837, by decide +kernel⟩
def f_X10_speaks (v1 : Int32) (S : St) : Option (Int32 × St) :=
  bd_ (f_X10_below v1 (6 : Int32) S) fun r2 S3 =>
  if r2 = 0 then
    some ((-2 : Int32), S3)
  else
    gd_ (inb v1 6) <|
    some ((rd S3 47 (Int32.toNatClampNeg v1)), S3)

set_option maxHeartbeats 4000000 in
set_option maxRecDepth 100000 in
theorem c_X10_speaks (l : Launch) {E : En} {α : Nat → Nat} {g : Nat × Nat} {v1 : Int32} {S : St}  {z : Int32 × St} (h : f_X10_speaks v1 S = some z) : Met l yX10_speaks (wsY yX10_speaks cX10_speaks 2 (some .int)) rm_X10_speaks (va_Pc [.ref (α 0), .int v1] (Wd E α g S)) (Qi E α g z) 0 0 E.2.2.1 := by
  refine g_met [.ref (α 0), .int v1] (by decide) rfl (Nat.le_of_ble_eq_true rfl) ?_
  intro p e s m below meth c ls C hR hl
  generalize hae : ([.ref (α 0), .int v1] : List Value).toArray = args at C ⊢
  have hl : lv_has ls 2 [(0, .ref (α 0)), (1, .int v1)] := hl
  obtain ⟨hx, hb, hml, hown, hts, hlk, hrt, hKs⟩ := id C
  have hS : va_S E.2.2.1 s.heap s.heap [] := va_S.rf
  unfold f_X10_speaks at h
  refine lv_iload_n hx hb dX10_speaks_0 rfl (lv_at hl 1 rfl) ?_
  refine lv_bipush (v := 6) hx hb dX10_speaks_1 (by decide) ?_
  obtain ⟨r2, S3, hr2, h⟩ := bd_e h
  refine g_ci hS (g_runS C hR hS (As := [.int v1, .int (6 : Int32)]) (rest := []) (c_X10_below l  hr2) m_X10_below q377 ⟨rfl, rfl⟩ ⟨Nat.le_of_ble_eq_true rfl, Nat.le_of_ble_eq_true rfl⟩ rfl hl.1 rfl (Nat.le_of_ble_eq_true rfl) dX10_speaks_3 ⟨Nat.zero_le _, Nat.zero_le _⟩) (fun H locs hR hS => ?_)
  refine lv_if_eq (tgt := 21) hx hb dX10_speaks_6 (by decide) (fun c4 => ?_) (fun c4 => ?_)
  · have h := ite_t c4 h
    refine lv_bipush (v := -2) hx hb dX10_speaks_21 (by decide) ?_
    exact g_iret C hR hS h dX10_speaks_23
  · have h := ite_f c4 h
    refine lv_aload_n hx hb dX10_speaks_9 rfl (lv_at hl 0 rfl) ?_
    refine g_getr (t := 43) C hR (k := 0) (j := 4) (live_st (by decide)) rfl rfl (vw10) inl10 (by decide) q352 dX10_speaks_10 ?_
    refine g_getr (t := 47) C hR (k := 43) (j := 5) (live_st (by decide)) rfl rfl (vw7) inl7 (by decide) q291 dX10_speaks_13 ?_
    refine lv_iload_n hx hb dX10_speaks_16 rfl (lv_at hl 1 rfl) ?_
    obtain ⟨g5, h⟩ := gd_e h
    refine g_iald C hR (k := 47) (n := 6) (live_st (by decide)) rfl g5 dX10_speaks_17 ?_
    refine lv_goto (tgt := 23) hx hb dX10_speaks_18 (by decide) ?_
    exact g_iret C hR hS h dX10_speaks_23

/-! OneVoice.voice(II)I -/
abbrev rm_X10_voice : Room := { frames := 1, cells := 0, slots := 0, locals := 21 }
theorem m_X10_voice : MV yX10_voice RX10 cX10_voice 3 (some .int) 2 := ⟨q839, q840, q68, q841, by decide +kernel⟩
def f_X10_voice (v1 : Int32) (v2 : Int32) (S : St) : Option (Int32 × St) :=
  bd_ (f_X10_below v1 (6 : Int32) S) fun r3 S4 =>
  if r3 = 0 then
    some ((-2 : Int32), S4)
  else
    bd_ (f_X10_below v2 (2 : Int32) S4) fun r6 S7 =>
    if r6 = 0 then
      some ((-3 : Int32), S7)
    else
      if v2 = 0 then
        gd_ (inb v1 6) <|
        some ((rd S7 44 (Int32.toNatClampNeg v1)), S7)
      else
        gd_ (inb v1 6) <|
        some ((rd S7 45 (Int32.toNatClampNeg v1)), S7)

set_option maxHeartbeats 4000000 in
set_option maxRecDepth 100000 in
theorem c_X10_voice (l : Launch) {E : En} {α : Nat → Nat} {g : Nat × Nat} {v1 : Int32} {v2 : Int32} {S : St}  {z : Int32 × St} (h : f_X10_voice v1 v2 S = some z) : Met l yX10_voice (wsY yX10_voice cX10_voice 3 (some .int)) rm_X10_voice (va_Pc [.ref (α 0), .int v1, .int v2] (Wd E α g S)) (Qi E α g z) 0 0 E.2.2.1 := by
  refine g_met [.ref (α 0), .int v1, .int v2] (by decide) rfl (Nat.le_of_ble_eq_true rfl) ?_
  intro p e s m below meth c ls C hR hl
  generalize hae : ([.ref (α 0), .int v1, .int v2] : List Value).toArray = args at C ⊢
  have hl : lv_has ls 3 [(0, .ref (α 0)), (1, .int v1), (2, .int v2)] := hl
  obtain ⟨hx, hb, hml, hown, hts, hlk, hrt, hKs⟩ := id C
  have hS : va_S E.2.2.1 s.heap s.heap [] := va_S.rf
  unfold f_X10_voice at h
  refine lv_iload_n hx hb dX10_voice_0 rfl (lv_at hl 1 rfl) ?_
  refine lv_bipush (v := 6) hx hb dX10_voice_1 (by decide) ?_
  obtain ⟨r3, S4, hr3, h⟩ := bd_e h
  refine g_ci hS (g_runS C hR hS (As := [.int v1, .int (6 : Int32)]) (rest := []) (c_X10_below l  hr3) m_X10_below q377 ⟨rfl, rfl⟩ ⟨Nat.le_of_ble_eq_true rfl, Nat.le_of_ble_eq_true rfl⟩ rfl hl.1 rfl (Nat.le_of_ble_eq_true rfl) dX10_voice_3 ⟨Nat.zero_le _, Nat.zero_le _⟩) (fun H locs hR hS => ?_)
  refine lv_if_ne (tgt := 12) hx hb dX10_voice_6 (by decide) (fun c5 => ?_) (fun c5 => ?_)
  · have h := ite_f c5 h
    refine lv_iload_n hx hb dX10_voice_12 rfl (lv_at hl 2 rfl) ?_
    refine lv_iconst (v := 2) hx hb dX10_voice_13 (by decide) ?_
    obtain ⟨r6, S7, hr6, h⟩ := bd_e h
    refine g_ci hS (g_runS C hR hS (As := [.int v2, .int (2 : Int32)]) (rest := []) (c_X10_below l  hr6) m_X10_below q377 ⟨rfl, rfl⟩ ⟨Nat.le_of_ble_eq_true rfl, Nat.le_of_ble_eq_true rfl⟩ rfl hl.1 rfl (Nat.le_of_ble_eq_true rfl) dX10_voice_14 ⟨Nat.zero_le _, Nat.zero_le _⟩) (fun H locs hR hS => ?_)
    refine lv_if_ne (tgt := 23) hx hb dX10_voice_17 (by decide) (fun c8 => ?_) (fun c8 => ?_)
    · have h := ite_f c8 h
      refine lv_iload_n hx hb dX10_voice_23 rfl (lv_at hl 2 rfl) ?_
      refine lv_if_ne (tgt := 39) hx hb dX10_voice_24 (by decide) (fun c9 => ?_) (fun c9 => ?_)
      · have h := ite_f c9 h
        refine lv_aload_n hx hb dX10_voice_39 rfl (lv_at hl 0 rfl) ?_
        refine g_getr (t := 43) C hR (k := 0) (j := 4) (live_st (by decide)) rfl rfl (vw10) inl10 (by decide) q352 dX10_voice_40 ?_
        refine g_getr (t := 45) C hR (k := 43) (j := 3) (live_st (by decide)) rfl rfl (vw7) inl7 (by decide) q288 dX10_voice_43 ?_
        refine lv_iload_n hx hb dX10_voice_46 rfl (lv_at hl 1 rfl) ?_
        obtain ⟨g10, h⟩ := gd_e h
        refine g_iald C hR (k := 45) (n := 6) (live_st (by decide)) rfl g10 dX10_voice_47 ?_
        exact g_iret C hR hS h dX10_voice_48
      · have h := ite_t c9 h
        refine lv_aload_n hx hb dX10_voice_27 rfl (lv_at hl 0 rfl) ?_
        refine g_getr (t := 43) C hR (k := 0) (j := 4) (live_st (by decide)) rfl rfl (vw10) inl10 (by decide) q352 dX10_voice_28 ?_
        refine g_getr (t := 44) C hR (k := 43) (j := 2) (live_st (by decide)) rfl rfl (vw7) inl7 (by decide) q286 dX10_voice_31 ?_
        refine lv_iload_n hx hb dX10_voice_34 rfl (lv_at hl 1 rfl) ?_
        obtain ⟨g11, h⟩ := gd_e h
        refine g_iald C hR (k := 44) (n := 6) (live_st (by decide)) rfl g11 dX10_voice_35 ?_
        refine lv_goto (tgt := 48) hx hb dX10_voice_36 (by decide) ?_
        exact g_iret C hR hS h dX10_voice_48
    · have h := ite_t c8 h
      refine lv_bipush (v := -3) hx hb dX10_voice_20 (by decide) ?_
      exact g_iret C hR hS h dX10_voice_22
  · have h := ite_t c5 h
    refine lv_bipush (v := -2) hx hb dX10_voice_9 (by decide) ?_
    exact g_iret C hR hS h dX10_voice_11

/-! OneVoice.wish(III)I -/
abbrev rm_X10_wish : Room := { frames := 1, cells := 0, slots := 0, locals := 22 }
theorem m_X10_wish : MV yX10_wish RX10 cX10_wish 5 (some .int) 3 := ⟨q843, q844, q68, q845, by decide +kernel⟩
def f_X10_wish (v1 : Int32) (v2 : Int32) (v3 : Int32) (S : St) : Option (Int32 × St) :=
  bd_ (f_X10_below v1 (6 : Int32) S) fun r5 S6 =>
  if r5 = 0 then
    some ((-2 : Int32), S6)
  else
    bd_ (f_X10_below v2 (4 : Int32) S6) fun r8 S9 =>
    if r8 = 0 then
      some ((-3 : Int32), S9)
    else
      bd_ (f_X10_within v3 (1 : Int32) (5 : Int32) S9) fun r11 S12 =>
      if r11 = 0 then
        some ((-3 : Int32), S12)
      else
        gd_ (inb v1 6) <|
        lt_ (rd S12 44 (Int32.toNatClampNeg v1)) fun x15 =>
        gd_ (inb v1 6) <|
        lt_ (wr S12 44 (Int32.toNatClampNeg v1) v2) fun S16 =>
        gd_ (inb v1 6) <|
        lt_ (wr S16 45 (Int32.toNatClampNeg v1) v3) fun S18 =>
        some (x15, S18)

set_option maxHeartbeats 4000000 in
set_option maxRecDepth 100000 in
theorem c_X10_wish (l : Launch) {E : En} {α : Nat → Nat} {g : Nat × Nat} {v1 : Int32} {v2 : Int32} {v3 : Int32} {S : St}  {z : Int32 × St} (h : f_X10_wish v1 v2 v3 S = some z) : Met l yX10_wish (wsY yX10_wish cX10_wish 5 (some .int)) rm_X10_wish (va_Pc [.ref (α 0), .int v1, .int v2, .int v3] (Wd E α g S)) (Qi E α g z) 0 0 E.2.2.1 := by
  refine g_met [.ref (α 0), .int v1, .int v2, .int v3] (by decide) rfl (Nat.le_of_ble_eq_true rfl) ?_
  intro p e s m below meth c ls C hR hl
  generalize hae : ([.ref (α 0), .int v1, .int v2, .int v3] : List Value).toArray = args at C ⊢
  have hl : lv_has ls 5 [(0, .ref (α 0)), (1, .int v1), (2, .int v2), (3, .int v3)] := hl
  obtain ⟨hx, hb, hml, hown, hts, hlk, hrt, hKs⟩ := id C
  have hS : va_S E.2.2.1 s.heap s.heap [] := va_S.rf
  unfold f_X10_wish at h
  refine lv_iload_n hx hb dX10_wish_0 rfl (lv_at hl 1 rfl) ?_
  refine lv_bipush (v := 6) hx hb dX10_wish_1 (by decide) ?_
  obtain ⟨r5, S6, hr5, h⟩ := bd_e h
  refine g_ci hS (g_runS C hR hS (As := [.int v1, .int (6 : Int32)]) (rest := []) (c_X10_below l  hr5) m_X10_below q377 ⟨rfl, rfl⟩ ⟨Nat.le_of_ble_eq_true rfl, Nat.le_of_ble_eq_true rfl⟩ rfl hl.1 rfl (Nat.le_of_ble_eq_true rfl) dX10_wish_3 ⟨Nat.zero_le _, Nat.zero_le _⟩) (fun H locs hR hS => ?_)
  refine lv_if_ne (tgt := 12) hx hb dX10_wish_6 (by decide) (fun c7 => ?_) (fun c7 => ?_)
  · have h := ite_f c7 h
    refine lv_iload_n hx hb dX10_wish_12 rfl (lv_at hl 2 rfl) ?_
    refine lv_iconst (v := 4) hx hb dX10_wish_13 (by decide) ?_
    obtain ⟨r8, S9, hr8, h⟩ := bd_e h
    refine g_ci hS (g_runS C hR hS (As := [.int v2, .int (4 : Int32)]) (rest := []) (c_X10_below l  hr8) m_X10_below q377 ⟨rfl, rfl⟩ ⟨Nat.le_of_ble_eq_true rfl, Nat.le_of_ble_eq_true rfl⟩ rfl hl.1 rfl (Nat.le_of_ble_eq_true rfl) dX10_wish_14 ⟨Nat.zero_le _, Nat.zero_le _⟩) (fun H locs hR hS => ?_)
    refine lv_if_eq (tgt := 29) hx hb dX10_wish_17 (by decide) (fun c10 => ?_) (fun c10 => ?_)
    · have h := ite_t c10 h
      refine lv_bipush (v := -3) hx hb dX10_wish_29 (by decide) ?_
      exact g_iret C hR hS h dX10_wish_31
    · have h := ite_f c10 h
      refine lv_iload_n hx hb dX10_wish_20 rfl (lv_at hl 3 rfl) ?_
      refine lv_iconst (v := 1) hx hb dX10_wish_21 (by decide) ?_
      refine lv_iconst (v := 5) hx hb dX10_wish_22 (by decide) ?_
      obtain ⟨r11, S12, hr11, h⟩ := bd_e h
      refine g_ci hS (g_runS C hR hS (As := [.int v3, .int (1 : Int32), .int (5 : Int32)]) (rest := []) (c_X10_within l  hr11) m_X10_within q374 ⟨rfl, rfl⟩ ⟨Nat.le_of_ble_eq_true rfl, Nat.le_of_ble_eq_true rfl⟩ rfl hl.1 rfl (Nat.le_of_ble_eq_true rfl) dX10_wish_23 ⟨Nat.zero_le _, Nat.zero_le _⟩) (fun H locs hR hS => ?_)
      refine lv_if_ne (tgt := 32) hx hb dX10_wish_26 (by decide) (fun c13 => ?_) (fun c13 => ?_)
      · have h := ite_f c13 h
        refine lv_aload_n hx hb dX10_wish_32 rfl (lv_at hl 0 rfl) ?_
        refine g_getr (t := 43) C hR (k := 0) (j := 4) (live_st (by decide)) rfl rfl (vw10) inl10 (by decide) q352 dX10_wish_33 ?_
        refine g_getr (t := 44) C hR (k := 43) (j := 2) (live_st (by decide)) rfl rfl (vw7) inl7 (by decide) q286 dX10_wish_36 ?_
        refine lv_iload_n hx hb dX10_wish_39 rfl (lv_at hl 1 rfl) ?_
        obtain ⟨g14, h⟩ := gd_e h
        refine g_iald C hR (k := 44) (n := 6) (live_st (by decide)) rfl g14 dX10_wish_40 ?_
        obtain ⟨x15, ex15, h⟩ := lt_e h
        refine g_nmi ex15 ?_
        refine lv_istore (lv' := [(4, .int x15), (0, .ref (α 0)), (1, .int v1), (2, .int v2), (3, .int v3)]) hx hb dX10_wish_41 hl (by decide) rfl (fun ls hl => ?_)
        refine lv_aload_n hx hb dX10_wish_43 rfl (lv_at hl 1 rfl) ?_
        refine g_getr (t := 43) C hR (k := 0) (j := 4) (live_st (by decide)) rfl rfl (vw10) inl10 (by decide) q352 dX10_wish_44 ?_
        refine g_getr (t := 44) C hR (k := 43) (j := 2) (live_st (by decide)) rfl rfl (vw7) inl7 (by decide) q286 dX10_wish_47 ?_
        refine lv_iload_n hx hb dX10_wish_50 rfl (lv_at hl 2 rfl) ?_
        refine lv_iload_n hx hb dX10_wish_51 rfl (lv_at hl 3 rfl) ?_
        obtain ⟨g17, h⟩ := gd_e h
        obtain ⟨S16, eS16, h⟩ := lt_e h
        refine g_iast C hR hS (k := 44) (n := 6) (live_st (by decide)) rfl g17 eS16 dX10_wish_52 (fun H locs hR hS => ?_)
        refine lv_aload_n hx hb dX10_wish_53 rfl (lv_at hl 1 rfl) ?_
        refine g_getr (t := 43) C hR (k := 0) (j := 4) (live_st (by decide)) rfl rfl (vw10) inl10 (by decide) q352 dX10_wish_54 ?_
        refine g_getr (t := 45) C hR (k := 43) (j := 3) (live_st (by decide)) rfl rfl (vw7) inl7 (by decide) q288 dX10_wish_57 ?_
        refine lv_iload_n hx hb dX10_wish_60 rfl (lv_at hl 2 rfl) ?_
        refine lv_iload_n hx hb dX10_wish_61 rfl (lv_at hl 4 rfl) ?_
        obtain ⟨g19, h⟩ := gd_e h
        obtain ⟨S18, eS18, h⟩ := lt_e h
        refine g_iast C hR hS (k := 45) (n := 6) (live_st (by decide)) rfl g19 eS18 dX10_wish_62 (fun H locs hR hS => ?_)
        refine lv_iload hx hb dX10_wish_63 (lv_at hl 0 rfl) ?_
        exact g_iret C hR hS h dX10_wish_65
      · have h := ite_t c13 h
        refine lv_bipush (v := -3) hx hb dX10_wish_29 (by decide) ?_
        exact g_iret C hR hS h dX10_wish_31
  · have h := ite_t c7 h
    refine lv_bipush (v := -2) hx hb dX10_wish_9 (by decide) ?_
    exact g_iret C hR hS h dX10_wish_11

/-! OneVoice.change(I)I -/
abbrev rm_X10_change : Room := { frames := 1, cells := 0, slots := 0, locals := 23 }
theorem m_X10_change : MV yX10_change RX10 cX10_change 2 (some .int) 1 := ⟨q847, q848, q68, q849, by decide +kernel⟩
def f_X10_change (v1 : Int32) (S : St) : Option (Int32 × St) :=
  bd_ (f_X10_below v1 (4 : Int32) S) fun r1 S2 =>
  if r1 = 0 then
    some ((-3 : Int32), S2)
  else
    bd_ (f_X7_giveAll v1 S2) fun r4 S5 =>
    some (r4, S5)

set_option maxHeartbeats 4000000 in
set_option maxRecDepth 100000 in
theorem c_X10_change (l : Launch) {E : En} {α : Nat → Nat} {g : Nat × Nat} {v1 : Int32} {S : St}  {z : Int32 × St} (h : f_X10_change v1 S = some z) : Met l yX10_change (wsY yX10_change cX10_change 2 (some .int)) rm_X10_change (va_Pc [.ref (α 0), .int v1] (Wd E α g S)) (Qi E α g z) 0 0 E.2.2.1 := by
  refine g_met [.ref (α 0), .int v1] (by decide) rfl (Nat.le_of_ble_eq_true rfl) ?_
  intro p e s m below meth c ls C hR hl
  generalize hae : ([.ref (α 0), .int v1] : List Value).toArray = args at C ⊢
  have hl : lv_has ls 2 [(0, .ref (α 0)), (1, .int v1)] := hl
  obtain ⟨hx, hb, hml, hown, hts, hlk, hrt, hKs⟩ := id C
  have hS : va_S E.2.2.1 s.heap s.heap [] := va_S.rf
  unfold f_X10_change at h
  refine lv_iload_n hx hb dX10_change_0 rfl (lv_at hl 1 rfl) ?_
  refine lv_iconst (v := 4) hx hb dX10_change_1 (by decide) ?_
  obtain ⟨r1, S2, hr1, h⟩ := bd_e h
  refine g_ci hS (g_runS C hR hS (As := [.int v1, .int (4 : Int32)]) (rest := []) (c_X10_below l  hr1) m_X10_below q377 ⟨rfl, rfl⟩ ⟨Nat.le_of_ble_eq_true rfl, Nat.le_of_ble_eq_true rfl⟩ rfl hl.1 rfl (Nat.le_of_ble_eq_true rfl) dX10_change_2 ⟨Nat.zero_le _, Nat.zero_le _⟩) (fun H locs hR hS => ?_)
  refine lv_if_eq (tgt := 19) hx hb dX10_change_5 (by decide) (fun c3 => ?_) (fun c3 => ?_)
  · have h := ite_t c3 h
    refine lv_bipush (v := -3) hx hb dX10_change_19 (by decide) ?_
    exact g_iret C hR hS h dX10_change_21
  · have h := ite_f c3 h
    refine lv_aload_n hx hb dX10_change_8 rfl (lv_at hl 0 rfl) ?_
    refine g_getr (t := 43) C hR (k := 0) (j := 4) (live_st (by decide)) rfl rfl (vw10) inl10 (by decide) q352 dX10_change_9 ?_
    refine lv_iload_n hx hb dX10_change_12 rfl (lv_at hl 1 rfl) ?_
    obtain ⟨r4, S5, hr4, h⟩ := bd_e h
    refine g_ci hS (g_runV C hR hS (k := 43) (As := [.int v1]) (rest := []) (c_X7_giveAll l  hr4) (live_st (by decide)) rfl (vw7) m_X7_giveAll q850 ⟨rfl, rfl⟩ ⟨Nat.le_of_ble_eq_true rfl, Nat.le_of_ble_eq_true rfl⟩ rfl hl.1 rfl (Nat.le_of_ble_eq_true rfl) dX10_change_13 ⟨Nat.zero_le _, Nat.zero_le _⟩) (fun H locs hR hS => ?_)
    refine lv_goto (tgt := 21) hx hb dX10_change_16 (by decide) ?_
    exact g_iret C hR hS h dX10_change_21

/-! OneVoice.record()I -/
abbrev rm_X10_record : Room := { frames := 4, cells := 0, slots := 0, locals := 92 }
theorem m_X10_record : MV yX10_record RX10 cX10_record 1 (some .int) 0 := ⟨q855, q856, q68, q857, by decide +kernel⟩
def f_X10_record  (S : St) : Option (Int32 × St) :=
  bd_ (f_X4_fewestLines  S) fun r1 S2 =>
  some (r1, S2)

set_option maxHeartbeats 4000000 in
set_option maxRecDepth 100000 in
theorem c_X10_record (l : Launch) {E : En} {α : Nat → Nat} {g : Nat × Nat}  {S : St}  {z : Int32 × St} (h : f_X10_record  S = some z) : Met l yX10_record (wsY yX10_record cX10_record 1 (some .int)) rm_X10_record (va_Pc [.ref (α 0)] (Wd E α g S)) (Qi E α g z) 0 0 E.2.2.1 := by
  refine g_met [.ref (α 0)] (by decide) rfl (Nat.le_of_ble_eq_true rfl) ?_
  intro p e s m below meth c ls C hR hl
  generalize hae : ([.ref (α 0)] : List Value).toArray = args at C ⊢
  have hl : lv_has ls 1 [(0, .ref (α 0))] := hl
  obtain ⟨hx, hb, hml, hown, hts, hlk, hrt, hKs⟩ := id C
  have hS : va_S E.2.2.1 s.heap s.heap [] := va_S.rf
  unfold f_X10_record at h
  refine lv_aload_n hx hb dX10_record_0 rfl (lv_at hl 0 rfl) ?_
  refine g_getr (t := 49) C hR (k := 0) (j := 5) (live_st (by decide)) rfl rfl (vw10) inl10 (by decide) q353 dX10_record_1 ?_
  obtain ⟨r1, S2, hr1, h⟩ := bd_e h
  refine g_ci hS (g_runV C hR hS (k := 49) (As := []) (rest := []) (c_X4_fewestLines l  hr1) (live_st (by decide)) rfl (vw4) m_X4_fewestLines q858 ⟨rfl, rfl⟩ ⟨Nat.le_of_ble_eq_true rfl, Nat.le_of_ble_eq_true rfl⟩ rfl hl.1 rfl (Nat.le_of_ble_eq_true rfl) dX10_record_4 ⟨Nat.zero_le _, Nat.zero_le _⟩) (fun H locs hR hS => ?_)
  exact g_iret C hR hS h dX10_record_7

/-! OneVoice.crowd(II)I -/
abbrev rm_X10_crowd : Room := { frames := 1, cells := 0, slots := 0, locals := 21 }
theorem m_X10_crowd : MV yX10_crowd RX10 cX10_crowd 4 (some .int) 2 := ⟨q894, q895, q68, q896, by decide +kernel⟩
def f_X10_crowd (v1 : Int32) (v2 : Int32) (S : St) : Option (Int32 × St) :=
  bd_ (f_X10_below v1 (16 : Int32) S) fun r4 S5 =>
  if r4 = 0 then
    some ((-2 : Int32), S5)
  else
    bd_ (f_X10_below v2 (100 : Int32) S5) fun r7 S8 =>
    if r7 = 0 then
      some ((-3 : Int32), S8)
    else
      gd_ (inb v1 16) <|
      lt_ (rd S8 53 (Int32.toNatClampNeg v1)) fun x11 =>
      gd_ (inb v1 16) <|
      lt_ (wr S8 53 (Int32.toNatClampNeg v1) v2) fun S12 =>
      some (x11, S12)

set_option maxHeartbeats 4000000 in
set_option maxRecDepth 100000 in
theorem c_X10_crowd (l : Launch) {E : En} {α : Nat → Nat} {g : Nat × Nat} {v1 : Int32} {v2 : Int32} {S : St}  {z : Int32 × St} (h : f_X10_crowd v1 v2 S = some z) : Met l yX10_crowd (wsY yX10_crowd cX10_crowd 4 (some .int)) rm_X10_crowd (va_Pc [.ref (α 0), .int v1, .int v2] (Wd E α g S)) (Qi E α g z) 0 0 E.2.2.1 := by
  refine g_met [.ref (α 0), .int v1, .int v2] (by decide) rfl (Nat.le_of_ble_eq_true rfl) ?_
  intro p e s m below meth c ls C hR hl
  generalize hae : ([.ref (α 0), .int v1, .int v2] : List Value).toArray = args at C ⊢
  have hl : lv_has ls 4 [(0, .ref (α 0)), (1, .int v1), (2, .int v2)] := hl
  obtain ⟨hx, hb, hml, hown, hts, hlk, hrt, hKs⟩ := id C
  have hS : va_S E.2.2.1 s.heap s.heap [] := va_S.rf
  unfold f_X10_crowd at h
  refine lv_iload_n hx hb dX10_crowd_0 rfl (lv_at hl 1 rfl) ?_
  refine lv_bipush (v := 16) hx hb dX10_crowd_1 (by decide) ?_
  obtain ⟨r4, S5, hr4, h⟩ := bd_e h
  refine g_ci hS (g_runS C hR hS (As := [.int v1, .int (16 : Int32)]) (rest := []) (c_X10_below l  hr4) m_X10_below q377 ⟨rfl, rfl⟩ ⟨Nat.le_of_ble_eq_true rfl, Nat.le_of_ble_eq_true rfl⟩ rfl hl.1 rfl (Nat.le_of_ble_eq_true rfl) dX10_crowd_3 ⟨Nat.zero_le _, Nat.zero_le _⟩) (fun H locs hR hS => ?_)
  refine lv_if_ne (tgt := 12) hx hb dX10_crowd_6 (by decide) (fun c6 => ?_) (fun c6 => ?_)
  · have h := ite_f c6 h
    refine lv_iload_n hx hb dX10_crowd_12 rfl (lv_at hl 2 rfl) ?_
    refine lv_bipush (v := 100) hx hb dX10_crowd_13 (by decide) ?_
    obtain ⟨r7, S8, hr7, h⟩ := bd_e h
    refine g_ci hS (g_runS C hR hS (As := [.int v2, .int (100 : Int32)]) (rest := []) (c_X10_below l  hr7) m_X10_below q377 ⟨rfl, rfl⟩ ⟨Nat.le_of_ble_eq_true rfl, Nat.le_of_ble_eq_true rfl⟩ rfl hl.1 rfl (Nat.le_of_ble_eq_true rfl) dX10_crowd_15 ⟨Nat.zero_le _, Nat.zero_le _⟩) (fun H locs hR hS => ?_)
    refine lv_if_ne (tgt := 24) hx hb dX10_crowd_18 (by decide) (fun c9 => ?_) (fun c9 => ?_)
    · have h := ite_f c9 h
      refine lv_aload_n hx hb dX10_crowd_24 rfl (lv_at hl 0 rfl) ?_
      refine g_getr (t := 52) C hR (k := 0) (j := 6) (live_st (by decide)) rfl rfl (vw10) inl10 (by decide) q354 dX10_crowd_25 ?_
      refine g_getr (t := 53) C hR (k := 52) (j := 0) (live_st (by decide)) rfl rfl (vw2) inl2 (by decide) q344 dX10_crowd_28 ?_
      refine lv_iload_n hx hb dX10_crowd_31 rfl (lv_at hl 1 rfl) ?_
      obtain ⟨g10, h⟩ := gd_e h
      refine g_iald C hR (k := 53) (n := 16) (live_st (by decide)) rfl g10 dX10_crowd_32 ?_
      obtain ⟨x11, ex11, h⟩ := lt_e h
      refine g_nmi ex11 ?_
      refine lv_istore_n (lv' := [(3, .int x11), (0, .ref (α 0)), (1, .int v1), (2, .int v2)]) hx hb dX10_crowd_33 rfl hl (by decide) rfl (fun ls hl => ?_)
      refine lv_aload_n hx hb dX10_crowd_34 rfl (lv_at hl 1 rfl) ?_
      refine g_getr (t := 52) C hR (k := 0) (j := 6) (live_st (by decide)) rfl rfl (vw10) inl10 (by decide) q354 dX10_crowd_35 ?_
      refine g_getr (t := 53) C hR (k := 52) (j := 0) (live_st (by decide)) rfl rfl (vw2) inl2 (by decide) q344 dX10_crowd_38 ?_
      refine lv_iload_n hx hb dX10_crowd_41 rfl (lv_at hl 2 rfl) ?_
      refine lv_iload_n hx hb dX10_crowd_42 rfl (lv_at hl 3 rfl) ?_
      obtain ⟨g13, h⟩ := gd_e h
      obtain ⟨S12, eS12, h⟩ := lt_e h
      refine g_iast C hR hS (k := 53) (n := 16) (live_st (by decide)) rfl g13 eS12 dX10_crowd_43 (fun H locs hR hS => ?_)
      refine lv_iload_n hx hb dX10_crowd_44 rfl (lv_at hl 0 rfl) ?_
      exact g_iret C hR hS h dX10_crowd_45
    · have h := ite_t c9 h
      refine lv_bipush (v := -3) hx hb dX10_crowd_21 (by decide) ?_
      exact g_iret C hR hS h dX10_crowd_23
  · have h := ite_t c6 h
    refine lv_bipush (v := -2) hx hb dX10_crowd_9 (by decide) ?_
    exact g_iret C hR hS h dX10_crowd_11

/-! OneVoice.understood(II)I -/
abbrev rm_X10_understood : Room := { frames := 3, cells := 0, slots := 0, locals := 66 }
theorem m_X10_understood : MV yX10_understood RX10 cX10_understood 3 (some .int) 2 := ⟨q898, q899, q68, q900, by decide +kernel⟩
def f_X10_understood (v1 : Int32) (v2 : Int32) (S : St) : Option (Int32 × St) :=
  bd_ (f_X10_below v1 (16 : Int32) S) fun r1 S2 =>
  if r1 = 0 then
    some ((-2 : Int32), S2)
  else
    bd_ (f_X10_below v2 (1000 : Int32) S2) fun r4 S5 =>
    if r4 = 0 then
      some ((-3 : Int32), S5)
    else
      bd_ (f_X2_reached v1 v2 S5) fun r7 S8 =>
      some (r7, S8)

set_option maxHeartbeats 4000000 in
set_option maxRecDepth 100000 in
theorem c_X10_understood (l : Launch) {E : En} {α : Nat → Nat} {g : Nat × Nat} {v1 : Int32} {v2 : Int32} {S : St}  {z : Int32 × St} (h : f_X10_understood v1 v2 S = some z) : Met l yX10_understood (wsY yX10_understood cX10_understood 3 (some .int)) rm_X10_understood (va_Pc [.ref (α 0), .int v1, .int v2] (Wd E α g S)) (Qi E α g z) 0 0 E.2.2.1 := by
  refine g_met [.ref (α 0), .int v1, .int v2] (by decide) rfl (Nat.le_of_ble_eq_true rfl) ?_
  intro p e s m below meth c ls C hR hl
  generalize hae : ([.ref (α 0), .int v1, .int v2] : List Value).toArray = args at C ⊢
  have hl : lv_has ls 3 [(0, .ref (α 0)), (1, .int v1), (2, .int v2)] := hl
  obtain ⟨hx, hb, hml, hown, hts, hlk, hrt, hKs⟩ := id C
  have hS : va_S E.2.2.1 s.heap s.heap [] := va_S.rf
  unfold f_X10_understood at h
  refine lv_iload_n hx hb dX10_understood_0 rfl (lv_at hl 1 rfl) ?_
  refine lv_bipush (v := 16) hx hb dX10_understood_1 (by decide) ?_
  obtain ⟨r1, S2, hr1, h⟩ := bd_e h
  refine g_ci hS (g_runS C hR hS (As := [.int v1, .int (16 : Int32)]) (rest := []) (c_X10_below l  hr1) m_X10_below q377 ⟨rfl, rfl⟩ ⟨Nat.le_of_ble_eq_true rfl, Nat.le_of_ble_eq_true rfl⟩ rfl hl.1 rfl (Nat.le_of_ble_eq_true rfl) dX10_understood_3 ⟨Nat.zero_le _, Nat.zero_le _⟩) (fun H locs hR hS => ?_)
  refine lv_if_ne (tgt := 12) hx hb dX10_understood_6 (by decide) (fun c3 => ?_) (fun c3 => ?_)
  · have h := ite_f c3 h
    refine lv_iload_n hx hb dX10_understood_12 rfl (lv_at hl 2 rfl) ?_
    refine lv_sipush (v := 1000) hx hb dX10_understood_13 (by decide) ?_
    obtain ⟨r4, S5, hr4, h⟩ := bd_e h
    refine g_ci hS (g_runS C hR hS (As := [.int v2, .int (1000 : Int32)]) (rest := []) (c_X10_below l  hr4) m_X10_below q377 ⟨rfl, rfl⟩ ⟨Nat.le_of_ble_eq_true rfl, Nat.le_of_ble_eq_true rfl⟩ rfl hl.1 rfl (Nat.le_of_ble_eq_true rfl) dX10_understood_16 ⟨Nat.zero_le _, Nat.zero_le _⟩) (fun H locs hR hS => ?_)
    refine lv_if_eq (tgt := 34) hx hb dX10_understood_19 (by decide) (fun c6 => ?_) (fun c6 => ?_)
    · have h := ite_t c6 h
      refine lv_bipush (v := -3) hx hb dX10_understood_34 (by decide) ?_
      exact g_iret C hR hS h dX10_understood_36
    · have h := ite_f c6 h
      refine lv_aload_n hx hb dX10_understood_22 rfl (lv_at hl 0 rfl) ?_
      refine g_getr (t := 52) C hR (k := 0) (j := 6) (live_st (by decide)) rfl rfl (vw10) inl10 (by decide) q354 dX10_understood_23 ?_
      refine lv_iload_n hx hb dX10_understood_26 rfl (lv_at hl 1 rfl) ?_
      refine lv_iload_n hx hb dX10_understood_27 rfl (lv_at hl 2 rfl) ?_
      obtain ⟨r7, S8, hr7, h⟩ := bd_e h
      refine g_ci hS (g_runV C hR hS (k := 52) (As := [.int v1, .int v2]) (rest := []) (c_X2_reached l  hr7) (live_st (by decide)) rfl (vw2) m_X2_reached q901 ⟨rfl, rfl⟩ ⟨Nat.le_of_ble_eq_true rfl, Nat.le_of_ble_eq_true rfl⟩ rfl hl.1 rfl (Nat.le_of_ble_eq_true rfl) dX10_understood_28 ⟨Nat.zero_le _, Nat.zero_le _⟩) (fun H locs hR hS => ?_)
      refine lv_goto (tgt := 36) hx hb dX10_understood_31 (by decide) ?_
      exact g_iret C hR hS h dX10_understood_36
  · have h := ite_t c3 h
    refine lv_bipush (v := -2) hx hb dX10_understood_9 (by decide) ?_
    exact g_iret C hR hS h dX10_understood_11
