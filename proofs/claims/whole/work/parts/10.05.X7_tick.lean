/-! OneVoice$Station.tick()V -/
abbrev rm_X7_tick : Room := { frames := 5, cells := 0, slots := 0, locals := 126 }
theorem m_X7_tick : MV yX7_tick RX7 cX7_tick 3 none 0 := ⟨q789, q790, q74, q791, by decide +kernel⟩
def f_X7_tick_L6 (K66 : St → Option (Unit × St))  : Nat → Int32 → St → Option (Unit × St)
  | 0, _, _ => none
  | f + 1, v1, S =>
    if (rd S 43 7) ≤ v1 then
      K66  S
    else
      gd_ (inb v1 24 ∧ (Int32.toNatClampNeg v1) < nC S) <|
      lt_ (fun  (S22 : St) =>
          lt_ (v1 + (1 : Int32)) fun x23 =>
          f_X7_tick_L6 K66 f x23 S22) fun J60 =>
      if (rd S (300 + 2 * (Int32.toNatClampNeg v1)) 3) = 0 then
        J60  S
      else
        gd_ (inb v1 24 ∧ (Int32.toNatClampNeg v1) < nC S) <|
        bd_ (f_X0_isReadyAt (Int32.toNatClampNeg v1) (rd S 43 8) S) fun r27 S28 =>
        if r27 = 0 then
          J60  S28
        else
          gd_ (inb v1 24 ∧ (Int32.toNatClampNeg v1) < nC S28) <|
          bd_ (f_X7_hush (rd S28 (300 + 2 * (Int32.toNatClampNeg v1)) 0) S28) fun r32 S33 =>
          bd_ (f_X7_beginIfStill v1 S33) fun r34 S35 =>
          J60  S35

def f_X7_tick_L73 (K139 : St → Option (Unit × St)) (v1 : Int32) : Nat → Int32 → St → Option (Unit × St)
  | 0, _, _ => none
  | f + 1, v2, S =>
    if (rd S 43 7) ≤ v2 then
      K139  S
    else
      gd_ (inb v2 24 ∧ (Int32.toNatClampNeg v2) < nC S) <|
      lt_ (fun  (S42 : St) =>
          lt_ (v2 + (1 : Int32)) fun x43 =>
          f_X7_tick_L73 K139 v1 f x43 S42) fun J133 =>
      if (rd S (300 + 2 * (Int32.toNatClampNeg v2)) 3) = 0 then
        gd_ (inb v2 24 ∧ (Int32.toNatClampNeg v2) < nC S) <|
        bd_ (f_X0_isReadyAt (Int32.toNatClampNeg v2) (rd S 43 8) S) fun r47 S48 =>
        if r47 = 0 then
          J133  S48
        else
          gd_ (inb v2 24 ∧ (Int32.toNatClampNeg v2) < nC S48) <|
          gd_ (inb (rd S48 (300 + 2 * (Int32.toNatClampNeg v2)) 0) 6) <|
          if ((rd S48 46 (Int32.toNatClampNeg (rd S48 (300 + 2 * (Int32.toNatClampNeg v2)) 0))) &&& v1) = 0 then
            bd_ (f_X7_beginIfStill v2 S48) fun r54 S55 =>
            J133  S55
          else
            J133  S48
      else
        J133  S

def f_X7_tick  (S : St) : Option (Unit × St) :=
  bd_ (f_X7_growStale  S) fun r17 S18 =>
  f_X7_tick_L6
    (fun  (S36 : St) =>
      bd_ (f_X7_whereDangerWaits  S36) fun r37 S38 =>
      f_X7_tick_L73
        (fun  (S56 : St) =>
          bd_ (f_X7_saySounds  S56) fun r57 S58 =>
          lt_ (wr S58 43 8 ((rd S58 43 8) + (1 : Int32))) fun S59 =>
          some ((), S59))
        r37 FU (0 : Int32) S38)
     FU (0 : Int32) S18

set_option maxHeartbeats 4000000 in
set_option maxRecDepth 100000 in
theorem w_X7_tick_L6 {p : Program} {l : Launch} {e : Env} {s : State} {m : MethodId} {args : Array Value} {below : List Frame} {meth : Method} {c : Code} {E : En} {α : Nat → Nat} {g : Nat × Nat} (C : Cx p s m args meth c RX7 cX7_tick 3 none E) {z : Unit × St} {K66 : St → Option (Unit × St)}
    (hK66 : ∀ (S : St) (H : Heap) (locs : List Loc) (ls : Array Slot), Rp E α g S H → va_S E.2.2.1 s.heap H locs → lv_has ls 3 [(0, .ref (α 43))] → K66  S = some z → W p l e rm_X7_tick s m args below meth c H locs 0 0 (MQ below (Qv E α g z) args s 0 0 E.2.2.1) (F0 m 66 ls [])) :
    ∀ (f : Nat) (v1 : Int32) (S : St) (H : Heap) (locs : List Loc) (ls : Array Slot), Rp E α g S H → va_S E.2.2.1 s.heap H locs → lv_has ls 3 [(0, .ref (α 43)), (1, .int v1)] → f_X7_tick_L6 K66 f v1 S = some z → W p l e rm_X7_tick s m args below meth c H locs 0 0 (MQ below (Qv E α g z) args s 0 0 E.2.2.1) (F0 m 6 ls []) := by
  obtain ⟨hx, hb, hml, hown, hts, hlk, hrt, hKs⟩ := id C
  intro f
  induction f with
  | zero =>
    intro v1 S H locs ls  hR hS hl h
    rw [f_X7_tick_L6] at h
    cases h
  | succ f ih =>
    intro v1 S H locs ls  hR hS hl h
    rw [f_X7_tick_L6] at h
    refine lv_iload_n hx hb dX7_tick_6 rfl (lv_at hl 1 rfl) ?_
    refine lv_aload_n hx hb dX7_tick_7 rfl (lv_at hl 0 rfl) ?_
    refine g_geti C hR (k := 43) (j := 7) (live_st (by decide)) rfl rfl (vw7) inl7 (by decide) q294 dX7_tick_8 ?_
    refine lv_icmp_ge (tgt := 66) hx hb dX7_tick_11 (by decide) (fun c19 => ?_) (fun c19 => ?_)
    · have h := ite_t c19 h
      exact hK66  _ _ _ _  hR hS (lv_sub hl [0] rfl) h
    · have h := ite_f c19 h
      refine lv_aload_n hx hb dX7_tick_14 rfl (lv_at hl 0 rfl) ?_
      refine g_getr (t := 48) C hR (k := 43) (j := 6) (live_st (by decide)) rfl rfl (vw7) inl7 (by decide) q292 dX7_tick_15 ?_
      refine lv_iload_n hx hb dX7_tick_18 rfl (lv_at hl 1 rfl) ?_
      obtain ⟨g20, h⟩ := gd_e h
      refine g_aldC C hR g20.1 g20.2 dX7_tick_19 (fun hn21 => ?_)
      refine g_geti C hR (k := (300 + 2 * (Int32.toNatClampNeg v1))) (j := 3) (live_c hn21) (lay_c (Nat.lt_of_lt_of_le hn21 hR.1.2.1)) rfl (vw0) inl0 (by decide) q736 dX7_tick_20 ?_
      obtain ⟨J60, eJ60, h⟩ := lt_e h
      have hJ60 : ∀ (S22 : St) (H : Heap) (locs : List Loc) (ls : Array Slot), Rp E α g S22 H → va_S E.2.2.1 s.heap H locs → lv_has ls 3 [(0, .ref (α 43)), (1, .int v1)] → J60  S22 = some z → W p l e rm_X7_tick s m args below meth c H locs 0 0 (MQ below (Qv E α g z) args s 0 0 E.2.2.1) (F0 m 60 ls []) := by
        intro  S22 H locs ls  hR hS hl h
        rw [eJ60] at h
        obtain ⟨x23, ex23, h⟩ := lt_e h
        refine lv_iinc (v := x23) (lv' := [(1, .int x23), (0, .ref (α 43))]) hx hb dX7_tick_60 hl (k := 1) rfl (by rw [ex23]; rfl) (by decide) rfl (fun ls hl => ?_)
        refine lv_goto (tgt := 6) hx hb dX7_tick_63 (by decide) ?_
        exact ih _ _ _ _ _  hR hS (lv_sub hl [1, 0] rfl) h
      clear eJ60
      refine lv_if_eq (tgt := 60) hx hb dX7_tick_23 (by decide) (fun c24 => ?_) (fun c24 => ?_)
      · have h := ite_t c24 h
        exact hJ60  _ _ _ _  hR hS hl h
      · have h := ite_f c24 h
        refine lv_aload_n hx hb dX7_tick_26 rfl (lv_at hl 0 rfl) ?_
        refine g_getr (t := 48) C hR (k := 43) (j := 6) (live_st (by decide)) rfl rfl (vw7) inl7 (by decide) q292 dX7_tick_27 ?_
        refine lv_iload_n hx hb dX7_tick_30 rfl (lv_at hl 1 rfl) ?_
        obtain ⟨g25, h⟩ := gd_e h
        refine g_aldC C hR g25.1 g25.2 dX7_tick_31 (fun hn26 => ?_)
        refine lv_aload_n hx hb dX7_tick_32 rfl (lv_at hl 0 rfl) ?_
        refine g_geti C hR (k := 43) (j := 8) (live_st (by decide)) rfl rfl (vw7) inl7 (by decide) q296 dX7_tick_33 ?_
        obtain ⟨r27, S28, hr27, h⟩ := bd_e h
        refine g_ci hS (g_runV C hR hS (k := (300 + 2 * (Int32.toNatClampNeg v1))) (As := [.int (rd S 43 8)]) (rest := []) (c_X0_isReadyAt l hn26 hr27) (live_c hn26) (lay_c (Nat.lt_of_lt_of_le hn26 hR.1.2.1)) (vw0) m_X0_isReadyAt q796 ⟨rfl, rfl⟩ ⟨Nat.le_of_ble_eq_true rfl, Nat.le_of_ble_eq_true rfl⟩ rfl hl.1 rfl (Nat.le_of_ble_eq_true rfl) dX7_tick_36 ⟨Nat.zero_le _, Nat.zero_le _⟩) (fun H locs hR hS => ?_)
        refine lv_if_eq (tgt := 60) hx hb dX7_tick_39 (by decide) (fun c29 => ?_) (fun c29 => ?_)
        · have h := ite_t c29 h
          exact hJ60  _ _ _ _  hR hS hl h
        · have h := ite_f c29 h
          refine lv_aload_n hx hb dX7_tick_42 rfl (lv_at hl 0 rfl) ?_
          refine lv_aload_n hx hb dX7_tick_43 rfl (lv_at hl 0 rfl) ?_
          refine g_getr (t := 48) C hR (k := 43) (j := 6) (live_st (by decide)) rfl rfl (vw7) inl7 (by decide) q292 dX7_tick_44 ?_
          refine lv_iload_n hx hb dX7_tick_47 rfl (lv_at hl 1 rfl) ?_
          obtain ⟨g30, h⟩ := gd_e h
          refine g_aldC C hR g30.1 g30.2 dX7_tick_48 (fun hn31 => ?_)
          refine g_geti C hR (k := (300 + 2 * (Int32.toNatClampNeg v1))) (j := 0) (live_c hn31) (lay_c (Nat.lt_of_lt_of_le hn31 hR.1.2.1)) rfl (vw0) inl0 (by decide) q730 dX7_tick_49 ?_
          obtain ⟨r32, S33, hr32, h⟩ := bd_e h
          refine g_cv hS (g_runV C hR hS (k := 43) (As := [.int (rd S28 (300 + 2 * (Int32.toNatClampNeg v1)) 0)]) (rest := []) (c_X7_hush l  hr32) (live_st (by decide)) rfl (vw7) m_X7_hush q800 ⟨rfl, rfl⟩ ⟨Nat.le_of_ble_eq_true rfl, Nat.le_of_ble_eq_true rfl⟩ rfl hl.1 rfl (Nat.le_of_ble_eq_true rfl) dX7_tick_52 ⟨Nat.zero_le _, Nat.zero_le _⟩) (fun H locs hR hS => ?_)
          refine lv_aload_n hx hb dX7_tick_55 rfl (lv_at hl 0 rfl) ?_
          refine lv_iload_n hx hb dX7_tick_56 rfl (lv_at hl 1 rfl) ?_
          obtain ⟨r34, S35, hr34, h⟩ := bd_e h
          refine g_cv hS (g_runV C hR hS (k := 43) (As := [.int v1]) (rest := []) (c_X7_beginIfStill l  hr34) (live_st (by decide)) rfl (vw7) m_X7_beginIfStill q808 ⟨rfl, rfl⟩ ⟨Nat.le_of_ble_eq_true rfl, Nat.le_of_ble_eq_true rfl⟩ rfl hl.1 rfl (Nat.le_of_ble_eq_true rfl) dX7_tick_57 ⟨Nat.zero_le _, Nat.zero_le _⟩) (fun H locs hR hS => ?_)
          exact hJ60  _ _ _ _  hR hS hl h

set_option maxHeartbeats 4000000 in
set_option maxRecDepth 100000 in
theorem w_X7_tick_L73 {p : Program} {l : Launch} {e : Env} {s : State} {m : MethodId} {args : Array Value} {below : List Frame} {meth : Method} {c : Code} {E : En} {α : Nat → Nat} {g : Nat × Nat} (C : Cx p s m args meth c RX7 cX7_tick 3 none E) {z : Unit × St} {K139 : St → Option (Unit × St)} {v1 : Int32}
    (hK139 : ∀ (S : St) (H : Heap) (locs : List Loc) (ls : Array Slot), Rp E α g S H → va_S E.2.2.1 s.heap H locs → lv_has ls 3 [(0, .ref (α 43))] → K139  S = some z → W p l e rm_X7_tick s m args below meth c H locs 0 0 (MQ below (Qv E α g z) args s 0 0 E.2.2.1) (F0 m 139 ls [])) :
    ∀ (f : Nat) (v2 : Int32) (S : St) (H : Heap) (locs : List Loc) (ls : Array Slot), Rp E α g S H → va_S E.2.2.1 s.heap H locs → lv_has ls 3 [(0, .ref (α 43)), (1, .int v1), (2, .int v2)] → f_X7_tick_L73 K139 v1 f v2 S = some z → W p l e rm_X7_tick s m args below meth c H locs 0 0 (MQ below (Qv E α g z) args s 0 0 E.2.2.1) (F0 m 73 ls []) := by
  obtain ⟨hx, hb, hml, hown, hts, hlk, hrt, hKs⟩ := id C
  intro f
  induction f with
  | zero =>
    intro v2 S H locs ls  hR hS hl h
    rw [f_X7_tick_L73] at h
    cases h
  | succ f ih =>
    intro v2 S H locs ls  hR hS hl h
    rw [f_X7_tick_L73] at h
    refine lv_iload_n hx hb dX7_tick_73 rfl (lv_at hl 2 rfl) ?_
    refine lv_aload_n hx hb dX7_tick_74 rfl (lv_at hl 0 rfl) ?_
    refine g_geti C hR (k := 43) (j := 7) (live_st (by decide)) rfl rfl (vw7) inl7 (by decide) q294 dX7_tick_75 ?_
    refine lv_icmp_ge (tgt := 139) hx hb dX7_tick_78 (by decide) (fun c39 => ?_) (fun c39 => ?_)
    · have h := ite_t c39 h
      exact hK139  _ _ _ _  hR hS (lv_sub hl [0] rfl) h
    · have h := ite_f c39 h
      refine lv_aload_n hx hb dX7_tick_81 rfl (lv_at hl 0 rfl) ?_
      refine g_getr (t := 48) C hR (k := 43) (j := 6) (live_st (by decide)) rfl rfl (vw7) inl7 (by decide) q292 dX7_tick_82 ?_
      refine lv_iload_n hx hb dX7_tick_85 rfl (lv_at hl 2 rfl) ?_
      obtain ⟨g40, h⟩ := gd_e h
      refine g_aldC C hR g40.1 g40.2 dX7_tick_86 (fun hn41 => ?_)
      refine g_geti C hR (k := (300 + 2 * (Int32.toNatClampNeg v2))) (j := 3) (live_c hn41) (lay_c (Nat.lt_of_lt_of_le hn41 hR.1.2.1)) rfl (vw0) inl0 (by decide) q736 dX7_tick_87 ?_
      obtain ⟨J133, eJ133, h⟩ := lt_e h
      have hJ133 : ∀ (S42 : St) (H : Heap) (locs : List Loc) (ls : Array Slot), Rp E α g S42 H → va_S E.2.2.1 s.heap H locs → lv_has ls 3 [(0, .ref (α 43)), (1, .int v1), (2, .int v2)] → J133  S42 = some z → W p l e rm_X7_tick s m args below meth c H locs 0 0 (MQ below (Qv E α g z) args s 0 0 E.2.2.1) (F0 m 133 ls []) := by
        intro  S42 H locs ls  hR hS hl h
        rw [eJ133] at h
        obtain ⟨x43, ex43, h⟩ := lt_e h
        refine lv_iinc (v := x43) (lv' := [(2, .int x43), (0, .ref (α 43)), (1, .int v1)]) hx hb dX7_tick_133 hl (k := 2) rfl (by rw [ex43]; rfl) (by decide) rfl (fun ls hl => ?_)
        refine lv_goto (tgt := 73) hx hb dX7_tick_136 (by decide) ?_
        exact ih _ _ _ _ _  hR hS (lv_sub hl [1, 2, 0] rfl) h
      clear eJ133
      refine lv_if_ne (tgt := 133) hx hb dX7_tick_90 (by decide) (fun c44 => ?_) (fun c44 => ?_)
      · have h := ite_f c44 h
        exact hJ133  _ _ _ _  hR hS hl h
      · have h := ite_t c44 h
        refine lv_aload_n hx hb dX7_tick_93 rfl (lv_at hl 0 rfl) ?_
        refine g_getr (t := 48) C hR (k := 43) (j := 6) (live_st (by decide)) rfl rfl (vw7) inl7 (by decide) q292 dX7_tick_94 ?_
        refine lv_iload_n hx hb dX7_tick_97 rfl (lv_at hl 2 rfl) ?_
        obtain ⟨g45, h⟩ := gd_e h
        refine g_aldC C hR g45.1 g45.2 dX7_tick_98 (fun hn46 => ?_)
        refine lv_aload_n hx hb dX7_tick_99 rfl (lv_at hl 0 rfl) ?_
        refine g_geti C hR (k := 43) (j := 8) (live_st (by decide)) rfl rfl (vw7) inl7 (by decide) q296 dX7_tick_100 ?_
        obtain ⟨r47, S48, hr47, h⟩ := bd_e h
        refine g_ci hS (g_runV C hR hS (k := (300 + 2 * (Int32.toNatClampNeg v2))) (As := [.int (rd S 43 8)]) (rest := []) (c_X0_isReadyAt l hn46 hr47) (live_c hn46) (lay_c (Nat.lt_of_lt_of_le hn46 hR.1.2.1)) (vw0) m_X0_isReadyAt q796 ⟨rfl, rfl⟩ ⟨Nat.le_of_ble_eq_true rfl, Nat.le_of_ble_eq_true rfl⟩ rfl hl.1 rfl (Nat.le_of_ble_eq_true rfl) dX7_tick_103 ⟨Nat.zero_le _, Nat.zero_le _⟩) (fun H locs hR hS => ?_)
        refine lv_if_eq (tgt := 133) hx hb dX7_tick_106 (by decide) (fun c49 => ?_) (fun c49 => ?_)
        · have h := ite_t c49 h
          exact hJ133  _ _ _ _  hR hS hl h
        · have h := ite_f c49 h
          refine lv_aload_n hx hb dX7_tick_109 rfl (lv_at hl 0 rfl) ?_
          refine g_getr (t := 46) C hR (k := 43) (j := 4) (live_st (by decide)) rfl rfl (vw7) inl7 (by decide) q289 dX7_tick_110 ?_
          refine lv_aload_n hx hb dX7_tick_113 rfl (lv_at hl 0 rfl) ?_
          refine g_getr (t := 48) C hR (k := 43) (j := 6) (live_st (by decide)) rfl rfl (vw7) inl7 (by decide) q292 dX7_tick_114 ?_
          refine lv_iload_n hx hb dX7_tick_117 rfl (lv_at hl 2 rfl) ?_
          obtain ⟨g50, h⟩ := gd_e h
          refine g_aldC C hR g50.1 g50.2 dX7_tick_118 (fun hn51 => ?_)
          refine g_geti C hR (k := (300 + 2 * (Int32.toNatClampNeg v2))) (j := 0) (live_c hn51) (lay_c (Nat.lt_of_lt_of_le hn51 hR.1.2.1)) rfl (vw0) inl0 (by decide) q730 dX7_tick_119 ?_
          obtain ⟨g52, h⟩ := gd_e h
          refine g_iald C hR (k := 46) (n := 6) (live_st (by decide)) rfl g52 dX7_tick_122 ?_
          refine lv_iload_n hx hb dX7_tick_123 rfl (lv_at hl 1 rfl) ?_
          refine lv_iand hx hb dX7_tick_124 ?_
          refine lv_if_ne (tgt := 133) hx hb dX7_tick_125 (by decide) (fun c53 => ?_) (fun c53 => ?_)
          · have h := ite_f c53 h
            exact hJ133  _ _ _ _  hR hS hl h
          · have h := ite_t c53 h
            refine lv_aload_n hx hb dX7_tick_128 rfl (lv_at hl 0 rfl) ?_
            refine lv_iload_n hx hb dX7_tick_129 rfl (lv_at hl 2 rfl) ?_
            obtain ⟨r54, S55, hr54, h⟩ := bd_e h
            refine g_cv hS (g_runV C hR hS (k := 43) (As := [.int v2]) (rest := []) (c_X7_beginIfStill l  hr54) (live_st (by decide)) rfl (vw7) m_X7_beginIfStill q808 ⟨rfl, rfl⟩ ⟨Nat.le_of_ble_eq_true rfl, Nat.le_of_ble_eq_true rfl⟩ rfl hl.1 rfl (Nat.le_of_ble_eq_true rfl) dX7_tick_130 ⟨Nat.zero_le _, Nat.zero_le _⟩) (fun H locs hR hS => ?_)
            exact hJ133  _ _ _ _  hR hS hl h

set_option maxHeartbeats 4000000 in
set_option maxRecDepth 100000 in
theorem c_X7_tick (l : Launch) {E : En} {α : Nat → Nat} {g : Nat × Nat}  {S : St}  {z : Unit × St} (h : f_X7_tick  S = some z) : Met l yX7_tick (wsY yX7_tick cX7_tick 3 none) rm_X7_tick (va_Pc [.ref (α 43)] (Wd E α g S)) (Qv E α g z) 0 0 E.2.2.1 := by
  refine g_met [.ref (α 43)] (by decide) rfl (Nat.le_of_ble_eq_true rfl) ?_
  intro p e s m below meth c ls C hR hl
  generalize hae : ([.ref (α 43)] : List Value).toArray = args at C ⊢
  have hl : lv_has ls 3 [(0, .ref (α 43))] := hl
  obtain ⟨hx, hb, hml, hown, hts, hlk, hrt, hKs⟩ := id C
  have hS : va_S E.2.2.1 s.heap s.heap [] := va_S.rf
  unfold f_X7_tick at h
  refine lv_aload_n hx hb dX7_tick_0 rfl (lv_at hl 0 rfl) ?_
  obtain ⟨r17, S18, hr17, h⟩ := bd_e h
  refine g_cv hS (g_runV C hR hS (k := 43) (As := []) (rest := []) (c_X7_growStale l  hr17) (live_st (by decide)) rfl (vw7) m_X7_growStale q792 ⟨rfl, rfl⟩ ⟨Nat.le_of_ble_eq_true rfl, Nat.le_of_ble_eq_true rfl⟩ rfl hl.1 rfl (Nat.le_of_ble_eq_true rfl) dX7_tick_1 ⟨Nat.zero_le _, Nat.zero_le _⟩) (fun H locs hR hS => ?_)
  refine lv_iconst (v := 0) hx hb dX7_tick_4 (by decide) ?_
  refine lv_istore_n (lv' := [(1, .int (0 : Int32)), (0, .ref (α 43))]) hx hb dX7_tick_5 rfl hl (by decide) rfl (fun ls hl => ?_)
  refine w_X7_tick_L6 C ?_  _ _ _ _ _ _  hR hS (lv_sub hl [1, 0] rfl) h
  · intro  S36 H locs ls  hR hS hl h
    refine lv_aload_n hx hb dX7_tick_66 rfl (lv_at hl 0 rfl) ?_
    obtain ⟨r37, S38, hr37, h⟩ := bd_e h
    refine g_ci hS (g_runV C hR hS (k := 43) (As := []) (rest := []) (c_X7_whereDangerWaits l  hr37) (live_st (by decide)) rfl (vw7) m_X7_whereDangerWaits q818 ⟨rfl, rfl⟩ ⟨Nat.le_of_ble_eq_true rfl, Nat.le_of_ble_eq_true rfl⟩ rfl hl.1 rfl (Nat.le_of_ble_eq_true rfl) dX7_tick_67 ⟨Nat.zero_le _, Nat.zero_le _⟩) (fun H locs hR hS => ?_)
    refine lv_istore_n (lv' := [(1, .int r37), (0, .ref (α 43))]) hx hb dX7_tick_70 rfl hl (by decide) rfl (fun ls hl => ?_)
    refine lv_iconst (v := 0) hx hb dX7_tick_71 (by decide) ?_
    refine lv_istore_n (lv' := [(2, .int (0 : Int32)), (1, .int r37), (0, .ref (α 43))]) hx hb dX7_tick_72 rfl hl (by decide) rfl (fun ls hl => ?_)
    refine w_X7_tick_L73 C ?_  _ _ _ _ _ _  hR hS (lv_sub hl [2, 1, 0] rfl) h
    · intro  S56 H locs ls  hR hS hl h
      refine lv_aload_n hx hb dX7_tick_139 rfl (lv_at hl 0 rfl) ?_
      obtain ⟨r57, S58, hr57, h⟩ := bd_e h
      refine g_cv hS (g_runV C hR hS (k := 43) (As := []) (rest := []) (c_X7_saySounds l  hr57) (live_st (by decide)) rfl (vw7) m_X7_saySounds q822 ⟨rfl, rfl⟩ ⟨Nat.le_of_ble_eq_true rfl, Nat.le_of_ble_eq_true rfl⟩ rfl hl.1 rfl (Nat.le_of_ble_eq_true rfl) dX7_tick_140 ⟨Nat.zero_le _, Nat.zero_le _⟩) (fun H locs hR hS => ?_)
      refine lv_aload_n hx hb dX7_tick_143 rfl (lv_at hl 0 rfl) ?_
      refine lv_dup hx hb dX7_tick_144 rfl ?_
      refine g_geti C hR (k := 43) (j := 8) (live_st (by decide)) rfl rfl (vw7) inl7 (by decide) q296 dX7_tick_145 ?_
      refine lv_iconst (v := 1) hx hb dX7_tick_148 (by decide) ?_
      refine lv_iadd hx hb dX7_tick_149 ?_
      obtain ⟨S59, eS59, h⟩ := lt_e h
      refine g_puti C hR hS (k := 43) (j := 8) (live_st (by decide)) rfl rfl (vw7) inl7 (by decide) (ty0 := tyX7) tyX7_ok nmX7 q296 rfl rfl rfl eS59 dX7_tick_150 (fun H locs hR hS => ?_)
      exact g_vret C hR hS h dX7_tick_153

/-! OneVoice$Stock.mend()V -/
abbrev rm_X8_mend : Room := { frames := 1, cells := 0, slots := 0, locals := 21 }
theorem m_X8_mend : MV yX8_mend RX8 cX8_mend 4 none 0 := ⟨q418, q0, q69, q419, by decide +kernel⟩
def f_X8_mend_L22 (K66 : Int32 → St → Option (Unit × St)) (v1 : Int32) : Nat → Int32 → Int32 → St → Option (Unit × St)
  | 0, _, _, _ => none
  | f + 1, v2, v3, S =>
    if (rd S 1 1) ≤ v3 then
      K66 v2 S
    else
      gd_ (inb v3 16 ∧ (Int32.toNatClampNeg v3) < nP S) <|
      gd_ (inb v1 16 ∧ (Int32.toNatClampNeg v1) < nP S) <|
      bd_ (f_X3_isDoubleOf (Int32.toNatClampNeg v3) (Int32.toNatClampNeg v1) S) fun r25 S26 =>
      lt_ (fun (x27 : Int32) (S28 : St) =>
          lt_ (v3 + (1 : Int32)) fun x29 =>
          f_X8_mend_L22 K66 v1 f x27 x29 S28) fun J60 =>
      if r25 = 0 then
        J60 v2 S26
      else
        gd_ (inb v3 16 ∧ (Int32.toNatClampNeg v3) < nP S26) <|
        lt_ (v2 &&& (rd S26 (200 + 2 * (Int32.toNatClampNeg v3)) 4)) fun x33 =>
        J60 x33 S26

def f_X8_mend_L2 (K82 : St → Option (Unit × St))  : Nat → Int32 → St → Option (Unit × St)
  | 0, _, _ => none
  | f + 1, v1, S =>
    if (rd S 1 1) ≤ v1 then
      K82  S
    else
      gd_ (inb v1 16 ∧ (Int32.toNatClampNeg v1) < nP S) <|
      lt_ (rd S (200 + 2 * (Int32.toNatClampNeg v1)) 4) fun x19 =>
      f_X8_mend_L22
        (fun (x34 : Int32) (S35 : St) =>
          gd_ (inb v1 16 ∧ (Int32.toNatClampNeg v1) < nP S35) <|
          lt_ (wr S35 (200 + 2 * (Int32.toNatClampNeg v1)) 5 x34) fun S38 =>
          lt_ (v1 + (1 : Int32)) fun x39 =>
          f_X8_mend_L2 K82 f x39 S38)
        v1 FU x19 (0 : Int32) S

def f_X8_mend  (S : St) : Option (Unit × St) :=
  f_X8_mend_L2
    (fun  (S40 : St) =>
      some ((), S40))
     FU (0 : Int32) S

set_option maxHeartbeats 4000000 in
set_option maxRecDepth 100000 in
theorem w_X8_mend_L22 {p : Program} {l : Launch} {e : Env} {s : State} {m : MethodId} {args : Array Value} {below : List Frame} {meth : Method} {c : Code} {E : En} {α : Nat → Nat} {g : Nat × Nat} (C : Cx p s m args meth c RX8 cX8_mend 4 none E) {z : Unit × St} {K66 : Int32 → St → Option (Unit × St)} {v1 : Int32}
    (hK66 : ∀ (y2 : Int32) (S : St) (H : Heap) (locs : List Loc) (ls : Array Slot), Rp E α g S H → va_S E.2.2.1 s.heap H locs → lv_has ls 4 [(0, .ref (α 1)), (1, .int v1), (2, .int y2)] → K66 y2 S = some z → W p l e rm_X8_mend s m args below meth c H locs 0 0 (MQ below (Qv E α g z) args s 0 0 E.2.2.1) (F0 m 66 ls [])) :
    ∀ (f : Nat) (v2 : Int32) (v3 : Int32) (S : St) (H : Heap) (locs : List Loc) (ls : Array Slot), Rp E α g S H → va_S E.2.2.1 s.heap H locs → lv_has ls 4 [(0, .ref (α 1)), (1, .int v1), (2, .int v2), (3, .int v3)] → f_X8_mend_L22 K66 v1 f v2 v3 S = some z → W p l e rm_X8_mend s m args below meth c H locs 0 0 (MQ below (Qv E α g z) args s 0 0 E.2.2.1) (F0 m 22 ls []) := by
  obtain ⟨hx, hb, hml, hown, hts, hlk, hrt, hKs⟩ := id C
  intro f
  induction f with
  | zero =>
    intro v2 v3 S H locs ls  hR hS hl h
    rw [f_X8_mend_L22] at h
    cases h
  | succ f ih =>
    intro v2 v3 S H locs ls  hR hS hl h
    rw [f_X8_mend_L22] at h
    refine lv_iload_n hx hb dX8_mend_22 rfl (lv_at hl 3 rfl) ?_
    refine lv_aload_n hx hb dX8_mend_23 rfl (lv_at hl 0 rfl) ?_
    refine g_geti C hR (k := 1) (j := 1) (live_st (by decide)) rfl rfl (vw8) inl8 (by decide) q106 dX8_mend_24 ?_
    refine lv_icmp_ge (tgt := 66) hx hb dX8_mend_27 (by decide) (fun c20 => ?_) (fun c20 => ?_)
    · have h := ite_t c20 h
      exact hK66 _ _ _ _ _  hR hS (lv_sub hl [0, 1, 2] rfl) h
    · have h := ite_f c20 h
      refine lv_aload_n hx hb dX8_mend_30 rfl (lv_at hl 0 rfl) ?_
      refine g_getr (t := 2) C hR (k := 1) (j := 0) (live_st (by decide)) rfl rfl (vw8) inl8 (by decide) q103 dX8_mend_31 ?_
      refine lv_iload_n hx hb dX8_mend_34 rfl (lv_at hl 3 rfl) ?_
      obtain ⟨g21, h⟩ := gd_e h
      refine g_aldP C hR g21.1 g21.2 dX8_mend_35 (fun hn22 => ?_)
      refine lv_aload_n hx hb dX8_mend_36 rfl (lv_at hl 0 rfl) ?_
      refine g_getr (t := 2) C hR (k := 1) (j := 0) (live_st (by decide)) rfl rfl (vw8) inl8 (by decide) q103 dX8_mend_37 ?_
      refine lv_iload_n hx hb dX8_mend_40 rfl (lv_at hl 1 rfl) ?_
      obtain ⟨g23, h⟩ := gd_e h
      refine g_aldP C hR g23.1 g23.2 dX8_mend_41 (fun hn24 => ?_)
      obtain ⟨r25, S26, hr25, h⟩ := bd_e h
      refine g_ci hS (g_runV C hR hS (k := (200 + 2 * (Int32.toNatClampNeg v3))) (As := [.ref (α (200 + 2 * (Int32.toNatClampNeg v1)))]) (rest := []) (c_X3_isDoubleOf l hn22 hn24 hr25) (live_p hn22) (lay_p (Nat.lt_of_lt_of_le hn22 hR.1.1)) (vw3) m_X3_isDoubleOf q420 ⟨rfl, rfl⟩ ⟨Nat.le_of_ble_eq_true rfl, Nat.le_of_ble_eq_true rfl⟩ rfl hl.1 rfl (Nat.le_of_ble_eq_true rfl) dX8_mend_42 ⟨Nat.zero_le _, Nat.zero_le _⟩) (fun H locs hR hS => ?_)
      obtain ⟨J60, eJ60, h⟩ := lt_e h
      have hJ60 : ∀ (x27 : Int32) (S28 : St) (H : Heap) (locs : List Loc) (ls : Array Slot), Rp E α g S28 H → va_S E.2.2.1 s.heap H locs → lv_has ls 4 [(0, .ref (α 1)), (1, .int v1), (2, .int x27), (3, .int v3)] → J60 x27 S28 = some z → W p l e rm_X8_mend s m args below meth c H locs 0 0 (MQ below (Qv E α g z) args s 0 0 E.2.2.1) (F0 m 60 ls []) := by
        intro x27 S28 H locs ls  hR hS hl h
        rw [eJ60] at h
        obtain ⟨x29, ex29, h⟩ := lt_e h
        refine lv_iinc (v := x29) (lv' := [(3, .int x29), (0, .ref (α 1)), (1, .int v1), (2, .int x27)]) hx hb dX8_mend_60 hl (k := 3) rfl (by rw [ex29]; rfl) (by decide) rfl (fun ls hl => ?_)
        refine lv_goto (tgt := 22) hx hb dX8_mend_63 (by decide) ?_
        exact ih _ _ _ _ _ _  hR hS (lv_sub hl [1, 2, 3, 0] rfl) h
      clear eJ60
      refine lv_if_eq (tgt := 60) hx hb dX8_mend_45 (by decide) (fun c30 => ?_) (fun c30 => ?_)
      · have h := ite_t c30 h
        exact hJ60 _ _ _ _ _  hR hS hl h
      · have h := ite_f c30 h
        refine lv_iload_n hx hb dX8_mend_48 rfl (lv_at hl 2 rfl) ?_
        refine lv_aload_n hx hb dX8_mend_49 rfl (lv_at hl 0 rfl) ?_
        refine g_getr (t := 2) C hR (k := 1) (j := 0) (live_st (by decide)) rfl rfl (vw8) inl8 (by decide) q103 dX8_mend_50 ?_
        refine lv_iload_n hx hb dX8_mend_53 rfl (lv_at hl 3 rfl) ?_
        obtain ⟨g31, h⟩ := gd_e h
        refine g_aldP C hR g31.1 g31.2 dX8_mend_54 (fun hn32 => ?_)
        refine g_geti C hR (k := (200 + 2 * (Int32.toNatClampNeg v3))) (j := 4) (live_p hn32) (lay_p (Nat.lt_of_lt_of_le hn32 hR.1.1)) rfl (vw3) inl3 (by decide) q396 dX8_mend_55 ?_
        refine lv_iand hx hb dX8_mend_58 ?_
        obtain ⟨x33, ex33, h⟩ := lt_e h
        refine g_nmi ex33 ?_
        refine lv_istore_n (lv' := [(2, .int x33), (0, .ref (α 1)), (1, .int v1), (3, .int v3)]) hx hb dX8_mend_59 rfl hl (by decide) rfl (fun ls hl => ?_)
        exact hJ60 _ _ _ _ _  hR hS (lv_sub hl [1, 2, 0, 3] rfl) h

set_option maxHeartbeats 4000000 in
set_option maxRecDepth 100000 in
theorem w_X8_mend_L2 {p : Program} {l : Launch} {e : Env} {s : State} {m : MethodId} {args : Array Value} {below : List Frame} {meth : Method} {c : Code} {E : En} {α : Nat → Nat} {g : Nat × Nat} (C : Cx p s m args meth c RX8 cX8_mend 4 none E) {z : Unit × St} {K82 : St → Option (Unit × St)}
    (hK82 : ∀ (S : St) (H : Heap) (locs : List Loc) (ls : Array Slot), Rp E α g S H → va_S E.2.2.1 s.heap H locs → lv_has ls 4 [] → K82  S = some z → W p l e rm_X8_mend s m args below meth c H locs 0 0 (MQ below (Qv E α g z) args s 0 0 E.2.2.1) (F0 m 82 ls [])) :
    ∀ (f : Nat) (v1 : Int32) (S : St) (H : Heap) (locs : List Loc) (ls : Array Slot), Rp E α g S H → va_S E.2.2.1 s.heap H locs → lv_has ls 4 [(0, .ref (α 1)), (1, .int v1)] → f_X8_mend_L2 K82 f v1 S = some z → W p l e rm_X8_mend s m args below meth c H locs 0 0 (MQ below (Qv E α g z) args s 0 0 E.2.2.1) (F0 m 2 ls []) := by
  obtain ⟨hx, hb, hml, hown, hts, hlk, hrt, hKs⟩ := id C
  intro f
  induction f with
  | zero =>
    intro v1 S H locs ls  hR hS hl h
    rw [f_X8_mend_L2] at h
    cases h
  | succ f ih =>
    intro v1 S H locs ls  hR hS hl h
    rw [f_X8_mend_L2] at h
    refine lv_iload_n hx hb dX8_mend_2 rfl (lv_at hl 1 rfl) ?_
    refine lv_aload_n hx hb dX8_mend_3 rfl (lv_at hl 0 rfl) ?_
    refine g_geti C hR (k := 1) (j := 1) (live_st (by decide)) rfl rfl (vw8) inl8 (by decide) q106 dX8_mend_4 ?_
    refine lv_icmp_ge (tgt := 82) hx hb dX8_mend_7 (by decide) (fun c16 => ?_) (fun c16 => ?_)
    · have h := ite_t c16 h
      exact hK82  _ _ _ _  hR hS (lv_sub hl [] rfl) h
    · have h := ite_f c16 h
      refine lv_aload_n hx hb dX8_mend_10 rfl (lv_at hl 0 rfl) ?_
      refine g_getr (t := 2) C hR (k := 1) (j := 0) (live_st (by decide)) rfl rfl (vw8) inl8 (by decide) q103 dX8_mend_11 ?_
      refine lv_iload_n hx hb dX8_mend_14 rfl (lv_at hl 1 rfl) ?_
      obtain ⟨g17, h⟩ := gd_e h
      refine g_aldP C hR g17.1 g17.2 dX8_mend_15 (fun hn18 => ?_)
      refine g_geti C hR (k := (200 + 2 * (Int32.toNatClampNeg v1))) (j := 4) (live_p hn18) (lay_p (Nat.lt_of_lt_of_le hn18 hR.1.1)) rfl (vw3) inl3 (by decide) q396 dX8_mend_16 ?_
      obtain ⟨x19, ex19, h⟩ := lt_e h
      refine g_nmi ex19 ?_
      refine lv_istore_n (lv' := [(2, .int x19), (0, .ref (α 1)), (1, .int v1)]) hx hb dX8_mend_19 rfl hl (by decide) rfl (fun ls hl => ?_)
      refine lv_iconst (v := 0) hx hb dX8_mend_20 (by decide) ?_
      refine lv_istore_n (lv' := [(3, .int (0 : Int32)), (2, .int x19), (0, .ref (α 1)), (1, .int v1)]) hx hb dX8_mend_21 rfl hl (by decide) rfl (fun ls hl => ?_)
      refine w_X8_mend_L22 C ?_  _ _ _ _ _ _ _  hR hS (lv_sub hl [2, 3, 1, 0] rfl) h
      · intro x34 S35 H locs ls  hR hS hl h
        refine lv_aload_n hx hb dX8_mend_66 rfl (lv_at hl 0 rfl) ?_
        refine g_getr (t := 2) C hR (k := 1) (j := 0) (live_st (by decide)) rfl rfl (vw8) inl8 (by decide) q103 dX8_mend_67 ?_
        refine lv_iload_n hx hb dX8_mend_70 rfl (lv_at hl 1 rfl) ?_
        obtain ⟨g36, h⟩ := gd_e h
        refine g_aldP C hR g36.1 g36.2 dX8_mend_71 (fun hn37 => ?_)
        refine lv_iload_n hx hb dX8_mend_72 rfl (lv_at hl 2 rfl) ?_
        obtain ⟨S38, eS38, h⟩ := lt_e h
        refine g_puti C hR hS (k := (200 + 2 * (Int32.toNatClampNeg v1))) (j := 5) (live_p hn37) (lay_p (Nat.lt_of_lt_of_le hn37 hR.1.1)) rfl (vw3) inl3 (by decide) (ty0 := tyX3) tyX3_ok nmX3 q398 rfl rfl rfl eS38 dX8_mend_73 (fun H locs hR hS => ?_)
        obtain ⟨x39, ex39, h⟩ := lt_e h
        refine lv_iinc (v := x39) (lv' := [(1, .int x39), (0, .ref (α 1)), (2, .int x34)]) hx hb dX8_mend_76 hl (k := 1) rfl (by rw [ex39]; rfl) (by decide) rfl (fun ls hl => ?_)
        refine lv_goto (tgt := 2) hx hb dX8_mend_79 (by decide) ?_
        exact ih _ _ _ _ _  hR hS (lv_sub hl [1, 0] rfl) h

set_option maxHeartbeats 4000000 in
set_option maxRecDepth 100000 in
theorem c_X8_mend (l : Launch) {E : En} {α : Nat → Nat} {g : Nat × Nat}  {S : St}  {z : Unit × St} (h : f_X8_mend  S = some z) : Met l yX8_mend (wsY yX8_mend cX8_mend 4 none) rm_X8_mend (va_Pc [.ref (α 1)] (Wd E α g S)) (Qv E α g z) 0 0 E.2.2.1 := by
  refine g_met [.ref (α 1)] (by decide) rfl (Nat.le_of_ble_eq_true rfl) ?_
  intro p e s m below meth c ls C hR hl
  generalize hae : ([.ref (α 1)] : List Value).toArray = args at C ⊢
  have hl : lv_has ls 4 [(0, .ref (α 1))] := hl
  obtain ⟨hx, hb, hml, hown, hts, hlk, hrt, hKs⟩ := id C
  have hS : va_S E.2.2.1 s.heap s.heap [] := va_S.rf
  unfold f_X8_mend at h
  refine lv_iconst (v := 0) hx hb dX8_mend_0 (by decide) ?_
  refine lv_istore_n (lv' := [(1, .int (0 : Int32)), (0, .ref (α 1))]) hx hb dX8_mend_1 rfl hl (by decide) rfl (fun ls hl => ?_)
  refine w_X8_mend_L2 C ?_  _ _ _ _ _ _  hR hS (lv_sub hl [1, 0] rfl) h
  · intro  S40 H locs ls  hR hS hl h
    exact g_vret C hR hS h dX8_mend_82

/-! OneVoice$Stock.add(LOneVoice$Piece;)I -/
abbrev rm_X8_add : Room := { frames := 2, cells := 0, slots := 0, locals := 44 }
theorem m_X8_add : MV yX8_add RX8 cX8_add 2 (some .int) 1 := ⟨q413, q414, q69, q415, by decide +kernel⟩
def f_X8_add (n1 : Nat) (S : St) : Option (Int32 × St) :=
  gd_ (inb (rd S 1 1) 16 ∧ Int32.toNatClampNeg (rd S 1 1) = nP S ∧ n1 = nP S) <|
  lt_ (wr S 900 0 (nI (nP S + 1))) fun S3 =>
  lt_ (wr S3 1 1 ((rd S3 1 1) + (1 : Int32))) fun S5 =>
  bd_ (f_X8_mend  S5) fun r6 S7 =>
  some (((rd S7 1 1) - (1 : Int32)), S7)

set_option maxHeartbeats 4000000 in
set_option maxRecDepth 100000 in
theorem c_X8_add (l : Launch) {E : En} {α : Nat → Nat} {g : Nat × Nat} {n1 : Nat} {S : St} (hn1 : n1 < g.1) {z : Int32 × St} (h : f_X8_add n1 S = some z) : Met l yX8_add (wsY yX8_add cX8_add 2 (some .int)) rm_X8_add (va_Pc [.ref (α 1), .ref (α (200 + 2 * n1))] (Wd E α g S)) (Qi E α g z) 0 0 E.2.2.1 := by
  refine g_met [.ref (α 1), .ref (α (200 + 2 * n1))] (by decide) rfl (Nat.le_of_ble_eq_true rfl) ?_
  intro p e s m below meth c ls C hR hl
  generalize hae : ([.ref (α 1), .ref (α (200 + 2 * n1))] : List Value).toArray = args at C ⊢
  have hl : lv_has ls 2 [(0, .ref (α 1)), (1, .ref (α (200 + 2 * n1)))] := hl
  obtain ⟨hx, hb, hml, hown, hts, hlk, hrt, hKs⟩ := id C
  have hS : va_S E.2.2.1 s.heap s.heap [] := va_S.rf
  unfold f_X8_add at h
  refine lv_aload_n hx hb dX8_add_0 rfl (lv_at hl 0 rfl) ?_
  refine g_getr (t := 2) C hR (k := 1) (j := 0) (live_st (by decide)) rfl rfl (vw8) inl8 (by decide) q103 dX8_add_1 ?_
  refine lv_aload_n hx hb dX8_add_4 rfl (lv_at hl 0 rfl) ?_
  refine g_geti C hR (k := 1) (j := 1) (live_st (by decide)) rfl rfl (vw8) inl8 (by decide) q106 dX8_add_5 ?_
  refine lv_aload_n hx hb dX8_add_8 rfl (lv_at hl 1 rfl) ?_
  obtain ⟨g4, h⟩ := gd_e h
  obtain ⟨S3, eS3, h⟩ := lt_e h
  refine g_astP C hR hS hn1 g4 eS3 dX8_add_9 (fun H locs hR hS => ?_)
  refine lv_aload_n hx hb dX8_add_10 rfl (lv_at hl 0 rfl) ?_
  refine lv_dup hx hb dX8_add_11 rfl ?_
  refine g_geti C hR (k := 1) (j := 1) (live_st (by decide)) rfl rfl (vw8) inl8 (by decide) q106 dX8_add_12 ?_
  refine lv_iconst (v := 1) hx hb dX8_add_15 (by decide) ?_
  refine lv_iadd hx hb dX8_add_16 ?_
  obtain ⟨S5, eS5, h⟩ := lt_e h
  refine g_puti C hR hS (k := 1) (j := 1) (live_st (by decide)) rfl rfl (vw8) inl8 (by decide) (ty0 := tyX8) tyX8_ok nmX8 q106 rfl rfl rfl eS5 dX8_add_17 (fun H locs hR hS => ?_)
  refine lv_aload_n hx hb dX8_add_20 rfl (lv_at hl 0 rfl) ?_
  obtain ⟨r6, S7, hr6, h⟩ := bd_e h
  refine g_cv hS (g_runV C hR hS (k := 1) (As := []) (rest := []) (c_X8_mend l  hr6) (live_st (by decide)) rfl (vw8) m_X8_mend q416 ⟨rfl, rfl⟩ ⟨Nat.le_of_ble_eq_true rfl, Nat.le_of_ble_eq_true rfl⟩ rfl hl.1 rfl (Nat.le_of_ble_eq_true rfl) dX8_add_21 ⟨Nat.zero_le _, Nat.zero_le _⟩) (fun H locs hR hS => ?_)
  refine lv_aload_n hx hb dX8_add_24 rfl (lv_at hl 0 rfl) ?_
  refine g_geti C hR (k := 1) (j := 1) (live_st (by decide)) rfl rfl (vw8) inl8 (by decide) q106 dX8_add_25 ?_
  refine lv_iconst (v := 1) hx hb dX8_add_28 (by decide) ?_
  refine lv_isub hx hb dX8_add_29 ?_
  exact g_iret C hR hS h dX8_add_30

/-! OneVoice$Stock.wear(II)I -/
abbrev rm_X8_wear : Room := { frames := 2, cells := 0, slots := 0, locals := 44 }
theorem m_X8_wear : MV yX8_wear RX8 cX8_wear 4 (some .int) 2 := ⟨q429, q430, q69, q431, by decide +kernel⟩
def f_X8_wear (v1 : Int32) (v2 : Int32) (S : St) : Option (Int32 × St) :=
  gd_ (inb v1 16 ∧ (Int32.toNatClampNeg v1) < nP S) <|
  lt_ (rd S (200 + 2 * (Int32.toNatClampNeg v1)) 4) fun x9 =>
  gd_ (inb v1 16 ∧ (Int32.toNatClampNeg v1) < nP S) <|
  lt_ (wr S (200 + 2 * (Int32.toNatClampNeg v1)) 4 v2) fun S12 =>
  bd_ (f_X8_mend  S12) fun r13 S14 =>
  some (x9, S14)

set_option maxHeartbeats 4000000 in
set_option maxRecDepth 100000 in
theorem c_X8_wear (l : Launch) {E : En} {α : Nat → Nat} {g : Nat × Nat} {v1 : Int32} {v2 : Int32} {S : St}  {z : Int32 × St} (h : f_X8_wear v1 v2 S = some z) : Met l yX8_wear (wsY yX8_wear cX8_wear 4 (some .int)) rm_X8_wear (va_Pc [.ref (α 1), .int v1, .int v2] (Wd E α g S)) (Qi E α g z) 0 0 E.2.2.1 := by
  refine g_met [.ref (α 1), .int v1, .int v2] (by decide) rfl (Nat.le_of_ble_eq_true rfl) ?_
  intro p e s m below meth c ls C hR hl
  generalize hae : ([.ref (α 1), .int v1, .int v2] : List Value).toArray = args at C ⊢
  have hl : lv_has ls 4 [(0, .ref (α 1)), (1, .int v1), (2, .int v2)] := hl
  obtain ⟨hx, hb, hml, hown, hts, hlk, hrt, hKs⟩ := id C
  have hS : va_S E.2.2.1 s.heap s.heap [] := va_S.rf
  unfold f_X8_wear at h
  refine lv_aload_n hx hb dX8_wear_0 rfl (lv_at hl 0 rfl) ?_
  refine g_getr (t := 2) C hR (k := 1) (j := 0) (live_st (by decide)) rfl rfl (vw8) inl8 (by decide) q103 dX8_wear_1 ?_
  refine lv_iload_n hx hb dX8_wear_4 rfl (lv_at hl 1 rfl) ?_
  obtain ⟨g7, h⟩ := gd_e h
  refine g_aldP C hR g7.1 g7.2 dX8_wear_5 (fun hn8 => ?_)
  refine g_geti C hR (k := (200 + 2 * (Int32.toNatClampNeg v1))) (j := 4) (live_p hn8) (lay_p (Nat.lt_of_lt_of_le hn8 hR.1.1)) rfl (vw3) inl3 (by decide) q396 dX8_wear_6 ?_
  obtain ⟨x9, ex9, h⟩ := lt_e h
  refine g_nmi ex9 ?_
  refine lv_istore_n (lv' := [(3, .int x9), (0, .ref (α 1)), (1, .int v1), (2, .int v2)]) hx hb dX8_wear_9 rfl hl (by decide) rfl (fun ls hl => ?_)
  refine lv_aload_n hx hb dX8_wear_10 rfl (lv_at hl 1 rfl) ?_
  refine g_getr (t := 2) C hR (k := 1) (j := 0) (live_st (by decide)) rfl rfl (vw8) inl8 (by decide) q103 dX8_wear_11 ?_
  refine lv_iload_n hx hb dX8_wear_14 rfl (lv_at hl 2 rfl) ?_
  obtain ⟨g10, h⟩ := gd_e h
  refine g_aldP C hR g10.1 g10.2 dX8_wear_15 (fun hn11 => ?_)
  refine lv_iload_n hx hb dX8_wear_16 rfl (lv_at hl 3 rfl) ?_
  obtain ⟨S12, eS12, h⟩ := lt_e h
  refine g_puti C hR hS (k := (200 + 2 * (Int32.toNatClampNeg v1))) (j := 4) (live_p hn11) (lay_p (Nat.lt_of_lt_of_le hn11 hR.1.1)) rfl (vw3) inl3 (by decide) (ty0 := tyX3) tyX3_ok nmX3 q396 rfl rfl rfl eS12 dX8_wear_17 (fun H locs hR hS => ?_)
  refine lv_aload_n hx hb dX8_wear_20 rfl (lv_at hl 1 rfl) ?_
  obtain ⟨r13, S14, hr13, h⟩ := bd_e h
  refine g_cv hS (g_runV C hR hS (k := 1) (As := []) (rest := []) (c_X8_mend l  hr13) (live_st (by decide)) rfl (vw8) m_X8_mend q416 ⟨rfl, rfl⟩ ⟨Nat.le_of_ble_eq_true rfl, Nat.le_of_ble_eq_true rfl⟩ rfl hl.1 rfl (Nat.le_of_ble_eq_true rfl) dX8_wear_21 ⟨Nat.zero_le _, Nat.zero_le _⟩) (fun H locs hR hS => ?_)
  refine lv_iload_n hx hb dX8_wear_24 rfl (lv_at hl 0 rfl) ?_
  exact g_iret C hR hS h dX8_wear_25

/-! OneVoice$Stock.lostInAll()I -/
abbrev rm_X8_lostInAll : Room := { frames := 1, cells := 0, slots := 0, locals := 20 }
theorem m_X8_lostInAll : MV yX8_lostInAll RX8 cX8_lostInAll 3 (some .int) 0 := ⟨q449, q450, q69, q451, by decide +kernel⟩
def f_X8_lostInAll_L4 (K33 : Int32 → St → Option (Int32 × St))  : Nat → Int32 → Int32 → St → Option (Int32 × St)
  | 0, _, _, _ => none
  | f + 1, v1, v2, S =>
    if (rd S 1 1) ≤ v2 then
      K33 v1 S
    else
      gd_ (inb v2 16 ∧ (Int32.toNatClampNeg v2) < nP S) <|
      bd_ (f_J6_bitCount_0f7a4 (rd S (200 + 2 * (Int32.toNatClampNeg v2)) 5) S) fun r8 S9 =>
      lt_ (v1 + r8) fun x10 =>
      lt_ (v2 + (1 : Int32)) fun x11 =>
      f_X8_lostInAll_L4 K33 f x10 x11 S9

def f_X8_lostInAll  (S : St) : Option (Int32 × St) :=
  f_X8_lostInAll_L4
    (fun (x12 : Int32) (S13 : St) =>
      some (x12, S13))
     FU (0 : Int32) (0 : Int32) S

set_option maxHeartbeats 4000000 in
set_option maxRecDepth 100000 in
theorem w_X8_lostInAll_L4 {p : Program} {l : Launch} {e : Env} {s : State} {m : MethodId} {args : Array Value} {below : List Frame} {meth : Method} {c : Code} {E : En} {α : Nat → Nat} {g : Nat × Nat} (C : Cx p s m args meth c RX8 cX8_lostInAll 3 (some .int) E) {z : Int32 × St} {K33 : Int32 → St → Option (Int32 × St)}
    (hK33 : ∀ (y1 : Int32) (S : St) (H : Heap) (locs : List Loc) (ls : Array Slot), Rp E α g S H → va_S E.2.2.1 s.heap H locs → lv_has ls 3 [(1, .int y1)] → K33 y1 S = some z → W p l e rm_X8_lostInAll s m args below meth c H locs 0 0 (MQ below (Qi E α g z) args s 0 0 E.2.2.1) (F0 m 33 ls [])) :
    ∀ (f : Nat) (v1 : Int32) (v2 : Int32) (S : St) (H : Heap) (locs : List Loc) (ls : Array Slot), Rp E α g S H → va_S E.2.2.1 s.heap H locs → lv_has ls 3 [(0, .ref (α 1)), (1, .int v1), (2, .int v2)] → f_X8_lostInAll_L4 K33 f v1 v2 S = some z → W p l e rm_X8_lostInAll s m args below meth c H locs 0 0 (MQ below (Qi E α g z) args s 0 0 E.2.2.1) (F0 m 4 ls []) := by
  obtain ⟨hx, hb, hml, hown, hts, hlk, hrt, hKs⟩ := id C
  intro f
  induction f with
  | zero =>
    intro v1 v2 S H locs ls  hR hS hl h
    rw [f_X8_lostInAll_L4] at h
    cases h
  | succ f ih =>
    intro v1 v2 S H locs ls  hR hS hl h
    rw [f_X8_lostInAll_L4] at h
    refine lv_iload_n hx hb dX8_lostInAll_4 rfl (lv_at hl 2 rfl) ?_
    refine lv_aload_n hx hb dX8_lostInAll_5 rfl (lv_at hl 0 rfl) ?_
    refine g_geti C hR (k := 1) (j := 1) (live_st (by decide)) rfl rfl (vw8) inl8 (by decide) q106 dX8_lostInAll_6 ?_
    refine lv_icmp_ge (tgt := 33) hx hb dX8_lostInAll_9 (by decide) (fun c5 => ?_) (fun c5 => ?_)
    · have h := ite_t c5 h
      exact hK33 _ _ _ _ _  hR hS (lv_sub hl [1] rfl) h
    · have h := ite_f c5 h
      refine lv_iload_n hx hb dX8_lostInAll_12 rfl (lv_at hl 1 rfl) ?_
      refine lv_aload_n hx hb dX8_lostInAll_13 rfl (lv_at hl 0 rfl) ?_
      refine g_getr (t := 2) C hR (k := 1) (j := 0) (live_st (by decide)) rfl rfl (vw8) inl8 (by decide) q103 dX8_lostInAll_14 ?_
      refine lv_iload_n hx hb dX8_lostInAll_17 rfl (lv_at hl 2 rfl) ?_
      obtain ⟨g6, h⟩ := gd_e h
      refine g_aldP C hR g6.1 g6.2 dX8_lostInAll_18 (fun hn7 => ?_)
      refine g_geti C hR (k := (200 + 2 * (Int32.toNatClampNeg v2))) (j := 5) (live_p hn7) (lay_p (Nat.lt_of_lt_of_le hn7 hR.1.1)) rfl (vw3) inl3 (by decide) q398 dX8_lostInAll_19 ?_
      obtain ⟨r8, S9, hr8, h⟩ := bd_e h
      refine g_ci hS (g_runS C hR hS (As := [.int (rd S (200 + 2 * (Int32.toNatClampNeg v2)) 5)]) (rest := [.int v1]) (c_J6_bitCount_0f7a4 l  hr8) m_J6_bitCount_0f7a4 q452 ⟨rfl, rfl⟩ ⟨Nat.le_of_ble_eq_true rfl, Nat.le_of_ble_eq_true rfl⟩ rfl hl.1 rfl (Nat.le_of_ble_eq_true rfl) dX8_lostInAll_22 ⟨Nat.zero_le _, Nat.zero_le _⟩) (fun H locs hR hS => ?_)
      refine lv_iadd hx hb dX8_lostInAll_25 ?_
      obtain ⟨x10, ex10, h⟩ := lt_e h
      refine g_nmi ex10 ?_
      refine lv_istore_n (lv' := [(1, .int x10), (0, .ref (α 1)), (2, .int v2)]) hx hb dX8_lostInAll_26 rfl hl (by decide) rfl (fun ls hl => ?_)
      obtain ⟨x11, ex11, h⟩ := lt_e h
      refine lv_iinc (v := x11) (lv' := [(2, .int x11), (1, .int x10), (0, .ref (α 1))]) hx hb dX8_lostInAll_27 hl (k := 2) rfl (by rw [ex11]; rfl) (by decide) rfl (fun ls hl => ?_)
      refine lv_goto (tgt := 4) hx hb dX8_lostInAll_30 (by decide) ?_
      exact ih _ _ _ _ _ _  hR hS (lv_sub hl [2, 1, 0] rfl) h

set_option maxHeartbeats 4000000 in
set_option maxRecDepth 100000 in
theorem c_X8_lostInAll (l : Launch) {E : En} {α : Nat → Nat} {g : Nat × Nat}  {S : St}  {z : Int32 × St} (h : f_X8_lostInAll  S = some z) : Met l yX8_lostInAll (wsY yX8_lostInAll cX8_lostInAll 3 (some .int)) rm_X8_lostInAll (va_Pc [.ref (α 1)] (Wd E α g S)) (Qi E α g z) 0 0 E.2.2.1 := by
  refine g_met [.ref (α 1)] (by decide) rfl (Nat.le_of_ble_eq_true rfl) ?_
  intro p e s m below meth c ls C hR hl
  generalize hae : ([.ref (α 1)] : List Value).toArray = args at C ⊢
  have hl : lv_has ls 3 [(0, .ref (α 1))] := hl
  obtain ⟨hx, hb, hml, hown, hts, hlk, hrt, hKs⟩ := id C
  have hS : va_S E.2.2.1 s.heap s.heap [] := va_S.rf
  unfold f_X8_lostInAll at h
  refine lv_iconst (v := 0) hx hb dX8_lostInAll_0 (by decide) ?_
  refine lv_istore_n (lv' := [(1, .int (0 : Int32)), (0, .ref (α 1))]) hx hb dX8_lostInAll_1 rfl hl (by decide) rfl (fun ls hl => ?_)
  refine lv_iconst (v := 0) hx hb dX8_lostInAll_2 (by decide) ?_
  refine lv_istore_n (lv' := [(2, .int (0 : Int32)), (1, .int (0 : Int32)), (0, .ref (α 1))]) hx hb dX8_lostInAll_3 rfl hl (by decide) rfl (fun ls hl => ?_)
  refine w_X8_lostInAll_L4 C ?_  _ _ _ _ _ _ _  hR hS (lv_sub hl [2, 1, 0] rfl) h
  · intro x12 S13 H locs ls  hR hS hl h
    refine lv_iload_n hx hb dX8_lostInAll_33 rfl (lv_at hl 0 rfl) ?_
    exact g_iret C hR hS h dX8_lostInAll_34

/-! OneVoice$Text.append(JI)I -/
abbrev rm_X9_append : Room := { frames := 0, cells := 0, slots := 0, locals := 0 }
theorem m_X9_append : MV yX9_append RX9 cX9_append 5 (some .int) 2 := ⟨q534, q535, q72, q536, by decide +kernel⟩
def f_X9_append_L3 (K56 : St → Option (Int32 × St)) (v1 : Int64) (v3 : Int32) : Nat → Int32 → St → Option (Int32 × St)
  | 0, _, _ => none
  | f + 1, v4, S =>
    if v3 ≤ v4 then
      K56  S
    else
      if (200 : Int32) ≤ (rd S 20 1) then
        K56  S
      else
        gd_ (inb (rd S 20 1) 200) <|
        lt_ (wr S 21 (Int32.toNatClampNeg (rd S 20 1)) ((Int64.toInt32 (lushrv v1 ((8 : Int32) * v4))) &&& (255 : Int32))) fun S6 =>
        lt_ (wr S6 20 1 ((rd S6 20 1) + (1 : Int32))) fun S8 =>
        lt_ (v4 + (1 : Int32)) fun x9 =>
        f_X9_append_L3 K56 v1 v3 f x9 S8

def f_X9_append (v1 : Int64) (v3 : Int32) (S : St) : Option (Int32 × St) :=
  f_X9_append_L3
    (fun  (S10 : St) =>
      some ((rd S10 20 1), S10))
    v1 v3 FU (0 : Int32) S

set_option maxHeartbeats 4000000 in
set_option maxRecDepth 100000 in
theorem w_X9_append_L3 {p : Program} {l : Launch} {e : Env} {s : State} {m : MethodId} {args : Array Value} {below : List Frame} {meth : Method} {c : Code} {E : En} {α : Nat → Nat} {g : Nat × Nat} (C : Cx p s m args meth c RX9 cX9_append 5 (some .int) E) {z : Int32 × St} {K56 : St → Option (Int32 × St)} {v1 : Int64} {v3 : Int32}
    (hK56 : ∀ (S : St) (H : Heap) (locs : List Loc) (ls : Array Slot), Rp E α g S H → va_S E.2.2.1 s.heap H locs → lv_has ls 5 [(0, .ref (α 20))] → K56  S = some z → W p l e rm_X9_append s m args below meth c H locs 0 0 (MQ below (Qi E α g z) args s 0 0 E.2.2.1) (F0 m 56 ls [])) :
    ∀ (f : Nat) (v4 : Int32) (S : St) (H : Heap) (locs : List Loc) (ls : Array Slot), Rp E α g S H → va_S E.2.2.1 s.heap H locs → lv_has ls 5 [(0, .ref (α 20)), (1, .long v1), (3, .int v3), (4, .int v4)] → f_X9_append_L3 K56 v1 v3 f v4 S = some z → W p l e rm_X9_append s m args below meth c H locs 0 0 (MQ below (Qi E α g z) args s 0 0 E.2.2.1) (F0 m 3 ls []) := by
  obtain ⟨hx, hb, hml, hown, hts, hlk, hrt, hKs⟩ := id C
  intro f
  induction f with
  | zero =>
    intro v4 S H locs ls  hR hS hl h
    rw [f_X9_append_L3] at h
    cases h
  | succ f ih =>
    intro v4 S H locs ls  hR hS hl h
    rw [f_X9_append_L3] at h
    refine lv_iload hx hb dX9_append_3 (lv_at hl 3 rfl) ?_
    refine lv_iload_n hx hb dX9_append_5 rfl (lv_at hl 2 rfl) ?_
    refine lv_icmp_ge (tgt := 56) hx hb dX9_append_6 (by decide) (fun c4 => ?_) (fun c4 => ?_)
    · have h := ite_t c4 h
      exact hK56  _ _ _ _  hR hS (lv_sub hl [0] rfl) h
    · have h := ite_f c4 h
      refine lv_aload_n hx hb dX9_append_9 rfl (lv_at hl 0 rfl) ?_
      refine g_geti C hR (k := 20) (j := 1) (live_st (by decide)) rfl rfl (vw9) inl9 (by decide) q251 dX9_append_10 ?_
      refine lv_sipush (v := 200) hx hb dX9_append_13 (by decide) ?_
      refine lv_icmp_ge (tgt := 56) hx hb dX9_append_16 (by decide) (fun c5 => ?_) (fun c5 => ?_)
      · have h := ite_t c5 h
        exact hK56  _ _ _ _  hR hS (lv_sub hl [0] rfl) h
      · have h := ite_f c5 h
        refine lv_aload_n hx hb dX9_append_19 rfl (lv_at hl 0 rfl) ?_
        refine g_getr (t := 21) C hR (k := 20) (j := 0) (live_st (by decide)) rfl rfl (vw9) inl9 (by decide) q250 dX9_append_20 ?_
        refine lv_aload_n hx hb dX9_append_23 rfl (lv_at hl 0 rfl) ?_
        refine g_geti C hR (k := 20) (j := 1) (live_st (by decide)) rfl rfl (vw9) inl9 (by decide) q251 dX9_append_24 ?_
        refine lv_lload_n hx hb dX9_append_27 rfl (lv_at hl 1 rfl) ?_
        refine lv_bipush (v := 8) hx hb dX9_append_28 (by decide) ?_
        refine lv_iload hx hb dX9_append_30 (lv_at hl 3 rfl) ?_
        refine lv_imul hx hb dX9_append_32 ?_
        refine lv_lushr (v := lushrv v1 ((8 : Int32) * v4)) hx hb dX9_append_33 rfl ?_
        refine lv_l2i (v := Int64.toInt32 (lushrv v1 ((8 : Int32) * v4))) hx hb dX9_append_34 rfl ?_
        refine lv_sipush (v := 255) hx hb dX9_append_35 (by decide) ?_
        refine lv_iand hx hb dX9_append_38 ?_
        obtain ⟨g7, h⟩ := gd_e h
        obtain ⟨S6, eS6, h⟩ := lt_e h
        refine g_iast C hR hS (k := 21) (n := 200) (live_st (by decide)) rfl g7 eS6 dX9_append_39 (fun H locs hR hS => ?_)
        refine lv_aload_n hx hb dX9_append_40 rfl (lv_at hl 0 rfl) ?_
        refine lv_dup hx hb dX9_append_41 rfl ?_
        refine g_geti C hR (k := 20) (j := 1) (live_st (by decide)) rfl rfl (vw9) inl9 (by decide) q251 dX9_append_42 ?_
        refine lv_iconst (v := 1) hx hb dX9_append_45 (by decide) ?_
        refine lv_iadd hx hb dX9_append_46 ?_
        obtain ⟨S8, eS8, h⟩ := lt_e h
        refine g_puti C hR hS (k := 20) (j := 1) (live_st (by decide)) rfl rfl (vw9) inl9 (by decide) (ty0 := tyX9) tyX9_ok nmX9 q251 rfl rfl rfl eS8 dX9_append_47 (fun H locs hR hS => ?_)
        obtain ⟨x9, ex9, h⟩ := lt_e h
        refine lv_iinc (v := x9) (lv' := [(4, .int x9), (0, .ref (α 20)), (1, .long v1), (3, .int v3)]) hx hb dX9_append_50 hl (k := 3) rfl (by rw [ex9]; rfl) (by decide) rfl (fun ls hl => ?_)
        refine lv_goto (tgt := 3) hx hb dX9_append_53 (by decide) ?_
        exact ih _ _ _ _ _  hR hS (lv_sub hl [1, 2, 3, 0] rfl) h

set_option maxHeartbeats 4000000 in
set_option maxRecDepth 100000 in
theorem c_X9_append (l : Launch) {E : En} {α : Nat → Nat} {g : Nat × Nat} {v1 : Int64} {v3 : Int32} {S : St}  {z : Int32 × St} (h : f_X9_append v1 v3 S = some z) : Met l yX9_append (wsY yX9_append cX9_append 5 (some .int)) rm_X9_append (va_Pc [.ref (α 20), .long v1, .int v3] (Wd E α g S)) (Qi E α g z) 0 0 E.2.2.1 := by
  refine g_met [.ref (α 20), .long v1, .int v3] (by decide) rfl (Nat.le_of_ble_eq_true rfl) ?_
  intro p e s m below meth c ls C hR hl
  generalize hae : ([.ref (α 20), .long v1, .int v3] : List Value).toArray = args at C ⊢
  have hl : lv_has ls 5 [(0, .ref (α 20)), (1, .long v1), (3, .int v3)] := hl
  obtain ⟨hx, hb, hml, hown, hts, hlk, hrt, hKs⟩ := id C
  have hS : va_S E.2.2.1 s.heap s.heap [] := va_S.rf
  unfold f_X9_append at h
  refine lv_iconst (v := 0) hx hb dX9_append_0 (by decide) ?_
  refine lv_istore (lv' := [(4, .int (0 : Int32)), (0, .ref (α 20)), (1, .long v1), (3, .int v3)]) hx hb dX9_append_1 hl (by decide) rfl (fun ls hl => ?_)
  refine w_X9_append_L3 C ?_  _ _ _ _ _ _  hR hS (lv_sub hl [1, 2, 3, 0] rfl) h
  · intro  S10 H locs ls  hR hS hl h
    refine lv_aload_n hx hb dX9_append_56 rfl (lv_at hl 0 rfl) ?_
    refine g_geti C hR (k := 20) (j := 1) (live_st (by decide)) rfl rfl (vw9) inl9 (by decide) q251 dX9_append_57 ?_
    exact g_iret C hR hS h dX9_append_60

/-! OneVoice$Text.empty()I -/
abbrev rm_X9_empty : Room := { frames := 0, cells := 0, slots := 0, locals := 0 }
theorem m_X9_empty : MV yX9_empty RX9 cX9_empty 2 (some .int) 0 := ⟨q542, q543, q72, q544, by decide +kernel⟩
def f_X9_empty  (S : St) : Option (Int32 × St) :=
  lt_ (rd S 20 1) fun x3 =>
  lt_ (wr S 20 1 (0 : Int32)) fun S4 =>
  some (x3, S4)

set_option maxHeartbeats 4000000 in
set_option maxRecDepth 100000 in
theorem c_X9_empty (l : Launch) {E : En} {α : Nat → Nat} {g : Nat × Nat}  {S : St}  {z : Int32 × St} (h : f_X9_empty  S = some z) : Met l yX9_empty (wsY yX9_empty cX9_empty 2 (some .int)) rm_X9_empty (va_Pc [.ref (α 20)] (Wd E α g S)) (Qi E α g z) 0 0 E.2.2.1 := by
  refine g_met [.ref (α 20)] (by decide) rfl (Nat.le_of_ble_eq_true rfl) ?_
  intro p e s m below meth c ls C hR hl
  generalize hae : ([.ref (α 20)] : List Value).toArray = args at C ⊢
  have hl : lv_has ls 2 [(0, .ref (α 20))] := hl
  obtain ⟨hx, hb, hml, hown, hts, hlk, hrt, hKs⟩ := id C
  have hS : va_S E.2.2.1 s.heap s.heap [] := va_S.rf
  unfold f_X9_empty at h
  refine lv_aload_n hx hb dX9_empty_0 rfl (lv_at hl 0 rfl) ?_
  refine g_geti C hR (k := 20) (j := 1) (live_st (by decide)) rfl rfl (vw9) inl9 (by decide) q251 dX9_empty_1 ?_
  obtain ⟨x3, ex3, h⟩ := lt_e h
  refine g_nmi ex3 ?_
  refine lv_istore_n (lv' := [(1, .int x3), (0, .ref (α 20))]) hx hb dX9_empty_4 rfl hl (by decide) rfl (fun ls hl => ?_)
  refine lv_aload_n hx hb dX9_empty_5 rfl (lv_at hl 1 rfl) ?_
  refine lv_iconst (v := 0) hx hb dX9_empty_6 (by decide) ?_
  obtain ⟨S4, eS4, h⟩ := lt_e h
  refine g_puti C hR hS (k := 20) (j := 1) (live_st (by decide)) rfl rfl (vw9) inl9 (by decide) (ty0 := tyX9) tyX9_ok nmX9 q251 rfl rfl rfl eS4 dX9_empty_7 (fun H locs hR hS => ?_)
  refine lv_iload_n hx hb dX9_empty_10 rfl (lv_at hl 0 rfl) ?_
  exact g_iret C hR hS h dX9_empty_11

/-! OneVoice$Text.kindOf(I)I -/
abbrev rm_X9_kindOf : Room := { frames := 0, cells := 0, slots := 0, locals := 0 }
theorem m_X9_kindOf : MS yX9_kindOf cX9_kindOf 1 (some .int) 1 := ⟨q558, q72, q559, by decide +kernel⟩
def f_X9_kindOf (v0 : Int32) (S : St) : Option (Int32 × St) :=
  lt_ (fun  (S1 : St) =>
      lt_ (fun  (S2 : St) =>
          some ((3 : Int32), S2)) fun J30 =>
      if v0 < (48 : Int32) then
        J30  S1
      else
        if (57 : Int32) < v0 then
          J30  S1
        else
          some ((2 : Int32), S1)) fun J14 =>
  if v0 < (97 : Int32) then
    J14  S
  else
    if (122 : Int32) < v0 then
      J14  S
    else
      some ((1 : Int32), S)

set_option maxHeartbeats 4000000 in
set_option maxRecDepth 100000 in
theorem c_X9_kindOf (l : Launch) {E : En} {α : Nat → Nat} {g : Nat × Nat} {v0 : Int32} {S : St}  {z : Int32 × St} (h : f_X9_kindOf v0 S = some z) : Met l yX9_kindOf (wsY yX9_kindOf cX9_kindOf 1 (some .int)) rm_X9_kindOf (va_Pc [.int v0] (Wd E α g S)) (Qi E α g z) 0 0 E.2.2.1 := by
  refine g_met [.int v0] (by decide) rfl (Nat.le_of_ble_eq_true rfl) ?_
  intro p e s m below meth c ls C hR hl
  generalize hae : ([.int v0] : List Value).toArray = args at C ⊢
  have hl : lv_has ls 1 [(0, .int v0)] := hl
  obtain ⟨hx, hb, hml, hown, hts, hlk, hrt, hKs⟩ := id C
  have hS : va_S E.2.2.1 s.heap s.heap [] := va_S.rf
  unfold f_X9_kindOf at h
  refine lv_iload_n hx hb dX9_kindOf_0 rfl (lv_at hl 0 rfl) ?_
  refine lv_bipush (v := 97) hx hb dX9_kindOf_1 (by decide) ?_
  obtain ⟨J14, eJ14, h⟩ := lt_e h
  have hJ14 : ∀ (S1 : St) (H : Heap) (locs : List Loc) (ls : Array Slot), Rp E α g S1 H → va_S E.2.2.1 s.heap H locs → lv_has ls 1 [(0, .int v0)] → J14  S1 = some z → W p l e rm_X9_kindOf s m args below meth c H locs 0 0 (MQ below (Qi E α g z) args s 0 0 E.2.2.1) (F0 m 14 ls []) := by
    intro  S1 H locs ls  hR hS hl h
    rw [eJ14] at h
    refine lv_iload_n hx hb dX9_kindOf_14 rfl (lv_at hl 0 rfl) ?_
    refine lv_bipush (v := 48) hx hb dX9_kindOf_15 (by decide) ?_
    obtain ⟨J30, eJ30, h⟩ := lt_e h
    have hJ30 : ∀ (S2 : St) (H : Heap) (locs : List Loc) (ls : Array Slot), Rp E α g S2 H → va_S E.2.2.1 s.heap H locs → lv_has ls 1 [] → J30  S2 = some z → W p l e rm_X9_kindOf s m args below meth c H locs 0 0 (MQ below (Qi E α g z) args s 0 0 E.2.2.1) (F0 m 30 ls []) := by
      intro  S2 H locs ls  hR hS hl h
      rw [eJ30] at h
      refine lv_iconst (v := 3) hx hb dX9_kindOf_30 (by decide) ?_
      exact g_iret C hR hS h dX9_kindOf_31
    clear eJ30
    refine lv_icmp_lt (tgt := 30) hx hb dX9_kindOf_17 (by decide) (fun c3 => ?_) (fun c3 => ?_)
    · have h := ite_t c3 h
      exact hJ30  _ _ _ _  hR hS (lv_sub hl [] rfl) h
    · have h := ite_f c3 h
      refine lv_iload_n hx hb dX9_kindOf_20 rfl (lv_at hl 0 rfl) ?_
      refine lv_bipush (v := 57) hx hb dX9_kindOf_21 (by decide) ?_
      refine lv_icmp_gt (tgt := 30) hx hb dX9_kindOf_23 (by decide) (fun c4 => ?_) (fun c4 => ?_)
      · have h := ite_t c4 h
        exact hJ30  _ _ _ _  hR hS (lv_sub hl [] rfl) h
      · have h := ite_f c4 h
        refine lv_iconst (v := 2) hx hb dX9_kindOf_26 (by decide) ?_
        refine lv_goto (tgt := 31) hx hb dX9_kindOf_27 (by decide) ?_
        exact g_iret C hR hS h dX9_kindOf_31
  clear eJ14
  refine lv_icmp_lt (tgt := 14) hx hb dX9_kindOf_3 (by decide) (fun c5 => ?_) (fun c5 => ?_)
  · have h := ite_t c5 h
    exact hJ14  _ _ _ _  hR hS hl h
  · have h := ite_f c5 h
    refine lv_iload_n hx hb dX9_kindOf_6 rfl (lv_at hl 0 rfl) ?_
    refine lv_bipush (v := 122) hx hb dX9_kindOf_7 (by decide) ?_
    refine lv_icmp_gt (tgt := 14) hx hb dX9_kindOf_9 (by decide) (fun c6 => ?_) (fun c6 => ?_)
    · have h := ite_t c6 h
      exact hJ14  _ _ _ _  hR hS hl h
    · have h := ite_f c6 h
      refine lv_iconst (v := 1) hx hb dX9_kindOf_12 (by decide) ?_
      exact g_iret C hR hS h dX9_kindOf_13

/-! OneVoice$Text.step()V -/
abbrev rm_X9_step : Room := { frames := 1, cells := 0, slots := 0, locals := 20 }
theorem m_X9_step : MV yX9_step RX9 cX9_step 1 none 0 := ⟨q555, q8, q72, q556, by decide +kernel⟩
def f_X9_step_L8 (K46 : St → Option (Unit × St))  : Nat → St → Option (Unit × St)
  | 0, _ => none
  | f + 1, S =>
    if (rd S 20 1) ≤ (rd S 20 5) then
      K46  S
    else
      gd_ (inb (rd S 20 5) 200) <|
      if (rd S 21 (Int32.toNatClampNeg (rd S 20 5))) = (32 : Int32) then
        lt_ (wr S 20 5 ((rd S 20 5) + (1 : Int32))) fun S15 =>
        f_X9_step_L8 K46 f  S15
      else
        K46  S

def f_X9_step_L97 (K148 : St → Option (Unit × St))  : Nat → St → Option (Unit × St)
  | 0, _ => none
  | f + 1, S =>
    if (rd S 20 4) = (3 : Int32) then
      K148  S
    else
      if (rd S 20 1) ≤ (rd S 20 6) then
        K148  S
      else
        gd_ (inb (rd S 20 6) 200) <|
        bd_ (f_X9_kindOf (rd S 21 (Int32.toNatClampNeg (rd S 20 6))) S) fun r27 S28 =>
        if r27 = (rd S28 20 4) then
          lt_ (wr S28 20 6 ((rd S28 20 6) + (1 : Int32))) fun S30 =>
          f_X9_step_L97 K148 f  S30
        else
          K148  S28

def f_X9_step  (S : St) : Option (Unit × St) :=
  lt_ (wr S 20 5 (rd S 20 6)) fun S11 =>
  f_X9_step_L8
    (fun  (S16 : St) =>
      lt_ (wr S16 20 6 (rd S16 20 5)) fun S17 =>
      if (rd S17 20 5) < (rd S17 20 1) then
        gd_ (inb (rd S17 20 5) 200) <|
        bd_ (f_X9_kindOf (rd S17 21 (Int32.toNatClampNeg (rd S17 20 5))) S17) fun r20 S21 =>
        lt_ (wr S21 20 4 r20) fun S22 =>
        lt_ (wr S22 20 6 ((rd S22 20 6) + (1 : Int32))) fun S23 =>
        f_X9_step_L97
          (fun  (S31 : St) =>
            some ((), S31))
           FU  S23
      else
        lt_ (wr S17 20 4 (0 : Int32)) fun S32 =>
        some ((), S32))
     FU  S11

set_option maxHeartbeats 4000000 in
set_option maxRecDepth 100000 in
theorem w_X9_step_L8 {p : Program} {l : Launch} {e : Env} {s : State} {m : MethodId} {args : Array Value} {below : List Frame} {meth : Method} {c : Code} {E : En} {α : Nat → Nat} {g : Nat × Nat} (C : Cx p s m args meth c RX9 cX9_step 1 none E) {z : Unit × St} {K46 : St → Option (Unit × St)}
    (hK46 : ∀ (S : St) (H : Heap) (locs : List Loc) (ls : Array Slot), Rp E α g S H → va_S E.2.2.1 s.heap H locs → lv_has ls 1 [(0, .ref (α 20))] → K46  S = some z → W p l e rm_X9_step s m args below meth c H locs 0 0 (MQ below (Qv E α g z) args s 0 0 E.2.2.1) (F0 m 46 ls [])) :
    ∀ (f : Nat) (S : St) (H : Heap) (locs : List Loc) (ls : Array Slot), Rp E α g S H → va_S E.2.2.1 s.heap H locs → lv_has ls 1 [(0, .ref (α 20))] → f_X9_step_L8 K46 f  S = some z → W p l e rm_X9_step s m args below meth c H locs 0 0 (MQ below (Qv E α g z) args s 0 0 E.2.2.1) (F0 m 8 ls []) := by
  obtain ⟨hx, hb, hml, hown, hts, hlk, hrt, hKs⟩ := id C
  intro f
  induction f with
  | zero =>
    intro  S H locs ls  hR hS hl h
    rw [f_X9_step_L8] at h
    cases h
  | succ f ih =>
    intro  S H locs ls  hR hS hl h
    rw [f_X9_step_L8] at h
    refine lv_aload_n hx hb dX9_step_8 rfl (lv_at hl 0 rfl) ?_
    refine g_geti C hR (k := 20) (j := 5) (live_st (by decide)) rfl rfl (vw9) inl9 (by decide) q258 dX9_step_9 ?_
    refine lv_aload_n hx hb dX9_step_12 rfl (lv_at hl 0 rfl) ?_
    refine g_geti C hR (k := 20) (j := 1) (live_st (by decide)) rfl rfl (vw9) inl9 (by decide) q251 dX9_step_13 ?_
    refine lv_icmp_ge (tgt := 46) hx hb dX9_step_16 (by decide) (fun c12 => ?_) (fun c12 => ?_)
    · have h := ite_t c12 h
      exact hK46  _ _ _ _  hR hS hl h
    · have h := ite_f c12 h
      refine lv_aload_n hx hb dX9_step_19 rfl (lv_at hl 0 rfl) ?_
      refine g_getr (t := 21) C hR (k := 20) (j := 0) (live_st (by decide)) rfl rfl (vw9) inl9 (by decide) q250 dX9_step_20 ?_
      refine lv_aload_n hx hb dX9_step_23 rfl (lv_at hl 0 rfl) ?_
      refine g_geti C hR (k := 20) (j := 5) (live_st (by decide)) rfl rfl (vw9) inl9 (by decide) q258 dX9_step_24 ?_
      obtain ⟨g13, h⟩ := gd_e h
      refine g_iald C hR (k := 21) (n := 200) (live_st (by decide)) rfl g13 dX9_step_27 ?_
      refine lv_bipush (v := 32) hx hb dX9_step_28 (by decide) ?_
      refine lv_icmp_ne (tgt := 46) hx hb dX9_step_30 (by decide) (fun c14 => ?_) (fun c14 => ?_)
      · have h := ite_f c14 h
        exact hK46  _ _ _ _  hR hS hl h
      · have h := ite_t c14 h
        refine lv_aload_n hx hb dX9_step_33 rfl (lv_at hl 0 rfl) ?_
        refine lv_dup hx hb dX9_step_34 rfl ?_
        refine g_geti C hR (k := 20) (j := 5) (live_st (by decide)) rfl rfl (vw9) inl9 (by decide) q258 dX9_step_35 ?_
        refine lv_iconst (v := 1) hx hb dX9_step_38 (by decide) ?_
        refine lv_iadd hx hb dX9_step_39 ?_
        obtain ⟨S15, eS15, h⟩ := lt_e h
        refine g_puti C hR hS (k := 20) (j := 5) (live_st (by decide)) rfl rfl (vw9) inl9 (by decide) (ty0 := tyX9) tyX9_ok nmX9 q258 rfl rfl rfl eS15 dX9_step_40 (fun H locs hR hS => ?_)
        refine lv_goto (tgt := 8) hx hb dX9_step_43 (by decide) ?_
        exact ih  _ _ _ _  hR hS hl h

set_option maxHeartbeats 4000000 in
set_option maxRecDepth 100000 in
theorem w_X9_step_L97 {p : Program} {l : Launch} {e : Env} {s : State} {m : MethodId} {args : Array Value} {below : List Frame} {meth : Method} {c : Code} {E : En} {α : Nat → Nat} {g : Nat × Nat} (C : Cx p s m args meth c RX9 cX9_step 1 none E) {z : Unit × St} {K148 : St → Option (Unit × St)}
    (hK148 : ∀ (S : St) (H : Heap) (locs : List Loc) (ls : Array Slot), Rp E α g S H → va_S E.2.2.1 s.heap H locs → lv_has ls 1 [] → K148  S = some z → W p l e rm_X9_step s m args below meth c H locs 0 0 (MQ below (Qv E α g z) args s 0 0 E.2.2.1) (F0 m 148 ls [])) :
    ∀ (f : Nat) (S : St) (H : Heap) (locs : List Loc) (ls : Array Slot), Rp E α g S H → va_S E.2.2.1 s.heap H locs → lv_has ls 1 [(0, .ref (α 20))] → f_X9_step_L97 K148 f  S = some z → W p l e rm_X9_step s m args below meth c H locs 0 0 (MQ below (Qv E α g z) args s 0 0 E.2.2.1) (F0 m 97 ls []) := by
  obtain ⟨hx, hb, hml, hown, hts, hlk, hrt, hKs⟩ := id C
  intro f
  induction f with
  | zero =>
    intro  S H locs ls  hR hS hl h
    rw [f_X9_step_L97] at h
    cases h
  | succ f ih =>
    intro  S H locs ls  hR hS hl h
    rw [f_X9_step_L97] at h
    refine lv_aload_n hx hb dX9_step_97 rfl (lv_at hl 0 rfl) ?_
    refine g_geti C hR (k := 20) (j := 4) (live_st (by decide)) rfl rfl (vw9) inl9 (by decide) q257 dX9_step_98 ?_
    refine lv_iconst (v := 3) hx hb dX9_step_101 (by decide) ?_
    refine lv_icmp_eq (tgt := 148) hx hb dX9_step_102 (by decide) (fun c24 => ?_) (fun c24 => ?_)
    · have h := ite_t c24 h
      exact hK148  _ _ _ _  hR hS (lv_sub hl [] rfl) h
    · have h := ite_f c24 h
      refine lv_aload_n hx hb dX9_step_105 rfl (lv_at hl 0 rfl) ?_
      refine g_geti C hR (k := 20) (j := 6) (live_st (by decide)) rfl rfl (vw9) inl9 (by decide) q259 dX9_step_106 ?_
      refine lv_aload_n hx hb dX9_step_109 rfl (lv_at hl 0 rfl) ?_
      refine g_geti C hR (k := 20) (j := 1) (live_st (by decide)) rfl rfl (vw9) inl9 (by decide) q251 dX9_step_110 ?_
      refine lv_icmp_ge (tgt := 148) hx hb dX9_step_113 (by decide) (fun c25 => ?_) (fun c25 => ?_)
      · have h := ite_t c25 h
        exact hK148  _ _ _ _  hR hS (lv_sub hl [] rfl) h
      · have h := ite_f c25 h
        refine lv_aload_n hx hb dX9_step_116 rfl (lv_at hl 0 rfl) ?_
        refine g_getr (t := 21) C hR (k := 20) (j := 0) (live_st (by decide)) rfl rfl (vw9) inl9 (by decide) q250 dX9_step_117 ?_
        refine lv_aload_n hx hb dX9_step_120 rfl (lv_at hl 0 rfl) ?_
        refine g_geti C hR (k := 20) (j := 6) (live_st (by decide)) rfl rfl (vw9) inl9 (by decide) q259 dX9_step_121 ?_
        obtain ⟨g26, h⟩ := gd_e h
        refine g_iald C hR (k := 21) (n := 200) (live_st (by decide)) rfl g26 dX9_step_124 ?_
        obtain ⟨r27, S28, hr27, h⟩ := bd_e h
        refine g_ci hS (g_runS C hR hS (As := [.int (rd S 21 (Int32.toNatClampNeg (rd S 20 6)))]) (rest := []) (c_X9_kindOf l  hr27) m_X9_kindOf q557 ⟨rfl, rfl⟩ ⟨Nat.le_of_ble_eq_true rfl, Nat.le_of_ble_eq_true rfl⟩ rfl hl.1 rfl (Nat.le_of_ble_eq_true rfl) dX9_step_125 ⟨Nat.zero_le _, Nat.zero_le _⟩) (fun H locs hR hS => ?_)
        refine lv_aload_n hx hb dX9_step_128 rfl (lv_at hl 0 rfl) ?_
        refine g_geti C hR (k := 20) (j := 4) (live_st (by decide)) rfl rfl (vw9) inl9 (by decide) q257 dX9_step_129 ?_
        refine lv_icmp_ne (tgt := 148) hx hb dX9_step_132 (by decide) (fun c29 => ?_) (fun c29 => ?_)
        · have h := ite_f c29 h
          exact hK148  _ _ _ _  hR hS (lv_sub hl [] rfl) h
        · have h := ite_t c29 h
          refine lv_aload_n hx hb dX9_step_135 rfl (lv_at hl 0 rfl) ?_
          refine lv_dup hx hb dX9_step_136 rfl ?_
          refine g_geti C hR (k := 20) (j := 6) (live_st (by decide)) rfl rfl (vw9) inl9 (by decide) q259 dX9_step_137 ?_
          refine lv_iconst (v := 1) hx hb dX9_step_140 (by decide) ?_
          refine lv_iadd hx hb dX9_step_141 ?_
          obtain ⟨S30, eS30, h⟩ := lt_e h
          refine g_puti C hR hS (k := 20) (j := 6) (live_st (by decide)) rfl rfl (vw9) inl9 (by decide) (ty0 := tyX9) tyX9_ok nmX9 q259 rfl rfl rfl eS30 dX9_step_142 (fun H locs hR hS => ?_)
          refine lv_goto (tgt := 97) hx hb dX9_step_145 (by decide) ?_
          exact ih  _ _ _ _  hR hS hl h

set_option maxHeartbeats 4000000 in
set_option maxRecDepth 100000 in
theorem c_X9_step (l : Launch) {E : En} {α : Nat → Nat} {g : Nat × Nat}  {S : St}  {z : Unit × St} (h : f_X9_step  S = some z) : Met l yX9_step (wsY yX9_step cX9_step 1 none) rm_X9_step (va_Pc [.ref (α 20)] (Wd E α g S)) (Qv E α g z) 0 0 E.2.2.1 := by
  refine g_met [.ref (α 20)] (by decide) rfl (Nat.le_of_ble_eq_true rfl) ?_
  intro p e s m below meth c ls C hR hl
  generalize hae : ([.ref (α 20)] : List Value).toArray = args at C ⊢
  have hl : lv_has ls 1 [(0, .ref (α 20))] := hl
  obtain ⟨hx, hb, hml, hown, hts, hlk, hrt, hKs⟩ := id C
  have hS : va_S E.2.2.1 s.heap s.heap [] := va_S.rf
  unfold f_X9_step at h
  refine lv_aload_n hx hb dX9_step_0 rfl (lv_at hl 0 rfl) ?_
  refine lv_aload_n hx hb dX9_step_1 rfl (lv_at hl 0 rfl) ?_
  refine g_geti C hR (k := 20) (j := 6) (live_st (by decide)) rfl rfl (vw9) inl9 (by decide) q259 dX9_step_2 ?_
  obtain ⟨S11, eS11, h⟩ := lt_e h
  refine g_puti C hR hS (k := 20) (j := 5) (live_st (by decide)) rfl rfl (vw9) inl9 (by decide) (ty0 := tyX9) tyX9_ok nmX9 q258 rfl rfl rfl eS11 dX9_step_5 (fun H locs hR hS => ?_)
  refine w_X9_step_L8 C ?_  _  _ _ _ _  hR hS hl h
  · intro  S16 H locs ls  hR hS hl h
    refine lv_aload_n hx hb dX9_step_46 rfl (lv_at hl 0 rfl) ?_
    refine lv_aload_n hx hb dX9_step_47 rfl (lv_at hl 0 rfl) ?_
    refine g_geti C hR (k := 20) (j := 5) (live_st (by decide)) rfl rfl (vw9) inl9 (by decide) q258 dX9_step_48 ?_
    obtain ⟨S17, eS17, h⟩ := lt_e h
    refine g_puti C hR hS (k := 20) (j := 6) (live_st (by decide)) rfl rfl (vw9) inl9 (by decide) (ty0 := tyX9) tyX9_ok nmX9 q259 rfl rfl rfl eS17 dX9_step_51 (fun H locs hR hS => ?_)
    refine lv_aload_n hx hb dX9_step_54 rfl (lv_at hl 0 rfl) ?_
    refine g_geti C hR (k := 20) (j := 5) (live_st (by decide)) rfl rfl (vw9) inl9 (by decide) q258 dX9_step_55 ?_
    refine lv_aload_n hx hb dX9_step_58 rfl (lv_at hl 0 rfl) ?_
    refine g_geti C hR (k := 20) (j := 1) (live_st (by decide)) rfl rfl (vw9) inl9 (by decide) q251 dX9_step_59 ?_
    refine lv_icmp_lt (tgt := 71) hx hb dX9_step_62 (by decide) (fun c18 => ?_) (fun c18 => ?_)
    · have h := ite_t c18 h
      refine lv_aload_n hx hb dX9_step_71 rfl (lv_at hl 0 rfl) ?_
      refine lv_aload_n hx hb dX9_step_72 rfl (lv_at hl 0 rfl) ?_
      refine g_getr (t := 21) C hR (k := 20) (j := 0) (live_st (by decide)) rfl rfl (vw9) inl9 (by decide) q250 dX9_step_73 ?_
      refine lv_aload_n hx hb dX9_step_76 rfl (lv_at hl 0 rfl) ?_
      refine g_geti C hR (k := 20) (j := 5) (live_st (by decide)) rfl rfl (vw9) inl9 (by decide) q258 dX9_step_77 ?_
      obtain ⟨g19, h⟩ := gd_e h
      refine g_iald C hR (k := 21) (n := 200) (live_st (by decide)) rfl g19 dX9_step_80 ?_
      obtain ⟨r20, S21, hr20, h⟩ := bd_e h
      refine g_ci hS (g_runS C hR hS (As := [.int (rd S17 21 (Int32.toNatClampNeg (rd S17 20 5)))]) (rest := [.ref (α 20)]) (c_X9_kindOf l  hr20) m_X9_kindOf q557 ⟨rfl, rfl⟩ ⟨Nat.le_of_ble_eq_true rfl, Nat.le_of_ble_eq_true rfl⟩ rfl hl.1 rfl (Nat.le_of_ble_eq_true rfl) dX9_step_81 ⟨Nat.zero_le _, Nat.zero_le _⟩) (fun H locs hR hS => ?_)
      obtain ⟨S22, eS22, h⟩ := lt_e h
      refine g_puti C hR hS (k := 20) (j := 4) (live_st (by decide)) rfl rfl (vw9) inl9 (by decide) (ty0 := tyX9) tyX9_ok nmX9 q257 rfl rfl rfl eS22 dX9_step_84 (fun H locs hR hS => ?_)
      refine lv_aload_n hx hb dX9_step_87 rfl (lv_at hl 0 rfl) ?_
      refine lv_dup hx hb dX9_step_88 rfl ?_
      refine g_geti C hR (k := 20) (j := 6) (live_st (by decide)) rfl rfl (vw9) inl9 (by decide) q259 dX9_step_89 ?_
      refine lv_iconst (v := 1) hx hb dX9_step_92 (by decide) ?_
      refine lv_iadd hx hb dX9_step_93 ?_
      obtain ⟨S23, eS23, h⟩ := lt_e h
      refine g_puti C hR hS (k := 20) (j := 6) (live_st (by decide)) rfl rfl (vw9) inl9 (by decide) (ty0 := tyX9) tyX9_ok nmX9 q259 rfl rfl rfl eS23 dX9_step_94 (fun H locs hR hS => ?_)
      refine w_X9_step_L97 C ?_  _  _ _ _ _  hR hS hl h
      · intro  S31 H locs ls  hR hS hl h
        exact g_vret C hR hS h dX9_step_148
    · have h := ite_f c18 h
      refine lv_aload_n hx hb dX9_step_65 rfl (lv_at hl 0 rfl) ?_
      refine lv_iconst (v := 0) hx hb dX9_step_66 (by decide) ?_
      obtain ⟨S32, eS32, h⟩ := lt_e h
      refine g_puti C hR hS (k := 20) (j := 4) (live_st (by decide)) rfl rfl (vw9) inl9 (by decide) (ty0 := tyX9) tyX9_ok nmX9 q257 rfl rfl rfl eS32 dX9_step_67 (fun H locs hR hS => ?_)
      exact g_vret C hR hS h dX9_step_70

/-! OneVoice$Text.takes(Ljava/lang/String;)Z -/
abbrev rm_X9_takes : Room := { frames := 4, cells := 0, slots := 0, locals := 85 }
theorem m_X9_takes : MV yX9_takes RX9 cX9_takes 3 (some .boolean) 1 := ⟨q567, q10, q72, q568, by decide +kernel⟩
def f_X9_takes_L20 (K47 : St → Option (Int32 × St)) (K55 : St → Option (Int32 × St)) (n1 : Nat) : Nat → Int32 → St → Option (Int32 × St)
  | 0, _, _ => none
  | f + 1, v2, S =>
    bd_ (f_J0_length_8abf5 n1 S) fun r6 S7 =>
    if r6 ≤ v2 then
      K55  S7
    else
      gd_ (inb ((rd S7 20 5) + v2) 200) <|
      bd_ (f_J0_charAt_5068e n1 v2 S7) fun r10 S11 =>
      if (rd S7 21 (Int32.toNatClampNeg ((rd S7 20 5) + v2))) = r10 then
        lt_ (v2 + (1 : Int32)) fun x13 =>
        f_X9_takes_L20 K47 K55 n1 f x13 S11
      else
        K47  S11

def f_X9_takes (n1 : Nat) (S : St) : Option (Int32 × St) :=
  bd_ (f_J0_length_8abf5 n1 S) fun r3 S4 =>
  if ((rd S 20 6) - (rd S 20 5)) = r3 then
    f_X9_takes_L20
      (fun  (S14 : St) =>
        some ((0 : Int32), S14))
      (fun  (S15 : St) =>
        bd_ (f_X9_step  S15) fun r16 S17 =>
        some ((1 : Int32), S17))
      n1 FU (0 : Int32) S4
  else
    some ((0 : Int32), S4)

set_option maxHeartbeats 4000000 in
set_option maxRecDepth 100000 in
theorem w_X9_takes_L20 {p : Program} {l : Launch} {e : Env} {s : State} {m : MethodId} {args : Array Value} {below : List Frame} {meth : Method} {c : Code} {E : En} {α : Nat → Nat} {g : Nat × Nat} (C : Cx p s m args meth c RX9 cX9_takes 3 (some .boolean) E) {z : Int32 × St} {K47 : St → Option (Int32 × St)} {K55 : St → Option (Int32 × St)} {n1 : Nat}
    (hK47 : ∀ (S : St) (H : Heap) (locs : List Loc) (ls : Array Slot), Rp E α g S H → va_S E.2.2.1 s.heap H locs → lv_has ls 3 [] → K47  S = some z → W p l e rm_X9_takes s m args below meth c H locs 0 0 (MQ below (Qi E α g z) args s 0 0 E.2.2.1) (F0 m 47 ls []))
    (hK55 : ∀ (S : St) (H : Heap) (locs : List Loc) (ls : Array Slot), Rp E α g S H → va_S E.2.2.1 s.heap H locs → lv_has ls 3 [(0, .ref (α 20))] → K55  S = some z → W p l e rm_X9_takes s m args below meth c H locs 0 0 (MQ below (Qi E α g z) args s 0 0 E.2.2.1) (F0 m 55 ls [])) (hn1 : n1 < 6) :
    ∀ (f : Nat) (v2 : Int32) (S : St) (H : Heap) (locs : List Loc) (ls : Array Slot), Rp E α g S H → va_S E.2.2.1 s.heap H locs → lv_has ls 3 [(0, .ref (α 20)), (1, .ref (E.2.2.2.1 n1)), (2, .int v2)] → f_X9_takes_L20 K47 K55 n1 f v2 S = some z → W p l e rm_X9_takes s m args below meth c H locs 0 0 (MQ below (Qi E α g z) args s 0 0 E.2.2.1) (F0 m 20 ls []) := by
  obtain ⟨hx, hb, hml, hown, hts, hlk, hrt, hKs⟩ := id C
  intro f
  induction f with
  | zero =>
    intro v2 S H locs ls  hR hS hl h
    rw [f_X9_takes_L20] at h
    cases h
  | succ f ih =>
    intro v2 S H locs ls  hR hS hl h
    rw [f_X9_takes_L20] at h
    refine lv_iload_n hx hb dX9_takes_20 rfl (lv_at hl 2 rfl) ?_
    refine lv_aload_n hx hb dX9_takes_21 rfl (lv_at hl 1 rfl) ?_
    obtain ⟨r6, S7, hr6, h⟩ := bd_e h
    refine g_ci hS (g_runT C hR hS (i := n1) (As := []) (rest := [.int v2]) (c_J0_length_8abf5 l hn1 hr6) hn1 m_J0_length_8abf5 q569 ⟨rfl, rfl⟩ ⟨Nat.le_of_ble_eq_true rfl, Nat.le_of_ble_eq_true rfl⟩ rfl hl.1 rfl (Nat.le_of_ble_eq_true rfl) dX9_takes_22 ⟨Nat.zero_le _, Nat.zero_le _⟩) (fun H locs hR hS => ?_)
    refine lv_icmp_ge (tgt := 55) hx hb dX9_takes_25 (by decide) (fun c8 => ?_) (fun c8 => ?_)
    · have h := ite_t c8 h
      exact hK55  _ _ _ _  hR hS (lv_sub hl [0] rfl) h
    · have h := ite_f c8 h
      refine lv_aload_n hx hb dX9_takes_28 rfl (lv_at hl 0 rfl) ?_
      refine g_getr (t := 21) C hR (k := 20) (j := 0) (live_st (by decide)) rfl rfl (vw9) inl9 (by decide) q250 dX9_takes_29 ?_
      refine lv_aload_n hx hb dX9_takes_32 rfl (lv_at hl 0 rfl) ?_
      refine g_geti C hR (k := 20) (j := 5) (live_st (by decide)) rfl rfl (vw9) inl9 (by decide) q258 dX9_takes_33 ?_
      refine lv_iload_n hx hb dX9_takes_36 rfl (lv_at hl 2 rfl) ?_
      refine lv_iadd hx hb dX9_takes_37 ?_
      obtain ⟨g9, h⟩ := gd_e h
      refine g_iald C hR (k := 21) (n := 200) (live_st (by decide)) rfl g9 dX9_takes_38 ?_
      refine lv_aload_n hx hb dX9_takes_39 rfl (lv_at hl 1 rfl) ?_
      refine lv_iload_n hx hb dX9_takes_40 rfl (lv_at hl 2 rfl) ?_
      obtain ⟨r10, S11, hr10, h⟩ := bd_e h
      refine g_ci hS (g_runT C hR hS (i := n1) (As := [.int v2]) (rest := [.int (rd S7 21 (Int32.toNatClampNeg ((rd S7 20 5) + v2)))]) (c_J0_charAt_5068e l hn1 hr10) hn1 m_J0_charAt_5068e q579 ⟨rfl, rfl⟩ ⟨Nat.le_of_ble_eq_true rfl, Nat.le_of_ble_eq_true rfl⟩ rfl hl.1 rfl (Nat.le_of_ble_eq_true rfl) dX9_takes_41 ⟨Nat.zero_le _, Nat.zero_le _⟩) (fun H locs hR hS => ?_)
      refine lv_icmp_eq (tgt := 49) hx hb dX9_takes_44 (by decide) (fun c12 => ?_) (fun c12 => ?_)
      · have h := ite_t c12 h
        obtain ⟨x13, ex13, h⟩ := lt_e h
        refine lv_iinc (v := x13) (lv' := [(2, .int x13), (0, .ref (α 20)), (1, .ref (E.2.2.2.1 n1))]) hx hb dX9_takes_49 hl (k := 2) rfl (by rw [ex13]; rfl) (by decide) rfl (fun ls hl => ?_)
        refine lv_goto (tgt := 20) hx hb dX9_takes_52 (by decide) ?_
        exact ih _ _ _ _ _  hR hS (lv_sub hl [1, 2, 0] rfl) h
      · have h := ite_f c12 h
        exact hK47  _ _ _ _  hR hS (lv_sub hl [] rfl) h

set_option maxHeartbeats 4000000 in
set_option maxRecDepth 100000 in
theorem c_X9_takes (l : Launch) {E : En} {α : Nat → Nat} {g : Nat × Nat} {n1 : Nat} {S : St} (hn1 : n1 < 6) {z : Int32 × St} (h : f_X9_takes n1 S = some z) : Met l yX9_takes (wsY yX9_takes cX9_takes 3 (some .boolean)) rm_X9_takes (va_Pc [.ref (α 20), .ref (E.2.2.2.1 n1)] (Wd E α g S)) (Qi E α g z) 0 0 E.2.2.1 := by
  refine g_met [.ref (α 20), .ref (E.2.2.2.1 n1)] (by decide) rfl (Nat.le_of_ble_eq_true rfl) ?_
  intro p e s m below meth c ls C hR hl
  generalize hae : ([.ref (α 20), .ref (E.2.2.2.1 n1)] : List Value).toArray = args at C ⊢
  have hl : lv_has ls 3 [(0, .ref (α 20)), (1, .ref (E.2.2.2.1 n1))] := hl
  obtain ⟨hx, hb, hml, hown, hts, hlk, hrt, hKs⟩ := id C
  have hS : va_S E.2.2.1 s.heap s.heap [] := va_S.rf
  unfold f_X9_takes at h
  refine lv_aload_n hx hb dX9_takes_0 rfl (lv_at hl 0 rfl) ?_
  refine g_geti C hR (k := 20) (j := 6) (live_st (by decide)) rfl rfl (vw9) inl9 (by decide) q259 dX9_takes_1 ?_
  refine lv_aload_n hx hb dX9_takes_4 rfl (lv_at hl 0 rfl) ?_
  refine g_geti C hR (k := 20) (j := 5) (live_st (by decide)) rfl rfl (vw9) inl9 (by decide) q258 dX9_takes_5 ?_
  refine lv_isub hx hb dX9_takes_8 ?_
  refine lv_aload_n hx hb dX9_takes_9 rfl (lv_at hl 1 rfl) ?_
  obtain ⟨r3, S4, hr3, h⟩ := bd_e h
  refine g_ci hS (g_runT C hR hS (i := n1) (As := []) (rest := [.int ((rd S 20 6) - (rd S 20 5))]) (c_J0_length_8abf5 l hn1 hr3) hn1 m_J0_length_8abf5 q569 ⟨rfl, rfl⟩ ⟨Nat.le_of_ble_eq_true rfl, Nat.le_of_ble_eq_true rfl⟩ rfl hl.1 rfl (Nat.le_of_ble_eq_true rfl) dX9_takes_10 ⟨Nat.zero_le _, Nat.zero_le _⟩) (fun H locs hR hS => ?_)
  refine lv_icmp_eq (tgt := 18) hx hb dX9_takes_13 (by decide) (fun c5 => ?_) (fun c5 => ?_)
  · have h := ite_t c5 h
    refine lv_iconst (v := 0) hx hb dX9_takes_18 (by decide) ?_
    refine lv_istore_n (lv' := [(2, .int (0 : Int32)), (0, .ref (α 20)), (1, .ref (E.2.2.2.1 n1))]) hx hb dX9_takes_19 rfl hl (by decide) rfl (fun ls hl => ?_)
    refine w_X9_takes_L20 C ?_ ?_ hn1 _ _ _ _ _ _  hR hS (lv_sub hl [1, 2, 0] rfl) h
    · intro  S14 H locs ls  hR hS hl h
      refine lv_iconst (v := 0) hx hb dX9_takes_47 (by decide) ?_
      exact g_zret C hR hS bz0 h dX9_takes_48
    · intro  S15 H locs ls  hR hS hl h
      refine lv_aload_n hx hb dX9_takes_55 rfl (lv_at hl 0 rfl) ?_
      obtain ⟨r16, S17, hr16, h⟩ := bd_e h
      refine g_cv hS (g_runV C hR hS (k := 20) (As := []) (rest := []) (c_X9_step l  hr16) (live_st (by decide)) rfl (vw9) m_X9_step q553 ⟨rfl, rfl⟩ ⟨Nat.le_of_ble_eq_true rfl, Nat.le_of_ble_eq_true rfl⟩ rfl hl.1 rfl (Nat.le_of_ble_eq_true rfl) dX9_takes_56 ⟨Nat.zero_le _, Nat.zero_le _⟩) (fun H locs hR hS => ?_)
      refine lv_iconst (v := 1) hx hb dX9_takes_59 (by decide) ?_
      exact g_zret C hR hS bz1 h dX9_takes_60
  · have h := ite_f c5 h
    refine lv_iconst (v := 0) hx hb dX9_takes_16 (by decide) ?_
    exact g_zret C hR hS bz0 h dX9_takes_17

/-! OneVoice$Text.number()I -/
abbrev rm_X9_number : Room := { frames := 0, cells := 0, slots := 0, locals := 0 }
theorem m_X9_number : MV yX9_number RX9 cX9_number 3 (some .int) 0 := ⟨q623, q12, q72, q624, by decide +kernel⟩
def f_X9_number_L30 (K59 : Int32 → St → Option (Int32 × St))  : Nat → Int32 → Int32 → St → Option (Int32 × St)
  | 0, _, _, _ => none
  | f + 1, v1, v2, S =>
    if (rd S 20 6) ≤ v2 then
      K59 v1 S
    else
      gd_ (inb v2 200) <|
      lt_ ((((10 : Int32) * v1) + (rd S 21 (Int32.toNatClampNeg v2))) - (48 : Int32)) fun x10 =>
      lt_ (v2 + (1 : Int32)) fun x11 =>
      f_X9_number_L30 K59 f x10 x11 S

def f_X9_number  (S : St) : Option (Int32 × St) :=
  if (rd S 20 4) = (2 : Int32) then
    if ((rd S 20 6) - (rd S 20 5)) ≤ (2 : Int32) then
      lt_ (rd S 20 5) fun x7 =>
      f_X9_number_L30
        (fun (x12 : Int32) (S13 : St) =>
          some (x12, S13))
         FU (0 : Int32) x7 S
    else
      some ((-1 : Int32), S)
  else
    some ((-1 : Int32), S)

set_option maxHeartbeats 4000000 in
set_option maxRecDepth 100000 in
theorem w_X9_number_L30 {p : Program} {l : Launch} {e : Env} {s : State} {m : MethodId} {args : Array Value} {below : List Frame} {meth : Method} {c : Code} {E : En} {α : Nat → Nat} {g : Nat × Nat} (C : Cx p s m args meth c RX9 cX9_number 3 (some .int) E) {z : Int32 × St} {K59 : Int32 → St → Option (Int32 × St)}
    (hK59 : ∀ (y1 : Int32) (S : St) (H : Heap) (locs : List Loc) (ls : Array Slot), Rp E α g S H → va_S E.2.2.1 s.heap H locs → lv_has ls 3 [(1, .int y1)] → K59 y1 S = some z → W p l e rm_X9_number s m args below meth c H locs 0 0 (MQ below (Qi E α g z) args s 0 0 E.2.2.1) (F0 m 59 ls [])) :
    ∀ (f : Nat) (v1 : Int32) (v2 : Int32) (S : St) (H : Heap) (locs : List Loc) (ls : Array Slot), Rp E α g S H → va_S E.2.2.1 s.heap H locs → lv_has ls 3 [(0, .ref (α 20)), (1, .int v1), (2, .int v2)] → f_X9_number_L30 K59 f v1 v2 S = some z → W p l e rm_X9_number s m args below meth c H locs 0 0 (MQ below (Qi E α g z) args s 0 0 E.2.2.1) (F0 m 30 ls []) := by
  obtain ⟨hx, hb, hml, hown, hts, hlk, hrt, hKs⟩ := id C
  intro f
  induction f with
  | zero =>
    intro v1 v2 S H locs ls  hR hS hl h
    rw [f_X9_number_L30] at h
    cases h
  | succ f ih =>
    intro v1 v2 S H locs ls  hR hS hl h
    rw [f_X9_number_L30] at h
    refine lv_iload_n hx hb dX9_number_30 rfl (lv_at hl 2 rfl) ?_
    refine lv_aload_n hx hb dX9_number_31 rfl (lv_at hl 0 rfl) ?_
    refine g_geti C hR (k := 20) (j := 6) (live_st (by decide)) rfl rfl (vw9) inl9 (by decide) q259 dX9_number_32 ?_
    refine lv_icmp_ge (tgt := 59) hx hb dX9_number_35 (by decide) (fun c8 => ?_) (fun c8 => ?_)
    · have h := ite_t c8 h
      exact hK59 _ _ _ _ _  hR hS (lv_sub hl [1] rfl) h
    · have h := ite_f c8 h
      refine lv_bipush (v := 10) hx hb dX9_number_38 (by decide) ?_
      refine lv_iload_n hx hb dX9_number_40 rfl (lv_at hl 1 rfl) ?_
      refine lv_imul hx hb dX9_number_41 ?_
      refine lv_aload_n hx hb dX9_number_42 rfl (lv_at hl 0 rfl) ?_
      refine g_getr (t := 21) C hR (k := 20) (j := 0) (live_st (by decide)) rfl rfl (vw9) inl9 (by decide) q250 dX9_number_43 ?_
      refine lv_iload_n hx hb dX9_number_46 rfl (lv_at hl 2 rfl) ?_
      obtain ⟨g9, h⟩ := gd_e h
      refine g_iald C hR (k := 21) (n := 200) (live_st (by decide)) rfl g9 dX9_number_47 ?_
      refine lv_iadd hx hb dX9_number_48 ?_
      refine lv_bipush (v := 48) hx hb dX9_number_49 (by decide) ?_
      refine lv_isub hx hb dX9_number_51 ?_
      obtain ⟨x10, ex10, h⟩ := lt_e h
      refine g_nmi ex10 ?_
      refine lv_istore_n (lv' := [(1, .int x10), (0, .ref (α 20)), (2, .int v2)]) hx hb dX9_number_52 rfl hl (by decide) rfl (fun ls hl => ?_)
      obtain ⟨x11, ex11, h⟩ := lt_e h
      refine lv_iinc (v := x11) (lv' := [(2, .int x11), (1, .int x10), (0, .ref (α 20))]) hx hb dX9_number_53 hl (k := 2) rfl (by rw [ex11]; rfl) (by decide) rfl (fun ls hl => ?_)
      refine lv_goto (tgt := 30) hx hb dX9_number_56 (by decide) ?_
      exact ih _ _ _ _ _ _  hR hS (lv_sub hl [2, 1, 0] rfl) h

set_option maxHeartbeats 4000000 in
set_option maxRecDepth 100000 in
theorem c_X9_number (l : Launch) {E : En} {α : Nat → Nat} {g : Nat × Nat}  {S : St}  {z : Int32 × St} (h : f_X9_number  S = some z) : Met l yX9_number (wsY yX9_number cX9_number 3 (some .int)) rm_X9_number (va_Pc [.ref (α 20)] (Wd E α g S)) (Qi E α g z) 0 0 E.2.2.1 := by
  refine g_met [.ref (α 20)] (by decide) rfl (Nat.le_of_ble_eq_true rfl) ?_
  intro p e s m below meth c ls C hR hl
  generalize hae : ([.ref (α 20)] : List Value).toArray = args at C ⊢
  have hl : lv_has ls 3 [(0, .ref (α 20))] := hl
  obtain ⟨hx, hb, hml, hown, hts, hlk, hrt, hKs⟩ := id C
  have hS : va_S E.2.2.1 s.heap s.heap [] := va_S.rf
  unfold f_X9_number at h
  refine lv_aload_n hx hb dX9_number_0 rfl (lv_at hl 0 rfl) ?_
  refine g_geti C hR (k := 20) (j := 4) (live_st (by decide)) rfl rfl (vw9) inl9 (by decide) q257 dX9_number_1 ?_
  refine lv_iconst (v := 2) hx hb dX9_number_4 (by decide) ?_
  refine lv_icmp_ne (tgt := 21) hx hb dX9_number_5 (by decide) (fun c5 => ?_) (fun c5 => ?_)
  · have h := ite_f c5 h
    refine lv_iconst (v := -1) hx hb dX9_number_21 (by decide) ?_
    exact g_iret C hR hS h dX9_number_22
  · have h := ite_t c5 h
    refine lv_aload_n hx hb dX9_number_8 rfl (lv_at hl 0 rfl) ?_
    refine g_geti C hR (k := 20) (j := 6) (live_st (by decide)) rfl rfl (vw9) inl9 (by decide) q259 dX9_number_9 ?_
    refine lv_aload_n hx hb dX9_number_12 rfl (lv_at hl 0 rfl) ?_
    refine g_geti C hR (k := 20) (j := 5) (live_st (by decide)) rfl rfl (vw9) inl9 (by decide) q258 dX9_number_13 ?_
    refine lv_isub hx hb dX9_number_16 ?_
    refine lv_iconst (v := 2) hx hb dX9_number_17 (by decide) ?_
    refine lv_icmp_le (tgt := 23) hx hb dX9_number_18 (by decide) (fun c6 => ?_) (fun c6 => ?_)
    · have h := ite_t c6 h
      refine lv_iconst (v := 0) hx hb dX9_number_23 (by decide) ?_
      refine lv_istore_n (lv' := [(1, .int (0 : Int32)), (0, .ref (α 20))]) hx hb dX9_number_24 rfl hl (by decide) rfl (fun ls hl => ?_)
      refine lv_aload_n hx hb dX9_number_25 rfl (lv_at hl 1 rfl) ?_
      refine g_geti C hR (k := 20) (j := 5) (live_st (by decide)) rfl rfl (vw9) inl9 (by decide) q258 dX9_number_26 ?_
      obtain ⟨x7, ex7, h⟩ := lt_e h
      refine g_nmi ex7 ?_
      refine lv_istore_n (lv' := [(2, .int x7), (1, .int (0 : Int32)), (0, .ref (α 20))]) hx hb dX9_number_29 rfl hl (by decide) rfl (fun ls hl => ?_)
      refine w_X9_number_L30 C ?_  _ _ _ _ _ _ _  hR hS (lv_sub hl [2, 1, 0] rfl) h
      · intro x12 S13 H locs ls  hR hS hl h
        refine lv_iload_n hx hb dX9_number_59 rfl (lv_at hl 0 rfl) ?_
        exact g_iret C hR hS h dX9_number_60
    · have h := ite_f c6 h
      refine lv_iconst (v := -1) hx hb dX9_number_21 (by decide) ?_
      exact g_iret C hR hS h dX9_number_22

/-! OneVoice$Text.readSubject(LOneVoice$Row;I)Z -/
abbrev rm_X9_readSubject : Room := { frames := 2, cells := 0, slots := 0, locals := 40 }
theorem m_X9_readSubject : MV yX9_readSubject RX9 cX9_readSubject 3 (some .boolean) 2 := ⟨q619, q11, q72, q620, by decide +kernel⟩
def f_X9_readSubject (n1 : Nat) (v2 : Int32) (S : St) : Option (Int32 × St) :=
  bd_ (f_X9_number  S) fun r2 S3 =>
  lt_ (wr S3 (23 + n1) 1 r2) fun S4 =>
  bd_ (f_X10_below (rd S4 (23 + n1) 1) v2 S4) fun r5 S6 =>
  if r5 = 0 then
    some ((0 : Int32), S6)
  else
    bd_ (f_X9_step  S6) fun r8 S9 =>
    some ((1 : Int32), S9)

set_option maxHeartbeats 4000000 in
set_option maxRecDepth 100000 in
theorem c_X9_readSubject (l : Launch) {E : En} {α : Nat → Nat} {g : Nat × Nat} {n1 : Nat} {v2 : Int32} {S : St} (hn1 : n1 < 10) {z : Int32 × St} (h : f_X9_readSubject n1 v2 S = some z) : Met l yX9_readSubject (wsY yX9_readSubject cX9_readSubject 3 (some .boolean)) rm_X9_readSubject (va_Pc [.ref (α 20), .ref (α (23 + n1)), .int v2] (Wd E α g S)) (Qi E α g z) 0 0 E.2.2.1 := by
  refine g_met [.ref (α 20), .ref (α (23 + n1)), .int v2] (by decide) rfl (Nat.le_of_ble_eq_true rfl) ?_
  intro p e s m below meth c ls C hR hl
  generalize hae : ([.ref (α 20), .ref (α (23 + n1)), .int v2] : List Value).toArray = args at C ⊢
  have hl : lv_has ls 3 [(0, .ref (α 20)), (1, .ref (α (23 + n1))), (2, .int v2)] := hl
  obtain ⟨hx, hb, hml, hown, hts, hlk, hrt, hKs⟩ := id C
  have hS : va_S E.2.2.1 s.heap s.heap [] := va_S.rf
  unfold f_X9_readSubject at h
  refine lv_aload_n hx hb dX9_readSubject_0 rfl (lv_at hl 1 rfl) ?_
  refine lv_aload_n hx hb dX9_readSubject_1 rfl (lv_at hl 0 rfl) ?_
  obtain ⟨r2, S3, hr2, h⟩ := bd_e h
  refine g_ci hS (g_runV C hR hS (k := 20) (As := []) (rest := [.ref (α (23 + n1))]) (c_X9_number l  hr2) (live_st (by decide)) rfl (vw9) m_X9_number q621 ⟨rfl, rfl⟩ ⟨Nat.le_of_ble_eq_true rfl, Nat.le_of_ble_eq_true rfl⟩ rfl hl.1 rfl (Nat.le_of_ble_eq_true rfl) dX9_readSubject_2 ⟨Nat.zero_le _, Nat.zero_le _⟩) (fun H locs hR hS => ?_)
  obtain ⟨S4, eS4, h⟩ := lt_e h
  refine g_puti C hR hS (k := (23 + n1)) (j := 1) (live_r hn1) (lay_r hn1) rfl (vw5) inl5 (by decide) (ty0 := tyX5) tyX5_ok nmX5 q233 rfl rfl rfl eS4 dX9_readSubject_5 (fun H locs hR hS => ?_)
  refine lv_aload_n hx hb dX9_readSubject_8 rfl (lv_at hl 1 rfl) ?_
  refine g_geti C hR (k := (23 + n1)) (j := 1) (live_r hn1) (lay_r hn1) rfl (vw5) inl5 (by decide) q233 dX9_readSubject_9 ?_
  refine lv_iload_n hx hb dX9_readSubject_12 rfl (lv_at hl 2 rfl) ?_
  obtain ⟨r5, S6, hr5, h⟩ := bd_e h
  refine g_ci hS (g_runN C hR hS (host := RX10) (As := [.int (rd S4 (23 + n1) 1), .int v2]) (rest := []) (c_X10_below l  hr5) m_X10_below (by decide) ⟨rfl, rfl⟩ ⟨Nat.le_of_ble_eq_true rfl, Nat.le_of_ble_eq_true rfl⟩ rfl hl.1 rfl (Nat.le_of_ble_eq_true rfl) dX9_readSubject_13 ⟨Nat.zero_le _, Nat.zero_le _⟩) (fun H locs hR hS => ?_)
  refine lv_if_ne (tgt := 21) hx hb dX9_readSubject_16 (by decide) (fun c7 => ?_) (fun c7 => ?_)
  · have h := ite_f c7 h
    refine lv_aload_n hx hb dX9_readSubject_21 rfl (lv_at hl 0 rfl) ?_
    obtain ⟨r8, S9, hr8, h⟩ := bd_e h
    refine g_cv hS (g_runV C hR hS (k := 20) (As := []) (rest := []) (c_X9_step l  hr8) (live_st (by decide)) rfl (vw9) m_X9_step q553 ⟨rfl, rfl⟩ ⟨Nat.le_of_ble_eq_true rfl, Nat.le_of_ble_eq_true rfl⟩ rfl hl.1 rfl (Nat.le_of_ble_eq_true rfl) dX9_readSubject_22 ⟨Nat.zero_le _, Nat.zero_le _⟩) (fun H locs hR hS => ?_)
    refine lv_iconst (v := 1) hx hb dX9_readSubject_25 (by decide) ?_
    exact g_zret C hR hS bz1 h dX9_readSubject_26
  · have h := ite_t c7 h
    refine lv_iconst (v := 0) hx hb dX9_readSubject_19 (by decide) ?_
    exact g_zret C hR hS bz0 h dX9_readSubject_20
