/-! OneVoiceModel.isWaiting(I)Z -/
abbrev rm_X11_isWaiting : Room := { frames := 0, cells := 0, slots := 0, locals := 0 }
theorem m_X11_isWaiting : MV yX11_isWaiting RX11 cX11_isWaiting 2 (some .boolean) 1 := ⟨q1281, q58, q77, q1282, by decide +kernel⟩
def f_X11_isWaiting (v1 : Int32) (S : St) : Option (Int32 × St) :=
  gd_ (inb v1 24) <|
  lt_ (fun  (S4 : St) =>
      some ((0 : Int32), S4)) fun J26 =>
  if (rd S 81 (Int32.toNatClampNeg v1)) = 0 then
    gd_ (inb v1 24) <|
    if (rd S 54 31) < (rd S 78 (Int32.toNatClampNeg v1)) then
      J26  S
    else
      some ((1 : Int32), S)
  else
    J26  S

set_option maxHeartbeats 4000000 in
set_option maxRecDepth 100000 in
theorem c_X11_isWaiting (l : Launch) {E : En} {α : Nat → Nat} {g : Nat × Nat} {v1 : Int32} {S : St}  {z : Int32 × St} (h : f_X11_isWaiting v1 S = some z) : Met l yX11_isWaiting (wsY yX11_isWaiting cX11_isWaiting 2 (some .boolean)) rm_X11_isWaiting (va_Pc [.ref (α 54), .int v1] (Wd E α g S)) (Qi E α g z) 0 0 E.2.2.1 := by
  refine g_met [.ref (α 54), .int v1] (by decide) rfl (Nat.le_of_ble_eq_true rfl) ?_
  intro p e s m below meth c ls C hR hl
  generalize hae : ([.ref (α 54), .int v1] : List Value).toArray = args at C ⊢
  have hl : lv_has ls 2 [(0, .ref (α 54)), (1, .int v1)] := hl
  obtain ⟨hx, hb, hml, hown, hts, hlk, hrt, hKs⟩ := id C
  have hS : va_S E.2.2.1 s.heap s.heap [] := va_S.rf
  unfold f_X11_isWaiting at h
  refine lv_aload_n hx hb dX11_isWaiting_0 rfl (lv_at hl 0 rfl) ?_
  refine g_getr (t := 81) C hR (k := 54) (j := 39) (live_st (by decide)) rfl rfl (vw11) inl11 (by decide) q982 dX11_isWaiting_1 ?_
  refine lv_iload_n hx hb dX11_isWaiting_4 rfl (lv_at hl 1 rfl) ?_
  obtain ⟨g3, h⟩ := gd_e h
  refine g_iald C hR (k := 81) (n := 24) (live_st (by decide)) rfl g3 dX11_isWaiting_5 ?_
  obtain ⟨J26, eJ26, h⟩ := lt_e h
  have hJ26 : ∀ (S4 : St) (H : Heap) (locs : List Loc) (ls : Array Slot), Rp E α g S4 H → va_S E.2.2.1 s.heap H locs → lv_has ls 2 [] → J26  S4 = some z → W p l e rm_X11_isWaiting s m args below meth c H locs 0 0 (MQ below (Qi E α g z) args s 0 0 E.2.2.1) (F0 m 26 ls []) := by
    intro  S4 H locs ls  hR hS hl h
    rw [eJ26] at h
    refine lv_iconst (v := 0) hx hb dX11_isWaiting_26 (by decide) ?_
    exact g_zret C hR hS bz0 h dX11_isWaiting_27
  clear eJ26
  refine lv_if_ne (tgt := 26) hx hb dX11_isWaiting_6 (by decide) (fun c5 => ?_) (fun c5 => ?_)
  · have h := ite_f c5 h
    exact hJ26  _ _ _ _  hR hS (lv_sub hl [] rfl) h
  · have h := ite_t c5 h
    refine lv_aload_n hx hb dX11_isWaiting_9 rfl (lv_at hl 0 rfl) ?_
    refine g_getr (t := 78) C hR (k := 54) (j := 36) (live_st (by decide)) rfl rfl (vw11) inl11 (by decide) q979 dX11_isWaiting_10 ?_
    refine lv_iload_n hx hb dX11_isWaiting_13 rfl (lv_at hl 1 rfl) ?_
    obtain ⟨g6, h⟩ := gd_e h
    refine g_iald C hR (k := 78) (n := 24) (live_st (by decide)) rfl g6 dX11_isWaiting_14 ?_
    refine lv_aload_n hx hb dX11_isWaiting_15 rfl (lv_at hl 0 rfl) ?_
    refine g_geti C hR (k := 54) (j := 31) (live_st (by decide)) rfl rfl (vw11) inl11 (by decide) q974 dX11_isWaiting_16 ?_
    refine lv_icmp_gt (tgt := 26) hx hb dX11_isWaiting_19 (by decide) (fun c7 => ?_) (fun c7 => ?_)
    · have h := ite_t c7 h
      exact hJ26  _ _ _ _  hR hS (lv_sub hl [] rfl) h
    · have h := ite_f c7 h
      refine lv_iconst (v := 1) hx hb dX11_isWaiting_22 (by decide) ?_
      refine lv_goto (tgt := 27) hx hb dX11_isWaiting_23 (by decide) ?_
      exact g_zret C hR hS bz1 h dX11_isWaiting_27

/-! OneVoiceModel.start(I)V -/
abbrev rm_X11_start : Room := { frames := 6, cells := 0, slots := 0, locals := 148 }
theorem m_X11_start : MV yX11_start RX11 cX11_start 4 none 1 := ⟨q1289, q60, q77, q1290, by decide +kernel⟩
def f_X11_start_L67 (K129 : Int32 → St → Option (Unit × St)) (v1 : Int32) : Nat → Int32 → Int32 → St → Option (Unit × St)
  | 0, _, _, _ => none
  | f + 1, v2, v3, S =>
    if (16 : Int32) ≤ v3 then
      K129 v2 S
    else
      lt_ (fun (t32 : Int32) (t33 : Int32) (S34 : St) =>
          lt_ (t32 + t33) fun x35 =>
          lt_ (fun (t36 : Int32) (t37 : Int32) (S38 : St) =>
              gd_ (inb t36 384) <|
              lt_ (wr S38 86 (Int32.toNatClampNeg t36) t37) fun S39 =>
              lt_ (v3 + (1 : Int32)) fun x41 =>
              f_X11_start_L67 K129 v1 f x35 x41 S39) fun J122 =>
          if (rd S34 54 26) ≤ v3 then
            J122 (((16 : Int32) * v1) + v3) (-1 : Int32) S34
          else
            J122 (((16 : Int32) * v1) + v3) x35 S34) fun J97 =>
      if (rd S 54 26) ≤ v3 then
        J97 v2 (0 : Int32) S
      else
        gd_ (inb v3 16) <|
        gd_ (inb (rd S 71 (Int32.toNatClampNeg v3)) 32) <|
        J97 v2 (rd S 67 (Int32.toNatClampNeg (rd S 71 (Int32.toNatClampNeg v3)))) S

def f_X11_start (v1 : Int32) (S : St) : Option (Unit × St) :=
  gd_ (inb v1 24) <|
  gd_ (inb v1 24) <|
  bd_ (f_X11_canSpeak (rd S 76 (Int32.toNatClampNeg v1)) (rd S 77 (Int32.toNatClampNeg v1)) S) fun r16 S17 =>
  lt_ (fun  (S18 : St) =>
      gd_ (inb v1 24) <|
      lt_ (wr S18 81 (Int32.toNatClampNeg v1) (5 : Int32)) fun S19 =>
      some ((), S19)) fun J38 =>
  if r16 = 0 then
    J38  S17
  else
    gd_ (inb v1 24) <|
    gd_ (inb (rd S17 75 (Int32.toNatClampNeg v1)) 6) <|
    bd_ (f_X11_jarOfAll (rd S17 73 (Int32.toNatClampNeg (rd S17 75 (Int32.toNatClampNeg v1)))) S17) fun r24 S25 =>
    if r24 = (-1 : Int32) then
      J38  S25
    else
      gd_ (inb v1 24) <|
      lt_ (wr S25 81 (Int32.toNatClampNeg v1) (1 : Int32)) fun S27 =>
      gd_ (inb v1 24) <|
      lt_ (wr S27 83 (Int32.toNatClampNeg v1) (rd S27 54 31)) fun S29 =>
      f_X11_start_L67
        (fun (x46 : Int32) (S47 : St) =>
          gd_ (inb v1 24) <|
          lt_ (wr S47 85 (Int32.toNatClampNeg v1) x46) fun S48 =>
          some ((), S48))
        v1 FU (0 : Int32) (0 : Int32) S29

set_option maxHeartbeats 4000000 in
set_option maxRecDepth 100000 in
theorem w_X11_start_L67 {p : Program} {l : Launch} {e : Env} {s : State} {m : MethodId} {args : Array Value} {below : List Frame} {meth : Method} {c : Code} {E : En} {α : Nat → Nat} {g : Nat × Nat} (C : Cx p s m args meth c RX11 cX11_start 4 none E) {z : Unit × St} {K129 : Int32 → St → Option (Unit × St)} {v1 : Int32}
    (hK129 : ∀ (y2 : Int32) (S : St) (H : Heap) (locs : List Loc) (ls : Array Slot), Rp E α g S H → va_S E.2.2.1 s.heap H locs → lv_has ls 4 [(0, .ref (α 54)), (1, .int v1), (2, .int y2)] → K129 y2 S = some z → W p l e rm_X11_start s m args below meth c H locs 0 0 (MQ below (Qv E α g z) args s 0 0 E.2.2.1) (F0 m 129 ls [])) :
    ∀ (f : Nat) (v2 : Int32) (v3 : Int32) (S : St) (H : Heap) (locs : List Loc) (ls : Array Slot), Rp E α g S H → va_S E.2.2.1 s.heap H locs → lv_has ls 4 [(0, .ref (α 54)), (1, .int v1), (2, .int v2), (3, .int v3)] → f_X11_start_L67 K129 v1 f v2 v3 S = some z → W p l e rm_X11_start s m args below meth c H locs 0 0 (MQ below (Qv E α g z) args s 0 0 E.2.2.1) (F0 m 67 ls []) := by
  obtain ⟨hx, hb, hml, hown, hts, hlk, hrt, hKs⟩ := id C
  intro f
  induction f with
  | zero =>
    intro v2 v3 S H locs ls  hR hS hl h
    rw [f_X11_start_L67] at h
    cases h
  | succ f ih =>
    intro v2 v3 S H locs ls  hR hS hl h
    rw [f_X11_start_L67] at h
    refine lv_iload_n hx hb dX11_start_67 rfl (lv_at hl 3 rfl) ?_
    refine lv_bipush (v := 16) hx hb dX11_start_68 (by decide) ?_
    refine lv_icmp_ge (tgt := 129) hx hb dX11_start_70 (by decide) (fun c31 => ?_) (fun c31 => ?_)
    · have h := ite_t c31 h
      exact hK129 _ _ _ _ _  hR hS (lv_sub hl [0, 1, 2] rfl) h
    · have h := ite_f c31 h
      refine lv_iload_n hx hb dX11_start_73 rfl (lv_at hl 2 rfl) ?_
      refine lv_iload_n hx hb dX11_start_74 rfl (lv_at hl 3 rfl) ?_
      refine lv_aload_n hx hb dX11_start_75 rfl (lv_at hl 0 rfl) ?_
      refine g_geti C hR (k := 54) (j := 26) (live_st (by decide)) rfl rfl (vw11) inl11 (by decide) q969 dX11_start_76 ?_
      obtain ⟨J97, eJ97, h⟩ := lt_e h
      have hJ97 : ∀ (t32 : Int32) (t33 : Int32) (S34 : St) (H : Heap) (locs : List Loc) (ls : Array Slot), Rp E α g S34 H → va_S E.2.2.1 s.heap H locs → lv_has ls 4 [(0, .ref (α 54)), (1, .int v1), (3, .int v3)] → J97 t32 t33 S34 = some z → W p l e rm_X11_start s m args below meth c H locs 0 0 (MQ below (Qv E α g z) args s 0 0 E.2.2.1) (F0 m 97 ls [.int t33, .int t32]) := by
        intro t32 t33 S34 H locs ls  hR hS hl h
        rw [eJ97] at h
        refine lv_iadd hx hb dX11_start_97 ?_
        obtain ⟨x35, ex35, h⟩ := lt_e h
        refine g_nmi ex35 ?_
        refine lv_istore_n (lv' := [(2, .int x35), (0, .ref (α 54)), (1, .int v1), (3, .int v3)]) hx hb dX11_start_98 rfl hl (by decide) rfl (fun ls hl => ?_)
        refine lv_aload_n hx hb dX11_start_99 rfl (lv_at hl 1 rfl) ?_
        refine g_getr (t := 86) C hR (k := 54) (j := 44) (live_st (by decide)) rfl rfl (vw11) inl11 (by decide) q987 dX11_start_100 ?_
        refine lv_bipush (v := 16) hx hb dX11_start_103 (by decide) ?_
        refine lv_iload_n hx hb dX11_start_105 rfl (lv_at hl 2 rfl) ?_
        refine lv_imul hx hb dX11_start_106 ?_
        refine lv_iload_n hx hb dX11_start_107 rfl (lv_at hl 3 rfl) ?_
        refine lv_iadd hx hb dX11_start_108 ?_
        refine lv_iload_n hx hb dX11_start_109 rfl (lv_at hl 3 rfl) ?_
        refine lv_aload_n hx hb dX11_start_110 rfl (lv_at hl 1 rfl) ?_
        refine g_geti C hR (k := 54) (j := 26) (live_st (by decide)) rfl rfl (vw11) inl11 (by decide) q969 dX11_start_111 ?_
        obtain ⟨J122, eJ122, h⟩ := lt_e h
        have hJ122 : ∀ (t36 : Int32) (t37 : Int32) (S38 : St) (H : Heap) (locs : List Loc) (ls : Array Slot), Rp E α g S38 H → va_S E.2.2.1 s.heap H locs → lv_has ls 4 [(0, .ref (α 54)), (1, .int v1), (2, .int x35), (3, .int v3)] → J122 t36 t37 S38 = some z → W p l e rm_X11_start s m args below meth c H locs 0 0 (MQ below (Qv E α g z) args s 0 0 E.2.2.1) (F0 m 122 ls [.int t37, .int t36, .ref (α 86)]) := by
          intro t36 t37 S38 H locs ls  hR hS hl h
          rw [eJ122] at h
          obtain ⟨g40, h⟩ := gd_e h
          obtain ⟨S39, eS39, h⟩ := lt_e h
          refine g_iast C hR hS (k := 86) (n := 384) (live_st (by decide)) rfl g40 eS39 dX11_start_122 (fun H locs hR hS => ?_)
          obtain ⟨x41, ex41, h⟩ := lt_e h
          refine lv_iinc (v := x41) (lv' := [(3, .int x41), (0, .ref (α 54)), (1, .int v1), (2, .int x35)]) hx hb dX11_start_123 hl (k := 3) rfl (by rw [ex41]; rfl) (by decide) rfl (fun ls hl => ?_)
          refine lv_goto (tgt := 67) hx hb dX11_start_126 (by decide) ?_
          exact ih _ _ _ _ _ _  hR hS (lv_sub hl [1, 2, 3, 0] rfl) h
        clear eJ122
        refine lv_icmp_ge (tgt := 121) hx hb dX11_start_114 (by decide) (fun c42 => ?_) (fun c42 => ?_)
        · have h := ite_t c42 h
          refine lv_iconst (v := -1) hx hb dX11_start_121 (by decide) ?_
          exact hJ122 _ _ _ _ _ _  hR hS (lv_sub hl [1, 2, 0, 3] rfl) h
        · have h := ite_f c42 h
          refine lv_iload_n hx hb dX11_start_117 rfl (lv_at hl 0 rfl) ?_
          refine lv_goto (tgt := 122) hx hb dX11_start_118 (by decide) ?_
          exact hJ122 _ _ _ _ _ _  hR hS (lv_sub hl [1, 2, 0, 3] rfl) h
      clear eJ97
      refine lv_icmp_ge (tgt := 96) hx hb dX11_start_79 (by decide) (fun c43 => ?_) (fun c43 => ?_)
      · have h := ite_t c43 h
        refine lv_iconst (v := 0) hx hb dX11_start_96 (by decide) ?_
        exact hJ97 _ _ _ _ _ _  hR hS (lv_sub hl [0, 1, 3] rfl) h
      · have h := ite_f c43 h
        refine lv_aload_n hx hb dX11_start_82 rfl (lv_at hl 0 rfl) ?_
        refine g_getr (t := 67) C hR (k := 54) (j := 22) (live_st (by decide)) rfl rfl (vw11) inl11 (by decide) q965 dX11_start_83 ?_
        refine lv_aload_n hx hb dX11_start_86 rfl (lv_at hl 0 rfl) ?_
        refine g_getr (t := 71) C hR (k := 54) (j := 27) (live_st (by decide)) rfl rfl (vw11) inl11 (by decide) q970 dX11_start_87 ?_
        refine lv_iload_n hx hb dX11_start_90 rfl (lv_at hl 3 rfl) ?_
        obtain ⟨g44, h⟩ := gd_e h
        refine g_iald C hR (k := 71) (n := 16) (live_st (by decide)) rfl g44 dX11_start_91 ?_
        obtain ⟨g45, h⟩ := gd_e h
        refine g_iald C hR (k := 67) (n := 32) (live_st (by decide)) rfl g45 dX11_start_92 ?_
        refine lv_goto (tgt := 97) hx hb dX11_start_93 (by decide) ?_
        exact hJ97 _ _ _ _ _ _  hR hS (lv_sub hl [0, 1, 3] rfl) h

set_option maxHeartbeats 4000000 in
set_option maxRecDepth 100000 in
theorem c_X11_start (l : Launch) {E : En} {α : Nat → Nat} {g : Nat × Nat} {v1 : Int32} {S : St}  {z : Unit × St} (h : f_X11_start v1 S = some z) : Met l yX11_start (wsY yX11_start cX11_start 4 none) rm_X11_start (va_Pc [.ref (α 54), .int v1] (Wd E α g S)) (Qv E α g z) 0 0 E.2.2.1 := by
  refine g_met [.ref (α 54), .int v1] (by decide) rfl (Nat.le_of_ble_eq_true rfl) ?_
  intro p e s m below meth c ls C hR hl
  generalize hae : ([.ref (α 54), .int v1] : List Value).toArray = args at C ⊢
  have hl : lv_has ls 4 [(0, .ref (α 54)), (1, .int v1)] := hl
  obtain ⟨hx, hb, hml, hown, hts, hlk, hrt, hKs⟩ := id C
  have hS : va_S E.2.2.1 s.heap s.heap [] := va_S.rf
  unfold f_X11_start at h
  refine lv_aload_n hx hb dX11_start_0 rfl (lv_at hl 0 rfl) ?_
  refine lv_aload_n hx hb dX11_start_1 rfl (lv_at hl 0 rfl) ?_
  refine g_getr (t := 76) C hR (k := 54) (j := 34) (live_st (by decide)) rfl rfl (vw11) inl11 (by decide) q977 dX11_start_2 ?_
  refine lv_iload_n hx hb dX11_start_5 rfl (lv_at hl 1 rfl) ?_
  obtain ⟨g14, h⟩ := gd_e h
  refine g_iald C hR (k := 76) (n := 24) (live_st (by decide)) rfl g14 dX11_start_6 ?_
  refine lv_aload_n hx hb dX11_start_7 rfl (lv_at hl 0 rfl) ?_
  refine g_getr (t := 77) C hR (k := 54) (j := 35) (live_st (by decide)) rfl rfl (vw11) inl11 (by decide) q978 dX11_start_8 ?_
  refine lv_iload_n hx hb dX11_start_11 rfl (lv_at hl 1 rfl) ?_
  obtain ⟨g15, h⟩ := gd_e h
  refine g_iald C hR (k := 77) (n := 24) (live_st (by decide)) rfl g15 dX11_start_12 ?_
  obtain ⟨r16, S17, hr16, h⟩ := bd_e h
  refine g_ci hS (g_runV C hR hS (k := 54) (As := [.int (rd S 76 (Int32.toNatClampNeg v1)), .int (rd S 77 (Int32.toNatClampNeg v1))]) (rest := []) (c_X11_canSpeak l  hr16) (live_st (by decide)) rfl (vw11) m_X11_canSpeak q1244 ⟨rfl, rfl⟩ ⟨Nat.le_of_ble_eq_true rfl, Nat.le_of_ble_eq_true rfl⟩ rfl hl.1 rfl (Nat.le_of_ble_eq_true rfl) dX11_start_13 ⟨Nat.zero_le _, Nat.zero_le _⟩) (fun H locs hR hS => ?_)
  obtain ⟨J38, eJ38, h⟩ := lt_e h
  have hJ38 : ∀ (S18 : St) (H : Heap) (locs : List Loc) (ls : Array Slot), Rp E α g S18 H → va_S E.2.2.1 s.heap H locs → lv_has ls 4 [(0, .ref (α 54)), (1, .int v1)] → J38  S18 = some z → W p l e rm_X11_start s m args below meth c H locs 0 0 (MQ below (Qv E α g z) args s 0 0 E.2.2.1) (F0 m 38 ls []) := by
    intro  S18 H locs ls  hR hS hl h
    rw [eJ38] at h
    refine lv_aload_n hx hb dX11_start_38 rfl (lv_at hl 0 rfl) ?_
    refine g_getr (t := 81) C hR (k := 54) (j := 39) (live_st (by decide)) rfl rfl (vw11) inl11 (by decide) q982 dX11_start_39 ?_
    refine lv_iload_n hx hb dX11_start_42 rfl (lv_at hl 1 rfl) ?_
    refine lv_iconst (v := 5) hx hb dX11_start_43 (by decide) ?_
    obtain ⟨g20, h⟩ := gd_e h
    obtain ⟨S19, eS19, h⟩ := lt_e h
    refine g_iast C hR hS (k := 81) (n := 24) (live_st (by decide)) rfl g20 eS19 dX11_start_44 (fun H locs hR hS => ?_)
    exact g_vret C hR hS h dX11_start_45
  clear eJ38
  refine lv_if_eq (tgt := 38) hx hb dX11_start_16 (by decide) (fun c21 => ?_) (fun c21 => ?_)
  · have h := ite_t c21 h
    exact hJ38  _ _ _ _  hR hS hl h
  · have h := ite_f c21 h
    refine lv_aload_n hx hb dX11_start_19 rfl (lv_at hl 0 rfl) ?_
    refine lv_aload_n hx hb dX11_start_20 rfl (lv_at hl 0 rfl) ?_
    refine g_getr (t := 73) C hR (k := 54) (j := 29) (live_st (by decide)) rfl rfl (vw11) inl11 (by decide) q972 dX11_start_21 ?_
    refine lv_aload_n hx hb dX11_start_24 rfl (lv_at hl 0 rfl) ?_
    refine g_getr (t := 75) C hR (k := 54) (j := 33) (live_st (by decide)) rfl rfl (vw11) inl11 (by decide) q976 dX11_start_25 ?_
    refine lv_iload_n hx hb dX11_start_28 rfl (lv_at hl 1 rfl) ?_
    obtain ⟨g22, h⟩ := gd_e h
    refine g_iald C hR (k := 75) (n := 24) (live_st (by decide)) rfl g22 dX11_start_29 ?_
    obtain ⟨g23, h⟩ := gd_e h
    refine g_iald C hR (k := 73) (n := 6) (live_st (by decide)) rfl g23 dX11_start_30 ?_
    obtain ⟨r24, S25, hr24, h⟩ := bd_e h
    refine g_ci hS (g_runV C hR hS (k := 54) (As := [.int (rd S17 73 (Int32.toNatClampNeg (rd S17 75 (Int32.toNatClampNeg v1))))]) (rest := []) (c_X11_jarOfAll l  hr24) (live_st (by decide)) rfl (vw11) m_X11_jarOfAll q1256 ⟨rfl, rfl⟩ ⟨Nat.le_of_ble_eq_true rfl, Nat.le_of_ble_eq_true rfl⟩ rfl hl.1 rfl (Nat.le_of_ble_eq_true rfl) dX11_start_31 ⟨Nat.zero_le _, Nat.zero_le _⟩) (fun H locs hR hS => ?_)
    refine lv_iconst (v := -1) hx hb dX11_start_34 (by decide) ?_
    refine lv_icmp_ne (tgt := 46) hx hb dX11_start_35 (by decide) (fun c26 => ?_) (fun c26 => ?_)
    · have h := ite_f c26 h
      refine lv_aload_n hx hb dX11_start_46 rfl (lv_at hl 0 rfl) ?_
      refine g_getr (t := 81) C hR (k := 54) (j := 39) (live_st (by decide)) rfl rfl (vw11) inl11 (by decide) q982 dX11_start_47 ?_
      refine lv_iload_n hx hb dX11_start_50 rfl (lv_at hl 1 rfl) ?_
      refine lv_iconst (v := 1) hx hb dX11_start_51 (by decide) ?_
      obtain ⟨g28, h⟩ := gd_e h
      obtain ⟨S27, eS27, h⟩ := lt_e h
      refine g_iast C hR hS (k := 81) (n := 24) (live_st (by decide)) rfl g28 eS27 dX11_start_52 (fun H locs hR hS => ?_)
      refine lv_aload_n hx hb dX11_start_53 rfl (lv_at hl 0 rfl) ?_
      refine g_getr (t := 83) C hR (k := 54) (j := 41) (live_st (by decide)) rfl rfl (vw11) inl11 (by decide) q984 dX11_start_54 ?_
      refine lv_iload_n hx hb dX11_start_57 rfl (lv_at hl 1 rfl) ?_
      refine lv_aload_n hx hb dX11_start_58 rfl (lv_at hl 0 rfl) ?_
      refine g_geti C hR (k := 54) (j := 31) (live_st (by decide)) rfl rfl (vw11) inl11 (by decide) q974 dX11_start_59 ?_
      obtain ⟨g30, h⟩ := gd_e h
      obtain ⟨S29, eS29, h⟩ := lt_e h
      refine g_iast C hR hS (k := 83) (n := 24) (live_st (by decide)) rfl g30 eS29 dX11_start_62 (fun H locs hR hS => ?_)
      refine lv_iconst (v := 0) hx hb dX11_start_63 (by decide) ?_
      refine lv_istore_n (lv' := [(2, .int (0 : Int32)), (0, .ref (α 54)), (1, .int v1)]) hx hb dX11_start_64 rfl hl (by decide) rfl (fun ls hl => ?_)
      refine lv_iconst (v := 0) hx hb dX11_start_65 (by decide) ?_
      refine lv_istore_n (lv' := [(3, .int (0 : Int32)), (2, .int (0 : Int32)), (0, .ref (α 54)), (1, .int v1)]) hx hb dX11_start_66 rfl hl (by decide) rfl (fun ls hl => ?_)
      refine w_X11_start_L67 C ?_  _ _ _ _ _ _ _  hR hS (lv_sub hl [2, 3, 1, 0] rfl) h
      · intro x46 S47 H locs ls  hR hS hl h
        refine lv_aload_n hx hb dX11_start_129 rfl (lv_at hl 0 rfl) ?_
        refine g_getr (t := 85) C hR (k := 54) (j := 43) (live_st (by decide)) rfl rfl (vw11) inl11 (by decide) q986 dX11_start_130 ?_
        refine lv_iload_n hx hb dX11_start_133 rfl (lv_at hl 1 rfl) ?_
        refine lv_iload_n hx hb dX11_start_134 rfl (lv_at hl 2 rfl) ?_
        obtain ⟨g49, h⟩ := gd_e h
        obtain ⟨S48, eS48, h⟩ := lt_e h
        refine g_iast C hR hS (k := 85) (n := 24) (live_st (by decide)) rfl g49 eS48 dX11_start_135 (fun H locs hR hS => ?_)
        exact g_vret C hR hS h dX11_start_136
    · have h := ite_t c26 h
      exact hJ38  _ _ _ _  hR hS hl h

/-! OneVoiceModel.sayOne(I)V -/
abbrev rm_X11_sayOne : Room := { frames := 0, cells := 0, slots := 0, locals := 0 }
theorem m_X11_sayOne : MV yX11_sayOne RX11 cX11_sayOne 4 none 1 := ⟨q1293, q61, q77, q1294, by decide +kernel⟩
def f_X11_sayOne_L14 (K56 : Int32 → St → Option (Unit × St)) (v1 : Int32) : Nat → Int32 → Int32 → St → Option (Unit × St)
  | 0, _, _, _ => none
  | f + 1, v2, v3, S =>
    if (16 : Int32) ≤ v3 then
      K56 v2 S
    else
      lt_ (fun (t14 : Int32) (S15 : St) =>
          lt_ (v3 + (1 : Int32)) fun x16 =>
          f_X11_sayOne_L14 K56 v1 f t14 x16 S15) fun J49 =>
      lt_ (fun  (S17 : St) =>
          J49 (1 : Int32) S17) fun J44 =>
      if v2 = 0 then
        gd_ (inb (((16 : Int32) * v1) + v3) 384) <|
        gd_ (inb v1 24) <|
        if (rd S 86 (Int32.toNatClampNeg (((16 : Int32) * v1) + v3))) = (rd S 82 (Int32.toNatClampNeg v1)) then
          J44  S
        else
          J49 (0 : Int32) S
      else
        J44  S

def f_X11_sayOne (v1 : Int32) (S : St) : Option (Unit × St) :=
  gd_ (inb v1 24) <|
  gd_ (inb v1 24) <|
  lt_ (wr S 82 (Int32.toNatClampNeg v1) ((rd S 82 (Int32.toNatClampNeg v1)) + (1 : Int32))) fun S11 =>
  f_X11_sayOne_L14
    (fun (x22 : Int32) (S23 : St) =>
      gd_ (inb v1 24) <|
      gd_ (inb v1 24) <|
      if (rd S23 82 (Int32.toNatClampNeg v1)) = (rd S23 85 (Int32.toNatClampNeg v1)) then
        gd_ (inb v1 24) <|
        lt_ (wr S23 81 (Int32.toNatClampNeg v1) (2 : Int32)) fun S36 =>
        some ((), S36)
      else
        lt_ (fun (t27 : Int32) (S28 : St) =>
            gd_ (inb t27 24) <|
            lt_ (wr S28 81 (Int32.toNatClampNeg t27) (1 : Int32)) fun S29 =>
            some ((), S29)) fun J97 =>
        if x22 = 0 then
          J97 v1 S23
        else
          gd_ (inb v1 24) <|
          if (rd S23 84 (Int32.toNatClampNeg v1)) = 0 then
            J97 v1 S23
          else
            gd_ (inb v1 24) <|
            lt_ (wr S23 81 (Int32.toNatClampNeg v1) (3 : Int32)) fun S34 =>
            some ((), S34))
    v1 FU (0 : Int32) (0 : Int32) S11

set_option maxHeartbeats 4000000 in
set_option maxRecDepth 100000 in
theorem w_X11_sayOne_L14 {p : Program} {l : Launch} {e : Env} {s : State} {m : MethodId} {args : Array Value} {below : List Frame} {meth : Method} {c : Code} {E : En} {α : Nat → Nat} {g : Nat × Nat} (C : Cx p s m args meth c RX11 cX11_sayOne 4 none E) {z : Unit × St} {K56 : Int32 → St → Option (Unit × St)} {v1 : Int32}
    (hK56 : ∀ (y2 : Int32) (S : St) (H : Heap) (locs : List Loc) (ls : Array Slot), Rp E α g S H → va_S E.2.2.1 s.heap H locs → lv_has ls 4 [(0, .ref (α 54)), (1, .int v1), (2, .int y2)] → K56 y2 S = some z → W p l e rm_X11_sayOne s m args below meth c H locs 0 0 (MQ below (Qv E α g z) args s 0 0 E.2.2.1) (F0 m 56 ls [])) :
    ∀ (f : Nat) (v2 : Int32) (v3 : Int32) (S : St) (H : Heap) (locs : List Loc) (ls : Array Slot), Rp E α g S H → va_S E.2.2.1 s.heap H locs → lv_has ls 4 [(0, .ref (α 54)), (1, .int v1), (2, .int v2), (3, .int v3)] → f_X11_sayOne_L14 K56 v1 f v2 v3 S = some z → W p l e rm_X11_sayOne s m args below meth c H locs 0 0 (MQ below (Qv E α g z) args s 0 0 E.2.2.1) (F0 m 14 ls []) := by
  obtain ⟨hx, hb, hml, hown, hts, hlk, hrt, hKs⟩ := id C
  intro f
  induction f with
  | zero =>
    intro v2 v3 S H locs ls  hR hS hl h
    rw [f_X11_sayOne_L14] at h
    cases h
  | succ f ih =>
    intro v2 v3 S H locs ls  hR hS hl h
    rw [f_X11_sayOne_L14] at h
    refine lv_iload_n hx hb dX11_sayOne_14 rfl (lv_at hl 3 rfl) ?_
    refine lv_bipush (v := 16) hx hb dX11_sayOne_15 (by decide) ?_
    refine lv_icmp_ge (tgt := 56) hx hb dX11_sayOne_17 (by decide) (fun c13 => ?_) (fun c13 => ?_)
    · have h := ite_t c13 h
      exact hK56 _ _ _ _ _  hR hS (lv_sub hl [0, 1, 2] rfl) h
    · have h := ite_f c13 h
      refine lv_iload_n hx hb dX11_sayOne_20 rfl (lv_at hl 2 rfl) ?_
      obtain ⟨J49, eJ49, h⟩ := lt_e h
      have hJ49 : ∀ (t14 : Int32) (S15 : St) (H : Heap) (locs : List Loc) (ls : Array Slot), Rp E α g S15 H → va_S E.2.2.1 s.heap H locs → lv_has ls 4 [(0, .ref (α 54)), (1, .int v1), (3, .int v3)] → J49 t14 S15 = some z → W p l e rm_X11_sayOne s m args below meth c H locs 0 0 (MQ below (Qv E α g z) args s 0 0 E.2.2.1) (F0 m 49 ls [.int t14]) := by
        intro t14 S15 H locs ls  hR hS hl h
        rw [eJ49] at h
        refine lv_istore_n (lv' := [(2, .int t14), (0, .ref (α 54)), (1, .int v1), (3, .int v3)]) hx hb dX11_sayOne_49 rfl hl (by decide) rfl (fun ls hl => ?_)
        obtain ⟨x16, ex16, h⟩ := lt_e h
        refine lv_iinc (v := x16) (lv' := [(3, .int x16), (2, .int t14), (0, .ref (α 54)), (1, .int v1)]) hx hb dX11_sayOne_50 hl (k := 3) rfl (by rw [ex16]; rfl) (by decide) rfl (fun ls hl => ?_)
        refine lv_goto (tgt := 14) hx hb dX11_sayOne_53 (by decide) ?_
        exact ih _ _ _ _ _ _  hR hS (lv_sub hl [2, 3, 1, 0] rfl) h
      clear eJ49
      obtain ⟨J44, eJ44, h⟩ := lt_e h
      have hJ44 : ∀ (S17 : St) (H : Heap) (locs : List Loc) (ls : Array Slot), Rp E α g S17 H → va_S E.2.2.1 s.heap H locs → lv_has ls 4 [(0, .ref (α 54)), (1, .int v1), (3, .int v3)] → J44  S17 = some z → W p l e rm_X11_sayOne s m args below meth c H locs 0 0 (MQ below (Qv E α g z) args s 0 0 E.2.2.1) (F0 m 44 ls []) := by
        intro  S17 H locs ls  hR hS hl h
        rw [eJ44] at h
        refine lv_iconst (v := 1) hx hb dX11_sayOne_44 (by decide) ?_
        refine lv_goto (tgt := 49) hx hb dX11_sayOne_45 (by decide) ?_
        exact hJ49 _ _ _ _ _  hR hS hl h
      clear eJ44
      refine lv_if_ne (tgt := 44) hx hb dX11_sayOne_21 (by decide) (fun c18 => ?_) (fun c18 => ?_)
      · have h := ite_f c18 h
        exact hJ44  _ _ _ _  hR hS (lv_sub hl [0, 1, 3] rfl) h
      · have h := ite_t c18 h
        refine lv_aload_n hx hb dX11_sayOne_24 rfl (lv_at hl 0 rfl) ?_
        refine g_getr (t := 86) C hR (k := 54) (j := 44) (live_st (by decide)) rfl rfl (vw11) inl11 (by decide) q987 dX11_sayOne_25 ?_
        refine lv_bipush (v := 16) hx hb dX11_sayOne_28 (by decide) ?_
        refine lv_iload_n hx hb dX11_sayOne_30 rfl (lv_at hl 1 rfl) ?_
        refine lv_imul hx hb dX11_sayOne_31 ?_
        refine lv_iload_n hx hb dX11_sayOne_32 rfl (lv_at hl 3 rfl) ?_
        refine lv_iadd hx hb dX11_sayOne_33 ?_
        obtain ⟨g19, h⟩ := gd_e h
        refine g_iald C hR (k := 86) (n := 384) (live_st (by decide)) rfl g19 dX11_sayOne_34 ?_
        refine lv_aload_n hx hb dX11_sayOne_35 rfl (lv_at hl 0 rfl) ?_
        refine g_getr (t := 82) C hR (k := 54) (j := 40) (live_st (by decide)) rfl rfl (vw11) inl11 (by decide) q983 dX11_sayOne_36 ?_
        refine lv_iload_n hx hb dX11_sayOne_39 rfl (lv_at hl 1 rfl) ?_
        obtain ⟨g20, h⟩ := gd_e h
        refine g_iald C hR (k := 82) (n := 24) (live_st (by decide)) rfl g20 dX11_sayOne_40 ?_
        refine lv_icmp_ne (tgt := 48) hx hb dX11_sayOne_41 (by decide) (fun c21 => ?_) (fun c21 => ?_)
        · have h := ite_f c21 h
          refine lv_iconst (v := 0) hx hb dX11_sayOne_48 (by decide) ?_
          exact hJ49 _ _ _ _ _  hR hS (lv_sub hl [0, 1, 3] rfl) h
        · have h := ite_t c21 h
          exact hJ44  _ _ _ _  hR hS (lv_sub hl [0, 1, 3] rfl) h

set_option maxHeartbeats 4000000 in
set_option maxRecDepth 100000 in
theorem c_X11_sayOne (l : Launch) {E : En} {α : Nat → Nat} {g : Nat × Nat} {v1 : Int32} {S : St}  {z : Unit × St} (h : f_X11_sayOne v1 S = some z) : Met l yX11_sayOne (wsY yX11_sayOne cX11_sayOne 4 none) rm_X11_sayOne (va_Pc [.ref (α 54), .int v1] (Wd E α g S)) (Qv E α g z) 0 0 E.2.2.1 := by
  refine g_met [.ref (α 54), .int v1] (by decide) rfl (Nat.le_of_ble_eq_true rfl) ?_
  intro p e s m below meth c ls C hR hl
  generalize hae : ([.ref (α 54), .int v1] : List Value).toArray = args at C ⊢
  have hl : lv_has ls 4 [(0, .ref (α 54)), (1, .int v1)] := hl
  obtain ⟨hx, hb, hml, hown, hts, hlk, hrt, hKs⟩ := id C
  have hS : va_S E.2.2.1 s.heap s.heap [] := va_S.rf
  unfold f_X11_sayOne at h
  refine lv_aload_n hx hb dX11_sayOne_0 rfl (lv_at hl 0 rfl) ?_
  refine g_getr (t := 82) C hR (k := 54) (j := 40) (live_st (by decide)) rfl rfl (vw11) inl11 (by decide) q983 dX11_sayOne_1 ?_
  refine lv_iload_n hx hb dX11_sayOne_4 rfl (lv_at hl 1 rfl) ?_
  refine lv_dup2_11 hx hb dX11_sayOne_5 rfl rfl ?_
  obtain ⟨g10, h⟩ := gd_e h
  refine g_iald C hR (k := 82) (n := 24) (live_st (by decide)) rfl g10 dX11_sayOne_6 ?_
  refine lv_iconst (v := 1) hx hb dX11_sayOne_7 (by decide) ?_
  refine lv_iadd hx hb dX11_sayOne_8 ?_
  obtain ⟨g12, h⟩ := gd_e h
  obtain ⟨S11, eS11, h⟩ := lt_e h
  refine g_iast C hR hS (k := 82) (n := 24) (live_st (by decide)) rfl g12 eS11 dX11_sayOne_9 (fun H locs hR hS => ?_)
  refine lv_iconst (v := 0) hx hb dX11_sayOne_10 (by decide) ?_
  refine lv_istore_n (lv' := [(2, .int (0 : Int32)), (0, .ref (α 54)), (1, .int v1)]) hx hb dX11_sayOne_11 rfl hl (by decide) rfl (fun ls hl => ?_)
  refine lv_iconst (v := 0) hx hb dX11_sayOne_12 (by decide) ?_
  refine lv_istore_n (lv' := [(3, .int (0 : Int32)), (2, .int (0 : Int32)), (0, .ref (α 54)), (1, .int v1)]) hx hb dX11_sayOne_13 rfl hl (by decide) rfl (fun ls hl => ?_)
  refine w_X11_sayOne_L14 C ?_  _ _ _ _ _ _ _  hR hS (lv_sub hl [2, 3, 1, 0] rfl) h
  · intro x22 S23 H locs ls  hR hS hl h
    refine lv_aload_n hx hb dX11_sayOne_56 rfl (lv_at hl 0 rfl) ?_
    refine g_getr (t := 81) C hR (k := 54) (j := 39) (live_st (by decide)) rfl rfl (vw11) inl11 (by decide) q982 dX11_sayOne_57 ?_
    refine lv_iload_n hx hb dX11_sayOne_60 rfl (lv_at hl 1 rfl) ?_
    refine lv_aload_n hx hb dX11_sayOne_61 rfl (lv_at hl 0 rfl) ?_
    refine g_getr (t := 82) C hR (k := 54) (j := 40) (live_st (by decide)) rfl rfl (vw11) inl11 (by decide) q983 dX11_sayOne_62 ?_
    refine lv_iload_n hx hb dX11_sayOne_65 rfl (lv_at hl 1 rfl) ?_
    obtain ⟨g24, h⟩ := gd_e h
    refine g_iald C hR (k := 82) (n := 24) (live_st (by decide)) rfl g24 dX11_sayOne_66 ?_
    refine lv_aload_n hx hb dX11_sayOne_67 rfl (lv_at hl 0 rfl) ?_
    refine g_getr (t := 85) C hR (k := 54) (j := 43) (live_st (by decide)) rfl rfl (vw11) inl11 (by decide) q986 dX11_sayOne_68 ?_
    refine lv_iload_n hx hb dX11_sayOne_71 rfl (lv_at hl 1 rfl) ?_
    obtain ⟨g25, h⟩ := gd_e h
    refine g_iald C hR (k := 85) (n := 24) (live_st (by decide)) rfl g25 dX11_sayOne_72 ?_
    refine lv_icmp_ne (tgt := 80) hx hb dX11_sayOne_73 (by decide) (fun c26 => ?_) (fun c26 => ?_)
    · have h := ite_f c26 h
      refine lv_iload_n hx hb dX11_sayOne_80 rfl (lv_at hl 2 rfl) ?_
      obtain ⟨J97, eJ97, h⟩ := lt_e h
      have hJ97 : ∀ (t27 : Int32) (S28 : St) (H : Heap) (locs : List Loc) (ls : Array Slot), Rp E α g S28 H → va_S E.2.2.1 s.heap H locs → lv_has ls 4 [] → J97 t27 S28 = some z → W p l e rm_X11_sayOne s m args below meth c H locs 0 0 (MQ below (Qv E α g z) args s 0 0 E.2.2.1) (F0 m 97 ls [.int t27, .ref (α 81)]) := by
        intro t27 S28 H locs ls  hR hS hl h
        rw [eJ97] at h
        refine lv_iconst (v := 1) hx hb dX11_sayOne_97 (by decide) ?_
        obtain ⟨g30, h⟩ := gd_e h
        obtain ⟨S29, eS29, h⟩ := lt_e h
        refine g_iast C hR hS (k := 81) (n := 24) (live_st (by decide)) rfl g30 eS29 dX11_sayOne_98 (fun H locs hR hS => ?_)
        exact g_vret C hR hS h dX11_sayOne_99
      clear eJ97
      refine lv_if_eq (tgt := 97) hx hb dX11_sayOne_81 (by decide) (fun c31 => ?_) (fun c31 => ?_)
      · have h := ite_t c31 h
        exact hJ97 _ _ _ _ _  hR hS (lv_sub hl [] rfl) h
      · have h := ite_f c31 h
        refine lv_aload_n hx hb dX11_sayOne_84 rfl (lv_at hl 0 rfl) ?_
        refine g_getr (t := 84) C hR (k := 54) (j := 42) (live_st (by decide)) rfl rfl (vw11) inl11 (by decide) q985 dX11_sayOne_85 ?_
        refine lv_iload_n hx hb dX11_sayOne_88 rfl (lv_at hl 1 rfl) ?_
        obtain ⟨g32, h⟩ := gd_e h
        refine g_zald C hR (k := 84) (n := 24) (live_st (by decide)) rfl g32 dX11_sayOne_89 ?_
        refine lv_if_eq (tgt := 97) hx hb dX11_sayOne_90 (by decide) (fun c33 => ?_) (fun c33 => ?_)
        · have h := ite_t c33 h
          exact hJ97 _ _ _ _ _  hR hS (lv_sub hl [] rfl) h
        · have h := ite_f c33 h
          refine lv_iconst (v := 3) hx hb dX11_sayOne_93 (by decide) ?_
          refine lv_goto (tgt := 98) hx hb dX11_sayOne_94 (by decide) ?_
          obtain ⟨g35, h⟩ := gd_e h
          obtain ⟨S34, eS34, h⟩ := lt_e h
          refine g_iast C hR hS (k := 81) (n := 24) (live_st (by decide)) rfl g35 eS34 dX11_sayOne_98 (fun H locs hR hS => ?_)
          exact g_vret C hR hS h dX11_sayOne_99
    · have h := ite_t c26 h
      refine lv_iconst (v := 2) hx hb dX11_sayOne_76 (by decide) ?_
      refine lv_goto (tgt := 98) hx hb dX11_sayOne_77 (by decide) ?_
      obtain ⟨g37, h⟩ := gd_e h
      obtain ⟨S36, eS36, h⟩ := lt_e h
      refine g_iast C hR hS (k := 81) (n := 24) (live_st (by decide)) rfl g37 eS36 dX11_sayOne_98 (fun H locs hR hS => ?_)
      exact g_vret C hR hS h dX11_sayOne_99

/-! OneVoiceModel.goTick()V -/
abbrev rm_X11_goTick : Room := { frames := 7, cells := 0, slots := 0, locals := 171 }
theorem m_X11_goTick : MV yX11_goTick RX11 cX11_goTick 4 none 0 := ⟨q1277, q57, q77, q1278, by decide +kernel⟩
def f_X11_goTick_L2 (K54 : St → Option (Unit × St))  : Nat → Int32 → St → Option (Unit × St)
  | 0, _, _ => none
  | f + 1, v1, S =>
    if (rd S 54 32) ≤ v1 then
      K54  S
    else
      gd_ (inb v1 24) <|
      lt_ (fun (t23 : Int32) (t24 : Int32) (S25 : St) =>
          gd_ (inb t23 24) <|
          lt_ (wr S25 81 (Int32.toNatClampNeg t23) t24) fun S26 =>
          lt_ (v1 + (1 : Int32)) fun x28 =>
          f_X11_goTick_L2 K54 f x28 S26) fun J47 =>
      lt_ (fun (t29 : Int32) (S30 : St) =>
          gd_ (inb v1 24) <|
          J47 t29 (rd S30 81 (Int32.toNatClampNeg v1)) S30) fun J41 =>
      if (rd S 81 (Int32.toNatClampNeg v1)) = 0 then
        gd_ (inb v1 24) <|
        if (rd S 54 31) < (rd S 79 (Int32.toNatClampNeg v1)) then
          J41 v1 S
        else
          J47 v1 (4 : Int32) S
      else
        J41 v1 S

def f_X11_goTick_L85 (K149 : Int32 → St → Option (Unit × St)) (v1 : Int32) : Nat → Int32 → Int32 → St → Option (Unit × St)
  | 0, _, _, _ => none
  | f + 1, v2, v3, S =>
    if (rd S 54 32) ≤ v3 then
      K149 v2 S
    else
      gd_ (inb v3 24) <|
      lt_ (fun (x46 : Int32) (S47 : St) =>
          lt_ (v3 + (1 : Int32)) fun x48 =>
          f_X11_goTick_L85 K149 v1 f x46 x48 S47) fun J143 =>
      if (rd S 81 (Int32.toNatClampNeg v3)) = (1 : Int32) then
        bd_ (f_X11_isNear v1 v3 S) fun r50 S51 =>
        if r50 = 0 then
          J143 v2 S51
        else
          gd_ (inb v3 24) <|
          lt_ (fun (t54 : Int32) (t55 : Int32) (S56 : St) =>
              gd_ (inb t54 24) <|
              gd_ (bz t55) <|
              lt_ (wr S56 84 (Int32.toNatClampNeg t54) t55) fun S57 =>
              J143 (0 : Int32) S57) fun J142 =>
          lt_ (fun (t60 : Int32) (S61 : St) =>
              J142 t60 (1 : Int32) S61) fun J137 =>
          if (rd S51 84 (Int32.toNatClampNeg v3)) = 0 then
            gd_ (inb v3 24) <|
            if (rd S51 80 (Int32.toNatClampNeg v3)) = 0 then
              J137 v3 S51
            else
              J142 v3 (0 : Int32) S51
          else
            J137 v3 S51
      else
        J143 v2 S

def f_X11_goTick_L56 (K164 : St → Option (Unit × St))  : Nat → Int32 → St → Option (Unit × St)
  | 0, _, _ => none
  | f + 1, v1, S =>
    if (rd S 54 32) ≤ v1 then
      K164  S
    else
      gd_ (inb v1 24) <|
      lt_ (fun  (S38 : St) =>
          lt_ (v1 + (1 : Int32)) fun x39 =>
          f_X11_goTick_L56 K164 f x39 S38) fun J158 =>
      if (rd S 80 (Int32.toNatClampNeg v1)) = 0 then
        J158  S
      else
        bd_ (f_X11_isWaiting v1 S) fun r41 S42 =>
        if r41 = 0 then
          J158  S42
        else
          f_X11_goTick_L85
            (fun (x65 : Int32) (S66 : St) =>
              if x65 = 0 then
                J158  S66
              else
                bd_ (f_X11_start v1 S66) fun r68 S69 =>
                J158  S69)
            v1 FU (1 : Int32) (0 : Int32) S42

def f_X11_goTick_L195 (K255 : Int32 → St → Option (Unit × St)) (v1 : Int32) : Nat → Int32 → Int32 → St → Option (Unit × St)
  | 0, _, _, _ => none
  | f + 1, v2, v3, S =>
    if (rd S 54 32) ≤ v3 then
      K255 v2 S
    else
      lt_ (fun (t80 : Int32) (S81 : St) =>
          lt_ (v3 + (1 : Int32)) fun x82 =>
          f_X11_goTick_L195 K255 v1 f t80 x82 S81) fun J248 =>
      lt_ (fun  (S83 : St) =>
          J248 (0 : Int32) S83) fun J247 =>
      if v2 = 0 then
        J247  S
      else
        bd_ (f_X11_isNear v1 v3 S) fun r85 S86 =>
        lt_ (fun  (S87 : St) =>
            J248 (1 : Int32) S87) fun J243 =>
        if r85 = 0 then
          J243  S86
        else
          gd_ (inb v3 24) <|
          if (rd S86 81 (Int32.toNatClampNeg v3)) = (1 : Int32) then
            J247  S86
          else
            gd_ (inb v3 24) <|
            if (rd S86 80 (Int32.toNatClampNeg v3)) = 0 then
              J243  S86
            else
              bd_ (f_X11_isWaiting v3 S86) fun r93 S94 =>
              if r93 = 0 then
                J243  S94
              else
                J247  S94

def f_X11_goTick_L166 (K270 : St → Option (Unit × St))  : Nat → Int32 → St → Option (Unit × St)
  | 0, _, _ => none
  | f + 1, v1, S =>
    if (rd S 54 32) ≤ v1 then
      K270  S
    else
      gd_ (inb v1 24) <|
      lt_ (fun  (S73 : St) =>
          lt_ (v1 + (1 : Int32)) fun x74 =>
          f_X11_goTick_L166 K270 f x74 S73) fun J264 =>
      if (rd S 80 (Int32.toNatClampNeg v1)) = 0 then
        bd_ (f_X11_isWaiting v1 S) fun r76 S77 =>
        if r76 = 0 then
          J264  S77
        else
          f_X11_goTick_L195
            (fun (x96 : Int32) (S97 : St) =>
              if x96 = 0 then
                J264  S97
              else
                bd_ (f_X11_start v1 S97) fun r99 S100 =>
                J264  S100)
            v1 FU (1 : Int32) (0 : Int32) S77
      else
        J264  S

def f_X11_goTick_L272 (K301 : St → Option (Unit × St))  : Nat → Int32 → St → Option (Unit × St)
  | 0, _, _ => none
  | f + 1, v1, S =>
    if (rd S 54 32) ≤ v1 then
      K301  S
    else
      gd_ (inb v1 24) <|
      lt_ (fun  (S104 : St) =>
          lt_ (v1 + (1 : Int32)) fun x105 =>
          f_X11_goTick_L272 K301 f x105 S104) fun J295 =>
      if (rd S 81 (Int32.toNatClampNeg v1)) = (1 : Int32) then
        bd_ (f_X11_sayOne v1 S) fun r107 S108 =>
        J295  S108
      else
        J295  S

def f_X11_goTick  (S : St) : Option (Unit × St) :=
  f_X11_goTick_L2
    (fun  (S35 : St) =>
      f_X11_goTick_L56
        (fun  (S70 : St) =>
          f_X11_goTick_L166
            (fun  (S101 : St) =>
              f_X11_goTick_L272
                (fun  (S109 : St) =>
                  lt_ (wr S109 54 31 ((rd S109 54 31) + (1 : Int32))) fun S110 =>
                  some ((), S110))
                 FU (0 : Int32) S101)
             FU (0 : Int32) S70)
         FU (0 : Int32) S35)
     FU (0 : Int32) S

set_option maxHeartbeats 4000000 in
set_option maxRecDepth 100000 in
theorem w_X11_goTick_L2 {p : Program} {l : Launch} {e : Env} {s : State} {m : MethodId} {args : Array Value} {below : List Frame} {meth : Method} {c : Code} {E : En} {α : Nat → Nat} {g : Nat × Nat} (C : Cx p s m args meth c RX11 cX11_goTick 4 none E) {z : Unit × St} {K54 : St → Option (Unit × St)}
    (hK54 : ∀ (S : St) (H : Heap) (locs : List Loc) (ls : Array Slot), Rp E α g S H → va_S E.2.2.1 s.heap H locs → lv_has ls 4 [(0, .ref (α 54))] → K54  S = some z → W p l e rm_X11_goTick s m args below meth c H locs 0 0 (MQ below (Qv E α g z) args s 0 0 E.2.2.1) (F0 m 54 ls [])) :
    ∀ (f : Nat) (v1 : Int32) (S : St) (H : Heap) (locs : List Loc) (ls : Array Slot), Rp E α g S H → va_S E.2.2.1 s.heap H locs → lv_has ls 4 [(0, .ref (α 54)), (1, .int v1)] → f_X11_goTick_L2 K54 f v1 S = some z → W p l e rm_X11_goTick s m args below meth c H locs 0 0 (MQ below (Qv E α g z) args s 0 0 E.2.2.1) (F0 m 2 ls []) := by
  obtain ⟨hx, hb, hml, hown, hts, hlk, hrt, hKs⟩ := id C
  intro f
  induction f with
  | zero =>
    intro v1 S H locs ls  hR hS hl h
    rw [f_X11_goTick_L2] at h
    cases h
  | succ f ih =>
    intro v1 S H locs ls  hR hS hl h
    rw [f_X11_goTick_L2] at h
    refine lv_iload_n hx hb dX11_goTick_2 rfl (lv_at hl 1 rfl) ?_
    refine lv_aload_n hx hb dX11_goTick_3 rfl (lv_at hl 0 rfl) ?_
    refine g_geti C hR (k := 54) (j := 32) (live_st (by decide)) rfl rfl (vw11) inl11 (by decide) q975 dX11_goTick_4 ?_
    refine lv_icmp_ge (tgt := 54) hx hb dX11_goTick_7 (by decide) (fun c21 => ?_) (fun c21 => ?_)
    · have h := ite_t c21 h
      exact hK54  _ _ _ _  hR hS (lv_sub hl [0] rfl) h
    · have h := ite_f c21 h
      refine lv_aload_n hx hb dX11_goTick_10 rfl (lv_at hl 0 rfl) ?_
      refine g_getr (t := 81) C hR (k := 54) (j := 39) (live_st (by decide)) rfl rfl (vw11) inl11 (by decide) q982 dX11_goTick_11 ?_
      refine lv_iload_n hx hb dX11_goTick_14 rfl (lv_at hl 1 rfl) ?_
      refine lv_aload_n hx hb dX11_goTick_15 rfl (lv_at hl 0 rfl) ?_
      refine g_getr (t := 81) C hR (k := 54) (j := 39) (live_st (by decide)) rfl rfl (vw11) inl11 (by decide) q982 dX11_goTick_16 ?_
      refine lv_iload_n hx hb dX11_goTick_19 rfl (lv_at hl 1 rfl) ?_
      obtain ⟨g22, h⟩ := gd_e h
      refine g_iald C hR (k := 81) (n := 24) (live_st (by decide)) rfl g22 dX11_goTick_20 ?_
      obtain ⟨J47, eJ47, h⟩ := lt_e h
      have hJ47 : ∀ (t23 : Int32) (t24 : Int32) (S25 : St) (H : Heap) (locs : List Loc) (ls : Array Slot), Rp E α g S25 H → va_S E.2.2.1 s.heap H locs → lv_has ls 4 [(0, .ref (α 54)), (1, .int v1)] → J47 t23 t24 S25 = some z → W p l e rm_X11_goTick s m args below meth c H locs 0 0 (MQ below (Qv E α g z) args s 0 0 E.2.2.1) (F0 m 47 ls [.int t24, .int t23, .ref (α 81)]) := by
        intro t23 t24 S25 H locs ls  hR hS hl h
        rw [eJ47] at h
        obtain ⟨g27, h⟩ := gd_e h
        obtain ⟨S26, eS26, h⟩ := lt_e h
        refine g_iast C hR hS (k := 81) (n := 24) (live_st (by decide)) rfl g27 eS26 dX11_goTick_47 (fun H locs hR hS => ?_)
        obtain ⟨x28, ex28, h⟩ := lt_e h
        refine lv_iinc (v := x28) (lv' := [(1, .int x28), (0, .ref (α 54))]) hx hb dX11_goTick_48 hl (k := 1) rfl (by rw [ex28]; rfl) (by decide) rfl (fun ls hl => ?_)
        refine lv_goto (tgt := 2) hx hb dX11_goTick_51 (by decide) ?_
        exact ih _ _ _ _ _  hR hS (lv_sub hl [1, 0] rfl) h
      clear eJ47
      obtain ⟨J41, eJ41, h⟩ := lt_e h
      have hJ41 : ∀ (t29 : Int32) (S30 : St) (H : Heap) (locs : List Loc) (ls : Array Slot), Rp E α g S30 H → va_S E.2.2.1 s.heap H locs → lv_has ls 4 [(0, .ref (α 54)), (1, .int v1)] → J41 t29 S30 = some z → W p l e rm_X11_goTick s m args below meth c H locs 0 0 (MQ below (Qv E α g z) args s 0 0 E.2.2.1) (F0 m 41 ls [.int t29, .ref (α 81)]) := by
        intro t29 S30 H locs ls  hR hS hl h
        rw [eJ41] at h
        refine lv_aload_n hx hb dX11_goTick_41 rfl (lv_at hl 0 rfl) ?_
        refine g_getr (t := 81) C hR (k := 54) (j := 39) (live_st (by decide)) rfl rfl (vw11) inl11 (by decide) q982 dX11_goTick_42 ?_
        refine lv_iload_n hx hb dX11_goTick_45 rfl (lv_at hl 1 rfl) ?_
        obtain ⟨g31, h⟩ := gd_e h
        refine g_iald C hR (k := 81) (n := 24) (live_st (by decide)) rfl g31 dX11_goTick_46 ?_
        exact hJ47 _ _ _ _ _ _  hR hS hl h
      clear eJ41
      refine lv_if_ne (tgt := 41) hx hb dX11_goTick_21 (by decide) (fun c32 => ?_) (fun c32 => ?_)
      · have h := ite_f c32 h
        exact hJ41 _ _ _ _ _  hR hS hl h
      · have h := ite_t c32 h
        refine lv_aload_n hx hb dX11_goTick_24 rfl (lv_at hl 0 rfl) ?_
        refine g_getr (t := 79) C hR (k := 54) (j := 37) (live_st (by decide)) rfl rfl (vw11) inl11 (by decide) q980 dX11_goTick_25 ?_
        refine lv_iload_n hx hb dX11_goTick_28 rfl (lv_at hl 1 rfl) ?_
        obtain ⟨g33, h⟩ := gd_e h
        refine g_iald C hR (k := 79) (n := 24) (live_st (by decide)) rfl g33 dX11_goTick_29 ?_
        refine lv_aload_n hx hb dX11_goTick_30 rfl (lv_at hl 0 rfl) ?_
        refine g_geti C hR (k := 54) (j := 31) (live_st (by decide)) rfl rfl (vw11) inl11 (by decide) q974 dX11_goTick_31 ?_
        refine lv_icmp_gt (tgt := 41) hx hb dX11_goTick_34 (by decide) (fun c34 => ?_) (fun c34 => ?_)
        · have h := ite_t c34 h
          exact hJ41 _ _ _ _ _  hR hS hl h
        · have h := ite_f c34 h
          refine lv_iconst (v := 4) hx hb dX11_goTick_37 (by decide) ?_
          refine lv_goto (tgt := 47) hx hb dX11_goTick_38 (by decide) ?_
          exact hJ47 _ _ _ _ _ _  hR hS hl h

set_option maxHeartbeats 4000000 in
set_option maxRecDepth 100000 in
theorem w_X11_goTick_L85 {p : Program} {l : Launch} {e : Env} {s : State} {m : MethodId} {args : Array Value} {below : List Frame} {meth : Method} {c : Code} {E : En} {α : Nat → Nat} {g : Nat × Nat} (C : Cx p s m args meth c RX11 cX11_goTick 4 none E) {z : Unit × St} {K149 : Int32 → St → Option (Unit × St)} {v1 : Int32}
    (hK149 : ∀ (y2 : Int32) (S : St) (H : Heap) (locs : List Loc) (ls : Array Slot), Rp E α g S H → va_S E.2.2.1 s.heap H locs → lv_has ls 4 [(0, .ref (α 54)), (1, .int v1), (2, .int y2)] → K149 y2 S = some z → W p l e rm_X11_goTick s m args below meth c H locs 0 0 (MQ below (Qv E α g z) args s 0 0 E.2.2.1) (F0 m 149 ls [])) :
    ∀ (f : Nat) (v2 : Int32) (v3 : Int32) (S : St) (H : Heap) (locs : List Loc) (ls : Array Slot), Rp E α g S H → va_S E.2.2.1 s.heap H locs → lv_has ls 4 [(0, .ref (α 54)), (1, .int v1), (2, .int v2), (3, .int v3)] → f_X11_goTick_L85 K149 v1 f v2 v3 S = some z → W p l e rm_X11_goTick s m args below meth c H locs 0 0 (MQ below (Qv E α g z) args s 0 0 E.2.2.1) (F0 m 85 ls []) := by
  obtain ⟨hx, hb, hml, hown, hts, hlk, hrt, hKs⟩ := id C
  intro f
  induction f with
  | zero =>
    intro v2 v3 S H locs ls  hR hS hl h
    rw [f_X11_goTick_L85] at h
    cases h
  | succ f ih =>
    intro v2 v3 S H locs ls  hR hS hl h
    rw [f_X11_goTick_L85] at h
    refine lv_iload_n hx hb dX11_goTick_85 rfl (lv_at hl 3 rfl) ?_
    refine lv_aload_n hx hb dX11_goTick_86 rfl (lv_at hl 0 rfl) ?_
    refine g_geti C hR (k := 54) (j := 32) (live_st (by decide)) rfl rfl (vw11) inl11 (by decide) q975 dX11_goTick_87 ?_
    refine lv_icmp_ge (tgt := 149) hx hb dX11_goTick_90 (by decide) (fun c44 => ?_) (fun c44 => ?_)
    · have h := ite_t c44 h
      exact hK149 _ _ _ _ _  hR hS (lv_sub hl [0, 1, 2] rfl) h
    · have h := ite_f c44 h
      refine lv_aload_n hx hb dX11_goTick_93 rfl (lv_at hl 0 rfl) ?_
      refine g_getr (t := 81) C hR (k := 54) (j := 39) (live_st (by decide)) rfl rfl (vw11) inl11 (by decide) q982 dX11_goTick_94 ?_
      refine lv_iload_n hx hb dX11_goTick_97 rfl (lv_at hl 3 rfl) ?_
      obtain ⟨g45, h⟩ := gd_e h
      refine g_iald C hR (k := 81) (n := 24) (live_st (by decide)) rfl g45 dX11_goTick_98 ?_
      refine lv_iconst (v := 1) hx hb dX11_goTick_99 (by decide) ?_
      obtain ⟨J143, eJ143, h⟩ := lt_e h
      have hJ143 : ∀ (x46 : Int32) (S47 : St) (H : Heap) (locs : List Loc) (ls : Array Slot), Rp E α g S47 H → va_S E.2.2.1 s.heap H locs → lv_has ls 4 [(0, .ref (α 54)), (1, .int v1), (2, .int x46), (3, .int v3)] → J143 x46 S47 = some z → W p l e rm_X11_goTick s m args below meth c H locs 0 0 (MQ below (Qv E α g z) args s 0 0 E.2.2.1) (F0 m 143 ls []) := by
        intro x46 S47 H locs ls  hR hS hl h
        rw [eJ143] at h
        obtain ⟨x48, ex48, h⟩ := lt_e h
        refine lv_iinc (v := x48) (lv' := [(3, .int x48), (0, .ref (α 54)), (1, .int v1), (2, .int x46)]) hx hb dX11_goTick_143 hl (k := 3) rfl (by rw [ex48]; rfl) (by decide) rfl (fun ls hl => ?_)
        refine lv_goto (tgt := 85) hx hb dX11_goTick_146 (by decide) ?_
        exact ih _ _ _ _ _ _  hR hS (lv_sub hl [1, 2, 3, 0] rfl) h
      clear eJ143
      refine lv_icmp_ne (tgt := 143) hx hb dX11_goTick_100 (by decide) (fun c49 => ?_) (fun c49 => ?_)
      · have h := ite_f c49 h
        exact hJ143 _ _ _ _ _  hR hS hl h
      · have h := ite_t c49 h
        refine lv_aload_n hx hb dX11_goTick_103 rfl (lv_at hl 0 rfl) ?_
        refine lv_iload_n hx hb dX11_goTick_104 rfl (lv_at hl 1 rfl) ?_
        refine lv_iload_n hx hb dX11_goTick_105 rfl (lv_at hl 3 rfl) ?_
        obtain ⟨r50, S51, hr50, h⟩ := bd_e h
        refine g_ci hS (g_runV C hR hS (k := 54) (As := [.int v1, .int v3]) (rest := []) (c_X11_isNear l  hr50) (live_st (by decide)) rfl (vw11) m_X11_isNear q1283 ⟨rfl, rfl⟩ ⟨Nat.le_of_ble_eq_true rfl, Nat.le_of_ble_eq_true rfl⟩ rfl hl.1 rfl (Nat.le_of_ble_eq_true rfl) dX11_goTick_106 ⟨Nat.zero_le _, Nat.zero_le _⟩) (fun H locs hR hS => ?_)
        refine lv_if_eq (tgt := 143) hx hb dX11_goTick_109 (by decide) (fun c52 => ?_) (fun c52 => ?_)
        · have h := ite_t c52 h
          exact hJ143 _ _ _ _ _  hR hS hl h
        · have h := ite_f c52 h
          refine lv_iconst (v := 0) hx hb dX11_goTick_112 (by decide) ?_
          refine lv_istore_n (lv' := [(2, .int (0 : Int32)), (0, .ref (α 54)), (1, .int v1), (3, .int v3)]) hx hb dX11_goTick_113 rfl hl (by decide) rfl (fun ls hl => ?_)
          refine lv_aload_n hx hb dX11_goTick_114 rfl (lv_at hl 1 rfl) ?_
          refine g_getr (t := 84) C hR (k := 54) (j := 42) (live_st (by decide)) rfl rfl (vw11) inl11 (by decide) q985 dX11_goTick_115 ?_
          refine lv_iload_n hx hb dX11_goTick_118 rfl (lv_at hl 3 rfl) ?_
          refine lv_aload_n hx hb dX11_goTick_119 rfl (lv_at hl 1 rfl) ?_
          refine g_getr (t := 84) C hR (k := 54) (j := 42) (live_st (by decide)) rfl rfl (vw11) inl11 (by decide) q985 dX11_goTick_120 ?_
          refine lv_iload_n hx hb dX11_goTick_123 rfl (lv_at hl 3 rfl) ?_
          obtain ⟨g53, h⟩ := gd_e h
          refine g_zald C hR (k := 84) (n := 24) (live_st (by decide)) rfl g53 dX11_goTick_124 ?_
          obtain ⟨J142, eJ142, h⟩ := lt_e h
          have hJ142 : ∀ (t54 : Int32) (t55 : Int32) (S56 : St) (H : Heap) (locs : List Loc) (ls : Array Slot), Rp E α g S56 H → va_S E.2.2.1 s.heap H locs → lv_has ls 4 [(0, .ref (α 54)), (1, .int v1), (2, .int (0 : Int32)), (3, .int v3)] → J142 t54 t55 S56 = some z → W p l e rm_X11_goTick s m args below meth c H locs 0 0 (MQ below (Qv E α g z) args s 0 0 E.2.2.1) (F0 m 142 ls [.int t55, .int t54, .ref (α 84)]) := by
            intro t54 t55 S56 H locs ls  hR hS hl h
            rw [eJ142] at h
            obtain ⟨g58, h⟩ := gd_e h
            obtain ⟨g59, h⟩ := gd_e h
            obtain ⟨S57, eS57, h⟩ := lt_e h
            refine g_zast C hR hS (k := 84) (n := 24) (live_st (by decide)) rfl g58 g59 eS57 dX11_goTick_142 (fun H locs hR hS => ?_)
            exact hJ143 _ _ _ _ _  hR hS hl h
          clear eJ142
          obtain ⟨J137, eJ137, h⟩ := lt_e h
          have hJ137 : ∀ (t60 : Int32) (S61 : St) (H : Heap) (locs : List Loc) (ls : Array Slot), Rp E α g S61 H → va_S E.2.2.1 s.heap H locs → lv_has ls 4 [(0, .ref (α 54)), (1, .int v1), (2, .int (0 : Int32)), (3, .int v3)] → J137 t60 S61 = some z → W p l e rm_X11_goTick s m args below meth c H locs 0 0 (MQ below (Qv E α g z) args s 0 0 E.2.2.1) (F0 m 137 ls [.int t60, .ref (α 84)]) := by
            intro t60 S61 H locs ls  hR hS hl h
            rw [eJ137] at h
            refine lv_iconst (v := 1) hx hb dX11_goTick_137 (by decide) ?_
            refine lv_goto (tgt := 142) hx hb dX11_goTick_138 (by decide) ?_
            exact hJ142 _ _ _ _ _ _  hR hS hl h
          clear eJ137
          refine lv_if_ne (tgt := 137) hx hb dX11_goTick_125 (by decide) (fun c62 => ?_) (fun c62 => ?_)
          · have h := ite_f c62 h
            exact hJ137 _ _ _ _ _  hR hS (lv_sub hl [1, 2, 0, 3] rfl) h
          · have h := ite_t c62 h
            refine lv_aload_n hx hb dX11_goTick_128 rfl (lv_at hl 1 rfl) ?_
            refine g_getr (t := 80) C hR (k := 54) (j := 38) (live_st (by decide)) rfl rfl (vw11) inl11 (by decide) q981 dX11_goTick_129 ?_
            refine lv_iload_n hx hb dX11_goTick_132 rfl (lv_at hl 3 rfl) ?_
            obtain ⟨g63, h⟩ := gd_e h
            refine g_zald C hR (k := 80) (n := 24) (live_st (by decide)) rfl g63 dX11_goTick_133 ?_
            refine lv_if_ne (tgt := 141) hx hb dX11_goTick_134 (by decide) (fun c64 => ?_) (fun c64 => ?_)
            · have h := ite_f c64 h
              refine lv_iconst (v := 0) hx hb dX11_goTick_141 (by decide) ?_
              exact hJ142 _ _ _ _ _ _  hR hS (lv_sub hl [1, 2, 0, 3] rfl) h
            · have h := ite_t c64 h
              exact hJ137 _ _ _ _ _  hR hS (lv_sub hl [1, 2, 0, 3] rfl) h

set_option maxHeartbeats 4000000 in
set_option maxRecDepth 100000 in
theorem w_X11_goTick_L56 {p : Program} {l : Launch} {e : Env} {s : State} {m : MethodId} {args : Array Value} {below : List Frame} {meth : Method} {c : Code} {E : En} {α : Nat → Nat} {g : Nat × Nat} (C : Cx p s m args meth c RX11 cX11_goTick 4 none E) {z : Unit × St} {K164 : St → Option (Unit × St)}
    (hK164 : ∀ (S : St) (H : Heap) (locs : List Loc) (ls : Array Slot), Rp E α g S H → va_S E.2.2.1 s.heap H locs → lv_has ls 4 [(0, .ref (α 54))] → K164  S = some z → W p l e rm_X11_goTick s m args below meth c H locs 0 0 (MQ below (Qv E α g z) args s 0 0 E.2.2.1) (F0 m 164 ls [])) :
    ∀ (f : Nat) (v1 : Int32) (S : St) (H : Heap) (locs : List Loc) (ls : Array Slot), Rp E α g S H → va_S E.2.2.1 s.heap H locs → lv_has ls 4 [(0, .ref (α 54)), (1, .int v1)] → f_X11_goTick_L56 K164 f v1 S = some z → W p l e rm_X11_goTick s m args below meth c H locs 0 0 (MQ below (Qv E α g z) args s 0 0 E.2.2.1) (F0 m 56 ls []) := by
  obtain ⟨hx, hb, hml, hown, hts, hlk, hrt, hKs⟩ := id C
  intro f
  induction f with
  | zero =>
    intro v1 S H locs ls  hR hS hl h
    rw [f_X11_goTick_L56] at h
    cases h
  | succ f ih =>
    intro v1 S H locs ls  hR hS hl h
    rw [f_X11_goTick_L56] at h
    refine lv_iload_n hx hb dX11_goTick_56 rfl (lv_at hl 1 rfl) ?_
    refine lv_aload_n hx hb dX11_goTick_57 rfl (lv_at hl 0 rfl) ?_
    refine g_geti C hR (k := 54) (j := 32) (live_st (by decide)) rfl rfl (vw11) inl11 (by decide) q975 dX11_goTick_58 ?_
    refine lv_icmp_ge (tgt := 164) hx hb dX11_goTick_61 (by decide) (fun c36 => ?_) (fun c36 => ?_)
    · have h := ite_t c36 h
      exact hK164  _ _ _ _  hR hS (lv_sub hl [0] rfl) h
    · have h := ite_f c36 h
      refine lv_aload_n hx hb dX11_goTick_64 rfl (lv_at hl 0 rfl) ?_
      refine g_getr (t := 80) C hR (k := 54) (j := 38) (live_st (by decide)) rfl rfl (vw11) inl11 (by decide) q981 dX11_goTick_65 ?_
      refine lv_iload_n hx hb dX11_goTick_68 rfl (lv_at hl 1 rfl) ?_
      obtain ⟨g37, h⟩ := gd_e h
      refine g_zald C hR (k := 80) (n := 24) (live_st (by decide)) rfl g37 dX11_goTick_69 ?_
      obtain ⟨J158, eJ158, h⟩ := lt_e h
      have hJ158 : ∀ (S38 : St) (H : Heap) (locs : List Loc) (ls : Array Slot), Rp E α g S38 H → va_S E.2.2.1 s.heap H locs → lv_has ls 4 [(0, .ref (α 54)), (1, .int v1)] → J158  S38 = some z → W p l e rm_X11_goTick s m args below meth c H locs 0 0 (MQ below (Qv E α g z) args s 0 0 E.2.2.1) (F0 m 158 ls []) := by
        intro  S38 H locs ls  hR hS hl h
        rw [eJ158] at h
        obtain ⟨x39, ex39, h⟩ := lt_e h
        refine lv_iinc (v := x39) (lv' := [(1, .int x39), (0, .ref (α 54))]) hx hb dX11_goTick_158 hl (k := 1) rfl (by rw [ex39]; rfl) (by decide) rfl (fun ls hl => ?_)
        refine lv_goto (tgt := 56) hx hb dX11_goTick_161 (by decide) ?_
        exact ih _ _ _ _ _  hR hS (lv_sub hl [1, 0] rfl) h
      clear eJ158
      refine lv_if_eq (tgt := 158) hx hb dX11_goTick_70 (by decide) (fun c40 => ?_) (fun c40 => ?_)
      · have h := ite_t c40 h
        exact hJ158  _ _ _ _  hR hS hl h
      · have h := ite_f c40 h
        refine lv_aload_n hx hb dX11_goTick_73 rfl (lv_at hl 0 rfl) ?_
        refine lv_iload_n hx hb dX11_goTick_74 rfl (lv_at hl 1 rfl) ?_
        obtain ⟨r41, S42, hr41, h⟩ := bd_e h
        refine g_ci hS (g_runV C hR hS (k := 54) (As := [.int v1]) (rest := []) (c_X11_isWaiting l  hr41) (live_st (by decide)) rfl (vw11) m_X11_isWaiting q1279 ⟨rfl, rfl⟩ ⟨Nat.le_of_ble_eq_true rfl, Nat.le_of_ble_eq_true rfl⟩ rfl hl.1 rfl (Nat.le_of_ble_eq_true rfl) dX11_goTick_75 ⟨Nat.zero_le _, Nat.zero_le _⟩) (fun H locs hR hS => ?_)
        refine lv_if_eq (tgt := 158) hx hb dX11_goTick_78 (by decide) (fun c43 => ?_) (fun c43 => ?_)
        · have h := ite_t c43 h
          exact hJ158  _ _ _ _  hR hS hl h
        · have h := ite_f c43 h
          refine lv_iconst (v := 1) hx hb dX11_goTick_81 (by decide) ?_
          refine lv_istore_n (lv' := [(2, .int (1 : Int32)), (0, .ref (α 54)), (1, .int v1)]) hx hb dX11_goTick_82 rfl hl (by decide) rfl (fun ls hl => ?_)
          refine lv_iconst (v := 0) hx hb dX11_goTick_83 (by decide) ?_
          refine lv_istore_n (lv' := [(3, .int (0 : Int32)), (2, .int (1 : Int32)), (0, .ref (α 54)), (1, .int v1)]) hx hb dX11_goTick_84 rfl hl (by decide) rfl (fun ls hl => ?_)
          refine w_X11_goTick_L85 C ?_  _ _ _ _ _ _ _  hR hS (lv_sub hl [2, 3, 1, 0] rfl) h
          · intro x65 S66 H locs ls  hR hS hl h
            refine lv_iload_n hx hb dX11_goTick_149 rfl (lv_at hl 2 rfl) ?_
            refine lv_if_eq (tgt := 158) hx hb dX11_goTick_150 (by decide) (fun c67 => ?_) (fun c67 => ?_)
            · have h := ite_t c67 h
              exact hJ158  _ _ _ _  hR hS (lv_sub hl [0, 1] rfl) h
            · have h := ite_f c67 h
              refine lv_aload_n hx hb dX11_goTick_153 rfl (lv_at hl 0 rfl) ?_
              refine lv_iload_n hx hb dX11_goTick_154 rfl (lv_at hl 1 rfl) ?_
              obtain ⟨r68, S69, hr68, h⟩ := bd_e h
              refine g_cv hS (g_runV C hR hS (k := 54) (As := [.int v1]) (rest := []) (c_X11_start l  hr68) (live_st (by decide)) rfl (vw11) m_X11_start q1287 ⟨rfl, rfl⟩ ⟨Nat.le_of_ble_eq_true rfl, Nat.le_of_ble_eq_true rfl⟩ rfl hl.1 rfl (Nat.le_of_ble_eq_true rfl) dX11_goTick_155 ⟨Nat.zero_le _, Nat.zero_le _⟩) (fun H locs hR hS => ?_)
              exact hJ158  _ _ _ _  hR hS (lv_sub hl [0, 1] rfl) h

set_option maxHeartbeats 4000000 in
set_option maxRecDepth 100000 in
theorem w_X11_goTick_L195 {p : Program} {l : Launch} {e : Env} {s : State} {m : MethodId} {args : Array Value} {below : List Frame} {meth : Method} {c : Code} {E : En} {α : Nat → Nat} {g : Nat × Nat} (C : Cx p s m args meth c RX11 cX11_goTick 4 none E) {z : Unit × St} {K255 : Int32 → St → Option (Unit × St)} {v1 : Int32}
    (hK255 : ∀ (y2 : Int32) (S : St) (H : Heap) (locs : List Loc) (ls : Array Slot), Rp E α g S H → va_S E.2.2.1 s.heap H locs → lv_has ls 4 [(0, .ref (α 54)), (1, .int v1), (2, .int y2)] → K255 y2 S = some z → W p l e rm_X11_goTick s m args below meth c H locs 0 0 (MQ below (Qv E α g z) args s 0 0 E.2.2.1) (F0 m 255 ls [])) :
    ∀ (f : Nat) (v2 : Int32) (v3 : Int32) (S : St) (H : Heap) (locs : List Loc) (ls : Array Slot), Rp E α g S H → va_S E.2.2.1 s.heap H locs → lv_has ls 4 [(0, .ref (α 54)), (1, .int v1), (2, .int v2), (3, .int v3)] → f_X11_goTick_L195 K255 v1 f v2 v3 S = some z → W p l e rm_X11_goTick s m args below meth c H locs 0 0 (MQ below (Qv E α g z) args s 0 0 E.2.2.1) (F0 m 195 ls []) := by
  obtain ⟨hx, hb, hml, hown, hts, hlk, hrt, hKs⟩ := id C
  intro f
  induction f with
  | zero =>
    intro v2 v3 S H locs ls  hR hS hl h
    rw [f_X11_goTick_L195] at h
    cases h
  | succ f ih =>
    intro v2 v3 S H locs ls  hR hS hl h
    rw [f_X11_goTick_L195] at h
    refine lv_iload_n hx hb dX11_goTick_195 rfl (lv_at hl 3 rfl) ?_
    refine lv_aload_n hx hb dX11_goTick_196 rfl (lv_at hl 0 rfl) ?_
    refine g_geti C hR (k := 54) (j := 32) (live_st (by decide)) rfl rfl (vw11) inl11 (by decide) q975 dX11_goTick_197 ?_
    refine lv_icmp_ge (tgt := 255) hx hb dX11_goTick_200 (by decide) (fun c79 => ?_) (fun c79 => ?_)
    · have h := ite_t c79 h
      exact hK255 _ _ _ _ _  hR hS (lv_sub hl [0, 1, 2] rfl) h
    · have h := ite_f c79 h
      refine lv_iload_n hx hb dX11_goTick_203 rfl (lv_at hl 2 rfl) ?_
      obtain ⟨J248, eJ248, h⟩ := lt_e h
      have hJ248 : ∀ (t80 : Int32) (S81 : St) (H : Heap) (locs : List Loc) (ls : Array Slot), Rp E α g S81 H → va_S E.2.2.1 s.heap H locs → lv_has ls 4 [(0, .ref (α 54)), (1, .int v1), (3, .int v3)] → J248 t80 S81 = some z → W p l e rm_X11_goTick s m args below meth c H locs 0 0 (MQ below (Qv E α g z) args s 0 0 E.2.2.1) (F0 m 248 ls [.int t80]) := by
        intro t80 S81 H locs ls  hR hS hl h
        rw [eJ248] at h
        refine lv_istore_n (lv' := [(2, .int t80), (0, .ref (α 54)), (1, .int v1), (3, .int v3)]) hx hb dX11_goTick_248 rfl hl (by decide) rfl (fun ls hl => ?_)
        obtain ⟨x82, ex82, h⟩ := lt_e h
        refine lv_iinc (v := x82) (lv' := [(3, .int x82), (2, .int t80), (0, .ref (α 54)), (1, .int v1)]) hx hb dX11_goTick_249 hl (k := 3) rfl (by rw [ex82]; rfl) (by decide) rfl (fun ls hl => ?_)
        refine lv_goto (tgt := 195) hx hb dX11_goTick_252 (by decide) ?_
        exact ih _ _ _ _ _ _  hR hS (lv_sub hl [2, 3, 1, 0] rfl) h
      clear eJ248
      obtain ⟨J247, eJ247, h⟩ := lt_e h
      have hJ247 : ∀ (S83 : St) (H : Heap) (locs : List Loc) (ls : Array Slot), Rp E α g S83 H → va_S E.2.2.1 s.heap H locs → lv_has ls 4 [(0, .ref (α 54)), (1, .int v1), (3, .int v3)] → J247  S83 = some z → W p l e rm_X11_goTick s m args below meth c H locs 0 0 (MQ below (Qv E α g z) args s 0 0 E.2.2.1) (F0 m 247 ls []) := by
        intro  S83 H locs ls  hR hS hl h
        rw [eJ247] at h
        refine lv_iconst (v := 0) hx hb dX11_goTick_247 (by decide) ?_
        exact hJ248 _ _ _ _ _  hR hS hl h
      clear eJ247
      refine lv_if_eq (tgt := 247) hx hb dX11_goTick_204 (by decide) (fun c84 => ?_) (fun c84 => ?_)
      · have h := ite_t c84 h
        exact hJ247  _ _ _ _  hR hS (lv_sub hl [0, 1, 3] rfl) h
      · have h := ite_f c84 h
        refine lv_aload_n hx hb dX11_goTick_207 rfl (lv_at hl 0 rfl) ?_
        refine lv_iload_n hx hb dX11_goTick_208 rfl (lv_at hl 1 rfl) ?_
        refine lv_iload_n hx hb dX11_goTick_209 rfl (lv_at hl 3 rfl) ?_
        obtain ⟨r85, S86, hr85, h⟩ := bd_e h
        refine g_ci hS (g_runV C hR hS (k := 54) (As := [.int v1, .int v3]) (rest := []) (c_X11_isNear l  hr85) (live_st (by decide)) rfl (vw11) m_X11_isNear q1283 ⟨rfl, rfl⟩ ⟨Nat.le_of_ble_eq_true rfl, Nat.le_of_ble_eq_true rfl⟩ rfl hl.1 rfl (Nat.le_of_ble_eq_true rfl) dX11_goTick_210 ⟨Nat.zero_le _, Nat.zero_le _⟩) (fun H locs hR hS => ?_)
        obtain ⟨J243, eJ243, h⟩ := lt_e h
        have hJ243 : ∀ (S87 : St) (H : Heap) (locs : List Loc) (ls : Array Slot), Rp E α g S87 H → va_S E.2.2.1 s.heap H locs → lv_has ls 4 [(0, .ref (α 54)), (1, .int v1), (3, .int v3)] → J243  S87 = some z → W p l e rm_X11_goTick s m args below meth c H locs 0 0 (MQ below (Qv E α g z) args s 0 0 E.2.2.1) (F0 m 243 ls []) := by
          intro  S87 H locs ls  hR hS hl h
          rw [eJ243] at h
          refine lv_iconst (v := 1) hx hb dX11_goTick_243 (by decide) ?_
          refine lv_goto (tgt := 248) hx hb dX11_goTick_244 (by decide) ?_
          exact hJ248 _ _ _ _ _  hR hS hl h
        clear eJ243
        refine lv_if_eq (tgt := 243) hx hb dX11_goTick_213 (by decide) (fun c88 => ?_) (fun c88 => ?_)
        · have h := ite_t c88 h
          exact hJ243  _ _ _ _  hR hS (lv_sub hl [0, 1, 3] rfl) h
        · have h := ite_f c88 h
          refine lv_aload_n hx hb dX11_goTick_216 rfl (lv_at hl 0 rfl) ?_
          refine g_getr (t := 81) C hR (k := 54) (j := 39) (live_st (by decide)) rfl rfl (vw11) inl11 (by decide) q982 dX11_goTick_217 ?_
          refine lv_iload_n hx hb dX11_goTick_220 rfl (lv_at hl 3 rfl) ?_
          obtain ⟨g89, h⟩ := gd_e h
          refine g_iald C hR (k := 81) (n := 24) (live_st (by decide)) rfl g89 dX11_goTick_221 ?_
          refine lv_iconst (v := 1) hx hb dX11_goTick_222 (by decide) ?_
          refine lv_icmp_eq (tgt := 247) hx hb dX11_goTick_223 (by decide) (fun c90 => ?_) (fun c90 => ?_)
          · have h := ite_t c90 h
            exact hJ247  _ _ _ _  hR hS (lv_sub hl [0, 1, 3] rfl) h
          · have h := ite_f c90 h
            refine lv_aload_n hx hb dX11_goTick_226 rfl (lv_at hl 0 rfl) ?_
            refine g_getr (t := 80) C hR (k := 54) (j := 38) (live_st (by decide)) rfl rfl (vw11) inl11 (by decide) q981 dX11_goTick_227 ?_
            refine lv_iload_n hx hb dX11_goTick_230 rfl (lv_at hl 3 rfl) ?_
            obtain ⟨g91, h⟩ := gd_e h
            refine g_zald C hR (k := 80) (n := 24) (live_st (by decide)) rfl g91 dX11_goTick_231 ?_
            refine lv_if_eq (tgt := 243) hx hb dX11_goTick_232 (by decide) (fun c92 => ?_) (fun c92 => ?_)
            · have h := ite_t c92 h
              exact hJ243  _ _ _ _  hR hS (lv_sub hl [0, 1, 3] rfl) h
            · have h := ite_f c92 h
              refine lv_aload_n hx hb dX11_goTick_235 rfl (lv_at hl 0 rfl) ?_
              refine lv_iload_n hx hb dX11_goTick_236 rfl (lv_at hl 3 rfl) ?_
              obtain ⟨r93, S94, hr93, h⟩ := bd_e h
              refine g_ci hS (g_runV C hR hS (k := 54) (As := [.int v3]) (rest := []) (c_X11_isWaiting l  hr93) (live_st (by decide)) rfl (vw11) m_X11_isWaiting q1279 ⟨rfl, rfl⟩ ⟨Nat.le_of_ble_eq_true rfl, Nat.le_of_ble_eq_true rfl⟩ rfl hl.1 rfl (Nat.le_of_ble_eq_true rfl) dX11_goTick_237 ⟨Nat.zero_le _, Nat.zero_le _⟩) (fun H locs hR hS => ?_)
              refine lv_if_ne (tgt := 247) hx hb dX11_goTick_240 (by decide) (fun c95 => ?_) (fun c95 => ?_)
              · have h := ite_f c95 h
                exact hJ247  _ _ _ _  hR hS (lv_sub hl [0, 1, 3] rfl) h
              · have h := ite_t c95 h
                exact hJ243  _ _ _ _  hR hS (lv_sub hl [0, 1, 3] rfl) h

set_option maxHeartbeats 4000000 in
set_option maxRecDepth 100000 in
theorem w_X11_goTick_L166 {p : Program} {l : Launch} {e : Env} {s : State} {m : MethodId} {args : Array Value} {below : List Frame} {meth : Method} {c : Code} {E : En} {α : Nat → Nat} {g : Nat × Nat} (C : Cx p s m args meth c RX11 cX11_goTick 4 none E) {z : Unit × St} {K270 : St → Option (Unit × St)}
    (hK270 : ∀ (S : St) (H : Heap) (locs : List Loc) (ls : Array Slot), Rp E α g S H → va_S E.2.2.1 s.heap H locs → lv_has ls 4 [(0, .ref (α 54))] → K270  S = some z → W p l e rm_X11_goTick s m args below meth c H locs 0 0 (MQ below (Qv E α g z) args s 0 0 E.2.2.1) (F0 m 270 ls [])) :
    ∀ (f : Nat) (v1 : Int32) (S : St) (H : Heap) (locs : List Loc) (ls : Array Slot), Rp E α g S H → va_S E.2.2.1 s.heap H locs → lv_has ls 4 [(0, .ref (α 54)), (1, .int v1)] → f_X11_goTick_L166 K270 f v1 S = some z → W p l e rm_X11_goTick s m args below meth c H locs 0 0 (MQ below (Qv E α g z) args s 0 0 E.2.2.1) (F0 m 166 ls []) := by
  obtain ⟨hx, hb, hml, hown, hts, hlk, hrt, hKs⟩ := id C
  intro f
  induction f with
  | zero =>
    intro v1 S H locs ls  hR hS hl h
    rw [f_X11_goTick_L166] at h
    cases h
  | succ f ih =>
    intro v1 S H locs ls  hR hS hl h
    rw [f_X11_goTick_L166] at h
    refine lv_iload_n hx hb dX11_goTick_166 rfl (lv_at hl 1 rfl) ?_
    refine lv_aload_n hx hb dX11_goTick_167 rfl (lv_at hl 0 rfl) ?_
    refine g_geti C hR (k := 54) (j := 32) (live_st (by decide)) rfl rfl (vw11) inl11 (by decide) q975 dX11_goTick_168 ?_
    refine lv_icmp_ge (tgt := 270) hx hb dX11_goTick_171 (by decide) (fun c71 => ?_) (fun c71 => ?_)
    · have h := ite_t c71 h
      exact hK270  _ _ _ _  hR hS (lv_sub hl [0] rfl) h
    · have h := ite_f c71 h
      refine lv_aload_n hx hb dX11_goTick_174 rfl (lv_at hl 0 rfl) ?_
      refine g_getr (t := 80) C hR (k := 54) (j := 38) (live_st (by decide)) rfl rfl (vw11) inl11 (by decide) q981 dX11_goTick_175 ?_
      refine lv_iload_n hx hb dX11_goTick_178 rfl (lv_at hl 1 rfl) ?_
      obtain ⟨g72, h⟩ := gd_e h
      refine g_zald C hR (k := 80) (n := 24) (live_st (by decide)) rfl g72 dX11_goTick_179 ?_
      obtain ⟨J264, eJ264, h⟩ := lt_e h
      have hJ264 : ∀ (S73 : St) (H : Heap) (locs : List Loc) (ls : Array Slot), Rp E α g S73 H → va_S E.2.2.1 s.heap H locs → lv_has ls 4 [(0, .ref (α 54)), (1, .int v1)] → J264  S73 = some z → W p l e rm_X11_goTick s m args below meth c H locs 0 0 (MQ below (Qv E α g z) args s 0 0 E.2.2.1) (F0 m 264 ls []) := by
        intro  S73 H locs ls  hR hS hl h
        rw [eJ264] at h
        obtain ⟨x74, ex74, h⟩ := lt_e h
        refine lv_iinc (v := x74) (lv' := [(1, .int x74), (0, .ref (α 54))]) hx hb dX11_goTick_264 hl (k := 1) rfl (by rw [ex74]; rfl) (by decide) rfl (fun ls hl => ?_)
        refine lv_goto (tgt := 166) hx hb dX11_goTick_267 (by decide) ?_
        exact ih _ _ _ _ _  hR hS (lv_sub hl [1, 0] rfl) h
      clear eJ264
      refine lv_if_ne (tgt := 264) hx hb dX11_goTick_180 (by decide) (fun c75 => ?_) (fun c75 => ?_)
      · have h := ite_f c75 h
        exact hJ264  _ _ _ _  hR hS hl h
      · have h := ite_t c75 h
        refine lv_aload_n hx hb dX11_goTick_183 rfl (lv_at hl 0 rfl) ?_
        refine lv_iload_n hx hb dX11_goTick_184 rfl (lv_at hl 1 rfl) ?_
        obtain ⟨r76, S77, hr76, h⟩ := bd_e h
        refine g_ci hS (g_runV C hR hS (k := 54) (As := [.int v1]) (rest := []) (c_X11_isWaiting l  hr76) (live_st (by decide)) rfl (vw11) m_X11_isWaiting q1279 ⟨rfl, rfl⟩ ⟨Nat.le_of_ble_eq_true rfl, Nat.le_of_ble_eq_true rfl⟩ rfl hl.1 rfl (Nat.le_of_ble_eq_true rfl) dX11_goTick_185 ⟨Nat.zero_le _, Nat.zero_le _⟩) (fun H locs hR hS => ?_)
        refine lv_if_eq (tgt := 264) hx hb dX11_goTick_188 (by decide) (fun c78 => ?_) (fun c78 => ?_)
        · have h := ite_t c78 h
          exact hJ264  _ _ _ _  hR hS hl h
        · have h := ite_f c78 h
          refine lv_iconst (v := 1) hx hb dX11_goTick_191 (by decide) ?_
          refine lv_istore_n (lv' := [(2, .int (1 : Int32)), (0, .ref (α 54)), (1, .int v1)]) hx hb dX11_goTick_192 rfl hl (by decide) rfl (fun ls hl => ?_)
          refine lv_iconst (v := 0) hx hb dX11_goTick_193 (by decide) ?_
          refine lv_istore_n (lv' := [(3, .int (0 : Int32)), (2, .int (1 : Int32)), (0, .ref (α 54)), (1, .int v1)]) hx hb dX11_goTick_194 rfl hl (by decide) rfl (fun ls hl => ?_)
          refine w_X11_goTick_L195 C ?_  _ _ _ _ _ _ _  hR hS (lv_sub hl [2, 3, 1, 0] rfl) h
          · intro x96 S97 H locs ls  hR hS hl h
            refine lv_iload_n hx hb dX11_goTick_255 rfl (lv_at hl 2 rfl) ?_
            refine lv_if_eq (tgt := 264) hx hb dX11_goTick_256 (by decide) (fun c98 => ?_) (fun c98 => ?_)
            · have h := ite_t c98 h
              exact hJ264  _ _ _ _  hR hS (lv_sub hl [0, 1] rfl) h
            · have h := ite_f c98 h
              refine lv_aload_n hx hb dX11_goTick_259 rfl (lv_at hl 0 rfl) ?_
              refine lv_iload_n hx hb dX11_goTick_260 rfl (lv_at hl 1 rfl) ?_
              obtain ⟨r99, S100, hr99, h⟩ := bd_e h
              refine g_cv hS (g_runV C hR hS (k := 54) (As := [.int v1]) (rest := []) (c_X11_start l  hr99) (live_st (by decide)) rfl (vw11) m_X11_start q1287 ⟨rfl, rfl⟩ ⟨Nat.le_of_ble_eq_true rfl, Nat.le_of_ble_eq_true rfl⟩ rfl hl.1 rfl (Nat.le_of_ble_eq_true rfl) dX11_goTick_261 ⟨Nat.zero_le _, Nat.zero_le _⟩) (fun H locs hR hS => ?_)
              exact hJ264  _ _ _ _  hR hS (lv_sub hl [0, 1] rfl) h

set_option maxHeartbeats 4000000 in
set_option maxRecDepth 100000 in
theorem w_X11_goTick_L272 {p : Program} {l : Launch} {e : Env} {s : State} {m : MethodId} {args : Array Value} {below : List Frame} {meth : Method} {c : Code} {E : En} {α : Nat → Nat} {g : Nat × Nat} (C : Cx p s m args meth c RX11 cX11_goTick 4 none E) {z : Unit × St} {K301 : St → Option (Unit × St)}
    (hK301 : ∀ (S : St) (H : Heap) (locs : List Loc) (ls : Array Slot), Rp E α g S H → va_S E.2.2.1 s.heap H locs → lv_has ls 4 [(0, .ref (α 54))] → K301  S = some z → W p l e rm_X11_goTick s m args below meth c H locs 0 0 (MQ below (Qv E α g z) args s 0 0 E.2.2.1) (F0 m 301 ls [])) :
    ∀ (f : Nat) (v1 : Int32) (S : St) (H : Heap) (locs : List Loc) (ls : Array Slot), Rp E α g S H → va_S E.2.2.1 s.heap H locs → lv_has ls 4 [(0, .ref (α 54)), (1, .int v1)] → f_X11_goTick_L272 K301 f v1 S = some z → W p l e rm_X11_goTick s m args below meth c H locs 0 0 (MQ below (Qv E α g z) args s 0 0 E.2.2.1) (F0 m 272 ls []) := by
  obtain ⟨hx, hb, hml, hown, hts, hlk, hrt, hKs⟩ := id C
  intro f
  induction f with
  | zero =>
    intro v1 S H locs ls  hR hS hl h
    rw [f_X11_goTick_L272] at h
    cases h
  | succ f ih =>
    intro v1 S H locs ls  hR hS hl h
    rw [f_X11_goTick_L272] at h
    refine lv_iload_n hx hb dX11_goTick_272 rfl (lv_at hl 1 rfl) ?_
    refine lv_aload_n hx hb dX11_goTick_273 rfl (lv_at hl 0 rfl) ?_
    refine g_geti C hR (k := 54) (j := 32) (live_st (by decide)) rfl rfl (vw11) inl11 (by decide) q975 dX11_goTick_274 ?_
    refine lv_icmp_ge (tgt := 301) hx hb dX11_goTick_277 (by decide) (fun c102 => ?_) (fun c102 => ?_)
    · have h := ite_t c102 h
      exact hK301  _ _ _ _  hR hS (lv_sub hl [0] rfl) h
    · have h := ite_f c102 h
      refine lv_aload_n hx hb dX11_goTick_280 rfl (lv_at hl 0 rfl) ?_
      refine g_getr (t := 81) C hR (k := 54) (j := 39) (live_st (by decide)) rfl rfl (vw11) inl11 (by decide) q982 dX11_goTick_281 ?_
      refine lv_iload_n hx hb dX11_goTick_284 rfl (lv_at hl 1 rfl) ?_
      obtain ⟨g103, h⟩ := gd_e h
      refine g_iald C hR (k := 81) (n := 24) (live_st (by decide)) rfl g103 dX11_goTick_285 ?_
      refine lv_iconst (v := 1) hx hb dX11_goTick_286 (by decide) ?_
      obtain ⟨J295, eJ295, h⟩ := lt_e h
      have hJ295 : ∀ (S104 : St) (H : Heap) (locs : List Loc) (ls : Array Slot), Rp E α g S104 H → va_S E.2.2.1 s.heap H locs → lv_has ls 4 [(0, .ref (α 54)), (1, .int v1)] → J295  S104 = some z → W p l e rm_X11_goTick s m args below meth c H locs 0 0 (MQ below (Qv E α g z) args s 0 0 E.2.2.1) (F0 m 295 ls []) := by
        intro  S104 H locs ls  hR hS hl h
        rw [eJ295] at h
        obtain ⟨x105, ex105, h⟩ := lt_e h
        refine lv_iinc (v := x105) (lv' := [(1, .int x105), (0, .ref (α 54))]) hx hb dX11_goTick_295 hl (k := 1) rfl (by rw [ex105]; rfl) (by decide) rfl (fun ls hl => ?_)
        refine lv_goto (tgt := 272) hx hb dX11_goTick_298 (by decide) ?_
        exact ih _ _ _ _ _  hR hS (lv_sub hl [1, 0] rfl) h
      clear eJ295
      refine lv_icmp_ne (tgt := 295) hx hb dX11_goTick_287 (by decide) (fun c106 => ?_) (fun c106 => ?_)
      · have h := ite_f c106 h
        exact hJ295  _ _ _ _  hR hS hl h
      · have h := ite_t c106 h
        refine lv_aload_n hx hb dX11_goTick_290 rfl (lv_at hl 0 rfl) ?_
        refine lv_iload_n hx hb dX11_goTick_291 rfl (lv_at hl 1 rfl) ?_
        obtain ⟨r107, S108, hr107, h⟩ := bd_e h
        refine g_cv hS (g_runV C hR hS (k := 54) (As := [.int v1]) (rest := []) (c_X11_sayOne l  hr107) (live_st (by decide)) rfl (vw11) m_X11_sayOne q1291 ⟨rfl, rfl⟩ ⟨Nat.le_of_ble_eq_true rfl, Nat.le_of_ble_eq_true rfl⟩ rfl hl.1 rfl (Nat.le_of_ble_eq_true rfl) dX11_goTick_292 ⟨Nat.zero_le _, Nat.zero_le _⟩) (fun H locs hR hS => ?_)
        exact hJ295  _ _ _ _  hR hS hl h

set_option maxHeartbeats 4000000 in
set_option maxRecDepth 100000 in
theorem c_X11_goTick (l : Launch) {E : En} {α : Nat → Nat} {g : Nat × Nat}  {S : St}  {z : Unit × St} (h : f_X11_goTick  S = some z) : Met l yX11_goTick (wsY yX11_goTick cX11_goTick 4 none) rm_X11_goTick (va_Pc [.ref (α 54)] (Wd E α g S)) (Qv E α g z) 0 0 E.2.2.1 := by
  refine g_met [.ref (α 54)] (by decide) rfl (Nat.le_of_ble_eq_true rfl) ?_
  intro p e s m below meth c ls C hR hl
  generalize hae : ([.ref (α 54)] : List Value).toArray = args at C ⊢
  have hl : lv_has ls 4 [(0, .ref (α 54))] := hl
  obtain ⟨hx, hb, hml, hown, hts, hlk, hrt, hKs⟩ := id C
  have hS : va_S E.2.2.1 s.heap s.heap [] := va_S.rf
  unfold f_X11_goTick at h
  refine lv_iconst (v := 0) hx hb dX11_goTick_0 (by decide) ?_
  refine lv_istore_n (lv' := [(1, .int (0 : Int32)), (0, .ref (α 54))]) hx hb dX11_goTick_1 rfl hl (by decide) rfl (fun ls hl => ?_)
  refine w_X11_goTick_L2 C ?_  _ _ _ _ _ _  hR hS (lv_sub hl [1, 0] rfl) h
  · intro  S35 H locs ls  hR hS hl h
    refine lv_iconst (v := 0) hx hb dX11_goTick_54 (by decide) ?_
    refine lv_istore_n (lv' := [(1, .int (0 : Int32)), (0, .ref (α 54))]) hx hb dX11_goTick_55 rfl hl (by decide) rfl (fun ls hl => ?_)
    refine w_X11_goTick_L56 C ?_  _ _ _ _ _ _  hR hS (lv_sub hl [1, 0] rfl) h
    · intro  S70 H locs ls  hR hS hl h
      refine lv_iconst (v := 0) hx hb dX11_goTick_164 (by decide) ?_
      refine lv_istore_n (lv' := [(1, .int (0 : Int32)), (0, .ref (α 54))]) hx hb dX11_goTick_165 rfl hl (by decide) rfl (fun ls hl => ?_)
      refine w_X11_goTick_L166 C ?_  _ _ _ _ _ _  hR hS (lv_sub hl [1, 0] rfl) h
      · intro  S101 H locs ls  hR hS hl h
        refine lv_iconst (v := 0) hx hb dX11_goTick_270 (by decide) ?_
        refine lv_istore_n (lv' := [(1, .int (0 : Int32)), (0, .ref (α 54))]) hx hb dX11_goTick_271 rfl hl (by decide) rfl (fun ls hl => ?_)
        refine w_X11_goTick_L272 C ?_  _ _ _ _ _ _  hR hS (lv_sub hl [1, 0] rfl) h
        · intro  S109 H locs ls  hR hS hl h
          refine lv_aload_n hx hb dX11_goTick_301 rfl (lv_at hl 0 rfl) ?_
          refine lv_dup hx hb dX11_goTick_302 rfl ?_
          refine g_geti C hR (k := 54) (j := 31) (live_st (by decide)) rfl rfl (vw11) inl11 (by decide) q974 dX11_goTick_303 ?_
          refine lv_iconst (v := 1) hx hb dX11_goTick_306 (by decide) ?_
          refine lv_iadd hx hb dX11_goTick_307 ?_
          obtain ⟨S110, eS110, h⟩ := lt_e h
          refine g_puti C hR hS (k := 54) (j := 31) (live_st (by decide)) rfl rfl (vw11) inl11 (by decide) (ty0 := tyX11) tyX11_ok nmX11 q974 rfl rfl rfl eS110 dX11_goTick_308 (fun H locs hR hS => ?_)
          exact g_vret C hR hS h dX11_goTick_311

/-! OneVoiceModel.run(I)I -/
abbrev rm_X11_run : Room := { frames := 8, cells := 0, slots := 0, locals := 194 }
theorem m_X11_run : MV yX11_run RX11 cX11_run 3 (some .int) 1 := ⟨q1272, q1273, q77, q1274, by decide +kernel⟩
def f_X11_run_L27 (K42 : St → Option (Int32 × St)) (v1 : Int32) : Nat → Int32 → St → Option (Int32 × St)
  | 0, _, _ => none
  | f + 1, v2, S =>
    if v1 ≤ v2 then
      K42  S
    else
      bd_ (f_X11_goTick  S) fun r7 S8 =>
      lt_ (v2 + (1 : Int32)) fun x9 =>
      f_X11_run_L27 K42 v1 f x9 S8

def f_X11_run (v1 : Int32) (S : St) : Option (Int32 × St) :=
  bd_ (f_X11_in v1 (1 : Int32) (100 : Int32) S) fun r2 S3 =>
  if r2 = 0 then
    some ((-3 : Int32), S3)
  else
    if ((rd S3 54 31) + v1) ≤ (2000 : Int32) then
      f_X11_run_L27
        (fun  (S10 : St) =>
          some ((rd S10 54 31), S10))
        v1 FU (0 : Int32) S3
    else
      some ((-3 : Int32), S3)

set_option maxHeartbeats 4000000 in
set_option maxRecDepth 100000 in
theorem w_X11_run_L27 {p : Program} {l : Launch} {e : Env} {s : State} {m : MethodId} {args : Array Value} {below : List Frame} {meth : Method} {c : Code} {E : En} {α : Nat → Nat} {g : Nat × Nat} (C : Cx p s m args meth c RX11 cX11_run 3 (some .int) E) {z : Int32 × St} {K42 : St → Option (Int32 × St)} {v1 : Int32}
    (hK42 : ∀ (S : St) (H : Heap) (locs : List Loc) (ls : Array Slot), Rp E α g S H → va_S E.2.2.1 s.heap H locs → lv_has ls 3 [(0, .ref (α 54))] → K42  S = some z → W p l e rm_X11_run s m args below meth c H locs 0 0 (MQ below (Qi E α g z) args s 0 0 E.2.2.1) (F0 m 42 ls [])) :
    ∀ (f : Nat) (v2 : Int32) (S : St) (H : Heap) (locs : List Loc) (ls : Array Slot), Rp E α g S H → va_S E.2.2.1 s.heap H locs → lv_has ls 3 [(0, .ref (α 54)), (1, .int v1), (2, .int v2)] → f_X11_run_L27 K42 v1 f v2 S = some z → W p l e rm_X11_run s m args below meth c H locs 0 0 (MQ below (Qi E α g z) args s 0 0 E.2.2.1) (F0 m 27 ls []) := by
  obtain ⟨hx, hb, hml, hown, hts, hlk, hrt, hKs⟩ := id C
  intro f
  induction f with
  | zero =>
    intro v2 S H locs ls  hR hS hl h
    rw [f_X11_run_L27] at h
    cases h
  | succ f ih =>
    intro v2 S H locs ls  hR hS hl h
    rw [f_X11_run_L27] at h
    refine lv_iload_n hx hb dX11_run_27 rfl (lv_at hl 2 rfl) ?_
    refine lv_iload_n hx hb dX11_run_28 rfl (lv_at hl 1 rfl) ?_
    refine lv_icmp_ge (tgt := 42) hx hb dX11_run_29 (by decide) (fun c6 => ?_) (fun c6 => ?_)
    · have h := ite_t c6 h
      exact hK42  _ _ _ _  hR hS (lv_sub hl [0] rfl) h
    · have h := ite_f c6 h
      refine lv_aload_n hx hb dX11_run_32 rfl (lv_at hl 0 rfl) ?_
      obtain ⟨r7, S8, hr7, h⟩ := bd_e h
      refine g_cv hS (g_runV C hR hS (k := 54) (As := []) (rest := []) (c_X11_goTick l  hr7) (live_st (by decide)) rfl (vw11) m_X11_goTick q1275 ⟨rfl, rfl⟩ ⟨Nat.le_of_ble_eq_true rfl, Nat.le_of_ble_eq_true rfl⟩ rfl hl.1 rfl (Nat.le_of_ble_eq_true rfl) dX11_run_33 ⟨Nat.zero_le _, Nat.zero_le _⟩) (fun H locs hR hS => ?_)
      obtain ⟨x9, ex9, h⟩ := lt_e h
      refine lv_iinc (v := x9) (lv' := [(2, .int x9), (0, .ref (α 54)), (1, .int v1)]) hx hb dX11_run_36 hl (k := 2) rfl (by rw [ex9]; rfl) (by decide) rfl (fun ls hl => ?_)
      refine lv_goto (tgt := 27) hx hb dX11_run_39 (by decide) ?_
      exact ih _ _ _ _ _  hR hS (lv_sub hl [1, 2, 0] rfl) h

set_option maxHeartbeats 4000000 in
set_option maxRecDepth 100000 in
theorem c_X11_run (l : Launch) {E : En} {α : Nat → Nat} {g : Nat × Nat} {v1 : Int32} {S : St}  {z : Int32 × St} (h : f_X11_run v1 S = some z) : Met l yX11_run (wsY yX11_run cX11_run 3 (some .int)) rm_X11_run (va_Pc [.ref (α 54), .int v1] (Wd E α g S)) (Qi E α g z) 0 0 E.2.2.1 := by
  refine g_met [.ref (α 54), .int v1] (by decide) rfl (Nat.le_of_ble_eq_true rfl) ?_
  intro p e s m below meth c ls C hR hl
  generalize hae : ([.ref (α 54), .int v1] : List Value).toArray = args at C ⊢
  have hl : lv_has ls 3 [(0, .ref (α 54)), (1, .int v1)] := hl
  obtain ⟨hx, hb, hml, hown, hts, hlk, hrt, hKs⟩ := id C
  have hS : va_S E.2.2.1 s.heap s.heap [] := va_S.rf
  unfold f_X11_run at h
  refine lv_iload_n hx hb dX11_run_0 rfl (lv_at hl 1 rfl) ?_
  refine lv_iconst (v := 1) hx hb dX11_run_1 (by decide) ?_
  refine lv_bipush (v := 100) hx hb dX11_run_2 (by decide) ?_
  obtain ⟨r2, S3, hr2, h⟩ := bd_e h
  refine g_ci hS (g_runS C hR hS (As := [.int v1, .int (1 : Int32), .int (100 : Int32)]) (rest := []) (c_X11_in l  hr2) m_X11_in q1093 ⟨rfl, rfl⟩ ⟨Nat.le_of_ble_eq_true rfl, Nat.le_of_ble_eq_true rfl⟩ rfl hl.1 rfl (Nat.le_of_ble_eq_true rfl) dX11_run_4 ⟨Nat.zero_le _, Nat.zero_le _⟩) (fun H locs hR hS => ?_)
  refine lv_if_eq (tgt := 22) hx hb dX11_run_7 (by decide) (fun c4 => ?_) (fun c4 => ?_)
  · have h := ite_t c4 h
    refine lv_bipush (v := -3) hx hb dX11_run_22 (by decide) ?_
    exact g_iret C hR hS h dX11_run_24
  · have h := ite_f c4 h
    refine lv_aload_n hx hb dX11_run_10 rfl (lv_at hl 0 rfl) ?_
    refine g_geti C hR (k := 54) (j := 31) (live_st (by decide)) rfl rfl (vw11) inl11 (by decide) q974 dX11_run_11 ?_
    refine lv_iload_n hx hb dX11_run_14 rfl (lv_at hl 1 rfl) ?_
    refine lv_iadd hx hb dX11_run_15 ?_
    refine lv_sipush (v := 2000) hx hb dX11_run_16 (by decide) ?_
    refine lv_icmp_le (tgt := 25) hx hb dX11_run_19 (by decide) (fun c5 => ?_) (fun c5 => ?_)
    · have h := ite_t c5 h
      refine lv_iconst (v := 0) hx hb dX11_run_25 (by decide) ?_
      refine lv_istore_n (lv' := [(2, .int (0 : Int32)), (0, .ref (α 54)), (1, .int v1)]) hx hb dX11_run_26 rfl hl (by decide) rfl (fun ls hl => ?_)
      refine w_X11_run_L27 C ?_  _ _ _ _ _ _  hR hS (lv_sub hl [1, 2, 0] rfl) h
      · intro  S10 H locs ls  hR hS hl h
        refine lv_aload_n hx hb dX11_run_42 rfl (lv_at hl 0 rfl) ?_
        refine g_geti C hR (k := 54) (j := 31) (live_st (by decide)) rfl rfl (vw11) inl11 (by decide) q974 dX11_run_43 ?_
        exact g_iret C hR hS h dX11_run_46
    · have h := ite_f c5 h
      refine lv_bipush (v := -3) hx hb dX11_run_22 (by decide) ?_
      exact g_iret C hR hS h dX11_run_24

/-! OneVoiceModel.heard(II)I -/
abbrev rm_X11_heard : Room := { frames := 1, cells := 0, slots := 0, locals := 22 }
theorem m_X11_heard : MV yX11_heard RX11 cX11_heard 3 (some .int) 2 := ⟨q1296, q1297, q77, q1298, by decide +kernel⟩
def f_X11_heard (v1 : Int32) (v2 : Int32) (S : St) : Option (Int32 × St) :=
  bd_ (f_X11_in v1 (0 : Int32) ((rd S 54 32) - (1 : Int32)) S) fun r4 S5 =>
  if r4 = 0 then
    some ((-2 : Int32), S5)
  else
    if v2 = 0 then
      gd_ (inb v1 24) <|
      some ((rd S5 81 (Int32.toNatClampNeg v1)), S5)
    else
      if v2 = (1 : Int32) then
        gd_ (inb v1 24) <|
        some ((rd S5 82 (Int32.toNatClampNeg v1)), S5)
      else
        if v2 = (2 : Int32) then
          gd_ (inb v1 24) <|
          some ((rd S5 83 (Int32.toNatClampNeg v1)), S5)
        else
          some ((-3 : Int32), S5)

set_option maxHeartbeats 4000000 in
set_option maxRecDepth 100000 in
theorem c_X11_heard (l : Launch) {E : En} {α : Nat → Nat} {g : Nat × Nat} {v1 : Int32} {v2 : Int32} {S : St}  {z : Int32 × St} (h : f_X11_heard v1 v2 S = some z) : Met l yX11_heard (wsY yX11_heard cX11_heard 3 (some .int)) rm_X11_heard (va_Pc [.ref (α 54), .int v1, .int v2] (Wd E α g S)) (Qi E α g z) 0 0 E.2.2.1 := by
  refine g_met [.ref (α 54), .int v1, .int v2] (by decide) rfl (Nat.le_of_ble_eq_true rfl) ?_
  intro p e s m below meth c ls C hR hl
  generalize hae : ([.ref (α 54), .int v1, .int v2] : List Value).toArray = args at C ⊢
  have hl : lv_has ls 3 [(0, .ref (α 54)), (1, .int v1), (2, .int v2)] := hl
  obtain ⟨hx, hb, hml, hown, hts, hlk, hrt, hKs⟩ := id C
  have hS : va_S E.2.2.1 s.heap s.heap [] := va_S.rf
  unfold f_X11_heard at h
  refine lv_iload_n hx hb dX11_heard_0 rfl (lv_at hl 1 rfl) ?_
  refine lv_iconst (v := 0) hx hb dX11_heard_1 (by decide) ?_
  refine lv_aload_n hx hb dX11_heard_2 rfl (lv_at hl 0 rfl) ?_
  refine g_geti C hR (k := 54) (j := 32) (live_st (by decide)) rfl rfl (vw11) inl11 (by decide) q975 dX11_heard_3 ?_
  refine lv_iconst (v := 1) hx hb dX11_heard_6 (by decide) ?_
  refine lv_isub hx hb dX11_heard_7 ?_
  obtain ⟨r4, S5, hr4, h⟩ := bd_e h
  refine g_ci hS (g_runS C hR hS (As := [.int v1, .int (0 : Int32), .int ((rd S 54 32) - (1 : Int32))]) (rest := []) (c_X11_in l  hr4) m_X11_in q1093 ⟨rfl, rfl⟩ ⟨Nat.le_of_ble_eq_true rfl, Nat.le_of_ble_eq_true rfl⟩ rfl hl.1 rfl (Nat.le_of_ble_eq_true rfl) dX11_heard_8 ⟨Nat.zero_le _, Nat.zero_le _⟩) (fun H locs hR hS => ?_)
  refine lv_if_ne (tgt := 17) hx hb dX11_heard_11 (by decide) (fun c6 => ?_) (fun c6 => ?_)
  · have h := ite_f c6 h
    refine lv_iload_n hx hb dX11_heard_17 rfl (lv_at hl 2 rfl) ?_
    refine lv_if_ne (tgt := 30) hx hb dX11_heard_18 (by decide) (fun c7 => ?_) (fun c7 => ?_)
    · have h := ite_f c7 h
      refine lv_iload_n hx hb dX11_heard_30 rfl (lv_at hl 2 rfl) ?_
      refine lv_iconst (v := 1) hx hb dX11_heard_31 (by decide) ?_
      refine lv_icmp_ne (tgt := 44) hx hb dX11_heard_32 (by decide) (fun c8 => ?_) (fun c8 => ?_)
      · have h := ite_f c8 h
        refine lv_iload_n hx hb dX11_heard_44 rfl (lv_at hl 2 rfl) ?_
        refine lv_iconst (v := 2) hx hb dX11_heard_45 (by decide) ?_
        refine lv_icmp_ne (tgt := 58) hx hb dX11_heard_46 (by decide) (fun c9 => ?_) (fun c9 => ?_)
        · have h := ite_f c9 h
          refine lv_bipush (v := -3) hx hb dX11_heard_58 (by decide) ?_
          exact g_iret C hR hS h dX11_heard_60
        · have h := ite_t c9 h
          refine lv_aload_n hx hb dX11_heard_49 rfl (lv_at hl 0 rfl) ?_
          refine g_getr (t := 83) C hR (k := 54) (j := 41) (live_st (by decide)) rfl rfl (vw11) inl11 (by decide) q984 dX11_heard_50 ?_
          refine lv_iload_n hx hb dX11_heard_53 rfl (lv_at hl 1 rfl) ?_
          obtain ⟨g10, h⟩ := gd_e h
          refine g_iald C hR (k := 83) (n := 24) (live_st (by decide)) rfl g10 dX11_heard_54 ?_
          refine lv_goto (tgt := 60) hx hb dX11_heard_55 (by decide) ?_
          exact g_iret C hR hS h dX11_heard_60
      · have h := ite_t c8 h
        refine lv_aload_n hx hb dX11_heard_35 rfl (lv_at hl 0 rfl) ?_
        refine g_getr (t := 82) C hR (k := 54) (j := 40) (live_st (by decide)) rfl rfl (vw11) inl11 (by decide) q983 dX11_heard_36 ?_
        refine lv_iload_n hx hb dX11_heard_39 rfl (lv_at hl 1 rfl) ?_
        obtain ⟨g11, h⟩ := gd_e h
        refine g_iald C hR (k := 82) (n := 24) (live_st (by decide)) rfl g11 dX11_heard_40 ?_
        refine lv_goto (tgt := 60) hx hb dX11_heard_41 (by decide) ?_
        exact g_iret C hR hS h dX11_heard_60
    · have h := ite_t c7 h
      refine lv_aload_n hx hb dX11_heard_21 rfl (lv_at hl 0 rfl) ?_
      refine g_getr (t := 81) C hR (k := 54) (j := 39) (live_st (by decide)) rfl rfl (vw11) inl11 (by decide) q982 dX11_heard_22 ?_
      refine lv_iload_n hx hb dX11_heard_25 rfl (lv_at hl 1 rfl) ?_
      obtain ⟨g12, h⟩ := gd_e h
      refine g_iald C hR (k := 81) (n := 24) (live_st (by decide)) rfl g12 dX11_heard_26 ?_
      refine lv_goto (tgt := 60) hx hb dX11_heard_27 (by decide) ?_
      exact g_iret C hR hS h dX11_heard_60
  · have h := ite_t c6 h
    refine lv_bipush (v := -2) hx hb dX11_heard_14 (by decide) ?_
    exact g_iret C hR hS h dX11_heard_16
