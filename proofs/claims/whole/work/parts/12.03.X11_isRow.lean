/-! OneVoiceModel.isRow(I)Z -/
abbrev rm_X11_isRow : Room := { frames := 2, cells := 0, slots := 0, locals := 42 }
theorem m_X11_isRow : MV yX11_isRow RX11 cX11_isRow 4 (some .boolean) 1 := ⟨q1214, q48, q77, q1215, by decide +kernel⟩
def f_X11_isRow_L36 (K57 : St → Option (Int32 × St)) (K92 : St → Option (Int32 × St)) (v1 : Int32) (v2 : Int32) : Nat → Int32 → St → Option (Int32 × St)
  | 0, _, _ => none
  | f + 1, v3, S =>
    if v2 ≤ v3 then
      K92  S
    else
      gd_ (inb ((rd S 54 15) + v3) 200) <|
      if (rd S 65 (Int32.toNatClampNeg ((rd S 54 15) + v3))) ≤ (112 : Int32) then
        gd_ (inb ((rd S 54 15) + v3) 200) <|
        gd_ (inb ((v1 + (3 : Int32)) + v3) 110) <|
        lt_ (wr S 66 (Int32.toNatClampNeg ((v1 + (3 : Int32)) + v3)) ((rd S 65 (Int32.toNatClampNeg ((rd S 54 15) + v3))) - (97 : Int32))) fun S19 =>
        lt_ (v3 + (1 : Int32)) fun x21 =>
        f_X11_isRow_L36 K57 K92 v1 v2 f x21 S19
      else
        K57  S

def f_X11_isRow (v1 : Int32) (S : St) : Option (Int32 × St) :=
  bd_ (f_X11_nextToken  S) fun r7 S8 =>
  lt_ ((rd S8 54 14) - (rd S8 54 15)) fun x9 =>
  lt_ (fun  (S10 : St) =>
      bd_ (f_X11_fails  S10) fun r11 S12 =>
      gd_ (bz r11) <| some (r11, S12)) fun J29 =>
  if (lg_cmp (rl S8 54 16) (0 : Int64)) < 0 then
    J29  S8
  else
    if x9 ≤ (8 : Int32) then
      f_X11_isRow_L36
        (fun  (S22 : St) =>
          bd_ (f_X11_fails  S22) fun r23 S24 =>
          gd_ (bz r23) <| some (r23, S24))
        (fun  (S25 : St) =>
          gd_ (inb (v1 + (2 : Int32)) 110) <|
          lt_ (wr S25 66 (Int32.toNatClampNeg (v1 + (2 : Int32))) x9) fun S26 =>
          bd_ (f_X11_nextToken  S26) fun r28 S29 =>
          some ((1 : Int32), S29))
        v1 x9 FU (0 : Int32) S8
    else
      J29  S8

set_option maxHeartbeats 4000000 in
set_option maxRecDepth 100000 in
theorem w_X11_isRow_L36 {p : Program} {l : Launch} {e : Env} {s : State} {m : MethodId} {args : Array Value} {below : List Frame} {meth : Method} {c : Code} {E : En} {α : Nat → Nat} {g : Nat × Nat} (C : Cx p s m args meth c RX11 cX11_isRow 4 (some .boolean) E) {z : Int32 × St} {K57 : St → Option (Int32 × St)} {K92 : St → Option (Int32 × St)} {v1 : Int32} {v2 : Int32}
    (hK57 : ∀ (S : St) (H : Heap) (locs : List Loc) (ls : Array Slot), Rp E α g S H → va_S E.2.2.1 s.heap H locs → lv_has ls 4 [(0, .ref (α 54))] → K57  S = some z → W p l e rm_X11_isRow s m args below meth c H locs 0 0 (MQ below (Qi E α g z) args s 0 0 E.2.2.1) (F0 m 57 ls []))
    (hK92 : ∀ (S : St) (H : Heap) (locs : List Loc) (ls : Array Slot), Rp E α g S H → va_S E.2.2.1 s.heap H locs → lv_has ls 4 [(0, .ref (α 54)), (1, .int v1), (2, .int v2)] → K92  S = some z → W p l e rm_X11_isRow s m args below meth c H locs 0 0 (MQ below (Qi E α g z) args s 0 0 E.2.2.1) (F0 m 92 ls [])) :
    ∀ (f : Nat) (v3 : Int32) (S : St) (H : Heap) (locs : List Loc) (ls : Array Slot), Rp E α g S H → va_S E.2.2.1 s.heap H locs → lv_has ls 4 [(0, .ref (α 54)), (1, .int v1), (2, .int v2), (3, .int v3)] → f_X11_isRow_L36 K57 K92 v1 v2 f v3 S = some z → W p l e rm_X11_isRow s m args below meth c H locs 0 0 (MQ below (Qi E α g z) args s 0 0 E.2.2.1) (F0 m 36 ls []) := by
  obtain ⟨hx, hb, hml, hown, hts, hlk, hrt, hKs⟩ := id C
  intro f
  induction f with
  | zero =>
    intro v3 S H locs ls  hR hS hl h
    rw [f_X11_isRow_L36] at h
    cases h
  | succ f ih =>
    intro v3 S H locs ls  hR hS hl h
    rw [f_X11_isRow_L36] at h
    refine lv_iload_n hx hb dX11_isRow_36 rfl (lv_at hl 3 rfl) ?_
    refine lv_iload_n hx hb dX11_isRow_37 rfl (lv_at hl 2 rfl) ?_
    refine lv_icmp_ge (tgt := 92) hx hb dX11_isRow_38 (by decide) (fun c15 => ?_) (fun c15 => ?_)
    · have h := ite_t c15 h
      exact hK92  _ _ _ _  hR hS (lv_sub hl [0, 1, 2] rfl) h
    · have h := ite_f c15 h
      refine lv_aload_n hx hb dX11_isRow_41 rfl (lv_at hl 0 rfl) ?_
      refine g_getr (t := 65) C hR (k := 54) (j := 13) (live_st (by decide)) rfl rfl (vw11) inl11 (by decide) q956 dX11_isRow_42 ?_
      refine lv_aload_n hx hb dX11_isRow_45 rfl (lv_at hl 0 rfl) ?_
      refine g_geti C hR (k := 54) (j := 15) (live_st (by decide)) rfl rfl (vw11) inl11 (by decide) q958 dX11_isRow_46 ?_
      refine lv_iload_n hx hb dX11_isRow_49 rfl (lv_at hl 3 rfl) ?_
      refine lv_iadd hx hb dX11_isRow_50 ?_
      obtain ⟨g16, h⟩ := gd_e h
      refine g_iald C hR (k := 65) (n := 200) (live_st (by decide)) rfl g16 dX11_isRow_51 ?_
      refine lv_bipush (v := 112) hx hb dX11_isRow_52 (by decide) ?_
      refine lv_icmp_le (tgt := 62) hx hb dX11_isRow_54 (by decide) (fun c17 => ?_) (fun c17 => ?_)
      · have h := ite_t c17 h
        refine lv_aload_n hx hb dX11_isRow_62 rfl (lv_at hl 0 rfl) ?_
        refine g_getr (t := 66) C hR (k := 54) (j := 21) (live_st (by decide)) rfl rfl (vw11) inl11 (by decide) q964 dX11_isRow_63 ?_
        refine lv_iload_n hx hb dX11_isRow_66 rfl (lv_at hl 1 rfl) ?_
        refine lv_iconst (v := 3) hx hb dX11_isRow_67 (by decide) ?_
        refine lv_iadd hx hb dX11_isRow_68 ?_
        refine lv_iload_n hx hb dX11_isRow_69 rfl (lv_at hl 3 rfl) ?_
        refine lv_iadd hx hb dX11_isRow_70 ?_
        refine lv_aload_n hx hb dX11_isRow_71 rfl (lv_at hl 0 rfl) ?_
        refine g_getr (t := 65) C hR (k := 54) (j := 13) (live_st (by decide)) rfl rfl (vw11) inl11 (by decide) q956 dX11_isRow_72 ?_
        refine lv_aload_n hx hb dX11_isRow_75 rfl (lv_at hl 0 rfl) ?_
        refine g_geti C hR (k := 54) (j := 15) (live_st (by decide)) rfl rfl (vw11) inl11 (by decide) q958 dX11_isRow_76 ?_
        refine lv_iload_n hx hb dX11_isRow_79 rfl (lv_at hl 3 rfl) ?_
        refine lv_iadd hx hb dX11_isRow_80 ?_
        obtain ⟨g18, h⟩ := gd_e h
        refine g_iald C hR (k := 65) (n := 200) (live_st (by decide)) rfl g18 dX11_isRow_81 ?_
        refine lv_bipush (v := 97) hx hb dX11_isRow_82 (by decide) ?_
        refine lv_isub hx hb dX11_isRow_84 ?_
        obtain ⟨g20, h⟩ := gd_e h
        obtain ⟨S19, eS19, h⟩ := lt_e h
        refine g_iast C hR hS (k := 66) (n := 110) (live_st (by decide)) rfl g20 eS19 dX11_isRow_85 (fun H locs hR hS => ?_)
        obtain ⟨x21, ex21, h⟩ := lt_e h
        refine lv_iinc (v := x21) (lv' := [(3, .int x21), (0, .ref (α 54)), (1, .int v1), (2, .int v2)]) hx hb dX11_isRow_86 hl (k := 3) rfl (by rw [ex21]; rfl) (by decide) rfl (fun ls hl => ?_)
        refine lv_goto (tgt := 36) hx hb dX11_isRow_89 (by decide) ?_
        exact ih _ _ _ _ _  hR hS (lv_sub hl [1, 2, 3, 0] rfl) h
      · have h := ite_f c17 h
        exact hK57  _ _ _ _  hR hS (lv_sub hl [0] rfl) h

set_option maxHeartbeats 4000000 in
set_option maxRecDepth 100000 in
theorem c_X11_isRow (l : Launch) {E : En} {α : Nat → Nat} {g : Nat × Nat} {v1 : Int32} {S : St}  {z : Int32 × St} (h : f_X11_isRow v1 S = some z) : Met l yX11_isRow (wsY yX11_isRow cX11_isRow 4 (some .boolean)) rm_X11_isRow (va_Pc [.ref (α 54), .int v1] (Wd E α g S)) (Qi E α g z) 0 0 E.2.2.1 := by
  refine g_met [.ref (α 54), .int v1] (by decide) rfl (Nat.le_of_ble_eq_true rfl) ?_
  intro p e s m below meth c ls C hR hl
  generalize hae : ([.ref (α 54), .int v1] : List Value).toArray = args at C ⊢
  have hl : lv_has ls 4 [(0, .ref (α 54)), (1, .int v1)] := hl
  obtain ⟨hx, hb, hml, hown, hts, hlk, hrt, hKs⟩ := id C
  have hS : va_S E.2.2.1 s.heap s.heap [] := va_S.rf
  unfold f_X11_isRow at h
  refine lv_aload_n hx hb dX11_isRow_0 rfl (lv_at hl 0 rfl) ?_
  obtain ⟨r7, S8, hr7, h⟩ := bd_e h
  refine g_cv hS (g_runV C hR hS (k := 54) (As := []) (rest := []) (c_X11_nextToken l  hr7) (live_st (by decide)) rfl (vw11) m_X11_nextToken q1183 ⟨rfl, rfl⟩ ⟨Nat.le_of_ble_eq_true rfl, Nat.le_of_ble_eq_true rfl⟩ rfl hl.1 rfl (Nat.le_of_ble_eq_true rfl) dX11_isRow_1 ⟨Nat.zero_le _, Nat.zero_le _⟩) (fun H locs hR hS => ?_)
  refine lv_aload_n hx hb dX11_isRow_4 rfl (lv_at hl 0 rfl) ?_
  refine g_geti C hR (k := 54) (j := 14) (live_st (by decide)) rfl rfl (vw11) inl11 (by decide) q957 dX11_isRow_5 ?_
  refine lv_aload_n hx hb dX11_isRow_8 rfl (lv_at hl 0 rfl) ?_
  refine g_geti C hR (k := 54) (j := 15) (live_st (by decide)) rfl rfl (vw11) inl11 (by decide) q958 dX11_isRow_9 ?_
  refine lv_isub hx hb dX11_isRow_12 ?_
  obtain ⟨x9, ex9, h⟩ := lt_e h
  refine g_nmi ex9 ?_
  refine lv_istore_n (lv' := [(2, .int x9), (0, .ref (α 54)), (1, .int v1)]) hx hb dX11_isRow_13 rfl hl (by decide) rfl (fun ls hl => ?_)
  refine lv_aload_n hx hb dX11_isRow_14 rfl (lv_at hl 1 rfl) ?_
  refine g_getl C hR (k := 54) (j := 16) (live_st (by decide)) rfl rfl (vw11) inl11 (by decide) q959 dX11_isRow_15 ?_
  refine lv_lconst (v := 0) hx hb dX11_isRow_18 (by decide) ?_
  refine W.lcmp hx hb dX11_isRow_19 ?_
  obtain ⟨J29, eJ29, h⟩ := lt_e h
  have hJ29 : ∀ (S10 : St) (H : Heap) (locs : List Loc) (ls : Array Slot), Rp E α g S10 H → va_S E.2.2.1 s.heap H locs → lv_has ls 4 [(0, .ref (α 54))] → J29  S10 = some z → W p l e rm_X11_isRow s m args below meth c H locs 0 0 (MQ below (Qi E α g z) args s 0 0 E.2.2.1) (F0 m 29 ls []) := by
    intro  S10 H locs ls  hR hS hl h
    rw [eJ29] at h
    refine lv_aload_n hx hb dX11_isRow_29 rfl (lv_at hl 0 rfl) ?_
    obtain ⟨r11, S12, hr11, h⟩ := bd_e h
    refine g_ci hS (g_runV C hR hS (k := 54) (As := []) (rest := []) (c_X11_fails l  hr11) (live_st (by decide)) rfl (vw11) m_X11_fails q1203 ⟨rfl, rfl⟩ ⟨Nat.le_of_ble_eq_true rfl, Nat.le_of_ble_eq_true rfl⟩ rfl hl.1 rfl (Nat.le_of_ble_eq_true rfl) dX11_isRow_30 ⟨Nat.zero_le _, Nat.zero_le _⟩) (fun H locs hR hS => ?_)
    obtain ⟨hz, h⟩ := gd_e h
    exact g_zret C hR hS hz h dX11_isRow_33
  clear eJ29
  refine lv_if_lt (tgt := 29) hx hb dX11_isRow_20 (by decide) (fun c13 => ?_) (fun c13 => ?_)
  · have h := ite_t c13 h
    exact hJ29  _ _ _ _  hR hS (lv_sub hl [1] rfl) h
  · have h := ite_f c13 h
    refine lv_iload_n hx hb dX11_isRow_23 rfl (lv_at hl 0 rfl) ?_
    refine lv_bipush (v := 8) hx hb dX11_isRow_24 (by decide) ?_
    refine lv_icmp_le (tgt := 34) hx hb dX11_isRow_26 (by decide) (fun c14 => ?_) (fun c14 => ?_)
    · have h := ite_t c14 h
      refine lv_iconst (v := 0) hx hb dX11_isRow_34 (by decide) ?_
      refine lv_istore_n (lv' := [(3, .int (0 : Int32)), (2, .int x9), (0, .ref (α 54)), (1, .int v1)]) hx hb dX11_isRow_35 rfl hl (by decide) rfl (fun ls hl => ?_)
      refine w_X11_isRow_L36 C ?_ ?_  _ _ _ _ _ _  hR hS (lv_sub hl [2, 3, 1, 0] rfl) h
      · intro  S22 H locs ls  hR hS hl h
        refine lv_aload_n hx hb dX11_isRow_57 rfl (lv_at hl 0 rfl) ?_
        obtain ⟨r23, S24, hr23, h⟩ := bd_e h
        refine g_ci hS (g_runV C hR hS (k := 54) (As := []) (rest := []) (c_X11_fails l  hr23) (live_st (by decide)) rfl (vw11) m_X11_fails q1203 ⟨rfl, rfl⟩ ⟨Nat.le_of_ble_eq_true rfl, Nat.le_of_ble_eq_true rfl⟩ rfl hl.1 rfl (Nat.le_of_ble_eq_true rfl) dX11_isRow_58 ⟨Nat.zero_le _, Nat.zero_le _⟩) (fun H locs hR hS => ?_)
        obtain ⟨hz, h⟩ := gd_e h
        exact g_zret C hR hS hz h dX11_isRow_61
      · intro  S25 H locs ls  hR hS hl h
        refine lv_aload_n hx hb dX11_isRow_92 rfl (lv_at hl 0 rfl) ?_
        refine g_getr (t := 66) C hR (k := 54) (j := 21) (live_st (by decide)) rfl rfl (vw11) inl11 (by decide) q964 dX11_isRow_93 ?_
        refine lv_iload_n hx hb dX11_isRow_96 rfl (lv_at hl 1 rfl) ?_
        refine lv_iconst (v := 2) hx hb dX11_isRow_97 (by decide) ?_
        refine lv_iadd hx hb dX11_isRow_98 ?_
        refine lv_iload_n hx hb dX11_isRow_99 rfl (lv_at hl 2 rfl) ?_
        obtain ⟨g27, h⟩ := gd_e h
        obtain ⟨S26, eS26, h⟩ := lt_e h
        refine g_iast C hR hS (k := 66) (n := 110) (live_st (by decide)) rfl g27 eS26 dX11_isRow_100 (fun H locs hR hS => ?_)
        refine lv_aload_n hx hb dX11_isRow_101 rfl (lv_at hl 0 rfl) ?_
        obtain ⟨r28, S29, hr28, h⟩ := bd_e h
        refine g_cv hS (g_runV C hR hS (k := 54) (As := []) (rest := []) (c_X11_nextToken l  hr28) (live_st (by decide)) rfl (vw11) m_X11_nextToken q1183 ⟨rfl, rfl⟩ ⟨Nat.le_of_ble_eq_true rfl, Nat.le_of_ble_eq_true rfl⟩ rfl hl.1 rfl (Nat.le_of_ble_eq_true rfl) dX11_isRow_102 ⟨Nat.zero_le _, Nat.zero_le _⟩) (fun H locs hR hS => ?_)
        refine lv_iconst (v := 1) hx hb dX11_isRow_105 (by decide) ?_
        exact g_zret C hR hS bz1 h dX11_isRow_106
    · have h := ite_f c14 h
      exact hJ29  _ _ _ _  hR hS (lv_sub hl [1] rfl) h

/-! OneVoiceModel.areParts(I)Z -/
abbrev rm_X11_areParts : Room := { frames := 2, cells := 0, slots := 0, locals := 42 }
theorem m_X11_areParts : MV yX11_areParts RX11 cX11_areParts 3 (some .boolean) 1 := ⟨q1218, q49, q77, q1219, by decide +kernel⟩
def f_X11_areParts_L6 (K54 : St → Option (Int32 × St)) (K99 : Int32 → St → Option (Int32 × St)) (v1 : Int32) : Nat → Int32 → St → Option (Int32 × St)
  | 0, _, _ => none
  | f + 1, v2, S =>
    lt_ (fun  (S6 : St) =>
        if v2 = (8 : Int32) then
          K54  S6
        else
          lt_ (fun  (S8 : St) =>
              lt_ (fun (t9 : Int32) (t10 : Int32) (S11 : St) =>
                  gd_ (inb t9 110) <|
                  lt_ (wr S11 66 (Int32.toNatClampNeg t9) t10) fun S12 =>
                  lt_ (v2 + (1 : Int32)) fun x14 =>
                  bd_ (f_X11_nextToken  S12) fun r15 S16 =>
                  f_X11_areParts_L6 K54 K99 v1 f x14 S16) fun J88 =>
              if (lg_cmp (rl S8 54 16) (-1 : Int64)) = 0 then
                J88 ((v1 + (3 : Int32)) + v2) (rd S8 54 18) S8
              else
                J88 ((v1 + (3 : Int32)) + v2) (32 : Int32) S8) fun J59 =>
          if (lg_cmp (rl S6 54 16) (-1 : Int64)) = 0 then
            if (rd S6 54 18) ≤ (31 : Int32) then
              J59  S6
            else
              K54  S6
          else
            J59  S6) fun J28 =>
    if (lg_cmp (rl S 54 16) (-1 : Int64)) = 0 then
      J28  S
    else
      if (lg_cmp (rl S 54 16) (-5 : Int64)) = 0 then
        J28  S
      else
        K99 v2 S

def f_X11_areParts (v1 : Int32) (S : St) : Option (Int32 × St) :=
  bd_ (f_X11_nextToken  S) fun r4 S5 =>
  f_X11_areParts_L6
    (fun  (S22 : St) =>
      bd_ (f_X11_fails  S22) fun r23 S24 =>
      gd_ (bz r23) <| some (r23, S24))
    (fun (x25 : Int32) (S26 : St) =>
      gd_ (inb (v1 + (2 : Int32)) 110) <|
      lt_ (wr S26 66 (Int32.toNatClampNeg (v1 + (2 : Int32))) x25) fun S27 =>
      lt_ (fun  (S29 : St) =>
          some ((1 : Int32), S29)) fun J119 =>
      if 0 < x25 then
        J119  S27
      else
        bd_ (f_X11_fails  S27) fun r31 S32 =>
        if r31 = 0 then
          some ((0 : Int32), S32)
        else
          J119  S32)
    v1 FU (0 : Int32) S5

set_option maxHeartbeats 4000000 in
set_option maxRecDepth 100000 in
theorem w_X11_areParts_L6 {p : Program} {l : Launch} {e : Env} {s : State} {m : MethodId} {args : Array Value} {below : List Frame} {meth : Method} {c : Code} {E : En} {α : Nat → Nat} {g : Nat × Nat} (C : Cx p s m args meth c RX11 cX11_areParts 3 (some .boolean) E) {z : Int32 × St} {K54 : St → Option (Int32 × St)} {K99 : Int32 → St → Option (Int32 × St)} {v1 : Int32}
    (hK54 : ∀ (S : St) (H : Heap) (locs : List Loc) (ls : Array Slot), Rp E α g S H → va_S E.2.2.1 s.heap H locs → lv_has ls 3 [(0, .ref (α 54))] → K54  S = some z → W p l e rm_X11_areParts s m args below meth c H locs 0 0 (MQ below (Qi E α g z) args s 0 0 E.2.2.1) (F0 m 54 ls []))
    (hK99 : ∀ (y2 : Int32) (S : St) (H : Heap) (locs : List Loc) (ls : Array Slot), Rp E α g S H → va_S E.2.2.1 s.heap H locs → lv_has ls 3 [(0, .ref (α 54)), (1, .int v1), (2, .int y2)] → K99 y2 S = some z → W p l e rm_X11_areParts s m args below meth c H locs 0 0 (MQ below (Qi E α g z) args s 0 0 E.2.2.1) (F0 m 99 ls [])) :
    ∀ (f : Nat) (v2 : Int32) (S : St) (H : Heap) (locs : List Loc) (ls : Array Slot), Rp E α g S H → va_S E.2.2.1 s.heap H locs → lv_has ls 3 [(0, .ref (α 54)), (1, .int v1), (2, .int v2)] → f_X11_areParts_L6 K54 K99 v1 f v2 S = some z → W p l e rm_X11_areParts s m args below meth c H locs 0 0 (MQ below (Qi E α g z) args s 0 0 E.2.2.1) (F0 m 6 ls []) := by
  obtain ⟨hx, hb, hml, hown, hts, hlk, hrt, hKs⟩ := id C
  intro f
  induction f with
  | zero =>
    intro v2 S H locs ls  hR hS hl h
    rw [f_X11_areParts_L6] at h
    cases h
  | succ f ih =>
    intro v2 S H locs ls  hR hS hl h
    rw [f_X11_areParts_L6] at h
    refine lv_aload_n hx hb dX11_areParts_6 rfl (lv_at hl 0 rfl) ?_
    refine g_getl C hR (k := 54) (j := 16) (live_st (by decide)) rfl rfl (vw11) inl11 (by decide) q959 dX11_areParts_7 ?_
    refine lv_ldc2 (v := -1) hx hb hown (hts _ q1191) dX11_areParts_10 ?_
    refine W.lcmp hx hb dX11_areParts_13 ?_
    obtain ⟨J28, eJ28, h⟩ := lt_e h
    have hJ28 : ∀ (S6 : St) (H : Heap) (locs : List Loc) (ls : Array Slot), Rp E α g S6 H → va_S E.2.2.1 s.heap H locs → lv_has ls 3 [(0, .ref (α 54)), (1, .int v1), (2, .int v2)] → J28  S6 = some z → W p l e rm_X11_areParts s m args below meth c H locs 0 0 (MQ below (Qi E α g z) args s 0 0 E.2.2.1) (F0 m 28 ls []) := by
      intro  S6 H locs ls  hR hS hl h
      rw [eJ28] at h
      refine lv_iload_n hx hb dX11_areParts_28 rfl (lv_at hl 2 rfl) ?_
      refine lv_bipush (v := 8) hx hb dX11_areParts_29 (by decide) ?_
      refine lv_icmp_eq (tgt := 54) hx hb dX11_areParts_31 (by decide) (fun c7 => ?_) (fun c7 => ?_)
      · have h := ite_t c7 h
        exact hK54  _ _ _ _  hR hS (lv_sub hl [0] rfl) h
      · have h := ite_f c7 h
        refine lv_aload_n hx hb dX11_areParts_34 rfl (lv_at hl 0 rfl) ?_
        refine g_getl C hR (k := 54) (j := 16) (live_st (by decide)) rfl rfl (vw11) inl11 (by decide) q959 dX11_areParts_35 ?_
        refine lv_ldc2 (v := -1) hx hb hown (hts _ q1191) dX11_areParts_38 ?_
        refine W.lcmp hx hb dX11_areParts_41 ?_
        obtain ⟨J59, eJ59, h⟩ := lt_e h
        have hJ59 : ∀ (S8 : St) (H : Heap) (locs : List Loc) (ls : Array Slot), Rp E α g S8 H → va_S E.2.2.1 s.heap H locs → lv_has ls 3 [(0, .ref (α 54)), (1, .int v1), (2, .int v2)] → J59  S8 = some z → W p l e rm_X11_areParts s m args below meth c H locs 0 0 (MQ below (Qi E α g z) args s 0 0 E.2.2.1) (F0 m 59 ls []) := by
          intro  S8 H locs ls  hR hS hl h
          rw [eJ59] at h
          refine lv_aload_n hx hb dX11_areParts_59 rfl (lv_at hl 0 rfl) ?_
          refine g_getr (t := 66) C hR (k := 54) (j := 21) (live_st (by decide)) rfl rfl (vw11) inl11 (by decide) q964 dX11_areParts_60 ?_
          refine lv_iload_n hx hb dX11_areParts_63 rfl (lv_at hl 1 rfl) ?_
          refine lv_iconst (v := 3) hx hb dX11_areParts_64 (by decide) ?_
          refine lv_iadd hx hb dX11_areParts_65 ?_
          refine lv_iload_n hx hb dX11_areParts_66 rfl (lv_at hl 2 rfl) ?_
          refine lv_iadd hx hb dX11_areParts_67 ?_
          refine lv_aload_n hx hb dX11_areParts_68 rfl (lv_at hl 0 rfl) ?_
          refine g_getl C hR (k := 54) (j := 16) (live_st (by decide)) rfl rfl (vw11) inl11 (by decide) q959 dX11_areParts_69 ?_
          refine lv_ldc2 (v := -1) hx hb hown (hts _ q1191) dX11_areParts_72 ?_
          refine W.lcmp hx hb dX11_areParts_75 ?_
          obtain ⟨J88, eJ88, h⟩ := lt_e h
          have hJ88 : ∀ (t9 : Int32) (t10 : Int32) (S11 : St) (H : Heap) (locs : List Loc) (ls : Array Slot), Rp E α g S11 H → va_S E.2.2.1 s.heap H locs → lv_has ls 3 [(0, .ref (α 54)), (1, .int v1), (2, .int v2)] → J88 t9 t10 S11 = some z → W p l e rm_X11_areParts s m args below meth c H locs 0 0 (MQ below (Qi E α g z) args s 0 0 E.2.2.1) (F0 m 88 ls [.int t10, .int t9, .ref (α 66)]) := by
            intro t9 t10 S11 H locs ls  hR hS hl h
            rw [eJ88] at h
            obtain ⟨g13, h⟩ := gd_e h
            obtain ⟨S12, eS12, h⟩ := lt_e h
            refine g_iast C hR hS (k := 66) (n := 110) (live_st (by decide)) rfl g13 eS12 dX11_areParts_88 (fun H locs hR hS => ?_)
            obtain ⟨x14, ex14, h⟩ := lt_e h
            refine lv_iinc (v := x14) (lv' := [(2, .int x14), (0, .ref (α 54)), (1, .int v1)]) hx hb dX11_areParts_89 hl (k := 2) rfl (by rw [ex14]; rfl) (by decide) rfl (fun ls hl => ?_)
            refine lv_aload_n hx hb dX11_areParts_92 rfl (lv_at hl 1 rfl) ?_
            obtain ⟨r15, S16, hr15, h⟩ := bd_e h
            refine g_cv hS (g_runV C hR hS (k := 54) (As := []) (rest := []) (c_X11_nextToken l  hr15) (live_st (by decide)) rfl (vw11) m_X11_nextToken q1183 ⟨rfl, rfl⟩ ⟨Nat.le_of_ble_eq_true rfl, Nat.le_of_ble_eq_true rfl⟩ rfl hl.1 rfl (Nat.le_of_ble_eq_true rfl) dX11_areParts_93 ⟨Nat.zero_le _, Nat.zero_le _⟩) (fun H locs hR hS => ?_)
            refine lv_goto (tgt := 6) hx hb dX11_areParts_96 (by decide) ?_
            exact ih _ _ _ _ _  hR hS (lv_sub hl [1, 2, 0] rfl) h
          clear eJ88
          refine lv_if_ne (tgt := 86) hx hb dX11_areParts_76 (by decide) (fun c17 => ?_) (fun c17 => ?_)
          · have h := ite_f c17 h
            refine lv_bipush (v := 32) hx hb dX11_areParts_86 (by decide) ?_
            exact hJ88 _ _ _ _ _ _  hR hS hl h
          · have h := ite_t c17 h
            refine lv_aload_n hx hb dX11_areParts_79 rfl (lv_at hl 0 rfl) ?_
            refine g_geti C hR (k := 54) (j := 18) (live_st (by decide)) rfl rfl (vw11) inl11 (by decide) q961 dX11_areParts_80 ?_
            refine lv_goto (tgt := 88) hx hb dX11_areParts_83 (by decide) ?_
            exact hJ88 _ _ _ _ _ _  hR hS hl h
        clear eJ59
        refine lv_if_ne (tgt := 59) hx hb dX11_areParts_42 (by decide) (fun c18 => ?_) (fun c18 => ?_)
        · have h := ite_f c18 h
          exact hJ59  _ _ _ _  hR hS hl h
        · have h := ite_t c18 h
          refine lv_aload_n hx hb dX11_areParts_45 rfl (lv_at hl 0 rfl) ?_
          refine g_geti C hR (k := 54) (j := 18) (live_st (by decide)) rfl rfl (vw11) inl11 (by decide) q961 dX11_areParts_46 ?_
          refine lv_bipush (v := 31) hx hb dX11_areParts_49 (by decide) ?_
          refine lv_icmp_le (tgt := 59) hx hb dX11_areParts_51 (by decide) (fun c19 => ?_) (fun c19 => ?_)
          · have h := ite_t c19 h
            exact hJ59  _ _ _ _  hR hS hl h
          · have h := ite_f c19 h
            exact hK54  _ _ _ _  hR hS (lv_sub hl [0] rfl) h
    clear eJ28
    refine lv_if_eq (tgt := 28) hx hb dX11_areParts_14 (by decide) (fun c20 => ?_) (fun c20 => ?_)
    · have h := ite_t c20 h
      exact hJ28  _ _ _ _  hR hS hl h
    · have h := ite_f c20 h
      refine lv_aload_n hx hb dX11_areParts_17 rfl (lv_at hl 0 rfl) ?_
      refine g_getl C hR (k := 54) (j := 16) (live_st (by decide)) rfl rfl (vw11) inl11 (by decide) q959 dX11_areParts_18 ?_
      refine lv_ldc2 (v := -5) hx hb hown (hts _ q1193) dX11_areParts_21 ?_
      refine W.lcmp hx hb dX11_areParts_24 ?_
      refine lv_if_ne (tgt := 99) hx hb dX11_areParts_25 (by decide) (fun c21 => ?_) (fun c21 => ?_)
      · have h := ite_f c21 h
        exact hK99 _ _ _ _ _  hR hS hl h
      · have h := ite_t c21 h
        exact hJ28  _ _ _ _  hR hS hl h

set_option maxHeartbeats 4000000 in
set_option maxRecDepth 100000 in
theorem c_X11_areParts (l : Launch) {E : En} {α : Nat → Nat} {g : Nat × Nat} {v1 : Int32} {S : St}  {z : Int32 × St} (h : f_X11_areParts v1 S = some z) : Met l yX11_areParts (wsY yX11_areParts cX11_areParts 3 (some .boolean)) rm_X11_areParts (va_Pc [.ref (α 54), .int v1] (Wd E α g S)) (Qi E α g z) 0 0 E.2.2.1 := by
  refine g_met [.ref (α 54), .int v1] (by decide) rfl (Nat.le_of_ble_eq_true rfl) ?_
  intro p e s m below meth c ls C hR hl
  generalize hae : ([.ref (α 54), .int v1] : List Value).toArray = args at C ⊢
  have hl : lv_has ls 3 [(0, .ref (α 54)), (1, .int v1)] := hl
  obtain ⟨hx, hb, hml, hown, hts, hlk, hrt, hKs⟩ := id C
  have hS : va_S E.2.2.1 s.heap s.heap [] := va_S.rf
  unfold f_X11_areParts at h
  refine lv_iconst (v := 0) hx hb dX11_areParts_0 (by decide) ?_
  refine lv_istore_n (lv' := [(2, .int (0 : Int32)), (0, .ref (α 54)), (1, .int v1)]) hx hb dX11_areParts_1 rfl hl (by decide) rfl (fun ls hl => ?_)
  refine lv_aload_n hx hb dX11_areParts_2 rfl (lv_at hl 1 rfl) ?_
  obtain ⟨r4, S5, hr4, h⟩ := bd_e h
  refine g_cv hS (g_runV C hR hS (k := 54) (As := []) (rest := []) (c_X11_nextToken l  hr4) (live_st (by decide)) rfl (vw11) m_X11_nextToken q1183 ⟨rfl, rfl⟩ ⟨Nat.le_of_ble_eq_true rfl, Nat.le_of_ble_eq_true rfl⟩ rfl hl.1 rfl (Nat.le_of_ble_eq_true rfl) dX11_areParts_3 ⟨Nat.zero_le _, Nat.zero_le _⟩) (fun H locs hR hS => ?_)
  refine w_X11_areParts_L6 C ?_ ?_  _ _ _ _ _ _  hR hS (lv_sub hl [1, 2, 0] rfl) h
  · intro  S22 H locs ls  hR hS hl h
    refine lv_aload_n hx hb dX11_areParts_54 rfl (lv_at hl 0 rfl) ?_
    obtain ⟨r23, S24, hr23, h⟩ := bd_e h
    refine g_ci hS (g_runV C hR hS (k := 54) (As := []) (rest := []) (c_X11_fails l  hr23) (live_st (by decide)) rfl (vw11) m_X11_fails q1203 ⟨rfl, rfl⟩ ⟨Nat.le_of_ble_eq_true rfl, Nat.le_of_ble_eq_true rfl⟩ rfl hl.1 rfl (Nat.le_of_ble_eq_true rfl) dX11_areParts_55 ⟨Nat.zero_le _, Nat.zero_le _⟩) (fun H locs hR hS => ?_)
    obtain ⟨hz, h⟩ := gd_e h
    exact g_zret C hR hS hz h dX11_areParts_58
  · intro x25 S26 H locs ls  hR hS hl h
    refine lv_aload_n hx hb dX11_areParts_99 rfl (lv_at hl 0 rfl) ?_
    refine g_getr (t := 66) C hR (k := 54) (j := 21) (live_st (by decide)) rfl rfl (vw11) inl11 (by decide) q964 dX11_areParts_100 ?_
    refine lv_iload_n hx hb dX11_areParts_103 rfl (lv_at hl 1 rfl) ?_
    refine lv_iconst (v := 2) hx hb dX11_areParts_104 (by decide) ?_
    refine lv_iadd hx hb dX11_areParts_105 ?_
    refine lv_iload_n hx hb dX11_areParts_106 rfl (lv_at hl 2 rfl) ?_
    obtain ⟨g28, h⟩ := gd_e h
    obtain ⟨S27, eS27, h⟩ := lt_e h
    refine g_iast C hR hS (k := 66) (n := 110) (live_st (by decide)) rfl g28 eS27 dX11_areParts_107 (fun H locs hR hS => ?_)
    refine lv_iload_n hx hb dX11_areParts_108 rfl (lv_at hl 2 rfl) ?_
    obtain ⟨J119, eJ119, h⟩ := lt_e h
    have hJ119 : ∀ (S29 : St) (H : Heap) (locs : List Loc) (ls : Array Slot), Rp E α g S29 H → va_S E.2.2.1 s.heap H locs → lv_has ls 3 [] → J119  S29 = some z → W p l e rm_X11_areParts s m args below meth c H locs 0 0 (MQ below (Qi E α g z) args s 0 0 E.2.2.1) (F0 m 119 ls []) := by
      intro  S29 H locs ls  hR hS hl h
      rw [eJ119] at h
      refine lv_iconst (v := 1) hx hb dX11_areParts_119 (by decide) ?_
      refine lv_goto (tgt := 124) hx hb dX11_areParts_120 (by decide) ?_
      exact g_zret C hR hS bz1 h dX11_areParts_124
    clear eJ119
    refine lv_if_gt (tgt := 119) hx hb dX11_areParts_109 (by decide) (fun c30 => ?_) (fun c30 => ?_)
    · have h := ite_t c30 h
      exact hJ119  _ _ _ _  hR hS (lv_sub hl [] rfl) h
    · have h := ite_f c30 h
      refine lv_aload_n hx hb dX11_areParts_112 rfl (lv_at hl 0 rfl) ?_
      obtain ⟨r31, S32, hr31, h⟩ := bd_e h
      refine g_ci hS (g_runV C hR hS (k := 54) (As := []) (rest := []) (c_X11_fails l  hr31) (live_st (by decide)) rfl (vw11) m_X11_fails q1203 ⟨rfl, rfl⟩ ⟨Nat.le_of_ble_eq_true rfl, Nat.le_of_ble_eq_true rfl⟩ rfl hl.1 rfl (Nat.le_of_ble_eq_true rfl) dX11_areParts_113 ⟨Nat.zero_le _, Nat.zero_le _⟩) (fun H locs hR hS => ?_)
      refine lv_if_eq (tgt := 123) hx hb dX11_areParts_116 (by decide) (fun c33 => ?_) (fun c33 => ?_)
      · have h := ite_t c33 h
        refine lv_iconst (v := 0) hx hb dX11_areParts_123 (by decide) ?_
        exact g_zret C hR hS bz0 h dX11_areParts_124
      · have h := ite_f c33 h
        exact hJ119  _ _ _ _  hR hS (lv_sub hl [] rfl) h

/-! OneVoiceModel.areTwo(I)Z -/
abbrev rm_X11_areTwo : Room := { frames := 3, cells := 0, slots := 0, locals := 65 }
theorem m_X11_areTwo : MV yX11_areTwo RX11 cX11_areTwo 2 (some .boolean) 1 := ⟨q1222, q50, q77, q1223, by decide +kernel⟩
def f_X11_areTwo (v1 : Int32) (S : St) : Option (Int32 × St) :=
  bd_ (f_X11_isNumber (v1 + (1 : Int32)) (0 : Int32) (5 : Int32) S) fun r3 S4 =>
  if r3 = 0 then
    some ((0 : Int32), S4)
  else
    bd_ (f_X11_isNumber (v1 + (2 : Int32)) (0 : Int32) (5 : Int32) S4) fun r6 S7 =>
    if r6 = 0 then
      some ((0 : Int32), S7)
    else
      gd_ (inb (v1 + (1 : Int32)) 110) <|
      gd_ (inb (v1 + (2 : Int32)) 110) <|
      if (rd S7 66 (Int32.toNatClampNeg (v1 + (1 : Int32)))) = (rd S7 66 (Int32.toNatClampNeg (v1 + (2 : Int32)))) then
        bd_ (f_X11_fails  S7) fun r14 S15 =>
        gd_ (bz r14) <| some (r14, S15)
      else
        bd_ (f_X11_nextToken  S7) fun r12 S13 =>
        some ((1 : Int32), S13)

set_option maxHeartbeats 4000000 in
set_option maxRecDepth 100000 in
theorem c_X11_areTwo (l : Launch) {E : En} {α : Nat → Nat} {g : Nat × Nat} {v1 : Int32} {S : St}  {z : Int32 × St} (h : f_X11_areTwo v1 S = some z) : Met l yX11_areTwo (wsY yX11_areTwo cX11_areTwo 2 (some .boolean)) rm_X11_areTwo (va_Pc [.ref (α 54), .int v1] (Wd E α g S)) (Qi E α g z) 0 0 E.2.2.1 := by
  refine g_met [.ref (α 54), .int v1] (by decide) rfl (Nat.le_of_ble_eq_true rfl) ?_
  intro p e s m below meth c ls C hR hl
  generalize hae : ([.ref (α 54), .int v1] : List Value).toArray = args at C ⊢
  have hl : lv_has ls 2 [(0, .ref (α 54)), (1, .int v1)] := hl
  obtain ⟨hx, hb, hml, hown, hts, hlk, hrt, hKs⟩ := id C
  have hS : va_S E.2.2.1 s.heap s.heap [] := va_S.rf
  unfold f_X11_areTwo at h
  refine lv_aload_n hx hb dX11_areTwo_0 rfl (lv_at hl 0 rfl) ?_
  refine lv_iload_n hx hb dX11_areTwo_1 rfl (lv_at hl 1 rfl) ?_
  refine lv_iconst (v := 1) hx hb dX11_areTwo_2 (by decide) ?_
  refine lv_iadd hx hb dX11_areTwo_3 ?_
  refine lv_iconst (v := 0) hx hb dX11_areTwo_4 (by decide) ?_
  refine lv_iconst (v := 5) hx hb dX11_areTwo_5 (by decide) ?_
  obtain ⟨r3, S4, hr3, h⟩ := bd_e h
  refine g_ci hS (g_runV C hR hS (k := 54) (As := [.int (v1 + (1 : Int32)), .int (0 : Int32), .int (5 : Int32)]) (rest := []) (c_X11_isNumber l  hr3) (live_st (by decide)) rfl (vw11) m_X11_isNumber q1199 ⟨rfl, rfl⟩ ⟨Nat.le_of_ble_eq_true rfl, Nat.le_of_ble_eq_true rfl⟩ rfl hl.1 rfl (Nat.le_of_ble_eq_true rfl) dX11_areTwo_6 ⟨Nat.zero_le _, Nat.zero_le _⟩) (fun H locs hR hS => ?_)
  refine lv_if_eq (tgt := 24) hx hb dX11_areTwo_9 (by decide) (fun c5 => ?_) (fun c5 => ?_)
  · have h := ite_t c5 h
    refine lv_iconst (v := 0) hx hb dX11_areTwo_24 (by decide) ?_
    exact g_zret C hR hS bz0 h dX11_areTwo_25
  · have h := ite_f c5 h
    refine lv_aload_n hx hb dX11_areTwo_12 rfl (lv_at hl 0 rfl) ?_
    refine lv_iload_n hx hb dX11_areTwo_13 rfl (lv_at hl 1 rfl) ?_
    refine lv_iconst (v := 2) hx hb dX11_areTwo_14 (by decide) ?_
    refine lv_iadd hx hb dX11_areTwo_15 ?_
    refine lv_iconst (v := 0) hx hb dX11_areTwo_16 (by decide) ?_
    refine lv_iconst (v := 5) hx hb dX11_areTwo_17 (by decide) ?_
    obtain ⟨r6, S7, hr6, h⟩ := bd_e h
    refine g_ci hS (g_runV C hR hS (k := 54) (As := [.int (v1 + (2 : Int32)), .int (0 : Int32), .int (5 : Int32)]) (rest := []) (c_X11_isNumber l  hr6) (live_st (by decide)) rfl (vw11) m_X11_isNumber q1199 ⟨rfl, rfl⟩ ⟨Nat.le_of_ble_eq_true rfl, Nat.le_of_ble_eq_true rfl⟩ rfl hl.1 rfl (Nat.le_of_ble_eq_true rfl) dX11_areTwo_18 ⟨Nat.zero_le _, Nat.zero_le _⟩) (fun H locs hR hS => ?_)
    refine lv_if_ne (tgt := 26) hx hb dX11_areTwo_21 (by decide) (fun c8 => ?_) (fun c8 => ?_)
    · have h := ite_f c8 h
      refine lv_aload_n hx hb dX11_areTwo_26 rfl (lv_at hl 0 rfl) ?_
      refine g_getr (t := 66) C hR (k := 54) (j := 21) (live_st (by decide)) rfl rfl (vw11) inl11 (by decide) q964 dX11_areTwo_27 ?_
      refine lv_iload_n hx hb dX11_areTwo_30 rfl (lv_at hl 1 rfl) ?_
      refine lv_iconst (v := 1) hx hb dX11_areTwo_31 (by decide) ?_
      refine lv_iadd hx hb dX11_areTwo_32 ?_
      obtain ⟨g9, h⟩ := gd_e h
      refine g_iald C hR (k := 66) (n := 110) (live_st (by decide)) rfl g9 dX11_areTwo_33 ?_
      refine lv_aload_n hx hb dX11_areTwo_34 rfl (lv_at hl 0 rfl) ?_
      refine g_getr (t := 66) C hR (k := 54) (j := 21) (live_st (by decide)) rfl rfl (vw11) inl11 (by decide) q964 dX11_areTwo_35 ?_
      refine lv_iload_n hx hb dX11_areTwo_38 rfl (lv_at hl 1 rfl) ?_
      refine lv_iconst (v := 2) hx hb dX11_areTwo_39 (by decide) ?_
      refine lv_iadd hx hb dX11_areTwo_40 ?_
      obtain ⟨g10, h⟩ := gd_e h
      refine g_iald C hR (k := 66) (n := 110) (live_st (by decide)) rfl g10 dX11_areTwo_41 ?_
      refine lv_icmp_ne (tgt := 50) hx hb dX11_areTwo_42 (by decide) (fun c11 => ?_) (fun c11 => ?_)
      · have h := ite_f c11 h
        refine lv_aload_n hx hb dX11_areTwo_50 rfl (lv_at hl 0 rfl) ?_
        obtain ⟨r12, S13, hr12, h⟩ := bd_e h
        refine g_cv hS (g_runV C hR hS (k := 54) (As := []) (rest := []) (c_X11_nextToken l  hr12) (live_st (by decide)) rfl (vw11) m_X11_nextToken q1183 ⟨rfl, rfl⟩ ⟨Nat.le_of_ble_eq_true rfl, Nat.le_of_ble_eq_true rfl⟩ rfl hl.1 rfl (Nat.le_of_ble_eq_true rfl) dX11_areTwo_51 ⟨Nat.zero_le _, Nat.zero_le _⟩) (fun H locs hR hS => ?_)
        refine lv_iconst (v := 1) hx hb dX11_areTwo_54 (by decide) ?_
        exact g_zret C hR hS bz1 h dX11_areTwo_55
      · have h := ite_t c11 h
        refine lv_aload_n hx hb dX11_areTwo_45 rfl (lv_at hl 0 rfl) ?_
        obtain ⟨r14, S15, hr14, h⟩ := bd_e h
        refine g_ci hS (g_runV C hR hS (k := 54) (As := []) (rest := []) (c_X11_fails l  hr14) (live_st (by decide)) rfl (vw11) m_X11_fails q1203 ⟨rfl, rfl⟩ ⟨Nat.le_of_ble_eq_true rfl, Nat.le_of_ble_eq_true rfl⟩ rfl hl.1 rfl (Nat.le_of_ble_eq_true rfl) dX11_areTwo_46 ⟨Nat.zero_le _, Nat.zero_le _⟩) (fun H locs hR hS => ?_)
        obtain ⟨hz, h⟩ := gd_e h
        exact g_zret C hR hS hz h dX11_areTwo_49
    · have h := ite_t c8 h
      refine lv_iconst (v := 0) hx hb dX11_areTwo_24 (by decide) ?_
      exact g_zret C hR hS bz0 h dX11_areTwo_25

/-! OneVoiceModel.isRowOfText(I)Z -/
abbrev rm_X11_isRowOfText : Room := { frames := 4, cells := 0, slots := 0, locals := 86 }
theorem m_X11_isRowOfText : MV yX11_isRowOfText RX11 cX11_isRowOfText 2 (some .boolean) 1 := ⟨q1181, q43, q77, q1182, by decide +kernel⟩
def f_X11_isRowOfText (v1 : Int32) (S : St) : Option (Int32 × St) :=
  bd_ (f_X11_nextToken  S) fun r3 S4 =>
  lt_ (fun (t5 : Int32) (t6 : Int32) (S7 : St) =>
      gd_ (inb t5 110) <|
      lt_ (wr S7 66 (Int32.toNatClampNeg t5) t6) fun S8 =>
      gd_ (inb v1 110) <|
      lt_ (fun  (S11 : St) =>
          bd_ (f_X11_areTwo v1 S11) fun r12 S13 =>
          gd_ (bz r12) <| some (r12, S13)) fun J217 =>
      if (rd S8 66 (Int32.toNatClampNeg v1)) = (0 : Int32) then
        bd_ (f_X11_isNumber (v1 + (1 : Int32)) (0 : Int32) (31 : Int32) S8) fun r15 S16 =>
        lt_ (fun  (S17 : St) =>
            some ((0 : Int32), S17)) fun J160 =>
        if r15 = 0 then
          J160  S16
        else
          bd_ (f_X11_isIs  S16) fun r19 S20 =>
          if r19 = 0 then
            J160  S20
          else
            bd_ (f_X11_isRow v1 S20) fun r22 S23 =>
            if r22 = 0 then
              J160  S23
            else
              some ((1 : Int32), S23)
      else
      if (rd S8 66 (Int32.toNatClampNeg v1)) = (1 : Int32) then
        bd_ (f_X11_isNumber (v1 + (1 : Int32)) (0 : Int32) (7 : Int32) S8) fun r26 S27 =>
        lt_ (fun  (S28 : St) =>
            some ((0 : Int32), S28)) fun J194 =>
        if r26 = 0 then
          J194  S27
        else
          bd_ (f_X11_isIs  S27) fun r30 S31 =>
          if r30 = 0 then
            J194  S31
          else
            bd_ (f_X11_areParts v1 S31) fun r33 S34 =>
            if r33 = 0 then
              J194  S34
            else
              some ((1 : Int32), S34)
      else
      if (rd S8 66 (Int32.toNatClampNeg v1)) = (2 : Int32) then
        bd_ (f_X11_isNumber (v1 + (1 : Int32)) (0 : Int32) (99 : Int32) S8) fun r37 S38 =>
        if r37 = 0 then
          some ((0 : Int32), S38)
        else
          bd_ (f_X11_nextToken  S38) fun r40 S41 =>
          some ((1 : Int32), S41)
      else
      if (rd S8 66 (Int32.toNatClampNeg v1)) = (3 : Int32) then
        J217  S8
      else
      if (rd S8 66 (Int32.toNatClampNeg v1)) = (4 : Int32) then
        J217  S8
      else
      bd_ (f_X11_fails  S8) fun r44 S45 =>
      gd_ (bz r44) <| some (r44, S45)) fun J85 =>
  if (lg_cmp (rl S4 54 16) (464134 : Int64)) = 0 then
    J85 v1 (0 : Int32) S4
  else
    if (lg_cmp (rl S4 54 16) (243140 : Int64)) = 0 then
      J85 v1 (1 : Int32) S4
    else
      if (lg_cmp (rl S4 54 16) (2774 : Int64)) = 0 then
        J85 v1 (2 : Int32) S4
      else
        if (lg_cmp (rl S4 54 16) (279252 : Int64)) = 0 then
          J85 v1 (3 : Int32) S4
        else
          if (lg_cmp (rl S4 54 16) (4419 : Int64)) = 0 then
            J85 v1 (4 : Int32) S4
          else
            J85 v1 (-1 : Int32) S4

set_option maxHeartbeats 4000000 in
set_option maxRecDepth 100000 in
theorem c_X11_isRowOfText (l : Launch) {E : En} {α : Nat → Nat} {g : Nat × Nat} {v1 : Int32} {S : St}  {z : Int32 × St} (h : f_X11_isRowOfText v1 S = some z) : Met l yX11_isRowOfText (wsY yX11_isRowOfText cX11_isRowOfText 2 (some .boolean)) rm_X11_isRowOfText (va_Pc [.ref (α 54), .int v1] (Wd E α g S)) (Qi E α g z) 0 0 E.2.2.1 := by
  refine g_met [.ref (α 54), .int v1] (by decide) rfl (Nat.le_of_ble_eq_true rfl) ?_
  intro p e s m below meth c ls C hR hl
  generalize hae : ([.ref (α 54), .int v1] : List Value).toArray = args at C ⊢
  have hl : lv_has ls 2 [(0, .ref (α 54)), (1, .int v1)] := hl
  obtain ⟨hx, hb, hml, hown, hts, hlk, hrt, hKs⟩ := id C
  have hS : va_S E.2.2.1 s.heap s.heap [] := va_S.rf
  unfold f_X11_isRowOfText at h
  refine lv_aload_n hx hb dX11_isRowOfText_0 rfl (lv_at hl 0 rfl) ?_
  obtain ⟨r3, S4, hr3, h⟩ := bd_e h
  refine g_cv hS (g_runV C hR hS (k := 54) (As := []) (rest := []) (c_X11_nextToken l  hr3) (live_st (by decide)) rfl (vw11) m_X11_nextToken q1183 ⟨rfl, rfl⟩ ⟨Nat.le_of_ble_eq_true rfl, Nat.le_of_ble_eq_true rfl⟩ rfl hl.1 rfl (Nat.le_of_ble_eq_true rfl) dX11_isRowOfText_1 ⟨Nat.zero_le _, Nat.zero_le _⟩) (fun H locs hR hS => ?_)
  refine lv_aload_n hx hb dX11_isRowOfText_4 rfl (lv_at hl 0 rfl) ?_
  refine g_getr (t := 66) C hR (k := 54) (j := 21) (live_st (by decide)) rfl rfl (vw11) inl11 (by decide) q964 dX11_isRowOfText_5 ?_
  refine lv_iload_n hx hb dX11_isRowOfText_8 rfl (lv_at hl 1 rfl) ?_
  refine lv_aload_n hx hb dX11_isRowOfText_9 rfl (lv_at hl 0 rfl) ?_
  refine g_getl C hR (k := 54) (j := 16) (live_st (by decide)) rfl rfl (vw11) inl11 (by decide) q959 dX11_isRowOfText_10 ?_
  refine lv_ldc2 (v := 464134) hx hb hown (hts _ q1194) dX11_isRowOfText_13 ?_
  refine W.lcmp hx hb dX11_isRowOfText_16 ?_
  obtain ⟨J85, eJ85, h⟩ := lt_e h
  have hJ85 : ∀ (t5 : Int32) (t6 : Int32) (S7 : St) (H : Heap) (locs : List Loc) (ls : Array Slot), Rp E α g S7 H → va_S E.2.2.1 s.heap H locs → lv_has ls 2 [(0, .ref (α 54)), (1, .int v1)] → J85 t5 t6 S7 = some z → W p l e rm_X11_isRowOfText s m args below meth c H locs 0 0 (MQ below (Qi E α g z) args s 0 0 E.2.2.1) (F0 m 85 ls [.int t6, .int t5, .ref (α 66)]) := by
    intro t5 t6 S7 H locs ls  hR hS hl h
    rw [eJ85] at h
    obtain ⟨g9, h⟩ := gd_e h
    obtain ⟨S8, eS8, h⟩ := lt_e h
    refine g_iast C hR hS (k := 66) (n := 110) (live_st (by decide)) rfl g9 eS8 dX11_isRowOfText_85 (fun H locs hR hS => ?_)
    refine lv_aload_n hx hb dX11_isRowOfText_86 rfl (lv_at hl 0 rfl) ?_
    refine g_getr (t := 66) C hR (k := 54) (j := 21) (live_st (by decide)) rfl rfl (vw11) inl11 (by decide) q964 dX11_isRowOfText_87 ?_
    refine lv_iload_n hx hb dX11_isRowOfText_90 rfl (lv_at hl 1 rfl) ?_
    obtain ⟨g10, h⟩ := gd_e h
    refine g_iald C hR (k := 66) (n := 110) (live_st (by decide)) rfl g10 dX11_isRowOfText_91 ?_
    obtain ⟨J217, eJ217, h⟩ := lt_e h
    have hJ217 : ∀ (S11 : St) (H : Heap) (locs : List Loc) (ls : Array Slot), Rp E α g S11 H → va_S E.2.2.1 s.heap H locs → lv_has ls 2 [(0, .ref (α 54)), (1, .int v1)] → J217  S11 = some z → W p l e rm_X11_isRowOfText s m args below meth c H locs 0 0 (MQ below (Qi E α g z) args s 0 0 E.2.2.1) (F0 m 217 ls []) := by
      intro  S11 H locs ls  hR hS hl h
      rw [eJ217] at h
      refine lv_aload_n hx hb dX11_isRowOfText_217 rfl (lv_at hl 0 rfl) ?_
      refine lv_iload_n hx hb dX11_isRowOfText_218 rfl (lv_at hl 1 rfl) ?_
      obtain ⟨r12, S13, hr12, h⟩ := bd_e h
      refine g_ci hS (g_runV C hR hS (k := 54) (As := [.int v1]) (rest := []) (c_X11_areTwo l  hr12) (live_st (by decide)) rfl (vw11) m_X11_areTwo q1220 ⟨rfl, rfl⟩ ⟨Nat.le_of_ble_eq_true rfl, Nat.le_of_ble_eq_true rfl⟩ rfl hl.1 rfl (Nat.le_of_ble_eq_true rfl) dX11_isRowOfText_219 ⟨Nat.zero_le _, Nat.zero_le _⟩) (fun H locs hR hS => ?_)
      obtain ⟨hz, h⟩ := gd_e h
      exact g_zret C hR hS hz h dX11_isRowOfText_222
    clear eJ217
    by_cases c14 : (rd S8 66 (Int32.toNatClampNeg v1)) = (0 : Int32)
    · have h := ite_t c14 h
      refine lv_tableIn (off := 36) (tgt := 128) hx hb dX11_isRowOfText_92 (by rw [c14]; decide) (by rw [c14]; decide) (by rw [c14]; rfl) (by decide) ?_
      refine lv_aload_n hx hb dX11_isRowOfText_128 rfl (lv_at hl 0 rfl) ?_
      refine lv_iload_n hx hb dX11_isRowOfText_129 rfl (lv_at hl 1 rfl) ?_
      refine lv_iconst (v := 1) hx hb dX11_isRowOfText_130 (by decide) ?_
      refine lv_iadd hx hb dX11_isRowOfText_131 ?_
      refine lv_iconst (v := 0) hx hb dX11_isRowOfText_132 (by decide) ?_
      refine lv_bipush (v := 31) hx hb dX11_isRowOfText_133 (by decide) ?_
      obtain ⟨r15, S16, hr15, h⟩ := bd_e h
      refine g_ci hS (g_runV C hR hS (k := 54) (As := [.int (v1 + (1 : Int32)), .int (0 : Int32), .int (31 : Int32)]) (rest := []) (c_X11_isNumber l  hr15) (live_st (by decide)) rfl (vw11) m_X11_isNumber q1199 ⟨rfl, rfl⟩ ⟨Nat.le_of_ble_eq_true rfl, Nat.le_of_ble_eq_true rfl⟩ rfl hl.1 rfl (Nat.le_of_ble_eq_true rfl) dX11_isRowOfText_135 ⟨Nat.zero_le _, Nat.zero_le _⟩) (fun H locs hR hS => ?_)
      obtain ⟨J160, eJ160, h⟩ := lt_e h
      have hJ160 : ∀ (S17 : St) (H : Heap) (locs : List Loc) (ls : Array Slot), Rp E α g S17 H → va_S E.2.2.1 s.heap H locs → lv_has ls 2 [] → J160  S17 = some z → W p l e rm_X11_isRowOfText s m args below meth c H locs 0 0 (MQ below (Qi E α g z) args s 0 0 E.2.2.1) (F0 m 160 ls []) := by
        intro  S17 H locs ls  hR hS hl h
        rw [eJ160] at h
        refine lv_iconst (v := 0) hx hb dX11_isRowOfText_160 (by decide) ?_
        exact g_zret C hR hS bz0 h dX11_isRowOfText_161
      clear eJ160
      refine lv_if_eq (tgt := 160) hx hb dX11_isRowOfText_138 (by decide) (fun c18 => ?_) (fun c18 => ?_)
      · have h := ite_t c18 h
        exact hJ160  _ _ _ _  hR hS (lv_sub hl [] rfl) h
      · have h := ite_f c18 h
        refine lv_aload_n hx hb dX11_isRowOfText_141 rfl (lv_at hl 0 rfl) ?_
        obtain ⟨r19, S20, hr19, h⟩ := bd_e h
        refine g_ci hS (g_runV C hR hS (k := 54) (As := []) (rest := []) (c_X11_isIs l  hr19) (live_st (by decide)) rfl (vw11) m_X11_isIs q1207 ⟨rfl, rfl⟩ ⟨Nat.le_of_ble_eq_true rfl, Nat.le_of_ble_eq_true rfl⟩ rfl hl.1 rfl (Nat.le_of_ble_eq_true rfl) dX11_isRowOfText_142 ⟨Nat.zero_le _, Nat.zero_le _⟩) (fun H locs hR hS => ?_)
        refine lv_if_eq (tgt := 160) hx hb dX11_isRowOfText_145 (by decide) (fun c21 => ?_) (fun c21 => ?_)
        · have h := ite_t c21 h
          exact hJ160  _ _ _ _  hR hS (lv_sub hl [] rfl) h
        · have h := ite_f c21 h
          refine lv_aload_n hx hb dX11_isRowOfText_148 rfl (lv_at hl 0 rfl) ?_
          refine lv_iload_n hx hb dX11_isRowOfText_149 rfl (lv_at hl 1 rfl) ?_
          obtain ⟨r22, S23, hr22, h⟩ := bd_e h
          refine g_ci hS (g_runV C hR hS (k := 54) (As := [.int v1]) (rest := []) (c_X11_isRow l  hr22) (live_st (by decide)) rfl (vw11) m_X11_isRow q1212 ⟨rfl, rfl⟩ ⟨Nat.le_of_ble_eq_true rfl, Nat.le_of_ble_eq_true rfl⟩ rfl hl.1 rfl (Nat.le_of_ble_eq_true rfl) dX11_isRowOfText_150 ⟨Nat.zero_le _, Nat.zero_le _⟩) (fun H locs hR hS => ?_)
          refine lv_if_eq (tgt := 160) hx hb dX11_isRowOfText_153 (by decide) (fun c24 => ?_) (fun c24 => ?_)
          · have h := ite_t c24 h
            exact hJ160  _ _ _ _  hR hS (lv_sub hl [] rfl) h
          · have h := ite_f c24 h
            refine lv_iconst (v := 1) hx hb dX11_isRowOfText_156 (by decide) ?_
            refine lv_goto (tgt := 161) hx hb dX11_isRowOfText_157 (by decide) ?_
            exact g_zret C hR hS bz1 h dX11_isRowOfText_161
    have h := ite_f c14 h
    by_cases c25 : (rd S8 66 (Int32.toNatClampNeg v1)) = (1 : Int32)
    · have h := ite_t c25 h
      refine lv_tableIn (off := 70) (tgt := 162) hx hb dX11_isRowOfText_92 (by rw [c25]; decide) (by rw [c25]; decide) (by rw [c25]; rfl) (by decide) ?_
      refine lv_aload_n hx hb dX11_isRowOfText_162 rfl (lv_at hl 0 rfl) ?_
      refine lv_iload_n hx hb dX11_isRowOfText_163 rfl (lv_at hl 1 rfl) ?_
      refine lv_iconst (v := 1) hx hb dX11_isRowOfText_164 (by decide) ?_
      refine lv_iadd hx hb dX11_isRowOfText_165 ?_
      refine lv_iconst (v := 0) hx hb dX11_isRowOfText_166 (by decide) ?_
      refine lv_bipush (v := 7) hx hb dX11_isRowOfText_167 (by decide) ?_
      obtain ⟨r26, S27, hr26, h⟩ := bd_e h
      refine g_ci hS (g_runV C hR hS (k := 54) (As := [.int (v1 + (1 : Int32)), .int (0 : Int32), .int (7 : Int32)]) (rest := []) (c_X11_isNumber l  hr26) (live_st (by decide)) rfl (vw11) m_X11_isNumber q1199 ⟨rfl, rfl⟩ ⟨Nat.le_of_ble_eq_true rfl, Nat.le_of_ble_eq_true rfl⟩ rfl hl.1 rfl (Nat.le_of_ble_eq_true rfl) dX11_isRowOfText_169 ⟨Nat.zero_le _, Nat.zero_le _⟩) (fun H locs hR hS => ?_)
      obtain ⟨J194, eJ194, h⟩ := lt_e h
      have hJ194 : ∀ (S28 : St) (H : Heap) (locs : List Loc) (ls : Array Slot), Rp E α g S28 H → va_S E.2.2.1 s.heap H locs → lv_has ls 2 [] → J194  S28 = some z → W p l e rm_X11_isRowOfText s m args below meth c H locs 0 0 (MQ below (Qi E α g z) args s 0 0 E.2.2.1) (F0 m 194 ls []) := by
        intro  S28 H locs ls  hR hS hl h
        rw [eJ194] at h
        refine lv_iconst (v := 0) hx hb dX11_isRowOfText_194 (by decide) ?_
        exact g_zret C hR hS bz0 h dX11_isRowOfText_195
      clear eJ194
      refine lv_if_eq (tgt := 194) hx hb dX11_isRowOfText_172 (by decide) (fun c29 => ?_) (fun c29 => ?_)
      · have h := ite_t c29 h
        exact hJ194  _ _ _ _  hR hS (lv_sub hl [] rfl) h
      · have h := ite_f c29 h
        refine lv_aload_n hx hb dX11_isRowOfText_175 rfl (lv_at hl 0 rfl) ?_
        obtain ⟨r30, S31, hr30, h⟩ := bd_e h
        refine g_ci hS (g_runV C hR hS (k := 54) (As := []) (rest := []) (c_X11_isIs l  hr30) (live_st (by decide)) rfl (vw11) m_X11_isIs q1207 ⟨rfl, rfl⟩ ⟨Nat.le_of_ble_eq_true rfl, Nat.le_of_ble_eq_true rfl⟩ rfl hl.1 rfl (Nat.le_of_ble_eq_true rfl) dX11_isRowOfText_176 ⟨Nat.zero_le _, Nat.zero_le _⟩) (fun H locs hR hS => ?_)
        refine lv_if_eq (tgt := 194) hx hb dX11_isRowOfText_179 (by decide) (fun c32 => ?_) (fun c32 => ?_)
        · have h := ite_t c32 h
          exact hJ194  _ _ _ _  hR hS (lv_sub hl [] rfl) h
        · have h := ite_f c32 h
          refine lv_aload_n hx hb dX11_isRowOfText_182 rfl (lv_at hl 0 rfl) ?_
          refine lv_iload_n hx hb dX11_isRowOfText_183 rfl (lv_at hl 1 rfl) ?_
          obtain ⟨r33, S34, hr33, h⟩ := bd_e h
          refine g_ci hS (g_runV C hR hS (k := 54) (As := [.int v1]) (rest := []) (c_X11_areParts l  hr33) (live_st (by decide)) rfl (vw11) m_X11_areParts q1216 ⟨rfl, rfl⟩ ⟨Nat.le_of_ble_eq_true rfl, Nat.le_of_ble_eq_true rfl⟩ rfl hl.1 rfl (Nat.le_of_ble_eq_true rfl) dX11_isRowOfText_184 ⟨Nat.zero_le _, Nat.zero_le _⟩) (fun H locs hR hS => ?_)
          refine lv_if_eq (tgt := 194) hx hb dX11_isRowOfText_187 (by decide) (fun c35 => ?_) (fun c35 => ?_)
          · have h := ite_t c35 h
            exact hJ194  _ _ _ _  hR hS (lv_sub hl [] rfl) h
          · have h := ite_f c35 h
            refine lv_iconst (v := 1) hx hb dX11_isRowOfText_190 (by decide) ?_
            refine lv_goto (tgt := 195) hx hb dX11_isRowOfText_191 (by decide) ?_
            exact g_zret C hR hS bz1 h dX11_isRowOfText_195
    have h := ite_f c25 h
    by_cases c36 : (rd S8 66 (Int32.toNatClampNeg v1)) = (2 : Int32)
    · have h := ite_t c36 h
      refine lv_tableIn (off := 104) (tgt := 196) hx hb dX11_isRowOfText_92 (by rw [c36]; decide) (by rw [c36]; decide) (by rw [c36]; rfl) (by decide) ?_
      refine lv_aload_n hx hb dX11_isRowOfText_196 rfl (lv_at hl 0 rfl) ?_
      refine lv_iload_n hx hb dX11_isRowOfText_197 rfl (lv_at hl 1 rfl) ?_
      refine lv_iconst (v := 1) hx hb dX11_isRowOfText_198 (by decide) ?_
      refine lv_iadd hx hb dX11_isRowOfText_199 ?_
      refine lv_iconst (v := 0) hx hb dX11_isRowOfText_200 (by decide) ?_
      refine lv_bipush (v := 99) hx hb dX11_isRowOfText_201 (by decide) ?_
      obtain ⟨r37, S38, hr37, h⟩ := bd_e h
      refine g_ci hS (g_runV C hR hS (k := 54) (As := [.int (v1 + (1 : Int32)), .int (0 : Int32), .int (99 : Int32)]) (rest := []) (c_X11_isNumber l  hr37) (live_st (by decide)) rfl (vw11) m_X11_isNumber q1199 ⟨rfl, rfl⟩ ⟨Nat.le_of_ble_eq_true rfl, Nat.le_of_ble_eq_true rfl⟩ rfl hl.1 rfl (Nat.le_of_ble_eq_true rfl) dX11_isRowOfText_203 ⟨Nat.zero_le _, Nat.zero_le _⟩) (fun H locs hR hS => ?_)
      refine lv_if_ne (tgt := 211) hx hb dX11_isRowOfText_206 (by decide) (fun c39 => ?_) (fun c39 => ?_)
      · have h := ite_f c39 h
        refine lv_aload_n hx hb dX11_isRowOfText_211 rfl (lv_at hl 0 rfl) ?_
        obtain ⟨r40, S41, hr40, h⟩ := bd_e h
        refine g_cv hS (g_runV C hR hS (k := 54) (As := []) (rest := []) (c_X11_nextToken l  hr40) (live_st (by decide)) rfl (vw11) m_X11_nextToken q1183 ⟨rfl, rfl⟩ ⟨Nat.le_of_ble_eq_true rfl, Nat.le_of_ble_eq_true rfl⟩ rfl hl.1 rfl (Nat.le_of_ble_eq_true rfl) dX11_isRowOfText_212 ⟨Nat.zero_le _, Nat.zero_le _⟩) (fun H locs hR hS => ?_)
        refine lv_iconst (v := 1) hx hb dX11_isRowOfText_215 (by decide) ?_
        exact g_zret C hR hS bz1 h dX11_isRowOfText_216
      · have h := ite_t c39 h
        refine lv_iconst (v := 0) hx hb dX11_isRowOfText_209 (by decide) ?_
        exact g_zret C hR hS bz0 h dX11_isRowOfText_210
    have h := ite_f c36 h
    by_cases c42 : (rd S8 66 (Int32.toNatClampNeg v1)) = (3 : Int32)
    · have h := ite_t c42 h
      refine lv_tableIn (off := 125) (tgt := 217) hx hb dX11_isRowOfText_92 (by rw [c42]; decide) (by rw [c42]; decide) (by rw [c42]; rfl) (by decide) ?_
      exact hJ217  _ _ _ _  hR hS hl h
    have h := ite_f c42 h
    by_cases c43 : (rd S8 66 (Int32.toNatClampNeg v1)) = (4 : Int32)
    · have h := ite_t c43 h
      refine lv_tableIn (off := 125) (tgt := 217) hx hb dX11_isRowOfText_92 (by rw [c43]; decide) (by rw [c43]; decide) (by rw [c43]; rfl) (by decide) ?_
      exact hJ217  _ _ _ _  hR hS hl h
    have h := ite_f c43 h
    have c14 := tsw_ne (k := 0) c14 (by decide)
    have c25 := tsw_ne (k := 1) c25 (by decide)
    have c36 := tsw_ne (k := 2) c36 (by decide)
    have c42 := tsw_ne (k := 3) c42 (by decide)
    have c43 := tsw_ne (k := 4) c43 (by decide)
    refine lv_tableOut (tgt := 223) hx hb dX11_isRowOfText_92 (by omega) (by decide) ?_
    refine lv_aload_n hx hb dX11_isRowOfText_223 rfl (lv_at hl 0 rfl) ?_
    obtain ⟨r44, S45, hr44, h⟩ := bd_e h
    refine g_ci hS (g_runV C hR hS (k := 54) (As := []) (rest := []) (c_X11_fails l  hr44) (live_st (by decide)) rfl (vw11) m_X11_fails q1203 ⟨rfl, rfl⟩ ⟨Nat.le_of_ble_eq_true rfl, Nat.le_of_ble_eq_true rfl⟩ rfl hl.1 rfl (Nat.le_of_ble_eq_true rfl) dX11_isRowOfText_224 ⟨Nat.zero_le _, Nat.zero_le _⟩) (fun H locs hR hS => ?_)
    obtain ⟨hz, h⟩ := gd_e h
    exact g_zret C hR hS hz h dX11_isRowOfText_227
  clear eJ85
  refine lv_if_ne (tgt := 24) hx hb dX11_isRowOfText_17 (by decide) (fun c46 => ?_) (fun c46 => ?_)
  · have h := ite_f c46 h
    refine lv_aload_n hx hb dX11_isRowOfText_24 rfl (lv_at hl 0 rfl) ?_
    refine g_getl C hR (k := 54) (j := 16) (live_st (by decide)) rfl rfl (vw11) inl11 (by decide) q959 dX11_isRowOfText_25 ?_
    refine lv_ldc2 (v := 243140) hx hb hown (hts _ q1195) dX11_isRowOfText_28 ?_
    refine W.lcmp hx hb dX11_isRowOfText_31 ?_
    refine lv_if_ne (tgt := 39) hx hb dX11_isRowOfText_32 (by decide) (fun c47 => ?_) (fun c47 => ?_)
    · have h := ite_f c47 h
      refine lv_aload_n hx hb dX11_isRowOfText_39 rfl (lv_at hl 0 rfl) ?_
      refine g_getl C hR (k := 54) (j := 16) (live_st (by decide)) rfl rfl (vw11) inl11 (by decide) q959 dX11_isRowOfText_40 ?_
      refine lv_ldc2 (v := 2774) hx hb hown (hts _ q1196) dX11_isRowOfText_43 ?_
      refine W.lcmp hx hb dX11_isRowOfText_46 ?_
      refine lv_if_ne (tgt := 54) hx hb dX11_isRowOfText_47 (by decide) (fun c48 => ?_) (fun c48 => ?_)
      · have h := ite_f c48 h
        refine lv_aload_n hx hb dX11_isRowOfText_54 rfl (lv_at hl 0 rfl) ?_
        refine g_getl C hR (k := 54) (j := 16) (live_st (by decide)) rfl rfl (vw11) inl11 (by decide) q959 dX11_isRowOfText_55 ?_
        refine lv_ldc2 (v := 279252) hx hb hown (hts _ q1197) dX11_isRowOfText_58 ?_
        refine W.lcmp hx hb dX11_isRowOfText_61 ?_
        refine lv_if_ne (tgt := 69) hx hb dX11_isRowOfText_62 (by decide) (fun c49 => ?_) (fun c49 => ?_)
        · have h := ite_f c49 h
          refine lv_aload_n hx hb dX11_isRowOfText_69 rfl (lv_at hl 0 rfl) ?_
          refine g_getl C hR (k := 54) (j := 16) (live_st (by decide)) rfl rfl (vw11) inl11 (by decide) q959 dX11_isRowOfText_70 ?_
          refine lv_ldc2 (v := 4419) hx hb hown (hts _ q1198) dX11_isRowOfText_73 ?_
          refine W.lcmp hx hb dX11_isRowOfText_76 ?_
          refine lv_if_ne (tgt := 84) hx hb dX11_isRowOfText_77 (by decide) (fun c50 => ?_) (fun c50 => ?_)
          · have h := ite_f c50 h
            refine lv_iconst (v := -1) hx hb dX11_isRowOfText_84 (by decide) ?_
            exact hJ85 _ _ _ _ _ _  hR hS hl h
          · have h := ite_t c50 h
            refine lv_iconst (v := 4) hx hb dX11_isRowOfText_80 (by decide) ?_
            refine lv_goto (tgt := 85) hx hb dX11_isRowOfText_81 (by decide) ?_
            exact hJ85 _ _ _ _ _ _  hR hS hl h
        · have h := ite_t c49 h
          refine lv_iconst (v := 3) hx hb dX11_isRowOfText_65 (by decide) ?_
          refine lv_goto (tgt := 85) hx hb dX11_isRowOfText_66 (by decide) ?_
          exact hJ85 _ _ _ _ _ _  hR hS hl h
      · have h := ite_t c48 h
        refine lv_iconst (v := 2) hx hb dX11_isRowOfText_50 (by decide) ?_
        refine lv_goto (tgt := 85) hx hb dX11_isRowOfText_51 (by decide) ?_
        exact hJ85 _ _ _ _ _ _  hR hS hl h
    · have h := ite_t c47 h
      refine lv_iconst (v := 1) hx hb dX11_isRowOfText_35 (by decide) ?_
      refine lv_goto (tgt := 85) hx hb dX11_isRowOfText_36 (by decide) ?_
      exact hJ85 _ _ _ _ _ _  hR hS hl h
  · have h := ite_t c46 h
    refine lv_iconst (v := 0) hx hb dX11_isRowOfText_20 (by decide) ?_
    refine lv_goto (tgt := 85) hx hb dX11_isRowOfText_21 (by decide) ?_
    exact hJ85 _ _ _ _ _ _  hR hS hl h

/-! OneVoiceModel.isRead()Z -/
abbrev rm_X11_isRead : Room := { frames := 5, cells := 0, slots := 0, locals := 107 }
theorem m_X11_isRead : MV yX11_isRead RX11 cX11_isRead 2 (some .boolean) 0 := ⟨q1177, q42, q77, q1178, by decide +kernel⟩
def f_X11_isRead_L12 (K30 : St → Option (Int32 × St)) (K71 : St → Option (Int32 × St))  : Nat → Int32 → St → Option (Int32 × St)
  | 0, _, _ => none
  | f + 1, v1, S =>
    if v1 = 0 then
      K71  S
    else
      bd_ (f_X11_isRowOfText ((11 : Int32) * (rd S 54 20)) S) fun r7 S8 =>
      if r7 = 0 then
        K30  S8
      else
        lt_ (wr S8 54 20 ((rd S8 54 20) + (1 : Int32))) fun S10 =>
        lt_ (fun (t11 : Int32) (S12 : St) =>
            f_X11_isRead_L12 K30 K71 f t11 S12) fun J67 =>
        lt_ (fun  (S13 : St) =>
            J67 (0 : Int32) S13) fun J66 =>
        if (lg_cmp (rl S10 54 16) (-3 : Int64)) = 0 then
          if (10 : Int32) ≤ (rd S10 54 20) then
            J66  S10
          else
            J67 (1 : Int32) S10
        else
          J66  S10

def f_X11_isRead  (S : St) : Option (Int32 × St) :=
  lt_ (wr S 54 14 (0 : Int32)) fun S4 =>
  lt_ (wr S4 54 20 (0 : Int32)) fun S5 =>
  f_X11_isRead_L12
    (fun  (S16 : St) =>
      some ((0 : Int32), S16))
    (fun  (S17 : St) =>
      lt_ (fun  (S18 : St) =>
          some ((1 : Int32), S18)) fun J89 =>
      if (lg_cmp (rl S17 54 16) (-2 : Int64)) = 0 then
        J89  S17
      else
        bd_ (f_X11_fails  S17) fun r20 S21 =>
        if r20 = 0 then
          some ((0 : Int32), S21)
        else
          J89  S21)
     FU (1 : Int32) S5

set_option maxHeartbeats 4000000 in
set_option maxRecDepth 100000 in
theorem w_X11_isRead_L12 {p : Program} {l : Launch} {e : Env} {s : State} {m : MethodId} {args : Array Value} {below : List Frame} {meth : Method} {c : Code} {E : En} {α : Nat → Nat} {g : Nat × Nat} (C : Cx p s m args meth c RX11 cX11_isRead 2 (some .boolean) E) {z : Int32 × St} {K30 : St → Option (Int32 × St)} {K71 : St → Option (Int32 × St)}
    (hK30 : ∀ (S : St) (H : Heap) (locs : List Loc) (ls : Array Slot), Rp E α g S H → va_S E.2.2.1 s.heap H locs → lv_has ls 2 [] → K30  S = some z → W p l e rm_X11_isRead s m args below meth c H locs 0 0 (MQ below (Qi E α g z) args s 0 0 E.2.2.1) (F0 m 30 ls []))
    (hK71 : ∀ (S : St) (H : Heap) (locs : List Loc) (ls : Array Slot), Rp E α g S H → va_S E.2.2.1 s.heap H locs → lv_has ls 2 [(0, .ref (α 54))] → K71  S = some z → W p l e rm_X11_isRead s m args below meth c H locs 0 0 (MQ below (Qi E α g z) args s 0 0 E.2.2.1) (F0 m 71 ls [])) :
    ∀ (f : Nat) (v1 : Int32) (S : St) (H : Heap) (locs : List Loc) (ls : Array Slot), Rp E α g S H → va_S E.2.2.1 s.heap H locs → lv_has ls 2 [(0, .ref (α 54)), (1, .int v1)] → f_X11_isRead_L12 K30 K71 f v1 S = some z → W p l e rm_X11_isRead s m args below meth c H locs 0 0 (MQ below (Qi E α g z) args s 0 0 E.2.2.1) (F0 m 12 ls []) := by
  obtain ⟨hx, hb, hml, hown, hts, hlk, hrt, hKs⟩ := id C
  intro f
  induction f with
  | zero =>
    intro v1 S H locs ls  hR hS hl h
    rw [f_X11_isRead_L12] at h
    cases h
  | succ f ih =>
    intro v1 S H locs ls  hR hS hl h
    rw [f_X11_isRead_L12] at h
    refine lv_iload_n hx hb dX11_isRead_12 rfl (lv_at hl 1 rfl) ?_
    refine lv_if_eq (tgt := 71) hx hb dX11_isRead_13 (by decide) (fun c6 => ?_) (fun c6 => ?_)
    · have h := ite_t c6 h
      exact hK71  _ _ _ _  hR hS (lv_sub hl [0] rfl) h
    · have h := ite_f c6 h
      refine lv_aload_n hx hb dX11_isRead_16 rfl (lv_at hl 0 rfl) ?_
      refine lv_bipush (v := 11) hx hb dX11_isRead_17 (by decide) ?_
      refine lv_aload_n hx hb dX11_isRead_19 rfl (lv_at hl 0 rfl) ?_
      refine g_geti C hR (k := 54) (j := 20) (live_st (by decide)) rfl rfl (vw11) inl11 (by decide) q963 dX11_isRead_20 ?_
      refine lv_imul hx hb dX11_isRead_23 ?_
      obtain ⟨r7, S8, hr7, h⟩ := bd_e h
      refine g_ci hS (g_runV C hR hS (k := 54) (As := [.int ((11 : Int32) * (rd S 54 20))]) (rest := []) (c_X11_isRowOfText l  hr7) (live_st (by decide)) rfl (vw11) m_X11_isRowOfText q1179 ⟨rfl, rfl⟩ ⟨Nat.le_of_ble_eq_true rfl, Nat.le_of_ble_eq_true rfl⟩ rfl hl.1 rfl (Nat.le_of_ble_eq_true rfl) dX11_isRead_24 ⟨Nat.zero_le _, Nat.zero_le _⟩) (fun H locs hR hS => ?_)
      refine lv_if_ne (tgt := 32) hx hb dX11_isRead_27 (by decide) (fun c9 => ?_) (fun c9 => ?_)
      · have h := ite_f c9 h
        refine lv_aload_n hx hb dX11_isRead_32 rfl (lv_at hl 0 rfl) ?_
        refine lv_dup hx hb dX11_isRead_33 rfl ?_
        refine g_geti C hR (k := 54) (j := 20) (live_st (by decide)) rfl rfl (vw11) inl11 (by decide) q963 dX11_isRead_34 ?_
        refine lv_iconst (v := 1) hx hb dX11_isRead_37 (by decide) ?_
        refine lv_iadd hx hb dX11_isRead_38 ?_
        obtain ⟨S10, eS10, h⟩ := lt_e h
        refine g_puti C hR hS (k := 54) (j := 20) (live_st (by decide)) rfl rfl (vw11) inl11 (by decide) (ty0 := tyX11) tyX11_ok nmX11 q963 rfl rfl rfl eS10 dX11_isRead_39 (fun H locs hR hS => ?_)
        refine lv_aload_n hx hb dX11_isRead_42 rfl (lv_at hl 0 rfl) ?_
        refine g_getl C hR (k := 54) (j := 16) (live_st (by decide)) rfl rfl (vw11) inl11 (by decide) q959 dX11_isRead_43 ?_
        refine lv_ldc2 (v := -3) hx hb hown (hts _ q1192) dX11_isRead_46 ?_
        refine W.lcmp hx hb dX11_isRead_49 ?_
        obtain ⟨J67, eJ67, h⟩ := lt_e h
        have hJ67 : ∀ (t11 : Int32) (S12 : St) (H : Heap) (locs : List Loc) (ls : Array Slot), Rp E α g S12 H → va_S E.2.2.1 s.heap H locs → lv_has ls 2 [(0, .ref (α 54))] → J67 t11 S12 = some z → W p l e rm_X11_isRead s m args below meth c H locs 0 0 (MQ below (Qi E α g z) args s 0 0 E.2.2.1) (F0 m 67 ls [.int t11]) := by
          intro t11 S12 H locs ls  hR hS hl h
          rw [eJ67] at h
          refine lv_istore_n (lv' := [(1, .int t11), (0, .ref (α 54))]) hx hb dX11_isRead_67 rfl hl (by decide) rfl (fun ls hl => ?_)
          refine lv_goto (tgt := 12) hx hb dX11_isRead_68 (by decide) ?_
          exact ih _ _ _ _ _  hR hS (lv_sub hl [1, 0] rfl) h
        clear eJ67
        obtain ⟨J66, eJ66, h⟩ := lt_e h
        have hJ66 : ∀ (S13 : St) (H : Heap) (locs : List Loc) (ls : Array Slot), Rp E α g S13 H → va_S E.2.2.1 s.heap H locs → lv_has ls 2 [(0, .ref (α 54))] → J66  S13 = some z → W p l e rm_X11_isRead s m args below meth c H locs 0 0 (MQ below (Qi E α g z) args s 0 0 E.2.2.1) (F0 m 66 ls []) := by
          intro  S13 H locs ls  hR hS hl h
          rw [eJ66] at h
          refine lv_iconst (v := 0) hx hb dX11_isRead_66 (by decide) ?_
          exact hJ67 _ _ _ _ _  hR hS hl h
        clear eJ66
        refine lv_if_ne (tgt := 66) hx hb dX11_isRead_50 (by decide) (fun c14 => ?_) (fun c14 => ?_)
        · have h := ite_f c14 h
          exact hJ66  _ _ _ _  hR hS (lv_sub hl [0] rfl) h
        · have h := ite_t c14 h
          refine lv_aload_n hx hb dX11_isRead_53 rfl (lv_at hl 0 rfl) ?_
          refine g_geti C hR (k := 54) (j := 20) (live_st (by decide)) rfl rfl (vw11) inl11 (by decide) q963 dX11_isRead_54 ?_
          refine lv_bipush (v := 10) hx hb dX11_isRead_57 (by decide) ?_
          refine lv_icmp_ge (tgt := 66) hx hb dX11_isRead_59 (by decide) (fun c15 => ?_) (fun c15 => ?_)
          · have h := ite_t c15 h
            exact hJ66  _ _ _ _  hR hS (lv_sub hl [0] rfl) h
          · have h := ite_f c15 h
            refine lv_iconst (v := 1) hx hb dX11_isRead_62 (by decide) ?_
            refine lv_goto (tgt := 67) hx hb dX11_isRead_63 (by decide) ?_
            exact hJ67 _ _ _ _ _  hR hS (lv_sub hl [0] rfl) h
      · have h := ite_t c9 h
        exact hK30  _ _ _ _  hR hS (lv_sub hl [] rfl) h

set_option maxHeartbeats 4000000 in
set_option maxRecDepth 100000 in
theorem c_X11_isRead (l : Launch) {E : En} {α : Nat → Nat} {g : Nat × Nat}  {S : St}  {z : Int32 × St} (h : f_X11_isRead  S = some z) : Met l yX11_isRead (wsY yX11_isRead cX11_isRead 2 (some .boolean)) rm_X11_isRead (va_Pc [.ref (α 54)] (Wd E α g S)) (Qi E α g z) 0 0 E.2.2.1 := by
  refine g_met [.ref (α 54)] (by decide) rfl (Nat.le_of_ble_eq_true rfl) ?_
  intro p e s m below meth c ls C hR hl
  generalize hae : ([.ref (α 54)] : List Value).toArray = args at C ⊢
  have hl : lv_has ls 2 [(0, .ref (α 54))] := hl
  obtain ⟨hx, hb, hml, hown, hts, hlk, hrt, hKs⟩ := id C
  have hS : va_S E.2.2.1 s.heap s.heap [] := va_S.rf
  unfold f_X11_isRead at h
  refine lv_aload_n hx hb dX11_isRead_0 rfl (lv_at hl 0 rfl) ?_
  refine lv_iconst (v := 0) hx hb dX11_isRead_1 (by decide) ?_
  obtain ⟨S4, eS4, h⟩ := lt_e h
  refine g_puti C hR hS (k := 54) (j := 14) (live_st (by decide)) rfl rfl (vw11) inl11 (by decide) (ty0 := tyX11) tyX11_ok nmX11 q957 rfl rfl rfl eS4 dX11_isRead_2 (fun H locs hR hS => ?_)
  refine lv_aload_n hx hb dX11_isRead_5 rfl (lv_at hl 0 rfl) ?_
  refine lv_iconst (v := 0) hx hb dX11_isRead_6 (by decide) ?_
  obtain ⟨S5, eS5, h⟩ := lt_e h
  refine g_puti C hR hS (k := 54) (j := 20) (live_st (by decide)) rfl rfl (vw11) inl11 (by decide) (ty0 := tyX11) tyX11_ok nmX11 q963 rfl rfl rfl eS5 dX11_isRead_7 (fun H locs hR hS => ?_)
  refine lv_iconst (v := 1) hx hb dX11_isRead_10 (by decide) ?_
  refine lv_istore_n (lv' := [(1, .int (1 : Int32)), (0, .ref (α 54))]) hx hb dX11_isRead_11 rfl hl (by decide) rfl (fun ls hl => ?_)
  refine w_X11_isRead_L12 C ?_ ?_  _ _ _ _ _ _  hR hS (lv_sub hl [1, 0] rfl) h
  · intro  S16 H locs ls  hR hS hl h
    refine lv_iconst (v := 0) hx hb dX11_isRead_30 (by decide) ?_
    exact g_zret C hR hS bz0 h dX11_isRead_31
  · intro  S17 H locs ls  hR hS hl h
    refine lv_aload_n hx hb dX11_isRead_71 rfl (lv_at hl 0 rfl) ?_
    refine g_getl C hR (k := 54) (j := 16) (live_st (by decide)) rfl rfl (vw11) inl11 (by decide) q959 dX11_isRead_72 ?_
    refine lv_ldc2 (v := -2) hx hb hown (hts _ q1187) dX11_isRead_75 ?_
    refine W.lcmp hx hb dX11_isRead_78 ?_
    obtain ⟨J89, eJ89, h⟩ := lt_e h
    have hJ89 : ∀ (S18 : St) (H : Heap) (locs : List Loc) (ls : Array Slot), Rp E α g S18 H → va_S E.2.2.1 s.heap H locs → lv_has ls 2 [] → J89  S18 = some z → W p l e rm_X11_isRead s m args below meth c H locs 0 0 (MQ below (Qi E α g z) args s 0 0 E.2.2.1) (F0 m 89 ls []) := by
      intro  S18 H locs ls  hR hS hl h
      rw [eJ89] at h
      refine lv_iconst (v := 1) hx hb dX11_isRead_89 (by decide) ?_
      refine lv_goto (tgt := 94) hx hb dX11_isRead_90 (by decide) ?_
      exact g_zret C hR hS bz1 h dX11_isRead_94
    clear eJ89
    refine lv_if_eq (tgt := 89) hx hb dX11_isRead_79 (by decide) (fun c19 => ?_) (fun c19 => ?_)
    · have h := ite_t c19 h
      exact hJ89  _ _ _ _  hR hS (lv_sub hl [] rfl) h
    · have h := ite_f c19 h
      refine lv_aload_n hx hb dX11_isRead_82 rfl (lv_at hl 0 rfl) ?_
      obtain ⟨r20, S21, hr20, h⟩ := bd_e h
      refine g_ci hS (g_runV C hR hS (k := 54) (As := []) (rest := []) (c_X11_fails l  hr20) (live_st (by decide)) rfl (vw11) m_X11_fails q1203 ⟨rfl, rfl⟩ ⟨Nat.le_of_ble_eq_true rfl, Nat.le_of_ble_eq_true rfl⟩ rfl hl.1 rfl (Nat.le_of_ble_eq_true rfl) dX11_isRead_83 ⟨Nat.zero_le _, Nat.zero_le _⟩) (fun H locs hR hS => ?_)
      refine lv_if_eq (tgt := 93) hx hb dX11_isRead_86 (by decide) (fun c22 => ?_) (fun c22 => ?_)
      · have h := ite_t c22 h
        refine lv_iconst (v := 0) hx hb dX11_isRead_93 (by decide) ?_
        exact g_zret C hR hS bz0 h dX11_isRead_94
      · have h := ite_f c22 h
        exact hJ89  _ _ _ _  hR hS (lv_sub hl [] rfl) h

/-! OneVoiceModel.fault()I -/
abbrev rm_X11_fault : Room := { frames := 6, cells := 0, slots := 0, locals := 128 }
theorem m_X11_fault : MV yX11_fault RX11 cX11_fault 1 (some .int) 0 := ⟨q1172, q1173, q77, q1174, by decide +kernel⟩
def f_X11_fault  (S : St) : Option (Int32 × St) :=
  bd_ (f_X11_isRead  S) fun r1 S2 =>
  if r1 = 0 then
    some ((rd S2 54 19), S2)
  else
    some ((-1 : Int32), S2)

set_option maxHeartbeats 4000000 in
set_option maxRecDepth 100000 in
theorem c_X11_fault (l : Launch) {E : En} {α : Nat → Nat} {g : Nat × Nat}  {S : St}  {z : Int32 × St} (h : f_X11_fault  S = some z) : Met l yX11_fault (wsY yX11_fault cX11_fault 1 (some .int)) rm_X11_fault (va_Pc [.ref (α 54)] (Wd E α g S)) (Qi E α g z) 0 0 E.2.2.1 := by
  refine g_met [.ref (α 54)] (by decide) rfl (Nat.le_of_ble_eq_true rfl) ?_
  intro p e s m below meth c ls C hR hl
  generalize hae : ([.ref (α 54)] : List Value).toArray = args at C ⊢
  have hl : lv_has ls 1 [(0, .ref (α 54))] := hl
  obtain ⟨hx, hb, hml, hown, hts, hlk, hrt, hKs⟩ := id C
  have hS : va_S E.2.2.1 s.heap s.heap [] := va_S.rf
  unfold f_X11_fault at h
  refine lv_aload_n hx hb dX11_fault_0 rfl (lv_at hl 0 rfl) ?_
  obtain ⟨r1, S2, hr1, h⟩ := bd_e h
  refine g_ci hS (g_runV C hR hS (k := 54) (As := []) (rest := []) (c_X11_isRead l  hr1) (live_st (by decide)) rfl (vw11) m_X11_isRead q1175 ⟨rfl, rfl⟩ ⟨Nat.le_of_ble_eq_true rfl, Nat.le_of_ble_eq_true rfl⟩ rfl hl.1 rfl (Nat.le_of_ble_eq_true rfl) dX11_fault_1 ⟨Nat.zero_le _, Nat.zero_le _⟩) (fun H locs hR hS => ?_)
  refine lv_if_eq (tgt := 11) hx hb dX11_fault_4 (by decide) (fun c3 => ?_) (fun c3 => ?_)
  · have h := ite_t c3 h
    refine lv_aload_n hx hb dX11_fault_11 rfl (lv_at hl 0 rfl) ?_
    refine g_geti C hR (k := 54) (j := 19) (live_st (by decide)) rfl rfl (vw11) inl11 (by decide) q962 dX11_fault_12 ?_
    exact g_iret C hR hS h dX11_fault_15
  · have h := ite_f c3 h
    refine lv_iconst (v := -1) hx hb dX11_fault_7 (by decide) ?_
    refine lv_goto (tgt := 15) hx hb dX11_fault_8 (by decide) ?_
    exact g_iret C hR hS h dX11_fault_15

/-! OneVoiceModel.doRow(I)V -/
abbrev rm_X11_doRow : Room := { frames := 0, cells := 0, slots := 0, locals := 0 }
theorem m_X11_doRow : MV yX11_doRow RX11 cX11_doRow 5 none 1 := ⟨q1230, q51, q77, q1231, by decide +kernel⟩
def f_X11_doRow_L66 (K101 : St → Option (Unit × St)) (v1 : Int32) (v2 : Int32) (v3 : Int32) : Nat → Int32 → St → Option (Unit × St)
  | 0, _, _ => none
  | f + 1, v4, S =>
    if v3 ≤ v4 then
      K101  S
    else
      gd_ (inb ((v1 + (3 : Int32)) + v4) 110) <|
      gd_ (inb (((8 : Int32) * v2) + v4) 256) <|
      lt_ (wr S 68 (Int32.toNatClampNeg (((8 : Int32) * v2) + v4)) (rd S 66 (Int32.toNatClampNeg ((v1 + (3 : Int32)) + v4)))) fun S33 =>
      lt_ (v4 + (1 : Int32)) fun x35 =>
      f_X11_doRow_L66 K101 v1 v2 v3 f x35 S33

def f_X11_doRow_L114 (K149 : St → Option (Unit × St)) (v1 : Int32) (v2 : Int32) (v3 : Int32) : Nat → Int32 → St → Option (Unit × St)
  | 0, _, _ => none
  | f + 1, v4, S =>
    if v3 ≤ v4 then
      K149  S
    else
      gd_ (inb ((v1 + (3 : Int32)) + v4) 110) <|
      gd_ (inb (((8 : Int32) * v2) + v4) 64) <|
      lt_ (wr S 70 (Int32.toNatClampNeg (((8 : Int32) * v2) + v4)) (rd S 66 (Int32.toNatClampNeg ((v1 + (3 : Int32)) + v4)))) fun S42 =>
      lt_ (v4 + (1 : Int32)) fun x44 =>
      f_X11_doRow_L114 K149 v1 v2 v3 f x44 S42

def f_X11_doRow (v1 : Int32) (S : St) : Option (Unit × St) :=
  gd_ (inb (v1 + (1 : Int32)) 110) <|
  lt_ (rd S 66 (Int32.toNatClampNeg (v1 + (1 : Int32)))) fun x24 =>
  gd_ (inb (v1 + (2 : Int32)) 110) <|
  lt_ (rd S 66 (Int32.toNatClampNeg (v1 + (2 : Int32)))) fun x26 =>
  gd_ (inb v1 110) <|
  if (rd S 66 (Int32.toNatClampNeg v1)) = (0 : Int32) then
    gd_ (inb x24 32) <|
    lt_ (wr S 67 (Int32.toNatClampNeg x24) x26) fun S29 =>
    f_X11_doRow_L66
      (fun  (S36 : St) =>
        some ((), S36))
      v1 x24 x26 FU (0 : Int32) S29
  else
  if (rd S 66 (Int32.toNatClampNeg v1)) = (1 : Int32) then
    gd_ (inb x24 8) <|
    lt_ (wr S 69 (Int32.toNatClampNeg x24) x26) fun S38 =>
    f_X11_doRow_L114
      (fun  (S45 : St) =>
        some ((), S45))
      v1 x24 x26 FU (0 : Int32) S38
  else
  if (rd S 66 (Int32.toNatClampNeg v1)) = (2 : Int32) then
    lt_ (wr S 54 7 x24) fun S47 =>
    some ((), S47)
  else
  if (rd S 66 (Int32.toNatClampNeg v1)) = (3 : Int32) then
    gd_ (inb x24 6) <|
    gd_ (inb x24 6) <|
    lt_ (wr S 72 (Int32.toNatClampNeg x24) ((rd S 72 (Int32.toNatClampNeg x24)) ||| ((1 : Int32) <<< (x26 &&& 31)))) fun S50 =>
    gd_ (inb x26 6) <|
    gd_ (inb x26 6) <|
    lt_ (wr S50 72 (Int32.toNatClampNeg x26) ((rd S50 72 (Int32.toNatClampNeg x26)) ||| ((1 : Int32) <<< (x24 &&& 31)))) fun S53 =>
    some ((), S53)
  else
  gd_ (inb x24 6) <|
  gd_ (inb x24 6) <|
  lt_ (wr S 72 (Int32.toNatClampNeg x24) ((rd S 72 (Int32.toNatClampNeg x24)) &&& (((1 : Int32) <<< (x26 &&& 31)) ^^^ (-1 : Int32)))) fun S56 =>
  gd_ (inb x26 6) <|
  gd_ (inb x26 6) <|
  lt_ (wr S56 72 (Int32.toNatClampNeg x26) ((rd S56 72 (Int32.toNatClampNeg x26)) &&& (((1 : Int32) <<< (x24 &&& 31)) ^^^ (-1 : Int32)))) fun S59 =>
  some ((), S59)

set_option maxHeartbeats 4000000 in
set_option maxRecDepth 100000 in
theorem w_X11_doRow_L66 {p : Program} {l : Launch} {e : Env} {s : State} {m : MethodId} {args : Array Value} {below : List Frame} {meth : Method} {c : Code} {E : En} {α : Nat → Nat} {g : Nat × Nat} (C : Cx p s m args meth c RX11 cX11_doRow 5 none E) {z : Unit × St} {K101 : St → Option (Unit × St)} {v1 : Int32} {v2 : Int32} {v3 : Int32}
    (hK101 : ∀ (S : St) (H : Heap) (locs : List Loc) (ls : Array Slot), Rp E α g S H → va_S E.2.2.1 s.heap H locs → lv_has ls 5 [] → K101  S = some z → W p l e rm_X11_doRow s m args below meth c H locs 0 0 (MQ below (Qv E α g z) args s 0 0 E.2.2.1) (F0 m 101 ls [])) :
    ∀ (f : Nat) (v4 : Int32) (S : St) (H : Heap) (locs : List Loc) (ls : Array Slot), Rp E α g S H → va_S E.2.2.1 s.heap H locs → lv_has ls 5 [(0, .ref (α 54)), (1, .int v1), (2, .int v2), (3, .int v3), (4, .int v4)] → f_X11_doRow_L66 K101 v1 v2 v3 f v4 S = some z → W p l e rm_X11_doRow s m args below meth c H locs 0 0 (MQ below (Qv E α g z) args s 0 0 E.2.2.1) (F0 m 66 ls []) := by
  obtain ⟨hx, hb, hml, hown, hts, hlk, hrt, hKs⟩ := id C
  intro f
  induction f with
  | zero =>
    intro v4 S H locs ls  hR hS hl h
    rw [f_X11_doRow_L66] at h
    cases h
  | succ f ih =>
    intro v4 S H locs ls  hR hS hl h
    rw [f_X11_doRow_L66] at h
    refine lv_iload hx hb dX11_doRow_66 (lv_at hl 4 rfl) ?_
    refine lv_iload_n hx hb dX11_doRow_68 rfl (lv_at hl 3 rfl) ?_
    refine lv_icmp_ge (tgt := 101) hx hb dX11_doRow_69 (by decide) (fun c31 => ?_) (fun c31 => ?_)
    · have h := ite_t c31 h
      exact hK101  _ _ _ _  hR hS (lv_sub hl [] rfl) h
    · have h := ite_f c31 h
      refine lv_aload_n hx hb dX11_doRow_72 rfl (lv_at hl 0 rfl) ?_
      refine g_getr (t := 68) C hR (k := 54) (j := 23) (live_st (by decide)) rfl rfl (vw11) inl11 (by decide) q966 dX11_doRow_73 ?_
      refine lv_bipush (v := 8) hx hb dX11_doRow_76 (by decide) ?_
      refine lv_iload_n hx hb dX11_doRow_78 rfl (lv_at hl 2 rfl) ?_
      refine lv_imul hx hb dX11_doRow_79 ?_
      refine lv_iload hx hb dX11_doRow_80 (lv_at hl 4 rfl) ?_
      refine lv_iadd hx hb dX11_doRow_82 ?_
      refine lv_aload_n hx hb dX11_doRow_83 rfl (lv_at hl 0 rfl) ?_
      refine g_getr (t := 66) C hR (k := 54) (j := 21) (live_st (by decide)) rfl rfl (vw11) inl11 (by decide) q964 dX11_doRow_84 ?_
      refine lv_iload_n hx hb dX11_doRow_87 rfl (lv_at hl 1 rfl) ?_
      refine lv_iconst (v := 3) hx hb dX11_doRow_88 (by decide) ?_
      refine lv_iadd hx hb dX11_doRow_89 ?_
      refine lv_iload hx hb dX11_doRow_90 (lv_at hl 4 rfl) ?_
      refine lv_iadd hx hb dX11_doRow_92 ?_
      obtain ⟨g32, h⟩ := gd_e h
      refine g_iald C hR (k := 66) (n := 110) (live_st (by decide)) rfl g32 dX11_doRow_93 ?_
      obtain ⟨g34, h⟩ := gd_e h
      obtain ⟨S33, eS33, h⟩ := lt_e h
      refine g_iast C hR hS (k := 68) (n := 256) (live_st (by decide)) rfl g34 eS33 dX11_doRow_94 (fun H locs hR hS => ?_)
      obtain ⟨x35, ex35, h⟩ := lt_e h
      refine lv_iinc (v := x35) (lv' := [(4, .int x35), (0, .ref (α 54)), (1, .int v1), (2, .int v2), (3, .int v3)]) hx hb dX11_doRow_95 hl (k := 4) rfl (by rw [ex35]; rfl) (by decide) rfl (fun ls hl => ?_)
      refine lv_goto (tgt := 66) hx hb dX11_doRow_98 (by decide) ?_
      exact ih _ _ _ _ _  hR hS (lv_sub hl [1, 2, 3, 4, 0] rfl) h

set_option maxHeartbeats 4000000 in
set_option maxRecDepth 100000 in
theorem w_X11_doRow_L114 {p : Program} {l : Launch} {e : Env} {s : State} {m : MethodId} {args : Array Value} {below : List Frame} {meth : Method} {c : Code} {E : En} {α : Nat → Nat} {g : Nat × Nat} (C : Cx p s m args meth c RX11 cX11_doRow 5 none E) {z : Unit × St} {K149 : St → Option (Unit × St)} {v1 : Int32} {v2 : Int32} {v3 : Int32}
    (hK149 : ∀ (S : St) (H : Heap) (locs : List Loc) (ls : Array Slot), Rp E α g S H → va_S E.2.2.1 s.heap H locs → lv_has ls 5 [] → K149  S = some z → W p l e rm_X11_doRow s m args below meth c H locs 0 0 (MQ below (Qv E α g z) args s 0 0 E.2.2.1) (F0 m 149 ls [])) :
    ∀ (f : Nat) (v4 : Int32) (S : St) (H : Heap) (locs : List Loc) (ls : Array Slot), Rp E α g S H → va_S E.2.2.1 s.heap H locs → lv_has ls 5 [(0, .ref (α 54)), (1, .int v1), (2, .int v2), (3, .int v3), (4, .int v4)] → f_X11_doRow_L114 K149 v1 v2 v3 f v4 S = some z → W p l e rm_X11_doRow s m args below meth c H locs 0 0 (MQ below (Qv E α g z) args s 0 0 E.2.2.1) (F0 m 114 ls []) := by
  obtain ⟨hx, hb, hml, hown, hts, hlk, hrt, hKs⟩ := id C
  intro f
  induction f with
  | zero =>
    intro v4 S H locs ls  hR hS hl h
    rw [f_X11_doRow_L114] at h
    cases h
  | succ f ih =>
    intro v4 S H locs ls  hR hS hl h
    rw [f_X11_doRow_L114] at h
    refine lv_iload hx hb dX11_doRow_114 (lv_at hl 4 rfl) ?_
    refine lv_iload_n hx hb dX11_doRow_116 rfl (lv_at hl 3 rfl) ?_
    refine lv_icmp_ge (tgt := 149) hx hb dX11_doRow_117 (by decide) (fun c40 => ?_) (fun c40 => ?_)
    · have h := ite_t c40 h
      exact hK149  _ _ _ _  hR hS (lv_sub hl [] rfl) h
    · have h := ite_f c40 h
      refine lv_aload_n hx hb dX11_doRow_120 rfl (lv_at hl 0 rfl) ?_
      refine g_getr (t := 70) C hR (k := 54) (j := 25) (live_st (by decide)) rfl rfl (vw11) inl11 (by decide) q968 dX11_doRow_121 ?_
      refine lv_bipush (v := 8) hx hb dX11_doRow_124 (by decide) ?_
      refine lv_iload_n hx hb dX11_doRow_126 rfl (lv_at hl 2 rfl) ?_
      refine lv_imul hx hb dX11_doRow_127 ?_
      refine lv_iload hx hb dX11_doRow_128 (lv_at hl 4 rfl) ?_
      refine lv_iadd hx hb dX11_doRow_130 ?_
      refine lv_aload_n hx hb dX11_doRow_131 rfl (lv_at hl 0 rfl) ?_
      refine g_getr (t := 66) C hR (k := 54) (j := 21) (live_st (by decide)) rfl rfl (vw11) inl11 (by decide) q964 dX11_doRow_132 ?_
      refine lv_iload_n hx hb dX11_doRow_135 rfl (lv_at hl 1 rfl) ?_
      refine lv_iconst (v := 3) hx hb dX11_doRow_136 (by decide) ?_
      refine lv_iadd hx hb dX11_doRow_137 ?_
      refine lv_iload hx hb dX11_doRow_138 (lv_at hl 4 rfl) ?_
      refine lv_iadd hx hb dX11_doRow_140 ?_
      obtain ⟨g41, h⟩ := gd_e h
      refine g_iald C hR (k := 66) (n := 110) (live_st (by decide)) rfl g41 dX11_doRow_141 ?_
      obtain ⟨g43, h⟩ := gd_e h
      obtain ⟨S42, eS42, h⟩ := lt_e h
      refine g_iast C hR hS (k := 70) (n := 64) (live_st (by decide)) rfl g43 eS42 dX11_doRow_142 (fun H locs hR hS => ?_)
      obtain ⟨x44, ex44, h⟩ := lt_e h
      refine lv_iinc (v := x44) (lv' := [(4, .int x44), (0, .ref (α 54)), (1, .int v1), (2, .int v2), (3, .int v3)]) hx hb dX11_doRow_143 hl (k := 4) rfl (by rw [ex44]; rfl) (by decide) rfl (fun ls hl => ?_)
      refine lv_goto (tgt := 114) hx hb dX11_doRow_146 (by decide) ?_
      exact ih _ _ _ _ _  hR hS (lv_sub hl [1, 2, 3, 4, 0] rfl) h

set_option maxHeartbeats 4000000 in
set_option maxRecDepth 100000 in
theorem c_X11_doRow (l : Launch) {E : En} {α : Nat → Nat} {g : Nat × Nat} {v1 : Int32} {S : St}  {z : Unit × St} (h : f_X11_doRow v1 S = some z) : Met l yX11_doRow (wsY yX11_doRow cX11_doRow 5 none) rm_X11_doRow (va_Pc [.ref (α 54), .int v1] (Wd E α g S)) (Qv E α g z) 0 0 E.2.2.1 := by
  refine g_met [.ref (α 54), .int v1] (by decide) rfl (Nat.le_of_ble_eq_true rfl) ?_
  intro p e s m below meth c ls C hR hl
  generalize hae : ([.ref (α 54), .int v1] : List Value).toArray = args at C ⊢
  have hl : lv_has ls 5 [(0, .ref (α 54)), (1, .int v1)] := hl
  obtain ⟨hx, hb, hml, hown, hts, hlk, hrt, hKs⟩ := id C
  have hS : va_S E.2.2.1 s.heap s.heap [] := va_S.rf
  unfold f_X11_doRow at h
  refine lv_aload_n hx hb dX11_doRow_0 rfl (lv_at hl 0 rfl) ?_
  refine g_getr (t := 66) C hR (k := 54) (j := 21) (live_st (by decide)) rfl rfl (vw11) inl11 (by decide) q964 dX11_doRow_1 ?_
  refine lv_iload_n hx hb dX11_doRow_4 rfl (lv_at hl 1 rfl) ?_
  refine lv_iconst (v := 1) hx hb dX11_doRow_5 (by decide) ?_
  refine lv_iadd hx hb dX11_doRow_6 ?_
  obtain ⟨g23, h⟩ := gd_e h
  refine g_iald C hR (k := 66) (n := 110) (live_st (by decide)) rfl g23 dX11_doRow_7 ?_
  obtain ⟨x24, ex24, h⟩ := lt_e h
  refine g_nmi ex24 ?_
  refine lv_istore_n (lv' := [(2, .int x24), (0, .ref (α 54)), (1, .int v1)]) hx hb dX11_doRow_8 rfl hl (by decide) rfl (fun ls hl => ?_)
  refine lv_aload_n hx hb dX11_doRow_9 rfl (lv_at hl 1 rfl) ?_
  refine g_getr (t := 66) C hR (k := 54) (j := 21) (live_st (by decide)) rfl rfl (vw11) inl11 (by decide) q964 dX11_doRow_10 ?_
  refine lv_iload_n hx hb dX11_doRow_13 rfl (lv_at hl 2 rfl) ?_
  refine lv_iconst (v := 2) hx hb dX11_doRow_14 (by decide) ?_
  refine lv_iadd hx hb dX11_doRow_15 ?_
  obtain ⟨g25, h⟩ := gd_e h
  refine g_iald C hR (k := 66) (n := 110) (live_st (by decide)) rfl g25 dX11_doRow_16 ?_
  obtain ⟨x26, ex26, h⟩ := lt_e h
  refine g_nmi ex26 ?_
  refine lv_istore_n (lv' := [(3, .int x26), (2, .int x24), (0, .ref (α 54)), (1, .int v1)]) hx hb dX11_doRow_17 rfl hl (by decide) rfl (fun ls hl => ?_)
  refine lv_aload_n hx hb dX11_doRow_18 rfl (lv_at hl 2 rfl) ?_
  refine g_getr (t := 66) C hR (k := 54) (j := 21) (live_st (by decide)) rfl rfl (vw11) inl11 (by decide) q964 dX11_doRow_19 ?_
  refine lv_iload_n hx hb dX11_doRow_22 rfl (lv_at hl 3 rfl) ?_
  obtain ⟨g27, h⟩ := gd_e h
  refine g_iald C hR (k := 66) (n := 110) (live_st (by decide)) rfl g27 dX11_doRow_23 ?_
  by_cases c28 : (rd S 66 (Int32.toNatClampNeg v1)) = (0 : Int32)
  · have h := ite_t c28 h
    refine lv_tableIn (off := 32) (tgt := 56) hx hb dX11_doRow_24 (by rw [c28]; decide) (by rw [c28]; decide) (by rw [c28]; rfl) (by decide) ?_
    refine lv_aload_n hx hb dX11_doRow_56 rfl (lv_at hl 2 rfl) ?_
    refine g_getr (t := 67) C hR (k := 54) (j := 22) (live_st (by decide)) rfl rfl (vw11) inl11 (by decide) q965 dX11_doRow_57 ?_
    refine lv_iload_n hx hb dX11_doRow_60 rfl (lv_at hl 1 rfl) ?_
    refine lv_iload_n hx hb dX11_doRow_61 rfl (lv_at hl 0 rfl) ?_
    obtain ⟨g30, h⟩ := gd_e h
    obtain ⟨S29, eS29, h⟩ := lt_e h
    refine g_iast C hR hS (k := 67) (n := 32) (live_st (by decide)) rfl g30 eS29 dX11_doRow_62 (fun H locs hR hS => ?_)
    refine lv_iconst (v := 0) hx hb dX11_doRow_63 (by decide) ?_
    refine lv_istore (lv' := [(4, .int (0 : Int32)), (3, .int x26), (2, .int x24), (0, .ref (α 54)), (1, .int v1)]) hx hb dX11_doRow_64 hl (by decide) rfl (fun ls hl => ?_)
    refine w_X11_doRow_L66 C ?_  _ _ _ _ _ _  hR hS (lv_sub hl [3, 4, 2, 1, 0] rfl) h
    · intro  S36 H locs ls  hR hS hl h
      refine lv_goto (tgt := 231) hx hb dX11_doRow_101 (by decide) ?_
      exact g_vret C hR hS h dX11_doRow_231
  have h := ite_f c28 h
  by_cases c37 : (rd S 66 (Int32.toNatClampNeg v1)) = (1 : Int32)
  · have h := ite_t c37 h
    refine lv_tableIn (off := 80) (tgt := 104) hx hb dX11_doRow_24 (by rw [c37]; decide) (by rw [c37]; decide) (by rw [c37]; rfl) (by decide) ?_
    refine lv_aload_n hx hb dX11_doRow_104 rfl (lv_at hl 2 rfl) ?_
    refine g_getr (t := 69) C hR (k := 54) (j := 24) (live_st (by decide)) rfl rfl (vw11) inl11 (by decide) q967 dX11_doRow_105 ?_
    refine lv_iload_n hx hb dX11_doRow_108 rfl (lv_at hl 1 rfl) ?_
    refine lv_iload_n hx hb dX11_doRow_109 rfl (lv_at hl 0 rfl) ?_
    obtain ⟨g39, h⟩ := gd_e h
    obtain ⟨S38, eS38, h⟩ := lt_e h
    refine g_iast C hR hS (k := 69) (n := 8) (live_st (by decide)) rfl g39 eS38 dX11_doRow_110 (fun H locs hR hS => ?_)
    refine lv_iconst (v := 0) hx hb dX11_doRow_111 (by decide) ?_
    refine lv_istore (lv' := [(4, .int (0 : Int32)), (3, .int x26), (2, .int x24), (0, .ref (α 54)), (1, .int v1)]) hx hb dX11_doRow_112 hl (by decide) rfl (fun ls hl => ?_)
    refine w_X11_doRow_L114 C ?_  _ _ _ _ _ _  hR hS (lv_sub hl [3, 4, 2, 1, 0] rfl) h
    · intro  S45 H locs ls  hR hS hl h
      refine lv_goto (tgt := 231) hx hb dX11_doRow_149 (by decide) ?_
      exact g_vret C hR hS h dX11_doRow_231
  have h := ite_f c37 h
  by_cases c46 : (rd S 66 (Int32.toNatClampNeg v1)) = (2 : Int32)
  · have h := ite_t c46 h
    refine lv_tableIn (off := 128) (tgt := 152) hx hb dX11_doRow_24 (by rw [c46]; decide) (by rw [c46]; decide) (by rw [c46]; rfl) (by decide) ?_
    refine lv_aload_n hx hb dX11_doRow_152 rfl (lv_at hl 2 rfl) ?_
    refine lv_iload_n hx hb dX11_doRow_153 rfl (lv_at hl 1 rfl) ?_
    obtain ⟨S47, eS47, h⟩ := lt_e h
    refine g_puti C hR hS (k := 54) (j := 7) (live_st (by decide)) rfl rfl (vw11) inl11 (by decide) (ty0 := tyX11) tyX11_ok nmX11 q950 rfl rfl rfl eS47 dX11_doRow_154 (fun H locs hR hS => ?_)
    refine lv_goto (tgt := 231) hx hb dX11_doRow_157 (by decide) ?_
    exact g_vret C hR hS h dX11_doRow_231
  have h := ite_f c46 h
  by_cases c48 : (rd S 66 (Int32.toNatClampNeg v1)) = (3 : Int32)
  · have h := ite_t c48 h
    refine lv_tableIn (off := 136) (tgt := 160) hx hb dX11_doRow_24 (by rw [c48]; decide) (by rw [c48]; decide) (by rw [c48]; rfl) (by decide) ?_
    refine lv_aload_n hx hb dX11_doRow_160 rfl (lv_at hl 2 rfl) ?_
    refine g_getr (t := 72) C hR (k := 54) (j := 28) (live_st (by decide)) rfl rfl (vw11) inl11 (by decide) q971 dX11_doRow_161 ?_
    refine lv_iload_n hx hb dX11_doRow_164 rfl (lv_at hl 1 rfl) ?_
    refine lv_aload_n hx hb dX11_doRow_165 rfl (lv_at hl 2 rfl) ?_
    refine g_getr (t := 72) C hR (k := 54) (j := 28) (live_st (by decide)) rfl rfl (vw11) inl11 (by decide) q971 dX11_doRow_166 ?_
    refine lv_iload_n hx hb dX11_doRow_169 rfl (lv_at hl 1 rfl) ?_
    obtain ⟨g49, h⟩ := gd_e h
    refine g_iald C hR (k := 72) (n := 6) (live_st (by decide)) rfl g49 dX11_doRow_170 ?_
    refine lv_iconst (v := 1) hx hb dX11_doRow_171 (by decide) ?_
    refine lv_iload_n hx hb dX11_doRow_172 rfl (lv_at hl 0 rfl) ?_
    refine lv_ishl hx hb dX11_doRow_173 ?_
    refine lv_ior hx hb dX11_doRow_174 ?_
    obtain ⟨g51, h⟩ := gd_e h
    obtain ⟨S50, eS50, h⟩ := lt_e h
    refine g_iast C hR hS (k := 72) (n := 6) (live_st (by decide)) rfl g51 eS50 dX11_doRow_175 (fun H locs hR hS => ?_)
    refine lv_aload_n hx hb dX11_doRow_176 rfl (lv_at hl 2 rfl) ?_
    refine g_getr (t := 72) C hR (k := 54) (j := 28) (live_st (by decide)) rfl rfl (vw11) inl11 (by decide) q971 dX11_doRow_177 ?_
    refine lv_iload_n hx hb dX11_doRow_180 rfl (lv_at hl 0 rfl) ?_
    refine lv_aload_n hx hb dX11_doRow_181 rfl (lv_at hl 2 rfl) ?_
    refine g_getr (t := 72) C hR (k := 54) (j := 28) (live_st (by decide)) rfl rfl (vw11) inl11 (by decide) q971 dX11_doRow_182 ?_
    refine lv_iload_n hx hb dX11_doRow_185 rfl (lv_at hl 0 rfl) ?_
    obtain ⟨g52, h⟩ := gd_e h
    refine g_iald C hR (k := 72) (n := 6) (live_st (by decide)) rfl g52 dX11_doRow_186 ?_
    refine lv_iconst (v := 1) hx hb dX11_doRow_187 (by decide) ?_
    refine lv_iload_n hx hb dX11_doRow_188 rfl (lv_at hl 1 rfl) ?_
    refine lv_ishl hx hb dX11_doRow_189 ?_
    refine lv_ior hx hb dX11_doRow_190 ?_
    obtain ⟨g54, h⟩ := gd_e h
    obtain ⟨S53, eS53, h⟩ := lt_e h
    refine g_iast C hR hS (k := 72) (n := 6) (live_st (by decide)) rfl g54 eS53 dX11_doRow_191 (fun H locs hR hS => ?_)
    refine lv_goto (tgt := 231) hx hb dX11_doRow_192 (by decide) ?_
    exact g_vret C hR hS h dX11_doRow_231
  have h := ite_f c48 h
  have c28 := tsw_ne (k := 0) c28 (by decide)
  have c37 := tsw_ne (k := 1) c37 (by decide)
  have c46 := tsw_ne (k := 2) c46 (by decide)
  have c48 := tsw_ne (k := 3) c48 (by decide)
  refine lv_tableOut (tgt := 195) hx hb dX11_doRow_24 (by omega) (by decide) ?_
  refine lv_aload_n hx hb dX11_doRow_195 rfl (lv_at hl 2 rfl) ?_
  refine g_getr (t := 72) C hR (k := 54) (j := 28) (live_st (by decide)) rfl rfl (vw11) inl11 (by decide) q971 dX11_doRow_196 ?_
  refine lv_iload_n hx hb dX11_doRow_199 rfl (lv_at hl 1 rfl) ?_
  refine lv_aload_n hx hb dX11_doRow_200 rfl (lv_at hl 2 rfl) ?_
  refine g_getr (t := 72) C hR (k := 54) (j := 28) (live_st (by decide)) rfl rfl (vw11) inl11 (by decide) q971 dX11_doRow_201 ?_
  refine lv_iload_n hx hb dX11_doRow_204 rfl (lv_at hl 1 rfl) ?_
  obtain ⟨g55, h⟩ := gd_e h
  refine g_iald C hR (k := 72) (n := 6) (live_st (by decide)) rfl g55 dX11_doRow_205 ?_
  refine lv_iconst (v := 1) hx hb dX11_doRow_206 (by decide) ?_
  refine lv_iload_n hx hb dX11_doRow_207 rfl (lv_at hl 0 rfl) ?_
  refine lv_ishl hx hb dX11_doRow_208 ?_
  refine lv_iconst (v := -1) hx hb dX11_doRow_209 (by decide) ?_
  refine lv_ixor hx hb dX11_doRow_210 ?_
  refine lv_iand hx hb dX11_doRow_211 ?_
  obtain ⟨g57, h⟩ := gd_e h
  obtain ⟨S56, eS56, h⟩ := lt_e h
  refine g_iast C hR hS (k := 72) (n := 6) (live_st (by decide)) rfl g57 eS56 dX11_doRow_212 (fun H locs hR hS => ?_)
  refine lv_aload_n hx hb dX11_doRow_213 rfl (lv_at hl 2 rfl) ?_
  refine g_getr (t := 72) C hR (k := 54) (j := 28) (live_st (by decide)) rfl rfl (vw11) inl11 (by decide) q971 dX11_doRow_214 ?_
  refine lv_iload_n hx hb dX11_doRow_217 rfl (lv_at hl 0 rfl) ?_
  refine lv_aload_n hx hb dX11_doRow_218 rfl (lv_at hl 2 rfl) ?_
  refine g_getr (t := 72) C hR (k := 54) (j := 28) (live_st (by decide)) rfl rfl (vw11) inl11 (by decide) q971 dX11_doRow_219 ?_
  refine lv_iload_n hx hb dX11_doRow_222 rfl (lv_at hl 0 rfl) ?_
  obtain ⟨g58, h⟩ := gd_e h
  refine g_iald C hR (k := 72) (n := 6) (live_st (by decide)) rfl g58 dX11_doRow_223 ?_
  refine lv_iconst (v := 1) hx hb dX11_doRow_224 (by decide) ?_
  refine lv_iload_n hx hb dX11_doRow_225 rfl (lv_at hl 1 rfl) ?_
  refine lv_ishl hx hb dX11_doRow_226 ?_
  refine lv_iconst (v := -1) hx hb dX11_doRow_227 (by decide) ?_
  refine lv_ixor hx hb dX11_doRow_228 ?_
  refine lv_iand hx hb dX11_doRow_229 ?_
  obtain ⟨g60, h⟩ := gd_e h
  obtain ⟨S59, eS59, h⟩ := lt_e h
  refine g_iast C hR hS (k := 72) (n := 6) (live_st (by decide)) rfl g60 eS59 dX11_doRow_230 (fun H locs hR hS => ?_)
  exact g_vret C hR hS h dX11_doRow_231
