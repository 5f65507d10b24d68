/-! OneVoiceModel.goOn(III)V -/
abbrev rm_X11_goOn : Room := { frames := 1, cells := 0, slots := 0, locals := 23 }
theorem m_X11_goOn : MV yX11_goOn RX11 cX11_goOn 13 none 3 := ⟨q1144, q39, q77, q1145, by decide +kernel⟩
def f_X11_goOn_L59 (K217 : Int32 → Int64 → St → Option (Unit × St)) (v1 : Int32) (v2 : Int32) (v3 : Int32) (v4 : Int32) (v5 : Int32) (v6 : Int32) (v7 : Int32) : Nat → Int32 → Int64 → Int32 → St → Option (Unit × St)
  | 0, _, _, _, _ => none
  | f + 1, v8, v9, v11, S =>
    if ((64 : Int32) * (rd S 54 0)) ≤ v11 then
      K217 v8 v9 S
    else
      if v3 ≤ v7 then
        K217 v8 v9 S
      else
        gd_ (inb (((1024 : Int32) * v7) + v11) 17408) <|
        lt_ (rd S 61 (Int32.toNatClampNeg (((1024 : Int32) * v7) + v11))) fun x24 =>
        lt_ (fun (x25 : Int32) (x26 : Int64) (S27 : St) =>
            lt_ (v11 + (1 : Int32)) fun x28 =>
            f_X11_goOn_L59 K217 v1 v2 v3 v4 v5 v6 v7 f x25 x26 x28 S27) fun J211 =>
        if (1000000 : Int32) ≤ x24 then
          J211 v8 v9 S
        else
          bd_ (f_X11_toneOf v4 ((v5 + v6) - (1 : Int32)) S) fun r30 S31 =>
          bd_ (f_X11_toneOf (v11 / (64 : Int32)) ((v11 / (8 : Int32)) - (v11 / (8 : Int32)) / (8 : Int32) * (8 : Int32)) S31) fun r32 S33 =>
          bd_ (f_X11_apart r30 r32 S33) fun r34 S35 =>
          lt_ (x24 + r34) fun x36 =>
          lt_ (fun (t37 : Int64) (S38 : St) =>
              lt_ (fun (t39 : Int32) (S40 : St) =>
                  J211 t39 t37 S40) fun J209 =>
              if v8 ≤ x36 then
                J209 v8 S38
              else
                J209 x36 S38) fun J193 =>
          if v8 ≤ x36 then
            if x36 = v8 then
              gd_ (inb (((1024 : Int32) * v7) + v11) 17408) <|
              J193 (v9 + (Int32.toInt64 (rd S35 62 (Int32.toNatClampNeg (((1024 : Int32) * v7) + v11))))) S35
            else
              J193 v9 S35
          else
            gd_ (inb (((1024 : Int32) * v7) + v11) 17408) <|
            J193 (Int32.toInt64 (rd S35 62 (Int32.toNatClampNeg (((1024 : Int32) * v7) + v11)))) S35

def f_X11_goOn (v1 : Int32) (v2 : Int32) (v3 : Int32) (S : St) : Option (Unit × St) :=
  lt_ (v2 / (64 : Int32)) fun x13 =>
  lt_ ((v2 / (8 : Int32)) - (v2 / (8 : Int32)) / (8 : Int32) * (8 : Int32)) fun x14 =>
  lt_ ((v2 - v2 / (8 : Int32) * (8 : Int32)) + (1 : Int32)) fun x15 =>
  lt_ (v1 + x15) fun x16 =>
  lt_ (fun (t17 : Int32) (S18 : St) =>
      lt_ (fun (t19 : Int64) (S20 : St) =>
          f_X11_goOn_L59
            (fun (x46 : Int32) (x47 : Int64) (S48 : St) =>
              lt_ (fun (t49 : Int32) (t50 : Int32) (S51 : St) =>
                  gd_ (inb t49 17408) <|
                  lt_ (wr S51 61 (Int32.toNatClampNeg t49) t50) fun S52 =>
                  gd_ (inb (((1024 : Int32) * v1) + v2) 17408) <|
                  lt_ (wr S52 62 (Int32.toNatClampNeg (((1024 : Int32) * v1) + v2)) (Int64.toInt32 (x47 - x47 / (1000000007 : Int64) * (1000000007 : Int64)))) fun S54 =>
                  some ((), S54)) fun J253 =>
              if x46 = (1000000 : Int32) then
                J253 (((1024 : Int32) * v1) + v2) (1000000 : Int32) S48
              else
                bd_ (f_X11_cutsOf x13 x14 x15 S48) fun r57 S58 =>
                J253 (((1024 : Int32) * v1) + v2) (x46 + r57) S58)
            v1 v2 v3 x13 x14 x15 x16 FU t17 t19 (0 : Int32) S20) fun J54 =>
      if x16 = v3 then
        J54 (1 : Int64) S18
      else
        J54 (0 : Int64) S18) fun J41 =>
  if x16 = v3 then
    J41 (0 : Int32) S
  else
    J41 (1000000 : Int32) S

set_option maxHeartbeats 4000000 in
set_option maxRecDepth 100000 in
theorem w_X11_goOn_L59 {p : Program} {l : Launch} {e : Env} {s : State} {m : MethodId} {args : Array Value} {below : List Frame} {meth : Method} {c : Code} {E : En} {α : Nat → Nat} {g : Nat × Nat} (C : Cx p s m args meth c RX11 cX11_goOn 13 none E) {z : Unit × St} {K217 : Int32 → Int64 → St → Option (Unit × St)} {v1 : Int32} {v2 : Int32} {v3 : Int32} {v4 : Int32} {v5 : Int32} {v6 : Int32} {v7 : Int32}
    (hK217 : ∀ (y8 : Int32) (y9 : Int64) (S : St) (H : Heap) (locs : List Loc) (ls : Array Slot), Rp E α g S H → va_S E.2.2.1 s.heap H locs → lv_has ls 13 [(0, .ref (α 54)), (1, .int v1), (2, .int v2), (4, .int v4), (5, .int v5), (6, .int v6), (8, .int y8), (9, .long y9)] → K217 y8 y9 S = some z → W p l e rm_X11_goOn s m args below meth c H locs 0 0 (MQ below (Qv E α g z) args s 0 0 E.2.2.1) (F0 m 217 ls [])) :
    ∀ (f : Nat) (v8 : Int32) (v9 : Int64) (v11 : Int32) (S : St) (H : Heap) (locs : List Loc) (ls : Array Slot), Rp E α g S H → va_S E.2.2.1 s.heap H locs → lv_has ls 13 [(0, .ref (α 54)), (1, .int v1), (2, .int v2), (3, .int v3), (4, .int v4), (5, .int v5), (6, .int v6), (7, .int v7), (8, .int v8), (9, .long v9), (11, .int v11)] → f_X11_goOn_L59 K217 v1 v2 v3 v4 v5 v6 v7 f v8 v9 v11 S = some z → W p l e rm_X11_goOn s m args below meth c H locs 0 0 (MQ below (Qv E α g z) args s 0 0 E.2.2.1) (F0 m 59 ls []) := by
  obtain ⟨hx, hb, hml, hown, hts, hlk, hrt, hKs⟩ := id C
  intro f
  induction f with
  | zero =>
    intro v8 v9 v11 S H locs ls  hR hS hl h
    rw [f_X11_goOn_L59] at h
    cases h
  | succ f ih =>
    intro v8 v9 v11 S H locs ls  hR hS hl h
    rw [f_X11_goOn_L59] at h
    refine lv_iload hx hb dX11_goOn_59 (lv_at hl 10 rfl) ?_
    refine lv_bipush (v := 64) hx hb dX11_goOn_61 (by decide) ?_
    refine lv_aload_n hx hb dX11_goOn_63 rfl (lv_at hl 0 rfl) ?_
    refine g_geti C hR (k := 54) (j := 0) (live_st (by decide)) rfl rfl (vw11) inl11 (by decide) q943 dX11_goOn_64 ?_
    refine lv_imul hx hb dX11_goOn_67 ?_
    refine lv_icmp_ge (tgt := 217) hx hb dX11_goOn_68 (by decide) (fun c21 => ?_) (fun c21 => ?_)
    · have h := ite_t c21 h
      exact hK217 _ _ _ _ _ _  hR hS (lv_sub hl [0, 1, 2, 4, 5, 6, 8, 9] rfl) h
    · have h := ite_f c21 h
      refine lv_iload hx hb dX11_goOn_71 (lv_at hl 7 rfl) ?_
      refine lv_iload_n hx hb dX11_goOn_73 rfl (lv_at hl 3 rfl) ?_
      refine lv_icmp_ge (tgt := 217) hx hb dX11_goOn_74 (by decide) (fun c22 => ?_) (fun c22 => ?_)
      · have h := ite_t c22 h
        exact hK217 _ _ _ _ _ _  hR hS (lv_sub hl [0, 1, 2, 4, 5, 6, 8, 9] rfl) h
      · have h := ite_f c22 h
        refine lv_aload_n hx hb dX11_goOn_77 rfl (lv_at hl 0 rfl) ?_
        refine g_getr (t := 61) C hR (k := 54) (j := 8) (live_st (by decide)) rfl rfl (vw11) inl11 (by decide) q951 dX11_goOn_78 ?_
        refine lv_sipush (v := 1024) hx hb dX11_goOn_81 (by decide) ?_
        refine lv_iload hx hb dX11_goOn_84 (lv_at hl 7 rfl) ?_
        refine lv_imul hx hb dX11_goOn_86 ?_
        refine lv_iload hx hb dX11_goOn_87 (lv_at hl 10 rfl) ?_
        refine lv_iadd hx hb dX11_goOn_89 ?_
        obtain ⟨g23, h⟩ := gd_e h
        refine g_iald C hR (k := 61) (n := 17408) (live_st (by decide)) rfl g23 dX11_goOn_90 ?_
        obtain ⟨x24, ex24, h⟩ := lt_e h
        refine g_nmi ex24 ?_
        refine lv_istore (lv' := [(12, .int x24), (0, .ref (α 54)), (1, .int v1), (2, .int v2), (3, .int v3), (4, .int v4), (5, .int v5), (6, .int v6), (7, .int v7), (8, .int v8), (9, .long v9), (11, .int v11)]) hx hb dX11_goOn_91 hl (by decide) rfl (fun ls hl => ?_)
        refine lv_iload hx hb dX11_goOn_93 (lv_at hl 0 rfl) ?_
        refine lv_ldc (v := 1000000) hx hb hown (hts _ q1137) dX11_goOn_95 ?_
        obtain ⟨J211, eJ211, h⟩ := lt_e h
        have hJ211 : ∀ (x25 : Int32) (x26 : Int64) (S27 : St) (H : Heap) (locs : List Loc) (ls : Array Slot), Rp E α g S27 H → va_S E.2.2.1 s.heap H locs → lv_has ls 13 [(0, .ref (α 54)), (1, .int v1), (2, .int v2), (3, .int v3), (4, .int v4), (5, .int v5), (6, .int v6), (7, .int v7), (8, .int x25), (9, .long x26), (11, .int v11)] → J211 x25 x26 S27 = some z → W p l e rm_X11_goOn s m args below meth c H locs 0 0 (MQ below (Qv E α g z) args s 0 0 E.2.2.1) (F0 m 211 ls []) := by
          intro x25 x26 S27 H locs ls  hR hS hl h
          rw [eJ211] at h
          obtain ⟨x28, ex28, h⟩ := lt_e h
          refine lv_iinc (v := x28) (lv' := [(11, .int x28), (0, .ref (α 54)), (1, .int v1), (2, .int v2), (3, .int v3), (4, .int v4), (5, .int v5), (6, .int v6), (7, .int v7), (8, .int x25), (9, .long x26)]) hx hb dX11_goOn_211 hl (k := 10) rfl (by rw [ex28]; rfl) (by decide) rfl (fun ls hl => ?_)
          refine lv_goto (tgt := 59) hx hb dX11_goOn_214 (by decide) ?_
          exact ih _ _ _ _ _ _ _  hR hS (lv_sub hl [1, 2, 3, 4, 5, 6, 7, 8, 9, 10, 0] rfl) h
        clear eJ211
        refine lv_icmp_ge (tgt := 211) hx hb dX11_goOn_97 (by decide) (fun c29 => ?_) (fun c29 => ?_)
        · have h := ite_t c29 h
          exact hJ211 _ _ _ _ _ _  hR hS (lv_sub hl [1, 2, 3, 4, 5, 6, 7, 8, 9, 10, 11] rfl) h
        · have h := ite_f c29 h
          refine lv_iload hx hb dX11_goOn_100 (lv_at hl 0 rfl) ?_
          refine lv_aload_n hx hb dX11_goOn_102 rfl (lv_at hl 1 rfl) ?_
          refine lv_iload hx hb dX11_goOn_103 (lv_at hl 5 rfl) ?_
          refine lv_iload hx hb dX11_goOn_105 (lv_at hl 6 rfl) ?_
          refine lv_iload hx hb dX11_goOn_107 (lv_at hl 7 rfl) ?_
          refine lv_iadd hx hb dX11_goOn_109 ?_
          refine lv_iconst (v := 1) hx hb dX11_goOn_110 (by decide) ?_
          refine lv_isub hx hb dX11_goOn_111 ?_
          obtain ⟨r30, S31, hr30, h⟩ := bd_e h
          refine g_ci hS (g_runV C hR hS (k := 54) (As := [.int v4, .int ((v5 + v6) - (1 : Int32))]) (rest := [.int x24]) (c_X11_toneOf l  hr30) (live_st (by decide)) rfl (vw11) m_X11_toneOf q1108 ⟨rfl, rfl⟩ ⟨Nat.le_of_ble_eq_true rfl, Nat.le_of_ble_eq_true rfl⟩ rfl hl.1 rfl (Nat.le_of_ble_eq_true rfl) dX11_goOn_112 ⟨Nat.zero_le _, Nat.zero_le _⟩) (fun H locs hR hS => ?_)
          refine lv_aload_n hx hb dX11_goOn_115 rfl (lv_at hl 1 rfl) ?_
          refine lv_iload hx hb dX11_goOn_116 (lv_at hl 11 rfl) ?_
          refine lv_bipush (v := 64) hx hb dX11_goOn_118 (by decide) ?_
          refine lv_idiv hx hb dX11_goOn_120 (by decide) ?_
          refine lv_iload hx hb dX11_goOn_121 (lv_at hl 11 rfl) ?_
          refine lv_bipush (v := 8) hx hb dX11_goOn_123 (by decide) ?_
          refine lv_idiv hx hb dX11_goOn_125 (by decide) ?_
          refine lv_bipush (v := 8) hx hb dX11_goOn_126 (by decide) ?_
          refine lv_irem hx hb dX11_goOn_128 (by decide) ?_
          obtain ⟨r32, S33, hr32, h⟩ := bd_e h
          refine g_ci hS (g_runV C hR hS (k := 54) (As := [.int (v11 / (64 : Int32)), .int ((v11 / (8 : Int32)) - (v11 / (8 : Int32)) / (8 : Int32) * (8 : Int32))]) (rest := [.int r30, .int x24]) (c_X11_toneOf l  hr32) (live_st (by decide)) rfl (vw11) m_X11_toneOf q1108 ⟨rfl, rfl⟩ ⟨Nat.le_of_ble_eq_true rfl, Nat.le_of_ble_eq_true rfl⟩ rfl hl.1 rfl (Nat.le_of_ble_eq_true rfl) dX11_goOn_129 ⟨Nat.zero_le _, Nat.zero_le _⟩) (fun H locs hR hS => ?_)
          obtain ⟨r34, S35, hr34, h⟩ := bd_e h
          refine g_ci hS (g_runS C hR hS (As := [.int r30, .int r32]) (rest := [.int x24]) (c_X11_apart l  hr34) m_X11_apart q1146 ⟨rfl, rfl⟩ ⟨Nat.le_of_ble_eq_true rfl, Nat.le_of_ble_eq_true rfl⟩ rfl hl.1 rfl (Nat.le_of_ble_eq_true rfl) dX11_goOn_132 ⟨Nat.zero_le _, Nat.zero_le _⟩) (fun H locs hR hS => ?_)
          refine lv_iadd hx hb dX11_goOn_135 ?_
          obtain ⟨x36, ex36, h⟩ := lt_e h
          refine g_nmi ex36 ?_
          refine lv_istore (lv' := [(12, .int x36), (0, .ref (α 54)), (1, .int v1), (2, .int v2), (3, .int v3), (4, .int v4), (5, .int v5), (6, .int v6), (7, .int v7), (8, .int v8), (9, .long v9), (11, .int v11)]) hx hb dX11_goOn_136 hl (by decide) rfl (fun ls hl => ?_)
          refine lv_iload hx hb dX11_goOn_138 (lv_at hl 0 rfl) ?_
          refine lv_iload hx hb dX11_goOn_140 (lv_at hl 9 rfl) ?_
          obtain ⟨J193, eJ193, h⟩ := lt_e h
          have hJ193 : ∀ (t37 : Int64) (S38 : St) (H : Heap) (locs : List Loc) (ls : Array Slot), Rp E α g S38 H → va_S E.2.2.1 s.heap H locs → lv_has ls 13 [(0, .ref (α 54)), (1, .int v1), (2, .int v2), (3, .int v3), (4, .int v4), (5, .int v5), (6, .int v6), (7, .int v7), (8, .int v8), (11, .int v11), (12, .int x36)] → J193 t37 S38 = some z → W p l e rm_X11_goOn s m args below meth c H locs 0 0 (MQ below (Qv E α g z) args s 0 0 E.2.2.1) (F0 m 193 ls [.long t37]) := by
            intro t37 S38 H locs ls  hR hS hl h
            rw [eJ193] at h
            refine lv_lstore (lv' := [(9, .long t37), (0, .ref (α 54)), (1, .int v1), (2, .int v2), (3, .int v3), (4, .int v4), (5, .int v5), (6, .int v6), (7, .int v7), (8, .int v8), (11, .int v11), (12, .int x36)]) hx hb dX11_goOn_193 hl (by decide) rfl (fun ls hl => ?_)
            refine lv_iload hx hb dX11_goOn_195 (lv_at hl 11 rfl) ?_
            refine lv_iload hx hb dX11_goOn_197 (lv_at hl 9 rfl) ?_
            obtain ⟨J209, eJ209, h⟩ := lt_e h
            have hJ209 : ∀ (t39 : Int32) (S40 : St) (H : Heap) (locs : List Loc) (ls : Array Slot), Rp E α g S40 H → va_S E.2.2.1 s.heap H locs → lv_has ls 13 [(0, .ref (α 54)), (1, .int v1), (2, .int v2), (3, .int v3), (4, .int v4), (5, .int v5), (6, .int v6), (7, .int v7), (9, .long t37), (11, .int v11)] → J209 t39 S40 = some z → W p l e rm_X11_goOn s m args below meth c H locs 0 0 (MQ below (Qv E α g z) args s 0 0 E.2.2.1) (F0 m 209 ls [.int t39]) := by
              intro t39 S40 H locs ls  hR hS hl h
              rw [eJ209] at h
              refine lv_istore (lv' := [(8, .int t39), (0, .ref (α 54)), (1, .int v1), (2, .int v2), (3, .int v3), (4, .int v4), (5, .int v5), (6, .int v6), (7, .int v7), (9, .long t37), (11, .int v11)]) hx hb dX11_goOn_209 hl (by decide) rfl (fun ls hl => ?_)
              exact hJ211 _ _ _ _ _ _  hR hS (lv_sub hl [1, 2, 3, 4, 5, 6, 7, 8, 0, 9, 10] rfl) h
            clear eJ209
            refine lv_icmp_ge (tgt := 207) hx hb dX11_goOn_199 (by decide) (fun c41 => ?_) (fun c41 => ?_)
            · have h := ite_t c41 h
              refine lv_iload hx hb dX11_goOn_207 (lv_at hl 9 rfl) ?_
              exact hJ209 _ _ _ _ _  hR hS (lv_sub hl [1, 2, 3, 4, 5, 6, 7, 8, 0, 10] rfl) h
            · have h := ite_f c41 h
              refine lv_iload hx hb dX11_goOn_202 (lv_at hl 11 rfl) ?_
              refine lv_goto (tgt := 209) hx hb dX11_goOn_204 (by decide) ?_
              exact hJ209 _ _ _ _ _  hR hS (lv_sub hl [1, 2, 3, 4, 5, 6, 7, 8, 0, 10] rfl) h
          clear eJ193
          refine lv_icmp_ge (tgt := 163) hx hb dX11_goOn_142 (by decide) (fun c42 => ?_) (fun c42 => ?_)
          · have h := ite_t c42 h
            refine lv_iload hx hb dX11_goOn_163 (lv_at hl 0 rfl) ?_
            refine lv_iload hx hb dX11_goOn_165 (lv_at hl 9 rfl) ?_
            refine lv_icmp_ne (tgt := 191) hx hb dX11_goOn_167 (by decide) (fun c43 => ?_) (fun c43 => ?_)
            · have h := ite_f c43 h
              refine lv_lload hx hb dX11_goOn_191 (lv_at hl 10 rfl) ?_
              exact hJ193 _ _ _ _ _  hR hS (lv_sub hl [1, 2, 3, 4, 5, 6, 7, 8, 9, 11, 0] rfl) h
            · have h := ite_t c43 h
              refine lv_lload hx hb dX11_goOn_170 (lv_at hl 10 rfl) ?_
              refine lv_aload_n hx hb dX11_goOn_172 rfl (lv_at hl 1 rfl) ?_
              refine g_getr (t := 62) C hR (k := 54) (j := 9) (live_st (by decide)) rfl rfl (vw11) inl11 (by decide) q952 dX11_goOn_173 ?_
              refine lv_sipush (v := 1024) hx hb dX11_goOn_176 (by decide) ?_
              refine lv_iload hx hb dX11_goOn_179 (lv_at hl 8 rfl) ?_
              refine lv_imul hx hb dX11_goOn_181 ?_
              refine lv_iload hx hb dX11_goOn_182 (lv_at hl 11 rfl) ?_
              refine lv_iadd hx hb dX11_goOn_184 ?_
              obtain ⟨g44, h⟩ := gd_e h
              refine g_iald C hR (k := 62) (n := 17408) (live_st (by decide)) rfl g44 dX11_goOn_185 ?_
              refine lv_i2l (v := Int32.toInt64 (rd S35 62 (Int32.toNatClampNeg (((1024 : Int32) * v7) + v11)))) hx hb dX11_goOn_186 rfl ?_
              refine lv_ladd hx hb dX11_goOn_187 ?_
              refine lv_goto (tgt := 193) hx hb dX11_goOn_188 (by decide) ?_
              exact hJ193 _ _ _ _ _  hR hS (lv_sub hl [1, 2, 3, 4, 5, 6, 7, 8, 9, 11, 0] rfl) h
          · have h := ite_f c42 h
            refine lv_aload_n hx hb dX11_goOn_145 rfl (lv_at hl 1 rfl) ?_
            refine g_getr (t := 62) C hR (k := 54) (j := 9) (live_st (by decide)) rfl rfl (vw11) inl11 (by decide) q952 dX11_goOn_146 ?_
            refine lv_sipush (v := 1024) hx hb dX11_goOn_149 (by decide) ?_
            refine lv_iload hx hb dX11_goOn_152 (lv_at hl 8 rfl) ?_
            refine lv_imul hx hb dX11_goOn_154 ?_
            refine lv_iload hx hb dX11_goOn_155 (lv_at hl 11 rfl) ?_
            refine lv_iadd hx hb dX11_goOn_157 ?_
            obtain ⟨g45, h⟩ := gd_e h
            refine g_iald C hR (k := 62) (n := 17408) (live_st (by decide)) rfl g45 dX11_goOn_158 ?_
            refine lv_i2l (v := Int32.toInt64 (rd S35 62 (Int32.toNatClampNeg (((1024 : Int32) * v7) + v11)))) hx hb dX11_goOn_159 rfl ?_
            refine lv_goto (tgt := 193) hx hb dX11_goOn_160 (by decide) ?_
            exact hJ193 _ _ _ _ _  hR hS (lv_sub hl [1, 2, 3, 4, 5, 6, 7, 8, 9, 11, 0] rfl) h

set_option maxHeartbeats 4000000 in
set_option maxRecDepth 100000 in
theorem c_X11_goOn (l : Launch) {E : En} {α : Nat → Nat} {g : Nat × Nat} {v1 : Int32} {v2 : Int32} {v3 : Int32} {S : St}  {z : Unit × St} (h : f_X11_goOn v1 v2 v3 S = some z) : Met l yX11_goOn (wsY yX11_goOn cX11_goOn 13 none) rm_X11_goOn (va_Pc [.ref (α 54), .int v1, .int v2, .int v3] (Wd E α g S)) (Qv E α g z) 0 0 E.2.2.1 := by
  refine g_met [.ref (α 54), .int v1, .int v2, .int v3] (by decide) rfl (Nat.le_of_ble_eq_true rfl) ?_
  intro p e s m below meth c ls C hR hl
  generalize hae : ([.ref (α 54), .int v1, .int v2, .int v3] : List Value).toArray = args at C ⊢
  have hl : lv_has ls 13 [(0, .ref (α 54)), (1, .int v1), (2, .int v2), (3, .int v3)] := hl
  obtain ⟨hx, hb, hml, hown, hts, hlk, hrt, hKs⟩ := id C
  have hS : va_S E.2.2.1 s.heap s.heap [] := va_S.rf
  unfold f_X11_goOn at h
  refine lv_iload_n hx hb dX11_goOn_0 rfl (lv_at hl 2 rfl) ?_
  refine lv_bipush (v := 64) hx hb dX11_goOn_1 (by decide) ?_
  refine lv_idiv hx hb dX11_goOn_3 (by decide) ?_
  obtain ⟨x13, ex13, h⟩ := lt_e h
  refine g_nmi ex13 ?_
  refine lv_istore (lv' := [(4, .int x13), (0, .ref (α 54)), (1, .int v1), (2, .int v2), (3, .int v3)]) hx hb dX11_goOn_4 hl (by decide) rfl (fun ls hl => ?_)
  refine lv_iload_n hx hb dX11_goOn_6 rfl (lv_at hl 3 rfl) ?_
  refine lv_bipush (v := 8) hx hb dX11_goOn_7 (by decide) ?_
  refine lv_idiv hx hb dX11_goOn_9 (by decide) ?_
  refine lv_bipush (v := 8) hx hb dX11_goOn_10 (by decide) ?_
  refine lv_irem hx hb dX11_goOn_12 (by decide) ?_
  obtain ⟨x14, ex14, h⟩ := lt_e h
  refine g_nmi ex14 ?_
  refine lv_istore (lv' := [(5, .int x14), (4, .int x13), (0, .ref (α 54)), (1, .int v1), (2, .int v2), (3, .int v3)]) hx hb dX11_goOn_13 hl (by decide) rfl (fun ls hl => ?_)
  refine lv_iload_n hx hb dX11_goOn_15 rfl (lv_at hl 4 rfl) ?_
  refine lv_bipush (v := 8) hx hb dX11_goOn_16 (by decide) ?_
  refine lv_irem hx hb dX11_goOn_18 (by decide) ?_
  refine lv_iconst (v := 1) hx hb dX11_goOn_19 (by decide) ?_
  refine lv_iadd hx hb dX11_goOn_20 ?_
  obtain ⟨x15, ex15, h⟩ := lt_e h
  refine g_nmi ex15 ?_
  refine lv_istore (lv' := [(6, .int x15), (5, .int x14), (4, .int x13), (0, .ref (α 54)), (1, .int v1), (2, .int v2), (3, .int v3)]) hx hb dX11_goOn_21 hl (by decide) rfl (fun ls hl => ?_)
  refine lv_iload_n hx hb dX11_goOn_23 rfl (lv_at hl 4 rfl) ?_
  refine lv_iload hx hb dX11_goOn_24 (lv_at hl 0 rfl) ?_
  refine lv_iadd hx hb dX11_goOn_26 ?_
  obtain ⟨x16, ex16, h⟩ := lt_e h
  refine g_nmi ex16 ?_
  refine lv_istore (lv' := [(7, .int x16), (6, .int x15), (5, .int x14), (4, .int x13), (0, .ref (α 54)), (1, .int v1), (2, .int v2), (3, .int v3)]) hx hb dX11_goOn_27 hl (by decide) rfl (fun ls hl => ?_)
  refine lv_iload hx hb dX11_goOn_29 (lv_at hl 0 rfl) ?_
  refine lv_iload_n hx hb dX11_goOn_31 rfl (lv_at hl 7 rfl) ?_
  obtain ⟨J41, eJ41, h⟩ := lt_e h
  have hJ41 : ∀ (t17 : Int32) (S18 : St) (H : Heap) (locs : List Loc) (ls : Array Slot), Rp E α g S18 H → va_S E.2.2.1 s.heap H locs → lv_has ls 13 [(0, .ref (α 54)), (1, .int v1), (2, .int v2), (3, .int v3), (4, .int x13), (5, .int x14), (6, .int x15), (7, .int x16)] → J41 t17 S18 = some z → W p l e rm_X11_goOn s m args below meth c H locs 0 0 (MQ below (Qv E α g z) args s 0 0 E.2.2.1) (F0 m 41 ls [.int t17]) := by
    intro t17 S18 H locs ls  hR hS hl h
    rw [eJ41] at h
    refine lv_istore (lv' := [(8, .int t17), (0, .ref (α 54)), (1, .int v1), (2, .int v2), (3, .int v3), (4, .int x13), (5, .int x14), (6, .int x15), (7, .int x16)]) hx hb dX11_goOn_41 hl (by decide) rfl (fun ls hl => ?_)
    refine lv_iload hx hb dX11_goOn_43 (lv_at hl 8 rfl) ?_
    refine lv_iload_n hx hb dX11_goOn_45 rfl (lv_at hl 4 rfl) ?_
    obtain ⟨J54, eJ54, h⟩ := lt_e h
    have hJ54 : ∀ (t19 : Int64) (S20 : St) (H : Heap) (locs : List Loc) (ls : Array Slot), Rp E α g S20 H → va_S E.2.2.1 s.heap H locs → lv_has ls 13 [(0, .ref (α 54)), (1, .int v1), (2, .int v2), (3, .int v3), (4, .int x13), (5, .int x14), (6, .int x15), (7, .int x16), (8, .int t17)] → J54 t19 S20 = some z → W p l e rm_X11_goOn s m args below meth c H locs 0 0 (MQ below (Qv E α g z) args s 0 0 E.2.2.1) (F0 m 54 ls [.long t19]) := by
      intro t19 S20 H locs ls  hR hS hl h
      rw [eJ54] at h
      refine lv_lstore (lv' := [(9, .long t19), (0, .ref (α 54)), (1, .int v1), (2, .int v2), (3, .int v3), (4, .int x13), (5, .int x14), (6, .int x15), (7, .int x16), (8, .int t17)]) hx hb dX11_goOn_54 hl (by decide) rfl (fun ls hl => ?_)
      refine lv_iconst (v := 0) hx hb dX11_goOn_56 (by decide) ?_
      refine lv_istore (lv' := [(11, .int (0 : Int32)), (9, .long t19), (0, .ref (α 54)), (1, .int v1), (2, .int v2), (3, .int v3), (4, .int x13), (5, .int x14), (6, .int x15), (7, .int x16), (8, .int t17)]) hx hb dX11_goOn_57 hl (by decide) rfl (fun ls hl => ?_)
      refine w_X11_goOn_L59 C ?_  _ _ _ _ _ _ _ _  hR hS (lv_sub hl [2, 3, 4, 5, 6, 7, 8, 9, 10, 1, 0] rfl) h
      · intro x46 x47 S48 H locs ls  hR hS hl h
        refine lv_aload_n hx hb dX11_goOn_217 rfl (lv_at hl 0 rfl) ?_
        refine g_getr (t := 61) C hR (k := 54) (j := 8) (live_st (by decide)) rfl rfl (vw11) inl11 (by decide) q951 dX11_goOn_218 ?_
        refine lv_sipush (v := 1024) hx hb dX11_goOn_221 (by decide) ?_
        refine lv_iload_n hx hb dX11_goOn_224 rfl (lv_at hl 1 rfl) ?_
        refine lv_imul hx hb dX11_goOn_225 ?_
        refine lv_iload_n hx hb dX11_goOn_226 rfl (lv_at hl 2 rfl) ?_
        refine lv_iadd hx hb dX11_goOn_227 ?_
        refine lv_iload hx hb dX11_goOn_228 (lv_at hl 6 rfl) ?_
        refine lv_ldc (v := 1000000) hx hb hown (hts _ q1137) dX11_goOn_230 ?_
        obtain ⟨J253, eJ253, h⟩ := lt_e h
        have hJ253 : ∀ (t49 : Int32) (t50 : Int32) (S51 : St) (H : Heap) (locs : List Loc) (ls : Array Slot), Rp E α g S51 H → va_S E.2.2.1 s.heap H locs → lv_has ls 13 [(0, .ref (α 54)), (1, .int v1), (2, .int v2), (9, .long x47)] → J253 t49 t50 S51 = some z → W p l e rm_X11_goOn s m args below meth c H locs 0 0 (MQ below (Qv E α g z) args s 0 0 E.2.2.1) (F0 m 253 ls [.int t50, .int t49, .ref (α 61)]) := by
          intro t49 t50 S51 H locs ls  hR hS hl h
          rw [eJ253] at h
          obtain ⟨g53, h⟩ := gd_e h
          obtain ⟨S52, eS52, h⟩ := lt_e h
          refine g_iast C hR hS (k := 61) (n := 17408) (live_st (by decide)) rfl g53 eS52 dX11_goOn_253 (fun H locs hR hS => ?_)
          refine lv_aload_n hx hb dX11_goOn_254 rfl (lv_at hl 0 rfl) ?_
          refine g_getr (t := 62) C hR (k := 54) (j := 9) (live_st (by decide)) rfl rfl (vw11) inl11 (by decide) q952 dX11_goOn_255 ?_
          refine lv_sipush (v := 1024) hx hb dX11_goOn_258 (by decide) ?_
          refine lv_iload_n hx hb dX11_goOn_261 rfl (lv_at hl 1 rfl) ?_
          refine lv_imul hx hb dX11_goOn_262 ?_
          refine lv_iload_n hx hb dX11_goOn_263 rfl (lv_at hl 2 rfl) ?_
          refine lv_iadd hx hb dX11_goOn_264 ?_
          refine lv_lload hx hb dX11_goOn_265 (lv_at hl 3 rfl) ?_
          refine lv_ldc2 (v := 1000000007) hx hb hown (hts _ q1153) dX11_goOn_267 ?_
          refine lv_lrem hx hb dX11_goOn_270 (by decide) ?_
          refine lv_l2i (v := Int64.toInt32 (x47 - x47 / (1000000007 : Int64) * (1000000007 : Int64))) hx hb dX11_goOn_271 rfl ?_
          obtain ⟨g55, h⟩ := gd_e h
          obtain ⟨S54, eS54, h⟩ := lt_e h
          refine g_iast C hR hS (k := 62) (n := 17408) (live_st (by decide)) rfl g55 eS54 dX11_goOn_272 (fun H locs hR hS => ?_)
          exact g_vret C hR hS h dX11_goOn_273
        clear eJ253
        refine lv_icmp_ne (tgt := 240) hx hb dX11_goOn_232 (by decide) (fun c56 => ?_) (fun c56 => ?_)
        · have h := ite_f c56 h
          refine lv_iload hx hb dX11_goOn_240 (lv_at hl 6 rfl) ?_
          refine lv_aload_n hx hb dX11_goOn_242 rfl (lv_at hl 0 rfl) ?_
          refine lv_iload hx hb dX11_goOn_243 (lv_at hl 3 rfl) ?_
          refine lv_iload hx hb dX11_goOn_245 (lv_at hl 4 rfl) ?_
          refine lv_iload hx hb dX11_goOn_247 (lv_at hl 5 rfl) ?_
          obtain ⟨r57, S58, hr57, h⟩ := bd_e h
          refine g_ci hS (g_runV C hR hS (k := 54) (As := [.int x13, .int x14, .int x15]) (rest := [.int x46, .int (((1024 : Int32) * v1) + v2), .ref (α 61)]) (c_X11_cutsOf l  hr57) (live_st (by decide)) rfl (vw11) m_X11_cutsOf q1149 ⟨rfl, rfl⟩ ⟨Nat.le_of_ble_eq_true rfl, Nat.le_of_ble_eq_true rfl⟩ rfl hl.1 rfl (Nat.le_of_ble_eq_true rfl) dX11_goOn_249 ⟨Nat.zero_le _, Nat.zero_le _⟩) (fun H locs hR hS => ?_)
          refine lv_iadd hx hb dX11_goOn_252 ?_
          exact hJ253 _ _ _ _ _ _  hR hS (lv_sub hl [0, 1, 2, 7] rfl) h
        · have h := ite_t c56 h
          refine lv_ldc (v := 1000000) hx hb hown (hts _ q1137) dX11_goOn_235 ?_
          refine lv_goto (tgt := 253) hx hb dX11_goOn_237 (by decide) ?_
          exact hJ253 _ _ _ _ _ _  hR hS (lv_sub hl [0, 1, 2, 7] rfl) h
    clear eJ54
    refine lv_icmp_ne (tgt := 53) hx hb dX11_goOn_46 (by decide) (fun c59 => ?_) (fun c59 => ?_)
    · have h := ite_f c59 h
      refine lv_lconst (v := 0) hx hb dX11_goOn_53 (by decide) ?_
      exact hJ54 _ _ _ _ _  hR hS (lv_sub hl [1, 2, 3, 4, 5, 6, 7, 8, 0] rfl) h
    · have h := ite_t c59 h
      refine lv_lconst (v := 1) hx hb dX11_goOn_49 (by decide) ?_
      refine lv_goto (tgt := 54) hx hb dX11_goOn_50 (by decide) ?_
      exact hJ54 _ _ _ _ _  hR hS (lv_sub hl [1, 2, 3, 4, 5, 6, 7, 8, 0] rfl) h
  clear eJ41
  refine lv_icmp_ne (tgt := 39) hx hb dX11_goOn_32 (by decide) (fun c60 => ?_) (fun c60 => ?_)
  · have h := ite_f c60 h
    refine lv_ldc (v := 1000000) hx hb hown (hts _ q1137) dX11_goOn_39 ?_
    exact hJ41 _ _ _ _ _  hR hS (lv_sub hl [4, 5, 6, 7, 3, 2, 1, 0] rfl) h
  · have h := ite_t c60 h
    refine lv_iconst (v := 0) hx hb dX11_goOn_35 (by decide) ?_
    refine lv_goto (tgt := 41) hx hb dX11_goOn_36 (by decide) ?_
    exact hJ41 _ _ _ _ _  hR hS (lv_sub hl [4, 5, 6, 7, 3, 2, 1, 0] rfl) h

/-! OneVoiceModel.layOut(II)V -/
abbrev rm_X11_layOut : Room := { frames := 3, cells := 0, slots := 0, locals := 74 }
theorem m_X11_layOut : MV yX11_layOut RX11 cX11_layOut 8 none 2 := ⟨q1135, q37, q77, q1136, by decide +kernel⟩
def f_X11_layOut_L11 (K108 : St → Option (Unit × St)) (v1 : Int32) (v2 : Int32) (v3 : Int32) : Nat → Int32 → St → Option (Unit × St)
  | 0, _, _ => none
  | f + 1, v4, S =>
    if ((64 : Int32) * (rd S 54 0)) ≤ v4 then
      K108  S
    else
      lt_ (v4 / (64 : Int32)) fun x12 =>
      lt_ ((v4 / (8 : Int32)) - (v4 / (8 : Int32)) / (8 : Int32) * (8 : Int32)) fun x13 =>
      lt_ ((v4 - v4 / (8 : Int32) * (8 : Int32)) + (1 : Int32)) fun x14 =>
      gd_ (inb (((1024 : Int32) * v3) + v4) 17408) <|
      lt_ (wr S 61 (Int32.toNatClampNeg (((1024 : Int32) * v3) + v4)) (1000000 : Int32)) fun S15 =>
      gd_ (inb (((1024 : Int32) * v3) + v4) 17408) <|
      lt_ (wr S15 62 (Int32.toNatClampNeg (((1024 : Int32) * v3) + v4)) (0 : Int32)) fun S17 =>
      bd_ (f_X11_isBit v1 v3 v2 x12 x13 x14 S17) fun r19 S20 =>
      lt_ (fun  (S21 : St) =>
          lt_ (v4 + (1 : Int32)) fun x22 =>
          f_X11_layOut_L11 K108 v1 v2 v3 f x22 S21) fun J102 =>
      if r19 = 0 then
        J102  S20
      else
        bd_ (f_X11_goOn v3 v4 v2 S20) fun r24 S25 =>
        J102  S25

def f_X11_layOut_L4 (K114 : St → Option (Unit × St)) (v1 : Int32) (v2 : Int32) : Nat → Int32 → St → Option (Unit × St)
  | 0, _, _ => none
  | f + 1, v3, S =>
    if v3 < 0 then
      K114  S
    else
      f_X11_layOut_L11
        (fun  (S26 : St) =>
          lt_ (v3 + (-1 : Int32)) fun x27 =>
          f_X11_layOut_L4 K114 v1 v2 f x27 S26)
        v1 v2 v3 FU (0 : Int32) S

def f_X11_layOut (v1 : Int32) (v2 : Int32) (S : St) : Option (Unit × St) :=
  lt_ (v2 - (1 : Int32)) fun x9 =>
  f_X11_layOut_L4
    (fun  (S28 : St) =>
      some ((), S28))
    v1 v2 FU x9 S

set_option maxHeartbeats 4000000 in
set_option maxRecDepth 100000 in
theorem w_X11_layOut_L11 {p : Program} {l : Launch} {e : Env} {s : State} {m : MethodId} {args : Array Value} {below : List Frame} {meth : Method} {c : Code} {E : En} {α : Nat → Nat} {g : Nat × Nat} (C : Cx p s m args meth c RX11 cX11_layOut 8 none E) {z : Unit × St} {K108 : St → Option (Unit × St)} {v1 : Int32} {v2 : Int32} {v3 : Int32}
    (hK108 : ∀ (S : St) (H : Heap) (locs : List Loc) (ls : Array Slot), Rp E α g S H → va_S E.2.2.1 s.heap H locs → lv_has ls 8 [(0, .ref (α 54)), (1, .int v1), (2, .int v2), (3, .int v3)] → K108  S = some z → W p l e rm_X11_layOut s m args below meth c H locs 0 0 (MQ below (Qv E α g z) args s 0 0 E.2.2.1) (F0 m 108 ls [])) :
    ∀ (f : Nat) (v4 : Int32) (S : St) (H : Heap) (locs : List Loc) (ls : Array Slot), Rp E α g S H → va_S E.2.2.1 s.heap H locs → lv_has ls 8 [(0, .ref (α 54)), (1, .int v1), (2, .int v2), (3, .int v3), (4, .int v4)] → f_X11_layOut_L11 K108 v1 v2 v3 f v4 S = some z → W p l e rm_X11_layOut s m args below meth c H locs 0 0 (MQ below (Qv E α g z) args s 0 0 E.2.2.1) (F0 m 11 ls []) := by
  obtain ⟨hx, hb, hml, hown, hts, hlk, hrt, hKs⟩ := id C
  intro f
  induction f with
  | zero =>
    intro v4 S H locs ls  hR hS hl h
    rw [f_X11_layOut_L11] at h
    cases h
  | succ f ih =>
    intro v4 S H locs ls  hR hS hl h
    rw [f_X11_layOut_L11] at h
    refine lv_iload hx hb dX11_layOut_11 (lv_at hl 4 rfl) ?_
    refine lv_bipush (v := 64) hx hb dX11_layOut_13 (by decide) ?_
    refine lv_aload_n hx hb dX11_layOut_15 rfl (lv_at hl 0 rfl) ?_
    refine g_geti C hR (k := 54) (j := 0) (live_st (by decide)) rfl rfl (vw11) inl11 (by decide) q943 dX11_layOut_16 ?_
    refine lv_imul hx hb dX11_layOut_19 ?_
    refine lv_icmp_ge (tgt := 108) hx hb dX11_layOut_20 (by decide) (fun c11 => ?_) (fun c11 => ?_)
    · have h := ite_t c11 h
      exact hK108  _ _ _ _  hR hS (lv_sub hl [0, 1, 2, 3] rfl) h
    · have h := ite_f c11 h
      refine lv_iload hx hb dX11_layOut_23 (lv_at hl 4 rfl) ?_
      refine lv_bipush (v := 64) hx hb dX11_layOut_25 (by decide) ?_
      refine lv_idiv hx hb dX11_layOut_27 (by decide) ?_
      obtain ⟨x12, ex12, h⟩ := lt_e h
      refine g_nmi ex12 ?_
      refine lv_istore (lv' := [(5, .int x12), (0, .ref (α 54)), (1, .int v1), (2, .int v2), (3, .int v3), (4, .int v4)]) hx hb dX11_layOut_28 hl (by decide) rfl (fun ls hl => ?_)
      refine lv_iload hx hb dX11_layOut_30 (lv_at hl 5 rfl) ?_
      refine lv_bipush (v := 8) hx hb dX11_layOut_32 (by decide) ?_
      refine lv_idiv hx hb dX11_layOut_34 (by decide) ?_
      refine lv_bipush (v := 8) hx hb dX11_layOut_35 (by decide) ?_
      refine lv_irem hx hb dX11_layOut_37 (by decide) ?_
      obtain ⟨x13, ex13, h⟩ := lt_e h
      refine g_nmi ex13 ?_
      refine lv_istore (lv' := [(6, .int x13), (5, .int x12), (0, .ref (α 54)), (1, .int v1), (2, .int v2), (3, .int v3), (4, .int v4)]) hx hb dX11_layOut_38 hl (by decide) rfl (fun ls hl => ?_)
      refine lv_iload hx hb dX11_layOut_40 (lv_at hl 6 rfl) ?_
      refine lv_bipush (v := 8) hx hb dX11_layOut_42 (by decide) ?_
      refine lv_irem hx hb dX11_layOut_44 (by decide) ?_
      refine lv_iconst (v := 1) hx hb dX11_layOut_45 (by decide) ?_
      refine lv_iadd hx hb dX11_layOut_46 ?_
      obtain ⟨x14, ex14, h⟩ := lt_e h
      refine g_nmi ex14 ?_
      refine lv_istore (lv' := [(7, .int x14), (6, .int x13), (5, .int x12), (0, .ref (α 54)), (1, .int v1), (2, .int v2), (3, .int v3), (4, .int v4)]) hx hb dX11_layOut_47 hl (by decide) rfl (fun ls hl => ?_)
      refine lv_aload_n hx hb dX11_layOut_49 rfl (lv_at hl 3 rfl) ?_
      refine g_getr (t := 61) C hR (k := 54) (j := 8) (live_st (by decide)) rfl rfl (vw11) inl11 (by decide) q951 dX11_layOut_50 ?_
      refine lv_sipush (v := 1024) hx hb dX11_layOut_53 (by decide) ?_
      refine lv_iload_n hx hb dX11_layOut_56 rfl (lv_at hl 6 rfl) ?_
      refine lv_imul hx hb dX11_layOut_57 ?_
      refine lv_iload hx hb dX11_layOut_58 (lv_at hl 7 rfl) ?_
      refine lv_iadd hx hb dX11_layOut_60 ?_
      refine lv_ldc (v := 1000000) hx hb hown (hts _ q1137) dX11_layOut_61 ?_
      obtain ⟨g16, h⟩ := gd_e h
      obtain ⟨S15, eS15, h⟩ := lt_e h
      refine g_iast C hR hS (k := 61) (n := 17408) (live_st (by decide)) rfl g16 eS15 dX11_layOut_63 (fun H locs hR hS => ?_)
      refine lv_aload_n hx hb dX11_layOut_64 rfl (lv_at hl 3 rfl) ?_
      refine g_getr (t := 62) C hR (k := 54) (j := 9) (live_st (by decide)) rfl rfl (vw11) inl11 (by decide) q952 dX11_layOut_65 ?_
      refine lv_sipush (v := 1024) hx hb dX11_layOut_68 (by decide) ?_
      refine lv_iload_n hx hb dX11_layOut_71 rfl (lv_at hl 6 rfl) ?_
      refine lv_imul hx hb dX11_layOut_72 ?_
      refine lv_iload hx hb dX11_layOut_73 (lv_at hl 7 rfl) ?_
      refine lv_iadd hx hb dX11_layOut_75 ?_
      refine lv_iconst (v := 0) hx hb dX11_layOut_76 (by decide) ?_
      obtain ⟨g18, h⟩ := gd_e h
      obtain ⟨S17, eS17, h⟩ := lt_e h
      refine g_iast C hR hS (k := 62) (n := 17408) (live_st (by decide)) rfl g18 eS17 dX11_layOut_77 (fun H locs hR hS => ?_)
      refine lv_aload_n hx hb dX11_layOut_78 rfl (lv_at hl 3 rfl) ?_
      refine lv_iload_n hx hb dX11_layOut_79 rfl (lv_at hl 4 rfl) ?_
      refine lv_iload_n hx hb dX11_layOut_80 rfl (lv_at hl 6 rfl) ?_
      refine lv_iload_n hx hb dX11_layOut_81 rfl (lv_at hl 5 rfl) ?_
      refine lv_iload hx hb dX11_layOut_82 (lv_at hl 2 rfl) ?_
      refine lv_iload hx hb dX11_layOut_84 (lv_at hl 1 rfl) ?_
      refine lv_iload hx hb dX11_layOut_86 (lv_at hl 0 rfl) ?_
      obtain ⟨r19, S20, hr19, h⟩ := bd_e h
      refine g_ci hS (g_runV C hR hS (k := 54) (As := [.int v1, .int v3, .int v2, .int x12, .int x13, .int x14]) (rest := []) (c_X11_isBit l  hr19) (live_st (by decide)) rfl (vw11) m_X11_isBit q1138 ⟨rfl, rfl⟩ ⟨Nat.le_of_ble_eq_true rfl, Nat.le_of_ble_eq_true rfl⟩ rfl hl.1 rfl (Nat.le_of_ble_eq_true rfl) dX11_layOut_88 ⟨Nat.zero_le _, Nat.zero_le _⟩) (fun H locs hR hS => ?_)
      obtain ⟨J102, eJ102, h⟩ := lt_e h
      have hJ102 : ∀ (S21 : St) (H : Heap) (locs : List Loc) (ls : Array Slot), Rp E α g S21 H → va_S E.2.2.1 s.heap H locs → lv_has ls 8 [(0, .ref (α 54)), (1, .int v1), (2, .int v2), (3, .int v3), (4, .int v4)] → J102  S21 = some z → W p l e rm_X11_layOut s m args below meth c H locs 0 0 (MQ below (Qv E α g z) args s 0 0 E.2.2.1) (F0 m 102 ls []) := by
        intro  S21 H locs ls  hR hS hl h
        rw [eJ102] at h
        obtain ⟨x22, ex22, h⟩ := lt_e h
        refine lv_iinc (v := x22) (lv' := [(4, .int x22), (0, .ref (α 54)), (1, .int v1), (2, .int v2), (3, .int v3)]) hx hb dX11_layOut_102 hl (k := 4) rfl (by rw [ex22]; rfl) (by decide) rfl (fun ls hl => ?_)
        refine lv_goto (tgt := 11) hx hb dX11_layOut_105 (by decide) ?_
        exact ih _ _ _ _ _  hR hS (lv_sub hl [1, 2, 3, 4, 0] rfl) h
      clear eJ102
      refine lv_if_eq (tgt := 102) hx hb dX11_layOut_91 (by decide) (fun c23 => ?_) (fun c23 => ?_)
      · have h := ite_t c23 h
        exact hJ102  _ _ _ _  hR hS (lv_sub hl [3, 4, 5, 6, 7] rfl) h
      · have h := ite_f c23 h
        refine lv_aload_n hx hb dX11_layOut_94 rfl (lv_at hl 3 rfl) ?_
        refine lv_iload_n hx hb dX11_layOut_95 rfl (lv_at hl 6 rfl) ?_
        refine lv_iload hx hb dX11_layOut_96 (lv_at hl 7 rfl) ?_
        refine lv_iload_n hx hb dX11_layOut_98 rfl (lv_at hl 5 rfl) ?_
        obtain ⟨r24, S25, hr24, h⟩ := bd_e h
        refine g_cv hS (g_runV C hR hS (k := 54) (As := [.int v3, .int v4, .int v2]) (rest := []) (c_X11_goOn l  hr24) (live_st (by decide)) rfl (vw11) m_X11_goOn q1142 ⟨rfl, rfl⟩ ⟨Nat.le_of_ble_eq_true rfl, Nat.le_of_ble_eq_true rfl⟩ rfl hl.1 rfl (Nat.le_of_ble_eq_true rfl) dX11_layOut_99 ⟨Nat.zero_le _, Nat.zero_le _⟩) (fun H locs hR hS => ?_)
        exact hJ102  _ _ _ _  hR hS (lv_sub hl [3, 4, 5, 6, 7] rfl) h

set_option maxHeartbeats 4000000 in
set_option maxRecDepth 100000 in
theorem w_X11_layOut_L4 {p : Program} {l : Launch} {e : Env} {s : State} {m : MethodId} {args : Array Value} {below : List Frame} {meth : Method} {c : Code} {E : En} {α : Nat → Nat} {g : Nat × Nat} (C : Cx p s m args meth c RX11 cX11_layOut 8 none E) {z : Unit × St} {K114 : St → Option (Unit × St)} {v1 : Int32} {v2 : Int32}
    (hK114 : ∀ (S : St) (H : Heap) (locs : List Loc) (ls : Array Slot), Rp E α g S H → va_S E.2.2.1 s.heap H locs → lv_has ls 8 [] → K114  S = some z → W p l e rm_X11_layOut s m args below meth c H locs 0 0 (MQ below (Qv E α g z) args s 0 0 E.2.2.1) (F0 m 114 ls [])) :
    ∀ (f : Nat) (v3 : Int32) (S : St) (H : Heap) (locs : List Loc) (ls : Array Slot), Rp E α g S H → va_S E.2.2.1 s.heap H locs → lv_has ls 8 [(0, .ref (α 54)), (1, .int v1), (2, .int v2), (3, .int v3)] → f_X11_layOut_L4 K114 v1 v2 f v3 S = some z → W p l e rm_X11_layOut s m args below meth c H locs 0 0 (MQ below (Qv E α g z) args s 0 0 E.2.2.1) (F0 m 4 ls []) := by
  obtain ⟨hx, hb, hml, hown, hts, hlk, hrt, hKs⟩ := id C
  intro f
  induction f with
  | zero =>
    intro v3 S H locs ls  hR hS hl h
    rw [f_X11_layOut_L4] at h
    cases h
  | succ f ih =>
    intro v3 S H locs ls  hR hS hl h
    rw [f_X11_layOut_L4] at h
    refine lv_iload_n hx hb dX11_layOut_4 rfl (lv_at hl 3 rfl) ?_
    refine lv_if_lt (tgt := 114) hx hb dX11_layOut_5 (by decide) (fun c10 => ?_) (fun c10 => ?_)
    · have h := ite_t c10 h
      exact hK114  _ _ _ _  hR hS (lv_sub hl [] rfl) h
    · have h := ite_f c10 h
      refine lv_iconst (v := 0) hx hb dX11_layOut_8 (by decide) ?_
      refine lv_istore (lv' := [(4, .int (0 : Int32)), (0, .ref (α 54)), (1, .int v1), (2, .int v2), (3, .int v3)]) hx hb dX11_layOut_9 hl (by decide) rfl (fun ls hl => ?_)
      refine w_X11_layOut_L11 C ?_  _ _ _ _ _ _  hR hS (lv_sub hl [1, 2, 3, 4, 0] rfl) h
      · intro  S26 H locs ls  hR hS hl h
        obtain ⟨x27, ex27, h⟩ := lt_e h
        refine lv_iinc (v := x27) (lv' := [(3, .int x27), (0, .ref (α 54)), (1, .int v1), (2, .int v2)]) hx hb dX11_layOut_108 hl (k := 3) rfl (by rw [ex27]; rfl) (by decide) rfl (fun ls hl => ?_)
        refine lv_goto (tgt := 4) hx hb dX11_layOut_111 (by decide) ?_
        exact ih _ _ _ _ _  hR hS (lv_sub hl [1, 2, 3, 0] rfl) h

set_option maxHeartbeats 4000000 in
set_option maxRecDepth 100000 in
theorem c_X11_layOut (l : Launch) {E : En} {α : Nat → Nat} {g : Nat × Nat} {v1 : Int32} {v2 : Int32} {S : St}  {z : Unit × St} (h : f_X11_layOut v1 v2 S = some z) : Met l yX11_layOut (wsY yX11_layOut cX11_layOut 8 none) rm_X11_layOut (va_Pc [.ref (α 54), .int v1, .int v2] (Wd E α g S)) (Qv E α g z) 0 0 E.2.2.1 := by
  refine g_met [.ref (α 54), .int v1, .int v2] (by decide) rfl (Nat.le_of_ble_eq_true rfl) ?_
  intro p e s m below meth c ls C hR hl
  generalize hae : ([.ref (α 54), .int v1, .int v2] : List Value).toArray = args at C ⊢
  have hl : lv_has ls 8 [(0, .ref (α 54)), (1, .int v1), (2, .int v2)] := hl
  obtain ⟨hx, hb, hml, hown, hts, hlk, hrt, hKs⟩ := id C
  have hS : va_S E.2.2.1 s.heap s.heap [] := va_S.rf
  unfold f_X11_layOut at h
  refine lv_iload_n hx hb dX11_layOut_0 rfl (lv_at hl 2 rfl) ?_
  refine lv_iconst (v := 1) hx hb dX11_layOut_1 (by decide) ?_
  refine lv_isub hx hb dX11_layOut_2 ?_
  obtain ⟨x9, ex9, h⟩ := lt_e h
  refine g_nmi ex9 ?_
  refine lv_istore_n (lv' := [(3, .int x9), (0, .ref (α 54)), (1, .int v1), (2, .int v2)]) hx hb dX11_layOut_3 rfl hl (by decide) rfl (fun ls hl => ?_)
  refine w_X11_layOut_L4 C ?_  _ _ _ _ _ _  hR hS (lv_sub hl [1, 2, 3, 0] rfl) h
  · intro  S28 H locs ls  hR hS hl h
    exact g_vret C hR hS h dX11_layOut_114

/-! OneVoiceModel.leastOf()I -/
abbrev rm_X11_leastOf : Room := { frames := 0, cells := 0, slots := 0, locals := 0 }
theorem m_X11_leastOf : MV yX11_leastOf RX11 cX11_leastOf 3 (some .int) 0 := ⟨q1156, q41, q77, q1157, by decide +kernel⟩
def f_X11_leastOf_L5 (K43 : Int32 → St → Option (Int32 × St))  : Nat → Int32 → Int32 → St → Option (Int32 × St)
  | 0, _, _, _ => none
  | f + 1, v1, v2, S =>
    if ((64 : Int32) * (rd S 54 0)) ≤ v2 then
      K43 v1 S
    else
      gd_ (inb v2 17408) <|
      lt_ (fun (t6 : Int32) (S7 : St) =>
          lt_ (v2 + (1 : Int32)) fun x8 =>
          f_X11_leastOf_L5 K43 f t6 x8 S7) fun J36 =>
      if v1 ≤ (rd S 61 (Int32.toNatClampNeg v2)) then
        J36 v1 S
      else
        gd_ (inb v2 17408) <|
        J36 (rd S 61 (Int32.toNatClampNeg v2)) S

def f_X11_leastOf  (S : St) : Option (Int32 × St) :=
  f_X11_leastOf_L5
    (fun (x11 : Int32) (S12 : St) =>
      some (x11, S12))
     FU (1000000 : Int32) (0 : Int32) S

set_option maxHeartbeats 4000000 in
set_option maxRecDepth 100000 in
theorem w_X11_leastOf_L5 {p : Program} {l : Launch} {e : Env} {s : State} {m : MethodId} {args : Array Value} {below : List Frame} {meth : Method} {c : Code} {E : En} {α : Nat → Nat} {g : Nat × Nat} (C : Cx p s m args meth c RX11 cX11_leastOf 3 (some .int) E) {z : Int32 × St} {K43 : Int32 → St → Option (Int32 × St)}
    (hK43 : ∀ (y1 : Int32) (S : St) (H : Heap) (locs : List Loc) (ls : Array Slot), Rp E α g S H → va_S E.2.2.1 s.heap H locs → lv_has ls 3 [(1, .int y1)] → K43 y1 S = some z → W p l e rm_X11_leastOf s m args below meth c H locs 0 0 (MQ below (Qi E α g z) args s 0 0 E.2.2.1) (F0 m 43 ls [])) :
    ∀ (f : Nat) (v1 : Int32) (v2 : Int32) (S : St) (H : Heap) (locs : List Loc) (ls : Array Slot), Rp E α g S H → va_S E.2.2.1 s.heap H locs → lv_has ls 3 [(0, .ref (α 54)), (1, .int v1), (2, .int v2)] → f_X11_leastOf_L5 K43 f v1 v2 S = some z → W p l e rm_X11_leastOf s m args below meth c H locs 0 0 (MQ below (Qi E α g z) args s 0 0 E.2.2.1) (F0 m 5 ls []) := by
  obtain ⟨hx, hb, hml, hown, hts, hlk, hrt, hKs⟩ := id C
  intro f
  induction f with
  | zero =>
    intro v1 v2 S H locs ls  hR hS hl h
    rw [f_X11_leastOf_L5] at h
    cases h
  | succ f ih =>
    intro v1 v2 S H locs ls  hR hS hl h
    rw [f_X11_leastOf_L5] at h
    refine lv_iload_n hx hb dX11_leastOf_5 rfl (lv_at hl 2 rfl) ?_
    refine lv_bipush (v := 64) hx hb dX11_leastOf_6 (by decide) ?_
    refine lv_aload_n hx hb dX11_leastOf_8 rfl (lv_at hl 0 rfl) ?_
    refine g_geti C hR (k := 54) (j := 0) (live_st (by decide)) rfl rfl (vw11) inl11 (by decide) q943 dX11_leastOf_9 ?_
    refine lv_imul hx hb dX11_leastOf_12 ?_
    refine lv_icmp_ge (tgt := 43) hx hb dX11_leastOf_13 (by decide) (fun c4 => ?_) (fun c4 => ?_)
    · have h := ite_t c4 h
      exact hK43 _ _ _ _ _  hR hS (lv_sub hl [1] rfl) h
    · have h := ite_f c4 h
      refine lv_aload_n hx hb dX11_leastOf_16 rfl (lv_at hl 0 rfl) ?_
      refine g_getr (t := 61) C hR (k := 54) (j := 8) (live_st (by decide)) rfl rfl (vw11) inl11 (by decide) q951 dX11_leastOf_17 ?_
      refine lv_iload_n hx hb dX11_leastOf_20 rfl (lv_at hl 2 rfl) ?_
      obtain ⟨g5, h⟩ := gd_e h
      refine g_iald C hR (k := 61) (n := 17408) (live_st (by decide)) rfl g5 dX11_leastOf_21 ?_
      refine lv_iload_n hx hb dX11_leastOf_22 rfl (lv_at hl 1 rfl) ?_
      obtain ⟨J36, eJ36, h⟩ := lt_e h
      have hJ36 : ∀ (t6 : Int32) (S7 : St) (H : Heap) (locs : List Loc) (ls : Array Slot), Rp E α g S7 H → va_S E.2.2.1 s.heap H locs → lv_has ls 3 [(0, .ref (α 54)), (2, .int v2)] → J36 t6 S7 = some z → W p l e rm_X11_leastOf s m args below meth c H locs 0 0 (MQ below (Qi E α g z) args s 0 0 E.2.2.1) (F0 m 36 ls [.int t6]) := by
        intro t6 S7 H locs ls  hR hS hl h
        rw [eJ36] at h
        refine lv_istore_n (lv' := [(1, .int t6), (0, .ref (α 54)), (2, .int v2)]) hx hb dX11_leastOf_36 rfl hl (by decide) rfl (fun ls hl => ?_)
        obtain ⟨x8, ex8, h⟩ := lt_e h
        refine lv_iinc (v := x8) (lv' := [(2, .int x8), (1, .int t6), (0, .ref (α 54))]) hx hb dX11_leastOf_37 hl (k := 2) rfl (by rw [ex8]; rfl) (by decide) rfl (fun ls hl => ?_)
        refine lv_goto (tgt := 5) hx hb dX11_leastOf_40 (by decide) ?_
        exact ih _ _ _ _ _ _  hR hS (lv_sub hl [2, 1, 0] rfl) h
      clear eJ36
      refine lv_icmp_ge (tgt := 35) hx hb dX11_leastOf_23 (by decide) (fun c9 => ?_) (fun c9 => ?_)
      · have h := ite_t c9 h
        refine lv_iload_n hx hb dX11_leastOf_35 rfl (lv_at hl 1 rfl) ?_
        exact hJ36 _ _ _ _ _  hR hS (lv_sub hl [0, 2] rfl) h
      · have h := ite_f c9 h
        refine lv_aload_n hx hb dX11_leastOf_26 rfl (lv_at hl 0 rfl) ?_
        refine g_getr (t := 61) C hR (k := 54) (j := 8) (live_st (by decide)) rfl rfl (vw11) inl11 (by decide) q951 dX11_leastOf_27 ?_
        refine lv_iload_n hx hb dX11_leastOf_30 rfl (lv_at hl 2 rfl) ?_
        obtain ⟨g10, h⟩ := gd_e h
        refine g_iald C hR (k := 61) (n := 17408) (live_st (by decide)) rfl g10 dX11_leastOf_31 ?_
        refine lv_goto (tgt := 36) hx hb dX11_leastOf_32 (by decide) ?_
        exact hJ36 _ _ _ _ _  hR hS (lv_sub hl [0, 2] rfl) h

set_option maxHeartbeats 4000000 in
set_option maxRecDepth 100000 in
theorem c_X11_leastOf (l : Launch) {E : En} {α : Nat → Nat} {g : Nat × Nat}  {S : St}  {z : Int32 × St} (h : f_X11_leastOf  S = some z) : Met l yX11_leastOf (wsY yX11_leastOf cX11_leastOf 3 (some .int)) rm_X11_leastOf (va_Pc [.ref (α 54)] (Wd E α g S)) (Qi E α g z) 0 0 E.2.2.1 := by
  refine g_met [.ref (α 54)] (by decide) rfl (Nat.le_of_ble_eq_true rfl) ?_
  intro p e s m below meth c ls C hR hl
  generalize hae : ([.ref (α 54)] : List Value).toArray = args at C ⊢
  have hl : lv_has ls 3 [(0, .ref (α 54))] := hl
  obtain ⟨hx, hb, hml, hown, hts, hlk, hrt, hKs⟩ := id C
  have hS : va_S E.2.2.1 s.heap s.heap [] := va_S.rf
  unfold f_X11_leastOf at h
  refine lv_ldc (v := 1000000) hx hb hown (hts _ q1137) dX11_leastOf_0 ?_
  refine lv_istore_n (lv' := [(1, .int (1000000 : Int32)), (0, .ref (α 54))]) hx hb dX11_leastOf_2 rfl hl (by decide) rfl (fun ls hl => ?_)
  refine lv_iconst (v := 0) hx hb dX11_leastOf_3 (by decide) ?_
  refine lv_istore_n (lv' := [(2, .int (0 : Int32)), (1, .int (1000000 : Int32)), (0, .ref (α 54))]) hx hb dX11_leastOf_4 rfl hl (by decide) rfl (fun ls hl => ?_)
  refine w_X11_leastOf_L5 C ?_  _ _ _ _ _ _ _  hR hS (lv_sub hl [2, 1, 0] rfl) h
  · intro x11 S12 H locs ls  hR hS hl h
    refine lv_iload_n hx hb dX11_leastOf_43 rfl (lv_at hl 0 rfl) ?_
    exact g_iret C hR hS h dX11_leastOf_44

/-! OneVoiceModel.layRow(JI)V -/
abbrev rm_X11_layRow : Room := { frames := 0, cells := 0, slots := 0, locals := 0 }
theorem m_X11_layRow : MV yX11_layRow RX11 cX11_layRow 5 none 2 := ⟨q1130, q36, q77, q1131, by decide +kernel⟩
def f_X11_layRow_L3 (K33 : St → Option (Unit × St)) (v1 : Int64) (v3 : Int32) : Nat → Int32 → St → Option (Unit × St)
  | 0, _, _ => none
  | f + 1, v4, S =>
    if v3 ≤ v4 then
      K33  S
    else
      gd_ (inb v4 16) <|
      lt_ (wr S 63 (Int32.toNatClampNeg v4) (Int64.toInt32 ((lshrv v1 ((4 : Int32) * v4)) &&& (15 : Int64)))) fun S4 =>
      lt_ (v4 + (1 : Int32)) fun x6 =>
      f_X11_layRow_L3 K33 v1 v3 f x6 S4

def f_X11_layRow (v1 : Int64) (v3 : Int32) (S : St) : Option (Unit × St) :=
  f_X11_layRow_L3
    (fun  (S7 : St) =>
      some ((), S7))
    v1 v3 FU (0 : Int32) S

set_option maxHeartbeats 4000000 in
set_option maxRecDepth 100000 in
theorem w_X11_layRow_L3 {p : Program} {l : Launch} {e : Env} {s : State} {m : MethodId} {args : Array Value} {below : List Frame} {meth : Method} {c : Code} {E : En} {α : Nat → Nat} {g : Nat × Nat} (C : Cx p s m args meth c RX11 cX11_layRow 5 none E) {z : Unit × St} {K33 : St → Option (Unit × St)} {v1 : Int64} {v3 : Int32}
    (hK33 : ∀ (S : St) (H : Heap) (locs : List Loc) (ls : Array Slot), Rp E α g S H → va_S E.2.2.1 s.heap H locs → lv_has ls 5 [] → K33  S = some z → W p l e rm_X11_layRow s m args below meth c H locs 0 0 (MQ below (Qv E α g z) args s 0 0 E.2.2.1) (F0 m 33 ls [])) :
    ∀ (f : Nat) (v4 : Int32) (S : St) (H : Heap) (locs : List Loc) (ls : Array Slot), Rp E α g S H → va_S E.2.2.1 s.heap H locs → lv_has ls 5 [(0, .ref (α 54)), (1, .long v1), (3, .int v3), (4, .int v4)] → f_X11_layRow_L3 K33 v1 v3 f v4 S = some z → W p l e rm_X11_layRow s m args below meth c H locs 0 0 (MQ below (Qv E α g z) args s 0 0 E.2.2.1) (F0 m 3 ls []) := by
  obtain ⟨hx, hb, hml, hown, hts, hlk, hrt, hKs⟩ := id C
  intro f
  induction f with
  | zero =>
    intro v4 S H locs ls  hR hS hl h
    rw [f_X11_layRow_L3] at h
    cases h
  | succ f ih =>
    intro v4 S H locs ls  hR hS hl h
    rw [f_X11_layRow_L3] at h
    refine lv_iload hx hb dX11_layRow_3 (lv_at hl 3 rfl) ?_
    refine lv_iload_n hx hb dX11_layRow_5 rfl (lv_at hl 2 rfl) ?_
    refine lv_icmp_ge (tgt := 33) hx hb dX11_layRow_6 (by decide) (fun c3 => ?_) (fun c3 => ?_)
    · have h := ite_t c3 h
      exact hK33  _ _ _ _  hR hS (lv_sub hl [] rfl) h
    · have h := ite_f c3 h
      refine lv_aload_n hx hb dX11_layRow_9 rfl (lv_at hl 0 rfl) ?_
      refine g_getr (t := 63) C hR (k := 54) (j := 10) (live_st (by decide)) rfl rfl (vw11) inl11 (by decide) q953 dX11_layRow_10 ?_
      refine lv_iload hx hb dX11_layRow_13 (lv_at hl 3 rfl) ?_
      refine lv_lload_n hx hb dX11_layRow_15 rfl (lv_at hl 1 rfl) ?_
      refine lv_iconst (v := 4) hx hb dX11_layRow_16 (by decide) ?_
      refine lv_iload hx hb dX11_layRow_17 (lv_at hl 3 rfl) ?_
      refine lv_imul hx hb dX11_layRow_19 ?_
      refine lv_lshr (v := lshrv v1 ((4 : Int32) * v4)) hx hb dX11_layRow_20 rfl ?_
      refine lv_ldc2 (v := 15) hx hb hown (hts _ q1132) dX11_layRow_21 ?_
      refine lv_land hx hb dX11_layRow_24 ?_
      refine lv_l2i (v := Int64.toInt32 ((lshrv v1 ((4 : Int32) * v4)) &&& (15 : Int64))) hx hb dX11_layRow_25 rfl ?_
      obtain ⟨g5, h⟩ := gd_e h
      obtain ⟨S4, eS4, h⟩ := lt_e h
      refine g_iast C hR hS (k := 63) (n := 16) (live_st (by decide)) rfl g5 eS4 dX11_layRow_26 (fun H locs hR hS => ?_)
      obtain ⟨x6, ex6, h⟩ := lt_e h
      refine lv_iinc (v := x6) (lv' := [(4, .int x6), (0, .ref (α 54)), (1, .long v1), (3, .int v3)]) hx hb dX11_layRow_27 hl (k := 3) rfl (by rw [ex6]; rfl) (by decide) rfl (fun ls hl => ?_)
      refine lv_goto (tgt := 3) hx hb dX11_layRow_30 (by decide) ?_
      exact ih _ _ _ _ _  hR hS (lv_sub hl [1, 2, 3, 0] rfl) h

set_option maxHeartbeats 4000000 in
set_option maxRecDepth 100000 in
theorem c_X11_layRow (l : Launch) {E : En} {α : Nat → Nat} {g : Nat × Nat} {v1 : Int64} {v3 : Int32} {S : St}  {z : Unit × St} (h : f_X11_layRow v1 v3 S = some z) : Met l yX11_layRow (wsY yX11_layRow cX11_layRow 5 none) rm_X11_layRow (va_Pc [.ref (α 54), .long v1, .int v3] (Wd E α g S)) (Qv E α g z) 0 0 E.2.2.1 := by
  refine g_met [.ref (α 54), .long v1, .int v3] (by decide) rfl (Nat.le_of_ble_eq_true rfl) ?_
  intro p e s m below meth c ls C hR hl
  generalize hae : ([.ref (α 54), .long v1, .int v3] : List Value).toArray = args at C ⊢
  have hl : lv_has ls 5 [(0, .ref (α 54)), (1, .long v1), (3, .int v3)] := hl
  obtain ⟨hx, hb, hml, hown, hts, hlk, hrt, hKs⟩ := id C
  have hS : va_S E.2.2.1 s.heap s.heap [] := va_S.rf
  unfold f_X11_layRow at h
  refine lv_iconst (v := 0) hx hb dX11_layRow_0 (by decide) ?_
  refine lv_istore (lv' := [(4, .int (0 : Int32)), (0, .ref (α 54)), (1, .long v1), (3, .int v3)]) hx hb dX11_layRow_1 hl (by decide) rfl (fun ls hl => ?_)
  refine w_X11_layRow_L3 C ?_  _ _ _ _ _ _  hR hS (lv_sub hl [1, 2, 3, 0] rfl) h
  · intro  S7 H locs ls  hR hS hl h
    exact g_vret C hR hS h dX11_layRow_33

/-! OneVoiceModel.said(IJII)I -/
abbrev rm_X11_said : Room := { frames := 4, cells := 0, slots := 0, locals := 101 }
theorem m_X11_said : MV yX11_said RX11 cX11_said 10 (some .int) 4 := ⟨q1125, q1126, q77, q1127, by decide +kernel⟩
def f_X11_said_L78 (K132 : Int64 → St → Option (Int32 × St)) (v6 : Int32) : Nat → Int64 → Int32 → St → Option (Int32 × St)
  | 0, _, _, _ => none
  | f + 1, v7, v9, S =>
    if ((64 : Int32) * (rd S 54 0)) ≤ v9 then
      K132 v7 S
    else
      lt_ (fun (t22 : Int64) (t23 : Int64) (S24 : St) =>
          lt_ (t22 + t23) fun x25 =>
          lt_ (v9 + (1 : Int32)) fun x26 =>
          f_X11_said_L78 K132 v6 f x25 x26 S24) fun J123 =>
      lt_ (fun (t27 : Int64) (S28 : St) =>
          J123 t27 (0 : Int64) S28) fun J122 =>
      if (1000000 : Int32) ≤ v6 then
        J122 v7 S
      else
        gd_ (inb v9 17408) <|
        if (rd S 61 (Int32.toNatClampNeg v9)) = v6 then
          gd_ (inb v9 17408) <|
          J123 v7 (Int32.toInt64 (rd S 62 (Int32.toNatClampNeg v9))) S
        else
          J122 v7 S

def f_X11_said (v1 : Int32) (v2 : Int64) (v4 : Int32) (v5 : Int32) (S : St) : Option (Int32 × St) :=
  bd_ (f_X11_in v1 (0 : Int32) (3 : Int32) S) fun r5 S6 =>
  if r5 = 0 then
    some ((-3 : Int32), S6)
  else
    bd_ (f_X11_in v4 (1 : Int32) (16 : Int32) S6) fun r8 S9 =>
    if r8 = 0 then
      some ((-3 : Int32), S9)
    else
      bd_ (f_X11_in v5 (0 : Int32) (1 : Int32) S9) fun r11 S12 =>
      if r11 = 0 then
        some ((-3 : Int32), S12)
      else
        bd_ (f_X11_layRow v2 v4 S12) fun r14 S15 =>
        bd_ (f_X11_layOut v1 v4 S15) fun r16 S17 =>
        bd_ (f_X11_leastOf  S17) fun r18 S19 =>
        if v5 = 0 then
          if r18 = (1000000 : Int32) then
            some ((-1 : Int32), S19)
          else
            some (r18, S19)
        else
          f_X11_said_L78
            (fun (x33 : Int64) (S34 : St) =>
              some ((Int64.toInt32 (x33 - x33 / (1000000007 : Int64) * (1000000007 : Int64))), S34))
            r18 FU (0 : Int64) (0 : Int32) S19

set_option maxHeartbeats 4000000 in
set_option maxRecDepth 100000 in
theorem w_X11_said_L78 {p : Program} {l : Launch} {e : Env} {s : State} {m : MethodId} {args : Array Value} {below : List Frame} {meth : Method} {c : Code} {E : En} {α : Nat → Nat} {g : Nat × Nat} (C : Cx p s m args meth c RX11 cX11_said 10 (some .int) E) {z : Int32 × St} {K132 : Int64 → St → Option (Int32 × St)} {v6 : Int32}
    (hK132 : ∀ (y7 : Int64) (S : St) (H : Heap) (locs : List Loc) (ls : Array Slot), Rp E α g S H → va_S E.2.2.1 s.heap H locs → lv_has ls 10 [(7, .long y7)] → K132 y7 S = some z → W p l e rm_X11_said s m args below meth c H locs 0 0 (MQ below (Qi E α g z) args s 0 0 E.2.2.1) (F0 m 132 ls [])) :
    ∀ (f : Nat) (v7 : Int64) (v9 : Int32) (S : St) (H : Heap) (locs : List Loc) (ls : Array Slot), Rp E α g S H → va_S E.2.2.1 s.heap H locs → lv_has ls 10 [(0, .ref (α 54)), (6, .int v6), (7, .long v7), (9, .int v9)] → f_X11_said_L78 K132 v6 f v7 v9 S = some z → W p l e rm_X11_said s m args below meth c H locs 0 0 (MQ below (Qi E α g z) args s 0 0 E.2.2.1) (F0 m 78 ls []) := by
  obtain ⟨hx, hb, hml, hown, hts, hlk, hrt, hKs⟩ := id C
  intro f
  induction f with
  | zero =>
    intro v7 v9 S H locs ls  hR hS hl h
    rw [f_X11_said_L78] at h
    cases h
  | succ f ih =>
    intro v7 v9 S H locs ls  hR hS hl h
    rw [f_X11_said_L78] at h
    refine lv_iload hx hb dX11_said_78 (lv_at hl 3 rfl) ?_
    refine lv_bipush (v := 64) hx hb dX11_said_80 (by decide) ?_
    refine lv_aload_n hx hb dX11_said_82 rfl (lv_at hl 0 rfl) ?_
    refine g_geti C hR (k := 54) (j := 0) (live_st (by decide)) rfl rfl (vw11) inl11 (by decide) q943 dX11_said_83 ?_
    refine lv_imul hx hb dX11_said_86 ?_
    refine lv_icmp_ge (tgt := 132) hx hb dX11_said_87 (by decide) (fun c21 => ?_) (fun c21 => ?_)
    · have h := ite_t c21 h
      exact hK132 _ _ _ _ _  hR hS (lv_sub hl [2] rfl) h
    · have h := ite_f c21 h
      refine lv_lload hx hb dX11_said_90 (lv_at hl 2 rfl) ?_
      refine lv_iload hx hb dX11_said_92 (lv_at hl 1 rfl) ?_
      refine lv_ldc (v := 1000000) hx hb hown (hts _ q1137) dX11_said_94 ?_
      obtain ⟨J123, eJ123, h⟩ := lt_e h
      have hJ123 : ∀ (t22 : Int64) (t23 : Int64) (S24 : St) (H : Heap) (locs : List Loc) (ls : Array Slot), Rp E α g S24 H → va_S E.2.2.1 s.heap H locs → lv_has ls 10 [(0, .ref (α 54)), (6, .int v6), (9, .int v9)] → J123 t22 t23 S24 = some z → W p l e rm_X11_said s m args below meth c H locs 0 0 (MQ below (Qi E α g z) args s 0 0 E.2.2.1) (F0 m 123 ls [.long t23, .long t22]) := by
        intro t22 t23 S24 H locs ls  hR hS hl h
        rw [eJ123] at h
        refine lv_ladd hx hb dX11_said_123 ?_
        obtain ⟨x25, ex25, h⟩ := lt_e h
        refine g_nml ex25 ?_
        refine lv_lstore (lv' := [(7, .long x25), (0, .ref (α 54)), (6, .int v6), (9, .int v9)]) hx hb dX11_said_124 hl (by decide) rfl (fun ls hl => ?_)
        obtain ⟨x26, ex26, h⟩ := lt_e h
        refine lv_iinc (v := x26) (lv' := [(9, .int x26), (7, .long x25), (0, .ref (α 54)), (6, .int v6)]) hx hb dX11_said_126 hl (k := 3) rfl (by rw [ex26]; rfl) (by decide) rfl (fun ls hl => ?_)
        refine lv_goto (tgt := 78) hx hb dX11_said_129 (by decide) ?_
        exact ih _ _ _ _ _ _  hR hS (lv_sub hl [2, 3, 1, 0] rfl) h
      clear eJ123
      obtain ⟨J122, eJ122, h⟩ := lt_e h
      have hJ122 : ∀ (t27 : Int64) (S28 : St) (H : Heap) (locs : List Loc) (ls : Array Slot), Rp E α g S28 H → va_S E.2.2.1 s.heap H locs → lv_has ls 10 [(0, .ref (α 54)), (6, .int v6), (9, .int v9)] → J122 t27 S28 = some z → W p l e rm_X11_said s m args below meth c H locs 0 0 (MQ below (Qi E α g z) args s 0 0 E.2.2.1) (F0 m 122 ls [.long t27]) := by
        intro t27 S28 H locs ls  hR hS hl h
        rw [eJ122] at h
        refine lv_lconst (v := 0) hx hb dX11_said_122 (by decide) ?_
        exact hJ123 _ _ _ _ _ _  hR hS hl h
      clear eJ122
      refine lv_icmp_ge (tgt := 122) hx hb dX11_said_96 (by decide) (fun c29 => ?_) (fun c29 => ?_)
      · have h := ite_t c29 h
        exact hJ122 _ _ _ _ _  hR hS (lv_sub hl [0, 1, 3] rfl) h
      · have h := ite_f c29 h
        refine lv_aload_n hx hb dX11_said_99 rfl (lv_at hl 0 rfl) ?_
        refine g_getr (t := 61) C hR (k := 54) (j := 8) (live_st (by decide)) rfl rfl (vw11) inl11 (by decide) q951 dX11_said_100 ?_
        refine lv_iload hx hb dX11_said_103 (lv_at hl 3 rfl) ?_
        obtain ⟨g30, h⟩ := gd_e h
        refine g_iald C hR (k := 61) (n := 17408) (live_st (by decide)) rfl g30 dX11_said_105 ?_
        refine lv_iload hx hb dX11_said_106 (lv_at hl 1 rfl) ?_
        refine lv_icmp_ne (tgt := 122) hx hb dX11_said_108 (by decide) (fun c31 => ?_) (fun c31 => ?_)
        · have h := ite_f c31 h
          exact hJ122 _ _ _ _ _  hR hS (lv_sub hl [0, 1, 3] rfl) h
        · have h := ite_t c31 h
          refine lv_aload_n hx hb dX11_said_111 rfl (lv_at hl 0 rfl) ?_
          refine g_getr (t := 62) C hR (k := 54) (j := 9) (live_st (by decide)) rfl rfl (vw11) inl11 (by decide) q952 dX11_said_112 ?_
          refine lv_iload hx hb dX11_said_115 (lv_at hl 3 rfl) ?_
          obtain ⟨g32, h⟩ := gd_e h
          refine g_iald C hR (k := 62) (n := 17408) (live_st (by decide)) rfl g32 dX11_said_117 ?_
          refine lv_i2l (v := Int32.toInt64 (rd S 62 (Int32.toNatClampNeg v9))) hx hb dX11_said_118 rfl ?_
          refine lv_goto (tgt := 123) hx hb dX11_said_119 (by decide) ?_
          exact hJ123 _ _ _ _ _ _  hR hS (lv_sub hl [0, 1, 3] rfl) h

set_option maxHeartbeats 4000000 in
set_option maxRecDepth 100000 in
theorem c_X11_said (l : Launch) {E : En} {α : Nat → Nat} {g : Nat × Nat} {v1 : Int32} {v2 : Int64} {v4 : Int32} {v5 : Int32} {S : St}  {z : Int32 × St} (h : f_X11_said v1 v2 v4 v5 S = some z) : Met l yX11_said (wsY yX11_said cX11_said 10 (some .int)) rm_X11_said (va_Pc [.ref (α 54), .int v1, .long v2, .int v4, .int v5] (Wd E α g S)) (Qi E α g z) 0 0 E.2.2.1 := by
  refine g_met [.ref (α 54), .int v1, .long v2, .int v4, .int v5] (by decide) rfl (Nat.le_of_ble_eq_true rfl) ?_
  intro p e s m below meth c ls C hR hl
  generalize hae : ([.ref (α 54), .int v1, .long v2, .int v4, .int v5] : List Value).toArray = args at C ⊢
  have hl : lv_has ls 10 [(0, .ref (α 54)), (1, .int v1), (2, .long v2), (4, .int v4), (5, .int v5)] := hl
  obtain ⟨hx, hb, hml, hown, hts, hlk, hrt, hKs⟩ := id C
  have hS : va_S E.2.2.1 s.heap s.heap [] := va_S.rf
  unfold f_X11_said at h
  refine lv_iload_n hx hb dX11_said_0 rfl (lv_at hl 1 rfl) ?_
  refine lv_iconst (v := 0) hx hb dX11_said_1 (by decide) ?_
  refine lv_iconst (v := 3) hx hb dX11_said_2 (by decide) ?_
  obtain ⟨r5, S6, hr5, h⟩ := bd_e h
  refine g_ci hS (g_runS C hR hS (As := [.int v1, .int (0 : Int32), .int (3 : Int32)]) (rest := []) (c_X11_in l  hr5) m_X11_in q1093 ⟨rfl, rfl⟩ ⟨Nat.le_of_ble_eq_true rfl, Nat.le_of_ble_eq_true rfl⟩ rfl hl.1 rfl (Nat.le_of_ble_eq_true rfl) dX11_said_3 ⟨Nat.zero_le _, Nat.zero_le _⟩) (fun H locs hR hS => ?_)
  refine lv_if_eq (tgt := 30) hx hb dX11_said_6 (by decide) (fun c7 => ?_) (fun c7 => ?_)
  · have h := ite_t c7 h
    refine lv_bipush (v := -3) hx hb dX11_said_30 (by decide) ?_
    exact g_iret C hR hS h dX11_said_32
  · have h := ite_f c7 h
    refine lv_iload hx hb dX11_said_9 (lv_at hl 3 rfl) ?_
    refine lv_iconst (v := 1) hx hb dX11_said_11 (by decide) ?_
    refine lv_bipush (v := 16) hx hb dX11_said_12 (by decide) ?_
    obtain ⟨r8, S9, hr8, h⟩ := bd_e h
    refine g_ci hS (g_runS C hR hS (As := [.int v4, .int (1 : Int32), .int (16 : Int32)]) (rest := []) (c_X11_in l  hr8) m_X11_in q1093 ⟨rfl, rfl⟩ ⟨Nat.le_of_ble_eq_true rfl, Nat.le_of_ble_eq_true rfl⟩ rfl hl.1 rfl (Nat.le_of_ble_eq_true rfl) dX11_said_14 ⟨Nat.zero_le _, Nat.zero_le _⟩) (fun H locs hR hS => ?_)
    refine lv_if_eq (tgt := 30) hx hb dX11_said_17 (by decide) (fun c10 => ?_) (fun c10 => ?_)
    · have h := ite_t c10 h
      refine lv_bipush (v := -3) hx hb dX11_said_30 (by decide) ?_
      exact g_iret C hR hS h dX11_said_32
    · have h := ite_f c10 h
      refine lv_iload hx hb dX11_said_20 (lv_at hl 4 rfl) ?_
      refine lv_iconst (v := 0) hx hb dX11_said_22 (by decide) ?_
      refine lv_iconst (v := 1) hx hb dX11_said_23 (by decide) ?_
      obtain ⟨r11, S12, hr11, h⟩ := bd_e h
      refine g_ci hS (g_runS C hR hS (As := [.int v5, .int (0 : Int32), .int (1 : Int32)]) (rest := []) (c_X11_in l  hr11) m_X11_in q1093 ⟨rfl, rfl⟩ ⟨Nat.le_of_ble_eq_true rfl, Nat.le_of_ble_eq_true rfl⟩ rfl hl.1 rfl (Nat.le_of_ble_eq_true rfl) dX11_said_24 ⟨Nat.zero_le _, Nat.zero_le _⟩) (fun H locs hR hS => ?_)
      refine lv_if_ne (tgt := 33) hx hb dX11_said_27 (by decide) (fun c13 => ?_) (fun c13 => ?_)
      · have h := ite_f c13 h
        refine lv_aload_n hx hb dX11_said_33 rfl (lv_at hl 0 rfl) ?_
        refine lv_lload_n hx hb dX11_said_34 rfl (lv_at hl 2 rfl) ?_
        refine lv_iload hx hb dX11_said_35 (lv_at hl 3 rfl) ?_
        obtain ⟨r14, S15, hr14, h⟩ := bd_e h
        refine g_cv hS (g_runV C hR hS (k := 54) (As := [.long v2, .int v4]) (rest := []) (c_X11_layRow l  hr14) (live_st (by decide)) rfl (vw11) m_X11_layRow q1128 ⟨rfl, rfl⟩ ⟨Nat.le_of_ble_eq_true rfl, Nat.le_of_ble_eq_true rfl⟩ rfl hl.1 rfl (Nat.le_of_ble_eq_true rfl) dX11_said_37 ⟨Nat.zero_le _, Nat.zero_le _⟩) (fun H locs hR hS => ?_)
        refine lv_aload_n hx hb dX11_said_40 rfl (lv_at hl 0 rfl) ?_
        refine lv_iload_n hx hb dX11_said_41 rfl (lv_at hl 1 rfl) ?_
        refine lv_iload hx hb dX11_said_42 (lv_at hl 3 rfl) ?_
        obtain ⟨r16, S17, hr16, h⟩ := bd_e h
        refine g_cv hS (g_runV C hR hS (k := 54) (As := [.int v1, .int v4]) (rest := []) (c_X11_layOut l  hr16) (live_st (by decide)) rfl (vw11) m_X11_layOut q1133 ⟨rfl, rfl⟩ ⟨Nat.le_of_ble_eq_true rfl, Nat.le_of_ble_eq_true rfl⟩ rfl hl.1 rfl (Nat.le_of_ble_eq_true rfl) dX11_said_44 ⟨Nat.zero_le _, Nat.zero_le _⟩) (fun H locs hR hS => ?_)
        refine lv_aload_n hx hb dX11_said_47 rfl (lv_at hl 0 rfl) ?_
        obtain ⟨r18, S19, hr18, h⟩ := bd_e h
        refine g_ci hS (g_runV C hR hS (k := 54) (As := []) (rest := []) (c_X11_leastOf l  hr18) (live_st (by decide)) rfl (vw11) m_X11_leastOf q1154 ⟨rfl, rfl⟩ ⟨Nat.le_of_ble_eq_true rfl, Nat.le_of_ble_eq_true rfl⟩ rfl hl.1 rfl (Nat.le_of_ble_eq_true rfl) dX11_said_48 ⟨Nat.zero_le _, Nat.zero_le _⟩) (fun H locs hR hS => ?_)
        refine lv_istore (lv' := [(6, .int r18), (0, .ref (α 54)), (1, .int v1), (2, .long v2), (4, .int v4), (5, .int v5)]) hx hb dX11_said_51 hl (by decide) rfl (fun ls hl => ?_)
        refine lv_iload hx hb dX11_said_53 (lv_at hl 5 rfl) ?_
        refine lv_if_ne (tgt := 72) hx hb dX11_said_55 (by decide) (fun c20 => ?_) (fun c20 => ?_)
        · have h := ite_f c20 h
          refine lv_lconst (v := 0) hx hb dX11_said_72 (by decide) ?_
          refine lv_lstore (lv' := [(7, .long (0 : Int64)), (6, .int r18), (0, .ref (α 54)), (1, .int v1), (2, .long v2), (4, .int v4), (5, .int v5)]) hx hb dX11_said_73 hl (by decide) rfl (fun ls hl => ?_)
          refine lv_iconst (v := 0) hx hb dX11_said_75 (by decide) ?_
          refine lv_istore (lv' := [(9, .int (0 : Int32)), (7, .long (0 : Int64)), (6, .int r18), (0, .ref (α 54)), (1, .int v1), (2, .long v2), (4, .int v4), (5, .int v5)]) hx hb dX11_said_76 hl (by decide) rfl (fun ls hl => ?_)
          refine w_X11_said_L78 C ?_  _ _ _ _ _ _ _  hR hS (lv_sub hl [3, 2, 1, 0] rfl) h
          · intro x33 S34 H locs ls  hR hS hl h
            refine lv_lload hx hb dX11_said_132 (lv_at hl 0 rfl) ?_
            refine lv_ldc2 (v := 1000000007) hx hb hown (hts _ q1153) dX11_said_134 ?_
            refine lv_lrem hx hb dX11_said_137 (by decide) ?_
            refine lv_l2i (v := Int64.toInt32 (x33 - x33 / (1000000007 : Int64) * (1000000007 : Int64))) hx hb dX11_said_138 rfl ?_
            exact g_iret C hR hS h dX11_said_139
        · have h := ite_t c20 h
          refine lv_iload hx hb dX11_said_58 (lv_at hl 0 rfl) ?_
          refine lv_ldc (v := 1000000) hx hb hown (hts _ q1137) dX11_said_60 ?_
          refine lv_icmp_ne (tgt := 69) hx hb dX11_said_62 (by decide) (fun c35 => ?_) (fun c35 => ?_)
          · have h := ite_f c35 h
            refine lv_iload hx hb dX11_said_69 (lv_at hl 0 rfl) ?_
            exact g_iret C hR hS h dX11_said_71
          · have h := ite_t c35 h
            refine lv_iconst (v := -1) hx hb dX11_said_65 (by decide) ?_
            refine lv_goto (tgt := 71) hx hb dX11_said_66 (by decide) ?_
            exact g_iret C hR hS h dX11_said_71
      · have h := ite_t c13 h
        refine lv_bipush (v := -3) hx hb dX11_said_30 (by decide) ?_
        exact g_iret C hR hS h dX11_said_32
