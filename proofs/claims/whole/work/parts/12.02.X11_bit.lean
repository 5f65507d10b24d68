/-! OneVoiceModel.bit(IJII)I -/
abbrev rm_X11_bit : Room := { frames := 4, cells := 0, slots := 0, locals := 101 }
theorem m_X11_bit : MV yX11_bit RX11 cX11_bit 14 (some .int) 4 := ⟨q1159, q1160, q77, q1161, by decide +kernel⟩
def f_X11_bit_L79 (K156 : Int32 → St → Option (Int32 × St)) (v4 : Int32) (v5 : Int32) (v6 : Int32) (v7 : Int32) (v8 : Int32) (v9 : Int32) : Nat → Int32 → St → Option (Int32 × St)
  | 0, _, _ => none
  | f + 1, v10, S =>
    gd_ (inb (((1024 : Int32) * v7) + v10) 17408) <|
    lt_ (fun  (S31 : St) =>
        lt_ (v10 + (1 : Int32)) fun x32 =>
        f_X11_bit_L79 K156 v4 v5 v6 v7 v8 v9 f x32 S31) fun J150 =>
    if (rd S 61 (Int32.toNatClampNeg (((1024 : Int32) * v7) + v10))) = (1000000 : Int32) then
      J150  S
    else
      gd_ (inb (((1024 : Int32) * v7) + v10) 17408) <|
      lt_ (fun (t35 : Int32) (t36 : Int32) (S37 : St) =>
          if (t35 + t36) = v8 then
            K156 v10 S37
          else
            J150  S37) fun J144 =>
      if v9 = (-1 : Int32) then
        J144 (rd S 61 (Int32.toNatClampNeg (((1024 : Int32) * v7) + v10))) (0 : Int32) S
      else
        bd_ (f_X11_toneOf (v10 / (64 : Int32)) ((v10 / (8 : Int32)) - (v10 / (8 : Int32)) / (8 : Int32) * (8 : Int32)) S) fun r40 S41 =>
        bd_ (f_X11_apart v9 r40 S41) fun r42 S43 =>
        J144 (rd S 61 (Int32.toNatClampNeg (((1024 : Int32) * v7) + v10))) r42 S43

def f_X11_bit_L69 (K259 : Int32 → St → Option (Int32 × St)) (v4 : Int32) (v5 : Int32) : Nat → Int32 → Int32 → Int32 → Int32 → St → Option (Int32 × St)
  | 0, _, _, _, _, _ => none
  | f + 1, v6, v7, v8, v9, S =>
    if v4 ≤ v7 then
      K259 v6 S
    else
      f_X11_bit_L79
        (fun (x44 : Int32) (S45 : St) =>
          lt_ (x44 / (64 : Int32)) fun x46 =>
          lt_ ((x44 / (8 : Int32)) - (x44 / (8 : Int32)) / (8 : Int32) * (8 : Int32)) fun x47 =>
          lt_ ((x44 - x44 / (8 : Int32) * (8 : Int32)) + (1 : Int32)) fun x48 =>
          gd_ (inb (((1024 : Int32) * v7) + x44) 17408) <|
          bd_ (f_X11_cutsOf x46 x47 x48 S45) fun r50 S51 =>
          lt_ ((rd S45 61 (Int32.toNatClampNeg (((1024 : Int32) * v7) + x44))) - r50) fun x52 =>
          bd_ (f_X11_toneOf x46 ((x47 + x48) - (1 : Int32)) S51) fun r53 S54 =>
          gd_ (inb v6 16) <|
          lt_ (wr S54 64 (Int32.toNatClampNeg v6) ((((256 : Int32) * x46) + ((16 : Int32) * x47)) + x48)) fun S55 =>
          lt_ (v6 + (1 : Int32)) fun x57 =>
          lt_ (v7 + x48) fun x58 =>
          f_X11_bit_L69 K259 v4 v5 f x57 x58 x52 r53 S55)
        v4 v5 v6 v7 v8 v9 FU (0 : Int32) S

def f_X11_bit (v1 : Int32) (v2 : Int64) (v4 : Int32) (v5 : Int32) (S : St) : Option (Int32 × St) :=
  bd_ (f_X11_in v1 (0 : Int32) (3 : Int32) S) fun r13 S14 =>
  if r13 = 0 then
    some ((-3 : Int32), S14)
  else
    bd_ (f_X11_in v4 (1 : Int32) (16 : Int32) S14) fun r16 S17 =>
    if r16 = 0 then
      some ((-3 : Int32), S17)
    else
      if (-1 : Int32) ≤ v5 then
        bd_ (f_X11_layRow v2 v4 S17) fun r20 S21 =>
        bd_ (f_X11_layOut v1 v4 S21) fun r22 S23 =>
        bd_ (f_X11_leastOf  S23) fun r24 S25 =>
        if r24 = (1000000 : Int32) then
          some ((-1 : Int32), S25)
        else
          bd_ (f_X11_leastOf  S25) fun r27 S28 =>
          f_X11_bit_L69
            (fun (x59 : Int32) (S60 : St) =>
              if v5 = (-1 : Int32) then
                some (x59, S60)
              else
                if x59 ≤ v5 then
                  some ((-1 : Int32), S60)
                else
                  gd_ (inb v5 16) <|
                  some ((rd S60 64 (Int32.toNatClampNeg v5)), S60))
            v4 v5 FU (0 : Int32) (0 : Int32) r27 (-1 : Int32) S28
      else
        some ((-3 : Int32), S17)

set_option maxHeartbeats 4000000 in
set_option maxRecDepth 100000 in
theorem w_X11_bit_L79 {p : Program} {l : Launch} {e : Env} {s : State} {m : MethodId} {args : Array Value} {below : List Frame} {meth : Method} {c : Code} {E : En} {α : Nat → Nat} {g : Nat × Nat} (C : Cx p s m args meth c RX11 cX11_bit 14 (some .int) E) {z : Int32 × St} {K156 : Int32 → St → Option (Int32 × St)} {v4 : Int32} {v5 : Int32} {v6 : Int32} {v7 : Int32} {v8 : Int32} {v9 : Int32}
    (hK156 : ∀ (y10 : Int32) (S : St) (H : Heap) (locs : List Loc) (ls : Array Slot), Rp E α g S H → va_S E.2.2.1 s.heap H locs → lv_has ls 14 [(0, .ref (α 54)), (4, .int v4), (5, .int v5), (6, .int v6), (7, .int v7), (10, .int y10)] → K156 y10 S = some z → W p l e rm_X11_bit s m args below meth c H locs 0 0 (MQ below (Qi E α g z) args s 0 0 E.2.2.1) (F0 m 156 ls [])) :
    ∀ (f : Nat) (v10 : Int32) (S : St) (H : Heap) (locs : List Loc) (ls : Array Slot), Rp E α g S H → va_S E.2.2.1 s.heap H locs → lv_has ls 14 [(0, .ref (α 54)), (4, .int v4), (5, .int v5), (6, .int v6), (7, .int v7), (8, .int v8), (9, .int v9), (10, .int v10)] → f_X11_bit_L79 K156 v4 v5 v6 v7 v8 v9 f v10 S = some z → W p l e rm_X11_bit s m args below meth c H locs 0 0 (MQ below (Qi E α g z) args s 0 0 E.2.2.1) (F0 m 79 ls []) := by
  obtain ⟨hx, hb, hml, hown, hts, hlk, hrt, hKs⟩ := id C
  intro f
  induction f with
  | zero =>
    intro v10 S H locs ls  hR hS hl h
    rw [f_X11_bit_L79] at h
    cases h
  | succ f ih =>
    intro v10 S H locs ls  hR hS hl h
    rw [f_X11_bit_L79] at h
    refine lv_aload_n hx hb dX11_bit_79 rfl (lv_at hl 0 rfl) ?_
    refine g_getr (t := 61) C hR (k := 54) (j := 8) (live_st (by decide)) rfl rfl (vw11) inl11 (by decide) q951 dX11_bit_80 ?_
    refine lv_sipush (v := 1024) hx hb dX11_bit_83 (by decide) ?_
    refine lv_iload hx hb dX11_bit_86 (lv_at hl 4 rfl) ?_
    refine lv_imul hx hb dX11_bit_88 ?_
    refine lv_iload hx hb dX11_bit_89 (lv_at hl 7 rfl) ?_
    refine lv_iadd hx hb dX11_bit_91 ?_
    obtain ⟨g30, h⟩ := gd_e h
    refine g_iald C hR (k := 61) (n := 17408) (live_st (by decide)) rfl g30 dX11_bit_92 ?_
    refine lv_ldc (v := 1000000) hx hb hown (hts _ q1137) dX11_bit_93 ?_
    obtain ⟨J150, eJ150, h⟩ := lt_e h
    have hJ150 : ∀ (S31 : St) (H : Heap) (locs : List Loc) (ls : Array Slot), Rp E α g S31 H → va_S E.2.2.1 s.heap H locs → lv_has ls 14 [(0, .ref (α 54)), (4, .int v4), (5, .int v5), (6, .int v6), (7, .int v7), (8, .int v8), (9, .int v9), (10, .int v10)] → J150  S31 = some z → W p l e rm_X11_bit s m args below meth c H locs 0 0 (MQ below (Qi E α g z) args s 0 0 E.2.2.1) (F0 m 150 ls []) := by
      intro  S31 H locs ls  hR hS hl h
      rw [eJ150] at h
      obtain ⟨x32, ex32, h⟩ := lt_e h
      refine lv_iinc (v := x32) (lv' := [(10, .int x32), (0, .ref (α 54)), (4, .int v4), (5, .int v5), (6, .int v6), (7, .int v7), (8, .int v8), (9, .int v9)]) hx hb dX11_bit_150 hl (k := 7) rfl (by rw [ex32]; rfl) (by decide) rfl (fun ls hl => ?_)
      refine lv_goto (tgt := 79) hx hb dX11_bit_153 (by decide) ?_
      exact ih _ _ _ _ _  hR hS (lv_sub hl [1, 2, 3, 4, 5, 6, 7, 0] rfl) h
    clear eJ150
    refine lv_icmp_eq (tgt := 150) hx hb dX11_bit_95 (by decide) (fun c33 => ?_) (fun c33 => ?_)
    · have h := ite_t c33 h
      exact hJ150  _ _ _ _  hR hS hl h
    · have h := ite_f c33 h
      refine lv_aload_n hx hb dX11_bit_98 rfl (lv_at hl 0 rfl) ?_
      refine g_getr (t := 61) C hR (k := 54) (j := 8) (live_st (by decide)) rfl rfl (vw11) inl11 (by decide) q951 dX11_bit_99 ?_
      refine lv_sipush (v := 1024) hx hb dX11_bit_102 (by decide) ?_
      refine lv_iload hx hb dX11_bit_105 (lv_at hl 4 rfl) ?_
      refine lv_imul hx hb dX11_bit_107 ?_
      refine lv_iload hx hb dX11_bit_108 (lv_at hl 7 rfl) ?_
      refine lv_iadd hx hb dX11_bit_110 ?_
      obtain ⟨g34, h⟩ := gd_e h
      refine g_iald C hR (k := 61) (n := 17408) (live_st (by decide)) rfl g34 dX11_bit_111 ?_
      refine lv_iload hx hb dX11_bit_112 (lv_at hl 6 rfl) ?_
      refine lv_iconst (v := -1) hx hb dX11_bit_114 (by decide) ?_
      obtain ⟨J144, eJ144, h⟩ := lt_e h
      have hJ144 : ∀ (t35 : Int32) (t36 : Int32) (S37 : St) (H : Heap) (locs : List Loc) (ls : Array Slot), Rp E α g S37 H → va_S E.2.2.1 s.heap H locs → lv_has ls 14 [(0, .ref (α 54)), (4, .int v4), (5, .int v5), (6, .int v6), (7, .int v7), (8, .int v8), (9, .int v9), (10, .int v10)] → J144 t35 t36 S37 = some z → W p l e rm_X11_bit s m args below meth c H locs 0 0 (MQ below (Qi E α g z) args s 0 0 E.2.2.1) (F0 m 144 ls [.int t36, .int t35]) := by
        intro t35 t36 S37 H locs ls  hR hS hl h
        rw [eJ144] at h
        refine lv_iadd hx hb dX11_bit_144 ?_
        refine lv_iload hx hb dX11_bit_145 (lv_at hl 5 rfl) ?_
        refine lv_icmp_eq (tgt := 156) hx hb dX11_bit_147 (by decide) (fun c38 => ?_) (fun c38 => ?_)
        · have h := ite_t c38 h
          exact hK156 _ _ _ _ _  hR hS (lv_sub hl [0, 1, 2, 3, 4, 7] rfl) h
        · have h := ite_f c38 h
          exact hJ150  _ _ _ _  hR hS hl h
      clear eJ144
      refine lv_icmp_ne (tgt := 122) hx hb dX11_bit_115 (by decide) (fun c39 => ?_) (fun c39 => ?_)
      · have h := ite_f c39 h
        refine lv_iload hx hb dX11_bit_122 (lv_at hl 6 rfl) ?_
        refine lv_aload_n hx hb dX11_bit_124 rfl (lv_at hl 0 rfl) ?_
        refine lv_iload hx hb dX11_bit_125 (lv_at hl 7 rfl) ?_
        refine lv_bipush (v := 64) hx hb dX11_bit_127 (by decide) ?_
        refine lv_idiv hx hb dX11_bit_129 (by decide) ?_
        refine lv_iload hx hb dX11_bit_130 (lv_at hl 7 rfl) ?_
        refine lv_bipush (v := 8) hx hb dX11_bit_132 (by decide) ?_
        refine lv_idiv hx hb dX11_bit_134 (by decide) ?_
        refine lv_bipush (v := 8) hx hb dX11_bit_135 (by decide) ?_
        refine lv_irem hx hb dX11_bit_137 (by decide) ?_
        obtain ⟨r40, S41, hr40, h⟩ := bd_e h
        refine g_ci hS (g_runV C hR hS (k := 54) (As := [.int (v10 / (64 : Int32)), .int ((v10 / (8 : Int32)) - (v10 / (8 : Int32)) / (8 : Int32) * (8 : Int32))]) (rest := [.int v9, .int (rd S 61 (Int32.toNatClampNeg (((1024 : Int32) * v7) + v10)))]) (c_X11_toneOf l  hr40) (live_st (by decide)) rfl (vw11) m_X11_toneOf q1108 ⟨rfl, rfl⟩ ⟨Nat.le_of_ble_eq_true rfl, Nat.le_of_ble_eq_true rfl⟩ rfl hl.1 rfl (Nat.le_of_ble_eq_true rfl) dX11_bit_138 ⟨Nat.zero_le _, Nat.zero_le _⟩) (fun H locs hR hS => ?_)
        obtain ⟨r42, S43, hr42, h⟩ := bd_e h
        refine g_ci hS (g_runS C hR hS (As := [.int v9, .int r40]) (rest := [.int (rd S 61 (Int32.toNatClampNeg (((1024 : Int32) * v7) + v10)))]) (c_X11_apart l  hr42) m_X11_apart q1146 ⟨rfl, rfl⟩ ⟨Nat.le_of_ble_eq_true rfl, Nat.le_of_ble_eq_true rfl⟩ rfl hl.1 rfl (Nat.le_of_ble_eq_true rfl) dX11_bit_141 ⟨Nat.zero_le _, Nat.zero_le _⟩) (fun H locs hR hS => ?_)
        exact hJ144 _ _ _ _ _ _  hR hS hl h
      · have h := ite_t c39 h
        refine lv_iconst (v := 0) hx hb dX11_bit_118 (by decide) ?_
        refine lv_goto (tgt := 144) hx hb dX11_bit_119 (by decide) ?_
        exact hJ144 _ _ _ _ _ _  hR hS hl h

set_option maxHeartbeats 4000000 in
set_option maxRecDepth 100000 in
theorem w_X11_bit_L69 {p : Program} {l : Launch} {e : Env} {s : State} {m : MethodId} {args : Array Value} {below : List Frame} {meth : Method} {c : Code} {E : En} {α : Nat → Nat} {g : Nat × Nat} (C : Cx p s m args meth c RX11 cX11_bit 14 (some .int) E) {z : Int32 × St} {K259 : Int32 → St → Option (Int32 × St)} {v4 : Int32} {v5 : Int32}
    (hK259 : ∀ (y6 : Int32) (S : St) (H : Heap) (locs : List Loc) (ls : Array Slot), Rp E α g S H → va_S E.2.2.1 s.heap H locs → lv_has ls 14 [(0, .ref (α 54)), (5, .int v5), (6, .int y6)] → K259 y6 S = some z → W p l e rm_X11_bit s m args below meth c H locs 0 0 (MQ below (Qi E α g z) args s 0 0 E.2.2.1) (F0 m 259 ls [])) :
    ∀ (f : Nat) (v6 : Int32) (v7 : Int32) (v8 : Int32) (v9 : Int32) (S : St) (H : Heap) (locs : List Loc) (ls : Array Slot), Rp E α g S H → va_S E.2.2.1 s.heap H locs → lv_has ls 14 [(0, .ref (α 54)), (4, .int v4), (5, .int v5), (6, .int v6), (7, .int v7), (8, .int v8), (9, .int v9)] → f_X11_bit_L69 K259 v4 v5 f v6 v7 v8 v9 S = some z → W p l e rm_X11_bit s m args below meth c H locs 0 0 (MQ below (Qi E α g z) args s 0 0 E.2.2.1) (F0 m 69 ls []) := by
  obtain ⟨hx, hb, hml, hown, hts, hlk, hrt, hKs⟩ := id C
  intro f
  induction f with
  | zero =>
    intro v6 v7 v8 v9 S H locs ls  hR hS hl h
    rw [f_X11_bit_L69] at h
    cases h
  | succ f ih =>
    intro v6 v7 v8 v9 S H locs ls  hR hS hl h
    rw [f_X11_bit_L69] at h
    refine lv_iload hx hb dX11_bit_69 (lv_at hl 4 rfl) ?_
    refine lv_iload hx hb dX11_bit_71 (lv_at hl 1 rfl) ?_
    refine lv_icmp_ge (tgt := 259) hx hb dX11_bit_73 (by decide) (fun c29 => ?_) (fun c29 => ?_)
    · have h := ite_t c29 h
      exact hK259 _ _ _ _ _  hR hS (lv_sub hl [0, 2, 3] rfl) h
    · have h := ite_f c29 h
      refine lv_iconst (v := 0) hx hb dX11_bit_76 (by decide) ?_
      refine lv_istore (lv' := [(10, .int (0 : Int32)), (0, .ref (α 54)), (4, .int v4), (5, .int v5), (6, .int v6), (7, .int v7), (8, .int v8), (9, .int v9)]) hx hb dX11_bit_77 hl (by decide) rfl (fun ls hl => ?_)
      refine w_X11_bit_L79 C ?_  _ _ _ _ _ _  hR hS (lv_sub hl [1, 2, 3, 4, 5, 6, 7, 0] rfl) h
      · intro x44 S45 H locs ls  hR hS hl h
        refine lv_iload hx hb dX11_bit_156 (lv_at hl 5 rfl) ?_
        refine lv_bipush (v := 64) hx hb dX11_bit_158 (by decide) ?_
        refine lv_idiv hx hb dX11_bit_160 (by decide) ?_
        obtain ⟨x46, ex46, h⟩ := lt_e h
        refine g_nmi ex46 ?_
        refine lv_istore (lv' := [(11, .int x46), (0, .ref (α 54)), (4, .int v4), (5, .int v5), (6, .int v6), (7, .int v7), (10, .int x44)]) hx hb dX11_bit_161 hl (by decide) rfl (fun ls hl => ?_)
        refine lv_iload hx hb dX11_bit_163 (lv_at hl 6 rfl) ?_
        refine lv_bipush (v := 8) hx hb dX11_bit_165 (by decide) ?_
        refine lv_idiv hx hb dX11_bit_167 (by decide) ?_
        refine lv_bipush (v := 8) hx hb dX11_bit_168 (by decide) ?_
        refine lv_irem hx hb dX11_bit_170 (by decide) ?_
        obtain ⟨x47, ex47, h⟩ := lt_e h
        refine g_nmi ex47 ?_
        refine lv_istore (lv' := [(12, .int x47), (11, .int x46), (0, .ref (α 54)), (4, .int v4), (5, .int v5), (6, .int v6), (7, .int v7), (10, .int x44)]) hx hb dX11_bit_171 hl (by decide) rfl (fun ls hl => ?_)
        refine lv_iload hx hb dX11_bit_173 (lv_at hl 7 rfl) ?_
        refine lv_bipush (v := 8) hx hb dX11_bit_175 (by decide) ?_
        refine lv_irem hx hb dX11_bit_177 (by decide) ?_
        refine lv_iconst (v := 1) hx hb dX11_bit_178 (by decide) ?_
        refine lv_iadd hx hb dX11_bit_179 ?_
        obtain ⟨x48, ex48, h⟩ := lt_e h
        refine g_nmi ex48 ?_
        refine lv_istore (lv' := [(13, .int x48), (12, .int x47), (11, .int x46), (0, .ref (α 54)), (4, .int v4), (5, .int v5), (6, .int v6), (7, .int v7), (10, .int x44)]) hx hb dX11_bit_180 hl (by decide) rfl (fun ls hl => ?_)
        refine lv_aload_n hx hb dX11_bit_182 rfl (lv_at hl 3 rfl) ?_
        refine g_getr (t := 61) C hR (k := 54) (j := 8) (live_st (by decide)) rfl rfl (vw11) inl11 (by decide) q951 dX11_bit_183 ?_
        refine lv_sipush (v := 1024) hx hb dX11_bit_186 (by decide) ?_
        refine lv_iload hx hb dX11_bit_189 (lv_at hl 7 rfl) ?_
        refine lv_imul hx hb dX11_bit_191 ?_
        refine lv_iload hx hb dX11_bit_192 (lv_at hl 8 rfl) ?_
        refine lv_iadd hx hb dX11_bit_194 ?_
        obtain ⟨g49, h⟩ := gd_e h
        refine g_iald C hR (k := 61) (n := 17408) (live_st (by decide)) rfl g49 dX11_bit_195 ?_
        refine lv_aload_n hx hb dX11_bit_196 rfl (lv_at hl 3 rfl) ?_
        refine lv_iload hx hb dX11_bit_197 (lv_at hl 2 rfl) ?_
        refine lv_iload hx hb dX11_bit_199 (lv_at hl 1 rfl) ?_
        refine lv_iload hx hb dX11_bit_201 (lv_at hl 0 rfl) ?_
        obtain ⟨r50, S51, hr50, h⟩ := bd_e h
        refine g_ci hS (g_runV C hR hS (k := 54) (As := [.int x46, .int x47, .int x48]) (rest := [.int (rd S45 61 (Int32.toNatClampNeg (((1024 : Int32) * v7) + x44)))]) (c_X11_cutsOf l  hr50) (live_st (by decide)) rfl (vw11) m_X11_cutsOf q1149 ⟨rfl, rfl⟩ ⟨Nat.le_of_ble_eq_true rfl, Nat.le_of_ble_eq_true rfl⟩ rfl hl.1 rfl (Nat.le_of_ble_eq_true rfl) dX11_bit_203 ⟨Nat.zero_le _, Nat.zero_le _⟩) (fun H locs hR hS => ?_)
        refine lv_isub hx hb dX11_bit_206 ?_
        obtain ⟨x52, ex52, h⟩ := lt_e h
        refine g_nmi ex52 ?_
        refine lv_istore (lv' := [(8, .int x52), (13, .int x48), (12, .int x47), (11, .int x46), (0, .ref (α 54)), (4, .int v4), (5, .int v5), (6, .int v6), (7, .int v7), (10, .int x44)]) hx hb dX11_bit_207 hl (by decide) rfl (fun ls hl => ?_)
        refine lv_aload_n hx hb dX11_bit_209 rfl (lv_at hl 4 rfl) ?_
        refine lv_iload hx hb dX11_bit_210 (lv_at hl 3 rfl) ?_
        refine lv_iload hx hb dX11_bit_212 (lv_at hl 2 rfl) ?_
        refine lv_iload hx hb dX11_bit_214 (lv_at hl 1 rfl) ?_
        refine lv_iadd hx hb dX11_bit_216 ?_
        refine lv_iconst (v := 1) hx hb dX11_bit_217 (by decide) ?_
        refine lv_isub hx hb dX11_bit_218 ?_
        obtain ⟨r53, S54, hr53, h⟩ := bd_e h
        refine g_ci hS (g_runV C hR hS (k := 54) (As := [.int x46, .int ((x47 + x48) - (1 : Int32))]) (rest := []) (c_X11_toneOf l  hr53) (live_st (by decide)) rfl (vw11) m_X11_toneOf q1108 ⟨rfl, rfl⟩ ⟨Nat.le_of_ble_eq_true rfl, Nat.le_of_ble_eq_true rfl⟩ rfl hl.1 rfl (Nat.le_of_ble_eq_true rfl) dX11_bit_219 ⟨Nat.zero_le _, Nat.zero_le _⟩) (fun H locs hR hS => ?_)
        refine lv_istore (lv' := [(9, .int r53), (8, .int x52), (13, .int x48), (12, .int x47), (11, .int x46), (0, .ref (α 54)), (4, .int v4), (5, .int v5), (6, .int v6), (7, .int v7), (10, .int x44)]) hx hb dX11_bit_222 hl (by decide) rfl (fun ls hl => ?_)
        refine lv_aload_n hx hb dX11_bit_224 rfl (lv_at hl 5 rfl) ?_
        refine g_getr (t := 64) C hR (k := 54) (j := 11) (live_st (by decide)) rfl rfl (vw11) inl11 (by decide) q954 dX11_bit_225 ?_
        refine lv_iload hx hb dX11_bit_228 (lv_at hl 8 rfl) ?_
        refine lv_sipush (v := 256) hx hb dX11_bit_230 (by decide) ?_
        refine lv_iload hx hb dX11_bit_233 (lv_at hl 4 rfl) ?_
        refine lv_imul hx hb dX11_bit_235 ?_
        refine lv_bipush (v := 16) hx hb dX11_bit_236 (by decide) ?_
        refine lv_iload hx hb dX11_bit_238 (lv_at hl 3 rfl) ?_
        refine lv_imul hx hb dX11_bit_240 ?_
        refine lv_iadd hx hb dX11_bit_241 ?_
        refine lv_iload hx hb dX11_bit_242 (lv_at hl 2 rfl) ?_
        refine lv_iadd hx hb dX11_bit_244 ?_
        obtain ⟨g56, h⟩ := gd_e h
        obtain ⟨S55, eS55, h⟩ := lt_e h
        refine g_iast C hR hS (k := 64) (n := 16) (live_st (by decide)) rfl g56 eS55 dX11_bit_245 (fun H locs hR hS => ?_)
        obtain ⟨x57, ex57, h⟩ := lt_e h
        refine lv_iinc (v := x57) (lv' := [(6, .int x57), (9, .int r53), (8, .int x52), (13, .int x48), (12, .int x47), (11, .int x46), (0, .ref (α 54)), (4, .int v4), (5, .int v5), (7, .int v7), (10, .int x44)]) hx hb dX11_bit_246 hl (k := 8) rfl (by rw [ex57]; rfl) (by decide) rfl (fun ls hl => ?_)
        refine lv_iload hx hb dX11_bit_249 (lv_at hl 9 rfl) ?_
        refine lv_iload hx hb dX11_bit_251 (lv_at hl 3 rfl) ?_
        refine lv_iadd hx hb dX11_bit_253 ?_
        obtain ⟨x58, ex58, h⟩ := lt_e h
        refine g_nmi ex58 ?_
        refine lv_istore (lv' := [(7, .int x58), (6, .int x57), (9, .int r53), (8, .int x52), (13, .int x48), (12, .int x47), (11, .int x46), (0, .ref (α 54)), (4, .int v4), (5, .int v5), (10, .int x44)]) hx hb dX11_bit_254 hl (by decide) rfl (fun ls hl => ?_)
        refine lv_goto (tgt := 69) hx hb dX11_bit_256 (by decide) ?_
        exact ih _ _ _ _ _ _ _ _  hR hS (lv_sub hl [7, 8, 9, 1, 0, 3, 2] rfl) h

set_option maxHeartbeats 4000000 in
set_option maxRecDepth 100000 in
theorem c_X11_bit (l : Launch) {E : En} {α : Nat → Nat} {g : Nat × Nat} {v1 : Int32} {v2 : Int64} {v4 : Int32} {v5 : Int32} {S : St}  {z : Int32 × St} (h : f_X11_bit v1 v2 v4 v5 S = some z) : Met l yX11_bit (wsY yX11_bit cX11_bit 14 (some .int)) rm_X11_bit (va_Pc [.ref (α 54), .int v1, .long v2, .int v4, .int v5] (Wd E α g S)) (Qi E α g z) 0 0 E.2.2.1 := by
  refine g_met [.ref (α 54), .int v1, .long v2, .int v4, .int v5] (by decide) rfl (Nat.le_of_ble_eq_true rfl) ?_
  intro p e s m below meth c ls C hR hl
  generalize hae : ([.ref (α 54), .int v1, .long v2, .int v4, .int v5] : List Value).toArray = args at C ⊢
  have hl : lv_has ls 14 [(0, .ref (α 54)), (1, .int v1), (2, .long v2), (4, .int v4), (5, .int v5)] := hl
  obtain ⟨hx, hb, hml, hown, hts, hlk, hrt, hKs⟩ := id C
  have hS : va_S E.2.2.1 s.heap s.heap [] := va_S.rf
  unfold f_X11_bit at h
  refine lv_iload_n hx hb dX11_bit_0 rfl (lv_at hl 1 rfl) ?_
  refine lv_iconst (v := 0) hx hb dX11_bit_1 (by decide) ?_
  refine lv_iconst (v := 3) hx hb dX11_bit_2 (by decide) ?_
  obtain ⟨r13, S14, hr13, h⟩ := bd_e h
  refine g_ci hS (g_runS C hR hS (As := [.int v1, .int (0 : Int32), .int (3 : Int32)]) (rest := []) (c_X11_in l  hr13) m_X11_in q1093 ⟨rfl, rfl⟩ ⟨Nat.le_of_ble_eq_true rfl, Nat.le_of_ble_eq_true rfl⟩ rfl hl.1 rfl (Nat.le_of_ble_eq_true rfl) dX11_bit_3 ⟨Nat.zero_le _, Nat.zero_le _⟩) (fun H locs hR hS => ?_)
  refine lv_if_eq (tgt := 26) hx hb dX11_bit_6 (by decide) (fun c15 => ?_) (fun c15 => ?_)
  · have h := ite_t c15 h
    refine lv_bipush (v := -3) hx hb dX11_bit_26 (by decide) ?_
    exact g_iret C hR hS h dX11_bit_28
  · have h := ite_f c15 h
    refine lv_iload hx hb dX11_bit_9 (lv_at hl 3 rfl) ?_
    refine lv_iconst (v := 1) hx hb dX11_bit_11 (by decide) ?_
    refine lv_bipush (v := 16) hx hb dX11_bit_12 (by decide) ?_
    obtain ⟨r16, S17, hr16, h⟩ := bd_e h
    refine g_ci hS (g_runS C hR hS (As := [.int v4, .int (1 : Int32), .int (16 : Int32)]) (rest := []) (c_X11_in l  hr16) m_X11_in q1093 ⟨rfl, rfl⟩ ⟨Nat.le_of_ble_eq_true rfl, Nat.le_of_ble_eq_true rfl⟩ rfl hl.1 rfl (Nat.le_of_ble_eq_true rfl) dX11_bit_14 ⟨Nat.zero_le _, Nat.zero_le _⟩) (fun H locs hR hS => ?_)
    refine lv_if_eq (tgt := 26) hx hb dX11_bit_17 (by decide) (fun c18 => ?_) (fun c18 => ?_)
    · have h := ite_t c18 h
      refine lv_bipush (v := -3) hx hb dX11_bit_26 (by decide) ?_
      exact g_iret C hR hS h dX11_bit_28
    · have h := ite_f c18 h
      refine lv_iload hx hb dX11_bit_20 (lv_at hl 4 rfl) ?_
      refine lv_iconst (v := -1) hx hb dX11_bit_22 (by decide) ?_
      refine lv_icmp_ge (tgt := 29) hx hb dX11_bit_23 (by decide) (fun c19 => ?_) (fun c19 => ?_)
      · have h := ite_t c19 h
        refine lv_aload_n hx hb dX11_bit_29 rfl (lv_at hl 0 rfl) ?_
        refine lv_lload_n hx hb dX11_bit_30 rfl (lv_at hl 2 rfl) ?_
        refine lv_iload hx hb dX11_bit_31 (lv_at hl 3 rfl) ?_
        obtain ⟨r20, S21, hr20, h⟩ := bd_e h
        refine g_cv hS (g_runV C hR hS (k := 54) (As := [.long v2, .int v4]) (rest := []) (c_X11_layRow l  hr20) (live_st (by decide)) rfl (vw11) m_X11_layRow q1128 ⟨rfl, rfl⟩ ⟨Nat.le_of_ble_eq_true rfl, Nat.le_of_ble_eq_true rfl⟩ rfl hl.1 rfl (Nat.le_of_ble_eq_true rfl) dX11_bit_33 ⟨Nat.zero_le _, Nat.zero_le _⟩) (fun H locs hR hS => ?_)
        refine lv_aload_n hx hb dX11_bit_36 rfl (lv_at hl 0 rfl) ?_
        refine lv_iload_n hx hb dX11_bit_37 rfl (lv_at hl 1 rfl) ?_
        refine lv_iload hx hb dX11_bit_38 (lv_at hl 3 rfl) ?_
        obtain ⟨r22, S23, hr22, h⟩ := bd_e h
        refine g_cv hS (g_runV C hR hS (k := 54) (As := [.int v1, .int v4]) (rest := []) (c_X11_layOut l  hr22) (live_st (by decide)) rfl (vw11) m_X11_layOut q1133 ⟨rfl, rfl⟩ ⟨Nat.le_of_ble_eq_true rfl, Nat.le_of_ble_eq_true rfl⟩ rfl hl.1 rfl (Nat.le_of_ble_eq_true rfl) dX11_bit_40 ⟨Nat.zero_le _, Nat.zero_le _⟩) (fun H locs hR hS => ?_)
        refine lv_aload_n hx hb dX11_bit_43 rfl (lv_at hl 0 rfl) ?_
        obtain ⟨r24, S25, hr24, h⟩ := bd_e h
        refine g_ci hS (g_runV C hR hS (k := 54) (As := []) (rest := []) (c_X11_leastOf l  hr24) (live_st (by decide)) rfl (vw11) m_X11_leastOf q1154 ⟨rfl, rfl⟩ ⟨Nat.le_of_ble_eq_true rfl, Nat.le_of_ble_eq_true rfl⟩ rfl hl.1 rfl (Nat.le_of_ble_eq_true rfl) dX11_bit_44 ⟨Nat.zero_le _, Nat.zero_le _⟩) (fun H locs hR hS => ?_)
        refine lv_ldc (v := 1000000) hx hb hown (hts _ q1137) dX11_bit_47 ?_
        refine lv_icmp_ne (tgt := 54) hx hb dX11_bit_49 (by decide) (fun c26 => ?_) (fun c26 => ?_)
        · have h := ite_f c26 h
          refine lv_iconst (v := 0) hx hb dX11_bit_54 (by decide) ?_
          refine lv_istore (lv' := [(6, .int (0 : Int32)), (0, .ref (α 54)), (1, .int v1), (2, .long v2), (4, .int v4), (5, .int v5)]) hx hb dX11_bit_55 hl (by decide) rfl (fun ls hl => ?_)
          refine lv_iconst (v := 0) hx hb dX11_bit_57 (by decide) ?_
          refine lv_istore (lv' := [(7, .int (0 : Int32)), (6, .int (0 : Int32)), (0, .ref (α 54)), (1, .int v1), (2, .long v2), (4, .int v4), (5, .int v5)]) hx hb dX11_bit_58 hl (by decide) rfl (fun ls hl => ?_)
          refine lv_aload_n hx hb dX11_bit_60 rfl (lv_at hl 2 rfl) ?_
          obtain ⟨r27, S28, hr27, h⟩ := bd_e h
          refine g_ci hS (g_runV C hR hS (k := 54) (As := []) (rest := []) (c_X11_leastOf l  hr27) (live_st (by decide)) rfl (vw11) m_X11_leastOf q1154 ⟨rfl, rfl⟩ ⟨Nat.le_of_ble_eq_true rfl, Nat.le_of_ble_eq_true rfl⟩ rfl hl.1 rfl (Nat.le_of_ble_eq_true rfl) dX11_bit_61 ⟨Nat.zero_le _, Nat.zero_le _⟩) (fun H locs hR hS => ?_)
          refine lv_istore (lv' := [(8, .int r27), (7, .int (0 : Int32)), (6, .int (0 : Int32)), (0, .ref (α 54)), (1, .int v1), (2, .long v2), (4, .int v4), (5, .int v5)]) hx hb dX11_bit_64 hl (by decide) rfl (fun ls hl => ?_)
          refine lv_iconst (v := -1) hx hb dX11_bit_66 (by decide) ?_
          refine lv_istore (lv' := [(9, .int (-1 : Int32)), (8, .int r27), (7, .int (0 : Int32)), (6, .int (0 : Int32)), (0, .ref (α 54)), (1, .int v1), (2, .long v2), (4, .int v4), (5, .int v5)]) hx hb dX11_bit_67 hl (by decide) rfl (fun ls hl => ?_)
          refine w_X11_bit_L69 C ?_  _ _ _ _ _ _ _ _ _  hR hS (lv_sub hl [4, 7, 8, 3, 2, 1, 0] rfl) h
          · intro x59 S60 H locs ls  hR hS hl h
            refine lv_iload hx hb dX11_bit_259 (lv_at hl 1 rfl) ?_
            refine lv_iconst (v := -1) hx hb dX11_bit_261 (by decide) ?_
            refine lv_icmp_ne (tgt := 270) hx hb dX11_bit_262 (by decide) (fun c61 => ?_) (fun c61 => ?_)
            · have h := ite_f c61 h
              refine lv_iload hx hb dX11_bit_270 (lv_at hl 1 rfl) ?_
              refine lv_iload hx hb dX11_bit_272 (lv_at hl 2 rfl) ?_
              refine lv_icmp_ge (tgt := 287) hx hb dX11_bit_274 (by decide) (fun c62 => ?_) (fun c62 => ?_)
              · have h := ite_t c62 h
                refine lv_iconst (v := -1) hx hb dX11_bit_287 (by decide) ?_
                exact g_iret C hR hS h dX11_bit_288
              · have h := ite_f c62 h
                refine lv_aload_n hx hb dX11_bit_277 rfl (lv_at hl 0 rfl) ?_
                refine g_getr (t := 64) C hR (k := 54) (j := 11) (live_st (by decide)) rfl rfl (vw11) inl11 (by decide) q954 dX11_bit_278 ?_
                refine lv_iload hx hb dX11_bit_281 (lv_at hl 1 rfl) ?_
                obtain ⟨g63, h⟩ := gd_e h
                refine g_iald C hR (k := 64) (n := 16) (live_st (by decide)) rfl g63 dX11_bit_283 ?_
                refine lv_goto (tgt := 288) hx hb dX11_bit_284 (by decide) ?_
                exact g_iret C hR hS h dX11_bit_288
            · have h := ite_t c61 h
              refine lv_iload hx hb dX11_bit_265 (lv_at hl 2 rfl) ?_
              refine lv_goto (tgt := 288) hx hb dX11_bit_267 (by decide) ?_
              exact g_iret C hR hS h dX11_bit_288
        · have h := ite_t c26 h
          refine lv_iconst (v := -1) hx hb dX11_bit_52 (by decide) ?_
          exact g_iret C hR hS h dX11_bit_53
      · have h := ite_f c19 h
        refine lv_bipush (v := -3) hx hb dX11_bit_26 (by decide) ?_
        exact g_iret C hR hS h dX11_bit_28

/-! OneVoiceModel.write(JI)I -/
abbrev rm_X11_write : Room := { frames := 1, cells := 0, slots := 0, locals := 22 }
theorem m_X11_write : MV yX11_write RX11 cX11_write 5 (some .int) 2 := ⟨q1163, q1164, q77, q1165, by decide +kernel⟩
def f_X11_write_L31 (K67 : St → Option (Int32 × St)) (v1 : Int64) (v3 : Int32) : Nat → Int32 → St → Option (Int32 × St)
  | 0, _, _ => none
  | f + 1, v4, S =>
    if v3 ≤ v4 then
      K67  S
    else
      gd_ (inb ((rd S 54 12) + v4) 200) <|
      lt_ (wr S 65 (Int32.toNatClampNeg ((rd S 54 12) + v4)) (Int64.toInt32 ((lshrv v1 ((8 : Int32) * v4)) &&& (255 : Int64)))) fun S9 =>
      lt_ (v4 + (1 : Int32)) fun x11 =>
      f_X11_write_L31 K67 v1 v3 f x11 S9

def f_X11_write (v1 : Int64) (v3 : Int32) (S : St) : Option (Int32 × St) :=
  bd_ (f_X11_in v3 (1 : Int32) (8 : Int32) S) fun r4 S5 =>
  if r4 = 0 then
    some ((-3 : Int32), S5)
  else
    if ((rd S5 54 12) + v3) ≤ (200 : Int32) then
      f_X11_write_L31
        (fun  (S12 : St) =>
          lt_ (wr S12 54 12 ((rd S12 54 12) + v3)) fun S13 =>
          some ((rd S13 54 12), S13))
        v1 v3 FU (0 : Int32) S5
    else
      some ((-5 : Int32), S5)

set_option maxHeartbeats 4000000 in
set_option maxRecDepth 100000 in
theorem w_X11_write_L31 {p : Program} {l : Launch} {e : Env} {s : State} {m : MethodId} {args : Array Value} {below : List Frame} {meth : Method} {c : Code} {E : En} {α : Nat → Nat} {g : Nat × Nat} (C : Cx p s m args meth c RX11 cX11_write 5 (some .int) E) {z : Int32 × St} {K67 : St → Option (Int32 × St)} {v1 : Int64} {v3 : Int32}
    (hK67 : ∀ (S : St) (H : Heap) (locs : List Loc) (ls : Array Slot), Rp E α g S H → va_S E.2.2.1 s.heap H locs → lv_has ls 5 [(0, .ref (α 54)), (3, .int v3)] → K67  S = some z → W p l e rm_X11_write s m args below meth c H locs 0 0 (MQ below (Qi E α g z) args s 0 0 E.2.2.1) (F0 m 67 ls [])) :
    ∀ (f : Nat) (v4 : Int32) (S : St) (H : Heap) (locs : List Loc) (ls : Array Slot), Rp E α g S H → va_S E.2.2.1 s.heap H locs → lv_has ls 5 [(0, .ref (α 54)), (1, .long v1), (3, .int v3), (4, .int v4)] → f_X11_write_L31 K67 v1 v3 f v4 S = some z → W p l e rm_X11_write s m args below meth c H locs 0 0 (MQ below (Qi E α g z) args s 0 0 E.2.2.1) (F0 m 31 ls []) := by
  obtain ⟨hx, hb, hml, hown, hts, hlk, hrt, hKs⟩ := id C
  intro f
  induction f with
  | zero =>
    intro v4 S H locs ls  hR hS hl h
    rw [f_X11_write_L31] at h
    cases h
  | succ f ih =>
    intro v4 S H locs ls  hR hS hl h
    rw [f_X11_write_L31] at h
    refine lv_iload hx hb dX11_write_31 (lv_at hl 3 rfl) ?_
    refine lv_iload_n hx hb dX11_write_33 rfl (lv_at hl 2 rfl) ?_
    refine lv_icmp_ge (tgt := 67) hx hb dX11_write_34 (by decide) (fun c8 => ?_) (fun c8 => ?_)
    · have h := ite_t c8 h
      exact hK67  _ _ _ _  hR hS (lv_sub hl [0, 2] rfl) h
    · have h := ite_f c8 h
      refine lv_aload_n hx hb dX11_write_37 rfl (lv_at hl 0 rfl) ?_
      refine g_getr (t := 65) C hR (k := 54) (j := 13) (live_st (by decide)) rfl rfl (vw11) inl11 (by decide) q956 dX11_write_38 ?_
      refine lv_aload_n hx hb dX11_write_41 rfl (lv_at hl 0 rfl) ?_
      refine g_geti C hR (k := 54) (j := 12) (live_st (by decide)) rfl rfl (vw11) inl11 (by decide) q955 dX11_write_42 ?_
      refine lv_iload hx hb dX11_write_45 (lv_at hl 3 rfl) ?_
      refine lv_iadd hx hb dX11_write_47 ?_
      refine lv_lload_n hx hb dX11_write_48 rfl (lv_at hl 1 rfl) ?_
      refine lv_bipush (v := 8) hx hb dX11_write_49 (by decide) ?_
      refine lv_iload hx hb dX11_write_51 (lv_at hl 3 rfl) ?_
      refine lv_imul hx hb dX11_write_53 ?_
      refine lv_lshr (v := lshrv v1 ((8 : Int32) * v4)) hx hb dX11_write_54 rfl ?_
      refine lv_ldc2 (v := 255) hx hb hown (hts _ q1166) dX11_write_55 ?_
      refine lv_land hx hb dX11_write_58 ?_
      refine lv_l2i (v := Int64.toInt32 ((lshrv v1 ((8 : Int32) * v4)) &&& (255 : Int64))) hx hb dX11_write_59 rfl ?_
      obtain ⟨g10, h⟩ := gd_e h
      obtain ⟨S9, eS9, h⟩ := lt_e h
      refine g_iast C hR hS (k := 65) (n := 200) (live_st (by decide)) rfl g10 eS9 dX11_write_60 (fun H locs hR hS => ?_)
      obtain ⟨x11, ex11, h⟩ := lt_e h
      refine lv_iinc (v := x11) (lv' := [(4, .int x11), (0, .ref (α 54)), (1, .long v1), (3, .int v3)]) hx hb dX11_write_61 hl (k := 3) rfl (by rw [ex11]; rfl) (by decide) rfl (fun ls hl => ?_)
      refine lv_goto (tgt := 31) hx hb dX11_write_64 (by decide) ?_
      exact ih _ _ _ _ _  hR hS (lv_sub hl [1, 2, 3, 0] rfl) h

set_option maxHeartbeats 4000000 in
set_option maxRecDepth 100000 in
theorem c_X11_write (l : Launch) {E : En} {α : Nat → Nat} {g : Nat × Nat} {v1 : Int64} {v3 : Int32} {S : St}  {z : Int32 × St} (h : f_X11_write v1 v3 S = some z) : Met l yX11_write (wsY yX11_write cX11_write 5 (some .int)) rm_X11_write (va_Pc [.ref (α 54), .long v1, .int v3] (Wd E α g S)) (Qi E α g z) 0 0 E.2.2.1 := by
  refine g_met [.ref (α 54), .long v1, .int v3] (by decide) rfl (Nat.le_of_ble_eq_true rfl) ?_
  intro p e s m below meth c ls C hR hl
  generalize hae : ([.ref (α 54), .long v1, .int v3] : List Value).toArray = args at C ⊢
  have hl : lv_has ls 5 [(0, .ref (α 54)), (1, .long v1), (3, .int v3)] := hl
  obtain ⟨hx, hb, hml, hown, hts, hlk, hrt, hKs⟩ := id C
  have hS : va_S E.2.2.1 s.heap s.heap [] := va_S.rf
  unfold f_X11_write at h
  refine lv_iload_n hx hb dX11_write_0 rfl (lv_at hl 2 rfl) ?_
  refine lv_iconst (v := 1) hx hb dX11_write_1 (by decide) ?_
  refine lv_bipush (v := 8) hx hb dX11_write_2 (by decide) ?_
  obtain ⟨r4, S5, hr4, h⟩ := bd_e h
  refine g_ci hS (g_runS C hR hS (As := [.int v3, .int (1 : Int32), .int (8 : Int32)]) (rest := []) (c_X11_in l  hr4) m_X11_in q1093 ⟨rfl, rfl⟩ ⟨Nat.le_of_ble_eq_true rfl, Nat.le_of_ble_eq_true rfl⟩ rfl hl.1 rfl (Nat.le_of_ble_eq_true rfl) dX11_write_4 ⟨Nat.zero_le _, Nat.zero_le _⟩) (fun H locs hR hS => ?_)
  refine lv_if_ne (tgt := 13) hx hb dX11_write_7 (by decide) (fun c6 => ?_) (fun c6 => ?_)
  · have h := ite_f c6 h
    refine lv_aload_n hx hb dX11_write_13 rfl (lv_at hl 0 rfl) ?_
    refine g_geti C hR (k := 54) (j := 12) (live_st (by decide)) rfl rfl (vw11) inl11 (by decide) q955 dX11_write_14 ?_
    refine lv_iload_n hx hb dX11_write_17 rfl (lv_at hl 2 rfl) ?_
    refine lv_iadd hx hb dX11_write_18 ?_
    refine lv_sipush (v := 200) hx hb dX11_write_19 (by decide) ?_
    refine lv_icmp_le (tgt := 28) hx hb dX11_write_22 (by decide) (fun c7 => ?_) (fun c7 => ?_)
    · have h := ite_t c7 h
      refine lv_iconst (v := 0) hx hb dX11_write_28 (by decide) ?_
      refine lv_istore (lv' := [(4, .int (0 : Int32)), (0, .ref (α 54)), (1, .long v1), (3, .int v3)]) hx hb dX11_write_29 hl (by decide) rfl (fun ls hl => ?_)
      refine w_X11_write_L31 C ?_  _ _ _ _ _ _  hR hS (lv_sub hl [1, 2, 3, 0] rfl) h
      · intro  S12 H locs ls  hR hS hl h
        refine lv_aload_n hx hb dX11_write_67 rfl (lv_at hl 0 rfl) ?_
        refine lv_dup hx hb dX11_write_68 rfl ?_
        refine g_geti C hR (k := 54) (j := 12) (live_st (by decide)) rfl rfl (vw11) inl11 (by decide) q955 dX11_write_69 ?_
        refine lv_iload_n hx hb dX11_write_72 rfl (lv_at hl 1 rfl) ?_
        refine lv_iadd hx hb dX11_write_73 ?_
        obtain ⟨S13, eS13, h⟩ := lt_e h
        refine g_puti C hR hS (k := 54) (j := 12) (live_st (by decide)) rfl rfl (vw11) inl11 (by decide) (ty0 := tyX11) tyX11_ok nmX11 q955 rfl rfl rfl eS13 dX11_write_74 (fun H locs hR hS => ?_)
        refine lv_aload_n hx hb dX11_write_77 rfl (lv_at hl 0 rfl) ?_
        refine g_geti C hR (k := 54) (j := 12) (live_st (by decide)) rfl rfl (vw11) inl11 (by decide) q955 dX11_write_78 ?_
        exact g_iret C hR hS h dX11_write_81
    · have h := ite_f c7 h
      refine lv_bipush (v := -5) hx hb dX11_write_25 (by decide) ?_
      exact g_iret C hR hS h dX11_write_27
  · have h := ite_t c6 h
    refine lv_bipush (v := -3) hx hb dX11_write_10 (by decide) ?_
    exact g_iret C hR hS h dX11_write_12

/-! OneVoiceModel.erase()I -/
abbrev rm_X11_erase : Room := { frames := 0, cells := 0, slots := 0, locals := 0 }
theorem m_X11_erase : MV yX11_erase RX11 cX11_erase 2 (some .int) 0 := ⟨q1168, q1169, q77, q1170, by decide +kernel⟩
def f_X11_erase  (S : St) : Option (Int32 × St) :=
  lt_ (rd S 54 12) fun x3 =>
  lt_ (wr S 54 12 (0 : Int32)) fun S4 =>
  some (x3, S4)

set_option maxHeartbeats 4000000 in
set_option maxRecDepth 100000 in
theorem c_X11_erase (l : Launch) {E : En} {α : Nat → Nat} {g : Nat × Nat}  {S : St}  {z : Int32 × St} (h : f_X11_erase  S = some z) : Met l yX11_erase (wsY yX11_erase cX11_erase 2 (some .int)) rm_X11_erase (va_Pc [.ref (α 54)] (Wd E α g S)) (Qi E α g z) 0 0 E.2.2.1 := by
  refine g_met [.ref (α 54)] (by decide) rfl (Nat.le_of_ble_eq_true rfl) ?_
  intro p e s m below meth c ls C hR hl
  generalize hae : ([.ref (α 54)] : List Value).toArray = args at C ⊢
  have hl : lv_has ls 2 [(0, .ref (α 54))] := hl
  obtain ⟨hx, hb, hml, hown, hts, hlk, hrt, hKs⟩ := id C
  have hS : va_S E.2.2.1 s.heap s.heap [] := va_S.rf
  unfold f_X11_erase at h
  refine lv_aload_n hx hb dX11_erase_0 rfl (lv_at hl 0 rfl) ?_
  refine g_geti C hR (k := 54) (j := 12) (live_st (by decide)) rfl rfl (vw11) inl11 (by decide) q955 dX11_erase_1 ?_
  obtain ⟨x3, ex3, h⟩ := lt_e h
  refine g_nmi ex3 ?_
  refine lv_istore_n (lv' := [(1, .int x3), (0, .ref (α 54))]) hx hb dX11_erase_4 rfl hl (by decide) rfl (fun ls hl => ?_)
  refine lv_aload_n hx hb dX11_erase_5 rfl (lv_at hl 1 rfl) ?_
  refine lv_iconst (v := 0) hx hb dX11_erase_6 (by decide) ?_
  obtain ⟨S4, eS4, h⟩ := lt_e h
  refine g_puti C hR hS (k := 54) (j := 12) (live_st (by decide)) rfl rfl (vw11) inl11 (by decide) (ty0 := tyX11) tyX11_ok nmX11 q955 rfl rfl rfl eS4 dX11_erase_7 (fun H locs hR hS => ?_)
  refine lv_iload_n hx hb dX11_erase_10 rfl (lv_at hl 0 rfl) ?_
  exact g_iret C hR hS h dX11_erase_11

/-! OneVoiceModel.nextToken()V -/
abbrev rm_X11_nextToken : Room := { frames := 1, cells := 0, slots := 0, locals := 22 }
theorem m_X11_nextToken : MV yX11_nextToken RX11 cX11_nextToken 1 none 0 := ⟨q1185, q44, q77, q1186, by decide +kernel⟩
def f_X11_nextToken_L0 (K38 : St → Option (Unit × St))  : Nat → St → Option (Unit × St)
  | 0, _ => none
  | f + 1, S =>
    if (rd S 54 12) ≤ (rd S 54 14) then
      K38  S
    else
      gd_ (inb (rd S 54 14) 200) <|
      if (rd S 65 (Int32.toNatClampNeg (rd S 54 14))) = (32 : Int32) then
        lt_ (wr S 54 14 ((rd S 54 14) + (1 : Int32))) fun S28 =>
        f_X11_nextToken_L0 K38 f  S28
      else
        K38  S

def f_X11_nextToken_L241 (K333 : St → Option (Unit × St))  : Nat → St → Option (Unit × St)
  | 0, _ => none
  | f + 1, S =>
    if (rd S 54 12) ≤ (rd S 54 14) then
      K333  S
    else
      gd_ (inb (rd S 54 14) 200) <|
      bd_ (f_X11_in (rd S 65 (Int32.toNatClampNeg (rd S 54 14))) (48 : Int32) (57 : Int32) S) fun r52 S53 =>
      if r52 = 0 then
        K333  S53
      else
        lt_ (fun (t55 : Int32) (S56 : St) =>
            lt_ (wr S56 54 18 t55) fun S57 =>
            lt_ (wr S57 54 17 ((rd S57 54 17) + (1 : Int32))) fun S58 =>
            lt_ (wr S58 54 14 ((rd S58 54 14) + (1 : Int32))) fun S59 =>
            f_X11_nextToken_L241 K333 f  S59) fun J307 =>
        if (2 : Int32) ≤ (rd S53 54 17) then
          J307 (rd S53 54 18) S53
        else
          gd_ (inb (rd S53 54 14) 200) <|
          J307 ((((10 : Int32) * (rd S53 54 18)) + (rd S53 65 (Int32.toNatClampNeg (rd S53 54 14)))) - (48 : Int32)) S53

def f_X11_nextToken_L101 (K191 : St → Option (Unit × St))  : Nat → St → Option (Unit × St)
  | 0, _ => none
  | f + 1, S =>
    if (rd S 54 12) ≤ (rd S 54 14) then
      K191  S
    else
      gd_ (inb (rd S 54 14) 200) <|
      bd_ (f_X11_in (rd S 65 (Int32.toNatClampNeg (rd S 54 14))) (97 : Int32) (122 : Int32) S) fun r70 S71 =>
      if r70 = 0 then
        K191  S71
      else
        lt_ (fun (t73 : Int64) (S74 : St) =>
            lt_ (wl S74 54 16 t73) fun S75 =>
            lt_ (wr S75 54 14 ((rd S75 54 14) + (1 : Int32))) fun S76 =>
            f_X11_nextToken_L101 K191 f  S76) fun J175 =>
        if (9 : Int32) ≤ ((rd S71 54 14) - (rd S71 54 15)) then
          J175 (-4 : Int64) S71
        else
          gd_ (inb (rd S71 54 14) 200) <|
          J175 ((((27 : Int64) * (rl S71 54 16)) + (Int32.toInt64 (rd S71 65 (Int32.toNatClampNeg (rd S71 54 14))))) - (96 : Int64)) S71

def f_X11_nextToken  (S : St) : Option (Unit × St) :=
  f_X11_nextToken_L0
    (fun  (S29 : St) =>
      lt_ (wr S29 54 15 (rd S29 54 14)) fun S30 =>
      lt_ (wr S30 54 17 (0 : Int32)) fun S31 =>
      lt_ (wr S31 54 18 (0 : Int32)) fun S32 =>
      if (rd S32 54 14) = (rd S32 54 12) then
        lt_ (wl S32 54 16 (-2 : Int64)) fun S84 =>
        some ((), S84)
      else
        gd_ (inb (rd S32 54 14) 200) <|
        bd_ (f_X11_in (rd S32 65 (Int32.toNatClampNeg (rd S32 54 14))) (97 : Int32) (122 : Int32) S32) fun r35 S36 =>
        if r35 = 0 then
          gd_ (inb (rd S36 54 14) 200) <|
          bd_ (f_X11_in (rd S36 65 (Int32.toNatClampNeg (rd S36 54 14))) (48 : Int32) (57 : Int32) S36) fun r39 S40 =>
          if r39 = 0 then
            gd_ (inb (rd S40 54 14) 200) <|
            lt_ (fun (t43 : Int64) (S44 : St) =>
                lt_ (wl S44 54 16 t43) fun S45 =>
                lt_ (wr S45 54 14 ((rd S45 54 14) + (1 : Int32))) fun S46 =>
                some ((), S46)) fun J401 =>
            if (rd S40 65 (Int32.toNatClampNeg (rd S40 54 14))) = (59 : Int32) then
              J401 (-3 : Int64) S40
            else
              gd_ (inb (rd S40 54 14) 200) <|
              if (rd S40 65 (Int32.toNatClampNeg (rd S40 54 14))) = (35 : Int32) then
                J401 (-5 : Int64) S40
              else
                J401 (-4 : Int64) S40
          else
            f_X11_nextToken_L241
              (fun  (S62 : St) =>
                lt_ (fun (t63 : Int64) (S64 : St) =>
                    lt_ (wl S64 54 16 t63) fun S65 =>
                    some ((), S65)) fun J351 =>
                if (rd S62 54 17) ≤ (2 : Int32) then
                  J351 (-1 : Int64) S62
                else
                  J351 (-4 : Int64) S62)
               FU  S40
        else
          lt_ (wl S36 54 16 (0 : Int64)) fun S67 =>
          f_X11_nextToken_L101
            (fun  (S79 : St) =>
              lt_ (fun (t80 : Int64) (S81 : St) =>
                  lt_ (wl S81 54 16 t80) fun S82 =>
                  some ((), S82)) fun J216 =>
              if ((rd S79 54 14) - (rd S79 54 15)) ≤ (9 : Int32) then
                J216 (rl S79 54 16) S79
              else
                J216 (-4 : Int64) S79)
             FU  S67)
     FU  S

set_option maxHeartbeats 4000000 in
set_option maxRecDepth 100000 in
theorem w_X11_nextToken_L0 {p : Program} {l : Launch} {e : Env} {s : State} {m : MethodId} {args : Array Value} {below : List Frame} {meth : Method} {c : Code} {E : En} {α : Nat → Nat} {g : Nat × Nat} (C : Cx p s m args meth c RX11 cX11_nextToken 1 none E) {z : Unit × St} {K38 : St → Option (Unit × St)}
    (hK38 : ∀ (S : St) (H : Heap) (locs : List Loc) (ls : Array Slot), Rp E α g S H → va_S E.2.2.1 s.heap H locs → lv_has ls 1 [(0, .ref (α 54))] → K38  S = some z → W p l e rm_X11_nextToken s m args below meth c H locs 0 0 (MQ below (Qv E α g z) args s 0 0 E.2.2.1) (F0 m 38 ls [])) :
    ∀ (f : Nat) (S : St) (H : Heap) (locs : List Loc) (ls : Array Slot), Rp E α g S H → va_S E.2.2.1 s.heap H locs → lv_has ls 1 [(0, .ref (α 54))] → f_X11_nextToken_L0 K38 f  S = some z → W p l e rm_X11_nextToken s m args below meth c H locs 0 0 (MQ below (Qv E α g z) args s 0 0 E.2.2.1) (F0 m 0 ls []) := by
  obtain ⟨hx, hb, hml, hown, hts, hlk, hrt, hKs⟩ := id C
  intro f
  induction f with
  | zero =>
    intro  S H locs ls  hR hS hl h
    rw [f_X11_nextToken_L0] at h
    cases h
  | succ f ih =>
    intro  S H locs ls  hR hS hl h
    rw [f_X11_nextToken_L0] at h
    refine lv_aload_n hx hb dX11_nextToken_0 rfl (lv_at hl 0 rfl) ?_
    refine g_geti C hR (k := 54) (j := 14) (live_st (by decide)) rfl rfl (vw11) inl11 (by decide) q957 dX11_nextToken_1 ?_
    refine lv_aload_n hx hb dX11_nextToken_4 rfl (lv_at hl 0 rfl) ?_
    refine g_geti C hR (k := 54) (j := 12) (live_st (by decide)) rfl rfl (vw11) inl11 (by decide) q955 dX11_nextToken_5 ?_
    refine lv_icmp_ge (tgt := 38) hx hb dX11_nextToken_8 (by decide) (fun c25 => ?_) (fun c25 => ?_)
    · have h := ite_t c25 h
      exact hK38  _ _ _ _  hR hS hl h
    · have h := ite_f c25 h
      refine lv_aload_n hx hb dX11_nextToken_11 rfl (lv_at hl 0 rfl) ?_
      refine g_getr (t := 65) C hR (k := 54) (j := 13) (live_st (by decide)) rfl rfl (vw11) inl11 (by decide) q956 dX11_nextToken_12 ?_
      refine lv_aload_n hx hb dX11_nextToken_15 rfl (lv_at hl 0 rfl) ?_
      refine g_geti C hR (k := 54) (j := 14) (live_st (by decide)) rfl rfl (vw11) inl11 (by decide) q957 dX11_nextToken_16 ?_
      obtain ⟨g26, h⟩ := gd_e h
      refine g_iald C hR (k := 65) (n := 200) (live_st (by decide)) rfl g26 dX11_nextToken_19 ?_
      refine lv_bipush (v := 32) hx hb dX11_nextToken_20 (by decide) ?_
      refine lv_icmp_ne (tgt := 38) hx hb dX11_nextToken_22 (by decide) (fun c27 => ?_) (fun c27 => ?_)
      · have h := ite_f c27 h
        exact hK38  _ _ _ _  hR hS hl h
      · have h := ite_t c27 h
        refine lv_aload_n hx hb dX11_nextToken_25 rfl (lv_at hl 0 rfl) ?_
        refine lv_dup hx hb dX11_nextToken_26 rfl ?_
        refine g_geti C hR (k := 54) (j := 14) (live_st (by decide)) rfl rfl (vw11) inl11 (by decide) q957 dX11_nextToken_27 ?_
        refine lv_iconst (v := 1) hx hb dX11_nextToken_30 (by decide) ?_
        refine lv_iadd hx hb dX11_nextToken_31 ?_
        obtain ⟨S28, eS28, h⟩ := lt_e h
        refine g_puti C hR hS (k := 54) (j := 14) (live_st (by decide)) rfl rfl (vw11) inl11 (by decide) (ty0 := tyX11) tyX11_ok nmX11 q957 rfl rfl rfl eS28 dX11_nextToken_32 (fun H locs hR hS => ?_)
        refine lv_goto (tgt := 0) hx hb dX11_nextToken_35 (by decide) ?_
        exact ih  _ _ _ _  hR hS hl h

set_option maxHeartbeats 4000000 in
set_option maxRecDepth 100000 in
theorem w_X11_nextToken_L241 {p : Program} {l : Launch} {e : Env} {s : State} {m : MethodId} {args : Array Value} {below : List Frame} {meth : Method} {c : Code} {E : En} {α : Nat → Nat} {g : Nat × Nat} (C : Cx p s m args meth c RX11 cX11_nextToken 1 none E) {z : Unit × St} {K333 : St → Option (Unit × St)}
    (hK333 : ∀ (S : St) (H : Heap) (locs : List Loc) (ls : Array Slot), Rp E α g S H → va_S E.2.2.1 s.heap H locs → lv_has ls 1 [(0, .ref (α 54))] → K333  S = some z → W p l e rm_X11_nextToken s m args below meth c H locs 0 0 (MQ below (Qv E α g z) args s 0 0 E.2.2.1) (F0 m 333 ls [])) :
    ∀ (f : Nat) (S : St) (H : Heap) (locs : List Loc) (ls : Array Slot), Rp E α g S H → va_S E.2.2.1 s.heap H locs → lv_has ls 1 [(0, .ref (α 54))] → f_X11_nextToken_L241 K333 f  S = some z → W p l e rm_X11_nextToken s m args below meth c H locs 0 0 (MQ below (Qv E α g z) args s 0 0 E.2.2.1) (F0 m 241 ls []) := by
  obtain ⟨hx, hb, hml, hown, hts, hlk, hrt, hKs⟩ := id C
  intro f
  induction f with
  | zero =>
    intro  S H locs ls  hR hS hl h
    rw [f_X11_nextToken_L241] at h
    cases h
  | succ f ih =>
    intro  S H locs ls  hR hS hl h
    rw [f_X11_nextToken_L241] at h
    refine lv_aload_n hx hb dX11_nextToken_241 rfl (lv_at hl 0 rfl) ?_
    refine g_geti C hR (k := 54) (j := 14) (live_st (by decide)) rfl rfl (vw11) inl11 (by decide) q957 dX11_nextToken_242 ?_
    refine lv_aload_n hx hb dX11_nextToken_245 rfl (lv_at hl 0 rfl) ?_
    refine g_geti C hR (k := 54) (j := 12) (live_st (by decide)) rfl rfl (vw11) inl11 (by decide) q955 dX11_nextToken_246 ?_
    refine lv_icmp_ge (tgt := 333) hx hb dX11_nextToken_249 (by decide) (fun c50 => ?_) (fun c50 => ?_)
    · have h := ite_t c50 h
      exact hK333  _ _ _ _  hR hS hl h
    · have h := ite_f c50 h
      refine lv_aload_n hx hb dX11_nextToken_252 rfl (lv_at hl 0 rfl) ?_
      refine g_getr (t := 65) C hR (k := 54) (j := 13) (live_st (by decide)) rfl rfl (vw11) inl11 (by decide) q956 dX11_nextToken_253 ?_
      refine lv_aload_n hx hb dX11_nextToken_256 rfl (lv_at hl 0 rfl) ?_
      refine g_geti C hR (k := 54) (j := 14) (live_st (by decide)) rfl rfl (vw11) inl11 (by decide) q957 dX11_nextToken_257 ?_
      obtain ⟨g51, h⟩ := gd_e h
      refine g_iald C hR (k := 65) (n := 200) (live_st (by decide)) rfl g51 dX11_nextToken_260 ?_
      refine lv_bipush (v := 48) hx hb dX11_nextToken_261 (by decide) ?_
      refine lv_bipush (v := 57) hx hb dX11_nextToken_263 (by decide) ?_
      obtain ⟨r52, S53, hr52, h⟩ := bd_e h
      refine g_ci hS (g_runS C hR hS (As := [.int (rd S 65 (Int32.toNatClampNeg (rd S 54 14))), .int (48 : Int32), .int (57 : Int32)]) (rest := []) (c_X11_in l  hr52) m_X11_in q1093 ⟨rfl, rfl⟩ ⟨Nat.le_of_ble_eq_true rfl, Nat.le_of_ble_eq_true rfl⟩ rfl hl.1 rfl (Nat.le_of_ble_eq_true rfl) dX11_nextToken_265 ⟨Nat.zero_le _, Nat.zero_le _⟩) (fun H locs hR hS => ?_)
      refine lv_if_eq (tgt := 333) hx hb dX11_nextToken_268 (by decide) (fun c54 => ?_) (fun c54 => ?_)
      · have h := ite_t c54 h
        exact hK333  _ _ _ _  hR hS hl h
      · have h := ite_f c54 h
        refine lv_aload_n hx hb dX11_nextToken_271 rfl (lv_at hl 0 rfl) ?_
        refine lv_aload_n hx hb dX11_nextToken_272 rfl (lv_at hl 0 rfl) ?_
        refine g_geti C hR (k := 54) (j := 17) (live_st (by decide)) rfl rfl (vw11) inl11 (by decide) q960 dX11_nextToken_273 ?_
        refine lv_iconst (v := 2) hx hb dX11_nextToken_276 (by decide) ?_
        obtain ⟨J307, eJ307, h⟩ := lt_e h
        have hJ307 : ∀ (t55 : Int32) (S56 : St) (H : Heap) (locs : List Loc) (ls : Array Slot), Rp E α g S56 H → va_S E.2.2.1 s.heap H locs → lv_has ls 1 [(0, .ref (α 54))] → J307 t55 S56 = some z → W p l e rm_X11_nextToken s m args below meth c H locs 0 0 (MQ below (Qv E α g z) args s 0 0 E.2.2.1) (F0 m 307 ls [.int t55, .ref (α 54)]) := by
          intro t55 S56 H locs ls  hR hS hl h
          rw [eJ307] at h
          obtain ⟨S57, eS57, h⟩ := lt_e h
          refine g_puti C hR hS (k := 54) (j := 18) (live_st (by decide)) rfl rfl (vw11) inl11 (by decide) (ty0 := tyX11) tyX11_ok nmX11 q961 rfl rfl rfl eS57 dX11_nextToken_307 (fun H locs hR hS => ?_)
          refine lv_aload_n hx hb dX11_nextToken_310 rfl (lv_at hl 0 rfl) ?_
          refine lv_dup hx hb dX11_nextToken_311 rfl ?_
          refine g_geti C hR (k := 54) (j := 17) (live_st (by decide)) rfl rfl (vw11) inl11 (by decide) q960 dX11_nextToken_312 ?_
          refine lv_iconst (v := 1) hx hb dX11_nextToken_315 (by decide) ?_
          refine lv_iadd hx hb dX11_nextToken_316 ?_
          obtain ⟨S58, eS58, h⟩ := lt_e h
          refine g_puti C hR hS (k := 54) (j := 17) (live_st (by decide)) rfl rfl (vw11) inl11 (by decide) (ty0 := tyX11) tyX11_ok nmX11 q960 rfl rfl rfl eS58 dX11_nextToken_317 (fun H locs hR hS => ?_)
          refine lv_aload_n hx hb dX11_nextToken_320 rfl (lv_at hl 0 rfl) ?_
          refine lv_dup hx hb dX11_nextToken_321 rfl ?_
          refine g_geti C hR (k := 54) (j := 14) (live_st (by decide)) rfl rfl (vw11) inl11 (by decide) q957 dX11_nextToken_322 ?_
          refine lv_iconst (v := 1) hx hb dX11_nextToken_325 (by decide) ?_
          refine lv_iadd hx hb dX11_nextToken_326 ?_
          obtain ⟨S59, eS59, h⟩ := lt_e h
          refine g_puti C hR hS (k := 54) (j := 14) (live_st (by decide)) rfl rfl (vw11) inl11 (by decide) (ty0 := tyX11) tyX11_ok nmX11 q957 rfl rfl rfl eS59 dX11_nextToken_327 (fun H locs hR hS => ?_)
          refine lv_goto (tgt := 241) hx hb dX11_nextToken_330 (by decide) ?_
          exact ih  _ _ _ _  hR hS hl h
        clear eJ307
        refine lv_icmp_ge (tgt := 303) hx hb dX11_nextToken_277 (by decide) (fun c60 => ?_) (fun c60 => ?_)
        · have h := ite_t c60 h
          refine lv_aload_n hx hb dX11_nextToken_303 rfl (lv_at hl 0 rfl) ?_
          refine g_geti C hR (k := 54) (j := 18) (live_st (by decide)) rfl rfl (vw11) inl11 (by decide) q961 dX11_nextToken_304 ?_
          exact hJ307 _ _ _ _ _  hR hS hl h
        · have h := ite_f c60 h
          refine lv_bipush (v := 10) hx hb dX11_nextToken_280 (by decide) ?_
          refine lv_aload_n hx hb dX11_nextToken_282 rfl (lv_at hl 0 rfl) ?_
          refine g_geti C hR (k := 54) (j := 18) (live_st (by decide)) rfl rfl (vw11) inl11 (by decide) q961 dX11_nextToken_283 ?_
          refine lv_imul hx hb dX11_nextToken_286 ?_
          refine lv_aload_n hx hb dX11_nextToken_287 rfl (lv_at hl 0 rfl) ?_
          refine g_getr (t := 65) C hR (k := 54) (j := 13) (live_st (by decide)) rfl rfl (vw11) inl11 (by decide) q956 dX11_nextToken_288 ?_
          refine lv_aload_n hx hb dX11_nextToken_291 rfl (lv_at hl 0 rfl) ?_
          refine g_geti C hR (k := 54) (j := 14) (live_st (by decide)) rfl rfl (vw11) inl11 (by decide) q957 dX11_nextToken_292 ?_
          obtain ⟨g61, h⟩ := gd_e h
          refine g_iald C hR (k := 65) (n := 200) (live_st (by decide)) rfl g61 dX11_nextToken_295 ?_
          refine lv_iadd hx hb dX11_nextToken_296 ?_
          refine lv_bipush (v := 48) hx hb dX11_nextToken_297 (by decide) ?_
          refine lv_isub hx hb dX11_nextToken_299 ?_
          refine lv_goto (tgt := 307) hx hb dX11_nextToken_300 (by decide) ?_
          exact hJ307 _ _ _ _ _  hR hS hl h

set_option maxHeartbeats 4000000 in
set_option maxRecDepth 100000 in
theorem w_X11_nextToken_L101 {p : Program} {l : Launch} {e : Env} {s : State} {m : MethodId} {args : Array Value} {below : List Frame} {meth : Method} {c : Code} {E : En} {α : Nat → Nat} {g : Nat × Nat} (C : Cx p s m args meth c RX11 cX11_nextToken 1 none E) {z : Unit × St} {K191 : St → Option (Unit × St)}
    (hK191 : ∀ (S : St) (H : Heap) (locs : List Loc) (ls : Array Slot), Rp E α g S H → va_S E.2.2.1 s.heap H locs → lv_has ls 1 [(0, .ref (α 54))] → K191  S = some z → W p l e rm_X11_nextToken s m args below meth c H locs 0 0 (MQ below (Qv E α g z) args s 0 0 E.2.2.1) (F0 m 191 ls [])) :
    ∀ (f : Nat) (S : St) (H : Heap) (locs : List Loc) (ls : Array Slot), Rp E α g S H → va_S E.2.2.1 s.heap H locs → lv_has ls 1 [(0, .ref (α 54))] → f_X11_nextToken_L101 K191 f  S = some z → W p l e rm_X11_nextToken s m args below meth c H locs 0 0 (MQ below (Qv E α g z) args s 0 0 E.2.2.1) (F0 m 101 ls []) := by
  obtain ⟨hx, hb, hml, hown, hts, hlk, hrt, hKs⟩ := id C
  intro f
  induction f with
  | zero =>
    intro  S H locs ls  hR hS hl h
    rw [f_X11_nextToken_L101] at h
    cases h
  | succ f ih =>
    intro  S H locs ls  hR hS hl h
    rw [f_X11_nextToken_L101] at h
    refine lv_aload_n hx hb dX11_nextToken_101 rfl (lv_at hl 0 rfl) ?_
    refine g_geti C hR (k := 54) (j := 14) (live_st (by decide)) rfl rfl (vw11) inl11 (by decide) q957 dX11_nextToken_102 ?_
    refine lv_aload_n hx hb dX11_nextToken_105 rfl (lv_at hl 0 rfl) ?_
    refine g_geti C hR (k := 54) (j := 12) (live_st (by decide)) rfl rfl (vw11) inl11 (by decide) q955 dX11_nextToken_106 ?_
    refine lv_icmp_ge (tgt := 191) hx hb dX11_nextToken_109 (by decide) (fun c68 => ?_) (fun c68 => ?_)
    · have h := ite_t c68 h
      exact hK191  _ _ _ _  hR hS hl h
    · have h := ite_f c68 h
      refine lv_aload_n hx hb dX11_nextToken_112 rfl (lv_at hl 0 rfl) ?_
      refine g_getr (t := 65) C hR (k := 54) (j := 13) (live_st (by decide)) rfl rfl (vw11) inl11 (by decide) q956 dX11_nextToken_113 ?_
      refine lv_aload_n hx hb dX11_nextToken_116 rfl (lv_at hl 0 rfl) ?_
      refine g_geti C hR (k := 54) (j := 14) (live_st (by decide)) rfl rfl (vw11) inl11 (by decide) q957 dX11_nextToken_117 ?_
      obtain ⟨g69, h⟩ := gd_e h
      refine g_iald C hR (k := 65) (n := 200) (live_st (by decide)) rfl g69 dX11_nextToken_120 ?_
      refine lv_bipush (v := 97) hx hb dX11_nextToken_121 (by decide) ?_
      refine lv_bipush (v := 122) hx hb dX11_nextToken_123 (by decide) ?_
      obtain ⟨r70, S71, hr70, h⟩ := bd_e h
      refine g_ci hS (g_runS C hR hS (As := [.int (rd S 65 (Int32.toNatClampNeg (rd S 54 14))), .int (97 : Int32), .int (122 : Int32)]) (rest := []) (c_X11_in l  hr70) m_X11_in q1093 ⟨rfl, rfl⟩ ⟨Nat.le_of_ble_eq_true rfl, Nat.le_of_ble_eq_true rfl⟩ rfl hl.1 rfl (Nat.le_of_ble_eq_true rfl) dX11_nextToken_125 ⟨Nat.zero_le _, Nat.zero_le _⟩) (fun H locs hR hS => ?_)
      refine lv_if_eq (tgt := 191) hx hb dX11_nextToken_128 (by decide) (fun c72 => ?_) (fun c72 => ?_)
      · have h := ite_t c72 h
        exact hK191  _ _ _ _  hR hS hl h
      · have h := ite_f c72 h
        refine lv_aload_n hx hb dX11_nextToken_131 rfl (lv_at hl 0 rfl) ?_
        refine lv_aload_n hx hb dX11_nextToken_132 rfl (lv_at hl 0 rfl) ?_
        refine g_geti C hR (k := 54) (j := 14) (live_st (by decide)) rfl rfl (vw11) inl11 (by decide) q957 dX11_nextToken_133 ?_
        refine lv_aload_n hx hb dX11_nextToken_136 rfl (lv_at hl 0 rfl) ?_
        refine g_geti C hR (k := 54) (j := 15) (live_st (by decide)) rfl rfl (vw11) inl11 (by decide) q958 dX11_nextToken_137 ?_
        refine lv_isub hx hb dX11_nextToken_140 ?_
        refine lv_bipush (v := 9) hx hb dX11_nextToken_141 (by decide) ?_
        obtain ⟨J175, eJ175, h⟩ := lt_e h
        have hJ175 : ∀ (t73 : Int64) (S74 : St) (H : Heap) (locs : List Loc) (ls : Array Slot), Rp E α g S74 H → va_S E.2.2.1 s.heap H locs → lv_has ls 1 [(0, .ref (α 54))] → J175 t73 S74 = some z → W p l e rm_X11_nextToken s m args below meth c H locs 0 0 (MQ below (Qv E α g z) args s 0 0 E.2.2.1) (F0 m 175 ls [.long t73, .ref (α 54)]) := by
          intro t73 S74 H locs ls  hR hS hl h
          rw [eJ175] at h
          obtain ⟨S75, eS75, h⟩ := lt_e h
          refine g_putl C hR hS (k := 54) (j := 16) (live_st (by decide)) rfl rfl (vw11) inl11 (by decide) (ty0 := tyX11) tyX11_ok nmX11 q959 rfl rfl rfl eS75 dX11_nextToken_175 (fun H locs hR hS => ?_)
          refine lv_aload_n hx hb dX11_nextToken_178 rfl (lv_at hl 0 rfl) ?_
          refine lv_dup hx hb dX11_nextToken_179 rfl ?_
          refine g_geti C hR (k := 54) (j := 14) (live_st (by decide)) rfl rfl (vw11) inl11 (by decide) q957 dX11_nextToken_180 ?_
          refine lv_iconst (v := 1) hx hb dX11_nextToken_183 (by decide) ?_
          refine lv_iadd hx hb dX11_nextToken_184 ?_
          obtain ⟨S76, eS76, h⟩ := lt_e h
          refine g_puti C hR hS (k := 54) (j := 14) (live_st (by decide)) rfl rfl (vw11) inl11 (by decide) (ty0 := tyX11) tyX11_ok nmX11 q957 rfl rfl rfl eS76 dX11_nextToken_185 (fun H locs hR hS => ?_)
          refine lv_goto (tgt := 101) hx hb dX11_nextToken_188 (by decide) ?_
          exact ih  _ _ _ _  hR hS hl h
        clear eJ175
        refine lv_icmp_ge (tgt := 172) hx hb dX11_nextToken_143 (by decide) (fun c77 => ?_) (fun c77 => ?_)
        · have h := ite_t c77 h
          refine lv_ldc2 (v := -4) hx hb hown (hts _ q1190) dX11_nextToken_172 ?_
          exact hJ175 _ _ _ _ _  hR hS hl h
        · have h := ite_f c77 h
          refine lv_ldc2 (v := 27) hx hb hown (hts _ q1188) dX11_nextToken_146 ?_
          refine lv_aload_n hx hb dX11_nextToken_149 rfl (lv_at hl 0 rfl) ?_
          refine g_getl C hR (k := 54) (j := 16) (live_st (by decide)) rfl rfl (vw11) inl11 (by decide) q959 dX11_nextToken_150 ?_
          refine lv_lmul hx hb dX11_nextToken_153 ?_
          refine lv_aload_n hx hb dX11_nextToken_154 rfl (lv_at hl 0 rfl) ?_
          refine g_getr (t := 65) C hR (k := 54) (j := 13) (live_st (by decide)) rfl rfl (vw11) inl11 (by decide) q956 dX11_nextToken_155 ?_
          refine lv_aload_n hx hb dX11_nextToken_158 rfl (lv_at hl 0 rfl) ?_
          refine g_geti C hR (k := 54) (j := 14) (live_st (by decide)) rfl rfl (vw11) inl11 (by decide) q957 dX11_nextToken_159 ?_
          obtain ⟨g78, h⟩ := gd_e h
          refine g_iald C hR (k := 65) (n := 200) (live_st (by decide)) rfl g78 dX11_nextToken_162 ?_
          refine lv_i2l (v := Int32.toInt64 (rd S71 65 (Int32.toNatClampNeg (rd S71 54 14)))) hx hb dX11_nextToken_163 rfl ?_
          refine lv_ladd hx hb dX11_nextToken_164 ?_
          refine lv_ldc2 (v := 96) hx hb hown (hts _ q1189) dX11_nextToken_165 ?_
          refine lv_lsub hx hb dX11_nextToken_168 ?_
          refine lv_goto (tgt := 175) hx hb dX11_nextToken_169 (by decide) ?_
          exact hJ175 _ _ _ _ _  hR hS hl h

set_option maxHeartbeats 4000000 in
set_option maxRecDepth 100000 in
theorem c_X11_nextToken (l : Launch) {E : En} {α : Nat → Nat} {g : Nat × Nat}  {S : St}  {z : Unit × St} (h : f_X11_nextToken  S = some z) : Met l yX11_nextToken (wsY yX11_nextToken cX11_nextToken 1 none) rm_X11_nextToken (va_Pc [.ref (α 54)] (Wd E α g S)) (Qv E α g z) 0 0 E.2.2.1 := by
  refine g_met [.ref (α 54)] (by decide) rfl (Nat.le_of_ble_eq_true rfl) ?_
  intro p e s m below meth c ls C hR hl
  generalize hae : ([.ref (α 54)] : List Value).toArray = args at C ⊢
  have hl : lv_has ls 1 [(0, .ref (α 54))] := hl
  obtain ⟨hx, hb, hml, hown, hts, hlk, hrt, hKs⟩ := id C
  have hS : va_S E.2.2.1 s.heap s.heap [] := va_S.rf
  unfold f_X11_nextToken at h
  refine w_X11_nextToken_L0 C ?_  _  _ _ _ _  hR hS hl h
  · intro  S29 H locs ls  hR hS hl h
    refine lv_aload_n hx hb dX11_nextToken_38 rfl (lv_at hl 0 rfl) ?_
    refine lv_aload_n hx hb dX11_nextToken_39 rfl (lv_at hl 0 rfl) ?_
    refine g_geti C hR (k := 54) (j := 14) (live_st (by decide)) rfl rfl (vw11) inl11 (by decide) q957 dX11_nextToken_40 ?_
    obtain ⟨S30, eS30, h⟩ := lt_e h
    refine g_puti C hR hS (k := 54) (j := 15) (live_st (by decide)) rfl rfl (vw11) inl11 (by decide) (ty0 := tyX11) tyX11_ok nmX11 q958 rfl rfl rfl eS30 dX11_nextToken_43 (fun H locs hR hS => ?_)
    refine lv_aload_n hx hb dX11_nextToken_46 rfl (lv_at hl 0 rfl) ?_
    refine lv_iconst (v := 0) hx hb dX11_nextToken_47 (by decide) ?_
    obtain ⟨S31, eS31, h⟩ := lt_e h
    refine g_puti C hR hS (k := 54) (j := 17) (live_st (by decide)) rfl rfl (vw11) inl11 (by decide) (ty0 := tyX11) tyX11_ok nmX11 q960 rfl rfl rfl eS31 dX11_nextToken_48 (fun H locs hR hS => ?_)
    refine lv_aload_n hx hb dX11_nextToken_51 rfl (lv_at hl 0 rfl) ?_
    refine lv_iconst (v := 0) hx hb dX11_nextToken_52 (by decide) ?_
    obtain ⟨S32, eS32, h⟩ := lt_e h
    refine g_puti C hR hS (k := 54) (j := 18) (live_st (by decide)) rfl rfl (vw11) inl11 (by decide) (ty0 := tyX11) tyX11_ok nmX11 q961 rfl rfl rfl eS32 dX11_nextToken_53 (fun H locs hR hS => ?_)
    refine lv_aload_n hx hb dX11_nextToken_56 rfl (lv_at hl 0 rfl) ?_
    refine g_geti C hR (k := 54) (j := 14) (live_st (by decide)) rfl rfl (vw11) inl11 (by decide) q957 dX11_nextToken_57 ?_
    refine lv_aload_n hx hb dX11_nextToken_60 rfl (lv_at hl 0 rfl) ?_
    refine g_geti C hR (k := 54) (j := 12) (live_st (by decide)) rfl rfl (vw11) inl11 (by decide) q955 dX11_nextToken_61 ?_
    refine lv_icmp_ne (tgt := 77) hx hb dX11_nextToken_64 (by decide) (fun c33 => ?_) (fun c33 => ?_)
    · have h := ite_f c33 h
      refine lv_aload_n hx hb dX11_nextToken_77 rfl (lv_at hl 0 rfl) ?_
      refine g_getr (t := 65) C hR (k := 54) (j := 13) (live_st (by decide)) rfl rfl (vw11) inl11 (by decide) q956 dX11_nextToken_78 ?_
      refine lv_aload_n hx hb dX11_nextToken_81 rfl (lv_at hl 0 rfl) ?_
      refine g_geti C hR (k := 54) (j := 14) (live_st (by decide)) rfl rfl (vw11) inl11 (by decide) q957 dX11_nextToken_82 ?_
      obtain ⟨g34, h⟩ := gd_e h
      refine g_iald C hR (k := 65) (n := 200) (live_st (by decide)) rfl g34 dX11_nextToken_85 ?_
      refine lv_bipush (v := 97) hx hb dX11_nextToken_86 (by decide) ?_
      refine lv_bipush (v := 122) hx hb dX11_nextToken_88 (by decide) ?_
      obtain ⟨r35, S36, hr35, h⟩ := bd_e h
      refine g_ci hS (g_runS C hR hS (As := [.int (rd S32 65 (Int32.toNatClampNeg (rd S32 54 14))), .int (97 : Int32), .int (122 : Int32)]) (rest := []) (c_X11_in l  hr35) m_X11_in q1093 ⟨rfl, rfl⟩ ⟨Nat.le_of_ble_eq_true rfl, Nat.le_of_ble_eq_true rfl⟩ rfl hl.1 rfl (Nat.le_of_ble_eq_true rfl) dX11_nextToken_90 ⟨Nat.zero_le _, Nat.zero_le _⟩) (fun H locs hR hS => ?_)
      refine lv_if_eq (tgt := 222) hx hb dX11_nextToken_93 (by decide) (fun c37 => ?_) (fun c37 => ?_)
      · have h := ite_t c37 h
        refine lv_aload_n hx hb dX11_nextToken_222 rfl (lv_at hl 0 rfl) ?_
        refine g_getr (t := 65) C hR (k := 54) (j := 13) (live_st (by decide)) rfl rfl (vw11) inl11 (by decide) q956 dX11_nextToken_223 ?_
        refine lv_aload_n hx hb dX11_nextToken_226 rfl (lv_at hl 0 rfl) ?_
        refine g_geti C hR (k := 54) (j := 14) (live_st (by decide)) rfl rfl (vw11) inl11 (by decide) q957 dX11_nextToken_227 ?_
        obtain ⟨g38, h⟩ := gd_e h
        refine g_iald C hR (k := 65) (n := 200) (live_st (by decide)) rfl g38 dX11_nextToken_230 ?_
        refine lv_bipush (v := 48) hx hb dX11_nextToken_231 (by decide) ?_
        refine lv_bipush (v := 57) hx hb dX11_nextToken_233 (by decide) ?_
        obtain ⟨r39, S40, hr39, h⟩ := bd_e h
        refine g_ci hS (g_runS C hR hS (As := [.int (rd S36 65 (Int32.toNatClampNeg (rd S36 54 14))), .int (48 : Int32), .int (57 : Int32)]) (rest := []) (c_X11_in l  hr39) m_X11_in q1093 ⟨rfl, rfl⟩ ⟨Nat.le_of_ble_eq_true rfl, Nat.le_of_ble_eq_true rfl⟩ rfl hl.1 rfl (Nat.le_of_ble_eq_true rfl) dX11_nextToken_235 ⟨Nat.zero_le _, Nat.zero_le _⟩) (fun H locs hR hS => ?_)
        refine lv_if_eq (tgt := 357) hx hb dX11_nextToken_238 (by decide) (fun c41 => ?_) (fun c41 => ?_)
        · have h := ite_t c41 h
          refine lv_aload_n hx hb dX11_nextToken_357 rfl (lv_at hl 0 rfl) ?_
          refine lv_aload_n hx hb dX11_nextToken_358 rfl (lv_at hl 0 rfl) ?_
          refine g_getr (t := 65) C hR (k := 54) (j := 13) (live_st (by decide)) rfl rfl (vw11) inl11 (by decide) q956 dX11_nextToken_359 ?_
          refine lv_aload_n hx hb dX11_nextToken_362 rfl (lv_at hl 0 rfl) ?_
          refine g_geti C hR (k := 54) (j := 14) (live_st (by decide)) rfl rfl (vw11) inl11 (by decide) q957 dX11_nextToken_363 ?_
          obtain ⟨g42, h⟩ := gd_e h
          refine g_iald C hR (k := 65) (n := 200) (live_st (by decide)) rfl g42 dX11_nextToken_366 ?_
          refine lv_bipush (v := 59) hx hb dX11_nextToken_367 (by decide) ?_
          obtain ⟨J401, eJ401, h⟩ := lt_e h
          have hJ401 : ∀ (t43 : Int64) (S44 : St) (H : Heap) (locs : List Loc) (ls : Array Slot), Rp E α g S44 H → va_S E.2.2.1 s.heap H locs → lv_has ls 1 [(0, .ref (α 54))] → J401 t43 S44 = some z → W p l e rm_X11_nextToken s m args below meth c H locs 0 0 (MQ below (Qv E α g z) args s 0 0 E.2.2.1) (F0 m 401 ls [.long t43, .ref (α 54)]) := by
            intro t43 S44 H locs ls  hR hS hl h
            rw [eJ401] at h
            obtain ⟨S45, eS45, h⟩ := lt_e h
            refine g_putl C hR hS (k := 54) (j := 16) (live_st (by decide)) rfl rfl (vw11) inl11 (by decide) (ty0 := tyX11) tyX11_ok nmX11 q959 rfl rfl rfl eS45 dX11_nextToken_401 (fun H locs hR hS => ?_)
            refine lv_aload_n hx hb dX11_nextToken_404 rfl (lv_at hl 0 rfl) ?_
            refine lv_dup hx hb dX11_nextToken_405 rfl ?_
            refine g_geti C hR (k := 54) (j := 14) (live_st (by decide)) rfl rfl (vw11) inl11 (by decide) q957 dX11_nextToken_406 ?_
            refine lv_iconst (v := 1) hx hb dX11_nextToken_409 (by decide) ?_
            refine lv_iadd hx hb dX11_nextToken_410 ?_
            obtain ⟨S46, eS46, h⟩ := lt_e h
            refine g_puti C hR hS (k := 54) (j := 14) (live_st (by decide)) rfl rfl (vw11) inl11 (by decide) (ty0 := tyX11) tyX11_ok nmX11 q957 rfl rfl rfl eS46 dX11_nextToken_411 (fun H locs hR hS => ?_)
            exact g_vret C hR hS h dX11_nextToken_414
          clear eJ401
          refine lv_icmp_ne (tgt := 378) hx hb dX11_nextToken_369 (by decide) (fun c47 => ?_) (fun c47 => ?_)
          · have h := ite_f c47 h
            refine lv_aload_n hx hb dX11_nextToken_378 rfl (lv_at hl 0 rfl) ?_
            refine g_getr (t := 65) C hR (k := 54) (j := 13) (live_st (by decide)) rfl rfl (vw11) inl11 (by decide) q956 dX11_nextToken_379 ?_
            refine lv_aload_n hx hb dX11_nextToken_382 rfl (lv_at hl 0 rfl) ?_
            refine g_geti C hR (k := 54) (j := 14) (live_st (by decide)) rfl rfl (vw11) inl11 (by decide) q957 dX11_nextToken_383 ?_
            obtain ⟨g48, h⟩ := gd_e h
            refine g_iald C hR (k := 65) (n := 200) (live_st (by decide)) rfl g48 dX11_nextToken_386 ?_
            refine lv_bipush (v := 35) hx hb dX11_nextToken_387 (by decide) ?_
            refine lv_icmp_ne (tgt := 398) hx hb dX11_nextToken_389 (by decide) (fun c49 => ?_) (fun c49 => ?_)
            · have h := ite_f c49 h
              refine lv_ldc2 (v := -4) hx hb hown (hts _ q1190) dX11_nextToken_398 ?_
              exact hJ401 _ _ _ _ _  hR hS hl h
            · have h := ite_t c49 h
              refine lv_ldc2 (v := -5) hx hb hown (hts _ q1193) dX11_nextToken_392 ?_
              refine lv_goto (tgt := 401) hx hb dX11_nextToken_395 (by decide) ?_
              exact hJ401 _ _ _ _ _  hR hS hl h
          · have h := ite_t c47 h
            refine lv_ldc2 (v := -3) hx hb hown (hts _ q1192) dX11_nextToken_372 ?_
            refine lv_goto (tgt := 401) hx hb dX11_nextToken_375 (by decide) ?_
            exact hJ401 _ _ _ _ _  hR hS hl h
        · have h := ite_f c41 h
          refine w_X11_nextToken_L241 C ?_  _  _ _ _ _  hR hS hl h
          · intro  S62 H locs ls  hR hS hl h
            refine lv_aload_n hx hb dX11_nextToken_333 rfl (lv_at hl 0 rfl) ?_
            refine lv_aload_n hx hb dX11_nextToken_334 rfl (lv_at hl 0 rfl) ?_
            refine g_geti C hR (k := 54) (j := 17) (live_st (by decide)) rfl rfl (vw11) inl11 (by decide) q960 dX11_nextToken_335 ?_
            refine lv_iconst (v := 2) hx hb dX11_nextToken_338 (by decide) ?_
            obtain ⟨J351, eJ351, h⟩ := lt_e h
            have hJ351 : ∀ (t63 : Int64) (S64 : St) (H : Heap) (locs : List Loc) (ls : Array Slot), Rp E α g S64 H → va_S E.2.2.1 s.heap H locs → lv_has ls 1 [] → J351 t63 S64 = some z → W p l e rm_X11_nextToken s m args below meth c H locs 0 0 (MQ below (Qv E α g z) args s 0 0 E.2.2.1) (F0 m 351 ls [.long t63, .ref (α 54)]) := by
              intro t63 S64 H locs ls  hR hS hl h
              rw [eJ351] at h
              obtain ⟨S65, eS65, h⟩ := lt_e h
              refine g_putl C hR hS (k := 54) (j := 16) (live_st (by decide)) rfl rfl (vw11) inl11 (by decide) (ty0 := tyX11) tyX11_ok nmX11 q959 rfl rfl rfl eS65 dX11_nextToken_351 (fun H locs hR hS => ?_)
              refine lv_goto (tgt := 414) hx hb dX11_nextToken_354 (by decide) ?_
              exact g_vret C hR hS h dX11_nextToken_414
            clear eJ351
            refine lv_icmp_le (tgt := 348) hx hb dX11_nextToken_339 (by decide) (fun c66 => ?_) (fun c66 => ?_)
            · have h := ite_t c66 h
              refine lv_ldc2 (v := -1) hx hb hown (hts _ q1191) dX11_nextToken_348 ?_
              exact hJ351 _ _ _ _ _  hR hS (lv_sub hl [] rfl) h
            · have h := ite_f c66 h
              refine lv_ldc2 (v := -4) hx hb hown (hts _ q1190) dX11_nextToken_342 ?_
              refine lv_goto (tgt := 351) hx hb dX11_nextToken_345 (by decide) ?_
              exact hJ351 _ _ _ _ _  hR hS (lv_sub hl [] rfl) h
      · have h := ite_f c37 h
        refine lv_aload_n hx hb dX11_nextToken_96 rfl (lv_at hl 0 rfl) ?_
        refine lv_lconst (v := 0) hx hb dX11_nextToken_97 (by decide) ?_
        obtain ⟨S67, eS67, h⟩ := lt_e h
        refine g_putl C hR hS (k := 54) (j := 16) (live_st (by decide)) rfl rfl (vw11) inl11 (by decide) (ty0 := tyX11) tyX11_ok nmX11 q959 rfl rfl rfl eS67 dX11_nextToken_98 (fun H locs hR hS => ?_)
        refine w_X11_nextToken_L101 C ?_  _  _ _ _ _  hR hS hl h
        · intro  S79 H locs ls  hR hS hl h
          refine lv_aload_n hx hb dX11_nextToken_191 rfl (lv_at hl 0 rfl) ?_
          refine lv_aload_n hx hb dX11_nextToken_192 rfl (lv_at hl 0 rfl) ?_
          refine g_geti C hR (k := 54) (j := 14) (live_st (by decide)) rfl rfl (vw11) inl11 (by decide) q957 dX11_nextToken_193 ?_
          refine lv_aload_n hx hb dX11_nextToken_196 rfl (lv_at hl 0 rfl) ?_
          refine g_geti C hR (k := 54) (j := 15) (live_st (by decide)) rfl rfl (vw11) inl11 (by decide) q958 dX11_nextToken_197 ?_
          refine lv_isub hx hb dX11_nextToken_200 ?_
          refine lv_bipush (v := 9) hx hb dX11_nextToken_201 (by decide) ?_
          obtain ⟨J216, eJ216, h⟩ := lt_e h
          have hJ216 : ∀ (t80 : Int64) (S81 : St) (H : Heap) (locs : List Loc) (ls : Array Slot), Rp E α g S81 H → va_S E.2.2.1 s.heap H locs → lv_has ls 1 [] → J216 t80 S81 = some z → W p l e rm_X11_nextToken s m args below meth c H locs 0 0 (MQ below (Qv E α g z) args s 0 0 E.2.2.1) (F0 m 216 ls [.long t80, .ref (α 54)]) := by
            intro t80 S81 H locs ls  hR hS hl h
            rw [eJ216] at h
            obtain ⟨S82, eS82, h⟩ := lt_e h
            refine g_putl C hR hS (k := 54) (j := 16) (live_st (by decide)) rfl rfl (vw11) inl11 (by decide) (ty0 := tyX11) tyX11_ok nmX11 q959 rfl rfl rfl eS82 dX11_nextToken_216 (fun H locs hR hS => ?_)
            refine lv_goto (tgt := 414) hx hb dX11_nextToken_219 (by decide) ?_
            exact g_vret C hR hS h dX11_nextToken_414
          clear eJ216
          refine lv_icmp_le (tgt := 212) hx hb dX11_nextToken_203 (by decide) (fun c83 => ?_) (fun c83 => ?_)
          · have h := ite_t c83 h
            refine lv_aload_n hx hb dX11_nextToken_212 rfl (lv_at hl 0 rfl) ?_
            refine g_getl C hR (k := 54) (j := 16) (live_st (by decide)) rfl rfl (vw11) inl11 (by decide) q959 dX11_nextToken_213 ?_
            exact hJ216 _ _ _ _ _  hR hS (lv_sub hl [] rfl) h
          · have h := ite_f c83 h
            refine lv_ldc2 (v := -4) hx hb hown (hts _ q1190) dX11_nextToken_206 ?_
            refine lv_goto (tgt := 216) hx hb dX11_nextToken_209 (by decide) ?_
            exact hJ216 _ _ _ _ _  hR hS (lv_sub hl [] rfl) h
    · have h := ite_t c33 h
      refine lv_aload_n hx hb dX11_nextToken_67 rfl (lv_at hl 0 rfl) ?_
      refine lv_ldc2 (v := -2) hx hb hown (hts _ q1187) dX11_nextToken_68 ?_
      obtain ⟨S84, eS84, h⟩ := lt_e h
      refine g_putl C hR hS (k := 54) (j := 16) (live_st (by decide)) rfl rfl (vw11) inl11 (by decide) (ty0 := tyX11) tyX11_ok nmX11 q959 rfl rfl rfl eS84 dX11_nextToken_71 (fun H locs hR hS => ?_)
      refine lv_goto (tgt := 414) hx hb dX11_nextToken_74 (by decide) ?_
      exact g_vret C hR hS h dX11_nextToken_414

/-! OneVoiceModel.fails()Z -/
abbrev rm_X11_fails : Room := { frames := 0, cells := 0, slots := 0, locals := 0 }
theorem m_X11_fails : MV yX11_fails RX11 cX11_fails 1 (some .boolean) 0 := ⟨q1205, q46, q77, q1206, by decide +kernel⟩
def f_X11_fails  (S : St) : Option (Int32 × St) :=
  lt_ (wr S 54 19 (rd S 54 15)) fun S2 =>
  some ((0 : Int32), S2)

set_option maxHeartbeats 4000000 in
set_option maxRecDepth 100000 in
theorem c_X11_fails (l : Launch) {E : En} {α : Nat → Nat} {g : Nat × Nat}  {S : St}  {z : Int32 × St} (h : f_X11_fails  S = some z) : Met l yX11_fails (wsY yX11_fails cX11_fails 1 (some .boolean)) rm_X11_fails (va_Pc [.ref (α 54)] (Wd E α g S)) (Qi E α g z) 0 0 E.2.2.1 := by
  refine g_met [.ref (α 54)] (by decide) rfl (Nat.le_of_ble_eq_true rfl) ?_
  intro p e s m below meth c ls C hR hl
  generalize hae : ([.ref (α 54)] : List Value).toArray = args at C ⊢
  have hl : lv_has ls 1 [(0, .ref (α 54))] := hl
  obtain ⟨hx, hb, hml, hown, hts, hlk, hrt, hKs⟩ := id C
  have hS : va_S E.2.2.1 s.heap s.heap [] := va_S.rf
  unfold f_X11_fails at h
  refine lv_aload_n hx hb dX11_fails_0 rfl (lv_at hl 0 rfl) ?_
  refine lv_aload_n hx hb dX11_fails_1 rfl (lv_at hl 0 rfl) ?_
  refine g_geti C hR (k := 54) (j := 15) (live_st (by decide)) rfl rfl (vw11) inl11 (by decide) q958 dX11_fails_2 ?_
  obtain ⟨S2, eS2, h⟩ := lt_e h
  refine g_puti C hR hS (k := 54) (j := 19) (live_st (by decide)) rfl rfl (vw11) inl11 (by decide) (ty0 := tyX11) tyX11_ok nmX11 q962 rfl rfl rfl eS2 dX11_fails_5 (fun H locs hR hS => ?_)
  refine lv_iconst (v := 0) hx hb dX11_fails_8 (by decide) ?_
  exact g_zret C hR hS bz0 h dX11_fails_9

/-! OneVoiceModel.isNumber(III)Z -/
abbrev rm_X11_isNumber : Room := { frames := 2, cells := 0, slots := 0, locals := 42 }
theorem m_X11_isNumber : MV yX11_isNumber RX11 cX11_isNumber 4 (some .boolean) 3 := ⟨q1201, q45, q77, q1202, by decide +kernel⟩
def f_X11_isNumber (v1 : Int32) (v2 : Int32) (v3 : Int32) (S : St) : Option (Int32 × St) :=
  bd_ (f_X11_nextToken  S) fun r2 S3 =>
  lt_ (fun  (S4 : St) =>
      bd_ (f_X11_fails  S4) fun r5 S6 =>
      gd_ (bz r5) <| some (r5, S6)) fun J27 =>
  if (lg_cmp (rl S3 54 16) (-1 : Int64)) = 0 then
    bd_ (f_X11_in (rd S3 54 18) v2 v3 S3) fun r8 S9 =>
    if r8 = 0 then
      J27  S9
    else
      gd_ (inb v1 110) <|
      lt_ (wr S9 66 (Int32.toNatClampNeg v1) (rd S9 54 18)) fun S11 =>
      some ((1 : Int32), S11)
  else
    J27  S3

set_option maxHeartbeats 4000000 in
set_option maxRecDepth 100000 in
theorem c_X11_isNumber (l : Launch) {E : En} {α : Nat → Nat} {g : Nat × Nat} {v1 : Int32} {v2 : Int32} {v3 : Int32} {S : St}  {z : Int32 × St} (h : f_X11_isNumber v1 v2 v3 S = some z) : Met l yX11_isNumber (wsY yX11_isNumber cX11_isNumber 4 (some .boolean)) rm_X11_isNumber (va_Pc [.ref (α 54), .int v1, .int v2, .int v3] (Wd E α g S)) (Qi E α g z) 0 0 E.2.2.1 := by
  refine g_met [.ref (α 54), .int v1, .int v2, .int v3] (by decide) rfl (Nat.le_of_ble_eq_true rfl) ?_
  intro p e s m below meth c ls C hR hl
  generalize hae : ([.ref (α 54), .int v1, .int v2, .int v3] : List Value).toArray = args at C ⊢
  have hl : lv_has ls 4 [(0, .ref (α 54)), (1, .int v1), (2, .int v2), (3, .int v3)] := hl
  obtain ⟨hx, hb, hml, hown, hts, hlk, hrt, hKs⟩ := id C
  have hS : va_S E.2.2.1 s.heap s.heap [] := va_S.rf
  unfold f_X11_isNumber at h
  refine lv_aload_n hx hb dX11_isNumber_0 rfl (lv_at hl 0 rfl) ?_
  obtain ⟨r2, S3, hr2, h⟩ := bd_e h
  refine g_cv hS (g_runV C hR hS (k := 54) (As := []) (rest := []) (c_X11_nextToken l  hr2) (live_st (by decide)) rfl (vw11) m_X11_nextToken q1183 ⟨rfl, rfl⟩ ⟨Nat.le_of_ble_eq_true rfl, Nat.le_of_ble_eq_true rfl⟩ rfl hl.1 rfl (Nat.le_of_ble_eq_true rfl) dX11_isNumber_1 ⟨Nat.zero_le _, Nat.zero_le _⟩) (fun H locs hR hS => ?_)
  refine lv_aload_n hx hb dX11_isNumber_4 rfl (lv_at hl 0 rfl) ?_
  refine g_getl C hR (k := 54) (j := 16) (live_st (by decide)) rfl rfl (vw11) inl11 (by decide) q959 dX11_isNumber_5 ?_
  refine lv_ldc2 (v := -1) hx hb hown (hts _ q1191) dX11_isNumber_8 ?_
  refine W.lcmp hx hb dX11_isNumber_11 ?_
  obtain ⟨J27, eJ27, h⟩ := lt_e h
  have hJ27 : ∀ (S4 : St) (H : Heap) (locs : List Loc) (ls : Array Slot), Rp E α g S4 H → va_S E.2.2.1 s.heap H locs → lv_has ls 4 [(0, .ref (α 54))] → J27  S4 = some z → W p l e rm_X11_isNumber s m args below meth c H locs 0 0 (MQ below (Qi E α g z) args s 0 0 E.2.2.1) (F0 m 27 ls []) := by
    intro  S4 H locs ls  hR hS hl h
    rw [eJ27] at h
    refine lv_aload_n hx hb dX11_isNumber_27 rfl (lv_at hl 0 rfl) ?_
    obtain ⟨r5, S6, hr5, h⟩ := bd_e h
    refine g_ci hS (g_runV C hR hS (k := 54) (As := []) (rest := []) (c_X11_fails l  hr5) (live_st (by decide)) rfl (vw11) m_X11_fails q1203 ⟨rfl, rfl⟩ ⟨Nat.le_of_ble_eq_true rfl, Nat.le_of_ble_eq_true rfl⟩ rfl hl.1 rfl (Nat.le_of_ble_eq_true rfl) dX11_isNumber_28 ⟨Nat.zero_le _, Nat.zero_le _⟩) (fun H locs hR hS => ?_)
    obtain ⟨hz, h⟩ := gd_e h
    exact g_zret C hR hS hz h dX11_isNumber_31
  clear eJ27
  refine lv_if_ne (tgt := 27) hx hb dX11_isNumber_12 (by decide) (fun c7 => ?_) (fun c7 => ?_)
  · have h := ite_f c7 h
    exact hJ27  _ _ _ _  hR hS (lv_sub hl [0] rfl) h
  · have h := ite_t c7 h
    refine lv_aload_n hx hb dX11_isNumber_15 rfl (lv_at hl 0 rfl) ?_
    refine g_geti C hR (k := 54) (j := 18) (live_st (by decide)) rfl rfl (vw11) inl11 (by decide) q961 dX11_isNumber_16 ?_
    refine lv_iload_n hx hb dX11_isNumber_19 rfl (lv_at hl 2 rfl) ?_
    refine lv_iload_n hx hb dX11_isNumber_20 rfl (lv_at hl 3 rfl) ?_
    obtain ⟨r8, S9, hr8, h⟩ := bd_e h
    refine g_ci hS (g_runS C hR hS (As := [.int (rd S3 54 18), .int v2, .int v3]) (rest := []) (c_X11_in l  hr8) m_X11_in q1093 ⟨rfl, rfl⟩ ⟨Nat.le_of_ble_eq_true rfl, Nat.le_of_ble_eq_true rfl⟩ rfl hl.1 rfl (Nat.le_of_ble_eq_true rfl) dX11_isNumber_21 ⟨Nat.zero_le _, Nat.zero_le _⟩) (fun H locs hR hS => ?_)
    refine lv_if_ne (tgt := 32) hx hb dX11_isNumber_24 (by decide) (fun c10 => ?_) (fun c10 => ?_)
    · have h := ite_f c10 h
      refine lv_aload_n hx hb dX11_isNumber_32 rfl (lv_at hl 0 rfl) ?_
      refine g_getr (t := 66) C hR (k := 54) (j := 21) (live_st (by decide)) rfl rfl (vw11) inl11 (by decide) q964 dX11_isNumber_33 ?_
      refine lv_iload_n hx hb dX11_isNumber_36 rfl (lv_at hl 1 rfl) ?_
      refine lv_aload_n hx hb dX11_isNumber_37 rfl (lv_at hl 0 rfl) ?_
      refine g_geti C hR (k := 54) (j := 18) (live_st (by decide)) rfl rfl (vw11) inl11 (by decide) q961 dX11_isNumber_38 ?_
      obtain ⟨g12, h⟩ := gd_e h
      obtain ⟨S11, eS11, h⟩ := lt_e h
      refine g_iast C hR hS (k := 66) (n := 110) (live_st (by decide)) rfl g12 eS11 dX11_isNumber_41 (fun H locs hR hS => ?_)
      refine lv_iconst (v := 1) hx hb dX11_isNumber_42 (by decide) ?_
      exact g_zret C hR hS bz1 h dX11_isNumber_43
    · have h := ite_t c10 h
      exact hJ27  _ _ _ _  hR hS (lv_sub hl [0] rfl) h

/-! OneVoiceModel.isIs()Z -/
abbrev rm_X11_isIs : Room := { frames := 2, cells := 0, slots := 0, locals := 42 }
theorem m_X11_isIs : MV yX11_isIs RX11 cX11_isIs 1 (some .boolean) 0 := ⟨q1209, q47, q77, q1210, by decide +kernel⟩
def f_X11_isIs  (S : St) : Option (Int32 × St) :=
  bd_ (f_X11_nextToken  S) fun r1 S2 =>
  lt_ (fun  (S3 : St) =>
      some ((1 : Int32), S3)) fun J22 =>
  if (lg_cmp (rl S2 54 16) (262 : Int64)) = 0 then
    J22  S2
  else
    bd_ (f_X11_fails  S2) fun r5 S6 =>
    if r5 = 0 then
      some ((0 : Int32), S6)
    else
      J22  S6

set_option maxHeartbeats 4000000 in
set_option maxRecDepth 100000 in
theorem c_X11_isIs (l : Launch) {E : En} {α : Nat → Nat} {g : Nat × Nat}  {S : St}  {z : Int32 × St} (h : f_X11_isIs  S = some z) : Met l yX11_isIs (wsY yX11_isIs cX11_isIs 1 (some .boolean)) rm_X11_isIs (va_Pc [.ref (α 54)] (Wd E α g S)) (Qi E α g z) 0 0 E.2.2.1 := by
  refine g_met [.ref (α 54)] (by decide) rfl (Nat.le_of_ble_eq_true rfl) ?_
  intro p e s m below meth c ls C hR hl
  generalize hae : ([.ref (α 54)] : List Value).toArray = args at C ⊢
  have hl : lv_has ls 1 [(0, .ref (α 54))] := hl
  obtain ⟨hx, hb, hml, hown, hts, hlk, hrt, hKs⟩ := id C
  have hS : va_S E.2.2.1 s.heap s.heap [] := va_S.rf
  unfold f_X11_isIs at h
  refine lv_aload_n hx hb dX11_isIs_0 rfl (lv_at hl 0 rfl) ?_
  obtain ⟨r1, S2, hr1, h⟩ := bd_e h
  refine g_cv hS (g_runV C hR hS (k := 54) (As := []) (rest := []) (c_X11_nextToken l  hr1) (live_st (by decide)) rfl (vw11) m_X11_nextToken q1183 ⟨rfl, rfl⟩ ⟨Nat.le_of_ble_eq_true rfl, Nat.le_of_ble_eq_true rfl⟩ rfl hl.1 rfl (Nat.le_of_ble_eq_true rfl) dX11_isIs_1 ⟨Nat.zero_le _, Nat.zero_le _⟩) (fun H locs hR hS => ?_)
  refine lv_aload_n hx hb dX11_isIs_4 rfl (lv_at hl 0 rfl) ?_
  refine g_getl C hR (k := 54) (j := 16) (live_st (by decide)) rfl rfl (vw11) inl11 (by decide) q959 dX11_isIs_5 ?_
  refine lv_ldc2 (v := 262) hx hb hown (hts _ q1211) dX11_isIs_8 ?_
  refine W.lcmp hx hb dX11_isIs_11 ?_
  obtain ⟨J22, eJ22, h⟩ := lt_e h
  have hJ22 : ∀ (S3 : St) (H : Heap) (locs : List Loc) (ls : Array Slot), Rp E α g S3 H → va_S E.2.2.1 s.heap H locs → lv_has ls 1 [] → J22  S3 = some z → W p l e rm_X11_isIs s m args below meth c H locs 0 0 (MQ below (Qi E α g z) args s 0 0 E.2.2.1) (F0 m 22 ls []) := by
    intro  S3 H locs ls  hR hS hl h
    rw [eJ22] at h
    refine lv_iconst (v := 1) hx hb dX11_isIs_22 (by decide) ?_
    refine lv_goto (tgt := 27) hx hb dX11_isIs_23 (by decide) ?_
    exact g_zret C hR hS bz1 h dX11_isIs_27
  clear eJ22
  refine lv_if_eq (tgt := 22) hx hb dX11_isIs_12 (by decide) (fun c4 => ?_) (fun c4 => ?_)
  · have h := ite_t c4 h
    exact hJ22  _ _ _ _  hR hS (lv_sub hl [] rfl) h
  · have h := ite_f c4 h
    refine lv_aload_n hx hb dX11_isIs_15 rfl (lv_at hl 0 rfl) ?_
    obtain ⟨r5, S6, hr5, h⟩ := bd_e h
    refine g_ci hS (g_runV C hR hS (k := 54) (As := []) (rest := []) (c_X11_fails l  hr5) (live_st (by decide)) rfl (vw11) m_X11_fails q1203 ⟨rfl, rfl⟩ ⟨Nat.le_of_ble_eq_true rfl, Nat.le_of_ble_eq_true rfl⟩ rfl hl.1 rfl (Nat.le_of_ble_eq_true rfl) dX11_isIs_16 ⟨Nat.zero_le _, Nat.zero_le _⟩) (fun H locs hR hS => ?_)
    refine lv_if_eq (tgt := 26) hx hb dX11_isIs_19 (by decide) (fun c7 => ?_) (fun c7 => ?_)
    · have h := ite_t c7 h
      refine lv_iconst (v := 0) hx hb dX11_isIs_26 (by decide) ?_
      exact g_zret C hR hS bz0 h dX11_isIs_27
    · have h := ite_f c7 h
      exact hJ22  _ _ _ _  hR hS (lv_sub hl [] rfl) h
