/-! OneVoice$Sayer.sumUp()V -/
abbrev rm_X6_sumUp : Room := { frames := 0, cells := 0, slots := 0, locals := 0 }
theorem m_X6_sumUp : MV yX6_sumUp RX6 cX6_sumUp 3 none 0 := ⟨q504, q5, q70, q505, by decide +kernel⟩
def f_X6_sumUp_L13 (K101 : St → Option (Unit × St))  : Nat → Int32 → St → Option (Unit × St)
  | 0, _, _ => none
  | f + 1, v1, S =>
    if (rd S 3 6) ≤ v1 then
      K101  S
    else
      gd_ (inb v1 100) <|
      lt_ (rd S 5 (Int32.toNatClampNeg v1)) fun x18 =>
      gd_ (inb x18 100) <|
      lt_ (fun  (S20 : St) =>
          lt_ (v1 + (1 : Int32)) fun x21 =>
          f_X6_sumUp_L13 K101 f x21 S20) fun J95 =>
      if (rd S 3 14) ≤ (rd S 11 (Int32.toNatClampNeg x18)) then
        gd_ (inb x18 100) <|
        if (rd S 11 (Int32.toNatClampNeg x18)) = (rd S 3 14) then
          gd_ (inb x18 100) <|
          lt_ (wr S 3 15 (((rd S 3 15) + (rd S 12 (Int32.toNatClampNeg x18))) - ((rd S 3 15) + (rd S 12 (Int32.toNatClampNeg x18))) / (1000000007 : Int32) * (1000000007 : Int32))) fun S26 =>
          J95  S26
        else
          J95  S
      else
        gd_ (inb x18 100) <|
        lt_ (wr S 3 14 (rd S 11 (Int32.toNatClampNeg x18))) fun S28 =>
        gd_ (inb x18 100) <|
        lt_ (wr S28 3 15 (rd S28 12 (Int32.toNatClampNeg x18))) fun S30 =>
        J95  S30

def f_X6_sumUp  (S : St) : Option (Unit × St) :=
  lt_ (wr S 3 14 (1000000 : Int32)) fun S14 =>
  lt_ (wr S14 3 15 (0 : Int32)) fun S15 =>
  f_X6_sumUp_L13
    (fun  (S31 : St) =>
      some ((), S31))
     FU (0 : Int32) S15

set_option maxHeartbeats 4000000 in
set_option maxRecDepth 100000 in
theorem w_X6_sumUp_L13 {p : Program} {l : Launch} {e : Env} {s : State} {m : MethodId} {args : Array Value} {below : List Frame} {meth : Method} {c : Code} {E : En} {α : Nat → Nat} {g : Nat × Nat} (C : Cx p s m args meth c RX6 cX6_sumUp 3 none E) {z : Unit × St} {K101 : St → Option (Unit × St)}
    (hK101 : ∀ (S : St) (H : Heap) (locs : List Loc) (ls : Array Slot), Rp E α g S H → va_S E.2.2.1 s.heap H locs → lv_has ls 3 [] → K101  S = some z → W p l e rm_X6_sumUp s m args below meth c H locs 0 0 (MQ below (Qv E α g z) args s 0 0 E.2.2.1) (F0 m 101 ls [])) :
    ∀ (f : Nat) (v1 : Int32) (S : St) (H : Heap) (locs : List Loc) (ls : Array Slot), Rp E α g S H → va_S E.2.2.1 s.heap H locs → lv_has ls 3 [(0, .ref (α 3)), (1, .int v1)] → f_X6_sumUp_L13 K101 f v1 S = some z → W p l e rm_X6_sumUp s m args below meth c H locs 0 0 (MQ below (Qv E α g z) args s 0 0 E.2.2.1) (F0 m 13 ls []) := by
  obtain ⟨hx, hb, hml, hown, hts, hlk, hrt, hKs⟩ := id C
  intro f
  induction f with
  | zero =>
    intro v1 S H locs ls  hR hS hl h
    rw [f_X6_sumUp_L13] at h
    cases h
  | succ f ih =>
    intro v1 S H locs ls  hR hS hl h
    rw [f_X6_sumUp_L13] at h
    refine lv_iload_n hx hb dX6_sumUp_13 rfl (lv_at hl 1 rfl) ?_
    refine lv_aload_n hx hb dX6_sumUp_14 rfl (lv_at hl 0 rfl) ?_
    refine g_geti C hR (k := 3) (j := 6) (live_st (by decide)) rfl rfl (vw6) inl6 (by decide) q127 dX6_sumUp_15 ?_
    refine lv_icmp_ge (tgt := 101) hx hb dX6_sumUp_18 (by decide) (fun c16 => ?_) (fun c16 => ?_)
    · have h := ite_t c16 h
      exact hK101  _ _ _ _  hR hS (lv_sub hl [] rfl) h
    · have h := ite_f c16 h
      refine lv_aload_n hx hb dX6_sumUp_21 rfl (lv_at hl 0 rfl) ?_
      refine g_getr (t := 5) C hR (k := 3) (j := 5) (live_st (by decide)) rfl rfl (vw6) inl6 (by decide) q126 dX6_sumUp_22 ?_
      refine lv_iload_n hx hb dX6_sumUp_25 rfl (lv_at hl 1 rfl) ?_
      obtain ⟨g17, h⟩ := gd_e h
      refine g_iald C hR (k := 5) (n := 100) (live_st (by decide)) rfl g17 dX6_sumUp_26 ?_
      obtain ⟨x18, ex18, h⟩ := lt_e h
      refine g_nmi ex18 ?_
      refine lv_istore_n (lv' := [(2, .int x18), (0, .ref (α 3)), (1, .int v1)]) hx hb dX6_sumUp_27 rfl hl (by decide) rfl (fun ls hl => ?_)
      refine lv_aload_n hx hb dX6_sumUp_28 rfl (lv_at hl 1 rfl) ?_
      refine g_getr (t := 11) C hR (k := 3) (j := 12) (live_st (by decide)) rfl rfl (vw6) inl6 (by decide) q133 dX6_sumUp_29 ?_
      refine lv_iload_n hx hb dX6_sumUp_32 rfl (lv_at hl 0 rfl) ?_
      obtain ⟨g19, h⟩ := gd_e h
      refine g_iald C hR (k := 11) (n := 100) (live_st (by decide)) rfl g19 dX6_sumUp_33 ?_
      refine lv_aload_n hx hb dX6_sumUp_34 rfl (lv_at hl 1 rfl) ?_
      refine g_geti C hR (k := 3) (j := 14) (live_st (by decide)) rfl rfl (vw6) inl6 (by decide) q135 dX6_sumUp_35 ?_
      obtain ⟨J95, eJ95, h⟩ := lt_e h
      have hJ95 : ∀ (S20 : St) (H : Heap) (locs : List Loc) (ls : Array Slot), Rp E α g S20 H → va_S E.2.2.1 s.heap H locs → lv_has ls 3 [(0, .ref (α 3)), (1, .int v1)] → J95  S20 = some z → W p l e rm_X6_sumUp s m args below meth c H locs 0 0 (MQ below (Qv E α g z) args s 0 0 E.2.2.1) (F0 m 95 ls []) := by
        intro  S20 H locs ls  hR hS hl h
        rw [eJ95] at h
        obtain ⟨x21, ex21, h⟩ := lt_e h
        refine lv_iinc (v := x21) (lv' := [(1, .int x21), (0, .ref (α 3))]) hx hb dX6_sumUp_95 hl (k := 1) rfl (by rw [ex21]; rfl) (by decide) rfl (fun ls hl => ?_)
        refine lv_goto (tgt := 13) hx hb dX6_sumUp_98 (by decide) ?_
        exact ih _ _ _ _ _  hR hS (lv_sub hl [1, 0] rfl) h
      clear eJ95
      refine lv_icmp_ge (tgt := 64) hx hb dX6_sumUp_38 (by decide) (fun c22 => ?_) (fun c22 => ?_)
      · have h := ite_t c22 h
        refine lv_aload_n hx hb dX6_sumUp_64 rfl (lv_at hl 1 rfl) ?_
        refine g_getr (t := 11) C hR (k := 3) (j := 12) (live_st (by decide)) rfl rfl (vw6) inl6 (by decide) q133 dX6_sumUp_65 ?_
        refine lv_iload_n hx hb dX6_sumUp_68 rfl (lv_at hl 0 rfl) ?_
        obtain ⟨g23, h⟩ := gd_e h
        refine g_iald C hR (k := 11) (n := 100) (live_st (by decide)) rfl g23 dX6_sumUp_69 ?_
        refine lv_aload_n hx hb dX6_sumUp_70 rfl (lv_at hl 1 rfl) ?_
        refine g_geti C hR (k := 3) (j := 14) (live_st (by decide)) rfl rfl (vw6) inl6 (by decide) q135 dX6_sumUp_71 ?_
        refine lv_icmp_ne (tgt := 95) hx hb dX6_sumUp_74 (by decide) (fun c24 => ?_) (fun c24 => ?_)
        · have h := ite_f c24 h
          exact hJ95  _ _ _ _  hR hS (lv_sub hl [1, 2] rfl) h
        · have h := ite_t c24 h
          refine lv_aload_n hx hb dX6_sumUp_77 rfl (lv_at hl 1 rfl) ?_
          refine lv_aload_n hx hb dX6_sumUp_78 rfl (lv_at hl 1 rfl) ?_
          refine g_geti C hR (k := 3) (j := 15) (live_st (by decide)) rfl rfl (vw6) inl6 (by decide) q137 dX6_sumUp_79 ?_
          refine lv_aload_n hx hb dX6_sumUp_82 rfl (lv_at hl 1 rfl) ?_
          refine g_getr (t := 12) C hR (k := 3) (j := 13) (live_st (by decide)) rfl rfl (vw6) inl6 (by decide) q134 dX6_sumUp_83 ?_
          refine lv_iload_n hx hb dX6_sumUp_86 rfl (lv_at hl 0 rfl) ?_
          obtain ⟨g25, h⟩ := gd_e h
          refine g_iald C hR (k := 12) (n := 100) (live_st (by decide)) rfl g25 dX6_sumUp_87 ?_
          refine lv_iadd hx hb dX6_sumUp_88 ?_
          refine lv_ldc (v := 1000000007) hx hb hown (hts _ q489) dX6_sumUp_89 ?_
          refine lv_irem hx hb dX6_sumUp_91 (by decide) ?_
          obtain ⟨S26, eS26, h⟩ := lt_e h
          refine g_puti C hR hS (k := 3) (j := 15) (live_st (by decide)) rfl rfl (vw6) inl6 (by decide) (ty0 := tyX6) tyX6_ok nmX6 q137 rfl rfl rfl eS26 dX6_sumUp_92 (fun H locs hR hS => ?_)
          exact hJ95  _ _ _ _  hR hS (lv_sub hl [1, 2] rfl) h
      · have h := ite_f c22 h
        refine lv_aload_n hx hb dX6_sumUp_41 rfl (lv_at hl 1 rfl) ?_
        refine lv_aload_n hx hb dX6_sumUp_42 rfl (lv_at hl 1 rfl) ?_
        refine g_getr (t := 11) C hR (k := 3) (j := 12) (live_st (by decide)) rfl rfl (vw6) inl6 (by decide) q133 dX6_sumUp_43 ?_
        refine lv_iload_n hx hb dX6_sumUp_46 rfl (lv_at hl 0 rfl) ?_
        obtain ⟨g27, h⟩ := gd_e h
        refine g_iald C hR (k := 11) (n := 100) (live_st (by decide)) rfl g27 dX6_sumUp_47 ?_
        obtain ⟨S28, eS28, h⟩ := lt_e h
        refine g_puti C hR hS (k := 3) (j := 14) (live_st (by decide)) rfl rfl (vw6) inl6 (by decide) (ty0 := tyX6) tyX6_ok nmX6 q135 rfl rfl rfl eS28 dX6_sumUp_48 (fun H locs hR hS => ?_)
        refine lv_aload_n hx hb dX6_sumUp_51 rfl (lv_at hl 1 rfl) ?_
        refine lv_aload_n hx hb dX6_sumUp_52 rfl (lv_at hl 1 rfl) ?_
        refine g_getr (t := 12) C hR (k := 3) (j := 13) (live_st (by decide)) rfl rfl (vw6) inl6 (by decide) q134 dX6_sumUp_53 ?_
        refine lv_iload_n hx hb dX6_sumUp_56 rfl (lv_at hl 0 rfl) ?_
        obtain ⟨g29, h⟩ := gd_e h
        refine g_iald C hR (k := 12) (n := 100) (live_st (by decide)) rfl g29 dX6_sumUp_57 ?_
        obtain ⟨S30, eS30, h⟩ := lt_e h
        refine g_puti C hR hS (k := 3) (j := 15) (live_st (by decide)) rfl rfl (vw6) inl6 (by decide) (ty0 := tyX6) tyX6_ok nmX6 q137 rfl rfl rfl eS30 dX6_sumUp_58 (fun H locs hR hS => ?_)
        refine lv_goto (tgt := 95) hx hb dX6_sumUp_61 (by decide) ?_
        exact hJ95  _ _ _ _  hR hS (lv_sub hl [1, 2] rfl) h

set_option maxHeartbeats 4000000 in
set_option maxRecDepth 100000 in
theorem c_X6_sumUp (l : Launch) {E : En} {α : Nat → Nat} {g : Nat × Nat}  {S : St}  {z : Unit × St} (h : f_X6_sumUp  S = some z) : Met l yX6_sumUp (wsY yX6_sumUp cX6_sumUp 3 none) rm_X6_sumUp (va_Pc [.ref (α 3)] (Wd E α g S)) (Qv E α g z) 0 0 E.2.2.1 := by
  refine g_met [.ref (α 3)] (by decide) rfl (Nat.le_of_ble_eq_true rfl) ?_
  intro p e s m below meth c ls C hR hl
  generalize hae : ([.ref (α 3)] : List Value).toArray = args at C ⊢
  have hl : lv_has ls 3 [(0, .ref (α 3))] := hl
  obtain ⟨hx, hb, hml, hown, hts, hlk, hrt, hKs⟩ := id C
  have hS : va_S E.2.2.1 s.heap s.heap [] := va_S.rf
  unfold f_X6_sumUp at h
  refine lv_aload_n hx hb dX6_sumUp_0 rfl (lv_at hl 0 rfl) ?_
  refine lv_ldc (v := 1000000) hx hb hown (hts _ q473) dX6_sumUp_1 ?_
  obtain ⟨S14, eS14, h⟩ := lt_e h
  refine g_puti C hR hS (k := 3) (j := 14) (live_st (by decide)) rfl rfl (vw6) inl6 (by decide) (ty0 := tyX6) tyX6_ok nmX6 q135 rfl rfl rfl eS14 dX6_sumUp_3 (fun H locs hR hS => ?_)
  refine lv_aload_n hx hb dX6_sumUp_6 rfl (lv_at hl 0 rfl) ?_
  refine lv_iconst (v := 0) hx hb dX6_sumUp_7 (by decide) ?_
  obtain ⟨S15, eS15, h⟩ := lt_e h
  refine g_puti C hR hS (k := 3) (j := 15) (live_st (by decide)) rfl rfl (vw6) inl6 (by decide) (ty0 := tyX6) tyX6_ok nmX6 q137 rfl rfl rfl eS15 dX6_sumUp_8 (fun H locs hR hS => ?_)
  refine lv_iconst (v := 0) hx hb dX6_sumUp_11 (by decide) ?_
  refine lv_istore_n (lv' := [(1, .int (0 : Int32)), (0, .ref (α 3))]) hx hb dX6_sumUp_12 rfl hl (by decide) rfl (fun ls hl => ?_)
  refine w_X6_sumUp_L13 C ?_  _ _ _ _ _ _  hR hS (lv_sub hl [1, 0] rfl) h
  · intro  S31 H locs ls  hR hS hl h
    exact g_vret C hR hS h dX6_sumUp_101

/-! OneVoice$Sayer.weigh(IJI)V -/
abbrev rm_X6_weigh : Room := { frames := 2, cells := 0, slots := 0, locals := 52 }
theorem m_X6_weigh : MV yX6_weigh RX6 cX6_weigh 7 none 3 := ⟨q463, q464, q70, q465, by decide +kernel⟩
def f_X6_weigh_L14 (K51 : St → Option (Unit × St)) (v1 : Int32) (v2 : Int64) (v4 : Int32) : Nat → Int32 → St → Option (Unit × St)
  | 0, _, _ => none
  | f + 1, v5, S =>
    if v4 ≤ v5 then
      K51  S
    else
      if (16 : Int32) ≤ v5 then
        K51  S
      else
        gd_ (inb v5 16) <|
        lt_ (wr S 4 (Int32.toNatClampNeg v5) ((Int64.toInt32 (lushrv v2 ((4 : Int32) * v5))) &&& (15 : Int32))) fun S24 =>
        lt_ (v5 + (1 : Int32)) fun x26 =>
        f_X6_weigh_L14 K51 v1 v2 v4 f x26 S24

def f_X6_weigh_L75 (K128 : St → Option (Unit × St)) (v1 : Int32) (v4 : Int32) : Nat → Int32 → St → Option (Unit × St)
  | 0, _, _ => none
  | f + 1, v5, S =>
    if (rd S 3 6) ≤ v5 then
      K128  S
    else
      gd_ (inb v5 100) <|
      gd_ (inb ((v4 * (100 : Int32)) + (rd S 5 (Int32.toNatClampNeg v5))) 1700) <|
      lt_ (wr S 7 (Int32.toNatClampNeg ((v4 * (100 : Int32)) + (rd S 5 (Int32.toNatClampNeg v5)))) (0 : Int32)) fun S36 =>
      gd_ (inb v5 100) <|
      gd_ (inb ((v4 * (100 : Int32)) + (rd S36 5 (Int32.toNatClampNeg v5))) 1700) <|
      lt_ (wr S36 8 (Int32.toNatClampNeg ((v4 * (100 : Int32)) + (rd S36 5 (Int32.toNatClampNeg v5)))) (1 : Int32)) fun S39 =>
      lt_ (v5 + (1 : Int32)) fun x41 =>
      f_X6_weigh_L75 K128 v1 v4 f x41 S39

def f_X6_weigh_L142 (K184 : St → Option (Unit × St)) (v1 : Int32) (v5 : Int32) : Nat → Int32 → St → Option (Unit × St)
  | 0, _, _ => none
  | f + 1, v6, S =>
    if (rd S 3 6) ≤ v6 then
      K184  S
    else
      gd_ (inb v6 100) <|
      gd_ (inb (rd S 5 (Int32.toNatClampNeg v6)) 100) <|
      lt_ (wr S 11 (Int32.toNatClampNeg (rd S 5 (Int32.toNatClampNeg v6))) (1000000 : Int32)) fun S47 =>
      gd_ (inb v6 100) <|
      gd_ (inb (rd S47 5 (Int32.toNatClampNeg v6)) 100) <|
      lt_ (wr S47 12 (Int32.toNatClampNeg (rd S47 5 (Int32.toNatClampNeg v6))) (0 : Int32)) fun S50 =>
      lt_ (v6 + (1 : Int32)) fun x52 =>
      f_X6_weigh_L142 K184 v1 v5 f x52 S50

def f_X6_weigh_L187 (K230 : St → Option (Unit × St)) (v1 : Int32) (v5 : Int32) : Nat → Int32 → St → Option (Unit × St)
  | 0, _, _ => none
  | f + 1, v6, S =>
    if (rd S 1 1) ≤ v6 then
      K230  S
    else
      gd_ (inb v6 16 ∧ (Int32.toNatClampNeg v6) < nP S) <|
      lt_ (fun  (S57 : St) =>
          lt_ (v6 + (1 : Int32)) fun x58 =>
          f_X6_weigh_L187 K230 v1 v5 f x58 S57) fun J224 =>
      if (rd S (200 + 2 * (Int32.toNatClampNeg v6)) 2) = v1 then
        bd_ (f_X6_weighPiece v6 v5 S) fun r60 S61 =>
        J224  S61
      else
        J224  S

def f_X6_weigh_L134 (K259 : St → Option (Unit × St)) (v1 : Int32) : Nat → Int32 → St → Option (Unit × St)
  | 0, _, _ => none
  | f + 1, v5, S =>
    if v5 < 0 then
      K259  S
    else
      f_X6_weigh_L142
        (fun  (S53 : St) =>
          f_X6_weigh_L187
            (fun  (S62 : St) =>
              lt_ (fun  (S63 : St) =>
                  lt_ (v5 + (-1 : Int32)) fun x64 =>
                  f_X6_weigh_L134 K259 v1 f x64 S63) fun J253 =>
              if v5 ≤ 0 then
                J253  S62
              else
                bd_ (f_X6_carryUp (v5 * (100 : Int32)) S62) fun r66 S67 =>
                bd_ (f_X6_carryDown (v5 * (100 : Int32)) S67) fun r68 S69 =>
                J253  S69)
            v1 v5 FU (0 : Int32) S53)
        v1 v5 FU (0 : Int32) S

def f_X6_weigh (v1 : Int32) (v2 : Int64) (v4 : Int32) (S : St) : Option (Unit × St) :=
  lt_ (wr S 3 3 v1) fun S20 =>
  lt_ (wr S20 3 2 v4) fun S21 =>
  f_X6_weigh_L14
    (fun  (S27 : St) =>
      bd_ (f_X6_gatherTones  S27) fun r28 S29 =>
      bd_ (f_J7_fill_53178 9 (1000000 : Int32) S29) fun r30 S31 =>
      bd_ (f_J7_fill_53178 10 (0 : Int32) S31) fun r32 S33 =>
      f_X6_weigh_L75
        (fun  (S42 : St) =>
          lt_ (v4 - (1 : Int32)) fun x43 =>
          f_X6_weigh_L134
            (fun  (S70 : St) =>
              bd_ (f_X6_sumUp  S70) fun r71 S72 =>
              some ((), S72))
            v1 FU x43 S42)
        v1 v4 FU (0 : Int32) S33)
    v1 v2 v4 FU (0 : Int32) S21

set_option maxHeartbeats 4000000 in
set_option maxRecDepth 100000 in
theorem w_X6_weigh_L14 {p : Program} {l : Launch} {e : Env} {s : State} {m : MethodId} {args : Array Value} {below : List Frame} {meth : Method} {c : Code} {E : En} {α : Nat → Nat} {g : Nat × Nat} (C : Cx p s m args meth c RX6 cX6_weigh 7 none E) {z : Unit × St} {K51 : St → Option (Unit × St)} {v1 : Int32} {v2 : Int64} {v4 : Int32}
    (hK51 : ∀ (S : St) (H : Heap) (locs : List Loc) (ls : Array Slot), Rp E α g S H → va_S E.2.2.1 s.heap H locs → lv_has ls 7 [(0, .ref (α 3)), (1, .int v1), (4, .int v4)] → K51  S = some z → W p l e rm_X6_weigh s m args below meth c H locs 0 0 (MQ below (Qv E α g z) args s 0 0 E.2.2.1) (F0 m 51 ls [])) :
    ∀ (f : Nat) (v5 : Int32) (S : St) (H : Heap) (locs : List Loc) (ls : Array Slot), Rp E α g S H → va_S E.2.2.1 s.heap H locs → lv_has ls 7 [(0, .ref (α 3)), (1, .int v1), (2, .long v2), (4, .int v4), (5, .int v5)] → f_X6_weigh_L14 K51 v1 v2 v4 f v5 S = some z → W p l e rm_X6_weigh s m args below meth c H locs 0 0 (MQ below (Qv E α g z) args s 0 0 E.2.2.1) (F0 m 14 ls []) := by
  obtain ⟨hx, hb, hml, hown, hts, hlk, hrt, hKs⟩ := id C
  intro f
  induction f with
  | zero =>
    intro v5 S H locs ls  hR hS hl h
    rw [f_X6_weigh_L14] at h
    cases h
  | succ f ih =>
    intro v5 S H locs ls  hR hS hl h
    rw [f_X6_weigh_L14] at h
    refine lv_iload hx hb dX6_weigh_14 (lv_at hl 4 rfl) ?_
    refine lv_iload hx hb dX6_weigh_16 (lv_at hl 3 rfl) ?_
    refine lv_icmp_ge (tgt := 51) hx hb dX6_weigh_18 (by decide) (fun c22 => ?_) (fun c22 => ?_)
    · have h := ite_t c22 h
      exact hK51  _ _ _ _  hR hS (lv_sub hl [0, 1, 3] rfl) h
    · have h := ite_f c22 h
      refine lv_iload hx hb dX6_weigh_21 (lv_at hl 4 rfl) ?_
      refine lv_bipush (v := 16) hx hb dX6_weigh_23 (by decide) ?_
      refine lv_icmp_ge (tgt := 51) hx hb dX6_weigh_25 (by decide) (fun c23 => ?_) (fun c23 => ?_)
      · have h := ite_t c23 h
        exact hK51  _ _ _ _  hR hS (lv_sub hl [0, 1, 3] rfl) h
      · have h := ite_f c23 h
        refine lv_aload_n hx hb dX6_weigh_28 rfl (lv_at hl 0 rfl) ?_
        refine g_getr (t := 4) C hR (k := 3) (j := 1) (live_st (by decide)) rfl rfl (vw6) inl6 (by decide) q121 dX6_weigh_29 ?_
        refine lv_iload hx hb dX6_weigh_32 (lv_at hl 4 rfl) ?_
        refine lv_lload_n hx hb dX6_weigh_34 rfl (lv_at hl 2 rfl) ?_
        refine lv_iconst (v := 4) hx hb dX6_weigh_35 (by decide) ?_
        refine lv_iload hx hb dX6_weigh_36 (lv_at hl 4 rfl) ?_
        refine lv_imul hx hb dX6_weigh_38 ?_
        refine lv_lushr (v := lushrv v2 ((4 : Int32) * v5)) hx hb dX6_weigh_39 rfl ?_
        refine lv_l2i (v := Int64.toInt32 (lushrv v2 ((4 : Int32) * v5))) hx hb dX6_weigh_40 rfl ?_
        refine lv_bipush (v := 15) hx hb dX6_weigh_41 (by decide) ?_
        refine lv_iand hx hb dX6_weigh_43 ?_
        obtain ⟨g25, h⟩ := gd_e h
        obtain ⟨S24, eS24, h⟩ := lt_e h
        refine g_iast C hR hS (k := 4) (n := 16) (live_st (by decide)) rfl g25 eS24 dX6_weigh_44 (fun H locs hR hS => ?_)
        obtain ⟨x26, ex26, h⟩ := lt_e h
        refine lv_iinc (v := x26) (lv' := [(5, .int x26), (0, .ref (α 3)), (1, .int v1), (2, .long v2), (4, .int v4)]) hx hb dX6_weigh_45 hl (k := 4) rfl (by rw [ex26]; rfl) (by decide) rfl (fun ls hl => ?_)
        refine lv_goto (tgt := 14) hx hb dX6_weigh_48 (by decide) ?_
        exact ih _ _ _ _ _  hR hS (lv_sub hl [1, 2, 3, 4, 0] rfl) h

set_option maxHeartbeats 4000000 in
set_option maxRecDepth 100000 in
theorem w_X6_weigh_L75 {p : Program} {l : Launch} {e : Env} {s : State} {m : MethodId} {args : Array Value} {below : List Frame} {meth : Method} {c : Code} {E : En} {α : Nat → Nat} {g : Nat × Nat} (C : Cx p s m args meth c RX6 cX6_weigh 7 none E) {z : Unit × St} {K128 : St → Option (Unit × St)} {v1 : Int32} {v4 : Int32}
    (hK128 : ∀ (S : St) (H : Heap) (locs : List Loc) (ls : Array Slot), Rp E α g S H → va_S E.2.2.1 s.heap H locs → lv_has ls 7 [(0, .ref (α 3)), (1, .int v1), (4, .int v4)] → K128  S = some z → W p l e rm_X6_weigh s m args below meth c H locs 0 0 (MQ below (Qv E α g z) args s 0 0 E.2.2.1) (F0 m 128 ls [])) :
    ∀ (f : Nat) (v5 : Int32) (S : St) (H : Heap) (locs : List Loc) (ls : Array Slot), Rp E α g S H → va_S E.2.2.1 s.heap H locs → lv_has ls 7 [(0, .ref (α 3)), (1, .int v1), (4, .int v4), (5, .int v5)] → f_X6_weigh_L75 K128 v1 v4 f v5 S = some z → W p l e rm_X6_weigh s m args below meth c H locs 0 0 (MQ below (Qv E α g z) args s 0 0 E.2.2.1) (F0 m 75 ls []) := by
  obtain ⟨hx, hb, hml, hown, hts, hlk, hrt, hKs⟩ := id C
  intro f
  induction f with
  | zero =>
    intro v5 S H locs ls  hR hS hl h
    rw [f_X6_weigh_L75] at h
    cases h
  | succ f ih =>
    intro v5 S H locs ls  hR hS hl h
    rw [f_X6_weigh_L75] at h
    refine lv_iload hx hb dX6_weigh_75 (lv_at hl 3 rfl) ?_
    refine lv_aload_n hx hb dX6_weigh_77 rfl (lv_at hl 0 rfl) ?_
    refine g_geti C hR (k := 3) (j := 6) (live_st (by decide)) rfl rfl (vw6) inl6 (by decide) q127 dX6_weigh_78 ?_
    refine lv_icmp_ge (tgt := 128) hx hb dX6_weigh_81 (by decide) (fun c34 => ?_) (fun c34 => ?_)
    · have h := ite_t c34 h
      exact hK128  _ _ _ _  hR hS (lv_sub hl [0, 1, 2] rfl) h
    · have h := ite_f c34 h
      refine lv_aload_n hx hb dX6_weigh_84 rfl (lv_at hl 0 rfl) ?_
      refine g_getr (t := 7) C hR (k := 3) (j := 8) (live_st (by decide)) rfl rfl (vw6) inl6 (by decide) q129 dX6_weigh_85 ?_
      refine lv_iload hx hb dX6_weigh_88 (lv_at hl 2 rfl) ?_
      refine lv_bipush (v := 100) hx hb dX6_weigh_90 (by decide) ?_
      refine lv_imul hx hb dX6_weigh_92 ?_
      refine lv_aload_n hx hb dX6_weigh_93 rfl (lv_at hl 0 rfl) ?_
      refine g_getr (t := 5) C hR (k := 3) (j := 5) (live_st (by decide)) rfl rfl (vw6) inl6 (by decide) q126 dX6_weigh_94 ?_
      refine lv_iload hx hb dX6_weigh_97 (lv_at hl 3 rfl) ?_
      obtain ⟨g35, h⟩ := gd_e h
      refine g_iald C hR (k := 5) (n := 100) (live_st (by decide)) rfl g35 dX6_weigh_99 ?_
      refine lv_iadd hx hb dX6_weigh_100 ?_
      refine lv_iconst (v := 0) hx hb dX6_weigh_101 (by decide) ?_
      obtain ⟨g37, h⟩ := gd_e h
      obtain ⟨S36, eS36, h⟩ := lt_e h
      refine g_iast C hR hS (k := 7) (n := 1700) (live_st (by decide)) rfl g37 eS36 dX6_weigh_102 (fun H locs hR hS => ?_)
      refine lv_aload_n hx hb dX6_weigh_103 rfl (lv_at hl 0 rfl) ?_
      refine g_getr (t := 8) C hR (k := 3) (j := 9) (live_st (by decide)) rfl rfl (vw6) inl6 (by decide) q130 dX6_weigh_104 ?_
      refine lv_iload hx hb dX6_weigh_107 (lv_at hl 2 rfl) ?_
      refine lv_bipush (v := 100) hx hb dX6_weigh_109 (by decide) ?_
      refine lv_imul hx hb dX6_weigh_111 ?_
      refine lv_aload_n hx hb dX6_weigh_112 rfl (lv_at hl 0 rfl) ?_
      refine g_getr (t := 5) C hR (k := 3) (j := 5) (live_st (by decide)) rfl rfl (vw6) inl6 (by decide) q126 dX6_weigh_113 ?_
      refine lv_iload hx hb dX6_weigh_116 (lv_at hl 3 rfl) ?_
      obtain ⟨g38, h⟩ := gd_e h
      refine g_iald C hR (k := 5) (n := 100) (live_st (by decide)) rfl g38 dX6_weigh_118 ?_
      refine lv_iadd hx hb dX6_weigh_119 ?_
      refine lv_iconst (v := 1) hx hb dX6_weigh_120 (by decide) ?_
      obtain ⟨g40, h⟩ := gd_e h
      obtain ⟨S39, eS39, h⟩ := lt_e h
      refine g_iast C hR hS (k := 8) (n := 1700) (live_st (by decide)) rfl g40 eS39 dX6_weigh_121 (fun H locs hR hS => ?_)
      obtain ⟨x41, ex41, h⟩ := lt_e h
      refine lv_iinc (v := x41) (lv' := [(5, .int x41), (0, .ref (α 3)), (1, .int v1), (4, .int v4)]) hx hb dX6_weigh_122 hl (k := 3) rfl (by rw [ex41]; rfl) (by decide) rfl (fun ls hl => ?_)
      refine lv_goto (tgt := 75) hx hb dX6_weigh_125 (by decide) ?_
      exact ih _ _ _ _ _  hR hS (lv_sub hl [1, 2, 3, 0] rfl) h

set_option maxHeartbeats 4000000 in
set_option maxRecDepth 100000 in
theorem w_X6_weigh_L142 {p : Program} {l : Launch} {e : Env} {s : State} {m : MethodId} {args : Array Value} {below : List Frame} {meth : Method} {c : Code} {E : En} {α : Nat → Nat} {g : Nat × Nat} (C : Cx p s m args meth c RX6 cX6_weigh 7 none E) {z : Unit × St} {K184 : St → Option (Unit × St)} {v1 : Int32} {v5 : Int32}
    (hK184 : ∀ (S : St) (H : Heap) (locs : List Loc) (ls : Array Slot), Rp E α g S H → va_S E.2.2.1 s.heap H locs → lv_has ls 7 [(0, .ref (α 3)), (1, .int v1), (5, .int v5)] → K184  S = some z → W p l e rm_X6_weigh s m args below meth c H locs 0 0 (MQ below (Qv E α g z) args s 0 0 E.2.2.1) (F0 m 184 ls [])) :
    ∀ (f : Nat) (v6 : Int32) (S : St) (H : Heap) (locs : List Loc) (ls : Array Slot), Rp E α g S H → va_S E.2.2.1 s.heap H locs → lv_has ls 7 [(0, .ref (α 3)), (1, .int v1), (5, .int v5), (6, .int v6)] → f_X6_weigh_L142 K184 v1 v5 f v6 S = some z → W p l e rm_X6_weigh s m args below meth c H locs 0 0 (MQ below (Qv E α g z) args s 0 0 E.2.2.1) (F0 m 142 ls []) := by
  obtain ⟨hx, hb, hml, hown, hts, hlk, hrt, hKs⟩ := id C
  intro f
  induction f with
  | zero =>
    intro v6 S H locs ls  hR hS hl h
    rw [f_X6_weigh_L142] at h
    cases h
  | succ f ih =>
    intro v6 S H locs ls  hR hS hl h
    rw [f_X6_weigh_L142] at h
    refine lv_iload hx hb dX6_weigh_142 (lv_at hl 3 rfl) ?_
    refine lv_aload_n hx hb dX6_weigh_144 rfl (lv_at hl 0 rfl) ?_
    refine g_geti C hR (k := 3) (j := 6) (live_st (by decide)) rfl rfl (vw6) inl6 (by decide) q127 dX6_weigh_145 ?_
    refine lv_icmp_ge (tgt := 184) hx hb dX6_weigh_148 (by decide) (fun c45 => ?_) (fun c45 => ?_)
    · have h := ite_t c45 h
      exact hK184  _ _ _ _  hR hS (lv_sub hl [0, 1, 2] rfl) h
    · have h := ite_f c45 h
      refine lv_aload_n hx hb dX6_weigh_151 rfl (lv_at hl 0 rfl) ?_
      refine g_getr (t := 11) C hR (k := 3) (j := 12) (live_st (by decide)) rfl rfl (vw6) inl6 (by decide) q133 dX6_weigh_152 ?_
      refine lv_aload_n hx hb dX6_weigh_155 rfl (lv_at hl 0 rfl) ?_
      refine g_getr (t := 5) C hR (k := 3) (j := 5) (live_st (by decide)) rfl rfl (vw6) inl6 (by decide) q126 dX6_weigh_156 ?_
      refine lv_iload hx hb dX6_weigh_159 (lv_at hl 3 rfl) ?_
      obtain ⟨g46, h⟩ := gd_e h
      refine g_iald C hR (k := 5) (n := 100) (live_st (by decide)) rfl g46 dX6_weigh_161 ?_
      refine lv_ldc (v := 1000000) hx hb hown (hts _ q473) dX6_weigh_162 ?_
      obtain ⟨g48, h⟩ := gd_e h
      obtain ⟨S47, eS47, h⟩ := lt_e h
      refine g_iast C hR hS (k := 11) (n := 100) (live_st (by decide)) rfl g48 eS47 dX6_weigh_164 (fun H locs hR hS => ?_)
      refine lv_aload_n hx hb dX6_weigh_165 rfl (lv_at hl 0 rfl) ?_
      refine g_getr (t := 12) C hR (k := 3) (j := 13) (live_st (by decide)) rfl rfl (vw6) inl6 (by decide) q134 dX6_weigh_166 ?_
      refine lv_aload_n hx hb dX6_weigh_169 rfl (lv_at hl 0 rfl) ?_
      refine g_getr (t := 5) C hR (k := 3) (j := 5) (live_st (by decide)) rfl rfl (vw6) inl6 (by decide) q126 dX6_weigh_170 ?_
      refine lv_iload hx hb dX6_weigh_173 (lv_at hl 3 rfl) ?_
      obtain ⟨g49, h⟩ := gd_e h
      refine g_iald C hR (k := 5) (n := 100) (live_st (by decide)) rfl g49 dX6_weigh_175 ?_
      refine lv_iconst (v := 0) hx hb dX6_weigh_176 (by decide) ?_
      obtain ⟨g51, h⟩ := gd_e h
      obtain ⟨S50, eS50, h⟩ := lt_e h
      refine g_iast C hR hS (k := 12) (n := 100) (live_st (by decide)) rfl g51 eS50 dX6_weigh_177 (fun H locs hR hS => ?_)
      obtain ⟨x52, ex52, h⟩ := lt_e h
      refine lv_iinc (v := x52) (lv' := [(6, .int x52), (0, .ref (α 3)), (1, .int v1), (5, .int v5)]) hx hb dX6_weigh_178 hl (k := 3) rfl (by rw [ex52]; rfl) (by decide) rfl (fun ls hl => ?_)
      refine lv_goto (tgt := 142) hx hb dX6_weigh_181 (by decide) ?_
      exact ih _ _ _ _ _  hR hS (lv_sub hl [1, 2, 3, 0] rfl) h

set_option maxHeartbeats 4000000 in
set_option maxRecDepth 100000 in
theorem w_X6_weigh_L187 {p : Program} {l : Launch} {e : Env} {s : State} {m : MethodId} {args : Array Value} {below : List Frame} {meth : Method} {c : Code} {E : En} {α : Nat → Nat} {g : Nat × Nat} (C : Cx p s m args meth c RX6 cX6_weigh 7 none E) {z : Unit × St} {K230 : St → Option (Unit × St)} {v1 : Int32} {v5 : Int32}
    (hK230 : ∀ (S : St) (H : Heap) (locs : List Loc) (ls : Array Slot), Rp E α g S H → va_S E.2.2.1 s.heap H locs → lv_has ls 7 [(0, .ref (α 3)), (1, .int v1), (5, .int v5)] → K230  S = some z → W p l e rm_X6_weigh s m args below meth c H locs 0 0 (MQ below (Qv E α g z) args s 0 0 E.2.2.1) (F0 m 230 ls [])) :
    ∀ (f : Nat) (v6 : Int32) (S : St) (H : Heap) (locs : List Loc) (ls : Array Slot), Rp E α g S H → va_S E.2.2.1 s.heap H locs → lv_has ls 7 [(0, .ref (α 3)), (1, .int v1), (5, .int v5), (6, .int v6)] → f_X6_weigh_L187 K230 v1 v5 f v6 S = some z → W p l e rm_X6_weigh s m args below meth c H locs 0 0 (MQ below (Qv E α g z) args s 0 0 E.2.2.1) (F0 m 187 ls []) := by
  obtain ⟨hx, hb, hml, hown, hts, hlk, hrt, hKs⟩ := id C
  intro f
  induction f with
  | zero =>
    intro v6 S H locs ls  hR hS hl h
    rw [f_X6_weigh_L187] at h
    cases h
  | succ f ih =>
    intro v6 S H locs ls  hR hS hl h
    rw [f_X6_weigh_L187] at h
    refine lv_iload hx hb dX6_weigh_187 (lv_at hl 3 rfl) ?_
    refine lv_aload_n hx hb dX6_weigh_189 rfl (lv_at hl 0 rfl) ?_
    refine g_getr (t := 1) C hR (k := 3) (j := 0) (live_st (by decide)) rfl rfl (vw6) inl6 (by decide) q120 dX6_weigh_190 ?_
    refine g_geti C hR (k := 1) (j := 1) (live_st (by decide)) rfl rfl (vw8) inl8 (by decide) q108 dX6_weigh_193 ?_
    refine lv_icmp_ge (tgt := 230) hx hb dX6_weigh_196 (by decide) (fun c54 => ?_) (fun c54 => ?_)
    · have h := ite_t c54 h
      exact hK230  _ _ _ _  hR hS (lv_sub hl [0, 1, 2] rfl) h
    · have h := ite_f c54 h
      refine lv_aload_n hx hb dX6_weigh_199 rfl (lv_at hl 0 rfl) ?_
      refine g_getr (t := 1) C hR (k := 3) (j := 0) (live_st (by decide)) rfl rfl (vw6) inl6 (by decide) q120 dX6_weigh_200 ?_
      refine g_getr (t := 2) C hR (k := 1) (j := 0) (live_st (by decide)) rfl rfl (vw8) inl8 (by decide) q105 dX6_weigh_203 ?_
      refine lv_iload hx hb dX6_weigh_206 (lv_at hl 3 rfl) ?_
      obtain ⟨g55, h⟩ := gd_e h
      refine g_aldP C hR g55.1 g55.2 dX6_weigh_208 (fun hn56 => ?_)
      refine g_geti C hR (k := (200 + 2 * (Int32.toNatClampNeg v6))) (j := 2) (live_p hn56) (lay_p (Nat.lt_of_lt_of_le hn56 hR.1.1)) rfl (vw3) inl3 (by decide) q391 dX6_weigh_209 ?_
      refine lv_iload_n hx hb dX6_weigh_212 rfl (lv_at hl 1 rfl) ?_
      obtain ⟨J224, eJ224, h⟩ := lt_e h
      have hJ224 : ∀ (S57 : St) (H : Heap) (locs : List Loc) (ls : Array Slot), Rp E α g S57 H → va_S E.2.2.1 s.heap H locs → lv_has ls 7 [(0, .ref (α 3)), (1, .int v1), (5, .int v5), (6, .int v6)] → J224  S57 = some z → W p l e rm_X6_weigh s m args below meth c H locs 0 0 (MQ below (Qv E α g z) args s 0 0 E.2.2.1) (F0 m 224 ls []) := by
        intro  S57 H locs ls  hR hS hl h
        rw [eJ224] at h
        obtain ⟨x58, ex58, h⟩ := lt_e h
        refine lv_iinc (v := x58) (lv' := [(6, .int x58), (0, .ref (α 3)), (1, .int v1), (5, .int v5)]) hx hb dX6_weigh_224 hl (k := 3) rfl (by rw [ex58]; rfl) (by decide) rfl (fun ls hl => ?_)
        refine lv_goto (tgt := 187) hx hb dX6_weigh_227 (by decide) ?_
        exact ih _ _ _ _ _  hR hS (lv_sub hl [1, 2, 3, 0] rfl) h
      clear eJ224
      refine lv_icmp_ne (tgt := 224) hx hb dX6_weigh_213 (by decide) (fun c59 => ?_) (fun c59 => ?_)
      · have h := ite_f c59 h
        exact hJ224  _ _ _ _  hR hS hl h
      · have h := ite_t c59 h
        refine lv_aload_n hx hb dX6_weigh_216 rfl (lv_at hl 0 rfl) ?_
        refine lv_iload hx hb dX6_weigh_217 (lv_at hl 3 rfl) ?_
        refine lv_iload hx hb dX6_weigh_219 (lv_at hl 2 rfl) ?_
        obtain ⟨r60, S61, hr60, h⟩ := bd_e h
        refine g_cv hS (g_runV C hR hS (k := 3) (As := [.int v6, .int v5]) (rest := []) (c_X6_weighPiece l  hr60) (live_st (by decide)) rfl (vw6) m_X6_weighPiece q474 ⟨rfl, rfl⟩ ⟨Nat.le_of_ble_eq_true rfl, Nat.le_of_ble_eq_true rfl⟩ rfl hl.1 rfl (Nat.le_of_ble_eq_true rfl) dX6_weigh_221 ⟨Nat.zero_le _, Nat.zero_le _⟩) (fun H locs hR hS => ?_)
        exact hJ224  _ _ _ _  hR hS hl h

set_option maxHeartbeats 4000000 in
set_option maxRecDepth 100000 in
theorem w_X6_weigh_L134 {p : Program} {l : Launch} {e : Env} {s : State} {m : MethodId} {args : Array Value} {below : List Frame} {meth : Method} {c : Code} {E : En} {α : Nat → Nat} {g : Nat × Nat} (C : Cx p s m args meth c RX6 cX6_weigh 7 none E) {z : Unit × St} {K259 : St → Option (Unit × St)} {v1 : Int32}
    (hK259 : ∀ (S : St) (H : Heap) (locs : List Loc) (ls : Array Slot), Rp E α g S H → va_S E.2.2.1 s.heap H locs → lv_has ls 7 [(0, .ref (α 3))] → K259  S = some z → W p l e rm_X6_weigh s m args below meth c H locs 0 0 (MQ below (Qv E α g z) args s 0 0 E.2.2.1) (F0 m 259 ls [])) :
    ∀ (f : Nat) (v5 : Int32) (S : St) (H : Heap) (locs : List Loc) (ls : Array Slot), Rp E α g S H → va_S E.2.2.1 s.heap H locs → lv_has ls 7 [(0, .ref (α 3)), (1, .int v1), (5, .int v5)] → f_X6_weigh_L134 K259 v1 f v5 S = some z → W p l e rm_X6_weigh s m args below meth c H locs 0 0 (MQ below (Qv E α g z) args s 0 0 E.2.2.1) (F0 m 134 ls []) := by
  obtain ⟨hx, hb, hml, hown, hts, hlk, hrt, hKs⟩ := id C
  intro f
  induction f with
  | zero =>
    intro v5 S H locs ls  hR hS hl h
    rw [f_X6_weigh_L134] at h
    cases h
  | succ f ih =>
    intro v5 S H locs ls  hR hS hl h
    rw [f_X6_weigh_L134] at h
    refine lv_iload hx hb dX6_weigh_134 (lv_at hl 2 rfl) ?_
    refine lv_if_lt (tgt := 259) hx hb dX6_weigh_136 (by decide) (fun c44 => ?_) (fun c44 => ?_)
    · have h := ite_t c44 h
      exact hK259  _ _ _ _  hR hS (lv_sub hl [0] rfl) h
    · have h := ite_f c44 h
      refine lv_iconst (v := 0) hx hb dX6_weigh_139 (by decide) ?_
      refine lv_istore (lv' := [(6, .int (0 : Int32)), (0, .ref (α 3)), (1, .int v1), (5, .int v5)]) hx hb dX6_weigh_140 hl (by decide) rfl (fun ls hl => ?_)
      refine w_X6_weigh_L142 C ?_  _ _ _ _ _ _  hR hS (lv_sub hl [1, 2, 3, 0] rfl) h
      · intro  S53 H locs ls  hR hS hl h
        refine lv_iconst (v := 0) hx hb dX6_weigh_184 (by decide) ?_
        refine lv_istore (lv' := [(6, .int (0 : Int32)), (0, .ref (α 3)), (1, .int v1), (5, .int v5)]) hx hb dX6_weigh_185 hl (by decide) rfl (fun ls hl => ?_)
        refine w_X6_weigh_L187 C ?_  _ _ _ _ _ _  hR hS (lv_sub hl [1, 2, 3, 0] rfl) h
        · intro  S62 H locs ls  hR hS hl h
          refine lv_iload hx hb dX6_weigh_230 (lv_at hl 2 rfl) ?_
          obtain ⟨J253, eJ253, h⟩ := lt_e h
          have hJ253 : ∀ (S63 : St) (H : Heap) (locs : List Loc) (ls : Array Slot), Rp E α g S63 H → va_S E.2.2.1 s.heap H locs → lv_has ls 7 [(0, .ref (α 3)), (1, .int v1), (5, .int v5)] → J253  S63 = some z → W p l e rm_X6_weigh s m args below meth c H locs 0 0 (MQ below (Qv E α g z) args s 0 0 E.2.2.1) (F0 m 253 ls []) := by
            intro  S63 H locs ls  hR hS hl h
            rw [eJ253] at h
            obtain ⟨x64, ex64, h⟩ := lt_e h
            refine lv_iinc (v := x64) (lv' := [(5, .int x64), (0, .ref (α 3)), (1, .int v1)]) hx hb dX6_weigh_253 hl (k := 2) rfl (by rw [ex64]; rfl) (by decide) rfl (fun ls hl => ?_)
            refine lv_goto (tgt := 134) hx hb dX6_weigh_256 (by decide) ?_
            exact ih _ _ _ _ _  hR hS (lv_sub hl [1, 2, 0] rfl) h
          clear eJ253
          refine lv_if_le (tgt := 253) hx hb dX6_weigh_232 (by decide) (fun c65 => ?_) (fun c65 => ?_)
          · have h := ite_t c65 h
            exact hJ253  _ _ _ _  hR hS hl h
          · have h := ite_f c65 h
            refine lv_aload_n hx hb dX6_weigh_235 rfl (lv_at hl 0 rfl) ?_
            refine lv_iload hx hb dX6_weigh_236 (lv_at hl 2 rfl) ?_
            refine lv_bipush (v := 100) hx hb dX6_weigh_238 (by decide) ?_
            refine lv_imul hx hb dX6_weigh_240 ?_
            obtain ⟨r66, S67, hr66, h⟩ := bd_e h
            refine g_cv hS (g_runV C hR hS (k := 3) (As := [.int (v5 * (100 : Int32))]) (rest := []) (c_X6_carryUp l  hr66) (live_st (by decide)) rfl (vw6) m_X6_carryUp q494 ⟨rfl, rfl⟩ ⟨Nat.le_of_ble_eq_true rfl, Nat.le_of_ble_eq_true rfl⟩ rfl hl.1 rfl (Nat.le_of_ble_eq_true rfl) dX6_weigh_241 ⟨Nat.zero_le _, Nat.zero_le _⟩) (fun H locs hR hS => ?_)
            refine lv_aload_n hx hb dX6_weigh_244 rfl (lv_at hl 0 rfl) ?_
            refine lv_iload hx hb dX6_weigh_245 (lv_at hl 2 rfl) ?_
            refine lv_bipush (v := 100) hx hb dX6_weigh_247 (by decide) ?_
            refine lv_imul hx hb dX6_weigh_249 ?_
            obtain ⟨r68, S69, hr68, h⟩ := bd_e h
            refine g_cv hS (g_runV C hR hS (k := 3) (As := [.int (v5 * (100 : Int32))]) (rest := []) (c_X6_carryDown l  hr68) (live_st (by decide)) rfl (vw6) m_X6_carryDown q498 ⟨rfl, rfl⟩ ⟨Nat.le_of_ble_eq_true rfl, Nat.le_of_ble_eq_true rfl⟩ rfl hl.1 rfl (Nat.le_of_ble_eq_true rfl) dX6_weigh_250 ⟨Nat.zero_le _, Nat.zero_le _⟩) (fun H locs hR hS => ?_)
            exact hJ253  _ _ _ _  hR hS hl h

set_option maxHeartbeats 4000000 in
set_option maxRecDepth 100000 in
theorem c_X6_weigh (l : Launch) {E : En} {α : Nat → Nat} {g : Nat × Nat} {v1 : Int32} {v2 : Int64} {v4 : Int32} {S : St}  {z : Unit × St} (h : f_X6_weigh v1 v2 v4 S = some z) : Met l yX6_weigh (wsY yX6_weigh cX6_weigh 7 none) rm_X6_weigh (va_Pc [.ref (α 3), .int v1, .long v2, .int v4] (Wd E α g S)) (Qv E α g z) 0 0 E.2.2.1 := by
  refine g_met [.ref (α 3), .int v1, .long v2, .int v4] (by decide) rfl (Nat.le_of_ble_eq_true rfl) ?_
  intro p e s m below meth c ls C hR hl
  generalize hae : ([.ref (α 3), .int v1, .long v2, .int v4] : List Value).toArray = args at C ⊢
  have hl : lv_has ls 7 [(0, .ref (α 3)), (1, .int v1), (2, .long v2), (4, .int v4)] := hl
  obtain ⟨hx, hb, hml, hown, hts, hlk, hrt, hKs⟩ := id C
  have hS : va_S E.2.2.1 s.heap s.heap [] := va_S.rf
  unfold f_X6_weigh at h
  refine lv_aload_n hx hb dX6_weigh_0 rfl (lv_at hl 0 rfl) ?_
  refine lv_iload_n hx hb dX6_weigh_1 rfl (lv_at hl 1 rfl) ?_
  obtain ⟨S20, eS20, h⟩ := lt_e h
  refine g_puti C hR hS (k := 3) (j := 3) (live_st (by decide)) rfl rfl (vw6) inl6 (by decide) (ty0 := tyX6) tyX6_ok nmX6 q123 rfl rfl rfl eS20 dX6_weigh_2 (fun H locs hR hS => ?_)
  refine lv_aload_n hx hb dX6_weigh_5 rfl (lv_at hl 0 rfl) ?_
  refine lv_iload hx hb dX6_weigh_6 (lv_at hl 3 rfl) ?_
  obtain ⟨S21, eS21, h⟩ := lt_e h
  refine g_puti C hR hS (k := 3) (j := 2) (live_st (by decide)) rfl rfl (vw6) inl6 (by decide) (ty0 := tyX6) tyX6_ok nmX6 q122 rfl rfl rfl eS21 dX6_weigh_8 (fun H locs hR hS => ?_)
  refine lv_iconst (v := 0) hx hb dX6_weigh_11 (by decide) ?_
  refine lv_istore (lv' := [(5, .int (0 : Int32)), (0, .ref (α 3)), (1, .int v1), (2, .long v2), (4, .int v4)]) hx hb dX6_weigh_12 hl (by decide) rfl (fun ls hl => ?_)
  refine w_X6_weigh_L14 C ?_  _ _ _ _ _ _  hR hS (lv_sub hl [1, 2, 3, 4, 0] rfl) h
  · intro  S27 H locs ls  hR hS hl h
    refine lv_aload_n hx hb dX6_weigh_51 rfl (lv_at hl 0 rfl) ?_
    obtain ⟨r28, S29, hr28, h⟩ := bd_e h
    refine g_cv hS (g_runV C hR hS (k := 3) (As := []) (rest := []) (c_X6_gatherTones l  hr28) (live_st (by decide)) rfl (vw6) m_X6_gatherTones q466 ⟨rfl, rfl⟩ ⟨Nat.le_of_ble_eq_true rfl, Nat.le_of_ble_eq_true rfl⟩ rfl hl.1 rfl (Nat.le_of_ble_eq_true rfl) dX6_weigh_52 ⟨Nat.zero_le _, Nat.zero_le _⟩) (fun H locs hR hS => ?_)
    refine lv_aload_n hx hb dX6_weigh_55 rfl (lv_at hl 0 rfl) ?_
    refine g_getr (t := 9) C hR (k := 3) (j := 10) (live_st (by decide)) rfl rfl (vw6) inl6 (by decide) q131 dX6_weigh_56 ?_
    refine lv_ldc (v := 1000000) hx hb hown (hts _ q473) dX6_weigh_59 ?_
    obtain ⟨r30, S31, hr30, h⟩ := bd_e h
    refine g_cv hS (g_runS C hR hS (As := [.ref (α 9), .int (1000000 : Int32)]) (rest := []) (c_J7_fill_53178 l ⟨by decide, rfl⟩ hr30) m_J7_fill_53178 q470 ⟨rfl, rfl⟩ ⟨Nat.le_of_ble_eq_true rfl, Nat.le_of_ble_eq_true rfl⟩ rfl hl.1 rfl (Nat.le_of_ble_eq_true rfl) dX6_weigh_61 ⟨Nat.zero_le _, Nat.zero_le _⟩) (fun H locs hR hS => ?_)
    refine lv_aload_n hx hb dX6_weigh_64 rfl (lv_at hl 0 rfl) ?_
    refine g_getr (t := 10) C hR (k := 3) (j := 11) (live_st (by decide)) rfl rfl (vw6) inl6 (by decide) q132 dX6_weigh_65 ?_
    refine lv_iconst (v := 0) hx hb dX6_weigh_68 (by decide) ?_
    obtain ⟨r32, S33, hr32, h⟩ := bd_e h
    refine g_cv hS (g_runS C hR hS (As := [.ref (α 10), .int (0 : Int32)]) (rest := []) (c_J7_fill_53178 l ⟨by decide, rfl⟩ hr32) m_J7_fill_53178 q470 ⟨rfl, rfl⟩ ⟨Nat.le_of_ble_eq_true rfl, Nat.le_of_ble_eq_true rfl⟩ rfl hl.1 rfl (Nat.le_of_ble_eq_true rfl) dX6_weigh_69 ⟨Nat.zero_le _, Nat.zero_le _⟩) (fun H locs hR hS => ?_)
    refine lv_iconst (v := 0) hx hb dX6_weigh_72 (by decide) ?_
    refine lv_istore (lv' := [(5, .int (0 : Int32)), (0, .ref (α 3)), (1, .int v1), (4, .int v4)]) hx hb dX6_weigh_73 hl (by decide) rfl (fun ls hl => ?_)
    refine w_X6_weigh_L75 C ?_  _ _ _ _ _ _  hR hS (lv_sub hl [1, 2, 3, 0] rfl) h
    · intro  S42 H locs ls  hR hS hl h
      refine lv_iload hx hb dX6_weigh_128 (lv_at hl 2 rfl) ?_
      refine lv_iconst (v := 1) hx hb dX6_weigh_130 (by decide) ?_
      refine lv_isub hx hb dX6_weigh_131 ?_
      obtain ⟨x43, ex43, h⟩ := lt_e h
      refine g_nmi ex43 ?_
      refine lv_istore (lv' := [(5, .int x43), (0, .ref (α 3)), (1, .int v1), (4, .int v4)]) hx hb dX6_weigh_132 hl (by decide) rfl (fun ls hl => ?_)
      refine w_X6_weigh_L134 C ?_  _ _ _ _ _ _  hR hS (lv_sub hl [1, 2, 0] rfl) h
      · intro  S70 H locs ls  hR hS hl h
        refine lv_aload_n hx hb dX6_weigh_259 rfl (lv_at hl 0 rfl) ?_
        obtain ⟨r71, S72, hr71, h⟩ := bd_e h
        refine g_cv hS (g_runV C hR hS (k := 3) (As := []) (rest := []) (c_X6_sumUp l  hr71) (live_st (by decide)) rfl (vw6) m_X6_sumUp q502 ⟨rfl, rfl⟩ ⟨Nat.le_of_ble_eq_true rfl, Nat.le_of_ble_eq_true rfl⟩ rfl hl.1 rfl (Nat.le_of_ble_eq_true rfl) dX6_weigh_260 ⟨Nat.zero_le _, Nat.zero_le _⟩) (fun H locs hR hS => ?_)
        exact g_vret C hR hS h dX6_weigh_263

/-! OneVoice$Sayer.jarOfWords(LOneVoice$Lexicon;I)I -/
abbrev rm_X6_jarOfWords : Room := { frames := 3, cells := 0, slots := 0, locals := 78 }
theorem m_X6_jarOfWords : MV yX6_jarOfWords RX6 cX6_jarOfWords 6 (some .int) 2 := ⟨q715, q716, q70, q717, by decide +kernel⟩
def f_X6_jarOfWords_L5 (K52 : St → Option (Int32 × St)) (K67 : Int32 → St → Option (Int32 × St)) (v2 : Int32) : Nat → Int32 → Int32 → St → Option (Int32 × St)
  | 0, _, _, _ => none
  | f + 1, v3, v4, S =>
    if (rd S 14 5) ≤ v4 then
      K67 v3 S
    else
      gd_ (inb v4 16) <|
      lt_ (rd S 19 (Int32.toNatClampNeg v4)) fun x9 =>
      gd_ (inb x9 32) <|
      gd_ (inb x9 32) <|
      bd_ (f_X6_weigh v2 (Int32.toInt64 (rd S 15 (Int32.toNatClampNeg x9))) (rd S 16 (Int32.toNatClampNeg x9)) S) fun r12 S13 =>
      if (rd S13 3 14) < (1000000 : Int32) then
        lt_ (v3 + (rd S13 3 14)) fun x15 =>
        lt_ (v4 + (1 : Int32)) fun x16 =>
        f_X6_jarOfWords_L5 K52 K67 v2 f x15 x16 S13
      else
        K52  S13

def f_X6_jarOfWords (v2 : Int32) (S : St) : Option (Int32 × St) :=
  f_X6_jarOfWords_L5
    (fun  (S17 : St) =>
      some ((-1 : Int32), S17))
    (fun (x18 : Int32) (S19 : St) =>
      some (x18, S19))
    v2 FU (0 : Int32) (0 : Int32) S

set_option maxHeartbeats 4000000 in
set_option maxRecDepth 100000 in
theorem w_X6_jarOfWords_L5 {p : Program} {l : Launch} {e : Env} {s : State} {m : MethodId} {args : Array Value} {below : List Frame} {meth : Method} {c : Code} {E : En} {α : Nat → Nat} {g : Nat × Nat} (C : Cx p s m args meth c RX6 cX6_jarOfWords 6 (some .int) E) {z : Int32 × St} {K52 : St → Option (Int32 × St)} {K67 : Int32 → St → Option (Int32 × St)} {v2 : Int32}
    (hK52 : ∀ (S : St) (H : Heap) (locs : List Loc) (ls : Array Slot), Rp E α g S H → va_S E.2.2.1 s.heap H locs → lv_has ls 6 [] → K52  S = some z → W p l e rm_X6_jarOfWords s m args below meth c H locs 0 0 (MQ below (Qi E α g z) args s 0 0 E.2.2.1) (F0 m 52 ls []))
    (hK67 : ∀ (y3 : Int32) (S : St) (H : Heap) (locs : List Loc) (ls : Array Slot), Rp E α g S H → va_S E.2.2.1 s.heap H locs → lv_has ls 6 [(3, .int y3)] → K67 y3 S = some z → W p l e rm_X6_jarOfWords s m args below meth c H locs 0 0 (MQ below (Qi E α g z) args s 0 0 E.2.2.1) (F0 m 67 ls [])) :
    ∀ (f : Nat) (v3 : Int32) (v4 : Int32) (S : St) (H : Heap) (locs : List Loc) (ls : Array Slot), Rp E α g S H → va_S E.2.2.1 s.heap H locs → lv_has ls 6 [(0, .ref (α 3)), (1, .ref (α 14)), (2, .int v2), (3, .int v3), (4, .int v4)] → f_X6_jarOfWords_L5 K52 K67 v2 f v3 v4 S = some z → W p l e rm_X6_jarOfWords s m args below meth c H locs 0 0 (MQ below (Qi E α g z) args s 0 0 E.2.2.1) (F0 m 5 ls []) := by
  obtain ⟨hx, hb, hml, hown, hts, hlk, hrt, hKs⟩ := id C
  intro f
  induction f with
  | zero =>
    intro v3 v4 S H locs ls  hR hS hl h
    rw [f_X6_jarOfWords_L5] at h
    cases h
  | succ f ih =>
    intro v3 v4 S H locs ls  hR hS hl h
    rw [f_X6_jarOfWords_L5] at h
    refine lv_iload hx hb dX6_jarOfWords_5 (lv_at hl 4 rfl) ?_
    refine lv_aload_n hx hb dX6_jarOfWords_7 rfl (lv_at hl 1 rfl) ?_
    refine g_geti C hR (k := 14) (j := 5) (live_st (by decide)) rfl rfl (vw1) inl1 (by decide) q200 dX6_jarOfWords_8 ?_
    refine lv_icmp_ge (tgt := 67) hx hb dX6_jarOfWords_11 (by decide) (fun c7 => ?_) (fun c7 => ?_)
    · have h := ite_t c7 h
      exact hK67 _ _ _ _ _  hR hS (lv_sub hl [3] rfl) h
    · have h := ite_f c7 h
      refine lv_aload_n hx hb dX6_jarOfWords_14 rfl (lv_at hl 1 rfl) ?_
      refine g_getr (t := 19) C hR (k := 14) (j := 4) (live_st (by decide)) rfl rfl (vw1) inl1 (by decide) q197 dX6_jarOfWords_15 ?_
      refine lv_iload hx hb dX6_jarOfWords_18 (lv_at hl 4 rfl) ?_
      obtain ⟨g8, h⟩ := gd_e h
      refine g_iald C hR (k := 19) (n := 16) (live_st (by decide)) rfl g8 dX6_jarOfWords_20 ?_
      obtain ⟨x9, ex9, h⟩ := lt_e h
      refine g_nmi ex9 ?_
      refine lv_istore (lv' := [(5, .int x9), (0, .ref (α 3)), (1, .ref (α 14)), (2, .int v2), (3, .int v3), (4, .int v4)]) hx hb dX6_jarOfWords_21 hl (by decide) rfl (fun ls hl => ?_)
      refine lv_aload_n hx hb dX6_jarOfWords_23 rfl (lv_at hl 1 rfl) ?_
      refine lv_iload_n hx hb dX6_jarOfWords_24 rfl (lv_at hl 3 rfl) ?_
      refine lv_aload_n hx hb dX6_jarOfWords_25 rfl (lv_at hl 2 rfl) ?_
      refine g_getr (t := 15) C hR (k := 14) (j := 0) (live_st (by decide)) rfl rfl (vw1) inl1 (by decide) q187 dX6_jarOfWords_26 ?_
      refine lv_iload hx hb dX6_jarOfWords_29 (lv_at hl 0 rfl) ?_
      obtain ⟨g10, h⟩ := gd_e h
      refine g_iald C hR (k := 15) (n := 32) (live_st (by decide)) rfl g10 dX6_jarOfWords_31 ?_
      refine lv_i2l (v := Int32.toInt64 (rd S 15 (Int32.toNatClampNeg x9))) hx hb dX6_jarOfWords_32 rfl ?_
      refine lv_aload_n hx hb dX6_jarOfWords_33 rfl (lv_at hl 2 rfl) ?_
      refine g_getr (t := 16) C hR (k := 14) (j := 1) (live_st (by decide)) rfl rfl (vw1) inl1 (by decide) q191 dX6_jarOfWords_34 ?_
      refine lv_iload hx hb dX6_jarOfWords_37 (lv_at hl 0 rfl) ?_
      obtain ⟨g11, h⟩ := gd_e h
      refine g_iald C hR (k := 16) (n := 32) (live_st (by decide)) rfl g11 dX6_jarOfWords_39 ?_
      obtain ⟨r12, S13, hr12, h⟩ := bd_e h
      refine g_cv hS (g_runV C hR hS (k := 3) (As := [.int v2, .long (Int32.toInt64 (rd S 15 (Int32.toNatClampNeg x9))), .int (rd S 16 (Int32.toNatClampNeg x9))]) (rest := []) (c_X6_weigh l  hr12) (live_st (by decide)) rfl (vw6) m_X6_weigh q718 ⟨rfl, rfl⟩ ⟨Nat.le_of_ble_eq_true rfl, Nat.le_of_ble_eq_true rfl⟩ rfl hl.1 rfl (Nat.le_of_ble_eq_true rfl) dX6_jarOfWords_40 ⟨Nat.zero_le _, Nat.zero_le _⟩) (fun H locs hR hS => ?_)
      refine lv_aload_n hx hb dX6_jarOfWords_43 rfl (lv_at hl 1 rfl) ?_
      refine g_geti C hR (k := 3) (j := 14) (live_st (by decide)) rfl rfl (vw6) inl6 (by decide) q135 dX6_jarOfWords_44 ?_
      refine lv_ldc (v := 1000000) hx hb hown (hts _ q473) dX6_jarOfWords_47 ?_
      refine lv_icmp_lt (tgt := 54) hx hb dX6_jarOfWords_49 (by decide) (fun c14 => ?_) (fun c14 => ?_)
      · have h := ite_t c14 h
        refine lv_iload_n hx hb dX6_jarOfWords_54 rfl (lv_at hl 4 rfl) ?_
        refine lv_aload_n hx hb dX6_jarOfWords_55 rfl (lv_at hl 1 rfl) ?_
        refine g_geti C hR (k := 3) (j := 14) (live_st (by decide)) rfl rfl (vw6) inl6 (by decide) q135 dX6_jarOfWords_56 ?_
        refine lv_iadd hx hb dX6_jarOfWords_59 ?_
        obtain ⟨x15, ex15, h⟩ := lt_e h
        refine g_nmi ex15 ?_
        refine lv_istore_n (lv' := [(3, .int x15), (5, .int x9), (0, .ref (α 3)), (1, .ref (α 14)), (2, .int v2), (4, .int v4)]) hx hb dX6_jarOfWords_60 rfl hl (by decide) rfl (fun ls hl => ?_)
        obtain ⟨x16, ex16, h⟩ := lt_e h
        refine lv_iinc (v := x16) (lv' := [(4, .int x16), (3, .int x15), (5, .int x9), (0, .ref (α 3)), (1, .ref (α 14)), (2, .int v2)]) hx hb dX6_jarOfWords_61 hl (k := 5) rfl (by rw [ex16]; rfl) (by decide) rfl (fun ls hl => ?_)
        refine lv_goto (tgt := 5) hx hb dX6_jarOfWords_64 (by decide) ?_
        exact ih _ _ _ _ _ _  hR hS (lv_sub hl [3, 4, 5, 1, 0] rfl) h
      · have h := ite_f c14 h
        exact hK52  _ _ _ _  hR hS (lv_sub hl [] rfl) h

set_option maxHeartbeats 4000000 in
set_option maxRecDepth 100000 in
theorem c_X6_jarOfWords (l : Launch) {E : En} {α : Nat → Nat} {g : Nat × Nat} {v2 : Int32} {S : St}  {z : Int32 × St} (h : f_X6_jarOfWords v2 S = some z) : Met l yX6_jarOfWords (wsY yX6_jarOfWords cX6_jarOfWords 6 (some .int)) rm_X6_jarOfWords (va_Pc [.ref (α 3), .ref (α 14), .int v2] (Wd E α g S)) (Qi E α g z) 0 0 E.2.2.1 := by
  refine g_met [.ref (α 3), .ref (α 14), .int v2] (by decide) rfl (Nat.le_of_ble_eq_true rfl) ?_
  intro p e s m below meth c ls C hR hl
  generalize hae : ([.ref (α 3), .ref (α 14), .int v2] : List Value).toArray = args at C ⊢
  have hl : lv_has ls 6 [(0, .ref (α 3)), (1, .ref (α 14)), (2, .int v2)] := hl
  obtain ⟨hx, hb, hml, hown, hts, hlk, hrt, hKs⟩ := id C
  have hS : va_S E.2.2.1 s.heap s.heap [] := va_S.rf
  unfold f_X6_jarOfWords at h
  refine lv_iconst (v := 0) hx hb dX6_jarOfWords_0 (by decide) ?_
  refine lv_istore_n (lv' := [(3, .int (0 : Int32)), (0, .ref (α 3)), (1, .ref (α 14)), (2, .int v2)]) hx hb dX6_jarOfWords_1 rfl hl (by decide) rfl (fun ls hl => ?_)
  refine lv_iconst (v := 0) hx hb dX6_jarOfWords_2 (by decide) ?_
  refine lv_istore (lv' := [(4, .int (0 : Int32)), (3, .int (0 : Int32)), (0, .ref (α 3)), (1, .ref (α 14)), (2, .int v2)]) hx hb dX6_jarOfWords_3 hl (by decide) rfl (fun ls hl => ?_)
  refine w_X6_jarOfWords_L5 C ?_ ?_  _ _ _ _ _ _ _  hR hS (lv_sub hl [2, 3, 4, 1, 0] rfl) h
  · intro  S17 H locs ls  hR hS hl h
    refine lv_iconst (v := -1) hx hb dX6_jarOfWords_52 (by decide) ?_
    exact g_iret C hR hS h dX6_jarOfWords_53
  · intro x18 S19 H locs ls  hR hS hl h
    refine lv_iload_n hx hb dX6_jarOfWords_67 rfl (lv_at hl 0 rfl) ?_
    exact g_iret C hR hS h dX6_jarOfWords_68

/-! OneVoice$Sayer.fewest(LOneVoice$Piece;III)I -/
abbrev rm_X6_fewest : Room := { frames := 1, cells := 0, slots := 0, locals := 22 }
theorem m_X6_fewest : MV yX6_fewest RX6 cX6_fewest 8 (some .int) 4 := ⟨q527, q7, q70, q528, by decide +kernel⟩
def f_X6_fewest_L3 (K49 : St → Option (Int32 × St)) (K94 : Int32 → St → Option (Int32 × St)) (K105 : St → Option (Int32 × St)) (n1 : Nat) (v2 : Int32) (v3 : Int32) (v4 : Int32) : Nat → Int32 → St → Option (Int32 × St)
  | 0, _, _ => none
  | f + 1, v5, S =>
    if (rd S (200 + 2 * n1) 1) ≤ (v2 + v5) then
      K105  S
    else
      if (rd S 3 2) ≤ (v3 + v5) then
        K105  S
      else
        lt_ (v2 + v5) fun x9 =>
        gd_ (inb (v3 + v5) 16) <|
        bd_ (f_X3_says n1 x9 (rd S 4 (Int32.toNatClampNeg (v3 + v5))) S) fun r11 S12 =>
        if r11 = 0 then
          K49  S12
        else
          gd_ (inb x9 8) <|
          lt_ ((((v3 + v5) + (1 : Int32)) * (100 : Int32)) + (rd S12 (200 + 2 * n1 + 1) (Int32.toNatClampNeg x9))) fun x15 =>
          gd_ (inb x15 1700) <|
          bd_ (f_X3_cutsAtEnd n1 x9 S12) fun r17 S18 =>
          if ((rd S12 7 (Int32.toNatClampNeg x15)) + (r17 * (rd S18 3 4))) = v4 then
            K94 v5 S18
          else
            lt_ (v5 + (1 : Int32)) fun x20 =>
            f_X6_fewest_L3 K49 K94 K105 n1 v2 v3 v4 f x20 S18

def f_X6_fewest (n1 : Nat) (v2 : Int32) (v3 : Int32) (v4 : Int32) (S : St) : Option (Int32 × St) :=
  f_X6_fewest_L3
    (fun  (S21 : St) =>
      some ((0 : Int32), S21))
    (fun (x22 : Int32) (S23 : St) =>
      some ((x22 + (1 : Int32)), S23))
    (fun  (S24 : St) =>
      some ((0 : Int32), S24))
    n1 v2 v3 v4 FU (0 : Int32) S

set_option maxHeartbeats 4000000 in
set_option maxRecDepth 100000 in
theorem w_X6_fewest_L3 {p : Program} {l : Launch} {e : Env} {s : State} {m : MethodId} {args : Array Value} {below : List Frame} {meth : Method} {c : Code} {E : En} {α : Nat → Nat} {g : Nat × Nat} (C : Cx p s m args meth c RX6 cX6_fewest 8 (some .int) E) {z : Int32 × St} {K49 : St → Option (Int32 × St)} {K94 : Int32 → St → Option (Int32 × St)} {K105 : St → Option (Int32 × St)} {n1 : Nat} {v2 : Int32} {v3 : Int32} {v4 : Int32}
    (hK49 : ∀ (S : St) (H : Heap) (locs : List Loc) (ls : Array Slot), Rp E α g S H → va_S E.2.2.1 s.heap H locs → lv_has ls 8 [] → K49  S = some z → W p l e rm_X6_fewest s m args below meth c H locs 0 0 (MQ below (Qi E α g z) args s 0 0 E.2.2.1) (F0 m 49 ls []))
    (hK94 : ∀ (y5 : Int32) (S : St) (H : Heap) (locs : List Loc) (ls : Array Slot), Rp E α g S H → va_S E.2.2.1 s.heap H locs → lv_has ls 8 [(5, .int y5)] → K94 y5 S = some z → W p l e rm_X6_fewest s m args below meth c H locs 0 0 (MQ below (Qi E α g z) args s 0 0 E.2.2.1) (F0 m 94 ls []))
    (hK105 : ∀ (S : St) (H : Heap) (locs : List Loc) (ls : Array Slot), Rp E α g S H → va_S E.2.2.1 s.heap H locs → lv_has ls 8 [] → K105  S = some z → W p l e rm_X6_fewest s m args below meth c H locs 0 0 (MQ below (Qi E α g z) args s 0 0 E.2.2.1) (F0 m 105 ls [])) (hn1 : n1 < g.1) :
    ∀ (f : Nat) (v5 : Int32) (S : St) (H : Heap) (locs : List Loc) (ls : Array Slot), Rp E α g S H → va_S E.2.2.1 s.heap H locs → lv_has ls 8 [(0, .ref (α 3)), (1, .ref (α (200 + 2 * n1))), (2, .int v2), (3, .int v3), (4, .int v4), (5, .int v5)] → f_X6_fewest_L3 K49 K94 K105 n1 v2 v3 v4 f v5 S = some z → W p l e rm_X6_fewest s m args below meth c H locs 0 0 (MQ below (Qi E α g z) args s 0 0 E.2.2.1) (F0 m 3 ls []) := by
  obtain ⟨hx, hb, hml, hown, hts, hlk, hrt, hKs⟩ := id C
  intro f
  induction f with
  | zero =>
    intro v5 S H locs ls  hR hS hl h
    rw [f_X6_fewest_L3] at h
    cases h
  | succ f ih =>
    intro v5 S H locs ls  hR hS hl h
    rw [f_X6_fewest_L3] at h
    refine lv_iload_n hx hb dX6_fewest_3 rfl (lv_at hl 2 rfl) ?_
    refine lv_iload hx hb dX6_fewest_4 (lv_at hl 5 rfl) ?_
    refine lv_iadd hx hb dX6_fewest_6 ?_
    refine lv_aload_n hx hb dX6_fewest_7 rfl (lv_at hl 1 rfl) ?_
    refine g_geti C hR (k := (200 + 2 * n1)) (j := 1) (live_p hn1) (lay_p (Nat.lt_of_lt_of_le hn1 hR.1.1)) rfl (vw3) inl3 (by decide) q389 dX6_fewest_8 ?_
    refine lv_icmp_ge (tgt := 105) hx hb dX6_fewest_11 (by decide) (fun c7 => ?_) (fun c7 => ?_)
    · have h := ite_t c7 h
      exact hK105  _ _ _ _  hR hS (lv_sub hl [] rfl) h
    · have h := ite_f c7 h
      refine lv_iload_n hx hb dX6_fewest_14 rfl (lv_at hl 3 rfl) ?_
      refine lv_iload hx hb dX6_fewest_15 (lv_at hl 5 rfl) ?_
      refine lv_iadd hx hb dX6_fewest_17 ?_
      refine lv_aload_n hx hb dX6_fewest_18 rfl (lv_at hl 0 rfl) ?_
      refine g_geti C hR (k := 3) (j := 2) (live_st (by decide)) rfl rfl (vw6) inl6 (by decide) q122 dX6_fewest_19 ?_
      refine lv_icmp_ge (tgt := 105) hx hb dX6_fewest_22 (by decide) (fun c8 => ?_) (fun c8 => ?_)
      · have h := ite_t c8 h
        exact hK105  _ _ _ _  hR hS (lv_sub hl [] rfl) h
      · have h := ite_f c8 h
        refine lv_iload_n hx hb dX6_fewest_25 rfl (lv_at hl 2 rfl) ?_
        refine lv_iload hx hb dX6_fewest_26 (lv_at hl 5 rfl) ?_
        refine lv_iadd hx hb dX6_fewest_28 ?_
        obtain ⟨x9, ex9, h⟩ := lt_e h
        refine g_nmi ex9 ?_
        refine lv_istore (lv' := [(6, .int x9), (0, .ref (α 3)), (1, .ref (α (200 + 2 * n1))), (2, .int v2), (3, .int v3), (4, .int v4), (5, .int v5)]) hx hb dX6_fewest_29 hl (by decide) rfl (fun ls hl => ?_)
        refine lv_aload_n hx hb dX6_fewest_31 rfl (lv_at hl 2 rfl) ?_
        refine lv_iload hx hb dX6_fewest_32 (lv_at hl 0 rfl) ?_
        refine lv_aload_n hx hb dX6_fewest_34 rfl (lv_at hl 1 rfl) ?_
        refine g_getr (t := 4) C hR (k := 3) (j := 1) (live_st (by decide)) rfl rfl (vw6) inl6 (by decide) q121 dX6_fewest_35 ?_
        refine lv_iload_n hx hb dX6_fewest_38 rfl (lv_at hl 4 rfl) ?_
        refine lv_iload hx hb dX6_fewest_39 (lv_at hl 6 rfl) ?_
        refine lv_iadd hx hb dX6_fewest_41 ?_
        obtain ⟨g10, h⟩ := gd_e h
        refine g_iald C hR (k := 4) (n := 16) (live_st (by decide)) rfl g10 dX6_fewest_42 ?_
        obtain ⟨r11, S12, hr11, h⟩ := bd_e h
        refine g_ci hS (g_runV C hR hS (k := (200 + 2 * n1)) (As := [.int x9, .int (rd S 4 (Int32.toNatClampNeg (v3 + v5)))]) (rest := []) (c_X3_says l hn1 hr11) (live_p hn1) (lay_p (Nat.lt_of_lt_of_le hn1 hR.1.1)) (vw3) m_X3_says q478 ⟨rfl, rfl⟩ ⟨Nat.le_of_ble_eq_true rfl, Nat.le_of_ble_eq_true rfl⟩ rfl hl.1 rfl (Nat.le_of_ble_eq_true rfl) dX6_fewest_43 ⟨Nat.zero_le _, Nat.zero_le _⟩) (fun H locs hR hS => ?_)
        refine lv_if_ne (tgt := 51) hx hb dX6_fewest_46 (by decide) (fun c13 => ?_) (fun c13 => ?_)
        · have h := ite_f c13 h
          refine lv_iload_n hx hb dX6_fewest_51 rfl (lv_at hl 4 rfl) ?_
          refine lv_iload hx hb dX6_fewest_52 (lv_at hl 6 rfl) ?_
          refine lv_iadd hx hb dX6_fewest_54 ?_
          refine lv_iconst (v := 1) hx hb dX6_fewest_55 (by decide) ?_
          refine lv_iadd hx hb dX6_fewest_56 ?_
          refine lv_bipush (v := 100) hx hb dX6_fewest_57 (by decide) ?_
          refine lv_imul hx hb dX6_fewest_59 ?_
          refine lv_aload_n hx hb dX6_fewest_60 rfl (lv_at hl 2 rfl) ?_
          refine g_getr (t := (200 + 2 * n1 + 1)) C hR (k := (200 + 2 * n1)) (j := 3) (live_p hn1) (lay_p (Nat.lt_of_lt_of_le hn1 hR.1.1)) rfl (vw3) inl3 (by decide) q394 dX6_fewest_61 ?_
          refine lv_iload hx hb dX6_fewest_64 (lv_at hl 0 rfl) ?_
          obtain ⟨g14, h⟩ := gd_e h
          refine g_iald C hR (k := (200 + 2 * n1 + 1)) (n := 8) (live_pt hn1) (lay_pt (Nat.lt_of_lt_of_le hn1 hR.1.1)) g14 dX6_fewest_66 ?_
          refine lv_iadd hx hb dX6_fewest_67 ?_
          obtain ⟨x15, ex15, h⟩ := lt_e h
          refine g_nmi ex15 ?_
          refine lv_istore (lv' := [(7, .int x15), (6, .int x9), (0, .ref (α 3)), (1, .ref (α (200 + 2 * n1))), (2, .int v2), (3, .int v3), (4, .int v4), (5, .int v5)]) hx hb dX6_fewest_68 hl (by decide) rfl (fun ls hl => ?_)
          refine lv_aload_n hx hb dX6_fewest_70 rfl (lv_at hl 2 rfl) ?_
          refine g_getr (t := 7) C hR (k := 3) (j := 8) (live_st (by decide)) rfl rfl (vw6) inl6 (by decide) q129 dX6_fewest_71 ?_
          refine lv_iload hx hb dX6_fewest_74 (lv_at hl 0 rfl) ?_
          obtain ⟨g16, h⟩ := gd_e h
          refine g_iald C hR (k := 7) (n := 1700) (live_st (by decide)) rfl g16 dX6_fewest_76 ?_
          refine lv_aload_n hx hb dX6_fewest_77 rfl (lv_at hl 3 rfl) ?_
          refine lv_iload hx hb dX6_fewest_78 (lv_at hl 1 rfl) ?_
          obtain ⟨r17, S18, hr17, h⟩ := bd_e h
          refine g_ci hS (g_runV C hR hS (k := (200 + 2 * n1)) (As := [.int x9]) (rest := [.int (rd S12 7 (Int32.toNatClampNeg x15))]) (c_X3_cutsAtEnd l hn1 hr17) (live_p hn1) (lay_p (Nat.lt_of_lt_of_le hn1 hR.1.1)) (vw3) m_X3_cutsAtEnd q482 ⟨rfl, rfl⟩ ⟨Nat.le_of_ble_eq_true rfl, Nat.le_of_ble_eq_true rfl⟩ rfl hl.1 rfl (Nat.le_of_ble_eq_true rfl) dX6_fewest_80 ⟨Nat.zero_le _, Nat.zero_le _⟩) (fun H locs hR hS => ?_)
          refine lv_aload_n hx hb dX6_fewest_83 rfl (lv_at hl 2 rfl) ?_
          refine g_geti C hR (k := 3) (j := 4) (live_st (by decide)) rfl rfl (vw6) inl6 (by decide) q124 dX6_fewest_84 ?_
          refine lv_imul hx hb dX6_fewest_87 ?_
          refine lv_iadd hx hb dX6_fewest_88 ?_
          refine lv_iload hx hb dX6_fewest_89 (lv_at hl 6 rfl) ?_
          refine lv_icmp_ne (tgt := 99) hx hb dX6_fewest_91 (by decide) (fun c19 => ?_) (fun c19 => ?_)
          · have h := ite_f c19 h
            obtain ⟨x20, ex20, h⟩ := lt_e h
            refine lv_iinc (v := x20) (lv' := [(5, .int x20), (7, .int x15), (6, .int x9), (0, .ref (α 3)), (1, .ref (α (200 + 2 * n1))), (2, .int v2), (3, .int v3), (4, .int v4)]) hx hb dX6_fewest_99 hl (k := 7) rfl (by rw [ex20]; rfl) (by decide) rfl (fun ls hl => ?_)
            refine lv_goto (tgt := 3) hx hb dX6_fewest_102 (by decide) ?_
            exact ih _ _ _ _ _  hR hS (lv_sub hl [3, 4, 5, 6, 7, 0] rfl) h
          · have h := ite_t c19 h
            exact hK94 _ _ _ _ _  hR hS (lv_sub hl [7] rfl) h
        · have h := ite_t c13 h
          exact hK49  _ _ _ _  hR hS (lv_sub hl [] rfl) h

set_option maxHeartbeats 4000000 in
set_option maxRecDepth 100000 in
theorem c_X6_fewest (l : Launch) {E : En} {α : Nat → Nat} {g : Nat × Nat} {n1 : Nat} {v2 : Int32} {v3 : Int32} {v4 : Int32} {S : St} (hn1 : n1 < g.1) {z : Int32 × St} (h : f_X6_fewest n1 v2 v3 v4 S = some z) : Met l yX6_fewest (wsY yX6_fewest cX6_fewest 8 (some .int)) rm_X6_fewest (va_Pc [.ref (α 3), .ref (α (200 + 2 * n1)), .int v2, .int v3, .int v4] (Wd E α g S)) (Qi E α g z) 0 0 E.2.2.1 := by
  refine g_met [.ref (α 3), .ref (α (200 + 2 * n1)), .int v2, .int v3, .int v4] (by decide) rfl (Nat.le_of_ble_eq_true rfl) ?_
  intro p e s m below meth c ls C hR hl
  generalize hae : ([.ref (α 3), .ref (α (200 + 2 * n1)), .int v2, .int v3, .int v4] : List Value).toArray = args at C ⊢
  have hl : lv_has ls 8 [(0, .ref (α 3)), (1, .ref (α (200 + 2 * n1))), (2, .int v2), (3, .int v3), (4, .int v4)] := hl
  obtain ⟨hx, hb, hml, hown, hts, hlk, hrt, hKs⟩ := id C
  have hS : va_S E.2.2.1 s.heap s.heap [] := va_S.rf
  unfold f_X6_fewest at h
  refine lv_iconst (v := 0) hx hb dX6_fewest_0 (by decide) ?_
  refine lv_istore (lv' := [(5, .int (0 : Int32)), (0, .ref (α 3)), (1, .ref (α (200 + 2 * n1))), (2, .int v2), (3, .int v3), (4, .int v4)]) hx hb dX6_fewest_1 hl (by decide) rfl (fun ls hl => ?_)
  refine w_X6_fewest_L3 C ?_ ?_ ?_ hn1 _ _ _ _ _ _  hR hS (lv_sub hl [1, 2, 3, 4, 5, 0] rfl) h
  · intro  S21 H locs ls  hR hS hl h
    refine lv_iconst (v := 0) hx hb dX6_fewest_49 (by decide) ?_
    exact g_iret C hR hS h dX6_fewest_50
  · intro x22 S23 H locs ls  hR hS hl h
    refine lv_iload hx hb dX6_fewest_94 (lv_at hl 0 rfl) ?_
    refine lv_iconst (v := 1) hx hb dX6_fewest_96 (by decide) ?_
    refine lv_iadd hx hb dX6_fewest_97 ?_
    exact g_iret C hR hS h dX6_fewest_98
  · intro  S24 H locs ls  hR hS hl h
    refine lv_iconst (v := 0) hx hb dX6_fewest_105 (by decide) ?_
    exact g_iret C hR hS h dX6_fewest_106

/-! OneVoice$Sayer.firstBit(III)I -/
abbrev rm_X6_firstBit : Room := { frames := 2, cells := 0, slots := 0, locals := 49 }
theorem m_X6_firstBit : MV yX6_firstBit RX6 cX6_firstBit 9 (some .int) 3 := ⟨q520, q6, q70, q521, by decide +kernel⟩
def f_X6_firstBit_L30 (K109 : Int32 → Int32 → St → Option (Int32 × St)) (K131 : St → Option (Int32 × St)) (v1 : Int32) (v2 : Int32) (v3 : Int32) (v4 : Int32) (n5 : Nat) : Nat → Int32 → St → Option (Int32 × St)
  | 0, _, _ => none
  | f + 1, v6, S =>
    if (rd S (200 + 2 * n5) 1) ≤ v6 then
      K131  S
    else
      if (rd S (200 + 2 * n5) 2) = (rd S 3 3) then
        bd_ (f_X3_cutsAtBegin n5 v6 S) fun r15 S16 =>
        lt_ (r15 * (rd S16 3 4)) fun x17 =>
        lt_ (fun (x18 : Int32) (S19 : St) =>
            bd_ (f_X6_fewest n5 v6 v1 (v3 - x18) S19) fun r20 S21 =>
            if r20 ≤ 0 then
              lt_ (v6 + (1 : Int32)) fun x23 =>
              f_X6_firstBit_L30 K109 K131 v1 v2 v3 v4 n5 f x23 S21
            else
              K109 v6 r20 S21) fun J89 =>
        if v2 = (-1 : Int32) then
          J89 x17 S16
        else
          gd_ (inb v6 8) <|
          lt_ (x17 + (mabs (v2 - (rd S16 (200 + 2 * n5 + 1) (Int32.toNatClampNeg v6))))) fun x26 =>
          J89 x26 S16
      else
        K131  S

def f_X6_firstBit_L3 (K109 : Int32 → Int32 → Int32 → St → Option (Int32 × St)) (K137 : St → Option (Int32 × St)) (v1 : Int32) (v2 : Int32) (v3 : Int32) : Nat → Int32 → St → Option (Int32 × St)
  | 0, _, _ => none
  | f + 1, v4, S =>
    if (rd S 1 1) ≤ v4 then
      K137  S
    else
      gd_ (inb v4 16 ∧ (Int32.toNatClampNeg v4) < nP S) <|
      lt_ (Int32.toNatClampNeg v4) fun n12 =>
      f_X6_firstBit_L30
        (fun (x27 : Int32) (x28 : Int32) (S29 : St) =>
          K109 v4 x27 x28 S29)
        (fun  (S30 : St) =>
          lt_ (v4 + (1 : Int32)) fun x31 =>
          f_X6_firstBit_L3 K109 K137 v1 v2 v3 f x31 S30)
        v1 v2 v3 v4 n12 FU (0 : Int32) S

def f_X6_firstBit (v1 : Int32) (v2 : Int32) (v3 : Int32) (S : St) : Option (Int32 × St) :=
  f_X6_firstBit_L3
    (fun (x32 : Int32) (x33 : Int32) (x34 : Int32) (S35 : St) =>
      some (((((256 : Int32) * x32) + ((16 : Int32) * x33)) + x34), S35))
    (fun  (S36 : St) =>
      some ((-1 : Int32), S36))
    v1 v2 v3 FU (0 : Int32) S

set_option maxHeartbeats 4000000 in
set_option maxRecDepth 100000 in
theorem w_X6_firstBit_L30 {p : Program} {l : Launch} {e : Env} {s : State} {m : MethodId} {args : Array Value} {below : List Frame} {meth : Method} {c : Code} {E : En} {α : Nat → Nat} {g : Nat × Nat} (C : Cx p s m args meth c RX6 cX6_firstBit 9 (some .int) E) {z : Int32 × St} {K109 : Int32 → Int32 → St → Option (Int32 × St)} {K131 : St → Option (Int32 × St)} {v1 : Int32} {v2 : Int32} {v3 : Int32} {v4 : Int32} {n5 : Nat}
    (hK109 : ∀ (y6 : Int32) (y8 : Int32) (S : St) (H : Heap) (locs : List Loc) (ls : Array Slot), Rp E α g S H → va_S E.2.2.1 s.heap H locs → lv_has ls 9 [(4, .int v4), (6, .int y6), (8, .int y8)] → K109 y6 y8 S = some z → W p l e rm_X6_firstBit s m args below meth c H locs 0 0 (MQ below (Qi E α g z) args s 0 0 E.2.2.1) (F0 m 109 ls []))
    (hK131 : ∀ (S : St) (H : Heap) (locs : List Loc) (ls : Array Slot), Rp E α g S H → va_S E.2.2.1 s.heap H locs → lv_has ls 9 [(0, .ref (α 3)), (1, .int v1), (2, .int v2), (3, .int v3), (4, .int v4)] → K131  S = some z → W p l e rm_X6_firstBit s m args below meth c H locs 0 0 (MQ below (Qi E α g z) args s 0 0 E.2.2.1) (F0 m 131 ls [])) (hn5 : n5 < g.1) :
    ∀ (f : Nat) (v6 : Int32) (S : St) (H : Heap) (locs : List Loc) (ls : Array Slot), Rp E α g S H → va_S E.2.2.1 s.heap H locs → lv_has ls 9 [(0, .ref (α 3)), (1, .int v1), (2, .int v2), (3, .int v3), (4, .int v4), (5, .ref (α (200 + 2 * n5))), (6, .int v6)] → f_X6_firstBit_L30 K109 K131 v1 v2 v3 v4 n5 f v6 S = some z → W p l e rm_X6_firstBit s m args below meth c H locs 0 0 (MQ below (Qi E α g z) args s 0 0 E.2.2.1) (F0 m 30 ls []) := by
  obtain ⟨hx, hb, hml, hown, hts, hlk, hrt, hKs⟩ := id C
  intro f
  induction f with
  | zero =>
    intro v6 S H locs ls  hR hS hl h
    rw [f_X6_firstBit_L30] at h
    cases h
  | succ f ih =>
    intro v6 S H locs ls  hR hS hl h
    rw [f_X6_firstBit_L30] at h
    refine lv_iload hx hb dX6_firstBit_30 (lv_at hl 6 rfl) ?_
    refine lv_aload hx hb dX6_firstBit_32 (lv_at hl 5 rfl) ?_
    refine g_geti C hR (k := (200 + 2 * n5)) (j := 1) (live_p hn5) (lay_p (Nat.lt_of_lt_of_le hn5 hR.1.1)) rfl (vw3) inl3 (by decide) q389 dX6_firstBit_34 ?_
    refine lv_icmp_ge (tgt := 131) hx hb dX6_firstBit_37 (by decide) (fun c13 => ?_) (fun c13 => ?_)
    · have h := ite_t c13 h
      exact hK131  _ _ _ _  hR hS (lv_sub hl [0, 1, 2, 3, 4] rfl) h
    · have h := ite_f c13 h
      refine lv_aload hx hb dX6_firstBit_40 (lv_at hl 5 rfl) ?_
      refine g_geti C hR (k := (200 + 2 * n5)) (j := 2) (live_p hn5) (lay_p (Nat.lt_of_lt_of_le hn5 hR.1.1)) rfl (vw3) inl3 (by decide) q391 dX6_firstBit_42 ?_
      refine lv_aload_n hx hb dX6_firstBit_45 rfl (lv_at hl 0 rfl) ?_
      refine g_geti C hR (k := 3) (j := 3) (live_st (by decide)) rfl rfl (vw6) inl6 (by decide) q123 dX6_firstBit_46 ?_
      refine lv_icmp_ne (tgt := 131) hx hb dX6_firstBit_49 (by decide) (fun c14 => ?_) (fun c14 => ?_)
      · have h := ite_f c14 h
        exact hK131  _ _ _ _  hR hS (lv_sub hl [0, 1, 2, 3, 4] rfl) h
      · have h := ite_t c14 h
        refine lv_aload hx hb dX6_firstBit_52 (lv_at hl 5 rfl) ?_
        refine lv_iload hx hb dX6_firstBit_54 (lv_at hl 6 rfl) ?_
        obtain ⟨r15, S16, hr15, h⟩ := bd_e h
        refine g_ci hS (g_runV C hR hS (k := (200 + 2 * n5)) (As := [.int v6]) (rest := []) (c_X3_cutsAtBegin l hn5 hr15) (live_p hn5) (lay_p (Nat.lt_of_lt_of_le hn5 hR.1.1)) (vw3) m_X3_cutsAtBegin q490 ⟨rfl, rfl⟩ ⟨Nat.le_of_ble_eq_true rfl, Nat.le_of_ble_eq_true rfl⟩ rfl hl.1 rfl (Nat.le_of_ble_eq_true rfl) dX6_firstBit_56 ⟨Nat.zero_le _, Nat.zero_le _⟩) (fun H locs hR hS => ?_)
        refine lv_aload_n hx hb dX6_firstBit_59 rfl (lv_at hl 0 rfl) ?_
        refine g_geti C hR (k := 3) (j := 4) (live_st (by decide)) rfl rfl (vw6) inl6 (by decide) q124 dX6_firstBit_60 ?_
        refine lv_imul hx hb dX6_firstBit_63 ?_
        obtain ⟨x17, ex17, h⟩ := lt_e h
        refine g_nmi ex17 ?_
        refine lv_istore (lv' := [(7, .int x17), (0, .ref (α 3)), (1, .int v1), (2, .int v2), (3, .int v3), (4, .int v4), (5, .ref (α (200 + 2 * n5))), (6, .int v6)]) hx hb dX6_firstBit_64 hl (by decide) rfl (fun ls hl => ?_)
        refine lv_iload_n hx hb dX6_firstBit_66 rfl (lv_at hl 3 rfl) ?_
        refine lv_iconst (v := -1) hx hb dX6_firstBit_67 (by decide) ?_
        obtain ⟨J89, eJ89, h⟩ := lt_e h
        have hJ89 : ∀ (x18 : Int32) (S19 : St) (H : Heap) (locs : List Loc) (ls : Array Slot), Rp E α g S19 H → va_S E.2.2.1 s.heap H locs → lv_has ls 9 [(0, .ref (α 3)), (1, .int v1), (2, .int v2), (3, .int v3), (4, .int v4), (5, .ref (α (200 + 2 * n5))), (6, .int v6), (7, .int x18)] → J89 x18 S19 = some z → W p l e rm_X6_firstBit s m args below meth c H locs 0 0 (MQ below (Qi E α g z) args s 0 0 E.2.2.1) (F0 m 89 ls []) := by
          intro x18 S19 H locs ls  hR hS hl h
          rw [eJ89] at h
          refine lv_aload_n hx hb dX6_firstBit_89 rfl (lv_at hl 0 rfl) ?_
          refine lv_aload hx hb dX6_firstBit_90 (lv_at hl 5 rfl) ?_
          refine lv_iload hx hb dX6_firstBit_92 (lv_at hl 6 rfl) ?_
          refine lv_iload_n hx hb dX6_firstBit_94 rfl (lv_at hl 1 rfl) ?_
          refine lv_iload_n hx hb dX6_firstBit_95 rfl (lv_at hl 3 rfl) ?_
          refine lv_iload hx hb dX6_firstBit_96 (lv_at hl 7 rfl) ?_
          refine lv_isub hx hb dX6_firstBit_98 ?_
          obtain ⟨r20, S21, hr20, h⟩ := bd_e h
          refine g_ci hS (g_runV C hR hS (k := 3) (As := [.ref (α (200 + 2 * n5)), .int v6, .int v1, .int (v3 - x18)]) (rest := []) (c_X6_fewest l hn5 hr20) (live_st (by decide)) rfl (vw6) m_X6_fewest q525 ⟨rfl, rfl⟩ ⟨Nat.le_of_ble_eq_true rfl, Nat.le_of_ble_eq_true rfl⟩ rfl hl.1 rfl (Nat.le_of_ble_eq_true rfl) dX6_firstBit_99 ⟨Nat.zero_le _, Nat.zero_le _⟩) (fun H locs hR hS => ?_)
          refine lv_istore (lv' := [(8, .int r20), (0, .ref (α 3)), (1, .int v1), (2, .int v2), (3, .int v3), (4, .int v4), (5, .ref (α (200 + 2 * n5))), (6, .int v6), (7, .int x18)]) hx hb dX6_firstBit_102 hl (by decide) rfl (fun ls hl => ?_)
          refine lv_iload hx hb dX6_firstBit_104 (lv_at hl 0 rfl) ?_
          refine lv_if_le (tgt := 125) hx hb dX6_firstBit_106 (by decide) (fun c22 => ?_) (fun c22 => ?_)
          · have h := ite_t c22 h
            obtain ⟨x23, ex23, h⟩ := lt_e h
            refine lv_iinc (v := x23) (lv' := [(6, .int x23), (8, .int r20), (0, .ref (α 3)), (1, .int v1), (2, .int v2), (3, .int v3), (4, .int v4), (5, .ref (α (200 + 2 * n5))), (7, .int x18)]) hx hb dX6_firstBit_125 hl (k := 7) rfl (by rw [ex23]; rfl) (by decide) rfl (fun ls hl => ?_)
            refine lv_goto (tgt := 30) hx hb dX6_firstBit_128 (by decide) ?_
            exact ih _ _ _ _ _  hR hS (lv_sub hl [2, 3, 4, 5, 6, 7, 0] rfl) h
          · have h := ite_f c22 h
            exact hK109 _ _ _ _ _ _  hR hS (lv_sub hl [5, 7, 0] rfl) h
        clear eJ89
        refine lv_icmp_eq (tgt := 89) hx hb dX6_firstBit_68 (by decide) (fun c24 => ?_) (fun c24 => ?_)
        · have h := ite_t c24 h
          exact hJ89 _ _ _ _ _  hR hS (lv_sub hl [1, 2, 3, 4, 5, 6, 7, 0] rfl) h
        · have h := ite_f c24 h
          refine lv_iload hx hb dX6_firstBit_71 (lv_at hl 0 rfl) ?_
          refine lv_iload_n hx hb dX6_firstBit_73 rfl (lv_at hl 3 rfl) ?_
          refine lv_aload hx hb dX6_firstBit_74 (lv_at hl 6 rfl) ?_
          refine g_getr (t := (200 + 2 * n5 + 1)) C hR (k := (200 + 2 * n5)) (j := 3) (live_p hn5) (lay_p (Nat.lt_of_lt_of_le hn5 hR.1.1)) rfl (vw3) inl3 (by decide) q394 dX6_firstBit_76 ?_
          refine lv_iload hx hb dX6_firstBit_79 (lv_at hl 7 rfl) ?_
          obtain ⟨g25, h⟩ := gd_e h
          refine g_iald C hR (k := (200 + 2 * n5 + 1)) (n := 8) (live_pt hn5) (lay_pt (Nat.lt_of_lt_of_le hn5 hR.1.1)) g25 dX6_firstBit_81 ?_
          refine lv_isub hx hb dX6_firstBit_82 ?_
          refine g_mabs C (hml.trans hl.1.symm) q522 (Nat.le_of_ble_eq_true rfl) (Nat.le_of_ble_eq_true rfl) (Nat.zero_le _) (Nat.zero_le _) dX6_firstBit_83 ?_
          refine lv_iadd hx hb dX6_firstBit_86 ?_
          obtain ⟨x26, ex26, h⟩ := lt_e h
          refine g_nmi ex26 ?_
          refine lv_istore (lv' := [(7, .int x26), (0, .ref (α 3)), (1, .int v1), (2, .int v2), (3, .int v3), (4, .int v4), (5, .ref (α (200 + 2 * n5))), (6, .int v6)]) hx hb dX6_firstBit_87 hl (by decide) rfl (fun ls hl => ?_)
          exact hJ89 _ _ _ _ _  hR hS (lv_sub hl [1, 2, 3, 4, 5, 6, 7, 0] rfl) h

set_option maxHeartbeats 4000000 in
set_option maxRecDepth 100000 in
theorem w_X6_firstBit_L3 {p : Program} {l : Launch} {e : Env} {s : State} {m : MethodId} {args : Array Value} {below : List Frame} {meth : Method} {c : Code} {E : En} {α : Nat → Nat} {g : Nat × Nat} (C : Cx p s m args meth c RX6 cX6_firstBit 9 (some .int) E) {z : Int32 × St} {K109 : Int32 → Int32 → Int32 → St → Option (Int32 × St)} {K137 : St → Option (Int32 × St)} {v1 : Int32} {v2 : Int32} {v3 : Int32}
    (hK109 : ∀ (y4 : Int32) (y6 : Int32) (y8 : Int32) (S : St) (H : Heap) (locs : List Loc) (ls : Array Slot), Rp E α g S H → va_S E.2.2.1 s.heap H locs → lv_has ls 9 [(4, .int y4), (6, .int y6), (8, .int y8)] → K109 y4 y6 y8 S = some z → W p l e rm_X6_firstBit s m args below meth c H locs 0 0 (MQ below (Qi E α g z) args s 0 0 E.2.2.1) (F0 m 109 ls []))
    (hK137 : ∀ (S : St) (H : Heap) (locs : List Loc) (ls : Array Slot), Rp E α g S H → va_S E.2.2.1 s.heap H locs → lv_has ls 9 [] → K137  S = some z → W p l e rm_X6_firstBit s m args below meth c H locs 0 0 (MQ below (Qi E α g z) args s 0 0 E.2.2.1) (F0 m 137 ls [])) :
    ∀ (f : Nat) (v4 : Int32) (S : St) (H : Heap) (locs : List Loc) (ls : Array Slot), Rp E α g S H → va_S E.2.2.1 s.heap H locs → lv_has ls 9 [(0, .ref (α 3)), (1, .int v1), (2, .int v2), (3, .int v3), (4, .int v4)] → f_X6_firstBit_L3 K109 K137 v1 v2 v3 f v4 S = some z → W p l e rm_X6_firstBit s m args below meth c H locs 0 0 (MQ below (Qi E α g z) args s 0 0 E.2.2.1) (F0 m 3 ls []) := by
  obtain ⟨hx, hb, hml, hown, hts, hlk, hrt, hKs⟩ := id C
  intro f
  induction f with
  | zero =>
    intro v4 S H locs ls  hR hS hl h
    rw [f_X6_firstBit_L3] at h
    cases h
  | succ f ih =>
    intro v4 S H locs ls  hR hS hl h
    rw [f_X6_firstBit_L3] at h
    refine lv_iload hx hb dX6_firstBit_3 (lv_at hl 4 rfl) ?_
    refine lv_aload_n hx hb dX6_firstBit_5 rfl (lv_at hl 0 rfl) ?_
    refine g_getr (t := 1) C hR (k := 3) (j := 0) (live_st (by decide)) rfl rfl (vw6) inl6 (by decide) q120 dX6_firstBit_6 ?_
    refine g_geti C hR (k := 1) (j := 1) (live_st (by decide)) rfl rfl (vw8) inl8 (by decide) q108 dX6_firstBit_9 ?_
    refine lv_icmp_ge (tgt := 137) hx hb dX6_firstBit_12 (by decide) (fun c9 => ?_) (fun c9 => ?_)
    · have h := ite_t c9 h
      exact hK137  _ _ _ _  hR hS (lv_sub hl [] rfl) h
    · have h := ite_f c9 h
      refine lv_aload_n hx hb dX6_firstBit_15 rfl (lv_at hl 0 rfl) ?_
      refine g_getr (t := 1) C hR (k := 3) (j := 0) (live_st (by decide)) rfl rfl (vw6) inl6 (by decide) q120 dX6_firstBit_16 ?_
      refine g_getr (t := 2) C hR (k := 1) (j := 0) (live_st (by decide)) rfl rfl (vw8) inl8 (by decide) q105 dX6_firstBit_19 ?_
      refine lv_iload hx hb dX6_firstBit_22 (lv_at hl 4 rfl) ?_
      obtain ⟨g10, h⟩ := gd_e h
      refine g_aldP C hR g10.1 g10.2 dX6_firstBit_24 (fun hn11 => ?_)
      obtain ⟨n12, en12, h⟩ := lt_e h
      have hn12 : n12 < g.1 := by rw [en12]; exact hn11
      refine g_nmP en12 ?_
      refine lv_astore (lv' := [(5, .ref (α (200 + 2 * n12))), (0, .ref (α 3)), (1, .int v1), (2, .int v2), (3, .int v3), (4, .int v4)]) hx hb dX6_firstBit_25 hl (by decide) rfl (fun ls hl => ?_)
      refine lv_iconst (v := 0) hx hb dX6_firstBit_27 (by decide) ?_
      refine lv_istore (lv' := [(6, .int (0 : Int32)), (5, .ref (α (200 + 2 * n12))), (0, .ref (α 3)), (1, .int v1), (2, .int v2), (3, .int v3), (4, .int v4)]) hx hb dX6_firstBit_28 hl (by decide) rfl (fun ls hl => ?_)
      refine w_X6_firstBit_L30 C ?_ ?_ hn12 _ _ _ _ _ _  hR hS (lv_sub hl [2, 3, 4, 5, 6, 1, 0] rfl) h
      · intro x27 x28 S29 H locs ls  hR hS hl h
        exact hK109 _ _ _ _ _ _ _  hR hS hl h
      · intro  S30 H locs ls  hR hS hl h
        obtain ⟨x31, ex31, h⟩ := lt_e h
        refine lv_iinc (v := x31) (lv' := [(4, .int x31), (0, .ref (α 3)), (1, .int v1), (2, .int v2), (3, .int v3)]) hx hb dX6_firstBit_131 hl (k := 4) rfl (by rw [ex31]; rfl) (by decide) rfl (fun ls hl => ?_)
        refine lv_goto (tgt := 3) hx hb dX6_firstBit_134 (by decide) ?_
        exact ih _ _ _ _ _  hR hS (lv_sub hl [1, 2, 3, 4, 0] rfl) h

set_option maxHeartbeats 4000000 in
set_option maxRecDepth 100000 in
theorem c_X6_firstBit (l : Launch) {E : En} {α : Nat → Nat} {g : Nat × Nat} {v1 : Int32} {v2 : Int32} {v3 : Int32} {S : St}  {z : Int32 × St} (h : f_X6_firstBit v1 v2 v3 S = some z) : Met l yX6_firstBit (wsY yX6_firstBit cX6_firstBit 9 (some .int)) rm_X6_firstBit (va_Pc [.ref (α 3), .int v1, .int v2, .int v3] (Wd E α g S)) (Qi E α g z) 0 0 E.2.2.1 := by
  refine g_met [.ref (α 3), .int v1, .int v2, .int v3] (by decide) rfl (Nat.le_of_ble_eq_true rfl) ?_
  intro p e s m below meth c ls C hR hl
  generalize hae : ([.ref (α 3), .int v1, .int v2, .int v3] : List Value).toArray = args at C ⊢
  have hl : lv_has ls 9 [(0, .ref (α 3)), (1, .int v1), (2, .int v2), (3, .int v3)] := hl
  obtain ⟨hx, hb, hml, hown, hts, hlk, hrt, hKs⟩ := id C
  have hS : va_S E.2.2.1 s.heap s.heap [] := va_S.rf
  unfold f_X6_firstBit at h
  refine lv_iconst (v := 0) hx hb dX6_firstBit_0 (by decide) ?_
  refine lv_istore (lv' := [(4, .int (0 : Int32)), (0, .ref (α 3)), (1, .int v1), (2, .int v2), (3, .int v3)]) hx hb dX6_firstBit_1 hl (by decide) rfl (fun ls hl => ?_)
  refine w_X6_firstBit_L3 C ?_ ?_  _ _ _ _ _ _  hR hS (lv_sub hl [1, 2, 3, 4, 0] rfl) h
  · intro x32 x33 x34 S35 H locs ls  hR hS hl h
    refine lv_sipush (v := 256) hx hb dX6_firstBit_109 (by decide) ?_
    refine lv_iload hx hb dX6_firstBit_112 (lv_at hl 0 rfl) ?_
    refine lv_imul hx hb dX6_firstBit_114 ?_
    refine lv_bipush (v := 16) hx hb dX6_firstBit_115 (by decide) ?_
    refine lv_iload hx hb dX6_firstBit_117 (lv_at hl 1 rfl) ?_
    refine lv_imul hx hb dX6_firstBit_119 ?_
    refine lv_iadd hx hb dX6_firstBit_120 ?_
    refine lv_iload hx hb dX6_firstBit_121 (lv_at hl 2 rfl) ?_
    refine lv_iadd hx hb dX6_firstBit_123 ?_
    exact g_iret C hR hS h dX6_firstBit_124
  · intro  S36 H locs ls  hR hS hl h
    refine lv_iconst (v := -1) hx hb dX6_firstBit_137 (by decide) ?_
    exact g_iret C hR hS h dX6_firstBit_138
