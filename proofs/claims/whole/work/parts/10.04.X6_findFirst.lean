/-! OneVoice$Sayer.findFirst()V -/
abbrev rm_X6_findFirst : Room := { frames := 3, cells := 0, slots := 0, locals := 77 }
theorem m_X6_findFirst : MV yX6_findFirst RX6 cX6_findFirst 6 none 0 := ⟨q515, q516, q70, q517, by decide +kernel⟩
def f_X6_findFirst_L24 (K56 : St → Option (Unit × St)) (K135 : St → Option (Unit × St))  : Nat → Int32 → Int32 → Int32 → St → Option (Unit × St)
  | 0, _, _, _, _ => none
  | f + 1, v1, v2, v3, S =>
    if (rd S 3 2) ≤ v1 then
      K135  S
    else
      if (16 : Int32) ≤ (rd S 3 17) then
        K135  S
      else
        bd_ (f_X6_firstBit v1 v2 v3 S) fun r18 S19 =>
        if r18 = (-1 : Int32) then
          K56  S19
        else
          gd_ (inb (rd S19 3 17) 16) <|
          lt_ (wr S19 13 (Int32.toNatClampNeg (rd S19 3 17)) r18) fun S21 =>
          lt_ (wr S21 3 17 ((rd S21 3 17) + (1 : Int32))) fun S23 =>
          lt_ (r18 &&& (15 : Int32)) fun x24 =>
          gd_ (inb (ushr r18 (8 : Int32)) 16 ∧ (Int32.toNatClampNeg (ushr r18 (8 : Int32))) < nP S23) <|
          gd_ (inb ((((ushr r18 (4 : Int32)) &&& (15 : Int32)) + x24) - (1 : Int32)) 8) <|
          lt_ (rd S23 (200 + 2 * (Int32.toNatClampNeg (ushr r18 (8 : Int32))) + 1) (Int32.toNatClampNeg ((((ushr r18 (4 : Int32)) &&& (15 : Int32)) + x24) - (1 : Int32)))) fun x28 =>
          lt_ (v1 + x24) fun x29 =>
          gd_ (inb ((x29 * (100 : Int32)) + x28) 1700) <|
          lt_ (rd S23 7 (Int32.toNatClampNeg ((x29 * (100 : Int32)) + x28))) fun x31 =>
          f_X6_findFirst_L24 K56 K135 f x29 x28 x31 S23

def f_X6_findFirst  (S : St) : Option (Unit × St) :=
  lt_ (wr S 3 17 (0 : Int32)) fun S13 =>
  if (rd S13 3 14) < (1000000 : Int32) then
    lt_ (rd S13 3 14) fun x15 =>
    f_X6_findFirst_L24
      (fun  (S32 : St) =>
        some ((), S32))
      (fun  (S33 : St) =>
        some ((), S33))
       FU (0 : Int32) (-1 : Int32) x15 S13
  else
    some ((), S13)

set_option maxHeartbeats 4000000 in
set_option maxRecDepth 100000 in
theorem w_X6_findFirst_L24 {p : Program} {l : Launch} {e : Env} {s : State} {m : MethodId} {args : Array Value} {below : List Frame} {meth : Method} {c : Code} {E : En} {α : Nat → Nat} {g : Nat × Nat} (C : Cx p s m args meth c RX6 cX6_findFirst 6 none E) {z : Unit × St} {K56 : St → Option (Unit × St)} {K135 : St → Option (Unit × St)}
    (hK56 : ∀ (S : St) (H : Heap) (locs : List Loc) (ls : Array Slot), Rp E α g S H → va_S E.2.2.1 s.heap H locs → lv_has ls 6 [] → K56  S = some z → W p l e rm_X6_findFirst s m args below meth c H locs 0 0 (MQ below (Qv E α g z) args s 0 0 E.2.2.1) (F0 m 56 ls []))
    (hK135 : ∀ (S : St) (H : Heap) (locs : List Loc) (ls : Array Slot), Rp E α g S H → va_S E.2.2.1 s.heap H locs → lv_has ls 6 [] → K135  S = some z → W p l e rm_X6_findFirst s m args below meth c H locs 0 0 (MQ below (Qv E α g z) args s 0 0 E.2.2.1) (F0 m 135 ls [])) :
    ∀ (f : Nat) (v1 : Int32) (v2 : Int32) (v3 : Int32) (S : St) (H : Heap) (locs : List Loc) (ls : Array Slot), Rp E α g S H → va_S E.2.2.1 s.heap H locs → lv_has ls 6 [(0, .ref (α 3)), (1, .int v1), (2, .int v2), (3, .int v3)] → f_X6_findFirst_L24 K56 K135 f v1 v2 v3 S = some z → W p l e rm_X6_findFirst s m args below meth c H locs 0 0 (MQ below (Qv E α g z) args s 0 0 E.2.2.1) (F0 m 24 ls []) := by
  obtain ⟨hx, hb, hml, hown, hts, hlk, hrt, hKs⟩ := id C
  intro f
  induction f with
  | zero =>
    intro v1 v2 v3 S H locs ls  hR hS hl h
    rw [f_X6_findFirst_L24] at h
    cases h
  | succ f ih =>
    intro v1 v2 v3 S H locs ls  hR hS hl h
    rw [f_X6_findFirst_L24] at h
    refine lv_iload_n hx hb dX6_findFirst_24 rfl (lv_at hl 1 rfl) ?_
    refine lv_aload_n hx hb dX6_findFirst_25 rfl (lv_at hl 0 rfl) ?_
    refine g_geti C hR (k := 3) (j := 2) (live_st (by decide)) rfl rfl (vw6) inl6 (by decide) q122 dX6_findFirst_26 ?_
    refine lv_icmp_ge (tgt := 135) hx hb dX6_findFirst_29 (by decide) (fun c16 => ?_) (fun c16 => ?_)
    · have h := ite_t c16 h
      exact hK135  _ _ _ _  hR hS (lv_sub hl [] rfl) h
    · have h := ite_f c16 h
      refine lv_aload_n hx hb dX6_findFirst_32 rfl (lv_at hl 0 rfl) ?_
      refine g_geti C hR (k := 3) (j := 17) (live_st (by decide)) rfl rfl (vw6) inl6 (by decide) q141 dX6_findFirst_33 ?_
      refine lv_bipush (v := 16) hx hb dX6_findFirst_36 (by decide) ?_
      refine lv_icmp_ge (tgt := 135) hx hb dX6_findFirst_38 (by decide) (fun c17 => ?_) (fun c17 => ?_)
      · have h := ite_t c17 h
        exact hK135  _ _ _ _  hR hS (lv_sub hl [] rfl) h
      · have h := ite_f c17 h
        refine lv_aload_n hx hb dX6_findFirst_41 rfl (lv_at hl 0 rfl) ?_
        refine lv_iload_n hx hb dX6_findFirst_42 rfl (lv_at hl 1 rfl) ?_
        refine lv_iload_n hx hb dX6_findFirst_43 rfl (lv_at hl 2 rfl) ?_
        refine lv_iload_n hx hb dX6_findFirst_44 rfl (lv_at hl 3 rfl) ?_
        obtain ⟨r18, S19, hr18, h⟩ := bd_e h
        refine g_ci hS (g_runV C hR hS (k := 3) (As := [.int v1, .int v2, .int v3]) (rest := []) (c_X6_firstBit l  hr18) (live_st (by decide)) rfl (vw6) m_X6_firstBit q518 ⟨rfl, rfl⟩ ⟨Nat.le_of_ble_eq_true rfl, Nat.le_of_ble_eq_true rfl⟩ rfl hl.1 rfl (Nat.le_of_ble_eq_true rfl) dX6_findFirst_45 ⟨Nat.zero_le _, Nat.zero_le _⟩) (fun H locs hR hS => ?_)
        refine lv_istore (lv' := [(4, .int r18), (0, .ref (α 3)), (1, .int v1), (2, .int v2), (3, .int v3)]) hx hb dX6_findFirst_48 hl (by decide) rfl (fun ls hl => ?_)
        refine lv_iload hx hb dX6_findFirst_50 (lv_at hl 0 rfl) ?_
        refine lv_iconst (v := -1) hx hb dX6_findFirst_52 (by decide) ?_
        refine lv_icmp_ne (tgt := 57) hx hb dX6_findFirst_53 (by decide) (fun c20 => ?_) (fun c20 => ?_)
        · have h := ite_f c20 h
          refine lv_aload_n hx hb dX6_findFirst_57 rfl (lv_at hl 1 rfl) ?_
          refine g_getr (t := 13) C hR (k := 3) (j := 16) (live_st (by decide)) rfl rfl (vw6) inl6 (by decide) q138 dX6_findFirst_58 ?_
          refine lv_aload_n hx hb dX6_findFirst_61 rfl (lv_at hl 1 rfl) ?_
          refine g_geti C hR (k := 3) (j := 17) (live_st (by decide)) rfl rfl (vw6) inl6 (by decide) q141 dX6_findFirst_62 ?_
          refine lv_iload hx hb dX6_findFirst_65 (lv_at hl 0 rfl) ?_
          obtain ⟨g22, h⟩ := gd_e h
          obtain ⟨S21, eS21, h⟩ := lt_e h
          refine g_iast C hR hS (k := 13) (n := 16) (live_st (by decide)) rfl g22 eS21 dX6_findFirst_67 (fun H locs hR hS => ?_)
          refine lv_aload_n hx hb dX6_findFirst_68 rfl (lv_at hl 1 rfl) ?_
          refine lv_dup hx hb dX6_findFirst_69 rfl ?_
          refine g_geti C hR (k := 3) (j := 17) (live_st (by decide)) rfl rfl (vw6) inl6 (by decide) q141 dX6_findFirst_70 ?_
          refine lv_iconst (v := 1) hx hb dX6_findFirst_73 (by decide) ?_
          refine lv_iadd hx hb dX6_findFirst_74 ?_
          obtain ⟨S23, eS23, h⟩ := lt_e h
          refine g_puti C hR hS (k := 3) (j := 17) (live_st (by decide)) rfl rfl (vw6) inl6 (by decide) (ty0 := tyX6) tyX6_ok nmX6 q141 rfl rfl rfl eS23 dX6_findFirst_75 (fun H locs hR hS => ?_)
          refine lv_iload hx hb dX6_findFirst_78 (lv_at hl 0 rfl) ?_
          refine lv_bipush (v := 15) hx hb dX6_findFirst_80 (by decide) ?_
          refine lv_iand hx hb dX6_findFirst_82 ?_
          obtain ⟨x24, ex24, h⟩ := lt_e h
          refine g_nmi ex24 ?_
          refine lv_istore (lv' := [(5, .int x24), (4, .int r18), (0, .ref (α 3)), (1, .int v1), (2, .int v2), (3, .int v3)]) hx hb dX6_findFirst_83 hl (by decide) rfl (fun ls hl => ?_)
          refine lv_aload_n hx hb dX6_findFirst_85 rfl (lv_at hl 2 rfl) ?_
          refine g_getr (t := 1) C hR (k := 3) (j := 0) (live_st (by decide)) rfl rfl (vw6) inl6 (by decide) q120 dX6_findFirst_86 ?_
          refine g_getr (t := 2) C hR (k := 1) (j := 0) (live_st (by decide)) rfl rfl (vw8) inl8 (by decide) q105 dX6_findFirst_89 ?_
          refine lv_iload hx hb dX6_findFirst_92 (lv_at hl 1 rfl) ?_
          refine lv_bipush (v := 8) hx hb dX6_findFirst_94 (by decide) ?_
          refine lv_iushr (v := ushr r18 (8 : Int32)) hx hb dX6_findFirst_96 rfl ?_
          obtain ⟨g25, h⟩ := gd_e h
          refine g_aldP C hR g25.1 g25.2 dX6_findFirst_97 (fun hn26 => ?_)
          refine g_getr (t := (200 + 2 * (Int32.toNatClampNeg (ushr r18 (8 : Int32))) + 1)) C hR (k := (200 + 2 * (Int32.toNatClampNeg (ushr r18 (8 : Int32))))) (j := 3) (live_p hn26) (lay_p (Nat.lt_of_lt_of_le hn26 hR.1.1)) rfl (vw3) inl3 (by decide) q394 dX6_findFirst_98 ?_
          refine lv_iload hx hb dX6_findFirst_101 (lv_at hl 1 rfl) ?_
          refine lv_iconst (v := 4) hx hb dX6_findFirst_103 (by decide) ?_
          refine lv_iushr (v := ushr r18 (4 : Int32)) hx hb dX6_findFirst_104 rfl ?_
          refine lv_bipush (v := 15) hx hb dX6_findFirst_105 (by decide) ?_
          refine lv_iand hx hb dX6_findFirst_107 ?_
          refine lv_iload hx hb dX6_findFirst_108 (lv_at hl 0 rfl) ?_
          refine lv_iadd hx hb dX6_findFirst_110 ?_
          refine lv_iconst (v := 1) hx hb dX6_findFirst_111 (by decide) ?_
          refine lv_isub hx hb dX6_findFirst_112 ?_
          obtain ⟨g27, h⟩ := gd_e h
          refine g_iald C hR (k := (200 + 2 * (Int32.toNatClampNeg (ushr r18 (8 : Int32))) + 1)) (n := 8) (live_pt hn26) (lay_pt (Nat.lt_of_lt_of_le hn26 hR.1.1)) g27 dX6_findFirst_113 ?_
          obtain ⟨x28, ex28, h⟩ := lt_e h
          refine g_nmi ex28 ?_
          refine lv_istore_n (lv' := [(2, .int x28), (5, .int x24), (4, .int r18), (0, .ref (α 3)), (1, .int v1), (3, .int v3)]) hx hb dX6_findFirst_114 rfl hl (by decide) rfl (fun ls hl => ?_)
          refine lv_iload_n hx hb dX6_findFirst_115 rfl (lv_at hl 4 rfl) ?_
          refine lv_iload hx hb dX6_findFirst_116 (lv_at hl 1 rfl) ?_
          refine lv_iadd hx hb dX6_findFirst_118 ?_
          obtain ⟨x29, ex29, h⟩ := lt_e h
          refine g_nmi ex29 ?_
          refine lv_istore_n (lv' := [(1, .int x29), (2, .int x28), (5, .int x24), (4, .int r18), (0, .ref (α 3)), (3, .int v3)]) hx hb dX6_findFirst_119 rfl hl (by decide) rfl (fun ls hl => ?_)
          refine lv_aload_n hx hb dX6_findFirst_120 rfl (lv_at hl 4 rfl) ?_
          refine g_getr (t := 7) C hR (k := 3) (j := 8) (live_st (by decide)) rfl rfl (vw6) inl6 (by decide) q129 dX6_findFirst_121 ?_
          refine lv_iload_n hx hb dX6_findFirst_124 rfl (lv_at hl 0 rfl) ?_
          refine lv_bipush (v := 100) hx hb dX6_findFirst_125 (by decide) ?_
          refine lv_imul hx hb dX6_findFirst_127 ?_
          refine lv_iload_n hx hb dX6_findFirst_128 rfl (lv_at hl 1 rfl) ?_
          refine lv_iadd hx hb dX6_findFirst_129 ?_
          obtain ⟨g30, h⟩ := gd_e h
          refine g_iald C hR (k := 7) (n := 1700) (live_st (by decide)) rfl g30 dX6_findFirst_130 ?_
          obtain ⟨x31, ex31, h⟩ := lt_e h
          refine g_nmi ex31 ?_
          refine lv_istore_n (lv' := [(3, .int x31), (1, .int x29), (2, .int x28), (5, .int x24), (4, .int r18), (0, .ref (α 3))]) hx hb dX6_findFirst_131 rfl hl (by decide) rfl (fun ls hl => ?_)
          refine lv_goto (tgt := 24) hx hb dX6_findFirst_132 (by decide) ?_
          exact ih _ _ _ _ _ _ _  hR hS (lv_sub hl [5, 1, 2, 0] rfl) h
        · have h := ite_t c20 h
          exact hK56  _ _ _ _  hR hS (lv_sub hl [] rfl) h

set_option maxHeartbeats 4000000 in
set_option maxRecDepth 100000 in
theorem c_X6_findFirst (l : Launch) {E : En} {α : Nat → Nat} {g : Nat × Nat}  {S : St}  {z : Unit × St} (h : f_X6_findFirst  S = some z) : Met l yX6_findFirst (wsY yX6_findFirst cX6_findFirst 6 none) rm_X6_findFirst (va_Pc [.ref (α 3)] (Wd E α g S)) (Qv E α g z) 0 0 E.2.2.1 := by
  refine g_met [.ref (α 3)] (by decide) rfl (Nat.le_of_ble_eq_true rfl) ?_
  intro p e s m below meth c ls C hR hl
  generalize hae : ([.ref (α 3)] : List Value).toArray = args at C ⊢
  have hl : lv_has ls 6 [(0, .ref (α 3))] := hl
  obtain ⟨hx, hb, hml, hown, hts, hlk, hrt, hKs⟩ := id C
  have hS : va_S E.2.2.1 s.heap s.heap [] := va_S.rf
  unfold f_X6_findFirst at h
  refine lv_aload_n hx hb dX6_findFirst_0 rfl (lv_at hl 0 rfl) ?_
  refine lv_iconst (v := 0) hx hb dX6_findFirst_1 (by decide) ?_
  obtain ⟨S13, eS13, h⟩ := lt_e h
  refine g_puti C hR hS (k := 3) (j := 17) (live_st (by decide)) rfl rfl (vw6) inl6 (by decide) (ty0 := tyX6) tyX6_ok nmX6 q141 rfl rfl rfl eS13 dX6_findFirst_2 (fun H locs hR hS => ?_)
  refine lv_aload_n hx hb dX6_findFirst_5 rfl (lv_at hl 0 rfl) ?_
  refine g_geti C hR (k := 3) (j := 14) (live_st (by decide)) rfl rfl (vw6) inl6 (by decide) q135 dX6_findFirst_6 ?_
  refine lv_ldc (v := 1000000) hx hb hown (hts _ q473) dX6_findFirst_9 ?_
  refine lv_icmp_lt (tgt := 15) hx hb dX6_findFirst_11 (by decide) (fun c14 => ?_) (fun c14 => ?_)
  · have h := ite_t c14 h
    refine lv_iconst (v := 0) hx hb dX6_findFirst_15 (by decide) ?_
    refine lv_istore_n (lv' := [(1, .int (0 : Int32)), (0, .ref (α 3))]) hx hb dX6_findFirst_16 rfl hl (by decide) rfl (fun ls hl => ?_)
    refine lv_iconst (v := -1) hx hb dX6_findFirst_17 (by decide) ?_
    refine lv_istore_n (lv' := [(2, .int (-1 : Int32)), (1, .int (0 : Int32)), (0, .ref (α 3))]) hx hb dX6_findFirst_18 rfl hl (by decide) rfl (fun ls hl => ?_)
    refine lv_aload_n hx hb dX6_findFirst_19 rfl (lv_at hl 2 rfl) ?_
    refine g_geti C hR (k := 3) (j := 14) (live_st (by decide)) rfl rfl (vw6) inl6 (by decide) q135 dX6_findFirst_20 ?_
    obtain ⟨x15, ex15, h⟩ := lt_e h
    refine g_nmi ex15 ?_
    refine lv_istore_n (lv' := [(3, .int x15), (2, .int (-1 : Int32)), (1, .int (0 : Int32)), (0, .ref (α 3))]) hx hb dX6_findFirst_23 rfl hl (by decide) rfl (fun ls hl => ?_)
    refine w_X6_findFirst_L24 C ?_ ?_  _ _ _ _ _ _ _ _  hR hS (lv_sub hl [3, 2, 1, 0] rfl) h
    · intro  S32 H locs ls  hR hS hl h
      exact g_vret C hR hS h dX6_findFirst_56
    · intro  S33 H locs ls  hR hS hl h
      exact g_vret C hR hS h dX6_findFirst_135
  · have h := ite_f c14 h
    exact g_vret C hR hS h dX6_findFirst_14

/-! OneVoice$Station.join(II)V -/
abbrev rm_X7_join : Room := { frames := 0, cells := 0, slots := 0, locals := 0 }
theorem m_X7_join : MV yX7_join RX7 cX7_join 3 none 2 := ⟨q665, q666, q74, q667, by decide +kernel⟩
def f_X7_join (v1 : Int32) (v2 : Int32) (S : St) : Option (Unit × St) :=
  gd_ (inb v1 6) <|
  gd_ (inb v1 6) <|
  lt_ (wr S 46 (Int32.toNatClampNeg v1) ((rd S 46 (Int32.toNatClampNeg v1)) ||| ((1 : Int32) <<< (v2 &&& 31)))) fun S6 =>
  gd_ (inb v2 6) <|
  gd_ (inb v2 6) <|
  lt_ (wr S6 46 (Int32.toNatClampNeg v2) ((rd S6 46 (Int32.toNatClampNeg v2)) ||| ((1 : Int32) <<< (v1 &&& 31)))) fun S9 =>
  some ((), S9)

set_option maxHeartbeats 4000000 in
set_option maxRecDepth 100000 in
theorem c_X7_join (l : Launch) {E : En} {α : Nat → Nat} {g : Nat × Nat} {v1 : Int32} {v2 : Int32} {S : St}  {z : Unit × St} (h : f_X7_join v1 v2 S = some z) : Met l yX7_join (wsY yX7_join cX7_join 3 none) rm_X7_join (va_Pc [.ref (α 43), .int v1, .int v2] (Wd E α g S)) (Qv E α g z) 0 0 E.2.2.1 := by
  refine g_met [.ref (α 43), .int v1, .int v2] (by decide) rfl (Nat.le_of_ble_eq_true rfl) ?_
  intro p e s m below meth c ls C hR hl
  generalize hae : ([.ref (α 43), .int v1, .int v2] : List Value).toArray = args at C ⊢
  have hl : lv_has ls 3 [(0, .ref (α 43)), (1, .int v1), (2, .int v2)] := hl
  obtain ⟨hx, hb, hml, hown, hts, hlk, hrt, hKs⟩ := id C
  have hS : va_S E.2.2.1 s.heap s.heap [] := va_S.rf
  unfold f_X7_join at h
  refine lv_aload_n hx hb dX7_join_0 rfl (lv_at hl 0 rfl) ?_
  refine g_getr (t := 46) C hR (k := 43) (j := 4) (live_st (by decide)) rfl rfl (vw7) inl7 (by decide) q289 dX7_join_1 ?_
  refine lv_iload_n hx hb dX7_join_4 rfl (lv_at hl 1 rfl) ?_
  refine lv_dup2_11 hx hb dX7_join_5 rfl rfl ?_
  obtain ⟨g5, h⟩ := gd_e h
  refine g_iald C hR (k := 46) (n := 6) (live_st (by decide)) rfl g5 dX7_join_6 ?_
  refine lv_iconst (v := 1) hx hb dX7_join_7 (by decide) ?_
  refine lv_iload_n hx hb dX7_join_8 rfl (lv_at hl 2 rfl) ?_
  refine lv_ishl hx hb dX7_join_9 ?_
  refine lv_ior hx hb dX7_join_10 ?_
  obtain ⟨g7, h⟩ := gd_e h
  obtain ⟨S6, eS6, h⟩ := lt_e h
  refine g_iast C hR hS (k := 46) (n := 6) (live_st (by decide)) rfl g7 eS6 dX7_join_11 (fun H locs hR hS => ?_)
  refine lv_aload_n hx hb dX7_join_12 rfl (lv_at hl 0 rfl) ?_
  refine g_getr (t := 46) C hR (k := 43) (j := 4) (live_st (by decide)) rfl rfl (vw7) inl7 (by decide) q289 dX7_join_13 ?_
  refine lv_iload_n hx hb dX7_join_16 rfl (lv_at hl 2 rfl) ?_
  refine lv_dup2_11 hx hb dX7_join_17 rfl rfl ?_
  obtain ⟨g8, h⟩ := gd_e h
  refine g_iald C hR (k := 46) (n := 6) (live_st (by decide)) rfl g8 dX7_join_18 ?_
  refine lv_iconst (v := 1) hx hb dX7_join_19 (by decide) ?_
  refine lv_iload_n hx hb dX7_join_20 rfl (lv_at hl 1 rfl) ?_
  refine lv_ishl hx hb dX7_join_21 ?_
  refine lv_ior hx hb dX7_join_22 ?_
  obtain ⟨g10, h⟩ := gd_e h
  obtain ⟨S9, eS9, h⟩ := lt_e h
  refine g_iast C hR hS (k := 46) (n := 6) (live_st (by decide)) rfl g10 eS9 dX7_join_23 (fun H locs hR hS => ?_)
  exact g_vret C hR hS h dX7_join_24

/-! OneVoice$Station.part(II)V -/
abbrev rm_X7_part : Room := { frames := 0, cells := 0, slots := 0, locals := 0 }
theorem m_X7_part : MV yX7_part RX7 cX7_part 3 none 2 := ⟨q669, q670, q74, q671, by decide +kernel⟩
def f_X7_part (v1 : Int32) (v2 : Int32) (S : St) : Option (Unit × St) :=
  gd_ (inb v1 6) <|
  gd_ (inb v1 6) <|
  lt_ (wr S 46 (Int32.toNatClampNeg v1) ((rd S 46 (Int32.toNatClampNeg v1)) &&& (((1 : Int32) <<< (v2 &&& 31)) ^^^ (-1 : Int32)))) fun S6 =>
  gd_ (inb v2 6) <|
  gd_ (inb v2 6) <|
  lt_ (wr S6 46 (Int32.toNatClampNeg v2) ((rd S6 46 (Int32.toNatClampNeg v2)) &&& (((1 : Int32) <<< (v1 &&& 31)) ^^^ (-1 : Int32)))) fun S9 =>
  some ((), S9)

set_option maxHeartbeats 4000000 in
set_option maxRecDepth 100000 in
theorem c_X7_part (l : Launch) {E : En} {α : Nat → Nat} {g : Nat × Nat} {v1 : Int32} {v2 : Int32} {S : St}  {z : Unit × St} (h : f_X7_part v1 v2 S = some z) : Met l yX7_part (wsY yX7_part cX7_part 3 none) rm_X7_part (va_Pc [.ref (α 43), .int v1, .int v2] (Wd E α g S)) (Qv E α g z) 0 0 E.2.2.1 := by
  refine g_met [.ref (α 43), .int v1, .int v2] (by decide) rfl (Nat.le_of_ble_eq_true rfl) ?_
  intro p e s m below meth c ls C hR hl
  generalize hae : ([.ref (α 43), .int v1, .int v2] : List Value).toArray = args at C ⊢
  have hl : lv_has ls 3 [(0, .ref (α 43)), (1, .int v1), (2, .int v2)] := hl
  obtain ⟨hx, hb, hml, hown, hts, hlk, hrt, hKs⟩ := id C
  have hS : va_S E.2.2.1 s.heap s.heap [] := va_S.rf
  unfold f_X7_part at h
  refine lv_aload_n hx hb dX7_part_0 rfl (lv_at hl 0 rfl) ?_
  refine g_getr (t := 46) C hR (k := 43) (j := 4) (live_st (by decide)) rfl rfl (vw7) inl7 (by decide) q289 dX7_part_1 ?_
  refine lv_iload_n hx hb dX7_part_4 rfl (lv_at hl 1 rfl) ?_
  refine lv_dup2_11 hx hb dX7_part_5 rfl rfl ?_
  obtain ⟨g5, h⟩ := gd_e h
  refine g_iald C hR (k := 46) (n := 6) (live_st (by decide)) rfl g5 dX7_part_6 ?_
  refine lv_iconst (v := 1) hx hb dX7_part_7 (by decide) ?_
  refine lv_iload_n hx hb dX7_part_8 rfl (lv_at hl 2 rfl) ?_
  refine lv_ishl hx hb dX7_part_9 ?_
  refine lv_iconst (v := -1) hx hb dX7_part_10 (by decide) ?_
  refine lv_ixor hx hb dX7_part_11 ?_
  refine lv_iand hx hb dX7_part_12 ?_
  obtain ⟨g7, h⟩ := gd_e h
  obtain ⟨S6, eS6, h⟩ := lt_e h
  refine g_iast C hR hS (k := 46) (n := 6) (live_st (by decide)) rfl g7 eS6 dX7_part_13 (fun H locs hR hS => ?_)
  refine lv_aload_n hx hb dX7_part_14 rfl (lv_at hl 0 rfl) ?_
  refine g_getr (t := 46) C hR (k := 43) (j := 4) (live_st (by decide)) rfl rfl (vw7) inl7 (by decide) q289 dX7_part_15 ?_
  refine lv_iload_n hx hb dX7_part_18 rfl (lv_at hl 2 rfl) ?_
  refine lv_dup2_11 hx hb dX7_part_19 rfl rfl ?_
  obtain ⟨g8, h⟩ := gd_e h
  refine g_iald C hR (k := 46) (n := 6) (live_st (by decide)) rfl g8 dX7_part_20 ?_
  refine lv_iconst (v := 1) hx hb dX7_part_21 (by decide) ?_
  refine lv_iload_n hx hb dX7_part_22 rfl (lv_at hl 1 rfl) ?_
  refine lv_ishl hx hb dX7_part_23 ?_
  refine lv_iconst (v := -1) hx hb dX7_part_24 (by decide) ?_
  refine lv_ixor hx hb dX7_part_25 ?_
  refine lv_iand hx hb dX7_part_26 ?_
  obtain ⟨g10, h⟩ := gd_e h
  obtain ⟨S9, eS9, h⟩ := lt_e h
  refine g_iast C hR hS (k := 46) (n := 6) (live_st (by decide)) rfl g10 eS9 dX7_part_27 (fun H locs hR hS => ?_)
  exact g_vret C hR hS h dX7_part_28

/-! OneVoice$Station.add(LOneVoice$Call;)I -/
abbrev rm_X7_add : Room := { frames := 0, cells := 0, slots := 0, locals := 0 }
theorem m_X7_add : MV yX7_add RX7 cX7_add 2 (some .int) 1 := ⟨q781, q782, q74, q783, by decide +kernel⟩
def f_X7_add (n1 : Nat) (S : St) : Option (Int32 × St) :=
  gd_ (inb (rd S 43 7) 24 ∧ Int32.toNatClampNeg (rd S 43 7) = nC S ∧ n1 = nC S) <|
  lt_ (wr S 900 1 (nI (nC S + 1))) fun S3 =>
  lt_ (wr S3 43 7 ((rd S3 43 7) + (1 : Int32))) fun S5 =>
  some (((rd S5 43 7) - (1 : Int32)), S5)

set_option maxHeartbeats 4000000 in
set_option maxRecDepth 100000 in
theorem c_X7_add (l : Launch) {E : En} {α : Nat → Nat} {g : Nat × Nat} {n1 : Nat} {S : St} (hn1 : n1 < g.2) {z : Int32 × St} (h : f_X7_add n1 S = some z) : Met l yX7_add (wsY yX7_add cX7_add 2 (some .int)) rm_X7_add (va_Pc [.ref (α 43), .ref (α (300 + 2 * n1))] (Wd E α g S)) (Qi E α g z) 0 0 E.2.2.1 := by
  refine g_met [.ref (α 43), .ref (α (300 + 2 * n1))] (by decide) rfl (Nat.le_of_ble_eq_true rfl) ?_
  intro p e s m below meth c ls C hR hl
  generalize hae : ([.ref (α 43), .ref (α (300 + 2 * n1))] : List Value).toArray = args at C ⊢
  have hl : lv_has ls 2 [(0, .ref (α 43)), (1, .ref (α (300 + 2 * n1)))] := hl
  obtain ⟨hx, hb, hml, hown, hts, hlk, hrt, hKs⟩ := id C
  have hS : va_S E.2.2.1 s.heap s.heap [] := va_S.rf
  unfold f_X7_add at h
  refine lv_aload_n hx hb dX7_add_0 rfl (lv_at hl 0 rfl) ?_
  refine g_getr (t := 48) C hR (k := 43) (j := 6) (live_st (by decide)) rfl rfl (vw7) inl7 (by decide) q292 dX7_add_1 ?_
  refine lv_aload_n hx hb dX7_add_4 rfl (lv_at hl 0 rfl) ?_
  refine g_geti C hR (k := 43) (j := 7) (live_st (by decide)) rfl rfl (vw7) inl7 (by decide) q294 dX7_add_5 ?_
  refine lv_aload_n hx hb dX7_add_8 rfl (lv_at hl 1 rfl) ?_
  obtain ⟨g4, h⟩ := gd_e h
  obtain ⟨S3, eS3, h⟩ := lt_e h
  refine g_astC C hR hS hn1 g4 eS3 dX7_add_9 (fun H locs hR hS => ?_)
  refine lv_aload_n hx hb dX7_add_10 rfl (lv_at hl 0 rfl) ?_
  refine lv_dup hx hb dX7_add_11 rfl ?_
  refine g_geti C hR (k := 43) (j := 7) (live_st (by decide)) rfl rfl (vw7) inl7 (by decide) q294 dX7_add_12 ?_
  refine lv_iconst (v := 1) hx hb dX7_add_15 (by decide) ?_
  refine lv_iadd hx hb dX7_add_16 ?_
  obtain ⟨S5, eS5, h⟩ := lt_e h
  refine g_puti C hR hS (k := 43) (j := 7) (live_st (by decide)) rfl rfl (vw7) inl7 (by decide) (ty0 := tyX7) tyX7_ok nmX7 q294 rfl rfl rfl eS5 dX7_add_17 (fun H locs hR hS => ?_)
  refine lv_aload_n hx hb dX7_add_20 rfl (lv_at hl 0 rfl) ?_
  refine g_geti C hR (k := 43) (j := 7) (live_st (by decide)) rfl rfl (vw7) inl7 (by decide) q294 dX7_add_21 ?_
  refine lv_iconst (v := 1) hx hb dX7_add_24 (by decide) ?_
  refine lv_isub hx hb dX7_add_25 ?_
  exact g_iret C hR hS h dX7_add_26

/-! OneVoice$Station.giveAll(I)I -/
abbrev rm_X7_giveAll : Room := { frames := 0, cells := 0, slots := 0, locals := 0 }
theorem m_X7_giveAll : MV yX7_giveAll RX7 cX7_giveAll 4 (some .int) 1 := ⟨q851, q852, q74, q853, by decide +kernel⟩
def f_X7_giveAll_L4 (K58 : Int32 → St → Option (Int32 × St)) (v1 : Int32) : Nat → Int32 → Int32 → St → Option (Int32 × St)
  | 0, _, _, _ => none
  | f + 1, v2, v3, S =>
    if (6 : Int32) ≤ v3 then
      K58 v2 S
    else
      gd_ (inb v3 6) <|
      lt_ (fun  (S10 : St) =>
          gd_ (inb v3 6) <|
          lt_ (fun (x12 : Int32) (S13 : St) =>
              lt_ (v3 + (1 : Int32)) fun x14 =>
              f_X7_giveAll_L4 K58 v1 f x12 x14 S13) fun J52 =>
          if (rd S10 44 (Int32.toNatClampNeg v3)) = v1 then
            lt_ (v2 + (1 : Int32)) fun x16 =>
            J52 x16 S10
          else
            J52 v2 S10) fun J39 =>
      if (rd S 45 (Int32.toNatClampNeg v3)) ≤ 0 then
        gd_ (inb v3 6) <|
        lt_ (wr S 44 (Int32.toNatClampNeg v3) v1) fun S18 =>
        J39  S18
      else
        gd_ (inb v3 6) <|
        gd_ (inb v3 6) <|
        lt_ (wr S 45 (Int32.toNatClampNeg v3) ((rd S 45 (Int32.toNatClampNeg v3)) - (1 : Int32))) fun S21 =>
        J39  S21

def f_X7_giveAll (v1 : Int32) (S : St) : Option (Int32 × St) :=
  f_X7_giveAll_L4
    (fun (x23 : Int32) (S24 : St) =>
      some (x23, S24))
    v1 FU (0 : Int32) (0 : Int32) S

set_option maxHeartbeats 4000000 in
set_option maxRecDepth 100000 in
theorem w_X7_giveAll_L4 {p : Program} {l : Launch} {e : Env} {s : State} {m : MethodId} {args : Array Value} {below : List Frame} {meth : Method} {c : Code} {E : En} {α : Nat → Nat} {g : Nat × Nat} (C : Cx p s m args meth c RX7 cX7_giveAll 4 (some .int) E) {z : Int32 × St} {K58 : Int32 → St → Option (Int32 × St)} {v1 : Int32}
    (hK58 : ∀ (y2 : Int32) (S : St) (H : Heap) (locs : List Loc) (ls : Array Slot), Rp E α g S H → va_S E.2.2.1 s.heap H locs → lv_has ls 4 [(2, .int y2)] → K58 y2 S = some z → W p l e rm_X7_giveAll s m args below meth c H locs 0 0 (MQ below (Qi E α g z) args s 0 0 E.2.2.1) (F0 m 58 ls [])) :
    ∀ (f : Nat) (v2 : Int32) (v3 : Int32) (S : St) (H : Heap) (locs : List Loc) (ls : Array Slot), Rp E α g S H → va_S E.2.2.1 s.heap H locs → lv_has ls 4 [(0, .ref (α 43)), (1, .int v1), (2, .int v2), (3, .int v3)] → f_X7_giveAll_L4 K58 v1 f v2 v3 S = some z → W p l e rm_X7_giveAll s m args below meth c H locs 0 0 (MQ below (Qi E α g z) args s 0 0 E.2.2.1) (F0 m 4 ls []) := by
  obtain ⟨hx, hb, hml, hown, hts, hlk, hrt, hKs⟩ := id C
  intro f
  induction f with
  | zero =>
    intro v2 v3 S H locs ls  hR hS hl h
    rw [f_X7_giveAll_L4] at h
    cases h
  | succ f ih =>
    intro v2 v3 S H locs ls  hR hS hl h
    rw [f_X7_giveAll_L4] at h
    refine lv_iload_n hx hb dX7_giveAll_4 rfl (lv_at hl 3 rfl) ?_
    refine lv_bipush (v := 6) hx hb dX7_giveAll_5 (by decide) ?_
    refine lv_icmp_ge (tgt := 58) hx hb dX7_giveAll_7 (by decide) (fun c8 => ?_) (fun c8 => ?_)
    · have h := ite_t c8 h
      exact hK58 _ _ _ _ _  hR hS (lv_sub hl [2] rfl) h
    · have h := ite_f c8 h
      refine lv_aload_n hx hb dX7_giveAll_10 rfl (lv_at hl 0 rfl) ?_
      refine g_getr (t := 45) C hR (k := 43) (j := 3) (live_st (by decide)) rfl rfl (vw7) inl7 (by decide) q287 dX7_giveAll_11 ?_
      refine lv_iload_n hx hb dX7_giveAll_14 rfl (lv_at hl 3 rfl) ?_
      obtain ⟨g9, h⟩ := gd_e h
      refine g_iald C hR (k := 45) (n := 6) (live_st (by decide)) rfl g9 dX7_giveAll_15 ?_
      obtain ⟨J39, eJ39, h⟩ := lt_e h
      have hJ39 : ∀ (S10 : St) (H : Heap) (locs : List Loc) (ls : Array Slot), Rp E α g S10 H → va_S E.2.2.1 s.heap H locs → lv_has ls 4 [(0, .ref (α 43)), (1, .int v1), (2, .int v2), (3, .int v3)] → J39  S10 = some z → W p l e rm_X7_giveAll s m args below meth c H locs 0 0 (MQ below (Qi E α g z) args s 0 0 E.2.2.1) (F0 m 39 ls []) := by
        intro  S10 H locs ls  hR hS hl h
        rw [eJ39] at h
        refine lv_aload_n hx hb dX7_giveAll_39 rfl (lv_at hl 0 rfl) ?_
        refine g_getr (t := 44) C hR (k := 43) (j := 2) (live_st (by decide)) rfl rfl (vw7) inl7 (by decide) q285 dX7_giveAll_40 ?_
        refine lv_iload_n hx hb dX7_giveAll_43 rfl (lv_at hl 3 rfl) ?_
        obtain ⟨g11, h⟩ := gd_e h
        refine g_iald C hR (k := 44) (n := 6) (live_st (by decide)) rfl g11 dX7_giveAll_44 ?_
        refine lv_iload_n hx hb dX7_giveAll_45 rfl (lv_at hl 1 rfl) ?_
        obtain ⟨J52, eJ52, h⟩ := lt_e h
        have hJ52 : ∀ (x12 : Int32) (S13 : St) (H : Heap) (locs : List Loc) (ls : Array Slot), Rp E α g S13 H → va_S E.2.2.1 s.heap H locs → lv_has ls 4 [(0, .ref (α 43)), (1, .int v1), (2, .int x12), (3, .int v3)] → J52 x12 S13 = some z → W p l e rm_X7_giveAll s m args below meth c H locs 0 0 (MQ below (Qi E α g z) args s 0 0 E.2.2.1) (F0 m 52 ls []) := by
          intro x12 S13 H locs ls  hR hS hl h
          rw [eJ52] at h
          obtain ⟨x14, ex14, h⟩ := lt_e h
          refine lv_iinc (v := x14) (lv' := [(3, .int x14), (0, .ref (α 43)), (1, .int v1), (2, .int x12)]) hx hb dX7_giveAll_52 hl (k := 3) rfl (by rw [ex14]; rfl) (by decide) rfl (fun ls hl => ?_)
          refine lv_goto (tgt := 4) hx hb dX7_giveAll_55 (by decide) ?_
          exact ih _ _ _ _ _ _  hR hS (lv_sub hl [1, 2, 3, 0] rfl) h
        clear eJ52
        refine lv_icmp_ne (tgt := 52) hx hb dX7_giveAll_46 (by decide) (fun c15 => ?_) (fun c15 => ?_)
        · have h := ite_f c15 h
          exact hJ52 _ _ _ _ _  hR hS hl h
        · have h := ite_t c15 h
          obtain ⟨x16, ex16, h⟩ := lt_e h
          refine lv_iinc (v := x16) (lv' := [(2, .int x16), (0, .ref (α 43)), (1, .int v1), (3, .int v3)]) hx hb dX7_giveAll_49 hl (k := 2) rfl (by rw [ex16]; rfl) (by decide) rfl (fun ls hl => ?_)
          exact hJ52 _ _ _ _ _  hR hS (lv_sub hl [1, 2, 0, 3] rfl) h
      clear eJ39
      refine lv_if_le (tgt := 32) hx hb dX7_giveAll_16 (by decide) (fun c17 => ?_) (fun c17 => ?_)
      · have h := ite_t c17 h
        refine lv_aload_n hx hb dX7_giveAll_32 rfl (lv_at hl 0 rfl) ?_
        refine g_getr (t := 44) C hR (k := 43) (j := 2) (live_st (by decide)) rfl rfl (vw7) inl7 (by decide) q285 dX7_giveAll_33 ?_
        refine lv_iload_n hx hb dX7_giveAll_36 rfl (lv_at hl 3 rfl) ?_
        refine lv_iload_n hx hb dX7_giveAll_37 rfl (lv_at hl 1 rfl) ?_
        obtain ⟨g19, h⟩ := gd_e h
        obtain ⟨S18, eS18, h⟩ := lt_e h
        refine g_iast C hR hS (k := 44) (n := 6) (live_st (by decide)) rfl g19 eS18 dX7_giveAll_38 (fun H locs hR hS => ?_)
        exact hJ39  _ _ _ _  hR hS hl h
      · have h := ite_f c17 h
        refine lv_aload_n hx hb dX7_giveAll_19 rfl (lv_at hl 0 rfl) ?_
        refine g_getr (t := 45) C hR (k := 43) (j := 3) (live_st (by decide)) rfl rfl (vw7) inl7 (by decide) q287 dX7_giveAll_20 ?_
        refine lv_iload_n hx hb dX7_giveAll_23 rfl (lv_at hl 3 rfl) ?_
        refine lv_dup2_11 hx hb dX7_giveAll_24 rfl rfl ?_
        obtain ⟨g20, h⟩ := gd_e h
        refine g_iald C hR (k := 45) (n := 6) (live_st (by decide)) rfl g20 dX7_giveAll_25 ?_
        refine lv_iconst (v := 1) hx hb dX7_giveAll_26 (by decide) ?_
        refine lv_isub hx hb dX7_giveAll_27 ?_
        obtain ⟨g22, h⟩ := gd_e h
        obtain ⟨S21, eS21, h⟩ := lt_e h
        refine g_iast C hR hS (k := 45) (n := 6) (live_st (by decide)) rfl g22 eS21 dX7_giveAll_28 (fun H locs hR hS => ?_)
        refine lv_goto (tgt := 39) hx hb dX7_giveAll_29 (by decide) ?_
        exact hJ39  _ _ _ _  hR hS hl h

set_option maxHeartbeats 4000000 in
set_option maxRecDepth 100000 in
theorem c_X7_giveAll (l : Launch) {E : En} {α : Nat → Nat} {g : Nat × Nat} {v1 : Int32} {S : St}  {z : Int32 × St} (h : f_X7_giveAll v1 S = some z) : Met l yX7_giveAll (wsY yX7_giveAll cX7_giveAll 4 (some .int)) rm_X7_giveAll (va_Pc [.ref (α 43), .int v1] (Wd E α g S)) (Qi E α g z) 0 0 E.2.2.1 := by
  refine g_met [.ref (α 43), .int v1] (by decide) rfl (Nat.le_of_ble_eq_true rfl) ?_
  intro p e s m below meth c ls C hR hl
  generalize hae : ([.ref (α 43), .int v1] : List Value).toArray = args at C ⊢
  have hl : lv_has ls 4 [(0, .ref (α 43)), (1, .int v1)] := hl
  obtain ⟨hx, hb, hml, hown, hts, hlk, hrt, hKs⟩ := id C
  have hS : va_S E.2.2.1 s.heap s.heap [] := va_S.rf
  unfold f_X7_giveAll at h
  refine lv_iconst (v := 0) hx hb dX7_giveAll_0 (by decide) ?_
  refine lv_istore_n (lv' := [(2, .int (0 : Int32)), (0, .ref (α 43)), (1, .int v1)]) hx hb dX7_giveAll_1 rfl hl (by decide) rfl (fun ls hl => ?_)
  refine lv_iconst (v := 0) hx hb dX7_giveAll_2 (by decide) ?_
  refine lv_istore_n (lv' := [(3, .int (0 : Int32)), (2, .int (0 : Int32)), (0, .ref (α 43)), (1, .int v1)]) hx hb dX7_giveAll_3 rfl hl (by decide) rfl (fun ls hl => ?_)
  refine w_X7_giveAll_L4 C ?_  _ _ _ _ _ _ _  hR hS (lv_sub hl [2, 3, 1, 0] rfl) h
  · intro x23 S24 H locs ls  hR hS hl h
    refine lv_iload_n hx hb dX7_giveAll_58 rfl (lv_at hl 0 rfl) ?_
    exact g_iret C hR hS h dX7_giveAll_59

/-! OneVoice$Station.growStale()V -/
abbrev rm_X7_growStale : Room := { frames := 0, cells := 0, slots := 0, locals := 0 }
theorem m_X7_growStale : MV yX7_growStale RX7 cX7_growStale 2 none 0 := ⟨q794, q20, q74, q795, by decide +kernel⟩
def f_X7_growStale_L2 (K54 : St → Option (Unit × St))  : Nat → Int32 → St → Option (Unit × St)
  | 0, _, _ => none
  | f + 1, v1, S =>
    if (rd S 43 7) ≤ v1 then
      K54  S
    else
      gd_ (inb v1 24 ∧ (Int32.toNatClampNeg v1) < nC S) <|
      lt_ (fun  (S12 : St) =>
          lt_ (v1 + (1 : Int32)) fun x13 =>
          f_X7_growStale_L2 K54 f x13 S12) fun J48 =>
      if (rd S (300 + 2 * (Int32.toNatClampNeg v1)) 6) = 0 then
        gd_ (inb v1 24 ∧ (Int32.toNatClampNeg v1) < nC S) <|
        if (rd S 43 8) < (rd S (300 + 2 * (Int32.toNatClampNeg v1)) 5) then
          J48  S
        else
          gd_ (inb v1 24 ∧ (Int32.toNatClampNeg v1) < nC S) <|
          lt_ (wr S (300 + 2 * (Int32.toNatClampNeg v1)) 6 (4 : Int32)) fun S20 =>
          J48  S20
      else
        J48  S

def f_X7_growStale  (S : St) : Option (Unit × St) :=
  f_X7_growStale_L2
    (fun  (S21 : St) =>
      some ((), S21))
     FU (0 : Int32) S

set_option maxHeartbeats 4000000 in
set_option maxRecDepth 100000 in
theorem w_X7_growStale_L2 {p : Program} {l : Launch} {e : Env} {s : State} {m : MethodId} {args : Array Value} {below : List Frame} {meth : Method} {c : Code} {E : En} {α : Nat → Nat} {g : Nat × Nat} (C : Cx p s m args meth c RX7 cX7_growStale 2 none E) {z : Unit × St} {K54 : St → Option (Unit × St)}
    (hK54 : ∀ (S : St) (H : Heap) (locs : List Loc) (ls : Array Slot), Rp E α g S H → va_S E.2.2.1 s.heap H locs → lv_has ls 2 [] → K54  S = some z → W p l e rm_X7_growStale s m args below meth c H locs 0 0 (MQ below (Qv E α g z) args s 0 0 E.2.2.1) (F0 m 54 ls [])) :
    ∀ (f : Nat) (v1 : Int32) (S : St) (H : Heap) (locs : List Loc) (ls : Array Slot), Rp E α g S H → va_S E.2.2.1 s.heap H locs → lv_has ls 2 [(0, .ref (α 43)), (1, .int v1)] → f_X7_growStale_L2 K54 f v1 S = some z → W p l e rm_X7_growStale s m args below meth c H locs 0 0 (MQ below (Qv E α g z) args s 0 0 E.2.2.1) (F0 m 2 ls []) := by
  obtain ⟨hx, hb, hml, hown, hts, hlk, hrt, hKs⟩ := id C
  intro f
  induction f with
  | zero =>
    intro v1 S H locs ls  hR hS hl h
    rw [f_X7_growStale_L2] at h
    cases h
  | succ f ih =>
    intro v1 S H locs ls  hR hS hl h
    rw [f_X7_growStale_L2] at h
    refine lv_iload_n hx hb dX7_growStale_2 rfl (lv_at hl 1 rfl) ?_
    refine lv_aload_n hx hb dX7_growStale_3 rfl (lv_at hl 0 rfl) ?_
    refine g_geti C hR (k := 43) (j := 7) (live_st (by decide)) rfl rfl (vw7) inl7 (by decide) q294 dX7_growStale_4 ?_
    refine lv_icmp_ge (tgt := 54) hx hb dX7_growStale_7 (by decide) (fun c9 => ?_) (fun c9 => ?_)
    · have h := ite_t c9 h
      exact hK54  _ _ _ _  hR hS (lv_sub hl [] rfl) h
    · have h := ite_f c9 h
      refine lv_aload_n hx hb dX7_growStale_10 rfl (lv_at hl 0 rfl) ?_
      refine g_getr (t := 48) C hR (k := 43) (j := 6) (live_st (by decide)) rfl rfl (vw7) inl7 (by decide) q292 dX7_growStale_11 ?_
      refine lv_iload_n hx hb dX7_growStale_14 rfl (lv_at hl 1 rfl) ?_
      obtain ⟨g10, h⟩ := gd_e h
      refine g_aldC C hR g10.1 g10.2 dX7_growStale_15 (fun hn11 => ?_)
      refine g_geti C hR (k := (300 + 2 * (Int32.toNatClampNeg v1))) (j := 6) (live_c hn11) (lay_c (Nat.lt_of_lt_of_le hn11 hR.1.2.1)) rfl (vw0) inl0 (by decide) q742 dX7_growStale_16 ?_
      obtain ⟨J48, eJ48, h⟩ := lt_e h
      have hJ48 : ∀ (S12 : St) (H : Heap) (locs : List Loc) (ls : Array Slot), Rp E α g S12 H → va_S E.2.2.1 s.heap H locs → lv_has ls 2 [(0, .ref (α 43)), (1, .int v1)] → J48  S12 = some z → W p l e rm_X7_growStale s m args below meth c H locs 0 0 (MQ below (Qv E α g z) args s 0 0 E.2.2.1) (F0 m 48 ls []) := by
        intro  S12 H locs ls  hR hS hl h
        rw [eJ48] at h
        obtain ⟨x13, ex13, h⟩ := lt_e h
        refine lv_iinc (v := x13) (lv' := [(1, .int x13), (0, .ref (α 43))]) hx hb dX7_growStale_48 hl (k := 1) rfl (by rw [ex13]; rfl) (by decide) rfl (fun ls hl => ?_)
        refine lv_goto (tgt := 2) hx hb dX7_growStale_51 (by decide) ?_
        exact ih _ _ _ _ _  hR hS (lv_sub hl [1, 0] rfl) h
      clear eJ48
      refine lv_if_ne (tgt := 48) hx hb dX7_growStale_19 (by decide) (fun c14 => ?_) (fun c14 => ?_)
      · have h := ite_f c14 h
        exact hJ48  _ _ _ _  hR hS hl h
      · have h := ite_t c14 h
        refine lv_aload_n hx hb dX7_growStale_22 rfl (lv_at hl 0 rfl) ?_
        refine g_getr (t := 48) C hR (k := 43) (j := 6) (live_st (by decide)) rfl rfl (vw7) inl7 (by decide) q292 dX7_growStale_23 ?_
        refine lv_iload_n hx hb dX7_growStale_26 rfl (lv_at hl 1 rfl) ?_
        obtain ⟨g15, h⟩ := gd_e h
        refine g_aldC C hR g15.1 g15.2 dX7_growStale_27 (fun hn16 => ?_)
        refine g_geti C hR (k := (300 + 2 * (Int32.toNatClampNeg v1))) (j := 5) (live_c hn16) (lay_c (Nat.lt_of_lt_of_le hn16 hR.1.2.1)) rfl (vw0) inl0 (by decide) q739 dX7_growStale_28 ?_
        refine lv_aload_n hx hb dX7_growStale_31 rfl (lv_at hl 0 rfl) ?_
        refine g_geti C hR (k := 43) (j := 8) (live_st (by decide)) rfl rfl (vw7) inl7 (by decide) q296 dX7_growStale_32 ?_
        refine lv_icmp_gt (tgt := 48) hx hb dX7_growStale_35 (by decide) (fun c17 => ?_) (fun c17 => ?_)
        · have h := ite_t c17 h
          exact hJ48  _ _ _ _  hR hS hl h
        · have h := ite_f c17 h
          refine lv_aload_n hx hb dX7_growStale_38 rfl (lv_at hl 0 rfl) ?_
          refine g_getr (t := 48) C hR (k := 43) (j := 6) (live_st (by decide)) rfl rfl (vw7) inl7 (by decide) q292 dX7_growStale_39 ?_
          refine lv_iload_n hx hb dX7_growStale_42 rfl (lv_at hl 1 rfl) ?_
          obtain ⟨g18, h⟩ := gd_e h
          refine g_aldC C hR g18.1 g18.2 dX7_growStale_43 (fun hn19 => ?_)
          refine lv_iconst (v := 4) hx hb dX7_growStale_44 (by decide) ?_
          obtain ⟨S20, eS20, h⟩ := lt_e h
          refine g_puti C hR hS (k := (300 + 2 * (Int32.toNatClampNeg v1))) (j := 6) (live_c hn19) (lay_c (Nat.lt_of_lt_of_le hn19 hR.1.2.1)) rfl (vw0) inl0 (by decide) (ty0 := tyX0) tyX0_ok nmX0 q742 rfl rfl rfl eS20 dX7_growStale_45 (fun H locs hR hS => ?_)
          exact hJ48  _ _ _ _  hR hS hl h

set_option maxHeartbeats 4000000 in
set_option maxRecDepth 100000 in
theorem c_X7_growStale (l : Launch) {E : En} {α : Nat → Nat} {g : Nat × Nat}  {S : St}  {z : Unit × St} (h : f_X7_growStale  S = some z) : Met l yX7_growStale (wsY yX7_growStale cX7_growStale 2 none) rm_X7_growStale (va_Pc [.ref (α 43)] (Wd E α g S)) (Qv E α g z) 0 0 E.2.2.1 := by
  refine g_met [.ref (α 43)] (by decide) rfl (Nat.le_of_ble_eq_true rfl) ?_
  intro p e s m below meth c ls C hR hl
  generalize hae : ([.ref (α 43)] : List Value).toArray = args at C ⊢
  have hl : lv_has ls 2 [(0, .ref (α 43))] := hl
  obtain ⟨hx, hb, hml, hown, hts, hlk, hrt, hKs⟩ := id C
  have hS : va_S E.2.2.1 s.heap s.heap [] := va_S.rf
  unfold f_X7_growStale at h
  refine lv_iconst (v := 0) hx hb dX7_growStale_0 (by decide) ?_
  refine lv_istore_n (lv' := [(1, .int (0 : Int32)), (0, .ref (α 43))]) hx hb dX7_growStale_1 rfl hl (by decide) rfl (fun ls hl => ?_)
  refine w_X7_growStale_L2 C ?_  _ _ _ _ _ _  hR hS (lv_sub hl [1, 0] rfl) h
  · intro  S21 H locs ls  hR hS hl h
    exact g_vret C hR hS h dX7_growStale_54

/-! OneVoice$Station.isReached(II)Z -/
abbrev rm_X7_isReached : Room := { frames := 0, cells := 0, slots := 0, locals := 0 }
theorem m_X7_isReached : MV yX7_isReached RX7 cX7_isReached 3 (some .boolean) 2 := ⟨q806, q22, q74, q807, by decide +kernel⟩
def f_X7_isReached (v1 : Int32) (v2 : Int32) (S : St) : Option (Int32 × St) :=
  gd_ (inb v1 6) <|
  if ((ushr (rd S 46 (Int32.toNatClampNeg v1)) v2) &&& (1 : Int32)) = (1 : Int32) then
    some ((1 : Int32), S)
  else
    some ((0 : Int32), S)

set_option maxHeartbeats 4000000 in
set_option maxRecDepth 100000 in
theorem c_X7_isReached (l : Launch) {E : En} {α : Nat → Nat} {g : Nat × Nat} {v1 : Int32} {v2 : Int32} {S : St}  {z : Int32 × St} (h : f_X7_isReached v1 v2 S = some z) : Met l yX7_isReached (wsY yX7_isReached cX7_isReached 3 (some .boolean)) rm_X7_isReached (va_Pc [.ref (α 43), .int v1, .int v2] (Wd E α g S)) (Qi E α g z) 0 0 E.2.2.1 := by
  refine g_met [.ref (α 43), .int v1, .int v2] (by decide) rfl (Nat.le_of_ble_eq_true rfl) ?_
  intro p e s m below meth c ls C hR hl
  generalize hae : ([.ref (α 43), .int v1, .int v2] : List Value).toArray = args at C ⊢
  have hl : lv_has ls 3 [(0, .ref (α 43)), (1, .int v1), (2, .int v2)] := hl
  obtain ⟨hx, hb, hml, hown, hts, hlk, hrt, hKs⟩ := id C
  have hS : va_S E.2.2.1 s.heap s.heap [] := va_S.rf
  unfold f_X7_isReached at h
  refine lv_aload_n hx hb dX7_isReached_0 rfl (lv_at hl 0 rfl) ?_
  refine g_getr (t := 46) C hR (k := 43) (j := 4) (live_st (by decide)) rfl rfl (vw7) inl7 (by decide) q289 dX7_isReached_1 ?_
  refine lv_iload_n hx hb dX7_isReached_4 rfl (lv_at hl 1 rfl) ?_
  obtain ⟨g2, h⟩ := gd_e h
  refine g_iald C hR (k := 46) (n := 6) (live_st (by decide)) rfl g2 dX7_isReached_5 ?_
  refine lv_iload_n hx hb dX7_isReached_6 rfl (lv_at hl 2 rfl) ?_
  refine lv_iushr (v := ushr (rd S 46 (Int32.toNatClampNeg v1)) v2) hx hb dX7_isReached_7 rfl ?_
  refine lv_iconst (v := 1) hx hb dX7_isReached_8 (by decide) ?_
  refine lv_iand hx hb dX7_isReached_9 ?_
  refine lv_iconst (v := 1) hx hb dX7_isReached_10 (by decide) ?_
  refine lv_icmp_ne (tgt := 18) hx hb dX7_isReached_11 (by decide) (fun c3 => ?_) (fun c3 => ?_)
  · have h := ite_f c3 h
    refine lv_iconst (v := 0) hx hb dX7_isReached_18 (by decide) ?_
    exact g_zret C hR hS bz0 h dX7_isReached_19
  · have h := ite_t c3 h
    refine lv_iconst (v := 1) hx hb dX7_isReached_14 (by decide) ?_
    refine lv_goto (tgt := 19) hx hb dX7_isReached_15 (by decide) ?_
    exact g_zret C hR hS bz1 h dX7_isReached_19

/-! OneVoice$Station.hush(I)V -/
abbrev rm_X7_hush : Room := { frames := 1, cells := 0, slots := 0, locals := 22 }
theorem m_X7_hush : MV yX7_hush RX7 cX7_hush 3 none 1 := ⟨q802, q21, q74, q803, by decide +kernel⟩
def f_X7_hush_L2 (K65 : St → Option (Unit × St)) (v1 : Int32) : Nat → Int32 → St → Option (Unit × St)
  | 0, _, _ => none
  | f + 1, v2, S =>
    if (6 : Int32) ≤ v2 then
      K65  S
    else
      bd_ (f_X7_isReached v1 v2 S) fun r11 S12 =>
      lt_ (fun  (S13 : St) =>
          lt_ (v2 + (1 : Int32)) fun x14 =>
          f_X7_hush_L2 K65 v1 f x14 S13) fun J59 =>
      if r11 = 0 then
        J59  S12
      else
        gd_ (inb v2 6) <|
        if (rd S12 47 (Int32.toNatClampNeg v2)) = (-1 : Int32) then
          J59  S12
        else
          gd_ (inb v2 6) <|
          gd_ (inb (rd S12 47 (Int32.toNatClampNeg v2)) 24 ∧ (Int32.toNatClampNeg (rd S12 47 (Int32.toNatClampNeg v2))) < nC S12) <|
          if (rd S12 (300 + 2 * (Int32.toNatClampNeg (rd S12 47 (Int32.toNatClampNeg v2)))) 3) = 0 then
            gd_ (inb v2 6) <|
            gd_ (inb (rd S12 47 (Int32.toNatClampNeg v2)) 24 ∧ (Int32.toNatClampNeg (rd S12 47 (Int32.toNatClampNeg v2))) < nC S12) <|
            lt_ (wr S12 (300 + 2 * (Int32.toNatClampNeg (rd S12 47 (Int32.toNatClampNeg v2)))) 9 (1 : Int32)) fun S25 =>
            J59  S25
          else
            J59  S12

def f_X7_hush (v1 : Int32) (S : St) : Option (Unit × St) :=
  f_X7_hush_L2
    (fun  (S26 : St) =>
      some ((), S26))
    v1 FU (0 : Int32) S

set_option maxHeartbeats 4000000 in
set_option maxRecDepth 100000 in
theorem w_X7_hush_L2 {p : Program} {l : Launch} {e : Env} {s : State} {m : MethodId} {args : Array Value} {below : List Frame} {meth : Method} {c : Code} {E : En} {α : Nat → Nat} {g : Nat × Nat} (C : Cx p s m args meth c RX7 cX7_hush 3 none E) {z : Unit × St} {K65 : St → Option (Unit × St)} {v1 : Int32}
    (hK65 : ∀ (S : St) (H : Heap) (locs : List Loc) (ls : Array Slot), Rp E α g S H → va_S E.2.2.1 s.heap H locs → lv_has ls 3 [] → K65  S = some z → W p l e rm_X7_hush s m args below meth c H locs 0 0 (MQ below (Qv E α g z) args s 0 0 E.2.2.1) (F0 m 65 ls [])) :
    ∀ (f : Nat) (v2 : Int32) (S : St) (H : Heap) (locs : List Loc) (ls : Array Slot), Rp E α g S H → va_S E.2.2.1 s.heap H locs → lv_has ls 3 [(0, .ref (α 43)), (1, .int v1), (2, .int v2)] → f_X7_hush_L2 K65 v1 f v2 S = some z → W p l e rm_X7_hush s m args below meth c H locs 0 0 (MQ below (Qv E α g z) args s 0 0 E.2.2.1) (F0 m 2 ls []) := by
  obtain ⟨hx, hb, hml, hown, hts, hlk, hrt, hKs⟩ := id C
  intro f
  induction f with
  | zero =>
    intro v2 S H locs ls  hR hS hl h
    rw [f_X7_hush_L2] at h
    cases h
  | succ f ih =>
    intro v2 S H locs ls  hR hS hl h
    rw [f_X7_hush_L2] at h
    refine lv_iload_n hx hb dX7_hush_2 rfl (lv_at hl 2 rfl) ?_
    refine lv_bipush (v := 6) hx hb dX7_hush_3 (by decide) ?_
    refine lv_icmp_ge (tgt := 65) hx hb dX7_hush_5 (by decide) (fun c10 => ?_) (fun c10 => ?_)
    · have h := ite_t c10 h
      exact hK65  _ _ _ _  hR hS (lv_sub hl [] rfl) h
    · have h := ite_f c10 h
      refine lv_aload_n hx hb dX7_hush_8 rfl (lv_at hl 0 rfl) ?_
      refine lv_iload_n hx hb dX7_hush_9 rfl (lv_at hl 1 rfl) ?_
      refine lv_iload_n hx hb dX7_hush_10 rfl (lv_at hl 2 rfl) ?_
      obtain ⟨r11, S12, hr11, h⟩ := bd_e h
      refine g_ci hS (g_runV C hR hS (k := 43) (As := [.int v1, .int v2]) (rest := []) (c_X7_isReached l  hr11) (live_st (by decide)) rfl (vw7) m_X7_isReached q804 ⟨rfl, rfl⟩ ⟨Nat.le_of_ble_eq_true rfl, Nat.le_of_ble_eq_true rfl⟩ rfl hl.1 rfl (Nat.le_of_ble_eq_true rfl) dX7_hush_11 ⟨Nat.zero_le _, Nat.zero_le _⟩) (fun H locs hR hS => ?_)
      obtain ⟨J59, eJ59, h⟩ := lt_e h
      have hJ59 : ∀ (S13 : St) (H : Heap) (locs : List Loc) (ls : Array Slot), Rp E α g S13 H → va_S E.2.2.1 s.heap H locs → lv_has ls 3 [(0, .ref (α 43)), (1, .int v1), (2, .int v2)] → J59  S13 = some z → W p l e rm_X7_hush s m args below meth c H locs 0 0 (MQ below (Qv E α g z) args s 0 0 E.2.2.1) (F0 m 59 ls []) := by
        intro  S13 H locs ls  hR hS hl h
        rw [eJ59] at h
        obtain ⟨x14, ex14, h⟩ := lt_e h
        refine lv_iinc (v := x14) (lv' := [(2, .int x14), (0, .ref (α 43)), (1, .int v1)]) hx hb dX7_hush_59 hl (k := 2) rfl (by rw [ex14]; rfl) (by decide) rfl (fun ls hl => ?_)
        refine lv_goto (tgt := 2) hx hb dX7_hush_62 (by decide) ?_
        exact ih _ _ _ _ _  hR hS (lv_sub hl [1, 2, 0] rfl) h
      clear eJ59
      refine lv_if_eq (tgt := 59) hx hb dX7_hush_14 (by decide) (fun c15 => ?_) (fun c15 => ?_)
      · have h := ite_t c15 h
        exact hJ59  _ _ _ _  hR hS hl h
      · have h := ite_f c15 h
        refine lv_aload_n hx hb dX7_hush_17 rfl (lv_at hl 0 rfl) ?_
        refine g_getr (t := 47) C hR (k := 43) (j := 5) (live_st (by decide)) rfl rfl (vw7) inl7 (by decide) q290 dX7_hush_18 ?_
        refine lv_iload_n hx hb dX7_hush_21 rfl (lv_at hl 2 rfl) ?_
        obtain ⟨g16, h⟩ := gd_e h
        refine g_iald C hR (k := 47) (n := 6) (live_st (by decide)) rfl g16 dX7_hush_22 ?_
        refine lv_iconst (v := -1) hx hb dX7_hush_23 (by decide) ?_
        refine lv_icmp_eq (tgt := 59) hx hb dX7_hush_24 (by decide) (fun c17 => ?_) (fun c17 => ?_)
        · have h := ite_t c17 h
          exact hJ59  _ _ _ _  hR hS hl h
        · have h := ite_f c17 h
          refine lv_aload_n hx hb dX7_hush_27 rfl (lv_at hl 0 rfl) ?_
          refine g_getr (t := 48) C hR (k := 43) (j := 6) (live_st (by decide)) rfl rfl (vw7) inl7 (by decide) q292 dX7_hush_28 ?_
          refine lv_aload_n hx hb dX7_hush_31 rfl (lv_at hl 0 rfl) ?_
          refine g_getr (t := 47) C hR (k := 43) (j := 5) (live_st (by decide)) rfl rfl (vw7) inl7 (by decide) q290 dX7_hush_32 ?_
          refine lv_iload_n hx hb dX7_hush_35 rfl (lv_at hl 2 rfl) ?_
          obtain ⟨g18, h⟩ := gd_e h
          refine g_iald C hR (k := 47) (n := 6) (live_st (by decide)) rfl g18 dX7_hush_36 ?_
          obtain ⟨g19, h⟩ := gd_e h
          refine g_aldC C hR g19.1 g19.2 dX7_hush_37 (fun hn20 => ?_)
          refine g_geti C hR (k := (300 + 2 * (Int32.toNatClampNeg (rd S12 47 (Int32.toNatClampNeg v2))))) (j := 3) (live_c hn20) (lay_c (Nat.lt_of_lt_of_le hn20 hR.1.2.1)) rfl (vw0) inl0 (by decide) q736 dX7_hush_38 ?_
          refine lv_if_ne (tgt := 59) hx hb dX7_hush_41 (by decide) (fun c21 => ?_) (fun c21 => ?_)
          · have h := ite_f c21 h
            exact hJ59  _ _ _ _  hR hS hl h
          · have h := ite_t c21 h
            refine lv_aload_n hx hb dX7_hush_44 rfl (lv_at hl 0 rfl) ?_
            refine g_getr (t := 48) C hR (k := 43) (j := 6) (live_st (by decide)) rfl rfl (vw7) inl7 (by decide) q292 dX7_hush_45 ?_
            refine lv_aload_n hx hb dX7_hush_48 rfl (lv_at hl 0 rfl) ?_
            refine g_getr (t := 47) C hR (k := 43) (j := 5) (live_st (by decide)) rfl rfl (vw7) inl7 (by decide) q290 dX7_hush_49 ?_
            refine lv_iload_n hx hb dX7_hush_52 rfl (lv_at hl 2 rfl) ?_
            obtain ⟨g22, h⟩ := gd_e h
            refine g_iald C hR (k := 47) (n := 6) (live_st (by decide)) rfl g22 dX7_hush_53 ?_
            obtain ⟨g23, h⟩ := gd_e h
            refine g_aldC C hR g23.1 g23.2 dX7_hush_54 (fun hn24 => ?_)
            refine lv_iconst (v := 1) hx hb dX7_hush_55 (by decide) ?_
            obtain ⟨S25, eS25, h⟩ := lt_e h
            refine g_puti C hR hS (k := (300 + 2 * (Int32.toNatClampNeg (rd S12 47 (Int32.toNatClampNeg v2))))) (j := 9) (live_c hn24) (lay_c (Nat.lt_of_lt_of_le hn24 hR.1.2.1)) rfl (vw0) inl0 (by decide) (ty0 := tyX0) tyX0_ok nmX0 q749 rfl rfl rfl eS25 dX7_hush_56 (fun H locs hR hS => ?_)
            exact hJ59  _ _ _ _  hR hS hl h

set_option maxHeartbeats 4000000 in
set_option maxRecDepth 100000 in
theorem c_X7_hush (l : Launch) {E : En} {α : Nat → Nat} {g : Nat × Nat} {v1 : Int32} {S : St}  {z : Unit × St} (h : f_X7_hush v1 S = some z) : Met l yX7_hush (wsY yX7_hush cX7_hush 3 none) rm_X7_hush (va_Pc [.ref (α 43), .int v1] (Wd E α g S)) (Qv E α g z) 0 0 E.2.2.1 := by
  refine g_met [.ref (α 43), .int v1] (by decide) rfl (Nat.le_of_ble_eq_true rfl) ?_
  intro p e s m below meth c ls C hR hl
  generalize hae : ([.ref (α 43), .int v1] : List Value).toArray = args at C ⊢
  have hl : lv_has ls 3 [(0, .ref (α 43)), (1, .int v1)] := hl
  obtain ⟨hx, hb, hml, hown, hts, hlk, hrt, hKs⟩ := id C
  have hS : va_S E.2.2.1 s.heap s.heap [] := va_S.rf
  unfold f_X7_hush at h
  refine lv_iconst (v := 0) hx hb dX7_hush_0 (by decide) ?_
  refine lv_istore_n (lv' := [(2, .int (0 : Int32)), (0, .ref (α 43)), (1, .int v1)]) hx hb dX7_hush_1 rfl hl (by decide) rfl (fun ls hl => ?_)
  refine w_X7_hush_L2 C ?_  _ _ _ _ _ _  hR hS (lv_sub hl [1, 2, 0] rfl) h
  · intro  S26 H locs ls  hR hS hl h
    exact g_vret C hR hS h dX7_hush_65

/-! OneVoice$Station.beginIfStill(I)V -/
abbrev rm_X7_beginIfStill : Room := { frames := 4, cells := 0, slots := 0, locals := 103 }
theorem m_X7_beginIfStill : MV yX7_beginIfStill RX7 cX7_beginIfStill 4 none 1 := ⟨q810, q23, q74, q811, by decide +kernel⟩
def f_X7_beginIfStill_L9 (K37 : St → Option (Unit × St)) (K44 : St → Option (Unit × St)) (v1 : Int32) (n2 : Nat) : Nat → Int32 → St → Option (Unit × St)
  | 0, _, _ => none
  | f + 1, v3, S =>
    if (6 : Int32) ≤ v3 then
      K44  S
    else
      bd_ (f_X7_isReached (rd S (300 + 2 * n2) 0) v3 S) fun r13 S14 =>
      lt_ (fun  (S15 : St) =>
          lt_ (v3 + (1 : Int32)) fun x16 =>
          f_X7_beginIfStill_L9 K37 K44 v1 n2 f x16 S15) fun J38 =>
      if r13 = 0 then
        J38  S14
      else
        gd_ (inb v3 6) <|
        if (rd S14 47 (Int32.toNatClampNeg v3)) = (-1 : Int32) then
          J38  S14
        else
          K37  S14

def f_X7_beginIfStill (v1 : Int32) (S : St) : Option (Unit × St) :=
  gd_ (inb v1 24 ∧ (Int32.toNatClampNeg v1) < nC S) <|
  lt_ (Int32.toNatClampNeg v1) fun n11 =>
  f_X7_beginIfStill_L9
    (fun  (S20 : St) =>
      some ((), S20))
    (fun  (S21 : St) =>
      bd_ (f_X1_spell (rd S21 (300 + 2 * n11) 1) (rd S21 (300 + 2 * n11) 2) S21) fun r22 S23 =>
      lt_ (fun  (S24 : St) =>
          lt_ (wr S24 (300 + 2 * n11) 6 (5 : Int32)) fun S25 =>
          some ((), S25)) fun J88 =>
      if r22 = 0 then
        J88  S23
      else
        gd_ (inb (rd S23 (300 + 2 * n11) 0) 6) <|
        bd_ (f_X6_jarOfWords (rd S23 44 (Int32.toNatClampNeg (rd S23 (300 + 2 * n11) 0))) S23) fun r28 S29 =>
        if r28 = (-1 : Int32) then
          J88  S29
        else
          bd_ (f_X0_start n11 (rd S29 43 8) S29) fun r31 S32 =>
          gd_ (inb (rd S32 (300 + 2 * n11) 0) 6) <|
          lt_ (wr S32 47 (Int32.toNatClampNeg (rd S32 (300 + 2 * n11) 0)) v1) fun S33 =>
          some ((), S33))
    v1 n11 FU (0 : Int32) S

set_option maxHeartbeats 4000000 in
set_option maxRecDepth 100000 in
theorem w_X7_beginIfStill_L9 {p : Program} {l : Launch} {e : Env} {s : State} {m : MethodId} {args : Array Value} {below : List Frame} {meth : Method} {c : Code} {E : En} {α : Nat → Nat} {g : Nat × Nat} (C : Cx p s m args meth c RX7 cX7_beginIfStill 4 none E) {z : Unit × St} {K37 : St → Option (Unit × St)} {K44 : St → Option (Unit × St)} {v1 : Int32} {n2 : Nat}
    (hK37 : ∀ (S : St) (H : Heap) (locs : List Loc) (ls : Array Slot), Rp E α g S H → va_S E.2.2.1 s.heap H locs → lv_has ls 4 [] → K37  S = some z → W p l e rm_X7_beginIfStill s m args below meth c H locs 0 0 (MQ below (Qv E α g z) args s 0 0 E.2.2.1) (F0 m 37 ls []))
    (hK44 : ∀ (S : St) (H : Heap) (locs : List Loc) (ls : Array Slot), Rp E α g S H → va_S E.2.2.1 s.heap H locs → lv_has ls 4 [(0, .ref (α 43)), (1, .int v1), (2, .ref (α (300 + 2 * n2)))] → K44  S = some z → W p l e rm_X7_beginIfStill s m args below meth c H locs 0 0 (MQ below (Qv E α g z) args s 0 0 E.2.2.1) (F0 m 44 ls [])) (hn2 : n2 < g.2) :
    ∀ (f : Nat) (v3 : Int32) (S : St) (H : Heap) (locs : List Loc) (ls : Array Slot), Rp E α g S H → va_S E.2.2.1 s.heap H locs → lv_has ls 4 [(0, .ref (α 43)), (1, .int v1), (2, .ref (α (300 + 2 * n2))), (3, .int v3)] → f_X7_beginIfStill_L9 K37 K44 v1 n2 f v3 S = some z → W p l e rm_X7_beginIfStill s m args below meth c H locs 0 0 (MQ below (Qv E α g z) args s 0 0 E.2.2.1) (F0 m 9 ls []) := by
  obtain ⟨hx, hb, hml, hown, hts, hlk, hrt, hKs⟩ := id C
  intro f
  induction f with
  | zero =>
    intro v3 S H locs ls  hR hS hl h
    rw [f_X7_beginIfStill_L9] at h
    cases h
  | succ f ih =>
    intro v3 S H locs ls  hR hS hl h
    rw [f_X7_beginIfStill_L9] at h
    refine lv_iload_n hx hb dX7_beginIfStill_9 rfl (lv_at hl 3 rfl) ?_
    refine lv_bipush (v := 6) hx hb dX7_beginIfStill_10 (by decide) ?_
    refine lv_icmp_ge (tgt := 44) hx hb dX7_beginIfStill_12 (by decide) (fun c12 => ?_) (fun c12 => ?_)
    · have h := ite_t c12 h
      exact hK44  _ _ _ _  hR hS (lv_sub hl [0, 1, 2] rfl) h
    · have h := ite_f c12 h
      refine lv_aload_n hx hb dX7_beginIfStill_15 rfl (lv_at hl 0 rfl) ?_
      refine lv_aload_n hx hb dX7_beginIfStill_16 rfl (lv_at hl 2 rfl) ?_
      refine g_geti C hR (k := (300 + 2 * n2)) (j := 0) (live_c hn2) (lay_c (Nat.lt_of_lt_of_le hn2 hR.1.2.1)) rfl (vw0) inl0 (by decide) q730 dX7_beginIfStill_17 ?_
      refine lv_iload_n hx hb dX7_beginIfStill_20 rfl (lv_at hl 3 rfl) ?_
      obtain ⟨r13, S14, hr13, h⟩ := bd_e h
      refine g_ci hS (g_runV C hR hS (k := 43) (As := [.int (rd S (300 + 2 * n2) 0), .int v3]) (rest := []) (c_X7_isReached l  hr13) (live_st (by decide)) rfl (vw7) m_X7_isReached q804 ⟨rfl, rfl⟩ ⟨Nat.le_of_ble_eq_true rfl, Nat.le_of_ble_eq_true rfl⟩ rfl hl.1 rfl (Nat.le_of_ble_eq_true rfl) dX7_beginIfStill_21 ⟨Nat.zero_le _, Nat.zero_le _⟩) (fun H locs hR hS => ?_)
      obtain ⟨J38, eJ38, h⟩ := lt_e h
      have hJ38 : ∀ (S15 : St) (H : Heap) (locs : List Loc) (ls : Array Slot), Rp E α g S15 H → va_S E.2.2.1 s.heap H locs → lv_has ls 4 [(0, .ref (α 43)), (1, .int v1), (2, .ref (α (300 + 2 * n2))), (3, .int v3)] → J38  S15 = some z → W p l e rm_X7_beginIfStill s m args below meth c H locs 0 0 (MQ below (Qv E α g z) args s 0 0 E.2.2.1) (F0 m 38 ls []) := by
        intro  S15 H locs ls  hR hS hl h
        rw [eJ38] at h
        obtain ⟨x16, ex16, h⟩ := lt_e h
        refine lv_iinc (v := x16) (lv' := [(3, .int x16), (0, .ref (α 43)), (1, .int v1), (2, .ref (α (300 + 2 * n2)))]) hx hb dX7_beginIfStill_38 hl (k := 3) rfl (by rw [ex16]; rfl) (by decide) rfl (fun ls hl => ?_)
        refine lv_goto (tgt := 9) hx hb dX7_beginIfStill_41 (by decide) ?_
        exact ih _ _ _ _ _  hR hS (lv_sub hl [1, 2, 3, 0] rfl) h
      clear eJ38
      refine lv_if_eq (tgt := 38) hx hb dX7_beginIfStill_24 (by decide) (fun c17 => ?_) (fun c17 => ?_)
      · have h := ite_t c17 h
        exact hJ38  _ _ _ _  hR hS hl h
      · have h := ite_f c17 h
        refine lv_aload_n hx hb dX7_beginIfStill_27 rfl (lv_at hl 0 rfl) ?_
        refine g_getr (t := 47) C hR (k := 43) (j := 5) (live_st (by decide)) rfl rfl (vw7) inl7 (by decide) q290 dX7_beginIfStill_28 ?_
        refine lv_iload_n hx hb dX7_beginIfStill_31 rfl (lv_at hl 3 rfl) ?_
        obtain ⟨g18, h⟩ := gd_e h
        refine g_iald C hR (k := 47) (n := 6) (live_st (by decide)) rfl g18 dX7_beginIfStill_32 ?_
        refine lv_iconst (v := -1) hx hb dX7_beginIfStill_33 (by decide) ?_
        refine lv_icmp_eq (tgt := 38) hx hb dX7_beginIfStill_34 (by decide) (fun c19 => ?_) (fun c19 => ?_)
        · have h := ite_t c19 h
          exact hJ38  _ _ _ _  hR hS hl h
        · have h := ite_f c19 h
          exact hK37  _ _ _ _  hR hS (lv_sub hl [] rfl) h

set_option maxHeartbeats 4000000 in
set_option maxRecDepth 100000 in
theorem c_X7_beginIfStill (l : Launch) {E : En} {α : Nat → Nat} {g : Nat × Nat} {v1 : Int32} {S : St}  {z : Unit × St} (h : f_X7_beginIfStill v1 S = some z) : Met l yX7_beginIfStill (wsY yX7_beginIfStill cX7_beginIfStill 4 none) rm_X7_beginIfStill (va_Pc [.ref (α 43), .int v1] (Wd E α g S)) (Qv E α g z) 0 0 E.2.2.1 := by
  refine g_met [.ref (α 43), .int v1] (by decide) rfl (Nat.le_of_ble_eq_true rfl) ?_
  intro p e s m below meth c ls C hR hl
  generalize hae : ([.ref (α 43), .int v1] : List Value).toArray = args at C ⊢
  have hl : lv_has ls 4 [(0, .ref (α 43)), (1, .int v1)] := hl
  obtain ⟨hx, hb, hml, hown, hts, hlk, hrt, hKs⟩ := id C
  have hS : va_S E.2.2.1 s.heap s.heap [] := va_S.rf
  unfold f_X7_beginIfStill at h
  refine lv_aload_n hx hb dX7_beginIfStill_0 rfl (lv_at hl 0 rfl) ?_
  refine g_getr (t := 48) C hR (k := 43) (j := 6) (live_st (by decide)) rfl rfl (vw7) inl7 (by decide) q292 dX7_beginIfStill_1 ?_
  refine lv_iload_n hx hb dX7_beginIfStill_4 rfl (lv_at hl 1 rfl) ?_
  obtain ⟨g9, h⟩ := gd_e h
  refine g_aldC C hR g9.1 g9.2 dX7_beginIfStill_5 (fun hn10 => ?_)
  obtain ⟨n11, en11, h⟩ := lt_e h
  have hn11 : n11 < g.2 := by rw [en11]; exact hn10
  refine g_nmC en11 ?_
  refine lv_astore_n (lv' := [(2, .ref (α (300 + 2 * n11))), (0, .ref (α 43)), (1, .int v1)]) hx hb dX7_beginIfStill_6 rfl hl (by decide) rfl (fun ls hl => ?_)
  refine lv_iconst (v := 0) hx hb dX7_beginIfStill_7 (by decide) ?_
  refine lv_istore_n (lv' := [(3, .int (0 : Int32)), (2, .ref (α (300 + 2 * n11))), (0, .ref (α 43)), (1, .int v1)]) hx hb dX7_beginIfStill_8 rfl hl (by decide) rfl (fun ls hl => ?_)
  refine w_X7_beginIfStill_L9 C ?_ ?_ hn11 _ _ _ _ _ _  hR hS (lv_sub hl [2, 3, 1, 0] rfl) h
  · intro  S20 H locs ls  hR hS hl h
    exact g_vret C hR hS h dX7_beginIfStill_37
  · intro  S21 H locs ls  hR hS hl h
    refine lv_aload_n hx hb dX7_beginIfStill_44 rfl (lv_at hl 0 rfl) ?_
    refine g_getr (t := 14) C hR (k := 43) (j := 0) (live_st (by decide)) rfl rfl (vw7) inl7 (by decide) q283 dX7_beginIfStill_45 ?_
    refine lv_aload_n hx hb dX7_beginIfStill_48 rfl (lv_at hl 2 rfl) ?_
    refine g_geti C hR (k := (300 + 2 * n11)) (j := 1) (live_c hn11) (lay_c (Nat.lt_of_lt_of_le hn11 hR.1.2.1)) rfl (vw0) inl0 (by decide) q732 dX7_beginIfStill_49 ?_
    refine lv_aload_n hx hb dX7_beginIfStill_52 rfl (lv_at hl 2 rfl) ?_
    refine g_geti C hR (k := (300 + 2 * n11)) (j := 2) (live_c hn11) (lay_c (Nat.lt_of_lt_of_le hn11 hR.1.2.1)) rfl (vw0) inl0 (by decide) q734 dX7_beginIfStill_53 ?_
    obtain ⟨r22, S23, hr22, h⟩ := bd_e h
    refine g_ci hS (g_runV C hR hS (k := 14) (As := [.int (rd S21 (300 + 2 * n11) 1), .int (rd S21 (300 + 2 * n11) 2)]) (rest := []) (c_X1_spell l  hr22) (live_st (by decide)) rfl (vw1) m_X1_spell q812 ⟨rfl, rfl⟩ ⟨Nat.le_of_ble_eq_true rfl, Nat.le_of_ble_eq_true rfl⟩ rfl hl.1 rfl (Nat.le_of_ble_eq_true rfl) dX7_beginIfStill_56 ⟨Nat.zero_le _, Nat.zero_le _⟩) (fun H locs hR hS => ?_)
    refine lv_istore_n (lv' := [(3, .int r22), (0, .ref (α 43)), (1, .int v1), (2, .ref (α (300 + 2 * n11)))]) hx hb dX7_beginIfStill_59 rfl hl (by decide) rfl (fun ls hl => ?_)
    refine lv_iload_n hx hb dX7_beginIfStill_60 rfl (lv_at hl 0 rfl) ?_
    obtain ⟨J88, eJ88, h⟩ := lt_e h
    have hJ88 : ∀ (S24 : St) (H : Heap) (locs : List Loc) (ls : Array Slot), Rp E α g S24 H → va_S E.2.2.1 s.heap H locs → lv_has ls 4 [(2, .ref (α (300 + 2 * n11)))] → J88  S24 = some z → W p l e rm_X7_beginIfStill s m args below meth c H locs 0 0 (MQ below (Qv E α g z) args s 0 0 E.2.2.1) (F0 m 88 ls []) := by
      intro  S24 H locs ls  hR hS hl h
      rw [eJ88] at h
      refine lv_aload_n hx hb dX7_beginIfStill_88 rfl (lv_at hl 0 rfl) ?_
      refine lv_iconst (v := 5) hx hb dX7_beginIfStill_89 (by decide) ?_
      obtain ⟨S25, eS25, h⟩ := lt_e h
      refine g_puti C hR hS (k := (300 + 2 * n11)) (j := 6) (live_c hn11) (lay_c (Nat.lt_of_lt_of_le hn11 hR.1.2.1)) rfl (vw0) inl0 (by decide) (ty0 := tyX0) tyX0_ok nmX0 q742 rfl rfl rfl eS25 dX7_beginIfStill_90 (fun H locs hR hS => ?_)
      exact g_vret C hR hS h dX7_beginIfStill_93
    clear eJ88
    refine lv_if_eq (tgt := 88) hx hb dX7_beginIfStill_61 (by decide) (fun c26 => ?_) (fun c26 => ?_)
    · have h := ite_t c26 h
      exact hJ88  _ _ _ _  hR hS (lv_sub hl [3] rfl) h
    · have h := ite_f c26 h
      refine lv_aload_n hx hb dX7_beginIfStill_64 rfl (lv_at hl 1 rfl) ?_
      refine g_getr (t := 3) C hR (k := 43) (j := 1) (live_st (by decide)) rfl rfl (vw7) inl7 (by decide) q284 dX7_beginIfStill_65 ?_
      refine lv_aload_n hx hb dX7_beginIfStill_68 rfl (lv_at hl 1 rfl) ?_
      refine g_getr (t := 14) C hR (k := 43) (j := 0) (live_st (by decide)) rfl rfl (vw7) inl7 (by decide) q283 dX7_beginIfStill_69 ?_
      refine lv_aload_n hx hb dX7_beginIfStill_72 rfl (lv_at hl 1 rfl) ?_
      refine g_getr (t := 44) C hR (k := 43) (j := 2) (live_st (by decide)) rfl rfl (vw7) inl7 (by decide) q285 dX7_beginIfStill_73 ?_
      refine lv_aload_n hx hb dX7_beginIfStill_76 rfl (lv_at hl 3 rfl) ?_
      refine g_geti C hR (k := (300 + 2 * n11)) (j := 0) (live_c hn11) (lay_c (Nat.lt_of_lt_of_le hn11 hR.1.2.1)) rfl (vw0) inl0 (by decide) q730 dX7_beginIfStill_77 ?_
      obtain ⟨g27, h⟩ := gd_e h
      refine g_iald C hR (k := 44) (n := 6) (live_st (by decide)) rfl g27 dX7_beginIfStill_80 ?_
      obtain ⟨r28, S29, hr28, h⟩ := bd_e h
      refine g_ci hS (g_runV C hR hS (k := 3) (As := [.ref (α 14), .int (rd S23 44 (Int32.toNatClampNeg (rd S23 (300 + 2 * n11) 0)))]) (rest := []) (c_X6_jarOfWords l  hr28) (live_st (by decide)) rfl (vw6) m_X6_jarOfWords q813 ⟨rfl, rfl⟩ ⟨Nat.le_of_ble_eq_true rfl, Nat.le_of_ble_eq_true rfl⟩ rfl hl.1 rfl (Nat.le_of_ble_eq_true rfl) dX7_beginIfStill_81 ⟨Nat.zero_le _, Nat.zero_le _⟩) (fun H locs hR hS => ?_)
      refine lv_iconst (v := -1) hx hb dX7_beginIfStill_84 (by decide) ?_
      refine lv_icmp_ne (tgt := 94) hx hb dX7_beginIfStill_85 (by decide) (fun c30 => ?_) (fun c30 => ?_)
      · have h := ite_f c30 h
        refine lv_aload_n hx hb dX7_beginIfStill_94 rfl (lv_at hl 3 rfl) ?_
        refine lv_aload_n hx hb dX7_beginIfStill_95 rfl (lv_at hl 1 rfl) ?_
        refine g_geti C hR (k := 43) (j := 8) (live_st (by decide)) rfl rfl (vw7) inl7 (by decide) q296 dX7_beginIfStill_96 ?_
        refine lv_aload_n hx hb dX7_beginIfStill_99 rfl (lv_at hl 1 rfl) ?_
        refine g_getr (t := 14) C hR (k := 43) (j := 0) (live_st (by decide)) rfl rfl (vw7) inl7 (by decide) q283 dX7_beginIfStill_100 ?_
        obtain ⟨r31, S32, hr31, h⟩ := bd_e h
        refine g_cv hS (g_runV C hR hS (k := (300 + 2 * n11)) (As := [.int (rd S29 43 8), .ref (α 14)]) (rest := []) (c_X0_start l hn11 hr31) (live_c hn11) (lay_c (Nat.lt_of_lt_of_le hn11 hR.1.2.1)) (vw0) m_X0_start q814 ⟨rfl, rfl⟩ ⟨Nat.le_of_ble_eq_true rfl, Nat.le_of_ble_eq_true rfl⟩ rfl hl.1 rfl (Nat.le_of_ble_eq_true rfl) dX7_beginIfStill_103 ⟨Nat.zero_le _, Nat.zero_le _⟩) (fun H locs hR hS => ?_)
        refine lv_aload_n hx hb dX7_beginIfStill_106 rfl (lv_at hl 1 rfl) ?_
        refine g_getr (t := 47) C hR (k := 43) (j := 5) (live_st (by decide)) rfl rfl (vw7) inl7 (by decide) q290 dX7_beginIfStill_107 ?_
        refine lv_aload_n hx hb dX7_beginIfStill_110 rfl (lv_at hl 3 rfl) ?_
        refine g_geti C hR (k := (300 + 2 * n11)) (j := 0) (live_c hn11) (lay_c (Nat.lt_of_lt_of_le hn11 hR.1.2.1)) rfl (vw0) inl0 (by decide) q730 dX7_beginIfStill_111 ?_
        refine lv_iload_n hx hb dX7_beginIfStill_114 rfl (lv_at hl 2 rfl) ?_
        obtain ⟨g34, h⟩ := gd_e h
        obtain ⟨S33, eS33, h⟩ := lt_e h
        refine g_iast C hR hS (k := 47) (n := 6) (live_st (by decide)) rfl g34 eS33 dX7_beginIfStill_115 (fun H locs hR hS => ?_)
        exact g_vret C hR hS h dX7_beginIfStill_116
      · have h := ite_t c30 h
        exact hJ88  _ _ _ _  hR hS (lv_sub hl [3] rfl) h

/-! OneVoice$Station.whereDangerWaits()I -/
abbrev rm_X7_whereDangerWaits : Room := { frames := 1, cells := 0, slots := 0, locals := 21 }
theorem m_X7_whereDangerWaits : MV yX7_whereDangerWaits RX7 cX7_whereDangerWaits 3 (some .int) 0 := ⟨q820, q24, q74, q821, by decide +kernel⟩
def f_X7_whereDangerWaits_L4 (K60 : Int32 → St → Option (Int32 × St))  : Nat → Int32 → Int32 → St → Option (Int32 × St)
  | 0, _, _, _ => none
  | f + 1, v1, v2, S =>
    if (rd S 43 7) ≤ v2 then
      K60 v1 S
    else
      gd_ (inb v2 24 ∧ (Int32.toNatClampNeg v2) < nC S) <|
      lt_ (fun (x12 : Int32) (S13 : St) =>
          lt_ (v2 + (1 : Int32)) fun x14 =>
          f_X7_whereDangerWaits_L4 K60 f x12 x14 S13) fun J54 =>
      if (rd S (300 + 2 * (Int32.toNatClampNeg v2)) 3) = 0 then
        J54 v1 S
      else
        gd_ (inb v2 24 ∧ (Int32.toNatClampNeg v2) < nC S) <|
        bd_ (f_X0_isReadyAt (Int32.toNatClampNeg v2) (rd S 43 8) S) fun r18 S19 =>
        if r18 = 0 then
          J54 v1 S19
        else
          gd_ (inb v2 24 ∧ (Int32.toNatClampNeg v2) < nC S19) <|
          lt_ (v1 ||| ((1 : Int32) <<< ((rd S19 (300 + 2 * (Int32.toNatClampNeg v2)) 0) &&& 31))) fun x23 =>
          J54 x23 S19

def f_X7_whereDangerWaits  (S : St) : Option (Int32 × St) :=
  f_X7_whereDangerWaits_L4
    (fun (x24 : Int32) (S25 : St) =>
      some (x24, S25))
     FU (0 : Int32) (0 : Int32) S

set_option maxHeartbeats 4000000 in
set_option maxRecDepth 100000 in
theorem w_X7_whereDangerWaits_L4 {p : Program} {l : Launch} {e : Env} {s : State} {m : MethodId} {args : Array Value} {below : List Frame} {meth : Method} {c : Code} {E : En} {α : Nat → Nat} {g : Nat × Nat} (C : Cx p s m args meth c RX7 cX7_whereDangerWaits 3 (some .int) E) {z : Int32 × St} {K60 : Int32 → St → Option (Int32 × St)}
    (hK60 : ∀ (y1 : Int32) (S : St) (H : Heap) (locs : List Loc) (ls : Array Slot), Rp E α g S H → va_S E.2.2.1 s.heap H locs → lv_has ls 3 [(1, .int y1)] → K60 y1 S = some z → W p l e rm_X7_whereDangerWaits s m args below meth c H locs 0 0 (MQ below (Qi E α g z) args s 0 0 E.2.2.1) (F0 m 60 ls [])) :
    ∀ (f : Nat) (v1 : Int32) (v2 : Int32) (S : St) (H : Heap) (locs : List Loc) (ls : Array Slot), Rp E α g S H → va_S E.2.2.1 s.heap H locs → lv_has ls 3 [(0, .ref (α 43)), (1, .int v1), (2, .int v2)] → f_X7_whereDangerWaits_L4 K60 f v1 v2 S = some z → W p l e rm_X7_whereDangerWaits s m args below meth c H locs 0 0 (MQ below (Qi E α g z) args s 0 0 E.2.2.1) (F0 m 4 ls []) := by
  obtain ⟨hx, hb, hml, hown, hts, hlk, hrt, hKs⟩ := id C
  intro f
  induction f with
  | zero =>
    intro v1 v2 S H locs ls  hR hS hl h
    rw [f_X7_whereDangerWaits_L4] at h
    cases h
  | succ f ih =>
    intro v1 v2 S H locs ls  hR hS hl h
    rw [f_X7_whereDangerWaits_L4] at h
    refine lv_iload_n hx hb dX7_whereDangerWaits_4 rfl (lv_at hl 2 rfl) ?_
    refine lv_aload_n hx hb dX7_whereDangerWaits_5 rfl (lv_at hl 0 rfl) ?_
    refine g_geti C hR (k := 43) (j := 7) (live_st (by decide)) rfl rfl (vw7) inl7 (by decide) q294 dX7_whereDangerWaits_6 ?_
    refine lv_icmp_ge (tgt := 60) hx hb dX7_whereDangerWaits_9 (by decide) (fun c9 => ?_) (fun c9 => ?_)
    · have h := ite_t c9 h
      exact hK60 _ _ _ _ _  hR hS (lv_sub hl [1] rfl) h
    · have h := ite_f c9 h
      refine lv_aload_n hx hb dX7_whereDangerWaits_12 rfl (lv_at hl 0 rfl) ?_
      refine g_getr (t := 48) C hR (k := 43) (j := 6) (live_st (by decide)) rfl rfl (vw7) inl7 (by decide) q292 dX7_whereDangerWaits_13 ?_
      refine lv_iload_n hx hb dX7_whereDangerWaits_16 rfl (lv_at hl 2 rfl) ?_
      obtain ⟨g10, h⟩ := gd_e h
      refine g_aldC C hR g10.1 g10.2 dX7_whereDangerWaits_17 (fun hn11 => ?_)
      refine g_geti C hR (k := (300 + 2 * (Int32.toNatClampNeg v2))) (j := 3) (live_c hn11) (lay_c (Nat.lt_of_lt_of_le hn11 hR.1.2.1)) rfl (vw0) inl0 (by decide) q736 dX7_whereDangerWaits_18 ?_
      obtain ⟨J54, eJ54, h⟩ := lt_e h
      have hJ54 : ∀ (x12 : Int32) (S13 : St) (H : Heap) (locs : List Loc) (ls : Array Slot), Rp E α g S13 H → va_S E.2.2.1 s.heap H locs → lv_has ls 3 [(0, .ref (α 43)), (1, .int x12), (2, .int v2)] → J54 x12 S13 = some z → W p l e rm_X7_whereDangerWaits s m args below meth c H locs 0 0 (MQ below (Qi E α g z) args s 0 0 E.2.2.1) (F0 m 54 ls []) := by
        intro x12 S13 H locs ls  hR hS hl h
        rw [eJ54] at h
        obtain ⟨x14, ex14, h⟩ := lt_e h
        refine lv_iinc (v := x14) (lv' := [(2, .int x14), (0, .ref (α 43)), (1, .int x12)]) hx hb dX7_whereDangerWaits_54 hl (k := 2) rfl (by rw [ex14]; rfl) (by decide) rfl (fun ls hl => ?_)
        refine lv_goto (tgt := 4) hx hb dX7_whereDangerWaits_57 (by decide) ?_
        exact ih _ _ _ _ _ _  hR hS (lv_sub hl [1, 2, 0] rfl) h
      clear eJ54
      refine lv_if_eq (tgt := 54) hx hb dX7_whereDangerWaits_21 (by decide) (fun c15 => ?_) (fun c15 => ?_)
      · have h := ite_t c15 h
        exact hJ54 _ _ _ _ _  hR hS hl h
      · have h := ite_f c15 h
        refine lv_aload_n hx hb dX7_whereDangerWaits_24 rfl (lv_at hl 0 rfl) ?_
        refine g_getr (t := 48) C hR (k := 43) (j := 6) (live_st (by decide)) rfl rfl (vw7) inl7 (by decide) q292 dX7_whereDangerWaits_25 ?_
        refine lv_iload_n hx hb dX7_whereDangerWaits_28 rfl (lv_at hl 2 rfl) ?_
        obtain ⟨g16, h⟩ := gd_e h
        refine g_aldC C hR g16.1 g16.2 dX7_whereDangerWaits_29 (fun hn17 => ?_)
        refine lv_aload_n hx hb dX7_whereDangerWaits_30 rfl (lv_at hl 0 rfl) ?_
        refine g_geti C hR (k := 43) (j := 8) (live_st (by decide)) rfl rfl (vw7) inl7 (by decide) q296 dX7_whereDangerWaits_31 ?_
        obtain ⟨r18, S19, hr18, h⟩ := bd_e h
        refine g_ci hS (g_runV C hR hS (k := (300 + 2 * (Int32.toNatClampNeg v2))) (As := [.int (rd S 43 8)]) (rest := []) (c_X0_isReadyAt l hn17 hr18) (live_c hn17) (lay_c (Nat.lt_of_lt_of_le hn17 hR.1.2.1)) (vw0) m_X0_isReadyAt q796 ⟨rfl, rfl⟩ ⟨Nat.le_of_ble_eq_true rfl, Nat.le_of_ble_eq_true rfl⟩ rfl hl.1 rfl (Nat.le_of_ble_eq_true rfl) dX7_whereDangerWaits_34 ⟨Nat.zero_le _, Nat.zero_le _⟩) (fun H locs hR hS => ?_)
        refine lv_if_eq (tgt := 54) hx hb dX7_whereDangerWaits_37 (by decide) (fun c20 => ?_) (fun c20 => ?_)
        · have h := ite_t c20 h
          exact hJ54 _ _ _ _ _  hR hS hl h
        · have h := ite_f c20 h
          refine lv_iload_n hx hb dX7_whereDangerWaits_40 rfl (lv_at hl 1 rfl) ?_
          refine lv_iconst (v := 1) hx hb dX7_whereDangerWaits_41 (by decide) ?_
          refine lv_aload_n hx hb dX7_whereDangerWaits_42 rfl (lv_at hl 0 rfl) ?_
          refine g_getr (t := 48) C hR (k := 43) (j := 6) (live_st (by decide)) rfl rfl (vw7) inl7 (by decide) q292 dX7_whereDangerWaits_43 ?_
          refine lv_iload_n hx hb dX7_whereDangerWaits_46 rfl (lv_at hl 2 rfl) ?_
          obtain ⟨g21, h⟩ := gd_e h
          refine g_aldC C hR g21.1 g21.2 dX7_whereDangerWaits_47 (fun hn22 => ?_)
          refine g_geti C hR (k := (300 + 2 * (Int32.toNatClampNeg v2))) (j := 0) (live_c hn22) (lay_c (Nat.lt_of_lt_of_le hn22 hR.1.2.1)) rfl (vw0) inl0 (by decide) q730 dX7_whereDangerWaits_48 ?_
          refine lv_ishl hx hb dX7_whereDangerWaits_51 ?_
          refine lv_ior hx hb dX7_whereDangerWaits_52 ?_
          obtain ⟨x23, ex23, h⟩ := lt_e h
          refine g_nmi ex23 ?_
          refine lv_istore_n (lv' := [(1, .int x23), (0, .ref (α 43)), (2, .int v2)]) hx hb dX7_whereDangerWaits_53 rfl hl (by decide) rfl (fun ls hl => ?_)
          exact hJ54 _ _ _ _ _  hR hS (lv_sub hl [1, 0, 2] rfl) h

set_option maxHeartbeats 4000000 in
set_option maxRecDepth 100000 in
theorem c_X7_whereDangerWaits (l : Launch) {E : En} {α : Nat → Nat} {g : Nat × Nat}  {S : St}  {z : Int32 × St} (h : f_X7_whereDangerWaits  S = some z) : Met l yX7_whereDangerWaits (wsY yX7_whereDangerWaits cX7_whereDangerWaits 3 (some .int)) rm_X7_whereDangerWaits (va_Pc [.ref (α 43)] (Wd E α g S)) (Qi E α g z) 0 0 E.2.2.1 := by
  refine g_met [.ref (α 43)] (by decide) rfl (Nat.le_of_ble_eq_true rfl) ?_
  intro p e s m below meth c ls C hR hl
  generalize hae : ([.ref (α 43)] : List Value).toArray = args at C ⊢
  have hl : lv_has ls 3 [(0, .ref (α 43))] := hl
  obtain ⟨hx, hb, hml, hown, hts, hlk, hrt, hKs⟩ := id C
  have hS : va_S E.2.2.1 s.heap s.heap [] := va_S.rf
  unfold f_X7_whereDangerWaits at h
  refine lv_iconst (v := 0) hx hb dX7_whereDangerWaits_0 (by decide) ?_
  refine lv_istore_n (lv' := [(1, .int (0 : Int32)), (0, .ref (α 43))]) hx hb dX7_whereDangerWaits_1 rfl hl (by decide) rfl (fun ls hl => ?_)
  refine lv_iconst (v := 0) hx hb dX7_whereDangerWaits_2 (by decide) ?_
  refine lv_istore_n (lv' := [(2, .int (0 : Int32)), (1, .int (0 : Int32)), (0, .ref (α 43))]) hx hb dX7_whereDangerWaits_3 rfl hl (by decide) rfl (fun ls hl => ?_)
  refine w_X7_whereDangerWaits_L4 C ?_  _ _ _ _ _ _ _  hR hS (lv_sub hl [2, 1, 0] rfl) h
  · intro x24 S25 H locs ls  hR hS hl h
    refine lv_iload_n hx hb dX7_whereDangerWaits_60 rfl (lv_at hl 0 rfl) ?_
    exact g_iret C hR hS h dX7_whereDangerWaits_61

/-! OneVoice$Station.saySounds()V -/
abbrev rm_X7_saySounds : Room := { frames := 1, cells := 0, slots := 0, locals := 20 }
theorem m_X7_saySounds : MV yX7_saySounds RX7 cX7_saySounds 2 none 0 := ⟨q824, q25, q74, q825, by decide +kernel⟩
def f_X7_saySounds_L2 (K63 : St → Option (Unit × St))  : Nat → Int32 → St → Option (Unit × St)
  | 0, _, _ => none
  | f + 1, v1, S =>
    if (6 : Int32) ≤ v1 then
      K63  S
    else
      gd_ (inb v1 6) <|
      lt_ (fun  (S12 : St) =>
          lt_ (v1 + (1 : Int32)) fun x13 =>
          f_X7_saySounds_L2 K63 f x13 S12) fun J57 =>
      if (rd S 47 (Int32.toNatClampNeg v1)) = (-1 : Int32) then
        J57  S
      else
        gd_ (inb v1 6) <|
        gd_ (inb (rd S 47 (Int32.toNatClampNeg v1)) 24 ∧ (Int32.toNatClampNeg (rd S 47 (Int32.toNatClampNeg v1))) < nC S) <|
        bd_ (f_X0_saySound (Int32.toNatClampNeg (rd S 47 (Int32.toNatClampNeg v1))) S) fun r18 S19 =>
        gd_ (inb v1 6) <|
        gd_ (inb (rd S19 47 (Int32.toNatClampNeg v1)) 24 ∧ (Int32.toNatClampNeg (rd S19 47 (Int32.toNatClampNeg v1))) < nC S19) <|
        if (rd S19 (300 + 2 * (Int32.toNatClampNeg (rd S19 47 (Int32.toNatClampNeg v1)))) 6) = (1 : Int32) then
          J57  S19
        else
          gd_ (inb v1 6) <|
          lt_ (wr S19 47 (Int32.toNatClampNeg v1) (-1 : Int32)) fun S24 =>
          J57  S24

def f_X7_saySounds  (S : St) : Option (Unit × St) :=
  f_X7_saySounds_L2
    (fun  (S26 : St) =>
      some ((), S26))
     FU (0 : Int32) S

set_option maxHeartbeats 4000000 in
set_option maxRecDepth 100000 in
theorem w_X7_saySounds_L2 {p : Program} {l : Launch} {e : Env} {s : State} {m : MethodId} {args : Array Value} {below : List Frame} {meth : Method} {c : Code} {E : En} {α : Nat → Nat} {g : Nat × Nat} (C : Cx p s m args meth c RX7 cX7_saySounds 2 none E) {z : Unit × St} {K63 : St → Option (Unit × St)}
    (hK63 : ∀ (S : St) (H : Heap) (locs : List Loc) (ls : Array Slot), Rp E α g S H → va_S E.2.2.1 s.heap H locs → lv_has ls 2 [] → K63  S = some z → W p l e rm_X7_saySounds s m args below meth c H locs 0 0 (MQ below (Qv E α g z) args s 0 0 E.2.2.1) (F0 m 63 ls [])) :
    ∀ (f : Nat) (v1 : Int32) (S : St) (H : Heap) (locs : List Loc) (ls : Array Slot), Rp E α g S H → va_S E.2.2.1 s.heap H locs → lv_has ls 2 [(0, .ref (α 43)), (1, .int v1)] → f_X7_saySounds_L2 K63 f v1 S = some z → W p l e rm_X7_saySounds s m args below meth c H locs 0 0 (MQ below (Qv E α g z) args s 0 0 E.2.2.1) (F0 m 2 ls []) := by
  obtain ⟨hx, hb, hml, hown, hts, hlk, hrt, hKs⟩ := id C
  intro f
  induction f with
  | zero =>
    intro v1 S H locs ls  hR hS hl h
    rw [f_X7_saySounds_L2] at h
    cases h
  | succ f ih =>
    intro v1 S H locs ls  hR hS hl h
    rw [f_X7_saySounds_L2] at h
    refine lv_iload_n hx hb dX7_saySounds_2 rfl (lv_at hl 1 rfl) ?_
    refine lv_bipush (v := 6) hx hb dX7_saySounds_3 (by decide) ?_
    refine lv_icmp_ge (tgt := 63) hx hb dX7_saySounds_5 (by decide) (fun c10 => ?_) (fun c10 => ?_)
    · have h := ite_t c10 h
      exact hK63  _ _ _ _  hR hS (lv_sub hl [] rfl) h
    · have h := ite_f c10 h
      refine lv_aload_n hx hb dX7_saySounds_8 rfl (lv_at hl 0 rfl) ?_
      refine g_getr (t := 47) C hR (k := 43) (j := 5) (live_st (by decide)) rfl rfl (vw7) inl7 (by decide) q290 dX7_saySounds_9 ?_
      refine lv_iload_n hx hb dX7_saySounds_12 rfl (lv_at hl 1 rfl) ?_
      obtain ⟨g11, h⟩ := gd_e h
      refine g_iald C hR (k := 47) (n := 6) (live_st (by decide)) rfl g11 dX7_saySounds_13 ?_
      refine lv_iconst (v := -1) hx hb dX7_saySounds_14 (by decide) ?_
      obtain ⟨J57, eJ57, h⟩ := lt_e h
      have hJ57 : ∀ (S12 : St) (H : Heap) (locs : List Loc) (ls : Array Slot), Rp E α g S12 H → va_S E.2.2.1 s.heap H locs → lv_has ls 2 [(0, .ref (α 43)), (1, .int v1)] → J57  S12 = some z → W p l e rm_X7_saySounds s m args below meth c H locs 0 0 (MQ below (Qv E α g z) args s 0 0 E.2.2.1) (F0 m 57 ls []) := by
        intro  S12 H locs ls  hR hS hl h
        rw [eJ57] at h
        obtain ⟨x13, ex13, h⟩ := lt_e h
        refine lv_iinc (v := x13) (lv' := [(1, .int x13), (0, .ref (α 43))]) hx hb dX7_saySounds_57 hl (k := 1) rfl (by rw [ex13]; rfl) (by decide) rfl (fun ls hl => ?_)
        refine lv_goto (tgt := 2) hx hb dX7_saySounds_60 (by decide) ?_
        exact ih _ _ _ _ _  hR hS (lv_sub hl [1, 0] rfl) h
      clear eJ57
      refine lv_icmp_eq (tgt := 57) hx hb dX7_saySounds_15 (by decide) (fun c14 => ?_) (fun c14 => ?_)
      · have h := ite_t c14 h
        exact hJ57  _ _ _ _  hR hS hl h
      · have h := ite_f c14 h
        refine lv_aload_n hx hb dX7_saySounds_18 rfl (lv_at hl 0 rfl) ?_
        refine g_getr (t := 48) C hR (k := 43) (j := 6) (live_st (by decide)) rfl rfl (vw7) inl7 (by decide) q292 dX7_saySounds_19 ?_
        refine lv_aload_n hx hb dX7_saySounds_22 rfl (lv_at hl 0 rfl) ?_
        refine g_getr (t := 47) C hR (k := 43) (j := 5) (live_st (by decide)) rfl rfl (vw7) inl7 (by decide) q290 dX7_saySounds_23 ?_
        refine lv_iload_n hx hb dX7_saySounds_26 rfl (lv_at hl 1 rfl) ?_
        obtain ⟨g15, h⟩ := gd_e h
        refine g_iald C hR (k := 47) (n := 6) (live_st (by decide)) rfl g15 dX7_saySounds_27 ?_
        obtain ⟨g16, h⟩ := gd_e h
        refine g_aldC C hR g16.1 g16.2 dX7_saySounds_28 (fun hn17 => ?_)
        obtain ⟨r18, S19, hr18, h⟩ := bd_e h
        refine g_cv hS (g_runV C hR hS (k := (300 + 2 * (Int32.toNatClampNeg (rd S 47 (Int32.toNatClampNeg v1))))) (As := []) (rest := []) (c_X0_saySound l hn17 hr18) (live_c hn17) (lay_c (Nat.lt_of_lt_of_le hn17 hR.1.2.1)) (vw0) m_X0_saySound q826 ⟨rfl, rfl⟩ ⟨Nat.le_of_ble_eq_true rfl, Nat.le_of_ble_eq_true rfl⟩ rfl hl.1 rfl (Nat.le_of_ble_eq_true rfl) dX7_saySounds_29 ⟨Nat.zero_le _, Nat.zero_le _⟩) (fun H locs hR hS => ?_)
        refine lv_aload_n hx hb dX7_saySounds_32 rfl (lv_at hl 0 rfl) ?_
        refine g_getr (t := 48) C hR (k := 43) (j := 6) (live_st (by decide)) rfl rfl (vw7) inl7 (by decide) q292 dX7_saySounds_33 ?_
        refine lv_aload_n hx hb dX7_saySounds_36 rfl (lv_at hl 0 rfl) ?_
        refine g_getr (t := 47) C hR (k := 43) (j := 5) (live_st (by decide)) rfl rfl (vw7) inl7 (by decide) q290 dX7_saySounds_37 ?_
        refine lv_iload_n hx hb dX7_saySounds_40 rfl (lv_at hl 1 rfl) ?_
        obtain ⟨g20, h⟩ := gd_e h
        refine g_iald C hR (k := 47) (n := 6) (live_st (by decide)) rfl g20 dX7_saySounds_41 ?_
        obtain ⟨g21, h⟩ := gd_e h
        refine g_aldC C hR g21.1 g21.2 dX7_saySounds_42 (fun hn22 => ?_)
        refine g_geti C hR (k := (300 + 2 * (Int32.toNatClampNeg (rd S19 47 (Int32.toNatClampNeg v1))))) (j := 6) (live_c hn22) (lay_c (Nat.lt_of_lt_of_le hn22 hR.1.2.1)) rfl (vw0) inl0 (by decide) q742 dX7_saySounds_43 ?_
        refine lv_iconst (v := 1) hx hb dX7_saySounds_46 (by decide) ?_
        refine lv_icmp_eq (tgt := 57) hx hb dX7_saySounds_47 (by decide) (fun c23 => ?_) (fun c23 => ?_)
        · have h := ite_t c23 h
          exact hJ57  _ _ _ _  hR hS hl h
        · have h := ite_f c23 h
          refine lv_aload_n hx hb dX7_saySounds_50 rfl (lv_at hl 0 rfl) ?_
          refine g_getr (t := 47) C hR (k := 43) (j := 5) (live_st (by decide)) rfl rfl (vw7) inl7 (by decide) q290 dX7_saySounds_51 ?_
          refine lv_iload_n hx hb dX7_saySounds_54 rfl (lv_at hl 1 rfl) ?_
          refine lv_iconst (v := -1) hx hb dX7_saySounds_55 (by decide) ?_
          obtain ⟨g25, h⟩ := gd_e h
          obtain ⟨S24, eS24, h⟩ := lt_e h
          refine g_iast C hR hS (k := 47) (n := 6) (live_st (by decide)) rfl g25 eS24 dX7_saySounds_56 (fun H locs hR hS => ?_)
          exact hJ57  _ _ _ _  hR hS hl h

set_option maxHeartbeats 4000000 in
set_option maxRecDepth 100000 in
theorem c_X7_saySounds (l : Launch) {E : En} {α : Nat → Nat} {g : Nat × Nat}  {S : St}  {z : Unit × St} (h : f_X7_saySounds  S = some z) : Met l yX7_saySounds (wsY yX7_saySounds cX7_saySounds 2 none) rm_X7_saySounds (va_Pc [.ref (α 43)] (Wd E α g S)) (Qv E α g z) 0 0 E.2.2.1 := by
  refine g_met [.ref (α 43)] (by decide) rfl (Nat.le_of_ble_eq_true rfl) ?_
  intro p e s m below meth c ls C hR hl
  generalize hae : ([.ref (α 43)] : List Value).toArray = args at C ⊢
  have hl : lv_has ls 2 [(0, .ref (α 43))] := hl
  obtain ⟨hx, hb, hml, hown, hts, hlk, hrt, hKs⟩ := id C
  have hS : va_S E.2.2.1 s.heap s.heap [] := va_S.rf
  unfold f_X7_saySounds at h
  refine lv_iconst (v := 0) hx hb dX7_saySounds_0 (by decide) ?_
  refine lv_istore_n (lv' := [(1, .int (0 : Int32)), (0, .ref (α 43))]) hx hb dX7_saySounds_1 rfl hl (by decide) rfl (fun ls hl => ?_)
  refine w_X7_saySounds_L2 C ?_  _ _ _ _ _ _  hR hS (lv_sub hl [1, 0] rfl) h
  · intro  S26 H locs ls  hR hS hl h
    exact g_vret C hR hS h dX7_saySounds_63
