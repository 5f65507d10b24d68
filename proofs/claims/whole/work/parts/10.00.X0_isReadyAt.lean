/-! OneVoice$Call.isReadyAt(I)Z -/
abbrev rm_X0_isReadyAt : Room := { frames := 0, cells := 0, slots := 0, locals := 0 }
theorem m_X0_isReadyAt : MV yX0_isReadyAt RX0 cX0_isReadyAt 2 (some .boolean) 1 := ⟨q797, q798, q86, q799, by decide +kernel⟩
def f_X0_isReadyAt (n0 : Nat) (v1 : Int32) (S : St) : Option (Int32 × St) :=
  lt_ (fun  (S1 : St) =>
      some ((0 : Int32), S1)) fun J19 =>
  if (rd S (300 + 2 * n0) 6) = 0 then
    if v1 < (rd S (300 + 2 * n0) 4) then
      J19  S
    else
      some ((1 : Int32), S)
  else
    J19  S

set_option maxHeartbeats 4000000 in
set_option maxRecDepth 100000 in
theorem c_X0_isReadyAt (l : Launch) {E : En} {α : Nat → Nat} {g : Nat × Nat} {n0 : Nat} {v1 : Int32} {S : St} (hn0 : n0 < g.2) {z : Int32 × St} (h : f_X0_isReadyAt n0 v1 S = some z) : Met l yX0_isReadyAt (wsY yX0_isReadyAt cX0_isReadyAt 2 (some .boolean)) rm_X0_isReadyAt (va_Pc [.ref (α (300 + 2 * n0)), .int v1] (Wd E α g S)) (Qi E α g z) 0 0 E.2.2.1 := by
  refine g_met [.ref (α (300 + 2 * n0)), .int v1] (by decide) rfl (Nat.le_of_ble_eq_true rfl) ?_
  intro p e s m below meth c ls C hR hl
  generalize hae : ([.ref (α (300 + 2 * n0)), .int v1] : List Value).toArray = args at C ⊢
  have hl : lv_has ls 2 [(0, .ref (α (300 + 2 * n0))), (1, .int v1)] := hl
  obtain ⟨hx, hb, hml, hown, hts, hlk, hrt, hKs⟩ := id C
  have hS : va_S E.2.2.1 s.heap s.heap [] := va_S.rf
  unfold f_X0_isReadyAt at h
  refine lv_aload_n hx hb dX0_isReadyAt_0 rfl (lv_at hl 0 rfl) ?_
  refine g_geti C hR (k := (300 + 2 * n0)) (j := 6) (live_c hn0) (lay_c (Nat.lt_of_lt_of_le hn0 hR.1.2.1)) rfl (vw0) inl0 (by decide) q741 dX0_isReadyAt_1 ?_
  obtain ⟨J19, eJ19, h⟩ := lt_e h
  have hJ19 : ∀ (S1 : St) (H : Heap) (locs : List Loc) (ls : Array Slot), Rp E α g S1 H → va_S E.2.2.1 s.heap H locs → lv_has ls 2 [] → J19  S1 = some z → W p l e rm_X0_isReadyAt s m args below meth c H locs 0 0 (MQ below (Qi E α g z) args s 0 0 E.2.2.1) (F0 m 19 ls []) := by
    intro  S1 H locs ls  hR hS hl h
    rw [eJ19] at h
    refine lv_iconst (v := 0) hx hb dX0_isReadyAt_19 (by decide) ?_
    exact g_zret C hR hS bz0 h dX0_isReadyAt_20
  clear eJ19
  refine lv_if_ne (tgt := 19) hx hb dX0_isReadyAt_4 (by decide) (fun c2 => ?_) (fun c2 => ?_)
  · have h := ite_f c2 h
    exact hJ19  _ _ _ _  hR hS (lv_sub hl [] rfl) h
  · have h := ite_t c2 h
    refine lv_aload_n hx hb dX0_isReadyAt_7 rfl (lv_at hl 0 rfl) ?_
    refine g_geti C hR (k := (300 + 2 * n0)) (j := 4) (live_c hn0) (lay_c (Nat.lt_of_lt_of_le hn0 hR.1.2.1)) rfl (vw0) inl0 (by decide) q737 dX0_isReadyAt_8 ?_
    refine lv_iload_n hx hb dX0_isReadyAt_11 rfl (lv_at hl 1 rfl) ?_
    refine lv_icmp_gt (tgt := 19) hx hb dX0_isReadyAt_12 (by decide) (fun c3 => ?_) (fun c3 => ?_)
    · have h := ite_t c3 h
      exact hJ19  _ _ _ _  hR hS (lv_sub hl [] rfl) h
    · have h := ite_f c3 h
      refine lv_iconst (v := 1) hx hb dX0_isReadyAt_15 (by decide) ?_
      refine lv_goto (tgt := 20) hx hb dX0_isReadyAt_16 (by decide) ?_
      exact g_zret C hR hS bz1 h dX0_isReadyAt_20

/-! OneVoice$Call.start(ILOneVoice$Lexicon;)V -/
abbrev rm_X0_start : Room := { frames := 0, cells := 0, slots := 0, locals := 0 }
theorem m_X0_start : MV yX0_start RX0 cX0_start 5 none 2 := ⟨q815, q816, q86, q817, by decide +kernel⟩
def f_X0_start_L5 (K43 : St → Option (Unit × St)) (n0 : Nat) (v1 : Int32) : Nat → Int32 → Int32 → St → Option (Unit × St)
  | 0, _, _, _ => none
  | f + 1, v3, v4, S =>
    if (rd S 14 5) ≤ v4 then
      K43  S
    else
      gd_ (inb v4 16) <|
      gd_ (inb (rd S 19 (Int32.toNatClampNeg v4)) 32) <|
      lt_ (v3 + (rd S 16 (Int32.toNatClampNeg (rd S 19 (Int32.toNatClampNeg v4))))) fun x12 =>
      gd_ (inb v4 16) <|
      lt_ (wr S (300 + 2 * n0 + 1) (Int32.toNatClampNeg v4) x12) fun S13 =>
      lt_ (v4 + (1 : Int32)) fun x15 =>
      f_X0_start_L5 K43 n0 v1 f x12 x15 S13

def f_X0_start (n0 : Nat) (v1 : Int32) (S : St) : Option (Unit × St) :=
  f_X0_start_L5
    (fun  (S16 : St) =>
      lt_ (wr S16 (300 + 2 * n0) 11 (rd S16 14 5)) fun S17 =>
      lt_ (wr S17 (300 + 2 * n0) 6 (1 : Int32)) fun S18 =>
      lt_ (wr S18 (300 + 2 * n0) 8 v1) fun S19 =>
      some ((), S19))
    n0 v1 FU (0 : Int32) (0 : Int32) S

set_option maxHeartbeats 4000000 in
set_option maxRecDepth 100000 in
theorem w_X0_start_L5 {p : Program} {l : Launch} {e : Env} {s : State} {m : MethodId} {args : Array Value} {below : List Frame} {meth : Method} {c : Code} {E : En} {α : Nat → Nat} {g : Nat × Nat} (C : Cx p s m args meth c RX0 cX0_start 5 none E) {z : Unit × St} {K43 : St → Option (Unit × St)} {n0 : Nat} {v1 : Int32}
    (hK43 : ∀ (S : St) (H : Heap) (locs : List Loc) (ls : Array Slot), Rp E α g S H → va_S E.2.2.1 s.heap H locs → lv_has ls 5 [(0, .ref (α (300 + 2 * n0))), (1, .int v1), (2, .ref (α 14))] → K43  S = some z → W p l e rm_X0_start s m args below meth c H locs 0 0 (MQ below (Qv E α g z) args s 0 0 E.2.2.1) (F0 m 43 ls [])) (hn0 : n0 < g.2) :
    ∀ (f : Nat) (v3 : Int32) (v4 : Int32) (S : St) (H : Heap) (locs : List Loc) (ls : Array Slot), Rp E α g S H → va_S E.2.2.1 s.heap H locs → lv_has ls 5 [(0, .ref (α (300 + 2 * n0))), (1, .int v1), (2, .ref (α 14)), (3, .int v3), (4, .int v4)] → f_X0_start_L5 K43 n0 v1 f v3 v4 S = some z → W p l e rm_X0_start s m args below meth c H locs 0 0 (MQ below (Qv E α g z) args s 0 0 E.2.2.1) (F0 m 5 ls []) := by
  obtain ⟨hx, hb, hml, hown, hts, hlk, hrt, hKs⟩ := id C
  intro f
  induction f with
  | zero =>
    intro v3 v4 S H locs ls  hR hS hl h
    rw [f_X0_start_L5] at h
    cases h
  | succ f ih =>
    intro v3 v4 S H locs ls  hR hS hl h
    rw [f_X0_start_L5] at h
    refine lv_iload hx hb dX0_start_5 (lv_at hl 4 rfl) ?_
    refine lv_aload_n hx hb dX0_start_7 rfl (lv_at hl 2 rfl) ?_
    refine g_geti C hR (k := 14) (j := 5) (live_st (by decide)) rfl rfl (vw1) inl1 (by decide) q201 dX0_start_8 ?_
    refine lv_icmp_ge (tgt := 43) hx hb dX0_start_11 (by decide) (fun c9 => ?_) (fun c9 => ?_)
    · have h := ite_t c9 h
      exact hK43  _ _ _ _  hR hS (lv_sub hl [0, 1, 2] rfl) h
    · have h := ite_f c9 h
      refine lv_iload_n hx hb dX0_start_14 rfl (lv_at hl 3 rfl) ?_
      refine lv_aload_n hx hb dX0_start_15 rfl (lv_at hl 2 rfl) ?_
      refine g_getr (t := 16) C hR (k := 14) (j := 1) (live_st (by decide)) rfl rfl (vw1) inl1 (by decide) q189 dX0_start_16 ?_
      refine lv_aload_n hx hb dX0_start_19 rfl (lv_at hl 2 rfl) ?_
      refine g_getr (t := 19) C hR (k := 14) (j := 4) (live_st (by decide)) rfl rfl (vw1) inl1 (by decide) q198 dX0_start_20 ?_
      refine lv_iload hx hb dX0_start_23 (lv_at hl 4 rfl) ?_
      obtain ⟨g10, h⟩ := gd_e h
      refine g_iald C hR (k := 19) (n := 16) (live_st (by decide)) rfl g10 dX0_start_25 ?_
      obtain ⟨g11, h⟩ := gd_e h
      refine g_iald C hR (k := 16) (n := 32) (live_st (by decide)) rfl g11 dX0_start_26 ?_
      refine lv_iadd hx hb dX0_start_27 ?_
      obtain ⟨x12, ex12, h⟩ := lt_e h
      refine g_nmi ex12 ?_
      refine lv_istore_n (lv' := [(3, .int x12), (0, .ref (α (300 + 2 * n0))), (1, .int v1), (2, .ref (α 14)), (4, .int v4)]) hx hb dX0_start_28 rfl hl (by decide) rfl (fun ls hl => ?_)
      refine lv_aload_n hx hb dX0_start_29 rfl (lv_at hl 1 rfl) ?_
      refine g_getr (t := (300 + 2 * n0 + 1)) C hR (k := (300 + 2 * n0)) (j := 10) (live_c hn0) (lay_c (Nat.lt_of_lt_of_le hn0 hR.1.2.1)) rfl (vw0) inl0 (by decide) q750 dX0_start_30 ?_
      refine lv_iload hx hb dX0_start_33 (lv_at hl 4 rfl) ?_
      refine lv_iload_n hx hb dX0_start_35 rfl (lv_at hl 0 rfl) ?_
      obtain ⟨g14, h⟩ := gd_e h
      obtain ⟨S13, eS13, h⟩ := lt_e h
      refine g_iast C hR hS (k := (300 + 2 * n0 + 1)) (n := 16) (live_ce hn0) (lay_ce (Nat.lt_of_lt_of_le hn0 hR.1.2.1)) g14 eS13 dX0_start_36 (fun H locs hR hS => ?_)
      obtain ⟨x15, ex15, h⟩ := lt_e h
      refine lv_iinc (v := x15) (lv' := [(4, .int x15), (3, .int x12), (0, .ref (α (300 + 2 * n0))), (1, .int v1), (2, .ref (α 14))]) hx hb dX0_start_37 hl (k := 4) rfl (by rw [ex15]; rfl) (by decide) rfl (fun ls hl => ?_)
      refine lv_goto (tgt := 5) hx hb dX0_start_40 (by decide) ?_
      exact ih _ _ _ _ _ _  hR hS (lv_sub hl [2, 3, 4, 1, 0] rfl) h

set_option maxHeartbeats 4000000 in
set_option maxRecDepth 100000 in
theorem c_X0_start (l : Launch) {E : En} {α : Nat → Nat} {g : Nat × Nat} {n0 : Nat} {v1 : Int32} {S : St} (hn0 : n0 < g.2) {z : Unit × St} (h : f_X0_start n0 v1 S = some z) : Met l yX0_start (wsY yX0_start cX0_start 5 none) rm_X0_start (va_Pc [.ref (α (300 + 2 * n0)), .int v1, .ref (α 14)] (Wd E α g S)) (Qv E α g z) 0 0 E.2.2.1 := by
  refine g_met [.ref (α (300 + 2 * n0)), .int v1, .ref (α 14)] (by decide) rfl (Nat.le_of_ble_eq_true rfl) ?_
  intro p e s m below meth c ls C hR hl
  generalize hae : ([.ref (α (300 + 2 * n0)), .int v1, .ref (α 14)] : List Value).toArray = args at C ⊢
  have hl : lv_has ls 5 [(0, .ref (α (300 + 2 * n0))), (1, .int v1), (2, .ref (α 14))] := hl
  obtain ⟨hx, hb, hml, hown, hts, hlk, hrt, hKs⟩ := id C
  have hS : va_S E.2.2.1 s.heap s.heap [] := va_S.rf
  unfold f_X0_start at h
  refine lv_iconst (v := 0) hx hb dX0_start_0 (by decide) ?_
  refine lv_istore_n (lv' := [(3, .int (0 : Int32)), (0, .ref (α (300 + 2 * n0))), (1, .int v1), (2, .ref (α 14))]) hx hb dX0_start_1 rfl hl (by decide) rfl (fun ls hl => ?_)
  refine lv_iconst (v := 0) hx hb dX0_start_2 (by decide) ?_
  refine lv_istore (lv' := [(4, .int (0 : Int32)), (3, .int (0 : Int32)), (0, .ref (α (300 + 2 * n0))), (1, .int v1), (2, .ref (α 14))]) hx hb dX0_start_3 hl (by decide) rfl (fun ls hl => ?_)
  refine w_X0_start_L5 C ?_ hn0 _ _ _ _ _ _ _  hR hS (lv_sub hl [2, 3, 4, 1, 0] rfl) h
  · intro  S16 H locs ls  hR hS hl h
    refine lv_aload_n hx hb dX0_start_43 rfl (lv_at hl 0 rfl) ?_
    refine lv_aload_n hx hb dX0_start_44 rfl (lv_at hl 2 rfl) ?_
    refine g_geti C hR (k := 14) (j := 5) (live_st (by decide)) rfl rfl (vw1) inl1 (by decide) q201 dX0_start_45 ?_
    obtain ⟨S17, eS17, h⟩ := lt_e h
    refine g_puti C hR hS (k := (300 + 2 * n0)) (j := 11) (live_c hn0) (lay_c (Nat.lt_of_lt_of_le hn0 hR.1.2.1)) rfl (vw0) inl0 (by decide) (ty0 := tyX0) tyX0_ok nmX0 q751 rfl rfl rfl eS17 dX0_start_48 (fun H locs hR hS => ?_)
    refine lv_aload_n hx hb dX0_start_51 rfl (lv_at hl 0 rfl) ?_
    refine lv_iconst (v := 1) hx hb dX0_start_52 (by decide) ?_
    obtain ⟨S18, eS18, h⟩ := lt_e h
    refine g_puti C hR hS (k := (300 + 2 * n0)) (j := 6) (live_c hn0) (lay_c (Nat.lt_of_lt_of_le hn0 hR.1.2.1)) rfl (vw0) inl0 (by decide) (ty0 := tyX0) tyX0_ok nmX0 q741 rfl rfl rfl eS18 dX0_start_53 (fun H locs hR hS => ?_)
    refine lv_aload_n hx hb dX0_start_56 rfl (lv_at hl 0 rfl) ?_
    refine lv_iload_n hx hb dX0_start_57 rfl (lv_at hl 1 rfl) ?_
    obtain ⟨S19, eS19, h⟩ := lt_e h
    refine g_puti C hR hS (k := (300 + 2 * n0)) (j := 8) (live_c hn0) (lay_c (Nat.lt_of_lt_of_le hn0 hR.1.2.1)) rfl (vw0) inl0 (by decide) (ty0 := tyX0) tyX0_ok nmX0 q746 rfl rfl rfl eS19 dX0_start_58 (fun H locs hR hS => ?_)
    exact g_vret C hR hS h dX0_start_61

/-! OneVoice$Call.saySound()V -/
abbrev rm_X0_saySound : Room := { frames := 0, cells := 0, slots := 0, locals := 0 }
theorem m_X0_saySound : MV yX0_saySound RX0 cX0_saySound 1 none 0 := ⟨q827, q828, q86, q829, by decide +kernel⟩
def f_X0_saySound (n0 : Nat) (S : St) : Option (Unit × St) :=
  lt_ (wr S (300 + 2 * n0) 7 ((rd S (300 + 2 * n0) 7) + (1 : Int32))) fun S6 =>
  lt_ (fun  (S7 : St) =>
      lt_ (wr S7 (300 + 2 * n0) 12 ((rd S7 (300 + 2 * n0) 12) + (1 : Int32))) fun S8 =>
      if (rd S8 (300 + 2 * n0) 12) < (rd S8 (300 + 2 * n0) 11) then
        if (rd S8 (300 + 2 * n0) 9) = 0 then
          some ((), S8)
        else
          lt_ (wr S8 (300 + 2 * n0) 6 (3 : Int32)) fun S11 =>
          some ((), S11)
      else
        lt_ (wr S8 (300 + 2 * n0) 6 (2 : Int32)) fun S12 =>
        some ((), S12)) fun J38 =>
  if (rd S6 (300 + 2 * n0) 11) ≤ (rd S6 (300 + 2 * n0) 12) then
    J38  S6
  else
    gd_ (inb (rd S6 (300 + 2 * n0) 12) 16) <|
    if (rd S6 (300 + 2 * n0 + 1) (Int32.toNatClampNeg (rd S6 (300 + 2 * n0) 12))) ≤ (rd S6 (300 + 2 * n0) 7) then
      J38  S6
    else
      some ((), S6)

set_option maxHeartbeats 4000000 in
set_option maxRecDepth 100000 in
theorem c_X0_saySound (l : Launch) {E : En} {α : Nat → Nat} {g : Nat × Nat} {n0 : Nat} {S : St} (hn0 : n0 < g.2) {z : Unit × St} (h : f_X0_saySound n0 S = some z) : Met l yX0_saySound (wsY yX0_saySound cX0_saySound 1 none) rm_X0_saySound (va_Pc [.ref (α (300 + 2 * n0))] (Wd E α g S)) (Qv E α g z) 0 0 E.2.2.1 := by
  refine g_met [.ref (α (300 + 2 * n0))] (by decide) rfl (Nat.le_of_ble_eq_true rfl) ?_
  intro p e s m below meth c ls C hR hl
  generalize hae : ([.ref (α (300 + 2 * n0))] : List Value).toArray = args at C ⊢
  have hl : lv_has ls 1 [(0, .ref (α (300 + 2 * n0)))] := hl
  obtain ⟨hx, hb, hml, hown, hts, hlk, hrt, hKs⟩ := id C
  have hS : va_S E.2.2.1 s.heap s.heap [] := va_S.rf
  unfold f_X0_saySound at h
  refine lv_aload_n hx hb dX0_saySound_0 rfl (lv_at hl 0 rfl) ?_
  refine lv_dup hx hb dX0_saySound_1 rfl ?_
  refine g_geti C hR (k := (300 + 2 * n0)) (j := 7) (live_c hn0) (lay_c (Nat.lt_of_lt_of_le hn0 hR.1.2.1)) rfl (vw0) inl0 (by decide) q744 dX0_saySound_2 ?_
  refine lv_iconst (v := 1) hx hb dX0_saySound_5 (by decide) ?_
  refine lv_iadd hx hb dX0_saySound_6 ?_
  obtain ⟨S6, eS6, h⟩ := lt_e h
  refine g_puti C hR hS (k := (300 + 2 * n0)) (j := 7) (live_c hn0) (lay_c (Nat.lt_of_lt_of_le hn0 hR.1.2.1)) rfl (vw0) inl0 (by decide) (ty0 := tyX0) tyX0_ok nmX0 q744 rfl rfl rfl eS6 dX0_saySound_7 (fun H locs hR hS => ?_)
  refine lv_aload_n hx hb dX0_saySound_10 rfl (lv_at hl 0 rfl) ?_
  refine g_geti C hR (k := (300 + 2 * n0)) (j := 12) (live_c hn0) (lay_c (Nat.lt_of_lt_of_le hn0 hR.1.2.1)) rfl (vw0) inl0 (by decide) q752 dX0_saySound_11 ?_
  refine lv_aload_n hx hb dX0_saySound_14 rfl (lv_at hl 0 rfl) ?_
  refine g_geti C hR (k := (300 + 2 * n0)) (j := 11) (live_c hn0) (lay_c (Nat.lt_of_lt_of_le hn0 hR.1.2.1)) rfl (vw0) inl0 (by decide) q751 dX0_saySound_15 ?_
  obtain ⟨J38, eJ38, h⟩ := lt_e h
  have hJ38 : ∀ (S7 : St) (H : Heap) (locs : List Loc) (ls : Array Slot), Rp E α g S7 H → va_S E.2.2.1 s.heap H locs → lv_has ls 1 [(0, .ref (α (300 + 2 * n0)))] → J38  S7 = some z → W p l e rm_X0_saySound s m args below meth c H locs 0 0 (MQ below (Qv E α g z) args s 0 0 E.2.2.1) (F0 m 38 ls []) := by
    intro  S7 H locs ls  hR hS hl h
    rw [eJ38] at h
    refine lv_aload_n hx hb dX0_saySound_38 rfl (lv_at hl 0 rfl) ?_
    refine lv_dup hx hb dX0_saySound_39 rfl ?_
    refine g_geti C hR (k := (300 + 2 * n0)) (j := 12) (live_c hn0) (lay_c (Nat.lt_of_lt_of_le hn0 hR.1.2.1)) rfl (vw0) inl0 (by decide) q752 dX0_saySound_40 ?_
    refine lv_iconst (v := 1) hx hb dX0_saySound_43 (by decide) ?_
    refine lv_iadd hx hb dX0_saySound_44 ?_
    obtain ⟨S8, eS8, h⟩ := lt_e h
    refine g_puti C hR hS (k := (300 + 2 * n0)) (j := 12) (live_c hn0) (lay_c (Nat.lt_of_lt_of_le hn0 hR.1.2.1)) rfl (vw0) inl0 (by decide) (ty0 := tyX0) tyX0_ok nmX0 q752 rfl rfl rfl eS8 dX0_saySound_45 (fun H locs hR hS => ?_)
    refine lv_aload_n hx hb dX0_saySound_48 rfl (lv_at hl 0 rfl) ?_
    refine g_geti C hR (k := (300 + 2 * n0)) (j := 12) (live_c hn0) (lay_c (Nat.lt_of_lt_of_le hn0 hR.1.2.1)) rfl (vw0) inl0 (by decide) q752 dX0_saySound_49 ?_
    refine lv_aload_n hx hb dX0_saySound_52 rfl (lv_at hl 0 rfl) ?_
    refine g_geti C hR (k := (300 + 2 * n0)) (j := 11) (live_c hn0) (lay_c (Nat.lt_of_lt_of_le hn0 hR.1.2.1)) rfl (vw0) inl0 (by decide) q751 dX0_saySound_53 ?_
    refine lv_icmp_lt (tgt := 67) hx hb dX0_saySound_56 (by decide) (fun c9 => ?_) (fun c9 => ?_)
    · have h := ite_t c9 h
      refine lv_aload_n hx hb dX0_saySound_67 rfl (lv_at hl 0 rfl) ?_
      refine g_geti C hR (k := (300 + 2 * n0)) (j := 9) (live_c hn0) (lay_c (Nat.lt_of_lt_of_le hn0 hR.1.2.1)) rfl (vw0) inl0 (by decide) q748 dX0_saySound_68 ?_
      refine lv_if_eq (tgt := 79) hx hb dX0_saySound_71 (by decide) (fun c10 => ?_) (fun c10 => ?_)
      · have h := ite_t c10 h
        exact g_vret C hR hS h dX0_saySound_79
      · have h := ite_f c10 h
        refine lv_aload_n hx hb dX0_saySound_74 rfl (lv_at hl 0 rfl) ?_
        refine lv_iconst (v := 3) hx hb dX0_saySound_75 (by decide) ?_
        obtain ⟨S11, eS11, h⟩ := lt_e h
        refine g_puti C hR hS (k := (300 + 2 * n0)) (j := 6) (live_c hn0) (lay_c (Nat.lt_of_lt_of_le hn0 hR.1.2.1)) rfl (vw0) inl0 (by decide) (ty0 := tyX0) tyX0_ok nmX0 q741 rfl rfl rfl eS11 dX0_saySound_76 (fun H locs hR hS => ?_)
        exact g_vret C hR hS h dX0_saySound_79
    · have h := ite_f c9 h
      refine lv_aload_n hx hb dX0_saySound_59 rfl (lv_at hl 0 rfl) ?_
      refine lv_iconst (v := 2) hx hb dX0_saySound_60 (by decide) ?_
      obtain ⟨S12, eS12, h⟩ := lt_e h
      refine g_puti C hR hS (k := (300 + 2 * n0)) (j := 6) (live_c hn0) (lay_c (Nat.lt_of_lt_of_le hn0 hR.1.2.1)) rfl (vw0) inl0 (by decide) (ty0 := tyX0) tyX0_ok nmX0 q741 rfl rfl rfl eS12 dX0_saySound_61 (fun H locs hR hS => ?_)
      refine lv_goto (tgt := 79) hx hb dX0_saySound_64 (by decide) ?_
      exact g_vret C hR hS h dX0_saySound_79
  clear eJ38
  refine lv_icmp_ge (tgt := 38) hx hb dX0_saySound_18 (by decide) (fun c13 => ?_) (fun c13 => ?_)
  · have h := ite_t c13 h
    exact hJ38  _ _ _ _  hR hS hl h
  · have h := ite_f c13 h
    refine lv_aload_n hx hb dX0_saySound_21 rfl (lv_at hl 0 rfl) ?_
    refine g_geti C hR (k := (300 + 2 * n0)) (j := 7) (live_c hn0) (lay_c (Nat.lt_of_lt_of_le hn0 hR.1.2.1)) rfl (vw0) inl0 (by decide) q744 dX0_saySound_22 ?_
    refine lv_aload_n hx hb dX0_saySound_25 rfl (lv_at hl 0 rfl) ?_
    refine g_getr (t := (300 + 2 * n0 + 1)) C hR (k := (300 + 2 * n0)) (j := 10) (live_c hn0) (lay_c (Nat.lt_of_lt_of_le hn0 hR.1.2.1)) rfl (vw0) inl0 (by decide) q750 dX0_saySound_26 ?_
    refine lv_aload_n hx hb dX0_saySound_29 rfl (lv_at hl 0 rfl) ?_
    refine g_geti C hR (k := (300 + 2 * n0)) (j := 12) (live_c hn0) (lay_c (Nat.lt_of_lt_of_le hn0 hR.1.2.1)) rfl (vw0) inl0 (by decide) q752 dX0_saySound_30 ?_
    obtain ⟨g14, h⟩ := gd_e h
    refine g_iald C hR (k := (300 + 2 * n0 + 1)) (n := 16) (live_ce hn0) (lay_ce (Nat.lt_of_lt_of_le hn0 hR.1.2.1)) g14 dX0_saySound_33 ?_
    refine lv_icmp_ge (tgt := 38) hx hb dX0_saySound_34 (by decide) (fun c15 => ?_) (fun c15 => ?_)
    · have h := ite_t c15 h
      exact hJ38  _ _ _ _  hR hS hl h
    · have h := ite_f c15 h
      exact g_vret C hR hS h dX0_saySound_37

/-! OneVoice$Lexicon.tellWord(LOneVoice$Row;)V -/
abbrev rm_X1_tellWord : Room := { frames := 0, cells := 0, slots := 0, locals := 0 }
theorem m_X1_tellWord : MV yX1_tellWord RX1 cX1_tellWord 4 none 1 := ⟨q657, q658, q71, q659, by decide +kernel⟩
def f_X1_tellWord_L4 (K31 : Int32 → St → Option (Unit × St)) (n1 : Nat) : Nat → Int32 → Int32 → St → Option (Unit × St)
  | 0, _, _, _ => none
  | f + 1, v2, v3, S =>
    if (rd S (23 + n1) 3) ≤ v3 then
      K31 v2 S
    else
      gd_ (inb v3 8) <|
      lt_ (v2 ||| ((rd S (33 + n1) (Int32.toNatClampNeg v3)) <<< (((4 : Int32) * v3) &&& 31))) fun x8 =>
      lt_ (v3 + (1 : Int32)) fun x9 =>
      f_X1_tellWord_L4 K31 n1 f x8 x9 S

def f_X1_tellWord (n1 : Nat) (S : St) : Option (Unit × St) :=
  f_X1_tellWord_L4
    (fun (x10 : Int32) (S11 : St) =>
      gd_ (inb (rd S11 (23 + n1) 1) 32) <|
      lt_ (wr S11 15 (Int32.toNatClampNeg (rd S11 (23 + n1) 1)) x10) fun S12 =>
      gd_ (inb (rd S12 (23 + n1) 1) 32) <|
      lt_ (wr S12 16 (Int32.toNatClampNeg (rd S12 (23 + n1) 1)) (rd S12 (23 + n1) 3)) fun S14 =>
      some ((), S14))
    n1 FU (0 : Int32) (0 : Int32) S

set_option maxHeartbeats 4000000 in
set_option maxRecDepth 100000 in
theorem w_X1_tellWord_L4 {p : Program} {l : Launch} {e : Env} {s : State} {m : MethodId} {args : Array Value} {below : List Frame} {meth : Method} {c : Code} {E : En} {α : Nat → Nat} {g : Nat × Nat} (C : Cx p s m args meth c RX1 cX1_tellWord 4 none E) {z : Unit × St} {K31 : Int32 → St → Option (Unit × St)} {n1 : Nat}
    (hK31 : ∀ (y2 : Int32) (S : St) (H : Heap) (locs : List Loc) (ls : Array Slot), Rp E α g S H → va_S E.2.2.1 s.heap H locs → lv_has ls 4 [(0, .ref (α 14)), (1, .ref (α (23 + n1))), (2, .int y2)] → K31 y2 S = some z → W p l e rm_X1_tellWord s m args below meth c H locs 0 0 (MQ below (Qv E α g z) args s 0 0 E.2.2.1) (F0 m 31 ls [])) (hn1 : n1 < 10) :
    ∀ (f : Nat) (v2 : Int32) (v3 : Int32) (S : St) (H : Heap) (locs : List Loc) (ls : Array Slot), Rp E α g S H → va_S E.2.2.1 s.heap H locs → lv_has ls 4 [(0, .ref (α 14)), (1, .ref (α (23 + n1))), (2, .int v2), (3, .int v3)] → f_X1_tellWord_L4 K31 n1 f v2 v3 S = some z → W p l e rm_X1_tellWord s m args below meth c H locs 0 0 (MQ below (Qv E α g z) args s 0 0 E.2.2.1) (F0 m 4 ls []) := by
  obtain ⟨hx, hb, hml, hown, hts, hlk, hrt, hKs⟩ := id C
  intro f
  induction f with
  | zero =>
    intro v2 v3 S H locs ls  hR hS hl h
    rw [f_X1_tellWord_L4] at h
    cases h
  | succ f ih =>
    intro v2 v3 S H locs ls  hR hS hl h
    rw [f_X1_tellWord_L4] at h
    refine lv_iload_n hx hb dX1_tellWord_4 rfl (lv_at hl 3 rfl) ?_
    refine lv_aload_n hx hb dX1_tellWord_5 rfl (lv_at hl 1 rfl) ?_
    refine g_geti C hR (k := (23 + n1)) (j := 3) (live_r hn1) (lay_r hn1) rfl (vw5) inl5 (by decide) q239 dX1_tellWord_6 ?_
    refine lv_icmp_ge (tgt := 31) hx hb dX1_tellWord_9 (by decide) (fun c6 => ?_) (fun c6 => ?_)
    · have h := ite_t c6 h
      exact hK31 _ _ _ _ _  hR hS (lv_sub hl [0, 1, 2] rfl) h
    · have h := ite_f c6 h
      refine lv_iload_n hx hb dX1_tellWord_12 rfl (lv_at hl 2 rfl) ?_
      refine lv_aload_n hx hb dX1_tellWord_13 rfl (lv_at hl 1 rfl) ?_
      refine g_getr (t := (33 + n1)) C hR (k := (23 + n1)) (j := 2) (live_r hn1) (lay_r hn1) rfl (vw5) inl5 (by decide) q236 dX1_tellWord_14 ?_
      refine lv_iload_n hx hb dX1_tellWord_17 rfl (lv_at hl 3 rfl) ?_
      obtain ⟨g7, h⟩ := gd_e h
      refine g_iald C hR (k := (33 + n1)) (n := 8) (live_ri hn1) (lay_ri hn1) g7 dX1_tellWord_18 ?_
      refine lv_iconst (v := 4) hx hb dX1_tellWord_19 (by decide) ?_
      refine lv_iload_n hx hb dX1_tellWord_20 rfl (lv_at hl 3 rfl) ?_
      refine lv_imul hx hb dX1_tellWord_21 ?_
      refine lv_ishl hx hb dX1_tellWord_22 ?_
      refine lv_ior hx hb dX1_tellWord_23 ?_
      obtain ⟨x8, ex8, h⟩ := lt_e h
      refine g_nmi ex8 ?_
      refine lv_istore_n (lv' := [(2, .int x8), (0, .ref (α 14)), (1, .ref (α (23 + n1))), (3, .int v3)]) hx hb dX1_tellWord_24 rfl hl (by decide) rfl (fun ls hl => ?_)
      obtain ⟨x9, ex9, h⟩ := lt_e h
      refine lv_iinc (v := x9) (lv' := [(3, .int x9), (2, .int x8), (0, .ref (α 14)), (1, .ref (α (23 + n1)))]) hx hb dX1_tellWord_25 hl (k := 3) rfl (by rw [ex9]; rfl) (by decide) rfl (fun ls hl => ?_)
      refine lv_goto (tgt := 4) hx hb dX1_tellWord_28 (by decide) ?_
      exact ih _ _ _ _ _ _  hR hS (lv_sub hl [2, 3, 1, 0] rfl) h

set_option maxHeartbeats 4000000 in
set_option maxRecDepth 100000 in
theorem c_X1_tellWord (l : Launch) {E : En} {α : Nat → Nat} {g : Nat × Nat} {n1 : Nat} {S : St} (hn1 : n1 < 10) {z : Unit × St} (h : f_X1_tellWord n1 S = some z) : Met l yX1_tellWord (wsY yX1_tellWord cX1_tellWord 4 none) rm_X1_tellWord (va_Pc [.ref (α 14), .ref (α (23 + n1))] (Wd E α g S)) (Qv E α g z) 0 0 E.2.2.1 := by
  refine g_met [.ref (α 14), .ref (α (23 + n1))] (by decide) rfl (Nat.le_of_ble_eq_true rfl) ?_
  intro p e s m below meth c ls C hR hl
  generalize hae : ([.ref (α 14), .ref (α (23 + n1))] : List Value).toArray = args at C ⊢
  have hl : lv_has ls 4 [(0, .ref (α 14)), (1, .ref (α (23 + n1)))] := hl
  obtain ⟨hx, hb, hml, hown, hts, hlk, hrt, hKs⟩ := id C
  have hS : va_S E.2.2.1 s.heap s.heap [] := va_S.rf
  unfold f_X1_tellWord at h
  refine lv_iconst (v := 0) hx hb dX1_tellWord_0 (by decide) ?_
  refine lv_istore_n (lv' := [(2, .int (0 : Int32)), (0, .ref (α 14)), (1, .ref (α (23 + n1)))]) hx hb dX1_tellWord_1 rfl hl (by decide) rfl (fun ls hl => ?_)
  refine lv_iconst (v := 0) hx hb dX1_tellWord_2 (by decide) ?_
  refine lv_istore_n (lv' := [(3, .int (0 : Int32)), (2, .int (0 : Int32)), (0, .ref (α 14)), (1, .ref (α (23 + n1)))]) hx hb dX1_tellWord_3 rfl hl (by decide) rfl (fun ls hl => ?_)
  refine w_X1_tellWord_L4 C ?_ hn1 _ _ _ _ _ _ _  hR hS (lv_sub hl [2, 3, 1, 0] rfl) h
  · intro x10 S11 H locs ls  hR hS hl h
    refine lv_aload_n hx hb dX1_tellWord_31 rfl (lv_at hl 0 rfl) ?_
    refine g_getr (t := 15) C hR (k := 14) (j := 0) (live_st (by decide)) rfl rfl (vw1) inl1 (by decide) q186 dX1_tellWord_32 ?_
    refine lv_aload_n hx hb dX1_tellWord_35 rfl (lv_at hl 1 rfl) ?_
    refine g_geti C hR (k := (23 + n1)) (j := 1) (live_r hn1) (lay_r hn1) rfl (vw5) inl5 (by decide) q232 dX1_tellWord_36 ?_
    refine lv_iload_n hx hb dX1_tellWord_39 rfl (lv_at hl 2 rfl) ?_
    obtain ⟨g13, h⟩ := gd_e h
    obtain ⟨S12, eS12, h⟩ := lt_e h
    refine g_iast C hR hS (k := 15) (n := 32) (live_st (by decide)) rfl g13 eS12 dX1_tellWord_40 (fun H locs hR hS => ?_)
    refine lv_aload_n hx hb dX1_tellWord_41 rfl (lv_at hl 0 rfl) ?_
    refine g_getr (t := 16) C hR (k := 14) (j := 1) (live_st (by decide)) rfl rfl (vw1) inl1 (by decide) q188 dX1_tellWord_42 ?_
    refine lv_aload_n hx hb dX1_tellWord_45 rfl (lv_at hl 1 rfl) ?_
    refine g_geti C hR (k := (23 + n1)) (j := 1) (live_r hn1) (lay_r hn1) rfl (vw5) inl5 (by decide) q232 dX1_tellWord_46 ?_
    refine lv_aload_n hx hb dX1_tellWord_49 rfl (lv_at hl 1 rfl) ?_
    refine g_geti C hR (k := (23 + n1)) (j := 3) (live_r hn1) (lay_r hn1) rfl (vw5) inl5 (by decide) q239 dX1_tellWord_50 ?_
    obtain ⟨g15, h⟩ := gd_e h
    obtain ⟨S14, eS14, h⟩ := lt_e h
    refine g_iast C hR hS (k := 16) (n := 32) (live_st (by decide)) rfl g15 eS14 dX1_tellWord_53 (fun H locs hR hS => ?_)
    exact g_vret C hR hS h dX1_tellWord_54

/-! OneVoice$Lexicon.tellLine(LOneVoice$Row;)V -/
abbrev rm_X1_tellLine : Room := { frames := 0, cells := 0, slots := 0, locals := 0 }
theorem m_X1_tellLine : MV yX1_tellLine RX1 cX1_tellLine 3 none 1 := ⟨q661, q662, q71, q663, by decide +kernel⟩
def f_X1_tellLine_L2 (K36 : St → Option (Unit × St)) (n1 : Nat) : Nat → Int32 → St → Option (Unit × St)
  | 0, _, _ => none
  | f + 1, v2, S =>
    if (rd S (23 + n1) 3) ≤ v2 then
      K36  S
    else
      gd_ (inb v2 8) <|
      gd_ (inb (((rd S (23 + n1) 1) * (8 : Int32)) + v2) 64) <|
      lt_ (wr S 17 (Int32.toNatClampNeg (((rd S (23 + n1) 1) * (8 : Int32)) + v2)) (rd S (33 + n1) (Int32.toNatClampNeg v2))) fun S7 =>
      lt_ (v2 + (1 : Int32)) fun x9 =>
      f_X1_tellLine_L2 K36 n1 f x9 S7

def f_X1_tellLine (n1 : Nat) (S : St) : Option (Unit × St) :=
  f_X1_tellLine_L2
    (fun  (S10 : St) =>
      gd_ (inb (rd S10 (23 + n1) 1) 8) <|
      lt_ (wr S10 18 (Int32.toNatClampNeg (rd S10 (23 + n1) 1)) (rd S10 (23 + n1) 3)) fun S11 =>
      some ((), S11))
    n1 FU (0 : Int32) S

set_option maxHeartbeats 4000000 in
set_option maxRecDepth 100000 in
theorem w_X1_tellLine_L2 {p : Program} {l : Launch} {e : Env} {s : State} {m : MethodId} {args : Array Value} {below : List Frame} {meth : Method} {c : Code} {E : En} {α : Nat → Nat} {g : Nat × Nat} (C : Cx p s m args meth c RX1 cX1_tellLine 3 none E) {z : Unit × St} {K36 : St → Option (Unit × St)} {n1 : Nat}
    (hK36 : ∀ (S : St) (H : Heap) (locs : List Loc) (ls : Array Slot), Rp E α g S H → va_S E.2.2.1 s.heap H locs → lv_has ls 3 [(0, .ref (α 14)), (1, .ref (α (23 + n1)))] → K36  S = some z → W p l e rm_X1_tellLine s m args below meth c H locs 0 0 (MQ below (Qv E α g z) args s 0 0 E.2.2.1) (F0 m 36 ls [])) (hn1 : n1 < 10) :
    ∀ (f : Nat) (v2 : Int32) (S : St) (H : Heap) (locs : List Loc) (ls : Array Slot), Rp E α g S H → va_S E.2.2.1 s.heap H locs → lv_has ls 3 [(0, .ref (α 14)), (1, .ref (α (23 + n1))), (2, .int v2)] → f_X1_tellLine_L2 K36 n1 f v2 S = some z → W p l e rm_X1_tellLine s m args below meth c H locs 0 0 (MQ below (Qv E α g z) args s 0 0 E.2.2.1) (F0 m 2 ls []) := by
  obtain ⟨hx, hb, hml, hown, hts, hlk, hrt, hKs⟩ := id C
  intro f
  induction f with
  | zero =>
    intro v2 S H locs ls  hR hS hl h
    rw [f_X1_tellLine_L2] at h
    cases h
  | succ f ih =>
    intro v2 S H locs ls  hR hS hl h
    rw [f_X1_tellLine_L2] at h
    refine lv_iload_n hx hb dX1_tellLine_2 rfl (lv_at hl 2 rfl) ?_
    refine lv_aload_n hx hb dX1_tellLine_3 rfl (lv_at hl 1 rfl) ?_
    refine g_geti C hR (k := (23 + n1)) (j := 3) (live_r hn1) (lay_r hn1) rfl (vw5) inl5 (by decide) q239 dX1_tellLine_4 ?_
    refine lv_icmp_ge (tgt := 36) hx hb dX1_tellLine_7 (by decide) (fun c5 => ?_) (fun c5 => ?_)
    · have h := ite_t c5 h
      exact hK36  _ _ _ _  hR hS (lv_sub hl [0, 1] rfl) h
    · have h := ite_f c5 h
      refine lv_aload_n hx hb dX1_tellLine_10 rfl (lv_at hl 0 rfl) ?_
      refine g_getr (t := 17) C hR (k := 14) (j := 2) (live_st (by decide)) rfl rfl (vw1) inl1 (by decide) q193 dX1_tellLine_11 ?_
      refine lv_aload_n hx hb dX1_tellLine_14 rfl (lv_at hl 1 rfl) ?_
      refine g_geti C hR (k := (23 + n1)) (j := 1) (live_r hn1) (lay_r hn1) rfl (vw5) inl5 (by decide) q232 dX1_tellLine_15 ?_
      refine lv_bipush (v := 8) hx hb dX1_tellLine_18 (by decide) ?_
      refine lv_imul hx hb dX1_tellLine_20 ?_
      refine lv_iload_n hx hb dX1_tellLine_21 rfl (lv_at hl 2 rfl) ?_
      refine lv_iadd hx hb dX1_tellLine_22 ?_
      refine lv_aload_n hx hb dX1_tellLine_23 rfl (lv_at hl 1 rfl) ?_
      refine g_getr (t := (33 + n1)) C hR (k := (23 + n1)) (j := 2) (live_r hn1) (lay_r hn1) rfl (vw5) inl5 (by decide) q236 dX1_tellLine_24 ?_
      refine lv_iload_n hx hb dX1_tellLine_27 rfl (lv_at hl 2 rfl) ?_
      obtain ⟨g6, h⟩ := gd_e h
      refine g_iald C hR (k := (33 + n1)) (n := 8) (live_ri hn1) (lay_ri hn1) g6 dX1_tellLine_28 ?_
      obtain ⟨g8, h⟩ := gd_e h
      obtain ⟨S7, eS7, h⟩ := lt_e h
      refine g_iast C hR hS (k := 17) (n := 64) (live_st (by decide)) rfl g8 eS7 dX1_tellLine_29 (fun H locs hR hS => ?_)
      obtain ⟨x9, ex9, h⟩ := lt_e h
      refine lv_iinc (v := x9) (lv' := [(2, .int x9), (0, .ref (α 14)), (1, .ref (α (23 + n1)))]) hx hb dX1_tellLine_30 hl (k := 2) rfl (by rw [ex9]; rfl) (by decide) rfl (fun ls hl => ?_)
      refine lv_goto (tgt := 2) hx hb dX1_tellLine_33 (by decide) ?_
      exact ih _ _ _ _ _  hR hS (lv_sub hl [1, 2, 0] rfl) h

set_option maxHeartbeats 4000000 in
set_option maxRecDepth 100000 in
theorem c_X1_tellLine (l : Launch) {E : En} {α : Nat → Nat} {g : Nat × Nat} {n1 : Nat} {S : St} (hn1 : n1 < 10) {z : Unit × St} (h : f_X1_tellLine n1 S = some z) : Met l yX1_tellLine (wsY yX1_tellLine cX1_tellLine 3 none) rm_X1_tellLine (va_Pc [.ref (α 14), .ref (α (23 + n1))] (Wd E α g S)) (Qv E α g z) 0 0 E.2.2.1 := by
  refine g_met [.ref (α 14), .ref (α (23 + n1))] (by decide) rfl (Nat.le_of_ble_eq_true rfl) ?_
  intro p e s m below meth c ls C hR hl
  generalize hae : ([.ref (α 14), .ref (α (23 + n1))] : List Value).toArray = args at C ⊢
  have hl : lv_has ls 3 [(0, .ref (α 14)), (1, .ref (α (23 + n1)))] := hl
  obtain ⟨hx, hb, hml, hown, hts, hlk, hrt, hKs⟩ := id C
  have hS : va_S E.2.2.1 s.heap s.heap [] := va_S.rf
  unfold f_X1_tellLine at h
  refine lv_iconst (v := 0) hx hb dX1_tellLine_0 (by decide) ?_
  refine lv_istore_n (lv' := [(2, .int (0 : Int32)), (0, .ref (α 14)), (1, .ref (α (23 + n1)))]) hx hb dX1_tellLine_1 rfl hl (by decide) rfl (fun ls hl => ?_)
  refine w_X1_tellLine_L2 C ?_ hn1 _ _ _ _ _ _  hR hS (lv_sub hl [1, 2, 0] rfl) h
  · intro  S10 H locs ls  hR hS hl h
    refine lv_aload_n hx hb dX1_tellLine_36 rfl (lv_at hl 0 rfl) ?_
    refine g_getr (t := 18) C hR (k := 14) (j := 3) (live_st (by decide)) rfl rfl (vw1) inl1 (by decide) q194 dX1_tellLine_37 ?_
    refine lv_aload_n hx hb dX1_tellLine_40 rfl (lv_at hl 1 rfl) ?_
    refine g_geti C hR (k := (23 + n1)) (j := 1) (live_r hn1) (lay_r hn1) rfl (vw5) inl5 (by decide) q232 dX1_tellLine_41 ?_
    refine lv_aload_n hx hb dX1_tellLine_44 rfl (lv_at hl 1 rfl) ?_
    refine g_geti C hR (k := (23 + n1)) (j := 3) (live_r hn1) (lay_r hn1) rfl (vw5) inl5 (by decide) q239 dX1_tellLine_45 ?_
    obtain ⟨g12, h⟩ := gd_e h
    obtain ⟨S11, eS11, h⟩ := lt_e h
    refine g_iast C hR hS (k := 18) (n := 8) (live_st (by decide)) rfl g12 eS11 dX1_tellLine_48 (fun H locs hR hS => ?_)
    exact g_vret C hR hS h dX1_tellLine_49

/-! OneVoice.below(II)Z -/
abbrev rm_X10_below : Room := { frames := 0, cells := 0, slots := 0, locals := 0 }
theorem m_X10_below : MS yX10_below cX10_below 2 (some .boolean) 2 := ⟨q378, q68, q379, by decide +kernel⟩
def f_X10_below (v0 : Int32) (v1 : Int32) (S : St) : Option (Int32 × St) :=
  lt_ (fun  (S1 : St) =>
      some ((0 : Int32), S1)) fun J13 =>
  if v0 < 0 then
    J13  S
  else
    if v1 ≤ v0 then
      J13  S
    else
      some ((1 : Int32), S)

set_option maxHeartbeats 4000000 in
set_option maxRecDepth 100000 in
theorem c_X10_below (l : Launch) {E : En} {α : Nat → Nat} {g : Nat × Nat} {v0 : Int32} {v1 : Int32} {S : St}  {z : Int32 × St} (h : f_X10_below v0 v1 S = some z) : Met l yX10_below (wsY yX10_below cX10_below 2 (some .boolean)) rm_X10_below (va_Pc [.int v0, .int v1] (Wd E α g S)) (Qi E α g z) 0 0 E.2.2.1 := by
  refine g_met [.int v0, .int v1] (by decide) rfl (Nat.le_of_ble_eq_true rfl) ?_
  intro p e s m below meth c ls C hR hl
  generalize hae : ([.int v0, .int v1] : List Value).toArray = args at C ⊢
  have hl : lv_has ls 2 [(0, .int v0), (1, .int v1)] := hl
  obtain ⟨hx, hb, hml, hown, hts, hlk, hrt, hKs⟩ := id C
  have hS : va_S E.2.2.1 s.heap s.heap [] := va_S.rf
  unfold f_X10_below at h
  refine lv_iload_n hx hb dX10_below_0 rfl (lv_at hl 0 rfl) ?_
  obtain ⟨J13, eJ13, h⟩ := lt_e h
  have hJ13 : ∀ (S1 : St) (H : Heap) (locs : List Loc) (ls : Array Slot), Rp E α g S1 H → va_S E.2.2.1 s.heap H locs → lv_has ls 2 [] → J13  S1 = some z → W p l e rm_X10_below s m args below meth c H locs 0 0 (MQ below (Qi E α g z) args s 0 0 E.2.2.1) (F0 m 13 ls []) := by
    intro  S1 H locs ls  hR hS hl h
    rw [eJ13] at h
    refine lv_iconst (v := 0) hx hb dX10_below_13 (by decide) ?_
    exact g_zret C hR hS bz0 h dX10_below_14
  clear eJ13
  refine lv_if_lt (tgt := 13) hx hb dX10_below_1 (by decide) (fun c2 => ?_) (fun c2 => ?_)
  · have h := ite_t c2 h
    exact hJ13  _ _ _ _  hR hS (lv_sub hl [] rfl) h
  · have h := ite_f c2 h
    refine lv_iload_n hx hb dX10_below_4 rfl (lv_at hl 0 rfl) ?_
    refine lv_iload_n hx hb dX10_below_5 rfl (lv_at hl 1 rfl) ?_
    refine lv_icmp_ge (tgt := 13) hx hb dX10_below_6 (by decide) (fun c3 => ?_) (fun c3 => ?_)
    · have h := ite_t c3 h
      exact hJ13  _ _ _ _  hR hS (lv_sub hl [] rfl) h
    · have h := ite_f c3 h
      refine lv_iconst (v := 1) hx hb dX10_below_9 (by decide) ?_
      refine lv_goto (tgt := 14) hx hb dX10_below_10 (by decide) ?_
      exact g_zret C hR hS bz1 h dX10_below_14

/-! OneVoice$Lexicon.knows(I)Z -/
abbrev rm_X1_knows : Room := { frames := 1, cells := 0, slots := 0, locals := 21 }
theorem m_X1_knows : MV yX1_knows RX1 cX1_knows 2 (some .boolean) 1 := ⟨q685, q686, q71, q687, by decide +kernel⟩
def f_X1_knows (v1 : Int32) (S : St) : Option (Int32 × St) :=
  bd_ (f_X10_below v1 (8 : Int32) S) fun r2 S3 =>
  lt_ (fun  (S4 : St) =>
      some ((0 : Int32), S4)) fun J22 =>
  if r2 = 0 then
    J22  S3
  else
    gd_ (inb v1 8) <|
    if (rd S3 18 (Int32.toNatClampNeg v1)) ≤ 0 then
      J22  S3
    else
      some ((1 : Int32), S3)

set_option maxHeartbeats 4000000 in
set_option maxRecDepth 100000 in
theorem c_X1_knows (l : Launch) {E : En} {α : Nat → Nat} {g : Nat × Nat} {v1 : Int32} {S : St}  {z : Int32 × St} (h : f_X1_knows v1 S = some z) : Met l yX1_knows (wsY yX1_knows cX1_knows 2 (some .boolean)) rm_X1_knows (va_Pc [.ref (α 14), .int v1] (Wd E α g S)) (Qi E α g z) 0 0 E.2.2.1 := by
  refine g_met [.ref (α 14), .int v1] (by decide) rfl (Nat.le_of_ble_eq_true rfl) ?_
  intro p e s m below meth c ls C hR hl
  generalize hae : ([.ref (α 14), .int v1] : List Value).toArray = args at C ⊢
  have hl : lv_has ls 2 [(0, .ref (α 14)), (1, .int v1)] := hl
  obtain ⟨hx, hb, hml, hown, hts, hlk, hrt, hKs⟩ := id C
  have hS : va_S E.2.2.1 s.heap s.heap [] := va_S.rf
  unfold f_X1_knows at h
  refine lv_iload_n hx hb dX1_knows_0 rfl (lv_at hl 1 rfl) ?_
  refine lv_bipush (v := 8) hx hb dX1_knows_1 (by decide) ?_
  obtain ⟨r2, S3, hr2, h⟩ := bd_e h
  refine g_ci hS (g_runN C hR hS (host := RX10) (As := [.int v1, .int (8 : Int32)]) (rest := []) (c_X10_below l  hr2) m_X10_below (by decide) ⟨rfl, rfl⟩ ⟨Nat.le_of_ble_eq_true rfl, Nat.le_of_ble_eq_true rfl⟩ rfl hl.1 rfl (Nat.le_of_ble_eq_true rfl) dX1_knows_3 ⟨Nat.zero_le _, Nat.zero_le _⟩) (fun H locs hR hS => ?_)
  obtain ⟨J22, eJ22, h⟩ := lt_e h
  have hJ22 : ∀ (S4 : St) (H : Heap) (locs : List Loc) (ls : Array Slot), Rp E α g S4 H → va_S E.2.2.1 s.heap H locs → lv_has ls 2 [] → J22  S4 = some z → W p l e rm_X1_knows s m args below meth c H locs 0 0 (MQ below (Qi E α g z) args s 0 0 E.2.2.1) (F0 m 22 ls []) := by
    intro  S4 H locs ls  hR hS hl h
    rw [eJ22] at h
    refine lv_iconst (v := 0) hx hb dX1_knows_22 (by decide) ?_
    exact g_zret C hR hS bz0 h dX1_knows_23
  clear eJ22
  refine lv_if_eq (tgt := 22) hx hb dX1_knows_6 (by decide) (fun c5 => ?_) (fun c5 => ?_)
  · have h := ite_t c5 h
    exact hJ22  _ _ _ _  hR hS (lv_sub hl [] rfl) h
  · have h := ite_f c5 h
    refine lv_aload_n hx hb dX1_knows_9 rfl (lv_at hl 0 rfl) ?_
    refine g_getr (t := 18) C hR (k := 14) (j := 3) (live_st (by decide)) rfl rfl (vw1) inl1 (by decide) q194 dX1_knows_10 ?_
    refine lv_iload_n hx hb dX1_knows_13 rfl (lv_at hl 1 rfl) ?_
    obtain ⟨g6, h⟩ := gd_e h
    refine g_iald C hR (k := 18) (n := 8) (live_st (by decide)) rfl g6 dX1_knows_14 ?_
    refine lv_if_le (tgt := 22) hx hb dX1_knows_15 (by decide) (fun c7 => ?_) (fun c7 => ?_)
    · have h := ite_t c7 h
      exact hJ22  _ _ _ _  hR hS (lv_sub hl [] rfl) h
    · have h := ite_f c7 h
      refine lv_iconst (v := 1) hx hb dX1_knows_18 (by decide) ?_
      refine lv_goto (tgt := 23) hx hb dX1_knows_19 (by decide) ?_
      exact g_zret C hR hS bz1 h dX1_knows_23

/-! OneVoice$Lexicon.soundOf(II)I -/
abbrev rm_X1_soundOf : Room := { frames := 0, cells := 0, slots := 0, locals := 0 }
theorem m_X1_soundOf : MV yX1_soundOf RX1 cX1_soundOf 3 (some .int) 2 := ⟨q677, q678, q71, q679, by decide +kernel⟩
def f_X1_soundOf (v1 : Int32) (v2 : Int32) (S : St) : Option (Int32 × St) :=
  gd_ (inb v1 32) <|
  some (((ushr (rd S 15 (Int32.toNatClampNeg v1)) ((4 : Int32) * v2)) &&& (15 : Int32)), S)

set_option maxHeartbeats 4000000 in
set_option maxRecDepth 100000 in
theorem c_X1_soundOf (l : Launch) {E : En} {α : Nat → Nat} {g : Nat × Nat} {v1 : Int32} {v2 : Int32} {S : St}  {z : Int32 × St} (h : f_X1_soundOf v1 v2 S = some z) : Met l yX1_soundOf (wsY yX1_soundOf cX1_soundOf 3 (some .int)) rm_X1_soundOf (va_Pc [.ref (α 14), .int v1, .int v2] (Wd E α g S)) (Qi E α g z) 0 0 E.2.2.1 := by
  refine g_met [.ref (α 14), .int v1, .int v2] (by decide) rfl (Nat.le_of_ble_eq_true rfl) ?_
  intro p e s m below meth c ls C hR hl
  generalize hae : ([.ref (α 14), .int v1, .int v2] : List Value).toArray = args at C ⊢
  have hl : lv_has ls 3 [(0, .ref (α 14)), (1, .int v1), (2, .int v2)] := hl
  obtain ⟨hx, hb, hml, hown, hts, hlk, hrt, hKs⟩ := id C
  have hS : va_S E.2.2.1 s.heap s.heap [] := va_S.rf
  unfold f_X1_soundOf at h
  refine lv_aload_n hx hb dX1_soundOf_0 rfl (lv_at hl 0 rfl) ?_
  refine g_getr (t := 15) C hR (k := 14) (j := 0) (live_st (by decide)) rfl rfl (vw1) inl1 (by decide) q186 dX1_soundOf_1 ?_
  refine lv_iload_n hx hb dX1_soundOf_4 rfl (lv_at hl 1 rfl) ?_
  obtain ⟨g2, h⟩ := gd_e h
  refine g_iald C hR (k := 15) (n := 32) (live_st (by decide)) rfl g2 dX1_soundOf_5 ?_
  refine lv_iconst (v := 4) hx hb dX1_soundOf_6 (by decide) ?_
  refine lv_iload_n hx hb dX1_soundOf_7 rfl (lv_at hl 2 rfl) ?_
  refine lv_imul hx hb dX1_soundOf_8 ?_
  refine lv_iushr (v := ushr (rd S 15 (Int32.toNatClampNeg v1)) ((4 : Int32) * v2)) hx hb dX1_soundOf_9 rfl ?_
  refine lv_bipush (v := 15) hx hb dX1_soundOf_10 (by decide) ?_
  refine lv_iand hx hb dX1_soundOf_12 ?_
  exact g_iret C hR hS h dX1_soundOf_13

/-! OneVoice$Lexicon.hasNumber(I)Z -/
abbrev rm_X1_hasNumber : Room := { frames := 0, cells := 0, slots := 0, locals := 0 }
theorem m_X1_hasNumber : MV yX1_hasNumber RX1 cX1_hasNumber 3 (some .boolean) 1 := ⟨q880, q881, q71, q882, by decide +kernel⟩
def f_X1_hasNumber_L2 (K28 : St → Option (Int32 × St)) (K36 : St → Option (Int32 × St)) (v1 : Int32) : Nat → Int32 → St → Option (Int32 × St)
  | 0, _, _ => none
  | f + 1, v2, S =>
    gd_ (inb v1 8) <|
    if (rd S 18 (Int32.toNatClampNeg v1)) ≤ v2 then
      K36  S
    else
      gd_ (inb ((v1 * (8 : Int32)) + v2) 64) <|
      if (rd S 17 (Int32.toNatClampNeg ((v1 * (8 : Int32)) + v2))) = (100 : Int32) then
        K28  S
      else
        lt_ (v2 + (1 : Int32)) fun x8 =>
        f_X1_hasNumber_L2 K28 K36 v1 f x8 S

def f_X1_hasNumber (v1 : Int32) (S : St) : Option (Int32 × St) :=
  f_X1_hasNumber_L2
    (fun  (S9 : St) =>
      some ((1 : Int32), S9))
    (fun  (S10 : St) =>
      some ((0 : Int32), S10))
    v1 FU (0 : Int32) S

set_option maxHeartbeats 4000000 in
set_option maxRecDepth 100000 in
theorem w_X1_hasNumber_L2 {p : Program} {l : Launch} {e : Env} {s : State} {m : MethodId} {args : Array Value} {below : List Frame} {meth : Method} {c : Code} {E : En} {α : Nat → Nat} {g : Nat × Nat} (C : Cx p s m args meth c RX1 cX1_hasNumber 3 (some .boolean) E) {z : Int32 × St} {K28 : St → Option (Int32 × St)} {K36 : St → Option (Int32 × St)} {v1 : Int32}
    (hK28 : ∀ (S : St) (H : Heap) (locs : List Loc) (ls : Array Slot), Rp E α g S H → va_S E.2.2.1 s.heap H locs → lv_has ls 3 [] → K28  S = some z → W p l e rm_X1_hasNumber s m args below meth c H locs 0 0 (MQ below (Qi E α g z) args s 0 0 E.2.2.1) (F0 m 28 ls []))
    (hK36 : ∀ (S : St) (H : Heap) (locs : List Loc) (ls : Array Slot), Rp E α g S H → va_S E.2.2.1 s.heap H locs → lv_has ls 3 [] → K36  S = some z → W p l e rm_X1_hasNumber s m args below meth c H locs 0 0 (MQ below (Qi E α g z) args s 0 0 E.2.2.1) (F0 m 36 ls [])) :
    ∀ (f : Nat) (v2 : Int32) (S : St) (H : Heap) (locs : List Loc) (ls : Array Slot), Rp E α g S H → va_S E.2.2.1 s.heap H locs → lv_has ls 3 [(0, .ref (α 14)), (1, .int v1), (2, .int v2)] → f_X1_hasNumber_L2 K28 K36 v1 f v2 S = some z → W p l e rm_X1_hasNumber s m args below meth c H locs 0 0 (MQ below (Qi E α g z) args s 0 0 E.2.2.1) (F0 m 2 ls []) := by
  obtain ⟨hx, hb, hml, hown, hts, hlk, hrt, hKs⟩ := id C
  intro f
  induction f with
  | zero =>
    intro v2 S H locs ls  hR hS hl h
    rw [f_X1_hasNumber_L2] at h
    cases h
  | succ f ih =>
    intro v2 S H locs ls  hR hS hl h
    rw [f_X1_hasNumber_L2] at h
    refine lv_iload_n hx hb dX1_hasNumber_2 rfl (lv_at hl 2 rfl) ?_
    refine lv_aload_n hx hb dX1_hasNumber_3 rfl (lv_at hl 0 rfl) ?_
    refine g_getr (t := 18) C hR (k := 14) (j := 3) (live_st (by decide)) rfl rfl (vw1) inl1 (by decide) q194 dX1_hasNumber_4 ?_
    refine lv_iload_n hx hb dX1_hasNumber_7 rfl (lv_at hl 1 rfl) ?_
    obtain ⟨g4, h⟩ := gd_e h
    refine g_iald C hR (k := 18) (n := 8) (live_st (by decide)) rfl g4 dX1_hasNumber_8 ?_
    refine lv_icmp_ge (tgt := 36) hx hb dX1_hasNumber_9 (by decide) (fun c5 => ?_) (fun c5 => ?_)
    · have h := ite_t c5 h
      exact hK36  _ _ _ _  hR hS (lv_sub hl [] rfl) h
    · have h := ite_f c5 h
      refine lv_aload_n hx hb dX1_hasNumber_12 rfl (lv_at hl 0 rfl) ?_
      refine g_getr (t := 17) C hR (k := 14) (j := 2) (live_st (by decide)) rfl rfl (vw1) inl1 (by decide) q193 dX1_hasNumber_13 ?_
      refine lv_iload_n hx hb dX1_hasNumber_16 rfl (lv_at hl 1 rfl) ?_
      refine lv_bipush (v := 8) hx hb dX1_hasNumber_17 (by decide) ?_
      refine lv_imul hx hb dX1_hasNumber_19 ?_
      refine lv_iload_n hx hb dX1_hasNumber_20 rfl (lv_at hl 2 rfl) ?_
      refine lv_iadd hx hb dX1_hasNumber_21 ?_
      obtain ⟨g6, h⟩ := gd_e h
      refine g_iald C hR (k := 17) (n := 64) (live_st (by decide)) rfl g6 dX1_hasNumber_22 ?_
      refine lv_bipush (v := 100) hx hb dX1_hasNumber_23 (by decide) ?_
      refine lv_icmp_ne (tgt := 30) hx hb dX1_hasNumber_25 (by decide) (fun c7 => ?_) (fun c7 => ?_)
      · have h := ite_f c7 h
        obtain ⟨x8, ex8, h⟩ := lt_e h
        refine lv_iinc (v := x8) (lv' := [(2, .int x8), (0, .ref (α 14)), (1, .int v1)]) hx hb dX1_hasNumber_30 hl (k := 2) rfl (by rw [ex8]; rfl) (by decide) rfl (fun ls hl => ?_)
        refine lv_goto (tgt := 2) hx hb dX1_hasNumber_33 (by decide) ?_
        exact ih _ _ _ _ _  hR hS (lv_sub hl [1, 2, 0] rfl) h
      · have h := ite_t c7 h
        exact hK28  _ _ _ _  hR hS (lv_sub hl [] rfl) h

set_option maxHeartbeats 4000000 in
set_option maxRecDepth 100000 in
theorem c_X1_hasNumber (l : Launch) {E : En} {α : Nat → Nat} {g : Nat × Nat} {v1 : Int32} {S : St}  {z : Int32 × St} (h : f_X1_hasNumber v1 S = some z) : Met l yX1_hasNumber (wsY yX1_hasNumber cX1_hasNumber 3 (some .boolean)) rm_X1_hasNumber (va_Pc [.ref (α 14), .int v1] (Wd E α g S)) (Qi E α g z) 0 0 E.2.2.1 := by
  refine g_met [.ref (α 14), .int v1] (by decide) rfl (Nat.le_of_ble_eq_true rfl) ?_
  intro p e s m below meth c ls C hR hl
  generalize hae : ([.ref (α 14), .int v1] : List Value).toArray = args at C ⊢
  have hl : lv_has ls 3 [(0, .ref (α 14)), (1, .int v1)] := hl
  obtain ⟨hx, hb, hml, hown, hts, hlk, hrt, hKs⟩ := id C
  have hS : va_S E.2.2.1 s.heap s.heap [] := va_S.rf
  unfold f_X1_hasNumber at h
  refine lv_iconst (v := 0) hx hb dX1_hasNumber_0 (by decide) ?_
  refine lv_istore_n (lv' := [(2, .int (0 : Int32)), (0, .ref (α 14)), (1, .int v1)]) hx hb dX1_hasNumber_1 rfl hl (by decide) rfl (fun ls hl => ?_)
  refine w_X1_hasNumber_L2 C ?_ ?_  _ _ _ _ _ _  hR hS (lv_sub hl [1, 2, 0] rfl) h
  · intro  S9 H locs ls  hR hS hl h
    refine lv_iconst (v := 1) hx hb dX1_hasNumber_28 (by decide) ?_
    exact g_zret C hR hS bz1 h dX1_hasNumber_29
  · intro  S10 H locs ls  hR hS hl h
    refine lv_iconst (v := 0) hx hb dX1_hasNumber_36 (by decide) ?_
    exact g_zret C hR hS bz0 h dX1_hasNumber_37

/-! OneVoice$Lexicon.speak(I)V -/
abbrev rm_X1_speak : Room := { frames := 0, cells := 0, slots := 0, locals := 0 }
theorem m_X1_speak : MV yX1_speak RX1 cX1_speak 2 none 1 := ⟨q699, q19, q71, q700, by decide +kernel⟩
def f_X1_speak (v1 : Int32) (S : St) : Option (Unit × St) :=
  if (16 : Int32) ≤ (rd S 14 5) then
    some ((), S)
  else
    gd_ (inb (rd S 14 5) 16) <|
    lt_ (wr S 19 (Int32.toNatClampNeg (rd S 14 5)) v1) fun S4 =>
    lt_ (wr S4 14 5 ((rd S4 14 5) + (1 : Int32))) fun S6 =>
    some ((), S6)

set_option maxHeartbeats 4000000 in
set_option maxRecDepth 100000 in
theorem c_X1_speak (l : Launch) {E : En} {α : Nat → Nat} {g : Nat × Nat} {v1 : Int32} {S : St}  {z : Unit × St} (h : f_X1_speak v1 S = some z) : Met l yX1_speak (wsY yX1_speak cX1_speak 2 none) rm_X1_speak (va_Pc [.ref (α 14), .int v1] (Wd E α g S)) (Qv E α g z) 0 0 E.2.2.1 := by
  refine g_met [.ref (α 14), .int v1] (by decide) rfl (Nat.le_of_ble_eq_true rfl) ?_
  intro p e s m below meth c ls C hR hl
  generalize hae : ([.ref (α 14), .int v1] : List Value).toArray = args at C ⊢
  have hl : lv_has ls 2 [(0, .ref (α 14)), (1, .int v1)] := hl
  obtain ⟨hx, hb, hml, hown, hts, hlk, hrt, hKs⟩ := id C
  have hS : va_S E.2.2.1 s.heap s.heap [] := va_S.rf
  unfold f_X1_speak at h
  refine lv_aload_n hx hb dX1_speak_0 rfl (lv_at hl 0 rfl) ?_
  refine g_geti C hR (k := 14) (j := 5) (live_st (by decide)) rfl rfl (vw1) inl1 (by decide) q202 dX1_speak_1 ?_
  refine lv_bipush (v := 16) hx hb dX1_speak_4 (by decide) ?_
  refine lv_icmp_ge (tgt := 29) hx hb dX1_speak_6 (by decide) (fun c3 => ?_) (fun c3 => ?_)
  · have h := ite_t c3 h
    exact g_vret C hR hS h dX1_speak_29
  · have h := ite_f c3 h
    refine lv_aload_n hx hb dX1_speak_9 rfl (lv_at hl 0 rfl) ?_
    refine g_getr (t := 19) C hR (k := 14) (j := 4) (live_st (by decide)) rfl rfl (vw1) inl1 (by decide) q196 dX1_speak_10 ?_
    refine lv_aload_n hx hb dX1_speak_13 rfl (lv_at hl 0 rfl) ?_
    refine g_geti C hR (k := 14) (j := 5) (live_st (by decide)) rfl rfl (vw1) inl1 (by decide) q202 dX1_speak_14 ?_
    refine lv_iload_n hx hb dX1_speak_17 rfl (lv_at hl 1 rfl) ?_
    obtain ⟨g5, h⟩ := gd_e h
    obtain ⟨S4, eS4, h⟩ := lt_e h
    refine g_iast C hR hS (k := 19) (n := 16) (live_st (by decide)) rfl g5 eS4 dX1_speak_18 (fun H locs hR hS => ?_)
    refine lv_aload_n hx hb dX1_speak_19 rfl (lv_at hl 0 rfl) ?_
    refine lv_dup hx hb dX1_speak_20 rfl ?_
    refine g_geti C hR (k := 14) (j := 5) (live_st (by decide)) rfl rfl (vw1) inl1 (by decide) q202 dX1_speak_21 ?_
    refine lv_iconst (v := 1) hx hb dX1_speak_24 (by decide) ?_
    refine lv_iadd hx hb dX1_speak_25 ?_
    obtain ⟨S6, eS6, h⟩ := lt_e h
    refine g_puti C hR hS (k := 14) (j := 5) (live_st (by decide)) rfl rfl (vw1) inl1 (by decide) (ty0 := tyX1) tyX1_ok nmX1 q202 rfl rfl rfl eS6 dX1_speak_26 (fun H locs hR hS => ?_)
    exact g_vret C hR hS h dX1_speak_29

/-! OneVoice$Lexicon.spellNumber(I)V -/
abbrev rm_X1_spellNumber : Room := { frames := 1, cells := 0, slots := 0, locals := 21 }
theorem m_X1_spellNumber : MV yX1_spellNumber RX1 cX1_spellNumber 2 none 1 := ⟨q695, q18, q71, q696, by decide +kernel⟩
def f_X1_spellNumber (v1 : Int32) (S : St) : Option (Unit × St) :=
  if (20 : Int32) ≤ v1 then
    bd_ (f_X1_speak ((18 : Int32) + (v1 / (10 : Int32))) S) fun r2 S3 =>
    if (v1 - v1 / (10 : Int32) * (10 : Int32)) = 0 then
      some ((), S3)
    else
      bd_ (f_X1_speak (v1 - v1 / (10 : Int32) * (10 : Int32)) S3) fun r5 S6 =>
      some ((), S6)
  else
    bd_ (f_X1_speak v1 S) fun r7 S8 =>
    some ((), S8)

set_option maxHeartbeats 4000000 in
set_option maxRecDepth 100000 in
theorem c_X1_spellNumber (l : Launch) {E : En} {α : Nat → Nat} {g : Nat × Nat} {v1 : Int32} {S : St}  {z : Unit × St} (h : f_X1_spellNumber v1 S = some z) : Met l yX1_spellNumber (wsY yX1_spellNumber cX1_spellNumber 2 none) rm_X1_spellNumber (va_Pc [.ref (α 14), .int v1] (Wd E α g S)) (Qv E α g z) 0 0 E.2.2.1 := by
  refine g_met [.ref (α 14), .int v1] (by decide) rfl (Nat.le_of_ble_eq_true rfl) ?_
  intro p e s m below meth c ls C hR hl
  generalize hae : ([.ref (α 14), .int v1] : List Value).toArray = args at C ⊢
  have hl : lv_has ls 2 [(0, .ref (α 14)), (1, .int v1)] := hl
  obtain ⟨hx, hb, hml, hown, hts, hlk, hrt, hKs⟩ := id C
  have hS : va_S E.2.2.1 s.heap s.heap [] := va_S.rf
  unfold f_X1_spellNumber at h
  refine lv_iload_n hx hb dX1_spellNumber_0 rfl (lv_at hl 1 rfl) ?_
  refine lv_bipush (v := 20) hx hb dX1_spellNumber_1 (by decide) ?_
  refine lv_icmp_ge (tgt := 12) hx hb dX1_spellNumber_3 (by decide) (fun c1 => ?_) (fun c1 => ?_)
  · have h := ite_t c1 h
    refine lv_aload_n hx hb dX1_spellNumber_12 rfl (lv_at hl 0 rfl) ?_
    refine lv_bipush (v := 18) hx hb dX1_spellNumber_13 (by decide) ?_
    refine lv_iload_n hx hb dX1_spellNumber_15 rfl (lv_at hl 1 rfl) ?_
    refine lv_bipush (v := 10) hx hb dX1_spellNumber_16 (by decide) ?_
    refine lv_idiv hx hb dX1_spellNumber_18 (by decide) ?_
    refine lv_iadd hx hb dX1_spellNumber_19 ?_
    obtain ⟨r2, S3, hr2, h⟩ := bd_e h
    refine g_cv hS (g_runV C hR hS (k := 14) (As := [.int ((18 : Int32) + (v1 / (10 : Int32)))]) (rest := []) (c_X1_speak l  hr2) (live_st (by decide)) rfl (vw1) m_X1_speak q697 ⟨rfl, rfl⟩ ⟨Nat.le_of_ble_eq_true rfl, Nat.le_of_ble_eq_true rfl⟩ rfl hl.1 rfl (Nat.le_of_ble_eq_true rfl) dX1_spellNumber_20 ⟨Nat.zero_le _, Nat.zero_le _⟩) (fun H locs hR hS => ?_)
    refine lv_iload_n hx hb dX1_spellNumber_23 rfl (lv_at hl 1 rfl) ?_
    refine lv_bipush (v := 10) hx hb dX1_spellNumber_24 (by decide) ?_
    refine lv_irem hx hb dX1_spellNumber_26 (by decide) ?_
    refine lv_if_eq (tgt := 38) hx hb dX1_spellNumber_27 (by decide) (fun c4 => ?_) (fun c4 => ?_)
    · have h := ite_t c4 h
      exact g_vret C hR hS h dX1_spellNumber_38
    · have h := ite_f c4 h
      refine lv_aload_n hx hb dX1_spellNumber_30 rfl (lv_at hl 0 rfl) ?_
      refine lv_iload_n hx hb dX1_spellNumber_31 rfl (lv_at hl 1 rfl) ?_
      refine lv_bipush (v := 10) hx hb dX1_spellNumber_32 (by decide) ?_
      refine lv_irem hx hb dX1_spellNumber_34 (by decide) ?_
      obtain ⟨r5, S6, hr5, h⟩ := bd_e h
      refine g_cv hS (g_runV C hR hS (k := 14) (As := [.int (v1 - v1 / (10 : Int32) * (10 : Int32))]) (rest := []) (c_X1_speak l  hr5) (live_st (by decide)) rfl (vw1) m_X1_speak q697 ⟨rfl, rfl⟩ ⟨Nat.le_of_ble_eq_true rfl, Nat.le_of_ble_eq_true rfl⟩ rfl hl.1 rfl (Nat.le_of_ble_eq_true rfl) dX1_spellNumber_35 ⟨Nat.zero_le _, Nat.zero_le _⟩) (fun H locs hR hS => ?_)
      exact g_vret C hR hS h dX1_spellNumber_38
  · have h := ite_f c1 h
    refine lv_aload_n hx hb dX1_spellNumber_6 rfl (lv_at hl 0 rfl) ?_
    refine lv_iload_n hx hb dX1_spellNumber_7 rfl (lv_at hl 1 rfl) ?_
    obtain ⟨r7, S8, hr7, h⟩ := bd_e h
    refine g_cv hS (g_runV C hR hS (k := 14) (As := [.int v1]) (rest := []) (c_X1_speak l  hr7) (live_st (by decide)) rfl (vw1) m_X1_speak q697 ⟨rfl, rfl⟩ ⟨Nat.le_of_ble_eq_true rfl, Nat.le_of_ble_eq_true rfl⟩ rfl hl.1 rfl (Nat.le_of_ble_eq_true rfl) dX1_spellNumber_8 ⟨Nat.zero_le _, Nat.zero_le _⟩) (fun H locs hR hS => ?_)
    exact g_vret C hR hS h dX1_spellNumber_11

/-! OneVoice$Lexicon.spell(II)Z -/
abbrev rm_X1_spell : Room := { frames := 2, cells := 0, slots := 0, locals := 42 }
theorem m_X1_spell : MV yX1_spell RX1 cX1_spell 5 (some .boolean) 2 := ⟨q690, q691, q71, q692, by decide +kernel⟩
def f_X1_spell_L7 (K57 : St → Option (Int32 × St)) (v1 : Int32) (v2 : Int32) : Nat → Int32 → St → Option (Int32 × St)
  | 0, _, _ => none
  | f + 1, v3, S =>
    gd_ (inb v1 8) <|
    if (rd S 18 (Int32.toNatClampNeg v1)) ≤ v3 then
      K57  S
    else
      gd_ (inb ((v1 * (8 : Int32)) + v3) 64) <|
      lt_ (rd S 17 (Int32.toNatClampNeg ((v1 * (8 : Int32)) + v3))) fun x13 =>
      lt_ (fun  (S14 : St) =>
          lt_ (v3 + (1 : Int32)) fun x15 =>
          f_X1_spell_L7 K57 v1 v2 f x15 S14) fun J51 =>
      if x13 = (100 : Int32) then
        bd_ (f_X1_spellNumber v2 S) fun r19 S20 =>
        J51  S20
      else
        bd_ (f_X1_speak x13 S) fun r17 S18 =>
        J51  S18

def f_X1_spell_L59 (K81 : St → Option (Int32 × St)) (K89 : St → Option (Int32 × St))  : Nat → Int32 → St → Option (Int32 × St)
  | 0, _, _ => none
  | f + 1, v3, S =>
    if (rd S 14 5) ≤ v3 then
      K89  S
    else
      gd_ (inb v3 16) <|
      gd_ (inb (rd S 19 (Int32.toNatClampNeg v3)) 32) <|
      if (rd S 16 (Int32.toNatClampNeg (rd S 19 (Int32.toNatClampNeg v3)))) = 0 then
        K81  S
      else
        lt_ (v3 + (1 : Int32)) fun x26 =>
        f_X1_spell_L59 K81 K89 f x26 S

def f_X1_spell (v1 : Int32) (v2 : Int32) (S : St) : Option (Int32 × St) :=
  lt_ (wr S 14 5 (0 : Int32)) fun S9 =>
  f_X1_spell_L7
    (fun  (S21 : St) =>
      f_X1_spell_L59
        (fun  (S27 : St) =>
          some ((0 : Int32), S27))
        (fun  (S28 : St) =>
          some ((1 : Int32), S28))
         FU (0 : Int32) S21)
    v1 v2 FU (0 : Int32) S9

set_option maxHeartbeats 4000000 in
set_option maxRecDepth 100000 in
theorem w_X1_spell_L7 {p : Program} {l : Launch} {e : Env} {s : State} {m : MethodId} {args : Array Value} {below : List Frame} {meth : Method} {c : Code} {E : En} {α : Nat → Nat} {g : Nat × Nat} (C : Cx p s m args meth c RX1 cX1_spell 5 (some .boolean) E) {z : Int32 × St} {K57 : St → Option (Int32 × St)} {v1 : Int32} {v2 : Int32}
    (hK57 : ∀ (S : St) (H : Heap) (locs : List Loc) (ls : Array Slot), Rp E α g S H → va_S E.2.2.1 s.heap H locs → lv_has ls 5 [(0, .ref (α 14))] → K57  S = some z → W p l e rm_X1_spell s m args below meth c H locs 0 0 (MQ below (Qi E α g z) args s 0 0 E.2.2.1) (F0 m 57 ls [])) :
    ∀ (f : Nat) (v3 : Int32) (S : St) (H : Heap) (locs : List Loc) (ls : Array Slot), Rp E α g S H → va_S E.2.2.1 s.heap H locs → lv_has ls 5 [(0, .ref (α 14)), (1, .int v1), (2, .int v2), (3, .int v3)] → f_X1_spell_L7 K57 v1 v2 f v3 S = some z → W p l e rm_X1_spell s m args below meth c H locs 0 0 (MQ below (Qi E α g z) args s 0 0 E.2.2.1) (F0 m 7 ls []) := by
  obtain ⟨hx, hb, hml, hown, hts, hlk, hrt, hKs⟩ := id C
  intro f
  induction f with
  | zero =>
    intro v3 S H locs ls  hR hS hl h
    rw [f_X1_spell_L7] at h
    cases h
  | succ f ih =>
    intro v3 S H locs ls  hR hS hl h
    rw [f_X1_spell_L7] at h
    refine lv_iload_n hx hb dX1_spell_7 rfl (lv_at hl 3 rfl) ?_
    refine lv_aload_n hx hb dX1_spell_8 rfl (lv_at hl 0 rfl) ?_
    refine g_getr (t := 18) C hR (k := 14) (j := 3) (live_st (by decide)) rfl rfl (vw1) inl1 (by decide) q194 dX1_spell_9 ?_
    refine lv_iload_n hx hb dX1_spell_12 rfl (lv_at hl 1 rfl) ?_
    obtain ⟨g10, h⟩ := gd_e h
    refine g_iald C hR (k := 18) (n := 8) (live_st (by decide)) rfl g10 dX1_spell_13 ?_
    refine lv_icmp_ge (tgt := 57) hx hb dX1_spell_14 (by decide) (fun c11 => ?_) (fun c11 => ?_)
    · have h := ite_t c11 h
      exact hK57  _ _ _ _  hR hS (lv_sub hl [0] rfl) h
    · have h := ite_f c11 h
      refine lv_aload_n hx hb dX1_spell_17 rfl (lv_at hl 0 rfl) ?_
      refine g_getr (t := 17) C hR (k := 14) (j := 2) (live_st (by decide)) rfl rfl (vw1) inl1 (by decide) q193 dX1_spell_18 ?_
      refine lv_iload_n hx hb dX1_spell_21 rfl (lv_at hl 1 rfl) ?_
      refine lv_bipush (v := 8) hx hb dX1_spell_22 (by decide) ?_
      refine lv_imul hx hb dX1_spell_24 ?_
      refine lv_iload_n hx hb dX1_spell_25 rfl (lv_at hl 3 rfl) ?_
      refine lv_iadd hx hb dX1_spell_26 ?_
      obtain ⟨g12, h⟩ := gd_e h
      refine g_iald C hR (k := 17) (n := 64) (live_st (by decide)) rfl g12 dX1_spell_27 ?_
      obtain ⟨x13, ex13, h⟩ := lt_e h
      refine g_nmi ex13 ?_
      refine lv_istore (lv' := [(4, .int x13), (0, .ref (α 14)), (1, .int v1), (2, .int v2), (3, .int v3)]) hx hb dX1_spell_28 hl (by decide) rfl (fun ls hl => ?_)
      refine lv_iload hx hb dX1_spell_30 (lv_at hl 0 rfl) ?_
      refine lv_bipush (v := 100) hx hb dX1_spell_32 (by decide) ?_
      obtain ⟨J51, eJ51, h⟩ := lt_e h
      have hJ51 : ∀ (S14 : St) (H : Heap) (locs : List Loc) (ls : Array Slot), Rp E α g S14 H → va_S E.2.2.1 s.heap H locs → lv_has ls 5 [(0, .ref (α 14)), (1, .int v1), (2, .int v2), (3, .int v3)] → J51  S14 = some z → W p l e rm_X1_spell s m args below meth c H locs 0 0 (MQ below (Qi E α g z) args s 0 0 E.2.2.1) (F0 m 51 ls []) := by
        intro  S14 H locs ls  hR hS hl h
        rw [eJ51] at h
        obtain ⟨x15, ex15, h⟩ := lt_e h
        refine lv_iinc (v := x15) (lv' := [(3, .int x15), (0, .ref (α 14)), (1, .int v1), (2, .int v2)]) hx hb dX1_spell_51 hl (k := 3) rfl (by rw [ex15]; rfl) (by decide) rfl (fun ls hl => ?_)
        refine lv_goto (tgt := 7) hx hb dX1_spell_54 (by decide) ?_
        exact ih _ _ _ _ _  hR hS (lv_sub hl [1, 2, 3, 0] rfl) h
      clear eJ51
      refine lv_icmp_ne (tgt := 45) hx hb dX1_spell_34 (by decide) (fun c16 => ?_) (fun c16 => ?_)
      · have h := ite_f c16 h
        refine lv_aload_n hx hb dX1_spell_45 rfl (lv_at hl 1 rfl) ?_
        refine lv_iload hx hb dX1_spell_46 (lv_at hl 0 rfl) ?_
        obtain ⟨r17, S18, hr17, h⟩ := bd_e h
        refine g_cv hS (g_runV C hR hS (k := 14) (As := [.int x13]) (rest := []) (c_X1_speak l  hr17) (live_st (by decide)) rfl (vw1) m_X1_speak q697 ⟨rfl, rfl⟩ ⟨Nat.le_of_ble_eq_true rfl, Nat.le_of_ble_eq_true rfl⟩ rfl hl.1 rfl (Nat.le_of_ble_eq_true rfl) dX1_spell_48 ⟨Nat.zero_le _, Nat.zero_le _⟩) (fun H locs hR hS => ?_)
        exact hJ51  _ _ _ _  hR hS (lv_sub hl [1, 2, 3, 4] rfl) h
      · have h := ite_t c16 h
        refine lv_aload_n hx hb dX1_spell_37 rfl (lv_at hl 1 rfl) ?_
        refine lv_iload_n hx hb dX1_spell_38 rfl (lv_at hl 3 rfl) ?_
        obtain ⟨r19, S20, hr19, h⟩ := bd_e h
        refine g_cv hS (g_runV C hR hS (k := 14) (As := [.int v2]) (rest := []) (c_X1_spellNumber l  hr19) (live_st (by decide)) rfl (vw1) m_X1_spellNumber q693 ⟨rfl, rfl⟩ ⟨Nat.le_of_ble_eq_true rfl, Nat.le_of_ble_eq_true rfl⟩ rfl hl.1 rfl (Nat.le_of_ble_eq_true rfl) dX1_spell_39 ⟨Nat.zero_le _, Nat.zero_le _⟩) (fun H locs hR hS => ?_)
        refine lv_goto (tgt := 51) hx hb dX1_spell_42 (by decide) ?_
        exact hJ51  _ _ _ _  hR hS (lv_sub hl [1, 2, 3, 4] rfl) h

set_option maxHeartbeats 4000000 in
set_option maxRecDepth 100000 in
theorem w_X1_spell_L59 {p : Program} {l : Launch} {e : Env} {s : State} {m : MethodId} {args : Array Value} {below : List Frame} {meth : Method} {c : Code} {E : En} {α : Nat → Nat} {g : Nat × Nat} (C : Cx p s m args meth c RX1 cX1_spell 5 (some .boolean) E) {z : Int32 × St} {K81 : St → Option (Int32 × St)} {K89 : St → Option (Int32 × St)}
    (hK81 : ∀ (S : St) (H : Heap) (locs : List Loc) (ls : Array Slot), Rp E α g S H → va_S E.2.2.1 s.heap H locs → lv_has ls 5 [] → K81  S = some z → W p l e rm_X1_spell s m args below meth c H locs 0 0 (MQ below (Qi E α g z) args s 0 0 E.2.2.1) (F0 m 81 ls []))
    (hK89 : ∀ (S : St) (H : Heap) (locs : List Loc) (ls : Array Slot), Rp E α g S H → va_S E.2.2.1 s.heap H locs → lv_has ls 5 [] → K89  S = some z → W p l e rm_X1_spell s m args below meth c H locs 0 0 (MQ below (Qi E α g z) args s 0 0 E.2.2.1) (F0 m 89 ls [])) :
    ∀ (f : Nat) (v3 : Int32) (S : St) (H : Heap) (locs : List Loc) (ls : Array Slot), Rp E α g S H → va_S E.2.2.1 s.heap H locs → lv_has ls 5 [(0, .ref (α 14)), (3, .int v3)] → f_X1_spell_L59 K81 K89 f v3 S = some z → W p l e rm_X1_spell s m args below meth c H locs 0 0 (MQ below (Qi E α g z) args s 0 0 E.2.2.1) (F0 m 59 ls []) := by
  obtain ⟨hx, hb, hml, hown, hts, hlk, hrt, hKs⟩ := id C
  intro f
  induction f with
  | zero =>
    intro v3 S H locs ls  hR hS hl h
    rw [f_X1_spell_L59] at h
    cases h
  | succ f ih =>
    intro v3 S H locs ls  hR hS hl h
    rw [f_X1_spell_L59] at h
    refine lv_iload_n hx hb dX1_spell_59 rfl (lv_at hl 1 rfl) ?_
    refine lv_aload_n hx hb dX1_spell_60 rfl (lv_at hl 0 rfl) ?_
    refine g_geti C hR (k := 14) (j := 5) (live_st (by decide)) rfl rfl (vw1) inl1 (by decide) q202 dX1_spell_61 ?_
    refine lv_icmp_ge (tgt := 89) hx hb dX1_spell_64 (by decide) (fun c22 => ?_) (fun c22 => ?_)
    · have h := ite_t c22 h
      exact hK89  _ _ _ _  hR hS (lv_sub hl [] rfl) h
    · have h := ite_f c22 h
      refine lv_aload_n hx hb dX1_spell_67 rfl (lv_at hl 0 rfl) ?_
      refine g_getr (t := 16) C hR (k := 14) (j := 1) (live_st (by decide)) rfl rfl (vw1) inl1 (by decide) q188 dX1_spell_68 ?_
      refine lv_aload_n hx hb dX1_spell_71 rfl (lv_at hl 0 rfl) ?_
      refine g_getr (t := 19) C hR (k := 14) (j := 4) (live_st (by decide)) rfl rfl (vw1) inl1 (by decide) q196 dX1_spell_72 ?_
      refine lv_iload_n hx hb dX1_spell_75 rfl (lv_at hl 1 rfl) ?_
      obtain ⟨g23, h⟩ := gd_e h
      refine g_iald C hR (k := 19) (n := 16) (live_st (by decide)) rfl g23 dX1_spell_76 ?_
      obtain ⟨g24, h⟩ := gd_e h
      refine g_iald C hR (k := 16) (n := 32) (live_st (by decide)) rfl g24 dX1_spell_77 ?_
      refine lv_if_ne (tgt := 83) hx hb dX1_spell_78 (by decide) (fun c25 => ?_) (fun c25 => ?_)
      · have h := ite_f c25 h
        obtain ⟨x26, ex26, h⟩ := lt_e h
        refine lv_iinc (v := x26) (lv' := [(3, .int x26), (0, .ref (α 14))]) hx hb dX1_spell_83 hl (k := 1) rfl (by rw [ex26]; rfl) (by decide) rfl (fun ls hl => ?_)
        refine lv_goto (tgt := 59) hx hb dX1_spell_86 (by decide) ?_
        exact ih _ _ _ _ _  hR hS (lv_sub hl [1, 0] rfl) h
      · have h := ite_t c25 h
        exact hK81  _ _ _ _  hR hS (lv_sub hl [] rfl) h

set_option maxHeartbeats 4000000 in
set_option maxRecDepth 100000 in
theorem c_X1_spell (l : Launch) {E : En} {α : Nat → Nat} {g : Nat × Nat} {v1 : Int32} {v2 : Int32} {S : St}  {z : Int32 × St} (h : f_X1_spell v1 v2 S = some z) : Met l yX1_spell (wsY yX1_spell cX1_spell 5 (some .boolean)) rm_X1_spell (va_Pc [.ref (α 14), .int v1, .int v2] (Wd E α g S)) (Qi E α g z) 0 0 E.2.2.1 := by
  refine g_met [.ref (α 14), .int v1, .int v2] (by decide) rfl (Nat.le_of_ble_eq_true rfl) ?_
  intro p e s m below meth c ls C hR hl
  generalize hae : ([.ref (α 14), .int v1, .int v2] : List Value).toArray = args at C ⊢
  have hl : lv_has ls 5 [(0, .ref (α 14)), (1, .int v1), (2, .int v2)] := hl
  obtain ⟨hx, hb, hml, hown, hts, hlk, hrt, hKs⟩ := id C
  have hS : va_S E.2.2.1 s.heap s.heap [] := va_S.rf
  unfold f_X1_spell at h
  refine lv_aload_n hx hb dX1_spell_0 rfl (lv_at hl 0 rfl) ?_
  refine lv_iconst (v := 0) hx hb dX1_spell_1 (by decide) ?_
  obtain ⟨S9, eS9, h⟩ := lt_e h
  refine g_puti C hR hS (k := 14) (j := 5) (live_st (by decide)) rfl rfl (vw1) inl1 (by decide) (ty0 := tyX1) tyX1_ok nmX1 q202 rfl rfl rfl eS9 dX1_spell_2 (fun H locs hR hS => ?_)
  refine lv_iconst (v := 0) hx hb dX1_spell_5 (by decide) ?_
  refine lv_istore_n (lv' := [(3, .int (0 : Int32)), (0, .ref (α 14)), (1, .int v1), (2, .int v2)]) hx hb dX1_spell_6 rfl hl (by decide) rfl (fun ls hl => ?_)
  refine w_X1_spell_L7 C ?_  _ _ _ _ _ _  hR hS (lv_sub hl [1, 2, 3, 0] rfl) h
  · intro  S21 H locs ls  hR hS hl h
    refine lv_iconst (v := 0) hx hb dX1_spell_57 (by decide) ?_
    refine lv_istore_n (lv' := [(3, .int (0 : Int32)), (0, .ref (α 14))]) hx hb dX1_spell_58 rfl hl (by decide) rfl (fun ls hl => ?_)
    refine w_X1_spell_L59 C ?_ ?_  _ _ _ _ _ _  hR hS (lv_sub hl [1, 0] rfl) h
    · intro  S27 H locs ls  hR hS hl h
      refine lv_iconst (v := 0) hx hb dX1_spell_81 (by decide) ?_
      exact g_zret C hR hS bz0 h dX1_spell_82
    · intro  S28 H locs ls  hR hS hl h
      refine lv_iconst (v := 1) hx hb dX1_spell_89 (by decide) ?_
      exact g_zret C hR hS bz1 h dX1_spell_90

/-! OneVoice$Lexicon.spokenLength()I -/
abbrev rm_X1_spokenLength : Room := { frames := 0, cells := 0, slots := 0, locals := 0 }
theorem m_X1_spokenLength : MV yX1_spokenLength RX1 cX1_spokenLength 3 (some .int) 0 := ⟨q702, q703, q71, q704, by decide +kernel⟩
def f_X1_spokenLength_L4 (K32 : Int32 → St → Option (Int32 × St))  : Nat → Int32 → Int32 → St → Option (Int32 × St)
  | 0, _, _, _ => none
  | f + 1, v1, v2, S =>
    if (rd S 14 5) ≤ v2 then
      K32 v1 S
    else
      gd_ (inb v2 16) <|
      gd_ (inb (rd S 19 (Int32.toNatClampNeg v2)) 32) <|
      lt_ (v1 + (rd S 16 (Int32.toNatClampNeg (rd S 19 (Int32.toNatClampNeg v2))))) fun x8 =>
      lt_ (v2 + (1 : Int32)) fun x9 =>
      f_X1_spokenLength_L4 K32 f x8 x9 S

def f_X1_spokenLength  (S : St) : Option (Int32 × St) :=
  f_X1_spokenLength_L4
    (fun (x10 : Int32) (S11 : St) =>
      some (x10, S11))
     FU (0 : Int32) (0 : Int32) S

set_option maxHeartbeats 4000000 in
set_option maxRecDepth 100000 in
theorem w_X1_spokenLength_L4 {p : Program} {l : Launch} {e : Env} {s : State} {m : MethodId} {args : Array Value} {below : List Frame} {meth : Method} {c : Code} {E : En} {α : Nat → Nat} {g : Nat × Nat} (C : Cx p s m args meth c RX1 cX1_spokenLength 3 (some .int) E) {z : Int32 × St} {K32 : Int32 → St → Option (Int32 × St)}
    (hK32 : ∀ (y1 : Int32) (S : St) (H : Heap) (locs : List Loc) (ls : Array Slot), Rp E α g S H → va_S E.2.2.1 s.heap H locs → lv_has ls 3 [(1, .int y1)] → K32 y1 S = some z → W p l e rm_X1_spokenLength s m args below meth c H locs 0 0 (MQ below (Qi E α g z) args s 0 0 E.2.2.1) (F0 m 32 ls [])) :
    ∀ (f : Nat) (v1 : Int32) (v2 : Int32) (S : St) (H : Heap) (locs : List Loc) (ls : Array Slot), Rp E α g S H → va_S E.2.2.1 s.heap H locs → lv_has ls 3 [(0, .ref (α 14)), (1, .int v1), (2, .int v2)] → f_X1_spokenLength_L4 K32 f v1 v2 S = some z → W p l e rm_X1_spokenLength s m args below meth c H locs 0 0 (MQ below (Qi E α g z) args s 0 0 E.2.2.1) (F0 m 4 ls []) := by
  obtain ⟨hx, hb, hml, hown, hts, hlk, hrt, hKs⟩ := id C
  intro f
  induction f with
  | zero =>
    intro v1 v2 S H locs ls  hR hS hl h
    rw [f_X1_spokenLength_L4] at h
    cases h
  | succ f ih =>
    intro v1 v2 S H locs ls  hR hS hl h
    rw [f_X1_spokenLength_L4] at h
    refine lv_iload_n hx hb dX1_spokenLength_4 rfl (lv_at hl 2 rfl) ?_
    refine lv_aload_n hx hb dX1_spokenLength_5 rfl (lv_at hl 0 rfl) ?_
    refine g_geti C hR (k := 14) (j := 5) (live_st (by decide)) rfl rfl (vw1) inl1 (by decide) q202 dX1_spokenLength_6 ?_
    refine lv_icmp_ge (tgt := 32) hx hb dX1_spokenLength_9 (by decide) (fun c5 => ?_) (fun c5 => ?_)
    · have h := ite_t c5 h
      exact hK32 _ _ _ _ _  hR hS (lv_sub hl [1] rfl) h
    · have h := ite_f c5 h
      refine lv_iload_n hx hb dX1_spokenLength_12 rfl (lv_at hl 1 rfl) ?_
      refine lv_aload_n hx hb dX1_spokenLength_13 rfl (lv_at hl 0 rfl) ?_
      refine g_getr (t := 16) C hR (k := 14) (j := 1) (live_st (by decide)) rfl rfl (vw1) inl1 (by decide) q188 dX1_spokenLength_14 ?_
      refine lv_aload_n hx hb dX1_spokenLength_17 rfl (lv_at hl 0 rfl) ?_
      refine g_getr (t := 19) C hR (k := 14) (j := 4) (live_st (by decide)) rfl rfl (vw1) inl1 (by decide) q196 dX1_spokenLength_18 ?_
      refine lv_iload_n hx hb dX1_spokenLength_21 rfl (lv_at hl 2 rfl) ?_
      obtain ⟨g6, h⟩ := gd_e h
      refine g_iald C hR (k := 19) (n := 16) (live_st (by decide)) rfl g6 dX1_spokenLength_22 ?_
      obtain ⟨g7, h⟩ := gd_e h
      refine g_iald C hR (k := 16) (n := 32) (live_st (by decide)) rfl g7 dX1_spokenLength_23 ?_
      refine lv_iadd hx hb dX1_spokenLength_24 ?_
      obtain ⟨x8, ex8, h⟩ := lt_e h
      refine g_nmi ex8 ?_
      refine lv_istore_n (lv' := [(1, .int x8), (0, .ref (α 14)), (2, .int v2)]) hx hb dX1_spokenLength_25 rfl hl (by decide) rfl (fun ls hl => ?_)
      obtain ⟨x9, ex9, h⟩ := lt_e h
      refine lv_iinc (v := x9) (lv' := [(2, .int x9), (1, .int x8), (0, .ref (α 14))]) hx hb dX1_spokenLength_26 hl (k := 2) rfl (by rw [ex9]; rfl) (by decide) rfl (fun ls hl => ?_)
      refine lv_goto (tgt := 4) hx hb dX1_spokenLength_29 (by decide) ?_
      exact ih _ _ _ _ _ _  hR hS (lv_sub hl [2, 1, 0] rfl) h

set_option maxHeartbeats 4000000 in
set_option maxRecDepth 100000 in
theorem c_X1_spokenLength (l : Launch) {E : En} {α : Nat → Nat} {g : Nat × Nat}  {S : St}  {z : Int32 × St} (h : f_X1_spokenLength  S = some z) : Met l yX1_spokenLength (wsY yX1_spokenLength cX1_spokenLength 3 (some .int)) rm_X1_spokenLength (va_Pc [.ref (α 14)] (Wd E α g S)) (Qi E α g z) 0 0 E.2.2.1 := by
  refine g_met [.ref (α 14)] (by decide) rfl (Nat.le_of_ble_eq_true rfl) ?_
  intro p e s m below meth c ls C hR hl
  generalize hae : ([.ref (α 14)] : List Value).toArray = args at C ⊢
  have hl : lv_has ls 3 [(0, .ref (α 14))] := hl
  obtain ⟨hx, hb, hml, hown, hts, hlk, hrt, hKs⟩ := id C
  have hS : va_S E.2.2.1 s.heap s.heap [] := va_S.rf
  unfold f_X1_spokenLength at h
  refine lv_iconst (v := 0) hx hb dX1_spokenLength_0 (by decide) ?_
  refine lv_istore_n (lv' := [(1, .int (0 : Int32)), (0, .ref (α 14))]) hx hb dX1_spokenLength_1 rfl hl (by decide) rfl (fun ls hl => ?_)
  refine lv_iconst (v := 0) hx hb dX1_spokenLength_2 (by decide) ?_
  refine lv_istore_n (lv' := [(2, .int (0 : Int32)), (1, .int (0 : Int32)), (0, .ref (α 14))]) hx hb dX1_spokenLength_3 rfl hl (by decide) rfl (fun ls hl => ?_)
  refine w_X1_spokenLength_L4 C ?_  _ _ _ _ _ _ _  hR hS (lv_sub hl [2, 1, 0] rfl) h
  · intro x10 S11 H locs ls  hR hS hl h
    refine lv_iload_n hx hb dX1_spokenLength_32 rfl (lv_at hl 0 rfl) ?_
    exact g_iret C hR hS h dX1_spokenLength_33

/-! OneVoice$Lexicon.spokenSound(I)I -/
abbrev rm_X1_spokenSound : Room := { frames := 1, cells := 0, slots := 0, locals := 22 }
theorem m_X1_spokenSound : MV yX1_spokenSound RX1 cX1_spokenSound 4 (some .int) 1 := ⟨q706, q707, q71, q708, by decide +kernel⟩
def f_X1_spokenSound_L4 (K27 : Int32 → Int32 → St → Option (Int32 × St)) (K59 : St → Option (Int32 × St))  : Nat → Int32 → Int32 → St → Option (Int32 × St)
  | 0, _, _, _ => none
  | f + 1, v2, v3, S =>
    if (rd S 14 5) ≤ v3 then
      K59  S
    else
      gd_ (inb v3 16) <|
      gd_ (inb (rd S 19 (Int32.toNatClampNeg v3)) 32) <|
      if (rd S 16 (Int32.toNatClampNeg (rd S 19 (Int32.toNatClampNeg v3)))) ≤ v2 then
        gd_ (inb v3 16) <|
        gd_ (inb (rd S 19 (Int32.toNatClampNeg v3)) 32) <|
        lt_ (v2 - (rd S 16 (Int32.toNatClampNeg (rd S 19 (Int32.toNatClampNeg v3))))) fun x14 =>
        lt_ (v3 + (1 : Int32)) fun x15 =>
        f_X1_spokenSound_L4 K27 K59 f x14 x15 S
      else
        K27 v2 v3 S

def f_X1_spokenSound (v1 : Int32) (S : St) : Option (Int32 × St) :=
  f_X1_spokenSound_L4
    (fun (x16 : Int32) (x17 : Int32) (S18 : St) =>
      gd_ (inb x17 16) <|
      bd_ (f_X1_soundOf (rd S18 19 (Int32.toNatClampNeg x17)) x16 S18) fun r20 S21 =>
      some (r20, S21))
    (fun  (S22 : St) =>
      some ((-1 : Int32), S22))
     FU v1 (0 : Int32) S

set_option maxHeartbeats 4000000 in
set_option maxRecDepth 100000 in
theorem w_X1_spokenSound_L4 {p : Program} {l : Launch} {e : Env} {s : State} {m : MethodId} {args : Array Value} {below : List Frame} {meth : Method} {c : Code} {E : En} {α : Nat → Nat} {g : Nat × Nat} (C : Cx p s m args meth c RX1 cX1_spokenSound 4 (some .int) E) {z : Int32 × St} {K27 : Int32 → Int32 → St → Option (Int32 × St)} {K59 : St → Option (Int32 × St)}
    (hK27 : ∀ (y2 : Int32) (y3 : Int32) (S : St) (H : Heap) (locs : List Loc) (ls : Array Slot), Rp E α g S H → va_S E.2.2.1 s.heap H locs → lv_has ls 4 [(0, .ref (α 14)), (2, .int y2), (3, .int y3)] → K27 y2 y3 S = some z → W p l e rm_X1_spokenSound s m args below meth c H locs 0 0 (MQ below (Qi E α g z) args s 0 0 E.2.2.1) (F0 m 27 ls []))
    (hK59 : ∀ (S : St) (H : Heap) (locs : List Loc) (ls : Array Slot), Rp E α g S H → va_S E.2.2.1 s.heap H locs → lv_has ls 4 [] → K59  S = some z → W p l e rm_X1_spokenSound s m args below meth c H locs 0 0 (MQ below (Qi E α g z) args s 0 0 E.2.2.1) (F0 m 59 ls [])) :
    ∀ (f : Nat) (v2 : Int32) (v3 : Int32) (S : St) (H : Heap) (locs : List Loc) (ls : Array Slot), Rp E α g S H → va_S E.2.2.1 s.heap H locs → lv_has ls 4 [(0, .ref (α 14)), (2, .int v2), (3, .int v3)] → f_X1_spokenSound_L4 K27 K59 f v2 v3 S = some z → W p l e rm_X1_spokenSound s m args below meth c H locs 0 0 (MQ below (Qi E α g z) args s 0 0 E.2.2.1) (F0 m 4 ls []) := by
  obtain ⟨hx, hb, hml, hown, hts, hlk, hrt, hKs⟩ := id C
  intro f
  induction f with
  | zero =>
    intro v2 v3 S H locs ls  hR hS hl h
    rw [f_X1_spokenSound_L4] at h
    cases h
  | succ f ih =>
    intro v2 v3 S H locs ls  hR hS hl h
    rw [f_X1_spokenSound_L4] at h
    refine lv_iload_n hx hb dX1_spokenSound_4 rfl (lv_at hl 2 rfl) ?_
    refine lv_aload_n hx hb dX1_spokenSound_5 rfl (lv_at hl 0 rfl) ?_
    refine g_geti C hR (k := 14) (j := 5) (live_st (by decide)) rfl rfl (vw1) inl1 (by decide) q202 dX1_spokenSound_6 ?_
    refine lv_icmp_ge (tgt := 59) hx hb dX1_spokenSound_9 (by decide) (fun c8 => ?_) (fun c8 => ?_)
    · have h := ite_t c8 h
      exact hK59  _ _ _ _  hR hS (lv_sub hl [] rfl) h
    · have h := ite_f c8 h
      refine lv_iload_n hx hb dX1_spokenSound_12 rfl (lv_at hl 1 rfl) ?_
      refine lv_aload_n hx hb dX1_spokenSound_13 rfl (lv_at hl 0 rfl) ?_
      refine g_getr (t := 16) C hR (k := 14) (j := 1) (live_st (by decide)) rfl rfl (vw1) inl1 (by decide) q188 dX1_spokenSound_14 ?_
      refine lv_aload_n hx hb dX1_spokenSound_17 rfl (lv_at hl 0 rfl) ?_
      refine g_getr (t := 19) C hR (k := 14) (j := 4) (live_st (by decide)) rfl rfl (vw1) inl1 (by decide) q196 dX1_spokenSound_18 ?_
      refine lv_iload_n hx hb dX1_spokenSound_21 rfl (lv_at hl 2 rfl) ?_
      obtain ⟨g9, h⟩ := gd_e h
      refine g_iald C hR (k := 19) (n := 16) (live_st (by decide)) rfl g9 dX1_spokenSound_22 ?_
      obtain ⟨g10, h⟩ := gd_e h
      refine g_iald C hR (k := 16) (n := 32) (live_st (by decide)) rfl g10 dX1_spokenSound_23 ?_
      refine lv_icmp_ge (tgt := 39) hx hb dX1_spokenSound_24 (by decide) (fun c11 => ?_) (fun c11 => ?_)
      · have h := ite_t c11 h
        refine lv_iload_n hx hb dX1_spokenSound_39 rfl (lv_at hl 1 rfl) ?_
        refine lv_aload_n hx hb dX1_spokenSound_40 rfl (lv_at hl 0 rfl) ?_
        refine g_getr (t := 16) C hR (k := 14) (j := 1) (live_st (by decide)) rfl rfl (vw1) inl1 (by decide) q188 dX1_spokenSound_41 ?_
        refine lv_aload_n hx hb dX1_spokenSound_44 rfl (lv_at hl 0 rfl) ?_
        refine g_getr (t := 19) C hR (k := 14) (j := 4) (live_st (by decide)) rfl rfl (vw1) inl1 (by decide) q196 dX1_spokenSound_45 ?_
        refine lv_iload_n hx hb dX1_spokenSound_48 rfl (lv_at hl 2 rfl) ?_
        obtain ⟨g12, h⟩ := gd_e h
        refine g_iald C hR (k := 19) (n := 16) (live_st (by decide)) rfl g12 dX1_spokenSound_49 ?_
        obtain ⟨g13, h⟩ := gd_e h
        refine g_iald C hR (k := 16) (n := 32) (live_st (by decide)) rfl g13 dX1_spokenSound_50 ?_
        refine lv_isub hx hb dX1_spokenSound_51 ?_
        obtain ⟨x14, ex14, h⟩ := lt_e h
        refine g_nmi ex14 ?_
        refine lv_istore_n (lv' := [(2, .int x14), (0, .ref (α 14)), (3, .int v3)]) hx hb dX1_spokenSound_52 rfl hl (by decide) rfl (fun ls hl => ?_)
        obtain ⟨x15, ex15, h⟩ := lt_e h
        refine lv_iinc (v := x15) (lv' := [(3, .int x15), (2, .int x14), (0, .ref (α 14))]) hx hb dX1_spokenSound_53 hl (k := 2) rfl (by rw [ex15]; rfl) (by decide) rfl (fun ls hl => ?_)
        refine lv_goto (tgt := 4) hx hb dX1_spokenSound_56 (by decide) ?_
        exact ih _ _ _ _ _ _  hR hS (lv_sub hl [2, 1, 0] rfl) h
      · have h := ite_f c11 h
        exact hK27 _ _ _ _ _ _  hR hS hl h

set_option maxHeartbeats 4000000 in
set_option maxRecDepth 100000 in
theorem c_X1_spokenSound (l : Launch) {E : En} {α : Nat → Nat} {g : Nat × Nat} {v1 : Int32} {S : St}  {z : Int32 × St} (h : f_X1_spokenSound v1 S = some z) : Met l yX1_spokenSound (wsY yX1_spokenSound cX1_spokenSound 4 (some .int)) rm_X1_spokenSound (va_Pc [.ref (α 14), .int v1] (Wd E α g S)) (Qi E α g z) 0 0 E.2.2.1 := by
  refine g_met [.ref (α 14), .int v1] (by decide) rfl (Nat.le_of_ble_eq_true rfl) ?_
  intro p e s m below meth c ls C hR hl
  generalize hae : ([.ref (α 14), .int v1] : List Value).toArray = args at C ⊢
  have hl : lv_has ls 4 [(0, .ref (α 14)), (1, .int v1)] := hl
  obtain ⟨hx, hb, hml, hown, hts, hlk, hrt, hKs⟩ := id C
  have hS : va_S E.2.2.1 s.heap s.heap [] := va_S.rf
  unfold f_X1_spokenSound at h
  refine lv_iload_n hx hb dX1_spokenSound_0 rfl (lv_at hl 1 rfl) ?_
  refine lv_istore_n (lv' := [(2, .int v1), (0, .ref (α 14)), (1, .int v1)]) hx hb dX1_spokenSound_1 rfl hl (by decide) rfl (fun ls hl => ?_)
  refine lv_iconst (v := 0) hx hb dX1_spokenSound_2 (by decide) ?_
  refine lv_istore_n (lv' := [(3, .int (0 : Int32)), (2, .int v1), (0, .ref (α 14)), (1, .int v1)]) hx hb dX1_spokenSound_3 rfl hl (by decide) rfl (fun ls hl => ?_)
  refine w_X1_spokenSound_L4 C ?_ ?_  _ _ _ _ _ _ _  hR hS (lv_sub hl [2, 1, 0] rfl) h
  · intro x16 x17 S18 H locs ls  hR hS hl h
    refine lv_aload_n hx hb dX1_spokenSound_27 rfl (lv_at hl 0 rfl) ?_
    refine lv_aload_n hx hb dX1_spokenSound_28 rfl (lv_at hl 0 rfl) ?_
    refine g_getr (t := 19) C hR (k := 14) (j := 4) (live_st (by decide)) rfl rfl (vw1) inl1 (by decide) q196 dX1_spokenSound_29 ?_
    refine lv_iload_n hx hb dX1_spokenSound_32 rfl (lv_at hl 2 rfl) ?_
    obtain ⟨g19, h⟩ := gd_e h
    refine g_iald C hR (k := 19) (n := 16) (live_st (by decide)) rfl g19 dX1_spokenSound_33 ?_
    refine lv_iload_n hx hb dX1_spokenSound_34 rfl (lv_at hl 1 rfl) ?_
    obtain ⟨r20, S21, hr20, h⟩ := bd_e h
    refine g_ci hS (g_runV C hR hS (k := 14) (As := [.int (rd S18 19 (Int32.toNatClampNeg x17)), .int x16]) (rest := []) (c_X1_soundOf l  hr20) (live_st (by decide)) rfl (vw1) m_X1_soundOf q709 ⟨rfl, rfl⟩ ⟨Nat.le_of_ble_eq_true rfl, Nat.le_of_ble_eq_true rfl⟩ rfl hl.1 rfl (Nat.le_of_ble_eq_true rfl) dX1_spokenSound_35 ⟨Nat.zero_le _, Nat.zero_le _⟩) (fun H locs hR hS => ?_)
    exact g_iret C hR hS h dX1_spokenSound_38
  · intro  S22 H locs ls  hR hS hl h
    refine lv_iconst (v := -1) hx hb dX1_spokenSound_59 (by decide) ?_
    exact g_iret C hR hS h dX1_spokenSound_60

/-! OneVoice$Loudness.needed(II)I -/
abbrev rm_X2_needed : Room := { frames := 1, cells := 0, slots := 0, locals := 20 }
theorem m_X2_needed : MV yX2_needed RX2 cX2_needed 3 (some .int) 2 := ⟨q907, q31, q76, q908, by decide +kernel⟩
def f_X2_needed (v1 : Int32) (v2 : Int32) (S : St) : Option (Int32 × St) :=
  gd_ (inb v2 16) <|
  some ((((11 : Int32) + ((3 : Int32) * (mabs (v1 - v2)))) + (rd S 53 (Int32.toNatClampNeg v2))), S)

set_option maxHeartbeats 4000000 in
set_option maxRecDepth 100000 in
theorem c_X2_needed (l : Launch) {E : En} {α : Nat → Nat} {g : Nat × Nat} {v1 : Int32} {v2 : Int32} {S : St}  {z : Int32 × St} (h : f_X2_needed v1 v2 S = some z) : Met l yX2_needed (wsY yX2_needed cX2_needed 3 (some .int)) rm_X2_needed (va_Pc [.ref (α 52), .int v1, .int v2] (Wd E α g S)) (Qi E α g z) 0 0 E.2.2.1 := by
  refine g_met [.ref (α 52), .int v1, .int v2] (by decide) rfl (Nat.le_of_ble_eq_true rfl) ?_
  intro p e s m below meth c ls C hR hl
  generalize hae : ([.ref (α 52), .int v1, .int v2] : List Value).toArray = args at C ⊢
  have hl : lv_has ls 3 [(0, .ref (α 52)), (1, .int v1), (2, .int v2)] := hl
  obtain ⟨hx, hb, hml, hown, hts, hlk, hrt, hKs⟩ := id C
  have hS : va_S E.2.2.1 s.heap s.heap [] := va_S.rf
  unfold f_X2_needed at h
  refine lv_bipush (v := 11) hx hb dX2_needed_0 (by decide) ?_
  refine lv_iconst (v := 3) hx hb dX2_needed_2 (by decide) ?_
  refine lv_iload_n hx hb dX2_needed_3 rfl (lv_at hl 1 rfl) ?_
  refine lv_iload_n hx hb dX2_needed_4 rfl (lv_at hl 2 rfl) ?_
  refine lv_isub hx hb dX2_needed_5 ?_
  refine g_mabs C (hml.trans hl.1.symm) q909 (Nat.le_of_ble_eq_true rfl) (Nat.le_of_ble_eq_true rfl) (Nat.zero_le _) (Nat.zero_le _) dX2_needed_6 ?_
  refine lv_imul hx hb dX2_needed_9 ?_
  refine lv_iadd hx hb dX2_needed_10 ?_
  refine lv_aload_n hx hb dX2_needed_11 rfl (lv_at hl 0 rfl) ?_
  refine g_getr (t := 53) C hR (k := 52) (j := 0) (live_st (by decide)) rfl rfl (vw2) inl2 (by decide) q343 dX2_needed_12 ?_
  refine lv_iload_n hx hb dX2_needed_15 rfl (lv_at hl 2 rfl) ?_
  obtain ⟨g2, h⟩ := gd_e h
  refine g_iald C hR (k := 53) (n := 16) (live_st (by decide)) rfl g2 dX2_needed_16 ?_
  refine lv_iadd hx hb dX2_needed_17 ?_
  exact g_iret C hR hS h dX2_needed_18

/-! OneVoice$Loudness.reached(II)I -/
abbrev rm_X2_reached : Room := { frames := 2, cells := 0, slots := 0, locals := 42 }
theorem m_X2_reached : MV yX2_reached RX2 cX2_reached 5 (some .int) 2 := ⟨q902, q903, q76, q904, by decide +kernel⟩
def f_X2_reached_L5 (K36 : Int32 → St → Option (Int32 × St)) (v1 : Int32) (v2 : Int32) : Nat → Int32 → Int32 → St → Option (Int32 × St)
  | 0, _, _, _ => none
  | f + 1, v3, v4, S =>
    if (16 : Int32) ≤ v4 then
      K36 v3 S
    else
      bd_ (f_X2_needed v1 v4 S) fun r4 S5 =>
      lt_ (fun (x6 : Int32) (S7 : St) =>
          lt_ (v4 + (1 : Int32)) fun x8 =>
          f_X2_reached_L5 K36 v1 v2 f x6 x8 S7) fun J30 =>
      if v2 < r4 then
        J30 v3 S5
      else
        lt_ (v3 ||| ((1 : Int32) <<< (v4 &&& 31))) fun x10 =>
        J30 x10 S5

def f_X2_reached (v1 : Int32) (v2 : Int32) (S : St) : Option (Int32 × St) :=
  f_X2_reached_L5
    (fun (x11 : Int32) (S12 : St) =>
      some (x11, S12))
    v1 v2 FU (0 : Int32) (0 : Int32) S

set_option maxHeartbeats 4000000 in
set_option maxRecDepth 100000 in
theorem w_X2_reached_L5 {p : Program} {l : Launch} {e : Env} {s : State} {m : MethodId} {args : Array Value} {below : List Frame} {meth : Method} {c : Code} {E : En} {α : Nat → Nat} {g : Nat × Nat} (C : Cx p s m args meth c RX2 cX2_reached 5 (some .int) E) {z : Int32 × St} {K36 : Int32 → St → Option (Int32 × St)} {v1 : Int32} {v2 : Int32}
    (hK36 : ∀ (y3 : Int32) (S : St) (H : Heap) (locs : List Loc) (ls : Array Slot), Rp E α g S H → va_S E.2.2.1 s.heap H locs → lv_has ls 5 [(3, .int y3)] → K36 y3 S = some z → W p l e rm_X2_reached s m args below meth c H locs 0 0 (MQ below (Qi E α g z) args s 0 0 E.2.2.1) (F0 m 36 ls [])) :
    ∀ (f : Nat) (v3 : Int32) (v4 : Int32) (S : St) (H : Heap) (locs : List Loc) (ls : Array Slot), Rp E α g S H → va_S E.2.2.1 s.heap H locs → lv_has ls 5 [(0, .ref (α 52)), (1, .int v1), (2, .int v2), (3, .int v3), (4, .int v4)] → f_X2_reached_L5 K36 v1 v2 f v3 v4 S = some z → W p l e rm_X2_reached s m args below meth c H locs 0 0 (MQ below (Qi E α g z) args s 0 0 E.2.2.1) (F0 m 5 ls []) := by
  obtain ⟨hx, hb, hml, hown, hts, hlk, hrt, hKs⟩ := id C
  intro f
  induction f with
  | zero =>
    intro v3 v4 S H locs ls  hR hS hl h
    rw [f_X2_reached_L5] at h
    cases h
  | succ f ih =>
    intro v3 v4 S H locs ls  hR hS hl h
    rw [f_X2_reached_L5] at h
    refine lv_iload hx hb dX2_reached_5 (lv_at hl 4 rfl) ?_
    refine lv_bipush (v := 16) hx hb dX2_reached_7 (by decide) ?_
    refine lv_icmp_ge (tgt := 36) hx hb dX2_reached_9 (by decide) (fun c3 => ?_) (fun c3 => ?_)
    · have h := ite_t c3 h
      exact hK36 _ _ _ _ _  hR hS (lv_sub hl [3] rfl) h
    · have h := ite_f c3 h
      refine lv_iload_n hx hb dX2_reached_12 rfl (lv_at hl 2 rfl) ?_
      refine lv_aload_n hx hb dX2_reached_13 rfl (lv_at hl 0 rfl) ?_
      refine lv_iload_n hx hb dX2_reached_14 rfl (lv_at hl 1 rfl) ?_
      refine lv_iload hx hb dX2_reached_15 (lv_at hl 4 rfl) ?_
      obtain ⟨r4, S5, hr4, h⟩ := bd_e h
      refine g_ci hS (g_runV C hR hS (k := 52) (As := [.int v1, .int v4]) (rest := [.int v2]) (c_X2_needed l  hr4) (live_st (by decide)) rfl (vw2) m_X2_needed q905 ⟨rfl, rfl⟩ ⟨Nat.le_of_ble_eq_true rfl, Nat.le_of_ble_eq_true rfl⟩ rfl hl.1 rfl (Nat.le_of_ble_eq_true rfl) dX2_reached_17 ⟨Nat.zero_le _, Nat.zero_le _⟩) (fun H locs hR hS => ?_)
      obtain ⟨J30, eJ30, h⟩ := lt_e h
      have hJ30 : ∀ (x6 : Int32) (S7 : St) (H : Heap) (locs : List Loc) (ls : Array Slot), Rp E α g S7 H → va_S E.2.2.1 s.heap H locs → lv_has ls 5 [(0, .ref (α 52)), (1, .int v1), (2, .int v2), (3, .int x6), (4, .int v4)] → J30 x6 S7 = some z → W p l e rm_X2_reached s m args below meth c H locs 0 0 (MQ below (Qi E α g z) args s 0 0 E.2.2.1) (F0 m 30 ls []) := by
        intro x6 S7 H locs ls  hR hS hl h
        rw [eJ30] at h
        obtain ⟨x8, ex8, h⟩ := lt_e h
        refine lv_iinc (v := x8) (lv' := [(4, .int x8), (0, .ref (α 52)), (1, .int v1), (2, .int v2), (3, .int x6)]) hx hb dX2_reached_30 hl (k := 4) rfl (by rw [ex8]; rfl) (by decide) rfl (fun ls hl => ?_)
        refine lv_goto (tgt := 5) hx hb dX2_reached_33 (by decide) ?_
        exact ih _ _ _ _ _ _  hR hS (lv_sub hl [1, 2, 3, 4, 0] rfl) h
      clear eJ30
      refine lv_icmp_lt (tgt := 30) hx hb dX2_reached_20 (by decide) (fun c9 => ?_) (fun c9 => ?_)
      · have h := ite_t c9 h
        exact hJ30 _ _ _ _ _  hR hS hl h
      · have h := ite_f c9 h
        refine lv_iload_n hx hb dX2_reached_23 rfl (lv_at hl 3 rfl) ?_
        refine lv_iconst (v := 1) hx hb dX2_reached_24 (by decide) ?_
        refine lv_iload hx hb dX2_reached_25 (lv_at hl 4 rfl) ?_
        refine lv_ishl hx hb dX2_reached_27 ?_
        refine lv_ior hx hb dX2_reached_28 ?_
        obtain ⟨x10, ex10, h⟩ := lt_e h
        refine g_nmi ex10 ?_
        refine lv_istore_n (lv' := [(3, .int x10), (0, .ref (α 52)), (1, .int v1), (2, .int v2), (4, .int v4)]) hx hb dX2_reached_29 rfl hl (by decide) rfl (fun ls hl => ?_)
        exact hJ30 _ _ _ _ _  hR hS (lv_sub hl [1, 2, 3, 0, 4] rfl) h

set_option maxHeartbeats 4000000 in
set_option maxRecDepth 100000 in
theorem c_X2_reached (l : Launch) {E : En} {α : Nat → Nat} {g : Nat × Nat} {v1 : Int32} {v2 : Int32} {S : St}  {z : Int32 × St} (h : f_X2_reached v1 v2 S = some z) : Met l yX2_reached (wsY yX2_reached cX2_reached 5 (some .int)) rm_X2_reached (va_Pc [.ref (α 52), .int v1, .int v2] (Wd E α g S)) (Qi E α g z) 0 0 E.2.2.1 := by
  refine g_met [.ref (α 52), .int v1, .int v2] (by decide) rfl (Nat.le_of_ble_eq_true rfl) ?_
  intro p e s m below meth c ls C hR hl
  generalize hae : ([.ref (α 52), .int v1, .int v2] : List Value).toArray = args at C ⊢
  have hl : lv_has ls 5 [(0, .ref (α 52)), (1, .int v1), (2, .int v2)] := hl
  obtain ⟨hx, hb, hml, hown, hts, hlk, hrt, hKs⟩ := id C
  have hS : va_S E.2.2.1 s.heap s.heap [] := va_S.rf
  unfold f_X2_reached at h
  refine lv_iconst (v := 0) hx hb dX2_reached_0 (by decide) ?_
  refine lv_istore_n (lv' := [(3, .int (0 : Int32)), (0, .ref (α 52)), (1, .int v1), (2, .int v2)]) hx hb dX2_reached_1 rfl hl (by decide) rfl (fun ls hl => ?_)
  refine lv_iconst (v := 0) hx hb dX2_reached_2 (by decide) ?_
  refine lv_istore (lv' := [(4, .int (0 : Int32)), (3, .int (0 : Int32)), (0, .ref (α 52)), (1, .int v1), (2, .int v2)]) hx hb dX2_reached_3 hl (by decide) rfl (fun ls hl => ?_)
  refine w_X2_reached_L5 C ?_  _ _ _ _ _ _ _  hR hS (lv_sub hl [2, 3, 4, 1, 0] rfl) h
  · intro x11 S12 H locs ls  hR hS hl h
    refine lv_iload_n hx hb dX2_reached_36 rfl (lv_at hl 0 rfl) ?_
    exact g_iret C hR hS h dX2_reached_37
