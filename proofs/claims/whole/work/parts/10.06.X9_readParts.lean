/-! OneVoice$Text.readParts(LOneVoice$Row;)Z -/
abbrev rm_X9_readParts : Room := { frames := 2, cells := 0, slots := 0, locals := 40 }
theorem m_X9_readParts : MV yX9_readParts RX9 cX9_readParts 3 (some .boolean) 1 := ⟨q634, q14, q72, q635, by decide +kernel⟩
def f_X9_readParts_L0 (K43 : St → Option (Int32 × St)) (K85 : St → Option (Int32 × St)) (K90 : St → Option (Int32 × St)) (n1 : Nat) : Nat → St → Option (Int32 × St)
  | 0, _ => none
  | f + 1, S =>
    if (8 : Int32) ≤ (rd S (23 + n1) 3) then
      K90  S
    else
      bd_ (f_X9_isSign (35 : Int32) S) fun r4 S5 =>
      lt_ (fun (t6 : Int32) (S7 : St) =>
          lt_ (fun  (S8 : St) =>
              gd_ (inb (rd S8 (23 + n1) 3) 8) <|
              lt_ (wr S8 (33 + n1) (Int32.toNatClampNeg (rd S8 (23 + n1) 3)) t6) fun S9 =>
              lt_ (wr S9 (23 + n1) 3 ((rd S9 (23 + n1) 3) + (1 : Int32))) fun S11 =>
              bd_ (f_X9_step  S11) fun r12 S13 =>
              if (rd S13 20 4) = 0 then
                K85  S13
              else
                bd_ (f_X9_isSign (59 : Int32) S13) fun r15 S16 =>
                if r15 = 0 then
                  f_X9_readParts_L0 K43 K85 K90 n1 f  S16
                else
                  K85  S16) fun J45 =>
          if t6 = (100 : Int32) then
            J45  S7
          else
            bd_ (f_X10_below t6 (32 : Int32) S7) fun r19 S20 =>
            if r19 = 0 then
              K43  S20
            else
              J45  S20) fun J27 =>
      if r4 = 0 then
        bd_ (f_X9_number  S5) fun r23 S24 =>
        J27 r23 S24
      else
        J27 (100 : Int32) S5

def f_X9_readParts (n1 : Nat) (S : St) : Option (Int32 × St) :=
  f_X9_readParts_L0
    (fun  (S25 : St) =>
      some ((0 : Int32), S25))
    (fun  (S26 : St) =>
      some ((1 : Int32), S26))
    (fun  (S27 : St) =>
      some ((1 : Int32), S27))
    n1 FU  S

set_option maxHeartbeats 4000000 in
set_option maxRecDepth 100000 in
theorem w_X9_readParts_L0 {p : Program} {l : Launch} {e : Env} {s : State} {m : MethodId} {args : Array Value} {below : List Frame} {meth : Method} {c : Code} {E : En} {α : Nat → Nat} {g : Nat × Nat} (C : Cx p s m args meth c RX9 cX9_readParts 3 (some .boolean) E) {z : Int32 × St} {K43 : St → Option (Int32 × St)} {K85 : St → Option (Int32 × St)} {K90 : St → Option (Int32 × St)} {n1 : Nat}
    (hK43 : ∀ (S : St) (H : Heap) (locs : List Loc) (ls : Array Slot), Rp E α g S H → va_S E.2.2.1 s.heap H locs → lv_has ls 3 [] → K43  S = some z → W p l e rm_X9_readParts s m args below meth c H locs 0 0 (MQ below (Qi E α g z) args s 0 0 E.2.2.1) (F0 m 43 ls []))
    (hK85 : ∀ (S : St) (H : Heap) (locs : List Loc) (ls : Array Slot), Rp E α g S H → va_S E.2.2.1 s.heap H locs → lv_has ls 3 [] → K85  S = some z → W p l e rm_X9_readParts s m args below meth c H locs 0 0 (MQ below (Qi E α g z) args s 0 0 E.2.2.1) (F0 m 85 ls []))
    (hK90 : ∀ (S : St) (H : Heap) (locs : List Loc) (ls : Array Slot), Rp E α g S H → va_S E.2.2.1 s.heap H locs → lv_has ls 3 [] → K90  S = some z → W p l e rm_X9_readParts s m args below meth c H locs 0 0 (MQ below (Qi E α g z) args s 0 0 E.2.2.1) (F0 m 90 ls [])) (hn1 : n1 < 10) :
    ∀ (f : Nat) (S : St) (H : Heap) (locs : List Loc) (ls : Array Slot), Rp E α g S H → va_S E.2.2.1 s.heap H locs → lv_has ls 3 [(0, .ref (α 20)), (1, .ref (α (23 + n1)))] → f_X9_readParts_L0 K43 K85 K90 n1 f  S = some z → W p l e rm_X9_readParts s m args below meth c H locs 0 0 (MQ below (Qi E α g z) args s 0 0 E.2.2.1) (F0 m 0 ls []) := by
  obtain ⟨hx, hb, hml, hown, hts, hlk, hrt, hKs⟩ := id C
  intro f
  induction f with
  | zero =>
    intro  S H locs ls  hR hS hl h
    rw [f_X9_readParts_L0] at h
    cases h
  | succ f ih =>
    intro  S H locs ls  hR hS hl h
    rw [f_X9_readParts_L0] at h
    refine lv_aload_n hx hb dX9_readParts_0 rfl (lv_at hl 1 rfl) ?_
    refine g_geti C hR (k := (23 + n1)) (j := 3) (live_r hn1) (lay_r hn1) rfl (vw5) inl5 (by decide) q240 dX9_readParts_1 ?_
    refine lv_bipush (v := 8) hx hb dX9_readParts_4 (by decide) ?_
    refine lv_icmp_ge (tgt := 90) hx hb dX9_readParts_6 (by decide) (fun c3 => ?_) (fun c3 => ?_)
    · have h := ite_t c3 h
      exact hK90  _ _ _ _  hR hS (lv_sub hl [] rfl) h
    · have h := ite_f c3 h
      refine lv_aload_n hx hb dX9_readParts_9 rfl (lv_at hl 0 rfl) ?_
      refine lv_bipush (v := 35) hx hb dX9_readParts_10 (by decide) ?_
      obtain ⟨r4, S5, hr4, h⟩ := bd_e h
      refine g_ci hS (g_runV C hR hS (k := 20) (As := [.int (35 : Int32)]) (rest := []) (c_X9_isSign l  hr4) (live_st (by decide)) rfl (vw9) m_X9_isSign q636 ⟨rfl, rfl⟩ ⟨Nat.le_of_ble_eq_true rfl, Nat.le_of_ble_eq_true rfl⟩ rfl hl.1 rfl (Nat.le_of_ble_eq_true rfl) dX9_readParts_12 ⟨Nat.zero_le _, Nat.zero_le _⟩) (fun H locs hR hS => ?_)
      obtain ⟨J27, eJ27, h⟩ := lt_e h
      have hJ27 : ∀ (t6 : Int32) (S7 : St) (H : Heap) (locs : List Loc) (ls : Array Slot), Rp E α g S7 H → va_S E.2.2.1 s.heap H locs → lv_has ls 3 [(0, .ref (α 20)), (1, .ref (α (23 + n1)))] → J27 t6 S7 = some z → W p l e rm_X9_readParts s m args below meth c H locs 0 0 (MQ below (Qi E α g z) args s 0 0 E.2.2.1) (F0 m 27 ls [.int t6]) := by
        intro t6 S7 H locs ls  hR hS hl h
        rw [eJ27] at h
        refine lv_istore_n (lv' := [(2, .int t6), (0, .ref (α 20)), (1, .ref (α (23 + n1)))]) hx hb dX9_readParts_27 rfl hl (by decide) rfl (fun ls hl => ?_)
        refine lv_iload_n hx hb dX9_readParts_28 rfl (lv_at hl 0 rfl) ?_
        refine lv_bipush (v := 100) hx hb dX9_readParts_29 (by decide) ?_
        obtain ⟨J45, eJ45, h⟩ := lt_e h
        have hJ45 : ∀ (S8 : St) (H : Heap) (locs : List Loc) (ls : Array Slot), Rp E α g S8 H → va_S E.2.2.1 s.heap H locs → lv_has ls 3 [(0, .ref (α 20)), (1, .ref (α (23 + n1))), (2, .int t6)] → J45  S8 = some z → W p l e rm_X9_readParts s m args below meth c H locs 0 0 (MQ below (Qi E α g z) args s 0 0 E.2.2.1) (F0 m 45 ls []) := by
          intro  S8 H locs ls  hR hS hl h
          rw [eJ45] at h
          refine lv_aload_n hx hb dX9_readParts_45 rfl (lv_at hl 1 rfl) ?_
          refine g_getr (t := (33 + n1)) C hR (k := (23 + n1)) (j := 2) (live_r hn1) (lay_r hn1) rfl (vw5) inl5 (by decide) q237 dX9_readParts_46 ?_
          refine lv_aload_n hx hb dX9_readParts_49 rfl (lv_at hl 1 rfl) ?_
          refine g_geti C hR (k := (23 + n1)) (j := 3) (live_r hn1) (lay_r hn1) rfl (vw5) inl5 (by decide) q240 dX9_readParts_50 ?_
          refine lv_iload_n hx hb dX9_readParts_53 rfl (lv_at hl 2 rfl) ?_
          obtain ⟨g10, h⟩ := gd_e h
          obtain ⟨S9, eS9, h⟩ := lt_e h
          refine g_iast C hR hS (k := (33 + n1)) (n := 8) (live_ri hn1) (lay_ri hn1) g10 eS9 dX9_readParts_54 (fun H locs hR hS => ?_)
          refine lv_aload_n hx hb dX9_readParts_55 rfl (lv_at hl 1 rfl) ?_
          refine lv_dup hx hb dX9_readParts_56 rfl ?_
          refine g_geti C hR (k := (23 + n1)) (j := 3) (live_r hn1) (lay_r hn1) rfl (vw5) inl5 (by decide) q240 dX9_readParts_57 ?_
          refine lv_iconst (v := 1) hx hb dX9_readParts_60 (by decide) ?_
          refine lv_iadd hx hb dX9_readParts_61 ?_
          obtain ⟨S11, eS11, h⟩ := lt_e h
          refine g_puti C hR hS (k := (23 + n1)) (j := 3) (live_r hn1) (lay_r hn1) rfl (vw5) inl5 (by decide) (ty0 := tyX5) tyX5_ok nmX5 q240 rfl rfl rfl eS11 dX9_readParts_62 (fun H locs hR hS => ?_)
          refine lv_aload_n hx hb dX9_readParts_65 rfl (lv_at hl 0 rfl) ?_
          obtain ⟨r12, S13, hr12, h⟩ := bd_e h
          refine g_cv hS (g_runV C hR hS (k := 20) (As := []) (rest := []) (c_X9_step l  hr12) (live_st (by decide)) rfl (vw9) m_X9_step q553 ⟨rfl, rfl⟩ ⟨Nat.le_of_ble_eq_true rfl, Nat.le_of_ble_eq_true rfl⟩ rfl hl.1 rfl (Nat.le_of_ble_eq_true rfl) dX9_readParts_66 ⟨Nat.zero_le _, Nat.zero_le _⟩) (fun H locs hR hS => ?_)
          refine lv_aload_n hx hb dX9_readParts_69 rfl (lv_at hl 0 rfl) ?_
          refine g_geti C hR (k := 20) (j := 4) (live_st (by decide)) rfl rfl (vw9) inl9 (by decide) q257 dX9_readParts_70 ?_
          refine lv_if_eq (tgt := 85) hx hb dX9_readParts_73 (by decide) (fun c14 => ?_) (fun c14 => ?_)
          · have h := ite_t c14 h
            exact hK85  _ _ _ _  hR hS (lv_sub hl [] rfl) h
          · have h := ite_f c14 h
            refine lv_aload_n hx hb dX9_readParts_76 rfl (lv_at hl 0 rfl) ?_
            refine lv_bipush (v := 59) hx hb dX9_readParts_77 (by decide) ?_
            obtain ⟨r15, S16, hr15, h⟩ := bd_e h
            refine g_ci hS (g_runV C hR hS (k := 20) (As := [.int (59 : Int32)]) (rest := []) (c_X9_isSign l  hr15) (live_st (by decide)) rfl (vw9) m_X9_isSign q636 ⟨rfl, rfl⟩ ⟨Nat.le_of_ble_eq_true rfl, Nat.le_of_ble_eq_true rfl⟩ rfl hl.1 rfl (Nat.le_of_ble_eq_true rfl) dX9_readParts_79 ⟨Nat.zero_le _, Nat.zero_le _⟩) (fun H locs hR hS => ?_)
            refine lv_if_eq (tgt := 87) hx hb dX9_readParts_82 (by decide) (fun c17 => ?_) (fun c17 => ?_)
            · have h := ite_t c17 h
              refine lv_goto (tgt := 0) hx hb dX9_readParts_87 (by decide) ?_
              exact ih  _ _ _ _  hR hS (lv_sub hl [0, 1] rfl) h
            · have h := ite_f c17 h
              exact hK85  _ _ _ _  hR hS (lv_sub hl [] rfl) h
        clear eJ45
        refine lv_icmp_eq (tgt := 45) hx hb dX9_readParts_31 (by decide) (fun c18 => ?_) (fun c18 => ?_)
        · have h := ite_t c18 h
          exact hJ45  _ _ _ _  hR hS (lv_sub hl [1, 2, 0] rfl) h
        · have h := ite_f c18 h
          refine lv_iload_n hx hb dX9_readParts_34 rfl (lv_at hl 0 rfl) ?_
          refine lv_bipush (v := 32) hx hb dX9_readParts_35 (by decide) ?_
          obtain ⟨r19, S20, hr19, h⟩ := bd_e h
          refine g_ci hS (g_runN C hR hS (host := RX10) (As := [.int t6, .int (32 : Int32)]) (rest := []) (c_X10_below l  hr19) m_X10_below (by decide) ⟨rfl, rfl⟩ ⟨Nat.le_of_ble_eq_true rfl, Nat.le_of_ble_eq_true rfl⟩ rfl hl.1 rfl (Nat.le_of_ble_eq_true rfl) dX9_readParts_37 ⟨Nat.zero_le _, Nat.zero_le _⟩) (fun H locs hR hS => ?_)
          refine lv_if_ne (tgt := 45) hx hb dX9_readParts_40 (by decide) (fun c21 => ?_) (fun c21 => ?_)
          · have h := ite_f c21 h
            exact hJ45  _ _ _ _  hR hS (lv_sub hl [1, 2, 0] rfl) h
          · have h := ite_t c21 h
            exact hK43  _ _ _ _  hR hS (lv_sub hl [] rfl) h
      clear eJ27
      refine lv_if_eq (tgt := 23) hx hb dX9_readParts_15 (by decide) (fun c22 => ?_) (fun c22 => ?_)
      · have h := ite_t c22 h
        refine lv_aload_n hx hb dX9_readParts_23 rfl (lv_at hl 0 rfl) ?_
        obtain ⟨r23, S24, hr23, h⟩ := bd_e h
        refine g_ci hS (g_runV C hR hS (k := 20) (As := []) (rest := []) (c_X9_number l  hr23) (live_st (by decide)) rfl (vw9) m_X9_number q621 ⟨rfl, rfl⟩ ⟨Nat.le_of_ble_eq_true rfl, Nat.le_of_ble_eq_true rfl⟩ rfl hl.1 rfl (Nat.le_of_ble_eq_true rfl) dX9_readParts_24 ⟨Nat.zero_le _, Nat.zero_le _⟩) (fun H locs hR hS => ?_)
        exact hJ27 _ _ _ _ _  hR hS hl h
      · have h := ite_f c22 h
        refine lv_bipush (v := 100) hx hb dX9_readParts_18 (by decide) ?_
        refine lv_goto (tgt := 27) hx hb dX9_readParts_20 (by decide) ?_
        exact hJ27 _ _ _ _ _  hR hS hl h

set_option maxHeartbeats 4000000 in
set_option maxRecDepth 100000 in
theorem c_X9_readParts (l : Launch) {E : En} {α : Nat → Nat} {g : Nat × Nat} {n1 : Nat} {S : St} (hn1 : n1 < 10) {z : Int32 × St} (h : f_X9_readParts n1 S = some z) : Met l yX9_readParts (wsY yX9_readParts cX9_readParts 3 (some .boolean)) rm_X9_readParts (va_Pc [.ref (α 20), .ref (α (23 + n1))] (Wd E α g S)) (Qi E α g z) 0 0 E.2.2.1 := by
  refine g_met [.ref (α 20), .ref (α (23 + n1))] (by decide) rfl (Nat.le_of_ble_eq_true rfl) ?_
  intro p e s m below meth c ls C hR hl
  generalize hae : ([.ref (α 20), .ref (α (23 + n1))] : List Value).toArray = args at C ⊢
  have hl : lv_has ls 3 [(0, .ref (α 20)), (1, .ref (α (23 + n1)))] := hl
  obtain ⟨hx, hb, hml, hown, hts, hlk, hrt, hKs⟩ := id C
  have hS : va_S E.2.2.1 s.heap s.heap [] := va_S.rf
  unfold f_X9_readParts at h
  refine w_X9_readParts_L0 C ?_ ?_ ?_ hn1 _  _ _ _ _  hR hS hl h
  · intro  S25 H locs ls  hR hS hl h
    refine lv_iconst (v := 0) hx hb dX9_readParts_43 (by decide) ?_
    exact g_zret C hR hS bz0 h dX9_readParts_44
  · intro  S26 H locs ls  hR hS hl h
    refine lv_iconst (v := 1) hx hb dX9_readParts_85 (by decide) ?_
    exact g_zret C hR hS bz1 h dX9_readParts_86
  · intro  S27 H locs ls  hR hS hl h
    refine lv_iconst (v := 1) hx hb dX9_readParts_90 (by decide) ?_
    exact g_zret C hR hS bz1 h dX9_readParts_91

/-! OneVoice$Text.readOther(LOneVoice$Row;)Z -/
abbrev rm_X9_readOther : Room := { frames := 2, cells := 0, slots := 0, locals := 40 }
theorem m_X9_readOther : MV yX9_readOther RX9 cX9_readOther 3 (some .boolean) 1 := ⟨q644, q16, q72, q645, by decide +kernel⟩
def f_X9_readOther (n1 : Nat) (S : St) : Option (Int32 × St) :=
  bd_ (f_X9_number  S) fun r3 S4 =>
  bd_ (f_X10_below r3 (6 : Int32) S4) fun r5 S6 =>
  if r5 = 0 then
    some ((0 : Int32), S6)
  else
    if r3 = (rd S6 (23 + n1) 1) then
      some ((0 : Int32), S6)
    else
      lt_ (wr S6 (33 + n1) (Int32.toNatClampNeg (0 : Int32)) r3) fun S9 =>
      lt_ (wr S9 (23 + n1) 3 (1 : Int32)) fun S10 =>
      bd_ (f_X9_step  S10) fun r11 S12 =>
      some ((1 : Int32), S12)

set_option maxHeartbeats 4000000 in
set_option maxRecDepth 100000 in
theorem c_X9_readOther (l : Launch) {E : En} {α : Nat → Nat} {g : Nat × Nat} {n1 : Nat} {S : St} (hn1 : n1 < 10) {z : Int32 × St} (h : f_X9_readOther n1 S = some z) : Met l yX9_readOther (wsY yX9_readOther cX9_readOther 3 (some .boolean)) rm_X9_readOther (va_Pc [.ref (α 20), .ref (α (23 + n1))] (Wd E α g S)) (Qi E α g z) 0 0 E.2.2.1 := by
  refine g_met [.ref (α 20), .ref (α (23 + n1))] (by decide) rfl (Nat.le_of_ble_eq_true rfl) ?_
  intro p e s m below meth c ls C hR hl
  generalize hae : ([.ref (α 20), .ref (α (23 + n1))] : List Value).toArray = args at C ⊢
  have hl : lv_has ls 3 [(0, .ref (α 20)), (1, .ref (α (23 + n1)))] := hl
  obtain ⟨hx, hb, hml, hown, hts, hlk, hrt, hKs⟩ := id C
  have hS : va_S E.2.2.1 s.heap s.heap [] := va_S.rf
  unfold f_X9_readOther at h
  refine lv_aload_n hx hb dX9_readOther_0 rfl (lv_at hl 0 rfl) ?_
  obtain ⟨r3, S4, hr3, h⟩ := bd_e h
  refine g_ci hS (g_runV C hR hS (k := 20) (As := []) (rest := []) (c_X9_number l  hr3) (live_st (by decide)) rfl (vw9) m_X9_number q621 ⟨rfl, rfl⟩ ⟨Nat.le_of_ble_eq_true rfl, Nat.le_of_ble_eq_true rfl⟩ rfl hl.1 rfl (Nat.le_of_ble_eq_true rfl) dX9_readOther_1 ⟨Nat.zero_le _, Nat.zero_le _⟩) (fun H locs hR hS => ?_)
  refine lv_istore_n (lv' := [(2, .int r3), (0, .ref (α 20)), (1, .ref (α (23 + n1)))]) hx hb dX9_readOther_4 rfl hl (by decide) rfl (fun ls hl => ?_)
  refine lv_iload_n hx hb dX9_readOther_5 rfl (lv_at hl 0 rfl) ?_
  refine lv_bipush (v := 6) hx hb dX9_readOther_6 (by decide) ?_
  obtain ⟨r5, S6, hr5, h⟩ := bd_e h
  refine g_ci hS (g_runN C hR hS (host := RX10) (As := [.int r3, .int (6 : Int32)]) (rest := []) (c_X10_below l  hr5) m_X10_below (by decide) ⟨rfl, rfl⟩ ⟨Nat.le_of_ble_eq_true rfl, Nat.le_of_ble_eq_true rfl⟩ rfl hl.1 rfl (Nat.le_of_ble_eq_true rfl) dX9_readOther_8 ⟨Nat.zero_le _, Nat.zero_le _⟩) (fun H locs hR hS => ?_)
  refine lv_if_eq (tgt := 22) hx hb dX9_readOther_11 (by decide) (fun c7 => ?_) (fun c7 => ?_)
  · have h := ite_t c7 h
    refine lv_iconst (v := 0) hx hb dX9_readOther_22 (by decide) ?_
    exact g_zret C hR hS bz0 h dX9_readOther_23
  · have h := ite_f c7 h
    refine lv_iload_n hx hb dX9_readOther_14 rfl (lv_at hl 0 rfl) ?_
    refine lv_aload_n hx hb dX9_readOther_15 rfl (lv_at hl 2 rfl) ?_
    refine g_geti C hR (k := (23 + n1)) (j := 1) (live_r hn1) (lay_r hn1) rfl (vw5) inl5 (by decide) q233 dX9_readOther_16 ?_
    refine lv_icmp_ne (tgt := 24) hx hb dX9_readOther_19 (by decide) (fun c8 => ?_) (fun c8 => ?_)
    · have h := ite_f c8 h
      refine lv_aload_n hx hb dX9_readOther_24 rfl (lv_at hl 2 rfl) ?_
      refine g_getr (t := (33 + n1)) C hR (k := (23 + n1)) (j := 2) (live_r hn1) (lay_r hn1) rfl (vw5) inl5 (by decide) q237 dX9_readOther_25 ?_
      refine lv_iconst (v := 0) hx hb dX9_readOther_28 (by decide) ?_
      refine lv_iload_n hx hb dX9_readOther_29 rfl (lv_at hl 0 rfl) ?_
      obtain ⟨S9, eS9, h⟩ := lt_e h
      refine g_iast C hR hS (k := (33 + n1)) (n := 8) (live_ri hn1) (lay_ri hn1) (show inb (0 : Int32) 8 by decide) eS9 dX9_readOther_30 (fun H locs hR hS => ?_)
      refine lv_aload_n hx hb dX9_readOther_31 rfl (lv_at hl 2 rfl) ?_
      refine lv_iconst (v := 1) hx hb dX9_readOther_32 (by decide) ?_
      obtain ⟨S10, eS10, h⟩ := lt_e h
      refine g_puti C hR hS (k := (23 + n1)) (j := 3) (live_r hn1) (lay_r hn1) rfl (vw5) inl5 (by decide) (ty0 := tyX5) tyX5_ok nmX5 q240 rfl rfl rfl eS10 dX9_readOther_33 (fun H locs hR hS => ?_)
      refine lv_aload_n hx hb dX9_readOther_36 rfl (lv_at hl 1 rfl) ?_
      obtain ⟨r11, S12, hr11, h⟩ := bd_e h
      refine g_cv hS (g_runV C hR hS (k := 20) (As := []) (rest := []) (c_X9_step l  hr11) (live_st (by decide)) rfl (vw9) m_X9_step q553 ⟨rfl, rfl⟩ ⟨Nat.le_of_ble_eq_true rfl, Nat.le_of_ble_eq_true rfl⟩ rfl hl.1 rfl (Nat.le_of_ble_eq_true rfl) dX9_readOther_37 ⟨Nat.zero_le _, Nat.zero_le _⟩) (fun H locs hR hS => ?_)
      refine lv_iconst (v := 1) hx hb dX9_readOther_40 (by decide) ?_
      exact g_zret C hR hS bz1 h dX9_readOther_41
    · have h := ite_t c8 h
      refine lv_iconst (v := 0) hx hb dX9_readOther_22 (by decide) ?_
      exact g_zret C hR hS bz0 h dX9_readOther_23

/-! OneVoice.within(III)Z -/
abbrev rm_X10_within : Room := { frames := 0, cells := 0, slots := 0, locals := 0 }
theorem m_X10_within : MS yX10_within cX10_within 3 (some .boolean) 3 := ⟨q375, q68, q376, by decide +kernel⟩
def f_X10_within (v0 : Int32) (v1 : Int32) (v2 : Int32) (S : St) : Option (Int32 × St) :=
  lt_ (fun  (S1 : St) =>
      some ((0 : Int32), S1)) fun J14 =>
  if v0 < v1 then
    J14  S
  else
    if v2 < v0 then
      J14  S
    else
      some ((1 : Int32), S)

set_option maxHeartbeats 4000000 in
set_option maxRecDepth 100000 in
theorem c_X10_within (l : Launch) {E : En} {α : Nat → Nat} {g : Nat × Nat} {v0 : Int32} {v1 : Int32} {v2 : Int32} {S : St}  {z : Int32 × St} (h : f_X10_within v0 v1 v2 S = some z) : Met l yX10_within (wsY yX10_within cX10_within 3 (some .boolean)) rm_X10_within (va_Pc [.int v0, .int v1, .int v2] (Wd E α g S)) (Qi E α g z) 0 0 E.2.2.1 := by
  refine g_met [.int v0, .int v1, .int v2] (by decide) rfl (Nat.le_of_ble_eq_true rfl) ?_
  intro p e s m below meth c ls C hR hl
  generalize hae : ([.int v0, .int v1, .int v2] : List Value).toArray = args at C ⊢
  have hl : lv_has ls 3 [(0, .int v0), (1, .int v1), (2, .int v2)] := hl
  obtain ⟨hx, hb, hml, hown, hts, hlk, hrt, hKs⟩ := id C
  have hS : va_S E.2.2.1 s.heap s.heap [] := va_S.rf
  unfold f_X10_within at h
  refine lv_iload_n hx hb dX10_within_0 rfl (lv_at hl 0 rfl) ?_
  refine lv_iload_n hx hb dX10_within_1 rfl (lv_at hl 1 rfl) ?_
  obtain ⟨J14, eJ14, h⟩ := lt_e h
  have hJ14 : ∀ (S1 : St) (H : Heap) (locs : List Loc) (ls : Array Slot), Rp E α g S1 H → va_S E.2.2.1 s.heap H locs → lv_has ls 3 [] → J14  S1 = some z → W p l e rm_X10_within s m args below meth c H locs 0 0 (MQ below (Qi E α g z) args s 0 0 E.2.2.1) (F0 m 14 ls []) := by
    intro  S1 H locs ls  hR hS hl h
    rw [eJ14] at h
    refine lv_iconst (v := 0) hx hb dX10_within_14 (by decide) ?_
    exact g_zret C hR hS bz0 h dX10_within_15
  clear eJ14
  refine lv_icmp_lt (tgt := 14) hx hb dX10_within_2 (by decide) (fun c2 => ?_) (fun c2 => ?_)
  · have h := ite_t c2 h
    exact hJ14  _ _ _ _  hR hS (lv_sub hl [] rfl) h
  · have h := ite_f c2 h
    refine lv_iload_n hx hb dX10_within_5 rfl (lv_at hl 0 rfl) ?_
    refine lv_iload_n hx hb dX10_within_6 rfl (lv_at hl 2 rfl) ?_
    refine lv_icmp_gt (tgt := 14) hx hb dX10_within_7 (by decide) (fun c3 => ?_) (fun c3 => ?_)
    · have h := ite_t c3 h
      exact hJ14  _ _ _ _  hR hS (lv_sub hl [] rfl) h
    · have h := ite_f c3 h
      refine lv_iconst (v := 1) hx hb dX10_within_10 (by decide) ?_
      refine lv_goto (tgt := 15) hx hb dX10_within_11 (by decide) ?_
      exact g_zret C hR hS bz1 h dX10_within_15

/-! OneVoice.worn(II)I -/
abbrev rm_X10_worn : Room := { frames := 3, cells := 0, slots := 0, locals := 67 }
theorem m_X10_worn : MV yX10_worn RX10 cX10_worn 3 (some .int) 2 := ⟨q425, q426, q68, q427, by decide +kernel⟩
def f_X10_worn (v1 : Int32) (v2 : Int32) (S : St) : Option (Int32 × St) :=
  bd_ (f_X10_below v1 (rd S 1 1) S) fun r3 S4 =>
  if r3 = 0 then
    some ((-2 : Int32), S4)
  else
    gd_ (inb v1 16 ∧ (Int32.toNatClampNeg v1) < nP S4) <|
    bd_ (f_X10_below v2 ((1 : Int32) <<< ((rd S4 (200 + 2 * (Int32.toNatClampNeg v1)) 1) &&& 31)) S4) fun r8 S9 =>
    if r8 = 0 then
      some ((-3 : Int32), S9)
    else
      bd_ (f_X8_wear v1 v2 S9) fun r11 S12 =>
      some (r11, S12)

set_option maxHeartbeats 4000000 in
set_option maxRecDepth 100000 in
theorem c_X10_worn (l : Launch) {E : En} {α : Nat → Nat} {g : Nat × Nat} {v1 : Int32} {v2 : Int32} {S : St}  {z : Int32 × St} (h : f_X10_worn v1 v2 S = some z) : Met l yX10_worn (wsY yX10_worn cX10_worn 3 (some .int)) rm_X10_worn (va_Pc [.ref (α 0), .int v1, .int v2] (Wd E α g S)) (Qi E α g z) 0 0 E.2.2.1 := by
  refine g_met [.ref (α 0), .int v1, .int v2] (by decide) rfl (Nat.le_of_ble_eq_true rfl) ?_
  intro p e s m below meth c ls C hR hl
  generalize hae : ([.ref (α 0), .int v1, .int v2] : List Value).toArray = args at C ⊢
  have hl : lv_has ls 3 [(0, .ref (α 0)), (1, .int v1), (2, .int v2)] := hl
  obtain ⟨hx, hb, hml, hown, hts, hlk, hrt, hKs⟩ := id C
  have hS : va_S E.2.2.1 s.heap s.heap [] := va_S.rf
  unfold f_X10_worn at h
  refine lv_iload_n hx hb dX10_worn_0 rfl (lv_at hl 1 rfl) ?_
  refine lv_aload_n hx hb dX10_worn_1 rfl (lv_at hl 0 rfl) ?_
  refine g_getr (t := 1) C hR (k := 0) (j := 0) (live_st (by decide)) rfl rfl (vw10) inl10 (by decide) q348 dX10_worn_2 ?_
  refine g_geti C hR (k := 1) (j := 1) (live_st (by decide)) rfl rfl (vw8) inl8 (by decide) q107 dX10_worn_5 ?_
  obtain ⟨r3, S4, hr3, h⟩ := bd_e h
  refine g_ci hS (g_runS C hR hS (As := [.int v1, .int (rd S 1 1)]) (rest := []) (c_X10_below l  hr3) m_X10_below q377 ⟨rfl, rfl⟩ ⟨Nat.le_of_ble_eq_true rfl, Nat.le_of_ble_eq_true rfl⟩ rfl hl.1 rfl (Nat.le_of_ble_eq_true rfl) dX10_worn_8 ⟨Nat.zero_le _, Nat.zero_le _⟩) (fun H locs hR hS => ?_)
  refine lv_if_ne (tgt := 17) hx hb dX10_worn_11 (by decide) (fun c5 => ?_) (fun c5 => ?_)
  · have h := ite_f c5 h
    refine lv_iload_n hx hb dX10_worn_17 rfl (lv_at hl 2 rfl) ?_
    refine lv_iconst (v := 1) hx hb dX10_worn_18 (by decide) ?_
    refine lv_aload_n hx hb dX10_worn_19 rfl (lv_at hl 0 rfl) ?_
    refine g_getr (t := 1) C hR (k := 0) (j := 0) (live_st (by decide)) rfl rfl (vw10) inl10 (by decide) q348 dX10_worn_20 ?_
    refine g_getr (t := 2) C hR (k := 1) (j := 0) (live_st (by decide)) rfl rfl (vw8) inl8 (by decide) q104 dX10_worn_23 ?_
    refine lv_iload_n hx hb dX10_worn_26 rfl (lv_at hl 1 rfl) ?_
    obtain ⟨g6, h⟩ := gd_e h
    refine g_aldP C hR g6.1 g6.2 dX10_worn_27 (fun hn7 => ?_)
    refine g_geti C hR (k := (200 + 2 * (Int32.toNatClampNeg v1))) (j := 1) (live_p hn7) (lay_p (Nat.lt_of_lt_of_le hn7 hR.1.1)) rfl (vw3) inl3 (by decide) q388 dX10_worn_28 ?_
    refine lv_ishl hx hb dX10_worn_31 ?_
    obtain ⟨r8, S9, hr8, h⟩ := bd_e h
    refine g_ci hS (g_runS C hR hS (As := [.int v2, .int ((1 : Int32) <<< ((rd S4 (200 + 2 * (Int32.toNatClampNeg v1)) 1) &&& 31))]) (rest := []) (c_X10_below l  hr8) m_X10_below q377 ⟨rfl, rfl⟩ ⟨Nat.le_of_ble_eq_true rfl, Nat.le_of_ble_eq_true rfl⟩ rfl hl.1 rfl (Nat.le_of_ble_eq_true rfl) dX10_worn_32 ⟨Nat.zero_le _, Nat.zero_le _⟩) (fun H locs hR hS => ?_)
    refine lv_if_ne (tgt := 41) hx hb dX10_worn_35 (by decide) (fun c10 => ?_) (fun c10 => ?_)
    · have h := ite_f c10 h
      refine lv_aload_n hx hb dX10_worn_41 rfl (lv_at hl 0 rfl) ?_
      refine g_getr (t := 1) C hR (k := 0) (j := 0) (live_st (by decide)) rfl rfl (vw10) inl10 (by decide) q348 dX10_worn_42 ?_
      refine lv_iload_n hx hb dX10_worn_45 rfl (lv_at hl 1 rfl) ?_
      refine lv_iload_n hx hb dX10_worn_46 rfl (lv_at hl 2 rfl) ?_
      obtain ⟨r11, S12, hr11, h⟩ := bd_e h
      refine g_ci hS (g_runV C hR hS (k := 1) (As := [.int v1, .int v2]) (rest := []) (c_X8_wear l  hr11) (live_st (by decide)) rfl (vw8) m_X8_wear q428 ⟨rfl, rfl⟩ ⟨Nat.le_of_ble_eq_true rfl, Nat.le_of_ble_eq_true rfl⟩ rfl hl.1 rfl (Nat.le_of_ble_eq_true rfl) dX10_worn_47 ⟨Nat.zero_le _, Nat.zero_le _⟩) (fun H locs hR hS => ?_)
      exact g_iret C hR hS h dX10_worn_50
    · have h := ite_t c10 h
      refine lv_bipush (v := -3) hx hb dX10_worn_38 (by decide) ?_
      exact g_iret C hR hS h dX10_worn_40
  · have h := ite_t c5 h
    refine lv_bipush (v := -2) hx hb dX10_worn_14 (by decide) ?_
    exact g_iret C hR hS h dX10_worn_16

/-! OneVoice.of(III)I -/
abbrev rm_X10_of : Room := { frames := 1, cells := 0, slots := 0, locals := 21 }
theorem m_X10_of : MV yX10_of RX10 cX10_of 5 (some .int) 3 := ⟨q433, q434, q68, q435, by decide +kernel⟩
def f_X10_of (v1 : Int32) (v2 : Int32) (v3 : Int32) (S : St) : Option (Int32 × St) :=
  bd_ (f_X10_below v1 (rd S 1 1) S) fun r7 S8 =>
  if r7 = 0 then
    some ((-2 : Int32), S8)
  else
    gd_ (inb v1 16 ∧ (Int32.toNatClampNeg v1) < nP S8) <|
    bd_ (f_X10_below v2 (rd S8 (200 + 2 * (Int32.toNatClampNeg v1)) 1) S8) fun r12 S13 =>
    if r12 = 0 then
      some ((-2 : Int32), S13)
    else
      gd_ (inb v1 16 ∧ (Int32.toNatClampNeg v1) < nP S13) <|
      lt_ (Int32.toNatClampNeg v1) fun n17 =>
      if v3 = (0 : Int32) then
        bd_ (f_X3_soundAt n17 v2 S13) fun r19 S20 =>
        some (r19, S20)
      else
      if v3 = (1 : Int32) then
        gd_ (inb v2 8) <|
        some ((rd S13 (200 + 2 * n17 + 1) (Int32.toNatClampNeg v2)), S13)
      else
      if v3 = (2 : Int32) then
        bd_ (f_X3_wearAt n17 v2 S13) fun r24 S25 =>
        some (r24, S25)
      else
      some ((-3 : Int32), S13)

set_option maxHeartbeats 4000000 in
set_option maxRecDepth 100000 in
theorem c_X10_of (l : Launch) {E : En} {α : Nat → Nat} {g : Nat × Nat} {v1 : Int32} {v2 : Int32} {v3 : Int32} {S : St}  {z : Int32 × St} (h : f_X10_of v1 v2 v3 S = some z) : Met l yX10_of (wsY yX10_of cX10_of 5 (some .int)) rm_X10_of (va_Pc [.ref (α 0), .int v1, .int v2, .int v3] (Wd E α g S)) (Qi E α g z) 0 0 E.2.2.1 := by
  refine g_met [.ref (α 0), .int v1, .int v2, .int v3] (by decide) rfl (Nat.le_of_ble_eq_true rfl) ?_
  intro p e s m below meth c ls C hR hl
  generalize hae : ([.ref (α 0), .int v1, .int v2, .int v3] : List Value).toArray = args at C ⊢
  have hl : lv_has ls 5 [(0, .ref (α 0)), (1, .int v1), (2, .int v2), (3, .int v3)] := hl
  obtain ⟨hx, hb, hml, hown, hts, hlk, hrt, hKs⟩ := id C
  have hS : va_S E.2.2.1 s.heap s.heap [] := va_S.rf
  unfold f_X10_of at h
  refine lv_iload_n hx hb dX10_of_0 rfl (lv_at hl 1 rfl) ?_
  refine lv_aload_n hx hb dX10_of_1 rfl (lv_at hl 0 rfl) ?_
  refine g_getr (t := 1) C hR (k := 0) (j := 0) (live_st (by decide)) rfl rfl (vw10) inl10 (by decide) q348 dX10_of_2 ?_
  refine g_geti C hR (k := 1) (j := 1) (live_st (by decide)) rfl rfl (vw8) inl8 (by decide) q107 dX10_of_5 ?_
  obtain ⟨r7, S8, hr7, h⟩ := bd_e h
  refine g_ci hS (g_runS C hR hS (As := [.int v1, .int (rd S 1 1)]) (rest := []) (c_X10_below l  hr7) m_X10_below q377 ⟨rfl, rfl⟩ ⟨Nat.le_of_ble_eq_true rfl, Nat.le_of_ble_eq_true rfl⟩ rfl hl.1 rfl (Nat.le_of_ble_eq_true rfl) dX10_of_8 ⟨Nat.zero_le _, Nat.zero_le _⟩) (fun H locs hR hS => ?_)
  refine lv_if_eq (tgt := 33) hx hb dX10_of_11 (by decide) (fun c9 => ?_) (fun c9 => ?_)
  · have h := ite_t c9 h
    refine lv_bipush (v := -2) hx hb dX10_of_33 (by decide) ?_
    exact g_iret C hR hS h dX10_of_35
  · have h := ite_f c9 h
    refine lv_iload_n hx hb dX10_of_14 rfl (lv_at hl 2 rfl) ?_
    refine lv_aload_n hx hb dX10_of_15 rfl (lv_at hl 0 rfl) ?_
    refine g_getr (t := 1) C hR (k := 0) (j := 0) (live_st (by decide)) rfl rfl (vw10) inl10 (by decide) q348 dX10_of_16 ?_
    refine g_getr (t := 2) C hR (k := 1) (j := 0) (live_st (by decide)) rfl rfl (vw8) inl8 (by decide) q104 dX10_of_19 ?_
    refine lv_iload_n hx hb dX10_of_22 rfl (lv_at hl 1 rfl) ?_
    obtain ⟨g10, h⟩ := gd_e h
    refine g_aldP C hR g10.1 g10.2 dX10_of_23 (fun hn11 => ?_)
    refine g_geti C hR (k := (200 + 2 * (Int32.toNatClampNeg v1))) (j := 1) (live_p hn11) (lay_p (Nat.lt_of_lt_of_le hn11 hR.1.1)) rfl (vw3) inl3 (by decide) q388 dX10_of_24 ?_
    obtain ⟨r12, S13, hr12, h⟩ := bd_e h
    refine g_ci hS (g_runS C hR hS (As := [.int v2, .int (rd S8 (200 + 2 * (Int32.toNatClampNeg v1)) 1)]) (rest := []) (c_X10_below l  hr12) m_X10_below q377 ⟨rfl, rfl⟩ ⟨Nat.le_of_ble_eq_true rfl, Nat.le_of_ble_eq_true rfl⟩ rfl hl.1 rfl (Nat.le_of_ble_eq_true rfl) dX10_of_27 ⟨Nat.zero_le _, Nat.zero_le _⟩) (fun H locs hR hS => ?_)
    refine lv_if_ne (tgt := 36) hx hb dX10_of_30 (by decide) (fun c14 => ?_) (fun c14 => ?_)
    · have h := ite_f c14 h
      refine lv_aload_n hx hb dX10_of_36 rfl (lv_at hl 0 rfl) ?_
      refine g_getr (t := 1) C hR (k := 0) (j := 0) (live_st (by decide)) rfl rfl (vw10) inl10 (by decide) q348 dX10_of_37 ?_
      refine g_getr (t := 2) C hR (k := 1) (j := 0) (live_st (by decide)) rfl rfl (vw8) inl8 (by decide) q104 dX10_of_40 ?_
      refine lv_iload_n hx hb dX10_of_43 rfl (lv_at hl 1 rfl) ?_
      obtain ⟨g15, h⟩ := gd_e h
      refine g_aldP C hR g15.1 g15.2 dX10_of_44 (fun hn16 => ?_)
      obtain ⟨n17, en17, h⟩ := lt_e h
      have hn17 : n17 < g.1 := by rw [en17]; exact hn16
      refine g_nmP en17 ?_
      refine lv_astore (lv' := [(4, .ref (α (200 + 2 * n17))), (0, .ref (α 0)), (1, .int v1), (2, .int v2), (3, .int v3)]) hx hb dX10_of_45 hl (by decide) rfl (fun ls hl => ?_)
      refine lv_iload_n hx hb dX10_of_47 rfl (lv_at hl 4 rfl) ?_
      by_cases c18 : v3 = (0 : Int32)
      · have h := ite_t c18 h
        refine lv_tableIn (off := 28) (tgt := 76) hx hb dX10_of_48 (by rw [c18]; decide) (by rw [c18]; decide) (by rw [c18]; rfl) (by decide) ?_
        refine lv_aload hx hb dX10_of_76 (lv_at hl 0 rfl) ?_
        refine lv_iload_n hx hb dX10_of_78 rfl (lv_at hl 3 rfl) ?_
        obtain ⟨r19, S20, hr19, h⟩ := bd_e h
        refine g_ci hS (g_runV C hR hS (k := (200 + 2 * n17)) (As := [.int v2]) (rest := []) (c_X3_soundAt l hn17 hr19) (live_p hn17) (lay_p (Nat.lt_of_lt_of_le hn17 hR.1.1)) (vw3) m_X3_soundAt q436 ⟨rfl, rfl⟩ ⟨Nat.le_of_ble_eq_true rfl, Nat.le_of_ble_eq_true rfl⟩ rfl hl.1 rfl (Nat.le_of_ble_eq_true rfl) dX10_of_79 ⟨Nat.zero_le _, Nat.zero_le _⟩) (fun H locs hR hS => ?_)
        exact g_iret C hR hS h dX10_of_82
      have h := ite_f c18 h
      by_cases c21 : v3 = (1 : Int32)
      · have h := ite_t c21 h
        refine lv_tableIn (off := 35) (tgt := 83) hx hb dX10_of_48 (by rw [c21]; decide) (by rw [c21]; decide) (by rw [c21]; rfl) (by decide) ?_
        refine lv_aload hx hb dX10_of_83 (lv_at hl 0 rfl) ?_
        refine g_getr (t := (200 + 2 * n17 + 1)) C hR (k := (200 + 2 * n17)) (j := 3) (live_p hn17) (lay_p (Nat.lt_of_lt_of_le hn17 hR.1.1)) rfl (vw3) inl3 (by decide) q393 dX10_of_85 ?_
        refine lv_iload_n hx hb dX10_of_88 rfl (lv_at hl 3 rfl) ?_
        obtain ⟨g22, h⟩ := gd_e h
        refine g_iald C hR (k := (200 + 2 * n17 + 1)) (n := 8) (live_pt hn17) (lay_pt (Nat.lt_of_lt_of_le hn17 hR.1.1)) g22 dX10_of_89 ?_
        exact g_iret C hR hS h dX10_of_90
      have h := ite_f c21 h
      by_cases c23 : v3 = (2 : Int32)
      · have h := ite_t c23 h
        refine lv_tableIn (off := 43) (tgt := 91) hx hb dX10_of_48 (by rw [c23]; decide) (by rw [c23]; decide) (by rw [c23]; rfl) (by decide) ?_
        refine lv_aload hx hb dX10_of_91 (lv_at hl 0 rfl) ?_
        refine lv_iload_n hx hb dX10_of_93 rfl (lv_at hl 3 rfl) ?_
        obtain ⟨r24, S25, hr24, h⟩ := bd_e h
        refine g_ci hS (g_runV C hR hS (k := (200 + 2 * n17)) (As := [.int v2]) (rest := []) (c_X3_wearAt l hn17 hr24) (live_p hn17) (lay_p (Nat.lt_of_lt_of_le hn17 hR.1.1)) (vw3) m_X3_wearAt q440 ⟨rfl, rfl⟩ ⟨Nat.le_of_ble_eq_true rfl, Nat.le_of_ble_eq_true rfl⟩ rfl hl.1 rfl (Nat.le_of_ble_eq_true rfl) dX10_of_94 ⟨Nat.zero_le _, Nat.zero_le _⟩) (fun H locs hR hS => ?_)
        exact g_iret C hR hS h dX10_of_97
      have h := ite_f c23 h
      have c18 := tsw_ne (k := 0) c18 (by decide)
      have c21 := tsw_ne (k := 1) c21 (by decide)
      have c23 := tsw_ne (k := 2) c23 (by decide)
      refine lv_tableOut (tgt := 98) hx hb dX10_of_48 (by omega) (by decide) ?_
      refine lv_bipush (v := -3) hx hb dX10_of_98 (by decide) ?_
      exact g_iret C hR hS h dX10_of_100
    · have h := ite_t c14 h
      refine lv_bipush (v := -2) hx hb dX10_of_33 (by decide) ?_
      exact g_iret C hR hS h dX10_of_35

/-! OneVoice.lost()I -/
abbrev rm_X10_lost : Room := { frames := 2, cells := 0, slots := 0, locals := 42 }
theorem m_X10_lost : MV yX10_lost RX10 cX10_lost 1 (some .int) 0 := ⟨q445, q446, q68, q447, by decide +kernel⟩
def f_X10_lost  (S : St) : Option (Int32 × St) :=
  bd_ (f_X8_lostInAll  S) fun r1 S2 =>
  some (r1, S2)

set_option maxHeartbeats 4000000 in
set_option maxRecDepth 100000 in
theorem c_X10_lost (l : Launch) {E : En} {α : Nat → Nat} {g : Nat × Nat}  {S : St}  {z : Int32 × St} (h : f_X10_lost  S = some z) : Met l yX10_lost (wsY yX10_lost cX10_lost 1 (some .int)) rm_X10_lost (va_Pc [.ref (α 0)] (Wd E α g S)) (Qi E α g z) 0 0 E.2.2.1 := by
  refine g_met [.ref (α 0)] (by decide) rfl (Nat.le_of_ble_eq_true rfl) ?_
  intro p e s m below meth c ls C hR hl
  generalize hae : ([.ref (α 0)] : List Value).toArray = args at C ⊢
  have hl : lv_has ls 1 [(0, .ref (α 0))] := hl
  obtain ⟨hx, hb, hml, hown, hts, hlk, hrt, hKs⟩ := id C
  have hS : va_S E.2.2.1 s.heap s.heap [] := va_S.rf
  unfold f_X10_lost at h
  refine lv_aload_n hx hb dX10_lost_0 rfl (lv_at hl 0 rfl) ?_
  refine g_getr (t := 1) C hR (k := 0) (j := 0) (live_st (by decide)) rfl rfl (vw10) inl10 (by decide) q348 dX10_lost_1 ?_
  obtain ⟨r1, S2, hr1, h⟩ := bd_e h
  refine g_ci hS (g_runV C hR hS (k := 1) (As := []) (rest := []) (c_X8_lostInAll l  hr1) (live_st (by decide)) rfl (vw8) m_X8_lostInAll q448 ⟨rfl, rfl⟩ ⟨Nat.le_of_ble_eq_true rfl, Nat.le_of_ble_eq_true rfl⟩ rfl hl.1 rfl (Nat.le_of_ble_eq_true rfl) dX10_lost_4 ⟨Nat.zero_le _, Nat.zero_le _⟩) (fun H locs hR hS => ?_)
  exact g_iret C hR hS h dX10_lost_7

/-! OneVoice.said(IJII)I -/
abbrev rm_X10_said : Room := { frames := 3, cells := 0, slots := 0, locals := 78 }
theorem m_X10_said : MV yX10_said RX10 cX10_said 6 (some .int) 4 := ⟨q459, q460, q68, q461, by decide +kernel⟩
def f_X10_said (v1 : Int32) (v2 : Int64) (v4 : Int32) (v5 : Int32) (S : St) : Option (Int32 × St) :=
  bd_ (f_X10_below v1 (4 : Int32) S) fun r1 S2 =>
  if r1 = 0 then
    some ((-3 : Int32), S2)
  else
    bd_ (f_X10_within v4 (1 : Int32) (16 : Int32) S2) fun r4 S5 =>
    if r4 = 0 then
      some ((-3 : Int32), S5)
    else
      bd_ (f_X10_below v5 (2 : Int32) S5) fun r7 S8 =>
      if r7 = 0 then
        some ((-3 : Int32), S8)
      else
        bd_ (f_X6_weigh v1 v2 v4 S8) fun r10 S11 =>
        if v5 = 0 then
          bd_ (f_X6_leastJar  S11) fun r13 S14 =>
          some (r13, S14)
        else
          some ((rd S11 3 15), S11)

set_option maxHeartbeats 4000000 in
set_option maxRecDepth 100000 in
theorem c_X10_said (l : Launch) {E : En} {α : Nat → Nat} {g : Nat × Nat} {v1 : Int32} {v2 : Int64} {v4 : Int32} {v5 : Int32} {S : St}  {z : Int32 × St} (h : f_X10_said v1 v2 v4 v5 S = some z) : Met l yX10_said (wsY yX10_said cX10_said 6 (some .int)) rm_X10_said (va_Pc [.ref (α 0), .int v1, .long v2, .int v4, .int v5] (Wd E α g S)) (Qi E α g z) 0 0 E.2.2.1 := by
  refine g_met [.ref (α 0), .int v1, .long v2, .int v4, .int v5] (by decide) rfl (Nat.le_of_ble_eq_true rfl) ?_
  intro p e s m below meth c ls C hR hl
  generalize hae : ([.ref (α 0), .int v1, .long v2, .int v4, .int v5] : List Value).toArray = args at C ⊢
  have hl : lv_has ls 6 [(0, .ref (α 0)), (1, .int v1), (2, .long v2), (4, .int v4), (5, .int v5)] := hl
  obtain ⟨hx, hb, hml, hown, hts, hlk, hrt, hKs⟩ := id C
  have hS : va_S E.2.2.1 s.heap s.heap [] := va_S.rf
  unfold f_X10_said at h
  refine lv_iload_n hx hb dX10_said_0 rfl (lv_at hl 1 rfl) ?_
  refine lv_iconst (v := 4) hx hb dX10_said_1 (by decide) ?_
  obtain ⟨r1, S2, hr1, h⟩ := bd_e h
  refine g_ci hS (g_runS C hR hS (As := [.int v1, .int (4 : Int32)]) (rest := []) (c_X10_below l  hr1) m_X10_below q377 ⟨rfl, rfl⟩ ⟨Nat.le_of_ble_eq_true rfl, Nat.le_of_ble_eq_true rfl⟩ rfl hl.1 rfl (Nat.le_of_ble_eq_true rfl) dX10_said_2 ⟨Nat.zero_le _, Nat.zero_le _⟩) (fun H locs hR hS => ?_)
  refine lv_if_eq (tgt := 28) hx hb dX10_said_5 (by decide) (fun c3 => ?_) (fun c3 => ?_)
  · have h := ite_t c3 h
    refine lv_bipush (v := -3) hx hb dX10_said_28 (by decide) ?_
    exact g_iret C hR hS h dX10_said_30
  · have h := ite_f c3 h
    refine lv_iload hx hb dX10_said_8 (lv_at hl 3 rfl) ?_
    refine lv_iconst (v := 1) hx hb dX10_said_10 (by decide) ?_
    refine lv_bipush (v := 16) hx hb dX10_said_11 (by decide) ?_
    obtain ⟨r4, S5, hr4, h⟩ := bd_e h
    refine g_ci hS (g_runS C hR hS (As := [.int v4, .int (1 : Int32), .int (16 : Int32)]) (rest := []) (c_X10_within l  hr4) m_X10_within q374 ⟨rfl, rfl⟩ ⟨Nat.le_of_ble_eq_true rfl, Nat.le_of_ble_eq_true rfl⟩ rfl hl.1 rfl (Nat.le_of_ble_eq_true rfl) dX10_said_13 ⟨Nat.zero_le _, Nat.zero_le _⟩) (fun H locs hR hS => ?_)
    refine lv_if_eq (tgt := 28) hx hb dX10_said_16 (by decide) (fun c6 => ?_) (fun c6 => ?_)
    · have h := ite_t c6 h
      refine lv_bipush (v := -3) hx hb dX10_said_28 (by decide) ?_
      exact g_iret C hR hS h dX10_said_30
    · have h := ite_f c6 h
      refine lv_iload hx hb dX10_said_19 (lv_at hl 4 rfl) ?_
      refine lv_iconst (v := 2) hx hb dX10_said_21 (by decide) ?_
      obtain ⟨r7, S8, hr7, h⟩ := bd_e h
      refine g_ci hS (g_runS C hR hS (As := [.int v5, .int (2 : Int32)]) (rest := []) (c_X10_below l  hr7) m_X10_below q377 ⟨rfl, rfl⟩ ⟨Nat.le_of_ble_eq_true rfl, Nat.le_of_ble_eq_true rfl⟩ rfl hl.1 rfl (Nat.le_of_ble_eq_true rfl) dX10_said_22 ⟨Nat.zero_le _, Nat.zero_le _⟩) (fun H locs hR hS => ?_)
      refine lv_if_ne (tgt := 31) hx hb dX10_said_25 (by decide) (fun c9 => ?_) (fun c9 => ?_)
      · have h := ite_f c9 h
        refine lv_aload_n hx hb dX10_said_31 rfl (lv_at hl 0 rfl) ?_
        refine g_getr (t := 3) C hR (k := 0) (j := 1) (live_st (by decide)) rfl rfl (vw10) inl10 (by decide) q349 dX10_said_32 ?_
        refine lv_iload_n hx hb dX10_said_35 rfl (lv_at hl 1 rfl) ?_
        refine lv_lload_n hx hb dX10_said_36 rfl (lv_at hl 2 rfl) ?_
        refine lv_iload hx hb dX10_said_37 (lv_at hl 3 rfl) ?_
        obtain ⟨r10, S11, hr10, h⟩ := bd_e h
        refine g_cv hS (g_runV C hR hS (k := 3) (As := [.int v1, .long v2, .int v4]) (rest := []) (c_X6_weigh l  hr10) (live_st (by decide)) rfl (vw6) m_X6_weigh q462 ⟨rfl, rfl⟩ ⟨Nat.le_of_ble_eq_true rfl, Nat.le_of_ble_eq_true rfl⟩ rfl hl.1 rfl (Nat.le_of_ble_eq_true rfl) dX10_said_39 ⟨Nat.zero_le _, Nat.zero_le _⟩) (fun H locs hR hS => ?_)
        refine lv_iload hx hb dX10_said_42 (lv_at hl 4 rfl) ?_
        refine lv_if_ne (tgt := 57) hx hb dX10_said_44 (by decide) (fun c12 => ?_) (fun c12 => ?_)
        · have h := ite_f c12 h
          refine lv_aload_n hx hb dX10_said_57 rfl (lv_at hl 0 rfl) ?_
          refine g_getr (t := 3) C hR (k := 0) (j := 1) (live_st (by decide)) rfl rfl (vw10) inl10 (by decide) q349 dX10_said_58 ?_
          refine g_geti C hR (k := 3) (j := 15) (live_st (by decide)) rfl rfl (vw6) inl6 (by decide) q136 dX10_said_61 ?_
          exact g_iret C hR hS h dX10_said_64
        · have h := ite_t c12 h
          refine lv_aload_n hx hb dX10_said_47 rfl (lv_at hl 0 rfl) ?_
          refine g_getr (t := 3) C hR (k := 0) (j := 1) (live_st (by decide)) rfl rfl (vw10) inl10 (by decide) q349 dX10_said_48 ?_
          obtain ⟨r13, S14, hr13, h⟩ := bd_e h
          refine g_ci hS (g_runV C hR hS (k := 3) (As := []) (rest := []) (c_X6_leastJar l  hr13) (live_st (by decide)) rfl (vw6) m_X6_leastJar q506 ⟨rfl, rfl⟩ ⟨Nat.le_of_ble_eq_true rfl, Nat.le_of_ble_eq_true rfl⟩ rfl hl.1 rfl (Nat.le_of_ble_eq_true rfl) dX10_said_51 ⟨Nat.zero_le _, Nat.zero_le _⟩) (fun H locs hR hS => ?_)
          refine lv_goto (tgt := 64) hx hb dX10_said_54 (by decide) ?_
          exact g_iret C hR hS h dX10_said_64
      · have h := ite_t c9 h
        refine lv_bipush (v := -3) hx hb dX10_said_28 (by decide) ?_
        exact g_iret C hR hS h dX10_said_30

/-! OneVoice.bit(IJII)I -/
abbrev rm_X10_bit : Room := { frames := 4, cells := 0, slots := 0, locals := 102 }
theorem m_X10_bit : MV yX10_bit RX10 cX10_bit 6 (some .int) 4 := ⟨q511, q512, q68, q513, by decide +kernel⟩
def f_X10_bit (v1 : Int32) (v2 : Int64) (v4 : Int32) (v5 : Int32) (S : St) : Option (Int32 × St) :=
  bd_ (f_X10_below v1 (4 : Int32) S) fun r2 S3 =>
  if r2 = 0 then
    some ((-3 : Int32), S3)
  else
    bd_ (f_X10_within v4 (1 : Int32) (16 : Int32) S3) fun r5 S6 =>
    if r5 = 0 then
      some ((-3 : Int32), S6)
    else
      if (-1 : Int32) ≤ v5 then
        bd_ (f_X6_weigh v1 v2 v4 S6) fun r9 S10 =>
        bd_ (f_X6_findFirst  S10) fun r11 S12 =>
        if (rd S12 3 17) = 0 then
          some ((-1 : Int32), S12)
        else
          if v5 = (-1 : Int32) then
            some ((rd S12 3 17), S12)
          else
            if (rd S12 3 17) ≤ v5 then
              some ((-1 : Int32), S12)
            else
              gd_ (inb v5 16) <|
              some ((rd S12 13 (Int32.toNatClampNeg v5)), S12)
      else
        some ((-3 : Int32), S6)

set_option maxHeartbeats 4000000 in
set_option maxRecDepth 100000 in
theorem c_X10_bit (l : Launch) {E : En} {α : Nat → Nat} {g : Nat × Nat} {v1 : Int32} {v2 : Int64} {v4 : Int32} {v5 : Int32} {S : St}  {z : Int32 × St} (h : f_X10_bit v1 v2 v4 v5 S = some z) : Met l yX10_bit (wsY yX10_bit cX10_bit 6 (some .int)) rm_X10_bit (va_Pc [.ref (α 0), .int v1, .long v2, .int v4, .int v5] (Wd E α g S)) (Qi E α g z) 0 0 E.2.2.1 := by
  refine g_met [.ref (α 0), .int v1, .long v2, .int v4, .int v5] (by decide) rfl (Nat.le_of_ble_eq_true rfl) ?_
  intro p e s m below meth c ls C hR hl
  generalize hae : ([.ref (α 0), .int v1, .long v2, .int v4, .int v5] : List Value).toArray = args at C ⊢
  have hl : lv_has ls 6 [(0, .ref (α 0)), (1, .int v1), (2, .long v2), (4, .int v4), (5, .int v5)] := hl
  obtain ⟨hx, hb, hml, hown, hts, hlk, hrt, hKs⟩ := id C
  have hS : va_S E.2.2.1 s.heap s.heap [] := va_S.rf
  unfold f_X10_bit at h
  refine lv_iload_n hx hb dX10_bit_0 rfl (lv_at hl 1 rfl) ?_
  refine lv_iconst (v := 4) hx hb dX10_bit_1 (by decide) ?_
  obtain ⟨r2, S3, hr2, h⟩ := bd_e h
  refine g_ci hS (g_runS C hR hS (As := [.int v1, .int (4 : Int32)]) (rest := []) (c_X10_below l  hr2) m_X10_below q377 ⟨rfl, rfl⟩ ⟨Nat.le_of_ble_eq_true rfl, Nat.le_of_ble_eq_true rfl⟩ rfl hl.1 rfl (Nat.le_of_ble_eq_true rfl) dX10_bit_2 ⟨Nat.zero_le _, Nat.zero_le _⟩) (fun H locs hR hS => ?_)
  refine lv_if_eq (tgt := 25) hx hb dX10_bit_5 (by decide) (fun c4 => ?_) (fun c4 => ?_)
  · have h := ite_t c4 h
    refine lv_bipush (v := -3) hx hb dX10_bit_25 (by decide) ?_
    exact g_iret C hR hS h dX10_bit_27
  · have h := ite_f c4 h
    refine lv_iload hx hb dX10_bit_8 (lv_at hl 3 rfl) ?_
    refine lv_iconst (v := 1) hx hb dX10_bit_10 (by decide) ?_
    refine lv_bipush (v := 16) hx hb dX10_bit_11 (by decide) ?_
    obtain ⟨r5, S6, hr5, h⟩ := bd_e h
    refine g_ci hS (g_runS C hR hS (As := [.int v4, .int (1 : Int32), .int (16 : Int32)]) (rest := []) (c_X10_within l  hr5) m_X10_within q374 ⟨rfl, rfl⟩ ⟨Nat.le_of_ble_eq_true rfl, Nat.le_of_ble_eq_true rfl⟩ rfl hl.1 rfl (Nat.le_of_ble_eq_true rfl) dX10_bit_13 ⟨Nat.zero_le _, Nat.zero_le _⟩) (fun H locs hR hS => ?_)
    refine lv_if_eq (tgt := 25) hx hb dX10_bit_16 (by decide) (fun c7 => ?_) (fun c7 => ?_)
    · have h := ite_t c7 h
      refine lv_bipush (v := -3) hx hb dX10_bit_25 (by decide) ?_
      exact g_iret C hR hS h dX10_bit_27
    · have h := ite_f c7 h
      refine lv_iload hx hb dX10_bit_19 (lv_at hl 4 rfl) ?_
      refine lv_iconst (v := -1) hx hb dX10_bit_21 (by decide) ?_
      refine lv_icmp_ge (tgt := 28) hx hb dX10_bit_22 (by decide) (fun c8 => ?_) (fun c8 => ?_)
      · have h := ite_t c8 h
        refine lv_aload_n hx hb dX10_bit_28 rfl (lv_at hl 0 rfl) ?_
        refine g_getr (t := 3) C hR (k := 0) (j := 1) (live_st (by decide)) rfl rfl (vw10) inl10 (by decide) q349 dX10_bit_29 ?_
        refine lv_iload_n hx hb dX10_bit_32 rfl (lv_at hl 1 rfl) ?_
        refine lv_lload_n hx hb dX10_bit_33 rfl (lv_at hl 2 rfl) ?_
        refine lv_iload hx hb dX10_bit_34 (lv_at hl 3 rfl) ?_
        obtain ⟨r9, S10, hr9, h⟩ := bd_e h
        refine g_cv hS (g_runV C hR hS (k := 3) (As := [.int v1, .long v2, .int v4]) (rest := []) (c_X6_weigh l  hr9) (live_st (by decide)) rfl (vw6) m_X6_weigh q462 ⟨rfl, rfl⟩ ⟨Nat.le_of_ble_eq_true rfl, Nat.le_of_ble_eq_true rfl⟩ rfl hl.1 rfl (Nat.le_of_ble_eq_true rfl) dX10_bit_36 ⟨Nat.zero_le _, Nat.zero_le _⟩) (fun H locs hR hS => ?_)
        refine lv_aload_n hx hb dX10_bit_39 rfl (lv_at hl 0 rfl) ?_
        refine g_getr (t := 3) C hR (k := 0) (j := 1) (live_st (by decide)) rfl rfl (vw10) inl10 (by decide) q349 dX10_bit_40 ?_
        obtain ⟨r11, S12, hr11, h⟩ := bd_e h
        refine g_cv hS (g_runV C hR hS (k := 3) (As := []) (rest := []) (c_X6_findFirst l  hr11) (live_st (by decide)) rfl (vw6) m_X6_findFirst q514 ⟨rfl, rfl⟩ ⟨Nat.le_of_ble_eq_true rfl, Nat.le_of_ble_eq_true rfl⟩ rfl hl.1 rfl (Nat.le_of_ble_eq_true rfl) dX10_bit_43 ⟨Nat.zero_le _, Nat.zero_le _⟩) (fun H locs hR hS => ?_)
        refine lv_aload_n hx hb dX10_bit_46 rfl (lv_at hl 0 rfl) ?_
        refine g_getr (t := 3) C hR (k := 0) (j := 1) (live_st (by decide)) rfl rfl (vw10) inl10 (by decide) q349 dX10_bit_47 ?_
        refine g_geti C hR (k := 3) (j := 17) (live_st (by decide)) rfl rfl (vw6) inl6 (by decide) q140 dX10_bit_50 ?_
        refine lv_if_ne (tgt := 58) hx hb dX10_bit_53 (by decide) (fun c13 => ?_) (fun c13 => ?_)
        · have h := ite_f c13 h
          refine lv_iload hx hb dX10_bit_58 (lv_at hl 4 rfl) ?_
          refine lv_iconst (v := -1) hx hb dX10_bit_60 (by decide) ?_
          refine lv_icmp_ne (tgt := 72) hx hb dX10_bit_61 (by decide) (fun c14 => ?_) (fun c14 => ?_)
          · have h := ite_f c14 h
            refine lv_iload hx hb dX10_bit_72 (lv_at hl 4 rfl) ?_
            refine lv_aload_n hx hb dX10_bit_74 rfl (lv_at hl 0 rfl) ?_
            refine g_getr (t := 3) C hR (k := 0) (j := 1) (live_st (by decide)) rfl rfl (vw10) inl10 (by decide) q349 dX10_bit_75 ?_
            refine g_geti C hR (k := 3) (j := 17) (live_st (by decide)) rfl rfl (vw6) inl6 (by decide) q140 dX10_bit_78 ?_
            refine lv_icmp_ge (tgt := 97) hx hb dX10_bit_81 (by decide) (fun c15 => ?_) (fun c15 => ?_)
            · have h := ite_t c15 h
              refine lv_iconst (v := -1) hx hb dX10_bit_97 (by decide) ?_
              exact g_iret C hR hS h dX10_bit_98
            · have h := ite_f c15 h
              refine lv_aload_n hx hb dX10_bit_84 rfl (lv_at hl 0 rfl) ?_
              refine g_getr (t := 3) C hR (k := 0) (j := 1) (live_st (by decide)) rfl rfl (vw10) inl10 (by decide) q349 dX10_bit_85 ?_
              refine g_getr (t := 13) C hR (k := 3) (j := 16) (live_st (by decide)) rfl rfl (vw6) inl6 (by decide) q139 dX10_bit_88 ?_
              refine lv_iload hx hb dX10_bit_91 (lv_at hl 4 rfl) ?_
              obtain ⟨g16, h⟩ := gd_e h
              refine g_iald C hR (k := 13) (n := 16) (live_st (by decide)) rfl g16 dX10_bit_93 ?_
              refine lv_goto (tgt := 98) hx hb dX10_bit_94 (by decide) ?_
              exact g_iret C hR hS h dX10_bit_98
          · have h := ite_t c14 h
            refine lv_aload_n hx hb dX10_bit_64 rfl (lv_at hl 0 rfl) ?_
            refine g_getr (t := 3) C hR (k := 0) (j := 1) (live_st (by decide)) rfl rfl (vw10) inl10 (by decide) q349 dX10_bit_65 ?_
            refine g_geti C hR (k := 3) (j := 17) (live_st (by decide)) rfl rfl (vw6) inl6 (by decide) q140 dX10_bit_68 ?_
            exact g_iret C hR hS h dX10_bit_71
        · have h := ite_t c13 h
          refine lv_iconst (v := -1) hx hb dX10_bit_56 (by decide) ?_
          exact g_iret C hR hS h dX10_bit_57
      · have h := ite_f c8 h
        refine lv_bipush (v := -3) hx hb dX10_bit_25 (by decide) ?_
        exact g_iret C hR hS h dX10_bit_27

/-! OneVoice.write(JI)I -/
abbrev rm_X10_write : Room := { frames := 1, cells := 0, slots := 0, locals := 24 }
theorem m_X10_write : MV yX10_write RX10 cX10_write 4 (some .int) 2 := ⟨q530, q531, q68, q532, by decide +kernel⟩
def f_X10_write (v1 : Int64) (v3 : Int32) (S : St) : Option (Int32 × St) :=
  bd_ (f_X10_within v3 (1 : Int32) (8 : Int32) S) fun r1 S2 =>
  if r1 = 0 then
    some ((-3 : Int32), S2)
  else
    if ((rd S2 20 1) + v3) ≤ (200 : Int32) then
      bd_ (f_X9_append v1 v3 S2) fun r5 S6 =>
      some (r5, S6)
    else
      some ((-5 : Int32), S2)

set_option maxHeartbeats 4000000 in
set_option maxRecDepth 100000 in
theorem c_X10_write (l : Launch) {E : En} {α : Nat → Nat} {g : Nat × Nat} {v1 : Int64} {v3 : Int32} {S : St}  {z : Int32 × St} (h : f_X10_write v1 v3 S = some z) : Met l yX10_write (wsY yX10_write cX10_write 4 (some .int)) rm_X10_write (va_Pc [.ref (α 0), .long v1, .int v3] (Wd E α g S)) (Qi E α g z) 0 0 E.2.2.1 := by
  refine g_met [.ref (α 0), .long v1, .int v3] (by decide) rfl (Nat.le_of_ble_eq_true rfl) ?_
  intro p e s m below meth c ls C hR hl
  generalize hae : ([.ref (α 0), .long v1, .int v3] : List Value).toArray = args at C ⊢
  have hl : lv_has ls 4 [(0, .ref (α 0)), (1, .long v1), (3, .int v3)] := hl
  obtain ⟨hx, hb, hml, hown, hts, hlk, hrt, hKs⟩ := id C
  have hS : va_S E.2.2.1 s.heap s.heap [] := va_S.rf
  unfold f_X10_write at h
  refine lv_iload_n hx hb dX10_write_0 rfl (lv_at hl 2 rfl) ?_
  refine lv_iconst (v := 1) hx hb dX10_write_1 (by decide) ?_
  refine lv_bipush (v := 8) hx hb dX10_write_2 (by decide) ?_
  obtain ⟨r1, S2, hr1, h⟩ := bd_e h
  refine g_ci hS (g_runS C hR hS (As := [.int v3, .int (1 : Int32), .int (8 : Int32)]) (rest := []) (c_X10_within l  hr1) m_X10_within q374 ⟨rfl, rfl⟩ ⟨Nat.le_of_ble_eq_true rfl, Nat.le_of_ble_eq_true rfl⟩ rfl hl.1 rfl (Nat.le_of_ble_eq_true rfl) dX10_write_4 ⟨Nat.zero_le _, Nat.zero_le _⟩) (fun H locs hR hS => ?_)
  refine lv_if_ne (tgt := 13) hx hb dX10_write_7 (by decide) (fun c3 => ?_) (fun c3 => ?_)
  · have h := ite_f c3 h
    refine lv_aload_n hx hb dX10_write_13 rfl (lv_at hl 0 rfl) ?_
    refine g_getr (t := 20) C hR (k := 0) (j := 3) (live_st (by decide)) rfl rfl (vw10) inl10 (by decide) q351 dX10_write_14 ?_
    refine g_geti C hR (k := 20) (j := 1) (live_st (by decide)) rfl rfl (vw9) inl9 (by decide) q252 dX10_write_17 ?_
    refine lv_iload_n hx hb dX10_write_20 rfl (lv_at hl 2 rfl) ?_
    refine lv_iadd hx hb dX10_write_21 ?_
    refine lv_sipush (v := 200) hx hb dX10_write_22 (by decide) ?_
    refine lv_icmp_le (tgt := 31) hx hb dX10_write_25 (by decide) (fun c4 => ?_) (fun c4 => ?_)
    · have h := ite_t c4 h
      refine lv_aload_n hx hb dX10_write_31 rfl (lv_at hl 0 rfl) ?_
      refine g_getr (t := 20) C hR (k := 0) (j := 3) (live_st (by decide)) rfl rfl (vw10) inl10 (by decide) q351 dX10_write_32 ?_
      refine lv_lload_n hx hb dX10_write_35 rfl (lv_at hl 1 rfl) ?_
      refine lv_iload_n hx hb dX10_write_36 rfl (lv_at hl 2 rfl) ?_
      obtain ⟨r5, S6, hr5, h⟩ := bd_e h
      refine g_ci hS (g_runV C hR hS (k := 20) (As := [.long v1, .int v3]) (rest := []) (c_X9_append l  hr5) (live_st (by decide)) rfl (vw9) m_X9_append q533 ⟨rfl, rfl⟩ ⟨Nat.le_of_ble_eq_true rfl, Nat.le_of_ble_eq_true rfl⟩ rfl hl.1 rfl (Nat.le_of_ble_eq_true rfl) dX10_write_37 ⟨Nat.zero_le _, Nat.zero_le _⟩) (fun H locs hR hS => ?_)
      exact g_iret C hR hS h dX10_write_40
    · have h := ite_f c4 h
      refine lv_bipush (v := -5) hx hb dX10_write_28 (by decide) ?_
      exact g_iret C hR hS h dX10_write_30
  · have h := ite_t c3 h
    refine lv_bipush (v := -3) hx hb dX10_write_10 (by decide) ?_
    exact g_iret C hR hS h dX10_write_12

/-! OneVoice.erase()I -/
abbrev rm_X10_erase : Room := { frames := 1, cells := 0, slots := 0, locals := 21 }
theorem m_X10_erase : MV yX10_erase RX10 cX10_erase 1 (some .int) 0 := ⟨q538, q539, q68, q540, by decide +kernel⟩
def f_X10_erase  (S : St) : Option (Int32 × St) :=
  bd_ (f_X9_empty  S) fun r1 S2 =>
  some (r1, S2)

set_option maxHeartbeats 4000000 in
set_option maxRecDepth 100000 in
theorem c_X10_erase (l : Launch) {E : En} {α : Nat → Nat} {g : Nat × Nat}  {S : St}  {z : Int32 × St} (h : f_X10_erase  S = some z) : Met l yX10_erase (wsY yX10_erase cX10_erase 1 (some .int)) rm_X10_erase (va_Pc [.ref (α 0)] (Wd E α g S)) (Qi E α g z) 0 0 E.2.2.1 := by
  refine g_met [.ref (α 0)] (by decide) rfl (Nat.le_of_ble_eq_true rfl) ?_
  intro p e s m below meth c ls C hR hl
  generalize hae : ([.ref (α 0)] : List Value).toArray = args at C ⊢
  have hl : lv_has ls 1 [(0, .ref (α 0))] := hl
  obtain ⟨hx, hb, hml, hown, hts, hlk, hrt, hKs⟩ := id C
  have hS : va_S E.2.2.1 s.heap s.heap [] := va_S.rf
  unfold f_X10_erase at h
  refine lv_aload_n hx hb dX10_erase_0 rfl (lv_at hl 0 rfl) ?_
  refine g_getr (t := 20) C hR (k := 0) (j := 3) (live_st (by decide)) rfl rfl (vw10) inl10 (by decide) q351 dX10_erase_1 ?_
  obtain ⟨r1, S2, hr1, h⟩ := bd_e h
  refine g_ci hS (g_runV C hR hS (k := 20) (As := []) (rest := []) (c_X9_empty l  hr1) (live_st (by decide)) rfl (vw9) m_X9_empty q541 ⟨rfl, rfl⟩ ⟨Nat.le_of_ble_eq_true rfl, Nat.le_of_ble_eq_true rfl⟩ rfl hl.1 rfl (Nat.le_of_ble_eq_true rfl) dX10_erase_4 ⟨Nat.zero_le _, Nat.zero_le _⟩) (fun H locs hR hS => ?_)
  exact g_iret C hR hS h dX10_erase_7

/-! OneVoice.follow(LOneVoice$Row;)V -/
abbrev rm_X10_follow : Room := { frames := 1, cells := 0, slots := 0, locals := 23 }
theorem m_X10_follow : MV yX10_follow RX10 cX10_follow 2 none 1 := ⟨q654, q17, q68, q655, by decide +kernel⟩
def f_X10_follow (n1 : Nat) (S : St) : Option (Unit × St) :=
  if (rd S (23 + n1) 0) = (0 : Int32) then
    bd_ (f_X1_tellWord n1 S) fun r3 S4 =>
    some ((), S4)
  else
  if (rd S (23 + n1) 0) = (1 : Int32) then
    bd_ (f_X1_tellLine n1 S) fun r6 S7 =>
    some ((), S7)
  else
  if (rd S (23 + n1) 0) = (2 : Int32) then
    lt_ (wr S 3 4 (rd S (23 + n1) 1)) fun S9 =>
    some ((), S9)
  else
  if (rd S (23 + n1) 0) = (3 : Int32) then
    bd_ (f_X7_join (rd S (23 + n1) 1) (rd S (33 + n1) (Int32.toNatClampNeg (0 : Int32))) S) fun r11 S12 =>
    some ((), S12)
  else
  if (rd S (23 + n1) 0) = (4 : Int32) then
    bd_ (f_X7_part (rd S (23 + n1) 1) (rd S (33 + n1) (Int32.toNatClampNeg (0 : Int32))) S) fun r14 S15 =>
    some ((), S15)
  else
  some ((), S)

set_option maxHeartbeats 4000000 in
set_option maxRecDepth 100000 in
theorem c_X10_follow (l : Launch) {E : En} {α : Nat → Nat} {g : Nat × Nat} {n1 : Nat} {S : St} (hn1 : n1 < 10) {z : Unit × St} (h : f_X10_follow n1 S = some z) : Met l yX10_follow (wsY yX10_follow cX10_follow 2 none) rm_X10_follow (va_Pc [.ref (α 0), .ref (α (23 + n1))] (Wd E α g S)) (Qv E α g z) 0 0 E.2.2.1 := by
  refine g_met [.ref (α 0), .ref (α (23 + n1))] (by decide) rfl (Nat.le_of_ble_eq_true rfl) ?_
  intro p e s m below meth c ls C hR hl
  generalize hae : ([.ref (α 0), .ref (α (23 + n1))] : List Value).toArray = args at C ⊢
  have hl : lv_has ls 2 [(0, .ref (α 0)), (1, .ref (α (23 + n1)))] := hl
  obtain ⟨hx, hb, hml, hown, hts, hlk, hrt, hKs⟩ := id C
  have hS : va_S E.2.2.1 s.heap s.heap [] := va_S.rf
  unfold f_X10_follow at h
  refine lv_aload_n hx hb dX10_follow_0 rfl (lv_at hl 1 rfl) ?_
  refine g_geti C hR (k := (23 + n1)) (j := 0) (live_r hn1) (lay_r hn1) rfl (vw5) inl5 (by decide) q231 dX10_follow_1 ?_
  by_cases c2 : (rd S (23 + n1) 0) = (0 : Int32)
  · have h := ite_t c2 h
    refine lv_tableIn (off := 36) (tgt := 40) hx hb dX10_follow_4 (by rw [c2]; decide) (by rw [c2]; decide) (by rw [c2]; rfl) (by decide) ?_
    refine lv_aload_n hx hb dX10_follow_40 rfl (lv_at hl 0 rfl) ?_
    refine g_getr (t := 14) C hR (k := 0) (j := 2) (live_st (by decide)) rfl rfl (vw10) inl10 (by decide) q350 dX10_follow_41 ?_
    refine lv_aload_n hx hb dX10_follow_44 rfl (lv_at hl 1 rfl) ?_
    obtain ⟨r3, S4, hr3, h⟩ := bd_e h
    refine g_cv hS (g_runV C hR hS (k := 14) (As := [.ref (α (23 + n1))]) (rest := []) (c_X1_tellWord l hn1 hr3) (live_st (by decide)) rfl (vw1) m_X1_tellWord q656 ⟨rfl, rfl⟩ ⟨Nat.le_of_ble_eq_true rfl, Nat.le_of_ble_eq_true rfl⟩ rfl hl.1 rfl (Nat.le_of_ble_eq_true rfl) dX10_follow_45 ⟨Nat.zero_le _, Nat.zero_le _⟩) (fun H locs hR hS => ?_)
    refine lv_goto (tgt := 116) hx hb dX10_follow_48 (by decide) ?_
    exact g_vret C hR hS h dX10_follow_116
  have h := ite_f c2 h
  by_cases c5 : (rd S (23 + n1) 0) = (1 : Int32)
  · have h := ite_t c5 h
    refine lv_tableIn (off := 47) (tgt := 51) hx hb dX10_follow_4 (by rw [c5]; decide) (by rw [c5]; decide) (by rw [c5]; rfl) (by decide) ?_
    refine lv_aload_n hx hb dX10_follow_51 rfl (lv_at hl 0 rfl) ?_
    refine g_getr (t := 14) C hR (k := 0) (j := 2) (live_st (by decide)) rfl rfl (vw10) inl10 (by decide) q350 dX10_follow_52 ?_
    refine lv_aload_n hx hb dX10_follow_55 rfl (lv_at hl 1 rfl) ?_
    obtain ⟨r6, S7, hr6, h⟩ := bd_e h
    refine g_cv hS (g_runV C hR hS (k := 14) (As := [.ref (α (23 + n1))]) (rest := []) (c_X1_tellLine l hn1 hr6) (live_st (by decide)) rfl (vw1) m_X1_tellLine q660 ⟨rfl, rfl⟩ ⟨Nat.le_of_ble_eq_true rfl, Nat.le_of_ble_eq_true rfl⟩ rfl hl.1 rfl (Nat.le_of_ble_eq_true rfl) dX10_follow_56 ⟨Nat.zero_le _, Nat.zero_le _⟩) (fun H locs hR hS => ?_)
    refine lv_goto (tgt := 116) hx hb dX10_follow_59 (by decide) ?_
    exact g_vret C hR hS h dX10_follow_116
  have h := ite_f c5 h
  by_cases c8 : (rd S (23 + n1) 0) = (2 : Int32)
  · have h := ite_t c8 h
    refine lv_tableIn (off := 58) (tgt := 62) hx hb dX10_follow_4 (by rw [c8]; decide) (by rw [c8]; decide) (by rw [c8]; rfl) (by decide) ?_
    refine lv_aload_n hx hb dX10_follow_62 rfl (lv_at hl 0 rfl) ?_
    refine g_getr (t := 3) C hR (k := 0) (j := 1) (live_st (by decide)) rfl rfl (vw10) inl10 (by decide) q349 dX10_follow_63 ?_
    refine lv_aload_n hx hb dX10_follow_66 rfl (lv_at hl 1 rfl) ?_
    refine g_geti C hR (k := (23 + n1)) (j := 1) (live_r hn1) (lay_r hn1) rfl (vw5) inl5 (by decide) q234 dX10_follow_67 ?_
    obtain ⟨S9, eS9, h⟩ := lt_e h
    refine g_puti C hR hS (k := 3) (j := 4) (live_st (by decide)) rfl rfl (vw6) inl6 (by decide) (ty0 := tyX6) tyX6_ok nmX6 q125 rfl rfl rfl eS9 dX10_follow_70 (fun H locs hR hS => ?_)
    refine lv_goto (tgt := 116) hx hb dX10_follow_73 (by decide) ?_
    exact g_vret C hR hS h dX10_follow_116
  have h := ite_f c8 h
  by_cases c10 : (rd S (23 + n1) 0) = (3 : Int32)
  · have h := ite_t c10 h
    refine lv_tableIn (off := 72) (tgt := 76) hx hb dX10_follow_4 (by rw [c10]; decide) (by rw [c10]; decide) (by rw [c10]; rfl) (by decide) ?_
    refine lv_aload_n hx hb dX10_follow_76 rfl (lv_at hl 0 rfl) ?_
    refine g_getr (t := 43) C hR (k := 0) (j := 4) (live_st (by decide)) rfl rfl (vw10) inl10 (by decide) q352 dX10_follow_77 ?_
    refine lv_aload_n hx hb dX10_follow_80 rfl (lv_at hl 1 rfl) ?_
    refine g_geti C hR (k := (23 + n1)) (j := 1) (live_r hn1) (lay_r hn1) rfl (vw5) inl5 (by decide) q234 dX10_follow_81 ?_
    refine lv_aload_n hx hb dX10_follow_84 rfl (lv_at hl 1 rfl) ?_
    refine g_getr (t := (33 + n1)) C hR (k := (23 + n1)) (j := 2) (live_r hn1) (lay_r hn1) rfl (vw5) inl5 (by decide) q238 dX10_follow_85 ?_
    refine lv_iconst (v := 0) hx hb dX10_follow_88 (by decide) ?_
    refine g_iald C hR (k := (33 + n1)) (n := 8) (live_ri hn1) (lay_ri hn1) (show inb (0 : Int32) 8 by decide) dX10_follow_89 ?_
    obtain ⟨r11, S12, hr11, h⟩ := bd_e h
    refine g_cv hS (g_runV C hR hS (k := 43) (As := [.int (rd S (23 + n1) 1), .int (rd S (33 + n1) (Int32.toNatClampNeg (0 : Int32)))]) (rest := []) (c_X7_join l  hr11) (live_st (by decide)) rfl (vw7) m_X7_join q664 ⟨rfl, rfl⟩ ⟨Nat.le_of_ble_eq_true rfl, Nat.le_of_ble_eq_true rfl⟩ rfl hl.1 rfl (Nat.le_of_ble_eq_true rfl) dX10_follow_90 ⟨Nat.zero_le _, Nat.zero_le _⟩) (fun H locs hR hS => ?_)
    refine lv_goto (tgt := 116) hx hb dX10_follow_93 (by decide) ?_
    exact g_vret C hR hS h dX10_follow_116
  have h := ite_f c10 h
  by_cases c13 : (rd S (23 + n1) 0) = (4 : Int32)
  · have h := ite_t c13 h
    refine lv_tableIn (off := 92) (tgt := 96) hx hb dX10_follow_4 (by rw [c13]; decide) (by rw [c13]; decide) (by rw [c13]; rfl) (by decide) ?_
    refine lv_aload_n hx hb dX10_follow_96 rfl (lv_at hl 0 rfl) ?_
    refine g_getr (t := 43) C hR (k := 0) (j := 4) (live_st (by decide)) rfl rfl (vw10) inl10 (by decide) q352 dX10_follow_97 ?_
    refine lv_aload_n hx hb dX10_follow_100 rfl (lv_at hl 1 rfl) ?_
    refine g_geti C hR (k := (23 + n1)) (j := 1) (live_r hn1) (lay_r hn1) rfl (vw5) inl5 (by decide) q234 dX10_follow_101 ?_
    refine lv_aload_n hx hb dX10_follow_104 rfl (lv_at hl 1 rfl) ?_
    refine g_getr (t := (33 + n1)) C hR (k := (23 + n1)) (j := 2) (live_r hn1) (lay_r hn1) rfl (vw5) inl5 (by decide) q238 dX10_follow_105 ?_
    refine lv_iconst (v := 0) hx hb dX10_follow_108 (by decide) ?_
    refine g_iald C hR (k := (33 + n1)) (n := 8) (live_ri hn1) (lay_ri hn1) (show inb (0 : Int32) 8 by decide) dX10_follow_109 ?_
    obtain ⟨r14, S15, hr14, h⟩ := bd_e h
    refine g_cv hS (g_runV C hR hS (k := 43) (As := [.int (rd S (23 + n1) 1), .int (rd S (33 + n1) (Int32.toNatClampNeg (0 : Int32)))]) (rest := []) (c_X7_part l  hr14) (live_st (by decide)) rfl (vw7) m_X7_part q668 ⟨rfl, rfl⟩ ⟨Nat.le_of_ble_eq_true rfl, Nat.le_of_ble_eq_true rfl⟩ rfl hl.1 rfl (Nat.le_of_ble_eq_true rfl) dX10_follow_110 ⟨Nat.zero_le _, Nat.zero_le _⟩) (fun H locs hR hS => ?_)
    refine lv_goto (tgt := 116) hx hb dX10_follow_113 (by decide) ?_
    exact g_vret C hR hS h dX10_follow_116
  have h := ite_f c13 h
  have c2 := tsw_ne (k := 0) c2 (by decide)
  have c5 := tsw_ne (k := 1) c5 (by decide)
  have c8 := tsw_ne (k := 2) c8 (by decide)
  have c10 := tsw_ne (k := 3) c10 (by decide)
  have c13 := tsw_ne (k := 4) c13 (by decide)
  refine lv_tableOut (tgt := 116) hx hb dX10_follow_4 (by omega) (by decide) ?_
  exact g_vret C hR hS h dX10_follow_116

/-! OneVoice.word(II)I -/
abbrev rm_X10_word : Room := { frames := 1, cells := 0, slots := 0, locals := 22 }
theorem m_X10_word : MV yX10_word RX10 cX10_word 3 (some .int) 2 := ⟨q673, q674, q68, q675, by decide +kernel⟩
def f_X10_word (v1 : Int32) (v2 : Int32) (S : St) : Option (Int32 × St) :=
  bd_ (f_X10_below v1 (32 : Int32) S) fun r3 S4 =>
  if r3 = 0 then
    some ((-2 : Int32), S4)
  else
    if (-1 : Int32) ≤ v2 then
      if v2 = (-1 : Int32) then
        gd_ (inb v1 32) <|
        some ((rd S4 16 (Int32.toNatClampNeg v1)), S4)
      else
        gd_ (inb v1 32) <|
        if (rd S4 16 (Int32.toNatClampNeg v1)) ≤ v2 then
          some ((-1 : Int32), S4)
        else
          bd_ (f_X1_soundOf v1 v2 S4) fun r10 S11 =>
          some (r10, S11)
    else
      some ((-3 : Int32), S4)

set_option maxHeartbeats 4000000 in
set_option maxRecDepth 100000 in
theorem c_X10_word (l : Launch) {E : En} {α : Nat → Nat} {g : Nat × Nat} {v1 : Int32} {v2 : Int32} {S : St}  {z : Int32 × St} (h : f_X10_word v1 v2 S = some z) : Met l yX10_word (wsY yX10_word cX10_word 3 (some .int)) rm_X10_word (va_Pc [.ref (α 0), .int v1, .int v2] (Wd E α g S)) (Qi E α g z) 0 0 E.2.2.1 := by
  refine g_met [.ref (α 0), .int v1, .int v2] (by decide) rfl (Nat.le_of_ble_eq_true rfl) ?_
  intro p e s m below meth c ls C hR hl
  generalize hae : ([.ref (α 0), .int v1, .int v2] : List Value).toArray = args at C ⊢
  have hl : lv_has ls 3 [(0, .ref (α 0)), (1, .int v1), (2, .int v2)] := hl
  obtain ⟨hx, hb, hml, hown, hts, hlk, hrt, hKs⟩ := id C
  have hS : va_S E.2.2.1 s.heap s.heap [] := va_S.rf
  unfold f_X10_word at h
  refine lv_iload_n hx hb dX10_word_0 rfl (lv_at hl 1 rfl) ?_
  refine lv_bipush (v := 32) hx hb dX10_word_1 (by decide) ?_
  obtain ⟨r3, S4, hr3, h⟩ := bd_e h
  refine g_ci hS (g_runS C hR hS (As := [.int v1, .int (32 : Int32)]) (rest := []) (c_X10_below l  hr3) m_X10_below q377 ⟨rfl, rfl⟩ ⟨Nat.le_of_ble_eq_true rfl, Nat.le_of_ble_eq_true rfl⟩ rfl hl.1 rfl (Nat.le_of_ble_eq_true rfl) dX10_word_3 ⟨Nat.zero_le _, Nat.zero_le _⟩) (fun H locs hR hS => ?_)
  refine lv_if_ne (tgt := 12) hx hb dX10_word_6 (by decide) (fun c5 => ?_) (fun c5 => ?_)
  · have h := ite_f c5 h
    refine lv_iload_n hx hb dX10_word_12 rfl (lv_at hl 2 rfl) ?_
    refine lv_iconst (v := -1) hx hb dX10_word_13 (by decide) ?_
    refine lv_icmp_ge (tgt := 20) hx hb dX10_word_14 (by decide) (fun c6 => ?_) (fun c6 => ?_)
    · have h := ite_t c6 h
      refine lv_iload_n hx hb dX10_word_20 rfl (lv_at hl 2 rfl) ?_
      refine lv_iconst (v := -1) hx hb dX10_word_21 (by decide) ?_
      refine lv_icmp_ne (tgt := 35) hx hb dX10_word_22 (by decide) (fun c7 => ?_) (fun c7 => ?_)
      · have h := ite_f c7 h
        refine lv_iload_n hx hb dX10_word_35 rfl (lv_at hl 2 rfl) ?_
        refine lv_aload_n hx hb dX10_word_36 rfl (lv_at hl 0 rfl) ?_
        refine g_getr (t := 14) C hR (k := 0) (j := 2) (live_st (by decide)) rfl rfl (vw10) inl10 (by decide) q350 dX10_word_37 ?_
        refine g_getr (t := 16) C hR (k := 14) (j := 1) (live_st (by decide)) rfl rfl (vw1) inl1 (by decide) q192 dX10_word_40 ?_
        refine lv_iload_n hx hb dX10_word_43 rfl (lv_at hl 1 rfl) ?_
        obtain ⟨g8, h⟩ := gd_e h
        refine g_iald C hR (k := 16) (n := 32) (live_st (by decide)) rfl g8 dX10_word_44 ?_
        refine lv_icmp_ge (tgt := 60) hx hb dX10_word_45 (by decide) (fun c9 => ?_) (fun c9 => ?_)
        · have h := ite_t c9 h
          refine lv_iconst (v := -1) hx hb dX10_word_60 (by decide) ?_
          exact g_iret C hR hS h dX10_word_61
        · have h := ite_f c9 h
          refine lv_aload_n hx hb dX10_word_48 rfl (lv_at hl 0 rfl) ?_
          refine g_getr (t := 14) C hR (k := 0) (j := 2) (live_st (by decide)) rfl rfl (vw10) inl10 (by decide) q350 dX10_word_49 ?_
          refine lv_iload_n hx hb dX10_word_52 rfl (lv_at hl 1 rfl) ?_
          refine lv_iload_n hx hb dX10_word_53 rfl (lv_at hl 2 rfl) ?_
          obtain ⟨r10, S11, hr10, h⟩ := bd_e h
          refine g_ci hS (g_runV C hR hS (k := 14) (As := [.int v1, .int v2]) (rest := []) (c_X1_soundOf l  hr10) (live_st (by decide)) rfl (vw1) m_X1_soundOf q676 ⟨rfl, rfl⟩ ⟨Nat.le_of_ble_eq_true rfl, Nat.le_of_ble_eq_true rfl⟩ rfl hl.1 rfl (Nat.le_of_ble_eq_true rfl) dX10_word_54 ⟨Nat.zero_le _, Nat.zero_le _⟩) (fun H locs hR hS => ?_)
          refine lv_goto (tgt := 61) hx hb dX10_word_57 (by decide) ?_
          exact g_iret C hR hS h dX10_word_61
      · have h := ite_t c7 h
        refine lv_aload_n hx hb dX10_word_25 rfl (lv_at hl 0 rfl) ?_
        refine g_getr (t := 14) C hR (k := 0) (j := 2) (live_st (by decide)) rfl rfl (vw10) inl10 (by decide) q350 dX10_word_26 ?_
        refine g_getr (t := 16) C hR (k := 14) (j := 1) (live_st (by decide)) rfl rfl (vw1) inl1 (by decide) q192 dX10_word_29 ?_
        refine lv_iload_n hx hb dX10_word_32 rfl (lv_at hl 1 rfl) ?_
        obtain ⟨g12, h⟩ := gd_e h
        refine g_iald C hR (k := 16) (n := 32) (live_st (by decide)) rfl g12 dX10_word_33 ?_
        exact g_iret C hR hS h dX10_word_34
    · have h := ite_f c6 h
      refine lv_bipush (v := -3) hx hb dX10_word_17 (by decide) ?_
      exact g_iret C hR hS h dX10_word_19
  · have h := ite_t c5 h
    refine lv_bipush (v := -2) hx hb dX10_word_9 (by decide) ?_
    exact g_iret C hR hS h dX10_word_11

/-! OneVoice.line(III)I -/
abbrev rm_X10_line : Room := { frames := 3, cells := 0, slots := 0, locals := 66 }
theorem m_X10_line : MV yX10_line RX10 cX10_line 4 (some .int) 3 := ⟨q681, q682, q68, q683, by decide +kernel⟩
def f_X10_line (v1 : Int32) (v2 : Int32) (v3 : Int32) (S : St) : Option (Int32 × St) :=
  bd_ (f_X1_knows v1 S) fun r1 S2 =>
  if r1 = 0 then
    some ((-2 : Int32), S2)
  else
    bd_ (f_X10_below v2 (100 : Int32) S2) fun r4 S5 =>
    if r4 = 0 then
      some ((-3 : Int32), S5)
    else
      if (-1 : Int32) ≤ v3 then
        bd_ (f_X1_spell v1 v2 S5) fun r8 S9 =>
        if r8 = 0 then
          some ((-4 : Int32), S9)
        else
          if v3 = (-1 : Int32) then
            bd_ (f_X1_spokenLength  S9) fun r14 S15 =>
            some (r14, S15)
          else
            bd_ (f_X1_spokenSound v3 S9) fun r12 S13 =>
            some (r12, S13)
      else
        some ((-3 : Int32), S5)

set_option maxHeartbeats 4000000 in
set_option maxRecDepth 100000 in
theorem c_X10_line (l : Launch) {E : En} {α : Nat → Nat} {g : Nat × Nat} {v1 : Int32} {v2 : Int32} {v3 : Int32} {S : St}  {z : Int32 × St} (h : f_X10_line v1 v2 v3 S = some z) : Met l yX10_line (wsY yX10_line cX10_line 4 (some .int)) rm_X10_line (va_Pc [.ref (α 0), .int v1, .int v2, .int v3] (Wd E α g S)) (Qi E α g z) 0 0 E.2.2.1 := by
  refine g_met [.ref (α 0), .int v1, .int v2, .int v3] (by decide) rfl (Nat.le_of_ble_eq_true rfl) ?_
  intro p e s m below meth c ls C hR hl
  generalize hae : ([.ref (α 0), .int v1, .int v2, .int v3] : List Value).toArray = args at C ⊢
  have hl : lv_has ls 4 [(0, .ref (α 0)), (1, .int v1), (2, .int v2), (3, .int v3)] := hl
  obtain ⟨hx, hb, hml, hown, hts, hlk, hrt, hKs⟩ := id C
  have hS : va_S E.2.2.1 s.heap s.heap [] := va_S.rf
  unfold f_X10_line at h
  refine lv_aload_n hx hb dX10_line_0 rfl (lv_at hl 0 rfl) ?_
  refine g_getr (t := 14) C hR (k := 0) (j := 2) (live_st (by decide)) rfl rfl (vw10) inl10 (by decide) q350 dX10_line_1 ?_
  refine lv_iload_n hx hb dX10_line_4 rfl (lv_at hl 1 rfl) ?_
  obtain ⟨r1, S2, hr1, h⟩ := bd_e h
  refine g_ci hS (g_runV C hR hS (k := 14) (As := [.int v1]) (rest := []) (c_X1_knows l  hr1) (live_st (by decide)) rfl (vw1) m_X1_knows q684 ⟨rfl, rfl⟩ ⟨Nat.le_of_ble_eq_true rfl, Nat.le_of_ble_eq_true rfl⟩ rfl hl.1 rfl (Nat.le_of_ble_eq_true rfl) dX10_line_5 ⟨Nat.zero_le _, Nat.zero_le _⟩) (fun H locs hR hS => ?_)
  refine lv_if_ne (tgt := 14) hx hb dX10_line_8 (by decide) (fun c3 => ?_) (fun c3 => ?_)
  · have h := ite_f c3 h
    refine lv_iload_n hx hb dX10_line_14 rfl (lv_at hl 2 rfl) ?_
    refine lv_bipush (v := 100) hx hb dX10_line_15 (by decide) ?_
    obtain ⟨r4, S5, hr4, h⟩ := bd_e h
    refine g_ci hS (g_runS C hR hS (As := [.int v2, .int (100 : Int32)]) (rest := []) (c_X10_below l  hr4) m_X10_below q377 ⟨rfl, rfl⟩ ⟨Nat.le_of_ble_eq_true rfl, Nat.le_of_ble_eq_true rfl⟩ rfl hl.1 rfl (Nat.le_of_ble_eq_true rfl) dX10_line_17 ⟨Nat.zero_le _, Nat.zero_le _⟩) (fun H locs hR hS => ?_)
    refine lv_if_eq (tgt := 28) hx hb dX10_line_20 (by decide) (fun c6 => ?_) (fun c6 => ?_)
    · have h := ite_t c6 h
      refine lv_bipush (v := -3) hx hb dX10_line_28 (by decide) ?_
      exact g_iret C hR hS h dX10_line_30
    · have h := ite_f c6 h
      refine lv_iload_n hx hb dX10_line_23 rfl (lv_at hl 3 rfl) ?_
      refine lv_iconst (v := -1) hx hb dX10_line_24 (by decide) ?_
      refine lv_icmp_ge (tgt := 31) hx hb dX10_line_25 (by decide) (fun c7 => ?_) (fun c7 => ?_)
      · have h := ite_t c7 h
        refine lv_aload_n hx hb dX10_line_31 rfl (lv_at hl 0 rfl) ?_
        refine g_getr (t := 14) C hR (k := 0) (j := 2) (live_st (by decide)) rfl rfl (vw10) inl10 (by decide) q350 dX10_line_32 ?_
        refine lv_iload_n hx hb dX10_line_35 rfl (lv_at hl 1 rfl) ?_
        refine lv_iload_n hx hb dX10_line_36 rfl (lv_at hl 2 rfl) ?_
        obtain ⟨r8, S9, hr8, h⟩ := bd_e h
        refine g_ci hS (g_runV C hR hS (k := 14) (As := [.int v1, .int v2]) (rest := []) (c_X1_spell l  hr8) (live_st (by decide)) rfl (vw1) m_X1_spell q689 ⟨rfl, rfl⟩ ⟨Nat.le_of_ble_eq_true rfl, Nat.le_of_ble_eq_true rfl⟩ rfl hl.1 rfl (Nat.le_of_ble_eq_true rfl) dX10_line_37 ⟨Nat.zero_le _, Nat.zero_le _⟩) (fun H locs hR hS => ?_)
        refine lv_if_ne (tgt := 46) hx hb dX10_line_40 (by decide) (fun c10 => ?_) (fun c10 => ?_)
        · have h := ite_f c10 h
          refine lv_iload_n hx hb dX10_line_46 rfl (lv_at hl 3 rfl) ?_
          refine lv_iconst (v := -1) hx hb dX10_line_47 (by decide) ?_
          refine lv_icmp_ne (tgt := 61) hx hb dX10_line_48 (by decide) (fun c11 => ?_) (fun c11 => ?_)
          · have h := ite_f c11 h
            refine lv_aload_n hx hb dX10_line_61 rfl (lv_at hl 0 rfl) ?_
            refine g_getr (t := 14) C hR (k := 0) (j := 2) (live_st (by decide)) rfl rfl (vw10) inl10 (by decide) q350 dX10_line_62 ?_
            refine lv_iload_n hx hb dX10_line_65 rfl (lv_at hl 3 rfl) ?_
            obtain ⟨r12, S13, hr12, h⟩ := bd_e h
            refine g_ci hS (g_runV C hR hS (k := 14) (As := [.int v3]) (rest := []) (c_X1_spokenSound l  hr12) (live_st (by decide)) rfl (vw1) m_X1_spokenSound q705 ⟨rfl, rfl⟩ ⟨Nat.le_of_ble_eq_true rfl, Nat.le_of_ble_eq_true rfl⟩ rfl hl.1 rfl (Nat.le_of_ble_eq_true rfl) dX10_line_66 ⟨Nat.zero_le _, Nat.zero_le _⟩) (fun H locs hR hS => ?_)
            exact g_iret C hR hS h dX10_line_69
          · have h := ite_t c11 h
            refine lv_aload_n hx hb dX10_line_51 rfl (lv_at hl 0 rfl) ?_
            refine g_getr (t := 14) C hR (k := 0) (j := 2) (live_st (by decide)) rfl rfl (vw10) inl10 (by decide) q350 dX10_line_52 ?_
            obtain ⟨r14, S15, hr14, h⟩ := bd_e h
            refine g_ci hS (g_runV C hR hS (k := 14) (As := []) (rest := []) (c_X1_spokenLength l  hr14) (live_st (by decide)) rfl (vw1) m_X1_spokenLength q701 ⟨rfl, rfl⟩ ⟨Nat.le_of_ble_eq_true rfl, Nat.le_of_ble_eq_true rfl⟩ rfl hl.1 rfl (Nat.le_of_ble_eq_true rfl) dX10_line_55 ⟨Nat.zero_le _, Nat.zero_le _⟩) (fun H locs hR hS => ?_)
            refine lv_goto (tgt := 69) hx hb dX10_line_58 (by decide) ?_
            exact g_iret C hR hS h dX10_line_69
        · have h := ite_t c10 h
          refine lv_bipush (v := -4) hx hb dX10_line_43 (by decide) ?_
          exact g_iret C hR hS h dX10_line_45
      · have h := ite_f c7 h
        refine lv_bipush (v := -3) hx hb dX10_line_28 (by decide) ?_
        exact g_iret C hR hS h dX10_line_30
  · have h := ite_t c3 h
    refine lv_bipush (v := -2) hx hb dX10_line_11 (by decide) ?_
    exact g_iret C hR hS h dX10_line_13

/-! OneVoice.jar(III)I -/
abbrev rm_X10_jar : Room := { frames := 4, cells := 0, slots := 0, locals := 103 }
theorem m_X10_jar : MV yX10_jar RX10 cX10_jar 4 (some .int) 3 := ⟨q711, q712, q68, q713, by decide +kernel⟩
def f_X10_jar (v1 : Int32) (v2 : Int32) (v3 : Int32) (S : St) : Option (Int32 × St) :=
  bd_ (f_X1_knows v1 S) fun r1 S2 =>
  if r1 = 0 then
    some ((-2 : Int32), S2)
  else
    bd_ (f_X10_below v2 (100 : Int32) S2) fun r4 S5 =>
    if r4 = 0 then
      some ((-3 : Int32), S5)
    else
      bd_ (f_X10_below v3 (4 : Int32) S5) fun r7 S8 =>
      if r7 = 0 then
        some ((-3 : Int32), S8)
      else
        bd_ (f_X1_spell v1 v2 S8) fun r10 S11 =>
        if r10 = 0 then
          some ((-4 : Int32), S11)
        else
          bd_ (f_X6_jarOfWords v3 S11) fun r13 S14 =>
          some (r13, S14)

set_option maxHeartbeats 4000000 in
set_option maxRecDepth 100000 in
theorem c_X10_jar (l : Launch) {E : En} {α : Nat → Nat} {g : Nat × Nat} {v1 : Int32} {v2 : Int32} {v3 : Int32} {S : St}  {z : Int32 × St} (h : f_X10_jar v1 v2 v3 S = some z) : Met l yX10_jar (wsY yX10_jar cX10_jar 4 (some .int)) rm_X10_jar (va_Pc [.ref (α 0), .int v1, .int v2, .int v3] (Wd E α g S)) (Qi E α g z) 0 0 E.2.2.1 := by
  refine g_met [.ref (α 0), .int v1, .int v2, .int v3] (by decide) rfl (Nat.le_of_ble_eq_true rfl) ?_
  intro p e s m below meth c ls C hR hl
  generalize hae : ([.ref (α 0), .int v1, .int v2, .int v3] : List Value).toArray = args at C ⊢
  have hl : lv_has ls 4 [(0, .ref (α 0)), (1, .int v1), (2, .int v2), (3, .int v3)] := hl
  obtain ⟨hx, hb, hml, hown, hts, hlk, hrt, hKs⟩ := id C
  have hS : va_S E.2.2.1 s.heap s.heap [] := va_S.rf
  unfold f_X10_jar at h
  refine lv_aload_n hx hb dX10_jar_0 rfl (lv_at hl 0 rfl) ?_
  refine g_getr (t := 14) C hR (k := 0) (j := 2) (live_st (by decide)) rfl rfl (vw10) inl10 (by decide) q350 dX10_jar_1 ?_
  refine lv_iload_n hx hb dX10_jar_4 rfl (lv_at hl 1 rfl) ?_
  obtain ⟨r1, S2, hr1, h⟩ := bd_e h
  refine g_ci hS (g_runV C hR hS (k := 14) (As := [.int v1]) (rest := []) (c_X1_knows l  hr1) (live_st (by decide)) rfl (vw1) m_X1_knows q684 ⟨rfl, rfl⟩ ⟨Nat.le_of_ble_eq_true rfl, Nat.le_of_ble_eq_true rfl⟩ rfl hl.1 rfl (Nat.le_of_ble_eq_true rfl) dX10_jar_5 ⟨Nat.zero_le _, Nat.zero_le _⟩) (fun H locs hR hS => ?_)
  refine lv_if_ne (tgt := 14) hx hb dX10_jar_8 (by decide) (fun c3 => ?_) (fun c3 => ?_)
  · have h := ite_f c3 h
    refine lv_iload_n hx hb dX10_jar_14 rfl (lv_at hl 2 rfl) ?_
    refine lv_bipush (v := 100) hx hb dX10_jar_15 (by decide) ?_
    obtain ⟨r4, S5, hr4, h⟩ := bd_e h
    refine g_ci hS (g_runS C hR hS (As := [.int v2, .int (100 : Int32)]) (rest := []) (c_X10_below l  hr4) m_X10_below q377 ⟨rfl, rfl⟩ ⟨Nat.le_of_ble_eq_true rfl, Nat.le_of_ble_eq_true rfl⟩ rfl hl.1 rfl (Nat.le_of_ble_eq_true rfl) dX10_jar_17 ⟨Nat.zero_le _, Nat.zero_le _⟩) (fun H locs hR hS => ?_)
    refine lv_if_eq (tgt := 31) hx hb dX10_jar_20 (by decide) (fun c6 => ?_) (fun c6 => ?_)
    · have h := ite_t c6 h
      refine lv_bipush (v := -3) hx hb dX10_jar_31 (by decide) ?_
      exact g_iret C hR hS h dX10_jar_33
    · have h := ite_f c6 h
      refine lv_iload_n hx hb dX10_jar_23 rfl (lv_at hl 3 rfl) ?_
      refine lv_iconst (v := 4) hx hb dX10_jar_24 (by decide) ?_
      obtain ⟨r7, S8, hr7, h⟩ := bd_e h
      refine g_ci hS (g_runS C hR hS (As := [.int v3, .int (4 : Int32)]) (rest := []) (c_X10_below l  hr7) m_X10_below q377 ⟨rfl, rfl⟩ ⟨Nat.le_of_ble_eq_true rfl, Nat.le_of_ble_eq_true rfl⟩ rfl hl.1 rfl (Nat.le_of_ble_eq_true rfl) dX10_jar_25 ⟨Nat.zero_le _, Nat.zero_le _⟩) (fun H locs hR hS => ?_)
      refine lv_if_ne (tgt := 34) hx hb dX10_jar_28 (by decide) (fun c9 => ?_) (fun c9 => ?_)
      · have h := ite_f c9 h
        refine lv_aload_n hx hb dX10_jar_34 rfl (lv_at hl 0 rfl) ?_
        refine g_getr (t := 14) C hR (k := 0) (j := 2) (live_st (by decide)) rfl rfl (vw10) inl10 (by decide) q350 dX10_jar_35 ?_
        refine lv_iload_n hx hb dX10_jar_38 rfl (lv_at hl 1 rfl) ?_
        refine lv_iload_n hx hb dX10_jar_39 rfl (lv_at hl 2 rfl) ?_
        obtain ⟨r10, S11, hr10, h⟩ := bd_e h
        refine g_ci hS (g_runV C hR hS (k := 14) (As := [.int v1, .int v2]) (rest := []) (c_X1_spell l  hr10) (live_st (by decide)) rfl (vw1) m_X1_spell q689 ⟨rfl, rfl⟩ ⟨Nat.le_of_ble_eq_true rfl, Nat.le_of_ble_eq_true rfl⟩ rfl hl.1 rfl (Nat.le_of_ble_eq_true rfl) dX10_jar_40 ⟨Nat.zero_le _, Nat.zero_le _⟩) (fun H locs hR hS => ?_)
        refine lv_if_ne (tgt := 49) hx hb dX10_jar_43 (by decide) (fun c12 => ?_) (fun c12 => ?_)
        · have h := ite_f c12 h
          refine lv_aload_n hx hb dX10_jar_49 rfl (lv_at hl 0 rfl) ?_
          refine g_getr (t := 3) C hR (k := 0) (j := 1) (live_st (by decide)) rfl rfl (vw10) inl10 (by decide) q349 dX10_jar_50 ?_
          refine lv_aload_n hx hb dX10_jar_53 rfl (lv_at hl 0 rfl) ?_
          refine g_getr (t := 14) C hR (k := 0) (j := 2) (live_st (by decide)) rfl rfl (vw10) inl10 (by decide) q350 dX10_jar_54 ?_
          refine lv_iload_n hx hb dX10_jar_57 rfl (lv_at hl 3 rfl) ?_
          obtain ⟨r13, S14, hr13, h⟩ := bd_e h
          refine g_ci hS (g_runV C hR hS (k := 3) (As := [.ref (α 14), .int v3]) (rest := []) (c_X6_jarOfWords l  hr13) (live_st (by decide)) rfl (vw6) m_X6_jarOfWords q714 ⟨rfl, rfl⟩ ⟨Nat.le_of_ble_eq_true rfl, Nat.le_of_ble_eq_true rfl⟩ rfl hl.1 rfl (Nat.le_of_ble_eq_true rfl) dX10_jar_58 ⟨Nat.zero_le _, Nat.zero_le _⟩) (fun H locs hR hS => ?_)
          exact g_iret C hR hS h dX10_jar_61
        · have h := ite_t c12 h
          refine lv_bipush (v := -4) hx hb dX10_jar_46 (by decide) ?_
          exact g_iret C hR hS h dX10_jar_48
      · have h := ite_t c9 h
        refine lv_bipush (v := -3) hx hb dX10_jar_31 (by decide) ?_
        exact g_iret C hR hS h dX10_jar_33
  · have h := ite_t c3 h
    refine lv_bipush (v := -2) hx hb dX10_jar_11 (by decide) ?_
    exact g_iret C hR hS h dX10_jar_13

/-! OneVoice.run(I)I -/
abbrev rm_X10_run : Room := { frames := 6, cells := 0, slots := 0, locals := 148 }
theorem m_X10_run : MV yX10_run RX10 cX10_run 3 (some .int) 1 := ⟨q785, q786, q68, q787, by decide +kernel⟩
def f_X10_run_L30 (K48 : St → Option (Int32 × St)) (v1 : Int32) : Nat → Int32 → St → Option (Int32 × St)
  | 0, _, _ => none
  | f + 1, v2, S =>
    if v1 ≤ v2 then
      K48  S
    else
      bd_ (f_X7_tick  S) fun r7 S8 =>
      lt_ (v2 + (1 : Int32)) fun x9 =>
      f_X10_run_L30 K48 v1 f x9 S8

def f_X10_run (v1 : Int32) (S : St) : Option (Int32 × St) :=
  bd_ (f_X10_within v1 (1 : Int32) (100 : Int32) S) fun r2 S3 =>
  if r2 = 0 then
    some ((-3 : Int32), S3)
  else
    if ((rd S3 43 8) + v1) ≤ (2000 : Int32) then
      f_X10_run_L30
        (fun  (S10 : St) =>
          some ((rd S10 43 8), S10))
        v1 FU (0 : Int32) S3
    else
      some ((-3 : Int32), S3)

set_option maxHeartbeats 4000000 in
set_option maxRecDepth 100000 in
theorem w_X10_run_L30 {p : Program} {l : Launch} {e : Env} {s : State} {m : MethodId} {args : Array Value} {below : List Frame} {meth : Method} {c : Code} {E : En} {α : Nat → Nat} {g : Nat × Nat} (C : Cx p s m args meth c RX10 cX10_run 3 (some .int) E) {z : Int32 × St} {K48 : St → Option (Int32 × St)} {v1 : Int32}
    (hK48 : ∀ (S : St) (H : Heap) (locs : List Loc) (ls : Array Slot), Rp E α g S H → va_S E.2.2.1 s.heap H locs → lv_has ls 3 [(0, .ref (α 0))] → K48  S = some z → W p l e rm_X10_run s m args below meth c H locs 0 0 (MQ below (Qi E α g z) args s 0 0 E.2.2.1) (F0 m 48 ls [])) :
    ∀ (f : Nat) (v2 : Int32) (S : St) (H : Heap) (locs : List Loc) (ls : Array Slot), Rp E α g S H → va_S E.2.2.1 s.heap H locs → lv_has ls 3 [(0, .ref (α 0)), (1, .int v1), (2, .int v2)] → f_X10_run_L30 K48 v1 f v2 S = some z → W p l e rm_X10_run s m args below meth c H locs 0 0 (MQ below (Qi E α g z) args s 0 0 E.2.2.1) (F0 m 30 ls []) := by
  obtain ⟨hx, hb, hml, hown, hts, hlk, hrt, hKs⟩ := id C
  intro f
  induction f with
  | zero =>
    intro v2 S H locs ls  hR hS hl h
    rw [f_X10_run_L30] at h
    cases h
  | succ f ih =>
    intro v2 S H locs ls  hR hS hl h
    rw [f_X10_run_L30] at h
    refine lv_iload_n hx hb dX10_run_30 rfl (lv_at hl 2 rfl) ?_
    refine lv_iload_n hx hb dX10_run_31 rfl (lv_at hl 1 rfl) ?_
    refine lv_icmp_ge (tgt := 48) hx hb dX10_run_32 (by decide) (fun c6 => ?_) (fun c6 => ?_)
    · have h := ite_t c6 h
      exact hK48  _ _ _ _  hR hS (lv_sub hl [0] rfl) h
    · have h := ite_f c6 h
      refine lv_aload_n hx hb dX10_run_35 rfl (lv_at hl 0 rfl) ?_
      refine g_getr (t := 43) C hR (k := 0) (j := 4) (live_st (by decide)) rfl rfl (vw10) inl10 (by decide) q352 dX10_run_36 ?_
      obtain ⟨r7, S8, hr7, h⟩ := bd_e h
      refine g_cv hS (g_runV C hR hS (k := 43) (As := []) (rest := []) (c_X7_tick l  hr7) (live_st (by decide)) rfl (vw7) m_X7_tick q788 ⟨rfl, rfl⟩ ⟨Nat.le_of_ble_eq_true rfl, Nat.le_of_ble_eq_true rfl⟩ rfl hl.1 rfl (Nat.le_of_ble_eq_true rfl) dX10_run_39 ⟨Nat.zero_le _, Nat.zero_le _⟩) (fun H locs hR hS => ?_)
      obtain ⟨x9, ex9, h⟩ := lt_e h
      refine lv_iinc (v := x9) (lv' := [(2, .int x9), (0, .ref (α 0)), (1, .int v1)]) hx hb dX10_run_42 hl (k := 2) rfl (by rw [ex9]; rfl) (by decide) rfl (fun ls hl => ?_)
      refine lv_goto (tgt := 30) hx hb dX10_run_45 (by decide) ?_
      exact ih _ _ _ _ _  hR hS (lv_sub hl [1, 2, 0] rfl) h

set_option maxHeartbeats 4000000 in
set_option maxRecDepth 100000 in
theorem c_X10_run (l : Launch) {E : En} {α : Nat → Nat} {g : Nat × Nat} {v1 : Int32} {S : St}  {z : Int32 × St} (h : f_X10_run v1 S = some z) : Met l yX10_run (wsY yX10_run cX10_run 3 (some .int)) rm_X10_run (va_Pc [.ref (α 0), .int v1] (Wd E α g S)) (Qi E α g z) 0 0 E.2.2.1 := by
  refine g_met [.ref (α 0), .int v1] (by decide) rfl (Nat.le_of_ble_eq_true rfl) ?_
  intro p e s m below meth c ls C hR hl
  generalize hae : ([.ref (α 0), .int v1] : List Value).toArray = args at C ⊢
  have hl : lv_has ls 3 [(0, .ref (α 0)), (1, .int v1)] := hl
  obtain ⟨hx, hb, hml, hown, hts, hlk, hrt, hKs⟩ := id C
  have hS : va_S E.2.2.1 s.heap s.heap [] := va_S.rf
  unfold f_X10_run at h
  refine lv_iload_n hx hb dX10_run_0 rfl (lv_at hl 1 rfl) ?_
  refine lv_iconst (v := 1) hx hb dX10_run_1 (by decide) ?_
  refine lv_bipush (v := 100) hx hb dX10_run_2 (by decide) ?_
  obtain ⟨r2, S3, hr2, h⟩ := bd_e h
  refine g_ci hS (g_runS C hR hS (As := [.int v1, .int (1 : Int32), .int (100 : Int32)]) (rest := []) (c_X10_within l  hr2) m_X10_within q374 ⟨rfl, rfl⟩ ⟨Nat.le_of_ble_eq_true rfl, Nat.le_of_ble_eq_true rfl⟩ rfl hl.1 rfl (Nat.le_of_ble_eq_true rfl) dX10_run_4 ⟨Nat.zero_le _, Nat.zero_le _⟩) (fun H locs hR hS => ?_)
  refine lv_if_eq (tgt := 25) hx hb dX10_run_7 (by decide) (fun c4 => ?_) (fun c4 => ?_)
  · have h := ite_t c4 h
    refine lv_bipush (v := -3) hx hb dX10_run_25 (by decide) ?_
    exact g_iret C hR hS h dX10_run_27
  · have h := ite_f c4 h
    refine lv_aload_n hx hb dX10_run_10 rfl (lv_at hl 0 rfl) ?_
    refine g_getr (t := 43) C hR (k := 0) (j := 4) (live_st (by decide)) rfl rfl (vw10) inl10 (by decide) q352 dX10_run_11 ?_
    refine g_geti C hR (k := 43) (j := 8) (live_st (by decide)) rfl rfl (vw7) inl7 (by decide) q297 dX10_run_14 ?_
    refine lv_iload_n hx hb dX10_run_17 rfl (lv_at hl 1 rfl) ?_
    refine lv_iadd hx hb dX10_run_18 ?_
    refine lv_sipush (v := 2000) hx hb dX10_run_19 (by decide) ?_
    refine lv_icmp_le (tgt := 28) hx hb dX10_run_22 (by decide) (fun c5 => ?_) (fun c5 => ?_)
    · have h := ite_t c5 h
      refine lv_iconst (v := 0) hx hb dX10_run_28 (by decide) ?_
      refine lv_istore_n (lv' := [(2, .int (0 : Int32)), (0, .ref (α 0)), (1, .int v1)]) hx hb dX10_run_29 rfl hl (by decide) rfl (fun ls hl => ?_)
      refine w_X10_run_L30 C ?_  _ _ _ _ _ _  hR hS (lv_sub hl [1, 2, 0] rfl) h
      · intro  S10 H locs ls  hR hS hl h
        refine lv_aload_n hx hb dX10_run_48 rfl (lv_at hl 0 rfl) ?_
        refine g_getr (t := 43) C hR (k := 0) (j := 4) (live_st (by decide)) rfl rfl (vw10) inl10 (by decide) q352 dX10_run_49 ?_
        refine g_geti C hR (k := 43) (j := 8) (live_st (by decide)) rfl rfl (vw7) inl7 (by decide) q297 dX10_run_52 ?_
        exact g_iret C hR hS h dX10_run_55
    · have h := ite_f c5 h
      refine lv_bipush (v := -3) hx hb dX10_run_25 (by decide) ?_
      exact g_iret C hR hS h dX10_run_27
