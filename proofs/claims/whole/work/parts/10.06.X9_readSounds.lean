/-! OneVoice$Text.readSounds(LOneVoice$Row;)Z -/
abbrev rm_X9_readSounds : Room := { frames := 2, cells := 0, slots := 0, locals := 40 }
theorem m_X9_readSounds : MV yX9_readSounds RX9 cX9_readSounds 3 (some .boolean) 1 := ⟨q629, q13, q72, q630, by decide +kernel⟩
def f_X9_readSounds_L29 (K48 : St → Option (Int32 × St)) (K84 : St → Option (Int32 × St)) (n1 : Nat) : Nat → Int32 → St → Option (Int32 × St)
  | 0, _, _ => none
  | f + 1, v2, S =>
    if (rd S 20 6) ≤ v2 then
      K84  S
    else
      gd_ (inb v2 200) <|
      if (rd S 21 (Int32.toNatClampNeg v2)) ≤ (112 : Int32) then
        gd_ (inb v2 200) <|
        gd_ (inb (rd S (23 + n1) 3) 8) <|
        lt_ (wr S (33 + n1) (Int32.toNatClampNeg (rd S (23 + n1) 3)) ((rd S 21 (Int32.toNatClampNeg v2)) - (97 : Int32))) fun S14 =>
        lt_ (wr S14 (23 + n1) 3 ((rd S14 (23 + n1) 3) + (1 : Int32))) fun S16 =>
        lt_ (v2 + (1 : Int32)) fun x17 =>
        f_X9_readSounds_L29 K48 K84 n1 f x17 S16
      else
        K48  S

def f_X9_readSounds (n1 : Nat) (S : St) : Option (Int32 × St) :=
  if (rd S 20 4) = (1 : Int32) then
    if ((rd S 20 6) - (rd S 20 5)) ≤ (8 : Int32) then
      lt_ (rd S 20 5) fun x9 =>
      f_X9_readSounds_L29
        (fun  (S18 : St) =>
          some ((0 : Int32), S18))
        (fun  (S19 : St) =>
          bd_ (f_X9_step  S19) fun r20 S21 =>
          some ((1 : Int32), S21))
        n1 FU x9 S
    else
      some ((0 : Int32), S)
  else
    some ((0 : Int32), S)

set_option maxHeartbeats 4000000 in
set_option maxRecDepth 100000 in
theorem w_X9_readSounds_L29 {p : Program} {l : Launch} {e : Env} {s : State} {m : MethodId} {args : Array Value} {below : List Frame} {meth : Method} {c : Code} {E : En} {α : Nat → Nat} {g : Nat × Nat} (C : Cx p s m args meth c RX9 cX9_readSounds 3 (some .boolean) E) {z : Int32 × St} {K48 : St → Option (Int32 × St)} {K84 : St → Option (Int32 × St)} {n1 : Nat}
    (hK48 : ∀ (S : St) (H : Heap) (locs : List Loc) (ls : Array Slot), Rp E α g S H → va_S E.2.2.1 s.heap H locs → lv_has ls 3 [] → K48  S = some z → W p l e rm_X9_readSounds s m args below meth c H locs 0 0 (MQ below (Qi E α g z) args s 0 0 E.2.2.1) (F0 m 48 ls []))
    (hK84 : ∀ (S : St) (H : Heap) (locs : List Loc) (ls : Array Slot), Rp E α g S H → va_S E.2.2.1 s.heap H locs → lv_has ls 3 [(0, .ref (α 20))] → K84  S = some z → W p l e rm_X9_readSounds s m args below meth c H locs 0 0 (MQ below (Qi E α g z) args s 0 0 E.2.2.1) (F0 m 84 ls [])) (hn1 : n1 < 10) :
    ∀ (f : Nat) (v2 : Int32) (S : St) (H : Heap) (locs : List Loc) (ls : Array Slot), Rp E α g S H → va_S E.2.2.1 s.heap H locs → lv_has ls 3 [(0, .ref (α 20)), (1, .ref (α (23 + n1))), (2, .int v2)] → f_X9_readSounds_L29 K48 K84 n1 f v2 S = some z → W p l e rm_X9_readSounds s m args below meth c H locs 0 0 (MQ below (Qi E α g z) args s 0 0 E.2.2.1) (F0 m 29 ls []) := by
  obtain ⟨hx, hb, hml, hown, hts, hlk, hrt, hKs⟩ := id C
  intro f
  induction f with
  | zero =>
    intro v2 S H locs ls  hR hS hl h
    rw [f_X9_readSounds_L29] at h
    cases h
  | succ f ih =>
    intro v2 S H locs ls  hR hS hl h
    rw [f_X9_readSounds_L29] at h
    refine lv_iload_n hx hb dX9_readSounds_29 rfl (lv_at hl 2 rfl) ?_
    refine lv_aload_n hx hb dX9_readSounds_30 rfl (lv_at hl 0 rfl) ?_
    refine g_geti C hR (k := 20) (j := 6) (live_st (by decide)) rfl rfl (vw9) inl9 (by decide) q259 dX9_readSounds_31 ?_
    refine lv_icmp_ge (tgt := 84) hx hb dX9_readSounds_34 (by decide) (fun c10 => ?_) (fun c10 => ?_)
    · have h := ite_t c10 h
      exact hK84  _ _ _ _  hR hS (lv_sub hl [0] rfl) h
    · have h := ite_f c10 h
      refine lv_aload_n hx hb dX9_readSounds_37 rfl (lv_at hl 0 rfl) ?_
      refine g_getr (t := 21) C hR (k := 20) (j := 0) (live_st (by decide)) rfl rfl (vw9) inl9 (by decide) q250 dX9_readSounds_38 ?_
      refine lv_iload_n hx hb dX9_readSounds_41 rfl (lv_at hl 2 rfl) ?_
      obtain ⟨g11, h⟩ := gd_e h
      refine g_iald C hR (k := 21) (n := 200) (live_st (by decide)) rfl g11 dX9_readSounds_42 ?_
      refine lv_bipush (v := 112) hx hb dX9_readSounds_43 (by decide) ?_
      refine lv_icmp_le (tgt := 50) hx hb dX9_readSounds_45 (by decide) (fun c12 => ?_) (fun c12 => ?_)
      · have h := ite_t c12 h
        refine lv_aload_n hx hb dX9_readSounds_50 rfl (lv_at hl 1 rfl) ?_
        refine g_getr (t := (33 + n1)) C hR (k := (23 + n1)) (j := 2) (live_r hn1) (lay_r hn1) rfl (vw5) inl5 (by decide) q237 dX9_readSounds_51 ?_
        refine lv_aload_n hx hb dX9_readSounds_54 rfl (lv_at hl 1 rfl) ?_
        refine g_geti C hR (k := (23 + n1)) (j := 3) (live_r hn1) (lay_r hn1) rfl (vw5) inl5 (by decide) q240 dX9_readSounds_55 ?_
        refine lv_aload_n hx hb dX9_readSounds_58 rfl (lv_at hl 0 rfl) ?_
        refine g_getr (t := 21) C hR (k := 20) (j := 0) (live_st (by decide)) rfl rfl (vw9) inl9 (by decide) q250 dX9_readSounds_59 ?_
        refine lv_iload_n hx hb dX9_readSounds_62 rfl (lv_at hl 2 rfl) ?_
        obtain ⟨g13, h⟩ := gd_e h
        refine g_iald C hR (k := 21) (n := 200) (live_st (by decide)) rfl g13 dX9_readSounds_63 ?_
        refine lv_bipush (v := 97) hx hb dX9_readSounds_64 (by decide) ?_
        refine lv_isub hx hb dX9_readSounds_66 ?_
        obtain ⟨g15, h⟩ := gd_e h
        obtain ⟨S14, eS14, h⟩ := lt_e h
        refine g_iast C hR hS (k := (33 + n1)) (n := 8) (live_ri hn1) (lay_ri hn1) g15 eS14 dX9_readSounds_67 (fun H locs hR hS => ?_)
        refine lv_aload_n hx hb dX9_readSounds_68 rfl (lv_at hl 1 rfl) ?_
        refine lv_dup hx hb dX9_readSounds_69 rfl ?_
        refine g_geti C hR (k := (23 + n1)) (j := 3) (live_r hn1) (lay_r hn1) rfl (vw5) inl5 (by decide) q240 dX9_readSounds_70 ?_
        refine lv_iconst (v := 1) hx hb dX9_readSounds_73 (by decide) ?_
        refine lv_iadd hx hb dX9_readSounds_74 ?_
        obtain ⟨S16, eS16, h⟩ := lt_e h
        refine g_puti C hR hS (k := (23 + n1)) (j := 3) (live_r hn1) (lay_r hn1) rfl (vw5) inl5 (by decide) (ty0 := tyX5) tyX5_ok nmX5 q240 rfl rfl rfl eS16 dX9_readSounds_75 (fun H locs hR hS => ?_)
        obtain ⟨x17, ex17, h⟩ := lt_e h
        refine lv_iinc (v := x17) (lv' := [(2, .int x17), (0, .ref (α 20)), (1, .ref (α (23 + n1)))]) hx hb dX9_readSounds_78 hl (k := 2) rfl (by rw [ex17]; rfl) (by decide) rfl (fun ls hl => ?_)
        refine lv_goto (tgt := 29) hx hb dX9_readSounds_81 (by decide) ?_
        exact ih _ _ _ _ _  hR hS (lv_sub hl [1, 2, 0] rfl) h
      · have h := ite_f c12 h
        exact hK48  _ _ _ _  hR hS (lv_sub hl [] rfl) h

set_option maxHeartbeats 4000000 in
set_option maxRecDepth 100000 in
theorem c_X9_readSounds (l : Launch) {E : En} {α : Nat → Nat} {g : Nat × Nat} {n1 : Nat} {S : St} (hn1 : n1 < 10) {z : Int32 × St} (h : f_X9_readSounds n1 S = some z) : Met l yX9_readSounds (wsY yX9_readSounds cX9_readSounds 3 (some .boolean)) rm_X9_readSounds (va_Pc [.ref (α 20), .ref (α (23 + n1))] (Wd E α g S)) (Qi E α g z) 0 0 E.2.2.1 := by
  refine g_met [.ref (α 20), .ref (α (23 + n1))] (by decide) rfl (Nat.le_of_ble_eq_true rfl) ?_
  intro p e s m below meth c ls C hR hl
  generalize hae : ([.ref (α 20), .ref (α (23 + n1))] : List Value).toArray = args at C ⊢
  have hl : lv_has ls 3 [(0, .ref (α 20)), (1, .ref (α (23 + n1)))] := hl
  obtain ⟨hx, hb, hml, hown, hts, hlk, hrt, hKs⟩ := id C
  have hS : va_S E.2.2.1 s.heap s.heap [] := va_S.rf
  unfold f_X9_readSounds at h
  refine lv_aload_n hx hb dX9_readSounds_0 rfl (lv_at hl 0 rfl) ?_
  refine g_geti C hR (k := 20) (j := 4) (live_st (by decide)) rfl rfl (vw9) inl9 (by decide) q257 dX9_readSounds_1 ?_
  refine lv_iconst (v := 1) hx hb dX9_readSounds_4 (by decide) ?_
  refine lv_icmp_ne (tgt := 22) hx hb dX9_readSounds_5 (by decide) (fun c7 => ?_) (fun c7 => ?_)
  · have h := ite_f c7 h
    refine lv_iconst (v := 0) hx hb dX9_readSounds_22 (by decide) ?_
    exact g_zret C hR hS bz0 h dX9_readSounds_23
  · have h := ite_t c7 h
    refine lv_aload_n hx hb dX9_readSounds_8 rfl (lv_at hl 0 rfl) ?_
    refine g_geti C hR (k := 20) (j := 6) (live_st (by decide)) rfl rfl (vw9) inl9 (by decide) q259 dX9_readSounds_9 ?_
    refine lv_aload_n hx hb dX9_readSounds_12 rfl (lv_at hl 0 rfl) ?_
    refine g_geti C hR (k := 20) (j := 5) (live_st (by decide)) rfl rfl (vw9) inl9 (by decide) q258 dX9_readSounds_13 ?_
    refine lv_isub hx hb dX9_readSounds_16 ?_
    refine lv_bipush (v := 8) hx hb dX9_readSounds_17 (by decide) ?_
    refine lv_icmp_le (tgt := 24) hx hb dX9_readSounds_19 (by decide) (fun c8 => ?_) (fun c8 => ?_)
    · have h := ite_t c8 h
      refine lv_aload_n hx hb dX9_readSounds_24 rfl (lv_at hl 0 rfl) ?_
      refine g_geti C hR (k := 20) (j := 5) (live_st (by decide)) rfl rfl (vw9) inl9 (by decide) q258 dX9_readSounds_25 ?_
      obtain ⟨x9, ex9, h⟩ := lt_e h
      refine g_nmi ex9 ?_
      refine lv_istore_n (lv' := [(2, .int x9), (0, .ref (α 20)), (1, .ref (α (23 + n1)))]) hx hb dX9_readSounds_28 rfl hl (by decide) rfl (fun ls hl => ?_)
      refine w_X9_readSounds_L29 C ?_ ?_ hn1 _ _ _ _ _ _  hR hS (lv_sub hl [1, 2, 0] rfl) h
      · intro  S18 H locs ls  hR hS hl h
        refine lv_iconst (v := 0) hx hb dX9_readSounds_48 (by decide) ?_
        exact g_zret C hR hS bz0 h dX9_readSounds_49
      · intro  S19 H locs ls  hR hS hl h
        refine lv_aload_n hx hb dX9_readSounds_84 rfl (lv_at hl 0 rfl) ?_
        obtain ⟨r20, S21, hr20, h⟩ := bd_e h
        refine g_cv hS (g_runV C hR hS (k := 20) (As := []) (rest := []) (c_X9_step l  hr20) (live_st (by decide)) rfl (vw9) m_X9_step q553 ⟨rfl, rfl⟩ ⟨Nat.le_of_ble_eq_true rfl, Nat.le_of_ble_eq_true rfl⟩ rfl hl.1 rfl (Nat.le_of_ble_eq_true rfl) dX9_readSounds_85 ⟨Nat.zero_le _, Nat.zero_le _⟩) (fun H locs hR hS => ?_)
        refine lv_iconst (v := 1) hx hb dX9_readSounds_88 (by decide) ?_
        exact g_zret C hR hS bz1 h dX9_readSounds_89
    · have h := ite_f c8 h
      refine lv_iconst (v := 0) hx hb dX9_readSounds_22 (by decide) ?_
      exact g_zret C hR hS bz0 h dX9_readSounds_23

/-! OneVoice$Text.isSign(I)Z -/
abbrev rm_X9_isSign : Room := { frames := 0, cells := 0, slots := 0, locals := 0 }
theorem m_X9_isSign : MV yX9_isSign RX9 cX9_isSign 2 (some .boolean) 1 := ⟨q638, q15, q72, q639, by decide +kernel⟩
def f_X9_isSign (v1 : Int32) (S : St) : Option (Int32 × St) :=
  lt_ (fun  (S2 : St) =>
      some ((0 : Int32), S2)) fun J25 =>
  if (rd S 20 4) = (3 : Int32) then
    gd_ (inb (rd S 20 5) 200) <|
    if (rd S 21 (Int32.toNatClampNeg (rd S 20 5))) = v1 then
      some ((1 : Int32), S)
    else
      J25  S
  else
    J25  S

set_option maxHeartbeats 4000000 in
set_option maxRecDepth 100000 in
theorem c_X9_isSign (l : Launch) {E : En} {α : Nat → Nat} {g : Nat × Nat} {v1 : Int32} {S : St}  {z : Int32 × St} (h : f_X9_isSign v1 S = some z) : Met l yX9_isSign (wsY yX9_isSign cX9_isSign 2 (some .boolean)) rm_X9_isSign (va_Pc [.ref (α 20), .int v1] (Wd E α g S)) (Qi E α g z) 0 0 E.2.2.1 := by
  refine g_met [.ref (α 20), .int v1] (by decide) rfl (Nat.le_of_ble_eq_true rfl) ?_
  intro p e s m below meth c ls C hR hl
  generalize hae : ([.ref (α 20), .int v1] : List Value).toArray = args at C ⊢
  have hl : lv_has ls 2 [(0, .ref (α 20)), (1, .int v1)] := hl
  obtain ⟨hx, hb, hml, hown, hts, hlk, hrt, hKs⟩ := id C
  have hS : va_S E.2.2.1 s.heap s.heap [] := va_S.rf
  unfold f_X9_isSign at h
  refine lv_aload_n hx hb dX9_isSign_0 rfl (lv_at hl 0 rfl) ?_
  refine g_geti C hR (k := 20) (j := 4) (live_st (by decide)) rfl rfl (vw9) inl9 (by decide) q257 dX9_isSign_1 ?_
  refine lv_iconst (v := 3) hx hb dX9_isSign_4 (by decide) ?_
  obtain ⟨J25, eJ25, h⟩ := lt_e h
  have hJ25 : ∀ (S2 : St) (H : Heap) (locs : List Loc) (ls : Array Slot), Rp E α g S2 H → va_S E.2.2.1 s.heap H locs → lv_has ls 2 [] → J25  S2 = some z → W p l e rm_X9_isSign s m args below meth c H locs 0 0 (MQ below (Qi E α g z) args s 0 0 E.2.2.1) (F0 m 25 ls []) := by
    intro  S2 H locs ls  hR hS hl h
    rw [eJ25] at h
    refine lv_iconst (v := 0) hx hb dX9_isSign_25 (by decide) ?_
    exact g_zret C hR hS bz0 h dX9_isSign_26
  clear eJ25
  refine lv_icmp_ne (tgt := 25) hx hb dX9_isSign_5 (by decide) (fun c3 => ?_) (fun c3 => ?_)
  · have h := ite_f c3 h
    exact hJ25  _ _ _ _  hR hS (lv_sub hl [] rfl) h
  · have h := ite_t c3 h
    refine lv_aload_n hx hb dX9_isSign_8 rfl (lv_at hl 0 rfl) ?_
    refine g_getr (t := 21) C hR (k := 20) (j := 0) (live_st (by decide)) rfl rfl (vw9) inl9 (by decide) q250 dX9_isSign_9 ?_
    refine lv_aload_n hx hb dX9_isSign_12 rfl (lv_at hl 0 rfl) ?_
    refine g_geti C hR (k := 20) (j := 5) (live_st (by decide)) rfl rfl (vw9) inl9 (by decide) q258 dX9_isSign_13 ?_
    obtain ⟨g4, h⟩ := gd_e h
    refine g_iald C hR (k := 21) (n := 200) (live_st (by decide)) rfl g4 dX9_isSign_16 ?_
    refine lv_iload_n hx hb dX9_isSign_17 rfl (lv_at hl 1 rfl) ?_
    refine lv_icmp_ne (tgt := 25) hx hb dX9_isSign_18 (by decide) (fun c5 => ?_) (fun c5 => ?_)
    · have h := ite_f c5 h
      exact hJ25  _ _ _ _  hR hS (lv_sub hl [] rfl) h
    · have h := ite_t c5 h
      refine lv_iconst (v := 1) hx hb dX9_isSign_21 (by decide) ?_
      refine lv_goto (tgt := 26) hx hb dX9_isSign_22 (by decide) ?_
      exact g_zret C hR hS bz1 h dX9_isSign_26

/-! OneVoice$Text.readParts(LOneVoice$Row;)Z -/
abbrev rm_X9_readParts : Room := { frames := 2, cells := 0, slots := 0, locals := 40 }
theorem m_X9_readParts : MV yX9_readParts RX9 cX9_readParts 3 (some .boolean) 1 := ⟨q634, q14, q72, q635, by decide +kernel⟩
def f_X9_readParts_L0 (K43 : St → Option (Int32 × St)) (K85 : St → Option (Int32 × St)) (K90 : St → Option (Int32 × St)) (n1 : Nat) : Nat → St → Option (Int32 × St)
  | 0, _ => none
  | f + 1, S =>
    if (8 : Int32) ≤ (rd S (23 + n1) 3) then
      K90  S
    else
      bd_ (f_X9_isSign (35 : Int32) S) fun r4 S5 =>
      lt_ (fun (t6 : Int32) (S7 : St) =>
          lt_ (fun  (S8 : St) =>
              gd_ (inb (rd S8 (23 + n1) 3) 8) <|
              lt_ (wr S8 (33 + n1) (Int32.toNatClampNeg (rd S8 (23 + n1) 3)) t6) fun S9 =>
              lt_ (wr S9 (23 + n1) 3 ((rd S9 (23 + n1) 3) + (1 : Int32))) fun S11 =>
              bd_ (f_X9_step  S11) fun r12 S13 =>
              if (rd S13 20 4) = 0 then
                K85  S13
              else
                bd_ (f_X9_isSign (59 : Int32) S13) fun r15 S16 =>
                if r15 = 0 then
                  f_X9_readParts_L0 K43 K85 K90 n1 f  S16
                else
                  K85  S16) fun J45 =>
          if t6 = (100 : Int32) then
            J45  S7
          else
            bd_ (f_X10_below t6 (32 : Int32) S7) fun r19 S20 =>
            if r19 = 0 then
              K43  S20
            else
              J45  S20) fun J27 =>
      if r4 = 0 then
        bd_ (f_X9_number  S5) fun r23 S24 =>
        J27 r23 S24
      else
        J27 (100 : Int32) S5

def f_X9_readParts (n1 : Nat) (S : St) : Option (Int32 × St) :=
  f_X9_readParts_L0
    (fun  (S25 : St) =>
      some ((0 : Int32), S25))
    (fun  (S26 : St) =>
      some ((1 : Int32), S26))
    (fun  (S27 : St) =>
      some ((1 : Int32), S27))
    n1 FU  S

set_option maxHeartbeats 4000000 in
set_option maxRecDepth 100000 in
theorem w_X9_readParts_L0 {p : Program} {l : Launch} {e : Env} {s : State} {m : MethodId} {args : Array Value} {below : List Frame} {meth : Method} {c : Code} {E : En} {α : Nat → Nat} {g : Nat × Nat} (C : Cx p s m args meth c RX9 cX9_readParts 3 (some .boolean) E) {z : Int32 × St} {K43 : St → Option (Int32 × St)} {K85 : St → Option (Int32 × St)} {K90 : St → Option (Int32 × St)} {n1 : Nat}
    (hK43 : ∀ (S : St) (H : Heap) (locs : List Loc) (ls : Array Slot), Rp E α g S H → va_S E.2.2.1 s.heap H locs → lv_has ls 3 [] → K43  S = some z → W p l e rm_X9_readParts s m args below meth c H locs 0 0 (MQ below (Qi E α g z) args s 0 0 E.2.2.1) (F0 m 43 ls []))
    (hK85 : ∀ (S : St) (H : Heap) (locs : List Loc) (ls : Array Slot), Rp E α g S H → va_S E.2.2.1 s.heap H locs → lv_has ls 3 [] → K85  S = some z → W p l e rm_X9_readParts s m args below meth c H locs 0 0 (MQ below (Qi E α g z) args s 0 0 E.2.2.1) (F0 m 85 ls []))
    (hK90 : ∀ (S : St) (H : Heap) (locs : List Loc) (ls : Array Slot), Rp E α g S H → va_S E.2.2.1 s.heap H locs → lv_has ls 3 [] → K90  S = some z → W p l e rm_X9_readParts s m args below meth c H locs 0 0 (MQ below (Qi E α g z) args s 0 0 E.2.2.1) (F0 m 90 ls [])) (hn1 : n1 < 10) :
    ∀ (f : Nat) (S : St) (H : Heap) (locs : List Loc) (ls : Array Slot), Rp E α g S H → va_S E.2.2.1 s.heap H locs → lv_has ls 3 [(0, .ref (α 20)), (1, .ref (α (23 + n1)))] → f_X9_readParts_L0 K43 K85 K90 n1 f  S = some z → W p l e rm_X9_readParts s m args below meth c H locs 0 0 (MQ below (Qi E α g z) args s 0 0 E.2.2.1) (F0 m 0 ls []) := by
  obtain ⟨hx, hb, hml, hown, hts, hlk, hrt, hKs⟩ := id C
  intro f
  induction f with
  | zero =>
    intro  S H locs ls  hR hS hl h
    rw [f_X9_readParts_L0] at h
    cases h
  | succ f ih =>
    intro  S H locs ls  hR hS hl h
    rw [f_X9_readParts_L0] at h
    refine lv_aload_n hx hb dX9_readParts_0 rfl (lv_at hl 1 rfl) ?_
    refine g_geti C hR (k := (23 + n1)) (j := 3) (live_r hn1) (lay_r hn1) rfl (vw5) inl5 (by decide) q240 dX9_readParts_1 ?_
    refine lv_bipush (v := 8) hx hb dX9_readParts_4 (by decide) ?_
    refine lv_icmp_ge (tgt := 90) hx hb dX9_readParts_6 (by decide) (fun c3 => ?_) (fun c3 => ?_)
    · have h := ite_t c3 h
      exact hK90  _ _ _ _  hR hS (lv_sub hl [] rfl) h
    · have h := ite_f c3 h
      refine lv_aload_n hx hb dX9_readParts_9 rfl (lv_at hl 0 rfl) ?_
      refine lv_bipush (v := 35) hx hb dX9_readParts_10 (by decide) ?_
      obtain ⟨r4, S5, hr4, h⟩ := bd_e h
      refine g_ci hS (g_runV C hR hS (k := 20) (As := [.int (35 : Int32)]) (rest := []) (c_X9_isSign l  hr4) (live_st (by decide)) rfl (vw9) m_X9_isSign q636 ⟨rfl, rfl⟩ ⟨Nat.le_of_ble_eq_true rfl, Nat.le_of_ble_eq_true rfl⟩ rfl hl.1 rfl (Nat.le_of_ble_eq_true rfl) dX9_readParts_12 ⟨Nat.zero_le _, Nat.zero_le _⟩) (fun H locs hR hS => ?_)
      obtain ⟨J27, eJ27, h⟩ := lt_e h
      have hJ27 : ∀ (t6 : Int32) (S7 : St) (H : Heap) (locs : List Loc) (ls : Array Slot), Rp E α g S7 H → va_S E.2.2.1 s.heap H locs → lv_has ls 3 [(0, .ref (α 20)), (1, .ref (α (23 + n1)))] → J27 t6 S7 = some z → W p l e rm_X9_readParts s m args below meth c H locs 0 0 (MQ below (Qi E α g z) args s 0 0 E.2.2.1) (F0 m 27 ls [.int t6]) := by
        intro t6 S7 H locs ls  hR hS hl h
        rw [eJ27] at h
        refine lv_istore_n (lv' := [(2, .int t6), (0, .ref (α 20)), (1, .ref (α (23 + n1)))]) hx hb dX9_readParts_27 rfl hl (by decide) rfl (fun ls hl => ?_)
        refine lv_iload_n hx hb dX9_readParts_28 rfl (lv_at hl 0 rfl) ?_
        refine lv_bipush (v := 100) hx hb dX9_readParts_29 (by decide) ?_
        obtain ⟨J45, eJ45, h⟩ := lt_e h
        have hJ45 : ∀ (S8 : St) (H : Heap) (locs : List Loc) (ls : Array Slot), Rp E α g S8 H → va_S E.2.2.1 s.heap H locs → lv_has ls 3 [(0, .ref (α 20)), (1, .ref (α (23 + n1))), (2, .int t6)] → J45  S8 = some z → W p l e rm_X9_readParts s m args below meth c H locs 0 0 (MQ below (Qi E α g z) args s 0 0 E.2.2.1) (F0 m 45 ls []) := by
          intro  S8 H locs ls  hR hS hl h
          rw [eJ45] at h
          refine lv_aload_n hx hb dX9_readParts_45 rfl (lv_at hl 1 rfl) ?_
          refine g_getr (t := (33 + n1)) C hR (k := (23 + n1)) (j := 2) (live_r hn1) (lay_r hn1) rfl (vw5) inl5 (by decide) q237 dX9_readParts_46 ?_
          refine lv_aload_n hx hb dX9_readParts_49 rfl (lv_at hl 1 rfl) ?_
          refine g_geti C hR (k := (23 + n1)) (j := 3) (live_r hn1) (lay_r hn1) rfl (vw5) inl5 (by decide) q240 dX9_readParts_50 ?_
          refine lv_iload_n hx hb dX9_readParts_53 rfl (lv_at hl 2 rfl) ?_
          obtain ⟨g10, h⟩ := gd_e h
          obtain ⟨S9, eS9, h⟩ := lt_e h
          refine g_iast C hR hS (k := (33 + n1)) (n := 8) (live_ri hn1) (lay_ri hn1) g10 eS9 dX9_readParts_54 (fun H locs hR hS => ?_)
          refine lv_aload_n hx hb dX9_readParts_55 rfl (lv_at hl 1 rfl) ?_
          refine lv_dup hx hb dX9_readParts_56 rfl ?_
          refine g_geti C hR (k := (23 + n1)) (j := 3) (live_r hn1) (lay_r hn1) rfl (vw5) inl5 (by decide) q240 dX9_readParts_57 ?_
          refine lv_iconst (v := 1) hx hb dX9_readParts_60 (by decide) ?_
          refine lv_iadd hx hb dX9_readParts_61 ?_
          obtain ⟨S11, eS11, h⟩ := lt_e h
          refine g_puti C hR hS (k := (23 + n1)) (j := 3) (live_r hn1) (lay_r hn1) rfl (vw5) inl5 (by decide) (ty0 := tyX5) tyX5_ok nmX5 q240 rfl rfl rfl eS11 dX9_readParts_62 (fun H locs hR hS => ?_)
          refine lv_aload_n hx hb dX9_readParts_65 rfl (lv_at hl 0 rfl) ?_
          obtain ⟨r12, S13, hr12, h⟩ := bd_e h
          refine g_cv hS (g_runV C hR hS (k := 20) (As := []) (rest := []) (c_X9_step l  hr12) (live_st (by decide)) rfl (vw9) m_X9_step q553 ⟨rfl, rfl⟩ ⟨Nat.le_of_ble_eq_true rfl, Nat.le_of_ble_eq_true rfl⟩ rfl hl.1 rfl (Nat.le_of_ble_eq_true rfl) dX9_readParts_66 ⟨Nat.zero_le _, Nat.zero_le _⟩) (fun H locs hR hS => ?_)
          refine lv_aload_n hx hb dX9_readParts_69 rfl (lv_at hl 0 rfl) ?_
          refine g_geti C hR (k := 20) (j := 4) (live_st (by decide)) rfl rfl (vw9) inl9 (by decide) q257 dX9_readParts_70 ?_
          refine lv_if_eq (tgt := 85) hx hb dX9_readParts_73 (by decide) (fun c14 => ?_) (fun c14 => ?_)
          · have h := ite_t c14 h
            exact hK85  _ _ _ _  hR hS (lv_sub hl [] rfl) h
          · have h := ite_f c14 h
            refine lv_aload_n hx hb dX9_readParts_76 rfl (lv_at hl 0 rfl) ?_
            refine lv_bipush (v := 59) hx hb dX9_readParts_77 (by decide) ?_
            obtain ⟨r15, S16, hr15, h⟩ := bd_e h
            refine g_ci hS (g_runV C hR hS (k := 20) (As := [.int (59 : Int32)]) (rest := []) (c_X9_isSign l  hr15) (live_st (by decide)) rfl (vw9) m_X9_isSign q636 ⟨rfl, rfl⟩ ⟨Nat.le_of_ble_eq_true rfl, Nat.le_of_ble_eq_true rfl⟩ rfl hl.1 rfl (Nat.le_of_ble_eq_true rfl) dX9_readParts_79 ⟨Nat.zero_le _, Nat.zero_le _⟩) (fun H locs hR hS => ?_)
            refine lv_if_eq (tgt := 87) hx hb dX9_readParts_82 (by decide) (fun c17 => ?_) (fun c17 => ?_)
            · have h := ite_t c17 h
              refine lv_goto (tgt := 0) hx hb dX9_readParts_87 (by decide) ?_
              exact ih  _ _ _ _  hR hS (lv_sub hl [0, 1] rfl) h
            · have h := ite_f c17 h
              exact hK85  _ _ _ _  hR hS (lv_sub hl [] rfl) h
        clear eJ45
        refine lv_icmp_eq (tgt := 45) hx hb dX9_readParts_31 (by decide) (fun c18 => ?_) (fun c18 => ?_)
        · have h := ite_t c18 h
          exact hJ45  _ _ _ _  hR hS (lv_sub hl [1, 2, 0] rfl) h
        · have h := ite_f c18 h
          refine lv_iload_n hx hb dX9_readParts_34 rfl (lv_at hl 0 rfl) ?_
          refine lv_bipush (v := 32) hx hb dX9_readParts_35 (by decide) ?_
          obtain ⟨r19, S20, hr19, h⟩ := bd_e h
          refine g_ci hS (g_runN C hR hS (host := RX10) (As := [.int t6, .int (32 : Int32)]) (rest := []) (c_X10_below l  hr19) m_X10_below (by decide) ⟨rfl, rfl⟩ ⟨Nat.le_of_ble_eq_true rfl, Nat.le_of_ble_eq_true rfl⟩ rfl hl.1 rfl (Nat.le_of_ble_eq_true rfl) dX9_readParts_37 ⟨Nat.zero_le _, Nat.zero_le _⟩) (fun H locs hR hS => ?_)
          refine lv_if_ne (tgt := 45) hx hb dX9_readParts_40 (by decide) (fun c21 => ?_) (fun c21 => ?_)
          · have h := ite_f c21 h
            exact hJ45  _ _ _ _  hR hS (lv_sub hl [1, 2, 0] rfl) h
          · have h := ite_t c21 h
            exact hK43  _ _ _ _  hR hS (lv_sub hl [] rfl) h
      clear eJ27
      refine lv_if_eq (tgt := 23) hx hb dX9_readParts_15 (by decide) (fun c22 => ?_) (fun c22 => ?_)
      · have h := ite_t c22 h
        refine lv_aload_n hx hb dX9_readParts_23 rfl (lv_at hl 0 rfl) ?_
        obtain ⟨r23, S24, hr23, h⟩ := bd_e h
        refine g_ci hS (g_runV C hR hS (k := 20) (As := []) (rest := []) (c_X9_number l  hr23) (live_st (by decide)) rfl (vw9) m_X9_number q621 ⟨rfl, rfl⟩ ⟨Nat.le_of_ble_eq_true rfl, Nat.le_of_ble_eq_true rfl⟩ rfl hl.1 rfl (Nat.le_of_ble_eq_true rfl) dX9_readParts_24 ⟨Nat.zero_le _, Nat.zero_le _⟩) (fun H locs hR hS => ?_)
        exact hJ27 _ _ _ _ _  hR hS hl h
      · have h := ite_f c22 h
        refine lv_bipush (v := 100) hx hb dX9_readParts_18 (by decide) ?_
        refine lv_goto (tgt := 27) hx hb dX9_readParts_20 (by decide) ?_
        exact hJ27 _ _ _ _ _  hR hS hl h

set_option maxHeartbeats 4000000 in
set_option maxRecDepth 100000 in
theorem c_X9_readParts (l : Launch) {E : En} {α : Nat → Nat} {g : Nat × Nat} {n1 : Nat} {S : St} (hn1 : n1 < 10) {z : Int32 × St} (h : f_X9_readParts n1 S = some z) : Met l yX9_readParts (wsY yX9_readParts cX9_readParts 3 (some .boolean)) rm_X9_readParts (va_Pc [.ref (α 20), .ref (α (23 + n1))] (Wd E α g S)) (Qi E α g z) 0 0 E.2.2.1 := by
  refine g_met [.ref (α 20), .ref (α (23 + n1))] (by decide) rfl (Nat.le_of_ble_eq_true rfl) ?_
  intro p e s m below meth c ls C hR hl
  generalize hae : ([.ref (α 20), .ref (α (23 + n1))] : List Value).toArray = args at C ⊢
  have hl : lv_has ls 3 [(0, .ref (α 20)), (1, .ref (α (23 + n1)))] := hl
  obtain ⟨hx, hb, hml, hown, hts, hlk, hrt, hKs⟩ := id C
  have hS : va_S E.2.2.1 s.heap s.heap [] := va_S.rf
  unfold f_X9_readParts at h
  refine w_X9_readParts_L0 C ?_ ?_ ?_ hn1 _  _ _ _ _  hR hS hl h
  · intro  S25 H locs ls  hR hS hl h
    refine lv_iconst (v := 0) hx hb dX9_readParts_43 (by decide) ?_
    exact g_zret C hR hS bz0 h dX9_readParts_44
  · intro  S26 H locs ls  hR hS hl h
    refine lv_iconst (v := 1) hx hb dX9_readParts_85 (by decide) ?_
    exact g_zret C hR hS bz1 h dX9_readParts_86
  · intro  S27 H locs ls  hR hS hl h
    refine lv_iconst (v := 1) hx hb dX9_readParts_90 (by decide) ?_
    exact g_zret C hR hS bz1 h dX9_readParts_91

/-! OneVoice$Text.readOther(LOneVoice$Row;)Z -/
abbrev rm_X9_readOther : Room := { frames := 2, cells := 0, slots := 0, locals := 40 }
theorem m_X9_readOther : MV yX9_readOther RX9 cX9_readOther 3 (some .boolean) 1 := ⟨q644, q16, q72, q645, by decide +kernel⟩
def f_X9_readOther (n1 : Nat) (S : St) : Option (Int32 × St) :=
  bd_ (f_X9_number  S) fun r3 S4 =>
  bd_ (f_X10_below r3 (6 : Int32) S4) fun r5 S6 =>
  if r5 = 0 then
    some ((0 : Int32), S6)
  else
    if r3 = (rd S6 (23 + n1) 1) then
      some ((0 : Int32), S6)
    else
      lt_ (wr S6 (33 + n1) (Int32.toNatClampNeg (0 : Int32)) r3) fun S9 =>
      lt_ (wr S9 (23 + n1) 3 (1 : Int32)) fun S10 =>
      bd_ (f_X9_step  S10) fun r11 S12 =>
      some ((1 : Int32), S12)

set_option maxHeartbeats 4000000 in
set_option maxRecDepth 100000 in
theorem c_X9_readOther (l : Launch) {E : En} {α : Nat → Nat} {g : Nat × Nat} {n1 : Nat} {S : St} (hn1 : n1 < 10) {z : Int32 × St} (h : f_X9_readOther n1 S = some z) : Met l yX9_readOther (wsY yX9_readOther cX9_readOther 3 (some .boolean)) rm_X9_readOther (va_Pc [.ref (α 20), .ref (α (23 + n1))] (Wd E α g S)) (Qi E α g z) 0 0 E.2.2.1 := by
  refine g_met [.ref (α 20), .ref (α (23 + n1))] (by decide) rfl (Nat.le_of_ble_eq_true rfl) ?_
  intro p e s m below meth c ls C hR hl
  generalize hae : ([.ref (α 20), .ref (α (23 + n1))] : List Value).toArray = args at C ⊢
  have hl : lv_has ls 3 [(0, .ref (α 20)), (1, .ref (α (23 + n1)))] := hl
  obtain ⟨hx, hb, hml, hown, hts, hlk, hrt, hKs⟩ := id C
  have hS : va_S E.2.2.1 s.heap s.heap [] := va_S.rf
  unfold f_X9_readOther at h
  refine lv_aload_n hx hb dX9_readOther_0 rfl (lv_at hl 0 rfl) ?_
  obtain ⟨r3, S4, hr3, h⟩ := bd_e h
  refine g_ci hS (g_runV C hR hS (k := 20) (As := []) (rest := []) (c_X9_number l  hr3) (live_st (by decide)) rfl (vw9) m_X9_number q621 ⟨rfl, rfl⟩ ⟨Nat.le_of_ble_eq_true rfl, Nat.le_of_ble_eq_true rfl⟩ rfl hl.1 rfl (Nat.le_of_ble_eq_true rfl) dX9_readOther_1 ⟨Nat.zero_le _, Nat.zero_le _⟩) (fun H locs hR hS => ?_)
  refine lv_istore_n (lv' := [(2, .int r3), (0, .ref (α 20)), (1, .ref (α (23 + n1)))]) hx hb dX9_readOther_4 rfl hl (by decide) rfl (fun ls hl => ?_)
  refine lv_iload_n hx hb dX9_readOther_5 rfl (lv_at hl 0 rfl) ?_
  refine lv_bipush (v := 6) hx hb dX9_readOther_6 (by decide) ?_
  obtain ⟨r5, S6, hr5, h⟩ := bd_e h
  refine g_ci hS (g_runN C hR hS (host := RX10) (As := [.int r3, .int (6 : Int32)]) (rest := []) (c_X10_below l  hr5) m_X10_below (by decide) ⟨rfl, rfl⟩ ⟨Nat.le_of_ble_eq_true rfl, Nat.le_of_ble_eq_true rfl⟩ rfl hl.1 rfl (Nat.le_of_ble_eq_true rfl) dX9_readOther_8 ⟨Nat.zero_le _, Nat.zero_le _⟩) (fun H locs hR hS => ?_)
  refine lv_if_eq (tgt := 22) hx hb dX9_readOther_11 (by decide) (fun c7 => ?_) (fun c7 => ?_)
  · have h := ite_t c7 h
    refine lv_iconst (v := 0) hx hb dX9_readOther_22 (by decide) ?_
    exact g_zret C hR hS bz0 h dX9_readOther_23
  · have h := ite_f c7 h
    refine lv_iload_n hx hb dX9_readOther_14 rfl (lv_at hl 0 rfl) ?_
    refine lv_aload_n hx hb dX9_readOther_15 rfl (lv_at hl 2 rfl) ?_
    refine g_geti C hR (k := (23 + n1)) (j := 1) (live_r hn1) (lay_r hn1) rfl (vw5) inl5 (by decide) q233 dX9_readOther_16 ?_
    refine lv_icmp_ne (tgt := 24) hx hb dX9_readOther_19 (by decide) (fun c8 => ?_) (fun c8 => ?_)
    · have h := ite_f c8 h
      refine lv_aload_n hx hb dX9_readOther_24 rfl (lv_at hl 2 rfl) ?_
      refine g_getr (t := (33 + n1)) C hR (k := (23 + n1)) (j := 2) (live_r hn1) (lay_r hn1) rfl (vw5) inl5 (by decide) q237 dX9_readOther_25 ?_
      refine lv_iconst (v := 0) hx hb dX9_readOther_28 (by decide) ?_
      refine lv_iload_n hx hb dX9_readOther_29 rfl (lv_at hl 0 rfl) ?_
      obtain ⟨S9, eS9, h⟩ := lt_e h
      refine g_iast C hR hS (k := (33 + n1)) (n := 8) (live_ri hn1) (lay_ri hn1) (show inb (0 : Int32) 8 by decide) eS9 dX9_readOther_30 (fun H locs hR hS => ?_)
      refine lv_aload_n hx hb dX9_readOther_31 rfl (lv_at hl 2 rfl) ?_
      refine lv_iconst (v := 1) hx hb dX9_readOther_32 (by decide) ?_
      obtain ⟨S10, eS10, h⟩ := lt_e h
      refine g_puti C hR hS (k := (23 + n1)) (j := 3) (live_r hn1) (lay_r hn1) rfl (vw5) inl5 (by decide) (ty0 := tyX5) tyX5_ok nmX5 q240 rfl rfl rfl eS10 dX9_readOther_33 (fun H locs hR hS => ?_)
      refine lv_aload_n hx hb dX9_readOther_36 rfl (lv_at hl 1 rfl) ?_
      obtain ⟨r11, S12, hr11, h⟩ := bd_e h
      refine g_cv hS (g_runV C hR hS (k := 20) (As := []) (rest := []) (c_X9_step l  hr11) (live_st (by decide)) rfl (vw9) m_X9_step q553 ⟨rfl, rfl⟩ ⟨Nat.le_of_ble_eq_true rfl, Nat.le_of_ble_eq_true rfl⟩ rfl hl.1 rfl (Nat.le_of_ble_eq_true rfl) dX9_readOther_37 ⟨Nat.zero_le _, Nat.zero_le _⟩) (fun H locs hR hS => ?_)
      refine lv_iconst (v := 1) hx hb dX9_readOther_40 (by decide) ?_
      exact g_zret C hR hS bz1 h dX9_readOther_41
    · have h := ite_t c8 h
      refine lv_iconst (v := 0) hx hb dX9_readOther_22 (by decide) ?_
      exact g_zret C hR hS bz0 h dX9_readOther_23

/-! OneVoice$Text.readRow(LOneVoice$Row;)Z -/
abbrev rm_X9_readRow : Room := { frames := 5, cells := 0, slots := 0, locals := 107 }
theorem m_X9_readRow : MV yX9_readRow RX9 cX9_readRow 2 (some .boolean) 1 := ⟨q562, q9, q72, q563, by decide +kernel⟩
def f_X9_readRow (n1 : Nat) (S : St) : Option (Int32 × St) :=
  lt_ (wr S (23 + n1) 3 (0 : Int32)) fun S7 =>
  bd_ (f_X9_takes 0 S7) fun r8 S9 =>
  if r8 = 0 then
    bd_ (f_X9_takes 2 S9) fun r11 S12 =>
    if r11 = 0 then
      bd_ (f_X9_takes 3 S12) fun r14 S15 =>
      if r14 = 0 then
        bd_ (f_X9_takes 4 S15) fun r17 S18 =>
        if r17 = 0 then
          bd_ (f_X9_takes 5 S18) fun r20 S21 =>
          if r20 = 0 then
            some ((0 : Int32), S21)
          else
            lt_ (wr S21 (23 + n1) 0 (4 : Int32)) fun S23 =>
            bd_ (f_X9_readSubject n1 (6 : Int32) S23) fun r24 S25 =>
            lt_ (fun  (S26 : St) =>
                some ((0 : Int32), S26)) fun J195 =>
            if r24 = 0 then
              J195  S25
            else
              bd_ (f_X9_readOther n1 S25) fun r28 S29 =>
              if r28 = 0 then
                J195  S29
              else
                some ((1 : Int32), S29)
        else
          lt_ (wr S18 (23 + n1) 0 (3 : Int32)) fun S31 =>
          bd_ (f_X9_readSubject n1 (6 : Int32) S31) fun r32 S33 =>
          lt_ (fun  (S34 : St) =>
              some ((0 : Int32), S34)) fun J157 =>
          if r32 = 0 then
            J157  S33
          else
            bd_ (f_X9_readOther n1 S33) fun r36 S37 =>
            if r36 = 0 then
              J157  S37
            else
              some ((1 : Int32), S37)
      else
        lt_ (wr S15 (23 + n1) 0 (2 : Int32)) fun S39 =>
        bd_ (f_X9_readSubject n1 (100 : Int32) S39) fun r40 S41 =>
        gd_ (bz r40) <| some (r40, S41)
    else
      lt_ (wr S12 (23 + n1) 0 (1 : Int32)) fun S42 =>
      bd_ (f_X9_readSubject n1 (8 : Int32) S42) fun r43 S44 =>
      lt_ (fun  (S45 : St) =>
          some ((0 : Int32), S45)) fun J97 =>
      if r43 = 0 then
        J97  S44
      else
        bd_ (f_X9_takes 1 S44) fun r47 S48 =>
        if r47 = 0 then
          J97  S48
        else
          bd_ (f_X9_readParts n1 S48) fun r50 S51 =>
          if r50 = 0 then
            J97  S51
          else
            some ((1 : Int32), S51)
  else
    lt_ (wr S9 (23 + n1) 0 (0 : Int32)) fun S53 =>
    bd_ (f_X9_readSubject n1 (32 : Int32) S53) fun r54 S55 =>
    lt_ (fun  (S56 : St) =>
        some ((0 : Int32), S56)) fun J50 =>
    if r54 = 0 then
      J50  S55
    else
      bd_ (f_X9_takes 1 S55) fun r58 S59 =>
      if r58 = 0 then
        J50  S59
      else
        bd_ (f_X9_readSounds n1 S59) fun r61 S62 =>
        if r61 = 0 then
          J50  S62
        else
          some ((1 : Int32), S62)

set_option maxHeartbeats 4000000 in
set_option maxRecDepth 100000 in
theorem c_X9_readRow (l : Launch) {E : En} {α : Nat → Nat} {g : Nat × Nat} {n1 : Nat} {S : St} (hn1 : n1 < 10) {z : Int32 × St} (h : f_X9_readRow n1 S = some z) : Met l yX9_readRow (wsY yX9_readRow cX9_readRow 2 (some .boolean)) rm_X9_readRow (va_Pc [.ref (α 20), .ref (α (23 + n1))] (Wd E α g S)) (Qi E α g z) 0 0 E.2.2.1 := by
  refine g_met [.ref (α 20), .ref (α (23 + n1))] (by decide) rfl (Nat.le_of_ble_eq_true rfl) ?_
  intro p e s m below meth c ls C hR hl
  generalize hae : ([.ref (α 20), .ref (α (23 + n1))] : List Value).toArray = args at C ⊢
  have hl : lv_has ls 2 [(0, .ref (α 20)), (1, .ref (α (23 + n1)))] := hl
  obtain ⟨hx, hb, hml, hown, hts, hlk, hrt, hKs⟩ := id C
  have hS : va_S E.2.2.1 s.heap s.heap [] := va_S.rf
  unfold f_X9_readRow at h
  refine lv_aload_n hx hb dX9_readRow_0 rfl (lv_at hl 1 rfl) ?_
  refine lv_iconst (v := 0) hx hb dX9_readRow_1 (by decide) ?_
  obtain ⟨S7, eS7, h⟩ := lt_e h
  refine g_puti C hR hS (k := (23 + n1)) (j := 3) (live_r hn1) (lay_r hn1) rfl (vw5) inl5 (by decide) (ty0 := tyX5) tyX5_ok nmX5 q240 rfl rfl rfl eS7 dX9_readRow_2 (fun H locs hR hS => ?_)
  refine lv_aload_n hx hb dX9_readRow_5 rfl (lv_at hl 0 rfl) ?_
  refine va_ldcS (own := RX9) (tx := "word") hx hb hown (hKs.2.2.2.1 0 (by decide)) dX9_readRow_6 ?_
  obtain ⟨r8, S9, hr8, h⟩ := bd_e h
  refine g_ci hS (g_runV C hR hS (k := 20) (As := [.ref (E.2.2.2.1 0)]) (rest := []) (c_X9_takes l (by decide) hr8) (live_st (by decide)) rfl (vw9) m_X9_takes q565 ⟨rfl, rfl⟩ ⟨Nat.le_of_ble_eq_true rfl, Nat.le_of_ble_eq_true rfl⟩ rfl hl.1 rfl (Nat.le_of_ble_eq_true rfl) dX9_readRow_8 ⟨Nat.zero_le _, Nat.zero_le _⟩) (fun H locs hR hS => ?_)
  refine lv_if_eq (tgt := 52) hx hb dX9_readRow_11 (by decide) (fun c10 => ?_) (fun c10 => ?_)
  · have h := ite_t c10 h
    refine lv_aload_n hx hb dX9_readRow_52 rfl (lv_at hl 0 rfl) ?_
    refine va_ldcS (own := RX9) (tx := "line") hx hb hown (hKs.2.2.2.1 2 (by decide)) dX9_readRow_53 ?_
    obtain ⟨r11, S12, hr11, h⟩ := bd_e h
    refine g_ci hS (g_runV C hR hS (k := 20) (As := [.ref (E.2.2.2.1 2)]) (rest := []) (c_X9_takes l (by decide) hr11) (live_st (by decide)) rfl (vw9) m_X9_takes q565 ⟨rfl, rfl⟩ ⟨Nat.le_of_ble_eq_true rfl, Nat.le_of_ble_eq_true rfl⟩ rfl hl.1 rfl (Nat.le_of_ble_eq_true rfl) dX9_readRow_55 ⟨Nat.zero_le _, Nat.zero_le _⟩) (fun H locs hR hS => ?_)
    refine lv_if_eq (tgt := 99) hx hb dX9_readRow_58 (by decide) (fun c13 => ?_) (fun c13 => ?_)
    · have h := ite_t c13 h
      refine lv_aload_n hx hb dX9_readRow_99 rfl (lv_at hl 0 rfl) ?_
      refine va_ldcS (own := RX9) (tx := "cut") hx hb hown (hKs.2.2.2.1 3 (by decide)) dX9_readRow_100 ?_
      obtain ⟨r14, S15, hr14, h⟩ := bd_e h
      refine g_ci hS (g_runV C hR hS (k := 20) (As := [.ref (E.2.2.2.1 3)]) (rest := []) (c_X9_takes l (by decide) hr14) (live_st (by decide)) rfl (vw9) m_X9_takes q565 ⟨rfl, rfl⟩ ⟨Nat.le_of_ble_eq_true rfl, Nat.le_of_ble_eq_true rfl⟩ rfl hl.1 rfl (Nat.le_of_ble_eq_true rfl) dX9_readRow_102 ⟨Nat.zero_le _, Nat.zero_le _⟩) (fun H locs hR hS => ?_)
      refine lv_if_eq (tgt := 121) hx hb dX9_readRow_105 (by decide) (fun c16 => ?_) (fun c16 => ?_)
      · have h := ite_t c16 h
        refine lv_aload_n hx hb dX9_readRow_121 rfl (lv_at hl 0 rfl) ?_
        refine va_ldcS (own := RX9) (tx := "near") hx hb hown (hKs.2.2.2.1 4 (by decide)) dX9_readRow_122 ?_
        obtain ⟨r17, S18, hr17, h⟩ := bd_e h
        refine g_ci hS (g_runV C hR hS (k := 20) (As := [.ref (E.2.2.2.1 4)]) (rest := []) (c_X9_takes l (by decide) hr17) (live_st (by decide)) rfl (vw9) m_X9_takes q565 ⟨rfl, rfl⟩ ⟨Nat.le_of_ble_eq_true rfl, Nat.le_of_ble_eq_true rfl⟩ rfl hl.1 rfl (Nat.le_of_ble_eq_true rfl) dX9_readRow_124 ⟨Nat.zero_le _, Nat.zero_le _⟩) (fun H locs hR hS => ?_)
        refine lv_if_eq (tgt := 159) hx hb dX9_readRow_127 (by decide) (fun c19 => ?_) (fun c19 => ?_)
        · have h := ite_t c19 h
          refine lv_aload_n hx hb dX9_readRow_159 rfl (lv_at hl 0 rfl) ?_
          refine va_ldcS (own := RX9) (tx := "far") hx hb hown (hKs.2.2.2.1 5 (by decide)) dX9_readRow_160 ?_
          obtain ⟨r20, S21, hr20, h⟩ := bd_e h
          refine g_ci hS (g_runV C hR hS (k := 20) (As := [.ref (E.2.2.2.1 5)]) (rest := []) (c_X9_takes l (by decide) hr20) (live_st (by decide)) rfl (vw9) m_X9_takes q565 ⟨rfl, rfl⟩ ⟨Nat.le_of_ble_eq_true rfl, Nat.le_of_ble_eq_true rfl⟩ rfl hl.1 rfl (Nat.le_of_ble_eq_true rfl) dX9_readRow_162 ⟨Nat.zero_le _, Nat.zero_le _⟩) (fun H locs hR hS => ?_)
          refine lv_if_eq (tgt := 197) hx hb dX9_readRow_165 (by decide) (fun c22 => ?_) (fun c22 => ?_)
          · have h := ite_t c22 h
            refine lv_iconst (v := 0) hx hb dX9_readRow_197 (by decide) ?_
            exact g_zret C hR hS bz0 h dX9_readRow_198
          · have h := ite_f c22 h
            refine lv_aload_n hx hb dX9_readRow_168 rfl (lv_at hl 1 rfl) ?_
            refine lv_iconst (v := 4) hx hb dX9_readRow_169 (by decide) ?_
            obtain ⟨S23, eS23, h⟩ := lt_e h
            refine g_puti C hR hS (k := (23 + n1)) (j := 0) (live_r hn1) (lay_r hn1) rfl (vw5) inl5 (by decide) (ty0 := tyX5) tyX5_ok nmX5 q230 rfl rfl rfl eS23 dX9_readRow_170 (fun H locs hR hS => ?_)
            refine lv_aload_n hx hb dX9_readRow_173 rfl (lv_at hl 0 rfl) ?_
            refine lv_aload_n hx hb dX9_readRow_174 rfl (lv_at hl 1 rfl) ?_
            refine lv_bipush (v := 6) hx hb dX9_readRow_175 (by decide) ?_
            obtain ⟨r24, S25, hr24, h⟩ := bd_e h
            refine g_ci hS (g_runV C hR hS (k := 20) (As := [.ref (α (23 + n1)), .int (6 : Int32)]) (rest := []) (c_X9_readSubject l hn1 hr24) (live_st (by decide)) rfl (vw9) m_X9_readSubject q617 ⟨rfl, rfl⟩ ⟨Nat.le_of_ble_eq_true rfl, Nat.le_of_ble_eq_true rfl⟩ rfl hl.1 rfl (Nat.le_of_ble_eq_true rfl) dX9_readRow_177 ⟨Nat.zero_le _, Nat.zero_le _⟩) (fun H locs hR hS => ?_)
            obtain ⟨J195, eJ195, h⟩ := lt_e h
            have hJ195 : ∀ (S26 : St) (H : Heap) (locs : List Loc) (ls : Array Slot), Rp E α g S26 H → va_S E.2.2.1 s.heap H locs → lv_has ls 2 [] → J195  S26 = some z → W p l e rm_X9_readRow s m args below meth c H locs 0 0 (MQ below (Qi E α g z) args s 0 0 E.2.2.1) (F0 m 195 ls []) := by
              intro  S26 H locs ls  hR hS hl h
              rw [eJ195] at h
              refine lv_iconst (v := 0) hx hb dX9_readRow_195 (by decide) ?_
              exact g_zret C hR hS bz0 h dX9_readRow_196
            clear eJ195
            refine lv_if_eq (tgt := 195) hx hb dX9_readRow_180 (by decide) (fun c27 => ?_) (fun c27 => ?_)
            · have h := ite_t c27 h
              exact hJ195  _ _ _ _  hR hS (lv_sub hl [] rfl) h
            · have h := ite_f c27 h
              refine lv_aload_n hx hb dX9_readRow_183 rfl (lv_at hl 0 rfl) ?_
              refine lv_aload_n hx hb dX9_readRow_184 rfl (lv_at hl 1 rfl) ?_
              obtain ⟨r28, S29, hr28, h⟩ := bd_e h
              refine g_ci hS (g_runV C hR hS (k := 20) (As := [.ref (α (23 + n1))]) (rest := []) (c_X9_readOther l hn1 hr28) (live_st (by decide)) rfl (vw9) m_X9_readOther q642 ⟨rfl, rfl⟩ ⟨Nat.le_of_ble_eq_true rfl, Nat.le_of_ble_eq_true rfl⟩ rfl hl.1 rfl (Nat.le_of_ble_eq_true rfl) dX9_readRow_185 ⟨Nat.zero_le _, Nat.zero_le _⟩) (fun H locs hR hS => ?_)
              refine lv_if_eq (tgt := 195) hx hb dX9_readRow_188 (by decide) (fun c30 => ?_) (fun c30 => ?_)
              · have h := ite_t c30 h
                exact hJ195  _ _ _ _  hR hS (lv_sub hl [] rfl) h
              · have h := ite_f c30 h
                refine lv_iconst (v := 1) hx hb dX9_readRow_191 (by decide) ?_
                refine lv_goto (tgt := 196) hx hb dX9_readRow_192 (by decide) ?_
                exact g_zret C hR hS bz1 h dX9_readRow_196
        · have h := ite_f c19 h
          refine lv_aload_n hx hb dX9_readRow_130 rfl (lv_at hl 1 rfl) ?_
          refine lv_iconst (v := 3) hx hb dX9_readRow_131 (by decide) ?_
          obtain ⟨S31, eS31, h⟩ := lt_e h
          refine g_puti C hR hS (k := (23 + n1)) (j := 0) (live_r hn1) (lay_r hn1) rfl (vw5) inl5 (by decide) (ty0 := tyX5) tyX5_ok nmX5 q230 rfl rfl rfl eS31 dX9_readRow_132 (fun H locs hR hS => ?_)
          refine lv_aload_n hx hb dX9_readRow_135 rfl (lv_at hl 0 rfl) ?_
          refine lv_aload_n hx hb dX9_readRow_136 rfl (lv_at hl 1 rfl) ?_
          refine lv_bipush (v := 6) hx hb dX9_readRow_137 (by decide) ?_
          obtain ⟨r32, S33, hr32, h⟩ := bd_e h
          refine g_ci hS (g_runV C hR hS (k := 20) (As := [.ref (α (23 + n1)), .int (6 : Int32)]) (rest := []) (c_X9_readSubject l hn1 hr32) (live_st (by decide)) rfl (vw9) m_X9_readSubject q617 ⟨rfl, rfl⟩ ⟨Nat.le_of_ble_eq_true rfl, Nat.le_of_ble_eq_true rfl⟩ rfl hl.1 rfl (Nat.le_of_ble_eq_true rfl) dX9_readRow_139 ⟨Nat.zero_le _, Nat.zero_le _⟩) (fun H locs hR hS => ?_)
          obtain ⟨J157, eJ157, h⟩ := lt_e h
          have hJ157 : ∀ (S34 : St) (H : Heap) (locs : List Loc) (ls : Array Slot), Rp E α g S34 H → va_S E.2.2.1 s.heap H locs → lv_has ls 2 [] → J157  S34 = some z → W p l e rm_X9_readRow s m args below meth c H locs 0 0 (MQ below (Qi E α g z) args s 0 0 E.2.2.1) (F0 m 157 ls []) := by
            intro  S34 H locs ls  hR hS hl h
            rw [eJ157] at h
            refine lv_iconst (v := 0) hx hb dX9_readRow_157 (by decide) ?_
            exact g_zret C hR hS bz0 h dX9_readRow_158
          clear eJ157
          refine lv_if_eq (tgt := 157) hx hb dX9_readRow_142 (by decide) (fun c35 => ?_) (fun c35 => ?_)
          · have h := ite_t c35 h
            exact hJ157  _ _ _ _  hR hS (lv_sub hl [] rfl) h
          · have h := ite_f c35 h
            refine lv_aload_n hx hb dX9_readRow_145 rfl (lv_at hl 0 rfl) ?_
            refine lv_aload_n hx hb dX9_readRow_146 rfl (lv_at hl 1 rfl) ?_
            obtain ⟨r36, S37, hr36, h⟩ := bd_e h
            refine g_ci hS (g_runV C hR hS (k := 20) (As := [.ref (α (23 + n1))]) (rest := []) (c_X9_readOther l hn1 hr36) (live_st (by decide)) rfl (vw9) m_X9_readOther q642 ⟨rfl, rfl⟩ ⟨Nat.le_of_ble_eq_true rfl, Nat.le_of_ble_eq_true rfl⟩ rfl hl.1 rfl (Nat.le_of_ble_eq_true rfl) dX9_readRow_147 ⟨Nat.zero_le _, Nat.zero_le _⟩) (fun H locs hR hS => ?_)
            refine lv_if_eq (tgt := 157) hx hb dX9_readRow_150 (by decide) (fun c38 => ?_) (fun c38 => ?_)
            · have h := ite_t c38 h
              exact hJ157  _ _ _ _  hR hS (lv_sub hl [] rfl) h
            · have h := ite_f c38 h
              refine lv_iconst (v := 1) hx hb dX9_readRow_153 (by decide) ?_
              refine lv_goto (tgt := 158) hx hb dX9_readRow_154 (by decide) ?_
              exact g_zret C hR hS bz1 h dX9_readRow_158
      · have h := ite_f c16 h
        refine lv_aload_n hx hb dX9_readRow_108 rfl (lv_at hl 1 rfl) ?_
        refine lv_iconst (v := 2) hx hb dX9_readRow_109 (by decide) ?_
        obtain ⟨S39, eS39, h⟩ := lt_e h
        refine g_puti C hR hS (k := (23 + n1)) (j := 0) (live_r hn1) (lay_r hn1) rfl (vw5) inl5 (by decide) (ty0 := tyX5) tyX5_ok nmX5 q230 rfl rfl rfl eS39 dX9_readRow_110 (fun H locs hR hS => ?_)
        refine lv_aload_n hx hb dX9_readRow_113 rfl (lv_at hl 0 rfl) ?_
        refine lv_aload_n hx hb dX9_readRow_114 rfl (lv_at hl 1 rfl) ?_
        refine lv_bipush (v := 100) hx hb dX9_readRow_115 (by decide) ?_
        obtain ⟨r40, S41, hr40, h⟩ := bd_e h
        refine g_ci hS (g_runV C hR hS (k := 20) (As := [.ref (α (23 + n1)), .int (100 : Int32)]) (rest := []) (c_X9_readSubject l hn1 hr40) (live_st (by decide)) rfl (vw9) m_X9_readSubject q617 ⟨rfl, rfl⟩ ⟨Nat.le_of_ble_eq_true rfl, Nat.le_of_ble_eq_true rfl⟩ rfl hl.1 rfl (Nat.le_of_ble_eq_true rfl) dX9_readRow_117 ⟨Nat.zero_le _, Nat.zero_le _⟩) (fun H locs hR hS => ?_)
        obtain ⟨hz, h⟩ := gd_e h
        exact g_zret C hR hS hz h dX9_readRow_120
    · have h := ite_f c13 h
      refine lv_aload_n hx hb dX9_readRow_61 rfl (lv_at hl 1 rfl) ?_
      refine lv_iconst (v := 1) hx hb dX9_readRow_62 (by decide) ?_
      obtain ⟨S42, eS42, h⟩ := lt_e h
      refine g_puti C hR hS (k := (23 + n1)) (j := 0) (live_r hn1) (lay_r hn1) rfl (vw5) inl5 (by decide) (ty0 := tyX5) tyX5_ok nmX5 q230 rfl rfl rfl eS42 dX9_readRow_63 (fun H locs hR hS => ?_)
      refine lv_aload_n hx hb dX9_readRow_66 rfl (lv_at hl 0 rfl) ?_
      refine lv_aload_n hx hb dX9_readRow_67 rfl (lv_at hl 1 rfl) ?_
      refine lv_bipush (v := 8) hx hb dX9_readRow_68 (by decide) ?_
      obtain ⟨r43, S44, hr43, h⟩ := bd_e h
      refine g_ci hS (g_runV C hR hS (k := 20) (As := [.ref (α (23 + n1)), .int (8 : Int32)]) (rest := []) (c_X9_readSubject l hn1 hr43) (live_st (by decide)) rfl (vw9) m_X9_readSubject q617 ⟨rfl, rfl⟩ ⟨Nat.le_of_ble_eq_true rfl, Nat.le_of_ble_eq_true rfl⟩ rfl hl.1 rfl (Nat.le_of_ble_eq_true rfl) dX9_readRow_70 ⟨Nat.zero_le _, Nat.zero_le _⟩) (fun H locs hR hS => ?_)
      obtain ⟨J97, eJ97, h⟩ := lt_e h
      have hJ97 : ∀ (S45 : St) (H : Heap) (locs : List Loc) (ls : Array Slot), Rp E α g S45 H → va_S E.2.2.1 s.heap H locs → lv_has ls 2 [] → J97  S45 = some z → W p l e rm_X9_readRow s m args below meth c H locs 0 0 (MQ below (Qi E α g z) args s 0 0 E.2.2.1) (F0 m 97 ls []) := by
        intro  S45 H locs ls  hR hS hl h
        rw [eJ97] at h
        refine lv_iconst (v := 0) hx hb dX9_readRow_97 (by decide) ?_
        exact g_zret C hR hS bz0 h dX9_readRow_98
      clear eJ97
      refine lv_if_eq (tgt := 97) hx hb dX9_readRow_73 (by decide) (fun c46 => ?_) (fun c46 => ?_)
      · have h := ite_t c46 h
        exact hJ97  _ _ _ _  hR hS (lv_sub hl [] rfl) h
      · have h := ite_f c46 h
        refine lv_aload_n hx hb dX9_readRow_76 rfl (lv_at hl 0 rfl) ?_
        refine va_ldcS (own := RX9) (tx := "is") hx hb hown (hKs.2.2.2.1 1 (by decide)) dX9_readRow_77 ?_
        obtain ⟨r47, S48, hr47, h⟩ := bd_e h
        refine g_ci hS (g_runV C hR hS (k := 20) (As := [.ref (E.2.2.2.1 1)]) (rest := []) (c_X9_takes l (by decide) hr47) (live_st (by decide)) rfl (vw9) m_X9_takes q565 ⟨rfl, rfl⟩ ⟨Nat.le_of_ble_eq_true rfl, Nat.le_of_ble_eq_true rfl⟩ rfl hl.1 rfl (Nat.le_of_ble_eq_true rfl) dX9_readRow_79 ⟨Nat.zero_le _, Nat.zero_le _⟩) (fun H locs hR hS => ?_)
        refine lv_if_eq (tgt := 97) hx hb dX9_readRow_82 (by decide) (fun c49 => ?_) (fun c49 => ?_)
        · have h := ite_t c49 h
          exact hJ97  _ _ _ _  hR hS (lv_sub hl [] rfl) h
        · have h := ite_f c49 h
          refine lv_aload_n hx hb dX9_readRow_85 rfl (lv_at hl 0 rfl) ?_
          refine lv_aload_n hx hb dX9_readRow_86 rfl (lv_at hl 1 rfl) ?_
          obtain ⟨r50, S51, hr50, h⟩ := bd_e h
          refine g_ci hS (g_runV C hR hS (k := 20) (As := [.ref (α (23 + n1))]) (rest := []) (c_X9_readParts l hn1 hr50) (live_st (by decide)) rfl (vw9) m_X9_readParts q632 ⟨rfl, rfl⟩ ⟨Nat.le_of_ble_eq_true rfl, Nat.le_of_ble_eq_true rfl⟩ rfl hl.1 rfl (Nat.le_of_ble_eq_true rfl) dX9_readRow_87 ⟨Nat.zero_le _, Nat.zero_le _⟩) (fun H locs hR hS => ?_)
          refine lv_if_eq (tgt := 97) hx hb dX9_readRow_90 (by decide) (fun c52 => ?_) (fun c52 => ?_)
          · have h := ite_t c52 h
            exact hJ97  _ _ _ _  hR hS (lv_sub hl [] rfl) h
          · have h := ite_f c52 h
            refine lv_iconst (v := 1) hx hb dX9_readRow_93 (by decide) ?_
            refine lv_goto (tgt := 98) hx hb dX9_readRow_94 (by decide) ?_
            exact g_zret C hR hS bz1 h dX9_readRow_98
  · have h := ite_f c10 h
    refine lv_aload_n hx hb dX9_readRow_14 rfl (lv_at hl 1 rfl) ?_
    refine lv_iconst (v := 0) hx hb dX9_readRow_15 (by decide) ?_
    obtain ⟨S53, eS53, h⟩ := lt_e h
    refine g_puti C hR hS (k := (23 + n1)) (j := 0) (live_r hn1) (lay_r hn1) rfl (vw5) inl5 (by decide) (ty0 := tyX5) tyX5_ok nmX5 q230 rfl rfl rfl eS53 dX9_readRow_16 (fun H locs hR hS => ?_)
    refine lv_aload_n hx hb dX9_readRow_19 rfl (lv_at hl 0 rfl) ?_
    refine lv_aload_n hx hb dX9_readRow_20 rfl (lv_at hl 1 rfl) ?_
    refine lv_bipush (v := 32) hx hb dX9_readRow_21 (by decide) ?_
    obtain ⟨r54, S55, hr54, h⟩ := bd_e h
    refine g_ci hS (g_runV C hR hS (k := 20) (As := [.ref (α (23 + n1)), .int (32 : Int32)]) (rest := []) (c_X9_readSubject l hn1 hr54) (live_st (by decide)) rfl (vw9) m_X9_readSubject q617 ⟨rfl, rfl⟩ ⟨Nat.le_of_ble_eq_true rfl, Nat.le_of_ble_eq_true rfl⟩ rfl hl.1 rfl (Nat.le_of_ble_eq_true rfl) dX9_readRow_23 ⟨Nat.zero_le _, Nat.zero_le _⟩) (fun H locs hR hS => ?_)
    obtain ⟨J50, eJ50, h⟩ := lt_e h
    have hJ50 : ∀ (S56 : St) (H : Heap) (locs : List Loc) (ls : Array Slot), Rp E α g S56 H → va_S E.2.2.1 s.heap H locs → lv_has ls 2 [] → J50  S56 = some z → W p l e rm_X9_readRow s m args below meth c H locs 0 0 (MQ below (Qi E α g z) args s 0 0 E.2.2.1) (F0 m 50 ls []) := by
      intro  S56 H locs ls  hR hS hl h
      rw [eJ50] at h
      refine lv_iconst (v := 0) hx hb dX9_readRow_50 (by decide) ?_
      exact g_zret C hR hS bz0 h dX9_readRow_51
    clear eJ50
    refine lv_if_eq (tgt := 50) hx hb dX9_readRow_26 (by decide) (fun c57 => ?_) (fun c57 => ?_)
    · have h := ite_t c57 h
      exact hJ50  _ _ _ _  hR hS (lv_sub hl [] rfl) h
    · have h := ite_f c57 h
      refine lv_aload_n hx hb dX9_readRow_29 rfl (lv_at hl 0 rfl) ?_
      refine va_ldcS (own := RX9) (tx := "is") hx hb hown (hKs.2.2.2.1 1 (by decide)) dX9_readRow_30 ?_
      obtain ⟨r58, S59, hr58, h⟩ := bd_e h
      refine g_ci hS (g_runV C hR hS (k := 20) (As := [.ref (E.2.2.2.1 1)]) (rest := []) (c_X9_takes l (by decide) hr58) (live_st (by decide)) rfl (vw9) m_X9_takes q565 ⟨rfl, rfl⟩ ⟨Nat.le_of_ble_eq_true rfl, Nat.le_of_ble_eq_true rfl⟩ rfl hl.1 rfl (Nat.le_of_ble_eq_true rfl) dX9_readRow_32 ⟨Nat.zero_le _, Nat.zero_le _⟩) (fun H locs hR hS => ?_)
      refine lv_if_eq (tgt := 50) hx hb dX9_readRow_35 (by decide) (fun c60 => ?_) (fun c60 => ?_)
      · have h := ite_t c60 h
        exact hJ50  _ _ _ _  hR hS (lv_sub hl [] rfl) h
      · have h := ite_f c60 h
        refine lv_aload_n hx hb dX9_readRow_38 rfl (lv_at hl 0 rfl) ?_
        refine lv_aload_n hx hb dX9_readRow_39 rfl (lv_at hl 1 rfl) ?_
        obtain ⟨r61, S62, hr61, h⟩ := bd_e h
        refine g_ci hS (g_runV C hR hS (k := 20) (As := [.ref (α (23 + n1))]) (rest := []) (c_X9_readSounds l hn1 hr61) (live_st (by decide)) rfl (vw9) m_X9_readSounds q627 ⟨rfl, rfl⟩ ⟨Nat.le_of_ble_eq_true rfl, Nat.le_of_ble_eq_true rfl⟩ rfl hl.1 rfl (Nat.le_of_ble_eq_true rfl) dX9_readRow_40 ⟨Nat.zero_le _, Nat.zero_le _⟩) (fun H locs hR hS => ?_)
        refine lv_if_eq (tgt := 50) hx hb dX9_readRow_43 (by decide) (fun c63 => ?_) (fun c63 => ?_)
        · have h := ite_t c63 h
          exact hJ50  _ _ _ _  hR hS (lv_sub hl [] rfl) h
        · have h := ite_f c63 h
          refine lv_iconst (v := 1) hx hb dX9_readRow_46 (by decide) ?_
          refine lv_goto (tgt := 51) hx hb dX9_readRow_47 (by decide) ?_
          exact g_zret C hR hS bz1 h dX9_readRow_51

/-! OneVoice$Text.read()I -/
abbrev rm_X9_read : Room := { frames := 6, cells := 0, slots := 0, locals := 128 }
theorem m_X9_read : MV yX9_read RX9 cX9_read 2 (some .int) 0 := ⟨q550, q551, q72, q552, by decide +kernel⟩
def f_X9_read_L16 (K35 : St → Option (Int32 × St)) (K54 : St → Option (Int32 × St)) (K74 : St → Option (Int32 × St)) (K89 : St → Option (Int32 × St))  : Nat → Int32 → St → Option (Int32 × St)
  | 0, _, _ => none
  | f + 1, v1, S =>
    if (10 : Int32) ≤ v1 then
      K89  S
    else
      gd_ (inb v1 10) <|
      bd_ (f_X9_readRow (Int32.toNatClampNeg v1) S) fun r14 S15 =>
      if r14 = 0 then
        K35  S15
      else
        lt_ (wr S15 20 3 (v1 + (1 : Int32))) fun S17 =>
        if (rd S17 20 4) = 0 then
          K54  S17
        else
          bd_ (f_X9_isSign (59 : Int32) S17) fun r19 S20 =>
          if r19 = 0 then
            K74  S20
          else
            if (rd S20 20 3) = (10 : Int32) then
              K74  S20
            else
              bd_ (f_X9_step  S20) fun r23 S24 =>
              lt_ (v1 + (1 : Int32)) fun x25 =>
              f_X9_read_L16 K35 K54 K74 K89 f x25 S24

def f_X9_read  (S : St) : Option (Int32 × St) :=
  lt_ (wr S 20 3 (0 : Int32)) fun S7 =>
  lt_ (wr S7 20 6 (0 : Int32)) fun S8 =>
  bd_ (f_X9_step  S8) fun r9 S10 =>
  f_X9_read_L16
    (fun  (S26 : St) =>
      some ((rd S26 20 5), S26))
    (fun  (S27 : St) =>
      some ((-1 : Int32), S27))
    (fun  (S28 : St) =>
      some ((rd S28 20 5), S28))
    (fun  (S29 : St) =>
      some ((rd S29 20 5), S29))
     FU (0 : Int32) S10

set_option maxHeartbeats 4000000 in
set_option maxRecDepth 100000 in
theorem w_X9_read_L16 {p : Program} {l : Launch} {e : Env} {s : State} {m : MethodId} {args : Array Value} {below : List Frame} {meth : Method} {c : Code} {E : En} {α : Nat → Nat} {g : Nat × Nat} (C : Cx p s m args meth c RX9 cX9_read 2 (some .int) E) {z : Int32 × St} {K35 : St → Option (Int32 × St)} {K54 : St → Option (Int32 × St)} {K74 : St → Option (Int32 × St)} {K89 : St → Option (Int32 × St)}
    (hK35 : ∀ (S : St) (H : Heap) (locs : List Loc) (ls : Array Slot), Rp E α g S H → va_S E.2.2.1 s.heap H locs → lv_has ls 2 [(0, .ref (α 20))] → K35  S = some z → W p l e rm_X9_read s m args below meth c H locs 0 0 (MQ below (Qi E α g z) args s 0 0 E.2.2.1) (F0 m 35 ls []))
    (hK54 : ∀ (S : St) (H : Heap) (locs : List Loc) (ls : Array Slot), Rp E α g S H → va_S E.2.2.1 s.heap H locs → lv_has ls 2 [] → K54  S = some z → W p l e rm_X9_read s m args below meth c H locs 0 0 (MQ below (Qi E α g z) args s 0 0 E.2.2.1) (F0 m 54 ls []))
    (hK74 : ∀ (S : St) (H : Heap) (locs : List Loc) (ls : Array Slot), Rp E α g S H → va_S E.2.2.1 s.heap H locs → lv_has ls 2 [(0, .ref (α 20))] → K74  S = some z → W p l e rm_X9_read s m args below meth c H locs 0 0 (MQ below (Qi E α g z) args s 0 0 E.2.2.1) (F0 m 74 ls []))
    (hK89 : ∀ (S : St) (H : Heap) (locs : List Loc) (ls : Array Slot), Rp E α g S H → va_S E.2.2.1 s.heap H locs → lv_has ls 2 [(0, .ref (α 20))] → K89  S = some z → W p l e rm_X9_read s m args below meth c H locs 0 0 (MQ below (Qi E α g z) args s 0 0 E.2.2.1) (F0 m 89 ls [])) :
    ∀ (f : Nat) (v1 : Int32) (S : St) (H : Heap) (locs : List Loc) (ls : Array Slot), Rp E α g S H → va_S E.2.2.1 s.heap H locs → lv_has ls 2 [(0, .ref (α 20)), (1, .int v1)] → f_X9_read_L16 K35 K54 K74 K89 f v1 S = some z → W p l e rm_X9_read s m args below meth c H locs 0 0 (MQ below (Qi E α g z) args s 0 0 E.2.2.1) (F0 m 16 ls []) := by
  obtain ⟨hx, hb, hml, hown, hts, hlk, hrt, hKs⟩ := id C
  intro f
  induction f with
  | zero =>
    intro v1 S H locs ls  hR hS hl h
    rw [f_X9_read_L16] at h
    cases h
  | succ f ih =>
    intro v1 S H locs ls  hR hS hl h
    rw [f_X9_read_L16] at h
    refine lv_iload_n hx hb dX9_read_16 rfl (lv_at hl 1 rfl) ?_
    refine lv_bipush (v := 10) hx hb dX9_read_17 (by decide) ?_
    refine lv_icmp_ge (tgt := 89) hx hb dX9_read_19 (by decide) (fun c11 => ?_) (fun c11 => ?_)
    · have h := ite_t c11 h
      exact hK89  _ _ _ _  hR hS (lv_sub hl [0] rfl) h
    · have h := ite_f c11 h
      refine lv_aload_n hx hb dX9_read_22 rfl (lv_at hl 0 rfl) ?_
      refine lv_aload_n hx hb dX9_read_23 rfl (lv_at hl 0 rfl) ?_
      refine g_getr (t := 22) C hR (k := 20) (j := 2) (live_st (by decide)) rfl rfl (vw9) inl9 (by decide) q253 dX9_read_24 ?_
      refine lv_iload_n hx hb dX9_read_27 rfl (lv_at hl 1 rfl) ?_
      obtain ⟨g12, h⟩ := gd_e h
      refine g_aldR C hR g12 dX9_read_28 (fun hn13 => ?_)
      obtain ⟨r14, S15, hr14, h⟩ := bd_e h
      refine g_ci hS (g_runV C hR hS (k := 20) (As := [.ref (α (23 + (Int32.toNatClampNeg v1)))]) (rest := []) (c_X9_readRow l hn13 hr14) (live_st (by decide)) rfl (vw9) m_X9_readRow q560 ⟨rfl, rfl⟩ ⟨Nat.le_of_ble_eq_true rfl, Nat.le_of_ble_eq_true rfl⟩ rfl hl.1 rfl (Nat.le_of_ble_eq_true rfl) dX9_read_29 ⟨Nat.zero_le _, Nat.zero_le _⟩) (fun H locs hR hS => ?_)
      refine lv_if_ne (tgt := 40) hx hb dX9_read_32 (by decide) (fun c16 => ?_) (fun c16 => ?_)
      · have h := ite_f c16 h
        refine lv_aload_n hx hb dX9_read_40 rfl (lv_at hl 0 rfl) ?_
        refine lv_iload_n hx hb dX9_read_41 rfl (lv_at hl 1 rfl) ?_
        refine lv_iconst (v := 1) hx hb dX9_read_42 (by decide) ?_
        refine lv_iadd hx hb dX9_read_43 ?_
        obtain ⟨S17, eS17, h⟩ := lt_e h
        refine g_puti C hR hS (k := 20) (j := 3) (live_st (by decide)) rfl rfl (vw9) inl9 (by decide) (ty0 := tyX9) tyX9_ok nmX9 q255 rfl rfl rfl eS17 dX9_read_44 (fun H locs hR hS => ?_)
        refine lv_aload_n hx hb dX9_read_47 rfl (lv_at hl 0 rfl) ?_
        refine g_geti C hR (k := 20) (j := 4) (live_st (by decide)) rfl rfl (vw9) inl9 (by decide) q257 dX9_read_48 ?_
        refine lv_if_ne (tgt := 56) hx hb dX9_read_51 (by decide) (fun c18 => ?_) (fun c18 => ?_)
        · have h := ite_f c18 h
          refine lv_aload_n hx hb dX9_read_56 rfl (lv_at hl 0 rfl) ?_
          refine lv_bipush (v := 59) hx hb dX9_read_57 (by decide) ?_
          obtain ⟨r19, S20, hr19, h⟩ := bd_e h
          refine g_ci hS (g_runV C hR hS (k := 20) (As := [.int (59 : Int32)]) (rest := []) (c_X9_isSign l  hr19) (live_st (by decide)) rfl (vw9) m_X9_isSign q636 ⟨rfl, rfl⟩ ⟨Nat.le_of_ble_eq_true rfl, Nat.le_of_ble_eq_true rfl⟩ rfl hl.1 rfl (Nat.le_of_ble_eq_true rfl) dX9_read_59 ⟨Nat.zero_le _, Nat.zero_le _⟩) (fun H locs hR hS => ?_)
          refine lv_if_eq (tgt := 74) hx hb dX9_read_62 (by decide) (fun c21 => ?_) (fun c21 => ?_)
          · have h := ite_t c21 h
            exact hK74  _ _ _ _  hR hS (lv_sub hl [0] rfl) h
          · have h := ite_f c21 h
            refine lv_aload_n hx hb dX9_read_65 rfl (lv_at hl 0 rfl) ?_
            refine g_geti C hR (k := 20) (j := 3) (live_st (by decide)) rfl rfl (vw9) inl9 (by decide) q255 dX9_read_66 ?_
            refine lv_bipush (v := 10) hx hb dX9_read_69 (by decide) ?_
            refine lv_icmp_ne (tgt := 79) hx hb dX9_read_71 (by decide) (fun c22 => ?_) (fun c22 => ?_)
            · have h := ite_f c22 h
              refine lv_aload_n hx hb dX9_read_79 rfl (lv_at hl 0 rfl) ?_
              obtain ⟨r23, S24, hr23, h⟩ := bd_e h
              refine g_cv hS (g_runV C hR hS (k := 20) (As := []) (rest := []) (c_X9_step l  hr23) (live_st (by decide)) rfl (vw9) m_X9_step q553 ⟨rfl, rfl⟩ ⟨Nat.le_of_ble_eq_true rfl, Nat.le_of_ble_eq_true rfl⟩ rfl hl.1 rfl (Nat.le_of_ble_eq_true rfl) dX9_read_80 ⟨Nat.zero_le _, Nat.zero_le _⟩) (fun H locs hR hS => ?_)
              obtain ⟨x25, ex25, h⟩ := lt_e h
              refine lv_iinc (v := x25) (lv' := [(1, .int x25), (0, .ref (α 20))]) hx hb dX9_read_83 hl (k := 1) rfl (by rw [ex25]; rfl) (by decide) rfl (fun ls hl => ?_)
              refine lv_goto (tgt := 16) hx hb dX9_read_86 (by decide) ?_
              exact ih _ _ _ _ _  hR hS (lv_sub hl [1, 0] rfl) h
            · have h := ite_t c22 h
              exact hK74  _ _ _ _  hR hS (lv_sub hl [0] rfl) h
        · have h := ite_t c18 h
          exact hK54  _ _ _ _  hR hS (lv_sub hl [] rfl) h
      · have h := ite_t c16 h
        exact hK35  _ _ _ _  hR hS (lv_sub hl [0] rfl) h

set_option maxHeartbeats 4000000 in
set_option maxRecDepth 100000 in
theorem c_X9_read (l : Launch) {E : En} {α : Nat → Nat} {g : Nat × Nat}  {S : St}  {z : Int32 × St} (h : f_X9_read  S = some z) : Met l yX9_read (wsY yX9_read cX9_read 2 (some .int)) rm_X9_read (va_Pc [.ref (α 20)] (Wd E α g S)) (Qi E α g z) 0 0 E.2.2.1 := by
  refine g_met [.ref (α 20)] (by decide) rfl (Nat.le_of_ble_eq_true rfl) ?_
  intro p e s m below meth c ls C hR hl
  generalize hae : ([.ref (α 20)] : List Value).toArray = args at C ⊢
  have hl : lv_has ls 2 [(0, .ref (α 20))] := hl
  obtain ⟨hx, hb, hml, hown, hts, hlk, hrt, hKs⟩ := id C
  have hS : va_S E.2.2.1 s.heap s.heap [] := va_S.rf
  unfold f_X9_read at h
  refine lv_aload_n hx hb dX9_read_0 rfl (lv_at hl 0 rfl) ?_
  refine lv_iconst (v := 0) hx hb dX9_read_1 (by decide) ?_
  obtain ⟨S7, eS7, h⟩ := lt_e h
  refine g_puti C hR hS (k := 20) (j := 3) (live_st (by decide)) rfl rfl (vw9) inl9 (by decide) (ty0 := tyX9) tyX9_ok nmX9 q255 rfl rfl rfl eS7 dX9_read_2 (fun H locs hR hS => ?_)
  refine lv_aload_n hx hb dX9_read_5 rfl (lv_at hl 0 rfl) ?_
  refine lv_iconst (v := 0) hx hb dX9_read_6 (by decide) ?_
  obtain ⟨S8, eS8, h⟩ := lt_e h
  refine g_puti C hR hS (k := 20) (j := 6) (live_st (by decide)) rfl rfl (vw9) inl9 (by decide) (ty0 := tyX9) tyX9_ok nmX9 q259 rfl rfl rfl eS8 dX9_read_7 (fun H locs hR hS => ?_)
  refine lv_aload_n hx hb dX9_read_10 rfl (lv_at hl 0 rfl) ?_
  obtain ⟨r9, S10, hr9, h⟩ := bd_e h
  refine g_cv hS (g_runV C hR hS (k := 20) (As := []) (rest := []) (c_X9_step l  hr9) (live_st (by decide)) rfl (vw9) m_X9_step q553 ⟨rfl, rfl⟩ ⟨Nat.le_of_ble_eq_true rfl, Nat.le_of_ble_eq_true rfl⟩ rfl hl.1 rfl (Nat.le_of_ble_eq_true rfl) dX9_read_11 ⟨Nat.zero_le _, Nat.zero_le _⟩) (fun H locs hR hS => ?_)
  refine lv_iconst (v := 0) hx hb dX9_read_14 (by decide) ?_
  refine lv_istore_n (lv' := [(1, .int (0 : Int32)), (0, .ref (α 20))]) hx hb dX9_read_15 rfl hl (by decide) rfl (fun ls hl => ?_)
  refine w_X9_read_L16 C ?_ ?_ ?_ ?_  _ _ _ _ _ _  hR hS (lv_sub hl [1, 0] rfl) h
  · intro  S26 H locs ls  hR hS hl h
    refine lv_aload_n hx hb dX9_read_35 rfl (lv_at hl 0 rfl) ?_
    refine g_geti C hR (k := 20) (j := 5) (live_st (by decide)) rfl rfl (vw9) inl9 (by decide) q258 dX9_read_36 ?_
    exact g_iret C hR hS h dX9_read_39
  · intro  S27 H locs ls  hR hS hl h
    refine lv_iconst (v := -1) hx hb dX9_read_54 (by decide) ?_
    exact g_iret C hR hS h dX9_read_55
  · intro  S28 H locs ls  hR hS hl h
    refine lv_aload_n hx hb dX9_read_74 rfl (lv_at hl 0 rfl) ?_
    refine g_geti C hR (k := 20) (j := 5) (live_st (by decide)) rfl rfl (vw9) inl9 (by decide) q258 dX9_read_75 ?_
    exact g_iret C hR hS h dX9_read_78
  · intro  S29 H locs ls  hR hS hl h
    refine lv_aload_n hx hb dX9_read_89 rfl (lv_at hl 0 rfl) ?_
    refine g_geti C hR (k := 20) (j := 5) (live_st (by decide)) rfl rfl (vw9) inl9 (by decide) q258 dX9_read_90 ?_
    exact g_iret C hR hS h dX9_read_93

/-! OneVoice.within(III)Z -/
abbrev rm_X10_within : Room := { frames := 0, cells := 0, slots := 0, locals := 0 }
theorem m_X10_within : MS yX10_within cX10_within 3 (some .boolean) 3 := ⟨q375, q68, q376, by decide +kernel⟩
def f_X10_within (v0 : Int32) (v1 : Int32) (v2 : Int32) (S : St) : Option (Int32 × St) :=
  lt_ (fun  (S1 : St) =>
      some ((0 : Int32), S1)) fun J14 =>
  if v0 < v1 then
    J14  S
  else
    if v2 < v0 then
      J14  S
    else
      some ((1 : Int32), S)

set_option maxHeartbeats 4000000 in
set_option maxRecDepth 100000 in
theorem c_X10_within (l : Launch) {E : En} {α : Nat → Nat} {g : Nat × Nat} {v0 : Int32} {v1 : Int32} {v2 : Int32} {S : St}  {z : Int32 × St} (h : f_X10_within v0 v1 v2 S = some z) : Met l yX10_within (wsY yX10_within cX10_within 3 (some .boolean)) rm_X10_within (va_Pc [.int v0, .int v1, .int v2] (Wd E α g S)) (Qi E α g z) 0 0 E.2.2.1 := by
  refine g_met [.int v0, .int v1, .int v2] (by decide) rfl (Nat.le_of_ble_eq_true rfl) ?_
  intro p e s m below meth c ls C hR hl
  generalize hae : ([.int v0, .int v1, .int v2] : List Value).toArray = args at C ⊢
  have hl : lv_has ls 3 [(0, .int v0), (1, .int v1), (2, .int v2)] := hl
  obtain ⟨hx, hb, hml, hown, hts, hlk, hrt, hKs⟩ := id C
  have hS : va_S E.2.2.1 s.heap s.heap [] := va_S.rf
  unfold f_X10_within at h
  refine lv_iload_n hx hb dX10_within_0 rfl (lv_at hl 0 rfl) ?_
  refine lv_iload_n hx hb dX10_within_1 rfl (lv_at hl 1 rfl) ?_
  obtain ⟨J14, eJ14, h⟩ := lt_e h
  have hJ14 : ∀ (S1 : St) (H : Heap) (locs : List Loc) (ls : Array Slot), Rp E α g S1 H → va_S E.2.2.1 s.heap H locs → lv_has ls 3 [] → J14  S1 = some z → W p l e rm_X10_within s m args below meth c H locs 0 0 (MQ below (Qi E α g z) args s 0 0 E.2.2.1) (F0 m 14 ls []) := by
    intro  S1 H locs ls  hR hS hl h
    rw [eJ14] at h
    refine lv_iconst (v := 0) hx hb dX10_within_14 (by decide) ?_
    exact g_zret C hR hS bz0 h dX10_within_15
  clear eJ14
  refine lv_icmp_lt (tgt := 14) hx hb dX10_within_2 (by decide) (fun c2 => ?_) (fun c2 => ?_)
  · have h := ite_t c2 h
    exact hJ14  _ _ _ _  hR hS (lv_sub hl [] rfl) h
  · have h := ite_f c2 h
    refine lv_iload_n hx hb dX10_within_5 rfl (lv_at hl 0 rfl) ?_
    refine lv_iload_n hx hb dX10_within_6 rfl (lv_at hl 2 rfl) ?_
    refine lv_icmp_gt (tgt := 14) hx hb dX10_within_7 (by decide) (fun c3 => ?_) (fun c3 => ?_)
    · have h := ite_t c3 h
      exact hJ14  _ _ _ _  hR hS (lv_sub hl [] rfl) h
    · have h := ite_f c3 h
      refine lv_iconst (v := 1) hx hb dX10_within_10 (by decide) ?_
      refine lv_goto (tgt := 15) hx hb dX10_within_11 (by decide) ?_
      exact g_zret C hR hS bz1 h dX10_within_15

/-! OneVoice.worn(II)I -/
abbrev rm_X10_worn : Room := { frames := 3, cells := 0, slots := 0, locals := 67 }
theorem m_X10_worn : MV yX10_worn RX10 cX10_worn 3 (some .int) 2 := ⟨q425, q426, q68, q427, by decide +kernel⟩
def f_X10_worn (v1 : Int32) (v2 : Int32) (S : St) : Option (Int32 × St) :=
  bd_ (f_X10_below v1 (rd S 1 1) S) fun r3 S4 =>
  if r3 = 0 then
    some ((-2 : Int32), S4)
  else
    gd_ (inb v1 16 ∧ (Int32.toNatClampNeg v1) < nP S4) <|
    bd_ (f_X10_below v2 ((1 : Int32) <<< ((rd S4 (200 + 2 * (Int32.toNatClampNeg v1)) 1) &&& 31)) S4) fun r8 S9 =>
    if r8 = 0 then
      some ((-3 : Int32), S9)
    else
      bd_ (f_X8_wear v1 v2 S9) fun r11 S12 =>
      some (r11, S12)

set_option maxHeartbeats 4000000 in
set_option maxRecDepth 100000 in
theorem c_X10_worn (l : Launch) {E : En} {α : Nat → Nat} {g : Nat × Nat} {v1 : Int32} {v2 : Int32} {S : St}  {z : Int32 × St} (h : f_X10_worn v1 v2 S = some z) : Met l yX10_worn (wsY yX10_worn cX10_worn 3 (some .int)) rm_X10_worn (va_Pc [.ref (α 0), .int v1, .int v2] (Wd E α g S)) (Qi E α g z) 0 0 E.2.2.1 := by
  refine g_met [.ref (α 0), .int v1, .int v2] (by decide) rfl (Nat.le_of_ble_eq_true rfl) ?_
  intro p e s m below meth c ls C hR hl
  generalize hae : ([.ref (α 0), .int v1, .int v2] : List Value).toArray = args at C ⊢
  have hl : lv_has ls 3 [(0, .ref (α 0)), (1, .int v1), (2, .int v2)] := hl
  obtain ⟨hx, hb, hml, hown, hts, hlk, hrt, hKs⟩ := id C
  have hS : va_S E.2.2.1 s.heap s.heap [] := va_S.rf
  unfold f_X10_worn at h
  refine lv_iload_n hx hb dX10_worn_0 rfl (lv_at hl 1 rfl) ?_
  refine lv_aload_n hx hb dX10_worn_1 rfl (lv_at hl 0 rfl) ?_
  refine g_getr (t := 1) C hR (k := 0) (j := 0) (live_st (by decide)) rfl rfl (vw10) inl10 (by decide) q348 dX10_worn_2 ?_
  refine g_geti C hR (k := 1) (j := 1) (live_st (by decide)) rfl rfl (vw8) inl8 (by decide) q107 dX10_worn_5 ?_
  obtain ⟨r3, S4, hr3, h⟩ := bd_e h
  refine g_ci hS (g_runS C hR hS (As := [.int v1, .int (rd S 1 1)]) (rest := []) (c_X10_below l  hr3) m_X10_below q377 ⟨rfl, rfl⟩ ⟨Nat.le_of_ble_eq_true rfl, Nat.le_of_ble_eq_true rfl⟩ rfl hl.1 rfl (Nat.le_of_ble_eq_true rfl) dX10_worn_8 ⟨Nat.zero_le _, Nat.zero_le _⟩) (fun H locs hR hS => ?_)
  refine lv_if_ne (tgt := 17) hx hb dX10_worn_11 (by decide) (fun c5 => ?_) (fun c5 => ?_)
  · have h := ite_f c5 h
    refine lv_iload_n hx hb dX10_worn_17 rfl (lv_at hl 2 rfl) ?_
    refine lv_iconst (v := 1) hx hb dX10_worn_18 (by decide) ?_
    refine lv_aload_n hx hb dX10_worn_19 rfl (lv_at hl 0 rfl) ?_
    refine g_getr (t := 1) C hR (k := 0) (j := 0) (live_st (by decide)) rfl rfl (vw10) inl10 (by decide) q348 dX10_worn_20 ?_
    refine g_getr (t := 2) C hR (k := 1) (j := 0) (live_st (by decide)) rfl rfl (vw8) inl8 (by decide) q104 dX10_worn_23 ?_
    refine lv_iload_n hx hb dX10_worn_26 rfl (lv_at hl 1 rfl) ?_
    obtain ⟨g6, h⟩ := gd_e h
    refine g_aldP C hR g6.1 g6.2 dX10_worn_27 (fun hn7 => ?_)
    refine g_geti C hR (k := (200 + 2 * (Int32.toNatClampNeg v1))) (j := 1) (live_p hn7) (lay_p (Nat.lt_of_lt_of_le hn7 hR.1.1)) rfl (vw3) inl3 (by decide) q388 dX10_worn_28 ?_
    refine lv_ishl hx hb dX10_worn_31 ?_
    obtain ⟨r8, S9, hr8, h⟩ := bd_e h
    refine g_ci hS (g_runS C hR hS (As := [.int v2, .int ((1 : Int32) <<< ((rd S4 (200 + 2 * (Int32.toNatClampNeg v1)) 1) &&& 31))]) (rest := []) (c_X10_below l  hr8) m_X10_below q377 ⟨rfl, rfl⟩ ⟨Nat.le_of_ble_eq_true rfl, Nat.le_of_ble_eq_true rfl⟩ rfl hl.1 rfl (Nat.le_of_ble_eq_true rfl) dX10_worn_32 ⟨Nat.zero_le _, Nat.zero_le _⟩) (fun H locs hR hS => ?_)
    refine lv_if_ne (tgt := 41) hx hb dX10_worn_35 (by decide) (fun c10 => ?_) (fun c10 => ?_)
    · have h := ite_f c10 h
      refine lv_aload_n hx hb dX10_worn_41 rfl (lv_at hl 0 rfl) ?_
      refine g_getr (t := 1) C hR (k := 0) (j := 0) (live_st (by decide)) rfl rfl (vw10) inl10 (by decide) q348 dX10_worn_42 ?_
      refine lv_iload_n hx hb dX10_worn_45 rfl (lv_at hl 1 rfl) ?_
      refine lv_iload_n hx hb dX10_worn_46 rfl (lv_at hl 2 rfl) ?_
      obtain ⟨r11, S12, hr11, h⟩ := bd_e h
      refine g_ci hS (g_runV C hR hS (k := 1) (As := [.int v1, .int v2]) (rest := []) (c_X8_wear l  hr11) (live_st (by decide)) rfl (vw8) m_X8_wear q428 ⟨rfl, rfl⟩ ⟨Nat.le_of_ble_eq_true rfl, Nat.le_of_ble_eq_true rfl⟩ rfl hl.1 rfl (Nat.le_of_ble_eq_true rfl) dX10_worn_47 ⟨Nat.zero_le _, Nat.zero_le _⟩) (fun H locs hR hS => ?_)
      exact g_iret C hR hS h dX10_worn_50
    · have h := ite_t c10 h
      refine lv_bipush (v := -3) hx hb dX10_worn_38 (by decide) ?_
      exact g_iret C hR hS h dX10_worn_40
  · have h := ite_t c5 h
    refine lv_bipush (v := -2) hx hb dX10_worn_14 (by decide) ?_
    exact g_iret C hR hS h dX10_worn_16

/-! OneVoice.of(III)I -/
abbrev rm_X10_of : Room := { frames := 1, cells := 0, slots := 0, locals := 21 }
theorem m_X10_of : MV yX10_of RX10 cX10_of 5 (some .int) 3 := ⟨q433, q434, q68, q435, by decide +kernel⟩
def f_X10_of (v1 : Int32) (v2 : Int32) (v3 : Int32) (S : St) : Option (Int32 × St) :=
  bd_ (f_X10_below v1 (rd S 1 1) S) fun r7 S8 =>
  if r7 = 0 then
    some ((-2 : Int32), S8)
  else
    gd_ (inb v1 16 ∧ (Int32.toNatClampNeg v1) < nP S8) <|
    bd_ (f_X10_below v2 (rd S8 (200 + 2 * (Int32.toNatClampNeg v1)) 1) S8) fun r12 S13 =>
    if r12 = 0 then
      some ((-2 : Int32), S13)
    else
      gd_ (inb v1 16 ∧ (Int32.toNatClampNeg v1) < nP S13) <|
      lt_ (Int32.toNatClampNeg v1) fun n17 =>
      if v3 = (0 : Int32) then
        bd_ (f_X3_soundAt n17 v2 S13) fun r19 S20 =>
        some (r19, S20)
      else
      if v3 = (1 : Int32) then
        gd_ (inb v2 8) <|
        some ((rd S13 (200 + 2 * n17 + 1) (Int32.toNatClampNeg v2)), S13)
      else
      if v3 = (2 : Int32) then
        bd_ (f_X3_wearAt n17 v2 S13) fun r24 S25 =>
        some (r24, S25)
      else
      some ((-3 : Int32), S13)

set_option maxHeartbeats 4000000 in
set_option maxRecDepth 100000 in
theorem c_X10_of (l : Launch) {E : En} {α : Nat → Nat} {g : Nat × Nat} {v1 : Int32} {v2 : Int32} {v3 : Int32} {S : St}  {z : Int32 × St} (h : f_X10_of v1 v2 v3 S = some z) : Met l yX10_of (wsY yX10_of cX10_of 5 (some .int)) rm_X10_of (va_Pc [.ref (α 0), .int v1, .int v2, .int v3] (Wd E α g S)) (Qi E α g z) 0 0 E.2.2.1 := by
  refine g_met [.ref (α 0), .int v1, .int v2, .int v3] (by decide) rfl (Nat.le_of_ble_eq_true rfl) ?_
  intro p e s m below meth c ls C hR hl
  generalize hae : ([.ref (α 0), .int v1, .int v2, .int v3] : List Value).toArray = args at C ⊢
  have hl : lv_has ls 5 [(0, .ref (α 0)), (1, .int v1), (2, .int v2), (3, .int v3)] := hl
  obtain ⟨hx, hb, hml, hown, hts, hlk, hrt, hKs⟩ := id C
  have hS : va_S E.2.2.1 s.heap s.heap [] := va_S.rf
  unfold f_X10_of at h
  refine lv_iload_n hx hb dX10_of_0 rfl (lv_at hl 1 rfl) ?_
  refine lv_aload_n hx hb dX10_of_1 rfl (lv_at hl 0 rfl) ?_
  refine g_getr (t := 1) C hR (k := 0) (j := 0) (live_st (by decide)) rfl rfl (vw10) inl10 (by decide) q348 dX10_of_2 ?_
  refine g_geti C hR (k := 1) (j := 1) (live_st (by decide)) rfl rfl (vw8) inl8 (by decide) q107 dX10_of_5 ?_
  obtain ⟨r7, S8, hr7, h⟩ := bd_e h
  refine g_ci hS (g_runS C hR hS (As := [.int v1, .int (rd S 1 1)]) (rest := []) (c_X10_below l  hr7) m_X10_below q377 ⟨rfl, rfl⟩ ⟨Nat.le_of_ble_eq_true rfl, Nat.le_of_ble_eq_true rfl⟩ rfl hl.1 rfl (Nat.le_of_ble_eq_true rfl) dX10_of_8 ⟨Nat.zero_le _, Nat.zero_le _⟩) (fun H locs hR hS => ?_)
  refine lv_if_eq (tgt := 33) hx hb dX10_of_11 (by decide) (fun c9 => ?_) (fun c9 => ?_)
  · have h := ite_t c9 h
    refine lv_bipush (v := -2) hx hb dX10_of_33 (by decide) ?_
    exact g_iret C hR hS h dX10_of_35
  · have h := ite_f c9 h
    refine lv_iload_n hx hb dX10_of_14 rfl (lv_at hl 2 rfl) ?_
    refine lv_aload_n hx hb dX10_of_15 rfl (lv_at hl 0 rfl) ?_
    refine g_getr (t := 1) C hR (k := 0) (j := 0) (live_st (by decide)) rfl rfl (vw10) inl10 (by decide) q348 dX10_of_16 ?_
    refine g_getr (t := 2) C hR (k := 1) (j := 0) (live_st (by decide)) rfl rfl (vw8) inl8 (by decide) q104 dX10_of_19 ?_
    refine lv_iload_n hx hb dX10_of_22 rfl (lv_at hl 1 rfl) ?_
    obtain ⟨g10, h⟩ := gd_e h
    refine g_aldP C hR g10.1 g10.2 dX10_of_23 (fun hn11 => ?_)
    refine g_geti C hR (k := (200 + 2 * (Int32.toNatClampNeg v1))) (j := 1) (live_p hn11) (lay_p (Nat.lt_of_lt_of_le hn11 hR.1.1)) rfl (vw3) inl3 (by decide) q388 dX10_of_24 ?_
    obtain ⟨r12, S13, hr12, h⟩ := bd_e h
    refine g_ci hS (g_runS C hR hS (As := [.int v2, .int (rd S8 (200 + 2 * (Int32.toNatClampNeg v1)) 1)]) (rest := []) (c_X10_below l  hr12) m_X10_below q377 ⟨rfl, rfl⟩ ⟨Nat.le_of_ble_eq_true rfl, Nat.le_of_ble_eq_true rfl⟩ rfl hl.1 rfl (Nat.le_of_ble_eq_true rfl) dX10_of_27 ⟨Nat.zero_le _, Nat.zero_le _⟩) (fun H locs hR hS => ?_)
    refine lv_if_ne (tgt := 36) hx hb dX10_of_30 (by decide) (fun c14 => ?_) (fun c14 => ?_)
    · have h := ite_f c14 h
      refine lv_aload_n hx hb dX10_of_36 rfl (lv_at hl 0 rfl) ?_
      refine g_getr (t := 1) C hR (k := 0) (j := 0) (live_st (by decide)) rfl rfl (vw10) inl10 (by decide) q348 dX10_of_37 ?_
      refine g_getr (t := 2) C hR (k := 1) (j := 0) (live_st (by decide)) rfl rfl (vw8) inl8 (by decide) q104 dX10_of_40 ?_
      refine lv_iload_n hx hb dX10_of_43 rfl (lv_at hl 1 rfl) ?_
      obtain ⟨g15, h⟩ := gd_e h
      refine g_aldP C hR g15.1 g15.2 dX10_of_44 (fun hn16 => ?_)
      obtain ⟨n17, en17, h⟩ := lt_e h
      have hn17 : n17 < g.1 := by rw [en17]; exact hn16
      refine g_nmP en17 ?_
      refine lv_astore (lv' := [(4, .ref (α (200 + 2 * n17))), (0, .ref (α 0)), (1, .int v1), (2, .int v2), (3, .int v3)]) hx hb dX10_of_45 hl (by decide) rfl (fun ls hl => ?_)
      refine lv_iload_n hx hb dX10_of_47 rfl (lv_at hl 4 rfl) ?_
      by_cases c18 : v3 = (0 : Int32)
      · have h := ite_t c18 h
        refine lv_tableIn (off := 28) (tgt := 76) hx hb dX10_of_48 (by rw [c18]; decide) (by rw [c18]; decide) (by rw [c18]; rfl) (by decide) ?_
        refine lv_aload hx hb dX10_of_76 (lv_at hl 0 rfl) ?_
        refine lv_iload_n hx hb dX10_of_78 rfl (lv_at hl 3 rfl) ?_
        obtain ⟨r19, S20, hr19, h⟩ := bd_e h
        refine g_ci hS (g_runV C hR hS (k := (200 + 2 * n17)) (As := [.int v2]) (rest := []) (c_X3_soundAt l hn17 hr19) (live_p hn17) (lay_p (Nat.lt_of_lt_of_le hn17 hR.1.1)) (vw3) m_X3_soundAt q436 ⟨rfl, rfl⟩ ⟨Nat.le_of_ble_eq_true rfl, Nat.le_of_ble_eq_true rfl⟩ rfl hl.1 rfl (Nat.le_of_ble_eq_true rfl) dX10_of_79 ⟨Nat.zero_le _, Nat.zero_le _⟩) (fun H locs hR hS => ?_)
        exact g_iret C hR hS h dX10_of_82
      have h := ite_f c18 h
      by_cases c21 : v3 = (1 : Int32)
      · have h := ite_t c21 h
        refine lv_tableIn (off := 35) (tgt := 83) hx hb dX10_of_48 (by rw [c21]; decide) (by rw [c21]; decide) (by rw [c21]; rfl) (by decide) ?_
        refine lv_aload hx hb dX10_of_83 (lv_at hl 0 rfl) ?_
        refine g_getr (t := (200 + 2 * n17 + 1)) C hR (k := (200 + 2 * n17)) (j := 3) (live_p hn17) (lay_p (Nat.lt_of_lt_of_le hn17 hR.1.1)) rfl (vw3) inl3 (by decide) q393 dX10_of_85 ?_
        refine lv_iload_n hx hb dX10_of_88 rfl (lv_at hl 3 rfl) ?_
        obtain ⟨g22, h⟩ := gd_e h
        refine g_iald C hR (k := (200 + 2 * n17 + 1)) (n := 8) (live_pt hn17) (lay_pt (Nat.lt_of_lt_of_le hn17 hR.1.1)) g22 dX10_of_89 ?_
        exact g_iret C hR hS h dX10_of_90
      have h := ite_f c21 h
      by_cases c23 : v3 = (2 : Int32)
      · have h := ite_t c23 h
        refine lv_tableIn (off := 43) (tgt := 91) hx hb dX10_of_48 (by rw [c23]; decide) (by rw [c23]; decide) (by rw [c23]; rfl) (by decide) ?_
        refine lv_aload hx hb dX10_of_91 (lv_at hl 0 rfl) ?_
        refine lv_iload_n hx hb dX10_of_93 rfl (lv_at hl 3 rfl) ?_
        obtain ⟨r24, S25, hr24, h⟩ := bd_e h
        refine g_ci hS (g_runV C hR hS (k := (200 + 2 * n17)) (As := [.int v2]) (rest := []) (c_X3_wearAt l hn17 hr24) (live_p hn17) (lay_p (Nat.lt_of_lt_of_le hn17 hR.1.1)) (vw3) m_X3_wearAt q440 ⟨rfl, rfl⟩ ⟨Nat.le_of_ble_eq_true rfl, Nat.le_of_ble_eq_true rfl⟩ rfl hl.1 rfl (Nat.le_of_ble_eq_true rfl) dX10_of_94 ⟨Nat.zero_le _, Nat.zero_le _⟩) (fun H locs hR hS => ?_)
        exact g_iret C hR hS h dX10_of_97
      have h := ite_f c23 h
      have c18 := tsw_ne (k := 0) c18 (by decide)
      have c21 := tsw_ne (k := 1) c21 (by decide)
      have c23 := tsw_ne (k := 2) c23 (by decide)
      refine lv_tableOut (tgt := 98) hx hb dX10_of_48 (by omega) (by decide) ?_
      refine lv_bipush (v := -3) hx hb dX10_of_98 (by decide) ?_
      exact g_iret C hR hS h dX10_of_100
    · have h := ite_t c14 h
      refine lv_bipush (v := -2) hx hb dX10_of_33 (by decide) ?_
      exact g_iret C hR hS h dX10_of_35

/-! OneVoice.lost()I -/
abbrev rm_X10_lost : Room := { frames := 2, cells := 0, slots := 0, locals := 42 }
theorem m_X10_lost : MV yX10_lost RX10 cX10_lost 1 (some .int) 0 := ⟨q445, q446, q68, q447, by decide +kernel⟩
def f_X10_lost  (S : St) : Option (Int32 × St) :=
  bd_ (f_X8_lostInAll  S) fun r1 S2 =>
  some (r1, S2)

set_option maxHeartbeats 4000000 in
set_option maxRecDepth 100000 in
theorem c_X10_lost (l : Launch) {E : En} {α : Nat → Nat} {g : Nat × Nat}  {S : St}  {z : Int32 × St} (h : f_X10_lost  S = some z) : Met l yX10_lost (wsY yX10_lost cX10_lost 1 (some .int)) rm_X10_lost (va_Pc [.ref (α 0)] (Wd E α g S)) (Qi E α g z) 0 0 E.2.2.1 := by
  refine g_met [.ref (α 0)] (by decide) rfl (Nat.le_of_ble_eq_true rfl) ?_
  intro p e s m below meth c ls C hR hl
  generalize hae : ([.ref (α 0)] : List Value).toArray = args at C ⊢
  have hl : lv_has ls 1 [(0, .ref (α 0))] := hl
  obtain ⟨hx, hb, hml, hown, hts, hlk, hrt, hKs⟩ := id C
  have hS : va_S E.2.2.1 s.heap s.heap [] := va_S.rf
  unfold f_X10_lost at h
  refine lv_aload_n hx hb dX10_lost_0 rfl (lv_at hl 0 rfl) ?_
  refine g_getr (t := 1) C hR (k := 0) (j := 0) (live_st (by decide)) rfl rfl (vw10) inl10 (by decide) q348 dX10_lost_1 ?_
  obtain ⟨r1, S2, hr1, h⟩ := bd_e h
  refine g_ci hS (g_runV C hR hS (k := 1) (As := []) (rest := []) (c_X8_lostInAll l  hr1) (live_st (by decide)) rfl (vw8) m_X8_lostInAll q448 ⟨rfl, rfl⟩ ⟨Nat.le_of_ble_eq_true rfl, Nat.le_of_ble_eq_true rfl⟩ rfl hl.1 rfl (Nat.le_of_ble_eq_true rfl) dX10_lost_4 ⟨Nat.zero_le _, Nat.zero_le _⟩) (fun H locs hR hS => ?_)
  exact g_iret C hR hS h dX10_lost_7

/-! OneVoice.said(IJII)I -/
abbrev rm_X10_said : Room := { frames := 3, cells := 0, slots := 0, locals := 78 }
theorem m_X10_said : MV yX10_said RX10 cX10_said 6 (some .int) 4 := ⟨q459, q460, q68, q461, by decide +kernel⟩
def f_X10_said (v1 : Int32) (v2 : Int64) (v4 : Int32) (v5 : Int32) (S : St) : Option (Int32 × St) :=
  bd_ (f_X10_below v1 (4 : Int32) S) fun r1 S2 =>
  if r1 = 0 then
    some ((-3 : Int32), S2)
  else
    bd_ (f_X10_within v4 (1 : Int32) (16 : Int32) S2) fun r4 S5 =>
    if r4 = 0 then
      some ((-3 : Int32), S5)
    else
      bd_ (f_X10_below v5 (2 : Int32) S5) fun r7 S8 =>
      if r7 = 0 then
        some ((-3 : Int32), S8)
      else
        bd_ (f_X6_weigh v1 v2 v4 S8) fun r10 S11 =>
        if v5 = 0 then
          bd_ (f_X6_leastJar  S11) fun r13 S14 =>
          some (r13, S14)
        else
          some ((rd S11 3 15), S11)

set_option maxHeartbeats 4000000 in
set_option maxRecDepth 100000 in
theorem c_X10_said (l : Launch) {E : En} {α : Nat → Nat} {g : Nat × Nat} {v1 : Int32} {v2 : Int64} {v4 : Int32} {v5 : Int32} {S : St}  {z : Int32 × St} (h : f_X10_said v1 v2 v4 v5 S = some z) : Met l yX10_said (wsY yX10_said cX10_said 6 (some .int)) rm_X10_said (va_Pc [.ref (α 0), .int v1, .long v2, .int v4, .int v5] (Wd E α g S)) (Qi E α g z) 0 0 E.2.2.1 := by
  refine g_met [.ref (α 0), .int v1, .long v2, .int v4, .int v5] (by decide) rfl (Nat.le_of_ble_eq_true rfl) ?_
  intro p e s m below meth c ls C hR hl
  generalize hae : ([.ref (α 0), .int v1, .long v2, .int v4, .int v5] : List Value).toArray = args at C ⊢
  have hl : lv_has ls 6 [(0, .ref (α 0)), (1, .int v1), (2, .long v2), (4, .int v4), (5, .int v5)] := hl
  obtain ⟨hx, hb, hml, hown, hts, hlk, hrt, hKs⟩ := id C
  have hS : va_S E.2.2.1 s.heap s.heap [] := va_S.rf
  unfold f_X10_said at h
  refine lv_iload_n hx hb dX10_said_0 rfl (lv_at hl 1 rfl) ?_
  refine lv_iconst (v := 4) hx hb dX10_said_1 (by decide) ?_
  obtain ⟨r1, S2, hr1, h⟩ := bd_e h
  refine g_ci hS (g_runS C hR hS (As := [.int v1, .int (4 : Int32)]) (rest := []) (c_X10_below l  hr1) m_X10_below q377 ⟨rfl, rfl⟩ ⟨Nat.le_of_ble_eq_true rfl, Nat.le_of_ble_eq_true rfl⟩ rfl hl.1 rfl (Nat.le_of_ble_eq_true rfl) dX10_said_2 ⟨Nat.zero_le _, Nat.zero_le _⟩) (fun H locs hR hS => ?_)
  refine lv_if_eq (tgt := 28) hx hb dX10_said_5 (by decide) (fun c3 => ?_) (fun c3 => ?_)
  · have h := ite_t c3 h
    refine lv_bipush (v := -3) hx hb dX10_said_28 (by decide) ?_
    exact g_iret C hR hS h dX10_said_30
  · have h := ite_f c3 h
    refine lv_iload hx hb dX10_said_8 (lv_at hl 3 rfl) ?_
    refine lv_iconst (v := 1) hx hb dX10_said_10 (by decide) ?_
    refine lv_bipush (v := 16) hx hb dX10_said_11 (by decide) ?_
    obtain ⟨r4, S5, hr4, h⟩ := bd_e h
    refine g_ci hS (g_runS C hR hS (As := [.int v4, .int (1 : Int32), .int (16 : Int32)]) (rest := []) (c_X10_within l  hr4) m_X10_within q374 ⟨rfl, rfl⟩ ⟨Nat.le_of_ble_eq_true rfl, Nat.le_of_ble_eq_true rfl⟩ rfl hl.1 rfl (Nat.le_of_ble_eq_true rfl) dX10_said_13 ⟨Nat.zero_le _, Nat.zero_le _⟩) (fun H locs hR hS => ?_)
    refine lv_if_eq (tgt := 28) hx hb dX10_said_16 (by decide) (fun c6 => ?_) (fun c6 => ?_)
    · have h := ite_t c6 h
      refine lv_bipush (v := -3) hx hb dX10_said_28 (by decide) ?_
      exact g_iret C hR hS h dX10_said_30
    · have h := ite_f c6 h
      refine lv_iload hx hb dX10_said_19 (lv_at hl 4 rfl) ?_
      refine lv_iconst (v := 2) hx hb dX10_said_21 (by decide) ?_
      obtain ⟨r7, S8, hr7, h⟩ := bd_e h
      refine g_ci hS (g_runS C hR hS (As := [.int v5, .int (2 : Int32)]) (rest := []) (c_X10_below l  hr7) m_X10_below q377 ⟨rfl, rfl⟩ ⟨Nat.le_of_ble_eq_true rfl, Nat.le_of_ble_eq_true rfl⟩ rfl hl.1 rfl (Nat.le_of_ble_eq_true rfl) dX10_said_22 ⟨Nat.zero_le _, Nat.zero_le _⟩) (fun H locs hR hS => ?_)
      refine lv_if_ne (tgt := 31) hx hb dX10_said_25 (by decide) (fun c9 => ?_) (fun c9 => ?_)
      · have h := ite_f c9 h
        refine lv_aload_n hx hb dX10_said_31 rfl (lv_at hl 0 rfl) ?_
        refine g_getr (t := 3) C hR (k := 0) (j := 1) (live_st (by decide)) rfl rfl (vw10) inl10 (by decide) q349 dX10_said_32 ?_
        refine lv_iload_n hx hb dX10_said_35 rfl (lv_at hl 1 rfl) ?_
        refine lv_lload_n hx hb dX10_said_36 rfl (lv_at hl 2 rfl) ?_
        refine lv_iload hx hb dX10_said_37 (lv_at hl 3 rfl) ?_
        obtain ⟨r10, S11, hr10, h⟩ := bd_e h
        refine g_cv hS (g_runV C hR hS (k := 3) (As := [.int v1, .long v2, .int v4]) (rest := []) (c_X6_weigh l  hr10) (live_st (by decide)) rfl (vw6) m_X6_weigh q462 ⟨rfl, rfl⟩ ⟨Nat.le_of_ble_eq_true rfl, Nat.le_of_ble_eq_true rfl⟩ rfl hl.1 rfl (Nat.le_of_ble_eq_true rfl) dX10_said_39 ⟨Nat.zero_le _, Nat.zero_le _⟩) (fun H locs hR hS => ?_)
        refine lv_iload hx hb dX10_said_42 (lv_at hl 4 rfl) ?_
        refine lv_if_ne (tgt := 57) hx hb dX10_said_44 (by decide) (fun c12 => ?_) (fun c12 => ?_)
        · have h := ite_f c12 h
          refine lv_aload_n hx hb dX10_said_57 rfl (lv_at hl 0 rfl) ?_
          refine g_getr (t := 3) C hR (k := 0) (j := 1) (live_st (by decide)) rfl rfl (vw10) inl10 (by decide) q349 dX10_said_58 ?_
          refine g_geti C hR (k := 3) (j := 15) (live_st (by decide)) rfl rfl (vw6) inl6 (by decide) q136 dX10_said_61 ?_
          exact g_iret C hR hS h dX10_said_64
        · have h := ite_t c12 h
          refine lv_aload_n hx hb dX10_said_47 rfl (lv_at hl 0 rfl) ?_
          refine g_getr (t := 3) C hR (k := 0) (j := 1) (live_st (by decide)) rfl rfl (vw10) inl10 (by decide) q349 dX10_said_48 ?_
          obtain ⟨r13, S14, hr13, h⟩ := bd_e h
          refine g_ci hS (g_runV C hR hS (k := 3) (As := []) (rest := []) (c_X6_leastJar l  hr13) (live_st (by decide)) rfl (vw6) m_X6_leastJar q506 ⟨rfl, rfl⟩ ⟨Nat.le_of_ble_eq_true rfl, Nat.le_of_ble_eq_true rfl⟩ rfl hl.1 rfl (Nat.le_of_ble_eq_true rfl) dX10_said_51 ⟨Nat.zero_le _, Nat.zero_le _⟩) (fun H locs hR hS => ?_)
          refine lv_goto (tgt := 64) hx hb dX10_said_54 (by decide) ?_
          exact g_iret C hR hS h dX10_said_64
      · have h := ite_t c9 h
        refine lv_bipush (v := -3) hx hb dX10_said_28 (by decide) ?_
        exact g_iret C hR hS h dX10_said_30
