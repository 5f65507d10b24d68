def sndOf (v1 v2 : Int32) : Int32 := if (8 : Int32) ≤ v2 then v1 else (v1 &&& (((1 : Int32) <<< (((4 : Int32) * v2) &&& 31)) - (1 : Int32)))
def pcL (v2 v3 v4 : Int32) : Nat → Int32 → (Nat → Int32) → Option (Nat → Int32)
  | 0, _, _ => none
  | f + 1, i, a =>
    if v2 ≤ i then some a
    else if (8 : Int32) ≤ i then some a
    else
      gd_ (¬ (v2 - (1 : Int32)) = 0) <|
      gd_ (inb i 8) <|
      lt_ (i + (1 : Int32)) fun i1 =>
      pcL v2 v3 v4 f i1 (upd a (Int32.toNatClampNeg i) (v3 + ((i * (v4 - v3)) / (v2 - (1 : Int32)))))
def pcT (v2 v3 v4 : Int32) : Option (Nat → Int32) := pcL v2 v3 v4 FU (1 : Int32) (upd (fun _ => 0) (Int32.toNatClampNeg (0 : Int32)) v3)
set_option maxHeartbeats 4000000 in
set_option maxRecDepth 100000 in
theorem w_X3_init_L56 {p : Program} {l : Launch} {e : Env} {R : Room} {s : State} {m : MethodId} {args : Array Value} {below : List Frame} {meth : Method} {c : Code} {E : En} {A : Nat → Prop} {cells slots : Nat} {Q : State → Prop} (C : CI p s m args meth c RX3 cX3_init 7 E) {h0 q1 : Nat} {x v2 v3 v4 v5 : Int32} {b : Nat → Int32}
    (hK : ∀ (H : Heap) (locs : List Loc) (ls : Array Slot), va_P E.1 vwCl [(h0, .inr (3, [.int x, .int v2, .int v5, .ref q1, .int 0, .int 0])), (q1, .inl (E.2.1 0, 8, .inl b))] H → va_D A [(h0, .inr (3, [.int x, .int v2, .int v5, .ref q1, .int 0, .int 0])), (q1, .inl (E.2.1 0, 8, .inl b))] → va_S A s.heap H locs → lv_has ls 7 [] → W p l e R s m args below meth c H locs cells slots Q (F0 m 95 ls [])) :
    ∀ (f : Nat) (i : Int32) (a : Nat → Int32) (H : Heap) (locs : List Loc) (ls : Array Slot), va_P E.1 vwCl [(h0, .inr (3, [.int x, .int v2, .int v5, .ref q1, .int 0, .int 0])), (q1, .inl (E.2.1 0, 8, .inl a))] H → va_D A [(h0, .inr (3, [.int x, .int v2, .int v5, .ref q1, .int 0, .int 0])), (q1, .inl (E.2.1 0, 8, .inl a))] → va_S A s.heap H locs → lv_has ls 7 [(0, .ref h0), (2, .int v2), (3, .int v3), (4, .int v4), (6, .int i)] → pcL v2 v3 v4 f i a = some b → W p l e R s m args below meth c H locs cells slots Q (F0 m 56 ls []) := by
  obtain ⟨hx, hb, hml, hown, hts, hlk, hrt, hin, hKc⟩ := id C
  intro f
  induction f with
  | zero =>
    intro i a H locs ls hP hD hS hl h
    rw [pcL] at h
    cases h
  | succ f ih =>
    intro i a H locs ls hP hD hS hl h
    rw [pcL] at h
    refine lv_iload hx hb dX3_init_56 (lv_at hl 4 rfl) ?_
    refine lv_iload_n hx hb dX3_init_58 rfl (lv_at hl 1 rfl) ?_
    refine lv_icmp_ge (tgt := 95) hx hb dX3_init_59 (by decide) (fun c1 => ?_) (fun c1 => ?_)
    · have h := ite_t c1 h
      cases h
      exact hK _ _ _ hP hD hS (lv_sub hl [] rfl)
    have h := ite_f c1 h
    refine lv_iload hx hb dX3_init_62 (lv_at hl 4 rfl) ?_
    refine lv_bipush (v := 8) hx hb dX3_init_64 (by decide) ?_
    refine lv_icmp_ge (tgt := 95) hx hb dX3_init_66 (by decide) (fun c2 => ?_) (fun c2 => ?_)
    · have h := ite_t c2 h
      cases h
      exact hK _ _ _ hP hD hS (lv_sub hl [] rfl)
    have h := ite_f c2 h
    obtain ⟨g1, h⟩ := gd_e h
    obtain ⟨g2, h⟩ := gd_e h
    obtain ⟨i1, e1, h⟩ := lt_e h
    refine lv_aload_n hx hb dX3_init_69 rfl (lv_at hl 0 rfl) ?_
    refine va_get (D := E.1) (ci := 3) (v := .ref q1) (C := RX3) (T := TX3) (N := 6) hx hb hts inl3 hown hKc.1 hP 0 rfl rfl 3 (by decide) (hts _ q392) (fun _ h9 => h9) rfl dX3_init_70 ?_
    refine lv_iload hx hb dX3_init_73 (lv_at hl 4 rfl) ?_
    refine lv_iload_n hx hb dX3_init_75 rfl (lv_at hl 2 rfl) ?_
    refine lv_iload hx hb dX3_init_76 (lv_at hl 4 rfl) ?_
    refine lv_iload hx hb dX3_init_78 (lv_at hl 3 rfl) ?_
    refine lv_iload_n hx hb dX3_init_80 rfl (lv_at hl 2 rfl) ?_
    refine lv_isub hx hb dX3_init_81 ?_
    refine lv_imul hx hb dX3_init_82 ?_
    refine lv_iload_n hx hb dX3_init_83 rfl (lv_at hl 1 rfl) ?_
    refine lv_iconst (v := 1) hx hb dX3_init_84 (by decide) ?_
    refine lv_isub hx hb dX3_init_85 ?_
    refine lv_idiv hx hb dX3_init_86 g1 ?_
    refine lv_iadd hx hb dX3_init_87 ?_
    refine va_iast hx hb hKc.1 hP hD hS 1 0 rfl rfl g2 dX3_init_88 (fun H locs hP hD hS => ?_)
    refine lv_iinc (v := i1) (lv' := [(6, .int i1), (0, .ref h0), (2, .int v2), (3, .int v3), (4, .int v4)]) hx hb dX3_init_89 hl (k := 4) rfl (by rw [e1]; rfl) (by decide) rfl (fun ls hl => ?_)
    refine lv_goto (tgt := 56) hx hb dX3_init_92 (by decide) ?_
    exact ih i1 _ H locs ls hP hD hS (lv_sub hl [1, 2, 3, 4, 0] rfl) h
abbrev rm_X3_init : Room := { frames := 1, cells := 1, slots := 8, locals := 12 }
abbrev w0_X3_init (E : En) (h0 : Nat) : va_W := [(h0, .inr (3, [.int 0, .int 0, .int 0, .null, .int 0, .int 0]))]
abbrev w1_X3_init (E : En) (h0 : Nat) (v1 v2 v5 : Int32) (b : Nat → Int32) (q : Nat → Nat) : va_W := [(h0, .inr (3, [.int (sndOf v1 v2), .int v2, .int v5, .ref (q 0), .int 0, .int 0])), ((q 0), .inl (E.2.1 0, 8, .inl b))]
set_option maxHeartbeats 8000000 in
set_option maxRecDepth 100000 in
theorem c_X3_init (l : Launch) {E : En} {h0 sz : Nat} (v1 v2 v3 v4 v5 : Int32) {b : Nat → Int32} (h : pcT v2 v3 v4 = some b) : Met l yX3_init (wsY yX3_init cX3_init 7 none) rm_X3_init (va_Pc [.ref h0, .int v1, .int v2, .int v3, .int v4, .int v5] (PI E (w0_X3_init E h0) sz)) (QI E (w0_X3_init E h0) sz (w1_X3_init E h0 v1 v2 v5 b)) 1 8 (va_A (w0_X3_init E h0) sz) := by
  refine n_met [.ref h0, .int v1, .int v2, .int v3, .int v4, .int v5] (by decide) rfl rfl (Nat.le_of_ble_eq_true rfl) ?_
  intro p e s m below meth c ls C hP hD hsz hl
  subst hsz
  generalize hae : ([.ref h0, .int v1, .int v2, .int v3, .int v4, .int v5] : List Value).toArray = args at C ⊢
  obtain ⟨hx, hb, hml, hown, hts, hlk, hrt, hin, hKc⟩ := id C
  generalize hAe : va_A (w0_X3_init E h0) s.heap.size = A at hD ⊢
  have hA : ∀ q : Nat, s.heap.size ≤ q → A q := fun q h => by rw [← hAe]; exact Or.inr h
  have hS : va_S A s.heap s.heap [] := va_S.rf
  have hP : va_P E.1 vwCl [(h0, .inr (3, [.int 0, .int 0, .int 0, .null, .int 0, .int 0]))] s.heap := hP
  have hD : va_D A [(h0, .inr (3, [.int 0, .int 0, .int 0, .null, .int 0, .int 0]))] := hD
  have hl : lv_has ls 7 [(0, .ref h0), (1, .int v1), (2, .int v2), (3, .int v3), (4, .int v4), (5, .int v5)] := hl
  have hJ : ∀ x : Int32, x = sndOf v1 v2 → W p l e rm_X3_init s m args below meth c s.heap [] 0 0 (MQ below (QI E (w0_X3_init E h0) s.heap.size (w1_X3_init E h0 v1 v2 v5 b)) args s 1 8 A) (F0 m 24 ls [.int x, .ref h0]) := by
    intro x ex
    refine va_putF (D := E.1) (ci := 3) (v := .int x) (ty := tyX3 0) (C := RX3) (T := TX3) (N := 6) hx hb hts inl3 tyX3 tyX3_ok nmX3 hown hKc.1 hP hD hS 0 rfl rfl 0 (by decide) (hts _ q386) (fun _ h9 => h9) rfl hin rfl (tyX3_ok 0 (by decide)) rfl rfl (Nat.le_of_ble_eq_true rfl) dX3_init_24 (fun H locs hP hD hS => ?_)
    have hP : va_P E.1 vwCl [(h0, .inr (3, [.int x, .int 0, .int 0, .null, .int 0, .int 0]))] H := hP
    have hD : va_D A [(h0, .inr (3, [.int x, .int 0, .int 0, .null, .int 0, .int 0]))] := hD
    refine lv_aload_n hx hb dX3_init_27 rfl (lv_at hl 0 rfl) ?_
    refine lv_iload_n hx hb dX3_init_28 rfl (lv_at hl 2 rfl) ?_
    refine va_putF (D := E.1) (ci := 3) (v := .int v2) (ty := tyX3 1) (C := RX3) (T := TX3) (N := 6) hx hb hts inl3 tyX3 tyX3_ok nmX3 hown hKc.1 hP hD hS 0 rfl rfl 1 (by decide) (hts _ q387) (fun _ h9 => h9) rfl hin rfl (tyX3_ok 1 (by decide)) rfl rfl (Nat.le_of_ble_eq_true rfl) dX3_init_29 (fun H locs hP hD hS => ?_)
    have hP : va_P E.1 vwCl [(h0, .inr (3, [.int x, .int v2, .int 0, .null, .int 0, .int 0]))] H := hP
    have hD : va_D A [(h0, .inr (3, [.int x, .int v2, .int 0, .null, .int 0, .int 0]))] := hD
    refine lv_aload_n hx hb dX3_init_32 rfl (lv_at hl 0 rfl) ?_
    refine lv_iload hx hb dX3_init_33 (lv_at hl 5 rfl) ?_
    refine va_putF (D := E.1) (ci := 3) (v := .int v5) (ty := tyX3 2) (C := RX3) (T := TX3) (N := 6) hx hb hts inl3 tyX3 tyX3_ok nmX3 hown hKc.1 hP hD hS 0 rfl rfl 2 (by decide) (hts _ q390) (fun _ h9 => h9) rfl hin rfl (tyX3_ok 2 (by decide)) rfl rfl (Nat.le_of_ble_eq_true rfl) dX3_init_35 (fun H locs hP hD hS => ?_)
    have hP : va_P E.1 vwCl [(h0, .inr (3, [.int x, .int v2, .int v5, .null, .int 0, .int 0]))] H := hP
    have hD : va_D A [(h0, .inr (3, [.int x, .int v2, .int v5, .null, .int 0, .int 0]))] := hD
    refine lv_aload_n hx hb dX3_init_38 rfl (lv_at hl 0 rfl) ?_
    refine lv_bipush (v := 8) hx hb dX3_init_39 (by decide) ?_
    refine n_newi C hP hD hS hA (N := 8) (by decide) (by decide) (Nat.le_of_ble_eq_true rfl) (Nat.le_of_ble_eq_true rfl) (Nat.le_of_ble_eq_true rfl) dX3_init_41 (fun q1 H hP hD hS => ?_)
    have hP : va_P E.1 vwCl [(h0, .inr (3, [.int x, .int v2, .int v5, .null, .int 0, .int 0])), (q1, .inl (E.2.1 0, 8, .inl (fun _ => 0)))] H := hP
    have hD : va_D A [(h0, .inr (3, [.int x, .int v2, .int v5, .null, .int 0, .int 0])), (q1, .inl (E.2.1 0, 8, .inl (fun _ => 0)))] := hD
    refine va_putF (D := E.1) (ci := 3) (v := .ref q1) (ty := tyX3 3) (C := RX3) (T := TX3) (N := 6) hx hb hts inl3 tyX3 tyX3_ok nmX3 hown hKc.1 hP hD hS 0 rfl rfl 3 (by decide) (hts _ q392) (fun _ h9 => h9) rfl hin rfl (tyX3_ok 3 (by decide)) rfl rfl (Nat.le_of_ble_eq_true rfl) dX3_init_43 (fun H locs hP hD hS => ?_)
    have hP : va_P E.1 vwCl [(h0, .inr (3, [.int x, .int v2, .int v5, .ref q1, .int 0, .int 0])), (q1, .inl (E.2.1 0, 8, .inl (fun _ => 0)))] H := hP
    have hD : va_D A [(h0, .inr (3, [.int x, .int v2, .int v5, .ref q1, .int 0, .int 0])), (q1, .inl (E.2.1 0, 8, .inl (fun _ => 0)))] := hD
    refine lv_aload_n hx hb dX3_init_46 rfl (lv_at hl 0 rfl) ?_
    refine va_get (D := E.1) (ci := 3) (v := .ref q1) (C := RX3) (T := TX3) (N := 6) hx hb hts inl3 hown hKc.1 hP 0 rfl rfl 3 (by decide) (hts _ q392) (fun _ h9 => h9) rfl dX3_init_47 ?_
    refine lv_iconst (v := 0) hx hb dX3_init_50 (by decide) ?_
    refine lv_iload_n hx hb dX3_init_51 rfl (lv_at hl 3 rfl) ?_
    refine va_iast hx hb hKc.1 hP hD hS 1 0 rfl rfl (show inb (0 : Int32) 8 by decide) dX3_init_52 (fun H locs hP hD hS => ?_)
    have hP : va_P E.1 vwCl [(h0, .inr (3, [.int x, .int v2, .int v5, .ref q1, .int 0, .int 0])), (q1, .inl (E.2.1 0, 8, .inl (upd (fun _ => 0) (Int32.toNatClampNeg (0 : Int32)) v3)))] H := hP
    have hD : va_D A [(h0, .inr (3, [.int x, .int v2, .int v5, .ref q1, .int 0, .int 0])), (q1, .inl (E.2.1 0, 8, .inl (upd (fun _ => 0) (Int32.toNatClampNeg (0 : Int32)) v3)))] := hD
    refine lv_iconst (v := 1) hx hb dX3_init_53 (by decide) ?_
    refine lv_istore (lv' := [(6, .int (1 : Int32)), (0, .ref h0), (1, .int v1), (2, .int v2), (3, .int v3), (4, .int v4), (5, .int v5)]) hx hb dX3_init_54 hl (by decide) rfl (fun ls hl => ?_)
    refine w_X3_init_L56 C ?_ FU _ _ _ _ _ hP hD hS (lv_sub hl [1, 3, 4, 5, 0] rfl) h
    intro H locs ls hP hD hS hl
    rw [ex] at hP hD
    exact W.vret hx hb hrt (fun t ht hW => ⟨⟨fun i => [q1].getD i 0, rfl, trivial, by rw [ht]; exact hP, by rw [hAe]; exact hD⟩, by rw [hAe]; exact hS.F ht⟩) hS.2.2 dX3_init_95 hlk
  refine lv_aload_n hx hb dX3_init_0 rfl (lv_at hl 0 rfl) ?_
  refine W.objInit hx hb hown (hts _ q385) (hts _ q93) (hts _ q_oi) rfl (by rw [hml]; exact hl.1) rfl dX3_init_1 (Nat.le_of_ble_eq_true rfl) (Nat.le_of_ble_eq_true rfl) ?_
  refine W.eq (g2 := F0 m 4 ls []) rfl ?_
  refine lv_aload_n hx hb dX3_init_4 rfl (lv_at hl 0 rfl) ?_
  refine lv_iload_n hx hb dX3_init_5 rfl (lv_at hl 2 rfl) ?_
  refine lv_bipush (v := 8) hx hb dX3_init_6 (by decide) ?_
  refine lv_icmp_ge (tgt := 23) hx hb dX3_init_8 (by decide) (fun c1 => ?_) (fun c1 => ?_)
  · refine lv_iload_n hx hb dX3_init_23 rfl (lv_at hl 1 rfl) ?_
    exact hJ _ (by unfold sndOf; rw [if_pos c1])
  · refine lv_iload_n hx hb dX3_init_11 rfl (lv_at hl 1 rfl) ?_
    refine lv_iconst (v := 1) hx hb dX3_init_12 (by decide) ?_
    refine lv_iconst (v := 4) hx hb dX3_init_13 (by decide) ?_
    refine lv_iload_n hx hb dX3_init_14 rfl (lv_at hl 2 rfl) ?_
    refine lv_imul hx hb dX3_init_15 ?_
    refine lv_ishl hx hb dX3_init_16 ?_
    refine lv_iconst (v := 1) hx hb dX3_init_17 (by decide) ?_
    refine lv_isub hx hb dX3_init_18 ?_
    refine lv_iand hx hb dX3_init_19 ?_
    refine lv_goto (tgt := 24) hx hb dX3_init_20 (by decide) ?_
    exact hJ _ (by unfold sndOf; rw [if_neg c1])
