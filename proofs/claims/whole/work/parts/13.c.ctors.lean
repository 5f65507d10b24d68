abbrev rm_X10_init : Room := { frames := 3, cells := 53, slots := 4741, locals := 53 }
abbrev w0_X10_init (E : En) (h0 : Nat) : va_W := [(h0, .inr (10, [.null, .null, .null, .null, .null, .null, .null]))]
abbrev w1_X10_init (E : En) (h0 : Nat)  (Q : Nat → Nat → Nat) : va_W := (h0, .inr (10, [.ref (Q 0 0), .ref (Q 0 1), .ref (Q 0 2), .ref (Q 0 3), .ref (Q 0 4), .ref (Q 0 5), .ref (Q 0 6)])) :: (((((((([] : va_W) ++ w1_X8_init E (Q 0 0)  (Q 1)) ++ w1_X6_init E (Q 0 1) (Q 0 0) (Q 2)) ++ w1_X1_init E (Q 0 2)  (Q 3)) ++ w1_X9_init E (Q 0 3)  (Q 4)) ++ w1_X7_init E (Q 0 4) (Q 0 2) (Q 0 1) (Q 5)) ++ w1_X4_init E (Q 0 5) (Q 0 2) (Q 6)) ++ w1_X2_init E (Q 0 6)  (Q 7))
set_option maxHeartbeats 8000000 in
set_option maxRecDepth 100000 in
theorem c_X10_init (l : Launch) {E : En} {h0 sz : Nat}  : Met l yX10_init (wsY yX10_init cX10_init 4 none) rm_X10_init (va_Pc [.ref h0] (PI E (w0_X10_init E h0) sz)) (QI E (w0_X10_init E h0) sz (w1_X10_init E h0 )) 53 4741 (va_A (w0_X10_init E h0) sz) := by
  refine n_met [.ref h0] (by decide) rfl rfl (Nat.le_of_ble_eq_true rfl) ?_
  intro p e s m below meth c ls C hP hD hsz hl
  subst hsz
  generalize hae : ([.ref h0] : List Value).toArray = args at C ⊢
  obtain ⟨hx, hb, hml, hown, hts, hlk, hrt, hin, hKc⟩ := id C
  generalize hAe : va_A (w0_X10_init E h0) s.heap.size = A at hD ⊢
  have hA : ∀ q : Nat, s.heap.size ≤ q → A q := fun q h => by rw [← hAe]; exact Or.inr h
  have hS : va_S A s.heap s.heap [] := va_S.rf
  have hP : va_P E.1 vwCl [(h0, .inr (10, [.null, .null, .null, .null, .null, .null, .null]))] s.heap := hP
  have hD : va_D A [(h0, .inr (10, [.null, .null, .null, .null, .null, .null, .null]))] := hD
  have hl : lv_has ls 4 [(0, .ref h0)] := hl
  refine lv_aload_n hx hb dX10_init_0 rfl (lv_at hl 0 rfl) ?_
  refine W.objInit hx hb hown (hts _ q92) (hts _ q93) (hts _ q_oi) rfl (by rw [hml]; exact hl.1) rfl dX10_init_1 (Nat.le_of_ble_eq_true rfl) (Nat.le_of_ble_eq_true rfl) ?_
  refine W.eq (g2 := F0 m 4 ls []) rfl ?_
  refine va_new (ci := 8) (fs := [.null, .int 0]) (C := RX8) (T := TX8) (N := 2) hx hb hts inl8 tyX8 tyX8_ok hown (hts _ q95) (hts _ q96) (hts _ q69) hKc.1 hP hD hS hA rfl (fun j hj => by rcases (show j = 0 ∨ j = 1 by omega) with rfl | rfl <;> rfl) (Nat.le_of_ble_eq_true rfl) (Nat.le_of_ble_eq_true rfl) dX10_init_4 (fun q1 H hP hD hS => ?_)
  obtain ⟨hP, hD⟩ := n_sw hP hD
  have hP : va_P E.1 vwCl ((h0, .inr (10, [.null, .null, .null, .null, .null, .null, .null])) :: (q1, .inr (8, [.null, .int 0])) :: ([] : va_W)) H := hP
  have hD : va_D A ((h0, .inr (10, [.null, .null, .null, .null, .null, .null, .null])) :: (q1, .inr (8, [.null, .int 0])) :: ([] : va_W)) := hD
  refine lv_dup hx hb dX10_init_7 rfl ?_
  have hPc := hP.sub (ws' := [(q1, .inr (8, [.null, .int 0]))]) [1] rfl
  have hDc := hD.sub (ws' := [(q1, .inr (8, [.null, .int 0]))]) [1] (by decide) rfl
  have hFc := va_free (wc := [(q1, .inr (8, [.null, .int 0]))]) hD hS hA [1] rfl
  refine va_callv (va_runIN (host := RX10) (As := []) (rest := [.ref q1]) ⟨hx, hb, hml, hown, hts⟩ (c_X8_init l (E := E) (h0 := q1) (sz := H.size) ) ⟨va_cnB 0 hts (wsGoodIn q99) rfl rfl rfl (hKc.2.2 _ (by decide)) (hts _ q69) (by decide +kernel) ⟨Nat.le_of_ble_eq_true rfl, Nat.le_of_ble_eq_true rfl⟩, rfl, hts _ q98⟩ ⟨PI.blind, fun U hU hW => ⟨rfl, by rw [hU], by rw [hU]; exact hPc, hKc.call hW, hDc.weaken (fun _ _ _ _ => trivial)⟩⟩ rfl rfl hl.1 rfl (lv_room (Nat.le_of_ble_eq_true rfl)) dX10_init_8 ⟨Nat.le_of_ble_eq_true rfl, Nat.le_of_ble_eq_true rfl⟩) hS (fun q _ h => hFc q h) hFc (fun u2 t H1 locs ht hvm hw hB hz1 hk1 hS => ?_)
  obtain ⟨hP1, hD1⟩ := hB
  rw [ht] at hP1
  obtain ⟨hP, hD⟩ := n_join1 hP hD hk1 hFc hP1 hD1
  obtain ⟨X3, eX3⟩ : ∃ Xz, Xz = ([] : va_W) ++ w1_X8_init E q1  u2 := ⟨_, rfl⟩
  rw [← eX3] at hP hD
  generalize H1 = H at hP hS ⊢
  clear hPc hDc hFc hk1 hz1 hvm hw hP1 hD1 ht
  have hP : va_P E.1 vwCl ((h0, .inr (10, [.null, .null, .null, .null, .null, .null, .null])) :: X3) H := hP
  have hD : va_D A ((h0, .inr (10, [.null, .null, .null, .null, .null, .null, .null])) :: X3) := hD
  refine lv_astore_n (lv' := [(1, .ref q1), (0, .ref h0)]) hx hb dX10_init_11 rfl hl (by decide) rfl (fun ls hl => ?_)
  refine va_new (ci := 6) (fs := [.null, .null, .int 0, .int 0, .int 0, .null, .int 0, .null, .null, .null, .null, .null, .null, .null, .int 0, .int 0, .null, .int 0]) (C := RX6) (T := TX6) (N := 18) hx hb hts inl6 tyX6 tyX6_ok hown (hts _ q114) (hts _ q115) (hts _ q70) hKc.1 hP hD hS hA rfl (fun j hj => by rcases (show j = 0 ∨ j = 1 ∨ j = 2 ∨ j = 3 ∨ j = 4 ∨ j = 5 ∨ j = 6 ∨ j = 7 ∨ j = 8 ∨ j = 9 ∨ j = 10 ∨ j = 11 ∨ j = 12 ∨ j = 13 ∨ j = 14 ∨ j = 15 ∨ j = 16 ∨ j = 17 by omega) with rfl | rfl | rfl | rfl | rfl | rfl | rfl | rfl | rfl | rfl | rfl | rfl | rfl | rfl | rfl | rfl | rfl | rfl <;> rfl) (Nat.le_of_ble_eq_true rfl) (Nat.le_of_ble_eq_true rfl) dX10_init_12 (fun q4 H hP hD hS => ?_)
  obtain ⟨hP, hD⟩ := n_sw hP hD
  have hP : va_P E.1 vwCl ((h0, .inr (10, [.null, .null, .null, .null, .null, .null, .null])) :: (q4, .inr (6, [.null, .null, .int 0, .int 0, .int 0, .null, .int 0, .null, .null, .null, .null, .null, .null, .null, .int 0, .int 0, .null, .int 0])) :: X3) H := hP
  have hD : va_D A ((h0, .inr (10, [.null, .null, .null, .null, .null, .null, .null])) :: (q4, .inr (6, [.null, .null, .int 0, .int 0, .int 0, .null, .int 0, .null, .null, .null, .null, .null, .null, .null, .int 0, .int 0, .null, .int 0])) :: X3) := hD
  refine lv_dup hx hb dX10_init_15 rfl ?_
  refine lv_aload_n hx hb dX10_init_16 rfl (lv_at hl 0 rfl) ?_
  have hPc := hP.sub (ws' := [(q4, .inr (6, [.null, .null, .int 0, .int 0, .int 0, .null, .int 0, .null, .null, .null, .null, .null, .null, .null, .int 0, .int 0, .null, .int 0]))]) [1] rfl
  have hDc := hD.sub (ws' := [(q4, .inr (6, [.null, .null, .int 0, .int 0, .int 0, .null, .int 0, .null, .null, .null, .null, .null, .null, .null, .int 0, .int 0, .null, .int 0]))]) [1] (by decide) rfl
  have hFc := va_free (wc := [(q4, .inr (6, [.null, .null, .int 0, .int 0, .int 0, .null, .int 0, .null, .null, .null, .null, .null, .null, .null, .int 0, .int 0, .null, .int 0]))]) hD hS hA [1] rfl
  refine va_callv (va_runI (As := [.ref q1]) (rest := [.ref q4]) ⟨hx, hb, hml, hown, hts⟩ (c_X6_init l (E := E) (h0 := q4) (sz := H.size) q1) (cwI 1 hts (wsGoodIn q118) rfl rfl rfl (hts _ q70) (hts _ q116) (hts _ q117) rfl (by decide +kernel) ⟨Nat.le_of_ble_eq_true rfl, Nat.le_of_ble_eq_true rfl⟩) ⟨PI.blind, fun U hU hW => ⟨rfl, by rw [hU], by rw [hU]; exact hPc, hKc.call hW, hDc.weaken (fun _ _ _ _ => trivial)⟩⟩ rfl rfl hl.1 rfl (lv_room (Nat.le_of_ble_eq_true rfl)) dX10_init_17 ⟨Nat.le_of_ble_eq_true rfl, Nat.le_of_ble_eq_true rfl⟩) hS (fun q _ h => hFc q h) hFc (fun u5 t H1 locs ht hvm hw hB hz1 hk1 hS => ?_)
  obtain ⟨hP1, hD1⟩ := hB
  rw [ht] at hP1
  obtain ⟨hP, hD⟩ := n_join1 hP hD hk1 hFc hP1 hD1
  obtain ⟨X6, eX6⟩ : ∃ Xz, Xz = X3 ++ w1_X6_init E q4 q1 u5 := ⟨_, rfl⟩
  rw [← eX6] at hP hD
  generalize H1 = H at hP hS ⊢
  clear hPc hDc hFc hk1 hz1 hvm hw hP1 hD1 ht
  have hP : va_P E.1 vwCl ((h0, .inr (10, [.null, .null, .null, .null, .null, .null, .null])) :: X6) H := hP
  have hD : va_D A ((h0, .inr (10, [.null, .null, .null, .null, .null, .null, .null])) :: X6) := hD
  refine lv_astore_n (lv' := [(2, .ref q4), (1, .ref q1), (0, .ref h0)]) hx hb dX10_init_20 rfl hl (by decide) rfl (fun ls hl => ?_)
  refine va_new (ci := 1) (fs := [.null, .null, .null, .null, .null, .int 0]) (C := RX1) (T := TX1) (N := 6) hx hb hts inl1 tyX1 tyX1_ok hown (hts _ q180) (hts _ q181) (hts _ q71) hKc.1 hP hD hS hA rfl (fun j hj => by rcases (show j = 0 ∨ j = 1 ∨ j = 2 ∨ j = 3 ∨ j = 4 ∨ j = 5 by omega) with rfl | rfl | rfl | rfl | rfl | rfl <;> rfl) (Nat.le_of_ble_eq_true rfl) (Nat.le_of_ble_eq_true rfl) dX10_init_21 (fun q7 H hP hD hS => ?_)
  obtain ⟨hP, hD⟩ := n_sw hP hD
  have hP : va_P E.1 vwCl ((h0, .inr (10, [.null, .null, .null, .null, .null, .null, .null])) :: (q7, .inr (1, [.null, .null, .null, .null, .null, .int 0])) :: X6) H := hP
  have hD : va_D A ((h0, .inr (10, [.null, .null, .null, .null, .null, .null, .null])) :: (q7, .inr (1, [.null, .null, .null, .null, .null, .int 0])) :: X6) := hD
  refine lv_dup hx hb dX10_init_24 rfl ?_
  have hPc := hP.sub (ws' := [(q7, .inr (1, [.null, .null, .null, .null, .null, .int 0]))]) [1] rfl
  have hDc := hD.sub (ws' := [(q7, .inr (1, [.null, .null, .null, .null, .null, .int 0]))]) [1] (by decide) rfl
  have hFc := va_free (wc := [(q7, .inr (1, [.null, .null, .null, .null, .null, .int 0]))]) hD hS hA [1] rfl
  refine va_callv (va_runIN (host := RX10) (As := []) (rest := [.ref q7]) ⟨hx, hb, hml, hown, hts⟩ (c_X1_init l (E := E) (h0 := q7) (sz := H.size) ) ⟨va_cnB 0 hts (wsGoodIn q184) rfl rfl rfl (hKc.2.2 _ (by decide)) (hts _ q71) (by decide +kernel) ⟨Nat.le_of_ble_eq_true rfl, Nat.le_of_ble_eq_true rfl⟩, rfl, hts _ q183⟩ ⟨PI.blind, fun U hU hW => ⟨rfl, by rw [hU], by rw [hU]; exact hPc, hKc.call hW, hDc.weaken (fun _ _ _ _ => trivial)⟩⟩ rfl rfl hl.1 rfl (lv_room (Nat.le_of_ble_eq_true rfl)) dX10_init_25 ⟨Nat.le_of_ble_eq_true rfl, Nat.le_of_ble_eq_true rfl⟩) hS (fun q _ h => hFc q h) hFc (fun u8 t H1 locs ht hvm hw hB hz1 hk1 hS => ?_)
  obtain ⟨hP1, hD1⟩ := hB
  rw [ht] at hP1
  obtain ⟨hP, hD⟩ := n_join1 hP hD hk1 hFc hP1 hD1
  obtain ⟨X9, eX9⟩ : ∃ Xz, Xz = X6 ++ w1_X1_init E q7  u8 := ⟨_, rfl⟩
  rw [← eX9] at hP hD
  generalize H1 = H at hP hS ⊢
  clear hPc hDc hFc hk1 hz1 hvm hw hP1 hD1 ht
  have hP : va_P E.1 vwCl ((h0, .inr (10, [.null, .null, .null, .null, .null, .null, .null])) :: X9) H := hP
  have hD : va_D A ((h0, .inr (10, [.null, .null, .null, .null, .null, .null, .null])) :: X9) := hD
  refine lv_astore_n (lv' := [(3, .ref q7), (2, .ref q4), (1, .ref q1), (0, .ref h0)]) hx hb dX10_init_28 rfl hl (by decide) rfl (fun ls hl => ?_)
  refine lv_aload_n hx hb dX10_init_29 rfl (lv_at hl 3 rfl) ?_
  refine lv_aload_n hx hb dX10_init_30 rfl (lv_at hl 2 rfl) ?_
  refine va_putF (D := E.1) (ci := 10) (v := .ref q1) (ty := tyX10 0) (C := RX10) (T := TX10) (N := 7) hx hb hts inl10 tyX10 tyX10_ok nmX10 hown hKc.1 hP hD hS 0 rfl rfl 0 (by decide) (hts _ q348) (fun _ h9 => h9) rfl hin rfl (tyX10_ok 0 (by decide)) rfl rfl (Nat.le_of_ble_eq_true rfl) dX10_init_31 (fun H locs hP hD hS => ?_)
  have hP : va_P E.1 vwCl ((h0, .inr (10, [.ref q1, .null, .null, .null, .null, .null, .null])) :: X9) H := hP
  have hD : va_D A ((h0, .inr (10, [.ref q1, .null, .null, .null, .null, .null, .null])) :: X9) := hD
  refine lv_aload_n hx hb dX10_init_34 rfl (lv_at hl 3 rfl) ?_
  refine lv_aload_n hx hb dX10_init_35 rfl (lv_at hl 1 rfl) ?_
  refine va_putF (D := E.1) (ci := 10) (v := .ref q4) (ty := tyX10 1) (C := RX10) (T := TX10) (N := 7) hx hb hts inl10 tyX10 tyX10_ok nmX10 hown hKc.1 hP hD hS 0 rfl rfl 1 (by decide) (hts _ q349) (fun _ h9 => h9) rfl hin rfl (tyX10_ok 1 (by decide)) rfl rfl (Nat.le_of_ble_eq_true rfl) dX10_init_36 (fun H locs hP hD hS => ?_)
  have hP : va_P E.1 vwCl ((h0, .inr (10, [.ref q1, .ref q4, .null, .null, .null, .null, .null])) :: X9) H := hP
  have hD : va_D A ((h0, .inr (10, [.ref q1, .ref q4, .null, .null, .null, .null, .null])) :: X9) := hD
  refine lv_aload_n hx hb dX10_init_39 rfl (lv_at hl 3 rfl) ?_
  refine lv_aload_n hx hb dX10_init_40 rfl (lv_at hl 0 rfl) ?_
  refine va_putF (D := E.1) (ci := 10) (v := .ref q7) (ty := tyX10 2) (C := RX10) (T := TX10) (N := 7) hx hb hts inl10 tyX10 tyX10_ok nmX10 hown hKc.1 hP hD hS 0 rfl rfl 2 (by decide) (hts _ q350) (fun _ h9 => h9) rfl hin rfl (tyX10_ok 2 (by decide)) rfl rfl (Nat.le_of_ble_eq_true rfl) dX10_init_41 (fun H locs hP hD hS => ?_)
  have hP : va_P E.1 vwCl ((h0, .inr (10, [.ref q1, .ref q4, .ref q7, .null, .null, .null, .null])) :: X9) H := hP
  have hD : va_D A ((h0, .inr (10, [.ref q1, .ref q4, .ref q7, .null, .null, .null, .null])) :: X9) := hD
  refine lv_aload_n hx hb dX10_init_44 rfl (lv_at hl 3 rfl) ?_
  refine va_new (ci := 9) (fs := [.null, .int 0, .null, .int 0, .int 0, .int 0, .int 0]) (C := RX9) (T := TX9) (N := 7) hx hb hts inl9 tyX9 tyX9_ok hown (hts _ q217) (hts _ q218) (hts _ q72) hKc.1 hP hD hS hA rfl (fun j hj => by rcases (show j = 0 ∨ j = 1 ∨ j = 2 ∨ j = 3 ∨ j = 4 ∨ j = 5 ∨ j = 6 by omega) with rfl | rfl | rfl | rfl | rfl | rfl | rfl <;> rfl) (Nat.le_of_ble_eq_true rfl) (Nat.le_of_ble_eq_true rfl) dX10_init_45 (fun q10 H hP hD hS => ?_)
  obtain ⟨hP, hD⟩ := n_sw hP hD
  have hP : va_P E.1 vwCl ((h0, .inr (10, [.ref q1, .ref q4, .ref q7, .null, .null, .null, .null])) :: (q10, .inr (9, [.null, .int 0, .null, .int 0, .int 0, .int 0, .int 0])) :: X9) H := hP
  have hD : va_D A ((h0, .inr (10, [.ref q1, .ref q4, .ref q7, .null, .null, .null, .null])) :: (q10, .inr (9, [.null, .int 0, .null, .int 0, .int 0, .int 0, .int 0])) :: X9) := hD
  refine lv_dup hx hb dX10_init_48 rfl ?_
  have hPc := hP.sub (ws' := [(q10, .inr (9, [.null, .int 0, .null, .int 0, .int 0, .int 0, .int 0]))]) [1] rfl
  have hDc := hD.sub (ws' := [(q10, .inr (9, [.null, .int 0, .null, .int 0, .int 0, .int 0, .int 0]))]) [1] (by decide) rfl
  have hFc := va_free (wc := [(q10, .inr (9, [.null, .int 0, .null, .int 0, .int 0, .int 0, .int 0]))]) hD hS hA [1] rfl
  refine va_callv (va_runI (As := []) (rest := [.ref q10, .ref h0]) ⟨hx, hb, hml, hown, hts⟩ (c_X9_init l (E := E) (h0 := q10) (sz := H.size) ) (cwI 0 hts (wsGoodIn q221) rfl rfl rfl (hts _ q72) (hts _ q219) (hts _ q220) rfl (by decide +kernel) ⟨Nat.le_of_ble_eq_true rfl, Nat.le_of_ble_eq_true rfl⟩) ⟨PI.blind, fun U hU hW => ⟨rfl, by rw [hU], by rw [hU]; exact hPc, hKc.call hW, hDc.weaken (fun _ _ _ _ => trivial)⟩⟩ rfl rfl hl.1 rfl (lv_room (Nat.le_of_ble_eq_true rfl)) dX10_init_49 ⟨Nat.le_of_ble_eq_true rfl, Nat.le_of_ble_eq_true rfl⟩) hS (fun q _ h => hFc q h) hFc (fun u11 t H1 locs ht hvm hw hB hz1 hk1 hS => ?_)
  obtain ⟨hP1, hD1⟩ := hB
  rw [ht] at hP1
  obtain ⟨hP, hD⟩ := n_join1 hP hD hk1 hFc hP1 hD1
  obtain ⟨X12, eX12⟩ : ∃ Xz, Xz = X9 ++ w1_X9_init E q10  u11 := ⟨_, rfl⟩
  rw [← eX12] at hP hD
  generalize H1 = H at hP hS ⊢
  clear hPc hDc hFc hk1 hz1 hvm hw hP1 hD1 ht
  have hP : va_P E.1 vwCl ((h0, .inr (10, [.ref q1, .ref q4, .ref q7, .null, .null, .null, .null])) :: X12) H := hP
  have hD : va_D A ((h0, .inr (10, [.ref q1, .ref q4, .ref q7, .null, .null, .null, .null])) :: X12) := hD
  refine va_putF (D := E.1) (ci := 10) (v := .ref q10) (ty := tyX10 3) (C := RX10) (T := TX10) (N := 7) hx hb hts inl10 tyX10 tyX10_ok nmX10 hown hKc.1 hP hD hS 0 rfl rfl 3 (by decide) (hts _ q351) (fun _ h9 => h9) rfl hin rfl (tyX10_ok 3 (by decide)) rfl rfl (Nat.le_of_ble_eq_true rfl) dX10_init_52 (fun H locs hP hD hS => ?_)
  have hP : va_P E.1 vwCl ((h0, .inr (10, [.ref q1, .ref q4, .ref q7, .ref q10, .null, .null, .null])) :: X12) H := hP
  have hD : va_D A ((h0, .inr (10, [.ref q1, .ref q4, .ref q7, .ref q10, .null, .null, .null])) :: X12) := hD
  refine lv_aload_n hx hb dX10_init_55 rfl (lv_at hl 3 rfl) ?_
  refine va_new (ci := 7) (fs := [.null, .null, .null, .null, .null, .null, .null, .int 0, .int 0]) (C := RX7) (T := TX7) (N := 9) hx hb hts inl7 tyX7 tyX7_ok hown (hts _ q275) (hts _ q276) (hts _ q74) hKc.1 hP hD hS hA rfl (fun j hj => by rcases (show j = 0 ∨ j = 1 ∨ j = 2 ∨ j = 3 ∨ j = 4 ∨ j = 5 ∨ j = 6 ∨ j = 7 ∨ j = 8 by omega) with rfl | rfl | rfl | rfl | rfl | rfl | rfl | rfl | rfl <;> rfl) (Nat.le_of_ble_eq_true rfl) (Nat.le_of_ble_eq_true rfl) dX10_init_56 (fun q13 H hP hD hS => ?_)
  obtain ⟨hP, hD⟩ := n_sw hP hD
  have hP : va_P E.1 vwCl ((h0, .inr (10, [.ref q1, .ref q4, .ref q7, .ref q10, .null, .null, .null])) :: (q13, .inr (7, [.null, .null, .null, .null, .null, .null, .null, .int 0, .int 0])) :: X12) H := hP
  have hD : va_D A ((h0, .inr (10, [.ref q1, .ref q4, .ref q7, .ref q10, .null, .null, .null])) :: (q13, .inr (7, [.null, .null, .null, .null, .null, .null, .null, .int 0, .int 0])) :: X12) := hD
  refine lv_dup hx hb dX10_init_59 rfl ?_
  refine lv_aload_n hx hb dX10_init_60 rfl (lv_at hl 0 rfl) ?_
  refine lv_aload_n hx hb dX10_init_61 rfl (lv_at hl 1 rfl) ?_
  have hPc := hP.sub (ws' := [(q13, .inr (7, [.null, .null, .null, .null, .null, .null, .null, .int 0, .int 0]))]) [1] rfl
  have hDc := hD.sub (ws' := [(q13, .inr (7, [.null, .null, .null, .null, .null, .null, .null, .int 0, .int 0]))]) [1] (by decide) rfl
  have hFc := va_free (wc := [(q13, .inr (7, [.null, .null, .null, .null, .null, .null, .null, .int 0, .int 0]))]) hD hS hA [1] rfl
  refine va_callv (va_runI (As := [.ref q7, .ref q4]) (rest := [.ref q13, .ref h0]) ⟨hx, hb, hml, hown, hts⟩ (c_X7_init l (E := E) (h0 := q13) (sz := H.size) q7 q4) (cwI 2 hts (wsGoodIn q279) rfl rfl rfl (hts _ q74) (hts _ q277) (hts _ q278) rfl (by decide +kernel) ⟨Nat.le_of_ble_eq_true rfl, Nat.le_of_ble_eq_true rfl⟩) ⟨PI.blind, fun U hU hW => ⟨rfl, by rw [hU], by rw [hU]; exact hPc, hKc.call hW, hDc.weaken (fun _ _ _ _ => trivial)⟩⟩ rfl rfl hl.1 rfl (lv_room (Nat.le_of_ble_eq_true rfl)) dX10_init_62 ⟨Nat.le_of_ble_eq_true rfl, Nat.le_of_ble_eq_true rfl⟩) hS (fun q _ h => hFc q h) hFc (fun u14 t H1 locs ht hvm hw hB hz1 hk1 hS => ?_)
  obtain ⟨hP1, hD1⟩ := hB
  rw [ht] at hP1
  obtain ⟨hP, hD⟩ := n_join1 hP hD hk1 hFc hP1 hD1
  obtain ⟨X15, eX15⟩ : ∃ Xz, Xz = X12 ++ w1_X7_init E q13 q7 q4 u14 := ⟨_, rfl⟩
  rw [← eX15] at hP hD
  generalize H1 = H at hP hS ⊢
  clear hPc hDc hFc hk1 hz1 hvm hw hP1 hD1 ht
  have hP : va_P E.1 vwCl ((h0, .inr (10, [.ref q1, .ref q4, .ref q7, .ref q10, .null, .null, .null])) :: X15) H := hP
  have hD : va_D A ((h0, .inr (10, [.ref q1, .ref q4, .ref q7, .ref q10, .null, .null, .null])) :: X15) := hD
  refine va_putF (D := E.1) (ci := 10) (v := .ref q13) (ty := tyX10 4) (C := RX10) (T := TX10) (N := 7) hx hb hts inl10 tyX10 tyX10_ok nmX10 hown hKc.1 hP hD hS 0 rfl rfl 4 (by decide) (hts _ q352) (fun _ h9 => h9) rfl hin rfl (tyX10_ok 4 (by decide)) rfl rfl (Nat.le_of_ble_eq_true rfl) dX10_init_65 (fun H locs hP hD hS => ?_)
  have hP : va_P E.1 vwCl ((h0, .inr (10, [.ref q1, .ref q4, .ref q7, .ref q10, .ref q13, .null, .null])) :: X15) H := hP
  have hD : va_D A ((h0, .inr (10, [.ref q1, .ref q4, .ref q7, .ref q10, .ref q13, .null, .null])) :: X15) := hD
  refine lv_aload_n hx hb dX10_init_68 rfl (lv_at hl 3 rfl) ?_
  refine va_new (ci := 4) (fs := [.null, .null, .int 0, .null]) (C := RX4) (T := TX4) (N := 4) hx hb hts inl4 tyX4 tyX4_ok hown (hts _ q317) (hts _ q318) (hts _ q75) hKc.1 hP hD hS hA rfl (fun j hj => by rcases (show j = 0 ∨ j = 1 ∨ j = 2 ∨ j = 3 by omega) with rfl | rfl | rfl | rfl <;> rfl) (Nat.le_of_ble_eq_true rfl) (Nat.le_of_ble_eq_true rfl) dX10_init_69 (fun q16 H hP hD hS => ?_)
  obtain ⟨hP, hD⟩ := n_sw hP hD
  have hP : va_P E.1 vwCl ((h0, .inr (10, [.ref q1, .ref q4, .ref q7, .ref q10, .ref q13, .null, .null])) :: (q16, .inr (4, [.null, .null, .int 0, .null])) :: X15) H := hP
  have hD : va_D A ((h0, .inr (10, [.ref q1, .ref q4, .ref q7, .ref q10, .ref q13, .null, .null])) :: (q16, .inr (4, [.null, .null, .int 0, .null])) :: X15) := hD
  refine lv_dup hx hb dX10_init_72 rfl ?_
  refine lv_aload_n hx hb dX10_init_73 rfl (lv_at hl 0 rfl) ?_
  have hPc := hP.sub (ws' := [(q16, .inr (4, [.null, .null, .int 0, .null]))]) [1] rfl
  have hDc := hD.sub (ws' := [(q16, .inr (4, [.null, .null, .int 0, .null]))]) [1] (by decide) rfl
  have hFc := va_free (wc := [(q16, .inr (4, [.null, .null, .int 0, .null]))]) hD hS hA [1] rfl
  refine va_callv (va_runI (As := [.ref q7]) (rest := [.ref q16, .ref h0]) ⟨hx, hb, hml, hown, hts⟩ (c_X4_init l (E := E) (h0 := q16) (sz := H.size) q7) (cwI 1 hts (wsGoodIn q321) rfl rfl rfl (hts _ q75) (hts _ q319) (hts _ q320) rfl (by decide +kernel) ⟨Nat.le_of_ble_eq_true rfl, Nat.le_of_ble_eq_true rfl⟩) ⟨PI.blind, fun U hU hW => ⟨rfl, by rw [hU], by rw [hU]; exact hPc, hKc.call hW, hDc.weaken (fun _ _ _ _ => trivial)⟩⟩ rfl rfl hl.1 rfl (lv_room (Nat.le_of_ble_eq_true rfl)) dX10_init_74 ⟨Nat.le_of_ble_eq_true rfl, Nat.le_of_ble_eq_true rfl⟩) hS (fun q _ h => hFc q h) hFc (fun u17 t H1 locs ht hvm hw hB hz1 hk1 hS => ?_)
  obtain ⟨hP1, hD1⟩ := hB
  rw [ht] at hP1
  obtain ⟨hP, hD⟩ := n_join1 hP hD hk1 hFc hP1 hD1
  obtain ⟨X18, eX18⟩ : ∃ Xz, Xz = X15 ++ w1_X4_init E q16 q7 u17 := ⟨_, rfl⟩
  rw [← eX18] at hP hD
  generalize H1 = H at hP hS ⊢
  clear hPc hDc hFc hk1 hz1 hvm hw hP1 hD1 ht
  have hP : va_P E.1 vwCl ((h0, .inr (10, [.ref q1, .ref q4, .ref q7, .ref q10, .ref q13, .null, .null])) :: X18) H := hP
  have hD : va_D A ((h0, .inr (10, [.ref q1, .ref q4, .ref q7, .ref q10, .ref q13, .null, .null])) :: X18) := hD
  refine va_putF (D := E.1) (ci := 10) (v := .ref q16) (ty := tyX10 5) (C := RX10) (T := TX10) (N := 7) hx hb hts inl10 tyX10 tyX10_ok nmX10 hown hKc.1 hP hD hS 0 rfl rfl 5 (by decide) (hts _ q353) (fun _ h9 => h9) rfl hin rfl (tyX10_ok 5 (by decide)) rfl rfl (Nat.le_of_ble_eq_true rfl) dX10_init_77 (fun H locs hP hD hS => ?_)
  have hP : va_P E.1 vwCl ((h0, .inr (10, [.ref q1, .ref q4, .ref q7, .ref q10, .ref q13, .ref q16, .null])) :: X18) H := hP
  have hD : va_D A ((h0, .inr (10, [.ref q1, .ref q4, .ref q7, .ref q10, .ref q13, .ref q16, .null])) :: X18) := hD
  refine lv_aload_n hx hb dX10_init_80 rfl (lv_at hl 3 rfl) ?_
  refine va_new (ci := 2) (fs := [.null]) (C := RX2) (T := TX2) (N := 1) hx hb hts inl2 tyX2 tyX2_ok hown (hts _ q337) (hts _ q338) (hts _ q76) hKc.1 hP hD hS hA rfl (fun j hj => by rcases (show j = 0 by omega) with rfl <;> rfl) (Nat.le_of_ble_eq_true rfl) (Nat.le_of_ble_eq_true rfl) dX10_init_81 (fun q19 H hP hD hS => ?_)
  obtain ⟨hP, hD⟩ := n_sw hP hD
  have hP : va_P E.1 vwCl ((h0, .inr (10, [.ref q1, .ref q4, .ref q7, .ref q10, .ref q13, .ref q16, .null])) :: (q19, .inr (2, [.null])) :: X18) H := hP
  have hD : va_D A ((h0, .inr (10, [.ref q1, .ref q4, .ref q7, .ref q10, .ref q13, .ref q16, .null])) :: (q19, .inr (2, [.null])) :: X18) := hD
  refine lv_dup hx hb dX10_init_84 rfl ?_
  have hPc := hP.sub (ws' := [(q19, .inr (2, [.null]))]) [1] rfl
  have hDc := hD.sub (ws' := [(q19, .inr (2, [.null]))]) [1] (by decide) rfl
  have hFc := va_free (wc := [(q19, .inr (2, [.null]))]) hD hS hA [1] rfl
  refine va_callv (va_runIN (host := RX10) (As := []) (rest := [.ref q19, .ref h0]) ⟨hx, hb, hml, hown, hts⟩ (c_X2_init l (E := E) (h0 := q19) (sz := H.size) ) ⟨va_cnB 0 hts (wsGoodIn q341) rfl rfl rfl (hKc.2.2 _ (by decide)) (hts _ q76) (by decide +kernel) ⟨Nat.le_of_ble_eq_true rfl, Nat.le_of_ble_eq_true rfl⟩, rfl, hts _ q340⟩ ⟨PI.blind, fun U hU hW => ⟨rfl, by rw [hU], by rw [hU]; exact hPc, hKc.call hW, hDc.weaken (fun _ _ _ _ => trivial)⟩⟩ rfl rfl hl.1 rfl (lv_room (Nat.le_of_ble_eq_true rfl)) dX10_init_85 ⟨Nat.le_of_ble_eq_true rfl, Nat.le_of_ble_eq_true rfl⟩) hS (fun q _ h => hFc q h) hFc (fun u20 t H1 locs ht hvm hw hB hz1 hk1 hS => ?_)
  obtain ⟨hP1, hD1⟩ := hB
  rw [ht] at hP1
  obtain ⟨hP, hD⟩ := n_join1 hP hD hk1 hFc hP1 hD1
  obtain ⟨X21, eX21⟩ : ∃ Xz, Xz = X18 ++ w1_X2_init E q19  u20 := ⟨_, rfl⟩
  rw [← eX21] at hP hD
  generalize H1 = H at hP hS ⊢
  clear hPc hDc hFc hk1 hz1 hvm hw hP1 hD1 ht
  have hP : va_P E.1 vwCl ((h0, .inr (10, [.ref q1, .ref q4, .ref q7, .ref q10, .ref q13, .ref q16, .null])) :: X21) H := hP
  have hD : va_D A ((h0, .inr (10, [.ref q1, .ref q4, .ref q7, .ref q10, .ref q13, .ref q16, .null])) :: X21) := hD
  refine va_putF (D := E.1) (ci := 10) (v := .ref q19) (ty := tyX10 6) (C := RX10) (T := TX10) (N := 7) hx hb hts inl10 tyX10 tyX10_ok nmX10 hown hKc.1 hP hD hS 0 rfl rfl 6 (by decide) (hts _ q354) (fun _ h9 => h9) rfl hin rfl (tyX10_ok 6 (by decide)) rfl rfl (Nat.le_of_ble_eq_true rfl) dX10_init_88 (fun H locs hP hD hS => ?_)
  have hP : va_P E.1 vwCl ((h0, .inr (10, [.ref q1, .ref q4, .ref q7, .ref q10, .ref q13, .ref q16, .ref q19])) :: X21) H := hP
  have hD : va_D A ((h0, .inr (10, [.ref q1, .ref q4, .ref q7, .ref q10, .ref q13, .ref q16, .ref q19])) :: X21) := hD
  subst eX21 eX18 eX15 eX12 eX9 eX6 eX3
  exact W.vret hx hb hrt (fun t ht hW => ⟨⟨(fun k => match k with | 0 => (fun i => [q1, q4, q7, q10, q13, q16, q19].getD i 0) | 1 => u2 | 2 => u5 | 3 => u8 | 4 => u11 | 5 => u14 | 6 => u17 | 7 => u20 | _ => fun _ => 0), rfl, trivial, by rw [ht]; exact hP, by rw [hAe]; exact hD⟩, by rw [hAe]; exact hS.F ht⟩) hS.2.2 dX10_init_91 hlk
