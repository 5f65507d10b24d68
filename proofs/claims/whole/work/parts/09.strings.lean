/-! the JDK's own methods of the texts that stand in the class -/
def sc_ch (i k : Nat) : Int32 := (bytJS.getD i []).getD k 0 &&& 255
abbrev rm_J3_checkIndex_8e157 : Room := { frames := 0, cells := 0, slots := 0, locals := 0 }
theorem m_J3_checkIndex_8e157 : MS yJ3_checkIndex_8e157 cJ3_checkIndex_8e157 3 (some .int) 3 := ⟨q596, q84, q597, by decide +kernel⟩
abbrev rm_J0_checkIndex_df160 : Room := { frames := 1, cells := 0, slots := 0, locals := 22 }
theorem m_J0_checkIndex_df160 : MS yJ0_checkIndex_df160 cJ0_checkIndex_df160 2 none 2 := ⟨q591, q82, q592, by decide +kernel⟩
abbrev rm_J1_charAt_3b067 : Room := { frames := 2, cells := 0, slots := 0, locals := 43 }
theorem m_J1_charAt_3b067 : MS yJ1_charAt_3b067 cJ1_charAt_3b067 2 (some .char) 2 := ⟨q588, q83, q589, by decide +kernel⟩
abbrev rm_J0_isLatin1_aae02 : Room := { frames := 0, cells := 0, slots := 0, locals := 0 }
theorem m_J0_isLatin1_aae02 : MV yJ0_isLatin1_aae02 RJ0 cJ0_isLatin1_aae02 1 (some .boolean) 0 := ⟨q584, q585, q82, q586, by decide +kernel⟩
abbrev rm_J0_coder_7d493 : Room := { frames := 0, cells := 0, slots := 0, locals := 0 }
theorem m_J0_coder_7d493 : MV yJ0_coder_7d493 RJ0 cJ0_coder_7d493 1 (some .byte) 0 := ⟨q574, q575, q82, q576, by decide +kernel⟩
abbrev rm_J0_charAt_5068e : Room := { frames := 3, cells := 0, slots := 0, locals := 64 }
theorem m_J0_charAt_5068e : MV yJ0_charAt_5068e RJ0 cJ0_charAt_5068e 2 (some .char) 1 := ⟨q580, q581, q82, q582, by decide +kernel⟩
abbrev rm_J0_length_8abf5 : Room := { frames := 1, cells := 0, slots := 0, locals := 20 }
theorem m_J0_length_8abf5 : MV yJ0_length_8abf5 RJ0 cJ0_length_8abf5 1 (some .int) 0 := ⟨q570, q571, q82, q572, by decide +kernel⟩
def f_J0_length_8abf5 (i : Nat) (S : St) : Option (Int32 × St) := some (nI (lenJS.getD i 0), S)
def f_J0_charAt_5068e (i : Nat) (k : Int32) (S : St) : Option (Int32 × St) := gd_ (inb k (lenJS.getD i 0)) <| some (sc_ch i (Int32.toNatClampNeg k), S)
set_option maxHeartbeats 4000000 in
set_option maxRecDepth 100000 in
theorem c_J0_isLatin1_aae02 (l : Launch) {E : En} {α : Nat → Nat} {g : Nat × Nat} {S : St} {i : Nat} (hi : i < 6) : Met l yJ0_isLatin1_aae02 (wsY yJ0_isLatin1_aae02 cJ0_isLatin1_aae02 1 (some .boolean)) rm_J0_isLatin1_aae02 (va_Pc [.ref (E.2.2.2.1 i)] (Wd E α g S)) (Qi E α g (1, S)) 0 0 E.2.2.1 := by
  refine g_met [.ref (E.2.2.2.1 i)] (by decide) rfl (Nat.le_of_ble_eq_true rfl) ?_
  intro p e s m below meth c ls C hR hl
  generalize hae : ([.ref (E.2.2.2.1 i)] : List Value).toArray = args at C ⊢
  obtain ⟨hx, hb, hml, hown, hts, hlk, hrt, hKs⟩ := id C
  have hS : va_S E.2.2.1 s.heap s.heap [] := va_S.rf
  have hl : lv_has ls 1 [(0, .ref (E.2.2.2.1 i))] := hl
  refine va_gets hx hb hKs.2.2.2.2.2.1 hS hown (hts _ q577) (fun _ h => h) dJ0_isLatin1_aae02_0 ?_
  refine lv_if_eq (tgt := 17) hx hb dJ0_isLatin1_aae02_3 (by decide) (fun c1 => absurd c1 (by decide)) (fun _ => ?_)
  refine lv_aload_n hx hb dJ0_isLatin1_aae02_6 rfl (lv_at hl 0 rfl) ?_
  refine vk_getf hx hb (hKs.2.2.2.2.1.1 i hi).2.1 hS hown (hts _ q1368) (fun _ h => h) dJ0_isLatin1_aae02_7 ?_
  refine lv_if_ne (tgt := 17) hx hb dJ0_isLatin1_aae02_10 (by decide) (fun c1 => absurd rfl c1) (fun _ => ?_)
  refine lv_iconst (v := 1) hx hb dJ0_isLatin1_aae02_13 (by decide) ?_
  refine lv_goto (tgt := 18) hx hb dJ0_isLatin1_aae02_14 (by decide) ?_
  exact g_zret C hR hS bz1 rfl dJ0_isLatin1_aae02_18
set_option maxHeartbeats 4000000 in
set_option maxRecDepth 100000 in
theorem c_J0_coder_7d493 (l : Launch) {E : En} {α : Nat → Nat} {g : Nat × Nat} {S : St} {i : Nat} (hi : i < 6) : Met l yJ0_coder_7d493 (wsY yJ0_coder_7d493 cJ0_coder_7d493 1 (some .byte)) rm_J0_coder_7d493 (va_Pc [.ref (E.2.2.2.1 i)] (Wd E α g S)) (Qi E α g (0, S)) 0 0 E.2.2.1 := by
  refine g_met [.ref (E.2.2.2.1 i)] (by decide) rfl (Nat.le_of_ble_eq_true rfl) ?_
  intro p e s m below meth c ls C hR hl
  generalize hae : ([.ref (E.2.2.2.1 i)] : List Value).toArray = args at C ⊢
  obtain ⟨hx, hb, hml, hown, hts, hlk, hrt, hKs⟩ := id C
  have hS : va_S E.2.2.1 s.heap s.heap [] := va_S.rf
  have hl : lv_has ls 1 [(0, .ref (E.2.2.2.1 i))] := hl
  refine va_gets hx hb hKs.2.2.2.2.2.1 hS hown (hts _ q577) (fun _ h => h) dJ0_coder_7d493_0 ?_
  refine lv_if_eq (tgt := 13) hx hb dJ0_coder_7d493_3 (by decide) (fun c1 => absurd c1 (by decide)) (fun _ => ?_)
  refine lv_aload_n hx hb dJ0_coder_7d493_6 rfl (lv_at hl 0 rfl) ?_
  refine vk_getf hx hb (hKs.2.2.2.2.1.1 i hi).2.1 hS hown (hts _ q1368) (fun _ h => h) dJ0_coder_7d493_7 ?_
  refine lv_goto (tgt := 14) hx hb dJ0_coder_7d493_10 (by decide) ?_
  exact g_nret C hR hS rfl rfl dJ0_coder_7d493_14
theorem len_lt {i : Nat} (hi : i < 6) : lenJS.getD i 0 < 5 := by
  match i, hi with
  | 0, _ => exact (by decide)
  | 1, _ => exact (by decide)
  | 2, _ => exact (by decide)
  | 3, _ => exact (by decide)
  | 4, _ => exact (by decide)
  | 5, _ => exact (by decide)
  | i + 6, h => omega
set_option maxHeartbeats 4000000 in
set_option maxRecDepth 100000 in
theorem c_J0_length_8abf5 (l : Launch) {E : En} {α : Nat → Nat} {g : Nat × Nat} {S : St} {i : Nat} (hi : i < 6) {z : Int32 × St} (h : f_J0_length_8abf5 i S = some z) : Met l yJ0_length_8abf5 (wsY yJ0_length_8abf5 cJ0_length_8abf5 1 (some .int)) rm_J0_length_8abf5 (va_Pc [.ref (E.2.2.2.1 i)] (Wd E α g S)) (Qi E α g z) 0 0 E.2.2.1 := by
  refine g_met [.ref (E.2.2.2.1 i)] (by decide) rfl (Nat.le_of_ble_eq_true rfl) ?_
  intro p e s m below meth c ls C hR hl
  generalize hae : ([.ref (E.2.2.2.1 i)] : List Value).toArray = args at C ⊢
  obtain ⟨hx, hb, hml, hown, hts, hlk, hrt, hKs⟩ := id C
  have hS : va_S E.2.2.1 s.heap s.heap [] := va_S.rf
  have hl : lv_has ls 1 [(0, .ref (E.2.2.2.1 i))] := hl
  refine lv_aload_n hx hb dJ0_length_8abf5_0 rfl (lv_at hl 0 rfl) ?_
  refine vk_getf hx hb (hKs.2.2.2.2.1.1 i hi).2.2.1 hS hown (hts _ q1367) (fun _ h => h) dJ0_length_8abf5_1 ?_
  refine va_tlen hx hb (hKs.2.2.2.2.1.1 i hi).2.2.2 hS (v := nI (lenJS.getD i 0)) rfl dJ0_length_8abf5_4 ?_
  refine lv_aload_n hx hb dJ0_length_8abf5_5 rfl (lv_at hl 0 rfl) ?_
  refine g_ci hS (g_runT C hR (i := i) (As := []) (rest := [.int (nI (lenJS.getD i 0))]) hS (c_J0_coder_7d493 l hi) hi m_J0_coder_7d493 q573 ⟨rfl, rfl⟩ ⟨Nat.le_of_ble_eq_true rfl, Nat.le_of_ble_eq_true rfl⟩ rfl hl.1 rfl (Nat.le_of_ble_eq_true rfl) dJ0_length_8abf5_6 ⟨Nat.zero_le _, Nat.zero_le _⟩) (fun H locs hR hS => ?_)
  refine lv_ishr hx hb dJ0_length_8abf5_9 ?_
  have e1 : nI (lenJS.getD i 0) >>> ((0 : Int32) &&& 31) = nI (lenJS.getD i 0) := sc_shr0 (by have := len_lt hi; omega)
  rw [e1]
  exact g_iret C hR hS h dJ0_length_8abf5_10
set_option maxHeartbeats 4000000 in
set_option maxRecDepth 100000 in
theorem c_J3_checkIndex_8e157 (l : Launch) {E : En} {α : Nat → Nat} {g : Nat × Nat} {S : St} {i k : Int32} {v : Value} (hv : v = .null ∨ ∃ t, v = .ref t) (h0 : ¬ i < 0) (h1 : i < k) : Met l yJ3_checkIndex_8e157 (wsY yJ3_checkIndex_8e157 cJ3_checkIndex_8e157 3 (some .int)) rm_J3_checkIndex_8e157 (va_Pc [.int i, .int k, v] (Wd E α g S)) (Qi E α g (i, S)) 0 0 E.2.2.1 := by
  refine g_met [.int i, .int k, v] (by decide) rfl (by rcases hv with rfl | ⟨t, rfl⟩ <;> exact Nat.le_of_ble_eq_true rfl) ?_
  intro p e s m below meth c ls C hR hl
  generalize hae : ([.int i, .int k, v] : List Value).toArray = args at C ⊢
  obtain ⟨hx, hb, hml, hown, hts, hlk, hrt, hKs⟩ := id C
  have hS : va_S E.2.2.1 s.heap s.heap [] := va_S.rf
  have hl : lv_has ls 3 [(0, .int i), (1, .int k), (2, v)] := hl
  refine lv_iload_n hx hb dJ3_checkIndex_8e157_0 rfl (lv_at hl 0 rfl) ?_
  refine lv_if_lt (tgt := 9) hx hb dJ3_checkIndex_8e157_1 (by decide) (fun c1 => absurd c1 h0) (fun _ => ?_)
  refine lv_iload_n hx hb dJ3_checkIndex_8e157_4 rfl (lv_at hl 0 rfl) ?_
  refine lv_iload_n hx hb dJ3_checkIndex_8e157_5 rfl (lv_at hl 1 rfl) ?_
  refine lv_icmp_lt (tgt := 16) hx hb dJ3_checkIndex_8e157_6 (by decide) (fun _ => ?_) (fun c1 => absurd h1 c1)
  refine lv_iload_n hx hb dJ3_checkIndex_8e157_16 rfl (lv_at hl 0 rfl) ?_
  exact g_iret C hR hS rfl dJ3_checkIndex_8e157_17
set_option maxHeartbeats 4000000 in
set_option maxRecDepth 100000 in
theorem c_J0_checkIndex_df160 (l : Launch) {E : En} {α : Nat → Nat} {g : Nat × Nat} {S : St} {i k : Int32} (h0 : ¬ i < 0) (h1 : i < k) : Met l yJ0_checkIndex_df160 (wsY yJ0_checkIndex_df160 cJ0_checkIndex_df160 2 none) rm_J0_checkIndex_df160 (va_Pc [.int i, .int k] (Wd E α g S)) (Qv E α g ((), S)) 0 0 E.2.2.1 := by
  refine g_met [.int i, .int k] (by decide) rfl (Nat.le_of_ble_eq_true rfl) ?_
  intro p e s m below meth c ls C hR hl
  generalize hae : ([.int i, .int k] : List Value).toArray = args at C ⊢
  obtain ⟨hx, hb, hml, hown, hts, hlk, hrt, hKs⟩ := id C
  have hS : va_S E.2.2.1 s.heap s.heap [] := va_S.rf
  have hl : lv_has ls 2 [(0, .int i), (1, .int k)] := hl
  obtain ⟨v, hv, hZ⟩ : ∃ v : Value, (v = .null ∨ ∃ t, v = .ref t) ∧ va_Z "jdk/internal/util/Preconditions" "SIOOBE_FORMATTER" "Ljava/util/function/BiFunction;" v E.2.2.1 s s.heap := by
    rcases hKs.2.2.2.2.2.2 with h | ⟨t, h⟩
    · exact ⟨_, Or.inl rfl, h⟩
    · exact ⟨_, Or.inr ⟨t, rfl⟩, h⟩
  refine lv_iload_n hx hb dJ0_checkIndex_df160_0 rfl (lv_at hl 0 rfl) ?_
  refine lv_iload_n hx hb dJ0_checkIndex_df160_1 rfl (lv_at hl 1 rfl) ?_
  refine va_gets hx hb hZ hS hown (hts _ q593) (fun _ h => h) dJ0_checkIndex_df160_2 ?_
  refine g_ci hS (g_runS C hR hS (As := [.int i, .int k, v]) (rest := []) (c_J3_checkIndex_8e157 l hv h0 h1) m_J3_checkIndex_8e157 q595 ⟨rfl, rfl⟩ ⟨Nat.le_of_ble_eq_true rfl, Nat.le_of_ble_eq_true rfl⟩ rfl hl.1 rfl (Nat.le_of_ble_eq_true rfl) dJ0_checkIndex_df160_5 ⟨Nat.zero_le _, Nat.zero_le _⟩) (fun H locs hR hS => ?_)
  refine lv_pop hx hb dJ0_checkIndex_df160_8 rfl ?_
  exact g_vret C hR hS rfl dJ0_checkIndex_df160_9
theorem ch_ok {i : Nat} (hi : i < 6) {k : Nat} : ((((bytJS.getD i []).getD k 0) &&& 255).toUInt32 % 65536).toInt32 = sc_ch i k := sc_c2 _
set_option maxHeartbeats 4000000 in
set_option maxRecDepth 100000 in
theorem c_J1_charAt_3b067 (l : Launch) {E : En} {α : Nat → Nat} {g : Nat × Nat} {S : St} {i : Nat} (hi : i < 6) {k : Int32} (hk : inb k (lenJS.getD i 0)) : Met l yJ1_charAt_3b067 (wsY yJ1_charAt_3b067 cJ1_charAt_3b067 2 (some .char)) rm_J1_charAt_3b067 (va_Pc [.ref (E.2.2.2.2 i), .int k] (Wd E α g S)) (Qi E α g (sc_ch i k.toNatClampNeg, S)) 0 0 E.2.2.1 := by
  refine g_met [.ref (E.2.2.2.2 i), .int k] (by decide) rfl (Nat.le_of_ble_eq_true rfl) ?_
  intro p e s m below meth c ls C hR hl
  generalize hae : ([.ref (E.2.2.2.2 i), .int k] : List Value).toArray = args at C ⊢
  obtain ⟨hx, hb, hml, hown, hts, hlk, hrt, hKs⟩ := id C
  have hS : va_S E.2.2.1 s.heap s.heap [] := va_S.rf
  have hl : lv_has ls 2 [(0, .ref (E.2.2.2.2 i)), (1, .int k)] := hl
  have h0 : ¬ k < 0 := fun q => hk (Or.inl q)
  have h1 : k < nI (lenJS.getD i 0) := by
    obtain ⟨j, hj, rfl⟩ := vp_in_of hk (by have := len_lt hi; omega)
    exact nI_lt hj (by have := len_lt hi; omega)
  refine lv_iload_n hx hb dJ1_charAt_3b067_0 rfl (lv_at hl 1 rfl) ?_
  refine lv_aload_n hx hb dJ1_charAt_3b067_1 rfl (lv_at hl 0 rfl) ?_
  refine va_tlen hx hb (hKs.2.2.2.2.1.1 i hi).2.2.2 hS (v := nI (lenJS.getD i 0)) rfl dJ1_charAt_3b067_2 ?_
  refine g_cv hS (g_runS C hR hS (As := [.int k, .int (nI (lenJS.getD i 0))]) (rest := []) (c_J0_checkIndex_df160 l h0 h1) m_J0_checkIndex_df160 q590 ⟨rfl, rfl⟩ ⟨Nat.le_of_ble_eq_true rfl, Nat.le_of_ble_eq_true rfl⟩ rfl hl.1 rfl (Nat.le_of_ble_eq_true rfl) dJ1_charAt_3b067_3 ⟨Nat.zero_le _, Nat.zero_le _⟩) (fun H locs hR hS => ?_)
  refine lv_aload_n hx hb dJ1_charAt_3b067_6 rfl (lv_at hl 0 rfl) ?_
  refine lv_iload_n hx hb dJ1_charAt_3b067_7 rfl (lv_at hl 1 rfl) ?_
  refine va_tb hx hb (hKs.2.2.2.2.1.1 i hi).2.2.2 hS hk (v := .int ((bytJS.getD i []).getD k.toNatClampNeg 0)) rfl dJ1_charAt_3b067_8 ?_
  refine lv_sipush (v := 255) hx hb dJ1_charAt_3b067_9 (by decide) ?_
  refine lv_iand hx hb dJ1_charAt_3b067_12 ?_
  refine lv_i2c (v := sc_ch i k.toNatClampNeg) hx hb dJ1_charAt_3b067_13 (ch_ok hi) ?_
  exact g_nret C hR hS (sc_nar _) rfl dJ1_charAt_3b067_14
set_option maxHeartbeats 4000000 in
set_option maxRecDepth 100000 in
theorem c_J0_charAt_5068e (l : Launch) {E : En} {α : Nat → Nat} {g : Nat × Nat} {S : St} {i : Nat} {k : Int32} (hi : i < 6) {z : Int32 × St} (h : f_J0_charAt_5068e i k S = some z) : Met l yJ0_charAt_5068e (wsY yJ0_charAt_5068e cJ0_charAt_5068e 2 (some .char)) rm_J0_charAt_5068e (va_Pc [.ref (E.2.2.2.1 i), .int k] (Wd E α g S)) (Qi E α g z) 0 0 E.2.2.1 := by
  refine g_met [.ref (E.2.2.2.1 i), .int k] (by decide) rfl (Nat.le_of_ble_eq_true rfl) ?_
  intro p e s m below meth c ls C hR hl
  generalize hae : ([.ref (E.2.2.2.1 i), .int k] : List Value).toArray = args at C ⊢
  obtain ⟨hx, hb, hml, hown, hts, hlk, hrt, hKs⟩ := id C
  have hS : va_S E.2.2.1 s.heap s.heap [] := va_S.rf
  have hl : lv_has ls 2 [(0, .ref (E.2.2.2.1 i)), (1, .int k)] := hl
  obtain ⟨hk, h⟩ := gd_e h
  refine lv_aload_n hx hb dJ0_charAt_5068e_0 rfl (lv_at hl 0 rfl) ?_
  refine g_ci hS (g_runT C hR (i := i) (As := []) (rest := []) hS (c_J0_isLatin1_aae02 l hi) hi m_J0_isLatin1_aae02 q583 ⟨rfl, rfl⟩ ⟨Nat.le_of_ble_eq_true rfl, Nat.le_of_ble_eq_true rfl⟩ rfl hl.1 rfl (Nat.le_of_ble_eq_true rfl) dJ0_charAt_5068e_1 ⟨Nat.zero_le _, Nat.zero_le _⟩) (fun H locs hR hS => ?_)
  refine lv_if_eq (tgt := 16) hx hb dJ0_charAt_5068e_4 (by decide) (fun c1 => absurd c1 (by decide)) (fun _ => ?_)
  refine lv_aload_n hx hb dJ0_charAt_5068e_7 rfl (lv_at hl 0 rfl) ?_
  refine vk_getf hx hb (hKs.2.2.2.2.1.1 i hi).2.2.1 hS hown (hts _ q1367) (fun _ h => h) dJ0_charAt_5068e_8 ?_
  refine lv_iload_n hx hb dJ0_charAt_5068e_11 rfl (lv_at hl 1 rfl) ?_
  refine g_ci hS (g_runS C hR hS (As := [.ref (E.2.2.2.2 i), .int k]) (rest := []) (c_J1_charAt_3b067 l hi hk) m_J1_charAt_3b067 q587 ⟨rfl, rfl⟩ ⟨Nat.le_of_ble_eq_true rfl, Nat.le_of_ble_eq_true rfl⟩ rfl hl.1 rfl (Nat.le_of_ble_eq_true rfl) dJ0_charAt_5068e_12 ⟨Nat.zero_le _, Nat.zero_le _⟩) (fun H locs hR hS => ?_)
  exact g_nret C hR hS (sc_nar _) h dJ0_charAt_5068e_15
