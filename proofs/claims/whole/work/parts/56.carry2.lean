theorem U_inj {U : List Nat} (u2 : ∀ i, i + 1 < U.length → U.getD i 0 < U.getD (i + 1) 0) {m i : Nat} (h : m < i) (hi : i < U.length) : U.getD m 0 < U.getD i 0 := by
  have : ∀ d, m + 1 + d < U.length → U.getD m 0 < U.getD (m + 1 + d) 0 := by
    intro d
    induction d with
    | zero => intro h; exact u2 m h
    | succ d ih => intro h; have := ih (by omega); have := u2 (m + 1 + d) h; rw [← Nat.add_assoc]; omega
  have := this (i - (m + 1)) (by omega)
  rw [show m + 1 + (i - (m + 1)) = i by omega] at this
  exact this
def Xd (base c j : Nat) : Prop := ((c = 7 ∨ c = 8) ∧ base ≤ j ∧ j < base + 100) ∨ c = 11 ∨ c = 12
theorem carryDown_ok {S a : St} {v base b0 : Nat} {B : Nat → Pl} (hbase : base + 100 ≤ 1700) (hb0 : b0 < 10000) (hU : hasL a 5 3 6 (usL S v)) (hB0 : ∀ s, us S v s = false → ∀ j, B s j = 0)
    (hB : ∀ t, us S v t = true → rp (rd a 11 t) (rd a 12 t) (B t) b0)
    (hR : ∀ m, m < (usL S v).length → rp (rd a 7 (base + (usL S v).getD m 0)) (rd a 8 (base + (usL S v).getD m 0)) (Up B ((usL S v).getD m 0)) (b0 + (usL S v).getD m 0)) :
    ∃ a', f_X6_carryDown (nI base) a = some ((), a') ∧ fr (Xd base) a a' ∧ ∀ t, us S v t = true → t < 100 → rp (rd a' 7 (base + t)) (rd a' 8 (base + t)) (fun j => sN 100 (fun s => sh (dst t s) (B s) j)) (b0 + 99) := by
  obtain ⟨u1, u2, u3, u4, u5, u6⟩ := fl_facts (us S v) 100
  rw [show (List.range 100).filter (us S v) = usL S v from rfl] at u1 u2 u3 u4 u5 u6
  generalize usL S v = U at *
  have uu := @U_inj U (fun i hi => (u2 i hi).1)
  unfold f_X6_carryDown
  rw [hU.1, lt_eq]
  by_cases c0 : U.length = 0
  · refine ⟨a, ?_, fr.refl _ _, fun t ht ht2 => ?_⟩
    · rw [c0]; rfl
    · obtain ⟨i, hi, -⟩ := u3 t ht2 ht; omega
  have e0 : nI U.length - (2 : Int32) = dn (U.length - 1) := by
    obtain ⟨z, hz⟩ : ∃ z, U.length = z + 1 := ⟨U.length - 1, by omega⟩
    rw [hz]
    cases z with
    | zero => rfl
    | succ z => rw [show (2 : Int32) = nI 2 from rfl, sub_n (by omega)]; rfl
  rw [e0]
  refine loopD (fun f (b : St) i => f_X6_carryDown_L7 (fun S26 => some ((), S26)) (nI base) f i b) (fun x => ∃ a', x = some ((), a') ∧ fr (Xd base) a a' ∧ ∀ t, us S v t = true → t < 100 → rp (rd a' 7 (base + t)) (rd a' 8 (base + t)) (fun j => sN 100 (fun s => sh (dst t s) (B s) j)) (b0 + 99))
    (fun i b => i < U.length ∧ fr (Xd base) a b ∧ (∀ m, i ≤ m → m < U.length → rp (rd b 7 (base + U.getD m 0)) (rd b 8 (base + U.getD m 0)) (fun j => sN 100 (fun s => sh (dst (U.getD m 0) s) (B s) j)) (b0 + 99) ∧ rp (rd b 11 (U.getD m 0)) (rd b 12 (U.getD m 0)) (Dn B (U.getD m 0)) (b0 + (99 - U.getD m 0))) ∧
      ∀ m, m < i → rp (rd b 7 (base + U.getD m 0)) (rd b 8 (base + U.getD m 0)) (Up B (U.getD m 0)) (b0 + U.getD m 0) ∧ rp (rd b 11 (U.getD m 0)) (rd b 12 (U.getD m 0)) (B (U.getD m 0)) b0) ?_ ?_ (U.length - 1) FU a (by unfold FU; omega) ⟨by omega, fr.refl _ _, fun m h8 h9 => ?_, fun m hm => ⟨hR m (by omega), hB _ (u1 m (by omega)).2⟩⟩
  · intro f b ⟨_, hf, hb, _⟩
    refine ⟨b, ?_, hf, fun t ht ht2 => ?_⟩
    · rw [f_X6_carryDown_L7, if_pos (by decide)]
    · obtain ⟨i, hi, rfl⟩ := u3 t ht2 ht
      exact (hb i (by omega) hi).1
  · intro f b i ⟨hi, hf, hb1, hb2⟩
    right
    have e1 : rd b 5 i = nI (U.getD i 0) := by rw [hf 5 i (by unfold Xd; omega)]; exact hU.2 i (by omega)
    have e2 : rd b 5 (i + 1) = nI (U.getD (i + 1) 0) := by rw [hf 5 _ (by unfold Xd; omega)]; exact hU.2 _ (by omega)
    obtain ⟨w1, w2⟩ := u1 i (by omega)
    obtain ⟨w3, w4⟩ := u1 (i + 1) hi
    obtain ⟨x1, x2⟩ := u2 i hi
    have hz := (hb1 (i + 1) (Nat.le_refl _) hi).2
    obtain ⟨y1, y2⟩ := hb2 i (by omega)
    have hq := (hz.mv (U.getD (i + 1) 0 - U.getD i 0) (by omega)).mono (c := b0 + (99 - U.getD i 0)) (by omega)
    obtain ⟨b2, o1, o2, o3⟩ := offer_ok (S := b) (A := 7) (B := 8) (k := base + U.getD i 0) (N := 1700) (b := b0 + 99) rfl rfl (by omega) (by decide) (by decide) (y1.mono (by omega)) (hq.mono (by omega)) (by omega)
    have y2' := y2
    rw [← o3 11 _ (by omega), ← o3 12 _ (by omega)] at y2'
    obtain ⟨b3, o4, o5, o6⟩ := offer_ok (S := b2) (A := 11) (B := 12) (k := U.getD i 0) (N := 100) (b := b0 + (99 - U.getD i 0)) rfl rfl (by omega) (by decide) (by decide) (y2'.mono (by omega)) hq (by omega)
    have q12 : rd b2 12 (U.getD (i + 1) 0) = rd b 12 (U.getD (i + 1) 0) := o3 _ _ (by omega)
    have hF : fr (fun c j => ((c = 7 ∨ c = 8) ∧ j = base + U.getD i 0) ∨ ((c = 11 ∨ c = 12) ∧ j = U.getD i 0)) b b3 := (o3.mono (fun c j h => Or.inl h)).trans (o6.mono (fun c j h => Or.inr h))
    refine ⟨b3, ?_, by omega, hf.trans (hF.mono (fun c j h => by unfold Xd; omega)), fun m h8 h9 => ?_, fun m hm => ?_⟩
    · show f_X6_carryDown_L7 _ _ _ _ _ = _
      rw [f_X6_carryDown_L7]
      have hneg : ¬ nI i < nI 0 := by rw [nI_0]; exact nI_pos (by omega)
      simp (disch := omega) only [md_n, lt_eq, bd_some, gN, gN2, le_T, le_F, lt_T, lt_F, eq_T, eq_F, cN, plus_n, mul_n, rem_n, div_n, sub_n, re_T, re_F, rl_wr, rd_wl, ne_m1, m1_ne, m1_lt, m1_le, m1_ge, m1_gt, m1_refl, ↓reduceIte, L0, L1, L2, L3, L4, L5, L6, L7, L8, L9, L10, L11, L15, L16, L17, L18, L20, L24, L26, L28, L31, L32, L35, L36, L48, L57, L59, L63, L64, L96, L97, L99, L100, L112, L122, L128, L200, L255, L256, L1000, L1024, L2000, L3000, L1000000, L1000000007, hneg, e1, e2, asl, o1, q12, o4]
    · by_cases d : m = i
      · subst d
        constructor
        · rw [o6 7 _ (by omega), o6 8 _ (by omega), All_step x1 w3 (fun s h1 h2 => hB0 s (x2 s h1 h2))]
          exact o2
        · rw [Dn_step x1 w3 (fun s h1 h2 => hB0 s (x2 s h1 h2))]
          exact o5
      · have := uu (show i < m by omega) h9
        rw [hF 7 _ (by omega), hF 8 _ (by omega), hF 11 _ (by omega), hF 12 _ (by omega)]
        exact hb1 m (by omega) h9
    · have := uu hm (by omega)
      rw [hF 7 _ (by omega), hF 8 _ (by omega), hF 11 _ (by omega), hF 12 _ (by omega)]
      exact hb2 m (by omega)
  · have : m = U.length - 1 := by omega
    have hz : ∀ s, U.getD m 0 < s → s < 100 → ∀ j, B s j = 0 := fun s h1 h2 => hB0 s (u5 s h2 (fun i hi => by
      have : i = m := by omega
      subst this; exact h1))
    obtain ⟨w1, w2⟩ := u1 m h9
    rw [All_last hz, Dn_last w1 hz]
    exact ⟨(hR m h9).mono (by omega), (hB _ w2).mono (by omega)⟩
