/-! ===== tokens ===== -/
def kd (b : Nat) : Nat := if 97 ≤ b ∧ b ≤ 122 then 1 else if 48 ≤ b ∧ b ≤ 57 then 2 else 3
def skp (B : Nat → Nat) : Nat → Nat → Nat
  | 0, e => e
  | d + 1, e => if B e = 32 then skp B d (e + 1) else e
def rnE (B : Nat → Nat) (k : Nat) : Nat → Nat → Nat
  | 0, e => e
  | d + 1, e => if kd (B e) = k then rnE B k d (e + 1) else e
def tB (B : Nat → Nat) (N e : Nat) : Nat := skp B (N - e) e
def tK (B : Nat → Nat) (N e : Nat) : Nat := if tB B N e = N then 0 else kd (B (tB B N e))
def tE (B : Nat → Nat) (N e : Nat) : Nat := if tB B N e = N then N else if tK B N e = 3 then tB B N e + 1 else rnE B (tK B N e) (N - (tB B N e + 1)) (tB B N e + 1)
theorem skp_le (B : Nat → Nat) : ∀ d e, e ≤ skp B d e ∧ skp B d e ≤ e + d := by
  intro d
  induction d with
  | zero => intro e; exact ⟨Nat.le_refl _, Nat.le_refl _⟩
  | succ d ih =>
    intro e
    rw [skp]
    split
    · have := ih (e + 1); omega
    · omega
theorem rnE_le (B : Nat → Nat) (k : Nat) : ∀ d e, e ≤ rnE B k d e ∧ rnE B k d e ≤ e + d ∧ ∀ i, e ≤ i → i < rnE B k d e → kd (B i) = k := by
  intro d
  induction d with
  | zero => intro e; exact ⟨Nat.le_refl _, Nat.le_refl _, fun i h1 h2 => by rw [rnE] at h2; omega⟩
  | succ d ih =>
    intro e
    rw [rnE]
    split
    · next h =>
      obtain ⟨a, b, c⟩ := ih (e + 1)
      refine ⟨by omega, by omega, fun i h1 h2 => ?_⟩
      by_cases d : i = e
      · rw [d]; exact h
      · exact c i (by omega) h2
    · exact ⟨Nat.le_refl _, by omega, fun i h1 h2 => by omega⟩
theorem kd_cases (b : Nat) : (kd b = 1 ∧ 97 ≤ b ∧ b ≤ 122) ∨ (kd b = 2 ∧ 48 ≤ b ∧ b ≤ 57) ∨ (kd b = 3 ∧ ¬ (97 ≤ b ∧ b ≤ 122) ∧ ¬ (48 ≤ b ∧ b ≤ 57)) := by
  unfold kd
  by_cases h1 : 97 ≤ b ∧ b ≤ 122
  · rw [if_pos h1]; exact Or.inl ⟨rfl, h1⟩
  · rw [if_neg h1]
    by_cases h2 : 48 ≤ b ∧ b ≤ 57
    · rw [if_pos h2]; exact Or.inr (Or.inl ⟨rfl, h2⟩)
    · rw [if_neg h2]; exact Or.inr (Or.inr ⟨rfl, h1, h2⟩)
theorem tok_facts (B : Nat → Nat) {N e : Nat} (h : e ≤ N) : e ≤ tB B N e ∧ tB B N e ≤ N ∧ tB B N e ≤ tE B N e ∧ tE B N e ≤ N ∧ (tK B N e = 0 ↔ tB B N e = N) ∧ tK B N e ≤ 3 ∧ (tK B N e = 0 → tE B N e = tB B N e) ∧ (tK B N e = 3 → tE B N e = tB B N e + 1) ∧ (tK B N e = 3 → kd (B (tB B N e)) = 3 ∧ tB B N e < N) ∧ (tK B N e = 1 ∨ tK B N e = 2 → tB B N e < tE B N e ∧ ∀ i, tB B N e ≤ i → i < tE B N e → kd (B i) = tK B N e) := by
  have h1 := skp_le B (N - e) e
  have hb : e ≤ tB B N e ∧ tB B N e ≤ N := by unfold tB; omega
  by_cases c : tB B N e = N
  · have hk : tK B N e = 0 := if_pos c
    have he : tE B N e = N := if_pos c
    rw [hk, he]
    exact ⟨hb.1, hb.2, by omega, Nat.le_refl _, ⟨fun _ => c, fun _ => rfl⟩, by omega, fun _ => c.symm, fun z => by omega, fun z => by omega, fun z => by omega⟩
  · have hk : tK B N e = kd (B (tB B N e)) := if_neg c
    have he : tE B N e = if tK B N e = 3 then tB B N e + 1 else rnE B (tK B N e) (N - (tB B N e + 1)) (tB B N e + 1) := if_neg c
    have hkc := kd_cases (B (tB B N e))
    rw [← hk] at hkc
    by_cases c3 : tK B N e = 3
    · rw [if_pos c3] at he
      rw [he, c3]
      exact ⟨hb.1, hb.2, by omega, by omega, ⟨fun z => by omega, fun z => absurd z c⟩, by omega, fun z => by omega, fun _ => rfl, fun _ => ⟨by rw [← hk, c3], by omega⟩, fun z => by omega⟩
    · rw [if_neg c3] at he
      obtain ⟨r1, r2, r3⟩ := rnE_le B (tK B N e) (N - (tB B N e + 1)) (tB B N e + 1)
      rw [← he] at r1 r2 r3
      refine ⟨hb.1, hb.2, by omega, by omega, ⟨fun z => by omega, fun z => absurd z c⟩, by omega, fun z => by omega, fun z => absurd z c3, fun z => absurd z c3, fun _ => ⟨by omega, fun i h1 h2 => ?_⟩⟩
      by_cases d : i = tB B N e
      · rw [d, ← hk]
      · exact r3 i (by omega) h2
/-- the text as it stands: N bytes -/
def Txt (S : St) (B : Nat → Nat) (N : Nat) : Prop := N ≤ 200 ∧ rd S 20 1 = nI N ∧ rd S 54 12 = nI N ∧ ∀ i, i < N → B i < 256 ∧ rd S 21 i = nI (B i) ∧ rd S 65 i = nI (B i)
def ldC (B : Nat → Nat) (N p : Nat) (a : St) : Prop := rd a 20 5 = nI (tB B N p) ∧ rd a 20 6 = nI (tE B N p) ∧ rd a 20 4 = nI (tK B N p)
theorem kindOf_ok {b : Nat} (h : b < 256) (S : St) : f_X9_kindOf (nI b) S = some (nI (kd b), S) := by
  unfold f_X9_kindOf
  rcases kd_cases b with ⟨e, h1, h2⟩ | ⟨e, h1, h2⟩ | ⟨e, h1, h2⟩
  · rw [e]; simp (disch := omega) only [md_n, lt_eq, bd_some, gN, gN2, le_T, le_F, lt_T, lt_F, eq_T, eq_F, cN, plus_n, mul_n, rem_n, div_n, sub_n, re_T, re_F, rl_wr, rd_wl, ne_m1, m1_ne, m1_lt, m1_le, m1_ge, m1_gt, m1_refl, ↓reduceIte, L0, L1, L2, L3, L4, L5, L6, L7, L8, L9, L10, L11, L15, L16, L17, L18, L20, L24, L26, L28, L31, L32, L35, L36, L48, L57, L59, L63, L64, L96, L97, L99, L100, L112, L122, L128, L200, L255, L256, L1000, L1024, L2000, L3000, L1000000, L1000000007]
  · rw [e]; simp (disch := omega) only [md_n, lt_eq, bd_some, gN, gN2, le_T, le_F, lt_T, lt_F, eq_T, eq_F, cN, plus_n, mul_n, rem_n, div_n, sub_n, re_T, re_F, rl_wr, rd_wl, ne_m1, m1_ne, m1_lt, m1_le, m1_ge, m1_gt, m1_refl, ↓reduceIte, L0, L1, L2, L3, L4, L5, L6, L7, L8, L9, L10, L11, L15, L16, L17, L18, L20, L24, L26, L28, L31, L32, L35, L36, L48, L57, L59, L63, L64, L96, L97, L99, L100, L112, L122, L128, L200, L255, L256, L1000, L1024, L2000, L3000, L1000000, L1000000007]
  · rw [e]
    by_cases c1 : b < 97
    · by_cases c2 : b < 48
      · simp (disch := omega) only [md_n, lt_eq, bd_some, gN, gN2, le_T, le_F, lt_T, lt_F, eq_T, eq_F, cN, plus_n, mul_n, rem_n, div_n, sub_n, re_T, re_F, rl_wr, rd_wl, ne_m1, m1_ne, m1_lt, m1_le, m1_ge, m1_gt, m1_refl, ↓reduceIte, L0, L1, L2, L3, L4, L5, L6, L7, L8, L9, L10, L11, L15, L16, L17, L18, L20, L24, L26, L28, L31, L32, L35, L36, L48, L57, L59, L63, L64, L96, L97, L99, L100, L112, L122, L128, L200, L255, L256, L1000, L1024, L2000, L3000, L1000000, L1000000007]
      · simp (disch := omega) only [md_n, lt_eq, bd_some, gN, gN2, le_T, le_F, lt_T, lt_F, eq_T, eq_F, cN, plus_n, mul_n, rem_n, div_n, sub_n, re_T, re_F, rl_wr, rd_wl, ne_m1, m1_ne, m1_lt, m1_le, m1_ge, m1_gt, m1_refl, ↓reduceIte, L0, L1, L2, L3, L4, L5, L6, L7, L8, L9, L10, L11, L15, L16, L17, L18, L20, L24, L26, L28, L31, L32, L35, L36, L48, L57, L59, L63, L64, L96, L97, L99, L100, L112, L122, L128, L200, L255, L256, L1000, L1024, L2000, L3000, L1000000, L1000000007]
    · simp (disch := omega) only [md_n, lt_eq, bd_some, gN, gN2, le_T, le_F, lt_T, lt_F, eq_T, eq_F, cN, plus_n, mul_n, rem_n, div_n, sub_n, re_T, re_F, rl_wr, rd_wl, ne_m1, m1_ne, m1_lt, m1_le, m1_ge, m1_gt, m1_refl, ↓reduceIte, L0, L1, L2, L3, L4, L5, L6, L7, L8, L9, L10, L11, L15, L16, L17, L18, L20, L24, L26, L28, L31, L32, L35, L36, L48, L57, L59, L63, L64, L96, L97, L99, L100, L112, L122, L128, L200, L255, L256, L1000, L1024, L2000, L3000, L1000000, L1000000007]
def Xt (c j : Nat) : Prop := (c = 20 ∧ 3 ≤ j) ∨ (23 ≤ c ∧ c ≤ 42)
theorem step_ok {S a : St} {B : Nat → Nat} {N e : Nat} (hT : Txt S B N) (hf : fr Xt S a) (he : e ≤ N) (h6 : rd a 20 6 = nI e) : ∃ a', f_X9_step a = some ((), a') ∧ ldC B N e a' ∧ fr (fun c j => c = 20 ∧ (j = 4 ∨ j = 5 ∨ j = 6)) a a' := by
  obtain ⟨t1, t2, -, t4⟩ := hT
  unfold f_X9_step
  rw [lt_eq, h6]
  refine loopC (fun f (b : St) _ => f_X9_step_L8 _ f b) (fun x => ∃ a', x = some ((), a') ∧ ldC B N e a' ∧ fr (fun c j => c = 20 ∧ (j = 4 ∨ j = 5 ∨ j = 6)) a a') (fun i b => e ≤ i ∧ rd b 20 5 = nI i ∧ skp B (N - i) i = tB B N e ∧ fr (fun c j => c = 20 ∧ (j = 4 ∨ j = 5 ∨ j = 6)) a b) N ?_ ?_ (N - e) e FU _ (by omega) (by unfold FU; omega) ⟨Nat.le_refl _, rw_eq, rfl, (fr.refl _ _).wr (by omega)⟩
  all_goals
    have key : ∀ f b, rd b 20 5 = nI (tB B N e) → fr (fun c j => c = 20 ∧ (j = 4 ∨ j = 5 ∨ j = 6)) a b → (tB B N e < N → B (tB B N e) ≠ 32) → ∃ a', f_X9_step_L8 (fun  (S16 : St) =>
      lt_ (wr S16 20 6 (rd S16 20 5)) fun S17 =>
      if (rd S17 20 5) < (rd S17 20 1) then
        gd_ (inb (rd S17 20 5) 200) <|
        bd_ (f_X9_kindOf (rd S17 21 (Int32.toNatClampNeg (rd S17 20 5))) S17) fun r20 S21 =>
        lt_ (wr S21 20 4 r20) fun S22 =>
        lt_ (wr S22 20 6 ((rd S22 20 6) + (1 : Int32))) fun S23 =>
        f_X9_step_L97
          (fun  (S31 : St) =>
            some ((), S31))
           FU  S23
      else
        lt_ (wr S17 20 4 (0 : Int32)) fun S32 =>
        some ((), S32)) (f + 1) b = some ((), a') ∧ ldC B N e a' ∧ fr (fun c j => c = 20 ∧ (j = 4 ∨ j = 5 ∨ j = 6)) a a' := by
      intro f b h5 hb hne
      obtain ⟨y1, y2, y3, y4, y5, y6, y7, y8, y9, y10⟩ := tok_facts B he
      have e1 : rd b 20 1 = nI N := by rw [hb _ _ (by omega), hf _ _ (by unfold Xt; omega)]; exact t2
      have hby : ∀ i, i < N → rd b 21 i = nI (B i) := fun i hi => by rw [hb _ _ (by omega), hf _ _ (by unfold Xt; omega)]; exact (t4 i hi).2.1
      by_cases c : tB B N e = N
      · refine ⟨wr (wr b 20 6 (nI N)) 20 4 (nI 0), ?_, ⟨?_, ?_, ?_⟩, (hb.wr (by omega)).wr (by omega)⟩
        · rw [f_X9_step_L8]
          simp (disch := omega) only [md_n, lt_eq, bd_some, gN, gN2, le_T, le_F, lt_T, lt_F, eq_T, eq_F, cN, plus_n, mul_n, rem_n, div_n, sub_n, re_T, re_F, rl_wr, rd_wl, ne_m1, m1_ne, m1_lt, m1_le, m1_ge, m1_gt, m1_refl, ↓reduceIte, L0, L1, L2, L3, L4, L5, L6, L7, L8, L9, L10, L11, L15, L16, L17, L18, L20, L24, L26, L28, L31, L32, L35, L36, L48, L57, L59, L63, L64, L96, L97, L99, L100, L112, L122, L128, L200, L255, L256, L1000, L1024, L2000, L3000, L1000000, L1000000007, e1, h5, c]
        · rw [rw_ne (by omega), rw_ne (by omega)]; exact h5
        · rw [rw_ne (by omega), rw_eq, y7 (y5.mpr c), c]
        · rw [rw_eq, y5.mpr c]
      · have hlt : tB B N e < N := by omega
        have e2 := hby _ hlt
        have hk := kindOf_ok (t4 _ hlt).1
        have hne2 := hne hlt
        have hkd : tK B N e = kd (B (tB B N e)) := if_neg c
        have hb256 := (t4 _ hlt).1
        generalize hb2 : wr (wr (wr b 20 6 (nI (tB B N e))) 20 4 (nI (tK B N e))) 20 6 (nI (tB B N e + 1)) = b2
        have hfb2 : fr (fun c j => c = 20 ∧ (j = 4 ∨ j = 5 ∨ j = 6)) a b2 := by rw [← hb2]; exact ((hb.wr (by omega)).wr (by omega)).wr (by omega)
        have s5 : rd b2 20 5 = nI (tB B N e) := by rw [← hb2, rw_ne (by omega), rw_ne (by omega), rw_ne (by omega)]; exact h5
        have s6 : rd b2 20 6 = nI (tB B N e + 1) := by rw [← hb2, rw_eq]
        have s4 : rd b2 20 4 = nI (tK B N e) := by rw [← hb2, rw_ne (by omega), rw_eq]
        have hloop : ∃ a', f_X9_step_L97 (fun S31 => some ((), S31)) FU b2 = some ((), a') ∧ ldC B N e a' ∧ fr (fun c j => c = 20 ∧ (j = 4 ∨ j = 5 ∨ j = 6)) a a' := by
          by_cases c3 : tK B N e = 3
          · refine ⟨b2, ?_, ⟨s5, by rw [s6, y8 c3], s4⟩, hfb2⟩
            show f_X9_step_L97 _ (19999 + 1) b2 = _
            rw [f_X9_step_L97]
            simp (disch := omega) only [md_n, lt_eq, bd_some, gN, gN2, le_T, le_F, lt_T, lt_F, eq_T, eq_F, cN, plus_n, mul_n, rem_n, div_n, sub_n, re_T, re_F, rl_wr, rd_wl, ne_m1, m1_ne, m1_lt, m1_le, m1_ge, m1_gt, m1_refl, ↓reduceIte, L0, L1, L2, L3, L4, L5, L6, L7, L8, L9, L10, L11, L15, L16, L17, L18, L20, L24, L26, L28, L31, L32, L35, L36, L48, L57, L59, L63, L64, L96, L97, L99, L100, L112, L122, L128, L200, L255, L256, L1000, L1024, L2000, L3000, L1000000, L1000000007, s4]
          · have hE : tE B N e = rnE B (tK B N e) (N - (tB B N e + 1)) (tB B N e + 1) := by
              show (if tB B N e = N then N else _) = _
              rw [if_neg c, if_neg c3]
            refine loopC (fun f (b : St) _ => f_X9_step_L97 (fun S31 => some ((), S31)) f b) (fun x => ∃ a', x = some ((), a') ∧ ldC B N e a' ∧ fr (fun c j => c = 20 ∧ (j = 4 ∨ j = 5 ∨ j = 6)) a a') (fun i b => tB B N e + 1 ≤ i ∧ rd b 20 5 = nI (tB B N e) ∧ rd b 20 4 = nI (tK B N e) ∧ rd b 20 6 = nI i ∧ rnE B (tK B N e) (N - i) i = tE B N e ∧ fr (fun c j => c = 20 ∧ (j = 4 ∨ j = 5 ∨ j = 6)) a b) N ?_ ?_ (N - (tB B N e + 1)) (tB B N e + 1) FU b2 (by omega) (by unfold FU; omega) ⟨Nat.le_refl _, s5, s4, s6, hE.symm, hfb2⟩
            · intro f b ⟨_, w1, w2, w3, w4, w5⟩
              have e1 : rd b 20 1 = nI N := by rw [w5 _ _ (by omega), hf _ _ (by unfold Xt; omega)]; exact t2
              rw [Nat.sub_self, rnE] at w4
              refine ⟨b, ?_, ⟨w1, by rw [← w4]; exact w3, w2⟩, w5⟩
              show f_X9_step_L97 _ (f + 1) b = _
              rw [f_X9_step_L97]
              simp (disch := omega) only [md_n, lt_eq, bd_some, gN, gN2, le_T, le_F, lt_T, lt_F, eq_T, eq_F, cN, plus_n, mul_n, rem_n, div_n, sub_n, re_T, re_F, rl_wr, rd_wl, ne_m1, m1_ne, m1_lt, m1_le, m1_ge, m1_gt, m1_refl, ↓reduceIte, L0, L1, L2, L3, L4, L5, L6, L7, L8, L9, L10, L11, L15, L16, L17, L18, L20, L24, L26, L28, L31, L32, L35, L36, L48, L57, L59, L63, L64, L96, L97, L99, L100, L112, L122, L128, L200, L255, L256, L1000, L1024, L2000, L3000, L1000000, L1000000007, e1, w2, w3]
            · intro f b i hi ⟨w0, w1, w2, w3, w4, w5⟩
              have e1 : rd b 20 1 = nI N := by rw [w5 _ _ (by omega), hf _ _ (by unfold Xt; omega)]; exact t2
              have e3 : rd b 21 i = nI (B i) := by rw [w5 _ _ (by omega), hf _ _ (by unfold Xt; omega)]; exact (t4 i hi).2.1
              have hki := kindOf_ok (t4 i hi).1 b
              have hk3 : kd (B i) ≤ 3 := by have := kd_cases (B i); omega
              rw [show N - i = (N - (i + 1)) + 1 by omega, rnE] at w4
              by_cases d : kd (B i) = tK B N e
              · right
                rw [if_pos d] at w4
                refine ⟨wr b 20 6 (nI (i + 1)), ?_, by omega, by rw [rw_ne (by omega)]; exact w1, by rw [rw_ne (by omega)]; exact w2, rw_eq, w4, w5.wr (by omega)⟩
                show f_X9_step_L97 _ (f + 1) b = f_X9_step_L97 _ f _
                rw [f_X9_step_L97]
                simp (disch := omega) only [md_n, lt_eq, bd_some, gN, gN2, le_T, le_F, lt_T, lt_F, eq_T, eq_F, cN, plus_n, mul_n, rem_n, div_n, sub_n, re_T, re_F, rl_wr, rd_wl, ne_m1, m1_ne, m1_lt, m1_le, m1_ge, m1_gt, m1_refl, ↓reduceIte, L0, L1, L2, L3, L4, L5, L6, L7, L8, L9, L10, L11, L15, L16, L17, L18, L20, L24, L26, L28, L31, L32, L35, L36, L48, L57, L59, L63, L64, L96, L97, L99, L100, L112, L122, L128, L200, L255, L256, L1000, L1024, L2000, L3000, L1000000, L1000000007, e1, w2, w3, e3, hki]
              · left
                rw [if_neg d] at w4
                refine ⟨b, ?_, ⟨w1, by rw [← w4]; exact w3, w2⟩, w5⟩
                show f_X9_step_L97 _ (f + 1) b = _
                rw [f_X9_step_L97]
                simp (disch := omega) only [md_n, lt_eq, bd_some, gN, gN2, le_T, le_F, lt_T, lt_F, eq_T, eq_F, cN, plus_n, mul_n, rem_n, div_n, sub_n, re_T, re_F, rl_wr, rd_wl, ne_m1, m1_ne, m1_lt, m1_le, m1_ge, m1_gt, m1_refl, ↓reduceIte, L0, L1, L2, L3, L4, L5, L6, L7, L8, L9, L10, L11, L15, L16, L17, L18, L20, L24, L26, L28, L31, L32, L35, L36, L48, L57, L59, L63, L64, L96, L97, L99, L100, L112, L122, L128, L200, L255, L256, L1000, L1024, L2000, L3000, L1000000, L1000000007, e1, w2, w3, e3, hki]
        obtain ⟨a', l1, l2, l3⟩ := hloop
        refine ⟨a', ?_, l2, l3⟩
        rw [f_X9_step_L8]
        rw [← hkd] at hk
        simp (disch := omega) only [md_n, lt_eq, bd_some, gN, gN2, le_T, le_F, lt_T, lt_F, eq_T, eq_F, cN, plus_n, mul_n, rem_n, div_n, sub_n, re_T, re_F, rl_wr, rd_wl, ne_m1, m1_ne, m1_lt, m1_le, m1_ge, m1_gt, m1_refl, ↓reduceIte, L0, L1, L2, L3, L4, L5, L6, L7, L8, L9, L10, L11, L15, L16, L17, L18, L20, L24, L26, L28, L31, L32, L35, L36, L48, L57, L59, L63, L64, L96, L97, L99, L100, L112, L122, L128, L200, L255, L256, L1000, L1024, L2000, L3000, L1000000, L1000000007, e1, h5, e2, hk, hb2]
        exact l1
  · intro f b ⟨w0, w1, w2, w3⟩
    rw [Nat.sub_self, skp] at w2
    exact key f b (by rw [← w2]; exact w1) w3 (fun z => by omega)
  · intro f b i hi ⟨w0, w1, w2, w3⟩
    have e1 : rd b 20 1 = nI N := by rw [w3 _ _ (by omega), hf _ _ (by unfold Xt; omega)]; exact t2
    have e3 : rd b 21 i = nI (B i) := by rw [w3 _ _ (by omega), hf _ _ (by unfold Xt; omega)]; exact (t4 i hi).2.1
    have hb := (t4 i hi).1
    rw [show N - i = (N - (i + 1)) + 1 by omega, skp] at w2
    by_cases d : B i = 32
    · right
      rw [if_pos d] at w2
      refine ⟨wr b 20 5 (nI (i + 1)), ?_, by omega, rw_eq, w2, w3.wr (by omega)⟩
      show f_X9_step_L8 _ (f + 1) b = f_X9_step_L8 _ f _
      rw [f_X9_step_L8]
      rw [d] at e3
      simp (disch := omega) only [md_n, lt_eq, bd_some, gN, gN2, le_T, le_F, lt_T, lt_F, eq_T, eq_F, cN, plus_n, mul_n, rem_n, div_n, sub_n, re_T, re_F, rl_wr, rd_wl, ne_m1, m1_ne, m1_lt, m1_le, m1_ge, m1_gt, m1_refl, ↓reduceIte, L0, L1, L2, L3, L4, L5, L6, L7, L8, L9, L10, L11, L15, L16, L17, L18, L20, L24, L26, L28, L31, L32, L35, L36, L48, L57, L59, L63, L64, L96, L97, L99, L100, L112, L122, L128, L200, L255, L256, L1000, L1024, L2000, L3000, L1000000, L1000000007, e1, w1, e3]
    · left
      rw [if_neg d] at w2
      exact key f b (by rw [← w2]; exact w1) w3 (fun _ => by rw [← w2]; exact d)
