/-! ===== rows: the model ===== -/
theorem lN_neg {n : Nat} (h : n < 7625597484987) : lN n ≠ -1 ∧ lN n ≠ -2 ∧ lN n ≠ -3 ∧ lN n ≠ -4 ∧ lN n ≠ -5 := by
  have e := pk_lT (n := n) (by omega)
  refine ⟨fun z => ?_, fun z => ?_, fun z => ?_, fun z => ?_, fun z => ?_⟩
  · rw [z] at e; have : (-1 : Int64).toInt = -1 := by decide
    omega
  · rw [z] at e; have : (-2 : Int64).toInt = -2 := by decide
    omega
  · rw [z] at e; have : (-3 : Int64).toInt = -3 := by decide
    omega
  · rw [z] at e; have : (-4 : Int64).toInt = -4 := by decide
    omega
  · rw [z] at e; have : (-5 : Int64).toInt = -5 := by decide
    omega
theorem tokV_cases {B : Nat → Nat} {N p : Nat} (hp : p ≤ N) : (tK B N p = 0 ∧ tokV B N p = -2) ∨ (tK B N p = 3 ∧ B (tB B N p) = 59 ∧ tokV B N p = -3) ∨ (tK B N p = 3 ∧ B (tB B N p) = 35 ∧ tokV B N p = -5) ∨ (tK B N p = 3 ∧ B (tB B N p) ≠ 59 ∧ B (tB B N p) ≠ 35 ∧ tokV B N p = -4) ∨ (tK B N p = 2 ∧ tE B N p - tB B N p ≤ 2 ∧ tokV B N p = -1) ∨ (tK B N p = 2 ∧ ¬ tE B N p - tB B N p ≤ 2 ∧ tokV B N p = -4) ∨ (tK B N p = 1 ∧ tE B N p - tB B N p ≤ 9 ∧ ∃ n, n < 7625597484987 ∧ tokV B N p = lN n) ∨ (tK B N p = 1 ∧ ¬ tE B N p - tB B N p ≤ 9 ∧ tokV B N p = -4) := by
  obtain ⟨y1, y2, y3, y4, y5, y6, y7, y8, y9, y10⟩ := tok_facts B hp
  unfold tokV
  by_cases k0 : tK B N p = 0
  · left; rw [if_pos k0]; exact ⟨k0, rfl⟩
  · right
    rw [if_neg k0]
    by_cases k3 : tK B N p = 3
    · rw [if_pos k3]
      by_cases d1 : B (tB B N p) = 59
      · left; rw [if_pos d1]; exact ⟨k3, d1, rfl⟩
      · right
        rw [if_neg d1]
        by_cases d2 : B (tB B N p) = 35
        · left; rw [if_pos d2]; exact ⟨k3, d2, rfl⟩
        · right; left; rw [if_neg d2]; exact ⟨k3, d1, d2, rfl⟩
    · right; right; right
      rw [if_neg k3]
      by_cases k2 : tK B N p = 2
      · rw [if_pos k2]
        by_cases d : tE B N p - tB B N p ≤ 2
        · left; rw [if_pos d]; exact ⟨k2, d, rfl⟩
        · right; left; rw [if_neg d]; exact ⟨k2, d, rfl⟩
      · right; right
        rw [if_neg k2]
        have k1 : tK B N p = 1 := by omega
        obtain ⟨y11, y12⟩ := y10 (Or.inl k1)
        by_cases d : tE B N p - tB B N p ≤ 9
        · left
          rw [if_pos d]
          refine ⟨k1, d, _, ?_, rfl⟩
          have := wc_lt B (tB B N p) (tE B N p - tB B N p) (fun i hi => by
            have := y12 (tB B N p + i) (by omega) (by omega)
            rw [k1] at this
            have := kd_cases (B (tB B N p + i))
            omega)
          exact Nat.lt_of_lt_of_le this (Nat.le_trans (Nat.pow_le_pow_right (by decide) d) (by decide))
        · right; rw [if_neg d]; exact ⟨k1, d, rfl⟩
theorem tokV_num {B : Nat → Nat} {N p : Nat} (hp : p ≤ N) : tokV B N p = -1 ↔ ∃ v, num B N p = some v := by
  have hn : (∃ v, num B N p = some v) ↔ (tK B N p = 2 ∧ tE B N p - tB B N p ≤ 2) := by
    unfold num
    constructor
    · rintro ⟨v, h⟩
      by_cases c : tK B N p = 2 ∧ tE B N p - tB B N p ≤ 2
      · exact c
      · rw [if_neg c] at h; cases h
    · intro c; exact ⟨_, if_pos c⟩
  rw [hn]
  rcases tokV_cases hp with ⟨a, b⟩ | ⟨a, b, c⟩ | ⟨a, b, c⟩ | ⟨a, b, c, d⟩ | ⟨a, b, c⟩ | ⟨a, b, c⟩ | ⟨a, b, n, c, d⟩ | ⟨a, b, c⟩
  · rw [b]; exact ⟨fun z => absurd z (by decide), fun z => by omega⟩
  · rw [c]; exact ⟨fun z => absurd z (by decide), fun z => by omega⟩
  · rw [c]; exact ⟨fun z => absurd z (by decide), fun z => by omega⟩
  · rw [d]; exact ⟨fun z => absurd z (by decide), fun z => by omega⟩
  · rw [c]; exact ⟨fun _ => ⟨a, b⟩, fun _ => rfl⟩
  · rw [c]; exact ⟨fun z => absurd z (by decide), fun z => absurd z.2 b⟩
  · rw [d]; exact ⟨fun z => absurd z (lN_neg c).1, fun z => by omega⟩
  · rw [c]; exact ⟨fun z => absurd z (by decide), fun z => by omega⟩
theorem tokV_hash {B : Nat → Nat} {N p : Nat} (hp : p ≤ N) : tokV B N p = -5 ↔ hash B N p = true := by
  have hn : hash B N p = true ↔ (tK B N p = 3 ∧ B (tB B N p) = 35) := by unfold hash; rw [Bool.and_eq_true]; exact ⟨fun h => ⟨of_decide_eq_true h.1, of_decide_eq_true h.2⟩, fun h => ⟨decide_eq_true h.1, decide_eq_true h.2⟩⟩
  rw [hn]
  rcases tokV_cases hp with ⟨a, b⟩ | ⟨a, b, c⟩ | ⟨a, b, c⟩ | ⟨a, b, c, d⟩ | ⟨a, b, c⟩ | ⟨a, b, c⟩ | ⟨a, b, n, c, d⟩ | ⟨a, b, c⟩
  · rw [b]; exact ⟨fun z => absurd z (by decide), fun z => by omega⟩
  · rw [c]; exact ⟨fun z => absurd z (by decide), fun z => by omega⟩
  · rw [c]; exact ⟨fun _ => ⟨a, b⟩, fun _ => rfl⟩
  · rw [d]; exact ⟨fun z => absurd z (by decide), fun z => absurd z.2 c⟩
  · rw [c]; exact ⟨fun z => absurd z (by decide), fun z => by omega⟩
  · rw [c]; exact ⟨fun z => absurd z (by decide), fun z => by omega⟩
  · rw [d]; exact ⟨fun z => absurd z (lN_neg c).2.2.2.2, fun z => by omega⟩
  · rw [c]; exact ⟨fun z => absurd z (by decide), fun z => by omega⟩
theorem tokV_end {B : Nat → Nat} {N p : Nat} (hp : p ≤ N) : (tokV B N p = -2 ↔ tK B N p = 0) ∧ (tokV B N p = -3 ↔ (tK B N p = 3 ∧ B (tB B N p) = 59)) := by
  rcases tokV_cases hp with ⟨a, b⟩ | ⟨a, b, c⟩ | ⟨a, b, c⟩ | ⟨a, b, c, d⟩ | ⟨a, b, c⟩ | ⟨a, b, c⟩ | ⟨a, b, n, c, d⟩ | ⟨a, b, c⟩
  · rw [b]; exact ⟨⟨fun _ => a, fun _ => rfl⟩, ⟨fun z => absurd z (by decide), fun z => by omega⟩⟩
  · rw [c]; exact ⟨⟨fun z => absurd z (by decide), fun z => by omega⟩, ⟨fun _ => ⟨a, b⟩, fun _ => rfl⟩⟩
  · rw [c]; exact ⟨⟨fun z => absurd z (by decide), fun z => by omega⟩, ⟨fun z => absurd z (by decide), fun z => by omega⟩⟩
  · rw [d]; exact ⟨⟨fun z => absurd z (by decide), fun z => by omega⟩, ⟨fun z => absurd z (by decide), fun z => absurd z.2 b⟩⟩
  · rw [c]; exact ⟨⟨fun z => absurd z (by decide), fun z => by omega⟩, ⟨fun z => absurd z (by decide), fun z => by omega⟩⟩
  · rw [c]; exact ⟨⟨fun z => absurd z (by decide), fun z => by omega⟩, ⟨fun z => absurd z (by decide), fun z => by omega⟩⟩
  · rw [d]; exact ⟨⟨fun z => absurd z (lN_neg c).2.1, fun z => by omega⟩, ⟨fun z => absurd z (lN_neg c).2.2.1, fun z => by omega⟩⟩
  · rw [c]; exact ⟨⟨fun z => absurd z (by decide), fun z => by omega⟩, ⟨fun z => absurd z (by decide), fun z => by omega⟩⟩
theorem fails_ok {a : St} {x : Nat} (h : rd a 54 15 = nI x) : f_X11_fails a = some (0, wr a 54 19 (nI x)) := by unfold f_X11_fails; rw [lt_eq, h]
def Xv (w c j : Nat) : Prop := (c = 54 ∧ 14 ≤ j ∧ j ≤ 19) ∨ (c = 66 ∧ w ≤ j ∧ j < w + 11)
theorem Xv_txt {a b : St} {B : Nat → Nat} {N w : Nat} (hT : TxtM a B N) (hf : fr (Xv w) a b) : TxtM b B N := hT.cg (hf _ _ (by unfold Xv; omega)) (hf _ _ (by unfold Xv; omega)) (fun j => hf _ _ (by unfold Xv; omega)) (fun j => hf _ _ (by unfold Xv; omega))
theorem isNumber_ok {a : St} {B : Nat → Nat} {N p x hi : Nat} (hT : TxtM a B N) (hp : p ≤ N) (h14 : rd a 54 14 = nI p) (hx : x < 110) (hhi : hi ≤ 99) :
    ∃ a', ((∃ v, numB B N p (hi + 1) = some v ∧ f_X11_isNumber (nI x) 0 (nI hi) a = some (1, a') ∧ rd a' 66 x = nI v ∧ rd a' 54 14 = nI (tE B N p) ∧ rd a' 54 15 = nI (tB B N p)) ∨ (numB B N p (hi + 1) = none ∧ f_X11_isNumber (nI x) 0 (nI hi) a = some (0, a') ∧ rd a' 54 19 = nI (tB B N p))) ∧ fr (fun c j => (c = 54 ∧ 14 ≤ j ∧ j ≤ 19) ∨ (c = 66 ∧ j = x)) a a' := by
  obtain ⟨a1, o1, ⟨o2, o3, o4, o5⟩, o6⟩ := nextToken_ok hT hp h14
  have f1 : fr (fun c j => (c = 54 ∧ 14 ≤ j ∧ j ≤ 19) ∨ (c = 66 ∧ j = x)) a a1 := o6.mono (fun c j h => by unfold Xn at h; omega)
  have hfail : (bd_ (f_X11_fails a1) fun r5 S6 => gd_ (bz r5) <| some (r5, S6)) = some (0, wr a1 54 19 (nI (tB B N p))) := by rw [fails_ok o2, bd_some, gd_t (Or.inl rfl)]
  unfold f_X11_isNumber
  rw [o1, bd_some, lt_eq]
  cases hn : num B N p with
  | none =>
    have hne : ¬ tokV B N p = -1 := fun z => by obtain ⟨v, hv⟩ := (tokV_num hp).mp z; rw [hn] at hv; cases hv
    rw [if_neg (by rw [lg0, o4]; exact hne)]
    exact ⟨_, Or.inr ⟨by unfold numB; rw [hn], hfail, rw_eq⟩, f1.wr (by omega)⟩
  | some v =>
    have he : tokV B N p = -1 := (tokV_num hp).mpr ⟨v, hn⟩
    have hv := num_le hp hn
    have e18 : rd a1 54 18 = nI v := by
      unfold num at hn
      split at hn
      · next c => rw [o5 c.1 c.2]; exact congrArg nI (Option.some.inj hn)
      · cases hn
    rw [if_pos (by rw [lg0, o4]; exact he), e18]
    by_cases c : v < hi + 1
    · rw [show f_X11_in (nI v) 0 (nI hi) a1 = _ from in_T (v := v) (a := 0) (b := hi) a1 (by omega), bd_some, if_neg (by decide), gd_t (inb_n hx (by decide)), cl_n (by omega), e18, lt_eq]
      exact ⟨_, Or.inl ⟨v, numB_some.mpr ⟨hn, c⟩, rfl, rw_eq, by rw [rw_ne (by omega)]; exact o3, by rw [rw_ne (by omega)]; exact o2⟩, f1.wr (by omega)⟩
    · rw [show f_X11_in (nI v) 0 (nI hi) a1 = _ from in_F (v := v) (a := 0) (b := hi) a1 (by omega), bd_some, if_pos (by decide)]
      exact ⟨_, Or.inr ⟨by unfold numB; rw [hn]; exact if_neg c, hfail, rw_eq⟩, f1.wr (by omega)⟩
theorem isIs_ok {a : St} {B : Nat → Nat} {N p : Nat} (hT : TxtM a B N) (hp : p ≤ N) (h14 : rd a 54 14 = nI p) : ∃ a', ((wIs B N p 1 = true ∧ f_X11_isIs a = some (1, a') ∧ rd a' 54 14 = nI (tE B N p)) ∨ (wIs B N p 1 = false ∧ f_X11_isIs a = some (0, a') ∧ rd a' 54 19 = nI (tB B N p))) ∧ fr (fun c j => c = 54 ∧ 14 ≤ j ∧ j ≤ 19) a a' := by
  obtain ⟨a1, o1, ⟨o2, o3, o4, o5⟩, o6⟩ := nextToken_ok hT hp h14
  have f1 : fr (fun c j => c = 54 ∧ 14 ≤ j ∧ j ≤ 19) a a1 := o6.mono (fun c j h => by unfold Xn at h; omega)
  unfold f_X11_isIs
  rw [o1, bd_some, lt_eq]
  have hw := tokV_w (B := B) (N := N) (p := p) (i := 1) hp (by omega)
  cases h : wIs B N p 1
  · rw [if_neg (by rw [lg0, o4]; intro z; have := hw.mp z; rw [h] at this; cases this), fails_ok o2, bd_some, if_pos rfl]
    exact ⟨_, Or.inr ⟨rfl, rfl, rw_eq⟩, f1.wr (by omega)⟩
  · rw [if_pos (by rw [lg0, o4]; exact hw.mpr h)]
    exact ⟨a1, Or.inl ⟨rfl, rfl, o3⟩, f1⟩
