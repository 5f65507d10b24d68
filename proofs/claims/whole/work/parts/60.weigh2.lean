theorem weigh_ok {S : St} {v n : Nat} {x : Int64} {r : Nat → Nat} (hI : I_pcs S) (hc : I_cut S) (hv4 : v < 4) (hn1 : 1 ≤ n) (hn : n ≤ 16) (hr : ∀ i, r i < 16) (hx : ∀ i, i < n → nib x i = r i) :
    ∃ S', f_X6_weigh (nI v) x (nI n) S = some ((), S') ∧ Ws S v n r S' ∧ rp (rd S' 3 14) (rd S' 3 15) (Tot S v n r n) (300 * n) ∧ Wr S v n r n S' := by
  have ht := tn_lt hI
  unfold f_X6_weigh
  rw [lt_eq, lt_eq]
  -- the row
  refine loopC (fun f (b : St) i => f_X6_weigh_L14 _ (nI v) x (nI n) f (nI i) b) (fun y => ∃ S', y = some ((), S') ∧ Ws S v n r S' ∧ rp (rd S' 3 14) (rd S' 3 15) (Tot S v n r n) (300 * n) ∧ Wr S v n r n S')
    (fun i b => fr Xw S b ∧ rd b 3 3 = nI v ∧ rd b 3 2 = nI n ∧ ∀ m, m < i → rd b 4 m = nI (r m)) n ?_ ?_ n 0 FU _ (by omega) (by unfold FU; omega) ⟨((fr.refl _ _).wr (by unfold Xw; omega)).wr (by unfold Xw; omega), by rw [rw_ne (by omega), rw_eq], by rw [rw_eq], fun m hm => by omega⟩
  rotate_left
  · intro f b i hi ⟨h1, h2, h3, h4⟩
    refine Or.inr ⟨wr b 4 i (nI (r i)), ?_, h1.wr (by unfold Xw; omega), by rw [rw_ne (by omega)]; exact h2, by rw [rw_ne (by omega)]; exact h3, fun m hm => ?_⟩
    · show f_X6_weigh_L14 _ _ _ _ _ _ _ = _
      rw [f_X6_weigh_L14]
      have := nib_c x (show i < 16 by omega)
      rw [hx i hi] at this
      rw [if_neg (by rw [le_n (by omega) (by omega)]; omega), if_neg (by rw [show (16 : Int32) = nI 16 from rfl, le_n (by omega) (by omega)]; omega), this]
      simp (disch := omega) only [md_n, lt_eq, bd_some, gN, gN2, le_T, le_F, lt_T, lt_F, eq_T, eq_F, cN, plus_n, mul_n, rem_n, div_n, sub_n, re_T, re_F, rl_wr, rd_wl, ne_m1, m1_ne, m1_lt, m1_le, m1_ge, m1_gt, m1_refl, ↓reduceIte, L0, L1, L2, L3, L4, L5, L6, L7, L8, L9, L10, L11, L15, L16, L17, L18, L20, L24, L26, L28, L31, L32, L35, L36, L48, L57, L59, L63, L64, L96, L97, L99, L100, L112, L122, L128, L200, L255, L256, L1000, L1024, L2000, L3000, L1000000, L1000000007]
    · by_cases c : m = i
      · subst c; rw [rw_eq]
      · rw [rw_ne (Or.inr c)]; exact h4 m (by omega)
  intro f a ⟨h1, h2, h3, h4⟩
  show ∃ S', f_X6_weigh_L14 _ _ _ _ _ _ _ = _ ∧ _
  rw [f_X6_weigh_L14, if_pos (Int32.le_refl _)]
  obtain ⟨a1, o1, o2, o3⟩ := gatherTones_ok hI h1 h2 hv4
  rw [o1, bd_some]
  obtain ⟨a2, p1, p2, p3⟩ := fill_ok (S := a1) (c := 9) (N := 128) (v := 1000000) rfl (by decide)
  rw [p1, bd_some]
  obtain ⟨a3, q1, q2, q3⟩ := fill_ok (S := a2) (c := 10) (N := 128) (v := 0) rfl (by decide)
  rw [q1, bd_some]
  have hW3 : Ws S v n r a3 := by
    have hW1 : Ws S v n r a1 := ⟨h1.trans (o3.mono (fun c j h => by unfold Xg at h; unfold Xw; omega)), by rw [o3 _ _ (by unfold Xg; omega)]; exact h2, by rw [o3 _ _ (by unfold Xg; omega)]; exact h3, fun i hi => by rw [o3 _ _ (by unfold Xg; omega)]; exact h4 i hi, o2⟩
    exact (hW1.go (p3.mono (fun c j h => by omega))).go (q3.mono (fun c j h => by omega))
  obtain ⟨a4, s1, s2, s3⟩ := L75_ok (v1 := nI v) hn hW3 _
  rw [show (0 : Int32) = nI 0 from rfl] at *
  rw [s1, lt_eq, show nI n - (1 : Int32) = dn n by rw [show (1 : Int32) = nI 1 from rfl, sub_n hn1]; obtain ⟨z, rfl⟩ : ∃ z, n = z + 1 := ⟨n - 1, by omega⟩; rfl]
  have hW4 : Ws S v n r a4 := hW3.go (s2.mono (fun c j h => by omega))
  refine loopD (fun f (b : St) i => f_X6_weigh_L134 _ (nI v) f i b) (fun y => ∃ S', y = some ((), S') ∧ Ws S v n r S' ∧ rp (rd S' 3 14) (rd S' 3 15) (Tot S v n r n) (300 * n) ∧ Wr S v n r n S')
    (fun i b => i ≤ n ∧ Ws S v n r b ∧ Wr S v n r (n - i) b ∧ Wi S v n r (n - i) b ∧ (i = 0 → ∀ t, us S v t = true → rp (rd b 11 t) (rd b 12 t) (Bg S v n r n t) (300 * n))) ?_ ?_ n FU a4 (by unfold FU; omega) ⟨Nat.le_refl _, hW4, fun m hm hmn t htu => ?_, fun p hp hv m hm => ?_, fun z => by omega⟩
  · intro f b ⟨_, g1, g2, _, g4⟩
    show ∃ S', f_X6_weigh_L134 _ _ _ _ _ = _ ∧ _
    rw [f_X6_weigh_L134, if_pos (by decide)]
    obtain ⟨b2, w1, w2, w3⟩ := sumUp_ok (S := S) (v := v) (B := Bg S v n r n) (by omega) g1.2.2.2.2 (fun s hs => Bg_un hs) (g4 rfl)
    refine ⟨b2, by rw [w1, bd_some], g1.go (w2.mono (fun c j h => by omega)), by rw [Tot_Bg ht]; exact w3, fun m hm hmn t htu => ?_⟩
    rw [w2 7 _ (by omega), w2 8 _ (by omega)]
    exact g2 m hm hmn t htu
  · intro f b q ⟨hq, g1, g2, g3, _⟩
    right
    obtain ⟨k, hk⟩ : ∃ k, q + (k + 1) = n := ⟨n - (q + 1), by omega⟩
    rw [show n - (q + 1) = k by omega] at g2 g3
    show ∃ a', f_X6_weigh_L134 _ _ _ _ _ = _ ∧ _
    rw [f_X6_weigh_L134, if_neg (nI_pos (n := q) (by omega))]
    obtain ⟨b1, c1, c2, c3⟩ := L142_ok (v1 := nI v) (v5 := nI q) g1 (fun S53 => f_X6_weigh_L187
            (fun  (S62 : St) =>
              lt_ (fun  (S63 : St) =>
                  lt_ (nI q + (-1 : Int32)) fun x64 =>
                  f_X6_weigh_L134 (fun  (S70 : St) => bd_ (f_X6_sumUp  S70) fun r71 S72 => some ((), S72)) (nI v) f x64 S63) fun J253 =>
              if nI q ≤ 0 then
                J253  S62
              else
                bd_ (f_X6_carryUp (nI q * (100 : Int32)) S62) fun r66 S67 =>
                bd_ (f_X6_carryDown (nI q * (100 : Int32)) S67) fun r68 S69 =>
                J253  S69)
            (nI v) (nI q) FU (0 : Int32) S53)
    have g1b : Ws S v n r b1 := g1.go (c2.mono (fun c j h => by omega))
    have g2b : Wr S v n r k b1 := fun m hm hmn t htu => by rw [c2 7 _ (by omega), c2 8 _ (by omega)]; exact g2 m hm hmn t htu
    have g3b : Wi S v n r k b1 := fun p hp hv m hm => by rw [c2 9 _ (by omega), c2 10 _ (by omega)]; exact g3 p hp hv m hm
    obtain ⟨b2, d1, d2, d3, d4⟩ := L187_ok hI hc hv4 hn hk hr g1b g2b g3b c3 (fun  (S62 : St) =>
              lt_ (fun  (S63 : St) =>
                  lt_ (nI q + (-1 : Int32)) fun x64 =>
                  f_X6_weigh_L134 (fun  (S70 : St) => bd_ (f_X6_sumUp  S70) fun r71 S72 => some ((), S72)) (nI v) f x64 S63) fun J253 =>
              if nI q ≤ 0 then
                J253  S62
              else
                bd_ (f_X6_carryUp (nI q * (100 : Int32)) S62) fun r66 S67 =>
                bd_ (f_X6_carryDown (nI q * (100 : Int32)) S67) fun r68 S69 =>
                J253  S69)
    have g1c : Ws S v n r b2 := g1b.go (d2.mono (fun c j h => by omega))
    have g2c : Wr S v n r k b2 := fun m hm hmn t htu => by rw [d2 7 _ (by omega), d2 8 _ (by omega)]; exact g2b m hm hmn t htu
    by_cases q0 : q = 0
    · refine ⟨b2, ?_, by omega, g1c, fun m hm hmn t htu => g2c m (by omega) hmn t htu, ?_, fun _ t htu => ?_⟩
      · refine (c1.trans d1).trans ?_
        rw [lt_eq, if_pos (by rw [q0]; decide)]; rfl
      · rw [show n - q = k + 1 by omega]; exact d3
      · have := d4 t htu
        rw [show k + 1 = n by omega] at this
        exact this.mono (by omega)
    · obtain ⟨b3, e1, e2, e3⟩ := carryUp_ok (S := S) (v := v) (base := q * 100) (B := Bg S v n r (k + 1)) (by omega) (by omega) g1c.2.2.2.2 (fun s hs => Bg_un hs) d4
      have g1d : Ws S v n r b3 := g1c.go (e2.mono (fun c j h => by unfold Xc at h; omega))
      have d4d : ∀ t, us S v t = true → rp (rd b3 11 t) (rd b3 12 t) (Bg S v n r (k + 1) t) (300 * k + 200) := fun t htu => by rw [e2 11 _ (by unfold Xc; omega), e2 12 _ (by unfold Xc; omega)]; exact d4 t htu
      obtain ⟨b4, f1, f2, f3⟩ := carryDown_ok (S := S) (v := v) (base := q * 100) (B := Bg S v n r (k + 1)) (by omega) (by omega) g1d.2.2.2.2 (fun s hs => Bg_un hs) d4d e3
      refine ⟨b4, ?_, by omega, g1d.go (f2.mono (fun c j h => by unfold Xd at h; omega)), fun m hm hmn t htu => ?_, ?_, fun z => absurd z q0⟩
      · refine (c1.trans d1).trans ?_
        rw [lt_eq, if_neg (by rw [show (0 : Int32) = nI 0 from rfl, le_n (by omega) (by omega)]; omega), show nI q * (100 : Int32) = nI (q * 100) from mul_n q 100, e1, bd_some, f1, bd_some]; rfl
      · have htl := us_lt hI htu
        by_cases c : m = k + 1
        · subst c
          rw [show n - (k + 1) = q by omega, DT_Bg ht]
          exact (f3 t htu htl).mono (by omega)
        · rw [f2 7 _ (by unfold Xd; omega), f2 8 _ (by unfold Xd; omega), e2 7 _ (by unfold Xc; omega), e2 8 _ (by unfold Xc; omega)]
          exact g2c m (by omega) hmn t htu
      · rw [show n - q = k + 1 by omega]
        intro p hp hv m hm
        rw [f2 9 _ (by unfold Xd; omega), f2 10 _ (by unfold Xd; omega), e2 9 _ (by unfold Xc; omega), e2 10 _ (by unfold Xc; omega)]
        exact d3 p hp hv m hm
  · rw [Nat.sub_self] at hm
    have : m = 0 := by omega
    subst this
    obtain ⟨y1, y2⟩ := s3 t htu (us_lt hI htu)
    rw [Nat.sub_zero, y1, y2, DT_0]
    exact rp_one
  · rw [Nat.sub_self, DI_0]
    obtain ⟨-, -, -, -, -, -, c3, -⟩ := pf_p hI (fun _ _ _ => rfl) hp
    have h16 := hI.1
    rw [s2 9 _ (by omega), s2 10 _ (by omega), q3 9 _ (by omega), p2 _ (by omega), q2 _ (by omega)]
    exact rp_z (fun _ => rfl)
