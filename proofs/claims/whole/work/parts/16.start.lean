/-- the state at the start -/
def S0 : St := (fun k => if k = 46 then (upd (upd (upd (upd (upd (upd (fun _ => 0) (Int32.toNatClampNeg (0 : Int32)) ((1 : Int32) <<< ((0 : Int32) &&& 31))) (Int32.toNatClampNeg (1 : Int32)) ((1 : Int32) <<< ((1 : Int32) &&& 31))) (Int32.toNatClampNeg (2 : Int32)) ((1 : Int32) <<< ((2 : Int32) &&& 31))) (Int32.toNatClampNeg (3 : Int32)) ((1 : Int32) <<< ((3 : Int32) &&& 31))) (Int32.toNatClampNeg (4 : Int32)) ((1 : Int32) <<< ((4 : Int32) &&& 31))) (Int32.toNatClampNeg (5 : Int32)) ((1 : Int32) <<< ((5 : Int32) &&& 31))) else if k = 47 then (upd (upd (upd (upd (upd (upd (fun _ => 0) (Int32.toNatClampNeg (0 : Int32)) (-1 : Int32)) (Int32.toNatClampNeg (1 : Int32)) (-1 : Int32)) (Int32.toNatClampNeg (2 : Int32)) (-1 : Int32)) (Int32.toNatClampNeg (3 : Int32)) (-1 : Int32)) (Int32.toNatClampNeg (4 : Int32)) (-1 : Int32)) (Int32.toNatClampNeg (5 : Int32)) (-1 : Int32)) else if k = 3 then (fun j => if j = 4 then 5 else 0) else if k = 54 then (fun j => if j = 7 then 5 else 0) else fun _ => 0, fun _ _ => 0)
def al0 (h0 : Nat) (Q : Nat → Nat → Nat) (m0 : Nat) (q : Nat → Nat) : Nat → Nat := fun k => [h0, (Q 0 0), (Q 1 0), (Q 0 1), (Q 2 0), (Q 2 1), (Q 2 2), (Q 2 3), (Q 2 4), (Q 2 5), (Q 2 6), (Q 2 7), (Q 2 8), (Q 2 9), (Q 0 2), (Q 3 0), (Q 3 1), (Q 3 2), (Q 3 3), (Q 3 4), (Q 0 3), (Q 4 0), (Q 4 1), (Q 4 2), (Q 4 4), (Q 4 6), (Q 4 8), (Q 4 10), (Q 4 12), (Q 4 14), (Q 4 16), (Q 4 18), (Q 4 20), (Q 4 3), (Q 4 5), (Q 4 7), (Q 4 9), (Q 4 11), (Q 4 13), (Q 4 15), (Q 4 17), (Q 4 19), (Q 4 21), (Q 0 4), (Q 5 0), (Q 5 1), (Q 5 2), (Q 5 3), (Q 5 4), (Q 0 5), (Q 6 0), (Q 6 1), (Q 0 6), (Q 7 0), m0, (q 0), (q 1), (q 2), (q 3), (q 4), (q 5), (q 6), (q 7), (q 8), (q 9), (q 10), (q 11), (q 12), (q 13), (q 14), (q 15), (q 16), (q 17), (q 18), (q 19), (q 20), (q 21), (q 22), (q 23), (q 24), (q 25), (q 26), (q 27), (q 28), (q 29), (q 30), (q 31), (q 32), (q 33), (q 34)].getD k 0
def wflat (E : En) (h0 : Nat) (Q : Nat → Nat → Nat) (m0 : Nat) (q : Nat → Nat) : va_W := [(h0, .inr (10, [.ref (Q 0 0), .ref (Q 0 1), .ref (Q 0 2), .ref (Q 0 3), .ref (Q 0 4), .ref (Q 0 5), .ref (Q 0 6)])),
  ((Q 0 0), .inr (8, [.ref (Q 1 0), .int 0])),
  ((Q 1 0), .inl (E.2.1 3, 16, .inr (.inr (.inr (.inr (fun _ => none)))))),
  ((Q 0 1), .inr (6, [.ref (Q 0 0), .ref (Q 2 0), .int 0, .int 0, .int (5 : Int32), .ref (Q 2 1), .int 0, .ref (Q 2 2), .ref (Q 2 3), .ref (Q 2 4), .ref (Q 2 5), .ref (Q 2 6), .ref (Q 2 7), .ref (Q 2 8), .int 0, .int 0, .ref (Q 2 9), .int 0])),
  ((Q 2 0), .inl (E.2.1 0, 16, .inl (fun _ => 0))),
  ((Q 2 1), .inl (E.2.1 0, 100, .inl (fun _ => 0))),
  ((Q 2 2), .inl (E.2.1 0, 100, .inl (fun _ => 0))),
  ((Q 2 3), .inl (E.2.1 0, 1700, .inl (fun _ => 0))),
  ((Q 2 4), .inl (E.2.1 0, 1700, .inl (fun _ => 0))),
  ((Q 2 5), .inl (E.2.1 0, 128, .inl (fun _ => 0))),
  ((Q 2 6), .inl (E.2.1 0, 128, .inl (fun _ => 0))),
  ((Q 2 7), .inl (E.2.1 0, 100, .inl (fun _ => 0))),
  ((Q 2 8), .inl (E.2.1 0, 100, .inl (fun _ => 0))),
  ((Q 2 9), .inl (E.2.1 0, 16, .inl (fun _ => 0))),
  ((Q 0 2), .inr (1, [.ref (Q 3 0), .ref (Q 3 1), .ref (Q 3 2), .ref (Q 3 3), .ref (Q 3 4), .int 0])),
  ((Q 3 0), .inl (E.2.1 0, 32, .inl (fun _ => 0))),
  ((Q 3 1), .inl (E.2.1 0, 32, .inl (fun _ => 0))),
  ((Q 3 2), .inl (E.2.1 0, 64, .inl (fun _ => 0))),
  ((Q 3 3), .inl (E.2.1 0, 8, .inl (fun _ => 0))),
  ((Q 3 4), .inl (E.2.1 0, 16, .inl (fun _ => 0))),
  ((Q 0 3), .inr (9, [.ref (Q 4 0), .int 0, .ref (Q 4 1), .int 0, .int 0, .int 0, .int 0])),
  ((Q 4 0), .inl (E.2.1 0, 200, .inl (fun _ => 0))),
  ((Q 4 1), .inl (E.2.1 4, 10, .inr (.inr (.inr (.inr (va_up (va_up (va_up (va_up (va_up (va_up (va_up (va_up (va_up (va_up (fun _ => none) (Int32.toNatClampNeg (0 : Int32)) (some (Q 4 2))) (Int32.toNatClampNeg (1 : Int32)) (some (Q 4 4))) (Int32.toNatClampNeg (2 : Int32)) (some (Q 4 6))) (Int32.toNatClampNeg (3 : Int32)) (some (Q 4 8))) (Int32.toNatClampNeg (4 : Int32)) (some (Q 4 10))) (Int32.toNatClampNeg (5 : Int32)) (some (Q 4 12))) (Int32.toNatClampNeg (6 : Int32)) (some (Q 4 14))) (Int32.toNatClampNeg (7 : Int32)) (some (Q 4 16))) (Int32.toNatClampNeg (8 : Int32)) (some (Q 4 18))) (Int32.toNatClampNeg (9 : Int32)) (some (Q 4 20)))))))),
  ((Q 4 2), .inr (5, [.int 0, .int 0, .ref (Q 4 3), .int 0])),
  ((Q 4 3), .inl (E.2.1 0, 8, .inl (fun _ => 0))),
  ((Q 4 4), .inr (5, [.int 0, .int 0, .ref (Q 4 5), .int 0])),
  ((Q 4 5), .inl (E.2.1 0, 8, .inl (fun _ => 0))),
  ((Q 4 6), .inr (5, [.int 0, .int 0, .ref (Q 4 7), .int 0])),
  ((Q 4 7), .inl (E.2.1 0, 8, .inl (fun _ => 0))),
  ((Q 4 8), .inr (5, [.int 0, .int 0, .ref (Q 4 9), .int 0])),
  ((Q 4 9), .inl (E.2.1 0, 8, .inl (fun _ => 0))),
  ((Q 4 10), .inr (5, [.int 0, .int 0, .ref (Q 4 11), .int 0])),
  ((Q 4 11), .inl (E.2.1 0, 8, .inl (fun _ => 0))),
  ((Q 4 12), .inr (5, [.int 0, .int 0, .ref (Q 4 13), .int 0])),
  ((Q 4 13), .inl (E.2.1 0, 8, .inl (fun _ => 0))),
  ((Q 4 14), .inr (5, [.int 0, .int 0, .ref (Q 4 15), .int 0])),
  ((Q 4 15), .inl (E.2.1 0, 8, .inl (fun _ => 0))),
  ((Q 4 16), .inr (5, [.int 0, .int 0, .ref (Q 4 17), .int 0])),
  ((Q 4 17), .inl (E.2.1 0, 8, .inl (fun _ => 0))),
  ((Q 4 18), .inr (5, [.int 0, .int 0, .ref (Q 4 19), .int 0])),
  ((Q 4 19), .inl (E.2.1 0, 8, .inl (fun _ => 0))),
  ((Q 4 20), .inr (5, [.int 0, .int 0, .ref (Q 4 21), .int 0])),
  ((Q 4 21), .inl (E.2.1 0, 8, .inl (fun _ => 0))),
  ((Q 0 4), .inr (7, [.ref (Q 0 2), .ref (Q 0 1), .ref (Q 5 0), .ref (Q 5 1), .ref (Q 5 2), .ref (Q 5 3), .ref (Q 5 4), .int 0, .int 0])),
  ((Q 5 0), .inl (E.2.1 0, 6, .inl (fun _ => 0))),
  ((Q 5 1), .inl (E.2.1 0, 6, .inl (fun _ => 0))),
  ((Q 5 2), .inl (E.2.1 0, 6, .inl (upd (upd (upd (upd (upd (upd (fun _ => 0) (Int32.toNatClampNeg (0 : Int32)) ((1 : Int32) <<< ((0 : Int32) &&& 31))) (Int32.toNatClampNeg (1 : Int32)) ((1 : Int32) <<< ((1 : Int32) &&& 31))) (Int32.toNatClampNeg (2 : Int32)) ((1 : Int32) <<< ((2 : Int32) &&& 31))) (Int32.toNatClampNeg (3 : Int32)) ((1 : Int32) <<< ((3 : Int32) &&& 31))) (Int32.toNatClampNeg (4 : Int32)) ((1 : Int32) <<< ((4 : Int32) &&& 31))) (Int32.toNatClampNeg (5 : Int32)) ((1 : Int32) <<< ((5 : Int32) &&& 31))))),
  ((Q 5 3), .inl (E.2.1 0, 6, .inl (upd (upd (upd (upd (upd (upd (fun _ => 0) (Int32.toNatClampNeg (0 : Int32)) (-1 : Int32)) (Int32.toNatClampNeg (1 : Int32)) (-1 : Int32)) (Int32.toNatClampNeg (2 : Int32)) (-1 : Int32)) (Int32.toNatClampNeg (3 : Int32)) (-1 : Int32)) (Int32.toNatClampNeg (4 : Int32)) (-1 : Int32)) (Int32.toNatClampNeg (5 : Int32)) (-1 : Int32)))),
  ((Q 5 4), .inl (E.2.1 5, 24, .inr (.inr (.inr (.inr (fun _ => none)))))),
  ((Q 0 5), .inr (4, [.ref (Q 0 2), .ref (Q 6 0), .int 0, .ref (Q 6 1)])),
  ((Q 6 0), .inl (E.2.1 0, 36, .inl (fun _ => 0))),
  ((Q 6 1), .inl (E.2.1 1, 8, .inr (.inl (fun _ => 0)))),
  ((Q 0 6), .inr (2, [.ref (Q 7 0)])),
  ((Q 7 0), .inl (E.2.1 0, 16, .inl (fun _ => 0))),
  (m0, .inr (11, [.int 0, .ref (q 0), .ref (q 1), .ref (q 2), .ref (q 3), .ref (q 4), .ref (q 5), .int (5 : Int32), .ref (q 6), .ref (q 7), .ref (q 8), .ref (q 9), .int 0, .ref (q 10), .int 0, .int 0, .long 0, .int 0, .int 0, .int 0, .int 0, .ref (q 11), .ref (q 12), .ref (q 13), .ref (q 14), .ref (q 15), .int 0, .ref (q 16), .ref (q 17), .ref (q 18), .ref (q 19), .int 0, .int 0, .ref (q 20), .ref (q 21), .ref (q 22), .ref (q 23), .ref (q 24), .ref (q 25), .ref (q 26), .ref (q 27), .ref (q 28), .ref (q 29), .ref (q 30), .ref (q 31), .ref (q 32), .ref (q 33), .ref (q 34)])),
  ((q 0), .inl (E.2.1 0, 128, .inl (fun _ => 0))),
  ((q 1), .inl (E.2.1 0, 16, .inl (fun _ => 0))),
  ((q 2), .inl (E.2.1 0, 16, .inl (fun _ => 0))),
  ((q 3), .inl (E.2.1 0, 16, .inl (fun _ => 0))),
  ((q 4), .inl (E.2.1 0, 16, .inl (fun _ => 0))),
  ((q 5), .inl (E.2.1 0, 16, .inl (fun _ => 0))),
  ((q 6), .inl (E.2.1 0, 17408, .inl (fun _ => 0))),
  ((q 7), .inl (E.2.1 0, 17408, .inl (fun _ => 0))),
  ((q 8), .inl (E.2.1 0, 16, .inl (fun _ => 0))),
  ((q 9), .inl (E.2.1 0, 16, .inl (fun _ => 0))),
  ((q 10), .inl (E.2.1 0, 200, .inl (fun _ => 0))),
  ((q 11), .inl (E.2.1 0, 110, .inl (fun _ => 0))),
  ((q 12), .inl (E.2.1 0, 32, .inl (fun _ => 0))),
  ((q 13), .inl (E.2.1 0, 256, .inl (fun _ => 0))),
  ((q 14), .inl (E.2.1 0, 8, .inl (fun _ => 0))),
  ((q 15), .inl (E.2.1 0, 64, .inl (fun _ => 0))),
  ((q 16), .inl (E.2.1 0, 16, .inl (fun _ => 0))),
  ((q 17), .inl (E.2.1 0, 6, .inl (fun _ => 0))),
  ((q 18), .inl (E.2.1 0, 6, .inl (fun _ => 0))),
  ((q 19), .inl (E.2.1 0, 6, .inl (fun _ => 0))),
  ((q 20), .inl (E.2.1 0, 24, .inl (fun _ => 0))),
  ((q 21), .inl (E.2.1 0, 24, .inl (fun _ => 0))),
  ((q 22), .inl (E.2.1 0, 24, .inl (fun _ => 0))),
  ((q 23), .inl (E.2.1 0, 24, .inl (fun _ => 0))),
  ((q 24), .inl (E.2.1 0, 24, .inl (fun _ => 0))),
  ((q 25), .inl (E.2.1 2, 24, .inl (fun _ => 0))),
  ((q 26), .inl (E.2.1 0, 24, .inl (fun _ => 0))),
  ((q 27), .inl (E.2.1 0, 24, .inl (fun _ => 0))),
  ((q 28), .inl (E.2.1 0, 24, .inl (fun _ => 0))),
  ((q 29), .inl (E.2.1 2, 24, .inl (fun _ => 0))),
  ((q 30), .inl (E.2.1 0, 24, .inl (fun _ => 0))),
  ((q 31), .inl (E.2.1 0, 384, .inl (fun _ => 0))),
  ((q 32), .inl (E.2.1 0, 17, .inl (fun _ => 0))),
  ((q 33), .inl (E.2.1 0, 17, .inl (fun _ => 0))),
  ((q 34), .inl (E.2.1 0, 16, .inl (fun _ => 0)))]
set_option maxRecDepth 100000 in
set_option maxHeartbeats 4000000 in
theorem wflat_eq (E : En) (h0 : Nat) (Q : Nat → Nat → Nat) (m0 : Nat) (q : Nat → Nat) : w1_X10_init E h0 Q ++ w1_X11_init E m0 q = wflat E h0 Q m0 q := rfl
def pos0 : List Nat := [0, 1, 2, 3, 4, 5, 6, 7, 8, 9, 10, 11, 12, 13, 14, 15, 16, 17, 18, 19, 20, 21, 22, 23, 25, 27, 29, 31, 33, 35, 37, 39, 41, 24, 26, 28, 30, 32, 34, 36, 38, 40, 42, 43, 44, 45, 46, 47, 48, 49, 50, 51, 52, 53, 54, 55, 56, 57, 58, 59, 60, 61, 62, 63, 64, 65, 66, 67, 68, 69, 70, 71, 72, 73, 74, 75, 76, 77, 78, 79, 80, 81, 82, 83, 84, 85, 86, 87, 88, 89]
set_option maxRecDepth 100000 in
theorem fl_0 (E : En) (h0 : Nat) (Q : Nat → Nat → Nat) (m0 : Nat) (q : Nat → Nat) : (wflat E h0 Q m0 q)[0]? = some (al0 h0 Q m0 q 0, cel S0 (al0 h0 Q m0 q) E.2.1 0) := rfl
set_option maxRecDepth 100000 in
theorem fl_1 (E : En) (h0 : Nat) (Q : Nat → Nat → Nat) (m0 : Nat) (q : Nat → Nat) : (wflat E h0 Q m0 q)[1]? = some (al0 h0 Q m0 q 1, cel S0 (al0 h0 Q m0 q) E.2.1 1) := rfl
set_option maxRecDepth 100000 in
theorem fl_2 (E : En) (h0 : Nat) (Q : Nat → Nat → Nat) (m0 : Nat) (q : Nat → Nat) : (wflat E h0 Q m0 q)[2]? = some (al0 h0 Q m0 q 2, cel S0 (al0 h0 Q m0 q) E.2.1 2) := by
  rw [cel_a (t := 3) (n := 16) rfl]
  show some _ = some (_, Sum.inl (_, _, arrC _ _ _ _))
  congr 5
set_option maxRecDepth 100000 in
theorem fl_3 (E : En) (h0 : Nat) (Q : Nat → Nat → Nat) (m0 : Nat) (q : Nat → Nat) : (wflat E h0 Q m0 q)[3]? = some (al0 h0 Q m0 q 3, cel S0 (al0 h0 Q m0 q) E.2.1 3) := by
  rw [cel_o (ci := 6) (ks := [3, 6, 0, 0, 0, 7, 0, 8, 9, 10, 11, 12, 13, 14, 0, 0, 15, 0]) rfl]
  simp only [List.mapIdx_cons, List.mapIdx_nil, fv]
  rfl
set_option maxRecDepth 100000 in
theorem fl_4 (E : En) (h0 : Nat) (Q : Nat → Nat → Nat) (m0 : Nat) (q : Nat → Nat) : (wflat E h0 Q m0 q)[4]? = some (al0 h0 Q m0 q 4, cel S0 (al0 h0 Q m0 q) E.2.1 4) := rfl
set_option maxRecDepth 100000 in
theorem fl_5 (E : En) (h0 : Nat) (Q : Nat → Nat → Nat) (m0 : Nat) (q : Nat → Nat) : (wflat E h0 Q m0 q)[5]? = some (al0 h0 Q m0 q 5, cel S0 (al0 h0 Q m0 q) E.2.1 5) := rfl
set_option maxRecDepth 100000 in
theorem fl_6 (E : En) (h0 : Nat) (Q : Nat → Nat → Nat) (m0 : Nat) (q : Nat → Nat) : (wflat E h0 Q m0 q)[6]? = some (al0 h0 Q m0 q 6, cel S0 (al0 h0 Q m0 q) E.2.1 6) := rfl
set_option maxRecDepth 100000 in
theorem fl_7 (E : En) (h0 : Nat) (Q : Nat → Nat → Nat) (m0 : Nat) (q : Nat → Nat) : (wflat E h0 Q m0 q)[7]? = some (al0 h0 Q m0 q 7, cel S0 (al0 h0 Q m0 q) E.2.1 7) := rfl
set_option maxRecDepth 100000 in
theorem fl_8 (E : En) (h0 : Nat) (Q : Nat → Nat → Nat) (m0 : Nat) (q : Nat → Nat) : (wflat E h0 Q m0 q)[8]? = some (al0 h0 Q m0 q 8, cel S0 (al0 h0 Q m0 q) E.2.1 8) := rfl
set_option maxRecDepth 100000 in
theorem fl_9 (E : En) (h0 : Nat) (Q : Nat → Nat → Nat) (m0 : Nat) (q : Nat → Nat) : (wflat E h0 Q m0 q)[9]? = some (al0 h0 Q m0 q 9, cel S0 (al0 h0 Q m0 q) E.2.1 9) := rfl
set_option maxRecDepth 100000 in
theorem fl_10 (E : En) (h0 : Nat) (Q : Nat → Nat → Nat) (m0 : Nat) (q : Nat → Nat) : (wflat E h0 Q m0 q)[10]? = some (al0 h0 Q m0 q 10, cel S0 (al0 h0 Q m0 q) E.2.1 10) := rfl
set_option maxRecDepth 100000 in
theorem fl_11 (E : En) (h0 : Nat) (Q : Nat → Nat → Nat) (m0 : Nat) (q : Nat → Nat) : (wflat E h0 Q m0 q)[11]? = some (al0 h0 Q m0 q 11, cel S0 (al0 h0 Q m0 q) E.2.1 11) := rfl
set_option maxRecDepth 100000 in
theorem fl_12 (E : En) (h0 : Nat) (Q : Nat → Nat → Nat) (m0 : Nat) (q : Nat → Nat) : (wflat E h0 Q m0 q)[12]? = some (al0 h0 Q m0 q 12, cel S0 (al0 h0 Q m0 q) E.2.1 12) := rfl
set_option maxRecDepth 100000 in
theorem fl_13 (E : En) (h0 : Nat) (Q : Nat → Nat → Nat) (m0 : Nat) (q : Nat → Nat) : (wflat E h0 Q m0 q)[13]? = some (al0 h0 Q m0 q 13, cel S0 (al0 h0 Q m0 q) E.2.1 13) := rfl
set_option maxRecDepth 100000 in
theorem fl_14 (E : En) (h0 : Nat) (Q : Nat → Nat → Nat) (m0 : Nat) (q : Nat → Nat) : (wflat E h0 Q m0 q)[14]? = some (al0 h0 Q m0 q 14, cel S0 (al0 h0 Q m0 q) E.2.1 14) := rfl
set_option maxRecDepth 100000 in
theorem fl_15 (E : En) (h0 : Nat) (Q : Nat → Nat → Nat) (m0 : Nat) (q : Nat → Nat) : (wflat E h0 Q m0 q)[15]? = some (al0 h0 Q m0 q 15, cel S0 (al0 h0 Q m0 q) E.2.1 15) := rfl
set_option maxRecDepth 100000 in
theorem fl_16 (E : En) (h0 : Nat) (Q : Nat → Nat → Nat) (m0 : Nat) (q : Nat → Nat) : (wflat E h0 Q m0 q)[16]? = some (al0 h0 Q m0 q 16, cel S0 (al0 h0 Q m0 q) E.2.1 16) := rfl
set_option maxRecDepth 100000 in
theorem fl_17 (E : En) (h0 : Nat) (Q : Nat → Nat → Nat) (m0 : Nat) (q : Nat → Nat) : (wflat E h0 Q m0 q)[17]? = some (al0 h0 Q m0 q 17, cel S0 (al0 h0 Q m0 q) E.2.1 17) := rfl
set_option maxRecDepth 100000 in
theorem fl_18 (E : En) (h0 : Nat) (Q : Nat → Nat → Nat) (m0 : Nat) (q : Nat → Nat) : (wflat E h0 Q m0 q)[18]? = some (al0 h0 Q m0 q 18, cel S0 (al0 h0 Q m0 q) E.2.1 18) := rfl
set_option maxRecDepth 100000 in
theorem fl_19 (E : En) (h0 : Nat) (Q : Nat → Nat → Nat) (m0 : Nat) (q : Nat → Nat) : (wflat E h0 Q m0 q)[19]? = some (al0 h0 Q m0 q 19, cel S0 (al0 h0 Q m0 q) E.2.1 19) := rfl
set_option maxRecDepth 100000 in
theorem fl_20 (E : En) (h0 : Nat) (Q : Nat → Nat → Nat) (m0 : Nat) (q : Nat → Nat) : (wflat E h0 Q m0 q)[20]? = some (al0 h0 Q m0 q 20, cel S0 (al0 h0 Q m0 q) E.2.1 20) := rfl
set_option maxRecDepth 100000 in
theorem fl_21 (E : En) (h0 : Nat) (Q : Nat → Nat → Nat) (m0 : Nat) (q : Nat → Nat) : (wflat E h0 Q m0 q)[21]? = some (al0 h0 Q m0 q 21, cel S0 (al0 h0 Q m0 q) E.2.1 21) := rfl
theorem rne {i n : Nat} {x : Int32} (h : ¬ i < 10) (hx : x.toNatClampNeg = n) (hn : n < 10) : ¬ i = x.toNatClampNeg := by omega
theorem rows0 {h0 m0 : Nat} {Q : Nat → Nat → Nat} {q : Nat → Nat} (i : Nat) : (va_up (va_up (va_up (va_up (va_up (va_up (va_up (va_up (va_up (va_up (fun _ => none) (Int32.toNatClampNeg (0 : Int32)) (some (Q 4 2))) (Int32.toNatClampNeg (1 : Int32)) (some (Q 4 4))) (Int32.toNatClampNeg (2 : Int32)) (some (Q 4 6))) (Int32.toNatClampNeg (3 : Int32)) (some (Q 4 8))) (Int32.toNatClampNeg (4 : Int32)) (some (Q 4 10))) (Int32.toNatClampNeg (5 : Int32)) (some (Q 4 12))) (Int32.toNatClampNeg (6 : Int32)) (some (Q 4 14))) (Int32.toNatClampNeg (7 : Int32)) (some (Q 4 16))) (Int32.toNatClampNeg (8 : Int32)) (some (Q 4 18))) (Int32.toNatClampNeg (9 : Int32)) (some (Q 4 20))) i = refs (al0 h0 Q m0 q) S0 4 i := by
  unfold refs
  rw [if_neg (by decide), if_pos rfl]
  by_cases h : i < 10
  · rw [if_pos h]
    match i, h with
    | 0, _ => rfl
    | 1, _ => rfl
    | 2, _ => rfl
    | 3, _ => rfl
    | 4, _ => rfl
    | 5, _ => rfl
    | 6, _ => rfl
    | 7, _ => rfl
    | 8, _ => rfl
    | 9, _ => rfl
    | i + 10, h => exact absurd h (by omega)
  · rw [if_neg h]
    simp only [va_up]
    rw [if_neg (rne h (x := (9 : Int32)) (n := 9) (by decide) (by decide))]
    rw [if_neg (rne h (x := (8 : Int32)) (n := 8) (by decide) (by decide))]
    rw [if_neg (rne h (x := (7 : Int32)) (n := 7) (by decide) (by decide))]
    rw [if_neg (rne h (x := (6 : Int32)) (n := 6) (by decide) (by decide))]
    rw [if_neg (rne h (x := (5 : Int32)) (n := 5) (by decide) (by decide))]
    rw [if_neg (rne h (x := (4 : Int32)) (n := 4) (by decide) (by decide))]
    rw [if_neg (rne h (x := (3 : Int32)) (n := 3) (by decide) (by decide))]
    rw [if_neg (rne h (x := (2 : Int32)) (n := 2) (by decide) (by decide))]
    rw [if_neg (rne h (x := (1 : Int32)) (n := 1) (by decide) (by decide))]
    rw [if_neg (rne h (x := (0 : Int32)) (n := 0) (by decide) (by decide))]
set_option maxRecDepth 100000 in
theorem fl_22 (E : En) (h0 : Nat) (Q : Nat → Nat → Nat) (m0 : Nat) (q : Nat → Nat) : (wflat E h0 Q m0 q)[22]? = some (al0 h0 Q m0 q 22, cel S0 (al0 h0 Q m0 q) E.2.1 22) := by
  rw [cel_a (t := 4) (n := 10) rfl]
  have e9 : arrC S0 (al0 h0 Q m0 q) 22 4 = Sum.inr (Sum.inr (Sum.inr (Sum.inr (refs (al0 h0 Q m0 q) S0 4)))) := rfl
  rw [e9, ← funext (rows0 (h0 := h0) (m0 := m0) (Q := Q) (q := q))]
  rfl
set_option maxRecDepth 100000 in
theorem fl_23 (E : En) (h0 : Nat) (Q : Nat → Nat → Nat) (m0 : Nat) (q : Nat → Nat) : (wflat E h0 Q m0 q)[23]? = some (al0 h0 Q m0 q 23, cel S0 (al0 h0 Q m0 q) E.2.1 23) := rfl
set_option maxRecDepth 100000 in
theorem fl_24 (E : En) (h0 : Nat) (Q : Nat → Nat → Nat) (m0 : Nat) (q : Nat → Nat) : (wflat E h0 Q m0 q)[25]? = some (al0 h0 Q m0 q 24, cel S0 (al0 h0 Q m0 q) E.2.1 24) := rfl
set_option maxRecDepth 100000 in
theorem fl_25 (E : En) (h0 : Nat) (Q : Nat → Nat → Nat) (m0 : Nat) (q : Nat → Nat) : (wflat E h0 Q m0 q)[27]? = some (al0 h0 Q m0 q 25, cel S0 (al0 h0 Q m0 q) E.2.1 25) := rfl
set_option maxRecDepth 100000 in
theorem fl_26 (E : En) (h0 : Nat) (Q : Nat → Nat → Nat) (m0 : Nat) (q : Nat → Nat) : (wflat E h0 Q m0 q)[29]? = some (al0 h0 Q m0 q 26, cel S0 (al0 h0 Q m0 q) E.2.1 26) := rfl
set_option maxRecDepth 100000 in
theorem fl_27 (E : En) (h0 : Nat) (Q : Nat → Nat → Nat) (m0 : Nat) (q : Nat → Nat) : (wflat E h0 Q m0 q)[31]? = some (al0 h0 Q m0 q 27, cel S0 (al0 h0 Q m0 q) E.2.1 27) := rfl
set_option maxRecDepth 100000 in
theorem fl_28 (E : En) (h0 : Nat) (Q : Nat → Nat → Nat) (m0 : Nat) (q : Nat → Nat) : (wflat E h0 Q m0 q)[33]? = some (al0 h0 Q m0 q 28, cel S0 (al0 h0 Q m0 q) E.2.1 28) := rfl
set_option maxRecDepth 100000 in
theorem fl_29 (E : En) (h0 : Nat) (Q : Nat → Nat → Nat) (m0 : Nat) (q : Nat → Nat) : (wflat E h0 Q m0 q)[35]? = some (al0 h0 Q m0 q 29, cel S0 (al0 h0 Q m0 q) E.2.1 29) := rfl
set_option maxRecDepth 100000 in
theorem fl_30 (E : En) (h0 : Nat) (Q : Nat → Nat → Nat) (m0 : Nat) (q : Nat → Nat) : (wflat E h0 Q m0 q)[37]? = some (al0 h0 Q m0 q 30, cel S0 (al0 h0 Q m0 q) E.2.1 30) := rfl
set_option maxRecDepth 100000 in
theorem fl_31 (E : En) (h0 : Nat) (Q : Nat → Nat → Nat) (m0 : Nat) (q : Nat → Nat) : (wflat E h0 Q m0 q)[39]? = some (al0 h0 Q m0 q 31, cel S0 (al0 h0 Q m0 q) E.2.1 31) := rfl
set_option maxRecDepth 100000 in
theorem fl_32 (E : En) (h0 : Nat) (Q : Nat → Nat → Nat) (m0 : Nat) (q : Nat → Nat) : (wflat E h0 Q m0 q)[41]? = some (al0 h0 Q m0 q 32, cel S0 (al0 h0 Q m0 q) E.2.1 32) := rfl
set_option maxRecDepth 100000 in
theorem fl_33 (E : En) (h0 : Nat) (Q : Nat → Nat → Nat) (m0 : Nat) (q : Nat → Nat) : (wflat E h0 Q m0 q)[24]? = some (al0 h0 Q m0 q 33, cel S0 (al0 h0 Q m0 q) E.2.1 33) := rfl
set_option maxRecDepth 100000 in
theorem fl_34 (E : En) (h0 : Nat) (Q : Nat → Nat → Nat) (m0 : Nat) (q : Nat → Nat) : (wflat E h0 Q m0 q)[26]? = some (al0 h0 Q m0 q 34, cel S0 (al0 h0 Q m0 q) E.2.1 34) := rfl
set_option maxRecDepth 100000 in
theorem fl_35 (E : En) (h0 : Nat) (Q : Nat → Nat → Nat) (m0 : Nat) (q : Nat → Nat) : (wflat E h0 Q m0 q)[28]? = some (al0 h0 Q m0 q 35, cel S0 (al0 h0 Q m0 q) E.2.1 35) := rfl
set_option maxRecDepth 100000 in
theorem fl_36 (E : En) (h0 : Nat) (Q : Nat → Nat → Nat) (m0 : Nat) (q : Nat → Nat) : (wflat E h0 Q m0 q)[30]? = some (al0 h0 Q m0 q 36, cel S0 (al0 h0 Q m0 q) E.2.1 36) := rfl
set_option maxRecDepth 100000 in
theorem fl_37 (E : En) (h0 : Nat) (Q : Nat → Nat → Nat) (m0 : Nat) (q : Nat → Nat) : (wflat E h0 Q m0 q)[32]? = some (al0 h0 Q m0 q 37, cel S0 (al0 h0 Q m0 q) E.2.1 37) := rfl
set_option maxRecDepth 100000 in
theorem fl_38 (E : En) (h0 : Nat) (Q : Nat → Nat → Nat) (m0 : Nat) (q : Nat → Nat) : (wflat E h0 Q m0 q)[34]? = some (al0 h0 Q m0 q 38, cel S0 (al0 h0 Q m0 q) E.2.1 38) := rfl
set_option maxRecDepth 100000 in
theorem fl_39 (E : En) (h0 : Nat) (Q : Nat → Nat → Nat) (m0 : Nat) (q : Nat → Nat) : (wflat E h0 Q m0 q)[36]? = some (al0 h0 Q m0 q 39, cel S0 (al0 h0 Q m0 q) E.2.1 39) := rfl
set_option maxRecDepth 100000 in
theorem fl_40 (E : En) (h0 : Nat) (Q : Nat → Nat → Nat) (m0 : Nat) (q : Nat → Nat) : (wflat E h0 Q m0 q)[38]? = some (al0 h0 Q m0 q 40, cel S0 (al0 h0 Q m0 q) E.2.1 40) := rfl
set_option maxRecDepth 100000 in
theorem fl_41 (E : En) (h0 : Nat) (Q : Nat → Nat → Nat) (m0 : Nat) (q : Nat → Nat) : (wflat E h0 Q m0 q)[40]? = some (al0 h0 Q m0 q 41, cel S0 (al0 h0 Q m0 q) E.2.1 41) := rfl
set_option maxRecDepth 100000 in
theorem fl_42 (E : En) (h0 : Nat) (Q : Nat → Nat → Nat) (m0 : Nat) (q : Nat → Nat) : (wflat E h0 Q m0 q)[42]? = some (al0 h0 Q m0 q 42, cel S0 (al0 h0 Q m0 q) E.2.1 42) := rfl
set_option maxRecDepth 100000 in
theorem fl_43 (E : En) (h0 : Nat) (Q : Nat → Nat → Nat) (m0 : Nat) (q : Nat → Nat) : (wflat E h0 Q m0 q)[43]? = some (al0 h0 Q m0 q 43, cel S0 (al0 h0 Q m0 q) E.2.1 43) := rfl
set_option maxRecDepth 100000 in
theorem fl_44 (E : En) (h0 : Nat) (Q : Nat → Nat → Nat) (m0 : Nat) (q : Nat → Nat) : (wflat E h0 Q m0 q)[44]? = some (al0 h0 Q m0 q 44, cel S0 (al0 h0 Q m0 q) E.2.1 44) := rfl
set_option maxRecDepth 100000 in
theorem fl_45 (E : En) (h0 : Nat) (Q : Nat → Nat → Nat) (m0 : Nat) (q : Nat → Nat) : (wflat E h0 Q m0 q)[45]? = some (al0 h0 Q m0 q 45, cel S0 (al0 h0 Q m0 q) E.2.1 45) := rfl
set_option maxRecDepth 100000 in
theorem fl_46 (E : En) (h0 : Nat) (Q : Nat → Nat → Nat) (m0 : Nat) (q : Nat → Nat) : (wflat E h0 Q m0 q)[46]? = some (al0 h0 Q m0 q 46, cel S0 (al0 h0 Q m0 q) E.2.1 46) := rfl
set_option maxRecDepth 100000 in
theorem fl_47 (E : En) (h0 : Nat) (Q : Nat → Nat → Nat) (m0 : Nat) (q : Nat → Nat) : (wflat E h0 Q m0 q)[47]? = some (al0 h0 Q m0 q 47, cel S0 (al0 h0 Q m0 q) E.2.1 47) := rfl
set_option maxRecDepth 100000 in
theorem fl_48 (E : En) (h0 : Nat) (Q : Nat → Nat → Nat) (m0 : Nat) (q : Nat → Nat) : (wflat E h0 Q m0 q)[48]? = some (al0 h0 Q m0 q 48, cel S0 (al0 h0 Q m0 q) E.2.1 48) := by
  rw [cel_a (t := 5) (n := 24) rfl]
  show some _ = some (_, Sum.inl (_, _, arrC _ _ _ _))
  congr 5
set_option maxRecDepth 100000 in
theorem fl_49 (E : En) (h0 : Nat) (Q : Nat → Nat → Nat) (m0 : Nat) (q : Nat → Nat) : (wflat E h0 Q m0 q)[49]? = some (al0 h0 Q m0 q 49, cel S0 (al0 h0 Q m0 q) E.2.1 49) := rfl
set_option maxRecDepth 100000 in
theorem fl_50 (E : En) (h0 : Nat) (Q : Nat → Nat → Nat) (m0 : Nat) (q : Nat → Nat) : (wflat E h0 Q m0 q)[50]? = some (al0 h0 Q m0 q 50, cel S0 (al0 h0 Q m0 q) E.2.1 50) := rfl
set_option maxRecDepth 100000 in
theorem fl_51 (E : En) (h0 : Nat) (Q : Nat → Nat → Nat) (m0 : Nat) (q : Nat → Nat) : (wflat E h0 Q m0 q)[51]? = some (al0 h0 Q m0 q 51, cel S0 (al0 h0 Q m0 q) E.2.1 51) := rfl
set_option maxRecDepth 100000 in
theorem fl_52 (E : En) (h0 : Nat) (Q : Nat → Nat → Nat) (m0 : Nat) (q : Nat → Nat) : (wflat E h0 Q m0 q)[52]? = some (al0 h0 Q m0 q 52, cel S0 (al0 h0 Q m0 q) E.2.1 52) := rfl
set_option maxRecDepth 100000 in
theorem fl_53 (E : En) (h0 : Nat) (Q : Nat → Nat → Nat) (m0 : Nat) (q : Nat → Nat) : (wflat E h0 Q m0 q)[53]? = some (al0 h0 Q m0 q 53, cel S0 (al0 h0 Q m0 q) E.2.1 53) := rfl
set_option maxRecDepth 100000 in
theorem fl_54 (E : En) (h0 : Nat) (Q : Nat → Nat → Nat) (m0 : Nat) (q : Nat → Nat) : (wflat E h0 Q m0 q)[54]? = some (al0 h0 Q m0 q 54, cel S0 (al0 h0 Q m0 q) E.2.1 54) := by
  rw [cel_o (ci := 11) (ks := [0, 57, 58, 59, 60, 61, 62, 0, 63, 64, 65, 66, 0, 67, 0, 0, 1, 0, 0, 0, 0, 68, 69, 70, 71, 72, 0, 73, 74, 75, 76, 0, 0, 77, 78, 79, 80, 81, 82, 83, 84, 85, 86, 87, 88, 89, 90, 91]) rfl]
  simp only [List.mapIdx_cons, List.mapIdx_nil, fv]
  rfl
set_option maxRecDepth 100000 in
theorem fl_55 (E : En) (h0 : Nat) (Q : Nat → Nat → Nat) (m0 : Nat) (q : Nat → Nat) : (wflat E h0 Q m0 q)[55]? = some (al0 h0 Q m0 q 55, cel S0 (al0 h0 Q m0 q) E.2.1 55) := rfl
set_option maxRecDepth 100000 in
theorem fl_56 (E : En) (h0 : Nat) (Q : Nat → Nat → Nat) (m0 : Nat) (q : Nat → Nat) : (wflat E h0 Q m0 q)[56]? = some (al0 h0 Q m0 q 56, cel S0 (al0 h0 Q m0 q) E.2.1 56) := rfl
set_option maxRecDepth 100000 in
theorem fl_57 (E : En) (h0 : Nat) (Q : Nat → Nat → Nat) (m0 : Nat) (q : Nat → Nat) : (wflat E h0 Q m0 q)[57]? = some (al0 h0 Q m0 q 57, cel S0 (al0 h0 Q m0 q) E.2.1 57) := rfl
set_option maxRecDepth 100000 in
theorem fl_58 (E : En) (h0 : Nat) (Q : Nat → Nat → Nat) (m0 : Nat) (q : Nat → Nat) : (wflat E h0 Q m0 q)[58]? = some (al0 h0 Q m0 q 58, cel S0 (al0 h0 Q m0 q) E.2.1 58) := rfl
set_option maxRecDepth 100000 in
theorem fl_59 (E : En) (h0 : Nat) (Q : Nat → Nat → Nat) (m0 : Nat) (q : Nat → Nat) : (wflat E h0 Q m0 q)[59]? = some (al0 h0 Q m0 q 59, cel S0 (al0 h0 Q m0 q) E.2.1 59) := rfl
set_option maxRecDepth 100000 in
theorem fl_60 (E : En) (h0 : Nat) (Q : Nat → Nat → Nat) (m0 : Nat) (q : Nat → Nat) : (wflat E h0 Q m0 q)[60]? = some (al0 h0 Q m0 q 60, cel S0 (al0 h0 Q m0 q) E.2.1 60) := rfl
set_option maxRecDepth 100000 in
theorem fl_61 (E : En) (h0 : Nat) (Q : Nat → Nat → Nat) (m0 : Nat) (q : Nat → Nat) : (wflat E h0 Q m0 q)[61]? = some (al0 h0 Q m0 q 61, cel S0 (al0 h0 Q m0 q) E.2.1 61) := rfl
set_option maxRecDepth 100000 in
theorem fl_62 (E : En) (h0 : Nat) (Q : Nat → Nat → Nat) (m0 : Nat) (q : Nat → Nat) : (wflat E h0 Q m0 q)[62]? = some (al0 h0 Q m0 q 62, cel S0 (al0 h0 Q m0 q) E.2.1 62) := rfl
set_option maxRecDepth 100000 in
theorem fl_63 (E : En) (h0 : Nat) (Q : Nat → Nat → Nat) (m0 : Nat) (q : Nat → Nat) : (wflat E h0 Q m0 q)[63]? = some (al0 h0 Q m0 q 63, cel S0 (al0 h0 Q m0 q) E.2.1 63) := rfl
set_option maxRecDepth 100000 in
theorem fl_64 (E : En) (h0 : Nat) (Q : Nat → Nat → Nat) (m0 : Nat) (q : Nat → Nat) : (wflat E h0 Q m0 q)[64]? = some (al0 h0 Q m0 q 64, cel S0 (al0 h0 Q m0 q) E.2.1 64) := rfl
set_option maxRecDepth 100000 in
theorem fl_65 (E : En) (h0 : Nat) (Q : Nat → Nat → Nat) (m0 : Nat) (q : Nat → Nat) : (wflat E h0 Q m0 q)[65]? = some (al0 h0 Q m0 q 65, cel S0 (al0 h0 Q m0 q) E.2.1 65) := rfl
set_option maxRecDepth 100000 in
theorem fl_66 (E : En) (h0 : Nat) (Q : Nat → Nat → Nat) (m0 : Nat) (q : Nat → Nat) : (wflat E h0 Q m0 q)[66]? = some (al0 h0 Q m0 q 66, cel S0 (al0 h0 Q m0 q) E.2.1 66) := rfl
set_option maxRecDepth 100000 in
theorem fl_67 (E : En) (h0 : Nat) (Q : Nat → Nat → Nat) (m0 : Nat) (q : Nat → Nat) : (wflat E h0 Q m0 q)[67]? = some (al0 h0 Q m0 q 67, cel S0 (al0 h0 Q m0 q) E.2.1 67) := rfl
set_option maxRecDepth 100000 in
theorem fl_68 (E : En) (h0 : Nat) (Q : Nat → Nat → Nat) (m0 : Nat) (q : Nat → Nat) : (wflat E h0 Q m0 q)[68]? = some (al0 h0 Q m0 q 68, cel S0 (al0 h0 Q m0 q) E.2.1 68) := rfl
set_option maxRecDepth 100000 in
theorem fl_69 (E : En) (h0 : Nat) (Q : Nat → Nat → Nat) (m0 : Nat) (q : Nat → Nat) : (wflat E h0 Q m0 q)[69]? = some (al0 h0 Q m0 q 69, cel S0 (al0 h0 Q m0 q) E.2.1 69) := rfl
set_option maxRecDepth 100000 in
theorem fl_70 (E : En) (h0 : Nat) (Q : Nat → Nat → Nat) (m0 : Nat) (q : Nat → Nat) : (wflat E h0 Q m0 q)[70]? = some (al0 h0 Q m0 q 70, cel S0 (al0 h0 Q m0 q) E.2.1 70) := rfl
set_option maxRecDepth 100000 in
theorem fl_71 (E : En) (h0 : Nat) (Q : Nat → Nat → Nat) (m0 : Nat) (q : Nat → Nat) : (wflat E h0 Q m0 q)[71]? = some (al0 h0 Q m0 q 71, cel S0 (al0 h0 Q m0 q) E.2.1 71) := rfl
set_option maxRecDepth 100000 in
theorem fl_72 (E : En) (h0 : Nat) (Q : Nat → Nat → Nat) (m0 : Nat) (q : Nat → Nat) : (wflat E h0 Q m0 q)[72]? = some (al0 h0 Q m0 q 72, cel S0 (al0 h0 Q m0 q) E.2.1 72) := rfl
set_option maxRecDepth 100000 in
theorem fl_73 (E : En) (h0 : Nat) (Q : Nat → Nat → Nat) (m0 : Nat) (q : Nat → Nat) : (wflat E h0 Q m0 q)[73]? = some (al0 h0 Q m0 q 73, cel S0 (al0 h0 Q m0 q) E.2.1 73) := rfl
set_option maxRecDepth 100000 in
theorem fl_74 (E : En) (h0 : Nat) (Q : Nat → Nat → Nat) (m0 : Nat) (q : Nat → Nat) : (wflat E h0 Q m0 q)[74]? = some (al0 h0 Q m0 q 74, cel S0 (al0 h0 Q m0 q) E.2.1 74) := rfl
set_option maxRecDepth 100000 in
theorem fl_75 (E : En) (h0 : Nat) (Q : Nat → Nat → Nat) (m0 : Nat) (q : Nat → Nat) : (wflat E h0 Q m0 q)[75]? = some (al0 h0 Q m0 q 75, cel S0 (al0 h0 Q m0 q) E.2.1 75) := rfl
set_option maxRecDepth 100000 in
theorem fl_76 (E : En) (h0 : Nat) (Q : Nat → Nat → Nat) (m0 : Nat) (q : Nat → Nat) : (wflat E h0 Q m0 q)[76]? = some (al0 h0 Q m0 q 76, cel S0 (al0 h0 Q m0 q) E.2.1 76) := rfl
set_option maxRecDepth 100000 in
theorem fl_77 (E : En) (h0 : Nat) (Q : Nat → Nat → Nat) (m0 : Nat) (q : Nat → Nat) : (wflat E h0 Q m0 q)[77]? = some (al0 h0 Q m0 q 77, cel S0 (al0 h0 Q m0 q) E.2.1 77) := rfl
set_option maxRecDepth 100000 in
theorem fl_78 (E : En) (h0 : Nat) (Q : Nat → Nat → Nat) (m0 : Nat) (q : Nat → Nat) : (wflat E h0 Q m0 q)[78]? = some (al0 h0 Q m0 q 78, cel S0 (al0 h0 Q m0 q) E.2.1 78) := rfl
set_option maxRecDepth 100000 in
theorem fl_79 (E : En) (h0 : Nat) (Q : Nat → Nat → Nat) (m0 : Nat) (q : Nat → Nat) : (wflat E h0 Q m0 q)[79]? = some (al0 h0 Q m0 q 79, cel S0 (al0 h0 Q m0 q) E.2.1 79) := rfl
set_option maxRecDepth 100000 in
theorem fl_80 (E : En) (h0 : Nat) (Q : Nat → Nat → Nat) (m0 : Nat) (q : Nat → Nat) : (wflat E h0 Q m0 q)[80]? = some (al0 h0 Q m0 q 80, cel S0 (al0 h0 Q m0 q) E.2.1 80) := rfl
set_option maxRecDepth 100000 in
theorem fl_81 (E : En) (h0 : Nat) (Q : Nat → Nat → Nat) (m0 : Nat) (q : Nat → Nat) : (wflat E h0 Q m0 q)[81]? = some (al0 h0 Q m0 q 81, cel S0 (al0 h0 Q m0 q) E.2.1 81) := rfl
set_option maxRecDepth 100000 in
theorem fl_82 (E : En) (h0 : Nat) (Q : Nat → Nat → Nat) (m0 : Nat) (q : Nat → Nat) : (wflat E h0 Q m0 q)[82]? = some (al0 h0 Q m0 q 82, cel S0 (al0 h0 Q m0 q) E.2.1 82) := rfl
set_option maxRecDepth 100000 in
theorem fl_83 (E : En) (h0 : Nat) (Q : Nat → Nat → Nat) (m0 : Nat) (q : Nat → Nat) : (wflat E h0 Q m0 q)[83]? = some (al0 h0 Q m0 q 83, cel S0 (al0 h0 Q m0 q) E.2.1 83) := rfl
set_option maxRecDepth 100000 in
theorem fl_84 (E : En) (h0 : Nat) (Q : Nat → Nat → Nat) (m0 : Nat) (q : Nat → Nat) : (wflat E h0 Q m0 q)[84]? = some (al0 h0 Q m0 q 84, cel S0 (al0 h0 Q m0 q) E.2.1 84) := rfl
set_option maxRecDepth 100000 in
theorem fl_85 (E : En) (h0 : Nat) (Q : Nat → Nat → Nat) (m0 : Nat) (q : Nat → Nat) : (wflat E h0 Q m0 q)[85]? = some (al0 h0 Q m0 q 85, cel S0 (al0 h0 Q m0 q) E.2.1 85) := rfl
set_option maxRecDepth 100000 in
theorem fl_86 (E : En) (h0 : Nat) (Q : Nat → Nat → Nat) (m0 : Nat) (q : Nat → Nat) : (wflat E h0 Q m0 q)[86]? = some (al0 h0 Q m0 q 86, cel S0 (al0 h0 Q m0 q) E.2.1 86) := rfl
set_option maxRecDepth 100000 in
theorem fl_87 (E : En) (h0 : Nat) (Q : Nat → Nat → Nat) (m0 : Nat) (q : Nat → Nat) : (wflat E h0 Q m0 q)[87]? = some (al0 h0 Q m0 q 87, cel S0 (al0 h0 Q m0 q) E.2.1 87) := rfl
set_option maxRecDepth 100000 in
theorem fl_88 (E : En) (h0 : Nat) (Q : Nat → Nat → Nat) (m0 : Nat) (q : Nat → Nat) : (wflat E h0 Q m0 q)[88]? = some (al0 h0 Q m0 q 88, cel S0 (al0 h0 Q m0 q) E.2.1 88) := rfl
set_option maxRecDepth 100000 in
theorem fl_89 (E : En) (h0 : Nat) (Q : Nat → Nat → Nat) (m0 : Nat) (q : Nat → Nat) : (wflat E h0 Q m0 q)[89]? = some (al0 h0 Q m0 q 89, cel S0 (al0 h0 Q m0 q) E.2.1 89) := rfl
theorem fl0 (E : En) (h0 : Nat) (Q : Nat → Nat → Nat) (m0 : Nat) (q : Nat → Nat) : ∀ k, k < 90 → (wflat E h0 Q m0 q)[pos0.getD k 0]? = some (al0 h0 Q m0 q k, cel S0 (al0 h0 Q m0 q) E.2.1 k) := by
  intro k hk
  match k, hk with
  | 0, _ => exact fl_0 E h0 Q m0 q
  | 1, _ => exact fl_1 E h0 Q m0 q
  | 2, _ => exact fl_2 E h0 Q m0 q
  | 3, _ => exact fl_3 E h0 Q m0 q
  | 4, _ => exact fl_4 E h0 Q m0 q
  | 5, _ => exact fl_5 E h0 Q m0 q
  | 6, _ => exact fl_6 E h0 Q m0 q
  | 7, _ => exact fl_7 E h0 Q m0 q
  | 8, _ => exact fl_8 E h0 Q m0 q
  | 9, _ => exact fl_9 E h0 Q m0 q
  | 10, _ => exact fl_10 E h0 Q m0 q
  | 11, _ => exact fl_11 E h0 Q m0 q
  | 12, _ => exact fl_12 E h0 Q m0 q
  | 13, _ => exact fl_13 E h0 Q m0 q
  | 14, _ => exact fl_14 E h0 Q m0 q
  | 15, _ => exact fl_15 E h0 Q m0 q
  | 16, _ => exact fl_16 E h0 Q m0 q
  | 17, _ => exact fl_17 E h0 Q m0 q
  | 18, _ => exact fl_18 E h0 Q m0 q
  | 19, _ => exact fl_19 E h0 Q m0 q
  | 20, _ => exact fl_20 E h0 Q m0 q
  | 21, _ => exact fl_21 E h0 Q m0 q
  | 22, _ => exact fl_22 E h0 Q m0 q
  | 23, _ => exact fl_23 E h0 Q m0 q
  | 24, _ => exact fl_24 E h0 Q m0 q
  | 25, _ => exact fl_25 E h0 Q m0 q
  | 26, _ => exact fl_26 E h0 Q m0 q
  | 27, _ => exact fl_27 E h0 Q m0 q
  | 28, _ => exact fl_28 E h0 Q m0 q
  | 29, _ => exact fl_29 E h0 Q m0 q
  | 30, _ => exact fl_30 E h0 Q m0 q
  | 31, _ => exact fl_31 E h0 Q m0 q
  | 32, _ => exact fl_32 E h0 Q m0 q
  | 33, _ => exact fl_33 E h0 Q m0 q
  | 34, _ => exact fl_34 E h0 Q m0 q
  | 35, _ => exact fl_35 E h0 Q m0 q
  | 36, _ => exact fl_36 E h0 Q m0 q
  | 37, _ => exact fl_37 E h0 Q m0 q
  | 38, _ => exact fl_38 E h0 Q m0 q
  | 39, _ => exact fl_39 E h0 Q m0 q
  | 40, _ => exact fl_40 E h0 Q m0 q
  | 41, _ => exact fl_41 E h0 Q m0 q
  | 42, _ => exact fl_42 E h0 Q m0 q
  | 43, _ => exact fl_43 E h0 Q m0 q
  | 44, _ => exact fl_44 E h0 Q m0 q
  | 45, _ => exact fl_45 E h0 Q m0 q
  | 46, _ => exact fl_46 E h0 Q m0 q
  | 47, _ => exact fl_47 E h0 Q m0 q
  | 48, _ => exact fl_48 E h0 Q m0 q
  | 49, _ => exact fl_49 E h0 Q m0 q
  | 50, _ => exact fl_50 E h0 Q m0 q
  | 51, _ => exact fl_51 E h0 Q m0 q
  | 52, _ => exact fl_52 E h0 Q m0 q
  | 53, _ => exact fl_53 E h0 Q m0 q
  | 54, _ => exact fl_54 E h0 Q m0 q
  | 55, _ => exact fl_55 E h0 Q m0 q
  | 56, _ => exact fl_56 E h0 Q m0 q
  | 57, _ => exact fl_57 E h0 Q m0 q
  | 58, _ => exact fl_58 E h0 Q m0 q
  | 59, _ => exact fl_59 E h0 Q m0 q
  | 60, _ => exact fl_60 E h0 Q m0 q
  | 61, _ => exact fl_61 E h0 Q m0 q
  | 62, _ => exact fl_62 E h0 Q m0 q
  | 63, _ => exact fl_63 E h0 Q m0 q
  | 64, _ => exact fl_64 E h0 Q m0 q
  | 65, _ => exact fl_65 E h0 Q m0 q
  | 66, _ => exact fl_66 E h0 Q m0 q
  | 67, _ => exact fl_67 E h0 Q m0 q
  | 68, _ => exact fl_68 E h0 Q m0 q
  | 69, _ => exact fl_69 E h0 Q m0 q
  | 70, _ => exact fl_70 E h0 Q m0 q
  | 71, _ => exact fl_71 E h0 Q m0 q
  | 72, _ => exact fl_72 E h0 Q m0 q
  | 73, _ => exact fl_73 E h0 Q m0 q
  | 74, _ => exact fl_74 E h0 Q m0 q
  | 75, _ => exact fl_75 E h0 Q m0 q
  | 76, _ => exact fl_76 E h0 Q m0 q
  | 77, _ => exact fl_77 E h0 Q m0 q
  | 78, _ => exact fl_78 E h0 Q m0 q
  | 79, _ => exact fl_79 E h0 Q m0 q
  | 80, _ => exact fl_80 E h0 Q m0 q
  | 81, _ => exact fl_81 E h0 Q m0 q
  | 82, _ => exact fl_82 E h0 Q m0 q
  | 83, _ => exact fl_83 E h0 Q m0 q
  | 84, _ => exact fl_84 E h0 Q m0 q
  | 85, _ => exact fl_85 E h0 Q m0 q
  | 86, _ => exact fl_86 E h0 Q m0 q
  | 87, _ => exact fl_87 E h0 Q m0 q
  | 88, _ => exact fl_88 E h0 Q m0 q
  | 89, _ => exact fl_89 E h0 Q m0 q
  | k + 90, h => exact absurd h (by omega)
theorem pos0_inj : ∀ i, i < 90 → ∀ j, j < 90 → pos0.getD i 0 = pos0.getD j 0 → i = j := by decide +kernel
theorem Rp0 {E : En} {H : Heap} {h0 : Nat} {Q : Nat → Nat → Nat} {m0 : Nat} {q : Nat → Nat} (hP : va_P E.1 vwCl (wflat E h0 Q m0 q) H) (hD : va_D E.2.2.1 (wflat E h0 Q m0 q)) : Rp E (al0 h0 Q m0 q) (nP S0, nC S0) S0 H := by
  have hl : ∀ k, live (nP S0, nC S0) k → k < 90 := by
    intro k hk
    have e1 : nP S0 = 0 := by decide
    have e2 : nC S0 = 0 := by decide
    rcases hk with h | h | h
    · exact h
    · rw [e1] at h; omega
    · rw [e2] at h; omega
  refine ⟨⟨by decide, by decide, Nat.le_refl _, Nat.le_refl _⟩, fun k hk => ?_, fun i j hi hj hij => ?_⟩
  · have h9 := fl0 E h0 Q m0 q k (hl k hk)
    exact ⟨hP _ _ h9, hD.2 _ _ h9⟩
  · have h1 := fl0 E h0 Q m0 q i (hl i hi)
    have h2 := fl0 E h0 Q m0 q j (hl j hj)
    exact pos0_inj i (hl i hi) j (hl j hj) (hD.1 _ _ _ _ h1 h2 hij)
theorem cA_of {args : Array Value} {s : State} {ty : FieldType} (hty : ∀ C, ty ≠ .object C) (h : (Cond.arrayClass ty).before args s = true) : ∃ cA, ArrOfT s cA ty ∧ va_RA s cA ty := by
  obtain ⟨c, k, comp, h1, h2, h3⟩ := Cond.arrayClass_spec h
  refine ⟨c, fun n z => ⟨fun k h => (by cases h), k, h2, comp, h3⟩, ?_⟩
  cases ty <;> first | exact h1 | exact absurd rfl (hty _)
theorem cO_of {args : Array Value} {s : State} {n : String} (h : (Cond.arrayOver (.object n)).before args s = true) : ∃ cA, ArrOfT s cA (.object n) ∧ va_RA s cA (.object n) := by
  obtain ⟨comp, c, k, h1, -, h3, h4, h5⟩ := Cond.arrayOver_spec h
  exact ⟨c, fun n z => ⟨fun k h => (by cases h), k, h3, comp, h4⟩, k, comp, h3, h4, h1, h5⟩
def tmJ (i : Nat) : Term := .string RX9 (strI.getD i (0, "")).1
set_option maxHeartbeats 8000000 in
set_option maxRecDepth 100000 in
theorem entry_E {s : State} {b : Nat} (htb : ∀ w ∈ lw_tbl, w.before #[Value.ref b] s = true) (hgv : (Jvm.Cond.and given_1 narrow_1).before #[Value.ref b] s = true) : ∃ E : En, (E.2.2.1 = fun q : Nat => s.heap.size ≤ q) ∧ Ks E s ∧ Kc E s := by
  have hts : ∀ w ∈ wsL_law, w.before #[Value.ref b] s = true := fun w hw => htb w (wsL_law_in w hw)
  have hs := flat_of_before _ hgv
  have hA' : ∀ a : Nat, a < s.heap.size → ¬ (fun q : Nat => s.heap.size ≤ q) a := fun a h => Nat.not_le.mpr h
  obtain ⟨c0, i0, hk0⟩ := u_known (C := RX0) (T := TX0) (N := 13) (n := 13) hts inl0 (hts _ q724)
  obtain ⟨c1, i1, hk1⟩ := u_known (C := RX1) (T := TX1) (N := 6) (n := 6) hts inl1 (hts _ q181)
  obtain ⟨c2, i2, hk2⟩ := u_known (C := RX2) (T := TX2) (N := 1) (n := 1) hts inl2 (hts _ q338)
  obtain ⟨c3, i3, hk3⟩ := u_known (C := RX3) (T := TX3) (N := 6) (n := 6) hts inl3 (hts _ q381)
  obtain ⟨c4, i4, hk4⟩ := u_known (C := RX4) (T := TX4) (N := 4) (n := 4) hts inl4 (hts _ q318)
  obtain ⟨c5, i5, hk5⟩ := u_known (C := RX5) (T := TX5) (N := 4) (n := 4) hts inl5 (hts _ q225)
  obtain ⟨c6, i6, hk6⟩ := u_known (C := RX6) (T := TX6) (N := 18) (n := 18) hts inl6 (hts _ q115)
  obtain ⟨c7, i7, hk7⟩ := u_known (C := RX7) (T := TX7) (N := 9) (n := 9) hts inl7 (hts _ q276)
  obtain ⟨c8, i8, hk8⟩ := u_known (C := RX8) (T := TX8) (N := 2) (n := 2) hts inl8 (hts _ q96)
  obtain ⟨c9, i9, hk9⟩ := u_known (C := RX9) (T := TX9) (N := 7) (n := 7) hts inl9 (hts _ q218)
  obtain ⟨c10, i10, hk10⟩ := u_known (C := RX10) (T := TX10) (N := 7) (n := 7) hts inl10 (hts _ q88)
  obtain ⟨c11, i11, hk11⟩ := u_known (C := RX11) (T := TX11) (N := 48) (n := 48) hts inl11 (hts _ q938)
  obtain ⟨y0, a0, b0⟩ := cA_of (ty := .int) (by intro C h; cases h) (hts _ q179)
  obtain ⟨y1, a1, b1⟩ := cA_of (ty := .long) (by intro C h; cases h) (hts _ q336)
  obtain ⟨y2, a2, b2⟩ := cA_of (ty := .boolean) (by intro C h; cases h) (hts _ q1088)
  obtain ⟨y3, a3, b3⟩ := cO_of (n := RX3) (htb _ (List.mem_of_getElem? (i := 102) (by decide +kernel)))
  obtain ⟨y4, a4, b4⟩ := cO_of (n := RX5) (htb _ (List.mem_of_getElem? (i := 224) (by decide +kernel)))
  obtain ⟨y5, a5, b5⟩ := cO_of (n := RX0) (htb _ (List.mem_of_getElem? (i := 282) (by decide +kernel)))
  have hv1 : ∀ i : Nat, i < 6 → (Cond.exactly (tmJ i) "java/lang/String").before #[Value.ref b] s = true := by
    intro i hi
    match i, hi with
    | 0, _ => exact hs _ (by decide +kernel)
    | 1, _ => exact hs _ (by decide +kernel)
    | 2, _ => exact hs _ (by decide +kernel)
    | 3, _ => exact hs _ (by decide +kernel)
    | 4, _ => exact hs _ (by decide +kernel)
    | 5, _ => exact hs _ (by decide +kernel)
    | i + 6, h => exact absurd h (by omega)
  have hv2 : ∀ i : Nat, i < 6 → (Cond.eq (.field (tmJ i) "java/lang/String" "coder" "B") (.int 0)).before #[Value.ref b] s = true := by
    intro i hi
    match i, hi with
    | 0, _ => exact hs _ (by decide +kernel)
    | 1, _ => exact hs _ (by decide +kernel)
    | 2, _ => exact hs _ (by decide +kernel)
    | 3, _ => exact hs _ (by decide +kernel)
    | 4, _ => exact hs _ (by decide +kernel)
    | 5, _ => exact hs _ (by decide +kernel)
    | i + 6, h => exact absurd h (by omega)
  have hv3 : ∀ i : Nat, i < 6 → (Cond.arrayOf (.field (tmJ i) "java/lang/String" "value" "[B") .byte).before #[Value.ref b] s = true := by
    intro i hi
    match i, hi with
    | 0, _ => exact hs _ (by decide +kernel)
    | 1, _ => exact hs _ (by decide +kernel)
    | 2, _ => exact hs _ (by decide +kernel)
    | 3, _ => exact hs _ (by decide +kernel)
    | 4, _ => exact hs _ (by decide +kernel)
    | 5, _ => exact hs _ (by decide +kernel)
    | i + 6, h => exact absurd h (by omega)
  have hv4 : ∀ i : Nat, i < 6 → (Cond.eq (.length (.field (tmJ i) "java/lang/String" "value" "[B")) (.int (Int32.ofNat (lenJS.getD i 0)))).before #[Value.ref b] s = true := by
    intro i hi
    match i, hi with
    | 0, _ => exact hs _ (by decide +kernel)
    | 1, _ => exact hs _ (by decide +kernel)
    | 2, _ => exact hs _ (by decide +kernel)
    | 3, _ => exact hs _ (by decide +kernel)
    | 4, _ => exact hs _ (by decide +kernel)
    | 5, _ => exact hs _ (by decide +kernel)
    | i + 6, h => exact absurd h (by omega)
  have hv5 : ∀ i : Nat, i < 6 → ∀ j : Nat, j < lenJS.getD i 0 → (Cond.eq (.elem (.field (tmJ i) "java/lang/String" "value" "[B") (.int (Int32.ofNat j))) (.int ((bytJS.getD i []).getD j 0))).before #[Value.ref b] s = true := by
    intro i hi
    match i, hi with
    | 0, _ =>
      intro j hj
      match j, hj with
      | 0, _ => exact hs _ (by decide +kernel)
      | 1, _ => exact hs _ (by decide +kernel)
      | 2, _ => exact hs _ (by decide +kernel)
      | 3, _ => exact hs _ (by decide +kernel)
      | j + 4, h => exact absurd (show j + 4 < 4 from h) (by omega)
    | 1, _ =>
      intro j hj
      match j, hj with
      | 0, _ => exact hs _ (by decide +kernel)
      | 1, _ => exact hs _ (by decide +kernel)
      | j + 2, h => exact absurd (show j + 2 < 2 from h) (by omega)
    | 2, _ =>
      intro j hj
      match j, hj with
      | 0, _ => exact hs _ (by decide +kernel)
      | 1, _ => exact hs _ (by decide +kernel)
      | 2, _ => exact hs _ (by decide +kernel)
      | 3, _ => exact hs _ (by decide +kernel)
      | j + 4, h => exact absurd (show j + 4 < 4 from h) (by omega)
    | 3, _ =>
      intro j hj
      match j, hj with
      | 0, _ => exact hs _ (by decide +kernel)
      | 1, _ => exact hs _ (by decide +kernel)
      | 2, _ => exact hs _ (by decide +kernel)
      | j + 3, h => exact absurd (show j + 3 < 3 from h) (by omega)
    | 4, _ =>
      intro j hj
      match j, hj with
      | 0, _ => exact hs _ (by decide +kernel)
      | 1, _ => exact hs _ (by decide +kernel)
      | 2, _ => exact hs _ (by decide +kernel)
      | 3, _ => exact hs _ (by decide +kernel)
      | j + 4, h => exact absurd (show j + 4 < 4 from h) (by omega)
    | 5, _ =>
      intro j hj
      match j, hj with
      | 0, _ => exact hs _ (by decide +kernel)
      | 1, _ => exact hs _ (by decide +kernel)
      | 2, _ => exact hs _ (by decide +kernel)
      | j + 3, h => exact absurd (show j + 3 < 3 from h) (by omega)
    | i + 6, h => exact absurd h (by omega)
  have hv6 : ∀ i j : Nat, i < 6 → j < 6 → i ≠ j → (Cond.not (Cond.eq (tmJ i) (tmJ j))).before #[Value.ref b] s = true ∨ (Cond.not (Cond.eq (tmJ j) (tmJ i))).before #[Value.ref b] s = true := by
    intro i j hi hj hij
    match i, j, hi, hj, hij with
    | 0, 0, _, _, hij => exact absurd rfl hij
    | 0, 1, _, _, hij => exact Or.inl (hs _ (by decide +kernel))
    | 0, 2, _, _, hij => exact Or.inl (hs _ (by decide +kernel))
    | 0, 3, _, _, hij => exact Or.inl (hs _ (by decide +kernel))
    | 0, 4, _, _, hij => exact Or.inl (hs _ (by decide +kernel))
    | 0, 5, _, _, hij => exact Or.inl (hs _ (by decide +kernel))
    | 1, 0, _, _, hij => exact Or.inr (hs _ (by decide +kernel))
    | 1, 1, _, _, hij => exact absurd rfl hij
    | 1, 2, _, _, hij => exact Or.inl (hs _ (by decide +kernel))
    | 1, 3, _, _, hij => exact Or.inl (hs _ (by decide +kernel))
    | 1, 4, _, _, hij => exact Or.inl (hs _ (by decide +kernel))
    | 1, 5, _, _, hij => exact Or.inl (hs _ (by decide +kernel))
    | 2, 0, _, _, hij => exact Or.inr (hs _ (by decide +kernel))
    | 2, 1, _, _, hij => exact Or.inr (hs _ (by decide +kernel))
    | 2, 2, _, _, hij => exact absurd rfl hij
    | 2, 3, _, _, hij => exact Or.inl (hs _ (by decide +kernel))
    | 2, 4, _, _, hij => exact Or.inl (hs _ (by decide +kernel))
    | 2, 5, _, _, hij => exact Or.inl (hs _ (by decide +kernel))
    | 3, 0, _, _, hij => exact Or.inr (hs _ (by decide +kernel))
    | 3, 1, _, _, hij => exact Or.inr (hs _ (by decide +kernel))
    | 3, 2, _, _, hij => exact Or.inr (hs _ (by decide +kernel))
    | 3, 3, _, _, hij => exact absurd rfl hij
    | 3, 4, _, _, hij => exact Or.inl (hs _ (by decide +kernel))
    | 3, 5, _, _, hij => exact Or.inl (hs _ (by decide +kernel))
    | 4, 0, _, _, hij => exact Or.inr (hs _ (by decide +kernel))
    | 4, 1, _, _, hij => exact Or.inr (hs _ (by decide +kernel))
    | 4, 2, _, _, hij => exact Or.inr (hs _ (by decide +kernel))
    | 4, 3, _, _, hij => exact Or.inr (hs _ (by decide +kernel))
    | 4, 4, _, _, hij => exact absurd rfl hij
    | 4, 5, _, _, hij => exact Or.inl (hs _ (by decide +kernel))
    | 5, 0, _, _, hij => exact Or.inr (hs _ (by decide +kernel))
    | 5, 1, _, _, hij => exact Or.inr (hs _ (by decide +kernel))
    | 5, 2, _, _, hij => exact Or.inr (hs _ (by decide +kernel))
    | 5, 3, _, _, hij => exact Or.inr (hs _ (by decide +kernel))
    | 5, 4, _, _, hij => exact Or.inr (hs _ (by decide +kernel))
    | 5, 5, _, _, hij => exact absurd rfl hij
    | i + 6, _, h, _, _ => exact absurd h (by omega)
    | 0, j + 6, _, h, _ => exact absurd h (by omega)
    | 1, j + 6, _, h, _ => exact absurd h (by omega)
    | 2, j + 6, _, h, _ => exact absurd h (by omega)
    | 3, j + 6, _, h, _ => exact absurd h (by omega)
    | 4, j + 6, _, h, _ => exact absurd h (by omega)
    | 5, j + 6, _, h, _ => exact absurd h (by omega)
  obtain ⟨adK, adV, hvS, hev⟩ := vk_Sof (args := #[Value.ref b]) (s := s) (N := 6) (tm := tmJ) (len := lenJS) (byt := bytJS) (A := fun q : Nat => s.heap.size ≤ q) (fun i hi => by have := len_lt hi; omega) hv1 hv2 hv3 hv4 hv5 hv6 hA'
  refine ⟨((fun k => [c0, c1, c2, c3, c4, c5, c6, c7, c8, c9, c10, c11].getD k c0, fun k => [i0, i1, i2, i3, i4, i5, i6, i7, i8, i9, i10, i11].getD k i0), fun k => [y0, y1, y2, y3, y4, y5].getD k y0, fun q : Nat => s.heap.size ≤ q, adK, adV), rfl, ⟨⟨?_, ?_⟩, fun q h => h, ?_, ?_, hvS, va_Zof (htb _ (List.mem_of_getElem? (i := 578) (by decide +kernel))) (hts _ q82) (va_eqt (hs _ (by decide +kernel))) hA', va_Zqof (htb _ (List.mem_of_getElem? (i := 594) (by decide +kernel))) (hts _ q84) (hs _ (by decide +kernel)) hA'⟩, ⟨⟨?_, ?_⟩, ⟨va_AO.of (htb _ (List.mem_of_getElem? (i := 102) (by decide +kernel))), va_AO.of (htb _ (List.mem_of_getElem? (i := 224) (by decide +kernel))), va_AO.of (htb _ (List.mem_of_getElem? (i := 282) (by decide +kernel)))⟩, ?_⟩⟩
  · intro k q hq
    match k, hq with
    | 0, hq => cases hq; exact hk0
    | 1, hq => cases hq; exact hk1
    | 2, hq => cases hq; exact hk2
    | 3, hq => cases hq; exact hk3
    | 4, hq => cases hq; exact hk4
    | 5, hq => cases hq; exact hk5
    | 6, hq => cases hq; exact hk6
    | 7, hq => cases hq; exact hk7
    | 8, hq => cases hq; exact hk8
    | 9, hq => cases hq; exact hk9
    | 10, hq => cases hq; exact hk10
    | 11, hq => cases hq; exact hk11
    | k + 12, hq => simp [vwCl] at hq
  · intro k q hq
    match k, hq with
    | 0, hq => cases hq; exact ⟨a0, b0⟩
    | 1, hq => cases hq; exact ⟨a1, b1⟩
    | 2, hq => cases hq; exact ⟨a2, b2⟩
    | 3, hq => cases hq; exact ⟨a3, b3⟩
    | 4, hq => cases hq; exact ⟨a4, b4⟩
    | 5, hq => cases hq; exact ⟨a5, b5⟩
    | k + 6, hq => simp [tysL] at hq
  · intro w hw
    simp only [nestW, nestI, List.mem_cons, List.not_mem_nil, or_false] at hw
    rcases hw with rfl | rfl
    · exact va_Nw.of rfl (htb _ (List.mem_of_getElem? (i := 688) (by decide +kernel)))
    · exact va_Nw.of rfl (htb _ (List.mem_of_getElem? (i := 625) (by decide +kernel)))
  · intro i hi
    match i, hi with
    | 0, hi => exact vk_R.of (htb _ (List.mem_of_getElem? (i := 564) (by decide +kernel))) (hev 0 hi)
    | 1, hi => exact vk_R.of (htb _ (List.mem_of_getElem? (i := 626) (by decide +kernel))) (hev 1 hi)
    | 2, hi => exact vk_R.of (htb _ (List.mem_of_getElem? (i := 631) (by decide +kernel))) (hev 2 hi)
    | 3, hi => exact vk_R.of (htb _ (List.mem_of_getElem? (i := 640) (by decide +kernel))) (hev 3 hi)
    | 4, hi => exact vk_R.of (htb _ (List.mem_of_getElem? (i := 641) (by decide +kernel))) (hev 4 hi)
    | 5, hi => exact vk_R.of (htb _ (List.mem_of_getElem? (i := 646) (by decide +kernel))) (hev 5 hi)
    | i + 6, h => exact absurd h (by omega)
  · intro k q hq
    match k, hq with
    | 0, hq => cases hq; exact hk0
    | 1, hq => cases hq; exact hk1
    | 2, hq => cases hq; exact hk2
    | 3, hq => cases hq; exact hk3
    | 4, hq => cases hq; exact hk4
    | 5, hq => cases hq; exact hk5
    | 6, hq => cases hq; exact hk6
    | 7, hq => cases hq; exact hk7
    | 8, hq => cases hq; exact hk8
    | 9, hq => cases hq; exact hk9
    | 10, hq => cases hq; exact hk10
    | 11, hq => cases hq; exact hk11
    | k + 12, hq => simp [vwCl] at hq
  · intro k q hq
    match k, hq with
    | 0, hq => cases hq; exact ⟨a0, b0⟩
    | 1, hq => cases hq; exact ⟨a1, b1⟩
    | 2, hq => cases hq; exact ⟨a2, b2⟩
    | 3, hq => cases hq; exact ⟨a3, b3⟩
    | 4, hq => cases hq; exact ⟨a4, b4⟩
    | 5, hq => cases hq; exact ⟨a5, b5⟩
    | k + 6, hq => simp [tysL] at hq
  · intro w hw
    simp only [nestW, nestI, List.mem_cons, List.not_mem_nil, or_false] at hw
    rcases hw with rfl | rfl | rfl | rfl
    · exact va_Nw.of rfl (htb _ (List.mem_of_getElem? (i := 97) (by decide +kernel)))
    · exact va_Nw.of rfl (htb _ (List.mem_of_getElem? (i := 182) (by decide +kernel)))
    · exact va_Nw.of rfl (htb _ (List.mem_of_getElem? (i := 339) (by decide +kernel)))
    · exact va_Nw.of rfl (htb _ (List.mem_of_getElem? (i := 226) (by decide +kernel)))
def lawFU : Nat := 600
set_option maxHeartbeats 8000000 in
set_option maxRecDepth 100000 in
theorem start_of (hpure : ∀ (L : Nat) (xs : Nat → Int32), L ≤ 3584 → f_law_L xs L lawFU (0 : Int32) S0 = some 1) {p : Program} {e : Env} {s : State} {m : MethodId} {below : List Frame} {meth : Method} {c : Code} (l : Launch) (hflags : l.flags = flags0) {b L : Nat} {xs : Nat → Int32} (hL : L ≤ 3584) (C0 : lw_At p s m meth c b L xs) : W p l e room_1 s m #[Value.ref b] below meth c s.heap [] 0 0 (lw_Z below #[Value.ref b] s) (entryFrame m ([Value.ref b] : List Value).toArray 4) := by
  obtain ⟨hx, hb, hr, hml, hown, htb, hX, hbl, hlocks, hgv⟩ := id C0
  have hb : c.code = cL_law := hb
  have hown : s.vm.findClass RL = some m.cls := hown
  have hts : ∀ w ∈ wsL_law, w.before #[Value.ref b] s = true := fun w hw => htb w (wsL_law_in w hw)
  obtain ⟨E, hEA, hKs, hKc⟩ := entry_E htb hgv
  have C : Cx p s m #[Value.ref b] meth c RL cL_law 4 (some .boolean) E := ⟨hx, hb, hml, hown, hts, hlocks, hr, hKs⟩
  have hA := hKs.2.1
  have hbA : ¬ E.2.2.1 b := by rw [hEA]; exact Nat.not_le.mpr hbl
  have hS : va_S E.2.2.1 s.heap s.heap [] := va_S.rf
  have hP : va_P E.1 vwCl ([] : va_W) s.heap := fun k q h => by simp at h
  have hD : va_D E.2.2.1 ([] : va_W) := ⟨fun i j p q h => by simp at h, fun k q h => by simp at h⟩
  have hl := lv_entry ([.ref b]) (n := 4) (Nat.le_of_ble_eq_true rfl)
  rw [lg_entry_eq]
  generalize (lg_sl ([.ref b]) ++ List.replicate (4 - (lg_sl ([.ref b])).length) Slot.unset).toArray = ls at hl ⊢
  have hl : lv_has ls 4 [(0, .ref b)] := hl
  refine va_new (ci := 10) (fs := [.null, .null, .null, .null, .null, .null, .null]) (C := RX10) (T := TX10) (N := 7) hx hb hts inl10 tyX10 tyX10_ok hown (hts _ q87) (hts _ q88) (hts _ q68) hKc.1 hP hD hS hA rfl (fun j hj => by rcases (show j = 0 ∨ j = 1 ∨ j = 2 ∨ j = 3 ∨ j = 4 ∨ j = 5 ∨ j = 6 by omega) with rfl | rfl | rfl | rfl | rfl | rfl | rfl <;> rfl) (Nat.le_of_ble_eq_true rfl) (Nat.le_of_ble_eq_true rfl) dL_law_0 (fun h0 H hP hD hS => ?_)
  obtain ⟨hP, hD⟩ := n_sw0 hP hD
  refine lv_dup hx hb dL_law_3 rfl ?_
  have hPc : va_P E.1 vwCl (w0_X10_init E h0) H := hP.sub [0] rfl
  have hDc : va_D E.2.2.1 (w0_X10_init E h0) := hD.sub [0] (by decide) rfl
  have hFc : ∀ q, va_A (w0_X10_init E h0) H.size q → E.2.2.1 q := va_free hD hS hA [0] rfl
  refine va_callv (va_runI (As := []) (rest := [.ref h0]) ⟨hx, hb, hml, hown, hts⟩ (c_X10_init l (E := E) (h0 := h0) (sz := H.size)) (cwI 0 hts (wsGoodIn q91) rfl rfl rfl (hts _ q68) (hts _ q89) (hts _ q90) rfl (by decide +kernel) ⟨Nat.le_of_ble_eq_true rfl, Nat.le_of_ble_eq_true rfl⟩) ⟨PI.blind, fun U hU hW => ⟨rfl, by rw [hU], by rw [hU]; exact hPc, hKc.call hW, hDc.weaken (fun _ _ _ _ => trivial)⟩⟩ rfl rfl hl.1 rfl (lv_room (Nat.le_of_ble_eq_true rfl)) dL_law_4 ⟨Nat.le_of_ble_eq_true rfl, Nat.le_of_ble_eq_true rfl⟩) hS (fun q _ h => hFc q h) hFc (fun Q9 t H1 locs ht hvm hw hB hz1 hk1 hS => ?_)
  obtain ⟨hP1, hD1⟩ := hB
  rw [ht] at hP1
  obtain ⟨hP, hD⟩ := n_join0 hP hD hk1 hFc hP1 hD1
  generalize H1 = H at hP hS ⊢
  clear hPc hDc hFc hk1 hz1 hvm hw hP1 hD1 ht
  obtain ⟨XA, eXA⟩ : ∃ Xz, Xz = ([] : va_W) ++ w1_X10_init E h0 Q9 := ⟨_, rfl⟩
  rw [← eXA] at hP hD
  refine lv_astore_n (lv' := [(1, .ref h0), (0, .ref b)]) hx hb dL_law_7 rfl hl (by decide) rfl (fun ls hl => ?_)
  refine va_new (ci := 11) (fs := [.int 0, .null, .null, .null, .null, .null, .null, .int 0, .null, .null, .null, .null, .int 0, .null, .int 0, .int 0, .long 0, .int 0, .int 0, .int 0, .int 0, .null, .null, .null, .null, .null, .int 0, .null, .null, .null, .null, .int 0, .int 0, .null, .null, .null, .null, .null, .null, .null, .null, .null, .null, .null, .null, .null, .null, .null]) (C := RX11) (T := TX11) (N := 48) hx hb hts inl11 tyX11 tyX11_ok hown (hts _ q937) (hts _ q938) (hts _ q77) hKc.1 hP hD hS hA rfl (fun j hj => by rcases (show j = 0 ∨ j = 1 ∨ j = 2 ∨ j = 3 ∨ j = 4 ∨ j = 5 ∨ j = 6 ∨ j = 7 ∨ j = 8 ∨ j = 9 ∨ j = 10 ∨ j = 11 ∨ j = 12 ∨ j = 13 ∨ j = 14 ∨ j = 15 ∨ j = 16 ∨ j = 17 ∨ j = 18 ∨ j = 19 ∨ j = 20 ∨ j = 21 ∨ j = 22 ∨ j = 23 ∨ j = 24 ∨ j = 25 ∨ j = 26 ∨ j = 27 ∨ j = 28 ∨ j = 29 ∨ j = 30 ∨ j = 31 ∨ j = 32 ∨ j = 33 ∨ j = 34 ∨ j = 35 ∨ j = 36 ∨ j = 37 ∨ j = 38 ∨ j = 39 ∨ j = 40 ∨ j = 41 ∨ j = 42 ∨ j = 43 ∨ j = 44 ∨ j = 45 ∨ j = 46 ∨ j = 47 by omega) with rfl | rfl | rfl | rfl | rfl | rfl | rfl | rfl | rfl | rfl | rfl | rfl | rfl | rfl | rfl | rfl | rfl | rfl | rfl | rfl | rfl | rfl | rfl | rfl | rfl | rfl | rfl | rfl | rfl | rfl | rfl | rfl | rfl | rfl | rfl | rfl | rfl | rfl | rfl | rfl | rfl | rfl | rfl | rfl | rfl | rfl | rfl | rfl <;> rfl) (Nat.le_of_ble_eq_true rfl) (Nat.le_of_ble_eq_true rfl) dL_law_8 (fun m0 H hP hD hS => ?_)
  obtain ⟨hP, hD⟩ := n_sw0 hP hD
  refine lv_dup hx hb dL_law_11 rfl ?_
  have hPc : va_P E.1 vwCl (w0_X11_init E m0) H := hP.sub [0] rfl
  have hDc : va_D E.2.2.1 (w0_X11_init E m0) := hD.sub [0] (by decide) rfl
  have hFc : ∀ q, va_A (w0_X11_init E m0) H.size q → E.2.2.1 q := va_free hD hS hA [0] rfl
  refine va_callv (va_runI (As := []) (rest := [.ref m0]) ⟨hx, hb, hml, hown, hts⟩ (c_X11_init l (E := E) (h0 := m0) (sz := H.size)) (cwI 0 hts (wsGoodIn q941) rfl rfl rfl (hts _ q77) (hts _ q939) (hts _ q940) rfl (by decide +kernel) ⟨Nat.le_of_ble_eq_true rfl, Nat.le_of_ble_eq_true rfl⟩) ⟨PI.blind, fun U hU hW => ⟨rfl, by rw [hU], by rw [hU]; exact hPc, hKc.call hW, hDc.weaken (fun _ _ _ _ => trivial)⟩⟩ rfl rfl hl.1 rfl (lv_room (Nat.le_of_ble_eq_true rfl)) dL_law_12 ⟨Nat.le_of_ble_eq_true rfl, Nat.le_of_ble_eq_true rfl⟩) hS (fun q _ h => hFc q h) hFc (fun q9 t H1 locs ht hvm hw hB hz1 hk1 hS => ?_)
  obtain ⟨hP1, hD1⟩ := hB
  rw [ht] at hP1
  obtain ⟨hP, hD⟩ := n_join0 hP hD hk1 hFc hP1 hD1
  generalize H1 = H at hP hS ⊢
  clear hPc hDc hFc hk1 hz1 hvm hw hP1 hD1 ht
  refine lv_astore_n (lv' := [(2, .ref m0), (1, .ref h0), (0, .ref b)]) hx hb dL_law_15 rfl hl (by decide) rfl (fun ls hl => ?_)
  refine lv_iconst (v := 0) hx hb dL_law_16 (by decide) ?_
  refine lv_istore_n (lv' := [(3, .int (0 : Int32)), (2, .ref m0), (1, .ref h0), (0, .ref b)]) hx hb dL_law_17 rfl hl (by decide) rfl (fun ls hl => ?_)
  rw [eXA, List.nil_append, wflat_eq] at hP hD
  have hR := Rp0 hP hD
  refine w_law_L C hKc hX hbl hbA lawFU (0 : Int32) S0 (al0 h0 Q9 m0 q9) H _ ls _ _ hR hS (lv_sub hl [3, 2, 1, 0] rfl) (Nat.le_of_ble_eq_true rfl) (Nat.le_of_ble_eq_true rfl) (hpure L xs hL) (fun q h => by rw [hEA] at h; exact h)
