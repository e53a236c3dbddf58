/-! the law, whole, by program (law2.py) -/
set_option maxRecDepth 100000 in
theorem lc_body {X : Nat × (Nat → Int32)} {q : Int32} {P : Pic} {N : NM} (hI : GInv P N) (h0 : inb q X.1) (h1 : inb (q + 1) X.1) (h2 : inb (q + 2) X.1) (h3 : inb (q + 3) X.1) (h4 : inb (q + 4) X.1) : ∃ P' N', GInv P' N' ∧ ∀ res, Ev 40 309 1531 [some (.ref 0), some (.ref 8), some (.ref 59), some (.int q)] [] (hs (X, 90, 11875) (jm N')) res → Ev 40 309 26 [some (.ref 0), some (.ref 8), some (.ref 59), some (.int q)] [] (hs (X, 90, 11875) (jm N)) res := by
  have go : ∀ t, gw_tsw 32 1499 0 41 #[184, 217, 270, 283, 316, 349, 398, 447, 480, 513, 556, 579, 612, 645, 668, 681, 704, 747, 806, 839, 882, 905, 948, 1001, 1024, 1037, 1060, 1083, 1106, 1139, 1172, 1195, 1218, 1241, 1274, 1297, 1330, 1363, 1406, 1439, 1462, 1485] (X.2 q.toNatClampNeg &&& 63) = t → ∀ res, Ev 40 309 t [some (.ref 0), some (.ref 8), some (.ref 59), some (.int q)] [] (hs (X, 90, 11875) (jm N)) res → Ev 40 309 26 [some (.ref 0), some (.ref 8), some (.ref 59), some (.int q)] [] (hs (X, 90, 11875) (jm N)) res := by
    intro t ht res hres
    refine Ev.steps 2 (pc' := 28) (L' := [some (.ref 0), some (.ref 8), some (.ref 59), some (.int q)]) (st' := [.int q, .ref 0]) rfl ?_
    refine Ev.rd (i := q) (n := X.1) (pc' := 29) (L' := [some (.ref 0), some (.ref 8), some (.ref 59), some (.int q)]) (st' := [.int (X.2 q.toNatClampNeg)]) h0 rfl ?_
    refine Ev.steps 2 (pc' := 32) (L' := [some (.ref 0), some (.ref 8), some (.ref 59), some (.int q)]) (st' := [.int (X.2 q.toNatClampNeg &&& 63)]) rfl ?_
    exact Ev.sw (p := gw_tsw 32 1499 0 41 #[184, 217, 270, 283, 316, 349, 398, 447, 480, 513, 556, 579, 612, 645, 668, 681, 704, 747, 806, 839, 882, 905, 948, 1001, 1024, 1037, 1060, 1083, 1106, 1139, 1172, 1195, 1218, 1241, 1274, 1297, 1330, 1363, 1406, 1439, 1462, 1485] (X.2 q.toNatClampNeg &&& 63)) (pc' := t) (L' := [some (.ref 0), some (.ref 8), some (.ref 59), some (.int q)]) (st' := []) rfl ht hres
  by_cases hw0 : (X.2 q.toNatClampNeg &&& 63) = 0
  · obtain ⟨P2, N2, k1, k2⟩ := lc0 (X := X) (q := q) hI h1 h2 h3 h4
    exact ⟨P2, N2, k1, fun res hres => go 216 (by rw [hw0]; decide +kernel) res (k2 res hres)⟩
  by_cases hw1 : (X.2 q.toNatClampNeg &&& 63) = 1
  · obtain ⟨P2, N2, k1, k2⟩ := lc1 (X := X) (q := q) hI h1 h2 h3 h4
    exact ⟨P2, N2, k1, fun res hres => go 249 (by rw [hw1]; decide +kernel) res (k2 res hres)⟩
  by_cases hw2 : (X.2 q.toNatClampNeg &&& 63) = 2
  · obtain ⟨P2, N2, k1, k2⟩ := lc2 (X := X) (q := q) hI h1 h2 h3 h4
    exact ⟨P2, N2, k1, fun res hres => go 302 (by rw [hw2]; decide +kernel) res (k2 res hres)⟩
  by_cases hw3 : (X.2 q.toNatClampNeg &&& 63) = 3
  · obtain ⟨P2, N2, k1, k2⟩ := lc3 (X := X) (q := q) hI h1 h2 h3 h4
    exact ⟨P2, N2, k1, fun res hres => go 315 (by rw [hw3]; decide +kernel) res (k2 res hres)⟩
  by_cases hw4 : (X.2 q.toNatClampNeg &&& 63) = 4
  · obtain ⟨P2, N2, k1, k2⟩ := lc4 (X := X) (q := q) hI h1 h2 h3 h4
    exact ⟨P2, N2, k1, fun res hres => go 348 (by rw [hw4]; decide +kernel) res (k2 res hres)⟩
  by_cases hw5 : (X.2 q.toNatClampNeg &&& 63) = 5
  · obtain ⟨P2, N2, k1, k2⟩ := lc5 (X := X) (q := q) hI h1 h2 h3 h4
    exact ⟨P2, N2, k1, fun res hres => go 381 (by rw [hw5]; decide +kernel) res (k2 res hres)⟩
  by_cases hw6 : (X.2 q.toNatClampNeg &&& 63) = 6
  · obtain ⟨P2, N2, k1, k2⟩ := lc6 (X := X) (q := q) hI h1 h2 h3 h4
    exact ⟨P2, N2, k1, fun res hres => go 430 (by rw [hw6]; decide +kernel) res (k2 res hres)⟩
  by_cases hw7 : (X.2 q.toNatClampNeg &&& 63) = 7
  · obtain ⟨P2, N2, k1, k2⟩ := lc7 (X := X) (q := q) hI h1 h2 h3 h4
    exact ⟨P2, N2, k1, fun res hres => go 479 (by rw [hw7]; decide +kernel) res (k2 res hres)⟩
  by_cases hw8 : (X.2 q.toNatClampNeg &&& 63) = 8
  · obtain ⟨P2, N2, k1, k2⟩ := lc8 (X := X) (q := q) hI h1 h2 h3 h4
    exact ⟨P2, N2, k1, fun res hres => go 512 (by rw [hw8]; decide +kernel) res (k2 res hres)⟩
  by_cases hw9 : (X.2 q.toNatClampNeg &&& 63) = 9
  · obtain ⟨P2, N2, k1, k2⟩ := lc9 (X := X) (q := q) hI h1 h2 h3 h4
    exact ⟨P2, N2, k1, fun res hres => go 545 (by rw [hw9]; decide +kernel) res (k2 res hres)⟩
  by_cases hw10 : (X.2 q.toNatClampNeg &&& 63) = 10
  · obtain ⟨P2, N2, k1, k2⟩ := lc10 (X := X) (q := q) hI h1 h2 h3 h4
    exact ⟨P2, N2, k1, fun res hres => go 588 (by rw [hw10]; decide +kernel) res (k2 res hres)⟩
  by_cases hw11 : (X.2 q.toNatClampNeg &&& 63) = 11
  · obtain ⟨P2, N2, k1, k2⟩ := lc11 (X := X) (q := q) hI h1 h2 h3 h4
    exact ⟨P2, N2, k1, fun res hres => go 611 (by rw [hw11]; decide +kernel) res (k2 res hres)⟩
  by_cases hw12 : (X.2 q.toNatClampNeg &&& 63) = 12
  · obtain ⟨P2, N2, k1, k2⟩ := lc12 (X := X) (q := q) hI h1 h2 h3 h4
    exact ⟨P2, N2, k1, fun res hres => go 644 (by rw [hw12]; decide +kernel) res (k2 res hres)⟩
  by_cases hw13 : (X.2 q.toNatClampNeg &&& 63) = 13
  · obtain ⟨P2, N2, k1, k2⟩ := lc13 (X := X) (q := q) hI h1 h2 h3 h4
    exact ⟨P2, N2, k1, fun res hres => go 677 (by rw [hw13]; decide +kernel) res (k2 res hres)⟩
  by_cases hw14 : (X.2 q.toNatClampNeg &&& 63) = 14
  · obtain ⟨P2, N2, k1, k2⟩ := lc14 (X := X) (q := q) hI h1 h2 h3 h4
    exact ⟨P2, N2, k1, fun res hres => go 700 (by rw [hw14]; decide +kernel) res (k2 res hres)⟩
  by_cases hw15 : (X.2 q.toNatClampNeg &&& 63) = 15
  · obtain ⟨P2, N2, k1, k2⟩ := lc15 (X := X) (q := q) hI h1 h2 h3 h4
    exact ⟨P2, N2, k1, fun res hres => go 713 (by rw [hw15]; decide +kernel) res (k2 res hres)⟩
  by_cases hw16 : (X.2 q.toNatClampNeg &&& 63) = 16
  · obtain ⟨P2, N2, k1, k2⟩ := lc16 (X := X) (q := q) hI h1 h2 h3 h4
    exact ⟨P2, N2, k1, fun res hres => go 736 (by rw [hw16]; decide +kernel) res (k2 res hres)⟩
  by_cases hw17 : (X.2 q.toNatClampNeg &&& 63) = 17
  · obtain ⟨P2, N2, k1, k2⟩ := lc17 (X := X) (q := q) hI h1 h2 h3 h4
    exact ⟨P2, N2, k1, fun res hres => go 779 (by rw [hw17]; decide +kernel) res (k2 res hres)⟩
  by_cases hw18 : (X.2 q.toNatClampNeg &&& 63) = 18
  · obtain ⟨P2, N2, k1, k2⟩ := lc18 (X := X) (q := q) hI h1 h2 h3 h4
    exact ⟨P2, N2, k1, fun res hres => go 838 (by rw [hw18]; decide +kernel) res (k2 res hres)⟩
  by_cases hw19 : (X.2 q.toNatClampNeg &&& 63) = 19
  · obtain ⟨P2, N2, k1, k2⟩ := lc19 (X := X) (q := q) hI h1 h2 h3 h4
    exact ⟨P2, N2, k1, fun res hres => go 871 (by rw [hw19]; decide +kernel) res (k2 res hres)⟩
  by_cases hw20 : (X.2 q.toNatClampNeg &&& 63) = 20
  · obtain ⟨P2, N2, k1, k2⟩ := lc20 (X := X) (q := q) hI h1 h2 h3 h4
    exact ⟨P2, N2, k1, fun res hres => go 914 (by rw [hw20]; decide +kernel) res (k2 res hres)⟩
  by_cases hw21 : (X.2 q.toNatClampNeg &&& 63) = 21
  · obtain ⟨P2, N2, k1, k2⟩ := lc21 (X := X) (q := q) hI h1 h2 h3 h4
    exact ⟨P2, N2, k1, fun res hres => go 937 (by rw [hw21]; decide +kernel) res (k2 res hres)⟩
  by_cases hw22 : (X.2 q.toNatClampNeg &&& 63) = 22
  · obtain ⟨P2, N2, k1, k2⟩ := lc22 (X := X) (q := q) hI h1 h2 h3 h4
    exact ⟨P2, N2, k1, fun res hres => go 980 (by rw [hw22]; decide +kernel) res (k2 res hres)⟩
  by_cases hw23 : (X.2 q.toNatClampNeg &&& 63) = 23
  · obtain ⟨P2, N2, k1, k2⟩ := lc23 (X := X) (q := q) hI h1 h2 h3 h4
    exact ⟨P2, N2, k1, fun res hres => go 1033 (by rw [hw23]; decide +kernel) res (k2 res hres)⟩
  by_cases hw24 : (X.2 q.toNatClampNeg &&& 63) = 24
  · obtain ⟨P2, N2, k1, k2⟩ := lc24 (X := X) (q := q) hI h1 h2 h3 h4
    exact ⟨P2, N2, k1, fun res hres => go 1056 (by rw [hw24]; decide +kernel) res (k2 res hres)⟩
  by_cases hw25 : (X.2 q.toNatClampNeg &&& 63) = 25
  · obtain ⟨P2, N2, k1, k2⟩ := lc25 (X := X) (q := q) hI h1 h2 h3 h4
    exact ⟨P2, N2, k1, fun res hres => go 1069 (by rw [hw25]; decide +kernel) res (k2 res hres)⟩
  by_cases hw26 : (X.2 q.toNatClampNeg &&& 63) = 26
  · obtain ⟨P2, N2, k1, k2⟩ := lc26 (X := X) (q := q) hI h1 h2 h3 h4
    exact ⟨P2, N2, k1, fun res hres => go 1092 (by rw [hw26]; decide +kernel) res (k2 res hres)⟩
  by_cases hw27 : (X.2 q.toNatClampNeg &&& 63) = 27
  · obtain ⟨P2, N2, k1, k2⟩ := lc27 (X := X) (q := q) hI h1 h2 h3 h4
    exact ⟨P2, N2, k1, fun res hres => go 1115 (by rw [hw27]; decide +kernel) res (k2 res hres)⟩
  by_cases hw28 : (X.2 q.toNatClampNeg &&& 63) = 28
  · obtain ⟨P2, N2, k1, k2⟩ := lc28 (X := X) (q := q) hI h1 h2 h3 h4
    exact ⟨P2, N2, k1, fun res hres => go 1138 (by rw [hw28]; decide +kernel) res (k2 res hres)⟩
  by_cases hw29 : (X.2 q.toNatClampNeg &&& 63) = 29
  · obtain ⟨P2, N2, k1, k2⟩ := lc29 (X := X) (q := q) hI h1 h2 h3 h4
    exact ⟨P2, N2, k1, fun res hres => go 1171 (by rw [hw29]; decide +kernel) res (k2 res hres)⟩
  by_cases hw30 : (X.2 q.toNatClampNeg &&& 63) = 30
  · obtain ⟨P2, N2, k1, k2⟩ := lc30 (X := X) (q := q) hI h1 h2 h3 h4
    exact ⟨P2, N2, k1, fun res hres => go 1204 (by rw [hw30]; decide +kernel) res (k2 res hres)⟩
  by_cases hw31 : (X.2 q.toNatClampNeg &&& 63) = 31
  · obtain ⟨P2, N2, k1, k2⟩ := lc31 (X := X) (q := q) hI h1 h2 h3 h4
    exact ⟨P2, N2, k1, fun res hres => go 1227 (by rw [hw31]; decide +kernel) res (k2 res hres)⟩
  by_cases hw32 : (X.2 q.toNatClampNeg &&& 63) = 32
  · obtain ⟨P2, N2, k1, k2⟩ := lc32 (X := X) (q := q) hI h1 h2 h3 h4
    exact ⟨P2, N2, k1, fun res hres => go 1250 (by rw [hw32]; decide +kernel) res (k2 res hres)⟩
  by_cases hw33 : (X.2 q.toNatClampNeg &&& 63) = 33
  · obtain ⟨P2, N2, k1, k2⟩ := lc33 (X := X) (q := q) hI h1 h2 h3 h4
    exact ⟨P2, N2, k1, fun res hres => go 1273 (by rw [hw33]; decide +kernel) res (k2 res hres)⟩
  by_cases hw34 : (X.2 q.toNatClampNeg &&& 63) = 34
  · obtain ⟨P2, N2, k1, k2⟩ := lc34 (X := X) (q := q) hI h1 h2 h3 h4
    exact ⟨P2, N2, k1, fun res hres => go 1306 (by rw [hw34]; decide +kernel) res (k2 res hres)⟩
  by_cases hw35 : (X.2 q.toNatClampNeg &&& 63) = 35
  · obtain ⟨P2, N2, k1, k2⟩ := lc35 (X := X) (q := q) hI h1 h2 h3 h4
    exact ⟨P2, N2, k1, fun res hres => go 1329 (by rw [hw35]; decide +kernel) res (k2 res hres)⟩
  by_cases hw36 : (X.2 q.toNatClampNeg &&& 63) = 36
  · obtain ⟨P2, N2, k1, k2⟩ := lc36 (X := X) (q := q) hI h1 h2 h3 h4
    exact ⟨P2, N2, k1, fun res hres => go 1362 (by rw [hw36]; decide +kernel) res (k2 res hres)⟩
  by_cases hw37 : (X.2 q.toNatClampNeg &&& 63) = 37
  · obtain ⟨P2, N2, k1, k2⟩ := lc37 (X := X) (q := q) hI h1 h2 h3 h4
    exact ⟨P2, N2, k1, fun res hres => go 1395 (by rw [hw37]; decide +kernel) res (k2 res hres)⟩
  by_cases hw38 : (X.2 q.toNatClampNeg &&& 63) = 38
  · obtain ⟨P2, N2, k1, k2⟩ := lc38 (X := X) (q := q) hI h1 h2 h3 h4
    exact ⟨P2, N2, k1, fun res hres => go 1438 (by rw [hw38]; decide +kernel) res (k2 res hres)⟩
  by_cases hw39 : (X.2 q.toNatClampNeg &&& 63) = 39
  · obtain ⟨P2, N2, k1, k2⟩ := lc39 (X := X) (q := q) hI h1 h2 h3 h4
    exact ⟨P2, N2, k1, fun res hres => go 1471 (by rw [hw39]; decide +kernel) res (k2 res hres)⟩
  by_cases hw40 : (X.2 q.toNatClampNeg &&& 63) = 40
  · obtain ⟨P2, N2, k1, k2⟩ := lc40 (X := X) (q := q) hI h1 h2 h3 h4
    exact ⟨P2, N2, k1, fun res hres => go 1494 (by rw [hw40]; decide +kernel) res (k2 res hres)⟩
  by_cases hw41 : (X.2 q.toNatClampNeg &&& 63) = 41
  · obtain ⟨P2, N2, k1, k2⟩ := lc41 (X := X) (q := q) hI h1 h2 h3 h4
    exact ⟨P2, N2, k1, fun res hres => go 1517 (by rw [hw41]; decide +kernel) res (k2 res hres)⟩
  refine ⟨P, N, hI, fun res hres => go 1531 (gw_ts_df (by decide +kernel) (by
    intro k a1 a2
    have a3 : k = 0 ∨ k = 1 ∨ k = 2 ∨ k = 3 ∨ k = 4 ∨ k = 5 ∨ k = 6 ∨ k = 7 ∨ k = 8 ∨ k = 9 ∨ k = 10 ∨ k = 11 ∨ k = 12 ∨ k = 13 ∨ k = 14 ∨ k = 15 ∨ k = 16 ∨ k = 17 ∨ k = 18 ∨ k = 19 ∨ k = 20 ∨ k = 21 ∨ k = 22 ∨ k = 23 ∨ k = 24 ∨ k = 25 ∨ k = 26 ∨ k = 27 ∨ k = 28 ∨ k = 29 ∨ k = 30 ∨ k = 31 ∨ k = 32 ∨ k = 33 ∨ k = 34 ∨ k = 35 ∨ k = 36 ∨ k = 37 ∨ k = 38 ∨ k = 39 ∨ k = 40 ∨ k = 41 := by omega
    rcases a3 with rfl | rfl | rfl | rfl | rfl | rfl | rfl | rfl | rfl | rfl | rfl | rfl | rfl | rfl | rfl | rfl | rfl | rfl | rfl | rfl | rfl | rfl | rfl | rfl | rfl | rfl | rfl | rfl | rfl | rfl | rfl | rfl | rfl | rfl | rfl | rfl | rfl | rfl | rfl | rfl | rfl | rfl
    · exact fun h => hw0 (h.trans (by decide +kernel))
    · exact fun h => hw1 (h.trans (by decide +kernel))
    · exact fun h => hw2 (h.trans (by decide +kernel))
    · exact fun h => hw3 (h.trans (by decide +kernel))
    · exact fun h => hw4 (h.trans (by decide +kernel))
    · exact fun h => hw5 (h.trans (by decide +kernel))
    · exact fun h => hw6 (h.trans (by decide +kernel))
    · exact fun h => hw7 (h.trans (by decide +kernel))
    · exact fun h => hw8 (h.trans (by decide +kernel))
    · exact fun h => hw9 (h.trans (by decide +kernel))
    · exact fun h => hw10 (h.trans (by decide +kernel))
    · exact fun h => hw11 (h.trans (by decide +kernel))
    · exact fun h => hw12 (h.trans (by decide +kernel))
    · exact fun h => hw13 (h.trans (by decide +kernel))
    · exact fun h => hw14 (h.trans (by decide +kernel))
    · exact fun h => hw15 (h.trans (by decide +kernel))
    · exact fun h => hw16 (h.trans (by decide +kernel))
    · exact fun h => hw17 (h.trans (by decide +kernel))
    · exact fun h => hw18 (h.trans (by decide +kernel))
    · exact fun h => hw19 (h.trans (by decide +kernel))
    · exact fun h => hw20 (h.trans (by decide +kernel))
    · exact fun h => hw21 (h.trans (by decide +kernel))
    · exact fun h => hw22 (h.trans (by decide +kernel))
    · exact fun h => hw23 (h.trans (by decide +kernel))
    · exact fun h => hw24 (h.trans (by decide +kernel))
    · exact fun h => hw25 (h.trans (by decide +kernel))
    · exact fun h => hw26 (h.trans (by decide +kernel))
    · exact fun h => hw27 (h.trans (by decide +kernel))
    · exact fun h => hw28 (h.trans (by decide +kernel))
    · exact fun h => hw29 (h.trans (by decide +kernel))
    · exact fun h => hw30 (h.trans (by decide +kernel))
    · exact fun h => hw31 (h.trans (by decide +kernel))
    · exact fun h => hw32 (h.trans (by decide +kernel))
    · exact fun h => hw33 (h.trans (by decide +kernel))
    · exact fun h => hw34 (h.trans (by decide +kernel))
    · exact fun h => hw35 (h.trans (by decide +kernel))
    · exact fun h => hw36 (h.trans (by decide +kernel))
    · exact fun h => hw37 (h.trans (by decide +kernel))
    · exact fun h => hw38 (h.trans (by decide +kernel))
    · exact fun h => hw39 (h.trans (by decide +kernel))
    · exact fun h => hw40 (h.trans (by decide +kernel))
    · exact fun h => hw41 (h.trans (by decide +kernel)))) res hres⟩
set_option maxRecDepth 100000 in
theorem lc_loop {X : Nat × (Nat → Int32)} (hX : X.1 ≤ 2560) : ∀ (d : Nat) (i : Int) (P : Pic) (N : NM), GInv P N → 0 ≤ i → i ≤ 2600 → (X.1 : Int) < i + d → ∃ N', Ev 40 309 18 [some (.ref 0), some (.ref 8), some (.ref 59), some (.int (J i))] [] (hs (X, 90, 11875) (jm N)) (some (.int 1), hs (X, 90, 11875) (jm N')) := by
  intro d
  induction d with
  | zero =>
    intro i P N hI h0 h1 h2
    refine ⟨N, ?_⟩
    refine Ev.steps 5 (pc' := 23) (L' := [some (.ref 0), some (.ref 8), some (.ref 59), some (.int (J i))]) (st' := [.int (Int32.ofNat X.1 - 5), .int (J i)]) rfl ?_
    refine Ev.sw (p := if Int32.ofNat X.1 - 5 < J i then 1537 else 26) (pc' := 1537) (L' := [some (.ref 0), some (.ref 8), some (.ref 59), some (.int (J i))]) (st' := []) rfl (if_pos ?_) ?_
    · rw [lt_J (sub_J (jof X.1) jl_5) rfl ⟨by omega, by omega⟩ ⟨by omega, by omega⟩]
      omega
    · refine Ev.steps 1 (pc' := 1538) (L' := [some (.ref 0), some (.ref 8), some (.ref 59), some (.int (J i))]) (st' := [.int 1]) rfl ?_
      exact Ev.ret rfl
  | succ d ih =>
    intro i P N hI h0 h1 h2
    by_cases hc : (X.1 : Int) - 5 < i
    · refine ⟨N, ?_⟩
      refine Ev.steps 5 (pc' := 23) (L' := [some (.ref 0), some (.ref 8), some (.ref 59), some (.int (J i))]) (st' := [.int (Int32.ofNat X.1 - 5), .int (J i)]) rfl ?_
      refine Ev.sw (p := if Int32.ofNat X.1 - 5 < J i then 1537 else 26) (pc' := 1537) (L' := [some (.ref 0), some (.ref 8), some (.ref 59), some (.int (J i))]) (st' := []) rfl (if_pos ?_) ?_
      · rw [lt_J (sub_J (jof X.1) jl_5) rfl ⟨by omega, by omega⟩ ⟨by omega, by omega⟩]
        omega
      · refine Ev.steps 1 (pc' := 1538) (L' := [some (.ref 0), some (.ref 8), some (.ref 59), some (.int (J i))]) (st' := [.int 1]) rfl ?_
        exact Ev.ret rfl
    · obtain ⟨P2, N2, k1, k2⟩ := lc_body (X := X) (q := J i) hI (inb_J rfl ⟨h0, by omega⟩ (by omega)) (inb_J (add_J rfl jl_1) ⟨by omega, by omega⟩ (by omega)) (inb_J (add_J rfl jl_2) ⟨by omega, by omega⟩ (by omega)) (inb_J (add_J rfl jl_3) ⟨by omega, by omega⟩ (by omega)) (inb_J (add_J rfl jl_4) ⟨by omega, by omega⟩ (by omega))
      obtain ⟨N3, k3⟩ := ih (i + 5) P2 N2 k1 (by omega) (by omega) (by omega)
      refine ⟨N3, ?_⟩
      refine Ev.steps 5 (pc' := 23) (L' := [some (.ref 0), some (.ref 8), some (.ref 59), some (.int (J i))]) (st' := [.int (Int32.ofNat X.1 - 5), .int (J i)]) rfl ?_
      refine Ev.sw (p := if Int32.ofNat X.1 - 5 < J i then 1537 else 26) (pc' := 26) (L' := [some (.ref 0), some (.ref 8), some (.ref 59), some (.int (J i))]) (st' := []) rfl (if_neg ?_) ?_
      · rw [lt_J (sub_J (jof X.1) jl_5) rfl ⟨by omega, by omega⟩ ⟨by omega, by omega⟩]
        exact hc
      · refine k2 _ ?_
        refine Ev.steps 2 (pc' := 18) (L' := [some (.ref 0), some (.ref 8), some (.ref 59), some (.int (J i + 5))]) (st' := []) rfl ?_
        rw [add_J (rfl : J i = J i) jl_5]
        exact k3
theorem law_all {X : Nat × (Nat → Int32)} (hX : X.1 ≤ 2560) : ∃ N', Ev 40 309 0 [some (.ref 0), none, none, none] [] (hs (X, 8, 0) km0) (some (.int 1), hs (X, 90, 11875) (jm N')) := by
  obtain ⟨N, hI, k⟩ := law_start (X := X)
  obtain ⟨N', h⟩ := lc_loop hX (X.1 + 1) 0 pic0 N hI (by decide) (by decide) (by omega)
  rw [← jl_0] at h
  exact ⟨N', k _ h⟩
