/-! places, on both sides -/
section MEF
variable {E : gw_N} {N : NM} {P : Pic} {G : Geo}
theorem mee_bd {x y : Int} : 0 ≤ meeZ G x y ∧ meeZ G x y ≤ 4 := by
  have := sumZ_bd' (g := fun way => bZ (covW G x y way)) (n := 4) (B := 4) (c := 1) (fun _ _ _ => bZ_bd) (by decide) (by decide) (by decide)
  unfold meeZ
  omega
theorem sp73 {x y : Int} (hG : GeoR G) (hg : GridOK G N) (hcv : ∀ e, 0 ≤ e → e < 178 → N 23 e = covC G e) (hp : isPt G x y) : Rn 73 [.ref 22, .int (J x), .int (J y)] (hs E (jm N)) (some (.int (J (meeZ G x y)))) (hs E (jm N)) := by
  unfold meeZ
  refine c73 (v73_0 ?_)
  refine loopZ (a := 0) (n := 4) (Q := fun k => Ev 5 73 5 [some (.ref 22), some (.int (J x)), some (.int (J y)), some (.int (J (sumZ k (fun way => bZ (covW G x y way))))), some (.int (J k))] [] (hs E (jm N)) (_, _)) (by decide) ?_ ?_
  · refine v73_5 ?_
    exact ⟨by decide, fun _ => rfl, fun z => absurd (Int.le_refl _) z⟩
  · intro k k1 k2 ih
    obtain ⟨a1, a2⟩ := cCov hG hg hcv hp ⟨k1, k2⟩
    have m1 := bZ_01 (p := covW G x y k)
    have e206 : G206 N (bZ (covW G x y k)) = bZ (covW G x y k) := by
      rcases m1 with h | h <;> rw [h]
      · exact G206_0
      · exact G206_1
    rw [sumZ_succ k1] at ih
    refine v73_5 ?_
    rw [a1, e206]
    exact ⟨by omega, fun z => absurd z (by omega), fun _ => ⟨a2, ⟨by omega, fun _ => trivial, fun _ => trivial⟩, ih⟩⟩
theorem mee_4 {x y : Int} : meeZ G x y = bZ (covW G x y 0) + bZ (covW G x y 1) + bZ (covW G x y 2) + bZ (covW G x y 3) := by
  unfold meeZ
  rw [show (4 : Int) = 0 + 1 + 1 + 1 + 1 from rfl, sumZ_succ (by decide), sumZ_succ (by decide), sumZ_succ (by decide), sumZ_succ (by decide), sumZ_0, Int.zero_add]
  rfl
theorem r239 {x y : Int} (hI : PicOK P) (hR : RefOK P N) (hcv : ∀ e, 0 ≤ e → e < 162 → N 67 e = covC P.toGeo (toC e)) (hp : isPt P.toGeo x y) : G239 N x y = meeZ P.toGeo x y ∧ Q239 N x y := by
  have h8 := hI.geo.w
  have h9 := hI.geo.h
  have hp' := hp
  unfold isPt at hp'
  obtain ⟨a1, a2, a3⟩ := r238 hI hR hcv (x := x) (y := y) (s := 0) (by omega) (by omega) (Or.inl rfl)
  obtain ⟨b1, b2, b3⟩ := r238 hI hR hcv (x := x - 1) (y := y) (s := 0) (by omega) (by omega) (Or.inl rfl)
  obtain ⟨c1, c2, c3⟩ := r238 hI hR hcv (x := x) (y := y) (s := 1) (by omega) (by omega) (Or.inr rfl)
  obtain ⟨d1, d2, d3⟩ := r238 hI hR hcv (x := x) (y := y - 1) (s := 1) (by omega) (by omega) (Or.inr rfl)
  have w0 : covW P.toGeo x y 0 ↔ ¬ G238 N x y 0 ≤ 0 := by
    rw [a3, show 89 * 0 + 10 * y + x = 10 * y + x by omega]
    constructor
    · rintro (z | z | z | z)
      · exact fun k => k z.2
      all_goals exact absurd z.1 (by decide)
    · intro z
      exact Or.inl ⟨rfl, Classical.not_not.mp z⟩
  have w2 : covW P.toGeo x y 2 ↔ ¬ G238 N (x - 1) y 0 ≤ 0 := by
    rw [b3, show 89 * 0 + 10 * y + (x - 1) = 10 * y + (x - 1) by omega]
    constructor
    · rintro (z | z | z | z)
      · exact absurd z.1 (by decide)
      · exact absurd z.1 (by decide)
      · exact fun k => k z.2
      · exact absurd z.1 (by decide)
    · intro z
      exact Or.inr (Or.inr (Or.inl ⟨rfl, Classical.not_not.mp z⟩))
  have w1 : covW P.toGeo x y 1 ↔ ¬ G238 N x y 1 ≤ 0 := by
    rw [c3, show 89 * 1 + 10 * y + x = 89 + 10 * y + x by omega]
    constructor
    · rintro (z | z | z | z)
      · exact absurd z.1 (by decide)
      · exact fun k => k z.2
      · exact absurd z.1 (by decide)
      · exact absurd z.1 (by decide)
    · intro z
      exact Or.inr (Or.inl ⟨rfl, Classical.not_not.mp z⟩)
  have w3 : covW P.toGeo x y 3 ↔ ¬ G238 N x (y - 1) 1 ≤ 0 := by
    rw [d3, show 89 * 1 + 10 * (y - 1) + x = 89 + 10 * (y - 1) + x by omega]
    constructor
    · rintro (z | z | z | z)
      · exact absurd z.1 (by decide)
      · exact absurd z.1 (by decide)
      · exact absurd z.1 (by decide)
      · exact fun k => k z.2
    · intro z
      exact Or.inr (Or.inr (Or.inr ⟨rfl, Classical.not_not.mp z⟩))
  rw [mee_4, bZ_congr w0, bZ_congr w1, bZ_congr w2, bZ_congr w3, ← bZ_ite, ← bZ_ite, ← bZ_ite, ← bZ_ite]
  unfold G239 Q239
  refine ⟨?_, ?_⟩
  · (repeat' split) <;> omega
  · repeat' (first | exact a1 | exact b1 | exact c1 | exact d1 | omega | exact True.intro | apply And.intro | intro _)
end MEF
