/-! Arrays.fill, at each row (wip/gen/fills.py) -/
section FIZ
variable {E : gw_N} {N : NM}
def fiF (f : Int → Int) (x n : Int) : Int → Int := fun k => if 0 ≤ k ∧ k < n then x else f k
theorem fiF_in {f : Int → Int} {x n k : Int} (h : 0 ≤ k ∧ k < n) : fiF f x n k = x := if_pos h
theorem fiF_0 {f : Int → Int} {x : Int} : fiF f x 0 = f := by
  funext k
  exact if_neg (by omega)
theorem fiF_s {f : Int → Int} {x n : Int} (hn : 0 ≤ n) : updZ (fiF f x n) n x = fiF f x (n + 1) := by
  funext k
  unfold updZ fiF
  by_cases q : k = n
  · rw [if_pos q, if_pos (by omega)]
  · rw [if_neg q]
    by_cases q2 : 0 ≤ k ∧ k < n
    · rw [if_pos q2, if_pos (by omega)]
    · rw [if_neg q2, if_neg (by omega)]
theorem fi23 {x : Int} : Rn 313 [.ref 23, .int (J x)] (hs E (jm N)) none (hs E (jm (upZ N 23 (fiF (N 23) x 178)))) := by
  refine c313a23 (v313a23_0 ?_)
  have h0 := loopZ (a := 0) (n := 178) (Q := fun k => Ev 1 313 5 [some (.ref 23), some (.int (J x)), some (.int (J k)), some (.int (J 178))] [] (hs E (jm (upZ N 23 (fiF (N 23) x k)))) (none, hs E (jm (upZ N 23 (fiF (N 23) x 178))))) (by decide) ?_ ?_
  · rw [fiF_0, upZ_id] at h0
    exact h0
  · exact v313a23_5 ⟨by decide, by decide, fun _ => rfl, fun z => absurd (Int.le_refl _) z⟩
  · intro k k1 k2 ih
    refine v313a23_5 ⟨by decide, by omega, fun z => absurd z (by omega), fun _ => ⟨⟨k1, k2⟩, ?_⟩⟩
    rw [upZ_s, upZ_up, fiF_s k1]
    exact ih
theorem fi24 {x : Int} : Rn 313 [.ref 24, .int (J x)] (hs E (jm N)) none (hs E (jm (upZ N 24 (fiF (N 24) x 178)))) := by
  refine c313a24 (v313a24_0 ?_)
  have h0 := loopZ (a := 0) (n := 178) (Q := fun k => Ev 1 313 5 [some (.ref 24), some (.int (J x)), some (.int (J k)), some (.int (J 178))] [] (hs E (jm (upZ N 24 (fiF (N 24) x k)))) (none, hs E (jm (upZ N 24 (fiF (N 24) x 178))))) (by decide) ?_ ?_
  · rw [fiF_0, upZ_id] at h0
    exact h0
  · exact v313a24_5 ⟨by decide, by decide, fun _ => rfl, fun z => absurd (Int.le_refl _) z⟩
  · intro k k1 k2 ih
    refine v313a24_5 ⟨by decide, by omega, fun z => absurd z (by omega), fun _ => ⟨⟨k1, k2⟩, ?_⟩⟩
    rw [upZ_s, upZ_up, fiF_s k1]
    exact ih
theorem fi25 {x : Int} : Rn 313 [.ref 25, .int (J x)] (hs E (jm N)) none (hs E (jm (upZ N 25 (fiF (N 25) x 89)))) := by
  refine c313a25 (v313a25_0 ?_)
  have h0 := loopZ (a := 0) (n := 89) (Q := fun k => Ev 1 313 5 [some (.ref 25), some (.int (J x)), some (.int (J k)), some (.int (J 89))] [] (hs E (jm (upZ N 25 (fiF (N 25) x k)))) (none, hs E (jm (upZ N 25 (fiF (N 25) x 89))))) (by decide) ?_ ?_
  · rw [fiF_0, upZ_id] at h0
    exact h0
  · exact v313a25_5 ⟨by decide, by decide, fun _ => rfl, fun z => absurd (Int.le_refl _) z⟩
  · intro k k1 k2 ih
    refine v313a25_5 ⟨by decide, by omega, fun z => absurd z (by omega), fun _ => ⟨⟨k1, k2⟩, ?_⟩⟩
    rw [upZ_s, upZ_up, fiF_s k1]
    exact ih
theorem fi26 {x : Int} : Rn 313 [.ref 26, .int (J x)] (hs E (jm N)) none (hs E (jm (upZ N 26 (fiF (N 26) x 178)))) := by
  refine c313a26 (v313a26_0 ?_)
  have h0 := loopZ (a := 0) (n := 178) (Q := fun k => Ev 1 313 5 [some (.ref 26), some (.int (J x)), some (.int (J k)), some (.int (J 178))] [] (hs E (jm (upZ N 26 (fiF (N 26) x k)))) (none, hs E (jm (upZ N 26 (fiF (N 26) x 178))))) (by decide) ?_ ?_
  · rw [fiF_0, upZ_id] at h0
    exact h0
  · exact v313a26_5 ⟨by decide, by decide, fun _ => rfl, fun z => absurd (Int.le_refl _) z⟩
  · intro k k1 k2 ih
    refine v313a26_5 ⟨by decide, by omega, fun z => absurd z (by omega), fun _ => ⟨⟨k1, k2⟩, ?_⟩⟩
    rw [upZ_s, upZ_up, fiF_s k1]
    exact ih
theorem fi27 {x : Int} : Rn 313 [.ref 27, .int (J x)] (hs E (jm N)) none (hs E (jm (upZ N 27 (fiF (N 27) x 89)))) := by
  refine c313a27 (v313a27_0 ?_)
  have h0 := loopZ (a := 0) (n := 89) (Q := fun k => Ev 1 313 5 [some (.ref 27), some (.int (J x)), some (.int (J k)), some (.int (J 89))] [] (hs E (jm (upZ N 27 (fiF (N 27) x k)))) (none, hs E (jm (upZ N 27 (fiF (N 27) x 89))))) (by decide) ?_ ?_
  · rw [fiF_0, upZ_id] at h0
    exact h0
  · exact v313a27_5 ⟨by decide, by decide, fun _ => rfl, fun z => absurd (Int.le_refl _) z⟩
  · intro k k1 k2 ih
    refine v313a27_5 ⟨by decide, by omega, fun z => absurd z (by omega), fun _ => ⟨⟨k1, k2⟩, ?_⟩⟩
    rw [upZ_s, upZ_up, fiF_s k1]
    exact ih
theorem fi28 {x : Int} : Rn 313 [.ref 28, .int (J x)] (hs E (jm N)) none (hs E (jm (upZ N 28 (fiF (N 28) x 30)))) := by
  refine c313a28 (v313a28_0 ?_)
  have h0 := loopZ (a := 0) (n := 30) (Q := fun k => Ev 1 313 5 [some (.ref 28), some (.int (J x)), some (.int (J k)), some (.int (J 30))] [] (hs E (jm (upZ N 28 (fiF (N 28) x k)))) (none, hs E (jm (upZ N 28 (fiF (N 28) x 30))))) (by decide) ?_ ?_
  · rw [fiF_0, upZ_id] at h0
    exact h0
  · exact v313a28_5 ⟨by decide, by decide, fun _ => rfl, fun z => absurd (Int.le_refl _) z⟩
  · intro k k1 k2 ih
    refine v313a28_5 ⟨by decide, by omega, fun z => absurd z (by omega), fun _ => ⟨⟨k1, k2⟩, ?_⟩⟩
    rw [upZ_s, upZ_up, fiF_s k1]
    exact ih
theorem fi29 {x : Int} : Rn 313 [.ref 29, .int (J x)] (hs E (jm N)) none (hs E (jm (upZ N 29 (fiF (N 29) x 89)))) := by
  refine c313a29 (v313a29_0 ?_)
  have h0 := loopZ (a := 0) (n := 89) (Q := fun k => Ev 1 313 5 [some (.ref 29), some (.int (J x)), some (.int (J k)), some (.int (J 89))] [] (hs E (jm (upZ N 29 (fiF (N 29) x k)))) (none, hs E (jm (upZ N 29 (fiF (N 29) x 89))))) (by decide) ?_ ?_
  · rw [fiF_0, upZ_id] at h0
    exact h0
  · exact v313a29_5 ⟨by decide, by decide, fun _ => rfl, fun z => absurd (Int.le_refl _) z⟩
  · intro k k1 k2 ih
    refine v313a29_5 ⟨by decide, by omega, fun z => absurd z (by omega), fun _ => ⟨⟨k1, k2⟩, ?_⟩⟩
    rw [upZ_s, upZ_up, fiF_s k1]
    exact ih
theorem fi30 {x : Int} : Rn 313 [.ref 30, .int (J x)] (hs E (jm N)) none (hs E (jm (upZ N 30 (fiF (N 30) x 89)))) := by
  refine c313a30 (v313a30_0 ?_)
  have h0 := loopZ (a := 0) (n := 89) (Q := fun k => Ev 1 313 5 [some (.ref 30), some (.int (J x)), some (.int (J k)), some (.int (J 89))] [] (hs E (jm (upZ N 30 (fiF (N 30) x k)))) (none, hs E (jm (upZ N 30 (fiF (N 30) x 89))))) (by decide) ?_ ?_
  · rw [fiF_0, upZ_id] at h0
    exact h0
  · exact v313a30_5 ⟨by decide, by decide, fun _ => rfl, fun z => absurd (Int.le_refl _) z⟩
  · intro k k1 k2 ih
    refine v313a30_5 ⟨by decide, by omega, fun z => absurd z (by omega), fun _ => ⟨⟨k1, k2⟩, ?_⟩⟩
    rw [upZ_s, upZ_up, fiF_s k1]
    exact ih
theorem fi33 {x : Int} : Rn 313 [.ref 33, .int (J x)] (hs E (jm N)) none (hs E (jm (upZ N 33 (fiF (N 33) x 64)))) := by
  refine c313a33 (v313a33_0 ?_)
  have h0 := loopZ (a := 0) (n := 64) (Q := fun k => Ev 1 313 5 [some (.ref 33), some (.int (J x)), some (.int (J k)), some (.int (J 64))] [] (hs E (jm (upZ N 33 (fiF (N 33) x k)))) (none, hs E (jm (upZ N 33 (fiF (N 33) x 64))))) (by decide) ?_ ?_
  · rw [fiF_0, upZ_id] at h0
    exact h0
  · exact v313a33_5 ⟨by decide, by decide, fun _ => rfl, fun z => absurd (Int.le_refl _) z⟩
  · intro k k1 k2 ih
    refine v313a33_5 ⟨by decide, by omega, fun z => absurd z (by omega), fun _ => ⟨⟨k1, k2⟩, ?_⟩⟩
    rw [upZ_s, upZ_up, fiF_s k1]
    exact ih
theorem fi38 {x : Int} : Rn 313 [.ref 38, .int (J x)] (hs E (jm N)) none (hs E (jm (upZ N 38 (fiF (N 38) x 10)))) := by
  refine c313a38 (v313a38_0 ?_)
  have h0 := loopZ (a := 0) (n := 10) (Q := fun k => Ev 1 313 5 [some (.ref 38), some (.int (J x)), some (.int (J k)), some (.int (J 10))] [] (hs E (jm (upZ N 38 (fiF (N 38) x k)))) (none, hs E (jm (upZ N 38 (fiF (N 38) x 10))))) (by decide) ?_ ?_
  · rw [fiF_0, upZ_id] at h0
    exact h0
  · exact v313a38_5 ⟨by decide, by decide, fun _ => rfl, fun z => absurd (Int.le_refl _) z⟩
  · intro k k1 k2 ih
    refine v313a38_5 ⟨by decide, by omega, fun z => absurd z (by omega), fun _ => ⟨⟨k1, k2⟩, ?_⟩⟩
    rw [upZ_s, upZ_up, fiF_s k1]
    exact ih
theorem fi45 {x : Int} : Rn 313 [.ref 45, .int (J x)] (hs E (jm N)) none (hs E (jm (upZ N 45 (fiF (N 45) x 64)))) := by
  refine c313a45 (v313a45_0 ?_)
  have h0 := loopZ (a := 0) (n := 64) (Q := fun k => Ev 1 313 5 [some (.ref 45), some (.int (J x)), some (.int (J k)), some (.int (J 64))] [] (hs E (jm (upZ N 45 (fiF (N 45) x k)))) (none, hs E (jm (upZ N 45 (fiF (N 45) x 64))))) (by decide) ?_ ?_
  · rw [fiF_0, upZ_id] at h0
    exact h0
  · exact v313a45_5 ⟨by decide, by decide, fun _ => rfl, fun z => absurd (Int.le_refl _) z⟩
  · intro k k1 k2 ih
    refine v313a45_5 ⟨by decide, by omega, fun z => absurd z (by omega), fun _ => ⟨⟨k1, k2⟩, ?_⟩⟩
    rw [upZ_s, upZ_up, fiF_s k1]
    exact ih
theorem fi58 {x : Int} : Rn 313 [.ref 58, .int (J x)] (hs E (jm N)) none (hs E (jm (upZ N 58 (fiF (N 58) x 256)))) := by
  refine c313a58 (v313a58_0 ?_)
  have h0 := loopZ (a := 0) (n := 256) (Q := fun k => Ev 1 313 5 [some (.ref 58), some (.int (J x)), some (.int (J k)), some (.int (J 256))] [] (hs E (jm (upZ N 58 (fiF (N 58) x k)))) (none, hs E (jm (upZ N 58 (fiF (N 58) x 256))))) (by decide) ?_ ?_
  · rw [fiF_0, upZ_id] at h0
    exact h0
  · exact v313a58_5 ⟨by decide, by decide, fun _ => rfl, fun z => absurd (Int.le_refl _) z⟩
  · intro k k1 k2 ih
    refine v313a58_5 ⟨by decide, by omega, fun z => absurd z (by omega), fun _ => ⟨⟨k1, k2⟩, ?_⟩⟩
    rw [upZ_s, upZ_up, fiF_s k1]
    exact ih
end FIZ
