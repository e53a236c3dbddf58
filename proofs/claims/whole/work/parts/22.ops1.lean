/-! the plain calls: blank, back, rod, rule -/
theorem op_blank {E : gw_N} {N : NM} {P : Pic} (hI : GInv P N) : Both E N 163 213 [] := by
  refine both (r := .int (J P.pm)) (P' := {P with pm := 0}) hI {hI.ok with pag := ⟨⟨Int.le_refl _, (by decide : (0 : Int) ≤ 40)⟩, fun i h1 h2 => absurd h2 (by show ¬ i < 0; omega)⟩} ?_ ?_
  · refine ⟨upZ N 12 (updZ (N 12) 1 0), c163 (v163_0 ⟨_, _, c79 (v79_0 rfl), ?_⟩), ?_, ?_⟩
    · rw [hI.cls.page.pm]
    · clsfr hI.cls
      exact ⟨rfl, fun i h1 h2 => absurd h2 (by show ¬ i < 0; omega)⟩
    · upn
  · intro N h
    refine ⟨upZ N 59 (updZ (N 59) 3 0), c213 (v213_0 ?_), ?_, ?_⟩
    · rw [h.pm]
    · reffr h
    · upn
theorem op_back {E : gw_N} {N : NM} {P : Pic} {x1 x2 : Int} (hI : GInv P N) (h1 : R x1) (h2 : R x2) : Both E N 190 284 [.int (J x1), .int (J x2)] := by
  by_cases hc : 0 ≤ x1 ∧ x1 < 8
  · by_cases ht : 0 ≤ x2 ∧ x2 ≤ 99
    · refine both (r := .int (J 1)) (P' := {P with bc := x1, bt := x2}) hI {hI.ok with ten := ⟨hc, ht⟩} ?_ ?_
      · refine ⟨upZ N 53 (updZ (updZ (N 53) 3 x1) 4 x2), c190 (v190_0 ?_), ?_, ?_⟩
        · simp only [G94]
          zgo
          exact ⟨_, c129 (v129_0 rfl), rfl⟩
        · clsfr hI.cls
          exact ⟨rfl, rfl⟩
        · upn
      · intro N h
        refine ⟨upZ N 59 (updZ (updZ (N 59) 34 x1) 35 x2), c284 (v284_0 ?_), ?_, ?_⟩
        · simp only [G261]
          zgr
        · reffr h
        · upn
    · refine both_same (r := .int (J (-102))) hI (c190 (v190_0 ?_)) (c284 (v284_0 ?_)) <;> simp only [G94, G261] <;> zgr
  · refine both_same (r := .int (J (-101))) hI (c190 (v190_0 ?_)) (c284 (v284_0 ?_)) <;> simp only [G94, G261] <;> zgr
theorem op_rod {E : gw_N} {N : NM} {P : Pic} {x1 x2 : Int} (hI : GInv P N) (h1 : R x1) (h2 : R x2) : Both E N 199 301 [.int (J x1), .int (J x2)] := by
  have hk := hI.ok.rod.rods
  have e1 := hI.cls.rods.rods
  have e2 := hI.ref.rods
  by_cases hc : (1 ≤ x1 ∧ x1 ≤ 99) ∧ 0 ≤ x2 ∧ x2 ≤ 20
  · by_cases hr : P.rods < 8
    · refine both (r := .int (J P.rods)) (P' := {P with rods := P.rods + 1, rl := updZ P.rl P.rods x1, rm := updZ P.rm P.rods x2}) hI {hI.ok with rod := ⟨?_, ?_, ?_⟩} ?_ ?_
      · show 0 ≤ P.rods + 1 ∧ P.rods + 1 ≤ 8
        omega
      · intro k k1 k2
        replace k2 : k < P.rods + 1 := k2
        show 1 ≤ updZ P.rl P.rods x1 k ∧ updZ P.rl P.rods x1 k ≤ 99
        unfold updZ
        split
        · omega
        · exact hI.ok.rod.rl k k1 (by omega)
      · intro k k1 k2
        replace k2 : k < P.rods + 1 := k2
        show 0 ≤ updZ P.rm P.rods x2 k ∧ updZ P.rm P.rods x2 k ≤ 20
        unfold updZ
        split
        · omega
        · exact hI.ok.rod.rm k k1 (by omega)
      · refine ⟨_, c199 (v199_0 ⟨P.rods, upZ (upZ (upZ N 55 (updZ (N 55) ((N 54) 4) x1)) 56 (updZ (N 56) ((N 54) 4) x2)) 54 (updZ (N 54) 4 (((N 54) 4) + 1)), c120 (v120_0 ?_), rfl⟩), ?_, ?_⟩
        · zgo
          simp [updZ, e1]
        · clsfr hI.cls
          refine ⟨?_, ?_, ?_⟩
          · show updZ (N 54) 4 (((N 54) 4) + 1) 4 = P.rods + 1
            rw [updZ_s, e1]
          · intro k k1 k2
            replace k2 : k < P.rods + 1 := k2
            show updZ (N 55) ((N 54) 4) x1 k = updZ P.rl P.rods x1 k
            rw [e1]
            unfold updZ
            split
            · rfl
            · exact hI.cls.rods.rl k k1 (by omega)
          · intro k k1 k2
            replace k2 : k < P.rods + 1 := k2
            show updZ (N 56) ((N 54) 4) x2 k = updZ P.rm P.rods x2 k
            rw [e1]
            unfold updZ
            split
            · rfl
            · exact hI.cls.rods.rm k k1 (by omega)
        · upn
      · intro N h
        have e2 := h.rods
        refine ⟨upZ (upZ (upZ N 84 (updZ (N 84) ((N 59) 36) x1)) 85 (updZ (N 85) ((N 59) 36) x2)) 59 (updZ (N 59) 36 (((N 59) 36) + 1)), c301 (v301_0 ?_), ?_, ?_⟩
        · zgo
          simp [updZ, e2]
        · reffr h
        · upn
    · refine both_same (r := .int (J (-104))) hI (c199 (v199_0 ⟨_, _, c120 (v120_0 ?_), rfl⟩)) (c301 (v301_0 ?_)) <;> zgr
  · refine both_same (r := .int (J (-102))) hI (c199 (v199_0 ⟨_, _, c120 (v120_0 ?_), rfl⟩)) (c301 (v301_0 ?_)) <;> zgr
