/-! the plain calls: blank, back, rod, rule -/
theorem op_blank {E : gw_N} {N : NM} {P : Pic} (hI : GInv P N) : Both E N 163 213 [] := by
  refine both (r := .int (J P.toPag.pm)) (P' := P.setPag (Pag.mk 0 P.toPag.pg)) hI (PicOK.mk hI.ok.geo (PagR.mk ⟨Int.le_refl _, (by decide : (0 : Int) ≤ 40)⟩ (fun i h1 h2 => absurd h2 (by show ¬ i < 0; omega))) hI.ok.pal hI.ok.gla hI.ok.ten hI.ok.rod) ?_ ?_
  · refine ⟨upZ N 12 (updZ (N 12) 1 0), c163 (v163_0 ⟨_, _, c79 (v79_0 rfl), ?_⟩), ?_, ?_⟩
    · rw [hI.cls.page.pm]
    · (refine ClsOK.mk ?_ ?_ ?_ ?_ ?_ ?_ ?_ ?_ ?_ <;> first | exact (hI.cls).grid.fr rfl rfl rfl | exact (hI.cls).page.fr rfl rfl | exact (hI.cls).wires.fr rfl rfl rfl rfl rfl rfl rfl rfl | exact (hI.cls).net.fr rfl rfl rfl rfl | exact (hI.cls).cells.fr rfl rfl rfl | exact (hI.cls).pal.fr rfl rfl rfl | exact (hI.cls).glass.fr rfl rfl rfl rfl rfl | exact (hI.cls).ten.fr rfl | exact (hI.cls).rods.fr rfl rfl rfl | skip)
      exact PageOK.mk rfl (fun i h1 h2 => absurd h2 (by show ¬ i < 0; omega))
    · (intro a ha; repeat rw [upZ_n (by omega)])
  · intro N h
    refine ⟨upZ N 59 (updZ (N 59) 3 0), c213 (v213_0 ?_), ?_, ?_⟩
    · rw [h.pm]
    · (refine RefOK.mk ?_ ?_ ?_ ?_ ?_ ?_ ?_ ?_ ?_ ?_ ?_ ?_ ?_ ?_ ?_ ?_ ?_ ?_ ?_ ?_ ?_ ?_ ?_ ?_ ?_ ?_ ?_ <;> simp [Pic.setGeo, Pic.setPag, Pic.setPal, Pic.setGla, Pic.setTen, Pic.setRod, Pic.mk, Pic.toGeo, Pic.toPag, Pic.toPal, Pic.toGla, Pic.toTen, Pic.toRod, Geo.mk, Geo.w, Geo.h, Geo.ws, Geo.px, Geo.py, Geo.mv, Geo.laid, Geo.sold, Pag.mk, Pag.pm, Pag.pg, Pal.mk, Pal.wall, Pal.stiff, Pal.bear, Pal.heat, Pal.shr, Pal.pul, Pal.foe, Gla.mk, Gla.fires, Gla.lay, Gla.col, Gla.thk, Gla.sta, Ten.mk, Ten.bc, Ten.bt, Rod.mk, Rod.rods, Rod.rl, Rod.rm, upZ, updZ, (h).w, (h).h, (h).pm, (h).ws, (h).wall, (h).stiff, (h).bear, (h).fires, (h).bc, (h).bt, (h).rods, (h).pg, (h).px, (h).py, (h).mv, (h).laid, (h).sold, (h).heat, (h).shr, (h).pul, (h).foe, (h).lay, (h).col, (h).thk, (h).sta, (h).rl, (h).rm])
    · (intro a ha; repeat rw [upZ_n (by omega)])
theorem op_back {E : gw_N} {N : NM} {P : Pic} {x1 x2 : Int} (hI : GInv P N) (h1 : R x1) (h2 : R x2) : Both E N 190 284 [.int (J x1), .int (J x2)] := by
  by_cases hc : 0 ≤ x1 ∧ x1 < 8
  · by_cases ht : 0 ≤ x2 ∧ x2 ≤ 99
    · refine both (r := .int (J 1)) (P' := P.setTen (Ten.mk x1 x2)) hI (PicOK.mk hI.ok.geo hI.ok.pag hI.ok.pal hI.ok.gla (TenR.mk hc ht) hI.ok.rod) ?_ ?_
      · refine ⟨upZ N 53 (updZ (updZ (N 53) 3 x1) 4 x2), c190 (v190_0 ?_), ?_, ?_⟩
        · simp only [G94]
          (repeat' (first | omega | exact True.intro | exact absurd True.intro ‹¬ True› | apply And.intro | intro _))
          exact ⟨_, c129 (v129_0 rfl), rfl⟩
        · (refine ClsOK.mk ?_ ?_ ?_ ?_ ?_ ?_ ?_ ?_ ?_ <;> first | exact (hI.cls).grid.fr rfl rfl rfl | exact (hI.cls).page.fr rfl rfl | exact (hI.cls).wires.fr rfl rfl rfl rfl rfl rfl rfl rfl | exact (hI.cls).net.fr rfl rfl rfl rfl | exact (hI.cls).cells.fr rfl rfl rfl | exact (hI.cls).pal.fr rfl rfl rfl | exact (hI.cls).glass.fr rfl rfl rfl rfl rfl | exact (hI.cls).ten.fr rfl | exact (hI.cls).rods.fr rfl rfl rfl | skip)
          exact TenOK.mk rfl rfl
        · (intro a ha; repeat rw [upZ_n (by omega)])
      · intro N h
        refine ⟨upZ N 59 (updZ (updZ (N 59) 34 x1) 35 x2), c284 (v284_0 ?_), ?_, ?_⟩
        · simp only [G261]
          ((repeat' (first | omega | exact True.intro | exact absurd True.intro ‹¬ True› | apply And.intro | intro _)) <;> rfl)
        · (refine RefOK.mk ?_ ?_ ?_ ?_ ?_ ?_ ?_ ?_ ?_ ?_ ?_ ?_ ?_ ?_ ?_ ?_ ?_ ?_ ?_ ?_ ?_ ?_ ?_ ?_ ?_ ?_ ?_ <;> simp [Pic.setGeo, Pic.setPag, Pic.setPal, Pic.setGla, Pic.setTen, Pic.setRod, Pic.mk, Pic.toGeo, Pic.toPag, Pic.toPal, Pic.toGla, Pic.toTen, Pic.toRod, Geo.mk, Geo.w, Geo.h, Geo.ws, Geo.px, Geo.py, Geo.mv, Geo.laid, Geo.sold, Pag.mk, Pag.pm, Pag.pg, Pal.mk, Pal.wall, Pal.stiff, Pal.bear, Pal.heat, Pal.shr, Pal.pul, Pal.foe, Gla.mk, Gla.fires, Gla.lay, Gla.col, Gla.thk, Gla.sta, Ten.mk, Ten.bc, Ten.bt, Rod.mk, Rod.rods, Rod.rl, Rod.rm, upZ, updZ, (h).w, (h).h, (h).pm, (h).ws, (h).wall, (h).stiff, (h).bear, (h).fires, (h).bc, (h).bt, (h).rods, (h).pg, (h).px, (h).py, (h).mv, (h).laid, (h).sold, (h).heat, (h).shr, (h).pul, (h).foe, (h).lay, (h).col, (h).thk, (h).sta, (h).rl, (h).rm])
        · (intro a ha; repeat rw [upZ_n (by omega)])
    · refine both_same (r := .int (J (-102))) hI (c190 (v190_0 ?_)) (c284 (v284_0 ?_)) <;> simp only [G94, G261] <;> ((repeat' (first | omega | exact True.intro | exact absurd True.intro ‹¬ True› | apply And.intro | intro _)) <;> rfl)
  · refine both_same (r := .int (J (-101))) hI (c190 (v190_0 ?_)) (c284 (v284_0 ?_)) <;> simp only [G94, G261] <;> ((repeat' (first | omega | exact True.intro | exact absurd True.intro ‹¬ True› | apply And.intro | intro _)) <;> rfl)
theorem op_rod {E : gw_N} {N : NM} {P : Pic} {x1 x2 : Int} (hI : GInv P N) (h1 : R x1) (h2 : R x2) : Both E N 199 301 [.int (J x1), .int (J x2)] := by
  have hk := hI.ok.rod.rods
  have e1 := hI.cls.rods.rods
  have e2 := hI.ref.rods
  by_cases hc : (1 ≤ x1 ∧ x1 ≤ 99) ∧ 0 ≤ x2 ∧ x2 ≤ 20
  · by_cases hr : P.toRod.rods < 8
    · refine both (r := .int (J P.toRod.rods)) (P' := P.setRod (Rod.mk (P.toRod.rods + 1) (updZ P.toRod.rl P.toRod.rods x1) (updZ P.toRod.rm P.toRod.rods x2))) hI (PicOK.mk hI.ok.geo hI.ok.pag hI.ok.pal hI.ok.gla hI.ok.ten (RodR.mk ?_ ?_ ?_)) ?_ ?_
      · show 0 ≤ P.toRod.rods + 1 ∧ P.toRod.rods + 1 ≤ 8
        omega
      · intro k k1 k2
        replace k2 : k < P.toRod.rods + 1 := k2
        show 1 ≤ updZ P.toRod.rl P.toRod.rods x1 k ∧ updZ P.toRod.rl P.toRod.rods x1 k ≤ 99
        unfold updZ
        split
        · omega
        · exact hI.ok.rod.rl k k1 (by omega)
      · intro k k1 k2
        replace k2 : k < P.toRod.rods + 1 := k2
        show 0 ≤ updZ P.toRod.rm P.toRod.rods x2 k ∧ updZ P.toRod.rm P.toRod.rods x2 k ≤ 20
        unfold updZ
        split
        · omega
        · exact hI.ok.rod.rm k k1 (by omega)
      · refine ⟨_, c199 (v199_0 ⟨P.toRod.rods, upZ (upZ (upZ N 55 (updZ (N 55) ((N 54) 4) x1)) 56 (updZ (N 56) ((N 54) 4) x2)) 54 (updZ (N 54) 4 (((N 54) 4) + 1)), c120 (v120_0 ?_), rfl⟩), ?_, ?_⟩
        · (repeat' (first | omega | exact True.intro | exact absurd True.intro ‹¬ True› | apply And.intro | intro _))
          simp [updZ, e1]
        · (refine ClsOK.mk ?_ ?_ ?_ ?_ ?_ ?_ ?_ ?_ ?_ <;> first | exact (hI.cls).grid.fr rfl rfl rfl | exact (hI.cls).page.fr rfl rfl | exact (hI.cls).wires.fr rfl rfl rfl rfl rfl rfl rfl rfl | exact (hI.cls).net.fr rfl rfl rfl rfl | exact (hI.cls).cells.fr rfl rfl rfl | exact (hI.cls).pal.fr rfl rfl rfl | exact (hI.cls).glass.fr rfl rfl rfl rfl rfl | exact (hI.cls).ten.fr rfl | exact (hI.cls).rods.fr rfl rfl rfl | skip)
          refine RodsOK.mk ?_ ?_ ?_
          · show updZ (N 54) 4 (((N 54) 4) + 1) 4 = P.toRod.rods + 1
            rw [updZ_s, e1]
          · intro k k1 k2
            replace k2 : k < P.toRod.rods + 1 := k2
            show updZ (N 55) ((N 54) 4) x1 k = updZ P.toRod.rl P.toRod.rods x1 k
            rw [e1]
            unfold updZ
            split
            · rfl
            · exact hI.cls.rods.rl k k1 (by omega)
          · intro k k1 k2
            replace k2 : k < P.toRod.rods + 1 := k2
            show updZ (N 56) ((N 54) 4) x2 k = updZ P.toRod.rm P.toRod.rods x2 k
            rw [e1]
            unfold updZ
            split
            · rfl
            · exact hI.cls.rods.rm k k1 (by omega)
        · (intro a ha; repeat rw [upZ_n (by omega)])
      · intro N h
        have e2 := h.rods
        refine ⟨upZ (upZ (upZ N 84 (updZ (N 84) ((N 59) 36) x1)) 85 (updZ (N 85) ((N 59) 36) x2)) 59 (updZ (N 59) 36 (((N 59) 36) + 1)), c301 (v301_0 ?_), ?_, ?_⟩
        · (repeat' (first | omega | exact True.intro | exact absurd True.intro ‹¬ True› | apply And.intro | intro _))
          simp [updZ, e2]
        · (refine RefOK.mk ?_ ?_ ?_ ?_ ?_ ?_ ?_ ?_ ?_ ?_ ?_ ?_ ?_ ?_ ?_ ?_ ?_ ?_ ?_ ?_ ?_ ?_ ?_ ?_ ?_ ?_ ?_ <;> simp [Pic.setGeo, Pic.setPag, Pic.setPal, Pic.setGla, Pic.setTen, Pic.setRod, Pic.mk, Pic.toGeo, Pic.toPag, Pic.toPal, Pic.toGla, Pic.toTen, Pic.toRod, Geo.mk, Geo.w, Geo.h, Geo.ws, Geo.px, Geo.py, Geo.mv, Geo.laid, Geo.sold, Pag.mk, Pag.pm, Pag.pg, Pal.mk, Pal.wall, Pal.stiff, Pal.bear, Pal.heat, Pal.shr, Pal.pul, Pal.foe, Gla.mk, Gla.fires, Gla.lay, Gla.col, Gla.thk, Gla.sta, Ten.mk, Ten.bc, Ten.bt, Rod.mk, Rod.rods, Rod.rl, Rod.rm, upZ, updZ, (h).w, (h).h, (h).pm, (h).ws, (h).wall, (h).stiff, (h).bear, (h).fires, (h).bc, (h).bt, (h).rods, (h).pg, (h).px, (h).py, (h).mv, (h).laid, (h).sold, (h).heat, (h).shr, (h).pul, (h).foe, (h).lay, (h).col, (h).thk, (h).sta, (h).rl, (h).rm])
        · (intro a ha; repeat rw [upZ_n (by omega)])
    · refine both_same (r := .int (J (-104))) hI (c199 (v199_0 ⟨_, _, c120 (v120_0 ?_), rfl⟩)) (c301 (v301_0 ?_)) <;> ((repeat' (first | omega | exact True.intro | exact absurd True.intro ‹¬ True› | apply And.intro | intro _)) <;> rfl)
  · refine both_same (r := .int (J (-102))) hI (c199 (v199_0 ⟨_, _, c120 (v120_0 ?_), rfl⟩)) (c301 (v301_0 ?_)) <;> ((repeat' (first | omega | exact True.intro | exact absurd True.intro ‹¬ True› | apply And.intro | intro _)) <;> rfl)
