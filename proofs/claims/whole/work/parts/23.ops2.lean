/-! rule, colour, foes -/
theorem rz4_0 {E : gw_N} : rz E 4 0 = 99 := (by decide : (99 : Int32).toInt = 99)
theorem rz4_1 {E : gw_N} : rz E 4 1 = 99 := (by decide : (99 : Int32).toInt = 99)
theorem rz4_2 {E : gw_N} : rz E 4 2 = 999 := (by decide : (999 : Int32).toInt = 999)
theorem rz1_0 {E : gw_N} : rz E 1 0 = 1 := (by decide : (1 : Int32).toInt = 1)
theorem rz1_1 {E : gw_N} : rz E 1 1 = 0 := (by decide : (0 : Int32).toInt = 0)
theorem rz1_2 {E : gw_N} : rz E 1 2 = 0 := (by decide : (0 : Int32).toInt = 0)
theorem rz2_0 {E : gw_N} : rz E 2 0 = 900 := (by decide : (900 : Int32).toInt = 900)
theorem rz2_1 {E : gw_N} : rz E 2 1 = 9 := (by decide : (9 : Int32).toInt = 9)
theorem rz2_2 {E : gw_N} : rz E 2 2 = 99 := (by decide : (99 : Int32).toInt = 99)
theorem rz3_0 {E : gw_N} : rz E 3 0 = 700 := (by decide : (700 : Int32).toInt = 700)
theorem rz3_1 {E : gw_N} : rz E 3 1 = 3 := (by decide : (3 : Int32).toInt = 3)
theorem rz3_2 {E : gw_N} : rz E 3 2 = 10 := (by decide : (10 : Int32).toInt = 10)
theorem G209_J {N : NM} {e0 e1 e2 : Int64} {x a b : Int} (h0 : e0 = Int32.toInt64 (J x)) (h1 : e1 = Int32.toInt64 (J a)) (h2 : e2 = Int32.toInt64 (J b)) (hx : R x) (ha : R a) (hb : R b) : G209 N e0 e1 e2 = if a ≤ x ∧ x ≤ b then (1 : Int) else 0 := by
  have h := in_J (M := jm N) h0 h1 h2 hx ha hb
  rw [t209] at h
  refine J_inj ?_ R_in h
  unfold G209
  split
  · decide
  · split <;> decide
theorem ll_900 : (900 : Int64) = Int32.toInt64 (J 900) := by decide +kernel
theorem ref_rule {E : gw_N} {N : NM} {P : Pic} {x1 x2 : Int} (hI : RefOK P N) (h1 : 0 ≤ x1 ∧ x1 < 3) (h2 : R x2) (hv : 1 ≤ x2 ∧ x2 ≤ (if x1 = 2 then 999 else 99)) :
    RefDoes E N 264 [.int (J x1), .int (J x2)] (.int (J (if x1 = 0 then P.toPal.wall else if x1 = 1 then P.toPal.stiff else P.toPal.bear)))
      (P.setPal (Pal.mk (if x1 = 0 then x2 else P.toPal.wall) (if x1 = 1 then x2 else P.toPal.stiff) (if x1 = 2 then x2 else P.toPal.bear) P.toPal.heat P.toPal.shr P.toPal.pul P.toPal.foe)) := by
  obtain h | h | h : x1 = 0 ∨ x1 = 1 ∨ x1 = 2 := by omega
  · subst h
    refine ⟨upZ N 59 (updZ (updZ (updZ (N 59) 22 x2) 23 (N 59 23)) 24 (N 59 24)), c264 (v264_0 ?_), ?_, ?_⟩
    · (repeat' (first | omega | exact True.intro | exact absurd True.intro ‹¬ True› | apply And.intro | intro _))
      refine v264_32 ?_
      rw [G209_J rfl ll_1 ll_99 h2 (by decide) (by decide)]
      (repeat' (first | omega | exact True.intro | exact absurd True.intro ‹¬ True› | apply And.intro | intro _))
      refine v264_68 ?_
      (repeat' (first | omega | exact True.intro | exact absurd True.intro ‹¬ True› | apply And.intro | intro _))
      refine v264_82 ?_
      (repeat' (first | omega | exact True.intro | exact absurd True.intro ‹¬ True› | apply And.intro | intro _))
      refine v264_99 ?_
      (repeat' (first | omega | exact True.intro | exact absurd True.intro ‹¬ True› | apply And.intro | intro _))
      refine v264_116 ?_
      simp [upZ_up, upZ_s, updZ, hI.wall]
    · (refine RefOK.mk ?_ ?_ ?_ ?_ ?_ ?_ ?_ ?_ ?_ ?_ ?_ ?_ ?_ ?_ ?_ ?_ ?_ ?_ ?_ ?_ ?_ ?_ ?_ ?_ ?_ ?_ ?_ <;> simp [Pic.setGeo, Pic.setPag, Pic.setPal, Pic.setGla, Pic.setTen, Pic.setRod, Pic.mk, Pic.toGeo, Pic.toPag, Pic.toPal, Pic.toGla, Pic.toTen, Pic.toRod, Geo.mk, Geo.w, Geo.h, Geo.ws, Geo.px, Geo.py, Geo.mv, Geo.laid, Geo.sold, Pag.mk, Pag.pm, Pag.pg, Pal.mk, Pal.wall, Pal.stiff, Pal.bear, Pal.heat, Pal.shr, Pal.pul, Pal.foe, Gla.mk, Gla.fires, Gla.lay, Gla.col, Gla.thk, Gla.sta, Ten.mk, Ten.bc, Ten.bt, Rod.mk, Rod.rods, Rod.rl, Rod.rm, upZ, updZ, (hI).w, (hI).h, (hI).pm, (hI).ws, (hI).wall, (hI).stiff, (hI).bear, (hI).fires, (hI).bc, (hI).bt, (hI).rods, (hI).pg, (hI).px, (hI).py, (hI).mv, (hI).laid, (hI).sold, (hI).heat, (hI).shr, (hI).pul, (hI).foe, (hI).lay, (hI).col, (hI).thk, (hI).sta, (hI).rl, (hI).rm])
    · (intro a ha; repeat rw [upZ_n (by omega)])
  · subst h
    refine ⟨upZ N 59 (updZ (updZ (updZ (N 59) 22 (N 59 22)) 23 x2) 24 (N 59 24)), c264 (v264_0 ?_), ?_, ?_⟩
    · (repeat' (first | omega | exact True.intro | exact absurd True.intro ‹¬ True› | apply And.intro | intro _))
      refine v264_32 ?_
      rw [G209_J rfl ll_1 ll_99 h2 (by decide) (by decide)]
      (repeat' (first | omega | exact True.intro | exact absurd True.intro ‹¬ True› | apply And.intro | intro _))
      refine v264_68 ?_
      (repeat' (first | omega | exact True.intro | exact absurd True.intro ‹¬ True› | apply And.intro | intro _))
      refine v264_82 ?_
      (repeat' (first | omega | exact True.intro | exact absurd True.intro ‹¬ True› | apply And.intro | intro _))
      refine v264_99 ?_
      (repeat' (first | omega | exact True.intro | exact absurd True.intro ‹¬ True› | apply And.intro | intro _))
      refine v264_116 ?_
      simp [upZ_up, upZ_s, updZ, hI.stiff]
    · (refine RefOK.mk ?_ ?_ ?_ ?_ ?_ ?_ ?_ ?_ ?_ ?_ ?_ ?_ ?_ ?_ ?_ ?_ ?_ ?_ ?_ ?_ ?_ ?_ ?_ ?_ ?_ ?_ ?_ <;> simp [Pic.setGeo, Pic.setPag, Pic.setPal, Pic.setGla, Pic.setTen, Pic.setRod, Pic.mk, Pic.toGeo, Pic.toPag, Pic.toPal, Pic.toGla, Pic.toTen, Pic.toRod, Geo.mk, Geo.w, Geo.h, Geo.ws, Geo.px, Geo.py, Geo.mv, Geo.laid, Geo.sold, Pag.mk, Pag.pm, Pag.pg, Pal.mk, Pal.wall, Pal.stiff, Pal.bear, Pal.heat, Pal.shr, Pal.pul, Pal.foe, Gla.mk, Gla.fires, Gla.lay, Gla.col, Gla.thk, Gla.sta, Ten.mk, Ten.bc, Ten.bt, Rod.mk, Rod.rods, Rod.rl, Rod.rm, upZ, updZ, (hI).w, (hI).h, (hI).pm, (hI).ws, (hI).wall, (hI).stiff, (hI).bear, (hI).fires, (hI).bc, (hI).bt, (hI).rods, (hI).pg, (hI).px, (hI).py, (hI).mv, (hI).laid, (hI).sold, (hI).heat, (hI).shr, (hI).pul, (hI).foe, (hI).lay, (hI).col, (hI).thk, (hI).sta, (hI).rl, (hI).rm])
    · (intro a ha; repeat rw [upZ_n (by omega)])
  · subst h
    refine ⟨upZ N 59 (updZ (updZ (updZ (N 59) 22 (N 59 22)) 23 (N 59 23)) 24 x2), c264 (v264_0 ?_), ?_, ?_⟩
    · (repeat' (first | omega | exact True.intro | exact absurd True.intro ‹¬ True› | apply And.intro | intro _))
      refine v264_32 ?_
      rw [G209_J rfl ll_1 ll_999 h2 (by decide) (by decide)]
      (repeat' (first | omega | exact True.intro | exact absurd True.intro ‹¬ True› | apply And.intro | intro _))
      refine v264_68 ?_
      (repeat' (first | omega | exact True.intro | exact absurd True.intro ‹¬ True› | apply And.intro | intro _))
      refine v264_82 ?_
      (repeat' (first | omega | exact True.intro | exact absurd True.intro ‹¬ True› | apply And.intro | intro _))
      refine v264_99 ?_
      (repeat' (first | omega | exact True.intro | exact absurd True.intro ‹¬ True› | apply And.intro | intro _))
      refine v264_116 ?_
      simp [upZ_up, upZ_s, updZ, hI.bear]
    · (refine RefOK.mk ?_ ?_ ?_ ?_ ?_ ?_ ?_ ?_ ?_ ?_ ?_ ?_ ?_ ?_ ?_ ?_ ?_ ?_ ?_ ?_ ?_ ?_ ?_ ?_ ?_ ?_ ?_ <;> simp [Pic.setGeo, Pic.setPag, Pic.setPal, Pic.setGla, Pic.setTen, Pic.setRod, Pic.mk, Pic.toGeo, Pic.toPag, Pic.toPal, Pic.toGla, Pic.toTen, Pic.toRod, Geo.mk, Geo.w, Geo.h, Geo.ws, Geo.px, Geo.py, Geo.mv, Geo.laid, Geo.sold, Pag.mk, Pag.pm, Pag.pg, Pal.mk, Pal.wall, Pal.stiff, Pal.bear, Pal.heat, Pal.shr, Pal.pul, Pal.foe, Gla.mk, Gla.fires, Gla.lay, Gla.col, Gla.thk, Gla.sta, Ten.mk, Ten.bc, Ten.bt, Rod.mk, Rod.rods, Rod.rl, Rod.rm, upZ, updZ, (hI).w, (hI).h, (hI).pm, (hI).ws, (hI).wall, (hI).stiff, (hI).bear, (hI).fires, (hI).bc, (hI).bt, (hI).rods, (hI).pg, (hI).px, (hI).py, (hI).mv, (hI).laid, (hI).sold, (hI).heat, (hI).shr, (hI).pul, (hI).foe, (hI).lay, (hI).col, (hI).thk, (hI).sta, (hI).rl, (hI).rm])
    · (intro a ha; repeat rw [upZ_n (by omega)])
theorem op_rule {E : gw_N} {N : NM} {P : Pic} {x1 x2 : Int} (hI : GInv P N) (h1 : R x1) (h2 : R x2) : Both E N 179 264 [.int (J x1), .int (J x2)] := by
  have ew := hI.cls.pal.wall
  have es := hI.cls.pal.stiff
  have eb := hI.cls.pal.bear
  by_cases hc : 0 ≤ x1 ∧ x1 < 3
  · have hz : rz E 4 x1 = (if x1 = 2 then 999 else 99) := by
      obtain h | h | h : x1 = 0 ∨ x1 = 1 ∨ x1 = 2 := by omega
      · subst h; exact rz4_0
      · subst h; exact rz4_1
      · subst h; exact rz4_2
    by_cases hv : 1 ≤ x2 ∧ x2 ≤ (if x1 = 2 then 999 else 99)
    · refine both hI (P' := (P.setPal (Pal.mk (if x1 = 0 then x2 else P.toPal.wall) (if x1 = 1 then x2 else P.toPal.stiff) (if x1 = 2 then x2 else P.toPal.bear) P.toPal.heat P.toPal.shr P.toPal.pul P.toPal.foe))) (PicOK.mk hI.ok.geo hI.ok.pag (PalR.mk hI.ok.pal.heat hI.ok.pal.shr hI.ok.pal.pul hI.ok.pal.foe ?_ ?_ ?_) hI.ok.gla hI.ok.ten hI.ok.rod) ?_ (fun N hR => ref_rule hR hc h2 hv)
      · have := hI.ok.pal.wall
        show 1 ≤ (if x1 = 0 then x2 else P.toPal.wall) ∧ (if x1 = 0 then x2 else P.toPal.wall) ≤ 99
        split <;> omega
      · have := hI.ok.pal.stiff
        show 1 ≤ (if x1 = 1 then x2 else P.toPal.stiff) ∧ (if x1 = 1 then x2 else P.toPal.stiff) ≤ 99
        split <;> omega
      · have := hI.ok.pal.bear
        show 1 ≤ (if x1 = 2 then x2 else P.toPal.bear) ∧ (if x1 = 2 then x2 else P.toPal.bear) ≤ 999
        split <;> omega
      · refine ⟨upZ N 43 (updZ (N 43) x1 x2), c179 (v179_0 ?_), ?_, ?_⟩
        · simp only [G96]
          (repeat' (first | omega | exact True.intro | exact absurd True.intro ‹¬ True› | apply And.intro | intro _))
          refine ⟨N 43 x1, upZ N 43 (updZ (N 43) x1 x2), c98 (v98_0 ?_), ?_⟩
          · rw [hz]
            ((repeat' (first | omega | exact True.intro | exact absurd True.intro ‹¬ True› | apply And.intro | intro _)) <;> rfl)
          · obtain h | h | h : x1 = 0 ∨ x1 = 1 ∨ x1 = 2 := by omega
            · subst h; simp [ew]
            · subst h; simp [es]
            · subst h; simp [eb]
        · (refine ClsOK.mk ?_ ?_ ?_ ?_ ?_ ?_ ?_ ?_ ?_ <;> first | exact (hI.cls).grid.fr rfl rfl rfl | exact (hI.cls).page.fr rfl rfl | exact (hI.cls).wires.fr rfl rfl rfl rfl rfl rfl rfl rfl | exact (hI.cls).net.fr rfl rfl rfl rfl | exact (hI.cls).cells.fr rfl rfl rfl | exact (hI.cls).pal.fr rfl rfl rfl | exact (hI.cls).glass.fr rfl rfl rfl rfl rfl | exact (hI.cls).ten.fr rfl | exact (hI.cls).rods.fr rfl rfl rfl | skip)
          refine PalOK.mk hI.cls.pal.heat hI.cls.pal.shr hI.cls.pal.pul hI.cls.pal.foe hI.cls.pal.foeR ?_ ?_ ?_
          · show updZ (N 43) x1 x2 0 = (if x1 = 0 then x2 else P.toPal.wall)
            unfold updZ
            split <;> split <;> omega
          · show updZ (N 43) x1 x2 1 = (if x1 = 1 then x2 else P.toPal.stiff)
            unfold updZ
            split <;> split <;> omega
          · show updZ (N 43) x1 x2 2 = (if x1 = 2 then x2 else P.toPal.bear)
            unfold updZ
            split <;> split <;> omega
        · (intro a ha; repeat rw [upZ_n (by omega)])
    · refine both_same (r := .int (J (-102))) hI (c179 (v179_0 ?_)) (c264 (v264_0 ?_))
      · simp only [G96]
        (repeat' (first | omega | exact True.intro | exact absurd True.intro ‹¬ True› | apply And.intro | intro _))
        refine ⟨_, _, c98 (v98_0 ?_), rfl⟩
        rw [hz]
        ((repeat' (first | omega | exact True.intro | exact absurd True.intro ‹¬ True› | apply And.intro | intro _)) <;> rfl)
      · (repeat' (first | omega | exact True.intro | exact absurd True.intro ‹¬ True› | apply And.intro | intro _))
        · refine v264_32 ?_
          rw [G209_J rfl ll_1 ll_999 h2 (by decide) (by decide)]
          ((repeat' (first | omega | exact True.intro | exact absurd True.intro ‹¬ True› | apply And.intro | intro _)) <;> rfl)
        · refine v264_32 ?_
          rw [G209_J rfl ll_1 ll_99 h2 (by decide) (by decide)]
          ((repeat' (first | omega | exact True.intro | exact absurd True.intro ‹¬ True› | apply And.intro | intro _)) <;> rfl)
  · refine both_same (r := .int (J (-101))) hI (c179 (v179_0 ?_)) (c264 (v264_0 ?_)) <;> simp only [G96] <;> ((repeat' (first | omega | exact True.intro | exact absurd True.intro ‹¬ True› | apply And.intro | intro _)) <;> rfl)
theorem ref_colour {E : gw_N} {N : NM} {P : Pic} {x1 x2 x3 : Int} (hI : RefOK P N) (hc : 0 ≤ x1 ∧ x1 < 8) (h1 : 0 ≤ x2 ∧ x2 < 3) (h3 : R x3)
    (hv : (if x2 = 0 then 1 else 0) ≤ x3 ∧ x3 ≤ (if x2 = 0 then 900 else if x2 = 1 then 9 else 99)) :
    RefDoes E N 262 [.int (J x1), .int (J x2), .int (J x3)] (.int (J (if x2 = 0 then P.toPal.heat x1 else if x2 = 1 then P.toPal.shr x1 else P.toPal.pul x1)))
      (P.setPal (Pal.mk P.toPal.wall P.toPal.stiff P.toPal.bear (if x2 = 0 then updZ P.toPal.heat x1 x3 else P.toPal.heat) (if x2 = 1 then updZ P.toPal.shr x1 x3 else P.toPal.shr) (if x2 = 2 then updZ P.toPal.pul x1 x3 else P.toPal.pul) P.toPal.foe)) := by
  obtain h | h | h : x2 = 0 ∨ x2 = 1 ∨ x2 = 2 := by omega
  · subst h
    refine ⟨upZ (upZ (upZ N 73 (updZ (N 73) x1 x3)) 74 (N 74)) 75 (N 75), c262 (v262_0 ?_), ?_, ?_⟩
    · simp only [G261]
      (repeat' (first | omega | exact True.intro | exact absurd True.intro ‹¬ True› | apply And.intro | intro _))
      refine v262_33 ?_
      (repeat' (first | omega | exact True.intro | exact absurd True.intro ‹¬ True› | apply And.intro | intro _))
      refine v262_57 ?_
      rw [G209_J rfl ll_1 ll_900 h3 (by decide) (by decide)]
      (repeat' (first | omega | exact True.intro | exact absurd True.intro ‹¬ True› | apply And.intro | intro _))
      refine v262_99 ?_
      (repeat' (first | omega | exact True.intro | exact absurd True.intro ‹¬ True› | apply And.intro | intro _))
      refine v262_120 ?_
      (repeat' (first | omega | exact True.intro | exact absurd True.intro ‹¬ True› | apply And.intro | intro _))
      refine v262_141 ?_
      (repeat' (first | omega | exact True.intro | exact absurd True.intro ‹¬ True› | apply And.intro | intro _))
      refine v262_162 ?_
      (repeat' (first | omega | exact True.intro | exact absurd True.intro ‹¬ True› | apply And.intro | intro _))
      simp [upZ, hI.heat, updZ_id]
    · (refine RefOK.mk ?_ ?_ ?_ ?_ ?_ ?_ ?_ ?_ ?_ ?_ ?_ ?_ ?_ ?_ ?_ ?_ ?_ ?_ ?_ ?_ ?_ ?_ ?_ ?_ ?_ ?_ ?_ <;> simp [Pic.setGeo, Pic.setPag, Pic.setPal, Pic.setGla, Pic.setTen, Pic.setRod, Pic.mk, Pic.toGeo, Pic.toPag, Pic.toPal, Pic.toGla, Pic.toTen, Pic.toRod, Geo.mk, Geo.w, Geo.h, Geo.ws, Geo.px, Geo.py, Geo.mv, Geo.laid, Geo.sold, Pag.mk, Pag.pm, Pag.pg, Pal.mk, Pal.wall, Pal.stiff, Pal.bear, Pal.heat, Pal.shr, Pal.pul, Pal.foe, Gla.mk, Gla.fires, Gla.lay, Gla.col, Gla.thk, Gla.sta, Ten.mk, Ten.bc, Ten.bt, Rod.mk, Rod.rods, Rod.rl, Rod.rm, upZ, updZ, (hI).w, (hI).h, (hI).pm, (hI).ws, (hI).wall, (hI).stiff, (hI).bear, (hI).fires, (hI).bc, (hI).bt, (hI).rods, (hI).pg, (hI).px, (hI).py, (hI).mv, (hI).laid, (hI).sold, (hI).heat, (hI).shr, (hI).pul, (hI).foe, (hI).lay, (hI).col, (hI).thk, (hI).sta, (hI).rl, (hI).rm])
    · (intro a ha; repeat rw [upZ_n (by omega)])
  · subst h
    refine ⟨upZ (upZ (upZ N 73 (N 73)) 74 (updZ (N 74) x1 x3)) 75 (N 75), c262 (v262_0 ?_), ?_, ?_⟩
    · simp only [G261]
      (repeat' (first | omega | exact True.intro | exact absurd True.intro ‹¬ True› | apply And.intro | intro _))
      refine v262_33 ?_
      (repeat' (first | omega | exact True.intro | exact absurd True.intro ‹¬ True› | apply And.intro | intro _))
      refine v262_57 ?_
      rw [G209_J rfl ll_0 ll_9 h3 (by decide) (by decide)]
      (repeat' (first | omega | exact True.intro | exact absurd True.intro ‹¬ True› | apply And.intro | intro _))
      refine v262_99 ?_
      (repeat' (first | omega | exact True.intro | exact absurd True.intro ‹¬ True› | apply And.intro | intro _))
      refine v262_120 ?_
      (repeat' (first | omega | exact True.intro | exact absurd True.intro ‹¬ True› | apply And.intro | intro _))
      refine v262_141 ?_
      (repeat' (first | omega | exact True.intro | exact absurd True.intro ‹¬ True› | apply And.intro | intro _))
      refine v262_162 ?_
      (repeat' (first | omega | exact True.intro | exact absurd True.intro ‹¬ True› | apply And.intro | intro _))
      simp [upZ, hI.shr, updZ_id]
    · (refine RefOK.mk ?_ ?_ ?_ ?_ ?_ ?_ ?_ ?_ ?_ ?_ ?_ ?_ ?_ ?_ ?_ ?_ ?_ ?_ ?_ ?_ ?_ ?_ ?_ ?_ ?_ ?_ ?_ <;> simp [Pic.setGeo, Pic.setPag, Pic.setPal, Pic.setGla, Pic.setTen, Pic.setRod, Pic.mk, Pic.toGeo, Pic.toPag, Pic.toPal, Pic.toGla, Pic.toTen, Pic.toRod, Geo.mk, Geo.w, Geo.h, Geo.ws, Geo.px, Geo.py, Geo.mv, Geo.laid, Geo.sold, Pag.mk, Pag.pm, Pag.pg, Pal.mk, Pal.wall, Pal.stiff, Pal.bear, Pal.heat, Pal.shr, Pal.pul, Pal.foe, Gla.mk, Gla.fires, Gla.lay, Gla.col, Gla.thk, Gla.sta, Ten.mk, Ten.bc, Ten.bt, Rod.mk, Rod.rods, Rod.rl, Rod.rm, upZ, updZ, (hI).w, (hI).h, (hI).pm, (hI).ws, (hI).wall, (hI).stiff, (hI).bear, (hI).fires, (hI).bc, (hI).bt, (hI).rods, (hI).pg, (hI).px, (hI).py, (hI).mv, (hI).laid, (hI).sold, (hI).heat, (hI).shr, (hI).pul, (hI).foe, (hI).lay, (hI).col, (hI).thk, (hI).sta, (hI).rl, (hI).rm])
    · (intro a ha; repeat rw [upZ_n (by omega)])
  · subst h
    refine ⟨upZ (upZ (upZ N 73 (N 73)) 74 (N 74)) 75 (updZ (N 75) x1 x3), c262 (v262_0 ?_), ?_, ?_⟩
    · simp only [G261]
      (repeat' (first | omega | exact True.intro | exact absurd True.intro ‹¬ True› | apply And.intro | intro _))
      refine v262_33 ?_
      (repeat' (first | omega | exact True.intro | exact absurd True.intro ‹¬ True› | apply And.intro | intro _))
      refine v262_57 ?_
      rw [G209_J rfl ll_0 ll_99 h3 (by decide) (by decide)]
      (repeat' (first | omega | exact True.intro | exact absurd True.intro ‹¬ True› | apply And.intro | intro _))
      refine v262_99 ?_
      (repeat' (first | omega | exact True.intro | exact absurd True.intro ‹¬ True› | apply And.intro | intro _))
      refine v262_120 ?_
      (repeat' (first | omega | exact True.intro | exact absurd True.intro ‹¬ True› | apply And.intro | intro _))
      refine v262_141 ?_
      (repeat' (first | omega | exact True.intro | exact absurd True.intro ‹¬ True› | apply And.intro | intro _))
      refine v262_162 ?_
      (repeat' (first | omega | exact True.intro | exact absurd True.intro ‹¬ True› | apply And.intro | intro _))
      simp [upZ, hI.pul, updZ_id]
    · (refine RefOK.mk ?_ ?_ ?_ ?_ ?_ ?_ ?_ ?_ ?_ ?_ ?_ ?_ ?_ ?_ ?_ ?_ ?_ ?_ ?_ ?_ ?_ ?_ ?_ ?_ ?_ ?_ ?_ <;> simp [Pic.setGeo, Pic.setPag, Pic.setPal, Pic.setGla, Pic.setTen, Pic.setRod, Pic.mk, Pic.toGeo, Pic.toPag, Pic.toPal, Pic.toGla, Pic.toTen, Pic.toRod, Geo.mk, Geo.w, Geo.h, Geo.ws, Geo.px, Geo.py, Geo.mv, Geo.laid, Geo.sold, Pag.mk, Pag.pm, Pag.pg, Pal.mk, Pal.wall, Pal.stiff, Pal.bear, Pal.heat, Pal.shr, Pal.pul, Pal.foe, Gla.mk, Gla.fires, Gla.lay, Gla.col, Gla.thk, Gla.sta, Ten.mk, Ten.bc, Ten.bt, Rod.mk, Rod.rods, Rod.rl, Rod.rm, upZ, updZ, (hI).w, (hI).h, (hI).pm, (hI).ws, (hI).wall, (hI).stiff, (hI).bear, (hI).fires, (hI).bc, (hI).bt, (hI).rods, (hI).pg, (hI).px, (hI).py, (hI).mv, (hI).laid, (hI).sold, (hI).heat, (hI).shr, (hI).pul, (hI).foe, (hI).lay, (hI).col, (hI).thk, (hI).sta, (hI).rl, (hI).rm])
    · (intro a ha; repeat rw [upZ_n (by omega)])
theorem op_colour {E : gw_N} {N : NM} {P : Pic} {x1 x2 x3 : Int} (hI : GInv P N) (h1 : R x1) (h2 : R x2) (h3 : R x3) : Both E N 177 262 [.int (J x1), .int (J x2), .int (J x3)] := by
  have hh := hI.cls.pal.heat
  have hs := hI.cls.pal.shr
  have hp := hI.cls.pal.pul
  by_cases hc : 0 ≤ x1 ∧ x1 < 8
  · by_cases hw : 0 ≤ x2 ∧ x2 < 3
    · have hz1 : rz E 1 x2 = (if x2 = 0 then 1 else 0) := by
        obtain h | h | h : x2 = 0 ∨ x2 = 1 ∨ x2 = 2 := by omega
        · subst h; exact rz1_0
        · subst h; exact rz1_1
        · subst h; exact rz1_2
      have hz2 : rz E 2 x2 = (if x2 = 0 then 900 else if x2 = 1 then 9 else 99) := by
        obtain h | h | h : x2 = 0 ∨ x2 = 1 ∨ x2 = 2 := by omega
        · subst h; exact rz2_0
        · subst h; exact rz2_1
        · subst h; exact rz2_2
      by_cases hv : (if x2 = 0 then 1 else 0) ≤ x3 ∧ x3 ≤ (if x2 = 0 then 900 else if x2 = 1 then 9 else 99)
      · refine both hI (P' := (P.setPal (Pal.mk P.toPal.wall P.toPal.stiff P.toPal.bear (if x2 = 0 then updZ P.toPal.heat x1 x3 else P.toPal.heat) (if x2 = 1 then updZ P.toPal.shr x1 x3 else P.toPal.shr) (if x2 = 2 then updZ P.toPal.pul x1 x3 else P.toPal.pul) P.toPal.foe))) (PicOK.mk hI.ok.geo hI.ok.pag (PalR.mk ?_ ?_ ?_ hI.ok.pal.foe hI.ok.pal.wall hI.ok.pal.stiff hI.ok.pal.bear) hI.ok.gla hI.ok.ten hI.ok.rod) ?_ (fun N hR => ref_colour hR hc hw h3 hv)
        · intro c c1 c2
          have := hI.ok.pal.heat c c1 c2
          show 1 ≤ (if x2 = 0 then updZ P.toPal.heat x1 x3 else P.toPal.heat) c ∧ (if x2 = 0 then updZ P.toPal.heat x1 x3 else P.toPal.heat) c ≤ 900
          by_cases e : x2 = 0
          · rw [if_pos e]; unfold updZ; split <;> omega
          · rw [if_neg e]; omega
        · intro c c1 c2
          have := hI.ok.pal.shr c c1 c2
          show 0 ≤ (if x2 = 1 then updZ P.toPal.shr x1 x3 else P.toPal.shr) c ∧ (if x2 = 1 then updZ P.toPal.shr x1 x3 else P.toPal.shr) c ≤ 9
          by_cases e : x2 = 1
          · rw [if_pos e]; unfold updZ; split <;> omega
          · rw [if_neg e]; omega
        · intro c c1 c2
          have := hI.ok.pal.pul c c1 c2
          show 0 ≤ (if x2 = 2 then updZ P.toPal.pul x1 x3 else P.toPal.pul) c ∧ (if x2 = 2 then updZ P.toPal.pul x1 x3 else P.toPal.pul) c ≤ 99
          by_cases e : x2 = 2
          · rw [if_pos e]; unfold updZ; split <;> omega
          · rw [if_neg e]; omega
        · refine ⟨upZ N 41 (updZ (N 41) (3 * x1 + x2) x3), c177 (v177_0 ?_), ?_, ?_⟩
          · simp only [G94, G95]
            (repeat' (first | omega | exact True.intro | exact absurd True.intro ‹¬ True› | apply And.intro | intro _))
            refine ⟨N 41 (3 * x1 + x2), upZ N 41 (updZ (N 41) (3 * x1 + x2) x3), c97 (v97_0 ?_), ?_⟩
            · rw [hz1, hz2]
              ((repeat' (first | omega | exact True.intro | exact absurd True.intro ‹¬ True› | apply And.intro | intro _)) <;> rfl)
            · obtain h | h | h : x2 = 0 ∨ x2 = 1 ∨ x2 = 2 := by omega
              · subst h; simp [hh x1 hc.1 hc.2]
              · subst h; simp [hs x1 hc.1 hc.2]
              · subst h; simp [hp x1 hc.1 hc.2]
          · (refine ClsOK.mk ?_ ?_ ?_ ?_ ?_ ?_ ?_ ?_ ?_ <;> first | exact (hI.cls).grid.fr rfl rfl rfl | exact (hI.cls).page.fr rfl rfl | exact (hI.cls).wires.fr rfl rfl rfl rfl rfl rfl rfl rfl | exact (hI.cls).net.fr rfl rfl rfl rfl | exact (hI.cls).cells.fr rfl rfl rfl | exact (hI.cls).pal.fr rfl rfl rfl | exact (hI.cls).glass.fr rfl rfl rfl rfl rfl | exact (hI.cls).ten.fr rfl | exact (hI.cls).rods.fr rfl rfl rfl | skip)
            refine PalOK.mk ?_ ?_ ?_ hI.cls.pal.foe hI.cls.pal.foeR hI.cls.pal.wall hI.cls.pal.stiff hI.cls.pal.bear
            · intro c c1 c2
              have := hh c c1 c2
              show updZ (N 41) (3 * x1 + x2) x3 (3 * c) = (if x2 = 0 then updZ P.toPal.heat x1 x3 else P.toPal.heat) c
              by_cases e : x2 = 0
              · rw [if_pos e]; unfold updZ
                by_cases e2 : c = x1
                · rw [if_pos (by omega), if_pos e2]
                · rw [if_neg (by omega), if_neg e2]; exact this
              · rw [if_neg e, updZ_n (by omega)]; exact this
            · intro c c1 c2
              have := hs c c1 c2
              show updZ (N 41) (3 * x1 + x2) x3 (3 * c + 1) = (if x2 = 1 then updZ P.toPal.shr x1 x3 else P.toPal.shr) c
              by_cases e : x2 = 1
              · rw [if_pos e]; unfold updZ
                by_cases e2 : c = x1
                · rw [if_pos (by omega), if_pos e2]
                · rw [if_neg (by omega), if_neg e2]; exact this
              · rw [if_neg e, updZ_n (by omega)]; exact this
            · intro c c1 c2
              have := hp c c1 c2
              show updZ (N 41) (3 * x1 + x2) x3 (3 * c + 2) = (if x2 = 2 then updZ P.toPal.pul x1 x3 else P.toPal.pul) c
              by_cases e : x2 = 2
              · rw [if_pos e]; unfold updZ
                by_cases e2 : c = x1
                · rw [if_pos (by omega), if_pos e2]
                · rw [if_neg (by omega), if_neg e2]; exact this
              · rw [if_neg e, updZ_n (by omega)]; exact this
          · (intro a ha; repeat rw [upZ_n (by omega)])
      · refine both_same (r := .int (J (-102))) hI (c177 (v177_0 ?_)) (c262 (v262_0 ?_))
        · simp only [G94, G95]
          (repeat' (first | omega | exact True.intro | exact absurd True.intro ‹¬ True› | apply And.intro | intro _))
          refine ⟨_, _, c97 (v97_0 ?_), rfl⟩
          rw [hz1, hz2]
          ((repeat' (first | omega | exact True.intro | exact absurd True.intro ‹¬ True› | apply And.intro | intro _)) <;> rfl)
        · simp only [G261]
          (repeat' (first | omega | exact True.intro | exact absurd True.intro ‹¬ True› | apply And.intro | intro _))
          · refine v262_33 ?_
            (repeat' (first | omega | exact True.intro | exact absurd True.intro ‹¬ True› | apply And.intro | intro _))
            refine v262_57 ?_
            rw [G209_J rfl ll_1 ll_900 h3 (by decide) (by decide)]
            ((repeat' (first | omega | exact True.intro | exact absurd True.intro ‹¬ True› | apply And.intro | intro _)) <;> rfl)
          · refine v262_33 ?_
            (repeat' (first | omega | exact True.intro | exact absurd True.intro ‹¬ True› | apply And.intro | intro _))
            · refine v262_57 ?_
              rw [G209_J rfl ll_0 ll_9 h3 (by decide) (by decide)]
              ((repeat' (first | omega | exact True.intro | exact absurd True.intro ‹¬ True› | apply And.intro | intro _)) <;> rfl)
            · refine v262_57 ?_
              rw [G209_J rfl ll_0 ll_99 h3 (by decide) (by decide)]
              ((repeat' (first | omega | exact True.intro | exact absurd True.intro ‹¬ True› | apply And.intro | intro _)) <;> rfl)
    · refine both_same (r := .int (J (-101))) hI (c177 (v177_0 ?_)) (c262 (v262_0 ?_))
      · simp only [G94, G95]
        ((repeat' (first | omega | exact True.intro | exact absurd True.intro ‹¬ True› | apply And.intro | intro _)) <;> rfl)
      · simp only [G261]
        (repeat' (first | omega | exact True.intro | exact absurd True.intro ‹¬ True› | apply And.intro | intro _))
        exact v262_19 rfl
  · refine both_same (r := .int (J (-101))) hI (c177 (v177_0 ?_)) (c262 (v262_0 ?_))
    · simp only [G94]
      ((repeat' (first | omega | exact True.intro | exact absurd True.intro ‹¬ True› | apply And.intro | intro _)) <;> rfl)
    · simp only [G261]
      (repeat' (first | omega | exact True.intro | exact absurd True.intro ‹¬ True› | apply And.intro | intro _))
      exact v262_19 rfl
def bitZ (v b : Int) : Int := v / 2 ^ b.toNat % 2
theorem nat_lt_cases {p : Nat → Prop} {n : Nat} (h : ∀ i : Fin n, p i.val) (k : Nat) (hk : k < n) : p k := h ⟨k, hk⟩
theorem zbit_all : ∀ v : Fin 256, ∀ b : Fin 8, zand (zshr (v.val : Int) (b.val : Int)) 1 = bitZ (v.val : Int) (b.val : Int) := by decide +kernel
theorem zset_all : ∀ v : Fin 256, ∀ b : Fin 8, (0 ≤ zor (v.val : Int) (zshl 1 (b.val : Int)) ∧ zor (v.val : Int) (zshl 1 (b.val : Int)) < 256) ∧ ∀ c : Fin 8, bitZ (zor (v.val : Int) (zshl 1 (b.val : Int))) (c.val : Int) = if c = b then 1 else bitZ (v.val : Int) (c.val : Int) := by decide +kernel
theorem zclr_all : ∀ v : Fin 256, ∀ b : Fin 8, (0 ≤ zand (v.val : Int) (zxor (zshl 1 (b.val : Int)) (-1)) ∧ zand (v.val : Int) (zxor (zshl 1 (b.val : Int)) (-1)) < 256) ∧ ∀ c : Fin 8, bitZ (zand (v.val : Int) (zxor (zshl 1 (b.val : Int)) (-1))) (c.val : Int) = if c = b then 0 else bitZ (v.val : Int) (c.val : Int) := by decide +kernel
theorem fin_of {n : Nat} {x : Int} (h : 0 ≤ x ∧ x < (n : Int)) : ∃ i : Fin n, x = (i.val : Int) := ⟨⟨x.toNat, by omega⟩, by show x = (x.toNat : Int); omega⟩
theorem zbit {v b : Int} (hv : 0 ≤ v ∧ v < 256) (hb : 0 ≤ b ∧ b < 8) : zand (zshr v b) 1 = bitZ v b := by
  obtain ⟨i, rfl⟩ := fin_of (n := 256) hv
  obtain ⟨j, rfl⟩ := fin_of (n := 8) hb
  exact zbit_all i j
theorem zset {v b : Int} (hv : 0 ≤ v ∧ v < 256) (hb : 0 ≤ b ∧ b < 8) : (0 ≤ zor v (zshl 1 b) ∧ zor v (zshl 1 b) < 256) ∧ ∀ c, 0 ≤ c → c < 8 → bitZ (zor v (zshl 1 b)) c = if c = b then 1 else bitZ v c := by
  obtain ⟨i, rfl⟩ := fin_of (n := 256) hv
  obtain ⟨j, rfl⟩ := fin_of (n := 8) hb
  refine ⟨(zset_all i j).1, fun c c1 c2 => ?_⟩
  obtain ⟨k, rfl⟩ := fin_of (n := 8) ⟨c1, c2⟩
  rw [(zset_all i j).2 k]
  by_cases e : k = j
  · rw [if_pos e, if_pos (by rw [e])]
  · rw [if_neg e, if_neg (by intro h; exact e (Fin.ext (by omega)))]
theorem zclr {v b : Int} (hv : 0 ≤ v ∧ v < 256) (hb : 0 ≤ b ∧ b < 8) : (0 ≤ zand v (zxor (zshl 1 b) (-1)) ∧ zand v (zxor (zshl 1 b) (-1)) < 256) ∧ ∀ c, 0 ≤ c → c < 8 → bitZ (zand v (zxor (zshl 1 b) (-1))) c = if c = b then 0 else bitZ v c := by
  obtain ⟨i, rfl⟩ := fin_of (n := 256) hv
  obtain ⟨j, rfl⟩ := fin_of (n := 8) hb
  refine ⟨(zclr_all i j).1, fun c c1 c2 => ?_⟩
  obtain ⟨k, rfl⟩ := fin_of (n := 8) ⟨c1, c2⟩
  rw [(zclr_all i j).2 k]
  by_cases e : k = j
  · rw [if_pos e, if_pos (by rw [e])]
  · rw [if_neg e, if_neg (by intro h; exact e (Fin.ext (by omega)))]
