/-! the first half of a firing, on both sides -/
section FI2
variable {E : gw_N} {N : NM} {P : Pic} {res : Option Value × gw_H}
theorem fire_cls {t : Int} (hI : PicOK P) (hC : ClsOK P N) (ht : R t)
    (hK : Ev 6 19 4 [some (.ref 44), some (.int (J t)), some (.int (J (firC P.toPal P.toGla t (P.toGeo.w * P.toGeo.h) 0))), some (.int (J (P.toGeo.w * P.toGeo.h))), none] [] (hs E (jm (fN 47 48 N (firT P.toPal P.toGla t (P.toGeo.w * P.toGeo.h) 0) (firS P.toPal P.toGla t (P.toGeo.w * P.toGeo.h) 0)))) res) :
    Ev 6 19 4 [some (.ref 44), some (.int (J t)), some (.int (J 0)), some (.int (J 0)), none] [] (hs E (jm N)) res := by
  have hb := fld_bd hI.geo
  have h0 := loopZ (a := 0) (n := P.toGeo.w * P.toGeo.h) (Q := fun f => Ev 6 19 4 [some (.ref 44), some (.int (J t)), some (.int (J (firC P.toPal P.toGla t f 0))), some (.int (J f)), none] [] (hs E (jm (fN 47 48 N (firT P.toPal P.toGla t f 0) (firS P.toPal P.toGla t f 0)))) res) (by omega) hK ?_
  · have e : fN 47 48 N (firT P.toPal P.toGla t 0 0) (firS P.toPal P.toGla t 0 0) = N := by
      unfold fN
      rw [fir_0.1, fir_0.2, ← hC.glass.staF, upZ_id, ← hC.glass.thkF, upZ_id]
    rw [e] at h0
    exact h0
  · intro f f1 f2 ih
    have hl := hI.gla.lay f f1 (by omega)
    refine v19_4 ?_
    rw [show G40 (fN 47 48 N (firT P.toPal P.toGla t f 0) (firS P.toPal P.toGla t f 0)) = P.toGeo.w * P.toGeo.h from cF hC.grid]
    (repeat' (first | omega | exact True.intro | exact absurd True.intro ‹¬ True› | apply And.intro | intro _))
    refine loopZ (a := 0) (n := P.toGla.lay f) (Q := fun k => Ev 6 19 18 [some (.ref 44), some (.int (J t)), some (.int (J (firC P.toPal P.toGla t f k))), some (.int (J f)), some (.int (J k))] [] (hs E (jm (fN 47 48 N (firT P.toPal P.toGla t f k) (firS P.toPal P.toGla t f k)))) res) hl.1 ?_ ?_
    · refine v19_18 ?_
      rw [show (fN 47 48 N (firT P.toPal P.toGla t f (P.toGla.lay f)) (firS P.toPal P.toGla t f (P.toGla.lay f))) 45 = P.toGla.lay from hC.glass.layF, firT_next hl.2, firS_next hl.2, firC_next f1]
      (repeat' (first | omega | exact True.intro | exact absurd True.intro ‹¬ True› | apply And.intro | intro _))
      all_goals exact ih
    · intro k k1 k2 ih2
      have hco := hI.gla.col (12 * f + k) (by omega) (by omega)
      have hst := hI.gla.sta (12 * f + k) (by omega) (by omega)
      have hth := hI.gla.thk (12 * f + k) (by omega) (by omega)
      have eT := firT_at (B := P.toPal) (A := P.toGla) (t := t) (f := f) (k := k) (by omega)
      have eS := firS_at (B := P.toPal) (A := P.toGla) (t := t) (f := f) (k := k) (by omega)
      have ec : N 46 (12 * f + k) = P.toGla.col (12 * f + k) := hC.glass.col _ (by omega) (by omega)
      have h20 := sp20 (E := E) (N := N) (T := firT P.toPal P.toGla t f k) (S := firS P.toPal P.toGla t f k) (i := 12 * f + k) (t := t) hI.pal hC.pal (by omega) (by rw [ec]; omega) (by rw [eS]; omega) ht (by rw [eT]; omega)
      rw [ec, eT, eS, firT_add f1 ⟨k1, k2⟩ hl.2] at h20
      have h21 := sp21 (E := E) (N := N) (T := firT P.toPal P.toGla t f (k + 1)) (S := updZ (firS P.toPal P.toGla t f k) (12 * f + k) (rawS P.toPal t (P.toGla.col (12 * f + k)) (P.toGla.sta (12 * f + k)))) (i := 12 * f + k) (t := t) hI.pal hC.pal (by omega) (by rw [ec]; omega) (by rw [updZ_s]; unfold rawS; split <;> omega) ht
      rw [updZ_s, ec] at h21
      have e2 : updZ (updZ (firS P.toPal P.toGla t f k) (12 * f + k) (rawS P.toPal t (P.toGla.col (12 * f + k)) (P.toGla.sta (12 * f + k)))) (12 * f + k) (if rawS P.toPal t (P.toGla.col (12 * f + k)) (P.toGla.sta (12 * f + k)) = 1 ∧ P.toPal.heat (P.toGla.col (12 * f + k)) + 50 < t then 2 else rawS P.toPal t (P.toGla.col (12 * f + k)) (P.toGla.sta (12 * f + k))) = firS P.toPal P.toGla t f (k + 1) := by
        rw [← firS_add f1 ⟨k1, k2⟩ hl.2]
        funext i
        unfold updZ newS
        split <;> rfl
      rw [e2] at h21
      refine v19_18 ?_
      rw [show (fN 47 48 N (firT P.toPal P.toGla t f k) (firS P.toPal P.toGla t f k)) 45 = P.toGla.lay from hC.glass.layF]
      (repeat' (first | omega | exact True.intro | exact absurd True.intro ‹¬ True› | apply And.intro | intro _))
      refine ⟨_, _, h20, ?_⟩
      have e206 : ∀ N', G206 N' (bZ (ripZ P.toPal t (P.toGla.col (12 * f + k)) (P.toGla.sta (12 * f + k)))) = bZ (ripZ P.toPal t (P.toGla.col (12 * f + k)) (P.toGla.sta (12 * f + k))) := by
        intro N'
        rcases bZ_01 (p := ripZ P.toPal t (P.toGla.col (12 * f + k)) (P.toGla.sta (12 * f + k))) with h | h <;> rw [h]
        · exact G206_0
        · exact G206_1
      have hb01 := bZ_01 (p := ripZ P.toPal t (P.toGla.col (12 * f + k)) (P.toGla.sta (12 * f + k)))
      rw [e206]
      refine ⟨⟨by omega, fun _ => trivial, fun _ => trivial⟩, _, h21, ?_⟩
      have ec2 : firC P.toPal P.toGla t f (k + 1) = firC P.toPal P.toGla t f k + bZ (ripZ P.toPal t (P.toGla.col (12 * f + k)) (P.toGla.sta (12 * f + k))) := by
        unfold firC
        rw [sumZ_succ k1, Int.add_assoc]
      rw [ec2] at ih2
      exact ih2
theorem fire_ref {t : Int} (hI : PicOK P) (hR : RefOK P N) (ht : R t)
    (hK : Ev 5 273 19 [some (.ref 59), some (.int (J t)), some (.int (J (firC P.toPal P.toGla t (P.toGeo.w * P.toGeo.h) 0))), some (.int (J (P.toGeo.w * P.toGeo.h))), none, none, none] [] (hs E (jm (fN 79 80 N (firT P.toPal P.toGla t (P.toGeo.w * P.toGeo.h) 0) (firS P.toPal P.toGla t (P.toGeo.w * P.toGeo.h) 0)))) res) :
    Ev 5 273 19 [some (.ref 59), some (.int (J t)), some (.int (J 0)), some (.int (J 0)), none, none, none] [] (hs E (jm N)) res := by
  have hb := fld_bd hI.geo
  have h0 := loopZ (a := 0) (n := P.toGeo.w * P.toGeo.h) (Q := fun f => Ev 5 273 19 [some (.ref 59), some (.int (J t)), some (.int (J (firC P.toPal P.toGla t f 0))), some (.int (J f)), none, none, none] [] (hs E (jm (fN 79 80 N (firT P.toPal P.toGla t f 0) (firS P.toPal P.toGla t f 0)))) res) (by omega) hK ?_
  · have e : fN 79 80 N (firT P.toPal P.toGla t 0 0) (firS P.toPal P.toGla t 0 0) = N := by
      unfold fN
      rw [fir_0.1, fir_0.2, ← hR.sta, upZ_id, ← hR.thk, upZ_id]
    rw [e] at h0
    exact h0
  · intro f f1 f2 ih
    have hl := hI.gla.lay f f1 (by omega)
    refine v273_19 ?_
    rw [show G243 (fN 79 80 N (firT P.toPal P.toGla t f 0) (firS P.toPal P.toGla t f 0)) = P.toGeo.w * P.toGeo.h from (rF hR : G243 N = P.toGeo.w * P.toGeo.h)]
    (repeat' (first | omega | exact True.intro | exact absurd True.intro ‹¬ True› | apply And.intro | intro _))
    refine loopZ (a := 0) (n := P.toGla.lay f) (Q := fun k => Ev 5 273 30 [some (.ref 59), some (.int (J t)), some (.int (J (firC P.toPal P.toGla t f k))), some (.int (J f)), some (.int (J k)), none, none] [] (hs E (jm (fN 79 80 N (firT P.toPal P.toGla t f k) (firS P.toPal P.toGla t f k)))) res) hl.1 ?_ ?_
    · refine v273_30 ?_
      rw [show (fN 79 80 N (firT P.toPal P.toGla t f (P.toGla.lay f)) (firS P.toPal P.toGla t f (P.toGla.lay f))) 77 = P.toGla.lay from hR.lay, firT_next hl.2, firS_next hl.2, firC_next f1]
      refine ⟨by omega, by omega, by omega, fun _ => ih, fun q => absurd (Int.le_refl _) q⟩
    · intro k k1 k2 ih2
      have hco := hI.gla.col (12 * f + k) (by omega) (by omega)
      have hst := hI.gla.sta (12 * f + k) (by omega) (by omega)
      have hth := hI.gla.thk (12 * f + k) (by omega) (by omega)
      have hhe := hI.pal.heat _ hco.1 hco.2
      have hsh := hI.pal.shr _ hco.1 hco.2
      have hm := mul_bd hth hsh
      have eT := firT_at (B := P.toPal) (A := P.toGla) (t := t) (f := f) (k := k) (by omega)
      have eS := firS_at (B := P.toPal) (A := P.toGla) (t := t) (f := f) (k := k) (by omega)
      have aT := firT_add (B := P.toPal) (A := P.toGla) (t := t) f1 ⟨k1, k2⟩ hl.2
      have aS := firS_add (B := P.toPal) (A := P.toGla) (t := t) f1 ⟨k1, k2⟩ hl.2
      have ec2 : firC P.toPal P.toGla t f (k + 1) = firC P.toPal P.toGla t f k + bZ (ripZ P.toPal t (P.toGla.col (12 * f + k)) (P.toGla.sta (12 * f + k))) := by
        unfold firC
        rw [sumZ_succ k1, Int.add_assoc]
      rw [ec2, ← aT, ← aS] at ih2
      have up79 : ∀ T S T', upZ (fN 79 80 N T S) 79 T' = fN 79 80 N T' S := fun T S T' => upZ_up
      have up80 : ∀ S', upZ (fN 79 80 N (firT P.toPal P.toGla t f k) (firS P.toPal P.toGla t f k)) 80 S' = fN 79 80 N (firT P.toPal P.toGla t f k) S' := fun S' => up2_up1 (by decide)
      refine v273_30 ?_
      rw [show (fN 79 80 N (firT P.toPal P.toGla t f k) (firS P.toPal P.toGla t f k)) 77 = P.toGla.lay from hR.lay, show (fN 79 80 N (firT P.toPal P.toGla t f k) (firS P.toPal P.toGla t f k)) 78 = P.toGla.col from hR.col, show (fN 79 80 N (firT P.toPal P.toGla t f k) (firS P.toPal P.toGla t f k)) 73 = P.toPal.heat from hR.heat, show (fN 79 80 N (firT P.toPal P.toGla t f k) (firS P.toPal P.toGla t f k)) 74 = P.toPal.shr from hR.shr, show (fN 79 80 N (firT P.toPal P.toGla t f k) (firS P.toPal P.toGla t f k)) 80 = firS P.toPal P.toGla t f k from rfl, show (fN 79 80 N (firT P.toPal P.toGla t f k) (firS P.toPal P.toGla t f k)) 79 = firT P.toPal P.toGla t f k from rfl]
      simp only [up79, up80, eT, eS, updZ_s]
      rw [Int.tdiv_eq_ediv_of_nonneg hm.1]
      by_cases q0 : P.toGla.sta (12 * f + k) = 0
      · by_cases q1 : P.toPal.heat (P.toGla.col (12 * f + k)) ≤ t
        · have vT : newT P.toPal t (P.toGla.col (12 * f + k)) (P.toGla.sta (12 * f + k)) (P.toGla.thk (12 * f + k)) = P.toGla.thk (12 * f + k) - P.toGla.thk (12 * f + k) * P.toPal.shr (P.toGla.col (12 * f + k)) / 10 := if_pos ⟨q0, q1⟩
          have vR : rawS P.toPal t (P.toGla.col (12 * f + k)) (P.toGla.sta (12 * f + k)) = 1 := if_pos ⟨q0, q1⟩
          rw [bZ_t (show ripZ P.toPal t (P.toGla.col (12 * f + k)) (P.toGla.sta (12 * f + k)) from ⟨q0, q1⟩), vT] at ih2
          by_cases q2 : P.toPal.heat (P.toGla.col (12 * f + k)) + 50 < t
          · have vS : newS P.toPal t (P.toGla.col (12 * f + k)) (P.toGla.sta (12 * f + k)) = 2 := if_pos ⟨vR, q2⟩
            rw [vS] at ih2
            have e9 : updZ (updZ (firS P.toPal P.toGla t f k) (12 * f + k) 1) (12 * f + k) 2 = updZ (firS P.toPal P.toGla t f k) (12 * f + k) 2 := by
              funext i
              unfold updZ
              split <;> rfl
            rw [e9]
            (repeat' (first | omega | exact True.intro | exact absurd True.intro ‹¬ True› | apply And.intro | intro _))
            all_goals exact ih2
          · have vS : newS P.toPal t (P.toGla.col (12 * f + k)) (P.toGla.sta (12 * f + k)) = 1 := (if_neg (fun z => q2 z.2)).trans vR
            rw [vS] at ih2
            (repeat' (first | omega | exact True.intro | exact absurd True.intro ‹¬ True› | apply And.intro | intro _))
            all_goals exact ih2
        · have vT : newT P.toPal t (P.toGla.col (12 * f + k)) (P.toGla.sta (12 * f + k)) (P.toGla.thk (12 * f + k)) = P.toGla.thk (12 * f + k) := if_neg (fun z => q1 z.2)
          have vR : rawS P.toPal t (P.toGla.col (12 * f + k)) (P.toGla.sta (12 * f + k)) = P.toGla.sta (12 * f + k) := if_neg (fun z => q1 z.2)
          have vS : newS P.toPal t (P.toGla.col (12 * f + k)) (P.toGla.sta (12 * f + k)) = P.toGla.sta (12 * f + k) := (if_neg (fun z => by rw [vR] at z; omega)).trans vR
          rw [bZ_f (show ¬ ripZ P.toPal t (P.toGla.col (12 * f + k)) (P.toGla.sta (12 * f + k)) from fun z => q1 z.2), vT, vS, Int.add_zero, ← eT, updZ_id, ← eS, updZ_id] at ih2
          (repeat' (first | omega | exact True.intro | exact absurd True.intro ‹¬ True› | apply And.intro | intro _))
          all_goals exact ih2
      · have vT : newT P.toPal t (P.toGla.col (12 * f + k)) (P.toGla.sta (12 * f + k)) (P.toGla.thk (12 * f + k)) = P.toGla.thk (12 * f + k) := if_neg (fun z => q0 z.1)
        have vR : rawS P.toPal t (P.toGla.col (12 * f + k)) (P.toGla.sta (12 * f + k)) = P.toGla.sta (12 * f + k) := if_neg (fun z => q0 z.1)
        rw [bZ_f (show ¬ ripZ P.toPal t (P.toGla.col (12 * f + k)) (P.toGla.sta (12 * f + k)) from fun z => q0 z.1), vT, Int.add_zero, ← eT, updZ_id] at ih2
        by_cases q2 : P.toGla.sta (12 * f + k) = 1 ∧ P.toPal.heat (P.toGla.col (12 * f + k)) + 50 < t
        · have vS : newS P.toPal t (P.toGla.col (12 * f + k)) (P.toGla.sta (12 * f + k)) = 2 := if_pos ⟨by rw [vR]; exact q2.1, q2.2⟩
          rw [vS] at ih2
          (repeat' (first | omega | exact True.intro | exact absurd True.intro ‹¬ True› | apply And.intro | intro _))
          all_goals exact ih2
        · have vS : newS P.toPal t (P.toGla.col (12 * f + k)) (P.toGla.sta (12 * f + k)) = P.toGla.sta (12 * f + k) := (if_neg (fun z => q2 ⟨by rw [vR] at z; exact z.1, z.2⟩)).trans vR
          rw [vS, ← eS, updZ_id] at ih2
          (repeat' (first | omega | exact True.intro | exact absurd True.intro ‹¬ True› | apply And.intro | intro _))
          all_goals exact ih2
end FI2
