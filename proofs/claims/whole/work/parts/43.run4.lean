/-! the reference runs over; fire -/
section RU4
variable {E : gw_N} {N : NM} {P : Pic}
theorem G270_b {M : NM} {G : Geo} {H : Int → Int} {w e c x y : Int} (hG : GeoR G) (he : 0 ≤ e ∧ e < 162) (hc : M 67 e = covC G c) (hx : 0 ≤ x ∧ x < 64) (hy : 0 ≤ y ∧ y < 64) (h1 : M 81 x = H x) (h2 : M 81 y = H y) (r1 : R (H x)) (r2 : R (H y)) (hw : M 59 22 = w) (hw2 : 1 ≤ w ∧ w ≤ 99) :
    G270 M x y e = bZ (toZ G H w c x y) ∧ Q270 M x y e := by
  have hb := cov_bd hG (e := c)
  unfold G270 Q270 toZ
  rw [hc, h1, h2, hw]
  refine ⟨?_, by (repeat' (first | omega | exact True.intro | exact absurd True.intro ‹¬ True› | apply And.intro | intro _))⟩
  by_cases a : covC G c ≤ 0
  · rw [if_pos a, bZ_f (fun z => z.1 (by omega))]
  · rw [if_neg a]
    by_cases b : H x ≤ w
    · rw [if_pos b, bZ_f (fun z => absurd z.2.1 (by omega))]
    · rw [if_neg b]
      by_cases d : w ≤ H y
      · rw [if_pos d, bZ_f (fun z => absurd z.2.2 (by omega))]
      · rw [if_neg d, bZ_t ⟨by omega, by omega, by omega⟩]
noncomputable def hiF (P : Pic) (f0 : Int → Int) (k : Int) : Int → Int := fun f => if 0 ≤ f ∧ f < k then highZ P.toGla f else f0 f
noncomputable def roM (P : Pic) (N : NM) (Rr : Int → Int) : NM := upZ (upZ (rfN P N) 81 (hiF P (N 81) (P.toGeo.w * P.toGeo.h))) 82 Rr
theorem sp271 (hI : PicOK P) (hR : RefOK P N) : Rn 271 [.ref 59] (hs E (jm N)) none (hs E (jm (refG (roM P N (ruF P.toGeo (highZ P.toGla) P.toPal.wall (N 82) (P.toGeo.w * P.toGeo.h) 0)) (roZ P.toGeo (highZ P.toGla) P.toPal.wall (P.toGeo.w * P.toGeo.h) P.toGla)))) := by
  have hb := fld_bd hI.geo
  have hw := hI.pal.wall
  have hro := roZ_ok (G := P.toGeo) (H := highZ P.toGla) hw.1 hI.gla (fun f _ _ => rfl)
  have rFu : ∀ Rr, G243 (roM P N Rr) = P.toGeo.w * P.toGeo.h := fun Rr => (rF hR : G243 N = P.toGeo.w * P.toGeo.h)
  have e81 : ∀ Rr g, isF P.toGeo g → roM P N Rr 81 g = highZ P.toGla g := fun Rr g hg => if_pos ⟨hg.1, hg.2⟩
  have hbd : ∀ g, isF P.toGeo g → 0 ≤ highZ P.toGla g ∧ highZ P.toGla g ≤ 1188 := fun g hg => highA_bd hI.gla (by have h1 := hg.1; have h2 := hg.2; omega)
  refine c271 (v271_0 ⟨_, sp247' hI hR, ?_⟩)
  have h0 := loopZ (a := 0) (n := P.toGeo.w * P.toGeo.h) (Q := fun k => Ev 4 271 6 [some (.ref 59), some (.int (J k)), none, none, none] [] (hs E (jm (upZ (upZ (rfN P N) 81 (hiF P (N 81) k)) 82 (fun f => if 0 ≤ f ∧ f < k then 0 else N 82 f)))) (none, hs E (jm (refG (roM P N (ruF P.toGeo (highZ P.toGla) P.toPal.wall (N 82) (P.toGeo.w * P.toGeo.h) 0)) (roZ P.toGeo (highZ P.toGla) P.toPal.wall (P.toGeo.w * P.toGeo.h) P.toGla))))) (by omega) ?_ ?_
  · have e1 : hiF P (N 81) 0 = rfN P N 81 := by
      funext x
      exact if_neg (by omega)
    have e2 : (fun f => if 0 ≤ f ∧ f < 0 then 0 else N 82 f) = rfN P N 82 := by
      funext x
      exact if_neg (by omega)
    rw [e1, e2, upZ_id, upZ_id] at h0
    exact h0
  · refine v271_6 ?_
    rw [show G243 (upZ (upZ (rfN P N) 81 (hiF P (N 81) (P.toGeo.w * P.toGeo.h))) 82 (fun f => if 0 ≤ f ∧ f < P.toGeo.w * P.toGeo.h then 0 else N 82 f)) = P.toGeo.w * P.toGeo.h from (rF hR : G243 N = P.toGeo.w * P.toGeo.h)]
    refine ⟨by omega, by omega, fun _ => ?_, fun z => absurd (Int.le_refl _) z⟩
    have e : (fun f => if 0 ≤ f ∧ f < P.toGeo.w * P.toGeo.h then 0 else N 82 f) = ruF P.toGeo (highZ P.toGla) P.toPal.wall (N 82) 0 0 := by
      funext g
      by_cases q : isF P.toGeo g
      · rw [ruF_in q, bZ_f rm_0]
        exact if_pos ⟨q.1, q.2⟩
      · rw [ruF_out q]
        exact if_neg q
    rw [e]
    refine loopZ (a := 0) (n := P.toGeo.w * P.toGeo.h) (Q := fun f => Ev 4 271 40 [some (.ref 59), some (.int (J f)), none, none, none] [] (hs E (jm (roM P N (ruF P.toGeo (highZ P.toGla) P.toPal.wall (N 82) f 0)))) (none, hs E (jm (refG (roM P N (ruF P.toGeo (highZ P.toGla) P.toPal.wall (N 82) (P.toGeo.w * P.toGeo.h) 0)) (roZ P.toGeo (highZ P.toGla) P.toPal.wall (P.toGeo.w * P.toGeo.h) P.toGla))))) (by omega) ?_ ?_
    · refine v271_40 ?_
      rw [rFu]
      refine ⟨by omega, by omega, fun _ => ?_, fun z => absurd (Int.le_refl _) z⟩
      have h1 := loopZ (a := 0) (n := P.toGeo.w * P.toGeo.h) (Q := fun k => Ev 4 271 151 [some (.ref 59), some (.int (J k)), none, none, none] [] (hs E (jm (refG (roM P N (ruF P.toGeo (highZ P.toGla) P.toPal.wall (N 82) (P.toGeo.w * P.toGeo.h) 0)) (roZ P.toGeo (highZ P.toGla) P.toPal.wall k P.toGla)))) (none, hs E (jm (refG (roM P N (ruF P.toGeo (highZ P.toGla) P.toPal.wall (N 82) (P.toGeo.w * P.toGeo.h) 0)) (roZ P.toGeo (highZ P.toGla) P.toPal.wall (P.toGeo.w * P.toGeo.h) P.toGla))))) (by omega) ?_ ?_
      · have e9 : refG (roM P N (ruF P.toGeo (highZ P.toGla) P.toPal.wall (N 82) (P.toGeo.w * P.toGeo.h) 0)) (roZ P.toGeo (highZ P.toGla) P.toPal.wall 0 P.toGla) = roM P N (ruF P.toGeo (highZ P.toGla) P.toPal.wall (N 82) (P.toGeo.w * P.toGeo.h) 0) := refG_id (P := P) (N := roM P N (ruF P.toGeo (highZ P.toGla) P.toPal.wall (N 82) (P.toGeo.w * P.toGeo.h) 0)) hR
        rw [e9] at h1
        exact h1
      · refine v271_151 ?_
        rw [show G243 (refG (roM P N (ruF P.toGeo (highZ P.toGla) P.toPal.wall (N 82) (P.toGeo.w * P.toGeo.h) 0)) (roZ P.toGeo (highZ P.toGla) P.toPal.wall (P.toGeo.w * P.toGeo.h) P.toGla)) = P.toGeo.w * P.toGeo.h from (rF hR : G243 N = P.toGeo.w * P.toGeo.h)]
        exact ⟨by omega, by omega, fun _ => rfl, fun z => absurd (Int.le_refl _) z⟩
      · intro k k1 k2 ih
        obtain ⟨r1, r2, r3⟩ := hro k k1 (by omega)
        have hF : isF P.toGeo k := ⟨k1, k2⟩
        have hbk := hbd k hF
        have h01 := bZ_01 (p := rmZ P.toGeo (highZ P.toGla) P.toPal.wall (P.toGeo.w * P.toGeo.h) 0 k)
        rw [roZ_succ k1] at ih
        refine v271_151 ?_
        rw [show G243 (refG (roM P N (ruF P.toGeo (highZ P.toGla) P.toPal.wall (N 82) (P.toGeo.w * P.toGeo.h) 0)) (roZ P.toGeo (highZ P.toGla) P.toPal.wall k P.toGla)) = P.toGeo.w * P.toGeo.h from (rF hR : G243 N = P.toGeo.w * P.toGeo.h), show (refG (roM P N (ruF P.toGeo (highZ P.toGla) P.toPal.wall (N 82) (P.toGeo.w * P.toGeo.h) 0)) (roZ P.toGeo (highZ P.toGla) P.toPal.wall k P.toGla)) 82 k = bZ (rmZ P.toGeo (highZ P.toGla) P.toPal.wall (P.toGeo.w * P.toGeo.h) 0 k) from ruF_in hF, show (refG (roM P N (ruF P.toGeo (highZ P.toGla) P.toPal.wall (N 82) (P.toGeo.w * P.toGeo.h) 0)) (roZ P.toGeo (highZ P.toGla) P.toPal.wall k P.toGla)) 81 k = highZ P.toGla k from e81 (ruF P.toGeo (highZ P.toGla) P.toPal.wall (N 82) (P.toGeo.w * P.toGeo.h) 0) k hF, show (refG (roM P N (ruF P.toGeo (highZ P.toGla) P.toPal.wall (N 82) (P.toGeo.w * P.toGeo.h) 0)) (roZ P.toGeo (highZ P.toGla) P.toPal.wall k P.toGla)) 59 22 = P.toPal.wall from hR.wall]
        refine ⟨by omega, by omega, fun z => absurd z (by omega), fun _ => ⟨by omega, by omega, fun y => ?_, fun y => ?_⟩⟩
        · rw [if_neg (fun x => (bZ_0.mp y) ((rm_run hI.geo hF).mpr x))] at ih
          exact ih
        · have hrun := (rm_run hI.geo hF).mp (bZ_1.mp (show bZ (rmZ P.toGeo (highZ P.toGla) P.toPal.wall (P.toGeo.w * P.toGeo.h) 0 k) = 1 by omega))
          have hr1 := hrun.1
          rw [if_pos hrun] at ih
          have hl : 0 < (roZ P.toGeo (highZ P.toGla) P.toPal.wall k P.toGla).lay k := high_pos r1 ⟨k1, by omega⟩ (by rw [(r3 k (by omega) (by omega)).2]; omega)
          exact ⟨_, _, sp272 r1 ⟨k1, by omega⟩ hl (by omega) (by omega), ih⟩
    · intro f f1 f2 ih
      have hF : isF P.toGeo f := ⟨f1, f2⟩
      refine v271_40 ?_
      rw [rFu]
      refine ⟨by omega, by omega, fun z => absurd z (by omega), fun _ => ?_⟩
      refine loopZ (a := 0) (n := 2) (Q := fun s => Ev 4 271 50 [some (.ref 59), some (.int (J f)), some (.int (J s)), none, none] [] (hs E (jm (roM P N (ruF P.toGeo (highZ P.toGla) P.toPal.wall (N 82) f s)))) (none, hs E (jm (refG (roM P N (ruF P.toGeo (highZ P.toGla) P.toPal.wall (N 82) (P.toGeo.w * P.toGeo.h) 0)) (roZ P.toGeo (highZ P.toGla) P.toPal.wall (P.toGeo.w * P.toGeo.h) P.toGla))))) (by decide) ?_ ?_
      · refine v271_50 ?_
        rw [ruF_same (fun g => rm_next)]
        exact ⟨by decide, fun _ => ih, fun z => absurd (Int.le_refl _) z⟩
      · intro s s1 s2 ih2
        have hR' : RefOK P (roM P N (ruF P.toGeo (highZ P.toGla) P.toPal.wall (N 82) f s)) := hR
        obtain ⟨b1, b2⟩ := G245_b hI hR' hF ⟨s1, s2⟩
        refine v271_50 ?_
        rw [b1]
        by_cases q : besZ P.toGeo f s = -1
        · rw [ruF_same (fun g => rm_none q)] at ih2
          rw [q]
          exact ⟨by omega, fun z => absurd z (by omega), fun _ => ⟨b2, by decide, fun _ => ih2, fun z => absurd rfl z⟩⟩
        · obtain ⟨k1, k2, k3⟩ := bes_spec hI.geo hF (way := s) (by omega) q
          obtain ⟨c1, c2, c3⟩ := G246_b hI hR' hF ⟨s1, s2⟩ q
          have d1 := k1.1
          have d2 := k1.2
          have hne : ¬ besZ P.toGeo f s = f := by
            obtain a | a : s = 0 ∨ s = 1 := by omega
            · subst a
              have eb : besZ P.toGeo f 0 = if f % P.toGeo.w + 1 < P.toGeo.w then f + 1 else -1 := rfl
              rw [eb]; split <;> omega
            · subst a
              have hw8 := hI.geo.w
              have eb : besZ P.toGeo f 1 = if f / P.toGeo.w + 1 < P.toGeo.h then f + P.toGeo.w else -1 := rfl
              rw [eb]; split <;> omega
          have hb1 := hbd f hF
          have hb2 := hbd _ k1
          have ecv : ∀ Rr, roM P N Rr 67 (G246 (roM P N (ruF P.toGeo (highZ P.toGla) P.toPal.wall (N 82) f s)) f s) = covC P.toGeo (betZ P.toGeo f s) := fun Rr => (rfN_67 hI.geo c1).trans (by rw [c2])
          have g1 := fun Rr => G270_b (M := roM P N Rr) (G := P.toGeo) (H := highZ P.toGla) (w := P.toPal.wall) (e := G246 (roM P N (ruF P.toGeo (highZ P.toGla) P.toPal.wall (N 82) f s)) f s) (x := f) (y := besZ P.toGeo f s) hI.geo c1 (ecv Rr) (by omega) (by omega) (e81 Rr f hF) (e81 Rr _ k1) (by omega) (by omega) hR.wall hw
          have g2 := fun Rr => G270_b (M := roM P N Rr) (G := P.toGeo) (H := highZ P.toGla) (w := P.toPal.wall) (e := G246 (roM P N (ruF P.toGeo (highZ P.toGla) P.toPal.wall (N 82) f s)) f s) (x := besZ P.toGeo f s) (y := f) hI.geo c1 (ecv Rr) (by omega) (by omega) (e81 Rr _ k1) (e81 Rr f hF) (by omega) (by omega) hR.wall hw
          have up82 : ∀ Rr, upZ (roM P N (ruF P.toGeo (highZ P.toGla) P.toPal.wall (N 82) f s)) 82 Rr = roM P N Rr := fun Rr => upZ_up
          have key : ∀ α β, α = bZ (rmZ P.toGeo (highZ P.toGla) P.toPal.wall f s f ∨ toZ P.toGeo (highZ P.toGla) P.toPal.wall (betZ P.toGeo f s) f (besZ P.toGeo f s)) → β = bZ (rmZ P.toGeo (highZ P.toGla) P.toPal.wall f s (besZ P.toGeo f s) ∨ toZ P.toGeo (highZ P.toGla) P.toPal.wall (betZ P.toGeo f s) (besZ P.toGeo f s) f) →
              Ev 4 271 50 [some (.ref 59), some (.int (J f)), some (.int (J (s + 1))), none, none] [] (hs E (jm (roM P N (updZ (updZ (ruF P.toGeo (highZ P.toGla) P.toPal.wall (N 82) f s) f α) (besZ P.toGeo f s) β)))) (none, hs E (jm (refG (roM P N (ruF P.toGeo (highZ P.toGla) P.toPal.wall (N 82) (P.toGeo.w * P.toGeo.h) 0)) (roZ P.toGeo (highZ P.toGla) P.toPal.wall (P.toGeo.w * P.toGeo.h) P.toGla)))) := by
            intro α β hα hβ
            rw [ruF_step hF ⟨s1, s2⟩ q k1 hne hα hβ]
            exact ih2
          rw [bZ_or, bZ_or] at key
          rw [show (roM P N (ruF P.toGeo (highZ P.toGla) P.toPal.wall (N 82) f s)) 82 = ruF P.toGeo (highZ P.toGla) P.toPal.wall (N 82) f s from rfl]
          simp only [up82, updZ_n hne, ruF_in hF, ruF_in k1, (g1 _).1, (g2 _).1]
          have a1 := bZ_01 (p := rmZ P.toGeo (highZ P.toGla) P.toPal.wall f s f)
          have a2 := bZ_01 (p := toZ P.toGeo (highZ P.toGla) P.toPal.wall (betZ P.toGeo f s) f (besZ P.toGeo f s))
          have a3 := bZ_01 (p := rmZ P.toGeo (highZ P.toGla) P.toPal.wall f s (besZ P.toGeo f s))
          have a4 := bZ_01 (p := toZ P.toGeo (highZ P.toGla) P.toPal.wall (betZ P.toGeo f s) (besZ P.toGeo f s) f)
          have qq1 := fun Rr => (g1 Rr).2
          have qq2 := fun Rr => (g2 Rr).2
          repeat' (first | omega | exact b2 | exact c3 | exact qq1 _ | exact qq2 _ | (refine key _ _ ?_ ?_ <;> omega) | apply And.intro | intro _)
  · intro k k1 k2 ih
    have eK : updZ (hiF P (N 81) k) k (highZ P.toGla k) = hiF P (N 81) (k + 1) := by
      funext x
      unfold updZ hiF
      by_cases q : x = k
      · rw [if_pos q, if_pos (by omega), q]
      · rw [if_neg q]
        by_cases q2 : 0 ≤ x ∧ x < k
        · rw [if_pos q2, if_pos (by omega)]
        · rw [if_neg q2, if_neg (by omega)]
    have eZ : updZ (fun f => if 0 ≤ f ∧ f < k then 0 else N 82 f) k 0 = (fun f => if 0 ≤ f ∧ f < k + 1 then 0 else N 82 f) := by
      funext x
      show (if x = k then 0 else if 0 ≤ x ∧ x < k then 0 else N 82 x) = _
      by_cases q : x = k
      · rw [if_pos q, if_pos (by omega)]
      · rw [if_neg q]
        by_cases q2 : 0 ≤ x ∧ x < k
        · rw [if_pos q2, if_pos (by omega)]
        · rw [if_neg q2, if_neg (by omega)]
    refine v271_6 ?_
    rw [show G243 (upZ (upZ (rfN P N) 81 (hiF P (N 81) k)) 82 (fun f => if 0 ≤ f ∧ f < k then 0 else N 82 f)) = P.toGeo.w * P.toGeo.h from (rF hR : G243 N = P.toGeo.w * P.toGeo.h)]
    refine ⟨by omega, by omega, fun z => absurd z (by omega), fun _ => ⟨_, sp267' (A := P.toGla) hI.gla hR.lay hR.thk (by omega), by omega, ?_⟩⟩
    rw [show (upZ (upZ (rfN P N) 81 (hiF P (N 81) k)) 82 (fun f => if 0 ≤ f ∧ f < k then 0 else N 82 f)) 81 = hiF P (N 81) k from rfl, show (upZ (upZ (rfN P N) 81 (hiF P (N 81) k)) 82 (fun f => if 0 ≤ f ∧ f < k then 0 else N 82 f)) 82 = (fun f => if 0 ≤ f ∧ f < k then 0 else N 82 f) from rfl, eK, eZ, up2_up2]
    exact ih
end RU4
