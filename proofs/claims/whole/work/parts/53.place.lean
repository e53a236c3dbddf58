/-! joints and free ends -/
section PLA
variable {E : gw_N} {N : NM} {P : Pic} {G : Geo}
theorem com_bd (hG : GeoR G) {p : Int} : 0 ≤ comC G p ∧ comC G p ≤ 30 := by
  have := sumZ_bd' (g := fun v => bZ (G.laid v = 1 ∧ atC G v p)) (n := G.ws) (B := 30) (c := 1) (fun k _ _ => bZ_bd) hG.ws.1 hG.ws.2 (by decide)
  exact ⟨this.1, by unfold comC; omega⟩
theorem sp241 {x y : Int} (hI : PicOK P) (hR : RefOK P N) (hx : 0 ≤ x ∧ x ≤ 8) (hy : 0 ≤ y ∧ y ≤ 8) : Rn 241 [.ref 59, .int (J x), .int (J y)] (hs E (jm N)) (some (.int (J (bZ (2 ≤ comC P.toGeo (10 * y + x)))))) (hs E (jm N)) := by
  have hws := hI.geo.ws
  have hcb := com_bd hI.geo (p := 10 * y + x)
  refine c241 (v241_0 ?_)
  refine loopZ (a := 0) (n := P.toGeo.ws) (Q := fun v => Ev 2 241 5 [some (.ref 59), some (.int (J x)), some (.int (J y)), some (.int (J (sumZ v (fun v => bZ (P.toGeo.laid v = 1 ∧ atC P.toGeo v (10 * y + x)))))), some (.int (J v))] [] (hs E (jm N)) (_, _)) hws.1 ?_ ?_
  · refine v241_5 ?_
    rw [hR.ws, show sumZ P.toGeo.ws (fun v => bZ (P.toGeo.laid v = 1 ∧ atC P.toGeo v (10 * y + x))) = comC P.toGeo (10 * y + x) from rfl]
    refine ⟨by omega, by omega, fun _ => ⟨by omega, fun z => ?_, fun z => ?_⟩, fun z => absurd (Int.le_refl _) z⟩
    · rw [bZ_f (by omega)]
    · rw [bZ_t (by omega)]
  · intro v v1 v2 ih
    have hl := hI.geo.laid v v1 v2
    have m1 := bZ_01 (p := atC P.toGeo v (10 * y + x))
    refine v241_5 ?_
    rw [hR.ws, hR.laid]
    rw [sumZ_succ v1] at ih
    refine ⟨by omega, by omega, fun z => absurd z (by omega), fun _ => ⟨by omega, by omega, fun z => ?_, fun z => ⟨_, sp228 hI hR ⟨v1, v2⟩ hx hy, by omega, fun q => ?_, fun q => ?_⟩⟩⟩
    · rw [bZ_f (fun q => by have := q.1; omega)] at ih
      exact ih
    · rw [bZ_f (fun r => (bZ_0.mp q) r.2)] at ih
      exact ih
    · rw [bZ_t ⟨by omega, bZ_1.mp (by omega)⟩] at ih
      exact ih
/-- a covered edge goes that way from a point -/
def covW (G : Geo) (x y way : Int) : Prop :=
  (way = 0 ∧ isE G x y 0 ∧ 0 < covC G (10 * y + x)) ∨ (way = 1 ∧ isE G x y 1 ∧ 0 < covC G (89 + 10 * y + x)) ∨
  (way = 2 ∧ isE G (x - 1) y 0 ∧ 0 < covC G (10 * y + (x - 1))) ∨ (way = 3 ∧ isE G x (y - 1) 1 ∧ 0 < covC G (89 + 10 * (y - 1) + x))
noncomputable def meeZ (G : Geo) (x y : Int) : Int := sumZ 4 (fun way => bZ (covW G x y way))
theorem toC_e {x y s : Int} (hx : 0 ≤ x ∧ x ≤ 8) (hy : 0 ≤ y ∧ y ≤ 8) (hs2 : s = 0 ∨ s = 1) : toC (81 * s + 9 * y + x) = 89 * s + 10 * y + x ∧ 0 ≤ 81 * s + 9 * y + x ∧ 81 * s + 9 * y + x < 162 := by
  unfold toC
  rcases hs2 with h | h <;> subst h
  · have c1 : (81 * 0 + 9 * y + x) / 81 = 0 := by omega
    have c2 : (81 * 0 + 9 * y + x) % 81 = 9 * y + x := by omega
    rw [c1, c2]; omega
  · have c1 : (81 * 1 + 9 * y + x) / 81 = 1 := by omega
    have c2 : (81 * 1 + 9 * y + x) % 81 = 9 * y + x := by omega
    rw [c1, c2]; omega
/-- coverAt of the reference -/
theorem r238 {x y s : Int} (hI : PicOK P) (hR : RefOK P N) (hcv : ∀ e, 0 ≤ e → e < 162 → N 67 e = covC P.toGeo (toC e)) (hx : -1 ≤ x ∧ x ≤ 9) (hy : -1 ≤ y ∧ y ≤ 9) (hs2 : s = 0 ∨ s = 1) :
    Q238 N x y s ∧ R (G238 N x y s) ∧ (G238 N x y s ≤ 0 ↔ ¬ (isE P.toGeo x y s ∧ 0 < covC P.toGeo (89 * s + 10 * y + x))) := by
  have h8 := hI.geo.w
  have h9 := hI.geo.h
  obtain ⟨b1, b2⟩ := rEdge hI hR (x := x) (y := y) (s := s) (by omega) (by omega) (by omega)
  have hcb := cov_bd hI.geo (e := 89 * s + 10 * y + x)
  unfold Q238 G238
  rw [b1]
  by_cases q : isE P.toGeo x y s
  · have q' := q
    unfold isE at q'
    have ht := toC_e (x := x) (y := y) (s := s) (by omega) (by omega) hs2
    have e235 : G235 N x y s = 81 * s + 9 * y + x := rfl
    rw [bZ_t q, e235, if_neg (by decide), hcv _ ht.2.1 ht.2.2, ht.1]
    exact ⟨⟨b2, by decide, fun z => absurd z (by decide), fun _ => ⟨⟨ht.2.1, ht.2.2⟩, trivial⟩⟩, by omega, ⟨fun z y => absurd y.2 (by omega), fun z => Classical.byContradiction (fun w => z ⟨q, by omega⟩)⟩⟩
  · rw [bZ_f q, if_pos rfl]
    exact ⟨⟨b2, by decide, fun _ => trivial, fun z => absurd rfl z⟩, by decide, ⟨fun _ y => q y.1, fun _ => Int.le_refl _⟩⟩
end PLA
