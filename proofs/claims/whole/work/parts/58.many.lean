/-! how many: all but the pieces -/
section MNY
variable {E : gw_N} {N : NM} {P : Pic} {G : Geo} {s : Int}
/-- the reference's memory behind findCells and findHolds -/
noncomputable def rmN (P : Pic) (N : NM) : NM := upZ (rfN P N) 66 (hoF P.toGeo (rfN P N 66))
theorem rmN_ok (hR : RefOK P N) : RefOK P (rmN P N) := hR
theorem rmN_cls : sCls N (rmN P N) := by
  intro a ha
  show upZ (upZ (upZ N 67 _) 69 _) 66 _ a = N a
  rw [upZ_n (by omega), upZ_n (by omega), upZ_n (by omega)]
theorem rmN_69 {f : Int} (h : isF P.toGeo f) : rmN P N 69 f = cellZ P.toGeo f := celF_in h
theorem rmN_67 (hG : GeoR P.toGeo) {e : Int} (h : 0 ≤ e ∧ e < 162) : rmN P N 67 e = covC P.toGeo (toC e) := covF_C hG h
theorem rmN_66 {v : Int} (h : 0 ≤ v ∧ v < P.toGeo.ws) : rmN P N 66 v = bZ (heldZ P.toGeo v) := if_pos h
-- free ends and joints
theorem sp70 (hI : PicOK P) (hC : ClsOK P N) (hso : R s) : Rn 70 [.ref 22, .int (J s)] (hs E (jm N)) (some (.int (J (cnP P.toGeo s 81)))) (hs E (jm N)) := by
  have h8 := hI.geo.w
  have h9 := hI.geo.h
  have e38 : G38 N = P.toGeo.w := hC.grid.w
  have e39 : G39 N = P.toGeo.h := hC.grid.h
  have np : ∀ x y, P.toGeo.w < x → x < 9 → ¬ plP P.toGeo s (9 * y + x) := by
    intro x y x1 x2 z
    have e := pl_xy (x := x) (y := y) (by omega)
    have := z.1
    rw [e.1, e.2] at this
    unfold isPt at this
    omega
  have npy : ∀ q, 9 * (P.toGeo.h + 1) ≤ q → ¬ plP P.toGeo s q := by
    intro q q1 z
    have := z.1
    unfold isPt at this
    omega
  refine c70 (v70_0 ?_)
  have h0 := loopZ (a := 0) (n := P.toGeo.h + 1) (Q := fun y => Ev 7 70 4 [some (.ref 22), some (.int (J s)), some (.int (J (cnP P.toGeo s (9 * y)))), some (.int (J y)), none] [] (hs E (jm N)) (some (.int (J (cnP P.toGeo s 81))), (hs E (jm N)))) (by omega) ?_ ?_
  · exact h0
  · refine v70_4 ?_
    rw [e39]
    refine ⟨by omega, by omega, fun _ => ?_, fun z => absurd (by omega) z⟩
    rw [cnP_skip (n := 81) (k := 9 * (P.toGeo.h + 1)) (by omega) (fun q q1 _ => npy q q1)]
  · intro y y1 y2 ih
    refine v70_4 ?_
    rw [e39]
    refine ⟨by omega, by omega, fun z => absurd z (by omega), fun _ => ?_⟩
    have h1 := loopZ (a := 0) (n := P.toGeo.w + 1) (Q := fun x => Ev 7 70 18 [some (.ref 22), some (.int (J s)), some (.int (J (cnP P.toGeo s (9 * y + x)))), some (.int (J y)), some (.int (J x))] [] (hs E (jm N)) (some (.int (J (cnP P.toGeo s 81))), (hs E (jm N)))) (by omega) ?_ ?_
    · rw [Int.add_zero] at h1
      exact h1
    · refine v70_18 ?_
      rw [e38]
      refine ⟨by omega, by omega, fun _ => ?_, fun z => absurd (by omega) z⟩
      have hk : ∀ q, 9 * y + (P.toGeo.w + 1) ≤ q → q < 9 * (y + 1) → ¬ plP P.toGeo s q := by
        intro q q1 q2
        have := np (q - 9 * y) y (by omega) (by omega)
        rwa [show 9 * y + (q - 9 * y) = q by omega] at this
      rw [← cnP_skip (n := 9 * (y + 1)) (by omega) hk]
      exact ih
    · intro x x1 x2 ih2
      have hp : isPt P.toGeo x y := ⟨x1, by omega, y1, by omega⟩
      have e := pl_xy (x := x) (y := y) (by omega)
      have hiff : plP P.toGeo s (9 * y + x) ↔ plZ P.toGeo s x y := by
        unfold plP
        rw [e.1, e.2]
        exact ⟨fun z => z.2, fun z => ⟨hp, z⟩⟩
      have m1 := bZ_01 (p := plZ P.toGeo s x y)
      have ea : cnP P.toGeo s (9 * y + (x + 1)) = cnP P.toGeo s (9 * y + x) + bZ (plZ P.toGeo s x y) := by
        unfold cnP
        rw [← Int.add_assoc, sumZ_succ (by omega), bZ_congr hiff]
      have e206 : G206 N (bZ (plZ P.toGeo s x y)) = bZ (plZ P.toGeo s x y) := by
        rcases m1 with h | h <;> rw [h]
        · exact G206_0
        · exact G206_1
      rw [ea] at ih2
      refine v70_18 ?_
      rw [e38]
      refine ⟨by omega, by omega, fun z => absurd z (by omega), fun _ => ⟨_, sp72 hI hC hso hp, ⟨by omega, fun _ => trivial, fun _ => trivial⟩, ?_⟩⟩
      rw [e206]
      exact ih2
theorem r250_58 (hI : PicOK P) (hR : RefOK P N) (hcv : ∀ e, 0 ≤ e → e < 162 → N 67 e = covC P.toGeo (toC e)) (hso : s = 0 ∨ s = 1) : Ev 6 250 58 [some (.ref 59), some (.int (J s)), some (.int (J 0)), some (.int (J 0)), none] [] (hs E (jm N)) (some (.int (J (cnP P.toGeo s 81))), (hs E (jm N))) := by
  have h0 := loopZ (a := 0) (n := 81) (Q := fun p => Ev 6 250 58 [some (.ref 59), some (.int (J s)), some (.int (J (cnP P.toGeo s p))), some (.int (J p)), none] [] (hs E (jm N)) (some (.int (J (cnP P.toGeo s 81))), (hs E (jm N)))) (by decide) ?_ ?_
  · exact h0
  · refine v250_58 ?_
    exact ⟨by decide, fun _ => rfl, fun z => absurd (Int.le_refl _) z⟩
  · intro p p1 p2 ih
    have et : Int.tmod p 9 = p % 9 := Int.tmod_eq_emod_of_nonneg p1
    have ed : Int.tdiv p 9 = p / 9 := Int.tdiv_eq_ediv_of_nonneg p1
    obtain ⟨b1, b2⟩ := r214 hI hR (a := p % 9) (b := p / 9) (by omega) (by omega)
    have m1 := bZ_01 (p := isPt P.toGeo (p % 9) (p / 9))
    have m2 := bZ_01 (p := plZ P.toGeo s (p % 9) (p / 9))
    have go : ¬ plP P.toGeo s p → Ev 6 250 58 [some (.ref 59), some (.int (J s)), some (.int (J (cnP P.toGeo s p + 0))), some (.int (J (p + 1))), none] [] (hs E (jm N)) (some (.int (J (cnP P.toGeo s 81))), (hs E (jm N))) := by
      intro hn
      rw [Int.add_zero, ← cnP_f p1 hn]
      exact ih
    have hit : plP P.toGeo s p → Ev 6 250 58 [some (.ref 59), some (.int (J s)), some (.int (J (cnP P.toGeo s p + 1))), some (.int (J (p + 1))), none] [] (hs E (jm N)) (some (.int (J (cnP P.toGeo s 81))), (hs E (jm N))) := by
      intro hn
      rw [← cnP_t p1 hn]
      exact ih
    refine v250_58 ?_
    rw [et, ed, b1]
    refine ⟨by omega, fun z => absurd z (by omega), fun _ => ⟨b2, by omega, fun z => go (fun q => bZ_0.mp z q.1), fun z => ⟨by omega, fun s0 => ?_, fun s0 => ?_⟩⟩⟩
    · have hp : isPt P.toGeo (p % 9) (p / 9) := bZ_1.mp (by omega)
      obtain ⟨d1, d2⟩ := r240 hI hR hcv hp
      rw [d1, show bZ (plZ P.toGeo 0 (p % 9) (p / 9)) = bZ (plZ P.toGeo s (p % 9) (p / 9)) by rw [s0]]
      exact ⟨d2, by omega, fun w => go (fun q => bZ_0.mp w q.2), fun w => hit ⟨hp, bZ_1.mp (by omega)⟩⟩
    · have hp : isPt P.toGeo (p % 9) (p / 9) := bZ_1.mp (by omega)
      have s1 : s = 1 := by omega
      have e : bZ (2 ≤ comC P.toGeo (10 * (p / 9) + p % 9)) = bZ (plZ P.toGeo s (p % 9) (p / 9)) := by
        refine bZ_congr ⟨fun q => Or.inl ⟨s1, q⟩, fun q => ?_⟩
        rcases q with q | q
        · exact q.2
        · exact absurd s1 q.1
      have hj := sp241 (E := E) hI hR (x := p % 9) (y := p / 9) (by omega) (by omega)
      rw [e] at hj
      exact ⟨_, hj, by omega, fun w => go (fun q => bZ_0.mp w q.2), fun w => hit ⟨hp, bZ_1.mp (by omega)⟩⟩
-- edges under so many wires
noncomputable def eduZ (G : Geo) (l : Int) : Int := sumZ 178 (fun e => bZ (l ≤ covC G e))
theorem sum_89 {f : Int → Int} (h : ∀ y, 0 ≤ y → y < 8 → f (10 * y + 9) = 0) : sumZ 89 f = sumZ 81 (fun e => f (10 * (e / 9) + e % 9)) := by
  have e1 : sumZ 89 f = sumZ 90 (fun k => if k < 89 then f k else 0) := by
    rw [show (90 : Int) = 89 + 1 from rfl, sumZ_succ (by decide), if_neg (by decide), Int.add_zero]
    exact sumZ_congr fun k _ k2 => by rw [if_pos k2]
  rw [e1, show (90 : Int) = 10 * 9 from rfl, sumZ_rect (by decide) (by decide), show (81 : Int) = 9 * 9 from rfl, sumZ_rect (by decide) (by decide)]
  refine sumZ_congr fun y y1 y2 => ?_
  rw [show sumZ 10 (fun x => if 10 * y + x < 89 then f (10 * y + x) else 0) = sumZ 9 (fun x => if 10 * y + x < 89 then f (10 * y + x) else 0) + (if 10 * y + 9 < 89 then f (10 * y + 9) else 0) from sumZ_succ (g := fun x => if 10 * y + x < 89 then f (10 * y + x) else 0) (k := 9) (by decide)]
  have e2 : (if 10 * y + 9 < 89 then f (10 * y + 9) else 0) = 0 := by
    split
    · exact h y y1 (by omega)
    · rfl
  rw [e2, Int.add_zero]
  refine sumZ_congr fun x x1 x2 => ?_
  rw [if_pos (by omega), show (9 * y + x) / 9 = y by omega, show (9 * y + x) % 9 = x by omega]
theorem cov_none (hG : GeoR G) {e : Int} (he : ∀ v i, 0 ≤ v → v < G.ws → 0 ≤ i → i < G.mv v → ¬ eC G v i = e) : covC G e = 0 := by
  unfold covC
  refine sumZ_zero fun v v1 v2 => bZ_f ?_
  rintro ⟨_, i, i1, i2, i3⟩
  exact he v i v1 v2 i1 i2 i3
theorem eC_cs (hG : GeoR G) {v i : Int} (hv : 0 ≤ v ∧ v < G.ws) (hi : 0 ≤ i ∧ i < G.mv v) : (∃ a b, eC G v i = 89 + 10 * a + b ∧ 0 ≤ a ∧ a ≤ 8 ∧ 0 ≤ b ∧ b ≤ 8) ∨ (∃ a b, eC G v i = 10 * a + b ∧ 0 ≤ a ∧ a ≤ 8 ∧ 0 ≤ b ∧ b ≤ 8) := by
  have h1 := hG.px v i hv.1 hv.2 hi.1 (by omega)
  have h2 := hG.py v i hv.1 hv.2 hi.1 (by omega)
  have h3 := hG.px v (i + 1) hv.1 hv.2 (by omega) (by omega)
  have h4 := hG.py v (i + 1) hv.1 hv.2 (by omega) (by omega)
  have hw := hG.w
  have hh := hG.h
  rw [← Int.add_assoc] at h3 h4
  unfold eC
  by_cases c : G.px (25 * v + i) = G.px (25 * v + i + 1)
  · rw [if_pos c]
    exact Or.inl ⟨_, _, rfl, by omega, by omega, by omega, by omega⟩
  · rw [if_neg c]
    exact Or.inr ⟨_, _, rfl, by omega, by omega, by omega, by omega⟩
theorem edu_ref (hG : GeoR G) {l : Int} (hl : 1 ≤ l) : eduZ G l = sumZ 162 (fun e => bZ (l ≤ covC G (toC e))) := by
  unfold eduZ
  rw [show (178 : Int) = 89 + 89 from rfl, sumZ_split (by decide) (by decide), show (162 : Int) = 81 + 81 from rfl, sumZ_split (by decide) (by decide)]
  rw [sum_89 (f := fun e => bZ (l ≤ covC G e)), sum_89 (f := fun k => bZ (l ≤ covC G (89 + k)))]
  · refine cg2 (fun a b : Int => a + b) ?_ ?_
    · refine sumZ_congr fun e e1 e2 => ?_
      unfold toC
      rw [show e / 81 = 0 by omega, show e % 81 = e by omega, show 89 * 0 + 10 * (e / 9) + e % 9 = 10 * (e / 9) + e % 9 by omega]
    · refine sumZ_congr fun e e1 e2 => ?_
      unfold toC
      rw [show (81 + e) / 81 = 1 by omega, show (81 + e) % 81 = e by omega, show 89 * 1 + 10 * (e / 9) + e % 9 = 89 + (10 * (e / 9) + e % 9) by omega]
  · intro y y1 y2
    refine bZ_f ?_
    rw [cov_none hG]
    · omega
    · intro v i v1 v2 i1 i2 e
      rcases eC_cs hG ⟨v1, v2⟩ ⟨i1, i2⟩ with ⟨a, b, q1, q2⟩ | ⟨a, b, q1, q2⟩ <;> omega
  · intro y y1 y2
    refine bZ_f ?_
    rw [cov_none hG]
    · omega
    · intro v i v1 v2 i1 i2 e
      rcases eC_cs hG ⟨v1, v2⟩ ⟨i1, i2⟩ with ⟨a, b, q1, q2⟩ | ⟨a, b, q1, q2⟩ <;> omega
theorem sp69 {l : Int} (hI : PicOK P) (hC : ClsOK P N) (hl : R l) : Rn 69 [.ref 22, .int (J l)] (hs E (jm N)) (some (.int (J (eduZ P.toGeo l)))) (hs E (jm N)) := by
  unfold eduZ
  refine c69 (v69_0 ?_)
  refine loopZ (a := 0) (n := 178) (Q := fun k => Ev 2 69 4 [some (.ref 22), some (.int (J l)), some (.int (J (sumZ k (fun e => bZ (l ≤ covC P.toGeo e))))), some (.int (J k))] [] (hs E (jm N)) (_, _)) (by decide) ?_ ?_
  · exact v69_4 ⟨by decide, fun _ => rfl, fun z => absurd (Int.le_refl _) z⟩
  · intro k k1 k2 ih
    have hcb := cov_bd hI.geo (e := k)
    rw [sumZ_succ k1] at ih
    refine v69_4 ?_
    rw [hC.net.cov k k1 k2]
    refine ⟨by omega, fun z => absurd z (by omega), fun _ => ⟨⟨k1, k2⟩, by omega, hl, fun z => ⟨⟨by decide, fun _ => trivial, fun _ => trivial⟩, ?_⟩, fun z => ⟨⟨by decide, fun _ => trivial, fun _ => trivial⟩, ?_⟩⟩⟩
    · rw [bZ_f (by omega)] at ih
      rw [G206_0]
      exact ih
    · rw [bZ_t (by omega)] at ih
      rw [G206_1]
      exact ih
theorem r250_146 {x l : Int} (hI : PicOK P) (hcv : ∀ e, 0 ≤ e → e < 162 → N 67 e = covC P.toGeo (toC e)) (hx : (x = 2 ∧ l = 2) ∨ (x = 4 ∧ l = 1)) : Ev 6 250 146 [some (.ref 59), some (.int (J x)), some (.int (J 0)), some (.int (J 0)), none] [] (hs E (jm N)) (some (.int (J (eduZ P.toGeo l))), (hs E (jm N))) := by
  rw [edu_ref hI.geo (by omega)]
  refine loopZ (a := 0) (n := 162) (Q := fun k => Ev 6 250 146 [some (.ref 59), some (.int (J x)), some (.int (J (sumZ k (fun e => bZ (l ≤ covC P.toGeo (toC e)))))), some (.int (J k)), none] [] (hs E (jm N)) (_, _)) (by decide) ?_ ?_
  · exact v250_146 ⟨by decide, fun _ => rfl, fun z => absurd (Int.le_refl _) z⟩
  · intro k k1 k2 ih
    have hcb := cov_bd hI.geo (e := toC k)
    rw [sumZ_succ k1] at ih
    refine v250_146 ?_
    rw [hcv k k1 k2]
    refine ⟨by omega, fun z => absurd z (by omega), fun _ => ⟨⟨k1, k2⟩, by omega, fun z => ⟨by omega, fun w => ?_, fun w => ?_⟩, fun z => ⟨by omega, fun w => ?_, fun w => ?_⟩⟩⟩
    · rw [bZ_f (by omega)] at ih
      exact ih
    · rw [bZ_t (by omega)] at ih
      exact ih
    · rw [bZ_f (by omega)] at ih
      exact ih
    · rw [bZ_t (by omega)] at ih
      exact ih
-- wires that float
noncomputable def floZ (G : Geo) : Int := sumZ G.ws (fun v => bZ (G.laid v = 1 ∧ ¬ heldZ G v))
theorem sp65 (hI : PicOK P) (hC : ClsOK P N) : Rn 65 [.ref 22] (hs E (jm N)) (some (.int (J (floZ P.toGeo)))) (hs E (jm N)) := by
  have hws := hI.geo.ws
  unfold floZ
  refine c65 (v65_0 ?_)
  refine loopZ (a := 0) (n := P.toGeo.ws) (Q := fun k => Ev 3 65 4 [some (.ref 22), some (.int (J (sumZ k (fun v => bZ (P.toGeo.laid v = 1 ∧ ¬ heldZ P.toGeo v))))), some (.int (J k))] [] (hs E (jm N)) (_, _)) hws.1 ?_ ?_
  · refine v65_4 ?_
    rw [show G143 N = P.toGeo.ws from hC.wires.ws]
    exact ⟨by omega, by omega, fun _ => rfl, fun z => absurd (Int.le_refl _) z⟩
  · intro k k1 k2 ih
    have hl := hI.geo.laid k k1 k2
    have m1 := bZ_01 (p := heldZ P.toGeo k)
    have m2 := bZ_01 (p := P.toGeo.laid k = 1 ∧ ¬ heldZ P.toGeo k)
    have e15 : N 15 k = P.toGeo.laid k := hC.wires.laid k k1 k2
    have e145 : G145 N k = P.toGeo.laid k := hC.wires.laid k k1 k2
    have e64 : G64 N k = bZ (P.toGeo.laid k = 1 ∧ ¬ heldZ P.toGeo k) := by
      unfold G64
      rw [e145, hC.net.held k k1 k2]
      by_cases q : P.toGeo.laid k = 1
      · rw [if_neg (by omega)]
        by_cases z : heldZ P.toGeo k
        · rw [bZ_t z, if_neg (by decide), bZ_f (fun y => y.2 z)]
        · rw [bZ_f z, if_pos rfl, bZ_t ⟨q, z⟩]
      · rw [if_pos (by omega), bZ_f (fun y => q y.1)]
    have q64 : Q64 N k := by
      unfold Q64 Q145
      rw [e145, hC.net.held k k1 k2]
      (repeat' (first | omega | exact True.intro | exact absurd True.intro ‹¬ True› | apply And.intro | intro _))
    have e206 : G206 N (bZ (P.toGeo.laid k = 1 ∧ ¬ heldZ P.toGeo k)) = bZ (P.toGeo.laid k = 1 ∧ ¬ heldZ P.toGeo k) := by
      rcases m2 with h | h <;> rw [h]
      · exact G206_0
      · exact G206_1
    rw [sumZ_succ k1] at ih
    refine v65_4 ?_
    rw [show G143 N = P.toGeo.ws from hC.wires.ws, e64, e206]
    exact ⟨by omega, by omega, fun z => absurd z (by omega), fun _ => ⟨q64, ⟨by omega, fun _ => trivial, fun _ => trivial⟩, ih⟩⟩
theorem r250_190 (hI : PicOK P) (hR : RefOK P N) (hh : ∀ v, 0 ≤ v → v < P.toGeo.ws → N 66 v = bZ (heldZ P.toGeo v)) : Ev 6 250 190 [some (.ref 59), none, some (.int (J 0)), some (.int (J 0)), none] [] (hs E (jm N)) (some (.int (J (floZ P.toGeo))), (hs E (jm N))) := by
  have hws := hI.geo.ws
  unfold floZ
  refine loopZ (a := 0) (n := P.toGeo.ws) (Q := fun k => Ev 6 250 190 [some (.ref 59), none, some (.int (J (sumZ k (fun v => bZ (P.toGeo.laid v = 1 ∧ ¬ heldZ P.toGeo v))))), some (.int (J k)), none] [] (hs E (jm N)) (_, _)) hws.1 ?_ ?_
  · refine v250_190 ?_
    rw [hR.ws]
    exact ⟨by omega, by omega, fun _ => rfl, fun z => absurd (Int.le_refl _) z⟩
  · intro k k1 k2 ih
    have hl := hI.geo.laid k k1 k2
    have m1 := bZ_01 (p := heldZ P.toGeo k)
    rw [sumZ_succ k1] at ih
    refine v250_190 ?_
    rw [hR.ws, hR.laid, hh k k1 k2]
    refine ⟨by omega, by omega, fun z => absurd z (by omega), fun _ => ⟨by omega, by omega, fun z => ?_, fun z => ⟨by omega, fun w => ?_, fun w => ?_⟩⟩⟩
    · rw [bZ_f (fun q => by have := q.1; omega)] at ih
      exact ih
    · rw [bZ_t ⟨by omega, bZ_0.mp w⟩] at ih
      exact ih
    · rw [bZ_f (fun q => q.2 (bZ_1.mp (by omega)))] at ih
      exact ih
-- cells, and the greatest
theorem r250_239 (hI : PicOK P) (hR : RefOK P N) (hN : ∀ f, isF P.toGeo f → N 69 f = cellZ P.toGeo f) : Ev 6 250 239 [some (.ref 59), none, some (.int (J 0)), some (.int (J 0)), none] [] (hs E (jm N)) (some (.int (J (sumZ (P.toGeo.w * P.toGeo.h) (fun f => bZ (cellZ P.toGeo f = f))))), (hs E (jm N))) := by
  have hb := fld_bd hI.geo
  refine loopZ (a := 0) (n := P.toGeo.w * P.toGeo.h) (Q := fun k => Ev 6 250 239 [some (.ref 59), none, some (.int (J (sumZ k (fun f => bZ (cellZ P.toGeo f = f))))), some (.int (J k)), none] [] (hs E (jm N)) (_, _)) (by omega) ?_ ?_
  · refine v250_239 ?_
    rw [rF hR]
    exact ⟨by omega, by omega, fun _ => rfl, fun z => absurd (Int.le_refl _) z⟩
  · intro k k1 k2 ih
    have hF : isF P.toGeo k := ⟨k1, k2⟩
    have h3 := cell_R hI.geo hF
    rw [sumZ_succ k1] at ih
    refine v250_239 ?_
    rw [rF hR, hN k hF]
    refine ⟨by omega, by omega, fun z => absurd z (by omega), fun _ => ⟨by omega, by omega, fun z => ?_, fun z => ?_⟩⟩
    · rw [bZ_t z] at ih
      exact ih
    · rw [bZ_f z] at ih
      exact ih
noncomputable def grN (G : Geo) : Nat → Int
  | 0 => 0
  | j + 1 => max (grN G j) (sizeZ G (j : Int))
noncomputable def grZ (G : Geo) (k : Int) : Int := grN G k.toNat
theorem grZ_s {k : Int} (h : 0 ≤ k) : grZ G (k + 1) = max (grZ G k) (sizeZ G k) := by
  unfold grZ
  rw [show (k + 1).toNat = k.toNat + 1 by omega, grN, Int.toNat_of_nonneg h]
theorem siz_bd (hG : GeoR G) {c : Int} : 0 ≤ sizeZ G c ∧ sizeZ G c ≤ 64 := by
  have hb := fld_bd hG
  have := sumZ_bd' (g := fun f => bZ (cellZ G f = c)) (n := G.w * G.h) (B := 64) (c := 1) (fun _ _ _ => bZ_bd) (by omega) (by omega) (by decide)
  unfold sizeZ
  omega
theorem grZ_bd (hG : GeoR G) {k : Int} (hk : 0 ≤ k) : 0 ≤ grZ G k ∧ grZ G k ≤ 64 := by
  refine indZ (P := fun k => 0 ≤ grZ G k ∧ grZ G k ≤ 64) ⟨Int.le_refl _, (by decide : (0 : Int) ≤ 64)⟩ ?_ k hk
  intro j j1 ih
  have := siz_bd hG (c := j)
  rw [grZ_s j1]
  omega
theorem siz_0 (hG : GeoR G) {c : Int} (h : ¬ isC G c) : sizeZ G c = 0 := by
  unfold sizeZ
  refine sumZ_zero fun f f1 f2 => bZ_f ?_
  intro e
  have hF : isF G f := ⟨f1, f2⟩
  refine h ⟨?_, ?_⟩
  · rw [← e]
    exact (cell_ex hF).1
  · have := cell_self hG hF
    rwa [e] at this
theorem sp7 (hI : PicOK P) (hC : ClsOK P N) : Rn 7 [.ref 32] (hs E (jm N)) (some (.int (J (grZ P.toGeo (P.toGeo.w * P.toGeo.h))))) (hs E (jm N)) := by
  have hb := fld_bd hI.geo
  refine c7 (v7_0 ?_)
  refine loopZ (a := 0) (n := P.toGeo.w * P.toGeo.h) (Q := fun k => Ev 2 7 4 [some (.ref 32), some (.int (J (grZ P.toGeo k))), some (.int (J k))] [] (hs E (jm N)) (_, _)) (by omega) ?_ ?_
  · refine v7_4 ?_
    rw [cF hC.grid]
    exact ⟨by omega, by omega, fun _ => rfl, fun z => absurd (Int.le_refl _) z⟩
  · intro k k1 k2 ih
    have hF : isF P.toGeo k := ⟨k1, k2⟩
    obtain ⟨a1, a2⟩ := cHas hI.geo hC.cells (c := k) (by omega)
    have m1 := bZ_01 (p := isC P.toGeo k)
    have hg := grZ_bd hI.geo k1
    have hsz := siz_bd hI.geo (c := k)
    rw [grZ_s k1] at ih
    refine v7_4 ?_
    rw [cF hC.grid, a1]
    refine ⟨by omega, by omega, fun z => absurd z (by omega), fun _ => ⟨a2, by omega, fun z => ?_, fun z => ⟨by omega, ?_⟩⟩⟩
    · rw [siz_0 hI.geo (bZ_0.mp z), show max (grZ P.toGeo k) 0 = grZ P.toGeo k by omega] at ih
      exact ih
    · have hc : isC P.toGeo k := bZ_1.mp (by omega)
      rw [hC.cells.size k k1 k2 hc.2]
      have e : G311 N (grZ P.toGeo k) (sizeZ P.toGeo k) = max (grZ P.toGeo k) (sizeZ P.toGeo k) := by
        unfold G311
        split <;> omega
      rw [e]
      exact ⟨by unfold Q311; (repeat' (first | omega | exact True.intro | exact absurd True.intro ‹¬ True› | apply And.intro | intro _)), ih⟩
theorem r250_275 (hI : PicOK P) (hR : RefOK P N) (hN : ∀ f, isF P.toGeo f → N 69 f = cellZ P.toGeo f) : Ev 6 250 275 [some (.ref 59), none, some (.int (J 0)), some (.int (J 0)), none] [] (hs E (jm N)) (some (.int (J (grZ P.toGeo (P.toGeo.w * P.toGeo.h)))), (hs E (jm N))) := by
  have hb := fld_bd hI.geo
  refine loopZ (a := 0) (n := P.toGeo.w * P.toGeo.h) (Q := fun k => Ev 6 250 275 [some (.ref 59), none, some (.int (J (grZ P.toGeo k))), some (.int (J k)), none] [] (hs E (jm N)) (_, _)) (by omega) ?_ ?_
  · refine v250_275 ?_
    rw [rF hR]
    exact ⟨by omega, by omega, fun _ => rfl, fun z => absurd (Int.le_refl _) z⟩
  · intro k k1 k2 ih
    have hsz := siz_bd hI.geo (c := k)
    have hg := grZ_bd hI.geo k1
    have hr := sp249 (E := E) hI (rF hR) (c := k) (by omega) hN
    rw [grZ_s k1] at ih
    refine v250_275 ?_
    rw [rF hR]
    refine ⟨by omega, by omega, fun z => absurd z (by omega), fun _ => ⟨_, hr, by omega, by omega, fun z => ?_, fun z => ⟨_, hr, ?_⟩⟩⟩
    · rw [show max (grZ P.toGeo k) (sizeZ P.toGeo k) = grZ P.toGeo k by omega] at ih
      exact ih
    · rw [show max (grZ P.toGeo k) (sizeZ P.toGeo k) = sizeZ P.toGeo k by omega] at ih
      exact ih
end MNY
