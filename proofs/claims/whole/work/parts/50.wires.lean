/-! bends, edges, what stands -/
section WIR
variable {E : gw_N} {N : NM} {P : Pic} {G : Geo}
theorem ben_bd {v : Int} (hG : GeoR G) (hv : 0 ≤ v ∧ v < G.ws) : 0 ≤ benZ G v ∧ benZ G v ≤ 24 := by
  have hm := hG.mv v hv.1 hv.2
  have := sumZ_bd' (g := fun k => bZ (0 < k ∧ bendAt G v k)) (n := G.mv v) (B := 24) (c := 1) (fun _ _ _ => bZ_bd) (by omega) hm.2 (by decide)
  unfold benZ
  omega
theorem sp226 {v : Int} (hI : PicOK P) (hR : RefOK P N) (hv : 0 ≤ v ∧ v < P.toGeo.ws) : Rn 226 [.ref 59, .int (J v)] (hs E (jm N)) (some (.int (J (benZ P.toGeo v)))) (hs E (jm N)) := by
  have hws := hI.geo.ws
  have hm := hI.geo.mv v hv.1 hv.2
  have h8 := hI.geo.w
  have h9 := hI.geo.h
  unfold benZ
  refine c226 (v226_0 ?_)
  have h0 := loopZ (a := 1) (n := P.toGeo.mv v) (Q := fun k => Ev 1 226 4 [some (.ref 59), some (.int (J v)), some (.int (J (sumZ k (fun k => bZ (0 < k ∧ bendAt P.toGeo v k))))), some (.int (J k)), none, none] [] (hs E (jm N)) (some (.int (J (sumZ (P.toGeo.mv v) (fun k => bZ (0 < k ∧ bendAt P.toGeo v k))))), (hs E (jm N)))) (by omega) ?_ ?_
  · have e : sumZ 1 (fun k => bZ (0 < k ∧ bendAt P.toGeo v k)) = 0 := by
      rw [show (1 : Int) = 0 + 1 from rfl, sumZ_succ (by decide), sumZ_0, bZ_f (fun z => absurd z.1 (by decide))]
      rfl
    rw [e] at h0
    exact h0
  · refine v226_4 ?_
    rw [hR.mv]
    ((repeat' (first | omega | exact True.intro | exact absurd True.intro ‹¬ True› | apply And.intro | intro _)) <;> rfl)
  · intro k k1 k2 ih
    have a1 := hI.geo.px v k hv.1 hv.2 (by omega) (by omega)
    have a2 := hI.geo.py v k hv.1 hv.2 (by omega) (by omega)
    have a3 := hI.geo.px v (k + 1) hv.1 hv.2 (by omega) (by omega)
    have a4 := hI.geo.py v (k + 1) hv.1 hv.2 (by omega) (by omega)
    have a5 := hI.geo.px v (k - 1) hv.1 hv.2 (by omega) (by omega)
    have a6 := hI.geo.py v (k - 1) hv.1 hv.2 (by omega) (by omega)
    rw [← Int.add_assoc] at a3 a4
    rw [show 25 * v + (k - 1) = 25 * v + k - 1 by omega] at a5 a6
    refine v226_4 ?_
    rw [hR.mv, hR.px, hR.py]
    rw [sumZ_succ (by omega)] at ih
    (repeat' (first | omega | exact True.intro | exact absurd True.intro ‹¬ True› | apply And.intro | intro _))
    · rw [bZ_f (fun z => z.2 ⟨‹_›, ‹_›⟩)] at ih
      exact ih
    · rw [bZ_t ⟨by omega, fun z => ‹¬ P.toGeo.py (25 * v + k + 1) - P.toGeo.py (25 * v + k) = P.toGeo.py (25 * v + k) - P.toGeo.py (25 * v + k - 1)› z.2⟩] at ih
      exact ih
    · rw [bZ_t ⟨by omega, fun z => ‹¬ P.toGeo.px (25 * v + k + 1) - P.toGeo.px (25 * v + k) = P.toGeo.px (25 * v + k) - P.toGeo.px (25 * v + k - 1)› z.1⟩] at ih
      exact ih
theorem edg_sum {v : Int} (hG : GeoR G) (hv : 0 ≤ v ∧ v < G.ws) : ∀ K, 0 ≤ K → K ≤ G.mv v → sumZ 162 (fun e => bZ (onR G v K e)) = sumZ K (fun k => bZ (freshAt G v k)) := by
  refine indZ (P := fun K => K ≤ G.mv v → sumZ 162 (fun e => bZ (onR G v K e)) = sumZ K (fun k => bZ (freshAt G v k))) (fun _ => (sumZ_zero fun e _ _ => bZ_f onR_0).trans sumZ_0.symm) ?_
  intro K hK ih hle
  have hsp := eR_spec hG hv ⟨hK, (by omega : K < G.mv v)⟩
  have e1 : (fun e => bZ (onR G v (K + 1) e)) = updZ (fun e => bZ (onR G v K e)) (eR G v K) 1 := by
    funext e
    unfold updZ
    have h := exZ_succ (k := K) (p := fun j => eR G v j = e) hK
    by_cases q : e = eR G v K
    · rw [if_pos q, bZ_t (show onR G v (K + 1) e from h.mpr (Or.inr q.symm))]
    · rw [if_neg q]
      exact bZ_congr ⟨fun z => (h.mp z).elim id (fun y => absurd y.symm q), fun z => h.mpr (Or.inl z)⟩
  rw [e1, sumZ_upd ⟨hsp.2.1, hsp.2.2⟩, ih (by omega), sumZ_succ hK]
  congr 1
  by_cases q : onR G v K (eR G v K)
  · rw [bZ_t q, bZ_f]
    · rfl
    · intro z
      obtain ⟨j, j1, j2, j3⟩ := q
      have hj := eR_spec hG hv (i := j) ⟨j1, by omega⟩
      exact z j j1 j2 (by rw [hj.1, hsp.1, j3])
  · rw [bZ_f q, bZ_t]
    · rfl
    · intro j j1 j2 z
      have hj := eR_spec hG hv (i := j) ⟨j1, by omega⟩
      rw [hj.1, hsp.1] at z
      exact q ⟨j, j1, j2, toC_inj hj.2 hsp.2 z⟩
theorem sp225 {v : Int} (hI : PicOK P) (hR : RefOK P N) (hv : 0 ≤ v ∧ v < P.toGeo.ws) : Rn 225 [.ref 59, .int (J v)] (hs E (jm N)) (some (.int (J (edgZ P.toGeo v)))) (hs E (jm N)) := by
  have hws := hI.geo.ws
  have hm := hI.geo.mv v hv.1 hv.2
  unfold edgZ
  rw [← edg_sum hI.geo hv (P.toGeo.mv v) (by omega) (Int.le_refl _)]
  refine c225 (v225_0 ?_)
  refine loopZ (a := 0) (n := 162) (Q := fun k => Ev 3 225 4 [some (.ref 59), some (.int (J v)), some (.int (J (sumZ k (fun e => bZ (onR P.toGeo v (P.toGeo.mv v) e))))), some (.int (J k))] [] (hs E (jm N)) (_, _)) (by decide) ?_ ?_
  · refine v225_4 ?_
    exact ⟨by decide, fun _ => rfl, fun z => absurd (Int.le_refl _) z⟩
  · intro k k1 k2 ih
    have h01 := bZ_01 (p := onR P.toGeo v (P.toGeo.mv v) k)
    rw [sumZ_succ k1] at ih
    refine v225_4 ?_
    refine ⟨by omega, fun z => absurd z (by omega), fun _ => ⟨_, sp224 hI hR hv (by omega), by omega, fun z => ?_, fun z => ?_⟩⟩
    · rw [z] at ih
      exact ih
    · rw [show bZ (onR P.toGeo v (P.toGeo.mv v) k) = 1 by omega] at ih
      exact ih
/-- without a bend it goes straight on -/
theorem straightZ {v : Int} (hG : GeoR G) (hv : 0 ≤ v ∧ v < G.ws) (hb : benZ G v = 0) : ∀ i, 0 ≤ i → i ≤ G.mv v →
    (G.px (25 * v + i) = G.px (25 * v) + i * (G.px (25 * v + 1) - G.px (25 * v)) ∧ G.py (25 * v + i) = G.py (25 * v) + i * (G.py (25 * v + 1) - G.py (25 * v))) := by
  have hm := hG.mv v hv.1 hv.2
  have hnb := (sumZ_b0 (p := fun k => 0 < k ∧ bendAt G v k) (n := G.mv v) (by omega)).mp hb
  have key : ∀ i, 0 ≤ i → (i ≤ G.mv v → (G.px (25 * v + i) = G.px (25 * v) + i * (G.px (25 * v + 1) - G.px (25 * v)) ∧ G.py (25 * v + i) = G.py (25 * v) + i * (G.py (25 * v + 1) - G.py (25 * v)))) ∧
      (i < G.mv v → (G.px (25 * v + i + 1) - G.px (25 * v + i) = G.px (25 * v + 1) - G.px (25 * v) ∧ G.py (25 * v + i + 1) - G.py (25 * v + i) = G.py (25 * v + 1) - G.py (25 * v))) := by
    refine indZ ⟨fun _ => by rw [Int.add_zero, Int.zero_mul, Int.zero_mul]; omega, fun _ => by rw [Int.add_zero]; omega⟩ ?_
    intro k hk ⟨i1, i2⟩
    have e0 : 25 * v + (k + 1) = 25 * v + k + 1 := by omega
    refine ⟨fun h => ?_, fun h => ?_⟩
    · have h1 := i1 (by omega)
      have h2 := i2 (by omega)
      rw [e0, Int.add_mul, Int.one_mul, Int.add_mul, Int.one_mul]
      omega
    · have h2 := i2 (by omega)
      have h3 : ¬ bendAt G v (k + 1) := fun z => hnb ⟨k + 1, by omega, h, by omega, z⟩
      unfold bendAt at h3
      rw [e0, show 25 * v + k + 1 - 1 = 25 * v + k by omega] at h3
      have h4 := Classical.not_not.mp h3
      rw [e0]
      omega
  exact fun i h1 h2 => (key i h1).1 h2
theorem noBack {v i j : Int} (hG : GeoR G) (hv : 0 ≤ v ∧ v < G.ws) (hb : benZ G v = 0) (hj : 0 ≤ j ∧ j < i) (hi : i ≤ G.mv v) : ¬ (G.px (25 * v + i) = G.px (25 * v + j) ∧ G.py (25 * v + i) = G.py (25 * v + j)) := by
  have hm := hG.mv v hv.1 hv.2
  obtain ⟨a1, a2⟩ := straightZ hG hv hb i (by omega) hi
  obtain ⟨b1, b2⟩ := straightZ hG hv hb j hj.1 (by omega)
  have h5 := hG.step v 0 hv.1 hv.2 (by omega) (by omega)
  rw [Int.add_zero] at h5
  rintro ⟨z1, z2⟩
  rcases h5 with h5 | h5 | h5 | h5
  · rw [show G.px (25 * v + 1) - G.px (25 * v) = 1 by omega] at a1 b1
    omega
  · rw [show G.py (25 * v + 1) - G.py (25 * v) = 1 by omega] at a2 b2
    omega
  · rw [show G.px (25 * v + 1) - G.px (25 * v) = -1 by omega] at a1 b1
    omega
  · rw [show G.py (25 * v + 1) - G.py (25 * v) = -1 by omega] at a2 b2
    omega
theorem sp227 {v : Int} (hI : PicOK P) (hR : RefOK P N) (hv : 0 ≤ v ∧ v < P.toGeo.ws) : Rn 227 [.ref 59, .int (J v)] (hs E (jm N)) (some (.int (J (bZ (0 < benZ P.toGeo v))))) (hs E (jm N)) := by
  have hws := hI.geo.ws
  have hm := hI.geo.mv v hv.1 hv.2
  have h8 := hI.geo.w
  have h9 := hI.geo.h
  have hbd := ben_bd hI.geo hv
  have h01 := bZ_01 (p := 0 < benZ P.toGeo v)
  have key : Ev 2 227 16 [some (.ref 59), some (.int (J v)), some (.int (J (bZ (0 < benZ P.toGeo v)))), some (.int (J 0)), none] [] (hs E (jm N)) (some (.int (J (bZ (0 < benZ P.toGeo v)))), (hs E (jm N))) := by
    refine loopZ (a := 0) (n := P.toGeo.mv v + 1) (Q := fun i => Ev 2 227 16 [some (.ref 59), some (.int (J v)), some (.int (J (bZ (0 < benZ P.toGeo v)))), some (.int (J i)), none] [] (hs E (jm N)) (_, _)) (by omega) ?_ ?_
    · refine v227_16 ?_
      rw [hR.mv]
      ((repeat' (first | omega | exact True.intro | exact absurd True.intro ‹¬ True› | apply And.intro | intro _)) <;> rfl)
    · intro i i1 i2 ih
      refine v227_16 ?_
      rw [hR.mv]
      refine ⟨by omega, by omega, by omega, fun z => absurd z (by omega), fun _ => ?_⟩
      refine loopZ (a := 0) (n := i) (Q := fun j => Ev 2 227 29 [some (.ref 59), some (.int (J v)), some (.int (J (bZ (0 < benZ P.toGeo v)))), some (.int (J i)), some (.int (J j))] [] (hs E (jm N)) (_, _)) i1 ?_ ?_
      · refine v227_29 ?_
        exact ⟨by omega, by omega, fun _ => ih, fun z => absurd (Int.le_refl _) z⟩
      · intro j j1 j2 ih2
        have a1 := hI.geo.px v i hv.1 hv.2 (by omega) (by omega)
        have a2 := hI.geo.py v i hv.1 hv.2 (by omega) (by omega)
        have a3 := hI.geo.px v j hv.1 hv.2 (by omega) (by omega)
        have a4 := hI.geo.py v j hv.1 hv.2 (by omega) (by omega)
        refine v227_29 ?_
        rw [hR.px, hR.py]
        by_cases q : 0 < benZ P.toGeo v
        · rw [bZ_t q] at ih2 ⊢
          exact ⟨by omega, by omega, fun z => absurd z (by omega), fun _ => ⟨by decide, fun z => absurd z (by decide), fun _ => ih2⟩⟩
        · have nb := noBack hI.geo hv (by omega) (i := i) (j := j) ⟨j1, j2⟩ (by omega)
          rw [bZ_f q] at ih2 ⊢
          exact ⟨by omega, by omega, fun z => absurd z (by omega), fun _ => ⟨by decide, fun _ => ⟨by omega, by omega, by omega, by omega, fun y => ⟨by omega, by omega, fun x => absurd ⟨y, x⟩ nb, fun _ => ih2⟩, fun _ => ih2⟩, fun z => absurd rfl z⟩⟩
  refine c227 (v227_0 ⟨_, sp226 hI hR hv, by omega, fun z => ?_, fun z => ?_⟩)
  · rw [bZ_f (by omega)] at key ⊢
    exact key
  · rw [bZ_t (by omega)] at key ⊢
    exact key
end WIR
