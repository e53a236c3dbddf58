/-! a new wire, on both sides -/
section WIS
variable {E : gw_N} {N : NM} {P : Pic} {x y : Int}
theorem sp158 {G : Geo} {v i e : Int} (hv : 0 ≤ v ∧ v < 30) (hi : 0 ≤ i ∧ i ≤ 24) (he : R e) (hR : ∀ j, 0 ≤ j → j < i → N 21 (24 * v + j) = eC G v j ∧ R (eC G v j)) : Rn 158 [.ref 14, .int (J v), .int (J i), .int (J e)] (hs E (jm N)) (some (.int (J (bZ (onK G v i e))))) (hs E (jm N)) := by
  refine c158 (v158_0 ?_)
  have h0 := loopZ (a := 0) (n := i) (Q := fun j => (¬ onK G v j e) → Ev 2 158 3 [some (.ref 14), some (.int (J v)), some (.int (J i)), some (.int (J e)), some (.int (J j))] [] (hs E (jm N)) (some (.int (J (bZ (onK G v i e)))), (hs E (jm N)))) hi.1 ?_ ?_
  · exact h0 exZ_0
  · intro hn
    refine v158_3 ⟨by omega, by omega, fun _ => ?_, fun z => absurd (Int.le_refl _) z⟩
    rw [bZ_f hn]
  · intro j j1 j2 ih hn
    obtain ⟨a1, a2⟩ := hR j j1 j2
    have e154 : G154 N v j = eC G v j := a1
    refine v158_3 ?_
    rw [e154]
    refine ⟨by omega, by omega, fun z => absurd z (by omega), fun _ => ⟨⟨by omega, trivial⟩, a2, he, fun z => ?_, fun z => ih ?_⟩⟩
    · rw [bZ_t ⟨j, j1, j2, z⟩]
    · intro q
      rcases (onK_s j1).mp q with q | q
      · exact hn q
      · exact z q
/-- what stands while a new wire is traced -/
def trI (P : Pic) (x y : Int) (N N1 : NM) (i : Int) : Prop :=
  N1 18 = updZ (N 18) P.toGeo.ws (sumZ i (fun k => bZ (0 < k ∧ bendAt (wG P x y) P.toGeo.ws k))) ∧ N1 19 = updZ (N 19) P.toGeo.ws (sumZ i (fun k => bZ (freshAt (wG P x y) P.toGeo.ws k))) ∧
  (∀ j, 0 ≤ j → j ≤ i → N1 20 (25 * P.toGeo.ws + j) = ptC (wG P x y) P.toGeo.ws j) ∧ (∀ q, q < 25 * P.toGeo.ws → N1 20 q = N 20 q) ∧
  (∀ j, 0 ≤ j → j < i → N1 21 (24 * P.toGeo.ws + j) = eC (wG P x y) P.toGeo.ws j) ∧ (∀ q, q < 24 * P.toGeo.ws → N1 21 q = N 21 q) ∧ ∀ a, (a < 18 ∨ 21 < a) → N1 a = N a
theorem sp157 (hI : PicOK P) (hC : PageOK P.toPag N) (hg : gpath P x y) (hws : P.toGeo.ws < 30) (h17 : N 17 P.toGeo.ws = P.toPag.pm) (h18 : N 18 P.toGeo.ws = 0) (h19 : N 19 P.toGeo.ws = 0) : ∃ N1, Rn 157 [.ref 14, .int (J (P.toGeo.ws)), .ref 12, .int (J x), .int (J y)] (hs E (jm N)) none (hs E (jm N1)) ∧ trI P x y N N1 P.toPag.pm := by
  have hw0 := hI.geo.ws
  have hpm := hg.1
  have hpm2 := hg.2.1
  have h8 := hI.geo.w
  have h9 := hI.geo.h
  have hGR := wG_R hI hg hws
  have ptb : ∀ i, 0 ≤ i → i ≤ P.toPag.pm → (0 ≤ wx P x i ∧ wx P x i ≤ 8) ∧ (0 ≤ wy P y i ∧ wy P y i ≤ 8) := by
    intro i i1 i2
    have := gp_pt hg i1 i2
    unfold isPt at this
    omega
  have ecb : ∀ i, 0 ≤ i → i < P.toPag.pm → 0 ≤ eC (wG P x y) P.toGeo.ws i ∧ eC (wG P x y) P.toGeo.ws i < 178 := fun i i1 i2 => ec_bd hGR ⟨hw0.1, by show P.toGeo.ws < P.toGeo.ws + 1; omega⟩ ⟨i1, by rw [wG_mv]; exact i2⟩
  have key := loopZ (a := 0) (n := P.toPag.pm) (Q := fun i => ∀ N1, trI P x y N N1 i → ∃ N2, trI P x y N N2 P.toPag.pm ∧ Ev 4 157 25 [some (.ref 14), some (.int (J (P.toGeo.ws))), some (.ref 12), none, none, some (.int (J (wx P x i))), some (.int (J (wy P y i))), some (.int (J i)), none, none] [] (hs E (jm N1)) (none, hs E (jm N2))) (by omega) ?_ ?_
  · have hq9 := key (upZ N 20 (updZ (N 20) (25 * P.toGeo.ws) (G48 N x y))) ⟨?_, ?_, ?_, ?_, fun j j1 j2 => absurd j2 (by omega), fun q hq => rfl, fun a ha => upZ_n (by omega)⟩
    · obtain ⟨N2, k1, k2⟩ := hq9
      rw [wx_0, wy_0] at k2
      exact ⟨N2, c157 (v157_0 ⟨by omega, k2⟩), k1⟩
    · show N 18 = _
      rw [sumZ_0, ← h18, updZ_id]
    · show N 19 = _
      rw [sumZ_0, ← h19, updZ_id]
    · intro j j1 j2
      have e : j = 0 := by omega
      show updZ (N 20) (25 * P.toGeo.ws) (G48 N x y) (25 * P.toGeo.ws + j) = _
      rw [e, wG_ptn (by omega), Int.add_zero, updZ_s, wx_0, wy_0]
      rfl
    · intro q hq
      show updZ (N 20) (25 * P.toGeo.ws) (G48 N x y) q = _
      rw [updZ_n (by omega)]
  · intro N1 h1
    refine ⟨N1, h1, v157_25 ?_⟩
    rw [h1.2.2.2.2.2.2 17 (by decide), h17]
    exact ⟨by omega, by omega, by omega, fun _ => rfl, fun z => absurd (Int.le_refl _) z⟩
  · intro i i1 i2 ih N1 h1
    obtain ⟨t1, t2, t3, t4, t5, t6, t7⟩ := h1
    have hC1 : PageOK P.toPag N1 := hC.fr (t7 _ (by decide)) (t7 _ (by decide))
    obtain ⟨a1, a2, a3, a4⟩ := way_n hI hC1 hg (i := i) ⟨i1, i2⟩
    have eec := ec_n (x := x) (y := y) hI hC1 hg (i := i) ⟨i1, i2⟩
    have heb := ecb i i1 i2
    have p1 := ptb i i1 (by omega)
    have p2 := ptb (i + 1) (by omega) (by omega)
    have e17 : N1 17 P.toGeo.ws = P.toPag.pm := by rw [t7 17 (by decide), h17]
    have e18 : N1 18 P.toGeo.ws = sumZ i (fun k => bZ (0 < k ∧ bendAt (wG P x y) P.toGeo.ws k)) := by rw [t1, updZ_s]
    have e19 : N1 19 P.toGeo.ws = sumZ i (fun k => bZ (freshAt (wG P x y) P.toGeo.ws k)) := by rw [t2, updZ_s]
    have h158 := sp158 (E := E) (N := N1) (G := wG P x y) (v := P.toGeo.ws) (i := i) (e := eC (wG P x y) P.toGeo.ws i) ⟨hw0.1, hws⟩ (by omega) (by omega) (fun j j1 j2 => ⟨t5 j j1 j2, by have := ecb j j1 (by omega); omega⟩)
    have m1 := bZ_01 (p := onK (wG P x y) P.toGeo.ws i (eC (wG P x y) P.toGeo.ws i))
    have efr : freshAt (wG P x y) P.toGeo.ws i ↔ ¬ onK (wG P x y) P.toGeo.ws i (eC (wG P x y) P.toGeo.ws i) := ⟨fun z ⟨j, j1, j2, j3⟩ => z j j1 j2 j3, fun z j j1 j2 j3 => z ⟨j, j1, j2, j3⟩⟩
    -- the next state, by the two bits
    have nx : ∀ α β, α = bZ (freshAt (wG P x y) P.toGeo.ws i) → β = bZ (0 < i ∧ bendAt (wG P x y) P.toGeo.ws i) → ∃ N2, trI P x y N N2 P.toPag.pm ∧ Ev 4 157 25 [some (.ref 14), some (.int (J (P.toGeo.ws))), some (.ref 12), none, none, some (.int (J (wx P x i + G53 N1 (G83 N1 i)))), some (.int (J (wy P y i + G54 N1 (G83 N1 i)))), some (.int (J (i + 1))), none, none] [] (hs E (jm (upZ (upZ (upZ (upZ N1 19 (updZ (N1 19) P.toGeo.ws (N1 19 P.toGeo.ws + α))) 18 (updZ (N1 18) P.toGeo.ws (N1 18 P.toGeo.ws + β))) 21 (updZ (N1 21) (24 * P.toGeo.ws + i) (eC (wG P x y) P.toGeo.ws i))) 20 (updZ (N1 20) (25 * P.toGeo.ws + i + 1) (G48 N1 (wx P x i + G53 N1 (G83 N1 i)) (wy P y i + G54 N1 (G83 N1 i))))))) (none, hs E (jm N2)) := by
      intro α β hα hβ
      rw [a3, a4, ← wx_s i1, ← wy_s i1]
      refine ih _ ⟨?_, ?_, ?_, ?_, ?_, ?_, ?_⟩
      · show updZ (N1 18) P.toGeo.ws (N1 18 P.toGeo.ws + β) = _
        rw [e18, hβ, sumZ_succ i1, t1]
        funext q
        unfold updZ
        split <;> rfl
      · show updZ (N1 19) P.toGeo.ws (N1 19 P.toGeo.ws + α) = _
        rw [e19, hα, sumZ_succ i1, t2]
        funext q
        unfold updZ
        split <;> rfl
      · intro j j1 j2
        show updZ (N1 20) (25 * P.toGeo.ws + i + 1) _ (25 * P.toGeo.ws + j) = _
        by_cases q : j = i + 1
        · rw [q, ← Int.add_assoc, updZ_s, wG_ptn (by omega)]
          rfl
        · rw [updZ_n (by omega)]
          exact t3 j j1 (by omega)
      · intro q hq
        show updZ (N1 20) (25 * P.toGeo.ws + i + 1) _ q = _
        rw [updZ_n (by omega)]
        exact t4 q hq
      · intro j j1 j2
        show updZ (N1 21) (24 * P.toGeo.ws + i) _ (24 * P.toGeo.ws + j) = _
        by_cases q : j = i
        · rw [q, updZ_s]
        · rw [updZ_n (by omega)]
          exact t5 j j1 (by omega)
      · intro q hq
        show updZ (N1 21) (24 * P.toGeo.ws + i) _ q = _
        rw [updZ_n (by omega)]
        exact t6 q hq
      · intro a ha
        rw [upZ_n (by omega), upZ_n (by omega), upZ_n (by omega), upZ_n (by omega)]
        exact t7 a ha
    have q52 : Q52 N1 (wx P x i) (wy P y i) (G83 N1 i) := by unfold Q52; (repeat' (first | omega | exact True.intro | exact absurd True.intro ‹¬ True› | apply And.intro | intro _))
    have q53 : ∀ N' : NM, Q53 N' (G83 N1 i) := by intro N'; unfold Q53; (repeat' (first | omega | exact True.intro | exact absurd True.intro ‹¬ True› | apply And.intro | intro _))
    have q54 : ∀ N' : NM, Q54 N' (G83 N1 i) := by intro N'; unfold Q54; (repeat' (first | omega | exact True.intro | exact absurd True.intro ‹¬ True› | apply And.intro | intro _))
    have q206 : ∀ (N' : NM) (b : Int), b = 0 ∨ b = 1 → Q206 N' b := by intro N' b hb; exact ⟨by omega, fun _ => trivial, fun _ => trivial⟩
    obtain ⟨N2, k1, k2⟩ := nx _ _ rfl rfl
    refine ⟨N2, k1, v157_25 ?_⟩
    rw [e17, eec]
    refine ⟨by omega, by omega, by omega, fun z => absurd z (by omega), fun _ => ⟨a1, q52, _, h158, by omega, fun z => ⟨q206 _ _ (Or.inr rfl), fun w => ?_, fun w => ?_⟩, fun z => ⟨q206 _ _ (Or.inl rfl), fun w => ?_, fun w => ?_⟩⟩⟩
    · refine ⟨q206 _ _ (Or.inl rfl), by omega, q53 _, q54 _, by omega, ?_⟩
      rw [bZ_t (efr.mpr (bZ_0.mp z)), bZ_f (fun q => by have := q.1; omega)] at k2
      exact k2
    · obtain ⟨b1, b2, b3, b4⟩ := way_n hI hC1 hg (i := i - 1) (by omega)
      have hb := bend_n (x := x) (y := y) hI hC1 hg (i := i) (by omega)
      refine ⟨b1, by omega, (show R (G83 N1 (i - 1)) by omega), fun v => ⟨q206 _ _ (Or.inl rfl), by omega, q53 _, q54 _, by omega, ?_⟩, fun v => ⟨q206 _ _ (Or.inr rfl), by omega, q53 _, q54 _, by omega, ?_⟩⟩
      · rw [bZ_t (efr.mpr (bZ_0.mp z)), bZ_f (fun q => hb.mp q.2 v)] at k2
        exact k2
      · rw [bZ_t (efr.mpr (bZ_0.mp z)), bZ_t ⟨by omega, hb.mpr v⟩] at k2
        exact k2
    · refine ⟨q206 _ _ (Or.inl rfl), by omega, q53 _, q54 _, by omega, ?_⟩
      rw [bZ_f (fun q => efr.mp q (bZ_1.mp (by omega))), bZ_f (fun q => by have := q.1; omega)] at k2
      exact k2
    · obtain ⟨b1, b2, b3, b4⟩ := way_n hI hC1 hg (i := i - 1) (by omega)
      have hb := bend_n (x := x) (y := y) hI hC1 hg (i := i) (by omega)
      refine ⟨b1, by omega, (show R (G83 N1 (i - 1)) by omega), fun v => ⟨q206 _ _ (Or.inl rfl), by omega, q53 _, q54 _, by omega, ?_⟩, fun v => ⟨q206 _ _ (Or.inr rfl), by omega, q53 _, q54 _, by omega, ?_⟩⟩
      · rw [bZ_f (fun q => efr.mp q (bZ_1.mp (by omega))), bZ_f (fun q => hb.mp q.2 v)] at k2
        exact k2
      · rw [bZ_f (fun q => efr.mp q (bZ_1.mp (by omega))), bZ_t ⟨by omega, hb.mpr v⟩] at k2
        exact k2
theorem sp156 (hI : PicOK P) (hC : ClsOK P N) (hg : gpath P x y) (hws : P.toGeo.ws < 30) : ∃ N1, Rn 156 [.ref 14, .ref 12, .int (J x), .int (J y)] (hs E (jm N)) (some (.int (J P.toGeo.ws))) (hs E (jm N1)) ∧ WiresOK (wG P x y) N1 ∧ ∀ a, (a < 14 ∨ 21 < a) → N1 a = N a := by
  have hw0 := hI.geo.ws
  have hpm := hg.1
  have hpm2 := hg.2.1
  have hw := hC.wires
  have e7 : N 14 7 = P.toGeo.ws := hw.ws
  have e312 : ∀ N' : NM, N' 12 = N 12 → G312 N' (G78 N') 24 = P.toPag.pm := by
    intro N' h
    have : G78 N' = P.toPag.pm := by
      show N' 12 1 = _
      rw [h]
      exact hC.page.pm
    unfold G312
    rw [this, if_neg (by omega)]
  obtain ⟨N1, r1, t1, t2, t3, t4, t5, t6, t7⟩ := sp157 (E := E) (N := upZ (upZ (upZ (upZ (upZ (upZ N 14 (updZ (N 14) 7 (P.toGeo.ws + 1))) 15 (updZ (N 15) P.toGeo.ws 1)) 16 (updZ (N 16) P.toGeo.ws 0)) 17 (updZ (N 17) P.toGeo.ws P.toPag.pm)) 18 (updZ (N 18) P.toGeo.ws 0)) 19 (updZ (N 19) P.toGeo.ws 0)) hI (x := x) (y := y) hC.page hg hws updZ_s updZ_s updZ_s
  refine ⟨N1, c156 (v156_0 ?_), ?_, ?_⟩
  · rw [e7, e312 (upZ (upZ (upZ N 14 (updZ (N 14) 7 (P.toGeo.ws + 1))) 15 (updZ (N 15) P.toGeo.ws 1)) 16 (updZ (N 16) P.toGeo.ws 0)) rfl]
    refine ⟨by omega, fun _ => ⟨by omega, ?_, N1, r1, rfl⟩, fun z => absurd hws z⟩
    have e78 : G78 (upZ (upZ (upZ N 14 (updZ (N 14) 7 (P.toGeo.ws + 1))) 15 (updZ (N 15) P.toGeo.ws 1)) 16 (updZ (N 16) P.toGeo.ws 0)) = P.toPag.pm := hC.page.pm
    rw [e78]
    unfold Q312
    (repeat' (first | omega | exact True.intro | exact absurd True.intro ‹¬ True› | apply And.intro | intro _))
  · have o18 : ∀ v, v < P.toGeo.ws → N1 18 v = N 18 v := by
      intro v hv
      rw [t1, updZ_n (by omega)]
      show updZ (N 18) P.toGeo.ws 0 v = _
      rw [updZ_n (by omega)]
    have o19 : ∀ v, v < P.toGeo.ws → N1 19 v = N 19 v := by
      intro v hv
      rw [t2, updZ_n (by omega)]
      show updZ (N 19) P.toGeo.ws 0 v = _
      rw [updZ_n (by omega)]
    refine WiresOK.mk ?_ ?_ ?_ ?_ ?_ ?_ ?_ ?_
    · rw [t7 14 (by decide)]
      show updZ (N 14) 7 (P.toGeo.ws + 1) 7 = P.toGeo.ws + 1
      exact updZ_s
    · intro v v1 v2
      replace v2 : v < P.toGeo.ws + 1 := v2
      rw [t7 15 (by decide)]
      show updZ (N 15) P.toGeo.ws 1 v = updZ P.toGeo.laid P.toGeo.ws 1 v
      by_cases q : v = P.toGeo.ws
      · rw [q, updZ_s, updZ_s]
      · rw [updZ_n q, updZ_n q]
        exact hw.laid v v1 (by omega)
    · intro v v1 v2
      replace v2 : v < P.toGeo.ws + 1 := v2
      rw [t7 16 (by decide)]
      show updZ (N 16) P.toGeo.ws 0 v = updZ P.toGeo.sold P.toGeo.ws 0 v
      by_cases q : v = P.toGeo.ws
      · rw [q, updZ_s, updZ_s]
      · rw [updZ_n q, updZ_n q]
        exact hw.sold v v1 (by omega)
    · intro v v1 v2
      replace v2 : v < P.toGeo.ws + 1 := v2
      rw [t7 17 (by decide)]
      show updZ (N 17) P.toGeo.ws P.toPag.pm v = updZ P.toGeo.mv P.toGeo.ws P.toPag.pm v
      by_cases q : v = P.toGeo.ws
      · rw [q, updZ_s, updZ_s]
      · rw [updZ_n q, updZ_n q]
        exact hw.mv v v1 (by omega)
    · intro v v1 v2
      replace v2 : v < P.toGeo.ws + 1 := v2
      by_cases q : v = P.toGeo.ws
      · rw [q, t1, updZ_s]
        unfold benZ
        rw [wG_mv]
      · rw [o18 v (by omega), wG_ben hI v1 (by omega)]
        exact hw.ben v v1 (by omega)
    · intro v v1 v2
      replace v2 : v < P.toGeo.ws + 1 := v2
      by_cases q : v = P.toGeo.ws
      · rw [q, t2, updZ_s]
        unfold edgZ
        rw [wG_mv]
      · rw [o19 v (by omega), wG_edg hI v1 (by omega)]
        exact hw.edg v v1 (by omega)
    · intro v i v1 v2 i1 i2
      replace v2 : v < P.toGeo.ws + 1 := v2
      by_cases q : v = P.toGeo.ws
      · rw [q, wG_mv] at i2
        rw [q]
        exact t3 i i1 i2
      · rw [wG_mvo (by omega)] at i2
        have hm := hI.geo.mv v v1 (by omega)
        rw [t4 _ (by omega), wG_pt (by omega) (by omega)]
        exact hw.pt v i v1 (by omega) i1 i2
    · intro v i v1 v2 i1 i2
      replace v2 : v < P.toGeo.ws + 1 := v2
      by_cases q : v = P.toGeo.ws
      · rw [q, wG_mv] at i2
        rw [q]
        exact t5 i i1 i2
      · rw [wG_mvo (by omega)] at i2
        have hm := hI.geo.mv v v1 (by omega)
        rw [t6 _ (by omega), wG_ec (by omega) (by omega)]
        exact hw.er v i v1 (by omega) i1 i2
  · intro a ha
    rw [t7 a (by omega), upZ_n (by omega), upZ_n (by omega), upZ_n (by omega), upZ_n (by omega), upZ_n (by omega), upZ_n (by omega)]
theorem pxF_0 (h : P.toGeo.px = N 61) : updZ (N 61) (25 * P.toGeo.ws) x = pxF P x 0 := by
  funext q
  unfold updZ pxF
  rw [h]
  by_cases e : q = 25 * P.toGeo.ws
  · rw [if_pos e, if_pos (by omega), e, show 25 * P.toGeo.ws - 25 * P.toGeo.ws = 0 by omega, wx_0]
  · rw [if_neg e, if_neg (by omega)]
theorem pyF_0 (h : P.toGeo.py = N 62) : updZ (N 62) (25 * P.toGeo.ws) y = pyF P y 0 := by
  funext q
  unfold updZ pyF
  rw [h]
  by_cases e : q = 25 * P.toGeo.ws
  · rw [if_pos e, if_pos (by omega), e, show 25 * P.toGeo.ws - 25 * P.toGeo.ws = 0 by omega, wy_0]
  · rw [if_neg e, if_neg (by omega)]
theorem pxF_s {k : Int} (hk : 0 ≤ k) : updZ (pxF P x k) (25 * P.toGeo.ws + k + 1) (pxF P x k (25 * P.toGeo.ws + k) + stX (P.toPag.pg k)) = pxF P x (k + 1) := by
  rw [pxF_new ⟨hk, Int.le_refl _⟩, ← wx_s hk]
  funext q
  unfold updZ pxF
  by_cases e : q = 25 * P.toGeo.ws + k + 1
  · rw [if_pos e, if_pos (by omega), e, show 25 * P.toGeo.ws + k + 1 - 25 * P.toGeo.ws = k + 1 by omega]
  · rw [if_neg e]
    by_cases e2 : 25 * P.toGeo.ws ≤ q ∧ q ≤ 25 * P.toGeo.ws + k
    · rw [if_pos e2, if_pos (by omega)]
    · rw [if_neg e2, if_neg (by omega)]
theorem pyF_s {k : Int} (hk : 0 ≤ k) : updZ (pyF P y k) (25 * P.toGeo.ws + k + 1) (pyF P y k (25 * P.toGeo.ws + k) + stY (P.toPag.pg k)) = pyF P y (k + 1) := by
  rw [pyF_new ⟨hk, Int.le_refl _⟩, ← wy_s hk]
  funext q
  unfold updZ pyF
  by_cases e : q = 25 * P.toGeo.ws + k + 1
  · rw [if_pos e, if_pos (by omega), e, show 25 * P.toGeo.ws + k + 1 - 25 * P.toGeo.ws = k + 1 by omega]
  · rw [if_neg e]
    by_cases e2 : 25 * P.toGeo.ws ≤ q ∧ q ≤ 25 * P.toGeo.ws + k
    · rw [if_pos e2, if_pos (by omega)]
    · rw [if_neg e2, if_neg (by omega)]
theorem r219 (hI : PicOK P) (hR : RefOK P N) (hg : gpath P x y) (hws : P.toGeo.ws < 30) : Ev 4 219 72 [some (.ref 59), none, none, some (.int (J (25 * P.toGeo.ws))), some (.int (J 0))] [] (hs E (jm (upZ (upZ N 61 (updZ (N 61) (25 * P.toGeo.ws) x)) 62 (updZ (N 62) (25 * P.toGeo.ws) y)))) (some (.int (J P.toGeo.ws)), hs E (jm (upZ (upZ (upZ (upZ (upZ (upZ N 61 (pxF P x P.toPag.pm)) 62 (pyF P y P.toPag.pm)) 63 (updZ (N 63) P.toGeo.ws P.toPag.pm)) 64 (updZ (N 64) P.toGeo.ws 1)) 65 (updZ (N 65) P.toGeo.ws 0)) 59 (updZ (updZ (N 59) 3 0) 4 (P.toGeo.ws + 1))))) := by
  have hw0 := hI.geo.ws
  have hpm := hg.1
  have hpm2 := hg.2.1
  rw [pxF_0 hR.px.symm, pyF_0 hR.py.symm]
  refine loopZ (a := 0) (n := P.toPag.pm) (Q := fun k => Ev 4 219 72 [some (.ref 59), none, none, some (.int (J (25 * P.toGeo.ws))), some (.int (J k))] [] (hs E (jm (upZ (upZ N 61 (pxF P x k)) 62 (pyF P y k)))) (_, _)) (by omega) ?_ ?_
  · refine v219_72 ?_
    have e3 : (upZ (upZ N 61 (pxF P x P.toPag.pm)) 62 (pyF P y P.toPag.pm)) 59 3 = P.toPag.pm := hR.pm
    have e4 : (upZ (upZ N 61 (pxF P x P.toPag.pm)) 62 (pyF P y P.toPag.pm)) 59 4 = P.toGeo.ws := hR.ws
    have e5 : updZ ((upZ (upZ N 61 (pxF P x P.toPag.pm)) 62 (pyF P y P.toPag.pm)) 59) 3 0 4 = P.toGeo.ws := by
      rw [updZ_n (by decide)]
      exact e4
    rw [e3, e4, e5]
    refine ⟨by omega, by omega, fun _ => ⟨by omega, ?_⟩, fun z => absurd (Int.le_refl _) z⟩
    rw [updZ_s, show P.toGeo.ws + 1 - 1 = P.toGeo.ws by omega]
    rfl
  · intro k k1 k2 ih
    have e3 : (upZ (upZ N 61 (pxF P x k)) 62 (pyF P y k)) 59 3 = P.toPag.pm := hR.pm
    have e60 : (upZ (upZ N 61 (pxF P x k)) 62 (pyF P y k)) 60 = P.toPag.pg := hR.pg
    have hr := hI.pag.pg k k1 k2
    refine v219_72 ?_
    rw [e3, e60]
    refine ⟨by omega, by omega, fun z => absurd z (by omega), fun _ => ⟨by omega, by omega, ?_, by omega, ?_, ?_⟩⟩
    · unfold Q215; (repeat' (first | omega | exact True.intro | exact absurd True.intro ‹¬ True› | apply And.intro | intro _))
    · unfold Q216; (repeat' (first | omega | exact True.intro | exact absurd True.intro ‹¬ True› | apply And.intro | intro _))
    · have ih' := ih
      rw [← pxF_s k1, ← pyF_s k1] at ih'
      have em : upZ (upZ (upZ (upZ N 61 (pxF P x k)) 62 (pyF P y k)) 61 (updZ (pxF P x k) (25 * P.toGeo.ws + k + 1) (pxF P x k (25 * P.toGeo.ws + k) + stX (P.toPag.pg k)))) 62 (updZ (pyF P y k) (25 * P.toGeo.ws + k + 1) (pyF P y k (25 * P.toGeo.ws + k) + stY (P.toPag.pg k))) = upZ (upZ N 61 (updZ (pxF P x k) (25 * P.toGeo.ws + k + 1) (pxF P x k (25 * P.toGeo.ws + k) + stX (P.toPag.pg k)))) 62 (updZ (pyF P y k) (25 * P.toGeo.ws + k + 1) (pyF P y k (25 * P.toGeo.ws + k) + stY (P.toPag.pg k))) := by
        rw [upZ_cm (a := 62) (c := 61) (by decide), upZ_up, upZ_up]
      rw [← em] at ih'
      exact ih'
theorem op_wire {x1 x2 : Int} (hI : GInv P N) (h1 : R x1) (h2 : R x2) : Both E N 165 219 [.int (J x1), .int (J x2)] := by
  have hC := hI.cls
  have hK := hI.ok
  have hws := hK.geo.ws
  have hpm := hK.pag.pm
  obtain ⟨a1, a2⟩ := cPt hK.geo hC.grid h1 h2
  have b : ∀ N', RefOK P N' → G214 N' x1 x2 = bZ (isPt P.toGeo x1 x2) ∧ Q214 N' x1 x2 := fun N' hR => r214 hK hR h1 h2
  by_cases hp : isPt P.toGeo x1 x2
  · have hgb := goo_bd (P := P) (x := x1) (y := x2) hK
    have h84 := sp84 (E := E) hK hC hp
    have h217 : ∀ N', RefOK P N' → Rn 217 [.ref 59, .int (J x1), .int (J x2)] (hs E (jm N')) (some (.int (J (gooF P 24 0 x1 x2)))) (hs E (jm N')) := fun N' hR => sp217 (E := E) hK hR hp
    have e12 : N 12 1 = P.toPag.pm := hC.page.pm
    have h85 : Rn 85 [.ref 12, .ref 9, .int (J x1), .int (J x2)] (hs E (jm N)) (some (.int (J (bZ (¬ P.toPag.pm = 0 ∧ gooF P 24 0 x1 x2 = P.toPag.pm))))) (hs E (jm N)) := by
      refine c85 (v85_0 ?_)
      rw [e12]
      refine ⟨by omega, fun z => ?_, fun z => ⟨_, h84, by omega, fun w => ?_, fun w => ?_⟩⟩
      · rw [bZ_f (fun q => by have := q.1; omega)]
      · rw [bZ_t ⟨by omega, w⟩]
      · rw [bZ_f (fun q => w q.2)]
    have m1 := bZ_01 (p := ¬ P.toPag.pm = 0 ∧ gooF P 24 0 x1 x2 = P.toPag.pm)
    by_cases hg : ¬ P.toPag.pm = 0 ∧ gooF P 24 0 x1 x2 = P.toPag.pm
    · have hgp := gpath_of hK hp hg.1 hg.2
      by_cases hf : P.toGeo.ws < 30
      · refine both (r := .int (J P.toGeo.ws)) (P' := Pic.mk (wG P x1 x2) (Pag.mk 0 P.toPag.pg) P.toPal P.toGla P.toTen P.toRod) hI (PicOK.mk (wG_R hK hgp hf) (PagR.mk ⟨Int.le_refl _, (by decide : (0 : Int) ≤ 40)⟩ (fun i z w => absurd w (by show ¬ i < 0; omega))) hK.pal hK.gla hK.ten hK.rod) ?_ ?_
        · obtain ⟨N1, r1, w1, s1⟩ := sp156 (E := E) hK hC hgp hf
          have r79 : Rn 79 [.ref 12] (hs E (jm N1)) (some (.int (J (N1 12 1)))) (hs E (jm (upZ N1 12 (updZ (N1 12) 1 0)))) := c79 (v79_0 rfl)
          obtain ⟨N', r, k1, k2⟩ := renew_ok (E := E) (N := upZ N1 12 (updZ (N1 12) 1 0)) (P' := Pic.mk (wG P x1 x2) (Pag.mk 0 P.toPag.pg) P.toPal P.toGla P.toTen P.toRod) (wG_R hK hgp hf)
            (GridOK.fr (G := wG P x1 x2) (N := N) hC.grid (s1 9 (by decide)) (s1 10 (by decide)) (s1 11 (by decide)))
            (PageOK.mk (by show updZ (N1 12) 1 0 1 = 0; exact updZ_s) (fun i z w => absurd w (by show ¬ i < 0; omega)))
            w1 (hC.pal.fr (s1 41 (by decide)) (s1 42 (by decide)) (s1 43 (by decide))) (hC.glass.fr (s1 44 (by decide)) (s1 45 (by decide)) (s1 46 (by decide)) (s1 47 (by decide)) (s1 48 (by decide))) (hC.ten.fr (s1 53 (by decide))) (hC.rods.fr (s1 54 (by decide)) (s1 55 (by decide)) (s1 56 (by decide)))
          refine ⟨N', c165 (v165_0 ?_), k1, fun a ha => ?_⟩
          · rw [a1, bZ_t hp]
            refine ⟨a2, by decide, fun z => absurd z (by decide), fun _ => ⟨_, h85, by omega, fun z => absurd hg (bZ_0.mp z), fun _ => ⟨_, N1, r1, by omega, fun z => absurd z (by omega), fun _ => ⟨_, _, r79, N', r, rfl⟩⟩⟩⟩
          · rw [k2 a (by omega), upZ_n (by omega)]
            exact s1 a (by omega)
        · intro N9 h
          obtain ⟨b1, b2⟩ := b N9 h
          have hr := r219 (E := E) hK h hgp hf
          refine ⟨upZ (upZ (upZ (upZ (upZ (upZ N9 61 (pxF P x1 P.toPag.pm)) 62 (pyF P x2 P.toPag.pm)) 63 (updZ (N9 63) P.toGeo.ws P.toPag.pm)) 64 (updZ (N9 64) P.toGeo.ws 1)) 65 (updZ (N9 65) P.toGeo.ws 0)) 59 (updZ (updZ (N9 59) 3 0) 4 (P.toGeo.ws + 1)), c219 (v219_0 ?_), ?_, ?_⟩
          · rw [b1, bZ_t hp, h.pm, h.ws]
            exact ⟨b2, by decide, fun z => absurd z (by decide), fun _ => ⟨by omega, fun z => absurd z hg.1, fun _ => ⟨_, h217 N9 h, by omega, fun _ => ⟨by omega, fun z => by omega, fun _ => ⟨by omega, hr⟩⟩, fun z => absurd (by omega) z⟩⟩⟩
          · refine RefOK.mk h.w h.h ?_ ?_ h.wall h.stiff h.bear h.fires h.bc h.bt h.rods h.pg rfl rfl ?_ ?_ ?_ h.heat h.shr h.pul h.foe h.lay h.col h.thk h.sta h.rl h.rm
            · show updZ (updZ (N9 59) 3 0) 4 (P.toGeo.ws + 1) 3 = 0
              rw [updZ_n (by decide), updZ_s]
            · show updZ (updZ (N9 59) 3 0) 4 (P.toGeo.ws + 1) 4 = P.toGeo.ws + 1
              rw [updZ_s]
            · show updZ (N9 63) P.toGeo.ws P.toPag.pm = updZ P.toGeo.mv P.toGeo.ws P.toPag.pm
              rw [h.mv]
            · show updZ (N9 64) P.toGeo.ws 1 = updZ P.toGeo.laid P.toGeo.ws 1
              rw [h.laid]
            · show updZ (N9 65) P.toGeo.ws 0 = updZ P.toGeo.sold P.toGeo.ws 0
              rw [h.sold]
          · (intro a ha; repeat rw [upZ_n (by omega)])
      · refine both_same (r := .int (J (-104))) hI (c165 (v165_0 ?_)) (c219 (v219_0 ?_))
        · rw [a1, bZ_t hp]
          have h156 : Rn 156 [.ref 14, .ref 12, .int (J x1), .int (J x2)] (hs E (jm N)) (some (.int (J (-104)))) (hs E (jm N)) := by
            refine c156 (v156_0 ?_)
            rw [hC.wires.ws]
            exact ⟨by omega, fun z => absurd z hf, fun _ => rfl⟩
          exact ⟨a2, by decide, fun z => absurd z (by decide), fun _ => ⟨_, h85, by omega, fun z => absurd hg (bZ_0.mp z), fun _ => ⟨_, _, h156, by decide, fun _ => rfl, fun z => absurd (by decide) z⟩⟩⟩
        · obtain ⟨b1, b2⟩ := b N hI.ref
          rw [b1, bZ_t hp, hI.ref.pm, hI.ref.ws]
          exact ⟨b2, by decide, fun z => absurd z (by decide), fun _ => ⟨by omega, fun z => absurd z hg.1, fun _ => ⟨_, h217 N hI.ref, by omega, fun _ => ⟨by omega, fun _ => rfl, fun z => absurd (by omega) z⟩, fun z => absurd (by omega) z⟩⟩⟩
    · refine both_same (r := .int (J (-103))) hI (c165 (v165_0 ?_)) (c219 (v219_0 ?_))
      · rw [a1, bZ_t hp]
        exact ⟨a2, by decide, fun z => absurd z (by decide), fun _ => ⟨_, h85, by omega, fun _ => rfl, fun z => absurd (bZ_f hg) z⟩⟩
      · obtain ⟨b1, b2⟩ := b N hI.ref
        rw [b1, bZ_t hp, hI.ref.pm, hI.ref.ws]
        exact ⟨b2, by decide, fun z => absurd z (by decide), fun _ => ⟨by omega, fun _ => rfl, fun z => ⟨_, h217 N hI.ref, by omega, fun w => absurd ⟨z, by omega⟩ hg, fun _ => rfl⟩⟩⟩
  · refine both_same (r := .int (J (-101))) hI (c165 (v165_0 ?_)) (c219 (v219_0 ?_))
    · rw [a1, bZ_f hp]
      exact ⟨a2, by decide, fun _ => rfl, fun z => absurd rfl z⟩
    · obtain ⟨b1, b2⟩ := b N hI.ref
      rw [b1, bZ_f hp]
      exact ⟨b2, by decide, fun _ => rfl, fun z => absurd rfl z⟩
end WIS
