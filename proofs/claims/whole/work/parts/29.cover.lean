/-! the reference's edges and covers -/
section COV
variable {E : gw_N} {N : NM} {P : Pic} {G : Geo}
def eR (G : Geo) (v i : Int) : Int :=
  (if G.px (25 * v + i) = G.px (25 * v + i + 1) then 81 else 0) + 9 * min (G.py (25 * v + i)) (G.py (25 * v + i + 1)) + min (G.px (25 * v + i)) (G.px (25 * v + i + 1))
/-- the program's number of an edge, from the reference's -/
def toC (e : Int) : Int := 89 * (e / 81) + 10 * (e % 81 / 9) + e % 81 % 9
theorem toC_inj {a b : Int} (ha : 0 ≤ a ∧ a < 162) (hb : 0 ≤ b ∧ b < 162) (h : toC a = toC b) : a = b := by
  unfold toC at h
  have h1 : a / 81 = 0 ∨ a / 81 = 1 := by omega
  have h2 : b / 81 = 0 ∨ b / 81 = 1 := by omega
  have h3 : 0 ≤ a % 81 / 9 ∧ a % 81 / 9 ≤ 8 := by omega
  have h4 : 0 ≤ b % 81 / 9 ∧ b % 81 / 9 ≤ 8 := by omega
  have h5 : a % 81 = 9 * (a % 81 / 9) + a % 81 % 9 := by omega
  have h6 : b % 81 = 9 * (b % 81 / 9) + b % 81 % 9 := by omega
  have h7 : 0 ≤ a % 81 % 9 ∧ a % 81 % 9 ≤ 8 := by omega
  have h8 : 0 ≤ b % 81 % 9 ∧ b % 81 % 9 ≤ 8 := by omega
  have e1 : a = 81 * (a / 81) + a % 81 := by omega
  have e2 : b = 81 * (b / 81) + b % 81 := by omega
  generalize a % 81 / 9 = p at *
  generalize a % 81 % 9 = q at *
  generalize b % 81 / 9 = r at *
  generalize b % 81 % 9 = s at *
  rcases h1 with h1 | h1 <;> rcases h2 with h2 | h2 <;> rw [h1] at h e1 <;> rw [h2] at h e2 <;> omega
theorem toC_bd {a : Int} (ha : 0 ≤ a ∧ a < 162) : 0 ≤ toC a ∧ toC a < 178 := by unfold toC; omega
theorem eR_spec (hG : GeoR G) {v i : Int} (hv : 0 ≤ v ∧ v < G.ws) (hi : 0 ≤ i ∧ i < G.mv v) : eC G v i = toC (eR G v i) ∧ 0 ≤ eR G v i ∧ eR G v i < 162 := by
  have h1 := hG.px v i hv.1 hv.2 hi.1 (by omega)
  have h2 := hG.py v i hv.1 hv.2 hi.1 (by omega)
  have h3 := hG.px v (i + 1) hv.1 hv.2 (by omega) (by omega)
  have h4 := hG.py v (i + 1) hv.1 hv.2 (by omega) (by omega)
  have h5 := hG.step v i hv.1 hv.2 hi.1 hi.2
  have hw := hG.w
  have hh := hG.h
  rw [← Int.add_assoc] at h3 h4
  unfold eC eR toC
  rcases h5 with h5 | h5 | h5 | h5
  · rw [if_neg (by omega), if_neg (by omega)]; omega
  · rw [if_pos (by omega), if_pos (by omega)]; omega
  · rw [if_neg (by omega), if_neg (by omega)]; omega
  · rw [if_pos (by omega), if_pos (by omega)]; omega
theorem G223_e (hR : RefOK P N) {v i : Int} : G223 N v i = eR P.toGeo v i := by
  unfold G223 eR
  rw [hR.px, hR.py]
  by_cases a : P.toGeo.px (25 * v + i + 1) ≤ P.toGeo.px (25 * v + i)
  · rw [if_pos a]
    by_cases b : P.toGeo.py (25 * v + i + 1) ≤ P.toGeo.py (25 * v + i)
    · rw [if_pos b]
      by_cases c : P.toGeo.px (25 * v + i) = P.toGeo.px (25 * v + i + 1)
      · rw [if_pos c, if_pos c]; omega
      · rw [if_neg c, if_neg c]; omega
    · rw [if_neg b]
      by_cases c : P.toGeo.px (25 * v + i) = P.toGeo.px (25 * v + i + 1)
      · rw [if_pos c, if_pos c]; omega
      · rw [if_neg c, if_neg c]; omega
  · rw [if_neg a]
    by_cases b : P.toGeo.py (25 * v + i + 1) ≤ P.toGeo.py (25 * v + i)
    · rw [if_pos b]
      by_cases c : P.toGeo.px (25 * v + i) = P.toGeo.px (25 * v + i + 1)
      · rw [if_pos c, if_pos c]; omega
      · rw [if_neg c, if_neg c]; omega
    · rw [if_neg b]
      by_cases c : P.toGeo.px (25 * v + i) = P.toGeo.px (25 * v + i + 1)
      · rw [if_pos c, if_pos c]; omega
      · rw [if_neg c, if_neg c]; omega
theorem Q223_e (hI : PicOK P) (hR : RefOK P N) {v i : Int} (hv : 0 ≤ v ∧ v < P.toGeo.ws) (hi : 0 ≤ i ∧ i < P.toGeo.mv v) : Q223 N v i := by
  have hs1 := hI.geo.ws
  have hm := hI.geo.mv v hv.1 hv.2
  have h1 := hI.geo.px v i hv.1 hv.2 hi.1 (by omega)
  have h2 := hI.geo.py v i hv.1 hv.2 hi.1 (by omega)
  have h3 := hI.geo.px v (i + 1) hv.1 hv.2 (by omega) (by omega)
  have h4 := hI.geo.py v (i + 1) hv.1 hv.2 (by omega) (by omega)
  have hw := hI.geo.w
  have hh := hI.geo.h
  rw [← Int.add_assoc] at h3 h4
  unfold Q223
  rw [hR.px, hR.py]
  (repeat' (first | omega | exact True.intro | exact absurd True.intro ‹¬ True› | apply And.intro | intro _))
def onR (G : Geo) (v k e : Int) : Prop := ∃ j, 0 ≤ j ∧ j < k ∧ eR G v j = e
noncomputable def covF (G : Geo) (f0 : Int → Int) (w k : Int) : Int → Int := fun e =>
  @ite Int (0 ≤ e ∧ e < 162) (Classical.propDecidable _) (sumZ w (fun v => bZ (G.laid v = 1 ∧ onR G v (G.mv v) e)) + bZ (G.laid w = 1 ∧ onR G w k e)) (f0 e)
theorem covF_in {f0 : Int → Int} {w k e : Int} (h : 0 ≤ e ∧ e < 162) : covF G f0 w k e = sumZ w (fun v => bZ (G.laid v = 1 ∧ onR G v (G.mv v) e)) + bZ (G.laid w = 1 ∧ onR G w k e) := if_pos h
theorem covF_out {f0 : Int → Int} {w k e : Int} (h : ¬ (0 ≤ e ∧ e < 162)) : covF G f0 w k e = f0 e := if_neg h
theorem onR_0 {v e : Int} : ¬ onR G v 0 e := exZ_0
theorem covF_next {f0 : Int → Int} {w : Int} (hw : 0 ≤ w) : covF G f0 w (G.mv w) = covF G f0 (w + 1) 0 := by
  funext e
  by_cases h : 0 ≤ e ∧ e < 162
  · rw [covF_in h, covF_in h, sumZ_succ hw, bZ_f (show ¬ (G.laid (w + 1) = 1 ∧ onR G (w + 1) 0 e) from fun k => onR_0 k.2), Int.add_zero]
  · rw [covF_out h, covF_out h]
theorem covF_skip {f0 : Int → Int} {w k : Int} (hw : 0 ≤ w) (hl : ¬ G.laid w = 1) : covF G f0 w k = covF G f0 (w + 1) 0 := by
  funext e
  by_cases h : 0 ≤ e ∧ e < 162
  · rw [covF_in h, covF_in h, sumZ_succ hw, bZ_f (fun k => hl k.1), bZ_f (fun k => hl k.1), bZ_f (fun k => onR_0 k.2)]; omega
  · rw [covF_out h, covF_out h]
theorem covF_add {f0 : Int → Int} {w k : Int} (hk : 0 ≤ k) (hl : G.laid w = 1) (he : 0 ≤ eR G w k ∧ eR G w k < 162) :
    updZ (covF G f0 w k) (eR G w k) (covF G f0 w k (eR G w k) + bZ (∀ j, 0 ≤ j → j < k → ¬ eR G w j = eR G w k)) = covF G f0 w (k + 1) := by
  funext e
  unfold updZ
  by_cases h : e = eR G w k
  · rw [if_pos h, h, covF_in he, covF_in he]
    have h1 : onR G w (k + 1) (eR G w k) := ⟨k, hk, by omega, rfl⟩
    rw [bZ_t (⟨hl, h1⟩ : G.laid w = 1 ∧ onR G w (k + 1) (eR G w k))]
    by_cases c : onR G w k (eR G w k)
    · rw [bZ_t (⟨hl, c⟩ : G.laid w = 1 ∧ onR G w k (eR G w k)), bZ_f]
      · omega
      · intro q
        obtain ⟨j, j1, j2, j3⟩ := c
        exact q j j1 j2 j3
    · rw [bZ_f (fun q => c q.2), bZ_t]
      · omega
      · intro j j1 j2 j3
        exact c ⟨j, j1, j2, j3⟩
  · rw [if_neg h]
    by_cases hin : 0 ≤ e ∧ e < 162
    · rw [covF_in hin, covF_in hin]
      congr 1
      refine bZ_congr ?_
      unfold onR
      rw [exZ_succ hk]
      constructor
      · rintro ⟨a, b⟩
        exact ⟨a, Or.inl b⟩
      · rintro ⟨a, b | b⟩
        · exact ⟨a, b⟩
        · exact absurd b.symm h
    · rw [covF_out hin, covF_out hin]
noncomputable def zrF (f0 : Int → Int) (n k : Int) : Int → Int := fun e => if 0 ≤ e ∧ e < k ∧ k ≤ n then 0 else f0 e
theorem sp237 (hI : PicOK P) (hR : RefOK P N) : Rn 237 [.ref 59] (hs E (jm N)) none (hs E (jm (upZ N 67 (covF P.toGeo (N 67) P.toGeo.ws 0)))) := by
  have hw := hI.geo.ws
  refine c237 (v237_0 ?_)
  have h0 := loopZ (a := 0) (n := 162) (Q := fun k => Ev 2 237 2 [some (.ref 59), some (.int (J k)), none, none, none] [] (hs E (jm (upZ N 67 (zrF (N 67) 162 k)))) (none, hs E (jm (upZ N 67 (covF P.toGeo (N 67) P.toGeo.ws 0))))) (by decide) ?_ ?_
  · have e : zrF (N 67) 162 0 = N 67 := by
      funext x
      exact if_neg (by omega)
    rw [e, upZ_id] at h0
    exact h0
  · refine v237_2 ?_
    (repeat' (first | omega | exact True.intro | exact absurd True.intro ‹¬ True› | apply And.intro | intro _))
    have e : zrF (N 67) 162 162 = covF P.toGeo (N 67) 0 0 := by
      funext x
      unfold zrF
      by_cases h : 0 ≤ x ∧ x < 162
      · rw [covF_in h, if_pos (by omega), sumZ_0, bZ_f (fun k => onR_0 k.2)]
        rfl
      · rw [covF_out h, if_neg (by omega)]
    rw [e]
    refine loopZ (a := 0) (n := P.toGeo.ws) (Q := fun w => Ev 2 237 24 [some (.ref 59), some (.int (J w)), none, none, none] [] (hs E (jm (upZ N 67 (covF P.toGeo (N 67) w 0)))) (none, hs E (jm (upZ N 67 (covF P.toGeo (N 67) P.toGeo.ws 0))))) hw.1 ?_ ?_
    · refine v237_24 ?_
      rw [show (upZ N 67 (covF P.toGeo (N 67) P.toGeo.ws 0)) 59 4 = P.toGeo.ws from hR.ws]
      ((repeat' (first | omega | exact True.intro | exact absurd True.intro ‹¬ True› | apply And.intro | intro _)) <;> rfl)
    · intro w w1 w2 ih
      have hm := hI.geo.mv w w1 w2
      have hl := hI.geo.laid w w1 w2
      refine v237_24 ?_
      rw [show (upZ N 67 (covF P.toGeo (N 67) w 0)) 59 4 = P.toGeo.ws from hR.ws]
      (repeat' (first | omega | exact True.intro | exact absurd True.intro ‹¬ True› | apply And.intro | intro _))
      by_cases l : P.toGeo.laid w = 1
      · refine loopZ (a := 0) (n := P.toGeo.mv w) (Q := fun k => Ev 2 237 34 [some (.ref 59), some (.int (J w)), some (.int (J k)), none, none] [] (hs E (jm (upZ N 67 (covF P.toGeo (N 67) w k)))) (none, hs E (jm (upZ N 67 (covF P.toGeo (N 67) P.toGeo.ws 0))))) (by omega) ?_ ?_
        · refine v237_34 ?_
          rw [show (upZ N 67 (covF P.toGeo (N 67) w (P.toGeo.mv w))) 63 = P.toGeo.mv from hR.mv, covF_next w1]
          (repeat' (first | omega | exact True.intro | exact absurd True.intro ‹¬ True› | apply And.intro | intro _))
          all_goals exact ih
        · intro k k1 k2 ih2
          have hR' : RefOK P (upZ N 67 (covF P.toGeo (N 67) w k)) := hR
          have hsp := eR_spec hI.geo ⟨w1, w2⟩ ⟨k1, k2⟩
          refine v237_34 ?_
          rw [hR'.mv, hR'.laid]
          (repeat' (first | omega | exact True.intro | exact absurd True.intro ‹¬ True› | apply And.intro | intro _))
          refine loopZ (a := 0) (n := k) (Q := fun j => Ev 2 237 58 [some (.ref 59), some (.int (J w)), some (.int (J k)), some (.int (J (bZ (∀ i, 0 ≤ i → i < j → ¬ eR P.toGeo w i = eR P.toGeo w k)))), some (.int (J j))] [] (hs E (jm (upZ N 67 (covF P.toGeo (N 67) w k)))) (none, hs E (jm (upZ N 67 (covF P.toGeo (N 67) P.toGeo.ws 0))))) k1 ?_ ?_ |> fun q => ?_
          · rw [bZ_t (fun i i1 i2 => absurd i2 (by omega))] at q
            exact q
          · refine v237_58 ?_
            rw [G223_e hR', upZ_s, upZ_up, upZ_up]
            have hb := bZ_01 (p := ∀ i, 0 ≤ i → i < k → ¬ eR P.toGeo w i = eR P.toGeo w k)
            have ha := covF_add (f0 := N 67) k1 l ⟨hsp.2.1, hsp.2.2⟩
            have hq := Q223_e hI hR' ⟨w1, w2⟩ ⟨k1, k2⟩
            refine ⟨by omega, by omega, fun _ => ⟨hq, by omega, by omega, fun c => ?_, fun c => ?_⟩, fun c => absurd (Int.le_refl k) c⟩
            · rw [c] at ha
              rw [ha]
              exact ih2
            · rw [show bZ (∀ i, 0 ≤ i → i < k → ¬ eR P.toGeo w i = eR P.toGeo w k) = 1 by omega] at ha
              rw [ha]
              exact ih2
          · intro j j1 j2 ih3
            have hs2 := eR_spec hI.geo ⟨w1, w2⟩ (i := j) ⟨j1, by omega⟩
            have hq1 := Q223_e hI hR' ⟨w1, w2⟩ (i := j) ⟨j1, by omega⟩
            have hq2 := Q223_e hI hR' ⟨w1, w2⟩ ⟨k1, k2⟩
            have hb := bZ_01 (p := ∀ i, 0 ≤ i → i < j → ¬ eR P.toGeo w i = eR P.toGeo w k)
            refine v237_58 ?_
            rw [G223_e hR', G223_e hR']
            refine ⟨by omega, by omega, fun c => absurd c (by omega), fun _ => ⟨by omega, fun c => ?_, fun c => ⟨hq1, hq2, by omega, by omega, fun d => ?_, fun d => ?_⟩⟩⟩
            · rw [bZ_f] at ih3
              · exact ih3
              · intro q
                exact (bZ_0.mp c) (fun i i1 i2 => q i i1 (by omega))
            · rw [bZ_f] at ih3
              · exact ih3
              · intro q
                exact q j j1 (by omega) d
            · rw [bZ_t] at ih3
              · exact ih3
              · exact (allZ_succ (p := fun i => ¬ eR P.toGeo w i = eR P.toGeo w k) j1).mpr ⟨bZ_1.mp (by omega), d⟩
      · refine v237_34 ?_
        rw [show (upZ N 67 (covF P.toGeo (N 67) w 0)) 63 = P.toGeo.mv from hR.mv, show (upZ N 67 (covF P.toGeo (N 67) w 0)) 64 = P.toGeo.laid from hR.laid, covF_skip w1 l]
        (repeat' (first | omega | exact True.intro | exact absurd True.intro ‹¬ True› | apply And.intro | intro _))
        all_goals exact ih
  · intro k k1 k2 ih
    refine v237_2 ?_
    have e : updZ (zrF (N 67) 162 k) k 0 = zrF (N 67) 162 (k + 1) := by
      funext x
      unfold updZ zrF
      by_cases h : x = k
      · rw [if_pos h, if_pos (by omega)]
      · rw [if_neg h]
        by_cases h2 : 0 ≤ x ∧ x < k
        · rw [if_pos (by omega), if_pos (by omega)]
        · rw [if_neg (by omega), if_neg (by omega)]
    rw [upZ_s, upZ_up, e]
    (repeat' (first | omega | exact True.intro | exact absurd True.intro ‹¬ True› | apply And.intro | intro _))
    all_goals exact ih
theorem onR_onC (hG : GeoR G) {v e : Int} (hv : 0 ≤ v ∧ v < G.ws) (he : 0 ≤ e ∧ e < 162) : onR G v (G.mv v) e ↔ onC G v (toC e) := by
  constructor
  · rintro ⟨j, j1, j2, j3⟩
    exact ⟨j, j1, j2, by rw [(eR_spec hG hv ⟨j1, j2⟩).1, j3]⟩
  · rintro ⟨j, j1, j2, j3⟩
    have h := eR_spec hG hv ⟨j1, j2⟩
    refine ⟨j, j1, j2, toC_inj h.2 he (h.1.symm.trans j3)⟩
theorem covF_C (hG : GeoR G) {f0 : Int → Int} {e : Int} (he : 0 ≤ e ∧ e < 162) : covF G f0 G.ws 0 e = covC G (toC e) := by
  rw [covF_in he, bZ_f (fun k => onR_0 k.2), Int.add_zero]
  exact sumZ_congr fun v v1 v2 => bZ_congr (by rw [onR_onC hG ⟨v1, v2⟩ he])
end COV
