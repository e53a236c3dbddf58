/-! what bleeds -/
section BLE
variable {E : gw_N} {N : NM} {P : Pic} {G : Geo}
theorem sumZ_b0 {p : Int → Prop} {n : Int} (hn : 0 ≤ n) : sumZ n (fun k => bZ (p k)) = 0 ↔ ¬ ∃ k, 0 ≤ k ∧ k < n ∧ p k := by
  refine indZ (P := fun n => 0 ≤ sumZ n (fun k => bZ (p k)) ∧ (sumZ n (fun k => bZ (p k)) = 0 ↔ ¬ ∃ k, 0 ≤ k ∧ k < n ∧ p k)) ⟨Int.le_refl _, fun _ => exZ_0, fun _ => sumZ_0⟩ ?_ n hn |>.2
  intro k hk ⟨ih1, ih2⟩
  rw [sumZ_succ hk, exZ_succ hk]
  have h := bZ_01 (p := p k)
  refine ⟨by omega, ?_⟩
  by_cases q : p k
  · rw [bZ_t q]
    exact ⟨fun z => by omega, fun z => absurd (Or.inr q) z⟩
  · rw [bZ_f q, Int.add_zero, ih2]
    exact ⟨fun z y => y.elim z q, fun z y => z (Or.inl y)⟩
theorem sol_bd (hG : GeoR G) {e : Int} : 0 ≤ solC G e ∧ solC G e ≤ 30 := by
  have := sumZ_bd' (g := fun v => bZ (G.laid v = 1 ∧ G.sold v = 1 ∧ onC G v e)) (n := G.ws) (B := 30) (c := 1) (fun k _ _ => bZ_bd) hG.ws.1 hG.ws.2 (by decide)
  exact ⟨this.1, by unfold solC; omega⟩
theorem sp275 {e : Int} (hI : PicOK P) (hR : RefOK P N) (he : 0 ≤ e ∧ e < 162) : Rn 275 [.ref 59, .int (J e)] (hs E (jm N)) (some (.int (J (bZ (¬ solC P.toGeo (toC e) = 0))))) (hs E (jm N)) := by
  have hws := hI.geo.ws
  have e2 := hR.ws
  have eq : (¬ solC P.toGeo (toC e) = 0) = (∃ v, 0 ≤ v ∧ v < P.toGeo.ws ∧ (P.toGeo.laid v = 1 ∧ P.toGeo.sold v = 1 ∧ onC P.toGeo v (toC e))) := by
    unfold solC
    rw [sumZ_b0 hws.1]
    exact propext ⟨fun z => Classical.byContradiction z, fun z y => y z⟩
  rw [eq]
  refine c275 (v275_0 ?_)
  have h0 := loopZ (a := 0) (n := P.toGeo.ws) (Q := fun k => Ev 3 275 4 [some (.ref 59), some (.int (J e)), some (.int (J (bZ (∃ v, 0 ≤ v ∧ v < k ∧ (P.toGeo.laid v = 1 ∧ P.toGeo.sold v = 1 ∧ onC P.toGeo v (toC e)))))), some (.int (J k))] [] (hs E (jm N)) (some (.int (J (bZ (∃ v, 0 ≤ v ∧ v < P.toGeo.ws ∧ (P.toGeo.laid v = 1 ∧ P.toGeo.sold v = 1 ∧ onC P.toGeo v (toC e)))))), (hs E (jm N)))) hws.1 ?_ ?_
  · rw [bZ_f exZ_0] at h0
    exact h0
  · have h01 := bZ_01 (p := ∃ v, 0 ≤ v ∧ v < P.toGeo.ws ∧ (P.toGeo.laid v = 1 ∧ P.toGeo.sold v = 1 ∧ onC P.toGeo v (toC e)))
    refine v275_4 ?_
    rw [e2]
    ((repeat' (first | omega | exact True.intro | exact absurd True.intro ‹¬ True› | apply And.intro | intro _)) <;> rfl)
  · intro k k1 k2 ih
    have hl := hI.geo.laid k k1 k2
    have hso := hI.geo.sold k k1 k2
    have h01 := bZ_01 (p := onR P.toGeo k (P.toGeo.mv k) e)
    refine v275_4 ?_
    rw [e2, hR.laid, hR.sold]
    rw [show (∃ v, 0 ≤ v ∧ v < k + 1 ∧ (P.toGeo.laid v = 1 ∧ P.toGeo.sold v = 1 ∧ onC P.toGeo v (toC e))) = ((∃ v, 0 ≤ v ∧ v < k ∧ (P.toGeo.laid v = 1 ∧ P.toGeo.sold v = 1 ∧ onC P.toGeo v (toC e))) ∨ (P.toGeo.laid k = 1 ∧ P.toGeo.sold k = 1 ∧ onC P.toGeo k (toC e))) from propext (exZ_succ k1)] at ih
    by_cases hx : ∃ v, 0 ≤ v ∧ v < k ∧ (P.toGeo.laid v = 1 ∧ P.toGeo.sold v = 1 ∧ onC P.toGeo v (toC e))
    · rw [bZ_t hx]
      rw [bZ_t (Or.inl hx)] at ih
      (repeat' (first | omega | exact True.intro | exact absurd True.intro ‹¬ True› | apply And.intro | intro _))
      all_goals exact ih
    · rw [bZ_f hx]
      have sk : ¬ (P.toGeo.laid k = 1 ∧ P.toGeo.sold k = 1 ∧ onC P.toGeo k (toC e)) → Ev 3 275 4 [some (.ref 59), some (.int (J e)), some (.int (J 0)), some (.int (J (k + 1)))] [] (hs E (jm N)) (some (.int (J (bZ (∃ v, 0 ≤ v ∧ v < P.toGeo.ws ∧ (P.toGeo.laid v = 1 ∧ P.toGeo.sold v = 1 ∧ onC P.toGeo v (toC e)))))), (hs E (jm N))) := by
        intro q
        rw [bZ_f (fun z => z.elim hx q)] at ih
        exact ih
      (repeat' (first | omega | exact True.intro | exact absurd True.intro ‹¬ True› | apply And.intro | intro _))
      · exact sk (fun z => by have := z.1; omega)
      · exact sk (fun z => by have := z.2.1; omega)
      · refine ⟨_, sp224 hI hR ⟨k1, k2⟩ (by omega), ?_⟩
        (repeat' (first | omega | exact True.intro | exact absurd True.intro ‹¬ True› | apply And.intro | intro _))
        · exact sk (fun z => (bZ_0.mp ‹_›) ((onR_onC hI.geo ⟨k1, k2⟩ he).mpr z.2.2))
        · rw [bZ_t (Or.inr ⟨by omega, by omega, (onR_onC hI.geo ⟨k1, k2⟩ he).mp (bZ_1.mp (by omega))⟩)] at ih
          exact ih
def bleZ (P : Pic) (f s : Int) : Prop := ¬ besZ P.toGeo f s = -1 ∧ 0 < P.toGla.lay f ∧ 0 < P.toGla.lay (besZ P.toGeo f s) ∧ P.toPal.foe (8 * P.toGla.col (topZ P.toGla f) + P.toGla.col (topZ P.toGla (besZ P.toGeo f s))) = 1 ∧ solC P.toGeo (betZ P.toGeo f s) = 0
theorem cBle {f s : Int} (hI : PicOK P) (hC : ClsOK P N) (hf : isF P.toGeo f) (hs2 : 0 ≤ s ∧ s < 2) : G29 N f s = bZ (bleZ P f s) ∧ Q29 N f s := by
  have hb := fld_bd hI.geo
  obtain ⟨b1, b2⟩ := cBes hI.geo hC.grid hf (way := s) (by omega)
  obtain ⟨c1, c2⟩ := cBet hI.geo hC.grid hf (way := s) (by omega)
  have hbt := bet_bd hI.geo hf (way := s)
  have hsb := sol_bd hI.geo (e := betZ P.toGeo f s)
  have f1 := hf.1
  have f2 := hf.2
  have e15 : ∀ g, isF P.toGeo g → (G15 N g = if P.toGla.lay g ≤ 0 then -1 else topZ P.toGla g) ∧ Q15 N g := by
    intro g hg
    have g1 := hg.1
    have g2 := hg.2
    have hl := hI.gla.lay g g1 (by omega)
    unfold G15 Q15
    rw [hC.glass.lay g g1 (by omega)]
    exact ⟨rfl, by (repeat' (first | omega | exact True.intro | exact absurd True.intro ‹¬ True› | apply And.intro | intro _))⟩
  have hl := hI.gla.lay f f1 (by omega)
  unfold G29 Q29
  rw [b1, c1]
  by_cases q : besZ P.toGeo f s = -1
  · rw [q]
    rw [bZ_f (fun (z : bleZ P f s) => z.1 q)]
    exact ⟨if_pos rfl, b2, by decide, fun _ => trivial, fun z => absurd rfl z⟩
  · obtain ⟨k1, _, _⟩ := bes_spec hI.geo hf (way := s) (by omega) q
    have d1 := k1.1
    have d2 := k1.2
    have hlg := hI.gla.lay (besZ P.toGeo f s) d1 (by omega)
    obtain ⟨u1, u2⟩ := e15 f hf
    obtain ⟨v1, v2⟩ := e15 _ k1
    rw [u1, v1]
    by_cases l1 : P.toGla.lay f ≤ 0
    · rw [if_pos l1, bZ_f (fun (z : bleZ P f s) => absurd z.2.1 (by omega))]
      refine ⟨?_, b2, by omega, fun z => absurd z q, fun _ => ⟨u2, by decide, fun _ => trivial, fun z => absurd rfl z⟩⟩
      rw [if_neg q, if_pos rfl]
    · have t1 := top_bd hI (f := f) (by omega) (by omega)
      have o1 := hI.gla.col _ t1.1 t1.2
      rw [if_neg l1]
      by_cases l2 : P.toGla.lay (besZ P.toGeo f s) ≤ 0
      · rw [if_pos l2, bZ_f (fun (z : bleZ P f s) => absurd z.2.2.1 (by omega))]
        refine ⟨?_, b2, by omega, fun z => absurd z q, fun _ => ⟨u2, by omega, fun _ => trivial, fun _ => ⟨v2, by decide, fun _ => trivial, fun z => absurd rfl z⟩⟩⟩
        rw [if_neg q, if_neg (by omega), if_pos rfl]
      · have t2 := top_bd hI (f := besZ P.toGeo f s) (by omega) (by omega)
        have o2 := hI.gla.col _ t2.1 t2.2
        have hfo := hI.pal.foe (8 * P.toGla.col (topZ P.toGla f) + P.toGla.col (topZ P.toGla (besZ P.toGeo f s))) (by omega) (by omega)
        have hvR := hC.pal.foeR _ o1.1 o1.2
        have ezb : zand (zshr (N 42 (P.toGla.col (topZ P.toGla f))) (P.toGla.col (topZ P.toGla (besZ P.toGeo f s)))) 1 = P.toPal.foe (8 * P.toGla.col (topZ P.toGla f) + P.toGla.col (topZ P.toGla (besZ P.toGeo f s))) := (zbit hvR o2).trans (hC.pal.foe _ _ o1.1 o1.2 o2.1 o2.2)
        have e106 : G106 N (P.toGla.col (topZ P.toGla f)) (P.toGla.col (topZ P.toGla (besZ P.toGeo f s))) = P.toPal.foe (8 * P.toGla.col (topZ P.toGla f) + P.toGla.col (topZ P.toGla (besZ P.toGeo f s))) := by
          unfold G106
          rw [ezb]
          rcases hfo with h | h <;> rw [h] <;> rfl
        have q106 : Q106 N (P.toGla.col (topZ P.toGla f)) (P.toGla.col (topZ P.toGla (besZ P.toGeo f s))) := ⟨by omega, fun _ => trivial, fun _ => trivial⟩
        rw [if_neg l2, hC.glass.col _ t1.1 t1.2, hC.glass.col _ t2.1 t2.2, e106]
        have e68 : G68 N (betZ P.toGeo f s) = if solC P.toGeo (betZ P.toGeo f s) ≤ 0 then 0 else 1 := by
          unfold G68
          rw [hC.net.sol _ hbt.1 hbt.2]
        have q68 : Q68 N (betZ P.toGeo f s) := by
          unfold Q68
          rw [hC.net.sol _ hbt.1 hbt.2]
          (repeat' (first | omega | exact True.intro | exact absurd True.intro ‹¬ True› | apply And.intro | intro _))
        rw [e68]
        refine ⟨?_, b2, by omega, fun z => absurd z q, fun _ => ⟨u2, by omega, fun _ => trivial, fun _ => ⟨v2, by omega, fun _ => trivial, fun _ => ⟨by omega, by omega, q106, by omega, fun _ => trivial, fun _ => ⟨c2, q68, by split <;> decide, fun _ => trivial, fun _ => trivial⟩⟩⟩⟩⟩
        rw [if_neg q, if_neg (by omega), if_neg (by omega)]
        by_cases z : bleZ P f s
        · rw [bZ_t z, if_neg (by have := z.2.2.2.1; omega), if_pos (if_pos (by have := z.2.2.2.2; omega))]
        · rw [bZ_f z]
          by_cases y : P.toPal.foe (8 * P.toGla.col (topZ P.toGla f) + P.toGla.col (topZ P.toGla (besZ P.toGeo f s))) = 0
          · rw [if_pos y]
          · rw [if_neg y, if_neg]
            by_cases x : solC P.toGeo (betZ P.toGeo f s) ≤ 0
            · exact absurd (show bleZ P f s from ⟨q, by omega, by omega, by omega, by omega⟩) z
            · rw [if_neg x]; decide
noncomputable def bleN (P : Pic) (k : Int) : Int := sumZ k (fun f => bZ (bleZ P f 0) + bZ (bleZ P f 1))
theorem op_state {x1 : Int} (hI : GInv P N) (h1 : R x1) : Both E N 186 278 [.int (J x1)] := by
  by_cases hx : x1 = 4
  · have hb := fld_bd hI.ok.geo
    refine both_same (r := .int (J (bleN P (P.toGeo.w * P.toGeo.h)))) hI (c186 (v186_0 ?_)) (c278 (v278_0 ?_))
    · (repeat' (first | omega | exact True.intro | exact absurd True.intro ‹¬ True› | apply And.intro | intro _))
      refine ⟨_, c28 (v28_0 ?_), rfl⟩
      refine loopZ (a := 0) (n := P.toGeo.w * P.toGeo.h) (Q := fun k => Ev 5 28 4 [some (.ref 44), some (.int (J (bleN P k))), some (.int (J k))] [] (hs E (jm N)) (_, _)) (by omega) ?_ ?_
      · refine v28_4 ?_
        rw [cF hI.cls.grid]
        ((repeat' (first | omega | exact True.intro | exact absurd True.intro ‹¬ True› | apply And.intro | intro _)) <;> rfl)
      · intro f f1 f2 ih
        have hF : isF P.toGeo f := ⟨f1, f2⟩
        obtain ⟨a1, a2⟩ := cBle hI.ok hI.cls hF (s := 0) (by decide)
        obtain ⟨b1, b2⟩ := cBle hI.ok hI.cls hF (s := 1) (by decide)
        have e206 : ∀ p : Prop, G206 N (bZ p) = bZ p := by
          intro p
          rcases bZ_01 (p := p) with h | h <;> rw [h]
          · exact G206_0
          · exact G206_1
        have m1 := bZ_01 (p := bleZ P f 0)
        have m2 := bZ_01 (p := bleZ P f 1)
        refine v28_4 ?_
        rw [cF hI.cls.grid, a1, b1, e206, e206]
        unfold bleN at ih ⊢
        rw [sumZ_succ f1] at ih
        exact ⟨by omega, by omega, fun z => absurd z (by omega), fun _ => ⟨a2, ⟨by omega, fun _ => trivial, fun _ => trivial⟩, b2, ⟨by omega, fun _ => trivial, fun _ => trivial⟩, ih⟩⟩
    · (repeat' (first | omega | exact True.intro | exact absurd True.intro ‹¬ True› | apply And.intro | intro _))
      refine ⟨_, c277 (v277_0 ?_), rfl⟩
      refine loopZ (a := 0) (n := P.toGeo.w * P.toGeo.h) (Q := fun k => Ev 4 277 4 [some (.ref 59), some (.int (J (bleN P k))), some (.int (J k)), none, none] [] (hs E (jm N)) (_, _)) (by omega) ?_ ?_
      · refine v277_4 ?_
        rw [rF hI.ref]
        ((repeat' (first | omega | exact True.intro | exact absurd True.intro ‹¬ True› | apply And.intro | intro _)) <;> rfl)
      · intro f f1 f2 ih
        have hF : isF P.toGeo f := ⟨f1, f2⟩
        have hl := hI.ok.gla.lay f f1 (by omega)
        refine v277_4 ?_
        rw [rF hI.ref]
        refine ⟨by omega, by omega, fun z => absurd z (by omega), fun _ => ?_⟩
        have h0 := loopZ (a := 0) (n := 2) (Q := fun s => Ev 4 277 14 [some (.ref 59), some (.int (J (bleN P f + sumZ s (fun s => bZ (bleZ P f s))))), some (.int (J f)), some (.int (J s)), none] [] (hs E (jm N)) (some (.int (J (bleN P (P.toGeo.w * P.toGeo.h)))), (hs E (jm N)))) (by decide) ?_ ?_
        · rw [sumZ_0, Int.add_zero] at h0
          exact h0
        · refine v277_14 ?_
          have e : bleN P (f + 1) = bleN P f + sumZ 2 (fun s => bZ (bleZ P f s)) := by
            unfold bleN
            rw [sumZ_succ f1, show (2 : Int) = 0 + 1 + 1 from rfl, sumZ_succ (by decide), sumZ_succ (by decide), sumZ_0]
            simp
          rw [e] at ih
          exact ⟨by decide, fun _ => ih, fun z => absurd (Int.le_refl _) z⟩
        · intro s s1 s2 ih2
          obtain ⟨b1, b2⟩ := G245_b hI.ok hI.ref hF ⟨s1, s2⟩
          rw [sumZ_succ s1, ← Int.add_assoc] at ih2
          have sk : ¬ bleZ P f s → Ev 4 277 14 [some (.ref 59), some (.int (J (bleN P f + sumZ s (fun s => bZ (bleZ P f s))))), some (.int (J f)), some (.int (J (s + 1))), none] [] (hs E (jm N)) (some (.int (J (bleN P (P.toGeo.w * P.toGeo.h)))), (hs E (jm N))) := by
            intro z
            rw [bZ_f z, Int.add_zero] at ih2
            exact ih2
          refine v277_14 ?_
          rw [b1]
          by_cases q : besZ P.toGeo f s = -1
          · have s9 := sk (fun z => z.1 q)
            rw [q] at b1 ⊢
            exact ⟨by omega, fun z => absurd z (by omega), fun _ => ⟨b2, by decide, fun _ => s9, fun z => absurd rfl z⟩⟩
          · obtain ⟨k1, _, _⟩ := bes_spec hI.ok.geo hF (way := s) (by omega) q
            obtain ⟨g1, g2, g3⟩ := G246_b hI.ok hI.ref hF ⟨s1, s2⟩ q
            have d1 := k1.1
            have d2 := k1.2
            have hlg := hI.ok.gla.lay (besZ P.toGeo f s) d1 (by omega)
            have et : ∀ g, G276 N g = topZ P.toGla g := fun g => by unfold G276 topZ; rw [hI.ref.lay]
            rw [et, et, hI.ref.lay, hI.ref.col, hI.ref.foe]
            refine ⟨by omega, fun z => absurd z (by omega), fun _ => ⟨b2, by omega, fun z => absurd z q, fun _ => ⟨by omega, by omega, fun z => sk (fun y => absurd y.2.1 (by omega)), fun l1 => ⟨by omega, by omega, fun z => sk (fun y => absurd y.2.2.1 (by omega)), fun l2 => ?_⟩⟩⟩⟩
            have t1 := top_bd hI.ok (f := f) (by omega) (show 0 < P.toGla.lay f by omega)
            have o1 := hI.ok.gla.col _ t1.1 t1.2
            have t2 := top_bd hI.ok (f := besZ P.toGeo f s) (by omega) (show 0 < P.toGla.lay (besZ P.toGeo f s) by omega)
            have o2 := hI.ok.gla.col _ t2.1 t2.2
            have hfo := hI.ok.pal.foe (8 * P.toGla.col (topZ P.toGla f) + P.toGla.col (topZ P.toGla (besZ P.toGeo f s))) (by omega) (by omega)
            have m1 := bZ_01 (p := ¬ solC P.toGeo (toC (G246 N f s)) = 0)
            refine ⟨⟨by omega, trivial⟩, t1, ⟨by omega, trivial⟩, t2, by omega, by omega, fun z => sk (fun y => by have := y.2.2.2.1; omega), fun z => ⟨g3, _, sp275 hI.ok hI.ref g1, by omega, fun y => ?_, fun y => sk (fun x => ?_)⟩⟩
            · have y' := Classical.not_not.mp (bZ_0.mp y)
              rw [g2] at y'
              rw [bZ_t (show bleZ P f s from ⟨q, by omega, by omega, by omega, y'⟩)] at ih2
              exact ih2
            · have y' := bZ_1.mp (show bZ (¬ solC P.toGeo (toC (G246 N f s)) = 0) = 1 by omega)
              rw [g2] at y'
              exact y' x.2.2.2.2
  · exact op_state' hI h1 hx
end BLE
