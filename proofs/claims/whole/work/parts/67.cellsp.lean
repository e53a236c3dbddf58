/-! cells found anew; renew -/
section CFI
variable {E : gw_N} {N : NM} {G : Geo}
def mmC (N : NM) (a b : Int → Int) : NM := upZ (upZ N 33 a) 35 b
theorem mmC_w {a b a' b' : Int → Int} : upZ (upZ (mmC N a b) 33 a') 35 b' = mmC N a' b' := by
  unfold mmC
  rw [upZ_cm (a := 35) (c := 33) (by decide), upZ_up, upZ_up]
theorem mmC_33 {a b : Int → Int} : mmC N a b 33 = a := rfl
theorem mmC_35 {a b : Int → Int} : mmC N a b 35 = b := rfl
theorem gphC (hG : GeoR G) : gph (isF G) (openTo G) (G.w * G.h) := ⟨fun _ _ ha hb => ⟨openTo_isF hb, openTo_symm hG ha hb⟩, fun _ h => h⟩
def cfI (G : Geo) (r : Int) (M : Int → Prop) (a b : Int → Int) (i way : Int) (sn : Int → Prop) (qu : Int → Int) (w : Int) : Prop :=
  bfs (isF G) (openTo G) (G.w * G.h) r M sn qu w ∧ (∀ g, isF G g → (sn g → a g = cellZ G g) ∧ (¬ sn g → a g = -1)) ∧ (∀ f, G.w * G.h ≤ f → f < 64 → a f = -1) ∧ (∀ j, 0 ≤ j → j < w → b j = qu j) ∧ (∀ j g, 0 ≤ j → j < i → openTo G (qu j) g → sn g) ∧ (∀ k, 0 ≤ k → k < way → ¬ besZ G (qu i) k = -1 → covC G (betZ G (qu i) k) = 0 → sn (besZ G (qu i) k))
theorem sp2 {M : Int → Prop} {r : Int} (hG : GeoR G) (hg : GridOK G N) (hcv : ∀ e, 0 ≤ e → e < 178 → N 23 e = covC G e) (hr : isF G r) (hrc : cellZ G r = r) (hM : ∀ x y, isF G x → openTo G x y → M y → M x) (hrM : ¬ M r) (ha : ∀ g, isF G g → (M g → N 33 g = cellZ G g) ∧ (¬ M g → N 33 g = -1)) (hn : ∀ f, G.w * G.h ≤ f → f < 64 → N 33 f = -1) :
    ∃ a b, ((∀ g, isF G g → (M g ∨ conn G r g → a g = cellZ G g) ∧ (¬ (M g ∨ conn G r g) → a g = -1)) ∧ (∀ f, G.w * G.h ≤ f → f < 64 → a f = -1)) ∧ Rn 2 [.ref 32, .int (J r)] (hs E (jm N)) (some (.int (J (sizeZ G r)))) (hs E (jm (mmC N a b))) := by
  have gp := gphC hG
  have hfb := fld_bd hG
  have hr1 := hr.1
  have hr2 := hr.2
  -- at the end
  have fin : ∀ (w : Int) (a b : Int → Int) (sn : Int → Prop) (qu : Int → Int), cfI G r M a b w 0 sn qu w → w = sizeZ G r ∧ (∀ g, isF G g → (M g ∨ conn G r g → a g = cellZ G g) ∧ (¬ (M g ∨ conn G r g) → a g = -1)) ∧ (∀ f, G.w * G.h ≤ f → f < 64 → a f = -1) := by
    intro w a b sn qu hI
    obtain ⟨q1, q2⟩ := bfs_end gp hI.1 hM hr hrM hI.2.2.2.2.1
    refine ⟨?_, fun g hgD => ?_, hI.2.2.1⟩
    · have h6 := hI.1.2.2.2.2.2
      rw [h6]
      refine sumZ_congr fun g g1 g2 => bZ_congr ((q1 g).trans ⟨fun h => ?_, fun h => ?_⟩)
      · have := cell_conn hG hr h
        rw [← this]
        exact hrc
      · exact cell_conn' hG hr ⟨g1, g2⟩ (by rw [hrc, h])
    · have := q2 g hgD
      exact ⟨fun z => (hI.2.1 g hgD).1 (this.mpr z), fun z => (hI.2.1 g hgD).2 (fun y => z (this.mp y))⟩
  have key := loopZ (a := 0) (n := G.w * G.h) (Q := fun i => ∀ w a b sn qu, cfI G r M a b i 0 sn qu w → i ≤ w → ∃ a' b', ((∀ g, isF G g → (M g ∨ conn G r g → a' g = cellZ G g) ∧ (¬ (M g ∨ conn G r g) → a' g = -1)) ∧ (∀ f, G.w * G.h ≤ f → f < 64 → a' f = -1)) ∧ Ev 4 2 18 [some (.ref 32), some (.int (J r)), some (.int (J w)), some (.int (J i)), none, none] [] (hs E (jm (mmC N a b))) (some (.int (J (sizeZ G r))), hs E (jm (mmC N a' b')))) (by omega) ?_ ?_
  · have hst := bfs_start gp (r := r) (M := M) (qu := fun _ => 0) hr
    have hq9 := key 1 (updZ (N 33) r r) (updZ (N 35) 0 r) _ _ ⟨hst, ?_, ?_, ?_, fun j g j1 j2 => absurd j2 (by omega), fun k k1 k2 => absurd k2 (by omega)⟩ (by decide)
    · obtain ⟨a', b', h1, h2⟩ := hq9
      exact ⟨a', b', h1, c2 (v2_0 ⟨by omega, h2⟩)⟩
    · intro g hgD
      by_cases q : g = r
      · rw [q, updZ_s]
        exact ⟨fun _ => hrc.symm, fun z => absurd (Or.inr rfl) z⟩
      · rw [updZ_n q]
        exact ⟨fun z => (ha g hgD).1 (z.elim id (fun z => absurd z q)), fun z => (ha g hgD).2 (fun y => z (Or.inl y))⟩
    · intro f f1 f2
      rw [updZ_n (by omega)]
      exact hn f f1 f2
    · intro j j1 j2
      have e : j = 0 := by omega
      rw [e, updZ_s, updZ_s]
  · intro w a b sn qu hI hw
    have hb := bfs_bd hI.1 (by omega)
    have hw' : w = G.w * G.h := by omega
    rw [← hw'] at hI
    obtain ⟨e, f1, f2⟩ := fin w a b sn qu hI
    refine ⟨a, b, ⟨f1, f2⟩, v2_18 ⟨by omega, by omega, fun _ => ?_, fun z => absurd (by omega) z⟩⟩
    rw [e]
  · intro i i1 i2 ih w a b sn qu hI hw
    have hb := bfs_bd hI.1 (by omega)
    by_cases hiw : i = w
    · subst hiw
      obtain ⟨e, f1, f2⟩ := fin i a b sn qu hI
      refine ⟨a, b, ⟨f1, f2⟩, v2_18 ⟨by omega, by omega, fun _ => ?_, fun z => absurd (Int.le_refl _) z⟩⟩
      rw [← e]
    · have hq := hI.1.2.2.1 i i1 (by omega)
      have inner := loopZ (a := 0) (n := 4) (Q := fun way => ∀ w' a b sn qu', cfI G r M a b i way sn qu' w' → i < w' → qu' i = qu i → ∃ a' b', ((∀ g, isF G g → (M g ∨ conn G r g → a' g = cellZ G g) ∧ (¬ (M g ∨ conn G r g) → a' g = -1)) ∧ (∀ f, G.w * G.h ≤ f → f < 64 → a' f = -1)) ∧ Ev 4 2 32 [some (.ref 32), some (.int (J r)), some (.int (J (w'))), some (.int (J i)), some (.int (J way)), none] [] (hs E (jm (mmC N a b))) (some (.int (J (sizeZ G r))), hs E (jm (mmC N a' b')))) (by decide) ?_ ?_
      · obtain ⟨a', b', h1, h2⟩ := inner w a b sn qu hI (by omega) rfl
        exact ⟨a', b', h1, v2_18 ⟨by omega, by omega, fun z => absurd z (by omega), fun _ => ⟨fun z => absurd z (by omega), fun _ => h2⟩⟩⟩
      · intro w' a b sn qu' hI' hw' hqi
        have hq9 := ih w' a b sn qu' ⟨hI'.1, hI'.2.1, hI'.2.2.1, hI'.2.2.2.1, ?_, fun k k1 k2 => absurd k2 (by omega)⟩ (by omega)
        · obtain ⟨a', b', h1, h2⟩ := hq9
          exact ⟨a', b', h1, v2_32 ⟨by decide, fun _ => h2, fun z => absurd (Int.le_refl _) z⟩⟩
        · intro j g j1 j2 hst
          by_cases e : j = i
          · subst e
            obtain ⟨way, w1, w2, w3, w4, w5⟩ := hst
            rw [← w3]
            refine hI'.2.2.2.2.2 way w1 w2 ?_ w5
            rw [w3]
            have := w4.1
            omega
          · exact hI'.2.2.2.2.1 j g j1 (by omega) hst
      · intro way w1 w2 ih2 w' a b sn qu' hI' hw' hqi
        have hb' := bfs_bd hI'.1 (by omega)
        have hgr : GridOK G (mmC N a b) := hg
        have e35 : b i = qu i := (hI'.2.2.2.1 i i1 hw').trans hqi
        obtain ⟨d1, d2⟩ := cBes hG hgr hq.1 ⟨w1, w2⟩
        obtain ⟨d3, d4⟩ := cBet hG hgr hq.1 ⟨w1, w2⟩
        have hq1 := hq.1.1
        have hq2 := hq.1.2
        -- going on
        have go : (¬ besZ G (qu i) way = -1 → covC G (betZ G (qu i) way) = 0 → sn (besZ G (qu i) way)) → ∃ a' b', ((∀ g, isF G g → (M g ∨ conn G r g → a' g = cellZ G g) ∧ (¬ (M g ∨ conn G r g) → a' g = -1)) ∧ (∀ f, G.w * G.h ≤ f → f < 64 → a' f = -1)) ∧ Ev 4 2 32 [some (.ref 32), some (.int (J r)), some (.int (J (w'))), some (.int (J i)), some (.int (J (way + 1))), none] [] (hs E (jm (mmC N a b))) (some (.int (J (sizeZ G r))), hs E (jm (mmC N a' b'))) := by
          intro hn2
          refine ih2 w' a b sn qu' ⟨hI'.1, hI'.2.1, hI'.2.2.1, hI'.2.2.2.1, hI'.2.2.2.2.1, ?_⟩ hw' hqi
          intro k k1 k2
          by_cases e : k = way
          · rw [e, hqi]; exact hn2
          · exact hI'.2.2.2.2.2 k k1 (by omega)
        by_cases hbn : besZ G (qu i) way = -1
        · obtain ⟨a', b', h1, h2⟩ := go (fun z => absurd hbn z)
          refine ⟨a', b', h1, v2_32 ?_⟩
          rw [mmC_35, e35, d1]
          exact ⟨by omega, fun z => absurd z (by omega), fun _ => ⟨by omega, d2, by omega, fun _ => h2, fun z => absurd hbn z⟩⟩
        · obtain ⟨s1, s2, s3⟩ := bes_spec hG hq.1 ⟨w1, w2⟩ hbn
          have t1 := s1.1
          have t2 := s1.2
          have hbt := bet_bd hG hq.1 (way := way)
          have hcb := cov_bd hG (e := betZ G (qu i) way)
          have ecv : (mmC N a b) 23 (betZ G (qu i) way) = covC G (betZ G (qu i) way) := hcv _ hbt.1 hbt.2
          have hcell := cell_R hG s1
          have haS := hI'.2.1 _ s1
          by_cases hsn : sn (besZ G (qu i) way)
          · obtain ⟨a', b', h1, h2⟩ := go (fun _ _ => hsn)
            refine ⟨a', b', h1, v2_32 ?_⟩
            rw [mmC_35, e35, d1, mmC_33, haS.1 hsn]
            exact ⟨by omega, fun z => absurd z (by omega), fun _ => ⟨by omega, d2, by omega, fun z => absurd z hbn, fun _ => ⟨by omega, by omega, fun z => by omega, fun _ => h2⟩⟩⟩
          · by_cases hc0 : covC G (betZ G (qu i) way) = 0
            · have hst : openTo G (qu' i) (besZ G (qu i) way) := by
                rw [hqi]
                exact openTo_mk ⟨w1, w2⟩ s1 hc0
              have hadd := bfs_add gp hI'.1 ⟨i1, hw'⟩ hst hsn
              have hlt := bfs_bd hadd (by omega)
              have hcn : cellZ G (besZ G (qu i) way) = r := by
                have h1 : conn G r (besZ G (qu i) way) := conn_step hq.2 (openTo_mk ⟨w1, w2⟩ s1 hc0)
                rw [← cell_conn hG hr h1]
                exact hrc
              have hq9 := ih2 (w' + 1) (updZ a (besZ G (qu i) way) r) (updZ b w' (besZ G (qu i) way)) _ _ ⟨hadd, ?_, ?_, ?_, ?_, ?_⟩ (by omega) (by rw [updZ_n (by omega)]; exact hqi)
              · obtain ⟨a', b', h1, h2⟩ := hq9
                refine ⟨a', b', h1, v2_32 ?_⟩
                have q67 : Q67 (mmC N a b) (betZ G (qu i) way) := by
                  unfold Q67
                  rw [ecv]
                  (repeat' (first | omega | exact True.intro | exact absurd True.intro ‹¬ True› | apply And.intro | intro _))
                have g67 : G67 (mmC N a b) (betZ G (qu i) way) = 1 := by
                  unfold G67
                  rw [ecv, if_pos hc0]
                rw [mmC_35, e35, d1, d3, mmC_33, haS.2 hsn, g67, mmC_w]
                exact ⟨by omega, fun z => absurd z (by omega), fun _ => ⟨by omega, d2, by omega, fun z => absurd z hbn, fun _ => ⟨by omega, by decide, fun _ => ⟨by omega, fun z => absurd z (by omega), fun _ => ⟨d4, q67, by decide, fun z => absurd z (by decide), fun _ => ⟨by omega, h2⟩⟩⟩, fun z => absurd rfl z⟩⟩⟩
              · intro g hgD
                by_cases q : g = besZ G (qu i) way
                · rw [q, updZ_s]
                  exact ⟨fun _ => hcn.symm, fun z => absurd (Or.inr rfl) z⟩
                · rw [updZ_n q]
                  exact ⟨fun z => (hI'.2.1 g hgD).1 (z.elim id (fun z => absurd z q)), fun z => (hI'.2.1 g hgD).2 (fun y => z (Or.inl y))⟩
              · intro f f1 f2
                rw [updZ_n (by omega)]
                exact hI'.2.2.1 f f1 f2
              · intro j j1 j2
                by_cases q : j = w'
                · rw [q, updZ_s, updZ_s]
                · rw [updZ_n q, updZ_n q]
                  exact hI'.2.2.2.1 j j1 (by omega)
              · intro j g j1 j2 hj
                rw [updZ_n (by omega)] at hj
                exact Or.inl (hI'.2.2.2.2.1 j g j1 j2 hj)
              · intro k k1 k2
                rw [updZ_n (by omega)]
                intro hk1 hk2
                by_cases e : k = way
                · rw [e, hqi]; exact Or.inr rfl
                · exact Or.inl (hI'.2.2.2.2.2 k k1 (by omega) hk1 hk2)
            · obtain ⟨a', b', h1, h2⟩ := go (fun _ z => absurd z hc0)
              refine ⟨a', b', h1, v2_32 ?_⟩
              have q67 : Q67 (mmC N a b) (betZ G (qu i) way) := by
                unfold Q67
                rw [ecv]
                (repeat' (first | omega | exact True.intro | exact absurd True.intro ‹¬ True› | apply And.intro | intro _))
              have g67 : G67 (mmC N a b) (betZ G (qu i) way) = 0 := by
                unfold G67
                rw [ecv, if_neg hc0]
              rw [mmC_35, e35, d1, d3, mmC_33, haS.2 hsn, g67]
              exact ⟨by omega, fun z => absurd z (by omega), fun _ => ⟨by omega, d2, by omega, fun z => absurd z hbn, fun _ => ⟨by omega, by decide, fun _ => ⟨by omega, fun _ => h2, fun z => ⟨d4, q67, by decide, fun _ => h2, fun z => absurd rfl z⟩⟩, fun z => absurd rfl z⟩⟩⟩
def sCel (N N' : NM) : Prop := ∀ a, (a < 32 ∨ 35 < a) → N' a = N a
theorem sCel_t {N N1 N2 : NM} (h1 : sCel N N1) (h2 : sCel N1 N2) : sCel N N2 := fun a ha => (h2 a ha).trans (h1 a ha)
def ciI (G : Geo) (c : Int) (N : NM) : Prop :=
  (∀ g, isF G g → (cellZ G g < c → N 33 g = cellZ G g) ∧ (¬ cellZ G g < c → N 33 g = -1)) ∧ (∀ f, G.w * G.h ≤ f → f < 64 → N 33 f = -1) ∧ (∀ f, 0 ≤ f → f < c → cellZ G f = f → N 34 f = sizeZ G f) ∧ N 32 5 = sumZ c (fun f => bZ (cellZ G f = f))
theorem sp1 (hG : GeoR G) (hg : GridOK G N) (hcv : ∀ e, 0 ≤ e → e < 178 → N 23 e = covC G e) : ∃ N', Rn 1 [.ref 32] (hs E (jm N)) none (hs E (jm N')) ∧ CellsOK G N' ∧ sCel N N' := by
  have hfb := fld_bd hG
  have key := loopZ (a := 0) (n := G.w * G.h) (Q := fun c => ∀ N1, sCel N N1 → ciI G c N1 → ∃ N', (CellsOK G N' ∧ sCel N N') ∧ Ev 5 1 15 [some (.ref 32), some (.int (J c))] [] (hs E (jm N1)) (none, hs E (jm N'))) (by omega) ?_ ?_
  · have hq9 := key (upZ (upZ N 33 (fiF (N 33) (-1) 64)) 32 (updZ (N 32) 5 0)) (fun a ha => by rw [upZ_n (by omega), upZ_n (by omega)]) ⟨fun g hgD => ?_, fun f f1 f2 => ?_, fun f f1 f2 => absurd f2 (by omega), ?_⟩
    · obtain ⟨N', k1, k2⟩ := hq9
      exact ⟨N', c1 (v1_0 ⟨_, fi33, k2⟩), k1⟩
    · have h1 := hgD.1
      have h2 := hgD.2
      have hc := cell_R hG hgD
      refine ⟨fun z => absurd z (by omega), fun _ => ?_⟩
      show fiF (N 33) (-1) 64 g = -1
      exact fiF_in (by omega)
    · show fiF (N 33) (-1) 64 f = -1
      exact fiF_in (by omega)
    · show updZ (N 32) 5 0 5 = _
      rw [updZ_s]
      rfl
  · intro N1 s1 h1
    refine ⟨N1, ⟨CellsOK.mk ?_ h1.2.1 h1.2.2.1 h1.2.2.2, s1⟩, v1_15 ?_⟩
    · intro f f1 f2
      refine (h1.1 f ⟨f1, f2⟩).1 ?_
      exact (cell_ex (G := G) (f := f) ⟨f1, f2⟩).1.2
    · have hgr : GridOK G N1 := hg.fr (s1 _ (by decide)) (s1 _ (by decide)) (s1 _ (by decide))
      rw [cF hgr]
      exact ⟨by omega, by omega, fun _ => rfl, fun z => absurd (Int.le_refl _) z⟩
  · intro c c1' c2' ih N1 s1 h1
    have hF : isF G c := ⟨c1', c2'⟩
    have hgr : GridOK G N1 := hg.fr (s1 _ (by decide)) (s1 _ (by decide)) (s1 _ (by decide))
    have hcv1 : ∀ e, 0 ≤ e → e < 178 → N1 23 e = covC G e := by rw [s1 23 (by decide)]; exact hcv
    have hcr := cell_R hG hF
    have hcl := cell_le hF
    by_cases hcc : cellZ G c = c
    · obtain ⟨a, b, ⟨f1, f2⟩, r1⟩ := sp2 (E := E) (N := N1) (M := fun g => cellZ G g < c) (r := c) hG hgr hcv1 hF hcc (fun x y hx ho hy => by
        show cellZ G x < c
        rw [cell_conn hG hx (conn_step conn_refl ho)]
        exact hy) (by show ¬ cellZ G c < c; omega) h1.1 h1.2.1
      have hq9 := ih (upZ (upZ (mmC N1 a b) 34 (updZ (N1 34) c (sizeZ G c))) 32 (updZ (N1 32) 5 (N1 32 5 + 1))) (fun q hq => by
        show upZ (upZ (upZ (upZ N1 33 a) 35 b) 34 _) 32 _ q = _
        rw [upZ_n (by omega), upZ_n (by omega), upZ_n (by omega), upZ_n (by omega)]
        exact s1 q hq) ⟨fun g hgD => ?_, f2, ?_, ?_⟩
      · obtain ⟨N', k1, k2⟩ := hq9
        refine ⟨N', k1, v1_15 ?_⟩
        rw [cF hgr, (h1.1 c hF).2 (by omega)]
        exact ⟨by omega, by omega, fun z => absurd z (by omega), fun _ => ⟨by omega, by decide, fun _ => ⟨_, _, r1, k2⟩, fun z => absurd rfl z⟩⟩
      · have hiff : cellZ G g < c + 1 ↔ (cellZ G g < c ∨ conn G c g) := by
          constructor
          · intro z
            by_cases q : cellZ G g = c
            · exact Or.inr (cell_conn' hG hF hgD (by rw [hcc, q]))
            · exact Or.inl (by omega)
          · rintro (z | z)
            · omega
            · have := cell_conn hG hF z
              omega
        show (cellZ G g < c + 1 → a g = _) ∧ (¬ cellZ G g < c + 1 → a g = _)
        rw [hiff]
        exact f1 g hgD
      · intro f g1 g2 g3
        show updZ (N1 34) c (sizeZ G c) f = _
        by_cases q : f = c
        · rw [q, updZ_s]
        · rw [updZ_n q]
          exact h1.2.2.1 f g1 (by omega) g3
      · show updZ (N1 32) 5 (N1 32 5 + 1) 5 = _
        rw [updZ_s, h1.2.2.2, sumZ_succ c1', bZ_t hcc]
    · have hq9 := ih N1 s1 ⟨fun g hgD => ?_, h1.2.1, fun f g1 g2 g3 => h1.2.2.1 f g1 (by
        by_cases q : f = c
        · exact absurd (q ▸ g3) hcc
        · omega) g3, by rw [sumZ_succ c1', bZ_f hcc, Int.add_zero]; exact h1.2.2.2⟩
      · obtain ⟨N', k1, k2⟩ := hq9
        refine ⟨N', k1, v1_15 ?_⟩
        rw [cF hgr, (h1.1 c hF).1 (by omega)]
        exact ⟨by omega, by omega, fun z => absurd z (by omega), fun _ => ⟨by omega, by omega, fun z => by omega, fun _ => k2⟩⟩
      · have hne : ¬ cellZ G g = c := by
          intro q
          have := cell_self hG hgD
          rw [q] at this
          exact hcc this
        have hiff : cellZ G g < c + 1 ↔ cellZ G g < c := by omega
        rw [hiff]
        exact h1.1 g hgD
/-- what hangs on the wires, made anew -/
theorem sp203 (hG : GeoR G) (hg : GridOK G N) (hw : WiresOK G N) : ∃ N', Rn 203 [.ref 8] (hs E (jm N)) none (hs E (jm N')) ∧ NetOK G N' ∧ CellsOK G N' ∧ ∀ a, (a < 23 ∨ 35 < a) → N' a = N a := by
  obtain ⟨N1, r1, n1, s1⟩ := sp57 (E := E) hG hw
  obtain ⟨N2, r2, n2, s2⟩ := sp1 (E := E) (N := N1) hG (hg.fr (s1 _ (by decide)) (s1 _ (by decide)) (s1 _ (by decide))) n1.cov
  exact ⟨N2, c203 (v203_0 ⟨N1, r1, N2, r2, rfl⟩), n1.fr (s2 _ (by decide)) (s2 _ (by decide)) (s2 _ (by decide)) (s2 _ (by decide)), n2, fun a ha => (s2 a (by omega)).trans (s1 a (by omega))⟩
end CFI
