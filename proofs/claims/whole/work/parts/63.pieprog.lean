/-! pieces of the program -/
section PIP
variable {E : gw_N} {N : NM} {P : Pic} {G : Geo}
def tN (q : Int) : Int := 10 * (q / 9) + q % 9
def mmP (N : NM) (a b : Int → Int) : NM := upZ (upZ N 30 a) 31 b
theorem mmP_w {a b a' b' : Int → Int} : upZ (upZ (mmP N a b) 30 a') 31 b' = mmP N a' b' := by
  unfold mmP
  rw [upZ_cm (a := 31) (c := 30) (by decide), upZ_up, upZ_up]
theorem mmP_v {a b a' b' : Int → Int} : upZ (upZ (mmP N a b) 31 b') 30 a' = mmP N a' b' := by
  unfold mmP
  rw [upZ_up, upZ_cm (a := 31) (c := 30) (by decide), upZ_up]
theorem mmP_30 {a b : Int → Int} : mmP N a b 30 = a := rfl
theorem mmP_31 {a b : Int → Int} : mmP N a b 31 = b := rfl
theorem tN_bd {q : Int} (h : ptD q) : 0 ≤ tN q ∧ tN q < 89 := by
  have h1 := h.1
  have h2 := h.2
  unfold tN
  omega
theorem tN_inj {p q : Int} (hp : ptD p) (hq : ptD q) (h : tN p = tN q) : p = q := by
  have h1 := hp.1
  have h2 := hp.2
  have h3 := hq.1
  have h4 := hq.2
  unfold tN at h
  omega
theorem tN_xy {q : Int} (h : ptD q) : Int.tmod (tN q) 10 = q % 9 ∧ Int.tdiv (tN q) 10 = q / 9 := by
  have h1 := h.1
  have h2 := h.2
  have h3 := tN_bd h
  rw [Int.tmod_eq_emod_of_nonneg h3.1, Int.tdiv_eq_ediv_of_nonneg h3.1]
  unfold tN
  omega
theorem tN_dw (hG : GeoR G) {q way : Int} (hw : 0 ≤ way ∧ way < 4) (h : covW G (q % 9) (q / 9) way) : 10 * (q / 9 + G54 N way) + (q % 9 + G53 N way) = tN (q + dw way) := by
  have hw8 := hG.w
  unfold tN
  obtain e | e | e | e : way = 0 ∨ way = 1 ∨ way = 2 ∨ way = 3 := by omega
  · subst e
    have h1 := st_r hG h
    rw [show dw 0 = 1 from rfl, show G53 N 0 = 1 from rfl, show G54 N 0 = 0 from rfl]
    omega
  · subst e
    rw [show dw 1 = 9 from rfl, show G53 N 1 = 0 from rfl, show G54 N 1 = 1 from rfl]
    omega
  · subst e
    have h1 := st_l hG h
    rw [show dw 2 = -1 from rfl, show G53 N 2 = -1 from rfl, show G54 N 2 = 0 from rfl]
    omega
  · subst e
    rw [show dw 3 = -9 from rfl, show G53 N 3 = 0 from rfl, show G54 N 3 = -1 from rfl]
    omega
theorem zand1 {m : Int} (h : 0 ≤ m ∧ m ≤ 4) : zand m 1 = m % 2 := by
  obtain e | e | e | e | e : m = 0 ∨ m = 1 ∨ m = 2 ∨ m = 3 ∨ m = 4 := by omega
  all_goals subst e; decide
theorem pt_cn (hG : GeoR G) {r g : Int} (hr : ptD r) (hp : isPt G (r % 9) (r / 9)) (h : cn (stW G) r g) : isPt G (g % 9) (g / 9) := by
  rcases cn_first (cn_symm (gphP hG) hr h) with e | ⟨b, way, w1, w2, w3, w4⟩
  · rw [e]; exact hp
  · exact covW_pt w3
def bfI (G : Geo) (r : Int) (M : Int → Prop) (a b : Int → Int) (i way : Int) (sn : Int → Prop) (qu : Int → Int) (w : Int) : Prop :=
  bfs ptD (stW G) 81 r M sn qu w ∧ (∀ g, ptD g → a (tN g) = bZ (sn g)) ∧ (∀ j, 0 ≤ j → j < w → b j = tN (qu j)) ∧ (∀ j g, 0 ≤ j → j < i → stW G (qu j) g → sn g) ∧ (∀ k, 0 ≤ k → k < way → covW G (qu i % 9) (qu i / 9) k → sn (qu i + dw k))
theorem sp76 {a b : Int → Int} {M : Int → Prop} {r : Int} (hG : GeoR G) (hg : GridOK G N) (hcv : ∀ e, 0 ≤ e → e < 178 → N 23 e = covC G e) (hr : ptD r) (hp : isPt G (r % 9) (r / 9)) (hM : ∀ x y, ptD x → stW G x y → M y → M x) (hrM : ¬ M r) (ha : ∀ g, ptD g → a (tN g) = bZ (M g)) :
    ∃ a' b', (∀ g, ptD g → a' (tN g) = bZ (M g ∨ cn (stW G) r g)) ∧ Rn 76 [.ref 22, .int (J (r % 9)), .int (J (r / 9))] (hs E (jm (mmP N a b))) (some (.int (J (sumZ 81 (fun g => bZ (cn (stW G) r g) * (mee G g % 2)))))) (hs E (jm (mmP N a' b'))) := by
  have gp := gphP hG
  have key := loopZ (a := 0) (n := 81) (Q := fun i => ∀ w a b sn qu, bfI G r M a b i 0 sn qu w → i ≤ w → ∃ a' b', (∀ g, ptD g → a' (tN g) = bZ (M g ∨ cn (stW G) r g)) ∧ Ev 6 76 31 [some (.ref 22), none, none, some (.int (J (sumZ i (fun j => mee G (qu j) % 2)))), some (.int (J w)), some (.int (J i)), none, none, none, none] [] (hs E (jm (mmP N a b))) (some (.int (J (sumZ 81 (fun g => bZ (cn (stW G) r g) * (mee G g % 2))))), hs E (jm (mmP N a' b')))) (by decide) ?_ ?_
  · have hst := bfs_start gp (r := r) (M := M) (qu := fun _ => 0) hr
    have e31 : updZ ((mmP N a b) 31) 0 (G48 (mmP N a b) (r % 9) (r / 9)) 0 = tN r := updZ_s
    have e30 : (mmP N a b) 30 = a := rfl
    have hq9 := key 1 (updZ a (tN r) 1) (updZ b 0 (tN r)) _ _ ⟨hst, ?_, ?_, fun j g j1 j2 => absurd j2 (by omega), fun k k1 k2 => absurd k2 (by omega)⟩ (by decide)
    · obtain ⟨a', b', h1, h2⟩ := hq9
      refine ⟨a', b', h1, c76 (v76_0 ?_)⟩
      rw [e31, mmP_v, e30]
      exact ⟨tN_bd hr, h2⟩
    · intro g hgD
      by_cases q : g = r
      · rw [q, updZ_s, bZ_t (Or.inr rfl)]
      · rw [updZ_n (fun z => q (tN_inj hgD hr z)), ha g hgD]
        exact bZ_congr ⟨Or.inl, fun z => z.elim id (fun z => absurd z q)⟩
    · intro j j1 j2
      have e : j = 0 := by omega
      rw [e, updZ_s, updZ_s]
  · -- the end
    intro w a b sn qu hI hw
    have hb := bfs_bd hI.1 (by decide)
    have hw' : w = 81 := by omega
    subst hw'
    obtain ⟨q1, q2⟩ := bfs_end gp hI.1 hM hr hrM hI.2.2.2.1
    have hS := hI.1.2.2.2.2.1 (fun g => mee G g % 2)
    rw [sumZ_congr (n := 81) (f := fun g => bZ (inq qu 81 g) * (mee G g % 2)) (g := fun g => bZ (cn (stW G) r g) * (mee G g % 2)) (fun k _ _ => by rw [bZ_congr (q1 k)])] at hS
    refine ⟨a, b, fun g hgD => (hI.2.1 g hgD).trans (bZ_congr (q2 g hgD)), v76_31 ⟨by decide, by decide, fun _ => ?_, fun z => absurd (Int.le_refl _) z⟩⟩
    rw [hS]
  · intro i i1 i2 ih w a b sn qu hI hw
    have hb := bfs_bd hI.1 (by decide)
    by_cases hiw : i = w
    · subst hiw
      obtain ⟨q1, q2⟩ := bfs_end gp hI.1 hM hr hrM hI.2.2.2.1
      have hS := hI.1.2.2.2.2.1 (fun g => mee G g % 2)
      rw [sumZ_congr (n := 81) (f := fun g => bZ (inq qu i g) * (mee G g % 2)) (g := fun g => bZ (cn (stW G) r g) * (mee G g % 2)) (fun k _ _ => by rw [bZ_congr (q1 k)])] at hS
      refine ⟨a, b, fun g hgD => (hI.2.1 g hgD).trans (bZ_congr (q2 g hgD)), v76_31 ⟨by omega, by omega, fun _ => ?_, fun z => absurd (Int.le_refl _) z⟩⟩
      rw [hS]
    · have hq := hI.1.2.2.1 i i1 (by omega)
      have hpt := pt_cn hG hr hp hq.2
      have hmb := mee_R (G := G) (q := qu i)
      have e31 : b i = tN (qu i) := hI.2.2.1 i i1 (by omega)
      have hxy := tN_xy hq.1
      have htb := tN_bd hq.1
      -- the four ways
      have inner := loopZ (a := 0) (n := 4) (Q := fun way => ∀ w' a b sn qu', bfI G r M a b i way sn qu' w' → i < w' → qu' i = qu i → sumZ (i + 1) (fun j => mee G (qu' j) % 2) = sumZ (i + 1) (fun j => mee G (qu j) % 2) → ∃ a' b', (∀ g, ptD g → a' (tN g) = bZ (M g ∨ cn (stW G) r g)) ∧ Ev 6 76 85 [some (.ref 22), none, none, some (.int (J (sumZ (i + 1) (fun j => mee G (qu j) % 2)))), some (.int (J (w'))), some (.int (J i)), some (.int (J (qu i % 9))), some (.int (J (qu i / 9))), some (.int (J way)), none] [] (hs E (jm (mmP N a b))) (some (.int (J (sumZ 81 (fun g => bZ (cn (stW G) r g) * (mee G g % 2))))), hs E (jm (mmP N a' b')))) (by decide) ?_ ?_
      · obtain ⟨a', b', h1, h2⟩ := inner w a b sn qu hI (by omega) rfl rfl
        refine ⟨a', b', h1, v76_31 ?_⟩
        rw [mmP_31, e31]
        have hgr : GridOK G (mmP N a b) := hg
        have hcv' : ∀ e, 0 ≤ e → e < 178 → (mmP N a b) 23 e = covC G e := hcv
        have h73 := sp73 (E := E) hG hgr hcv' hpt
        rw [show G49 (mmP N a b) (tN (qu i)) = qu i % 9 from hxy.1, show G50 (mmP N a b) (tN (qu i)) = qu i / 9 from hxy.2]
        refine ⟨by omega, by omega, fun z => absurd z (by omega), fun _ => ⟨fun z => absurd z (by omega), fun _ => ⟨⟨by omega, by omega⟩, ⟨by omega, trivial⟩, ⟨by omega, trivial⟩, _, h73, ?_⟩⟩⟩
        rw [show meeZ G (qu i % 9) (qu i / 9) = mee G (qu i) from rfl, zand1 hmb, show sumZ i (fun j => mee G (qu j) % 2) + mee G (qu i) % 2 = sumZ (i + 1) (fun j => mee G (qu j) % 2) from (sumZ_succ (g := fun j => mee G (qu j) % 2) i1).symm]
        exact h2
      · intro w' a b sn qu' hI' hw' hqi hsum
        have hq9 := ih w' a b sn qu' ⟨hI'.1, hI'.2.1, hI'.2.2.1, ?_, fun k k1 k2 => absurd k2 (by omega)⟩ (by omega)
        · obtain ⟨a', b', h1, h2⟩ := hq9
          refine ⟨a', b', h1, v76_85 ⟨by decide, fun _ => ?_, fun z => absurd (Int.le_refl _) z⟩⟩
          rw [← hsum]
          exact h2
        · intro j g j1 j2 hst
          by_cases e : j = i
          · subst e
            obtain ⟨way, w1, w2, w3, w4⟩ := hst
            rw [w4]
            exact hI'.2.2.2.2 way w1 w2 w3
          · exact hI'.2.2.2.1 j g j1 (by omega) hst
      · intro way w1 w2 ih2 w' a b sn qu' hI' hw' hqi hsum
        have hb' := bfs_bd hI'.1 (by decide)
        have hgr : GridOK G (mmP N a b) := hg
        have hcv' : ∀ e, 0 ≤ e → e < 178 → (mmP N a b) 23 e = covC G e := hcv
        obtain ⟨d1, d2⟩ := cCov hG hgr hcv' hpt (way := way) ⟨w1, w2⟩
        have m1 := bZ_01 (p := covW G (qu i % 9) (qu i / 9) way)
        have q53 : Q53 (mmP N a b) way := by unfold Q53; (repeat' (first | omega | exact True.intro | exact absurd True.intro ‹¬ True› | apply And.intro | intro _))
        have q54 : Q54 (mmP N a b) way := by unfold Q54; (repeat' (first | omega | exact True.intro | exact absurd True.intro ‹¬ True› | apply And.intro | intro _))
        by_cases hc : covW G (qu i % 9) (qu i / 9) way
        · have hnx := tN_dw (N := mmP N a b) hG ⟨w1, w2⟩ hc
          have hst : stW G (qu' i) (qu i + dw way) := by
            rw [hqi]
            exact ⟨way, w1, w2, hc, rfl⟩
          have hD := (gp.1 _ _ hq.1 (hqi ▸ hst)).1
          have hnb := tN_bd hD
          have e48 : G48 (mmP N a b) (qu i % 9 + G53 (mmP N a b) way) (qu i / 9 + G54 (mmP N a b) way) = tN (qu i + dw way) := hnx
          have m2 := bZ_01 (p := sn (qu i + dw way))
          by_cases hsn : sn (qu i + dw way)
          · have hq9 := ih2 w' a b sn qu' ⟨hI'.1, hI'.2.1, hI'.2.2.1, hI'.2.2.2.1, ?_⟩ hw' hqi hsum
            · obtain ⟨a', b', h1, h2⟩ := hq9
              refine ⟨a', b', h1, v76_85 ?_⟩
              rw [d1, bZ_t hc, e48, mmP_30, hI'.2.1 _ hD, bZ_t hsn]
              exact ⟨by omega, fun z => absurd z (by omega), fun _ => ⟨q53, q54, d2, by decide, fun z => absurd z (by decide), fun _ => ⟨hnb, by decide, fun z => absurd z (by decide), fun _ => h2⟩⟩⟩
            · intro k k1 k2 hk
              by_cases e : k = way
              · rw [e, hqi]; exact hsn
              · exact hI'.2.2.2.2 k k1 (by omega) hk
          · have hadd := bfs_add gp hI'.1 ⟨i1, hw'⟩ hst hsn
            have hlt := bfs_bd hadd (by decide)
            have hq9 := ih2 (w' + 1) (updZ a (tN (qu i + dw way)) 1) (updZ b w' (tN (qu i + dw way))) _ _ ⟨hadd, ?_, ?_, ?_, ?_⟩ (by omega) (by rw [updZ_n (by omega)]; exact hqi) ?_
            · obtain ⟨a', b', h1, h2⟩ := hq9
              refine ⟨a', b', h1, v76_85 ?_⟩
              rw [d1, bZ_t hc, e48, mmP_30, mmP_31, hI'.2.1 _ hD, bZ_f hsn, mmP_w]
              exact ⟨by omega, fun z => absurd z (by omega), fun _ => ⟨q53, q54, d2, by decide, fun z => absurd z (by decide), fun _ => ⟨hnb, by decide, fun _ => ⟨by omega, fun z => absurd z (by omega), fun _ => ⟨by omega, h2⟩⟩, fun z => absurd rfl z⟩⟩⟩
            · intro g hgD
              by_cases q : g = qu i + dw way
              · rw [q, updZ_s, bZ_t (Or.inr rfl)]
              · rw [updZ_n (fun z => q (tN_inj hgD hD z)), hI'.2.1 g hgD]
                exact bZ_congr ⟨Or.inl, fun z => z.elim id (fun z => absurd z q)⟩
            · intro j j1 j2
              by_cases q : j = w'
              · rw [q, updZ_s, updZ_s]
              · rw [updZ_n q, updZ_n q]
                exact hI'.2.2.1 j j1 (by omega)
            · intro j g j1 j2 hj
              rw [updZ_n (by omega)] at hj
              exact Or.inl (hI'.2.2.2.1 j g j1 j2 hj)
            · intro k k1 k2 hk
              rw [updZ_n (by omega)] at hk ⊢
              by_cases e : k = way
              · rw [e, hqi]; exact Or.inr rfl
              · exact Or.inl (hI'.2.2.2.2 k k1 (by omega) hk)
            · rw [← hsum]
              exact sumZ_congr fun j j1 j2 => by rw [updZ_n (by omega)]
        · have hq9 := ih2 w' a b sn qu' ⟨hI'.1, hI'.2.1, hI'.2.2.1, hI'.2.2.2.1, ?_⟩ hw' hqi hsum
          · obtain ⟨a', b', h1, h2⟩ := hq9
            refine ⟨a', b', h1, v76_85 ?_⟩
            rw [d1, bZ_f hc]
            exact ⟨by omega, fun z => absurd z (by omega), fun _ => ⟨q53, q54, d2, by decide, fun _ => h2, fun z => absurd rfl z⟩⟩
          · intro k k1 k2 hk
            by_cases e : k = way
            · rw [e, hqi] at hk
              exact absurd hk hc
            · exact hI'.2.2.2.2 k k1 (by omega) hk
/-- seen, when all points before k have been gone through -/
def sePk (G : Geo) (k g : Int) : Prop := pz G g < k ∧ 0 < mee G g
theorem seP_cl (hG : GeoR G) {k x y : Int} (hx : ptD x) (h : stW G x y) (hy : sePk G k y) : sePk G k x := ⟨by rw [pz_st hG hx h]; exact hy.1, mee_st h⟩
theorem seP_skip (hG : GeoR G) {k g : Int} (hn : ¬ rep G k) (hg : ptD g) : sePk G (k + 1) g ↔ sePk G k g := by
  constructor
  · intro h
    have h1 := h.1
    refine ⟨?_, h.2⟩
    by_cases e : pz G g = k
    · exact absurd (e ▸ rep_of hG hg h.2) hn
    · omega
  · intro h
    have h1 := h.1
    exact ⟨by omega, h.2⟩
theorem seP_add (hG : GeoR G) {k g : Int} (hk : ptD k) (hr : rep G k) (hg : ptD g) : sePk G (k + 1) g ↔ sePk G k g ∨ cn (stW G) k g := by
  have gp := gphP hG
  constructor
  · intro h
    have h1 := h.1
    by_cases e : pz G g = k
    · refine Or.inr (lz_cn' gp hk hg ?_)
      show pz G k = pz G g
      rw [hr.1, e]
    · exact Or.inl ⟨by omega, h.2⟩
  · rintro (h | h)
    · have h1 := h.1
      exact ⟨by omega, h.2⟩
    · have e : pz G k = pz G g := lz_cn gp hk h
      have e1 := hr.1
      refine ⟨by omega, ?_⟩
      rcases cn_first (cn_symm gp hk h) with q | ⟨b, hb⟩
      · rw [q]; exact hr.2
      · exact mee_st hb
theorem od_cn (hG : GeoR G) {k : Int} (hk : ptD k) (hr : rep G k) : sumZ 81 (fun g => bZ (cn (stW G) k g) * (mee G g % 2)) = odF G k 81 := by
  have gp := gphP hG
  unfold odF
  refine sumZ_congr fun g g1 g2 => ?_
  congr 1
  refine bZ_congr ⟨fun h => ?_, fun h => lz_cn' gp hk ⟨g1, g2⟩ ?_⟩
  · rw [← show pz G k = pz G g from lz_cn gp hk h]
    exact hr.1
  · show pz G k = pz G g
    rw [hr.1, h]
theorem sp75 (hI : PicOK P) (hC : ClsOK P N) : ∃ a b, Rn 75 [.ref 22] (hs E (jm N)) (some (.int (J (pieZ P.toGeo)))) (hs E (jm (mmP N a b))) := by
  have hG := hI.geo
  have h8 := hG.w
  have h9 := hG.h
  have hg := hC.grid
  have hcv := hC.net.cov
  have nr : ∀ q, ¬ isPt P.toGeo (q % 9) (q / 9) → ¬ rep P.toGeo q := by
    intro q hq hr
    have := hr.2
    rw [mee_npt hq] at this
    omega
  -- going over points that are none
  have skip : ∀ n k : Int, 0 ≤ k → k ≤ n → n ≤ 81 → (∀ q, k ≤ q → q < n → ¬ isPt P.toGeo (q % 9) (q / 9)) → sumZ n (coF P.toGeo) = sumZ k (coF P.toGeo) ∧ ∀ g, ptD g → (sePk P.toGeo n g ↔ sePk P.toGeo k g) := by
    intro n k k0 k1 k2 hq
    refine loopZ (a := k) (n := n) (Q := fun j => sumZ n (coF P.toGeo) = sumZ j (coF P.toGeo) ∧ ∀ g, ptD g → (sePk P.toGeo n g ↔ sePk P.toGeo j g)) k1 ⟨rfl, fun _ _ => Iff.rfl⟩ ?_
    intro j j1 j2 ih
    have hj := nr j (hq j j1 j2)
    rw [sumZ_succ (by omega), coF_0 hG ⟨by omega, by omega⟩ hj, Int.add_zero] at ih
    exact ⟨ih.1, fun g hgD => (ih.2 g hgD).trans (seP_skip hG hj hgD)⟩
  have key := loopZ (a := 0) (n := P.toGeo.h + 1) (Q := fun y => ∀ a b, (∀ g, ptD g → a (tN g) = bZ (sePk P.toGeo (9 * y) g)) → ∃ a' b', Ev 7 75 12 [some (.ref 22), some (.int (J (sumZ (9 * y) (coF P.toGeo)))), some (.int (J y)), none] [] (hs E (jm (mmP N a b))) (some (.int (J (pieZ P.toGeo))), hs E (jm (mmP N a' b')))) (by omega) ?_ ?_
  · have hq9 := key (fiF (N 30) 0 89) (N 31) ?_
    · obtain ⟨a', b', h1⟩ := hq9
      refine ⟨a', b', c75 (v75_0 ⟨_, fi30, ?_⟩)⟩
      have e : mmP N (fiF (N 30) 0 89) (N 31) = upZ N 30 (fiF (N 30) 0 89) := upZ_id (N := upZ N 30 (fiF (N 30) 0 89)) (a := 31)
      rw [← e]
      exact h1
    · intro g hgD
      rw [fiF_in (tN_bd hgD), bZ_f]
      intro h
      have h1 := h.1
      have h2 : 0 ≤ pz P.toGeo g := (lz_ex (gphP hG) hgD).1.1
      omega
  · intro a b ha
    refine ⟨a, b, v75_12 ?_⟩
    have e39 : G39 (mmP N a b) = P.toGeo.h := hg.h
    rw [e39]
    refine ⟨by omega, by omega, fun _ => ?_, fun z => absurd (by omega) z⟩
    unfold pieZ
    rw [(skip 81 (9 * (P.toGeo.h + 1)) (by omega) (by omega) (by decide) (fun q q1 q2 => by unfold isPt; omega)).1]
  · intro y y1 y2 ih a b ha
    have inner := loopZ (a := 0) (n := P.toGeo.w + 1) (Q := fun x => ∀ a b, (∀ g, ptD g → a (tN g) = bZ (sePk P.toGeo (9 * y + x) g)) → ∃ a' b', Ev 7 75 25 [some (.ref 22), some (.int (J (sumZ (9 * y + x) (coF P.toGeo)))), some (.int (J y)), some (.int (J x))] [] (hs E (jm (mmP N a b))) (some (.int (J (pieZ P.toGeo))), hs E (jm (mmP N a' b')))) (by omega) ?_ ?_
    · obtain ⟨a', b', h1⟩ := inner a b (by rw [Int.add_zero]; exact ha)
      rw [Int.add_zero] at h1
      refine ⟨a', b', v75_12 ?_⟩
      have e39 : G39 (mmP N a b) = P.toGeo.h := hg.h
      rw [e39]
      exact ⟨by omega, by omega, fun z => absurd z (by omega), fun _ => h1⟩
    · intro a b ha
      obtain ⟨s1, s2⟩ := skip (9 * (y + 1)) (9 * y + (P.toGeo.w + 1)) (by omega) (by omega) (by omega) (fun q q1 q2 => by unfold isPt; omega)
      obtain ⟨a', b', h1⟩ := ih a b (fun g hgD => (ha g hgD).trans (bZ_congr (s2 g hgD).symm))
      refine ⟨a', b', v75_25 ?_⟩
      have e38 : G38 (mmP N a b) = P.toGeo.w := hg.w
      rw [e38, ← s1]
      exact ⟨by omega, by omega, fun _ => h1, fun z => absurd (by omega) z⟩
    · intro x x1 x2 ih2 a b ha
      have hD : ptD (9 * y + x) := ⟨by omega, by omega⟩
      have exy := pl_xy (x := x) (y := y) (by omega)
      have hp : isPt P.toGeo ((9 * y + x) % 9) ((9 * y + x) / 9) := by
        rw [exy.1, exy.2]
        exact ⟨x1, by omega, y1, by omega⟩
      have e38 : G38 (mmP N a b) = P.toGeo.w := hg.w
      have e48 : G48 (mmP N a b) x y = tN (9 * y + x) := by
        unfold tN
        rw [exy.1, exy.2]
        rfl
      have hnb := tN_bd hD
      have hmb := mee_R (G := P.toGeo) (q := 9 * y + x)
      have m2 := bZ_01 (p := sePk P.toGeo (9 * y + x) (9 * y + x))
      have hgr : GridOK P.toGeo (mmP N a b) := hg
      have hcv' : ∀ e, 0 ≤ e → e < 178 → (mmP N a b) 23 e = covC P.toGeo e := hcv
      have h73 := sp73 (E := E) hG hgr hcv' hp
      rw [show meeZ P.toGeo ((9 * y + x) % 9) ((9 * y + x) / 9) = mee P.toGeo (9 * y + x) from rfl, exy.1, exy.2] at h73
      by_cases hr : rep P.toGeo (9 * y + x)
      · have hns : ¬ sePk P.toGeo (9 * y + x) (9 * y + x) := by
          intro h
          have h1 := h.1
          have h2 := hr.1
          omega
        obtain ⟨a1, b1, f1, f2⟩ := sp76 (E := E) (N := N) (a := a) (b := b) hG hg hcv hD hp (fun u v hu hv hs => seP_cl hG hu hv hs) hns ha
        rw [exy.1, exy.2, od_cn hG hD hr] at f2
        obtain ⟨a', b', h1⟩ := ih2 a1 b1 (fun g hgD => (f1 g hgD).trans (bZ_congr (by rw [← Int.add_assoc]; exact (seP_add hG hD hr hgD).symm)))
        have hod := odF_bd (G := P.toGeo) (p := 9 * y + x) (k := 81) (by decide)
        have hev := od_even hG (p := 9 * y + x)
        have h2 := hr.2
        refine ⟨a', b', v75_25 ?_⟩
        rw [e38, e48, mmP_30, ha _ hD, bZ_f hns]
        refine ⟨by omega, by omega, fun z => absurd z (by omega), fun _ => ⟨hnb, by decide, fun _ => ⟨_, h73, by omega, fun z => absurd z (by omega), fun _ => ⟨_, _, f2, by omega, ?_, ?_⟩⟩, fun z => absurd rfl z⟩⟩
        · rw [Int.tdiv_eq_ediv_of_nonneg hod.1]
          unfold Q311
          (repeat' (first | omega | exact True.intro | exact absurd True.intro ‹¬ True› | apply And.intro | intro _))
        · have ec : G311 (mmP N a1 b1) 1 (Int.tdiv (odF P.toGeo (9 * y + x) 81) 2) = coF P.toGeo (9 * y + x) := by
            rw [Int.tdiv_eq_ediv_of_nonneg hod.1]
            unfold G311 coF
            rw [if_neg ((po_pos hG hD).mpr hr)]
            split <;> split <;> omega
          rw [ec, show sumZ (9 * y + x) (coF P.toGeo) + coF P.toGeo (9 * y + x) = sumZ (9 * y + (x + 1)) (coF P.toGeo) by rw [← Int.add_assoc, sumZ_succ (by omega)]]
          exact h1
      · obtain ⟨a', b', h1⟩ := ih2 a b (fun g hgD => (ha g hgD).trans (bZ_congr (by rw [← Int.add_assoc]; exact (seP_skip hG hr hgD).symm)))
        rw [← Int.add_assoc, sumZ_succ (by omega), coF_0 hG hD hr, Int.add_zero] at h1
        refine ⟨a', b', v75_25 ?_⟩
        rw [e38, e48, mmP_30, ha _ hD]
        by_cases hsn : sePk P.toGeo (9 * y + x) (9 * y + x)
        · rw [bZ_t hsn]
          exact ⟨by omega, by omega, fun z => absurd z (by omega), fun _ => ⟨hnb, by decide, fun z => absurd z (by decide), fun _ => h1⟩⟩
        · rw [bZ_f hsn]
          have hm0 : mee P.toGeo (9 * y + x) ≤ 0 := by
            apply Classical.byContradiction
            intro hm
            have hle : pz P.toGeo (9 * y + x) ≤ 9 * y + x := lz_le (gphP hG) hD
            by_cases e : pz P.toGeo (9 * y + x) = 9 * y + x
            · exact hr ⟨e, by omega⟩
            · exact hsn ⟨by omega, by omega⟩
          exact ⟨by omega, by omega, fun z => absurd z (by omega), fun _ => ⟨hnb, by decide, fun _ => ⟨_, h73, by omega, fun _ => h1, fun z => absurd hm0 z⟩, fun z => absurd rfl z⟩⟩
end PIP
