/-! cut: both answer alike -/
section CUT
variable {E : gw_N} {N : NM} {P : Pic} {n K : Int} {ln p rl rm : Int → Int}
/-- a way to cut with these groups -/
def wyP (n K : Int) (ln rl rm p : Int → Int) (g t : Int) : Prop := ∃ f, fsb (mxZ p n + 1) K (sgP n ln p) rl (fun _ => True) rm f ∧ g = mxZ p n + 1 ∧ t = totF (mxZ p n + 1) rl (fun _ => True) f
theorem wy_same {p2 : Int → Int} {g t : Int} (hn : 0 ≤ n) (h : ∀ k, 0 ≤ k → k < n → p k = p2 k) (hw : wyP n K ln rl rm p g t) : wyP n K ln rl rm p2 g t := by
  have e1 := mx_same hn h
  have e2 : sgP n ln p = sgP n ln p2 := by
    funext i
    exact sm_congr fun w w1 w2 => by rw [h w w1 w2]
  unfold wyP at hw ⊢
  rw [e1, e2] at hw
  exact hw
/-- the best of all groups before -/
def bsI (n K : Int) (ln rl rm : Int → Int) (H bg bt : Int) : Prop := (bg = -1 ∧ ∀ p, rgs n p → hvZ p n < H → ∀ g t, ¬ wyP n K ln rl rm p g t) ∨ (((1 ≤ bg ∧ bg ≤ 8) ∧ (0 ≤ bt ∧ bt ≤ 792)) ∧ (∃ p, rgs n p ∧ wyP n K ln rl rm p bg bt) ∧ ∀ p, rgs n p → hvZ p n < H → ∀ g t, wyP n K ln rl rm p g t → bg < g ∨ (bg = g ∧ bt ≤ t))
theorem bs_ext {H H' bg bt : Int} (h : ∀ p, rgs n p → hvZ p n < H' → hvZ p n < H) (hb : bsI n K ln rl rm H bg bt) : bsI n K ln rl rm H' bg bt := by
  rcases hb with ⟨h1, h2⟩ | ⟨h1, h2, h3⟩
  · exact Or.inl ⟨h1, fun p a b => h2 p a (h p a b)⟩
  · exact Or.inr ⟨h1, h2, fun p a b => h3 p a (h p a b)⟩
theorem hv_eq {a b : Int → Int} (hn : 0 ≤ n ∧ n ≤ 8) (ha : rgs n a) (hb : rgs n b) (h : hvZ a n = hvZ b n) : ∀ k, 0 ≤ k → k < n → a k = b k := by
  apply Classical.byContradiction
  intro z
  have hx : ∃ t, 0 ≤ t ∧ t < n ∧ ¬ a t = b t := by
    apply Classical.byContradiction
    intro y
    refine z fun k k1 k2 => ?_
    apply Classical.byContradiction
    intro x
    exact y ⟨k, k1, k2, x⟩
  obtain ⟨t, ⟨t1, t2, t3⟩, hmin⟩ := exists_min (p := fun t => 0 ≤ t ∧ t < n ∧ ¬ a t = b t) hx (fun g hg => hg.1)
  have he : ∀ k, 0 ≤ k → k < t → a k = b k := by
    intro k k1 k2
    apply Classical.byContradiction
    intro y
    have := hmin k ⟨k1, by omega, y⟩
    omega
  by_cases q : a t < b t
  · have := hv_lt (rgs_dig hn.2 ha) (rgs_dig hn.2 hb) ⟨t1, t2⟩ he q
    omega
  · have := hv_lt (rgs_dig hn.2 hb) (rgs_dig hn.2 ha) ⟨t1, t2⟩ (fun k a b => (he k a b).symm) (by omega)
    omega
theorem wy_bd {g t : Int} (hn : 1 ≤ n ∧ n ≤ 8) (hrl : ∀ k, 0 ≤ k → k < K → 1 ≤ rl k ∧ rl k ≤ 99) (hp : rgs n p) (hw : wyP n K ln rl rm p g t) : (1 ≤ g ∧ g ≤ 8) ∧ (0 ≤ t ∧ t ≤ 792) := by
  obtain ⟨f, f1, f2, f3⟩ := hw
  have m1 := mx_nn (p := p) (k := n) (by omega)
  have m2 := (rgs_bd hp (n - 1) (by omega) (by omega)).2
  rw [show n - 1 + 1 = n by omega] at m2
  refine ⟨by omega, ?_⟩
  have := sumZ_bd' (g := fun i => bZ True * rl (f i)) (n := mxZ p n + 1) (B := 8) (c := 99) (fun i i1 i2 => by
    have h1 := f1.1 i i1 i2 trivial
    have h2 := hrl (f i) h1.1.1 h1.1.2
    rw [bZ_t trivial]
    omega) (by omega) (by omega) (by decide)
  rw [f3]
  exact ⟨this.1, this.2⟩
theorem bs_step {H bg bt r : Int} (hn : 1 ≤ n ∧ n ≤ 8) (hrl : ∀ k, 0 ≤ k → k < K → 1 ≤ rl k ∧ rl k ≤ 99) (hp : rgs n p) (hH : H = hvZ p n) (hb : bsI n K ln rl rm H bg bt) (hr : bst (mxZ p n + 1) K (sgP n ln p) rl (fun _ => True) rm r) :
    (r = -1 → bsI n K ln rl rm (H + 1) bg bt) ∧ (¬ r = -1 → (bg = -1 ∨ mxZ p n + 1 < bg ∨ (mxZ p n + 1 = bg ∧ r < bt)) → bsI n K ln rl rm (H + 1) (mxZ p n + 1) r) ∧ (¬ r = -1 → ¬ bg = -1 → (bg < mxZ p n + 1 ∨ (mxZ p n + 1 = bg ∧ bt ≤ r)) → bsI n K ln rl rm (H + 1) bg bt) := by
  -- the same groups give the same
  have hsame : ∀ p2, rgs n p2 → hvZ p2 n < H + 1 → ¬ hvZ p2 n < H → ∀ g t, wyP n K ln rl rm p2 g t → wyP n K ln rl rm p g t := fun p2 h2 a b g t hw => wy_same (by omega) (hv_eq ⟨by omega, hn.2⟩ h2 hp (by omega)) hw
  rcases hr with ⟨r1, r2⟩ | ⟨r1, ⟨f0, r2, r3⟩, r4⟩
  · have none : ∀ g t, ¬ wyP n K ln rl rm p g t := fun g t hw => by
      obtain ⟨f, f1, _⟩ := hw
      exact r2 f f1
    refine ⟨fun _ => ?_, fun z => absurd r1 z, fun z => absurd r1 z⟩
    rcases hb with ⟨h1, h2⟩ | ⟨h1, h2, h3⟩
    · refine Or.inl ⟨h1, fun p2 a b g t hw => ?_⟩
      by_cases q : hvZ p2 n < H
      · exact h2 p2 a q g t hw
      · exact none g t (hsame p2 a b q g t hw)
    · refine Or.inr ⟨h1, h2, fun p2 a b g t hw => ?_⟩
      by_cases q : hvZ p2 n < H
      · exact h3 p2 a q g t hw
      · exact absurd (hsame p2 a b q g t hw) (none g t)
  · have mine : wyP n K ln rl rm p (mxZ p n + 1) r := ⟨f0, r2, rfl, r3.symm⟩
    have bd := wy_bd hn hrl hp mine
    have least : ∀ g t, wyP n K ln rl rm p g t → g = mxZ p n + 1 ∧ r ≤ t := fun g t hw => by
      obtain ⟨f, f1, f2, f3⟩ := hw
      exact ⟨f2, by rw [f3]; exact r4 f f1⟩
    refine ⟨fun z => by omega, fun _ hc => ?_, fun _ hg hc => ?_⟩
    · refine Or.inr ⟨bd, ⟨p, hp, mine⟩, fun p2 a b g t hw => ?_⟩
      by_cases q : hvZ p2 n < H
      · rcases hb with ⟨h1, h2⟩ | ⟨h1, h2, h3⟩
        · exact absurd hw (h2 p2 a q g t)
        · have := h3 p2 a q g t hw
          omega
      · have := least g t (hsame p2 a b q g t hw)
        omega
    · rcases hb with ⟨h1, h2⟩ | ⟨h1, h2, h3⟩
      · exact absurd h1 hg
      · refine Or.inr ⟨h1, h2, fun p2 a b g t hw => ?_⟩
        by_cases q : hvZ p2 n < H
        · exact h3 p2 a q g t hw
        · have := least g t (hsame p2 a b q g t hw)
          omega
/-- what the reference answers of its best -/
def ctZ (x S bg bt : Int) : Int := if bg = -1 then -1 else if x = 0 then bg else bt - S
theorem sp306_118 {x S : Int} (hI : PicOK P) (hn : 1 ≤ nL P.toGeo ∧ nL P.toGeo ≤ 8) (hx : x = 0 ∨ x = 1) : ∀ (d : Nat) (p : Int → Int) (N' : NM) (bg bt : Int), rgs (nL P.toGeo) p → 43046721 ≤ hvZ p (nL P.toGeo) + d → bsI (nL P.toGeo) P.toRod.rods (lnZ P.toGeo) P.toRod.rl P.toRod.rm (hvZ p (nL P.toGeo)) bg bt → N' 59 40 = nL P.toGeo → (∀ k, 0 ≤ k → k < nL P.toGeo → N' 86 k = lnZ P.toGeo k) → (∀ k, 0 ≤ k → k < nL P.toGeo → N' 87 k = p k) → RefOK P N' → sCls N N' →
    ∃ N'' bg' bt', (bsI (nL P.toGeo) P.toRod.rods (lnZ P.toGeo) P.toRod.rl P.toRod.rm 43046721 bg' bt' ∧ RefOK P N'' ∧ sCls N N'') ∧ Ev 2 306 118 [some (.ref 59), some (.int (J x)), some (.int (J S)), some (.int (J bg)), some (.int (J bt)), some (.int (J 1)), none, none] [] (hs E (jm N')) (some (.int (J (ctZ x S bg' bt'))), hs E (jm N'')) := by
  have hG := hI.geo
  intro d
  induction d with
  | zero =>
    intro p N' bg bt hp hd _ _ _ _ _ _
    have := hv_bd ⟨by omega, hn.2⟩ (rgs_dig hn.2 hp)
    omega
  | succ d ih =>
    intro p N' bg bt hp hd hb h40 h86 h87 hR hS
    have hm1 := mx_nn (p := p) (k := nL P.toGeo) (by omega)
    have hm2 := (rgs_bd hp (nL P.toGeo - 1) (by omega) (by omega)).2
    rw [show nL P.toGeo - 1 + 1 = nL P.toGeo by omega] at hm2
    obtain ⟨f, r302, hf⟩ := sp302 (E := E) (N := N') (ln := lnZ P.toGeo) hn hp h40 h86 h87
    obtain ⟨r, f2, r303, hr⟩ := sp303 (E := E) (N := upZ N' 88 f) (G := mxZ p (nL P.toGeo) + 1) (K := P.toRod.rods) (sg := sgP (nL P.toGeo) (lnZ P.toGeo) p) (rl := P.toRod.rl) (rm := P.toRod.rm) (by omega) hI.rod.rods hI.rod.rl hI.rod.rm (fun i _ _ => sm_bd hG hn.2) hf hR.rods (fun k _ _ => congrFun hR.rl k) (fun k _ _ => congrFun hR.rm k)
    obtain ⟨r4, p', g, r304, hg, hnx⟩ := sp304 (E := E) (N := upZ (upZ N' 88 f) 89 f2) hn hp h40 h87
    have hst := bs_step hn hI.rod.rl hp rfl hb hr
    have hrb : r = -1 ∨ 0 ≤ r := hr.elim (fun z => Or.inl z.1) (fun z => Or.inr z.1)
    have hrB : r ≤ 792 := by
      rcases hr with z | ⟨_, ⟨f0, z2, z3⟩, _⟩
      · omega
      · exact (wy_bd hn hI.rod.rl hp ⟨f0, z2, rfl, z3.symm⟩).2.2
    have R1 : RefOK P (upZ (upZ (upZ N' 88 f) 89 f2) 87 g) := by (refine RefOK.mk ?_ ?_ ?_ ?_ ?_ ?_ ?_ ?_ ?_ ?_ ?_ ?_ ?_ ?_ ?_ ?_ ?_ ?_ ?_ ?_ ?_ ?_ ?_ ?_ ?_ ?_ ?_ <;> simp [Pic.setGeo, Pic.setPag, Pic.setPal, Pic.setGla, Pic.setTen, Pic.setRod, Pic.mk, Pic.toGeo, Pic.toPag, Pic.toPal, Pic.toGla, Pic.toTen, Pic.toRod, Geo.mk, Geo.w, Geo.h, Geo.ws, Geo.px, Geo.py, Geo.mv, Geo.laid, Geo.sold, Pag.mk, Pag.pm, Pag.pg, Pal.mk, Pal.wall, Pal.stiff, Pal.bear, Pal.heat, Pal.shr, Pal.pul, Pal.foe, Gla.mk, Gla.fires, Gla.lay, Gla.col, Gla.thk, Gla.sta, Ten.mk, Ten.bc, Ten.bt, Rod.mk, Rod.rods, Rod.rl, Rod.rm, upZ, updZ, (hR).w, (hR).h, (hR).pm, (hR).ws, (hR).wall, (hR).stiff, (hR).bear, (hR).fires, (hR).bc, (hR).bt, (hR).rods, (hR).pg, (hR).px, (hR).py, (hR).mv, (hR).laid, (hR).sold, (hR).heat, (hR).shr, (hR).pul, (hR).foe, (hR).lay, (hR).col, (hR).thk, (hR).sta, (hR).rl, (hR).rm])
    have S1 : sCls N (upZ (upZ (upZ N' 88 f) 89 f2) 87 g) := fun a ha => by rw [upZ_n (by omega), upZ_n (by omega), upZ_n (by omega)]; exact hS a ha
    -- go on with the best so far
    have tail : ∀ b1 b2, bsI (nL P.toGeo) P.toRod.rods (lnZ P.toGeo) P.toRod.rl P.toRod.rm (hvZ p (nL P.toGeo) + 1) b1 b2 → ∃ N'' bg' bt', (bsI (nL P.toGeo) P.toRod.rods (lnZ P.toGeo) P.toRod.rl P.toRod.rm 43046721 bg' bt' ∧ RefOK P N'' ∧ sCls N N'') ∧ Ev 2 306 118 [some (.ref 59), some (.int (J x)), some (.int (J S)), some (.int (J b1)), some (.int (J b2)), some (.int (J r4)), none, none] [] (hs E (jm (upZ (upZ (upZ N' 88 f) 89 f2) 87 g))) (some (.int (J (ctZ x S bg' bt'))), hs E (jm N'')) := by
      intro b1 b2 hb2
      rcases hnx with ⟨e, hno⟩ | ⟨e, hp', hlt, hmin⟩
      · have hfin : bsI (nL P.toGeo) P.toRod.rods (lnZ P.toGeo) P.toRod.rl P.toRod.rm 43046721 b1 b2 := bs_ext (fun p2 h2 _ => by have := hno p2 h2; omega) hb2
        refine ⟨_, b1, b2, ⟨hfin, R1, S1⟩, v306_118 ?_⟩
        have hb1 : (b1 = -1 ∨ 1 ≤ b1) ∧ b1 ≤ 8 := by
          rcases hb2 with z | z
          · omega
          · have := z.1; omega
        rw [e]
        unfold ctZ
        refine ⟨by decide, fun _ => ⟨by omega, fun z => ?_, fun z => ⟨by omega, fun y => ?_, fun y => ?_⟩⟩, fun z => absurd rfl z⟩
        · rw [if_pos z]
        · rw [if_neg z, if_pos y]
        · rw [if_neg z, if_neg y]
      · rw [e]
        exact ih p' _ b1 b2 hp' (by omega) (bs_ext (fun p2 h2 z => by
          by_cases q : hvZ p (nL P.toGeo) < hvZ p2 (nL P.toGeo)
          · have := hmin p2 h2 q; omega
          · omega) hb2) h40 h86 hg R1 S1
    have hbg : (bg = -1 ∨ 1 ≤ bg) ∧ bg ≤ 8 := by
      rcases hb with z | z
      · omega
      · have := z.1; omega
    by_cases q1 : r = -1
    · obtain ⟨N'', b1, b2, k1, k2⟩ := tail bg bt (hst.1 q1)
      exact ⟨N'', b1, b2, k1, v306_118 ⟨by decide, fun z => absurd z (by decide), fun _ => ⟨_, _, r302, _, _, r303, by omega, fun _ => ⟨_, _, r304, k2⟩, fun z => absurd q1 z⟩⟩⟩
    · by_cases q2 : bg = -1
      · obtain ⟨N'', b1, b2, k1, k2⟩ := tail _ r (hst.2.1 q1 (Or.inl q2))
        exact ⟨N'', b1, b2, k1, v306_118 ⟨by decide, fun z => absurd z (by decide), fun _ => ⟨_, _, r302, _, _, r303, by omega, fun z => absurd z q1, fun _ => ⟨by omega, fun _ => ⟨_, _, r304, k2⟩, fun z => absurd q2 z⟩⟩⟩⟩
      · by_cases q3 : mxZ p (nL P.toGeo) + 1 < bg
        · obtain ⟨N'', b1, b2, k1, k2⟩ := tail _ r (hst.2.1 q1 (Or.inr (Or.inl q3)))
          exact ⟨N'', b1, b2, k1, v306_118 ⟨by decide, fun z => absurd z (by decide), fun _ => ⟨_, _, r302, _, _, r303, by omega, fun z => absurd z q1, fun _ => ⟨by omega, fun z => absurd z q2, fun _ => ⟨by omega, fun _ => ⟨_, _, r304, k2⟩, fun z => absurd q3 z⟩⟩⟩⟩⟩
        · by_cases q4 : mxZ p (nL P.toGeo) + 1 = bg
          · have hbt : 0 ≤ bt ∧ bt ≤ 792 := by
              rcases hb with z | z
              · exact absurd z.1 q2
              · exact z.1.2
            by_cases q5 : bt ≤ r
            · obtain ⟨N'', b1, b2, k1, k2⟩ := tail bg bt (hst.2.2 q1 q2 (Or.inr ⟨q4, q5⟩))
              exact ⟨N'', b1, b2, k1, v306_118 ⟨by decide, fun z => absurd z (by decide), fun _ => ⟨_, _, r302, _, _, r303, by omega, fun z => absurd z q1, fun _ => ⟨by omega, fun z => absurd z q2, fun _ => ⟨by omega, fun z => absurd z q3, fun _ => ⟨fun _ => ⟨by omega, fun _ => ⟨_, _, r304, k2⟩, fun z => absurd q5 z⟩, fun z => absurd q4 z⟩⟩⟩⟩⟩⟩
            · obtain ⟨N'', b1, b2, k1, k2⟩ := tail _ r (hst.2.1 q1 (Or.inr (Or.inr ⟨q4, by omega⟩)))
              exact ⟨N'', b1, b2, k1, v306_118 ⟨by decide, fun z => absurd z (by decide), fun _ => ⟨_, _, r302, _, _, r303, by omega, fun z => absurd z q1, fun _ => ⟨by omega, fun z => absurd z q2, fun _ => ⟨by omega, fun z => absurd z q3, fun _ => ⟨fun _ => ⟨by omega, fun z => absurd z q5, fun _ => ⟨_, _, r304, k2⟩⟩, fun z => absurd q4 z⟩⟩⟩⟩⟩⟩
          · obtain ⟨N'', b1, b2, k1, k2⟩ := tail bg bt (hst.2.2 q1 q2 (Or.inl (by omega)))
            exact ⟨N'', b1, b2, k1, v306_118 ⟨by decide, fun z => absurd z (by decide), fun _ => ⟨_, _, r302, _, _, r303, by omega, fun z => absurd z q1, fun _ => ⟨by omega, fun z => absurd z q2, fun _ => ⟨by omega, fun z => absurd z q3, fun _ => ⟨fun z => absurd z q4, fun _ => ⟨_, _, r304, k2⟩⟩⟩⟩⟩⟩⟩
/-- the best of the groups is the least cost -/
theorem ct_cut {x c bg bt : Int} (hI : PicOK P) (hn : 1 ≤ nL P.toGeo ∧ nL P.toGeo ≤ 8) (hc : optC P c) (hb : bsI (nL P.toGeo) P.toRod.rods (lnZ P.toGeo) P.toRod.rl P.toRod.rm 43046721 bg bt) : ctZ x (sumZ (nL P.toGeo) (lnZ P.toGeo)) bg bt = cutA P x c := by
  obtain ⟨c1, c2, c3⟩ := hc
  have hK := hI.rod.rods
  have hall : ∀ p, rgs (nL P.toGeo) p → hvZ p (nL P.toGeo) < 43046721 := fun p hp => (hv_bd ⟨by omega, hn.2⟩ (rgs_dig hn.2 hp)).2
  -- a way of the program is one of the groups
  have conv : c < 1000000 → ∃ p g t, rgs (nL P.toGeo) p ∧ wyP (nL P.toGeo) P.toRod.rods (lnZ P.toGeo) P.toRod.rl P.toRod.rm p g t ∧ c = 1000 * g + t := by
    intro z
    have h1 := as_stq (rm := P.toRod.rm) (K := P.toRod.rods) (by omega) (fun k a b => (hI.rod.rm k a b).1) P.toRod.rods.toNat (by omega) _ _ (c2 z)
    rw [Int.toNat_of_nonneg hK.1] at h1
    obtain ⟨p, f, k1, k2, k3⟩ := stq_rgs hn.1 h1
    refine ⟨p, _, _, k1, ⟨f, ⟨k2.1, fun k a b => ?_⟩, rfl, rfl⟩, k3⟩
    have := (show sumZ (mxZ p (nL P.toGeo) + 1) (fun i => bZ (True ∧ f i = k)) ≤ min (P.toRod.rm k) 8 from k2.2 k a b)
    show sumZ (mxZ p (nL P.toGeo) + 1) (fun i => bZ (True ∧ f i = k)) ≤ P.toRod.rm k
    omega
  unfold ctZ cutA
  rcases hb with ⟨h1, h2⟩ | ⟨h1, ⟨p, hp, hw⟩, h3⟩
  · have : ¬ c < 1000000 := by
      intro z
      obtain ⟨p, g, t, k1, k2, _⟩ := conv z
      exact h2 p k1 (hall p k1) g t k2
    rw [if_pos h1, if_pos (by omega)]
  · obtain ⟨f, f1, f2, f3⟩ := hw
    have m1 := mx_nn (p := p) (k := nL P.toGeo) (by omega)
    have has := fsb_as (n := nL P.toGeo) (ln := lnZ P.toGeo) (by omega) hK.1 (fun w w1 w2 => ⟨hp.1 w w1 w2, by have := mx_ge (p := p) (k := nL P.toGeo) ⟨w1, w2⟩; omega⟩) (rgs_used hn.1 hp) f1
    have hle := c3 _ has
    rw [← f3, ← f2] at hle
    obtain ⟨p2, g, t, k1, k2, k3⟩ := conv (by omega)
    have b2 := wy_bd hn hI.rod.rl k1 k2
    have hcmp := h3 p2 k1 (hall p2 k1) g t k2
    have hce : c = 1000 * bg + bt := by omega
    rw [if_neg (show ¬ bg = -1 by omega), if_neg (show ¬ 1000000 ≤ c by omega)]
    by_cases q : x = 0
    · rw [if_pos q, if_pos q]
      omega
    · rw [if_neg q, if_neg q]
      omega
theorem as_nil {rs : List Int} {S : Int → Prop} : asP 0 ln rs S 0 := by
  induction rs with
  | nil => exact ⟨fun w a b => by omega, rfl⟩
  | cons r rs ih => exact Or.inl ih
theorem sp306_34 {x c : Int} (hI : PicOK P) (hn : nL P.toGeo ≤ 8) (hx : x = 0 ∨ x = 1) (hc : optC P c) (hR0 : RefOK P N) : ∃ N'', (RefOK P N'' ∧ sCls N N'') ∧ Ev 2 306 34 [some (.ref 59), some (.int (J x)), some (.int (J 0)), some (.int (J 0)), none, none, none, none] [] (hs E (jm (upZ N 59 (updZ (N 59) 40 0)))) (some (.int (J (cutA P x c))), hs E (jm N'')) := by
  have hG := hI.geo
  have hn0 : 0 ≤ nL P.toGeo := (cnq_bd (q := lqZ P.toGeo) hG.ws.1).1
  have key := loopZ (a := 0) (n := P.toGeo.ws) (Q := fun v => ∀ N', RefOK P N' → sCls N N' → N' 59 40 = cnq (lqZ P.toGeo) v → (∀ k, 0 ≤ k → k < cnq (lqZ P.toGeo) v → N' 86 k = lnZ P.toGeo k) → (∀ k, 0 ≤ k → k < cnq (lqZ P.toGeo) v → N' 87 k = 0) → ∃ N'', (RefOK P N'' ∧ sCls N N'') ∧ Ev 2 306 34 [some (.ref 59), some (.int (J x)), some (.int (J (sumZ (cnq (lqZ P.toGeo) v) (lnZ P.toGeo)))), some (.int (J v)), none, none, none, none] [] (hs E (jm N')) (some (.int (J (cutA P x c))), hs E (jm N''))) hG.ws.1 ?_ ?_
  · refine key _ (by (refine RefOK.mk ?_ ?_ ?_ ?_ ?_ ?_ ?_ ?_ ?_ ?_ ?_ ?_ ?_ ?_ ?_ ?_ ?_ ?_ ?_ ?_ ?_ ?_ ?_ ?_ ?_ ?_ ?_ <;> simp [Pic.setGeo, Pic.setPag, Pic.setPal, Pic.setGla, Pic.setTen, Pic.setRod, Pic.mk, Pic.toGeo, Pic.toPag, Pic.toPal, Pic.toGla, Pic.toTen, Pic.toRod, Geo.mk, Geo.w, Geo.h, Geo.ws, Geo.px, Geo.py, Geo.mv, Geo.laid, Geo.sold, Pag.mk, Pag.pm, Pag.pg, Pal.mk, Pal.wall, Pal.stiff, Pal.bear, Pal.heat, Pal.shr, Pal.pul, Pal.foe, Gla.mk, Gla.fires, Gla.lay, Gla.col, Gla.thk, Gla.sta, Ten.mk, Ten.bc, Ten.bt, Rod.mk, Rod.rods, Rod.rl, Rod.rm, upZ, updZ, (hR0).w, (hR0).h, (hR0).pm, (hR0).ws, (hR0).wall, (hR0).stiff, (hR0).bear, (hR0).fires, (hR0).bc, (hR0).bt, (hR0).rods, (hR0).pg, (hR0).px, (hR0).py, (hR0).mv, (hR0).laid, (hR0).sold, (hR0).heat, (hR0).shr, (hR0).pul, (hR0).foe, (hR0).lay, (hR0).col, (hR0).thk, (hR0).sta, (hR0).rl, (hR0).rm])) (fun a ha => upZ_n (by omega)) ?_ (fun k a b => ?_) (fun k a b => ?_)
    · rw [upZ_s, updZ_s]; rfl
    · rw [cnq_0] at b; omega
    · rw [cnq_0] at b; omega
  · intro N' hR hS h40 h86 h87
    have e4 := hR.ws
    have hws := hG.ws
    by_cases q : nL P.toGeo = 0
    · have hc0 : c = 0 := by
        have := hc.2.2 0 (by rw [q]; exact as_nil)
        have := hc.1
        omega
      refine ⟨N', ⟨hR, hS⟩, v306_34 ?_⟩
      rw [e4, h40, show cnq (lqZ P.toGeo) P.toGeo.ws = 0 from q]
      refine ⟨by omega, by omega, fun _ => ⟨by decide, fun _ => ?_, fun z => absurd rfl z⟩, fun z => absurd (Int.le_refl _) z⟩
      unfold cutA
      rw [hc0, q, if_neg (by decide), sumZ_0]
      split <;> rfl
    · have hp0 : rgs (nL P.toGeo) (fun _ => 0) := ⟨fun _ _ _ => Int.le_refl _, fun _ => rfl, fun k k1 k2 => by have := mx_nn (p := fun _ => 0) (k := k) (by omega); show (0 : Int) ≤ _; omega⟩
      have hz : hvZ (fun _ => 0) (nL P.toGeo) = 0 := indZ (P := fun m => hvZ (fun _ => 0) m = 0) rfl (fun k k1 ih => by rw [hvZ_s k1, ih]; rfl) _ hn0
      have hb0 : bsI (nL P.toGeo) P.toRod.rods (lnZ P.toGeo) P.toRod.rl P.toRod.rm (hvZ (fun _ => 0) (nL P.toGeo)) (-1) 0 := Or.inl ⟨rfl, fun p hp hlt => by
        have := (hv_bd ⟨hn0, hn⟩ (rgs_dig hn hp)).1
        omega⟩
      obtain ⟨N'', bg, bt, ⟨k1, k2, k3⟩, k4⟩ := sp306_118 (E := E) (N := N) (S := sumZ (nL P.toGeo) (lnZ P.toGeo)) hI ⟨by omega, hn⟩ hx 43046721 (fun _ => 0) N' (-1) 0 hp0 (by omega) hb0 h40 h86 h87 hR hS
      rw [ct_cut hI ⟨by omega, hn⟩ hc k1] at k4
      refine ⟨N'', ⟨k2, k3⟩, v306_34 ?_⟩
      rw [e4, h40]
      exact ⟨by omega, by omega, fun _ => ⟨by show R (nL P.toGeo); omega, fun z => absurd z q, fun _ => k4⟩, fun z => absurd (Int.le_refl _) z⟩
  · intro v v1 v2 ih N' hR hS h40 h86 h87
    have e4 := hR.ws
    have hws := hG.ws
    have hcb := cnq_bd (q := lqZ P.toGeo) v1
    have hl := hG.laid v v1 v2
    have hmv := hG.mv v v1 v2
    by_cases q : P.toGeo.laid v = 0
    · have hnl : ¬ lqZ P.toGeo v = v := by
        rw [lq_iff v1]
        omega
      rw [cnq_s v1, bZ_f hnl, Int.add_zero] at ih
      obtain ⟨N'', k1, k2⟩ := ih N' hR hS h40 h86 h87
      refine ⟨N'', k1, v306_34 ?_⟩
      rw [e4, hR.laid]
      exact ⟨by omega, by omega, fun z => by omega, fun _ => ⟨by omega, by omega, fun _ => k2, fun z => absurd q z⟩⟩
    · have hl1 : P.toGeo.laid v = 1 := by omega
      have hll : lqZ P.toGeo v = v := (lq_iff v1).mpr hl1
      have hlt : cnq (lqZ P.toGeo) v < nL P.toGeo := cnq_lt v1 hll v2
      have hat := ln_at (G := P.toGeo) ⟨v1, v2⟩ hl1
      rw [cnq_s v1, bZ_t hll, sumZ_succ hcb.1, hat] at ih
      obtain ⟨N'', k1, k2⟩ := ih (upZ (upZ (upZ N' 86 (updZ (N' 86) (N' 59 40) (N' 63 v))) 87 (updZ (N' 87) (N' 59 40) 0)) 59 (updZ (N' 59) 40 (N' 59 40 + 1))) (by (refine RefOK.mk ?_ ?_ ?_ ?_ ?_ ?_ ?_ ?_ ?_ ?_ ?_ ?_ ?_ ?_ ?_ ?_ ?_ ?_ ?_ ?_ ?_ ?_ ?_ ?_ ?_ ?_ ?_ <;> simp [Pic.setGeo, Pic.setPag, Pic.setPal, Pic.setGla, Pic.setTen, Pic.setRod, Pic.mk, Pic.toGeo, Pic.toPag, Pic.toPal, Pic.toGla, Pic.toTen, Pic.toRod, Geo.mk, Geo.w, Geo.h, Geo.ws, Geo.px, Geo.py, Geo.mv, Geo.laid, Geo.sold, Pag.mk, Pag.pm, Pag.pg, Pal.mk, Pal.wall, Pal.stiff, Pal.bear, Pal.heat, Pal.shr, Pal.pul, Pal.foe, Gla.mk, Gla.fires, Gla.lay, Gla.col, Gla.thk, Gla.sta, Ten.mk, Ten.bc, Ten.bt, Rod.mk, Rod.rods, Rod.rl, Rod.rm, upZ, updZ, (hR).w, (hR).h, (hR).pm, (hR).ws, (hR).wall, (hR).stiff, (hR).bear, (hR).fires, (hR).bc, (hR).bt, (hR).rods, (hR).pg, (hR).px, (hR).py, (hR).mv, (hR).laid, (hR).sold, (hR).heat, (hR).shr, (hR).pul, (hR).foe, (hR).lay, (hR).col, (hR).thk, (hR).sta, (hR).rl, (hR).rm])) (fun a ha => by rw [upZ_n (by omega), upZ_n (by omega), upZ_n (by omega)]; exact hS a ha) (by rw [upZ_s, updZ_s, h40]) (fun k a b => by
        rw [show (upZ (upZ (upZ N' 86 (updZ (N' 86) (N' 59 40) (N' 63 v))) 87 (updZ (N' 87) (N' 59 40) 0)) 59 (updZ (N' 59) 40 (N' 59 40 + 1))) 86 = updZ (N' 86) (N' 59 40) (N' 63 v) from rfl, h40, hR.mv]
        by_cases z : k = cnq (lqZ P.toGeo) v
        · rw [z, updZ_s, hat]
        · rw [updZ_n z]; exact h86 k a (by omega)) (fun k a b => by
        rw [show (upZ (upZ (upZ N' 86 (updZ (N' 86) (N' 59 40) (N' 63 v))) 87 (updZ (N' 87) (N' 59 40) 0)) 59 (updZ (N' 59) 40 (N' 59 40 + 1))) 87 = updZ (N' 87) (N' 59 40) 0 from rfl, h40]
        by_cases z : k = cnq (lqZ P.toGeo) v
        · rw [z, updZ_s]
        · rw [updZ_n z]; exact h87 k a (by omega))
      refine ⟨N'', k1, v306_34 ?_⟩
      rw [e4, hR.laid]
      refine ⟨by omega, by omega, fun z => by omega, fun _ => ⟨by omega, by omega, fun z => absurd z q, fun _ => ⟨by rw [h40]; omega, ?_⟩⟩⟩
      rw [show N' 63 v = P.toGeo.mv v from congrFun hR.mv v] at k2 ⊢
      exact k2
theorem op_cut {x1 : Int} (hI : GInv P N) (h1 : R x1) : Both E N 200 306 [.int (J x1)] := by
  have hG := hI.ok.geo
  have e1 := nL_laid hG
  have hlb := cnq_bd (q := lqZ P.toGeo) hG.ws.1
  have hws := hG.ws
  have hnd : nL P.toGeo = cnq (lqZ P.toGeo) P.toGeo.ws := rfl
  have r155 := sp155 (E := E) (N := N) hG hI.cls.wires
  have r305 := sp305 (E := E) (N := N) hI.ok hI.ref
  by_cases hx : x1 = 0 ∨ x1 = 1
  · have hi : (if 0 ≤ x1 ∧ x1 ≤ 1 then (1 : Int) else 0) = 1 := if_pos (by omega)
    by_cases hn : nL P.toGeo ≤ 8
    · obtain ⟨c, hc, hq⟩ := cls_cut (E := E) hI hx hn
      refine both_q (r := .int (J (cutA P x1 c))) hI hq ?_
      intro N hR
      have r305 := sp305 (E := E) (N := N) hI.ok hR
      obtain ⟨N'', ⟨k1, k2⟩, k3⟩ := sp306_34 (E := E) (N := N) hI.ok hn hx hc hR
      refine ⟨N'', c306 (v306_0 ?_), k1, k2⟩
      rw [hi]
      exact ⟨h1, fun z => absurd z (by decide), fun _ => ⟨_, r305, by omega, fun _ => k3, fun z => absurd (by omega) z⟩⟩
    · refine both_same (r := .int (J (-103))) hI (c200 (v200_0 ?_)) (c306 (v306_0 ?_))
      · rcases hx with q | q
        · exact ⟨h1, fun _ => ⟨_, r155, by omega, fun z => by omega, fun _ => rfl⟩, fun z => absurd q z⟩
        · exact ⟨h1, fun z => by omega, fun _ => ⟨fun _ => ⟨_, r155, by omega, fun z => by omega, fun _ => rfl⟩, fun z => absurd q z⟩⟩
      · rw [hi]
        exact ⟨h1, fun z => absurd z (by decide), fun _ => ⟨_, r305, by omega, fun z => by omega, fun _ => rfl⟩⟩
  · refine both_same (r := .int (J (-102))) hI (c200 (v200_0 ?_)) (c306 (v306_0 ?_))
    · exact ⟨h1, fun z => by omega, fun _ => ⟨fun z => by omega, fun _ => rfl⟩⟩
    · rw [if_neg (by omega)]
      exact ⟨h1, fun _ => rfl, fun z => absurd rfl z⟩
end CUT
