/-! pieces of the reference -/
section PIR
variable {E : gw_N} {N : NM} {P : Pic} {G : Geo}
theorem cov_isE (hG : GeoR G) {x y s : Int} (hx : 0 ≤ x ∧ x ≤ 8) (hy : 0 ≤ y ∧ y ≤ 8) (hs2 : s = 0 ∨ s = 1) (h : 0 < covC G (89 * s + 10 * y + x)) : isE G x y s := by
  have hw := hG.w
  have hh := hG.h
  unfold covC at h
  obtain ⟨v, v1, v2, v3⟩ := sumZ_pos (g := fun v => bZ (G.laid v = 1 ∧ onC G v (89 * s + 10 * y + x))) (n := G.ws) (by omega)
  have h4 : G.laid v = 1 ∧ onC G v (89 * s + 10 * y + x) := by
    apply Classical.byContradiction
    intro z
    exact v3 (bZ_f z)
  obtain ⟨i, i1, i2, i3⟩ := h4.2
  have h1 := hG.px v i v1 v2 i1 (by omega)
  have h2 := hG.py v i v1 v2 i1 (by omega)
  have h3 := hG.px v (i + 1) v1 v2 (by omega) (by omega)
  have h5 := hG.py v (i + 1) v1 v2 (by omega) (by omega)
  have h6 := hG.step v i v1 v2 i1 i2
  rw [← Int.add_assoc] at h3 h5
  unfold eC at i3
  unfold isE
  by_cases c : G.px (25 * v + i) = G.px (25 * v + i + 1)
  · rw [if_pos c] at i3
    omega
  · rw [if_neg c] at i3
    omega
theorem cov_e (hG : GeoR G) {e : Int} (he : 0 ≤ e ∧ e < 162) : 0 < covC G (toC e) ↔ covW G (e % 81 % 9) (e % 81 / 9) (e / 81) := by
  have e1 : toC e = 89 * (e / 81) + 10 * (e % 81 / 9) + e % 81 % 9 := rfl
  have hx : 0 ≤ e % 81 % 9 ∧ e % 81 % 9 ≤ 8 := by omega
  have hy : 0 ≤ e % 81 / 9 ∧ e % 81 / 9 ≤ 8 := by omega
  rw [e1]
  obtain a | a : e / 81 = 0 ∨ e / 81 = 1 := by omega
  · rw [a, covW_0, show 89 * 0 + 10 * (e % 81 / 9) + e % 81 % 9 = 10 * (e % 81 / 9) + e % 81 % 9 by omega]
    refine ⟨fun z => ⟨cov_isE hG hx hy (Or.inl rfl) ?_, z⟩, fun z => z.2⟩
    rw [show 89 * 0 + 10 * (e % 81 / 9) + e % 81 % 9 = 10 * (e % 81 / 9) + e % 81 % 9 by omega]
    exact z
  · rw [a, covW_1, show 89 * 1 + 10 * (e % 81 / 9) + e % 81 % 9 = 89 + 10 * (e % 81 / 9) + e % 81 % 9 by omega]
    refine ⟨fun z => ⟨cov_isE hG hx hy (Or.inr rfl) ?_, z⟩, fun z => z.2⟩
    rw [show 89 * 1 + 10 * (e % 81 / 9) + e % 81 % 9 = 89 + 10 * (e % 81 / 9) + e % 81 % 9 by omega]
    exact z
def bE (e : Int) : Int := e % 81 + (if 81 ≤ e then 9 else 1)
theorem st_e (hG : GeoR G) {e : Int} (he : 0 ≤ e ∧ e < 162) (h : 0 < covC G (toC e)) : ptD (e % 81) ∧ ptD (bE e) ∧ stW G (e % 81) (bE e) := by
  have hD : ptD (e % 81) := ⟨by omega, by omega⟩
  have hst : stW G (e % 81) (bE e) := by
    refine ⟨e / 81, by omega, by omega, (cov_e hG he).mp h, ?_⟩
    unfold bE dw
    split
    · rw [if_neg (by omega), if_pos (by omega)]
    · rw [if_pos (by omega)]
  exact ⟨hD, ((gphP hG).1 _ _ hD hst).1, hst⟩
def pcJ (G : Geo) (f0 c : Int → Int) : Prop := (∀ q, ptD q → ptD (c q) ∧ cn (stW G) q (c q) ∧ c q ≤ q) ∧ ∀ q, ¬ ptD q → c q = f0 q
noncomputable def pzF (G : Geo) (f0 : Int → Int) : Int → Int := fun q => @ite Int (ptD q) (Classical.propDecidable _) (pz G q) (f0 q)
def okE (G : Geo) (c : Int → Int) (e : Int) : Prop := 0 < covC G (toC e) → c (e % 81) = c (bE e)
theorem pc_fix (hG : GeoR G) {f0 c : Int → Int} (h : pcJ G f0 c) (hok : ∀ e, 0 ≤ e → e < 162 → okE G c e) : c = pzF G f0 := by
  have key : ∀ q, ptD q → c q = pz G q := ?_
  · funext q
    unfold pzF
    by_cases hq : ptD q
    · rw [if_pos hq]; exact key q hq
    · rw [if_neg hq]; exact h.2 q hq
  refine lz_char (gphP hG) h.1 ?_
  rintro f g hf ⟨way, w1, w2, w3, w4⟩
  have f1 := hf.1
  have f2 := hf.2
  obtain e | e | e | e : way = 0 ∨ way = 1 ∨ way = 2 ∨ way = 3 := by omega
  · subst e
    have h1 := hok f f1 (by omega) ((cov_e hG ⟨f1, by omega⟩).mpr (by rw [show f % 81 = f by omega, show f / 81 = 0 by omega]; exact w3))
    unfold bE at h1
    rw [if_neg (by omega), show f % 81 = f by omega] at h1
    rw [w4]
    exact h1
  · subst e
    have h1 := hok (81 + f) (by omega) (by omega) ((cov_e hG (by omega)).mpr (by rw [show (81 + f) % 81 = f by omega, show (81 + f) / 81 = 1 by omega]; exact w3))
    unfold bE at h1
    rw [if_pos (by omega), show (81 + f) % 81 = f by omega] at h1
    rw [w4]
    exact h1
  · subst e
    rw [show dw 2 = -1 from rfl] at w4
    have h2 := st_l hG w3
    rw [show f - 1 = g by omega] at h2
    have h1 := hok g (by omega) (by omega) ((cov_e hG (by omega)).mpr (by rw [show g % 81 = g by omega, show g / 81 = 0 by omega]; exact h2.2))
    unfold bE at h1
    rw [if_neg (by omega), show g % 81 = g by omega, show g + 1 = f by omega] at h1
    exact h1.symm
  · subst e
    rw [show dw 3 = -9 from rfl] at w4
    have h2 := st_d hG w3
    rw [show f - 9 = g by omega] at h2
    have h1 := hok (81 + g) (by omega) (by omega) ((cov_e hG (by omega)).mpr (by rw [show (81 + g) % 81 = g by omega, show (81 + g) / 81 = 1 by omega]; exact h2.2))
    unfold bE at h1
    rw [if_pos (by omega), show (81 + g) % 81 = g by omega, show g + 9 = f by omega] at h1
    exact h1.symm
theorem pc_merge (hG : GeoR G) {f0 c : Int → Int} {e : Int} (h : pcJ G f0 c) (he : 0 ≤ e ∧ e < 162) (ho : 0 < covC G (toC e)) (hne : ¬ c (e % 81) = c (bE e)) (l : Int) (hl : l = min (c (e % 81)) (c (bE e))) :
    pcJ G f0 (updZ (updZ c (e % 81) l) (bE e) l) ∧ sumZ 81 (updZ (updZ c (e % 81) l) (bE e) l) < sumZ 81 c := by
  obtain ⟨k1, k2, k3⟩ := st_e hG he ho
  have k4 := ((gphP hG).1 _ _ k1 k3).2
  obtain ⟨a1, a2, a3⟩ := h.1 _ k1
  obtain ⟨b1, b2, b3⟩ := h.1 _ k2
  have hfg : ¬ bE e = e % 81 := by
    intro e
    rw [e] at hne
    exact hne rfl
  have hl' : (l = c (e % 81) ∧ c (e % 81) < c (bE e)) ∨ (l = c (bE e) ∧ c (bE e) < c (e % 81)) := by omega
  have hlF : ptD l ∧ cn (stW G) (e % 81) l ∧ cn (stW G) (bE e) l := by
    rcases hl' with hl' | hl'
    · rw [hl'.1]
      exact ⟨a1, a2, cn_trans (cn_step cn_refl k4) a2⟩
    · rw [hl'.1]
      exact ⟨b1, cn_trans (cn_step cn_refl k3) b2, b2⟩
  refine ⟨⟨?_, ?_⟩, ?_⟩
  · intro x hx
    unfold updZ
    by_cases e1 : x = bE e
    · rw [if_pos e1, e1]
      exact ⟨hlF.1, hlF.2.2, by omega⟩
    · rw [if_neg e1]
      by_cases e2 : x = e % 81
      · rw [if_pos e2, e2]
        exact ⟨hlF.1, hlF.2.1, by omega⟩
      · rw [if_neg e2]
        exact h.1 x hx
  · intro x hx
    rw [updZ_n (fun e => hx (by rw [e]; exact k2)), updZ_n (fun e => hx (by rw [e]; exact k1))]
    exact h.2 x hx
  · rw [sumZ_upd k2, sumZ_upd k1, updZ_n hfg]
    omega
def paP (G : Geo) (f0 c : Int → Int) (e m : Int) (c' : Int → Int) : Prop :=
  pcJ G f0 c' ∧ ((m = 0 ∧ c' = c ∧ (∀ e', 0 ≤ e' → e' < e → okE G c e')) ∨ (m = 1 ∧ sumZ 81 c' < sumZ 81 c))
theorem pass242 {f0 c : Int → Int} {res : Option Value × gw_H} (hI : PicOK P) (hcv : ∀ e, 0 ≤ e → e < 162 → N 67 e = covC P.toGeo (toC e)) (hc : pcJ P.toGeo f0 c)
    (hend : ∀ m c', paP P.toGeo f0 c 162 m c' → Ev 5 242 23 [some (.ref 59), some (.int (J m)), none, none, none, none, none] [] (hs E (jm (upZ N 68 c'))) res) :
    Ev 5 242 31 [some (.ref 59), some (.int (J 0)), some (.int (J 0)), none, none, none, none] [] (hs E (jm (upZ N 68 c))) res := by
  refine loopZ (a := 0) (n := 162) (Q := fun e => ∀ m c', paP P.toGeo f0 c e m c' → Ev 5 242 31 [some (.ref 59), some (.int (J m)), some (.int (J e)), none, none, none, none] [] (hs E (jm (upZ N 68 c'))) res) (by decide) ?_ ?_ 0 c ⟨hc, Or.inl ⟨rfl, rfl, fun e' h1 h2 => absurd h2 (by omega)⟩⟩
  · intro m c' h
    exact v242_31 ⟨by decide, fun _ => hend m c' h, fun z => absurd (Int.le_refl _) z⟩
  · intro e e1 e2 ih m c' h
    have et : Int.tmod e 81 = e % 81 := Int.tmod_eq_emod_of_nonneg e1
    have hcb := cov_bd hI.geo (e := toC e)
    have go : okE P.toGeo c' e → Ev 5 242 31 [some (.ref 59), some (.int (J m)), some (.int (J (e + 1))), none, none, none, none] [] (hs E (jm (upZ N 68 c'))) res := by
      intro hk
      refine ih m c' ⟨h.1, ?_⟩
      rcases h.2 with ⟨a, b, d⟩ | ⟨a, b⟩
      · refine Or.inl ⟨a, b, fun e' k1 k2 => ?_⟩
        by_cases q : e' = e
        · rw [q, ← b]; exact hk
        · exact d e' k1 (by omega)
      · exact Or.inr ⟨a, b⟩
    have mg : ∀ l, l = min (c' (e % 81)) (c' (bE e)) → ¬ c' (e % 81) = c' (bE e) → 0 < covC P.toGeo (toC e) → Ev 5 242 31 [some (.ref 59), some (.int (J 1)), some (.int (J (e + 1))), none, none, none, none] [] (hs E (jm (upZ N 68 (updZ (updZ c' (e % 81) l) (bE e) l)))) res := by
      intro l hl hne ho
      obtain ⟨m1, m2⟩ := pc_merge hI.geo h.1 ⟨e1, e2⟩ ho hne l hl
      refine ih 1 _ ⟨m1, Or.inr ⟨rfl, ?_⟩⟩
      rcases h.2 with ⟨a, b, d⟩ | ⟨a, b⟩
      · rw [b] at m2 ⊢; exact m2
      · omega
    refine v242_31 ?_
    rw [et, upZ_s, upZ_up, upZ_up, upZ_up, upZ_up, show (upZ N 68 c') 67 e = covC P.toGeo (toC e) from hcv e e1 e2]
    refine ⟨by omega, fun z => absurd z (by omega), fun _ => ⟨fun hs1 => ?_, fun hs1 => ?_⟩⟩
    · have eb : bE e = e % 81 + 9 := by unfold bE; rw [if_pos hs1]
      rw [eb] at mg
      refine ⟨⟨e1, e2⟩, by omega, fun z => go (fun y => by omega), fun z => ?_⟩
      have hst := st_e hI.geo ⟨e1, e2⟩ (show 0 < covC P.toGeo (toC e) by omega)
      rw [eb] at hst
      have b1 := (h.1.1 _ hst.1).1
      have b2 := (h.1.1 _ hst.2.1).1
      have b3 := b1.1
      have b4 := b1.2
      have b5 := b2.1
      have b6 := b2.2
      have b7 := hst.2.1.1
      have b8 := hst.2.1.2
      refine ⟨by omega, by omega, by omega, by omega, fun y => go (fun _ => by rw [eb]; exact y), fun y => ⟨fun x => mg _ (by omega) y (by omega), fun x => mg _ (by omega) y (by omega)⟩⟩
    · have eb : bE e = e % 81 + 1 := by unfold bE; rw [if_neg hs1]
      rw [eb] at mg
      refine ⟨⟨e1, e2⟩, by omega, fun z => go (fun y => by omega), fun z => ?_⟩
      have hst := st_e hI.geo ⟨e1, e2⟩ (show 0 < covC P.toGeo (toC e) by omega)
      rw [eb] at hst
      have b1 := (h.1.1 _ hst.1).1
      have b2 := (h.1.1 _ hst.2.1).1
      have b3 := b1.1
      have b4 := b1.2
      have b5 := b2.1
      have b6 := b2.2
      have b7 := hst.2.1.1
      have b8 := hst.2.1.2
      refine ⟨by omega, by omega, by omega, by omega, fun y => go (fun _ => by rw [eb]; exact y), fun y => ⟨fun x => mg _ (by omega) y (by omega), fun x => mg _ (by omega) y (by omega)⟩⟩
theorem cnt242 {c : Int → Int} (hI : PicOK P) (hR : RefOK P N) (hcv : ∀ e, 0 ≤ e → e < 162 → N 67 e = covC P.toGeo (toC e)) (hc : ∀ q, ptD q → c q = pz P.toGeo q) :
    Ev 5 242 152 [some (.ref 59), none, some (.int (J 0)), some (.int (J 0)), none, none, none] [] (hs E (jm (upZ N 68 c))) (some (.int (J (pieZ P.toGeo))), hs E (jm (upZ N 68 c))) := by
  have hR' : RefOK P (upZ N 68 c) := hR
  have hcv' : ∀ e, 0 ≤ e → e < 162 → (upZ N 68 c) 67 e = covC P.toGeo (toC e) := hcv
  have e68 : (upZ N 68 c) 68 = c := upZ_s
  generalize upZ N 68 c = N' at *
  unfold pieZ
  refine loopZ (a := 0) (n := 81) (Q := fun p => Ev 5 242 152 [some (.ref 59), none, some (.int (J (sumZ p (coF P.toGeo)))), some (.int (J p)), none, none, none] [] (hs E (jm N')) (_, _)) (by decide) ?_ ?_
  · exact v242_152 ⟨by decide, fun _ => rfl, fun z => absurd (Int.le_refl _) z⟩
  · intro p p1 p2 ih
    rw [sumZ_succ p1] at ih
    refine v242_152 ⟨by omega, fun z => absurd z (by omega), fun _ => ?_⟩
    refine loopZ (a := 0) (n := 81) (Q := fun q => Ev 5 242 167 [some (.ref 59), none, some (.int (J (sumZ p (coF P.toGeo)))), some (.int (J p)), some (.int (J (odF P.toGeo p q))), some (.int (J (poF P.toGeo p q))), some (.int (J q))] [] (hs E (jm N')) (_, _)) (by decide) ?_ ?_
    · have h1 := odF_bd (G := P.toGeo) (p := p) (k := 81) (by decide)
      have h2 := poF_bd (G := P.toGeo) (p := p) (k := 81) (by decide)
      refine v242_167 ⟨by decide, fun _ => ⟨by omega, fun z => ?_, fun z => ⟨by omega, fun y => ?_, fun y => ?_⟩⟩, fun z => absurd (Int.le_refl _) z⟩
      · unfold coF at ih
        rw [if_pos z] at ih
        exact ih
      · unfold coF at ih
        rw [if_neg z, if_pos y] at ih
        exact ih
      · unfold coF at ih
        rw [if_neg z, if_neg y] at ih
        rw [Int.tdiv_eq_ediv_of_nonneg h1.1]
        exact ih
    · intro q q1 q2 ih2
      have et : Int.tmod q 9 = q % 9 := Int.tmod_eq_emod_of_nonneg q1
      have ed : Int.tdiv q 9 = q / 9 := Int.tdiv_eq_ediv_of_nonneg q1
      have hpb := (lz_ex (gphP hI.geo) (f := q) ⟨q1, q2⟩).1
      have hp1 : 0 ≤ pz P.toGeo q := hpb.1
      have hp2 : pz P.toGeo q < 81 := hpb.2
      have hmb := mee_R (G := P.toGeo) (q := q)
      obtain ⟨b1, b2⟩ := r214 hI hR' (a := q % 9) (b := q / 9) (by omega) (by omega)
      have m1 := bZ_01 (p := isPt P.toGeo (q % 9) (q / 9))
      have eo : odF P.toGeo p (q + 1) = odF P.toGeo p q + bZ (pz P.toGeo q = p) * (mee P.toGeo q % 2) := sumZ_succ q1
      have ep : poF P.toGeo p (q + 1) = poF P.toGeo p q + bZ (pz P.toGeo q = p ∧ 0 < mee P.toGeo q) := sumZ_succ q1
      rw [eo, ep] at ih2
      refine v242_167 ?_
      rw [et, ed, e68, hc q ⟨q1, q2⟩, b1]
      refine ⟨by omega, fun z => absurd z (by omega), fun _ => ⟨⟨q1, q2⟩, by omega, by omega, fun z => ⟨b2, by omega, fun y => ?_, fun y => ?_⟩, fun z => ?_⟩⟩
      · have hn := mee_npt (bZ_0.mp y)
        rw [hn, bZ_f (show ¬ (pz P.toGeo q = p ∧ (0 : Int) < 0) from fun w => absurd w.2 (by decide)), Int.add_zero, show (0 : Int) % 2 = 0 from rfl, Int.mul_zero, Int.add_zero] at ih2
        exact ih2
      · have hp : isPt P.toGeo (q % 9) (q / 9) := bZ_1.mp (by omega)
        obtain ⟨d1, d2⟩ := r239 hI hR' hcv' hp
        rw [d1]
        rw [bZ_t z, Int.one_mul] at ih2
        rw [show meeZ P.toGeo (q % 9) (q / 9) = mee P.toGeo q from rfl, Int.tmod_eq_emod_of_nonneg hmb.1]
        refine ⟨d2, by omega, fun w => ?_, fun w => ?_⟩
        · rw [bZ_f (fun v => by have := v.2; omega)] at ih2
          exact ih2
        · rw [bZ_t ⟨z, by omega⟩] at ih2
          exact ih2
      · rw [bZ_f z, Int.zero_mul, Int.add_zero, bZ_f (fun w => z w.1), Int.add_zero] at ih2
        exact ih2
theorem sp242 (hI : PicOK P) (hR : RefOK P N) (hcv : ∀ e, 0 ≤ e → e < 162 → N 67 e = covC P.toGeo (toC e)) : Rn 242 [.ref 59] (hs E (jm N)) (some (.int (J (pieZ P.toGeo)))) (hs E (jm (upZ N 68 (pzF P.toGeo (N 68))))) := by
  have key : ∀ n : Nat, ∀ c, pcJ P.toGeo (N 68) c → (sumZ 81 c).toNat = n → Ev 5 242 23 [some (.ref 59), some (.int (J 1)), none, none, none, none, none] [] (hs E (jm (upZ N 68 c))) (some (.int (J (pieZ P.toGeo))), hs E (jm (upZ N 68 (pzF P.toGeo (N 68))))) := by
    intro n
    induction n using Nat.strongRecOn with
    | ind n ih =>
      intro c hc hn
      refine v242_23 ⟨by decide, fun z => absurd z (by decide), fun _ => ?_⟩
      refine pass242 hI hcv hc ?_
      intro m c' h
      rcases h.2 with ⟨a, b, d⟩ | ⟨a, b⟩
      · subst a
        subst b
        refine v242_23 ⟨by decide, fun _ => ?_, fun z => absurd rfl z⟩
        rw [pc_fix hI.geo hc d]
        exact cnt242 hI hR hcv (fun q hq => if_pos hq)
      · subst a
        have hnn : 0 ≤ sumZ 81 c' := (sumZ_bd (c := 81) (fun k k1 k2 => by
          have := (h.1.1 k ⟨k1, k2⟩).1
          have t1 := this.1
          have t2 := this.2
          omega) (by decide)).1
        exact ih _ (by omega) c' h.1 rfl
  refine c242 (v242_0 ?_)
  have h0 := loopZ (a := 0) (n := 81) (Q := fun k => Ev 5 242 2 [some (.ref 59), some (.int (J k)), none, none, none, none, none] [] (hs E (jm (upZ N 68 (fun x => if 0 ≤ x ∧ x < k then x else N 68 x)))) (some (.int (J (pieZ P.toGeo))), hs E (jm (upZ N 68 (pzF P.toGeo (N 68)))))) (by decide) ?_ ?_
  · have e : (fun x => if 0 ≤ x ∧ x < 0 then x else N 68 x) = N 68 := by
      funext x
      exact if_neg (by omega)
    rw [e, upZ_id] at h0
    exact h0
  · refine v242_2 ⟨by decide, fun _ => key _ _ ⟨fun q hq => ?_, fun q hq => if_neg hq⟩ rfl, fun z => absurd (Int.le_refl _) z⟩
    have e9 : (fun x => if 0 ≤ x ∧ x < 81 then x else N 68 x) q = q := if_pos ⟨hq.1, hq.2⟩
    rw [e9]
    exact ⟨hq, cn_refl, Int.le_refl _⟩
  · intro k k1 k2 ih
    refine v242_2 ⟨by omega, fun z => absurd z (by omega), fun _ => ⟨⟨k1, k2⟩, ?_⟩⟩
    rw [upZ_s, upZ_up]
    have e : updZ (fun x => if 0 ≤ x ∧ x < k then x else N 68 x) k k = (fun x => if 0 ≤ x ∧ x < k + 1 then x else N 68 x) := by
      funext x
      show (if x = k then k else if 0 ≤ x ∧ x < k then x else N 68 x) = _
      by_cases q : x = k
      · rw [if_pos q, if_pos (by omega), q]
      · rw [if_neg q]
        by_cases q2 : 0 ≤ x ∧ x < k
        · rw [if_pos q2, if_pos (by omega)]
        · rw [if_neg q2, if_neg (by omega)]
    rw [e]
    exact ih
end PIR
