/-! a new wire: its way -/
section WIR
variable {E : gw_N} {N : NM} {P : Pic} {x y : Int}
noncomputable def wx (P : Pic) (x k : Int) : Int := x + sumZ k (fun j => stX (P.toPag.pg j))
noncomputable def wy (P : Pic) (y k : Int) : Int := y + sumZ k (fun j => stY (P.toPag.pg j))
theorem wx_0 : wx P x 0 = x := by unfold wx; rw [sumZ_0, Int.add_zero]
theorem wy_0 : wy P y 0 = y := by unfold wy; rw [sumZ_0, Int.add_zero]
theorem wx_s {k : Int} (h : 0 ≤ k) : wx P x (k + 1) = wx P x k + stX (P.toPag.pg k) := by unfold wx; rw [sumZ_succ h]; omega
theorem wy_s {k : Int} (h : 0 ≤ k) : wy P y (k + 1) = wy P y k + stY (P.toPag.pg k) := by unfold wy; rw [sumZ_succ h]; omega
theorem goo_w : ∀ (n : Nat) (k : Int), 0 ≤ k → k ≤ gooF P n k (wx P x k) (wy P y k) ∧ gooF P n k (wx P x k) (wy P y k) ≤ k + n ∧ (gooF P n k (wx P x k) (wy P y k) ≤ k ∨ gooF P n k (wx P x k) (wy P y k) ≤ P.toPag.pm) ∧ ∀ j, k ≤ j → j < gooF P n k (wx P x k) (wy P y k) → goes P j (wx P x j) (wy P y j) := by
  intro n
  induction n with
  | zero =>
    intro k hk
    have e : gooF P 0 k (wx P x k) (wy P y k) = k := rfl
    rw [e]
    exact ⟨Int.le_refl _, by omega, Or.inl (Int.le_refl _), fun j a b => by omega⟩
  | succ n ih =>
    intro k hk
    by_cases hg : goes P k (wx P x k) (wy P y k)
    · have e : gooF P (n + 1) k (wx P x k) (wy P y k) = gooF P n (k + 1) (wx P x (k + 1)) (wy P y (k + 1)) := by
        rw [wx_s hk, wy_s hk]
        exact if_pos hg
      rw [e]
      obtain ⟨a1, a2, a3, a4⟩ := ih (k + 1) (by omega)
      have hpm := hg.1
      refine ⟨by omega, by omega, by omega, fun j j1 j2 => ?_⟩
      by_cases q : j = k
      · rw [q]; exact hg
      · exact a4 j (by omega) j2
    · have e : gooF P (n + 1) k (wx P x k) (wy P y k) = k := if_neg hg
      rw [e]
      exact ⟨Int.le_refl _, by omega, Or.inl (Int.le_refl _), fun j a b => by omega⟩
theorem goo_bd (hI : PicOK P) : 0 ≤ gooF P 24 0 x y ∧ gooF P 24 0 x y ≤ 24 ∧ gooF P 24 0 x y ≤ P.toPag.pm := by
  have h := goo_w (P := P) (x := x) (y := y) 24 0 (Int.le_refl _)
  rw [wx_0, wy_0] at h
  have hpm := hI.pag.pm
  obtain ⟨h1, h2, h3, _⟩ := h
  exact ⟨h1, by omega, by omega⟩
/-- the page holds good moves from here -/
def gpath (P : Pic) (x y : Int) : Prop := 1 ≤ P.toPag.pm ∧ P.toPag.pm ≤ 24 ∧ isPt P.toGeo x y ∧ ∀ j, 0 ≤ j → j < P.toPag.pm → ¬ (stX (P.toPag.pg j) = 0 ∧ stY (P.toPag.pg j) = 0) ∧ isPt P.toGeo (wx P x (j + 1)) (wy P y (j + 1))
theorem gpath_of (hI : PicOK P) (hp : isPt P.toGeo x y) (h0 : ¬ P.toPag.pm = 0) (hg : gooF P 24 0 x y = P.toPag.pm) : gpath P x y := by
  have hpm := hI.pag.pm
  have h := goo_w (P := P) (x := x) (y := y) 24 0 (Int.le_refl _)
  rw [wx_0, wy_0, hg] at h
  obtain ⟨h1, h2, h3, h4⟩ := h
  refine ⟨by omega, by omega, hp, fun j j1 j2 => ?_⟩
  have hj := h4 j j1 j2
  rw [wx_s j1, wy_s j1]
  exact hj.2
theorem gp_pt (h : gpath P x y) {i : Int} (h0 : 0 ≤ i) (hi : i ≤ P.toPag.pm) : isPt P.toGeo (wx P x i) (wy P y i) := by
  by_cases e : i = 0
  · rw [e, wx_0, wy_0]; exact h.2.2.1
  · have := (h.2.2.2 (i - 1) (by omega) (by omega)).2
    rwa [show i - 1 + 1 = i by omega] at this
theorem st_cs {c : Int} (h : ¬ (stX c = 0 ∧ stY c = 0)) : (stX c = 1 ∧ stY c = 0) ∨ (stX c = -1 ∧ stY c = 0) ∨ (stX c = 0 ∧ stY c = 1) ∨ (stX c = 0 ∧ stY c = -1) := by
  unfold stX stY at h ⊢
  by_cases a : c = 114
  · subst a; exact Or.inl ⟨rfl, rfl⟩
  · by_cases b : c = 108
    · subst b; exact Or.inr (Or.inl ⟨rfl, rfl⟩)
    · by_cases d : c = 117
      · subst d; exact Or.inr (Or.inr (Or.inl ⟨rfl, rfl⟩))
      · by_cases e : c = 100
        · subst e; exact Or.inr (Or.inr (Or.inr ⟨rfl, rfl⟩))
        · rw [if_neg a, if_neg b, if_neg d, if_neg e] at h
          exact absurd ⟨rfl, rfl⟩ h
noncomputable def pxF (P : Pic) (x k : Int) : Int → Int := fun q => if 25 * P.toGeo.ws ≤ q ∧ q ≤ 25 * P.toGeo.ws + k then wx P x (q - 25 * P.toGeo.ws) else P.toGeo.px q
noncomputable def pyF (P : Pic) (y k : Int) : Int → Int := fun q => if 25 * P.toGeo.ws ≤ q ∧ q ≤ 25 * P.toGeo.ws + k then wy P y (q - 25 * P.toGeo.ws) else P.toGeo.py q
theorem pxF_new {k i : Int} (h : 0 ≤ i ∧ i ≤ k) : pxF P x k (25 * P.toGeo.ws + i) = wx P x i := by
  unfold pxF
  rw [if_pos (by omega), show 25 * P.toGeo.ws + i - 25 * P.toGeo.ws = i by omega]
theorem pyF_new {k i : Int} (h : 0 ≤ i ∧ i ≤ k) : pyF P y k (25 * P.toGeo.ws + i) = wy P y i := by
  unfold pyF
  rw [if_pos (by omega), show 25 * P.toGeo.ws + i - 25 * P.toGeo.ws = i by omega]
theorem pxF_old {k q : Int} (h : q < 25 * P.toGeo.ws) : pxF P x k q = P.toGeo.px q := if_neg (by omega)
theorem pyF_old {k q : Int} (h : q < 25 * P.toGeo.ws) : pyF P y k q = P.toGeo.py q := if_neg (by omega)
noncomputable def wG (P : Pic) (x y : Int) : Geo := Geo.mk P.toGeo.w P.toGeo.h (P.toGeo.ws + 1) (pxF P x P.toPag.pm) (pyF P y P.toPag.pm) (updZ P.toGeo.mv P.toGeo.ws P.toPag.pm) (updZ P.toGeo.laid P.toGeo.ws 1) (updZ P.toGeo.sold P.toGeo.ws 0)
theorem wG_px {i : Int} (h : 0 ≤ i ∧ i ≤ P.toPag.pm) : (wG P x y).px (25 * P.toGeo.ws + i) = wx P x i := pxF_new h
theorem wG_py {i : Int} (h : 0 ≤ i ∧ i ≤ P.toPag.pm) : (wG P x y).py (25 * P.toGeo.ws + i) = wy P y i := pyF_new h
theorem wG_pxo {q : Int} (h : q < 25 * P.toGeo.ws) : (wG P x y).px q = P.toGeo.px q := pxF_old h
theorem wG_pyo {q : Int} (h : q < 25 * P.toGeo.ws) : (wG P x y).py q = P.toGeo.py q := pyF_old h
theorem wG_mv : (wG P x y).mv P.toGeo.ws = P.toPag.pm := updZ_s
theorem wG_mvo {v : Int} (h : v < P.toGeo.ws) : (wG P x y).mv v = P.toGeo.mv v := updZ_n (by omega)
theorem wG_R (hI : PicOK P) (hg : gpath P x y) (hws : P.toGeo.ws < 30) : GeoR (wG P x y) := by
  have hG := hI.geo
  have h0 := hG.ws
  refine GeoR.mk hG.w hG.h ?_ ?_ ?_ ?_ ?_ ?_ ?_
  · show 0 ≤ P.toGeo.ws + 1 ∧ P.toGeo.ws + 1 ≤ 30
    omega
  · intro v v1 v2
    replace v2 : v < P.toGeo.ws + 1 := v2
    by_cases e : v = P.toGeo.ws
    · rw [e, wG_mv]
      exact ⟨hg.1, hg.2.1⟩
    · rw [wG_mvo (by omega)]
      exact hG.mv v v1 (by omega)
  · intro v v1 v2
    replace v2 : v < P.toGeo.ws + 1 := v2
    show updZ P.toGeo.laid P.toGeo.ws 1 v = 0 ∨ updZ P.toGeo.laid P.toGeo.ws 1 v = 1
    by_cases e : v = P.toGeo.ws
    · rw [e, updZ_s]; exact Or.inr rfl
    · rw [updZ_n e]; exact hG.laid v v1 (by omega)
  · intro v v1 v2
    replace v2 : v < P.toGeo.ws + 1 := v2
    show updZ P.toGeo.sold P.toGeo.ws 0 v = 0 ∨ updZ P.toGeo.sold P.toGeo.ws 0 v = 1
    by_cases e : v = P.toGeo.ws
    · rw [e, updZ_s]; exact Or.inl rfl
    · rw [updZ_n e]; exact hG.sold v v1 (by omega)
  · intro v i v1 v2 i1 i2
    replace v2 : v < P.toGeo.ws + 1 := v2
    by_cases e : v = P.toGeo.ws
    · rw [e, wG_mv] at i2
      rw [e, wG_px ⟨i1, i2⟩]
      have := gp_pt hg i1 i2
      exact ⟨this.1, this.2.1⟩
    · rw [wG_mvo (by omega)] at i2
      have hm := hG.mv v v1 (by omega)
      rw [wG_pxo (by omega)]
      exact hG.px v i v1 (by omega) i1 i2
  · intro v i v1 v2 i1 i2
    replace v2 : v < P.toGeo.ws + 1 := v2
    by_cases e : v = P.toGeo.ws
    · rw [e, wG_mv] at i2
      rw [e, wG_py ⟨i1, i2⟩]
      have := gp_pt hg i1 i2
      exact ⟨this.2.2.1, this.2.2.2⟩
    · rw [wG_mvo (by omega)] at i2
      have hm := hG.mv v v1 (by omega)
      rw [wG_pyo (by omega)]
      exact hG.py v i v1 (by omega) i1 i2
  · intro v i v1 v2 i1 i2
    replace v2 : v < P.toGeo.ws + 1 := v2
    by_cases e : v = P.toGeo.ws
    · rw [e, wG_mv] at i2
      rw [e, Int.add_assoc, wG_px ⟨i1, by omega⟩, wG_py ⟨i1, by omega⟩, wG_px ⟨by omega, by omega⟩, wG_py ⟨by omega, by omega⟩, wx_s i1, wy_s i1]
      have h1 := st_cs (hg.2.2.2 i i1 i2).1
      omega
    · rw [wG_mvo (by omega)] at i2
      have hm := hG.mv v v1 (by omega)
      rw [wG_pxo (by omega), wG_pyo (by omega), wG_pxo (by omega), wG_pyo (by omega)]
      exact hG.step v i v1 (by omega) i1 i2
-- old wires are as they were
theorem wG_pt {v i : Int} (hv : v < P.toGeo.ws) (hi : i ≤ 24) : ptC (wG P x y) v i = ptC P.toGeo v i := by
  unfold ptC
  rw [wG_pxo (by omega), wG_pyo (by omega)]
theorem wG_ec {v i : Int} (hv : v < P.toGeo.ws) (hi : i < 24) : eC (wG P x y) v i = eC P.toGeo v i := by
  unfold eC
  rw [wG_pxo (by omega), wG_pyo (by omega), wG_pxo (by omega), wG_pyo (by omega)]
theorem wG_ben (hI : PicOK P) {v : Int} (h0 : 0 ≤ v) (hv : v < P.toGeo.ws) : benZ (wG P x y) v = benZ P.toGeo v := by
  have hm := hI.geo.mv v h0 hv
  unfold benZ
  rw [wG_mvo hv]
  refine sumZ_congr fun k k1 k2 => bZ_congr ⟨fun z => ⟨z.1, ?_⟩, fun z => ⟨z.1, ?_⟩⟩
  · have h1 := z.2
    unfold bendAt at h1 ⊢
    rw [wG_pxo (by omega), wG_pyo (by omega), wG_pxo (by omega), wG_pyo (by omega), wG_pxo (by omega), wG_pyo (by omega)] at h1
    exact h1
  · have h1 := z.2
    unfold bendAt at h1 ⊢
    rw [wG_pxo (by omega), wG_pyo (by omega), wG_pxo (by omega), wG_pyo (by omega), wG_pxo (by omega), wG_pyo (by omega)]
    exact h1
theorem wG_edg (hI : PicOK P) {v : Int} (h0 : 0 ≤ v) (hv : v < P.toGeo.ws) : edgZ (wG P x y) v = edgZ P.toGeo v := by
  have hm := hI.geo.mv v h0 hv
  unfold edgZ
  rw [wG_mvo hv]
  refine sumZ_congr fun k k1 k2 => bZ_congr ⟨fun z j j1 j2 => ?_, fun z j j1 j2 => ?_⟩
  · have h1 := z j j1 j2
    rw [wG_ec hv (by omega), wG_ec hv (by omega)] at h1
    exact h1
  · rw [wG_ec hv (by omega), wG_ec hv (by omega)]
    exact z j j1 j2
-- the new one
theorem wG_ptn {i : Int} (h : 0 ≤ i ∧ i ≤ P.toPag.pm) : ptC (wG P x y) P.toGeo.ws i = 10 * wy P y i + wx P x i := by
  unfold ptC
  rw [wG_px h, wG_py h]
/-- the way of a move, and its edge -/
theorem way_n (hI : PicOK P) (hC : PageOK P.toPag N) (hg : gpath P x y) {i : Int} (h : 0 ≤ i ∧ i < P.toPag.pm) : Q83 N i ∧ (0 ≤ G83 N i ∧ G83 N i ≤ 3) ∧ G53 N (G83 N i) = stX (P.toPag.pg i) ∧ G54 N (G83 N i) = stY (P.toPag.pg i) := by
  have h24 := hg.2.1
  obtain ⟨a1, a2, a3, a4, a5⟩ := wayS hI hC (k := i) (by omega)
  have h1 := (hg.2.2.2 i h.1 h.2).1
  have hn : ¬ G83 N i = -1 := fun z => a4.mp z ⟨h.2, h1⟩
  exact ⟨a1, by omega, a5 h.2⟩
theorem ec_n (hI : PicOK P) (hC : PageOK P.toPag N) (hg : gpath P x y) {i : Int} (h : 0 ≤ i ∧ i < P.toPag.pm) : G52 N (wx P x i) (wy P y i) (G83 N i) = eC (wG P x y) P.toGeo.ws i := by
  obtain ⟨a1, a2, a3, a4⟩ := way_n hI hC hg h
  unfold eC
  rw [Int.add_assoc, wG_px (by omega), wG_py (by omega), wG_px (by omega), wG_py (by omega), wx_s h.1, wy_s h.1, ← a3, ← a4]
  unfold G52 G51 G48
  obtain e | e | e | e : G83 N i = 0 ∨ G83 N i = 1 ∨ G83 N i = 2 ∨ G83 N i = 3 := by omega
  · rw [e, show G53 N 0 = 1 from rfl, show G54 N 0 = 0 from rfl, if_neg (by decide), if_neg (by decide), if_neg (by omega)]; omega
  · rw [e, show G53 N 1 = 0 from rfl, show G54 N 1 = 1 from rfl, if_neg (by decide), if_neg (by decide), if_pos (by omega)]; omega
  · rw [e, show G53 N 2 = -1 from rfl, show G54 N 2 = 0 from rfl, if_pos rfl, if_neg (by omega)]; omega
  · rw [e, show G53 N 3 = 0 from rfl, show G54 N 3 = -1 from rfl, if_neg (by decide), if_pos rfl, if_pos (by omega)]; omega
theorem bend_n (hI : PicOK P) (hC : PageOK P.toPag N) (hg : gpath P x y) {i : Int} (h : 0 < i ∧ i < P.toPag.pm) : bendAt (wG P x y) P.toGeo.ws i ↔ ¬ G83 N i = G83 N (i - 1) := by
  obtain ⟨a1, a2, a3, a4⟩ := way_n hI hC hg (i := i) (by omega)
  obtain ⟨b1, b2, b3, b4⟩ := way_n hI hC hg (i := i - 1) (by omega)
  have e1 : wx P x i = wx P x (i - 1) + stX (P.toPag.pg (i - 1)) := by
    have := wx_s (P := P) (x := x) (k := i - 1) (by omega)
    rwa [show i - 1 + 1 = i by omega] at this
  have e2 : wy P y i = wy P y (i - 1) + stY (P.toPag.pg (i - 1)) := by
    have := wy_s (P := P) (y := y) (k := i - 1) (by omega)
    rwa [show i - 1 + 1 = i by omega] at this
  unfold bendAt
  rw [show 25 * P.toGeo.ws + i - 1 = 25 * P.toGeo.ws + (i - 1) by omega, Int.add_assoc, wG_px (by omega), wG_py (by omega), wG_px (by omega), wG_py (by omega), wG_px (by omega), wG_py (by omega), wx_s (by omega), wy_s (by omega), ← a3, ← a4, e1, e2, ← b3, ← b4]
  have inj : ∀ p q : Int, 0 ≤ p ∧ p ≤ 3 → 0 ≤ q ∧ q ≤ 3 → G53 N p = G53 N q → G54 N p = G54 N q → p = q := by
    intro p q hp hq
    unfold G53 G54
    (repeat' split) <;> omega
  constructor
  · intro z w
    refine z ?_
    rw [w]
    omega
  · intro z w
    exact z (inj _ _ a2 b2 (by omega) (by omega))
end WIR
