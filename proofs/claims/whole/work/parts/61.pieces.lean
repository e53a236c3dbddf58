/-! pieces of wire: the mathematics; the reference -/
section PIE
variable {E : gw_N} {N : NM} {P : Pic} {G : Geo}
def ptD (q : Int) : Prop := 0 ≤ q ∧ q < 81
def dw (way : Int) : Int := if way = 0 then 1 else if way = 1 then 9 else if way = 2 then -1 else -9
def stW (G : Geo) (a b : Int) : Prop := ∃ way, 0 ≤ way ∧ way < 4 ∧ covW G (a % 9) (a / 9) way ∧ b = a + dw way
theorem covW_0 {x y : Int} : covW G x y 0 ↔ isE G x y 0 ∧ 0 < covC G (10 * y + x) := by simp [covW]
theorem covW_1 {x y : Int} : covW G x y 1 ↔ isE G x y 1 ∧ 0 < covC G (89 + 10 * y + x) := by simp [covW]
theorem covW_2 {x y : Int} : covW G x y 2 ↔ isE G (x - 1) y 0 ∧ 0 < covC G (10 * y + (x - 1)) := by simp [covW]
theorem covW_3 {x y : Int} : covW G x y 3 ↔ isE G x (y - 1) 1 ∧ 0 < covC G (89 + 10 * (y - 1) + x) := by simp [covW]
theorem isE_0 {x y : Int} : isE G x y 0 ↔ 0 ≤ x ∧ x < G.w ∧ 0 ≤ y ∧ y ≤ G.h := by simp [isE]
theorem isE_1 {x y : Int} : isE G x y 1 ↔ 0 ≤ x ∧ x ≤ G.w ∧ 0 ≤ y ∧ y < G.h := by simp [isE]
theorem covW_pt {x y way : Int} (h : covW G x y way) : isPt G x y := by
  unfold covW isE at h
  unfold isPt
  omega
/-- a step to the right or up, from its lower end -/
theorem st_r (hG : GeoR G) {a : Int} (h : covW G (a % 9) (a / 9) 0) : a % 9 < G.w ∧ covW G ((a + 1) % 9) ((a + 1) / 9) 2 := by
  have hw := hG.w
  have h0 := covW_0.mp h
  have h1 := isE_0.mp h0.1
  rw [show (a + 1) % 9 = a % 9 + 1 by omega, show (a + 1) / 9 = a / 9 by omega, covW_2, show a % 9 + 1 - 1 = a % 9 by omega]
  exact ⟨by omega, h0⟩
theorem st_l (hG : GeoR G) {a : Int} (h : covW G (a % 9) (a / 9) 2) : 1 ≤ a % 9 ∧ covW G ((a - 1) % 9) ((a - 1) / 9) 0 := by
  have hw := hG.w
  have h0 := covW_2.mp h
  have h1 := isE_0.mp h0.1
  rw [show (a - 1) % 9 = a % 9 - 1 by omega, show (a - 1) / 9 = a / 9 by omega, covW_0]
  exact ⟨by omega, h0⟩
theorem st_u (hG : GeoR G) {a : Int} (h : covW G (a % 9) (a / 9) 1) : a / 9 < G.h ∧ 0 ≤ a / 9 ∧ covW G ((a + 9) % 9) ((a + 9) / 9) 3 := by
  have h0 := covW_1.mp h
  have h1 := isE_1.mp h0.1
  rw [show (a + 9) % 9 = a % 9 by omega, show (a + 9) / 9 = a / 9 + 1 by omega, covW_3, show a / 9 + 1 - 1 = a / 9 by omega]
  exact ⟨by omega, by omega, h0⟩
theorem st_d (hG : GeoR G) {a : Int} (h : covW G (a % 9) (a / 9) 3) : 1 ≤ a / 9 ∧ covW G ((a - 9) % 9) ((a - 9) / 9) 1 := by
  have h0 := covW_3.mp h
  have h1 := isE_1.mp h0.1
  rw [show (a - 9) % 9 = a % 9 by omega, show (a - 9) / 9 = a / 9 - 1 by omega, covW_1]
  exact ⟨by omega, h0⟩
theorem gphP (hG : GeoR G) : gph ptD (stW G) 81 := by
  have hw := hG.w
  have hh := hG.h
  refine ⟨?_, fun a h => h⟩
  rintro a b ha ⟨way, w1, w2, w3, w4⟩
  have ha1 := ha.1
  have ha2 := ha.2
  unfold ptD
  obtain e | e | e | e : way = 0 ∨ way = 1 ∨ way = 2 ∨ way = 3 := by omega
  · subst e
    rw [show dw 0 = 1 from rfl] at w4
    have h1 := st_r hG w3
    exact ⟨by omega, 2, by decide, by decide, by rw [w4]; exact h1.2, by rw [w4, show dw 2 = -1 from rfl]; omega⟩
  · subst e
    rw [show dw 1 = 9 from rfl] at w4
    have h1 := st_u hG w3
    exact ⟨by omega, 3, by decide, by decide, by rw [w4]; exact h1.2.2, by rw [w4, show dw 3 = -9 from rfl]; omega⟩
  · subst e
    rw [show dw 2 = -1 from rfl] at w4
    have h1 := st_l hG w3
    exact ⟨by omega, 0, by decide, by decide, by rw [w4]; exact h1.2, by rw [w4, show dw 0 = 1 from rfl]; omega⟩
  · subst e
    rw [show dw 3 = -9 from rfl] at w4
    have h1 := st_d hG w3
    exact ⟨by omega, 1, by decide, by decide, by rw [w4]; exact h1.2, by rw [w4, show dw 1 = 9 from rfl]; omega⟩
noncomputable def mee (G : Geo) (q : Int) : Int := meeZ G (q % 9) (q / 9)
theorem mee_pos {q way : Int} (hw : 0 ≤ way ∧ way < 4) (h : covW G (q % 9) (q / 9) way) : 0 < mee G q := by
  unfold mee
  rw [mee_4]
  have h0 := bZ_bd (p := covW G (q % 9) (q / 9) 0)
  have h1 := bZ_bd (p := covW G (q % 9) (q / 9) 1)
  have h2 := bZ_bd (p := covW G (q % 9) (q / 9) 2)
  have h3 := bZ_bd (p := covW G (q % 9) (q / 9) 3)
  obtain e | e | e | e : way = 0 ∨ way = 1 ∨ way = 2 ∨ way = 3 := by omega
  all_goals subst e; have := bZ_t h; omega
theorem mee_st {a b : Int} (h : stW G a b) : 0 < mee G a := by
  obtain ⟨way, w1, w2, w3, w4⟩ := h
  exact mee_pos ⟨w1, w2⟩ w3
theorem mee_npt {q : Int} (h : ¬ isPt G (q % 9) (q / 9)) : mee G q = 0 := by
  unfold mee
  rw [mee_4, bZ_f (fun z => h (covW_pt z)), bZ_f (fun z => h (covW_pt z)), bZ_f (fun z => h (covW_pt z)), bZ_f (fun z => h (covW_pt z))]
  rfl
theorem mee_R {q : Int} : 0 ≤ mee G q ∧ mee G q ≤ 4 := mee_bd
noncomputable def pz (G : Geo) (q : Int) : Int := lz ptD (stW G) q
/-- one of its own, first of what hangs together, with wire -/
def rep (G : Geo) (q : Int) : Prop := pz G q = q ∧ 0 < mee G q
theorem rep_of (hG : GeoR G) {g : Int} (hD : ptD g) (hm : 0 < mee G g) : rep G (pz G g) := by
  have h1 := lz_ex (gphP hG) hD
  refine ⟨lz_self (gphP hG) hD, ?_⟩
  rcases cn_first (cn_symm (gphP hG) hD h1.2.1) with e | ⟨b, hb⟩
  · rw [show pz G g = g from e]
    exact hm
  · exact mee_st hb
noncomputable def odF (G : Geo) (p k : Int) : Int := sumZ k (fun q => bZ (pz G q = p) * (mee G q % 2))
noncomputable def poF (G : Geo) (p k : Int) : Int := sumZ k (fun q => bZ (pz G q = p ∧ 0 < mee G q))
noncomputable def coF (G : Geo) (p : Int) : Int := if poF G p 81 = 0 then 0 else if odF G p 81 = 0 then 1 else odF G p 81 / 2
noncomputable def pieZ (G : Geo) : Int := sumZ 81 (coF G)
theorem odF_bd {p k : Int} (hk : 0 ≤ k ∧ k ≤ 81) : 0 ≤ odF G p k ∧ odF G p k ≤ 81 := by
  have := sumZ_bd' (g := fun q => bZ (pz G q = p) * (mee G q % 2)) (n := k) (B := 81) (c := 1) (fun q _ _ => by
    rcases bZ_01 (p := pz G q = p) with h | h <;> rw [h] <;> omega) hk.1 hk.2 (by decide)
  unfold odF
  omega
theorem poF_bd {p k : Int} (hk : 0 ≤ k ∧ k ≤ 81) : 0 ≤ poF G p k ∧ poF G p k ≤ 81 := by
  have := sumZ_bd' (g := fun q => bZ (pz G q = p ∧ 0 < mee G q)) (n := k) (B := 81) (c := 1) (fun _ _ _ => bZ_bd) hk.1 hk.2 (by decide)
  unfold poF
  omega
theorem coF_bd {p : Int} : 0 ≤ coF G p ∧ coF G p ≤ 81 := by
  have := odF_bd (G := G) (p := p) (k := 81) (by decide)
  unfold coF
  split
  · omega
  · split <;> omega
theorem sumZ_pos {g : Int → Int} {n : Int} (h : ¬ sumZ n g = 0) : ∃ k, 0 ≤ k ∧ k < n ∧ ¬ g k = 0 := by
  apply Classical.byContradiction
  intro q
  refine h (sumZ_zero fun k k1 k2 => ?_)
  apply Classical.byContradiction
  intro z
  exact q ⟨k, k1, k2, z⟩
theorem sumZ_ge {g : Int → Int} {n k : Int} (h0 : ∀ k, 0 ≤ k → k < n → 0 ≤ g k) (hk : 0 ≤ k ∧ k < n) : g k ≤ sumZ n g := by
  have e : g = updZ (updZ g k 0) k (g k) := by
    funext x
    unfold updZ
    by_cases q : x = k
    · rw [if_pos q, q]
    · rw [if_neg q, if_neg q]
  have h1 : sumZ n g = sumZ n (updZ g k 0) + (g k - updZ g k 0 k) := by
    conv => lhs; rw [e]
    rw [sumZ_upd hk]
  rw [updZ_s] at h1
  have h2 : 0 ≤ sumZ n (updZ g k 0) := by
    by_cases hn : 0 ≤ n
    · refine indZ (P := fun m => m ≤ n → 0 ≤ sumZ m (updZ g k 0)) (fun _ => by rw [sumZ_0]; omega) ?_ n hn (Int.le_refl _)
      intro j j1 ih hle
      rw [sumZ_succ j1]
      have h3 := ih (by omega)
      have h4 : 0 ≤ updZ g k 0 j := by
        unfold updZ
        split
        · omega
        · exact h0 j j1 (by omega)
      omega
    · rw [sumZ_neg (by omega)]
      omega
  omega
theorem po_pos (hG : GeoR G) {p : Int} (hp : ptD p) : ¬ poF G p 81 = 0 ↔ rep G p := by
  constructor
  · intro h
    obtain ⟨q, q1, q2, q3⟩ := sumZ_pos h
    have h4 : pz G q = p ∧ 0 < mee G q := by
      apply Classical.byContradiction
      intro z
      exact q3 (bZ_f z)
    rw [← h4.1]
    exact rep_of hG ⟨q1, q2⟩ h4.2
  · intro h z
    have h1 := sumZ_ge (g := fun q => bZ (pz G q = p ∧ 0 < mee G q)) (n := 81) (k := p) (fun _ _ _ => bZ_bd.1) hp
    have h2 : bZ (pz G p = p ∧ 0 < mee G p) = 1 := bZ_t h
    unfold poF at z
    have h3 : bZ (pz G p = p ∧ 0 < mee G p) ≤ sumZ 81 (fun q => bZ (pz G q = p ∧ 0 < mee G q)) := h1
    omega
theorem coF_0 (hG : GeoR G) {p : Int} (hp : ptD p) (h : ¬ rep G p) : coF G p = 0 := by
  unfold coF
  rw [if_pos]
  apply Classical.byContradiction
  intro z
  exact h ((po_pos hG hp).mp z)
-- each wire's edge has two ends: an even number of odd points
theorem sumZ_shift {f g : Int → Int} {n d : Int} (hd : 0 ≤ d ∧ d ≤ n) (hf : ∀ q, 0 ≤ q → q < n - d → f q = g (q + d)) (hf0 : ∀ q, n - d ≤ q → q < n → f q = 0) (hg0 : ∀ q, 0 ≤ q → q < d → g q = 0) : sumZ n f = sumZ n g := by
  have e1 : sumZ n f = sumZ (n - d) f := by
    rw [show n = (n - d) + d by omega, sumZ_split (by omega) hd.1, sumZ_zero (n := d) (fun k k1 k2 => hf0 _ (by omega) (by omega)), Int.add_zero]
    congr 1
    omega
  have e2 : sumZ n g = sumZ (n - d) (fun k => g (d + k)) := by
    conv => lhs; rw [show n = d + (n - d) by omega]
    rw [sumZ_split hd.1 (by omega), sumZ_zero (n := d) (fun k k1 k2 => hg0 _ k1 k2), Int.zero_add]
  rw [e1, e2]
  exact sumZ_congr fun k k1 k2 => by rw [hf k k1 k2, Int.add_comm]
theorem sumZ_mul {f : Int → Int} {n c : Int} : sumZ n (fun k => c * f k) = c * sumZ n f := by
  by_cases hn : 0 ≤ n
  · refine indZ (P := fun m => sumZ m (fun k => c * f k) = c * sumZ m f) (by rw [sumZ_0, sumZ_0, Int.mul_zero]) ?_ n hn
    intro k hk ih
    rw [sumZ_succ hk, sumZ_succ hk, ih, Int.mul_add]
  · rw [sumZ_neg (by omega), sumZ_neg (by omega), Int.mul_zero]
theorem sumZ_mod2 {f : Int → Int} {n : Int} : sumZ n (fun k => f k % 2) % 2 = sumZ n f % 2 := by
  by_cases hn : 0 ≤ n
  · refine indZ (P := fun m => sumZ m (fun k => f k % 2) % 2 = sumZ m f % 2) rfl ?_ n hn
    intro k hk ih
    rw [sumZ_succ hk, sumZ_succ hk]
    omega
  · rw [sumZ_neg (by omega), sumZ_neg (by omega)]
theorem pz_st (hG : GeoR G) {a b : Int} (ha : ptD a) (h : stW G a b) : pz G a = pz G b := lz_cn (gphP hG) ha (cn_step cn_refl h)
theorem od_even (hG : GeoR G) {p : Int} : odF G p 81 % 2 = 0 := by
  have hw := hG.w
  have hh := hG.h
  have e0 : odF G p 81 = sumZ 81 (fun q => (bZ (pz G q = p) * mee G q) % 2) := by
    unfold odF
    refine sumZ_congr fun q _ _ => ?_
    rcases bZ_01 (p := pz G q = p) with h | h <;> rw [h]
    · rw [Int.zero_mul, Int.zero_mul]; rfl
    · rw [Int.one_mul, Int.one_mul]
  have hx : ∀ way q, bZ (pz G q = p) * bZ (covW G (q % 9) (q / 9) way) = bZ (pz G q = p ∧ covW G (q % 9) (q / 9) way) := by
    intro way q
    by_cases a : pz G q = p
    · rw [bZ_t a, Int.one_mul]
      exact bZ_congr ⟨fun z => ⟨a, z⟩, fun z => z.2⟩
    · rw [bZ_f a, Int.zero_mul, bZ_f (fun z => a z.1)]
  have e1 : sumZ 81 (fun q => bZ (pz G q = p) * mee G q) = 2 * (sumZ 81 (fun q => bZ (pz G q = p ∧ covW G (q % 9) (q / 9) 0)) + sumZ 81 (fun q => bZ (pz G q = p ∧ covW G (q % 9) (q / 9) 1))) := by
    have s1 : sumZ 81 (fun q => bZ (pz G q = p ∧ covW G (q % 9) (q / 9) 0)) = sumZ 81 (fun q => bZ (pz G q = p ∧ covW G (q % 9) (q / 9) 2)) := by
      refine sumZ_shift (d := 1) (by decide) ?_ ?_ ?_
      · intro q q1 q2
        refine bZ_congr ⟨fun z => ?_, fun z => ?_⟩
        · have h1 := st_r hG z.2
          exact ⟨by rw [← pz_st hG (b := q + 1) ⟨q1, by omega⟩ ⟨0, by decide, by decide, z.2, rfl⟩]; exact z.1, h1.2⟩
        · have h1 := st_l hG z.2
          rw [show q + 1 - 1 = q by omega] at h1
          exact ⟨by rw [pz_st hG (b := q + 1) ⟨q1, by omega⟩ ⟨0, by decide, by decide, h1.2, rfl⟩]; exact z.1, h1.2⟩
      · intro q q1 q2
        refine bZ_f (fun z => ?_)
        have h1 := st_r hG z.2
        omega
      · intro q q1 q2
        refine bZ_f (fun z => ?_)
        have h1 := st_l hG z.2
        omega
    have s2 : sumZ 81 (fun q => bZ (pz G q = p ∧ covW G (q % 9) (q / 9) 1)) = sumZ 81 (fun q => bZ (pz G q = p ∧ covW G (q % 9) (q / 9) 3)) := by
      refine sumZ_shift (d := 9) (by decide) ?_ ?_ ?_
      · intro q q1 q2
        refine bZ_congr ⟨fun z => ?_, fun z => ?_⟩
        · have h1 := st_u hG z.2
          exact ⟨by rw [← pz_st hG (b := q + 9) ⟨q1, by omega⟩ ⟨1, by decide, by decide, z.2, rfl⟩]; exact z.1, h1.2.2⟩
        · have h1 := st_d hG z.2
          rw [show q + 9 - 9 = q by omega] at h1
          exact ⟨by rw [pz_st hG (b := q + 9) ⟨q1, by omega⟩ ⟨1, by decide, by decide, h1.2, rfl⟩]; exact z.1, h1.2⟩
      · intro q q1 q2
        refine bZ_f (fun z => ?_)
        have h1 := st_u hG z.2
        omega
      · intro q q1 q2
        refine bZ_f (fun z => ?_)
        have h1 := st_d hG z.2
        omega
    have s3 : sumZ 81 (fun q => bZ (pz G q = p) * mee G q) = sumZ 81 (fun q => bZ (pz G q = p ∧ covW G (q % 9) (q / 9) 0) + bZ (pz G q = p ∧ covW G (q % 9) (q / 9) 1)) + sumZ 81 (fun q => bZ (pz G q = p ∧ covW G (q % 9) (q / 9) 2) + bZ (pz G q = p ∧ covW G (q % 9) (q / 9) 3)) := by
      rw [← sumZ_add]
      refine sumZ_congr fun q _ _ => ?_
      unfold mee
      rw [mee_4, Int.mul_add, Int.mul_add, Int.mul_add, hx, hx, hx, hx]
      omega
    rw [s3, sumZ_add, sumZ_add, ← s1, ← s2]
    omega
  rw [e0, sumZ_mod2, e1]
  omega
end PIE
