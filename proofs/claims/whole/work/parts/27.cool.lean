/-! straight, strain, cooling, cool -/
section COO
variable {E : gw_N} {N : NM} {P : Pic}
/-- the first thickness, from t on, that betters all before -/
def besF (g : Int → Int) : Nat → Int → Int → Int
  | 0, _, b => b
  | n + 1, t, b => besF g n (t + 1) (if g b ≤ g t then b else t)
theorem bacZ_0 {c : Int} {G : Geo} {B : Pal} : bacZ G B c 0 = 0 := by unfold bacZ; rw [Int.mul_zero, Int.zero_mul]
theorem sp135 {c : Int} (hI : PicOK P) (hg : GridOK P.toGeo N) (hp : PalOK P.toPal N) (hC : GlassOK P.toGla N) (hc : 0 ≤ c ∧ c < 8) :
    Rn 135 [.ref 53, .int (J c)] (hs E (jm N)) (some (.int (J (besF (fun t => absZ (bowZ P.toGeo P.toPal P.toGla c t)) 99 1 0)))) (hs E (jm N)) := by
  have hb := fld_bd hI.geo
  have key : ∀ (n : Nat) (t b : Int), 1 ≤ t → t + n = 100 → 0 ≤ b → b < t → Ev 3 135 24 [some (.ref 53), some (.int (J c)), some (.int (J (pullZ P.toGeo P.toPal P.toGla))), some (.int (J b)), some (.int (J (absZ (bowZ P.toGeo P.toPal P.toGla c b)))), some (.int (J t)), none] [] (hs E (jm N)) (some (.int (J (besF (fun t => absZ (bowZ P.toGeo P.toPal P.toGla c t)) n t b))), (hs E (jm N))) := by
    intro n
    induction n with
    | zero =>
      intro t b t1 t2 b1 b2
      refine v135_24 ?_
      ((repeat' (first | omega | exact True.intro | exact absurd True.intro ‹¬ True› | apply And.intro | intro _)) <;> rfl)
    | succ n ih =>
      intro t b t1 t2 b1 b2
      have hR := bac_R hI hc (t := t) (by omega)
      have hB := bowZ_bd hI hc (t := t) (by omega)
      have hB2 := absZ_bd hB
      have hB3 := absZ_bd (bowZ_bd hI hc (t := b) (by omega))
      have e : G133 N (pullZ P.toGeo P.toPal P.toGla) (bacZ P.toGeo P.toPal c t) = bowZ P.toGeo P.toPal P.toGla c t := by
        unfold G133
        rw [cF hg, if_neg (show ¬ P.toGeo.w * P.toGeo.h ≤ 0 by omega)]
        rfl
      refine v135_24 ?_
      unfold Q133
      rw [G131_b hg hp hc, e, G310_a, cF hg]
      unfold Q131 Q101 Q310
      (repeat' (first | omega | exact True.intro | exact absurd True.intro ‹¬ True› | apply And.intro | intro _))
      · have h := ih (t + 1) b (by omega) (by omega) b1 (by omega)
        unfold besF
        rw [if_pos ‹_›]
        exact h
      · have h := ih (t + 1) t (by omega) (by omega) (by omega) (by omega)
        unfold besF
        rw [if_neg ‹_›]
        exact h
  have hB := bowZ_bd hI hc (t := 0) (by omega)
  have hR := bac_R hI hc (t := 0) (by omega)
  have h := key 99 1 0 (by omega) (by omega) (by omega) (by omega)
  refine c135 (v135_0 ⟨_, sp30 hI hg hp hC, ?_⟩)
  have e : G133 N (pullZ P.toGeo P.toPal P.toGla) 0 = bowZ P.toGeo P.toPal P.toGla c 0 := by
    unfold G133 bowZ
    rw [cF hg, if_neg (show ¬ P.toGeo.w * P.toGeo.h ≤ 0 by omega), bacZ_0]
  rw [bacZ_0] at hR
  unfold Q133 Q310
  rw [e, G310_a, cF hg]
  (repeat' (first | omega | exact True.intro | exact absurd True.intro ‹¬ True› | apply And.intro | intro _))
  all_goals exact h
theorem op_straight {x1 : Int} (hI : GInv P N) (h1 : R x1) : Both E N 193 291 [.int (J x1)] := by
  by_cases hc : 0 ≤ x1 ∧ x1 < 8
  · refine both_same (r := .int (J (besF (fun t => absZ (bowZ P.toGeo P.toPal P.toGla x1 t)) 99 1 0))) hI (c193 (v193_0 ?_)) (c291 (v291_0 ?_))
    · simp only [G94]
      (repeat' (first | omega | exact True.intro | exact absurd True.intro ‹¬ True› | apply And.intro | intro _))
      exact ⟨_, sp135 hI.ok hI.cls.grid hI.cls.pal hI.cls.glass hc, rfl⟩
    · have key : ∀ (n : Nat) (t b : Int), 1 ≤ t → t + n = 100 → 0 ≤ b → b < t → Ev 4 291 14 [some (.ref 59), some (.int (J x1)), some (.int (J b)), some (.int (J t))] [] (hs E (jm N)) (some (.int (J (besF (fun t => absZ (bowZ P.toGeo P.toPal P.toGla x1 t)) n t b))), (hs E (jm N))) := by
        intro n
        induction n with
        | zero =>
          intro t b t1 t2 b1 b2
          refine v291_14 ?_
          ((repeat' (first | omega | exact True.intro | exact absurd True.intro ‹¬ True› | apply And.intro | intro _)) <;> rfl)
        | succ n ih =>
          intro t b t1 t2 b1 b2
          have hB := bowZ_bd hI.ok hc (t := t) (by omega)
          have hB2 := absZ_bd hB
          have hb := bowZ_bd hI.ok hc (t := b) (by omega)
          have hB3 := absZ_bd hb
          refine v291_14 ?_
          (repeat' (first | omega | exact True.intro | exact absurd True.intro ‹¬ True› | apply And.intro | intro _))
          refine ⟨_, sp287 hI.ok hI.ref hc (by omega), ?_⟩
          unfold Q290
          rw [G290_a]
          (repeat' (first | omega | exact True.intro | exact absurd True.intro ‹¬ True› | apply And.intro | intro _))
          refine ⟨_, sp287 hI.ok hI.ref hc (by omega), ?_⟩
          rw [G290_a]
          (repeat' (first | omega | exact True.intro | exact absurd True.intro ‹¬ True› | apply And.intro | intro _))
          · have h := ih (t + 1) b (by omega) (by omega) b1 (by omega)
            unfold besF
            rw [if_pos ‹_›]
            exact h
          · have h := ih (t + 1) t (by omega) (by omega) (by omega) (by omega)
            unfold besF
            rw [if_neg ‹_›]
            exact h
      simp only [G261]
      (repeat' (first | omega | exact True.intro | exact absurd True.intro ‹¬ True› | apply And.intro | intro _))
      exact key 99 1 0 (by omega) (by omega) (by omega) (by omega)
  · refine both_same (r := .int (J (-101))) hI (c193 (v193_0 ?_)) (c291 (v291_0 ?_)) <;> simp only [G94, G261] <;> ((repeat' (first | omega | exact True.intro | exact absurd True.intro ‹¬ True› | apply And.intro | intro _)) <;> rfl)
/-- the bow as it is, without its sign -/
def bowA (P : Pic) : Int := absZ (bowZ P.toGeo P.toPal P.toGla P.toTen.bc P.toTen.bt)
theorem bowA_bd (hI : PicOK P) : 0 ≤ bowA P ∧ bowA P ≤ 117612 := absZ_bd (bowZ_bd hI hI.ten.bc hI.ten.bt)
theorem sp136 {x : Int} (hI : PicOK P) (hC : ClsOK P N) (hx : 0 ≤ x ∧ x ≤ 999) : Rn 136 [.ref 53, .int (J x)] (hs E (jm N)) (some (.int (J (x * bowA P / 1000)))) (hs E (jm N)) := by
  have hB := bowZ_bd hI hI.ten.bc hI.ten.bt
  have hm := mul_bd hx (bowA_bd hI)
  refine c136 (v136_0 ⟨_, sp132 hI hC.grid hC.pal hC.glass hC.ten, ?_⟩)
  rw [G310_a, show absZ (bowZ P.toGeo P.toPal P.toGla P.toTen.bc P.toTen.bt) = bowA P from rfl, Int.tdiv_eq_ediv_of_nonneg hm.1]
  unfold Q310
  ((repeat' (first | omega | exact True.intro | exact absurd True.intro ‹¬ True› | apply And.intro | intro _)) <;> rfl)
theorem sp292 {x : Int} (hI : PicOK P) (hR : RefOK P N) (hx : 0 ≤ x ∧ x ≤ 999) : Rn 292 [.ref 59, .int (J x)] (hs E (jm N)) (some (.int (J (x * bowA P / 1000)))) (hs E (jm N)) := by
  have hB := bowZ_bd hI hI.ten.bc hI.ten.bt
  have hm := mul_bd hx (bowA_bd hI)
  refine c292 (v292_0 ⟨_, sp288 hI hR, ?_⟩)
  rw [G290_a, show absZ (bowZ P.toGeo P.toPal P.toGla P.toTen.bc P.toTen.bt) = bowA P from rfl, Int.tdiv_eq_ediv_of_nonneg hm.1]
  unfold Q290
  ((repeat' (first | omega | exact True.intro | exact absurd True.intro ‹¬ True› | apply And.intro | intro _)) <;> rfl)
theorem op_strain {x1 x2 : Int} (hI : GInv P N) (h1 : R x1) (h2 : R x2) : Both E N 194 293 [.int (J x1), .int (J x2)] := by
  by_cases hc : 0 ≤ x2 ∧ x2 ≤ x1 ∧ x1 ≤ 999
  · refine both_same (r := .int (J ((x1 - x2) * bowA P / 1000))) hI (c194 (v194_0 ?_)) (c293 (v293_0 ?_))
    · simp only [G205]
      (repeat' (first | omega | exact True.intro | exact absurd True.intro ‹¬ True› | apply And.intro | intro _))
      exact ⟨_, sp136 hI.ok hI.cls (by omega), rfl⟩
    · (repeat' (first | omega | exact True.intro | exact absurd True.intro ‹¬ True› | apply And.intro | intro _))
      exact ⟨_, sp292 hI.ok hI.ref (by omega), rfl⟩
  · refine both_same (r := .int (J (-102))) hI (c194 (v194_0 ?_)) (c293 (v293_0 ?_)) <;> simp only [G205] <;> ((repeat' (first | omega | exact True.intro | exact absurd True.intro ‹¬ True› | apply And.intro | intro _)) <;> rfl)
/-- the longest step that does not crack, where there is a bow -/
def crk (P : Pic) : Int := (1000 * (P.toPal.bear + 1) - 1) / bowA P
def lonC (P : Pic) (a : Int) : Int := if bowA P = 0 then a else if crk P < a then crk P else a
theorem crk_bd (hI : PicOK P) (hb : 0 < bowA P) : 0 ≤ crk P ∧ crk P ≤ 999999 := by
  have h := hI.pal.bear
  unfold crk
  refine ⟨Int.ediv_nonneg (by omega) (by omega), ?_⟩
  have h1 : (1000 * (P.toPal.bear + 1) - 1) / bowA P ≤ 1000 * (P.toPal.bear + 1) - 1 := Int.ediv_le_self _ (by omega)
  omega
theorem sp137 {x : Int} (hI : PicOK P) (hC : ClsOK P N) (hx : 0 ≤ x ∧ x ≤ 999) : Rn 137 [.ref 53, .int (J x)] (hs E (jm N)) (some (.int (J (lonC P x)))) (hs E (jm N)) := by
  have hB := bowZ_bd hI hI.ten.bc hI.ten.bt
  have hA := bowA_bd hI
  have hbe := hI.pal.bear
  refine c137 (v137_0 ⟨_, sp132 hI hC.grid hC.pal hC.glass hC.ten, ?_⟩)
  rw [G310_a, show absZ (bowZ P.toGeo P.toPal P.toGla P.toTen.bc P.toTen.bt) = bowA P from rfl, show G105 N = P.toPal.bear from hC.pal.bear, Int.tdiv_eq_ediv_of_nonneg (by omega : 0 ≤ 1000 * (P.toPal.bear + 1) - 1), show (1000 * (P.toPal.bear + 1) - 1) / bowA P = crk P from rfl]
  unfold Q310 lonC
  by_cases h0 : bowA P = 0
  · rw [if_pos h0]
    ((repeat' (first | omega | exact True.intro | exact absurd True.intro ‹¬ True› | apply And.intro | intro _)) <;> rfl)
  · have hk := crk_bd hI (by omega)
    rw [if_neg h0]
    unfold Q312 G312
    ((repeat' (first | omega | exact True.intro | exact absurd True.intro ‹¬ True› | apply And.intro | intro _)) <;> rfl)
theorem lon294 (hI : PicOK P) (hR : RefOK P N) : Rn 294 [.ref 59] (hs E (jm N)) (some (.int (J (lonC P 999)))) (hs E (jm N)) := by
  have hA := bowA_bd hI
  have hbe := hI.pal.bear
  have hL : 0 ≤ lonC P 999 ∧ lonC P 999 ≤ 999 := by
    unfold lonC
    by_cases h0 : bowA P = 0
    · rw [if_pos h0]; omega
    · have hk := crk_bd hI (by omega)
      rw [if_neg h0]; split <;> omega
  refine c294 (v294_0 ?_)
  refine loopZ (a := 0) (n := lonC P 999) (Q := fun k => Ev 6 294 2 [some (.ref 59), some (.int (J k))] [] (hs E (jm N)) (_, _)) hL.1 ?_ ?_
  · refine v294_2 ?_
    rw [hR.bear]
    by_cases h9 : lonC P 999 = 999
    · rw [h9]
      ((repeat' (first | omega | exact True.intro | exact absurd True.intro ‹¬ True› | apply And.intro | intro _)) <;> rfl)
    · have hm := mul_bd (x := lonC P 999 + 1) (a := 999) (by omega) hA
      (repeat' (first | omega | exact True.intro | exact absurd True.intro ‹¬ True› | apply And.intro | intro _))
      refine ⟨_, sp292 hI hR (by omega), ?_⟩
      have hcr : P.toPal.bear < (lonC P 999 + 1) * bowA P / 1000 := by
        unfold lonC at h9 ⊢
        by_cases h0 : bowA P = 0
        · rw [if_pos h0] at h9; omega
        · rw [if_neg h0] at h9 ⊢
          by_cases h3 : crk P < 999
          · rw [if_pos h3]
            have h4 : ¬ (crk P + 1 ≤ (1000 * (P.toPal.bear + 1) - 1) / bowA P) := by
              show ¬ (crk P + 1 ≤ crk P)
              omega
            rw [Int.le_ediv_iff_mul_le (by omega)] at h4
            omega
          · rw [if_neg h3] at h9; omega
      ((repeat' (first | omega | exact True.intro | exact absurd True.intro ‹¬ True› | apply And.intro | intro _)) <;> rfl)
  · intro k h1 h2 ih
    have hm := mul_bd (x := k + 1) (a := 999) (by omega) hA
    have hcr : (k + 1) * bowA P / 1000 ≤ P.toPal.bear := by
      unfold lonC at h2
      by_cases h0 : bowA P = 0
      · rw [h0, Int.mul_zero]; omega
      · rw [if_neg h0] at h2
        have h3 : k + 1 ≤ (1000 * (P.toPal.bear + 1) - 1) / bowA P := by
          show k + 1 ≤ crk P
          split at h2 <;> omega
        rw [Int.le_ediv_iff_mul_le (by omega)] at h3
        omega
    refine v294_2 ?_
    rw [hR.bear]
    (repeat' (first | omega | exact True.intro | exact absurd True.intro ‹¬ True› | apply And.intro | intro _))
    refine ⟨_, sp292 hI hR (by omega), ?_⟩
    (repeat' (first | omega | exact True.intro | exact absurd True.intro ‹¬ True› | apply And.intro | intro _))
    all_goals exact ih
theorem lon_cases {a : Int} (hI : PicOK P) (ha : 0 ≤ a ∧ a ≤ 999) : (0 ≤ lonC P a ∧ lonC P a = lonC P 999 ∧ lonC P a < a) ∨ (lonC P a = a ∧ a ≤ lonC P 999 ∧ lonC P 999 ≤ 999) := by
  unfold lonC
  by_cases h0 : bowA P = 0
  · rw [if_pos h0, if_pos h0]; omega
  · have hk := crk_bd hI (by have := bowA_bd hI; omega)
    rw [if_neg h0, if_neg h0]
    by_cases h1 : crk P < a
    · rw [if_pos h1, if_pos (show crk P < 999 by omega)]; omega
    · rw [if_neg h1]
      by_cases h2 : crk P < 999
      · rw [if_pos h2]; omega
      · rw [if_neg h2]; omega
theorem one_step {a L : Int} (h1 : 1 ≤ a) (h2 : a ≤ L) : (a + L - 1) / L = 1 := by
  have e1 := Int.le_ediv_iff_mul_le (c := L) (a := 1) (b := a + L - 1) (by omega)
  have e2 := Int.ediv_lt_iff_lt_mul (c := L) (a := a + L - 1) (b := 2) (by omega)
  have h3 := e1.mpr (by omega)
  have h4 := e2.mpr (by omega)
  omega
/-- how many steps -/
def stpC (P : Pic) (a : Int) : Int := if a = 0 then 0 else if lonC P a ≤ 0 then -1 else (a + lonC P a - 1) / lonC P a
theorem stpC_bd {a : Int} (hI : PicOK P) (ha : 0 ≤ a ∧ a ≤ 999) : -1 ≤ stpC P a ∧ stpC P a ≤ 1997 := by
  have h := lon_cases hI ha
  unfold stpC
  split
  · omega
  · split
    · omega
    · have h1 := Int.ediv_nonneg (a := a + lonC P a - 1) (b := lonC P a) (by omega) (by omega)
      have h2 := Int.ediv_le_self (a := a + lonC P a - 1) (lonC P a) (by omega)
      omega
theorem sp138 {a : Int} (hI : PicOK P) (hC : ClsOK P N) (ha : 0 ≤ a ∧ a ≤ 999) : Rn 138 [.ref 53, .int (J a)] (hs E (jm N)) (some (.int (J (stpC P a)))) (hs E (jm N)) := by
  have h := lon_cases hI ha
  refine c138 (v138_0 ?_)
  unfold stpC
  (repeat' (first | omega | exact True.intro | exact absurd True.intro ‹¬ True› | apply And.intro | intro _))
  · rw [if_pos ‹_›]
  · rw [if_neg ‹_›]
    refine ⟨_, sp137 hI hC ha, ?_⟩
    (repeat' (first | omega | exact True.intro | exact absurd True.intro ‹¬ True› | apply And.intro | intro _))
    · rw [if_pos ‹_›]
    · rw [if_neg ‹_›, Int.tdiv_eq_ediv_of_nonneg (by omega)]
theorem op_cooling {x1 : Int} (hI : GInv P N) (h1 : R x1) : Both E N 195 295 [.int (J x1)] := by
  by_cases hc : 0 ≤ x1 ∧ x1 ≤ 999
  · refine both_same (r := .int (J (stpC P x1))) hI (c195 (v195_0 ?_)) (c295 (v295_0 ?_))
    · simp only [G205]
      (repeat' (first | omega | exact True.intro | exact absurd True.intro ‹¬ True› | apply And.intro | intro _))
      exact ⟨_, sp138 hI.ok hI.cls hc, rfl⟩
    · have h := lon_cases hI.ok hc
      unfold stpC
      (repeat' (first | omega | exact True.intro | exact absurd True.intro ‹¬ True› | apply And.intro | intro _))
      · rw [if_pos ‹_›]
      · rw [if_neg ‹¬ x1 = 0›]
        refine ⟨_, lon294 hI.ok hI.ref, ?_⟩
        (repeat' (first | omega | exact True.intro | exact absurd True.intro ‹¬ True› | apply And.intro | intro _))
        · rw [if_pos (by omega)]
        · rw [if_neg (by omega), Int.tdiv_eq_ediv_of_nonneg (by omega)]
          rcases h with h | h
          · rw [h.2.1]
          · rw [h.1, one_step (by omega) (by omega), one_step (by omega) h.2.1]
  · refine both_same (r := .int (J (-102))) hI (c195 (v195_0 ?_)) (c295 (v295_0 ?_)) <;> simp only [G205] <;> ((repeat' (first | omega | exact True.intro | exact absurd True.intro ‹¬ True› | apply And.intro | intro _)) <;> rfl)
def colZ (P : Pic) (a i : Int) : Int := if i = 0 then a else if i < 0 then -1 else if i ≤ stpC P a then (if 0 < a - i * lonC P a then a - i * lonC P a else 0) else -1
theorem op_cool {x1 x2 : Int} (hI : GInv P N) (h1 : R x1) (h2 : R x2) : Both E N 196 296 [.int (J x1), .int (J x2)] := by
  by_cases hc : 0 ≤ x1 ∧ x1 ≤ 999
  · have h := lon_cases hI.ok hc
    have hsb := stpC_bd hI.ok hc
    have hprod : ¬ x2 < 0 → ¬ x2 = 0 → x2 ≤ stpC P x1 → 0 < lonC P x1 ∧ ¬ x1 = 0 ∧ 0 ≤ x2 * lonC P x1 ∧ x2 * lonC P x1 ≤ x1 + lonC P x1 - 1 := by
      intro a1 a2 a3
      unfold stpC at a3
      split at a3
      · omega
      · split at a3
        · omega
        · rw [Int.le_ediv_iff_mul_le (by omega)] at a3
          have := Int.mul_nonneg (by omega : 0 ≤ x2) (by omega : 0 ≤ lonC P x1)
          omega
    refine both_same (r := .int (J (colZ P x1 x2))) hI (c196 (v196_0 ?_)) (c296 (v296_0 ?_))
    · simp only [G205]
      (repeat' (first | omega | exact True.intro | exact absurd True.intro ‹¬ True› | apply And.intro | intro _))
      refine ⟨_, c139 (v139_0 ?_), rfl⟩
      unfold colZ
      (repeat' (first | omega | exact True.intro | exact absurd True.intro ‹¬ True› | apply And.intro | intro _))
      · rw [if_pos ‹_›]
      · rw [if_neg ‹¬ x2 = 0›, if_pos ‹_›]
      · rw [if_neg ‹¬ x2 = 0›, if_neg ‹¬ x2 < 0›]
        refine ⟨_, sp138 hI.ok hI.cls hc, ?_⟩
        (repeat' (first | omega | exact True.intro | exact absurd True.intro ‹¬ True› | apply And.intro | intro _))
        · rw [if_pos ‹_›]
          have hp := hprod ‹_› ‹_› ‹_›
          refine ⟨_, sp137 hI.ok hI.cls hc, ?_⟩
          unfold Q311 G311
          ((repeat' (first | omega | exact True.intro | exact absurd True.intro ‹¬ True› | apply And.intro | intro _)) <;> rfl)
        · rw [if_neg ‹_›]
    · unfold colZ
      (repeat' (first | omega | exact True.intro | exact absurd True.intro ‹¬ True› | apply And.intro | intro _))
      · rw [if_pos ‹_›]
      · rw [if_neg ‹¬ x2 = 0›]
        refine ⟨_, lon294 hI.ok hI.ref, ?_⟩
        by_cases n : x2 < 0
        · rw [if_pos n]
          ((repeat' (first | omega | exact True.intro | exact absurd True.intro ‹¬ True› | apply And.intro | intro _)) <;> rfl)
        by_cases z : x1 = 0
        · have e : ¬ x2 ≤ stpC P x1 := by
            unfold stpC
            rw [if_pos z]
            omega
          rw [if_neg n, if_neg e]
          ((repeat' (first | omega | exact True.intro | exact absurd True.intro ‹¬ True› | apply And.intro | intro _)) <;> rfl)
        by_cases l : lonC P 999 = 0
        · have e : ¬ x2 ≤ stpC P x1 := by
            unfold stpC
            rw [if_neg z, if_pos (by omega)]
            omega
          rw [if_neg n, if_neg e]
          ((repeat' (first | omega | exact True.intro | exact absurd True.intro ‹¬ True› | apply And.intro | intro _)) <;> rfl)
        have e : Int.tdiv (x1 + lonC P 999 - 1) (lonC P 999) = stpC P x1 := by
          unfold stpC
          rw [if_neg z, if_neg (by omega), Int.tdiv_eq_ediv_of_nonneg (by omega)]
          rcases h with h | h
          · rw [h.2.1]
          · rw [one_step (L := lonC P 999) (by omega) h.2.1, h.1, one_step (by omega) (by omega)]
        rw [e]
        by_cases s : x2 ≤ stpC P x1
        · have hp := hprod n ‹_› s
          have hx : (x2 * lonC P 999 = x2 * lonC P x1) ∨ (x2 = 1 ∧ lonC P x1 = x1 ∧ x1 ≤ lonC P 999 ∧ lonC P 999 ≤ 999) := by
            rcases h with h | h
            · left; rw [h.2.1]
            · right
              have : stpC P x1 = 1 := by
                unfold stpC
                rw [if_neg z, if_neg (by omega), h.1, one_step (by omega) (by omega)]
              exact ⟨by omega, h⟩
          rw [if_neg n, if_pos s]
          rcases hx with hx | hx
          · rw [hx]
            (repeat' (first | omega | exact True.intro | exact absurd True.intro ‹¬ True› | apply And.intro | intro _))
            · have q : (if 0 < x1 - x2 * lonC P x1 then x1 - x2 * lonC P x1 else 0) = x1 - x2 * lonC P x1 := by split <;> omega
              rw [q]
            · rw [if_neg (by omega)]
          · rw [hx.1, hx.2.1]
            (repeat' (first | omega | exact True.intro | exact absurd True.intro ‹¬ True› | apply And.intro | intro _))
            · have q : (if 0 < x1 - 1 * x1 then x1 - 1 * x1 else 0) = x1 - 1 * lonC P 999 := by split <;> omega
              rw [q]
            · rw [if_neg (by omega)]
        · rw [if_neg n, if_neg s]
          ((repeat' (first | omega | exact True.intro | exact absurd True.intro ‹¬ True› | apply And.intro | intro _)) <;> rfl)
  · refine both_same (r := .int (J (-102))) hI (c196 (v196_0 ?_)) (c296 (v296_0 ?_)) <;> simp only [G205] <;> ((repeat' (first | omega | exact True.intro | exact absurd True.intro ‹¬ True› | apply And.intro | intro _)) <;> rfl)
end COO
