/-! pull, bow, straight -/
section PUL
variable {E : gw_N} {N : NM} {P : Pic}
def absZ (x : Int) : Int := if 0 ≤ x then x else -x
theorem G310_a {N : NM} {x : Int} : G310 N x = absZ x := rfl
theorem G290_a {N : NM} {x : Int} : G290 N x = absZ x := rfl
theorem absZ_bd {x c : Int} (h : -c ≤ x ∧ x ≤ c) : 0 ≤ absZ x ∧ absZ x ≤ c := by unfold absZ; split <;> omega
theorem mul_bd {x y a b : Int} (hx : 0 ≤ x ∧ x ≤ a) (hy : 0 ≤ y ∧ y ≤ b) : 0 ≤ x * y ∧ x * y ≤ a * b :=
  ⟨Int.mul_nonneg hx.1 hy.1, Int.mul_le_mul hx.2 hy.2 hy.1 (by omega)⟩
theorem tdiv_bd {a b c : Int} (hb : 0 < b) (hc : 0 ≤ c) (h : -(b * c) ≤ a ∧ a ≤ b * c) : -c ≤ Int.tdiv a b ∧ Int.tdiv a b ≤ c := by
  by_cases ha : 0 ≤ a
  · rw [Int.tdiv_eq_ediv_of_nonneg ha]
    have h1 := Int.ediv_nonneg ha (by omega : 0 ≤ b)
    have h2 : a / b ≤ c := Int.ediv_le_of_le_mul hb (by rw [Int.mul_comm]; exact h.2)
    omega
  · obtain ⟨d, rfl⟩ : ∃ d, a = -d := ⟨-a, by omega⟩
    rw [Int.neg_tdiv, Int.tdiv_eq_ediv_of_nonneg (by omega)]
    have h1 := Int.ediv_nonneg (by omega : 0 ≤ d) (by omega : 0 ≤ b)
    have h2 : d / b ≤ c := Int.ediv_le_of_le_mul hb (by rw [Int.mul_comm]; omega)
    omega
theorem sp30 (hI : PicOK P) (hg : GridOK P.toGeo N) (hp : PalOK P.toPal N) (hC : GlassOK P.toGla N) : Rn 30 [.ref 44] (hs E (jm N)) (some (.int (J (pullZ P.toGeo P.toPal P.toGla)))) (hs E (jm N)) := by
  have hb := fld_bd hI.geo
  unfold pullZ
  refine c30 (v30_0 ?_)
  refine loopZ (a := 0) (n := P.toGeo.w * P.toGeo.h) (Q := fun f => Ev 2 30 4 [some (.ref 44), some (.int (J (sumZ f (fun f => sumZ (P.toGla.lay f) (fun k => if P.toGla.sta (12 * f + k) = 0 then 0 else P.toGla.thk (12 * f + k) * P.toPal.pul (P.toGla.col (12 * f + k))))))), some (.int (J f)), none, none] [] (hs E (jm N)) (_, _)) (by omega) ?_ ?_
  · refine v30_4 ?_
    rw [cF hg]
    ((repeat' (first | omega | exact True.intro | exact absurd True.intro ‹¬ True› | apply And.intro | intro _)) <;> rfl)
  · intro f h1 h2 ih
    have hl := hI.gla.lay f h1 (by omega)
    refine v30_4 ?_
    rw [cF hg]
    rw [sumZ_succ h1] at ih
    (repeat' (first | omega | exact True.intro | exact absurd True.intro ‹¬ True› | apply And.intro | intro _))
    have h0 := loopZ (a := 0) (n := P.toGla.lay f) (Q := fun k => Ev 2 30 17 [some (.ref 44), some (.int (J (sumZ f (fun f => sumZ (P.toGla.lay f) (fun k => if P.toGla.sta (12 * f + k) = 0 then 0 else P.toGla.thk (12 * f + k) * P.toPal.pul (P.toGla.col (12 * f + k)))) + sumZ k (fun k => if P.toGla.sta (12 * f + k) = 0 then 0 else P.toGla.thk (12 * f + k) * P.toPal.pul (P.toGla.col (12 * f + k)))))), some (.int (J f)), some (.int (J k)), none] [] (hs E (jm N)) (some (.int (J (sumZ (P.toGeo.w * P.toGeo.h) (fun f => sumZ (P.toGla.lay f) (fun k => if P.toGla.sta (12 * f + k) = 0 then 0 else P.toGla.thk (12 * f + k) * P.toPal.pul (P.toGla.col (12 * f + k))))))), (hs E (jm N)))) hl.1 ?_ ?_
    · rw [sumZ_0, Int.add_zero] at h0
      exact h0
    · refine v30_17 ?_
      rw [hC.lay f h1 (by omega)]
      (repeat' (first | omega | exact True.intro | exact absurd True.intro ‹¬ True› | apply And.intro | intro _))
      all_goals exact ih
    · intro k k1 k2 ih2
      have hst := hI.gla.sta (12 * f + k) (by omega) (by omega)
      have hco := hI.gla.col (12 * f + k) (by omega) (by omega)
      refine v30_17 ?_
      rw [hC.lay f h1 (by omega), hC.sta _ (by omega) (by omega), hC.thk _ (by omega) (by omega), hC.col _ (by omega) (by omega), show G101 N (P.toGla.col (12 * f + k)) = P.toPal.pul (P.toGla.col (12 * f + k)) from hp.pul _ hco.1 hco.2]
      rw [sumZ_succ k1, ← Int.add_assoc] at ih2
      (repeat' (first | omega | exact True.intro | exact absurd True.intro ‹¬ True› | apply And.intro | intro _))
      · rw [if_pos ‹P.toGla.sta (12 * f + k) = 0›, Int.add_zero] at ih2
        exact ih2
      · rw [if_neg ‹¬ P.toGla.sta (12 * f + k) = 0›] at ih2
        exact ih2
theorem sp285 (hI : PicOK P) (hR : RefOK P N) : Rn 285 [.ref 59] (hs E (jm N)) (some (.int (J (pullZ P.toGeo P.toPal P.toGla)))) (hs E (jm N)) := by
  have hb := fld_bd hI.geo
  unfold pullZ
  refine c285 (v285_0 ?_)
  refine loopZ (a := 0) (n := P.toGeo.w * P.toGeo.h) (Q := fun f => Ev 2 285 4 [some (.ref 59), some (.int (J (sumZ f (fun f => sumZ (P.toGla.lay f) (fun k => if P.toGla.sta (12 * f + k) = 0 then 0 else P.toGla.thk (12 * f + k) * P.toPal.pul (P.toGla.col (12 * f + k))))))), some (.int (J f)), none, none] [] (hs E (jm N)) (_, _)) (by omega) ?_ ?_
  · refine v285_4 ?_
    rw [rF hR]
    ((repeat' (first | omega | exact True.intro | exact absurd True.intro ‹¬ True› | apply And.intro | intro _)) <;> rfl)
  · intro f h1 h2 ih
    have hl := hI.gla.lay f h1 (by omega)
    refine v285_4 ?_
    rw [rF hR]
    rw [sumZ_succ h1] at ih
    (repeat' (first | omega | exact True.intro | exact absurd True.intro ‹¬ True› | apply And.intro | intro _))
    have h0 := loopZ (a := 0) (n := P.toGla.lay f) (Q := fun k => Ev 2 285 14 [some (.ref 59), some (.int (J (sumZ f (fun f => sumZ (P.toGla.lay f) (fun k => if P.toGla.sta (12 * f + k) = 0 then 0 else P.toGla.thk (12 * f + k) * P.toPal.pul (P.toGla.col (12 * f + k)))) + sumZ k (fun k => if P.toGla.sta (12 * f + k) = 0 then 0 else P.toGla.thk (12 * f + k) * P.toPal.pul (P.toGla.col (12 * f + k)))))), some (.int (J f)), some (.int (J k)), none] [] (hs E (jm N)) (some (.int (J (sumZ (P.toGeo.w * P.toGeo.h) (fun f => sumZ (P.toGla.lay f) (fun k => if P.toGla.sta (12 * f + k) = 0 then 0 else P.toGla.thk (12 * f + k) * P.toPal.pul (P.toGla.col (12 * f + k))))))), (hs E (jm N)))) hl.1 ?_ ?_
    · rw [sumZ_0, Int.add_zero] at h0
      exact h0
    · refine v285_14 ?_
      rw [hR.lay]
      (repeat' (first | omega | exact True.intro | exact absurd True.intro ‹¬ True› | apply And.intro | intro _))
      all_goals exact ih
    · intro k k1 k2 ih2
      have hst := hI.gla.sta (12 * f + k) (by omega) (by omega)
      have hco := hI.gla.col (12 * f + k) (by omega) (by omega)
      refine v285_14 ?_
      rw [hR.lay, hR.sta, hR.thk, hR.col, hR.pul]
      rw [sumZ_succ k1, ← Int.add_assoc] at ih2
      (repeat' (first | omega | exact True.intro | exact absurd True.intro ‹¬ True› | apply And.intro | intro _))
      · rw [if_pos (by omega)] at ih2
        exact ih2
      · rw [if_neg (by omega)] at ih2
        exact ih2
theorem pullZ_bd (hI : PicOK P) : 0 ≤ pullZ P.toGeo P.toPal P.toGla ∧ pullZ P.toGeo P.toPal P.toGla ≤ P.toGeo.w * P.toGeo.h * 117612 := by
  have hb := fld_bd hI.geo
  unfold pullZ
  refine sumZ_bd (fun f f1 f2 => ?_) (by omega)
  have hl := hI.gla.lay f f1 (by omega)
  have h := sumZ_bd' (g := fun k => if P.toGla.sta (12 * f + k) = 0 then 0 else P.toGla.thk (12 * f + k) * P.toPal.pul (P.toGla.col (12 * f + k))) (n := P.toGla.lay f) (B := 12) (c := 9801) (fun k k1 k2 => ?_) hl.1 hl.2 (by decide)
  · exact ⟨h.1, by omega⟩
  · have hco := hI.gla.col (12 * f + k) (by omega) (by omega)
    have h2 := mul_bd (hI.gla.thk (12 * f + k) (by omega) (by omega)) (hI.pal.pul _ hco.1 hco.2)
    show 0 ≤ (if P.toGla.sta (12 * f + k) = 0 then 0 else P.toGla.thk (12 * f + k) * P.toPal.pul (P.toGla.col (12 * f + k))) ∧ (if P.toGla.sta (12 * f + k) = 0 then 0 else P.toGla.thk (12 * f + k) * P.toPal.pul (P.toGla.col (12 * f + k))) ≤ 9801
    split <;> omega
def bacZ (G : Geo) (B : Pal) (c t : Int) : Int := G.w * G.h * t * B.pul c
def bowZ (G : Geo) (B : Pal) (A : Gla) (c t : Int) : Int := Int.tdiv (pullZ G B A - bacZ G B c t) (G.w * G.h)
theorem bacZ_bd {c t : Int} (hI : PicOK P) (hc : 0 ≤ c ∧ c < 8) (ht : 0 ≤ t ∧ t ≤ 99) : 0 ≤ bacZ P.toGeo P.toPal c t ∧ bacZ P.toGeo P.toPal c t ≤ P.toGeo.w * P.toGeo.h * 9801 := by
  have hb := fld_bd hI.geo
  have h := mul_bd ht (hI.pal.pul c hc.1 hc.2)
  unfold bacZ
  rw [Int.mul_assoc]
  exact ⟨Int.mul_nonneg (by omega) h.1, Int.mul_le_mul_of_nonneg_left (by omega) (by omega)⟩
theorem bowZ_bd {c t : Int} (hI : PicOK P) (hc : 0 ≤ c ∧ c < 8) (ht : 0 ≤ t ∧ t ≤ 99) : -117612 ≤ bowZ P.toGeo P.toPal P.toGla c t ∧ bowZ P.toGeo P.toPal P.toGla c t ≤ 117612 := by
  have hb := fld_bd hI.geo
  have h1 := pullZ_bd hI
  have h2 := bacZ_bd hI hc ht
  unfold bowZ
  exact tdiv_bd (by omega) (by decide) (by omega)
theorem bac_R {c t : Int} (hI : PicOK P) (hc : 0 ≤ c ∧ c < 8) (ht : 0 ≤ t ∧ t ≤ 99) : R (pullZ P.toGeo P.toPal P.toGla - bacZ P.toGeo P.toPal c t) := by
  have hb := fld_bd hI.geo
  have h1 := pullZ_bd hI
  have h2 := bacZ_bd hI hc ht
  omega
theorem G131_b {c t : Int} (hg : GridOK P.toGeo N) (hp : PalOK P.toPal N) (hc : 0 ≤ c ∧ c < 8) : G131 N c t = bacZ P.toGeo P.toPal c t := by
  unfold G131 bacZ
  rw [cF hg, show G101 N c = P.toPal.pul c from hp.pul c hc.1 hc.2]
theorem sp132 (hI : PicOK P) (hg : GridOK P.toGeo N) (hp : PalOK P.toPal N) (hC : GlassOK P.toGla N) (hT : TenOK P.toTen N) : Rn 132 [.ref 53] (hs E (jm N)) (some (.int (J (bowZ P.toGeo P.toPal P.toGla P.toTen.bc P.toTen.bt)))) (hs E (jm N)) := by
  have hb := fld_bd hI.geo
  have hbc := hI.ten.bc
  have hR := bac_R hI hI.ten.bc hI.ten.bt
  refine c132 (v132_0 ⟨_, sp30 hI hg hp hC, ?_⟩)
  unfold G130 Q130 Q133 G133 Q131 Q101
  rw [hT.bc, hT.bt, G131_b hg hp hI.ten.bc, cF hg]
  (repeat' (first | omega | exact True.intro | exact absurd True.intro ‹¬ True› | apply And.intro | intro _))
  rw [if_neg (show ¬ P.toGeo.w * P.toGeo.h ≤ 0 by omega)]
  rfl
theorem sp287 {c t : Int} (hI : PicOK P) (hR : RefOK P N) (hc : 0 ≤ c ∧ c < 8) (ht : 0 ≤ t ∧ t ≤ 99) : Rn 287 [.ref 59, .int (J c), .int (J t)] (hs E (jm N)) (some (.int (J (bowZ P.toGeo P.toPal P.toGla c t)))) (hs E (jm N)) := by
  have hb := fld_bd hI.geo
  have h1 := bac_R hI hc ht
  refine c287 (v287_0 ⟨_, sp285 hI hR, ?_⟩)
  rw [rF hR, hR.pul]
  show _ ∧ _ ∧ _ ∧ R (pullZ P.toGeo P.toPal P.toGla - bacZ P.toGeo P.toPal c t) ∧ _
  ((repeat' (first | omega | exact True.intro | exact absurd True.intro ‹¬ True› | apply And.intro | intro _)) <;> rfl)
theorem sp288 (hI : PicOK P) (hR : RefOK P N) : Rn 288 [.ref 59] (hs E (jm N)) (some (.int (J (bowZ P.toGeo P.toPal P.toGla P.toTen.bc P.toTen.bt)))) (hs E (jm N)) := by
  refine c288 (v288_0 ?_)
  rw [hR.bc, hR.bt]
  exact ⟨_, sp287 hI hR hI.ten.bc hI.ten.bt, rfl⟩
theorem op_pull {x1 : Int} (hI : GInv P N) (h1 : R x1) : Both E N 191 286 [.int (J x1)] := by
  have hbc := hI.ok.ten.bc
  by_cases a0 : x1 = 0
  · refine both_same (r := .int (J (pullZ P.toGeo P.toPal P.toGla))) hI (c191 (v191_0 ?_)) (c286 (v286_0 ?_))
    · (repeat' (first | omega | exact True.intro | exact absurd True.intro ‹¬ True› | apply And.intro | intro _))
      exact ⟨_, sp30 hI.ok hI.cls.grid hI.cls.pal hI.cls.glass, rfl⟩
    · (repeat' (first | omega | exact True.intro | exact absurd True.intro ‹¬ True› | apply And.intro | intro _))
      exact ⟨_, sp285 hI.ok hI.ref, rfl⟩
  by_cases a1 : x1 = 1
  · refine both_same (r := .int (J (bacZ P.toGeo P.toPal P.toTen.bc P.toTen.bt))) hI (c191 (v191_0 ?_)) (c286 (v286_0 ?_))
    · unfold Q130 Q131 Q101 G130
      rw [hI.cls.ten.bc, hI.cls.ten.bt, G131_b hI.cls.grid hI.cls.pal hI.ok.ten.bc]
      ((repeat' (first | omega | exact True.intro | exact absurd True.intro ‹¬ True› | apply And.intro | intro _)) <;> rfl)
    · rw [rF hI.ref, hI.ref.bc, hI.ref.bt, hI.ref.pul]
      ((repeat' (first | omega | exact True.intro | exact absurd True.intro ‹¬ True› | apply And.intro | intro _)) <;> rfl)
  · refine both_same (r := .int (J (-102))) hI (c191 (v191_0 ?_)) (c286 (v286_0 ?_)) <;> ((repeat' (first | omega | exact True.intro | exact absurd True.intro ‹¬ True› | apply And.intro | intro _)) <;> rfl)
theorem op_bow {x1 : Int} (hI : GInv P N) (h1 : R x1) : Both E N 192 289 [.int (J x1)] := by
  have hst := hI.ok.pal.stiff
  have hbo := bowZ_bd hI.ok hI.ok.ten.bc hI.ok.ten.bt
  by_cases a0 : x1 = 0
  · refine both_same (r := .int (J (bowZ P.toGeo P.toPal P.toGla P.toTen.bc P.toTen.bt))) hI (c192 (v192_0 ?_)) (c289 (v289_0 ?_))
    · (repeat' (first | omega | exact True.intro | exact absurd True.intro ‹¬ True› | apply And.intro | intro _))
      exact ⟨_, sp132 hI.ok hI.cls.grid hI.cls.pal hI.cls.glass hI.cls.ten, rfl⟩
    · (repeat' (first | omega | exact True.intro | exact absurd True.intro ‹¬ True› | apply And.intro | intro _))
      exact ⟨_, sp288 hI.ok hI.ref, rfl⟩
  by_cases a1 : x1 = 1
  · refine both_same (r := .int (J (Int.tdiv (bowZ P.toGeo P.toPal P.toGla P.toTen.bc P.toTen.bt) P.toPal.stiff))) hI (c192 (v192_0 ?_)) (c289 (v289_0 ?_))
    · (repeat' (first | omega | exact True.intro | exact absurd True.intro ‹¬ True› | apply And.intro | intro _))
      refine ⟨_, c134 (v134_0 ?_), rfl⟩
      rw [show G104 N = P.toPal.stiff from hI.cls.pal.stiff]
      (repeat' (first | omega | exact True.intro | exact absurd True.intro ‹¬ True› | apply And.intro | intro _))
      refine ⟨_, sp132 hI.ok hI.cls.grid hI.cls.pal hI.cls.glass hI.cls.ten, ?_⟩
      ((repeat' (first | omega | exact True.intro | exact absurd True.intro ‹¬ True› | apply And.intro | intro _)) <;> rfl)
    · (repeat' (first | omega | exact True.intro | exact absurd True.intro ‹¬ True› | apply And.intro | intro _))
      refine ⟨_, sp288 hI.ok hI.ref, ?_⟩
      rw [hI.ref.stiff]
      ((repeat' (first | omega | exact True.intro | exact absurd True.intro ‹¬ True› | apply And.intro | intro _)) <;> rfl)
  · refine both_same (r := .int (J (-1000001))) hI (c192 (v192_0 ?_)) (c289 (v289_0 ?_)) <;> ((repeat' (first | omega | exact True.intro | exact absurd True.intro ‹¬ True› | apply And.intro | intro _)) <;> rfl)
end PUL
