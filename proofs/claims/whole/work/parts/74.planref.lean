/-! the plan of the reference; plan, heat -/
section PLR
variable {E : gw_N} {N : NM} {P : Pic}
theorem sum_blk {g : Int → Int} {t G : Int → Int} {k : Int} (hk : 0 ≤ k) (ht : ∀ j, 0 ≤ j → j < k → 0 ≤ t j) (hg : ∀ j, 0 ≤ j → j < k → ∀ i, 0 ≤ i → i < t j → g (sumZ j t + i) = G j) : sumZ (sumZ k t) g = sumZ k (fun j => t j * G j) := by
  refine indZ (P := fun m => m ≤ k → 0 ≤ sumZ m t ∧ sumZ (sumZ m t) g = sumZ m (fun j => t j * G j)) (fun _ => ⟨Int.le_refl _, rfl⟩) ?_ k hk (Int.le_refl _) |>.2
  intro m m1 ih hle
  obtain ⟨i1, i2⟩ := ih (by omega)
  have h1 := ht m m1 (by omega)
  rw [sumZ_succ m1, sumZ_succ m1]
  refine ⟨by omega, ?_⟩
  rw [sumZ_split i1 h1, i2]
  congr 1
  rw [sumZ_congr (g := fun _ => G m * 1) (fun i a b => by rw [hg m m1 (by omega) i a b, Int.mul_one]), sumZ_mul]
  rw [show sumZ (t m) (fun _ => (1 : Int)) = t m from ?_, Int.mul_comm]
  refine indZ (P := fun n => sumZ n (fun _ => (1 : Int)) = n) rfl ?_ _ h1
  intro n n1 ih3
  rw [sumZ_succ n1, ih3]
/-- the reference's planned heats -/
def rpM (N : NM) (s : PS) : Prop := N 59 33 = sumZ s.1 s.2.2 ∧ ∀ j, 0 ≤ j → j < s.1 → ∀ i, 0 ≤ i → i < s.2.2 j → N 83 (sumZ j s.2.2 + i) = s.2.1 j
theorem T_bd {n m : Int} {s : PS} (h : wsP P n m s) (hn : n ≤ 8) {k : Int} (hk : 0 ≤ k ∧ k ≤ s.1) : 0 ≤ sumZ k s.2.2 ∧ sumZ k s.2.2 ≤ 99 * k ∧ sumZ k s.2.2 ≤ 792 := by
  have h1 := h.1
  have := sumZ_bd (g := s.2.2) (n := k) (c := 99) (fun j j1 j2 => by have := (h.2 j j1 (by omega)).1; omega) hk.1
  omega
theorem T_mono {n m : Int} {s : PS} (h : wsP P n m s) {j k : Int} (hj : 0 ≤ j) (hjk : j < k) (hk : k ≤ s.1) : sumZ j s.2.2 + s.2.2 j ≤ sumZ k s.2.2 := by
  rw [← sumZ_succ hj]
  have step : ∀ d, 0 ≤ d → (j + 1 + d ≤ s.1 → sumZ (j + 1) s.2.2 ≤ sumZ (j + 1 + d) s.2.2) → (j + 1 + (d + 1) ≤ s.1 → sumZ (j + 1) s.2.2 ≤ sumZ (j + 1 + (d + 1)) s.2.2) := by
    intro d d1 ih hle
    have h1 := ih (by omega)
    have h2 := (h.2 (j + 1 + d) (by omega) (by omega)).1
    have e9 := sumZ_succ (g := s.2.2) (k := j + 1 + d) (by omega)
    rw [← Int.add_assoc, e9]
    omega
  have hq := indZ (P := fun d => j + 1 + d ≤ s.1 → sumZ (j + 1) s.2.2 ≤ sumZ (j + 1 + d) s.2.2) (fun _ => by rw [Int.add_zero]; exact Int.le_refl _) step (k - (j + 1)) (by omega) (by omega)
  rwa [show j + 1 + (k - (j + 1)) = k by omega] at hq
theorem he_ref {n m : Int} {s : PS} (h : wsP P n m s) (hn : n ≤ 8) (hr : rpM N s) : ∀ k : Nat, (k : Int) ≤ s.1 → ∀ i, 0 ≤ i → heN s k i = if i < sumZ (k : Int) s.2.2 then N 83 (sumZ (k : Int) s.2.2 - 1 - i) else -1 := by
  intro k
  induction k with
  | zero =>
    intro _ i i1
    have e : sumZ ((0 : Nat) : Int) s.2.2 = 0 := rfl
    rw [e, if_neg (by omega)]
    rfl
  | succ k ih =>
    intro hk i i1
    have hs1 : sumZ ((k + 1 : Nat) : Int) s.2.2 = sumZ (k : Int) s.2.2 + s.2.2 (k : Int) := sumZ_succ (g := s.2.2) (k := (k : Int)) (by omega)
    have hb := T_bd h hn (k := (k : Int)) (by omega)
    rw [heN, hs1]
    by_cases q : i < s.2.2 (k : Int)
    · rw [if_pos q, if_pos (by omega), show sumZ (k : Int) s.2.2 + s.2.2 (k : Int) - 1 - i = sumZ (k : Int) s.2.2 + (s.2.2 (k : Int) - 1 - i) by omega]
      exact (hr.2 (k : Int) (by omega) (by omega) _ (by omega) (by omega)).symm
    · rw [if_neg q, ih (by omega) (i - s.2.2 (k : Int)) (by omega)]
      by_cases q2 : i - s.2.2 (k : Int) < sumZ (k : Int) s.2.2
      · rw [if_pos q2, if_pos (by omega), show sumZ (k : Int) s.2.2 + s.2.2 (k : Int) - 1 - i = sumZ (k : Int) s.2.2 - 1 - (i - s.2.2 (k : Int)) by omega]
      · rw [if_neg q2, if_neg (by omega)]
def sRfp (N N' : NM) : Prop := ∀ a, a < 59 → N' a = N a
/-- counting the firings that serve a colour -/
theorem r281_115 {n m c b g tn : Int} {s : PS} {res : Option Value × gw_H} (hI : PicOK P) (hR : RefOK P N) (h : wsP P n m s) (hn : n < 8) (hr : rpM N s) (hc : 0 ≤ c ∧ c < 8) (hbit : bitZ m c = 1)
    (hend : Ev 2 281 177 [some (.ref 59), some (.int (J b)), some (.int (J g)), some (.int (J tn)), some (.int (J c)), none, some (.int (J (sumZ s.1 (fun j => if P.toPal.heat c ≤ s.2.1 j then s.2.2 j else 0))))] [] (hs E (jm N)) res) : Ev 2 281 115 [some (.ref 59), some (.int (J b)), some (.int (J g)), some (.int (J tn)), some (.int (J c)), some (.int (J 0)), some (.int (J 0))] [] (hs E (jm N)) res := by
  have h1 := h.1
  have hh := hI.pal.heat c hc.1 hc.2
  have hT := T_bd h (by omega) (k := s.1) ⟨h1.1, Int.le_refl _⟩
  -- what each planned heat is
  have hval : ∀ q, 0 ≤ q → q < sumZ s.1 s.2.2 → ∃ j, 0 ≤ j ∧ j < s.1 ∧ sumZ j s.2.2 ≤ q ∧ q < sumZ j s.2.2 + s.2.2 j := by
    intro q q1 q2
    refine indZ (P := fun k => k ≤ s.1 → q < sumZ k s.2.2 → ∃ j, 0 ≤ j ∧ j < s.1 ∧ sumZ j s.2.2 ≤ q ∧ q < sumZ j s.2.2 + s.2.2 j) (fun _ z => absurd z (by rw [sumZ_0]; omega)) ?_ s.1 h1.1 (Int.le_refl _) q2
    intro k k1 ih hle hq
    rw [sumZ_succ k1] at hq
    by_cases z : q < sumZ k s.2.2
    · exact ih (by omega) z
    · exact ⟨k, k1, by omega, by omega, hq⟩
  have hbd : ∀ q, 0 ≤ q → q < sumZ s.1 s.2.2 → 0 ≤ N 83 q ∧ N 83 q ≤ 950 := by
    intro q q1 q2
    obtain ⟨j, j1, j2, j3, j4⟩ := hval q q1 q2
    have e := hr.2 j j1 j2 (q - sumZ j s.2.2) (by omega) (by omega)
    rw [show sumZ j s.2.2 + (q - sumZ j s.2.2) = q by omega] at e
    rw [e]
    exact (h.2 j j1 j2).2.1
  have hsum : sumZ (sumZ s.1 s.2.2) (fun q => if P.toPal.heat c ≤ N 83 q ∧ N 83 q ≤ P.toPal.heat c + 50 then (1 : Int) else 0) = sumZ s.1 (fun j => if P.toPal.heat c ≤ s.2.1 j then s.2.2 j else 0) := by
    rw [sum_blk (t := s.2.2) (G := fun j => if P.toPal.heat c ≤ s.2.1 j then (1 : Int) else 0) h1.1 (fun j j1 j2 => by have := (h.2 j j1 j2).1; omega)]
    · refine sumZ_congr fun j j1 j2 => ?_
      split
      · rw [Int.mul_one]
      · rw [Int.mul_zero]
    · intro j j1 j2 i i1 i2
      have hle := (h.2 j j1 j2).2.2 c hc.1 hc.2 hbit
      rw [hr.2 j j1 j2 i i1 i2]
      by_cases z : P.toPal.heat c ≤ s.2.1 j
      · rw [if_pos ⟨z, hle⟩, if_pos z]
      · rw [if_neg (fun w => z w.1), if_neg z]
  have h0 := loopZ (a := 0) (n := sumZ s.1 s.2.2) (Q := fun q => Ev 2 281 115 [some (.ref 59), some (.int (J b)), some (.int (J g)), some (.int (J tn)), some (.int (J c)), some (.int (J (sumZ q (fun q => if P.toPal.heat c ≤ N 83 q ∧ N 83 q ≤ P.toPal.heat c + 50 then (1 : Int) else 0)))), some (.int (J q))] [] (hs E (jm N)) res) hT.1 ?_ ?_
  · exact h0
  · refine v281_115 ?_
    rw [hr.1, hsum]
    exact ⟨by omega, by omega, fun _ => hend, fun z => absurd (Int.le_refl _) z⟩
  · intro q q1 q2 ih
    have hb := hbd q q1 q2
    rw [sumZ_succ q1] at ih
    refine v281_115 ?_
    rw [hr.1, hR.heat]
    refine ⟨by omega, by omega, fun z => absurd z (by omega), fun _ => ⟨by omega, hc, by omega, by omega, by omega, fun z => ?_, fun z => ?_⟩⟩
    · rw [z] at ih
      exact ih
    · have e : (if P.toPal.heat c ≤ N 83 q ∧ N 83 q ≤ P.toPal.heat c + 50 then (1 : Int) else 0) = 1 := by
        split
        · rfl
        · rename_i w
          rw [if_neg w] at z
          exact absurd rfl z
      rw [e] at ih
      exact ih
/-- new firings for a colour -/
theorem r281_177 {n m c b g tn : Int} {s : PS} (hI : PicOK P) (hR : RefOK P N) (h : wsP P n m s) (hn : n < 8) (hr : rpM N s) (hc : 0 ≤ c ∧ c < 8) {Q : NM → Prop}
    (hend : ∀ N1, rpM N1 (srvZ P c s) → RefOK P N1 → sRfp N N1 → ∃ N', Q N' ∧ Ev 2 281 9 [some (.ref 59), some (.int (J b)), some (.int (J g)), some (.int (J (tn + 1))), none, none, none] [] (hs E (jm N1)) (none, hs E (jm N'))) :
    ∃ N', Q N' ∧ Ev 2 281 177 [some (.ref 59), some (.int (J b)), some (.int (J g)), some (.int (J tn)), some (.int (J c)), none, some (.int (J (sumZ s.1 (fun j => if P.toPal.heat c ≤ s.2.1 j then s.2.2 j else 0))))] [] (hs E (jm N)) (none, hs E (jm N')) := by
  have h1 := h.1
  have hf := filZ_bd hI hc
  have hlb := lk_bd hI h (by omega) hc (i := s.1) ⟨h1.1, Int.le_refl _⟩
  have hT := T_bd h (by omega) (k := s.1) ⟨h1.1, Int.le_refl _⟩
  have hel : lackZ P c s = filZ P c - sumZ s.1 (fun j => if P.toPal.heat c ≤ s.2.1 j then s.2.2 j else 0) := rfl
  generalize sumZ s.1 (fun j => if P.toPal.heat c ≤ s.2.1 j then s.2.2 j else 0) = W at hlb hel ⊢
  by_cases hl : 0 < lackZ P c s
  · have key := loopZ (a := 0) (n := lackZ P c s) (Q := fun a => ∀ N1, RefOK P N1 → sRfp N N1 → N1 59 33 = sumZ s.1 s.2.2 + a → (∀ q, 0 ≤ q → q < sumZ s.1 s.2.2 → N1 83 q = N 83 q) → (∀ q, 0 ≤ q → q < a → N1 83 (sumZ s.1 s.2.2 + q) = P.toPal.heat c + 50) → ∃ N', Q N' ∧ Ev 2 281 177 [some (.ref 59), some (.int (J b)), some (.int (J g)), some (.int (J tn)), some (.int (J c)), none, some (.int (J (W + a)))] [] (hs E (jm N1)) (none, hs E (jm N'))) (by omega) ?_ ?_
    · obtain ⟨N', k1, k2⟩ := key N hR (fun _ _ => rfl) (by rw [Int.add_zero]; exact hr.1) (fun _ _ _ => rfl) (fun q a b => absurd b (by omega))
      rw [Int.add_zero] at k2
      exact ⟨N', k1, k2⟩
    · intro N1 r1 s1 e1 e2 e3
      have hq9 := hend N1 ?_ r1 s1
      · obtain ⟨N', k1, k2⟩ := hq9
        refine ⟨N', k1, v281_177 ⟨_, sp279 hI r1 hc, by omega, by omega, fun _ => k2, fun z => absurd (by omega) z⟩⟩
      · unfold srvZ
        rw [if_pos hl]
        have hT' : ∀ j, j ≤ s.1 → sumZ j (updZ s.2.2 s.1 (lackZ P c s)) = sumZ j s.2.2 := fun j hj => sumZ_congr fun k k1 k2 => updZ_n (by omega)
        refine ⟨?_, fun j j1 j2 i i1 i2 => ?_⟩
        · show N1 59 33 = sumZ (s.1 + 1) (updZ s.2.2 s.1 (lackZ P c s))
          rw [sumZ_succ h1.1, hT' s.1 (Int.le_refl _), updZ_s]
          exact e1
        · replace j2 : j < s.1 + 1 := j2
          replace i2 : i < updZ s.2.2 s.1 (lackZ P c s) j := i2
          show N1 83 (sumZ j (updZ s.2.2 s.1 (lackZ P c s)) + i) = updZ s.2.1 s.1 (P.toPal.heat c + 50) j
          rw [hT' j (by omega)]
          by_cases q : j = s.1
          · rw [q, updZ_s] at i2
            rw [q, updZ_s]
            exact e3 i i1 i2
          · rw [updZ_n q] at i2
            rw [updZ_n q]
            have hm := T_mono h j1 (k := s.1) (by omega) (Int.le_refl _)
            have hb0 := T_bd h (by omega) (k := j) (by omega)
            rw [e2 _ (by omega) (by omega)]
            exact hr.2 j j1 (by omega) i i1 i2
    · intro a a1 a2 ih N1 r1 s1 e1 e2 e3
      have r2 : RefOK P (upZ (upZ N1 83 (updZ (N1 83) (N1 59 33) (P.toPal.heat c + 50))) 59 (updZ (N1 59) 33 (N1 59 33 + 1))) := by (refine RefOK.mk ?_ ?_ ?_ ?_ ?_ ?_ ?_ ?_ ?_ ?_ ?_ ?_ ?_ ?_ ?_ ?_ ?_ ?_ ?_ ?_ ?_ ?_ ?_ ?_ ?_ ?_ ?_ <;> simp [Pic.setGeo, Pic.setPag, Pic.setPal, Pic.setGla, Pic.setTen, Pic.setRod, Pic.mk, Pic.toGeo, Pic.toPag, Pic.toPal, Pic.toGla, Pic.toTen, Pic.toRod, Geo.mk, Geo.w, Geo.h, Geo.ws, Geo.px, Geo.py, Geo.mv, Geo.laid, Geo.sold, Pag.mk, Pag.pm, Pag.pg, Pal.mk, Pal.wall, Pal.stiff, Pal.bear, Pal.heat, Pal.shr, Pal.pul, Pal.foe, Gla.mk, Gla.fires, Gla.lay, Gla.col, Gla.thk, Gla.sta, Ten.mk, Ten.bc, Ten.bt, Rod.mk, Rod.rods, Rod.rl, Rod.rm, upZ, updZ, (r1).w, (r1).h, (r1).pm, (r1).ws, (r1).wall, (r1).stiff, (r1).bear, (r1).fires, (r1).bc, (r1).bt, (r1).rods, (r1).pg, (r1).px, (r1).py, (r1).mv, (r1).laid, (r1).sold, (r1).heat, (r1).shr, (r1).pul, (r1).foe, (r1).lay, (r1).col, (r1).thk, (r1).sta, (r1).rl, (r1).rm])
      have hq9 := ih (upZ (upZ N1 83 (updZ (N1 83) (N1 59 33) (P.toPal.heat c + 50))) 59 (updZ (N1 59) 33 (N1 59 33 + 1))) r2 (fun q hq => by rw [upZ_n (by omega), upZ_n (by omega)]; exact s1 q hq) ?_ ?_ ?_
      · obtain ⟨N', k1, k2⟩ := hq9
        refine ⟨N', k1, v281_177 ⟨_, sp279 hI r1 hc, by omega, by omega, fun z => absurd z (by omega), fun _ => ⟨hc, by omega, ?_⟩⟩⟩
        rw [r1.heat, Int.add_assoc]
        exact k2
      · show updZ (N1 59) 33 (N1 59 33 + 1) 33 = _
        rw [updZ_s, e1]
        omega
      · intro q q1 q2
        show updZ (N1 83) (N1 59 33) (P.toPal.heat c + 50) q = _
        rw [updZ_n (by omega)]
        exact e2 q q1 q2
      · intro q q1 q2
        show updZ (N1 83) (N1 59 33) (P.toPal.heat c + 50) (sumZ s.1 s.2.2 + q) = _
        by_cases z : q = a
        · rw [z, e1, updZ_s]
        · rw [updZ_n (by omega)]
          exact e3 q q1 (by omega)
  · obtain ⟨N', k1, k2⟩ := hend N (by unfold srvZ; rw [if_neg hl]; exact hr) hR (fun _ _ => rfl)
    exact ⟨N', k1, v281_177 ⟨_, sp279 hI hR hc, by omega, by omega, fun _ => k2, fun z => absurd (by omega) z⟩⟩
/-- chosen so far, from above -/
def selA (P : Pic) (S : Int → Prop) (k c : Int) : Prop := (c = -1 ∧ ∀ j, k ≤ j → j < 8 → ¬ S j) ∨ (k ≤ c ∧ c < 8 ∧ S c ∧ ∀ j, k ≤ j → j < 8 → S j → (P.toPal.heat c < P.toPal.heat j ∨ (P.toPal.heat c = P.toPal.heat j ∧ c ≤ j)))
theorem r281_22 {b g m tn : Int} {res : Option Value × gw_H} (hI : PicOK P) (hR : RefOK P N) (hb : 0 ≤ b ∧ b < 256) (hg : 0 ≤ g ∧ g < 256) (hm : ∀ k, 0 ≤ k → k < 8 → (bitZ m k = 1 ↔ bitZ b k = 1 ∧ bitZ g k = 0))
    (hend : ∀ c, selA P (fun j => bitZ m j = 1) 0 c → Ev 2 281 22 [some (.ref 59), some (.int (J b)), some (.int (J g)), some (.int (J tn)), some (.int (J c)), some (.int (J (-1))), none] [] (hs E (jm N)) res) : Ev 2 281 22 [some (.ref 59), some (.int (J b)), some (.int (J g)), some (.int (J tn)), some (.int (J (-1))), some (.int (J 7)), none] [] (hs E (jm N)) res := by
  have h0 := loopZ (a := 0) (n := 8) (Q := fun i => ∀ c, selA P (fun j => bitZ m j = 1) (8 - i) c → Ev 2 281 22 [some (.ref 59), some (.int (J b)), some (.int (J g)), some (.int (J tn)), some (.int (J c)), some (.int (J (7 - i))), none] [] (hs E (jm N)) res) (by decide) ?_ ?_
  · exact h0 (-1) (Or.inl ⟨rfl, fun j a c => by omega⟩)
  · intro c hc
    exact hend c hc
  · intro i i1 i2 ih c hc
    have hk : 0 ≤ 7 - i ∧ 7 - i < 8 := by omega
    have hh := hI.pal.heat (7 - i) hk.1 hk.2
    have zb := zbit hb hk
    have zg := zbit hg hk
    have hgk : bitZ g (7 - i) = 0 ∨ bitZ g (7 - i) = 1 := by unfold bitZ; omega
    have hmk := hm (7 - i) hk.1 hk.2
    have go : ¬ bitZ m (7 - i) = 1 → Ev 2 281 22 [some (.ref 59), some (.int (J b)), some (.int (J g)), some (.int (J tn)), some (.int (J c)), some (.int (J (7 - i + (-1)))), none] [] (hs E (jm N)) res := by
      intro hn
      rw [show 7 - i + (-1) = 7 - (i + 1) by omega]
      refine ih c ?_
      rcases hc with ⟨c1, c2⟩ | ⟨c1, c2, c3, c4⟩
      · refine Or.inl ⟨c1, fun j j1 j2 => ?_⟩
        by_cases q : j = 7 - i
        · rw [q]; exact hn
        · exact c2 j (by omega) j2
      · refine Or.inr ⟨by omega, c2, c3, fun j j1 j2 hj => ?_⟩
        by_cases q : j = 7 - i
        · rw [q] at hj
          exact absurd hj hn
        · exact c4 j (by omega) j2 hj
    have tk : bitZ m (7 - i) = 1 → (¬ c = -1 → P.toPal.heat (7 - i) ≤ P.toPal.heat c) → Ev 2 281 22 [some (.ref 59), some (.int (J b)), some (.int (J g)), some (.int (J tn)), some (.int (J (7 - i))), some (.int (J (7 - i + (-1)))), none] [] (hs E (jm N)) res := by
      intro hs1 hle
      rw [show 7 - i + (-1) = 7 - (i + 1) by omega]
      refine ih (7 - i) (Or.inr ⟨by omega, by omega, hs1, fun j j1 j2 hj => ?_⟩)
      by_cases q : j = 7 - i
      · rw [q]; exact Or.inr ⟨rfl, Int.le_refl _⟩
      · rcases hc with ⟨c1, c2⟩ | ⟨c1, c2, c3, c4⟩
        · exact absurd hj (c2 j (by omega) j2)
        · have := c4 j (by omega) j2 hj
          have := hle (by omega)
          omega
    have kp : bitZ m (7 - i) = 1 → ¬ c = -1 → P.toPal.heat c < P.toPal.heat (7 - i) → Ev 2 281 22 [some (.ref 59), some (.int (J b)), some (.int (J g)), some (.int (J tn)), some (.int (J c)), some (.int (J (7 - i + (-1)))), none] [] (hs E (jm N)) res := by
      intro hs1 hn hlt
      rw [show 7 - i + (-1) = 7 - (i + 1) by omega]
      rcases hc with ⟨c1, c2⟩ | ⟨c1, c2, c3, c4⟩
      · exact absurd c1 hn
      · refine ih c (Or.inr ⟨by omega, c2, c3, fun j j1 j2 hj => ?_⟩)
        by_cases q : j = 7 - i
        · rw [q]; exact Or.inl hlt
        · exact c4 j (by omega) j2 hj
    have hcb : c = -1 ∨ (0 ≤ c ∧ c < 8 ∧ 1 ≤ P.toPal.heat c ∧ P.toPal.heat c ≤ 900) := by
      rcases hc with ⟨c1, c2⟩ | ⟨c1, c2, c3, c4⟩
      · exact Or.inl c1
      · have := hI.pal.heat c (by omega) c2
        exact Or.inr ⟨by omega, c2, this.1, this.2⟩
    refine v281_22 ?_
    rw [zb, zg, hR.heat]
    refine ⟨by omega, fun z => absurd z (by omega), fun _ => ⟨fun b1 => ⟨fun g0 => ⟨by omega, fun z => tk (hmk.mpr ⟨b1, g0⟩) (fun w => absurd z w), fun z => ⟨hk, by omega, by omega, by omega, fun w => kp (hmk.mpr ⟨b1, g0⟩) z w, fun w => tk (hmk.mpr ⟨b1, g0⟩) (fun _ => by omega)⟩⟩, fun g0 => go (fun z => g0 (hmk.mp z).2)⟩, fun b1 => go (fun z => b1 (hmk.mp z).1)⟩⟩
theorem sp281 {b : Int} (hI : PicOK P) (hR : RefOK P N) (hb : 0 ≤ b ∧ b < 256) : ∃ N', Rn 281 [.ref 59, .int (J b)] (hs E (jm N)) none (hs E (jm N')) ∧ rpM N' (plnZ P b) ∧ RefOK P N' ∧ sRfp N N' := by
  have key := loopZ (a := 0) (n := 8) (Q := fun tn => ∀ (g m : Int) (s : PS) (N1 : NM), (0 ≤ g ∧ g < 256) → (0 ≤ m ∧ m < 256) → (∀ k, 0 ≤ k → k < 8 → (bitZ m k = 1 ↔ bitZ b k = 1 ∧ bitZ g k = 0)) → wsP P tn m s → rpM N1 s → RefOK P N1 → sRfp N N1 → ∃ N', (rpM N' (plN P (8 - tn).toNat m s) ∧ RefOK P N' ∧ sRfp N N') ∧ Ev 2 281 9 [some (.ref 59), some (.int (J b)), some (.int (J g)), some (.int (J tn)), none, none, none] [] (hs E (jm N1)) (none, hs E (jm N'))) (by decide) ?_ ?_
  · have r0 : RefOK P (upZ N 59 (updZ (N 59) 33 0)) := by (refine RefOK.mk ?_ ?_ ?_ ?_ ?_ ?_ ?_ ?_ ?_ ?_ ?_ ?_ ?_ ?_ ?_ ?_ ?_ ?_ ?_ ?_ ?_ ?_ ?_ ?_ ?_ ?_ ?_ <;> simp [Pic.setGeo, Pic.setPag, Pic.setPal, Pic.setGla, Pic.setTen, Pic.setRod, Pic.mk, Pic.toGeo, Pic.toPag, Pic.toPal, Pic.toGla, Pic.toTen, Pic.toRod, Geo.mk, Geo.w, Geo.h, Geo.ws, Geo.px, Geo.py, Geo.mv, Geo.laid, Geo.sold, Pag.mk, Pag.pm, Pag.pg, Pal.mk, Pal.wall, Pal.stiff, Pal.bear, Pal.heat, Pal.shr, Pal.pul, Pal.foe, Gla.mk, Gla.fires, Gla.lay, Gla.col, Gla.thk, Gla.sta, Ten.mk, Ten.bc, Ten.bt, Rod.mk, Rod.rods, Rod.rl, Rod.rm, upZ, updZ, (hR).w, (hR).h, (hR).pm, (hR).ws, (hR).wall, (hR).stiff, (hR).bear, (hR).fires, (hR).bc, (hR).bt, (hR).rods, (hR).pg, (hR).px, (hR).py, (hR).mv, (hR).laid, (hR).sold, (hR).heat, (hR).shr, (hR).pul, (hR).foe, (hR).lay, (hR).col, (hR).thk, (hR).sta, (hR).rl, (hR).rm])
    obtain ⟨N', k1, k2⟩ := key 0 b ((0 : Int), (fun _ => (0 : Int)), (fun _ => (0 : Int))) (upZ N 59 (updZ (N 59) 33 0)) (by decide) hb (fun k k1 k2 => ⟨fun z => ⟨z, bit00⟩, fun z => z.1⟩) ws_0 ⟨rfl, fun j j1 j2 => absurd j2 (by show ¬ j < 0; omega)⟩ r0 (fun a ha => upZ_n (by omega))
    exact ⟨N', c281 (v281_0 k2), k1⟩
  · intro g m s N1 hg hm hgm hw hr r1 s1
    exact ⟨N1, ⟨hr, r1, s1⟩, v281_9 ⟨by decide, fun _ => rfl, fun z => absurd (Int.le_refl _) z⟩⟩
  · intro tn t1 t2 ih g m s N1 hg hm hgm hw hr r1 s1
    rw [show (8 - tn).toNat = (8 - (tn + 1)).toNat + 1 by omega, plN]
    by_cases h0 : m = 0
    · rw [if_pos h0]
      have hpl : plN P (8 - (tn + 1)).toNat m s = s := by
        cases (8 - (tn + 1)).toNat with
        | zero => rfl
        | succ n => rw [plN, if_pos h0]
      obtain ⟨N', k1, k2⟩ := ih g m s N1 hg hm hgm ⟨⟨hw.1.1, by have := hw.1; omega⟩, hw.2⟩ hr r1 s1
      rw [hpl] at k1
      refine ⟨N', k1, v281_9 ⟨by omega, fun z => absurd z (by omega), fun _ => ?_⟩⟩
      refine r281_22 hI r1 hb hg hgm ?_
      intro c hc
      rcases hc with ⟨c1, c2⟩ | ⟨c1, c2, c3, c4⟩
      · rw [c1]
        exact v281_22 ⟨by decide, fun _ => ⟨by decide, fun _ => k2, fun z => absurd rfl z⟩, fun z => absurd (by decide) z⟩
      · have c3' : bitZ m c = 1 := c3
        rw [h0, bit00] at c3'
        exact absurd c3' (by decide)
    · rw [if_neg h0]
      have hsel := selZ_is hI hm h0
      have hc : 0 ≤ selZ P m ∧ selZ P m < 8 := ⟨hsel.1, hsel.2.1⟩
      obtain ⟨w1, w2, w3⟩ := ws_step hI hw t2 hm h0
      obtain ⟨z1, z2⟩ := zset hg hc
      have hgm' : ∀ k, 0 ≤ k → k < 8 → (bitZ (clrZ m (selZ P m)) k = 1 ↔ bitZ b k = 1 ∧ bitZ (zor g (zshl 1 (selZ P m))) k = 0) := by
        intro k k1 k2
        rw [w3 k k1 k2, z2 k k1 k2]
        by_cases q : k = selZ P m
        · rw [if_pos q, if_pos q]
          exact ⟨fun z => absurd z (by decide), fun z => absurd z.2 (by decide)⟩
        · rw [if_neg q, if_neg q]
          exact hgm k k1 k2
      obtain ⟨N', k1, k2⟩ := r281_177 (E := E) (b := b) (g := zor g (zshl 1 (selZ P m))) (tn := tn) hI r1 hw t2 hr hc (Q := fun N' => rpM N' (plN P (8 - (tn + 1)).toNat (clrZ m (selZ P m)) (srvZ P (selZ P m) s)) ∧ RefOK P N' ∧ sRfp N N') (fun N2 p2 r2 s2 => ih _ _ _ N2 z1 w2 hgm' w1 p2 r2 (fun a ha => (s2 a ha).trans (s1 a ha)))
      refine ⟨N', k1, v281_9 ⟨by omega, fun z => absurd z (by omega), fun _ => ?_⟩⟩
      refine r281_22 hI r1 hb hg hgm ?_
      intro c hcs
      rcases hcs with ⟨c1, c2⟩ | ⟨c1, c2, c3, c4⟩
      · exact absurd (bit0 hm (fun j j1 j2 => c2 j j1 j2)) h0
      · have ec : c = selZ P m := sel_eq (S := fun j => bitZ m j = 1) ⟨c1, c2, c3, c4⟩ hsel
        rw [ec]
        refine v281_22 ⟨by decide, fun _ => ⟨by omega, fun z => by omega, fun _ => ?_⟩, fun z => absurd (by decide) z⟩
        exact r281_115 hI r1 hw t2 hr hc hsel.2.2.1 k2
theorem op_plan {x1 : Int} (hI : GInv P N) (h1 : R x1) : Both E N 188 282 [.int (J x1)] := by
  by_cases hx : 0 ≤ x1 ∧ x1 ≤ 255
  · obtain ⟨m', hw⟩ := pl_ws (P := P) hI.ok 8 0 x1 _ ws_0 (Int.le_refl _) (by decide) (by omega)
    refine both_q (r := .int (J (sumZ (plnZ P x1).1 (plnZ P x1).2.2))) hI ?_ ?_
    · obtain ⟨N1, r1, p1, s1⟩ := sp112 (E := E) (m := x1) hI.ok hI.cls.pal (by omega)
      refine ⟨N1, c188 (v188_0 ?_), fun a ha => s1 a (by unfold clsC at ha; rw [decide_eq_true_eq] at ha; omega)⟩
      simp only [G111]
      rw [if_neg (by omega), if_neg (by omega)]
      exact ⟨by unfold Q111; (repeat' (first | omega | exact True.intro | exact absurd True.intro ‹¬ True› | apply And.intro | intro _)), by decide, fun z => absurd z (by decide), fun _ => ⟨N1, r1, _, sp115 p1 hw (by decide), rfl⟩⟩
    · intro N hR
      obtain ⟨N1, r1, p1, k1, s1⟩ := sp281 (E := E) (b := x1) hI.ok hR (by omega)
      refine ⟨N1, c282 (v282_0 ?_), k1, s1⟩
      rw [if_pos hx]
      refine ⟨h1, fun z => absurd z (by decide), fun _ => ⟨N1, r1, ?_⟩⟩
      rw [p1.1]
  · refine both_same (r := .int (J (-102))) hI (c188 (v188_0 ?_)) (c282 (v282_0 ?_))
    · simp only [G111]
      unfold Q111
      ((repeat' (first | omega | exact True.intro | exact absurd True.intro ‹¬ True› | apply And.intro | intro _)) <;> rfl)
    · rw [if_neg hx]
      exact ⟨h1, fun _ => rfl, fun z => absurd rfl z⟩
theorem op_heat {x1 x2 : Int} (hI : GInv P N) (h1 : R x1) (h2 : R x2) : Both E N 189 283 [.int (J x1), .int (J x2)] := by
  by_cases hx : 0 ≤ x1 ∧ x1 ≤ 255
  · obtain ⟨m', hw⟩ := pl_ws (P := P) hI.ok 8 0 x1 _ ws_0 (Int.le_refl _) (by decide) (by omega)
    refine both_q (r := .int (J (heZ (plnZ P x1) x2))) hI ?_ ?_
    · obtain ⟨N1, r1, p1, s1⟩ := sp112 (E := E) (m := x1) hI.ok hI.cls.pal (by omega)
      refine ⟨N1, c189 (v189_0 ?_), fun a ha => s1 a (by unfold clsC at ha; rw [decide_eq_true_eq] at ha; omega)⟩
      simp only [G111]
      rw [if_neg (by omega), if_neg (by omega)]
      exact ⟨by unfold Q111; (repeat' (first | omega | exact True.intro | exact absurd True.intro ‹¬ True› | apply And.intro | intro _)), by decide, fun z => absurd z (by decide), fun _ => ⟨N1, r1, _, sp116 p1 hw (by decide) h2, rfl⟩⟩
    · intro N hR
      obtain ⟨N1, r1, p1, k1, s1⟩ := sp281 (E := E) (b := x1) hI.ok hR (by omega)
      have hwk : wsP P 8 m' (plnZ P x1) := hw
      have hT := T_bd hwk (by decide) (k := (plnZ P x1).1) ⟨hwk.1.1, Int.le_refl _⟩
      refine ⟨N1, c283 (v283_0 ?_), k1, s1⟩
      rw [if_pos hx]
      refine ⟨h1, fun z => absurd z (by decide), fun _ => ⟨N1, r1, ?_⟩⟩
      rw [p1.1]
      unfold heZ
      refine ⟨h2, by omega, fun z => ?_, fun z => ?_⟩
      · have hn : ¬ (0 ≤ x2 ∧ x2 ≤ sumZ (plnZ P x1).1 (plnZ P x1).2.2 - 1) := by
          intro w
          rw [if_pos w] at z
          exact absurd z (by decide)
        by_cases q : x2 < 0
        · rw [if_pos q]
        · have := he_ref (N := N1) hwk (by decide) p1 (plnZ P x1).1.toNat (by have := hwk.1; omega) x2 (by omega)
          rw [Int.toNat_of_nonneg hwk.1.1, if_neg (by omega)] at this
          rw [if_neg q, this]
      · have hn : 0 ≤ x2 ∧ x2 ≤ sumZ (plnZ P x1).1 (plnZ P x1).2.2 - 1 := by
          apply Classical.byContradiction
          intro w
          rw [if_neg w] at z
          exact absurd rfl z
        have := he_ref (N := N1) hwk (by decide) p1 (plnZ P x1).1.toNat (by have := hwk.1; omega) x2 (by omega)
        rw [Int.toNat_of_nonneg hwk.1.1, if_pos (by omega)] at this
        refine ⟨by omega, ?_⟩
        rw [if_neg (by omega), this]
  · refine both_same (r := .int (J (-102))) hI (c189 (v189_0 ?_)) (c283 (v283_0 ?_))
    · simp only [G111]
      unfold Q111
      ((repeat' (first | omega | exact True.intro | exact absurd True.intro ‹¬ True› | apply And.intro | intro _)) <;> rfl)
    · rw [if_neg hx]
      exact ⟨h1, fun _ => rfl, fun z => absurd rfl z⟩
end PLR
