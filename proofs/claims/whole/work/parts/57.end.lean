/-! the places of a sort, one by one: end -/
section END
variable {E : gw_N} {N : NM} {P : Pic} {G : Geo} {s i k n : Int}
def plP (G : Geo) (s q : Int) : Prop := isPt G (q % 9) (q / 9) ∧ plZ G s (q % 9) (q / 9)
noncomputable def cnP (G : Geo) (s k : Int) : Int := sumZ k (fun q => bZ (plP G s q))
noncomputable def enN (G : Geo) (s i : Int) : Nat → Int
  | 0 => -1
  | j + 1 => @ite Int (plP G s (80 - (j : Int)) ∧ cnP G s (80 - (j : Int)) = i) (Classical.propDecidable _) (10 * ((80 - (j : Int)) / 9) + (80 - (j : Int)) % 9) (enN G s i j)
noncomputable def enZ (G : Geo) (s i k : Int) : Int := enN G s i (81 - k).toNat
theorem enZ_81 : enZ G s i 81 = -1 := rfl
theorem enZ_t (h : 0 ≤ k ∧ k < 81) (hp : plP G s k) (hc : cnP G s k = i) : enZ G s i k = 10 * (k / 9) + k % 9 := by
  unfold enZ
  rw [show (81 - k).toNat = (80 - k).toNat + 1 by omega, enN]
  have e : 80 - (((80 - k).toNat : Nat) : Int) = k := by omega
  rw [e]
  exact if_pos ⟨hp, hc⟩
theorem enZ_f (h : 0 ≤ k ∧ k < 81) (hp : ¬ (plP G s k ∧ cnP G s k = i)) : enZ G s i k = enZ G s i (k + 1) := by
  unfold enZ
  rw [show (81 - k).toNat = (80 - k).toNat + 1 by omega, enN, show (81 - (k + 1)).toNat = (80 - k).toNat by omega]
  have e : 80 - (((80 - k).toNat : Nat) : Int) = k := by omega
  rw [e]
  exact if_neg hp
theorem enZ_skip (h : 0 ≤ k ∧ k ≤ n ∧ n ≤ 81) (hq : ∀ q, k ≤ q → q < n → ¬ plP G s q) : enZ G s i k = enZ G s i n := by
  refine loopZ (a := k) (n := n) (Q := fun k => enZ G s i k = enZ G s i n) h.2.1 rfl ?_
  intro j j1 j2 ih
  rw [enZ_f (by omega) (fun z => hq j j1 j2 z.1)]
  exact ih
theorem cnP_skip (h : 0 ≤ k ∧ k ≤ n) (hq : ∀ q, k ≤ q → q < n → ¬ plP G s q) : cnP G s n = cnP G s k := by
  unfold cnP
  rw [show n = k + (n - k) by omega, sumZ_split h.1 (by omega), sumZ_zero (n := n - k) (fun j j1 j2 => bZ_f (hq (k + j) (by omega) (by omega))), Int.add_zero]
theorem cnP_bd (h : 0 ≤ k ∧ k ≤ 81) : 0 ≤ cnP G s k ∧ cnP G s k ≤ 81 := by
  have := sumZ_bd' (g := fun q => bZ (plP G s q)) (n := k) (B := 81) (c := 1) (fun _ _ _ => bZ_bd) h.1 h.2 (by decide)
  unfold cnP
  omega
theorem cnP_t (h : 0 ≤ k) (hp : plP G s k) : cnP G s (k + 1) = cnP G s k + 1 := by
  unfold cnP
  rw [sumZ_succ h, bZ_t hp]
theorem cnP_f (h : 0 ≤ k) (hp : ¬ plP G s k) : cnP G s (k + 1) = cnP G s k := by
  unfold cnP
  rw [sumZ_succ h, bZ_f hp, Int.add_zero]
theorem pl_xy {x y : Int} (hx : 0 ≤ x ∧ x < 9) : (9 * y + x) % 9 = x ∧ (9 * y + x) / 9 = y := by omega
theorem J_32 {z : Int} : J (z + 4294967296) = J z := by
  unfold J
  rw [Int32.ofInt_add, show Int32.ofInt 4294967296 = 0 by decide, Int32.add_zero]
def wr32 (z : Int) : Int := if z < -2147483648 then z + 4294967296 else z
theorem J_wr {z : Int} : J z = J (wr32 z) := by
  unfold wr32
  split
  · exact J_32.symm
  · rfl
theorem J_wr1 {z : Int} : J (wr32 z + (-1)) = J (z - 1) := by
  unfold wr32
  split
  · rw [show z + 4294967296 + (-1) = z - 1 + 4294967296 by omega]; exact J_32
  · rfl
theorem sp71 (hI : PicOK P) (hC : ClsOK P N) (hso : R s) (hi : R i) : Rn 71 [.ref 22, .int (J s), .int (J i)] (hs E (jm N)) (some (.int (J (enZ P.toGeo s i 0)))) (hs E (jm N)) := by
  have h8 := hI.geo.w
  have h9 := hI.geo.h
  have e38 : G38 N = P.toGeo.w := hC.grid.w
  have e39 : G39 N = P.toGeo.h := hC.grid.h
  have np : ∀ x y, P.toGeo.w < x → x < 9 → ¬ plP P.toGeo s (9 * y + x) := by
    intro x y x1 x2 z
    have e := pl_xy (x := x) (y := y) (by omega)
    have := z.1
    rw [e.1, e.2] at this
    unfold isPt at this
    omega
  have npy : ∀ q, 9 * (P.toGeo.h + 1) ≤ q → ¬ plP P.toGeo s q := by
    intro q q1 z
    have := z.1
    unfold isPt at this
    omega
  refine c71 (v71_0 ?_)
  have h0 := loopZ (a := 0) (n := P.toGeo.h + 1) (Q := fun y => Ev 7 71 5 [some (.ref 22), some (.int (J s)), none, some (.int (J (i - cnP P.toGeo s (9 * y)))), some (.int (J y)), none] [] (hs E (jm N)) (some (.int (J (enZ P.toGeo s i (9 * y)))), (hs E (jm N)))) (by omega) ?_ ?_
  · have e : cnP P.toGeo s (9 * 0) = 0 := rfl
    rw [e, Int.sub_zero] at h0
    exact h0
  · refine v71_5 ?_
    rw [e39]
    refine ⟨by omega, by omega, fun _ => ?_, fun z => absurd (by omega) z⟩
    rw [enZ_skip (n := 81) (by omega) (fun q q1 _ => npy q q1), enZ_81]
  · intro y y1 y2 ih
    refine v71_5 ?_
    rw [e39]
    refine ⟨by omega, by omega, fun z => absurd z (by omega), fun _ => ?_⟩
    have h1 := loopZ (a := 0) (n := P.toGeo.w + 1) (Q := fun x => Ev 7 71 20 [some (.ref 22), some (.int (J s)), none, some (.int (J (i - cnP P.toGeo s (9 * y + x)))), some (.int (J y)), some (.int (J x))] [] (hs E (jm N)) (some (.int (J (enZ P.toGeo s i (9 * y + x)))), (hs E (jm N)))) (by omega) ?_ ?_
    · rw [Int.add_zero] at h1
      exact h1
    · refine v71_20 ?_
      rw [e38]
      refine ⟨by omega, by omega, fun _ => ?_, fun z => absurd (by omega) z⟩
      have hk : ∀ q, 9 * y + (P.toGeo.w + 1) ≤ q → q < 9 * (y + 1) → ¬ plP P.toGeo s q := by
        intro q q1 q2
        have := np (q - 9 * y) y (by omega) (by omega)
        rwa [show 9 * y + (q - 9 * y) = q by omega] at this
      rw [enZ_skip (n := 9 * (y + 1)) (by omega) hk, ← cnP_skip (n := 9 * (y + 1)) (by omega) hk]
      exact ih
    · intro x x1 x2 ih2
      have hp : isPt P.toGeo x y := ⟨x1, by omega, y1, by omega⟩
      have e := pl_xy (x := x) (y := y) (by omega)
      have hcb := cnP_bd (G := P.toGeo) (s := s) (k := 9 * y + x) (by omega)
      have hiff : plP P.toGeo s (9 * y + x) ↔ plZ P.toGeo s x y := by
        unfold plP
        rw [e.1, e.2]
        exact ⟨fun z => z.2, fun z => ⟨hp, z⟩⟩
      have m1 := bZ_01 (p := plZ P.toGeo s x y)
      rw [J_wr (z := i - cnP P.toGeo s (9 * y + x))]
      refine v71_20 ?_
      rw [e38]
      refine ⟨by omega, by omega, fun z => absurd z (by omega), fun _ => ⟨_, sp72 hI hC hso hp, by omega, fun z => ?_, fun z => ⟨?_, fun w => ?_, fun w => ?_⟩⟩⟩
      · have hn : ¬ plP P.toGeo s (9 * y + x) := fun q => bZ_0.mp z (hiff.mp q)
        rw [← J_wr (z := i - cnP P.toGeo s (9 * y + x)), enZ_f (by omega) (fun q => hn q.1), ← cnP_f (by omega) hn, Int.add_assoc]
        exact ih2
      · unfold wr32
        split <;> omega
      · have hn : plP P.toGeo s (9 * y + x) := hiff.mpr (bZ_1.mp (by omega))
        have hc : cnP P.toGeo s (9 * y + x) = i := by
          unfold wr32 at w
          split at w <;> omega
        rw [enZ_t (by omega) hn hc, e.1, e.2]
        rfl
      · have hn : plP P.toGeo s (9 * y + x) := hiff.mpr (bZ_1.mp (by omega))
        have hc : ¬ cnP P.toGeo s (9 * y + x) = i := by
          unfold wr32 at w
          split at w <;> omega
        rw [J_wr1, enZ_f (by omega) (fun q => hc q.2), show i - cnP P.toGeo s (9 * y + x) - 1 = i - (cnP P.toGeo s (9 * y + x) + 1) by omega, ← cnP_t (by omega) hn, Int.add_assoc]
        exact ih2
theorem sp251 (hI : PicOK P) (hR : RefOK P N) (hso : s = 0 ∨ s = 1) (hi : R i) : Rn 251 [.ref 59, .int (J s), .int (J i)] (hs E (jm N)) (some (.int (J (enZ P.toGeo s i 0)))) (hs E (jm (upZ N 67 (covF P.toGeo (N 67) P.toGeo.ws 0)))) := by
  have h8 := hI.geo.w
  have h9 := hI.geo.h
  refine c251 (v251_0 ⟨by omega, fun z => ?_, fun _ => ⟨_, sp237 hI hR, ?_⟩⟩)
  · rw [if_pos (by omega)] at z
    exact absurd z (by decide)
  have hcv : ∀ e, 0 ≤ e → e < 162 → (upZ N 67 (covF P.toGeo (N 67) P.toGeo.ws 0)) 67 e = covC P.toGeo (toC e) := fun e a b => covF_C hI.geo ⟨a, b⟩
  have hR' : RefOK P (upZ N 67 (covF P.toGeo (N 67) P.toGeo.ws 0)) := hR
  generalize upZ N 67 (covF P.toGeo (N 67) P.toGeo.ws 0) = N' at *
  have h0 := loopZ (a := 0) (n := 81) (Q := fun p => Ev 6 251 22 [some (.ref 59), some (.int (J s)), some (.int (J i)), some (.int (J (cnP P.toGeo s p))), some (.int (J p))] [] (hs E (jm N')) (some (.int (J (enZ P.toGeo s i p))), (hs E (jm N')))) (by decide) ?_ ?_
  · exact h0
  · refine v251_22 ?_
    exact ⟨by decide, fun _ => by rw [enZ_81], fun z => absurd (Int.le_refl _) z⟩
  · intro p p1 p2 ih
    have et : Int.tmod p 9 = p % 9 := Int.tmod_eq_emod_of_nonneg p1
    have ed : Int.tdiv p 9 = p / 9 := Int.tdiv_eq_ediv_of_nonneg p1
    have hcb := cnP_bd (G := P.toGeo) (s := s) (k := p) (by omega)
    obtain ⟨b1, b2⟩ := r214 hI hR' (a := p % 9) (b := p / 9) (by omega) (by omega)
    have m1 := bZ_01 (p := isPt P.toGeo (p % 9) (p / 9))
    have m2 := bZ_01 (p := plZ P.toGeo s (p % 9) (p / 9))
    have go : ¬ plP P.toGeo s p → Ev 6 251 22 [some (.ref 59), some (.int (J s)), some (.int (J i)), some (.int (J (cnP P.toGeo s p))), some (.int (J (p + 1)))] [] (hs E (jm N')) (some (.int (J (enZ P.toGeo s i p))), (hs E (jm N'))) := by
      intro hn
      rw [enZ_f (by omega) (fun q => hn q.1), ← cnP_f p1 hn]
      exact ih
    have hit : plP P.toGeo s p → (cnP P.toGeo s p = i → ((some (Value.int (J (enZ P.toGeo s i p))), (hs E (jm N'))) : Option Value × gw_H) = (some (.int (J (10 * (p / 9) + p % 9))), (hs E (jm N')))) ∧ (¬ cnP P.toGeo s p = i → Ev 6 251 22 [some (.ref 59), some (.int (J s)), some (.int (J i)), some (.int (J (cnP P.toGeo s p + 1))), some (.int (J (p + 1)))] [] (hs E (jm N')) (some (.int (J (enZ P.toGeo s i p))), (hs E (jm N')))) := by
      intro hn
      refine ⟨fun w => by rw [enZ_t ⟨p1, p2⟩ hn w], fun w => ?_⟩
      rw [enZ_f ⟨p1, p2⟩ (fun q => w q.2), ← cnP_t p1 hn]
      exact ih
    refine v251_22 ?_
    rw [et, ed, b1]
    refine ⟨by omega, fun z => absurd z (by omega), fun _ => ⟨b2, by omega, fun z => go (fun q => bZ_0.mp z q.1), fun z => ⟨by omega, fun s0 => ?_, fun s0 => ?_⟩⟩⟩
    · have hp : isPt P.toGeo (p % 9) (p / 9) := bZ_1.mp (by omega)
      obtain ⟨d1, d2⟩ := r240 hI hR' hcv hp
      rw [d1, show bZ (plZ P.toGeo 0 (p % 9) (p / 9)) = bZ (plZ P.toGeo s (p % 9) (p / 9)) by rw [s0]]
      refine ⟨d2, by omega, fun w => go (fun q => bZ_0.mp w q.2), fun w => ⟨by omega, hi, ?_⟩⟩
      exact hit ⟨hp, bZ_1.mp (by omega)⟩
    · have hp : isPt P.toGeo (p % 9) (p / 9) := bZ_1.mp (by omega)
      have hp' := hp
      unfold isPt at hp'
      have s1 : s = 1 := by omega
      have e : bZ (2 ≤ comC P.toGeo (10 * (p / 9) + p % 9)) = bZ (plZ P.toGeo s (p % 9) (p / 9)) := by
        refine bZ_congr ⟨fun q => Or.inl ⟨s1, q⟩, fun q => ?_⟩
        rcases q with q | q
        · exact q.2
        · exact absurd s1 q.1
      have hj := sp241 (E := E) hI hR' (x := p % 9) (y := p / 9) (by omega) (by omega)
      rw [e] at hj
      refine ⟨_, hj, by omega, fun w => go (fun q => bZ_0.mp w q.2), fun w => ⟨by omega, hi, ?_⟩⟩
      exact hit ⟨hp, bZ_1.mp (by omega)⟩
theorem op_end {x1 x2 : Int} (hI : GInv P N) (h1 : R x1) (h2 : R x2) : Both E N 172 251 [.int (J x1), .int (J x2)] := by
  by_cases hx : x1 = 0 ∨ x1 = 1
  · refine both_q (r := .int (J (enZ P.toGeo x1 x2 0))) hI (QC.same (c172 (v172_0 ?_))) (fun N hR => ⟨_, sp251 hI.ok hR hx h2, hR, ?_⟩)
    · have hr := sp71 (E := E) hI.ok hI.cls h1 h2
      exact ⟨h1, fun _ => ⟨_, hr, rfl⟩, fun z => ⟨fun _ => ⟨_, hr, rfl⟩, fun w => by omega⟩⟩
    · (intro a ha; repeat rw [upZ_n (by omega)])
  · refine both_same (r := .int (J (-102))) hI (c172 (v172_0 ?_)) (c251 (v251_0 ?_))
    · exact ⟨h1, fun z => absurd (Or.inl z) hx, fun z => ⟨fun w => absurd (Or.inr w) hx, fun _ => rfl⟩⟩
    · refine ⟨h1, fun _ => rfl, fun z => ?_⟩
      rw [if_neg (by omega)] at z
      exact absurd rfl z
end END
