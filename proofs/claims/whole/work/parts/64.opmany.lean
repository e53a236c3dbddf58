/-! many -/
section OPM
variable {E : gw_N} {N : NM} {P : Pic}
theorem op_many {x1 : Int} (hI : GInv P N) (h1 : R x1) : Both E N 171 250 [.int (J x1)] := by
  have hC := hI.cls
  have hK := hI.ok
  -- the reference, of any answer that its part gives
  have ref : ∀ (r : Int), (x1 = 0 ∨ x1 = 1 → r = cnP P.toGeo x1 81) → (x1 = 2 → r = eduZ P.toGeo 2) → (x1 = 4 → r = eduZ P.toGeo 1) → (x1 = 3 → r = floZ P.toGeo) → (x1 = 5 → r = pieZ P.toGeo) → (x1 = 6 → r = sumZ (P.toGeo.w * P.toGeo.h) (fun f => bZ (cellZ P.toGeo f = f))) → (x1 = 7 → r = grZ P.toGeo (P.toGeo.w * P.toGeo.h)) → ((x1 < 0 ∨ 7 < x1) → r = -102) →
      ∀ N, RefOK P N → QR E N P 250 [.int (J x1)] (.int (J r)) := by
    intro r r01 r2 r4 r3 r5 r6 r7 r8 N hR
    have hR2 : RefOK P (rmN P N) := hR
    have hcv : ∀ e, 0 ≤ e → e < 162 → (rmN P N) 67 e = covC P.toGeo (toC e) := fun e a b => rmN_67 hK.geo ⟨a, b⟩
    have hN : ∀ f, isF P.toGeo f → (rmN P N) 69 f = cellZ P.toGeo f := fun f hf => rmN_69 hf
    have hh : ∀ v, 0 ≤ v → v < P.toGeo.ws → (rmN P N) 66 v = bZ (heldZ P.toGeo v) := fun v a b => rmN_66 ⟨a, b⟩
    have hx : Rn 230 [.ref 59] (hs E (jm (rfN P N))) none (hs E (jm (rmN P N))) := sp230 hK (rfN_ok hR)
    by_cases h5 : x1 = 5
    · refine ⟨upZ (rmN P N) 68 (pzF P.toGeo (rmN P N 68)), c250 (v250_0 ⟨_, sp247' hK hR, _, hx, h1, fun z => by omega, fun z => by omega, fun z => by omega, fun z => by omega, fun z => by omega, fun _ => ⟨_, _, sp242 hK hR2 hcv, by rw [r5 h5]⟩, fun z => by omega, fun z => by omega, fun _ _ _ _ _ z => absurd h5 z⟩), hR, ?_⟩
      intro a ha
      rw [upZ_n (by omega)]
      exact rmN_cls a ha
    · refine ⟨rmN P N, c250 (v250_0 ⟨_, sp247' hK hR, _, hx, h1, fun z => ?_, fun z => ?_, fun z => ?_, fun z => ?_, fun z => ?_, fun z => absurd z h5, fun z => ?_, fun z => ?_, fun z0 z1 z2 z3 z4 _ z6 z7 => ?_⟩), hR, rmN_cls⟩
      · rw [r01 (Or.inl z)]
        exact r250_58 hK hR2 hcv (Or.inl z)
      · rw [r01 (Or.inr z)]
        exact r250_58 hK hR2 hcv (Or.inr z)
      · rw [r2 z]
        exact r250_146 hK hcv (Or.inl ⟨z, rfl⟩)
      · rw [r3 z]
        exact r250_190 hK hR2 hh
      · rw [r4 z]
        exact r250_146 hK hcv (Or.inr ⟨z, rfl⟩)
      · rw [r6 z]
        exact r250_239 hK hR2 hN
      · rw [r7 z]
        exact r250_275 hK hR2 hN
      · rw [r8 (by omega)]
  obtain e | e | e | e | e | e | e | e | e : x1 = 0 ∨ x1 = 1 ∨ x1 = 2 ∨ x1 = 3 ∨ x1 = 4 ∨ x1 = 5 ∨ x1 = 6 ∨ x1 = 7 ∨ (x1 < 0 ∨ 7 < x1) := by omega
  · refine both_q (r := .int (J (cnP P.toGeo 0 81))) hI (QC.same (c171 (v171_0 ⟨h1, fun _ => ⟨_, sp70 hK hC (by decide), rfl⟩, fun z => by omega, fun z => by omega, fun z => by omega, fun z => by omega, fun z => by omega, fun z => by omega, fun z => by omega, fun z => absurd e z⟩))) (ref _ (fun _ => by rw [e]) (fun z => by omega) (fun z => by omega) (fun z => by omega) (fun z => by omega) (fun z => by omega) (fun z => by omega) (fun z => by omega))
  · refine both_q (r := .int (J (cnP P.toGeo 1 81))) hI (QC.same (c171 (v171_0 ⟨h1, fun z => by omega, fun _ => ⟨_, sp70 hK hC (by decide), rfl⟩, fun z => by omega, fun z => by omega, fun z => by omega, fun z => by omega, fun z => by omega, fun z => by omega, fun _ z => absurd e z⟩))) (ref _ (fun _ => by rw [e]) (fun z => by omega) (fun z => by omega) (fun z => by omega) (fun z => by omega) (fun z => by omega) (fun z => by omega) (fun z => by omega))
  · refine both_q (r := .int (J (eduZ P.toGeo 2))) hI (QC.same (c171 (v171_0 ⟨h1, fun z => by omega, fun z => by omega, fun _ => ⟨_, sp69 hK hC (by decide), rfl⟩, fun z => by omega, fun z => by omega, fun z => by omega, fun z => by omega, fun z => by omega, fun _ _ z => absurd e z⟩))) (ref _ (fun z => by omega) (fun _ => rfl) (fun z => by omega) (fun z => by omega) (fun z => by omega) (fun z => by omega) (fun z => by omega) (fun z => by omega))
  · refine both_q (r := .int (J (floZ P.toGeo))) hI (QC.same (c171 (v171_0 ⟨h1, fun z => by omega, fun z => by omega, fun z => by omega, fun _ => ⟨_, sp65 hK hC, rfl⟩, fun z => by omega, fun z => by omega, fun z => by omega, fun z => by omega, fun _ _ _ z => absurd e z⟩))) (ref _ (fun z => by omega) (fun z => by omega) (fun z => by omega) (fun _ => rfl) (fun z => by omega) (fun z => by omega) (fun z => by omega) (fun z => by omega))
  · refine both_q (r := .int (J (eduZ P.toGeo 1))) hI (QC.same (c171 (v171_0 ⟨h1, fun z => by omega, fun z => by omega, fun z => by omega, fun z => by omega, fun _ => ⟨_, sp69 hK hC (by decide), rfl⟩, fun z => by omega, fun z => by omega, fun z => by omega, fun _ _ _ _ z => absurd e z⟩))) (ref _ (fun z => by omega) (fun z => by omega) (fun _ => rfl) (fun z => by omega) (fun z => by omega) (fun z => by omega) (fun z => by omega) (fun z => by omega))
  · obtain ⟨a, b, hr⟩ := sp75 (E := E) hK hC
    refine both_q (r := .int (J (pieZ P.toGeo))) hI ⟨mmP N a b, c171 (v171_0 ⟨h1, fun z => by omega, fun z => by omega, fun z => by omega, fun z => by omega, fun z => by omega, fun _ => ⟨_, _, hr, rfl⟩, fun z => by omega, fun z => by omega, fun _ _ _ _ _ z => absurd e z⟩), ?_⟩ (ref _ (fun z => by omega) (fun z => by omega) (fun z => by omega) (fun z => by omega) (fun _ => rfl) (fun z => by omega) (fun z => by omega) (fun z => by omega))
    intro q hq
    unfold clsC at hq
    rw [decide_eq_true_eq] at hq
    show upZ (upZ N 30 a) 31 b q = N q
    rw [upZ_n (by omega), upZ_n (by omega)]
  · refine both_q (r := .int (J (sumZ (P.toGeo.w * P.toGeo.h) (fun f => bZ (cellZ P.toGeo f = f))))) hI (QC.same (c171 (v171_0 ⟨h1, fun z => by omega, fun z => by omega, fun z => by omega, fun z => by omega, fun z => by omega, fun z => by omega, fun _ => ?_, fun z => by omega, fun _ _ _ _ _ _ z => absurd e z⟩))) (ref _ (fun z => by omega) (fun z => by omega) (fun z => by omega) (fun z => by omega) (fun z => by omega) (fun _ => rfl) (fun z => by omega) (fun z => by omega))
    rw [show G3 N = sumZ (P.toGeo.w * P.toGeo.h) (fun f => bZ (cellZ P.toGeo f = f)) from hC.cells.total]
  · refine both_q (r := .int (J (grZ P.toGeo (P.toGeo.w * P.toGeo.h)))) hI (QC.same (c171 (v171_0 ⟨h1, fun z => by omega, fun z => by omega, fun z => by omega, fun z => by omega, fun z => by omega, fun z => by omega, fun z => by omega, fun _ => ⟨_, sp7 hK hC, rfl⟩, fun _ _ _ _ _ _ _ z => absurd e z⟩))) (ref _ (fun z => by omega) (fun z => by omega) (fun z => by omega) (fun z => by omega) (fun z => by omega) (fun z => by omega) (fun _ => rfl) (fun z => by omega))
  · refine both_q (r := .int (J (-102))) hI (QC.same (c171 (v171_0 ⟨h1, fun z => by omega, fun z => by omega, fun z => by omega, fun z => by omega, fun z => by omega, fun z => by omega, fun z => by omega, fun z => by omega, fun _ _ _ _ _ _ _ _ => rfl⟩))) (ref _ (fun z => by omega) (fun z => by omega) (fun z => by omega) (fun z => by omega) (fun z => by omega) (fun z => by omega) (fun z => by omega) (fun _ => rfl))
end OPM
