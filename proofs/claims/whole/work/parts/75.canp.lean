/-! canPaint, step by step (it calls itself: by hand) -/
section CPW
variable {E : gw_N} {M : Mem} {res : Option Value × gw_H} {b : Nat} {x2 x3 x4 x5 : Int32}
theorem w91_0 (H : (x3 ≤ x2 → res = (some (.int 1), hs E M)) ∧ (¬ x3 ≤ x2 → (x2 < 10 → Ev b 91 16 [some (.ref 38), some (.ref 39), some (.int x2), some (.int x3), some (.int x4), some (.int 0)] [] (hs E M) res) ∧ (¬ x2 < 10 → res = (some (.int 1), hs E M)))) :
    Ev b 91 0 [some (.ref 38), some (.ref 39), some (.int x2), some (.int x3), some (.int x4), none] [] (hs E M) res := by
  refine Ev.steps 3 (pc' := if x3 ≤ x2 then 11 else 5) (L' := [some (.ref 38), some (.ref 39), some (.int x2), some (.int x3), some (.int x4), none]) (st' := []) rfl ?_
  refine Ev_ite (fun hc => ?_) (fun hc => ?_)
  · replace H := H.1 hc
    refine Ev.steps 1 (pc' := 12) (L' := [some (.ref 38), some (.ref 39), some (.int x2), some (.int x3), some (.int x4), none]) (st' := [.int 1]) rfl ?_
    subst H
    exact Ev.ret rfl
  · replace H := H.2 hc
    refine Ev.steps 3 (pc' := if x2 < 10 then 13 else 11) (L' := [some (.ref 38), some (.ref 39), some (.int x2), some (.int x3), some (.int x4), none]) (st' := []) rfl ?_
    refine Ev_ite (fun hc => ?_) (fun hc => ?_)
    · replace H := H.1 hc
      refine Ev.steps 2 (pc' := 16) (L' := [some (.ref 38), some (.ref 39), some (.int x2), some (.int x3), some (.int x4), some (.int 0)]) (st' := []) rfl ?_
      exact H
    · replace H := H.2 hc
      refine Ev.steps 1 (pc' := 12) (L' := [some (.ref 38), some (.ref 39), some (.int x2), some (.int x3), some (.int x4), none]) (st' := [.int 1]) rfl ?_
      subst H
      exact Ev.ret rfl
theorem w91_16 (h1 : 1 < b) (h2 : gw_bd 91 [.ref 38, .ref 39, .int (x2 + 1), .int x3, .int x4] < b) (H : (x4 ≤ x5 → res = (some (.int 0), hs E M)) ∧ (¬ x4 ≤ x5 → inb x2 10 ∧ ∃ r1 : Int32, Rn 92 [.int ((M 38) x2.toNatClampNeg), .ref 39, .int x2, .int x5] (hs E M) (some (.int r1)) (hs E M) ∧
    (r1 = 0 → Ev b 91 16 [some (.ref 38), some (.ref 39), some (.int x2), some (.int x3), some (.int x4), some (.int (x5 + 1))] [] (hs E M) res) ∧
    (¬ r1 = 0 → ∃ (r2 : Int32) (M2 : Mem), Rn 91 [.ref 38, .ref 39, .int (x2 + 1), .int x3, .int x4] (hs E (up M 39 (upd (M 39) x2.toNatClampNeg x5))) (some (.int r2)) (hs E M2) ∧
      (r2 = 0 → Ev b 91 16 [some (.ref 38), some (.ref 39), some (.int x2), some (.int x3), some (.int x4), some (.int (x5 + 1))] [] (hs E M2) res) ∧ (¬ r2 = 0 → res = (some (.int 1), hs E M2))))) :
    Ev b 91 16 [some (.ref 38), some (.ref 39), some (.int x2), some (.int x3), some (.int x4), some (.int x5)] [] (hs E M) res := by
  refine Ev.steps 3 (pc' := if x4 ≤ x5 then 63 else 23) (L' := [some (.ref 38), some (.ref 39), some (.int x2), some (.int x3), some (.int x4), some (.int x5)]) (st' := []) rfl ?_
  refine Ev_ite (fun hc => ?_) (fun hc => ?_)
  · replace H := H.1 hc
    refine Ev.steps 1 (pc' := 64) (L' := [some (.ref 38), some (.ref 39), some (.int x2), some (.int x3), some (.int x4), some (.int x5)]) (st' := [.int 0]) rfl ?_
    subst H
    exact Ev.ret rfl
  · obtain ⟨hin, r1, hr1, H1, H2⟩ := H.2 hc
    refine Ev.steps 2 (pc' := 25) (L' := [some (.ref 38), some (.ref 39), some (.int x2), some (.int x3), some (.int x4), some (.int x5)]) (st' := [.int x2, .ref 38]) rfl ?_
    refine Ev.rd (i := x2) (n := 10) (pc' := 26) (L' := [some (.ref 38), some (.ref 39), some (.int x2), some (.int x3), some (.int x4), some (.int x5)]) (st' := [.int ((M 38) x2.toNatClampNeg)]) hin rfl ?_
    refine Ev.steps 3 (pc' := 30) (L' := [some (.ref 38), some (.ref 39), some (.int x2), some (.int x3), some (.int x4), some (.int x5)]) (st' := [.int x5, .int x2, .ref 39, .int ((M 38) x2.toNatClampNeg)]) rfl ?_
    have hc1 : gw_call b 91 30 [.int x5, .int x2, .ref 39, .int ((M 38) x2.toNatClampNeg)] (hs E M) = if (1 : Nat) = 1 ∧ 4 ≤ 4 ∧ 0 ≤ 8 ∧ gw_bd 92 [.int ((M 38) x2.toNatClampNeg), .ref 39, .int x2, .int x5] < b ∧ 4 ≤ 5 ∧ true = true then some (92, [.int ((M 38) x2.toNatClampNeg), .ref 39, .int x2, .int x5], []) else none := rfl
    refine Ev.call (y := 92) (args := [.int ((M 38) x2.toNatClampNeg), .ref 39, .int x2, .int x5]) (rest := []) (r := some (.int r1)) (hc1.trans (if_pos ⟨rfl, by decide, by decide, h1, by decide, rfl⟩)) hr1 ?_
    show Ev b 91 33 [some (.ref 38), some (.ref 39), some (.int x2), some (.int x3), some (.int x4), some (.int x5)] [.int r1] _ _
    refine Ev.steps 1 (pc' := if r1 = 0 then 57 else 36) (L' := [some (.ref 38), some (.ref 39), some (.int x2), some (.int x3), some (.int x4), some (.int x5)]) (st' := []) rfl ?_
    refine Ev_ite (fun hc => ?_) (fun hc => ?_)
    · refine Ev.steps 2 (pc' := 16) (L' := [some (.ref 38), some (.ref 39), some (.int x2), some (.int x3), some (.int x4), some (.int (x5 + 1))]) (st' := []) rfl ?_
      exact H1 hc
    · obtain ⟨r2, M2, hr2, H3, H4⟩ := H2 hc
      refine Ev.steps 3 (pc' := 40) (L' := [some (.ref 38), some (.ref 39), some (.int x2), some (.int x3), some (.int x4), some (.int x5)]) (st' := [.int x5, .int x2, .ref 39]) rfl ?_
      refine Ev.wr (a := 39) (g := upd (M 39) x2.toNatClampNeg x5) (i := x2) (n := 10) (pc' := 41) (L' := [some (.ref 38), some (.ref 39), some (.int x2), some (.int x3), some (.int x4), some (.int x5)]) (st' := []) (by decide) hin rfl ?_
      refine Ev.steps 7 (pc' := 49) (L' := [some (.ref 38), some (.ref 39), some (.int x2), some (.int x3), some (.int x4), some (.int x5)]) (st' := [.int x4, .int x3, .int (x2 + 1), .ref 39, .ref 38]) rfl ?_
      have hc2 : gw_call b 91 49 [.int x4, .int x3, .int (x2 + 1), .ref 39, .ref 38] (hs E (up M 39 (upd (M 39) x2.toNatClampNeg x5))) = if (1 : Nat) = 1 ∧ 5 ≤ 5 ∧ 0 ≤ 8 ∧ gw_bd 91 [.ref 38, .ref 39, .int (x2 + 1), .int x3, .int x4] < b ∧ 5 ≤ 6 ∧ true = true then some (91, [.ref 38, .ref 39, .int (x2 + 1), .int x3, .int x4], []) else none := rfl
      refine Ev.call (y := 91) (args := [.ref 38, .ref 39, .int (x2 + 1), .int x3, .int x4]) (rest := []) (r := some (.int r2)) (hc2.trans (if_pos ⟨rfl, by decide, by decide, h2, by decide, rfl⟩)) hr2 ?_
      show Ev b 91 52 [some (.ref 38), some (.ref 39), some (.int x2), some (.int x3), some (.int x4), some (.int x5)] [.int r2] _ _
      refine Ev.steps 1 (pc' := if r2 = 0 then 57 else 55) (L' := [some (.ref 38), some (.ref 39), some (.int x2), some (.int x3), some (.int x4), some (.int x5)]) (st' := []) rfl ?_
      refine Ev_ite (fun hc => ?_) (fun hc => ?_)
      · refine Ev.steps 2 (pc' := 16) (L' := [some (.ref 38), some (.ref 39), some (.int x2), some (.int x3), some (.int x4), some (.int (x5 + 1))]) (st' := []) rfl ?_
        exact H3 hc
      · refine Ev.steps 1 (pc' := 56) (L' := [some (.ref 38), some (.ref 39), some (.int x2), some (.int x3), some (.int x4), some (.int x5)]) (st' := [.int 1]) rfl ?_
        rw [H4 hc]
        exact Ev.ret rfl
theorem bd91 {k n m : Int} (h : 0 ≤ k ∧ k ≤ 10) : gw_bd 91 [.ref 38, .ref 39, .int (J k), .int (J n), .int (J m)] = 3 + (11 - k.toNat) := by
  show 3 + (11 - (J k).toNatClampNeg) = _
  rw [clamp_J rfl (by omega)]
theorem v91_0 {N : NM} {k n m : Int} (hk : 0 ≤ k ∧ k ≤ 10) (hn : R n) (H : (n ≤ k → res = (some (.int (J 1)), hs E (jm N))) ∧ (¬ n ≤ k → (k < 10 → Ev b 91 16 [some (.ref 38), some (.ref 39), some (.int (J k)), some (.int (J n)), some (.int (J m)), some (.int (J 0))] [] (hs E (jm N)) res) ∧ (¬ k < 10 → res = (some (.int (J 1)), hs E (jm N))))) :
    Ev b 91 0 [some (.ref 38), some (.ref 39), some (.int (J k)), some (.int (J n)), some (.int (J m)), none] [] (hs E (jm N)) res := by
  have hkR : R k := by omega
  refine w91_0 ⟨fun z => ?_, fun z => ⟨fun w => ?_, fun w => ?_⟩⟩
  · exact H.1 ((le_J rfl rfl hn hkR).mp z)
  · have z' : ¬ n ≤ k := fun q => z ((le_J rfl rfl hn hkR).mpr q)
    exact (H.2 z').1 ((lt_J rfl jl_10 hkR (by decide)).mp w)
  · have z' : ¬ n ≤ k := fun q => z ((le_J rfl rfl hn hkR).mpr q)
    exact (H.2 z').2 (fun q => w ((lt_J rfl jl_10 hkR (by decide)).mpr q))
theorem v91_16 {N : NM} {k n m c : Int} (hb : 3 + (11 - (k + 1).toNat) < b) (hk : 0 ≤ k ∧ k < 10) (hm : R m) (hc : R c) (H : (m ≤ c → res = (some (.int (J 0)), hs E (jm N))) ∧ (¬ m ≤ c → ∃ r1 : Int, (r1 = 0 ∨ r1 = 1) ∧ Rn 92 [.int (J (N 38 k)), .ref 39, .int (J k), .int (J c)] (hs E (jm N)) (some (.int (J r1))) (hs E (jm N)) ∧
    (r1 = 0 → Ev b 91 16 [some (.ref 38), some (.ref 39), some (.int (J k)), some (.int (J n)), some (.int (J m)), some (.int (J (c + 1)))] [] (hs E (jm N)) res) ∧
    (r1 = 1 → ∃ (r2 : Int) (N2 : NM), (r2 = 0 ∨ r2 = 1) ∧ Rn 91 [.ref 38, .ref 39, .int (J (k + 1)), .int (J n), .int (J m)] (hs E (jm (upZ N 39 (updZ (N 39) k c)))) (some (.int (J r2))) (hs E (jm N2)) ∧
      (r2 = 0 → Ev b 91 16 [some (.ref 38), some (.ref 39), some (.int (J k)), some (.int (J n)), some (.int (J m)), some (.int (J (c + 1)))] [] (hs E (jm N2)) res) ∧ (r2 = 1 → res = (some (.int (J 1)), hs E (jm N2)))))) :
    Ev b 91 16 [some (.ref 38), some (.ref 39), some (.int (J k)), some (.int (J n)), some (.int (J m)), some (.int (J c))] [] (hs E (jm N)) res := by
  have hkR : R k := by omega
  have e1 : J k + 1 = J (k + 1) := add_J rfl jl_1
  have e2 : J c + 1 = J (c + 1) := add_J rfl jl_1
  have h01 : ∀ r : Int, (r = 0 ∨ r = 1) → (J r = 0 ↔ r = 0) := fun r hr => eq_J rfl jl_0 (by omega) (by decide)
  refine w91_16 (by omega) ?_ ⟨fun z => ?_, fun z => ?_⟩
  · rw [e1, bd91 (by omega)]
    exact hb
  · exact H.1 ((le_J rfl rfl hm hc).mp z)
  · obtain ⟨r1, b1, q1, q2, q3⟩ := H.2 (fun q => z ((le_J rfl rfl hm hc).mpr q))
    refine ⟨inb_J rfl hk (by decide), J r1, ?_, fun w => ?_, fun w => ?_⟩
    · have er : (jm N 38) (J k).toNatClampNeg = J (N 38 k) := rd_J (n := 10) rfl rfl hk (by decide)
      rw [er]
      exact q1
    · rw [e2]
      exact q2 ((h01 r1 b1).mp w)
    · have hr1 : r1 = 1 := b1.resolve_left (fun q => w ((h01 r1 b1).mpr q))
      obtain ⟨r2, N2, b2, s1, s2, s3⟩ := q3 hr1
      have em : up (jm N) 39 (upd (jm N 39) (J k).toNatClampNeg (J c)) = jm (upZ N 39 (updZ (N 39) k c)) := jm_up rfl (jf_upd (n := 10) rfl rfl hk (by decide) rfl)
      refine ⟨J r2, jm N2, ?_, fun v => ?_, fun v => ?_⟩
      · rw [em, e1]
        exact s1
      · rw [e2]
        exact s2 ((h01 r2 b2).mp v)
      · exact s3 (b2.resolve_left (fun q => v ((h01 r2 b2).mpr q)))
theorem c91 {N : NM} {k n m : Int} {r : Option Value} {hh : gw_H} (hk : 0 ≤ k ∧ k ≤ 10) (H : Ev (3 + (11 - k.toNat)) 91 0 [some (.ref 38), some (.ref 39), some (.int (J k)), some (.int (J n)), some (.int (J m)), none] [] (hs E (jm N)) (r, hh)) : Rn 91 [.ref 38, .ref 39, .int (J k), .int (J n), .int (J m)] (hs E (jm N)) r hh := by
  unfold Rn
  rw [bd91 hk]
  exact H
end CPW
