/-! by program (wp.py): formulas that are enough -/
-- 250 GlassWiresModel many (I)I
set_option maxRecDepth 20000 in
theorem w250_0 {E : gw_N} {M : Mem} {res : Option Value × gw_H} {x1 : Int32} (H : (∃ (M1 : Mem), Rn 247 [.ref 59] (hs E M) none (hs E M1) ∧ (∃ (M2 : Mem), Rn 230 [.ref 59] (hs E M1) none (hs E M2) ∧ ((x1 = 0 → Ev 6 250 58 [some (.ref 59), some (.int x1), some (.int 0), some (.int 0), none] [] (hs E M2) res) ∧ (x1 = 1 → Ev 6 250 58 [some (.ref 59), some (.int x1), some (.int 0), some (.int 0), none] [] (hs E M2) res) ∧ (x1 = 2 → Ev 6 250 146 [some (.ref 59), some (.int x1), some (.int 0), some (.int 0), none] [] (hs E M2) res) ∧ (x1 = 3 → Ev 6 250 190 [some (.ref 59), none, some (.int 0), some (.int 0), none] [] (hs E M2) res) ∧ (x1 = 4 → Ev 6 250 146 [some (.ref 59), some (.int x1), some (.int 0), some (.int 0), none] [] (hs E M2) res) ∧ (x1 = 5 → (∃ (r3 : Int32) (M3 : Mem), Rn 242 [.ref 59] (hs E M2) (some (.int r3)) (hs E M3) ∧ res = (some (.int r3), hs E M3))) ∧ (x1 = 6 → Ev 6 250 239 [some (.ref 59), none, some (.int 0), some (.int 0), none] [] (hs E M2) res) ∧ (x1 = 7 → Ev 6 250 275 [some (.ref 59), none, some (.int 0), some (.int 0), none] [] (hs E M2) res) ∧ (¬ x1 = 0 → ¬ x1 = 1 → ¬ x1 = 2 → ¬ x1 = 3 → ¬ x1 = 4 → ¬ x1 = 5 → ¬ x1 = 6 → ¬ x1 = 7 → res = (some (.int (-102)), hs E M2)))))) : Ev 6 250 0 [some (.ref 59), some (.int x1), none, none, none] [] (hs E M) res := by
  refine Ev.steps 1 (pc' := 1) (L' := [some (.ref 59), some (.int x1), none, none, none]) (st' := [.ref 59]) rfl ?_
  obtain ⟨M1, hr1, H⟩ := H
  refine Ev.call (y := 247) (args := [.ref 59]) (rest := []) (r := none) rfl hr1 ?_
  show Ev 6 250 4 [some (.ref 59), some (.int x1), none, none, none] [] _ _
  refine Ev.steps 1 (pc' := 5) (L' := [some (.ref 59), some (.int x1), none, none, none]) (st' := [.ref 59]) rfl ?_
  obtain ⟨M2, hr2, H⟩ := H
  refine Ev.call (y := 230) (args := [.ref 59]) (rest := []) (r := none) rfl hr2 ?_
  show Ev 6 250 8 [some (.ref 59), some (.int x1), none, none, none] [] _ _
  refine Ev.steps 3 (pc' := 11) (L' := [some (.ref 59), some (.int x1), some (.int 0), none, none]) (st' := [.int x1]) rfl ?_
  by_cases hw0 : x1 = 0
  · replace H := H.1 hw0
    refine Ev.sw (p := gw_tsw 11 299 0 7 #[45, 45, 133, 177, 133, 221, 226, 262] x1) (pc' := 56) (L' := [some (.ref 59), some (.int x1), some (.int 0), none, none]) (st' := []) rfl (by rw [hw0]; decide +kernel) ?_
    refine Ev.steps 2 (pc' := 58) (L' := [some (.ref 59), some (.int x1), some (.int 0), some (.int 0), none]) (st' := []) rfl ?_
    exact Ev.weak [some (.ref 59), some (.int x1), some (.int 0), some (.int 0), none] (gw_leb_le ⟨rfl, rfl, rfl, rfl, trivial⟩) H
  replace H := H.2
  by_cases hw1 : x1 = 1
  · replace H := H.1 hw1
    refine Ev.sw (p := gw_tsw 11 299 0 7 #[45, 45, 133, 177, 133, 221, 226, 262] x1) (pc' := 56) (L' := [some (.ref 59), some (.int x1), some (.int 0), none, none]) (st' := []) rfl (by rw [hw1]; decide +kernel) ?_
    refine Ev.steps 2 (pc' := 58) (L' := [some (.ref 59), some (.int x1), some (.int 0), some (.int 0), none]) (st' := []) rfl ?_
    exact Ev.weak [some (.ref 59), some (.int x1), some (.int 0), some (.int 0), none] (gw_leb_le ⟨rfl, rfl, rfl, rfl, trivial⟩) H
  replace H := H.2
  by_cases hw2 : x1 = 2
  · replace H := H.1 hw2
    refine Ev.sw (p := gw_tsw 11 299 0 7 #[45, 45, 133, 177, 133, 221, 226, 262] x1) (pc' := 144) (L' := [some (.ref 59), some (.int x1), some (.int 0), none, none]) (st' := []) rfl (by rw [hw2]; decide +kernel) ?_
    refine Ev.steps 2 (pc' := 146) (L' := [some (.ref 59), some (.int x1), some (.int 0), some (.int 0), none]) (st' := []) rfl ?_
    exact Ev.weak [some (.ref 59), some (.int x1), some (.int 0), some (.int 0), none] (gw_leb_le ⟨rfl, rfl, rfl, rfl, trivial⟩) H
  replace H := H.2
  by_cases hw3 : x1 = 3
  · replace H := H.1 hw3
    refine Ev.sw (p := gw_tsw 11 299 0 7 #[45, 45, 133, 177, 133, 221, 226, 262] x1) (pc' := 188) (L' := [some (.ref 59), some (.int x1), some (.int 0), none, none]) (st' := []) rfl (by rw [hw3]; decide +kernel) ?_
    refine Ev.steps 2 (pc' := 190) (L' := [some (.ref 59), some (.int x1), some (.int 0), some (.int 0), none]) (st' := []) rfl ?_
    exact Ev.weak [some (.ref 59), none, some (.int 0), some (.int 0), none] (gw_leb_le ⟨rfl, rfl, rfl, trivial⟩) H
  replace H := H.2
  by_cases hw4 : x1 = 4
  · replace H := H.1 hw4
    refine Ev.sw (p := gw_tsw 11 299 0 7 #[45, 45, 133, 177, 133, 221, 226, 262] x1) (pc' := 144) (L' := [some (.ref 59), some (.int x1), some (.int 0), none, none]) (st' := []) rfl (by rw [hw4]; decide +kernel) ?_
    refine Ev.steps 2 (pc' := 146) (L' := [some (.ref 59), some (.int x1), some (.int 0), some (.int 0), none]) (st' := []) rfl ?_
    exact Ev.weak [some (.ref 59), some (.int x1), some (.int 0), some (.int 0), none] (gw_leb_le ⟨rfl, rfl, rfl, rfl, trivial⟩) H
  replace H := H.2
  by_cases hw5 : x1 = 5
  · replace H := H.1 hw5
    refine Ev.sw (p := gw_tsw 11 299 0 7 #[45, 45, 133, 177, 133, 221, 226, 262] x1) (pc' := 232) (L' := [some (.ref 59), some (.int x1), some (.int 0), none, none]) (st' := []) rfl (by rw [hw5]; decide +kernel) ?_
    refine Ev.steps 1 (pc' := 233) (L' := [some (.ref 59), some (.int x1), some (.int 0), none, none]) (st' := [.ref 59]) rfl ?_
    obtain ⟨r3, M3, hr3, H⟩ := H
    refine Ev.call (y := 242) (args := [.ref 59]) (rest := []) (r := (some (.int r3))) rfl hr3 ?_
    show Ev 6 250 236 [some (.ref 59), some (.int x1), some (.int 0), none, none] [.int r3] _ _
    subst H
    exact Ev.ret rfl
  replace H := H.2
  by_cases hw6 : x1 = 6
  · replace H := H.1 hw6
    refine Ev.sw (p := gw_tsw 11 299 0 7 #[45, 45, 133, 177, 133, 221, 226, 262] x1) (pc' := 237) (L' := [some (.ref 59), some (.int x1), some (.int 0), none, none]) (st' := []) rfl (by rw [hw6]; decide +kernel) ?_
    refine Ev.steps 2 (pc' := 239) (L' := [some (.ref 59), some (.int x1), some (.int 0), some (.int 0), none]) (st' := []) rfl ?_
    exact Ev.weak [some (.ref 59), none, some (.int 0), some (.int 0), none] (gw_leb_le ⟨rfl, rfl, rfl, trivial⟩) H
  replace H := H.2
  by_cases hw7 : x1 = 7
  · replace H := H.1 hw7
    refine Ev.sw (p := gw_tsw 11 299 0 7 #[45, 45, 133, 177, 133, 221, 226, 262] x1) (pc' := 273) (L' := [some (.ref 59), some (.int x1), some (.int 0), none, none]) (st' := []) rfl (by rw [hw7]; decide +kernel) ?_
    refine Ev.steps 2 (pc' := 275) (L' := [some (.ref 59), some (.int x1), some (.int 0), some (.int 0), none]) (st' := []) rfl ?_
    exact Ev.weak [some (.ref 59), none, some (.int 0), some (.int 0), none] (gw_leb_le ⟨rfl, rfl, rfl, trivial⟩) H
  replace H := H.2
  replace H := H hw0 hw1 hw2 hw3 hw4 hw5 hw6 hw7
  refine Ev.sw (p := gw_tsw 11 299 0 7 #[45, 45, 133, 177, 133, 221, 226, 262] x1) (pc' := 310) (L' := [some (.ref 59), some (.int x1), some (.int 0), none, none]) (st' := []) rfl (gw_ts_df (by decide +kernel) (by
      intro k h1 h2
      have h3 : k = 0 ∨ k = 1 ∨ k = 2 ∨ k = 3 ∨ k = 4 ∨ k = 5 ∨ k = 6 ∨ k = 7 := by omega
      rcases h3 with rfl | rfl | rfl | rfl | rfl | rfl | rfl | rfl
      · exact fun h => hw0 (h.trans (by decide +kernel))
      · exact fun h => hw1 (h.trans (by decide +kernel))
      · exact fun h => hw2 (h.trans (by decide +kernel))
      · exact fun h => hw3 (h.trans (by decide +kernel))
      · exact fun h => hw4 (h.trans (by decide +kernel))
      · exact fun h => hw5 (h.trans (by decide +kernel))
      · exact fun h => hw6 (h.trans (by decide +kernel))
      · exact fun h => hw7 (h.trans (by decide +kernel)))) ?_
  refine Ev.steps 1 (pc' := 312) (L' := [some (.ref 59), some (.int x1), some (.int 0), none, none]) (st' := [.int (-102)]) rfl ?_
  subst H
  exact Ev.ret rfl

set_option maxRecDepth 20000 in
theorem w250_58 {E : gw_N} {M : Mem} {res : Option Value × gw_H} {x1 : Int32} {x2 : Int32} {x3 : Int32} (H : ((81 ≤ x3 → res = (some (.int x2), hs E M)) ∧ (¬ 81 ≤ x3 → (((F214 M (x3 - x3 / 9 * 9) (x3 / 9)) = 0 → Ev 6 250 58 [some (.ref 59), some (.int x1), some (.int (x2 + 0)), some (.int (x3 + 1)), none] [] (hs E M) res) ∧ (¬ (F214 M (x3 - x3 / 9 * 9) (x3 / 9)) = 0 → ((x1 = 0 → (P240 M (x3 - x3 / 9 * 9) (x3 / 9) ∧ (((F240 M (x3 - x3 / 9 * 9) (x3 / 9)) = 0 → Ev 6 250 58 [some (.ref 59), some (.int x1), some (.int (x2 + 0)), some (.int (x3 + 1)), none] [] (hs E M) res) ∧ (¬ (F240 M (x3 - x3 / 9 * 9) (x3 / 9)) = 0 → Ev 6 250 58 [some (.ref 59), some (.int x1), some (.int (x2 + 1)), some (.int (x3 + 1)), none] [] (hs E M) res)))) ∧ (¬ x1 = 0 → (∃ (r1 : Int32), Rn 241 [.ref 59, .int (x3 - x3 / 9 * 9), .int (x3 / 9)] (hs E M) (some (.int r1)) (hs E M) ∧ ((r1 = 0 → Ev 6 250 58 [some (.ref 59), some (.int x1), some (.int (x2 + 0)), some (.int (x3 + 1)), none] [] (hs E M) res) ∧ (¬ r1 = 0 → Ev 6 250 58 [some (.ref 59), some (.int x1), some (.int (x2 + 1)), some (.int (x3 + 1)), none] [] (hs E M) res)))))))))) : Ev 6 250 58 [some (.ref 59), some (.int x1), some (.int x2), some (.int x3), none] [] (hs E M) res := by
  refine Ev.steps 3 (pc' := if 81 ≤ x3 then 142 else 64) (L' := [some (.ref 59), some (.int x1), some (.int x2), some (.int x3), none]) (st' := []) rfl ?_
  refine Ev_ite (fun hc => ?_) (fun hc => ?_)
  · replace H := H.1 hc
    refine Ev.steps 1 (pc' := 143) (L' := [some (.ref 59), some (.int x1), some (.int x2), some (.int x3), none]) (st' := [.int x2]) rfl ?_
    subst H
    exact Ev.ret rfl
  · replace H := H.2 hc
    refine Ev.steps 3 (pc' := 68) (L' := [some (.ref 59), some (.int x1), some (.int x2), some (.int x3), none]) (st' := [.int 9, .int x3, .ref 59]) rfl ?_
    refine Ev.dv (y := 9) (pc' := 69) (L' := [some (.ref 59), some (.int x1), some (.int x2), some (.int x3), none]) (st' := [.int (x3 - x3 / 9 * 9), .ref 59]) (by decide) rfl ?_
    refine Ev.steps 2 (pc' := 72) (L' := [some (.ref 59), some (.int x1), some (.int x2), some (.int x3), none]) (st' := [.int 9, .int x3, .int (x3 - x3 / 9 * 9), .ref 59]) rfl ?_
    refine Ev.dv (y := 9) (pc' := 73) (L' := [some (.ref 59), some (.int x1), some (.int x2), some (.int x3), none]) (st' := [.int (x3 / 9), .int (x3 - x3 / 9 * 9), .ref 59]) (by decide) rfl ?_
    refine Ev.call (y := 214) (args := [.ref 59, .int (x3 - x3 / 9 * 9), .int (x3 / 9)]) (rest := []) (r := some (.int (F214 M (x3 - x3 / 9 * 9) (x3 / 9)))) rfl (s214) ?_
    show Ev 6 250 76 [some (.ref 59), some (.int x1), some (.int x2), some (.int x3), none] [.int (F214 M (x3 - x3 / 9 * 9) (x3 / 9))] _ _
    refine Ev.steps 1 (pc' := if (F214 M (x3 - x3 / 9 * 9) (x3 / 9)) = 0 then 120 else 79) (L' := [some (.ref 59), some (.int x1), some (.int x2), some (.int x3), none]) (st' := []) rfl ?_
    refine Ev_ite (fun hc => ?_) (fun hc => ?_)
    · replace H := H.1 hc
      refine Ev.steps 10 (pc' := 58) (L' := [some (.ref 59), some (.int x1), some (.int (x2 + 0)), some (.int (x3 + 1)), some (.int 0)]) (st' := []) rfl ?_
      exact Ev.weak [some (.ref 59), some (.int x1), some (.int (x2 + 0)), some (.int (x3 + 1)), none] (gw_leb_le ⟨rfl, rfl, rfl, rfl, trivial⟩) H
    · replace H := H.2 hc
      refine Ev.steps 2 (pc' := if x1 = 0 then 83 else 101) (L' := [some (.ref 59), some (.int x1), some (.int x2), some (.int x3), none]) (st' := []) rfl ?_
      refine Ev_ite (fun hc => ?_) (fun hc => ?_)
      · replace H := H.1 hc
        refine Ev.steps 3 (pc' := 87) (L' := [some (.ref 59), some (.int x1), some (.int x2), some (.int x3), none]) (st' := [.int 9, .int x3, .ref 59]) rfl ?_
        refine Ev.dv (y := 9) (pc' := 88) (L' := [some (.ref 59), some (.int x1), some (.int x2), some (.int x3), none]) (st' := [.int (x3 - x3 / 9 * 9), .ref 59]) (by decide) rfl ?_
        refine Ev.steps 2 (pc' := 91) (L' := [some (.ref 59), some (.int x1), some (.int x2), some (.int x3), none]) (st' := [.int 9, .int x3, .int (x3 - x3 / 9 * 9), .ref 59]) rfl ?_
        refine Ev.dv (y := 9) (pc' := 92) (L' := [some (.ref 59), some (.int x1), some (.int x2), some (.int x3), none]) (st' := [.int (x3 / 9), .int (x3 - x3 / 9 * 9), .ref 59]) (by decide) rfl ?_
        refine Ev.call (y := 240) (args := [.ref 59, .int (x3 - x3 / 9 * 9), .int (x3 / 9)]) (rest := []) (r := some (.int (F240 M (x3 - x3 / 9 * 9) (x3 / 9)))) rfl (s240 H.1) ?_
        replace H := H.2
        show Ev 6 250 95 [some (.ref 59), some (.int x1), some (.int x2), some (.int x3), none] [.int (F240 M (x3 - x3 / 9 * 9) (x3 / 9))] _ _
        refine Ev.steps 1 (pc' := if (F240 M (x3 - x3 / 9 * 9) (x3 / 9)) = 0 then 120 else 98) (L' := [some (.ref 59), some (.int x1), some (.int x2), some (.int x3), none]) (st' := []) rfl ?_
        refine Ev_ite (fun hc => ?_) (fun hc => ?_)
        · replace H := H.1 hc
          refine Ev.steps 10 (pc' := 58) (L' := [some (.ref 59), some (.int x1), some (.int (x2 + 0)), some (.int (x3 + 1)), some (.int 0)]) (st' := []) rfl ?_
          exact Ev.weak [some (.ref 59), some (.int x1), some (.int (x2 + 0)), some (.int (x3 + 1)), none] (gw_leb_le ⟨rfl, rfl, rfl, rfl, trivial⟩) H
        · replace H := H.2 hc
          refine Ev.steps 13 (pc' := 58) (L' := [some (.ref 59), some (.int x1), some (.int (x2 + 1)), some (.int (x3 + 1)), some (.int 1)]) (st' := []) rfl ?_
          exact Ev.weak [some (.ref 59), some (.int x1), some (.int (x2 + 1)), some (.int (x3 + 1)), none] (gw_leb_le ⟨rfl, rfl, rfl, rfl, trivial⟩) H
      · replace H := H.2 hc
        refine Ev.steps 3 (pc' := 105) (L' := [some (.ref 59), some (.int x1), some (.int x2), some (.int x3), none]) (st' := [.int 9, .int x3, .ref 59]) rfl ?_
        refine Ev.dv (y := 9) (pc' := 106) (L' := [some (.ref 59), some (.int x1), some (.int x2), some (.int x3), none]) (st' := [.int (x3 - x3 / 9 * 9), .ref 59]) (by decide) rfl ?_
        refine Ev.steps 2 (pc' := 109) (L' := [some (.ref 59), some (.int x1), some (.int x2), some (.int x3), none]) (st' := [.int 9, .int x3, .int (x3 - x3 / 9 * 9), .ref 59]) rfl ?_
        refine Ev.dv (y := 9) (pc' := 110) (L' := [some (.ref 59), some (.int x1), some (.int x2), some (.int x3), none]) (st' := [.int (x3 / 9), .int (x3 - x3 / 9 * 9), .ref 59]) (by decide) rfl ?_
        obtain ⟨r1, hr1, H⟩ := H
        refine Ev.call (y := 241) (args := [.ref 59, .int (x3 - x3 / 9 * 9), .int (x3 / 9)]) (rest := []) (r := (some (.int r1))) rfl hr1 ?_
        show Ev 6 250 113 [some (.ref 59), some (.int x1), some (.int x2), some (.int x3), none] [.int r1] _ _
        refine Ev.steps 1 (pc' := if r1 = 0 then 120 else 116) (L' := [some (.ref 59), some (.int x1), some (.int x2), some (.int x3), none]) (st' := []) rfl ?_
        refine Ev_ite (fun hc => ?_) (fun hc => ?_)
        · replace H := H.1 hc
          refine Ev.steps 10 (pc' := 58) (L' := [some (.ref 59), some (.int x1), some (.int (x2 + 0)), some (.int (x3 + 1)), some (.int 0)]) (st' := []) rfl ?_
          exact Ev.weak [some (.ref 59), some (.int x1), some (.int (x2 + 0)), some (.int (x3 + 1)), none] (gw_leb_le ⟨rfl, rfl, rfl, rfl, trivial⟩) H
        · replace H := H.2 hc
          refine Ev.steps 12 (pc' := 58) (L' := [some (.ref 59), some (.int x1), some (.int (x2 + 1)), some (.int (x3 + 1)), some (.int 1)]) (st' := []) rfl ?_
          exact Ev.weak [some (.ref 59), some (.int x1), some (.int (x2 + 1)), some (.int (x3 + 1)), none] (gw_leb_le ⟨rfl, rfl, rfl, rfl, trivial⟩) H

set_option maxRecDepth 20000 in
theorem w250_146 {E : gw_N} {M : Mem} {res : Option Value × gw_H} {x1 : Int32} {x2 : Int32} {x3 : Int32} (H : ((162 ≤ x3 → res = (some (.int x2), hs E M)) ∧ (¬ 162 ≤ x3 → (inb x3 162 ∧ ((x1 = 2 → ((((M 67) (x3 : Int32).toNatClampNeg) ≤ 1 → Ev 6 250 146 [some (.ref 59), some (.int x1), some (.int (x2 + 0)), some (.int (x3 + 1)), none] [] (hs E M) res) ∧ (¬ ((M 67) (x3 : Int32).toNatClampNeg) ≤ 1 → Ev 6 250 146 [some (.ref 59), some (.int x1), some (.int (x2 + 1)), some (.int (x3 + 1)), none] [] (hs E M) res))) ∧ (¬ x1 = 2 → ((((M 67) (x3 : Int32).toNatClampNeg) ≤ 0 → Ev 6 250 146 [some (.ref 59), some (.int x1), some (.int (x2 + 0)), some (.int (x3 + 1)), none] [] (hs E M) res) ∧ (¬ ((M 67) (x3 : Int32).toNatClampNeg) ≤ 0 → Ev 6 250 146 [some (.ref 59), some (.int x1), some (.int (x2 + 1)), some (.int (x3 + 1)), none] [] (hs E M) res)))))))) : Ev 6 250 146 [some (.ref 59), some (.int x1), some (.int x2), some (.int x3), none] [] (hs E M) res := by
  refine Ev.steps 3 (pc' := if 162 ≤ x3 then 186 else 153) (L' := [some (.ref 59), some (.int x1), some (.int x2), some (.int x3), none]) (st' := []) rfl ?_
  refine Ev_ite (fun hc => ?_) (fun hc => ?_)
  · replace H := H.1 hc
    refine Ev.steps 1 (pc' := 187) (L' := [some (.ref 59), some (.int x1), some (.int x2), some (.int x3), none]) (st' := [.int x2]) rfl ?_
    subst H
    exact Ev.ret rfl
  · replace H := H.2 hc
    refine Ev.steps 4 (pc' := 159) (L' := [some (.ref 59), some (.int x1), some (.int x2), some (.int x3), none]) (st' := [.int x3, .ref 67, .int x2]) rfl ?_
    refine Ev.rd (i := x3) (n := 162) (pc' := 160) (L' := [some (.ref 59), some (.int x1), some (.int x2), some (.int x3), none]) (st' := [.int ((M 67) (x3 : Int32).toNatClampNeg), .int x2]) H.1 rfl ?_
    replace H := H.2
    refine Ev.steps 3 (pc' := if x1 = 2 then 165 else 169) (L' := [some (.ref 59), some (.int x1), some (.int x2), some (.int x3), none]) (st' := [.int ((M 67) (x3 : Int32).toNatClampNeg), .int x2]) rfl ?_
    refine Ev_ite (fun hc => ?_) (fun hc => ?_)
    · replace H := H.1 hc
      refine Ev.steps 3 (pc' := if ((M 67) (x3 : Int32).toNatClampNeg) ≤ 1 then 177 else 173) (L' := [some (.ref 59), some (.int x1), some (.int x2), some (.int x3), none]) (st' := [.int x2]) rfl ?_
      refine Ev_ite (fun hc => ?_) (fun hc => ?_)
      · replace H := H.1 hc
        refine Ev.steps 5 (pc' := 146) (L' := [some (.ref 59), some (.int x1), some (.int (x2 + 0)), some (.int (x3 + 1)), none]) (st' := []) rfl ?_
        exact Ev.weak [some (.ref 59), some (.int x1), some (.int (x2 + 0)), some (.int (x3 + 1)), none] (gw_leb_le ⟨rfl, rfl, rfl, rfl, trivial⟩) H
      · replace H := H.2 hc
        refine Ev.steps 6 (pc' := 146) (L' := [some (.ref 59), some (.int x1), some (.int (x2 + 1)), some (.int (x3 + 1)), none]) (st' := []) rfl ?_
        exact Ev.weak [some (.ref 59), some (.int x1), some (.int (x2 + 1)), some (.int (x3 + 1)), none] (gw_leb_le ⟨rfl, rfl, rfl, rfl, trivial⟩) H
    · replace H := H.2 hc
      refine Ev.steps 2 (pc' := if ((M 67) (x3 : Int32).toNatClampNeg) ≤ 0 then 177 else 173) (L' := [some (.ref 59), some (.int x1), some (.int x2), some (.int x3), none]) (st' := [.int x2]) rfl ?_
      refine Ev_ite (fun hc => ?_) (fun hc => ?_)
      · replace H := H.1 hc
        refine Ev.steps 5 (pc' := 146) (L' := [some (.ref 59), some (.int x1), some (.int (x2 + 0)), some (.int (x3 + 1)), none]) (st' := []) rfl ?_
        exact Ev.weak [some (.ref 59), some (.int x1), some (.int (x2 + 0)), some (.int (x3 + 1)), none] (gw_leb_le ⟨rfl, rfl, rfl, rfl, trivial⟩) H
      · replace H := H.2 hc
        refine Ev.steps 6 (pc' := 146) (L' := [some (.ref 59), some (.int x1), some (.int (x2 + 1)), some (.int (x3 + 1)), none]) (st' := []) rfl ?_
        exact Ev.weak [some (.ref 59), some (.int x1), some (.int (x2 + 1)), some (.int (x3 + 1)), none] (gw_leb_le ⟨rfl, rfl, rfl, rfl, trivial⟩) H

set_option maxRecDepth 20000 in
theorem w250_190 {E : gw_N} {M : Mem} {res : Option Value × gw_H} {x2 : Int32} {x3 : Int32} (H : ((((M 59) 4) ≤ x3 → res = (some (.int x2), hs E M)) ∧ (¬ ((M 59) 4) ≤ x3 → (inb x3 30 ∧ ((((M 64) (x3 : Int32).toNatClampNeg) = 0 → Ev 6 250 190 [some (.ref 59), none, some (.int (x2 + 0)), some (.int (x3 + 1)), none] [] (hs E M) res) ∧ (¬ ((M 64) (x3 : Int32).toNatClampNeg) = 0 → (inb x3 30 ∧ ((((M 66) (x3 : Int32).toNatClampNeg) = 0 → Ev 6 250 190 [some (.ref 59), none, some (.int (x2 + 1)), some (.int (x3 + 1)), none] [] (hs E M) res) ∧ (¬ ((M 66) (x3 : Int32).toNatClampNeg) = 0 → Ev 6 250 190 [some (.ref 59), none, some (.int (x2 + 0)), some (.int (x3 + 1)), none] [] (hs E M) res))))))))) : Ev 6 250 190 [some (.ref 59), none, some (.int x2), some (.int x3), none] [] (hs E M) res := by
  refine Ev.steps 4 (pc' := if ((M 59) 4) ≤ x3 then 230 else 198) (L' := [some (.ref 59), none, some (.int x2), some (.int x3), none]) (st' := []) rfl ?_
  refine Ev_ite (fun hc => ?_) (fun hc => ?_)
  · replace H := H.1 hc
    refine Ev.steps 1 (pc' := 231) (L' := [some (.ref 59), none, some (.int x2), some (.int x3), none]) (st' := [.int x2]) rfl ?_
    subst H
    exact Ev.ret rfl
  · replace H := H.2 hc
    refine Ev.steps 4 (pc' := 204) (L' := [some (.ref 59), none, some (.int x2), some (.int x3), none]) (st' := [.int x3, .ref 64, .int x2]) rfl ?_
    refine Ev.rd (i := x3) (n := 30) (pc' := 205) (L' := [some (.ref 59), none, some (.int x2), some (.int x3), none]) (st' := [.int ((M 64) (x3 : Int32).toNatClampNeg), .int x2]) H.1 rfl ?_
    replace H := H.2
    refine Ev.steps 1 (pc' := if ((M 64) (x3 : Int32).toNatClampNeg) = 0 then 221 else 208) (L' := [some (.ref 59), none, some (.int x2), some (.int x3), none]) (st' := [.int x2]) rfl ?_
    refine Ev_ite (fun hc => ?_) (fun hc => ?_)
    · replace H := H.1 hc
      refine Ev.steps 5 (pc' := 190) (L' := [some (.ref 59), none, some (.int (x2 + 0)), some (.int (x3 + 1)), none]) (st' := []) rfl ?_
      exact Ev.weak [some (.ref 59), none, some (.int (x2 + 0)), some (.int (x3 + 1)), none] (gw_leb_le ⟨rfl, rfl, rfl, trivial⟩) H
    · replace H := H.2 hc
      refine Ev.steps 3 (pc' := 213) (L' := [some (.ref 59), none, some (.int x2), some (.int x3), none]) (st' := [.int x3, .ref 66, .int x2]) rfl ?_
      refine Ev.rd (i := x3) (n := 30) (pc' := 214) (L' := [some (.ref 59), none, some (.int x2), some (.int x3), none]) (st' := [.int ((M 66) (x3 : Int32).toNatClampNeg), .int x2]) H.1 rfl ?_
      replace H := H.2
      refine Ev.steps 1 (pc' := if ((M 66) (x3 : Int32).toNatClampNeg) = 0 then 217 else 221) (L' := [some (.ref 59), none, some (.int x2), some (.int x3), none]) (st' := [.int x2]) rfl ?_
      refine Ev_ite (fun hc => ?_) (fun hc => ?_)
      · replace H := H.1 hc
        refine Ev.steps 6 (pc' := 190) (L' := [some (.ref 59), none, some (.int (x2 + 1)), some (.int (x3 + 1)), none]) (st' := []) rfl ?_
        exact Ev.weak [some (.ref 59), none, some (.int (x2 + 1)), some (.int (x3 + 1)), none] (gw_leb_le ⟨rfl, rfl, rfl, trivial⟩) H
      · replace H := H.2 hc
        refine Ev.steps 5 (pc' := 190) (L' := [some (.ref 59), none, some (.int (x2 + 0)), some (.int (x3 + 1)), none]) (st' := []) rfl ?_
        exact Ev.weak [some (.ref 59), none, some (.int (x2 + 0)), some (.int (x3 + 1)), none] (gw_leb_le ⟨rfl, rfl, rfl, trivial⟩) H

set_option maxRecDepth 20000 in
theorem w250_239 {E : gw_N} {M : Mem} {res : Option Value × gw_H} {x2 : Int32} {x3 : Int32} (H : (((F243 M) ≤ x3 → res = (some (.int x2), hs E M)) ∧ (¬ (F243 M) ≤ x3 → (inb x3 64 ∧ ((((M 69) (x3 : Int32).toNatClampNeg) = x3 → Ev 6 250 239 [some (.ref 59), none, some (.int (x2 + 1)), some (.int (x3 + 1)), none] [] (hs E M) res) ∧ (¬ ((M 69) (x3 : Int32).toNatClampNeg) = x3 → Ev 6 250 239 [some (.ref 59), none, some (.int (x2 + 0)), some (.int (x3 + 1)), none] [] (hs E M) res)))))) : Ev 6 250 239 [some (.ref 59), none, some (.int x2), some (.int x3), none] [] (hs E M) res := by
  refine Ev.steps 2 (pc' := 241) (L' := [some (.ref 59), none, some (.int x2), some (.int x3), none]) (st' := [.ref 59, .int x3]) rfl ?_
  refine Ev.call (y := 243) (args := [.ref 59]) (rest := [.int x3]) (r := some (.int (F243 M))) rfl (s243) ?_
  show Ev 6 250 244 [some (.ref 59), none, some (.int x2), some (.int x3), none] [.int (F243 M), .int x3] _ _
  refine Ev.steps 1 (pc' := if (F243 M) ≤ x3 then 271 else 247) (L' := [some (.ref 59), none, some (.int x2), some (.int x3), none]) (st' := []) rfl ?_
  refine Ev_ite (fun hc => ?_) (fun hc => ?_)
  · replace H := H.1 hc
    refine Ev.steps 1 (pc' := 272) (L' := [some (.ref 59), none, some (.int x2), some (.int x3), none]) (st' := [.int x2]) rfl ?_
    subst H
    exact Ev.ret rfl
  · replace H := H.2 hc
    refine Ev.steps 4 (pc' := 253) (L' := [some (.ref 59), none, some (.int x2), some (.int x3), none]) (st' := [.int x3, .ref 69, .int x2]) rfl ?_
    refine Ev.rd (i := x3) (n := 64) (pc' := 254) (L' := [some (.ref 59), none, some (.int x2), some (.int x3), none]) (st' := [.int ((M 69) (x3 : Int32).toNatClampNeg), .int x2]) H.1 rfl ?_
    replace H := H.2
    refine Ev.steps 2 (pc' := if ((M 69) (x3 : Int32).toNatClampNeg) = x3 then 258 else 262) (L' := [some (.ref 59), none, some (.int x2), some (.int x3), none]) (st' := [.int x2]) rfl ?_
    refine Ev_ite (fun hc => ?_) (fun hc => ?_)
    · replace H := H.1 hc
      refine Ev.steps 6 (pc' := 239) (L' := [some (.ref 59), none, some (.int (x2 + 1)), some (.int (x3 + 1)), none]) (st' := []) rfl ?_
      exact Ev.weak [some (.ref 59), none, some (.int (x2 + 1)), some (.int (x3 + 1)), none] (gw_leb_le ⟨rfl, rfl, rfl, trivial⟩) H
    · replace H := H.2 hc
      refine Ev.steps 5 (pc' := 239) (L' := [some (.ref 59), none, some (.int (x2 + 0)), some (.int (x3 + 1)), none]) (st' := []) rfl ?_
      exact Ev.weak [some (.ref 59), none, some (.int (x2 + 0)), some (.int (x3 + 1)), none] (gw_leb_le ⟨rfl, rfl, rfl, trivial⟩) H

set_option maxRecDepth 20000 in
theorem w250_275 {E : gw_N} {M : Mem} {res : Option Value × gw_H} {x2 : Int32} {x3 : Int32} (H : (((F243 M) ≤ x3 → res = (some (.int x2), hs E M)) ∧ (¬ (F243 M) ≤ x3 → (∃ (r1 : Int32), Rn 249 [.ref 59, .int x3] (hs E M) (some (.int r1)) (hs E M) ∧ ((r1 ≤ x2 → Ev 6 250 275 [some (.ref 59), none, some (.int x2), some (.int (x3 + 1)), none] [] (hs E M) res) ∧ (¬ r1 ≤ x2 → (∃ (r2 : Int32), Rn 249 [.ref 59, .int x3] (hs E M) (some (.int r2)) (hs E M) ∧ Ev 6 250 275 [some (.ref 59), none, some (.int r2), some (.int (x3 + 1)), none] [] (hs E M) res))))))) : Ev 6 250 275 [some (.ref 59), none, some (.int x2), some (.int x3), none] [] (hs E M) res := by
  refine Ev.steps 2 (pc' := 277) (L' := [some (.ref 59), none, some (.int x2), some (.int x3), none]) (st' := [.ref 59, .int x3]) rfl ?_
  refine Ev.call (y := 243) (args := [.ref 59]) (rest := [.int x3]) (r := some (.int (F243 M))) rfl (s243) ?_
  show Ev 6 250 280 [some (.ref 59), none, some (.int x2), some (.int x3), none] [.int (F243 M), .int x3] _ _
  refine Ev.steps 1 (pc' := if (F243 M) ≤ x3 then 308 else 283) (L' := [some (.ref 59), none, some (.int x2), some (.int x3), none]) (st' := []) rfl ?_
  refine Ev_ite (fun hc => ?_) (fun hc => ?_)
  · replace H := H.1 hc
    refine Ev.steps 1 (pc' := 309) (L' := [some (.ref 59), none, some (.int x2), some (.int x3), none]) (st' := [.int x2]) rfl ?_
    subst H
    exact Ev.ret rfl
  · replace H := H.2 hc
    refine Ev.steps 2 (pc' := 285) (L' := [some (.ref 59), none, some (.int x2), some (.int x3), none]) (st' := [.int x3, .ref 59]) rfl ?_
    obtain ⟨r1, hr1, H⟩ := H
    refine Ev.call (y := 249) (args := [.ref 59, .int x3]) (rest := []) (r := (some (.int r1))) rfl hr1 ?_
    show Ev 6 250 288 [some (.ref 59), none, some (.int x2), some (.int x3), none] [.int r1] _ _
    refine Ev.steps 2 (pc' := if r1 ≤ x2 then 300 else 292) (L' := [some (.ref 59), none, some (.int x2), some (.int x3), none]) (st' := []) rfl ?_
    refine Ev_ite (fun hc => ?_) (fun hc => ?_)
    · replace H := H.1 hc
      refine Ev.steps 4 (pc' := 275) (L' := [some (.ref 59), none, some (.int x2), some (.int (x3 + 1)), none]) (st' := []) rfl ?_
      exact Ev.weak [some (.ref 59), none, some (.int x2), some (.int (x3 + 1)), none] (gw_leb_le ⟨rfl, rfl, rfl, trivial⟩) H
    · replace H := H.2 hc
      refine Ev.steps 2 (pc' := 294) (L' := [some (.ref 59), none, some (.int x2), some (.int x3), none]) (st' := [.int x3, .ref 59]) rfl ?_
      obtain ⟨r2, hr2, H⟩ := H
      refine Ev.call (y := 249) (args := [.ref 59, .int x3]) (rest := []) (r := (some (.int r2))) rfl hr2 ?_
      show Ev 6 250 297 [some (.ref 59), none, some (.int x2), some (.int x3), none] [.int r2] _ _
      refine Ev.steps 4 (pc' := 275) (L' := [some (.ref 59), none, some (.int r2), some (.int (x3 + 1)), none]) (st' := []) rfl ?_
      exact Ev.weak [some (.ref 59), none, some (.int r2), some (.int (x3 + 1)), none] (gw_leb_le ⟨rfl, rfl, rfl, trivial⟩) H

-- 251 GlassWiresModel end (II)I
set_option maxRecDepth 20000 in
theorem w251_0 {E : gw_N} {M : Mem} {res : Option Value × gw_H} {x1 : Int32} {x2 : Int32} (H : (((F209 M (Int32.toInt64 x1) 0 1) = 0 → res = (some (.int (-102)), hs E M)) ∧ (¬ (F209 M (Int32.toInt64 x1) 0 1) = 0 → (∃ (M1 : Mem), Rn 237 [.ref 59] (hs E M) none (hs E M1) ∧ Ev 6 251 22 [some (.ref 59), some (.int x1), some (.int x2), some (.int 0), some (.int 0)] [] (hs E M1) res)))) : Ev 6 251 0 [some (.ref 59), some (.int x1), some (.int x2), none, none] [] (hs E M) res := by
  refine Ev.steps 4 (pc' := 4) (L' := [some (.ref 59), some (.int x1), some (.int x2), none, none]) (st' := [.long 1, .long 0, .long (Int32.toInt64 x1)]) rfl ?_
  refine Ev.call (y := 209) (args := [.long (Int32.toInt64 x1), .long 0, .long 1]) (rest := []) (r := some (.int (F209 M (Int32.toInt64 x1) 0 1))) rfl (s209) ?_
  show Ev 6 251 7 [some (.ref 59), some (.int x1), some (.int x2), none, none] [.int (F209 M (Int32.toInt64 x1) 0 1)] _ _
  refine Ev.steps 1 (pc' := if (F209 M (Int32.toInt64 x1) 0 1) = 0 then 10 else 13) (L' := [some (.ref 59), some (.int x1), some (.int x2), none, none]) (st' := []) rfl ?_
  refine Ev_ite (fun hc => ?_) (fun hc => ?_)
  · replace H := H.1 hc
    refine Ev.steps 1 (pc' := 12) (L' := [some (.ref 59), some (.int x1), some (.int x2), none, none]) (st' := [.int (-102)]) rfl ?_
    subst H
    exact Ev.ret rfl
  · replace H := H.2 hc
    refine Ev.steps 1 (pc' := 14) (L' := [some (.ref 59), some (.int x1), some (.int x2), none, none]) (st' := [.ref 59]) rfl ?_
    obtain ⟨M1, hr1, H⟩ := H
    refine Ev.call (y := 237) (args := [.ref 59]) (rest := []) (r := none) rfl hr1 ?_
    show Ev 6 251 17 [some (.ref 59), some (.int x1), some (.int x2), none, none] [] _ _
    refine Ev.steps 4 (pc' := 22) (L' := [some (.ref 59), some (.int x1), some (.int x2), some (.int 0), some (.int 0)]) (st' := []) rfl ?_
    exact Ev.weak [some (.ref 59), some (.int x1), some (.int x2), some (.int 0), some (.int 0)] (gw_leb_le ⟨rfl, rfl, rfl, rfl, rfl, trivial⟩) H

set_option maxRecDepth 20000 in
theorem w251_22 {E : gw_N} {M : Mem} {res : Option Value × gw_H} {x1 : Int32} {x2 : Int32} {x3 : Int32} {x4 : Int32} (H : ((81 ≤ x4 → res = (some (.int (-1)), hs E M)) ∧ (¬ 81 ≤ x4 → (((F214 M (x4 - x4 / 9 * 9) (x4 / 9)) = 0 → Ev 6 251 22 [some (.ref 59), some (.int x1), some (.int x2), some (.int x3), some (.int (x4 + 1))] [] (hs E M) res) ∧ (¬ (F214 M (x4 - x4 / 9 * 9) (x4 / 9)) = 0 → ((x1 = 0 → (P240 M (x4 - x4 / 9 * 9) (x4 / 9) ∧ (((F240 M (x4 - x4 / 9 * 9) (x4 / 9)) = 0 → Ev 6 251 22 [some (.ref 59), some (.int x1), some (.int x2), some (.int x3), some (.int (x4 + 1))] [] (hs E M) res) ∧ (¬ (F240 M (x4 - x4 / 9 * 9) (x4 / 9)) = 0 → ((x3 = x2 → res = (some (.int ((10 * (x4 / 9)) + (x4 - x4 / 9 * 9))), hs E M)) ∧ (¬ x3 = x2 → Ev 6 251 22 [some (.ref 59), some (.int x1), some (.int x2), some (.int (x3 + 1)), some (.int (x4 + 1))] [] (hs E M) res)))))) ∧ (¬ x1 = 0 → (∃ (r1 : Int32), Rn 241 [.ref 59, .int (x4 - x4 / 9 * 9), .int (x4 / 9)] (hs E M) (some (.int r1)) (hs E M) ∧ ((r1 = 0 → Ev 6 251 22 [some (.ref 59), some (.int x1), some (.int x2), some (.int x3), some (.int (x4 + 1))] [] (hs E M) res) ∧ (¬ r1 = 0 → ((x3 = x2 → res = (some (.int ((10 * (x4 / 9)) + (x4 - x4 / 9 * 9))), hs E M)) ∧ (¬ x3 = x2 → Ev 6 251 22 [some (.ref 59), some (.int x1), some (.int x2), some (.int (x3 + 1)), some (.int (x4 + 1))] [] (hs E M) res)))))))))))) : Ev 6 251 22 [some (.ref 59), some (.int x1), some (.int x2), some (.int x3), some (.int x4)] [] (hs E M) res := by
  refine Ev.steps 3 (pc' := if 81 ≤ x4 then 116 else 29) (L' := [some (.ref 59), some (.int x1), some (.int x2), some (.int x3), some (.int x4)]) (st' := []) rfl ?_
  refine Ev_ite (fun hc => ?_) (fun hc => ?_)
  · replace H := H.1 hc
    refine Ev.steps 1 (pc' := 117) (L' := [some (.ref 59), some (.int x1), some (.int x2), some (.int x3), some (.int x4)]) (st' := [.int (-1)]) rfl ?_
    subst H
    exact Ev.ret rfl
  · replace H := H.2 hc
    refine Ev.steps 3 (pc' := 34) (L' := [some (.ref 59), some (.int x1), some (.int x2), some (.int x3), some (.int x4)]) (st' := [.int 9, .int x4, .ref 59]) rfl ?_
    refine Ev.dv (y := 9) (pc' := 35) (L' := [some (.ref 59), some (.int x1), some (.int x2), some (.int x3), some (.int x4)]) (st' := [.int (x4 - x4 / 9 * 9), .ref 59]) (by decide) rfl ?_
    refine Ev.steps 2 (pc' := 39) (L' := [some (.ref 59), some (.int x1), some (.int x2), some (.int x3), some (.int x4)]) (st' := [.int 9, .int x4, .int (x4 - x4 / 9 * 9), .ref 59]) rfl ?_
    refine Ev.dv (y := 9) (pc' := 40) (L' := [some (.ref 59), some (.int x1), some (.int x2), some (.int x3), some (.int x4)]) (st' := [.int (x4 / 9), .int (x4 - x4 / 9 * 9), .ref 59]) (by decide) rfl ?_
    refine Ev.call (y := 214) (args := [.ref 59, .int (x4 - x4 / 9 * 9), .int (x4 / 9)]) (rest := []) (r := some (.int (F214 M (x4 - x4 / 9 * 9) (x4 / 9)))) rfl (s214) ?_
    show Ev 6 251 43 [some (.ref 59), some (.int x1), some (.int x2), some (.int x3), some (.int x4)] [.int (F214 M (x4 - x4 / 9 * 9) (x4 / 9))] _ _
    refine Ev.steps 1 (pc' := if (F214 M (x4 - x4 / 9 * 9) (x4 / 9)) = 0 then 110 else 46) (L' := [some (.ref 59), some (.int x1), some (.int x2), some (.int x3), some (.int x4)]) (st' := []) rfl ?_
    refine Ev_ite (fun hc => ?_) (fun hc => ?_)
    · replace H := H.1 hc
      refine Ev.steps 2 (pc' := 22) (L' := [some (.ref 59), some (.int x1), some (.int x2), some (.int x3), some (.int (x4 + 1))]) (st' := []) rfl ?_
      exact Ev.weak [some (.ref 59), some (.int x1), some (.int x2), some (.int x3), some (.int (x4 + 1))] (gw_leb_le ⟨rfl, rfl, rfl, rfl, rfl, trivial⟩) H
    · replace H := H.2 hc
      refine Ev.steps 2 (pc' := if x1 = 0 then 50 else 70) (L' := [some (.ref 59), some (.int x1), some (.int x2), some (.int x3), some (.int x4)]) (st' := []) rfl ?_
      refine Ev_ite (fun hc => ?_) (fun hc => ?_)
      · replace H := H.1 hc
        refine Ev.steps 3 (pc' := 55) (L' := [some (.ref 59), some (.int x1), some (.int x2), some (.int x3), some (.int x4)]) (st' := [.int 9, .int x4, .ref 59]) rfl ?_
        refine Ev.dv (y := 9) (pc' := 56) (L' := [some (.ref 59), some (.int x1), some (.int x2), some (.int x3), some (.int x4)]) (st' := [.int (x4 - x4 / 9 * 9), .ref 59]) (by decide) rfl ?_
        refine Ev.steps 2 (pc' := 60) (L' := [some (.ref 59), some (.int x1), some (.int x2), some (.int x3), some (.int x4)]) (st' := [.int 9, .int x4, .int (x4 - x4 / 9 * 9), .ref 59]) rfl ?_
        refine Ev.dv (y := 9) (pc' := 61) (L' := [some (.ref 59), some (.int x1), some (.int x2), some (.int x3), some (.int x4)]) (st' := [.int (x4 / 9), .int (x4 - x4 / 9 * 9), .ref 59]) (by decide) rfl ?_
        refine Ev.call (y := 240) (args := [.ref 59, .int (x4 - x4 / 9 * 9), .int (x4 / 9)]) (rest := []) (r := some (.int (F240 M (x4 - x4 / 9 * 9) (x4 / 9)))) rfl (s240 H.1) ?_
        replace H := H.2
        show Ev 6 251 64 [some (.ref 59), some (.int x1), some (.int x2), some (.int x3), some (.int x4)] [.int (F240 M (x4 - x4 / 9 * 9) (x4 / 9))] _ _
        refine Ev.steps 1 (pc' := if (F240 M (x4 - x4 / 9 * 9) (x4 / 9)) = 0 then 110 else 67) (L' := [some (.ref 59), some (.int x1), some (.int x2), some (.int x3), some (.int x4)]) (st' := []) rfl ?_
        refine Ev_ite (fun hc => ?_) (fun hc => ?_)
        · replace H := H.1 hc
          refine Ev.steps 2 (pc' := 22) (L' := [some (.ref 59), some (.int x1), some (.int x2), some (.int x3), some (.int (x4 + 1))]) (st' := []) rfl ?_
          exact Ev.weak [some (.ref 59), some (.int x1), some (.int x2), some (.int x3), some (.int (x4 + 1))] (gw_leb_le ⟨rfl, rfl, rfl, rfl, rfl, trivial⟩) H
        · replace H := H.2 hc
          refine Ev.steps 4 (pc' := if x3 = x2 then 92 else 107) (L' := [some (.ref 59), some (.int x1), some (.int x2), some (.int x3), some (.int x4)]) (st' := []) rfl ?_
          refine Ev_ite (fun hc => ?_) (fun hc => ?_)
          · replace H := H.1 hc
            refine Ev.steps 3 (pc' := 98) (L' := [some (.ref 59), some (.int x1), some (.int x2), some (.int x3), some (.int x4)]) (st' := [.int 9, .int x4, .int 10]) rfl ?_
            refine Ev.dv (y := 9) (pc' := 99) (L' := [some (.ref 59), some (.int x1), some (.int x2), some (.int x3), some (.int x4)]) (st' := [.int (x4 / 9), .int 10]) (by decide) rfl ?_
            refine Ev.steps 3 (pc' := 104) (L' := [some (.ref 59), some (.int x1), some (.int x2), some (.int x3), some (.int x4)]) (st' := [.int 9, .int x4, .int (10 * (x4 / 9))]) rfl ?_
            refine Ev.dv (y := 9) (pc' := 105) (L' := [some (.ref 59), some (.int x1), some (.int x2), some (.int x3), some (.int x4)]) (st' := [.int (x4 - x4 / 9 * 9), .int (10 * (x4 / 9))]) (by decide) rfl ?_
            refine Ev.steps 1 (pc' := 106) (L' := [some (.ref 59), some (.int x1), some (.int x2), some (.int x3), some (.int x4)]) (st' := [.int ((10 * (x4 / 9)) + (x4 - x4 / 9 * 9))]) rfl ?_
            subst H
            exact Ev.ret rfl
          · replace H := H.2 hc
            refine Ev.steps 3 (pc' := 22) (L' := [some (.ref 59), some (.int x1), some (.int x2), some (.int (x3 + 1)), some (.int (x4 + 1))]) (st' := []) rfl ?_
            exact Ev.weak [some (.ref 59), some (.int x1), some (.int x2), some (.int (x3 + 1)), some (.int (x4 + 1))] (gw_leb_le ⟨rfl, rfl, rfl, rfl, rfl, trivial⟩) H
      · replace H := H.2 hc
        refine Ev.steps 3 (pc' := 75) (L' := [some (.ref 59), some (.int x1), some (.int x2), some (.int x3), some (.int x4)]) (st' := [.int 9, .int x4, .ref 59]) rfl ?_
        refine Ev.dv (y := 9) (pc' := 76) (L' := [some (.ref 59), some (.int x1), some (.int x2), some (.int x3), some (.int x4)]) (st' := [.int (x4 - x4 / 9 * 9), .ref 59]) (by decide) rfl ?_
        refine Ev.steps 2 (pc' := 80) (L' := [some (.ref 59), some (.int x1), some (.int x2), some (.int x3), some (.int x4)]) (st' := [.int 9, .int x4, .int (x4 - x4 / 9 * 9), .ref 59]) rfl ?_
        refine Ev.dv (y := 9) (pc' := 81) (L' := [some (.ref 59), some (.int x1), some (.int x2), some (.int x3), some (.int x4)]) (st' := [.int (x4 / 9), .int (x4 - x4 / 9 * 9), .ref 59]) (by decide) rfl ?_
        obtain ⟨r1, hr1, H⟩ := H
        refine Ev.call (y := 241) (args := [.ref 59, .int (x4 - x4 / 9 * 9), .int (x4 / 9)]) (rest := []) (r := (some (.int r1))) rfl hr1 ?_
        show Ev 6 251 84 [some (.ref 59), some (.int x1), some (.int x2), some (.int x3), some (.int x4)] [.int r1] _ _
        refine Ev.steps 1 (pc' := if r1 = 0 then 110 else 87) (L' := [some (.ref 59), some (.int x1), some (.int x2), some (.int x3), some (.int x4)]) (st' := []) rfl ?_
        refine Ev_ite (fun hc => ?_) (fun hc => ?_)
        · replace H := H.1 hc
          refine Ev.steps 2 (pc' := 22) (L' := [some (.ref 59), some (.int x1), some (.int x2), some (.int x3), some (.int (x4 + 1))]) (st' := []) rfl ?_
          exact Ev.weak [some (.ref 59), some (.int x1), some (.int x2), some (.int x3), some (.int (x4 + 1))] (gw_leb_le ⟨rfl, rfl, rfl, rfl, rfl, trivial⟩) H
        · replace H := H.2 hc
          refine Ev.steps 3 (pc' := if x3 = x2 then 92 else 107) (L' := [some (.ref 59), some (.int x1), some (.int x2), some (.int x3), some (.int x4)]) (st' := []) rfl ?_
          refine Ev_ite (fun hc => ?_) (fun hc => ?_)
          · replace H := H.1 hc
            refine Ev.steps 3 (pc' := 98) (L' := [some (.ref 59), some (.int x1), some (.int x2), some (.int x3), some (.int x4)]) (st' := [.int 9, .int x4, .int 10]) rfl ?_
            refine Ev.dv (y := 9) (pc' := 99) (L' := [some (.ref 59), some (.int x1), some (.int x2), some (.int x3), some (.int x4)]) (st' := [.int (x4 / 9), .int 10]) (by decide) rfl ?_
            refine Ev.steps 3 (pc' := 104) (L' := [some (.ref 59), some (.int x1), some (.int x2), some (.int x3), some (.int x4)]) (st' := [.int 9, .int x4, .int (10 * (x4 / 9))]) rfl ?_
            refine Ev.dv (y := 9) (pc' := 105) (L' := [some (.ref 59), some (.int x1), some (.int x2), some (.int x3), some (.int x4)]) (st' := [.int (x4 - x4 / 9 * 9), .int (10 * (x4 / 9))]) (by decide) rfl ?_
            refine Ev.steps 1 (pc' := 106) (L' := [some (.ref 59), some (.int x1), some (.int x2), some (.int x3), some (.int x4)]) (st' := [.int ((10 * (x4 / 9)) + (x4 - x4 / 9 * 9))]) rfl ?_
            subst H
            exact Ev.ret rfl
          · replace H := H.2 hc
            refine Ev.steps 3 (pc' := 22) (L' := [some (.ref 59), some (.int x1), some (.int x2), some (.int (x3 + 1)), some (.int (x4 + 1))]) (st' := []) rfl ?_
            exact Ev.weak [some (.ref 59), some (.int x1), some (.int x2), some (.int (x3 + 1)), some (.int (x4 + 1))] (gw_leb_le ⟨rfl, rfl, rfl, rfl, rfl, trivial⟩) H

-- 293 GlassWiresModel strain (II)I
set_option maxRecDepth 20000 in
theorem w293_0 {E : gw_N} {M : Mem} {res : Option Value × gw_H} {x1 : Int32} {x2 : Int32} (H : (((F209 M (Int32.toInt64 x1) 0 999) = 0 → res = (some (.int (-102)), hs E M)) ∧ (¬ (F209 M (Int32.toInt64 x1) 0 999) = 0 → (((F209 M (Int32.toInt64 x2) 0 (Int32.toInt64 x1)) = 0 → res = (some (.int (-102)), hs E M)) ∧ (¬ (F209 M (Int32.toInt64 x2) 0 (Int32.toInt64 x1)) = 0 → (∃ (r1 : Int32), Rn 292 [.ref 59, .int (x1 - x2)] (hs E M) (some (.int r1)) (hs E M) ∧ res = (some (.int r1), hs E M))))))) : Ev 6 293 0 [some (.ref 59), some (.int x1), some (.int x2)] [] (hs E M) res := by
  refine Ev.steps 4 (pc' := 6) (L' := [some (.ref 59), some (.int x1), some (.int x2)]) (st' := [.long 999, .long 0, .long (Int32.toInt64 x1)]) rfl ?_
  refine Ev.call (y := 209) (args := [.long (Int32.toInt64 x1), .long 0, .long 999]) (rest := []) (r := some (.int (F209 M (Int32.toInt64 x1) 0 999))) rfl (s209) ?_
  show Ev 6 293 9 [some (.ref 59), some (.int x1), some (.int x2)] [.int (F209 M (Int32.toInt64 x1) 0 999)] _ _
  refine Ev.steps 1 (pc' := if (F209 M (Int32.toInt64 x1) 0 999) = 0 then 33 else 12) (L' := [some (.ref 59), some (.int x1), some (.int x2)]) (st' := []) rfl ?_
  refine Ev_ite (fun hc => ?_) (fun hc => ?_)
  · replace H := H.1 hc
    refine Ev.steps 1 (pc' := 35) (L' := [some (.ref 59), some (.int x1), some (.int x2)]) (st' := [.int (-102)]) rfl ?_
    subst H
    exact Ev.ret rfl
  · replace H := H.2 hc
    refine Ev.steps 5 (pc' := 17) (L' := [some (.ref 59), some (.int x1), some (.int x2)]) (st' := [.long (Int32.toInt64 x1), .long 0, .long (Int32.toInt64 x2)]) rfl ?_
    refine Ev.call (y := 209) (args := [.long (Int32.toInt64 x2), .long 0, .long (Int32.toInt64 x1)]) (rest := []) (r := some (.int (F209 M (Int32.toInt64 x2) 0 (Int32.toInt64 x1)))) rfl (s209) ?_
    show Ev 6 293 20 [some (.ref 59), some (.int x1), some (.int x2)] [.int (F209 M (Int32.toInt64 x2) 0 (Int32.toInt64 x1))] _ _
    refine Ev.steps 1 (pc' := if (F209 M (Int32.toInt64 x2) 0 (Int32.toInt64 x1)) = 0 then 33 else 23) (L' := [some (.ref 59), some (.int x1), some (.int x2)]) (st' := []) rfl ?_
    refine Ev_ite (fun hc => ?_) (fun hc => ?_)
    · replace H := H.1 hc
      refine Ev.steps 1 (pc' := 35) (L' := [some (.ref 59), some (.int x1), some (.int x2)]) (st' := [.int (-102)]) rfl ?_
      subst H
      exact Ev.ret rfl
    · replace H := H.2 hc
      refine Ev.steps 4 (pc' := 27) (L' := [some (.ref 59), some (.int x1), some (.int x2)]) (st' := [.int (x1 - x2), .ref 59]) rfl ?_
      obtain ⟨r1, hr1, H⟩ := H
      refine Ev.call (y := 292) (args := [.ref 59, .int (x1 - x2)]) (rest := []) (r := (some (.int r1))) rfl hr1 ?_
      show Ev 6 293 30 [some (.ref 59), some (.int x1), some (.int x2)] [.int r1] _ _
      refine Ev.steps 1 (pc' := 35) (L' := [some (.ref 59), some (.int x1), some (.int x2)]) (st' := [.int r1]) rfl ?_
      subst H
      exact Ev.ret rfl

-- 294 GlassWiresModel longest ()I
set_option maxRecDepth 20000 in
theorem w294_0 {E : gw_N} {M : Mem} {res : Option Value × gw_H}  (H : Ev 6 294 2 [some (.ref 59), some (.int 0)] [] (hs E M) res) : Ev 6 294 0 [some (.ref 59), none] [] (hs E M) res := by
  refine Ev.steps 2 (pc' := 2) (L' := [some (.ref 59), some (.int 0)]) (st' := []) rfl ?_
  exact Ev.weak [some (.ref 59), some (.int 0)] (gw_leb_le ⟨rfl, rfl, trivial⟩) H

set_option maxRecDepth 20000 in
theorem w294_2 {E : gw_N} {M : Mem} {res : Option Value × gw_H} {x1 : Int32} (H : ((999 ≤ x1 → res = (some (.int x1), hs E M)) ∧ (¬ 999 ≤ x1 → (∃ (r1 : Int32), Rn 292 [.ref 59, .int (x1 + 1)] (hs E M) (some (.int r1)) (hs E M) ∧ ((((M 59) 24) < r1 → res = (some (.int x1), hs E M)) ∧ (¬ ((M 59) 24) < r1 → Ev 6 294 2 [some (.ref 59), some (.int (x1 + 1))] [] (hs E M) res)))))) : Ev 6 294 2 [some (.ref 59), some (.int x1)] [] (hs E M) res := by
  refine Ev.steps 3 (pc' := if 999 ≤ x1 then 29 else 9) (L' := [some (.ref 59), some (.int x1)]) (st' := []) rfl ?_
  refine Ev_ite (fun hc => ?_) (fun hc => ?_)
  · replace H := H.1 hc
    refine Ev.steps 1 (pc' := 30) (L' := [some (.ref 59), some (.int x1)]) (st' := [.int x1]) rfl ?_
    subst H
    exact Ev.ret rfl
  · replace H := H.2 hc
    refine Ev.steps 4 (pc' := 13) (L' := [some (.ref 59), some (.int x1)]) (st' := [.int (x1 + 1), .ref 59]) rfl ?_
    obtain ⟨r1, hr1, H⟩ := H
    refine Ev.call (y := 292) (args := [.ref 59, .int (x1 + 1)]) (rest := []) (r := (some (.int r1))) rfl hr1 ?_
    show Ev 6 294 16 [some (.ref 59), some (.int x1)] [.int r1] _ _
    refine Ev.steps 3 (pc' := if ((M 59) 24) < r1 then 29 else 23) (L' := [some (.ref 59), some (.int x1)]) (st' := []) rfl ?_
    refine Ev_ite (fun hc => ?_) (fun hc => ?_)
    · replace H := H.1 hc
      refine Ev.steps 1 (pc' := 30) (L' := [some (.ref 59), some (.int x1)]) (st' := [.int x1]) rfl ?_
      subst H
      exact Ev.ret rfl
    · replace H := H.2 hc
      refine Ev.steps 2 (pc' := 2) (L' := [some (.ref 59), some (.int (x1 + 1))]) (st' := []) rfl ?_
      exact Ev.weak [some (.ref 59), some (.int (x1 + 1))] (gw_leb_le ⟨rfl, rfl, trivial⟩) H

-- 70 GlassWires$Net places (I)I
set_option maxRecDepth 20000 in
theorem w70_0 {E : gw_N} {M : Mem} {res : Option Value × gw_H} {x1 : Int32} (H : Ev 7 70 4 [some (.ref 22), some (.int x1), some (.int 0), some (.int 0), none] [] (hs E M) res) : Ev 7 70 0 [some (.ref 22), some (.int x1), none, none, none] [] (hs E M) res := by
  refine Ev.steps 4 (pc' := 4) (L' := [some (.ref 22), some (.int x1), some (.int 0), some (.int 0), none]) (st' := []) rfl ?_
  exact Ev.weak [some (.ref 22), some (.int x1), some (.int 0), some (.int 0), none] (gw_leb_le ⟨rfl, rfl, rfl, rfl, trivial⟩) H

set_option maxRecDepth 20000 in
theorem w70_4 {E : gw_N} {M : Mem} {res : Option Value × gw_H} {x1 : Int32} {x2 : Int32} {x3 : Int32} (H : (((F39 M) < x3 → res = (some (.int x2), hs E M)) ∧ (¬ (F39 M) < x3 → Ev 7 70 18 [some (.ref 22), some (.int x1), some (.int x2), some (.int x3), some (.int 0)] [] (hs E M) res))) : Ev 7 70 4 [some (.ref 22), some (.int x1), some (.int x2), some (.int x3), none] [] (hs E M) res := by
  refine Ev.steps 3 (pc' := 9) (L' := [some (.ref 22), some (.int x1), some (.int x2), some (.int x3), none]) (st' := [.ref 9, .int x3]) rfl ?_
  refine Ev.call (y := 39) (args := [.ref 9]) (rest := [.int x3]) (r := some (.int (F39 M))) rfl (s39) ?_
  show Ev 7 70 12 [some (.ref 22), some (.int x1), some (.int x2), some (.int x3), none] [.int (F39 M), .int x3] _ _
  refine Ev.steps 1 (pc' := if (F39 M) < x3 then 56 else 15) (L' := [some (.ref 22), some (.int x1), some (.int x2), some (.int x3), none]) (st' := []) rfl ?_
  refine Ev_ite (fun hc => ?_) (fun hc => ?_)
  · replace H := H.1 hc
    refine Ev.steps 1 (pc' := 57) (L' := [some (.ref 22), some (.int x1), some (.int x2), some (.int x3), none]) (st' := [.int x2]) rfl ?_
    subst H
    exact Ev.ret rfl
  · replace H := H.2 hc
    refine Ev.steps 2 (pc' := 18) (L' := [some (.ref 22), some (.int x1), some (.int x2), some (.int x3), some (.int 0)]) (st' := []) rfl ?_
    exact Ev.weak [some (.ref 22), some (.int x1), some (.int x2), some (.int x3), some (.int 0)] (gw_leb_le ⟨rfl, rfl, rfl, rfl, rfl, trivial⟩) H

set_option maxRecDepth 20000 in
theorem w70_18 {E : gw_N} {M : Mem} {res : Option Value × gw_H} {x1 : Int32} {x2 : Int32} {x3 : Int32} {x4 : Int32} (H : (((F38 M) < x4 → Ev 7 70 4 [some (.ref 22), some (.int x1), some (.int x2), some (.int (x3 + 1)), none] [] (hs E M) res) ∧ (¬ (F38 M) < x4 → (∃ (r1 : Int32), Rn 72 [.ref 22, .int x1, .int x4, .int x3] (hs E M) (some (.int r1)) (hs E M) ∧ Ev 7 70 18 [some (.ref 22), some (.int x1), some (.int (x2 + (F206 M r1))), some (.int x3), some (.int (x4 + 1))] [] (hs E M) res)))) : Ev 7 70 18 [some (.ref 22), some (.int x1), some (.int x2), some (.int x3), some (.int x4)] [] (hs E M) res := by
  refine Ev.steps 3 (pc' := 24) (L' := [some (.ref 22), some (.int x1), some (.int x2), some (.int x3), some (.int x4)]) (st' := [.ref 9, .int x4]) rfl ?_
  refine Ev.call (y := 38) (args := [.ref 9]) (rest := [.int x4]) (r := some (.int (F38 M))) rfl (s38) ?_
  show Ev 7 70 27 [some (.ref 22), some (.int x1), some (.int x2), some (.int x3), some (.int x4)] [.int (F38 M), .int x4] _ _
  refine Ev.steps 1 (pc' := if (F38 M) < x4 then 50 else 30) (L' := [some (.ref 22), some (.int x1), some (.int x2), some (.int x3), some (.int x4)]) (st' := []) rfl ?_
  refine Ev_ite (fun hc => ?_) (fun hc => ?_)
  · replace H := H.1 hc
    refine Ev.steps 2 (pc' := 4) (L' := [some (.ref 22), some (.int x1), some (.int x2), some (.int (x3 + 1)), some (.int x4)]) (st' := []) rfl ?_
    exact Ev.weak [some (.ref 22), some (.int x1), some (.int x2), some (.int (x3 + 1)), none] (gw_leb_le ⟨rfl, rfl, rfl, rfl, trivial⟩) H
  · replace H := H.2 hc
    refine Ev.steps 5 (pc' := 36) (L' := [some (.ref 22), some (.int x1), some (.int x2), some (.int x3), some (.int x4)]) (st' := [.int x3, .int x4, .int x1, .ref 22, .int x2]) rfl ?_
    obtain ⟨r1, hr1, H⟩ := H
    refine Ev.call (y := 72) (args := [.ref 22, .int x1, .int x4, .int x3]) (rest := [.int x2]) (r := (some (.int r1))) rfl hr1 ?_
    show Ev 7 70 39 [some (.ref 22), some (.int x1), some (.int x2), some (.int x3), some (.int x4)] [.int r1, .int x2] _ _
    refine Ev.call (y := 206) (args := [.int r1]) (rest := [.int x2]) (r := some (.int (F206 M r1))) rfl (s206) ?_
    show Ev 7 70 42 [some (.ref 22), some (.int x1), some (.int x2), some (.int x3), some (.int x4)] [.int (F206 M r1), .int x2] _ _
    refine Ev.steps 4 (pc' := 18) (L' := [some (.ref 22), some (.int x1), some (.int (x2 + (F206 M r1))), some (.int x3), some (.int (x4 + 1))]) (st' := []) rfl ?_
    exact Ev.weak [some (.ref 22), some (.int x1), some (.int (x2 + (F206 M r1))), some (.int x3), some (.int (x4 + 1))] (gw_leb_le ⟨rfl, rfl, rfl, rfl, rfl, trivial⟩) H

-- 71 GlassWires$Net place (II)I
set_option maxRecDepth 20000 in
theorem w71_0 {E : gw_N} {M : Mem} {res : Option Value × gw_H} {x1 : Int32} {x2 : Int32} (H : Ev 7 71 5 [some (.ref 22), some (.int x1), none, some (.int x2), some (.int 0), none] [] (hs E M) res) : Ev 7 71 0 [some (.ref 22), some (.int x1), some (.int x2), none, none, none] [] (hs E M) res := by
  refine Ev.steps 4 (pc' := 5) (L' := [some (.ref 22), some (.int x1), some (.int x2), some (.int x2), some (.int 0), none]) (st' := []) rfl ?_
  exact Ev.weak [some (.ref 22), some (.int x1), none, some (.int x2), some (.int 0), none] (gw_leb_le ⟨rfl, rfl, rfl, rfl, trivial⟩) H

set_option maxRecDepth 20000 in
theorem w71_5 {E : gw_N} {M : Mem} {res : Option Value × gw_H} {x1 : Int32} {x3 : Int32} {x4 : Int32} (H : (((F39 M) < x4 → res = (some (.int (-1)), hs E M)) ∧ (¬ (F39 M) < x4 → Ev 7 71 20 [some (.ref 22), some (.int x1), none, some (.int x3), some (.int x4), some (.int 0)] [] (hs E M) res))) : Ev 7 71 5 [some (.ref 22), some (.int x1), none, some (.int x3), some (.int x4), none] [] (hs E M) res := by
  refine Ev.steps 3 (pc' := 11) (L' := [some (.ref 22), some (.int x1), none, some (.int x3), some (.int x4), none]) (st' := [.ref 9, .int x4]) rfl ?_
  refine Ev.call (y := 39) (args := [.ref 9]) (rest := [.int x4]) (r := some (.int (F39 M))) rfl (s39) ?_
  show Ev 7 71 14 [some (.ref 22), some (.int x1), none, some (.int x3), some (.int x4), none] [.int (F39 M), .int x4] _ _
  refine Ev.steps 1 (pc' := if (F39 M) < x4 then 71 else 17) (L' := [some (.ref 22), some (.int x1), none, some (.int x3), some (.int x4), none]) (st' := []) rfl ?_
  refine Ev_ite (fun hc => ?_) (fun hc => ?_)
  · replace H := H.1 hc
    refine Ev.steps 1 (pc' := 72) (L' := [some (.ref 22), some (.int x1), none, some (.int x3), some (.int x4), none]) (st' := [.int (-1)]) rfl ?_
    subst H
    exact Ev.ret rfl
  · replace H := H.2 hc
    refine Ev.steps 2 (pc' := 20) (L' := [some (.ref 22), some (.int x1), none, some (.int x3), some (.int x4), some (.int 0)]) (st' := []) rfl ?_
    exact Ev.weak [some (.ref 22), some (.int x1), none, some (.int x3), some (.int x4), some (.int 0)] (gw_leb_le ⟨rfl, rfl, rfl, rfl, rfl, trivial⟩) H

set_option maxRecDepth 20000 in
theorem w71_20 {E : gw_N} {M : Mem} {res : Option Value × gw_H} {x1 : Int32} {x3 : Int32} {x4 : Int32} {x5 : Int32} (H : (((F38 M) < x5 → Ev 7 71 5 [some (.ref 22), some (.int x1), none, some (.int x3), some (.int (x4 + 1)), none] [] (hs E M) res) ∧ (¬ (F38 M) < x5 → (∃ (r1 : Int32), Rn 72 [.ref 22, .int x1, .int x5, .int x4] (hs E M) (some (.int r1)) (hs E M) ∧ ((r1 = 0 → Ev 7 71 20 [some (.ref 22), some (.int x1), none, some (.int x3), some (.int x4), some (.int (x5 + 1))] [] (hs E M) res) ∧ (¬ r1 = 0 → ((x3 = 0 → res = (some (.int (F48 M x5 x4)), hs E M)) ∧ (¬ x3 = 0 → Ev 7 71 20 [some (.ref 22), some (.int x1), none, some (.int (x3 + (-1))), some (.int x4), some (.int (x5 + 1))] [] (hs E M) res)))))))) : Ev 7 71 20 [some (.ref 22), some (.int x1), none, some (.int x3), some (.int x4), some (.int x5)] [] (hs E M) res := by
  refine Ev.steps 3 (pc' := 26) (L' := [some (.ref 22), some (.int x1), none, some (.int x3), some (.int x4), some (.int x5)]) (st' := [.ref 9, .int x5]) rfl ?_
  refine Ev.call (y := 38) (args := [.ref 9]) (rest := [.int x5]) (r := some (.int (F38 M))) rfl (s38) ?_
  show Ev 7 71 29 [some (.ref 22), some (.int x1), none, some (.int x3), some (.int x4), some (.int x5)] [.int (F38 M), .int x5] _ _
  refine Ev.steps 1 (pc' := if (F38 M) < x5 then 65 else 32) (L' := [some (.ref 22), some (.int x1), none, some (.int x3), some (.int x4), some (.int x5)]) (st' := []) rfl ?_
  refine Ev_ite (fun hc => ?_) (fun hc => ?_)
  · replace H := H.1 hc
    refine Ev.steps 2 (pc' := 5) (L' := [some (.ref 22), some (.int x1), none, some (.int x3), some (.int (x4 + 1)), some (.int x5)]) (st' := []) rfl ?_
    exact Ev.weak [some (.ref 22), some (.int x1), none, some (.int x3), some (.int (x4 + 1)), none] (gw_leb_le ⟨rfl, rfl, rfl, rfl, trivial⟩) H
  · replace H := H.2 hc
    refine Ev.steps 4 (pc' := 38) (L' := [some (.ref 22), some (.int x1), none, some (.int x3), some (.int x4), some (.int x5)]) (st' := [.int x4, .int x5, .int x1, .ref 22]) rfl ?_
    obtain ⟨r1, hr1, H⟩ := H
    refine Ev.call (y := 72) (args := [.ref 22, .int x1, .int x5, .int x4]) (rest := []) (r := (some (.int r1))) rfl hr1 ?_
    show Ev 7 71 41 [some (.ref 22), some (.int x1), none, some (.int x3), some (.int x4), some (.int x5)] [.int r1] _ _
    refine Ev.steps 1 (pc' := if r1 = 0 then 59 else 44) (L' := [some (.ref 22), some (.int x1), none, some (.int x3), some (.int x4), some (.int x5)]) (st' := []) rfl ?_
    refine Ev_ite (fun hc => ?_) (fun hc => ?_)
    · replace H := H.1 hc
      refine Ev.steps 2 (pc' := 20) (L' := [some (.ref 22), some (.int x1), none, some (.int x3), some (.int x4), some (.int (x5 + 1))]) (st' := []) rfl ?_
      exact Ev.weak [some (.ref 22), some (.int x1), none, some (.int x3), some (.int x4), some (.int (x5 + 1))] (gw_leb_le ⟨rfl, rfl, rfl, rfl, rfl, trivial⟩) H
    · replace H := H.2 hc
      refine Ev.steps 2 (pc' := if x3 = 0 then 48 else 56) (L' := [some (.ref 22), some (.int x1), none, some (.int x3), some (.int x4), some (.int x5)]) (st' := []) rfl ?_
      refine Ev_ite (fun hc => ?_) (fun hc => ?_)
      · replace H := H.1 hc
        refine Ev.steps 2 (pc' := 52) (L' := [some (.ref 22), some (.int x1), none, some (.int x3), some (.int x4), some (.int x5)]) (st' := [.int x4, .int x5]) rfl ?_
        refine Ev.call (y := 48) (args := [.int x5, .int x4]) (rest := []) (r := some (.int (F48 M x5 x4))) rfl (s48) ?_
        show Ev 7 71 55 [some (.ref 22), some (.int x1), none, some (.int x3), some (.int x4), some (.int x5)] [.int (F48 M x5 x4)] _ _
        subst H
        exact Ev.ret rfl
      · replace H := H.2 hc
        refine Ev.steps 3 (pc' := 20) (L' := [some (.ref 22), some (.int x1), none, some (.int (x3 + (-1))), some (.int x4), some (.int (x5 + 1))]) (st' := []) rfl ?_
        exact Ev.weak [some (.ref 22), some (.int x1), none, some (.int (x3 + (-1))), some (.int x4), some (.int (x5 + 1))] (gw_leb_le ⟨rfl, rfl, rfl, rfl, rfl, trivial⟩) H

-- 75 GlassWires$Net pieces ()I
set_option maxRecDepth 20000 in
theorem w75_0 {E : gw_N} {M : Mem} {res : Option Value × gw_H}  (H : (∃ (M1 : Mem), Rn 313 [.ref 30, .int 0] (hs E M) none (hs E M1) ∧ Ev 7 75 12 [some (.ref 22), some (.int 0), some (.int 0), none] [] (hs E M1) res)) : Ev 7 75 0 [some (.ref 22), none, none, none] [] (hs E M) res := by
  refine Ev.steps 3 (pc' := 5) (L' := [some (.ref 22), none, none, none]) (st' := [.int 0, .ref 30]) rfl ?_
  obtain ⟨M1, hr1, H⟩ := H
  refine Ev.call (y := 313) (args := [.ref 30, .int 0]) (rest := []) (r := none) rfl hr1 ?_
  show Ev 7 75 8 [some (.ref 22), none, none, none] [] _ _
  refine Ev.steps 4 (pc' := 12) (L' := [some (.ref 22), some (.int 0), some (.int 0), none]) (st' := []) rfl ?_
  exact Ev.weak [some (.ref 22), some (.int 0), some (.int 0), none] (gw_leb_le ⟨rfl, rfl, rfl, trivial⟩) H

set_option maxRecDepth 20000 in
theorem w75_12 {E : gw_N} {M : Mem} {res : Option Value × gw_H} {x1 : Int32} {x2 : Int32} (H : (((F39 M) < x2 → res = (some (.int x1), hs E M)) ∧ (¬ (F39 M) < x2 → Ev 7 75 25 [some (.ref 22), some (.int x1), some (.int x2), some (.int 0)] [] (hs E M) res))) : Ev 7 75 12 [some (.ref 22), some (.int x1), some (.int x2), none] [] (hs E M) res := by
  refine Ev.steps 3 (pc' := 17) (L' := [some (.ref 22), some (.int x1), some (.int x2), none]) (st' := [.ref 9, .int x2]) rfl ?_
  refine Ev.call (y := 39) (args := [.ref 9]) (rest := [.int x2]) (r := some (.int (F39 M))) rfl (s39) ?_
  show Ev 7 75 20 [some (.ref 22), some (.int x1), some (.int x2), none] [.int (F39 M), .int x2] _ _
  refine Ev.steps 1 (pc' := if (F39 M) < x2 then 85 else 23) (L' := [some (.ref 22), some (.int x1), some (.int x2), none]) (st' := []) rfl ?_
  refine Ev_ite (fun hc => ?_) (fun hc => ?_)
  · replace H := H.1 hc
    refine Ev.steps 1 (pc' := 86) (L' := [some (.ref 22), some (.int x1), some (.int x2), none]) (st' := [.int x1]) rfl ?_
    subst H
    exact Ev.ret rfl
  · replace H := H.2 hc
    refine Ev.steps 2 (pc' := 25) (L' := [some (.ref 22), some (.int x1), some (.int x2), some (.int 0)]) (st' := []) rfl ?_
    exact Ev.weak [some (.ref 22), some (.int x1), some (.int x2), some (.int 0)] (gw_leb_le ⟨rfl, rfl, rfl, rfl, trivial⟩) H

set_option maxRecDepth 20000 in
theorem w75_25 {E : gw_N} {M : Mem} {res : Option Value × gw_H} {x1 : Int32} {x2 : Int32} {x3 : Int32} (H : (((F38 M) < x3 → Ev 7 75 12 [some (.ref 22), some (.int x1), some (.int (x2 + 1)), none] [] (hs E M) res) ∧ (¬ (F38 M) < x3 → (inb (F48 M x3 x2) 89 ∧ ((((M 30) ((F48 M x3 x2) : Int32).toNatClampNeg) = 0 → (∃ (r1 : Int32), Rn 73 [.ref 22, .int x3, .int x2] (hs E M) (some (.int r1)) (hs E M) ∧ ((r1 ≤ 0 → Ev 7 75 25 [some (.ref 22), some (.int x1), some (.int x2), some (.int (x3 + 1))] [] (hs E M) res) ∧ (¬ r1 ≤ 0 → (∃ (r2 : Int32) (M2 : Mem), Rn 76 [.ref 22, .int x3, .int x2] (hs E M) (some (.int r2)) (hs E M2) ∧ Ev 7 75 25 [some (.ref 22), some (.int (x1 + (F311 M2 1 (r2 / 2)))), some (.int x2), some (.int (x3 + 1))] [] (hs E M2) res))))) ∧ (¬ ((M 30) ((F48 M x3 x2) : Int32).toNatClampNeg) = 0 → Ev 7 75 25 [some (.ref 22), some (.int x1), some (.int x2), some (.int (x3 + 1))] [] (hs E M) res)))))) : Ev 7 75 25 [some (.ref 22), some (.int x1), some (.int x2), some (.int x3)] [] (hs E M) res := by
  refine Ev.steps 3 (pc' := 30) (L' := [some (.ref 22), some (.int x1), some (.int x2), some (.int x3)]) (st' := [.ref 9, .int x3]) rfl ?_
  refine Ev.call (y := 38) (args := [.ref 9]) (rest := [.int x3]) (r := some (.int (F38 M))) rfl (s38) ?_
  show Ev 7 75 33 [some (.ref 22), some (.int x1), some (.int x2), some (.int x3)] [.int (F38 M), .int x3] _ _
  refine Ev.steps 1 (pc' := if (F38 M) < x3 then 79 else 36) (L' := [some (.ref 22), some (.int x1), some (.int x2), some (.int x3)]) (st' := []) rfl ?_
  refine Ev_ite (fun hc => ?_) (fun hc => ?_)
  · replace H := H.1 hc
    refine Ev.steps 2 (pc' := 12) (L' := [some (.ref 22), some (.int x1), some (.int (x2 + 1)), some (.int x3)]) (st' := []) rfl ?_
    exact Ev.weak [some (.ref 22), some (.int x1), some (.int (x2 + 1)), none] (gw_leb_le ⟨rfl, rfl, rfl, trivial⟩) H
  · replace H := H.2 hc
    refine Ev.steps 4 (pc' := 42) (L' := [some (.ref 22), some (.int x1), some (.int x2), some (.int x3)]) (st' := [.int x2, .int x3, .ref 30]) rfl ?_
    refine Ev.call (y := 48) (args := [.int x3, .int x2]) (rest := [.ref 30]) (r := some (.int (F48 M x3 x2))) rfl (s48) ?_
    show Ev 7 75 45 [some (.ref 22), some (.int x1), some (.int x2), some (.int x3)] [.int (F48 M x3 x2), .ref 30] _ _
    refine Ev.rd (i := (F48 M x3 x2)) (n := 89) (pc' := 46) (L' := [some (.ref 22), some (.int x1), some (.int x2), some (.int x3)]) (st' := [.int ((M 30) ((F48 M x3 x2) : Int32).toNatClampNeg)]) H.1 rfl ?_
    replace H := H.2
    refine Ev.steps 1 (pc' := if ((M 30) ((F48 M x3 x2) : Int32).toNatClampNeg) = 0 then 49 else 73) (L' := [some (.ref 22), some (.int x1), some (.int x2), some (.int x3)]) (st' := []) rfl ?_
    refine Ev_ite (fun hc => ?_) (fun hc => ?_)
    · replace H := H.1 hc
      refine Ev.steps 3 (pc' := 52) (L' := [some (.ref 22), some (.int x1), some (.int x2), some (.int x3)]) (st' := [.int x2, .int x3, .ref 22]) rfl ?_
      obtain ⟨r1, hr1, H⟩ := H
      refine Ev.call (y := 73) (args := [.ref 22, .int x3, .int x2]) (rest := []) (r := (some (.int r1))) rfl hr1 ?_
      show Ev 7 75 55 [some (.ref 22), some (.int x1), some (.int x2), some (.int x3)] [.int r1] _ _
      refine Ev.steps 1 (pc' := if r1 ≤ 0 then 73 else 58) (L' := [some (.ref 22), some (.int x1), some (.int x2), some (.int x3)]) (st' := []) rfl ?_
      refine Ev_ite (fun hc => ?_) (fun hc => ?_)
      · replace H := H.1 hc
        refine Ev.steps 2 (pc' := 25) (L' := [some (.ref 22), some (.int x1), some (.int x2), some (.int (x3 + 1))]) (st' := []) rfl ?_
        exact Ev.weak [some (.ref 22), some (.int x1), some (.int x2), some (.int (x3 + 1))] (gw_leb_le ⟨rfl, rfl, rfl, rfl, trivial⟩) H
      · replace H := H.2 hc
        refine Ev.steps 5 (pc' := 63) (L' := [some (.ref 22), some (.int x1), some (.int x2), some (.int x3)]) (st' := [.int x2, .int x3, .ref 22, .int 1, .int x1]) rfl ?_
        obtain ⟨r2, M2, hr2, H⟩ := H
        refine Ev.call (y := 76) (args := [.ref 22, .int x3, .int x2]) (rest := [.int 1, .int x1]) (r := (some (.int r2))) rfl hr2 ?_
        show Ev 7 75 66 [some (.ref 22), some (.int x1), some (.int x2), some (.int x3)] [.int r2, .int 1, .int x1] _ _
        refine Ev.steps 1 (pc' := 67) (L' := [some (.ref 22), some (.int x1), some (.int x2), some (.int x3)]) (st' := [.int 2, .int r2, .int 1, .int x1]) rfl ?_
        refine Ev.dv (y := 2) (pc' := 68) (L' := [some (.ref 22), some (.int x1), some (.int x2), some (.int x3)]) (st' := [.int (r2 / 2), .int 1, .int x1]) (by decide) rfl ?_
        refine Ev.call (y := 311) (args := [.int 1, .int (r2 / 2)]) (rest := [.int x1]) (r := some (.int (F311 M2 1 (r2 / 2)))) rfl (s311) ?_
        show Ev 7 75 71 [some (.ref 22), some (.int x1), some (.int x2), some (.int x3)] [.int (F311 M2 1 (r2 / 2)), .int x1] _ _
        refine Ev.steps 4 (pc' := 25) (L' := [some (.ref 22), some (.int (x1 + (F311 M2 1 (r2 / 2)))), some (.int x2), some (.int (x3 + 1))]) (st' := []) rfl ?_
        exact Ev.weak [some (.ref 22), some (.int (x1 + (F311 M2 1 (r2 / 2)))), some (.int x2), some (.int (x3 + 1))] (gw_leb_le ⟨rfl, rfl, rfl, rfl, trivial⟩) H
    · replace H := H.2 hc
      refine Ev.steps 2 (pc' := 25) (L' := [some (.ref 22), some (.int x1), some (.int x2), some (.int (x3 + 1))]) (st' := []) rfl ?_
      exact Ev.weak [some (.ref 22), some (.int x1), some (.int x2), some (.int (x3 + 1))] (gw_leb_le ⟨rfl, rfl, rfl, rfl, trivial⟩) H

-- 139 GlassWires$Tension heatBehind (II)I
set_option maxRecDepth 20000 in
theorem w139_0 {E : gw_N} {M : Mem} {res : Option Value × gw_H} {x1 : Int32} {x2 : Int32} (H : ((x2 = 0 → res = (some (.int x1), hs E M)) ∧ (¬ x2 = 0 → ((x2 < 0 → res = (some (.int (-1)), hs E M)) ∧ (¬ x2 < 0 → (∃ (r1 : Int32), Rn 138 [.ref 53, .int x1] (hs E M) (some (.int r1)) (hs E M) ∧ ((x2 ≤ r1 → (∃ (r2 : Int32), Rn 137 [.ref 53, .int x1] (hs E M) (some (.int r2)) (hs E M) ∧ res = (some (.int (F311 M 0 (x1 - (x2 * r2)))), hs E M))) ∧ (¬ x2 ≤ r1 → res = (some (.int (-1)), hs E M))))))))) : Ev 7 139 0 [some (.ref 53), some (.int x1), some (.int x2)] [] (hs E M) res := by
  refine Ev.steps 2 (pc' := if x2 = 0 then 4 else 6) (L' := [some (.ref 53), some (.int x1), some (.int x2)]) (st' := []) rfl ?_
  refine Ev_ite (fun hc => ?_) (fun hc => ?_)
  · replace H := H.1 hc
    refine Ev.steps 1 (pc' := 5) (L' := [some (.ref 53), some (.int x1), some (.int x2)]) (st' := [.int x1]) rfl ?_
    subst H
    exact Ev.ret rfl
  · replace H := H.2 hc
    refine Ev.steps 2 (pc' := if x2 < 0 then 19 else 10) (L' := [some (.ref 53), some (.int x1), some (.int x2)]) (st' := []) rfl ?_
    refine Ev_ite (fun hc => ?_) (fun hc => ?_)
    · replace H := H.1 hc
      refine Ev.steps 1 (pc' := 20) (L' := [some (.ref 53), some (.int x1), some (.int x2)]) (st' := [.int (-1)]) rfl ?_
      subst H
      exact Ev.ret rfl
    · replace H := H.2 hc
      refine Ev.steps 3 (pc' := 13) (L' := [some (.ref 53), some (.int x1), some (.int x2)]) (st' := [.int x1, .ref 53, .int x2]) rfl ?_
      obtain ⟨r1, hr1, H⟩ := H
      refine Ev.call (y := 138) (args := [.ref 53, .int x1]) (rest := [.int x2]) (r := (some (.int r1))) rfl hr1 ?_
      show Ev 7 139 16 [some (.ref 53), some (.int x1), some (.int x2)] [.int r1, .int x2] _ _
      refine Ev.steps 1 (pc' := if x2 ≤ r1 then 21 else 19) (L' := [some (.ref 53), some (.int x1), some (.int x2)]) (st' := []) rfl ?_
      refine Ev_ite (fun hc => ?_) (fun hc => ?_)
      · replace H := H.1 hc
        refine Ev.steps 5 (pc' := 26) (L' := [some (.ref 53), some (.int x1), some (.int x2)]) (st' := [.int x1, .ref 53, .int x2, .int x1, .int 0]) rfl ?_
        obtain ⟨r2, hr2, H⟩ := H
        refine Ev.call (y := 137) (args := [.ref 53, .int x1]) (rest := [.int x2, .int x1, .int 0]) (r := (some (.int r2))) rfl hr2 ?_
        show Ev 7 139 29 [some (.ref 53), some (.int x1), some (.int x2)] [.int r2, .int x2, .int x1, .int 0] _ _
        refine Ev.steps 2 (pc' := 31) (L' := [some (.ref 53), some (.int x1), some (.int x2)]) (st' := [.int (x1 - (x2 * r2)), .int 0]) rfl ?_
        refine Ev.call (y := 311) (args := [.int 0, .int (x1 - (x2 * r2))]) (rest := []) (r := some (.int (F311 M 0 (x1 - (x2 * r2))))) rfl (s311) ?_
        show Ev 7 139 34 [some (.ref 53), some (.int x1), some (.int x2)] [.int (F311 M 0 (x1 - (x2 * r2)))] _ _
        subst H
        exact Ev.ret rfl
      · replace H := H.2 hc
        refine Ev.steps 1 (pc' := 20) (L' := [some (.ref 53), some (.int x1), some (.int x2)]) (st' := [.int (-1)]) rfl ?_
        subst H
        exact Ev.ret rfl

-- 161 GlassWires plate (II)I
set_option maxRecDepth 20000 in
theorem w161_0 {E : gw_N} {M : Mem} {res : Option Value × gw_H} {x1 : Int32} {x2 : Int32} (H : (((F36 M x1) = 0 → res = (some (.int (-102)), hs E M)) ∧ (¬ (F36 M x1) = 0 → (((F36 M x2) = 0 → res = (some (.int (-102)), hs E M)) ∧ (¬ (F36 M x2) = 0 → (∃ (M1 : Mem), Rn 37 [.ref 9, .int x1, .int x2] (hs E M) none (hs E M1) ∧ (∃ (M2 : Mem), Rn 142 [.ref 14] (hs E M1) none (hs E M2) ∧ (∃ (M3 : Mem), Rn 9 [.ref 44] (hs E M2) none (hs E M3) ∧ (∃ (M4 : Mem), Rn 129 [.ref 53, .int 0, .int 0] (hs E M3) none (hs E M4) ∧ (∃ (M5 : Mem), Rn 118 [.ref 54] (hs E M4) none (hs E M5) ∧ (∃ (M6 : Mem), Rn 203 [.ref 8] (hs E M5) none (hs E M6) ∧ res = (some (.int (F40 M6)), hs E M6)))))))))))) : Ev 7 161 0 [some (.ref 8), some (.int x1), some (.int x2)] [] (hs E M) res := by
  refine Ev.steps 1 (pc' := 1) (L' := [some (.ref 8), some (.int x1), some (.int x2)]) (st' := [.int x1]) rfl ?_
  refine Ev.call (y := 36) (args := [.int x1]) (rest := []) (r := some (.int (F36 M x1))) rfl (s36) ?_
  show Ev 7 161 4 [some (.ref 8), some (.int x1), some (.int x2)] [.int (F36 M x1)] _ _
  refine Ev.steps 1 (pc' := if (F36 M x1) = 0 then 14 else 7) (L' := [some (.ref 8), some (.int x1), some (.int x2)]) (st' := []) rfl ?_
  refine Ev_ite (fun hc => ?_) (fun hc => ?_)
  · replace H := H.1 hc
    refine Ev.steps 1 (pc' := 16) (L' := [some (.ref 8), some (.int x1), some (.int x2)]) (st' := [.int (-102)]) rfl ?_
    subst H
    exact Ev.ret rfl
  · replace H := H.2 hc
    refine Ev.steps 1 (pc' := 8) (L' := [some (.ref 8), some (.int x1), some (.int x2)]) (st' := [.int x2]) rfl ?_
    refine Ev.call (y := 36) (args := [.int x2]) (rest := []) (r := some (.int (F36 M x2))) rfl (s36) ?_
    show Ev 7 161 11 [some (.ref 8), some (.int x1), some (.int x2)] [.int (F36 M x2)] _ _
    refine Ev.steps 1 (pc' := if (F36 M x2) = 0 then 14 else 17) (L' := [some (.ref 8), some (.int x1), some (.int x2)]) (st' := []) rfl ?_
    refine Ev_ite (fun hc => ?_) (fun hc => ?_)
    · replace H := H.1 hc
      refine Ev.steps 1 (pc' := 16) (L' := [some (.ref 8), some (.int x1), some (.int x2)]) (st' := [.int (-102)]) rfl ?_
      subst H
      exact Ev.ret rfl
    · replace H := H.2 hc
      refine Ev.steps 4 (pc' := 23) (L' := [some (.ref 8), some (.int x1), some (.int x2)]) (st' := [.int x2, .int x1, .ref 9]) rfl ?_
      obtain ⟨M1, hr1, H⟩ := H
      refine Ev.call (y := 37) (args := [.ref 9, .int x1, .int x2]) (rest := []) (r := none) rfl hr1 ?_
      show Ev 7 161 26 [some (.ref 8), some (.int x1), some (.int x2)] [] _ _
      refine Ev.steps 2 (pc' := 30) (L' := [some (.ref 8), some (.int x1), some (.int x2)]) (st' := [.ref 14]) rfl ?_
      obtain ⟨M2, hr2, H⟩ := H
      refine Ev.call (y := 142) (args := [.ref 14]) (rest := []) (r := none) rfl hr2 ?_
      show Ev 7 161 33 [some (.ref 8), some (.int x1), some (.int x2)] [] _ _
      refine Ev.steps 2 (pc' := 37) (L' := [some (.ref 8), some (.int x1), some (.int x2)]) (st' := [.ref 44]) rfl ?_
      obtain ⟨M3, hr3, H⟩ := H
      refine Ev.call (y := 9) (args := [.ref 44]) (rest := []) (r := none) rfl hr3 ?_
      show Ev 7 161 40 [some (.ref 8), some (.int x1), some (.int x2)] [] _ _
      refine Ev.steps 4 (pc' := 46) (L' := [some (.ref 8), some (.int x1), some (.int x2)]) (st' := [.int 0, .int 0, .ref 53]) rfl ?_
      obtain ⟨M4, hr4, H⟩ := H
      refine Ev.call (y := 129) (args := [.ref 53, .int 0, .int 0]) (rest := []) (r := none) rfl hr4 ?_
      show Ev 7 161 49 [some (.ref 8), some (.int x1), some (.int x2)] [] _ _
      refine Ev.steps 2 (pc' := 53) (L' := [some (.ref 8), some (.int x1), some (.int x2)]) (st' := [.ref 54]) rfl ?_
      obtain ⟨M5, hr5, H⟩ := H
      refine Ev.call (y := 118) (args := [.ref 54]) (rest := []) (r := none) rfl hr5 ?_
      show Ev 7 161 56 [some (.ref 8), some (.int x1), some (.int x2)] [] _ _
      refine Ev.steps 1 (pc' := 57) (L' := [some (.ref 8), some (.int x1), some (.int x2)]) (st' := [.ref 8]) rfl ?_
      obtain ⟨M6, hr6, H⟩ := H
      refine Ev.call (y := 203) (args := [.ref 8]) (rest := []) (r := none) rfl hr6 ?_
      show Ev 7 161 60 [some (.ref 8), some (.int x1), some (.int x2)] [] _ _
      refine Ev.steps 2 (pc' := 64) (L' := [some (.ref 8), some (.int x1), some (.int x2)]) (st' := [.ref 9]) rfl ?_
      refine Ev.call (y := 40) (args := [.ref 9]) (rest := []) (r := some (.int (F40 M6))) rfl (s40) ?_
      show Ev 7 161 67 [some (.ref 8), some (.int x1), some (.int x2)] [.int (F40 M6)] _ _
      subst H
      exact Ev.ret rfl

-- 165 GlassWires wire (II)I
set_option maxRecDepth 20000 in
theorem w165_0 {E : gw_N} {M : Mem} {res : Option Value × gw_H} {x1 : Int32} {x2 : Int32} (H : (((F41 M x1 x2) = 0 → res = (some (.int (-101)), hs E M)) ∧ (¬ (F41 M x1 x2) = 0 → (∃ (r1 : Int32), Rn 85 [.ref 12, .ref 9, .int x1, .int x2] (hs E M) (some (.int r1)) (hs E M) ∧ ((r1 = 0 → res = (some (.int (-103)), hs E M)) ∧ (¬ r1 = 0 → (∃ (r2 : Int32) (M2 : Mem), Rn 156 [.ref 14, .ref 12, .int x1, .int x2] (hs E M) (some (.int r2)) (hs E M2) ∧ ((r2 < 0 → res = (some (.int r2), hs E M2)) ∧ (¬ r2 < 0 → (∃ (r3 : Int32) (M3 : Mem), Rn 79 [.ref 12] (hs E M2) (some (.int r3)) (hs E M3) ∧ (∃ (M4 : Mem), Rn 203 [.ref 8] (hs E M3) none (hs E M4) ∧ res = (some (.int r2), hs E M4)))))))))))) : Ev 7 165 0 [some (.ref 8), some (.int x1), some (.int x2), none] [] (hs E M) res := by
  refine Ev.steps 4 (pc' := 6) (L' := [some (.ref 8), some (.int x1), some (.int x2), none]) (st' := [.int x2, .int x1, .ref 9]) rfl ?_
  refine Ev.call (y := 41) (args := [.ref 9, .int x1, .int x2]) (rest := []) (r := some (.int (F41 M x1 x2))) rfl (s41) ?_
  show Ev 7 165 9 [some (.ref 8), some (.int x1), some (.int x2), none] [.int (F41 M x1 x2)] _ _
  refine Ev.steps 1 (pc' := if (F41 M x1 x2) = 0 then 12 else 15) (L' := [some (.ref 8), some (.int x1), some (.int x2), none]) (st' := []) rfl ?_
  refine Ev_ite (fun hc => ?_) (fun hc => ?_)
  · replace H := H.1 hc
    refine Ev.steps 1 (pc' := 14) (L' := [some (.ref 8), some (.int x1), some (.int x2), none]) (st' := [.int (-101)]) rfl ?_
    subst H
    exact Ev.ret rfl
  · replace H := H.2 hc
    refine Ev.steps 6 (pc' := 25) (L' := [some (.ref 8), some (.int x1), some (.int x2), none]) (st' := [.int x2, .int x1, .ref 9, .ref 12]) rfl ?_
    obtain ⟨r1, hr1, H⟩ := H
    refine Ev.call (y := 85) (args := [.ref 12, .ref 9, .int x1, .int x2]) (rest := []) (r := (some (.int r1))) rfl hr1 ?_
    show Ev 7 165 28 [some (.ref 8), some (.int x1), some (.int x2), none] [.int r1] _ _
    refine Ev.steps 1 (pc' := if r1 = 0 then 31 else 34) (L' := [some (.ref 8), some (.int x1), some (.int x2), none]) (st' := []) rfl ?_
    refine Ev_ite (fun hc => ?_) (fun hc => ?_)
    · replace H := H.1 hc
      refine Ev.steps 1 (pc' := 33) (L' := [some (.ref 8), some (.int x1), some (.int x2), none]) (st' := [.int (-103)]) rfl ?_
      subst H
      exact Ev.ret rfl
    · replace H := H.2 hc
      refine Ev.steps 6 (pc' := 44) (L' := [some (.ref 8), some (.int x1), some (.int x2), none]) (st' := [.int x2, .int x1, .ref 12, .ref 14]) rfl ?_
      obtain ⟨r2, M2, hr2, H⟩ := H
      refine Ev.call (y := 156) (args := [.ref 14, .ref 12, .int x1, .int x2]) (rest := []) (r := (some (.int r2))) rfl hr2 ?_
      show Ev 7 165 47 [some (.ref 8), some (.int x1), some (.int x2), none] [.int r2] _ _
      refine Ev.steps 3 (pc' := if r2 < 0 then 64 else 52) (L' := [some (.ref 8), some (.int x1), some (.int x2), some (.int r2)]) (st' := []) rfl ?_
      refine Ev_ite (fun hc => ?_) (fun hc => ?_)
      · replace H := H.1 hc
        refine Ev.steps 1 (pc' := 65) (L' := [some (.ref 8), some (.int x1), some (.int x2), some (.int r2)]) (st' := [.int r2]) rfl ?_
        subst H
        exact Ev.ret rfl
      · replace H := H.2 hc
        refine Ev.steps 2 (pc' := 56) (L' := [some (.ref 8), some (.int x1), some (.int x2), some (.int r2)]) (st' := [.ref 12]) rfl ?_
        obtain ⟨r3, M3, hr3, H⟩ := H
        refine Ev.call (y := 79) (args := [.ref 12]) (rest := []) (r := (some (.int r3))) rfl hr3 ?_
        show Ev 7 165 59 [some (.ref 8), some (.int x1), some (.int x2), some (.int r2)] [.int r3] _ _
        refine Ev.steps 2 (pc' := 61) (L' := [some (.ref 8), some (.int x1), some (.int x2), some (.int r2)]) (st' := [.ref 8]) rfl ?_
        obtain ⟨M4, hr4, H⟩ := H
        refine Ev.call (y := 203) (args := [.ref 8]) (rest := []) (r := none) rfl hr4 ?_
        show Ev 7 165 64 [some (.ref 8), some (.int x1), some (.int x2), some (.int r2)] [] _ _
        refine Ev.steps 1 (pc' := 65) (L' := [some (.ref 8), some (.int x1), some (.int x2), some (.int r2)]) (st' := [.int r2]) rfl ?_
        subst H
        exact Ev.ret rfl

-- 166 GlassWires lay (IZ)I
set_option maxRecDepth 20000 in
theorem w166_0 {E : gw_N} {M : Mem} {res : Option Value × gw_H} {x1 : Int32} {x2 : Int32} (H : (((F144 M x1) = 0 → res = (some (.int (-101)), hs E M)) ∧ (¬ (F144 M x1) = 0 → (P145 M x1 ∧ (∃ (M1 : Mem), Rn 146 [.ref 14, .int x1, .int x2] (hs E M) none (hs E M1) ∧ (∃ (M2 : Mem), Rn 203 [.ref 8] (hs E M1) none (hs E M2) ∧ res = (some (.int (F206 M (F145 M x1))), hs E M2))))))) : Ev 7 166 0 [some (.ref 8), some (.int x1), some (.int x2), none] [] (hs E M) res := by
  refine Ev.steps 3 (pc' := 5) (L' := [some (.ref 8), some (.int x1), some (.int x2), none]) (st' := [.int x1, .ref 14]) rfl ?_
  refine Ev.call (y := 144) (args := [.ref 14, .int x1]) (rest := []) (r := some (.int (F144 M x1))) rfl (s144) ?_
  show Ev 7 166 8 [some (.ref 8), some (.int x1), some (.int x2), none] [.int (F144 M x1)] _ _
  refine Ev.steps 1 (pc' := if (F144 M x1) = 0 then 11 else 14) (L' := [some (.ref 8), some (.int x1), some (.int x2), none]) (st' := []) rfl ?_
  refine Ev_ite (fun hc => ?_) (fun hc => ?_)
  · replace H := H.1 hc
    refine Ev.steps 1 (pc' := 13) (L' := [some (.ref 8), some (.int x1), some (.int x2), none]) (st' := [.int (-101)]) rfl ?_
    subst H
    exact Ev.ret rfl
  · replace H := H.2 hc
    refine Ev.steps 3 (pc' := 19) (L' := [some (.ref 8), some (.int x1), some (.int x2), none]) (st' := [.int x1, .ref 14]) rfl ?_
    refine Ev.call (y := 145) (args := [.ref 14, .int x1]) (rest := []) (r := some (.int (F145 M x1))) rfl (s145 H.1) ?_
    replace H := H.2
    show Ev 7 166 22 [some (.ref 8), some (.int x1), some (.int x2), none] [.int (F145 M x1)] _ _
    refine Ev.call (y := 206) (args := [.int (F145 M x1)]) (rest := []) (r := some (.int (F206 M (F145 M x1)))) rfl (s206) ?_
    show Ev 7 166 25 [some (.ref 8), some (.int x1), some (.int x2), none] [.int (F206 M (F145 M x1))] _ _
    refine Ev.steps 5 (pc' := 32) (L' := [some (.ref 8), some (.int x1), some (.int x2), some (.int (F206 M (F145 M x1)))]) (st' := [.int x2, .int x1, .ref 14]) rfl ?_
    obtain ⟨M1, hr1, H⟩ := H
    refine Ev.call (y := 146) (args := [.ref 14, .int x1, .int x2]) (rest := []) (r := none) rfl hr1 ?_
    show Ev 7 166 35 [some (.ref 8), some (.int x1), some (.int x2), some (.int (F206 M (F145 M x1)))] [] _ _
    refine Ev.steps 1 (pc' := 36) (L' := [some (.ref 8), some (.int x1), some (.int x2), some (.int (F206 M (F145 M x1)))]) (st' := [.ref 8]) rfl ?_
    obtain ⟨M2, hr2, H⟩ := H
    refine Ev.call (y := 203) (args := [.ref 8]) (rest := []) (r := none) rfl hr2 ?_
    show Ev 7 166 39 [some (.ref 8), some (.int x1), some (.int x2), some (.int (F206 M (F145 M x1)))] [] _ _
    refine Ev.steps 1 (pc' := 40) (L' := [some (.ref 8), some (.int x1), some (.int x2), some (.int (F206 M (F145 M x1)))]) (st' := [.int (F206 M (F145 M x1))]) rfl ?_
    subst H
    exact Ev.ret rfl

-- 167 GlassWires solder (IZ)I
set_option maxRecDepth 20000 in
theorem w167_0 {E : gw_N} {M : Mem} {res : Option Value × gw_H} {x1 : Int32} {x2 : Int32} (H : (((F144 M x1) = 0 → res = (some (.int (-101)), hs E M)) ∧ (¬ (F144 M x1) = 0 → (P147 M x1 ∧ (∃ (M1 : Mem), Rn 148 [.ref 14, .int x1, .int x2] (hs E M) none (hs E M1) ∧ (∃ (M2 : Mem), Rn 203 [.ref 8] (hs E M1) none (hs E M2) ∧ res = (some (.int (F206 M (F147 M x1))), hs E M2))))))) : Ev 7 167 0 [some (.ref 8), some (.int x1), some (.int x2), none] [] (hs E M) res := by
  refine Ev.steps 3 (pc' := 5) (L' := [some (.ref 8), some (.int x1), some (.int x2), none]) (st' := [.int x1, .ref 14]) rfl ?_
  refine Ev.call (y := 144) (args := [.ref 14, .int x1]) (rest := []) (r := some (.int (F144 M x1))) rfl (s144) ?_
  show Ev 7 167 8 [some (.ref 8), some (.int x1), some (.int x2), none] [.int (F144 M x1)] _ _
  refine Ev.steps 1 (pc' := if (F144 M x1) = 0 then 11 else 14) (L' := [some (.ref 8), some (.int x1), some (.int x2), none]) (st' := []) rfl ?_
  refine Ev_ite (fun hc => ?_) (fun hc => ?_)
  · replace H := H.1 hc
    refine Ev.steps 1 (pc' := 13) (L' := [some (.ref 8), some (.int x1), some (.int x2), none]) (st' := [.int (-101)]) rfl ?_
    subst H
    exact Ev.ret rfl
  · replace H := H.2 hc
    refine Ev.steps 3 (pc' := 19) (L' := [some (.ref 8), some (.int x1), some (.int x2), none]) (st' := [.int x1, .ref 14]) rfl ?_
    refine Ev.call (y := 147) (args := [.ref 14, .int x1]) (rest := []) (r := some (.int (F147 M x1))) rfl (s147 H.1) ?_
    replace H := H.2
    show Ev 7 167 22 [some (.ref 8), some (.int x1), some (.int x2), none] [.int (F147 M x1)] _ _
    refine Ev.call (y := 206) (args := [.int (F147 M x1)]) (rest := []) (r := some (.int (F206 M (F147 M x1)))) rfl (s206) ?_
    show Ev 7 167 25 [some (.ref 8), some (.int x1), some (.int x2), none] [.int (F206 M (F147 M x1))] _ _
    refine Ev.steps 5 (pc' := 32) (L' := [some (.ref 8), some (.int x1), some (.int x2), some (.int (F206 M (F147 M x1)))]) (st' := [.int x2, .int x1, .ref 14]) rfl ?_
    obtain ⟨M1, hr1, H⟩ := H
    refine Ev.call (y := 148) (args := [.ref 14, .int x1, .int x2]) (rest := []) (r := none) rfl hr1 ?_
    show Ev 7 167 35 [some (.ref 8), some (.int x1), some (.int x2), some (.int (F206 M (F147 M x1)))] [] _ _
    refine Ev.steps 1 (pc' := 36) (L' := [some (.ref 8), some (.int x1), some (.int x2), some (.int (F206 M (F147 M x1)))]) (st' := [.ref 8]) rfl ?_
    obtain ⟨M2, hr2, H⟩ := H
    refine Ev.call (y := 203) (args := [.ref 8]) (rest := []) (r := none) rfl hr2 ?_
    show Ev 7 167 39 [some (.ref 8), some (.int x1), some (.int x2), some (.int (F206 M (F147 M x1)))] [] _ _
    refine Ev.steps 1 (pc' := 40) (L' := [some (.ref 8), some (.int x1), some (.int x2), some (.int (F206 M (F147 M x1)))]) (st' := [.int (F206 M (F147 M x1))]) rfl ?_
    subst H
    exact Ev.ret rfl

-- 184 GlassWires fire (I)I
set_option maxRecDepth 20000 in
theorem w184_0 {E : gw_N} {M : Mem} {res : Option Value × gw_H} {x1 : Int32} (H : (((F204 M x1) = 0 → res = (some (.int (-102)), hs E M)) ∧ (¬ (F204 M x1) = 0 → (∃ (r1 : Int32) (M1 : Mem), Rn 19 [.ref 44, .int x1] (hs E M) (some (.int r1)) (hs E M1) ∧ res = (some (.int r1), hs E M1))))) : Ev 7 184 0 [some (.ref 8), some (.int x1)] [] (hs E M) res := by
  refine Ev.steps 1 (pc' := 1) (L' := [some (.ref 8), some (.int x1)]) (st' := [.int x1]) rfl ?_
  refine Ev.call (y := 204) (args := [.int x1]) (rest := []) (r := some (.int (F204 M x1))) rfl (s204) ?_
  show Ev 7 184 4 [some (.ref 8), some (.int x1)] [.int (F204 M x1)] _ _
  refine Ev.steps 1 (pc' := if (F204 M x1) = 0 then 18 else 7) (L' := [some (.ref 8), some (.int x1)]) (st' := []) rfl ?_
  refine Ev_ite (fun hc => ?_) (fun hc => ?_)
  · replace H := H.1 hc
    refine Ev.steps 1 (pc' := 20) (L' := [some (.ref 8), some (.int x1)]) (st' := [.int (-102)]) rfl ?_
    subst H
    exact Ev.ret rfl
  · replace H := H.2 hc
    refine Ev.steps 3 (pc' := 12) (L' := [some (.ref 8), some (.int x1)]) (st' := [.int x1, .ref 44]) rfl ?_
    obtain ⟨r1, M1, hr1, H⟩ := H
    refine Ev.call (y := 19) (args := [.ref 44, .int x1]) (rest := []) (r := (some (.int r1))) rfl hr1 ?_
    show Ev 7 184 15 [some (.ref 8), some (.int x1)] [.int r1] _ _
    refine Ev.steps 1 (pc' := 20) (L' := [some (.ref 8), some (.int x1)]) (st' := [.int r1]) rfl ?_
    subst H
    exact Ev.ret rfl

-- 195 GlassWires cooling (I)I
set_option maxRecDepth 20000 in
theorem w195_0 {E : gw_N} {M : Mem} {res : Option Value × gw_H} {x1 : Int32} (H : (((F205 M x1) = 0 → res = (some (.int (-102)), hs E M)) ∧ (¬ (F205 M x1) = 0 → (∃ (r1 : Int32), Rn 138 [.ref 53, .int x1] (hs E M) (some (.int r1)) (hs E M) ∧ res = (some (.int r1), hs E M))))) : Ev 7 195 0 [some (.ref 8), some (.int x1)] [] (hs E M) res := by
  refine Ev.steps 1 (pc' := 1) (L' := [some (.ref 8), some (.int x1)]) (st' := [.int x1]) rfl ?_
  refine Ev.call (y := 205) (args := [.int x1]) (rest := []) (r := some (.int (F205 M x1))) rfl (s205) ?_
  show Ev 7 195 4 [some (.ref 8), some (.int x1)] [.int (F205 M x1)] _ _
  refine Ev.steps 1 (pc' := if (F205 M x1) = 0 then 18 else 7) (L' := [some (.ref 8), some (.int x1)]) (st' := []) rfl ?_
  refine Ev_ite (fun hc => ?_) (fun hc => ?_)
  · replace H := H.1 hc
    refine Ev.steps 1 (pc' := 20) (L' := [some (.ref 8), some (.int x1)]) (st' := [.int (-102)]) rfl ?_
    subst H
    exact Ev.ret rfl
  · replace H := H.2 hc
    refine Ev.steps 3 (pc' := 12) (L' := [some (.ref 8), some (.int x1)]) (st' := [.int x1, .ref 53]) rfl ?_
    obtain ⟨r1, hr1, H⟩ := H
    refine Ev.call (y := 138) (args := [.ref 53, .int x1]) (rest := []) (r := (some (.int r1))) rfl hr1 ?_
    show Ev 7 195 15 [some (.ref 8), some (.int x1)] [.int r1] _ _
    refine Ev.steps 1 (pc' := 20) (L' := [some (.ref 8), some (.int x1)]) (st' := [.int r1]) rfl ?_
    subst H
    exact Ev.ret rfl

-- 295 GlassWiresModel cooling (I)I
set_option maxRecDepth 20000 in
theorem w295_0 {E : gw_N} {M : Mem} {res : Option Value × gw_H} {x1 : Int32} (H : (((F209 M (Int32.toInt64 x1) 0 999) = 0 → res = (some (.int (-102)), hs E M)) ∧ (¬ (F209 M (Int32.toInt64 x1) 0 999) = 0 → ((x1 = 0 → res = (some (.int 0), hs E M)) ∧ (¬ x1 = 0 → (∃ (r1 : Int32), Rn 294 [.ref 59] (hs E M) (some (.int r1)) (hs E M) ∧ ((r1 = 0 → res = (some (.int (-1)), hs E M)) ∧ (¬ r1 = 0 → (¬ r1 = 0 ∧ res = (some (.int (((x1 + r1) - 1) / r1)), hs E M)))))))))) : Ev 7 295 0 [some (.ref 59), some (.int x1), none] [] (hs E M) res := by
  refine Ev.steps 4 (pc' := 6) (L' := [some (.ref 59), some (.int x1), none]) (st' := [.long 999, .long 0, .long (Int32.toInt64 x1)]) rfl ?_
  refine Ev.call (y := 209) (args := [.long (Int32.toInt64 x1), .long 0, .long 999]) (rest := []) (r := some (.int (F209 M (Int32.toInt64 x1) 0 999))) rfl (s209) ?_
  show Ev 7 295 9 [some (.ref 59), some (.int x1), none] [.int (F209 M (Int32.toInt64 x1) 0 999)] _ _
  refine Ev.steps 1 (pc' := if (F209 M (Int32.toInt64 x1) 0 999) = 0 then 12 else 15) (L' := [some (.ref 59), some (.int x1), none]) (st' := []) rfl ?_
  refine Ev_ite (fun hc => ?_) (fun hc => ?_)
  · replace H := H.1 hc
    refine Ev.steps 1 (pc' := 14) (L' := [some (.ref 59), some (.int x1), none]) (st' := [.int (-102)]) rfl ?_
    subst H
    exact Ev.ret rfl
  · replace H := H.2 hc
    refine Ev.steps 2 (pc' := if x1 = 0 then 19 else 21) (L' := [some (.ref 59), some (.int x1), none]) (st' := []) rfl ?_
    refine Ev_ite (fun hc => ?_) (fun hc => ?_)
    · replace H := H.1 hc
      refine Ev.steps 1 (pc' := 20) (L' := [some (.ref 59), some (.int x1), none]) (st' := [.int 0]) rfl ?_
      subst H
      exact Ev.ret rfl
    · replace H := H.2 hc
      refine Ev.steps 1 (pc' := 22) (L' := [some (.ref 59), some (.int x1), none]) (st' := [.ref 59]) rfl ?_
      obtain ⟨r1, hr1, H⟩ := H
      refine Ev.call (y := 294) (args := [.ref 59]) (rest := []) (r := (some (.int r1))) rfl hr1 ?_
      show Ev 7 295 25 [some (.ref 59), some (.int x1), none] [.int r1] _ _
      refine Ev.steps 3 (pc' := if r1 = 0 then 30 else 34) (L' := [some (.ref 59), some (.int x1), some (.int r1)]) (st' := []) rfl ?_
      refine Ev_ite (fun hc => ?_) (fun hc => ?_)
      · replace H := H.1 hc
        refine Ev.steps 2 (pc' := 41) (L' := [some (.ref 59), some (.int x1), some (.int r1)]) (st' := [.int (-1)]) rfl ?_
        subst H
        exact Ev.ret rfl
      · replace H := H.2 hc
        refine Ev.steps 6 (pc' := 40) (L' := [some (.ref 59), some (.int x1), some (.int r1)]) (st' := [.int r1, .int ((x1 + r1) - 1)]) rfl ?_
        refine Ev.dv (y := r1) (pc' := 41) (L' := [some (.ref 59), some (.int x1), some (.int r1)]) (st' := [.int (((x1 + r1) - 1) / r1)]) H.1 rfl ?_
        replace H := H.2
        subst H
        exact Ev.ret rfl

-- 296 GlassWiresModel cool (II)I
set_option maxRecDepth 20000 in
theorem w296_0 {E : gw_N} {M : Mem} {res : Option Value × gw_H} {x1 : Int32} {x2 : Int32} (H : (((F209 M (Int32.toInt64 x1) 0 999) = 0 → res = (some (.int (-102)), hs E M)) ∧ (¬ (F209 M (Int32.toInt64 x1) 0 999) = 0 → ((x2 = 0 → res = (some (.int x1), hs E M)) ∧ (¬ x2 = 0 → (∃ (r1 : Int32), Rn 294 [.ref 59] (hs E M) (some (.int r1)) (hs E M) ∧ ((x2 < 0 → res = (some (.int (-1)), hs E M)) ∧ (¬ x2 < 0 → ((x1 = 0 → res = (some (.int (-1)), hs E M)) ∧ (¬ x1 = 0 → ((r1 = 0 → res = (some (.int (-1)), hs E M)) ∧ (¬ r1 = 0 → (¬ r1 = 0 ∧ ((x2 ≤ (((x1 + r1) - 1) / r1) → ((0 ≤ (x1 - (x2 * r1)) → res = (some (.int (x1 - (x2 * r1))), hs E M)) ∧ (¬ 0 ≤ (x1 - (x2 * r1)) → res = (some (.int 0), hs E M)))) ∧ (¬ x2 ≤ (((x1 + r1) - 1) / r1) → res = (some (.int (-1)), hs E M)))))))))))))))) : Ev 7 296 0 [some (.ref 59), some (.int x1), some (.int x2), none, none] [] (hs E M) res := by
  refine Ev.steps 4 (pc' := 6) (L' := [some (.ref 59), some (.int x1), some (.int x2), none, none]) (st' := [.long 999, .long 0, .long (Int32.toInt64 x1)]) rfl ?_
  refine Ev.call (y := 209) (args := [.long (Int32.toInt64 x1), .long 0, .long 999]) (rest := []) (r := some (.int (F209 M (Int32.toInt64 x1) 0 999))) rfl (s209) ?_
  show Ev 7 296 9 [some (.ref 59), some (.int x1), some (.int x2), none, none] [.int (F209 M (Int32.toInt64 x1) 0 999)] _ _
  refine Ev.steps 1 (pc' := if (F209 M (Int32.toInt64 x1) 0 999) = 0 then 12 else 15) (L' := [some (.ref 59), some (.int x1), some (.int x2), none, none]) (st' := []) rfl ?_
  refine Ev_ite (fun hc => ?_) (fun hc => ?_)
  · replace H := H.1 hc
    refine Ev.steps 1 (pc' := 14) (L' := [some (.ref 59), some (.int x1), some (.int x2), none, none]) (st' := [.int (-102)]) rfl ?_
    subst H
    exact Ev.ret rfl
  · replace H := H.2 hc
    refine Ev.steps 2 (pc' := if x2 = 0 then 19 else 21) (L' := [some (.ref 59), some (.int x1), some (.int x2), none, none]) (st' := []) rfl ?_
    refine Ev_ite (fun hc => ?_) (fun hc => ?_)
    · replace H := H.1 hc
      refine Ev.steps 1 (pc' := 20) (L' := [some (.ref 59), some (.int x1), some (.int x2), none, none]) (st' := [.int x1]) rfl ?_
      subst H
      exact Ev.ret rfl
    · replace H := H.2 hc
      refine Ev.steps 1 (pc' := 22) (L' := [some (.ref 59), some (.int x1), some (.int x2), none, none]) (st' := [.ref 59]) rfl ?_
      obtain ⟨r1, hr1, H⟩ := H
      refine Ev.call (y := 294) (args := [.ref 59]) (rest := []) (r := (some (.int r1))) rfl hr1 ?_
      show Ev 7 296 25 [some (.ref 59), some (.int x1), some (.int x2), none, none] [.int r1] _ _
      refine Ev.steps 3 (pc' := if x2 < 0 then 49 else 30) (L' := [some (.ref 59), some (.int x1), some (.int x2), some (.int r1), none]) (st' := []) rfl ?_
      refine Ev_ite (fun hc => ?_) (fun hc => ?_)
      · replace H := H.1 hc
        refine Ev.steps 1 (pc' := 50) (L' := [some (.ref 59), some (.int x1), some (.int x2), some (.int r1), none]) (st' := [.int (-1)]) rfl ?_
        subst H
        exact Ev.ret rfl
      · replace H := H.2 hc
        refine Ev.steps 2 (pc' := if x1 = 0 then 49 else 34) (L' := [some (.ref 59), some (.int x1), some (.int x2), some (.int r1), none]) (st' := []) rfl ?_
        refine Ev_ite (fun hc => ?_) (fun hc => ?_)
        · replace H := H.1 hc
          refine Ev.steps 1 (pc' := 50) (L' := [some (.ref 59), some (.int x1), some (.int x2), some (.int r1), none]) (st' := [.int (-1)]) rfl ?_
          subst H
          exact Ev.ret rfl
        · replace H := H.2 hc
          refine Ev.steps 2 (pc' := if r1 = 0 then 49 else 38) (L' := [some (.ref 59), some (.int x1), some (.int x2), some (.int r1), none]) (st' := []) rfl ?_
          refine Ev_ite (fun hc => ?_) (fun hc => ?_)
          · replace H := H.1 hc
            refine Ev.steps 1 (pc' := 50) (L' := [some (.ref 59), some (.int x1), some (.int x2), some (.int r1), none]) (st' := [.int (-1)]) rfl ?_
            subst H
            exact Ev.ret rfl
          · replace H := H.2 hc
            refine Ev.steps 7 (pc' := 45) (L' := [some (.ref 59), some (.int x1), some (.int x2), some (.int r1), none]) (st' := [.int r1, .int ((x1 + r1) - 1), .int x2]) rfl ?_
            refine Ev.dv (y := r1) (pc' := 46) (L' := [some (.ref 59), some (.int x1), some (.int x2), some (.int r1), none]) (st' := [.int (((x1 + r1) - 1) / r1), .int x2]) H.1 rfl ?_
            replace H := H.2
            refine Ev.steps 1 (pc' := if x2 ≤ (((x1 + r1) - 1) / r1) then 51 else 49) (L' := [some (.ref 59), some (.int x1), some (.int x2), some (.int r1), none]) (st' := []) rfl ?_
            refine Ev_ite (fun hc => ?_) (fun hc => ?_)
            · replace H := H.1 hc
              refine Ev.steps 8 (pc' := if 0 ≤ (x1 - (x2 * r1)) then 67 else 63) (L' := [some (.ref 59), some (.int x1), some (.int x2), some (.int r1), some (.int (x1 - (x2 * r1)))]) (st' := []) rfl ?_
              refine Ev_ite (fun hc => ?_) (fun hc => ?_)
              · replace H := H.1 hc
                refine Ev.steps 1 (pc' := 69) (L' := [some (.ref 59), some (.int x1), some (.int x2), some (.int r1), some (.int (x1 - (x2 * r1)))]) (st' := [.int (x1 - (x2 * r1))]) rfl ?_
                subst H
                exact Ev.ret rfl
              · replace H := H.2 hc
                refine Ev.steps 2 (pc' := 69) (L' := [some (.ref 59), some (.int x1), some (.int x2), some (.int r1), some (.int (x1 - (x2 * r1)))]) (st' := [.int 0]) rfl ?_
                subst H
                exact Ev.ret rfl
            · replace H := H.2 hc
              refine Ev.steps 1 (pc' := 50) (L' := [some (.ref 59), some (.int x1), some (.int x2), some (.int r1), none]) (st' := [.int (-1)]) rfl ?_
              subst H
              exact Ev.ret rfl

-- 171 GlassWires many (I)I
set_option maxRecDepth 20000 in
theorem w171_0 {E : gw_N} {M : Mem} {res : Option Value × gw_H} {x1 : Int32} (H : ((x1 = 0 → (∃ (r1 : Int32), Rn 70 [.ref 22, .int 0] (hs E M) (some (.int r1)) (hs E M) ∧ res = (some (.int r1), hs E M))) ∧ (x1 = 1 → (∃ (r2 : Int32), Rn 70 [.ref 22, .int 1] (hs E M) (some (.int r2)) (hs E M) ∧ res = (some (.int r2), hs E M))) ∧ (x1 = 2 → (∃ (r3 : Int32), Rn 69 [.ref 22, .int 2] (hs E M) (some (.int r3)) (hs E M) ∧ res = (some (.int r3), hs E M))) ∧ (x1 = 3 → (∃ (r4 : Int32), Rn 65 [.ref 22] (hs E M) (some (.int r4)) (hs E M) ∧ res = (some (.int r4), hs E M))) ∧ (x1 = 4 → (∃ (r5 : Int32), Rn 69 [.ref 22, .int 1] (hs E M) (some (.int r5)) (hs E M) ∧ res = (some (.int r5), hs E M))) ∧ (x1 = 5 → (∃ (r6 : Int32) (M6 : Mem), Rn 75 [.ref 22] (hs E M) (some (.int r6)) (hs E M6) ∧ res = (some (.int r6), hs E M6))) ∧ (x1 = 6 → res = (some (.int (F3 M)), hs E M)) ∧ (x1 = 7 → (∃ (r7 : Int32), Rn 7 [.ref 32] (hs E M) (some (.int r7)) (hs E M) ∧ res = (some (.int r7), hs E M))) ∧ (¬ x1 = 0 → ¬ x1 = 1 → ¬ x1 = 2 → ¬ x1 = 3 → ¬ x1 = 4 → ¬ x1 = 5 → ¬ x1 = 6 → ¬ x1 = 7 → res = (some (.int (-102)), hs E M)))) : Ev 8 171 0 [some (.ref 8), some (.int x1)] [] (hs E M) res := by
  refine Ev.steps 1 (pc' := 1) (L' := [some (.ref 8), some (.int x1)]) (st' := [.int x1]) rfl ?_
  by_cases hw0 : x1 = 0
  · replace H := H.1 hw0
    refine Ev.sw (p := gw_tsw 1 115 0 7 #[47, 56, 65, 74, 82, 91, 99, 107] x1) (pc' := 48) (L' := [some (.ref 8), some (.int x1)]) (st' := []) rfl (by rw [hw0]; decide +kernel) ?_
    refine Ev.steps 3 (pc' := 53) (L' := [some (.ref 8), some (.int x1)]) (st' := [.int 0, .ref 22]) rfl ?_
    obtain ⟨r1, hr1, H⟩ := H
    refine Ev.call (y := 70) (args := [.ref 22, .int 0]) (rest := []) (r := (some (.int r1))) rfl hr1 ?_
    show Ev 8 171 56 [some (.ref 8), some (.int x1)] [.int r1] _ _
    subst H
    exact Ev.ret rfl
  replace H := H.2
  by_cases hw1 : x1 = 1
  · replace H := H.1 hw1
    refine Ev.sw (p := gw_tsw 1 115 0 7 #[47, 56, 65, 74, 82, 91, 99, 107] x1) (pc' := 57) (L' := [some (.ref 8), some (.int x1)]) (st' := []) rfl (by rw [hw1]; decide +kernel) ?_
    refine Ev.steps 3 (pc' := 62) (L' := [some (.ref 8), some (.int x1)]) (st' := [.int 1, .ref 22]) rfl ?_
    obtain ⟨r2, hr2, H⟩ := H
    refine Ev.call (y := 70) (args := [.ref 22, .int 1]) (rest := []) (r := (some (.int r2))) rfl hr2 ?_
    show Ev 8 171 65 [some (.ref 8), some (.int x1)] [.int r2] _ _
    subst H
    exact Ev.ret rfl
  replace H := H.2
  by_cases hw2 : x1 = 2
  · replace H := H.1 hw2
    refine Ev.sw (p := gw_tsw 1 115 0 7 #[47, 56, 65, 74, 82, 91, 99, 107] x1) (pc' := 66) (L' := [some (.ref 8), some (.int x1)]) (st' := []) rfl (by rw [hw2]; decide +kernel) ?_
    refine Ev.steps 3 (pc' := 71) (L' := [some (.ref 8), some (.int x1)]) (st' := [.int 2, .ref 22]) rfl ?_
    obtain ⟨r3, hr3, H⟩ := H
    refine Ev.call (y := 69) (args := [.ref 22, .int 2]) (rest := []) (r := (some (.int r3))) rfl hr3 ?_
    show Ev 8 171 74 [some (.ref 8), some (.int x1)] [.int r3] _ _
    subst H
    exact Ev.ret rfl
  replace H := H.2
  by_cases hw3 : x1 = 3
  · replace H := H.1 hw3
    refine Ev.sw (p := gw_tsw 1 115 0 7 #[47, 56, 65, 74, 82, 91, 99, 107] x1) (pc' := 75) (L' := [some (.ref 8), some (.int x1)]) (st' := []) rfl (by rw [hw3]; decide +kernel) ?_
    refine Ev.steps 2 (pc' := 79) (L' := [some (.ref 8), some (.int x1)]) (st' := [.ref 22]) rfl ?_
    obtain ⟨r4, hr4, H⟩ := H
    refine Ev.call (y := 65) (args := [.ref 22]) (rest := []) (r := (some (.int r4))) rfl hr4 ?_
    show Ev 8 171 82 [some (.ref 8), some (.int x1)] [.int r4] _ _
    subst H
    exact Ev.ret rfl
  replace H := H.2
  by_cases hw4 : x1 = 4
  · replace H := H.1 hw4
    refine Ev.sw (p := gw_tsw 1 115 0 7 #[47, 56, 65, 74, 82, 91, 99, 107] x1) (pc' := 83) (L' := [some (.ref 8), some (.int x1)]) (st' := []) rfl (by rw [hw4]; decide +kernel) ?_
    refine Ev.steps 3 (pc' := 88) (L' := [some (.ref 8), some (.int x1)]) (st' := [.int 1, .ref 22]) rfl ?_
    obtain ⟨r5, hr5, H⟩ := H
    refine Ev.call (y := 69) (args := [.ref 22, .int 1]) (rest := []) (r := (some (.int r5))) rfl hr5 ?_
    show Ev 8 171 91 [some (.ref 8), some (.int x1)] [.int r5] _ _
    subst H
    exact Ev.ret rfl
  replace H := H.2
  by_cases hw5 : x1 = 5
  · replace H := H.1 hw5
    refine Ev.sw (p := gw_tsw 1 115 0 7 #[47, 56, 65, 74, 82, 91, 99, 107] x1) (pc' := 92) (L' := [some (.ref 8), some (.int x1)]) (st' := []) rfl (by rw [hw5]; decide +kernel) ?_
    refine Ev.steps 2 (pc' := 96) (L' := [some (.ref 8), some (.int x1)]) (st' := [.ref 22]) rfl ?_
    obtain ⟨r6, M6, hr6, H⟩ := H
    refine Ev.call (y := 75) (args := [.ref 22]) (rest := []) (r := (some (.int r6))) rfl hr6 ?_
    show Ev 8 171 99 [some (.ref 8), some (.int x1)] [.int r6] _ _
    subst H
    exact Ev.ret rfl
  replace H := H.2
  by_cases hw6 : x1 = 6
  · replace H := H.1 hw6
    refine Ev.sw (p := gw_tsw 1 115 0 7 #[47, 56, 65, 74, 82, 91, 99, 107] x1) (pc' := 100) (L' := [some (.ref 8), some (.int x1)]) (st' := []) rfl (by rw [hw6]; decide +kernel) ?_
    refine Ev.steps 2 (pc' := 104) (L' := [some (.ref 8), some (.int x1)]) (st' := [.ref 32]) rfl ?_
    refine Ev.call (y := 3) (args := [.ref 32]) (rest := []) (r := some (.int (F3 M))) rfl (s3) ?_
    show Ev 8 171 107 [some (.ref 8), some (.int x1)] [.int (F3 M)] _ _
    subst H
    exact Ev.ret rfl
  replace H := H.2
  by_cases hw7 : x1 = 7
  · replace H := H.1 hw7
    refine Ev.sw (p := gw_tsw 1 115 0 7 #[47, 56, 65, 74, 82, 91, 99, 107] x1) (pc' := 108) (L' := [some (.ref 8), some (.int x1)]) (st' := []) rfl (by rw [hw7]; decide +kernel) ?_
    refine Ev.steps 2 (pc' := 112) (L' := [some (.ref 8), some (.int x1)]) (st' := [.ref 32]) rfl ?_
    obtain ⟨r7, hr7, H⟩ := H
    refine Ev.call (y := 7) (args := [.ref 32]) (rest := []) (r := (some (.int r7))) rfl hr7 ?_
    show Ev 8 171 115 [some (.ref 8), some (.int x1)] [.int r7] _ _
    subst H
    exact Ev.ret rfl
  replace H := H.2
  replace H := H hw0 hw1 hw2 hw3 hw4 hw5 hw6 hw7
  refine Ev.sw (p := gw_tsw 1 115 0 7 #[47, 56, 65, 74, 82, 91, 99, 107] x1) (pc' := 116) (L' := [some (.ref 8), some (.int x1)]) (st' := []) rfl (gw_ts_df (by decide +kernel) (by
      intro k h1 h2
      have h3 : k = 0 ∨ k = 1 ∨ k = 2 ∨ k = 3 ∨ k = 4 ∨ k = 5 ∨ k = 6 ∨ k = 7 := by omega
      rcases h3 with rfl | rfl | rfl | rfl | rfl | rfl | rfl | rfl
      · exact fun h => hw0 (h.trans (by decide +kernel))
      · exact fun h => hw1 (h.trans (by decide +kernel))
      · exact fun h => hw2 (h.trans (by decide +kernel))
      · exact fun h => hw3 (h.trans (by decide +kernel))
      · exact fun h => hw4 (h.trans (by decide +kernel))
      · exact fun h => hw5 (h.trans (by decide +kernel))
      · exact fun h => hw6 (h.trans (by decide +kernel))
      · exact fun h => hw7 (h.trans (by decide +kernel)))) ?_
  refine Ev.steps 1 (pc' := 118) (L' := [some (.ref 8), some (.int x1)]) (st' := [.int (-102)]) rfl ?_
  subst H
  exact Ev.ret rfl

-- 172 GlassWires end (II)I
set_option maxRecDepth 20000 in
theorem w172_0 {E : gw_N} {M : Mem} {res : Option Value × gw_H} {x1 : Int32} {x2 : Int32} (H : ((x1 = 0 → (∃ (r1 : Int32), Rn 71 [.ref 22, .int x1, .int x2] (hs E M) (some (.int r1)) (hs E M) ∧ res = (some (.int r1), hs E M))) ∧ (¬ x1 = 0 → ((x1 = 1 → (∃ (r2 : Int32), Rn 71 [.ref 22, .int x1, .int x2] (hs E M) (some (.int r2)) (hs E M) ∧ res = (some (.int r2), hs E M))) ∧ (¬ x1 = 1 → res = (some (.int (-102)), hs E M)))))) : Ev 8 172 0 [some (.ref 8), some (.int x1), some (.int x2)] [] (hs E M) res := by
  refine Ev.steps 2 (pc' := if x1 = 0 then 9 else 4) (L' := [some (.ref 8), some (.int x1), some (.int x2)]) (st' := []) rfl ?_
  refine Ev_ite (fun hc => ?_) (fun hc => ?_)
  · replace H := H.1 hc
    refine Ev.steps 4 (pc' := 15) (L' := [some (.ref 8), some (.int x1), some (.int x2)]) (st' := [.int x2, .int x1, .ref 22]) rfl ?_
    obtain ⟨r1, hr1, H⟩ := H
    refine Ev.call (y := 71) (args := [.ref 22, .int x1, .int x2]) (rest := []) (r := (some (.int r1))) rfl hr1 ?_
    show Ev 8 172 18 [some (.ref 8), some (.int x1), some (.int x2)] [.int r1] _ _
    refine Ev.steps 1 (pc' := 23) (L' := [some (.ref 8), some (.int x1), some (.int x2)]) (st' := [.int r1]) rfl ?_
    subst H
    exact Ev.ret rfl
  · replace H := H.2 hc
    refine Ev.steps 3 (pc' := if x1 = 1 then 9 else 21) (L' := [some (.ref 8), some (.int x1), some (.int x2)]) (st' := []) rfl ?_
    refine Ev_ite (fun hc => ?_) (fun hc => ?_)
    · replace H := H.1 hc
      refine Ev.steps 4 (pc' := 15) (L' := [some (.ref 8), some (.int x1), some (.int x2)]) (st' := [.int x2, .int x1, .ref 22]) rfl ?_
      obtain ⟨r2, hr2, H⟩ := H
      refine Ev.call (y := 71) (args := [.ref 22, .int x1, .int x2]) (rest := []) (r := (some (.int r2))) rfl hr2 ?_
      show Ev 8 172 18 [some (.ref 8), some (.int x1), some (.int x2)] [.int r2] _ _
      refine Ev.steps 1 (pc' := 23) (L' := [some (.ref 8), some (.int x1), some (.int x2)]) (st' := [.int r2]) rfl ?_
      subst H
      exact Ev.ret rfl
    · replace H := H.2 hc
      refine Ev.steps 1 (pc' := 23) (L' := [some (.ref 8), some (.int x1), some (.int x2)]) (st' := [.int (-102)]) rfl ?_
      subst H
      exact Ev.ret rfl

-- 196 GlassWires cool (II)I
set_option maxRecDepth 20000 in
theorem w196_0 {E : gw_N} {M : Mem} {res : Option Value × gw_H} {x1 : Int32} {x2 : Int32} (H : (((F205 M x1) = 0 → res = (some (.int (-102)), hs E M)) ∧ (¬ (F205 M x1) = 0 → (∃ (r1 : Int32), Rn 139 [.ref 53, .int x1, .int x2] (hs E M) (some (.int r1)) (hs E M) ∧ res = (some (.int r1), hs E M))))) : Ev 8 196 0 [some (.ref 8), some (.int x1), some (.int x2)] [] (hs E M) res := by
  refine Ev.steps 1 (pc' := 1) (L' := [some (.ref 8), some (.int x1), some (.int x2)]) (st' := [.int x1]) rfl ?_
  refine Ev.call (y := 205) (args := [.int x1]) (rest := []) (r := some (.int (F205 M x1))) rfl (s205) ?_
  show Ev 8 196 4 [some (.ref 8), some (.int x1), some (.int x2)] [.int (F205 M x1)] _ _
  refine Ev.steps 1 (pc' := if (F205 M x1) = 0 then 19 else 7) (L' := [some (.ref 8), some (.int x1), some (.int x2)]) (st' := []) rfl ?_
  refine Ev_ite (fun hc => ?_) (fun hc => ?_)
  · replace H := H.1 hc
    refine Ev.steps 1 (pc' := 21) (L' := [some (.ref 8), some (.int x1), some (.int x2)]) (st' := [.int (-102)]) rfl ?_
    subst H
    exact Ev.ret rfl
  · replace H := H.2 hc
    refine Ev.steps 4 (pc' := 13) (L' := [some (.ref 8), some (.int x1), some (.int x2)]) (st' := [.int x2, .int x1, .ref 53]) rfl ?_
    obtain ⟨r1, hr1, H⟩ := H
    refine Ev.call (y := 139) (args := [.ref 53, .int x1, .int x2]) (rest := []) (r := (some (.int r1))) rfl hr1 ?_
    show Ev 8 196 16 [some (.ref 8), some (.int x1), some (.int x2)] [.int r1] _ _
    refine Ev.steps 1 (pc' := 21) (L' := [some (.ref 8), some (.int x1), some (.int x2)]) (st' := [.int r1]) rfl ?_
    subst H
    exact Ev.ret rfl

-- 88 GlassWires$Painter fewest ()I
set_option maxRecDepth 20000 in
theorem w88_0 {E : gw_N} {M : Mem} {res : Option Value × gw_H}  (H : (∃ (M1 : Mem), Rn 90 [.ref 36] (hs E M) none (hs E M1) ∧ Ev 21 88 19 [some (.ref 36), some (.int (F312 M1 (F3 M1) 10)), some (.int 1)] [] (hs E M1) res)) : Ev 21 88 0 [some (.ref 36), none, none] [] (hs E M) res := by
  refine Ev.steps 1 (pc' := 1) (L' := [some (.ref 36), none, none]) (st' := [.ref 36]) rfl ?_
  obtain ⟨M1, hr1, H⟩ := H
  refine Ev.call (y := 90) (args := [.ref 36]) (rest := []) (r := none) rfl hr1 ?_
  show Ev 21 88 4 [some (.ref 36), none, none] [] _ _
  refine Ev.steps 2 (pc' := 8) (L' := [some (.ref 36), none, none]) (st' := [.ref 32]) rfl ?_
  refine Ev.call (y := 3) (args := [.ref 32]) (rest := []) (r := some (.int (F3 M1))) rfl (s3) ?_
  show Ev 21 88 11 [some (.ref 36), none, none] [.int (F3 M1)] _ _
  refine Ev.steps 1 (pc' := 13) (L' := [some (.ref 36), none, none]) (st' := [.int 10, .int (F3 M1)]) rfl ?_
  refine Ev.call (y := 312) (args := [.int (F3 M1), .int 10]) (rest := []) (r := some (.int (F312 M1 (F3 M1) 10))) rfl (s312) ?_
  show Ev 21 88 16 [some (.ref 36), none, none] [.int (F312 M1 (F3 M1) 10)] _ _
  refine Ev.steps 3 (pc' := 19) (L' := [some (.ref 36), some (.int (F312 M1 (F3 M1) 10)), some (.int 1)]) (st' := []) rfl ?_
  exact Ev.weak [some (.ref 36), some (.int (F312 M1 (F3 M1) 10)), some (.int 1)] (gw_leb_le ⟨rfl, rfl, rfl, trivial⟩) H

set_option maxRecDepth 20000 in
theorem w88_19 {E : gw_N} {M : Mem} {res : Option Value × gw_H} {x1 : Int32} {x2 : Int32} (H : ((10 < x2 → res = (some (.int 10), hs E M)) ∧ (¬ 10 < x2 → (∃ (r1 : Int32) (M1 : Mem), Rn 91 [.ref 38, .ref 39, .int 0, .int x1, .int x2] (hs E M) (some (.int r1)) (hs E M1) ∧ ((r1 = 0 → Ev 21 88 19 [some (.ref 36), some (.int x1), some (.int (x2 + 1))] [] (hs E M1) res) ∧ (¬ r1 = 0 → res = (some (.int x2), hs E M1))))))) : Ev 21 88 19 [some (.ref 36), some (.int x1), some (.int x2)] [] (hs E M) res := by
  refine Ev.steps 3 (pc' := if 10 < x2 then 50 else 25) (L' := [some (.ref 36), some (.int x1), some (.int x2)]) (st' := []) rfl ?_
  refine Ev_ite (fun hc => ?_) (fun hc => ?_)
  · replace H := H.1 hc
    refine Ev.steps 1 (pc' := 52) (L' := [some (.ref 36), some (.int x1), some (.int x2)]) (st' := [.int 10]) rfl ?_
    subst H
    exact Ev.ret rfl
  · replace H := H.2 hc
    refine Ev.steps 7 (pc' := 36) (L' := [some (.ref 36), some (.int x1), some (.int x2)]) (st' := [.int x2, .int x1, .int 0, .ref 39, .ref 38]) rfl ?_
    obtain ⟨r1, M1, hr1, H⟩ := H
    refine Ev.call (y := 91) (args := [.ref 38, .ref 39, .int 0, .int x1, .int x2]) (rest := []) (r := (some (.int r1))) rfl hr1 ?_
    show Ev 21 88 39 [some (.ref 36), some (.int x1), some (.int x2)] [.int r1] _ _
    refine Ev.steps 1 (pc' := if r1 = 0 then 44 else 42) (L' := [some (.ref 36), some (.int x1), some (.int x2)]) (st' := []) rfl ?_
    refine Ev_ite (fun hc => ?_) (fun hc => ?_)
    · replace H := H.1 hc
      refine Ev.steps 2 (pc' := 19) (L' := [some (.ref 36), some (.int x1), some (.int (x2 + 1))]) (st' := []) rfl ?_
      exact Ev.weak [some (.ref 36), some (.int x1), some (.int (x2 + 1))] (gw_leb_le ⟨rfl, rfl, rfl, trivial⟩) H
    · replace H := H.2 hc
      refine Ev.steps 1 (pc' := 43) (L' := [some (.ref 36), some (.int x1), some (.int x2)]) (st' := [.int x2]) rfl ?_
      subst H
      exact Ev.ret rfl

-- 89 GlassWires$Painter firstPaint (I)I
set_option maxRecDepth 20000 in
theorem w89_0 {E : gw_N} {M : Mem} {res : Option Value × gw_H} {x1 : Int32} (H : (∃ (r1 : Int32) (M1 : Mem), Rn 88 [.ref 36] (hs E M) (some (.int r1)) (hs E M1) ∧ (inb x1 64 ∧ (inb ((M1 37) (x1 : Int32).toNatClampNeg) 10 ∧ res = (some (.int ((M1 39) (((M1 37) (x1 : Int32).toNatClampNeg) : Int32).toNatClampNeg)), hs E M1))))) : Ev 22 89 0 [some (.ref 36), some (.int x1)] [] (hs E M) res := by
  refine Ev.steps 1 (pc' := 1) (L' := [some (.ref 36), some (.int x1)]) (st' := [.ref 36]) rfl ?_
  obtain ⟨r1, M1, hr1, H⟩ := H
  refine Ev.call (y := 88) (args := [.ref 36]) (rest := []) (r := (some (.int r1))) rfl hr1 ?_
  show Ev 22 89 4 [some (.ref 36), some (.int x1)] [.int r1] _ _
  refine Ev.steps 6 (pc' := 14) (L' := [some (.ref 36), some (.int x1)]) (st' := [.int x1, .ref 37, .ref 39]) rfl ?_
  refine Ev.rd (i := x1) (n := 64) (pc' := 15) (L' := [some (.ref 36), some (.int x1)]) (st' := [.int ((M1 37) (x1 : Int32).toNatClampNeg), .ref 39]) H.1 rfl ?_
  replace H := H.2
  refine Ev.rd (i := ((M1 37) (x1 : Int32).toNatClampNeg)) (n := 10) (pc' := 16) (L' := [some (.ref 36), some (.int x1)]) (st' := [.int ((M1 39) (((M1 37) (x1 : Int32).toNatClampNeg) : Int32).toNatClampNeg)]) H.1 rfl ?_
  replace H := H.2
  subst H
  exact Ev.ret rfl

-- 175 GlassWires paints ()I
set_option maxRecDepth 20000 in
theorem w175_0 {E : gw_N} {M : Mem} {res : Option Value × gw_H}  (H : ((10 < (F3 M) → res = (some (.int (-103)), hs E M)) ∧ (¬ 10 < (F3 M) → (∃ (r1 : Int32) (M1 : Mem), Rn 88 [.ref 36] (hs E M) (some (.int r1)) (hs E M1) ∧ res = (some (.int r1), hs E M1))))) : Ev 22 175 0 [some (.ref 8)] [] (hs E M) res := by
  refine Ev.steps 2 (pc' := 4) (L' := [some (.ref 8)]) (st' := [.ref 32]) rfl ?_
  refine Ev.call (y := 3) (args := [.ref 32]) (rest := []) (r := some (.int (F3 M))) rfl (s3) ?_
  show Ev 22 175 7 [some (.ref 8)] [.int (F3 M)] _ _
  refine Ev.steps 2 (pc' := if 10 < (F3 M) then 22 else 12) (L' := [some (.ref 8)]) (st' := []) rfl ?_
  refine Ev_ite (fun hc => ?_) (fun hc => ?_)
  · replace H := H.1 hc
    refine Ev.steps 1 (pc' := 24) (L' := [some (.ref 8)]) (st' := [.int (-103)]) rfl ?_
    subst H
    exact Ev.ret rfl
  · replace H := H.2 hc
    refine Ev.steps 2 (pc' := 16) (L' := [some (.ref 8)]) (st' := [.ref 36]) rfl ?_
    obtain ⟨r1, M1, hr1, H⟩ := H
    refine Ev.call (y := 88) (args := [.ref 36]) (rest := []) (r := (some (.int r1))) rfl hr1 ?_
    show Ev 22 175 19 [some (.ref 8)] [.int r1] _ _
    refine Ev.steps 1 (pc' := 24) (L' := [some (.ref 8)]) (st' := [.int r1]) rfl ?_
    subst H
    exact Ev.ret rfl

-- 176 GlassWires paint (I)I
set_option maxRecDepth 20000 in
theorem w176_0 {E : gw_N} {M : Mem} {res : Option Value × gw_H} {x1 : Int32} (H : (P5 M x1 ∧ (((F5 M x1) = 0 → res = (some (.int (-101)), hs E M)) ∧ (¬ (F5 M x1) = 0 → ((10 < (F3 M) → res = (some (.int (-103)), hs E M)) ∧ (¬ 10 < (F3 M) → (∃ (r1 : Int32) (M1 : Mem), Rn 89 [.ref 36, .int x1] (hs E M) (some (.int r1)) (hs E M1) ∧ res = (some (.int r1), hs E M1)))))))) : Ev 23 176 0 [some (.ref 8), some (.int x1)] [] (hs E M) res := by
  refine Ev.steps 3 (pc' := 5) (L' := [some (.ref 8), some (.int x1)]) (st' := [.int x1, .ref 32]) rfl ?_
  refine Ev.call (y := 5) (args := [.ref 32, .int x1]) (rest := []) (r := some (.int (F5 M x1))) rfl (s5 H.1) ?_
  replace H := H.2
  show Ev 23 176 8 [some (.ref 8), some (.int x1)] [.int (F5 M x1)] _ _
  refine Ev.steps 1 (pc' := if (F5 M x1) = 0 then 11 else 14) (L' := [some (.ref 8), some (.int x1)]) (st' := []) rfl ?_
  refine Ev_ite (fun hc => ?_) (fun hc => ?_)
  · replace H := H.1 hc
    refine Ev.steps 1 (pc' := 13) (L' := [some (.ref 8), some (.int x1)]) (st' := [.int (-101)]) rfl ?_
    subst H
    exact Ev.ret rfl
  · replace H := H.2 hc
    refine Ev.steps 2 (pc' := 18) (L' := [some (.ref 8), some (.int x1)]) (st' := [.ref 32]) rfl ?_
    refine Ev.call (y := 3) (args := [.ref 32]) (rest := []) (r := some (.int (F3 M))) rfl (s3) ?_
    show Ev 23 176 21 [some (.ref 8), some (.int x1)] [.int (F3 M)] _ _
    refine Ev.steps 2 (pc' := if 10 < (F3 M) then 37 else 26) (L' := [some (.ref 8), some (.int x1)]) (st' := []) rfl ?_
    refine Ev_ite (fun hc => ?_) (fun hc => ?_)
    · replace H := H.1 hc
      refine Ev.steps 1 (pc' := 39) (L' := [some (.ref 8), some (.int x1)]) (st' := [.int (-103)]) rfl ?_
      subst H
      exact Ev.ret rfl
    · replace H := H.2 hc
      refine Ev.steps 3 (pc' := 31) (L' := [some (.ref 8), some (.int x1)]) (st' := [.int x1, .ref 36]) rfl ?_
      obtain ⟨r1, M1, hr1, H⟩ := H
      refine Ev.call (y := 89) (args := [.ref 36, .int x1]) (rest := []) (r := (some (.int r1))) rfl hr1 ?_
      show Ev 23 176 34 [some (.ref 8), some (.int x1)] [.int r1] _ _
      refine Ev.steps 1 (pc' := 39) (L' := [some (.ref 8), some (.int x1)]) (st' := [.int r1]) rfl ?_
      subst H
      exact Ev.ret rfl

