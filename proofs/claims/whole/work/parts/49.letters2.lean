/-! letters -/
section LEU
variable {E : gw_N} {N : NM} {P : Pic}
def lefN (w : Int64) : Nat → Int64
  | 0 => w
  | n + 1 => lushrZ (lefN w n) (J 8)
def lefZ (w : Int64) (k : Int) : Int64 := lefN w k.toNat
theorem lef_succ {w : Int64} {k : Int} (hk : 0 ≤ k) : lefZ w (k + 1) = lushrZ (lefZ w k) (J 8) := by
  unfold lefZ
  have e : (k + 1).toNat = k.toNat + 1 := by omega
  rw [e]
  rfl
theorem lef_eq {w : Int64} : ∀ k, 0 ≤ k → k < 8 → lefZ w k = lushrZ w (J (8 * k)) := by
  refine indZ (P := fun k => k < 8 → lefZ w k = lushrZ w (J (8 * k))) (fun _ => lsh_0.symm) ?_
  intro k hk ih h8
  rw [lef_succ hk, ih (by omega), lsh_next (by omega)]
/-- the page with letters behind it -/
noncomputable def pgF (w : Int64) (pm : Int) (f : Int → Int) (k : Int) : Int → Int := fun i => if pm ≤ i ∧ i < pm + k then byt w (i - pm) else f i
theorem pgF_0 {w : Int64} {pm : Int} {f : Int → Int} : pgF w pm f 0 = f := funext fun i => if_neg (by omega)
theorem pgF_add {w : Int64} {pm k : Int} {f : Int → Int} (hk : 0 ≤ k) : updZ (pgF w pm f k) (pm + k) (byt w k) = pgF w pm f (k + 1) := by
  funext i
  unfold updZ pgF
  by_cases e : i = pm + k
  · rw [if_pos e, if_pos (by omega), e]
    congr 1
    omega
  · rw [if_neg e]
    by_cases q : pm ≤ i ∧ i < pm + k
    · rw [if_pos q, if_pos (by omega)]
    · rw [if_neg q, if_neg (by omega)]
theorem ref_let {w : Int64} {res : Option Value × gw_H} (hI : PicOK P) (hR : RefOK P N)
    (hK : Ev 1 212 11 [some (.ref 59), some (.long w), none, some (.int (J (lmZ w 8))), some (.int (J (bZ (lgZ w 8)))), some (.long (lefZ w 8)), none, some (.int (J 8)), none] [] (hs E (jm N)) res) :
    Ev 1 212 11 [some (.ref 59), some (.long w), none, some (.int (J 0)), some (.int (J 1)), some (.long w), none, some (.int (J 0)), none] [] (hs E (jm N)) res := by
  have h0 := loopZ (a := 0) (n := 8) (Q := fun k => Ev 1 212 11 [some (.ref 59), some (.long w), none, some (.int (J (lmZ w k))), some (.int (J (bZ (lgZ w k)))), some (.long (lefZ w k)), none, some (.int (J k)), none] [] (hs E (jm N)) res) (by decide) hK ?_
  · rw [bZ_t (show lgZ w 0 from fun j h1 h2 => absurd h2 (by omega))] at h0
    exact h0
  · intro k k1 k2 ih
    have hb := byt_R (w := w) (k := k)
    have hm := lm_bd (w := w) k1
    have eb : (Int64.toInt32 (lefZ w k &&& 255)).toInt = byt w k := by rw [lef_eq k k1 k2]; rfl
    have key : ∀ α β : Int, α = bZ (0 < byt w k) → β = bZ (lgZ w (k + 1)) → Ev 1 212 11 [some (.ref 59), some (.long w), none, some (.int (J (lmZ w k + α))), some (.int (J β)), some (.long (lushrZ (lefZ w k) (J 8))), none, some (.int (J (k + 1))), none] [] (hs E (jm N)) res := by
      intro α β hα hβ
      rw [hα, hβ, ← lm_succ k1, ← lef_succ k1]
      exact ih
    have f1 := bZ_01 (p := lgZ w k)
    have f2 : bZ (0 < byt w k) = if 0 < byt w k then 1 else 0 := (bZ_ite).symm
    have f3 : bZ (lgZ w (k + 1)) = if bZ (lgZ w k) = 1 ∧ byt w k ≤ 126 ∧ (byt w k = 0 ∨ lmZ w k = k) then 1 else 0 := by
      rw [bZ_ite]
      refine bZ_congr ?_
      rw [lg_succ k1, bZ_1]
    rw [f2, f3] at key
    refine v212_11 ?_
    rw [eb]
    repeat' (first | omega | (refine key _ _ ?_ ?_ <;> omega) | apply And.intro | intro _)
theorem op_letters {w : Int64} (hI : GInv P N) : Both E N 162 212 [.long w] := by
  have hpm := hI.ok.pag.pm
  have e1 := hI.cls.page.pm
  have hm := lm_bd (w := w) (k := 8) (by decide)
  by_cases hg : lgZ w 8
  · have eR : letR w = lmZ w 8 := if_pos hg
    by_cases hr : P.toPag.pm + lmZ w 8 ≤ 40
    · refine both (r := .int (J (P.toPag.pm + lmZ w 8))) (P' := P.setPag (Pag.mk (P.toPag.pm + lmZ w 8) (pgF w P.toPag.pm P.toPag.pg (lmZ w 8)))) hI (PicOK.mk hI.ok.geo (PagR.mk ?_ ?_) hI.ok.pal hI.ok.gla hI.ok.ten hI.ok.rod) ?_ ?_
      · show 0 ≤ P.toPag.pm + lmZ w 8 ∧ P.toPag.pm + lmZ w 8 ≤ 40
        omega
      · intro i i1 i2
        replace i2 : i < P.toPag.pm + lmZ w 8 := i2
        show R (pgF w P.toPag.pm P.toPag.pg (lmZ w 8) i)
        unfold pgF
        by_cases q : P.toPag.pm ≤ i ∧ i < P.toPag.pm + lmZ w 8
        · rw [if_pos q]
          have := byt_R (w := w) (k := i - P.toPag.pm)
          omega
        · rw [if_neg q]
          exact hI.ok.pag.pg i i1 (by omega)
      · refine ⟨upZ (upZ N 13 (pgF w P.toPag.pm (N 13) (lmZ w 8))) 12 (updZ (N 12) 1 (N 12 1 + lmZ w 8)), c162 (v162_0 ⟨P.toPag.pm + lmZ w 8, _, c80 (v80_0 ⟨_, sp81, ?_⟩), rfl⟩), ?_, ?_⟩
        · rw [eR, e1]
          refine ⟨by omega, fun z => absurd z (by omega), fun _ => ⟨by omega, fun _ => ?_, fun z => absurd hr z⟩⟩
          have h0 := loopZ (a := 0) (n := lmZ w 8) (Q := fun k => Ev 3 80 30 [some (.ref 12), some (.long w), none, some (.int (J (lmZ w 8))), some (.int (J k))] [] (hs E (jm (upZ N 13 (pgF w P.toPag.pm (N 13) k)))) (some (.int (J (P.toPag.pm + lmZ w 8))), hs E (jm (upZ (upZ N 13 (pgF w P.toPag.pm (N 13) (lmZ w 8))) 12 (updZ (N 12) 1 (P.toPag.pm + lmZ w 8)))))) hm.1 ?_ ?_
          · rw [pgF_0, upZ_id] at h0
            exact h0
          · refine v80_30 ?_
            rw [show (upZ N 13 (pgF w P.toPag.pm (N 13) (lmZ w 8))) 12 = N 12 from rfl, e1, updZ_s]
            exact ⟨by omega, by omega, fun _ => rfl, fun z => absurd (Int.le_refl _) z⟩
          · intro k k1 k2 ih
            refine v80_30 ?_
            rw [show (upZ N 13 (pgF w P.toPag.pm (N 13) k)) 12 = N 12 from rfl, e1, upZ_s, upZ_up, show G82 (upZ N 13 (pgF w P.toPag.pm (N 13) k)) w k = byt w k from rfl, pgF_add k1]
            exact ⟨by omega, by omega, fun z => absurd z (by omega), fun _ => ⟨by omega, ih⟩⟩
        · (refine ClsOK.mk ?_ ?_ ?_ ?_ ?_ ?_ ?_ ?_ ?_ <;> first | exact (hI.cls).grid.fr rfl rfl rfl | exact (hI.cls).page.fr rfl rfl | exact (hI.cls).wires.fr rfl rfl rfl rfl rfl rfl rfl rfl | exact (hI.cls).net.fr rfl rfl rfl rfl | exact (hI.cls).cells.fr rfl rfl rfl | exact (hI.cls).pal.fr rfl rfl rfl | exact (hI.cls).glass.fr rfl rfl rfl rfl rfl | exact (hI.cls).ten.fr rfl | exact (hI.cls).rods.fr rfl rfl rfl | skip)
          refine PageOK.mk ?_ ?_
          · show updZ (N 12) 1 (N 12 1 + lmZ w 8) 1 = P.toPag.pm + lmZ w 8
            rw [updZ_s, e1]
          · intro i i1 i2
            replace i2 : i < P.toPag.pm + lmZ w 8 := i2
            show pgF w P.toPag.pm (N 13) (lmZ w 8) i = pgF w P.toPag.pm P.toPag.pg (lmZ w 8) i
            unfold pgF
            by_cases q : P.toPag.pm ≤ i ∧ i < P.toPag.pm + lmZ w 8
            · rw [if_pos q, if_pos q]
            · rw [if_neg q, if_neg q]
              exact hI.cls.page.pg i i1 (by omega)
        · (intro a ha; repeat rw [upZ_n (by omega)])
      · intro N hR
        have e3 := hR.pm
        refine ⟨upZ (upZ N 60 (pgF w P.toPag.pm P.toPag.pg (lmZ w 8))) 59 (updZ (N 59) 3 (P.toPag.pm + lmZ w 8)), c212 (v212_0 (ref_let hI.ok hR (v212_11 ?_))), ?_, ?_⟩
        · rw [bZ_t hg, e3]
          refine ⟨by decide, fun _ => ⟨by decide, fun z => absurd z (by decide), fun _ => ⟨by omega, fun _ => ?_, fun z => absurd hr z⟩⟩, fun z => absurd (Int.le_refl _) z⟩
          have h0 := loopZ (a := 0) (n := lmZ w 8) (Q := fun k => Ev 1 212 108 [some (.ref 59), some (.long w), none, some (.int (J (lmZ w 8))), none, none, none, some (.int (J k)), none] [] (hs E (jm (upZ (upZ N 60 (pgF w P.toPag.pm P.toPag.pg k)) 59 (updZ (N 59) 3 (P.toPag.pm + k))))) (some (.int (J (P.toPag.pm + lmZ w 8))), hs E (jm (upZ (upZ N 60 (pgF w P.toPag.pm P.toPag.pg (lmZ w 8))) 59 (updZ (N 59) 3 (P.toPag.pm + lmZ w 8)))))) hm.1 ?_ ?_
          · rw [pgF_0, Int.add_zero, ← hR.pg, ← e3, updZ_id, upZ_id, upZ_id] at h0
            rw [← hR.pg, ← e3]
            exact h0
          · refine v212_108 ?_
            rw [upZ_s, updZ_s]
            exact ⟨by omega, by omega, fun _ => rfl, fun z => absurd (Int.le_refl _) z⟩
          · intro k k1 k2 ih
            refine v212_108 ?_
            rw [upZ_s, updZ_s, show (upZ (upZ N 60 (pgF w P.toPag.pm P.toPag.pg k)) 59 (updZ (N 59) 3 (P.toPag.pm + k))) 60 = pgF w P.toPag.pm P.toPag.pg k from rfl, show (Int64.toInt32 (lushrZ w (J (8 * k)) &&& 255)).toInt = byt w k from rfl, pgF_add k1, up2_up2]
            have e9 : updZ (updZ (N 59) 3 (P.toPag.pm + k)) 3 (P.toPag.pm + k + 1) = updZ (N 59) 3 (P.toPag.pm + (k + 1)) := by
              funext i
              unfold updZ
              split
              · omega
              · rfl
            rw [e9]
            exact ⟨by omega, by omega, fun z => absurd z (by omega), fun _ => ⟨by omega, ih⟩⟩
        · have u : ∀ k, ¬ k = 3 → updZ (N 59) 3 (P.toPag.pm + lmZ w 8) k = N 59 k := fun k hk => updZ_n hk
          refine RefOK.mk ((u 0 (by decide)).trans hR.w) ((u 1 (by decide)).trans hR.h) (show updZ (N 59) 3 (P.toPag.pm + lmZ w 8) 3 = P.toPag.pm + lmZ w 8 from updZ_s) ((u 4 (by decide)).trans hR.ws) ((u 22 (by decide)).trans hR.wall) ((u 23 (by decide)).trans hR.stiff) ((u 24 (by decide)).trans hR.bear) ((u 29 (by decide)).trans hR.fires) ((u 34 (by decide)).trans hR.bc) ((u 35 (by decide)).trans hR.bt) ((u 36 (by decide)).trans hR.rods) rfl hR.px hR.py hR.mv hR.laid hR.sold hR.heat hR.shr hR.pul hR.foe hR.lay hR.col hR.thk hR.sta hR.rl hR.rm
        · (intro a ha; repeat rw [upZ_n (by omega)])
    · refine both_same (r := .int (J (-104))) hI (c162 (v162_0 ⟨_, _, c80 (v80_0 ⟨_, sp81, ?_⟩), rfl⟩)) (c212 (v212_0 (ref_let hI.ok hI.ref (v212_11 ?_))))
      · rw [eR, e1]
        exact ⟨by omega, fun z => absurd z (by omega), fun _ => ⟨by omega, fun z => absurd z hr, fun _ => rfl⟩⟩
      · rw [bZ_t hg, hI.ref.pm]
        exact ⟨by decide, fun _ => ⟨by decide, fun z => absurd z (by decide), fun _ => ⟨by omega, fun z => absurd z hr, fun _ => rfl⟩⟩, fun z => absurd (Int.le_refl _) z⟩
  · have eR : letR w = -1 := if_neg hg
    refine both_same (r := .int (J (-102))) hI (c162 (v162_0 ⟨_, _, c80 (v80_0 ⟨_, sp81, ?_⟩), rfl⟩)) (c212 (v212_0 (ref_let hI.ok hI.ref (v212_11 ?_))))
    · rw [eR]
      exact ⟨by decide, fun _ => rfl, fun z => absurd rfl z⟩
    · rw [bZ_f hg]
      exact ⟨by decide, fun _ => ⟨by decide, fun _ => rfl, fun z => absurd rfl z⟩, fun z => absurd (Int.le_refl _) z⟩
end LEU
