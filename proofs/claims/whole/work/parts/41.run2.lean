/-! the program runs over -/
section RU2
variable {E : gw_N} {N : NM} {G : Geo} {A : Gla}
theorem sp23 {H : Int → Int} {w f : Int} (hG : GeoR G) (hg : GridOK G N) (hw : N 43 0 = w) (hw2 : 1 ≤ w ∧ w ≤ 99) (hcv : ∀ e, 0 ≤ e → e < 178 → N 23 e = covC G e) (hH : ∀ f, isF G f → N 49 f = H f ∧ R (H f)) (hf : isF G f) :
    Rn 23 [.ref 44, .int (J f)] (hs E (jm N)) (some (.int (J (bZ (∃ way, 0 ≤ way ∧ way < 4 ∧ outW G H w f way))))) (hs E (jm N)) := by
  have hb := fld_bd hG
  refine c23 (v23_0 ?_)
  refine loopZ (a := 0) (n := 4) (Q := fun k => (∀ way, 0 ≤ way → way < k → ¬ outW G H w f way) → Ev 4 23 2 [some (.ref 44), some (.int (J f)), some (.int (J k)), none] [] (hs E (jm N)) (_, _)) (by decide) ?_ ?_ (fun way h1 h2 => absurd h2 (by omega))
  · intro h
    refine v23_2 ?_
    rw [bZ_f (fun ⟨way, z1, z2, z3⟩ => h way z1 z2 z3)]
    ((repeat' (first | omega | exact True.intro | exact absurd True.intro ‹¬ True› | apply And.intro | intro _)) <;> rfl)
  · intro k k1 k2 ih h
    obtain ⟨b1, b2⟩ := cBes hG hg hf ⟨k1, k2⟩
    obtain ⟨c1, c2⟩ := cBet hG hg hf ⟨k1, k2⟩
    have hbt := bet_bd hG hf (way := k)
    have hcb := cov_bd hG (e := betZ G f k)
    have ecv := hcv (betZ G f k) hbt.1 hbt.2
    have skip : ¬ outW G H w f k → Ev 4 23 2 [some (.ref 44), some (.int (J f)), some (.int (J (k + 1))), none] [] (hs E (jm N)) (some (.int (J (bZ (∃ way, 0 ≤ way ∧ way < 4 ∧ outW G H w f way)))), (hs E (jm N))) := fun q => ih ((allZ_succ (p := fun way => ¬ outW G H w f way) k1).mpr ⟨h, q⟩)
    refine v23_2 ?_
    rw [b1, c1, show G103 N = w from hw]
    unfold Q67 G67
    rw [ecv]
    by_cases q : besZ G f k = -1
    · have s1 := skip (fun z => z.1 q)
      rw [q]
      refine ⟨by omega, fun z => absurd z (by omega), fun _ => ⟨b2, by decide, fun _ => s1, fun z => absurd rfl z⟩⟩
    · obtain ⟨k3, _, _⟩ := bes_spec hG hf ⟨k1, k2⟩ q
      obtain ⟨e1, e2⟩ := hH _ k3
      have d1 := k3.1
      have d2 := k3.2
      rw [e1]
      refine ⟨by omega, fun z => absurd z (by omega), fun _ => ⟨b2, by omega, fun z => absurd z q, fun _ => ⟨by omega, ?_, by omega, e2, fun z => skip (fun y => absurd y.2.1 (by omega)), fun z => ⟨c2, ?_, ?_, fun y => ?_, fun y => skip (fun x => ?_)⟩⟩⟩⟩
      · trivial
      · exact ⟨hbt, by omega, fun _ => trivial, fun _ => trivial⟩
      · split <;> decide
      · rw [bZ_t ⟨k, k1, k2, q, by omega, fun x => by rw [if_pos x] at y; omega⟩]
      · rw [if_neg x.2.2] at y
        exact y rfl
theorem sp22 {w : Int} (hG : GeoR G) (hg : GridOK G N) (hw : N 43 0 = w) (hw2 : 1 ≤ w ∧ w ≤ 99) (hcv : ∀ e, 0 ≤ e → e < 178 → N 23 e = covC G e) (hA : GlaR A) (e1 : N 45 = A.lay) (e2 : N 47 = A.thk) :
    Rn 22 [.ref 44] (hs E (jm N)) none (hs E (jm (clsG (upZ N 49 (fun f => if 0 ≤ f ∧ f < G.w * G.h then highZ A f else N 49 f)) (roZ G (highZ A) w (G.w * G.h) A)))) := by
  have hb := fld_bd hG
  have hro := roZ_ok (G := G) (H := highZ A) hw2.1 hA (fun f _ _ => rfl)
  refine c22 (v22_0 ?_)
  have h0 := loopZ (a := 0) (n := G.w * G.h) (Q := fun k => Ev 5 22 2 [some (.ref 44), some (.int (J k))] [] (hs E (jm (upZ N 49 (fun f => if 0 ≤ f ∧ f < k then highZ A f else N 49 f)))) (none, hs E (jm (clsG (upZ N 49 (fun f => if 0 ≤ f ∧ f < G.w * G.h then highZ A f else N 49 f)) (roZ G (highZ A) w (G.w * G.h) A))))) (by omega) ?_ ?_
  · have e : (fun f => if 0 ≤ f ∧ f < 0 then highZ A f else N 49 f) = N 49 := by
      funext x
      exact if_neg (by omega)
    rw [e, upZ_id] at h0
    exact h0
  · refine v22_2 ?_
    rw [show G40 (upZ N 49 (fun f => if 0 ≤ f ∧ f < G.w * G.h then highZ A f else N 49 f)) = G.w * G.h from cF hg]
    refine ⟨by omega, by omega, fun _ => ?_, fun z => absurd (Int.le_refl _) z⟩
    have h1 := loopZ (a := 0) (n := G.w * G.h) (Q := fun k => Ev 5 22 32 [some (.ref 44), some (.int (J k))] [] (hs E (jm (clsG (upZ N 49 (fun f => if 0 ≤ f ∧ f < G.w * G.h then highZ A f else N 49 f)) (roZ G (highZ A) w k A)))) (none, hs E (jm (clsG (upZ N 49 (fun f => if 0 ≤ f ∧ f < G.w * G.h then highZ A f else N 49 f)) (roZ G (highZ A) w (G.w * G.h) A))))) (by omega) ?_ ?_
    · have e : clsG (upZ N 49 (fun f => if 0 ≤ f ∧ f < G.w * G.h then highZ A f else N 49 f)) (roZ G (highZ A) w 0 A) = upZ N 49 (fun f => if 0 ≤ f ∧ f < G.w * G.h then highZ A f else N 49 f) := by
        show upZ (upZ (upZ N 49 _) 47 A.thk) 45 A.lay = _
        rw [← e1, ← e2]
        funext z
        unfold upZ
        by_cases q1 : z = 45
        · subst q1; rfl
        · rw [if_neg q1]
          by_cases q2 : z = 47
          · subst q2; rfl
          · rw [if_neg q2]
      rw [e] at h1
      exact h1
    · refine v22_32 ?_
      rw [show G40 (clsG (upZ N 49 (fun f => if 0 ≤ f ∧ f < G.w * G.h then highZ A f else N 49 f)) (roZ G (highZ A) w (G.w * G.h) A)) = G.w * G.h from cF hg]
      refine ⟨by omega, by omega, fun _ => rfl, fun z => absurd (Int.le_refl _) z⟩
    · intro k k1 k2 ih
      obtain ⟨r1, r2, r3⟩ := hro k k1 (by omega)
      have hF : isF G k := ⟨k1, k2⟩
      have hbd := highA_bd hA (f := k) (by omega)
      have e49 : ∀ g, isF G g → (clsG (upZ N 49 (fun f => if 0 ≤ f ∧ f < G.w * G.h then highZ A f else N 49 f)) (roZ G (highZ A) w k A)) 49 g = highZ A g := fun g hgg => if_pos ⟨hgg.1, hgg.2⟩
      have h23 := sp23 (E := E) (N := clsG (upZ N 49 (fun f => if 0 ≤ f ∧ f < G.w * G.h then highZ A f else N 49 f)) (roZ G (highZ A) w k A)) (G := G) (H := highZ A) (w := w) (f := k) hG (hg.fr rfl rfl rfl) hw hw2 hcv (fun g hgg => ⟨e49 g hgg, by have h1 := hgg.1; have h2 := hgg.2; have := highA_bd hA (f := g) (by omega); omega⟩) hF
      rw [roZ_succ k1] at ih
      refine v22_32 ?_
      rw [show G40 (clsG (upZ N 49 (fun f => if 0 ≤ f ∧ f < G.w * G.h then highZ A f else N 49 f)) (roZ G (highZ A) w k A)) = G.w * G.h from cF hg, e49 k hF, show G103 (clsG (upZ N 49 (fun f => if 0 ≤ f ∧ f < G.w * G.h then highZ A f else N 49 f)) (roZ G (highZ A) w k A)) = w from hw]
      have h01 := bZ_01 (p := ∃ way, 0 ≤ way ∧ way < 4 ∧ outW G (highZ A) w k way)
      refine ⟨by omega, by omega, fun z => absurd z (by omega), fun _ => ⟨by omega, trivial, by omega, by omega, fun z => ?_, fun z => ⟨_, h23, by omega, fun y => ?_, fun y => ?_⟩⟩⟩
      · rw [if_neg (fun (x : runZ G (highZ A) w k) => absurd x.1 (by omega))] at ih
        exact ih
      · rw [if_neg (fun (x : runZ G (highZ A) w k) => (bZ_0.mp y) x.2)] at ih
        exact ih
      · have hrun : runZ G (highZ A) w k := ⟨by omega, bZ_1.mp (by omega)⟩
        rw [if_pos hrun] at ih
        have hl : 0 < (roZ G (highZ A) w k A).lay k := high_pos r1 ⟨k1, by omega⟩ (by rw [(r3 k (by omega) (by omega)).2]; omega)
        exact ⟨_, _, sp24 r1 ⟨k1, by omega⟩ hl (by omega) (by omega), ih⟩
  · intro k k1 k2 ih
    refine v22_2 ?_
    rw [show G40 (upZ N 49 (fun f => if 0 ≤ f ∧ f < k then highZ A f else N 49 f)) = G.w * G.h from cF hg]
    refine ⟨by omega, by omega, fun z => absurd z (by omega), fun _ => ⟨_, sp13' hA e1 e2 (by omega), by omega, ?_⟩⟩
    rw [upZ_s, upZ_up]
    have e : updZ (fun f => if 0 ≤ f ∧ f < k then highZ A f else N 49 f) k (highZ A k) = (fun f => if 0 ≤ f ∧ f < k + 1 then highZ A f else N 49 f) := by
      funext x
      show (if x = k then highZ A k else if 0 ≤ x ∧ x < k then highZ A x else N 49 x) = _
      by_cases q : x = k
      · rw [if_pos q, if_pos (by omega), q]
      · rw [if_neg q]
        by_cases q2 : 0 ≤ x ∧ x < k
        · rw [if_pos q2, if_pos (by omega)]
        · rw [if_neg q2, if_neg (by omega)]
    rw [e]
    exact ih
end RU2
