/-! findCells of the reference -/
section RFI
variable {E : gw_N} {N : NM} {P : Pic}
def paI (G : Geo) (f0 c : Int → Int) (f sd m : Int) (c' : Int → Int) : Prop :=
  ceJ G f0 c' ∧ ((m = 0 ∧ c' = c ∧ (∀ f' s, isF G f' → f' < f → 0 ≤ s → s < 2 → okS G c f' s) ∧ (∀ s, 0 ≤ s → s < sd → okS G c f s)) ∨ (m = 1 ∧ sumZ (G.w * G.h) c' < sumZ (G.w * G.h) c))
theorem pass247 {cv c f0 : Int → Int} {res : Option Value × gw_H} (hI : PicOK P) (hR : RefOK P N) (hcv : ∀ e, 0 ≤ e → e < 162 → cv e = covC P.toGeo (toC e)) (hc : ceJ P.toGeo f0 c)
    (hend : ∀ m c', paI P.toGeo f0 c (P.toGeo.w * P.toGeo.h) 0 m c' → Ev 3 247 29 [some (.ref 59), some (.int (J m)), none, none, none, none] [] (hs E (jm (upZ (upZ N 67 cv) 69 c'))) res) :
    Ev 3 247 37 [some (.ref 59), some (.int (J 0)), some (.int (J 0)), none, none, none] [] (hs E (jm (upZ (upZ N 67 cv) 69 c))) res := by
  have hb := fld_bd hI.geo
  refine loopZ (a := 0) (n := P.toGeo.w * P.toGeo.h) (Q := fun f => ∀ m c', paI P.toGeo f0 c f 0 m c' → Ev 3 247 37 [some (.ref 59), some (.int (J m)), some (.int (J f)), none, none, none] [] (hs E (jm (upZ (upZ N 67 cv) 69 c'))) res) (by omega) ?_ ?_ 0 c ⟨hc, Or.inl ⟨rfl, rfl, fun f' s h1 h2 => absurd h1.1 (by omega), fun s h1 h2 => absurd h2 (by omega)⟩⟩
  · intro m c' h
    refine v247_37 ?_
    rw [rF (N := upZ (upZ N 67 cv) 69 c') (P := P) hR]
    (repeat' (first | omega | exact True.intro | exact absurd True.intro ‹¬ True› | apply And.intro | intro _))
    exact hend m c' h
  · intro f f1 f2 ih m c' h
    have hf : isF P.toGeo f := ⟨f1, f2⟩
    refine v247_37 ?_
    rw [rF (N := upZ (upZ N 67 cv) 69 c') (P := P) hR]
    (repeat' (first | omega | exact True.intro | exact absurd True.intro ‹¬ True› | apply And.intro | intro _))
    refine loopZ (a := 0) (n := 2) (Q := fun s => ∀ m c', paI P.toGeo f0 c f s m c' → Ev 3 247 47 [some (.ref 59), some (.int (J m)), some (.int (J f)), some (.int (J s)), none, none] [] (hs E (jm (upZ (upZ N 67 cv) 69 c'))) res) (by decide) ?_ ?_ m c' h
    · intro m c' h
      have hx := ih m c' ⟨h.1, by
        rcases h.2 with ⟨a, b, d, e⟩ | ⟨a, b⟩
        · refine Or.inl ⟨a, b, fun f' s k1 k2 k3 k4 => ?_, fun s k1 k2 => absurd k2 (by omega)⟩
          by_cases q : f' = f
          · rw [q]; exact e s k3 k4
          · exact d f' s k1 (by omega) k3 k4
        · exact Or.inr ⟨a, b⟩⟩
      refine v247_47 ?_
      (repeat' (first | omega | exact True.intro | exact absurd True.intro ‹¬ True› | apply And.intro | intro _))
      all_goals exact hx
    · intro s s1 s2 ih2 m c' h
      have hR' : RefOK P (upZ (upZ N 67 cv) 69 c') := hR
      have e1 := G245_b hI hR' hf ⟨s1, s2⟩
      refine v247_47 ?_
      rw [e1.1]
      have hbd : -1 ≤ besZ P.toGeo f s ∧ besZ P.toGeo f s < 64 := by
        by_cases hn : besZ P.toGeo f s = -1
        · omega
        · have := (bes_spec hI.geo hf (way := s) (by omega) hn).1
          have h1 := this.1
          have h2 := this.2
          omega
      -- going on without a change
      have go : okS P.toGeo c' f s → Ev 3 247 47 [some (.ref 59), some (.int (J m)), some (.int (J f)), some (.int (J (s + 1))), none, none] [] (hs E (jm (upZ (upZ N 67 cv) 69 c'))) res := by
        intro hk
        refine ih2 m c' ⟨h.1, ?_⟩
        rcases h.2 with ⟨a, b, d, e⟩ | ⟨a, b⟩
        · refine Or.inl ⟨a, b, d, fun s' k1 k2 => ?_⟩
          by_cases q : s' = s
          · rw [q, ← b]; exact hk
          · exact e s' k1 (by omega)
        · exact Or.inr ⟨a, b⟩
      refine ⟨by omega, fun q => absurd q (by omega), fun _ => ⟨e1.2, by omega, fun hn => go (fun q => absurd hn q), fun hn => ?_⟩⟩
      obtain ⟨k1, k2, k3⟩ := bes_spec hI.geo hf (way := s) (by omega) hn
      obtain ⟨b1, b2, b3⟩ := G246_b hI hR' hf ⟨s1, s2⟩ hn
      have ecv : (upZ (upZ N 67 cv) 69 c') 67 (G246 (upZ (upZ N 67 cv) 69 c') f s) = covC P.toGeo (betZ P.toGeo f s) := (hcv _ b1.1 b1.2).trans (by rw [b2])
      have hcb : 0 ≤ covC P.toGeo (betZ P.toGeo f s) ∧ covC P.toGeo (betZ P.toGeo f s) ≤ 30 := by
        have := sumZ_bd' (g := fun v => bZ (P.toGeo.laid v = 1 ∧ onC P.toGeo v (betZ P.toGeo f s))) (n := P.toGeo.ws) (B := 30) (c := 1) (fun k _ _ => bZ_bd) hI.geo.ws.1 hI.geo.ws.2 (by decide)
        exact ⟨this.1, by unfold covC; omega⟩
      rw [ecv]
      have hbc1 := h.1.1 f hf
      have hbc2 := h.1.1 _ k1
      have a1 := hbc1.1.1
      have a2 := hbc1.1.2
      have a3 := hbc2.1.1
      have a4 := hbc2.1.2
      have a5 := k1.1
      refine ⟨b3, b1, by omega, fun h0 => ⟨by omega, by omega, ?_, ?_, fun he => ?_, fun he => ⟨fun hle => ?_, fun hle => ?_⟩⟩, fun h0 => go (fun _ q => absurd q h0)⟩
      · rw [upZ_s]; omega
      · rw [upZ_s]; omega
      · rw [upZ_s] at he
        exact go (fun _ _ => he)
      · rw [upZ_s] at he hle ⊢
        rw [upZ_up]
        obtain ⟨m1, m2⟩ := ce_merge hI.geo h.1 hf ⟨s1, s2⟩ hn h0 he (c' (besZ P.toGeo f s)) (by omega)
        refine ih2 1 _ ⟨m1, Or.inr ⟨rfl, ?_⟩⟩
        rcases h.2 with ⟨a, b, d, e⟩ | ⟨a, b⟩
        · rw [b] at m2 ⊢; exact m2
        · omega
      · rw [upZ_s] at he hle ⊢
        rw [upZ_up]
        obtain ⟨m1, m2⟩ := ce_merge hI.geo h.1 hf ⟨s1, s2⟩ hn h0 he (c' f) (by omega)
        refine ih2 1 _ ⟨m1, Or.inr ⟨rfl, ?_⟩⟩
        rcases h.2 with ⟨a, b, d, e⟩ | ⟨a, b⟩
        · rw [b] at m2 ⊢; exact m2
        · omega
theorem sp247 (hI : PicOK P) (hR : RefOK P N) : Rn 247 [.ref 59] (hs E (jm N)) none (hs E (jm (upZ (upZ N 67 (covF P.toGeo (N 67) P.toGeo.ws 0)) 69 (celF P.toGeo (N 69))))) := by
  have hb := fld_bd hI.geo
  have hcv : ∀ e, 0 ≤ e → e < 162 → covF P.toGeo (N 67) P.toGeo.ws 0 e = covC P.toGeo (toC e) := fun e h1 h2 => covF_C hI.geo ⟨h1, h2⟩
  have key : ∀ n : Nat, ∀ c, ceJ P.toGeo (N 69) c → (sumZ (P.toGeo.w * P.toGeo.h) c).toNat = n → Ev 3 247 29 [some (.ref 59), some (.int (J 1)), none, none, none, none] [] (hs E (jm (upZ (upZ N 67 (covF P.toGeo (N 67) P.toGeo.ws 0)) 69 c))) (none, hs E (jm (upZ (upZ N 67 (covF P.toGeo (N 67) P.toGeo.ws 0)) 69 (celF P.toGeo (N 69))))) := by
    intro n
    induction n using Nat.strongRecOn with
    | ind n ih =>
      intro c hc hn
      refine v247_29 ?_
      (repeat' (first | omega | exact True.intro | exact absurd True.intro ‹¬ True› | apply And.intro | intro _))
      refine pass247 hI hR hcv hc ?_
      intro m c' h
      rcases h.2 with ⟨a, b, d, e⟩ | ⟨a, b⟩
      · refine v247_29 ?_
        subst a
        subst b
        rw [ce_fix hI.geo hc (fun f s h1 h2 h3 => d f s h1 h1.2 h2 h3)]
        ((repeat' (first | omega | exact True.intro | exact absurd True.intro ‹¬ True› | apply And.intro | intro _)) <;> rfl)
      · subst a
        have hnn : 0 ≤ sumZ (P.toGeo.w * P.toGeo.h) c' := (sumZ_bd (c := 64) (fun k k1 k2 => ⟨(h.1.1 k ⟨k1, k2⟩).1.1, by have := (h.1.1 k ⟨k1, k2⟩).1.2; omega⟩) (by omega)).1
        exact ih _ (by omega) c' h.1 rfl
  have rFu : ∀ c, G243 (upZ (upZ N 67 (covF P.toGeo (N 67) P.toGeo.ws 0)) 69 c) = P.toGeo.w * P.toGeo.h := fun c => rF (N := upZ (upZ N 67 (covF P.toGeo (N 67) P.toGeo.ws 0)) 69 c) (P := P) hR
  refine c247 (v247_0 ⟨_, sp237 hI hR, ?_⟩)
  have h0 := loopZ (a := 0) (n := P.toGeo.w * P.toGeo.h) (Q := fun k => Ev 3 247 6 [some (.ref 59), some (.int (J k)), none, none, none, none] [] (hs E (jm (upZ (upZ N 67 (covF P.toGeo (N 67) P.toGeo.ws 0)) 69 (fun x => if 0 ≤ x ∧ x < k then x else N 69 x)))) (none, hs E (jm (upZ (upZ N 67 (covF P.toGeo (N 67) P.toGeo.ws 0)) 69 (celF P.toGeo (N 69)))))) (by omega) ?_ ?_
  · have e : (fun x => if 0 ≤ x ∧ x < 0 then x else N 69 x) = (upZ N 67 (covF P.toGeo (N 67) P.toGeo.ws 0)) 69 := by
      funext x
      exact if_neg (by omega)
    rw [e, upZ_id] at h0
    exact h0
  · refine v247_6 ?_
    rw [rFu]
    (repeat' (first | omega | exact True.intro | exact absurd True.intro ‹¬ True› | apply And.intro | intro _))
    refine key _ _ ⟨fun f hf => ?_, fun f hf => ?_⟩ rfl
    · have e9 : (fun x => if 0 ≤ x ∧ x < P.toGeo.w * P.toGeo.h then x else N 69 x) f = f := if_pos ⟨hf.1, hf.2⟩
      rw [e9]
      exact ⟨hf, conn_refl, Int.le_refl _⟩
    · exact if_neg hf
  · intro k k1 k2 ih
    refine v247_6 ?_
    rw [rFu, upZ_s, upZ_up]
    have e : updZ (fun x => if 0 ≤ x ∧ x < k then x else N 69 x) k k = (fun x => if 0 ≤ x ∧ x < k + 1 then x else N 69 x) := by
      funext x
      show (if x = k then k else if 0 ≤ x ∧ x < k then x else N 69 x) = _
      by_cases q : x = k
      · rw [if_pos q, if_pos (by omega), q]
      · rw [if_neg q]
        by_cases q2 : 0 ≤ x ∧ x < k
        · rw [if_pos q2, if_pos (by omega)]
        · rw [if_neg q2, if_neg (by omega)]
    rw [e]
    (repeat' (first | omega | exact True.intro | exact absurd True.intro ‹¬ True› | apply And.intro | intro _))
    all_goals exact ih
theorem celF_in {f0 : Int → Int} {f : Int} {G : Geo} (h : isF G f) : celF G f0 f = cellZ G f := if_pos h
end RFI
