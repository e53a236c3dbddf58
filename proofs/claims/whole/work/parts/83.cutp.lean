/-! cut, of the program -/
section CUP
variable {E : gw_N} {N : NM} {P : Pic} {G : Geo}
def lqZ (G : Geo) (v : Int) : Int := if G.laid v = 1 then v else -1
theorem lq_iff {v : Int} (h : 0 ≤ v) : lqZ G v = v ↔ G.laid v = 1 := by
  unfold lqZ
  split
  · exact ⟨fun _ => ‹_›, fun _ => rfl⟩
  · exact ⟨fun z => by omega, fun z => absurd z ‹_›⟩
noncomputable def nL (G : Geo) : Int := cnq (lqZ G) G.ws
noncomputable def lnZ (G : Geo) (j : Int) : Int := sumZ G.ws (fun v => bZ (lqZ G v = v ∧ cnq (lqZ G) v = j) * G.mv v)
theorem nL_laid (hG : GeoR G) : laidN G = nL G := by
  unfold laidN nL cnq
  refine sumZ_congr fun v v1 v2 => ?_
  have := hG.laid v v1 v2
  rw [bZ_congr (lq_iff v1)]
  rcases this with h | h
  · rw [h, bZ_f (by decide)]
  · rw [h, bZ_t rfl]
theorem ln_at {v : Int} (hv : 0 ≤ v ∧ v < G.ws) (hl : G.laid v = 1) : lnZ G (cnq (lqZ G) v) = G.mv v := by
  unfold lnZ
  rw [← sumZ_one (f := G.mv) hv]
  refine sumZ_congr fun u u1 u2 => ?_
  congr 1
  refine bZ_congr ⟨fun z => cnq_inj hv.1 u1 ((lq_iff hv.1).mpr hl) z.1 z.2.symm, fun z => ?_⟩
  rw [← z]
  exact ⟨(lq_iff hv.1).mpr hl, rfl⟩
theorem ln_bd (hG : GeoR G) {j : Int} (hj : 0 ≤ j ∧ j < nL G) : 1 ≤ lnZ G j ∧ lnZ G j ≤ 24 := by
  obtain ⟨v, v1, v2, v3, v4⟩ := cnq_ex (q := lqZ G) (m := G.ws) hG.ws.1 hj
  rw [← v4, ln_at ⟨v1, v2⟩ ((lq_iff v1).mp v3)]
  exact hG.mv v v1 v2
theorem sm_bd (hG : GeoR G) (hn : nL G ≤ 8) {T : Int → Prop} : 0 ≤ smP (nL G) (lnZ G) T ∧ smP (nL G) (lnZ G) T ≤ 192 := by
  have h0 := (cnq_bd (q := lqZ G) hG.ws.1).1
  have := sumZ_bd' (g := fun w => bZ (T w) * lnZ G w) (n := nL G) (B := 8) (c := 24) (fun w w1 w2 => by
    have := ln_bd hG ⟨w1, w2⟩
    rcases bZ_01 (p := T w) with h | h <;> (rw [h]; omega)) h0 hn (by decide)
  unfold smP
  omega
/-- sums of lengths stand for all sets of the first wires -/
def smI (G : Geo) (j : Int) (f : Int → Int) : Prop := ∀ s, 0 ≤ s → s < 2 ^ j.toNat → f s = smP (nL G) (lnZ G) (mk s)
theorem sm_dbl (hn : 0 ≤ nL G ∧ nL G ≤ 8) {j s : Int} (hj : 0 ≤ j ∧ j < nL G) (hs : 0 ≤ s ∧ s < 2 ^ j.toNat) : smP (nL G) (lnZ G) (mk (2 ^ j.toNat + s)) = smP (nL G) (lnZ G) (mk s) + lnZ G j := by
  unfold smP
  rw [← sumZ_one (f := lnZ G) hj, ← sumZ_add]
  refine sumZ_congr fun w w1 w2 => ?_
  obtain ⟨d1, d2⟩ := dbl (j := j) (s := s) (w := w) (by omega) hs (by omega)
  by_cases q : j = w
  · have hw0 := d2 (by omega)
    unfold mk
    rw [d1, if_pos q.symm, hw0, bZ_t rfl, bZ_f (by decide), bZ_t q]
    omega
  · unfold mk
    rw [d1, if_neg (fun z => q z.symm), bZ_f q, Int.zero_mul, Int.add_zero]
theorem sp125 (hI : PicOK P) (hw : WiresOK P.toGeo N) (hn : nL P.toGeo ≤ 8) : ∃ f, Rn 125 [.ref 54, .ref 14] (hs E (jm N)) none (hs E (jm (upZ N 57 f))) ∧ smI P.toGeo (nL P.toGeo) f := by
  have hG := hI.geo
  have hws := hG.ws
  have hn0 := (cnq_bd (q := lqZ P.toGeo) hws.1).1
  have ew : ∀ f, WiresOK P.toGeo (upZ N 57 f) := fun f => hw
  have key := loopZ (a := 0) (n := P.toGeo.ws) (Q := fun v => ∀ f, smI P.toGeo (cnq (lqZ P.toGeo) v) f → ∃ f', smI P.toGeo (nL P.toGeo) f' ∧ Ev 2 125 11 [some (.ref 54), some (.ref 14), some (.int (J (2 ^ (cnq (lqZ P.toGeo) v).toNat))), some (.int (J v)), none] [] (hs E (jm (upZ N 57 f))) (none, hs E (jm (upZ N 57 f')))) hws.1 ?_ ?_
  · obtain ⟨f', k1, k2⟩ := key (updZ (N 57) 0 0) (fun s s1 s2 => by
      have e : (2 : Int) ^ (cnq (lqZ P.toGeo) 0).toNat = 1 := rfl
      have hs0 : s = 0 := by omega
      rw [hs0, updZ_s]
      exact (sumZ_zero fun w _ _ => by unfold mk; rw [bit00, bZ_f (by decide), Int.zero_mul]).symm)
    exact ⟨f', c125 (v125_0 k2), k1⟩
  · intro f hf
    refine ⟨f, hf, v125_11 ?_⟩
    have h2 := p2_256 (n := cnq (lqZ P.toGeo) P.toGeo.ws) ⟨hn0, hn⟩
    rw [show G143 (upZ N 57 f) = P.toGeo.ws from hw.ws]
    exact ⟨by omega, by omega, fun _ => rfl, fun z => absurd (Int.le_refl _) z⟩
  · intro v v1 v2 ih f hf
    have hla := hG.laid v v1 v2
    have hm := hG.mv v v1 v2
    have e145 : G145 (upZ N 57 f) v = P.toGeo.laid v := hw.laid v v1 v2
    have q145 : Q145 (upZ N 57 f) v := by
      refine ⟨by omega, ?_, trivial⟩
      show N 15 v = 0 ∨ N 15 v = 1
      rw [hw.laid v v1 v2]
      exact hla
    have hjb := cnq_bd (q := lqZ P.toGeo) v1
    by_cases la : P.toGeo.laid v = 1
    · have hlq := (lq_iff (G := P.toGeo) v1).mpr la
      have hj : cnq (lqZ P.toGeo) v < nL P.toGeo := cnq_lt v1 hlq v2
      have es : cnq (lqZ P.toGeo) (v + 1) = cnq (lqZ P.toGeo) v + 1 := by rw [cnq_s v1, bZ_t hlq]
      have h2 := p2_256 (n := cnq (lqZ P.toGeo) v) (by omega)
      have h2' := p2_256 (n := cnq (lqZ P.toGeo) v + 1) (by omega)
      have e2 : (2 : Int) ^ (cnq (lqZ P.toGeo) v + 1).toNat = 2 ^ (cnq (lqZ P.toGeo) v).toNat * 2 := by
        rw [show (cnq (lqZ P.toGeo) v + 1).toNat = (cnq (lqZ P.toGeo) v).toNat + 1 by omega, Int.pow_succ]
      have inner := loopZ (a := 0) (n := 2 ^ (cnq (lqZ P.toGeo) v).toNat) (Q := fun s => ∀ f, smI P.toGeo (cnq (lqZ P.toGeo) v) f → (∀ t, 0 ≤ t → t < s → f (2 ^ (cnq (lqZ P.toGeo) v).toNat + t) = smP (nL P.toGeo) (lnZ P.toGeo) (mk (2 ^ (cnq (lqZ P.toGeo) v).toNat + t))) → ∃ f', smI P.toGeo (nL P.toGeo) f' ∧ Ev 2 125 37 [some (.ref 54), some (.ref 14), some (.int (J (2 ^ (cnq (lqZ P.toGeo) v).toNat))), some (.int (J v)), some (.int (J s))] [] (hs E (jm (upZ N 57 f))) (none, hs E (jm (upZ N 57 f')))) (by omega) ?_ ?_
      · obtain ⟨f', k1, k2⟩ := inner f hf (fun t a b => absurd b (by omega))
        refine ⟨f', k1, v125_11 ?_⟩
        rw [show G143 (upZ N 57 f) = P.toGeo.ws from hw.ws, e145]
        exact ⟨by omega, by omega, fun z => absurd z (by omega), fun _ => ⟨q145, by omega, fun z => by omega, fun _ => ⟨by omega, fun z => by omega, fun _ => k2⟩⟩⟩
      · intro f1 g1 g2
        obtain ⟨f', k1, k2⟩ := ih f1 (fun s s1 s2 => by
          rw [es, e2] at s2
          by_cases q : s < 2 ^ (cnq (lqZ P.toGeo) v).toNat
          · exact g1 s s1 q
          · have := g2 (s - 2 ^ (cnq (lqZ P.toGeo) v).toNat) (by omega) (by omega)
            rwa [show 2 ^ (cnq (lqZ P.toGeo) v).toNat + (s - 2 ^ (cnq (lqZ P.toGeo) v).toNat) = s by omega] at this)
        rw [es, e2] at k2
        exact ⟨f', k1, v125_37 ⟨by omega, by omega, fun _ => k2, fun z => absurd (Int.le_refl _) z⟩⟩
      · intro s s1 s2 ih2 f1 g1 g2
        have hval : f1 s + P.toGeo.mv v = smP (nL P.toGeo) (lnZ P.toGeo) (mk (2 ^ (cnq (lqZ P.toGeo) v).toNat + s)) := by
          rw [g1 s s1 s2, sm_dbl ⟨hn0, hn⟩ ⟨hjb.1, hj⟩ ⟨s1, s2⟩, ln_at ⟨v1, v2⟩ la]
        obtain ⟨f', k1, k2⟩ := ih2 (updZ f1 (2 ^ (cnq (lqZ P.toGeo) v).toNat + s) (f1 s + P.toGeo.mv v)) (fun t t1 t2 => by rw [updZ_n (by omega)]; exact g1 t t1 t2) (fun t t1 t2 => by
          by_cases q : t = s
          · rw [q, updZ_s]
            exact hval
          · rw [updZ_n (by omega)]
            exact g2 t t1 (by omega))
        refine ⟨f', k1, v125_37 ?_⟩
        rw [upZ_s, upZ_up, show G149 (upZ N 57 f1) v = P.toGeo.mv v from hw.mv v v1 v2]
        exact ⟨by omega, by omega, fun z => absurd z (by omega), fun _ => ⟨by omega, ⟨by omega, trivial⟩, by omega, k2⟩⟩
    · have hlq : ¬ lqZ P.toGeo v = v := fun z => la ((lq_iff v1).mp z)
      have es : cnq (lqZ P.toGeo) (v + 1) = cnq (lqZ P.toGeo) v := by rw [cnq_s v1, bZ_f hlq, Int.add_zero]
      obtain ⟨f', k1, k2⟩ := ih f (by rw [es]; exact hf)
      rw [es] at k2
      refine ⟨f', k1, v125_11 ?_⟩
      rw [show G143 (upZ N 57 f) = P.toGeo.ws from hw.ws, e145]
      exact ⟨by omega, by omega, fun z => absurd z (by omega), fun _ => ⟨q145, by omega, fun _ => k2, fun z => by omega⟩⟩
/-- one rod more -/
theorem sp126 {l : Int} {C : Int → Int} (hG : GeoR G) (hn : nL G ≤ 8) (hl : 1 ≤ l ∧ l ≤ 99) (hs7 : smI G (nL G) (N 57)) (hC : ∀ s, 0 ≤ s → s < 2 ^ (nL G).toNat → 0 ≤ C s ∧ C s ≤ 1000000) :
    ∃ C' h, (h = 0 ∨ h = 1) ∧ (h = 0 → ∀ s, 0 ≤ s → s < 2 ^ (nL G).toNat → C' s = C s) ∧ C' 0 = C 0 ∧ (∀ s, 0 < s → s < 2 ^ (nL G).toNat → stR (nL G) (lnZ G) l C s (C' s)) ∧ Rn 126 [.ref 54, .int (J l), .int (J (2 ^ (nL G).toNat - 1))] (hs E (jm (upZ N 58 C))) (some (.int (J h))) (hs E (jm (upZ N 58 C'))) := by
  have hn0 := (cnq_bd (q := lqZ G) hG.ws.1).1
  have h2 := p2_256 (n := nL G) ⟨hn0, hn⟩
  have key : ∀ t : Nat, (t : Int) < 2 ^ (nL G).toNat → ∀ (C1 : Int → Int) (h : Int), (h = 0 ∨ h = 1) → (∀ s, 0 ≤ s → s ≤ (t : Int) → C1 s = C s) → (∀ s, (t : Int) < s → s < 2 ^ (nL G).toNat → stR (nL G) (lnZ G) l C s (C1 s)) → (h = 0 → ∀ s, 0 ≤ s → s < 2 ^ (nL G).toNat → C1 s = C s) →
      ∃ C' h', ((h' = 0 ∨ h' = 1) ∧ (h' = 0 → ∀ s, 0 ≤ s → s < 2 ^ (nL G).toNat → C' s = C s) ∧ C' 0 = C 0 ∧ (∀ s, 0 < s → s < 2 ^ (nL G).toNat → stR (nL G) (lnZ G) l C s (C' s))) ∧ Ev 1 126 5 [some (.ref 54), some (.int (J l)), none, some (.int (J h)), some (.int (J ((t : Int)))), none, none] [] (hs E (jm (upZ N 58 C1))) (some (.int (J h')), hs E (jm (upZ N 58 C'))) := by
    intro t
    induction t with
    | zero =>
      intro ht C1 h hh h1 h2' h3
      exact ⟨C1, h, ⟨hh, h3, h1 0 (Int.le_refl _) (by omega), fun s s1 s2 => h2' s (by omega) s2⟩, v126_5 ⟨by decide, fun _ => ⟨hh, rfl⟩, fun z => absurd (by decide) z⟩⟩
    | succ t ih =>
      intro ht C1 h hh h1 h2' h3
      generalize hset : ((t + 1 : Nat) : Int) = set at *
      have hset0 : 0 < set ∧ set < 256 := by omega
      have hset1 : set + (-1) = (t : Int) := by omega
      -- from a part on, down
      have inner : ∀ (m : Nat) (p : Int), p.toNat = m → 0 ≤ p → p ≤ set → sub set p → ∀ (C2 : Int → Int) (h : Int), (h = 0 ∨ h = 1) → (∀ s, 0 ≤ s → s < 2 ^ (nL G).toNat → ¬ s = set → C2 s = C1 s) → C2 set ≤ C set → 0 ≤ C2 set → (C2 set = C set ∨ ∃ q, okp (nL G) (lnZ G) l set q ∧ C2 set = C (zxor set q) + 1000 + l) → (∀ q, okp (nL G) (lnZ G) l set q → p < q → C2 set ≤ C (zxor set q) + 1000 + l) → (h = 0 → ∀ s, 0 ≤ s → s < 2 ^ (nL G).toNat → C2 s = C s) →
          ∃ C' h', ((h' = 0 ∨ h' = 1) ∧ (h' = 0 → ∀ s, 0 ≤ s → s < 2 ^ (nL G).toNat → C' s = C s) ∧ C' 0 = C 0 ∧ (∀ s, 0 < s → s < 2 ^ (nL G).toNat → stR (nL G) (lnZ G) l C s (C' s))) ∧ Ev 1 126 14 [some (.ref 54), some (.int (J l)), none, some (.int (J h)), some (.int (J set)), some (.int (J p)), none] [] (hs E (jm (upZ N 58 C2))) (some (.int (J h')), hs E (jm (upZ N 58 C'))) := by
        intro m
        induction m using Nat.strongRecOn with
        | ind m ihm =>
          intro p hpm hp0 hps hsb C2 h hh g1 g2 g2' g3 g4 g5
          by_cases hpz : p = 0
          · obtain ⟨C', h', k1, k2⟩ := ih (by omega) C2 h hh (fun s s1 s2 => by rw [g1 s s1 (by omega) (by omega)]; exact h1 s s1 (by omega)) (fun s s1 s2 => by
              by_cases q : s = set
              · rw [q]
                exact ⟨g2, g3, fun r hr => g4 r hr (by have := hr.1; omega)⟩
              · rw [g1 s (by omega) s2 q]
                exact h2' s (by omega) s2) g5
            refine ⟨C', h', k1, v126_14 ⟨by omega, fun _ => ?_, fun z => absurd (by omega) z⟩⟩
            rw [hset1]
            exact k2
          · obtain ⟨n1, n2, n3⟩ := set_next (s := set) (p := p) (by omega) (by omega) hsb
            obtain ⟨x1, x2⟩ := set_less (s := set) (p := p) (by omega) (by omega) hsb
            have hms : (zand (p - 1) set).toNat < m := by clear g3 g4 g5; omega
            have hsm := sm_bd hG hn (T := mk p)
            have e57 : N 57 p = smP (nL G) (lnZ G) (mk p) := hs7 p hp0 (by omega)
            have exx : C2 (zxor set p) = C (zxor set p) := by
              rw [g1 _ x1.1 (by omega) (by omega)]
              exact h1 _ x1.1 (by omega)
            have hcx := hC (zxor set p) x1.1 (by omega)
            have hcs := hC set (by omega) (by omega)
            -- all greater parts
            have hgt : ∀ q, okp (nL G) (lnZ G) l set q → zand (p - 1) set < q → q = p ∨ p < q := by
              intro q hq hlt
              by_cases z : q < p
              · have := n3 q (by have := hq.1; omega) hq.2.2.1 z
                omega
              · omega
            have h57 : (upZ N 58 C2) 57 p = smP (nL G) (lnZ G) (mk p) := e57
            have h58 : (upZ N 58 C2) 58 = C2 := upZ_s
            have go : (¬ okp (nL G) (lnZ G) l set p ∨ C2 set ≤ C (zxor set p) + 1000 + l) → ∃ C' h', ((h' = 0 ∨ h' = 1) ∧ (h' = 0 → ∀ s, 0 ≤ s → s < 2 ^ (nL G).toNat → C' s = C s) ∧ C' 0 = C 0 ∧ (∀ s, 0 < s → s < 2 ^ (nL G).toNat → stR (nL G) (lnZ G) l C s (C' s))) ∧ Ev 1 126 14 [some (.ref 54), some (.int (J l)), none, some (.int (J h)), some (.int (J set)), some (.int (J (zand (p - 1) set))), none] [] (hs E (jm (upZ N 58 C2))) (some (.int (J h')), hs E (jm (upZ N 58 C'))) := by
              intro hn2
              refine ihm (zand (p - 1) set).toNat hms (zand (p - 1) set) rfl n1.1 (by omega) n2 C2 h hh g1 g2 g2' g3 (fun q hq hlt => ?_) g5
              rcases hgt q hq hlt with z | z
              · rw [z] at hq ⊢
                rcases hn2 with y | y
                · exact absurd hq y
                · exact y
              · exact g4 q hq z
            by_cases hlt : l < smP (nL G) (lnZ G) (mk p)
            · obtain ⟨C', h', k1, k2⟩ := go (Or.inl (fun z => by have := z.2.2.2; omega))
              refine ⟨C', h', k1, v126_14 ?_⟩
              rw [h57]
              exact ⟨by omega, fun z => absurd z (by omega), fun _ => ⟨by omega, by omega, by omega, by omega, fun _ => k2, fun z => absurd hlt z⟩⟩
            · have hok : okp (nL G) (lnZ G) l set p := ⟨by omega, hps, hsb, by omega⟩
              by_cases hle : C2 set ≤ C (zxor set p) + 1000 + l
              · obtain ⟨C', h', k1, k2⟩ := go (Or.inr hle)
                refine ⟨C', h', k1, v126_14 ?_⟩
                rw [h57, h58, exx]
                exact ⟨by omega, fun z => absurd z (by omega), fun _ => ⟨by omega, by omega, by omega, by omega, fun z => absurd z hlt, fun _ => ⟨by omega, by omega, by omega, fun _ => k2, fun z => absurd hle z⟩⟩⟩
              · obtain ⟨C', h', k1, k2⟩ := ihm (zand (p - 1) set).toNat hms (zand (p - 1) set) rfl n1.1 (by omega) n2 (updZ C2 set (C (zxor set p) + 1000 + l)) 1 (Or.inr rfl) (fun s s1 s2 s3 => by rw [updZ_n s3]; exact g1 s s1 s2 s3) (by rw [updZ_s]; omega) (by rw [updZ_s]; omega) (by rw [updZ_s]; exact Or.inr ⟨p, hok, rfl⟩) (fun q hq hlt2 => by
                  rw [updZ_s]
                  rcases hgt q hq hlt2 with z | z
                  · rw [z]; exact Int.le_refl _
                  · have := g4 q hq z
                    omega) (fun z => absurd z (by decide))
                refine ⟨C', h', k1, v126_14 ?_⟩
                rw [h57, h58, exx, upZ_up]
                exact ⟨by omega, fun z => absurd z (by omega), fun _ => ⟨by omega, by omega, by omega, by omega, fun z => absurd z hlt, fun _ => ⟨by omega, by omega, by omega, fun z => absurd z hle, fun _ => k2⟩⟩⟩
      have hcs := hC set (by omega) (by omega)
      have ecs : C1 set = C set := h1 set (by omega) (Int.le_refl _)
      obtain ⟨C', h', k1, k2⟩ := inner set.toNat set rfl (by omega) (Int.le_refl _) (by unfold sub; exact Nat.and_self _) C1 h hh (fun _ _ _ _ => rfl) (by rw [ecs]; exact Int.le_refl _) (by rw [ecs]; exact hcs.1) (Or.inl ecs) (fun q hq hlt => by have := hq.2.1; omega) h3
      exact ⟨C', h', k1, v126_5 ⟨by omega, fun z => absurd z (by omega), fun _ => k2⟩⟩
  obtain ⟨C', h', k1, k2⟩ := key (2 ^ (nL G).toNat - 1 : Int).toNat (by omega) C 0 (Or.inl rfl) (fun _ _ _ => rfl) (fun s s1 s2 => by omega) (fun _ _ _ _ => rfl)
  rw [show (((2 ^ (nL G).toNat - 1 : Int).toNat : Nat) : Int) = 2 ^ (nL G).toNat - 1 by omega] at k2
  exact ⟨C', h', k1.1, k1.2.1, k1.2.2.1, k1.2.2.2, c126 (v126_0 k2)⟩
end CUP
