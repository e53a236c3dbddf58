/-! the least cost, of the program -/
section CUL
variable {E : gw_N} {N : NM} {P : Pic} {G : Geo}
theorem shl1_all : ∀ n : Fin 9, zshl 1 (n.val : Int) = 2 ^ n.val := by decide +kernel
theorem shl1 {n : Int} (hn : 0 ≤ n ∧ n ≤ 8) : zshl 1 n = 2 ^ n.toNat := by
  obtain ⟨a, rfl⟩ := fin_of (n := 9) (x := n) (by omega)
  rw [Int.toNat_natCast]
  exact shl1_all a
theorem sp123 (hI : PicOK P) (hw : WiresOK P.toGeo N) (hn : nL P.toGeo ≤ 8) : Rn 123 [.ref 14] (hs E (jm N)) (some (.int (J (2 ^ (nL P.toGeo).toNat - 1)))) (hs E (jm N)) := by
  have hn0 : 0 ≤ nL P.toGeo := (cnq_bd (q := lqZ P.toGeo) hI.geo.ws.1).1
  have h155 := sp155 (E := E) hI.geo hw
  rw [nL_laid hI.geo] at h155
  refine c123 (v123_0 ⟨_, h155, ?_, ?_⟩)
  · unfold Q312
    (repeat' (first | omega | exact True.intro | exact absurd True.intro ‹¬ True› | apply And.intro | intro _))
  · have e : G312 N (nL P.toGeo) 8 = nL P.toGeo := by
      unfold G312
      rw [if_neg (by omega)]
    rw [e, shl1 ⟨hn0, hn⟩]
/-- the least cost of all, or that there is none -/
def optC (P : Pic) (c : Int) : Prop := (0 ≤ c ∧ c ≤ 1000000) ∧ (c < 1000000 → asP (nL P.toGeo) (lnZ P.toGeo) (rlN P.toRod.rl P.toRod.rm P.toRod.rods.toNat) (fun _ => True) c) ∧ ∀ v, asP (nL P.toGeo) (lnZ P.toGeo) (rlN P.toRod.rl P.toRod.rm P.toRod.rods.toNat) (fun _ => True) v → c ≤ v
theorem dp_0 (hn : 0 ≤ nL G ∧ nL G ≤ 8) {C : Int → Int} (h0 : C 0 = 0) (h1 : ∀ s, 0 < s → s < 256 → C s = 1000000) : dpI (nL G) (lnZ G) [] C := by
  have h2 := p2_256 hn
  intro s s1 s2
  by_cases q : s = 0
  · subst q
    rw [h0]
    refine ⟨by decide, fun _ => ⟨fun w _ _ z => ?_, rfl⟩, fun v hv => by rw [hv.2]; exact Int.le_refl _⟩
    unfold mk at z
    rw [bit00] at z
    exact absurd z (by decide)
  · rw [h1 s (by omega) (by omega)]
    refine ⟨by decide, fun z => absurd z (by decide), fun v hv => ?_⟩
    have hz : sub 0 s := sub_of (Int.le_refl _) ⟨s1, by omega⟩ (fun w w1 w2 hm => by
      by_cases z : w < nL G
      · exact absurd hm (hv.1 w w1 z)
      · exact absurd hm (mk_out hn ⟨s1, s2⟩ ⟨by omega, w2⟩))
    unfold sub at hz
    rw [show (0 : Int).toNat = 0 from rfl, Nat.and_zero] at hz
    omega
theorem sp124 (hI : PicOK P) (hC : ClsOK P N) (hn : nL P.toGeo ≤ 8) : ∃ f c C, Rn 124 [.ref 54, .ref 14] (hs E (jm N)) (some (.int (J c))) (hs E (jm (upZ (upZ N 57 f) 58 C))) ∧ smI P.toGeo (nL P.toGeo) f ∧ optC P c := by
  have hG := hI.geo
  have hn0 : 0 ≤ nL P.toGeo := (cnq_bd (q := lqZ P.toGeo) hG.ws.1).1
  have h2 := p2_256 (n := nL P.toGeo) ⟨hn0, hn⟩
  have hk := hI.rod.rods
  obtain ⟨f, r125, hf⟩ := sp125 (E := E) hI hC.wires hn
  have hro : ∀ C, RodsOK P.toRod (upZ (upZ N 57 f) 58 C) := fun C => hC.rods
  -- kind by kind
  have key : ∀ d : Nat, ∀ k : Nat, (k : Int) + d = P.toRod.rods → ∀ C, dpI (nL P.toGeo) (lnZ P.toGeo) (rlN P.toRod.rl P.toRod.rm k) C → ∃ c C', optC P c ∧ Ev 4 124 28 [some (.ref 54), none, some (.int (J (2 ^ (nL P.toGeo).toNat - 1))), some (.int (J ((k : Int)))), none, none, none] [] (hs E (jm (upZ (upZ N 57 f) 58 C))) (some (.int (J c)), hs E (jm (upZ (upZ N 57 f) 58 C'))) := by
    intro d
    induction d with
    | zero =>
      intro k hkd C hdp
      have hkr : (k : Int) = P.toRod.rods := by omega
      obtain ⟨a1, a2, a3⟩ := hdp (2 ^ (nL P.toGeo).toNat - 1) (by omega) (by omega)
      refine ⟨C (2 ^ (nL P.toGeo).toNat - 1), C, ⟨a1, fun z => ?_, fun v hv => a3 v ?_⟩, v124_28 ?_⟩
      · rw [← hkr, Int.toNat_natCast]
        exact as_congr (fun w w1 w2 => ⟨fun _ => trivial, fun _ => (full_mk ⟨hn0, hn⟩ ⟨w1, by omega⟩).mpr w2⟩) (a2 z)
      · rw [← hkr, Int.toNat_natCast] at hv
        exact as_congr (fun w w1 w2 => ⟨fun _ => (full_mk ⟨hn0, hn⟩ ⟨w1, by omega⟩).mpr w2, fun _ => trivial⟩) hv
      · rw [(hro C).rods]
        exact ⟨by omega, by omega, fun _ => ⟨by omega, rfl⟩, fun z => absurd (by omega) z⟩
    | succ d ih =>
      intro k hkd C hdp
      have hl := hI.rod.rl (k : Int) (by omega) (by omega)
      have hm := hI.rod.rm (k : Int) (by omega) (by omega)
      have e55 : ∀ C, (upZ (upZ N 57 f) 58 C) 55 (k : Int) = P.toRod.rl (k : Int) := fun C => hC.rods.rl (k : Int) (by omega) (by omega)
      have e56 : ∀ C, (upZ (upZ N 57 f) 58 C) 56 (k : Int) = P.toRod.rm (k : Int) := fun C => hC.rods.rm (k : Int) (by omega) (by omega)
      have nextk : ∀ C, dpI (nL P.toGeo) (lnZ P.toGeo) (List.replicate (min (P.toRod.rm (k : Int)) 8).toNat (P.toRod.rl (k : Int)) ++ rlN P.toRod.rl P.toRod.rm k) C → ∃ c C', optC P c ∧ Ev 4 124 28 [some (.ref 54), none, some (.int (J (2 ^ (nL P.toGeo).toNat - 1))), some (.int (J ((k : Int) + 1))), none, none, none] [] (hs E (jm (upZ (upZ N 57 f) 58 C))) (some (.int (J c)), hs E (jm (upZ (upZ N 57 f) 58 C'))) := by
        intro C hd
        exact ih (k + 1) (by omega) C hd
      -- rod by rod
      have rods : ∀ (e j : Nat), j + e = (min (P.toRod.rm (k : Int)) 8).toNat → ∀ C, dpI (nL P.toGeo) (lnZ P.toGeo) (List.replicate j (P.toRod.rl (k : Int)) ++ rlN P.toRod.rl P.toRod.rm k) C → ∃ c C', optC P c ∧ Ev 4 124 55 [some (.ref 54), none, some (.int (J (2 ^ (nL P.toGeo).toNat - 1))), some (.int (J ((k : Int)))), some (.int (J (min (P.toRod.rm (k : Int)) 8))), some (.int (J 1)), some (.int (J ((j : Int))))] [] (hs E (jm (upZ (upZ N 57 f) 58 C))) (some (.int (J c)), hs E (jm (upZ (upZ N 57 f) 58 C'))) := by
        intro e
        induction e with
        | zero =>
          intro j hj C hd
          have hj' : j = (min (P.toRod.rm (k : Int)) 8).toNat := by omega
          rw [hj'] at hd
          obtain ⟨c, C', k1, k2⟩ := nextk C hd
          exact ⟨c, C', k1, v124_55 ⟨by decide, fun z => absurd z (by decide), fun _ => ⟨by omega, by omega, fun _ => k2, fun z => absurd (by omega) z⟩⟩⟩
        | succ e ihe =>
          intro j hj C hd
          obtain ⟨C', h, b1, b2, b3, b4, b5⟩ := sp126 (E := E) (N := upZ N 57 f) (l := P.toRod.rl (k : Int)) (C := C) hG hn hl hf (fun s s1 s2 => (hd s s1 s2).1)
          have hd' := dp_step ⟨hn0, hn⟩ (by omega) hd b3 b4
          rw [← List.cons_append, ← List.replicate_succ] at hd'
          rcases b1 with hh | hh
          · -- nothing new: the rest of this kind brings nothing
            have hsame := b2 hh
            have hcl : ∀ s, 0 < s → s < 2 ^ (nL P.toGeo).toNat → ∀ p, okp (nL P.toGeo) (lnZ P.toGeo) (P.toRod.rl (k : Int)) s p → C' s ≤ C' (zxor s p) + 1000 + P.toRod.rl (k : Int) := by
              intro s s1 s2 p hp
              have hx := set_less (s := s) (p := p) (by omega) ⟨hp.1, by have := hp.2.1; omega⟩ hp.2.2.1
              rw [hsame (zxor s p) hx.1.1 (by omega)]
              exact (b4 s s1 s2).2.2 p hp
            have hmore := dp_more ⟨hn0, hn⟩ hd' hcl e
            rw [← List.append_assoc, List.replicate_append_replicate, show e + (j + 1) = (min (P.toRod.rm (k : Int)) 8).toNat by omega] at hmore
            obtain ⟨c, C2, k1, k2⟩ := nextk C' hmore
            refine ⟨c, C2, k1, v124_55 ⟨by decide, fun z => absurd z (by decide), fun _ => ⟨by omega, by omega, fun z => absurd z (by omega), fun _ => ⟨by omega, h, _, ?_, v124_55 ⟨by omega, fun _ => k2, fun z => absurd hh z⟩⟩⟩⟩⟩
            rw [e55]
            exact b5
          · obtain ⟨c, C2, k1, k2⟩ := ihe (j + 1) (by omega) C' hd'
            refine ⟨c, C2, k1, v124_55 ⟨by decide, fun z => absurd z (by decide), fun _ => ⟨by omega, by omega, fun z => absurd z (by omega), fun _ => ⟨by omega, h, upZ (upZ N 57 f) 58 C', ?_, ?_⟩⟩⟩⟩
            · rw [e55]
              exact b5
            · rw [hh]
              exact k2
      obtain ⟨c, C', k1, k2⟩ := rods (min (P.toRod.rm (k : Int)) 8).toNat 0 (by omega) C hdp
      refine ⟨c, C', k1, v124_28 ?_⟩
      rw [(hro C).rods, e56]
      have e312 : G312 (upZ (upZ N 57 f) 58 C) (P.toRod.rm (k : Int)) 8 = min (P.toRod.rm (k : Int)) 8 := by
        unfold G312
        split <;> omega
      rw [e312]
      exact ⟨by omega, by omega, fun z => absurd z (by omega), fun _ => ⟨by omega, by unfold Q312; (repeat' (first | omega | exact True.intro | exact absurd True.intro ‹¬ True› | apply And.intro | intro _)), k2⟩⟩
  have e58 : upZ (upZ (upZ N 57 f) 58 (fiF ((upZ N 57 f) 58) 1000000 256)) 58 (updZ ((upZ (upZ N 57 f) 58 (fiF ((upZ N 57 f) 58) 1000000 256)) 58) 0 0) = upZ (upZ N 57 f) 58 (updZ (fiF ((upZ N 57 f) 58) 1000000 256) 0 0) := by
    rw [upZ_s, upZ_up]
  obtain ⟨c, C', k1, k2⟩ := key P.toRod.rods.toNat 0 (by omega) (updZ (fiF ((upZ N 57 f) 58) 1000000 256) 0 0) (dp_0 ⟨hn0, hn⟩ updZ_s (fun s s1 s2 => by rw [updZ_n (by omega)]; exact fiF_in (by omega)))
  refine ⟨f, c, C', c124 (v124_0 ⟨_, sp123 hI hC.wires hn, _, r125, _, fi58, ?_⟩), hf, k1⟩
  rw [e58]
  exact k2
/-- what is answered of the least cost -/
noncomputable def cutA (P : Pic) (x c : Int) : Int := if 1000000 ≤ c then -1 else if x = 0 then c / 1000 else c % 1000 - sumZ (nL P.toGeo) (lnZ P.toGeo)
theorem cls_cut {x1 : Int} (hI : GInv P N) (hx : x1 = 0 ∨ x1 = 1) (hn : nL P.toGeo ≤ 8) : ∃ c, optC P c ∧ QC E N 200 [.int (J x1)] (.int (J (cutA P x1 c))) := by
  have hK := hI.ok
  have hG := hK.geo
  have hn0 : 0 ≤ nL P.toGeo := (cnq_bd (q := lqZ P.toGeo) hG.ws.1).1
  have h2 := p2_256 (n := nL P.toGeo) ⟨hn0, hn⟩
  have h155 := sp155 (E := E) (N := N) hG hI.cls.wires
  rw [nL_laid hG] at h155
  obtain ⟨f, c, C, r124, hf, ho⟩ := sp124 (E := E) hK hI.cls hn
  have hc := ho.1
  have fr : ∀ a, clsC a = true ∨ 59 ≤ a → (upZ (upZ N 57 f) 58 C) a = N a := by
    intro a ha
    unfold clsC at ha
    rw [decide_eq_true_eq] at ha
    rw [upZ_n (by omega), upZ_n (by omega)]
  refine ⟨c, ho, upZ (upZ N 57 f) 58 C, c200 (v200_0 ?_), fr⟩
  rcases hx with e | e
  · have r121 : Rn 121 [.ref 54, .ref 14] (hs E (jm N)) (some (.int (J (cutA P x1 c)))) (hs E (jm (upZ (upZ N 57 f) 58 C))) := by
      refine c121 (v121_0 ⟨_, _, r124, by omega, fun z => ?_, fun z => ?_⟩)
      · unfold cutA
        rw [if_pos z]
      · unfold cutA
        rw [if_neg z, if_pos e, Int.tdiv_eq_ediv_of_nonneg hc.1]
    exact ⟨by omega, fun _ => ⟨_, h155, by omega, fun _ => ⟨fun _ => ⟨_, _, r121, rfl⟩, fun z => absurd e z⟩, fun z => absurd hn z⟩, fun z => absurd e z⟩
  · have hsum : f (2 ^ (nL P.toGeo).toNat - 1) = sumZ (nL P.toGeo) (lnZ P.toGeo) := by
      rw [hf _ (by omega) (by omega)]
      refine sumZ_congr fun w w1 w2 => ?_
      rw [bZ_t ((full_mk ⟨hn0, hn⟩ ⟨w1, by omega⟩).mpr w2), Int.one_mul]
    have r122 : Rn 122 [.ref 54, .ref 14] (hs E (jm N)) (some (.int (J (cutA P x1 c)))) (hs E (jm (upZ (upZ N 57 f) 58 C))) := by
      have hw' : WiresOK P.toGeo (upZ (upZ N 57 f) 58 C) := hI.cls.wires
      refine c122 (v122_0 ⟨_, _, r124, by omega, fun z => ?_, fun z => ⟨_, sp123 hK hw' hn, by omega, ?_⟩⟩)
      · unfold cutA
        rw [if_pos z]
      · unfold cutA
        rw [if_neg z, if_neg (by omega), Int.tmod_eq_emod_of_nonneg hc.1, show (upZ (upZ N 57 f) 58 C) 57 (2 ^ (nL P.toGeo).toNat - 1) = sumZ (nL P.toGeo) (lnZ P.toGeo) from hsum]
    exact ⟨by omega, fun z => by omega, fun _ => ⟨fun _ => ⟨_, h155, by omega, fun _ => ⟨fun z => by omega, fun _ => ⟨_, _, r122, rfl⟩⟩, fun z => absurd hn z⟩, fun z => absurd e z⟩⟩
end CUL
