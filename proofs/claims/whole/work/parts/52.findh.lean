/-! findHolds; about -/
section FNH
variable {E : gw_N} {N : NM} {P : Pic}
def paH (G : Geo) (f0 c : Int → Int) (a b m : Int) (c' : Int → Int) : Prop :=
  hoJ G f0 c' ∧ ((m = 0 ∧ c' = c ∧ (∀ a' b', 0 ≤ a' → a' < a → 0 ≤ b' → b' < G.ws → okH G c a' b') ∧ (∀ b', 0 ≤ b' → b' < b → okH G c a b')) ∨ (m = 1 ∧ sumZ G.ws c < sumZ G.ws c'))
theorem passH {c f0 : Int → Int} {res : Option Value × gw_H} (hI : PicOK P) (hR : RefOK P N) (hc : hoJ P.toGeo f0 c)
    (hend : ∀ m c', paH P.toGeo f0 c P.toGeo.ws 0 m c' → Ev 3 230 46 [some (.ref 59), some (.int (J m)), none, none] [] (hs E (jm (upZ N 66 c'))) res) :
    Ev 3 230 54 [some (.ref 59), some (.int (J 0)), some (.int (J 0)), none] [] (hs E (jm (upZ N 66 c))) res := by
  have hws := hI.geo.ws
  have e4 : ∀ c', (upZ N 66 c') 59 4 = P.toGeo.ws := fun c' => hR.ws
  refine loopZ (a := 0) (n := P.toGeo.ws) (Q := fun a => ∀ m c', paH P.toGeo f0 c a 0 m c' → Ev 3 230 54 [some (.ref 59), some (.int (J m)), some (.int (J a)), none] [] (hs E (jm (upZ N 66 c'))) res) hws.1 ?_ ?_ 0 c ⟨hc, Or.inl ⟨rfl, rfl, fun a' b' h1 h2 => absurd h2 (by omega), fun b' h1 h2 => absurd h2 (by omega)⟩⟩
  · intro m c' h
    refine v230_54 ?_
    rw [e4]
    exact ⟨by omega, by omega, fun _ => hend m c' h, fun z => absurd (Int.le_refl _) z⟩
  · intro a a1 a2 ih m c' h
    refine v230_54 ?_
    rw [e4]
    refine ⟨by omega, by omega, fun z => absurd z (by omega), fun _ => ?_⟩
    refine loopZ (a := 0) (n := P.toGeo.ws) (Q := fun b => ∀ m c', paH P.toGeo f0 c a b m c' → Ev 3 230 64 [some (.ref 59), some (.int (J m)), some (.int (J a)), some (.int (J b))] [] (hs E (jm (upZ N 66 c'))) res) hws.1 ?_ ?_ m c' h
    · intro m c' h
      have hx := ih m c' ⟨h.1, by
        rcases h.2 with ⟨p, q, r, s⟩ | ⟨p, q⟩
        · refine Or.inl ⟨p, q, fun a' b' k1 k2 k3 k4 => ?_, fun b' k1 k2 => absurd k2 (by omega)⟩
          by_cases e : a' = a
          · rw [e]; exact s b' k3 k4
          · exact r a' b' k1 (by omega) k3 k4
        · exact Or.inr ⟨p, q⟩⟩
      refine v230_64 ?_
      rw [e4]
      exact ⟨by omega, by omega, fun _ => hx, fun z => absurd (Int.le_refl _) z⟩
    · intro b b1 b2 ih2 m c' h
      have hR' : RefOK P (upZ N 66 c') := hR
      have hla := hI.geo.laid a a1 a2
      have hlb := hI.geo.laid b b1 b2
      have hca := (h.1.1 a a1 a2).1
      have hcb := (h.1.1 b b1 b2).1
      have go : okH P.toGeo c' a b → Ev 3 230 64 [some (.ref 59), some (.int (J m)), some (.int (J a)), some (.int (J (b + 1)))] [] (hs E (jm (upZ N 66 c'))) res := by
        intro hk
        refine ih2 m c' ⟨h.1, ?_⟩
        rcases h.2 with ⟨p, q, r, s⟩ | ⟨p, q⟩
        · refine Or.inl ⟨p, q, r, fun b' k1 k2 => ?_⟩
          by_cases e : b' = b
          · rw [e, ← q]; exact hk
          · exact s b' k1 (by omega)
        · exact Or.inr ⟨p, q⟩
      refine v230_64 ?_
      rw [e4, hR'.laid, upZ_s, upZ_up]
      refine ⟨by omega, by omega, fun z => absurd z (by omega), fun _ => ⟨by omega, by omega, fun z => go (fun y => by omega), fun la => ⟨by omega, by omega, fun z => go (fun _ y => by omega), fun lb => ⟨by omega, fun z => go (fun _ _ y => by omega), fun ca => ⟨by omega, fun cb => ?_, fun z => go (fun _ _ _ y => by omega)⟩⟩⟩⟩⟩
      have m1 := bZ_01 (p := touchZ P.toGeo a b)
      refine ⟨_, sp229 hI hR' ⟨a1, a2⟩ ⟨b1, b2⟩, by omega, fun z => go (fun _ _ _ _ => bZ_0.mp z), fun z => ?_⟩
      obtain ⟨j1, j2⟩ := ho_add h.1 ⟨a1, a2⟩ ⟨b1, b2⟩ (by omega) (by omega) cb (bZ_1.mp (show bZ (touchZ P.toGeo a b) = 1 by omega))
      refine ih2 1 _ ⟨j1, Or.inr ⟨rfl, ?_⟩⟩
      rcases h.2 with ⟨p, q, r, s⟩ | ⟨p, q⟩
      · rw [q] at j2 ⊢; omega
      · omega
theorem sp230 (hI : PicOK P) (hR : RefOK P N) : Rn 230 [.ref 59] (hs E (jm N)) none (hs E (jm (upZ N 66 (hoF P.toGeo (N 66))))) := by
  have hws := hI.geo.ws
  have e4 : ∀ c', (upZ N 66 c') 59 4 = P.toGeo.ws := fun c' => hR.ws
  have sbd : ∀ c, hoJ P.toGeo (N 66) c → 0 ≤ sumZ P.toGeo.ws c ∧ sumZ P.toGeo.ws c ≤ 30 := by
    intro c hc
    have := sumZ_bd' (g := c) (n := P.toGeo.ws) (B := 30) (c := 1) (fun k k1 k2 => by have := (hc.1 k k1 k2).1; omega) hws.1 hws.2 (by decide)
    omega
  have key : ∀ n : Nat, ∀ c, hoJ P.toGeo (N 66) c → (30 - sumZ P.toGeo.ws c).toNat = n → Ev 3 230 46 [some (.ref 59), some (.int (J 1)), none, none] [] (hs E (jm (upZ N 66 c))) (none, hs E (jm (upZ N 66 (hoF P.toGeo (N 66))))) := by
    intro n
    induction n using Nat.strongRecOn with
    | ind n ih =>
      intro c hc hn
      refine v230_46 ?_
      refine ⟨by decide, fun z => absurd z (by decide), fun _ => passH hI hR hc ?_⟩
      intro m c' h
      rcases h.2 with ⟨p, q, r, s⟩ | ⟨p, q⟩
      · refine v230_46 ?_
        subst p
        subst q
        rw [ho_fix hc (fun a b h1 h2 h3 h4 => r a b h1 h2 h3 h4)]
        exact ⟨by decide, fun _ => rfl, fun z => absurd rfl z⟩
      · subst p
        have h1 := sbd c hc
        have h2 := sbd c' h.1
        exact ih _ (by omega) c' h.1 rfl
  refine c230 (v230_0 ?_)
  have h0 := loopZ (a := 0) (n := P.toGeo.ws) (Q := fun k => Ev 3 230 2 [some (.ref 59), some (.int (J k)), none, none] [] (hs E (jm (upZ N 66 (fun v => if 0 ≤ v ∧ v < k then bZ (P.toGeo.laid v = 1 ∧ 0 < benZ P.toGeo v) else N 66 v)))) (none, hs E (jm (upZ N 66 (hoF P.toGeo (N 66)))))) hws.1 ?_ ?_
  · have e : (fun v => if 0 ≤ v ∧ v < 0 then bZ (P.toGeo.laid v = 1 ∧ 0 < benZ P.toGeo v) else N 66 v) = N 66 := by
      funext x
      exact if_neg (by omega)
    rw [e, upZ_id] at h0
    exact h0
  · refine v230_2 ?_
    rw [e4]
    refine ⟨by omega, by omega, fun _ => key _ _ ⟨fun v v1 v2 => ?_, fun v hv => if_neg hv⟩ rfl, fun z => absurd (Int.le_refl _) z⟩
    have e9 : (fun v => if 0 ≤ v ∧ v < P.toGeo.ws then bZ (P.toGeo.laid v = 1 ∧ 0 < benZ P.toGeo v) else N 66 v) v = bZ (P.toGeo.laid v = 1 ∧ 0 < benZ P.toGeo v) := if_pos ⟨v1, v2⟩
    rw [e9]
    exact ⟨bZ_01, fun z => heldZ_base v1 v2 (bZ_1.mp z).1 (bZ_1.mp z).2, fun z y => bZ_t ⟨z, y⟩⟩
  · intro k k1 k2 ih
    have hl := hI.geo.laid k k1 k2
    have h01 := bZ_01 (p := 0 < benZ P.toGeo k)
    have key2 : ∀ α, α = bZ (P.toGeo.laid k = 1 ∧ 0 < benZ P.toGeo k) → Ev 3 230 2 [some (.ref 59), some (.int (J (k + 1))), none, none] [] (hs E (jm (upZ N 66 (updZ (fun v => if 0 ≤ v ∧ v < k then bZ (P.toGeo.laid v = 1 ∧ 0 < benZ P.toGeo v) else N 66 v) k α)))) (none, hs E (jm (upZ N 66 (hoF P.toGeo (N 66))))) := by
      intro α hα
      have e : updZ (fun v => if 0 ≤ v ∧ v < k then bZ (P.toGeo.laid v = 1 ∧ 0 < benZ P.toGeo v) else N 66 v) k α = (fun v => if 0 ≤ v ∧ v < k + 1 then bZ (P.toGeo.laid v = 1 ∧ 0 < benZ P.toGeo v) else N 66 v) := by
        funext x
        show (if x = k then α else if 0 ≤ x ∧ x < k then bZ (P.toGeo.laid x = 1 ∧ 0 < benZ P.toGeo x) else N 66 x) = _
        by_cases q : x = k
        · rw [if_pos q, if_pos (by omega), q, hα]
        · rw [if_neg q]
          by_cases q2 : 0 ≤ x ∧ x < k
          · rw [if_pos q2, if_pos (by omega)]
          · rw [if_neg q2, if_neg (by omega)]
      rw [e]
      exact ih
    have hR' : RefOK P (upZ N 66 (fun v => if 0 ≤ v ∧ v < k then bZ (P.toGeo.laid v = 1 ∧ 0 < benZ P.toGeo v) else N 66 v)) := hR
    refine v230_2 ?_
    rw [e4, hR'.laid, upZ_s, upZ_up, upZ_up]
    refine ⟨by omega, by omega, fun z => absurd z (by omega), fun _ => ⟨by omega, by omega, fun z => key2 0 ?_, fun z => ⟨_, sp227 hI hR' ⟨k1, k2⟩, by omega, fun y => key2 0 ?_, fun y => key2 1 ?_⟩⟩⟩
    · rw [bZ_f (fun x => by have := x.1; omega)]
    · rw [bZ_f (fun x => (bZ_0.mp y) x.2)]
    · rw [bZ_t ⟨by omega, bZ_1.mp (by omega)⟩]
theorem op_about {x1 x2 : Int} (hI : GInv P N) (h1 : R x1) (h2 : R x2) : Both E N 168 231 [.int (J x1), .int (J x2)] := by
  have hws := hI.ok.geo.ws
  have e1 := hI.cls.wires.ws
  have e2 := hI.ref.ws
  by_cases hv : 0 ≤ x1 ∧ x1 < P.toGeo.ws
  · have hm := hI.ok.geo.mv x1 hv.1 hv.2
    have hbd := ben_bd hI.ok.geo hv
    have q144 : Q144 N x1 := by unfold Q144; rw [e1]; (repeat' (first | omega | exact True.intro | exact absurd True.intro ‹¬ True› | apply And.intro | intro _))
    have g144 : G144 N x1 = 1 := by unfold G144; rw [e1, if_neg (by omega), if_neg (by omega)]
    have g220 : ∀ N', RefOK P N' → G220 N' x1 = 1 ∧ Q220 N' x1 := by
      intro N' hR
      unfold G220 Q220
      rw [hR.ws]
      exact ⟨if_pos (by omega), by (repeat' (first | omega | exact True.intro | exact absurd True.intro ‹¬ True› | apply And.intro | intro _))⟩
    have cls : ∀ r, (x2 = 0 → r = P.toGeo.mv x1) → (x2 = 1 → r = benZ P.toGeo x1) → (x2 = 2 → r = bZ (0 < benZ P.toGeo x1)) → (x2 = 3 → r = edgZ P.toGeo x1) → (x2 = 4 → r = bZ (P.toGeo.laid x1 = 1 ∧ ¬ heldZ P.toGeo x1)) → (¬ x2 = 0 → ¬ x2 = 1 → ¬ x2 = 2 → ¬ x2 = 3 → ¬ x2 = 4 → r = -102) →
        Rn 168 (.ref 8 :: [.int (J x1), .int (J x2)]) (hs E (jm N)) (some (.int (J r))) (hs E (jm N)) := by
      intro r r0 r1 r2 r3 r4 r5
      have hla := hI.ok.geo.laid x1 hv.1 hv.2
      have m1 := bZ_01 (p := heldZ P.toGeo x1)
      have e15 : N 15 x1 = P.toGeo.laid x1 := hI.cls.wires.laid x1 hv.1 hv.2
      have e145 : G145 N x1 = P.toGeo.laid x1 := hI.cls.wires.laid x1 hv.1 hv.2
      have e152 : G152 N x1 = bZ (0 < benZ P.toGeo x1) := by
        unfold G152
        rw [hI.cls.wires.ben x1 hv.1 hv.2]
        by_cases q : 0 < benZ P.toGeo x1
        · rw [bZ_t q, if_neg (by omega)]
        · rw [bZ_f q, if_pos (by omega)]
      have q152 : Q152 N x1 := by
        unfold Q152
        rw [hI.cls.wires.ben x1 hv.1 hv.2]
        (repeat' (first | omega | exact True.intro | exact absurd True.intro ‹¬ True› | apply And.intro | intro _))
      have e64 : G64 N x1 = bZ (P.toGeo.laid x1 = 1 ∧ ¬ heldZ P.toGeo x1) := by
        unfold G64
        rw [e145, hI.cls.net.held x1 hv.1 hv.2]
        by_cases q : P.toGeo.laid x1 = 1
        · rw [if_neg (by omega)]
          by_cases z : heldZ P.toGeo x1
          · rw [bZ_t z, if_neg (by decide), bZ_f (fun y => y.2 z)]
          · rw [bZ_f z, if_pos rfl, bZ_t ⟨q, z⟩]
        · rw [if_pos (by omega), bZ_f (fun y => q y.1)]
      have q64 : Q64 N x1 := by
        unfold Q64 Q145
        rw [e145, hI.cls.net.held x1 hv.1 hv.2]
        (repeat' (first | omega | exact True.intro | exact absurd True.intro ‹¬ True› | apply And.intro | intro _))
      have e206 : ∀ p : Prop, G206 N (bZ p) = bZ p := by
        intro p
        rcases bZ_01 (p := p) with h | h <;> rw [h]
        · exact G206_0
        · exact G206_1
      have q206 : ∀ p : Prop, Q206 N (bZ p) := by
        intro p
        have := bZ_01 (p := p)
        exact ⟨by omega, fun _ => trivial, fun _ => trivial⟩
      refine c168 (v168_0 ?_)
      rw [g144, e152, e64, e206, e206]
      refine ⟨q144, by decide, fun z => absurd z (by decide), fun _ => ⟨h2, fun z => ⟨⟨by omega, trivial⟩, ?_⟩, fun z => ⟨⟨by omega, trivial⟩, ?_⟩, fun z => ⟨q152, q206 _, ?_⟩, fun z => ⟨⟨by omega, trivial⟩, ?_⟩, fun z => ⟨q64, q206 _, ?_⟩, fun z0 z1 z2 z3 z4 => ?_⟩⟩
      · rw [r0 z, show G149 N x1 = P.toGeo.mv x1 from hI.cls.wires.mv x1 hv.1 hv.2]
      · rw [r1 z, show G150 N x1 = benZ P.toGeo x1 from hI.cls.wires.ben x1 hv.1 hv.2]
      · rw [r2 z]
      · rw [r3 z, show G151 N x1 = edgZ P.toGeo x1 from hI.cls.wires.edg x1 hv.1 hv.2]
      · rw [r4 z]
      · rw [r5 z0 z1 z2 z3 z4]
    by_cases c4 : x2 = 4
    · refine both_q (r := .int (J (bZ (P.toGeo.laid x1 = 1 ∧ ¬ heldZ P.toGeo x1)))) hI (QC.same (cls _ (fun z => by omega) (fun z => by omega) (fun z => by omega) (fun z => by omega) (fun _ => rfl) (fun _ _ _ _ z => absurd c4 z))) (fun N hR => ⟨upZ N 66 (hoF P.toGeo (N 66)), c231 (v231_0 ?_), hR, ?_⟩)
      · obtain ⟨t1, t2⟩ := g220 N hR
        have hla := hI.ok.geo.laid x1 hv.1 hv.2
        have m1 := bZ_01 (p := heldZ P.toGeo x1)
        rw [t1]
        refine ⟨t2, by decide, fun z => absurd z (by decide), fun _ => ⟨h2, fun z => by omega, fun z => by omega, fun z => by omega, fun z => by omega, fun _ => ⟨_, sp230 hI.ok hR, ?_⟩, fun _ _ _ _ z => absurd c4 z⟩⟩
        rw [show (upZ N 66 (hoF P.toGeo (N 66))) 64 = P.toGeo.laid from hR.laid, show (upZ N 66 (hoF P.toGeo (N 66))) 66 x1 = bZ (heldZ P.toGeo x1) from if_pos hv]
        refine ⟨by omega, by omega, fun z => ?_, fun z => ⟨by omega, fun y => ?_, fun y => ?_⟩⟩
        · rw [bZ_f (fun x => by have := x.1; omega)]
        · rw [bZ_t ⟨by omega, bZ_0.mp y⟩]
        · rw [bZ_f (fun x => x.2 (bZ_1.mp (by omega)))]
      · (intro a ha; repeat rw [upZ_n (by omega)])
    · obtain ⟨t1, t2⟩ := g220 N hI.ref
      have m1 := bZ_01 (p := 0 < benZ P.toGeo x1)
      refine both_same (r := .int (J (if x2 = 0 then P.toGeo.mv x1 else if x2 = 1 then benZ P.toGeo x1 else if x2 = 2 then bZ (0 < benZ P.toGeo x1) else if x2 = 3 then edgZ P.toGeo x1 else -102))) hI (cls _ (fun z => if_pos z) (fun z => by rw [if_neg (by omega), if_pos z]) (fun z => by rw [if_neg (by omega), if_neg (by omega), if_pos z]) (fun z => by rw [if_neg (by omega), if_neg (by omega), if_neg (by omega), if_pos z]) (fun z => absurd z c4) (fun z0 z1 z2 z3 _ => by rw [if_neg z0, if_neg z1, if_neg z2, if_neg z3])) (c231 (v231_0 ?_))
      rw [t1]
      refine ⟨t2, by decide, fun z => absurd z (by decide), fun _ => ⟨h2, fun z => ⟨by omega, ?_⟩, fun z => ⟨_, sp226 hI.ok hI.ref hv, ?_⟩, fun z => ⟨_, sp227 hI.ok hI.ref hv, by omega, fun y => ?_, fun y => ?_⟩, fun z => ⟨_, sp225 hI.ok hI.ref hv, ?_⟩, fun z => absurd z c4, fun z0 z1 z2 z3 _ => ?_⟩⟩
      · rw [if_pos z, hI.ref.mv]
      · rw [if_neg (by omega), if_pos z]
      · rw [if_neg (by omega), if_neg (by omega), if_pos z, y]
      · rw [if_neg (by omega), if_neg (by omega), if_pos z, show bZ (0 < benZ P.toGeo x1) = 1 by omega]
      · rw [if_neg (by omega), if_neg (by omega), if_neg (by omega), if_pos z]
      · rw [if_neg z0, if_neg z1, if_neg z2, if_neg z3]
  · refine both_same (r := .int (J (-101))) hI (c168 (v168_0 ?_)) (c231 (v231_0 ?_))
    · simp only [G144, e1]
      unfold Q144
      rw [e1]
      ((repeat' (first | omega | exact True.intro | exact absurd True.intro ‹¬ True› | apply And.intro | intro _)) <;> rfl)
    · simp only [G220, e2]
      unfold Q220
      rw [e2]
      ((repeat' (first | omega | exact True.intro | exact absurd True.intro ‹¬ True› | apply And.intro | intro _)) <;> rfl)
end FNH
