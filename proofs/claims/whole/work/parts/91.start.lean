/-! both are made: the first picture -/
section STA
variable {X : Nat × (Nat → Int32)} {res : Option Value × gw_H}
def nmz (M : Mem) : NM := fun a z => (M a z.toNat).toInt
theorem jm_nmz {M : Mem} : jm (nmz M) = M := by
  funext a j
  show J (M a ((j : Int)).toNat).toInt = M a j
  rw [Int.toNat_natCast, J_toInt]
def pic0 : Pic := Pic.mk (Geo.mk 4 4 0 (fun _ => 0) (fun _ => 0) (fun _ => 0) (fun _ => 0) (fun _ => 0)) (Pag.mk 0 (fun _ => 0)) (Pal.mk 20 20 50 (nmz (ko24 km0) 73) (nmz (ko24 km0) 74) (nmz (ko24 km0) 75) (fun _ => 0)) (Gla.mk 0 (fun _ => 0) (fun _ => 0) (fun _ => 0) (fun _ => 0)) (Ten.mk 0 0) (Rod.mk 0 (fun _ => 0) (fun _ => 0))
theorem p0_h : ∀ x : Fin 8, (ko24 km0 73 ((x.val : Int)).toNat).toInt = 700 := by decide +kernel
theorem p0_s : ∀ x : Fin 8, (ko24 km0 74 ((x.val : Int)).toNat).toInt = 3 := by decide +kernel
theorem p0_p : ∀ x : Fin 8, (ko24 km0 75 ((x.val : Int)).toNat).toInt = 10 := by decide +kernel
theorem c0_h : ∀ x : Fin 8, (km112 41 (3 * (x.val : Int)).toNat).toInt = 700 := by decide +kernel
theorem c0_s : ∀ x : Fin 8, (km112 41 (3 * (x.val : Int) + 1).toNat).toInt = 3 := by decide +kernel
theorem c0_p : ∀ x : Fin 8, (km112 41 (3 * (x.val : Int) + 2).toNat).toInt = 10 := by decide +kernel
theorem c0_x : ∀ x : Fin 16, (km112 10 ((x.val : Int)).toNat).toInt = (x.val : Int) % 4 := by decide +kernel
theorem c0_y : ∀ x : Fin 16, (km112 11 ((x.val : Int)).toNat).toInt = (x.val : Int) / 4 := by decide +kernel
theorem h_pic {c : Int} (h1 : 0 ≤ c) (h2 : c < 8) : pic0.toPal.heat c = 700 ∧ pic0.toPal.shr c = 3 ∧ pic0.toPal.pul c = 10 := by
  obtain ⟨a, rfl⟩ := fin_of (n := 8) (x := c) (by omega)
  exact ⟨p0_h a, p0_s a, p0_p a⟩
theorem geo0 : GeoR pic0.toGeo := GeoR.mk (by show (2 : Int) ≤ 4 ∧ (4 : Int) ≤ 8; decide) (by show (2 : Int) ≤ 4 ∧ (4 : Int) ≤ 8; decide) (by show (0 : Int) ≤ 0 ∧ (0 : Int) ≤ 30; decide) (fun v a b => absurd b (by show ¬ v < 0; omega)) (fun v a b => absurd b (by show ¬ v < 0; omega)) (fun v a b => absurd b (by show ¬ v < 0; omega)) (fun v i a b => absurd b (by show ¬ v < 0; omega)) (fun v i a b => absurd b (by show ¬ v < 0; omega)) (fun v i a b => absurd b (by show ¬ v < 0; omega))
theorem ok0 : PicOK pic0 := PicOK.mk geo0 (PagR.mk (by show (0 : Int) ≤ 0 ∧ (0 : Int) ≤ 40; decide) (fun i a b => absurd b (by show ¬ i < 0; omega)))
  (PalR.mk (fun c a b => by rw [(h_pic a b).1]; decide) (fun c a b => by rw [(h_pic a b).2.1]; decide) (fun c a b => by rw [(h_pic a b).2.2]; decide) (fun _ _ _ => Or.inl rfl) (by show (1 : Int) ≤ 20 ∧ (20 : Int) ≤ 99; decide) (by show (1 : Int) ≤ 20 ∧ (20 : Int) ≤ 99; decide) (by show (1 : Int) ≤ 50 ∧ (50 : Int) ≤ 999; decide))
  (GlaR.mk (fun _ _ _ => by show (0 : Int) ≤ 0 ∧ (0 : Int) ≤ 12; decide) (fun _ _ _ => by show (0 : Int) ≤ 0 ∧ (0 : Int) < 8; decide) (fun _ _ _ => by show (0 : Int) ≤ 0 ∧ (0 : Int) ≤ 99; decide) (fun _ _ _ => by show (0 : Int) ≤ 0 ∧ (0 : Int) ≤ 2; decide) (fun f k _ _ k1 k2 => absurd k2 (by show ¬ k < 0; omega)))
  (TenR.mk (by show (0 : Int) ≤ 0 ∧ (0 : Int) < 8; decide) (by show (0 : Int) ≤ 0 ∧ (0 : Int) ≤ 99; decide))
  (RodR.mk (by show (0 : Int) ≤ 0 ∧ (0 : Int) ≤ 8; decide) (fun k a b => absurd b (by show ¬ k < 0; omega)) (fun k a b => absurd b (by show ¬ k < 0; omega)))
theorem t0z : (0 : Int32).toInt = 0 := by decide
theorem cls0 : ∃ N', Rn 203 [.ref 8] (hs (X, 59, 6158) km112) none (hs (X, 59, 6158) (jm N')) ∧ ClsOK pic0 N' := by
  have hz : ∀ a, km112 a = (fun _ => 0) → nmz km112 a = fun _ => 0 := fun a e => by
    funext z
    show (km112 a z.toNat).toInt = 0
    rw [e]
    exact t0z
  obtain ⟨N', r, k1, k2⟩ := renew_ok (E := (X, 59, 6158)) (N := nmz km112) (P' := pic0) geo0
    (GridOK.mk (by show (km112 9 ((2 : Int)).toNat).toInt = 4; decide +kernel) (by show (km112 9 ((3 : Int)).toNat).toInt = 4; decide +kernel) (fun f a b => by
      obtain ⟨x, rfl⟩ := fin_of (n := 16) (x := f) ⟨a, b⟩
      exact c0_x x) (fun f a b => by
      obtain ⟨x, rfl⟩ := fin_of (n := 16) (x := f) ⟨a, b⟩
      exact c0_y x))
    (PageOK.mk (by rw [hz 12 rfl]; rfl) (fun i a b => absurd b (by show ¬ i < 0; omega)))
    (WiresOK.mk (by rw [hz 14 rfl]; rfl) (fun v a b => absurd b (by show ¬ v < 0; omega)) (fun v a b => absurd b (by show ¬ v < 0; omega)) (fun v a b => absurd b (by show ¬ v < 0; omega)) (fun v a b => absurd b (by show ¬ v < 0; omega)) (fun v a b => absurd b (by show ¬ v < 0; omega)) (fun v i a b => absurd b (by show ¬ v < 0; omega)) (fun v i a b => absurd b (by show ¬ v < 0; omega)))
    (PalOK.mk (fun c a b => by
      rw [(h_pic a b).1]
      obtain ⟨x, rfl⟩ := fin_of (n := 8) (x := c) ⟨a, b⟩
      exact c0_h x) (fun c a b => by
      rw [(h_pic a b).2.1]
      obtain ⟨x, rfl⟩ := fin_of (n := 8) (x := c) ⟨a, b⟩
      exact c0_s x) (fun c a b => by
      rw [(h_pic a b).2.2]
      obtain ⟨x, rfl⟩ := fin_of (n := 8) (x := c) ⟨a, b⟩
      exact c0_p x) (fun a b _ _ _ _ => by
      rw [hz 42 rfl]
      show (0 : Int) / 2 ^ b.toNat % 2 = 0
      rw [Int.zero_ediv]
      rfl) (fun a _ _ => by rw [hz 42 rfl]; show (0 : Int) ≤ 0 ∧ (0 : Int) < 256; decide) (by show (km112 43 ((0 : Int)).toNat).toInt = 20; decide +kernel) (by show (km112 43 ((1 : Int)).toNat).toInt = 20; decide +kernel) (by show (km112 43 ((2 : Int)).toNat).toInt = 50; decide +kernel))
    (GlassOK.mk (by rw [hz 44 rfl]; rfl) (hz 45 rfl) (hz 46 rfl) (hz 47 rfl) (hz 48 rfl))
    (TenOK.mk (by rw [hz 53 rfl]; rfl) (by rw [hz 53 rfl]; rfl)) (RodsOK.mk (by rw [hz 54 rfl]; rfl) (fun k a b => absurd b (by show ¬ k < 0; omega)) (fun k a b => absurd b (by show ¬ k < 0; omega)))
  rw [jm_nmz] at r
  exact ⟨N', r, k1⟩
theorem kp_lo {M : Mem} : ∀ c : Nat, c < 59 → kp3 (ko24 (kn31 M)) c = M c := by
  intro c hc
  have h1 : ∀ (K : Mem) (a : Nat) (g : Nat → Int32), 59 ≤ a → up K a g c = K c := fun K a g ha => up_ne (by omega)
  have hn : kn31 M c = M c := by
    iterate 31 (refine (h1 _ _ _ (by decide)).trans ?_)
    rfl
  have ho : ko24 (kn31 M) c = kn31 M c := by
    iterate 24 (refine (h1 _ _ _ (by decide)).trans ?_)
    rfl
  have hp : kp3 (ko24 (kn31 M)) c = ko24 (kn31 M) c := by
    iterate 3 (refine (h1 _ _ _ (by decide)).trans ?_)
    rfl
  rw [hp, ho, hn]
theorem up_cg {K K' : Mem} {b n : Nat} {v : Int32} (h : ∀ a, 73 ≤ a ∧ a ≤ 75 → K a = K' a) (hb : 73 ≤ b ∧ b ≤ 75) : ∀ a, 73 ≤ a ∧ a ≤ 75 → up K b (upd (K b) n v) a = up K' b (upd (K' b) n v) a := by
  intro a ha
  unfold up
  split
  · rw [h b hb]
  · exact h a ha
theorem ko_cg {K K' : Mem} (h : ∀ a, 73 ≤ a ∧ a ≤ 75 → K a = K' a) : ∀ a, 73 ≤ a ∧ a ≤ 75 → ko24 K a = ko24 K' a := by
  iterate 24 (refine up_cg ?_ (by decide))
  exact h
theorem kp_cg {M : Mem} : ∀ a, 73 ≤ a ∧ a ≤ 75 → kp3 (ko24 (kn31 M)) a = ko24 km0 a := by
  intro a ha
  have hp : kp3 (ko24 (kn31 M)) a = ko24 (kn31 M) a := by
    iterate 3 (refine (up_ne (by omega)).trans ?_)
    rfl
  rw [hp]
  refine ko_cg (fun a ha => ?_) a ha
  have h3 : a = 73 ∨ a = 74 ∨ a = 75 := by omega
  rcases h3 with rfl | rfl | rfl
  · rfl
  · rfl
  · rfl
theorem kk59 {M : Mem} : kp3 (ko24 (kn31 M)) 59 = kp3 km0 59 := rfl
theorem ref0 {N1 : NM} (hC : ClsOK pic0 N1) : ∃ N2 N3, kp3 (ko24 (kn31 (jm N1))) = jm N2 ∧ Rn 210 [.ref 59, .int (J 4), .int (J 4)] (hs (X, 90, 11875) (jm N2)) none (hs (X, 90, 11875) (jm N3)) ∧ GInv pic0 N3 := by
  have lo := kp_lo (M := jm N1)
  generalize hK : kp3 (ko24 (kn31 (jm N1))) = KK at lo
  have z : ∀ a, kp3 (ko24 (kn31 (jm N1))) a = (fun _ => 0) → nmz KK a = fun _ => 0 := fun a e => by
    rw [hK] at e
    funext y
    show (KK a y.toNat).toInt = 0
    rw [e]
    exact t0z
  have q : ∀ a, kp3 (ko24 (kn31 (jm N1))) a = ko24 km0 a → nmz KK a = nmz (ko24 km0) a := fun a e => by
    rw [hK] at e
    funext y
    show (KK a y.toNat).toInt = (ko24 km0 a y.toNat).toInt
    rw [e]
  have e9 : KK 59 = kp3 km0 59 := by rw [← hK]; exact kk59
  have f9 : ∀ y, nmz KK 59 y = (kp3 km0 59 y.toNat).toInt := fun y => by
    show (KK 59 y.toNat).toInt = _
    rw [e9]
  have hj : KK = jm (fun a => if a < 59 then N1 a else nmz KK a) := by
    funext a j
    show KK a j = J ((if a < 59 then N1 a else nmz KK a) (j : Int))
    by_cases h : a < 59
    · rw [if_pos h, lo a h]
      rfl
    · rw [if_neg h]
      show KK a j = J (KK a ((j : Int)).toNat).toInt
      rw [Int.toNat_natCast, J_toInt]
  obtain ⟨g, z1, z2, r⟩ := sp210 (E := (X, 90, 11875)) (N := fun a => if a < 59 then N1 a else nmz KK a) (w := 4) (h := 4)
  have eg : g = fun _ => 0 := by
    funext f
    by_cases h : 0 ≤ f ∧ f < 64
    · exact z1 f h.1 h.2
    · rw [z2 f h]
      show nmz KK 77 f = 0
      rw [z 77 rfl]
  subst eg
  refine ⟨_, _, hj, r, GInv.mk ok0 (RefOK.mk ?_ ?_ ?_ ?_ ?_ ?_ ?_ ?_ ?_ ?_ ?_ ?_ ?_ ?_ ?_ ?_ ?_ ?_ ?_ ?_ ?_ ?_ ?_ ?_ ?_ ?_ ?_) (hC.fr fun a ha => ?_)⟩
  · rfl
  · rfl
  · exact (f9 3).trans (by decide +kernel)
  · rfl
  · exact (f9 22).trans (by decide +kernel)
  · exact (f9 23).trans (by decide +kernel)
  · exact (f9 24).trans (by decide +kernel)
  · rfl
  · rfl
  · rfl
  · rfl
  · exact z 60 rfl
  · exact z 61 rfl
  · exact z 62 rfl
  · exact z 63 rfl
  · exact z 64 rfl
  · exact z 65 rfl
  · exact q 73 (kp_cg 73 (by decide))
  · exact q 74 (kp_cg 74 (by decide))
  · exact q 75 (kp_cg 75 (by decide))
  · exact z 76 rfl
  · rfl
  · exact z 78 rfl
  · exact z 79 rfl
  · exact z 80 rfl
  · exact z 84 rfl
  · exact z 85 rfl
  · have hl : a < 59 := by
      unfold clsC at ha
      rw [decide_eq_true_eq] at ha
      omega
    rw [upZ_n (by omega), upZ_n (by omega)]
    exact if_pos hl
theorem law_start : ∃ N, GInv pic0 N ∧ ∀ res, Ev 40 309 18 [some (.ref 0), some (.ref 8), some (.ref 59), some (.int 0)] [] (hs (X, 90, 11875) (jm N)) res → Ev 40 309 0 [some (.ref 0), none, none, none] [] (hs (X, 8, 0) km0) res := by
  obtain ⟨N1, r203, hC⟩ := cls0 (X := X)
  obtain ⟨N2, N3, e2, r210, hI⟩ := ref0 (X := X) hC
  refine ⟨N3, hI, fun res H => ?_⟩
  refine Ev.hno (X := X) (n := 8) (z := 0) (M := km0) (ov := []) (c := .inr (11, [.null, .null, .null, .null, .null, .null, .null, .null, .null, .null, .null])) (k := 11) (n' := 9) (z' := 11) (pc' := 3) (L' := [some (.ref 0), none, none, none]) (st' := [.ref 8]) rfl rfl rfl ?_
  refine Ev.steps 1 (pc' := 4) (L' := [some (.ref 0), none, none, none]) (st' := [.ref 8, .ref 8]) rfl ?_
  refine Ev.call (y := 160) (args := [.ref 8]) (rest := [.ref 8]) (r := none) (h1 := hs (X, 59, 6158) (jm N1)) rfl ?_ ?_
  · show Ev 7 160 0 [some (.ref 8)] [] (ho (X, 9, 11) km0 [(8, .inr (11, [.null, .null, .null, .null, .null, .null, .null, .null, .null, .null, .null]))]) _
    refine ct160 ?_
    refine Ev.call (y := 203) (args := [.ref 8]) (rest := []) (r := none) (h1 := hs (X, 59, 6158) (jm N1)) rfl r203 ?_
    exact Ev.ret rfl
  · show Ev 40 309 7 [some (.ref 0), none, none, none] [.ref 8] (ho (X, 59, 6158) (jm N1) []) res
    refine Ev.steps 1 (pc' := 8) (L' := [some (.ref 0), some (.ref 8), none, none]) (st' := []) rfl ?_
    refine Ev.hno (X := X) (n := 59) (z := 6158) (M := jm N1) (ov := []) (c := .inr (12, [.int 0, .int 0, .null, .int 0, .int 0, .null, .null, .null, .null, .null, .null, .null, .null, .null, .null, .int 0, .null, .null, .null, .null, .null, .null, .int 0, .int 0, .int 0, .null, .null, .null, .null, .int 0, .null, .null, .null, .int 0, .int 0, .int 0, .int 0, .null, .null, .null, .int 0, .null, .null, .null])) (k := 44) (n' := 60) (z' := 6202) (pc' := 11) (L' := [some (.ref 0), some (.ref 8), none, none]) (st' := [.ref 59]) rfl rfl rfl ?_
    refine Ev.steps 1 (pc' := 12) (L' := [some (.ref 0), some (.ref 8), none, none]) (st' := [.ref 59, .ref 59]) rfl ?_
    refine Ev.call (y := 208) (args := [.ref 59]) (rest := [.ref 59]) (r := none) (h1 := hs (X, 90, 11875) (jm N3)) rfl ?_ ?_
    · show Ev 2 208 0 [some (.ref 59), none] [] (ho (X, 60, 6202) (jm N1) [(59, .inr (12, [.int 0, .int 0, .null, .int 0, .int 0, .null, .null, .null, .null, .null, .null, .null, .null, .null, .null, .int 0, .null, .null, .null, .null, .null, .null, .int 0, .int 0, .int 0, .null, .null, .null, .null, .int 0, .null, .null, .null, .int 0, .int 0, .int 0, .int 0, .null, .null, .null, .int 0, .null, .null, .null]))]) _
      refine ct208a (ct208b (ct208c ?_))
      rw [e2, show (4 : Int32) = J 4 from jl_4]
      show Ev 2 208 310 [some (.ref 59), some (.int 8)] [.int (J 4), .int (J 4), .ref 59] (hs (X, 90, 11875) (jm N2)) _
      refine Ev.call (y := 210) (args := [.ref 59, .int (J 4), .int (J 4)]) (rest := []) (r := none) (h1 := hs (X, 90, 11875) (jm N3)) rfl r210 ?_
      exact Ev.ret rfl
    · show Ev 40 309 15 [some (.ref 0), some (.ref 8), none, none] [.ref 59] (hs (X, 90, 11875) (jm N3)) res
      refine Ev.steps 3 (pc' := 18) (L' := [some (.ref 0), some (.ref 8), some (.ref 59), some (.int 0)]) (st' := []) rfl ?_
      exact H
end STA
