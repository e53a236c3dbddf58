/-! a place of a sort -/
section PLB
variable {E : gw_N} {N : NM} {P : Pic} {G : Geo}
def plZ (G : Geo) (sort x y : Int) : Prop := (sort = 1 ∧ 2 ≤ comC G (10 * y + x)) ∨ (¬ sort = 1 ∧ 0 < x ∧ x < G.w ∧ 0 < y ∧ y < G.h ∧ meeZ G x y = 1)
theorem sp72 {sort x y : Int} (hI : PicOK P) (hC : ClsOK P N) (hso : R sort) (hp : isPt P.toGeo x y) : Rn 72 [.ref 22, .int (J sort), .int (J x), .int (J y)] (hs E (jm N)) (some (.int (J (bZ (plZ P.toGeo sort x y))))) (hs E (jm N)) := by
  have h8 := hI.geo.w
  have h9 := hI.geo.h
  have hp' := hp
  unfold isPt at hp'
  have e48 : G48 N x y = 10 * y + x := rfl
  have hcb := com_bd hI.geo (p := 10 * y + x)
  have hmb := mee_bd (G := P.toGeo) (x := x) (y := y)
  have e42 : G42 N x y = if 0 < x ∧ x < P.toGeo.w ∧ 0 < y ∧ y < P.toGeo.h then 0 else 1 := by
    unfold G42
    rw [hC.grid.w, hC.grid.h]
    (repeat' split) <;> omega
  have q42 : Q42 N x y := by
    unfold Q42
    rw [hC.grid.w, hC.grid.h]
    (repeat' (first | omega | exact True.intro | exact absurd True.intro ‹¬ True› | apply And.intro | intro _))
  refine c72 (v72_0 ?_)
  rw [e48, e42, hC.net.com (10 * y + x) (by omega) (by omega)]
  refine ⟨hso, fun s => ⟨by omega, by omega, fun z => ?_, fun z => ?_⟩, fun s => ⟨q42, by split <;> decide, fun z => ⟨_, sp73 hI.geo hC.grid hC.net.cov hp, by omega, fun w => ?_, fun w => ?_⟩, fun z => ?_⟩⟩
  · rw [bZ_f]
    rintro (k | k)
    · have := k.2
      omega
    · exact k.1 s
  · rw [bZ_t (show plZ P.toGeo sort x y from Or.inl ⟨s, by omega⟩)]
  · have hin : 0 < x ∧ x < P.toGeo.w ∧ 0 < y ∧ y < P.toGeo.h := by split at z <;> omega
    rw [bZ_t (show plZ P.toGeo sort x y from Or.inr ⟨s, hin.1, hin.2.1, hin.2.2.1, hin.2.2.2, w⟩)]
  · rw [bZ_f]
    rintro (k | k)
    · exact s k.1
    · exact w k.2.2.2.2.2
  · rw [bZ_f]
    rintro (k | k)
    · exact s k.1
    · rw [if_pos ⟨k.2.1, k.2.2.1, k.2.2.2.1, k.2.2.2.2.1⟩] at z
      exact z rfl
theorem r240 {x y : Int} (hI : PicOK P) (hR : RefOK P N) (hcv : ∀ e, 0 ≤ e → e < 162 → N 67 e = covC P.toGeo (toC e)) (hp : isPt P.toGeo x y) : G240 N x y = bZ (plZ P.toGeo 0 x y) ∧ Q240 N x y := by
  have h8 := hI.geo.w
  have h9 := hI.geo.h
  have hp' := hp
  unfold isPt at hp'
  obtain ⟨a1, a2⟩ := r239 hI hR hcv hp
  have hmb := mee_bd (G := P.toGeo) (x := x) (y := y)
  unfold G240 Q240
  rw [a1, hR.w, hR.h]
  refine ⟨?_, by repeat' (first | exact a2 | omega | exact True.intro | apply And.intro | intro _)⟩
  by_cases q : plZ P.toGeo 0 x y
  · rw [bZ_t q]
    rcases q with k | k
    · exact absurd k.1 (by decide)
    · rw [if_neg (by omega), if_neg (by omega), if_neg (by omega), if_neg (by omega), if_pos k.2.2.2.2.2]
  · rw [bZ_f q]
    have q' : ¬ (0 < x ∧ x < P.toGeo.w ∧ 0 < y ∧ y < P.toGeo.h ∧ meeZ P.toGeo x y = 1) := fun z => q (Or.inr ⟨by decide, z⟩)
    (repeat' split) <;> omega
end PLB
