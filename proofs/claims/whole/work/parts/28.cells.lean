/-! fields that hang together: the mathematics -/
section CEL
variable {G : Geo}
theorem exists_min {p : Int → Prop} (hp : ∃ g, p g) (h0 : ∀ g, p g → 0 ≤ g) : ∃ c, p c ∧ ∀ g, p g → c ≤ g := by
  obtain ⟨g, hg⟩ := hp
  have key : ∀ n : Nat, ∀ g, p g → g.toNat = n → ∃ c, p c ∧ ∀ g, p g → c ≤ g := by
    intro n
    induction n using Nat.strongRecOn with
    | ind n ih =>
      intro g hg hn
      by_cases h : ∀ g', p g' → g ≤ g'
      · exact ⟨g, hg, h⟩
      · have ⟨g', hg'⟩ : ∃ g', p g' ∧ g' < g := by
          apply Classical.byContradiction
          intro hx
          refine h (fun g' hg' => ?_)
          apply Classical.byContradiction
          intro hlt
          exact hx ⟨g', hg', by omega⟩
        have h1 := h0 g' hg'.1
        exact ih g'.toNat (by omega) g' hg'.1 rfl
  exact key _ g hg rfl
/-- the way back -/
def wayB (way : Int) : Int := if way = 0 then 2 else if way = 1 then 3 else if way = 2 then 0 else 1
theorem bes_spec (hG : GeoR G) {f way : Int} (hf : isF G f) (hw : 0 ≤ way ∧ way < 4) (hn : ¬ besZ G f way = -1) :
    isF G (besZ G f way) ∧ besZ G (besZ G f way) (wayB way) = f ∧ betZ G (besZ G f way) (wayB way) = betZ G f way := by
  have ⟨hx, hy, e⟩ := fld_xy hG hf
  have hw8 := hG.w
  have hh8 := hG.h
  obtain a | a | a | a : way = 0 ∨ way = 1 ∨ way = 2 ∨ way = 3 := by omega
  · subst a
    have eb : besZ G f 0 = if f % G.w + 1 < G.w then f + 1 else -1 := rfl
    rw [eb] at hn ⊢
    by_cases c : f % G.w + 1 < G.w
    · rw [if_pos c]
      obtain ⟨k1, k2, k3⟩ := fld_at hG (x := f % G.w + 1) (y := f / G.w) (by omega) hy
      rw [show G.w * (f / G.w) + (f % G.w + 1) = f + 1 by omega] at k1 k2 k3
      refine ⟨k1, ?_, ?_⟩
      · show (if 1 ≤ (f + 1) % G.w then f + 1 - 1 else -1) = f
        rw [k2, if_pos (by omega)]; omega
      · show 89 + 10 * ((f + 1) / G.w) + (f + 1) % G.w = 89 + 10 * (f / G.w) + (f % G.w + 1)
        rw [k2, k3]
    · exact absurd (if_neg c) hn
  · subst a
    have eb : besZ G f 1 = if f / G.w + 1 < G.h then f + G.w else -1 := rfl
    rw [eb] at hn ⊢
    by_cases c : f / G.w + 1 < G.h
    · rw [if_pos c]
      obtain ⟨k1, k2, k3⟩ := fld_at hG (x := f % G.w) (y := f / G.w + 1) hx (by omega)
      rw [show G.w * (f / G.w + 1) + f % G.w = f + G.w by rw [Int.mul_add, Int.mul_one]; omega] at k1 k2 k3
      refine ⟨k1, ?_, ?_⟩
      · show (if 1 ≤ (f + G.w) / G.w then f + G.w - G.w else -1) = f
        rw [k3, if_pos (by omega)]; omega
      · show 10 * ((f + G.w) / G.w) + (f + G.w) % G.w = 10 * (f / G.w + 1) + f % G.w
        rw [k2, k3]
    · exact absurd (if_neg c) hn
  · subst a
    have eb : besZ G f 2 = if 1 ≤ f % G.w then f - 1 else -1 := rfl
    rw [eb] at hn ⊢
    by_cases c : 1 ≤ f % G.w
    · rw [if_pos c]
      obtain ⟨k1, k2, k3⟩ := fld_at hG (x := f % G.w - 1) (y := f / G.w) (by omega) hy
      rw [show G.w * (f / G.w) + (f % G.w - 1) = f - 1 by omega] at k1 k2 k3
      refine ⟨k1, ?_, ?_⟩
      · show (if (f - 1) % G.w + 1 < G.w then f - 1 + 1 else -1) = f
        rw [k2, if_pos (by omega)]; omega
      · show 89 + 10 * ((f - 1) / G.w) + ((f - 1) % G.w + 1) = 89 + 10 * (f / G.w) + f % G.w
        rw [k2, k3]; omega
    · exact absurd (if_neg c) hn
  · subst a
    have eb : besZ G f 3 = if 1 ≤ f / G.w then f - G.w else -1 := rfl
    rw [eb] at hn ⊢
    by_cases c : 1 ≤ f / G.w
    · rw [if_pos c]
      obtain ⟨k1, k2, k3⟩ := fld_at hG (x := f % G.w) (y := f / G.w - 1) hx (by omega)
      rw [show G.w * (f / G.w - 1) + f % G.w = f - G.w by rw [Int.mul_sub, Int.mul_one]; omega] at k1 k2 k3
      refine ⟨k1, ?_, ?_⟩
      · show (if (f - G.w) / G.w + 1 < G.h then f - G.w + G.w else -1) = f
        rw [k3, if_pos (by omega)]; omega
      · show 10 * ((f - G.w) / G.w + 1) + (f - G.w) % G.w = 10 * (f / G.w) + f % G.w
        rw [k2, k3]; omega
    · exact absurd (if_neg c) hn
theorem wayB_bd {way : Int} (hw : 0 ≤ way ∧ way < 4) : 0 ≤ wayB way ∧ wayB way < 4 := by unfold wayB; split <;> (try split) <;> (try split) <;> omega
theorem bet_bd (hG : GeoR G) {f way : Int} (hf : isF G f) : 0 ≤ betZ G f way ∧ betZ G f way < 178 := by
  have ⟨hx, hy, e⟩ := fld_xy hG hf
  have hw8 := hG.w
  have hh8 := hG.h
  unfold betZ
  split
  · omega
  · split
    · omega
    · split <;> omega
theorem openTo_mk {f way : Int} (hw : 0 ≤ way ∧ way < 4) (hF : isF G (besZ G f way)) (hc : covC G (betZ G f way) = 0) : openTo G f (besZ G f way) := ⟨way, hw.1, hw.2, rfl, hF, hc⟩
theorem openTo_isF {f g : Int} (h : openTo G f g) : isF G g := by
  obtain ⟨way, h1, h2, h3, h4, h5⟩ := h
  exact h4
theorem openTo_symm (hG : GeoR G) {f g : Int} (hf : isF G f) (h : openTo G f g) : openTo G g f := by
  obtain ⟨way, h1, h2, h3, h4, h5⟩ := h
  have hn : ¬ besZ G f way = -1 := by
    rw [h3]
    have := h4.1
    omega
  obtain ⟨k1, k2, k3⟩ := bes_spec hG hf ⟨h1, h2⟩ hn
  rw [h3] at k2 k3
  have hb := wayB_bd ⟨h1, h2⟩
  exact ⟨wayB way, hb.1, hb.2, k2, hf, by rw [k3]; exact h5⟩
theorem conn_ind {f : Int} {S : Int → Prop} (h0 : S f) (hs : ∀ a b, S a → openTo G a b → S b) {g : Int} (h : conn G f g) : S g := h S h0 hs
theorem conn_isF {f g : Int} (hf : isF G f) (h : conn G f g) : isF G g := conn_ind (S := isF G) hf (fun _ _ _ hb => openTo_isF hb) h
theorem conn_trans {f g k : Int} (h1 : conn G f g) (h2 : conn G g k) : conn G f k := conn_ind (S := conn G f) h1 (fun _ _ ha hb => conn_step ha hb) h2
theorem conn_symm (hG : GeoR G) {f g : Int} (hf : isF G f) (h : conn G f g) : conn G g f := by
  have := conn_ind (S := fun x => isF G x ∧ conn G x f) ⟨hf, conn_refl⟩ (fun a b ha hb => ⟨openTo_isF hb, conn_trans (conn_step conn_refl (openTo_symm hG ha.1 hb)) ha.2⟩) h
  exact this.2
theorem cell_uniq {f c d : Int} (h1 : isCellOf G f c) (h2 : isCellOf G f d) : c = d := by
  have a := h1.2.2 d h2.1 h2.2.1
  have b := h2.2.2 c h1.1 h1.2.1
  omega
theorem cell_ex {f : Int} (hf : isF G f) : isCellOf G f (cellZ G f) := by
  have hx : ∃ c, isCellOf G f c := by
    obtain ⟨c, hc, hm⟩ := exists_min (p := fun g => isF G g ∧ conn G f g) ⟨f, hf, conn_refl⟩ (fun g hg => hg.1.1)
    exact ⟨c, hc.1, hc.2, fun g h1 h2 => hm g ⟨h1, h2⟩⟩
  unfold cellZ
  rw [dif_pos hx]
  exact hx.choose_spec
theorem cell_eq {f c : Int} (hf : isF G f) (h : isCellOf G f c) : cellZ G f = c := cell_uniq (cell_ex hf) h
theorem cell_conn (hG : GeoR G) {f g : Int} (hf : isF G f) (h : conn G f g) : cellZ G f = cellZ G g := by
  have hg := conn_isF hf h
  refine cell_eq hf ?_
  obtain ⟨h1, h2, h3⟩ := cell_ex hg
  exact ⟨h1, conn_trans h h2, fun k k1 k2 => h3 k k1 (conn_trans (conn_symm hG hf h) k2)⟩
theorem cell_self (hG : GeoR G) {f : Int} (hf : isF G f) : cellZ G (cellZ G f) = cellZ G f := (cell_conn hG hf (cell_ex hf).2.1).symm
theorem cell_conn' (hG : GeoR G) {f g : Int} (hf : isF G f) (hg : isF G g) (h : cellZ G f = cellZ G g) : conn G f g := by
  have h1 := (cell_ex hf).2.1
  have h2 := (cell_ex hg).2.1
  rw [h] at h1
  exact conn_trans h1 (conn_symm hG hg h2)
theorem cell_le {f : Int} (hf : isF G f) : cellZ G f ≤ f := (cell_ex hf).2.2 f hf conn_refl
/-- what stays the same over each step, is of the same cell, and never above, is the cell's number -/
theorem cell_char (hG : GeoR G) {c : Int → Int} (h1 : ∀ f, isF G f → isF G (c f) ∧ conn G f (c f) ∧ c f ≤ f) (h2 : ∀ f g, isF G f → openTo G f g → c f = c g) : ∀ f, isF G f → c f = cellZ G f := by
  intro f hf
  have key : ∀ g, conn G f g → isF G g ∧ c f = c g := fun g hg => conn_ind (S := fun g => isF G g ∧ c f = c g) ⟨hf, rfl⟩ (fun a b ha hb => ⟨openTo_isF hb, ha.2.trans (h2 a b ha.1 hb)⟩) hg
  obtain ⟨m1, m2, m3⟩ := cell_ex hf
  have e := (key _ m2).2
  obtain ⟨k1, k2, k3⟩ := h1 _ m1
  have := m3 _ k1 (conn_trans m2 k2)
  omega
end CEL
