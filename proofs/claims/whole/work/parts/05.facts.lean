/-! what the checks say, as facts -/
theorem gw_ti_in {i : Nat} {w : Jvm.Cond} (h : gw_ti i w = true) : w ∈ lw_tbl := by
  unfold gw_ti at h
  exact List.mem_append_right _ (List.mem_of_getElem? (of_decide_eq_true h))
def gw_tb : List Jvm.Cond := lw_tbl.filter goodWord
theorem gw_tb_in {w : Jvm.Cond} (h : w ∈ lw_tbl) (g : goodWord w = true) : w ∈ gw_tb := List.mem_filter.mpr ⟨h, g⟩
theorem gw_all2_of {α β : Type} {f : α → β → Bool} {l : List α} : ∀ {r : List β}, gw_all2 f l r = true → ∀ a ∈ l, ∃ b, f a b = true := by
  induction l with
  | nil => intro r _ a ha; cases ha
  | cons x l ih =>
    intro r h a ha
    cases r with
    | nil => cases h
    | cons y r =>
      simp only [gw_all2, Bool.and_eq_true] at h
      rcases List.mem_cons.mp ha with rfl | ha
      · exact ⟨y, h.1⟩
      · exact ih h.2 a ha
theorem gw_lookup_mem {α : Type} {l : List (Nat × α)} {i : Nat} {x : α} (h : l.lookup i = some x) : (i, x) ∈ l := by
  induction l with
  | nil => cases h
  | cons a l ih =>
    obtain ⟨k, y⟩ := a
    rw [List.lookup_cons] at h
    by_cases hk : i = k
    · subst hk
      simp at h
      subst h
      exact List.mem_cons_self
    · have : (i == k) = false := by simp [hk]
      rw [this] at h
      exact List.mem_cons_of_mem _ (ih h)
theorem gw_MLok : ∀ l ∈ gw_ML, ∀ M ∈ l, ∃ ix, gw_okM M ix = true := by
  unfold gw_ML
  exact List.forall_mem_cons.mpr ⟨gw_all2_of gm_ok_0, List.forall_mem_cons.mpr ⟨gw_all2_of gm_ok_1, List.forall_mem_cons.mpr ⟨gw_all2_of gm_ok_2, List.forall_mem_cons.mpr ⟨gw_all2_of gm_ok_3, List.forall_mem_cons.mpr ⟨gw_all2_of gm_ok_4, List.forall_mem_cons.mpr ⟨gw_all2_of gm_ok_5, List.forall_mem_cons.mpr ⟨gw_all2_of gm_ok_6, List.forall_mem_cons.mpr ⟨gw_all2_of gm_ok_7, List.forall_mem_cons.mpr ⟨gw_all2_of gm_ok_8, List.forall_mem_cons.mpr ⟨gw_all2_of gm_ok_9, List.forall_mem_cons.mpr ⟨gw_all2_of gm_ok_10, List.forall_mem_cons.mpr ⟨gw_all2_of gm_ok_11, List.forall_mem_cons.mpr ⟨gw_all2_of gm_ok_12, List.forall_mem_cons.mpr ⟨gw_all2_of gm_ok_13, List.forall_mem_cons.mpr ⟨gw_all2_of gm_ok_14, List.forall_mem_cons.mpr ⟨gw_all2_of gm_ok_15, List.forall_mem_cons.mpr ⟨gw_all2_of gm_ok_16, List.forall_mem_cons.mpr ⟨gw_all2_of gm_ok_17, List.forall_mem_cons.mpr ⟨gw_all2_of gm_ok_18, List.forall_mem_cons.mpr ⟨gw_all2_of gm_ok_19, fun _ h => absurd h List.not_mem_nil⟩⟩⟩⟩⟩⟩⟩⟩⟩⟩⟩⟩⟩⟩⟩⟩⟩⟩⟩⟩
theorem gw_fact_M {m : Nat} {M : gw_M} (h : gw_mi m = some M) : ∃ ix, gw_okM M ix = true := by
  unfold gw_mi at h
  split at h
  · rename_i l hl
    exact gw_MLok l (List.mem_of_getElem? hl) M (List.mem_of_getElem? h)
  · cases h
theorem gw_fact_P {c i : Nat} {e : gw_E} (h : gw_pool c i = some e) : ∃ ix, gw_okP c (i, e) ix = true := by
  unfold gw_pool at h
  split at h
  · rename_i l hl
    have hm := gw_lookup_mem h
    have hc : c < 16 := (List.getElem?_eq_some_iff.mp hl).1
    match c, hc, hl with
    | 0, _, hl => cases hl; exact gw_all2_of gp_ok_0 _ hm
    | 1, _, hl => cases hl; exact gw_all2_of gp_ok_1 _ hm
    | 2, _, hl => cases hl; exact gw_all2_of gp_ok_2 _ hm
    | 3, _, hl => cases hl; exact gw_all2_of gp_ok_3 _ hm
    | 4, _, hl => cases hl; exact gw_all2_of gp_ok_4 _ hm
    | 5, _, hl => cases hl; exact gw_all2_of gp_ok_5 _ hm
    | 6, _, hl => cases hl; exact gw_all2_of gp_ok_6 _ hm
    | 7, _, hl => cases hl; exact gw_all2_of gp_ok_7 _ hm
    | 8, _, hl => cases hl; exact gw_all2_of gp_ok_8 _ hm
    | 9, _, hl => cases hl; exact gw_all2_of gp_ok_9 _ hm
    | 10, _, hl => cases hl; exact gw_all2_of gp_ok_10 _ hm
    | 11, _, hl => cases hl; exact gw_all2_of gp_ok_11 _ hm
    | 12, _, hl => cases hl; exact gw_all2_of gp_ok_12 _ hm
    | 13, _, hl => cases hl; exact gw_all2_of gp_ok_13 _ hm
    | 14, _, hl => cases hl; exact gw_all2_of gp_ok_14 _ hm
    | 15, _, hl => cases hl; exact gw_all2_of gp_ok_15 _ hm
  · cases h
theorem gw_lay_good {C : String} {T : u_T} {N : Nat} {w : Jvm.Cond} (h : w ∈ u_ws C T N) : goodWord w = true := by
  obtain ⟨k, -, rfl⟩ := List.mem_map.mp h
  unfold u_lay
  split <;> rfl
theorem gw_fact_C {ci N : Nat} {C : String} {T : u_T} (h : vwCl[ci]? = some (C, T, N)) : (∀ w ∈ u_ws C T N, w ∈ gw_tb) ∧ (∀ k, k < N → parseFieldDescriptor (T k).2.2.1 = some (gw_ty ci k)) ∧ ∀ a, a < N → ∀ b, b < N → a ≠ b → (T a).2.1 ≠ (T b).2.1 := by
  have hc : ci < 13 := (List.getElem?_eq_some_iff.mp h).1
  have key : ∀ {C : String} {T : u_T} {N : Nat} {r : List Nat}, gw_all2 (fun w i => gw_ti i w) (u_ws C T N) r = true → ∀ w ∈ u_ws C T N, w ∈ gw_tb := fun h w hw => by
    obtain ⟨i, hi⟩ := gw_all2_of h w hw
    exact gw_tb_in (gw_ti_in hi) (gw_lay_good hw)
  match ci, hc, h with
  | 0, _, h => cases h; exact ⟨key gu_ok_0, tyX0_ok, nmX0⟩
  | 1, _, h => cases h; exact ⟨key gu_ok_1, tyX1_ok, nmX1⟩
  | 2, _, h => cases h; exact ⟨key gu_ok_2, tyX2_ok, nmX2⟩
  | 3, _, h => cases h; exact ⟨key gu_ok_3, tyX3_ok, nmX3⟩
  | 4, _, h => cases h; exact ⟨key gu_ok_4, tyX4_ok, nmX4⟩
  | 5, _, h => cases h; exact ⟨key gu_ok_5, tyX5_ok, nmX5⟩
  | 6, _, h => cases h; exact ⟨key gu_ok_6, tyX6_ok, nmX6⟩
  | 7, _, h => cases h; exact ⟨key gu_ok_7, tyX7_ok, nmX7⟩
  | 8, _, h => cases h; exact ⟨key gu_ok_8, tyX8_ok, nmX8⟩
  | 9, _, h => cases h; exact ⟨key gu_ok_9, tyX9_ok, nmX9⟩
  | 10, _, h => cases h; exact ⟨key gu_ok_10, tyX10_ok, nmX10⟩
  | 11, _, h => cases h; exact ⟨key gu_ok_11, tyX11_ok, nmX11⟩
  | 12, _, h => cases h; exact ⟨key gu_ok_12, tyX12_ok, nmX12⟩
theorem gw_at_spec {m pc : Nat} {M : gw_M} {I : gw_I} (h : gw_at m pc = some (M, I)) : gw_mi m = some M ∧ gw_okI M.1 M.2.2.1 (pc, I) = true := by
  unfold gw_at at h
  cases hm : gw_mi m with
  | none => simp [hm] at h
  | some M' =>
    simp only [hm] at h
    cases hl : M'.2.2.2.2.2.2.2.2.lookup pc with
    | none => simp [hl] at h
    | some I' =>
      simp only [hl, Option.some.injEq, Prod.mk.injEq] at h
      obtain ⟨rfl, rfl⟩ := h
      refine ⟨rfl, ?_⟩
      obtain ⟨ix, hk⟩ := gw_fact_M hm
      unfold gw_okM at hk
      simp only [Bool.and_eq_true] at hk
      exact List.all_eq_true.mp hk.1.2 _ (gw_lookup_mem hl)
