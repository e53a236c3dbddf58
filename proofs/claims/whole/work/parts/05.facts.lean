/-! what the checks say, as facts -/
theorem gw_ti_in {i : Nat} {w : Jvm.Cond} (h : gw_ti i w = true) : w ∈ lw_tbl := by
  unfold gw_ti at h
  exact List.mem_append_right _ (List.mem_of_getElem? (of_decide_eq_true h))
def gw_tb : List Jvm.Cond := lw_tbl.filter goodWord
theorem gw_tb_in {w : Jvm.Cond} (h : w ∈ lw_tbl) (g : goodWord w = true) : w ∈ gw_tb := List.mem_filter.mpr ⟨h, g⟩
theorem gw_fact_M {m : Nat} {M : gw_M} (h : gw_mi m = some M) : ∃ ix, gw_okM M ix = true := sorry
theorem gw_fact_P {c i : Nat} {e : gw_E} (h : gw_pool c i = some e) : ∃ ix, gw_okP c (i, e) ix = true := sorry
theorem gw_fact_C {ci N : Nat} {C : String} {T : u_T} (h : vwCl[ci]? = some (C, T, N)) : (∀ w ∈ u_ws C T N, w ∈ gw_tb) ∧ (∀ k, k < N → parseFieldDescriptor (T k).2.2.1 = some (gw_ty ci k)) ∧ ∀ a, a < N → ∀ b, b < N → a ≠ b → (T a).2.1 ≠ (T b).2.1 := sorry
theorem gw_lookup_mem {α : Type} {l : List (Nat × α)} {i : Nat} {x : α} (h : l.lookup i = some x) : (i, x) ∈ l := by
  induction l with
  | nil => cases h
  | cons a l ih =>
    obtain ⟨k, y⟩ := a
    rw [List.lookup_cons] at h
    by_cases hk : i = k
    · subst hk
      simp at h
      subst h
      exact List.mem_cons_self
    · have : (i == k) = false := by simp [hk]
      rw [this] at h
      exact List.mem_cons_of_mem _ (ih h)
theorem gw_at_spec {m pc : Nat} {M : gw_M} {I : gw_I} (h : gw_at m pc = some (M, I)) : gw_mi m = some M ∧ gw_okI M.1 M.2.2.1 (pc, I) = true := by
  unfold gw_at at h
  cases hm : gw_mi m with
  | none => simp [hm] at h
  | some M' =>
    simp only [hm] at h
    cases hl : M'.2.2.2.2.2.2.2.2.lookup pc with
    | none => simp [hl] at h
    | some I' =>
      simp only [hl, Option.some.injEq, Prod.mk.injEq] at h
      obtain ⟨rfl, rfl⟩ := h
      refine ⟨rfl, ?_⟩
      obtain ⟨ix, hk⟩ := gw_fact_M hm
      unfold gw_okM at hk
      simp only [Bool.and_eq_true] at hk
      exact List.all_eq_true.mp hk.1.2 _ (gw_lookup_mem hl)
