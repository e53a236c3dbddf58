/-! the counted cells and the machine's heap -/
def gw_rho (z0 : Nat) (ro : Nat → Nat) (a : Nat) : Nat := if a < 8 then ro a else z0 + (a - 8)
def gw_rv (ρ : Nat → Nat) (v : Value) : Value := match v with
  | .ref a => .ref (ρ a)
  | w => w
def gw_rc (ρ : Nat → Nat) (ca : Nat → ClassId) (c : gw_C) : va_E := match c with
  | .inl x => .inl (ca x.1, x.2.1, .inl x.2.2)
  | .inr x => .inr (x.1, x.2.map (gw_rv ρ))
def gw_ok (n : Nat) (v : Value) : Prop := ∀ a, v = .ref a → a < n
def gw_okS (n : Nat) (st : List Value) : Prop := ∀ v ∈ st, gw_ok n v
def gw_okL (n : Nat) (L : gw_L) : Prop := ∀ (i : Nat) (v : Value), L[i]? = some (some v) → gw_ok n v
def gw_okc (n : Nat) (c : gw_C) : Prop := match c with
  | .inl _ => True
  | .inr x => gw_okS n x.2
def gw_HR (D : va_G) (ca : Nat → ClassId) (z0 : Nat) (ro : Nat → Nat) (rc : Nat → Nat × (Nat → Int32)) (h : gw_H) (H : Heap) : Prop :=
  8 ≤ h.2.1 ∧ H.size = z0 + (h.2.1 - 8) ∧ (∀ a, 8 ≤ a → a < h.2.1 → va_at D vwCl (z0 + (a - 8), gw_rc (gw_rho z0 ro) ca (h.1 a)) H ∧ gw_okc h.2.1 (h.1 a)) ∧ ∀ a, a < 8 → h.1 a = .inl (0, rc a)
def gw_A (z0 : Nat) : Nat → Prop := fun q => z0 ≤ q
def gw_SR (D : va_G) (ca : Nat → ClassId) (z0 : Nat) (ro : Nat → Nat) (rc : Nat → Nat × (Nat → Int32)) (U : State) : Prop :=
  va_K D vwCl [(ca 0, .int), (ca 1, .boolean)] U ∧ (∀ a, a < 8 → va_T .int (ro a) (rc a).1 (fun j => .int ((rc a).2 j)) (gw_A z0) U U.heap) ∧ (∀ j, 1 ≤ j → j ≤ 4 → va_Z "GlassWires$Palette" (gw_sn j) "[I" (.ref (ro j)) (gw_A z0) U U.heap) ∧ z0 ≤ U.heap.size ∧ ∀ (a : String) (i : Nat) (y : MethodName), Jvm.Cond.methodLinkNest a i y "GlassWires" ∈ lw_tbl → va_Nw (.methodLinkNest a i y "GlassWires") U
def gw_LH (ρ : Nat → Nat) (ls : Array Slot) (nL : Nat) (L : gw_L) : Prop := ls.size = nL ∧ lv_wf ls ∧ L.length = nL ∧ ∀ (i : Nat) (v : Value), L[i]? = some (some v) → ls[i]? = some (.val (gw_rv ρ v))
def gw_lv (ρ : Nat → Nat) (L : gw_L) : List (Nat × Value) := (List.range L.length).filterMap fun i => match L[i]? with
  | some (some v) => some (i, gw_rv ρ v)
  | _ => none
theorem gw_rv_cat (ρ : Nat → Nat) (v : Value) : (gw_rv ρ v).category = v.category := by cases v <;> rfl
theorem gw_lv_mem {ρ : Nat → Nat} {L : gw_L} {i : Nat} {v : Value} (h : L[i]? = some (some v)) : (i, gw_rv ρ v) ∈ gw_lv ρ L := by
  unfold gw_lv
  refine List.mem_filterMap.mpr ⟨i, List.mem_range.mpr ?_, ?_⟩
  · exact (List.getElem?_eq_some_iff.mp h).1
  · rw [h]
theorem gw_lv_of {ρ : Nat → Nat} {L : gw_L} {q : Nat × Value} (h : q ∈ gw_lv ρ L) : ∃ v, L[q.1]? = some (some v) ∧ q.2 = gw_rv ρ v := by
  unfold gw_lv at h
  obtain ⟨i, -, hi⟩ := List.mem_filterMap.mp h
  split at hi
  · rename_i v hv
    cases hi
    exact ⟨v, hv, rfl⟩
  · cases hi
theorem gw_LH.has {ρ : Nat → Nat} {ls : Array Slot} {nL : Nat} {L : gw_L} (h : gw_LH ρ ls nL L) : lv_has ls nL (gw_lv ρ L) := by
  refine ⟨h.1, h.2.1, fun q hq => ?_⟩
  obtain ⟨v, h1, h2⟩ := gw_lv_of hq
  rw [h2]
  exact h.2.2.2 _ _ h1
theorem gw_cut_len (L : gw_L) (i : Nat) : (gw_cut L i).length = L.length := by
  unfold gw_cut
  split
  · rfl
  · split
    · split <;> simp
    · rfl
theorem gw_cut_get {L : gw_L} {i j : Nat} {w : Value} (h : (gw_cut L i)[j]? = some (some w)) : L[j]? = some (some w) ∧ ¬ (j + 1 = i ∧ w.category = 2) := by
  unfold gw_cut at h
  split at h
  · exact ⟨h, fun q => by omega⟩
  · rename_i k
    split at h
    · rename_i v hv
      split at h
      · rename_i hc
        by_cases hjk : j = k
        · subst hjk
          rw [List.getElem?_set_self (List.getElem?_eq_some_iff.mp hv).1] at h
          cases h
        · rw [List.getElem?_set_ne (fun q => hjk q.symm)] at h
          exact ⟨h, fun q => hjk (by omega)⟩
      · rename_i hc
        refine ⟨h, fun q => ?_⟩
        have hjk : j = k := by omega
        subst hjk
        rw [hv] at h
        cases h
        exact hc q.2
    · rename_i hne
      refine ⟨h, fun q => ?_⟩
      have hjk : j = k := by omega
      subst hjk
      exact hne _ h
theorem gw_LH.st1 {ρ : Nat → Nat} {ls ls' : Array Slot} {nL i : Nat} {L L' : gw_L} {v : Value} (h : gw_LH ρ ls nL L) (hL : gw_st1 L i v = some L')
    (h' : lv_has ls' nL ((i, gw_rv ρ v) :: (gw_lv ρ L).filter (fun q => !(q.1 == i) && !(q.1 + 1 == i && q.2.category == 2)))) : gw_LH ρ ls' nL L' := by
  unfold gw_st1 at hL
  split at hL
  · rename_i hi
    cases hL
    refine ⟨h'.1, h'.2.1, by rw [List.length_set, gw_cut_len]; exact h.2.2.1, fun j w hj => ?_⟩
    by_cases hji : j = i
    · subst hji
      rw [List.getElem?_set_self (by rw [gw_cut_len]; exact hi)] at hj
      cases hj
      exact h'.2.2 _ List.mem_cons_self
    · rw [List.getElem?_set_ne (fun q => hji q.symm)] at hj
      obtain ⟨h1, h2⟩ := gw_cut_get hj
      refine h'.2.2 (j, gw_rv ρ w) (List.mem_cons_of_mem _ (List.mem_filter.mpr ⟨gw_lv_mem h1, ?_⟩))
      simp only [gw_rv_cat, Bool.and_eq_true, Bool.not_eq_true', beq_eq_false_iff_ne, ne_eq, Bool.and_eq_false_imp, beq_iff_eq]
      exact ⟨hji, fun q1 q2 => h2 ⟨q1, q2⟩⟩
  · cases hL
theorem gw_LH.st2 {ρ : Nat → Nat} {ls ls' : Array Slot} {nL i : Nat} {L L' : gw_L} {v : Value} (h : gw_LH ρ ls nL L) (hL : gw_st2 L i v = some L')
    (h' : lv_has ls' nL ((i, gw_rv ρ v) :: (gw_lv ρ L).filter (fun q => !(q.1 == i) && (!(q.1 == i + 1) && !(q.1 + 1 == i && q.2.category == 2))))) : gw_LH ρ ls' nL L' := by
  unfold gw_st2 at hL
  split at hL
  · rename_i hi
    cases hL
    refine ⟨h'.1, h'.2.1, by rw [List.length_set, List.length_set, gw_cut_len]; exact h.2.2.1, fun j w hj => ?_⟩
    by_cases hji1 : j = i + 1
    · subst hji1
      rw [List.getElem?_set_self (by rw [List.length_set, gw_cut_len]; exact hi)] at hj
      cases hj
    · rw [List.getElem?_set_ne (fun q => hji1 q.symm)] at hj
      by_cases hji : j = i
      · subst hji
        rw [List.getElem?_set_self (by rw [gw_cut_len]; omega)] at hj
        cases hj
        exact h'.2.2 _ List.mem_cons_self
      · rw [List.getElem?_set_ne (fun q => hji q.symm)] at hj
        obtain ⟨h1, h2⟩ := gw_cut_get hj
        refine h'.2.2 (j, gw_rv ρ w) (List.mem_cons_of_mem _ (List.mem_filter.mpr ⟨gw_lv_mem h1, ?_⟩))
        simp only [gw_rv_cat, Bool.and_eq_true, Bool.not_eq_true', beq_eq_false_iff_ne, ne_eq, Bool.and_eq_false_imp, beq_iff_eq]
        exact ⟨hji, hji1, fun q1 q2 => h2 ⟨q1, q2⟩⟩
  · cases hL
theorem gw_st1_get {L L' : gw_L} {i j : Nat} {v w : Value} (hL : gw_st1 L i v = some L') (h : L'[j]? = some (some w)) : w = v ∨ L[j]? = some (some w) := by
  unfold gw_st1 at hL
  split at hL
  · rename_i hi
    cases hL
    by_cases hji : j = i
    · subst hji
      rw [List.getElem?_set_self (by rw [gw_cut_len]; exact hi)] at h
      cases h
      exact Or.inl rfl
    · rw [List.getElem?_set_ne (fun q => hji q.symm)] at h
      exact Or.inr (gw_cut_get h).1
  · cases hL
theorem gw_st2_get {L L' : gw_L} {i j : Nat} {v w : Value} (hL : gw_st2 L i v = some L') (h : L'[j]? = some (some w)) : w = v ∨ L[j]? = some (some w) := by
  unfold gw_st2 at hL
  split at hL
  · rename_i hi
    cases hL
    by_cases hji1 : j = i + 1
    · subst hji1
      rw [List.getElem?_set_self (by rw [List.length_set, gw_cut_len]; exact hi)] at h
      cases h
    · rw [List.getElem?_set_ne (fun q => hji1 q.symm)] at h
      by_cases hji : j = i
      · subst hji
        rw [List.getElem?_set_self (by rw [gw_cut_len]; omega)] at h
        cases h
        exact Or.inl rfl
      · rw [List.getElem?_set_ne (fun q => hji q.symm)] at h
        exact Or.inr (gw_cut_get h).1
  · cases hL
theorem gw_st1_lt {L L' : gw_L} {i : Nat} {v : Value} (hL : gw_st1 L i v = some L') : i < L.length := by
  unfold gw_st1 at hL
  split at hL
  · assumption
  · cases hL
theorem gw_st2_lt {L L' : gw_L} {i : Nat} {v : Value} (hL : gw_st2 L i v = some L') : i + 1 < L.length := by
  unfold gw_st2 at hL
  split at hL
  · assumption
  · cases hL
theorem gw_okS_tl {n : Nat} {v : Value} {r : List Value} (h : gw_okS n (v :: r)) : gw_okS n r := fun w hw => h w (List.mem_cons_of_mem _ hw)
theorem gw_okS_hd {n : Nat} {v : Value} {r : List Value} (h : gw_okS n (v :: r)) : gw_ok n v := h v List.mem_cons_self
theorem gw_okS_c {n : Nat} {v : Value} {r : List Value} (h1 : gw_ok n v) (h : gw_okS n r) : gw_okS n (v :: r) := fun w hw => by
  rcases List.mem_cons.mp hw with rfl | hw
  · exact h1
  · exact h w hw
theorem gw_ok_i {n : Nat} {x : Int32} : gw_ok n (.int x) := fun a h => by cases h
theorem gw_ok_l {n : Nat} {x : Int64} : gw_ok n (.long x) := fun a h => by cases h
theorem gw_ok_mono {n n' : Nat} {v : Value} (hn : n ≤ n') (h : gw_ok n v) : gw_ok n' v := fun a ha => Nat.lt_of_lt_of_le (h a ha) hn
theorem gw_okS_mono {n n' : Nat} {st : List Value} (hn : n ≤ n') (h : gw_okS n st) : gw_okS n' st := fun v hv => gw_ok_mono hn (h v hv)
theorem gw_okL_mono {n n' : Nat} {L : gw_L} (hn : n ≤ n') (h : gw_okL n L) : gw_okL n' L := fun i v hv => gw_ok_mono hn (h i v hv)
theorem gw_okc_mono {n n' : Nat} {c : gw_C} (hn : n ≤ n') (h : gw_okc n c) : gw_okc n' c := by
  cases c with
  | inl x => trivial
  | inr x => exact gw_okS_mono hn h
theorem gw_i1_some {st : List Value} {k : Int32 → List Value → Option gw_S} {s : gw_S} (h : gw_i1 st k = some s) : ∃ x r, st = .int x :: r ∧ k x r = some s := by
  unfold gw_i1 at h
  split at h
  · exact ⟨_, _, rfl, h⟩
  · cases h
theorem gw_l1_some {st : List Value} {k : Int64 → List Value → Option gw_S} {s : gw_S} (h : gw_l1 st k = some s) : ∃ x r, st = .long x :: r ∧ k x r = some s := by
  unfold gw_l1 at h
  split at h
  · exact ⟨_, _, rfl, h⟩
  · cases h
theorem gw_r1_some {st : List Value} {k : Nat → List Value → Option gw_S} {s : gw_S} (h : gw_r1 st k = some s) : ∃ x r, st = .ref x :: r ∧ k x r = some s := by
  unfold gw_r1 at h
  split at h
  · exact ⟨_, _, rfl, h⟩
  · cases h
theorem gw_ii_some {st : List Value} {k : Int32 → Int32 → List Value → Option gw_S} {s : gw_S} (h : gw_ii st k = some s) : ∃ x y r, st = .int y :: .int x :: r ∧ k x y r = some s := by
  unfold gw_ii at h
  split at h
  · exact ⟨_, _, _, rfl, h⟩
  · cases h
theorem gw_ll_some {st : List Value} {k : Int64 → Int64 → List Value → Option gw_S} {s : gw_S} (h : gw_ll st k = some s) : ∃ x y r, st = .long y :: .long x :: r ∧ k x y r = some s := by
  unfold gw_ll at h
  split at h
  · exact ⟨_, _, _, rfl, h⟩
  · cases h
theorem gw_li_some {st : List Value} {k : Int64 → Int32 → List Value → Option gw_S} {s : gw_S} (h : gw_li st k = some s) : ∃ x y r, st = .int y :: .long x :: r ∧ k x y r = some s := by
  unfold gw_li at h
  split at h
  · exact ⟨_, _, _, rfl, h⟩
  · cases h
theorem gw_ri_some {st : List Value} {k : Nat → Int32 → List Value → Option gw_S} {s : gw_S} (h : gw_ri st k = some s) : ∃ a i r, st = .int i :: .ref a :: r ∧ k a i r = some s := by
  unfold gw_ri at h
  split at h
  · exact ⟨_, _, _, rfl, h⟩
  · cases h
theorem gw_rii_some {st : List Value} {k : Nat → Int32 → Int32 → List Value → Option gw_S} {s : gw_S} (h : gw_rii st k = some s) : ∃ a i x r, st = .int x :: .int i :: .ref a :: r ∧ k a i x r = some s := by
  unfold gw_rii at h
  split at h
  · exact ⟨_, _, _, _, rfl, h⟩
  · cases h
theorem gw_ldi_some {L : gw_L} {i : Nat} {k : Int32 → Option gw_S} {s : gw_S} (h : gw_ldi L i k = some s) : ∃ x, L[i]? = some (some (.int x)) ∧ k x = some s := by
  unfold gw_ldi at h
  split at h
  · rename_i x hx
    exact ⟨x, hx, h⟩
  · cases h
theorem gw_ldl_some {L : gw_L} {i : Nat} {k : Int64 → Option gw_S} {s : gw_S} (h : gw_ldl L i k = some s) : ∃ x, L[i]? = some (some (.long x)) ∧ k x = some s := by
  unfold gw_ldl at h
  split at h
  · rename_i x hx
    exact ⟨x, hx, h⟩
  · cases h
theorem gw_lda_some {L : gw_L} {i : Nat} {k : Nat → Option gw_S} {s : gw_S} (h : gw_lda L i k = some s) : ∃ x, L[i]? = some (some (.ref x)) ∧ k x = some s := by
  unfold gw_lda at h
  split at h
  · rename_i x hx
    exact ⟨x, hx, h⟩
  · cases h
theorem gw_obj_some {h : gw_H} {a ci : Nat} {k : List Value → Option gw_S} {s : gw_S} (hs : gw_obj h a ci k = some s) : ∃ fs, h.1 a = .inr (ci, fs) ∧ k fs = some s := by
  unfold gw_obj at hs
  split at hs
  · rename_i c fs hc
    split at hs
    · rename_i he
      subst he
      exact ⟨fs, hc, hs⟩
    · cases hs
  · cases hs
theorem gw_arr_some {h : gw_H} {a kd : Nat} {k : Nat → (Nat → Int32) → Option gw_S} {s : gw_S} (hs : gw_arr h a kd k = some s) : ∃ n f, h.1 a = .inl (kd, n, f) ∧ k n f = some s := by
  unfold gw_arr at hs
  split at hs
  · rename_i c n f hc
    split at hs
    · rename_i he
      subst he
      exact ⟨n, f, hc, hs⟩
    · cases hs
  · cases hs
theorem gw_fld_some {own idx : Nat} {k : Nat → Nat → Option gw_S} {s : gw_S} (hs : gw_fld own idx k = some s) : ∃ ci j v, gw_pool own idx = some (0, ci, j, v) ∧ k ci j = some s := by
  unfold gw_fld at hs
  split at hs
  · rename_i ci j v hp
    exact ⟨ci, j, v, hp, hs⟩
  · cases hs
