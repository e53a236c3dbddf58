/-! THE CLAIM OUT OF ONE WALK OF THE LAW'S BODY. Your part is whole_start (and what it stands on); all else here is the same for every law, but numbers. -/
def R_law : String := "GlassWiresLaw"
def lw_P (b : Addr) (xs : List Int32) (args : Array Value) (s : State) : Prop := args = #[.ref b] ∧ s.IntsAt b xs ∧ xs.length ≤ 2560 ∧ (Jvm.Cond.and given_1 narrow_1).before args s = true
def lw_Q (_ : Array Value) (s : State) (o : Outcome) (t : State) : Prop := o = .returned (some (.int 1)) ∧ Framed s o t [] 600000 7302250
def lw_Z (below : List Frame) (a : Array Value) (s : State) : State → Prop := fun t => ∃ o, t.status = .running ∧ Ended t below o ∧ lw_Q a s o t
/-- the law's own end, with 1 on the stack, nothing written that was there before, its room as the claim has it -/
theorem lw_ret {p : Program} {l : Launch} {e : Env} {s : State} {m : MethodId} {below : List Frame} {meth : Method} {c : Code} {b : Nat} (hx : p.tables.exec = Jvm.exec) (hb : c.code = code) (hr : meth.sig.returnType = ret) (hlocks : meth.locks = false) {pc : Nat} {H : Heap} {ls : Array Slot} (hdg : decode code pc = .ok (.ireturn, 1)) : W p l e room_1 s m #[Value.ref b] below meth c H [] 600000 7302250 (lw_Z below #[Value.ref b] s) (F0 m pc ls [.int 1]) := by
  intro T hT X
  obtain ⟨fs, hret, hrun, hended, hW, hframe⟩ := X.leave (v := some (.int 1)) (hlocks := hlocks) (fun h => by rw [hr] at h; cases h)
  have hmeth' : T.vm.method? m = some meth := X.method'
  refine ⟨T.setFrames fs, ?_, .returned (some (.int 1)), hrun, hended, rfl, ⟨_, rfl⟩, hW, hframe⟩
  jvm_step X.here [X.here.top, hx, hb, hdg, hmeth', hr, ret, narrow_b1]
  (try refine ⟨rfl, ?_⟩); (try refine ⟨rfl, ?_⟩)
  first | (intro acts; rw [hret _ acts rfl rfl rfl]) | rw [hret _ _ rfl rfl rfl]
  exact Steps.refl _
/-- what holds at the law's entry: the machine, the code, the tables' words (any of lw_tbl by 'hts w (by decide +kernel)'), the script of L ints xs at the cell b, what the Statement gives of the start (any of its parts by flat_of_before) -/
def lw_At (p : Program) (s : State) (m : MethodId) (meth : Method) (c : Code) (b L : Nat) (xs : Nat → Int32) : Prop :=
  p.tables.exec = Jvm.exec ∧ c.code = code ∧ meth.sig.returnType = ret ∧ c.maxLocals = 4 ∧ s.vm.findClass R_law = some m.cls ∧ (∀ w ∈ lw_tbl, w.before #[Value.ref b] s = true) ∧ va_X b L xs s s.heap ∧ b < s.heap.size ∧ meth.locks = false ∧ (Jvm.Cond.and given_1 narrow_1).before #[Value.ref b] s = true
theorem gw_fact_I {ci N : Nat} {C : String} {T : u_T} (h : vwCl[ci]? = some (C, T, N)) : Jvm.Cond.instantiable C N ∈ lw_tbl := by
  have hlt : ci < 13 := (List.getElem?_eq_some_iff.mp h).1
  obtain ⟨i, hi⟩ : ∃ i, (gw_pool 11 i).map (fun e => (e.1, e.2.1)) = some (2, ci) ∨ (gw_pool 13 i).map (fun e => (e.1, e.2.1)) = some (2, ci) := by
    have H : ∀ c, c < 13 → ([7, 16, 23, 30, 39, 48, 57, 64, 73, 82, 91, 10].any fun i => decide ((gw_pool 11 i).map (fun e => (e.1, e.2.1)) = some (2, c)) || decide ((gw_pool 13 i).map (fun e => (e.1, e.2.1)) = some (2, c))) = true := by decide +kernel
    have h1 := H ci hlt
    simp only [List.any_eq_true, Bool.or_eq_true, decide_eq_true_eq] at h1
    obtain ⟨i, -, hi⟩ := h1
    exact ⟨i, hi⟩
  have fin : ∀ c, (gw_pool c i).map (fun e => (e.1, e.2.1)) = some (2, ci) → Jvm.Cond.instantiable C N ∈ lw_tbl := by
    intro c hc
    obtain ⟨⟨e1, e2, e3, e4⟩, h1, h2⟩ := Option.map_eq_some_iff.mp hc
    simp only [Prod.mk.injEq] at h2
    obtain ⟨rfl, rfl⟩ := h2
    obtain ⟨C', T', N', q1, -, q3, -⟩ := gw_fact_P2 h1
    cases h.symm.trans q1
    exact q3
  rcases hi with hi | hi
  · exact fin _ hi
  · exact fin _ hi
def gw_rcL (L : Nat) (xs : Nat → Int32) (a : Nat) : Nat × (Nat → Int32) := match a with
  | 1 => (3, fun j => match j with | 0 => 1 | 1 => 0 | _ => 0)
  | 2 => (3, fun j => match j with | 0 => 900 | 1 => 9 | _ => 99)
  | 3 => (3, fun j => match j with | 0 => 700 | 1 => 3 | _ => 10)
  | 4 => (3, fun j => match j with | 0 => 99 | 1 => 99 | _ => 999)
  | _ => (L, xs)
def gw_h0 (L : Nat) (xs : Nat → Int32) (f : Nat → gw_C) : gw_H := (fun a => if a < 8 then .inl (0, gw_rcL L xs a) else f a, 8, 0)
theorem gw_lt3 {P : Nat → Prop} (h0 : P 0) (h1 : P 1) (h2 : P 2) : ∀ j, j < 3 → P j := fun j hj => by
  match j with
  | 0 => exact h0
  | 1 => exact h1
  | 2 => exact h2
/-- a static row of three ints, as the statement gives it -/
theorem gw_stat {args : Array Value} {s : State} {A : Nat → Prop} (n : String) (f : Nat → Int32) (hts : ∀ w ∈ lw_tbl, w.before args s = true) (hg : ∀ c ∈ flatC (Jvm.Cond.and given_1 narrow_1), c.before args s = true)
    (hw : Jvm.Cond.laysStatic "GlassWires$Palette" n "[I" ∈ lw_tbl) (hi : Jvm.Cond.initialized "GlassWires$Palette" ∈ lw_tbl)
    (harr : Jvm.Cond.arrayOf (.static "GlassWires$Palette" n "[I") .int ∈ flatC (Jvm.Cond.and given_1 narrow_1)) (hlen : Jvm.Cond.eq (.length (.static "GlassWires$Palette" n "[I")) (.int 3) ∈ flatC (Jvm.Cond.and given_1 narrow_1))
    (h0 : Jvm.Cond.eq (.elem (.static "GlassWires$Palette" n "[I") (.int 0)) (.int (f 0)) ∈ flatC (Jvm.Cond.and given_1 narrow_1)) (h1 : Jvm.Cond.eq (.elem (.static "GlassWires$Palette" n "[I") (.int 1)) (.int (f 1)) ∈ flatC (Jvm.Cond.and given_1 narrow_1)) (h2 : Jvm.Cond.eq (.elem (.static "GlassWires$Palette" n "[I") (.int 2)) (.int (f 2)) ∈ flatC (Jvm.Cond.and given_1 narrow_1))
    (hA : ∀ a : Nat, a < s.heap.size → ¬ A a) : ∃ t : Nat, va_T .int t 3 (fun j => .int (f j)) A s s.heap ∧ va_Z "GlassWires$Palette" n "[I" (.ref t) A s s.heap := by
  obtain ⟨t, q1, q2⟩ := va_Tof (N := 3) (f := fun j => .int (f j)) (A := A) (by decide) (hg _ harr) (va_eqv (hg _ hlen) rfl) (gw_lt3 (va_eqv (hg _ h0) rfl) (va_eqv (hg _ h1) rfl) (va_eqv (hg _ h2) rfl)) hA
  exact ⟨t, q2, va_Zof (hts _ hw) (hts _ hi) q1 hA⟩
theorem gw_arr0 {args : Array Value} {s : State} {ty : FieldType} (h : (Jvm.Cond.arrayClass ty).before args s = true) : ∃ cA, ArrOfT s cA ty ∧ s.vm.findClass ("[" ++ ty.toString) = some cA := by
  obtain ⟨cA, kA, comp, h1, h2, h3⟩ := Cond.arrayClass_spec h
  exact ⟨cA, fun n z => ⟨fun k h => (by cases h), kA, h2, comp, h3⟩, h1⟩
set_option maxRecDepth 100000 in
theorem gw_SR0 {p : Program} {s : State} {m : MethodId} {meth : Method} {c : Code} {b L : Nat} {xs : Nat → Int32} (C0 : lw_At p s m meth c b L xs) : ∃ (D : va_G) (ca : Nat → ClassId) (ro : Nat → Nat), gw_SR D ca s.heap.size ro (gw_rcL L xs) s ∧ ro 0 = b := by
  obtain ⟨hx, hb, hr, hml, hown, hts, hX, hbl, hlocks, hgv⟩ := C0
  have hg := flat_of_before _ hgv
  have hK : ∀ ci : Nat, ∃ (cC : ClassId) (iS : Nat → Nat), ∀ (C : String) (T : u_T) (N : Nat), vwCl[ci]? = some (C, T, N) → u_Kn s C T N cC iS := by
    intro ci
    cases hc : vwCl[ci]? with
    | none => exact ⟨0, fun _ => 0, fun C T N h => by cases h⟩
    | some q =>
      obtain ⟨C, T, N⟩ := q
      obtain ⟨cC, iS, h⟩ := u_known (ws := lw_tbl) hts (fun w hw => (List.mem_filter.mp ((gw_fact_C hc).1 w hw)).1) (hts _ (gw_fact_I hc))
      exact ⟨cC, iS, fun C' T' N' h' => by cases h'; exact h⟩
  obtain ⟨aI, aI1, aI2⟩ := gw_arr0 (hts _ gw_arw.1)
  obtain ⟨aZ, aZ1, aZ2⟩ := gw_arr0 (hts _ gw_arw.2)
  have hA : ∀ a : Nat, a < s.heap.size → ¬ gw_A s.heap.size a := fun a ha => by unfold gw_A; omega
  obtain ⟨t1, x1, z1⟩ := gw_stat (A := gw_A s.heap.size) "LEAST_TRAIT" (gw_rcL 0 (fun _ => 0) 1).2 hts hg (by decide +kernel) (by decide +kernel) (by decide +kernel) (by decide +kernel) (by decide +kernel) (by decide +kernel) (by decide +kernel) hA
  obtain ⟨t2, x2, z2⟩ := gw_stat (A := gw_A s.heap.size) "MOST_TRAIT" (gw_rcL 0 (fun _ => 0) 2).2 hts hg (by decide +kernel) (by decide +kernel) (by decide +kernel) (by decide +kernel) (by decide +kernel) (by decide +kernel) (by decide +kernel) hA
  obtain ⟨t3, x3, z3⟩ := gw_stat (A := gw_A s.heap.size) "FIRST_TRAIT" (gw_rcL 0 (fun _ => 0) 3).2 hts hg (by decide +kernel) (by decide +kernel) (by decide +kernel) (by decide +kernel) (by decide +kernel) (by decide +kernel) (by decide +kernel) hA
  obtain ⟨t4, x4, z4⟩ := gw_stat (A := gw_A s.heap.size) "MOST_RULE" (gw_rcL 0 (fun _ => 0) 4).2 hts hg (by decide +kernel) (by decide +kernel) (by decide +kernel) (by decide +kernel) (by decide +kernel) (by decide +kernel) (by decide +kernel) hA
  have x0 : va_T .int b L (fun j => .int (xs j)) (gw_A s.heap.size) s s.heap := by
    obtain ⟨scr, q1, q2, q3, q4, q5⟩ := hX
    exact ⟨scr, q1, q2, q3, Nat.le_of_eq q4.symm, (by rw [q4] <;> rfl), q5, hA b hbl⟩
  refine ⟨(fun ci => Classical.choose (hK ci), fun ci => Classical.choose (Classical.choose_spec (hK ci))), (fun k => if k = 0 then aI else aZ), (fun a => match a with | 1 => t1 | 2 => t2 | 3 => t3 | 4 => t4 | _ => b), ⟨⟨fun ci q hq => ?_, fun k q hq => ?_⟩, fun a ha => ?_, fun j hj1 hj2 => ?_, Nat.le_refl _, fun a i y hy => va_Nw.of rfl (hts _ hy)⟩, rfl⟩
  · exact Classical.choose_spec (Classical.choose_spec (hK ci)) q.1 q.2.1 q.2.2 hq
  · match k with
    | 0 => cases hq; exact ⟨aI1, aI2⟩
    | 1 => cases hq; exact ⟨aZ1, aZ2⟩
    | k + 2 => cases hq
  · match a, ha with
    | 0, _ => exact x0
    | 1, _ => exact x1
    | 2, _ => exact x2
    | 3, _ => exact x3
    | 4, _ => exact x4
    | 5, _ => exact x0
    | 6, _ => exact x0
    | 7, _ => exact x0
  · match j, hj1, hj2 with
    | 1, _, _ => exact z1
    | 2, _, _ => exact z2
    | 3, _, _ => exact z3
    | 4, _, _ => exact z4
theorem gw_lawM : ∃ k, gw_mi gw_LAW = some (13, ⟨"GlassWiresLaw", "law", "([I)Z"⟩, code, 4, some .boolean, 1, 1, k, gk_309) := ⟨_, rfl⟩
/-- the law's walk out of a run of the interpreter -/
theorem gw_law {p : Program} {e : Env} {s : State} {m : MethodId} {below : List Frame} {meth : Method} {c : Code} (l : Launch) {b L : Nat} {xs : Nat → Int32} (C0 : lw_At p s m meth c b L xs) {h' : gw_H} {f : Nat → gw_C} (hEv : Ev 40 gw_LAW 0 [some (.ref 0), none, none, none] [] (gw_h0 L xs f) (some (.int 1), h')) (hc : h'.2.1 ≤ 600000) (hz : h'.2.2 ≤ 7302250) :
    W p l e room_1 s m #[Value.ref b] below meth c s.heap [] 0 0 (lw_Z below #[Value.ref b] s) (entryFrame m ([Value.ref b] : List Value).toArray 4) := by
  obtain ⟨D, ca, ro, hSR, hro⟩ := gw_SR0 C0
  obtain ⟨hx, hb, hr, hml, hown, hts, hX, hbl, hlocks, hgv⟩ := C0
  obtain ⟨k, hM⟩ := gw_lawM
  obtain ⟨n, hn⟩ := hEv
  rw [lg_entry_eq]
  have he := lv_entry ([Value.ref b]) (n := 4) (Nat.le_of_ble_eq_true rfl)
  have hHR : gw_HR D ca s.heap.size ro (gw_rcL L xs) (gw_h0 L xs f) s.heap := ⟨Nat.le_refl _, rfl, fun a h1 h2 => absurd h2 (by show ¬ a < 8; omega), fun a ha => if_pos ha⟩
  refine gw_walks l D ca s.heap.size ro (gw_rcL L xs) n 40 gw_LAW 0 _ [] _ _ hn _ hM p e room_1 s m #[Value.ref b] below meth c s.heap [] 0 0 _ _ 8 0 ⟨hx, hb, hml, hown, fun w hw => hts w (List.mem_filter.mp hw).1, (fun h => by cases h), hSR⟩ ⟨⟨he.1, he.2.1, rfl, fun i v hv => ?_⟩, hHR, va_S.rf, (fun v hv => by cases hv), fun i v hv => ?_, rfl, rfl⟩ (by decide) (by decide) (by show h'.2.1 ≤ 8 + 600000; omega) (by show h'.2.2 ≤ 0 + 7302250; omega) ?_
  · match i with
    | 0 =>
      cases hv
      have hg : gw_rv (gw_rho s.heap.size ro) (.ref 0) = .ref b := by show Value.ref (gw_rho s.heap.size ro 0) = _; rw [gw_rho_lo (by omega), hro]
      rw [hg]
      rfl
    | 1 => cases hv
    | 2 => cases hv
    | 3 => cases hv
    | i + 4 => cases hv
  · match i with
    | 0 => cases hv; intro a ha; cases ha; exact Nat.lt_of_lt_of_le (by decide) (Nat.le_refl 8)
    | 1 => cases hv
    | 2 => cases hv
    | 3 => cases hv
    | i + 4 => cases hv
  · intro pc' len I st' ls' H' locs' hd hlen hrt hHR' hS'
    dsimp only [gw_rtv] at hrt
    split at hrt
    · rename_i h9; cases h9
    · split at hrt
      · cases hrt
        have hl := gw_len_of 0 hlen rfl
        subst hl
        refine va_forget (fun q hq => hS'.2.2 q hq) ?_
        refine W.widen (k := 600000) (n := 7302250) (by show h'.2.1 - 8 ≤ 600000; omega) (by show h'.2.2 - 0 ≤ 7302250; omega) ?_
        exact lw_ret hx hb hr hlocks hd
      · cases hrt
    · rename_i h9; cases h9
    · rename_i h9; cases h9
    · cases hrt
