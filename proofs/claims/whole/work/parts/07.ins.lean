theorem gw_lsw_off {pc : Nat} {df x : Int} {l : List (Int × Int)} (t1 : 0 ≤ (pc : Int) + df) (t2 : ∀ q ∈ l, 0 ≤ (pc : Int) + q.2) : 0 ≤ (pc : Int) + Op.lookupswitch.offset l df x := by
  induction l with
  | nil => exact t1
  | cons q l ih =>
    obtain ⟨a, b⟩ := q
    rw [lookupswitch.offset_cons]
    split
    · exact t2 _ List.mem_cons_self
    · exact ih fun q hq => t2 q (List.mem_cons_of_mem _ hq)
theorem gw_fit_rv {ρ : Nat → Nat} {t : FieldType} {v : Value} : gw_fit t (gw_rv ρ v) = gw_fit t v := by cases t <;> cases v <;> rfl
theorem gw_cn_t : ∀ c, c < 13 → (vwCl[c]?).map (fun q => q.1) = gw_cn[c]? := by decide +kernel
theorem gw_cn_n : ∀ c, c < 13 → (vwCl[c]?).map (fun q => decide (q.2.2 ≤ 44)) = some true := by decide +kernel
def gw_tyk (t : FieldType) : Bool := match t with
  | .int => true
  | .object _ => true
  | .array _ => true
  | _ => false
theorem gw_ty_t : ∀ c, c < 13 → ∀ k, k < 44 → gw_tyk (gw_ty c k) = true := by decide +kernel
theorem gw_cn_cl {C : String} {T : u_T} {N : Nat} (c0 : Nat) (h : vwCl[c0]? = some (C, T, N)) : gw_cnm c0 = C := by
  have hlt : c0 < 13 := (List.getElem?_eq_some_iff.mp h).1
  have h1 := gw_cn_t c0 hlt
  rw [h] at h1
  unfold gw_cnm
  rw [← h1]
  rfl
theorem gw_dv_def {ci k N : Nat} {C : String} {T : u_T} {ρ : Nat → Nat} (h : parseFieldDescriptor (T k).2.2.1 = some (gw_ty ci k)) (hc : vwCl[ci]? = some (C, T, N)) (hk : k < N) : defaultValue (gw_ty ci k) = gw_rv ρ (gw_dv (gw_ty ci k)) := by
  have hlt : ci < 13 := (List.getElem?_eq_some_iff.mp hc).1
  have h1 := gw_cn_n ci hlt
  rw [hc] at h1
  have h2 : N ≤ 44 := of_decide_eq_true (Option.some.inj h1)
  have h3 := gw_ty_t ci hlt k (by omega)
  revert h3
  cases gw_ty ci k <;> simp [gw_tyk, defaultValue, gw_dv, gw_rv]
theorem gw_fact_P0 {c i ci k : Nat} {v : Int64} (h : gw_pool c i = some (0, ci, k, v)) : ∃ C T N, vwCl[ci]? = some (C, T, N) ∧ k < N ∧ (T k).1 = C ∧ Jvm.Cond.fieldLink (gw_cnm c) i C (T k).2.1 (T k).2.2.1 ∈ lw_tbl := by
  obtain ⟨ix, hP⟩ := gw_fact_P h
  have hP : (match vwCl[ci]? with
    | some (C, T, N) => decide (k < N) && decide ((T k).1 = C) && gw_ti ix.1 (Jvm.Cond.fieldLink (gw_cnm c) i C (T k).2.1 (T k).2.2.1)
    | none => false) = true := hP
  split at hP
  · rename_i C T N hc
    simp only [Bool.and_eq_true, decide_eq_true_eq] at hP
    exact ⟨C, T, N, hc, hP.1.1, hP.1.2, gw_ti_in hP.2⟩
  · cases hP
theorem gw_fact_P2 {c i ci k : Nat} {v : Int64} (h : gw_pool c i = some (2, ci, k, v)) : ∃ C T N, vwCl[ci]? = some (C, T, N) ∧ Jvm.Cond.classLink (gw_cnm c) i C ∈ lw_tbl ∧ Jvm.Cond.instantiable C N ∈ lw_tbl ∧ Jvm.Cond.initialized C ∈ lw_tbl := by
  obtain ⟨ix, hP⟩ := gw_fact_P h
  have hP : (match vwCl[ci]? with
    | some (C, _, N) => gw_ti ix.1 (Jvm.Cond.classLink (gw_cnm c) i C) && gw_ti ix.2.1 (Jvm.Cond.instantiable C N) && gw_ti ix.2.2 (Jvm.Cond.initialized C)
    | none => false) = true := hP
  split at hP
  · rename_i C T N hc
    simp only [Bool.and_eq_true] at hP
    exact ⟨C, T, N, hc, gw_ti_in hP.1.1, gw_ti_in hP.1.2, gw_ti_in hP.2⟩
  · cases hP
theorem gw_obi : Jvm.Cond.instanceMethod objectInit ∈ lw_tbl ∧ Jvm.Cond.code objectInit ⟨#[0xb1]⟩ 1 none ∈ lw_tbl := by decide +kernel
theorem gw_arw : Jvm.Cond.arrayClass .int ∈ lw_tbl ∧ Jvm.Cond.arrayClass .boolean ∈ lw_tbl := by decide +kernel
/-! each instruction's step, over the machine -/
def gw_Cx (D : va_G) (ca : Nat → ClassId) (z0 : Nat) (ro : Nat → Nat) (rc : Nat → Nat × (Nat → Int32)) (M : gw_M) (p : Program) (s : State) (mm : MethodId) (args : Array Value) (meth : Method) (c : Code) : Prop :=
  p.tables.exec = Jvm.exec ∧ c.code = M.2.2.1 ∧ c.maxLocals = M.2.2.2.1 ∧ s.vm.findClass (gw_cnm M.1) = some mm.cls ∧ (∀ w ∈ gw_tb, w.before args s = true) ∧ (M.2.2.2.2.2.2.1 = 2 → meth.name = "<init>") ∧ gw_SR D ca z0 ro rc s
def gw_Dy (D : va_G) (ca : Nat → ClassId) (z0 : Nat) (ro : Nat → Nat) (rc : Nat → Nat × (Nat → Int32)) (nL nb zb : Nat) (s : State) (L : gw_L) (st : List Value) (h : gw_H) (ls : Array Slot) (H : Heap) (locs : List Loc) (cells slots : Nat) : Prop :=
  gw_LH (gw_rho z0 ro) ls nL L ∧ gw_HR D ca z0 ro rc h H ∧ va_S (gw_A z0) s.heap H locs ∧ gw_okS h.2.1 st ∧ gw_okL h.2.1 L ∧ cells + nb = h.2.1 ∧ slots + zb = h.2.2
theorem gw_len_of {i : Instr} {len : Nat} (k : Nat) (h : gw_len i = 0 ∨ gw_len i = len) (hk : gw_len i = k + 1) : len = k + 1 := by omega
theorem gw_P1 {D : va_G} {cl : List vw_C} {q : Nat × va_E} {H : Heap} (h : va_at D cl q H) : va_P D cl [q] H := fun k x hx => by
  have hz : k < 1 := (List.getElem?_eq_some_iff.mp hx).1
  rw [show k = 0 by omega] at hx
  cases hx
  exact h
theorem gw_rho_hi {z0 : Nat} {ro : Nat → Nat} {a : Nat} (h : 8 ≤ a) : gw_rho z0 ro a = z0 + (a - 8) := if_neg (by omega)
theorem gw_rho_lo {z0 : Nat} {ro : Nat → Nat} {a : Nat} (h : a < 8) : gw_rho z0 ro a = ro a := if_pos h
section INS
variable {D : va_G} {ca : Nat → ClassId} {z0 : Nat} {ro : Nat → Nat} {rc : Nat → Nat × (Nat → Int32)} {M : gw_M} {nb zb : Nat}
variable {p : Program} {l : Launch} {e : Env} {R : Room} {s : State} {mm : MethodId} {args : Array Value} {below : List Frame} {meth : Method} {c : Code} {H : Heap} {locs : List Loc} {cells slots : Nat} {Q : State → Prop} {ls : Array Slot}
/-- a field is written: what else there is stays -/
theorem gw_put (cx : gw_Cx D ca z0 ro rc M p s mm args meth c) {pc idx ci k N a : Nat} {C : String} {T : u_T} {fs rest : List Value} {v : Value} (hd : decode M.2.2.1 pc = .ok (.putfield idx, 3)) (hc : vwCl[ci]? = some (C, T, N)) (hk : k < N) (hC : (T k).1 = C) (hlink : Jvm.Cond.fieldLink (gw_cnm M.1) idx C (T k).2.1 (T k).2.2.1 ∈ lw_tbl)
    (hat : va_at D vwCl (a, .inr (ci, fs)) H) (hl : k < fs.length) (hfit : gw_fit (gw_ty ci k) v = true) (hfin : (T k).2.2.2 = true → M.2.2.2.2.2.2.1 = 2 ∧ gw_cnm M.1 = C)
    (kk : ∀ (H' : Heap) (q : Loc), q.base = a → va_at D vwCl (a, .inr (ci, fs.set k v)) H' → H'.size = H.size → (∀ x : Nat, x ≠ a → H'[x]? = H[x]?) → W p l e R s mm args below meth c H' (locs ++ [q]) cells slots Q (F0 mm (pc + 3) ls rest)) :
    W p l e R s mm args below meth c H locs cells slots Q (F0 mm pc ls (v :: .ref a :: rest)) := by
  obtain ⟨hx, hb, hml, hown, hts, hinit, hK, hX, hZ, hz, -⟩ := cx
  obtain ⟨hin, hty, hnm⟩ := gw_fact_C hc
  have hd0 := hty k hk
  have hn : narrow (gw_ty ci k) v = v ∧ fits (gw_ty ci k) v = true := by
    revert hfit
    cases gw_ty ci k <;> cases v <;> simp [gw_fit, narrow, fits]
  have hap := va_apart (own := gw_cnm M.1) hts hin (gw_ty ci) hty hnm hK hc
  obtain ⟨r, h1, cell, q1, q2, q3, q4⟩ := hat
  have hr : r = (C, T, N) := Option.some.inj (h1.symm.trans hc)
  subst hr
  obtain ⟨hS, hfc, kC, hkC, hkind⟩ := hK.1 ci _ hc
  obtain ⟨cf, kf, fi, f, hi, hsl⟩ := hS k hk
  have hlay := hts _ (hin _ (u_in_lay hk))
  unfold u_lay at hlay
  have hst := (u_facts hfc hkC (u_lays hts hin hk) hi).1
  have hlk := hts _ (gw_tb_in hlink rfl)
  have new : ∀ H' : Heap, H'[a]? = some (cell.setSlot (D.2 ci k) v) → va_at D vwCl (a, .inr (ci, fs.set k v)) H' := fun H' e1 => ⟨_, hc, t_OB.to (V := updV (vp_V fs) k v) ⟨_, e1, q2, q3, t_set q4 hap hk v⟩ (fun j _ => vp_updV_set hl v j)⟩
  by_cases hf : (T k).2.2.2 = true
  · rw [if_pos hf] at hlay
    obtain ⟨f1, f2⟩ := hfin hf
    have hcf : mm.cls = cf := by
      obtain ⟨_, _, c', _, _, _, -, -, hf', -, -, -, hown2, -⟩ := Cond.laysFinal_spec hlay
      have e1 : c' = cf := by have := hi.symm.trans hf'; simp at this; exact this.1.symm
      rw [hC, ← f2] at hown2
      rw [← e1]; exact Option.some.inj (hown.symm.trans hown2)
    have h6 := u_fits hfc hkC hkind (Or.inr hlay) hi hd0 hn.1 hn.2
    refine W.putFinK hx hb hown hlk (by rw [← hC]; exact hi) hst hcf (hinit f1) (by rw [q2]; exact h6) q1 q3 (by rw [hsl]; exact k2_hasslot (q4 k hk)) rfl rfl hd fun H' e1 e2 e3 => ?_
    rw [hsl] at e1
    exact kk H' _ rfl (new H' e1) e2 e3
  · rw [if_neg hf] at hlay
    have h6 := u_store hfc hkC hkind hlay hi hd0 hn.1 hn.2
    refine W.putK hx hb (f := f) ⟨hown, hlk, ⟨_, _, _, by rw [← hC]; exact hi⟩, hst⟩ (by rw [q2]; exact h6) q1 q3 (by rw [hsl]; exact k2_hasslot (q4 k hk)) rfl rfl hd fun H' e1 e2 e3 => ?_
    rw [hsl] at e1
    exact kk H' _ rfl (new H' e1) e2 e3
/-- the heap relation behind a write of one cell -/
theorem gw_HR.put {h : gw_H} {H' : Heap} {a : Nat} {x : gw_C} (hh : gw_HR D ca z0 ro rc h H) (ha : 8 ≤ a) (hx : gw_okc h.2.1 x) (hn : va_at D vwCl (z0 + (a - 8), gw_rc (gw_rho z0 ro) ca x) H') (hz : H'.size = H.size) (ho : ∀ q : Nat, q ≠ z0 + (a - 8) → H'[q]? = H[q]?) : gw_HR D ca z0 ro rc (gw_set h a x) H' := by
  obtain ⟨h1, h2, h3, h4⟩ := hh
  refine ⟨h1, hz.trans h2, fun q hq1 hq2 => ?_, fun q hq => ?_⟩
  · show va_at D vwCl (z0 + (q - 8), gw_rc (gw_rho z0 ro) ca (if q = a then x else h.1 q)) H' ∧ gw_okc h.2.1 (if q = a then x else h.1 q)
    by_cases hqa : q = a
    · rw [if_pos hqa]
      subst hqa
      exact ⟨hn, hx⟩
    · rw [if_neg hqa]
      exact ⟨(h3 q hq1 hq2).1.kept (ho _ (show z0 + (q - 8) ≠ z0 + (a - 8) by omega)), (h3 q hq1 hq2).2⟩
  · show (if q = a then x else h.1 q) = _
    rw [if_neg (by omega)]
    exact h4 q hq
/-- the heap relation behind a new cell -/
theorem gw_HR.new {h : gw_H} {H' : Heap} {x : gw_C} {n : Nat} (hh : gw_HR D ca z0 ro rc h H) (hx : gw_okc (h.2.1 + 1) x) (hn : va_at D vwCl (H.size, gw_rc (gw_rho z0 ro) ca x) H') (hz : H'.size = H.size + 1) (ho : ∀ q : Nat, q < H.size → H'[q]? = H[q]?) : gw_HR D ca z0 ro rc (gw_new h x n) H' := by
  obtain ⟨h1, h2, h3, h4⟩ := hh
  refine ⟨Nat.le_succ_of_le h1, by show H'.size = z0 + (h.2.1 + 1 - 8); omega, fun q hq1 hq2 => ?_, fun q hq => ?_⟩
  · show va_at D vwCl (z0 + (q - 8), gw_rc (gw_rho z0 ro) ca (if q = h.2.1 then x else h.1 q)) H' ∧ gw_okc (h.2.1 + 1) (if q = h.2.1 then x else h.1 q)
    by_cases hqa : q = h.2.1
    · rw [if_pos hqa]
      subst hqa
      rw [h2] at hn
      exact ⟨hn, hx⟩
    · have hlt : q < h.2.1 := by have : q < h.2.1 + 1 := hq2; omega
      rw [if_neg hqa]
      exact ⟨(h3 q hq1 hlt).1.kept (ho _ (h3 q hq1 hlt).1.lt), gw_okc_mono (Nat.le_succ _) (h3 q hq1 hlt).2⟩
  · show (if q = h.2.1 then x else h.1 q) = _
    rw [if_neg (by omega)]
    exact h4 q hq
theorem gw_S_put {H' : Heap} {q : Loc} {a : Nat} (hS : va_S (gw_A z0) s.heap H locs) (hq : q.base = z0 + a) (hz : H'.size = H.size) (ho : ∀ x : Nat, x ≠ z0 + a → H'[x]? = H[x]?) : va_S (gw_A z0) s.heap H' (locs ++ [q]) := by
  obtain ⟨h1, h2, h3⟩ := hS
  refine ⟨by omega, fun x hx1 hx2 => ?_, fun y hy => ?_⟩
  · rw [ho x (fun e => hx2 (by rw [e]; exact Nat.le_add_right _ _))]
    exact h2 x hx1 hx2
  · rcases List.mem_append.mp hy with h | h
    · exact h3 y h
    · rw [List.mem_singleton.mp h, hq]
      exact Nat.le_add_right _ _
theorem gw_S_new {H' : Heap} (hS : va_S (gw_A z0) s.heap H locs) (hz : H'.size = H.size + 1) (ho : ∀ x : Nat, x < H.size → H'[x]? = H[x]?) : va_S (gw_A z0) s.heap H' locs := by
  obtain ⟨h1, h2, h3⟩ := hS
  exact ⟨by omega, fun x hx1 hx2 => (ho x (by omega)).trans (h2 x hx1 hx2), h3⟩
theorem gw_dv_ok {n : Nat} {l : List Nat} {f : Nat → FieldType} : gw_okS n (l.map fun k => gw_dv (f k)) := by
  intro v hv
  obtain ⟨k, -, rfl⟩ := List.mem_map.mp hv
  intro a ha
  unfold gw_dv at ha
  split at ha <;> cases ha
set_option maxHeartbeats 4000000 in
theorem gs_iload_n (cx : gw_Cx D ca z0 ro rc M p s mm args meth c) {pc len t : Nat} {k : Fin 4} {cs : Int32} (hd : decode M.2.2.1 pc = .ok (.iload_n k, len)) (hlen : gw_len (.iload_n k) = 0 ∨ gw_len (.iload_n k) = len) (hT : gw_okT M.1 pc (.iload_n k) t cs = true) {L : gw_L} {st : List Value} {h : gw_H} {s' : gw_S} (hs : gw_ins M.1 M.2.2.2.2.2.2.1 (.iload_n k) t cs pc L st h = some s')
    (d : gw_Dy D ca z0 ro rc M.2.2.2.1 nb zb s L st h ls H locs cells slots) (hfr : 1 ≤ R.frames ∧ 64 ≤ R.locals) (hrc : s'.2.2.2.2.1 ≤ nb + R.cells) (hrs : s'.2.2.2.2.2 ≤ zb + R.slots)
    (kk : ∀ (ls' : Array Slot) (H' : Heap) (locs' : List Loc) (cells' slots' : Nat), gw_Dy D ca z0 ro rc M.2.2.2.1 nb zb s s'.2.1 s'.2.2.1 s'.2.2.2 ls' H' locs' cells' slots' → W p l e R s mm args below meth c H' locs' cells' slots' Q (F0 mm s'.1 ls' (s'.2.2.1.map (gw_rv (gw_rho z0 ro))))) :
    W p l e R s mm args below meth c H locs cells slots Q (F0 mm pc ls (st.map (gw_rv (gw_rho z0 ro)))) := by
  obtain ⟨hx, hb, hml, hown, hts, hinit, hSR⟩ := cx
  obtain ⟨d1, d2, d3, d4, d5, d6, d7⟩ := d
  have hl := gw_len_of 0 hlen rfl
  subst hl
  obtain ⟨x, hv, hs⟩ := gw_ldi_some hs
  cases hs
  exact lv_iload_n hx hb hd rfl (d1.2.2.2 _ _ hv) (kk _ _ _ _ _ ⟨d1, d2, d3, gw_okS_c gw_ok_i d4, d5, d6, d7⟩)
set_option maxHeartbeats 4000000 in
theorem gs_iload (cx : gw_Cx D ca z0 ro rc M p s mm args meth c) {pc len t : Nat} {k : Nat} {cs : Int32} (hd : decode M.2.2.1 pc = .ok (.iload k, len)) (hlen : gw_len (.iload k) = 0 ∨ gw_len (.iload k) = len) (hT : gw_okT M.1 pc (.iload k) t cs = true) {L : gw_L} {st : List Value} {h : gw_H} {s' : gw_S} (hs : gw_ins M.1 M.2.2.2.2.2.2.1 (.iload k) t cs pc L st h = some s')
    (d : gw_Dy D ca z0 ro rc M.2.2.2.1 nb zb s L st h ls H locs cells slots) (hfr : 1 ≤ R.frames ∧ 64 ≤ R.locals) (hrc : s'.2.2.2.2.1 ≤ nb + R.cells) (hrs : s'.2.2.2.2.2 ≤ zb + R.slots)
    (kk : ∀ (ls' : Array Slot) (H' : Heap) (locs' : List Loc) (cells' slots' : Nat), gw_Dy D ca z0 ro rc M.2.2.2.1 nb zb s s'.2.1 s'.2.2.1 s'.2.2.2 ls' H' locs' cells' slots' → W p l e R s mm args below meth c H' locs' cells' slots' Q (F0 mm s'.1 ls' (s'.2.2.1.map (gw_rv (gw_rho z0 ro))))) :
    W p l e R s mm args below meth c H locs cells slots Q (F0 mm pc ls (st.map (gw_rv (gw_rho z0 ro)))) := by
  obtain ⟨hx, hb, hml, hown, hts, hinit, hSR⟩ := cx
  obtain ⟨d1, d2, d3, d4, d5, d6, d7⟩ := d
  have hl := gw_len_of 1 hlen rfl
  subst hl
  obtain ⟨x, hv, hs⟩ := gw_ldi_some hs
  cases hs
  exact lv_iload hx hb hd (d1.2.2.2 _ _ hv) (kk _ _ _ _ _ ⟨d1, d2, d3, gw_okS_c gw_ok_i d4, d5, d6, d7⟩)
set_option maxHeartbeats 4000000 in
theorem gs_lload_n (cx : gw_Cx D ca z0 ro rc M p s mm args meth c) {pc len t : Nat} {k : Fin 4} {cs : Int32} (hd : decode M.2.2.1 pc = .ok (.lload_n k, len)) (hlen : gw_len (.lload_n k) = 0 ∨ gw_len (.lload_n k) = len) (hT : gw_okT M.1 pc (.lload_n k) t cs = true) {L : gw_L} {st : List Value} {h : gw_H} {s' : gw_S} (hs : gw_ins M.1 M.2.2.2.2.2.2.1 (.lload_n k) t cs pc L st h = some s')
    (d : gw_Dy D ca z0 ro rc M.2.2.2.1 nb zb s L st h ls H locs cells slots) (hfr : 1 ≤ R.frames ∧ 64 ≤ R.locals) (hrc : s'.2.2.2.2.1 ≤ nb + R.cells) (hrs : s'.2.2.2.2.2 ≤ zb + R.slots)
    (kk : ∀ (ls' : Array Slot) (H' : Heap) (locs' : List Loc) (cells' slots' : Nat), gw_Dy D ca z0 ro rc M.2.2.2.1 nb zb s s'.2.1 s'.2.2.1 s'.2.2.2 ls' H' locs' cells' slots' → W p l e R s mm args below meth c H' locs' cells' slots' Q (F0 mm s'.1 ls' (s'.2.2.1.map (gw_rv (gw_rho z0 ro))))) :
    W p l e R s mm args below meth c H locs cells slots Q (F0 mm pc ls (st.map (gw_rv (gw_rho z0 ro)))) := by
  obtain ⟨hx, hb, hml, hown, hts, hinit, hSR⟩ := cx
  obtain ⟨d1, d2, d3, d4, d5, d6, d7⟩ := d
  have hl := gw_len_of 0 hlen rfl
  subst hl
  obtain ⟨x, hv, hs⟩ := gw_ldl_some hs
  cases hs
  exact lv_lload_n hx hb hd rfl (d1.2.2.2 _ _ hv) (kk _ _ _ _ _ ⟨d1, d2, d3, gw_okS_c gw_ok_l d4, d5, d6, d7⟩)
set_option maxHeartbeats 4000000 in
theorem gs_lload (cx : gw_Cx D ca z0 ro rc M p s mm args meth c) {pc len t : Nat} {k : Nat} {cs : Int32} (hd : decode M.2.2.1 pc = .ok (.lload k, len)) (hlen : gw_len (.lload k) = 0 ∨ gw_len (.lload k) = len) (hT : gw_okT M.1 pc (.lload k) t cs = true) {L : gw_L} {st : List Value} {h : gw_H} {s' : gw_S} (hs : gw_ins M.1 M.2.2.2.2.2.2.1 (.lload k) t cs pc L st h = some s')
    (d : gw_Dy D ca z0 ro rc M.2.2.2.1 nb zb s L st h ls H locs cells slots) (hfr : 1 ≤ R.frames ∧ 64 ≤ R.locals) (hrc : s'.2.2.2.2.1 ≤ nb + R.cells) (hrs : s'.2.2.2.2.2 ≤ zb + R.slots)
    (kk : ∀ (ls' : Array Slot) (H' : Heap) (locs' : List Loc) (cells' slots' : Nat), gw_Dy D ca z0 ro rc M.2.2.2.1 nb zb s s'.2.1 s'.2.2.1 s'.2.2.2 ls' H' locs' cells' slots' → W p l e R s mm args below meth c H' locs' cells' slots' Q (F0 mm s'.1 ls' (s'.2.2.1.map (gw_rv (gw_rho z0 ro))))) :
    W p l e R s mm args below meth c H locs cells slots Q (F0 mm pc ls (st.map (gw_rv (gw_rho z0 ro)))) := by
  obtain ⟨hx, hb, hml, hown, hts, hinit, hSR⟩ := cx
  obtain ⟨d1, d2, d3, d4, d5, d6, d7⟩ := d
  have hl := gw_len_of 1 hlen rfl
  subst hl
  obtain ⟨x, hv, hs⟩ := gw_ldl_some hs
  cases hs
  exact lv_lload hx hb hd (d1.2.2.2 _ _ hv) (kk _ _ _ _ _ ⟨d1, d2, d3, gw_okS_c gw_ok_l d4, d5, d6, d7⟩)
set_option maxHeartbeats 4000000 in
theorem gs_aload_n (cx : gw_Cx D ca z0 ro rc M p s mm args meth c) {pc len t : Nat} {k : Fin 4} {cs : Int32} (hd : decode M.2.2.1 pc = .ok (.aload_n k, len)) (hlen : gw_len (.aload_n k) = 0 ∨ gw_len (.aload_n k) = len) (hT : gw_okT M.1 pc (.aload_n k) t cs = true) {L : gw_L} {st : List Value} {h : gw_H} {s' : gw_S} (hs : gw_ins M.1 M.2.2.2.2.2.2.1 (.aload_n k) t cs pc L st h = some s')
    (d : gw_Dy D ca z0 ro rc M.2.2.2.1 nb zb s L st h ls H locs cells slots) (hfr : 1 ≤ R.frames ∧ 64 ≤ R.locals) (hrc : s'.2.2.2.2.1 ≤ nb + R.cells) (hrs : s'.2.2.2.2.2 ≤ zb + R.slots)
    (kk : ∀ (ls' : Array Slot) (H' : Heap) (locs' : List Loc) (cells' slots' : Nat), gw_Dy D ca z0 ro rc M.2.2.2.1 nb zb s s'.2.1 s'.2.2.1 s'.2.2.2 ls' H' locs' cells' slots' → W p l e R s mm args below meth c H' locs' cells' slots' Q (F0 mm s'.1 ls' (s'.2.2.1.map (gw_rv (gw_rho z0 ro))))) :
    W p l e R s mm args below meth c H locs cells slots Q (F0 mm pc ls (st.map (gw_rv (gw_rho z0 ro)))) := by
  obtain ⟨hx, hb, hml, hown, hts, hinit, hSR⟩ := cx
  obtain ⟨d1, d2, d3, d4, d5, d6, d7⟩ := d
  have hl := gw_len_of 0 hlen rfl
  subst hl
  obtain ⟨x, hv, hs⟩ := gw_lda_some hs
  cases hs
  exact lv_aload_n hx hb hd rfl (d1.2.2.2 _ _ hv) (kk _ _ _ _ _ ⟨d1, d2, d3, gw_okS_c (d5 _ _ hv) d4, d5, d6, d7⟩)
set_option maxHeartbeats 4000000 in
theorem gs_aload (cx : gw_Cx D ca z0 ro rc M p s mm args meth c) {pc len t : Nat} {k : Nat} {cs : Int32} (hd : decode M.2.2.1 pc = .ok (.aload k, len)) (hlen : gw_len (.aload k) = 0 ∨ gw_len (.aload k) = len) (hT : gw_okT M.1 pc (.aload k) t cs = true) {L : gw_L} {st : List Value} {h : gw_H} {s' : gw_S} (hs : gw_ins M.1 M.2.2.2.2.2.2.1 (.aload k) t cs pc L st h = some s')
    (d : gw_Dy D ca z0 ro rc M.2.2.2.1 nb zb s L st h ls H locs cells slots) (hfr : 1 ≤ R.frames ∧ 64 ≤ R.locals) (hrc : s'.2.2.2.2.1 ≤ nb + R.cells) (hrs : s'.2.2.2.2.2 ≤ zb + R.slots)
    (kk : ∀ (ls' : Array Slot) (H' : Heap) (locs' : List Loc) (cells' slots' : Nat), gw_Dy D ca z0 ro rc M.2.2.2.1 nb zb s s'.2.1 s'.2.2.1 s'.2.2.2 ls' H' locs' cells' slots' → W p l e R s mm args below meth c H' locs' cells' slots' Q (F0 mm s'.1 ls' (s'.2.2.1.map (gw_rv (gw_rho z0 ro))))) :
    W p l e R s mm args below meth c H locs cells slots Q (F0 mm pc ls (st.map (gw_rv (gw_rho z0 ro)))) := by
  obtain ⟨hx, hb, hml, hown, hts, hinit, hSR⟩ := cx
  obtain ⟨d1, d2, d3, d4, d5, d6, d7⟩ := d
  have hl := gw_len_of 1 hlen rfl
  subst hl
  obtain ⟨x, hv, hs⟩ := gw_lda_some hs
  cases hs
  exact lv_aload hx hb hd (d1.2.2.2 _ _ hv) (kk _ _ _ _ _ ⟨d1, d2, d3, gw_okS_c (d5 _ _ hv) d4, d5, d6, d7⟩)
set_option maxHeartbeats 4000000 in
theorem gs_istore_n (cx : gw_Cx D ca z0 ro rc M p s mm args meth c) {pc len t : Nat} {k : Fin 4} {cs : Int32} (hd : decode M.2.2.1 pc = .ok (.istore_n k, len)) (hlen : gw_len (.istore_n k) = 0 ∨ gw_len (.istore_n k) = len) (hT : gw_okT M.1 pc (.istore_n k) t cs = true) {L : gw_L} {st : List Value} {h : gw_H} {s' : gw_S} (hs : gw_ins M.1 M.2.2.2.2.2.2.1 (.istore_n k) t cs pc L st h = some s')
    (d : gw_Dy D ca z0 ro rc M.2.2.2.1 nb zb s L st h ls H locs cells slots) (hfr : 1 ≤ R.frames ∧ 64 ≤ R.locals) (hrc : s'.2.2.2.2.1 ≤ nb + R.cells) (hrs : s'.2.2.2.2.2 ≤ zb + R.slots)
    (kk : ∀ (ls' : Array Slot) (H' : Heap) (locs' : List Loc) (cells' slots' : Nat), gw_Dy D ca z0 ro rc M.2.2.2.1 nb zb s s'.2.1 s'.2.2.1 s'.2.2.2 ls' H' locs' cells' slots' → W p l e R s mm args below meth c H' locs' cells' slots' Q (F0 mm s'.1 ls' (s'.2.2.1.map (gw_rv (gw_rho z0 ro))))) :
    W p l e R s mm args below meth c H locs cells slots Q (F0 mm pc ls (st.map (gw_rv (gw_rho z0 ro)))) := by
  obtain ⟨hx, hb, hml, hown, hts, hinit, hSR⟩ := cx
  obtain ⟨d1, d2, d3, d4, d5, d6, d7⟩ := d
  have hl := gw_len_of 0 hlen rfl
  subst hl
  obtain ⟨x, r, rfl, hs⟩ := gw_i1_some hs
  obtain ⟨L', hL, hs⟩ := Option.map_eq_some_iff.mp hs
  cases hs
  refine lv_istore_n hx hb hd rfl d1.has (d1.2.2.1 ▸ gw_st1_lt hL) rfl fun ls' h' => ?_
  refine kk ls' H locs cells slots ⟨d1.st1 hL h', d2, d3, gw_okS_tl d4, fun i v hv => ?_, d6, d7⟩
  rcases gw_st1_get hL hv with rfl | hv
  · exact gw_ok_i
  · exact d5 i v hv
set_option maxHeartbeats 4000000 in
theorem gs_istore (cx : gw_Cx D ca z0 ro rc M p s mm args meth c) {pc len t : Nat} {k : Nat} {cs : Int32} (hd : decode M.2.2.1 pc = .ok (.istore k, len)) (hlen : gw_len (.istore k) = 0 ∨ gw_len (.istore k) = len) (hT : gw_okT M.1 pc (.istore k) t cs = true) {L : gw_L} {st : List Value} {h : gw_H} {s' : gw_S} (hs : gw_ins M.1 M.2.2.2.2.2.2.1 (.istore k) t cs pc L st h = some s')
    (d : gw_Dy D ca z0 ro rc M.2.2.2.1 nb zb s L st h ls H locs cells slots) (hfr : 1 ≤ R.frames ∧ 64 ≤ R.locals) (hrc : s'.2.2.2.2.1 ≤ nb + R.cells) (hrs : s'.2.2.2.2.2 ≤ zb + R.slots)
    (kk : ∀ (ls' : Array Slot) (H' : Heap) (locs' : List Loc) (cells' slots' : Nat), gw_Dy D ca z0 ro rc M.2.2.2.1 nb zb s s'.2.1 s'.2.2.1 s'.2.2.2 ls' H' locs' cells' slots' → W p l e R s mm args below meth c H' locs' cells' slots' Q (F0 mm s'.1 ls' (s'.2.2.1.map (gw_rv (gw_rho z0 ro))))) :
    W p l e R s mm args below meth c H locs cells slots Q (F0 mm pc ls (st.map (gw_rv (gw_rho z0 ro)))) := by
  obtain ⟨hx, hb, hml, hown, hts, hinit, hSR⟩ := cx
  obtain ⟨d1, d2, d3, d4, d5, d6, d7⟩ := d
  have hl := gw_len_of 1 hlen rfl
  subst hl
  obtain ⟨x, r, rfl, hs⟩ := gw_i1_some hs
  obtain ⟨L', hL, hs⟩ := Option.map_eq_some_iff.mp hs
  cases hs
  refine lv_istore hx hb hd d1.has (d1.2.2.1 ▸ gw_st1_lt hL) rfl fun ls' h' => ?_
  refine kk ls' H locs cells slots ⟨d1.st1 hL h', d2, d3, gw_okS_tl d4, fun i v hv => ?_, d6, d7⟩
  rcases gw_st1_get hL hv with rfl | hv
  · exact gw_ok_i
  · exact d5 i v hv
set_option maxHeartbeats 4000000 in
theorem gs_lstore_n (cx : gw_Cx D ca z0 ro rc M p s mm args meth c) {pc len t : Nat} {k : Fin 4} {cs : Int32} (hd : decode M.2.2.1 pc = .ok (.lstore_n k, len)) (hlen : gw_len (.lstore_n k) = 0 ∨ gw_len (.lstore_n k) = len) (hT : gw_okT M.1 pc (.lstore_n k) t cs = true) {L : gw_L} {st : List Value} {h : gw_H} {s' : gw_S} (hs : gw_ins M.1 M.2.2.2.2.2.2.1 (.lstore_n k) t cs pc L st h = some s')
    (d : gw_Dy D ca z0 ro rc M.2.2.2.1 nb zb s L st h ls H locs cells slots) (hfr : 1 ≤ R.frames ∧ 64 ≤ R.locals) (hrc : s'.2.2.2.2.1 ≤ nb + R.cells) (hrs : s'.2.2.2.2.2 ≤ zb + R.slots)
    (kk : ∀ (ls' : Array Slot) (H' : Heap) (locs' : List Loc) (cells' slots' : Nat), gw_Dy D ca z0 ro rc M.2.2.2.1 nb zb s s'.2.1 s'.2.2.1 s'.2.2.2 ls' H' locs' cells' slots' → W p l e R s mm args below meth c H' locs' cells' slots' Q (F0 mm s'.1 ls' (s'.2.2.1.map (gw_rv (gw_rho z0 ro))))) :
    W p l e R s mm args below meth c H locs cells slots Q (F0 mm pc ls (st.map (gw_rv (gw_rho z0 ro)))) := by
  obtain ⟨hx, hb, hml, hown, hts, hinit, hSR⟩ := cx
  obtain ⟨d1, d2, d3, d4, d5, d6, d7⟩ := d
  have hl := gw_len_of 0 hlen rfl
  subst hl
  obtain ⟨x, r, rfl, hs⟩ := gw_l1_some hs
  obtain ⟨L', hL, hs⟩ := Option.map_eq_some_iff.mp hs
  cases hs
  refine lv_lstore_n hx hb hd rfl d1.has (d1.2.2.1 ▸ gw_st2_lt hL) rfl fun ls' h' => ?_
  refine kk ls' H locs cells slots ⟨d1.st2 hL h', d2, d3, gw_okS_tl d4, fun i v hv => ?_, d6, d7⟩
  rcases gw_st2_get hL hv with rfl | hv
  · exact gw_ok_l
  · exact d5 i v hv
set_option maxHeartbeats 4000000 in
theorem gs_lstore (cx : gw_Cx D ca z0 ro rc M p s mm args meth c) {pc len t : Nat} {k : Nat} {cs : Int32} (hd : decode M.2.2.1 pc = .ok (.lstore k, len)) (hlen : gw_len (.lstore k) = 0 ∨ gw_len (.lstore k) = len) (hT : gw_okT M.1 pc (.lstore k) t cs = true) {L : gw_L} {st : List Value} {h : gw_H} {s' : gw_S} (hs : gw_ins M.1 M.2.2.2.2.2.2.1 (.lstore k) t cs pc L st h = some s')
    (d : gw_Dy D ca z0 ro rc M.2.2.2.1 nb zb s L st h ls H locs cells slots) (hfr : 1 ≤ R.frames ∧ 64 ≤ R.locals) (hrc : s'.2.2.2.2.1 ≤ nb + R.cells) (hrs : s'.2.2.2.2.2 ≤ zb + R.slots)
    (kk : ∀ (ls' : Array Slot) (H' : Heap) (locs' : List Loc) (cells' slots' : Nat), gw_Dy D ca z0 ro rc M.2.2.2.1 nb zb s s'.2.1 s'.2.2.1 s'.2.2.2 ls' H' locs' cells' slots' → W p l e R s mm args below meth c H' locs' cells' slots' Q (F0 mm s'.1 ls' (s'.2.2.1.map (gw_rv (gw_rho z0 ro))))) :
    W p l e R s mm args below meth c H locs cells slots Q (F0 mm pc ls (st.map (gw_rv (gw_rho z0 ro)))) := by
  obtain ⟨hx, hb, hml, hown, hts, hinit, hSR⟩ := cx
  obtain ⟨d1, d2, d3, d4, d5, d6, d7⟩ := d
  have hl := gw_len_of 1 hlen rfl
  subst hl
  obtain ⟨x, r, rfl, hs⟩ := gw_l1_some hs
  obtain ⟨L', hL, hs⟩ := Option.map_eq_some_iff.mp hs
  cases hs
  refine lv_lstore hx hb hd d1.has (d1.2.2.1 ▸ gw_st2_lt hL) rfl fun ls' h' => ?_
  refine kk ls' H locs cells slots ⟨d1.st2 hL h', d2, d3, gw_okS_tl d4, fun i v hv => ?_, d6, d7⟩
  rcases gw_st2_get hL hv with rfl | hv
  · exact gw_ok_l
  · exact d5 i v hv
set_option maxHeartbeats 4000000 in
theorem gs_astore_n (cx : gw_Cx D ca z0 ro rc M p s mm args meth c) {pc len t : Nat} {k : Fin 4} {cs : Int32} (hd : decode M.2.2.1 pc = .ok (.astore_n k, len)) (hlen : gw_len (.astore_n k) = 0 ∨ gw_len (.astore_n k) = len) (hT : gw_okT M.1 pc (.astore_n k) t cs = true) {L : gw_L} {st : List Value} {h : gw_H} {s' : gw_S} (hs : gw_ins M.1 M.2.2.2.2.2.2.1 (.astore_n k) t cs pc L st h = some s')
    (d : gw_Dy D ca z0 ro rc M.2.2.2.1 nb zb s L st h ls H locs cells slots) (hfr : 1 ≤ R.frames ∧ 64 ≤ R.locals) (hrc : s'.2.2.2.2.1 ≤ nb + R.cells) (hrs : s'.2.2.2.2.2 ≤ zb + R.slots)
    (kk : ∀ (ls' : Array Slot) (H' : Heap) (locs' : List Loc) (cells' slots' : Nat), gw_Dy D ca z0 ro rc M.2.2.2.1 nb zb s s'.2.1 s'.2.2.1 s'.2.2.2 ls' H' locs' cells' slots' → W p l e R s mm args below meth c H' locs' cells' slots' Q (F0 mm s'.1 ls' (s'.2.2.1.map (gw_rv (gw_rho z0 ro))))) :
    W p l e R s mm args below meth c H locs cells slots Q (F0 mm pc ls (st.map (gw_rv (gw_rho z0 ro)))) := by
  obtain ⟨hx, hb, hml, hown, hts, hinit, hSR⟩ := cx
  obtain ⟨d1, d2, d3, d4, d5, d6, d7⟩ := d
  have hl := gw_len_of 0 hlen rfl
  subst hl
  obtain ⟨x, r, rfl, hs⟩ := gw_r1_some hs
  obtain ⟨L', hL, hs⟩ := Option.map_eq_some_iff.mp hs
  cases hs
  refine lv_astore_n hx hb hd rfl d1.has (d1.2.2.1 ▸ gw_st1_lt hL) rfl fun ls' h' => ?_
  refine kk ls' H locs cells slots ⟨d1.st1 hL h', d2, d3, gw_okS_tl d4, fun i v hv => ?_, d6, d7⟩
  rcases gw_st1_get hL hv with rfl | hv
  · exact (gw_okS_hd d4)
  · exact d5 i v hv
set_option maxHeartbeats 4000000 in
theorem gs_iinc (cx : gw_Cx D ca z0 ro rc M p s mm args meth c) {pc len t : Nat} {k : Nat} {z : Int} {cs : Int32} (hd : decode M.2.2.1 pc = .ok (.iinc k z, len)) (hlen : gw_len (.iinc k z) = 0 ∨ gw_len (.iinc k z) = len) (hT : gw_okT M.1 pc (.iinc k z) t cs = true) {L : gw_L} {st : List Value} {h : gw_H} {s' : gw_S} (hs : gw_ins M.1 M.2.2.2.2.2.2.1 (.iinc k z) t cs pc L st h = some s')
    (d : gw_Dy D ca z0 ro rc M.2.2.2.1 nb zb s L st h ls H locs cells slots) (hfr : 1 ≤ R.frames ∧ 64 ≤ R.locals) (hrc : s'.2.2.2.2.1 ≤ nb + R.cells) (hrs : s'.2.2.2.2.2 ≤ zb + R.slots)
    (kk : ∀ (ls' : Array Slot) (H' : Heap) (locs' : List Loc) (cells' slots' : Nat), gw_Dy D ca z0 ro rc M.2.2.2.1 nb zb s s'.2.1 s'.2.2.1 s'.2.2.2 ls' H' locs' cells' slots' → W p l e R s mm args below meth c H' locs' cells' slots' Q (F0 mm s'.1 ls' (s'.2.2.1.map (gw_rv (gw_rho z0 ro))))) :
    W p l e R s mm args below meth c H locs cells slots Q (F0 mm pc ls (st.map (gw_rv (gw_rho z0 ro)))) := by
  obtain ⟨hx, hb, hml, hown, hts, hinit, hSR⟩ := cx
  obtain ⟨d1, d2, d3, d4, d5, d6, d7⟩ := d
  have hl := gw_len_of 2 hlen rfl
  subst hl
  obtain ⟨x, hv, hs⟩ := gw_ldi_some hs
  obtain ⟨L', hL, hs⟩ := Option.map_eq_some_iff.mp hs
  cases hs
  obtain ⟨j, hj⟩ := List.getElem?_of_mem (gw_lv_mem (ρ := gw_rho z0 ro) hv)
  refine lv_iinc hx hb hd d1.has hj (by rw [of_decide_eq_true hT]) (d1.2.2.1 ▸ gw_st1_lt hL) rfl fun ls' h' => ?_
  refine kk ls' H locs cells slots ⟨d1.st1 hL h', d2, d3, d4, fun i v hv => ?_, d6, d7⟩
  rcases gw_st1_get hL hv with rfl | hv
  · exact gw_ok_i
  · exact d5 i v hv
set_option maxHeartbeats 4000000 in
theorem gs_iconst (cx : gw_Cx D ca z0 ro rc M p s mm args meth c) {pc len t : Nat} {z : Int} {cs : Int32} (hd : decode M.2.2.1 pc = .ok (.iconst z, len)) (hlen : gw_len (.iconst z) = 0 ∨ gw_len (.iconst z) = len) (hT : gw_okT M.1 pc (.iconst z) t cs = true) {L : gw_L} {st : List Value} {h : gw_H} {s' : gw_S} (hs : gw_ins M.1 M.2.2.2.2.2.2.1 (.iconst z) t cs pc L st h = some s')
    (d : gw_Dy D ca z0 ro rc M.2.2.2.1 nb zb s L st h ls H locs cells slots) (hfr : 1 ≤ R.frames ∧ 64 ≤ R.locals) (hrc : s'.2.2.2.2.1 ≤ nb + R.cells) (hrs : s'.2.2.2.2.2 ≤ zb + R.slots)
    (kk : ∀ (ls' : Array Slot) (H' : Heap) (locs' : List Loc) (cells' slots' : Nat), gw_Dy D ca z0 ro rc M.2.2.2.1 nb zb s s'.2.1 s'.2.2.1 s'.2.2.2 ls' H' locs' cells' slots' → W p l e R s mm args below meth c H' locs' cells' slots' Q (F0 mm s'.1 ls' (s'.2.2.1.map (gw_rv (gw_rho z0 ro))))) :
    W p l e R s mm args below meth c H locs cells slots Q (F0 mm pc ls (st.map (gw_rv (gw_rho z0 ro)))) := by
  obtain ⟨hx, hb, hml, hown, hts, hinit, hSR⟩ := cx
  obtain ⟨d1, d2, d3, d4, d5, d6, d7⟩ := d
  have hl := gw_len_of 0 hlen rfl
  subst hl
  cases hs
  exact lv_iconst hx hb hd (of_decide_eq_true hT) (kk _ _ _ _ _ ⟨d1, d2, d3, gw_okS_c gw_ok_i d4, d5, d6, d7⟩)
set_option maxHeartbeats 4000000 in
theorem gs_bipush (cx : gw_Cx D ca z0 ro rc M p s mm args meth c) {pc len t : Nat} {z : Int} {cs : Int32} (hd : decode M.2.2.1 pc = .ok (.bipush z, len)) (hlen : gw_len (.bipush z) = 0 ∨ gw_len (.bipush z) = len) (hT : gw_okT M.1 pc (.bipush z) t cs = true) {L : gw_L} {st : List Value} {h : gw_H} {s' : gw_S} (hs : gw_ins M.1 M.2.2.2.2.2.2.1 (.bipush z) t cs pc L st h = some s')
    (d : gw_Dy D ca z0 ro rc M.2.2.2.1 nb zb s L st h ls H locs cells slots) (hfr : 1 ≤ R.frames ∧ 64 ≤ R.locals) (hrc : s'.2.2.2.2.1 ≤ nb + R.cells) (hrs : s'.2.2.2.2.2 ≤ zb + R.slots)
    (kk : ∀ (ls' : Array Slot) (H' : Heap) (locs' : List Loc) (cells' slots' : Nat), gw_Dy D ca z0 ro rc M.2.2.2.1 nb zb s s'.2.1 s'.2.2.1 s'.2.2.2 ls' H' locs' cells' slots' → W p l e R s mm args below meth c H' locs' cells' slots' Q (F0 mm s'.1 ls' (s'.2.2.1.map (gw_rv (gw_rho z0 ro))))) :
    W p l e R s mm args below meth c H locs cells slots Q (F0 mm pc ls (st.map (gw_rv (gw_rho z0 ro)))) := by
  obtain ⟨hx, hb, hml, hown, hts, hinit, hSR⟩ := cx
  obtain ⟨d1, d2, d3, d4, d5, d6, d7⟩ := d
  have hl := gw_len_of 1 hlen rfl
  subst hl
  cases hs
  exact lv_bipush hx hb hd (of_decide_eq_true hT) (kk _ _ _ _ _ ⟨d1, d2, d3, gw_okS_c gw_ok_i d4, d5, d6, d7⟩)
set_option maxHeartbeats 4000000 in
theorem gs_sipush (cx : gw_Cx D ca z0 ro rc M p s mm args meth c) {pc len t : Nat} {z : Int} {cs : Int32} (hd : decode M.2.2.1 pc = .ok (.sipush z, len)) (hlen : gw_len (.sipush z) = 0 ∨ gw_len (.sipush z) = len) (hT : gw_okT M.1 pc (.sipush z) t cs = true) {L : gw_L} {st : List Value} {h : gw_H} {s' : gw_S} (hs : gw_ins M.1 M.2.2.2.2.2.2.1 (.sipush z) t cs pc L st h = some s')
    (d : gw_Dy D ca z0 ro rc M.2.2.2.1 nb zb s L st h ls H locs cells slots) (hfr : 1 ≤ R.frames ∧ 64 ≤ R.locals) (hrc : s'.2.2.2.2.1 ≤ nb + R.cells) (hrs : s'.2.2.2.2.2 ≤ zb + R.slots)
    (kk : ∀ (ls' : Array Slot) (H' : Heap) (locs' : List Loc) (cells' slots' : Nat), gw_Dy D ca z0 ro rc M.2.2.2.1 nb zb s s'.2.1 s'.2.2.1 s'.2.2.2 ls' H' locs' cells' slots' → W p l e R s mm args below meth c H' locs' cells' slots' Q (F0 mm s'.1 ls' (s'.2.2.1.map (gw_rv (gw_rho z0 ro))))) :
    W p l e R s mm args below meth c H locs cells slots Q (F0 mm pc ls (st.map (gw_rv (gw_rho z0 ro)))) := by
  obtain ⟨hx, hb, hml, hown, hts, hinit, hSR⟩ := cx
  obtain ⟨d1, d2, d3, d4, d5, d6, d7⟩ := d
  have hl := gw_len_of 2 hlen rfl
  subst hl
  cases hs
  exact lv_sipush hx hb hd (of_decide_eq_true hT) (kk _ _ _ _ _ ⟨d1, d2, d3, gw_okS_c gw_ok_i d4, d5, d6, d7⟩)
set_option maxHeartbeats 4000000 in
theorem gs_ldc (cx : gw_Cx D ca z0 ro rc M p s mm args meth c) {pc len t : Nat} {idx : Nat} {cs : Int32} (hd : decode M.2.2.1 pc = .ok (.ldc idx, len)) (hlen : gw_len (.ldc idx) = 0 ∨ gw_len (.ldc idx) = len) (hT : gw_okT M.1 pc (.ldc idx) t cs = true) {L : gw_L} {st : List Value} {h : gw_H} {s' : gw_S} (hs : gw_ins M.1 M.2.2.2.2.2.2.1 (.ldc idx) t cs pc L st h = some s')
    (d : gw_Dy D ca z0 ro rc M.2.2.2.1 nb zb s L st h ls H locs cells slots) (hfr : 1 ≤ R.frames ∧ 64 ≤ R.locals) (hrc : s'.2.2.2.2.1 ≤ nb + R.cells) (hrs : s'.2.2.2.2.2 ≤ zb + R.slots)
    (kk : ∀ (ls' : Array Slot) (H' : Heap) (locs' : List Loc) (cells' slots' : Nat), gw_Dy D ca z0 ro rc M.2.2.2.1 nb zb s s'.2.1 s'.2.2.1 s'.2.2.2 ls' H' locs' cells' slots' → W p l e R s mm args below meth c H' locs' cells' slots' Q (F0 mm s'.1 ls' (s'.2.2.1.map (gw_rv (gw_rho z0 ro))))) :
    W p l e R s mm args below meth c H locs cells slots Q (F0 mm pc ls (st.map (gw_rv (gw_rho z0 ro)))) := by
  obtain ⟨hx, hb, hml, hown, hts, hinit, hSR⟩ := cx
  obtain ⟨d1, d2, d3, d4, d5, d6, d7⟩ := d
  have hl := gw_len_of 1 hlen rfl
  subst hl
  cases hs
  exact lv_ldc hx hb hown (hts _ (gw_tb_in (gw_ti_in hT) rfl)) hd (kk _ _ _ _ _ ⟨d1, d2, d3, gw_okS_c gw_ok_i d4, d5, d6, d7⟩)
set_option maxHeartbeats 4000000 in
theorem gs_ldc_w (cx : gw_Cx D ca z0 ro rc M p s mm args meth c) {pc len t : Nat} {idx : Nat} {cs : Int32} (hd : decode M.2.2.1 pc = .ok (.ldc_w idx, len)) (hlen : gw_len (.ldc_w idx) = 0 ∨ gw_len (.ldc_w idx) = len) (hT : gw_okT M.1 pc (.ldc_w idx) t cs = true) {L : gw_L} {st : List Value} {h : gw_H} {s' : gw_S} (hs : gw_ins M.1 M.2.2.2.2.2.2.1 (.ldc_w idx) t cs pc L st h = some s')
    (d : gw_Dy D ca z0 ro rc M.2.2.2.1 nb zb s L st h ls H locs cells slots) (hfr : 1 ≤ R.frames ∧ 64 ≤ R.locals) (hrc : s'.2.2.2.2.1 ≤ nb + R.cells) (hrs : s'.2.2.2.2.2 ≤ zb + R.slots)
    (kk : ∀ (ls' : Array Slot) (H' : Heap) (locs' : List Loc) (cells' slots' : Nat), gw_Dy D ca z0 ro rc M.2.2.2.1 nb zb s s'.2.1 s'.2.2.1 s'.2.2.2 ls' H' locs' cells' slots' → W p l e R s mm args below meth c H' locs' cells' slots' Q (F0 mm s'.1 ls' (s'.2.2.1.map (gw_rv (gw_rho z0 ro))))) :
    W p l e R s mm args below meth c H locs cells slots Q (F0 mm pc ls (st.map (gw_rv (gw_rho z0 ro)))) := by
  obtain ⟨hx, hb, hml, hown, hts, hinit, hSR⟩ := cx
  obtain ⟨d1, d2, d3, d4, d5, d6, d7⟩ := d
  have hl := gw_len_of 2 hlen rfl
  subst hl
  cases hs
  exact lv_ldcw hx hb hown (hts _ (gw_tb_in (gw_ti_in hT) rfl)) hd (kk _ _ _ _ _ ⟨d1, d2, d3, gw_okS_c gw_ok_i d4, d5, d6, d7⟩)
set_option maxHeartbeats 4000000 in
theorem gs_ldc2_w (cx : gw_Cx D ca z0 ro rc M p s mm args meth c) {pc len t : Nat} {idx : Nat} {cs : Int32} (hd : decode M.2.2.1 pc = .ok (.ldc2_w idx, len)) (hlen : gw_len (.ldc2_w idx) = 0 ∨ gw_len (.ldc2_w idx) = len) (hT : gw_okT M.1 pc (.ldc2_w idx) t cs = true) {L : gw_L} {st : List Value} {h : gw_H} {s' : gw_S} (hs : gw_ins M.1 M.2.2.2.2.2.2.1 (.ldc2_w idx) t cs pc L st h = some s')
    (d : gw_Dy D ca z0 ro rc M.2.2.2.1 nb zb s L st h ls H locs cells slots) (hfr : 1 ≤ R.frames ∧ 64 ≤ R.locals) (hrc : s'.2.2.2.2.1 ≤ nb + R.cells) (hrs : s'.2.2.2.2.2 ≤ zb + R.slots)
    (kk : ∀ (ls' : Array Slot) (H' : Heap) (locs' : List Loc) (cells' slots' : Nat), gw_Dy D ca z0 ro rc M.2.2.2.1 nb zb s s'.2.1 s'.2.2.1 s'.2.2.2 ls' H' locs' cells' slots' → W p l e R s mm args below meth c H' locs' cells' slots' Q (F0 mm s'.1 ls' (s'.2.2.1.map (gw_rv (gw_rho z0 ro))))) :
    W p l e R s mm args below meth c H locs cells slots Q (F0 mm pc ls (st.map (gw_rv (gw_rho z0 ro)))) := by
  obtain ⟨hx, hb, hml, hown, hts, hinit, hSR⟩ := cx
  obtain ⟨d1, d2, d3, d4, d5, d6, d7⟩ := d
  have hl := gw_len_of 2 hlen rfl
  subst hl
  dsimp only [gw_ins] at hs
  split at hs
  · rename_i v hp
    cases hs
    obtain ⟨ix, hP⟩ := gw_fact_P hp
    exact lv_ldc2 hx hb hown (hts _ (gw_tb_in (gw_ti_in hP) rfl)) hd (kk _ _ _ _ _ ⟨d1, d2, d3, gw_okS_c gw_ok_l d4, d5, d6, d7⟩)
  · cases hs
set_option maxHeartbeats 4000000 in
theorem gs_lconst (cx : gw_Cx D ca z0 ro rc M p s mm args meth c) {pc len t : Nat} {n : Fin 2} {cs : Int32} (hd : decode M.2.2.1 pc = .ok (.lconst n, len)) (hlen : gw_len (.lconst n) = 0 ∨ gw_len (.lconst n) = len) (hT : gw_okT M.1 pc (.lconst n) t cs = true) {L : gw_L} {st : List Value} {h : gw_H} {s' : gw_S} (hs : gw_ins M.1 M.2.2.2.2.2.2.1 (.lconst n) t cs pc L st h = some s')
    (d : gw_Dy D ca z0 ro rc M.2.2.2.1 nb zb s L st h ls H locs cells slots) (hfr : 1 ≤ R.frames ∧ 64 ≤ R.locals) (hrc : s'.2.2.2.2.1 ≤ nb + R.cells) (hrs : s'.2.2.2.2.2 ≤ zb + R.slots)
    (kk : ∀ (ls' : Array Slot) (H' : Heap) (locs' : List Loc) (cells' slots' : Nat), gw_Dy D ca z0 ro rc M.2.2.2.1 nb zb s s'.2.1 s'.2.2.1 s'.2.2.2 ls' H' locs' cells' slots' → W p l e R s mm args below meth c H' locs' cells' slots' Q (F0 mm s'.1 ls' (s'.2.2.1.map (gw_rv (gw_rho z0 ro))))) :
    W p l e R s mm args below meth c H locs cells slots Q (F0 mm pc ls (st.map (gw_rv (gw_rho z0 ro)))) := by
  obtain ⟨hx, hb, hml, hown, hts, hinit, hSR⟩ := cx
  obtain ⟨d1, d2, d3, d4, d5, d6, d7⟩ := d
  have hl := gw_len_of 0 hlen rfl
  subst hl
  cases hs
  refine lv_lconst (v := if n = 0 then 0 else 1) hx hb hd ?_ (kk _ _ _ _ _ ⟨d1, d2, d3, gw_okS_c gw_ok_l d4, d5, d6, d7⟩)
  match n with
  | 0 => rfl
  | 1 => rfl
set_option maxHeartbeats 4000000 in
theorem gs_iadd (cx : gw_Cx D ca z0 ro rc M p s mm args meth c) {pc len t : Nat} {cs : Int32} (hd : decode M.2.2.1 pc = .ok (.iadd, len)) (hlen : gw_len (.iadd) = 0 ∨ gw_len (.iadd) = len) (hT : gw_okT M.1 pc (.iadd) t cs = true) {L : gw_L} {st : List Value} {h : gw_H} {s' : gw_S} (hs : gw_ins M.1 M.2.2.2.2.2.2.1 (.iadd) t cs pc L st h = some s')
    (d : gw_Dy D ca z0 ro rc M.2.2.2.1 nb zb s L st h ls H locs cells slots) (hfr : 1 ≤ R.frames ∧ 64 ≤ R.locals) (hrc : s'.2.2.2.2.1 ≤ nb + R.cells) (hrs : s'.2.2.2.2.2 ≤ zb + R.slots)
    (kk : ∀ (ls' : Array Slot) (H' : Heap) (locs' : List Loc) (cells' slots' : Nat), gw_Dy D ca z0 ro rc M.2.2.2.1 nb zb s s'.2.1 s'.2.2.1 s'.2.2.2 ls' H' locs' cells' slots' → W p l e R s mm args below meth c H' locs' cells' slots' Q (F0 mm s'.1 ls' (s'.2.2.1.map (gw_rv (gw_rho z0 ro))))) :
    W p l e R s mm args below meth c H locs cells slots Q (F0 mm pc ls (st.map (gw_rv (gw_rho z0 ro)))) := by
  obtain ⟨hx, hb, hml, hown, hts, hinit, hSR⟩ := cx
  obtain ⟨d1, d2, d3, d4, d5, d6, d7⟩ := d
  have hl := gw_len_of 0 hlen rfl
  subst hl
  obtain ⟨x, y, r, hst, hq⟩ := gw_ii_some hs
  clear hs
  subst hst
  have hs := hq
  clear hq
  cases hs
  exact lv_iadd hx hb hd (kk _ _ _ _ _ ⟨d1, d2, d3, gw_okS_c gw_ok_i (gw_okS_tl (gw_okS_tl d4)), d5, d6, d7⟩)
set_option maxHeartbeats 4000000 in
theorem gs_isub (cx : gw_Cx D ca z0 ro rc M p s mm args meth c) {pc len t : Nat} {cs : Int32} (hd : decode M.2.2.1 pc = .ok (.isub, len)) (hlen : gw_len (.isub) = 0 ∨ gw_len (.isub) = len) (hT : gw_okT M.1 pc (.isub) t cs = true) {L : gw_L} {st : List Value} {h : gw_H} {s' : gw_S} (hs : gw_ins M.1 M.2.2.2.2.2.2.1 (.isub) t cs pc L st h = some s')
    (d : gw_Dy D ca z0 ro rc M.2.2.2.1 nb zb s L st h ls H locs cells slots) (hfr : 1 ≤ R.frames ∧ 64 ≤ R.locals) (hrc : s'.2.2.2.2.1 ≤ nb + R.cells) (hrs : s'.2.2.2.2.2 ≤ zb + R.slots)
    (kk : ∀ (ls' : Array Slot) (H' : Heap) (locs' : List Loc) (cells' slots' : Nat), gw_Dy D ca z0 ro rc M.2.2.2.1 nb zb s s'.2.1 s'.2.2.1 s'.2.2.2 ls' H' locs' cells' slots' → W p l e R s mm args below meth c H' locs' cells' slots' Q (F0 mm s'.1 ls' (s'.2.2.1.map (gw_rv (gw_rho z0 ro))))) :
    W p l e R s mm args below meth c H locs cells slots Q (F0 mm pc ls (st.map (gw_rv (gw_rho z0 ro)))) := by
  obtain ⟨hx, hb, hml, hown, hts, hinit, hSR⟩ := cx
  obtain ⟨d1, d2, d3, d4, d5, d6, d7⟩ := d
  have hl := gw_len_of 0 hlen rfl
  subst hl
  obtain ⟨x, y, r, hst, hq⟩ := gw_ii_some hs
  clear hs
  subst hst
  have hs := hq
  clear hq
  cases hs
  exact lv_isub hx hb hd (kk _ _ _ _ _ ⟨d1, d2, d3, gw_okS_c gw_ok_i (gw_okS_tl (gw_okS_tl d4)), d5, d6, d7⟩)
set_option maxHeartbeats 4000000 in
theorem gs_imul (cx : gw_Cx D ca z0 ro rc M p s mm args meth c) {pc len t : Nat} {cs : Int32} (hd : decode M.2.2.1 pc = .ok (.imul, len)) (hlen : gw_len (.imul) = 0 ∨ gw_len (.imul) = len) (hT : gw_okT M.1 pc (.imul) t cs = true) {L : gw_L} {st : List Value} {h : gw_H} {s' : gw_S} (hs : gw_ins M.1 M.2.2.2.2.2.2.1 (.imul) t cs pc L st h = some s')
    (d : gw_Dy D ca z0 ro rc M.2.2.2.1 nb zb s L st h ls H locs cells slots) (hfr : 1 ≤ R.frames ∧ 64 ≤ R.locals) (hrc : s'.2.2.2.2.1 ≤ nb + R.cells) (hrs : s'.2.2.2.2.2 ≤ zb + R.slots)
    (kk : ∀ (ls' : Array Slot) (H' : Heap) (locs' : List Loc) (cells' slots' : Nat), gw_Dy D ca z0 ro rc M.2.2.2.1 nb zb s s'.2.1 s'.2.2.1 s'.2.2.2 ls' H' locs' cells' slots' → W p l e R s mm args below meth c H' locs' cells' slots' Q (F0 mm s'.1 ls' (s'.2.2.1.map (gw_rv (gw_rho z0 ro))))) :
    W p l e R s mm args below meth c H locs cells slots Q (F0 mm pc ls (st.map (gw_rv (gw_rho z0 ro)))) := by
  obtain ⟨hx, hb, hml, hown, hts, hinit, hSR⟩ := cx
  obtain ⟨d1, d2, d3, d4, d5, d6, d7⟩ := d
  have hl := gw_len_of 0 hlen rfl
  subst hl
  obtain ⟨x, y, r, hst, hq⟩ := gw_ii_some hs
  clear hs
  subst hst
  have hs := hq
  clear hq
  cases hs
  exact lv_imul hx hb hd (kk _ _ _ _ _ ⟨d1, d2, d3, gw_okS_c gw_ok_i (gw_okS_tl (gw_okS_tl d4)), d5, d6, d7⟩)
set_option maxHeartbeats 4000000 in
theorem gs_iand (cx : gw_Cx D ca z0 ro rc M p s mm args meth c) {pc len t : Nat} {cs : Int32} (hd : decode M.2.2.1 pc = .ok (.iand, len)) (hlen : gw_len (.iand) = 0 ∨ gw_len (.iand) = len) (hT : gw_okT M.1 pc (.iand) t cs = true) {L : gw_L} {st : List Value} {h : gw_H} {s' : gw_S} (hs : gw_ins M.1 M.2.2.2.2.2.2.1 (.iand) t cs pc L st h = some s')
    (d : gw_Dy D ca z0 ro rc M.2.2.2.1 nb zb s L st h ls H locs cells slots) (hfr : 1 ≤ R.frames ∧ 64 ≤ R.locals) (hrc : s'.2.2.2.2.1 ≤ nb + R.cells) (hrs : s'.2.2.2.2.2 ≤ zb + R.slots)
    (kk : ∀ (ls' : Array Slot) (H' : Heap) (locs' : List Loc) (cells' slots' : Nat), gw_Dy D ca z0 ro rc M.2.2.2.1 nb zb s s'.2.1 s'.2.2.1 s'.2.2.2 ls' H' locs' cells' slots' → W p l e R s mm args below meth c H' locs' cells' slots' Q (F0 mm s'.1 ls' (s'.2.2.1.map (gw_rv (gw_rho z0 ro))))) :
    W p l e R s mm args below meth c H locs cells slots Q (F0 mm pc ls (st.map (gw_rv (gw_rho z0 ro)))) := by
  obtain ⟨hx, hb, hml, hown, hts, hinit, hSR⟩ := cx
  obtain ⟨d1, d2, d3, d4, d5, d6, d7⟩ := d
  have hl := gw_len_of 0 hlen rfl
  subst hl
  obtain ⟨x, y, r, hst, hq⟩ := gw_ii_some hs
  clear hs
  subst hst
  have hs := hq
  clear hq
  cases hs
  exact lv_iand hx hb hd (kk _ _ _ _ _ ⟨d1, d2, d3, gw_okS_c gw_ok_i (gw_okS_tl (gw_okS_tl d4)), d5, d6, d7⟩)
set_option maxHeartbeats 4000000 in
theorem gs_ior (cx : gw_Cx D ca z0 ro rc M p s mm args meth c) {pc len t : Nat} {cs : Int32} (hd : decode M.2.2.1 pc = .ok (.ior, len)) (hlen : gw_len (.ior) = 0 ∨ gw_len (.ior) = len) (hT : gw_okT M.1 pc (.ior) t cs = true) {L : gw_L} {st : List Value} {h : gw_H} {s' : gw_S} (hs : gw_ins M.1 M.2.2.2.2.2.2.1 (.ior) t cs pc L st h = some s')
    (d : gw_Dy D ca z0 ro rc M.2.2.2.1 nb zb s L st h ls H locs cells slots) (hfr : 1 ≤ R.frames ∧ 64 ≤ R.locals) (hrc : s'.2.2.2.2.1 ≤ nb + R.cells) (hrs : s'.2.2.2.2.2 ≤ zb + R.slots)
    (kk : ∀ (ls' : Array Slot) (H' : Heap) (locs' : List Loc) (cells' slots' : Nat), gw_Dy D ca z0 ro rc M.2.2.2.1 nb zb s s'.2.1 s'.2.2.1 s'.2.2.2 ls' H' locs' cells' slots' → W p l e R s mm args below meth c H' locs' cells' slots' Q (F0 mm s'.1 ls' (s'.2.2.1.map (gw_rv (gw_rho z0 ro))))) :
    W p l e R s mm args below meth c H locs cells slots Q (F0 mm pc ls (st.map (gw_rv (gw_rho z0 ro)))) := by
  obtain ⟨hx, hb, hml, hown, hts, hinit, hSR⟩ := cx
  obtain ⟨d1, d2, d3, d4, d5, d6, d7⟩ := d
  have hl := gw_len_of 0 hlen rfl
  subst hl
  obtain ⟨x, y, r, hst, hq⟩ := gw_ii_some hs
  clear hs
  subst hst
  have hs := hq
  clear hq
  cases hs
  exact lv_ior hx hb hd (kk _ _ _ _ _ ⟨d1, d2, d3, gw_okS_c gw_ok_i (gw_okS_tl (gw_okS_tl d4)), d5, d6, d7⟩)
set_option maxHeartbeats 4000000 in
theorem gs_ixor (cx : gw_Cx D ca z0 ro rc M p s mm args meth c) {pc len t : Nat} {cs : Int32} (hd : decode M.2.2.1 pc = .ok (.ixor, len)) (hlen : gw_len (.ixor) = 0 ∨ gw_len (.ixor) = len) (hT : gw_okT M.1 pc (.ixor) t cs = true) {L : gw_L} {st : List Value} {h : gw_H} {s' : gw_S} (hs : gw_ins M.1 M.2.2.2.2.2.2.1 (.ixor) t cs pc L st h = some s')
    (d : gw_Dy D ca z0 ro rc M.2.2.2.1 nb zb s L st h ls H locs cells slots) (hfr : 1 ≤ R.frames ∧ 64 ≤ R.locals) (hrc : s'.2.2.2.2.1 ≤ nb + R.cells) (hrs : s'.2.2.2.2.2 ≤ zb + R.slots)
    (kk : ∀ (ls' : Array Slot) (H' : Heap) (locs' : List Loc) (cells' slots' : Nat), gw_Dy D ca z0 ro rc M.2.2.2.1 nb zb s s'.2.1 s'.2.2.1 s'.2.2.2 ls' H' locs' cells' slots' → W p l e R s mm args below meth c H' locs' cells' slots' Q (F0 mm s'.1 ls' (s'.2.2.1.map (gw_rv (gw_rho z0 ro))))) :
    W p l e R s mm args below meth c H locs cells slots Q (F0 mm pc ls (st.map (gw_rv (gw_rho z0 ro)))) := by
  obtain ⟨hx, hb, hml, hown, hts, hinit, hSR⟩ := cx
  obtain ⟨d1, d2, d3, d4, d5, d6, d7⟩ := d
  have hl := gw_len_of 0 hlen rfl
  subst hl
  obtain ⟨x, y, r, hst, hq⟩ := gw_ii_some hs
  clear hs
  subst hst
  have hs := hq
  clear hq
  cases hs
  exact lv_ixor hx hb hd (kk _ _ _ _ _ ⟨d1, d2, d3, gw_okS_c gw_ok_i (gw_okS_tl (gw_okS_tl d4)), d5, d6, d7⟩)
set_option maxHeartbeats 4000000 in
theorem gs_ishl (cx : gw_Cx D ca z0 ro rc M p s mm args meth c) {pc len t : Nat} {cs : Int32} (hd : decode M.2.2.1 pc = .ok (.ishl, len)) (hlen : gw_len (.ishl) = 0 ∨ gw_len (.ishl) = len) (hT : gw_okT M.1 pc (.ishl) t cs = true) {L : gw_L} {st : List Value} {h : gw_H} {s' : gw_S} (hs : gw_ins M.1 M.2.2.2.2.2.2.1 (.ishl) t cs pc L st h = some s')
    (d : gw_Dy D ca z0 ro rc M.2.2.2.1 nb zb s L st h ls H locs cells slots) (hfr : 1 ≤ R.frames ∧ 64 ≤ R.locals) (hrc : s'.2.2.2.2.1 ≤ nb + R.cells) (hrs : s'.2.2.2.2.2 ≤ zb + R.slots)
    (kk : ∀ (ls' : Array Slot) (H' : Heap) (locs' : List Loc) (cells' slots' : Nat), gw_Dy D ca z0 ro rc M.2.2.2.1 nb zb s s'.2.1 s'.2.2.1 s'.2.2.2 ls' H' locs' cells' slots' → W p l e R s mm args below meth c H' locs' cells' slots' Q (F0 mm s'.1 ls' (s'.2.2.1.map (gw_rv (gw_rho z0 ro))))) :
    W p l e R s mm args below meth c H locs cells slots Q (F0 mm pc ls (st.map (gw_rv (gw_rho z0 ro)))) := by
  obtain ⟨hx, hb, hml, hown, hts, hinit, hSR⟩ := cx
  obtain ⟨d1, d2, d3, d4, d5, d6, d7⟩ := d
  have hl := gw_len_of 0 hlen rfl
  subst hl
  obtain ⟨x, y, r, hst, hq⟩ := gw_ii_some hs
  clear hs
  subst hst
  have hs := hq
  clear hq
  cases hs
  exact lv_ishl hx hb hd (kk _ _ _ _ _ ⟨d1, d2, d3, gw_okS_c gw_ok_i (gw_okS_tl (gw_okS_tl d4)), d5, d6, d7⟩)
set_option maxHeartbeats 4000000 in
theorem gs_ishr (cx : gw_Cx D ca z0 ro rc M p s mm args meth c) {pc len t : Nat} {cs : Int32} (hd : decode M.2.2.1 pc = .ok (.ishr, len)) (hlen : gw_len (.ishr) = 0 ∨ gw_len (.ishr) = len) (hT : gw_okT M.1 pc (.ishr) t cs = true) {L : gw_L} {st : List Value} {h : gw_H} {s' : gw_S} (hs : gw_ins M.1 M.2.2.2.2.2.2.1 (.ishr) t cs pc L st h = some s')
    (d : gw_Dy D ca z0 ro rc M.2.2.2.1 nb zb s L st h ls H locs cells slots) (hfr : 1 ≤ R.frames ∧ 64 ≤ R.locals) (hrc : s'.2.2.2.2.1 ≤ nb + R.cells) (hrs : s'.2.2.2.2.2 ≤ zb + R.slots)
    (kk : ∀ (ls' : Array Slot) (H' : Heap) (locs' : List Loc) (cells' slots' : Nat), gw_Dy D ca z0 ro rc M.2.2.2.1 nb zb s s'.2.1 s'.2.2.1 s'.2.2.2 ls' H' locs' cells' slots' → W p l e R s mm args below meth c H' locs' cells' slots' Q (F0 mm s'.1 ls' (s'.2.2.1.map (gw_rv (gw_rho z0 ro))))) :
    W p l e R s mm args below meth c H locs cells slots Q (F0 mm pc ls (st.map (gw_rv (gw_rho z0 ro)))) := by
  obtain ⟨hx, hb, hml, hown, hts, hinit, hSR⟩ := cx
  obtain ⟨d1, d2, d3, d4, d5, d6, d7⟩ := d
  have hl := gw_len_of 0 hlen rfl
  subst hl
  obtain ⟨x, y, r, hst, hq⟩ := gw_ii_some hs
  clear hs
  subst hst
  have hs := hq
  clear hq
  cases hs
  exact lv_ishr hx hb hd (kk _ _ _ _ _ ⟨d1, d2, d3, gw_okS_c gw_ok_i (gw_okS_tl (gw_okS_tl d4)), d5, d6, d7⟩)
set_option maxHeartbeats 4000000 in
theorem gs_idiv (cx : gw_Cx D ca z0 ro rc M p s mm args meth c) {pc len t : Nat} {cs : Int32} (hd : decode M.2.2.1 pc = .ok (.idiv, len)) (hlen : gw_len (.idiv) = 0 ∨ gw_len (.idiv) = len) (hT : gw_okT M.1 pc (.idiv) t cs = true) {L : gw_L} {st : List Value} {h : gw_H} {s' : gw_S} (hs : gw_ins M.1 M.2.2.2.2.2.2.1 (.idiv) t cs pc L st h = some s')
    (d : gw_Dy D ca z0 ro rc M.2.2.2.1 nb zb s L st h ls H locs cells slots) (hfr : 1 ≤ R.frames ∧ 64 ≤ R.locals) (hrc : s'.2.2.2.2.1 ≤ nb + R.cells) (hrs : s'.2.2.2.2.2 ≤ zb + R.slots)
    (kk : ∀ (ls' : Array Slot) (H' : Heap) (locs' : List Loc) (cells' slots' : Nat), gw_Dy D ca z0 ro rc M.2.2.2.1 nb zb s s'.2.1 s'.2.2.1 s'.2.2.2 ls' H' locs' cells' slots' → W p l e R s mm args below meth c H' locs' cells' slots' Q (F0 mm s'.1 ls' (s'.2.2.1.map (gw_rv (gw_rho z0 ro))))) :
    W p l e R s mm args below meth c H locs cells slots Q (F0 mm pc ls (st.map (gw_rv (gw_rho z0 ro)))) := by
  obtain ⟨hx, hb, hml, hown, hts, hinit, hSR⟩ := cx
  obtain ⟨d1, d2, d3, d4, d5, d6, d7⟩ := d
  have hl := gw_len_of 0 hlen rfl
  subst hl
  obtain ⟨x, y, r, hst, hq⟩ := gw_ii_some hs
  clear hs
  subst hst
  have hs := hq
  clear hq
  split at hs
  · cases hs
  · rename_i hy
    cases hs
    exact lv_idiv hx hb hd hy (kk _ _ _ _ _ ⟨d1, d2, d3, gw_okS_c gw_ok_i (gw_okS_tl (gw_okS_tl d4)), d5, d6, d7⟩)
set_option maxHeartbeats 4000000 in
theorem gs_irem (cx : gw_Cx D ca z0 ro rc M p s mm args meth c) {pc len t : Nat} {cs : Int32} (hd : decode M.2.2.1 pc = .ok (.irem, len)) (hlen : gw_len (.irem) = 0 ∨ gw_len (.irem) = len) (hT : gw_okT M.1 pc (.irem) t cs = true) {L : gw_L} {st : List Value} {h : gw_H} {s' : gw_S} (hs : gw_ins M.1 M.2.2.2.2.2.2.1 (.irem) t cs pc L st h = some s')
    (d : gw_Dy D ca z0 ro rc M.2.2.2.1 nb zb s L st h ls H locs cells slots) (hfr : 1 ≤ R.frames ∧ 64 ≤ R.locals) (hrc : s'.2.2.2.2.1 ≤ nb + R.cells) (hrs : s'.2.2.2.2.2 ≤ zb + R.slots)
    (kk : ∀ (ls' : Array Slot) (H' : Heap) (locs' : List Loc) (cells' slots' : Nat), gw_Dy D ca z0 ro rc M.2.2.2.1 nb zb s s'.2.1 s'.2.2.1 s'.2.2.2 ls' H' locs' cells' slots' → W p l e R s mm args below meth c H' locs' cells' slots' Q (F0 mm s'.1 ls' (s'.2.2.1.map (gw_rv (gw_rho z0 ro))))) :
    W p l e R s mm args below meth c H locs cells slots Q (F0 mm pc ls (st.map (gw_rv (gw_rho z0 ro)))) := by
  obtain ⟨hx, hb, hml, hown, hts, hinit, hSR⟩ := cx
  obtain ⟨d1, d2, d3, d4, d5, d6, d7⟩ := d
  have hl := gw_len_of 0 hlen rfl
  subst hl
  obtain ⟨x, y, r, hst, hq⟩ := gw_ii_some hs
  clear hs
  subst hst
  have hs := hq
  clear hq
  split at hs
  · cases hs
  · rename_i hy
    cases hs
    exact lv_irem hx hb hd hy (kk _ _ _ _ _ ⟨d1, d2, d3, gw_okS_c gw_ok_i (gw_okS_tl (gw_okS_tl d4)), d5, d6, d7⟩)
set_option maxHeartbeats 4000000 in
theorem gs_ineg (cx : gw_Cx D ca z0 ro rc M p s mm args meth c) {pc len t : Nat} {cs : Int32} (hd : decode M.2.2.1 pc = .ok (.ineg, len)) (hlen : gw_len (.ineg) = 0 ∨ gw_len (.ineg) = len) (hT : gw_okT M.1 pc (.ineg) t cs = true) {L : gw_L} {st : List Value} {h : gw_H} {s' : gw_S} (hs : gw_ins M.1 M.2.2.2.2.2.2.1 (.ineg) t cs pc L st h = some s')
    (d : gw_Dy D ca z0 ro rc M.2.2.2.1 nb zb s L st h ls H locs cells slots) (hfr : 1 ≤ R.frames ∧ 64 ≤ R.locals) (hrc : s'.2.2.2.2.1 ≤ nb + R.cells) (hrs : s'.2.2.2.2.2 ≤ zb + R.slots)
    (kk : ∀ (ls' : Array Slot) (H' : Heap) (locs' : List Loc) (cells' slots' : Nat), gw_Dy D ca z0 ro rc M.2.2.2.1 nb zb s s'.2.1 s'.2.2.1 s'.2.2.2 ls' H' locs' cells' slots' → W p l e R s mm args below meth c H' locs' cells' slots' Q (F0 mm s'.1 ls' (s'.2.2.1.map (gw_rv (gw_rho z0 ro))))) :
    W p l e R s mm args below meth c H locs cells slots Q (F0 mm pc ls (st.map (gw_rv (gw_rho z0 ro)))) := by
  obtain ⟨hx, hb, hml, hown, hts, hinit, hSR⟩ := cx
  obtain ⟨d1, d2, d3, d4, d5, d6, d7⟩ := d
  have hl := gw_len_of 0 hlen rfl
  subst hl
  obtain ⟨x, r, hst, hq⟩ := gw_i1_some hs
  clear hs
  subst hst
  have hs := hq
  clear hq
  cases hs
  exact lv_ineg hx hb hd (kk _ _ _ _ _ ⟨d1, d2, d3, gw_okS_c gw_ok_i (gw_okS_tl d4), d5, d6, d7⟩)
set_option maxHeartbeats 4000000 in
theorem gs_ladd (cx : gw_Cx D ca z0 ro rc M p s mm args meth c) {pc len t : Nat} {cs : Int32} (hd : decode M.2.2.1 pc = .ok (.ladd, len)) (hlen : gw_len (.ladd) = 0 ∨ gw_len (.ladd) = len) (hT : gw_okT M.1 pc (.ladd) t cs = true) {L : gw_L} {st : List Value} {h : gw_H} {s' : gw_S} (hs : gw_ins M.1 M.2.2.2.2.2.2.1 (.ladd) t cs pc L st h = some s')
    (d : gw_Dy D ca z0 ro rc M.2.2.2.1 nb zb s L st h ls H locs cells slots) (hfr : 1 ≤ R.frames ∧ 64 ≤ R.locals) (hrc : s'.2.2.2.2.1 ≤ nb + R.cells) (hrs : s'.2.2.2.2.2 ≤ zb + R.slots)
    (kk : ∀ (ls' : Array Slot) (H' : Heap) (locs' : List Loc) (cells' slots' : Nat), gw_Dy D ca z0 ro rc M.2.2.2.1 nb zb s s'.2.1 s'.2.2.1 s'.2.2.2 ls' H' locs' cells' slots' → W p l e R s mm args below meth c H' locs' cells' slots' Q (F0 mm s'.1 ls' (s'.2.2.1.map (gw_rv (gw_rho z0 ro))))) :
    W p l e R s mm args below meth c H locs cells slots Q (F0 mm pc ls (st.map (gw_rv (gw_rho z0 ro)))) := by
  obtain ⟨hx, hb, hml, hown, hts, hinit, hSR⟩ := cx
  obtain ⟨d1, d2, d3, d4, d5, d6, d7⟩ := d
  have hl := gw_len_of 0 hlen rfl
  subst hl
  obtain ⟨x, y, r, hst, hq⟩ := gw_ll_some hs
  clear hs
  subst hst
  have hs := hq
  clear hq
  cases hs
  exact lv_ladd hx hb hd (kk _ _ _ _ _ ⟨d1, d2, d3, gw_okS_c gw_ok_l (gw_okS_tl (gw_okS_tl d4)), d5, d6, d7⟩)
set_option maxHeartbeats 4000000 in
theorem gs_lmul (cx : gw_Cx D ca z0 ro rc M p s mm args meth c) {pc len t : Nat} {cs : Int32} (hd : decode M.2.2.1 pc = .ok (.lmul, len)) (hlen : gw_len (.lmul) = 0 ∨ gw_len (.lmul) = len) (hT : gw_okT M.1 pc (.lmul) t cs = true) {L : gw_L} {st : List Value} {h : gw_H} {s' : gw_S} (hs : gw_ins M.1 M.2.2.2.2.2.2.1 (.lmul) t cs pc L st h = some s')
    (d : gw_Dy D ca z0 ro rc M.2.2.2.1 nb zb s L st h ls H locs cells slots) (hfr : 1 ≤ R.frames ∧ 64 ≤ R.locals) (hrc : s'.2.2.2.2.1 ≤ nb + R.cells) (hrs : s'.2.2.2.2.2 ≤ zb + R.slots)
    (kk : ∀ (ls' : Array Slot) (H' : Heap) (locs' : List Loc) (cells' slots' : Nat), gw_Dy D ca z0 ro rc M.2.2.2.1 nb zb s s'.2.1 s'.2.2.1 s'.2.2.2 ls' H' locs' cells' slots' → W p l e R s mm args below meth c H' locs' cells' slots' Q (F0 mm s'.1 ls' (s'.2.2.1.map (gw_rv (gw_rho z0 ro))))) :
    W p l e R s mm args below meth c H locs cells slots Q (F0 mm pc ls (st.map (gw_rv (gw_rho z0 ro)))) := by
  obtain ⟨hx, hb, hml, hown, hts, hinit, hSR⟩ := cx
  obtain ⟨d1, d2, d3, d4, d5, d6, d7⟩ := d
  have hl := gw_len_of 0 hlen rfl
  subst hl
  obtain ⟨x, y, r, hst, hq⟩ := gw_ll_some hs
  clear hs
  subst hst
  have hs := hq
  clear hq
  cases hs
  exact lv_lmul hx hb hd (kk _ _ _ _ _ ⟨d1, d2, d3, gw_okS_c gw_ok_l (gw_okS_tl (gw_okS_tl d4)), d5, d6, d7⟩)
set_option maxHeartbeats 4000000 in
theorem gs_land (cx : gw_Cx D ca z0 ro rc M p s mm args meth c) {pc len t : Nat} {cs : Int32} (hd : decode M.2.2.1 pc = .ok (.land, len)) (hlen : gw_len (.land) = 0 ∨ gw_len (.land) = len) (hT : gw_okT M.1 pc (.land) t cs = true) {L : gw_L} {st : List Value} {h : gw_H} {s' : gw_S} (hs : gw_ins M.1 M.2.2.2.2.2.2.1 (.land) t cs pc L st h = some s')
    (d : gw_Dy D ca z0 ro rc M.2.2.2.1 nb zb s L st h ls H locs cells slots) (hfr : 1 ≤ R.frames ∧ 64 ≤ R.locals) (hrc : s'.2.2.2.2.1 ≤ nb + R.cells) (hrs : s'.2.2.2.2.2 ≤ zb + R.slots)
    (kk : ∀ (ls' : Array Slot) (H' : Heap) (locs' : List Loc) (cells' slots' : Nat), gw_Dy D ca z0 ro rc M.2.2.2.1 nb zb s s'.2.1 s'.2.2.1 s'.2.2.2 ls' H' locs' cells' slots' → W p l e R s mm args below meth c H' locs' cells' slots' Q (F0 mm s'.1 ls' (s'.2.2.1.map (gw_rv (gw_rho z0 ro))))) :
    W p l e R s mm args below meth c H locs cells slots Q (F0 mm pc ls (st.map (gw_rv (gw_rho z0 ro)))) := by
  obtain ⟨hx, hb, hml, hown, hts, hinit, hSR⟩ := cx
  obtain ⟨d1, d2, d3, d4, d5, d6, d7⟩ := d
  have hl := gw_len_of 0 hlen rfl
  subst hl
  obtain ⟨x, y, r, hst, hq⟩ := gw_ll_some hs
  clear hs
  subst hst
  have hs := hq
  clear hq
  cases hs
  exact lv_land hx hb hd (kk _ _ _ _ _ ⟨d1, d2, d3, gw_okS_c gw_ok_l (gw_okS_tl (gw_okS_tl d4)), d5, d6, d7⟩)
set_option maxHeartbeats 4000000 in
theorem gs_lor (cx : gw_Cx D ca z0 ro rc M p s mm args meth c) {pc len t : Nat} {cs : Int32} (hd : decode M.2.2.1 pc = .ok (.lor, len)) (hlen : gw_len (.lor) = 0 ∨ gw_len (.lor) = len) (hT : gw_okT M.1 pc (.lor) t cs = true) {L : gw_L} {st : List Value} {h : gw_H} {s' : gw_S} (hs : gw_ins M.1 M.2.2.2.2.2.2.1 (.lor) t cs pc L st h = some s')
    (d : gw_Dy D ca z0 ro rc M.2.2.2.1 nb zb s L st h ls H locs cells slots) (hfr : 1 ≤ R.frames ∧ 64 ≤ R.locals) (hrc : s'.2.2.2.2.1 ≤ nb + R.cells) (hrs : s'.2.2.2.2.2 ≤ zb + R.slots)
    (kk : ∀ (ls' : Array Slot) (H' : Heap) (locs' : List Loc) (cells' slots' : Nat), gw_Dy D ca z0 ro rc M.2.2.2.1 nb zb s s'.2.1 s'.2.2.1 s'.2.2.2 ls' H' locs' cells' slots' → W p l e R s mm args below meth c H' locs' cells' slots' Q (F0 mm s'.1 ls' (s'.2.2.1.map (gw_rv (gw_rho z0 ro))))) :
    W p l e R s mm args below meth c H locs cells slots Q (F0 mm pc ls (st.map (gw_rv (gw_rho z0 ro)))) := by
  obtain ⟨hx, hb, hml, hown, hts, hinit, hSR⟩ := cx
  obtain ⟨d1, d2, d3, d4, d5, d6, d7⟩ := d
  have hl := gw_len_of 0 hlen rfl
  subst hl
  obtain ⟨x, y, r, hst, hq⟩ := gw_ll_some hs
  clear hs
  subst hst
  have hs := hq
  clear hq
  cases hs
  exact lv_lor hx hb hd (kk _ _ _ _ _ ⟨d1, d2, d3, gw_okS_c gw_ok_l (gw_okS_tl (gw_okS_tl d4)), d5, d6, d7⟩)
set_option maxHeartbeats 4000000 in
theorem gs_lushr (cx : gw_Cx D ca z0 ro rc M p s mm args meth c) {pc len t : Nat} {cs : Int32} (hd : decode M.2.2.1 pc = .ok (.lushr, len)) (hlen : gw_len (.lushr) = 0 ∨ gw_len (.lushr) = len) (hT : gw_okT M.1 pc (.lushr) t cs = true) {L : gw_L} {st : List Value} {h : gw_H} {s' : gw_S} (hs : gw_ins M.1 M.2.2.2.2.2.2.1 (.lushr) t cs pc L st h = some s')
    (d : gw_Dy D ca z0 ro rc M.2.2.2.1 nb zb s L st h ls H locs cells slots) (hfr : 1 ≤ R.frames ∧ 64 ≤ R.locals) (hrc : s'.2.2.2.2.1 ≤ nb + R.cells) (hrs : s'.2.2.2.2.2 ≤ zb + R.slots)
    (kk : ∀ (ls' : Array Slot) (H' : Heap) (locs' : List Loc) (cells' slots' : Nat), gw_Dy D ca z0 ro rc M.2.2.2.1 nb zb s s'.2.1 s'.2.2.1 s'.2.2.2 ls' H' locs' cells' slots' → W p l e R s mm args below meth c H' locs' cells' slots' Q (F0 mm s'.1 ls' (s'.2.2.1.map (gw_rv (gw_rho z0 ro))))) :
    W p l e R s mm args below meth c H locs cells slots Q (F0 mm pc ls (st.map (gw_rv (gw_rho z0 ro)))) := by
  obtain ⟨hx, hb, hml, hown, hts, hinit, hSR⟩ := cx
  obtain ⟨d1, d2, d3, d4, d5, d6, d7⟩ := d
  have hl := gw_len_of 0 hlen rfl
  subst hl
  obtain ⟨x, y, r, hst, hq⟩ := gw_li_some hs
  clear hs
  subst hst
  have hs := hq
  clear hq
  cases hs
  exact lv_lushr hx hb hd rfl (kk _ _ _ _ _ ⟨d1, d2, d3, gw_okS_c gw_ok_l (gw_okS_tl (gw_okS_tl d4)), d5, d6, d7⟩)
set_option maxHeartbeats 4000000 in
theorem gs_lshl (cx : gw_Cx D ca z0 ro rc M p s mm args meth c) {pc len t : Nat} {cs : Int32} (hd : decode M.2.2.1 pc = .ok (.lshl, len)) (hlen : gw_len (.lshl) = 0 ∨ gw_len (.lshl) = len) (hT : gw_okT M.1 pc (.lshl) t cs = true) {L : gw_L} {st : List Value} {h : gw_H} {s' : gw_S} (hs : gw_ins M.1 M.2.2.2.2.2.2.1 (.lshl) t cs pc L st h = some s')
    (d : gw_Dy D ca z0 ro rc M.2.2.2.1 nb zb s L st h ls H locs cells slots) (hfr : 1 ≤ R.frames ∧ 64 ≤ R.locals) (hrc : s'.2.2.2.2.1 ≤ nb + R.cells) (hrs : s'.2.2.2.2.2 ≤ zb + R.slots)
    (kk : ∀ (ls' : Array Slot) (H' : Heap) (locs' : List Loc) (cells' slots' : Nat), gw_Dy D ca z0 ro rc M.2.2.2.1 nb zb s s'.2.1 s'.2.2.1 s'.2.2.2 ls' H' locs' cells' slots' → W p l e R s mm args below meth c H' locs' cells' slots' Q (F0 mm s'.1 ls' (s'.2.2.1.map (gw_rv (gw_rho z0 ro))))) :
    W p l e R s mm args below meth c H locs cells slots Q (F0 mm pc ls (st.map (gw_rv (gw_rho z0 ro)))) := by
  obtain ⟨hx, hb, hml, hown, hts, hinit, hSR⟩ := cx
  obtain ⟨d1, d2, d3, d4, d5, d6, d7⟩ := d
  have hl := gw_len_of 0 hlen rfl
  subst hl
  obtain ⟨x, y, r, hst, hq⟩ := gw_li_some hs
  clear hs
  subst hst
  have hs := hq
  clear hq
  cases hs
  exact lv_lshl hx hb hd rfl (kk _ _ _ _ _ ⟨d1, d2, d3, gw_okS_c gw_ok_l (gw_okS_tl (gw_okS_tl d4)), d5, d6, d7⟩)
set_option maxHeartbeats 4000000 in
theorem gs_lcmp (cx : gw_Cx D ca z0 ro rc M p s mm args meth c) {pc len t : Nat} {cs : Int32} (hd : decode M.2.2.1 pc = .ok (.lcmp, len)) (hlen : gw_len (.lcmp) = 0 ∨ gw_len (.lcmp) = len) (hT : gw_okT M.1 pc (.lcmp) t cs = true) {L : gw_L} {st : List Value} {h : gw_H} {s' : gw_S} (hs : gw_ins M.1 M.2.2.2.2.2.2.1 (.lcmp) t cs pc L st h = some s')
    (d : gw_Dy D ca z0 ro rc M.2.2.2.1 nb zb s L st h ls H locs cells slots) (hfr : 1 ≤ R.frames ∧ 64 ≤ R.locals) (hrc : s'.2.2.2.2.1 ≤ nb + R.cells) (hrs : s'.2.2.2.2.2 ≤ zb + R.slots)
    (kk : ∀ (ls' : Array Slot) (H' : Heap) (locs' : List Loc) (cells' slots' : Nat), gw_Dy D ca z0 ro rc M.2.2.2.1 nb zb s s'.2.1 s'.2.2.1 s'.2.2.2 ls' H' locs' cells' slots' → W p l e R s mm args below meth c H' locs' cells' slots' Q (F0 mm s'.1 ls' (s'.2.2.1.map (gw_rv (gw_rho z0 ro))))) :
    W p l e R s mm args below meth c H locs cells slots Q (F0 mm pc ls (st.map (gw_rv (gw_rho z0 ro)))) := by
  obtain ⟨hx, hb, hml, hown, hts, hinit, hSR⟩ := cx
  obtain ⟨d1, d2, d3, d4, d5, d6, d7⟩ := d
  have hl := gw_len_of 0 hlen rfl
  subst hl
  obtain ⟨x, y, r, hst, hq⟩ := gw_ll_some hs
  clear hs
  subst hst
  have hs := hq
  clear hq
  cases hs
  exact W.lcmp hx hb hd (kk _ _ _ _ _ ⟨d1, d2, d3, gw_okS_c gw_ok_i (gw_okS_tl (gw_okS_tl d4)), d5, d6, d7⟩)
set_option maxHeartbeats 4000000 in
theorem gs_i2l (cx : gw_Cx D ca z0 ro rc M p s mm args meth c) {pc len t : Nat} {cs : Int32} (hd : decode M.2.2.1 pc = .ok (.i2l, len)) (hlen : gw_len (.i2l) = 0 ∨ gw_len (.i2l) = len) (hT : gw_okT M.1 pc (.i2l) t cs = true) {L : gw_L} {st : List Value} {h : gw_H} {s' : gw_S} (hs : gw_ins M.1 M.2.2.2.2.2.2.1 (.i2l) t cs pc L st h = some s')
    (d : gw_Dy D ca z0 ro rc M.2.2.2.1 nb zb s L st h ls H locs cells slots) (hfr : 1 ≤ R.frames ∧ 64 ≤ R.locals) (hrc : s'.2.2.2.2.1 ≤ nb + R.cells) (hrs : s'.2.2.2.2.2 ≤ zb + R.slots)
    (kk : ∀ (ls' : Array Slot) (H' : Heap) (locs' : List Loc) (cells' slots' : Nat), gw_Dy D ca z0 ro rc M.2.2.2.1 nb zb s s'.2.1 s'.2.2.1 s'.2.2.2 ls' H' locs' cells' slots' → W p l e R s mm args below meth c H' locs' cells' slots' Q (F0 mm s'.1 ls' (s'.2.2.1.map (gw_rv (gw_rho z0 ro))))) :
    W p l e R s mm args below meth c H locs cells slots Q (F0 mm pc ls (st.map (gw_rv (gw_rho z0 ro)))) := by
  obtain ⟨hx, hb, hml, hown, hts, hinit, hSR⟩ := cx
  obtain ⟨d1, d2, d3, d4, d5, d6, d7⟩ := d
  have hl := gw_len_of 0 hlen rfl
  subst hl
  obtain ⟨x, r, hst, hq⟩ := gw_i1_some hs
  clear hs
  subst hst
  have hs := hq
  clear hq
  cases hs
  exact lv_i2l hx hb hd rfl (kk _ _ _ _ _ ⟨d1, d2, d3, gw_okS_c gw_ok_l (gw_okS_tl d4), d5, d6, d7⟩)
set_option maxHeartbeats 4000000 in
theorem gs_l2i (cx : gw_Cx D ca z0 ro rc M p s mm args meth c) {pc len t : Nat} {cs : Int32} (hd : decode M.2.2.1 pc = .ok (.l2i, len)) (hlen : gw_len (.l2i) = 0 ∨ gw_len (.l2i) = len) (hT : gw_okT M.1 pc (.l2i) t cs = true) {L : gw_L} {st : List Value} {h : gw_H} {s' : gw_S} (hs : gw_ins M.1 M.2.2.2.2.2.2.1 (.l2i) t cs pc L st h = some s')
    (d : gw_Dy D ca z0 ro rc M.2.2.2.1 nb zb s L st h ls H locs cells slots) (hfr : 1 ≤ R.frames ∧ 64 ≤ R.locals) (hrc : s'.2.2.2.2.1 ≤ nb + R.cells) (hrs : s'.2.2.2.2.2 ≤ zb + R.slots)
    (kk : ∀ (ls' : Array Slot) (H' : Heap) (locs' : List Loc) (cells' slots' : Nat), gw_Dy D ca z0 ro rc M.2.2.2.1 nb zb s s'.2.1 s'.2.2.1 s'.2.2.2 ls' H' locs' cells' slots' → W p l e R s mm args below meth c H' locs' cells' slots' Q (F0 mm s'.1 ls' (s'.2.2.1.map (gw_rv (gw_rho z0 ro))))) :
    W p l e R s mm args below meth c H locs cells slots Q (F0 mm pc ls (st.map (gw_rv (gw_rho z0 ro)))) := by
  obtain ⟨hx, hb, hml, hown, hts, hinit, hSR⟩ := cx
  obtain ⟨d1, d2, d3, d4, d5, d6, d7⟩ := d
  have hl := gw_len_of 0 hlen rfl
  subst hl
  obtain ⟨x, r, hst, hq⟩ := gw_l1_some hs
  clear hs
  subst hst
  have hs := hq
  clear hq
  cases hs
  exact lv_l2i hx hb hd rfl (kk _ _ _ _ _ ⟨d1, d2, d3, gw_okS_c gw_ok_i (gw_okS_tl d4), d5, d6, d7⟩)
set_option maxHeartbeats 4000000 in
theorem gs_goto (cx : gw_Cx D ca z0 ro rc M p s mm args meth c) {pc len t : Nat} {z : Int} {cs : Int32} (hd : decode M.2.2.1 pc = .ok (.goto z, len)) (hlen : gw_len (.goto z) = 0 ∨ gw_len (.goto z) = len) (hT : gw_okT M.1 pc (.goto z) t cs = true) {L : gw_L} {st : List Value} {h : gw_H} {s' : gw_S} (hs : gw_ins M.1 M.2.2.2.2.2.2.1 (.goto z) t cs pc L st h = some s')
    (d : gw_Dy D ca z0 ro rc M.2.2.2.1 nb zb s L st h ls H locs cells slots) (hfr : 1 ≤ R.frames ∧ 64 ≤ R.locals) (hrc : s'.2.2.2.2.1 ≤ nb + R.cells) (hrs : s'.2.2.2.2.2 ≤ zb + R.slots)
    (kk : ∀ (ls' : Array Slot) (H' : Heap) (locs' : List Loc) (cells' slots' : Nat), gw_Dy D ca z0 ro rc M.2.2.2.1 nb zb s s'.2.1 s'.2.2.1 s'.2.2.2 ls' H' locs' cells' slots' → W p l e R s mm args below meth c H' locs' cells' slots' Q (F0 mm s'.1 ls' (s'.2.2.1.map (gw_rv (gw_rho z0 ro))))) :
    W p l e R s mm args below meth c H locs cells slots Q (F0 mm pc ls (st.map (gw_rv (gw_rho z0 ro)))) := by
  obtain ⟨hx, hb, hml, hown, hts, hinit, hSR⟩ := cx
  obtain ⟨d1, d2, d3, d4, d5, d6, d7⟩ := d
  have hl := gw_len_of 2 hlen rfl
  subst hl
  cases hs
  exact lv_goto hx hb hd (of_decide_eq_true hT) (kk _ _ _ _ _ ⟨d1, d2, d3, d4, d5, d6, d7⟩)
set_option maxHeartbeats 4000000 in
theorem gs_if_eq (cx : gw_Cx D ca z0 ro rc M p s mm args meth c) {pc len t : Nat} {z : Int} {cs : Int32} (hd : decode M.2.2.1 pc = .ok (.ifCond .eq z, len)) (hlen : gw_len (.ifCond .eq z) = 0 ∨ gw_len (.ifCond .eq z) = len) (hT : gw_okT M.1 pc (.ifCond .eq z) t cs = true) {L : gw_L} {st : List Value} {h : gw_H} {s' : gw_S} (hs : gw_ins M.1 M.2.2.2.2.2.2.1 (.ifCond .eq z) t cs pc L st h = some s')
    (d : gw_Dy D ca z0 ro rc M.2.2.2.1 nb zb s L st h ls H locs cells slots) (hfr : 1 ≤ R.frames ∧ 64 ≤ R.locals) (hrc : s'.2.2.2.2.1 ≤ nb + R.cells) (hrs : s'.2.2.2.2.2 ≤ zb + R.slots)
    (kk : ∀ (ls' : Array Slot) (H' : Heap) (locs' : List Loc) (cells' slots' : Nat), gw_Dy D ca z0 ro rc M.2.2.2.1 nb zb s s'.2.1 s'.2.2.1 s'.2.2.2 ls' H' locs' cells' slots' → W p l e R s mm args below meth c H' locs' cells' slots' Q (F0 mm s'.1 ls' (s'.2.2.1.map (gw_rv (gw_rho z0 ro))))) :
    W p l e R s mm args below meth c H locs cells slots Q (F0 mm pc ls (st.map (gw_rv (gw_rho z0 ro)))) := by
  obtain ⟨hx, hb, hml, hown, hts, hinit, hSR⟩ := cx
  obtain ⟨d1, d2, d3, d4, d5, d6, d7⟩ := d
  have hl := gw_len_of 2 hlen rfl
  subst hl
  obtain ⟨x, r, hst, hq⟩ := gw_i1_some hs
  clear hs
  subst hst
  have hs := hq
  clear hq
  cases hs
  have k := kk ls H locs cells slots ⟨d1, d2, d3, gw_okS_tl d4, d5, d6, d7⟩
  exact lv_if_eq hx hb hd (of_decide_eq_true hT) (fun hp => by simp only [if_pos hp] at k; exact k) (fun hp => by simp only [if_neg hp] at k; exact k)
set_option maxHeartbeats 4000000 in
theorem gs_icmp_eq (cx : gw_Cx D ca z0 ro rc M p s mm args meth c) {pc len t : Nat} {z : Int} {cs : Int32} (hd : decode M.2.2.1 pc = .ok (.if_icmp .eq z, len)) (hlen : gw_len (.if_icmp .eq z) = 0 ∨ gw_len (.if_icmp .eq z) = len) (hT : gw_okT M.1 pc (.if_icmp .eq z) t cs = true) {L : gw_L} {st : List Value} {h : gw_H} {s' : gw_S} (hs : gw_ins M.1 M.2.2.2.2.2.2.1 (.if_icmp .eq z) t cs pc L st h = some s')
    (d : gw_Dy D ca z0 ro rc M.2.2.2.1 nb zb s L st h ls H locs cells slots) (hfr : 1 ≤ R.frames ∧ 64 ≤ R.locals) (hrc : s'.2.2.2.2.1 ≤ nb + R.cells) (hrs : s'.2.2.2.2.2 ≤ zb + R.slots)
    (kk : ∀ (ls' : Array Slot) (H' : Heap) (locs' : List Loc) (cells' slots' : Nat), gw_Dy D ca z0 ro rc M.2.2.2.1 nb zb s s'.2.1 s'.2.2.1 s'.2.2.2 ls' H' locs' cells' slots' → W p l e R s mm args below meth c H' locs' cells' slots' Q (F0 mm s'.1 ls' (s'.2.2.1.map (gw_rv (gw_rho z0 ro))))) :
    W p l e R s mm args below meth c H locs cells slots Q (F0 mm pc ls (st.map (gw_rv (gw_rho z0 ro)))) := by
  obtain ⟨hx, hb, hml, hown, hts, hinit, hSR⟩ := cx
  obtain ⟨d1, d2, d3, d4, d5, d6, d7⟩ := d
  have hl := gw_len_of 2 hlen rfl
  subst hl
  obtain ⟨x, y, r, hst, hq⟩ := gw_ii_some hs
  clear hs
  subst hst
  have hs := hq
  clear hq
  cases hs
  have k := kk ls H locs cells slots ⟨d1, d2, d3, gw_okS_tl (gw_okS_tl d4), d5, d6, d7⟩
  exact lv_icmp_eq hx hb hd (of_decide_eq_true hT) (fun hp => by simp only [if_pos hp] at k; exact k) (fun hp => by simp only [if_neg hp] at k; exact k)
set_option maxHeartbeats 4000000 in
theorem gs_if_ne (cx : gw_Cx D ca z0 ro rc M p s mm args meth c) {pc len t : Nat} {z : Int} {cs : Int32} (hd : decode M.2.2.1 pc = .ok (.ifCond .ne z, len)) (hlen : gw_len (.ifCond .ne z) = 0 ∨ gw_len (.ifCond .ne z) = len) (hT : gw_okT M.1 pc (.ifCond .ne z) t cs = true) {L : gw_L} {st : List Value} {h : gw_H} {s' : gw_S} (hs : gw_ins M.1 M.2.2.2.2.2.2.1 (.ifCond .ne z) t cs pc L st h = some s')
    (d : gw_Dy D ca z0 ro rc M.2.2.2.1 nb zb s L st h ls H locs cells slots) (hfr : 1 ≤ R.frames ∧ 64 ≤ R.locals) (hrc : s'.2.2.2.2.1 ≤ nb + R.cells) (hrs : s'.2.2.2.2.2 ≤ zb + R.slots)
    (kk : ∀ (ls' : Array Slot) (H' : Heap) (locs' : List Loc) (cells' slots' : Nat), gw_Dy D ca z0 ro rc M.2.2.2.1 nb zb s s'.2.1 s'.2.2.1 s'.2.2.2 ls' H' locs' cells' slots' → W p l e R s mm args below meth c H' locs' cells' slots' Q (F0 mm s'.1 ls' (s'.2.2.1.map (gw_rv (gw_rho z0 ro))))) :
    W p l e R s mm args below meth c H locs cells slots Q (F0 mm pc ls (st.map (gw_rv (gw_rho z0 ro)))) := by
  obtain ⟨hx, hb, hml, hown, hts, hinit, hSR⟩ := cx
  obtain ⟨d1, d2, d3, d4, d5, d6, d7⟩ := d
  have hl := gw_len_of 2 hlen rfl
  subst hl
  obtain ⟨x, r, hst, hq⟩ := gw_i1_some hs
  clear hs
  subst hst
  have hs := hq
  clear hq
  cases hs
  have k := kk ls H locs cells slots ⟨d1, d2, d3, gw_okS_tl d4, d5, d6, d7⟩
  exact lv_if_ne hx hb hd (of_decide_eq_true hT) (fun hp => by simp only [if_neg hp] at k; exact k) (fun hp => by simp only [if_pos hp] at k; exact k)
set_option maxHeartbeats 4000000 in
theorem gs_icmp_ne (cx : gw_Cx D ca z0 ro rc M p s mm args meth c) {pc len t : Nat} {z : Int} {cs : Int32} (hd : decode M.2.2.1 pc = .ok (.if_icmp .ne z, len)) (hlen : gw_len (.if_icmp .ne z) = 0 ∨ gw_len (.if_icmp .ne z) = len) (hT : gw_okT M.1 pc (.if_icmp .ne z) t cs = true) {L : gw_L} {st : List Value} {h : gw_H} {s' : gw_S} (hs : gw_ins M.1 M.2.2.2.2.2.2.1 (.if_icmp .ne z) t cs pc L st h = some s')
    (d : gw_Dy D ca z0 ro rc M.2.2.2.1 nb zb s L st h ls H locs cells slots) (hfr : 1 ≤ R.frames ∧ 64 ≤ R.locals) (hrc : s'.2.2.2.2.1 ≤ nb + R.cells) (hrs : s'.2.2.2.2.2 ≤ zb + R.slots)
    (kk : ∀ (ls' : Array Slot) (H' : Heap) (locs' : List Loc) (cells' slots' : Nat), gw_Dy D ca z0 ro rc M.2.2.2.1 nb zb s s'.2.1 s'.2.2.1 s'.2.2.2 ls' H' locs' cells' slots' → W p l e R s mm args below meth c H' locs' cells' slots' Q (F0 mm s'.1 ls' (s'.2.2.1.map (gw_rv (gw_rho z0 ro))))) :
    W p l e R s mm args below meth c H locs cells slots Q (F0 mm pc ls (st.map (gw_rv (gw_rho z0 ro)))) := by
  obtain ⟨hx, hb, hml, hown, hts, hinit, hSR⟩ := cx
  obtain ⟨d1, d2, d3, d4, d5, d6, d7⟩ := d
  have hl := gw_len_of 2 hlen rfl
  subst hl
  obtain ⟨x, y, r, hst, hq⟩ := gw_ii_some hs
  clear hs
  subst hst
  have hs := hq
  clear hq
  cases hs
  have k := kk ls H locs cells slots ⟨d1, d2, d3, gw_okS_tl (gw_okS_tl d4), d5, d6, d7⟩
  exact lv_icmp_ne hx hb hd (of_decide_eq_true hT) (fun hp => by simp only [if_neg hp] at k; exact k) (fun hp => by simp only [if_pos hp] at k; exact k)
set_option maxHeartbeats 4000000 in
theorem gs_if_lt (cx : gw_Cx D ca z0 ro rc M p s mm args meth c) {pc len t : Nat} {z : Int} {cs : Int32} (hd : decode M.2.2.1 pc = .ok (.ifCond .lt z, len)) (hlen : gw_len (.ifCond .lt z) = 0 ∨ gw_len (.ifCond .lt z) = len) (hT : gw_okT M.1 pc (.ifCond .lt z) t cs = true) {L : gw_L} {st : List Value} {h : gw_H} {s' : gw_S} (hs : gw_ins M.1 M.2.2.2.2.2.2.1 (.ifCond .lt z) t cs pc L st h = some s')
    (d : gw_Dy D ca z0 ro rc M.2.2.2.1 nb zb s L st h ls H locs cells slots) (hfr : 1 ≤ R.frames ∧ 64 ≤ R.locals) (hrc : s'.2.2.2.2.1 ≤ nb + R.cells) (hrs : s'.2.2.2.2.2 ≤ zb + R.slots)
    (kk : ∀ (ls' : Array Slot) (H' : Heap) (locs' : List Loc) (cells' slots' : Nat), gw_Dy D ca z0 ro rc M.2.2.2.1 nb zb s s'.2.1 s'.2.2.1 s'.2.2.2 ls' H' locs' cells' slots' → W p l e R s mm args below meth c H' locs' cells' slots' Q (F0 mm s'.1 ls' (s'.2.2.1.map (gw_rv (gw_rho z0 ro))))) :
    W p l e R s mm args below meth c H locs cells slots Q (F0 mm pc ls (st.map (gw_rv (gw_rho z0 ro)))) := by
  obtain ⟨hx, hb, hml, hown, hts, hinit, hSR⟩ := cx
  obtain ⟨d1, d2, d3, d4, d5, d6, d7⟩ := d
  have hl := gw_len_of 2 hlen rfl
  subst hl
  obtain ⟨x, r, hst, hq⟩ := gw_i1_some hs
  clear hs
  subst hst
  have hs := hq
  clear hq
  cases hs
  have k := kk ls H locs cells slots ⟨d1, d2, d3, gw_okS_tl d4, d5, d6, d7⟩
  exact lv_if_lt hx hb hd (of_decide_eq_true hT) (fun hp => by simp only [if_pos hp] at k; exact k) (fun hp => by simp only [if_neg hp] at k; exact k)
set_option maxHeartbeats 4000000 in
theorem gs_icmp_lt (cx : gw_Cx D ca z0 ro rc M p s mm args meth c) {pc len t : Nat} {z : Int} {cs : Int32} (hd : decode M.2.2.1 pc = .ok (.if_icmp .lt z, len)) (hlen : gw_len (.if_icmp .lt z) = 0 ∨ gw_len (.if_icmp .lt z) = len) (hT : gw_okT M.1 pc (.if_icmp .lt z) t cs = true) {L : gw_L} {st : List Value} {h : gw_H} {s' : gw_S} (hs : gw_ins M.1 M.2.2.2.2.2.2.1 (.if_icmp .lt z) t cs pc L st h = some s')
    (d : gw_Dy D ca z0 ro rc M.2.2.2.1 nb zb s L st h ls H locs cells slots) (hfr : 1 ≤ R.frames ∧ 64 ≤ R.locals) (hrc : s'.2.2.2.2.1 ≤ nb + R.cells) (hrs : s'.2.2.2.2.2 ≤ zb + R.slots)
    (kk : ∀ (ls' : Array Slot) (H' : Heap) (locs' : List Loc) (cells' slots' : Nat), gw_Dy D ca z0 ro rc M.2.2.2.1 nb zb s s'.2.1 s'.2.2.1 s'.2.2.2 ls' H' locs' cells' slots' → W p l e R s mm args below meth c H' locs' cells' slots' Q (F0 mm s'.1 ls' (s'.2.2.1.map (gw_rv (gw_rho z0 ro))))) :
    W p l e R s mm args below meth c H locs cells slots Q (F0 mm pc ls (st.map (gw_rv (gw_rho z0 ro)))) := by
  obtain ⟨hx, hb, hml, hown, hts, hinit, hSR⟩ := cx
  obtain ⟨d1, d2, d3, d4, d5, d6, d7⟩ := d
  have hl := gw_len_of 2 hlen rfl
  subst hl
  obtain ⟨x, y, r, hst, hq⟩ := gw_ii_some hs
  clear hs
  subst hst
  have hs := hq
  clear hq
  cases hs
  have k := kk ls H locs cells slots ⟨d1, d2, d3, gw_okS_tl (gw_okS_tl d4), d5, d6, d7⟩
  exact lv_icmp_lt hx hb hd (of_decide_eq_true hT) (fun hp => by simp only [if_pos hp] at k; exact k) (fun hp => by simp only [if_neg hp] at k; exact k)
set_option maxHeartbeats 4000000 in
theorem gs_if_ge (cx : gw_Cx D ca z0 ro rc M p s mm args meth c) {pc len t : Nat} {z : Int} {cs : Int32} (hd : decode M.2.2.1 pc = .ok (.ifCond .ge z, len)) (hlen : gw_len (.ifCond .ge z) = 0 ∨ gw_len (.ifCond .ge z) = len) (hT : gw_okT M.1 pc (.ifCond .ge z) t cs = true) {L : gw_L} {st : List Value} {h : gw_H} {s' : gw_S} (hs : gw_ins M.1 M.2.2.2.2.2.2.1 (.ifCond .ge z) t cs pc L st h = some s')
    (d : gw_Dy D ca z0 ro rc M.2.2.2.1 nb zb s L st h ls H locs cells slots) (hfr : 1 ≤ R.frames ∧ 64 ≤ R.locals) (hrc : s'.2.2.2.2.1 ≤ nb + R.cells) (hrs : s'.2.2.2.2.2 ≤ zb + R.slots)
    (kk : ∀ (ls' : Array Slot) (H' : Heap) (locs' : List Loc) (cells' slots' : Nat), gw_Dy D ca z0 ro rc M.2.2.2.1 nb zb s s'.2.1 s'.2.2.1 s'.2.2.2 ls' H' locs' cells' slots' → W p l e R s mm args below meth c H' locs' cells' slots' Q (F0 mm s'.1 ls' (s'.2.2.1.map (gw_rv (gw_rho z0 ro))))) :
    W p l e R s mm args below meth c H locs cells slots Q (F0 mm pc ls (st.map (gw_rv (gw_rho z0 ro)))) := by
  obtain ⟨hx, hb, hml, hown, hts, hinit, hSR⟩ := cx
  obtain ⟨d1, d2, d3, d4, d5, d6, d7⟩ := d
  have hl := gw_len_of 2 hlen rfl
  subst hl
  obtain ⟨x, r, hst, hq⟩ := gw_i1_some hs
  clear hs
  subst hst
  have hs := hq
  clear hq
  cases hs
  have k := kk ls H locs cells slots ⟨d1, d2, d3, gw_okS_tl d4, d5, d6, d7⟩
  exact lv_if_ge hx hb hd (of_decide_eq_true hT) (fun hp => by simp only [if_pos hp] at k; exact k) (fun hp => by simp only [if_neg hp] at k; exact k)
set_option maxHeartbeats 4000000 in
theorem gs_icmp_ge (cx : gw_Cx D ca z0 ro rc M p s mm args meth c) {pc len t : Nat} {z : Int} {cs : Int32} (hd : decode M.2.2.1 pc = .ok (.if_icmp .ge z, len)) (hlen : gw_len (.if_icmp .ge z) = 0 ∨ gw_len (.if_icmp .ge z) = len) (hT : gw_okT M.1 pc (.if_icmp .ge z) t cs = true) {L : gw_L} {st : List Value} {h : gw_H} {s' : gw_S} (hs : gw_ins M.1 M.2.2.2.2.2.2.1 (.if_icmp .ge z) t cs pc L st h = some s')
    (d : gw_Dy D ca z0 ro rc M.2.2.2.1 nb zb s L st h ls H locs cells slots) (hfr : 1 ≤ R.frames ∧ 64 ≤ R.locals) (hrc : s'.2.2.2.2.1 ≤ nb + R.cells) (hrs : s'.2.2.2.2.2 ≤ zb + R.slots)
    (kk : ∀ (ls' : Array Slot) (H' : Heap) (locs' : List Loc) (cells' slots' : Nat), gw_Dy D ca z0 ro rc M.2.2.2.1 nb zb s s'.2.1 s'.2.2.1 s'.2.2.2 ls' H' locs' cells' slots' → W p l e R s mm args below meth c H' locs' cells' slots' Q (F0 mm s'.1 ls' (s'.2.2.1.map (gw_rv (gw_rho z0 ro))))) :
    W p l e R s mm args below meth c H locs cells slots Q (F0 mm pc ls (st.map (gw_rv (gw_rho z0 ro)))) := by
  obtain ⟨hx, hb, hml, hown, hts, hinit, hSR⟩ := cx
  obtain ⟨d1, d2, d3, d4, d5, d6, d7⟩ := d
  have hl := gw_len_of 2 hlen rfl
  subst hl
  obtain ⟨x, y, r, hst, hq⟩ := gw_ii_some hs
  clear hs
  subst hst
  have hs := hq
  clear hq
  cases hs
  have k := kk ls H locs cells slots ⟨d1, d2, d3, gw_okS_tl (gw_okS_tl d4), d5, d6, d7⟩
  exact lv_icmp_ge hx hb hd (of_decide_eq_true hT) (fun hp => by simp only [if_pos hp] at k; exact k) (fun hp => by simp only [if_neg hp] at k; exact k)
set_option maxHeartbeats 4000000 in
theorem gs_if_gt (cx : gw_Cx D ca z0 ro rc M p s mm args meth c) {pc len t : Nat} {z : Int} {cs : Int32} (hd : decode M.2.2.1 pc = .ok (.ifCond .gt z, len)) (hlen : gw_len (.ifCond .gt z) = 0 ∨ gw_len (.ifCond .gt z) = len) (hT : gw_okT M.1 pc (.ifCond .gt z) t cs = true) {L : gw_L} {st : List Value} {h : gw_H} {s' : gw_S} (hs : gw_ins M.1 M.2.2.2.2.2.2.1 (.ifCond .gt z) t cs pc L st h = some s')
    (d : gw_Dy D ca z0 ro rc M.2.2.2.1 nb zb s L st h ls H locs cells slots) (hfr : 1 ≤ R.frames ∧ 64 ≤ R.locals) (hrc : s'.2.2.2.2.1 ≤ nb + R.cells) (hrs : s'.2.2.2.2.2 ≤ zb + R.slots)
    (kk : ∀ (ls' : Array Slot) (H' : Heap) (locs' : List Loc) (cells' slots' : Nat), gw_Dy D ca z0 ro rc M.2.2.2.1 nb zb s s'.2.1 s'.2.2.1 s'.2.2.2 ls' H' locs' cells' slots' → W p l e R s mm args below meth c H' locs' cells' slots' Q (F0 mm s'.1 ls' (s'.2.2.1.map (gw_rv (gw_rho z0 ro))))) :
    W p l e R s mm args below meth c H locs cells slots Q (F0 mm pc ls (st.map (gw_rv (gw_rho z0 ro)))) := by
  obtain ⟨hx, hb, hml, hown, hts, hinit, hSR⟩ := cx
  obtain ⟨d1, d2, d3, d4, d5, d6, d7⟩ := d
  have hl := gw_len_of 2 hlen rfl
  subst hl
  obtain ⟨x, r, hst, hq⟩ := gw_i1_some hs
  clear hs
  subst hst
  have hs := hq
  clear hq
  cases hs
  have k := kk ls H locs cells slots ⟨d1, d2, d3, gw_okS_tl d4, d5, d6, d7⟩
  exact lv_if_gt hx hb hd (of_decide_eq_true hT) (fun hp => by simp only [if_pos hp] at k; exact k) (fun hp => by simp only [if_neg hp] at k; exact k)
set_option maxHeartbeats 4000000 in
theorem gs_icmp_gt (cx : gw_Cx D ca z0 ro rc M p s mm args meth c) {pc len t : Nat} {z : Int} {cs : Int32} (hd : decode M.2.2.1 pc = .ok (.if_icmp .gt z, len)) (hlen : gw_len (.if_icmp .gt z) = 0 ∨ gw_len (.if_icmp .gt z) = len) (hT : gw_okT M.1 pc (.if_icmp .gt z) t cs = true) {L : gw_L} {st : List Value} {h : gw_H} {s' : gw_S} (hs : gw_ins M.1 M.2.2.2.2.2.2.1 (.if_icmp .gt z) t cs pc L st h = some s')
    (d : gw_Dy D ca z0 ro rc M.2.2.2.1 nb zb s L st h ls H locs cells slots) (hfr : 1 ≤ R.frames ∧ 64 ≤ R.locals) (hrc : s'.2.2.2.2.1 ≤ nb + R.cells) (hrs : s'.2.2.2.2.2 ≤ zb + R.slots)
    (kk : ∀ (ls' : Array Slot) (H' : Heap) (locs' : List Loc) (cells' slots' : Nat), gw_Dy D ca z0 ro rc M.2.2.2.1 nb zb s s'.2.1 s'.2.2.1 s'.2.2.2 ls' H' locs' cells' slots' → W p l e R s mm args below meth c H' locs' cells' slots' Q (F0 mm s'.1 ls' (s'.2.2.1.map (gw_rv (gw_rho z0 ro))))) :
    W p l e R s mm args below meth c H locs cells slots Q (F0 mm pc ls (st.map (gw_rv (gw_rho z0 ro)))) := by
  obtain ⟨hx, hb, hml, hown, hts, hinit, hSR⟩ := cx
  obtain ⟨d1, d2, d3, d4, d5, d6, d7⟩ := d
  have hl := gw_len_of 2 hlen rfl
  subst hl
  obtain ⟨x, y, r, hst, hq⟩ := gw_ii_some hs
  clear hs
  subst hst
  have hs := hq
  clear hq
  cases hs
  have k := kk ls H locs cells slots ⟨d1, d2, d3, gw_okS_tl (gw_okS_tl d4), d5, d6, d7⟩
  exact lv_icmp_gt hx hb hd (of_decide_eq_true hT) (fun hp => by simp only [if_pos hp] at k; exact k) (fun hp => by simp only [if_neg hp] at k; exact k)
set_option maxHeartbeats 4000000 in
theorem gs_if_le (cx : gw_Cx D ca z0 ro rc M p s mm args meth c) {pc len t : Nat} {z : Int} {cs : Int32} (hd : decode M.2.2.1 pc = .ok (.ifCond .le z, len)) (hlen : gw_len (.ifCond .le z) = 0 ∨ gw_len (.ifCond .le z) = len) (hT : gw_okT M.1 pc (.ifCond .le z) t cs = true) {L : gw_L} {st : List Value} {h : gw_H} {s' : gw_S} (hs : gw_ins M.1 M.2.2.2.2.2.2.1 (.ifCond .le z) t cs pc L st h = some s')
    (d : gw_Dy D ca z0 ro rc M.2.2.2.1 nb zb s L st h ls H locs cells slots) (hfr : 1 ≤ R.frames ∧ 64 ≤ R.locals) (hrc : s'.2.2.2.2.1 ≤ nb + R.cells) (hrs : s'.2.2.2.2.2 ≤ zb + R.slots)
    (kk : ∀ (ls' : Array Slot) (H' : Heap) (locs' : List Loc) (cells' slots' : Nat), gw_Dy D ca z0 ro rc M.2.2.2.1 nb zb s s'.2.1 s'.2.2.1 s'.2.2.2 ls' H' locs' cells' slots' → W p l e R s mm args below meth c H' locs' cells' slots' Q (F0 mm s'.1 ls' (s'.2.2.1.map (gw_rv (gw_rho z0 ro))))) :
    W p l e R s mm args below meth c H locs cells slots Q (F0 mm pc ls (st.map (gw_rv (gw_rho z0 ro)))) := by
  obtain ⟨hx, hb, hml, hown, hts, hinit, hSR⟩ := cx
  obtain ⟨d1, d2, d3, d4, d5, d6, d7⟩ := d
  have hl := gw_len_of 2 hlen rfl
  subst hl
  obtain ⟨x, r, hst, hq⟩ := gw_i1_some hs
  clear hs
  subst hst
  have hs := hq
  clear hq
  cases hs
  have k := kk ls H locs cells slots ⟨d1, d2, d3, gw_okS_tl d4, d5, d6, d7⟩
  exact lv_if_le hx hb hd (of_decide_eq_true hT) (fun hp => by simp only [if_pos hp] at k; exact k) (fun hp => by simp only [if_neg hp] at k; exact k)
set_option maxHeartbeats 4000000 in
theorem gs_icmp_le (cx : gw_Cx D ca z0 ro rc M p s mm args meth c) {pc len t : Nat} {z : Int} {cs : Int32} (hd : decode M.2.2.1 pc = .ok (.if_icmp .le z, len)) (hlen : gw_len (.if_icmp .le z) = 0 ∨ gw_len (.if_icmp .le z) = len) (hT : gw_okT M.1 pc (.if_icmp .le z) t cs = true) {L : gw_L} {st : List Value} {h : gw_H} {s' : gw_S} (hs : gw_ins M.1 M.2.2.2.2.2.2.1 (.if_icmp .le z) t cs pc L st h = some s')
    (d : gw_Dy D ca z0 ro rc M.2.2.2.1 nb zb s L st h ls H locs cells slots) (hfr : 1 ≤ R.frames ∧ 64 ≤ R.locals) (hrc : s'.2.2.2.2.1 ≤ nb + R.cells) (hrs : s'.2.2.2.2.2 ≤ zb + R.slots)
    (kk : ∀ (ls' : Array Slot) (H' : Heap) (locs' : List Loc) (cells' slots' : Nat), gw_Dy D ca z0 ro rc M.2.2.2.1 nb zb s s'.2.1 s'.2.2.1 s'.2.2.2 ls' H' locs' cells' slots' → W p l e R s mm args below meth c H' locs' cells' slots' Q (F0 mm s'.1 ls' (s'.2.2.1.map (gw_rv (gw_rho z0 ro))))) :
    W p l e R s mm args below meth c H locs cells slots Q (F0 mm pc ls (st.map (gw_rv (gw_rho z0 ro)))) := by
  obtain ⟨hx, hb, hml, hown, hts, hinit, hSR⟩ := cx
  obtain ⟨d1, d2, d3, d4, d5, d6, d7⟩ := d
  have hl := gw_len_of 2 hlen rfl
  subst hl
  obtain ⟨x, y, r, hst, hq⟩ := gw_ii_some hs
  clear hs
  subst hst
  have hs := hq
  clear hq
  cases hs
  have k := kk ls H locs cells slots ⟨d1, d2, d3, gw_okS_tl (gw_okS_tl d4), d5, d6, d7⟩
  exact lv_icmp_le hx hb hd (of_decide_eq_true hT) (fun hp => by simp only [if_pos hp] at k; exact k) (fun hp => by simp only [if_neg hp] at k; exact k)
set_option maxHeartbeats 4000000 in
theorem gs_tsw (cx : gw_Cx D ca z0 ro rc M p s mm args meth c) {pc len t : Nat} {df : Int} {lo : Int} {hi : Int} {offs : Array Int} {cs : Int32} (hd : decode M.2.2.1 pc = .ok (.tableswitch df lo hi offs, len)) (hlen : gw_len (.tableswitch df lo hi offs) = 0 ∨ gw_len (.tableswitch df lo hi offs) = len) (hT : gw_okT M.1 pc (.tableswitch df lo hi offs) t cs = true) {L : gw_L} {st : List Value} {h : gw_H} {s' : gw_S} (hs : gw_ins M.1 M.2.2.2.2.2.2.1 (.tableswitch df lo hi offs) t cs pc L st h = some s')
    (d : gw_Dy D ca z0 ro rc M.2.2.2.1 nb zb s L st h ls H locs cells slots) (hfr : 1 ≤ R.frames ∧ 64 ≤ R.locals) (hrc : s'.2.2.2.2.1 ≤ nb + R.cells) (hrs : s'.2.2.2.2.2 ≤ zb + R.slots)
    (kk : ∀ (ls' : Array Slot) (H' : Heap) (locs' : List Loc) (cells' slots' : Nat), gw_Dy D ca z0 ro rc M.2.2.2.1 nb zb s s'.2.1 s'.2.2.1 s'.2.2.2 ls' H' locs' cells' slots' → W p l e R s mm args below meth c H' locs' cells' slots' Q (F0 mm s'.1 ls' (s'.2.2.1.map (gw_rv (gw_rho z0 ro))))) :
    W p l e R s mm args below meth c H locs cells slots Q (F0 mm pc ls (st.map (gw_rv (gw_rho z0 ro)))) := by
  obtain ⟨hx, hb, hml, hown, hts, hinit, hSR⟩ := cx
  obtain ⟨d1, d2, d3, d4, d5, d6, d7⟩ := d
  obtain ⟨x, r, hst, hq⟩ := gw_i1_some hs
  clear hs
  subst hst
  have hs := hq
  clear hq
  cases hs
  have k := kk ls H locs cells slots ⟨d1, d2, d3, gw_okS_tl d4, d5, d6, d7⟩
  simp only [gw_okT, Bool.and_eq_true, decide_eq_true_eq, List.all_eq_true] at hT
  obtain ⟨⟨t1, t2⟩, t3⟩ := hT
  dsimp only [gw_tsw] at k
  by_cases ho : x.toInt < lo ∨ hi < x.toInt
  · rw [if_pos ho] at k
    exact lv_tableOut hx hb hd ho (by omega) k
  · rw [if_neg ho] at k
    have hlt : (x.toInt - lo).toNat < offs.size := by omega
    rw [Array.getElem?_eq_getElem hlt] at k
    dsimp only at k
    have t4 := t2 _ (Array.getElem_mem_toList hlt)
    exact lv_tableIn hx hb hd (fun q => ho (Or.inl q)) (fun q => ho (Or.inr q)) (Array.getElem?_eq_getElem hlt) (by omega) k
set_option maxHeartbeats 4000000 in
theorem gs_lsw (cx : gw_Cx D ca z0 ro rc M p s mm args meth c) {pc len t : Nat} {df : Int} {ps : Array (Int × Int)} {cs : Int32} (hd : decode M.2.2.1 pc = .ok (.lookupswitch df ps, len)) (hlen : gw_len (.lookupswitch df ps) = 0 ∨ gw_len (.lookupswitch df ps) = len) (hT : gw_okT M.1 pc (.lookupswitch df ps) t cs = true) {L : gw_L} {st : List Value} {h : gw_H} {s' : gw_S} (hs : gw_ins M.1 M.2.2.2.2.2.2.1 (.lookupswitch df ps) t cs pc L st h = some s')
    (d : gw_Dy D ca z0 ro rc M.2.2.2.1 nb zb s L st h ls H locs cells slots) (hfr : 1 ≤ R.frames ∧ 64 ≤ R.locals) (hrc : s'.2.2.2.2.1 ≤ nb + R.cells) (hrs : s'.2.2.2.2.2 ≤ zb + R.slots)
    (kk : ∀ (ls' : Array Slot) (H' : Heap) (locs' : List Loc) (cells' slots' : Nat), gw_Dy D ca z0 ro rc M.2.2.2.1 nb zb s s'.2.1 s'.2.2.1 s'.2.2.2 ls' H' locs' cells' slots' → W p l e R s mm args below meth c H' locs' cells' slots' Q (F0 mm s'.1 ls' (s'.2.2.1.map (gw_rv (gw_rho z0 ro))))) :
    W p l e R s mm args below meth c H locs cells slots Q (F0 mm pc ls (st.map (gw_rv (gw_rho z0 ro)))) := by
  obtain ⟨hx, hb, hml, hown, hts, hinit, hSR⟩ := cx
  obtain ⟨d1, d2, d3, d4, d5, d6, d7⟩ := d
  obtain ⟨x, r, hst, hq⟩ := gw_i1_some hs
  clear hs
  subst hst
  have hs := hq
  clear hq
  cases hs
  have k := kk ls H locs cells slots ⟨d1, d2, d3, gw_okS_tl d4, d5, d6, d7⟩
  simp only [gw_okT, Bool.and_eq_true, decide_eq_true_eq, List.all_eq_true (p := fun x : Int × Int => decide (0 ≤ (pc : Int) + x.2))] at hT
  obtain ⟨⟨t1, t2⟩, t3⟩ := hT
  have t4 : 0 ≤ (pc : Int) + Op.lookupswitch.offset ps.toList df x.toInt := gw_lsw_off t1 t2
  exact lv_lookup hx hb hd t3 rfl (by omega) k
set_option maxHeartbeats 4000000 in
theorem gs_dup (cx : gw_Cx D ca z0 ro rc M p s mm args meth c) {pc len t : Nat} {cs : Int32} (hd : decode M.2.2.1 pc = .ok (.dup, len)) (hlen : gw_len (.dup) = 0 ∨ gw_len (.dup) = len) (hT : gw_okT M.1 pc (.dup) t cs = true) {L : gw_L} {st : List Value} {h : gw_H} {s' : gw_S} (hs : gw_ins M.1 M.2.2.2.2.2.2.1 (.dup) t cs pc L st h = some s')
    (d : gw_Dy D ca z0 ro rc M.2.2.2.1 nb zb s L st h ls H locs cells slots) (hfr : 1 ≤ R.frames ∧ 64 ≤ R.locals) (hrc : s'.2.2.2.2.1 ≤ nb + R.cells) (hrs : s'.2.2.2.2.2 ≤ zb + R.slots)
    (kk : ∀ (ls' : Array Slot) (H' : Heap) (locs' : List Loc) (cells' slots' : Nat), gw_Dy D ca z0 ro rc M.2.2.2.1 nb zb s s'.2.1 s'.2.2.1 s'.2.2.2 ls' H' locs' cells' slots' → W p l e R s mm args below meth c H' locs' cells' slots' Q (F0 mm s'.1 ls' (s'.2.2.1.map (gw_rv (gw_rho z0 ro))))) :
    W p l e R s mm args below meth c H locs cells slots Q (F0 mm pc ls (st.map (gw_rv (gw_rho z0 ro)))) := by
  obtain ⟨hx, hb, hml, hown, hts, hinit, hSR⟩ := cx
  obtain ⟨d1, d2, d3, d4, d5, d6, d7⟩ := d
  have hl := gw_len_of 0 hlen rfl
  subst hl
  dsimp only [gw_ins] at hs
  split at hs
  · rename_i v r
    split at hs
    · rename_i hc
      cases hs
      exact lv_dup hx hb hd ((gw_rv_cat _ v).trans hc) (kk _ _ _ _ _ ⟨d1, d2, d3, gw_okS_c (gw_okS_hd d4) d4, d5, d6, d7⟩)
    · cases hs
  · cases hs
set_option maxHeartbeats 4000000 in
theorem gs_dup2 (cx : gw_Cx D ca z0 ro rc M p s mm args meth c) {pc len t : Nat} {cs : Int32} (hd : decode M.2.2.1 pc = .ok (.dup2, len)) (hlen : gw_len (.dup2) = 0 ∨ gw_len (.dup2) = len) (hT : gw_okT M.1 pc (.dup2) t cs = true) {L : gw_L} {st : List Value} {h : gw_H} {s' : gw_S} (hs : gw_ins M.1 M.2.2.2.2.2.2.1 (.dup2) t cs pc L st h = some s')
    (d : gw_Dy D ca z0 ro rc M.2.2.2.1 nb zb s L st h ls H locs cells slots) (hfr : 1 ≤ R.frames ∧ 64 ≤ R.locals) (hrc : s'.2.2.2.2.1 ≤ nb + R.cells) (hrs : s'.2.2.2.2.2 ≤ zb + R.slots)
    (kk : ∀ (ls' : Array Slot) (H' : Heap) (locs' : List Loc) (cells' slots' : Nat), gw_Dy D ca z0 ro rc M.2.2.2.1 nb zb s s'.2.1 s'.2.2.1 s'.2.2.2 ls' H' locs' cells' slots' → W p l e R s mm args below meth c H' locs' cells' slots' Q (F0 mm s'.1 ls' (s'.2.2.1.map (gw_rv (gw_rho z0 ro))))) :
    W p l e R s mm args below meth c H locs cells slots Q (F0 mm pc ls (st.map (gw_rv (gw_rho z0 ro)))) := by
  obtain ⟨hx, hb, hml, hown, hts, hinit, hSR⟩ := cx
  obtain ⟨d1, d2, d3, d4, d5, d6, d7⟩ := d
  have hl := gw_len_of 0 hlen rfl
  subst hl
  dsimp only [gw_ins] at hs
  split at hs
  · rename_i v w r
    split at hs
    · rename_i hc
      cases hs
      exact lv_dup2_11 hx hb hd ((gw_rv_cat _ v).trans hc.1) ((gw_rv_cat _ w).trans hc.2) (kk _ _ _ _ _ ⟨d1, d2, d3, gw_okS_c (gw_okS_hd d4) (gw_okS_c (gw_okS_hd (gw_okS_tl d4)) d4), d5, d6, d7⟩)
    · cases hs
  · cases hs
set_option maxHeartbeats 4000000 in
theorem gs_pop (cx : gw_Cx D ca z0 ro rc M p s mm args meth c) {pc len t : Nat} {cs : Int32} (hd : decode M.2.2.1 pc = .ok (.pop, len)) (hlen : gw_len (.pop) = 0 ∨ gw_len (.pop) = len) (hT : gw_okT M.1 pc (.pop) t cs = true) {L : gw_L} {st : List Value} {h : gw_H} {s' : gw_S} (hs : gw_ins M.1 M.2.2.2.2.2.2.1 (.pop) t cs pc L st h = some s')
    (d : gw_Dy D ca z0 ro rc M.2.2.2.1 nb zb s L st h ls H locs cells slots) (hfr : 1 ≤ R.frames ∧ 64 ≤ R.locals) (hrc : s'.2.2.2.2.1 ≤ nb + R.cells) (hrs : s'.2.2.2.2.2 ≤ zb + R.slots)
    (kk : ∀ (ls' : Array Slot) (H' : Heap) (locs' : List Loc) (cells' slots' : Nat), gw_Dy D ca z0 ro rc M.2.2.2.1 nb zb s s'.2.1 s'.2.2.1 s'.2.2.2 ls' H' locs' cells' slots' → W p l e R s mm args below meth c H' locs' cells' slots' Q (F0 mm s'.1 ls' (s'.2.2.1.map (gw_rv (gw_rho z0 ro))))) :
    W p l e R s mm args below meth c H locs cells slots Q (F0 mm pc ls (st.map (gw_rv (gw_rho z0 ro)))) := by
  obtain ⟨hx, hb, hml, hown, hts, hinit, hSR⟩ := cx
  obtain ⟨d1, d2, d3, d4, d5, d6, d7⟩ := d
  have hl := gw_len_of 0 hlen rfl
  subst hl
  dsimp only [gw_ins] at hs
  split at hs
  · rename_i v r
    split at hs
    · rename_i hc
      cases hs
      exact lv_pop hx hb hd ((gw_rv_cat _ v).trans hc) (kk _ _ _ _ _ ⟨d1, d2, d3, gw_okS_tl d4, d5, d6, d7⟩)
    · cases hs
  · cases hs
set_option maxHeartbeats 4000000 in
theorem gs_getfield (cx : gw_Cx D ca z0 ro rc M p s mm args meth c) {pc len t : Nat} {idx : Nat} {cs : Int32} (hd : decode M.2.2.1 pc = .ok (.getfield idx, len)) (hlen : gw_len (.getfield idx) = 0 ∨ gw_len (.getfield idx) = len) (hT : gw_okT M.1 pc (.getfield idx) t cs = true) {L : gw_L} {st : List Value} {h : gw_H} {s' : gw_S} (hs : gw_ins M.1 M.2.2.2.2.2.2.1 (.getfield idx) t cs pc L st h = some s')
    (d : gw_Dy D ca z0 ro rc M.2.2.2.1 nb zb s L st h ls H locs cells slots) (hfr : 1 ≤ R.frames ∧ 64 ≤ R.locals) (hrc : s'.2.2.2.2.1 ≤ nb + R.cells) (hrs : s'.2.2.2.2.2 ≤ zb + R.slots)
    (kk : ∀ (ls' : Array Slot) (H' : Heap) (locs' : List Loc) (cells' slots' : Nat), gw_Dy D ca z0 ro rc M.2.2.2.1 nb zb s s'.2.1 s'.2.2.1 s'.2.2.2 ls' H' locs' cells' slots' → W p l e R s mm args below meth c H' locs' cells' slots' Q (F0 mm s'.1 ls' (s'.2.2.1.map (gw_rv (gw_rho z0 ro))))) :
    W p l e R s mm args below meth c H locs cells slots Q (F0 mm pc ls (st.map (gw_rv (gw_rho z0 ro)))) := by
  obtain ⟨hx, hb, hml, hown, hts, hinit, hSR⟩ := cx
  obtain ⟨d1, d2, d3, d4, d5, d6, d7⟩ := d
  have hl := gw_len_of 2 hlen rfl
  subst hl
  obtain ⟨ci, k, v0, hp, hs⟩ := gw_fld_some hs
  obtain ⟨a, r, hst, hq⟩ := gw_r1_some hs
  clear hs
  subst hst
  have hs := hq
  clear hq
  obtain ⟨fs, ho, hs⟩ := gw_obj_some hs
  split at hs
  · rename_i v hv
    split at hs
    · rename_i ha
      cases hs
      obtain ⟨C, T, N, hc, hk, hC, hlk⟩ := gw_fact_P0 hp
      obtain ⟨hK, -⟩ := hSR
      have hlt : a < h.2.1 := gw_okS_hd d4 a rfl
      obtain ⟨hat, hok⟩ := d2.2.2.1 a ha hlt
      rw [ho] at hat hok
      have hg : gw_rv (gw_rho z0 ro) (.ref a) = .ref (z0 + (a - 8)) := by show Value.ref (gw_rho z0 ro a) = _; rw [gw_rho_hi ha]
      show W _ _ _ _ _ _ _ _ _ _ _ _ _ _ _ (F0 mm pc ls (gw_rv (gw_rho z0 ro) (.ref a) :: r.map (gw_rv (gw_rho z0 ro))))
      rw [hg]
      exact va_get hx hb hts (gw_fact_C hc).1 hown hK (gw_P1 hat) 0 rfl hc k hk (hts _ (gw_tb_in hlk rfl)) (fun x h9 => by rw [hC] at h9; exact h9) (by rw [List.getElem?_map, hv]; rfl) hd (kk _ _ _ _ _ ⟨d1, d2, d3, gw_okS_c (hok v (List.mem_of_getElem? hv)) (gw_okS_tl d4), d5, d6, d7⟩)
    · cases hs
  · cases hs
set_option maxHeartbeats 4000000 in
theorem gs_putfield (cx : gw_Cx D ca z0 ro rc M p s mm args meth c) {pc len t : Nat} {idx : Nat} {cs : Int32} (hd : decode M.2.2.1 pc = .ok (.putfield idx, len)) (hlen : gw_len (.putfield idx) = 0 ∨ gw_len (.putfield idx) = len) (hT : gw_okT M.1 pc (.putfield idx) t cs = true) {L : gw_L} {st : List Value} {h : gw_H} {s' : gw_S} (hs : gw_ins M.1 M.2.2.2.2.2.2.1 (.putfield idx) t cs pc L st h = some s')
    (d : gw_Dy D ca z0 ro rc M.2.2.2.1 nb zb s L st h ls H locs cells slots) (hfr : 1 ≤ R.frames ∧ 64 ≤ R.locals) (hrc : s'.2.2.2.2.1 ≤ nb + R.cells) (hrs : s'.2.2.2.2.2 ≤ zb + R.slots)
    (kk : ∀ (ls' : Array Slot) (H' : Heap) (locs' : List Loc) (cells' slots' : Nat), gw_Dy D ca z0 ro rc M.2.2.2.1 nb zb s s'.2.1 s'.2.2.1 s'.2.2.2 ls' H' locs' cells' slots' → W p l e R s mm args below meth c H' locs' cells' slots' Q (F0 mm s'.1 ls' (s'.2.2.1.map (gw_rv (gw_rho z0 ro))))) :
    W p l e R s mm args below meth c H locs cells slots Q (F0 mm pc ls (st.map (gw_rv (gw_rho z0 ro)))) := by
  obtain ⟨hx, hb, hml, hown, hts, hinit, hSR⟩ := cx
  obtain ⟨d1, d2, d3, d4, d5, d6, d7⟩ := d
  have hl := gw_len_of 2 hlen rfl
  subst hl
  obtain ⟨ci, k, v0, hp, hs⟩ := gw_fld_some hs
  split at hs
  · rename_i v a r z9
    obtain ⟨fs, ho, hs⟩ := gw_obj_some hs
    split at hs
    · rename_i C T N hc
      split at hs
      · rename_i hcnd
        obtain ⟨ha, hkl, hfit, hfin⟩ := hcnd
        cases hs
        obtain ⟨C', T', N', hc', hk, hC, hlk⟩ := gw_fact_P0 hp
        cases hc.symm.trans hc'
        have hlt : a < h.2.1 := gw_okS_hd (gw_okS_tl d4) a rfl
        obtain ⟨hat, hok⟩ := d2.2.2.1 a ha hlt
        rw [ho] at hat hok
        have hg : gw_rv (gw_rho z0 ro) (.ref a) = .ref (z0 + (a - 8)) := by show Value.ref (gw_rho z0 ro a) = _; rw [gw_rho_hi ha]
        show W _ _ _ _ _ _ _ _ _ _ _ _ _ _ _ (F0 mm pc ls (gw_rv (gw_rho z0 ro) v :: gw_rv (gw_rho z0 ro) (.ref a) :: r.map (gw_rv (gw_rho z0 ro))))
        rw [hg]
        have hcn : ∀ c0, vwCl[c0]? = some (C, T, N) → gw_cnm c0 = C := gw_cn_cl
        refine gw_put (M := M) (D := D) (ca := ca) (z0 := z0) (ro := ro) (rc := rc) ⟨hx, hb, hml, hown, hts, hinit, hSR⟩ hd hc hk hC hlk hat (by rw [List.length_map]; exact hkl) (by rw [gw_fit_rv]; exact hfit) (fun hf => ⟨(hfin hf).1, by rw [(hfin hf).2]; exact hcn ci hc⟩) fun H' q hq hn hz ho2 => ?_
        rw [← List.map_set] at hn
        exact kk ls H' _ cells slots ⟨d1, d2.put ha (fun w hw => by
          rcases List.mem_or_eq_of_mem_set hw with hw | rfl
          · exact hok w hw
          · exact gw_okS_hd d4) hn hz ho2, gw_S_put d3 hq hz ho2, gw_okS_tl (gw_okS_tl d4), d5, d6, d7⟩
      · cases hs
    · cases hs
  · cases hs
set_option maxHeartbeats 4000000 in
theorem gs_getstatic (cx : gw_Cx D ca z0 ro rc M p s mm args meth c) {pc len t : Nat} {idx : Nat} {cs : Int32} (hd : decode M.2.2.1 pc = .ok (.getstatic idx, len)) (hlen : gw_len (.getstatic idx) = 0 ∨ gw_len (.getstatic idx) = len) (hT : gw_okT M.1 pc (.getstatic idx) t cs = true) {L : gw_L} {st : List Value} {h : gw_H} {s' : gw_S} (hs : gw_ins M.1 M.2.2.2.2.2.2.1 (.getstatic idx) t cs pc L st h = some s')
    (d : gw_Dy D ca z0 ro rc M.2.2.2.1 nb zb s L st h ls H locs cells slots) (hfr : 1 ≤ R.frames ∧ 64 ≤ R.locals) (hrc : s'.2.2.2.2.1 ≤ nb + R.cells) (hrs : s'.2.2.2.2.2 ≤ zb + R.slots)
    (kk : ∀ (ls' : Array Slot) (H' : Heap) (locs' : List Loc) (cells' slots' : Nat), gw_Dy D ca z0 ro rc M.2.2.2.1 nb zb s s'.2.1 s'.2.2.1 s'.2.2.2 ls' H' locs' cells' slots' → W p l e R s mm args below meth c H' locs' cells' slots' Q (F0 mm s'.1 ls' (s'.2.2.1.map (gw_rv (gw_rho z0 ro))))) :
    W p l e R s mm args below meth c H locs cells slots Q (F0 mm pc ls (st.map (gw_rv (gw_rho z0 ro)))) := by
  obtain ⟨hx, hb, hml, hown, hts, hinit, hSR⟩ := cx
  obtain ⟨d1, d2, d3, d4, d5, d6, d7⟩ := d
  have hl := gw_len_of 2 hlen rfl
  subst hl
  dsimp only [gw_ins] at hs
  split at hs
  · rename_i j v1 v2 hp
    cases hs
    obtain ⟨ix, hP⟩ := gw_fact_P hp
    dsimp only [gw_okP] at hP
    simp only [Bool.and_eq_true, decide_eq_true_eq] at hP
    obtain ⟨hj, hlk⟩ := hP
    obtain ⟨hK, hX, hZ, hz, -⟩ := hSR
    have k := kk ls H locs cells slots ⟨d1, d2, d3, gw_okS_c (fun a ha => by cases ha; exact Nat.lt_of_lt_of_le (by omega) d2.1) d4, d5, d6, d7⟩
    have hg : gw_rv (gw_rho z0 ro) (.ref j) = .ref (ro j) := by show Value.ref (gw_rho z0 ro j) = _; rw [gw_rho_lo (by omega)]
    simp only [List.map_cons, hg] at k
    exact va_gets hx hb (hZ j hj.1 hj.2) d3 hown (hts _ (gw_tb_in (gw_ti_in hlk) rfl)) (fun x h9 => h9) hd k
  · cases hs
set_option maxHeartbeats 4000000 in
theorem gs_iaload (cx : gw_Cx D ca z0 ro rc M p s mm args meth c) {pc len t : Nat} {cs : Int32} (hd : decode M.2.2.1 pc = .ok (.iaload, len)) (hlen : gw_len (.iaload) = 0 ∨ gw_len (.iaload) = len) (hT : gw_okT M.1 pc (.iaload) t cs = true) {L : gw_L} {st : List Value} {h : gw_H} {s' : gw_S} (hs : gw_ins M.1 M.2.2.2.2.2.2.1 (.iaload) t cs pc L st h = some s')
    (d : gw_Dy D ca z0 ro rc M.2.2.2.1 nb zb s L st h ls H locs cells slots) (hfr : 1 ≤ R.frames ∧ 64 ≤ R.locals) (hrc : s'.2.2.2.2.1 ≤ nb + R.cells) (hrs : s'.2.2.2.2.2 ≤ zb + R.slots)
    (kk : ∀ (ls' : Array Slot) (H' : Heap) (locs' : List Loc) (cells' slots' : Nat), gw_Dy D ca z0 ro rc M.2.2.2.1 nb zb s s'.2.1 s'.2.2.1 s'.2.2.2 ls' H' locs' cells' slots' → W p l e R s mm args below meth c H' locs' cells' slots' Q (F0 mm s'.1 ls' (s'.2.2.1.map (gw_rv (gw_rho z0 ro))))) :
    W p l e R s mm args below meth c H locs cells slots Q (F0 mm pc ls (st.map (gw_rv (gw_rho z0 ro)))) := by
  obtain ⟨hx, hb, hml, hown, hts, hinit, hSR⟩ := cx
  obtain ⟨d1, d2, d3, d4, d5, d6, d7⟩ := d
  have hl := gw_len_of 0 hlen rfl
  subst hl
  obtain ⟨a, i, r, hst, hq⟩ := gw_ri_some hs
  clear hs
  subst hst
  have hs := hq
  clear hq
  obtain ⟨n, f, ho, hs⟩ := gw_arr_some hs
  split at hs
  · cases hs
  · rename_i hin
    cases hs
    obtain ⟨hK, hX, hZ, hz, -⟩ := hSR
    have k := kk ls H locs cells slots ⟨d1, d2, d3, gw_okS_c gw_ok_i (gw_okS_tl (gw_okS_tl d4)), d5, d6, d7⟩
    have hlt : a < h.2.1 := gw_okS_hd (gw_okS_tl d4) a rfl
    by_cases ha : 8 ≤ a
    · obtain ⟨hat, hok⟩ := d2.2.2.1 a ha hlt
      rw [ho] at hat
      have hg : gw_rv (gw_rho z0 ro) (.ref a) = .ref (z0 + (a - 8)) := by show Value.ref (gw_rho z0 ro a) = _; rw [gw_rho_hi ha]
      show W _ _ _ _ _ _ _ _ _ _ _ _ _ _ _ (F0 mm pc ls (.int i :: gw_rv (gw_rho z0 ro) (.ref a) :: r.map (gw_rv (gw_rho z0 ro))))
      rw [hg]
      exact va_iald hx hb hK (gw_P1 hat) 0 0 rfl rfl hin hd k
    · have ha : a < 8 := Nat.lt_of_not_le ha
      have hr := d2.2.2.2 a ha
      rw [ho] at hr
      simp only [Sum.inl.injEq, Prod.mk.injEq, true_and] at hr
      have hX1 := hX a ha
      rw [← hr] at hX1
      have hg : gw_rv (gw_rho z0 ro) (.ref a) = .ref (ro a) := by show Value.ref (gw_rho z0 ro a) = _; rw [gw_rho_lo ha]
      show W _ _ _ _ _ _ _ _ _ _ _ _ _ _ _ (F0 mm pc ls (.int i :: gw_rv (gw_rho z0 ro) (.ref a) :: r.map (gw_rv (gw_rho z0 ro))))
      rw [hg]
      exact va_ti hx hb hX1 d3 hin rfl hd k
set_option maxHeartbeats 4000000 in
theorem gs_baload (cx : gw_Cx D ca z0 ro rc M p s mm args meth c) {pc len t : Nat} {cs : Int32} (hd : decode M.2.2.1 pc = .ok (.baload, len)) (hlen : gw_len (.baload) = 0 ∨ gw_len (.baload) = len) (hT : gw_okT M.1 pc (.baload) t cs = true) {L : gw_L} {st : List Value} {h : gw_H} {s' : gw_S} (hs : gw_ins M.1 M.2.2.2.2.2.2.1 (.baload) t cs pc L st h = some s')
    (d : gw_Dy D ca z0 ro rc M.2.2.2.1 nb zb s L st h ls H locs cells slots) (hfr : 1 ≤ R.frames ∧ 64 ≤ R.locals) (hrc : s'.2.2.2.2.1 ≤ nb + R.cells) (hrs : s'.2.2.2.2.2 ≤ zb + R.slots)
    (kk : ∀ (ls' : Array Slot) (H' : Heap) (locs' : List Loc) (cells' slots' : Nat), gw_Dy D ca z0 ro rc M.2.2.2.1 nb zb s s'.2.1 s'.2.2.1 s'.2.2.2 ls' H' locs' cells' slots' → W p l e R s mm args below meth c H' locs' cells' slots' Q (F0 mm s'.1 ls' (s'.2.2.1.map (gw_rv (gw_rho z0 ro))))) :
    W p l e R s mm args below meth c H locs cells slots Q (F0 mm pc ls (st.map (gw_rv (gw_rho z0 ro)))) := by
  obtain ⟨hx, hb, hml, hown, hts, hinit, hSR⟩ := cx
  obtain ⟨d1, d2, d3, d4, d5, d6, d7⟩ := d
  have hl := gw_len_of 0 hlen rfl
  subst hl
  obtain ⟨a, i, r, hst, hq⟩ := gw_ri_some hs
  clear hs
  subst hst
  have hs := hq
  clear hq
  obtain ⟨n, f, ho, hs⟩ := gw_arr_some hs
  split at hs
  · cases hs
  · rename_i hin
    split at hs
    · rename_i ha
      cases hs
      obtain ⟨hK, hX, hZ, hz, -⟩ := hSR
      have k := kk ls H locs cells slots ⟨d1, d2, d3, gw_okS_c gw_ok_i (gw_okS_tl (gw_okS_tl d4)), d5, d6, d7⟩
      have hlt : a < h.2.1 := gw_okS_hd (gw_okS_tl d4) a rfl
      obtain ⟨hat, hok⟩ := d2.2.2.1 a ha hlt
      rw [ho] at hat
      have hg : gw_rv (gw_rho z0 ro) (.ref a) = .ref (z0 + (a - 8)) := by show Value.ref (gw_rho z0 ro a) = _; rw [gw_rho_hi ha]
      show W _ _ _ _ _ _ _ _ _ _ _ _ _ _ _ (F0 mm pc ls (.int i :: gw_rv (gw_rho z0 ro) (.ref a) :: r.map (gw_rv (gw_rho z0 ro))))
      rw [hg]
      exact va_zald hx hb hK (gw_P1 hat) 0 1 rfl rfl hin hd k
    · cases hs
set_option maxHeartbeats 4000000 in
theorem gs_iastore (cx : gw_Cx D ca z0 ro rc M p s mm args meth c) {pc len t : Nat} {cs : Int32} (hd : decode M.2.2.1 pc = .ok (.iastore, len)) (hlen : gw_len (.iastore) = 0 ∨ gw_len (.iastore) = len) (hT : gw_okT M.1 pc (.iastore) t cs = true) {L : gw_L} {st : List Value} {h : gw_H} {s' : gw_S} (hs : gw_ins M.1 M.2.2.2.2.2.2.1 (.iastore) t cs pc L st h = some s')
    (d : gw_Dy D ca z0 ro rc M.2.2.2.1 nb zb s L st h ls H locs cells slots) (hfr : 1 ≤ R.frames ∧ 64 ≤ R.locals) (hrc : s'.2.2.2.2.1 ≤ nb + R.cells) (hrs : s'.2.2.2.2.2 ≤ zb + R.slots)
    (kk : ∀ (ls' : Array Slot) (H' : Heap) (locs' : List Loc) (cells' slots' : Nat), gw_Dy D ca z0 ro rc M.2.2.2.1 nb zb s s'.2.1 s'.2.2.1 s'.2.2.2 ls' H' locs' cells' slots' → W p l e R s mm args below meth c H' locs' cells' slots' Q (F0 mm s'.1 ls' (s'.2.2.1.map (gw_rv (gw_rho z0 ro))))) :
    W p l e R s mm args below meth c H locs cells slots Q (F0 mm pc ls (st.map (gw_rv (gw_rho z0 ro)))) := by
  obtain ⟨hx, hb, hml, hown, hts, hinit, hSR⟩ := cx
  obtain ⟨d1, d2, d3, d4, d5, d6, d7⟩ := d
  have hl := gw_len_of 0 hlen rfl
  subst hl
  obtain ⟨a, i, x, r, hst, hq⟩ := gw_rii_some hs
  clear hs
  subst hst
  have hs := hq
  clear hq
  obtain ⟨n, f, ho, hs⟩ := gw_arr_some hs
  split at hs
  · cases hs
  · rename_i hin
    split at hs
    · rename_i ha
      cases hs
      obtain ⟨hK, hX, hZ, hz, -⟩ := hSR
      have hlt : a < h.2.1 := gw_okS_hd (gw_okS_tl (gw_okS_tl d4)) a rfl
      obtain ⟨hat, hok⟩ := d2.2.2.1 a ha hlt
      rw [ho] at hat
      have hat' : H[z0 + (a - 8)]? = some (vp_cell (ca 0) (n, .inl f)) := hat
      have hg : gw_rv (gw_rho z0 ro) (.ref a) = .ref (z0 + (a - 8)) := by show Value.ref (gw_rho z0 ro a) = _; rw [gw_rho_hi ha]
      show W _ _ _ _ _ _ _ _ _ _ _ _ _ _ _ (F0 mm pc ls (.int x :: .int i :: gw_rv (gw_rho z0 ro) (.ref a) :: r.map (gw_rv (gw_rho z0 ro))))
      rw [hg]
      refine W.iast hx hb hat' ((hK.2 0 _ rfl).1 n (fun j => .int (f j))) (fun q => by cases q) (by show ¬ (i < 0 ∨ (arrV _ _ _).slots.size ≤ _); rw [arrV_size]; exact hin) rfl rfl hd fun H1 e1 z1 oq => ?_
      have hn : va_at D vwCl (z0 + (a - 8), gw_rc (gw_rho z0 ro) ca (.inl (0, n, upd f i.toNatClampNeg x))) H1 := by
        show H1[_]? = some (vp_cell _ _)
        rw [e1, vp_cell_i, vp_cell_i, arrV_store]
        congr 2
        funext q
        by_cases hq : q = i.toNatClampNeg
        · subst hq
          simp [updV, upd, narrow]
        · simp [updV, upd, hq]
      exact kk ls H1 _ cells slots ⟨d1, d2.put ha trivial hn z1 oq, gw_S_put d3 rfl z1 oq, gw_okS_tl (gw_okS_tl (gw_okS_tl d4)), d5, d6, d7⟩
    · cases hs
set_option maxHeartbeats 4000000 in
theorem gs_bastore (cx : gw_Cx D ca z0 ro rc M p s mm args meth c) {pc len t : Nat} {cs : Int32} (hd : decode M.2.2.1 pc = .ok (.bastore, len)) (hlen : gw_len (.bastore) = 0 ∨ gw_len (.bastore) = len) (hT : gw_okT M.1 pc (.bastore) t cs = true) {L : gw_L} {st : List Value} {h : gw_H} {s' : gw_S} (hs : gw_ins M.1 M.2.2.2.2.2.2.1 (.bastore) t cs pc L st h = some s')
    (d : gw_Dy D ca z0 ro rc M.2.2.2.1 nb zb s L st h ls H locs cells slots) (hfr : 1 ≤ R.frames ∧ 64 ≤ R.locals) (hrc : s'.2.2.2.2.1 ≤ nb + R.cells) (hrs : s'.2.2.2.2.2 ≤ zb + R.slots)
    (kk : ∀ (ls' : Array Slot) (H' : Heap) (locs' : List Loc) (cells' slots' : Nat), gw_Dy D ca z0 ro rc M.2.2.2.1 nb zb s s'.2.1 s'.2.2.1 s'.2.2.2 ls' H' locs' cells' slots' → W p l e R s mm args below meth c H' locs' cells' slots' Q (F0 mm s'.1 ls' (s'.2.2.1.map (gw_rv (gw_rho z0 ro))))) :
    W p l e R s mm args below meth c H locs cells slots Q (F0 mm pc ls (st.map (gw_rv (gw_rho z0 ro)))) := by
  obtain ⟨hx, hb, hml, hown, hts, hinit, hSR⟩ := cx
  obtain ⟨d1, d2, d3, d4, d5, d6, d7⟩ := d
  have hl := gw_len_of 0 hlen rfl
  subst hl
  obtain ⟨a, i, x, r, hst, hq⟩ := gw_rii_some hs
  clear hs
  subst hst
  have hs := hq
  clear hq
  obtain ⟨n, f, ho, hs⟩ := gw_arr_some hs
  split at hs
  · cases hs
  · rename_i hin
    split at hs
    · rename_i ha
      cases hs
      obtain ⟨hK, hX, hZ, hz, -⟩ := hSR
      have hlt : a < h.2.1 := gw_okS_hd (gw_okS_tl (gw_okS_tl d4)) a rfl
      obtain ⟨hat, hok⟩ := d2.2.2.1 a ha hlt
      rw [ho] at hat
      have hat' : H[z0 + (a - 8)]? = some (vp_cell (ca 1) (n, .inl f)) := hat
      have hg : gw_rv (gw_rho z0 ro) (.ref a) = .ref (z0 + (a - 8)) := by show Value.ref (gw_rho z0 ro a) = _; rw [gw_rho_hi ha]
      show W _ _ _ _ _ _ _ _ _ _ _ _ _ _ _ (F0 mm pc ls (.int x :: .int i :: gw_rv (gw_rho z0 ro) (.ref a) :: r.map (gw_rv (gw_rho z0 ro))))
      rw [hg]
      refine W.zast hx hb hat' ((hK.2 1 _ rfl).1 n (fun j => .int (f j))) (fun q => by cases q) (by show ¬ (i < 0 ∨ (arrV _ _ _).slots.size ≤ _); rw [arrV_size]; exact hin) rfl rfl hd fun H1 e1 z1 oq => ?_
      have hn : va_at D vwCl (z0 + (a - 8), gw_rc (gw_rho z0 ro) ca (.inl (1, n, upd f i.toNatClampNeg (x &&& 1)))) H1 := by
        show H1[_]? = some (vp_cell _ _)
        rw [e1, vp_cell_i, vp_cell_i, arrV_store]
        congr 2
        funext q
        by_cases hq : q = i.toNatClampNeg
        · subst hq
          simp [updV, upd, narrow]
        · simp [updV, upd, hq]
      exact kk ls H1 _ cells slots ⟨d1, d2.put ha trivial hn z1 oq, gw_S_put d3 rfl z1 oq, gw_okS_tl (gw_okS_tl (gw_okS_tl d4)), d5, d6, d7⟩
    · cases hs
set_option maxHeartbeats 4000000 in
theorem gs_alen (cx : gw_Cx D ca z0 ro rc M p s mm args meth c) {pc len t : Nat} {cs : Int32} (hd : decode M.2.2.1 pc = .ok (.arraylength, len)) (hlen : gw_len (.arraylength) = 0 ∨ gw_len (.arraylength) = len) (hT : gw_okT M.1 pc (.arraylength) t cs = true) {L : gw_L} {st : List Value} {h : gw_H} {s' : gw_S} (hs : gw_ins M.1 M.2.2.2.2.2.2.1 (.arraylength) t cs pc L st h = some s')
    (d : gw_Dy D ca z0 ro rc M.2.2.2.1 nb zb s L st h ls H locs cells slots) (hfr : 1 ≤ R.frames ∧ 64 ≤ R.locals) (hrc : s'.2.2.2.2.1 ≤ nb + R.cells) (hrs : s'.2.2.2.2.2 ≤ zb + R.slots)
    (kk : ∀ (ls' : Array Slot) (H' : Heap) (locs' : List Loc) (cells' slots' : Nat), gw_Dy D ca z0 ro rc M.2.2.2.1 nb zb s s'.2.1 s'.2.2.1 s'.2.2.2 ls' H' locs' cells' slots' → W p l e R s mm args below meth c H' locs' cells' slots' Q (F0 mm s'.1 ls' (s'.2.2.1.map (gw_rv (gw_rho z0 ro))))) :
    W p l e R s mm args below meth c H locs cells slots Q (F0 mm pc ls (st.map (gw_rv (gw_rho z0 ro)))) := by
  obtain ⟨hx, hb, hml, hown, hts, hinit, hSR⟩ := cx
  obtain ⟨d1, d2, d3, d4, d5, d6, d7⟩ := d
  have hl := gw_len_of 0 hlen rfl
  subst hl
  obtain ⟨a, r, hst, hq⟩ := gw_r1_some hs
  clear hs
  subst hst
  have hs := hq
  clear hq
  obtain ⟨n, f, ho, hs⟩ := gw_arr_some hs
  cases hs
  obtain ⟨hK, hX, hZ, hz, -⟩ := hSR
  have k := kk ls H locs cells slots ⟨d1, d2, d3, gw_okS_c gw_ok_i (gw_okS_tl d4), d5, d6, d7⟩
  have hlt : a < h.2.1 := gw_okS_hd d4 a rfl
  by_cases ha : 8 ≤ a
  · obtain ⟨hat, hok⟩ := d2.2.2.1 a ha hlt
    rw [ho] at hat
    have hg : gw_rv (gw_rho z0 ro) (.ref a) = .ref (z0 + (a - 8)) := by show Value.ref (gw_rho z0 ro a) = _; rw [gw_rho_hi ha]
    show W _ _ _ _ _ _ _ _ _ _ _ _ _ _ _ (F0 mm pc ls (gw_rv (gw_rho z0 ro) (.ref a) :: r.map (gw_rv (gw_rho z0 ro))))
    rw [hg]
    exact va_alen hx hb hK (gw_P1 hat) 0 0 rfl rfl rfl hd k
  · have ha : a < 8 := Nat.lt_of_not_le ha
    have hr := d2.2.2.2 a ha
    rw [ho] at hr
    simp only [Sum.inl.injEq, Prod.mk.injEq, true_and] at hr
    have hX1 := hX a ha
    rw [← hr] at hX1
    have hg : gw_rv (gw_rho z0 ro) (.ref a) = .ref (ro a) := by show Value.ref (gw_rho z0 ro a) = _; rw [gw_rho_lo ha]
    show W _ _ _ _ _ _ _ _ _ _ _ _ _ _ _ (F0 mm pc ls (gw_rv (gw_rho z0 ro) (.ref a) :: r.map (gw_rv (gw_rho z0 ro))))
    rw [hg]
    exact va_tlen hx hb hX1 d3 rfl hd k
set_option maxHeartbeats 4000000 in
theorem gs_new (cx : gw_Cx D ca z0 ro rc M p s mm args meth c) {pc len t : Nat} {idx : Nat} {cs : Int32} (hd : decode M.2.2.1 pc = .ok (.new idx, len)) (hlen : gw_len (.new idx) = 0 ∨ gw_len (.new idx) = len) (hT : gw_okT M.1 pc (.new idx) t cs = true) {L : gw_L} {st : List Value} {h : gw_H} {s' : gw_S} (hs : gw_ins M.1 M.2.2.2.2.2.2.1 (.new idx) t cs pc L st h = some s')
    (d : gw_Dy D ca z0 ro rc M.2.2.2.1 nb zb s L st h ls H locs cells slots) (hfr : 1 ≤ R.frames ∧ 64 ≤ R.locals) (hrc : s'.2.2.2.2.1 ≤ nb + R.cells) (hrs : s'.2.2.2.2.2 ≤ zb + R.slots)
    (kk : ∀ (ls' : Array Slot) (H' : Heap) (locs' : List Loc) (cells' slots' : Nat), gw_Dy D ca z0 ro rc M.2.2.2.1 nb zb s s'.2.1 s'.2.2.1 s'.2.2.2 ls' H' locs' cells' slots' → W p l e R s mm args below meth c H' locs' cells' slots' Q (F0 mm s'.1 ls' (s'.2.2.1.map (gw_rv (gw_rho z0 ro))))) :
    W p l e R s mm args below meth c H locs cells slots Q (F0 mm pc ls (st.map (gw_rv (gw_rho z0 ro)))) := by
  obtain ⟨hx, hb, hml, hown, hts, hinit, hSR⟩ := cx
  obtain ⟨d1, d2, d3, d4, d5, d6, d7⟩ := d
  have hl := gw_len_of 2 hlen rfl
  subst hl
  dsimp only [gw_ins] at hs
  split at hs
  · rename_i ci v1 v2 hp
    split at hs
    · rename_i C T N hc
      cases hs
      obtain ⟨C', T', N', hc', p1, p2, p3⟩ := gw_fact_P2 hp
      cases hc.symm.trans hc'
      obtain ⟨hK, hX, hZ, hz, -⟩ := hSR
      obtain ⟨hin, hty, hnm⟩ := gw_fact_C hc
      have hKn := hK.1 ci _ hc
      have hr1 : h.2.1 + 1 ≤ nb + R.cells := hrc
      have hr2 : h.2.2 + N ≤ zb + R.slots := hrs
      refine W.newcK hx hb hown (hts _ (gw_tb_in p1 rfl)) (hts _ (gw_tb_in p2 rfl)) (hts _ (gw_tb_in p3 rfl)) rfl hd (by omega) (by omega) hKn.2.1 rfl fun H1 kC hkC e1 z1 o1 => ?_
      have hn : va_at D vwCl (H.size, gw_rc (gw_rho z0 ro) ca (.inr (ci, (List.range N).map fun k => gw_dv (gw_ty ci k)))) H1 := by
        refine ⟨_, hc, (u_born (gw_ty ci) hts hin hKn hkC e1 hty).to fun k hk => ?_⟩
        show defaultValue (gw_ty ci k) = vp_V (((List.range N).map fun k => gw_dv (gw_ty ci k)).map (gw_rv (gw_rho z0 ro))) k
        have hlt : k < ((((List.range N).map fun k => gw_dv (gw_ty ci k)).map (gw_rv (gw_rho z0 ro)))).length := by simp [hk]
        have hge : ((((List.range N).map fun k => gw_dv (gw_ty ci k)).map (gw_rv (gw_rho z0 ro))))[k]? = some (gw_rv (gw_rho z0 ro) (gw_dv (gw_ty ci k))) := by simp [hk]
        simp only [vp_V, List.getD_eq_getElem?_getD, hge, Option.getD_some]
        exact gw_dv_def (hty k hk) hc hk
      have k := kk ls H1 locs (cells + 1) (slots + N) ⟨d1, d2.new gw_dv_ok hn z1 o1, gw_S_new d3 z1 o1, gw_okS_c (fun a ha => by cases ha; exact Nat.lt_succ_self _) (gw_okS_mono (Nat.le_succ _) d4), gw_okL_mono (Nat.le_succ _) d5, by show cells + 1 + nb = h.2.1 + 1; omega, by show slots + N + zb = h.2.2 + N; omega⟩
      have hg : gw_rv (gw_rho z0 ro) (.ref h.2.1) = .ref H.size := by show Value.ref (gw_rho z0 ro h.2.1) = _; rw [gw_rho_hi d2.1, d2.2.1]
      simp only [List.map_cons, hg] at k
      exact k
    · cases hs
  · cases hs
set_option maxHeartbeats 4000000 in
theorem gs_newarray_int (cx : gw_Cx D ca z0 ro rc M p s mm args meth c) {pc len t : Nat} {cs : Int32} (hd : decode M.2.2.1 pc = .ok (.newarray .int, len)) (hlen : gw_len (.newarray .int) = 0 ∨ gw_len (.newarray .int) = len) (hT : gw_okT M.1 pc (.newarray .int) t cs = true) {L : gw_L} {st : List Value} {h : gw_H} {s' : gw_S} (hs : gw_ins M.1 M.2.2.2.2.2.2.1 (.newarray .int) t cs pc L st h = some s')
    (d : gw_Dy D ca z0 ro rc M.2.2.2.1 nb zb s L st h ls H locs cells slots) (hfr : 1 ≤ R.frames ∧ 64 ≤ R.locals) (hrc : s'.2.2.2.2.1 ≤ nb + R.cells) (hrs : s'.2.2.2.2.2 ≤ zb + R.slots)
    (kk : ∀ (ls' : Array Slot) (H' : Heap) (locs' : List Loc) (cells' slots' : Nat), gw_Dy D ca z0 ro rc M.2.2.2.1 nb zb s s'.2.1 s'.2.2.1 s'.2.2.2 ls' H' locs' cells' slots' → W p l e R s mm args below meth c H' locs' cells' slots' Q (F0 mm s'.1 ls' (s'.2.2.1.map (gw_rv (gw_rho z0 ro))))) :
    W p l e R s mm args below meth c H locs cells slots Q (F0 mm pc ls (st.map (gw_rv (gw_rho z0 ro)))) := by
  obtain ⟨hx, hb, hml, hown, hts, hinit, hSR⟩ := cx
  obtain ⟨d1, d2, d3, d4, d5, d6, d7⟩ := d
  have hl := gw_len_of 1 hlen rfl
  subst hl
  obtain ⟨x, r, hst, hq⟩ := gw_i1_some hs
  clear hs
  subst hst
  have hs := hq
  clear hq
  split at hs
  · cases hs
  · rename_i hin
    cases hs
    obtain ⟨hK, hX, hZ, hz, -⟩ := hSR
    have hr1 : h.2.1 + 1 ≤ nb + R.cells := hrc
    have hr2 : h.2.2 + x.toNatClampNeg ≤ zb + R.slots := hrs
    refine va_newaK (atype := .int) hx hb (hts _ (gw_tb_in gw_arw.1 rfl)) rfl hd rfl (fun q => hin (Or.inl q)) rfl (by have : ¬ 100000 < x.toNatClampNeg := fun q => hin (Or.inr q); simp only [newarray.typeOf, componentBytes]; omega) (by omega) (by omega) rfl fun H1 cA e1 z1 o1 hAr hNm => ?_
    have hca : cA = ca 0 := by
      have h9 : s.vm.findClass ("[" ++ (newarray.typeOf .int).toString) = some (ca 0) := (hK.2 0 _ rfl).2
      exact Option.some.inj (hNm.symm.trans h9)
    subst hca
    have hn : va_at D vwCl (H.size, gw_rc (gw_rho z0 ro) ca (.inl (0, x.toNatClampNeg, fun _ => 0))) H1 := e1
    have k := kk ls H1 locs (cells + 1) (slots + x.toNatClampNeg) ⟨d1, d2.new trivial hn z1 o1, gw_S_new d3 z1 o1, gw_okS_c (fun a ha => by cases ha; exact Nat.lt_succ_self _) (gw_okS_mono (Nat.le_succ _) (gw_okS_tl d4)), gw_okL_mono (Nat.le_succ _) d5, by show cells + 1 + nb = h.2.1 + 1; omega, by show slots + x.toNatClampNeg + zb = h.2.2 + x.toNatClampNeg; omega⟩
    have hg : gw_rv (gw_rho z0 ro) (.ref h.2.1) = .ref H.size := by show Value.ref (gw_rho z0 ro h.2.1) = _; rw [gw_rho_hi d2.1, d2.2.1]
    simp only [List.map_cons, hg] at k
    exact k
set_option maxHeartbeats 4000000 in
theorem gs_newarray_boolean (cx : gw_Cx D ca z0 ro rc M p s mm args meth c) {pc len t : Nat} {cs : Int32} (hd : decode M.2.2.1 pc = .ok (.newarray .boolean, len)) (hlen : gw_len (.newarray .boolean) = 0 ∨ gw_len (.newarray .boolean) = len) (hT : gw_okT M.1 pc (.newarray .boolean) t cs = true) {L : gw_L} {st : List Value} {h : gw_H} {s' : gw_S} (hs : gw_ins M.1 M.2.2.2.2.2.2.1 (.newarray .boolean) t cs pc L st h = some s')
    (d : gw_Dy D ca z0 ro rc M.2.2.2.1 nb zb s L st h ls H locs cells slots) (hfr : 1 ≤ R.frames ∧ 64 ≤ R.locals) (hrc : s'.2.2.2.2.1 ≤ nb + R.cells) (hrs : s'.2.2.2.2.2 ≤ zb + R.slots)
    (kk : ∀ (ls' : Array Slot) (H' : Heap) (locs' : List Loc) (cells' slots' : Nat), gw_Dy D ca z0 ro rc M.2.2.2.1 nb zb s s'.2.1 s'.2.2.1 s'.2.2.2 ls' H' locs' cells' slots' → W p l e R s mm args below meth c H' locs' cells' slots' Q (F0 mm s'.1 ls' (s'.2.2.1.map (gw_rv (gw_rho z0 ro))))) :
    W p l e R s mm args below meth c H locs cells slots Q (F0 mm pc ls (st.map (gw_rv (gw_rho z0 ro)))) := by
  obtain ⟨hx, hb, hml, hown, hts, hinit, hSR⟩ := cx
  obtain ⟨d1, d2, d3, d4, d5, d6, d7⟩ := d
  have hl := gw_len_of 1 hlen rfl
  subst hl
  obtain ⟨x, r, hst, hq⟩ := gw_i1_some hs
  clear hs
  subst hst
  have hs := hq
  clear hq
  split at hs
  · cases hs
  · rename_i hin
    cases hs
    obtain ⟨hK, hX, hZ, hz, -⟩ := hSR
    have hr1 : h.2.1 + 1 ≤ nb + R.cells := hrc
    have hr2 : h.2.2 + x.toNatClampNeg ≤ zb + R.slots := hrs
    refine va_newaK (atype := .boolean) hx hb (hts _ (gw_tb_in gw_arw.2 rfl)) rfl hd rfl (fun q => hin (Or.inl q)) rfl (by have : ¬ 100000 < x.toNatClampNeg := fun q => hin (Or.inr q); simp only [newarray.typeOf, componentBytes]; omega) (by omega) (by omega) rfl fun H1 cA e1 z1 o1 hAr hNm => ?_
    have hca : cA = ca 1 := by
      have h9 : s.vm.findClass ("[" ++ (newarray.typeOf .boolean).toString) = some (ca 1) := (hK.2 1 _ rfl).2
      exact Option.some.inj (hNm.symm.trans h9)
    subst hca
    have hn : va_at D vwCl (H.size, gw_rc (gw_rho z0 ro) ca (.inl (1, x.toNatClampNeg, fun _ => 0))) H1 := e1
    have k := kk ls H1 locs (cells + 1) (slots + x.toNatClampNeg) ⟨d1, d2.new trivial hn z1 o1, gw_S_new d3 z1 o1, gw_okS_c (fun a ha => by cases ha; exact Nat.lt_succ_self _) (gw_okS_mono (Nat.le_succ _) (gw_okS_tl d4)), gw_okL_mono (Nat.le_succ _) d5, by show cells + 1 + nb = h.2.1 + 1; omega, by show slots + x.toNatClampNeg + zb = h.2.2 + x.toNatClampNeg; omega⟩
    have hg : gw_rv (gw_rho z0 ro) (.ref h.2.1) = .ref H.size := by show Value.ref (gw_rho z0 ro h.2.1) = _; rw [gw_rho_hi d2.1, d2.2.1]
    simp only [List.map_cons, hg] at k
    exact k
set_option maxHeartbeats 4000000 in
theorem gs_objinit (cx : gw_Cx D ca z0 ro rc M p s mm args meth c) {pc len t : Nat} {idx : Nat} {cs : Int32} (hd : decode M.2.2.1 pc = .ok (.invokespecial idx, len)) (hlen : gw_len (.invokespecial idx) = 0 ∨ gw_len (.invokespecial idx) = len) (hT : gw_okT M.1 pc (.invokespecial idx) t cs = true) {L : gw_L} {st : List Value} {h : gw_H} {s' : gw_S} (hs : gw_ins M.1 M.2.2.2.2.2.2.1 (.invokespecial idx) t cs pc L st h = some s')
    (d : gw_Dy D ca z0 ro rc M.2.2.2.1 nb zb s L st h ls H locs cells slots) (hfr : 1 ≤ R.frames ∧ 64 ≤ R.locals) (hrc : s'.2.2.2.2.1 ≤ nb + R.cells) (hrs : s'.2.2.2.2.2 ≤ zb + R.slots)
    (kk : ∀ (ls' : Array Slot) (H' : Heap) (locs' : List Loc) (cells' slots' : Nat), gw_Dy D ca z0 ro rc M.2.2.2.1 nb zb s s'.2.1 s'.2.2.1 s'.2.2.2 ls' H' locs' cells' slots' → W p l e R s mm args below meth c H' locs' cells' slots' Q (F0 mm s'.1 ls' (s'.2.2.1.map (gw_rv (gw_rho z0 ro))))) :
    W p l e R s mm args below meth c H locs cells slots Q (F0 mm pc ls (st.map (gw_rv (gw_rho z0 ro)))) := by
  obtain ⟨hx, hb, hml, hown, hts, hinit, hSR⟩ := cx
  obtain ⟨d1, d2, d3, d4, d5, d6, d7⟩ := d
  have hl := gw_len_of 2 hlen rfl
  subst hl
  dsimp only [gw_ins] at hs
  split at hs
  · rename_i v1 v2 v3 hp
    obtain ⟨a, r, hst, hq⟩ := gw_r1_some hs
    clear hs
    subst hst
    have hs := hq
    clear hq
    split at hs
    · rename_i hsum
      cases hs
      obtain ⟨ix, hP⟩ := gw_fact_P hp
      have hcat : ((r.map (gw_rv (gw_rho z0 ro))).map fun v => v.category).sum ≤ 8 := by
        rw [List.map_map, show ((fun v : Value => v.category) ∘ gw_rv (gw_rho z0 ro)) = fun v => v.category from funext fun v => gw_rv_cat _ v]
        exact hsum
      have hroom := lv_room (m := mm) (pc := pc) (ls := ls) (rest := []) hcat
      exact W.objInit (g := F0 mm pc ls _) hx hb hown (hts _ (gw_tb_in (gw_ti_in hP) rfl)) (hts _ (gw_tb_in gw_obi.1 rfl)) (hts _ (gw_tb_in gw_obi.2 rfl)) rfl (d1.1.trans hml.symm) rfl hd hfr.1 (Nat.le_trans (Nat.add_le_add_right hroom 12) (by omega)) (kk _ _ _ _ _ ⟨d1, d2, d3, gw_okS_tl d4, d5, d6, d7⟩)
    · cases hs
  · cases hs
end INS
