/-! what the checks say, as facts -/
theorem gw_ti_in {i : Nat} {w : Jvm.Cond} (h : gw_ti i w = true) : w ∈ lw_tbl := by
  unfold gw_ti at h
  exact List.mem_append_right _ (List.mem_of_getElem? (of_decide_eq_true h))
def gw_tb : List Jvm.Cond := lw_tbl.filter goodWord
theorem gw_tb_in {w : Jvm.Cond} (h : w ∈ lw_tbl) (g : goodWord w = true) : w ∈ gw_tb := List.mem_filter.mpr ⟨h, g⟩
theorem gw_all2_of {α β : Type} {f : α → β → Bool} {l : List α} : ∀ {r : List β}, gw_all2 f l r = true → ∀ a ∈ l, ∃ b, f a b = true := by
  induction l with
  | nil => intro r _ a ha; cases ha
  | cons x l ih =>
    intro r h a ha
    cases r with
    | nil => cases h
    | cons y r =>
      simp only [gw_all2, Bool.and_eq_true] at h
      rcases List.mem_cons.mp ha with rfl | ha
      · exact ⟨y, h.1⟩
      · exact ih h.2 a ha
theorem gw_lookup_mem {α : Type} {l : List (Nat × α)} {i : Nat} {x : α} (h : l.lookup i = some x) : (i, x) ∈ l := by
  induction l with
  | nil => cases h
  | cons a l ih =>
    obtain ⟨k, y⟩ := a
    rw [List.lookup_cons] at h
    by_cases hk : i = k
    · subst hk
      simp at h
      subst h
      exact List.mem_cons_self
    · have : (i == k) = false := by simp [hk]
      rw [this] at h
      exact List.mem_cons_of_mem _ (ih h)
theorem gw_MLok : ∀ l ∈ gw_ML, ∀ M ∈ l, ∃ ix, gw_okM M ix = true := by
  unfold gw_ML
  exact List.forall_mem_cons.mpr ⟨gw_all2_of gm_ok_0, List.forall_mem_cons.mpr ⟨gw_all2_of gm_ok_1, List.forall_mem_cons.mpr ⟨gw_all2_of gm_ok_2, List.forall_mem_cons.mpr ⟨gw_all2_of gm_ok_3, List.forall_mem_cons.mpr ⟨gw_all2_of gm_ok_4, List.forall_mem_cons.mpr ⟨gw_all2_of gm_ok_5, List.forall_mem_cons.mpr ⟨gw_all2_of gm_ok_6, List.forall_mem_cons.mpr ⟨gw_all2_of gm_ok_7, List.forall_mem_cons.mpr ⟨gw_all2_of gm_ok_8, List.forall_mem_cons.mpr ⟨gw_all2_of gm_ok_9, List.forall_mem_cons.mpr ⟨gw_all2_of gm_ok_10, List.forall_mem_cons.mpr ⟨gw_all2_of gm_ok_11, List.forall_mem_cons.mpr ⟨gw_all2_of gm_ok_12, List.forall_mem_cons.mpr ⟨gw_all2_of gm_ok_13, List.forall_mem_cons.mpr ⟨gw_all2_of gm_ok_14, List.forall_mem_cons.mpr ⟨gw_all2_of gm_ok_15, List.forall_mem_cons.mpr ⟨gw_all2_of gm_ok_16, List.forall_mem_cons.mpr ⟨gw_all2_of gm_ok_17, List.forall_mem_cons.mpr ⟨gw_all2_of gm_ok_18, List.forall_mem_cons.mpr ⟨gw_all2_of gm_ok_19, fun _ h => absurd h List.not_mem_nil⟩⟩⟩⟩⟩⟩⟩⟩⟩⟩⟩⟩⟩⟩⟩⟩⟩⟩⟩⟩
theorem gw_MKok : ∀ l ∈ gw_ML, ∀ M ∈ l, gw_okC M = true := by
  unfold gw_ML
  exact List.forall_mem_cons.mpr ⟨(by
    unfold gw_ML_0
    exact List.forall_mem_cons.mpr ⟨gk_ok_0, List.forall_mem_cons.mpr ⟨gk_ok_1, List.forall_mem_cons.mpr ⟨gk_ok_2, List.forall_mem_cons.mpr ⟨gk_ok_3, List.forall_mem_cons.mpr ⟨gk_ok_4, List.forall_mem_cons.mpr ⟨gk_ok_5, List.forall_mem_cons.mpr ⟨gk_ok_6, List.forall_mem_cons.mpr ⟨gk_ok_7, List.forall_mem_cons.mpr ⟨gk_ok_8, List.forall_mem_cons.mpr ⟨gk_ok_9, List.forall_mem_cons.mpr ⟨gk_ok_10, List.forall_mem_cons.mpr ⟨gk_ok_11, List.forall_mem_cons.mpr ⟨gk_ok_12, List.forall_mem_cons.mpr ⟨gk_ok_13, List.forall_mem_cons.mpr ⟨gk_ok_14, List.forall_mem_cons.mpr ⟨gk_ok_15, fun _ h => absurd h List.not_mem_nil⟩⟩⟩⟩⟩⟩⟩⟩⟩⟩⟩⟩⟩⟩⟩⟩), List.forall_mem_cons.mpr ⟨(by
    unfold gw_ML_1
    exact List.forall_mem_cons.mpr ⟨gk_ok_16, List.forall_mem_cons.mpr ⟨gk_ok_17, List.forall_mem_cons.mpr ⟨gk_ok_18, List.forall_mem_cons.mpr ⟨gk_ok_19, List.forall_mem_cons.mpr ⟨gk_ok_20, List.forall_mem_cons.mpr ⟨gk_ok_21, List.forall_mem_cons.mpr ⟨gk_ok_22, List.forall_mem_cons.mpr ⟨gk_ok_23, List.forall_mem_cons.mpr ⟨gk_ok_24, List.forall_mem_cons.mpr ⟨gk_ok_25, List.forall_mem_cons.mpr ⟨gk_ok_26, List.forall_mem_cons.mpr ⟨gk_ok_27, List.forall_mem_cons.mpr ⟨gk_ok_28, List.forall_mem_cons.mpr ⟨gk_ok_29, List.forall_mem_cons.mpr ⟨gk_ok_30, List.forall_mem_cons.mpr ⟨gk_ok_31, fun _ h => absurd h List.not_mem_nil⟩⟩⟩⟩⟩⟩⟩⟩⟩⟩⟩⟩⟩⟩⟩⟩), List.forall_mem_cons.mpr ⟨(by
    unfold gw_ML_2
    exact List.forall_mem_cons.mpr ⟨gk_ok_32, List.forall_mem_cons.mpr ⟨gk_ok_33, List.forall_mem_cons.mpr ⟨gk_ok_34, List.forall_mem_cons.mpr ⟨gk_ok_35, List.forall_mem_cons.mpr ⟨gk_ok_36, List.forall_mem_cons.mpr ⟨gk_ok_37, List.forall_mem_cons.mpr ⟨gk_ok_38, List.forall_mem_cons.mpr ⟨gk_ok_39, List.forall_mem_cons.mpr ⟨gk_ok_40, List.forall_mem_cons.mpr ⟨gk_ok_41, List.forall_mem_cons.mpr ⟨gk_ok_42, List.forall_mem_cons.mpr ⟨gk_ok_43, List.forall_mem_cons.mpr ⟨gk_ok_44, List.forall_mem_cons.mpr ⟨gk_ok_45, List.forall_mem_cons.mpr ⟨gk_ok_46, List.forall_mem_cons.mpr ⟨gk_ok_47, fun _ h => absurd h List.not_mem_nil⟩⟩⟩⟩⟩⟩⟩⟩⟩⟩⟩⟩⟩⟩⟩⟩), List.forall_mem_cons.mpr ⟨(by
    unfold gw_ML_3
    exact List.forall_mem_cons.mpr ⟨gk_ok_48, List.forall_mem_cons.mpr ⟨gk_ok_49, List.forall_mem_cons.mpr ⟨gk_ok_50, List.forall_mem_cons.mpr ⟨gk_ok_51, List.forall_mem_cons.mpr ⟨gk_ok_52, List.forall_mem_cons.mpr ⟨gk_ok_53, List.forall_mem_cons.mpr ⟨gk_ok_54, List.forall_mem_cons.mpr ⟨gk_ok_55, List.forall_mem_cons.mpr ⟨gk_ok_56, List.forall_mem_cons.mpr ⟨gk_ok_57, List.forall_mem_cons.mpr ⟨gk_ok_58, List.forall_mem_cons.mpr ⟨gk_ok_59, List.forall_mem_cons.mpr ⟨gk_ok_60, List.forall_mem_cons.mpr ⟨gk_ok_61, List.forall_mem_cons.mpr ⟨gk_ok_62, List.forall_mem_cons.mpr ⟨gk_ok_63, fun _ h => absurd h List.not_mem_nil⟩⟩⟩⟩⟩⟩⟩⟩⟩⟩⟩⟩⟩⟩⟩⟩), List.forall_mem_cons.mpr ⟨(by
    unfold gw_ML_4
    exact List.forall_mem_cons.mpr ⟨gk_ok_64, List.forall_mem_cons.mpr ⟨gk_ok_65, List.forall_mem_cons.mpr ⟨gk_ok_66, List.forall_mem_cons.mpr ⟨gk_ok_67, List.forall_mem_cons.mpr ⟨gk_ok_68, List.forall_mem_cons.mpr ⟨gk_ok_69, List.forall_mem_cons.mpr ⟨gk_ok_70, List.forall_mem_cons.mpr ⟨gk_ok_71, List.forall_mem_cons.mpr ⟨gk_ok_72, List.forall_mem_cons.mpr ⟨gk_ok_73, List.forall_mem_cons.mpr ⟨gk_ok_74, List.forall_mem_cons.mpr ⟨gk_ok_75, List.forall_mem_cons.mpr ⟨gk_ok_76, List.forall_mem_cons.mpr ⟨gk_ok_77, List.forall_mem_cons.mpr ⟨gk_ok_78, List.forall_mem_cons.mpr ⟨gk_ok_79, fun _ h => absurd h List.not_mem_nil⟩⟩⟩⟩⟩⟩⟩⟩⟩⟩⟩⟩⟩⟩⟩⟩), List.forall_mem_cons.mpr ⟨(by
    unfold gw_ML_5
    exact List.forall_mem_cons.mpr ⟨gk_ok_80, List.forall_mem_cons.mpr ⟨gk_ok_81, List.forall_mem_cons.mpr ⟨gk_ok_82, List.forall_mem_cons.mpr ⟨gk_ok_83, List.forall_mem_cons.mpr ⟨gk_ok_84, List.forall_mem_cons.mpr ⟨gk_ok_85, List.forall_mem_cons.mpr ⟨gk_ok_86, List.forall_mem_cons.mpr ⟨gk_ok_87, List.forall_mem_cons.mpr ⟨gk_ok_88, List.forall_mem_cons.mpr ⟨gk_ok_89, List.forall_mem_cons.mpr ⟨gk_ok_90, List.forall_mem_cons.mpr ⟨gk_ok_91, List.forall_mem_cons.mpr ⟨gk_ok_92, List.forall_mem_cons.mpr ⟨gk_ok_93, List.forall_mem_cons.mpr ⟨gk_ok_94, List.forall_mem_cons.mpr ⟨gk_ok_95, fun _ h => absurd h List.not_mem_nil⟩⟩⟩⟩⟩⟩⟩⟩⟩⟩⟩⟩⟩⟩⟩⟩), List.forall_mem_cons.mpr ⟨(by
    unfold gw_ML_6
    exact List.forall_mem_cons.mpr ⟨gk_ok_96, List.forall_mem_cons.mpr ⟨gk_ok_97, List.forall_mem_cons.mpr ⟨gk_ok_98, List.forall_mem_cons.mpr ⟨gk_ok_99, List.forall_mem_cons.mpr ⟨gk_ok_100, List.forall_mem_cons.mpr ⟨gk_ok_101, List.forall_mem_cons.mpr ⟨gk_ok_102, List.forall_mem_cons.mpr ⟨gk_ok_103, List.forall_mem_cons.mpr ⟨gk_ok_104, List.forall_mem_cons.mpr ⟨gk_ok_105, List.forall_mem_cons.mpr ⟨gk_ok_106, List.forall_mem_cons.mpr ⟨gk_ok_107, List.forall_mem_cons.mpr ⟨gk_ok_108, List.forall_mem_cons.mpr ⟨gk_ok_109, List.forall_mem_cons.mpr ⟨gk_ok_110, List.forall_mem_cons.mpr ⟨gk_ok_111, fun _ h => absurd h List.not_mem_nil⟩⟩⟩⟩⟩⟩⟩⟩⟩⟩⟩⟩⟩⟩⟩⟩), List.forall_mem_cons.mpr ⟨(by
    unfold gw_ML_7
    exact List.forall_mem_cons.mpr ⟨gk_ok_112, List.forall_mem_cons.mpr ⟨gk_ok_113, List.forall_mem_cons.mpr ⟨gk_ok_114, List.forall_mem_cons.mpr ⟨gk_ok_115, List.forall_mem_cons.mpr ⟨gk_ok_116, List.forall_mem_cons.mpr ⟨gk_ok_117, List.forall_mem_cons.mpr ⟨gk_ok_118, List.forall_mem_cons.mpr ⟨gk_ok_119, List.forall_mem_cons.mpr ⟨gk_ok_120, List.forall_mem_cons.mpr ⟨gk_ok_121, List.forall_mem_cons.mpr ⟨gk_ok_122, List.forall_mem_cons.mpr ⟨gk_ok_123, List.forall_mem_cons.mpr ⟨gk_ok_124, List.forall_mem_cons.mpr ⟨gk_ok_125, List.forall_mem_cons.mpr ⟨gk_ok_126, List.forall_mem_cons.mpr ⟨gk_ok_127, fun _ h => absurd h List.not_mem_nil⟩⟩⟩⟩⟩⟩⟩⟩⟩⟩⟩⟩⟩⟩⟩⟩), List.forall_mem_cons.mpr ⟨(by
    unfold gw_ML_8
    exact List.forall_mem_cons.mpr ⟨gk_ok_128, List.forall_mem_cons.mpr ⟨gk_ok_129, List.forall_mem_cons.mpr ⟨gk_ok_130, List.forall_mem_cons.mpr ⟨gk_ok_131, List.forall_mem_cons.mpr ⟨gk_ok_132, List.forall_mem_cons.mpr ⟨gk_ok_133, List.forall_mem_cons.mpr ⟨gk_ok_134, List.forall_mem_cons.mpr ⟨gk_ok_135, List.forall_mem_cons.mpr ⟨gk_ok_136, List.forall_mem_cons.mpr ⟨gk_ok_137, List.forall_mem_cons.mpr ⟨gk_ok_138, List.forall_mem_cons.mpr ⟨gk_ok_139, List.forall_mem_cons.mpr ⟨gk_ok_140, List.forall_mem_cons.mpr ⟨gk_ok_141, List.forall_mem_cons.mpr ⟨gk_ok_142, List.forall_mem_cons.mpr ⟨gk_ok_143, fun _ h => absurd h List.not_mem_nil⟩⟩⟩⟩⟩⟩⟩⟩⟩⟩⟩⟩⟩⟩⟩⟩), List.forall_mem_cons.mpr ⟨(by
    unfold gw_ML_9
    exact List.forall_mem_cons.mpr ⟨gk_ok_144, List.forall_mem_cons.mpr ⟨gk_ok_145, List.forall_mem_cons.mpr ⟨gk_ok_146, List.forall_mem_cons.mpr ⟨gk_ok_147, List.forall_mem_cons.mpr ⟨gk_ok_148, List.forall_mem_cons.mpr ⟨gk_ok_149, List.forall_mem_cons.mpr ⟨gk_ok_150, List.forall_mem_cons.mpr ⟨gk_ok_151, List.forall_mem_cons.mpr ⟨gk_ok_152, List.forall_mem_cons.mpr ⟨gk_ok_153, List.forall_mem_cons.mpr ⟨gk_ok_154, List.forall_mem_cons.mpr ⟨gk_ok_155, List.forall_mem_cons.mpr ⟨gk_ok_156, List.forall_mem_cons.mpr ⟨gk_ok_157, List.forall_mem_cons.mpr ⟨gk_ok_158, List.forall_mem_cons.mpr ⟨gk_ok_159, fun _ h => absurd h List.not_mem_nil⟩⟩⟩⟩⟩⟩⟩⟩⟩⟩⟩⟩⟩⟩⟩⟩), List.forall_mem_cons.mpr ⟨(by
    unfold gw_ML_10
    exact List.forall_mem_cons.mpr ⟨gk_ok_160, List.forall_mem_cons.mpr ⟨gk_ok_161, List.forall_mem_cons.mpr ⟨gk_ok_162, List.forall_mem_cons.mpr ⟨gk_ok_163, List.forall_mem_cons.mpr ⟨gk_ok_164, List.forall_mem_cons.mpr ⟨gk_ok_165, List.forall_mem_cons.mpr ⟨gk_ok_166, List.forall_mem_cons.mpr ⟨gk_ok_167, List.forall_mem_cons.mpr ⟨gk_ok_168, List.forall_mem_cons.mpr ⟨gk_ok_169, List.forall_mem_cons.mpr ⟨gk_ok_170, List.forall_mem_cons.mpr ⟨gk_ok_171, List.forall_mem_cons.mpr ⟨gk_ok_172, List.forall_mem_cons.mpr ⟨gk_ok_173, List.forall_mem_cons.mpr ⟨gk_ok_174, List.forall_mem_cons.mpr ⟨gk_ok_175, fun _ h => absurd h List.not_mem_nil⟩⟩⟩⟩⟩⟩⟩⟩⟩⟩⟩⟩⟩⟩⟩⟩), List.forall_mem_cons.mpr ⟨(by
    unfold gw_ML_11
    exact List.forall_mem_cons.mpr ⟨gk_ok_176, List.forall_mem_cons.mpr ⟨gk_ok_177, List.forall_mem_cons.mpr ⟨gk_ok_178, List.forall_mem_cons.mpr ⟨gk_ok_179, List.forall_mem_cons.mpr ⟨gk_ok_180, List.forall_mem_cons.mpr ⟨gk_ok_181, List.forall_mem_cons.mpr ⟨gk_ok_182, List.forall_mem_cons.mpr ⟨gk_ok_183, List.forall_mem_cons.mpr ⟨gk_ok_184, List.forall_mem_cons.mpr ⟨gk_ok_185, List.forall_mem_cons.mpr ⟨gk_ok_186, List.forall_mem_cons.mpr ⟨gk_ok_187, List.forall_mem_cons.mpr ⟨gk_ok_188, List.forall_mem_cons.mpr ⟨gk_ok_189, List.forall_mem_cons.mpr ⟨gk_ok_190, List.forall_mem_cons.mpr ⟨gk_ok_191, fun _ h => absurd h List.not_mem_nil⟩⟩⟩⟩⟩⟩⟩⟩⟩⟩⟩⟩⟩⟩⟩⟩), List.forall_mem_cons.mpr ⟨(by
    unfold gw_ML_12
    exact List.forall_mem_cons.mpr ⟨gk_ok_192, List.forall_mem_cons.mpr ⟨gk_ok_193, List.forall_mem_cons.mpr ⟨gk_ok_194, List.forall_mem_cons.mpr ⟨gk_ok_195, List.forall_mem_cons.mpr ⟨gk_ok_196, List.forall_mem_cons.mpr ⟨gk_ok_197, List.forall_mem_cons.mpr ⟨gk_ok_198, List.forall_mem_cons.mpr ⟨gk_ok_199, List.forall_mem_cons.mpr ⟨gk_ok_200, List.forall_mem_cons.mpr ⟨gk_ok_201, List.forall_mem_cons.mpr ⟨gk_ok_202, List.forall_mem_cons.mpr ⟨gk_ok_203, List.forall_mem_cons.mpr ⟨gk_ok_204, List.forall_mem_cons.mpr ⟨gk_ok_205, List.forall_mem_cons.mpr ⟨gk_ok_206, List.forall_mem_cons.mpr ⟨gk_ok_207, fun _ h => absurd h List.not_mem_nil⟩⟩⟩⟩⟩⟩⟩⟩⟩⟩⟩⟩⟩⟩⟩⟩), List.forall_mem_cons.mpr ⟨(by
    unfold gw_ML_13
    exact List.forall_mem_cons.mpr ⟨gk_ok_208, List.forall_mem_cons.mpr ⟨gk_ok_209, List.forall_mem_cons.mpr ⟨gk_ok_210, List.forall_mem_cons.mpr ⟨gk_ok_211, List.forall_mem_cons.mpr ⟨gk_ok_212, List.forall_mem_cons.mpr ⟨gk_ok_213, List.forall_mem_cons.mpr ⟨gk_ok_214, List.forall_mem_cons.mpr ⟨gk_ok_215, List.forall_mem_cons.mpr ⟨gk_ok_216, List.forall_mem_cons.mpr ⟨gk_ok_217, List.forall_mem_cons.mpr ⟨gk_ok_218, List.forall_mem_cons.mpr ⟨gk_ok_219, List.forall_mem_cons.mpr ⟨gk_ok_220, List.forall_mem_cons.mpr ⟨gk_ok_221, List.forall_mem_cons.mpr ⟨gk_ok_222, List.forall_mem_cons.mpr ⟨gk_ok_223, fun _ h => absurd h List.not_mem_nil⟩⟩⟩⟩⟩⟩⟩⟩⟩⟩⟩⟩⟩⟩⟩⟩), List.forall_mem_cons.mpr ⟨(by
    unfold gw_ML_14
    exact List.forall_mem_cons.mpr ⟨gk_ok_224, List.forall_mem_cons.mpr ⟨gk_ok_225, List.forall_mem_cons.mpr ⟨gk_ok_226, List.forall_mem_cons.mpr ⟨gk_ok_227, List.forall_mem_cons.mpr ⟨gk_ok_228, List.forall_mem_cons.mpr ⟨gk_ok_229, List.forall_mem_cons.mpr ⟨gk_ok_230, List.forall_mem_cons.mpr ⟨gk_ok_231, List.forall_mem_cons.mpr ⟨gk_ok_232, List.forall_mem_cons.mpr ⟨gk_ok_233, List.forall_mem_cons.mpr ⟨gk_ok_234, List.forall_mem_cons.mpr ⟨gk_ok_235, List.forall_mem_cons.mpr ⟨gk_ok_236, List.forall_mem_cons.mpr ⟨gk_ok_237, List.forall_mem_cons.mpr ⟨gk_ok_238, List.forall_mem_cons.mpr ⟨gk_ok_239, fun _ h => absurd h List.not_mem_nil⟩⟩⟩⟩⟩⟩⟩⟩⟩⟩⟩⟩⟩⟩⟩⟩), List.forall_mem_cons.mpr ⟨(by
    unfold gw_ML_15
    exact List.forall_mem_cons.mpr ⟨gk_ok_240, List.forall_mem_cons.mpr ⟨gk_ok_241, List.forall_mem_cons.mpr ⟨gk_ok_242, List.forall_mem_cons.mpr ⟨gk_ok_243, List.forall_mem_cons.mpr ⟨gk_ok_244, List.forall_mem_cons.mpr ⟨gk_ok_245, List.forall_mem_cons.mpr ⟨gk_ok_246, List.forall_mem_cons.mpr ⟨gk_ok_247, List.forall_mem_cons.mpr ⟨gk_ok_248, List.forall_mem_cons.mpr ⟨gk_ok_249, List.forall_mem_cons.mpr ⟨gk_ok_250, List.forall_mem_cons.mpr ⟨gk_ok_251, List.forall_mem_cons.mpr ⟨gk_ok_252, List.forall_mem_cons.mpr ⟨gk_ok_253, List.forall_mem_cons.mpr ⟨gk_ok_254, List.forall_mem_cons.mpr ⟨gk_ok_255, fun _ h => absurd h List.not_mem_nil⟩⟩⟩⟩⟩⟩⟩⟩⟩⟩⟩⟩⟩⟩⟩⟩), List.forall_mem_cons.mpr ⟨(by
    unfold gw_ML_16
    exact List.forall_mem_cons.mpr ⟨gk_ok_256, List.forall_mem_cons.mpr ⟨gk_ok_257, List.forall_mem_cons.mpr ⟨gk_ok_258, List.forall_mem_cons.mpr ⟨gk_ok_259, List.forall_mem_cons.mpr ⟨gk_ok_260, List.forall_mem_cons.mpr ⟨gk_ok_261, List.forall_mem_cons.mpr ⟨gk_ok_262, List.forall_mem_cons.mpr ⟨gk_ok_263, List.forall_mem_cons.mpr ⟨gk_ok_264, List.forall_mem_cons.mpr ⟨gk_ok_265, List.forall_mem_cons.mpr ⟨gk_ok_266, List.forall_mem_cons.mpr ⟨gk_ok_267, List.forall_mem_cons.mpr ⟨gk_ok_268, List.forall_mem_cons.mpr ⟨gk_ok_269, List.forall_mem_cons.mpr ⟨gk_ok_270, List.forall_mem_cons.mpr ⟨gk_ok_271, fun _ h => absurd h List.not_mem_nil⟩⟩⟩⟩⟩⟩⟩⟩⟩⟩⟩⟩⟩⟩⟩⟩), List.forall_mem_cons.mpr ⟨(by
    unfold gw_ML_17
    exact List.forall_mem_cons.mpr ⟨gk_ok_272, List.forall_mem_cons.mpr ⟨gk_ok_273, List.forall_mem_cons.mpr ⟨gk_ok_274, List.forall_mem_cons.mpr ⟨gk_ok_275, List.forall_mem_cons.mpr ⟨gk_ok_276, List.forall_mem_cons.mpr ⟨gk_ok_277, List.forall_mem_cons.mpr ⟨gk_ok_278, List.forall_mem_cons.mpr ⟨gk_ok_279, List.forall_mem_cons.mpr ⟨gk_ok_280, List.forall_mem_cons.mpr ⟨gk_ok_281, List.forall_mem_cons.mpr ⟨gk_ok_282, List.forall_mem_cons.mpr ⟨gk_ok_283, List.forall_mem_cons.mpr ⟨gk_ok_284, List.forall_mem_cons.mpr ⟨gk_ok_285, List.forall_mem_cons.mpr ⟨gk_ok_286, List.forall_mem_cons.mpr ⟨gk_ok_287, fun _ h => absurd h List.not_mem_nil⟩⟩⟩⟩⟩⟩⟩⟩⟩⟩⟩⟩⟩⟩⟩⟩), List.forall_mem_cons.mpr ⟨(by
    unfold gw_ML_18
    exact List.forall_mem_cons.mpr ⟨gk_ok_288, List.forall_mem_cons.mpr ⟨gk_ok_289, List.forall_mem_cons.mpr ⟨gk_ok_290, List.forall_mem_cons.mpr ⟨gk_ok_291, List.forall_mem_cons.mpr ⟨gk_ok_292, List.forall_mem_cons.mpr ⟨gk_ok_293, List.forall_mem_cons.mpr ⟨gk_ok_294, List.forall_mem_cons.mpr ⟨gk_ok_295, List.forall_mem_cons.mpr ⟨gk_ok_296, List.forall_mem_cons.mpr ⟨gk_ok_297, List.forall_mem_cons.mpr ⟨gk_ok_298, List.forall_mem_cons.mpr ⟨gk_ok_299, List.forall_mem_cons.mpr ⟨gk_ok_300, List.forall_mem_cons.mpr ⟨gk_ok_301, List.forall_mem_cons.mpr ⟨gk_ok_302, List.forall_mem_cons.mpr ⟨gk_ok_303, fun _ h => absurd h List.not_mem_nil⟩⟩⟩⟩⟩⟩⟩⟩⟩⟩⟩⟩⟩⟩⟩⟩), List.forall_mem_cons.mpr ⟨(by
    unfold gw_ML_19
    exact List.forall_mem_cons.mpr ⟨gk_ok_304, List.forall_mem_cons.mpr ⟨gk_ok_305, List.forall_mem_cons.mpr ⟨gk_ok_306, List.forall_mem_cons.mpr ⟨gk_ok_307, List.forall_mem_cons.mpr ⟨gk_ok_308, List.forall_mem_cons.mpr ⟨gk_ok_309, List.forall_mem_cons.mpr ⟨gk_ok_310, List.forall_mem_cons.mpr ⟨gk_ok_311, List.forall_mem_cons.mpr ⟨gk_ok_312, List.forall_mem_cons.mpr ⟨gk_ok_313, fun _ h => absurd h List.not_mem_nil⟩⟩⟩⟩⟩⟩⟩⟩⟩⟩), fun _ h => absurd h List.not_mem_nil⟩⟩⟩⟩⟩⟩⟩⟩⟩⟩⟩⟩⟩⟩⟩⟩⟩⟩⟩⟩
theorem gw_fact_K {m : Nat} {M : gw_M} (h : gw_mi m = some M) : gw_okC M = true := by
  unfold gw_mi at h
  split at h
  · rename_i l hl
    exact gw_MKok l (List.mem_of_getElem? hl) M (List.mem_of_getElem? h)
  · cases h
theorem gw_fact_M {m : Nat} {M : gw_M} (h : gw_mi m = some M) : ∃ ix, gw_okM M ix = true := by
  unfold gw_mi at h
  split at h
  · rename_i l hl
    exact gw_MLok l (List.mem_of_getElem? hl) M (List.mem_of_getElem? h)
  · cases h
theorem gw_fact_P {c i : Nat} {e : gw_E} (h : gw_pool c i = some e) : ∃ ix, gw_okP c (i, e) ix = true := by
  unfold gw_pool at h
  split at h
  · rename_i l hl
    have hm := gw_lookup_mem h
    have hc : c < 16 := (List.getElem?_eq_some_iff.mp hl).1
    match c, hc, hl with
    | 0, _, hl => cases hl; exact gw_all2_of gp_ok_0 _ hm
    | 1, _, hl => cases hl; exact gw_all2_of gp_ok_1 _ hm
    | 2, _, hl => cases hl; exact gw_all2_of gp_ok_2 _ hm
    | 3, _, hl => cases hl; exact gw_all2_of gp_ok_3 _ hm
    | 4, _, hl => cases hl; exact gw_all2_of gp_ok_4 _ hm
    | 5, _, hl => cases hl; exact gw_all2_of gp_ok_5 _ hm
    | 6, _, hl => cases hl; exact gw_all2_of gp_ok_6 _ hm
    | 7, _, hl => cases hl; exact gw_all2_of gp_ok_7 _ hm
    | 8, _, hl => cases hl; exact gw_all2_of gp_ok_8 _ hm
    | 9, _, hl => cases hl; exact gw_all2_of gp_ok_9 _ hm
    | 10, _, hl => cases hl; exact gw_all2_of gp_ok_10 _ hm
    | 11, _, hl => cases hl; exact gw_all2_of gp_ok_11 _ hm
    | 12, _, hl => cases hl; exact gw_all2_of gp_ok_12 _ hm
    | 13, _, hl => cases hl; exact gw_all2_of gp_ok_13 _ hm
    | 14, _, hl => cases hl; exact gw_all2_of gp_ok_14 _ hm
    | 15, _, hl => cases hl; exact gw_all2_of gp_ok_15 _ hm
  · cases h
theorem gw_lay_good {C : String} {T : u_T} {N : Nat} {w : Jvm.Cond} (h : w ∈ u_ws C T N) : goodWord w = true := by
  obtain ⟨k, -, rfl⟩ := List.mem_map.mp h
  unfold u_lay
  split <;> rfl
theorem gw_fact_C {ci N : Nat} {C : String} {T : u_T} (h : vwCl[ci]? = some (C, T, N)) : (∀ w ∈ u_ws C T N, w ∈ gw_tb) ∧ (∀ k, k < N → parseFieldDescriptor (T k).2.2.1 = some (gw_ty ci k)) ∧ ∀ a, a < N → ∀ b, b < N → a ≠ b → (T a).2.1 ≠ (T b).2.1 := by
  have hc : ci < 13 := (List.getElem?_eq_some_iff.mp h).1
  have key : ∀ {C : String} {T : u_T} {N : Nat} {r : List Nat}, gw_all2 (fun w i => gw_ti i w) (u_ws C T N) r = true → ∀ w ∈ u_ws C T N, w ∈ gw_tb := fun h w hw => by
    obtain ⟨i, hi⟩ := gw_all2_of h w hw
    exact gw_tb_in (gw_ti_in hi) (gw_lay_good hw)
  match ci, hc, h with
  | 0, _, h => cases h; exact ⟨key gu_ok_0, tyX0_ok, nmX0⟩
  | 1, _, h => cases h; exact ⟨key gu_ok_1, tyX1_ok, nmX1⟩
  | 2, _, h => cases h; exact ⟨key gu_ok_2, tyX2_ok, nmX2⟩
  | 3, _, h => cases h; exact ⟨key gu_ok_3, tyX3_ok, nmX3⟩
  | 4, _, h => cases h; exact ⟨key gu_ok_4, tyX4_ok, nmX4⟩
  | 5, _, h => cases h; exact ⟨key gu_ok_5, tyX5_ok, nmX5⟩
  | 6, _, h => cases h; exact ⟨key gu_ok_6, tyX6_ok, nmX6⟩
  | 7, _, h => cases h; exact ⟨key gu_ok_7, tyX7_ok, nmX7⟩
  | 8, _, h => cases h; exact ⟨key gu_ok_8, tyX8_ok, nmX8⟩
  | 9, _, h => cases h; exact ⟨key gu_ok_9, tyX9_ok, nmX9⟩
  | 10, _, h => cases h; exact ⟨key gu_ok_10, tyX10_ok, nmX10⟩
  | 11, _, h => cases h; exact ⟨key gu_ok_11, tyX11_ok, nmX11⟩
  | 12, _, h => cases h; exact ⟨key gu_ok_12, tyX12_ok, nmX12⟩
theorem gw_at_spec {m pc : Nat} {M : gw_M} {I : gw_I} (h : gw_at m pc = some (M, I)) : gw_mi m = some M ∧ gw_okI M.1 M.2.2.1 (pc, I) = true := by
  unfold gw_at at h
  cases hm : gw_mi m with
  | none => simp [hm] at h
  | some M' =>
    simp only [hm] at h
    cases hl : M'.2.2.2.2.2.2.2.2.lookup pc with
    | none => simp [hl] at h
    | some I' =>
      simp only [hl, Option.some.injEq, Prod.mk.injEq] at h
      obtain ⟨rfl, rfl⟩ := h
      refine ⟨rfl, ?_⟩
      exact List.all_eq_true.mp (gw_fact_K hm) _ (gw_lookup_mem hl)
