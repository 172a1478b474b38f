theorem all_app {α : Type} {a b : List α} {f : α → Bool} (h : a.all f = true) (h2 : b.all f = true) : (a ++ b).all f = true := by rw [List.all_append, h, h2]; rfl
theorem okd_218 : kd_218.all (okE (mOwn 218) (mCd 218)) = true := all_app okd_218_0 (okd_218_1)
theorem okd_362 : kd_362.all (okE (mOwn 362) (mCd 362)) = true := all_app okd_362_0 (all_app okd_362_1 (all_app okd_362_2 (all_app okd_362_3 (all_app okd_362_4 (all_app okd_362_5 (all_app okd_362_6 (all_app okd_362_7 (all_app okd_362_8 (all_app okd_362_9 (all_app okd_362_10 (all_app okd_362_11 (all_app okd_362_12 (all_app okd_362_13 (all_app okd_362_14 (all_app okd_362_15 (all_app okd_362_16 (all_app okd_362_17 (all_app okd_362_18 (all_app okd_362_19 (all_app okd_362_20 (all_app okd_362_21 (all_app okd_362_22 (all_app okd_362_23 (all_app okd_362_24 (all_app okd_362_25 (all_app okd_362_26 (all_app okd_362_27 (all_app okd_362_28 (all_app okd_362_29 (all_app okd_362_30 (all_app okd_362_31 (okd_362_32))))))))))))))))))))))))))))))))
def AllAt {α : Type} (P : Nat → α → Prop) : Nat → List α → Prop
  | _, [] => True
  | o, a :: r => P o a ∧ AllAt P (o + 1) r
theorem AllAt.get {α : Type} {P : Nat → α → Prop} : ∀ {l : List α} {o : Nat}, AllAt P o l → ∀ k a, l[k]? = some a → P (o + k) a
  | [], _, _, k, a, h => by simp at h
  | x :: r, o, h, 0, a, hk => by
    cases hk
    exact h.1
  | x :: r, o, h, k + 1, a, hk => by
    have := AllAt.get h.2 k a (by simpa using hk)
    rw [show o + 1 + k = o + (k + 1) by omega] at this
    exact this
def okM (M : Nat) (l : List (Nat × Nat × Nat × Instr)) : Prop := l.all (okE (mOwn M) (mCd M)) = true
theorem okg_0 : AllAt okM 0 kg_0 := ⟨okd_0, okd_1, okd_2, okd_3, okd_4, okd_5, okd_6, okd_7, okd_8, okd_9, okd_10, okd_11, okd_12, okd_13, okd_14, okd_15, okd_16, okd_17, okd_18, okd_19, okd_20, okd_21, okd_22, okd_23, okd_24, okd_25, okd_26, okd_27, okd_28, okd_29, okd_30, okd_31, trivial⟩
theorem okg_1 : AllAt okM 32 kg_1 := ⟨okd_32, okd_33, okd_34, okd_35, okd_36, okd_37, okd_38, okd_39, okd_40, okd_41, okd_42, okd_43, okd_44, okd_45, okd_46, okd_47, okd_48, okd_49, okd_50, okd_51, okd_52, okd_53, okd_54, okd_55, okd_56, okd_57, okd_58, okd_59, okd_60, okd_61, okd_62, okd_63, trivial⟩
theorem okg_2 : AllAt okM 64 kg_2 := ⟨okd_64, okd_65, okd_66, okd_67, okd_68, okd_69, okd_70, okd_71, okd_72, okd_73, okd_74, okd_75, okd_76, okd_77, okd_78, okd_79, okd_80, okd_81, okd_82, okd_83, okd_84, okd_85, okd_86, okd_87, okd_88, okd_89, okd_90, okd_91, okd_92, okd_93, okd_94, okd_95, trivial⟩
theorem okg_3 : AllAt okM 96 kg_3 := ⟨okd_96, okd_97, okd_98, okd_99, okd_100, okd_101, okd_102, okd_103, okd_104, okd_105, okd_106, okd_107, okd_108, okd_109, okd_110, okd_111, okd_112, okd_113, okd_114, okd_115, okd_116, okd_117, okd_118, okd_119, okd_120, okd_121, okd_122, okd_123, okd_124, okd_125, okd_126, okd_127, trivial⟩
theorem okg_4 : AllAt okM 128 kg_4 := ⟨okd_128, okd_129, okd_130, okd_131, okd_132, okd_133, okd_134, okd_135, okd_136, okd_137, okd_138, okd_139, okd_140, okd_141, okd_142, okd_143, okd_144, okd_145, okd_146, okd_147, okd_148, okd_149, okd_150, okd_151, okd_152, okd_153, okd_154, okd_155, okd_156, okd_157, okd_158, okd_159, trivial⟩
theorem okg_5 : AllAt okM 160 kg_5 := ⟨okd_160, okd_161, okd_162, okd_163, okd_164, okd_165, okd_166, okd_167, okd_168, okd_169, okd_170, okd_171, okd_172, okd_173, okd_174, okd_175, okd_176, okd_177, okd_178, okd_179, okd_180, okd_181, okd_182, okd_183, okd_184, okd_185, okd_186, okd_187, okd_188, okd_189, okd_190, okd_191, trivial⟩
theorem okg_6 : AllAt okM 192 kg_6 := ⟨okd_192, okd_193, okd_194, okd_195, okd_196, okd_197, okd_198, okd_199, okd_200, okd_201, okd_202, okd_203, okd_204, okd_205, okd_206, okd_207, okd_208, okd_209, okd_210, okd_211, okd_212, okd_213, okd_214, okd_215, okd_216, okd_217, okd_218, okd_219, okd_220, okd_221, okd_222, okd_223, trivial⟩
theorem okg_7 : AllAt okM 224 kg_7 := ⟨okd_224, okd_225, okd_226, okd_227, okd_228, okd_229, okd_230, okd_231, okd_232, okd_233, okd_234, okd_235, okd_236, okd_237, okd_238, okd_239, okd_240, okd_241, okd_242, okd_243, okd_244, okd_245, okd_246, okd_247, okd_248, okd_249, okd_250, okd_251, okd_252, okd_253, okd_254, okd_255, trivial⟩
theorem okg_8 : AllAt okM 256 kg_8 := ⟨okd_256, okd_257, okd_258, okd_259, okd_260, okd_261, okd_262, okd_263, okd_264, okd_265, okd_266, okd_267, okd_268, okd_269, okd_270, okd_271, okd_272, okd_273, okd_274, okd_275, okd_276, okd_277, okd_278, okd_279, okd_280, okd_281, okd_282, okd_283, okd_284, okd_285, okd_286, okd_287, trivial⟩
theorem okg_9 : AllAt okM 288 kg_9 := ⟨okd_288, okd_289, okd_290, okd_291, okd_292, okd_293, okd_294, okd_295, okd_296, okd_297, okd_298, okd_299, okd_300, okd_301, okd_302, okd_303, okd_304, okd_305, okd_306, okd_307, okd_308, okd_309, okd_310, okd_311, okd_312, okd_313, okd_314, okd_315, okd_316, okd_317, okd_318, okd_319, trivial⟩
theorem okg_10 : AllAt okM 320 kg_10 := ⟨okd_320, okd_321, okd_322, okd_323, okd_324, okd_325, okd_326, okd_327, okd_328, okd_329, okd_330, okd_331, okd_332, okd_333, okd_334, okd_335, okd_336, okd_337, okd_338, okd_339, okd_340, okd_341, okd_342, okd_343, okd_344, okd_345, okd_346, okd_347, okd_348, okd_349, okd_350, okd_351, trivial⟩
theorem okg_11 : AllAt okM 352 kg_11 := ⟨okd_352, okd_353, okd_354, okd_355, okd_356, okd_357, okd_358, okd_359, okd_360, okd_361, okd_362, trivial⟩
theorem okgs : AllAt (fun g l => AllAt okM (32 * g) l) 0 kgs := ⟨okg_0, okg_1, okg_2, okg_3, okg_4, okg_5, okg_6, okg_7, okg_8, okg_9, okg_10, okg_11, trivial⟩
theorem tab_ok {M : Nat} {e : Nat × Nat × Nat × Instr} (h : e ∈ ctab M) : okE (mOwn M) (mCd M) e = true := by
  unfold ctab at h
  rw [List.getD_eq_getElem?_getD, List.getD_eq_getElem?_getD] at h
  cases hg : kgs[M / 32]? with
  | none => rw [hg] at h; simp at h
  | some l =>
    rw [hg] at h
    dsimp only [Option.getD_some] at h
    cases hl : l[M % 32]? with
    | none => rw [hl] at h; simp at h
    | some t =>
      rw [hl] at h
      have h1 := okgs.get _ _ hg
      have h2 := AllAt.get h1 _ _ hl
      rw [show 32 * (0 + M / 32) + M % 32 = M by omega] at h2
      exact List.all_eq_true.mp h2 _ h
