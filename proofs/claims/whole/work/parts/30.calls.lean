/-! ALL METHODS: calls by depth; each is the machine's -/
def pm_cd_0 : List (List (Nat × pm_Sem)) := [tb_0, tb_1, tb_2, tb_3, tb_4, tb_5, tb_6, tb_7, tb_8, tb_9, tb_10, tb_11, tb_12, tb_13, tb_14, tb_15, tb_16, tb_17, tb_18, tb_19, tb_20, tb_21, tb_22, tb_23, tb_24, tb_25, tb_26, tb_27, tb_28, tb_29, tb_30, tb_31, tb_32, tb_33, tb_34, tb_35, tb_36, tb_37, tb_38, tb_39]
def pm_nl_0 : List Nat := [3, 3, 8, 1, 1, 3, 4, 4, 5, 2, 4, 2, 4, 2, 3, 3, 3, 4, 3, 1, 5, 2, 3, 7, 5, 1, 3, 3, 3, 7, 4, 5, 4, 5, 1, 2, 1, 5, 4, 7]
def pm_cd_1 : List (List (Nat × pm_Sem)) := [tb_40, tb_41, tb_42, tb_43, tb_44, tb_45, tb_46, tb_47, tb_48, tb_49, tb_50, tb_51, tb_52, tb_53, tb_54, tb_55, tb_56, tb_57, tb_58, tb_59, tb_60, tb_61, tb_62, tb_63, tb_64, tb_65, tb_66, tb_67, tb_68, tb_69, tb_70, tb_71, tb_72, tb_73, tb_74, tb_75, tb_76, tb_77, tb_78, tb_79]
def pm_nl_1 : List Nat := [2, 1, 3, 2, 1, 1, 2, 2, 4, 5, 4, 3, 3, 3, 3, 4, 3, 4, 2, 7, 4, 1, 2, 5, 8, 6, 7, 5, 5, 1, 1, 5, 4, 4, 3, 3, 2, 4, 4, 4]
def pm_cd_2 : List (List (Nat × pm_Sem)) := [tb_80, tb_81, tb_82, tb_83, tb_84, tb_85, tb_86, tb_87, tb_88, tb_89, tb_90, tb_91, tb_92, tb_93, tb_94, tb_95, tb_96, tb_97, tb_98, tb_99, tb_100, tb_101, tb_102, tb_103, tb_104, tb_105, tb_106, tb_107, tb_108, tb_109, tb_110, tb_111, tb_112, tb_113, tb_114, tb_115, tb_116, tb_117, tb_118, tb_119]
def pm_nl_2 : List Nat := [2, 1, 2, 14, 4, 5, 2, 1, 4, 2, 3, 5, 4, 2, 8, 6, 3, 6, 2, 3, 3, 3, 3, 4, 2, 3, 2, 1, 2, 2, 2, 2, 9, 3, 4, 2, 4, 5, 3, 5]
def pm_cd_3 : List (List (Nat × pm_Sem)) := [tb_120, tb_121, tb_122, tb_123, tb_124, tb_125, tb_126, tb_127, tb_128, tb_129, tb_130, tb_131, tb_132, tb_133, tb_134, tb_135, tb_136, tb_137, tb_138, tb_139, tb_140, tb_141, tb_142, tb_143, tb_144, tb_145, tb_146, tb_147, tb_148, tb_149, tb_150, tb_151, tb_152, tb_153, tb_154, tb_155, tb_156, tb_157, tb_158, tb_159]
def pm_nl_3 : List Nat := [5, 6, 5, 6, 9, 5, 6, 4, 9, 1, 1, 5, 2, 1, 2, 4, 2, 1, 1, 3, 5, 4, 8, 3, 4, 4, 3, 3, 4, 5, 2, 3, 2, 2, 2, 1, 2, 3, 1, 1]
def pm_cd_4 : List (List (Nat × pm_Sem)) := [tb_160, tb_161, tb_162, tb_163, tb_164, tb_165, tb_166, tb_167, tb_168, tb_169, tb_170, tb_171, tb_172, tb_173, tb_174, tb_175, tb_176, tb_177, tb_178, tb_179, tb_180, tb_181, tb_182, tb_183, tb_184, tb_185, tb_186, tb_187, tb_188, tb_189, tb_190, tb_191, tb_192, tb_193, tb_194, tb_195, tb_196, tb_197, tb_198, tb_199]
def pm_nl_4 : List Nat := [1, 3, 4, 5, 3, 2, 7, 5, 1, 4, 5, 3, 5, 1, 5, 4, 4, 3, 3, 3, 2, 3, 2, 2, 2, 3, 2, 4, 1, 3, 3, 4, 4, 4, 3, 4, 3, 3, 1, 3]
def pm_cd_5 : List (List (Nat × pm_Sem)) := [tb_200, tb_201, tb_202, tb_203, tb_204, tb_205, tb_206, tb_207, tb_208, tb_209, tb_210, tb_211, tb_212, tb_213, tb_214, tb_215, tb_216, tb_217, tb_218, tb_219, tb_220, tb_221, tb_222, tb_223, tb_224, tb_225, tb_226, tb_227, tb_228, tb_229, tb_230, tb_231, tb_232, tb_233, tb_234, tb_235, tb_236, tb_237, tb_238, tb_239]
def pm_nl_5 : List Nat := [3, 2, 2, 2, 2, 2, 1, 2, 2, 2, 3, 3, 3, 4, 4, 6, 3, 4, 3, 8, 6, 2, 5, 10, 3, 4, 3, 2, 4, 6, 1, 2, 6, 5, 5, 1, 5, 5, 5, 8]
def pm_cd_6 : List (List (Nat × pm_Sem)) := [tb_240, tb_241, tb_242, tb_243, tb_244, tb_245, tb_246, tb_247, tb_248, tb_249, tb_250, tb_251, tb_252, tb_253, tb_254, tb_255, tb_256, tb_257, tb_258, tb_259, tb_260, tb_261, tb_262, tb_263, tb_264, tb_265, tb_266, tb_267, tb_268, tb_269, tb_270]
def pm_nl_6 : List Nat := [5, 5, 8, 5, 3, 2, 2, 5, 5, 5, 9, 3, 9, 5, 3, 8, 4, 5, 6, 5, 7, 3, 9, 4, 2, 3, 3, 3, 1, 4, 4]
def pm_cds : List (List (Nat × pm_Sem)) := pm_cd_0 ++ (pm_cd_1 ++ (pm_cd_2 ++ (pm_cd_3 ++ (pm_cd_4 ++ (pm_cd_5 ++ (pm_cd_6))))))
def pm_nls : List Nat := pm_nl_0 ++ (pm_nl_1 ++ (pm_nl_2 ++ (pm_nl_3 ++ (pm_nl_4 ++ (pm_nl_5 ++ (pm_nl_6))))))
def pm_cd (j : Nat) : List (Nat × pm_Sem) := pm_cds.getD j []
def pm_nl (j : Nat) : Nat := pm_nls.getD j 0
def pm_call : Nat → pm_Cr
  | 0 => fun _ _ _ _ _ => False
  | d + 1 => fun j A M r M' => j < 271 ∧ (pm_in0 A).length ≤ pm_nl j ∧ pm_WP (pm_call d) (pm_cd j) (fun r0 M1 => r0 = r ∧ M1 = M') 0 (pm_init (pm_nl j) A) [] M
def pm_A (j : Nat) (q : MethodName × ByteArray × Nat × Option FieldType) : Prop := ∃ ini : Bool, (∀ x ∈ pm_cd j, pm_Snd q.1.cls q.2.1 q.2.2.1 q.2.2.2 ini x.1 x.2) ∧ (∀ x ∈ pm_cd j, pm_Sz x.2) ∧ plainName q.1.cls = true ∧ (ini = true → q.1.name = "<init>") ∧ pm_nl j = q.2.2.1
theorem ix_c {α : Type} {P : Nat → α → Prop} {a : α} {l : List α} (n : Nat) (h : P n a) (t : ∀ (i : Nat) (q : α), l[i]? = some q → P (n + 1 + i) q) : ∀ (i : Nat) (q : α), (a :: l)[i]? = some q → P (n + i) q := by
  intro i q h1
  cases i with
  | zero => cases h1; exact h
  | succ i => rw [show n + (i + 1) = n + 1 + i by omega]; exact t i q h1
theorem ix_n {α : Type} {P : Nat → α → Prop} (n : Nat) : ∀ (i : Nat) (q : α), ([] : List α)[i]? = some q → P (n + i) q := fun i q h => by simp at h
theorem ix_a {α : Type} {P : Nat → α → Prop} {k l : List α} (n m : Nat) (h : ∀ (i : Nat) (q : α), k[i]? = some q → P (n + i) q) (hm : n + k.length = m) (t : ∀ (i : Nat) (q : α), l[i]? = some q → P (m + i) q) : ∀ (i : Nat) (q : α), (k ++ l)[i]? = some q → P (n + i) q := by
  intro i q h1
  by_cases hl : i < k.length
  · rw [List.getElem?_append_left hl] at h1
    exact h i q h1
  · rw [List.getElem?_append_right (by omega)] at h1
    have := t (i - k.length) q h1
    rwa [show m + (i - k.length) = n + i by omega] at this
theorem al_0 : pm_A 0 (yX0_init, cX0_init, 3, none) := ⟨true, so_0, zs_0, by decide, fun _ => rfl, rfl⟩
theorem al_1 : pm_A 1 (yX0_search, cX0_search, 3, (some .int)) := ⟨false, so_1, zs_1, by decide, fun h => absurd h (by decide), rfl⟩
theorem al_2 : pm_A 2 (yX0_goOn, cX0_goOn, 8, none) := ⟨false, so_2, zs_2, by decide, fun h => absurd h (by decide), rfl⟩
theorem al_3 : pm_A 3 (yX0_readsBackward, cX0_readsBackward, 1, (some .boolean)) := ⟨false, so_3, zs_3, by decide, fun h => absurd h (by decide), rfl⟩
theorem al_4 : pm_A 4 (yX1_init, cX1_init, 1, none) := ⟨true, so_4, zs_4, by decide, fun _ => rfl, rfl⟩
theorem al_5 : pm_A 5 (yX1_beAs, cX1_beAs, 3, none) := ⟨false, so_5, zs_5, by decide, fun h => absurd h (by decide), rfl⟩
theorem al_6 : pm_A 6 (yX1_barByLaws, cX1_barByLaws, 4, none) := ⟨false, so_6, zs_6, by decide, fun h => absurd h (by decide), rfl⟩
theorem al_7 : pm_A 7 (yX1_workOutTakes, cX1_workOutTakes, 4, none) := ⟨false, so_7, zs_7, by decide, fun h => absurd h (by decide), rfl⟩
theorem al_8 : pm_A 8 (yX1_workOutPairs, cX1_workOutPairs, 5, none) := ⟨false, so_8, zs_8, by decide, fun h => absurd h (by decide), rfl⟩
theorem al_9 : pm_A 9 (yX1_hasKnot, cX1_hasKnot, 2, (some .boolean)) := ⟨false, so_9, zs_9, by decide, fun h => absurd h (by decide), rfl⟩
theorem al_10 : pm_A 10 (yX1_isOfKind, cX1_isOfKind, 4, (some .boolean)) := ⟨false, so_10, zs_10, by decide, fun h => absurd h (by decide), rfl⟩
theorem al_11 : pm_A 11 (yX1_isWill, cX1_isWill, 2, (some .boolean)) := ⟨false, so_11, zs_11, by decide, fun h => absurd h (by decide), rfl⟩
theorem al_12 : pm_A 12 (yX1_knotsOfKind, cX1_knotsOfKind, 4, (some .int)) := ⟨false, so_12, zs_12, by decide, fun h => absurd h (by decide), rfl⟩
theorem al_13 : pm_A 13 (yX1_takesAlone, cX1_takesAlone, 2, (some .int)) := ⟨false, so_13, zs_13, by decide, fun h => absurd h (by decide), rfl⟩
theorem al_14 : pm_A 14 (yX1_takesBehind, cX1_takesBehind, 3, (some .int)) := ⟨false, so_14, zs_14, by decide, fun h => absurd h (by decide), rfl⟩
theorem al_15 : pm_A 15 (yX1_isBarred, cX1_isBarred, 3, (some .boolean)) := ⟨false, so_15, zs_15, by decide, fun h => absurd h (by decide), rfl⟩
theorem al_16 : pm_A 16 (yX1_pairedSign, cX1_pairedSign, 3, (some .int)) := ⟨false, so_16, zs_16, by decide, fun h => absurd h (by decide), rfl⟩
theorem al_17 : pm_A 17 (yX1_pairsWith, cX1_pairsWith, 4, (some .int)) := ⟨false, so_17, zs_17, by decide, fun h => absurd h (by decide), rfl⟩
theorem al_18 : pm_A 18 (yX1_knotFact, cX1_knotFact, 3, (some .int)) := ⟨false, so_18, zs_18, by decide, fun h => absurd h (by decide), rfl⟩
theorem al_19 : pm_A 19 (yX1_room, cX1_room, 1, (some .int)) := ⟨false, so_19, zs_19, by decide, fun h => absurd h (by decide), rfl⟩
theorem al_20 : pm_A 20 (yX1_measure, cX1_measure, 5, (some .int)) := ⟨false, so_20, zs_20, by decide, fun h => absurd h (by decide), rfl⟩
theorem al_21 : pm_A 21 (yX1_spareOf, cX1_spareOf, 2, (some .int)) := ⟨false, so_21, zs_21, by decide, fun h => absurd h (by decide), rfl⟩
theorem al_22 : pm_A 22 (yX1_isRight, cX1_isRight, 3, (some .boolean)) := ⟨false, so_22, zs_22, by decide, fun h => absurd h (by decide), rfl⟩
theorem al_23 : pm_A 23 (yX1_read, cX1_read, 7, none) := ⟨false, so_23, zs_23, by decide, fun h => absurd h (by decide), rfl⟩
theorem al_24 : pm_A 24 (yX1_digestOn, cX1_digestOn, 5, (some .long)) := ⟨false, so_24, zs_24, by decide, fun h => absurd h (by decide), rfl⟩
theorem al_25 : pm_A 25 (yX2_init, cX2_init, 1, none) := ⟨true, so_25, zs_25, by decide, fun _ => rfl, rfl⟩
theorem al_26 : pm_A 26 (yX2_faultOf, cX2_faultOf, 3, (some .int)) := ⟨false, so_26, zs_26, by decide, fun h => absurd h (by decide), rfl⟩
theorem al_27 : pm_A 27 (yX2_faultOfItems, cX2_faultOfItems, 3, (some .int)) := ⟨false, so_27, zs_27, by decide, fun h => absurd h (by decide), rfl⟩
theorem al_28 : pm_A 28 (yX2_skipBlanks, cX2_skipBlanks, 3, none) := ⟨false, so_28, zs_28, by decide, fun h => absurd h (by decide), rfl⟩
theorem al_29 : pm_A 29 (yX2_takeItem, cX2_takeItem, 7, (some .boolean)) := ⟨false, so_29, zs_29, by decide, fun h => absurd h (by decide), rfl⟩
theorem al_30 : pm_A 30 (yX2_takeKnot, cX2_takeKnot, 4, (some .boolean)) := ⟨false, so_30, zs_30, by decide, fun h => absurd h (by decide), rfl⟩
theorem al_31 : pm_A 31 (yX2_takeLawOrPair, cX2_takeLawOrPair, 5, (some .boolean)) := ⟨false, so_31, zs_31, by decide, fun h => absurd h (by decide), rfl⟩
theorem al_32 : pm_A 32 (yX2_twoFigures, cX2_twoFigures, 4, (some .int)) := ⟨false, so_32, zs_32, by decide, fun h => absurd h (by decide), rfl⟩
theorem al_33 : pm_A 33 (yX2_figure, cX2_figure, 5, (some .int)) := ⟨false, so_33, zs_33, by decide, fun h => absurd h (by decide), rfl⟩
theorem al_34 : pm_A 34 (yX2_kindOf, cX2_kindOf, 1, (some .int)) := ⟨false, so_34, zs_34, by decide, fun h => absurd h (by decide), rfl⟩
theorem al_35 : pm_A 35 (yX2_sortOf, cX2_sortOf, 2, (some .int)) := ⟨false, so_35, zs_35, by decide, fun h => absurd h (by decide), rfl⟩
theorem al_36 : pm_A 36 (yX3_init, cX3_init, 1, none) := ⟨true, so_36, zs_36, by decide, fun _ => rfl, rfl⟩
theorem al_37 : pm_A 37 (yX3_pack, cX3_pack, 5, none) := ⟨false, so_37, zs_37, by decide, fun h => absurd h (by decide), rfl⟩
theorem al_38 : pm_A 38 (yX3_sumOf, cX3_sumOf, 4, (some .int)) := ⟨false, so_38, zs_38, by decide, fun h => absurd h (by decide), rfl⟩
theorem al_39 : pm_A 39 (yX3_firstRope, cX3_firstRope, 7, (some .int)) := ⟨false, so_39, zs_39, by decide, fun h => absurd h (by decide), rfl⟩
theorem al_40 : pm_A 40 (yX4_init, cX4_init, 2, none) := ⟨true, so_40, zs_40, by decide, fun _ => rfl, rfl⟩
theorem al_41 : pm_A 41 (yX4_clear, cX4_clear, 1, none) := ⟨false, so_41, zs_41, by decide, fun h => absurd h (by decide), rfl⟩
theorem al_42 : pm_A 42 (yX4_has, cX4_has, 3, (some .boolean)) := ⟨false, so_42, zs_42, by decide, fun h => absurd h (by decide), rfl⟩
theorem al_43 : pm_A 43 (yX4_addUnlike, cX4_addUnlike, 2, none) := ⟨false, so_43, zs_43, by decide, fun h => absurd h (by decide), rfl⟩
theorem al_44 : pm_A 44 (yX5_init, cX5_init, 1, none) := ⟨true, so_44, zs_44, by decide, fun _ => rfl, rfl⟩
theorem al_45 : pm_A 45 (yX5_clear, cX5_clear, 1, none) := ⟨false, so_45, zs_45, by decide, fun h => absurd h (by decide), rfl⟩
theorem al_46 : pm_A 46 (yX5_add, cX5_add, 2, none) := ⟨false, so_46, zs_46, by decide, fun h => absurd h (by decide), rfl⟩
theorem al_47 : pm_A 47 (yX5_become, cX5_become, 2, none) := ⟨false, so_47, zs_47, by decide, fun h => absurd h (by decide), rfl⟩
theorem al_48 : pm_A 48 (yX5_becomeWithout, cX5_becomeWithout, 4, none) := ⟨false, so_48, zs_48, by decide, fun h => absurd h (by decide), rfl⟩
theorem al_49 : pm_A 49 (yX5_becomeWith, cX5_becomeWith, 5, none) := ⟨false, so_49, zs_49, by decide, fun h => absurd h (by decide), rfl⟩
theorem al_50 : pm_A 50 (yX5_becomeTurned, cX5_becomeTurned, 4, none) := ⟨false, so_50, zs_50, by decide, fun h => absurd h (by decide), rfl⟩
theorem al_51 : pm_A 51 (yX5_becomeReversed, cX5_becomeReversed, 3, none) := ⟨false, so_51, zs_51, by decide, fun h => absurd h (by decide), rfl⟩
theorem al_52 : pm_A 52 (yX5_hasStretch, cX5_hasStretch, 3, (some .boolean)) := ⟨false, so_52, zs_52, by decide, fun h => absurd h (by decide), rfl⟩
theorem al_53 : pm_A 53 (yX5_isBelow, cX5_isBelow, 3, (some .boolean)) := ⟨false, so_53, zs_53, by decide, fun h => absurd h (by decide), rfl⟩
theorem al_54 : pm_A 54 (yX5_isLike, cX5_isLike, 3, (some .boolean)) := ⟨false, so_54, zs_54, by decide, fun h => absurd h (by decide), rfl⟩
theorem al_55 : pm_A 55 (yX5_howMany, cX5_howMany, 4, (some .int)) := ⟨false, so_55, zs_55, by decide, fun h => absurd h (by decide), rfl⟩
theorem al_56 : pm_A 56 (yX5_bits, cX5_bits, 3, (some .int)) := ⟨false, so_56, zs_56, by decide, fun h => absurd h (by decide), rfl⟩
theorem al_57 : pm_A 57 (yX5_digestOn, cX5_digestOn, 4, (some .long)) := ⟨false, so_57, zs_57, by decide, fun h => absurd h (by decide), rfl⟩
theorem al_58 : pm_A 58 (yX6_init, cX6_init, 2, none) := ⟨true, so_58, zs_58, by decide, fun _ => rfl, rfl⟩
theorem al_59 : pm_A 59 (yX6_begin, cX6_begin, 7, none) := ⟨false, so_59, zs_59, by decide, fun h => absurd h (by decide), rfl⟩
theorem al_60 : pm_A 60 (yX6_placesForPairs, cX6_placesForPairs, 4, (some .int)) := ⟨false, so_60, zs_60, by decide, fun h => absurd h (by decide), rfl⟩
theorem al_61 : pm_A 61 (yX6_leastOfAll, cX6_leastOfAll, 1, (some .int)) := ⟨false, so_61, zs_61, by decide, fun h => absurd h (by decide), rfl⟩
theorem al_62 : pm_A 62 (yX6_leastFrom, cX6_leastFrom, 2, (some .int)) := ⟨false, so_62, zs_62, by decide, fun h => absurd h (by decide), rfl⟩
theorem al_63 : pm_A 63 (yX6_ending, cX6_ending, 5, (some .int)) := ⟨false, so_63, zs_63, by decide, fun h => absurd h (by decide), rfl⟩
theorem al_64 : pm_A 64 (yX6_onward, cX6_onward, 8, (some .int)) := ⟨false, so_64, zs_64, by decide, fun h => absurd h (by decide), rfl⟩
theorem al_65 : pm_A 65 (yX6_spell, cX6_spell, 6, none) := ⟨false, so_65, zs_65, by decide, fun h => absurd h (by decide), rfl⟩
theorem al_66 : pm_A 66 (yX6_goOnFrom, cX6_goOnFrom, 7, (some .boolean)) := ⟨false, so_66, zs_66, by decide, fun h => absurd h (by decide), rfl⟩
theorem al_67 : pm_A 67 (yX6_howManyWays, cX6_howManyWays, 5, (some .long)) := ⟨false, so_67, zs_67, by decide, fun h => absurd h (by decide), rfl⟩
theorem al_68 : pm_A 68 (yX6_countWays, cX6_countWays, 5, none) := ⟨false, so_68, zs_68, by decide, fun h => absurd h (by decide), rfl⟩
theorem al_69 : pm_A 69 (yX6_isShut, cX6_isShut, 1, (some .boolean)) := ⟨false, so_69, zs_69, by decide, fun h => absurd h (by decide), rfl⟩
theorem al_70 : pm_A 70 (yX6_spot, cX6_spot, 1, (some .int)) := ⟨false, so_70, zs_70, by decide, fun h => absurd h (by decide), rfl⟩
theorem al_71 : pm_A 71 (yX6_canBe, cX6_canBe, 5, (some .boolean)) := ⟨false, so_71, zs_71, by decide, fun h => absurd h (by decide), rfl⟩
theorem al_72 : pm_A 72 (yX6_leastBy, cX6_leastBy, 4, (some .int)) := ⟨false, so_72, zs_72, by decide, fun h => absurd h (by decide), rfl⟩
theorem al_73 : pm_A 73 (yX6_leastWith, cX6_leastWith, 4, (some .int)) := ⟨false, so_73, zs_73, by decide, fun h => absurd h (by decide), rfl⟩
theorem al_74 : pm_A 74 (yX6_firstOfLeast, cX6_firstOfLeast, 3, (some .int)) := ⟨false, so_74, zs_74, by decide, fun h => absurd h (by decide), rfl⟩
theorem al_75 : pm_A 75 (yX7_init, cX7_init, 3, none) := ⟨true, so_75, zs_75, by decide, fun _ => rfl, rfl⟩
theorem al_76 : pm_A 76 (yX7_search, cX7_search, 2, (some .int)) := ⟨false, so_76, zs_76, by decide, fun h => absurd h (by decide), rfl⟩
theorem al_77 : pm_A 77 (yX7_assign, cX7_assign, 4, none) := ⟨false, so_77, zs_77, by decide, fun h => absurd h (by decide), rfl⟩
theorem al_78 : pm_A 78 (yX7_hasLikeAhead, cX7_hasLikeAhead, 4, (some .boolean)) := ⟨false, so_78, zs_78, by decide, fun h => absurd h (by decide), rfl⟩
theorem al_79 : pm_A 79 (yX7_doesAsWell, cX7_doesAsWell, 4, (some .boolean)) := ⟨false, so_79, zs_79, by decide, fun h => absurd h (by decide), rfl⟩
theorem al_80 : pm_A 80 (yX8_init, cX8_init, 2, none) := ⟨true, so_80, zs_80, by decide, fun _ => rfl, rfl⟩
theorem al_81 : pm_A 81 (yX8_forget, cX8_forget, 1, none) := ⟨false, so_81, zs_81, by decide, fun h => absurd h (by decide), rfl⟩
theorem al_82 : pm_A 82 (yX8_ropesOf, cX8_ropesOf, 2, (some .long)) := ⟨false, so_82, zs_82, by decide, fun h => absurd h (by decide), rfl⟩
theorem al_83 : pm_A 83 (yX8_find, cX8_find, 14, none) := ⟨false, so_83, zs_83, by decide, fun h => absurd h (by decide), rfl⟩
theorem al_84 : pm_A 84 (yX8_workOut, cX8_workOut, 4, none) := ⟨false, so_84, zs_84, by decide, fun h => absurd h (by decide), rfl⟩
theorem al_85 : pm_A 85 (yX8_workOutSpot, cX8_workOutSpot, 5, none) := ⟨false, so_85, zs_85, by decide, fun h => absurd h (by decide), rfl⟩
theorem al_86 : pm_A 86 (yX8_spot, cX8_spot, 2, (some .int)) := ⟨false, so_86, zs_86, by decide, fun h => absurd h (by decide), rfl⟩
theorem al_87 : pm_A 87 (yX9_init, cX9_init, 1, none) := ⟨true, so_87, zs_87, by decide, fun _ => rfl, rfl⟩
theorem al_88 : pm_A 88 (yX9_digestOn, cX9_digestOn, 4, (some .long)) := ⟨false, so_88, zs_88, by decide, fun h => absurd h (by decide), rfl⟩
theorem al_89 : pm_A 89 (yX10_init, cX10_init, 2, none) := ⟨true, so_89, zs_89, by decide, fun _ => rfl, rfl⟩
theorem al_90 : pm_A 90 (yX10_row, cX10_row, 3, (some .int)) := ⟨false, so_90, zs_90, by decide, fun h => absurd h (by decide), rfl⟩
theorem al_91 : pm_A 91 (yX10_lay, cX10_lay, 5, (some .int)) := ⟨false, so_91, zs_91, by decide, fun h => absurd h (by decide), rfl⟩
theorem al_92 : pm_A 92 (yX10_at, cX10_at, 4, (some .int)) := ⟨false, so_92, zs_92, by decide, fun h => absurd h (by decide), rfl⟩
theorem al_93 : pm_A 93 (yX10_tear, cX10_tear, 2, (some .int)) := ⟨false, so_93, zs_93, by decide, fun h => absurd h (by decide), rfl⟩
theorem al_94 : pm_A 94 (yX10_copy, cX10_copy, 8, (some .int)) := ⟨false, so_94, zs_94, by decide, fun h => absurd h (by decide), rfl⟩
theorem al_95 : pm_A 95 (yX10_mean, cX10_mean, 6, (some .int)) := ⟨false, so_95, zs_95, by decide, fun h => absurd h (by decide), rfl⟩
theorem al_96 : pm_A 96 (yX10_text, cX10_text, 3, (some .int)) := ⟨false, so_96, zs_96, by decide, fun h => absurd h (by decide), rfl⟩
theorem al_97 : pm_A 97 (yX10_put, cX10_put, 6, (some .int)) := ⟨false, so_97, zs_97, by decide, fun h => absurd h (by decide), rfl⟩
theorem al_98 : pm_A 98 (yX10_fault, cX10_fault, 2, (some .int)) := ⟨false, so_98, zs_98, by decide, fun h => absurd h (by decide), rfl⟩
theorem al_99 : pm_A 99 (yX10_craft, cX10_craft, 3, (some .int)) := ⟨false, so_99, zs_99, by decide, fun h => absurd h (by decide), rfl⟩
theorem al_100 : pm_A 100 (yX10_knot, cX10_knot, 3, (some .int)) := ⟨false, so_100, zs_100, by decide, fun h => absurd h (by decide), rfl⟩
theorem al_101 : pm_A 101 (yX10_mark, cX10_mark, 3, (some .int)) := ⟨false, so_101, zs_101, by decide, fun h => absurd h (by decide), rfl⟩
theorem al_102 : pm_A 102 (yX10_length, cX10_length, 3, (some .int)) := ⟨false, so_102, zs_102, by decide, fun h => absurd h (by decide), rfl⟩
theorem al_103 : pm_A 103 (yX10_sign, cX10_sign, 4, (some .int)) := ⟨false, so_103, zs_103, by decide, fun h => absurd h (by decide), rfl⟩
theorem al_104 : pm_A 104 (yX10_tie, cX10_tie, 2, (some .int)) := ⟨false, so_104, zs_104, by decide, fun h => absurd h (by decide), rfl⟩
theorem al_105 : pm_A 105 (yX10_untie, cX10_untie, 3, (some .int)) := ⟨false, so_105, zs_105, by decide, fun h => absurd h (by decide), rfl⟩
theorem al_106 : pm_A 106 (yX10_rope, cX10_rope, 2, (some .int)) := ⟨false, so_106, zs_106, by decide, fun h => absurd h (by decide), rfl⟩
theorem al_107 : pm_A 107 (yX10_left, cX10_left, 1, (some .int)) := ⟨false, so_107, zs_107, by decide, fun h => absurd h (by decide), rfl⟩
theorem al_108 : pm_A 108 (yX10_reads, cX10_reads, 2, (some .int)) := ⟨false, so_108, zs_108, by decide, fun h => absurd h (by decide), rfl⟩
theorem al_109 : pm_A 109 (yX10_lies, cX10_lies, 2, (some .int)) := ⟨false, so_109, zs_109, by decide, fun h => absurd h (by decide), rfl⟩
theorem al_110 : pm_A 110 (yX10_keep, cX10_keep, 2, (some .int)) := ⟨false, so_110, zs_110, by decide, fun h => absurd h (by decide), rfl⟩
theorem al_111 : pm_A 111 (yX10_on, cX10_on, 2, (some .int)) := ⟨false, so_111, zs_111, by decide, fun h => absurd h (by decide), rfl⟩
theorem al_112 : pm_A 112 (yX10_judge, cX10_judge, 9, (some .int)) := ⟨false, so_112, zs_112, by decide, fun h => absurd h (by decide), rfl⟩
theorem al_113 : pm_A 113 (yX10_takes, cX10_takes, 3, (some .int)) := ⟨false, so_113, zs_113, by decide, fun h => absurd h (by decide), rfl⟩
theorem al_114 : pm_A 114 (yX10_says, cX10_says, 4, (some .int)) := ⟨false, so_114, zs_114, by decide, fun h => absurd h (by decide), rfl⟩
theorem al_115 : pm_A 115 (yX10_ropes, cX10_ropes, 2, (some .int)) := ⟨false, so_115, zs_115, by decide, fun h => absurd h (by decide), rfl⟩
theorem al_116 : pm_A 116 (yX10_nth, cX10_nth, 4, (some .int)) := ⟨false, so_116, zs_116, by decide, fun h => absurd h (by decide), rfl⟩
theorem al_117 : pm_A 117 (yX10_shortest, cX10_shortest, 5, (some .int)) := ⟨false, so_117, zs_117, by decide, fun h => absurd h (by decide), rfl⟩
theorem al_118 : pm_A 118 (yX10_ways, cX10_ways, 3, (some .int)) := ⟨false, so_118, zs_118, by decide, fun h => absurd h (by decide), rfl⟩
theorem al_119 : pm_A 119 (yX10_signs, cX10_signs, 5, (some .int)) := ⟨false, so_119, zs_119, by decide, fun h => absurd h (by decide), rfl⟩
theorem al_120 : pm_A 120 (yX10_change, cX10_change, 5, (some .int)) := ⟨false, so_120, zs_120, by decide, fun h => absurd h (by decide), rfl⟩
theorem al_121 : pm_A 121 (yX10_both, cX10_both, 6, (some .int)) := ⟨false, so_121, zs_121, by decide, fun h => absurd h (by decide), rfl⟩
theorem al_122 : pm_A 122 (yX10_slips, cX10_slips, 5, (some .int)) := ⟨false, so_122, zs_122, by decide, fun h => absurd h (by decide), rfl⟩
theorem al_123 : pm_A 123 (yX10_apart, cX10_apart, 6, (some .int)) := ⟨false, so_123, zs_123, by decide, fun h => absurd h (by decide), rfl⟩
theorem al_124 : pm_A 124 (yX10_lent, cX10_lent, 9, (some .int)) := ⟨false, so_124, zs_124, by decide, fun h => absurd h (by decide), rfl⟩
theorem al_125 : pm_A 125 (yX10_moths, cX10_moths, 5, (some .int)) := ⟨false, so_125, zs_125, by decide, fun h => absurd h (by decide), rfl⟩
theorem al_126 : pm_A 126 (yX10_cuts, cX10_cuts, 6, (some .int)) := ⟨false, so_126, zs_126, by decide, fun h => absurd h (by decide), rfl⟩
theorem al_127 : pm_A 127 (yX10_packs, cX10_packs, 4, (some .int)) := ⟨false, so_127, zs_127, by decide, fun h => absurd h (by decide), rfl⟩
theorem al_128 : pm_A 128 (yX10_lots, cX10_lots, 9, (some .int)) := ⟨false, so_128, zs_128, by decide, fun h => absurd h (by decide), rfl⟩
theorem al_129 : pm_A 129 (yX10_asked, cX10_asked, 1, (some .int)) := ⟨false, so_129, zs_129, by decide, fun h => absurd h (by decide), rfl⟩
theorem al_130 : pm_A 130 (yX10_upper, cX10_upper, 1, (some .long)) := ⟨false, so_130, zs_130, by decide, fun h => absurd h (by decide), rfl⟩
theorem al_131 : pm_A 131 (yX10_upTo, cX10_upTo, 5, (some .long)) := ⟨false, so_131, zs_131, by decide, fun h => absurd h (by decide), rfl⟩
theorem al_132 : pm_A 132 (yX10_count, cX10_count, 2, (some .int)) := ⟨false, so_132, zs_132, by decide, fun h => absurd h (by decide), rfl⟩
theorem al_133 : pm_A 133 (yX10_finding, cX10_finding, 1, (some .int)) := ⟨false, so_133, zs_133, by decide, fun h => absurd h (by decide), rfl⟩
theorem al_134 : pm_A 134 (yX10_findings, cX10_findings, 2, (some .int)) := ⟨false, so_134, zs_134, by decide, fun h => absurd h (by decide), rfl⟩
theorem al_135 : pm_A 135 (yX10_digest, cX10_digest, 4, (some .long)) := ⟨false, so_135, zs_135, by decide, fun h => absurd h (by decide), rfl⟩
theorem al_136 : pm_A 136 (yX10_refuse, cX10_refuse, 2, (some .int)) := ⟨false, so_136, zs_136, by decide, fun h => absurd h (by decide), rfl⟩
theorem al_137 : pm_A 137 (yX10_isRow, cX10_isRow, 1, (some .boolean)) := ⟨false, so_137, zs_137, by decide, fun h => absurd h (by decide), rfl⟩
theorem al_138 : pm_A 138 (yX10_isText, cX10_isText, 1, (some .boolean)) := ⟨false, so_138, zs_138, by decide, fun h => absurd h (by decide), rfl⟩
theorem al_139 : pm_A 139 (yX10_refusalOfPlace, cX10_refusalOfPlace, 3, (some .int)) := ⟨false, so_139, zs_139, by decide, fun h => absurd h (by decide), rfl⟩
theorem al_140 : pm_A 140 (yX10_refusalOfKnots, cX10_refusalOfKnots, 5, (some .int)) := ⟨false, so_140, zs_140, by decide, fun h => absurd h (by decide), rfl⟩
theorem al_141 : pm_A 141 (yX10_refusalOfMessage, cX10_refusalOfMessage, 4, (some .int)) := ⟨false, so_141, zs_141, by decide, fun h => absurd h (by decide), rfl⟩
theorem al_142 : pm_A 142 (yX10_refusalOfRows, cX10_refusalOfRows, 8, (some .int)) := ⟨false, so_142, zs_142, by decide, fun h => absurd h (by decide), rfl⟩
theorem al_143 : pm_A 143 (yX10_readWithout, cX10_readWithout, 3, none) := ⟨false, so_143, zs_143, by decide, fun h => absurd h (by decide), rfl⟩
theorem al_144 : pm_A 144 (yX10_knotsThatFit, cX10_knotsThatFit, 4, (some .int)) := ⟨false, so_144, zs_144, by decide, fun h => absurd h (by decide), rfl⟩
theorem al_145 : pm_A 145 (yX10_numberOfBit, cX10_numberOfBit, 4, (some .int)) := ⟨false, so_145, zs_145, by decide, fun h => absurd h (by decide), rfl⟩
theorem al_146 : pm_A 146 (yX10_rowsThere, cX10_rowsThere, 3, (some .int)) := ⟨false, so_146, zs_146, by decide, fun h => absurd h (by decide), rfl⟩
theorem al_147 : pm_A 147 (yX10_textsThere, cX10_textsThere, 3, (some .int)) := ⟨false, so_147, zs_147, by decide, fun h => absurd h (by decide), rfl⟩
theorem al_148 : pm_A 148 (yX10_setWays, cX10_setWays, 4, none) := ⟨false, so_148, zs_148, by decide, fun h => absurd h (by decide), rfl⟩
theorem al_149 : pm_A 149 (yX10_addWays, cX10_addWays, 5, none) := ⟨false, so_149, zs_149, by decide, fun h => absurd h (by decide), rfl⟩
theorem al_150 : pm_A 150 (yX11_init, cX11_init, 2, none) := ⟨true, so_150, zs_150, by decide, fun _ => rfl, rfl⟩
theorem al_151 : pm_A 151 (yX11_in, cX11_in, 3, (some .boolean)) := ⟨false, so_151, zs_151, by decide, fun h => absurd h (by decide), rfl⟩
theorem al_152 : pm_A 152 (yX11_has, cX11_has, 2, (some .boolean)) := ⟨false, so_152, zs_152, by decide, fun h => absurd h (by decide), rfl⟩
theorem al_153 : pm_A 153 (yX11_lesser, cX11_lesser, 2, (some .int)) := ⟨false, so_153, zs_153, by decide, fun h => absurd h (by decide), rfl⟩
theorem al_154 : pm_A 154 (yX11_meets, cX11_meets, 2, (some .int)) := ⟨false, so_154, zs_154, by decide, fun h => absurd h (by decide), rfl⟩
theorem al_155 : pm_A 155 (yX11_finding, cX11_finding, 1, (some .int)) := ⟨false, so_155, zs_155, by decide, fun h => absurd h (by decide), rfl⟩
theorem al_156 : pm_A 156 (yX11_findings, cX11_findings, 2, (some .int)) := ⟨false, so_156, zs_156, by decide, fun h => absurd h (by decide), rfl⟩
theorem al_157 : pm_A 157 (yX11_tells, cX11_tells, 3, (some .int)) := ⟨false, so_157, zs_157, by decide, fun h => absurd h (by decide), rfl⟩
theorem al_158 : pm_A 158 (yX11_asked, cX11_asked, 1, (some .int)) := ⟨false, so_158, zs_158, by decide, fun h => absurd h (by decide), rfl⟩
theorem al_159 : pm_A 159 (yX11_upper, cX11_upper, 1, (some .long)) := ⟨false, so_159, zs_159, by decide, fun h => absurd h (by decide), rfl⟩
theorem al_160 : pm_A 160 (yX11_isRow, cX11_isRow, 1, (some .boolean)) := ⟨false, so_160, zs_160, by decide, fun h => absurd h (by decide), rfl⟩
theorem al_161 : pm_A 161 (yX11_rowAt, cX11_rowAt, 3, (some .int)) := ⟨false, so_161, zs_161, by decide, fun h => absurd h (by decide), rfl⟩
theorem al_162 : pm_A 162 (yX11_row, cX11_row, 4, (some .int)) := ⟨false, so_162, zs_162, by decide, fun h => absurd h (by decide), rfl⟩
theorem al_163 : pm_A 163 (yX11_lay, cX11_lay, 5, (some .int)) := ⟨false, so_163, zs_163, by decide, fun h => absurd h (by decide), rfl⟩
theorem al_164 : pm_A 164 (yX11_at, cX11_at, 3, (some .int)) := ⟨false, so_164, zs_164, by decide, fun h => absurd h (by decide), rfl⟩
theorem al_165 : pm_A 165 (yX11_tear, cX11_tear, 2, (some .int)) := ⟨false, so_165, zs_165, by decide, fun h => absurd h (by decide), rfl⟩
theorem al_166 : pm_A 166 (yX11_copy, cX11_copy, 7, (some .int)) := ⟨false, so_166, zs_166, by decide, fun h => absurd h (by decide), rfl⟩
theorem al_167 : pm_A 167 (yX11_mean, cX11_mean, 5, (some .int)) := ⟨false, so_167, zs_167, by decide, fun h => absurd h (by decide), rfl⟩
theorem al_168 : pm_A 168 (yX11_isText, cX11_isText, 1, (some .boolean)) := ⟨false, so_168, zs_168, by decide, fun h => absurd h (by decide), rfl⟩
theorem al_169 : pm_A 169 (yX11_text, cX11_text, 4, (some .int)) := ⟨false, so_169, zs_169, by decide, fun h => absurd h (by decide), rfl⟩
theorem al_170 : pm_A 170 (yX11_put, cX11_put, 5, (some .int)) := ⟨false, so_170, zs_170, by decide, fun h => absurd h (by decide), rfl⟩
theorem al_171 : pm_A 171 (yX11_byteAt, cX11_byteAt, 3, (some .int)) := ⟨false, so_171, zs_171, by decide, fun h => absurd h (by decide), rfl⟩
theorem al_172 : pm_A 172 (yX11_layRow, cX11_layRow, 5, none) := ⟨false, so_172, zs_172, by decide, fun h => absurd h (by decide), rfl⟩
theorem al_173 : pm_A 173 (yX11_kindOf, cX11_kindOf, 1, (some .int)) := ⟨false, so_173, zs_173, by decide, fun h => absurd h (by decide), rfl⟩
theorem al_174 : pm_A 174 (yX11_figure, cX11_figure, 5, (some .boolean)) := ⟨false, so_174, zs_174, by decide, fun h => absurd h (by decide), rfl⟩
theorem al_175 : pm_A 175 (yX11_readsLength, cX11_readsLength, 4, (some .boolean)) := ⟨false, so_175, zs_175, by decide, fun h => absurd h (by decide), rfl⟩
theorem al_176 : pm_A 176 (yX11_readsKnot, cX11_readsKnot, 4, (some .boolean)) := ⟨false, so_176, zs_176, by decide, fun h => absurd h (by decide), rfl⟩
theorem al_177 : pm_A 177 (yX11_readsLaw, cX11_readsLaw, 3, (some .boolean)) := ⟨false, so_177, zs_177, by decide, fun h => absurd h (by decide), rfl⟩
theorem al_178 : pm_A 178 (yX11_readsPair, cX11_readsPair, 3, (some .boolean)) := ⟨false, so_178, zs_178, by decide, fun h => absurd h (by decide), rfl⟩
theorem al_179 : pm_A 179 (yX11_faultOf, cX11_faultOf, 3, (some .int)) := ⟨false, so_179, zs_179, by decide, fun h => absurd h (by decide), rfl⟩
theorem al_180 : pm_A 180 (yX11_fault, cX11_fault, 2, (some .int)) := ⟨false, so_180, zs_180, by decide, fun h => absurd h (by decide), rfl⟩
theorem al_181 : pm_A 181 (yX11_craft, cX11_craft, 3, (some .int)) := ⟨false, so_181, zs_181, by decide, fun h => absurd h (by decide), rfl⟩
theorem al_182 : pm_A 182 (yX11_isKnot, cX11_isKnot, 2, (some .boolean)) := ⟨false, so_182, zs_182, by decide, fun h => absurd h (by decide), rfl⟩
theorem al_183 : pm_A 183 (yX11_isBend, cX11_isBend, 2, (some .boolean)) := ⟨false, so_183, zs_183, by decide, fun h => absurd h (by decide), rfl⟩
theorem al_184 : pm_A 184 (yX11_isLoop, cX11_isLoop, 2, (some .boolean)) := ⟨false, so_184, zs_184, by decide, fun h => absurd h (by decide), rfl⟩
theorem al_185 : pm_A 185 (yX11_takeOf, cX11_takeOf, 3, (some .int)) := ⟨false, so_185, zs_185, by decide, fun h => absurd h (by decide), rfl⟩
theorem al_186 : pm_A 186 (yX11_endOf, cX11_endOf, 2, (some .int)) := ⟨false, so_186, zs_186, by decide, fun h => absurd h (by decide), rfl⟩
theorem al_187 : pm_A 187 (yX11_pairSign, cX11_pairSign, 4, (some .int)) := ⟨false, so_187, zs_187, by decide, fun h => absurd h (by decide), rfl⟩
theorem al_188 : pm_A 188 (yX11_roomNow, cX11_roomNow, 1, (some .int)) := ⟨false, so_188, zs_188, by decide, fun h => absurd h (by decide), rfl⟩
theorem al_189 : pm_A 189 (yX11_knotTells, cX11_knotTells, 3, (some .int)) := ⟨false, so_189, zs_189, by decide, fun h => absurd h (by decide), rfl⟩
theorem al_190 : pm_A 190 (yX11_knot, cX11_knot, 3, (some .int)) := ⟨false, so_190, zs_190, by decide, fun h => absurd h (by decide), rfl⟩
theorem al_191 : pm_A 191 (yX11_pairsOf, cX11_pairsOf, 4, (some .int)) := ⟨false, so_191, zs_191, by decide, fun h => absurd h (by decide), rfl⟩
theorem al_192 : pm_A 192 (yX11_ofRope, cX11_ofRope, 4, (some .int)) := ⟨false, so_192, zs_192, by decide, fun h => absurd h (by decide), rfl⟩
theorem al_193 : pm_A 193 (yX11_mark, cX11_mark, 4, (some .int)) := ⟨false, so_193, zs_193, by decide, fun h => absurd h (by decide), rfl⟩
theorem al_194 : pm_A 194 (yX11_length, cX11_length, 3, (some .int)) := ⟨false, so_194, zs_194, by decide, fun h => absurd h (by decide), rfl⟩
theorem al_195 : pm_A 195 (yX11_sign, cX11_sign, 4, (some .int)) := ⟨false, so_195, zs_195, by decide, fun h => absurd h (by decide), rfl⟩
theorem al_196 : pm_A 196 (yX11_lookTakes, cX11_lookTakes, 3, (some .int)) := ⟨false, so_196, zs_196, by decide, fun h => absurd h (by decide), rfl⟩
theorem al_197 : pm_A 197 (yX11_lookLaws, cX11_lookLaws, 3, (some .boolean)) := ⟨false, so_197, zs_197, by decide, fun h => absurd h (by decide), rfl⟩
theorem al_198 : pm_A 198 (yX11_lookRight, cX11_lookRight, 1, (some .boolean)) := ⟨false, so_198, zs_198, by decide, fun h => absurd h (by decide), rfl⟩
theorem al_199 : pm_A 199 (yX11_readLook, cX11_readLook, 3, none) := ⟨false, so_199, zs_199, by decide, fun h => absurd h (by decide), rfl⟩
theorem al_200 : pm_A 200 (yX11_lookAtRow, cX11_lookAtRow, 3, none) := ⟨false, so_200, zs_200, by decide, fun h => absurd h (by decide), rfl⟩
theorem al_201 : pm_A 201 (yX11_lookAtRope, cX11_lookAtRope, 2, none) := ⟨false, so_201, zs_201, by decide, fun h => absurd h (by decide), rfl⟩
theorem al_202 : pm_A 202 (yX11_tie, cX11_tie, 2, (some .int)) := ⟨false, so_202, zs_202, by decide, fun h => absurd h (by decide), rfl⟩
theorem al_203 : pm_A 203 (yX11_loose, cX11_loose, 2, (some .int)) := ⟨false, so_203, zs_203, by decide, fun h => absurd h (by decide), rfl⟩
theorem al_204 : pm_A 204 (yX11_untie, cX11_untie, 2, (some .int)) := ⟨false, so_204, zs_204, by decide, fun h => absurd h (by decide), rfl⟩
theorem al_205 : pm_A 205 (yX11_rope, cX11_rope, 2, (some .int)) := ⟨false, so_205, zs_205, by decide, fun h => absurd h (by decide), rfl⟩
theorem al_206 : pm_A 206 (yX11_left, cX11_left, 1, (some .int)) := ⟨false, so_206, zs_206, by decide, fun h => absurd h (by decide), rfl⟩
theorem al_207 : pm_A 207 (yX11_reads, cX11_reads, 2, (some .int)) := ⟨false, so_207, zs_207, by decide, fun h => absurd h (by decide), rfl⟩
theorem al_208 : pm_A 208 (yX11_lies, cX11_lies, 2, (some .int)) := ⟨false, so_208, zs_208, by decide, fun h => absurd h (by decide), rfl⟩
theorem al_209 : pm_A 209 (yX11_isThere, cX11_isThere, 2, (some .boolean)) := ⟨false, so_209, zs_209, by decide, fun h => absurd h (by decide), rfl⟩
theorem al_210 : pm_A 210 (yX11_keep, cX11_keep, 3, (some .int)) := ⟨false, so_210, zs_210, by decide, fun h => absurd h (by decide), rfl⟩
theorem al_211 : pm_A 211 (yX11_on, cX11_on, 3, (some .int)) := ⟨false, so_211, zs_211, by decide, fun h => absurd h (by decide), rfl⟩
theorem al_212 : pm_A 212 (yX11_needSize, cX11_needSize, 3, (some .int)) := ⟨false, so_212, zs_212, by decide, fun h => absurd h (by decide), rfl⟩
theorem al_213 : pm_A 213 (yX11_areKnots, cX11_areKnots, 4, (some .boolean)) := ⟨false, so_213, zs_213, by decide, fun h => absurd h (by decide), rfl⟩
theorem al_214 : pm_A 214 (yX11_needRope, cX11_needRope, 4, (some .int)) := ⟨false, so_214, zs_214, by decide, fun h => absurd h (by decide), rfl⟩
theorem al_215 : pm_A 215 (yX11_judge, cX11_judge, 6, (some .int)) := ⟨false, so_215, zs_215, by decide, fun h => absurd h (by decide), rfl⟩
theorem al_216 : pm_A 216 (yX11_takes, cX11_takes, 3, (some .int)) := ⟨false, so_216, zs_216, by decide, fun h => absurd h (by decide), rfl⟩
theorem al_217 : pm_A 217 (yX11_says, cX11_says, 4, (some .int)) := ⟨false, so_217, zs_217, by decide, fun h => absurd h (by decide), rfl⟩
theorem al_218 : pm_A 218 (yX11_restAt, cX11_restAt, 3, (some .int)) := ⟨false, so_218, zs_218, by decide, fun h => absurd h (by decide), rfl⟩
theorem al_219 : pm_A 219 (yX11_layRest, cX11_layRest, 8, none) := ⟨false, so_219, zs_219, by decide, fun h => absurd h (by decide), rfl⟩
theorem al_220 : pm_A 220 (yX11_restBy, cX11_restBy, 6, (some .long)) := ⟨false, so_220, zs_220, by decide, fun h => absurd h (by decide), rfl⟩
theorem al_221 : pm_A 221 (yX11_ropes, cX11_ropes, 2, (some .int)) := ⟨false, so_221, zs_221, by decide, fun h => absurd h (by decide), rfl⟩
theorem al_222 : pm_A 222 (yX11_upTo, cX11_upTo, 5, (some .long)) := ⟨false, so_222, zs_222, by decide, fun h => absurd h (by decide), rfl⟩
theorem al_223 : pm_A 223 (yX11_nth, cX11_nth, 10, (some .int)) := ⟨false, so_223, zs_223, by decide, fun h => absurd h (by decide), rfl⟩
theorem al_224 : pm_A 224 (yX11_stateOf, cX11_stateOf, 3, (some .int)) := ⟨false, so_224, zs_224, by decide, fun h => absurd h (by decide), rfl⟩
theorem al_225 : pm_A 225 (yX11_areSigns, cX11_areSigns, 4, (some .boolean)) := ⟨false, so_225, zs_225, by decide, fun h => absurd h (by decide), rfl⟩
theorem al_226 : pm_A 226 (yX11_layMessage, cX11_layMessage, 3, none) := ⟨false, so_226, zs_226, by decide, fun h => absurd h (by decide), rfl⟩
theorem al_227 : pm_A 227 (yX11_needMessage, cX11_needMessage, 2, (some .int)) := ⟨false, so_227, zs_227, by decide, fun h => absurd h (by decide), rfl⟩
theorem al_228 : pm_A 228 (yX11_isSaid, cX11_isSaid, 4, (some .boolean)) := ⟨false, so_228, zs_228, by decide, fun h => absurd h (by decide), rfl⟩
theorem al_229 : pm_A 229 (yX11_stateBehind, cX11_stateBehind, 6, (some .int)) := ⟨false, so_229, zs_229, by decide, fun h => absurd h (by decide), rfl⟩
theorem al_230 : pm_A 230 (yX11_lastOf, cX11_lastOf, 1, (some .int)) := ⟨false, so_230, zs_230, by decide, fun h => absurd h (by decide), rfl⟩
theorem al_231 : pm_A 231 (yX11_isState, cX11_isState, 2, (some .boolean)) := ⟨false, so_231, zs_231, by decide, fun h => absurd h (by decide), rfl⟩
theorem al_232 : pm_A 232 (yX11_layLeast, cX11_layLeast, 6, none) := ⟨false, so_232, zs_232, by decide, fun h => absurd h (by decide), rfl⟩
theorem al_233 : pm_A 233 (yX11_goOnLeast, cX11_goOnLeast, 5, none) := ⟨false, so_233, zs_233, by decide, fun h => absurd h (by decide), rfl⟩
theorem al_234 : pm_A 234 (yX11_isNext, cX11_isNext, 5, (some .boolean)) := ⟨false, so_234, zs_234, by decide, fun h => absurd h (by decide), rfl⟩
theorem al_235 : pm_A 235 (yX11_shortestNow, cX11_shortestNow, 1, (some .int)) := ⟨false, so_235, zs_235, by decide, fun h => absurd h (by decide), rfl⟩
theorem al_236 : pm_A 236 (yX11_shortest, cX11_shortest, 5, (some .int)) := ⟨false, so_236, zs_236, by decide, fun h => absurd h (by decide), rfl⟩
theorem al_237 : pm_A 237 (yX11_ways, cX11_ways, 5, (some .int)) := ⟨false, so_237, zs_237, by decide, fun h => absurd h (by decide), rfl⟩
theorem al_238 : pm_A 238 (yX11_countStates, cX11_countStates, 5, none) := ⟨false, so_238, zs_238, by decide, fun h => absurd h (by decide), rfl⟩
theorem al_239 : pm_A 239 (yX11_countBehind, cX11_countBehind, 8, none) := ⟨false, so_239, zs_239, by decide, fun h => absurd h (by decide), rfl⟩
theorem al_240 : pm_A 240 (yX11_laySigns, cX11_laySigns, 5, none) := ⟨false, so_240, zs_240, by decide, fun h => absurd h (by decide), rfl⟩
theorem al_241 : pm_A 241 (yX11_signs, cX11_signs, 5, (some .int)) := ⟨false, so_241, zs_241, by decide, fun h => absurd h (by decide), rfl⟩
theorem al_242 : pm_A 242 (yX11_change, cX11_change, 8, (some .int)) := ⟨false, so_242, zs_242, by decide, fun h => absurd h (by decide), rfl⟩
theorem al_243 : pm_A 243 (yX11_isReadAs, cX11_isReadAs, 5, (some .boolean)) := ⟨false, so_243, zs_243, by decide, fun h => absurd h (by decide), rfl⟩
theorem al_244 : pm_A 244 (yX11_turnLook, cX11_turnLook, 3, none) := ⟨false, so_244, zs_244, by decide, fun h => absurd h (by decide), rfl⟩
theorem al_245 : pm_A 245 (yX11_isBoth, cX11_isBoth, 2, (some .boolean)) := ⟨false, so_245, zs_245, by decide, fun h => absurd h (by decide), rfl⟩
theorem al_246 : pm_A 246 (yX11_layBoth, cX11_layBoth, 2, none) := ⟨false, so_246, zs_246, by decide, fun h => absurd h (by decide), rfl⟩
theorem al_247 : pm_A 247 (yX11_both, cX11_both, 5, (some .int)) := ⟨false, so_247, zs_247, by decide, fun h => absurd h (by decide), rfl⟩
theorem al_248 : pm_A 248 (yX11_laySlip, cX11_laySlip, 5, none) := ⟨false, so_248, zs_248, by decide, fun h => absurd h (by decide), rfl⟩
theorem al_249 : pm_A 249 (yX11_areLike, cX11_areLike, 5, (some .boolean)) := ⟨false, so_249, zs_249, by decide, fun h => absurd h (by decide), rfl⟩
theorem al_250 : pm_A 250 (yX11_slips, cX11_slips, 9, (some .int)) := ⟨false, so_250, zs_250, by decide, fun h => absurd h (by decide), rfl⟩
theorem al_251 : pm_A 251 (yX11_needRopes, cX11_needRopes, 3, (some .int)) := ⟨false, so_251, zs_251, by decide, fun h => absurd h (by decide), rfl⟩
theorem al_252 : pm_A 252 (yX11_apart, cX11_apart, 9, (some .int)) := ⟨false, so_252, zs_252, by decide, fun h => absurd h (by decide), rfl⟩
theorem al_253 : pm_A 253 (yX11_lookWith, cX11_lookWith, 5, none) := ⟨false, so_253, zs_253, by decide, fun h => absurd h (by decide), rfl⟩
theorem al_254 : pm_A 254 (yX11_signsOfLook, cX11_signsOfLook, 3, (some .int)) := ⟨false, so_254, zs_254, by decide, fun h => absurd h (by decide), rfl⟩
theorem al_255 : pm_A 255 (yX11_lent, cX11_lent, 8, (some .int)) := ⟨false, so_255, zs_255, by decide, fun h => absurd h (by decide), rfl⟩
theorem al_256 : pm_A 256 (yX11_lookCut, cX11_lookCut, 4, none) := ⟨false, so_256, zs_256, by decide, fun h => absurd h (by decide), rfl⟩
theorem al_257 : pm_A 257 (yX11_moths, cX11_moths, 5, (some .int)) := ⟨false, so_257, zs_257, by decide, fun h => absurd h (by decide), rfl⟩
theorem al_258 : pm_A 258 (yX11_cuts, cX11_cuts, 6, (some .int)) := ⟨false, so_258, zs_258, by decide, fun h => absurd h (by decide), rfl⟩
theorem al_259 : pm_A 259 (yX11_sumOf, cX11_sumOf, 5, (some .int)) := ⟨false, so_259, zs_259, by decide, fun h => absurd h (by decide), rfl⟩
theorem al_260 : pm_A 260 (yX11_packs, cX11_packs, 7, (some .int)) := ⟨false, so_260, zs_260, by decide, fun h => absurd h (by decide), rfl⟩
theorem al_261 : pm_A 261 (yX11_canTie, cX11_canTie, 3, (some .boolean)) := ⟨false, so_261, zs_261, by decide, fun h => absurd h (by decide), rfl⟩
theorem al_262 : pm_A 262 (yX11_lots, cX11_lots, 9, (some .int)) := ⟨false, so_262, zs_262, by decide, fun h => absurd h (by decide), rfl⟩
theorem al_263 : pm_A 263 (yX11_counted, cX11_counted, 4, (some .int)) := ⟨false, so_263, zs_263, by decide, fun h => absurd h (by decide), rfl⟩
theorem al_264 : pm_A 264 (yX11_count, cX11_count, 2, (some .int)) := ⟨false, so_264, zs_264, by decide, fun h => absurd h (by decide), rfl⟩
theorem al_265 : pm_A 265 (yX11_mix, cX11_mix, 3, none) := ⟨false, so_265, zs_265, by decide, fun h => absurd h (by decide), rfl⟩
theorem al_266 : pm_A 266 (yX11_mixCraft, cX11_mixCraft, 3, none) := ⟨false, so_266, zs_266, by decide, fun h => absurd h (by decide), rfl⟩
theorem al_267 : pm_A 267 (yX11_digest, cX11_digest, 3, (some .long)) := ⟨false, so_267, zs_267, by decide, fun h => absurd h (by decide), rfl⟩
theorem al_268 : pm_A 268 (yJ6_bitCount_0f7a4, cJ6_bitCount_0f7a4, 1, (some .int)) := ⟨false, so_268, zs_268, by decide, fun h => absurd h (by decide), rfl⟩
theorem al_269 : pm_A 269 (yJ7_fill_53178, cJ7_fill_53178, 4, none) := ⟨false, so_269, zs_269, by decide, fun h => absurd h (by decide), rfl⟩
theorem al_270 : pm_A 270 (yJ7_fill_031fb, cJ7_fill_031fb, 4, none) := ⟨false, so_270, zs_270, by decide, fun h => absurd h (by decide), rfl⟩
theorem ak_0 : ∀ (i : Nat) (q : MethodName × ByteArray × Nat × Option FieldType), pm_mt_0[i]? = some q → pm_A (0 + i) q := ix_c 0 al_0 (ix_c 1 al_1 (ix_c 2 al_2 (ix_c 3 al_3 (ix_c 4 al_4 (ix_c 5 al_5 (ix_c 6 al_6 (ix_c 7 al_7 (ix_c 8 al_8 (ix_c 9 al_9 (ix_c 10 al_10 (ix_c 11 al_11 (ix_c 12 al_12 (ix_c 13 al_13 (ix_c 14 al_14 (ix_c 15 al_15 (ix_c 16 al_16 (ix_c 17 al_17 (ix_c 18 al_18 (ix_c 19 al_19 (ix_c 20 al_20 (ix_c 21 al_21 (ix_c 22 al_22 (ix_c 23 al_23 (ix_c 24 al_24 (ix_c 25 al_25 (ix_c 26 al_26 (ix_c 27 al_27 (ix_c 28 al_28 (ix_c 29 al_29 (ix_c 30 al_30 (ix_c 31 al_31 (ix_c 32 al_32 (ix_c 33 al_33 (ix_c 34 al_34 (ix_c 35 al_35 (ix_c 36 al_36 (ix_c 37 al_37 (ix_c 38 al_38 (ix_c 39 al_39 (ix_n 40))))))))))))))))))))))))))))))))))))))))
theorem ak_1 : ∀ (i : Nat) (q : MethodName × ByteArray × Nat × Option FieldType), pm_mt_1[i]? = some q → pm_A (40 + i) q := ix_c 40 al_40 (ix_c 41 al_41 (ix_c 42 al_42 (ix_c 43 al_43 (ix_c 44 al_44 (ix_c 45 al_45 (ix_c 46 al_46 (ix_c 47 al_47 (ix_c 48 al_48 (ix_c 49 al_49 (ix_c 50 al_50 (ix_c 51 al_51 (ix_c 52 al_52 (ix_c 53 al_53 (ix_c 54 al_54 (ix_c 55 al_55 (ix_c 56 al_56 (ix_c 57 al_57 (ix_c 58 al_58 (ix_c 59 al_59 (ix_c 60 al_60 (ix_c 61 al_61 (ix_c 62 al_62 (ix_c 63 al_63 (ix_c 64 al_64 (ix_c 65 al_65 (ix_c 66 al_66 (ix_c 67 al_67 (ix_c 68 al_68 (ix_c 69 al_69 (ix_c 70 al_70 (ix_c 71 al_71 (ix_c 72 al_72 (ix_c 73 al_73 (ix_c 74 al_74 (ix_c 75 al_75 (ix_c 76 al_76 (ix_c 77 al_77 (ix_c 78 al_78 (ix_c 79 al_79 (ix_n 80))))))))))))))))))))))))))))))))))))))))
theorem ak_2 : ∀ (i : Nat) (q : MethodName × ByteArray × Nat × Option FieldType), pm_mt_2[i]? = some q → pm_A (80 + i) q := ix_c 80 al_80 (ix_c 81 al_81 (ix_c 82 al_82 (ix_c 83 al_83 (ix_c 84 al_84 (ix_c 85 al_85 (ix_c 86 al_86 (ix_c 87 al_87 (ix_c 88 al_88 (ix_c 89 al_89 (ix_c 90 al_90 (ix_c 91 al_91 (ix_c 92 al_92 (ix_c 93 al_93 (ix_c 94 al_94 (ix_c 95 al_95 (ix_c 96 al_96 (ix_c 97 al_97 (ix_c 98 al_98 (ix_c 99 al_99 (ix_c 100 al_100 (ix_c 101 al_101 (ix_c 102 al_102 (ix_c 103 al_103 (ix_c 104 al_104 (ix_c 105 al_105 (ix_c 106 al_106 (ix_c 107 al_107 (ix_c 108 al_108 (ix_c 109 al_109 (ix_c 110 al_110 (ix_c 111 al_111 (ix_c 112 al_112 (ix_c 113 al_113 (ix_c 114 al_114 (ix_c 115 al_115 (ix_c 116 al_116 (ix_c 117 al_117 (ix_c 118 al_118 (ix_c 119 al_119 (ix_n 120))))))))))))))))))))))))))))))))))))))))
theorem ak_3 : ∀ (i : Nat) (q : MethodName × ByteArray × Nat × Option FieldType), pm_mt_3[i]? = some q → pm_A (120 + i) q := ix_c 120 al_120 (ix_c 121 al_121 (ix_c 122 al_122 (ix_c 123 al_123 (ix_c 124 al_124 (ix_c 125 al_125 (ix_c 126 al_126 (ix_c 127 al_127 (ix_c 128 al_128 (ix_c 129 al_129 (ix_c 130 al_130 (ix_c 131 al_131 (ix_c 132 al_132 (ix_c 133 al_133 (ix_c 134 al_134 (ix_c 135 al_135 (ix_c 136 al_136 (ix_c 137 al_137 (ix_c 138 al_138 (ix_c 139 al_139 (ix_c 140 al_140 (ix_c 141 al_141 (ix_c 142 al_142 (ix_c 143 al_143 (ix_c 144 al_144 (ix_c 145 al_145 (ix_c 146 al_146 (ix_c 147 al_147 (ix_c 148 al_148 (ix_c 149 al_149 (ix_c 150 al_150 (ix_c 151 al_151 (ix_c 152 al_152 (ix_c 153 al_153 (ix_c 154 al_154 (ix_c 155 al_155 (ix_c 156 al_156 (ix_c 157 al_157 (ix_c 158 al_158 (ix_c 159 al_159 (ix_n 160))))))))))))))))))))))))))))))))))))))))
theorem ak_4 : ∀ (i : Nat) (q : MethodName × ByteArray × Nat × Option FieldType), pm_mt_4[i]? = some q → pm_A (160 + i) q := ix_c 160 al_160 (ix_c 161 al_161 (ix_c 162 al_162 (ix_c 163 al_163 (ix_c 164 al_164 (ix_c 165 al_165 (ix_c 166 al_166 (ix_c 167 al_167 (ix_c 168 al_168 (ix_c 169 al_169 (ix_c 170 al_170 (ix_c 171 al_171 (ix_c 172 al_172 (ix_c 173 al_173 (ix_c 174 al_174 (ix_c 175 al_175 (ix_c 176 al_176 (ix_c 177 al_177 (ix_c 178 al_178 (ix_c 179 al_179 (ix_c 180 al_180 (ix_c 181 al_181 (ix_c 182 al_182 (ix_c 183 al_183 (ix_c 184 al_184 (ix_c 185 al_185 (ix_c 186 al_186 (ix_c 187 al_187 (ix_c 188 al_188 (ix_c 189 al_189 (ix_c 190 al_190 (ix_c 191 al_191 (ix_c 192 al_192 (ix_c 193 al_193 (ix_c 194 al_194 (ix_c 195 al_195 (ix_c 196 al_196 (ix_c 197 al_197 (ix_c 198 al_198 (ix_c 199 al_199 (ix_n 200))))))))))))))))))))))))))))))))))))))))
theorem ak_5 : ∀ (i : Nat) (q : MethodName × ByteArray × Nat × Option FieldType), pm_mt_5[i]? = some q → pm_A (200 + i) q := ix_c 200 al_200 (ix_c 201 al_201 (ix_c 202 al_202 (ix_c 203 al_203 (ix_c 204 al_204 (ix_c 205 al_205 (ix_c 206 al_206 (ix_c 207 al_207 (ix_c 208 al_208 (ix_c 209 al_209 (ix_c 210 al_210 (ix_c 211 al_211 (ix_c 212 al_212 (ix_c 213 al_213 (ix_c 214 al_214 (ix_c 215 al_215 (ix_c 216 al_216 (ix_c 217 al_217 (ix_c 218 al_218 (ix_c 219 al_219 (ix_c 220 al_220 (ix_c 221 al_221 (ix_c 222 al_222 (ix_c 223 al_223 (ix_c 224 al_224 (ix_c 225 al_225 (ix_c 226 al_226 (ix_c 227 al_227 (ix_c 228 al_228 (ix_c 229 al_229 (ix_c 230 al_230 (ix_c 231 al_231 (ix_c 232 al_232 (ix_c 233 al_233 (ix_c 234 al_234 (ix_c 235 al_235 (ix_c 236 al_236 (ix_c 237 al_237 (ix_c 238 al_238 (ix_c 239 al_239 (ix_n 240))))))))))))))))))))))))))))))))))))))))
theorem ak_6 : ∀ (i : Nat) (q : MethodName × ByteArray × Nat × Option FieldType), pm_mt_6[i]? = some q → pm_A (240 + i) q := ix_c 240 al_240 (ix_c 241 al_241 (ix_c 242 al_242 (ix_c 243 al_243 (ix_c 244 al_244 (ix_c 245 al_245 (ix_c 246 al_246 (ix_c 247 al_247 (ix_c 248 al_248 (ix_c 249 al_249 (ix_c 250 al_250 (ix_c 251 al_251 (ix_c 252 al_252 (ix_c 253 al_253 (ix_c 254 al_254 (ix_c 255 al_255 (ix_c 256 al_256 (ix_c 257 al_257 (ix_c 258 al_258 (ix_c 259 al_259 (ix_c 260 al_260 (ix_c 261 al_261 (ix_c 262 al_262 (ix_c 263 al_263 (ix_c 264 al_264 (ix_c 265 al_265 (ix_c 266 al_266 (ix_c 267 al_267 (ix_c 268 al_268 (ix_c 269 al_269 (ix_c 270 al_270 (ix_n 271)))))))))))))))))))))))))))))))
theorem pm_all : ∀ (i : Nat) (q : MethodName × ByteArray × Nat × Option FieldType), pm_mt[i]? = some q → pm_A i q := by
  have h : ∀ (i : Nat) (q : MethodName × ByteArray × Nat × Option FieldType), pm_mt[i]? = some q → pm_A (0 + i) q := ix_a 0 40 ak_0 rfl (ix_a 40 80 ak_1 rfl (ix_a 80 120 ak_2 rfl (ix_a 120 160 ak_3 rfl (ix_a 160 200 ak_4 rfl (ix_a 200 240 ak_5 rfl (ak_6))))))
  intro i q hq
  have := h i q hq
  rwa [Nat.zero_add] at this
set_option maxRecDepth 20000 in
theorem pm_mt_len : pm_mt.length = 271 := rfl
theorem pm_co (l : Launch) (D : va_G) (dA : Nat → ClassId) (base : Nat) (Hb : Heap) : ∀ d, pm_CO l D dA base Hb d (pm_call d)
  | 0 => fun j A M r M' h => h.elim
  | d + 1 => by
    intro j A M r M' h
    obtain ⟨hj, ha, h⟩ := h
    have ih := pm_co l D dA base Hb d
    have hq : pm_mt[j]? = some (pm_mt[j]'(by rw [pm_mt_len]; exact hj)) := List.getElem?_eq_getElem _
    generalize pm_mt[j]'(by rw [pm_mt_len]; exact hj) = q at hq
    obtain ⟨y, bytes, nL, ret⟩ := q
    obtain ⟨ini, h1, h2, h3, h4, h5⟩ := pm_all j _ hq
    rw [h5] at h ha
    have := pm_met ih h1 h2 h3 h4 ha h
    refine ⟨this.1, fun y' b' n' t' hq' => ?_⟩
    rw [hq] at hq'
    cases hq'
    exact this.2
theorem en_0 {d : Nat} {A : List Value} {M M' : pm_M} {r : Option Value} (ha : (pm_in0 A).length ≤ 3) (h : pm_WP (pm_call d) tb_0 (fun r0 M1 => r0 = r ∧ M1 = M') 0 (pm_init 3 A) [] M) : pm_call (d + 1) 0 A M r M' := ⟨by decide, ha, h⟩
theorem en_1 {d : Nat} {A : List Value} {M M' : pm_M} {r : Option Value} (ha : (pm_in0 A).length ≤ 3) (h : pm_WP (pm_call d) tb_1 (fun r0 M1 => r0 = r ∧ M1 = M') 0 (pm_init 3 A) [] M) : pm_call (d + 1) 1 A M r M' := ⟨by decide, ha, h⟩
theorem en_2 {d : Nat} {A : List Value} {M M' : pm_M} {r : Option Value} (ha : (pm_in0 A).length ≤ 8) (h : pm_WP (pm_call d) tb_2 (fun r0 M1 => r0 = r ∧ M1 = M') 0 (pm_init 8 A) [] M) : pm_call (d + 1) 2 A M r M' := ⟨by decide, ha, h⟩
theorem en_3 {d : Nat} {A : List Value} {M M' : pm_M} {r : Option Value} (ha : (pm_in0 A).length ≤ 1) (h : pm_WP (pm_call d) tb_3 (fun r0 M1 => r0 = r ∧ M1 = M') 0 (pm_init 1 A) [] M) : pm_call (d + 1) 3 A M r M' := ⟨by decide, ha, h⟩
theorem en_4 {d : Nat} {A : List Value} {M M' : pm_M} {r : Option Value} (ha : (pm_in0 A).length ≤ 1) (h : pm_WP (pm_call d) tb_4 (fun r0 M1 => r0 = r ∧ M1 = M') 0 (pm_init 1 A) [] M) : pm_call (d + 1) 4 A M r M' := ⟨by decide, ha, h⟩
theorem en_5 {d : Nat} {A : List Value} {M M' : pm_M} {r : Option Value} (ha : (pm_in0 A).length ≤ 3) (h : pm_WP (pm_call d) tb_5 (fun r0 M1 => r0 = r ∧ M1 = M') 0 (pm_init 3 A) [] M) : pm_call (d + 1) 5 A M r M' := ⟨by decide, ha, h⟩
theorem en_6 {d : Nat} {A : List Value} {M M' : pm_M} {r : Option Value} (ha : (pm_in0 A).length ≤ 4) (h : pm_WP (pm_call d) tb_6 (fun r0 M1 => r0 = r ∧ M1 = M') 0 (pm_init 4 A) [] M) : pm_call (d + 1) 6 A M r M' := ⟨by decide, ha, h⟩
theorem en_7 {d : Nat} {A : List Value} {M M' : pm_M} {r : Option Value} (ha : (pm_in0 A).length ≤ 4) (h : pm_WP (pm_call d) tb_7 (fun r0 M1 => r0 = r ∧ M1 = M') 0 (pm_init 4 A) [] M) : pm_call (d + 1) 7 A M r M' := ⟨by decide, ha, h⟩
theorem en_8 {d : Nat} {A : List Value} {M M' : pm_M} {r : Option Value} (ha : (pm_in0 A).length ≤ 5) (h : pm_WP (pm_call d) tb_8 (fun r0 M1 => r0 = r ∧ M1 = M') 0 (pm_init 5 A) [] M) : pm_call (d + 1) 8 A M r M' := ⟨by decide, ha, h⟩
theorem en_9 {d : Nat} {A : List Value} {M M' : pm_M} {r : Option Value} (ha : (pm_in0 A).length ≤ 2) (h : pm_WP (pm_call d) tb_9 (fun r0 M1 => r0 = r ∧ M1 = M') 0 (pm_init 2 A) [] M) : pm_call (d + 1) 9 A M r M' := ⟨by decide, ha, h⟩
theorem en_10 {d : Nat} {A : List Value} {M M' : pm_M} {r : Option Value} (ha : (pm_in0 A).length ≤ 4) (h : pm_WP (pm_call d) tb_10 (fun r0 M1 => r0 = r ∧ M1 = M') 0 (pm_init 4 A) [] M) : pm_call (d + 1) 10 A M r M' := ⟨by decide, ha, h⟩
theorem en_11 {d : Nat} {A : List Value} {M M' : pm_M} {r : Option Value} (ha : (pm_in0 A).length ≤ 2) (h : pm_WP (pm_call d) tb_11 (fun r0 M1 => r0 = r ∧ M1 = M') 0 (pm_init 2 A) [] M) : pm_call (d + 1) 11 A M r M' := ⟨by decide, ha, h⟩
theorem en_12 {d : Nat} {A : List Value} {M M' : pm_M} {r : Option Value} (ha : (pm_in0 A).length ≤ 4) (h : pm_WP (pm_call d) tb_12 (fun r0 M1 => r0 = r ∧ M1 = M') 0 (pm_init 4 A) [] M) : pm_call (d + 1) 12 A M r M' := ⟨by decide, ha, h⟩
theorem en_13 {d : Nat} {A : List Value} {M M' : pm_M} {r : Option Value} (ha : (pm_in0 A).length ≤ 2) (h : pm_WP (pm_call d) tb_13 (fun r0 M1 => r0 = r ∧ M1 = M') 0 (pm_init 2 A) [] M) : pm_call (d + 1) 13 A M r M' := ⟨by decide, ha, h⟩
theorem en_14 {d : Nat} {A : List Value} {M M' : pm_M} {r : Option Value} (ha : (pm_in0 A).length ≤ 3) (h : pm_WP (pm_call d) tb_14 (fun r0 M1 => r0 = r ∧ M1 = M') 0 (pm_init 3 A) [] M) : pm_call (d + 1) 14 A M r M' := ⟨by decide, ha, h⟩
theorem en_15 {d : Nat} {A : List Value} {M M' : pm_M} {r : Option Value} (ha : (pm_in0 A).length ≤ 3) (h : pm_WP (pm_call d) tb_15 (fun r0 M1 => r0 = r ∧ M1 = M') 0 (pm_init 3 A) [] M) : pm_call (d + 1) 15 A M r M' := ⟨by decide, ha, h⟩
theorem en_16 {d : Nat} {A : List Value} {M M' : pm_M} {r : Option Value} (ha : (pm_in0 A).length ≤ 3) (h : pm_WP (pm_call d) tb_16 (fun r0 M1 => r0 = r ∧ M1 = M') 0 (pm_init 3 A) [] M) : pm_call (d + 1) 16 A M r M' := ⟨by decide, ha, h⟩
theorem en_17 {d : Nat} {A : List Value} {M M' : pm_M} {r : Option Value} (ha : (pm_in0 A).length ≤ 4) (h : pm_WP (pm_call d) tb_17 (fun r0 M1 => r0 = r ∧ M1 = M') 0 (pm_init 4 A) [] M) : pm_call (d + 1) 17 A M r M' := ⟨by decide, ha, h⟩
theorem en_18 {d : Nat} {A : List Value} {M M' : pm_M} {r : Option Value} (ha : (pm_in0 A).length ≤ 3) (h : pm_WP (pm_call d) tb_18 (fun r0 M1 => r0 = r ∧ M1 = M') 0 (pm_init 3 A) [] M) : pm_call (d + 1) 18 A M r M' := ⟨by decide, ha, h⟩
theorem en_19 {d : Nat} {A : List Value} {M M' : pm_M} {r : Option Value} (ha : (pm_in0 A).length ≤ 1) (h : pm_WP (pm_call d) tb_19 (fun r0 M1 => r0 = r ∧ M1 = M') 0 (pm_init 1 A) [] M) : pm_call (d + 1) 19 A M r M' := ⟨by decide, ha, h⟩
theorem en_20 {d : Nat} {A : List Value} {M M' : pm_M} {r : Option Value} (ha : (pm_in0 A).length ≤ 5) (h : pm_WP (pm_call d) tb_20 (fun r0 M1 => r0 = r ∧ M1 = M') 0 (pm_init 5 A) [] M) : pm_call (d + 1) 20 A M r M' := ⟨by decide, ha, h⟩
theorem en_21 {d : Nat} {A : List Value} {M M' : pm_M} {r : Option Value} (ha : (pm_in0 A).length ≤ 2) (h : pm_WP (pm_call d) tb_21 (fun r0 M1 => r0 = r ∧ M1 = M') 0 (pm_init 2 A) [] M) : pm_call (d + 1) 21 A M r M' := ⟨by decide, ha, h⟩
theorem en_22 {d : Nat} {A : List Value} {M M' : pm_M} {r : Option Value} (ha : (pm_in0 A).length ≤ 3) (h : pm_WP (pm_call d) tb_22 (fun r0 M1 => r0 = r ∧ M1 = M') 0 (pm_init 3 A) [] M) : pm_call (d + 1) 22 A M r M' := ⟨by decide, ha, h⟩
theorem en_23 {d : Nat} {A : List Value} {M M' : pm_M} {r : Option Value} (ha : (pm_in0 A).length ≤ 7) (h : pm_WP (pm_call d) tb_23 (fun r0 M1 => r0 = r ∧ M1 = M') 0 (pm_init 7 A) [] M) : pm_call (d + 1) 23 A M r M' := ⟨by decide, ha, h⟩
theorem en_24 {d : Nat} {A : List Value} {M M' : pm_M} {r : Option Value} (ha : (pm_in0 A).length ≤ 5) (h : pm_WP (pm_call d) tb_24 (fun r0 M1 => r0 = r ∧ M1 = M') 0 (pm_init 5 A) [] M) : pm_call (d + 1) 24 A M r M' := ⟨by decide, ha, h⟩
theorem en_25 {d : Nat} {A : List Value} {M M' : pm_M} {r : Option Value} (ha : (pm_in0 A).length ≤ 1) (h : pm_WP (pm_call d) tb_25 (fun r0 M1 => r0 = r ∧ M1 = M') 0 (pm_init 1 A) [] M) : pm_call (d + 1) 25 A M r M' := ⟨by decide, ha, h⟩
theorem en_26 {d : Nat} {A : List Value} {M M' : pm_M} {r : Option Value} (ha : (pm_in0 A).length ≤ 3) (h : pm_WP (pm_call d) tb_26 (fun r0 M1 => r0 = r ∧ M1 = M') 0 (pm_init 3 A) [] M) : pm_call (d + 1) 26 A M r M' := ⟨by decide, ha, h⟩
theorem en_27 {d : Nat} {A : List Value} {M M' : pm_M} {r : Option Value} (ha : (pm_in0 A).length ≤ 3) (h : pm_WP (pm_call d) tb_27 (fun r0 M1 => r0 = r ∧ M1 = M') 0 (pm_init 3 A) [] M) : pm_call (d + 1) 27 A M r M' := ⟨by decide, ha, h⟩
theorem en_28 {d : Nat} {A : List Value} {M M' : pm_M} {r : Option Value} (ha : (pm_in0 A).length ≤ 3) (h : pm_WP (pm_call d) tb_28 (fun r0 M1 => r0 = r ∧ M1 = M') 0 (pm_init 3 A) [] M) : pm_call (d + 1) 28 A M r M' := ⟨by decide, ha, h⟩
theorem en_29 {d : Nat} {A : List Value} {M M' : pm_M} {r : Option Value} (ha : (pm_in0 A).length ≤ 7) (h : pm_WP (pm_call d) tb_29 (fun r0 M1 => r0 = r ∧ M1 = M') 0 (pm_init 7 A) [] M) : pm_call (d + 1) 29 A M r M' := ⟨by decide, ha, h⟩
theorem en_30 {d : Nat} {A : List Value} {M M' : pm_M} {r : Option Value} (ha : (pm_in0 A).length ≤ 4) (h : pm_WP (pm_call d) tb_30 (fun r0 M1 => r0 = r ∧ M1 = M') 0 (pm_init 4 A) [] M) : pm_call (d + 1) 30 A M r M' := ⟨by decide, ha, h⟩
theorem en_31 {d : Nat} {A : List Value} {M M' : pm_M} {r : Option Value} (ha : (pm_in0 A).length ≤ 5) (h : pm_WP (pm_call d) tb_31 (fun r0 M1 => r0 = r ∧ M1 = M') 0 (pm_init 5 A) [] M) : pm_call (d + 1) 31 A M r M' := ⟨by decide, ha, h⟩
theorem en_32 {d : Nat} {A : List Value} {M M' : pm_M} {r : Option Value} (ha : (pm_in0 A).length ≤ 4) (h : pm_WP (pm_call d) tb_32 (fun r0 M1 => r0 = r ∧ M1 = M') 0 (pm_init 4 A) [] M) : pm_call (d + 1) 32 A M r M' := ⟨by decide, ha, h⟩
theorem en_33 {d : Nat} {A : List Value} {M M' : pm_M} {r : Option Value} (ha : (pm_in0 A).length ≤ 5) (h : pm_WP (pm_call d) tb_33 (fun r0 M1 => r0 = r ∧ M1 = M') 0 (pm_init 5 A) [] M) : pm_call (d + 1) 33 A M r M' := ⟨by decide, ha, h⟩
theorem en_34 {d : Nat} {A : List Value} {M M' : pm_M} {r : Option Value} (ha : (pm_in0 A).length ≤ 1) (h : pm_WP (pm_call d) tb_34 (fun r0 M1 => r0 = r ∧ M1 = M') 0 (pm_init 1 A) [] M) : pm_call (d + 1) 34 A M r M' := ⟨by decide, ha, h⟩
theorem en_35 {d : Nat} {A : List Value} {M M' : pm_M} {r : Option Value} (ha : (pm_in0 A).length ≤ 2) (h : pm_WP (pm_call d) tb_35 (fun r0 M1 => r0 = r ∧ M1 = M') 0 (pm_init 2 A) [] M) : pm_call (d + 1) 35 A M r M' := ⟨by decide, ha, h⟩
theorem en_36 {d : Nat} {A : List Value} {M M' : pm_M} {r : Option Value} (ha : (pm_in0 A).length ≤ 1) (h : pm_WP (pm_call d) tb_36 (fun r0 M1 => r0 = r ∧ M1 = M') 0 (pm_init 1 A) [] M) : pm_call (d + 1) 36 A M r M' := ⟨by decide, ha, h⟩
theorem en_37 {d : Nat} {A : List Value} {M M' : pm_M} {r : Option Value} (ha : (pm_in0 A).length ≤ 5) (h : pm_WP (pm_call d) tb_37 (fun r0 M1 => r0 = r ∧ M1 = M') 0 (pm_init 5 A) [] M) : pm_call (d + 1) 37 A M r M' := ⟨by decide, ha, h⟩
theorem en_38 {d : Nat} {A : List Value} {M M' : pm_M} {r : Option Value} (ha : (pm_in0 A).length ≤ 4) (h : pm_WP (pm_call d) tb_38 (fun r0 M1 => r0 = r ∧ M1 = M') 0 (pm_init 4 A) [] M) : pm_call (d + 1) 38 A M r M' := ⟨by decide, ha, h⟩
theorem en_39 {d : Nat} {A : List Value} {M M' : pm_M} {r : Option Value} (ha : (pm_in0 A).length ≤ 7) (h : pm_WP (pm_call d) tb_39 (fun r0 M1 => r0 = r ∧ M1 = M') 0 (pm_init 7 A) [] M) : pm_call (d + 1) 39 A M r M' := ⟨by decide, ha, h⟩
theorem en_40 {d : Nat} {A : List Value} {M M' : pm_M} {r : Option Value} (ha : (pm_in0 A).length ≤ 2) (h : pm_WP (pm_call d) tb_40 (fun r0 M1 => r0 = r ∧ M1 = M') 0 (pm_init 2 A) [] M) : pm_call (d + 1) 40 A M r M' := ⟨by decide, ha, h⟩
theorem en_41 {d : Nat} {A : List Value} {M M' : pm_M} {r : Option Value} (ha : (pm_in0 A).length ≤ 1) (h : pm_WP (pm_call d) tb_41 (fun r0 M1 => r0 = r ∧ M1 = M') 0 (pm_init 1 A) [] M) : pm_call (d + 1) 41 A M r M' := ⟨by decide, ha, h⟩
theorem en_42 {d : Nat} {A : List Value} {M M' : pm_M} {r : Option Value} (ha : (pm_in0 A).length ≤ 3) (h : pm_WP (pm_call d) tb_42 (fun r0 M1 => r0 = r ∧ M1 = M') 0 (pm_init 3 A) [] M) : pm_call (d + 1) 42 A M r M' := ⟨by decide, ha, h⟩
theorem en_43 {d : Nat} {A : List Value} {M M' : pm_M} {r : Option Value} (ha : (pm_in0 A).length ≤ 2) (h : pm_WP (pm_call d) tb_43 (fun r0 M1 => r0 = r ∧ M1 = M') 0 (pm_init 2 A) [] M) : pm_call (d + 1) 43 A M r M' := ⟨by decide, ha, h⟩
theorem en_44 {d : Nat} {A : List Value} {M M' : pm_M} {r : Option Value} (ha : (pm_in0 A).length ≤ 1) (h : pm_WP (pm_call d) tb_44 (fun r0 M1 => r0 = r ∧ M1 = M') 0 (pm_init 1 A) [] M) : pm_call (d + 1) 44 A M r M' := ⟨by decide, ha, h⟩
theorem en_45 {d : Nat} {A : List Value} {M M' : pm_M} {r : Option Value} (ha : (pm_in0 A).length ≤ 1) (h : pm_WP (pm_call d) tb_45 (fun r0 M1 => r0 = r ∧ M1 = M') 0 (pm_init 1 A) [] M) : pm_call (d + 1) 45 A M r M' := ⟨by decide, ha, h⟩
theorem en_46 {d : Nat} {A : List Value} {M M' : pm_M} {r : Option Value} (ha : (pm_in0 A).length ≤ 2) (h : pm_WP (pm_call d) tb_46 (fun r0 M1 => r0 = r ∧ M1 = M') 0 (pm_init 2 A) [] M) : pm_call (d + 1) 46 A M r M' := ⟨by decide, ha, h⟩
theorem en_47 {d : Nat} {A : List Value} {M M' : pm_M} {r : Option Value} (ha : (pm_in0 A).length ≤ 2) (h : pm_WP (pm_call d) tb_47 (fun r0 M1 => r0 = r ∧ M1 = M') 0 (pm_init 2 A) [] M) : pm_call (d + 1) 47 A M r M' := ⟨by decide, ha, h⟩
theorem en_48 {d : Nat} {A : List Value} {M M' : pm_M} {r : Option Value} (ha : (pm_in0 A).length ≤ 4) (h : pm_WP (pm_call d) tb_48 (fun r0 M1 => r0 = r ∧ M1 = M') 0 (pm_init 4 A) [] M) : pm_call (d + 1) 48 A M r M' := ⟨by decide, ha, h⟩
theorem en_49 {d : Nat} {A : List Value} {M M' : pm_M} {r : Option Value} (ha : (pm_in0 A).length ≤ 5) (h : pm_WP (pm_call d) tb_49 (fun r0 M1 => r0 = r ∧ M1 = M') 0 (pm_init 5 A) [] M) : pm_call (d + 1) 49 A M r M' := ⟨by decide, ha, h⟩
theorem en_50 {d : Nat} {A : List Value} {M M' : pm_M} {r : Option Value} (ha : (pm_in0 A).length ≤ 4) (h : pm_WP (pm_call d) tb_50 (fun r0 M1 => r0 = r ∧ M1 = M') 0 (pm_init 4 A) [] M) : pm_call (d + 1) 50 A M r M' := ⟨by decide, ha, h⟩
theorem en_51 {d : Nat} {A : List Value} {M M' : pm_M} {r : Option Value} (ha : (pm_in0 A).length ≤ 3) (h : pm_WP (pm_call d) tb_51 (fun r0 M1 => r0 = r ∧ M1 = M') 0 (pm_init 3 A) [] M) : pm_call (d + 1) 51 A M r M' := ⟨by decide, ha, h⟩
theorem en_52 {d : Nat} {A : List Value} {M M' : pm_M} {r : Option Value} (ha : (pm_in0 A).length ≤ 3) (h : pm_WP (pm_call d) tb_52 (fun r0 M1 => r0 = r ∧ M1 = M') 0 (pm_init 3 A) [] M) : pm_call (d + 1) 52 A M r M' := ⟨by decide, ha, h⟩
theorem en_53 {d : Nat} {A : List Value} {M M' : pm_M} {r : Option Value} (ha : (pm_in0 A).length ≤ 3) (h : pm_WP (pm_call d) tb_53 (fun r0 M1 => r0 = r ∧ M1 = M') 0 (pm_init 3 A) [] M) : pm_call (d + 1) 53 A M r M' := ⟨by decide, ha, h⟩
theorem en_54 {d : Nat} {A : List Value} {M M' : pm_M} {r : Option Value} (ha : (pm_in0 A).length ≤ 3) (h : pm_WP (pm_call d) tb_54 (fun r0 M1 => r0 = r ∧ M1 = M') 0 (pm_init 3 A) [] M) : pm_call (d + 1) 54 A M r M' := ⟨by decide, ha, h⟩
theorem en_55 {d : Nat} {A : List Value} {M M' : pm_M} {r : Option Value} (ha : (pm_in0 A).length ≤ 4) (h : pm_WP (pm_call d) tb_55 (fun r0 M1 => r0 = r ∧ M1 = M') 0 (pm_init 4 A) [] M) : pm_call (d + 1) 55 A M r M' := ⟨by decide, ha, h⟩
theorem en_56 {d : Nat} {A : List Value} {M M' : pm_M} {r : Option Value} (ha : (pm_in0 A).length ≤ 3) (h : pm_WP (pm_call d) tb_56 (fun r0 M1 => r0 = r ∧ M1 = M') 0 (pm_init 3 A) [] M) : pm_call (d + 1) 56 A M r M' := ⟨by decide, ha, h⟩
theorem en_57 {d : Nat} {A : List Value} {M M' : pm_M} {r : Option Value} (ha : (pm_in0 A).length ≤ 4) (h : pm_WP (pm_call d) tb_57 (fun r0 M1 => r0 = r ∧ M1 = M') 0 (pm_init 4 A) [] M) : pm_call (d + 1) 57 A M r M' := ⟨by decide, ha, h⟩
theorem en_58 {d : Nat} {A : List Value} {M M' : pm_M} {r : Option Value} (ha : (pm_in0 A).length ≤ 2) (h : pm_WP (pm_call d) tb_58 (fun r0 M1 => r0 = r ∧ M1 = M') 0 (pm_init 2 A) [] M) : pm_call (d + 1) 58 A M r M' := ⟨by decide, ha, h⟩
theorem en_59 {d : Nat} {A : List Value} {M M' : pm_M} {r : Option Value} (ha : (pm_in0 A).length ≤ 7) (h : pm_WP (pm_call d) tb_59 (fun r0 M1 => r0 = r ∧ M1 = M') 0 (pm_init 7 A) [] M) : pm_call (d + 1) 59 A M r M' := ⟨by decide, ha, h⟩
theorem en_60 {d : Nat} {A : List Value} {M M' : pm_M} {r : Option Value} (ha : (pm_in0 A).length ≤ 4) (h : pm_WP (pm_call d) tb_60 (fun r0 M1 => r0 = r ∧ M1 = M') 0 (pm_init 4 A) [] M) : pm_call (d + 1) 60 A M r M' := ⟨by decide, ha, h⟩
theorem en_61 {d : Nat} {A : List Value} {M M' : pm_M} {r : Option Value} (ha : (pm_in0 A).length ≤ 1) (h : pm_WP (pm_call d) tb_61 (fun r0 M1 => r0 = r ∧ M1 = M') 0 (pm_init 1 A) [] M) : pm_call (d + 1) 61 A M r M' := ⟨by decide, ha, h⟩
theorem en_62 {d : Nat} {A : List Value} {M M' : pm_M} {r : Option Value} (ha : (pm_in0 A).length ≤ 2) (h : pm_WP (pm_call d) tb_62 (fun r0 M1 => r0 = r ∧ M1 = M') 0 (pm_init 2 A) [] M) : pm_call (d + 1) 62 A M r M' := ⟨by decide, ha, h⟩
theorem en_63 {d : Nat} {A : List Value} {M M' : pm_M} {r : Option Value} (ha : (pm_in0 A).length ≤ 5) (h : pm_WP (pm_call d) tb_63 (fun r0 M1 => r0 = r ∧ M1 = M') 0 (pm_init 5 A) [] M) : pm_call (d + 1) 63 A M r M' := ⟨by decide, ha, h⟩
theorem en_64 {d : Nat} {A : List Value} {M M' : pm_M} {r : Option Value} (ha : (pm_in0 A).length ≤ 8) (h : pm_WP (pm_call d) tb_64 (fun r0 M1 => r0 = r ∧ M1 = M') 0 (pm_init 8 A) [] M) : pm_call (d + 1) 64 A M r M' := ⟨by decide, ha, h⟩
theorem en_65 {d : Nat} {A : List Value} {M M' : pm_M} {r : Option Value} (ha : (pm_in0 A).length ≤ 6) (h : pm_WP (pm_call d) tb_65 (fun r0 M1 => r0 = r ∧ M1 = M') 0 (pm_init 6 A) [] M) : pm_call (d + 1) 65 A M r M' := ⟨by decide, ha, h⟩
theorem en_66 {d : Nat} {A : List Value} {M M' : pm_M} {r : Option Value} (ha : (pm_in0 A).length ≤ 7) (h : pm_WP (pm_call d) tb_66 (fun r0 M1 => r0 = r ∧ M1 = M') 0 (pm_init 7 A) [] M) : pm_call (d + 1) 66 A M r M' := ⟨by decide, ha, h⟩
theorem en_67 {d : Nat} {A : List Value} {M M' : pm_M} {r : Option Value} (ha : (pm_in0 A).length ≤ 5) (h : pm_WP (pm_call d) tb_67 (fun r0 M1 => r0 = r ∧ M1 = M') 0 (pm_init 5 A) [] M) : pm_call (d + 1) 67 A M r M' := ⟨by decide, ha, h⟩
theorem en_68 {d : Nat} {A : List Value} {M M' : pm_M} {r : Option Value} (ha : (pm_in0 A).length ≤ 5) (h : pm_WP (pm_call d) tb_68 (fun r0 M1 => r0 = r ∧ M1 = M') 0 (pm_init 5 A) [] M) : pm_call (d + 1) 68 A M r M' := ⟨by decide, ha, h⟩
theorem en_69 {d : Nat} {A : List Value} {M M' : pm_M} {r : Option Value} (ha : (pm_in0 A).length ≤ 1) (h : pm_WP (pm_call d) tb_69 (fun r0 M1 => r0 = r ∧ M1 = M') 0 (pm_init 1 A) [] M) : pm_call (d + 1) 69 A M r M' := ⟨by decide, ha, h⟩
theorem en_70 {d : Nat} {A : List Value} {M M' : pm_M} {r : Option Value} (ha : (pm_in0 A).length ≤ 1) (h : pm_WP (pm_call d) tb_70 (fun r0 M1 => r0 = r ∧ M1 = M') 0 (pm_init 1 A) [] M) : pm_call (d + 1) 70 A M r M' := ⟨by decide, ha, h⟩
theorem en_71 {d : Nat} {A : List Value} {M M' : pm_M} {r : Option Value} (ha : (pm_in0 A).length ≤ 5) (h : pm_WP (pm_call d) tb_71 (fun r0 M1 => r0 = r ∧ M1 = M') 0 (pm_init 5 A) [] M) : pm_call (d + 1) 71 A M r M' := ⟨by decide, ha, h⟩
theorem en_72 {d : Nat} {A : List Value} {M M' : pm_M} {r : Option Value} (ha : (pm_in0 A).length ≤ 4) (h : pm_WP (pm_call d) tb_72 (fun r0 M1 => r0 = r ∧ M1 = M') 0 (pm_init 4 A) [] M) : pm_call (d + 1) 72 A M r M' := ⟨by decide, ha, h⟩
theorem en_73 {d : Nat} {A : List Value} {M M' : pm_M} {r : Option Value} (ha : (pm_in0 A).length ≤ 4) (h : pm_WP (pm_call d) tb_73 (fun r0 M1 => r0 = r ∧ M1 = M') 0 (pm_init 4 A) [] M) : pm_call (d + 1) 73 A M r M' := ⟨by decide, ha, h⟩
theorem en_74 {d : Nat} {A : List Value} {M M' : pm_M} {r : Option Value} (ha : (pm_in0 A).length ≤ 3) (h : pm_WP (pm_call d) tb_74 (fun r0 M1 => r0 = r ∧ M1 = M') 0 (pm_init 3 A) [] M) : pm_call (d + 1) 74 A M r M' := ⟨by decide, ha, h⟩
theorem en_75 {d : Nat} {A : List Value} {M M' : pm_M} {r : Option Value} (ha : (pm_in0 A).length ≤ 3) (h : pm_WP (pm_call d) tb_75 (fun r0 M1 => r0 = r ∧ M1 = M') 0 (pm_init 3 A) [] M) : pm_call (d + 1) 75 A M r M' := ⟨by decide, ha, h⟩
theorem en_76 {d : Nat} {A : List Value} {M M' : pm_M} {r : Option Value} (ha : (pm_in0 A).length ≤ 2) (h : pm_WP (pm_call d) tb_76 (fun r0 M1 => r0 = r ∧ M1 = M') 0 (pm_init 2 A) [] M) : pm_call (d + 1) 76 A M r M' := ⟨by decide, ha, h⟩
theorem en_77 {d : Nat} {A : List Value} {M M' : pm_M} {r : Option Value} (ha : (pm_in0 A).length ≤ 4) (h : pm_WP (pm_call d) tb_77 (fun r0 M1 => r0 = r ∧ M1 = M') 0 (pm_init 4 A) [] M) : pm_call (d + 1) 77 A M r M' := ⟨by decide, ha, h⟩
theorem en_78 {d : Nat} {A : List Value} {M M' : pm_M} {r : Option Value} (ha : (pm_in0 A).length ≤ 4) (h : pm_WP (pm_call d) tb_78 (fun r0 M1 => r0 = r ∧ M1 = M') 0 (pm_init 4 A) [] M) : pm_call (d + 1) 78 A M r M' := ⟨by decide, ha, h⟩
theorem en_79 {d : Nat} {A : List Value} {M M' : pm_M} {r : Option Value} (ha : (pm_in0 A).length ≤ 4) (h : pm_WP (pm_call d) tb_79 (fun r0 M1 => r0 = r ∧ M1 = M') 0 (pm_init 4 A) [] M) : pm_call (d + 1) 79 A M r M' := ⟨by decide, ha, h⟩
theorem en_80 {d : Nat} {A : List Value} {M M' : pm_M} {r : Option Value} (ha : (pm_in0 A).length ≤ 2) (h : pm_WP (pm_call d) tb_80 (fun r0 M1 => r0 = r ∧ M1 = M') 0 (pm_init 2 A) [] M) : pm_call (d + 1) 80 A M r M' := ⟨by decide, ha, h⟩
theorem en_81 {d : Nat} {A : List Value} {M M' : pm_M} {r : Option Value} (ha : (pm_in0 A).length ≤ 1) (h : pm_WP (pm_call d) tb_81 (fun r0 M1 => r0 = r ∧ M1 = M') 0 (pm_init 1 A) [] M) : pm_call (d + 1) 81 A M r M' := ⟨by decide, ha, h⟩
theorem en_82 {d : Nat} {A : List Value} {M M' : pm_M} {r : Option Value} (ha : (pm_in0 A).length ≤ 2) (h : pm_WP (pm_call d) tb_82 (fun r0 M1 => r0 = r ∧ M1 = M') 0 (pm_init 2 A) [] M) : pm_call (d + 1) 82 A M r M' := ⟨by decide, ha, h⟩
theorem en_83 {d : Nat} {A : List Value} {M M' : pm_M} {r : Option Value} (ha : (pm_in0 A).length ≤ 14) (h : pm_WP (pm_call d) tb_83 (fun r0 M1 => r0 = r ∧ M1 = M') 0 (pm_init 14 A) [] M) : pm_call (d + 1) 83 A M r M' := ⟨by decide, ha, h⟩
theorem en_84 {d : Nat} {A : List Value} {M M' : pm_M} {r : Option Value} (ha : (pm_in0 A).length ≤ 4) (h : pm_WP (pm_call d) tb_84 (fun r0 M1 => r0 = r ∧ M1 = M') 0 (pm_init 4 A) [] M) : pm_call (d + 1) 84 A M r M' := ⟨by decide, ha, h⟩
theorem en_85 {d : Nat} {A : List Value} {M M' : pm_M} {r : Option Value} (ha : (pm_in0 A).length ≤ 5) (h : pm_WP (pm_call d) tb_85 (fun r0 M1 => r0 = r ∧ M1 = M') 0 (pm_init 5 A) [] M) : pm_call (d + 1) 85 A M r M' := ⟨by decide, ha, h⟩
theorem en_86 {d : Nat} {A : List Value} {M M' : pm_M} {r : Option Value} (ha : (pm_in0 A).length ≤ 2) (h : pm_WP (pm_call d) tb_86 (fun r0 M1 => r0 = r ∧ M1 = M') 0 (pm_init 2 A) [] M) : pm_call (d + 1) 86 A M r M' := ⟨by decide, ha, h⟩
theorem en_87 {d : Nat} {A : List Value} {M M' : pm_M} {r : Option Value} (ha : (pm_in0 A).length ≤ 1) (h : pm_WP (pm_call d) tb_87 (fun r0 M1 => r0 = r ∧ M1 = M') 0 (pm_init 1 A) [] M) : pm_call (d + 1) 87 A M r M' := ⟨by decide, ha, h⟩
theorem en_88 {d : Nat} {A : List Value} {M M' : pm_M} {r : Option Value} (ha : (pm_in0 A).length ≤ 4) (h : pm_WP (pm_call d) tb_88 (fun r0 M1 => r0 = r ∧ M1 = M') 0 (pm_init 4 A) [] M) : pm_call (d + 1) 88 A M r M' := ⟨by decide, ha, h⟩
theorem en_89 {d : Nat} {A : List Value} {M M' : pm_M} {r : Option Value} (ha : (pm_in0 A).length ≤ 2) (h : pm_WP (pm_call d) tb_89 (fun r0 M1 => r0 = r ∧ M1 = M') 0 (pm_init 2 A) [] M) : pm_call (d + 1) 89 A M r M' := ⟨by decide, ha, h⟩
theorem en_90 {d : Nat} {A : List Value} {M M' : pm_M} {r : Option Value} (ha : (pm_in0 A).length ≤ 3) (h : pm_WP (pm_call d) tb_90 (fun r0 M1 => r0 = r ∧ M1 = M') 0 (pm_init 3 A) [] M) : pm_call (d + 1) 90 A M r M' := ⟨by decide, ha, h⟩
theorem en_91 {d : Nat} {A : List Value} {M M' : pm_M} {r : Option Value} (ha : (pm_in0 A).length ≤ 5) (h : pm_WP (pm_call d) tb_91 (fun r0 M1 => r0 = r ∧ M1 = M') 0 (pm_init 5 A) [] M) : pm_call (d + 1) 91 A M r M' := ⟨by decide, ha, h⟩
theorem en_92 {d : Nat} {A : List Value} {M M' : pm_M} {r : Option Value} (ha : (pm_in0 A).length ≤ 4) (h : pm_WP (pm_call d) tb_92 (fun r0 M1 => r0 = r ∧ M1 = M') 0 (pm_init 4 A) [] M) : pm_call (d + 1) 92 A M r M' := ⟨by decide, ha, h⟩
theorem en_93 {d : Nat} {A : List Value} {M M' : pm_M} {r : Option Value} (ha : (pm_in0 A).length ≤ 2) (h : pm_WP (pm_call d) tb_93 (fun r0 M1 => r0 = r ∧ M1 = M') 0 (pm_init 2 A) [] M) : pm_call (d + 1) 93 A M r M' := ⟨by decide, ha, h⟩
theorem en_94 {d : Nat} {A : List Value} {M M' : pm_M} {r : Option Value} (ha : (pm_in0 A).length ≤ 8) (h : pm_WP (pm_call d) tb_94 (fun r0 M1 => r0 = r ∧ M1 = M') 0 (pm_init 8 A) [] M) : pm_call (d + 1) 94 A M r M' := ⟨by decide, ha, h⟩
theorem en_95 {d : Nat} {A : List Value} {M M' : pm_M} {r : Option Value} (ha : (pm_in0 A).length ≤ 6) (h : pm_WP (pm_call d) tb_95 (fun r0 M1 => r0 = r ∧ M1 = M') 0 (pm_init 6 A) [] M) : pm_call (d + 1) 95 A M r M' := ⟨by decide, ha, h⟩
theorem en_96 {d : Nat} {A : List Value} {M M' : pm_M} {r : Option Value} (ha : (pm_in0 A).length ≤ 3) (h : pm_WP (pm_call d) tb_96 (fun r0 M1 => r0 = r ∧ M1 = M') 0 (pm_init 3 A) [] M) : pm_call (d + 1) 96 A M r M' := ⟨by decide, ha, h⟩
theorem en_97 {d : Nat} {A : List Value} {M M' : pm_M} {r : Option Value} (ha : (pm_in0 A).length ≤ 6) (h : pm_WP (pm_call d) tb_97 (fun r0 M1 => r0 = r ∧ M1 = M') 0 (pm_init 6 A) [] M) : pm_call (d + 1) 97 A M r M' := ⟨by decide, ha, h⟩
theorem en_98 {d : Nat} {A : List Value} {M M' : pm_M} {r : Option Value} (ha : (pm_in0 A).length ≤ 2) (h : pm_WP (pm_call d) tb_98 (fun r0 M1 => r0 = r ∧ M1 = M') 0 (pm_init 2 A) [] M) : pm_call (d + 1) 98 A M r M' := ⟨by decide, ha, h⟩
theorem en_99 {d : Nat} {A : List Value} {M M' : pm_M} {r : Option Value} (ha : (pm_in0 A).length ≤ 3) (h : pm_WP (pm_call d) tb_99 (fun r0 M1 => r0 = r ∧ M1 = M') 0 (pm_init 3 A) [] M) : pm_call (d + 1) 99 A M r M' := ⟨by decide, ha, h⟩
theorem en_100 {d : Nat} {A : List Value} {M M' : pm_M} {r : Option Value} (ha : (pm_in0 A).length ≤ 3) (h : pm_WP (pm_call d) tb_100 (fun r0 M1 => r0 = r ∧ M1 = M') 0 (pm_init 3 A) [] M) : pm_call (d + 1) 100 A M r M' := ⟨by decide, ha, h⟩
theorem en_101 {d : Nat} {A : List Value} {M M' : pm_M} {r : Option Value} (ha : (pm_in0 A).length ≤ 3) (h : pm_WP (pm_call d) tb_101 (fun r0 M1 => r0 = r ∧ M1 = M') 0 (pm_init 3 A) [] M) : pm_call (d + 1) 101 A M r M' := ⟨by decide, ha, h⟩
theorem en_102 {d : Nat} {A : List Value} {M M' : pm_M} {r : Option Value} (ha : (pm_in0 A).length ≤ 3) (h : pm_WP (pm_call d) tb_102 (fun r0 M1 => r0 = r ∧ M1 = M') 0 (pm_init 3 A) [] M) : pm_call (d + 1) 102 A M r M' := ⟨by decide, ha, h⟩
theorem en_103 {d : Nat} {A : List Value} {M M' : pm_M} {r : Option Value} (ha : (pm_in0 A).length ≤ 4) (h : pm_WP (pm_call d) tb_103 (fun r0 M1 => r0 = r ∧ M1 = M') 0 (pm_init 4 A) [] M) : pm_call (d + 1) 103 A M r M' := ⟨by decide, ha, h⟩
theorem en_104 {d : Nat} {A : List Value} {M M' : pm_M} {r : Option Value} (ha : (pm_in0 A).length ≤ 2) (h : pm_WP (pm_call d) tb_104 (fun r0 M1 => r0 = r ∧ M1 = M') 0 (pm_init 2 A) [] M) : pm_call (d + 1) 104 A M r M' := ⟨by decide, ha, h⟩
theorem en_105 {d : Nat} {A : List Value} {M M' : pm_M} {r : Option Value} (ha : (pm_in0 A).length ≤ 3) (h : pm_WP (pm_call d) tb_105 (fun r0 M1 => r0 = r ∧ M1 = M') 0 (pm_init 3 A) [] M) : pm_call (d + 1) 105 A M r M' := ⟨by decide, ha, h⟩
theorem en_106 {d : Nat} {A : List Value} {M M' : pm_M} {r : Option Value} (ha : (pm_in0 A).length ≤ 2) (h : pm_WP (pm_call d) tb_106 (fun r0 M1 => r0 = r ∧ M1 = M') 0 (pm_init 2 A) [] M) : pm_call (d + 1) 106 A M r M' := ⟨by decide, ha, h⟩
theorem en_107 {d : Nat} {A : List Value} {M M' : pm_M} {r : Option Value} (ha : (pm_in0 A).length ≤ 1) (h : pm_WP (pm_call d) tb_107 (fun r0 M1 => r0 = r ∧ M1 = M') 0 (pm_init 1 A) [] M) : pm_call (d + 1) 107 A M r M' := ⟨by decide, ha, h⟩
theorem en_108 {d : Nat} {A : List Value} {M M' : pm_M} {r : Option Value} (ha : (pm_in0 A).length ≤ 2) (h : pm_WP (pm_call d) tb_108 (fun r0 M1 => r0 = r ∧ M1 = M') 0 (pm_init 2 A) [] M) : pm_call (d + 1) 108 A M r M' := ⟨by decide, ha, h⟩
theorem en_109 {d : Nat} {A : List Value} {M M' : pm_M} {r : Option Value} (ha : (pm_in0 A).length ≤ 2) (h : pm_WP (pm_call d) tb_109 (fun r0 M1 => r0 = r ∧ M1 = M') 0 (pm_init 2 A) [] M) : pm_call (d + 1) 109 A M r M' := ⟨by decide, ha, h⟩
theorem en_110 {d : Nat} {A : List Value} {M M' : pm_M} {r : Option Value} (ha : (pm_in0 A).length ≤ 2) (h : pm_WP (pm_call d) tb_110 (fun r0 M1 => r0 = r ∧ M1 = M') 0 (pm_init 2 A) [] M) : pm_call (d + 1) 110 A M r M' := ⟨by decide, ha, h⟩
theorem en_111 {d : Nat} {A : List Value} {M M' : pm_M} {r : Option Value} (ha : (pm_in0 A).length ≤ 2) (h : pm_WP (pm_call d) tb_111 (fun r0 M1 => r0 = r ∧ M1 = M') 0 (pm_init 2 A) [] M) : pm_call (d + 1) 111 A M r M' := ⟨by decide, ha, h⟩
theorem en_112 {d : Nat} {A : List Value} {M M' : pm_M} {r : Option Value} (ha : (pm_in0 A).length ≤ 9) (h : pm_WP (pm_call d) tb_112 (fun r0 M1 => r0 = r ∧ M1 = M') 0 (pm_init 9 A) [] M) : pm_call (d + 1) 112 A M r M' := ⟨by decide, ha, h⟩
theorem en_113 {d : Nat} {A : List Value} {M M' : pm_M} {r : Option Value} (ha : (pm_in0 A).length ≤ 3) (h : pm_WP (pm_call d) tb_113 (fun r0 M1 => r0 = r ∧ M1 = M') 0 (pm_init 3 A) [] M) : pm_call (d + 1) 113 A M r M' := ⟨by decide, ha, h⟩
theorem en_114 {d : Nat} {A : List Value} {M M' : pm_M} {r : Option Value} (ha : (pm_in0 A).length ≤ 4) (h : pm_WP (pm_call d) tb_114 (fun r0 M1 => r0 = r ∧ M1 = M') 0 (pm_init 4 A) [] M) : pm_call (d + 1) 114 A M r M' := ⟨by decide, ha, h⟩
theorem en_115 {d : Nat} {A : List Value} {M M' : pm_M} {r : Option Value} (ha : (pm_in0 A).length ≤ 2) (h : pm_WP (pm_call d) tb_115 (fun r0 M1 => r0 = r ∧ M1 = M') 0 (pm_init 2 A) [] M) : pm_call (d + 1) 115 A M r M' := ⟨by decide, ha, h⟩
theorem en_116 {d : Nat} {A : List Value} {M M' : pm_M} {r : Option Value} (ha : (pm_in0 A).length ≤ 4) (h : pm_WP (pm_call d) tb_116 (fun r0 M1 => r0 = r ∧ M1 = M') 0 (pm_init 4 A) [] M) : pm_call (d + 1) 116 A M r M' := ⟨by decide, ha, h⟩
theorem en_117 {d : Nat} {A : List Value} {M M' : pm_M} {r : Option Value} (ha : (pm_in0 A).length ≤ 5) (h : pm_WP (pm_call d) tb_117 (fun r0 M1 => r0 = r ∧ M1 = M') 0 (pm_init 5 A) [] M) : pm_call (d + 1) 117 A M r M' := ⟨by decide, ha, h⟩
theorem en_118 {d : Nat} {A : List Value} {M M' : pm_M} {r : Option Value} (ha : (pm_in0 A).length ≤ 3) (h : pm_WP (pm_call d) tb_118 (fun r0 M1 => r0 = r ∧ M1 = M') 0 (pm_init 3 A) [] M) : pm_call (d + 1) 118 A M r M' := ⟨by decide, ha, h⟩
theorem en_119 {d : Nat} {A : List Value} {M M' : pm_M} {r : Option Value} (ha : (pm_in0 A).length ≤ 5) (h : pm_WP (pm_call d) tb_119 (fun r0 M1 => r0 = r ∧ M1 = M') 0 (pm_init 5 A) [] M) : pm_call (d + 1) 119 A M r M' := ⟨by decide, ha, h⟩
theorem en_120 {d : Nat} {A : List Value} {M M' : pm_M} {r : Option Value} (ha : (pm_in0 A).length ≤ 5) (h : pm_WP (pm_call d) tb_120 (fun r0 M1 => r0 = r ∧ M1 = M') 0 (pm_init 5 A) [] M) : pm_call (d + 1) 120 A M r M' := ⟨by decide, ha, h⟩
theorem en_121 {d : Nat} {A : List Value} {M M' : pm_M} {r : Option Value} (ha : (pm_in0 A).length ≤ 6) (h : pm_WP (pm_call d) tb_121 (fun r0 M1 => r0 = r ∧ M1 = M') 0 (pm_init 6 A) [] M) : pm_call (d + 1) 121 A M r M' := ⟨by decide, ha, h⟩
theorem en_122 {d : Nat} {A : List Value} {M M' : pm_M} {r : Option Value} (ha : (pm_in0 A).length ≤ 5) (h : pm_WP (pm_call d) tb_122 (fun r0 M1 => r0 = r ∧ M1 = M') 0 (pm_init 5 A) [] M) : pm_call (d + 1) 122 A M r M' := ⟨by decide, ha, h⟩
theorem en_123 {d : Nat} {A : List Value} {M M' : pm_M} {r : Option Value} (ha : (pm_in0 A).length ≤ 6) (h : pm_WP (pm_call d) tb_123 (fun r0 M1 => r0 = r ∧ M1 = M') 0 (pm_init 6 A) [] M) : pm_call (d + 1) 123 A M r M' := ⟨by decide, ha, h⟩
theorem en_124 {d : Nat} {A : List Value} {M M' : pm_M} {r : Option Value} (ha : (pm_in0 A).length ≤ 9) (h : pm_WP (pm_call d) tb_124 (fun r0 M1 => r0 = r ∧ M1 = M') 0 (pm_init 9 A) [] M) : pm_call (d + 1) 124 A M r M' := ⟨by decide, ha, h⟩
theorem en_125 {d : Nat} {A : List Value} {M M' : pm_M} {r : Option Value} (ha : (pm_in0 A).length ≤ 5) (h : pm_WP (pm_call d) tb_125 (fun r0 M1 => r0 = r ∧ M1 = M') 0 (pm_init 5 A) [] M) : pm_call (d + 1) 125 A M r M' := ⟨by decide, ha, h⟩
theorem en_126 {d : Nat} {A : List Value} {M M' : pm_M} {r : Option Value} (ha : (pm_in0 A).length ≤ 6) (h : pm_WP (pm_call d) tb_126 (fun r0 M1 => r0 = r ∧ M1 = M') 0 (pm_init 6 A) [] M) : pm_call (d + 1) 126 A M r M' := ⟨by decide, ha, h⟩
theorem en_127 {d : Nat} {A : List Value} {M M' : pm_M} {r : Option Value} (ha : (pm_in0 A).length ≤ 4) (h : pm_WP (pm_call d) tb_127 (fun r0 M1 => r0 = r ∧ M1 = M') 0 (pm_init 4 A) [] M) : pm_call (d + 1) 127 A M r M' := ⟨by decide, ha, h⟩
theorem en_128 {d : Nat} {A : List Value} {M M' : pm_M} {r : Option Value} (ha : (pm_in0 A).length ≤ 9) (h : pm_WP (pm_call d) tb_128 (fun r0 M1 => r0 = r ∧ M1 = M') 0 (pm_init 9 A) [] M) : pm_call (d + 1) 128 A M r M' := ⟨by decide, ha, h⟩
theorem en_129 {d : Nat} {A : List Value} {M M' : pm_M} {r : Option Value} (ha : (pm_in0 A).length ≤ 1) (h : pm_WP (pm_call d) tb_129 (fun r0 M1 => r0 = r ∧ M1 = M') 0 (pm_init 1 A) [] M) : pm_call (d + 1) 129 A M r M' := ⟨by decide, ha, h⟩
theorem en_130 {d : Nat} {A : List Value} {M M' : pm_M} {r : Option Value} (ha : (pm_in0 A).length ≤ 1) (h : pm_WP (pm_call d) tb_130 (fun r0 M1 => r0 = r ∧ M1 = M') 0 (pm_init 1 A) [] M) : pm_call (d + 1) 130 A M r M' := ⟨by decide, ha, h⟩
theorem en_131 {d : Nat} {A : List Value} {M M' : pm_M} {r : Option Value} (ha : (pm_in0 A).length ≤ 5) (h : pm_WP (pm_call d) tb_131 (fun r0 M1 => r0 = r ∧ M1 = M') 0 (pm_init 5 A) [] M) : pm_call (d + 1) 131 A M r M' := ⟨by decide, ha, h⟩
theorem en_132 {d : Nat} {A : List Value} {M M' : pm_M} {r : Option Value} (ha : (pm_in0 A).length ≤ 2) (h : pm_WP (pm_call d) tb_132 (fun r0 M1 => r0 = r ∧ M1 = M') 0 (pm_init 2 A) [] M) : pm_call (d + 1) 132 A M r M' := ⟨by decide, ha, h⟩
theorem en_133 {d : Nat} {A : List Value} {M M' : pm_M} {r : Option Value} (ha : (pm_in0 A).length ≤ 1) (h : pm_WP (pm_call d) tb_133 (fun r0 M1 => r0 = r ∧ M1 = M') 0 (pm_init 1 A) [] M) : pm_call (d + 1) 133 A M r M' := ⟨by decide, ha, h⟩
theorem en_134 {d : Nat} {A : List Value} {M M' : pm_M} {r : Option Value} (ha : (pm_in0 A).length ≤ 2) (h : pm_WP (pm_call d) tb_134 (fun r0 M1 => r0 = r ∧ M1 = M') 0 (pm_init 2 A) [] M) : pm_call (d + 1) 134 A M r M' := ⟨by decide, ha, h⟩
theorem en_135 {d : Nat} {A : List Value} {M M' : pm_M} {r : Option Value} (ha : (pm_in0 A).length ≤ 4) (h : pm_WP (pm_call d) tb_135 (fun r0 M1 => r0 = r ∧ M1 = M') 0 (pm_init 4 A) [] M) : pm_call (d + 1) 135 A M r M' := ⟨by decide, ha, h⟩
theorem en_136 {d : Nat} {A : List Value} {M M' : pm_M} {r : Option Value} (ha : (pm_in0 A).length ≤ 2) (h : pm_WP (pm_call d) tb_136 (fun r0 M1 => r0 = r ∧ M1 = M') 0 (pm_init 2 A) [] M) : pm_call (d + 1) 136 A M r M' := ⟨by decide, ha, h⟩
theorem en_137 {d : Nat} {A : List Value} {M M' : pm_M} {r : Option Value} (ha : (pm_in0 A).length ≤ 1) (h : pm_WP (pm_call d) tb_137 (fun r0 M1 => r0 = r ∧ M1 = M') 0 (pm_init 1 A) [] M) : pm_call (d + 1) 137 A M r M' := ⟨by decide, ha, h⟩
theorem en_138 {d : Nat} {A : List Value} {M M' : pm_M} {r : Option Value} (ha : (pm_in0 A).length ≤ 1) (h : pm_WP (pm_call d) tb_138 (fun r0 M1 => r0 = r ∧ M1 = M') 0 (pm_init 1 A) [] M) : pm_call (d + 1) 138 A M r M' := ⟨by decide, ha, h⟩
theorem en_139 {d : Nat} {A : List Value} {M M' : pm_M} {r : Option Value} (ha : (pm_in0 A).length ≤ 3) (h : pm_WP (pm_call d) tb_139 (fun r0 M1 => r0 = r ∧ M1 = M') 0 (pm_init 3 A) [] M) : pm_call (d + 1) 139 A M r M' := ⟨by decide, ha, h⟩
theorem en_140 {d : Nat} {A : List Value} {M M' : pm_M} {r : Option Value} (ha : (pm_in0 A).length ≤ 5) (h : pm_WP (pm_call d) tb_140 (fun r0 M1 => r0 = r ∧ M1 = M') 0 (pm_init 5 A) [] M) : pm_call (d + 1) 140 A M r M' := ⟨by decide, ha, h⟩
theorem en_141 {d : Nat} {A : List Value} {M M' : pm_M} {r : Option Value} (ha : (pm_in0 A).length ≤ 4) (h : pm_WP (pm_call d) tb_141 (fun r0 M1 => r0 = r ∧ M1 = M') 0 (pm_init 4 A) [] M) : pm_call (d + 1) 141 A M r M' := ⟨by decide, ha, h⟩
theorem en_142 {d : Nat} {A : List Value} {M M' : pm_M} {r : Option Value} (ha : (pm_in0 A).length ≤ 8) (h : pm_WP (pm_call d) tb_142 (fun r0 M1 => r0 = r ∧ M1 = M') 0 (pm_init 8 A) [] M) : pm_call (d + 1) 142 A M r M' := ⟨by decide, ha, h⟩
theorem en_143 {d : Nat} {A : List Value} {M M' : pm_M} {r : Option Value} (ha : (pm_in0 A).length ≤ 3) (h : pm_WP (pm_call d) tb_143 (fun r0 M1 => r0 = r ∧ M1 = M') 0 (pm_init 3 A) [] M) : pm_call (d + 1) 143 A M r M' := ⟨by decide, ha, h⟩
theorem en_144 {d : Nat} {A : List Value} {M M' : pm_M} {r : Option Value} (ha : (pm_in0 A).length ≤ 4) (h : pm_WP (pm_call d) tb_144 (fun r0 M1 => r0 = r ∧ M1 = M') 0 (pm_init 4 A) [] M) : pm_call (d + 1) 144 A M r M' := ⟨by decide, ha, h⟩
theorem en_145 {d : Nat} {A : List Value} {M M' : pm_M} {r : Option Value} (ha : (pm_in0 A).length ≤ 4) (h : pm_WP (pm_call d) tb_145 (fun r0 M1 => r0 = r ∧ M1 = M') 0 (pm_init 4 A) [] M) : pm_call (d + 1) 145 A M r M' := ⟨by decide, ha, h⟩
theorem en_146 {d : Nat} {A : List Value} {M M' : pm_M} {r : Option Value} (ha : (pm_in0 A).length ≤ 3) (h : pm_WP (pm_call d) tb_146 (fun r0 M1 => r0 = r ∧ M1 = M') 0 (pm_init 3 A) [] M) : pm_call (d + 1) 146 A M r M' := ⟨by decide, ha, h⟩
theorem en_147 {d : Nat} {A : List Value} {M M' : pm_M} {r : Option Value} (ha : (pm_in0 A).length ≤ 3) (h : pm_WP (pm_call d) tb_147 (fun r0 M1 => r0 = r ∧ M1 = M') 0 (pm_init 3 A) [] M) : pm_call (d + 1) 147 A M r M' := ⟨by decide, ha, h⟩
theorem en_148 {d : Nat} {A : List Value} {M M' : pm_M} {r : Option Value} (ha : (pm_in0 A).length ≤ 4) (h : pm_WP (pm_call d) tb_148 (fun r0 M1 => r0 = r ∧ M1 = M') 0 (pm_init 4 A) [] M) : pm_call (d + 1) 148 A M r M' := ⟨by decide, ha, h⟩
theorem en_149 {d : Nat} {A : List Value} {M M' : pm_M} {r : Option Value} (ha : (pm_in0 A).length ≤ 5) (h : pm_WP (pm_call d) tb_149 (fun r0 M1 => r0 = r ∧ M1 = M') 0 (pm_init 5 A) [] M) : pm_call (d + 1) 149 A M r M' := ⟨by decide, ha, h⟩
theorem en_150 {d : Nat} {A : List Value} {M M' : pm_M} {r : Option Value} (ha : (pm_in0 A).length ≤ 2) (h : pm_WP (pm_call d) tb_150 (fun r0 M1 => r0 = r ∧ M1 = M') 0 (pm_init 2 A) [] M) : pm_call (d + 1) 150 A M r M' := ⟨by decide, ha, h⟩
theorem en_151 {d : Nat} {A : List Value} {M M' : pm_M} {r : Option Value} (ha : (pm_in0 A).length ≤ 3) (h : pm_WP (pm_call d) tb_151 (fun r0 M1 => r0 = r ∧ M1 = M') 0 (pm_init 3 A) [] M) : pm_call (d + 1) 151 A M r M' := ⟨by decide, ha, h⟩
theorem en_152 {d : Nat} {A : List Value} {M M' : pm_M} {r : Option Value} (ha : (pm_in0 A).length ≤ 2) (h : pm_WP (pm_call d) tb_152 (fun r0 M1 => r0 = r ∧ M1 = M') 0 (pm_init 2 A) [] M) : pm_call (d + 1) 152 A M r M' := ⟨by decide, ha, h⟩
theorem en_153 {d : Nat} {A : List Value} {M M' : pm_M} {r : Option Value} (ha : (pm_in0 A).length ≤ 2) (h : pm_WP (pm_call d) tb_153 (fun r0 M1 => r0 = r ∧ M1 = M') 0 (pm_init 2 A) [] M) : pm_call (d + 1) 153 A M r M' := ⟨by decide, ha, h⟩
theorem en_154 {d : Nat} {A : List Value} {M M' : pm_M} {r : Option Value} (ha : (pm_in0 A).length ≤ 2) (h : pm_WP (pm_call d) tb_154 (fun r0 M1 => r0 = r ∧ M1 = M') 0 (pm_init 2 A) [] M) : pm_call (d + 1) 154 A M r M' := ⟨by decide, ha, h⟩
theorem en_155 {d : Nat} {A : List Value} {M M' : pm_M} {r : Option Value} (ha : (pm_in0 A).length ≤ 1) (h : pm_WP (pm_call d) tb_155 (fun r0 M1 => r0 = r ∧ M1 = M') 0 (pm_init 1 A) [] M) : pm_call (d + 1) 155 A M r M' := ⟨by decide, ha, h⟩
theorem en_156 {d : Nat} {A : List Value} {M M' : pm_M} {r : Option Value} (ha : (pm_in0 A).length ≤ 2) (h : pm_WP (pm_call d) tb_156 (fun r0 M1 => r0 = r ∧ M1 = M') 0 (pm_init 2 A) [] M) : pm_call (d + 1) 156 A M r M' := ⟨by decide, ha, h⟩
theorem en_157 {d : Nat} {A : List Value} {M M' : pm_M} {r : Option Value} (ha : (pm_in0 A).length ≤ 3) (h : pm_WP (pm_call d) tb_157 (fun r0 M1 => r0 = r ∧ M1 = M') 0 (pm_init 3 A) [] M) : pm_call (d + 1) 157 A M r M' := ⟨by decide, ha, h⟩
theorem en_158 {d : Nat} {A : List Value} {M M' : pm_M} {r : Option Value} (ha : (pm_in0 A).length ≤ 1) (h : pm_WP (pm_call d) tb_158 (fun r0 M1 => r0 = r ∧ M1 = M') 0 (pm_init 1 A) [] M) : pm_call (d + 1) 158 A M r M' := ⟨by decide, ha, h⟩
theorem en_159 {d : Nat} {A : List Value} {M M' : pm_M} {r : Option Value} (ha : (pm_in0 A).length ≤ 1) (h : pm_WP (pm_call d) tb_159 (fun r0 M1 => r0 = r ∧ M1 = M') 0 (pm_init 1 A) [] M) : pm_call (d + 1) 159 A M r M' := ⟨by decide, ha, h⟩
theorem en_160 {d : Nat} {A : List Value} {M M' : pm_M} {r : Option Value} (ha : (pm_in0 A).length ≤ 1) (h : pm_WP (pm_call d) tb_160 (fun r0 M1 => r0 = r ∧ M1 = M') 0 (pm_init 1 A) [] M) : pm_call (d + 1) 160 A M r M' := ⟨by decide, ha, h⟩
theorem en_161 {d : Nat} {A : List Value} {M M' : pm_M} {r : Option Value} (ha : (pm_in0 A).length ≤ 3) (h : pm_WP (pm_call d) tb_161 (fun r0 M1 => r0 = r ∧ M1 = M') 0 (pm_init 3 A) [] M) : pm_call (d + 1) 161 A M r M' := ⟨by decide, ha, h⟩
theorem en_162 {d : Nat} {A : List Value} {M M' : pm_M} {r : Option Value} (ha : (pm_in0 A).length ≤ 4) (h : pm_WP (pm_call d) tb_162 (fun r0 M1 => r0 = r ∧ M1 = M') 0 (pm_init 4 A) [] M) : pm_call (d + 1) 162 A M r M' := ⟨by decide, ha, h⟩
theorem en_163 {d : Nat} {A : List Value} {M M' : pm_M} {r : Option Value} (ha : (pm_in0 A).length ≤ 5) (h : pm_WP (pm_call d) tb_163 (fun r0 M1 => r0 = r ∧ M1 = M') 0 (pm_init 5 A) [] M) : pm_call (d + 1) 163 A M r M' := ⟨by decide, ha, h⟩
theorem en_164 {d : Nat} {A : List Value} {M M' : pm_M} {r : Option Value} (ha : (pm_in0 A).length ≤ 3) (h : pm_WP (pm_call d) tb_164 (fun r0 M1 => r0 = r ∧ M1 = M') 0 (pm_init 3 A) [] M) : pm_call (d + 1) 164 A M r M' := ⟨by decide, ha, h⟩
theorem en_165 {d : Nat} {A : List Value} {M M' : pm_M} {r : Option Value} (ha : (pm_in0 A).length ≤ 2) (h : pm_WP (pm_call d) tb_165 (fun r0 M1 => r0 = r ∧ M1 = M') 0 (pm_init 2 A) [] M) : pm_call (d + 1) 165 A M r M' := ⟨by decide, ha, h⟩
theorem en_166 {d : Nat} {A : List Value} {M M' : pm_M} {r : Option Value} (ha : (pm_in0 A).length ≤ 7) (h : pm_WP (pm_call d) tb_166 (fun r0 M1 => r0 = r ∧ M1 = M') 0 (pm_init 7 A) [] M) : pm_call (d + 1) 166 A M r M' := ⟨by decide, ha, h⟩
theorem en_167 {d : Nat} {A : List Value} {M M' : pm_M} {r : Option Value} (ha : (pm_in0 A).length ≤ 5) (h : pm_WP (pm_call d) tb_167 (fun r0 M1 => r0 = r ∧ M1 = M') 0 (pm_init 5 A) [] M) : pm_call (d + 1) 167 A M r M' := ⟨by decide, ha, h⟩
theorem en_168 {d : Nat} {A : List Value} {M M' : pm_M} {r : Option Value} (ha : (pm_in0 A).length ≤ 1) (h : pm_WP (pm_call d) tb_168 (fun r0 M1 => r0 = r ∧ M1 = M') 0 (pm_init 1 A) [] M) : pm_call (d + 1) 168 A M r M' := ⟨by decide, ha, h⟩
theorem en_169 {d : Nat} {A : List Value} {M M' : pm_M} {r : Option Value} (ha : (pm_in0 A).length ≤ 4) (h : pm_WP (pm_call d) tb_169 (fun r0 M1 => r0 = r ∧ M1 = M') 0 (pm_init 4 A) [] M) : pm_call (d + 1) 169 A M r M' := ⟨by decide, ha, h⟩
theorem en_170 {d : Nat} {A : List Value} {M M' : pm_M} {r : Option Value} (ha : (pm_in0 A).length ≤ 5) (h : pm_WP (pm_call d) tb_170 (fun r0 M1 => r0 = r ∧ M1 = M') 0 (pm_init 5 A) [] M) : pm_call (d + 1) 170 A M r M' := ⟨by decide, ha, h⟩
theorem en_171 {d : Nat} {A : List Value} {M M' : pm_M} {r : Option Value} (ha : (pm_in0 A).length ≤ 3) (h : pm_WP (pm_call d) tb_171 (fun r0 M1 => r0 = r ∧ M1 = M') 0 (pm_init 3 A) [] M) : pm_call (d + 1) 171 A M r M' := ⟨by decide, ha, h⟩
theorem en_172 {d : Nat} {A : List Value} {M M' : pm_M} {r : Option Value} (ha : (pm_in0 A).length ≤ 5) (h : pm_WP (pm_call d) tb_172 (fun r0 M1 => r0 = r ∧ M1 = M') 0 (pm_init 5 A) [] M) : pm_call (d + 1) 172 A M r M' := ⟨by decide, ha, h⟩
theorem en_173 {d : Nat} {A : List Value} {M M' : pm_M} {r : Option Value} (ha : (pm_in0 A).length ≤ 1) (h : pm_WP (pm_call d) tb_173 (fun r0 M1 => r0 = r ∧ M1 = M') 0 (pm_init 1 A) [] M) : pm_call (d + 1) 173 A M r M' := ⟨by decide, ha, h⟩
theorem en_174 {d : Nat} {A : List Value} {M M' : pm_M} {r : Option Value} (ha : (pm_in0 A).length ≤ 5) (h : pm_WP (pm_call d) tb_174 (fun r0 M1 => r0 = r ∧ M1 = M') 0 (pm_init 5 A) [] M) : pm_call (d + 1) 174 A M r M' := ⟨by decide, ha, h⟩
theorem en_175 {d : Nat} {A : List Value} {M M' : pm_M} {r : Option Value} (ha : (pm_in0 A).length ≤ 4) (h : pm_WP (pm_call d) tb_175 (fun r0 M1 => r0 = r ∧ M1 = M') 0 (pm_init 4 A) [] M) : pm_call (d + 1) 175 A M r M' := ⟨by decide, ha, h⟩
theorem en_176 {d : Nat} {A : List Value} {M M' : pm_M} {r : Option Value} (ha : (pm_in0 A).length ≤ 4) (h : pm_WP (pm_call d) tb_176 (fun r0 M1 => r0 = r ∧ M1 = M') 0 (pm_init 4 A) [] M) : pm_call (d + 1) 176 A M r M' := ⟨by decide, ha, h⟩
theorem en_177 {d : Nat} {A : List Value} {M M' : pm_M} {r : Option Value} (ha : (pm_in0 A).length ≤ 3) (h : pm_WP (pm_call d) tb_177 (fun r0 M1 => r0 = r ∧ M1 = M') 0 (pm_init 3 A) [] M) : pm_call (d + 1) 177 A M r M' := ⟨by decide, ha, h⟩
theorem en_178 {d : Nat} {A : List Value} {M M' : pm_M} {r : Option Value} (ha : (pm_in0 A).length ≤ 3) (h : pm_WP (pm_call d) tb_178 (fun r0 M1 => r0 = r ∧ M1 = M') 0 (pm_init 3 A) [] M) : pm_call (d + 1) 178 A M r M' := ⟨by decide, ha, h⟩
theorem en_179 {d : Nat} {A : List Value} {M M' : pm_M} {r : Option Value} (ha : (pm_in0 A).length ≤ 3) (h : pm_WP (pm_call d) tb_179 (fun r0 M1 => r0 = r ∧ M1 = M') 0 (pm_init 3 A) [] M) : pm_call (d + 1) 179 A M r M' := ⟨by decide, ha, h⟩
theorem en_180 {d : Nat} {A : List Value} {M M' : pm_M} {r : Option Value} (ha : (pm_in0 A).length ≤ 2) (h : pm_WP (pm_call d) tb_180 (fun r0 M1 => r0 = r ∧ M1 = M') 0 (pm_init 2 A) [] M) : pm_call (d + 1) 180 A M r M' := ⟨by decide, ha, h⟩
theorem en_181 {d : Nat} {A : List Value} {M M' : pm_M} {r : Option Value} (ha : (pm_in0 A).length ≤ 3) (h : pm_WP (pm_call d) tb_181 (fun r0 M1 => r0 = r ∧ M1 = M') 0 (pm_init 3 A) [] M) : pm_call (d + 1) 181 A M r M' := ⟨by decide, ha, h⟩
theorem en_182 {d : Nat} {A : List Value} {M M' : pm_M} {r : Option Value} (ha : (pm_in0 A).length ≤ 2) (h : pm_WP (pm_call d) tb_182 (fun r0 M1 => r0 = r ∧ M1 = M') 0 (pm_init 2 A) [] M) : pm_call (d + 1) 182 A M r M' := ⟨by decide, ha, h⟩
theorem en_183 {d : Nat} {A : List Value} {M M' : pm_M} {r : Option Value} (ha : (pm_in0 A).length ≤ 2) (h : pm_WP (pm_call d) tb_183 (fun r0 M1 => r0 = r ∧ M1 = M') 0 (pm_init 2 A) [] M) : pm_call (d + 1) 183 A M r M' := ⟨by decide, ha, h⟩
theorem en_184 {d : Nat} {A : List Value} {M M' : pm_M} {r : Option Value} (ha : (pm_in0 A).length ≤ 2) (h : pm_WP (pm_call d) tb_184 (fun r0 M1 => r0 = r ∧ M1 = M') 0 (pm_init 2 A) [] M) : pm_call (d + 1) 184 A M r M' := ⟨by decide, ha, h⟩
theorem en_185 {d : Nat} {A : List Value} {M M' : pm_M} {r : Option Value} (ha : (pm_in0 A).length ≤ 3) (h : pm_WP (pm_call d) tb_185 (fun r0 M1 => r0 = r ∧ M1 = M') 0 (pm_init 3 A) [] M) : pm_call (d + 1) 185 A M r M' := ⟨by decide, ha, h⟩
theorem en_186 {d : Nat} {A : List Value} {M M' : pm_M} {r : Option Value} (ha : (pm_in0 A).length ≤ 2) (h : pm_WP (pm_call d) tb_186 (fun r0 M1 => r0 = r ∧ M1 = M') 0 (pm_init 2 A) [] M) : pm_call (d + 1) 186 A M r M' := ⟨by decide, ha, h⟩
theorem en_187 {d : Nat} {A : List Value} {M M' : pm_M} {r : Option Value} (ha : (pm_in0 A).length ≤ 4) (h : pm_WP (pm_call d) tb_187 (fun r0 M1 => r0 = r ∧ M1 = M') 0 (pm_init 4 A) [] M) : pm_call (d + 1) 187 A M r M' := ⟨by decide, ha, h⟩
theorem en_188 {d : Nat} {A : List Value} {M M' : pm_M} {r : Option Value} (ha : (pm_in0 A).length ≤ 1) (h : pm_WP (pm_call d) tb_188 (fun r0 M1 => r0 = r ∧ M1 = M') 0 (pm_init 1 A) [] M) : pm_call (d + 1) 188 A M r M' := ⟨by decide, ha, h⟩
theorem en_189 {d : Nat} {A : List Value} {M M' : pm_M} {r : Option Value} (ha : (pm_in0 A).length ≤ 3) (h : pm_WP (pm_call d) tb_189 (fun r0 M1 => r0 = r ∧ M1 = M') 0 (pm_init 3 A) [] M) : pm_call (d + 1) 189 A M r M' := ⟨by decide, ha, h⟩
theorem en_190 {d : Nat} {A : List Value} {M M' : pm_M} {r : Option Value} (ha : (pm_in0 A).length ≤ 3) (h : pm_WP (pm_call d) tb_190 (fun r0 M1 => r0 = r ∧ M1 = M') 0 (pm_init 3 A) [] M) : pm_call (d + 1) 190 A M r M' := ⟨by decide, ha, h⟩
theorem en_191 {d : Nat} {A : List Value} {M M' : pm_M} {r : Option Value} (ha : (pm_in0 A).length ≤ 4) (h : pm_WP (pm_call d) tb_191 (fun r0 M1 => r0 = r ∧ M1 = M') 0 (pm_init 4 A) [] M) : pm_call (d + 1) 191 A M r M' := ⟨by decide, ha, h⟩
theorem en_192 {d : Nat} {A : List Value} {M M' : pm_M} {r : Option Value} (ha : (pm_in0 A).length ≤ 4) (h : pm_WP (pm_call d) tb_192 (fun r0 M1 => r0 = r ∧ M1 = M') 0 (pm_init 4 A) [] M) : pm_call (d + 1) 192 A M r M' := ⟨by decide, ha, h⟩
theorem en_193 {d : Nat} {A : List Value} {M M' : pm_M} {r : Option Value} (ha : (pm_in0 A).length ≤ 4) (h : pm_WP (pm_call d) tb_193 (fun r0 M1 => r0 = r ∧ M1 = M') 0 (pm_init 4 A) [] M) : pm_call (d + 1) 193 A M r M' := ⟨by decide, ha, h⟩
theorem en_194 {d : Nat} {A : List Value} {M M' : pm_M} {r : Option Value} (ha : (pm_in0 A).length ≤ 3) (h : pm_WP (pm_call d) tb_194 (fun r0 M1 => r0 = r ∧ M1 = M') 0 (pm_init 3 A) [] M) : pm_call (d + 1) 194 A M r M' := ⟨by decide, ha, h⟩
theorem en_195 {d : Nat} {A : List Value} {M M' : pm_M} {r : Option Value} (ha : (pm_in0 A).length ≤ 4) (h : pm_WP (pm_call d) tb_195 (fun r0 M1 => r0 = r ∧ M1 = M') 0 (pm_init 4 A) [] M) : pm_call (d + 1) 195 A M r M' := ⟨by decide, ha, h⟩
theorem en_196 {d : Nat} {A : List Value} {M M' : pm_M} {r : Option Value} (ha : (pm_in0 A).length ≤ 3) (h : pm_WP (pm_call d) tb_196 (fun r0 M1 => r0 = r ∧ M1 = M') 0 (pm_init 3 A) [] M) : pm_call (d + 1) 196 A M r M' := ⟨by decide, ha, h⟩
theorem en_197 {d : Nat} {A : List Value} {M M' : pm_M} {r : Option Value} (ha : (pm_in0 A).length ≤ 3) (h : pm_WP (pm_call d) tb_197 (fun r0 M1 => r0 = r ∧ M1 = M') 0 (pm_init 3 A) [] M) : pm_call (d + 1) 197 A M r M' := ⟨by decide, ha, h⟩
theorem en_198 {d : Nat} {A : List Value} {M M' : pm_M} {r : Option Value} (ha : (pm_in0 A).length ≤ 1) (h : pm_WP (pm_call d) tb_198 (fun r0 M1 => r0 = r ∧ M1 = M') 0 (pm_init 1 A) [] M) : pm_call (d + 1) 198 A M r M' := ⟨by decide, ha, h⟩
theorem en_199 {d : Nat} {A : List Value} {M M' : pm_M} {r : Option Value} (ha : (pm_in0 A).length ≤ 3) (h : pm_WP (pm_call d) tb_199 (fun r0 M1 => r0 = r ∧ M1 = M') 0 (pm_init 3 A) [] M) : pm_call (d + 1) 199 A M r M' := ⟨by decide, ha, h⟩
theorem en_200 {d : Nat} {A : List Value} {M M' : pm_M} {r : Option Value} (ha : (pm_in0 A).length ≤ 3) (h : pm_WP (pm_call d) tb_200 (fun r0 M1 => r0 = r ∧ M1 = M') 0 (pm_init 3 A) [] M) : pm_call (d + 1) 200 A M r M' := ⟨by decide, ha, h⟩
theorem en_201 {d : Nat} {A : List Value} {M M' : pm_M} {r : Option Value} (ha : (pm_in0 A).length ≤ 2) (h : pm_WP (pm_call d) tb_201 (fun r0 M1 => r0 = r ∧ M1 = M') 0 (pm_init 2 A) [] M) : pm_call (d + 1) 201 A M r M' := ⟨by decide, ha, h⟩
theorem en_202 {d : Nat} {A : List Value} {M M' : pm_M} {r : Option Value} (ha : (pm_in0 A).length ≤ 2) (h : pm_WP (pm_call d) tb_202 (fun r0 M1 => r0 = r ∧ M1 = M') 0 (pm_init 2 A) [] M) : pm_call (d + 1) 202 A M r M' := ⟨by decide, ha, h⟩
theorem en_203 {d : Nat} {A : List Value} {M M' : pm_M} {r : Option Value} (ha : (pm_in0 A).length ≤ 2) (h : pm_WP (pm_call d) tb_203 (fun r0 M1 => r0 = r ∧ M1 = M') 0 (pm_init 2 A) [] M) : pm_call (d + 1) 203 A M r M' := ⟨by decide, ha, h⟩
theorem en_204 {d : Nat} {A : List Value} {M M' : pm_M} {r : Option Value} (ha : (pm_in0 A).length ≤ 2) (h : pm_WP (pm_call d) tb_204 (fun r0 M1 => r0 = r ∧ M1 = M') 0 (pm_init 2 A) [] M) : pm_call (d + 1) 204 A M r M' := ⟨by decide, ha, h⟩
theorem en_205 {d : Nat} {A : List Value} {M M' : pm_M} {r : Option Value} (ha : (pm_in0 A).length ≤ 2) (h : pm_WP (pm_call d) tb_205 (fun r0 M1 => r0 = r ∧ M1 = M') 0 (pm_init 2 A) [] M) : pm_call (d + 1) 205 A M r M' := ⟨by decide, ha, h⟩
theorem en_206 {d : Nat} {A : List Value} {M M' : pm_M} {r : Option Value} (ha : (pm_in0 A).length ≤ 1) (h : pm_WP (pm_call d) tb_206 (fun r0 M1 => r0 = r ∧ M1 = M') 0 (pm_init 1 A) [] M) : pm_call (d + 1) 206 A M r M' := ⟨by decide, ha, h⟩
theorem en_207 {d : Nat} {A : List Value} {M M' : pm_M} {r : Option Value} (ha : (pm_in0 A).length ≤ 2) (h : pm_WP (pm_call d) tb_207 (fun r0 M1 => r0 = r ∧ M1 = M') 0 (pm_init 2 A) [] M) : pm_call (d + 1) 207 A M r M' := ⟨by decide, ha, h⟩
theorem en_208 {d : Nat} {A : List Value} {M M' : pm_M} {r : Option Value} (ha : (pm_in0 A).length ≤ 2) (h : pm_WP (pm_call d) tb_208 (fun r0 M1 => r0 = r ∧ M1 = M') 0 (pm_init 2 A) [] M) : pm_call (d + 1) 208 A M r M' := ⟨by decide, ha, h⟩
theorem en_209 {d : Nat} {A : List Value} {M M' : pm_M} {r : Option Value} (ha : (pm_in0 A).length ≤ 2) (h : pm_WP (pm_call d) tb_209 (fun r0 M1 => r0 = r ∧ M1 = M') 0 (pm_init 2 A) [] M) : pm_call (d + 1) 209 A M r M' := ⟨by decide, ha, h⟩
theorem en_210 {d : Nat} {A : List Value} {M M' : pm_M} {r : Option Value} (ha : (pm_in0 A).length ≤ 3) (h : pm_WP (pm_call d) tb_210 (fun r0 M1 => r0 = r ∧ M1 = M') 0 (pm_init 3 A) [] M) : pm_call (d + 1) 210 A M r M' := ⟨by decide, ha, h⟩
theorem en_211 {d : Nat} {A : List Value} {M M' : pm_M} {r : Option Value} (ha : (pm_in0 A).length ≤ 3) (h : pm_WP (pm_call d) tb_211 (fun r0 M1 => r0 = r ∧ M1 = M') 0 (pm_init 3 A) [] M) : pm_call (d + 1) 211 A M r M' := ⟨by decide, ha, h⟩
theorem en_212 {d : Nat} {A : List Value} {M M' : pm_M} {r : Option Value} (ha : (pm_in0 A).length ≤ 3) (h : pm_WP (pm_call d) tb_212 (fun r0 M1 => r0 = r ∧ M1 = M') 0 (pm_init 3 A) [] M) : pm_call (d + 1) 212 A M r M' := ⟨by decide, ha, h⟩
theorem en_213 {d : Nat} {A : List Value} {M M' : pm_M} {r : Option Value} (ha : (pm_in0 A).length ≤ 4) (h : pm_WP (pm_call d) tb_213 (fun r0 M1 => r0 = r ∧ M1 = M') 0 (pm_init 4 A) [] M) : pm_call (d + 1) 213 A M r M' := ⟨by decide, ha, h⟩
theorem en_214 {d : Nat} {A : List Value} {M M' : pm_M} {r : Option Value} (ha : (pm_in0 A).length ≤ 4) (h : pm_WP (pm_call d) tb_214 (fun r0 M1 => r0 = r ∧ M1 = M') 0 (pm_init 4 A) [] M) : pm_call (d + 1) 214 A M r M' := ⟨by decide, ha, h⟩
theorem en_215 {d : Nat} {A : List Value} {M M' : pm_M} {r : Option Value} (ha : (pm_in0 A).length ≤ 6) (h : pm_WP (pm_call d) tb_215 (fun r0 M1 => r0 = r ∧ M1 = M') 0 (pm_init 6 A) [] M) : pm_call (d + 1) 215 A M r M' := ⟨by decide, ha, h⟩
theorem en_216 {d : Nat} {A : List Value} {M M' : pm_M} {r : Option Value} (ha : (pm_in0 A).length ≤ 3) (h : pm_WP (pm_call d) tb_216 (fun r0 M1 => r0 = r ∧ M1 = M') 0 (pm_init 3 A) [] M) : pm_call (d + 1) 216 A M r M' := ⟨by decide, ha, h⟩
theorem en_217 {d : Nat} {A : List Value} {M M' : pm_M} {r : Option Value} (ha : (pm_in0 A).length ≤ 4) (h : pm_WP (pm_call d) tb_217 (fun r0 M1 => r0 = r ∧ M1 = M') 0 (pm_init 4 A) [] M) : pm_call (d + 1) 217 A M r M' := ⟨by decide, ha, h⟩
theorem en_218 {d : Nat} {A : List Value} {M M' : pm_M} {r : Option Value} (ha : (pm_in0 A).length ≤ 3) (h : pm_WP (pm_call d) tb_218 (fun r0 M1 => r0 = r ∧ M1 = M') 0 (pm_init 3 A) [] M) : pm_call (d + 1) 218 A M r M' := ⟨by decide, ha, h⟩
theorem en_219 {d : Nat} {A : List Value} {M M' : pm_M} {r : Option Value} (ha : (pm_in0 A).length ≤ 8) (h : pm_WP (pm_call d) tb_219 (fun r0 M1 => r0 = r ∧ M1 = M') 0 (pm_init 8 A) [] M) : pm_call (d + 1) 219 A M r M' := ⟨by decide, ha, h⟩
theorem en_220 {d : Nat} {A : List Value} {M M' : pm_M} {r : Option Value} (ha : (pm_in0 A).length ≤ 6) (h : pm_WP (pm_call d) tb_220 (fun r0 M1 => r0 = r ∧ M1 = M') 0 (pm_init 6 A) [] M) : pm_call (d + 1) 220 A M r M' := ⟨by decide, ha, h⟩
theorem en_221 {d : Nat} {A : List Value} {M M' : pm_M} {r : Option Value} (ha : (pm_in0 A).length ≤ 2) (h : pm_WP (pm_call d) tb_221 (fun r0 M1 => r0 = r ∧ M1 = M') 0 (pm_init 2 A) [] M) : pm_call (d + 1) 221 A M r M' := ⟨by decide, ha, h⟩
theorem en_222 {d : Nat} {A : List Value} {M M' : pm_M} {r : Option Value} (ha : (pm_in0 A).length ≤ 5) (h : pm_WP (pm_call d) tb_222 (fun r0 M1 => r0 = r ∧ M1 = M') 0 (pm_init 5 A) [] M) : pm_call (d + 1) 222 A M r M' := ⟨by decide, ha, h⟩
theorem en_223 {d : Nat} {A : List Value} {M M' : pm_M} {r : Option Value} (ha : (pm_in0 A).length ≤ 10) (h : pm_WP (pm_call d) tb_223 (fun r0 M1 => r0 = r ∧ M1 = M') 0 (pm_init 10 A) [] M) : pm_call (d + 1) 223 A M r M' := ⟨by decide, ha, h⟩
theorem en_224 {d : Nat} {A : List Value} {M M' : pm_M} {r : Option Value} (ha : (pm_in0 A).length ≤ 3) (h : pm_WP (pm_call d) tb_224 (fun r0 M1 => r0 = r ∧ M1 = M') 0 (pm_init 3 A) [] M) : pm_call (d + 1) 224 A M r M' := ⟨by decide, ha, h⟩
theorem en_225 {d : Nat} {A : List Value} {M M' : pm_M} {r : Option Value} (ha : (pm_in0 A).length ≤ 4) (h : pm_WP (pm_call d) tb_225 (fun r0 M1 => r0 = r ∧ M1 = M') 0 (pm_init 4 A) [] M) : pm_call (d + 1) 225 A M r M' := ⟨by decide, ha, h⟩
theorem en_226 {d : Nat} {A : List Value} {M M' : pm_M} {r : Option Value} (ha : (pm_in0 A).length ≤ 3) (h : pm_WP (pm_call d) tb_226 (fun r0 M1 => r0 = r ∧ M1 = M') 0 (pm_init 3 A) [] M) : pm_call (d + 1) 226 A M r M' := ⟨by decide, ha, h⟩
theorem en_227 {d : Nat} {A : List Value} {M M' : pm_M} {r : Option Value} (ha : (pm_in0 A).length ≤ 2) (h : pm_WP (pm_call d) tb_227 (fun r0 M1 => r0 = r ∧ M1 = M') 0 (pm_init 2 A) [] M) : pm_call (d + 1) 227 A M r M' := ⟨by decide, ha, h⟩
theorem en_228 {d : Nat} {A : List Value} {M M' : pm_M} {r : Option Value} (ha : (pm_in0 A).length ≤ 4) (h : pm_WP (pm_call d) tb_228 (fun r0 M1 => r0 = r ∧ M1 = M') 0 (pm_init 4 A) [] M) : pm_call (d + 1) 228 A M r M' := ⟨by decide, ha, h⟩
theorem en_229 {d : Nat} {A : List Value} {M M' : pm_M} {r : Option Value} (ha : (pm_in0 A).length ≤ 6) (h : pm_WP (pm_call d) tb_229 (fun r0 M1 => r0 = r ∧ M1 = M') 0 (pm_init 6 A) [] M) : pm_call (d + 1) 229 A M r M' := ⟨by decide, ha, h⟩
theorem en_230 {d : Nat} {A : List Value} {M M' : pm_M} {r : Option Value} (ha : (pm_in0 A).length ≤ 1) (h : pm_WP (pm_call d) tb_230 (fun r0 M1 => r0 = r ∧ M1 = M') 0 (pm_init 1 A) [] M) : pm_call (d + 1) 230 A M r M' := ⟨by decide, ha, h⟩
theorem en_231 {d : Nat} {A : List Value} {M M' : pm_M} {r : Option Value} (ha : (pm_in0 A).length ≤ 2) (h : pm_WP (pm_call d) tb_231 (fun r0 M1 => r0 = r ∧ M1 = M') 0 (pm_init 2 A) [] M) : pm_call (d + 1) 231 A M r M' := ⟨by decide, ha, h⟩
theorem en_232 {d : Nat} {A : List Value} {M M' : pm_M} {r : Option Value} (ha : (pm_in0 A).length ≤ 6) (h : pm_WP (pm_call d) tb_232 (fun r0 M1 => r0 = r ∧ M1 = M') 0 (pm_init 6 A) [] M) : pm_call (d + 1) 232 A M r M' := ⟨by decide, ha, h⟩
theorem en_233 {d : Nat} {A : List Value} {M M' : pm_M} {r : Option Value} (ha : (pm_in0 A).length ≤ 5) (h : pm_WP (pm_call d) tb_233 (fun r0 M1 => r0 = r ∧ M1 = M') 0 (pm_init 5 A) [] M) : pm_call (d + 1) 233 A M r M' := ⟨by decide, ha, h⟩
theorem en_234 {d : Nat} {A : List Value} {M M' : pm_M} {r : Option Value} (ha : (pm_in0 A).length ≤ 5) (h : pm_WP (pm_call d) tb_234 (fun r0 M1 => r0 = r ∧ M1 = M') 0 (pm_init 5 A) [] M) : pm_call (d + 1) 234 A M r M' := ⟨by decide, ha, h⟩
theorem en_235 {d : Nat} {A : List Value} {M M' : pm_M} {r : Option Value} (ha : (pm_in0 A).length ≤ 1) (h : pm_WP (pm_call d) tb_235 (fun r0 M1 => r0 = r ∧ M1 = M') 0 (pm_init 1 A) [] M) : pm_call (d + 1) 235 A M r M' := ⟨by decide, ha, h⟩
theorem en_236 {d : Nat} {A : List Value} {M M' : pm_M} {r : Option Value} (ha : (pm_in0 A).length ≤ 5) (h : pm_WP (pm_call d) tb_236 (fun r0 M1 => r0 = r ∧ M1 = M') 0 (pm_init 5 A) [] M) : pm_call (d + 1) 236 A M r M' := ⟨by decide, ha, h⟩
theorem en_237 {d : Nat} {A : List Value} {M M' : pm_M} {r : Option Value} (ha : (pm_in0 A).length ≤ 5) (h : pm_WP (pm_call d) tb_237 (fun r0 M1 => r0 = r ∧ M1 = M') 0 (pm_init 5 A) [] M) : pm_call (d + 1) 237 A M r M' := ⟨by decide, ha, h⟩
theorem en_238 {d : Nat} {A : List Value} {M M' : pm_M} {r : Option Value} (ha : (pm_in0 A).length ≤ 5) (h : pm_WP (pm_call d) tb_238 (fun r0 M1 => r0 = r ∧ M1 = M') 0 (pm_init 5 A) [] M) : pm_call (d + 1) 238 A M r M' := ⟨by decide, ha, h⟩
theorem en_239 {d : Nat} {A : List Value} {M M' : pm_M} {r : Option Value} (ha : (pm_in0 A).length ≤ 8) (h : pm_WP (pm_call d) tb_239 (fun r0 M1 => r0 = r ∧ M1 = M') 0 (pm_init 8 A) [] M) : pm_call (d + 1) 239 A M r M' := ⟨by decide, ha, h⟩
theorem en_240 {d : Nat} {A : List Value} {M M' : pm_M} {r : Option Value} (ha : (pm_in0 A).length ≤ 5) (h : pm_WP (pm_call d) tb_240 (fun r0 M1 => r0 = r ∧ M1 = M') 0 (pm_init 5 A) [] M) : pm_call (d + 1) 240 A M r M' := ⟨by decide, ha, h⟩
theorem en_241 {d : Nat} {A : List Value} {M M' : pm_M} {r : Option Value} (ha : (pm_in0 A).length ≤ 5) (h : pm_WP (pm_call d) tb_241 (fun r0 M1 => r0 = r ∧ M1 = M') 0 (pm_init 5 A) [] M) : pm_call (d + 1) 241 A M r M' := ⟨by decide, ha, h⟩
theorem en_242 {d : Nat} {A : List Value} {M M' : pm_M} {r : Option Value} (ha : (pm_in0 A).length ≤ 8) (h : pm_WP (pm_call d) tb_242 (fun r0 M1 => r0 = r ∧ M1 = M') 0 (pm_init 8 A) [] M) : pm_call (d + 1) 242 A M r M' := ⟨by decide, ha, h⟩
theorem en_243 {d : Nat} {A : List Value} {M M' : pm_M} {r : Option Value} (ha : (pm_in0 A).length ≤ 5) (h : pm_WP (pm_call d) tb_243 (fun r0 M1 => r0 = r ∧ M1 = M') 0 (pm_init 5 A) [] M) : pm_call (d + 1) 243 A M r M' := ⟨by decide, ha, h⟩
theorem en_244 {d : Nat} {A : List Value} {M M' : pm_M} {r : Option Value} (ha : (pm_in0 A).length ≤ 3) (h : pm_WP (pm_call d) tb_244 (fun r0 M1 => r0 = r ∧ M1 = M') 0 (pm_init 3 A) [] M) : pm_call (d + 1) 244 A M r M' := ⟨by decide, ha, h⟩
theorem en_245 {d : Nat} {A : List Value} {M M' : pm_M} {r : Option Value} (ha : (pm_in0 A).length ≤ 2) (h : pm_WP (pm_call d) tb_245 (fun r0 M1 => r0 = r ∧ M1 = M') 0 (pm_init 2 A) [] M) : pm_call (d + 1) 245 A M r M' := ⟨by decide, ha, h⟩
theorem en_246 {d : Nat} {A : List Value} {M M' : pm_M} {r : Option Value} (ha : (pm_in0 A).length ≤ 2) (h : pm_WP (pm_call d) tb_246 (fun r0 M1 => r0 = r ∧ M1 = M') 0 (pm_init 2 A) [] M) : pm_call (d + 1) 246 A M r M' := ⟨by decide, ha, h⟩
theorem en_247 {d : Nat} {A : List Value} {M M' : pm_M} {r : Option Value} (ha : (pm_in0 A).length ≤ 5) (h : pm_WP (pm_call d) tb_247 (fun r0 M1 => r0 = r ∧ M1 = M') 0 (pm_init 5 A) [] M) : pm_call (d + 1) 247 A M r M' := ⟨by decide, ha, h⟩
theorem en_248 {d : Nat} {A : List Value} {M M' : pm_M} {r : Option Value} (ha : (pm_in0 A).length ≤ 5) (h : pm_WP (pm_call d) tb_248 (fun r0 M1 => r0 = r ∧ M1 = M') 0 (pm_init 5 A) [] M) : pm_call (d + 1) 248 A M r M' := ⟨by decide, ha, h⟩
theorem en_249 {d : Nat} {A : List Value} {M M' : pm_M} {r : Option Value} (ha : (pm_in0 A).length ≤ 5) (h : pm_WP (pm_call d) tb_249 (fun r0 M1 => r0 = r ∧ M1 = M') 0 (pm_init 5 A) [] M) : pm_call (d + 1) 249 A M r M' := ⟨by decide, ha, h⟩
theorem en_250 {d : Nat} {A : List Value} {M M' : pm_M} {r : Option Value} (ha : (pm_in0 A).length ≤ 9) (h : pm_WP (pm_call d) tb_250 (fun r0 M1 => r0 = r ∧ M1 = M') 0 (pm_init 9 A) [] M) : pm_call (d + 1) 250 A M r M' := ⟨by decide, ha, h⟩
theorem en_251 {d : Nat} {A : List Value} {M M' : pm_M} {r : Option Value} (ha : (pm_in0 A).length ≤ 3) (h : pm_WP (pm_call d) tb_251 (fun r0 M1 => r0 = r ∧ M1 = M') 0 (pm_init 3 A) [] M) : pm_call (d + 1) 251 A M r M' := ⟨by decide, ha, h⟩
theorem en_252 {d : Nat} {A : List Value} {M M' : pm_M} {r : Option Value} (ha : (pm_in0 A).length ≤ 9) (h : pm_WP (pm_call d) tb_252 (fun r0 M1 => r0 = r ∧ M1 = M') 0 (pm_init 9 A) [] M) : pm_call (d + 1) 252 A M r M' := ⟨by decide, ha, h⟩
theorem en_253 {d : Nat} {A : List Value} {M M' : pm_M} {r : Option Value} (ha : (pm_in0 A).length ≤ 5) (h : pm_WP (pm_call d) tb_253 (fun r0 M1 => r0 = r ∧ M1 = M') 0 (pm_init 5 A) [] M) : pm_call (d + 1) 253 A M r M' := ⟨by decide, ha, h⟩
theorem en_254 {d : Nat} {A : List Value} {M M' : pm_M} {r : Option Value} (ha : (pm_in0 A).length ≤ 3) (h : pm_WP (pm_call d) tb_254 (fun r0 M1 => r0 = r ∧ M1 = M') 0 (pm_init 3 A) [] M) : pm_call (d + 1) 254 A M r M' := ⟨by decide, ha, h⟩
theorem en_255 {d : Nat} {A : List Value} {M M' : pm_M} {r : Option Value} (ha : (pm_in0 A).length ≤ 8) (h : pm_WP (pm_call d) tb_255 (fun r0 M1 => r0 = r ∧ M1 = M') 0 (pm_init 8 A) [] M) : pm_call (d + 1) 255 A M r M' := ⟨by decide, ha, h⟩
theorem en_256 {d : Nat} {A : List Value} {M M' : pm_M} {r : Option Value} (ha : (pm_in0 A).length ≤ 4) (h : pm_WP (pm_call d) tb_256 (fun r0 M1 => r0 = r ∧ M1 = M') 0 (pm_init 4 A) [] M) : pm_call (d + 1) 256 A M r M' := ⟨by decide, ha, h⟩
theorem en_257 {d : Nat} {A : List Value} {M M' : pm_M} {r : Option Value} (ha : (pm_in0 A).length ≤ 5) (h : pm_WP (pm_call d) tb_257 (fun r0 M1 => r0 = r ∧ M1 = M') 0 (pm_init 5 A) [] M) : pm_call (d + 1) 257 A M r M' := ⟨by decide, ha, h⟩
theorem en_258 {d : Nat} {A : List Value} {M M' : pm_M} {r : Option Value} (ha : (pm_in0 A).length ≤ 6) (h : pm_WP (pm_call d) tb_258 (fun r0 M1 => r0 = r ∧ M1 = M') 0 (pm_init 6 A) [] M) : pm_call (d + 1) 258 A M r M' := ⟨by decide, ha, h⟩
theorem en_259 {d : Nat} {A : List Value} {M M' : pm_M} {r : Option Value} (ha : (pm_in0 A).length ≤ 5) (h : pm_WP (pm_call d) tb_259 (fun r0 M1 => r0 = r ∧ M1 = M') 0 (pm_init 5 A) [] M) : pm_call (d + 1) 259 A M r M' := ⟨by decide, ha, h⟩
theorem en_260 {d : Nat} {A : List Value} {M M' : pm_M} {r : Option Value} (ha : (pm_in0 A).length ≤ 7) (h : pm_WP (pm_call d) tb_260 (fun r0 M1 => r0 = r ∧ M1 = M') 0 (pm_init 7 A) [] M) : pm_call (d + 1) 260 A M r M' := ⟨by decide, ha, h⟩
theorem en_261 {d : Nat} {A : List Value} {M M' : pm_M} {r : Option Value} (ha : (pm_in0 A).length ≤ 3) (h : pm_WP (pm_call d) tb_261 (fun r0 M1 => r0 = r ∧ M1 = M') 0 (pm_init 3 A) [] M) : pm_call (d + 1) 261 A M r M' := ⟨by decide, ha, h⟩
theorem en_262 {d : Nat} {A : List Value} {M M' : pm_M} {r : Option Value} (ha : (pm_in0 A).length ≤ 9) (h : pm_WP (pm_call d) tb_262 (fun r0 M1 => r0 = r ∧ M1 = M') 0 (pm_init 9 A) [] M) : pm_call (d + 1) 262 A M r M' := ⟨by decide, ha, h⟩
theorem en_263 {d : Nat} {A : List Value} {M M' : pm_M} {r : Option Value} (ha : (pm_in0 A).length ≤ 4) (h : pm_WP (pm_call d) tb_263 (fun r0 M1 => r0 = r ∧ M1 = M') 0 (pm_init 4 A) [] M) : pm_call (d + 1) 263 A M r M' := ⟨by decide, ha, h⟩
theorem en_264 {d : Nat} {A : List Value} {M M' : pm_M} {r : Option Value} (ha : (pm_in0 A).length ≤ 2) (h : pm_WP (pm_call d) tb_264 (fun r0 M1 => r0 = r ∧ M1 = M') 0 (pm_init 2 A) [] M) : pm_call (d + 1) 264 A M r M' := ⟨by decide, ha, h⟩
theorem en_265 {d : Nat} {A : List Value} {M M' : pm_M} {r : Option Value} (ha : (pm_in0 A).length ≤ 3) (h : pm_WP (pm_call d) tb_265 (fun r0 M1 => r0 = r ∧ M1 = M') 0 (pm_init 3 A) [] M) : pm_call (d + 1) 265 A M r M' := ⟨by decide, ha, h⟩
theorem en_266 {d : Nat} {A : List Value} {M M' : pm_M} {r : Option Value} (ha : (pm_in0 A).length ≤ 3) (h : pm_WP (pm_call d) tb_266 (fun r0 M1 => r0 = r ∧ M1 = M') 0 (pm_init 3 A) [] M) : pm_call (d + 1) 266 A M r M' := ⟨by decide, ha, h⟩
theorem en_267 {d : Nat} {A : List Value} {M M' : pm_M} {r : Option Value} (ha : (pm_in0 A).length ≤ 3) (h : pm_WP (pm_call d) tb_267 (fun r0 M1 => r0 = r ∧ M1 = M') 0 (pm_init 3 A) [] M) : pm_call (d + 1) 267 A M r M' := ⟨by decide, ha, h⟩
theorem en_268 {d : Nat} {A : List Value} {M M' : pm_M} {r : Option Value} (ha : (pm_in0 A).length ≤ 1) (h : pm_WP (pm_call d) tb_268 (fun r0 M1 => r0 = r ∧ M1 = M') 0 (pm_init 1 A) [] M) : pm_call (d + 1) 268 A M r M' := ⟨by decide, ha, h⟩
theorem en_269 {d : Nat} {A : List Value} {M M' : pm_M} {r : Option Value} (ha : (pm_in0 A).length ≤ 4) (h : pm_WP (pm_call d) tb_269 (fun r0 M1 => r0 = r ∧ M1 = M') 0 (pm_init 4 A) [] M) : pm_call (d + 1) 269 A M r M' := ⟨by decide, ha, h⟩
theorem en_270 {d : Nat} {A : List Value} {M M' : pm_M} {r : Option Value} (ha : (pm_in0 A).length ≤ 4) (h : pm_WP (pm_call d) tb_270 (fun r0 M1 => r0 = r ∧ M1 = M') 0 (pm_init 4 A) [] M) : pm_call (d + 1) 270 A M r M' := ⟨by decide, ha, h⟩
