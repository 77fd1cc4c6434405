theorem mg_all4 {α : Type} {p : α → Bool} {l : List α} (h0 : ((l.drop 0).take 25).all p = true) (h1 : ((l.drop 25).take 25).all p = true) (h2 : ((l.drop 50).take 25).all p = true) (h3 : (l.drop 75).all p = true) : l.all p = true := by
  rw [List.drop_zero] at h0
  have e1 : l = l.take 25 ++ ((l.drop 25).take 25 ++ ((l.drop 50).take 25 ++ l.drop 75)) := by
    have a : ∀ n : Nat, (l.drop n).take 25 ++ l.drop (n + 25) = l.drop n := fun n => by rw [← List.drop_drop, List.take_append_drop]
    rw [a 50, a 25, List.take_append_drop]
  rw [e1, List.all_append, List.all_append, List.all_append, h0, h1, h2, h3]
  rfl
theorem ok_258_10 : mk_258_10.all (mg_chk 258) = true := mg_all4 okp_10_0 okp_10_1 okp_10_2 okp_10_3
theorem ok_258_11 : mk_258_11.all (mg_chk 258) = true := mg_all4 okp_11_0 okp_11_1 okp_11_2 okp_11_3
theorem ok_258_12 : mk_258_12.all (mg_chk 258) = true := mg_all4 okp_12_0 okp_12_1 okp_12_2 okp_12_3
theorem ok_258_13 : mk_258_13.all (mg_chk 258) = true := mg_all4 okp_13_0 okp_13_1 okp_13_2 okp_13_3
theorem ok_258_14 : mk_258_14.all (mg_chk 258) = true := mg_all4 okp_14_0 okp_14_1 okp_14_2 okp_14_3
theorem ok_258 : mk_258.all (mg_chk 258) = true := (mg_allapp ok_258_0 (mg_allapp ok_258_1 (mg_allapp ok_258_2 (mg_allapp ok_258_3 (mg_allapp ok_258_4 (mg_allapp ok_258_5 (mg_allapp ok_258_6 (mg_allapp ok_258_7 (mg_allapp ok_258_8 (mg_allapp ok_258_9 (mg_allapp ok_258_10 (mg_allapp ok_258_11 (mg_allapp ok_258_12 (mg_allapp ok_258_13 ok_258_14))))))))))))))
def mg_allok : List (List mg_E) → Nat → Prop
  | [], _ => True
  | l :: ls, i => l.all (mg_chk i) = true ∧ mg_allok ls (i + 1)
theorem mg_allok_get : ∀ (ls : List (List mg_E)) (i : Nat), mg_allok ls i → ∀ (k : Nat) (l : List mg_E), ls[k]? = some l → l.all (mg_chk (i + k)) = true
  | [], _, _, k, l, hk => by simp at hk
  | l0 :: ls, i, h, k, l, hk => by
    cases k with
    | zero => cases hk; exact h.1
    | succ k =>
      have h2 := mg_allok_get ls (i + 1) h.2 k l hk
      rw [show i + (k + 1) = i + 1 + k by omega]
      exact h2
set_option maxRecDepth 100000 in
theorem mg_allok_0 : mg_allok mg_codes 0 := ⟨ok_0, ⟨ok_1, ⟨ok_2, ⟨ok_3, ⟨ok_4, ⟨ok_5, ⟨ok_6, ⟨ok_7, ⟨ok_8, ⟨ok_9, ⟨ok_10, ⟨ok_11, ⟨ok_12, ⟨ok_13, ⟨ok_14, ⟨ok_15, ⟨ok_16, ⟨ok_17, ⟨ok_18, ⟨ok_19, ⟨ok_20, ⟨ok_21, ⟨ok_22, ⟨ok_23, ⟨ok_24, ⟨ok_25, ⟨ok_26, ⟨ok_27, ⟨ok_28, ⟨ok_29, ⟨ok_30, ⟨ok_31, ⟨ok_32, ⟨ok_33, ⟨ok_34, ⟨ok_35, ⟨ok_36, ⟨ok_37, ⟨ok_38, ⟨ok_39, ⟨ok_40, ⟨ok_41, ⟨ok_42, ⟨ok_43, ⟨ok_44, ⟨ok_45, ⟨ok_46, ⟨ok_47, ⟨ok_48, ⟨ok_49, ⟨ok_50, ⟨ok_51, ⟨ok_52, ⟨ok_53, ⟨ok_54, ⟨ok_55, ⟨ok_56, ⟨ok_57, ⟨ok_58, ⟨ok_59, ⟨ok_60, ⟨ok_61, ⟨ok_62, ⟨ok_63, ⟨ok_64, ⟨ok_65, ⟨ok_66, ⟨ok_67, ⟨ok_68, ⟨ok_69, ⟨ok_70, ⟨ok_71, ⟨ok_72, ⟨ok_73, ⟨ok_74, ⟨ok_75, ⟨ok_76, ⟨ok_77, ⟨ok_78, ⟨ok_79, ⟨ok_80, ⟨ok_81, ⟨ok_82, ⟨ok_83, ⟨ok_84, ⟨ok_85, ⟨ok_86, ⟨ok_87, ⟨ok_88, ⟨ok_89, ⟨ok_90, ⟨ok_91, ⟨ok_92, ⟨ok_93, ⟨ok_94, ⟨ok_95, ⟨ok_96, ⟨ok_97, ⟨ok_98, ⟨ok_99, ⟨ok_100, ⟨ok_101, ⟨ok_102, ⟨ok_103, ⟨ok_104, ⟨ok_105, ⟨ok_106, ⟨ok_107, ⟨ok_108, ⟨ok_109, ⟨ok_110, ⟨ok_111, ⟨ok_112, ⟨ok_113, ⟨ok_114, ⟨ok_115, ⟨ok_116, ⟨ok_117, ⟨ok_118, ⟨ok_119, ⟨ok_120, ⟨ok_121, ⟨ok_122, ⟨ok_123, ⟨ok_124, ⟨ok_125, ⟨ok_126, ⟨ok_127, ⟨ok_128, ⟨ok_129, ⟨ok_130, ⟨ok_131, ⟨ok_132, ⟨ok_133, ⟨ok_134, ⟨ok_135, ⟨ok_136, ⟨ok_137, ⟨ok_138, ⟨ok_139, ⟨ok_140, ⟨ok_141, ⟨ok_142, ⟨ok_143, ⟨ok_144, ⟨ok_145, ⟨ok_146, ⟨ok_147, ⟨ok_148, ⟨ok_149, ⟨ok_150, ⟨ok_151, ⟨ok_152, ⟨ok_153, ⟨ok_154, ⟨ok_155, ⟨ok_156, ⟨ok_157, ⟨ok_158, ⟨ok_159, ⟨ok_160, ⟨ok_161, ⟨ok_162, ⟨ok_163, ⟨ok_164, ⟨ok_165, ⟨ok_166, ⟨ok_167, ⟨ok_168, ⟨ok_169, ⟨ok_170, ⟨ok_171, ⟨ok_172, ⟨ok_173, ⟨ok_174, ⟨ok_175, ⟨ok_176, ⟨ok_177, ⟨ok_178, ⟨ok_179, ⟨ok_180, ⟨ok_181, ⟨ok_182, ⟨ok_183, ⟨ok_184, ⟨ok_185, ⟨ok_186, ⟨ok_187, ⟨ok_188, ⟨ok_189, ⟨ok_190, ⟨ok_191, ⟨ok_192, ⟨ok_193, ⟨ok_194, ⟨ok_195, ⟨ok_196, ⟨ok_197, ⟨ok_198, ⟨ok_199, ⟨ok_200, ⟨ok_201, ⟨ok_202, ⟨ok_203, ⟨ok_204, ⟨ok_205, ⟨ok_206, ⟨ok_207, ⟨ok_208, ⟨ok_209, ⟨ok_210, ⟨ok_211, ⟨ok_212, ⟨ok_213, ⟨ok_214, ⟨ok_215, ⟨ok_216, ⟨ok_217, ⟨ok_218, ⟨ok_219, ⟨ok_220, ⟨ok_221, ⟨ok_222, ⟨ok_223, ⟨ok_224, ⟨ok_225, ⟨ok_226, ⟨ok_227, ⟨ok_228, ⟨ok_229, ⟨ok_230, ⟨ok_231, ⟨ok_232, ⟨ok_233, ⟨ok_234, ⟨ok_235, ⟨ok_236, ⟨ok_237, ⟨ok_238, ⟨ok_239, ⟨ok_240, ⟨ok_241, ⟨ok_242, ⟨ok_243, ⟨ok_244, ⟨ok_245, ⟨ok_246, ⟨ok_247, ⟨ok_248, ⟨ok_249, ⟨ok_250, ⟨ok_251, ⟨ok_252, ⟨ok_253, ⟨ok_254, ⟨ok_255, ⟨ok_256, ⟨ok_257, ⟨ok_258, trivial⟩⟩⟩⟩⟩⟩⟩⟩⟩⟩⟩⟩⟩⟩⟩⟩⟩⟩⟩⟩⟩⟩⟩⟩⟩⟩⟩⟩⟩⟩⟩⟩⟩⟩⟩⟩⟩⟩⟩⟩⟩⟩⟩⟩⟩⟩⟩⟩⟩⟩⟩⟩⟩⟩⟩⟩⟩⟩⟩⟩⟩⟩⟩⟩⟩⟩⟩⟩⟩⟩⟩⟩⟩⟩⟩⟩⟩⟩⟩⟩⟩⟩⟩⟩⟩⟩⟩⟩⟩⟩⟩⟩⟩⟩⟩⟩⟩⟩⟩⟩⟩⟩⟩⟩⟩⟩⟩⟩⟩⟩⟩⟩⟩⟩⟩⟩⟩⟩⟩⟩⟩⟩⟩⟩⟩⟩⟩⟩⟩⟩⟩⟩⟩⟩⟩⟩⟩⟩⟩⟩⟩⟩⟩⟩⟩⟩⟩⟩⟩⟩⟩⟩⟩⟩⟩⟩⟩⟩⟩⟩⟩⟩⟩⟩⟩⟩⟩⟩⟩⟩⟩⟩⟩⟩⟩⟩⟩⟩⟩⟩⟩⟩⟩⟩⟩⟩⟩⟩⟩⟩⟩⟩⟩⟩⟩⟩⟩⟩⟩⟩⟩⟩⟩⟩⟩⟩⟩⟩⟩⟩⟩⟩⟩⟩⟩⟩⟩⟩⟩⟩⟩⟩⟩⟩⟩⟩⟩⟩⟩⟩⟩⟩⟩⟩⟩⟩⟩⟩⟩⟩⟩⟩⟩⟩⟩⟩⟩⟩⟩⟩⟩⟩⟩⟩⟩⟩⟩⟩⟩
theorem mg_ok {mi pc : Nat} {e : mg_E} (h : mg_at mi pc = some e) : e.1 = pc ∧ mg_chk mi e = true := by
  unfold mg_at at h
  have h1 := List.find?_some h
  have h2 := List.mem_of_find?_eq_some h
  refine ⟨Nat.eq_of_beq_eq_true h1, ?_⟩
  cases hl : mg_codes[mi]? with
  | none =>
    rw [List.getD_eq_getElem?_getD, hl] at h2
    cases h2
  | some l =>
    rw [List.getD_eq_getElem?_getD, hl] at h2
    have h3 := mg_allok_get mg_codes 0 mg_allok_0 mi l hl
    rw [Nat.zero_add] at h3
    exact List.all_eq_true.mp h3 e h2

