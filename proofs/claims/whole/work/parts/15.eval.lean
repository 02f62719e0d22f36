/-! the program: code by number; calls evaluated to a depth -/
def qm_k0 : List (List (Nat × qa_Op)) := [qc_0, qc_1, qc_2, qc_3, qc_4, qc_5, qc_6, qc_7, qc_8, qc_9, qc_10, qc_11, qc_12, qc_13, qc_14, qc_15, qc_16, qc_17, qc_18, qc_19, qc_20, qc_21, qc_22, qc_23, qc_24, qc_25, qc_26, qc_27, qc_28, qc_29, qc_30, qc_31]
def qm_k1 : List (List (Nat × qa_Op)) := [qc_32, qc_33, qc_34, qc_35, qc_36, qc_37, qc_38, qc_39, qc_40, qc_41, qc_42, qc_43, qc_44, qc_45, qc_46, qc_47, qc_48, qc_49, qc_50, qc_51, qc_52, qc_53, qc_54, qc_55, qc_56, qc_57, qc_58, qc_59, qc_60, qc_61, qc_62, qc_63]
def qm_k2 : List (List (Nat × qa_Op)) := [qc_64, qc_65, qc_66, qc_67, qc_68, qc_69, qc_70, qc_71, qc_72, qc_73, qc_74, qc_75, qc_76, qc_77, qc_78, qc_79, qc_80, qc_81, qc_82, qc_83, qc_84, qc_85, qc_86, qc_87, qc_88, qc_89, qc_90, qc_91, qc_92, qc_93, qc_94, qc_95]
def qm_k3 : List (List (Nat × qa_Op)) := [qc_96, qc_97, qc_98, qc_99, qc_100, qc_101, qc_102, qc_103, qc_104, qc_105, qc_106, qc_107, qc_108, qc_109, qc_110, qc_111, qc_112, qc_113, qc_114, qc_115, qc_116, qc_117, qc_118, qc_119, qc_120, qc_121, qc_122, qc_123, qc_124, qc_125, qc_126, qc_127]
def qm_k4 : List (List (Nat × qa_Op)) := [qc_128, qc_129, qc_130, qc_131, qc_132, qc_133, qc_134, qc_135, qc_136, qc_137, qc_138, qc_139, qc_140, qc_141, qc_142, qc_143, qc_144, qc_145, qc_146, qc_147, qc_148, qc_149, qc_150, qc_151, qc_152, qc_153, qc_154, qc_155, qc_156, qc_157, qc_158, qc_159]
def qm_k5 : List (List (Nat × qa_Op)) := [qc_160, qc_161, qc_162, qc_163, qc_164, qc_165, qc_166, qc_167, qc_168, qc_169, qc_170, qc_171, qc_172, qc_173, qc_174, qc_175, qc_176, qc_177, qc_178, qc_179, qc_180, qc_181, qc_182, qc_183, qc_184, qc_185, qc_186, qc_187, qc_188, qc_189, qc_190, qc_191]
def qm_k6 : List (List (Nat × qa_Op)) := [qc_192, qc_193, qc_194, qc_195, qc_196, qc_197, qc_198, qc_199, qc_200, qc_201, qc_202, qc_203, qc_204, qc_205, qc_206, qc_207, qc_208, qc_209, qc_210, qc_211, qc_212, qc_213, qc_214, qc_215, qc_216, qc_217, qc_218, qc_219, qc_220, qc_221, qc_222, qc_223]
def qm_k7 : List (List (Nat × qa_Op)) := [qc_224, qc_225, qc_226, qc_227, qc_228, qc_229, qc_230, qc_231, qc_232, qc_233, qc_234, qc_235, qc_236, qc_237, qc_238, qc_239, qc_240, qc_241, qc_242, qc_243, qc_244, qc_245, qc_246, qc_247, qc_248, qc_249, qc_250, qc_251, qc_252, qc_253, qc_254, qc_255]
def qm_k8 : List (List (Nat × qa_Op)) := [qc_256, qc_257, qc_258, qc_259, qc_260, qc_261, qc_262, qc_263, qc_264, qc_265, qc_266, qc_267, qc_268, qc_269, qc_270, qc_271, qc_272, qc_273, qc_274, qc_275, qc_276, qc_277, qc_278, qc_279, qc_280, qc_281, qc_282, qc_283, qc_284, qc_285, qc_286, qc_287]
def qm_k9 : List (List (Nat × qa_Op)) := [qc_288, qc_289, qc_290, qc_291, qc_292, qc_293, qc_294]
def qm_kg : Nat → List (List (Nat × qa_Op)) := fun g => match g with
  | 0 => qm_k0
  | 1 => qm_k1
  | 2 => qm_k2
  | 3 => qm_k3
  | 4 => qm_k4
  | 5 => qm_k5
  | 6 => qm_k6
  | 7 => qm_k7
  | 8 => qm_k8
  | 9 => qm_k9
  | _ => []
def qm_c : Nat → List (Nat × qa_Op) := fun i => (qm_kg (i / 32)).getD (i % 32) []
def qa_cd (l : List (Nat × qa_Op)) : qa_Cd := fun pc => l.lookup pc
noncomputable def qe : Nat → qa_O
  | 0 => fun _ _ _ => none
  | d + 1 => fun i av h => if (i < 295 ∧ i ≠ 66 ∧ i ≠ 111) ∧ (qa_ent0 av).length ≤ (qm i).2.2.1 then qa_lm (qe d) (qa_cd (qm_c i)) (0, qa_ent (qm i).2.2.1 av, [], h) else none
def qa_mk (i : Nat) : Prop := (i ≠ 66 ∧ i ≠ 111 → plainName (qm i).1.cls = true) ∧ qa_all (qa_SW qm qm_nw (qm i).1.cls (qm i).1.name (qm i).2.1 (qm i).2.2.1 (qm i).2.2.2) (qm_c i)
theorem qa_mk_g0 : ∀ j, j < 32 → qa_mk (0 + j) := fun j hj => by
  match j, hj with
  | 0, _ => exact ⟨fun _ => by decide +kernel, qx_0⟩
  | 1, _ => exact ⟨fun _ => by decide +kernel, qx_1⟩
  | 2, _ => exact ⟨fun _ => by decide +kernel, qx_2⟩
  | 3, _ => exact ⟨fun _ => by decide +kernel, qx_3⟩
  | 4, _ => exact ⟨fun _ => by decide +kernel, qx_4⟩
  | 5, _ => exact ⟨fun _ => by decide +kernel, qx_5⟩
  | 6, _ => exact ⟨fun _ => by decide +kernel, qx_6⟩
  | 7, _ => exact ⟨fun _ => by decide +kernel, qx_7⟩
  | 8, _ => exact ⟨fun _ => by decide +kernel, qx_8⟩
  | 9, _ => exact ⟨fun _ => by decide +kernel, qx_9⟩
  | 10, _ => exact ⟨fun _ => by decide +kernel, qx_10⟩
  | 11, _ => exact ⟨fun _ => by decide +kernel, qx_11⟩
  | 12, _ => exact ⟨fun _ => by decide +kernel, qx_12⟩
  | 13, _ => exact ⟨fun _ => by decide +kernel, qx_13⟩
  | 14, _ => exact ⟨fun _ => by decide +kernel, qx_14⟩
  | 15, _ => exact ⟨fun _ => by decide +kernel, qx_15⟩
  | 16, _ => exact ⟨fun _ => by decide +kernel, qx_16⟩
  | 17, _ => exact ⟨fun _ => by decide +kernel, qx_17⟩
  | 18, _ => exact ⟨fun _ => by decide +kernel, qx_18⟩
  | 19, _ => exact ⟨fun _ => by decide +kernel, qx_19⟩
  | 20, _ => exact ⟨fun _ => by decide +kernel, qx_20⟩
  | 21, _ => exact ⟨fun _ => by decide +kernel, qx_21⟩
  | 22, _ => exact ⟨fun _ => by decide +kernel, qx_22⟩
  | 23, _ => exact ⟨fun _ => by decide +kernel, qx_23⟩
  | 24, _ => exact ⟨fun _ => by decide +kernel, qx_24⟩
  | 25, _ => exact ⟨fun _ => by decide +kernel, qx_25⟩
  | 26, _ => exact ⟨fun _ => by decide +kernel, qx_26⟩
  | 27, _ => exact ⟨fun _ => by decide +kernel, qx_27⟩
  | 28, _ => exact ⟨fun _ => by decide +kernel, qx_28⟩
  | 29, _ => exact ⟨fun _ => by decide +kernel, qx_29⟩
  | 30, _ => exact ⟨fun _ => by decide +kernel, qx_30⟩
  | 31, _ => exact ⟨fun _ => by decide +kernel, qx_31⟩
  | j + 32, h => exact absurd h (by omega)
theorem qa_mk_g1 : ∀ j, j < 32 → qa_mk (32 + j) := fun j hj => by
  match j, hj with
  | 0, _ => exact ⟨fun _ => by decide +kernel, qx_32⟩
  | 1, _ => exact ⟨fun _ => by decide +kernel, qx_33⟩
  | 2, _ => exact ⟨fun _ => by decide +kernel, qx_34⟩
  | 3, _ => exact ⟨fun _ => by decide +kernel, qx_35⟩
  | 4, _ => exact ⟨fun _ => by decide +kernel, qx_36⟩
  | 5, _ => exact ⟨fun _ => by decide +kernel, qx_37⟩
  | 6, _ => exact ⟨fun _ => by decide +kernel, qx_38⟩
  | 7, _ => exact ⟨fun _ => by decide +kernel, qx_39⟩
  | 8, _ => exact ⟨fun _ => by decide +kernel, qx_40⟩
  | 9, _ => exact ⟨fun _ => by decide +kernel, qx_41⟩
  | 10, _ => exact ⟨fun _ => by decide +kernel, qx_42⟩
  | 11, _ => exact ⟨fun _ => by decide +kernel, qx_43⟩
  | 12, _ => exact ⟨fun _ => by decide +kernel, qx_44⟩
  | 13, _ => exact ⟨fun _ => by decide +kernel, qx_45⟩
  | 14, _ => exact ⟨fun _ => by decide +kernel, qx_46⟩
  | 15, _ => exact ⟨fun _ => by decide +kernel, qx_47⟩
  | 16, _ => exact ⟨fun _ => by decide +kernel, qx_48⟩
  | 17, _ => exact ⟨fun _ => by decide +kernel, qx_49⟩
  | 18, _ => exact ⟨fun _ => by decide +kernel, qx_50⟩
  | 19, _ => exact ⟨fun _ => by decide +kernel, qx_51⟩
  | 20, _ => exact ⟨fun _ => by decide +kernel, qx_52⟩
  | 21, _ => exact ⟨fun _ => by decide +kernel, qx_53⟩
  | 22, _ => exact ⟨fun _ => by decide +kernel, qx_54⟩
  | 23, _ => exact ⟨fun _ => by decide +kernel, qx_55⟩
  | 24, _ => exact ⟨fun _ => by decide +kernel, qx_56⟩
  | 25, _ => exact ⟨fun _ => by decide +kernel, qx_57⟩
  | 26, _ => exact ⟨fun _ => by decide +kernel, qx_58⟩
  | 27, _ => exact ⟨fun _ => by decide +kernel, qx_59⟩
  | 28, _ => exact ⟨fun _ => by decide +kernel, qx_60⟩
  | 29, _ => exact ⟨fun _ => by decide +kernel, qx_61⟩
  | 30, _ => exact ⟨fun _ => by decide +kernel, qx_62⟩
  | 31, _ => exact ⟨fun _ => by decide +kernel, qx_63⟩
  | j + 32, h => exact absurd h (by omega)
theorem qa_mk_g2 : ∀ j, j < 32 → qa_mk (64 + j) := fun j hj => by
  match j, hj with
  | 0, _ => exact ⟨fun _ => by decide +kernel, qx_64⟩
  | 1, _ => exact ⟨fun _ => by decide +kernel, qx_65⟩
  | 2, _ => exact ⟨fun h => absurd rfl h.1, qx_66⟩
  | 3, _ => exact ⟨fun _ => by decide +kernel, qx_67⟩
  | 4, _ => exact ⟨fun _ => by decide +kernel, qx_68⟩
  | 5, _ => exact ⟨fun _ => by decide +kernel, qx_69⟩
  | 6, _ => exact ⟨fun _ => by decide +kernel, qx_70⟩
  | 7, _ => exact ⟨fun _ => by decide +kernel, qx_71⟩
  | 8, _ => exact ⟨fun _ => by decide +kernel, qx_72⟩
  | 9, _ => exact ⟨fun _ => by decide +kernel, qx_73⟩
  | 10, _ => exact ⟨fun _ => by decide +kernel, qx_74⟩
  | 11, _ => exact ⟨fun _ => by decide +kernel, qx_75⟩
  | 12, _ => exact ⟨fun _ => by decide +kernel, qx_76⟩
  | 13, _ => exact ⟨fun _ => by decide +kernel, qx_77⟩
  | 14, _ => exact ⟨fun _ => by decide +kernel, qx_78⟩
  | 15, _ => exact ⟨fun _ => by decide +kernel, qx_79⟩
  | 16, _ => exact ⟨fun _ => by decide +kernel, qx_80⟩
  | 17, _ => exact ⟨fun _ => by decide +kernel, qx_81⟩
  | 18, _ => exact ⟨fun _ => by decide +kernel, qx_82⟩
  | 19, _ => exact ⟨fun _ => by decide +kernel, qx_83⟩
  | 20, _ => exact ⟨fun _ => by decide +kernel, qx_84⟩
  | 21, _ => exact ⟨fun _ => by decide +kernel, qx_85⟩
  | 22, _ => exact ⟨fun _ => by decide +kernel, qx_86⟩
  | 23, _ => exact ⟨fun _ => by decide +kernel, qx_87⟩
  | 24, _ => exact ⟨fun _ => by decide +kernel, qx_88⟩
  | 25, _ => exact ⟨fun _ => by decide +kernel, qx_89⟩
  | 26, _ => exact ⟨fun _ => by decide +kernel, qx_90⟩
  | 27, _ => exact ⟨fun _ => by decide +kernel, qx_91⟩
  | 28, _ => exact ⟨fun _ => by decide +kernel, qx_92⟩
  | 29, _ => exact ⟨fun _ => by decide +kernel, qx_93⟩
  | 30, _ => exact ⟨fun _ => by decide +kernel, qx_94⟩
  | 31, _ => exact ⟨fun _ => by decide +kernel, qx_95⟩
  | j + 32, h => exact absurd h (by omega)
theorem qa_mk_g3 : ∀ j, j < 32 → qa_mk (96 + j) := fun j hj => by
  match j, hj with
  | 0, _ => exact ⟨fun _ => by decide +kernel, qx_96⟩
  | 1, _ => exact ⟨fun _ => by decide +kernel, qx_97⟩
  | 2, _ => exact ⟨fun _ => by decide +kernel, qx_98⟩
  | 3, _ => exact ⟨fun _ => by decide +kernel, qx_99⟩
  | 4, _ => exact ⟨fun _ => by decide +kernel, qx_100⟩
  | 5, _ => exact ⟨fun _ => by decide +kernel, qx_101⟩
  | 6, _ => exact ⟨fun _ => by decide +kernel, qx_102⟩
  | 7, _ => exact ⟨fun _ => by decide +kernel, qx_103⟩
  | 8, _ => exact ⟨fun _ => by decide +kernel, qx_104⟩
  | 9, _ => exact ⟨fun _ => by decide +kernel, qx_105⟩
  | 10, _ => exact ⟨fun _ => by decide +kernel, qx_106⟩
  | 11, _ => exact ⟨fun _ => by decide +kernel, qx_107⟩
  | 12, _ => exact ⟨fun _ => by decide +kernel, qx_108⟩
  | 13, _ => exact ⟨fun _ => by decide +kernel, qx_109⟩
  | 14, _ => exact ⟨fun _ => by decide +kernel, qx_110⟩
  | 15, _ => exact ⟨fun h => absurd rfl h.2, qx_111⟩
  | 16, _ => exact ⟨fun _ => by decide +kernel, qx_112⟩
  | 17, _ => exact ⟨fun _ => by decide +kernel, qx_113⟩
  | 18, _ => exact ⟨fun _ => by decide +kernel, qx_114⟩
  | 19, _ => exact ⟨fun _ => by decide +kernel, qx_115⟩
  | 20, _ => exact ⟨fun _ => by decide +kernel, qx_116⟩
  | 21, _ => exact ⟨fun _ => by decide +kernel, qx_117⟩
  | 22, _ => exact ⟨fun _ => by decide +kernel, qx_118⟩
  | 23, _ => exact ⟨fun _ => by decide +kernel, qx_119⟩
  | 24, _ => exact ⟨fun _ => by decide +kernel, qx_120⟩
  | 25, _ => exact ⟨fun _ => by decide +kernel, qx_121⟩
  | 26, _ => exact ⟨fun _ => by decide +kernel, qx_122⟩
  | 27, _ => exact ⟨fun _ => by decide +kernel, qx_123⟩
  | 28, _ => exact ⟨fun _ => by decide +kernel, qx_124⟩
  | 29, _ => exact ⟨fun _ => by decide +kernel, qx_125⟩
  | 30, _ => exact ⟨fun _ => by decide +kernel, qx_126⟩
  | 31, _ => exact ⟨fun _ => by decide +kernel, qx_127⟩
  | j + 32, h => exact absurd h (by omega)
theorem qa_mk_g4 : ∀ j, j < 32 → qa_mk (128 + j) := fun j hj => by
  match j, hj with
  | 0, _ => exact ⟨fun _ => by decide +kernel, qx_128⟩
  | 1, _ => exact ⟨fun _ => by decide +kernel, qx_129⟩
  | 2, _ => exact ⟨fun _ => by decide +kernel, qx_130⟩
  | 3, _ => exact ⟨fun _ => by decide +kernel, qx_131⟩
  | 4, _ => exact ⟨fun _ => by decide +kernel, qx_132⟩
  | 5, _ => exact ⟨fun _ => by decide +kernel, qx_133⟩
  | 6, _ => exact ⟨fun _ => by decide +kernel, qx_134⟩
  | 7, _ => exact ⟨fun _ => by decide +kernel, qx_135⟩
  | 8, _ => exact ⟨fun _ => by decide +kernel, qx_136⟩
  | 9, _ => exact ⟨fun _ => by decide +kernel, qx_137⟩
  | 10, _ => exact ⟨fun _ => by decide +kernel, qx_138⟩
  | 11, _ => exact ⟨fun _ => by decide +kernel, qx_139⟩
  | 12, _ => exact ⟨fun _ => by decide +kernel, qx_140⟩
  | 13, _ => exact ⟨fun _ => by decide +kernel, qx_141⟩
  | 14, _ => exact ⟨fun _ => by decide +kernel, qx_142⟩
  | 15, _ => exact ⟨fun _ => by decide +kernel, qx_143⟩
  | 16, _ => exact ⟨fun _ => by decide +kernel, qx_144⟩
  | 17, _ => exact ⟨fun _ => by decide +kernel, qx_145⟩
  | 18, _ => exact ⟨fun _ => by decide +kernel, qx_146⟩
  | 19, _ => exact ⟨fun _ => by decide +kernel, qx_147⟩
  | 20, _ => exact ⟨fun _ => by decide +kernel, qx_148⟩
  | 21, _ => exact ⟨fun _ => by decide +kernel, qx_149⟩
  | 22, _ => exact ⟨fun _ => by decide +kernel, qx_150⟩
  | 23, _ => exact ⟨fun _ => by decide +kernel, qx_151⟩
  | 24, _ => exact ⟨fun _ => by decide +kernel, qx_152⟩
  | 25, _ => exact ⟨fun _ => by decide +kernel, qx_153⟩
  | 26, _ => exact ⟨fun _ => by decide +kernel, qx_154⟩
  | 27, _ => exact ⟨fun _ => by decide +kernel, qx_155⟩
  | 28, _ => exact ⟨fun _ => by decide +kernel, qx_156⟩
  | 29, _ => exact ⟨fun _ => by decide +kernel, qx_157⟩
  | 30, _ => exact ⟨fun _ => by decide +kernel, qx_158⟩
  | 31, _ => exact ⟨fun _ => by decide +kernel, qx_159⟩
  | j + 32, h => exact absurd h (by omega)
theorem qa_mk_g5 : ∀ j, j < 32 → qa_mk (160 + j) := fun j hj => by
  match j, hj with
  | 0, _ => exact ⟨fun _ => by decide +kernel, qx_160⟩
  | 1, _ => exact ⟨fun _ => by decide +kernel, qx_161⟩
  | 2, _ => exact ⟨fun _ => by decide +kernel, qx_162⟩
  | 3, _ => exact ⟨fun _ => by decide +kernel, qx_163⟩
  | 4, _ => exact ⟨fun _ => by decide +kernel, qx_164⟩
  | 5, _ => exact ⟨fun _ => by decide +kernel, qx_165⟩
  | 6, _ => exact ⟨fun _ => by decide +kernel, qx_166⟩
  | 7, _ => exact ⟨fun _ => by decide +kernel, qx_167⟩
  | 8, _ => exact ⟨fun _ => by decide +kernel, qx_168⟩
  | 9, _ => exact ⟨fun _ => by decide +kernel, qx_169⟩
  | 10, _ => exact ⟨fun _ => by decide +kernel, qx_170⟩
  | 11, _ => exact ⟨fun _ => by decide +kernel, qx_171⟩
  | 12, _ => exact ⟨fun _ => by decide +kernel, qx_172⟩
  | 13, _ => exact ⟨fun _ => by decide +kernel, qx_173⟩
  | 14, _ => exact ⟨fun _ => by decide +kernel, qx_174⟩
  | 15, _ => exact ⟨fun _ => by decide +kernel, qx_175⟩
  | 16, _ => exact ⟨fun _ => by decide +kernel, qx_176⟩
  | 17, _ => exact ⟨fun _ => by decide +kernel, qx_177⟩
  | 18, _ => exact ⟨fun _ => by decide +kernel, qx_178⟩
  | 19, _ => exact ⟨fun _ => by decide +kernel, qx_179⟩
  | 20, _ => exact ⟨fun _ => by decide +kernel, qx_180⟩
  | 21, _ => exact ⟨fun _ => by decide +kernel, qx_181⟩
  | 22, _ => exact ⟨fun _ => by decide +kernel, qx_182⟩
  | 23, _ => exact ⟨fun _ => by decide +kernel, qx_183⟩
  | 24, _ => exact ⟨fun _ => by decide +kernel, qx_184⟩
  | 25, _ => exact ⟨fun _ => by decide +kernel, qx_185⟩
  | 26, _ => exact ⟨fun _ => by decide +kernel, qx_186⟩
  | 27, _ => exact ⟨fun _ => by decide +kernel, qx_187⟩
  | 28, _ => exact ⟨fun _ => by decide +kernel, qx_188⟩
  | 29, _ => exact ⟨fun _ => by decide +kernel, qx_189⟩
  | 30, _ => exact ⟨fun _ => by decide +kernel, qx_190⟩
  | 31, _ => exact ⟨fun _ => by decide +kernel, qx_191⟩
  | j + 32, h => exact absurd h (by omega)
theorem qa_mk_g6 : ∀ j, j < 32 → qa_mk (192 + j) := fun j hj => by
  match j, hj with
  | 0, _ => exact ⟨fun _ => by decide +kernel, qx_192⟩
  | 1, _ => exact ⟨fun _ => by decide +kernel, qx_193⟩
  | 2, _ => exact ⟨fun _ => by decide +kernel, qx_194⟩
  | 3, _ => exact ⟨fun _ => by decide +kernel, qx_195⟩
  | 4, _ => exact ⟨fun _ => by decide +kernel, qx_196⟩
  | 5, _ => exact ⟨fun _ => by decide +kernel, qx_197⟩
  | 6, _ => exact ⟨fun _ => by decide +kernel, qx_198⟩
  | 7, _ => exact ⟨fun _ => by decide +kernel, qx_199⟩
  | 8, _ => exact ⟨fun _ => by decide +kernel, qx_200⟩
  | 9, _ => exact ⟨fun _ => by decide +kernel, qx_201⟩
  | 10, _ => exact ⟨fun _ => by decide +kernel, qx_202⟩
  | 11, _ => exact ⟨fun _ => by decide +kernel, qx_203⟩
  | 12, _ => exact ⟨fun _ => by decide +kernel, qx_204⟩
  | 13, _ => exact ⟨fun _ => by decide +kernel, qx_205⟩
  | 14, _ => exact ⟨fun _ => by decide +kernel, qx_206⟩
  | 15, _ => exact ⟨fun _ => by decide +kernel, qx_207⟩
  | 16, _ => exact ⟨fun _ => by decide +kernel, qx_208⟩
  | 17, _ => exact ⟨fun _ => by decide +kernel, qx_209⟩
  | 18, _ => exact ⟨fun _ => by decide +kernel, qx_210⟩
  | 19, _ => exact ⟨fun _ => by decide +kernel, qx_211⟩
  | 20, _ => exact ⟨fun _ => by decide +kernel, qx_212⟩
  | 21, _ => exact ⟨fun _ => by decide +kernel, qx_213⟩
  | 22, _ => exact ⟨fun _ => by decide +kernel, qx_214⟩
  | 23, _ => exact ⟨fun _ => by decide +kernel, qx_215⟩
  | 24, _ => exact ⟨fun _ => by decide +kernel, qx_216⟩
  | 25, _ => exact ⟨fun _ => by decide +kernel, qx_217⟩
  | 26, _ => exact ⟨fun _ => by decide +kernel, qx_218⟩
  | 27, _ => exact ⟨fun _ => by decide +kernel, qx_219⟩
  | 28, _ => exact ⟨fun _ => by decide +kernel, qx_220⟩
  | 29, _ => exact ⟨fun _ => by decide +kernel, qx_221⟩
  | 30, _ => exact ⟨fun _ => by decide +kernel, qx_222⟩
  | 31, _ => exact ⟨fun _ => by decide +kernel, qx_223⟩
  | j + 32, h => exact absurd h (by omega)
theorem qa_mk_g7 : ∀ j, j < 32 → qa_mk (224 + j) := fun j hj => by
  match j, hj with
  | 0, _ => exact ⟨fun _ => by decide +kernel, qx_224⟩
  | 1, _ => exact ⟨fun _ => by decide +kernel, qx_225⟩
  | 2, _ => exact ⟨fun _ => by decide +kernel, qx_226⟩
  | 3, _ => exact ⟨fun _ => by decide +kernel, qx_227⟩
  | 4, _ => exact ⟨fun _ => by decide +kernel, qx_228⟩
  | 5, _ => exact ⟨fun _ => by decide +kernel, qx_229⟩
  | 6, _ => exact ⟨fun _ => by decide +kernel, qx_230⟩
  | 7, _ => exact ⟨fun _ => by decide +kernel, qx_231⟩
  | 8, _ => exact ⟨fun _ => by decide +kernel, qx_232⟩
  | 9, _ => exact ⟨fun _ => by decide +kernel, qx_233⟩
  | 10, _ => exact ⟨fun _ => by decide +kernel, qx_234⟩
  | 11, _ => exact ⟨fun _ => by decide +kernel, qx_235⟩
  | 12, _ => exact ⟨fun _ => by decide +kernel, qx_236⟩
  | 13, _ => exact ⟨fun _ => by decide +kernel, qx_237⟩
  | 14, _ => exact ⟨fun _ => by decide +kernel, qx_238⟩
  | 15, _ => exact ⟨fun _ => by decide +kernel, qx_239⟩
  | 16, _ => exact ⟨fun _ => by decide +kernel, qx_240⟩
  | 17, _ => exact ⟨fun _ => by decide +kernel, qx_241⟩
  | 18, _ => exact ⟨fun _ => by decide +kernel, qx_242⟩
  | 19, _ => exact ⟨fun _ => by decide +kernel, qx_243⟩
  | 20, _ => exact ⟨fun _ => by decide +kernel, qx_244⟩
  | 21, _ => exact ⟨fun _ => by decide +kernel, qx_245⟩
  | 22, _ => exact ⟨fun _ => by decide +kernel, qx_246⟩
  | 23, _ => exact ⟨fun _ => by decide +kernel, qx_247⟩
  | 24, _ => exact ⟨fun _ => by decide +kernel, qx_248⟩
  | 25, _ => exact ⟨fun _ => by decide +kernel, qx_249⟩
  | 26, _ => exact ⟨fun _ => by decide +kernel, qx_250⟩
  | 27, _ => exact ⟨fun _ => by decide +kernel, qx_251⟩
  | 28, _ => exact ⟨fun _ => by decide +kernel, qx_252⟩
  | 29, _ => exact ⟨fun _ => by decide +kernel, qx_253⟩
  | 30, _ => exact ⟨fun _ => by decide +kernel, qx_254⟩
  | 31, _ => exact ⟨fun _ => by decide +kernel, qx_255⟩
  | j + 32, h => exact absurd h (by omega)
theorem qa_mk_g8 : ∀ j, j < 32 → qa_mk (256 + j) := fun j hj => by
  match j, hj with
  | 0, _ => exact ⟨fun _ => by decide +kernel, qx_256⟩
  | 1, _ => exact ⟨fun _ => by decide +kernel, qx_257⟩
  | 2, _ => exact ⟨fun _ => by decide +kernel, qx_258⟩
  | 3, _ => exact ⟨fun _ => by decide +kernel, qx_259⟩
  | 4, _ => exact ⟨fun _ => by decide +kernel, qx_260⟩
  | 5, _ => exact ⟨fun _ => by decide +kernel, qx_261⟩
  | 6, _ => exact ⟨fun _ => by decide +kernel, qx_262⟩
  | 7, _ => exact ⟨fun _ => by decide +kernel, qx_263⟩
  | 8, _ => exact ⟨fun _ => by decide +kernel, qx_264⟩
  | 9, _ => exact ⟨fun _ => by decide +kernel, qx_265⟩
  | 10, _ => exact ⟨fun _ => by decide +kernel, qx_266⟩
  | 11, _ => exact ⟨fun _ => by decide +kernel, qx_267⟩
  | 12, _ => exact ⟨fun _ => by decide +kernel, qx_268⟩
  | 13, _ => exact ⟨fun _ => by decide +kernel, qx_269⟩
  | 14, _ => exact ⟨fun _ => by decide +kernel, qx_270⟩
  | 15, _ => exact ⟨fun _ => by decide +kernel, qx_271⟩
  | 16, _ => exact ⟨fun _ => by decide +kernel, qx_272⟩
  | 17, _ => exact ⟨fun _ => by decide +kernel, qx_273⟩
  | 18, _ => exact ⟨fun _ => by decide +kernel, qx_274⟩
  | 19, _ => exact ⟨fun _ => by decide +kernel, qx_275⟩
  | 20, _ => exact ⟨fun _ => by decide +kernel, qx_276⟩
  | 21, _ => exact ⟨fun _ => by decide +kernel, qx_277⟩
  | 22, _ => exact ⟨fun _ => by decide +kernel, qx_278⟩
  | 23, _ => exact ⟨fun _ => by decide +kernel, qx_279⟩
  | 24, _ => exact ⟨fun _ => by decide +kernel, qx_280⟩
  | 25, _ => exact ⟨fun _ => by decide +kernel, qx_281⟩
  | 26, _ => exact ⟨fun _ => by decide +kernel, qx_282⟩
  | 27, _ => exact ⟨fun _ => by decide +kernel, qx_283⟩
  | 28, _ => exact ⟨fun _ => by decide +kernel, qx_284⟩
  | 29, _ => exact ⟨fun _ => by decide +kernel, qx_285⟩
  | 30, _ => exact ⟨fun _ => by decide +kernel, qx_286⟩
  | 31, _ => exact ⟨fun _ => by decide +kernel, qx_287⟩
  | j + 32, h => exact absurd h (by omega)
theorem qa_mk_g9 : ∀ j, j < 7 → qa_mk (288 + j) := fun j hj => by
  match j, hj with
  | 0, _ => exact ⟨fun _ => by decide +kernel, qx_288⟩
  | 1, _ => exact ⟨fun _ => by decide +kernel, qx_289⟩
  | 2, _ => exact ⟨fun _ => by decide +kernel, qx_290⟩
  | 3, _ => exact ⟨fun _ => by decide +kernel, qx_291⟩
  | 4, _ => exact ⟨fun _ => by decide +kernel, qx_292⟩
  | 5, _ => exact ⟨fun _ => by decide +kernel, qx_293⟩
  | 6, _ => exact ⟨fun _ => by decide +kernel, qx_294⟩
  | j + 7, h => exact absurd h (by omega)
theorem qa_mk_all (i : Nat) (h : i < 295) : qa_mk i := by
  rcases Nat.lt_or_ge i 32 with q0 | q0
  · have := qa_mk_g0 (i - 0) (by omega)
    rwa [show 0 + (i - 0) = i by omega] at this
  rcases Nat.lt_or_ge i 64 with q1 | q1
  · have := qa_mk_g1 (i - 32) (by omega)
    rwa [show 32 + (i - 32) = i by omega] at this
  rcases Nat.lt_or_ge i 96 with q2 | q2
  · have := qa_mk_g2 (i - 64) (by omega)
    rwa [show 64 + (i - 64) = i by omega] at this
  rcases Nat.lt_or_ge i 128 with q3 | q3
  · have := qa_mk_g3 (i - 96) (by omega)
    rwa [show 96 + (i - 96) = i by omega] at this
  rcases Nat.lt_or_ge i 160 with q4 | q4
  · have := qa_mk_g4 (i - 128) (by omega)
    rwa [show 128 + (i - 128) = i by omega] at this
  rcases Nat.lt_or_ge i 192 with q5 | q5
  · have := qa_mk_g5 (i - 160) (by omega)
    rwa [show 160 + (i - 160) = i by omega] at this
  rcases Nat.lt_or_ge i 224 with q6 | q6
  · have := qa_mk_g6 (i - 192) (by omega)
    rwa [show 192 + (i - 192) = i by omega] at this
  rcases Nat.lt_or_ge i 256 with q7 | q7
  · have := qa_mk_g7 (i - 224) (by omega)
    rwa [show 224 + (i - 224) = i by omega] at this
  rcases Nat.lt_or_ge i 288 with q8 | q8
  · have := qa_mk_g8 (i - 256) (by omega)
    rwa [show 256 + (i - 256) = i by omega] at this
  have := qa_mk_g9 (i - 288) (by omega)
  rwa [show 288 + (i - 288) = i by omega] at this
theorem qe_ok (l : Launch) (D : va_G) (cA : Nat → ClassId) (st : Nat → Nat) (bs : Nat) : ∀ d, qa_OK qm qm_nw l D cA st bs d (qe d)
  | 0 => fun i av h r e => by cases e
  | d + 1 => fun i av h r e => by
    have e2 : (if (i < 295 ∧ i ≠ 66 ∧ i ≠ 111) ∧ (qa_ent0 av).length ≤ (qm i).2.2.1 then qa_lm (qe d) (qa_cd (qm_c i)) (0, qa_ent (qm i).2.2.1 av, [], h) else none) = some r := e
    split at e2
    · rename_i hc
      obtain ⟨h1, h2⟩ := qa_mk_all i hc.1.1
      have ih := qe_ok l D cA st bs d
      exact qa_meth (own := (qm i).1.cls) (nm := (qm i).1.name) (ds := (qm i).1.desc) (cc := (qm i).2.1) (nL := (qm i).2.2.1) (ret := (qm i).2.2.2) rfl (h1 hc.1.2) (fun pc op ho => qa_all_at h2 pc op ho) ih hc.2 e2
    · cases e2
