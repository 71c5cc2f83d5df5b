/-! ===== the tables hold (by program) ===== -/
set_option maxRecDepth 100000 in
theorem gtab_ok : ∀ x ∈ gtab, gmeP x := by
  refine List.forall_mem_cons.mpr ⟨gok_0, ?_⟩
  refine List.forall_mem_cons.mpr ⟨gok_1, ?_⟩
  refine List.forall_mem_cons.mpr ⟨gok_2, ?_⟩
  refine List.forall_mem_cons.mpr ⟨gok_3, ?_⟩
  refine List.forall_mem_cons.mpr ⟨gok_4, ?_⟩
  refine List.forall_mem_cons.mpr ⟨gok_5, ?_⟩
  refine List.forall_mem_cons.mpr ⟨gok_6, ?_⟩
  refine List.forall_mem_cons.mpr ⟨gok_7, ?_⟩
  refine List.forall_mem_cons.mpr ⟨gok_8, ?_⟩
  refine List.forall_mem_cons.mpr ⟨gok_9, ?_⟩
  refine List.forall_mem_cons.mpr ⟨gok_10, ?_⟩
  refine List.forall_mem_cons.mpr ⟨gok_11, ?_⟩
  refine List.forall_mem_cons.mpr ⟨gok_12, ?_⟩
  refine List.forall_mem_cons.mpr ⟨gok_13, ?_⟩
  refine List.forall_mem_cons.mpr ⟨gok_14, ?_⟩
  refine List.forall_mem_cons.mpr ⟨gok_15, ?_⟩
  refine List.forall_mem_cons.mpr ⟨gok_16, ?_⟩
  refine List.forall_mem_cons.mpr ⟨gok_17, ?_⟩
  refine List.forall_mem_cons.mpr ⟨gok_18, ?_⟩
  refine List.forall_mem_cons.mpr ⟨gok_19, ?_⟩
  refine List.forall_mem_cons.mpr ⟨gok_20, ?_⟩
  refine List.forall_mem_cons.mpr ⟨gok_21, ?_⟩
  refine List.forall_mem_cons.mpr ⟨gok_22, ?_⟩
  refine List.forall_mem_cons.mpr ⟨gok_23, ?_⟩
  refine List.forall_mem_cons.mpr ⟨gok_24, ?_⟩
  refine List.forall_mem_cons.mpr ⟨gok_25, ?_⟩
  refine List.forall_mem_cons.mpr ⟨gok_26, ?_⟩
  refine List.forall_mem_cons.mpr ⟨gok_27, ?_⟩
  refine List.forall_mem_cons.mpr ⟨gok_28, ?_⟩
  refine List.forall_mem_cons.mpr ⟨gok_29, ?_⟩
  refine List.forall_mem_cons.mpr ⟨gok_30, ?_⟩
  refine List.forall_mem_cons.mpr ⟨gok_31, ?_⟩
  refine List.forall_mem_cons.mpr ⟨gok_32, ?_⟩
  refine List.forall_mem_cons.mpr ⟨gok_33, ?_⟩
  refine List.forall_mem_cons.mpr ⟨gok_34, ?_⟩
  refine List.forall_mem_cons.mpr ⟨gok_35, ?_⟩
  refine List.forall_mem_cons.mpr ⟨gok_36, ?_⟩
  refine List.forall_mem_cons.mpr ⟨gok_37, ?_⟩
  refine List.forall_mem_cons.mpr ⟨gok_38, ?_⟩
  refine List.forall_mem_cons.mpr ⟨gok_39, ?_⟩
  refine List.forall_mem_cons.mpr ⟨gok_40, ?_⟩
  refine List.forall_mem_cons.mpr ⟨gok_41, ?_⟩
  refine List.forall_mem_cons.mpr ⟨gok_42, ?_⟩
  refine List.forall_mem_cons.mpr ⟨gok_43, ?_⟩
  refine List.forall_mem_cons.mpr ⟨gok_44, ?_⟩
  refine List.forall_mem_cons.mpr ⟨gok_45, ?_⟩
  refine List.forall_mem_cons.mpr ⟨gok_46, ?_⟩
  refine List.forall_mem_cons.mpr ⟨gok_47, ?_⟩
  refine List.forall_mem_cons.mpr ⟨gok_48, ?_⟩
  refine List.forall_mem_cons.mpr ⟨gok_49, ?_⟩
  refine List.forall_mem_cons.mpr ⟨gok_50, ?_⟩
  refine List.forall_mem_cons.mpr ⟨gok_51, ?_⟩
  refine List.forall_mem_cons.mpr ⟨gok_52, ?_⟩
  refine List.forall_mem_cons.mpr ⟨gok_53, ?_⟩
  refine List.forall_mem_cons.mpr ⟨gok_54, ?_⟩
  refine List.forall_mem_cons.mpr ⟨gok_55, ?_⟩
  refine List.forall_mem_cons.mpr ⟨gok_56, ?_⟩
  refine List.forall_mem_cons.mpr ⟨gok_57, ?_⟩
  refine List.forall_mem_cons.mpr ⟨gok_58, ?_⟩
  refine List.forall_mem_cons.mpr ⟨gok_59, ?_⟩
  refine List.forall_mem_cons.mpr ⟨gok_60, ?_⟩
  refine List.forall_mem_cons.mpr ⟨gok_61, ?_⟩
  refine List.forall_mem_cons.mpr ⟨gok_62, ?_⟩
  refine List.forall_mem_cons.mpr ⟨gok_63, ?_⟩
  refine List.forall_mem_cons.mpr ⟨gok_64, ?_⟩
  refine List.forall_mem_cons.mpr ⟨gok_65, ?_⟩
  refine List.forall_mem_cons.mpr ⟨gok_66, ?_⟩
  refine List.forall_mem_cons.mpr ⟨gok_67, ?_⟩
  refine List.forall_mem_cons.mpr ⟨gok_68, ?_⟩
  refine List.forall_mem_cons.mpr ⟨gok_69, ?_⟩
  refine List.forall_mem_cons.mpr ⟨gok_70, ?_⟩
  refine List.forall_mem_cons.mpr ⟨gok_71, ?_⟩
  refine List.forall_mem_cons.mpr ⟨gok_72, ?_⟩
  refine List.forall_mem_cons.mpr ⟨gok_73, ?_⟩
  refine List.forall_mem_cons.mpr ⟨gok_74, ?_⟩
  refine List.forall_mem_cons.mpr ⟨gok_75, ?_⟩
  refine List.forall_mem_cons.mpr ⟨gok_76, ?_⟩
  refine List.forall_mem_cons.mpr ⟨gok_77, ?_⟩
  refine List.forall_mem_cons.mpr ⟨gok_78, ?_⟩
  refine List.forall_mem_cons.mpr ⟨gok_79, ?_⟩
  refine List.forall_mem_cons.mpr ⟨gok_80, ?_⟩
  refine List.forall_mem_cons.mpr ⟨gok_81, ?_⟩
  refine List.forall_mem_cons.mpr ⟨gok_82, ?_⟩
  refine List.forall_mem_cons.mpr ⟨gok_83, ?_⟩
  refine List.forall_mem_cons.mpr ⟨gok_84, ?_⟩
  refine List.forall_mem_cons.mpr ⟨gok_85, ?_⟩
  refine List.forall_mem_cons.mpr ⟨gok_86, ?_⟩
  refine List.forall_mem_cons.mpr ⟨gok_87, ?_⟩
  refine List.forall_mem_cons.mpr ⟨gok_88, ?_⟩
  refine List.forall_mem_cons.mpr ⟨gok_89, ?_⟩
  refine List.forall_mem_cons.mpr ⟨gok_90, ?_⟩
  refine List.forall_mem_cons.mpr ⟨gok_91, ?_⟩
  refine List.forall_mem_cons.mpr ⟨gok_92, ?_⟩
  refine List.forall_mem_cons.mpr ⟨gok_93, ?_⟩
  refine List.forall_mem_cons.mpr ⟨gok_94, ?_⟩
  refine List.forall_mem_cons.mpr ⟨gok_95, ?_⟩
  refine List.forall_mem_cons.mpr ⟨gok_96, ?_⟩
  refine List.forall_mem_cons.mpr ⟨gok_97, ?_⟩
  refine List.forall_mem_cons.mpr ⟨gok_98, ?_⟩
  refine List.forall_mem_cons.mpr ⟨gok_99, ?_⟩
  refine List.forall_mem_cons.mpr ⟨gok_100, ?_⟩
  refine List.forall_mem_cons.mpr ⟨gok_101, ?_⟩
  refine List.forall_mem_cons.mpr ⟨gok_102, ?_⟩
  refine List.forall_mem_cons.mpr ⟨gok_103, ?_⟩
  refine List.forall_mem_cons.mpr ⟨gok_104, ?_⟩
  refine List.forall_mem_cons.mpr ⟨gok_105, ?_⟩
  refine List.forall_mem_cons.mpr ⟨gok_106, ?_⟩
  refine List.forall_mem_cons.mpr ⟨gok_107, ?_⟩
  refine List.forall_mem_cons.mpr ⟨gok_108, ?_⟩
  refine List.forall_mem_cons.mpr ⟨gok_109, ?_⟩
  refine List.forall_mem_cons.mpr ⟨gok_110, ?_⟩
  refine List.forall_mem_cons.mpr ⟨gok_111, ?_⟩
  refine List.forall_mem_cons.mpr ⟨gok_112, ?_⟩
  refine List.forall_mem_cons.mpr ⟨gok_113, ?_⟩
  refine List.forall_mem_cons.mpr ⟨gok_114, ?_⟩
  refine List.forall_mem_cons.mpr ⟨gok_115, ?_⟩
  refine List.forall_mem_cons.mpr ⟨gok_116, ?_⟩
  refine List.forall_mem_cons.mpr ⟨gok_117, ?_⟩
  refine List.forall_mem_cons.mpr ⟨gok_118, ?_⟩
  refine List.forall_mem_cons.mpr ⟨gok_119, ?_⟩
  refine List.forall_mem_cons.mpr ⟨gok_120, ?_⟩
  refine List.forall_mem_cons.mpr ⟨gok_121, ?_⟩
  refine List.forall_mem_cons.mpr ⟨gok_122, ?_⟩
  refine List.forall_mem_cons.mpr ⟨gok_123, ?_⟩
  refine List.forall_mem_cons.mpr ⟨gok_124, ?_⟩
  refine List.forall_mem_cons.mpr ⟨gok_125, ?_⟩
  refine List.forall_mem_cons.mpr ⟨gok_126, ?_⟩
  refine List.forall_mem_cons.mpr ⟨gok_127, ?_⟩
  refine List.forall_mem_cons.mpr ⟨gok_128, ?_⟩
  refine List.forall_mem_cons.mpr ⟨gok_129, ?_⟩
  refine List.forall_mem_cons.mpr ⟨gok_130, ?_⟩
  refine List.forall_mem_cons.mpr ⟨gok_131, ?_⟩
  refine List.forall_mem_cons.mpr ⟨gok_132, ?_⟩
  refine List.forall_mem_cons.mpr ⟨gok_133, ?_⟩
  refine List.forall_mem_cons.mpr ⟨gok_134, ?_⟩
  refine List.forall_mem_cons.mpr ⟨gok_135, ?_⟩
  refine List.forall_mem_cons.mpr ⟨gok_136, ?_⟩
  refine List.forall_mem_cons.mpr ⟨gok_137, ?_⟩
  refine List.forall_mem_cons.mpr ⟨gok_138, ?_⟩
  refine List.forall_mem_cons.mpr ⟨gok_139, ?_⟩
  refine List.forall_mem_cons.mpr ⟨gok_140, ?_⟩
  refine List.forall_mem_cons.mpr ⟨gok_141, ?_⟩
  refine List.forall_mem_cons.mpr ⟨gok_142, ?_⟩
  refine List.forall_mem_cons.mpr ⟨gok_143, ?_⟩
  refine List.forall_mem_cons.mpr ⟨gok_144, ?_⟩
  refine List.forall_mem_cons.mpr ⟨gok_145, ?_⟩
  refine List.forall_mem_cons.mpr ⟨gok_146, ?_⟩
  refine List.forall_mem_cons.mpr ⟨gok_147, ?_⟩
  refine List.forall_mem_cons.mpr ⟨gok_148, ?_⟩
  refine List.forall_mem_cons.mpr ⟨gok_149, ?_⟩
  refine List.forall_mem_cons.mpr ⟨gok_150, ?_⟩
  refine List.forall_mem_cons.mpr ⟨gok_151, ?_⟩
  refine List.forall_mem_cons.mpr ⟨gok_152, ?_⟩
  refine List.forall_mem_cons.mpr ⟨gok_153, ?_⟩
  refine List.forall_mem_cons.mpr ⟨gok_154, ?_⟩
  refine List.forall_mem_cons.mpr ⟨gok_155, ?_⟩
  refine List.forall_mem_cons.mpr ⟨gok_156, ?_⟩
  refine List.forall_mem_cons.mpr ⟨gok_157, ?_⟩
  refine List.forall_mem_cons.mpr ⟨gok_158, ?_⟩
  refine List.forall_mem_cons.mpr ⟨gok_159, ?_⟩
  refine List.forall_mem_cons.mpr ⟨gok_160, ?_⟩
  refine List.forall_mem_cons.mpr ⟨gok_161, ?_⟩
  refine List.forall_mem_cons.mpr ⟨gok_162, ?_⟩
  refine List.forall_mem_cons.mpr ⟨gok_163, ?_⟩
  refine List.forall_mem_cons.mpr ⟨gok_164, ?_⟩
  refine List.forall_mem_cons.mpr ⟨gok_165, ?_⟩
  refine List.forall_mem_cons.mpr ⟨gok_166, ?_⟩
  refine List.forall_mem_cons.mpr ⟨gok_167, ?_⟩
  refine List.forall_mem_cons.mpr ⟨gok_168, ?_⟩
  refine List.forall_mem_cons.mpr ⟨gok_169, ?_⟩
  refine List.forall_mem_cons.mpr ⟨gok_170, ?_⟩
  refine List.forall_mem_cons.mpr ⟨gok_171, ?_⟩
  refine List.forall_mem_cons.mpr ⟨gok_172, ?_⟩
  refine List.forall_mem_cons.mpr ⟨gok_173, ?_⟩
  refine List.forall_mem_cons.mpr ⟨gok_174, ?_⟩
  refine List.forall_mem_cons.mpr ⟨gok_175, ?_⟩
  refine List.forall_mem_cons.mpr ⟨gok_176, ?_⟩
  refine List.forall_mem_cons.mpr ⟨gok_177, ?_⟩
  refine List.forall_mem_cons.mpr ⟨gok_178, ?_⟩
  refine List.forall_mem_cons.mpr ⟨gok_179, ?_⟩
  refine List.forall_mem_cons.mpr ⟨gok_180, ?_⟩
  refine List.forall_mem_cons.mpr ⟨gok_181, ?_⟩
  refine List.forall_mem_cons.mpr ⟨gok_182, ?_⟩
  refine List.forall_mem_cons.mpr ⟨gok_183, ?_⟩
  refine List.forall_mem_cons.mpr ⟨gok_184, ?_⟩
  refine List.forall_mem_cons.mpr ⟨gok_185, ?_⟩
  refine List.forall_mem_cons.mpr ⟨gok_186, ?_⟩
  refine List.forall_mem_cons.mpr ⟨gok_187, ?_⟩
  refine List.forall_mem_cons.mpr ⟨gok_188, ?_⟩
  refine List.forall_mem_cons.mpr ⟨gok_189, ?_⟩
  refine List.forall_mem_cons.mpr ⟨gok_190, ?_⟩
  refine List.forall_mem_cons.mpr ⟨gok_191, ?_⟩
  refine List.forall_mem_cons.mpr ⟨gok_192, ?_⟩
  refine List.forall_mem_cons.mpr ⟨gok_193, ?_⟩
  refine List.forall_mem_cons.mpr ⟨gok_194, ?_⟩
  refine List.forall_mem_cons.mpr ⟨gok_195, ?_⟩
  refine List.forall_mem_cons.mpr ⟨gok_196, ?_⟩
  refine List.forall_mem_cons.mpr ⟨gok_197, ?_⟩
  refine List.forall_mem_cons.mpr ⟨gok_198, ?_⟩
  refine List.forall_mem_cons.mpr ⟨gok_199, ?_⟩
  refine List.forall_mem_cons.mpr ⟨gok_200, ?_⟩
  refine List.forall_mem_cons.mpr ⟨gok_201, ?_⟩
  refine List.forall_mem_cons.mpr ⟨gok_202, ?_⟩
  refine List.forall_mem_cons.mpr ⟨gok_203, ?_⟩
  refine List.forall_mem_cons.mpr ⟨gok_204, ?_⟩
  refine List.forall_mem_cons.mpr ⟨gok_205, ?_⟩
  refine List.forall_mem_cons.mpr ⟨gok_206, ?_⟩
  refine List.forall_mem_cons.mpr ⟨gok_207, ?_⟩
  refine List.forall_mem_cons.mpr ⟨gok_208, ?_⟩
  refine List.forall_mem_cons.mpr ⟨gok_209, ?_⟩
  refine List.forall_mem_cons.mpr ⟨gok_210, ?_⟩
  refine List.forall_mem_cons.mpr ⟨gok_211, ?_⟩
  refine List.forall_mem_cons.mpr ⟨gok_212, ?_⟩
  refine List.forall_mem_cons.mpr ⟨gok_213, ?_⟩
  refine List.forall_mem_cons.mpr ⟨gok_214, ?_⟩
  refine List.forall_mem_cons.mpr ⟨gok_215, ?_⟩
  refine List.forall_mem_cons.mpr ⟨gok_216, ?_⟩
  refine List.forall_mem_cons.mpr ⟨gok_217, ?_⟩
  refine List.forall_mem_cons.mpr ⟨gok_218, ?_⟩
  refine List.forall_mem_cons.mpr ⟨gok_219, ?_⟩
  refine List.forall_mem_cons.mpr ⟨gok_220, ?_⟩
  refine List.forall_mem_cons.mpr ⟨gok_221, ?_⟩
  refine List.forall_mem_cons.mpr ⟨gok_222, ?_⟩
  refine List.forall_mem_cons.mpr ⟨gok_223, ?_⟩
  refine List.forall_mem_cons.mpr ⟨gok_224, ?_⟩
  refine List.forall_mem_cons.mpr ⟨gok_225, ?_⟩
  refine List.forall_mem_cons.mpr ⟨gok_226, ?_⟩
  refine List.forall_mem_cons.mpr ⟨gok_227, ?_⟩
  refine List.forall_mem_cons.mpr ⟨gok_228, ?_⟩
  refine List.forall_mem_cons.mpr ⟨gok_229, ?_⟩
  refine List.forall_mem_cons.mpr ⟨gok_230, ?_⟩
  refine List.forall_mem_cons.mpr ⟨gok_231, ?_⟩
  refine List.forall_mem_cons.mpr ⟨gok_232, ?_⟩
  refine List.forall_mem_cons.mpr ⟨gok_233, ?_⟩
  refine List.forall_mem_cons.mpr ⟨gok_234, ?_⟩
  refine List.forall_mem_cons.mpr ⟨gok_235, ?_⟩
  refine List.forall_mem_cons.mpr ⟨gok_236, ?_⟩
  refine List.forall_mem_cons.mpr ⟨gok_237, ?_⟩
  refine List.forall_mem_cons.mpr ⟨gok_238, ?_⟩
  refine List.forall_mem_cons.mpr ⟨gok_239, ?_⟩
  refine List.forall_mem_cons.mpr ⟨gok_240, ?_⟩
  exact fun _ h => absurd h List.not_mem_nil
def gfb (q : Nat × Nat × Nat × Nat × Nat) : Bool := match gnth gcl q.2.2.1 with
  | some r => gix q.2.2.2.2 (.fieldLink (gnm q.1) q.2.1 (r.2.1 q.2.2.2.1).1 (r.2.1 q.2.2.2.1).2.1 (r.2.1 q.2.2.2.1).2.2.1)
  | none => false
def gfbI (q : Nat × Nat × Nat × Nat × Nat) : Bool := gfb q && (match gnth gcl q.2.2.1 with
  | some r => !(r.2.1 q.2.2.2.1).2.2.2 && decide (parseFieldDescriptor (r.2.1 q.2.2.2.1).2.2.1 = some (cond (gZf q.2.2.1 q.2.2.2.1) .boolean .int)) && decide ((gdf q.2.2.1)[q.2.2.2.1]? = some none)
  | none => false)
def gfbR (q : Nat × Nat × Nat × Nat × Nat) : Bool := gfb q && (match gnth gcl q.2.2.1 with
  | some r => (r.2.1 q.2.2.2.1).2.2.2 && (decide ((r.2.1 q.2.2.2.1).1 = gnm q.1) && (match parseFieldDescriptor (r.2.1 q.2.2.2.1).2.2.1 with
      | some (.object _) => true
      | some (.array _) => true
      | _ => false) && decide ((gdf q.2.2.1)[q.2.2.2.1]? = some (some none)))
  | none => false)
theorem gFL_all : gFL.all gfb = true := by decide +kernel
theorem gPI_all : gPI.all gfbI = true := by decide +kernel
theorem gPR_all : gPR.all gfbR = true := by decide +kernel
/-- a call's words; kind 3 (a nest mate's constructor): its link is in the state's environment -/
def gmlB (e : Nat × Nat × Nat × Nat × Nat × Nat × Nat × Nat) : Bool := match gnth gtab e.2.2.1 with
  | some x => (match e.2.2.2.1 with
      | 0 => gix e.2.2.2.2.1 (.methodLink (gnm e.1) e.2.1 x.1.1) && (gix e.2.2.2.2.2.1 (.static x.1.1) && gix e.2.2.2.2.2.2.1 (.initialized x.1.1.cls))
      | 1 => gix e.2.2.2.2.1 (.methodLink (gnm e.1) e.2.1 x.1.1) && (gix e.2.2.2.2.2.1 (.instanceMethod x.1.1) && (gix e.2.2.2.2.2.2.1 (.selects x.1.1.cls x.1.1 x.1.1) && (gix e.2.2.2.2.2.2.2 (.initialized x.1.1.cls) && decide ((gnth gcl x.2.2.1.1).map (fun r => r.1) = some x.1.1.cls))))
      | 2 => gix e.2.2.2.2.1 (.methodLink (gnm e.1) e.2.1 x.1.1) && (gix e.2.2.2.2.2.1 (.instanceMethod x.1.1) && (gix e.2.2.2.2.2.2.2 (.initialized x.1.1.cls) && x.2.1.2))
      | 3 => gix e.2.2.2.2.2.1 (.instanceMethod x.1.1) && (gix e.2.2.2.2.2.2.2 (.initialized x.1.1.cls) && x.2.1.2)
      | _ => false)
  | none => false
set_option maxRecDepth 100000 in
theorem gML_all : gML.all gmlB = true := by decide +kernel
def gckB (q : Nat × Nat × Nat × Nat × Nat × Nat) : Bool := match gnth gcl q.2.2.1 with
  | some r => gix q.2.2.2.1 (.classLink (gnm q.1) q.2.1 r.1) && (gix q.2.2.2.2.1 (.instantiable r.1 r.2.2) && (gix q.2.2.2.2.2 (.initialized r.1) && (Nat.beq (gdf q.2.2.1).length r.2.2 && (List.range r.2.2).all (fun k => match parseFieldDescriptor (r.2.1 k).2.2.1, (gdf q.2.2.1).getD k none with
      | some .int, none => true
      | some .boolean, none => true
      | some (.object _), some none => true
      | some (.array _), some none => true
      | _, _ => false))))
  | none => false
theorem gCK_all : gCK.all gckB = true := by decide +kernel
def galB (q : Nat × Nat × Nat × Nat) : Bool := match gnth gcl (q.2.2.1 - 3) with
  | some r => gix q.2.2.2 (.classLink (gnm q.1) q.2.1 r.1) && (Nat.beq q.2.2.1 10 || Nat.beq q.2.2.1 12)
  | none => false
theorem gAL_all : gAL.all galB = true := by decide +kernel
theorem gCO_all : gCO.all (fun q => gix q.2.2.2 (.constant (gnm q.1) q.2.1 q.2.2.1)) = true := by decide +kernel
theorem gLO_all : gLO.all (fun q => gix q.2.2.2 (.constantLong (gnm q.1) q.2.1 q.2.2.1.toInt64)) = true := by decide +kernel
theorem gMA_all : gMA.all (fun q => match q.2.2.1 with
  | 3 => gix q.2.2.2 (.methodLink (gnm q.1) q.2.1 Lib.Math.max.name)
  | 4 => gix q.2.2.2 (.methodLink (gnm q.1) q.2.1 Lib.Math.min.name)
  | 5 => gix q.2.2.2 (.methodLink (gnm q.1) q.2.1 Lib.Math.abs.name)
  | _ => false) = true := by decide +kernel
theorem gSX_all : gSX.all (fun e => match e.2.2.1 with
  | 1 => gix e.2.2.2.1 (.methodLink (gnm e.1) e.2.1 yJ0_length_8abf5) && (gix e.2.2.2.2.1 (.instanceMethod yJ0_length_8abf5) && (gix e.2.2.2.2.2.1 (.selects "java/lang/String" yJ0_length_8abf5 yJ0_length_8abf5) && gix e.2.2.2.2.2.2 (.initialized "java/lang/String")))
  | 2 => gix e.2.2.2.1 (.methodLink (gnm e.1) e.2.1 yJ0_charAt_5068e) && (gix e.2.2.2.2.1 (.instanceMethod yJ0_charAt_5068e) && (gix e.2.2.2.2.2.1 (.selects "java/lang/String" yJ0_charAt_5068e yJ0_charAt_5068e) && gix e.2.2.2.2.2.2 (.initialized "java/lang/String")))
  | _ => false) = true := by decide +kernel
theorem gOI_all : gOI.all (fun q => gix q.2.2 (.methodLink (gnm q.1) q.2.1 objectInit)) = true := by decide +kernel
theorem gAC_all : gAC.all (fun q => gix q.2.2 (.methodLink (gnm q.1) q.2.1 arraycopyName)) = true := by decide +kernel
theorem gW_oi : Cond.instanceMethod objectInit ∈ gT := gix_mem (i := 97) (by decide +kernel)
theorem gW_oc : Cond.code objectInit ⟨#[0xb1]⟩ 1 none ∈ gT := gix_mem (i := 98) (by decide +kernel)
theorem gW_an : Cond.native arraycopyName ∈ gT := gix_mem (i := 976) (by decide +kernel)
theorem gW_as : Cond.static arraycopyName ∈ gT := gix_mem (i := 975) (by decide +kernel)
theorem gW_ai : Cond.initialized "java/lang/System" ∈ gT := gix_mem (i := 90) (by decide +kernel)
theorem gW_ci : Cond.arrayClass .int ∈ gT := gix_mem (i := 159) (by decide +kernel)
theorem gW_cz : Cond.arrayClass .boolean ∈ gT := gix_mem (i := 272) (by decide +kernel)
theorem gW_cj : Cond.arrayClass .long ∈ gT := gix_mem (i := 453) (by decide +kernel)
theorem gW_m3 : Cond.static Lib.Math.max.name ∈ gT ∧ Cond.code Lib.Math.max.name Lib.Math.max.code 2 (some .int) ∈ gT := ⟨gix_mem (i := 742) (by decide +kernel), gix_mem (i := 743) (by decide +kernel)⟩
theorem gW_m4 : Cond.static Lib.Math.min.name ∈ gT ∧ Cond.code Lib.Math.min.name Lib.Math.min.code 2 (some .int) ∈ gT := ⟨gix_mem (i := 604) (by decide +kernel), gix_mem (i := 605) (by decide +kernel)⟩
theorem gW_m5 : Cond.static Lib.Math.abs.name ∈ gT ∧ Cond.code Lib.Math.abs.name Lib.Math.abs.code 1 (some .int) ∈ gT := ⟨gix_mem (i := 780) (by decide +kernel), gix_mem (i := 781) (by decide +kernel)⟩
theorem gW_mi : Cond.initialized "java/lang/Math" ∈ gT := gix_mem (i := 85) (by decide +kernel)
