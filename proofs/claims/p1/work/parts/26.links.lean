/-! ### Links -/
theorem fr_Ln_9 : ag_fr gc_P "GrantChain$Line" 9 1 0 := ⟨_, _, _, "GrantChain$Line", rfl, by decide, Or.inl gw_42, Or.inl rfl⟩
theorem fl_Ln_9 : ag_fl gc_P "GrantChain$Line" 9 1 0 (.array .char) true := ⟨_, _, _, "GrantChain$Line", rfl, by decide, rfl, by decide +kernel, Or.inl gw_42, Or.inl rfl, fun _ => rfl⟩
theorem fr_Ln_15 : ag_fr gc_P "GrantChain$Line" 15 1 1 := ⟨_, _, _, "GrantChain$Line", rfl, by decide, Or.inl gw_43, Or.inl rfl⟩
theorem fl_Ln_15 : ag_fl gc_P "GrantChain$Line" 15 1 1 .int false := ⟨_, _, _, "GrantChain$Line", rfl, by decide, rfl, by decide +kernel, Or.inl gw_43, Or.inl rfl, fun h => by cases h⟩
theorem fr_GC_64 : ag_fr gc_P "GrantChain" 64 1 1 := ⟨_, _, _, "GrantChain$Line", rfl, by decide, Or.inl gw_44, Or.inl rfl⟩
theorem fl_GC_64 : ag_fl gc_P "GrantChain" 64 1 1 .int false := ⟨_, _, _, "GrantChain$Line", rfl, by decide, rfl, by decide +kernel, Or.inl gw_44, Or.inl rfl, fun h => by cases h⟩
theorem fr_Rd_15 : ag_fr gc_P "GrantChain$Reader" 15 1 2 := ⟨_, _, _, "GrantChain$Line", rfl, by decide, Or.inl gw_45, Or.inl rfl⟩
theorem fl_Rd_15 : ag_fl gc_P "GrantChain$Reader" 15 1 2 .int false := ⟨_, _, _, "GrantChain$Line", rfl, by decide, rfl, by decide +kernel, Or.inl gw_45, Or.inl rfl, fun h => by cases h⟩
theorem fr_Ln_19 : ag_fr gc_P "GrantChain$Line" 19 1 2 := ⟨_, _, _, "GrantChain$Line", rfl, by decide, Or.inl gw_46, Or.inl rfl⟩
theorem fl_Ln_19 : ag_fl gc_P "GrantChain$Line" 19 1 2 .int false := ⟨_, _, _, "GrantChain$Line", rfl, by decide, rfl, by decide +kernel, Or.inl gw_46, Or.inl rfl, fun h => by cases h⟩
theorem fr_Rd_9 : ag_fr gc_P "GrantChain$Reader" 9 2 0 := ⟨_, _, _, "GrantChain$Reader", rfl, by decide, Or.inl gw_61, Or.inl rfl⟩
theorem fl_Rd_9 : ag_fl gc_P "GrantChain$Reader" 9 2 0 (.array .int) true := ⟨_, _, _, "GrantChain$Reader", rfl, by decide, rfl, by decide +kernel, Or.inl gw_61, Or.inl rfl, fun _ => rfl⟩
theorem fr_Rd_21 : ag_fr gc_P "GrantChain$Reader" 21 2 1 := ⟨_, _, _, "GrantChain$Reader", rfl, by decide, Or.inl gw_62, Or.inl rfl⟩
theorem fl_Rd_21 : ag_fl gc_P "GrantChain$Reader" 21 2 1 .int false := ⟨_, _, _, "GrantChain$Reader", rfl, by decide, rfl, by decide +kernel, Or.inl gw_62, Or.inl rfl, fun h => by cases h⟩
theorem fr_Rd_24 : ag_fr gc_P "GrantChain$Reader" 24 2 2 := ⟨_, _, _, "GrantChain$Reader", rfl, by decide, Or.inl gw_63, Or.inl rfl⟩
theorem fl_Rd_24 : ag_fl gc_P "GrantChain$Reader" 24 2 2 .int false := ⟨_, _, _, "GrantChain$Reader", rfl, by decide, rfl, by decide +kernel, Or.inl gw_63, Or.inl rfl, fun h => by cases h⟩
theorem fr_Rd_27 : ag_fr gc_P "GrantChain$Reader" 27 2 3 := ⟨_, _, _, "GrantChain$Reader", rfl, by decide, Or.inl gw_64, Or.inl rfl⟩
theorem fl_Rd_27 : ag_fl gc_P "GrantChain$Reader" 27 2 3 .int false := ⟨_, _, _, "GrantChain$Reader", rfl, by decide, rfl, by decide +kernel, Or.inl gw_64, Or.inl rfl, fun h => by cases h⟩
theorem fr_Fa_13 : ag_fr gc_P "GrantChain$Facts" 13 4 0 := ⟨_, _, _, "GrantChain$Facts", rfl, by decide, Or.inl gw_89, Or.inl rfl⟩
theorem fl_Fa_13 : ag_fl gc_P "GrantChain$Facts" 13 4 0 (.array (.array .int)) true := ⟨_, _, _, "GrantChain$Facts", rfl, by decide, rfl, by decide +kernel, Or.inl gw_89, Or.inl rfl, fun _ => rfl⟩
theorem fr_Jg_142 : ag_fr gc_P "GrantChain$Judge" 142 4 0 := ⟨_, _, _, "GrantChain$Facts", rfl, by decide, Or.inl gw_90, Or.inl rfl⟩
theorem fr_GC_216 : ag_fr gc_P "GrantChain" 216 4 0 := ⟨_, _, _, "GrantChain$Facts", rfl, by decide, Or.inl gw_91, Or.inl rfl⟩
theorem fr_Fa_20 : ag_fr gc_P "GrantChain$Facts" 20 4 1 := ⟨_, _, _, "GrantChain$Facts", rfl, by decide, Or.inl gw_92, Or.inl rfl⟩
theorem fl_Fa_20 : ag_fl gc_P "GrantChain$Facts" 20 4 1 .int false := ⟨_, _, _, "GrantChain$Facts", rfl, by decide, rfl, by decide +kernel, Or.inl gw_92, Or.inl rfl, fun h => by cases h⟩
theorem fr_Jg_47 : ag_fr gc_P "GrantChain$Judge" 47 4 1 := ⟨_, _, _, "GrantChain$Facts", rfl, by decide, Or.inl gw_93, Or.inl rfl⟩
theorem fl_Jg_47 : ag_fl gc_P "GrantChain$Judge" 47 4 1 .int false := ⟨_, _, _, "GrantChain$Facts", rfl, by decide, rfl, by decide +kernel, Or.inl gw_93, Or.inl rfl, fun h => by cases h⟩
theorem fr_GC_206 : ag_fr gc_P "GrantChain" 206 4 1 := ⟨_, _, _, "GrantChain$Facts", rfl, by decide, Or.inl gw_94, Or.inl rfl⟩
theorem fl_GC_206 : ag_fl gc_P "GrantChain" 206 4 1 .int false := ⟨_, _, _, "GrantChain$Facts", rfl, by decide, rfl, by decide +kernel, Or.inl gw_94, Or.inl rfl, fun h => by cases h⟩
theorem fr_Fa_23 : ag_fr gc_P "GrantChain$Facts" 23 4 2 := ⟨_, _, _, "GrantChain$Facts", rfl, by decide, Or.inl gw_95, Or.inl rfl⟩
theorem fl_Fa_23 : ag_fl gc_P "GrantChain$Facts" 23 4 2 .boolean false := ⟨_, _, _, "GrantChain$Facts", rfl, by decide, rfl, by decide +kernel, Or.inl gw_95, Or.inl rfl, fun h => by cases h⟩
theorem fr_Jg_59 : ag_fr gc_P "GrantChain$Judge" 59 4 2 := ⟨_, _, _, "GrantChain$Facts", rfl, by decide, Or.inl gw_96, Or.inl rfl⟩
theorem fl_Jg_59 : ag_fl gc_P "GrantChain$Judge" 59 4 2 .boolean false := ⟨_, _, _, "GrantChain$Facts", rfl, by decide, rfl, by decide +kernel, Or.inl gw_96, Or.inl rfl, fun h => by cases h⟩
theorem fr_Fa_16 : ag_fr gc_P "GrantChain$Facts" 16 4 3 := ⟨_, _, _, "GrantChain$Facts", rfl, by decide, Or.inl gw_97, Or.inl rfl⟩
theorem fl_Fa_16 : ag_fl gc_P "GrantChain$Facts" 16 4 3 .int false := ⟨_, _, _, "GrantChain$Facts", rfl, by decide, rfl, by decide +kernel, Or.inl gw_97, Or.inl rfl, fun h => by cases h⟩
theorem fr_AL_9 : ag_fr gc_P "java/util/ArrayList" 9 11 0 := ⟨_, _, _, "java/util/ArrayList", rfl, by decide, Or.inl gw_127, Or.inl rfl⟩
theorem fl_AL_9 : ag_fl gc_P "java/util/ArrayList" 9 11 0 (.array (.object "java/lang/Object")) false := ⟨_, _, _, "java/util/ArrayList", rfl, by decide, rfl, by decide +kernel, Or.inl gw_127, Or.inl rfl, fun h => by cases h⟩
theorem fr_AL_48 : ag_fr gc_P "java/util/ArrayList" 48 11 1 := ⟨_, _, _, "java/util/ArrayList", rfl, by decide, Or.inl gw_128, Or.inl rfl⟩
theorem fl_AL_48 : ag_fl gc_P "java/util/ArrayList" 48 11 1 .int false := ⟨_, _, _, "java/util/ArrayList", rfl, by decide, rfl, by decide +kernel, Or.inl gw_128, Or.inl rfl, fun h => by cases h⟩
theorem fr_AbL_7 : ag_fr gc_P "java/util/AbstractList" 7 11 2 := ⟨_, _, _, "java/util/AbstractList", rfl, by decide, Or.inl gw_129, Or.inl rfl⟩
theorem fl_AbL_7 : ag_fl gc_P "java/util/AbstractList" 7 11 2 .int false := ⟨_, _, _, "java/util/AbstractList", rfl, by decide, rfl, by decide +kernel, Or.inl gw_129, Or.inl rfl, fun h => by cases h⟩
theorem fr_AL_63 : ag_fr gc_P "java/util/ArrayList" 63 11 2 := ⟨_, _, _, "java/util/ArrayList", rfl, by decide, Or.inl gw_130, Or.inr gw_131⟩
theorem fl_AL_63 : ag_fl gc_P "java/util/ArrayList" 63 11 2 .int false := ⟨_, _, _, "java/util/ArrayList", rfl, by decide, rfl, by decide +kernel, Or.inl gw_130, Or.inr gw_131, fun h => by cases h⟩
theorem fr_Bk_10 : ag_fr gc_P "GrantChain$Block" 10 5 0 := ⟨_, _, _, "GrantChain$Block", rfl, by decide, Or.inl gw_139, Or.inl rfl⟩
theorem fl_Bk_10 : ag_fl gc_P "GrantChain$Block" 10 5 0 (.object "java/util/List") true := ⟨_, _, _, "GrantChain$Block", rfl, by decide, rfl, by decide +kernel, Or.inl gw_139, Or.inl rfl, fun _ => rfl⟩
theorem fr_GC_82 : ag_fr gc_P "GrantChain" 82 5 0 := ⟨_, _, _, "GrantChain$Block", rfl, by decide, Or.inl gw_140, Or.inl rfl⟩
theorem fr_Jg_80 : ag_fr gc_P "GrantChain$Judge" 80 5 0 := ⟨_, _, _, "GrantChain$Block", rfl, by decide, Or.inl gw_141, Or.inl rfl⟩
theorem fr_Jg_14 : ag_fr gc_P "GrantChain$Judge" 14 3 0 := ⟨_, _, _, "GrantChain$Judge", rfl, by decide, Or.inl gw_146, Or.inl rfl⟩
theorem fl_Jg_14 : ag_fl gc_P "GrantChain$Judge" 14 3 0 (.object "GrantChain$Facts") true := ⟨_, _, _, "GrantChain$Judge", rfl, by decide, rfl, by decide +kernel, Or.inl gw_146, Or.inl rfl, fun _ => rfl⟩
theorem fr_GC_202 : ag_fr gc_P "GrantChain" 202 3 0 := ⟨_, _, _, "GrantChain$Judge", rfl, by decide, Or.inl gw_147, Or.inl rfl⟩
theorem fr_Jg_21 : ag_fr gc_P "GrantChain$Judge" 21 3 1 := ⟨_, _, _, "GrantChain$Judge", rfl, by decide, Or.inl gw_148, Or.inl rfl⟩
theorem fl_Jg_21 : ag_fl gc_P "GrantChain$Judge" 21 3 1 (.object "GrantChain$Block") true := ⟨_, _, _, "GrantChain$Judge", rfl, by decide, rfl, by decide +kernel, Or.inl gw_148, Or.inl rfl, fun _ => rfl⟩
theorem fr_GC_235 : ag_fr gc_P "GrantChain" 235 3 1 := ⟨_, _, _, "GrantChain$Judge", rfl, by decide, Or.inl gw_149, Or.inl rfl⟩
theorem fr_Jg_25 : ag_fr gc_P "GrantChain$Judge" 25 3 2 := ⟨_, _, _, "GrantChain$Judge", rfl, by decide, Or.inl gw_150, Or.inl rfl⟩
theorem fl_Jg_25 : ag_fl gc_P "GrantChain$Judge" 25 3 2 (.array (.object "GrantChain$Block")) true := ⟨_, _, _, "GrantChain$Judge", rfl, by decide, rfl, by decide +kernel, Or.inl gw_150, Or.inl rfl, fun _ => rfl⟩
theorem fr_GC_231 : ag_fr gc_P "GrantChain" 231 3 2 := ⟨_, _, _, "GrantChain$Judge", rfl, by decide, Or.inl gw_151, Or.inl rfl⟩
theorem fr_Jg_53 : ag_fr gc_P "GrantChain$Judge" 53 3 3 := ⟨_, _, _, "GrantChain$Judge", rfl, by decide, Or.inl gw_152, Or.inl rfl⟩
theorem fl_Jg_53 : ag_fl gc_P "GrantChain$Judge" 53 3 3 .int false := ⟨_, _, _, "GrantChain$Judge", rfl, by decide, rfl, by decide +kernel, Or.inl gw_152, Or.inl rfl, fun h => by cases h⟩
theorem fr_GC_199 : ag_fr gc_P "GrantChain" 199 3 3 := ⟨_, _, _, "GrantChain$Judge", rfl, by decide, Or.inl gw_153, Or.inl rfl⟩
theorem fl_GC_199 : ag_fl gc_P "GrantChain" 199 3 3 .int false := ⟨_, _, _, "GrantChain$Judge", rfl, by decide, rfl, by decide +kernel, Or.inl gw_153, Or.inl rfl, fun h => by cases h⟩
theorem fr_Jg_40 : ag_fr gc_P "GrantChain$Judge" 40 3 4 := ⟨_, _, _, "GrantChain$Judge", rfl, by decide, Or.inl gw_154, Or.inl rfl⟩
theorem fl_Jg_40 : ag_fl gc_P "GrantChain$Judge" 40 3 4 .int false := ⟨_, _, _, "GrantChain$Judge", rfl, by decide, rfl, by decide +kernel, Or.inl gw_154, Or.inl rfl, fun h => by cases h⟩
theorem fr_GC_210 : ag_fr gc_P "GrantChain" 210 3 4 := ⟨_, _, _, "GrantChain$Judge", rfl, by decide, Or.inl gw_155, Or.inl rfl⟩
theorem fl_GC_210 : ag_fl gc_P "GrantChain" 210 3 4 .int false := ⟨_, _, _, "GrantChain$Judge", rfl, by decide, rfl, by decide +kernel, Or.inl gw_155, Or.inl rfl, fun h => by cases h⟩
theorem fr_Jg_44 : ag_fr gc_P "GrantChain$Judge" 44 3 5 := ⟨_, _, _, "GrantChain$Judge", rfl, by decide, Or.inl gw_156, Or.inl rfl⟩
theorem fl_Jg_44 : ag_fl gc_P "GrantChain$Judge" 44 3 5 .int false := ⟨_, _, _, "GrantChain$Judge", rfl, by decide, rfl, by decide +kernel, Or.inl gw_156, Or.inl rfl, fun h => by cases h⟩
theorem fr_GC_213 : ag_fr gc_P "GrantChain" 213 3 5 := ⟨_, _, _, "GrantChain$Judge", rfl, by decide, Or.inl gw_157, Or.inl rfl⟩
theorem fl_GC_213 : ag_fl gc_P "GrantChain" 213 3 5 .int false := ⟨_, _, _, "GrantChain$Judge", rfl, by decide, rfl, by decide +kernel, Or.inl gw_157, Or.inl rfl, fun h => by cases h⟩
theorem fr_Jg_29 : ag_fr gc_P "GrantChain$Judge" 29 3 6 := ⟨_, _, _, "GrantChain$Judge", rfl, by decide, Or.inl gw_158, Or.inl rfl⟩
theorem fl_Jg_29 : ag_fl gc_P "GrantChain$Judge" 29 3 6 (.array .int) true := ⟨_, _, _, "GrantChain$Judge", rfl, by decide, rfl, by decide +kernel, Or.inl gw_158, Or.inl rfl, fun _ => rfl⟩
theorem fr_Jg_33 : ag_fr gc_P "GrantChain$Judge" 33 3 7 := ⟨_, _, _, "GrantChain$Judge", rfl, by decide, Or.inl gw_159, Or.inl rfl⟩
theorem fl_Jg_33 : ag_fl gc_P "GrantChain$Judge" 33 3 7 (.array .int) true := ⟨_, _, _, "GrantChain$Judge", rfl, by decide, rfl, by decide +kernel, Or.inl gw_159, Or.inl rfl, fun _ => rfl⟩
theorem fr_Jg_66 : ag_fr gc_P "GrantChain$Judge" 66 3 8 := ⟨_, _, _, "GrantChain$Judge", rfl, by decide, Or.inl gw_160, Or.inl rfl⟩
theorem fl_Jg_66 : ag_fl gc_P "GrantChain$Judge" 66 3 8 .int false := ⟨_, _, _, "GrantChain$Judge", rfl, by decide, rfl, by decide +kernel, Or.inl gw_160, Or.inl rfl, fun h => by cases h⟩
theorem fr_Jg_69 : ag_fr gc_P "GrantChain$Judge" 69 3 9 := ⟨_, _, _, "GrantChain$Judge", rfl, by decide, Or.inl gw_161, Or.inl rfl⟩
theorem fl_Jg_69 : ag_fl gc_P "GrantChain$Judge" 69 3 9 .boolean false := ⟨_, _, _, "GrantChain$Judge", rfl, by decide, rfl, by decide +kernel, Or.inl gw_161, Or.inl rfl, fun h => by cases h⟩
theorem fr_Jg_129 : ag_fr gc_P "GrantChain$Judge" 129 3 10 := ⟨_, _, _, "GrantChain$Judge", rfl, by decide, Or.inl gw_162, Or.inl rfl⟩
theorem fl_Jg_129 : ag_fl gc_P "GrantChain$Judge" 129 3 10 .int false := ⟨_, _, _, "GrantChain$Judge", rfl, by decide, rfl, by decide +kernel, Or.inl gw_162, Or.inl rfl, fun h => by cases h⟩
theorem fr_Jg_120 : ag_fr gc_P "GrantChain$Judge" 120 3 11 := ⟨_, _, _, "GrantChain$Judge", rfl, by decide, Or.inl gw_163, Or.inl rfl⟩
theorem fl_Jg_120 : ag_fl gc_P "GrantChain$Judge" 120 3 11 .boolean false := ⟨_, _, _, "GrantChain$Judge", rfl, by decide, rfl, by decide +kernel, Or.inl gw_163, Or.inl rfl, fun h => by cases h⟩
theorem fr_Jg_123 : ag_fr gc_P "GrantChain$Judge" 123 3 12 := ⟨_, _, _, "GrantChain$Judge", rfl, by decide, Or.inl gw_164, Or.inl rfl⟩
theorem fl_Jg_123 : ag_fl gc_P "GrantChain$Judge" 123 3 12 .boolean false := ⟨_, _, _, "GrantChain$Judge", rfl, by decide, rfl, by decide +kernel, Or.inl gw_164, Or.inl rfl, fun h => by cases h⟩
theorem fr_Jg_117 : ag_fr gc_P "GrantChain$Judge" 117 3 13 := ⟨_, _, _, "GrantChain$Judge", rfl, by decide, Or.inl gw_165, Or.inl rfl⟩
theorem fl_Jg_117 : ag_fl gc_P "GrantChain$Judge" 117 3 13 .boolean false := ⟨_, _, _, "GrantChain$Judge", rfl, by decide, rfl, by decide +kernel, Or.inl gw_165, Or.inl rfl, fun h => by cases h⟩
theorem fr_GC_10 : ag_fr gc_P "GrantChain" 10 0 0 := ⟨_, _, _, "GrantChain", rfl, by decide, Or.inl gw_199, Or.inl rfl⟩
theorem fl_GC_10 : ag_fl gc_P "GrantChain" 10 0 0 (.object "GrantChain$Line") true := ⟨_, _, _, "GrantChain", rfl, by decide, rfl, by decide +kernel, Or.inl gw_199, Or.inl rfl, fun _ => rfl⟩
theorem fr_GC_19 : ag_fr gc_P "GrantChain" 19 0 1 := ⟨_, _, _, "GrantChain", rfl, by decide, Or.inl gw_200, Or.inl rfl⟩
theorem fl_GC_19 : ag_fl gc_P "GrantChain" 19 0 1 (.object "GrantChain$Reader") true := ⟨_, _, _, "GrantChain", rfl, by decide, rfl, by decide +kernel, Or.inl gw_200, Or.inl rfl, fun _ => rfl⟩
theorem fr_GC_26 : ag_fr gc_P "GrantChain" 26 0 2 := ⟨_, _, _, "GrantChain", rfl, by decide, Or.inl gw_201, Or.inl rfl⟩
theorem fl_GC_26 : ag_fl gc_P "GrantChain" 26 0 2 (.object "GrantChain$Judge") true := ⟨_, _, _, "GrantChain", rfl, by decide, rfl, by decide +kernel, Or.inl gw_201, Or.inl rfl, fun _ => rfl⟩
theorem fr_GC_33 : ag_fr gc_P "GrantChain" 33 0 3 := ⟨_, _, _, "GrantChain", rfl, by decide, Or.inl gw_202, Or.inl rfl⟩
theorem fl_GC_33 : ag_fl gc_P "GrantChain" 33 0 3 (.object "GrantChain$Block") true := ⟨_, _, _, "GrantChain", rfl, by decide, rfl, by decide +kernel, Or.inl gw_202, Or.inl rfl, fun _ => rfl⟩
theorem fr_GC_40 : ag_fr gc_P "GrantChain" 40 0 4 := ⟨_, _, _, "GrantChain", rfl, by decide, Or.inl gw_203, Or.inl rfl⟩
theorem fl_GC_40 : ag_fl gc_P "GrantChain" 40 0 4 (.object "java/util/List") true := ⟨_, _, _, "GrantChain", rfl, by decide, rfl, by decide +kernel, Or.inl gw_203, Or.inl rfl, fun _ => rfl⟩
theorem fr_GC_44 : ag_fr gc_P "GrantChain" 44 0 5 := ⟨_, _, _, "GrantChain", rfl, by decide, Or.inl gw_204, Or.inl rfl⟩
theorem fl_GC_44 : ag_fl gc_P "GrantChain" 44 0 5 (.object "java/util/List") true := ⟨_, _, _, "GrantChain", rfl, by decide, rfl, by decide +kernel, Or.inl gw_204, Or.inl rfl, fun _ => rfl⟩
theorem fr_GC_47 : ag_fr gc_P "GrantChain" 47 0 6 := ⟨_, _, _, "GrantChain", rfl, by decide, Or.inl gw_205, Or.inl rfl⟩
theorem fl_GC_47 : ag_fl gc_P "GrantChain" 47 0 6 (.object "GrantChain$Block") false := ⟨_, _, _, "GrantChain", rfl, by decide, rfl, by decide +kernel, Or.inl gw_205, Or.inl rfl, fun h => by cases h⟩
theorem fr_GC_50 : ag_fr gc_P "GrantChain" 50 0 7 := ⟨_, _, _, "GrantChain", rfl, by decide, Or.inl gw_206, Or.inl rfl⟩
theorem fl_GC_50 : ag_fl gc_P "GrantChain" 50 0 7 .int false := ⟨_, _, _, "GrantChain", rfl, by decide, rfl, by decide +kernel, Or.inl gw_206, Or.inl rfl, fun h => by cases h⟩
theorem fr_GC_54 : ag_fr gc_P "GrantChain" 54 0 8 := ⟨_, _, _, "GrantChain", rfl, by decide, Or.inl gw_207, Or.inl rfl⟩
theorem fl_GC_54 : ag_fl gc_P "GrantChain" 54 0 8 .int false := ⟨_, _, _, "GrantChain", rfl, by decide, rfl, by decide +kernel, Or.inl gw_207, Or.inl rfl, fun h => by cases h⟩
theorem fr_GC_57 : ag_fr gc_P "GrantChain" 57 0 9 := ⟨_, _, _, "GrantChain", rfl, by decide, Or.inl gw_208, Or.inl rfl⟩
theorem fl_GC_57 : ag_fl gc_P "GrantChain" 57 0 9 .int false := ⟨_, _, _, "GrantChain", rfl, by decide, rfl, by decide +kernel, Or.inl gw_208, Or.inl rfl, fun h => by cases h⟩
theorem fr_At_9 : ag_fr gc_P "GrantChain$Atom" 9 6 0 := ⟨_, _, _, "GrantChain$Atom", rfl, by decide, Or.inl gw_315, Or.inl rfl⟩
theorem fl_At_9 : ag_fl gc_P "GrantChain$Atom" 9 6 0 .int true := ⟨_, _, _, "GrantChain$Atom", rfl, by decide, rfl, by decide +kernel, Or.inl gw_315, Or.inl rfl, fun _ => rfl⟩
theorem fr_Fa_27 : ag_fr gc_P "GrantChain$Facts" 27 6 0 := ⟨_, _, _, "GrantChain$Atom", rfl, by decide, Or.inl gw_316, Or.inl rfl⟩
theorem fr_Jg_161 : ag_fr gc_P "GrantChain$Judge" 161 6 0 := ⟨_, _, _, "GrantChain$Atom", rfl, by decide, Or.inl gw_317, Or.inl rfl⟩
theorem fr_At_15 : ag_fr gc_P "GrantChain$Atom" 15 6 1 := ⟨_, _, _, "GrantChain$Atom", rfl, by decide, Or.inl gw_318, Or.inl rfl⟩
theorem fl_At_15 : ag_fl gc_P "GrantChain$Atom" 15 6 1 .int true := ⟨_, _, _, "GrantChain$Atom", rfl, by decide, rfl, by decide +kernel, Or.inl gw_318, Or.inl rfl, fun _ => rfl⟩
theorem fr_Fa_32 : ag_fr gc_P "GrantChain$Facts" 32 6 1 := ⟨_, _, _, "GrantChain$Atom", rfl, by decide, Or.inl gw_319, Or.inl rfl⟩
theorem fr_Jg_164 : ag_fr gc_P "GrantChain$Judge" 164 6 1 := ⟨_, _, _, "GrantChain$Atom", rfl, by decide, Or.inl gw_320, Or.inl rfl⟩
theorem fr_At_18 : ag_fr gc_P "GrantChain$Atom" 18 6 2 := ⟨_, _, _, "GrantChain$Atom", rfl, by decide, Or.inl gw_321, Or.inl rfl⟩
theorem fl_At_18 : ag_fl gc_P "GrantChain$Atom" 18 6 2 .int true := ⟨_, _, _, "GrantChain$Atom", rfl, by decide, rfl, by decide +kernel, Or.inl gw_321, Or.inl rfl, fun _ => rfl⟩
theorem fr_Jg_101 : ag_fr gc_P "GrantChain$Judge" 101 6 2 := ⟨_, _, _, "GrantChain$Atom", rfl, by decide, Or.inl gw_322, Or.inl rfl⟩
theorem fr_At_21 : ag_fr gc_P "GrantChain$Atom" 21 6 3 := ⟨_, _, _, "GrantChain$Atom", rfl, by decide, Or.inl gw_323, Or.inl rfl⟩
theorem fl_At_21 : ag_fl gc_P "GrantChain$Atom" 21 6 3 .int true := ⟨_, _, _, "GrantChain$Atom", rfl, by decide, rfl, by decide +kernel, Or.inl gw_323, Or.inl rfl, fun _ => rfl⟩
theorem fr_Jg_106 : ag_fr gc_P "GrantChain$Judge" 106 6 3 := ⟨_, _, _, "GrantChain$Atom", rfl, by decide, Or.inl gw_324, Or.inl rfl⟩
theorem fr_Cl_7 : ag_fr gc_P "GrantChain$Clause" 7 7 0 := ⟨_, _, _, "GrantChain$Clause", rfl, by decide, Or.inl gw_471, Or.inl rfl⟩
theorem fl_Cl_7 : ag_fl gc_P "GrantChain$Clause" 7 7 0 .int true := ⟨_, _, _, "GrantChain$Clause", rfl, by decide, rfl, by decide +kernel, Or.inl gw_471, Or.inl rfl, fun _ => rfl⟩
theorem fr_GC_74 : ag_fr gc_P "GrantChain" 74 7 0 := ⟨_, _, _, "GrantChain$Clause", rfl, by decide, Or.inl gw_472, Or.inl rfl⟩
theorem fr_Jg_94 : ag_fr gc_P "GrantChain$Judge" 94 7 0 := ⟨_, _, _, "GrantChain$Clause", rfl, by decide, Or.inl gw_473, Or.inl rfl⟩
theorem fr_Cl_13 : ag_fr gc_P "GrantChain$Clause" 13 7 1 := ⟨_, _, _, "GrantChain$Clause", rfl, by decide, Or.inl gw_474, Or.inl rfl⟩
theorem fl_Cl_13 : ag_fl gc_P "GrantChain$Clause" 13 7 1 .boolean true := ⟨_, _, _, "GrantChain$Clause", rfl, by decide, rfl, by decide +kernel, Or.inl gw_474, Or.inl rfl, fun _ => rfl⟩
theorem fr_Jg_126 : ag_fr gc_P "GrantChain$Judge" 126 7 1 := ⟨_, _, _, "GrantChain$Clause", rfl, by decide, Or.inl gw_475, Or.inl rfl⟩
theorem fr_Cl_17 : ag_fr gc_P "GrantChain$Clause" 17 7 2 := ⟨_, _, _, "GrantChain$Clause", rfl, by decide, Or.inl gw_476, Or.inl rfl⟩
theorem fl_Cl_17 : ag_fl gc_P "GrantChain$Clause" 17 7 2 (.object "GrantChain$Atom") true := ⟨_, _, _, "GrantChain$Clause", rfl, by decide, rfl, by decide +kernel, Or.inl gw_476, Or.inl rfl, fun _ => rfl⟩
theorem fr_Jg_97 : ag_fr gc_P "GrantChain$Judge" 97 7 2 := ⟨_, _, _, "GrantChain$Clause", rfl, by decide, Or.inl gw_477, Or.inl rfl⟩
theorem fr_Cl_21 : ag_fr gc_P "GrantChain$Clause" 21 7 3 := ⟨_, _, _, "GrantChain$Clause", rfl, by decide, Or.inl gw_478, Or.inl rfl⟩
theorem fl_Cl_21 : ag_fl gc_P "GrantChain$Clause" 21 7 3 (.object "java/util/List") true := ⟨_, _, _, "GrantChain$Clause", rfl, by decide, rfl, by decide +kernel, Or.inl gw_478, Or.inl rfl, fun _ => rfl⟩
theorem fr_Jg_136 : ag_fr gc_P "GrantChain$Judge" 136 7 3 := ⟨_, _, _, "GrantChain$Clause", rfl, by decide, Or.inl gw_479, Or.inl rfl⟩
theorem fr_Cl_25 : ag_fr gc_P "GrantChain$Clause" 25 7 4 := ⟨_, _, _, "GrantChain$Clause", rfl, by decide, Or.inl gw_480, Or.inl rfl⟩
theorem fl_Cl_25 : ag_fl gc_P "GrantChain$Clause" 25 7 4 (.array .int) true := ⟨_, _, _, "GrantChain$Clause", rfl, by decide, rfl, by decide +kernel, Or.inl gw_480, Or.inl rfl, fun _ => rfl⟩
theorem fr_Jg_150 : ag_fr gc_P "GrantChain$Judge" 150 7 4 := ⟨_, _, _, "GrantChain$Clause", rfl, by decide, Or.inl gw_481, Or.inl rfl⟩
theorem fr_Tk_10 : ag_fr gc_P "GrantChain$Token" 10 8 0 := ⟨_, _, _, "GrantChain$Token", rfl, by decide, Or.inl gw_618, Or.inl rfl⟩
theorem fl_Tk_10 : ag_fl gc_P "GrantChain$Token" 10 8 0 (.object "java/util/List") true := ⟨_, _, _, "GrantChain$Token", rfl, by decide, rfl, by decide +kernel, Or.inl gw_618, Or.inl rfl, fun _ => rfl⟩
theorem fr_GC_126 : ag_fr gc_P "GrantChain" 126 8 0 := ⟨_, _, _, "GrantChain$Token", rfl, by decide, Or.inl gw_619, Or.inl rfl⟩
theorem fr_Tk_33 : ag_fr gc_P "GrantChain$Token" 33 8 1 := ⟨_, _, _, "GrantChain$Token", rfl, by decide, Or.inl gw_620, Or.inl rfl⟩
theorem fl_Tk_33 : ag_fl gc_P "GrantChain$Token" 33 8 1 .boolean false := ⟨_, _, _, "GrantChain$Token", rfl, by decide, rfl, by decide +kernel, Or.inl gw_620, Or.inl rfl, fun h => by cases h⟩
theorem fr_GC_122 : ag_fr gc_P "GrantChain" 122 8 1 := ⟨_, _, _, "GrantChain$Token", rfl, by decide, Or.inl gw_621, Or.inl rfl⟩
theorem fl_GC_122 : ag_fl gc_P "GrantChain" 122 8 1 .boolean false := ⟨_, _, _, "GrantChain$Token", rfl, by decide, rfl, by decide +kernel, Or.inl gw_621, Or.inl rfl, fun h => by cases h⟩
theorem fr_Tk_37 : ag_fr gc_P "GrantChain$Token" 37 8 2 := ⟨_, _, _, "GrantChain$Token", rfl, by decide, Or.inl gw_622, Or.inl rfl⟩
theorem fl_Tk_37 : ag_fl gc_P "GrantChain$Token" 37 8 2 .int false := ⟨_, _, _, "GrantChain$Token", rfl, by decide, rfl, by decide +kernel, Or.inl gw_622, Or.inl rfl, fun h => by cases h⟩
theorem fr_GC_133 : ag_fr gc_P "GrantChain" 133 8 2 := ⟨_, _, _, "GrantChain$Token", rfl, by decide, Or.inl gw_623, Or.inl rfl⟩
theorem fl_GC_133 : ag_fl gc_P "GrantChain" 133 8 2 .int false := ⟨_, _, _, "GrantChain$Token", rfl, by decide, rfl, by decide +kernel, Or.inl gw_623, Or.inl rfl, fun h => by cases h⟩
theorem fr_Tk_41 : ag_fr gc_P "GrantChain$Token" 41 8 3 := ⟨_, _, _, "GrantChain$Token", rfl, by decide, Or.inl gw_624, Or.inl rfl⟩
theorem fl_Tk_41 : ag_fl gc_P "GrantChain$Token" 41 8 3 .int false := ⟨_, _, _, "GrantChain$Token", rfl, by decide, rfl, by decide +kernel, Or.inl gw_624, Or.inl rfl, fun h => by cases h⟩
theorem fr_GC_136 : ag_fr gc_P "GrantChain" 136 8 3 := ⟨_, _, _, "GrantChain$Token", rfl, by decide, Or.inl gw_625, Or.inl rfl⟩
theorem fl_GC_136 : ag_fl gc_P "GrantChain" 136 8 3 .int false := ⟨_, _, _, "GrantChain$Token", rfl, by decide, rfl, by decide +kernel, Or.inl gw_625, Or.inl rfl, fun h => by cases h⟩
theorem fr_Lk_7 : ag_fr gc_P "GrantChain$Link" 7 9 0 := ⟨_, _, _, "GrantChain$Link", rfl, by decide, Or.inl gw_649, Or.inl rfl⟩
theorem fl_Lk_7 : ag_fl gc_P "GrantChain$Link" 7 9 0 .int true := ⟨_, _, _, "GrantChain$Link", rfl, by decide, rfl, by decide +kernel, Or.inl gw_649, Or.inl rfl, fun _ => rfl⟩
theorem fr_Tk_63 : ag_fr gc_P "GrantChain$Token" 63 9 0 := ⟨_, _, _, "GrantChain$Link", rfl, by decide, Or.inl gw_650, Or.inl rfl⟩
theorem fr_GC_167 : ag_fr gc_P "GrantChain" 167 9 0 := ⟨_, _, _, "GrantChain$Link", rfl, by decide, Or.inl gw_651, Or.inl rfl⟩
theorem fr_Lk_13 : ag_fr gc_P "GrantChain$Link" 13 9 1 := ⟨_, _, _, "GrantChain$Link", rfl, by decide, Or.inl gw_652, Or.inl rfl⟩
theorem fl_Lk_13 : ag_fl gc_P "GrantChain$Link" 13 9 1 .int true := ⟨_, _, _, "GrantChain$Link", rfl, by decide, rfl, by decide +kernel, Or.inl gw_652, Or.inl rfl, fun _ => rfl⟩
theorem fr_Tk_66 : ag_fr gc_P "GrantChain$Token" 66 9 1 := ⟨_, _, _, "GrantChain$Link", rfl, by decide, Or.inl gw_653, Or.inl rfl⟩
theorem fr_GC_160 : ag_fr gc_P "GrantChain" 160 9 1 := ⟨_, _, _, "GrantChain$Link", rfl, by decide, Or.inl gw_654, Or.inl rfl⟩
theorem fr_Lk_16 : ag_fr gc_P "GrantChain$Link" 16 9 2 := ⟨_, _, _, "GrantChain$Link", rfl, by decide, Or.inl gw_655, Or.inl rfl⟩
theorem fl_Lk_16 : ag_fl gc_P "GrantChain$Link" 16 9 2 .int true := ⟨_, _, _, "GrantChain$Link", rfl, by decide, rfl, by decide +kernel, Or.inl gw_655, Or.inl rfl, fun _ => rfl⟩
theorem fr_Tk_47 : ag_fr gc_P "GrantChain$Token" 47 9 2 := ⟨_, _, _, "GrantChain$Link", rfl, by decide, Or.inl gw_656, Or.inl rfl⟩
theorem fr_Lk_19 : ag_fr gc_P "GrantChain$Link" 19 9 3 := ⟨_, _, _, "GrantChain$Link", rfl, by decide, Or.inl gw_657, Or.inl rfl⟩
theorem fl_Lk_19 : ag_fl gc_P "GrantChain$Link" 19 9 3 .int true := ⟨_, _, _, "GrantChain$Link", rfl, by decide, rfl, by decide +kernel, Or.inl gw_657, Or.inl rfl, fun _ => rfl⟩
theorem fr_Tk_50 : ag_fr gc_P "GrantChain$Token" 50 9 3 := ⟨_, _, _, "GrantChain$Link", rfl, by decide, Or.inl gw_658, Or.inl rfl⟩
theorem fr_Lk_22 : ag_fr gc_P "GrantChain$Link" 22 9 4 := ⟨_, _, _, "GrantChain$Link", rfl, by decide, Or.inl gw_659, Or.inl rfl⟩
theorem fl_Lk_22 : ag_fl gc_P "GrantChain$Link" 22 9 4 .int true := ⟨_, _, _, "GrantChain$Link", rfl, by decide, rfl, by decide +kernel, Or.inl gw_659, Or.inl rfl, fun _ => rfl⟩
theorem fr_Tk_53 : ag_fr gc_P "GrantChain$Token" 53 9 4 := ⟨_, _, _, "GrantChain$Link", rfl, by decide, Or.inl gw_660, Or.inl rfl⟩
theorem fr_Md_84 : ag_fr gc_P "GrantChainModel" 84 10 0 := ⟨_, _, _, "GrantChainModel", rfl, by decide, Or.inl gw_941, Or.inl rfl⟩
theorem fl_Md_84 : ag_fl gc_P "GrantChainModel" 84 10 0 .int false := ⟨_, _, _, "GrantChainModel", rfl, by decide, rfl, by decide +kernel, Or.inl gw_941, Or.inl rfl, fun h => by cases h⟩
theorem fr_Md_7 : ag_fr gc_P "GrantChainModel" 7 10 1 := ⟨_, _, _, "GrantChainModel", rfl, by decide, Or.inl gw_942, Or.inl rfl⟩
theorem fl_Md_7 : ag_fl gc_P "GrantChainModel" 7 10 1 (.array .int) true := ⟨_, _, _, "GrantChainModel", rfl, by decide, rfl, by decide +kernel, Or.inl gw_942, Or.inl rfl, fun _ => rfl⟩
theorem fr_Md_13 : ag_fr gc_P "GrantChainModel" 13 10 2 := ⟨_, _, _, "GrantChainModel", rfl, by decide, Or.inl gw_943, Or.inl rfl⟩
theorem fl_Md_13 : ag_fl gc_P "GrantChainModel" 13 10 2 (.array .int) true := ⟨_, _, _, "GrantChainModel", rfl, by decide, rfl, by decide +kernel, Or.inl gw_943, Or.inl rfl, fun _ => rfl⟩
theorem fr_Md_16 : ag_fr gc_P "GrantChainModel" 16 10 3 := ⟨_, _, _, "GrantChainModel", rfl, by decide, Or.inl gw_944, Or.inl rfl⟩
theorem fl_Md_16 : ag_fl gc_P "GrantChainModel" 16 10 3 (.array .int) true := ⟨_, _, _, "GrantChainModel", rfl, by decide, rfl, by decide +kernel, Or.inl gw_944, Or.inl rfl, fun _ => rfl⟩
theorem fr_Md_172 : ag_fr gc_P "GrantChainModel" 172 10 4 := ⟨_, _, _, "GrantChainModel", rfl, by decide, Or.inl gw_945, Or.inl rfl⟩
theorem fl_Md_172 : ag_fl gc_P "GrantChainModel" 172 10 4 .int false := ⟨_, _, _, "GrantChainModel", rfl, by decide, rfl, by decide +kernel, Or.inl gw_945, Or.inl rfl, fun h => by cases h⟩
theorem fr_Md_175 : ag_fr gc_P "GrantChainModel" 175 10 5 := ⟨_, _, _, "GrantChainModel", rfl, by decide, Or.inl gw_946, Or.inl rfl⟩
theorem fl_Md_175 : ag_fl gc_P "GrantChainModel" 175 10 5 .int false := ⟨_, _, _, "GrantChainModel", rfl, by decide, rfl, by decide +kernel, Or.inl gw_946, Or.inl rfl, fun h => by cases h⟩
theorem fr_Md_19 : ag_fr gc_P "GrantChainModel" 19 10 6 := ⟨_, _, _, "GrantChainModel", rfl, by decide, Or.inl gw_947, Or.inl rfl⟩
theorem fl_Md_19 : ag_fl gc_P "GrantChainModel" 19 10 6 .int false := ⟨_, _, _, "GrantChainModel", rfl, by decide, rfl, by decide +kernel, Or.inl gw_947, Or.inl rfl, fun h => by cases h⟩
theorem fr_Md_23 : ag_fr gc_P "GrantChainModel" 23 10 7 := ⟨_, _, _, "GrantChainModel", rfl, by decide, Or.inl gw_948, Or.inl rfl⟩
theorem fl_Md_23 : ag_fl gc_P "GrantChainModel" 23 10 7 .int false := ⟨_, _, _, "GrantChainModel", rfl, by decide, rfl, by decide +kernel, Or.inl gw_948, Or.inl rfl, fun h => by cases h⟩
theorem fr_Md_26 : ag_fr gc_P "GrantChainModel" 26 10 8 := ⟨_, _, _, "GrantChainModel", rfl, by decide, Or.inl gw_949, Or.inl rfl⟩
theorem fl_Md_26 : ag_fl gc_P "GrantChainModel" 26 10 8 .int false := ⟨_, _, _, "GrantChainModel", rfl, by decide, rfl, by decide +kernel, Or.inl gw_949, Or.inl rfl, fun h => by cases h⟩
theorem fr_Md_178 : ag_fr gc_P "GrantChainModel" 178 10 9 := ⟨_, _, _, "GrantChainModel", rfl, by decide, Or.inl gw_950, Or.inl rfl⟩
theorem fl_Md_178 : ag_fl gc_P "GrantChainModel" 178 10 9 .int false := ⟨_, _, _, "GrantChainModel", rfl, by decide, rfl, by decide +kernel, Or.inl gw_950, Or.inl rfl, fun h => by cases h⟩
theorem fr_Md_29 : ag_fr gc_P "GrantChainModel" 29 10 10 := ⟨_, _, _, "GrantChainModel", rfl, by decide, Or.inl gw_951, Or.inl rfl⟩
theorem fl_Md_29 : ag_fl gc_P "GrantChainModel" 29 10 10 (.array .int) true := ⟨_, _, _, "GrantChainModel", rfl, by decide, rfl, by decide +kernel, Or.inl gw_951, Or.inl rfl, fun _ => rfl⟩
theorem fr_Md_32 : ag_fr gc_P "GrantChainModel" 32 10 11 := ⟨_, _, _, "GrantChainModel", rfl, by decide, Or.inl gw_952, Or.inl rfl⟩
theorem fl_Md_32 : ag_fl gc_P "GrantChainModel" 32 10 11 (.array .int) true := ⟨_, _, _, "GrantChainModel", rfl, by decide, rfl, by decide +kernel, Or.inl gw_952, Or.inl rfl, fun _ => rfl⟩
theorem fr_Md_35 : ag_fr gc_P "GrantChainModel" 35 10 12 := ⟨_, _, _, "GrantChainModel", rfl, by decide, Or.inl gw_953, Or.inl rfl⟩
theorem fl_Md_35 : ag_fl gc_P "GrantChainModel" 35 10 12 (.array .boolean) true := ⟨_, _, _, "GrantChainModel", rfl, by decide, rfl, by decide +kernel, Or.inl gw_953, Or.inl rfl, fun _ => rfl⟩
theorem fr_Md_39 : ag_fr gc_P "GrantChainModel" 39 10 13 := ⟨_, _, _, "GrantChainModel", rfl, by decide, Or.inl gw_954, Or.inl rfl⟩
theorem fl_Md_39 : ag_fl gc_P "GrantChainModel" 39 10 13 (.array .int) true := ⟨_, _, _, "GrantChainModel", rfl, by decide, rfl, by decide +kernel, Or.inl gw_954, Or.inl rfl, fun _ => rfl⟩
theorem fr_Md_42 : ag_fr gc_P "GrantChainModel" 42 10 14 := ⟨_, _, _, "GrantChainModel", rfl, by decide, Or.inl gw_955, Or.inl rfl⟩
theorem fl_Md_42 : ag_fl gc_P "GrantChainModel" 42 10 14 (.array .int) true := ⟨_, _, _, "GrantChainModel", rfl, by decide, rfl, by decide +kernel, Or.inl gw_955, Or.inl rfl, fun _ => rfl⟩
theorem fr_Md_252 : ag_fr gc_P "GrantChainModel" 252 10 15 := ⟨_, _, _, "GrantChainModel", rfl, by decide, Or.inl gw_956, Or.inl rfl⟩
theorem fl_Md_252 : ag_fl gc_P "GrantChainModel" 252 10 15 .int false := ⟨_, _, _, "GrantChainModel", rfl, by decide, rfl, by decide +kernel, Or.inl gw_956, Or.inl rfl, fun h => by cases h⟩
theorem fr_Md_87 : ag_fr gc_P "GrantChainModel" 87 10 16 := ⟨_, _, _, "GrantChainModel", rfl, by decide, Or.inl gw_957, Or.inl rfl⟩
theorem fl_Md_87 : ag_fl gc_P "GrantChainModel" 87 10 16 .int false := ⟨_, _, _, "GrantChainModel", rfl, by decide, rfl, by decide +kernel, Or.inl gw_957, Or.inl rfl, fun h => by cases h⟩
theorem fr_Md_93 : ag_fr gc_P "GrantChainModel" 93 10 17 := ⟨_, _, _, "GrantChainModel", rfl, by decide, Or.inl gw_958, Or.inl rfl⟩
theorem fl_Md_93 : ag_fl gc_P "GrantChainModel" 93 10 17 .int false := ⟨_, _, _, "GrantChainModel", rfl, by decide, rfl, by decide +kernel, Or.inl gw_958, Or.inl rfl, fun h => by cases h⟩
theorem fr_Md_90 : ag_fr gc_P "GrantChainModel" 90 10 18 := ⟨_, _, _, "GrantChainModel", rfl, by decide, Or.inl gw_959, Or.inl rfl⟩
theorem fl_Md_90 : ag_fl gc_P "GrantChainModel" 90 10 18 .int false := ⟨_, _, _, "GrantChainModel", rfl, by decide, rfl, by decide +kernel, Or.inl gw_959, Or.inl rfl, fun h => by cases h⟩
theorem fr_Md_112 : ag_fr gc_P "GrantChainModel" 112 10 19 := ⟨_, _, _, "GrantChainModel", rfl, by decide, Or.inl gw_960, Or.inl rfl⟩
theorem fl_Md_112 : ag_fl gc_P "GrantChainModel" 112 10 19 .int false := ⟨_, _, _, "GrantChainModel", rfl, by decide, rfl, by decide +kernel, Or.inl gw_960, Or.inl rfl, fun h => by cases h⟩
theorem fr_Md_108 : ag_fr gc_P "GrantChainModel" 108 10 20 := ⟨_, _, _, "GrantChainModel", rfl, by decide, Or.inl gw_961, Or.inl rfl⟩
theorem fl_Md_108 : ag_fl gc_P "GrantChainModel" 108 10 20 .boolean false := ⟨_, _, _, "GrantChainModel", rfl, by decide, rfl, by decide +kernel, Or.inl gw_961, Or.inl rfl, fun h => by cases h⟩
theorem fr_Md_45 : ag_fr gc_P "GrantChainModel" 45 10 21 := ⟨_, _, _, "GrantChainModel", rfl, by decide, Or.inl gw_962, Or.inl rfl⟩
theorem fl_Md_45 : ag_fl gc_P "GrantChainModel" 45 10 21 (.array .int) true := ⟨_, _, _, "GrantChainModel", rfl, by decide, rfl, by decide +kernel, Or.inl gw_962, Or.inl rfl, fun _ => rfl⟩
theorem fr_Md_48 : ag_fr gc_P "GrantChainModel" 48 10 22 := ⟨_, _, _, "GrantChainModel", rfl, by decide, Or.inl gw_963, Or.inl rfl⟩
theorem fl_Md_48 : ag_fl gc_P "GrantChainModel" 48 10 22 (.array .int) true := ⟨_, _, _, "GrantChainModel", rfl, by decide, rfl, by decide +kernel, Or.inl gw_963, Or.inl rfl, fun _ => rfl⟩
theorem fr_Md_51 : ag_fr gc_P "GrantChainModel" 51 10 23 := ⟨_, _, _, "GrantChainModel", rfl, by decide, Or.inl gw_964, Or.inl rfl⟩
theorem fl_Md_51 : ag_fl gc_P "GrantChainModel" 51 10 23 (.array .boolean) true := ⟨_, _, _, "GrantChainModel", rfl, by decide, rfl, by decide +kernel, Or.inl gw_964, Or.inl rfl, fun _ => rfl⟩
theorem fr_Md_54 : ag_fr gc_P "GrantChainModel" 54 10 24 := ⟨_, _, _, "GrantChainModel", rfl, by decide, Or.inl gw_965, Or.inl rfl⟩
theorem fl_Md_54 : ag_fl gc_P "GrantChainModel" 54 10 24 (.array .int) true := ⟨_, _, _, "GrantChainModel", rfl, by decide, rfl, by decide +kernel, Or.inl gw_965, Or.inl rfl, fun _ => rfl⟩
theorem fr_Md_57 : ag_fr gc_P "GrantChainModel" 57 10 25 := ⟨_, _, _, "GrantChainModel", rfl, by decide, Or.inl gw_966, Or.inl rfl⟩
theorem fl_Md_57 : ag_fl gc_P "GrantChainModel" 57 10 25 (.array .int) true := ⟨_, _, _, "GrantChainModel", rfl, by decide, rfl, by decide +kernel, Or.inl gw_966, Or.inl rfl, fun _ => rfl⟩
theorem fr_Md_115 : ag_fr gc_P "GrantChainModel" 115 10 26 := ⟨_, _, _, "GrantChainModel", rfl, by decide, Or.inl gw_967, Or.inl rfl⟩
theorem fl_Md_115 : ag_fl gc_P "GrantChainModel" 115 10 26 .int false := ⟨_, _, _, "GrantChainModel", rfl, by decide, rfl, by decide +kernel, Or.inl gw_967, Or.inl rfl, fun h => by cases h⟩
theorem fr_Md_118 : ag_fr gc_P "GrantChainModel" 118 10 27 := ⟨_, _, _, "GrantChainModel", rfl, by decide, Or.inl gw_968, Or.inl rfl⟩
theorem fl_Md_118 : ag_fl gc_P "GrantChainModel" 118 10 27 .int false := ⟨_, _, _, "GrantChainModel", rfl, by decide, rfl, by decide +kernel, Or.inl gw_968, Or.inl rfl, fun h => by cases h⟩
theorem fr_Md_60 : ag_fr gc_P "GrantChainModel" 60 10 28 := ⟨_, _, _, "GrantChainModel", rfl, by decide, Or.inl gw_969, Or.inl rfl⟩
theorem fl_Md_60 : ag_fl gc_P "GrantChainModel" 60 10 28 (.array .int) true := ⟨_, _, _, "GrantChainModel", rfl, by decide, rfl, by decide +kernel, Or.inl gw_969, Or.inl rfl, fun _ => rfl⟩
theorem fr_Md_63 : ag_fr gc_P "GrantChainModel" 63 10 29 := ⟨_, _, _, "GrantChainModel", rfl, by decide, Or.inl gw_970, Or.inl rfl⟩
theorem fl_Md_63 : ag_fl gc_P "GrantChainModel" 63 10 29 (.array .int) true := ⟨_, _, _, "GrantChainModel", rfl, by decide, rfl, by decide +kernel, Or.inl gw_970, Or.inl rfl, fun _ => rfl⟩
theorem fr_Md_66 : ag_fr gc_P "GrantChainModel" 66 10 30 := ⟨_, _, _, "GrantChainModel", rfl, by decide, Or.inl gw_971, Or.inl rfl⟩
theorem fl_Md_66 : ag_fl gc_P "GrantChainModel" 66 10 30 (.array .int) true := ⟨_, _, _, "GrantChainModel", rfl, by decide, rfl, by decide +kernel, Or.inl gw_971, Or.inl rfl, fun _ => rfl⟩
theorem fr_Md_147 : ag_fr gc_P "GrantChainModel" 147 10 31 := ⟨_, _, _, "GrantChainModel", rfl, by decide, Or.inl gw_972, Or.inl rfl⟩
theorem fl_Md_147 : ag_fl gc_P "GrantChainModel" 147 10 31 .int false := ⟨_, _, _, "GrantChainModel", rfl, by decide, rfl, by decide +kernel, Or.inl gw_972, Or.inl rfl, fun h => by cases h⟩
theorem fr_Md_202 : ag_fr gc_P "GrantChainModel" 202 10 32 := ⟨_, _, _, "GrantChainModel", rfl, by decide, Or.inl gw_973, Or.inl rfl⟩
theorem fl_Md_202 : ag_fl gc_P "GrantChainModel" 202 10 32 .int false := ⟨_, _, _, "GrantChainModel", rfl, by decide, rfl, by decide +kernel, Or.inl gw_973, Or.inl rfl, fun h => by cases h⟩
theorem fr_Md_233 : ag_fr gc_P "GrantChainModel" 233 10 33 := ⟨_, _, _, "GrantChainModel", rfl, by decide, Or.inl gw_974, Or.inl rfl⟩
theorem fl_Md_233 : ag_fl gc_P "GrantChainModel" 233 10 33 .int false := ⟨_, _, _, "GrantChainModel", rfl, by decide, rfl, by decide +kernel, Or.inl gw_974, Or.inl rfl, fun h => by cases h⟩
theorem fr_Md_69 : ag_fr gc_P "GrantChainModel" 69 10 34 := ⟨_, _, _, "GrantChainModel", rfl, by decide, Or.inl gw_975, Or.inl rfl⟩
theorem fl_Md_69 : ag_fl gc_P "GrantChainModel" 69 10 34 (.array .int) true := ⟨_, _, _, "GrantChainModel", rfl, by decide, rfl, by decide +kernel, Or.inl gw_975, Or.inl rfl, fun _ => rfl⟩
theorem fr_Md_271 : ag_fr gc_P "GrantChainModel" 271 10 35 := ⟨_, _, _, "GrantChainModel", rfl, by decide, Or.inl gw_976, Or.inl rfl⟩
theorem fl_Md_271 : ag_fl gc_P "GrantChainModel" 271 10 35 .int false := ⟨_, _, _, "GrantChainModel", rfl, by decide, rfl, by decide +kernel, Or.inl gw_976, Or.inl rfl, fun h => by cases h⟩
theorem fr_Md_258 : ag_fr gc_P "GrantChainModel" 258 10 36 := ⟨_, _, _, "GrantChainModel", rfl, by decide, Or.inl gw_977, Or.inl rfl⟩
theorem fl_Md_258 : ag_fl gc_P "GrantChainModel" 258 10 36 .int false := ⟨_, _, _, "GrantChainModel", rfl, by decide, rfl, by decide +kernel, Or.inl gw_977, Or.inl rfl, fun h => by cases h⟩
theorem fr_Md_264 : ag_fr gc_P "GrantChainModel" 264 10 37 := ⟨_, _, _, "GrantChainModel", rfl, by decide, Or.inl gw_978, Or.inl rfl⟩
theorem fl_Md_264 : ag_fl gc_P "GrantChainModel" 264 10 37 .int false := ⟨_, _, _, "GrantChainModel", rfl, by decide, rfl, by decide +kernel, Or.inl gw_978, Or.inl rfl, fun h => by cases h⟩
theorem fr_Md_72 : ag_fr gc_P "GrantChainModel" 72 10 38 := ⟨_, _, _, "GrantChainModel", rfl, by decide, Or.inl gw_979, Or.inl rfl⟩
theorem fl_Md_72 : ag_fl gc_P "GrantChainModel" 72 10 38 (.array .int) true := ⟨_, _, _, "GrantChainModel", rfl, by decide, rfl, by decide +kernel, Or.inl gw_979, Or.inl rfl, fun _ => rfl⟩
theorem fr_Md_75 : ag_fr gc_P "GrantChainModel" 75 10 39 := ⟨_, _, _, "GrantChainModel", rfl, by decide, Or.inl gw_980, Or.inl rfl⟩
theorem fl_Md_75 : ag_fl gc_P "GrantChainModel" 75 10 39 (.array .int) true := ⟨_, _, _, "GrantChainModel", rfl, by decide, rfl, by decide +kernel, Or.inl gw_980, Or.inl rfl, fun _ => rfl⟩
theorem fr_Md_78 : ag_fr gc_P "GrantChainModel" 78 10 40 := ⟨_, _, _, "GrantChainModel", rfl, by decide, Or.inl gw_981, Or.inl rfl⟩
theorem fl_Md_78 : ag_fl gc_P "GrantChainModel" 78 10 40 (.array .int) true := ⟨_, _, _, "GrantChainModel", rfl, by decide, rfl, by decide +kernel, Or.inl gw_981, Or.inl rfl, fun _ => rfl⟩
theorem fr_Md_81 : ag_fr gc_P "GrantChainModel" 81 10 41 := ⟨_, _, _, "GrantChainModel", rfl, by decide, Or.inl gw_982, Or.inl rfl⟩
theorem fl_Md_81 : ag_fl gc_P "GrantChainModel" 81 10 41 (.array .int) true := ⟨_, _, _, "GrantChainModel", rfl, by decide, rfl, by decide +kernel, Or.inl gw_982, Or.inl rfl, fun _ => rfl⟩
theorem fr_Md_221 : ag_fr gc_P "GrantChainModel" 221 10 42 := ⟨_, _, _, "GrantChainModel", rfl, by decide, Or.inl gw_983, Or.inl rfl⟩
theorem fl_Md_221 : ag_fl gc_P "GrantChainModel" 221 10 42 .boolean false := ⟨_, _, _, "GrantChainModel", rfl, by decide, rfl, by decide +kernel, Or.inl gw_983, Or.inl rfl, fun h => by cases h⟩
theorem fr_Md_224 : ag_fr gc_P "GrantChainModel" 224 10 43 := ⟨_, _, _, "GrantChainModel", rfl, by decide, Or.inl gw_984, Or.inl rfl⟩
theorem fl_Md_224 : ag_fl gc_P "GrantChainModel" 224 10 43 .boolean false := ⟨_, _, _, "GrantChainModel", rfl, by decide, rfl, by decide +kernel, Or.inl gw_984, Or.inl rfl, fun h => by cases h⟩
theorem fr_Md_227 : ag_fr gc_P "GrantChainModel" 227 10 44 := ⟨_, _, _, "GrantChainModel", rfl, by decide, Or.inl gw_985, Or.inl rfl⟩
theorem fl_Md_227 : ag_fl gc_P "GrantChainModel" 227 10 44 .boolean false := ⟨_, _, _, "GrantChainModel", rfl, by decide, rfl, by decide +kernel, Or.inl gw_985, Or.inl rfl, fun h => by cases h⟩
theorem fr_Md_230 : ag_fr gc_P "GrantChainModel" 230 10 45 := ⟨_, _, _, "GrantChainModel", rfl, by decide, Or.inl gw_986, Or.inl rfl⟩
theorem fl_Md_230 : ag_fl gc_P "GrantChainModel" 230 10 45 .boolean false := ⟨_, _, _, "GrantChainModel", rfl, by decide, rfl, by decide +kernel, Or.inl gw_986, Or.inl rfl, fun h => by cases h⟩
theorem sl_Rd_readBody : Cond.selects "GrantChain$Reader" m_Rd_readBody.1 m_Rd_readBody.1 ∈ gc_W := gc_S (List.mem_of_getElem? (i := 0) (by decide +kernel)) (by decide +kernel)
theorem sl_AL_add2 : Cond.selects "java/util/ArrayList" m_AL_add2.1 m_AL_add2.1 ∈ gc_W := gc_S (List.mem_of_getElem? (i := 1) (by decide +kernel)) (by decide +kernel)
theorem sl_AL_grow : Cond.selects "java/util/ArrayList" m_AL_grow.1 m_AL_grow.1 ∈ gc_W := gc_S (List.mem_of_getElem? (i := 2) (by decide +kernel)) (by decide +kernel)
theorem sl_AL_grow2 : Cond.selects "java/util/ArrayList" m_AL_grow2.1 m_AL_grow2.1 ∈ gc_W := gc_S (List.mem_of_getElem? (i := 3) (by decide +kernel)) (by decide +kernel)
theorem sl_Rd_readComparison : Cond.selects "GrantChain$Reader" m_Rd_readComparison.1 m_Rd_readComparison.1 ∈ gc_W := gc_S (List.mem_of_getElem? (i := 4) (by decide +kernel)) (by decide +kernel)
theorem sl_Rd_readSum : Cond.selects "GrantChain$Reader" m_Rd_readSum.1 m_Rd_readSum.1 ∈ gc_W := gc_S (List.mem_of_getElem? (i := 5) (by decide +kernel)) (by decide +kernel)
theorem sl_Rd_readProduct : Cond.selects "GrantChain$Reader" m_Rd_readProduct.1 m_Rd_readProduct.1 ∈ gc_W := gc_S (List.mem_of_getElem? (i := 6) (by decide +kernel)) (by decide +kernel)
theorem sl_Rd_readFactor : Cond.selects "GrantChain$Reader" m_Rd_readFactor.1 m_Rd_readFactor.1 ∈ gc_W := gc_S (List.mem_of_getElem? (i := 7) (by decide +kernel)) (by decide +kernel)
theorem sl_Rd_addStep : Cond.selects "GrantChain$Reader" m_Rd_addStep.1 m_Rd_addStep.1 ∈ gc_W := gc_S (List.mem_of_getElem? (i := 8) (by decide +kernel)) (by decide +kernel)
theorem sl_GC_moveLine : Cond.selects "GrantChain" m_GC_moveLine.1 m_GC_moveLine.1 ∈ gc_W := gc_S (List.mem_of_getElem? (i := 10) (by decide +kernel)) (by decide +kernel)
theorem sl_GC_keepWithNewLink : Cond.selects "GrantChain" m_GC_keepWithNewLink.1 m_GC_keepWithNewLink.1 ∈ gc_W := gc_S (List.mem_of_getElem? (i := 11) (by decide +kernel)) (by decide +kernel)
theorem sl_GC_newKey : Cond.selects "GrantChain" m_GC_newKey.1 m_GC_newKey.1 ∈ gc_W := gc_S (List.mem_of_getElem? (i := 12) (by decide +kernel)) (by decide +kernel)
theorem sl_GC_keep : Cond.selects "GrantChain" m_GC_keep.1 m_GC_keep.1 ∈ gc_W := gc_S (List.mem_of_getElem? (i := 13) (by decide +kernel)) (by decide +kernel)
theorem sl_GC_isToken : Cond.selects "GrantChain" m_GC_isToken.1 m_GC_isToken.1 ∈ gc_W := gc_S (List.mem_of_getElem? (i := 14) (by decide +kernel)) (by decide +kernel)
theorem sl_AL_fastRemove : Cond.selects "java/util/ArrayList" m_AL_fastRemove.1 m_AL_fastRemove.1 ∈ gc_W := gc_S (List.mem_of_getElem? (i := 15) (by decide +kernel)) (by decide +kernel)
theorem sl_GC_layOut : Cond.selects "GrantChain" m_GC_layOut.1 m_GC_layOut.1 ∈ gc_W := gc_S (List.mem_of_getElem? (i := 16) (by decide +kernel)) (by decide +kernel)
theorem sl_Jg_layFacts : Cond.selects "GrantChain$Judge" m_Jg_layFacts.1 m_Jg_layFacts.1 ∈ gc_W := gc_S (List.mem_of_getElem? (i := 17) (by decide +kernel)) (by decide +kernel)
theorem sl_Jg_makeRound : Cond.selects "GrantChain$Judge" m_Jg_makeRound.1 m_Jg_makeRound.1 ∈ gc_W := gc_S (List.mem_of_getElem? (i := 18) (by decide +kernel)) (by decide +kernel)
theorem sl_Jg_search : Cond.selects "GrantChain$Judge" m_Jg_search.1 m_Jg_search.1 ∈ gc_W := gc_S (List.mem_of_getElem? (i := 19) (by decide +kernel)) (by decide +kernel)
theorem sl_Jg_bind : Cond.selects "GrantChain$Judge" m_Jg_bind.1 m_Jg_bind.1 ∈ gc_W := gc_S (List.mem_of_getElem? (i := 20) (by decide +kernel)) (by decide +kernel)
theorem sl_Jg_finish : Cond.selects "GrantChain$Judge" m_Jg_finish.1 m_Jg_finish.1 ∈ gc_W := gc_S (List.mem_of_getElem? (i := 21) (by decide +kernel)) (by decide +kernel)
theorem sl_Jg_work : Cond.selects "GrantChain$Judge" m_Jg_work.1 m_Jg_work.1 ∈ gc_W := gc_S (List.mem_of_getElem? (i := 22) (by decide +kernel)) (by decide +kernel)
theorem sl_Jg_valueOf : Cond.selects "GrantChain$Judge" m_Jg_valueOf.1 m_Jg_valueOf.1 ∈ gc_W := gc_S (List.mem_of_getElem? (i := 23) (by decide +kernel)) (by decide +kernel)
theorem sl_Jg_fit : Cond.selects "GrantChain$Judge" m_Jg_fit.1 m_Jg_fit.1 ∈ gc_W := gc_S (List.mem_of_getElem? (i := 24) (by decide +kernel)) (by decide +kernel)
theorem sl_Jg_fitTerm : Cond.selects "GrantChain$Judge" m_Jg_fitTerm.1 m_Jg_fitTerm.1 ∈ gc_W := gc_S (List.mem_of_getElem? (i := 25) (by decide +kernel)) (by decide +kernel)
theorem sl_Jg_lookAtChecks : Cond.selects "GrantChain$Judge" m_Jg_lookAtChecks.1 m_Jg_lookAtChecks.1 ∈ gc_W := gc_S (List.mem_of_getElem? (i := 26) (by decide +kernel)) (by decide +kernel)
theorem sl_Jg_lookAtPolicies : Cond.selects "GrantChain$Judge" m_Jg_lookAtPolicies.1 m_Jg_lookAtPolicies.1 ∈ gc_W := gc_S (List.mem_of_getElem? (i := 27) (by decide +kernel)) (by decide +kernel)
theorem sl_Md_read : Cond.selects "GrantChainModel" m_Md_read.1 m_Md_read.1 ∈ gc_W := gc_S (List.mem_of_getElem? (i := 28) (by decide +kernel)) (by decide +kernel)
theorem sl_Md_here : Cond.selects "GrantChainModel" m_Md_here.1 m_Md_here.1 ∈ gc_W := gc_S (List.mem_of_getElem? (i := 29) (by decide +kernel)) (by decide +kernel)
theorem sl_Md_readAtom : Cond.selects "GrantChainModel" m_Md_readAtom.1 m_Md_readAtom.1 ∈ gc_W := gc_S (List.mem_of_getElem? (i := 30) (by decide +kernel)) (by decide +kernel)
theorem sl_Md_next : Cond.selects "GrantChainModel" m_Md_next.1 m_Md_next.1 ∈ gc_W := gc_S (List.mem_of_getElem? (i := 31) (by decide +kernel)) (by decide +kernel)
theorem sl_Md_term : Cond.selects "GrantChainModel" m_Md_term.1 m_Md_term.1 ∈ gc_W := gc_S (List.mem_of_getElem? (i := 32) (by decide +kernel)) (by decide +kernel)
theorem sl_Md_number : Cond.selects "GrantChainModel" m_Md_number.1 m_Md_number.1 ∈ gc_W := gc_S (List.mem_of_getElem? (i := 33) (by decide +kernel)) (by decide +kernel)
theorem sl_Md_peek : Cond.selects "GrantChainModel" m_Md_peek.1 m_Md_peek.1 ∈ gc_W := gc_S (List.mem_of_getElem? (i := 34) (by decide +kernel)) (by decide +kernel)
theorem sl_Md_body : Cond.selects "GrantChainModel" m_Md_body.1 m_Md_body.1 ∈ gc_W := gc_S (List.mem_of_getElem? (i := 35) (by decide +kernel)) (by decide +kernel)
theorem sl_Md_comparison : Cond.selects "GrantChainModel" m_Md_comparison.1 m_Md_comparison.1 ∈ gc_W := gc_S (List.mem_of_getElem? (i := 36) (by decide +kernel)) (by decide +kernel)
theorem sl_Md_sum : Cond.selects "GrantChainModel" m_Md_sum.1 m_Md_sum.1 ∈ gc_W := gc_S (List.mem_of_getElem? (i := 37) (by decide +kernel)) (by decide +kernel)
theorem sl_Md_push : Cond.selects "GrantChainModel" m_Md_push.1 m_Md_push.1 ∈ gc_W := gc_S (List.mem_of_getElem? (i := 38) (by decide +kernel)) (by decide +kernel)
theorem sl_Md_emit : Cond.selects "GrantChainModel" m_Md_emit.1 m_Md_emit.1 ∈ gc_W := gc_S (List.mem_of_getElem? (i := 39) (by decide +kernel)) (by decide +kernel)
theorem sl_Md_flush : Cond.selects "GrantChainModel" m_Md_flush.1 m_Md_flush.1 ∈ gc_W := gc_S (List.mem_of_getElem? (i := 40) (by decide +kernel)) (by decide +kernel)
theorem sl_Md_lastStar : Cond.selects "GrantChainModel" m_Md_lastStar.1 m_Md_lastStar.1 ∈ gc_W := gc_S (List.mem_of_getElem? (i := 41) (by decide +kernel)) (by decide +kernel)
theorem sl_Md_copy : Cond.selects "GrantChainModel" m_Md_copy.1 m_Md_copy.1 ∈ gc_W := gc_S (List.mem_of_getElem? (i := 42) (by decide +kernel)) (by decide +kernel)
theorem sl_Md_close : Cond.selects "GrantChainModel" m_Md_close.1 m_Md_close.1 ∈ gc_W := gc_S (List.mem_of_getElem? (i := 43) (by decide +kernel)) (by decide +kernel)
theorem sl_Md_setLink : Cond.selects "GrantChainModel" m_Md_setLink.1 m_Md_setLink.1 ∈ gc_W := gc_S (List.mem_of_getElem? (i := 44) (by decide +kernel)) (by decide +kernel)
theorem sl_Md_isToken : Cond.selects "GrantChainModel" m_Md_isToken.1 m_Md_isToken.1 ∈ gc_W := gc_S (List.mem_of_getElem? (i := 45) (by decide +kernel)) (by decide +kernel)
theorem sl_Md_like : Cond.selects "GrantChainModel" m_Md_like.1 m_Md_like.1 ∈ gc_W := gc_S (List.mem_of_getElem? (i := 46) (by decide +kernel)) (by decide +kernel)
theorem sl_Md_change : Cond.selects "GrantChainModel" m_Md_change.1 m_Md_change.1 ∈ gc_W := gc_S (List.mem_of_getElem? (i := 47) (by decide +kernel)) (by decide +kernel)
theorem sl_Md_link : Cond.selects "GrantChainModel" m_Md_link.1 m_Md_link.1 ∈ gc_W := gc_S (List.mem_of_getElem? (i := 48) (by decide +kernel)) (by decide +kernel)
theorem sl_Md_right : Cond.selects "GrantChainModel" m_Md_right.1 m_Md_right.1 ∈ gc_W := gc_S (List.mem_of_getElem? (i := 49) (by decide +kernel)) (by decide +kernel)
theorem sl_Md_loadAll : Cond.selects "GrantChainModel" m_Md_loadAll.1 m_Md_loadAll.1 ∈ gc_W := gc_S (List.mem_of_getElem? (i := 50) (by decide +kernel)) (by decide +kernel)
theorem sl_Md_load : Cond.selects "GrantChainModel" m_Md_load.1 m_Md_load.1 ∈ gc_W := gc_S (List.mem_of_getElem? (i := 51) (by decide +kernel)) (by decide +kernel)
theorem sl_Md_worth : Cond.selects "GrantChainModel" m_Md_worth.1 m_Md_worth.1 ∈ gc_W := gc_S (List.mem_of_getElem? (i := 52) (by decide +kernel)) (by decide +kernel)
theorem sl_Md_add : Cond.selects "GrantChainModel" m_Md_add.1 m_Md_add.1 ∈ gc_W := gc_S (List.mem_of_getElem? (i := 53) (by decide +kernel)) (by decide +kernel)
theorem sl_Md_made : Cond.selects "GrantChainModel" m_Md_made.1 m_Md_made.1 ∈ gc_W := gc_S (List.mem_of_getElem? (i := 54) (by decide +kernel)) (by decide +kernel)
theorem sl_Md_bindings : Cond.selects "GrantChainModel" m_Md_bindings.1 m_Md_bindings.1 ∈ gc_W := gc_S (List.mem_of_getElem? (i := 55) (by decide +kernel)) (by decide +kernel)
theorem sl_Md_fit : Cond.selects "GrantChainModel" m_Md_fit.1 m_Md_fit.1 ∈ gc_W := gc_S (List.mem_of_getElem? (i := 56) (by decide +kernel)) (by decide +kernel)
theorem sl_Md_trusted : Cond.selects "GrantChainModel" m_Md_trusted.1 m_Md_trusted.1 ∈ gc_W := gc_S (List.mem_of_getElem? (i := 57) (by decide +kernel)) (by decide +kernel)
theorem sl_Md_complete : Cond.selects "GrantChainModel" m_Md_complete.1 m_Md_complete.1 ∈ gc_W := gc_S (List.mem_of_getElem? (i := 58) (by decide +kernel)) (by decide +kernel)
theorem sl_Md_compare : Cond.selects "GrantChainModel" m_Md_compare.1 m_Md_compare.1 ∈ gc_W := gc_S (List.mem_of_getElem? (i := 59) (by decide +kernel)) (by decide +kernel)
theorem sl_Md_decide : Cond.selects "GrantChainModel" m_Md_decide.1 m_Md_decide.1 ∈ gc_W := gc_S (List.mem_of_getElem? (i := 60) (by decide +kernel)) (by decide +kernel)
theorem sl_Md_before : Cond.selects "GrantChainModel" m_Md_before.1 m_Md_before.1 ∈ gc_W := gc_S (List.mem_of_getElem? (i := 61) (by decide +kernel)) (by decide +kernel)
theorem sl_GC_type : Cond.selects "GrantChain" m_GC_type.1 m_GC_type.1 ∈ gc_W := gw_232
theorem sl_Ln_put : Cond.selects "GrantChain$Line" m_Ln_put.1 m_Ln_put.1 ∈ gc_W := gw_236
theorem sl_GC_wipe : Cond.selects "GrantChain" m_GC_wipe.1 m_GC_wipe.1 ∈ gc_W := gw_240
theorem sl_GC_clear : Cond.selects "GrantChain" m_GC_clear.1 m_GC_clear.1 ∈ gc_W := gw_244
theorem sl_GC_limits : Cond.selects "GrantChain" m_GC_limits.1 m_GC_limits.1 ∈ gc_W := gw_258
theorem sl_GC_latest : Cond.selects "GrantChain" m_GC_latest.1 m_GC_latest.1 ∈ gc_W := gw_262
theorem sl_GC_count : Cond.selects "GrantChain" m_GC_count.1 m_GC_count.1 ∈ gc_W := gw_266
theorem sl_GC_clause : Cond.selects "GrantChain" m_GC_clause.1 m_GC_clause.1 ∈ gc_W := gw_285
theorem sl_Rd_read : Cond.selects "GrantChain$Reader" m_Rd_read.1 m_Rd_read.1 ∈ gc_W := gw_289
theorem sl_Ln_takes : Cond.selects "GrantChain$Line" m_Ln_takes.1 m_Ln_takes.1 ∈ gc_W := gw_296
theorem sl_Ln_sign : Cond.selects "GrantChain$Line" m_Ln_sign.1 m_Ln_sign.1 ∈ gc_W := gw_300
theorem sl_Ln_digits : Cond.selects "GrantChain$Line" m_Ln_digits.1 m_Ln_digits.1 ∈ gc_W := gw_343
theorem sl_At_variables : Cond.selects "GrantChain$Atom" m_At_variables.1 m_At_variables.1 ∈ gc_W := gw_348
theorem sl_Ln_isAtLastStar : Cond.selects "GrantChain$Line" m_Ln_isAtLastStar.1 m_Ln_isAtLastStar.1 ∈ gc_W := gw_450
theorem sl_GC_desk : Cond.selects "GrantChain" m_GC_desk.1 m_GC_desk.1 ∈ gc_W := gw_598
theorem sl_GC_issue : Cond.selects "GrantChain" m_GC_issue.1 m_GC_issue.1 ∈ gc_W := gw_605
theorem sl_Tk_openWith : Cond.selects "GrantChain$Token" m_Tk_openWith.1 m_Tk_openWith.1 ∈ gc_W := gw_674
theorem sl_GC_append : Cond.selects "GrantChain" m_GC_append.1 m_GC_append.1 ∈ gc_W := gw_686
theorem sl_AL_elementData : Cond.selects "java/util/ArrayList" m_AL_elementData.1 m_AL_elementData.1 ∈ gc_W := gw_724
theorem sl_Tk_copy : Cond.selects "GrantChain$Token" m_Tk_copy.1 m_Tk_copy.1 ∈ gc_W := gw_728
theorem sl_GC_seal : Cond.selects "GrantChain" m_GC_seal.1 m_GC_seal.1 ∈ gc_W := gw_744
theorem sl_GC_tamper : Cond.selects "GrantChain" m_GC_tamper.1 m_GC_tamper.1 ∈ gc_W := gw_751
theorem sl_Tk_cutTo : Cond.selects "GrantChain$Token" m_Tk_cutTo.1 m_Tk_cutTo.1 ∈ gc_W := gw_758
theorem sl_Tk_swapBlocks : Cond.selects "GrantChain$Token" m_Tk_swapBlocks.1 m_Tk_swapBlocks.1 ∈ gc_W := gw_776
theorem sl_Tk_changeLink : Cond.selects "GrantChain$Token" m_Tk_changeLink.1 m_Tk_changeLink.1 ∈ gc_W := gw_780
theorem sl_Tk_swapLinks : Cond.selects "GrantChain$Token" m_Tk_swapLinks.1 m_Tk_swapLinks.1 ∈ gc_W := gw_794
theorem sl_Tk_signAnew : Cond.selects "GrantChain$Token" m_Tk_signAnew.1 m_Tk_signAnew.1 ∈ gc_W := gw_799
theorem sl_GC_authorize : Cond.selects "GrantChain" m_GC_authorize.1 m_GC_authorize.1 ∈ gc_W := gw_806
theorem sl_Jg_begin : Cond.selects "GrantChain$Judge" m_Jg_begin.1 m_Jg_begin.1 ∈ gc_W := gw_810
theorem sl_Fa_begin : Cond.selects "GrantChain$Facts" m_Fa_begin.1 m_Fa_begin.1 ∈ gc_W := gw_814
theorem sl_Tk_isRightFor : Cond.selects "GrantChain$Token" m_Tk_isRightFor.1 m_Tk_isRightFor.1 ∈ gc_W := gw_818
theorem sl_Lk_isSignedBy : Cond.selects "GrantChain$Link" m_Lk_isSignedBy.1 m_Lk_isSignedBy.1 ∈ gc_W := gw_822
theorem sl_Jg_end : Cond.selects "GrantChain$Judge" m_Jg_end.1 m_Jg_end.1 ∈ gc_W := gw_826
theorem sl_Fa_sort : Cond.selects "GrantChain$Facts" m_Fa_sort.1 m_Fa_sort.1 ∈ gc_W := gw_830
theorem sl_Jg_settle : Cond.selects "GrantChain$Judge" m_Jg_settle.1 m_Jg_settle.1 ∈ gc_W := gw_841
theorem sl_Fa_offer : Cond.selects "GrantChain$Facts" m_Fa_offer.1 m_Fa_offer.1 ∈ gc_W := gw_854
theorem sl_Jg_verdict : Cond.selects "GrantChain$Judge" m_Jg_verdict.1 m_Jg_verdict.1 ∈ gc_W := gw_903
theorem sl_GC_fact : Cond.selects "GrantChain" m_GC_fact.1 m_GC_fact.1 ∈ gc_W := gw_918
theorem sl_GC_token : Cond.selects "GrantChain" m_GC_token.1 m_GC_token.1 ∈ gc_W := gw_925
theorem sl_Tk_tell : Cond.selects "GrantChain$Token" m_Tk_tell.1 m_Tk_tell.1 ∈ gc_W := gw_929
theorem sl_Lk_tell : Cond.selects "GrantChain$Link" m_Lk_tell.1 m_Lk_tell.1 ∈ gc_W := gw_933
theorem sl_Md_thrown : Cond.selects "GrantChainModel" m_Md_thrown.1 m_Md_thrown.1 ∈ gc_W := gw_1083
theorem sl_Md_type : Cond.selects "GrantChainModel" m_Md_type.1 m_Md_type.1 ∈ gc_W := gw_1087
theorem sl_Md_wipe : Cond.selects "GrantChainModel" m_Md_wipe.1 m_Md_wipe.1 ∈ gc_W := gw_1091
theorem sl_Md_clause : Cond.selects "GrantChainModel" m_Md_clause.1 m_Md_clause.1 ∈ gc_W := gw_1095
theorem sl_Md_desk : Cond.selects "GrantChainModel" m_Md_desk.1 m_Md_desk.1 ∈ gc_W := gw_1166
theorem sl_Md_clear : Cond.selects "GrantChainModel" m_Md_clear.1 m_Md_clear.1 ∈ gc_W := gw_1170
theorem sl_Md_issue : Cond.selects "GrantChainModel" m_Md_issue.1 m_Md_issue.1 ∈ gc_W := gw_1174
theorem sl_Md_append : Cond.selects "GrantChainModel" m_Md_append.1 m_Md_append.1 ∈ gc_W := gw_1186
theorem sl_Md_seal : Cond.selects "GrantChainModel" m_Md_seal.1 m_Md_seal.1 ∈ gc_W := gw_1198
theorem sl_Md_tamper : Cond.selects "GrantChainModel" m_Md_tamper.1 m_Md_tamper.1 ∈ gc_W := gw_1202
theorem sl_Md_limits : Cond.selects "GrantChainModel" m_Md_limits.1 m_Md_limits.1 ∈ gc_W := gw_1214
theorem sl_Md_authorize : Cond.selects "GrantChainModel" m_Md_authorize.1 m_Md_authorize.1 ∈ gc_W := gw_1218
theorem sl_Md_latest : Cond.selects "GrantChainModel" m_Md_latest.1 m_Md_latest.1 ∈ gc_W := gw_1279
theorem sl_Md_fact : Cond.selects "GrantChainModel" m_Md_fact.1 m_Md_fact.1 ∈ gc_W := gw_1283
theorem sl_Md_token : Cond.selects "GrantChainModel" m_Md_token.1 m_Md_token.1 ∈ gc_W := gw_1291
theorem sl_Md_count : Cond.selects "GrantChainModel" m_Md_count.1 m_Md_count.1 ∈ gc_W := gw_1295
theorem ml_Lw_48 : ag_ml gc_P "GrantChainLaw" 48 m_GC_init 0 := ⟨Or.inl gw_30, gw_1, gw_32, by decide +kernel, by decide +kernel, by decide⟩
theorem ml_GC_9 : ag_ml gc_P "GrantChain" 9 m_Ln_init 0 := ⟨Or.inr ⟨_, gw_38⟩, gw_2, gw_40, by decide +kernel, by decide +kernel, by decide⟩
theorem ml_GC_18 : ag_ml gc_P "GrantChain" 18 m_Rd_init 0 := ⟨Or.inr ⟨_, gw_57⟩, gw_3, gw_59, by decide +kernel, by decide +kernel, by decide⟩
theorem ml_GC_25 : ag_ml gc_P "GrantChain" 25 m_Jg_init 0 := ⟨Or.inr ⟨_, gw_77⟩, gw_4, gw_79, by decide +kernel, by decide +kernel, by decide⟩
theorem ml_Jg_13 : ag_ml gc_P "GrantChain$Judge" 13 m_Fa_init 0 := ⟨Or.inr ⟨_, gw_83⟩, gw_5, gw_85, by decide +kernel, by decide +kernel, by decide⟩
theorem ml_Jg_20 : ag_ml gc_P "GrantChain$Judge" 20 m_Bk_init 0 := ⟨Or.inr ⟨_, gw_109⟩, gw_6, gw_111, by decide +kernel, by decide +kernel, by decide⟩
theorem ml_Bk_9 : ag_ml gc_P "GrantChain$Block" 9 m_AL_init 0 := ⟨Or.inl gw_115, gw_9, gw_117, by decide +kernel, by decide +kernel, by decide⟩
theorem ml_AL_1 : ag_ml gc_P "java/util/ArrayList" 1 m_AbL_init 0 := ⟨Or.inl gw_118, gw_8, gw_120, by decide +kernel, by decide +kernel, by decide⟩
theorem ml_AbL_1 : ag_ml gc_P "java/util/AbstractList" 1 m_AbC_init 0 := ⟨Or.inl gw_121, gw_7, gw_123, by decide +kernel, by decide +kernel, by decide⟩
theorem ml_GC_32 : ag_ml gc_P "GrantChain" 32 m_Bk_init 0 := ⟨Or.inr ⟨_, gw_196⟩, gw_6, gw_111, by decide +kernel, by decide +kernel, by decide⟩
theorem ml_GC_39 : ag_ml gc_P "GrantChain" 39 m_AL_init 0 := ⟨Or.inl gw_198, gw_9, gw_117, by decide +kernel, by decide +kernel, by decide⟩
theorem ml_Lw_52 : ag_ml gc_P "GrantChainLaw" 52 m_GC_type 1 := ⟨Or.inl gw_230, gw_1, gw_233, by decide +kernel, by decide +kernel, by decide⟩
theorem ml_GC_60 : ag_ml gc_P "GrantChain" 60 m_Ln_put 1 := ⟨Or.inl gw_234, gw_2, gw_237, by decide +kernel, by decide +kernel, by decide⟩
theorem ml_Lw_57 : ag_ml gc_P "GrantChainLaw" 57 m_GC_wipe 0 := ⟨Or.inl gw_238, gw_1, gw_241, by decide +kernel, by decide +kernel, by decide⟩
theorem ml_Lw_73 : ag_ml gc_P "GrantChainLaw" 73 m_GC_clear 0 := ⟨Or.inl gw_242, gw_1, gw_245, by decide +kernel, by decide +kernel, by decide⟩
theorem il_GC_98 : ag_il gc_P "GrantChain" 98 "java/util/ArrayList" ⟨"java/util/List", "clear", "()V"⟩ m_AL_clear 0 := ⟨⟨gw_247, gw_249, gw_248, gw_251, gw_253, gw_254, gw_252, gw_250⟩, gw_9, gw_255, by decide +kernel, by decide +kernel, by decide⟩
theorem ml_Lw_91 : ag_ml gc_P "GrantChainLaw" 91 m_GC_limits 2 := ⟨Or.inl gw_256, gw_1, gw_259, by decide +kernel, by decide +kernel, by decide⟩
theorem ml_Lw_100 : ag_ml gc_P "GrantChainLaw" 100 m_GC_latest 1 := ⟨Or.inl gw_260, gw_1, gw_263, by decide +kernel, by decide +kernel, by decide⟩
theorem ml_Lw_110 : ag_ml gc_P "GrantChainLaw" 110 m_GC_count 1 := ⟨Or.inl gw_264, gw_1, gw_267, by decide +kernel, by decide +kernel, by decide⟩
theorem il_GC_85 : ag_il gc_P "GrantChain" 85 "java/util/ArrayList" ⟨"java/util/List", "size", "()I"⟩ m_AL_size 0 := ⟨⟨gw_269, gw_271, gw_270, gw_272, gw_274, gw_275, gw_273, gw_250⟩, gw_9, gw_276, by decide +kernel, by decide +kernel, by decide⟩
theorem ml_Lw_7 : ag_ml gc_P "GrantChainLaw" 7 m_GC_clause 0 := ⟨Or.inl gw_283, gw_1, gw_286, by decide +kernel, by decide +kernel, by decide⟩
theorem ml_GC_67 : ag_ml gc_P "GrantChain" 67 m_Rd_read 1 := ⟨Or.inl gw_287, gw_3, gw_290, by decide +kernel, by decide +kernel, by decide⟩
theorem ml_Rd_30 : ag_ml gc_P "GrantChain$Reader" 30 m_Rd_readKind 1 := ⟨Or.inl gw_291, gw_3, gw_293, by decide +kernel, by decide +kernel, by decide⟩
theorem ml_Rd_44 : ag_ml gc_P "GrantChain$Reader" 44 m_Ln_takes 1 := ⟨Or.inl gw_294, gw_2, gw_297, by decide +kernel, by decide +kernel, by decide⟩
theorem ml_Ln_22 : ag_ml gc_P "GrantChain$Line" 22 m_Ln_sign 0 := ⟨Or.inl gw_298, gw_2, gw_301, by decide +kernel, by decide +kernel, by decide⟩
theorem ml_Rd_34 : ag_ml gc_P "GrantChain$Reader" 34 m_Rd_readAtom 1 := ⟨Or.inl gw_302, gw_3, gw_304, by decide +kernel, by decide +kernel, by decide⟩
theorem ml_Rd_55 : ag_ml gc_P "GrantChain$Reader" 55 m_Ln_sign 0 := ⟨Or.inl gw_305, gw_2, gw_301, by decide +kernel, by decide +kernel, by decide⟩
theorem ml_Rd_70 : ag_ml gc_P "GrantChain$Reader" 70 m_Rd_isName 1 := ⟨Or.inl gw_306, gw_3, gw_308, by decide +kernel, by decide +kernel, by decide⟩
theorem ml_Rd_73 : ag_ml gc_P "GrantChain$Reader" 73 m_At_init 4 := ⟨Or.inl gw_311, gw_11, gw_313, by decide +kernel, by decide +kernel, by decide⟩
theorem ml_Rd_76 : ag_ml gc_P "GrantChain$Reader" 76 m_Rd_readTerm 1 := ⟨Or.inl gw_334, gw_3, gw_336, by decide +kernel, by decide +kernel, by decide⟩
theorem ml_Rd_80 : ag_ml gc_P "GrantChain$Reader" 80 m_Rd_isVariable 1 := ⟨Or.inl gw_337, gw_3, gw_339, by decide +kernel, by decide +kernel, by decide⟩
theorem ml_Rd_84 : ag_ml gc_P "GrantChain$Reader" 84 m_Ln_digits 0 := ⟨Or.inl gw_341, gw_2, gw_344, by decide +kernel, by decide +kernel, by decide⟩
theorem ml_Rd_38 : ag_ml gc_P "GrantChain$Reader" 38 m_At_variables 0 := ⟨Or.inl gw_346, gw_11, gw_349, by decide +kernel, by decide +kernel, by decide⟩
theorem ml_At_24 : ag_ml gc_P "GrantChain$Atom" 24 m_At_bit 1 := ⟨Or.inl gw_350, gw_11, gw_352, by decide +kernel, by decide +kernel, by decide⟩
theorem ml_Rd_50 : ag_ml gc_P "GrantChain$Reader" 50 m_AL_init 0 := ⟨Or.inl gw_355, gw_9, gw_117, by decide +kernel, by decide +kernel, by decide⟩
theorem ml_Rd_51 : ag_ml gc_P "GrantChain$Reader" 51 m_Rd_readBody 2 := ⟨Or.inl gw_356, gw_3, gw_359, by decide +kernel, by decide +kernel, by decide⟩
theorem il_Rd_87 : ag_il gc_P "GrantChain$Reader" 87 "java/util/ArrayList" ⟨"java/util/List", "add", "(Ljava/lang/Object;)Z"⟩ m_AL_add 1 := ⟨⟨gw_361, gw_363, gw_362, gw_364, gw_366, gw_367, gw_365, gw_250⟩, gw_9, gw_368, by decide +kernel, by decide +kernel, by decide⟩
theorem ml_AL_131 : ag_ml gc_P "java/util/ArrayList" 131 m_AL_add2 3 := ⟨Or.inl gw_369, gw_9, gw_372, by decide +kernel, by decide +kernel, by decide⟩
theorem ml_AL_129 : ag_ml gc_P "java/util/ArrayList" 129 m_AL_grow 0 := ⟨Or.inl gw_373, gw_9, gw_376, by decide +kernel, by decide +kernel, by decide⟩
theorem ml_AL_69 : ag_ml gc_P "java/util/ArrayList" 69 m_AL_grow2 1 := ⟨Or.inl gw_377, gw_9, gw_380, by decide +kernel, by decide +kernel, by decide⟩
theorem ml_AL_73 : ag_ml gc_P "java/util/ArrayList" 73 m_AS_newLength 3 := ⟨Or.inl gw_381, gw_12, gw_383, by decide +kernel, by decide +kernel, by decide⟩
theorem ml_AS_194 : ag_ml gc_P "jdk/internal/util/ArraysSupport" 194 m_Ma_max 2 := ⟨Or.inl gw_384, gw_13, gw_386, by decide +kernel, by decide +kernel, by decide⟩
theorem ml_AS_201 : ag_ml gc_P "jdk/internal/util/ArraysSupport" 201 m_AS_hugeLength 2 := ⟨Or.inl gw_388, gw_12, gw_390, by decide +kernel, by decide +kernel, by decide⟩
theorem ml_AL_66 : ag_ml gc_P "java/util/ArrayList" 66 m_Ar_copyOf 2 := ⟨Or.inl gw_391, gw_14, gw_393, by decide +kernel, by decide +kernel, by decide⟩
theorem ml_Ar_300 : ag_ml gc_P "java/util/Arrays" 300 m_Ar_copyOf2 3 := ⟨Or.inl gw_414, gw_14, gw_416, by decide +kernel, by decide +kernel, by decide⟩
theorem ml_Ar_304 : ag_ml gc_P "java/util/Arrays" 304 m_Ma_min 2 := ⟨Or.inl gw_420, gw_13, gw_422, by decide +kernel, by decide +kernel, by decide⟩
theorem ml_AL_79 : ag_ml gc_P "java/util/ArrayList" 79 m_Ma_max 2 := ⟨Or.inl gw_426, gw_13, gw_386, by decide +kernel, by decide +kernel, by decide⟩
theorem ml_Rd_93 : ag_ml gc_P "GrantChain$Reader" 93 m_Rd_readComparison 1 := ⟨Or.inl gw_428, gw_3, gw_431, by decide +kernel, by decide +kernel, by decide⟩
theorem ml_Rd_97 : ag_ml gc_P "GrantChain$Reader" 97 m_Rd_readSum 2 := ⟨Or.inl gw_432, gw_3, gw_435, by decide +kernel, by decide +kernel, by decide⟩
theorem ml_Rd_108 : ag_ml gc_P "GrantChain$Reader" 108 m_Rd_readProduct 2 := ⟨Or.inl gw_436, gw_3, gw_439, by decide +kernel, by decide +kernel, by decide⟩
theorem ml_Rd_111 : ag_ml gc_P "GrantChain$Reader" 111 m_Rd_readFactor 2 := ⟨Or.inl gw_440, gw_3, gw_443, by decide +kernel, by decide +kernel, by decide⟩
theorem ml_Rd_105 : ag_ml gc_P "GrantChain$Reader" 105 m_Rd_addStep 1 := ⟨Or.inl gw_444, gw_3, gw_447, by decide +kernel, by decide +kernel, by decide⟩
theorem ml_Rd_114 : ag_ml gc_P "GrantChain$Reader" 114 m_Ln_isAtLastStar 0 := ⟨Or.inl gw_448, gw_2, gw_451, by decide +kernel, by decide +kernel, by decide⟩
theorem ml_Rd_101 : ag_ml gc_P "GrantChain$Reader" 101 m_GC_isComparison 1 := ⟨Or.inr ⟨_, gw_452⟩, gw_1, gw_454, by decide +kernel, by decide +kernel, by decide⟩
theorem ml_Rd_61 : ag_ml gc_P "GrantChain$Reader" 61 m_Ar_copyOf3 2 := ⟨Or.inl gw_457, gw_14, gw_459, by decide +kernel, by decide +kernel, by decide⟩
theorem ml_Rd_67 : ag_ml gc_P "GrantChain$Reader" 67 m_Cl_init 5 := ⟨Or.inl gw_467, gw_16, gw_469, by decide +kernel, by decide +kernel, by decide⟩
theorem ml_GC_94 : ag_ml gc_P "GrantChain" 94 m_GC_moveLine 2 := ⟨Or.inl gw_587, gw_1, gw_590, by decide +kernel, by decide +kernel, by decide⟩
theorem il_GC_224 : ag_il gc_P "GrantChain" 224 "java/util/ArrayList" ⟨"java/util/List", "add", "(Ljava/lang/Object;)Z"⟩ m_AL_add 1 := ⟨⟨gw_592, gw_363, gw_362, gw_364, gw_366, gw_367, gw_365, gw_250⟩, gw_9, gw_368, by decide +kernel, by decide +kernel, by decide⟩
theorem ml_Lw_19 : ag_ml gc_P "GrantChainLaw" 19 m_GC_desk 0 := ⟨Or.inl gw_596, gw_1, gw_599, by decide +kernel, by decide +kernel, by decide⟩
theorem ml_Lw_22 : ag_ml gc_P "GrantChainLaw" 22 m_GC_issue 1 := ⟨Or.inl gw_603, gw_1, gw_606, by decide +kernel, by decide +kernel, by decide⟩
theorem ml_GC_101 : ag_ml gc_P "GrantChain" 101 m_GC_isRoot 1 := ⟨Or.inl gw_607, gw_1, gw_609, by decide +kernel, by decide +kernel, by decide⟩
theorem ml_GC_107 : ag_ml gc_P "GrantChain" 107 m_Tk_init 0 := ⟨Or.inr ⟨_, gw_612⟩, gw_23, gw_614, by decide +kernel, by decide +kernel, by decide⟩
theorem ml_Tk_9 : ag_ml gc_P "GrantChain$Token" 9 m_AL_init 0 := ⟨Or.inl gw_617, gw_9, gw_117, by decide +kernel, by decide +kernel, by decide⟩
theorem ml_GC_108 : ag_ml gc_P "GrantChain" 108 m_GC_keepWithNewLink 2 := ⟨Or.inl gw_635, gw_1, gw_638, by decide +kernel, by decide +kernel, by decide⟩
theorem ml_GC_170 : ag_ml gc_P "GrantChain" 170 m_GC_newKey 0 := ⟨Or.inl gw_639, gw_1, gw_642, by decide +kernel, by decide +kernel, by decide⟩
theorem ml_GC_228 : ag_ml gc_P "GrantChain" 228 m_Lk_init 5 := ⟨Or.inl gw_645, gw_24, gw_647, by decide +kernel, by decide +kernel, by decide⟩
theorem ml_GC_173 : ag_ml gc_P "GrantChain" 173 m_Tk_openWith 1 := ⟨Or.inl gw_672, gw_23, gw_675, by decide +kernel, by decide +kernel, by decide⟩
theorem ml_GC_139 : ag_ml gc_P "GrantChain" 139 m_GC_keep 1 := ⟨Or.inl gw_676, gw_1, gw_679, by decide +kernel, by decide +kernel, by decide⟩
theorem ml_Lw_26 : ag_ml gc_P "GrantChainLaw" 26 m_GC_append 1 := ⟨Or.inl gw_684, gw_1, gw_687, by decide +kernel, by decide +kernel, by decide⟩
theorem ml_GC_112 : ag_ml gc_P "GrantChain" 112 m_GC_isToken 1 := ⟨Or.inl gw_688, gw_1, gw_691, by decide +kernel, by decide +kernel, by decide⟩
theorem il_GC_118 : ag_il gc_P "GrantChain" 118 "java/util/ArrayList" ⟨"java/util/List", "get", "(I)Ljava/lang/Object;"⟩ m_AL_get 1 := ⟨⟨gw_708, gw_710, gw_709, gw_711, gw_713, gw_714, gw_712, gw_250⟩, gw_9, gw_715, by decide +kernel, by decide +kernel, by decide⟩
theorem ml_AL_118 : ag_ml gc_P "java/util/ArrayList" 118 m_Ob_checkIndex 2 := ⟨Or.inl gw_716, gw_26, gw_718, by decide +kernel, by decide +kernel, by decide⟩
theorem ml_Ob_105 : ag_ml gc_P "java/util/Objects" 105 m_Pr_checkIndex 3 := ⟨Or.inl gw_719, gw_27, gw_721, by decide +kernel, by decide +kernel, by decide⟩
theorem ml_AL_123 : ag_ml gc_P "java/util/ArrayList" 123 m_AL_elementData 1 := ⟨Or.inl gw_722, gw_9, gw_725, by decide +kernel, by decide +kernel, by decide⟩
theorem ml_GC_129 : ag_ml gc_P "GrantChain" 129 m_Tk_copy 0 := ⟨Or.inl gw_726, gw_23, gw_729, by decide +kernel, by decide +kernel, by decide⟩
theorem ml_Tk_16 : ag_ml gc_P "GrantChain$Token" 16 m_Tk_init 0 := ⟨Or.inl gw_731, gw_23, gw_614, by decide +kernel, by decide +kernel, by decide⟩
theorem il_Tk_17 : ag_il gc_P "GrantChain$Token" 17 "java/util/ArrayList" ⟨"java/util/List", "size", "()I"⟩ m_AL_size 0 := ⟨⟨gw_733, gw_271, gw_270, gw_272, gw_274, gw_275, gw_273, gw_250⟩, gw_9, gw_276, by decide +kernel, by decide +kernel, by decide⟩
theorem il_Tk_23 : ag_il gc_P "GrantChain$Token" 23 "java/util/ArrayList" ⟨"java/util/List", "get", "(I)Ljava/lang/Object;"⟩ m_AL_get 1 := ⟨⟨gw_735, gw_710, gw_709, gw_711, gw_713, gw_714, gw_712, gw_250⟩, gw_9, gw_715, by decide +kernel, by decide +kernel, by decide⟩
theorem il_Tk_29 : ag_il gc_P "GrantChain$Token" 29 "java/util/ArrayList" ⟨"java/util/List", "add", "(Ljava/lang/Object;)Z"⟩ m_AL_add 1 := ⟨⟨gw_738, gw_363, gw_362, gw_364, gw_366, gw_367, gw_365, gw_250⟩, gw_9, gw_368, by decide +kernel, by decide +kernel, by decide⟩
theorem ml_Lw_31 : ag_ml gc_P "GrantChainLaw" 31 m_GC_seal 1 := ⟨Or.inl gw_742, gw_1, gw_745, by decide +kernel, by decide +kernel, by decide⟩
theorem ml_Lw_34 : ag_ml gc_P "GrantChainLaw" 34 m_GC_tamper 4 := ⟨Or.inl gw_749, gw_1, gw_752, by decide +kernel, by decide +kernel, by decide⟩
theorem ml_GC_143 : ag_ml gc_P "GrantChain" 143 m_GC_canTamper 4 := ⟨Or.inl gw_753, gw_1, gw_755, by decide +kernel, by decide +kernel, by decide⟩
theorem ml_GC_147 : ag_ml gc_P "GrantChain" 147 m_Tk_cutTo 1 := ⟨Or.inl gw_756, gw_23, gw_759, by decide +kernel, by decide +kernel, by decide⟩
theorem il_Tk_44 : ag_il gc_P "GrantChain$Token" 44 "java/util/ArrayList" ⟨"java/util/List", "remove", "(I)Ljava/lang/Object;"⟩ m_AL_remove 1 := ⟨⟨gw_761, gw_763, gw_762, gw_764, gw_766, gw_767, gw_765, gw_250⟩, gw_9, gw_768, by decide +kernel, by decide +kernel, by decide⟩
theorem ml_AL_144 : ag_ml gc_P "java/util/ArrayList" 144 m_AL_fastRemove 2 := ⟨Or.inl gw_769, gw_9, gw_772, by decide +kernel, by decide +kernel, by decide⟩
theorem ml_GC_151 : ag_ml gc_P "GrantChain" 151 m_Tk_swapBlocks 2 := ⟨Or.inl gw_774, gw_23, gw_777, by decide +kernel, by decide +kernel, by decide⟩
theorem ml_Tk_69 : ag_ml gc_P "GrantChain$Token" 69 m_Tk_changeLink 3 := ⟨Or.inl gw_778, gw_23, gw_781, by decide +kernel, by decide +kernel, by decide⟩
theorem ml_Tk_56 : ag_ml gc_P "GrantChain$Token" 56 m_Lk_init 5 := ⟨Or.inl gw_782, gw_24, gw_647, by decide +kernel, by decide +kernel, by decide⟩
theorem il_Tk_59 : ag_il gc_P "GrantChain$Token" 59 "java/util/ArrayList" ⟨"java/util/List", "set", "(ILjava/lang/Object;)Ljava/lang/Object;"⟩ m_AL_set 2 := ⟨⟨gw_784, gw_786, gw_785, gw_787, gw_789, gw_790, gw_788, gw_250⟩, gw_9, gw_791, by decide +kernel, by decide +kernel, by decide⟩
theorem ml_GC_155 : ag_ml gc_P "GrantChain" 155 m_Tk_swapLinks 2 := ⟨Or.inl gw_792, gw_23, gw_795, by decide +kernel, by decide +kernel, by decide⟩
theorem ml_GC_163 : ag_ml gc_P "GrantChain" 163 m_Tk_changeLink 3 := ⟨Or.inl gw_796, gw_23, gw_781, by decide +kernel, by decide +kernel, by decide⟩
theorem ml_GC_176 : ag_ml gc_P "GrantChain" 176 m_Tk_signAnew 1 := ⟨Or.inl gw_797, gw_23, gw_800, by decide +kernel, by decide +kernel, by decide⟩
theorem ml_Lw_38 : ag_ml gc_P "GrantChainLaw" 38 m_GC_authorize 2 := ⟨Or.inl gw_804, gw_1, gw_807, by decide +kernel, by decide +kernel, by decide⟩
theorem ml_GC_179 : ag_ml gc_P "GrantChain" 179 m_Jg_begin 1 := ⟨Or.inl gw_808, gw_4, gw_811, by decide +kernel, by decide +kernel, by decide⟩
theorem ml_Jg_36 : ag_ml gc_P "GrantChain$Judge" 36 m_Fa_begin 1 := ⟨Or.inl gw_812, gw_5, gw_815, by decide +kernel, by decide +kernel, by decide⟩
theorem ml_GC_182 : ag_ml gc_P "GrantChain" 182 m_Tk_isRightFor 1 := ⟨Or.inl gw_816, gw_23, gw_819, by decide +kernel, by decide +kernel, by decide⟩
theorem ml_Tk_73 : ag_ml gc_P "GrantChain$Token" 73 m_Lk_isSignedBy 1 := ⟨Or.inl gw_820, gw_24, gw_823, by decide +kernel, by decide +kernel, by decide⟩
theorem ml_GC_185 : ag_ml gc_P "GrantChain" 185 m_Jg_end 1 := ⟨Or.inl gw_824, gw_4, gw_827, by decide +kernel, by decide +kernel, by decide⟩
theorem ml_Jg_50 : ag_ml gc_P "GrantChain$Judge" 50 m_Fa_sort 0 := ⟨Or.inl gw_828, gw_5, gw_831, by decide +kernel, by decide +kernel, by decide⟩
theorem ml_Fa_33 : ag_ml gc_P "GrantChain$Facts" 33 m_Fa_order 2 := ⟨Or.inl gw_832, gw_5, gw_834, by decide +kernel, by decide +kernel, by decide⟩
theorem ml_GC_189 : ag_ml gc_P "GrantChain" 189 m_GC_layOut 1 := ⟨Or.inl gw_835, gw_1, gw_838, by decide +kernel, by decide +kernel, by decide⟩
theorem ml_GC_193 : ag_ml gc_P "GrantChain" 193 m_Jg_settle 1 := ⟨Or.inl gw_839, gw_4, gw_842, by decide +kernel, by decide +kernel, by decide⟩
theorem ml_Jg_56 : ag_ml gc_P "GrantChain$Judge" 56 m_Jg_layFacts 0 := ⟨Or.inl gw_843, gw_4, gw_846, by decide +kernel, by decide +kernel, by decide⟩
theorem il_Jg_84 : ag_il gc_P "GrantChain$Judge" 84 "java/util/ArrayList" ⟨"java/util/List", "size", "()I"⟩ m_AL_size 0 := ⟨⟨gw_848, gw_271, gw_270, gw_272, gw_274, gw_275, gw_273, gw_250⟩, gw_9, gw_276, by decide +kernel, by decide +kernel, by decide⟩
theorem il_Jg_88 : ag_il gc_P "GrantChain$Judge" 88 "java/util/ArrayList" ⟨"java/util/List", "get", "(I)Ljava/lang/Object;"⟩ m_AL_get 1 := ⟨⟨gw_850, gw_710, gw_709, gw_711, gw_713, gw_714, gw_712, gw_250⟩, gw_9, gw_715, by decide +kernel, by decide +kernel, by decide⟩
theorem ml_Jg_109 : ag_ml gc_P "GrantChain$Judge" 109 m_Fa_offer 4 := ⟨Or.inl gw_852, gw_5, gw_855, by decide +kernel, by decide +kernel, by decide⟩
theorem ml_Jg_63 : ag_ml gc_P "GrantChain$Judge" 63 m_Jg_makeRound 0 := ⟨Or.inl gw_856, gw_4, gw_859, by decide +kernel, by decide +kernel, by decide⟩
theorem ml_Jg_113 : ag_ml gc_P "GrantChain$Judge" 113 m_Jg_search 2 := ⟨Or.inl gw_860, gw_4, gw_863, by decide +kernel, by decide +kernel, by decide⟩
theorem ml_Jg_132 : ag_ml gc_P "GrantChain$Judge" 132 m_Jg_bind 4 := ⟨Or.inl gw_864, gw_4, gw_867, by decide +kernel, by decide +kernel, by decide⟩
theorem ml_Jg_139 : ag_ml gc_P "GrantChain$Judge" 139 m_Jg_finish 2 := ⟨Or.inl gw_868, gw_4, gw_871, by decide +kernel, by decide +kernel, by decide⟩
theorem ml_Jg_153 : ag_ml gc_P "GrantChain$Judge" 153 m_Jg_work 1 := ⟨Or.inl gw_872, gw_4, gw_875, by decide +kernel, by decide +kernel, by decide⟩
theorem ml_Jg_157 : ag_ml gc_P "GrantChain$Judge" 157 m_Jg_valueOf 1 := ⟨Or.inl gw_876, gw_4, gw_879, by decide +kernel, by decide +kernel, by decide⟩
theorem ml_Jg_173 : ag_ml gc_P "GrantChain$Judge" 173 m_GC_isComparison 1 := ⟨Or.inr ⟨_, gw_881⟩, gw_1, gw_454, by decide +kernel, by decide +kernel, by decide⟩
theorem ml_Jg_177 : ag_ml gc_P "GrantChain$Judge" 177 m_Jg_compare 3 := ⟨Or.inl gw_882, gw_4, gw_884, by decide +kernel, by decide +kernel, by decide⟩
theorem ml_Jg_181 : ag_ml gc_P "GrantChain$Judge" 181 m_Jg_calculate 3 := ⟨Or.inl gw_885, gw_4, gw_887, by decide +kernel, by decide +kernel, by decide⟩
theorem ml_Jg_146 : ag_ml gc_P "GrantChain$Judge" 146 m_Jg_fit 3 := ⟨Or.inl gw_892, gw_4, gw_895, by decide +kernel, by decide +kernel, by decide⟩
theorem ml_Jg_165 : ag_ml gc_P "GrantChain$Judge" 165 m_Jg_fitTerm 3 := ⟨Or.inl gw_896, gw_4, gw_899, by decide +kernel, by decide +kernel, by decide⟩
theorem ml_Jg_169 : ag_ml gc_P "GrantChain$Judge" 169 m_At_bit 1 := ⟨Or.inl gw_900, gw_11, gw_352, by decide +kernel, by decide +kernel, by decide⟩
theorem ml_GC_196 : ag_ml gc_P "GrantChain" 196 m_Jg_verdict 0 := ⟨Or.inl gw_901, gw_4, gw_904, by decide +kernel, by decide +kernel, by decide⟩
theorem ml_Jg_72 : ag_ml gc_P "GrantChain$Judge" 72 m_Jg_lookAtChecks 0 := ⟨Or.inl gw_905, gw_4, gw_908, by decide +kernel, by decide +kernel, by decide⟩
theorem ml_Jg_76 : ag_ml gc_P "GrantChain$Judge" 76 m_Jg_lookAtPolicies 0 := ⟨Or.inl gw_909, gw_4, gw_912, by decide +kernel, by decide +kernel, by decide⟩
theorem ml_Lw_42 : ag_ml gc_P "GrantChainLaw" 42 m_GC_fact 2 := ⟨Or.inl gw_916, gw_1, gw_919, by decide +kernel, by decide +kernel, by decide⟩
theorem ml_Lw_45 : ag_ml gc_P "GrantChainLaw" 45 m_GC_token 2 := ⟨Or.inl gw_923, gw_1, gw_926, by decide +kernel, by decide +kernel, by decide⟩
theorem ml_GC_220 : ag_ml gc_P "GrantChain" 220 m_Tk_tell 1 := ⟨Or.inl gw_927, gw_23, gw_930, by decide +kernel, by decide +kernel, by decide⟩
theorem ml_GC_223 : ag_ml gc_P "GrantChain" 223 m_Lk_tell 1 := ⟨Or.inl gw_931, gw_24, gw_934, by decide +kernel, by decide +kernel, by decide⟩
theorem ml_Lw_51 : ag_ml gc_P "GrantChainLaw" 51 m_Md_init 0 := ⟨Or.inl gw_937, gw_10, gw_939, by decide +kernel, by decide +kernel, by decide⟩
theorem ml_Lw_67 : ag_ml gc_P "GrantChainLaw" 67 m_Md_thrown 0 := ⟨Or.inl gw_1081, gw_10, gw_1084, by decide +kernel, by decide +kernel, by decide⟩
theorem ml_Lw_56 : ag_ml gc_P "GrantChainLaw" 56 m_Md_type 1 := ⟨Or.inl gw_1085, gw_10, gw_1088, by decide +kernel, by decide +kernel, by decide⟩
theorem ml_Lw_60 : ag_ml gc_P "GrantChainLaw" 60 m_Md_wipe 0 := ⟨Or.inl gw_1089, gw_10, gw_1092, by decide +kernel, by decide +kernel, by decide⟩
theorem ml_Lw_66 : ag_ml gc_P "GrantChainLaw" 66 m_Md_clause 0 := ⟨Or.inl gw_1093, gw_10, gw_1096, by decide +kernel, by decide +kernel, by decide⟩
theorem ml_Md_164 : ag_ml gc_P "GrantChainModel" 164 m_Md_read 2 := ⟨Or.inl gw_1097, gw_10, gw_1100, by decide +kernel, by decide +kernel, by decide⟩
theorem ml_Md_96 : ag_ml gc_P "GrantChainModel" 96 m_Md_here 0 := ⟨Or.inl gw_1101, gw_10, gw_1104, by decide +kernel, by decide +kernel, by decide⟩
theorem ml_Md_121 : ag_ml gc_P "GrantChainModel" 121 m_Md_readAtom 1 := ⟨Or.inl gw_1105, gw_10, gw_1108, by decide +kernel, by decide +kernel, by decide⟩
theorem ml_Md_125 : ag_ml gc_P "GrantChainModel" 125 m_Md_next 1 := ⟨Or.inl gw_1109, gw_10, gw_1112, by decide +kernel, by decide +kernel, by decide⟩
theorem ml_Md_134 : ag_ml gc_P "GrantChainModel" 134 m_Md_term 0 := ⟨Or.inl gw_1113, gw_10, gw_1116, by decide +kernel, by decide +kernel, by decide⟩
theorem ml_Md_138 : ag_ml gc_P "GrantChainModel" 138 m_Md_number 0 := ⟨Or.inl gw_1118, gw_10, gw_1121, by decide +kernel, by decide +kernel, by decide⟩
theorem ml_Md_100 : ag_ml gc_P "GrantChainModel" 100 m_Md_peek 1 := ⟨Or.inl gw_1122, gw_10, gw_1125, by decide +kernel, by decide +kernel, by decide⟩
theorem ml_Md_104 : ag_ml gc_P "GrantChainModel" 104 m_Md_digit 1 := ⟨Or.inl gw_1126, gw_10, gw_1128, by decide +kernel, by decide +kernel, by decide⟩
theorem ml_Md_128 : ag_ml gc_P "GrantChainModel" 128 m_Md_body 0 := ⟨Or.inl gw_1129, gw_10, gw_1132, by decide +kernel, by decide +kernel, by decide⟩
theorem ml_Md_131 : ag_ml gc_P "GrantChainModel" 131 m_Md_comparison 0 := ⟨Or.inl gw_1133, gw_10, gw_1136, by decide +kernel, by decide +kernel, by decide⟩
theorem ml_Md_141 : ag_ml gc_P "GrantChainModel" 141 m_Md_sum 0 := ⟨Or.inl gw_1137, gw_10, gw_1140, by decide +kernel, by decide +kernel, by decide⟩
theorem ml_Md_153 : ag_ml gc_P "GrantChainModel" 153 m_Md_push 1 := ⟨Or.inl gw_1141, gw_10, gw_1144, by decide +kernel, by decide +kernel, by decide⟩
theorem ml_Md_144 : ag_ml gc_P "GrantChainModel" 144 m_Md_emit 1 := ⟨Or.inl gw_1145, gw_10, gw_1148, by decide +kernel, by decide +kernel, by decide⟩
theorem ml_Md_156 : ag_ml gc_P "GrantChainModel" 156 m_Md_flush 1 := ⟨Or.inl gw_1149, gw_10, gw_1152, by decide +kernel, by decide +kernel, by decide⟩
theorem ml_Md_150 : ag_ml gc_P "GrantChainModel" 150 m_Md_timesLike 1 := ⟨Or.inl gw_1153, gw_10, gw_1155, by decide +kernel, by decide +kernel, by decide⟩
theorem ml_Md_160 : ag_ml gc_P "GrantChainModel" 160 m_Md_lastStar 0 := ⟨Or.inl gw_1156, gw_10, gw_1159, by decide +kernel, by decide +kernel, by decide⟩
theorem ml_Md_168 : ag_ml gc_P "GrantChainModel" 168 m_Md_copy 2 := ⟨Or.inl gw_1160, gw_10, gw_1163, by decide +kernel, by decide +kernel, by decide⟩
theorem ml_Lw_72 : ag_ml gc_P "GrantChainLaw" 72 m_Md_desk 0 := ⟨Or.inl gw_1164, gw_10, gw_1167, by decide +kernel, by decide +kernel, by decide⟩
theorem ml_Lw_76 : ag_ml gc_P "GrantChainLaw" 76 m_Md_clear 0 := ⟨Or.inl gw_1168, gw_10, gw_1171, by decide +kernel, by decide +kernel, by decide⟩
theorem ml_Lw_80 : ag_ml gc_P "GrantChainLaw" 80 m_Md_issue 1 := ⟨Or.inl gw_1172, gw_10, gw_1175, by decide +kernel, by decide +kernel, by decide⟩
theorem ml_Md_181 : ag_ml gc_P "GrantChainModel" 181 m_Md_close 0 := ⟨Or.inl gw_1176, gw_10, gw_1179, by decide +kernel, by decide +kernel, by decide⟩
theorem ml_Md_184 : ag_ml gc_P "GrantChainModel" 184 m_Md_setLink 5 := ⟨Or.inl gw_1180, gw_10, gw_1183, by decide +kernel, by decide +kernel, by decide⟩
theorem ml_Lw_83 : ag_ml gc_P "GrantChainLaw" 83 m_Md_append 1 := ⟨Or.inl gw_1184, gw_10, gw_1187, by decide +kernel, by decide +kernel, by decide⟩
theorem ml_Md_188 : ag_ml gc_P "GrantChainModel" 188 m_Md_isToken 1 := ⟨Or.inl gw_1188, gw_10, gw_1191, by decide +kernel, by decide +kernel, by decide⟩
theorem ml_Md_191 : ag_ml gc_P "GrantChainModel" 191 m_Md_like 1 := ⟨Or.inl gw_1192, gw_10, gw_1195, by decide +kernel, by decide +kernel, by decide⟩
theorem ml_Lw_86 : ag_ml gc_P "GrantChainLaw" 86 m_Md_seal 1 := ⟨Or.inl gw_1196, gw_10, gw_1199, by decide +kernel, by decide +kernel, by decide⟩
theorem ml_Lw_90 : ag_ml gc_P "GrantChainLaw" 90 m_Md_tamper 4 := ⟨Or.inl gw_1200, gw_10, gw_1203, by decide +kernel, by decide +kernel, by decide⟩
theorem ml_Md_194 : ag_ml gc_P "GrantChainModel" 194 m_Md_change 4 := ⟨Or.inl gw_1204, gw_10, gw_1207, by decide +kernel, by decide +kernel, by decide⟩
theorem ml_Md_198 : ag_ml gc_P "GrantChainModel" 198 m_Md_link 3 := ⟨Or.inl gw_1208, gw_10, gw_1211, by decide +kernel, by decide +kernel, by decide⟩
theorem ml_Lw_95 : ag_ml gc_P "GrantChainLaw" 95 m_Md_limits 2 := ⟨Or.inl gw_1212, gw_10, gw_1215, by decide +kernel, by decide +kernel, by decide⟩
theorem ml_Lw_99 : ag_ml gc_P "GrantChainLaw" 99 m_Md_authorize 2 := ⟨Or.inl gw_1216, gw_10, gw_1219, by decide +kernel, by decide +kernel, by decide⟩
theorem ml_Md_267 : ag_ml gc_P "GrantChainModel" 267 m_Md_right 2 := ⟨Or.inl gw_1220, gw_10, gw_1223, by decide +kernel, by decide +kernel, by decide⟩
theorem ml_Md_274 : ag_ml gc_P "GrantChainModel" 274 m_Md_loadAll 1 := ⟨Or.inl gw_1224, gw_10, gw_1227, by decide +kernel, by decide +kernel, by decide⟩
theorem ml_Md_255 : ag_ml gc_P "GrantChainModel" 255 m_Md_load 2 := ⟨Or.inl gw_1228, gw_10, gw_1231, by decide +kernel, by decide +kernel, by decide⟩
theorem ml_Md_246 : ag_ml gc_P "GrantChainModel" 246 m_Md_worth 1 := ⟨Or.inl gw_1232, gw_10, gw_1235, by decide +kernel, by decide +kernel, by decide⟩
theorem ml_Md_249 : ag_ml gc_P "GrantChainModel" 249 m_Md_add 5 := ⟨Or.inl gw_1236, gw_10, gw_1239, by decide +kernel, by decide +kernel, by decide⟩
theorem ml_Md_277 : ag_ml gc_P "GrantChainModel" 277 m_Md_made 0 := ⟨Or.inl gw_1240, gw_10, gw_1243, by decide +kernel, by decide +kernel, by decide⟩
theorem ml_Md_261 : ag_ml gc_P "GrantChainModel" 261 m_Md_bindings 2 := ⟨Or.inl gw_1244, gw_10, gw_1247, by decide +kernel, by decide +kernel, by decide⟩
theorem ml_Md_236 : ag_ml gc_P "GrantChainModel" 236 m_Md_fit 3 := ⟨Or.inl gw_1248, gw_10, gw_1251, by decide +kernel, by decide +kernel, by decide⟩
theorem ml_Md_205 : ag_ml gc_P "GrantChainModel" 205 m_Md_trusted 1 := ⟨Or.inl gw_1252, gw_10, gw_1255, by decide +kernel, by decide +kernel, by decide⟩
theorem ml_Md_239 : ag_ml gc_P "GrantChainModel" 239 m_Md_complete 2 := ⟨Or.inl gw_1256, gw_10, gw_1259, by decide +kernel, by decide +kernel, by decide⟩
theorem ml_Md_243 : ag_ml gc_P "GrantChainModel" 243 m_Md_compare 1 := ⟨Or.inl gw_1260, gw_10, gw_1263, by decide +kernel, by decide +kernel, by decide⟩
theorem ml_Md_213 : ag_ml gc_P "GrantChainModel" 213 m_Md_joined 3 := ⟨Or.inl gw_1264, gw_10, gw_1266, by decide +kernel, by decide +kernel, by decide⟩
theorem ml_Md_217 : ag_ml gc_P "GrantChainModel" 217 m_Md_compared 3 := ⟨Or.inl gw_1270, gw_10, gw_1272, by decide +kernel, by decide +kernel, by decide⟩
theorem ml_Md_280 : ag_ml gc_P "GrantChainModel" 280 m_Md_decide 0 := ⟨Or.inl gw_1273, gw_10, gw_1276, by decide +kernel, by decide +kernel, by decide⟩
theorem ml_Lw_103 : ag_ml gc_P "GrantChainLaw" 103 m_Md_latest 1 := ⟨Or.inl gw_1277, gw_10, gw_1280, by decide +kernel, by decide +kernel, by decide⟩
theorem ml_Lw_106 : ag_ml gc_P "GrantChainLaw" 106 m_Md_fact 2 := ⟨Or.inl gw_1281, gw_10, gw_1284, by decide +kernel, by decide +kernel, by decide⟩
theorem ml_Md_283 : ag_ml gc_P "GrantChainModel" 283 m_Md_before 2 := ⟨Or.inl gw_1285, gw_10, gw_1288, by decide +kernel, by decide +kernel, by decide⟩
theorem ml_Lw_109 : ag_ml gc_P "GrantChainLaw" 109 m_Md_token 2 := ⟨Or.inl gw_1289, gw_10, gw_1292, by decide +kernel, by decide +kernel, by decide⟩
theorem ml_Lw_113 : ag_ml gc_P "GrantChainLaw" 113 m_Md_count 1 := ⟨Or.inl gw_1293, gw_10, gw_1296, by decide +kernel, by decide +kernel, by decide⟩
