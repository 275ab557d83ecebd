theorem jin_X2 : ∀ w ∈ u_ws RX2 TX2 5, w ∈ jg := show ∀ w ∈ [u_lay RX2 TX2 0, u_lay RX2 TX2 1, u_lay RX2 TX2 2, u_lay RX2 TX2 3, u_lay RX2 TX2 4], w ∈ jg from List.forall_mem_cons.mpr ⟨tm_214, List.forall_mem_cons.mpr ⟨tm_216, List.forall_mem_cons.mpr ⟨tm_218, List.forall_mem_cons.mpr ⟨tm_220, List.forall_mem_cons.mpr ⟨tm_222, fun _ h => absurd h List.not_mem_nil⟩⟩⟩⟩⟩
theorem jin_X3 : ∀ w ∈ u_ws RX3 TX3 2, w ∈ jg := show ∀ w ∈ [u_lay RX3 TX3 0, u_lay RX3 TX3 1], w ∈ jg from List.forall_mem_cons.mpr ⟨tm_119, List.forall_mem_cons.mpr ⟨tm_121, fun _ h => absurd h List.not_mem_nil⟩⟩
theorem jin_X4 : ∀ w ∈ u_ws RX4 TX4 12, w ∈ jg := show ∀ w ∈ [u_lay RX4 TX4 0, u_lay RX4 TX4 1, u_lay RX4 TX4 2, u_lay RX4 TX4 3, u_lay RX4 TX4 4, u_lay RX4 TX4 5, u_lay RX4 TX4 6, u_lay RX4 TX4 7, u_lay RX4 TX4 8, u_lay RX4 TX4 9, u_lay RX4 TX4 10, u_lay RX4 TX4 11], w ∈ jg from List.forall_mem_cons.mpr ⟨tm_83, List.forall_mem_cons.mpr ⟨tm_85, List.forall_mem_cons.mpr ⟨tm_87, List.forall_mem_cons.mpr ⟨tm_89, List.forall_mem_cons.mpr ⟨tm_91, List.forall_mem_cons.mpr ⟨tm_93, List.forall_mem_cons.mpr ⟨tm_95, List.forall_mem_cons.mpr ⟨tm_97, List.forall_mem_cons.mpr ⟨tm_99, List.forall_mem_cons.mpr ⟨tm_101, List.forall_mem_cons.mpr ⟨tm_103, List.forall_mem_cons.mpr ⟨tm_105, fun _ h => absurd h List.not_mem_nil⟩⟩⟩⟩⟩⟩⟩⟩⟩⟩⟩⟩
theorem jin_X5 : ∀ w ∈ u_ws RX5 TX5 4, w ∈ jg := show ∀ w ∈ [u_lay RX5 TX5 0, u_lay RX5 TX5 1, u_lay RX5 TX5 2, u_lay RX5 TX5 3], w ∈ jg from List.forall_mem_cons.mpr ⟨tm_135, List.forall_mem_cons.mpr ⟨tm_137, List.forall_mem_cons.mpr ⟨tm_139, List.forall_mem_cons.mpr ⟨tm_141, fun _ h => absurd h List.not_mem_nil⟩⟩⟩⟩
theorem jin_X6 : ∀ w ∈ u_ws RX6 TX6 5, w ∈ jg := show ∀ w ∈ [u_lay RX6 TX6 0, u_lay RX6 TX6 1, u_lay RX6 TX6 2, u_lay RX6 TX6 3, u_lay RX6 TX6 4], w ∈ jg from List.forall_mem_cons.mpr ⟨tm_154, List.forall_mem_cons.mpr ⟨tm_156, List.forall_mem_cons.mpr ⟨tm_158, List.forall_mem_cons.mpr ⟨tm_160, List.forall_mem_cons.mpr ⟨tm_162, fun _ h => absurd h List.not_mem_nil⟩⟩⟩⟩⟩
theorem jin_X7 : ∀ w ∈ u_ws RX7 TX7 8, w ∈ jg := show ∀ w ∈ [u_lay RX7 TX7 0, u_lay RX7 TX7 1, u_lay RX7 TX7 2, u_lay RX7 TX7 3, u_lay RX7 TX7 4, u_lay RX7 TX7 5, u_lay RX7 TX7 6, u_lay RX7 TX7 7], w ∈ jg from List.forall_mem_cons.mpr ⟨tm_181, List.forall_mem_cons.mpr ⟨tm_183, List.forall_mem_cons.mpr ⟨tm_185, List.forall_mem_cons.mpr ⟨tm_187, List.forall_mem_cons.mpr ⟨tm_189, List.forall_mem_cons.mpr ⟨tm_191, List.forall_mem_cons.mpr ⟨tm_193, List.forall_mem_cons.mpr ⟨tm_195, fun _ h => absurd h List.not_mem_nil⟩⟩⟩⟩⟩⟩⟩⟩
theorem jin_X8 : ∀ w ∈ u_ws RX8 TX8 13, w ∈ jg := show ∀ w ∈ [u_lay RX8 TX8 0, u_lay RX8 TX8 1, u_lay RX8 TX8 2, u_lay RX8 TX8 3, u_lay RX8 TX8 4, u_lay RX8 TX8 5, u_lay RX8 TX8 6, u_lay RX8 TX8 7, u_lay RX8 TX8 8, u_lay RX8 TX8 9, u_lay RX8 TX8 10, u_lay RX8 TX8 11, u_lay RX8 TX8 12], w ∈ jg from List.forall_mem_cons.mpr ⟨tm_238, List.forall_mem_cons.mpr ⟨tm_240, List.forall_mem_cons.mpr ⟨tm_242, List.forall_mem_cons.mpr ⟨tm_244, List.forall_mem_cons.mpr ⟨tm_246, List.forall_mem_cons.mpr ⟨tm_248, List.forall_mem_cons.mpr ⟨tm_250, List.forall_mem_cons.mpr ⟨tm_252, List.forall_mem_cons.mpr ⟨tm_254, List.forall_mem_cons.mpr ⟨tm_256, List.forall_mem_cons.mpr ⟨tm_258, List.forall_mem_cons.mpr ⟨tm_260, List.forall_mem_cons.mpr ⟨tm_262, fun _ h => absurd h List.not_mem_nil⟩⟩⟩⟩⟩⟩⟩⟩⟩⟩⟩⟩⟩
theorem jin_X9 : ∀ w ∈ u_ws RX9 TX9 17, w ∈ jg := show ∀ w ∈ [u_lay RX9 TX9 0, u_lay RX9 TX9 1, u_lay RX9 TX9 2, u_lay RX9 TX9 3, u_lay RX9 TX9 4, u_lay RX9 TX9 5, u_lay RX9 TX9 6, u_lay RX9 TX9 7, u_lay RX9 TX9 8, u_lay RX9 TX9 9, u_lay RX9 TX9 10, u_lay RX9 TX9 11, u_lay RX9 TX9 12, u_lay RX9 TX9 13, u_lay RX9 TX9 14, u_lay RX9 TX9 15, u_lay RX9 TX9 16], w ∈ jg from List.forall_mem_cons.mpr ⟨tm_799, List.forall_mem_cons.mpr ⟨tm_801, List.forall_mem_cons.mpr ⟨tm_803, List.forall_mem_cons.mpr ⟨tm_805, List.forall_mem_cons.mpr ⟨tm_807, List.forall_mem_cons.mpr ⟨tm_809, List.forall_mem_cons.mpr ⟨tm_811, List.forall_mem_cons.mpr ⟨tm_813, List.forall_mem_cons.mpr ⟨tm_815, List.forall_mem_cons.mpr ⟨tm_817, List.forall_mem_cons.mpr ⟨tm_819, List.forall_mem_cons.mpr ⟨tm_821, List.forall_mem_cons.mpr ⟨tm_823, List.forall_mem_cons.mpr ⟨tm_825, List.forall_mem_cons.mpr ⟨tm_827, List.forall_mem_cons.mpr ⟨tm_829, List.forall_mem_cons.mpr ⟨tm_831, fun _ h => absurd h List.not_mem_nil⟩⟩⟩⟩⟩⟩⟩⟩⟩⟩⟩⟩⟩⟩⟩⟩⟩
theorem jf_X4_34 : JF RX4 34 2 0 := ⟨RX4, TX4, 12, rfl, by decide, jin_X4, tm_45⟩
theorem jp_X4_34 : JP RX4 34 2 0 false .int := ⟨RX4, TX4, 12, tyX4, rfl, by decide, jin_X4, tm_45, tyX4_ok, nmX4, rfl, tyX4_ok 0 (by decide), fun h => rfl⟩
theorem jf_X7_67 : JF RX7 67 2 0 := ⟨RX4, TX4, 12, rfl, by decide, jin_X4, tm_46⟩
theorem jp_X7_67 : JP RX7 67 2 0 false .int := ⟨RX4, TX4, 12, tyX4, rfl, by decide, jin_X4, tm_46, tyX4_ok, nmX4, rfl, tyX4_ok 0 (by decide), fun h => by cases h⟩
theorem jf_X8_278 : JF RX8 278 2 0 := ⟨RX4, TX4, 12, rfl, by decide, jin_X4, tm_47⟩
theorem jp_X8_278 : JP RX8 278 2 0 false .int := ⟨RX4, TX4, 12, tyX4, rfl, by decide, jin_X4, tm_47, tyX4_ok, nmX4, rfl, tyX4_ok 0 (by decide), fun h => by cases h⟩
theorem jf_X4_38 : JF RX4 38 2 1 := ⟨RX4, TX4, 12, rfl, by decide, jin_X4, tm_48⟩
theorem jp_X4_38 : JP RX4 38 2 1 false .int := ⟨RX4, TX4, 12, tyX4, rfl, by decide, jin_X4, tm_48, tyX4_ok, nmX4, rfl, tyX4_ok 1 (by decide), fun h => rfl⟩
theorem jf_X3_25 : JF RX3 25 2 1 := ⟨RX4, TX4, 12, rfl, by decide, jin_X4, tm_49⟩
theorem jp_X3_25 : JP RX3 25 2 1 false .int := ⟨RX4, TX4, 12, tyX4, rfl, by decide, jin_X4, tm_49, tyX4_ok, nmX4, rfl, tyX4_ok 1 (by decide), fun h => by cases h⟩
theorem jf_X2_44 : JF RX2 44 2 1 := ⟨RX4, TX4, 12, rfl, by decide, jin_X4, tm_50⟩
theorem jp_X2_44 : JP RX2 44 2 1 false .int := ⟨RX4, TX4, 12, tyX4, rfl, by decide, jin_X4, tm_50, tyX4_ok, nmX4, rfl, tyX4_ok 1 (by decide), fun h => by cases h⟩
theorem jf_X8_135 : JF RX8 135 2 1 := ⟨RX4, TX4, 12, rfl, by decide, jin_X4, tm_51⟩
theorem jp_X8_135 : JP RX8 135 2 1 false .int := ⟨RX4, TX4, 12, tyX4, rfl, by decide, jin_X4, tm_51, tyX4_ok, nmX4, rfl, tyX4_ok 1 (by decide), fun h => by cases h⟩
theorem jf_X4_41 : JF RX4 41 2 2 := ⟨RX4, TX4, 12, rfl, by decide, jin_X4, tm_52⟩
theorem jp_X4_41 : JP RX4 41 2 2 false .int := ⟨RX4, TX4, 12, tyX4, rfl, by decide, jin_X4, tm_52, tyX4_ok, nmX4, rfl, tyX4_ok 2 (by decide), fun h => rfl⟩
theorem jf_X3_30 : JF RX3 30 2 2 := ⟨RX4, TX4, 12, rfl, by decide, jin_X4, tm_53⟩
theorem jp_X3_30 : JP RX3 30 2 2 false .int := ⟨RX4, TX4, 12, tyX4, rfl, by decide, jin_X4, tm_53, tyX4_ok, nmX4, rfl, tyX4_ok 2 (by decide), fun h => by cases h⟩
theorem jf_X2_52 : JF RX2 52 2 2 := ⟨RX4, TX4, 12, rfl, by decide, jin_X4, tm_54⟩
theorem jp_X2_52 : JP RX2 52 2 2 false .int := ⟨RX4, TX4, 12, tyX4, rfl, by decide, jin_X4, tm_54, tyX4_ok, nmX4, rfl, tyX4_ok 2 (by decide), fun h => by cases h⟩
theorem jf_X8_138 : JF RX8 138 2 2 := ⟨RX4, TX4, 12, rfl, by decide, jin_X4, tm_55⟩
theorem jp_X8_138 : JP RX8 138 2 2 false .int := ⟨RX4, TX4, 12, tyX4, rfl, by decide, jin_X4, tm_55, tyX4_ok, nmX4, rfl, tyX4_ok 2 (by decide), fun h => by cases h⟩
theorem jf_X4_44 : JF RX4 44 2 3 := ⟨RX4, TX4, 12, rfl, by decide, jin_X4, tm_56⟩
theorem jp_X4_44 : JP RX4 44 2 3 false .int := ⟨RX4, TX4, 12, tyX4, rfl, by decide, jin_X4, tm_56, tyX4_ok, nmX4, rfl, tyX4_ok 3 (by decide), fun h => rfl⟩
theorem jf_X2_49 : JF RX2 49 2 3 := ⟨RX4, TX4, 12, rfl, by decide, jin_X4, tm_57⟩
theorem jp_X2_49 : JP RX2 49 2 3 false .int := ⟨RX4, TX4, 12, tyX4, rfl, by decide, jin_X4, tm_57, tyX4_ok, nmX4, rfl, tyX4_ok 3 (by decide), fun h => by cases h⟩
theorem jf_X3_33 : JF RX3 33 2 3 := ⟨RX4, TX4, 12, rfl, by decide, jin_X4, tm_58⟩
theorem jp_X3_33 : JP RX3 33 2 3 false .int := ⟨RX4, TX4, 12, tyX4, rfl, by decide, jin_X4, tm_58, tyX4_ok, nmX4, rfl, tyX4_ok 3 (by decide), fun h => by cases h⟩
theorem jf_X7_98 : JF RX7 98 2 3 := ⟨RX4, TX4, 12, rfl, by decide, jin_X4, tm_59⟩
theorem jp_X7_98 : JP RX7 98 2 3 false .int := ⟨RX4, TX4, 12, tyX4, rfl, by decide, jin_X4, tm_59, tyX4_ok, nmX4, rfl, tyX4_ok 3 (by decide), fun h => by cases h⟩
theorem jf_X8_147 : JF RX8 147 2 3 := ⟨RX4, TX4, 12, rfl, by decide, jin_X4, tm_60⟩
theorem jp_X8_147 : JP RX8 147 2 3 false .int := ⟨RX4, TX4, 12, tyX4, rfl, by decide, jin_X4, tm_60, tyX4_ok, nmX4, rfl, tyX4_ok 3 (by decide), fun h => by cases h⟩
theorem jf_X4_47 : JF RX4 47 2 4 := ⟨RX4, TX4, 12, rfl, by decide, jin_X4, tm_61⟩
theorem jp_X4_47 : JP RX4 47 2 4 false .int := ⟨RX4, TX4, 12, tyX4, rfl, by decide, jin_X4, tm_61, tyX4_ok, nmX4, rfl, tyX4_ok 4 (by decide), fun h => rfl⟩
theorem jf_X3_36 : JF RX3 36 2 4 := ⟨RX4, TX4, 12, rfl, by decide, jin_X4, tm_62⟩
theorem jp_X3_36 : JP RX3 36 2 4 false .int := ⟨RX4, TX4, 12, tyX4, rfl, by decide, jin_X4, tm_62, tyX4_ok, nmX4, rfl, tyX4_ok 4 (by decide), fun h => by cases h⟩
theorem jf_X7_100 : JF RX7 100 2 4 := ⟨RX4, TX4, 12, rfl, by decide, jin_X4, tm_63⟩
theorem jp_X7_100 : JP RX7 100 2 4 false .int := ⟨RX4, TX4, 12, tyX4, rfl, by decide, jin_X4, tm_63, tyX4_ok, nmX4, rfl, tyX4_ok 4 (by decide), fun h => by cases h⟩
theorem jf_X8_129 : JF RX8 129 2 4 := ⟨RX4, TX4, 12, rfl, by decide, jin_X4, tm_64⟩
theorem jp_X8_129 : JP RX8 129 2 4 false .int := ⟨RX4, TX4, 12, tyX4, rfl, by decide, jin_X4, tm_64, tyX4_ok, nmX4, rfl, tyX4_ok 4 (by decide), fun h => by cases h⟩
theorem jf_X4_50 : JF RX4 50 2 5 := ⟨RX4, TX4, 12, rfl, by decide, jin_X4, tm_65⟩
theorem jp_X4_50 : JP RX4 50 2 5 false .int := ⟨RX4, TX4, 12, tyX4, rfl, by decide, jin_X4, tm_65, tyX4_ok, nmX4, rfl, tyX4_ok 5 (by decide), fun h => rfl⟩
theorem jf_X8_69 : JF RX8 69 2 5 := ⟨RX4, TX4, 12, rfl, by decide, jin_X4, tm_66⟩
theorem jp_X8_69 : JP RX8 69 2 5 false .int := ⟨RX4, TX4, 12, tyX4, rfl, by decide, jin_X4, tm_66, tyX4_ok, nmX4, rfl, tyX4_ok 5 (by decide), fun h => by cases h⟩
theorem jf_X7_80 : JF RX7 80 2 5 := ⟨RX4, TX4, 12, rfl, by decide, jin_X4, tm_67⟩
theorem jp_X7_80 : JP RX7 80 2 5 false .int := ⟨RX4, TX4, 12, tyX4, rfl, by decide, jin_X4, tm_67, tyX4_ok, nmX4, rfl, tyX4_ok 5 (by decide), fun h => by cases h⟩
theorem jf_X4_9 : JF RX4 9 2 6 := ⟨RX4, TX4, 12, rfl, by decide, jin_X4, tm_68⟩
theorem jp_X4_9 : JP RX4 9 2 6 true (.array .int) := ⟨RX4, TX4, 12, tyX4, rfl, by decide, jin_X4, tm_68, tyX4_ok, nmX4, rfl, tyX4_ok 6 (by decide), fun h => rfl⟩
theorem jf_X8_84 : JF RX8 84 2 6 := ⟨RX4, TX4, 12, rfl, by decide, jin_X4, tm_69⟩
-- X8_84: a final field of another
theorem jf_X4_15 : JF RX4 15 2 7 := ⟨RX4, TX4, 12, rfl, by decide, jin_X4, tm_70⟩
theorem jp_X4_15 : JP RX4 15 2 7 true (.array .int) := ⟨RX4, TX4, 12, tyX4, rfl, by decide, jin_X4, tm_70, tyX4_ok, nmX4, rfl, tyX4_ok 7 (by decide), fun h => rfl⟩
theorem jf_X8_172 : JF RX8 172 2 7 := ⟨RX4, TX4, 12, rfl, by decide, jin_X4, tm_71⟩
-- X8_172: a final field of another
theorem jf_X4_18 : JF RX4 18 2 8 := ⟨RX4, TX4, 12, rfl, by decide, jin_X4, tm_72⟩
theorem jp_X4_18 : JP RX4 18 2 8 true (.array .int) := ⟨RX4, TX4, 12, tyX4, rfl, by decide, jin_X4, tm_72, tyX4_ok, nmX4, rfl, tyX4_ok 8 (by decide), fun h => rfl⟩
theorem jf_X8_153 : JF RX8 153 2 8 := ⟨RX4, TX4, 12, rfl, by decide, jin_X4, tm_73⟩
-- X8_153: a final field of another
theorem jf_X4_21 : JF RX4 21 2 9 := ⟨RX4, TX4, 12, rfl, by decide, jin_X4, tm_74⟩
theorem jp_X4_21 : JP RX4 21 2 9 true (.array .int) := ⟨RX4, TX4, 12, tyX4, rfl, by decide, jin_X4, tm_74, tyX4_ok, nmX4, rfl, tyX4_ok 9 (by decide), fun h => rfl⟩
theorem jf_X8_156 : JF RX8 156 2 9 := ⟨RX4, TX4, 12, rfl, by decide, jin_X4, tm_75⟩
-- X8_156: a final field of another
theorem jf_X4_24 : JF RX4 24 2 10 := ⟨RX4, TX4, 12, rfl, by decide, jin_X4, tm_76⟩
theorem jp_X4_24 : JP RX4 24 2 10 true (.array .int) := ⟨RX4, TX4, 12, tyX4, rfl, by decide, jin_X4, tm_76, tyX4_ok, nmX4, rfl, tyX4_ok 10 (by decide), fun h => rfl⟩
theorem jf_X3_39 : JF RX3 39 2 10 := ⟨RX4, TX4, 12, rfl, by decide, jin_X4, tm_77⟩
-- X3_39: a final field of another
theorem jf_X8_144 : JF RX8 144 2 10 := ⟨RX4, TX4, 12, rfl, by decide, jin_X4, tm_78⟩
-- X8_144: a final field of another
theorem jf_X4_27 : JF RX4 27 2 11 := ⟨RX4, TX4, 12, rfl, by decide, jin_X4, tm_79⟩
theorem jp_X4_27 : JP RX4 27 2 11 true (.array .int) := ⟨RX4, TX4, 12, tyX4, rfl, by decide, jin_X4, tm_79, tyX4_ok, nmX4, rfl, tyX4_ok 11 (by decide), fun h => rfl⟩
theorem jf_X3_42 : JF RX3 42 2 11 := ⟨RX4, TX4, 12, rfl, by decide, jin_X4, tm_80⟩
-- X3_42: a final field of another
theorem jf_X2_62 : JF RX2 62 2 11 := ⟨RX4, TX4, 12, rfl, by decide, jin_X4, tm_81⟩
-- X2_62: a final field of another
theorem jf_X8_159 : JF RX8 159 2 11 := ⟨RX4, TX4, 12, rfl, by decide, jin_X4, tm_82⟩
-- X8_159: a final field of another
theorem jf_X3_15 : JF RX3 15 1 0 := ⟨RX3, TX3, 2, rfl, by decide, jin_X3, tm_115⟩
theorem jp_X3_15 : JP RX3 15 1 0 false .int := ⟨RX3, TX3, 2, tyX3, rfl, by decide, jin_X3, tm_115, tyX3_ok, nmX3, rfl, tyX3_ok 0 (by decide), fun h => rfl⟩
theorem jf_X6_50 : JF RX6 50 1 0 := ⟨RX3, TX3, 2, rfl, by decide, jin_X3, tm_116⟩
theorem jp_X6_50 : JP RX6 50 1 0 false .int := ⟨RX3, TX3, 2, tyX3, rfl, by decide, jin_X3, tm_116, tyX3_ok, nmX3, rfl, tyX3_ok 0 (by decide), fun h => by cases h⟩
theorem jf_X8_95 : JF RX8 95 1 0 := ⟨RX3, TX3, 2, rfl, by decide, jin_X3, tm_117⟩
theorem jp_X8_95 : JP RX8 95 1 0 false .int := ⟨RX3, TX3, 2, tyX3, rfl, by decide, jin_X3, tm_117, tyX3_ok, nmX3, rfl, tyX3_ok 0 (by decide), fun h => by cases h⟩
theorem jf_X3_11 : JF RX3 11 1 1 := ⟨RX3, TX3, 2, rfl, by decide, jin_X3, tm_118⟩
theorem jp_X3_11 : JP RX3 11 1 1 true (.array .int) := ⟨RX3, TX3, 2, tyX3, rfl, by decide, jin_X3, tm_118, tyX3_ok, nmX3, rfl, tyX3_ok 1 (by decide), fun h => rfl⟩
theorem jf_X5_22 : JF RX5 22 3 0 := ⟨RX5, TX5, 4, rfl, by decide, jin_X5, tm_130⟩
theorem jp_X5_22 : JP RX5 22 3 0 false .int := ⟨RX5, TX5, 4, tyX5, rfl, by decide, jin_X5, tm_130, tyX5_ok, nmX5, rfl, tyX5_ok 0 (by decide), fun h => rfl⟩
theorem jf_X8_210 : JF RX8 210 3 0 := ⟨RX5, TX5, 4, rfl, by decide, jin_X5, tm_131⟩
theorem jp_X8_210 : JP RX8 210 3 0 false .int := ⟨RX5, TX5, 4, tyX5, rfl, by decide, jin_X5, tm_131, tyX5_ok, nmX5, rfl, tyX5_ok 0 (by decide), fun h => by cases h⟩
theorem jf_X5_9 : JF RX5 9 3 1 := ⟨RX5, TX5, 4, rfl, by decide, jin_X5, tm_132⟩
theorem jp_X5_9 : JP RX5 9 3 1 true .int := ⟨RX5, TX5, 4, tyX5, rfl, by decide, jin_X5, tm_132, tyX5_ok, nmX5, rfl, tyX5_ok 1 (by decide), fun h => rfl⟩
theorem jf_X5_15 : JF RX5 15 3 2 := ⟨RX5, TX5, 4, rfl, by decide, jin_X5, tm_133⟩
theorem jp_X5_15 : JP RX5 15 3 2 true .int := ⟨RX5, TX5, 4, tyX5, rfl, by decide, jin_X5, tm_133, tyX5_ok, nmX5, rfl, tyX5_ok 2 (by decide), fun h => rfl⟩
theorem jf_X5_18 : JF RX5 18 3 3 := ⟨RX5, TX5, 4, rfl, by decide, jin_X5, tm_134⟩
theorem jp_X5_18 : JP RX5 18 3 3 true (.array .int) := ⟨RX5, TX5, 4, tyX5, rfl, by decide, jin_X5, tm_134, tyX5_ok, nmX5, rfl, tyX5_ok 3 (by decide), fun h => rfl⟩
theorem jf_X6_12 : JF RX6 12 4 0 := ⟨RX6, TX6, 5, rfl, by decide, jin_X6, tm_144⟩
theorem jp_X6_12 : JP RX6 12 4 0 true (.object RX4) := ⟨RX6, TX6, 5, tyX6, rfl, by decide, jin_X6, tm_144, tyX6_ok, nmX6, rfl, tyX6_ok 0 (by decide), fun h => rfl⟩
theorem jf_X8_66 : JF RX8 66 4 0 := ⟨RX6, TX6, 5, rfl, by decide, jin_X6, tm_145⟩
-- X8_66: a final field of another
theorem jf_X6_21 : JF RX6 21 4 1 := ⟨RX6, TX6, 5, rfl, by decide, jin_X6, tm_146⟩
theorem jp_X6_21 : JP RX6 21 4 1 true (.object RX3) := ⟨RX6, TX6, 5, tyX6, rfl, by decide, jin_X6, tm_146, tyX6_ok, nmX6, rfl, tyX6_ok 1 (by decide), fun h => rfl⟩
theorem jf_X8_91 : JF RX8 91 4 1 := ⟨RX6, TX6, 5, rfl, by decide, jin_X6, tm_147⟩
-- X8_91: a final field of another
theorem jf_X6_30 : JF RX6 30 4 2 := ⟨RX6, TX6, 5, rfl, by decide, jin_X6, tm_148⟩
theorem jp_X6_30 : JP RX6 30 4 2 true (.object RX5) := ⟨RX6, TX6, 5, tyX6, rfl, by decide, jin_X6, tm_148, tyX6_ok, nmX6, rfl, tyX6_ok 2 (by decide), fun h => rfl⟩
theorem jf_X8_196 : JF RX8 196 4 2 := ⟨RX6, TX6, 5, rfl, by decide, jin_X6, tm_149⟩
-- X8_196: a final field of another
theorem jf_X6_34 : JF RX6 34 4 3 := ⟨RX6, TX6, 5, rfl, by decide, jin_X6, tm_150⟩
theorem jp_X6_34 : JP RX6 34 4 3 true (.object RX5) := ⟨RX6, TX6, 5, tyX6, rfl, by decide, jin_X6, tm_150, tyX6_ok, nmX6, rfl, tyX6_ok 3 (by decide), fun h => rfl⟩
theorem jf_X8_217 : JF RX8 217 4 3 := ⟨RX6, TX6, 5, rfl, by decide, jin_X6, tm_151⟩
-- X8_217: a final field of another
theorem jf_X6_37 : JF RX6 37 4 4 := ⟨RX6, TX6, 5, rfl, by decide, jin_X6, tm_152⟩
theorem jp_X6_37 : JP RX6 37 4 4 true (.object RX5) := ⟨RX6, TX6, 5, tyX6, rfl, by decide, jin_X6, tm_152, tyX6_ok, nmX6, rfl, tyX6_ok 4 (by decide), fun h => rfl⟩
theorem jf_X8_220 : JF RX8 220 4 4 := ⟨RX6, TX6, 5, rfl, by decide, jin_X6, tm_153⟩
-- X8_220: a final field of another
theorem jf_X7_19 : JF RX7 19 5 0 := ⟨RX7, TX7, 8, rfl, by decide, jin_X7, tm_172⟩
theorem jp_X7_19 : JP RX7 19 5 0 false .int := ⟨RX7, TX7, 8, tyX7, rfl, by decide, jin_X7, tm_172, tyX7_ok, nmX7, rfl, tyX7_ok 0 (by decide), fun h => rfl⟩
theorem jf_X8_113 : JF RX8 113 5 0 := ⟨RX7, TX7, 8, rfl, by decide, jin_X7, tm_173⟩
theorem jp_X8_113 : JP RX8 113 5 0 false .int := ⟨RX7, TX7, 8, tyX7, rfl, by decide, jin_X7, tm_173, tyX7_ok, nmX7, rfl, tyX7_ok 0 (by decide), fun h => by cases h⟩
theorem jf_X7_9 : JF RX7 9 5 1 := ⟨RX7, TX7, 8, rfl, by decide, jin_X7, tm_174⟩
theorem jp_X7_9 : JP RX7 9 5 1 true (.array .byte) := ⟨RX7, TX7, 8, tyX7, rfl, by decide, jin_X7, tm_174, tyX7_ok, nmX7, rfl, tyX7_ok 1 (by decide), fun h => rfl⟩
theorem jf_X7_29 : JF RX7 29 5 2 := ⟨RX7, TX7, 8, rfl, by decide, jin_X7, tm_175⟩
theorem jp_X7_29 : JP RX7 29 5 2 false .int := ⟨RX7, TX7, 8, tyX7, rfl, by decide, jin_X7, tm_175, tyX7_ok, nmX7, rfl, tyX7_ok 2 (by decide), fun h => rfl⟩
theorem jf_X7_46 : JF RX7 46 5 3 := ⟨RX7, TX7, 8, rfl, by decide, jin_X7, tm_176⟩
theorem jp_X7_46 : JP RX7 46 5 3 false .int := ⟨RX7, TX7, 8, tyX7, rfl, by decide, jin_X7, tm_176, tyX7_ok, nmX7, rfl, tyX7_ok 3 (by decide), fun h => rfl⟩
theorem jf_X7_23 : JF RX7 23 5 4 := ⟨RX7, TX7, 8, rfl, by decide, jin_X7, tm_177⟩
theorem jp_X7_23 : JP RX7 23 5 4 false .int := ⟨RX7, TX7, 8, tyX7, rfl, by decide, jin_X7, tm_177, tyX7_ok, nmX7, rfl, tyX7_ok 4 (by decide), fun h => rfl⟩
theorem jf_X7_106 : JF RX7 106 5 5 := ⟨RX7, TX7, 8, rfl, by decide, jin_X7, tm_178⟩
theorem jp_X7_106 : JP RX7 106 5 5 false .int := ⟨RX7, TX7, 8, tyX7, rfl, by decide, jin_X7, tm_178, tyX7_ok, nmX7, rfl, tyX7_ok 5 (by decide), fun h => rfl⟩
theorem jf_X7_39 : JF RX7 39 5 6 := ⟨RX7, TX7, 8, rfl, by decide, jin_X7, tm_179⟩
theorem jp_X7_39 : JP RX7 39 5 6 false .int := ⟨RX7, TX7, 8, tyX7, rfl, by decide, jin_X7, tm_179, tyX7_ok, nmX7, rfl, tyX7_ok 6 (by decide), fun h => rfl⟩
theorem jf_X7_15 : JF RX7 15 5 7 := ⟨RX7, TX7, 8, rfl, by decide, jin_X7, tm_180⟩
theorem jp_X7_15 : JP RX7 15 5 7 true (.array .int) := ⟨RX7, TX7, 8, tyX7, rfl, by decide, jin_X7, tm_180, tyX7_ok, nmX7, rfl, tyX7_ok 7 (by decide), fun h => rfl⟩
theorem jf_X2_18 : JF RX2 18 0 0 := ⟨RX2, TX2, 5, rfl, by decide, jin_X2, tm_207⟩
theorem jp_X2_18 : JP RX2 18 0 0 false .int := ⟨RX2, TX2, 5, tyX2, rfl, by decide, jin_X2, tm_207, tyX2_ok, nmX2, rfl, tyX2_ok 0 (by decide), fun h => rfl⟩
theorem jf_X8_190 : JF RX8 190 0 0 := ⟨RX2, TX2, 5, rfl, by decide, jin_X2, tm_208⟩
theorem jp_X8_190 : JP RX8 190 0 0 false .int := ⟨RX2, TX2, 5, tyX2, rfl, by decide, jin_X2, tm_208, tyX2_ok, nmX2, rfl, tyX2_ok 0 (by decide), fun h => by cases h⟩
theorem jf_X2_9 : JF RX2 9 0 1 := ⟨RX2, TX2, 5, rfl, by decide, jin_X2, tm_209⟩
theorem jp_X2_9 : JP RX2 9 0 1 true (.array .int) := ⟨RX2, TX2, 5, tyX2, rfl, by decide, jin_X2, tm_209, tyX2_ok, nmX2, rfl, tyX2_ok 1 (by decide), fun h => rfl⟩
theorem jf_X8_193 : JF RX8 193 0 1 := ⟨RX2, TX2, 5, rfl, by decide, jin_X2, tm_210⟩
-- X8_193: a final field of another
theorem jf_X2_15 : JF RX2 15 0 2 := ⟨RX2, TX2, 5, rfl, by decide, jin_X2, tm_211⟩
theorem jp_X2_15 : JP RX2 15 0 2 true (.array .int) := ⟨RX2, TX2, 5, tyX2, rfl, by decide, jin_X2, tm_211, tyX2_ok, nmX2, rfl, tyX2_ok 2 (by decide), fun h => rfl⟩
theorem jf_X2_22 : JF RX2 22 0 3 := ⟨RX2, TX2, 5, rfl, by decide, jin_X2, tm_212⟩
theorem jp_X2_22 : JP RX2 22 0 3 false .int := ⟨RX2, TX2, 5, tyX2, rfl, by decide, jin_X2, tm_212, tyX2_ok, nmX2, rfl, tyX2_ok 3 (by decide), fun h => rfl⟩
theorem jf_X2_31 : JF RX2 31 0 4 := ⟨RX2, TX2, 5, rfl, by decide, jin_X2, tm_213⟩
theorem jp_X2_31 : JP RX2 31 0 4 false .int := ⟨RX2, TX2, 5, tyX2, rfl, by decide, jin_X2, tm_213, tyX2_ok, nmX2, rfl, tyX2_ok 4 (by decide), fun h => rfl⟩
theorem jf_X8_10 : JF RX8 10 6 0 := ⟨RX8, TX8, 13, rfl, by decide, jin_X8, tm_225⟩
theorem jp_X8_10 : JP RX8 10 6 0 true (.object RX6) := ⟨RX8, TX8, 13, tyX8, rfl, by decide, jin_X8, tm_225, tyX8_ok, nmX8, rfl, tyX8_ok 0 (by decide), fun h => rfl⟩
theorem jf_X8_16 : JF RX8 16 6 1 := ⟨RX8, TX8, 13, rfl, by decide, jin_X8, tm_226⟩
theorem jp_X8_16 : JP RX8 16 6 1 true (.array (.object RX6)) := ⟨RX8, TX8, 13, tyX8, rfl, by decide, jin_X8, tm_226, tyX8_ok, nmX8, rfl, tyX8_ok 1 (by decide), fun h => rfl⟩
theorem jf_X8_23 : JF RX8 23 6 2 := ⟨RX8, TX8, 13, rfl, by decide, jin_X8, tm_227⟩
theorem jp_X8_23 : JP RX8 23 6 2 true (.object RX7) := ⟨RX8, TX8, 13, tyX8, rfl, by decide, jin_X8, tm_227, tyX8_ok, nmX8, rfl, tyX8_ok 2 (by decide), fun h => rfl⟩
theorem jf_X8_27 : JF RX8 27 6 3 := ⟨RX8, TX8, 13, rfl, by decide, jin_X8, tm_228⟩
theorem jp_X8_27 : JP RX8 27 6 3 false .long := ⟨RX8, TX8, 13, tyX8, rfl, by decide, jin_X8, tm_228, tyX8_ok, nmX8, rfl, tyX8_ok 3 (by decide), fun h => rfl⟩
theorem jf_X8_31 : JF RX8 31 6 4 := ⟨RX8, TX8, 13, rfl, by decide, jin_X8, tm_229⟩
theorem jp_X8_31 : JP RX8 31 6 4 false .long := ⟨RX8, TX8, 13, tyX8, rfl, by decide, jin_X8, tm_229, tyX8_ok, nmX8, rfl, tyX8_ok 4 (by decide), fun h => rfl⟩
theorem jf_X8_257 : JF RX8 257 6 5 := ⟨RX8, TX8, 13, rfl, by decide, jin_X8, tm_230⟩
theorem jp_X8_257 : JP RX8 257 6 5 false .int := ⟨RX8, TX8, 13, tyX8, rfl, by decide, jin_X8, tm_230, tyX8_ok, nmX8, rfl, tyX8_ok 5 (by decide), fun h => rfl⟩
theorem jf_X8_260 : JF RX8 260 6 6 := ⟨RX8, TX8, 13, rfl, by decide, jin_X8, tm_231⟩
theorem jp_X8_260 : JP RX8 260 6 6 false .int := ⟨RX8, TX8, 13, tyX8, rfl, by decide, jin_X8, tm_231, tyX8_ok, nmX8, rfl, tyX8_ok 6 (by decide), fun h => rfl⟩
theorem jf_X8_263 : JF RX8 263 6 7 := ⟨RX8, TX8, 13, rfl, by decide, jin_X8, tm_232⟩
theorem jp_X8_263 : JP RX8 263 6 7 false .int := ⟨RX8, TX8, 13, tyX8, rfl, by decide, jin_X8, tm_232, tyX8_ok, nmX8, rfl, tyX8_ok 7 (by decide), fun h => rfl⟩
theorem jf_X8_37 : JF RX8 37 6 8 := ⟨RX8, TX8, 13, rfl, by decide, jin_X8, tm_233⟩
theorem jp_X8_37 : JP RX8 37 6 8 true (.object RX4) := ⟨RX8, TX8, 13, tyX8, rfl, by decide, jin_X8, tm_233, tyX8_ok, nmX8, rfl, tyX8_ok 8 (by decide), fun h => rfl⟩
theorem jf_X8_44 : JF RX8 44 6 9 := ⟨RX8, TX8, 13, rfl, by decide, jin_X8, tm_234⟩
theorem jp_X8_44 : JP RX8 44 6 9 true (.object RX2) := ⟨RX8, TX8, 13, tyX8, rfl, by decide, jin_X8, tm_234, tyX8_ok, nmX8, rfl, tyX8_ok 9 (by decide), fun h => rfl⟩
theorem jf_X8_48 : JF RX8 48 6 10 := ⟨RX8, TX8, 13, rfl, by decide, jin_X8, tm_235⟩
theorem jp_X8_48 : JP RX8 48 6 10 true (.array .int) := ⟨RX8, TX8, 13, tyX8, rfl, by decide, jin_X8, tm_235, tyX8_ok, nmX8, rfl, tyX8_ok 10 (by decide), fun h => rfl⟩
theorem jf_X8_52 : JF RX8 52 6 11 := ⟨RX8, TX8, 13, rfl, by decide, jin_X8, tm_236⟩
theorem jp_X8_52 : JP RX8 52 6 11 true (.array .int) := ⟨RX8, TX8, 13, tyX8, rfl, by decide, jin_X8, tm_236, tyX8_ok, nmX8, rfl, tyX8_ok 11 (by decide), fun h => rfl⟩
theorem jf_X8_55 : JF RX8 55 6 12 := ⟨RX8, TX8, 13, rfl, by decide, jin_X8, tm_237⟩
theorem jp_X8_55 : JP RX8 55 6 12 true (.array .int) := ⟨RX8, TX8, 13, tyX8, rfl, by decide, jin_X8, tm_237, tyX8_ok, nmX8, rfl, tyX8_ok 12 (by decide), fun h => rfl⟩
theorem jf_X9_7 : JF RX9 7 7 0 := ⟨RX9, TX9, 17, rfl, by decide, jin_X9, tm_782⟩
theorem jp_X9_7 : JP RX9 7 7 0 true (.array .int) := ⟨RX9, TX9, 17, tyX9, rfl, by decide, jin_X9, tm_782, tyX9_ok, nmX9, rfl, tyX9_ok 0 (by decide), fun h => rfl⟩
theorem jf_X9_13 : JF RX9 13 7 1 := ⟨RX9, TX9, 17, rfl, by decide, jin_X9, tm_783⟩
theorem jp_X9_13 : JP RX9 13 7 1 true (.array .int) := ⟨RX9, TX9, 17, tyX9, rfl, by decide, jin_X9, tm_783, tyX9_ok, nmX9, rfl, tyX9_ok 1 (by decide), fun h => rfl⟩
theorem jf_X9_16 : JF RX9 16 7 2 := ⟨RX9, TX9, 17, rfl, by decide, jin_X9, tm_784⟩
theorem jp_X9_16 : JP RX9 16 7 2 true (.array .boolean) := ⟨RX9, TX9, 17, tyX9, rfl, by decide, jin_X9, tm_784, tyX9_ok, nmX9, rfl, tyX9_ok 2 (by decide), fun h => rfl⟩
theorem jf_X9_20 : JF RX9 20 7 3 := ⟨RX9, TX9, 17, rfl, by decide, jin_X9, tm_785⟩
theorem jp_X9_20 : JP RX9 20 7 3 true (.array .int) := ⟨RX9, TX9, 17, tyX9, rfl, by decide, jin_X9, tm_785, tyX9_ok, nmX9, rfl, tyX9_ok 3 (by decide), fun h => rfl⟩
theorem jf_X9_187 : JF RX9 187 7 4 := ⟨RX9, TX9, 17, rfl, by decide, jin_X9, tm_786⟩
theorem jp_X9_187 : JP RX9 187 7 4 false .long := ⟨RX9, TX9, 17, tyX9, rfl, by decide, jin_X9, tm_786, tyX9_ok, nmX9, rfl, tyX9_ok 4 (by decide), fun h => rfl⟩
theorem jf_X9_23 : JF RX9 23 7 5 := ⟨RX9, TX9, 17, rfl, by decide, jin_X9, tm_787⟩
theorem jp_X9_23 : JP RX9 23 7 5 false .long := ⟨RX9, TX9, 17, tyX9, rfl, by decide, jin_X9, tm_787, tyX9_ok, nmX9, rfl, tyX9_ok 5 (by decide), fun h => rfl⟩
theorem jf_X9_27 : JF RX9 27 7 6 := ⟨RX9, TX9, 17, rfl, by decide, jin_X9, tm_788⟩
theorem jp_X9_27 : JP RX9 27 7 6 true (.array .int) := ⟨RX9, TX9, 17, tyX9, rfl, by decide, jin_X9, tm_788, tyX9_ok, nmX9, rfl, tyX9_ok 6 (by decide), fun h => rfl⟩
theorem jf_X9_30 : JF RX9 30 7 7 := ⟨RX9, TX9, 17, rfl, by decide, jin_X9, tm_789⟩
theorem jp_X9_30 : JP RX9 30 7 7 true (.array .int) := ⟨RX9, TX9, 17, tyX9, rfl, by decide, jin_X9, tm_789, tyX9_ok, nmX9, rfl, tyX9_ok 7 (by decide), fun h => rfl⟩
theorem jf_X9_33 : JF RX9 33 7 8 := ⟨RX9, TX9, 17, rfl, by decide, jin_X9, tm_790⟩
theorem jp_X9_33 : JP RX9 33 7 8 true (.array .int) := ⟨RX9, TX9, 17, tyX9, rfl, by decide, jin_X9, tm_790, tyX9_ok, nmX9, rfl, tyX9_ok 8 (by decide), fun h => rfl⟩
theorem jf_X9_36 : JF RX9 36 7 9 := ⟨RX9, TX9, 17, rfl, by decide, jin_X9, tm_791⟩
theorem jp_X9_36 : JP RX9 36 7 9 true (.array .int) := ⟨RX9, TX9, 17, tyX9, rfl, by decide, jin_X9, tm_791, tyX9_ok, nmX9, rfl, tyX9_ok 9 (by decide), fun h => rfl⟩
theorem jf_X9_208 : JF RX9 208 7 10 := ⟨RX9, TX9, 17, rfl, by decide, jin_X9, tm_792⟩
theorem jp_X9_208 : JP RX9 208 7 10 false .int := ⟨RX9, TX9, 17, tyX9, rfl, by decide, jin_X9, tm_792, tyX9_ok, nmX9, rfl, tyX9_ok 10 (by decide), fun h => rfl⟩
theorem jf_X9_220 : JF RX9 220 7 11 := ⟨RX9, TX9, 17, rfl, by decide, jin_X9, tm_793⟩
theorem jp_X9_220 : JP RX9 220 7 11 false .int := ⟨RX9, TX9, 17, tyX9, rfl, by decide, jin_X9, tm_793, tyX9_ok, nmX9, rfl, tyX9_ok 11 (by decide), fun h => rfl⟩
theorem jf_X9_223 : JF RX9 223 7 12 := ⟨RX9, TX9, 17, rfl, by decide, jin_X9, tm_794⟩
theorem jp_X9_223 : JP RX9 223 7 12 false .int := ⟨RX9, TX9, 17, tyX9, rfl, by decide, jin_X9, tm_794, tyX9_ok, nmX9, rfl, tyX9_ok 12 (by decide), fun h => rfl⟩
theorem jf_X9_226 : JF RX9 226 7 13 := ⟨RX9, TX9, 17, rfl, by decide, jin_X9, tm_795⟩
theorem jp_X9_226 : JP RX9 226 7 13 false .int := ⟨RX9, TX9, 17, tyX9, rfl, by decide, jin_X9, tm_795, tyX9_ok, nmX9, rfl, tyX9_ok 13 (by decide), fun h => rfl⟩
theorem jf_X9_229 : JF RX9 229 7 14 := ⟨RX9, TX9, 17, rfl, by decide, jin_X9, tm_796⟩
theorem jp_X9_229 : JP RX9 229 7 14 false .int := ⟨RX9, TX9, 17, tyX9, rfl, by decide, jin_X9, tm_796, tyX9_ok, nmX9, rfl, tyX9_ok 14 (by decide), fun h => rfl⟩
theorem jf_X9_39 : JF RX9 39 7 15 := ⟨RX9, TX9, 17, rfl, by decide, jin_X9, tm_797⟩
theorem jp_X9_39 : JP RX9 39 7 15 true (.array .int) := ⟨RX9, TX9, 17, tyX9, rfl, by decide, jin_X9, tm_797, tyX9_ok, nmX9, rfl, tyX9_ok 15 (by decide), fun h => rfl⟩
theorem jf_X9_42 : JF RX9 42 7 16 := ⟨RX9, TX9, 17, rfl, by decide, jin_X9, tm_798⟩
theorem jp_X9_42 : JP RX9 42 7 16 true (.array .int) := ⟨RX9, TX9, 17, tyX9, rfl, by decide, jin_X9, tm_798, tyX9_ok, nmX9, rfl, tyX9_ok 16 (by decide), fun h => rfl⟩
theorem jm_yX8_init : yX8_init.cls ≠ "java/lang/invoke/MethodHandle" ∧ yX8_init.cls ≠ "java/lang/invoke/VarHandle" ∧ (parseMethodDescriptor yX8_init.desc).map (fun d => d.parameters.length) = some 0 := ⟨by decide +kernel, by decide +kernel, by decide +kernel⟩
theorem jm_yX6_init : yX6_init.cls ≠ "java/lang/invoke/MethodHandle" ∧ yX6_init.cls ≠ "java/lang/invoke/VarHandle" ∧ (parseMethodDescriptor yX6_init.desc).map (fun d => d.parameters.length) = some 0 := ⟨by decide +kernel, by decide +kernel, by decide +kernel⟩
theorem jm_yX4_init : yX4_init.cls ≠ "java/lang/invoke/MethodHandle" ∧ yX4_init.cls ≠ "java/lang/invoke/VarHandle" ∧ (parseMethodDescriptor yX4_init.desc).map (fun d => d.parameters.length) = some 0 := ⟨by decide +kernel, by decide +kernel, by decide +kernel⟩
theorem jm_yX4_start : yX4_start.cls ≠ "java/lang/invoke/MethodHandle" ∧ yX4_start.cls ≠ "java/lang/invoke/VarHandle" ∧ (parseMethodDescriptor yX4_start.desc).map (fun d => d.parameters.length) = some 2 := ⟨by decide +kernel, by decide +kernel, by decide +kernel⟩
theorem jm_yX4_putHorse : yX4_putHorse.cls ≠ "java/lang/invoke/MethodHandle" ∧ yX4_putHorse.cls ≠ "java/lang/invoke/VarHandle" ∧ (parseMethodDescriptor yX4_putHorse.desc).map (fun d => d.parameters.length) = some 3 := ⟨by decide +kernel, by decide +kernel, by decide +kernel⟩
theorem jm_yX3_init : yX3_init.cls ≠ "java/lang/invoke/MethodHandle" ∧ yX3_init.cls ≠ "java/lang/invoke/VarHandle" ∧ (parseMethodDescriptor yX3_init.desc).map (fun d => d.parameters.length) = some 0 := ⟨by decide +kernel, by decide +kernel, by decide +kernel⟩
theorem jm_yX5_init : yX5_init.cls ≠ "java/lang/invoke/MethodHandle" ∧ yX5_init.cls ≠ "java/lang/invoke/VarHandle" ∧ (parseMethodDescriptor yX5_init.desc).map (fun d => d.parameters.length) = some 2 := ⟨by decide +kernel, by decide +kernel, by decide +kernel⟩
theorem jm_yX7_init : yX7_init.cls ≠ "java/lang/invoke/MethodHandle" ∧ yX7_init.cls ≠ "java/lang/invoke/VarHandle" ∧ (parseMethodDescriptor yX7_init.desc).map (fun d => d.parameters.length) = some 0 := ⟨by decide +kernel, by decide +kernel, by decide +kernel⟩
theorem jm_yX2_init : yX2_init.cls ≠ "java/lang/invoke/MethodHandle" ∧ yX2_init.cls ≠ "java/lang/invoke/VarHandle" ∧ (parseMethodDescriptor yX2_init.desc).map (fun d => d.parameters.length) = some 0 := ⟨by decide +kernel, by decide +kernel, by decide +kernel⟩
theorem jm_yX8_round : yX8_round.cls ≠ "java/lang/invoke/MethodHandle" ∧ yX8_round.cls ≠ "java/lang/invoke/VarHandle" ∧ (parseMethodDescriptor yX8_round.desc).map (fun d => d.parameters.length) = some 2 := ⟨by decide +kernel, by decide +kernel, by decide +kernel⟩
theorem jm_yX8_within : yX8_within.cls ≠ "java/lang/invoke/MethodHandle" ∧ yX8_within.cls ≠ "java/lang/invoke/VarHandle" ∧ (parseMethodDescriptor yX8_within.desc).map (fun d => d.parameters.length) = some 3 := ⟨by decide +kernel, by decide +kernel, by decide +kernel⟩
theorem jm_yX8_bad : yX8_bad.cls ≠ "java/lang/invoke/MethodHandle" ∧ yX8_bad.cls ≠ "java/lang/invoke/VarHandle" ∧ (parseMethodDescriptor yX8_bad.desc).map (fun d => d.parameters.length) = some 0 := ⟨by decide +kernel, by decide +kernel, by decide +kernel⟩
theorem jm_yX6_dropRest : yX6_dropRest.cls ≠ "java/lang/invoke/MethodHandle" ∧ yX6_dropRest.cls ≠ "java/lang/invoke/VarHandle" ∧ (parseMethodDescriptor yX6_dropRest.desc).map (fun d => d.parameters.length) = some 0 := ⟨by decide +kernel, by decide +kernel, by decide +kernel⟩
theorem jm_yX5_drop : yX5_drop.cls ≠ "java/lang/invoke/MethodHandle" ∧ yX5_drop.cls ≠ "java/lang/invoke/VarHandle" ∧ (parseMethodDescriptor yX5_drop.desc).map (fun d => d.parameters.length) = some 0 := ⟨by decide +kernel, by decide +kernel, by decide +kernel⟩
theorem jm_yX8_horse : yX8_horse.cls ≠ "java/lang/invoke/MethodHandle" ∧ yX8_horse.cls ≠ "java/lang/invoke/VarHandle" ∧ (parseMethodDescriptor yX8_horse.desc).map (fun d => d.parameters.length) = some 3 := ⟨by decide +kernel, by decide +kernel, by decide +kernel⟩
theorem jm_yX8_isSeat : yX8_isSeat.cls ≠ "java/lang/invoke/MethodHandle" ∧ yX8_isSeat.cls ≠ "java/lang/invoke/VarHandle" ∧ (parseMethodDescriptor yX8_isSeat.desc).map (fun d => d.parameters.length) = some 1 := ⟨by decide +kernel, by decide +kernel, by decide +kernel⟩
theorem jm_yX8_rider : yX8_rider.cls ≠ "java/lang/invoke/MethodHandle" ∧ yX8_rider.cls ≠ "java/lang/invoke/VarHandle" ∧ (parseMethodDescriptor yX8_rider.desc).map (fun d => d.parameters.length) = some 3 := ⟨by decide +kernel, by decide +kernel, by decide +kernel⟩
theorem jm_yX4_whoIsOn : yX4_whoIsOn.cls ≠ "java/lang/invoke/MethodHandle" ∧ yX4_whoIsOn.cls ≠ "java/lang/invoke/VarHandle" ∧ (parseMethodDescriptor yX4_whoIsOn.desc).map (fun d => d.parameters.length) = some 1 := ⟨by decide +kernel, by decide +kernel, by decide +kernel⟩
theorem jm_yX8_no : yX8_no.cls ≠ "java/lang/invoke/MethodHandle" ∧ yX8_no.cls ≠ "java/lang/invoke/VarHandle" ∧ (parseMethodDescriptor yX8_no.desc).map (fun d => d.parameters.length) = some 0 := ⟨by decide +kernel, by decide +kernel, by decide +kernel⟩
theorem jm_yX8_full : yX8_full.cls ≠ "java/lang/invoke/MethodHandle" ∧ yX8_full.cls ≠ "java/lang/invoke/VarHandle" ∧ (parseMethodDescriptor yX8_full.desc).map (fun d => d.parameters.length) = some 0 := ⟨by decide +kernel, by decide +kernel, by decide +kernel⟩
theorem jm_yX4_putRider : yX4_putRider.cls ≠ "java/lang/invoke/MethodHandle" ∧ yX4_putRider.cls ≠ "java/lang/invoke/VarHandle" ∧ (parseMethodDescriptor yX4_putRider.desc).map (fun d => d.parameters.length) = some 3 := ⟨by decide +kernel, by decide +kernel, by decide +kernel⟩
theorem jm_yX8_type : yX8_type.cls ≠ "java/lang/invoke/MethodHandle" ∧ yX8_type.cls ≠ "java/lang/invoke/VarHandle" ∧ (parseMethodDescriptor yX8_type.desc).map (fun d => d.parameters.length) = some 1 := ⟨by decide +kernel, by decide +kernel, by decide +kernel⟩
theorem jm_yX7_put : yX7_put.cls ≠ "java/lang/invoke/MethodHandle" ∧ yX7_put.cls ≠ "java/lang/invoke/VarHandle" ∧ (parseMethodDescriptor yX7_put.desc).map (fun d => d.parameters.length) = some 1 := ⟨by decide +kernel, by decide +kernel, by decide +kernel⟩
theorem jm_yX8_clear : yX8_clear.cls ≠ "java/lang/invoke/MethodHandle" ∧ yX8_clear.cls ≠ "java/lang/invoke/VarHandle" ∧ (parseMethodDescriptor yX8_clear.desc).map (fun d => d.parameters.length) = some 0 := ⟨by decide +kernel, by decide +kernel, by decide +kernel⟩
theorem jm_yX8_read : yX8_read.cls ≠ "java/lang/invoke/MethodHandle" ∧ yX8_read.cls ≠ "java/lang/invoke/VarHandle" ∧ (parseMethodDescriptor yX8_read.desc).map (fun d => d.parameters.length) = some 0 := ⟨by decide +kernel, by decide +kernel, by decide +kernel⟩
theorem jm_yX7_tellRound : yX7_tellRound.cls ≠ "java/lang/invoke/MethodHandle" ∧ yX7_tellRound.cls ≠ "java/lang/invoke/VarHandle" ∧ (parseMethodDescriptor yX7_tellRound.desc).map (fun d => d.parameters.length) = some 1 := ⟨by decide +kernel, by decide +kernel, by decide +kernel⟩
theorem jm_yX7_next : yX7_next.cls ≠ "java/lang/invoke/MethodHandle" ∧ yX7_next.cls ≠ "java/lang/invoke/VarHandle" ∧ (parseMethodDescriptor yX7_next.desc).map (fun d => d.parameters.length) = some 0 := ⟨by decide +kernel, by decide +kernel, by decide +kernel⟩
theorem jm_yX7_isLetter : yX7_isLetter.cls ≠ "java/lang/invoke/MethodHandle" ∧ yX7_isLetter.cls ≠ "java/lang/invoke/VarHandle" ∧ (parseMethodDescriptor yX7_isLetter.desc).map (fun d => d.parameters.length) = some 1 := ⟨by decide +kernel, by decide +kernel, by decide +kernel⟩
theorem jm_yX7_isFigure : yX7_isFigure.cls ≠ "java/lang/invoke/MethodHandle" ∧ yX7_isFigure.cls ≠ "java/lang/invoke/VarHandle" ∧ (parseMethodDescriptor yX7_isFigure.desc).map (fun d => d.parameters.length) = some 1 := ⟨by decide +kernel, by decide +kernel, by decide +kernel⟩
theorem jm_yX7_firstItem : yX7_firstItem.cls ≠ "java/lang/invoke/MethodHandle" ∧ yX7_firstItem.cls ≠ "java/lang/invoke/VarHandle" ∧ (parseMethodDescriptor yX7_firstItem.desc).map (fun d => d.parameters.length) = some 0 := ⟨by decide +kernel, by decide +kernel, by decide +kernel⟩
theorem jm_yX7_isWord : yX7_isWord.cls ≠ "java/lang/invoke/MethodHandle" ∧ yX7_isWord.cls ≠ "java/lang/invoke/VarHandle" ∧ (parseMethodDescriptor yX7_isWord.desc).map (fun d => d.parameters.length) = some 1 := ⟨by decide +kernel, by decide +kernel, by decide +kernel⟩
theorem jm_yJ0_length_8abf5 : yJ0_length_8abf5.cls ≠ "java/lang/invoke/MethodHandle" ∧ yJ0_length_8abf5.cls ≠ "java/lang/invoke/VarHandle" ∧ (parseMethodDescriptor yJ0_length_8abf5.desc).map (fun d => d.parameters.length) = some 0 := ⟨by decide +kernel, by decide +kernel, by decide +kernel⟩
theorem jm_yJ0_coder_7d493 : yJ0_coder_7d493.cls ≠ "java/lang/invoke/MethodHandle" ∧ yJ0_coder_7d493.cls ≠ "java/lang/invoke/VarHandle" ∧ (parseMethodDescriptor yJ0_coder_7d493.desc).map (fun d => d.parameters.length) = some 0 := ⟨by decide +kernel, by decide +kernel, by decide +kernel⟩
theorem jm_yJ0_charAt_5068e : yJ0_charAt_5068e.cls ≠ "java/lang/invoke/MethodHandle" ∧ yJ0_charAt_5068e.cls ≠ "java/lang/invoke/VarHandle" ∧ (parseMethodDescriptor yJ0_charAt_5068e.desc).map (fun d => d.parameters.length) = some 1 := ⟨by decide +kernel, by decide +kernel, by decide +kernel⟩
theorem jm_yJ0_isLatin1_aae02 : yJ0_isLatin1_aae02.cls ≠ "java/lang/invoke/MethodHandle" ∧ yJ0_isLatin1_aae02.cls ≠ "java/lang/invoke/VarHandle" ∧ (parseMethodDescriptor yJ0_isLatin1_aae02.desc).map (fun d => d.parameters.length) = some 0 := ⟨by decide +kernel, by decide +kernel, by decide +kernel⟩
theorem jm_yJ1_charAt_3b067 : yJ1_charAt_3b067.cls ≠ "java/lang/invoke/MethodHandle" ∧ yJ1_charAt_3b067.cls ≠ "java/lang/invoke/VarHandle" ∧ (parseMethodDescriptor yJ1_charAt_3b067.desc).map (fun d => d.parameters.length) = some 2 := ⟨by decide +kernel, by decide +kernel, by decide +kernel⟩
theorem jm_yJ0_checkIndex_df160 : yJ0_checkIndex_df160.cls ≠ "java/lang/invoke/MethodHandle" ∧ yJ0_checkIndex_df160.cls ≠ "java/lang/invoke/VarHandle" ∧ (parseMethodDescriptor yJ0_checkIndex_df160.desc).map (fun d => d.parameters.length) = some 2 := ⟨by decide +kernel, by decide +kernel, by decide +kernel⟩
theorem jm_yJ3_checkIndex_8e157 : yJ3_checkIndex_8e157.cls ≠ "java/lang/invoke/MethodHandle" ∧ yJ3_checkIndex_8e157.cls ≠ "java/lang/invoke/VarHandle" ∧ (parseMethodDescriptor yJ3_checkIndex_8e157.desc).map (fun d => d.parameters.length) = some 3 := ⟨by decide +kernel, by decide +kernel, by decide +kernel⟩
theorem jm_yJ2_charAt_3b067 : yJ2_charAt_3b067.cls ≠ "java/lang/invoke/MethodHandle" ∧ yJ2_charAt_3b067.cls ≠ "java/lang/invoke/VarHandle" ∧ (parseMethodDescriptor yJ2_charAt_3b067.desc).map (fun d => d.parameters.length) = some 2 := ⟨by decide +kernel, by decide +kernel, by decide +kernel⟩
theorem jm_yJ2_checkIndex_2214a : yJ2_checkIndex_2214a.cls ≠ "java/lang/invoke/MethodHandle" ∧ yJ2_checkIndex_2214a.cls ≠ "java/lang/invoke/VarHandle" ∧ (parseMethodDescriptor yJ2_checkIndex_2214a.desc).map (fun d => d.parameters.length) = some 2 := ⟨by decide +kernel, by decide +kernel, by decide +kernel⟩
theorem jm_yJ2_length_9d52b : yJ2_length_9d52b.cls ≠ "java/lang/invoke/MethodHandle" ∧ yJ2_length_9d52b.cls ≠ "java/lang/invoke/VarHandle" ∧ (parseMethodDescriptor yJ2_length_9d52b.desc).map (fun d => d.parameters.length) = some 1 := ⟨by decide +kernel, by decide +kernel, by decide +kernel⟩
theorem jm_yJ2_getChar_3b067 : yJ2_getChar_3b067.cls ≠ "java/lang/invoke/MethodHandle" ∧ yJ2_getChar_3b067.cls ≠ "java/lang/invoke/VarHandle" ∧ (parseMethodDescriptor yJ2_getChar_3b067.desc).map (fun d => d.parameters.length) = some 2 := ⟨by decide +kernel, by decide +kernel, by decide +kernel⟩
theorem jm_yX7_laterItem : yX7_laterItem.cls ≠ "java/lang/invoke/MethodHandle" ∧ yX7_laterItem.cls ≠ "java/lang/invoke/VarHandle" ∧ (parseMethodDescriptor yX7_laterItem.desc).map (fun d => d.parameters.length) = some 0 := ⟨by decide +kernel, by decide +kernel, by decide +kernel⟩
theorem jm_yX7_isItem : yX7_isItem.cls ≠ "java/lang/invoke/MethodHandle" ∧ yX7_isItem.cls ≠ "java/lang/invoke/VarHandle" ∧ (parseMethodDescriptor yX7_isItem.desc).map (fun d => d.parameters.length) = some 1 := ⟨by decide +kernel, by decide +kernel, by decide +kernel⟩
theorem jm_yX7_isNumber : yX7_isNumber.cls ≠ "java/lang/invoke/MethodHandle" ∧ yX7_isNumber.cls ≠ "java/lang/invoke/VarHandle" ∧ (parseMethodDescriptor yX7_isNumber.desc).map (fun d => d.parameters.length) = some 3 := ⟨by decide +kernel, by decide +kernel, by decide +kernel⟩
theorem jm_yX7_isStop : yX7_isStop.cls ≠ "java/lang/invoke/MethodHandle" ∧ yX7_isStop.cls ≠ "java/lang/invoke/VarHandle" ∧ (parseMethodDescriptor yX7_isStop.desc).map (fun d => d.parameters.length) = some 0 := ⟨by decide +kernel, by decide +kernel, by decide +kernel⟩
theorem jm_yX7_apply : yX7_apply.cls ≠ "java/lang/invoke/MethodHandle" ∧ yX7_apply.cls ≠ "java/lang/invoke/VarHandle" ∧ (parseMethodDescriptor yX7_apply.desc).map (fun d => d.parameters.length) = some 1 := ⟨by decide +kernel, by decide +kernel, by decide +kernel⟩
theorem jm_yX4_step : yX4_step.cls ≠ "java/lang/invoke/MethodHandle" ∧ yX4_step.cls ≠ "java/lang/invoke/VarHandle" ∧ (parseMethodDescriptor yX4_step.desc).map (fun d => d.parameters.length) = some 0 := ⟨by decide +kernel, by decide +kernel, by decide +kernel⟩
theorem jm_yX4_turn : yX4_turn.cls ≠ "java/lang/invoke/MethodHandle" ∧ yX4_turn.cls ≠ "java/lang/invoke/VarHandle" ∧ (parseMethodDescriptor yX4_turn.desc).map (fun d => d.parameters.length) = some 0 := ⟨by decide +kernel, by decide +kernel, by decide +kernel⟩
theorem jm_yX4_around : yX4_around.cls ≠ "java/lang/invoke/MethodHandle" ∧ yX4_around.cls ≠ "java/lang/invoke/VarHandle" ∧ (parseMethodDescriptor yX4_around.desc).map (fun d => d.parameters.length) = some 1 := ⟨by decide +kernel, by decide +kernel, by decide +kernel⟩
theorem jm_yX4_whoReaches : yX4_whoReaches.cls ≠ "java/lang/invoke/MethodHandle" ∧ yX4_whoReaches.cls ≠ "java/lang/invoke/VarHandle" ∧ (parseMethodDescriptor yX4_whoReaches.desc).map (fun d => d.parameters.length) = some 0 := ⟨by decide +kernel, by decide +kernel, by decide +kernel⟩
theorem jm_yX4_reachOf : yX4_reachOf.cls ≠ "java/lang/invoke/MethodHandle" ∧ yX4_reachOf.cls ≠ "java/lang/invoke/VarHandle" ∧ (parseMethodDescriptor yX4_reachOf.desc).map (fun d => d.parameters.length) = some 1 := ⟨by decide +kernel, by decide +kernel, by decide +kernel⟩
theorem jm_yX1_high : yX1_high.cls ≠ "java/lang/invoke/MethodHandle" ∧ yX1_high.cls ≠ "java/lang/invoke/VarHandle" ∧ (parseMethodDescriptor yX1_high.desc).map (fun d => d.parameters.length) = some 4 := ⟨by decide +kernel, by decide +kernel, by decide +kernel⟩
theorem jm_yX0_reach : yX0_reach.cls ≠ "java/lang/invoke/MethodHandle" ∧ yX0_reach.cls ≠ "java/lang/invoke/VarHandle" ∧ (parseMethodDescriptor yX0_reach.desc).map (fun d => d.parameters.length) = some 4 := ⟨by decide +kernel, by decide +kernel, by decide +kernel⟩
theorem jm_yX4_take : yX4_take.cls ≠ "java/lang/invoke/MethodHandle" ∧ yX4_take.cls ≠ "java/lang/invoke/VarHandle" ∧ (parseMethodDescriptor yX4_take.desc).map (fun d => d.parameters.length) = some 1 := ⟨by decide +kernel, by decide +kernel, by decide +kernel⟩
theorem jm_yJ9_min_7cf53 : yJ9_min_7cf53.cls ≠ "java/lang/invoke/MethodHandle" ∧ yJ9_min_7cf53.cls ≠ "java/lang/invoke/VarHandle" ∧ (parseMethodDescriptor yJ9_min_7cf53.desc).map (fun d => d.parameters.length) = some 2 := ⟨by decide +kernel, by decide +kernel, by decide +kernel⟩
theorem jm_yX4_copyOf : yX4_copyOf.cls ≠ "java/lang/invoke/MethodHandle" ∧ yX4_copyOf.cls ≠ "java/lang/invoke/VarHandle" ∧ (parseMethodDescriptor yX4_copyOf.desc).map (fun d => d.parameters.length) = some 1 := ⟨by decide +kernel, by decide +kernel, by decide +kernel⟩
theorem jm_yX8_ticks : yX8_ticks.cls ≠ "java/lang/invoke/MethodHandle" ∧ yX8_ticks.cls ≠ "java/lang/invoke/VarHandle" ∧ (parseMethodDescriptor yX8_ticks.desc).map (fun d => d.parameters.length) = some 1 := ⟨by decide +kernel, by decide +kernel, by decide +kernel⟩
theorem jm_yX3_keep : yX3_keep.cls ≠ "java/lang/invoke/MethodHandle" ∧ yX3_keep.cls ≠ "java/lang/invoke/VarHandle" ∧ (parseMethodDescriptor yX3_keep.desc).map (fun d => d.parameters.length) = some 1 := ⟨by decide +kernel, by decide +kernel, by decide +kernel⟩
theorem jm_yX8_speed : yX8_speed.cls ≠ "java/lang/invoke/MethodHandle" ∧ yX8_speed.cls ≠ "java/lang/invoke/VarHandle" ∧ (parseMethodDescriptor yX8_speed.desc).map (fun d => d.parameters.length) = some 1 := ⟨by decide +kernel, by decide +kernel, by decide +kernel⟩
theorem jm_yX8_changes : yX8_changes.cls ≠ "java/lang/invoke/MethodHandle" ∧ yX8_changes.cls ≠ "java/lang/invoke/VarHandle" ∧ (parseMethodDescriptor yX8_changes.desc).map (fun d => d.parameters.length) = some 2 := ⟨by decide +kernel, by decide +kernel, by decide +kernel⟩
theorem jm_yX8_isRider : yX8_isRider.cls ≠ "java/lang/invoke/MethodHandle" ∧ yX8_isRider.cls ≠ "java/lang/invoke/VarHandle" ∧ (parseMethodDescriptor yX8_isRider.desc).map (fun d => d.parameters.length) = some 1 := ⟨by decide +kernel, by decide +kernel, by decide +kernel⟩
theorem jm_yX8_hangs : yX8_hangs.cls ≠ "java/lang/invoke/MethodHandle" ∧ yX8_hangs.cls ≠ "java/lang/invoke/VarHandle" ∧ (parseMethodDescriptor yX8_hangs.desc).map (fun d => d.parameters.length) = some 1 := ⟨by decide +kernel, by decide +kernel, by decide +kernel⟩
theorem jm_yX8_undo : yX8_undo.cls ≠ "java/lang/invoke/MethodHandle" ∧ yX8_undo.cls ≠ "java/lang/invoke/VarHandle" ∧ (parseMethodDescriptor yX8_undo.desc).map (fun d => d.parameters.length) = some 0 := ⟨by decide +kernel, by decide +kernel, by decide +kernel⟩
theorem jm_yX3_giveBack : yX3_giveBack.cls ≠ "java/lang/invoke/MethodHandle" ∧ yX3_giveBack.cls ≠ "java/lang/invoke/VarHandle" ∧ (parseMethodDescriptor yX3_giveBack.desc).map (fun d => d.parameters.length) = some 1 := ⟨by decide +kernel, by decide +kernel, by decide +kernel⟩
theorem jm_yX8_of : yX8_of.cls ≠ "java/lang/invoke/MethodHandle" ∧ yX8_of.cls ≠ "java/lang/invoke/VarHandle" ∧ (parseMethodDescriptor yX8_of.desc).map (fun d => d.parameters.length) = some 2 := ⟨by decide +kernel, by decide +kernel, by decide +kernel⟩
theorem jm_yX4_placeOf : yX4_placeOf.cls ≠ "java/lang/invoke/MethodHandle" ∧ yX4_placeOf.cls ≠ "java/lang/invoke/VarHandle" ∧ (parseMethodDescriptor yX4_placeOf.desc).map (fun d => d.parameters.length) = some 2 := ⟨by decide +kernel, by decide +kernel, by decide +kernel⟩
theorem jm_yX4_highOn : yX4_highOn.cls ≠ "java/lang/invoke/MethodHandle" ∧ yX4_highOn.cls ≠ "java/lang/invoke/VarHandle" ∧ (parseMethodDescriptor yX4_highOn.desc).map (fun d => d.parameters.length) = some 2 := ⟨by decide +kernel, by decide +kernel, by decide +kernel⟩
theorem jm_yX8_about : yX8_about.cls ≠ "java/lang/invoke/MethodHandle" ∧ yX8_about.cls ≠ "java/lang/invoke/VarHandle" ∧ (parseMethodDescriptor yX8_about.desc).map (fun d => d.parameters.length) = some 2 := ⟨by decide +kernel, by decide +kernel, by decide +kernel⟩
theorem jm_yX8_where : yX8_where.cls ≠ "java/lang/invoke/MethodHandle" ∧ yX8_where.cls ≠ "java/lang/invoke/VarHandle" ∧ (parseMethodDescriptor yX8_where.desc).map (fun d => d.parameters.length) = some 3 := ⟨by decide +kernel, by decide +kernel, by decide +kernel⟩
theorem jm_yX8_takes : yX8_takes.cls ≠ "java/lang/invoke/MethodHandle" ∧ yX8_takes.cls ≠ "java/lang/invoke/VarHandle" ∧ (parseMethodDescriptor yX8_takes.desc).map (fun d => d.parameters.length) = some 1 := ⟨by decide +kernel, by decide +kernel, by decide +kernel⟩
theorem jm_yX8_level : yX8_level.cls ≠ "java/lang/invoke/MethodHandle" ∧ yX8_level.cls ≠ "java/lang/invoke/VarHandle" ∧ (parseMethodDescriptor yX8_level.desc).map (fun d => d.parameters.length) = some 1 := ⟨by decide +kernel, by decide +kernel, by decide +kernel⟩
theorem jm_yX8_badOfList : yX8_badOfList.cls ≠ "java/lang/invoke/MethodHandle" ∧ yX8_badOfList.cls ≠ "java/lang/invoke/VarHandle" ∧ (parseMethodDescriptor yX8_badOfList.desc).map (fun d => d.parameters.length) = some 0 := ⟨by decide +kernel, by decide +kernel, by decide +kernel⟩
theorem jm_yX8_again : yX8_again.cls ≠ "java/lang/invoke/MethodHandle" ∧ yX8_again.cls ≠ "java/lang/invoke/VarHandle" ∧ (parseMethodDescriptor yX8_again.desc).map (fun d => d.parameters.length) = some 0 := ⟨by decide +kernel, by decide +kernel, by decide +kernel⟩
theorem jm_yX4_looksLike : yX4_looksLike.cls ≠ "java/lang/invoke/MethodHandle" ∧ yX4_looksLike.cls ≠ "java/lang/invoke/VarHandle" ∧ (parseMethodDescriptor yX4_looksLike.desc).map (fun d => d.parameters.length) = some 1 := ⟨by decide +kernel, by decide +kernel, by decide +kernel⟩
theorem jm_yX8_fast : yX8_fast.cls ≠ "java/lang/invoke/MethodHandle" ∧ yX8_fast.cls ≠ "java/lang/invoke/VarHandle" ∧ (parseMethodDescriptor yX8_fast.desc).map (fun d => d.parameters.length) = some 3 := ⟨by decide +kernel, by decide +kernel, by decide +kernel⟩
theorem jm_yX8_choose : yX8_choose.cls ≠ "java/lang/invoke/MethodHandle" ∧ yX8_choose.cls ≠ "java/lang/invoke/VarHandle" ∧ (parseMethodDescriptor yX8_choose.desc).map (fun d => d.parameters.length) = some 4 := ⟨by decide +kernel, by decide +kernel, by decide +kernel⟩
theorem jm_yX8_takenIf : yX8_takenIf.cls ≠ "java/lang/invoke/MethodHandle" ∧ yX8_takenIf.cls ≠ "java/lang/invoke/VarHandle" ∧ (parseMethodDescriptor yX8_takenIf.desc).map (fun d => d.parameters.length) = some 4 := ⟨by decide +kernel, by decide +kernel, by decide +kernel⟩
theorem jm_yX8_seat : yX8_seat.cls ≠ "java/lang/invoke/MethodHandle" ∧ yX8_seat.cls ≠ "java/lang/invoke/VarHandle" ∧ (parseMethodDescriptor yX8_seat.desc).map (fun d => d.parameters.length) = some 3 := ⟨by decide +kernel, by decide +kernel, by decide +kernel⟩
theorem jm_yX8_lever : yX8_lever.cls ≠ "java/lang/invoke/MethodHandle" ∧ yX8_lever.cls ≠ "java/lang/invoke/VarHandle" ∧ (parseMethodDescriptor yX8_lever.desc).map (fun d => d.parameters.length) = some 3 := ⟨by decide +kernel, by decide +kernel, by decide +kernel⟩
theorem jm_yX2_find : yX2_find.cls ≠ "java/lang/invoke/MethodHandle" ∧ yX2_find.cls ≠ "java/lang/invoke/VarHandle" ∧ (parseMethodDescriptor yX2_find.desc).map (fun d => d.parameters.length) = some 3 := ⟨by decide +kernel, by decide +kernel, by decide +kernel⟩
theorem jm_yX2_pull : yX2_pull.cls ≠ "java/lang/invoke/MethodHandle" ∧ yX2_pull.cls ≠ "java/lang/invoke/VarHandle" ∧ (parseMethodDescriptor yX2_pull.desc).map (fun d => d.parameters.length) = some 4 := ⟨by decide +kernel, by decide +kernel, by decide +kernel⟩
theorem jm_yX4_giveBack : yX4_giveBack.cls ≠ "java/lang/invoke/MethodHandle" ∧ yX4_giveBack.cls ≠ "java/lang/invoke/VarHandle" ∧ (parseMethodDescriptor yX4_giveBack.desc).map (fun d => d.parameters.length) = some 3 := ⟨by decide +kernel, by decide +kernel, by decide +kernel⟩
theorem jm_yX4_turnBack : yX4_turnBack.cls ≠ "java/lang/invoke/MethodHandle" ∧ yX4_turnBack.cls ≠ "java/lang/invoke/VarHandle" ∧ (parseMethodDescriptor yX4_turnBack.desc).map (fun d => d.parameters.length) = some 1 := ⟨by decide +kernel, by decide +kernel, by decide +kernel⟩
theorem jm_yX8_seen : yX8_seen.cls ≠ "java/lang/invoke/MethodHandle" ∧ yX8_seen.cls ≠ "java/lang/invoke/VarHandle" ∧ (parseMethodDescriptor yX8_seen.desc).map (fun d => d.parameters.length) = some 4 := ⟨by decide +kernel, by decide +kernel, by decide +kernel⟩
theorem jm_yX5_isFull : yX5_isFull.cls ≠ "java/lang/invoke/MethodHandle" ∧ yX5_isFull.cls ≠ "java/lang/invoke/VarHandle" ∧ (parseMethodDescriptor yX5_isFull.desc).map (fun d => d.parameters.length) = some 0 := ⟨by decide +kernel, by decide +kernel, by decide +kernel⟩
theorem jm_yX5_add : yX5_add.cls ≠ "java/lang/invoke/MethodHandle" ∧ yX5_add.cls ≠ "java/lang/invoke/VarHandle" ∧ (parseMethodDescriptor yX5_add.desc).map (fun d => d.parameters.length) = some 5 := ⟨by decide +kernel, by decide +kernel, by decide +kernel⟩
theorem jm_yX8_phases : yX8_phases.cls ≠ "java/lang/invoke/MethodHandle" ∧ yX8_phases.cls ≠ "java/lang/invoke/VarHandle" ∧ (parseMethodDescriptor yX8_phases.desc).map (fun d => d.parameters.length) = some 1 := ⟨by decide +kernel, by decide +kernel, by decide +kernel⟩
theorem jm_yX8_thoseThatFit : yX8_thoseThatFit.cls ≠ "java/lang/invoke/MethodHandle" ∧ yX8_thoseThatFit.cls ≠ "java/lang/invoke/VarHandle" ∧ (parseMethodDescriptor yX8_thoseThatFit.desc).map (fun d => d.parameters.length) = some 2 := ⟨by decide +kernel, by decide +kernel, by decide +kernel⟩
theorem jm_yX8_howManyGuessed : yX8_howManyGuessed.cls ≠ "java/lang/invoke/MethodHandle" ∧ yX8_howManyGuessed.cls ≠ "java/lang/invoke/VarHandle" ∧ (parseMethodDescriptor yX8_howManyGuessed.desc).map (fun d => d.parameters.length) = some 1 := ⟨by decide +kernel, by decide +kernel, by decide +kernel⟩
theorem jm_yX8_allFits : yX8_allFits.cls ≠ "java/lang/invoke/MethodHandle" ∧ yX8_allFits.cls ≠ "java/lang/invoke/VarHandle" ∧ (parseMethodDescriptor yX8_allFits.desc).map (fun d => d.parameters.length) = some 3 := ⟨by decide +kernel, by decide +kernel, by decide +kernel⟩
theorem jm_yX5_at : yX5_at.cls ≠ "java/lang/invoke/MethodHandle" ∧ yX5_at.cls ≠ "java/lang/invoke/VarHandle" ∧ (parseMethodDescriptor yX5_at.desc).map (fun d => d.parameters.length) = some 2 := ⟨by decide +kernel, by decide +kernel, by decide +kernel⟩
theorem jm_yX8_rowFits : yX8_rowFits.cls ≠ "java/lang/invoke/MethodHandle" ∧ yX8_rowFits.cls ≠ "java/lang/invoke/VarHandle" ∧ (parseMethodDescriptor yX8_rowFits.desc).map (fun d => d.parameters.length) = some 5 := ⟨by decide +kernel, by decide +kernel, by decide +kernel⟩
theorem jm_yX8_tell : yX8_tell.cls ≠ "java/lang/invoke/MethodHandle" ∧ yX8_tell.cls ≠ "java/lang/invoke/VarHandle" ∧ (parseMethodDescriptor yX8_tell.desc).map (fun d => d.parameters.length) = some 1 := ⟨by decide +kernel, by decide +kernel, by decide +kernel⟩
theorem jm_yX8_bestLook : yX8_bestLook.cls ≠ "java/lang/invoke/MethodHandle" ∧ yX8_bestLook.cls ≠ "java/lang/invoke/VarHandle" ∧ (parseMethodDescriptor yX8_bestLook.desc).map (fun d => d.parameters.length) = some 2 := ⟨by decide +kernel, by decide +kernel, by decide +kernel⟩
theorem jm_yX8_mostLeft : yX8_mostLeft.cls ≠ "java/lang/invoke/MethodHandle" ∧ yX8_mostLeft.cls ≠ "java/lang/invoke/VarHandle" ∧ (parseMethodDescriptor yX8_mostLeft.desc).map (fun d => d.parameters.length) = some 5 := ⟨by decide +kernel, by decide +kernel, by decide +kernel⟩
theorem jm_yX8_foretell : yX8_foretell.cls ≠ "java/lang/invoke/MethodHandle" ∧ yX8_foretell.cls ≠ "java/lang/invoke/VarHandle" ∧ (parseMethodDescriptor yX8_foretell.desc).map (fun d => d.parameters.length) = some 5 := ⟨by decide +kernel, by decide +kernel, by decide +kernel⟩
theorem jm_yX8_alikeBefore : yX8_alikeBefore.cls ≠ "java/lang/invoke/MethodHandle" ∧ yX8_alikeBefore.cls ≠ "java/lang/invoke/VarHandle" ∧ (parseMethodDescriptor yX8_alikeBefore.desc).map (fun d => d.parameters.length) = some 2 := ⟨by decide +kernel, by decide +kernel, by decide +kernel⟩
theorem jm_yJ9_max_7cf53 : yJ9_max_7cf53.cls ≠ "java/lang/invoke/MethodHandle" ∧ yJ9_max_7cf53.cls ≠ "java/lang/invoke/VarHandle" ∧ (parseMethodDescriptor yJ9_max_7cf53.desc).map (fun d => d.parameters.length) = some 2 := ⟨by decide +kernel, by decide +kernel, by decide +kernel⟩
theorem jm_yX8_note : yX8_note.cls ≠ "java/lang/invoke/MethodHandle" ∧ yX8_note.cls ≠ "java/lang/invoke/VarHandle" ∧ (parseMethodDescriptor yX8_note.desc).map (fun d => d.parameters.length) = some 5 := ⟨by decide +kernel, by decide +kernel, by decide +kernel⟩
theorem jm_yX8_mark : yX8_mark.cls ≠ "java/lang/invoke/MethodHandle" ∧ yX8_mark.cls ≠ "java/lang/invoke/VarHandle" ∧ (parseMethodDescriptor yX8_mark.desc).map (fun d => d.parameters.length) = some 5 := ⟨by decide +kernel, by decide +kernel, by decide +kernel⟩
theorem jm_yX8_forget : yX8_forget.cls ≠ "java/lang/invoke/MethodHandle" ∧ yX8_forget.cls ≠ "java/lang/invoke/VarHandle" ∧ (parseMethodDescriptor yX8_forget.desc).map (fun d => d.parameters.length) = some 1 := ⟨by decide +kernel, by decide +kernel, by decide +kernel⟩
theorem jm_yX8_is : yX8_is.cls ≠ "java/lang/invoke/MethodHandle" ∧ yX8_is.cls ≠ "java/lang/invoke/VarHandle" ∧ (parseMethodDescriptor yX8_is.desc).map (fun d => d.parameters.length) = some 1 := ⟨by decide +kernel, by decide +kernel, by decide +kernel⟩
theorem jm_yX8_look : yX8_look.cls ≠ "java/lang/invoke/MethodHandle" ∧ yX8_look.cls ≠ "java/lang/invoke/VarHandle" ∧ (parseMethodDescriptor yX8_look.desc).map (fun d => d.parameters.length) = some 1 := ⟨by decide +kernel, by decide +kernel, by decide +kernel⟩
theorem jm_yX8_kinds : yX8_kinds.cls ≠ "java/lang/invoke/MethodHandle" ∧ yX8_kinds.cls ≠ "java/lang/invoke/VarHandle" ∧ (parseMethodDescriptor yX8_kinds.desc).map (fun d => d.parameters.length) = some 1 := ⟨by decide +kernel, by decide +kernel, by decide +kernel⟩
theorem jm_yX8_ask : yX8_ask.cls ≠ "java/lang/invoke/MethodHandle" ∧ yX8_ask.cls ≠ "java/lang/invoke/VarHandle" ∧ (parseMethodDescriptor yX8_ask.desc).map (fun d => d.parameters.length) = some 1 := ⟨by decide +kernel, by decide +kernel, by decide +kernel⟩
theorem jm_yX8_hands : yX8_hands.cls ≠ "java/lang/invoke/MethodHandle" ∧ yX8_hands.cls ≠ "java/lang/invoke/VarHandle" ∧ (parseMethodDescriptor yX8_hands.desc).map (fun d => d.parameters.length) = some 3 := ⟨by decide +kernel, by decide +kernel, by decide +kernel⟩
theorem jm_yX8_runHands : yX8_runHands.cls ≠ "java/lang/invoke/MethodHandle" ∧ yX8_runHands.cls ≠ "java/lang/invoke/VarHandle" ∧ (parseMethodDescriptor yX8_runHands.desc).map (fun d => d.parameters.length) = some 2 := ⟨by decide +kernel, by decide +kernel, by decide +kernel⟩
theorem jm_yX8_pairRests : yX8_pairRests.cls ≠ "java/lang/invoke/MethodHandle" ∧ yX8_pairRests.cls ≠ "java/lang/invoke/VarHandle" ∧ (parseMethodDescriptor yX8_pairRests.desc).map (fun d => d.parameters.length) = some 2 := ⟨by decide +kernel, by decide +kernel, by decide +kernel⟩
theorem jm_yX8_slip : yX8_slip.cls ≠ "java/lang/invoke/MethodHandle" ∧ yX8_slip.cls ≠ "java/lang/invoke/VarHandle" ∧ (parseMethodDescriptor yX8_slip.desc).map (fun d => d.parameters.length) = some 4 := ⟨by decide +kernel, by decide +kernel, by decide +kernel⟩
theorem jm_yX8_chance : yX8_chance.cls ≠ "java/lang/invoke/MethodHandle" ∧ yX8_chance.cls ≠ "java/lang/invoke/VarHandle" ∧ (parseMethodDescriptor yX8_chance.desc).map (fun d => d.parameters.length) = some 5 := ⟨by decide +kernel, by decide +kernel, by decide +kernel⟩
theorem jm_yX8_keepFraction : yX8_keepFraction.cls ≠ "java/lang/invoke/MethodHandle" ∧ yX8_keepFraction.cls ≠ "java/lang/invoke/VarHandle" ∧ (parseMethodDescriptor yX8_keepFraction.desc).map (fun d => d.parameters.length) = some 2 := ⟨by decide +kernel, by decide +kernel, by decide +kernel⟩
theorem jm_yX8_evenings : yX8_evenings.cls ≠ "java/lang/invoke/MethodHandle" ∧ yX8_evenings.cls ≠ "java/lang/invoke/VarHandle" ∧ (parseMethodDescriptor yX8_evenings.desc).map (fun d => d.parameters.length) = some 2 := ⟨by decide +kernel, by decide +kernel, by decide +kernel⟩
theorem jm_yX8_part : yX8_part.cls ≠ "java/lang/invoke/MethodHandle" ∧ yX8_part.cls ≠ "java/lang/invoke/VarHandle" ∧ (parseMethodDescriptor yX8_part.desc).map (fun d => d.parameters.length) = some 1 := ⟨by decide +kernel, by decide +kernel, by decide +kernel⟩
theorem jm_yX8_image : yX8_image.cls ≠ "java/lang/invoke/MethodHandle" ∧ yX8_image.cls ≠ "java/lang/invoke/VarHandle" ∧ (parseMethodDescriptor yX8_image.desc).map (fun d => d.parameters.length) = some 1 := ⟨by decide +kernel, by decide +kernel, by decide +kernel⟩
theorem jm_yX6_copyOf : yX6_copyOf.cls ≠ "java/lang/invoke/MethodHandle" ∧ yX6_copyOf.cls ≠ "java/lang/invoke/VarHandle" ∧ (parseMethodDescriptor yX6_copyOf.desc).map (fun d => d.parameters.length) = some 1 := ⟨by decide +kernel, by decide +kernel, by decide +kernel⟩
theorem jm_yX3_copyOf : yX3_copyOf.cls ≠ "java/lang/invoke/MethodHandle" ∧ yX3_copyOf.cls ≠ "java/lang/invoke/VarHandle" ∧ (parseMethodDescriptor yX3_copyOf.desc).map (fun d => d.parameters.length) = some 1 := ⟨by decide +kernel, by decide +kernel, by decide +kernel⟩
theorem jm_yX5_copyOf : yX5_copyOf.cls ≠ "java/lang/invoke/MethodHandle" ∧ yX5_copyOf.cls ≠ "java/lang/invoke/VarHandle" ∧ (parseMethodDescriptor yX5_copyOf.desc).map (fun d => d.parameters.length) = some 1 := ⟨by decide +kernel, by decide +kernel, by decide +kernel⟩
theorem jm_yX8_from : yX8_from.cls ≠ "java/lang/invoke/MethodHandle" ∧ yX8_from.cls ≠ "java/lang/invoke/VarHandle" ∧ (parseMethodDescriptor yX8_from.desc).map (fun d => d.parameters.length) = some 1 := ⟨by decide +kernel, by decide +kernel, by decide +kernel⟩
theorem jm_yX8_status : yX8_status.cls ≠ "java/lang/invoke/MethodHandle" ∧ yX8_status.cls ≠ "java/lang/invoke/VarHandle" ∧ (parseMethodDescriptor yX8_status.desc).map (fun d => d.parameters.length) = some 1 := ⟨by decide +kernel, by decide +kernel, by decide +kernel⟩
theorem jm_yX8_count : yX8_count.cls ≠ "java/lang/invoke/MethodHandle" ∧ yX8_count.cls ≠ "java/lang/invoke/VarHandle" ∧ (parseMethodDescriptor yX8_count.desc).map (fun d => d.parameters.length) = some 1 := ⟨by decide +kernel, by decide +kernel, by decide +kernel⟩
theorem jm_yX8_howMany : yX8_howMany.cls ≠ "java/lang/invoke/MethodHandle" ∧ yX8_howMany.cls ≠ "java/lang/invoke/VarHandle" ∧ (parseMethodDescriptor yX8_howMany.desc).map (fun d => d.parameters.length) = some 1 := ⟨by decide +kernel, by decide +kernel, by decide +kernel⟩
theorem jm_yX4_allRings : yX4_allRings.cls ≠ "java/lang/invoke/MethodHandle" ∧ yX4_allRings.cls ≠ "java/lang/invoke/VarHandle" ∧ (parseMethodDescriptor yX4_allRings.desc).map (fun d => d.parameters.length) = some 0 := ⟨by decide +kernel, by decide +kernel, by decide +kernel⟩
theorem jm_yX8_digest : yX8_digest.cls ≠ "java/lang/invoke/MethodHandle" ∧ yX8_digest.cls ≠ "java/lang/invoke/VarHandle" ∧ (parseMethodDescriptor yX8_digest.desc).map (fun d => d.parameters.length) = some 0 := ⟨by decide +kernel, by decide +kernel, by decide +kernel⟩
theorem jm_yX4_mixInto : yX4_mixInto.cls ≠ "java/lang/invoke/MethodHandle" ∧ yX4_mixInto.cls ≠ "java/lang/invoke/VarHandle" ∧ (parseMethodDescriptor yX4_mixInto.desc).map (fun d => d.parameters.length) = some 1 := ⟨by decide +kernel, by decide +kernel, by decide +kernel⟩
theorem jm_yX5_mixInto : yX5_mixInto.cls ≠ "java/lang/invoke/MethodHandle" ∧ yX5_mixInto.cls ≠ "java/lang/invoke/VarHandle" ∧ (parseMethodDescriptor yX5_mixInto.desc).map (fun d => d.parameters.length) = some 1 := ⟨by decide +kernel, by decide +kernel, by decide +kernel⟩
theorem jm_yX9_init : yX9_init.cls ≠ "java/lang/invoke/MethodHandle" ∧ yX9_init.cls ≠ "java/lang/invoke/VarHandle" ∧ (parseMethodDescriptor yX9_init.desc).map (fun d => d.parameters.length) = some 0 := ⟨by decide +kernel, by decide +kernel, by decide +kernel⟩
theorem jm_yX9_begin : yX9_begin.cls ≠ "java/lang/invoke/MethodHandle" ∧ yX9_begin.cls ≠ "java/lang/invoke/VarHandle" ∧ (parseMethodDescriptor yX9_begin.desc).map (fun d => d.parameters.length) = some 3 := ⟨by decide +kernel, by decide +kernel, by decide +kernel⟩
theorem jm_yX9_round : yX9_round.cls ≠ "java/lang/invoke/MethodHandle" ∧ yX9_round.cls ≠ "java/lang/invoke/VarHandle" ∧ (parseMethodDescriptor yX9_round.desc).map (fun d => d.parameters.length) = some 2 := ⟨by decide +kernel, by decide +kernel, by decide +kernel⟩
theorem jm_yX9_in : yX9_in.cls ≠ "java/lang/invoke/MethodHandle" ∧ yX9_in.cls ≠ "java/lang/invoke/VarHandle" ∧ (parseMethodDescriptor yX9_in.desc).map (fun d => d.parameters.length) = some 3 := ⟨by decide +kernel, by decide +kernel, by decide +kernel⟩
theorem jm_yX9_isSpeed : yX9_isSpeed.cls ≠ "java/lang/invoke/MethodHandle" ∧ yX9_isSpeed.cls ≠ "java/lang/invoke/VarHandle" ∧ (parseMethodDescriptor yX9_isSpeed.desc).map (fun d => d.parameters.length) = some 1 := ⟨by decide +kernel, by decide +kernel, by decide +kernel⟩
theorem jm_yX9_bad : yX9_bad.cls ≠ "java/lang/invoke/MethodHandle" ∧ yX9_bad.cls ≠ "java/lang/invoke/VarHandle" ∧ (parseMethodDescriptor yX9_bad.desc).map (fun d => d.parameters.length) = some 1 := ⟨by decide +kernel, by decide +kernel, by decide +kernel⟩
theorem jm_yX9_many : yX9_many.cls ≠ "java/lang/invoke/MethodHandle" ∧ yX9_many.cls ≠ "java/lang/invoke/VarHandle" ∧ (parseMethodDescriptor yX9_many.desc).map (fun d => d.parameters.length) = some 0 := ⟨by decide +kernel, by decide +kernel, by decide +kernel⟩
theorem jm_yX9_horse : yX9_horse.cls ≠ "java/lang/invoke/MethodHandle" ∧ yX9_horse.cls ≠ "java/lang/invoke/VarHandle" ∧ (parseMethodDescriptor yX9_horse.desc).map (fun d => d.parameters.length) = some 3 := ⟨by decide +kernel, by decide +kernel, by decide +kernel⟩
theorem jm_yX9_isSeat : yX9_isSeat.cls ≠ "java/lang/invoke/MethodHandle" ∧ yX9_isSeat.cls ≠ "java/lang/invoke/VarHandle" ∧ (parseMethodDescriptor yX9_isSeat.desc).map (fun d => d.parameters.length) = some 1 := ⟨by decide +kernel, by decide +kernel, by decide +kernel⟩
theorem jm_yX9_isKind : yX9_isKind.cls ≠ "java/lang/invoke/MethodHandle" ∧ yX9_isKind.cls ≠ "java/lang/invoke/VarHandle" ∧ (parseMethodDescriptor yX9_isKind.desc).map (fun d => d.parameters.length) = some 1 := ⟨by decide +kernel, by decide +kernel, by decide +kernel⟩
theorem jm_yX9_isPhase : yX9_isPhase.cls ≠ "java/lang/invoke/MethodHandle" ∧ yX9_isPhase.cls ≠ "java/lang/invoke/VarHandle" ∧ (parseMethodDescriptor yX9_isPhase.desc).map (fun d => d.parameters.length) = some 1 := ⟨by decide +kernel, by decide +kernel, by decide +kernel⟩
theorem jm_yX9_rider : yX9_rider.cls ≠ "java/lang/invoke/MethodHandle" ∧ yX9_rider.cls ≠ "java/lang/invoke/VarHandle" ∧ (parseMethodDescriptor yX9_rider.desc).map (fun d => d.parameters.length) = some 3 := ⟨by decide +kernel, by decide +kernel, by decide +kernel⟩
theorem jm_yX9_isArm : yX9_isArm.cls ≠ "java/lang/invoke/MethodHandle" ∧ yX9_isArm.cls ≠ "java/lang/invoke/VarHandle" ∧ (parseMethodDescriptor yX9_isArm.desc).map (fun d => d.parameters.length) = some 1 := ⟨by decide +kernel, by decide +kernel, by decide +kernel⟩
theorem jm_yX9_whoIs : yX9_whoIs.cls ≠ "java/lang/invoke/MethodHandle" ∧ yX9_whoIs.cls ≠ "java/lang/invoke/VarHandle" ∧ (parseMethodDescriptor yX9_whoIs.desc).map (fun d => d.parameters.length) = some 2 := ⟨by decide +kernel, by decide +kernel, by decide +kernel⟩
theorem jm_yX9_no : yX9_no.cls ≠ "java/lang/invoke/MethodHandle" ∧ yX9_no.cls ≠ "java/lang/invoke/VarHandle" ∧ (parseMethodDescriptor yX9_no.desc).map (fun d => d.parameters.length) = some 0 := ⟨by decide +kernel, by decide +kernel, by decide +kernel⟩
theorem jm_yX9_full : yX9_full.cls ≠ "java/lang/invoke/MethodHandle" ∧ yX9_full.cls ≠ "java/lang/invoke/VarHandle" ∧ (parseMethodDescriptor yX9_full.desc).map (fun d => d.parameters.length) = some 0 := ⟨by decide +kernel, by decide +kernel, by decide +kernel⟩
theorem jm_yX9_layRider : yX9_layRider.cls ≠ "java/lang/invoke/MethodHandle" ∧ yX9_layRider.cls ≠ "java/lang/invoke/VarHandle" ∧ (parseMethodDescriptor yX9_layRider.desc).map (fun d => d.parameters.length) = some 4 := ⟨by decide +kernel, by decide +kernel, by decide +kernel⟩
theorem jm_yX9_ticks : yX9_ticks.cls ≠ "java/lang/invoke/MethodHandle" ∧ yX9_ticks.cls ≠ "java/lang/invoke/VarHandle" ∧ (parseMethodDescriptor yX9_ticks.desc).map (fun d => d.parameters.length) = some 1 := ⟨by decide +kernel, by decide +kernel, by decide +kernel⟩
theorem jm_yX9_save : yX9_save.cls ≠ "java/lang/invoke/MethodHandle" ∧ yX9_save.cls ≠ "java/lang/invoke/VarHandle" ∧ (parseMethodDescriptor yX9_save.desc).map (fun d => d.parameters.length) = some 0 := ⟨by decide +kernel, by decide +kernel, by decide +kernel⟩
theorem jm_yX9_goTicks : yX9_goTicks.cls ≠ "java/lang/invoke/MethodHandle" ∧ yX9_goTicks.cls ≠ "java/lang/invoke/VarHandle" ∧ (parseMethodDescriptor yX9_goTicks.desc).map (fun d => d.parameters.length) = some 2 := ⟨by decide +kernel, by decide +kernel, by decide +kernel⟩
theorem jm_yX9_goTick : yX9_goTick.cls ≠ "java/lang/invoke/MethodHandle" ∧ yX9_goTick.cls ≠ "java/lang/invoke/VarHandle" ∧ (parseMethodDescriptor yX9_goTick.desc).map (fun d => d.parameters.length) = some 2 := ⟨by decide +kernel, by decide +kernel, by decide +kernel⟩
theorem jm_yX9_reachOf : yX9_reachOf.cls ≠ "java/lang/invoke/MethodHandle" ∧ yX9_reachOf.cls ≠ "java/lang/invoke/VarHandle" ∧ (parseMethodDescriptor yX9_reachOf.desc).map (fun d => d.parameters.length) = some 2 := ⟨by decide +kernel, by decide +kernel, by decide +kernel⟩
theorem jm_yX9_highOf : yX9_highOf.cls ≠ "java/lang/invoke/MethodHandle" ∧ yX9_highOf.cls ≠ "java/lang/invoke/VarHandle" ∧ (parseMethodDescriptor yX9_highOf.desc).map (fun d => d.parameters.length) = some 2 := ⟨by decide +kernel, by decide +kernel, by decide +kernel⟩
theorem jm_yX9_highAs : yX9_highAs.cls ≠ "java/lang/invoke/MethodHandle" ∧ yX9_highAs.cls ≠ "java/lang/invoke/VarHandle" ∧ (parseMethodDescriptor yX9_highAs.desc).map (fun d => d.parameters.length) = some 4 := ⟨by decide +kernel, by decide +kernel, by decide +kernel⟩
theorem jm_yX9_reachAs : yX9_reachAs.cls ≠ "java/lang/invoke/MethodHandle" ∧ yX9_reachAs.cls ≠ "java/lang/invoke/VarHandle" ∧ (parseMethodDescriptor yX9_reachAs.desc).map (fun d => d.parameters.length) = some 4 := ⟨by decide +kernel, by decide +kernel, by decide +kernel⟩
theorem jm_yX9_speed : yX9_speed.cls ≠ "java/lang/invoke/MethodHandle" ∧ yX9_speed.cls ≠ "java/lang/invoke/VarHandle" ∧ (parseMethodDescriptor yX9_speed.desc).map (fun d => d.parameters.length) = some 1 := ⟨by decide +kernel, by decide +kernel, by decide +kernel⟩
theorem jm_yX9_changes : yX9_changes.cls ≠ "java/lang/invoke/MethodHandle" ∧ yX9_changes.cls ≠ "java/lang/invoke/VarHandle" ∧ (parseMethodDescriptor yX9_changes.desc).map (fun d => d.parameters.length) = some 2 := ⟨by decide +kernel, by decide +kernel, by decide +kernel⟩
theorem jm_yX9_isRider : yX9_isRider.cls ≠ "java/lang/invoke/MethodHandle" ∧ yX9_isRider.cls ≠ "java/lang/invoke/VarHandle" ∧ (parseMethodDescriptor yX9_isRider.desc).map (fun d => d.parameters.length) = some 1 := ⟨by decide +kernel, by decide +kernel, by decide +kernel⟩
theorem jm_yX9_hangs : yX9_hangs.cls ≠ "java/lang/invoke/MethodHandle" ∧ yX9_hangs.cls ≠ "java/lang/invoke/VarHandle" ∧ (parseMethodDescriptor yX9_hangs.desc).map (fun d => d.parameters.length) = some 1 := ⟨by decide +kernel, by decide +kernel, by decide +kernel⟩
theorem jm_yX9_undo : yX9_undo.cls ≠ "java/lang/invoke/MethodHandle" ∧ yX9_undo.cls ≠ "java/lang/invoke/VarHandle" ∧ (parseMethodDescriptor yX9_undo.desc).map (fun d => d.parameters.length) = some 0 := ⟨by decide +kernel, by decide +kernel, by decide +kernel⟩
theorem jm_yX9_of : yX9_of.cls ≠ "java/lang/invoke/MethodHandle" ∧ yX9_of.cls ≠ "java/lang/invoke/VarHandle" ∧ (parseMethodDescriptor yX9_of.desc).map (fun d => d.parameters.length) = some 2 := ⟨by decide +kernel, by decide +kernel, by decide +kernel⟩
theorem jm_yX9_placeOf : yX9_placeOf.cls ≠ "java/lang/invoke/MethodHandle" ∧ yX9_placeOf.cls ≠ "java/lang/invoke/VarHandle" ∧ (parseMethodDescriptor yX9_placeOf.desc).map (fun d => d.parameters.length) = some 2 := ⟨by decide +kernel, by decide +kernel, by decide +kernel⟩
theorem jm_yX9_about : yX9_about.cls ≠ "java/lang/invoke/MethodHandle" ∧ yX9_about.cls ≠ "java/lang/invoke/VarHandle" ∧ (parseMethodDescriptor yX9_about.desc).map (fun d => d.parameters.length) = some 2 := ⟨by decide +kernel, by decide +kernel, by decide +kernel⟩
theorem jm_yX9_where : yX9_where.cls ≠ "java/lang/invoke/MethodHandle" ∧ yX9_where.cls ≠ "java/lang/invoke/VarHandle" ∧ (parseMethodDescriptor yX9_where.desc).map (fun d => d.parameters.length) = some 3 := ⟨by decide +kernel, by decide +kernel, by decide +kernel⟩
theorem jm_yX9_layHand : yX9_layHand.cls ≠ "java/lang/invoke/MethodHandle" ∧ yX9_layHand.cls ≠ "java/lang/invoke/VarHandle" ∧ (parseMethodDescriptor yX9_layHand.desc).map (fun d => d.parameters.length) = some 0 := ⟨by decide +kernel, by decide +kernel, by decide +kernel⟩
theorem jm_yX9_takes : yX9_takes.cls ≠ "java/lang/invoke/MethodHandle" ∧ yX9_takes.cls ≠ "java/lang/invoke/VarHandle" ∧ (parseMethodDescriptor yX9_takes.desc).map (fun d => d.parameters.length) = some 1 := ⟨by decide +kernel, by decide +kernel, by decide +kernel⟩
theorem jm_yX9_level : yX9_level.cls ≠ "java/lang/invoke/MethodHandle" ∧ yX9_level.cls ≠ "java/lang/invoke/VarHandle" ∧ (parseMethodDescriptor yX9_level.desc).map (fun d => d.parameters.length) = some 1 := ⟨by decide +kernel, by decide +kernel, by decide +kernel⟩
theorem jm_yX9_again : yX9_again.cls ≠ "java/lang/invoke/MethodHandle" ∧ yX9_again.cls ≠ "java/lang/invoke/VarHandle" ∧ (parseMethodDescriptor yX9_again.desc).map (fun d => d.parameters.length) = some 0 := ⟨by decide +kernel, by decide +kernel, by decide +kernel⟩
theorem jm_yX9_fast : yX9_fast.cls ≠ "java/lang/invoke/MethodHandle" ∧ yX9_fast.cls ≠ "java/lang/invoke/VarHandle" ∧ (parseMethodDescriptor yX9_fast.desc).map (fun d => d.parameters.length) = some 3 := ⟨by decide +kernel, by decide +kernel, by decide +kernel⟩
theorem jm_yX9_taken : yX9_taken.cls ≠ "java/lang/invoke/MethodHandle" ∧ yX9_taken.cls ≠ "java/lang/invoke/VarHandle" ∧ (parseMethodDescriptor yX9_taken.desc).map (fun d => d.parameters.length) = some 2 := ⟨by decide +kernel, by decide +kernel, by decide +kernel⟩
theorem jm_yX9_seat : yX9_seat.cls ≠ "java/lang/invoke/MethodHandle" ∧ yX9_seat.cls ≠ "java/lang/invoke/VarHandle" ∧ (parseMethodDescriptor yX9_seat.desc).map (fun d => d.parameters.length) = some 3 := ⟨by decide +kernel, by decide +kernel, by decide +kernel⟩
theorem jm_yX9_lever : yX9_lever.cls ≠ "java/lang/invoke/MethodHandle" ∧ yX9_lever.cls ≠ "java/lang/invoke/VarHandle" ∧ (parseMethodDescriptor yX9_lever.desc).map (fun d => d.parameters.length) = some 3 := ⟨by decide +kernel, by decide +kernel, by decide +kernel⟩
theorem jm_yX9_takenBy : yX9_takenBy.cls ≠ "java/lang/invoke/MethodHandle" ∧ yX9_takenBy.cls ≠ "java/lang/invoke/VarHandle" ∧ (parseMethodDescriptor yX9_takenBy.desc).map (fun d => d.parameters.length) = some 3 := ⟨by decide +kernel, by decide +kernel, by decide +kernel⟩
theorem jm_yX9_seen : yX9_seen.cls ≠ "java/lang/invoke/MethodHandle" ∧ yX9_seen.cls ≠ "java/lang/invoke/VarHandle" ∧ (parseMethodDescriptor yX9_seen.desc).map (fun d => d.parameters.length) = some 4 := ⟨by decide +kernel, by decide +kernel, by decide +kernel⟩
theorem jm_yX9_phases : yX9_phases.cls ≠ "java/lang/invoke/MethodHandle" ∧ yX9_phases.cls ≠ "java/lang/invoke/VarHandle" ∧ (parseMethodDescriptor yX9_phases.desc).map (fun d => d.parameters.length) = some 1 := ⟨by decide +kernel, by decide +kernel, by decide +kernel⟩
theorem jm_yX9_phasesOf : yX9_phasesOf.cls ≠ "java/lang/invoke/MethodHandle" ∧ yX9_phasesOf.cls ≠ "java/lang/invoke/VarHandle" ∧ (parseMethodDescriptor yX9_phasesOf.desc).map (fun d => d.parameters.length) = some 1 := ⟨by decide +kernel, by decide +kernel, by decide +kernel⟩
theorem jm_yX9_tell : yX9_tell.cls ≠ "java/lang/invoke/MethodHandle" ∧ yX9_tell.cls ≠ "java/lang/invoke/VarHandle" ∧ (parseMethodDescriptor yX9_tell.desc).map (fun d => d.parameters.length) = some 1 := ⟨by decide +kernel, by decide +kernel, by decide +kernel⟩
theorem jm_yX9_mostAlike : yX9_mostAlike.cls ≠ "java/lang/invoke/MethodHandle" ∧ yX9_mostAlike.cls ≠ "java/lang/invoke/VarHandle" ∧ (parseMethodDescriptor yX9_mostAlike.desc).map (fun d => d.parameters.length) = some 1 := ⟨by decide +kernel, by decide +kernel, by decide +kernel⟩
theorem jm_yX9_has : yX9_has.cls ≠ "java/lang/invoke/MethodHandle" ∧ yX9_has.cls ≠ "java/lang/invoke/VarHandle" ∧ (parseMethodDescriptor yX9_has.desc).map (fun d => d.parameters.length) = some 2 := ⟨by decide +kernel, by decide +kernel, by decide +kernel⟩
theorem jm_yX9_note : yX9_note.cls ≠ "java/lang/invoke/MethodHandle" ∧ yX9_note.cls ≠ "java/lang/invoke/VarHandle" ∧ (parseMethodDescriptor yX9_note.desc).map (fun d => d.parameters.length) = some 5 := ⟨by decide +kernel, by decide +kernel, by decide +kernel⟩
theorem jm_yX9_layFive : yX9_layFive.cls ≠ "java/lang/invoke/MethodHandle" ∧ yX9_layFive.cls ≠ "java/lang/invoke/VarHandle" ∧ (parseMethodDescriptor yX9_layFive.desc).map (fun d => d.parameters.length) = some 6 := ⟨by decide +kernel, by decide +kernel, by decide +kernel⟩
theorem jm_yX9_mark : yX9_mark.cls ≠ "java/lang/invoke/MethodHandle" ∧ yX9_mark.cls ≠ "java/lang/invoke/VarHandle" ∧ (parseMethodDescriptor yX9_mark.desc).map (fun d => d.parameters.length) = some 5 := ⟨by decide +kernel, by decide +kernel, by decide +kernel⟩
theorem jm_yX9_forget : yX9_forget.cls ≠ "java/lang/invoke/MethodHandle" ∧ yX9_forget.cls ≠ "java/lang/invoke/VarHandle" ∧ (parseMethodDescriptor yX9_forget.desc).map (fun d => d.parameters.length) = some 1 := ⟨by decide +kernel, by decide +kernel, by decide +kernel⟩
theorem jm_yX9_is : yX9_is.cls ≠ "java/lang/invoke/MethodHandle" ∧ yX9_is.cls ≠ "java/lang/invoke/VarHandle" ∧ (parseMethodDescriptor yX9_is.desc).map (fun d => d.parameters.length) = some 1 := ⟨by decide +kernel, by decide +kernel, by decide +kernel⟩
theorem jm_yX9_kindsOfHorse : yX9_kindsOfHorse.cls ≠ "java/lang/invoke/MethodHandle" ∧ yX9_kindsOfHorse.cls ≠ "java/lang/invoke/VarHandle" ∧ (parseMethodDescriptor yX9_kindsOfHorse.desc).map (fun d => d.parameters.length) = some 1 := ⟨by decide +kernel, by decide +kernel, by decide +kernel⟩
theorem jm_yX9_kindsBy : yX9_kindsBy.cls ≠ "java/lang/invoke/MethodHandle" ∧ yX9_kindsBy.cls ≠ "java/lang/invoke/VarHandle" ∧ (parseMethodDescriptor yX9_kindsBy.desc).map (fun d => d.parameters.length) = some 4 := ⟨by decide +kernel, by decide +kernel, by decide +kernel⟩
theorem jm_yX9_look : yX9_look.cls ≠ "java/lang/invoke/MethodHandle" ∧ yX9_look.cls ≠ "java/lang/invoke/VarHandle" ∧ (parseMethodDescriptor yX9_look.desc).map (fun d => d.parameters.length) = some 1 := ⟨by decide +kernel, by decide +kernel, by decide +kernel⟩
theorem jm_yX9_kinds : yX9_kinds.cls ≠ "java/lang/invoke/MethodHandle" ∧ yX9_kinds.cls ≠ "java/lang/invoke/VarHandle" ∧ (parseMethodDescriptor yX9_kinds.desc).map (fun d => d.parameters.length) = some 1 := ⟨by decide +kernel, by decide +kernel, by decide +kernel⟩
theorem jm_yX9_kindsOfRider : yX9_kindsOfRider.cls ≠ "java/lang/invoke/MethodHandle" ∧ yX9_kindsOfRider.cls ≠ "java/lang/invoke/VarHandle" ∧ (parseMethodDescriptor yX9_kindsOfRider.desc).map (fun d => d.parameters.length) = some 1 := ⟨by decide +kernel, by decide +kernel, by decide +kernel⟩
theorem jm_yX9_ask : yX9_ask.cls ≠ "java/lang/invoke/MethodHandle" ∧ yX9_ask.cls ≠ "java/lang/invoke/VarHandle" ∧ (parseMethodDescriptor yX9_ask.desc).map (fun d => d.parameters.length) = some 1 := ⟨by decide +kernel, by decide +kernel, by decide +kernel⟩
theorem jm_yX9_hands : yX9_hands.cls ≠ "java/lang/invoke/MethodHandle" ∧ yX9_hands.cls ≠ "java/lang/invoke/VarHandle" ∧ (parseMethodDescriptor yX9_hands.desc).map (fun d => d.parameters.length) = some 3 := ⟨by decide +kernel, by decide +kernel, by decide +kernel⟩
theorem jm_yX9_rests : yX9_rests.cls ≠ "java/lang/invoke/MethodHandle" ∧ yX9_rests.cls ≠ "java/lang/invoke/VarHandle" ∧ (parseMethodDescriptor yX9_rests.desc).map (fun d => d.parameters.length) = some 2 := ⟨by decide +kernel, by decide +kernel, by decide +kernel⟩
theorem jm_yX9_getsBy : yX9_getsBy.cls ≠ "java/lang/invoke/MethodHandle" ∧ yX9_getsBy.cls ≠ "java/lang/invoke/VarHandle" ∧ (parseMethodDescriptor yX9_getsBy.desc).map (fun d => d.parameters.length) = some 3 := ⟨by decide +kernel, by decide +kernel, by decide +kernel⟩
theorem jm_yX9_slip : yX9_slip.cls ≠ "java/lang/invoke/MethodHandle" ∧ yX9_slip.cls ≠ "java/lang/invoke/VarHandle" ∧ (parseMethodDescriptor yX9_slip.desc).map (fun d => d.parameters.length) = some 4 := ⟨by decide +kernel, by decide +kernel, by decide +kernel⟩
theorem jm_yX9_fraction : yX9_fraction.cls ≠ "java/lang/invoke/MethodHandle" ∧ yX9_fraction.cls ≠ "java/lang/invoke/VarHandle" ∧ (parseMethodDescriptor yX9_fraction.desc).map (fun d => d.parameters.length) = some 2 := ⟨by decide +kernel, by decide +kernel, by decide +kernel⟩
theorem jm_yX9_evenings : yX9_evenings.cls ≠ "java/lang/invoke/MethodHandle" ∧ yX9_evenings.cls ≠ "java/lang/invoke/VarHandle" ∧ (parseMethodDescriptor yX9_evenings.desc).map (fun d => d.parameters.length) = some 2 := ⟨by decide +kernel, by decide +kernel, by decide +kernel⟩
theorem jm_yX9_type : yX9_type.cls ≠ "java/lang/invoke/MethodHandle" ∧ yX9_type.cls ≠ "java/lang/invoke/VarHandle" ∧ (parseMethodDescriptor yX9_type.desc).map (fun d => d.parameters.length) = some 1 := ⟨by decide +kernel, by decide +kernel, by decide +kernel⟩
theorem jm_yX9_clear : yX9_clear.cls ≠ "java/lang/invoke/MethodHandle" ∧ yX9_clear.cls ≠ "java/lang/invoke/VarHandle" ∧ (parseMethodDescriptor yX9_clear.desc).map (fun d => d.parameters.length) = some 0 := ⟨by decide +kernel, by decide +kernel, by decide +kernel⟩
theorem jm_yX9_read : yX9_read.cls ≠ "java/lang/invoke/MethodHandle" ∧ yX9_read.cls ≠ "java/lang/invoke/VarHandle" ∧ (parseMethodDescriptor yX9_read.desc).map (fun d => d.parameters.length) = some 0 := ⟨by decide +kernel, by decide +kernel, by decide +kernel⟩
theorem jm_yX9_lookAt : yX9_lookAt.cls ≠ "java/lang/invoke/MethodHandle" ∧ yX9_lookAt.cls ≠ "java/lang/invoke/VarHandle" ∧ (parseMethodDescriptor yX9_lookAt.desc).map (fun d => d.parameters.length) = some 1 := ⟨by decide +kernel, by decide +kernel, by decide +kernel⟩
theorem jm_yX9_isSmall : yX9_isSmall.cls ≠ "java/lang/invoke/MethodHandle" ∧ yX9_isSmall.cls ≠ "java/lang/invoke/VarHandle" ∧ (parseMethodDescriptor yX9_isSmall.desc).map (fun d => d.parameters.length) = some 1 := ⟨by decide +kernel, by decide +kernel, by decide +kernel⟩
theorem jm_yX9_isFigure : yX9_isFigure.cls ≠ "java/lang/invoke/MethodHandle" ∧ yX9_isFigure.cls ≠ "java/lang/invoke/VarHandle" ∧ (parseMethodDescriptor yX9_isFigure.desc).map (fun d => d.parameters.length) = some 1 := ⟨by decide +kernel, by decide +kernel, by decide +kernel⟩
theorem jm_yX9_spells : yX9_spells.cls ≠ "java/lang/invoke/MethodHandle" ∧ yX9_spells.cls ≠ "java/lang/invoke/VarHandle" ∧ (parseMethodDescriptor yX9_spells.desc).map (fun d => d.parameters.length) = some 7 := ⟨by decide +kernel, by decide +kernel, by decide +kernel⟩
theorem jm_yX9_goBehind : yX9_goBehind.cls ≠ "java/lang/invoke/MethodHandle" ∧ yX9_goBehind.cls ≠ "java/lang/invoke/VarHandle" ∧ (parseMethodDescriptor yX9_goBehind.desc).map (fun d => d.parameters.length) = some 0 := ⟨by decide +kernel, by decide +kernel, by decide +kernel⟩
theorem jm_yX9_takesNumber : yX9_takesNumber.cls ≠ "java/lang/invoke/MethodHandle" ∧ yX9_takesNumber.cls ≠ "java/lang/invoke/VarHandle" ∧ (parseMethodDescriptor yX9_takesNumber.desc).map (fun d => d.parameters.length) = some 3 := ⟨by decide +kernel, by decide +kernel, by decide +kernel⟩
theorem jm_yX9_takesItem : yX9_takesItem.cls ≠ "java/lang/invoke/MethodHandle" ∧ yX9_takesItem.cls ≠ "java/lang/invoke/VarHandle" ∧ (parseMethodDescriptor yX9_takesItem.desc).map (fun d => d.parameters.length) = some 0 := ⟨by decide +kernel, by decide +kernel, by decide +kernel⟩
theorem jm_yX9_takesHorse : yX9_takesHorse.cls ≠ "java/lang/invoke/MethodHandle" ∧ yX9_takesHorse.cls ≠ "java/lang/invoke/VarHandle" ∧ (parseMethodDescriptor yX9_takesHorse.desc).map (fun d => d.parameters.length) = some 0 := ⟨by decide +kernel, by decide +kernel, by decide +kernel⟩
theorem jm_yX9_takesRider : yX9_takesRider.cls ≠ "java/lang/invoke/MethodHandle" ∧ yX9_takesRider.cls ≠ "java/lang/invoke/VarHandle" ∧ (parseMethodDescriptor yX9_takesRider.desc).map (fun d => d.parameters.length) = some 0 := ⟨by decide +kernel, by decide +kernel, by decide +kernel⟩
theorem jm_yX9_takesRing : yX9_takesRing.cls ≠ "java/lang/invoke/MethodHandle" ∧ yX9_takesRing.cls ≠ "java/lang/invoke/VarHandle" ∧ (parseMethodDescriptor yX9_takesRing.desc).map (fun d => d.parameters.length) = some 0 := ⟨by decide +kernel, by decide +kernel, by decide +kernel⟩
theorem jm_yX9_takesGo : yX9_takesGo.cls ≠ "java/lang/invoke/MethodHandle" ∧ yX9_takesGo.cls ≠ "java/lang/invoke/VarHandle" ∧ (parseMethodDescriptor yX9_takesGo.desc).map (fun d => d.parameters.length) = some 0 := ⟨by decide +kernel, by decide +kernel, by decide +kernel⟩
theorem jm_yX9_part : yX9_part.cls ≠ "java/lang/invoke/MethodHandle" ∧ yX9_part.cls ≠ "java/lang/invoke/VarHandle" ∧ (parseMethodDescriptor yX9_part.desc).map (fun d => d.parameters.length) = some 1 := ⟨by decide +kernel, by decide +kernel, by decide +kernel⟩
theorem jm_yX9_image : yX9_image.cls ≠ "java/lang/invoke/MethodHandle" ∧ yX9_image.cls ≠ "java/lang/invoke/VarHandle" ∧ (parseMethodDescriptor yX9_image.desc).map (fun d => d.parameters.length) = some 1 := ⟨by decide +kernel, by decide +kernel, by decide +kernel⟩
theorem jm_yX9_from : yX9_from.cls ≠ "java/lang/invoke/MethodHandle" ∧ yX9_from.cls ≠ "java/lang/invoke/VarHandle" ∧ (parseMethodDescriptor yX9_from.desc).map (fun d => d.parameters.length) = some 1 := ⟨by decide +kernel, by decide +kernel, by decide +kernel⟩
theorem jm_yX9_status : yX9_status.cls ≠ "java/lang/invoke/MethodHandle" ∧ yX9_status.cls ≠ "java/lang/invoke/VarHandle" ∧ (parseMethodDescriptor yX9_status.desc).map (fun d => d.parameters.length) = some 1 := ⟨by decide +kernel, by decide +kernel, by decide +kernel⟩
theorem jm_yX9_count : yX9_count.cls ≠ "java/lang/invoke/MethodHandle" ∧ yX9_count.cls ≠ "java/lang/invoke/VarHandle" ∧ (parseMethodDescriptor yX9_count.desc).map (fun d => d.parameters.length) = some 1 := ⟨by decide +kernel, by decide +kernel, by decide +kernel⟩
theorem jm_yX9_counted : yX9_counted.cls ≠ "java/lang/invoke/MethodHandle" ∧ yX9_counted.cls ≠ "java/lang/invoke/VarHandle" ∧ (parseMethodDescriptor yX9_counted.desc).map (fun d => d.parameters.length) = some 1 := ⟨by decide +kernel, by decide +kernel, by decide +kernel⟩
theorem jm_yX9_digest : yX9_digest.cls ≠ "java/lang/invoke/MethodHandle" ∧ yX9_digest.cls ≠ "java/lang/invoke/VarHandle" ∧ (parseMethodDescriptor yX9_digest.desc).map (fun d => d.parameters.length) = some 0 := ⟨by decide +kernel, by decide +kernel, by decide +kernel⟩
theorem jm_yX9_sums : yX9_sums.cls ≠ "java/lang/invoke/MethodHandle" ∧ yX9_sums.cls ≠ "java/lang/invoke/VarHandle" ∧ (parseMethodDescriptor yX9_sums.desc).map (fun d => d.parameters.length) = some 3 := ⟨by decide +kernel, by decide +kernel, by decide +kernel⟩
theorem jl_L_9 : JCi RL 9 yX8_init cX8_init 1 0 := ⟨⟨tm_19, tm_1, tm_21, jm_yX8_init⟩, tm_20, rfl⟩
theorem jl_X6_11 : JCi RX6 11 yX4_init cX4_init 1 0 := ⟨⟨tm_33, tm_3, tm_35, jm_yX4_init⟩, tm_34, rfl⟩
theorem jl_X4_30 : JCv RX4 30 RX4 yX4_start cX4_start 4 (none) 2 := ⟨⟨tm_37, tm_3, tm_40, jm_yX4_start⟩, tm_38, tm_39⟩
theorem jl_X4_53 : JCv RX4 53 RX4 yX4_putHorse cX4_putHorse 4 (none) 3 := ⟨⟨tm_41, tm_3, tm_44, jm_yX4_putHorse⟩, tm_42, tm_43⟩
theorem jl_X6_27 : JCi RX6 27 yX5_init cX5_init 3 2 := ⟨⟨tm_126, tm_5, tm_128, jm_yX5_init⟩, tm_127, rfl⟩
theorem jl_X8_36 : JCi RX8 36 yX4_init cX4_init 1 0 := ⟨⟨tm_200, tm_3, tm_35, jm_yX4_init⟩, tm_34, rfl⟩
theorem jl_L_13 : JCv RL 13 RX8 yX8_round cX8_round 4 ((some FieldType.int)) 2 := ⟨⟨tm_265, tm_1, tm_268, jm_yX8_round⟩, tm_266, tm_267⟩
theorem jl_X8_58 : JCs RX8 58 yX8_within cX8_within 3 ((some FieldType.boolean)) 3 := ⟨⟨tm_269, tm_1, tm_271, jm_yX8_within⟩, tm_270⟩
theorem jl_X8_62 : JCv RX8 62 RX8 yX8_bad cX8_bad 1 ((some FieldType.int)) 0 := ⟨⟨tm_272, tm_1, tm_275, jm_yX8_bad⟩, tm_274, ts_0⟩
theorem jl_X8_73 : JCv RX8 73 RX4 yX4_start cX4_start 4 (none) 2 := ⟨⟨tm_276, tm_3, tm_40, jm_yX4_start⟩, tm_38, tm_39⟩
theorem jl_X8_77 : JCv RX8 77 RX6 yX6_dropRest cX6_dropRest 1 (none) 0 := ⟨⟨tm_277, tm_2, tm_280, jm_yX6_dropRest⟩, tm_278, tm_279⟩
theorem jl_X6_54 : JCv RX6 54 RX5 yX5_drop cX5_drop 2 ((some FieldType.int)) 0 := ⟨⟨tm_281, tm_5, tm_284, jm_yX5_drop⟩, tm_282, tm_283⟩
theorem jl_L_18 : JCv RL 18 RX8 yX8_horse cX8_horse 5 ((some FieldType.int)) 3 := ⟨⟨tm_285, tm_1, tm_288, jm_yX8_horse⟩, tm_286, tm_287⟩
theorem jl_X8_80 : JCv RX8 80 RX8 yX8_isSeat cX8_isSeat 2 ((some FieldType.boolean)) 1 := ⟨⟨tm_289, tm_1, tm_292, jm_yX8_isSeat⟩, tm_291, ts_1⟩
theorem jl_X8_87 : JCv RX8 87 RX4 yX4_putHorse cX4_putHorse 4 (none) 3 := ⟨⟨tm_293, tm_3, tm_44, jm_yX4_putHorse⟩, tm_42, tm_43⟩
theorem jl_L_23 : JCv RL 23 RX8 yX8_rider cX8_rider 4 ((some FieldType.int)) 3 := ⟨⟨tm_294, tm_1, tm_297, jm_yX8_rider⟩, tm_295, tm_296⟩
theorem jl_X8_100 : JCv RX8 100 RX4 yX4_whoIsOn cX4_whoIsOn 3 ((some FieldType.int)) 1 := ⟨⟨tm_298, tm_3, tm_301, jm_yX4_whoIsOn⟩, tm_299, tm_300⟩
theorem jl_X8_104 : JCv RX8 104 RX8 yX8_no cX8_no 1 ((some FieldType.int)) 0 := ⟨⟨tm_302, tm_1, tm_305, jm_yX8_no⟩, tm_304, ts_2⟩
theorem jl_X8_107 : JCv RX8 107 RX8 yX8_full cX8_full 1 ((some FieldType.int)) 0 := ⟨⟨tm_306, tm_1, tm_309, jm_yX8_full⟩, tm_308, ts_3⟩
theorem jl_X8_110 : JCv RX8 110 RX4 yX4_putRider cX4_putRider 4 (none) 3 := ⟨⟨tm_310, tm_3, tm_313, jm_yX4_putRider⟩, tm_311, tm_312⟩
theorem jl_L_27 : JCv RL 27 RX8 yX8_type cX8_type 2 ((some FieldType.int)) 1 := ⟨⟨tm_314, tm_1, tm_317, jm_yX8_type⟩, tm_315, tm_316⟩
theorem jl_X8_114 : JCv RX8 114 RX7 yX7_put cX7_put 2 (none) 1 := ⟨⟨tm_318, tm_6, tm_321, jm_yX7_put⟩, tm_319, tm_320⟩
theorem jl_L_32 : JCv RL 32 RX8 yX8_clear cX8_clear 2 ((some FieldType.int)) 0 := ⟨⟨tm_322, tm_1, tm_325, jm_yX8_clear⟩, tm_323, tm_324⟩
theorem jl_L_37 : JCv RL 37 RX8 yX8_read cX8_read 2 ((some FieldType.int)) 0 := ⟨⟨tm_326, tm_1, tm_329, jm_yX8_read⟩, tm_327, tm_328⟩
theorem jl_X8_118 : JCv RX8 118 RX7 yX7_tellRound cX7_tellRound 3 ((some FieldType.int)) 1 := ⟨⟨tm_330, tm_6, tm_333, jm_yX7_tellRound⟩, tm_331, tm_332⟩
theorem jl_X7_26 : JCv RX7 26 RX7 yX7_next cX7_next 1 (none) 0 := ⟨⟨tm_334, tm_6, tm_337, jm_yX7_next⟩, tm_336, ts_4⟩
theorem jl_X7_121 : JCs RX7 121 yX7_isLetter cX7_isLetter 1 ((some FieldType.boolean)) 1 := ⟨⟨tm_338, tm_6, tm_340, jm_yX7_isLetter⟩, tm_339⟩
theorem jl_X7_125 : JCs RX7 125 yX7_isFigure cX7_isFigure 1 ((some FieldType.boolean)) 1 := ⟨⟨tm_341, tm_6, tm_343, jm_yX7_isFigure⟩, tm_342⟩
theorem jl_X7_32 : JCv RX7 32 RX7 yX7_firstItem cX7_firstItem 1 ((some FieldType.int)) 0 := ⟨⟨tm_344, tm_6, tm_347, jm_yX7_firstItem⟩, tm_346, ts_5⟩
theorem jl_X7_55 : JCv RX7 55 RX7 yX7_isWord cX7_isWord 3 ((some FieldType.boolean)) 1 := ⟨⟨tm_349, tm_6, tm_352, jm_yX7_isWord⟩, tm_351, ts_6⟩
theorem jl_X7_112 : JCv RX7 112 RJ0 yJ0_length_8abf5 cJ0_length_8abf5 1 ((some FieldType.int)) 0 := ⟨⟨tm_353, tm_9, tm_356, jm_yJ0_length_8abf5⟩, tm_354, tm_355⟩
theorem jl_J0_335 : JCv RJ0 335 RJ0 yJ0_coder_7d493 cJ0_coder_7d493 1 ((some FieldType.byte)) 0 := ⟨⟨tm_357, tm_9, tm_360, jm_yJ0_coder_7d493⟩, tm_358, tm_359⟩
theorem jl_X7_117 : JCv RX7 117 RJ0 yJ0_charAt_5068e cJ0_charAt_5068e 2 ((some FieldType.char)) 1 := ⟨⟨tm_363, tm_9, tm_366, jm_yJ0_charAt_5068e⟩, tm_364, tm_365⟩
theorem jl_J0_492 : JCv RJ0 492 RJ0 yJ0_isLatin1_aae02 cJ0_isLatin1_aae02 1 ((some FieldType.boolean)) 0 := ⟨⟨tm_367, tm_9, tm_370, jm_yJ0_isLatin1_aae02⟩, tm_368, tm_369⟩
theorem jl_J0_495 : JCs RJ0 495 yJ1_charAt_3b067 cJ1_charAt_3b067 2 ((some FieldType.char)) 2 := ⟨⟨tm_371, tm_10, tm_373, jm_yJ1_charAt_3b067⟩, tm_372⟩
theorem jl_J1_9 : JCs RJ1 9 yJ0_checkIndex_df160 cJ0_checkIndex_df160 2 (none) 2 := ⟨⟨tm_374, tm_9, tm_376, jm_yJ0_checkIndex_df160⟩, tm_375⟩
theorem jl_J0_1059 : JCs RJ0 1059 yJ3_checkIndex_8e157 cJ3_checkIndex_8e157 3 ((some FieldType.int)) 3 := ⟨⟨tm_379, tm_11, tm_381, jm_yJ3_checkIndex_8e157⟩, tm_380⟩
theorem jl_J0_498 : JCs RJ0 498 yJ2_charAt_3b067 cJ2_charAt_3b067 2 ((some FieldType.char)) 2 := ⟨⟨tm_382, tm_12, tm_384, jm_yJ2_charAt_3b067⟩, tm_383⟩
theorem jl_J2_67 : JCs RJ2 67 yJ2_checkIndex_2214a cJ2_checkIndex_2214a 2 (none) 2 := ⟨⟨tm_385, tm_12, tm_387, jm_yJ2_checkIndex_2214a⟩, tm_386⟩
theorem jl_J2_48 : JCs RJ2 48 yJ2_length_9d52b cJ2_length_9d52b 1 ((some FieldType.int)) 1 := ⟨⟨tm_388, tm_12, tm_390, jm_yJ2_length_9d52b⟩, tm_389⟩
theorem jl_J2_414 : JCs RJ2 414 yJ0_checkIndex_df160 cJ0_checkIndex_df160 2 (none) 2 := ⟨⟨tm_391, tm_9, tm_376, jm_yJ0_checkIndex_df160⟩, tm_375⟩
theorem jl_J2_71 : JCs RJ2 71 yJ2_getChar_3b067 cJ2_getChar_3b067 2 ((some FieldType.char)) 2 := ⟨⟨tm_392, tm_12, tm_394, jm_yJ2_getChar_3b067⟩, tm_393⟩
theorem jl_X7_36 : JCv RX7 36 RX7 yX7_laterItem cX7_laterItem 1 ((some FieldType.int)) 0 := ⟨⟨tm_401, tm_6, tm_404, jm_yX7_laterItem⟩, tm_403, ts_7⟩
theorem jl_X7_42 : JCv RX7 42 RX7 yX7_isItem cX7_isItem 3 ((some FieldType.boolean)) 1 := ⟨⟨tm_409, tm_6, tm_412, jm_yX7_isItem⟩, tm_411, ts_8⟩
theorem jl_X7_72 : JCv RX7 72 RX7 yX7_isNumber cX7_isNumber 4 ((some FieldType.boolean)) 3 := ⟨⟨tm_413, tm_6, tm_416, jm_yX7_isNumber⟩, tm_415, ts_9⟩
theorem jl_X7_76 : JCv RX7 76 RX7 yX7_isStop cX7_isStop 1 ((some FieldType.boolean)) 0 := ⟨⟨tm_418, tm_6, tm_421, jm_yX7_isStop⟩, tm_420, ts_10⟩
theorem jl_X7_83 : JCv RX7 83 RX4 yX4_whoIsOn cX4_whoIsOn 3 ((some FieldType.int)) 1 := ⟨⟨tm_422, tm_3, tm_301, jm_yX4_whoIsOn⟩, tm_299, tm_300⟩
theorem jl_X7_49 : JCv RX7 49 RX7 yX7_apply cX7_apply 3 (none) 1 := ⟨⟨tm_423, tm_6, tm_426, jm_yX7_apply⟩, tm_425, ts_11⟩
theorem jl_X7_87 : JCv RX7 87 RX4 yX4_start cX4_start 4 (none) 2 := ⟨⟨tm_427, tm_3, tm_40, jm_yX4_start⟩, tm_38, tm_39⟩
theorem jl_X7_91 : JCv RX7 91 RX4 yX4_putHorse cX4_putHorse 4 (none) 3 := ⟨⟨tm_428, tm_3, tm_44, jm_yX4_putHorse⟩, tm_42, tm_43⟩
theorem jl_X7_95 : JCv RX7 95 RX4 yX4_putRider cX4_putRider 4 (none) 3 := ⟨⟨tm_429, tm_3, tm_313, jm_yX4_putRider⟩, tm_311, tm_312⟩
theorem jl_X7_103 : JCv RX7 103 RX4 yX4_step cX4_step 2 ((some FieldType.int)) 0 := ⟨⟨tm_430, tm_3, tm_433, jm_yX4_step⟩, tm_431, tm_432⟩
theorem jl_X4_78 : JCv RX4 78 RX4 yX4_turn cX4_turn 1 (none) 0 := ⟨⟨tm_434, tm_3, tm_437, jm_yX4_turn⟩, tm_435, tm_436⟩
theorem jl_X4_63 : JCv RX4 63 RX4 yX4_around cX4_around 2 ((some FieldType.int)) 1 := ⟨⟨tm_438, tm_3, tm_441, jm_yX4_around⟩, tm_440, ts_12⟩
theorem jl_X4_81 : JCv RX4 81 RX4 yX4_whoReaches cX4_whoReaches 2 ((some FieldType.int)) 0 := ⟨⟨tm_442, tm_3, tm_445, jm_yX4_whoReaches⟩, tm_443, tm_444⟩
theorem jl_X4_89 : JCv RX4 89 RX4 yX4_whoIsOn cX4_whoIsOn 3 ((some FieldType.int)) 1 := ⟨⟨tm_446, tm_3, tm_301, jm_yX4_whoIsOn⟩, tm_299, tm_300⟩
theorem jl_X4_92 : JCv RX4 92 RX4 yX4_reachOf cX4_reachOf 3 ((some FieldType.int)) 1 := ⟨⟨tm_447, tm_3, tm_450, jm_yX4_reachOf⟩, tm_448, tm_449⟩
theorem jl_X4_67 : JCs RX4 67 yX1_high cX1_high 7 ((some FieldType.int)) 4 := ⟨⟨tm_451, tm_13, tm_453, jm_yX1_high⟩, tm_452⟩
theorem jl_X4_73 : JCs RX4 73 yX0_reach cX0_reach 7 ((some FieldType.int)) 4 := ⟨⟨tm_454, tm_14, tm_456, jm_yX0_reach⟩, tm_455⟩
theorem jl_X4_85 : JCv RX4 85 RX4 yX4_take cX4_take 2 (none) 1 := ⟨⟨tm_457, tm_3, tm_460, jm_yX4_take⟩, tm_458, tm_459⟩
theorem jl_X4_95 : JCs RX4 95 yJ9_min_7cf53 cJ9_min_7cf53 2 ((some FieldType.int)) 2 := ⟨⟨tm_461, tm_15, tm_463, jm_yJ9_min_7cf53⟩, tm_462⟩
theorem jl_X8_122 : JCv RX8 122 RX4 yX4_copyOf cX4_copyOf 2 (none) 1 := ⟨⟨tm_464, tm_3, tm_467, jm_yX4_copyOf⟩, tm_465, tm_466⟩
theorem jl_L_41 : JCv RL 41 RX8 yX8_ticks cX8_ticks 3 ((some FieldType.int)) 1 := ⟨⟨tm_471, tm_1, tm_474, jm_yX8_ticks⟩, tm_472, tm_473⟩
theorem jl_X8_126 : JCv RX8 126 RX3 yX3_keep cX3_keep 3 (none) 1 := ⟨⟨tm_475, tm_4, tm_478, jm_yX3_keep⟩, tm_476, tm_477⟩
theorem jl_X8_132 : JCv RX8 132 RX4 yX4_step cX4_step 2 ((some FieldType.int)) 0 := ⟨⟨tm_480, tm_3, tm_433, jm_yX4_step⟩, tm_431, tm_432⟩
theorem jl_L_45 : JCv RL 45 RX8 yX8_speed cX8_speed 3 ((some FieldType.int)) 1 := ⟨⟨tm_481, tm_1, tm_484, jm_yX8_speed⟩, tm_482, tm_483⟩
theorem jl_L_49 : JCv RL 49 RX8 yX8_changes cX8_changes 4 ((some FieldType.int)) 2 := ⟨⟨tm_485, tm_1, tm_488, jm_yX8_changes⟩, tm_486, tm_487⟩
theorem jl_X8_141 : JCv RX8 141 RX8 yX8_isRider cX8_isRider 2 ((some FieldType.boolean)) 1 := ⟨⟨tm_489, tm_1, tm_492, jm_yX8_isRider⟩, tm_491, ts_13⟩
theorem jl_L_53 : JCv RL 53 RX8 yX8_hangs cX8_hangs 3 ((some FieldType.int)) 1 := ⟨⟨tm_493, tm_1, tm_496, jm_yX8_hangs⟩, tm_494, tm_495⟩
theorem jl_L_57 : JCv RL 57 RX8 yX8_undo cX8_undo 1 ((some FieldType.int)) 0 := ⟨⟨tm_497, tm_1, tm_500, jm_yX8_undo⟩, tm_498, tm_499⟩
theorem jl_X8_150 : JCv RX8 150 RX3 yX3_giveBack cX3_giveBack 3 (none) 1 := ⟨⟨tm_501, tm_4, tm_504, jm_yX3_giveBack⟩, tm_502, tm_503⟩
theorem jl_L_61 : JCv RL 61 RX8 yX8_of cX8_of 4 ((some FieldType.int)) 2 := ⟨⟨tm_505, tm_1, tm_508, jm_yX8_of⟩, tm_506, tm_507⟩
theorem jl_X8_162 : JCv RX8 162 RX4 yX4_placeOf cX4_placeOf 3 ((some FieldType.int)) 2 := ⟨⟨tm_509, tm_3, tm_512, jm_yX4_placeOf⟩, tm_510, tm_511⟩
theorem jl_X8_166 : JCv RX8 166 RX4 yX4_highOn cX4_highOn 3 ((some FieldType.int)) 2 := ⟨⟨tm_513, tm_3, tm_516, jm_yX4_highOn⟩, tm_514, tm_515⟩
theorem jl_X8_169 : JCv RX8 169 RX4 yX4_reachOf cX4_reachOf 3 ((some FieldType.int)) 1 := ⟨⟨tm_517, tm_3, tm_450, jm_yX4_reachOf⟩, tm_448, tm_449⟩
theorem jl_L_65 : JCv RL 65 RX8 yX8_about cX8_about 4 ((some FieldType.int)) 2 := ⟨⟨tm_518, tm_1, tm_521, jm_yX8_about⟩, tm_519, tm_520⟩
theorem jl_L_69 : JCv RL 69 RX8 yX8_where cX8_where 5 ((some FieldType.int)) 3 := ⟨⟨tm_522, tm_1, tm_525, jm_yX8_where⟩, tm_523, tm_524⟩
theorem jl_L_73 : JCv RL 73 RX8 yX8_takes cX8_takes 3 ((some FieldType.int)) 1 := ⟨⟨tm_526, tm_1, tm_529, jm_yX8_takes⟩, tm_527, tm_528⟩
theorem jl_L_77 : JCv RL 77 RX8 yX8_level cX8_level 6 ((some FieldType.int)) 1 := ⟨⟨tm_530, tm_1, tm_533, jm_yX8_level⟩, tm_531, tm_532⟩
theorem jl_X8_175 : JCv RX8 175 RX8 yX8_badOfList cX8_badOfList 1 ((some FieldType.int)) 0 := ⟨⟨tm_534, tm_1, tm_537, jm_yX8_badOfList⟩, tm_536, ts_14⟩
theorem jl_L_81 : JCv RL 81 RX8 yX8_again cX8_again 2 ((some FieldType.int)) 0 := ⟨⟨tm_538, tm_1, tm_541, jm_yX8_again⟩, tm_539, tm_540⟩
theorem jl_X8_178 : JCv RX8 178 RX4 yX4_looksLike cX4_looksLike 3 ((some FieldType.boolean)) 1 := ⟨⟨tm_542, tm_3, tm_545, jm_yX4_looksLike⟩, tm_543, tm_544⟩
theorem jl_L_85 : JCv RL 85 RX8 yX8_fast cX8_fast 4 ((some FieldType.int)) 3 := ⟨⟨tm_546, tm_1, tm_549, jm_yX8_fast⟩, tm_547, tm_548⟩
theorem jl_X8_182 : JCv RX8 182 RX8 yX8_choose cX8_choose 10 ((some FieldType.int)) 4 := ⟨⟨tm_550, tm_1, tm_553, jm_yX8_choose⟩, tm_552, ts_15⟩
theorem jl_X8_284 : JCv RX8 284 RX8 yX8_takenIf cX8_takenIf 7 ((some FieldType.int)) 4 := ⟨⟨tm_554, tm_1, tm_557, jm_yX8_takenIf⟩, tm_556, ts_16⟩
theorem jl_L_89 : JCv RL 89 RX8 yX8_seat cX8_seat 4 ((some FieldType.int)) 3 := ⟨⟨tm_558, tm_1, tm_561, jm_yX8_seat⟩, tm_559, tm_560⟩
theorem jl_L_93 : JCv RL 93 RX8 yX8_lever cX8_lever 4 ((some FieldType.int)) 3 := ⟨⟨tm_562, tm_1, tm_565, jm_yX8_lever⟩, tm_563, tm_564⟩
theorem jl_X8_186 : JCv RX8 186 RX2 yX2_find cX2_find 4 (none) 3 := ⟨⟨tm_566, tm_7, tm_569, jm_yX2_find⟩, tm_567, tm_568⟩
theorem jl_X2_25 : JCs RX2 25 yJ9_min_7cf53 cJ9_min_7cf53 2 ((some FieldType.int)) 2 := ⟨⟨tm_570, tm_15, tm_463, jm_yJ9_min_7cf53⟩, tm_462⟩
theorem jl_X2_34 : JCs RX2 34 yX2_pull cX2_pull 9 (none) 4 := ⟨⟨tm_571, tm_7, tm_573, jm_yX2_pull⟩, tm_572⟩
theorem jl_X2_55 : JCv RX2 55 RX4 yX4_turn cX4_turn 1 (none) 0 := ⟨⟨tm_575, tm_3, tm_437, jm_yX4_turn⟩, tm_435, tm_436⟩
theorem jl_X2_58 : JCv RX2 58 RX4 yX4_whoReaches cX4_whoReaches 2 ((some FieldType.int)) 0 := ⟨⟨tm_576, tm_3, tm_445, jm_yX4_whoReaches⟩, tm_443, tm_444⟩
theorem jl_X2_65 : JCv RX2 65 RX4 yX4_take cX4_take 2 (none) 1 := ⟨⟨tm_577, tm_3, tm_460, jm_yX4_take⟩, tm_458, tm_459⟩
theorem jl_X2_69 : JCv RX2 69 RX4 yX4_giveBack cX4_giveBack 4 (none) 3 := ⟨⟨tm_578, tm_3, tm_581, jm_yX4_giveBack⟩, tm_579, tm_580⟩
theorem jl_X2_73 : JCv RX2 73 RX4 yX4_turnBack cX4_turnBack 2 (none) 1 := ⟨⟨tm_582, tm_3, tm_585, jm_yX4_turnBack⟩, tm_583, tm_584⟩
theorem jl_L_97 : JCv RL 97 RX8 yX8_seen cX8_seen 5 ((some FieldType.int)) 4 := ⟨⟨tm_586, tm_1, tm_589, jm_yX8_seen⟩, tm_587, tm_588⟩
theorem jl_X8_200 : JCv RX8 200 RX5 yX5_isFull cX5_isFull 1 ((some FieldType.boolean)) 0 := ⟨⟨tm_590, tm_5, tm_593, jm_yX5_isFull⟩, tm_591, tm_592⟩
theorem jl_X8_206 : JCv RX8 206 RX5 yX5_add cX5_add 7 (none) 5 := ⟨⟨tm_594, tm_5, tm_597, jm_yX5_add⟩, tm_595, tm_596⟩
theorem jl_L_102 : JCv RL 102 RX8 yX8_phases cX8_phases 2 ((some FieldType.int)) 1 := ⟨⟨tm_598, tm_1, tm_601, jm_yX8_phases⟩, tm_599, tm_600⟩
theorem jl_X8_211 : JCv RX8 211 RX8 yX8_thoseThatFit cX8_thoseThatFit 5 ((some FieldType.int)) 2 := ⟨⟨tm_602, tm_1, tm_605, jm_yX8_thoseThatFit⟩, tm_604, ts_17⟩
theorem jl_X8_287 : JCs RX8 287 yX8_howManyGuessed cX8_howManyGuessed 1 ((some FieldType.int)) 1 := ⟨⟨tm_606, tm_1, tm_608, jm_yX8_howManyGuessed⟩, tm_607⟩
theorem jl_X8_290 : JCv RX8 290 RX8 yX8_allFits cX8_allFits 6 ((some FieldType.boolean)) 3 := ⟨⟨tm_609, tm_1, tm_612, jm_yX8_allFits⟩, tm_611, ts_18⟩
theorem jl_X8_293 : JCv RX8 293 RX5 yX5_at cX5_at 3 ((some FieldType.int)) 2 := ⟨⟨tm_613, tm_5, tm_616, jm_yX5_at⟩, tm_614, tm_615⟩
theorem jl_X8_296 : JCv RX8 296 RX8 yX8_rowFits cX8_rowFits 9 ((some FieldType.boolean)) 5 := ⟨⟨tm_617, tm_1, tm_620, jm_yX8_rowFits⟩, tm_619, ts_19⟩
theorem jl_X8_300 : JCs RX8 300 yX1_high cX1_high 7 ((some FieldType.int)) 4 := ⟨⟨tm_621, tm_13, tm_453, jm_yX1_high⟩, tm_452⟩
theorem jl_X8_306 : JCs RX8 306 yX0_reach cX0_reach 7 ((some FieldType.int)) 4 := ⟨⟨tm_622, tm_14, tm_456, jm_yX0_reach⟩, tm_455⟩
theorem jl_L_106 : JCv RL 106 RX8 yX8_tell cX8_tell 2 ((some FieldType.int)) 1 := ⟨⟨tm_623, tm_1, tm_626, jm_yX8_tell⟩, tm_624, tm_625⟩
theorem jl_X8_214 : JCv RX8 214 RX8 yX8_bestLook cX8_bestLook 11 ((some FieldType.int)) 2 := ⟨⟨tm_627, tm_1, tm_630, jm_yX8_bestLook⟩, tm_629, ts_20⟩
theorem jl_X8_311 : JCv RX8 311 RX8 yX8_mostLeft cX8_mostLeft 8 ((some FieldType.int)) 5 := ⟨⟨tm_631, tm_1, tm_634, jm_yX8_mostLeft⟩, tm_633, ts_21⟩
theorem jl_X8_315 : JCv RX8 315 RX8 yX8_foretell cX8_foretell 6 ((some FieldType.int)) 5 := ⟨⟨tm_635, tm_1, tm_638, jm_yX8_foretell⟩, tm_637, ts_22⟩
theorem jl_X8_318 : JCv RX8 318 RX8 yX8_alikeBefore cX8_alikeBefore 5 ((some FieldType.int)) 2 := ⟨⟨tm_639, tm_1, tm_642, jm_yX8_alikeBefore⟩, tm_641, ts_23⟩
theorem jl_X8_321 : JCs RX8 321 yJ9_max_7cf53 cJ9_max_7cf53 2 ((some FieldType.int)) 2 := ⟨⟨tm_643, tm_15, tm_645, jm_yJ9_max_7cf53⟩, tm_644⟩
theorem jl_L_110 : JCv RL 110 RX8 yX8_note cX8_note 6 ((some FieldType.int)) 5 := ⟨⟨tm_646, tm_1, tm_649, jm_yX8_note⟩, tm_647, tm_648⟩
theorem jl_L_115 : JCv RL 115 RX8 yX8_mark cX8_mark 6 ((some FieldType.int)) 5 := ⟨⟨tm_650, tm_1, tm_653, jm_yX8_mark⟩, tm_651, tm_652⟩
theorem jl_L_119 : JCv RL 119 RX8 yX8_forget cX8_forget 2 ((some FieldType.int)) 1 := ⟨⟨tm_654, tm_1, tm_657, jm_yX8_forget⟩, tm_655, tm_656⟩
theorem jl_X8_223 : JCv RX8 223 RX5 yX5_drop cX5_drop 2 ((some FieldType.int)) 0 := ⟨⟨tm_658, tm_5, tm_284, jm_yX5_drop⟩, tm_282, tm_283⟩
theorem jl_L_123 : JCv RL 123 RX8 yX8_is cX8_is 2 ((some FieldType.int)) 1 := ⟨⟨tm_659, tm_1, tm_662, jm_yX8_is⟩, tm_660, tm_661⟩
theorem jl_L_127 : JCv RL 127 RX8 yX8_look cX8_look 2 ((some FieldType.int)) 1 := ⟨⟨tm_663, tm_1, tm_666, jm_yX8_look⟩, tm_664, tm_665⟩
theorem jl_L_131 : JCv RL 131 RX8 yX8_kinds cX8_kinds 2 ((some FieldType.int)) 1 := ⟨⟨tm_667, tm_1, tm_670, jm_yX8_kinds⟩, tm_668, tm_669⟩
theorem jl_L_135 : JCv RL 135 RX8 yX8_ask cX8_ask 2 ((some FieldType.int)) 1 := ⟨⟨tm_671, tm_1, tm_674, jm_yX8_ask⟩, tm_672, tm_673⟩
theorem jl_L_139 : JCv RL 139 RX8 yX8_hands cX8_hands 7 ((some FieldType.int)) 3 := ⟨⟨tm_675, tm_1, tm_678, jm_yX8_hands⟩, tm_676, tm_677⟩
theorem jl_X8_226 : JCv RX8 226 RX8 yX8_runHands cX8_runHands 6 (none) 2 := ⟨⟨tm_679, tm_1, tm_682, jm_yX8_runHands⟩, tm_681, ts_24⟩
theorem jl_X8_229 : JCv RX8 229 RX8 yX8_pairRests cX8_pairRests 6 ((some FieldType.boolean)) 2 := ⟨⟨tm_683, tm_1, tm_686, jm_yX8_pairRests⟩, tm_685, ts_25⟩
theorem jl_L_143 : JCv RL 143 RX8 yX8_slip cX8_slip 8 ((some FieldType.int)) 4 := ⟨⟨tm_687, tm_1, tm_690, jm_yX8_slip⟩, tm_688, tm_689⟩
theorem jl_X8_235 : JCs RX8 235 yX8_chance cX8_chance 11 ((some FieldType.long)) 5 := ⟨⟨tm_692, tm_1, tm_694, jm_yX8_chance⟩, tm_693⟩
theorem jl_X8_326 : JCv RX8 326 RX4 yX4_turn cX4_turn 1 (none) 0 := ⟨⟨tm_695, tm_3, tm_437, jm_yX4_turn⟩, tm_435, tm_436⟩
theorem jl_X8_329 : JCv RX8 329 RX4 yX4_whoReaches cX4_whoReaches 2 ((some FieldType.int)) 0 := ⟨⟨tm_696, tm_3, tm_445, jm_yX4_whoReaches⟩, tm_443, tm_444⟩
theorem jl_X8_332 : JCv RX8 332 RX4 yX4_take cX4_take 2 (none) 1 := ⟨⟨tm_697, tm_3, tm_460, jm_yX4_take⟩, tm_458, tm_459⟩
theorem jl_X8_335 : JCv RX8 335 RX4 yX4_giveBack cX4_giveBack 4 (none) 3 := ⟨⟨tm_698, tm_3, tm_581, jm_yX4_giveBack⟩, tm_579, tm_580⟩
theorem jl_X8_337 : JCv RX8 337 RX4 yX4_turnBack cX4_turnBack 2 (none) 1 := ⟨⟨tm_699, tm_3, tm_585, jm_yX4_turnBack⟩, tm_583, tm_584⟩
theorem jl_X8_239 : JCv RX8 239 RX8 yX8_keepFraction cX8_keepFraction 12 (none) 2 := ⟨⟨tm_700, tm_1, tm_703, jm_yX8_keepFraction⟩, tm_702, ts_26⟩
theorem jl_L_147 : JCv RL 147 RX8 yX8_evenings cX8_evenings 7 ((some FieldType.int)) 2 := ⟨⟨tm_704, tm_1, tm_707, jm_yX8_evenings⟩, tm_705, tm_706⟩
theorem jl_L_151 : JCv RL 151 RX8 yX8_part cX8_part 2 ((some FieldType.long)) 1 := ⟨⟨tm_714, tm_1, tm_717, jm_yX8_part⟩, tm_715, tm_716⟩
theorem jl_L_156 : JCv RL 156 RX8 yX8_image cX8_image 3 ((some FieldType.int)) 1 := ⟨⟨tm_718, tm_1, tm_721, jm_yX8_image⟩, tm_719, tm_720⟩
theorem jl_X8_254 : JCv RX8 254 RX6 yX6_copyOf cX6_copyOf 2 (none) 1 := ⟨⟨tm_722, tm_2, tm_725, jm_yX6_copyOf⟩, tm_723, tm_724⟩
theorem jl_X6_40 : JCv RX6 40 RX4 yX4_copyOf cX4_copyOf 2 (none) 1 := ⟨⟨tm_726, tm_3, tm_467, jm_yX4_copyOf⟩, tm_465, tm_466⟩
theorem jl_X6_44 : JCv RX6 44 RX3 yX3_copyOf cX3_copyOf 2 (none) 1 := ⟨⟨tm_727, tm_4, tm_730, jm_yX3_copyOf⟩, tm_728, tm_729⟩
theorem jl_X6_47 : JCv RX6 47 RX5 yX5_copyOf cX5_copyOf 2 (none) 1 := ⟨⟨tm_731, tm_5, tm_734, jm_yX5_copyOf⟩, tm_732, tm_733⟩
theorem jl_L_160 : JCv RL 160 RX8 yX8_from cX8_from 3 ((some FieldType.int)) 1 := ⟨⟨tm_736, tm_1, tm_739, jm_yX8_from⟩, tm_737, tm_738⟩
theorem jl_L_164 : JCv RL 164 RX8 yX8_status cX8_status 2 ((some FieldType.int)) 1 := ⟨⟨tm_740, tm_1, tm_743, jm_yX8_status⟩, tm_741, tm_742⟩
theorem jl_L_168 : JCv RL 168 RX8 yX8_count cX8_count 2 ((some FieldType.int)) 1 := ⟨⟨tm_744, tm_1, tm_747, jm_yX8_count⟩, tm_745, tm_746⟩
theorem jl_X8_266 : JCv RX8 266 RX8 yX8_howMany cX8_howMany 2 ((some FieldType.int)) 1 := ⟨⟨tm_748, tm_1, tm_751, jm_yX8_howMany⟩, tm_750, ts_27⟩
theorem jl_X8_281 : JCv RX8 281 RX4 yX4_allRings cX4_allRings 3 ((some FieldType.int)) 0 := ⟨⟨tm_752, tm_3, tm_755, jm_yX4_allRings⟩, tm_753, tm_754⟩
theorem jl_L_172 : JCv RL 172 RX8 yX8_digest cX8_digest 4 ((some FieldType.long)) 0 := ⟨⟨tm_756, tm_1, tm_759, jm_yX8_digest⟩, tm_757, tm_758⟩
theorem jl_X8_273 : JCv RX8 273 RX4 yX4_mixInto cX4_mixInto 6 ((some FieldType.long)) 1 := ⟨⟨tm_762, tm_3, tm_765, jm_yX4_mixInto⟩, tm_763, tm_764⟩
theorem jl_X8_277 : JCv RX8 277 RX5 yX5_mixInto cX5_mixInto 7 ((some FieldType.long)) 1 := ⟨⟨tm_767, tm_5, tm_770, jm_yX5_mixInto⟩, tm_768, tm_769⟩
theorem jl_X5_33 : JCv RX5 33 RX5 yX5_at cX5_at 3 ((some FieldType.int)) 2 := ⟨⟨tm_772, tm_5, tm_616, jm_yX5_at⟩, tm_614, tm_615⟩
theorem jl_L_12 : JCi RL 12 yX9_init cX9_init 1 0 := ⟨⟨tm_775, tm_8, tm_777, jm_yX9_init⟩, tm_776, rfl⟩
theorem jl_X9_45 : JCs RX9 45 yX9_begin cX9_begin 4 (none) 3 := ⟨⟨tm_779, tm_8, tm_781, jm_yX9_begin⟩, tm_780⟩
theorem jl_L_17 : JCv RL 17 RX9 yX9_round cX9_round 4 ((some FieldType.int)) 2 := ⟨⟨tm_835, tm_8, tm_838, jm_yX9_round⟩, tm_836, tm_837⟩
theorem jl_X9_53 : JCs RX9 53 yX9_in cX9_in 6 ((some FieldType.boolean)) 3 := ⟨⟨tm_841, tm_8, tm_843, jm_yX9_in⟩, tm_842⟩
theorem jl_X9_69 : JCs RX9 69 yX9_isSpeed cX9_isSpeed 1 ((some FieldType.boolean)) 1 := ⟨⟨tm_844, tm_8, tm_846, jm_yX9_isSpeed⟩, tm_845⟩
theorem jl_X9_73 : JCv RX9 73 RX9 yX9_bad cX9_bad 2 ((some FieldType.int)) 1 := ⟨⟨tm_848, tm_8, tm_851, jm_yX9_bad⟩, tm_850, ts_28⟩
theorem jl_X9_49 : JCv RX9 49 RX9 yX9_many cX9_many 1 ((some FieldType.int)) 0 := ⟨⟨tm_852, tm_8, tm_855, jm_yX9_many⟩, tm_854, ts_29⟩
theorem jl_L_22 : JCv RL 22 RX9 yX9_horse cX9_horse 5 ((some FieldType.int)) 3 := ⟨⟨tm_856, tm_8, tm_859, jm_yX9_horse⟩, tm_857, tm_858⟩
theorem jl_X9_77 : JCv RX9 77 RX9 yX9_isSeat cX9_isSeat 2 ((some FieldType.boolean)) 1 := ⟨⟨tm_860, tm_8, tm_863, jm_yX9_isSeat⟩, tm_862, ts_30⟩
theorem jl_X9_80 : JCs RX9 80 yX9_isKind cX9_isKind 1 ((some FieldType.boolean)) 1 := ⟨⟨tm_864, tm_8, tm_866, jm_yX9_isKind⟩, tm_865⟩
theorem jl_X9_83 : JCs RX9 83 yX9_isPhase cX9_isPhase 1 ((some FieldType.boolean)) 1 := ⟨⟨tm_868, tm_8, tm_870, jm_yX9_isPhase⟩, tm_869⟩
theorem jl_L_26 : JCv RL 26 RX9 yX9_rider cX9_rider 4 ((some FieldType.int)) 3 := ⟨⟨tm_872, tm_8, tm_875, jm_yX9_rider⟩, tm_873, tm_874⟩
theorem jl_X9_86 : JCs RX9 86 yX9_isArm cX9_isArm 1 ((some FieldType.boolean)) 1 := ⟨⟨tm_876, tm_8, tm_878, jm_yX9_isArm⟩, tm_877⟩
theorem jl_X9_89 : JCs RX9 89 yX9_whoIs cX9_whoIs 4 ((some FieldType.int)) 2 := ⟨⟨tm_880, tm_8, tm_882, jm_yX9_whoIs⟩, tm_881⟩
theorem jl_X9_93 : JCv RX9 93 RX9 yX9_no cX9_no 1 ((some FieldType.int)) 0 := ⟨⟨tm_883, tm_8, tm_886, jm_yX9_no⟩, tm_885, ts_31⟩
theorem jl_X9_96 : JCv RX9 96 RX9 yX9_full cX9_full 1 ((some FieldType.int)) 0 := ⟨⟨tm_887, tm_8, tm_890, jm_yX9_full⟩, tm_889, ts_32⟩
theorem jl_X9_99 : JCs RX9 99 yX9_layRider cX9_layRider 5 (none) 4 := ⟨⟨tm_891, tm_8, tm_893, jm_yX9_layRider⟩, tm_892⟩
theorem jl_L_44 : JCv RL 44 RX9 yX9_ticks cX9_ticks 2 ((some FieldType.int)) 1 := ⟨⟨tm_894, tm_8, tm_897, jm_yX9_ticks⟩, tm_895, tm_896⟩
theorem jl_X9_122 : JCv RX9 122 RX9 yX9_save cX9_save 2 (none) 0 := ⟨⟨tm_899, tm_8, tm_902, jm_yX9_save⟩, tm_901, ts_33⟩
theorem jl_X9_125 : JCs RX9 125 yX9_goTicks cX9_goTicks 4 (none) 2 := ⟨⟨tm_903, tm_8, tm_905, jm_yX9_goTicks⟩, tm_904⟩
theorem jl_X9_116 : JCs RX9 116 yX9_goTick cX9_goTick 3 ((some FieldType.int)) 2 := ⟨⟨tm_906, tm_8, tm_908, jm_yX9_goTick⟩, tm_907⟩
theorem jl_X9_113 : JCs RX9 113 yX9_reachOf cX9_reachOf 2 ((some FieldType.int)) 2 := ⟨⟨tm_909, tm_8, tm_911, jm_yX9_reachOf⟩, tm_910⟩
theorem jl_X9_107 : JCs RX9 107 yX9_highOf cX9_highOf 2 ((some FieldType.int)) 2 := ⟨⟨tm_912, tm_8, tm_914, jm_yX9_highOf⟩, tm_913⟩
theorem jl_X9_103 : JCs RX9 103 yX9_highAs cX9_highAs 6 ((some FieldType.int)) 4 := ⟨⟨tm_915, tm_8, tm_917, jm_yX9_highAs⟩, tm_916⟩
theorem jl_X9_110 : JCs RX9 110 yX9_reachAs cX9_reachAs 6 ((some FieldType.int)) 4 := ⟨⟨tm_918, tm_8, tm_920, jm_yX9_reachAs⟩, tm_919⟩
theorem jl_L_48 : JCv RL 48 RX9 yX9_speed cX9_speed 3 ((some FieldType.int)) 1 := ⟨⟨tm_921, tm_8, tm_924, jm_yX9_speed⟩, tm_922, tm_923⟩
theorem jl_L_52 : JCv RL 52 RX9 yX9_changes cX9_changes 4 ((some FieldType.int)) 2 := ⟨⟨tm_925, tm_8, tm_928, jm_yX9_changes⟩, tm_926, tm_927⟩
theorem jl_X9_129 : JCv RX9 129 RX9 yX9_isRider cX9_isRider 2 ((some FieldType.boolean)) 1 := ⟨⟨tm_929, tm_8, tm_932, jm_yX9_isRider⟩, tm_931, ts_34⟩
theorem jl_L_56 : JCv RL 56 RX9 yX9_hangs cX9_hangs 3 ((some FieldType.int)) 1 := ⟨⟨tm_933, tm_8, tm_936, jm_yX9_hangs⟩, tm_934, tm_935⟩
theorem jl_L_60 : JCv RL 60 RX9 yX9_undo cX9_undo 2 ((some FieldType.int)) 0 := ⟨⟨tm_938, tm_8, tm_941, jm_yX9_undo⟩, tm_939, tm_940⟩
theorem jl_L_64 : JCv RL 64 RX9 yX9_of cX9_of 4 ((some FieldType.int)) 2 := ⟨⟨tm_942, tm_8, tm_945, jm_yX9_of⟩, tm_943, tm_944⟩
theorem jl_X9_136 : JCs RX9 136 yX9_placeOf cX9_placeOf 2 ((some FieldType.int)) 2 := ⟨⟨tm_947, tm_8, tm_949, jm_yX9_placeOf⟩, tm_948⟩
theorem jl_L_68 : JCv RL 68 RX9 yX9_about cX9_about 3 ((some FieldType.int)) 2 := ⟨⟨tm_950, tm_8, tm_953, jm_yX9_about⟩, tm_951, tm_952⟩
theorem jl_L_72 : JCv RL 72 RX9 yX9_where cX9_where 6 ((some FieldType.int)) 3 := ⟨⟨tm_954, tm_8, tm_957, jm_yX9_where⟩, tm_955, tm_956⟩
theorem jl_X9_139 : JCv RX9 139 RX9 yX9_layHand cX9_layHand 2 (none) 0 := ⟨⟨tm_958, tm_8, tm_961, jm_yX9_layHand⟩, tm_960, ts_35⟩
theorem jl_L_76 : JCv RL 76 RX9 yX9_takes cX9_takes 3 ((some FieldType.int)) 1 := ⟨⟨tm_962, tm_8, tm_965, jm_yX9_takes⟩, tm_963, tm_964⟩
theorem jl_L_80 : JCv RL 80 RX9 yX9_level cX9_level 5 ((some FieldType.int)) 1 := ⟨⟨tm_966, tm_8, tm_969, jm_yX9_level⟩, tm_967, tm_968⟩
theorem jl_L_84 : JCv RL 84 RX9 yX9_again cX9_again 5 ((some FieldType.int)) 0 := ⟨⟨tm_970, tm_8, tm_973, jm_yX9_again⟩, tm_971, tm_972⟩
theorem jl_L_88 : JCv RL 88 RX9 yX9_fast cX9_fast 8 ((some FieldType.int)) 3 := ⟨⟨tm_974, tm_8, tm_977, jm_yX9_fast⟩, tm_975, tm_976⟩
theorem jl_X9_142 : JCv RX9 142 RX9 yX9_taken cX9_taken 5 ((some FieldType.int)) 2 := ⟨⟨tm_978, tm_8, tm_981, jm_yX9_taken⟩, tm_980, ts_36⟩
theorem jl_L_92 : JCv RL 92 RX9 yX9_seat cX9_seat 9 ((some FieldType.int)) 3 := ⟨⟨tm_982, tm_8, tm_985, jm_yX9_seat⟩, tm_983, tm_984⟩
theorem jl_L_96 : JCv RL 96 RX9 yX9_lever cX9_lever 8 ((some FieldType.int)) 3 := ⟨⟨tm_986, tm_8, tm_989, jm_yX9_lever⟩, tm_987, tm_988⟩
theorem jl_X9_146 : JCv RX9 146 RX9 yX9_takenBy cX9_takenBy 6 ((some FieldType.int)) 3 := ⟨⟨tm_990, tm_8, tm_993, jm_yX9_takenBy⟩, tm_992, ts_37⟩
theorem jl_L_101 : JCv RL 101 RX9 yX9_seen cX9_seen 6 ((some FieldType.int)) 4 := ⟨⟨tm_994, tm_8, tm_997, jm_yX9_seen⟩, tm_995, tm_996⟩
theorem jl_L_105 : JCv RL 105 RX9 yX9_phases cX9_phases 2 ((some FieldType.int)) 1 := ⟨⟨tm_1000, tm_8, tm_1003, jm_yX9_phases⟩, tm_1001, tm_1002⟩
theorem jl_X9_154 : JCv RX9 154 RX9 yX9_phasesOf cX9_phasesOf 7 ((some FieldType.int)) 1 := ⟨⟨tm_1004, tm_8, tm_1007, jm_yX9_phasesOf⟩, tm_1006, ts_38⟩
theorem jl_L_109 : JCv RL 109 RX9 yX9_tell cX9_tell 8 ((some FieldType.int)) 1 := ⟨⟨tm_1008, tm_8, tm_1011, jm_yX9_tell⟩, tm_1009, tm_1010⟩
theorem jl_X9_162 : JCv RX9 162 RX9 yX9_mostAlike cX9_mostAlike 6 ((some FieldType.int)) 1 := ⟨⟨tm_1013, tm_8, tm_1016, jm_yX9_mostAlike⟩, tm_1015, ts_39⟩
theorem jl_X9_157 : JCs RX9 157 yX9_has cX9_has 2 ((some FieldType.boolean)) 2 := ⟨⟨tm_1017, tm_8, tm_1019, jm_yX9_has⟩, tm_1018⟩
theorem jl_L_114 : JCv RL 114 RX9 yX9_note cX9_note 6 ((some FieldType.int)) 5 := ⟨⟨tm_1020, tm_8, tm_1023, jm_yX9_note⟩, tm_1021, tm_1022⟩
theorem jl_X9_165 : JCv RX9 165 RX9 yX9_layFive cX9_layFive 7 (none) 6 := ⟨⟨tm_1024, tm_8, tm_1027, jm_yX9_layFive⟩, tm_1026, ts_40⟩
theorem jl_L_118 : JCv RL 118 RX9 yX9_mark cX9_mark 6 ((some FieldType.int)) 5 := ⟨⟨tm_1028, tm_8, tm_1031, jm_yX9_mark⟩, tm_1029, tm_1030⟩
theorem jl_L_122 : JCv RL 122 RX9 yX9_forget cX9_forget 3 ((some FieldType.int)) 1 := ⟨⟨tm_1032, tm_8, tm_1035, jm_yX9_forget⟩, tm_1033, tm_1034⟩
theorem jl_L_126 : JCv RL 126 RX9 yX9_is cX9_is 2 ((some FieldType.int)) 1 := ⟨⟨tm_1037, tm_8, tm_1040, jm_yX9_is⟩, tm_1038, tm_1039⟩
theorem jl_X9_175 : JCv RX9 175 RX9 yX9_kindsOfHorse cX9_kindsOfHorse 2 ((some FieldType.int)) 1 := ⟨⟨tm_1041, tm_8, tm_1044, jm_yX9_kindsOfHorse⟩, tm_1043, ts_41⟩
theorem jl_X9_171 : JCv RX9 171 RX9 yX9_kindsBy cX9_kindsBy 11 ((some FieldType.int)) 4 := ⟨⟨tm_1045, tm_8, tm_1048, jm_yX9_kindsBy⟩, tm_1047, ts_42⟩
theorem jl_L_130 : JCv RL 130 RX9 yX9_look cX9_look 8 ((some FieldType.int)) 1 := ⟨⟨tm_1049, tm_8, tm_1052, jm_yX9_look⟩, tm_1050, tm_1051⟩
theorem jl_L_134 : JCv RL 134 RX9 yX9_kinds cX9_kinds 2 ((some FieldType.int)) 1 := ⟨⟨tm_1053, tm_8, tm_1056, jm_yX9_kinds⟩, tm_1054, tm_1055⟩
theorem jl_X9_178 : JCv RX9 178 RX9 yX9_kindsOfRider cX9_kindsOfRider 2 ((some FieldType.int)) 1 := ⟨⟨tm_1057, tm_8, tm_1060, jm_yX9_kindsOfRider⟩, tm_1059, ts_43⟩
theorem jl_L_138 : JCv RL 138 RX9 yX9_ask cX9_ask 8 ((some FieldType.int)) 1 := ⟨⟨tm_1061, tm_8, tm_1064, jm_yX9_ask⟩, tm_1062, tm_1063⟩
theorem jl_L_142 : JCv RL 142 RX9 yX9_hands cX9_hands 6 ((some FieldType.int)) 3 := ⟨⟨tm_1065, tm_8, tm_1068, jm_yX9_hands⟩, tm_1066, tm_1067⟩
theorem jl_X9_184 : JCv RX9 184 RX9 yX9_rests cX9_rests 5 ((some FieldType.boolean)) 2 := ⟨⟨tm_1069, tm_8, tm_1072, jm_yX9_rests⟩, tm_1071, ts_44⟩
theorem jl_X9_181 : JCv RX9 181 RX9 yX9_getsBy cX9_getsBy 4 ((some FieldType.int)) 3 := ⟨⟨tm_1073, tm_8, tm_1076, jm_yX9_getsBy⟩, tm_1075, ts_45⟩
theorem jl_L_146 : JCv RL 146 RX9 yX9_slip cX9_slip 14 ((some FieldType.int)) 4 := ⟨⟨tm_1077, tm_8, tm_1080, jm_yX9_slip⟩, tm_1078, tm_1079⟩
theorem jl_X9_192 : JCv RX9 192 RX9 yX9_fraction cX9_fraction 11 (none) 2 := ⟨⟨tm_1082, tm_8, tm_1085, jm_yX9_fraction⟩, tm_1084, ts_46⟩
theorem jl_L_150 : JCv RL 150 RX9 yX9_evenings cX9_evenings 7 ((some FieldType.int)) 2 := ⟨⟨tm_1086, tm_8, tm_1089, jm_yX9_evenings⟩, tm_1087, tm_1088⟩
theorem jl_L_31 : JCv RL 31 RX9 yX9_type cX9_type 2 ((some FieldType.int)) 1 := ⟨⟨tm_1095, tm_8, tm_1098, jm_yX9_type⟩, tm_1096, tm_1097⟩
theorem jl_L_36 : JCv RL 36 RX9 yX9_clear cX9_clear 2 ((some FieldType.int)) 0 := ⟨⟨tm_1100, tm_8, tm_1103, jm_yX9_clear⟩, tm_1101, tm_1102⟩
theorem jl_L_40 : JCv RL 40 RX9 yX9_read cX9_read 3 ((some FieldType.int)) 0 := ⟨⟨tm_1104, tm_8, tm_1107, jm_yX9_read⟩, tm_1105, tm_1106⟩
theorem jl_X9_238 : JCv RX9 238 RX9 yX9_lookAt cX9_lookAt 5 (none) 1 := ⟨⟨tm_1108, tm_8, tm_1111, jm_yX9_lookAt⟩, tm_1110, ts_47⟩
theorem jl_X9_232 : JCs RX9 232 yX9_isSmall cX9_isSmall 1 ((some FieldType.boolean)) 1 := ⟨⟨tm_1112, tm_8, tm_1114, jm_yX9_isSmall⟩, tm_1113⟩
theorem jl_X9_235 : JCs RX9 235 yX9_isFigure cX9_isFigure 1 ((some FieldType.boolean)) 1 := ⟨⟨tm_1117, tm_8, tm_1119, jm_yX9_isFigure⟩, tm_1118⟩
theorem jl_X9_249 : JCv RX9 249 RX9 yX9_spells cX9_spells 10 ((some FieldType.boolean)) 7 := ⟨⟨tm_1122, tm_8, tm_1125, jm_yX9_spells⟩, tm_1124, ts_48⟩
theorem jl_X9_242 : JCv RX9 242 RX9 yX9_goBehind cX9_goBehind 1 (none) 0 := ⟨⟨tm_1126, tm_8, tm_1129, jm_yX9_goBehind⟩, tm_1128, ts_49⟩
theorem jl_X9_245 : JCv RX9 245 RX9 yX9_takesNumber cX9_takesNumber 4 ((some FieldType.boolean)) 3 := ⟨⟨tm_1130, tm_8, tm_1133, jm_yX9_takesNumber⟩, tm_1132, ts_50⟩
theorem jl_X9_266 : JCv RX9 266 RX9 yX9_takesItem cX9_takesItem 1 ((some FieldType.boolean)) 0 := ⟨⟨tm_1134, tm_8, tm_1137, jm_yX9_takesItem⟩, tm_1136, ts_51⟩
theorem jl_X9_253 : JCv RX9 253 RX9 yX9_takesHorse cX9_takesHorse 1 ((some FieldType.boolean)) 0 := ⟨⟨tm_1138, tm_8, tm_1141, jm_yX9_takesHorse⟩, tm_1140, ts_52⟩
theorem jl_X9_257 : JCv RX9 257 RX9 yX9_takesRider cX9_takesRider 1 ((some FieldType.boolean)) 0 := ⟨⟨tm_1142, tm_8, tm_1145, jm_yX9_takesRider⟩, tm_1144, ts_53⟩
theorem jl_X9_260 : JCv RX9 260 RX9 yX9_takesRing cX9_takesRing 1 ((some FieldType.boolean)) 0 := ⟨⟨tm_1146, tm_8, tm_1149, jm_yX9_takesRing⟩, tm_1148, ts_54⟩
theorem jl_X9_263 : JCv RX9 263 RX9 yX9_takesGo cX9_takesGo 1 ((some FieldType.boolean)) 0 := ⟨⟨tm_1150, tm_8, tm_1153, jm_yX9_takesGo⟩, tm_1152, ts_55⟩
theorem jl_L_155 : JCv RL 155 RX9 yX9_part cX9_part 2 ((some FieldType.long)) 1 := ⟨⟨tm_1154, tm_8, tm_1157, jm_yX9_part⟩, tm_1155, tm_1156⟩
theorem jl_L_159 : JCv RL 159 RX9 yX9_image cX9_image 3 ((some FieldType.int)) 1 := ⟨⟨tm_1158, tm_8, tm_1161, jm_yX9_image⟩, tm_1159, tm_1160⟩
theorem jl_L_163 : JCv RL 163 RX9 yX9_from cX9_from 3 ((some FieldType.int)) 1 := ⟨⟨tm_1162, tm_8, tm_1165, jm_yX9_from⟩, tm_1163, tm_1164⟩
theorem jl_L_167 : JCv RL 167 RX9 yX9_status cX9_status 2 ((some FieldType.int)) 1 := ⟨⟨tm_1166, tm_8, tm_1169, jm_yX9_status⟩, tm_1167, tm_1168⟩
theorem jl_L_171 : JCv RL 171 RX9 yX9_count cX9_count 2 ((some FieldType.int)) 1 := ⟨⟨tm_1170, tm_8, tm_1173, jm_yX9_count⟩, tm_1171, tm_1172⟩
theorem jl_X9_271 : JCv RX9 271 RX9 yX9_counted cX9_counted 4 ((some FieldType.int)) 1 := ⟨⟨tm_1175, tm_8, tm_1178, jm_yX9_counted⟩, tm_1177, ts_56⟩
theorem jl_L_176 : JCv RL 176 RX9 yX9_digest cX9_digest 4 ((some FieldType.long)) 0 := ⟨⟨tm_1179, tm_8, tm_1182, jm_yX9_digest⟩, tm_1180, tm_1181⟩
theorem jl_X9_278 : JCv RX9 278 RX9 yX9_sums cX9_sums 8 ((some FieldType.long)) 3 := ⟨⟨tm_1185, tm_8, tm_1188, jm_yX9_sums⟩, tm_1187, ts_57⟩
