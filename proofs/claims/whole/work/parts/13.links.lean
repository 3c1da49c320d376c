/-! fields and callees by their links -/
theorem ff_UsedUpModel_102 : qfo "UsedUpModel" 102 40 2 9 := ⟨RX9, TX9, 64, rfl, by decide, lkF_UsedUpModel_102, rfl⟩
theorem ff_UsedUpModel_105 : qfo "UsedUpModel" 105 41 2 9 := ⟨RX9, TX9, 64, rfl, by decide, lkF_UsedUpModel_105, rfl⟩
theorem ff_UsedUpModel_108 : qfo "UsedUpModel" 108 42 2 9 := ⟨RX9, TX9, 64, rfl, by decide, lkF_UsedUpModel_108, rfl⟩
theorem ff_UsedUpModel_111 : qfo "UsedUpModel" 111 44 2 9 := ⟨RX9, TX9, 64, rfl, by decide, lkF_UsedUpModel_111, rfl⟩
theorem ff_UsedUpModel_114 : qfo "UsedUpModel" 114 45 2 9 := ⟨RX9, TX9, 64, rfl, by decide, lkF_UsedUpModel_114, rfl⟩
theorem ff_UsedUpModel_117 : qfo "UsedUpModel" 117 46 2 9 := ⟨RX9, TX9, 64, rfl, by decide, lkF_UsedUpModel_117, rfl⟩
theorem ff_UsedUpModel_120 : qfo "UsedUpModel" 120 48 2 9 := ⟨RX9, TX9, 64, rfl, by decide, lkF_UsedUpModel_120, rfl⟩
theorem ff_UsedUpModel_123 : qfo "UsedUpModel" 123 49 2 9 := ⟨RX9, TX9, 64, rfl, by decide, lkF_UsedUpModel_123, rfl⟩
theorem ff_UsedUpModel_126 : qfo "UsedUpModel" 126 52 2 9 := ⟨RX9, TX9, 64, rfl, by decide, lkF_UsedUpModel_126, rfl⟩
theorem ff_UsedUpModel_129 : qfo "UsedUpModel" 129 53 2 9 := ⟨RX9, TX9, 64, rfl, by decide, lkF_UsedUpModel_129, rfl⟩
theorem ff_UsedUpModel_13 : qfo "UsedUpModel" 13 3 2 9 := ⟨RX9, TX9, 64, rfl, by decide, lkF_UsedUpModel_13, rfl⟩
theorem ff_UsedUpModel_132 : qfo "UsedUpModel" 132 56 2 9 := ⟨RX9, TX9, 64, rfl, by decide, lkF_UsedUpModel_132, rfl⟩
theorem ff_UsedUpModel_135 : qfo "UsedUpModel" 135 62 0 9 := ⟨RX9, TX9, 64, rfl, by decide, lkF_UsedUpModel_135, rfl⟩
theorem ff_UsedUpModel_139 : qfo "UsedUpModel" 139 0 0 9 := ⟨RX9, TX9, 64, rfl, by decide, lkF_UsedUpModel_139, rfl⟩
theorem ff_UsedUpModel_142 : qfo "UsedUpModel" 142 1 0 9 := ⟨RX9, TX9, 64, rfl, by decide, lkF_UsedUpModel_142, rfl⟩
theorem ff_UsedUpModel_16 : qfo "UsedUpModel" 16 6 2 9 := ⟨RX9, TX9, 64, rfl, by decide, lkF_UsedUpModel_16, rfl⟩
theorem ff_UsedUpModel_188 : qfo "UsedUpModel" 188 15 0 9 := ⟨RX9, TX9, 64, rfl, by decide, lkF_UsedUpModel_188, rfl⟩
theorem ff_UsedUpModel_19 : qfo "UsedUpModel" 19 7 2 9 := ⟨RX9, TX9, 64, rfl, by decide, lkF_UsedUpModel_19, rfl⟩
theorem ff_UsedUpModel_195 : qfo "UsedUpModel" 195 18 0 9 := ⟨RX9, TX9, 64, rfl, by decide, lkF_UsedUpModel_195, rfl⟩
theorem ff_UsedUpModel_198 : qfo "UsedUpModel" 198 5 0 9 := ⟨RX9, TX9, 64, rfl, by decide, lkF_UsedUpModel_198, rfl⟩
theorem ff_UsedUpModel_201 : qfo "UsedUpModel" 201 4 3 9 := ⟨RX9, TX9, 64, rfl, by decide, lkF_UsedUpModel_201, rfl⟩
theorem ff_UsedUpModel_216 : qfo "UsedUpModel" 216 27 3 9 := ⟨RX9, TX9, 64, rfl, by decide, lkF_UsedUpModel_216, rfl⟩
theorem ff_UsedUpModel_22 : qfo "UsedUpModel" 22 8 2 9 := ⟨RX9, TX9, 64, rfl, by decide, lkF_UsedUpModel_22, rfl⟩
theorem ff_UsedUpModel_230 : qfo "UsedUpModel" 230 19 0 9 := ⟨RX9, TX9, 64, rfl, by decide, lkF_UsedUpModel_230, rfl⟩
theorem ff_UsedUpModel_237 : qfo "UsedUpModel" 237 30 0 9 := ⟨RX9, TX9, 64, rfl, by decide, lkF_UsedUpModel_237, rfl⟩
theorem ff_UsedUpModel_25 : qfo "UsedUpModel" 25 9 2 9 := ⟨RX9, TX9, 64, rfl, by decide, lkF_UsedUpModel_25, rfl⟩
theorem ff_UsedUpModel_269 : qfo "UsedUpModel" 269 57 0 9 := ⟨RX9, TX9, 64, rfl, by decide, lkF_UsedUpModel_269, rfl⟩
theorem ff_UsedUpModel_276 : qfo "UsedUpModel" 276 59 0 9 := ⟨RX9, TX9, 64, rfl, by decide, lkF_UsedUpModel_276, rfl⟩
theorem ff_UsedUpModel_279 : qfo "UsedUpModel" 279 58 0 9 := ⟨RX9, TX9, 64, rfl, by decide, lkF_UsedUpModel_279, rfl⟩
theorem ff_UsedUpModel_28 : qfo "UsedUpModel" 28 10 2 9 := ⟨RX9, TX9, 64, rfl, by decide, lkF_UsedUpModel_28, rfl⟩
theorem ff_UsedUpModel_282 : qfo "UsedUpModel" 282 61 1 9 := ⟨RX9, TX9, 64, rfl, by decide, lkF_UsedUpModel_282, rfl⟩
theorem ff_UsedUpModel_292 : qfo "UsedUpModel" 292 60 0 9 := ⟨RX9, TX9, 64, rfl, by decide, lkF_UsedUpModel_292, rfl⟩
theorem ff_UsedUpModel_303 : qfo "UsedUpModel" 303 63 3 9 := ⟨RX9, TX9, 64, rfl, by decide, lkF_UsedUpModel_303, rfl⟩
theorem ff_UsedUpModel_31 : qfo "UsedUpModel" 31 11 2 9 := ⟨RX9, TX9, 64, rfl, by decide, lkF_UsedUpModel_31, rfl⟩
theorem ff_UsedUpModel_320 : qfo "UsedUpModel" 320 43 0 9 := ⟨RX9, TX9, 64, rfl, by decide, lkF_UsedUpModel_320, rfl⟩
theorem ff_UsedUpModel_329 : qfo "UsedUpModel" 329 54 0 9 := ⟨RX9, TX9, 64, rfl, by decide, lkF_UsedUpModel_329, rfl⟩
theorem ff_UsedUpModel_335 : qfo "UsedUpModel" 335 36 0 9 := ⟨RX9, TX9, 64, rfl, by decide, lkF_UsedUpModel_335, rfl⟩
theorem ff_UsedUpModel_338 : qfo "UsedUpModel" 338 51 0 9 := ⟨RX9, TX9, 64, rfl, by decide, lkF_UsedUpModel_338, rfl⟩
theorem ff_UsedUpModel_34 : qfo "UsedUpModel" 34 12 2 9 := ⟨RX9, TX9, 64, rfl, by decide, lkF_UsedUpModel_34, rfl⟩
theorem ff_UsedUpModel_351 : qfo "UsedUpModel" 351 55 0 9 := ⟨RX9, TX9, 64, rfl, by decide, lkF_UsedUpModel_351, rfl⟩
theorem ff_UsedUpModel_354 : qfo "UsedUpModel" 354 47 0 9 := ⟨RX9, TX9, 64, rfl, by decide, lkF_UsedUpModel_354, rfl⟩
theorem ff_UsedUpModel_357 : qfo "UsedUpModel" 357 50 0 9 := ⟨RX9, TX9, 64, rfl, by decide, lkF_UsedUpModel_357, rfl⟩
theorem ff_UsedUpModel_37 : qfo "UsedUpModel" 37 13 2 9 := ⟨RX9, TX9, 64, rfl, by decide, lkF_UsedUpModel_37, rfl⟩
theorem ff_UsedUpModel_40 : qfo "UsedUpModel" 40 14 2 9 := ⟨RX9, TX9, 64, rfl, by decide, lkF_UsedUpModel_40, rfl⟩
theorem ff_UsedUpModel_44 : qfo "UsedUpModel" 44 16 2 9 := ⟨RX9, TX9, 64, rfl, by decide, lkF_UsedUpModel_44, rfl⟩
theorem ff_UsedUpModel_47 : qfo "UsedUpModel" 47 17 2 9 := ⟨RX9, TX9, 64, rfl, by decide, lkF_UsedUpModel_47, rfl⟩
theorem ff_UsedUpModel_50 : qfo "UsedUpModel" 50 20 2 9 := ⟨RX9, TX9, 64, rfl, by decide, lkF_UsedUpModel_50, rfl⟩
theorem ff_UsedUpModel_53 : qfo "UsedUpModel" 53 21 2 9 := ⟨RX9, TX9, 64, rfl, by decide, lkF_UsedUpModel_53, rfl⟩
theorem ff_UsedUpModel_56 : qfo "UsedUpModel" 56 22 2 9 := ⟨RX9, TX9, 64, rfl, by decide, lkF_UsedUpModel_56, rfl⟩
theorem ff_UsedUpModel_59 : qfo "UsedUpModel" 59 23 2 9 := ⟨RX9, TX9, 64, rfl, by decide, lkF_UsedUpModel_59, rfl⟩
theorem ff_UsedUpModel_63 : qfo "UsedUpModel" 63 24 2 9 := ⟨RX9, TX9, 64, rfl, by decide, lkF_UsedUpModel_63, rfl⟩
theorem ff_UsedUpModel_66 : qfo "UsedUpModel" 66 25 2 9 := ⟨RX9, TX9, 64, rfl, by decide, lkF_UsedUpModel_66, rfl⟩
theorem ff_UsedUpModel_69 : qfo "UsedUpModel" 69 26 2 9 := ⟨RX9, TX9, 64, rfl, by decide, lkF_UsedUpModel_69, rfl⟩
theorem ff_UsedUpModel_7 : qfo "UsedUpModel" 7 2 2 9 := ⟨RX9, TX9, 64, rfl, by decide, lkF_UsedUpModel_7, rfl⟩
theorem ff_UsedUpModel_72 : qfo "UsedUpModel" 72 28 2 9 := ⟨RX9, TX9, 64, rfl, by decide, lkF_UsedUpModel_72, rfl⟩
theorem ff_UsedUpModel_75 : qfo "UsedUpModel" 75 29 2 9 := ⟨RX9, TX9, 64, rfl, by decide, lkF_UsedUpModel_75, rfl⟩
theorem ff_UsedUpModel_78 : qfo "UsedUpModel" 78 31 2 9 := ⟨RX9, TX9, 64, rfl, by decide, lkF_UsedUpModel_78, rfl⟩
theorem ff_UsedUpModel_81 : qfo "UsedUpModel" 81 32 2 9 := ⟨RX9, TX9, 64, rfl, by decide, lkF_UsedUpModel_81, rfl⟩
theorem ff_UsedUpModel_84 : qfo "UsedUpModel" 84 33 2 9 := ⟨RX9, TX9, 64, rfl, by decide, lkF_UsedUpModel_84, rfl⟩
theorem ff_UsedUpModel_87 : qfo "UsedUpModel" 87 34 2 9 := ⟨RX9, TX9, 64, rfl, by decide, lkF_UsedUpModel_87, rfl⟩
theorem ff_UsedUpModel_90 : qfo "UsedUpModel" 90 35 2 9 := ⟨RX9, TX9, 64, rfl, by decide, lkF_UsedUpModel_90, rfl⟩
theorem ff_UsedUpModel_93 : qfo "UsedUpModel" 93 37 2 9 := ⟨RX9, TX9, 64, rfl, by decide, lkF_UsedUpModel_93, rfl⟩
theorem ff_UsedUpModel_96 : qfo "UsedUpModel" 96 38 2 9 := ⟨RX9, TX9, 64, rfl, by decide, lkF_UsedUpModel_96, rfl⟩
theorem ff_UsedUpModel_99 : qfo "UsedUpModel" 99 39 2 9 := ⟨RX9, TX9, 64, rfl, by decide, lkF_UsedUpModel_99, rfl⟩
theorem ff_UsedUp_116 : qfo "UsedUp" 116 1 0 6 := ⟨RX6, TX6, 2, rfl, by decide, lkF_UsedUp_116, rfl⟩
theorem ff_UsedUp_12 : qfo "UsedUp" 12 0 2 8 := ⟨RX8, TX8, 15, rfl, by decide, lkF_UsedUp_12, rfl⟩
theorem ff_UsedUp_127 : qfo "UsedUp" 127 1 0 5 := ⟨RX5, TX5, 17, rfl, by decide, lkF_UsedUp_127, rfl⟩
theorem ff_UsedUp_16 : qfo "UsedUp" 16 1 2 8 := ⟨RX8, TX8, 15, rfl, by decide, lkF_UsedUp_16, rfl⟩
theorem ff_UsedUp_165 : qfo "UsedUp" 165 3 2 0 := ⟨RX0, TX0, 4, rfl, by decide, lkF_UsedUp_165, rfl⟩
theorem ff_UsedUp_174 : qfo "UsedUp" 174 3 0 3 := ⟨RX3, TX3, 9, rfl, by decide, lkF_UsedUp_174, rfl⟩
theorem ff_UsedUp_198 : qfo "UsedUp" 198 0 2 1 := ⟨RX1, TX1, 4, rfl, by decide, lkF_UsedUp_198, rfl⟩
theorem ff_UsedUp_201 : qfo "UsedUp" 201 1 0 1 := ⟨RX1, TX1, 4, rfl, by decide, lkF_UsedUp_201, rfl⟩
theorem ff_UsedUp_204 : qfo "UsedUp" 204 0 0 5 := ⟨RX5, TX5, 17, rfl, by decide, lkF_UsedUp_204, rfl⟩
theorem ff_UsedUp_211 : qfo "UsedUp" 211 2 0 5 := ⟨RX5, TX5, 17, rfl, by decide, lkF_UsedUp_211, rfl⟩
theorem ff_UsedUp_22 : qfo "UsedUp" 22 2 2 8 := ⟨RX8, TX8, 15, rfl, by decide, lkF_UsedUp_22, rfl⟩
theorem ff_UsedUp_31 : qfo "UsedUp" 31 3 2 8 := ⟨RX8, TX8, 15, rfl, by decide, lkF_UsedUp_31, rfl⟩
theorem ff_UsedUp_38 : qfo "UsedUp" 38 4 2 8 := ⟨RX8, TX8, 15, rfl, by decide, lkF_UsedUp_38, rfl⟩
theorem ff_UsedUp_45 : qfo "UsedUp" 45 5 2 8 := ⟨RX8, TX8, 15, rfl, by decide, lkF_UsedUp_45, rfl⟩
theorem ff_UsedUp_52 : qfo "UsedUp" 52 6 2 8 := ⟨RX8, TX8, 15, rfl, by decide, lkF_UsedUp_52, rfl⟩
theorem ff_UsedUp_61 : qfo "UsedUp" 61 7 2 8 := ⟨RX8, TX8, 15, rfl, by decide, lkF_UsedUp_61, rfl⟩
theorem ff_UsedUp_65 : qfo "UsedUp" 65 8 3 8 := ⟨RX8, TX8, 15, rfl, by decide, lkF_UsedUp_65, rfl⟩
theorem ff_UsedUp_69 : qfo "UsedUp" 69 9 2 8 := ⟨RX8, TX8, 15, rfl, by decide, lkF_UsedUp_69, rfl⟩
theorem ff_UsedUp_73 : qfo "UsedUp" 73 10 2 8 := ⟨RX8, TX8, 15, rfl, by decide, lkF_UsedUp_73, rfl⟩
theorem ff_UsedUp_76 : qfo "UsedUp" 76 11 3 8 := ⟨RX8, TX8, 15, rfl, by decide, lkF_UsedUp_76, rfl⟩
theorem ff_UsedUp_79 : qfo "UsedUp" 79 12 2 8 := ⟨RX8, TX8, 15, rfl, by decide, lkF_UsedUp_79, rfl⟩
theorem ff_UsedUp_82 : qfo "UsedUp" 82 13 0 8 := ⟨RX8, TX8, 15, rfl, by decide, lkF_UsedUp_82, rfl⟩
theorem ff_UsedUp_86 : qfo "UsedUp" 86 14 0 8 := ⟨RX8, TX8, 15, rfl, by decide, lkF_UsedUp_86, rfl⟩
theorem ff_UsedUp_Asks_15 : qfo "UsedUp$Asks" 15 1 2 0 := ⟨RX0, TX0, 4, rfl, by decide, lkF_UsedUp_Asks_15, rfl⟩
theorem ff_UsedUp_Asks_18 : qfo "UsedUp$Asks" 18 2 2 0 := ⟨RX0, TX0, 4, rfl, by decide, lkF_UsedUp_Asks_18, rfl⟩
theorem ff_UsedUp_Asks_21 : qfo "UsedUp$Asks" 21 3 2 0 := ⟨RX0, TX0, 4, rfl, by decide, lkF_UsedUp_Asks_21, rfl⟩
theorem ff_UsedUp_Asks_32 : qfo "UsedUp$Asks" 32 16 0 5 := ⟨RX5, TX5, 17, rfl, by decide, lkF_UsedUp_Asks_32, rfl⟩
theorem ff_UsedUp_Asks_9 : qfo "UsedUp$Asks" 9 0 2 0 := ⟨RX0, TX0, 4, rfl, by decide, lkF_UsedUp_Asks_9, rfl⟩
theorem ff_UsedUp_Locks_15 : qfo "UsedUp$Locks" 15 1 0 1 := ⟨RX1, TX1, 4, rfl, by decide, lkF_UsedUp_Locks_15, rfl⟩
theorem ff_UsedUp_Locks_19 : qfo "UsedUp$Locks" 19 2 2 1 := ⟨RX1, TX1, 4, rfl, by decide, lkF_UsedUp_Locks_19, rfl⟩
theorem ff_UsedUp_Locks_22 : qfo "UsedUp$Locks" 22 3 2 1 := ⟨RX1, TX1, 4, rfl, by decide, lkF_UsedUp_Locks_22, rfl⟩
theorem ff_UsedUp_Locks_29 : qfo "UsedUp$Locks" 29 2 0 5 := ⟨RX5, TX5, 17, rfl, by decide, lkF_UsedUp_Locks_29, rfl⟩
theorem ff_UsedUp_Locks_49 : qfo "UsedUp$Locks" 49 4 2 5 := ⟨RX5, TX5, 17, rfl, by decide, lkF_UsedUp_Locks_49, rfl⟩
theorem ff_UsedUp_Locks_66 : qfo "UsedUp$Locks" 66 6 2 5 := ⟨RX5, TX5, 17, rfl, by decide, lkF_UsedUp_Locks_66, rfl⟩
theorem ff_UsedUp_Locks_69 : qfo "UsedUp$Locks" 69 9 2 5 := ⟨RX5, TX5, 17, rfl, by decide, lkF_UsedUp_Locks_69, rfl⟩
theorem ff_UsedUp_Locks_72 : qfo "UsedUp$Locks" 72 7 2 5 := ⟨RX5, TX5, 17, rfl, by decide, lkF_UsedUp_Locks_72, rfl⟩
theorem ff_UsedUp_Locks_9 : qfo "UsedUp$Locks" 9 0 2 1 := ⟨RX1, TX1, 4, rfl, by decide, lkF_UsedUp_Locks_9, rfl⟩
theorem ff_UsedUp_Meter_105 : qfo "UsedUp$Meter" 105 8 2 5 := ⟨RX5, TX5, 17, rfl, by decide, lkF_UsedUp_Meter_105, rfl⟩
theorem ff_UsedUp_Meter_128 : qfo "UsedUp$Meter" 128 5 2 5 := ⟨RX5, TX5, 17, rfl, by decide, lkF_UsedUp_Meter_128, rfl⟩
theorem ff_UsedUp_Meter_15 : qfo "UsedUp$Meter" 15 1 2 2 := ⟨RX2, TX2, 6, rfl, by decide, lkF_UsedUp_Meter_15, rfl⟩
theorem ff_UsedUp_Meter_18 : qfo "UsedUp$Meter" 18 2 2 2 := ⟨RX2, TX2, 6, rfl, by decide, lkF_UsedUp_Meter_18, rfl⟩
theorem ff_UsedUp_Meter_21 : qfo "UsedUp$Meter" 21 3 2 2 := ⟨RX2, TX2, 6, rfl, by decide, lkF_UsedUp_Meter_21, rfl⟩
theorem ff_UsedUp_Meter_24 : qfo "UsedUp$Meter" 24 4 2 2 := ⟨RX2, TX2, 6, rfl, by decide, lkF_UsedUp_Meter_24, rfl⟩
theorem ff_UsedUp_Meter_27 : qfo "UsedUp$Meter" 27 5 2 2 := ⟨RX2, TX2, 6, rfl, by decide, lkF_UsedUp_Meter_27, rfl⟩
theorem ff_UsedUp_Meter_34 : qfo "UsedUp$Meter" 34 2 0 5 := ⟨RX5, TX5, 17, rfl, by decide, lkF_UsedUp_Meter_34, rfl⟩
theorem ff_UsedUp_Meter_48 : qfo "UsedUp$Meter" 48 0 0 5 := ⟨RX5, TX5, 17, rfl, by decide, lkF_UsedUp_Meter_48, rfl⟩
theorem ff_UsedUp_Meter_51 : qfo "UsedUp$Meter" 51 6 2 5 := ⟨RX5, TX5, 17, rfl, by decide, lkF_UsedUp_Meter_51, rfl⟩
theorem ff_UsedUp_Meter_59 : qfo "UsedUp$Meter" 59 9 2 5 := ⟨RX5, TX5, 17, rfl, by decide, lkF_UsedUp_Meter_59, rfl⟩
theorem ff_UsedUp_Meter_75 : qfo "UsedUp$Meter" 75 4 2 5 := ⟨RX5, TX5, 17, rfl, by decide, lkF_UsedUp_Meter_75, rfl⟩
theorem ff_UsedUp_Meter_9 : qfo "UsedUp$Meter" 9 0 2 2 := ⟨RX2, TX2, 6, rfl, by decide, lkF_UsedUp_Meter_9, rfl⟩
theorem ff_UsedUp_Meter_91 : qfo "UsedUp$Meter" 91 7 2 5 := ⟨RX5, TX5, 17, rfl, by decide, lkF_UsedUp_Meter_91, rfl⟩
theorem ff_UsedUp_Planner_118 : qfo "UsedUp$Planner" 118 3 2 0 := ⟨RX0, TX0, 4, rfl, by decide, lkF_UsedUp_Planner_118, rfl⟩
theorem ff_UsedUp_Planner_15 : qfo "UsedUp$Planner" 15 3 0 3 := ⟨RX3, TX3, 9, rfl, by decide, lkF_UsedUp_Planner_15, rfl⟩
theorem ff_UsedUp_Planner_19 : qfo "UsedUp$Planner" 19 4 2 3 := ⟨RX3, TX3, 9, rfl, by decide, lkF_UsedUp_Planner_19, rfl⟩
theorem ff_UsedUp_Planner_22 : qfo "UsedUp$Planner" 22 5 2 3 := ⟨RX3, TX3, 9, rfl, by decide, lkF_UsedUp_Planner_22, rfl⟩
theorem ff_UsedUp_Planner_26 : qfo "UsedUp$Planner" 26 6 2 3 := ⟨RX3, TX3, 9, rfl, by decide, lkF_UsedUp_Planner_26, rfl⟩
theorem ff_UsedUp_Planner_29 : qfo "UsedUp$Planner" 29 7 2 3 := ⟨RX3, TX3, 9, rfl, by decide, lkF_UsedUp_Planner_29, rfl⟩
theorem ff_UsedUp_Planner_32 : qfo "UsedUp$Planner" 32 8 0 3 := ⟨RX3, TX3, 9, rfl, by decide, lkF_UsedUp_Planner_32, rfl⟩
theorem ff_UsedUp_Planner_35 : qfo "UsedUp$Planner" 35 0 2 3 := ⟨RX3, TX3, 9, rfl, by decide, lkF_UsedUp_Planner_35, rfl⟩
theorem ff_UsedUp_Planner_39 : qfo "UsedUp$Planner" 39 1 2 3 := ⟨RX3, TX3, 9, rfl, by decide, lkF_UsedUp_Planner_39, rfl⟩
theorem ff_UsedUp_Planner_47 : qfo "UsedUp$Planner" 47 5 2 5 := ⟨RX5, TX5, 17, rfl, by decide, lkF_UsedUp_Planner_47, rfl⟩
theorem ff_UsedUp_Planner_82 : qfo "UsedUp$Planner" 82 1 0 5 := ⟨RX5, TX5, 17, rfl, by decide, lkF_UsedUp_Planner_82, rfl⟩
theorem ff_UsedUp_Planner_9 : qfo "UsedUp$Planner" 9 2 2 3 := ⟨RX3, TX3, 9, rfl, by decide, lkF_UsedUp_Planner_9, rfl⟩
theorem ff_UsedUp_Reader_111 : qfo "UsedUp$Reader" 111 2 0 5 := ⟨RX5, TX5, 17, rfl, by decide, lkF_UsedUp_Reader_111, rfl⟩
theorem ff_UsedUp_Reader_117 : qfo "UsedUp$Reader" 117 6 2 5 := ⟨RX5, TX5, 17, rfl, by decide, lkF_UsedUp_Reader_117, rfl⟩
theorem ff_UsedUp_Reader_126 : qfo "UsedUp$Reader" 126 0 0 5 := ⟨RX5, TX5, 17, rfl, by decide, lkF_UsedUp_Reader_126, rfl⟩
theorem ff_UsedUp_Reader_129 : qfo "UsedUp$Reader" 129 1 0 5 := ⟨RX5, TX5, 17, rfl, by decide, lkF_UsedUp_Reader_129, rfl⟩
theorem ff_UsedUp_Reader_15 : qfo "UsedUp$Reader" 15 3 2 4 := ⟨RX4, TX4, 8, rfl, by decide, lkF_UsedUp_Reader_15, rfl⟩
theorem ff_UsedUp_Reader_18 : qfo "UsedUp$Reader" 18 4 0 4 := ⟨RX4, TX4, 8, rfl, by decide, lkF_UsedUp_Reader_18, rfl⟩
theorem ff_UsedUp_Reader_22 : qfo "UsedUp$Reader" 22 5 3 4 := ⟨RX4, TX4, 8, rfl, by decide, lkF_UsedUp_Reader_22, rfl⟩
theorem ff_UsedUp_Reader_26 : qfo "UsedUp$Reader" 26 6 2 4 := ⟨RX4, TX4, 8, rfl, by decide, lkF_UsedUp_Reader_26, rfl⟩
theorem ff_UsedUp_Reader_29 : qfo "UsedUp$Reader" 29 7 0 4 := ⟨RX4, TX4, 8, rfl, by decide, lkF_UsedUp_Reader_29, rfl⟩
theorem ff_UsedUp_Reader_37 : qfo "UsedUp$Reader" 37 0 2 4 := ⟨RX4, TX4, 8, rfl, by decide, lkF_UsedUp_Reader_37, rfl⟩
theorem ff_UsedUp_Reader_41 : qfo "UsedUp$Reader" 41 1 2 4 := ⟨RX4, TX4, 8, rfl, by decide, lkF_UsedUp_Reader_41, rfl⟩
theorem ff_UsedUp_Reader_81 : qfo "UsedUp$Reader" 81 1 0 7 := ⟨RX7, TX7, 3, rfl, by decide, lkF_UsedUp_Reader_81, rfl⟩
theorem ff_UsedUp_Reader_9 : qfo "UsedUp$Reader" 9 2 2 4 := ⟨RX4, TX4, 8, rfl, by decide, lkF_UsedUp_Reader_9, rfl⟩
theorem ff_UsedUp_Script_15 : qfo "UsedUp$Script" 15 1 0 5 := ⟨RX5, TX5, 17, rfl, by decide, lkF_UsedUp_Script_15, rfl⟩
theorem ff_UsedUp_Script_18 : qfo "UsedUp$Script" 18 2 0 5 := ⟨RX5, TX5, 17, rfl, by decide, lkF_UsedUp_Script_18, rfl⟩
theorem ff_UsedUp_Script_21 : qfo "UsedUp$Script" 21 3 0 5 := ⟨RX5, TX5, 17, rfl, by decide, lkF_UsedUp_Script_21, rfl⟩
theorem ff_UsedUp_Script_24 : qfo "UsedUp$Script" 24 4 2 5 := ⟨RX5, TX5, 17, rfl, by decide, lkF_UsedUp_Script_24, rfl⟩
theorem ff_UsedUp_Script_28 : qfo "UsedUp$Script" 28 5 2 5 := ⟨RX5, TX5, 17, rfl, by decide, lkF_UsedUp_Script_28, rfl⟩
theorem ff_UsedUp_Script_31 : qfo "UsedUp$Script" 31 6 2 5 := ⟨RX5, TX5, 17, rfl, by decide, lkF_UsedUp_Script_31, rfl⟩
theorem ff_UsedUp_Script_34 : qfo "UsedUp$Script" 34 7 2 5 := ⟨RX5, TX5, 17, rfl, by decide, lkF_UsedUp_Script_34, rfl⟩
theorem ff_UsedUp_Script_37 : qfo "UsedUp$Script" 37 8 2 5 := ⟨RX5, TX5, 17, rfl, by decide, lkF_UsedUp_Script_37, rfl⟩
theorem ff_UsedUp_Script_40 : qfo "UsedUp$Script" 40 9 2 5 := ⟨RX5, TX5, 17, rfl, by decide, lkF_UsedUp_Script_40, rfl⟩
theorem ff_UsedUp_Script_43 : qfo "UsedUp$Script" 43 10 2 5 := ⟨RX5, TX5, 17, rfl, by decide, lkF_UsedUp_Script_43, rfl⟩
theorem ff_UsedUp_Script_46 : qfo "UsedUp$Script" 46 11 2 5 := ⟨RX5, TX5, 17, rfl, by decide, lkF_UsedUp_Script_46, rfl⟩
theorem ff_UsedUp_Script_49 : qfo "UsedUp$Script" 49 12 2 5 := ⟨RX5, TX5, 17, rfl, by decide, lkF_UsedUp_Script_49, rfl⟩
theorem ff_UsedUp_Script_52 : qfo "UsedUp$Script" 52 13 2 5 := ⟨RX5, TX5, 17, rfl, by decide, lkF_UsedUp_Script_52, rfl⟩
theorem ff_UsedUp_Script_55 : qfo "UsedUp$Script" 55 14 2 5 := ⟨RX5, TX5, 17, rfl, by decide, lkF_UsedUp_Script_55, rfl⟩
theorem ff_UsedUp_Script_58 : qfo "UsedUp$Script" 58 15 2 5 := ⟨RX5, TX5, 17, rfl, by decide, lkF_UsedUp_Script_58, rfl⟩
theorem ff_UsedUp_Script_61 : qfo "UsedUp$Script" 61 16 0 5 := ⟨RX5, TX5, 17, rfl, by decide, lkF_UsedUp_Script_61, rfl⟩
theorem ff_UsedUp_Script_9 : qfo "UsedUp$Script" 9 0 0 5 := ⟨RX5, TX5, 17, rfl, by decide, lkF_UsedUp_Script_9, rfl⟩
theorem ff_UsedUp_Tape_15 : qfo "UsedUp$Tape" 15 1 0 6 := ⟨RX6, TX6, 2, rfl, by decide, lkF_UsedUp_Tape_15, rfl⟩
theorem ff_UsedUp_Tape_9 : qfo "UsedUp$Tape" 9 0 2 6 := ⟨RX6, TX6, 2, rfl, by decide, lkF_UsedUp_Tape_9, rfl⟩
theorem ff_UsedUp_Tokens_15 : qfo "UsedUp$Tokens" 15 2 0 7 := ⟨RX7, TX7, 3, rfl, by decide, lkF_UsedUp_Tokens_15, rfl⟩
theorem ff_UsedUp_Tokens_18 : qfo "UsedUp$Tokens" 18 0 2 7 := ⟨RX7, TX7, 3, rfl, by decide, lkF_UsedUp_Tokens_18, rfl⟩
theorem ff_UsedUp_Tokens_25 : qfo "UsedUp$Tokens" 25 1 0 6 := ⟨RX6, TX6, 2, rfl, by decide, lkF_UsedUp_Tokens_25, rfl⟩
theorem ff_UsedUp_Tokens_30 : qfo "UsedUp$Tokens" 30 0 2 6 := ⟨RX6, TX6, 2, rfl, by decide, lkF_UsedUp_Tokens_30, rfl⟩
theorem ff_UsedUp_Tokens_9 : qfo "UsedUp$Tokens" 9 1 0 7 := ⟨RX7, TX7, 3, rfl, by decide, lkF_UsedUp_Tokens_9, rfl⟩
theorem fp_1_1 : qfp 1 0 1 := ⟨RX1, TX1, 4, rfl, rfl, Or.inl ⟨rfl, by decide +kernel⟩⟩
theorem fp_3_3 : qfp 3 0 3 := ⟨RX3, TX3, 9, rfl, rfl, Or.inl ⟨rfl, by decide +kernel⟩⟩
theorem fp_3_8 : qfp 8 0 3 := ⟨RX3, TX3, 9, rfl, rfl, Or.inl ⟨rfl, by decide +kernel⟩⟩
theorem fp_4_1 : qfp 1 2 4 := ⟨RX4, TX4, 8, rfl, rfl, Or.inr (Or.inr (Or.inl ⟨rfl, "UsedUp$Script", by decide +kernel⟩))⟩
theorem fp_4_4 : qfp 4 0 4 := ⟨RX4, TX4, 8, rfl, rfl, Or.inl ⟨rfl, by decide +kernel⟩⟩
theorem fp_4_5 : qfp 5 3 4 := ⟨RX4, TX4, 8, rfl, rfl, Or.inr (Or.inr (Or.inr ⟨rfl, by decide +kernel⟩))⟩
theorem fp_4_7 : qfp 7 0 4 := ⟨RX4, TX4, 8, rfl, rfl, Or.inl ⟨rfl, by decide +kernel⟩⟩
theorem fp_5_0 : qfp 0 0 5 := ⟨RX5, TX5, 17, rfl, rfl, Or.inl ⟨rfl, by decide +kernel⟩⟩
theorem fp_5_1 : qfp 1 0 5 := ⟨RX5, TX5, 17, rfl, rfl, Or.inl ⟨rfl, by decide +kernel⟩⟩
theorem fp_5_2 : qfp 2 0 5 := ⟨RX5, TX5, 17, rfl, rfl, Or.inl ⟨rfl, by decide +kernel⟩⟩
theorem fp_5_3 : qfp 3 0 5 := ⟨RX5, TX5, 17, rfl, rfl, Or.inl ⟨rfl, by decide +kernel⟩⟩
theorem fp_5_16 : qfp 16 0 5 := ⟨RX5, TX5, 17, rfl, rfl, Or.inl ⟨rfl, by decide +kernel⟩⟩
theorem fp_6_1 : qfp 1 0 6 := ⟨RX6, TX6, 2, rfl, rfl, Or.inl ⟨rfl, by decide +kernel⟩⟩
theorem fp_7_1 : qfp 1 0 7 := ⟨RX7, TX7, 3, rfl, rfl, Or.inl ⟨rfl, by decide +kernel⟩⟩
theorem fp_7_2 : qfp 2 0 7 := ⟨RX7, TX7, 3, rfl, rfl, Or.inl ⟨rfl, by decide +kernel⟩⟩
theorem fp_8_0 : qfp 0 2 8 := ⟨RX8, TX8, 15, rfl, rfl, Or.inr (Or.inr (Or.inl ⟨rfl, "UsedUp$Script", by decide +kernel⟩))⟩
theorem fp_8_1 : qfp 1 2 8 := ⟨RX8, TX8, 15, rfl, rfl, Or.inr (Or.inr (Or.inl ⟨rfl, "UsedUp$Script", by decide +kernel⟩))⟩
theorem fp_8_8 : qfp 8 3 8 := ⟨RX8, TX8, 15, rfl, rfl, Or.inr (Or.inr (Or.inr ⟨rfl, by decide +kernel⟩))⟩
theorem fp_8_11 : qfp 11 3 8 := ⟨RX8, TX8, 15, rfl, rfl, Or.inr (Or.inr (Or.inr ⟨rfl, by decide +kernel⟩))⟩
theorem fp_8_13 : qfp 13 0 8 := ⟨RX8, TX8, 15, rfl, rfl, Or.inl ⟨rfl, by decide +kernel⟩⟩
theorem fp_8_14 : qfp 14 0 8 := ⟨RX8, TX8, 15, rfl, rfl, Or.inl ⟨rfl, by decide +kernel⟩⟩
theorem fp_9_0 : qfp 0 0 9 := ⟨RX9, TX9, 64, rfl, rfl, Or.inl ⟨rfl, by decide +kernel⟩⟩
theorem fp_9_1 : qfp 1 0 9 := ⟨RX9, TX9, 64, rfl, rfl, Or.inl ⟨rfl, by decide +kernel⟩⟩
theorem fp_9_4 : qfp 4 3 9 := ⟨RX9, TX9, 64, rfl, rfl, Or.inr (Or.inr (Or.inr ⟨rfl, by decide +kernel⟩))⟩
theorem fp_9_5 : qfp 5 0 9 := ⟨RX9, TX9, 64, rfl, rfl, Or.inl ⟨rfl, by decide +kernel⟩⟩
theorem fp_9_15 : qfp 15 0 9 := ⟨RX9, TX9, 64, rfl, rfl, Or.inl ⟨rfl, by decide +kernel⟩⟩
theorem fp_9_18 : qfp 18 0 9 := ⟨RX9, TX9, 64, rfl, rfl, Or.inl ⟨rfl, by decide +kernel⟩⟩
theorem fp_9_19 : qfp 19 0 9 := ⟨RX9, TX9, 64, rfl, rfl, Or.inl ⟨rfl, by decide +kernel⟩⟩
theorem fp_9_27 : qfp 27 3 9 := ⟨RX9, TX9, 64, rfl, rfl, Or.inr (Or.inr (Or.inr ⟨rfl, by decide +kernel⟩))⟩
theorem fp_9_30 : qfp 30 0 9 := ⟨RX9, TX9, 64, rfl, rfl, Or.inl ⟨rfl, by decide +kernel⟩⟩
theorem fp_9_36 : qfp 36 0 9 := ⟨RX9, TX9, 64, rfl, rfl, Or.inl ⟨rfl, by decide +kernel⟩⟩
theorem fp_9_43 : qfp 43 0 9 := ⟨RX9, TX9, 64, rfl, rfl, Or.inl ⟨rfl, by decide +kernel⟩⟩
theorem fp_9_47 : qfp 47 0 9 := ⟨RX9, TX9, 64, rfl, rfl, Or.inl ⟨rfl, by decide +kernel⟩⟩
theorem fp_9_50 : qfp 50 0 9 := ⟨RX9, TX9, 64, rfl, rfl, Or.inl ⟨rfl, by decide +kernel⟩⟩
theorem fp_9_51 : qfp 51 0 9 := ⟨RX9, TX9, 64, rfl, rfl, Or.inl ⟨rfl, by decide +kernel⟩⟩
theorem fp_9_54 : qfp 54 0 9 := ⟨RX9, TX9, 64, rfl, rfl, Or.inl ⟨rfl, by decide +kernel⟩⟩
theorem fp_9_55 : qfp 55 0 9 := ⟨RX9, TX9, 64, rfl, rfl, Or.inl ⟨rfl, by decide +kernel⟩⟩
theorem fp_9_57 : qfp 57 0 9 := ⟨RX9, TX9, 64, rfl, rfl, Or.inl ⟨rfl, by decide +kernel⟩⟩
theorem fp_9_58 : qfp 58 0 9 := ⟨RX9, TX9, 64, rfl, rfl, Or.inl ⟨rfl, by decide +kernel⟩⟩
theorem fp_9_59 : qfp 59 0 9 := ⟨RX9, TX9, 64, rfl, rfl, Or.inl ⟨rfl, by decide +kernel⟩⟩
theorem fp_9_60 : qfp 60 0 9 := ⟨RX9, TX9, 64, rfl, rfl, Or.inl ⟨rfl, by decide +kernel⟩⟩
theorem fp_9_61 : qfp 61 1 9 := ⟨RX9, TX9, 64, rfl, rfl, Or.inr (Or.inl ⟨rfl, by decide +kernel⟩)⟩
theorem fp_9_62 : qfp 62 0 9 := ⟨RX9, TX9, 64, rfl, rfl, Or.inl ⟨rfl, by decide +kernel⟩⟩
theorem fp_9_63 : qfp 63 3 9 := ⟨RX9, TX9, 64, rfl, rfl, Or.inr (Or.inr (Or.inr ⟨rfl, by decide +kernel⟩))⟩
theorem hd_1 : (qmt 1).1.cls ≠ "java/lang/invoke/MethodHandle" ∧ (qmt 1).1.cls ≠ "java/lang/invoke/VarHandle" ∧ (parseMethodDescriptor (qmt 1).1.desc).map (fun d => d.parameters.length) = some 3 := ⟨by decide +kernel, by decide +kernel, by decide +kernel⟩
theorem hd_2 : (qmt 2).1.cls ≠ "java/lang/invoke/MethodHandle" ∧ (qmt 2).1.cls ≠ "java/lang/invoke/VarHandle" ∧ (parseMethodDescriptor (qmt 2).1.desc).map (fun d => d.parameters.length) = some 1 := ⟨by decide +kernel, by decide +kernel, by decide +kernel⟩
theorem hd_3 : (qmt 3).1.cls ≠ "java/lang/invoke/MethodHandle" ∧ (qmt 3).1.cls ≠ "java/lang/invoke/VarHandle" ∧ (parseMethodDescriptor (qmt 3).1.desc).map (fun d => d.parameters.length) = some 1 := ⟨by decide +kernel, by decide +kernel, by decide +kernel⟩
theorem hd_4 : (qmt 4).1.cls ≠ "java/lang/invoke/MethodHandle" ∧ (qmt 4).1.cls ≠ "java/lang/invoke/VarHandle" ∧ (parseMethodDescriptor (qmt 4).1.desc).map (fun d => d.parameters.length) = some 1 := ⟨by decide +kernel, by decide +kernel, by decide +kernel⟩
theorem hd_6 : (qmt 6).1.cls ≠ "java/lang/invoke/MethodHandle" ∧ (qmt 6).1.cls ≠ "java/lang/invoke/VarHandle" ∧ (parseMethodDescriptor (qmt 6).1.desc).map (fun d => d.parameters.length) = some 1 := ⟨by decide +kernel, by decide +kernel, by decide +kernel⟩
theorem hd_7 : (qmt 7).1.cls ≠ "java/lang/invoke/MethodHandle" ∧ (qmt 7).1.cls ≠ "java/lang/invoke/VarHandle" ∧ (parseMethodDescriptor (qmt 7).1.desc).map (fun d => d.parameters.length) = some 2 := ⟨by decide +kernel, by decide +kernel, by decide +kernel⟩
theorem hd_8 : (qmt 8).1.cls ≠ "java/lang/invoke/MethodHandle" ∧ (qmt 8).1.cls ≠ "java/lang/invoke/VarHandle" ∧ (parseMethodDescriptor (qmt 8).1.desc).map (fun d => d.parameters.length) = some 2 := ⟨by decide +kernel, by decide +kernel, by decide +kernel⟩
theorem hd_9 : (qmt 9).1.cls ≠ "java/lang/invoke/MethodHandle" ∧ (qmt 9).1.cls ≠ "java/lang/invoke/VarHandle" ∧ (parseMethodDescriptor (qmt 9).1.desc).map (fun d => d.parameters.length) = some 3 := ⟨by decide +kernel, by decide +kernel, by decide +kernel⟩
theorem hd_10 : (qmt 10).1.cls ≠ "java/lang/invoke/MethodHandle" ∧ (qmt 10).1.cls ≠ "java/lang/invoke/VarHandle" ∧ (parseMethodDescriptor (qmt 10).1.desc).map (fun d => d.parameters.length) = some 0 := ⟨by decide +kernel, by decide +kernel, by decide +kernel⟩
theorem hd_12 : (qmt 12).1.cls ≠ "java/lang/invoke/MethodHandle" ∧ (qmt 12).1.cls ≠ "java/lang/invoke/VarHandle" ∧ (parseMethodDescriptor (qmt 12).1.desc).map (fun d => d.parameters.length) = some 4 := ⟨by decide +kernel, by decide +kernel, by decide +kernel⟩
theorem hd_13 : (qmt 13).1.cls ≠ "java/lang/invoke/MethodHandle" ∧ (qmt 13).1.cls ≠ "java/lang/invoke/VarHandle" ∧ (parseMethodDescriptor (qmt 13).1.desc).map (fun d => d.parameters.length) = some 3 := ⟨by decide +kernel, by decide +kernel, by decide +kernel⟩
theorem hd_14 : (qmt 14).1.cls ≠ "java/lang/invoke/MethodHandle" ∧ (qmt 14).1.cls ≠ "java/lang/invoke/VarHandle" ∧ (parseMethodDescriptor (qmt 14).1.desc).map (fun d => d.parameters.length) = some 3 := ⟨by decide +kernel, by decide +kernel, by decide +kernel⟩
theorem hd_15 : (qmt 15).1.cls ≠ "java/lang/invoke/MethodHandle" ∧ (qmt 15).1.cls ≠ "java/lang/invoke/VarHandle" ∧ (parseMethodDescriptor (qmt 15).1.desc).map (fun d => d.parameters.length) = some 3 := ⟨by decide +kernel, by decide +kernel, by decide +kernel⟩
theorem hd_16 : (qmt 16).1.cls ≠ "java/lang/invoke/MethodHandle" ∧ (qmt 16).1.cls ≠ "java/lang/invoke/VarHandle" ∧ (parseMethodDescriptor (qmt 16).1.desc).map (fun d => d.parameters.length) = some 3 := ⟨by decide +kernel, by decide +kernel, by decide +kernel⟩
theorem hd_17 : (qmt 17).1.cls ≠ "java/lang/invoke/MethodHandle" ∧ (qmt 17).1.cls ≠ "java/lang/invoke/VarHandle" ∧ (parseMethodDescriptor (qmt 17).1.desc).map (fun d => d.parameters.length) = some 3 := ⟨by decide +kernel, by decide +kernel, by decide +kernel⟩
theorem hd_18 : (qmt 18).1.cls ≠ "java/lang/invoke/MethodHandle" ∧ (qmt 18).1.cls ≠ "java/lang/invoke/VarHandle" ∧ (parseMethodDescriptor (qmt 18).1.desc).map (fun d => d.parameters.length) = some 3 := ⟨by decide +kernel, by decide +kernel, by decide +kernel⟩
theorem hd_19 : (qmt 19).1.cls ≠ "java/lang/invoke/MethodHandle" ∧ (qmt 19).1.cls ≠ "java/lang/invoke/VarHandle" ∧ (parseMethodDescriptor (qmt 19).1.desc).map (fun d => d.parameters.length) = some 4 := ⟨by decide +kernel, by decide +kernel, by decide +kernel⟩
theorem hd_20 : (qmt 20).1.cls ≠ "java/lang/invoke/MethodHandle" ∧ (qmt 20).1.cls ≠ "java/lang/invoke/VarHandle" ∧ (parseMethodDescriptor (qmt 20).1.desc).map (fun d => d.parameters.length) = some 2 := ⟨by decide +kernel, by decide +kernel, by decide +kernel⟩
theorem hd_21 : (qmt 21).1.cls ≠ "java/lang/invoke/MethodHandle" ∧ (qmt 21).1.cls ≠ "java/lang/invoke/VarHandle" ∧ (parseMethodDescriptor (qmt 21).1.desc).map (fun d => d.parameters.length) = some 3 := ⟨by decide +kernel, by decide +kernel, by decide +kernel⟩
theorem hd_23 : (qmt 23).1.cls ≠ "java/lang/invoke/MethodHandle" ∧ (qmt 23).1.cls ≠ "java/lang/invoke/VarHandle" ∧ (parseMethodDescriptor (qmt 23).1.desc).map (fun d => d.parameters.length) = some 4 := ⟨by decide +kernel, by decide +kernel, by decide +kernel⟩
theorem hd_24 : (qmt 24).1.cls ≠ "java/lang/invoke/MethodHandle" ∧ (qmt 24).1.cls ≠ "java/lang/invoke/VarHandle" ∧ (parseMethodDescriptor (qmt 24).1.desc).map (fun d => d.parameters.length) = some 2 := ⟨by decide +kernel, by decide +kernel, by decide +kernel⟩
theorem hd_25 : (qmt 25).1.cls ≠ "java/lang/invoke/MethodHandle" ∧ (qmt 25).1.cls ≠ "java/lang/invoke/VarHandle" ∧ (parseMethodDescriptor (qmt 25).1.desc).map (fun d => d.parameters.length) = some 2 := ⟨by decide +kernel, by decide +kernel, by decide +kernel⟩
theorem hd_26 : (qmt 26).1.cls ≠ "java/lang/invoke/MethodHandle" ∧ (qmt 26).1.cls ≠ "java/lang/invoke/VarHandle" ∧ (parseMethodDescriptor (qmt 26).1.desc).map (fun d => d.parameters.length) = some 2 := ⟨by decide +kernel, by decide +kernel, by decide +kernel⟩
theorem hd_27 : (qmt 27).1.cls ≠ "java/lang/invoke/MethodHandle" ∧ (qmt 27).1.cls ≠ "java/lang/invoke/VarHandle" ∧ (parseMethodDescriptor (qmt 27).1.desc).map (fun d => d.parameters.length) = some 1 := ⟨by decide +kernel, by decide +kernel, by decide +kernel⟩
theorem hd_28 : (qmt 28).1.cls ≠ "java/lang/invoke/MethodHandle" ∧ (qmt 28).1.cls ≠ "java/lang/invoke/VarHandle" ∧ (parseMethodDescriptor (qmt 28).1.desc).map (fun d => d.parameters.length) = some 2 := ⟨by decide +kernel, by decide +kernel, by decide +kernel⟩
theorem hd_29 : (qmt 29).1.cls ≠ "java/lang/invoke/MethodHandle" ∧ (qmt 29).1.cls ≠ "java/lang/invoke/VarHandle" ∧ (parseMethodDescriptor (qmt 29).1.desc).map (fun d => d.parameters.length) = some 3 := ⟨by decide +kernel, by decide +kernel, by decide +kernel⟩
theorem hd_30 : (qmt 30).1.cls ≠ "java/lang/invoke/MethodHandle" ∧ (qmt 30).1.cls ≠ "java/lang/invoke/VarHandle" ∧ (parseMethodDescriptor (qmt 30).1.desc).map (fun d => d.parameters.length) = some 3 := ⟨by decide +kernel, by decide +kernel, by decide +kernel⟩
theorem hd_32 : (qmt 32).1.cls ≠ "java/lang/invoke/MethodHandle" ∧ (qmt 32).1.cls ≠ "java/lang/invoke/VarHandle" ∧ (parseMethodDescriptor (qmt 32).1.desc).map (fun d => d.parameters.length) = some 1 := ⟨by decide +kernel, by decide +kernel, by decide +kernel⟩
theorem hd_33 : (qmt 33).1.cls ≠ "java/lang/invoke/MethodHandle" ∧ (qmt 33).1.cls ≠ "java/lang/invoke/VarHandle" ∧ (parseMethodDescriptor (qmt 33).1.desc).map (fun d => d.parameters.length) = some 0 := ⟨by decide +kernel, by decide +kernel, by decide +kernel⟩
theorem hd_34 : (qmt 34).1.cls ≠ "java/lang/invoke/MethodHandle" ∧ (qmt 34).1.cls ≠ "java/lang/invoke/VarHandle" ∧ (parseMethodDescriptor (qmt 34).1.desc).map (fun d => d.parameters.length) = some 0 := ⟨by decide +kernel, by decide +kernel, by decide +kernel⟩
theorem hd_35 : (qmt 35).1.cls ≠ "java/lang/invoke/MethodHandle" ∧ (qmt 35).1.cls ≠ "java/lang/invoke/VarHandle" ∧ (parseMethodDescriptor (qmt 35).1.desc).map (fun d => d.parameters.length) = some 2 := ⟨by decide +kernel, by decide +kernel, by decide +kernel⟩
theorem hd_36 : (qmt 36).1.cls ≠ "java/lang/invoke/MethodHandle" ∧ (qmt 36).1.cls ≠ "java/lang/invoke/VarHandle" ∧ (parseMethodDescriptor (qmt 36).1.desc).map (fun d => d.parameters.length) = some 0 := ⟨by decide +kernel, by decide +kernel, by decide +kernel⟩
theorem hd_37 : (qmt 37).1.cls ≠ "java/lang/invoke/MethodHandle" ∧ (qmt 37).1.cls ≠ "java/lang/invoke/VarHandle" ∧ (parseMethodDescriptor (qmt 37).1.desc).map (fun d => d.parameters.length) = some 0 := ⟨by decide +kernel, by decide +kernel, by decide +kernel⟩
theorem hd_38 : (qmt 38).1.cls ≠ "java/lang/invoke/MethodHandle" ∧ (qmt 38).1.cls ≠ "java/lang/invoke/VarHandle" ∧ (parseMethodDescriptor (qmt 38).1.desc).map (fun d => d.parameters.length) = some 0 := ⟨by decide +kernel, by decide +kernel, by decide +kernel⟩
theorem hd_39 : (qmt 39).1.cls ≠ "java/lang/invoke/MethodHandle" ∧ (qmt 39).1.cls ≠ "java/lang/invoke/VarHandle" ∧ (parseMethodDescriptor (qmt 39).1.desc).map (fun d => d.parameters.length) = some 2 := ⟨by decide +kernel, by decide +kernel, by decide +kernel⟩
theorem hd_40 : (qmt 40).1.cls ≠ "java/lang/invoke/MethodHandle" ∧ (qmt 40).1.cls ≠ "java/lang/invoke/VarHandle" ∧ (parseMethodDescriptor (qmt 40).1.desc).map (fun d => d.parameters.length) = some 1 := ⟨by decide +kernel, by decide +kernel, by decide +kernel⟩
theorem hd_41 : (qmt 41).1.cls ≠ "java/lang/invoke/MethodHandle" ∧ (qmt 41).1.cls ≠ "java/lang/invoke/VarHandle" ∧ (parseMethodDescriptor (qmt 41).1.desc).map (fun d => d.parameters.length) = some 1 := ⟨by decide +kernel, by decide +kernel, by decide +kernel⟩
theorem hd_42 : (qmt 42).1.cls ≠ "java/lang/invoke/MethodHandle" ∧ (qmt 42).1.cls ≠ "java/lang/invoke/VarHandle" ∧ (parseMethodDescriptor (qmt 42).1.desc).map (fun d => d.parameters.length) = some 1 := ⟨by decide +kernel, by decide +kernel, by decide +kernel⟩
theorem hd_43 : (qmt 43).1.cls ≠ "java/lang/invoke/MethodHandle" ∧ (qmt 43).1.cls ≠ "java/lang/invoke/VarHandle" ∧ (parseMethodDescriptor (qmt 43).1.desc).map (fun d => d.parameters.length) = some 1 := ⟨by decide +kernel, by decide +kernel, by decide +kernel⟩
theorem hd_45 : (qmt 45).1.cls ≠ "java/lang/invoke/MethodHandle" ∧ (qmt 45).1.cls ≠ "java/lang/invoke/VarHandle" ∧ (parseMethodDescriptor (qmt 45).1.desc).map (fun d => d.parameters.length) = some 0 := ⟨by decide +kernel, by decide +kernel, by decide +kernel⟩
theorem hd_46 : (qmt 46).1.cls ≠ "java/lang/invoke/MethodHandle" ∧ (qmt 46).1.cls ≠ "java/lang/invoke/VarHandle" ∧ (parseMethodDescriptor (qmt 46).1.desc).map (fun d => d.parameters.length) = some 3 := ⟨by decide +kernel, by decide +kernel, by decide +kernel⟩
theorem hd_47 : (qmt 47).1.cls ≠ "java/lang/invoke/MethodHandle" ∧ (qmt 47).1.cls ≠ "java/lang/invoke/VarHandle" ∧ (parseMethodDescriptor (qmt 47).1.desc).map (fun d => d.parameters.length) = some 2 := ⟨by decide +kernel, by decide +kernel, by decide +kernel⟩
theorem hd_48 : (qmt 48).1.cls ≠ "java/lang/invoke/MethodHandle" ∧ (qmt 48).1.cls ≠ "java/lang/invoke/VarHandle" ∧ (parseMethodDescriptor (qmt 48).1.desc).map (fun d => d.parameters.length) = some 2 := ⟨by decide +kernel, by decide +kernel, by decide +kernel⟩
theorem hd_49 : (qmt 49).1.cls ≠ "java/lang/invoke/MethodHandle" ∧ (qmt 49).1.cls ≠ "java/lang/invoke/VarHandle" ∧ (parseMethodDescriptor (qmt 49).1.desc).map (fun d => d.parameters.length) = some 3 := ⟨by decide +kernel, by decide +kernel, by decide +kernel⟩
theorem hd_50 : (qmt 50).1.cls ≠ "java/lang/invoke/MethodHandle" ∧ (qmt 50).1.cls ≠ "java/lang/invoke/VarHandle" ∧ (parseMethodDescriptor (qmt 50).1.desc).map (fun d => d.parameters.length) = some 1 := ⟨by decide +kernel, by decide +kernel, by decide +kernel⟩
theorem hd_51 : (qmt 51).1.cls ≠ "java/lang/invoke/MethodHandle" ∧ (qmt 51).1.cls ≠ "java/lang/invoke/VarHandle" ∧ (parseMethodDescriptor (qmt 51).1.desc).map (fun d => d.parameters.length) = some 0 := ⟨by decide +kernel, by decide +kernel, by decide +kernel⟩
theorem hd_52 : (qmt 52).1.cls ≠ "java/lang/invoke/MethodHandle" ∧ (qmt 52).1.cls ≠ "java/lang/invoke/VarHandle" ∧ (parseMethodDescriptor (qmt 52).1.desc).map (fun d => d.parameters.length) = some 0 := ⟨by decide +kernel, by decide +kernel, by decide +kernel⟩
theorem hd_53 : (qmt 53).1.cls ≠ "java/lang/invoke/MethodHandle" ∧ (qmt 53).1.cls ≠ "java/lang/invoke/VarHandle" ∧ (parseMethodDescriptor (qmt 53).1.desc).map (fun d => d.parameters.length) = some 2 := ⟨by decide +kernel, by decide +kernel, by decide +kernel⟩
theorem hd_54 : (qmt 54).1.cls ≠ "java/lang/invoke/MethodHandle" ∧ (qmt 54).1.cls ≠ "java/lang/invoke/VarHandle" ∧ (parseMethodDescriptor (qmt 54).1.desc).map (fun d => d.parameters.length) = some 2 := ⟨by decide +kernel, by decide +kernel, by decide +kernel⟩
theorem hd_56 : (qmt 56).1.cls ≠ "java/lang/invoke/MethodHandle" ∧ (qmt 56).1.cls ≠ "java/lang/invoke/VarHandle" ∧ (parseMethodDescriptor (qmt 56).1.desc).map (fun d => d.parameters.length) = some 1 := ⟨by decide +kernel, by decide +kernel, by decide +kernel⟩
theorem hd_57 : (qmt 57).1.cls ≠ "java/lang/invoke/MethodHandle" ∧ (qmt 57).1.cls ≠ "java/lang/invoke/VarHandle" ∧ (parseMethodDescriptor (qmt 57).1.desc).map (fun d => d.parameters.length) = some 1 := ⟨by decide +kernel, by decide +kernel, by decide +kernel⟩
theorem hd_59 : (qmt 59).1.cls ≠ "java/lang/invoke/MethodHandle" ∧ (qmt 59).1.cls ≠ "java/lang/invoke/VarHandle" ∧ (parseMethodDescriptor (qmt 59).1.desc).map (fun d => d.parameters.length) = some 0 := ⟨by decide +kernel, by decide +kernel, by decide +kernel⟩
theorem hd_60 : (qmt 60).1.cls ≠ "java/lang/invoke/MethodHandle" ∧ (qmt 60).1.cls ≠ "java/lang/invoke/VarHandle" ∧ (parseMethodDescriptor (qmt 60).1.desc).map (fun d => d.parameters.length) = some 0 := ⟨by decide +kernel, by decide +kernel, by decide +kernel⟩
theorem hd_61 : (qmt 61).1.cls ≠ "java/lang/invoke/MethodHandle" ∧ (qmt 61).1.cls ≠ "java/lang/invoke/VarHandle" ∧ (parseMethodDescriptor (qmt 61).1.desc).map (fun d => d.parameters.length) = some 1 := ⟨by decide +kernel, by decide +kernel, by decide +kernel⟩
theorem hd_62 : (qmt 62).1.cls ≠ "java/lang/invoke/MethodHandle" ∧ (qmt 62).1.cls ≠ "java/lang/invoke/VarHandle" ∧ (parseMethodDescriptor (qmt 62).1.desc).map (fun d => d.parameters.length) = some 0 := ⟨by decide +kernel, by decide +kernel, by decide +kernel⟩
theorem hd_63 : (qmt 63).1.cls ≠ "java/lang/invoke/MethodHandle" ∧ (qmt 63).1.cls ≠ "java/lang/invoke/VarHandle" ∧ (parseMethodDescriptor (qmt 63).1.desc).map (fun d => d.parameters.length) = some 1 := ⟨by decide +kernel, by decide +kernel, by decide +kernel⟩
theorem hd_64 : (qmt 64).1.cls ≠ "java/lang/invoke/MethodHandle" ∧ (qmt 64).1.cls ≠ "java/lang/invoke/VarHandle" ∧ (parseMethodDescriptor (qmt 64).1.desc).map (fun d => d.parameters.length) = some 1 := ⟨by decide +kernel, by decide +kernel, by decide +kernel⟩
theorem hd_65 : (qmt 65).1.cls ≠ "java/lang/invoke/MethodHandle" ∧ (qmt 65).1.cls ≠ "java/lang/invoke/VarHandle" ∧ (parseMethodDescriptor (qmt 65).1.desc).map (fun d => d.parameters.length) = some 2 := ⟨by decide +kernel, by decide +kernel, by decide +kernel⟩
theorem hd_66 : (qmt 66).1.cls ≠ "java/lang/invoke/MethodHandle" ∧ (qmt 66).1.cls ≠ "java/lang/invoke/VarHandle" ∧ (parseMethodDescriptor (qmt 66).1.desc).map (fun d => d.parameters.length) = some 1 := ⟨by decide +kernel, by decide +kernel, by decide +kernel⟩
theorem hd_87 : (qmt 87).1.cls ≠ "java/lang/invoke/MethodHandle" ∧ (qmt 87).1.cls ≠ "java/lang/invoke/VarHandle" ∧ (parseMethodDescriptor (qmt 87).1.desc).map (fun d => d.parameters.length) = some 1 := ⟨by decide +kernel, by decide +kernel, by decide +kernel⟩
theorem hd_88 : (qmt 88).1.cls ≠ "java/lang/invoke/MethodHandle" ∧ (qmt 88).1.cls ≠ "java/lang/invoke/VarHandle" ∧ (parseMethodDescriptor (qmt 88).1.desc).map (fun d => d.parameters.length) = some 1 := ⟨by decide +kernel, by decide +kernel, by decide +kernel⟩
theorem hd_89 : (qmt 89).1.cls ≠ "java/lang/invoke/MethodHandle" ∧ (qmt 89).1.cls ≠ "java/lang/invoke/VarHandle" ∧ (parseMethodDescriptor (qmt 89).1.desc).map (fun d => d.parameters.length) = some 1 := ⟨by decide +kernel, by decide +kernel, by decide +kernel⟩
theorem hd_90 : (qmt 90).1.cls ≠ "java/lang/invoke/MethodHandle" ∧ (qmt 90).1.cls ≠ "java/lang/invoke/VarHandle" ∧ (parseMethodDescriptor (qmt 90).1.desc).map (fun d => d.parameters.length) = some 1 := ⟨by decide +kernel, by decide +kernel, by decide +kernel⟩
theorem hd_91 : (qmt 91).1.cls ≠ "java/lang/invoke/MethodHandle" ∧ (qmt 91).1.cls ≠ "java/lang/invoke/VarHandle" ∧ (parseMethodDescriptor (qmt 91).1.desc).map (fun d => d.parameters.length) = some 4 := ⟨by decide +kernel, by decide +kernel, by decide +kernel⟩
theorem hd_92 : (qmt 92).1.cls ≠ "java/lang/invoke/MethodHandle" ∧ (qmt 92).1.cls ≠ "java/lang/invoke/VarHandle" ∧ (parseMethodDescriptor (qmt 92).1.desc).map (fun d => d.parameters.length) = some 0 := ⟨by decide +kernel, by decide +kernel, by decide +kernel⟩
theorem hd_93 : (qmt 93).1.cls ≠ "java/lang/invoke/MethodHandle" ∧ (qmt 93).1.cls ≠ "java/lang/invoke/VarHandle" ∧ (parseMethodDescriptor (qmt 93).1.desc).map (fun d => d.parameters.length) = some 0 := ⟨by decide +kernel, by decide +kernel, by decide +kernel⟩
theorem hd_94 : (qmt 94).1.cls ≠ "java/lang/invoke/MethodHandle" ∧ (qmt 94).1.cls ≠ "java/lang/invoke/VarHandle" ∧ (parseMethodDescriptor (qmt 94).1.desc).map (fun d => d.parameters.length) = some 2 := ⟨by decide +kernel, by decide +kernel, by decide +kernel⟩
theorem hd_95 : (qmt 95).1.cls ≠ "java/lang/invoke/MethodHandle" ∧ (qmt 95).1.cls ≠ "java/lang/invoke/VarHandle" ∧ (parseMethodDescriptor (qmt 95).1.desc).map (fun d => d.parameters.length) = some 2 := ⟨by decide +kernel, by decide +kernel, by decide +kernel⟩
theorem hd_96 : (qmt 96).1.cls ≠ "java/lang/invoke/MethodHandle" ∧ (qmt 96).1.cls ≠ "java/lang/invoke/VarHandle" ∧ (parseMethodDescriptor (qmt 96).1.desc).map (fun d => d.parameters.length) = some 2 := ⟨by decide +kernel, by decide +kernel, by decide +kernel⟩
theorem hd_97 : (qmt 97).1.cls ≠ "java/lang/invoke/MethodHandle" ∧ (qmt 97).1.cls ≠ "java/lang/invoke/VarHandle" ∧ (parseMethodDescriptor (qmt 97).1.desc).map (fun d => d.parameters.length) = some 3 := ⟨by decide +kernel, by decide +kernel, by decide +kernel⟩
theorem hd_98 : (qmt 98).1.cls ≠ "java/lang/invoke/MethodHandle" ∧ (qmt 98).1.cls ≠ "java/lang/invoke/VarHandle" ∧ (parseMethodDescriptor (qmt 98).1.desc).map (fun d => d.parameters.length) = some 3 := ⟨by decide +kernel, by decide +kernel, by decide +kernel⟩
theorem hd_99 : (qmt 99).1.cls ≠ "java/lang/invoke/MethodHandle" ∧ (qmt 99).1.cls ≠ "java/lang/invoke/VarHandle" ∧ (parseMethodDescriptor (qmt 99).1.desc).map (fun d => d.parameters.length) = some 2 := ⟨by decide +kernel, by decide +kernel, by decide +kernel⟩
theorem hd_100 : (qmt 100).1.cls ≠ "java/lang/invoke/MethodHandle" ∧ (qmt 100).1.cls ≠ "java/lang/invoke/VarHandle" ∧ (parseMethodDescriptor (qmt 100).1.desc).map (fun d => d.parameters.length) = some 1 := ⟨by decide +kernel, by decide +kernel, by decide +kernel⟩
theorem hd_101 : (qmt 101).1.cls ≠ "java/lang/invoke/MethodHandle" ∧ (qmt 101).1.cls ≠ "java/lang/invoke/VarHandle" ∧ (parseMethodDescriptor (qmt 101).1.desc).map (fun d => d.parameters.length) = some 6 := ⟨by decide +kernel, by decide +kernel, by decide +kernel⟩
theorem hd_102 : (qmt 102).1.cls ≠ "java/lang/invoke/MethodHandle" ∧ (qmt 102).1.cls ≠ "java/lang/invoke/VarHandle" ∧ (parseMethodDescriptor (qmt 102).1.desc).map (fun d => d.parameters.length) = some 3 := ⟨by decide +kernel, by decide +kernel, by decide +kernel⟩
theorem hd_103 : (qmt 103).1.cls ≠ "java/lang/invoke/MethodHandle" ∧ (qmt 103).1.cls ≠ "java/lang/invoke/VarHandle" ∧ (parseMethodDescriptor (qmt 103).1.desc).map (fun d => d.parameters.length) = some 2 := ⟨by decide +kernel, by decide +kernel, by decide +kernel⟩
theorem hd_104 : (qmt 104).1.cls ≠ "java/lang/invoke/MethodHandle" ∧ (qmt 104).1.cls ≠ "java/lang/invoke/VarHandle" ∧ (parseMethodDescriptor (qmt 104).1.desc).map (fun d => d.parameters.length) = some 2 := ⟨by decide +kernel, by decide +kernel, by decide +kernel⟩
theorem hd_105 : (qmt 105).1.cls ≠ "java/lang/invoke/MethodHandle" ∧ (qmt 105).1.cls ≠ "java/lang/invoke/VarHandle" ∧ (parseMethodDescriptor (qmt 105).1.desc).map (fun d => d.parameters.length) = some 1 := ⟨by decide +kernel, by decide +kernel, by decide +kernel⟩
theorem hd_107 : (qmt 107).1.cls ≠ "java/lang/invoke/MethodHandle" ∧ (qmt 107).1.cls ≠ "java/lang/invoke/VarHandle" ∧ (parseMethodDescriptor (qmt 107).1.desc).map (fun d => d.parameters.length) = some 3 := ⟨by decide +kernel, by decide +kernel, by decide +kernel⟩
theorem hd_108 : (qmt 108).1.cls ≠ "java/lang/invoke/MethodHandle" ∧ (qmt 108).1.cls ≠ "java/lang/invoke/VarHandle" ∧ (parseMethodDescriptor (qmt 108).1.desc).map (fun d => d.parameters.length) = some 1 := ⟨by decide +kernel, by decide +kernel, by decide +kernel⟩
theorem hd_110 : (qmt 110).1.cls ≠ "java/lang/invoke/MethodHandle" ∧ (qmt 110).1.cls ≠ "java/lang/invoke/VarHandle" ∧ (parseMethodDescriptor (qmt 110).1.desc).map (fun d => d.parameters.length) = some 1 := ⟨by decide +kernel, by decide +kernel, by decide +kernel⟩
theorem hd_111 : (qmt 111).1.cls ≠ "java/lang/invoke/MethodHandle" ∧ (qmt 111).1.cls ≠ "java/lang/invoke/VarHandle" ∧ (parseMethodDescriptor (qmt 111).1.desc).map (fun d => d.parameters.length) = some 2 := ⟨by decide +kernel, by decide +kernel, by decide +kernel⟩
theorem hd_112 : (qmt 112).1.cls ≠ "java/lang/invoke/MethodHandle" ∧ (qmt 112).1.cls ≠ "java/lang/invoke/VarHandle" ∧ (parseMethodDescriptor (qmt 112).1.desc).map (fun d => d.parameters.length) = some 2 := ⟨by decide +kernel, by decide +kernel, by decide +kernel⟩
theorem hd_113 : (qmt 113).1.cls ≠ "java/lang/invoke/MethodHandle" ∧ (qmt 113).1.cls ≠ "java/lang/invoke/VarHandle" ∧ (parseMethodDescriptor (qmt 113).1.desc).map (fun d => d.parameters.length) = some 1 := ⟨by decide +kernel, by decide +kernel, by decide +kernel⟩
theorem hd_114 : (qmt 114).1.cls ≠ "java/lang/invoke/MethodHandle" ∧ (qmt 114).1.cls ≠ "java/lang/invoke/VarHandle" ∧ (parseMethodDescriptor (qmt 114).1.desc).map (fun d => d.parameters.length) = some 1 := ⟨by decide +kernel, by decide +kernel, by decide +kernel⟩
theorem hd_115 : (qmt 115).1.cls ≠ "java/lang/invoke/MethodHandle" ∧ (qmt 115).1.cls ≠ "java/lang/invoke/VarHandle" ∧ (parseMethodDescriptor (qmt 115).1.desc).map (fun d => d.parameters.length) = some 2 := ⟨by decide +kernel, by decide +kernel, by decide +kernel⟩
theorem hd_116 : (qmt 116).1.cls ≠ "java/lang/invoke/MethodHandle" ∧ (qmt 116).1.cls ≠ "java/lang/invoke/VarHandle" ∧ (parseMethodDescriptor (qmt 116).1.desc).map (fun d => d.parameters.length) = some 2 := ⟨by decide +kernel, by decide +kernel, by decide +kernel⟩
theorem hd_117 : (qmt 117).1.cls ≠ "java/lang/invoke/MethodHandle" ∧ (qmt 117).1.cls ≠ "java/lang/invoke/VarHandle" ∧ (parseMethodDescriptor (qmt 117).1.desc).map (fun d => d.parameters.length) = some 2 := ⟨by decide +kernel, by decide +kernel, by decide +kernel⟩
theorem hd_118 : (qmt 118).1.cls ≠ "java/lang/invoke/MethodHandle" ∧ (qmt 118).1.cls ≠ "java/lang/invoke/VarHandle" ∧ (parseMethodDescriptor (qmt 118).1.desc).map (fun d => d.parameters.length) = some 1 := ⟨by decide +kernel, by decide +kernel, by decide +kernel⟩
theorem hd_120 : (qmt 120).1.cls ≠ "java/lang/invoke/MethodHandle" ∧ (qmt 120).1.cls ≠ "java/lang/invoke/VarHandle" ∧ (parseMethodDescriptor (qmt 120).1.desc).map (fun d => d.parameters.length) = some 4 := ⟨by decide +kernel, by decide +kernel, by decide +kernel⟩
theorem hd_121 : (qmt 121).1.cls ≠ "java/lang/invoke/MethodHandle" ∧ (qmt 121).1.cls ≠ "java/lang/invoke/VarHandle" ∧ (parseMethodDescriptor (qmt 121).1.desc).map (fun d => d.parameters.length) = some 0 := ⟨by decide +kernel, by decide +kernel, by decide +kernel⟩
theorem hd_122 : (qmt 122).1.cls ≠ "java/lang/invoke/MethodHandle" ∧ (qmt 122).1.cls ≠ "java/lang/invoke/VarHandle" ∧ (parseMethodDescriptor (qmt 122).1.desc).map (fun d => d.parameters.length) = some 0 := ⟨by decide +kernel, by decide +kernel, by decide +kernel⟩
theorem hd_123 : (qmt 123).1.cls ≠ "java/lang/invoke/MethodHandle" ∧ (qmt 123).1.cls ≠ "java/lang/invoke/VarHandle" ∧ (parseMethodDescriptor (qmt 123).1.desc).map (fun d => d.parameters.length) = some 0 := ⟨by decide +kernel, by decide +kernel, by decide +kernel⟩
theorem hd_127 : (qmt 127).1.cls ≠ "java/lang/invoke/MethodHandle" ∧ (qmt 127).1.cls ≠ "java/lang/invoke/VarHandle" ∧ (parseMethodDescriptor (qmt 127).1.desc).map (fun d => d.parameters.length) = some 3 := ⟨by decide +kernel, by decide +kernel, by decide +kernel⟩
theorem hd_130 : (qmt 130).1.cls ≠ "java/lang/invoke/MethodHandle" ∧ (qmt 130).1.cls ≠ "java/lang/invoke/VarHandle" ∧ (parseMethodDescriptor (qmt 130).1.desc).map (fun d => d.parameters.length) = some 1 := ⟨by decide +kernel, by decide +kernel, by decide +kernel⟩
theorem hd_132 : (qmt 132).1.cls ≠ "java/lang/invoke/MethodHandle" ∧ (qmt 132).1.cls ≠ "java/lang/invoke/VarHandle" ∧ (parseMethodDescriptor (qmt 132).1.desc).map (fun d => d.parameters.length) = some 1 := ⟨by decide +kernel, by decide +kernel, by decide +kernel⟩
theorem hd_133 : (qmt 133).1.cls ≠ "java/lang/invoke/MethodHandle" ∧ (qmt 133).1.cls ≠ "java/lang/invoke/VarHandle" ∧ (parseMethodDescriptor (qmt 133).1.desc).map (fun d => d.parameters.length) = some 1 := ⟨by decide +kernel, by decide +kernel, by decide +kernel⟩
theorem hd_134 : (qmt 134).1.cls ≠ "java/lang/invoke/MethodHandle" ∧ (qmt 134).1.cls ≠ "java/lang/invoke/VarHandle" ∧ (parseMethodDescriptor (qmt 134).1.desc).map (fun d => d.parameters.length) = some 2 := ⟨by decide +kernel, by decide +kernel, by decide +kernel⟩
theorem hd_135 : (qmt 135).1.cls ≠ "java/lang/invoke/MethodHandle" ∧ (qmt 135).1.cls ≠ "java/lang/invoke/VarHandle" ∧ (parseMethodDescriptor (qmt 135).1.desc).map (fun d => d.parameters.length) = some 1 := ⟨by decide +kernel, by decide +kernel, by decide +kernel⟩
theorem hd_139 : (qmt 139).1.cls ≠ "java/lang/invoke/MethodHandle" ∧ (qmt 139).1.cls ≠ "java/lang/invoke/VarHandle" ∧ (parseMethodDescriptor (qmt 139).1.desc).map (fun d => d.parameters.length) = some 2 := ⟨by decide +kernel, by decide +kernel, by decide +kernel⟩
theorem hd_140 : (qmt 140).1.cls ≠ "java/lang/invoke/MethodHandle" ∧ (qmt 140).1.cls ≠ "java/lang/invoke/VarHandle" ∧ (parseMethodDescriptor (qmt 140).1.desc).map (fun d => d.parameters.length) = some 0 := ⟨by decide +kernel, by decide +kernel, by decide +kernel⟩
theorem hd_143 : (qmt 143).1.cls ≠ "java/lang/invoke/MethodHandle" ∧ (qmt 143).1.cls ≠ "java/lang/invoke/VarHandle" ∧ (parseMethodDescriptor (qmt 143).1.desc).map (fun d => d.parameters.length) = some 1 := ⟨by decide +kernel, by decide +kernel, by decide +kernel⟩
theorem hd_146 : (qmt 146).1.cls ≠ "java/lang/invoke/MethodHandle" ∧ (qmt 146).1.cls ≠ "java/lang/invoke/VarHandle" ∧ (parseMethodDescriptor (qmt 146).1.desc).map (fun d => d.parameters.length) = some 1 := ⟨by decide +kernel, by decide +kernel, by decide +kernel⟩
theorem hd_147 : (qmt 147).1.cls ≠ "java/lang/invoke/MethodHandle" ∧ (qmt 147).1.cls ≠ "java/lang/invoke/VarHandle" ∧ (parseMethodDescriptor (qmt 147).1.desc).map (fun d => d.parameters.length) = some 1 := ⟨by decide +kernel, by decide +kernel, by decide +kernel⟩
theorem hd_148 : (qmt 148).1.cls ≠ "java/lang/invoke/MethodHandle" ∧ (qmt 148).1.cls ≠ "java/lang/invoke/VarHandle" ∧ (parseMethodDescriptor (qmt 148).1.desc).map (fun d => d.parameters.length) = some 0 := ⟨by decide +kernel, by decide +kernel, by decide +kernel⟩
theorem hd_149 : (qmt 149).1.cls ≠ "java/lang/invoke/MethodHandle" ∧ (qmt 149).1.cls ≠ "java/lang/invoke/VarHandle" ∧ (parseMethodDescriptor (qmt 149).1.desc).map (fun d => d.parameters.length) = some 6 := ⟨by decide +kernel, by decide +kernel, by decide +kernel⟩
theorem hd_150 : (qmt 150).1.cls ≠ "java/lang/invoke/MethodHandle" ∧ (qmt 150).1.cls ≠ "java/lang/invoke/VarHandle" ∧ (parseMethodDescriptor (qmt 150).1.desc).map (fun d => d.parameters.length) = some 1 := ⟨by decide +kernel, by decide +kernel, by decide +kernel⟩
theorem hd_151 : (qmt 151).1.cls ≠ "java/lang/invoke/MethodHandle" ∧ (qmt 151).1.cls ≠ "java/lang/invoke/VarHandle" ∧ (parseMethodDescriptor (qmt 151).1.desc).map (fun d => d.parameters.length) = some 1 := ⟨by decide +kernel, by decide +kernel, by decide +kernel⟩
theorem hd_152 : (qmt 152).1.cls ≠ "java/lang/invoke/MethodHandle" ∧ (qmt 152).1.cls ≠ "java/lang/invoke/VarHandle" ∧ (parseMethodDescriptor (qmt 152).1.desc).map (fun d => d.parameters.length) = some 1 := ⟨by decide +kernel, by decide +kernel, by decide +kernel⟩
theorem hd_153 : (qmt 153).1.cls ≠ "java/lang/invoke/MethodHandle" ∧ (qmt 153).1.cls ≠ "java/lang/invoke/VarHandle" ∧ (parseMethodDescriptor (qmt 153).1.desc).map (fun d => d.parameters.length) = some 2 := ⟨by decide +kernel, by decide +kernel, by decide +kernel⟩
theorem hd_154 : (qmt 154).1.cls ≠ "java/lang/invoke/MethodHandle" ∧ (qmt 154).1.cls ≠ "java/lang/invoke/VarHandle" ∧ (parseMethodDescriptor (qmt 154).1.desc).map (fun d => d.parameters.length) = some 1 := ⟨by decide +kernel, by decide +kernel, by decide +kernel⟩
theorem hd_155 : (qmt 155).1.cls ≠ "java/lang/invoke/MethodHandle" ∧ (qmt 155).1.cls ≠ "java/lang/invoke/VarHandle" ∧ (parseMethodDescriptor (qmt 155).1.desc).map (fun d => d.parameters.length) = some 0 := ⟨by decide +kernel, by decide +kernel, by decide +kernel⟩
theorem hd_156 : (qmt 156).1.cls ≠ "java/lang/invoke/MethodHandle" ∧ (qmt 156).1.cls ≠ "java/lang/invoke/VarHandle" ∧ (parseMethodDescriptor (qmt 156).1.desc).map (fun d => d.parameters.length) = some 1 := ⟨by decide +kernel, by decide +kernel, by decide +kernel⟩
theorem hd_157 : (qmt 157).1.cls ≠ "java/lang/invoke/MethodHandle" ∧ (qmt 157).1.cls ≠ "java/lang/invoke/VarHandle" ∧ (parseMethodDescriptor (qmt 157).1.desc).map (fun d => d.parameters.length) = some 0 := ⟨by decide +kernel, by decide +kernel, by decide +kernel⟩
theorem hd_158 : (qmt 158).1.cls ≠ "java/lang/invoke/MethodHandle" ∧ (qmt 158).1.cls ≠ "java/lang/invoke/VarHandle" ∧ (parseMethodDescriptor (qmt 158).1.desc).map (fun d => d.parameters.length) = some 0 := ⟨by decide +kernel, by decide +kernel, by decide +kernel⟩
theorem hd_159 : (qmt 159).1.cls ≠ "java/lang/invoke/MethodHandle" ∧ (qmt 159).1.cls ≠ "java/lang/invoke/VarHandle" ∧ (parseMethodDescriptor (qmt 159).1.desc).map (fun d => d.parameters.length) = some 0 := ⟨by decide +kernel, by decide +kernel, by decide +kernel⟩
theorem hd_160 : (qmt 160).1.cls ≠ "java/lang/invoke/MethodHandle" ∧ (qmt 160).1.cls ≠ "java/lang/invoke/VarHandle" ∧ (parseMethodDescriptor (qmt 160).1.desc).map (fun d => d.parameters.length) = some 0 := ⟨by decide +kernel, by decide +kernel, by decide +kernel⟩
theorem hd_162 : (qmt 162).1.cls ≠ "java/lang/invoke/MethodHandle" ∧ (qmt 162).1.cls ≠ "java/lang/invoke/VarHandle" ∧ (parseMethodDescriptor (qmt 162).1.desc).map (fun d => d.parameters.length) = some 0 := ⟨by decide +kernel, by decide +kernel, by decide +kernel⟩
theorem hd_166 : (qmt 166).1.cls ≠ "java/lang/invoke/MethodHandle" ∧ (qmt 166).1.cls ≠ "java/lang/invoke/VarHandle" ∧ (parseMethodDescriptor (qmt 166).1.desc).map (fun d => d.parameters.length) = some 1 := ⟨by decide +kernel, by decide +kernel, by decide +kernel⟩
theorem hd_171 : (qmt 171).1.cls ≠ "java/lang/invoke/MethodHandle" ∧ (qmt 171).1.cls ≠ "java/lang/invoke/VarHandle" ∧ (parseMethodDescriptor (qmt 171).1.desc).map (fun d => d.parameters.length) = some 0 := ⟨by decide +kernel, by decide +kernel, by decide +kernel⟩
theorem hd_172 : (qmt 172).1.cls ≠ "java/lang/invoke/MethodHandle" ∧ (qmt 172).1.cls ≠ "java/lang/invoke/VarHandle" ∧ (parseMethodDescriptor (qmt 172).1.desc).map (fun d => d.parameters.length) = some 1 := ⟨by decide +kernel, by decide +kernel, by decide +kernel⟩
