/-! The tables held against the code and the words of the claim. -/
abbrev xN : Type := MethodName × ByteArray × Nat × Option FieldType × List Nat × List Nat
def xinfo : List xN := [(yX0_init, cX0_init, 1, none, [0], [2178, 1035, 2177, 0]),
  (yX0_readFrom, cX0_readFrom, 4, (some .int), [0, 14, 30, 41, 47], [5165, 1035, 5163, 5164]),
  (yX0_readLine, cX0_readLine, 7, (some .boolean), [0, 29, 44, 79, 101, 132], [5170, 1035, 5169, 25]),
  (yX0_live, cX0_live, 5, (some .int), [0, 7, 37, 38, 46], [5180, 1035, 5178, 5179]),
  (yX0_tell, cX0_tell, 2, none, [0], [5191, 1035, 5189, 5190]),
  (yX0_liveLine, cX0_liveLine, 3, (some .int), [0, 34, 68, 70, 71, 88, 90], [5184, 1035, 5183, 26]),
  (yX1_init, cX1_init, 2, none, [0], [1061, 1026, 1060, 0]),
  (yX1_put, cX1_put, 2, none, [0, 43], [3080, 1026, 3078, 3079]),
  (yX1_putNumber, cX1_putNumber, 2, none, [0], [3076, 1026, 3074, 3075]),
  (yX1_putName, cX1_putName, 5, none, [0, 3, 28, 34], [4285, 1026, 4283, 4284]),
  (yX1_putText, cX1_putText, 3, none, [], [4290, 1026, 4288, 4289]),
  (yX1_putDigits, cX1_putDigits, 2, none, [0, 17], [5126, 1026, 5124, 5125]),
  (yX1_cut, cX1_cut, 2, (some .boolean), [0, 12, 14], [3088, 1026, 3086, 3087]),
  (yX2_init, cX2_init, 1, none, [0], [1139, 1030, 1138, 0]),
  (yX2_copyFrom, cX2_copyFrom, 3, none, [0, 146, 177], [3195, 1030, 3193, 3194]),
  (yX2_readFrom, cX2_readFrom, 3, (some .int), [0, 24, 40, 51, 57], [3096, 1030, 3094, 3095]),
  (yX2_readLine, cX2_readLine, 4, (some .boolean), [0, 32, 44, 49, 53, 70, 75, 79, 96, 101, 105, 111, 128, 129], [3126, 1030, 3125, 1]),
  (yX2_readEpoch, cX2_readEpoch, 3, (some .boolean), [0, 18], [3130, 1030, 3129, 2]),
  (yX2_readVoter, cX2_readVoter, 5, (some .boolean), [0, 25, 42], [3144, 1030, 3143, 3]),
  (yX2_readBlock, cX2_readBlock, 7, (some .boolean), [0, 25, 59, 60, 70, 113, 120, 130], [3168, 1030, 3167, 6]),
  (yX2_addVoter, cX2_addVoter, 5, none, [0, 10, 33, 59], [3164, 1030, 3163, 5]),
  (yX2_addBlock, cX2_addBlock, 8, none, [0, 10, 26, 30, 31, 56, 57, 73, 83, 99, 107, 151, 152, 165, 171, 220], [3180, 1030, 3178, 3179]),
  (yX2_hasVoter, cX2_hasVoter, 2, (some .boolean), [0, 16, 17], [3244, 1030, 3242, 3243]),
  (yX2_hasBlock, cX2_hasBlock, 2, (some .boolean), [0, 16, 17], [3215, 1030, 3213, 3214]),
  (yX2_isPoint, cX2_isPoint, 2, (some .boolean), [0, 22, 23], [3239, 1030, 3237, 3238]),
  (yX2_isLink, cX2_isLink, 3, (some .boolean), [0, 29, 30], [4192, 1030, 4190, 4191]),
  (yX2_isAhead, cX2_isAhead, 3, (some .boolean), [0, 18, 19], [3219, 1030, 3217, 3218]),
  (yX2_lastShared, cX2_lastShared, 4, (some .int), [0], [3227, 1030, 3225, 3226]),
  (yX2_blocksOn, cX2_blocksOn, 4, (some .int), [0, 6, 30, 36], [5256, 1030, 5254, 5255]),
  (yX2_countPoints, cX2_countPoints, 3, (some .int), [0, 4, 25, 31], [5292, 1030, 5290, 5291]),
  (yX2_hasName, cX2_hasName, 3, (some .boolean), [0, 18, 22, 23], [3148, 1030, 3147, 4]),
  (yX2_voterNamed, cX2_voterNamed, 4, (some .int), [0, 2, 23, 29], [3152, 1030, 3150, 3151]),
  (yX2_blockNamed, cX2_blockNamed, 4, (some .int), [0, 2, 23, 29], [3156, 1030, 3154, 3155]),
  (yX2_foreOf, cX2_foreOf, 2, (some (.array .int)), [0], [3284, 1030, 3282, 3283]),
  (yX2_rearOf, cX2_rearOf, 2, (some (.array .int)), [0], [3301, 1030, 3299, 3300]),
  (yX2_weightsAhead, cX2_weightsAhead, 4, (some (.array .int)), [0, 6, 37, 43], [3288, 1030, 3287, 12]),
  (yX2_sumOf, cX2_sumOf, 5, (some .int), [0, 5, 31, 37], [3297, 1030, 3295, 3296]),
  (yX2_countsWith, cX2_countsWith, 3, (some .boolean), [0, 30, 31], [3280, 1030, 3278, 3279]),
  (yX2_hasTwoThirds, cX2_hasTwoThirds, 4, (some .boolean), [0, 31, 32], [3293, 1030, 3292, 13]),
  (yX3_init, cX3_init, 1, none, [0], [2204, 1036, 2203, 0]),
  (yX3_doDeeds, cX3_doDeeds, 6, (some .int), [0, 11, 38, 44], [5140, 1036, 5138, 5139]),
  (yX3_doDeed, cX3_doDeed, 5, (some .int), [0, 29, 41, 67], [5144, 1036, 5143, 23]),
  (yX3_draw, cX3_draw, 2, (some .int), [0, 31, 32], [5148, 1036, 5147, 24]),
  (yX4_init, cX4_init, 2, none, [0], [2081, 1033, 2080, 0]),
  (yX4_refresh, cX4_refresh, 1, none, [0, 42], [3256, 1033, 3254, 3255]),
  (yX4_findOffenders, cX4_findOffenders, 3, none, [0, 12, 27, 80, 86, 92], [3260, 1033, 3259, 8]),
  (yX4_gatherLinks, cX4_gatherLinks, 4, none, [0, 7, 15, 36, 42, 44, 96, 124], [3272, 1033, 3271, 10]),
  (yX4_judgePoints, cX4_judgePoints, 3, none, [0, 15, 16, 34, 47, 98, 104, 110], [3276, 1033, 3275, 11]),
  (yX4_judgeLink, cX4_judgeLink, 3, none, [0, 59], [3305, 1033, 3304, 14]),
  (yX4_findBase, cX4_findBase, 3, none, [0, 7, 34, 35, 72, 77, 83], [3309, 1033, 3308, 15]),
  (yX4_weighLooks, cX4_weighLooks, 3, none, [0, 2, 21, 30, 32, 94, 100], [4097, 1033, 4096, 16]),
  (yX4_addHeft, cX4_addHeft, 4, none, [0, 12, 39, 45], [4102, 1033, 4101, 17]),
  (yX4_followHeft, cX4_followHeft, 3, none, [0, 17, 66], [4107, 1033, 4106, 18]),
  (yX4_heaviestOn, cX4_heaviestOn, 4, (some .int), [0, 6, 50, 52, 58], [4111, 1033, 4110, 19]),
  (yX4_choice, cX4_choice, 1, (some .int), [0, 21, 22], [4215, 1033, 4213, 4214]),
  (yX4_clashFirst, cX4_clashFirst, 2, (some .int), [0, 2, 36, 42], [4268, 1033, 4266, 4267]),
  (yX4_clashWith, cX4_clashWith, 4, (some .int), [0, 2, 29, 30, 66, 72], [4272, 1033, 4270, 4271]),
  (yX5_init, cX5_init, 1, none, [0], [2214, 1037, 2213, 0]),
  (yX5_forget, cX5_forget, 1, none, [0], [3203, 1037, 3201, 3202]),
  (yX5_keep, cX5_keep, 2, none, [0, 8, 55, 68], [4154, 1037, 4152, 4153]),
  (yX5_takeBack, cX5_takeBack, 2, (some .int), [0, 9], [4180, 1037, 4178, 4179]),
  (yX6_init, cX6_init, 3, none, [0], [2154, 1034, 2153, 0]),
  (yX6_askNeed, cX6_askNeed, 4, (some .int), [0, 20], [4227, 1034, 4225, 4226]),
  (yX6_askWay, cX6_askWay, 5, (some .int), [0, 22, 26, 86, 94, 100], [4255, 1034, 4253, 4254]),
  (yX6_fewestVoters, cX6_fewestVoters, 8, (some .int), [0, 26, 50, 54, 55, 103, 109], [4231, 1034, 4230, 21]),
  (yX6_freeVoters, cX6_freeVoters, 6, (some .int), [0, 26, 76, 82], [4235, 1034, 4234, 22]),
  (yX7_init, cX7_init, 1, none, [0], [1249, 1032, 1248, 0]),
  (yX7_clear, cX7_clear, 1, none, [0], [3199, 1032, 3197, 3198]),
  (yX7_copyFrom, cX7_copyFrom, 2, none, [0], [5235, 1032, 5233, 5234]),
  (yX7_readFrom, cX7_readFrom, 3, (some .int), [0, 36, 37], [5204, 1032, 5202, 5203]),
  (yX7_readCond, cX7_readCond, 8, (some .boolean), [0, 15, 66, 70, 71, 76, 99, 100, 129, 130, 132, 138, 159, 163, 164], [5210, 1032, 5209, 27]),
  (yX7_isJoint, cX7_isJoint, 1, (some .boolean), [0, 12, 16, 17], [5231, 1032, 5230, 0]),
  (yX7_readOne, cX7_readOne, 6, (some .boolean), [0, 27, 33, 48, 54, 100, 101, 102, 136, 137, 138, 181, 182, 183, 201, 208], [5214, 1032, 5213, 28]),
  (yX7_readMeasure, cX7_readMeasure, 5, (some .boolean), [0, 17, 23, 58, 59], [5227, 1032, 5226, 30]),
  (yX7_addStep, cX7_addStep, 4, (some .boolean), [0, 11], [5221, 1032, 5220, 29]),
  (yX7_blocksSaid, cX7_blocksSaid, 7, (some .int), [0, 15, 71, 109, 147, 172, 178, 193, 194], [5244, 1032, 5242, 5243]),
  (yX7_blocksOfStep, cX7_blocksOfStep, 6, (some .int), [0, 6, 36, 42], [5248, 1032, 5247, 31]),
  (yX7_isSo, cX7_isSo, 5, (some .boolean), [0, 60, 72, 73, 74, 80, 97, 98, 99, 116, 117, 118, 135, 136, 137, 149, 161, 187, 188, 189, 202, 209], [5252, 1032, 5251, 32]),
  (yX7_compares, cX7_compares, 3, (some .boolean), [0, 32, 46, 47, 48, 62, 63, 64, 78, 79], [5262, 1032, 5261, 33]),
  (yX8_init, cX8_init, 1, none, [0], [1133, 1029, 1132, 0]),
  (yX8_copyFrom, cX8_copyFrom, 2, none, [0], [5274, 1029, 5272, 5273]),
  (yX8_begin, cX8_begin, 2, none, [0], [3191, 1029, 3189, 3190]),
  (yX8_mark, cX8_mark, 2, none, [0, 42], [4127, 1029, 4125, 4126]),
  (yX8_rewind, cX8_rewind, 2, none, [0, 47], [4184, 1029, 4182, 4183]),
  (yX8_tryVote, cX8_tryVote, 5, (some .int), [0, 32], [4132, 1029, 4130, 4131]),
  (yX8_tryLook, cX8_tryLook, 3, (some .int), [0, 15], [4163, 1029, 4161, 4162]),
  (yX8_tryGrow, cX8_tryGrow, 2, (some .int), [0, 14], [4171, 1029, 4169, 4170]),
  (yX9_init, cX9_init, 2, none, [0], [1082, 1028, 1081, 0]),
  (yX9_open, cX9_open, 2, none, [0, 31, 32], [3100, 1028, 3098, 3099]),
  (yX9_advance, cX9_advance, 2, none, [0, 42, 73, 74, 78, 127, 128, 144, 174, 194, 195, 198], [3107, 1028, 3105, 3106]),
  (yX9_readRun, cX9_readRun, 2, none, [0, 20, 86, 124, 137], [3114, 1028, 3113, 0]),
  (yX9_kindOfWord, cX9_kindOfWord, 3, (some .int), [0, 2, 25, 31], [3120, 1028, 3119, 0]),
  (yX9_isBlank, cX9_isBlank, 1, (some .boolean), [0, 12, 16, 17], [3110, 1028, 3109, 0]),
  (yX9_isSign, cX9_isSign, 1, (some .boolean), [0, 12, 24, 28, 29], [3117, 1028, 3116, 0]),
  (yX9_refuse, cX9_refuse, 2, (some .boolean), [0], [3139, 1028, 3137, 3138]),
  (yX9_take, cX9_take, 2, (some .boolean), [0, 14], [3172, 1028, 3170, 3171]),
  (yX9_takeNumber, cX9_takeNumber, 4, (some .int), [0, 16, 32, 40], [3135, 1028, 3133, 3134]),
  (yX9_takeNewName, cX9_takeNewName, 4, (some .long), [0, 12, 25, 26, 32], [3160, 1028, 3158, 3159]),
  (yX9_takeNamed, cX9_takeNamed, 2, (some .int), [0, 13, 26, 27, 33], [3176, 1028, 3174, 3175]),
  (yX10_init, cX10_init, 2, none, [0], [1208, 1031, 1207, 0]),
  (yX10_clear, cX10_clear, 2, none, [0, 7, 26], [1244, 1031, 1242, 1243]),
  (yX10_copyFrom, cX10_copyFrom, 2, none, [0], [5278, 1031, 5276, 5277]),
  (yX10_hasVote, cX10_hasVote, 2, (some .boolean), [0, 16, 17], [4119, 1031, 4117, 4118]),
  (yX10_votesOf, cX10_votesOf, 4, (some .int), [0, 4, 25, 31], [3252, 1031, 3250, 3251]),
  (yX10_holds, cX10_holds, 5, (some .boolean), [0, 3, 47, 53], [4142, 1031, 4140, 4141]),
  (yX10_whyNotVote, cX10_whyNotVote, 4, (some .int), [0, 22, 24, 38, 50, 63, 64], [4136, 1031, 4134, 4135]),
  (yX10_add, cX10_add, 4, none, [0, 49], [4146, 1031, 4144, 4145]),
  (yX10_offenceOf, cX10_offenceOf, 7, (some .int), [0, 6, 53, 57, 63], [4198, 1031, 4196, 4197]),
  (yX10_offenceWith, cX10_offenceWith, 6, (some .int), [0, 59, 69, 79, 83, 84], [3268, 1031, 3267, 9]),
  (yX10_offenceBetween, cX10_offenceBetween, 3, (some .int), [0, 35, 36], [3264, 1031, 3262, 3263]),
  (yX10_pairPart, cX10_pairPart, 7, (some .int), [0, 5, 20, 58, 68, 70, 71, 81, 82, 90, 96], [4206, 1031, 4204, 4205]),
  (yX11_init, cX11_init, 1, none, [0], [1053, 1025, 1052, 0]),
  (yX11_feed, cX11_feed, 6, (some .int), [0, 18], [3072, 1025, 2286, 2287]),
  (yX11_end, cX11_end, 2, (some .boolean), [0], [3084, 1025, 3082, 3083]),
  (yX11_chain, cX11_chain, 2, (some .int), [0, 31], [3092, 1025, 3090, 3091]),
  (yX11_fault, cX11_fault, 1, (some .int), [0], [3207, 1025, 3205, 3206]),
  (yX11_block, cX11_block, 3, (some .int), [0, 21, 29, 80, 90, 100, 110, 119, 129, 141, 153], [5300, 1025, 5298, 5299]),
  (yX11_ahead, cX11_ahead, 3, (some .int), [0, 22, 24, 40, 41], [3211, 1025, 3209, 3210]),
  (yX11_fork, cX11_fork, 3, (some .int), [0, 22, 24], [3223, 1025, 3221, 3222]),
  (yX11_weight, cX11_weight, 3, (some .int), [0, 22, 24], [3235, 1025, 3233, 3234]),
  (yX11_voter, cX11_voter, 3, (some .int), [0, 13, 44, 54, 63, 73, 92], [3248, 1025, 3246, 3247]),
  (yX11_vote, cX11_vote, 3, (some .int), [0, 13, 40, 50, 60, 70], [4115, 1025, 4113, 4114]),
  (yX11_link, cX11_link, 5, (some .int), [0, 21, 29, 84, 87, 105, 124, 142, 161, 178, 179], [6153, 1025, 6151, 6152]),
  (yX11_votes, cX11_votes, 4, (some .int), [0, 33, 35], [4123, 1025, 4121, 4122]),
  (yX11_looks, cX11_looks, 3, (some .int), [0, 22, 24], [4159, 1025, 4157, 4158]),
  (yX11_grows, cX11_grows, 2, (some .int), [0, 13], [4167, 1025, 4165, 4166]),
  (yX11_undo, cX11_undo, 1, (some .int), [0], [4176, 1025, 4174, 4175]),
  (yX11_offends, cX11_offends, 4, (some .int), [0, 36, 38], [4188, 1025, 4186, 4187]),
  (yX11_evidence, cX11_evidence, 3, (some .int), [0, 13, 15], [4202, 1025, 4200, 4201]),
  (yX11_now, cX11_now, 2, (some .int), [0, 60, 68, 76, 84, 92, 100, 108, 116, 124, 132], [4211, 1025, 4209, 4210]),
  (yX11_chosen, cX11_chosen, 2, (some .int), [0, 34, 35], [4219, 1025, 4217, 4218]),
  (yX11_need, cX11_need, 3, (some .int), [0, 31, 32], [4223, 1025, 4221, 4222]),
  (yX11_needed, cX11_needed, 1, (some .int), [0], [4247, 1025, 4245, 4246]),
  (yX11_way, cX11_way, 2, (some .int), [0, 29, 30], [4251, 1025, 4249, 4250]),
  (yX11_wayFrom, cX11_wayFrom, 1, (some .int), [0], [4260, 1025, 4258, 4259]),
  (yX11_clash, cX11_clash, 1, (some .int), [0, 22, 23], [4264, 1025, 4262, 4263]),
  (yX11_clashAt, cX11_clashAt, 3, (some .int), [0, 29, 31, 39, 47], [4276, 1025, 4274, 4275]),
  (yX11_guilt, cX11_guilt, 3, (some .int), [0, 31, 39], [6164, 1025, 6162, 6163]),
  (yX11_mean, cX11_mean, 5, (some .int), [0, 19, 27, 34, 74, 80], [6177, 1025, 6175, 6176]),
  (yX11_tag, cX11_tag, 2, (some .int), [0, 13], [4281, 1025, 4279, 4280]),
  (yX11_byteAt, cX11_byteAt, 2, (some .int), [0, 27, 28], [5132, 1025, 5130, 5131]),
  (yX11_drawn, cX11_drawn, 4, (some .int), [0, 11, 13, 53], [5136, 1025, 5134, 5135]),
  (yX11_odds, cX11_odds, 6, (some .int), [0, 22, 24, 41, 105], [5156, 1025, 5154, 5155]),
  (yX11_book, cX11_book, 4, (some .int), [0, 13, 49, 108, 123, 132, 133], [5161, 1025, 5159, 5160]),
  (yX11_told, cX11_told, 2, (some .int), [0, 21, 22], [5196, 1025, 5194, 5195]),
  (yX11_sentence, cX11_sentence, 2, (some .int), [0, 35], [5200, 1025, 5198, 5199]),
  (yX11_said, cX11_said, 3, (some .int), [0, 18, 20, 58, 63], [5240, 1025, 5238, 5239]),
  (yX11_image, cX11_image, 2, (some .boolean), [0, 9, 11], [5270, 1025, 5268, 5269]),
  (yX11_restore, cX11_restore, 2, (some .boolean), [0, 18, 20], [5284, 1025, 5282, 5283]),
  (yX11_count, cX11_count, 2, (some .int), [0, 36, 44, 52, 60, 68, 76], [5288, 1025, 5286, 5287]),
  (yX11_closeText, cX11_closeText, 1, none, [0], [3187, 1025, 3186, 7]),
  (yX11_keepIfDone, cX11_keepIfDone, 2, (some .int), [0, 15], [4150, 1025, 4149, 20]),
  (yX11_partOfFraction, cX11_partOfFraction, 5, (some .int), [0, 14, 15, 28, 30], [6167, 1025, 6166, 0]),
  (yX11_greatestDivisor, cX11_greatestDivisor, 6, (some .int), [0, 7, 34], [6170, 1025, 6169, 0]),
  (yX11_placeOfBit, cX11_placeOfBit, 4, (some .int), [0, 4, 26, 29, 35], [5266, 1025, 5265, 0]),
  (yX12_thrown, cX12_thrown, 1, (some .int), [0], [6181, 1038, 6179, 6180]),
  (yX12_throwsIf, cX12_throwsIf, 2, (some .boolean), [0, 9, 10], [7272, 1038, 7271, 53]),
  (yX12_feed, cX12_feed, 6, (some .int), [0, 20], [6185, 1038, 6183, 6184]),
  (yX12_four, cX12_four, 3, none, [0, 3, 36], [6190, 1038, 6188, 35]),
  (yX12_end, cX12_end, 2, (some .boolean), [0, 17, 19], [6194, 1038, 6192, 6193]),
  (yX12_taken, cX12_taken, 2, none, [0], [7187, 1038, 7186, 36]),
  (yX12_isIn, cX12_isIn, 3, (some .boolean), [0, 14, 15], [7224, 1038, 7223, 0]),
  (yX12_bitOf, cX12_bitOf, 2, (some .boolean), [0, 13, 14], [7315, 1038, 7314, 0]),
  (yX12_init, cX12_init, 1, none, [0], [6198, 1038, 6197, 0]),
  (yX12_peek, cX12_peek, 1, (some .int), [0, 27, 28], [7195, 1038, 7194, 38]),
  (yX12_isSmall, cX12_isSmall, 1, (some .boolean), [0, 16, 17], [7198, 1038, 7197, 0]),
  (yX12_isDigit, cX12_isDigit, 1, (some .boolean), [0, 16, 17], [7201, 1038, 7200, 0]),
  (yX12_next, cX12_next, 4, none, [0, 18, 31, 80, 95, 140, 144, 145, 164, 181, 201, 220, 221, 248, 275, 298, 316, 317, 320, 324, 332, 333], [7191, 1038, 7190, 37]),
  (yX12_bad, cX12_bad, 2, (some .boolean), [0], [7217, 1038, 7216, 42]),
  (yX12_isWord, cX12_isWord, 3, (some .boolean), [0, 21, 22], [7209, 1038, 7208, 40]),
  (yX12_isSign, cX12_isSign, 2, (some .boolean), [0, 20, 21], [7256, 1038, 7255, 51]),
  (yX12_sign, cX12_sign, 2, (some .boolean), [0, 14], [7252, 1038, 7251, 50]),
  (yX12_isName, cX12_isName, 3, (some .boolean), [0, 12, 13, 16, 44, 45, 52], [7236, 1038, 7235, 46]),
  (yX12_takes, cX12_takes, 3, (some .boolean), [0, 14, 32], [7221, 1038, 7220, 43]),
  (yX12_seek, cX12_seek, 4, (some .int), [0, 2, 25, 31], [7240, 1038, 7239, 47]),
  (yX12_takesName, cX12_takesName, 3, (some .boolean), [0, 13, 36], [7248, 1038, 7247, 49]),
  (yX12_isNew, cX12_isNew, 1, (some .boolean), [0, 13, 43, 51, 55, 56], [7232, 1038, 7231, 45]),
  (yX12_readEpoch, cX12_readEpoch, 1, (some .boolean), [0, 13, 28], [7213, 1038, 7212, 41]),
  (yX12_readVoter, cX12_readVoter, 2, (some .boolean), [0, 19, 32, 61], [7228, 1038, 7227, 44]),
  (yX12_readBlock, cX12_readBlock, 4, (some .boolean), [0, 19, 32, 71, 87, 100, 151, 176, 189], [7244, 1038, 7243, 48]),
  (yX12_readLine, cX12_readLine, 1, (some .boolean), [0, 17, 34, 51, 56], [7205, 1038, 7204, 39]),
  (yX12_chain, cX12_chain, 2, (some .int), [0, 24, 43, 54, 77, 84, 97, 99, 126, 127, 134, 136, 180, 181, 188, 190, 226, 227, 234], [7183, 1038, 7181, 7182]),
  (yX12_fault, cX12_fault, 1, (some .int), [0], [7260, 1038, 7258, 7259]),
  (yX12_isBlock, cX12_isBlock, 2, (some .boolean), [0], [7268, 1038, 7267, 52]),
  (yX12_isVoter, cX12_isVoter, 2, (some .boolean), [0], [7362, 1038, 7361, 71]),
  (yX12_isPoint, cX12_isPoint, 2, (some .boolean), [0, 20, 21], [7335, 1038, 7334, 68]),
  (yX12_level, cX12_level, 2, (some .int), [0], [7296, 1038, 7295, 59]),
  (yX12_isAhead, cX12_isAhead, 3, (some .boolean), [0], [7350, 1038, 7349, 70]),
  (yX12_laysBlocks, cX12_laysBlocks, 3, none, [0, 2, 35, 43, 57, 67, 74], [7280, 1038, 7279, 55]),
  (yX12_weightBy, cX12_weightBy, 4, (some .int), [0, 2, 29, 42], [7323, 1038, 7322, 65]),
  (yX12_weightFor, cX12_weightFor, 6, (some .int), [0, 30, 33, 60], [7319, 1038, 7318, 64]),
  (yX12_sum, cX12_sum, 6, (some .int), [0, 6, 39, 45], [7312, 1038, 7311, 63]),
  (yX12_isEnough, cX12_isEnough, 5, (some .boolean), [0, 36, 37], [7308, 1038, 7307, 62]),
  (yX12_counts, cX12_counts, 3, (some .boolean), [0, 24, 25], [7304, 1038, 7303, 61]),
  (yX12_offenceBy, cX12_offenceBy, 6, (some .int), [0, 16, 43, 70, 74, 75, 86, 87], [7292, 1038, 7291, 58]),
  (yX12_offence, cX12_offence, 3, (some .int), [0, 66, 67], [7288, 1038, 7287, 57]),
  (yX12_laysVotes, cX12_laysVotes, 4, none, [0, 17, 37, 39, 91, 92, 118, 135, 165, 171, 177], [7284, 1038, 7283, 56]),
  (yX12_laysJust, cX12_laysJust, 5, none, [0, 17, 25, 48, 50, 91, 115, 154, 160, 166, 172, 179, 221, 227], [7300, 1038, 7299, 60]),
  (yX12_laysWay, cX12_laysWay, 4, none, [0, 2, 25, 27, 52, 62, 73, 100, 106, 130, 163], [7327, 1038, 7326, 66]),
  (yX12_bestOn, cX12_bestOn, 4, (some .int), [0, 4, 46, 48, 54], [7331, 1038, 7330, 67]),
  (yX12_lays, cX12_lays, 1, none, [0, 8, 56], [7276, 1038, 7275, 54]),
  (yX12_on, cX12_on, 4, (some .int), [0, 4, 33, 39], [7339, 1038, 7338, 69]),
  (yX12_truth, cX12_truth, 1, (some .int), [0, 8, 9], [7342, 1038, 7341, 0]),
  (yX12_block, cX12_block, 3, (some .int), [0, 19, 23, 24, 32, 80, 90, 97, 113, 114, 115, 121, 131, 143, 155], [7264, 1038, 7262, 7263]),
  (yX12_ahead, cX12_ahead, 3, (some .int), [0, 21, 23], [7346, 1038, 7344, 7345]),
  (yX12_fork, cX12_fork, 6, (some .int), [0, 21, 23, 55, 96, 102], [7354, 1038, 7352, 7353]),
  (yX12_weight, cX12_weight, 3, (some .int), [0, 21, 23, 44, 45], [7358, 1038, 7356, 7357]),
  (yX12_votesOf, cX12_votesOf, 4, (some .int), [0, 4, 32, 33, 41], [7370, 1038, 7369, 72]),
  (yX12_voter, cX12_voter, 3, (some .int), [0, 15, 52, 61, 67, 78, 90], [7366, 1038, 7364, 7365]),
  (yX12_vote, cX12_vote, 3, (some .int), [0, 23, 39, 56, 74, 75], [7374, 1038, 7372, 7373]),
  (yX12_isLink, cX12_isLink, 3, (some .boolean), [0, 16, 18, 51, 52], [7382, 1038, 7381, 73]),
  (yX12_link, cX12_link, 5, (some .int), [0, 19, 23, 24, 32, 80, 83, 92, 102, 111, 121], [7378, 1038, 7376, 7377]),
  (yX12_whyVote, cX12_whyVote, 4, (some .int), [0, 20, 22, 33, 55, 70, 71], [7390, 1038, 7389, 74]),
  (yX12_doesVote, cX12_doesVote, 5, none, [0], [7406, 1038, 7405, 78]),
  (yX12_doesLook, cX12_doesLook, 3, none, [0], [8198, 1038, 8197, 79]),
  (yX12_doesGrow, cX12_doesGrow, 3, none, [0], [8206, 1038, 8205, 80]),
  (yX12_votes, cX12_votes, 5, (some .int), [0, 29, 31, 48], [7386, 1038, 7384, 7385]),
  (yX12_looks, cX12_looks, 3, (some .int), [0, 21, 23, 39], [8194, 1038, 8192, 8193]),
  (yX12_grows, cX12_grows, 2, (some .int), [0, 15, 28], [8202, 1038, 8200, 8201]),
  (yX12_stores, cX12_stores, 3, none, [0, 11, 40, 46, 48, 79], [7402, 1038, 7401, 77]),
  (yX12_copies, cX12_copies, 3, none, [0, 2, 26], [7398, 1038, 7397, 76]),
  (yX12_brings, cX12_brings, 4, none, [0, 2, 28], [8214, 1038, 8213, 81]),
  (yX12_keeps, cX12_keeps, 1, none, [0], [7394, 1038, 7393, 75]),
  (yX12_undo, cX12_undo, 1, (some .int), [0, 14], [8210, 1038, 8208, 8209]),
  (yX12_offenceOf, cX12_offenceOf, 7, (some .int), [0, 6, 61, 62, 81, 86, 88, 96], [8222, 1038, 8221, 82]),
  (yX12_offends, cX12_offends, 5, (some .int), [0, 29, 31, 54, 61], [8218, 1038, 8216, 8217]),
  (yX12_evidence, cX12_evidence, 7, (some .int), [0, 32, 34, 39, 56, 85, 99, 109, 111, 112, 115, 121, 127], [8226, 1038, 8224, 8225]),
  (yX12_now, cX12_now, 2, (some .int), [0, 60, 65, 70, 75, 82, 87, 92, 97, 102, 113, 124, 125], [8230, 1038, 8228, 8229]),
  (yX12_chosen, cX12_chosen, 2, (some .int), [0, 32, 33], [8234, 1038, 8232, 8233]),
  (yX12_bitsIn, cX12_bitsIn, 3, (some .int), [0, 4, 24], [8245, 1038, 8244, 0]),
  (yX12_needOf, cX12_needOf, 7, (some .int), [0, 28, 34, 86, 92, 95, 109, 151, 160, 166, 172], [8242, 1038, 8241, 83]),
  (yX12_need, cX12_need, 4, (some .int), [0, 23, 24, 37], [8238, 1038, 8236, 8237]),
  (yX12_needed, cX12_needed, 1, (some .int), [0], [8249, 1038, 8247, 8248]),
  (yX12_way, cX12_way, 6, (some .int), [0, 15, 29, 44, 45, 51, 91, 118, 124, 130, 139], [8253, 1038, 8251, 8252]),
  (yX12_wayFrom, cX12_wayFrom, 1, (some .int), [0], [8257, 1038, 8255, 8256]),
  (yX12_clashOf, cX12_clashOf, 4, (some .int), [0, 6, 20, 73, 81, 82, 83, 89, 95], [8265, 1038, 8264, 84]),
  (yX12_clash, cX12_clash, 1, (some .int), [0, 17, 18], [8261, 1038, 8259, 8260]),
  (yX12_clashAt, cX12_clashAt, 2, (some .int), [0, 22, 23], [8269, 1038, 8267, 8268]),
  (yX12_least, cX12_least, 6, (some .int), [0, 5, 26, 34, 35], [8276, 1038, 8275, 0]),
  (yX12_guilt, cX12_guilt, 5, (some .int), [0, 11, 59, 60, 68, 82, 86, 87, 95], [8273, 1038, 8271, 8272]),
  (yX12_mean, cX12_mean, 5, (some .int), [0, 19, 23, 24, 32, 43, 66, 79, 85], [8280, 1038, 8278, 8279]),
  (yX12_puts, cX12_puts, 2, none, [0], [8293, 1038, 8292, 86]),
  (yX12_spells, cX12_spells, 4, none, [0, 3, 31, 37], [8288, 1038, 8287, 85]),
  (yX12_laysNumber, cX12_laysNumber, 2, none, [0, 17], [8298, 1038, 8297, 87]),
  (yX12_tag, cX12_tag, 2, (some .int), [0, 23], [8284, 1038, 8282, 8283]),
  (yX12_byteAt, cX12_byteAt, 2, (some .int), [0, 28, 29], [8303, 1038, 8301, 8302]),
  (yX12_draw, cX12_draw, 2, (some .int), [0], [8315, 1038, 8314, 89]),
  (yX12_drawDeed, cX12_drawDeed, 5, (some .boolean), [0, 35, 42, 53, 85, 93, 118], [8311, 1038, 8310, 88]),
  (yX12_drawn, cX12_drawn, 5, (some .int), [0, 17, 28, 46, 64, 65, 73, 85], [8307, 1038, 8305, 8306]),
  (yX12_isChosen, cX12_isChosen, 4, (some .boolean), [0, 8, 30, 34, 35, 42], [8324, 1038, 8323, 90]),
  (yX12_odds, cX12_odds, 7, (some .int), [0, 23, 25, 39, 56, 74, 88, 89, 107], [8320, 1038, 8318, 8319]),
  (yX12_bookLine, cX12_bookLine, 2, (some .boolean), [0, 26, 40, 54, 55, 71, 86, 116, 128, 145, 168, 185], [8332, 1038, 8331, 91]),
  (yX12_does, cX12_does, 5, (some .int), [0, 62, 65, 92, 100, 114], [8336, 1038, 8335, 92]),
  (yX12_book, cX12_book, 4, (some .int), [0, 18, 39, 62, 70, 83, 102, 138, 144, 164, 165, 192, 203, 225, 242], [8328, 1038, 8326, 8327]),
  (yX12_told, cX12_told, 2, (some .int), [0, 30, 31], [8340, 1038, 8338, 8339]),
  (yX12_code, cX12_code, 4, none, [0], [8352, 1038, 8351, 94]),
  (yX12_joins, cX12_joins, 2, none, [0, 45, 73], [8356, 1038, 8355, 95]),
  (yX12_nots, cX12_nots, 1, none, [0, 54], [8348, 1038, 8347, 93]),
  (yX12_leafOf, cX12_leafOf, 1, (some .int), [0, 14, 28, 42, 56, 70, 84, 99, 114, 129, 144, 145], [8368, 1038, 8367, 98]),
  (yX12_operand, cX12_operand, 5, (some .boolean), [0, 38, 56, 62, 84, 101, 103, 126, 145, 167, 179, 205, 211, 235], [8364, 1038, 8363, 97]),
  (yX12_behindOne, cX12_behindOne, 1, (some .boolean), [0, 24, 40, 42, 68, 70, 92, 114, 120], [8360, 1038, 8359, 96]),
  (yX12_sentence, cX12_sentence, 3, (some .int), [0, 48, 96, 101, 118, 125, 132, 146, 178], [8344, 1038, 8342, 8343]),
  (yX12_isSo, cX12_isSo, 3, (some .boolean), [0, 15, 19, 34, 38, 47, 48], [8383, 1038, 8382, 0]),
  (yX12_isLeaf, cX12_isLeaf, 5, (some .boolean), [0, 52, 64, 65, 66, 72, 81, 90, 96, 104, 117, 143, 144, 145, 158], [8380, 1038, 8379, 100]),
  (yX12_isSaid, cX12_isSaid, 5, (some .boolean), [0, 4, 59, 60, 64, 88, 134, 138, 158, 162, 163, 167, 206, 212], [8376, 1038, 8375, 99]),
  (yX12_said, cX12_said, 4, (some .int), [0, 21, 23, 31, 52, 59, 62, 68, 77, 78], [8372, 1038, 8370, 8371]),
  (yX12_image, cX12_image, 3, (some .boolean), [0, 16, 18, 49, 51, 80], [8387, 1038, 8385, 8386]),
  (yX12_restore, cX12_restore, 3, (some .boolean), [0, 23, 25, 27, 58, 60, 89], [8391, 1038, 8389, 8390]),
  (yX12_count, cX12_count, 4, (some .int), [0, 13, 36, 37, 45, 80, 87, 94, 101, 103, 108], [8395, 1038, 8393, 8394]),
  (x, cL_law, 7, (some .boolean), [0, 23, 208, 281, 306, 319, 332, 380, 397, 400, 437, 474, 511, 548, 585, 645, 662, 665, 714, 751, 776, 789, 838, 875, 900, 925, 962, 975, 1000, 1013, 1026, 1051, 1087, 1104, 1107, 1143, 1160, 1163, 1188, 1213, 1250, 1299, 1324, 1349, 1362, 1387, 1412, 1437, 1462, 1468], []),
  (yL_block, cL_block, 0, none, [], []),
  (yL_link, cL_link, 0, none, [], []),
  (yL_guilt, cL_guilt, 0, none, [], []),
  (yL_mean, cL_mean, 0, none, [], []),
  (yJ6_numberOfLeadingZeros_0f7a4, cJ6_numberOfLeadingZeros_0f7a4, 2, (some .int), [0, 13, 14, 15, 33, 48, 61, 73], [3230, 1044, 3229, 0]),
  (yJ6_bitCount_0f7a4, cJ6_bitCount_0f7a4, 1, (some .int), [0], [4239, 1044, 4238, 0])]
def xch (c : Nat) : List Cond := match c with
  | 0 => k2_sels lw_privs
  | 1 => tables_1_1
  | 2 => tables_1_2
  | 3 => tables_1_3
  | 4 => tables_1_4
  | 5 => tables_1_5
  | 6 => tables_1_6
  | 7 => tables_1_7
  | _ => tables_1_8
theorem xch_in (c : Nat) : ∀ w ∈ xch c, w ∈ lw_tbl := by
  intro w h
  unfold xch at h
  unfold lw_tbl tables_1
  simp only [List.mem_append]
  split at h <;> simp [h]
def xTb (w : Cond) (k : Nat) : Bool := decide (xn (xch (k / 1024)) (k % 1024) = some w) && goodWord w
def xTl : List Cond := lw_tbl.filter goodWord
theorem xTb_in {w : Cond} {k : Nat} (h : xTb w k = true) : w ∈ xTl := by
  simp only [xTb, Bool.and_eq_true, decide_eq_true_eq] at h
  rw [xn_eq] at h
  exact List.mem_filter.mpr ⟨xch_in _ _ (List.mem_of_getElem? h.1), h.2⟩
theorem xTl_good : ∀ w ∈ xTl, (w.onTables && w.keeps) = true ∨ ∃ ty, w = .arrayClass ty := fun _ h => good_of_word (List.mem_filter.mp h).2
def xh (i : xI) (j : Nat) : Nat := match xn i.2.2.2.2 j with
  | some a => a.2
  | none => 0
def xtg (starts : List Nat) (pc : Nat) (off : Int) (t : Nat) : Bool := match xn starts t with
  | some tg => decide ((pc : Int) + off = (tg : Int))
  | none => false
def xswc (starts : List Nat) (pc : Nat) : Int → List Int → List (Int32 × Nat) → Bool
  | _, [], [] => true
  | lo, o :: os, a :: ts => decide (a.1.toInt = lo) && xtg starts pc o a.2 && xswc starts pc (lo + 1) os ts
  | _, _, _ => false
def xlkc (starts : List Nat) (pc : Nat) : List (Int × Int) → List (Int32 × Nat) → Bool
  | [], [] => true
  | o :: os, a :: ts => decide (a.1.toInt = o.1) && xtg starts pc o.2 a.2 && xlkc starts pc os ts
  | _, _ => false
/-- the words of a callee -/
def xMw (mi : xN) (st ini : Bool) : Bool := match mi.2.2.2.2.2 with
  | [h0, h1, h2, h3] => xTb (.code mi.1 mi.2.1 mi.2.2.1 mi.2.2.2.1) h0 && xTb (.initialized mi.1.cls) h1 && (bif st then xTb (.static mi.1) h2 else xTb (.instanceMethod mi.1) h2 && (bif ini then decide (mi.1.name = "<init>") else xTb (.selects mi.1.cls mi.1 mi.1) h3)) &&
      decide (mi.1.cls ≠ "java/lang/invoke/MethodHandle") && decide (mi.1.cls ≠ "java/lang/invoke/VarHandle")
  | _ => false
def xthr (mid : Nat) : Bool := mid == 116 || mid == 122 || mid == 137 || mid == 138
def xcw (own : String) (idx h : Nat) (ops : List Nat) (st ini : Bool) : Bool := match ops with
  | [0, mid, n, _, ci] => match xn xinfo mid with
    | some mi => xTb (.methodLink own idx mi.1) h && !(xthr mid) && (match xn xprog mid with | some P => decide (P.1 ≠ 2) | none => false) && decide ((parseMethodDescriptor mi.1.desc).map (fun d => d.parameters.length) = some (bif st then n else n - 1)) &&
        (bif st then decide (ci = 100) else (decide (0 < n) && decide (ci < 13) && (match xn vwCl ci with | some q => decide (q.1 = mi.1.cls) | none => false)))
    | none => false
  | _ => false
def xWi (own : String) (idx h : Nat) (ops : List Nat) (nm : MethodName) (k : Nat) : Bool := decide (ops = [k]) && xTb (.methodLink own idx nm) h
def xfw (own : String) (mn : String) (idx h : Nat) (ops : List Nat) (put : Bool) : Bool := match ops with
  | [t, ci, f] => match xn vwCl ci with
    | some q => decide (f < q.2.2) && decide (xtf ci f = t) && decide (t < 4) && decide ((q.2.1 f).1 = q.1) && xTb (.fieldLink own idx q.1 (q.2.1 f).2.1 (q.2.1 f).2.2.1) h && (!put || !(q.2.1 f).2.2.2 || (decide (mn = "<init>") && decide (q.1 = own)))
    | none => false
  | _ => false
def xW (thr : Bool) (y : MethodName) (ret : Option FieldType) (starts : List Nat) (pc : Nat) (i : xI) : Bool := match i.1 with
  | .iconst n => decide (Int32.ofInt n = i.2.2.1)
  | .bipush n => decide ((Int8.ofInt n).toInt32 = i.2.2.1)
  | .sipush n => decide ((Int16.ofInt n).toInt32 = i.2.2.1)
  | .ldc k => match i.2.2.2.1 with
    | [] => xTb (.constant y.cls k i.2.2.1) (xh i 0)
    | [q] => decide (y.cls = RX11) && ((decide (k = 328) && decide (q = 1000002)) || (decide (k = 337) && decide (q = 1000003)))
    | _ => false
  | .ldc_w k => match i.2.2.2.1 with
    | [] => xTb (.constant y.cls k i.2.2.1) (xh i 0)
    | _ => false
  | .lconst n => match i.2.2.2.1 with
    | [w] => decide (n.val = w)
    | _ => false
  | .ldc2_w k => match i.2.2.2.1 with
    | [w] => xTb (.constantLong y.cls k (Int64.ofNat w)) (xh i 0)
    | _ => false
  | .iinc _ d => decide (Int32.ofInt d = i.2.2.1)
  | .getfield k => xfw y.cls y.name k (xh i 0) i.2.2.2.1 false
  | .putfield k => xfw y.cls y.name k (xh i 0) i.2.2.2.1 true
  | .getstatic k => xTb (.fieldLink y.cls k "FinalLinks$Tokens" "WORDS" "[J") (xh i 0)
  | .new k => match i.2.2.2.1 with
    | [0, ci, n] => match xn vwCl ci with
      | some q => decide (ci < 13) && decide (n = q.2.2) && xTb (.classLink y.cls k q.1) (xh i 0) && xTb (.instantiable q.1 n) (xh i 1) && xTb (.initialized q.1) (xh i 2)
      | none => false
    | [1] => thr
    | _ => false
  | .newarray t => xTb (.arrayClass (Jvm.Op.newarray.typeOf t)) (xh i 0)
  | .anewarray k => xTb (.classLink y.cls k RX8) (xh i 0)
  | .multianewarray k d => decide (d = 2) && xTb (.classLink y.cls k ("[" ++ (FieldType.array .int).toString)) (xh i 0) && xTb (.arrayClass .int) (xh i 1)
  | .invokestatic k => xcw y.cls k (xh i 0) i.2.2.2.1 true false || xWi y.cls k (xh i 0) i.2.2.2.1 Lib.Math.max.name 2 || xWi y.cls k (xh i 0) i.2.2.2.1 Lib.Math.min.name 3 || xWi y.cls k (xh i 0) i.2.2.2.1 arraycopyName 4
  | .invokespecial k => xcw y.cls k (xh i 0) i.2.2.2.1 false true || xWi y.cls k (xh i 0) i.2.2.2.1 Lib.objectInit 1
  | .invokevirtual k => xcw y.cls k (xh i 0) i.2.2.2.1 false false
  | .goto off => xtg starts pc off (xto i.2.2.2.1)
  | .ifCond _ off => xtg starts pc off (xto i.2.2.2.1)
  | .if_icmp _ off => xtg starts pc off (xto i.2.2.2.1)
  | .tableswitch d lo hi offs => xtg starts pc d (xto i.2.2.2.1) && xswc starts pc lo offs.toList i.2.2.2.2 && decide (hi = lo + offs.size - 1)
  | .lookupswitch d ps => xtg starts pc d (xto i.2.2.2.1) && xlkc starts pc ps.toList i.2.2.2.2 && (ps.toList.zip (ps.toList.drop 1)).all (fun (a, next) => a.1 < next.1)
  | .ireturn => match i.2.2.2.1 with
    | [] => decide (ret = some .int)
    | _ => decide (ret = some .boolean)
  | .lreturn => decide (ret = some .long)
  | .areturn => match ret with
    | some (.object _) => true
    | some (.array _) => true
    | _ => false
  | .return_ => decide (ret = none)
  | _ => true
def xend (i : xI) : Bool := match i.1 with
  | .goto _ => true
  | .tableswitch _ _ _ _ => true
  | .lookupswitch _ _ => true
  | .ireturn => true
  | .lreturn => true
  | .areturn => true
  | .return_ => true
  | .new _ => decide (i.2.2.2.1 = [1])
  | _ => false
def xln (i : xI) : Nat := match i.1 with
  | .iload _ => 2
  | .lload _ => 2
  | .aload _ => 2
  | .istore _ => 2
  | .lstore _ => 2
  | .astore _ => 2
  | .bipush _ => 2
  | .ldc _ => 2
  | .newarray _ => 2
  | .sipush _ => 3
  | .ldc_w _ => 3
  | .ldc2_w _ => 3
  | .iinc _ _ => 3
  | .getfield _ => 3
  | .putfield _ => 3
  | .getstatic _ => 3
  | .new _ => 3
  | .anewarray _ => 3
  | .multianewarray _ _ => 4
  | .invokestatic _ => 3
  | .invokespecial _ => 3
  | .invokevirtual _ => 3
  | .goto _ => 3
  | .ifCond _ _ => 3
  | .if_icmp _ _ => 3
  | .tableswitch _ _ _ _ => i.2.1
  | .lookupswitch _ _ => i.2.1
  | _ => 1
def xCk (thr : Bool) (y : MethodName) (cc : ByteArray) (ret : Option FieldType) (starts : List Nat) (nx : Nat) : Nat → List xI → Bool
  | pc, [] => decide (xn starts nx = some pc)
  | pc, i :: is => decide (decode cc pc = .ok (i.1, i.2.1)) && decide (i.2.1 = xln i) && xW thr y ret starts pc i && (xend i || xCk thr y cc ret starts nx (pc + i.2.1) is)
def xMl (thr : Bool) (mi : xN) : Nat → List xB → Bool
  | _, [] => true
  | b, B :: M => (match xn mi.2.2.2.2.1 b with | some pc => xCk thr mi.1 mi.2.1 mi.2.2.2.1 mi.2.2.2.2.1 B.2.1 pc B.2.2 | none => false) && xMl thr mi (b + 1) M
def xMo (mid : Nat) : Bool := match xn xinfo mid, xn xprog mid with
  | some mi, some P => decide (P.1 = 0) && decide (P.2.1 = mi.2.2.1) && decide (xn mi.2.2.2.2.1 0 = some 0) && xMl (xthr mid) mi 0 P.2.2
  | _, _ => false
