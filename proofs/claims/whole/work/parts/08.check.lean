/-! The tables held against the code and the words of the claim. -/
abbrev xN : Type := MethodName × ByteArray × Nat × Option FieldType × List Nat × List Nat
def xi_0 : xN := (yX0_init, cX0_init, 1, none, [0], [2178, 1035, 2177, 0])
def xi_1 : xN := (yX0_readFrom, cX0_readFrom, 4, (some .int), [0, 14, 30, 41, 47], [5165, 1035, 5163, 5164])
def xi_2 : xN := (yX0_readLine, cX0_readLine, 7, (some .boolean), [0, 29, 44, 79, 101, 132], [5170, 1035, 5169, 25])
def xi_3 : xN := (yX0_live, cX0_live, 5, (some .int), [0, 7, 37, 38, 46], [5180, 1035, 5178, 5179])
def xi_4 : xN := (yX0_tell, cX0_tell, 2, none, [0], [5191, 1035, 5189, 5190])
def xi_5 : xN := (yX0_liveLine, cX0_liveLine, 3, (some .int), [0, 34, 68, 70, 71, 88, 90], [5184, 1035, 5183, 26])
def xi_6 : xN := (yX1_init, cX1_init, 2, none, [0], [1061, 1026, 1060, 0])
def xi_7 : xN := (yX1_put, cX1_put, 2, none, [0, 43], [3080, 1026, 3078, 3079])
def xi_8 : xN := (yX1_putNumber, cX1_putNumber, 2, none, [0], [3076, 1026, 3074, 3075])
def xi_9 : xN := (yX1_putName, cX1_putName, 5, none, [0, 3, 28, 34], [4285, 1026, 4283, 4284])
def xi_10 : xN := (yX1_putText, cX1_putText, 3, none, [], [4290, 1026, 4288, 4289])
def xi_11 : xN := (yX1_putDigits, cX1_putDigits, 2, none, [0, 17], [5126, 1026, 5124, 5125])
def xi_12 : xN := (yX1_cut, cX1_cut, 2, (some .boolean), [0, 12, 14], [3088, 1026, 3086, 3087])
def xi_13 : xN := (yX2_init, cX2_init, 1, none, [0], [1139, 1030, 1138, 0])
def xi_14 : xN := (yX2_copyFrom, cX2_copyFrom, 3, none, [0, 146, 177], [3195, 1030, 3193, 3194])
def xi_15 : xN := (yX2_readFrom, cX2_readFrom, 3, (some .int), [0, 24, 40, 51, 57], [3096, 1030, 3094, 3095])
def xi_16 : xN := (yX2_readLine, cX2_readLine, 4, (some .boolean), [0, 32, 44, 49, 53, 70, 75, 79, 96, 101, 105, 111, 128, 129], [3126, 1030, 3125, 1])
def xi_17 : xN := (yX2_readEpoch, cX2_readEpoch, 3, (some .boolean), [0, 18], [3130, 1030, 3129, 2])
def xi_18 : xN := (yX2_readVoter, cX2_readVoter, 5, (some .boolean), [0, 25, 42], [3144, 1030, 3143, 3])
def xi_19 : xN := (yX2_readBlock, cX2_readBlock, 7, (some .boolean), [0, 25, 59, 60, 70, 113, 120, 130], [3168, 1030, 3167, 6])
def xi_20 : xN := (yX2_addVoter, cX2_addVoter, 5, none, [0, 10, 33, 59], [3164, 1030, 3163, 5])
def xi_21 : xN := (yX2_addBlock, cX2_addBlock, 8, none, [0, 10, 26, 30, 31, 56, 57, 73, 83, 99, 107, 151, 152, 165, 171, 220], [3180, 1030, 3178, 3179])
def xi_22 : xN := (yX2_hasVoter, cX2_hasVoter, 2, (some .boolean), [0, 16, 17], [3244, 1030, 3242, 3243])
def xi_23 : xN := (yX2_hasBlock, cX2_hasBlock, 2, (some .boolean), [0, 16, 17], [3215, 1030, 3213, 3214])
def xi_24 : xN := (yX2_isPoint, cX2_isPoint, 2, (some .boolean), [0, 22, 23], [3239, 1030, 3237, 3238])
def xi_25 : xN := (yX2_isLink, cX2_isLink, 3, (some .boolean), [0, 29, 30], [4192, 1030, 4190, 4191])
def xi_26 : xN := (yX2_isAhead, cX2_isAhead, 3, (some .boolean), [0, 18, 19], [3219, 1030, 3217, 3218])
def xi_27 : xN := (yX2_lastShared, cX2_lastShared, 4, (some .int), [0], [3227, 1030, 3225, 3226])
def xi_28 : xN := (yX2_blocksOn, cX2_blocksOn, 4, (some .int), [0, 6, 30, 36], [5256, 1030, 5254, 5255])
def xi_29 : xN := (yX2_countPoints, cX2_countPoints, 3, (some .int), [0, 4, 25, 31], [5292, 1030, 5290, 5291])
def xi_30 : xN := (yX2_hasName, cX2_hasName, 3, (some .boolean), [0, 18, 22, 23], [3148, 1030, 3147, 4])
def xi_31 : xN := (yX2_voterNamed, cX2_voterNamed, 4, (some .int), [0, 2, 23, 29], [3152, 1030, 3150, 3151])
def xi_32 : xN := (yX2_blockNamed, cX2_blockNamed, 4, (some .int), [0, 2, 23, 29], [3156, 1030, 3154, 3155])
def xi_33 : xN := (yX2_foreOf, cX2_foreOf, 2, (some (.array .int)), [0], [3284, 1030, 3282, 3283])
def xi_34 : xN := (yX2_rearOf, cX2_rearOf, 2, (some (.array .int)), [0], [3301, 1030, 3299, 3300])
def xi_35 : xN := (yX2_weightsAhead, cX2_weightsAhead, 4, (some (.array .int)), [0, 6, 37, 43], [3288, 1030, 3287, 12])
def xi_36 : xN := (yX2_sumOf, cX2_sumOf, 5, (some .int), [0, 5, 31, 37], [3297, 1030, 3295, 3296])
def xi_37 : xN := (yX2_countsWith, cX2_countsWith, 3, (some .boolean), [0, 30, 31], [3280, 1030, 3278, 3279])
def xi_38 : xN := (yX2_hasTwoThirds, cX2_hasTwoThirds, 4, (some .boolean), [0, 31, 32], [3293, 1030, 3292, 13])
def xi_39 : xN := (yX3_init, cX3_init, 1, none, [0], [2204, 1036, 2203, 0])
def xi_40 : xN := (yX3_doDeeds, cX3_doDeeds, 6, (some .int), [0, 11, 38, 44], [5140, 1036, 5138, 5139])
def xi_41 : xN := (yX3_doDeed, cX3_doDeed, 5, (some .int), [0, 29, 41, 67], [5144, 1036, 5143, 23])
def xi_42 : xN := (yX3_draw, cX3_draw, 2, (some .int), [0, 31, 32], [5148, 1036, 5147, 24])
def xi_43 : xN := (yX4_init, cX4_init, 2, none, [0], [2081, 1033, 2080, 0])
def xi_44 : xN := (yX4_refresh, cX4_refresh, 1, none, [0, 42], [3256, 1033, 3254, 3255])
def xi_45 : xN := (yX4_findOffenders, cX4_findOffenders, 3, none, [0, 12, 27, 80, 86, 92], [3260, 1033, 3259, 8])
def xi_46 : xN := (yX4_gatherLinks, cX4_gatherLinks, 4, none, [0, 7, 15, 36, 42, 44, 96, 124], [3272, 1033, 3271, 10])
def xi_47 : xN := (yX4_judgePoints, cX4_judgePoints, 3, none, [0, 15, 16, 34, 47, 98, 104, 110], [3276, 1033, 3275, 11])
def xi_48 : xN := (yX4_judgeLink, cX4_judgeLink, 3, none, [0, 59], [3305, 1033, 3304, 14])
def xi_49 : xN := (yX4_findBase, cX4_findBase, 3, none, [0, 7, 34, 35, 72, 77, 83], [3309, 1033, 3308, 15])
def xi_50 : xN := (yX4_weighLooks, cX4_weighLooks, 3, none, [0, 2, 21, 30, 32, 94, 100], [4097, 1033, 4096, 16])
def xi_51 : xN := (yX4_addHeft, cX4_addHeft, 4, none, [0, 12, 39, 45], [4102, 1033, 4101, 17])
def xi_52 : xN := (yX4_followHeft, cX4_followHeft, 3, none, [0, 17, 66], [4107, 1033, 4106, 18])
def xi_53 : xN := (yX4_heaviestOn, cX4_heaviestOn, 4, (some .int), [0, 6, 50, 52, 58], [4111, 1033, 4110, 19])
def xi_54 : xN := (yX4_choice, cX4_choice, 1, (some .int), [0, 21, 22], [4215, 1033, 4213, 4214])
def xi_55 : xN := (yX4_clashFirst, cX4_clashFirst, 2, (some .int), [0, 2, 36, 42], [4268, 1033, 4266, 4267])
def xi_56 : xN := (yX4_clashWith, cX4_clashWith, 4, (some .int), [0, 2, 29, 30, 66, 72], [4272, 1033, 4270, 4271])
def xi_57 : xN := (yX5_init, cX5_init, 1, none, [0], [2214, 1037, 2213, 0])
def xi_58 : xN := (yX5_forget, cX5_forget, 1, none, [0], [3203, 1037, 3201, 3202])
def xi_59 : xN := (yX5_keep, cX5_keep, 2, none, [0, 8, 55, 68], [4154, 1037, 4152, 4153])
def xi_60 : xN := (yX5_takeBack, cX5_takeBack, 2, (some .int), [0, 9], [4180, 1037, 4178, 4179])
def xi_61 : xN := (yX6_init, cX6_init, 3, none, [0], [2154, 1034, 2153, 0])
def xi_62 : xN := (yX6_askNeed, cX6_askNeed, 4, (some .int), [0, 20], [4227, 1034, 4225, 4226])
def xi_63 : xN := (yX6_askWay, cX6_askWay, 5, (some .int), [0, 22, 26, 86, 94, 100], [4255, 1034, 4253, 4254])
def xi_64 : xN := (yX6_fewestVoters, cX6_fewestVoters, 8, (some .int), [0, 26, 50, 54, 55, 103, 109], [4231, 1034, 4230, 21])
def xi_65 : xN := (yX6_freeVoters, cX6_freeVoters, 6, (some .int), [0, 26, 76, 82], [4235, 1034, 4234, 22])
def xi_66 : xN := (yX7_init, cX7_init, 1, none, [0], [1249, 1032, 1248, 0])
def xi_67 : xN := (yX7_clear, cX7_clear, 1, none, [0], [3199, 1032, 3197, 3198])
def xi_68 : xN := (yX7_copyFrom, cX7_copyFrom, 2, none, [0], [5235, 1032, 5233, 5234])
def xi_69 : xN := (yX7_readFrom, cX7_readFrom, 3, (some .int), [0, 36, 37], [5204, 1032, 5202, 5203])
def xi_70 : xN := (yX7_readCond, cX7_readCond, 8, (some .boolean), [0, 15, 66, 70, 71, 76, 99, 100, 129, 130, 132, 138, 159, 163, 164], [5210, 1032, 5209, 27])
def xi_71 : xN := (yX7_isJoint, cX7_isJoint, 1, (some .boolean), [0, 12, 16, 17], [5231, 1032, 5230, 0])
def xi_72 : xN := (yX7_readOne, cX7_readOne, 6, (some .boolean), [0, 27, 33, 48, 54, 100, 101, 102, 136, 137, 138, 181, 182, 183, 201, 208], [5214, 1032, 5213, 28])
def xi_73 : xN := (yX7_readMeasure, cX7_readMeasure, 5, (some .boolean), [0, 17, 23, 58, 59], [5227, 1032, 5226, 30])
def xi_74 : xN := (yX7_addStep, cX7_addStep, 4, (some .boolean), [0, 11], [5221, 1032, 5220, 29])
def xi_75 : xN := (yX7_blocksSaid, cX7_blocksSaid, 7, (some .int), [0, 15, 71, 109, 147, 172, 178, 193, 194], [5244, 1032, 5242, 5243])
def xi_76 : xN := (yX7_blocksOfStep, cX7_blocksOfStep, 6, (some .int), [0, 6, 36, 42], [5248, 1032, 5247, 31])
def xi_77 : xN := (yX7_isSo, cX7_isSo, 5, (some .boolean), [0, 60, 72, 73, 74, 80, 97, 98, 99, 116, 117, 118, 135, 136, 137, 149, 161, 187, 188, 189, 202, 209], [5252, 1032, 5251, 32])
def xi_78 : xN := (yX7_compares, cX7_compares, 3, (some .boolean), [0, 32, 46, 47, 48, 62, 63, 64, 78, 79], [5262, 1032, 5261, 33])
def xi_79 : xN := (yX8_init, cX8_init, 1, none, [0], [1133, 1029, 1132, 0])
def xi_80 : xN := (yX8_copyFrom, cX8_copyFrom, 2, none, [0], [5274, 1029, 5272, 5273])
def xi_81 : xN := (yX8_begin, cX8_begin, 2, none, [0], [3191, 1029, 3189, 3190])
def xi_82 : xN := (yX8_mark, cX8_mark, 2, none, [0, 42], [4127, 1029, 4125, 4126])
def xi_83 : xN := (yX8_rewind, cX8_rewind, 2, none, [0, 47], [4184, 1029, 4182, 4183])
def xi_84 : xN := (yX8_tryVote, cX8_tryVote, 5, (some .int), [0, 32], [4132, 1029, 4130, 4131])
def xi_85 : xN := (yX8_tryLook, cX8_tryLook, 3, (some .int), [0, 15], [4163, 1029, 4161, 4162])
def xi_86 : xN := (yX8_tryGrow, cX8_tryGrow, 2, (some .int), [0, 14], [4171, 1029, 4169, 4170])
def xi_87 : xN := (yX9_init, cX9_init, 2, none, [0], [1082, 1028, 1081, 0])
def xi_88 : xN := (yX9_open, cX9_open, 2, none, [0, 31, 32], [3100, 1028, 3098, 3099])
def xi_89 : xN := (yX9_advance, cX9_advance, 2, none, [0, 42, 73, 74, 78, 127, 128, 144, 174, 194, 195, 198], [3107, 1028, 3105, 3106])
def xi_90 : xN := (yX9_readRun, cX9_readRun, 2, none, [0, 20, 86, 124, 137], [3114, 1028, 3113, 0])
def xi_91 : xN := (yX9_kindOfWord, cX9_kindOfWord, 3, (some .int), [0, 2, 25, 31], [3120, 1028, 3119, 0])
def xi_92 : xN := (yX9_isBlank, cX9_isBlank, 1, (some .boolean), [0, 12, 16, 17], [3110, 1028, 3109, 0])
def xi_93 : xN := (yX9_isSign, cX9_isSign, 1, (some .boolean), [0, 12, 24, 28, 29], [3117, 1028, 3116, 0])
def xi_94 : xN := (yX9_refuse, cX9_refuse, 2, (some .boolean), [0], [3139, 1028, 3137, 3138])
def xi_95 : xN := (yX9_take, cX9_take, 2, (some .boolean), [0, 14], [3172, 1028, 3170, 3171])
def xi_96 : xN := (yX9_takeNumber, cX9_takeNumber, 4, (some .int), [0, 16, 32, 40], [3135, 1028, 3133, 3134])
def xi_97 : xN := (yX9_takeNewName, cX9_takeNewName, 4, (some .long), [0, 12, 25, 26, 32], [3160, 1028, 3158, 3159])
def xi_98 : xN := (yX9_takeNamed, cX9_takeNamed, 2, (some .int), [0, 13, 26, 27, 33], [3176, 1028, 3174, 3175])
def xi_99 : xN := (yX10_init, cX10_init, 2, none, [0], [1208, 1031, 1207, 0])
def xi_100 : xN := (yX10_clear, cX10_clear, 2, none, [0, 7, 26], [1244, 1031, 1242, 1243])
def xi_101 : xN := (yX10_copyFrom, cX10_copyFrom, 2, none, [0], [5278, 1031, 5276, 5277])
def xi_102 : xN := (yX10_hasVote, cX10_hasVote, 2, (some .boolean), [0, 16, 17], [4119, 1031, 4117, 4118])
def xi_103 : xN := (yX10_votesOf, cX10_votesOf, 4, (some .int), [0, 4, 25, 31], [3252, 1031, 3250, 3251])
def xi_104 : xN := (yX10_holds, cX10_holds, 5, (some .boolean), [0, 3, 47, 53], [4142, 1031, 4140, 4141])
def xi_105 : xN := (yX10_whyNotVote, cX10_whyNotVote, 4, (some .int), [0, 22, 24, 38, 50, 63, 64], [4136, 1031, 4134, 4135])
def xi_106 : xN := (yX10_add, cX10_add, 4, none, [0, 49], [4146, 1031, 4144, 4145])
def xi_107 : xN := (yX10_offenceOf, cX10_offenceOf, 7, (some .int), [0, 6, 53, 57, 63], [4198, 1031, 4196, 4197])
def xi_108 : xN := (yX10_offenceWith, cX10_offenceWith, 6, (some .int), [0, 59, 69, 79, 83, 84], [3268, 1031, 3267, 9])
def xi_109 : xN := (yX10_offenceBetween, cX10_offenceBetween, 3, (some .int), [0, 35, 36], [3264, 1031, 3262, 3263])
def xi_110 : xN := (yX10_pairPart, cX10_pairPart, 7, (some .int), [0, 5, 20, 58, 68, 70, 71, 81, 82, 90, 96], [4206, 1031, 4204, 4205])
def xi_111 : xN := (yX11_init, cX11_init, 1, none, [0], [1053, 1025, 1052, 0])
def xi_112 : xN := (yX11_feed, cX11_feed, 6, (some .int), [0, 18], [3072, 1025, 2286, 2287])
def xi_113 : xN := (yX11_end, cX11_end, 2, (some .boolean), [0], [3084, 1025, 3082, 3083])
def xi_114 : xN := (yX11_chain, cX11_chain, 2, (some .int), [0, 31], [3092, 1025, 3090, 3091])
def xi_115 : xN := (yX11_fault, cX11_fault, 1, (some .int), [0], [3207, 1025, 3205, 3206])
def xi_116 : xN := (yX11_block, cX11_block, 3, (some .int), [0, 21, 29, 80, 90, 100, 110, 119, 129, 141, 153], [5300, 1025, 5298, 5299])
def xi_117 : xN := (yX11_ahead, cX11_ahead, 3, (some .int), [0, 22, 24, 40, 41], [3211, 1025, 3209, 3210])
def xi_118 : xN := (yX11_fork, cX11_fork, 3, (some .int), [0, 22, 24], [3223, 1025, 3221, 3222])
def xi_119 : xN := (yX11_weight, cX11_weight, 3, (some .int), [0, 22, 24], [3235, 1025, 3233, 3234])
def xi_120 : xN := (yX11_voter, cX11_voter, 3, (some .int), [0, 13, 44, 54, 63, 73, 92], [3248, 1025, 3246, 3247])
def xi_121 : xN := (yX11_vote, cX11_vote, 3, (some .int), [0, 13, 40, 50, 60, 70], [4115, 1025, 4113, 4114])
def xi_122 : xN := (yX11_link, cX11_link, 5, (some .int), [0, 21, 29, 84, 87, 105, 124, 142, 161, 178, 179], [6153, 1025, 6151, 6152])
def xi_123 : xN := (yX11_votes, cX11_votes, 4, (some .int), [0, 33, 35], [4123, 1025, 4121, 4122])
def xi_124 : xN := (yX11_looks, cX11_looks, 3, (some .int), [0, 22, 24], [4159, 1025, 4157, 4158])
def xi_125 : xN := (yX11_grows, cX11_grows, 2, (some .int), [0, 13], [4167, 1025, 4165, 4166])
def xi_126 : xN := (yX11_undo, cX11_undo, 1, (some .int), [0], [4176, 1025, 4174, 4175])
def xi_127 : xN := (yX11_offends, cX11_offends, 4, (some .int), [0, 36, 38], [4188, 1025, 4186, 4187])
def xi_128 : xN := (yX11_evidence, cX11_evidence, 3, (some .int), [0, 13, 15], [4202, 1025, 4200, 4201])
def xi_129 : xN := (yX11_now, cX11_now, 2, (some .int), [0, 60, 68, 76, 84, 92, 100, 108, 116, 124, 132], [4211, 1025, 4209, 4210])
def xi_130 : xN := (yX11_chosen, cX11_chosen, 2, (some .int), [0, 34, 35], [4219, 1025, 4217, 4218])
def xi_131 : xN := (yX11_need, cX11_need, 3, (some .int), [0, 31, 32], [4223, 1025, 4221, 4222])
def xi_132 : xN := (yX11_needed, cX11_needed, 1, (some .int), [0], [4247, 1025, 4245, 4246])
def xi_133 : xN := (yX11_way, cX11_way, 2, (some .int), [0, 29, 30], [4251, 1025, 4249, 4250])
def xi_134 : xN := (yX11_wayFrom, cX11_wayFrom, 1, (some .int), [0], [4260, 1025, 4258, 4259])
def xi_135 : xN := (yX11_clash, cX11_clash, 1, (some .int), [0, 22, 23], [4264, 1025, 4262, 4263])
def xi_136 : xN := (yX11_clashAt, cX11_clashAt, 3, (some .int), [0, 29, 31, 39, 47], [4276, 1025, 4274, 4275])
def xi_137 : xN := (yX11_guilt, cX11_guilt, 3, (some .int), [0, 31, 39], [6164, 1025, 6162, 6163])
def xi_138 : xN := (yX11_mean, cX11_mean, 5, (some .int), [0, 19, 27, 34, 74, 80], [6177, 1025, 6175, 6176])
def xi_139 : xN := (yX11_tag, cX11_tag, 2, (some .int), [0, 13], [4281, 1025, 4279, 4280])
def xi_140 : xN := (yX11_byteAt, cX11_byteAt, 2, (some .int), [0, 27, 28], [5132, 1025, 5130, 5131])
def xi_141 : xN := (yX11_drawn, cX11_drawn, 4, (some .int), [0, 11, 13, 53], [5136, 1025, 5134, 5135])
def xi_142 : xN := (yX11_odds, cX11_odds, 6, (some .int), [0, 22, 24, 41, 105], [5156, 1025, 5154, 5155])
def xi_143 : xN := (yX11_book, cX11_book, 4, (some .int), [0, 13, 49, 108, 123, 132, 133], [5161, 1025, 5159, 5160])
def xi_144 : xN := (yX11_told, cX11_told, 2, (some .int), [0, 21, 22], [5196, 1025, 5194, 5195])
def xi_145 : xN := (yX11_sentence, cX11_sentence, 2, (some .int), [0, 35], [5200, 1025, 5198, 5199])
def xi_146 : xN := (yX11_said, cX11_said, 3, (some .int), [0, 18, 20, 58, 63], [5240, 1025, 5238, 5239])
def xi_147 : xN := (yX11_image, cX11_image, 2, (some .boolean), [0, 9, 11], [5270, 1025, 5268, 5269])
def xi_148 : xN := (yX11_restore, cX11_restore, 2, (some .boolean), [0, 18, 20], [5284, 1025, 5282, 5283])
def xi_149 : xN := (yX11_count, cX11_count, 2, (some .int), [0, 36, 44, 52, 60, 68, 76], [5288, 1025, 5286, 5287])
def xi_150 : xN := (yX11_closeText, cX11_closeText, 1, none, [0], [3187, 1025, 3186, 7])
def xi_151 : xN := (yX11_keepIfDone, cX11_keepIfDone, 2, (some .int), [0, 15], [4150, 1025, 4149, 20])
def xi_152 : xN := (yX11_partOfFraction, cX11_partOfFraction, 5, (some .int), [0, 14, 15, 28, 30], [6167, 1025, 6166, 0])
def xi_153 : xN := (yX11_greatestDivisor, cX11_greatestDivisor, 6, (some .int), [0, 7, 34], [6170, 1025, 6169, 0])
def xi_154 : xN := (yX11_placeOfBit, cX11_placeOfBit, 4, (some .int), [0, 4, 26, 29, 35], [5266, 1025, 5265, 0])
def xi_155 : xN := (yX12_thrown, cX12_thrown, 1, (some .int), [0], [6181, 1038, 6179, 6180])
def xi_156 : xN := (yX12_throwsIf, cX12_throwsIf, 2, (some .boolean), [0, 9, 10], [7272, 1038, 7271, 53])
def xi_157 : xN := (yX12_feed, cX12_feed, 6, (some .int), [0, 20], [6185, 1038, 6183, 6184])
def xi_158 : xN := (yX12_four, cX12_four, 3, none, [0, 3, 36], [6190, 1038, 6188, 35])
def xi_159 : xN := (yX12_end, cX12_end, 2, (some .boolean), [0, 17, 19], [6194, 1038, 6192, 6193])
def xi_160 : xN := (yX12_taken, cX12_taken, 2, none, [0], [7187, 1038, 7186, 36])
def xi_161 : xN := (yX12_isIn, cX12_isIn, 3, (some .boolean), [0, 14, 15], [7224, 1038, 7223, 0])
def xi_162 : xN := (yX12_bitOf, cX12_bitOf, 2, (some .boolean), [0, 13, 14], [7315, 1038, 7314, 0])
def xi_163 : xN := (yX12_init, cX12_init, 1, none, [0], [6198, 1038, 6197, 0])
def xi_164 : xN := (yX12_peek, cX12_peek, 1, (some .int), [0, 27, 28], [7195, 1038, 7194, 38])
def xi_165 : xN := (yX12_isSmall, cX12_isSmall, 1, (some .boolean), [0, 16, 17], [7198, 1038, 7197, 0])
def xi_166 : xN := (yX12_isDigit, cX12_isDigit, 1, (some .boolean), [0, 16, 17], [7201, 1038, 7200, 0])
def xi_167 : xN := (yX12_next, cX12_next, 4, none, [0, 18, 31, 80, 95, 140, 144, 145, 164, 181, 201, 220, 221, 248, 275, 298, 316, 317, 320, 324, 332, 333], [7191, 1038, 7190, 37])
def xi_168 : xN := (yX12_bad, cX12_bad, 2, (some .boolean), [0], [7217, 1038, 7216, 42])
def xi_169 : xN := (yX12_isWord, cX12_isWord, 3, (some .boolean), [0, 21, 22], [7209, 1038, 7208, 40])
def xi_170 : xN := (yX12_isSign, cX12_isSign, 2, (some .boolean), [0, 20, 21], [7256, 1038, 7255, 51])
def xi_171 : xN := (yX12_sign, cX12_sign, 2, (some .boolean), [0, 14], [7252, 1038, 7251, 50])
def xi_172 : xN := (yX12_isName, cX12_isName, 3, (some .boolean), [0, 12, 13, 16, 44, 45, 52], [7236, 1038, 7235, 46])
def xi_173 : xN := (yX12_takes, cX12_takes, 3, (some .boolean), [0, 14, 32], [7221, 1038, 7220, 43])
def xi_174 : xN := (yX12_seek, cX12_seek, 4, (some .int), [0, 2, 25, 31], [7240, 1038, 7239, 47])
def xi_175 : xN := (yX12_takesName, cX12_takesName, 3, (some .boolean), [0, 13, 36], [7248, 1038, 7247, 49])
def xi_176 : xN := (yX12_isNew, cX12_isNew, 1, (some .boolean), [0, 13, 43, 51, 55, 56], [7232, 1038, 7231, 45])
def xi_177 : xN := (yX12_readEpoch, cX12_readEpoch, 1, (some .boolean), [0, 13, 28], [7213, 1038, 7212, 41])
def xi_178 : xN := (yX12_readVoter, cX12_readVoter, 2, (some .boolean), [0, 19, 32, 61], [7228, 1038, 7227, 44])
def xi_179 : xN := (yX12_readBlock, cX12_readBlock, 4, (some .boolean), [0, 19, 32, 71, 87, 100, 151, 176, 189], [7244, 1038, 7243, 48])
def xi_180 : xN := (yX12_readLine, cX12_readLine, 1, (some .boolean), [0, 17, 34, 51, 56], [7205, 1038, 7204, 39])
def xi_181 : xN := (yX12_chain, cX12_chain, 2, (some .int), [0, 24, 43, 54, 77, 84, 97, 99, 126, 127, 134, 136, 180, 181, 188, 190, 226, 227, 234], [7183, 1038, 7181, 7182])
def xi_182 : xN := (yX12_fault, cX12_fault, 1, (some .int), [0], [7260, 1038, 7258, 7259])
def xi_183 : xN := (yX12_isBlock, cX12_isBlock, 2, (some .boolean), [0], [7268, 1038, 7267, 52])
def xi_184 : xN := (yX12_isVoter, cX12_isVoter, 2, (some .boolean), [0], [7362, 1038, 7361, 71])
def xi_185 : xN := (yX12_isPoint, cX12_isPoint, 2, (some .boolean), [0, 20, 21], [7335, 1038, 7334, 68])
def xi_186 : xN := (yX12_level, cX12_level, 2, (some .int), [0], [7296, 1038, 7295, 59])
def xi_187 : xN := (yX12_isAhead, cX12_isAhead, 3, (some .boolean), [0], [7350, 1038, 7349, 70])
def xi_188 : xN := (yX12_laysBlocks, cX12_laysBlocks, 3, none, [0, 2, 35, 43, 57, 67, 74], [7280, 1038, 7279, 55])
def xi_189 : xN := (yX12_weightBy, cX12_weightBy, 4, (some .int), [0, 2, 29, 42], [7323, 1038, 7322, 65])
def xi_190 : xN := (yX12_weightFor, cX12_weightFor, 6, (some .int), [0, 30, 33, 60], [7319, 1038, 7318, 64])
def xi_191 : xN := (yX12_sum, cX12_sum, 6, (some .int), [0, 6, 39, 45], [7312, 1038, 7311, 63])
def xi_192 : xN := (yX12_isEnough, cX12_isEnough, 5, (some .boolean), [0, 36, 37], [7308, 1038, 7307, 62])
def xi_193 : xN := (yX12_counts, cX12_counts, 3, (some .boolean), [0, 24, 25], [7304, 1038, 7303, 61])
def xi_194 : xN := (yX12_offenceBy, cX12_offenceBy, 6, (some .int), [0, 16, 43, 70, 74, 75, 86, 87], [7292, 1038, 7291, 58])
def xi_195 : xN := (yX12_offence, cX12_offence, 3, (some .int), [0, 66, 67], [7288, 1038, 7287, 57])
def xi_196 : xN := (yX12_laysVotes, cX12_laysVotes, 4, none, [0, 17, 37, 39, 91, 92, 118, 135, 165, 171, 177], [7284, 1038, 7283, 56])
def xi_197 : xN := (yX12_laysJust, cX12_laysJust, 5, none, [0, 17, 25, 48, 50, 91, 115, 154, 160, 166, 172, 179, 221, 227], [7300, 1038, 7299, 60])
def xi_198 : xN := (yX12_laysWay, cX12_laysWay, 4, none, [0, 2, 25, 27, 52, 62, 73, 100, 106, 130, 163], [7327, 1038, 7326, 66])
def xi_199 : xN := (yX12_bestOn, cX12_bestOn, 4, (some .int), [0, 4, 46, 48, 54], [7331, 1038, 7330, 67])
def xi_200 : xN := (yX12_lays, cX12_lays, 1, none, [0, 8, 56], [7276, 1038, 7275, 54])
def xi_201 : xN := (yX12_on, cX12_on, 4, (some .int), [0, 4, 33, 39], [7339, 1038, 7338, 69])
def xi_202 : xN := (yX12_truth, cX12_truth, 1, (some .int), [0, 8, 9], [7342, 1038, 7341, 0])
def xi_203 : xN := (yX12_block, cX12_block, 3, (some .int), [0, 19, 23, 24, 32, 80, 90, 97, 113, 114, 115, 121, 131, 143, 155], [7264, 1038, 7262, 7263])
def xi_204 : xN := (yX12_ahead, cX12_ahead, 3, (some .int), [0, 21, 23], [7346, 1038, 7344, 7345])
def xi_205 : xN := (yX12_fork, cX12_fork, 6, (some .int), [0, 21, 23, 55, 96, 102], [7354, 1038, 7352, 7353])
def xi_206 : xN := (yX12_weight, cX12_weight, 3, (some .int), [0, 21, 23, 44, 45], [7358, 1038, 7356, 7357])
def xi_207 : xN := (yX12_votesOf, cX12_votesOf, 4, (some .int), [0, 4, 32, 33, 41], [7370, 1038, 7369, 72])
def xi_208 : xN := (yX12_voter, cX12_voter, 3, (some .int), [0, 15, 52, 61, 67, 78, 90], [7366, 1038, 7364, 7365])
def xi_209 : xN := (yX12_vote, cX12_vote, 3, (some .int), [0, 23, 39, 56, 74, 75], [7374, 1038, 7372, 7373])
def xi_210 : xN := (yX12_isLink, cX12_isLink, 3, (some .boolean), [0, 16, 18, 51, 52], [7382, 1038, 7381, 73])
def xi_211 : xN := (yX12_link, cX12_link, 5, (some .int), [0, 19, 23, 24, 32, 80, 83, 92, 102, 111, 121], [7378, 1038, 7376, 7377])
def xi_212 : xN := (yX12_whyVote, cX12_whyVote, 4, (some .int), [0, 20, 22, 33, 55, 70, 71], [7390, 1038, 7389, 74])
def xi_213 : xN := (yX12_doesVote, cX12_doesVote, 5, none, [0], [7406, 1038, 7405, 78])
def xi_214 : xN := (yX12_doesLook, cX12_doesLook, 3, none, [0], [8198, 1038, 8197, 79])
def xi_215 : xN := (yX12_doesGrow, cX12_doesGrow, 3, none, [0], [8206, 1038, 8205, 80])
def xi_216 : xN := (yX12_votes, cX12_votes, 5, (some .int), [0, 29, 31, 48], [7386, 1038, 7384, 7385])
def xi_217 : xN := (yX12_looks, cX12_looks, 3, (some .int), [0, 21, 23, 39], [8194, 1038, 8192, 8193])
def xi_218 : xN := (yX12_grows, cX12_grows, 2, (some .int), [0, 15, 28], [8202, 1038, 8200, 8201])
def xi_219 : xN := (yX12_stores, cX12_stores, 3, none, [0, 11, 40, 46, 48, 79], [7402, 1038, 7401, 77])
def xi_220 : xN := (yX12_copies, cX12_copies, 3, none, [0, 2, 26], [7398, 1038, 7397, 76])
def xi_221 : xN := (yX12_brings, cX12_brings, 4, none, [0, 2, 28], [8214, 1038, 8213, 81])
def xi_222 : xN := (yX12_keeps, cX12_keeps, 1, none, [0], [7394, 1038, 7393, 75])
def xi_223 : xN := (yX12_undo, cX12_undo, 1, (some .int), [0, 14], [8210, 1038, 8208, 8209])
def xi_224 : xN := (yX12_offenceOf, cX12_offenceOf, 7, (some .int), [0, 6, 61, 62, 81, 86, 88, 96], [8222, 1038, 8221, 82])
def xi_225 : xN := (yX12_offends, cX12_offends, 5, (some .int), [0, 29, 31, 54, 61], [8218, 1038, 8216, 8217])
def xi_226 : xN := (yX12_evidence, cX12_evidence, 7, (some .int), [0, 32, 34, 39, 56, 85, 99, 109, 111, 112, 115, 121, 127], [8226, 1038, 8224, 8225])
def xi_227 : xN := (yX12_now, cX12_now, 2, (some .int), [0, 60, 65, 70, 75, 82, 87, 92, 97, 102, 113, 124, 125], [8230, 1038, 8228, 8229])
def xi_228 : xN := (yX12_chosen, cX12_chosen, 2, (some .int), [0, 32, 33], [8234, 1038, 8232, 8233])
def xi_229 : xN := (yX12_bitsIn, cX12_bitsIn, 3, (some .int), [0, 4, 24], [8245, 1038, 8244, 0])
def xi_230 : xN := (yX12_needOf, cX12_needOf, 7, (some .int), [0, 28, 34, 86, 92, 95, 109, 151, 160, 166, 172], [8242, 1038, 8241, 83])
def xi_231 : xN := (yX12_need, cX12_need, 4, (some .int), [0, 23, 24, 37], [8238, 1038, 8236, 8237])
def xi_232 : xN := (yX12_needed, cX12_needed, 1, (some .int), [0], [8249, 1038, 8247, 8248])
def xi_233 : xN := (yX12_way, cX12_way, 6, (some .int), [0, 15, 29, 44, 45, 51, 91, 118, 124, 130, 139], [8253, 1038, 8251, 8252])
def xi_234 : xN := (yX12_wayFrom, cX12_wayFrom, 1, (some .int), [0], [8257, 1038, 8255, 8256])
def xi_235 : xN := (yX12_clashOf, cX12_clashOf, 4, (some .int), [0, 6, 20, 73, 81, 82, 83, 89, 95], [8265, 1038, 8264, 84])
def xi_236 : xN := (yX12_clash, cX12_clash, 1, (some .int), [0, 17, 18], [8261, 1038, 8259, 8260])
def xi_237 : xN := (yX12_clashAt, cX12_clashAt, 2, (some .int), [0, 22, 23], [8269, 1038, 8267, 8268])
def xi_238 : xN := (yX12_least, cX12_least, 6, (some .int), [0, 5, 26, 34, 35], [8276, 1038, 8275, 0])
def xi_239 : xN := (yX12_guilt, cX12_guilt, 5, (some .int), [0, 11, 59, 60, 68, 82, 86, 87, 95], [8273, 1038, 8271, 8272])
def xi_240 : xN := (yX12_mean, cX12_mean, 5, (some .int), [0, 19, 23, 24, 32, 43, 66, 79, 85], [8280, 1038, 8278, 8279])
def xi_241 : xN := (yX12_puts, cX12_puts, 2, none, [0], [8293, 1038, 8292, 86])
def xi_242 : xN := (yX12_spells, cX12_spells, 4, none, [0, 3, 31, 37], [8288, 1038, 8287, 85])
def xi_243 : xN := (yX12_laysNumber, cX12_laysNumber, 2, none, [0, 17], [8298, 1038, 8297, 87])
def xi_244 : xN := (yX12_tag, cX12_tag, 2, (some .int), [0, 23], [8284, 1038, 8282, 8283])
def xi_245 : xN := (yX12_byteAt, cX12_byteAt, 2, (some .int), [0, 28, 29], [8303, 1038, 8301, 8302])
def xi_246 : xN := (yX12_draw, cX12_draw, 2, (some .int), [0], [8315, 1038, 8314, 89])
def xi_247 : xN := (yX12_drawDeed, cX12_drawDeed, 5, (some .boolean), [0, 35, 42, 53, 85, 93, 118], [8311, 1038, 8310, 88])
def xi_248 : xN := (yX12_drawn, cX12_drawn, 5, (some .int), [0, 17, 28, 46, 64, 65, 73, 85], [8307, 1038, 8305, 8306])
def xi_249 : xN := (yX12_isChosen, cX12_isChosen, 4, (some .boolean), [0, 8, 30, 34, 35, 42], [8324, 1038, 8323, 90])
def xi_250 : xN := (yX12_odds, cX12_odds, 7, (some .int), [0, 23, 25, 39, 56, 74, 88, 89, 107], [8320, 1038, 8318, 8319])
def xi_251 : xN := (yX12_bookLine, cX12_bookLine, 2, (some .boolean), [0, 26, 40, 54, 55, 71, 86, 116, 128, 145, 168, 185], [8332, 1038, 8331, 91])
def xi_252 : xN := (yX12_does, cX12_does, 5, (some .int), [0, 62, 65, 92, 100, 114], [8336, 1038, 8335, 92])
def xi_253 : xN := (yX12_book, cX12_book, 4, (some .int), [0, 18, 39, 62, 70, 83, 102, 138, 144, 164, 165, 192, 203, 225, 242], [8328, 1038, 8326, 8327])
def xi_254 : xN := (yX12_told, cX12_told, 2, (some .int), [0, 30, 31], [8340, 1038, 8338, 8339])
def xi_255 : xN := (yX12_code, cX12_code, 4, none, [0], [8352, 1038, 8351, 94])
def xi_256 : xN := (yX12_joins, cX12_joins, 2, none, [0, 45, 73], [8356, 1038, 8355, 95])
def xi_257 : xN := (yX12_nots, cX12_nots, 1, none, [0, 54], [8348, 1038, 8347, 93])
def xi_258 : xN := (yX12_leafOf, cX12_leafOf, 1, (some .int), [0, 14, 28, 42, 56, 70, 84, 99, 114, 129, 144, 145], [8368, 1038, 8367, 98])
def xi_259 : xN := (yX12_operand, cX12_operand, 5, (some .boolean), [0, 38, 56, 62, 84, 101, 103, 126, 145, 167, 179, 205, 211, 235], [8364, 1038, 8363, 97])
def xi_260 : xN := (yX12_behindOne, cX12_behindOne, 1, (some .boolean), [0, 24, 40, 42, 68, 70, 92, 114, 120], [8360, 1038, 8359, 96])
def xi_261 : xN := (yX12_sentence, cX12_sentence, 3, (some .int), [0, 48, 96, 101, 118, 125, 132, 146, 178], [8344, 1038, 8342, 8343])
def xi_262 : xN := (yX12_isSo, cX12_isSo, 3, (some .boolean), [0, 15, 19, 34, 38, 47, 48], [8383, 1038, 8382, 0])
def xi_263 : xN := (yX12_isLeaf, cX12_isLeaf, 5, (some .boolean), [0, 52, 64, 65, 66, 72, 81, 90, 96, 104, 117, 143, 144, 145, 158], [8380, 1038, 8379, 100])
def xi_264 : xN := (yX12_isSaid, cX12_isSaid, 5, (some .boolean), [0, 4, 59, 60, 64, 88, 134, 138, 158, 162, 163, 167, 206, 212], [8376, 1038, 8375, 99])
def xi_265 : xN := (yX12_said, cX12_said, 4, (some .int), [0, 21, 23, 31, 52, 59, 62, 68, 77, 78], [8372, 1038, 8370, 8371])
def xi_266 : xN := (yX12_image, cX12_image, 3, (some .boolean), [0, 16, 18, 49, 51, 80], [8387, 1038, 8385, 8386])
def xi_267 : xN := (yX12_restore, cX12_restore, 3, (some .boolean), [0, 23, 25, 27, 58, 60, 89], [8391, 1038, 8389, 8390])
def xi_268 : xN := (yX12_count, cX12_count, 4, (some .int), [0, 13, 36, 37, 45, 80, 87, 94, 101, 103, 108], [8395, 1038, 8393, 8394])
def xi_269 : xN := (x, cL_law, 7, (some .boolean), [0, 23, 208, 281, 306, 319, 332, 380, 397, 400, 437, 474, 511, 548, 585, 645, 662, 665, 714, 751, 776, 789, 838, 875, 900, 925, 962, 975, 1000, 1013, 1026, 1051, 1087, 1104, 1107, 1143, 1160, 1163, 1188, 1213, 1250, 1299, 1324, 1349, 1362, 1387, 1412, 1437, 1462, 1468], [])
def xi_270 : xN := (yL_block, cL_block, 5, (some .int), [], [5295, 1024, 5294, 0])
def xi_271 : xN := (yL_link, cL_link, 6, (some .int), [], [6149, 1024, 6148, 0])
def xi_272 : xN := (yL_guilt, cL_guilt, 4, (some .int), [], [6160, 1024, 6159, 0])
def xi_273 : xN := (yL_mean, cL_mean, 4, (some .int), [], [6173, 1024, 6172, 0])
def xi_274 : xN := (yJ6_numberOfLeadingZeros_0f7a4, cJ6_numberOfLeadingZeros_0f7a4, 2, (some .int), [0, 13, 14, 15, 33, 48, 61, 73], [3230, 1044, 3229, 0])
def xi_275 : xN := (yJ6_bitCount_0f7a4, cJ6_bitCount_0f7a4, 1, (some .int), [0], [4239, 1044, 4238, 0])
def xinfo : List xN := [xi_0, xi_1, xi_2, xi_3, xi_4, xi_5, xi_6, xi_7, xi_8, xi_9, xi_10, xi_11, xi_12, xi_13, xi_14, xi_15, xi_16, xi_17, xi_18, xi_19, xi_20, xi_21, xi_22, xi_23, xi_24, xi_25, xi_26, xi_27, xi_28, xi_29, xi_30, xi_31, xi_32, xi_33, xi_34, xi_35, xi_36, xi_37, xi_38, xi_39, xi_40, xi_41, xi_42, xi_43, xi_44, xi_45, xi_46, xi_47, xi_48, xi_49, xi_50, xi_51, xi_52, xi_53, xi_54, xi_55, xi_56, xi_57, xi_58, xi_59, xi_60, xi_61, xi_62, xi_63, xi_64, xi_65, xi_66, xi_67, xi_68, xi_69, xi_70, xi_71, xi_72, xi_73, xi_74, xi_75, xi_76, xi_77, xi_78, xi_79, xi_80, xi_81, xi_82, xi_83, xi_84, xi_85, xi_86, xi_87, xi_88, xi_89, xi_90, xi_91, xi_92, xi_93, xi_94, xi_95, xi_96, xi_97, xi_98, xi_99, xi_100, xi_101, xi_102, xi_103, xi_104, xi_105, xi_106, xi_107, xi_108, xi_109, xi_110, xi_111, xi_112, xi_113, xi_114, xi_115, xi_116, xi_117, xi_118, xi_119, xi_120, xi_121, xi_122, xi_123, xi_124, xi_125, xi_126, xi_127, xi_128, xi_129, xi_130, xi_131, xi_132, xi_133, xi_134, xi_135, xi_136, xi_137, xi_138, xi_139, xi_140, xi_141, xi_142, xi_143, xi_144, xi_145, xi_146, xi_147, xi_148, xi_149, xi_150, xi_151, xi_152, xi_153, xi_154, xi_155, xi_156, xi_157, xi_158, xi_159, xi_160, xi_161, xi_162, xi_163, xi_164, xi_165, xi_166, xi_167, xi_168, xi_169, xi_170, xi_171, xi_172, xi_173, xi_174, xi_175, xi_176, xi_177, xi_178, xi_179, xi_180, xi_181, xi_182, xi_183, xi_184, xi_185, xi_186, xi_187, xi_188, xi_189, xi_190, xi_191, xi_192, xi_193, xi_194, xi_195, xi_196, xi_197, xi_198, xi_199, xi_200, xi_201, xi_202, xi_203, xi_204, xi_205, xi_206, xi_207, xi_208, xi_209, xi_210, xi_211, xi_212, xi_213, xi_214, xi_215, xi_216, xi_217, xi_218, xi_219, xi_220, xi_221, xi_222, xi_223, xi_224, xi_225, xi_226, xi_227, xi_228, xi_229, xi_230, xi_231, xi_232, xi_233, xi_234, xi_235, xi_236, xi_237, xi_238, xi_239, xi_240, xi_241, xi_242, xi_243, xi_244, xi_245, xi_246, xi_247, xi_248, xi_249, xi_250, xi_251, xi_252, xi_253, xi_254, xi_255, xi_256, xi_257, xi_258, xi_259, xi_260, xi_261, xi_262, xi_263, xi_264, xi_265, xi_266, xi_267, xi_268, xi_269, xi_270, xi_271, xi_272, xi_273, xi_274, xi_275]
def xch (c : Nat) : List Cond := match c with
  | 0 => k2_sels lw_privs
  | 1 => tables_1_1
  | 2 => tables_1_2
  | 3 => tables_1_3
  | 4 => tables_1_4
  | 5 => tables_1_5
  | 6 => tables_1_6
  | 7 => tables_1_7
  | _ => tables_1_8
theorem xch_in (c : Nat) : ∀ w ∈ xch c, w ∈ lw_tbl := by
  intro w h
  unfold xch at h
  unfold lw_tbl tables_1
  simp only [List.mem_append]
  split at h <;> simp [h]
def xTb (w : Cond) (k : Nat) : Bool := decide (xn (xch (k / 1024)) (k % 1024) = some w) && goodWord w
def xTl : List Cond := lw_tbl.filter goodWord
theorem xTb_in {w : Cond} {k : Nat} (h : xTb w k = true) : w ∈ xTl := by
  simp only [xTb, Bool.and_eq_true, decide_eq_true_eq] at h
  rw [xn_eq] at h
  exact List.mem_filter.mpr ⟨xch_in _ _ (List.mem_of_getElem? h.1), h.2⟩
theorem xTl_good : ∀ w ∈ xTl, (w.onTables && w.keeps) = true ∨ ∃ ty, w = .arrayClass ty := fun _ h => good_of_word (List.mem_filter.mp h).2
def xh (i : xI) (j : Nat) : Nat := match xn i.2.2.2.2 j with
  | some a => a.2
  | none => 0
def xtg (starts : List Nat) (pc : Nat) (off : Int) (t : Nat) : Bool := match xn starts t with
  | some tg => decide ((pc : Int) + off = (tg : Int))
  | none => false
def xswc (starts : List Nat) (pc : Nat) : Int → List Int → List (Int32 × Nat) → Bool
  | _, [], [] => true
  | lo, o :: os, a :: ts => decide (a.1.toInt = lo) && xtg starts pc o a.2 && xswc starts pc (lo + 1) os ts
  | _, _, _ => false
def xlkc (starts : List Nat) (pc : Nat) : List (Int × Int) → List (Int32 × Nat) → Bool
  | [], [] => true
  | o :: os, a :: ts => decide (a.1.toInt = o.1) && xtg starts pc o.2 a.2 && xlkc starts pc os ts
  | _, _ => false
/-- what a method is: 0 static, 1 a constructor, 2 of an object, 3 the law itself, 4 the law's own that catch -/
def xflag : List Nat := [1, 2, 2, 2, 2, 2, 1, 2, 2, 2, 2, 2, 2, 1, 2, 2, 2, 2, 2, 2, 2, 2, 2, 2, 2, 2, 2, 2, 2, 2, 2, 2, 2, 2, 2, 2, 2, 2, 2, 1, 2, 2, 2, 1, 2, 2, 2, 2, 2, 2, 2, 2, 2, 2, 2, 2, 2, 1, 2, 2, 2, 1, 2, 2, 2, 2, 1, 2, 2, 2, 2, 0, 2, 2, 2, 2, 2, 2, 2, 1, 2, 2, 2, 2, 2, 2, 2, 1, 2, 2, 2, 0, 0, 0, 2, 2, 2, 2, 2, 1, 2, 2, 2, 2, 2, 2, 2, 2, 2, 2, 2, 1, 2, 2, 2, 2, 2, 2, 2, 2, 2, 2, 2, 2, 2, 2, 2, 2, 2, 2, 2, 2, 2, 2, 2, 2, 2, 2, 2, 2, 2, 2, 2, 2, 2, 2, 2, 2, 2, 2, 2, 2, 0, 0, 0, 2, 2, 2, 2, 2, 2, 0, 0, 1, 2, 0, 0, 2, 2, 2, 2, 2, 2, 2, 2, 2, 2, 2, 2, 2, 2, 2, 2, 2, 2, 2, 2, 2, 2, 2, 2, 2, 2, 2, 2, 2, 2, 2, 2, 2, 2, 2, 0, 2, 2, 2, 2, 2, 2, 2, 2, 2, 2, 2, 2, 2, 2, 2, 2, 2, 2, 2, 2, 2, 2, 2, 2, 2, 2, 0, 2, 2, 2, 2, 2, 2, 2, 2, 0, 2, 2, 2, 2, 2, 2, 2, 2, 2, 2, 2, 2, 2, 2, 2, 2, 2, 2, 2, 2, 2, 2, 2, 0, 2, 2, 2, 2, 2, 2, 3, 4, 4, 4, 4, 0, 0]
def xwh (mid : Nat) : Option (List (Nat × Nat × Nat × Nat)) := match mid with
  | 270 => some [(0, 10, 13, 13)]
  | 271 => some [(0, 12, 15, 13)]
  | 272 => some [(0, 9, 12, 13)]
  | 273 => some [(0, 9, 12, 13)]
  | _ => none
def xhd (mid : Nat) (mi : xN) : Cond := match xwh mid with
  | some hh => .codeWith mi.1 mi.2.1 mi.2.2.1 mi.2.2.2.1 hh
  | none => .code mi.1 mi.2.1 mi.2.2.1 mi.2.2.2.1
/-- the words of a callee -/
def xMw (mi : xN) (f : Nat) : Bool := match mi.2.2.2.2.2 with
  | [_, h1, h2, h3] => xTb (.initialized mi.1.cls) h1 && (match f with | 1 => xTb (.instanceMethod mi.1) h2 && decide (mi.1.name = "<init>") | 2 => xTb (.instanceMethod mi.1) h2 && xTb (.selects mi.1.cls mi.1 mi.1) h3 | _ => xTb (.static mi.1) h2) &&
      decide (mi.1.cls ≠ "java/lang/invoke/MethodHandle") && decide (mi.1.cls ≠ "java/lang/invoke/VarHandle") && decide (mi.2.2.1 ≤ 40) && decide (plainName mi.1.cls = true)
  | _ => false
def xMwL : Nat → List xN → List Nat → Bool
  | _, [], _ => true
  | mid, mi :: l, f :: fs => (decide (f = 3) || xMw mi f) && xMwL (mid + 1) l fs
  | _, _, _ => false
theorem xMwL_at : ∀ (b : Nat) (l : List xN) (fs : List Nat), xMwL b l fs = true → ∀ (j : Nat) (mi : xN) (f : Nat), xn l j = some mi → xn fs j = some f → ¬ f = 3 → xMw mi f = true
  | b, [], fs, h, j, mi, f, h1, h2, h3 => by cases h1
  | b, a :: l, [], h, j, mi, f, h1, h2, h3 => by cases h
  | b, a :: l, g :: fs, h, 0, mi, f, h1, h2, h3 => by
    simp only [xMwL, Bool.and_eq_true, Bool.or_eq_true, decide_eq_true_eq] at h
    cases h1
    cases h2
    exact h.1.resolve_left h3
  | b, a :: l, g :: fs, h, j + 1, mi, f, h1, h2, h3 => by
    simp only [xMwL, Bool.and_eq_true] at h
    exact xMwL_at (b + 1) l fs h.2 j mi f h1 h2 h3
theorem xMw_all : xMwL 0 xinfo xflag = true := by decide +kernel
theorem xmem {c k : Nat} {w : Cond} (h : xn (xch c) k = some w) (hg : goodWord w = true) : w ∈ xTl := by
  rw [xn_eq] at h
  exact List.mem_filter.mpr ⟨xch_in _ _ (List.mem_of_getElem? h), hg⟩
def xCdL : Nat → List xN → Prop
  | _, [] => True
  | mid, mi :: l => (xhd mid mi ∈ xTl ∨ mid = 269) ∧ xCdL (mid + 1) l
theorem xCdL_at : ∀ (b : Nat) (l : List xN), xCdL b l → ∀ (j : Nat) (mi : xN), xn l j = some mi → xhd (b + j) mi ∈ xTl ∨ b + j = 269
  | b, [], _, j, mi, h => by cases h
  | b, a :: l, h, 0, mi, h1 => by cases h1; exact h.1
  | b, a :: l, h, j + 1, mi, h1 => by
    have := xCdL_at (b + 1) l h.2 j mi h1
    rwa [show b + 1 + j = b + (j + 1) by omega] at this
theorem xcd_0 : xhd 0 xi_0 ∈ xTl ∨ 0 = 269 := Or.inl (xmem (c := 2) (k := 130) rfl rfl)
theorem xcd_1 : xhd 1 xi_1 ∈ xTl ∨ 1 = 269 := Or.inl (xmem (c := 5) (k := 45) rfl rfl)
theorem xcd_2 : xhd 2 xi_2 ∈ xTl ∨ 2 = 269 := Or.inl (xmem (c := 5) (k := 50) rfl rfl)
theorem xcd_3 : xhd 3 xi_3 ∈ xTl ∨ 3 = 269 := Or.inl (xmem (c := 5) (k := 60) rfl rfl)
theorem xcd_4 : xhd 4 xi_4 ∈ xTl ∨ 4 = 269 := Or.inl (xmem (c := 5) (k := 71) rfl rfl)
theorem xcd_5 : xhd 5 xi_5 ∈ xTl ∨ 5 = 269 := Or.inl (xmem (c := 5) (k := 64) rfl rfl)
theorem xcd_6 : xhd 6 xi_6 ∈ xTl ∨ 6 = 269 := Or.inl (xmem (c := 1) (k := 37) rfl rfl)
theorem xcd_7 : xhd 7 xi_7 ∈ xTl ∨ 7 = 269 := Or.inl (xmem (c := 3) (k := 8) rfl rfl)
theorem xcd_8 : xhd 8 xi_8 ∈ xTl ∨ 8 = 269 := Or.inl (xmem (c := 3) (k := 4) rfl rfl)
theorem xcd_9 : xhd 9 xi_9 ∈ xTl ∨ 9 = 269 := Or.inl (xmem (c := 4) (k := 189) rfl rfl)
theorem xcd_10 : xhd 10 xi_10 ∈ xTl ∨ 10 = 269 := Or.inl (xmem (c := 4) (k := 194) rfl rfl)
theorem xcd_11 : xhd 11 xi_11 ∈ xTl ∨ 11 = 269 := Or.inl (xmem (c := 5) (k := 6) rfl rfl)
theorem xcd_12 : xhd 12 xi_12 ∈ xTl ∨ 12 = 269 := Or.inl (xmem (c := 3) (k := 16) rfl rfl)
theorem xcd_13 : xhd 13 xi_13 ∈ xTl ∨ 13 = 269 := Or.inl (xmem (c := 1) (k := 115) rfl rfl)
theorem xcd_14 : xhd 14 xi_14 ∈ xTl ∨ 14 = 269 := Or.inl (xmem (c := 3) (k := 123) rfl rfl)
theorem xcd_15 : xhd 15 xi_15 ∈ xTl ∨ 15 = 269 := Or.inl (xmem (c := 3) (k := 24) rfl rfl)
theorem xcd_16 : xhd 16 xi_16 ∈ xTl ∨ 16 = 269 := Or.inl (xmem (c := 3) (k := 54) rfl rfl)
theorem xcd_17 : xhd 17 xi_17 ∈ xTl ∨ 17 = 269 := Or.inl (xmem (c := 3) (k := 58) rfl rfl)
theorem xcd_18 : xhd 18 xi_18 ∈ xTl ∨ 18 = 269 := Or.inl (xmem (c := 3) (k := 72) rfl rfl)
theorem xcd_19 : xhd 19 xi_19 ∈ xTl ∨ 19 = 269 := Or.inl (xmem (c := 3) (k := 96) rfl rfl)
theorem xcd_20 : xhd 20 xi_20 ∈ xTl ∨ 20 = 269 := Or.inl (xmem (c := 3) (k := 92) rfl rfl)
theorem xcd_21 : xhd 21 xi_21 ∈ xTl ∨ 21 = 269 := Or.inl (xmem (c := 3) (k := 108) rfl rfl)
theorem xcd_22 : xhd 22 xi_22 ∈ xTl ∨ 22 = 269 := Or.inl (xmem (c := 3) (k := 172) rfl rfl)
theorem xcd_23 : xhd 23 xi_23 ∈ xTl ∨ 23 = 269 := Or.inl (xmem (c := 3) (k := 143) rfl rfl)
theorem xcd_24 : xhd 24 xi_24 ∈ xTl ∨ 24 = 269 := Or.inl (xmem (c := 3) (k := 167) rfl rfl)
theorem xcd_25 : xhd 25 xi_25 ∈ xTl ∨ 25 = 269 := Or.inl (xmem (c := 4) (k := 96) rfl rfl)
theorem xcd_26 : xhd 26 xi_26 ∈ xTl ∨ 26 = 269 := Or.inl (xmem (c := 3) (k := 147) rfl rfl)
theorem xcd_27 : xhd 27 xi_27 ∈ xTl ∨ 27 = 269 := Or.inl (xmem (c := 3) (k := 155) rfl rfl)
theorem xcd_28 : xhd 28 xi_28 ∈ xTl ∨ 28 = 269 := Or.inl (xmem (c := 5) (k := 136) rfl rfl)
theorem xcd_29 : xhd 29 xi_29 ∈ xTl ∨ 29 = 269 := Or.inl (xmem (c := 5) (k := 172) rfl rfl)
theorem xcd_30 : xhd 30 xi_30 ∈ xTl ∨ 30 = 269 := Or.inl (xmem (c := 3) (k := 76) rfl rfl)
theorem xcd_31 : xhd 31 xi_31 ∈ xTl ∨ 31 = 269 := Or.inl (xmem (c := 3) (k := 80) rfl rfl)
theorem xcd_32 : xhd 32 xi_32 ∈ xTl ∨ 32 = 269 := Or.inl (xmem (c := 3) (k := 84) rfl rfl)
theorem xcd_33 : xhd 33 xi_33 ∈ xTl ∨ 33 = 269 := Or.inl (xmem (c := 3) (k := 212) rfl rfl)
theorem xcd_34 : xhd 34 xi_34 ∈ xTl ∨ 34 = 269 := Or.inl (xmem (c := 3) (k := 229) rfl rfl)
theorem xcd_35 : xhd 35 xi_35 ∈ xTl ∨ 35 = 269 := Or.inl (xmem (c := 3) (k := 216) rfl rfl)
theorem xcd_36 : xhd 36 xi_36 ∈ xTl ∨ 36 = 269 := Or.inl (xmem (c := 3) (k := 225) rfl rfl)
theorem xcd_37 : xhd 37 xi_37 ∈ xTl ∨ 37 = 269 := Or.inl (xmem (c := 3) (k := 208) rfl rfl)
theorem xcd_38 : xhd 38 xi_38 ∈ xTl ∨ 38 = 269 := Or.inl (xmem (c := 3) (k := 221) rfl rfl)
theorem xcd_39 : xhd 39 xi_39 ∈ xTl ∨ 39 = 269 := Or.inl (xmem (c := 2) (k := 156) rfl rfl)
theorem xcd_40 : xhd 40 xi_40 ∈ xTl ∨ 40 = 269 := Or.inl (xmem (c := 5) (k := 20) rfl rfl)
theorem xcd_41 : xhd 41 xi_41 ∈ xTl ∨ 41 = 269 := Or.inl (xmem (c := 5) (k := 24) rfl rfl)
theorem xcd_42 : xhd 42 xi_42 ∈ xTl ∨ 42 = 269 := Or.inl (xmem (c := 5) (k := 28) rfl rfl)
theorem xcd_43 : xhd 43 xi_43 ∈ xTl ∨ 43 = 269 := Or.inl (xmem (c := 2) (k := 33) rfl rfl)
theorem xcd_44 : xhd 44 xi_44 ∈ xTl ∨ 44 = 269 := Or.inl (xmem (c := 3) (k := 184) rfl rfl)
theorem xcd_45 : xhd 45 xi_45 ∈ xTl ∨ 45 = 269 := Or.inl (xmem (c := 3) (k := 188) rfl rfl)
theorem xcd_46 : xhd 46 xi_46 ∈ xTl ∨ 46 = 269 := Or.inl (xmem (c := 3) (k := 200) rfl rfl)
theorem xcd_47 : xhd 47 xi_47 ∈ xTl ∨ 47 = 269 := Or.inl (xmem (c := 3) (k := 204) rfl rfl)
theorem xcd_48 : xhd 48 xi_48 ∈ xTl ∨ 48 = 269 := Or.inl (xmem (c := 3) (k := 233) rfl rfl)
theorem xcd_49 : xhd 49 xi_49 ∈ xTl ∨ 49 = 269 := Or.inl (xmem (c := 3) (k := 237) rfl rfl)
theorem xcd_50 : xhd 50 xi_50 ∈ xTl ∨ 50 = 269 := Or.inl (xmem (c := 4) (k := 1) rfl rfl)
theorem xcd_51 : xhd 51 xi_51 ∈ xTl ∨ 51 = 269 := Or.inl (xmem (c := 4) (k := 6) rfl rfl)
theorem xcd_52 : xhd 52 xi_52 ∈ xTl ∨ 52 = 269 := Or.inl (xmem (c := 4) (k := 11) rfl rfl)
theorem xcd_53 : xhd 53 xi_53 ∈ xTl ∨ 53 = 269 := Or.inl (xmem (c := 4) (k := 15) rfl rfl)
theorem xcd_54 : xhd 54 xi_54 ∈ xTl ∨ 54 = 269 := Or.inl (xmem (c := 4) (k := 119) rfl rfl)
theorem xcd_55 : xhd 55 xi_55 ∈ xTl ∨ 55 = 269 := Or.inl (xmem (c := 4) (k := 172) rfl rfl)
theorem xcd_56 : xhd 56 xi_56 ∈ xTl ∨ 56 = 269 := Or.inl (xmem (c := 4) (k := 176) rfl rfl)
theorem xcd_57 : xhd 57 xi_57 ∈ xTl ∨ 57 = 269 := Or.inl (xmem (c := 2) (k := 166) rfl rfl)
theorem xcd_58 : xhd 58 xi_58 ∈ xTl ∨ 58 = 269 := Or.inl (xmem (c := 3) (k := 131) rfl rfl)
theorem xcd_59 : xhd 59 xi_59 ∈ xTl ∨ 59 = 269 := Or.inl (xmem (c := 4) (k := 58) rfl rfl)
theorem xcd_60 : xhd 60 xi_60 ∈ xTl ∨ 60 = 269 := Or.inl (xmem (c := 4) (k := 84) rfl rfl)
theorem xcd_61 : xhd 61 xi_61 ∈ xTl ∨ 61 = 269 := Or.inl (xmem (c := 2) (k := 106) rfl rfl)
theorem xcd_62 : xhd 62 xi_62 ∈ xTl ∨ 62 = 269 := Or.inl (xmem (c := 4) (k := 131) rfl rfl)
theorem xcd_63 : xhd 63 xi_63 ∈ xTl ∨ 63 = 269 := Or.inl (xmem (c := 4) (k := 159) rfl rfl)
theorem xcd_64 : xhd 64 xi_64 ∈ xTl ∨ 64 = 269 := Or.inl (xmem (c := 4) (k := 135) rfl rfl)
theorem xcd_65 : xhd 65 xi_65 ∈ xTl ∨ 65 = 269 := Or.inl (xmem (c := 4) (k := 139) rfl rfl)
theorem xcd_66 : xhd 66 xi_66 ∈ xTl ∨ 66 = 269 := Or.inl (xmem (c := 1) (k := 225) rfl rfl)
theorem xcd_67 : xhd 67 xi_67 ∈ xTl ∨ 67 = 269 := Or.inl (xmem (c := 3) (k := 127) rfl rfl)
theorem xcd_68 : xhd 68 xi_68 ∈ xTl ∨ 68 = 269 := Or.inl (xmem (c := 5) (k := 115) rfl rfl)
theorem xcd_69 : xhd 69 xi_69 ∈ xTl ∨ 69 = 269 := Or.inl (xmem (c := 5) (k := 84) rfl rfl)
theorem xcd_70 : xhd 70 xi_70 ∈ xTl ∨ 70 = 269 := Or.inl (xmem (c := 5) (k := 90) rfl rfl)
theorem xcd_71 : xhd 71 xi_71 ∈ xTl ∨ 71 = 269 := Or.inl (xmem (c := 5) (k := 111) rfl rfl)
theorem xcd_72 : xhd 72 xi_72 ∈ xTl ∨ 72 = 269 := Or.inl (xmem (c := 5) (k := 94) rfl rfl)
theorem xcd_73 : xhd 73 xi_73 ∈ xTl ∨ 73 = 269 := Or.inl (xmem (c := 5) (k := 107) rfl rfl)
theorem xcd_74 : xhd 74 xi_74 ∈ xTl ∨ 74 = 269 := Or.inl (xmem (c := 5) (k := 101) rfl rfl)
theorem xcd_75 : xhd 75 xi_75 ∈ xTl ∨ 75 = 269 := Or.inl (xmem (c := 5) (k := 124) rfl rfl)
theorem xcd_76 : xhd 76 xi_76 ∈ xTl ∨ 76 = 269 := Or.inl (xmem (c := 5) (k := 128) rfl rfl)
theorem xcd_77 : xhd 77 xi_77 ∈ xTl ∨ 77 = 269 := Or.inl (xmem (c := 5) (k := 132) rfl rfl)
theorem xcd_78 : xhd 78 xi_78 ∈ xTl ∨ 78 = 269 := Or.inl (xmem (c := 5) (k := 142) rfl rfl)
theorem xcd_79 : xhd 79 xi_79 ∈ xTl ∨ 79 = 269 := Or.inl (xmem (c := 1) (k := 109) rfl rfl)
theorem xcd_80 : xhd 80 xi_80 ∈ xTl ∨ 80 = 269 := Or.inl (xmem (c := 5) (k := 154) rfl rfl)
theorem xcd_81 : xhd 81 xi_81 ∈ xTl ∨ 81 = 269 := Or.inl (xmem (c := 3) (k := 119) rfl rfl)
theorem xcd_82 : xhd 82 xi_82 ∈ xTl ∨ 82 = 269 := Or.inl (xmem (c := 4) (k := 31) rfl rfl)
theorem xcd_83 : xhd 83 xi_83 ∈ xTl ∨ 83 = 269 := Or.inl (xmem (c := 4) (k := 88) rfl rfl)
theorem xcd_84 : xhd 84 xi_84 ∈ xTl ∨ 84 = 269 := Or.inl (xmem (c := 4) (k := 36) rfl rfl)
theorem xcd_85 : xhd 85 xi_85 ∈ xTl ∨ 85 = 269 := Or.inl (xmem (c := 4) (k := 67) rfl rfl)
theorem xcd_86 : xhd 86 xi_86 ∈ xTl ∨ 86 = 269 := Or.inl (xmem (c := 4) (k := 75) rfl rfl)
theorem xcd_87 : xhd 87 xi_87 ∈ xTl ∨ 87 = 269 := Or.inl (xmem (c := 1) (k := 58) rfl rfl)
theorem xcd_88 : xhd 88 xi_88 ∈ xTl ∨ 88 = 269 := Or.inl (xmem (c := 3) (k := 28) rfl rfl)
theorem xcd_89 : xhd 89 xi_89 ∈ xTl ∨ 89 = 269 := Or.inl (xmem (c := 3) (k := 35) rfl rfl)
theorem xcd_90 : xhd 90 xi_90 ∈ xTl ∨ 90 = 269 := Or.inl (xmem (c := 3) (k := 42) rfl rfl)
theorem xcd_91 : xhd 91 xi_91 ∈ xTl ∨ 91 = 269 := Or.inl (xmem (c := 3) (k := 48) rfl rfl)
theorem xcd_92 : xhd 92 xi_92 ∈ xTl ∨ 92 = 269 := Or.inl (xmem (c := 3) (k := 38) rfl rfl)
theorem xcd_93 : xhd 93 xi_93 ∈ xTl ∨ 93 = 269 := Or.inl (xmem (c := 3) (k := 45) rfl rfl)
theorem xcd_94 : xhd 94 xi_94 ∈ xTl ∨ 94 = 269 := Or.inl (xmem (c := 3) (k := 67) rfl rfl)
theorem xcd_95 : xhd 95 xi_95 ∈ xTl ∨ 95 = 269 := Or.inl (xmem (c := 3) (k := 100) rfl rfl)
theorem xcd_96 : xhd 96 xi_96 ∈ xTl ∨ 96 = 269 := Or.inl (xmem (c := 3) (k := 63) rfl rfl)
theorem xcd_97 : xhd 97 xi_97 ∈ xTl ∨ 97 = 269 := Or.inl (xmem (c := 3) (k := 88) rfl rfl)
theorem xcd_98 : xhd 98 xi_98 ∈ xTl ∨ 98 = 269 := Or.inl (xmem (c := 3) (k := 104) rfl rfl)
theorem xcd_99 : xhd 99 xi_99 ∈ xTl ∨ 99 = 269 := Or.inl (xmem (c := 1) (k := 184) rfl rfl)
theorem xcd_100 : xhd 100 xi_100 ∈ xTl ∨ 100 = 269 := Or.inl (xmem (c := 1) (k := 220) rfl rfl)
theorem xcd_101 : xhd 101 xi_101 ∈ xTl ∨ 101 = 269 := Or.inl (xmem (c := 5) (k := 158) rfl rfl)
theorem xcd_102 : xhd 102 xi_102 ∈ xTl ∨ 102 = 269 := Or.inl (xmem (c := 4) (k := 23) rfl rfl)
theorem xcd_103 : xhd 103 xi_103 ∈ xTl ∨ 103 = 269 := Or.inl (xmem (c := 3) (k := 180) rfl rfl)
theorem xcd_104 : xhd 104 xi_104 ∈ xTl ∨ 104 = 269 := Or.inl (xmem (c := 4) (k := 46) rfl rfl)
theorem xcd_105 : xhd 105 xi_105 ∈ xTl ∨ 105 = 269 := Or.inl (xmem (c := 4) (k := 40) rfl rfl)
theorem xcd_106 : xhd 106 xi_106 ∈ xTl ∨ 106 = 269 := Or.inl (xmem (c := 4) (k := 50) rfl rfl)
theorem xcd_107 : xhd 107 xi_107 ∈ xTl ∨ 107 = 269 := Or.inl (xmem (c := 4) (k := 102) rfl rfl)
theorem xcd_108 : xhd 108 xi_108 ∈ xTl ∨ 108 = 269 := Or.inl (xmem (c := 3) (k := 196) rfl rfl)
theorem xcd_109 : xhd 109 xi_109 ∈ xTl ∨ 109 = 269 := Or.inl (xmem (c := 3) (k := 192) rfl rfl)
theorem xcd_110 : xhd 110 xi_110 ∈ xTl ∨ 110 = 269 := Or.inl (xmem (c := 4) (k := 110) rfl rfl)
theorem xcd_111 : xhd 111 xi_111 ∈ xTl ∨ 111 = 269 := Or.inl (xmem (c := 1) (k := 29) rfl rfl)
theorem xcd_112 : xhd 112 xi_112 ∈ xTl ∨ 112 = 269 := Or.inl (xmem (c := 3) (k := 0) rfl rfl)
theorem xcd_113 : xhd 113 xi_113 ∈ xTl ∨ 113 = 269 := Or.inl (xmem (c := 3) (k := 12) rfl rfl)
theorem xcd_114 : xhd 114 xi_114 ∈ xTl ∨ 114 = 269 := Or.inl (xmem (c := 3) (k := 20) rfl rfl)
theorem xcd_115 : xhd 115 xi_115 ∈ xTl ∨ 115 = 269 := Or.inl (xmem (c := 3) (k := 135) rfl rfl)
theorem xcd_116 : xhd 116 xi_116 ∈ xTl ∨ 116 = 269 := Or.inl (xmem (c := 5) (k := 180) rfl rfl)
theorem xcd_117 : xhd 117 xi_117 ∈ xTl ∨ 117 = 269 := Or.inl (xmem (c := 3) (k := 139) rfl rfl)
theorem xcd_118 : xhd 118 xi_118 ∈ xTl ∨ 118 = 269 := Or.inl (xmem (c := 3) (k := 151) rfl rfl)
theorem xcd_119 : xhd 119 xi_119 ∈ xTl ∨ 119 = 269 := Or.inl (xmem (c := 3) (k := 163) rfl rfl)
theorem xcd_120 : xhd 120 xi_120 ∈ xTl ∨ 120 = 269 := Or.inl (xmem (c := 3) (k := 176) rfl rfl)
theorem xcd_121 : xhd 121 xi_121 ∈ xTl ∨ 121 = 269 := Or.inl (xmem (c := 4) (k := 19) rfl rfl)
theorem xcd_122 : xhd 122 xi_122 ∈ xTl ∨ 122 = 269 := Or.inl (xmem (c := 6) (k := 9) rfl rfl)
theorem xcd_123 : xhd 123 xi_123 ∈ xTl ∨ 123 = 269 := Or.inl (xmem (c := 4) (k := 27) rfl rfl)
theorem xcd_124 : xhd 124 xi_124 ∈ xTl ∨ 124 = 269 := Or.inl (xmem (c := 4) (k := 63) rfl rfl)
theorem xcd_125 : xhd 125 xi_125 ∈ xTl ∨ 125 = 269 := Or.inl (xmem (c := 4) (k := 71) rfl rfl)
theorem xcd_126 : xhd 126 xi_126 ∈ xTl ∨ 126 = 269 := Or.inl (xmem (c := 4) (k := 80) rfl rfl)
theorem xcd_127 : xhd 127 xi_127 ∈ xTl ∨ 127 = 269 := Or.inl (xmem (c := 4) (k := 92) rfl rfl)
theorem xcd_128 : xhd 128 xi_128 ∈ xTl ∨ 128 = 269 := Or.inl (xmem (c := 4) (k := 106) rfl rfl)
theorem xcd_129 : xhd 129 xi_129 ∈ xTl ∨ 129 = 269 := Or.inl (xmem (c := 4) (k := 115) rfl rfl)
theorem xcd_130 : xhd 130 xi_130 ∈ xTl ∨ 130 = 269 := Or.inl (xmem (c := 4) (k := 123) rfl rfl)
theorem xcd_131 : xhd 131 xi_131 ∈ xTl ∨ 131 = 269 := Or.inl (xmem (c := 4) (k := 127) rfl rfl)
theorem xcd_132 : xhd 132 xi_132 ∈ xTl ∨ 132 = 269 := Or.inl (xmem (c := 4) (k := 151) rfl rfl)
theorem xcd_133 : xhd 133 xi_133 ∈ xTl ∨ 133 = 269 := Or.inl (xmem (c := 4) (k := 155) rfl rfl)
theorem xcd_134 : xhd 134 xi_134 ∈ xTl ∨ 134 = 269 := Or.inl (xmem (c := 4) (k := 164) rfl rfl)
theorem xcd_135 : xhd 135 xi_135 ∈ xTl ∨ 135 = 269 := Or.inl (xmem (c := 4) (k := 168) rfl rfl)
theorem xcd_136 : xhd 136 xi_136 ∈ xTl ∨ 136 = 269 := Or.inl (xmem (c := 4) (k := 180) rfl rfl)
theorem xcd_137 : xhd 137 xi_137 ∈ xTl ∨ 137 = 269 := Or.inl (xmem (c := 6) (k := 20) rfl rfl)
theorem xcd_138 : xhd 138 xi_138 ∈ xTl ∨ 138 = 269 := Or.inl (xmem (c := 6) (k := 33) rfl rfl)
theorem xcd_139 : xhd 139 xi_139 ∈ xTl ∨ 139 = 269 := Or.inl (xmem (c := 4) (k := 185) rfl rfl)
theorem xcd_140 : xhd 140 xi_140 ∈ xTl ∨ 140 = 269 := Or.inl (xmem (c := 5) (k := 12) rfl rfl)
theorem xcd_141 : xhd 141 xi_141 ∈ xTl ∨ 141 = 269 := Or.inl (xmem (c := 5) (k := 16) rfl rfl)
theorem xcd_142 : xhd 142 xi_142 ∈ xTl ∨ 142 = 269 := Or.inl (xmem (c := 5) (k := 36) rfl rfl)
theorem xcd_143 : xhd 143 xi_143 ∈ xTl ∨ 143 = 269 := Or.inl (xmem (c := 5) (k := 41) rfl rfl)
theorem xcd_144 : xhd 144 xi_144 ∈ xTl ∨ 144 = 269 := Or.inl (xmem (c := 5) (k := 76) rfl rfl)
theorem xcd_145 : xhd 145 xi_145 ∈ xTl ∨ 145 = 269 := Or.inl (xmem (c := 5) (k := 80) rfl rfl)
theorem xcd_146 : xhd 146 xi_146 ∈ xTl ∨ 146 = 269 := Or.inl (xmem (c := 5) (k := 120) rfl rfl)
theorem xcd_147 : xhd 147 xi_147 ∈ xTl ∨ 147 = 269 := Or.inl (xmem (c := 5) (k := 150) rfl rfl)
theorem xcd_148 : xhd 148 xi_148 ∈ xTl ∨ 148 = 269 := Or.inl (xmem (c := 5) (k := 164) rfl rfl)
theorem xcd_149 : xhd 149 xi_149 ∈ xTl ∨ 149 = 269 := Or.inl (xmem (c := 5) (k := 168) rfl rfl)
theorem xcd_150 : xhd 150 xi_150 ∈ xTl ∨ 150 = 269 := Or.inl (xmem (c := 3) (k := 115) rfl rfl)
theorem xcd_151 : xhd 151 xi_151 ∈ xTl ∨ 151 = 269 := Or.inl (xmem (c := 4) (k := 54) rfl rfl)
theorem xcd_152 : xhd 152 xi_152 ∈ xTl ∨ 152 = 269 := Or.inl (xmem (c := 6) (k := 23) rfl rfl)
theorem xcd_153 : xhd 153 xi_153 ∈ xTl ∨ 153 = 269 := Or.inl (xmem (c := 6) (k := 26) rfl rfl)
theorem xcd_154 : xhd 154 xi_154 ∈ xTl ∨ 154 = 269 := Or.inl (xmem (c := 5) (k := 146) rfl rfl)
theorem xcd_155 : xhd 155 xi_155 ∈ xTl ∨ 155 = 269 := Or.inl (xmem (c := 6) (k := 37) rfl rfl)
theorem xcd_156 : xhd 156 xi_156 ∈ xTl ∨ 156 = 269 := Or.inl (xmem (c := 7) (k := 104) rfl rfl)
theorem xcd_157 : xhd 157 xi_157 ∈ xTl ∨ 157 = 269 := Or.inl (xmem (c := 6) (k := 41) rfl rfl)
theorem xcd_158 : xhd 158 xi_158 ∈ xTl ∨ 158 = 269 := Or.inl (xmem (c := 6) (k := 46) rfl rfl)
theorem xcd_159 : xhd 159 xi_159 ∈ xTl ∨ 159 = 269 := Or.inl (xmem (c := 6) (k := 50) rfl rfl)
theorem xcd_160 : xhd 160 xi_160 ∈ xTl ∨ 160 = 269 := Or.inl (xmem (c := 7) (k := 19) rfl rfl)
theorem xcd_161 : xhd 161 xi_161 ∈ xTl ∨ 161 = 269 := Or.inl (xmem (c := 7) (k := 56) rfl rfl)
theorem xcd_162 : xhd 162 xi_162 ∈ xTl ∨ 162 = 269 := Or.inl (xmem (c := 7) (k := 147) rfl rfl)
theorem xcd_163 : xhd 163 xi_163 ∈ xTl ∨ 163 = 269 := Or.inl (xmem (c := 6) (k := 54) rfl rfl)
theorem xcd_164 : xhd 164 xi_164 ∈ xTl ∨ 164 = 269 := Or.inl (xmem (c := 7) (k := 27) rfl rfl)
theorem xcd_165 : xhd 165 xi_165 ∈ xTl ∨ 165 = 269 := Or.inl (xmem (c := 7) (k := 30) rfl rfl)
theorem xcd_166 : xhd 166 xi_166 ∈ xTl ∨ 166 = 269 := Or.inl (xmem (c := 7) (k := 33) rfl rfl)
theorem xcd_167 : xhd 167 xi_167 ∈ xTl ∨ 167 = 269 := Or.inl (xmem (c := 7) (k := 23) rfl rfl)
theorem xcd_168 : xhd 168 xi_168 ∈ xTl ∨ 168 = 269 := Or.inl (xmem (c := 7) (k := 49) rfl rfl)
theorem xcd_169 : xhd 169 xi_169 ∈ xTl ∨ 169 = 269 := Or.inl (xmem (c := 7) (k := 41) rfl rfl)
theorem xcd_170 : xhd 170 xi_170 ∈ xTl ∨ 170 = 269 := Or.inl (xmem (c := 7) (k := 88) rfl rfl)
theorem xcd_171 : xhd 171 xi_171 ∈ xTl ∨ 171 = 269 := Or.inl (xmem (c := 7) (k := 84) rfl rfl)
theorem xcd_172 : xhd 172 xi_172 ∈ xTl ∨ 172 = 269 := Or.inl (xmem (c := 7) (k := 68) rfl rfl)
theorem xcd_173 : xhd 173 xi_173 ∈ xTl ∨ 173 = 269 := Or.inl (xmem (c := 7) (k := 53) rfl rfl)
theorem xcd_174 : xhd 174 xi_174 ∈ xTl ∨ 174 = 269 := Or.inl (xmem (c := 7) (k := 72) rfl rfl)
theorem xcd_175 : xhd 175 xi_175 ∈ xTl ∨ 175 = 269 := Or.inl (xmem (c := 7) (k := 80) rfl rfl)
theorem xcd_176 : xhd 176 xi_176 ∈ xTl ∨ 176 = 269 := Or.inl (xmem (c := 7) (k := 64) rfl rfl)
theorem xcd_177 : xhd 177 xi_177 ∈ xTl ∨ 177 = 269 := Or.inl (xmem (c := 7) (k := 45) rfl rfl)
theorem xcd_178 : xhd 178 xi_178 ∈ xTl ∨ 178 = 269 := Or.inl (xmem (c := 7) (k := 60) rfl rfl)
theorem xcd_179 : xhd 179 xi_179 ∈ xTl ∨ 179 = 269 := Or.inl (xmem (c := 7) (k := 76) rfl rfl)
theorem xcd_180 : xhd 180 xi_180 ∈ xTl ∨ 180 = 269 := Or.inl (xmem (c := 7) (k := 37) rfl rfl)
theorem xcd_181 : xhd 181 xi_181 ∈ xTl ∨ 181 = 269 := Or.inl (xmem (c := 7) (k := 15) rfl rfl)
theorem xcd_182 : xhd 182 xi_182 ∈ xTl ∨ 182 = 269 := Or.inl (xmem (c := 7) (k := 92) rfl rfl)
theorem xcd_183 : xhd 183 xi_183 ∈ xTl ∨ 183 = 269 := Or.inl (xmem (c := 7) (k := 100) rfl rfl)
theorem xcd_184 : xhd 184 xi_184 ∈ xTl ∨ 184 = 269 := Or.inl (xmem (c := 7) (k := 194) rfl rfl)
theorem xcd_185 : xhd 185 xi_185 ∈ xTl ∨ 185 = 269 := Or.inl (xmem (c := 7) (k := 167) rfl rfl)
theorem xcd_186 : xhd 186 xi_186 ∈ xTl ∨ 186 = 269 := Or.inl (xmem (c := 7) (k := 128) rfl rfl)
theorem xcd_187 : xhd 187 xi_187 ∈ xTl ∨ 187 = 269 := Or.inl (xmem (c := 7) (k := 182) rfl rfl)
theorem xcd_188 : xhd 188 xi_188 ∈ xTl ∨ 188 = 269 := Or.inl (xmem (c := 7) (k := 112) rfl rfl)
theorem xcd_189 : xhd 189 xi_189 ∈ xTl ∨ 189 = 269 := Or.inl (xmem (c := 7) (k := 155) rfl rfl)
theorem xcd_190 : xhd 190 xi_190 ∈ xTl ∨ 190 = 269 := Or.inl (xmem (c := 7) (k := 151) rfl rfl)
theorem xcd_191 : xhd 191 xi_191 ∈ xTl ∨ 191 = 269 := Or.inl (xmem (c := 7) (k := 144) rfl rfl)
theorem xcd_192 : xhd 192 xi_192 ∈ xTl ∨ 192 = 269 := Or.inl (xmem (c := 7) (k := 140) rfl rfl)
theorem xcd_193 : xhd 193 xi_193 ∈ xTl ∨ 193 = 269 := Or.inl (xmem (c := 7) (k := 136) rfl rfl)
theorem xcd_194 : xhd 194 xi_194 ∈ xTl ∨ 194 = 269 := Or.inl (xmem (c := 7) (k := 124) rfl rfl)
theorem xcd_195 : xhd 195 xi_195 ∈ xTl ∨ 195 = 269 := Or.inl (xmem (c := 7) (k := 120) rfl rfl)
theorem xcd_196 : xhd 196 xi_196 ∈ xTl ∨ 196 = 269 := Or.inl (xmem (c := 7) (k := 116) rfl rfl)
theorem xcd_197 : xhd 197 xi_197 ∈ xTl ∨ 197 = 269 := Or.inl (xmem (c := 7) (k := 132) rfl rfl)
theorem xcd_198 : xhd 198 xi_198 ∈ xTl ∨ 198 = 269 := Or.inl (xmem (c := 7) (k := 159) rfl rfl)
theorem xcd_199 : xhd 199 xi_199 ∈ xTl ∨ 199 = 269 := Or.inl (xmem (c := 7) (k := 163) rfl rfl)
theorem xcd_200 : xhd 200 xi_200 ∈ xTl ∨ 200 = 269 := Or.inl (xmem (c := 7) (k := 108) rfl rfl)
theorem xcd_201 : xhd 201 xi_201 ∈ xTl ∨ 201 = 269 := Or.inl (xmem (c := 7) (k := 171) rfl rfl)
theorem xcd_202 : xhd 202 xi_202 ∈ xTl ∨ 202 = 269 := Or.inl (xmem (c := 7) (k := 174) rfl rfl)
theorem xcd_203 : xhd 203 xi_203 ∈ xTl ∨ 203 = 269 := Or.inl (xmem (c := 7) (k := 96) rfl rfl)
theorem xcd_204 : xhd 204 xi_204 ∈ xTl ∨ 204 = 269 := Or.inl (xmem (c := 7) (k := 178) rfl rfl)
theorem xcd_205 : xhd 205 xi_205 ∈ xTl ∨ 205 = 269 := Or.inl (xmem (c := 7) (k := 186) rfl rfl)
theorem xcd_206 : xhd 206 xi_206 ∈ xTl ∨ 206 = 269 := Or.inl (xmem (c := 7) (k := 190) rfl rfl)
theorem xcd_207 : xhd 207 xi_207 ∈ xTl ∨ 207 = 269 := Or.inl (xmem (c := 7) (k := 202) rfl rfl)
theorem xcd_208 : xhd 208 xi_208 ∈ xTl ∨ 208 = 269 := Or.inl (xmem (c := 7) (k := 198) rfl rfl)
theorem xcd_209 : xhd 209 xi_209 ∈ xTl ∨ 209 = 269 := Or.inl (xmem (c := 7) (k := 206) rfl rfl)
theorem xcd_210 : xhd 210 xi_210 ∈ xTl ∨ 210 = 269 := Or.inl (xmem (c := 7) (k := 214) rfl rfl)
theorem xcd_211 : xhd 211 xi_211 ∈ xTl ∨ 211 = 269 := Or.inl (xmem (c := 7) (k := 210) rfl rfl)
theorem xcd_212 : xhd 212 xi_212 ∈ xTl ∨ 212 = 269 := Or.inl (xmem (c := 7) (k := 222) rfl rfl)
theorem xcd_213 : xhd 213 xi_213 ∈ xTl ∨ 213 = 269 := Or.inl (xmem (c := 7) (k := 238) rfl rfl)
theorem xcd_214 : xhd 214 xi_214 ∈ xTl ∨ 214 = 269 := Or.inl (xmem (c := 8) (k := 6) rfl rfl)
theorem xcd_215 : xhd 215 xi_215 ∈ xTl ∨ 215 = 269 := Or.inl (xmem (c := 8) (k := 14) rfl rfl)
theorem xcd_216 : xhd 216 xi_216 ∈ xTl ∨ 216 = 269 := Or.inl (xmem (c := 7) (k := 218) rfl rfl)
theorem xcd_217 : xhd 217 xi_217 ∈ xTl ∨ 217 = 269 := Or.inl (xmem (c := 8) (k := 2) rfl rfl)
theorem xcd_218 : xhd 218 xi_218 ∈ xTl ∨ 218 = 269 := Or.inl (xmem (c := 8) (k := 10) rfl rfl)
theorem xcd_219 : xhd 219 xi_219 ∈ xTl ∨ 219 = 269 := Or.inl (xmem (c := 7) (k := 234) rfl rfl)
theorem xcd_220 : xhd 220 xi_220 ∈ xTl ∨ 220 = 269 := Or.inl (xmem (c := 7) (k := 230) rfl rfl)
theorem xcd_221 : xhd 221 xi_221 ∈ xTl ∨ 221 = 269 := Or.inl (xmem (c := 8) (k := 22) rfl rfl)
theorem xcd_222 : xhd 222 xi_222 ∈ xTl ∨ 222 = 269 := Or.inl (xmem (c := 7) (k := 226) rfl rfl)
theorem xcd_223 : xhd 223 xi_223 ∈ xTl ∨ 223 = 269 := Or.inl (xmem (c := 8) (k := 18) rfl rfl)
theorem xcd_224 : xhd 224 xi_224 ∈ xTl ∨ 224 = 269 := Or.inl (xmem (c := 8) (k := 30) rfl rfl)
theorem xcd_225 : xhd 225 xi_225 ∈ xTl ∨ 225 = 269 := Or.inl (xmem (c := 8) (k := 26) rfl rfl)
theorem xcd_226 : xhd 226 xi_226 ∈ xTl ∨ 226 = 269 := Or.inl (xmem (c := 8) (k := 34) rfl rfl)
theorem xcd_227 : xhd 227 xi_227 ∈ xTl ∨ 227 = 269 := Or.inl (xmem (c := 8) (k := 38) rfl rfl)
theorem xcd_228 : xhd 228 xi_228 ∈ xTl ∨ 228 = 269 := Or.inl (xmem (c := 8) (k := 42) rfl rfl)
theorem xcd_229 : xhd 229 xi_229 ∈ xTl ∨ 229 = 269 := Or.inl (xmem (c := 8) (k := 53) rfl rfl)
theorem xcd_230 : xhd 230 xi_230 ∈ xTl ∨ 230 = 269 := Or.inl (xmem (c := 8) (k := 50) rfl rfl)
theorem xcd_231 : xhd 231 xi_231 ∈ xTl ∨ 231 = 269 := Or.inl (xmem (c := 8) (k := 46) rfl rfl)
theorem xcd_232 : xhd 232 xi_232 ∈ xTl ∨ 232 = 269 := Or.inl (xmem (c := 8) (k := 57) rfl rfl)
theorem xcd_233 : xhd 233 xi_233 ∈ xTl ∨ 233 = 269 := Or.inl (xmem (c := 8) (k := 61) rfl rfl)
theorem xcd_234 : xhd 234 xi_234 ∈ xTl ∨ 234 = 269 := Or.inl (xmem (c := 8) (k := 65) rfl rfl)
theorem xcd_235 : xhd 235 xi_235 ∈ xTl ∨ 235 = 269 := Or.inl (xmem (c := 8) (k := 73) rfl rfl)
theorem xcd_236 : xhd 236 xi_236 ∈ xTl ∨ 236 = 269 := Or.inl (xmem (c := 8) (k := 69) rfl rfl)
theorem xcd_237 : xhd 237 xi_237 ∈ xTl ∨ 237 = 269 := Or.inl (xmem (c := 8) (k := 77) rfl rfl)
theorem xcd_238 : xhd 238 xi_238 ∈ xTl ∨ 238 = 269 := Or.inl (xmem (c := 8) (k := 84) rfl rfl)
theorem xcd_239 : xhd 239 xi_239 ∈ xTl ∨ 239 = 269 := Or.inl (xmem (c := 8) (k := 81) rfl rfl)
theorem xcd_240 : xhd 240 xi_240 ∈ xTl ∨ 240 = 269 := Or.inl (xmem (c := 8) (k := 88) rfl rfl)
theorem xcd_241 : xhd 241 xi_241 ∈ xTl ∨ 241 = 269 := Or.inl (xmem (c := 8) (k := 101) rfl rfl)
theorem xcd_242 : xhd 242 xi_242 ∈ xTl ∨ 242 = 269 := Or.inl (xmem (c := 8) (k := 96) rfl rfl)
theorem xcd_243 : xhd 243 xi_243 ∈ xTl ∨ 243 = 269 := Or.inl (xmem (c := 8) (k := 106) rfl rfl)
theorem xcd_244 : xhd 244 xi_244 ∈ xTl ∨ 244 = 269 := Or.inl (xmem (c := 8) (k := 92) rfl rfl)
theorem xcd_245 : xhd 245 xi_245 ∈ xTl ∨ 245 = 269 := Or.inl (xmem (c := 8) (k := 111) rfl rfl)
theorem xcd_246 : xhd 246 xi_246 ∈ xTl ∨ 246 = 269 := Or.inl (xmem (c := 8) (k := 123) rfl rfl)
theorem xcd_247 : xhd 247 xi_247 ∈ xTl ∨ 247 = 269 := Or.inl (xmem (c := 8) (k := 119) rfl rfl)
theorem xcd_248 : xhd 248 xi_248 ∈ xTl ∨ 248 = 269 := Or.inl (xmem (c := 8) (k := 115) rfl rfl)
theorem xcd_249 : xhd 249 xi_249 ∈ xTl ∨ 249 = 269 := Or.inl (xmem (c := 8) (k := 132) rfl rfl)
theorem xcd_250 : xhd 250 xi_250 ∈ xTl ∨ 250 = 269 := Or.inl (xmem (c := 8) (k := 128) rfl rfl)
theorem xcd_251 : xhd 251 xi_251 ∈ xTl ∨ 251 = 269 := Or.inl (xmem (c := 8) (k := 140) rfl rfl)
theorem xcd_252 : xhd 252 xi_252 ∈ xTl ∨ 252 = 269 := Or.inl (xmem (c := 8) (k := 144) rfl rfl)
theorem xcd_253 : xhd 253 xi_253 ∈ xTl ∨ 253 = 269 := Or.inl (xmem (c := 8) (k := 136) rfl rfl)
theorem xcd_254 : xhd 254 xi_254 ∈ xTl ∨ 254 = 269 := Or.inl (xmem (c := 8) (k := 148) rfl rfl)
theorem xcd_255 : xhd 255 xi_255 ∈ xTl ∨ 255 = 269 := Or.inl (xmem (c := 8) (k := 160) rfl rfl)
theorem xcd_256 : xhd 256 xi_256 ∈ xTl ∨ 256 = 269 := Or.inl (xmem (c := 8) (k := 164) rfl rfl)
theorem xcd_257 : xhd 257 xi_257 ∈ xTl ∨ 257 = 269 := Or.inl (xmem (c := 8) (k := 156) rfl rfl)
theorem xcd_258 : xhd 258 xi_258 ∈ xTl ∨ 258 = 269 := Or.inl (xmem (c := 8) (k := 176) rfl rfl)
theorem xcd_259 : xhd 259 xi_259 ∈ xTl ∨ 259 = 269 := Or.inl (xmem (c := 8) (k := 172) rfl rfl)
theorem xcd_260 : xhd 260 xi_260 ∈ xTl ∨ 260 = 269 := Or.inl (xmem (c := 8) (k := 168) rfl rfl)
theorem xcd_261 : xhd 261 xi_261 ∈ xTl ∨ 261 = 269 := Or.inl (xmem (c := 8) (k := 152) rfl rfl)
theorem xcd_262 : xhd 262 xi_262 ∈ xTl ∨ 262 = 269 := Or.inl (xmem (c := 8) (k := 191) rfl rfl)
theorem xcd_263 : xhd 263 xi_263 ∈ xTl ∨ 263 = 269 := Or.inl (xmem (c := 8) (k := 188) rfl rfl)
theorem xcd_264 : xhd 264 xi_264 ∈ xTl ∨ 264 = 269 := Or.inl (xmem (c := 8) (k := 184) rfl rfl)
theorem xcd_265 : xhd 265 xi_265 ∈ xTl ∨ 265 = 269 := Or.inl (xmem (c := 8) (k := 180) rfl rfl)
theorem xcd_266 : xhd 266 xi_266 ∈ xTl ∨ 266 = 269 := Or.inl (xmem (c := 8) (k := 195) rfl rfl)
theorem xcd_267 : xhd 267 xi_267 ∈ xTl ∨ 267 = 269 := Or.inl (xmem (c := 8) (k := 199) rfl rfl)
theorem xcd_268 : xhd 268 xi_268 ∈ xTl ∨ 268 = 269 := Or.inl (xmem (c := 8) (k := 203) rfl rfl)
theorem xcd_269 : xhd 269 xi_269 ∈ xTl ∨ 269 = 269 := Or.inr rfl
theorem xcd_270 : xhd 270 xi_270 ∈ xTl ∨ 270 = 269 := Or.inl (xmem (c := 5) (k := 175) rfl rfl)
theorem xcd_271 : xhd 271 xi_271 ∈ xTl ∨ 271 = 269 := Or.inl (xmem (c := 6) (k := 5) rfl rfl)
theorem xcd_272 : xhd 272 xi_272 ∈ xTl ∨ 272 = 269 := Or.inl (xmem (c := 6) (k := 16) rfl rfl)
theorem xcd_273 : xhd 273 xi_273 ∈ xTl ∨ 273 = 269 := Or.inl (xmem (c := 6) (k := 29) rfl rfl)
theorem xcd_274 : xhd 274 xi_274 ∈ xTl ∨ 274 = 269 := Or.inl (xmem (c := 3) (k := 158) rfl rfl)
theorem xcd_275 : xhd 275 xi_275 ∈ xTl ∨ 275 = 269 := Or.inl (xmem (c := 4) (k := 143) rfl rfl)
set_option maxRecDepth 20000 in
theorem xcd_all : xCdL 0 xinfo := ⟨xcd_0, xcd_1, xcd_2, xcd_3, xcd_4, xcd_5, xcd_6, xcd_7, xcd_8, xcd_9, xcd_10, xcd_11, xcd_12, xcd_13, xcd_14, xcd_15, xcd_16, xcd_17, xcd_18, xcd_19, xcd_20, xcd_21, xcd_22, xcd_23, xcd_24, xcd_25, xcd_26, xcd_27, xcd_28, xcd_29, xcd_30, xcd_31, xcd_32, xcd_33, xcd_34, xcd_35, xcd_36, xcd_37, xcd_38, xcd_39, xcd_40, xcd_41, xcd_42, xcd_43, xcd_44, xcd_45, xcd_46, xcd_47, xcd_48, xcd_49, xcd_50, xcd_51, xcd_52, xcd_53, xcd_54, xcd_55, xcd_56, xcd_57, xcd_58, xcd_59, xcd_60, xcd_61, xcd_62, xcd_63, xcd_64, xcd_65, xcd_66, xcd_67, xcd_68, xcd_69, xcd_70, xcd_71, xcd_72, xcd_73, xcd_74, xcd_75, xcd_76, xcd_77, xcd_78, xcd_79, xcd_80, xcd_81, xcd_82, xcd_83, xcd_84, xcd_85, xcd_86, xcd_87, xcd_88, xcd_89, xcd_90, xcd_91, xcd_92, xcd_93, xcd_94, xcd_95, xcd_96, xcd_97, xcd_98, xcd_99, xcd_100, xcd_101, xcd_102, xcd_103, xcd_104, xcd_105, xcd_106, xcd_107, xcd_108, xcd_109, xcd_110, xcd_111, xcd_112, xcd_113, xcd_114, xcd_115, xcd_116, xcd_117, xcd_118, xcd_119, xcd_120, xcd_121, xcd_122, xcd_123, xcd_124, xcd_125, xcd_126, xcd_127, xcd_128, xcd_129, xcd_130, xcd_131, xcd_132, xcd_133, xcd_134, xcd_135, xcd_136, xcd_137, xcd_138, xcd_139, xcd_140, xcd_141, xcd_142, xcd_143, xcd_144, xcd_145, xcd_146, xcd_147, xcd_148, xcd_149, xcd_150, xcd_151, xcd_152, xcd_153, xcd_154, xcd_155, xcd_156, xcd_157, xcd_158, xcd_159, xcd_160, xcd_161, xcd_162, xcd_163, xcd_164, xcd_165, xcd_166, xcd_167, xcd_168, xcd_169, xcd_170, xcd_171, xcd_172, xcd_173, xcd_174, xcd_175, xcd_176, xcd_177, xcd_178, xcd_179, xcd_180, xcd_181, xcd_182, xcd_183, xcd_184, xcd_185, xcd_186, xcd_187, xcd_188, xcd_189, xcd_190, xcd_191, xcd_192, xcd_193, xcd_194, xcd_195, xcd_196, xcd_197, xcd_198, xcd_199, xcd_200, xcd_201, xcd_202, xcd_203, xcd_204, xcd_205, xcd_206, xcd_207, xcd_208, xcd_209, xcd_210, xcd_211, xcd_212, xcd_213, xcd_214, xcd_215, xcd_216, xcd_217, xcd_218, xcd_219, xcd_220, xcd_221, xcd_222, xcd_223, xcd_224, xcd_225, xcd_226, xcd_227, xcd_228, xcd_229, xcd_230, xcd_231, xcd_232, xcd_233, xcd_234, xcd_235, xcd_236, xcd_237, xcd_238, xcd_239, xcd_240, xcd_241, xcd_242, xcd_243, xcd_244, xcd_245, xcd_246, xcd_247, xcd_248, xcd_249, xcd_250, xcd_251, xcd_252, xcd_253, xcd_254, xcd_255, xcd_256, xcd_257, xcd_258, xcd_259, xcd_260, xcd_261, xcd_262, xcd_263, xcd_264, xcd_265, xcd_266, xcd_267, xcd_268, xcd_269, xcd_270, xcd_271, xcd_272, xcd_273, xcd_274, xcd_275, trivial⟩
def xthr (mid : Nat) : Bool := mid == 116 || mid == 122 || mid == 137 || mid == 138
def xcc (ci : Nat) (c : String) : Bool := match xn vwCl ci with
  | some q => decide (q.1 = c)
  | none => false
def xcwB (own : String) (idx h mid n ci fl : Nat) : Bool := match xn xinfo mid with
  | some mi => xTb (.methodLink own idx mi.1) h && !(xthr mid) && decide (xn xflag mid = some fl) && decide ((xwh mid).isSome = decide (fl = 4)) && decide ((parseMethodDescriptor mi.1.desc).map (fun d => d.parameters.length) = some (bif decide (fl = 1 ∨ fl = 2) then n - 1 else n)) &&
      (bif decide (fl = 1 ∨ fl = 2) then (decide (0 < n) && decide (ci < 13) && xcc ci mi.1.cls) else decide (ci = 100))
  | none => false
def xcw (own : String) (idx h : Nat) (ops : List Nat) (fl : Nat) : Bool := match ops with
  | [0, mid, n, _, ci] => xcwB own idx h mid n ci fl
  | _ => false
def xWi (own : String) (idx h : Nat) (ops : List Nat) (nm : MethodName) (k : Nat) : Bool := decide (ops = [k]) && xTb (.methodLink own idx nm) h
def xfw (own : String) (mn : String) (idx h : Nat) (ops : List Nat) (put : Bool) : Bool := match ops with
  | [t, ci, f] => match xn vwCl ci with
    | some q => decide (f < q.2.2) && decide (xtf ci f = t) && decide (t < 4) && decide ((q.2.1 f).1 = q.1) && xTb (.fieldLink own idx q.1 (q.2.1 f).2.1 (q.2.1 f).2.2.1) h && (!put || !(q.2.1 f).2.2.2 || (decide (mn = "<init>") && decide (q.1 = own)))
    | none => false
  | _ => false
def xtw (cc : ByteArray) (pc k : Nat) : Bool := decide (k = 145) && decide (decode cc (pc + 3) = .ok (.dup, 1)) && decide (decode cc (pc + 4) = .ok (.invokespecial 147, 3)) && decide (decode cc (pc + 7) = .ok (.athrow, 1))
def xW (thr : Bool) (y : MethodName) (cc : ByteArray) (ret : Option FieldType) (starts : List Nat) (pc : Nat) (i : xI) : Bool := match i.1 with
  | .iconst n => decide (Int32.ofInt n = i.2.2.1)
  | .bipush n => decide ((Int8.ofInt n).toInt32 = i.2.2.1)
  | .sipush n => decide ((Int16.ofInt n).toInt32 = i.2.2.1)
  | .ldc k => match i.2.2.2.1 with
    | [] => xTb (.constant y.cls k i.2.2.1) (xh i 0)
    | [q] => decide (y.cls = RX11) && ((decide (k = 328) && decide (q = 1000002)) || (decide (k = 337) && decide (q = 1000003)))
    | _ => false
  | .ldc_w k => match i.2.2.2.1 with
    | [] => xTb (.constant y.cls k i.2.2.1) (xh i 0)
    | [q] => decide (y.cls = RX11) && ((decide (k = 328) && decide (q = 1000002)) || (decide (k = 337) && decide (q = 1000003)))
    | _ => false
  | .lconst n => match i.2.2.2.1 with
    | [w] => decide (n.val = w)
    | _ => false
  | .ldc2_w k => match i.2.2.2.1 with
    | [w] => xTb (.constantLong y.cls k (Int64.ofNat w)) (xh i 0)
    | _ => false
  | .iinc _ d => decide (Int32.ofInt d = i.2.2.1)
  | .getfield k => xfw y.cls y.name k (xh i 0) i.2.2.2.1 false
  | .putfield k => xfw y.cls y.name k (xh i 0) i.2.2.2.1 true
  | .getstatic k => xTb (.fieldLink y.cls k "FinalLinks$Tokens" "WORDS" "[J") (xh i 0)
  | .new k => match i.2.2.2.1 with
    | [0, ci, n] => match xn vwCl ci with
      | some q => decide (ci < 13) && decide (n = q.2.2) && xTb (.classLink y.cls k q.1) (xh i 0) && xTb (.instantiable q.1 n) (xh i 1) && xTb (.initialized q.1) (xh i 2)
      | none => false
    | [1] => thr && xtw cc pc k
    | _ => false
  | .newarray t => xTb (.arrayClass (Jvm.Op.newarray.typeOf t)) (xh i 0)
  | .anewarray k => xTb (.classLink y.cls k RX8) (xh i 0)
  | .multianewarray k d => decide (d = 2) && xTb (.classLink y.cls k ("[" ++ (FieldType.array .int).toString)) (xh i 0) && xTb (.arrayClass .int) (xh i 1)
  | .invokestatic k => xcw y.cls k (xh i 0) i.2.2.2.1 0 || xcw y.cls k (xh i 0) i.2.2.2.1 4 || xWi y.cls k (xh i 0) i.2.2.2.1 Lib.Math.max.name 2 || xWi y.cls k (xh i 0) i.2.2.2.1 Lib.Math.min.name 3 || xWi y.cls k (xh i 0) i.2.2.2.1 arraycopyName 4
  | .invokespecial k => xcw y.cls k (xh i 0) i.2.2.2.1 1 || xWi y.cls k (xh i 0) i.2.2.2.1 Lib.objectInit 1
  | .invokevirtual k => xcw y.cls k (xh i 0) i.2.2.2.1 2
  | .goto off => xtg starts pc off (xto i.2.2.2.1)
  | .ifCond _ off => xtg starts pc off (xto i.2.2.2.1)
  | .if_icmp _ off => xtg starts pc off (xto i.2.2.2.1)
  | .tableswitch d lo hi offs => xtg starts pc d (xto i.2.2.2.1) && xswc starts pc lo offs.toList i.2.2.2.2 && decide (hi = lo + offs.size - 1)
  | .lookupswitch d ps => xtg starts pc d (xto i.2.2.2.1) && xlkc starts pc ps.toList i.2.2.2.2 && (ps.toList.zip (ps.toList.drop 1)).all (fun (a, next) => a.1 < next.1)
  | .ireturn => match i.2.2.2.1 with
    | [] => decide (ret = some .int)
    | _ => decide (ret = some .boolean)
  | .lreturn => decide (ret = some .long)
  | .areturn => match ret with
    | some (.object _) => true
    | some (.array _) => true
    | _ => false
  | .return_ => decide (ret = none)
  | _ => true
def xend (i : xI) : Bool := match i.1 with
  | .goto _ => true
  | .tableswitch _ _ _ _ => true
  | .lookupswitch _ _ => true
  | .ireturn => true
  | .lreturn => true
  | .areturn => true
  | .return_ => true
  | .new _ => decide (i.2.2.2.1 = [1])
  | _ => false
def xln (i : xI) : Nat := match i.1 with
  | .iload _ => 2
  | .lload _ => 2
  | .aload _ => 2
  | .istore _ => 2
  | .lstore _ => 2
  | .astore _ => 2
  | .bipush _ => 2
  | .ldc _ => 2
  | .newarray _ => 2
  | .sipush _ => 3
  | .ldc_w _ => 3
  | .ldc2_w _ => 3
  | .iinc _ _ => 3
  | .getfield _ => 3
  | .putfield _ => 3
  | .getstatic _ => 3
  | .new _ => 3
  | .anewarray _ => 3
  | .multianewarray _ _ => 4
  | .invokestatic _ => 3
  | .invokespecial _ => 3
  | .invokevirtual _ => 3
  | .goto _ => 3
  | .ifCond _ _ => 3
  | .if_icmp _ _ => 3
  | .tableswitch _ _ _ _ => i.2.1
  | .lookupswitch _ _ => i.2.1
  | _ => 1
def xCk (thr : Bool) (y : MethodName) (cc : ByteArray) (ret : Option FieldType) (starts : List Nat) (nx : Nat) : Nat → List xI → Bool
  | pc, [] => decide (xn starts nx = some pc)
  | pc, i :: is => decide (decode cc pc = .ok (i.1, i.2.1)) && decide (i.2.1 = xln i) && xW thr y cc ret starts pc i && (xend i || xCk thr y cc ret starts nx (pc + i.2.1) is)
def xMl (thr : Bool) (mi : xN) : Nat → List xB → Bool
  | _, [] => true
  | b, B :: M => (match xn mi.2.2.2.2.1 b with | some pc => xCk thr mi.1 mi.2.1 mi.2.2.2.1 mi.2.2.2.2.1 B.2.1 pc B.2.2 | none => false) && xMl thr mi (b + 1) M
def xMo (mid : Nat) : Bool := match xn xinfo mid, xn xprog mid with
  | some mi, some P => decide (P.1 = 0) && decide (P.2.1 = mi.2.2.1) && decide (xn mi.2.2.2.2.1 0 = some 0) && xMl (xthr mid) mi 0 P.2.2
  | _, _ => false
