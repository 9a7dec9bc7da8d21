theorem dX0_init_0 : decode cX0_init 0 = .ok (.aload_n 0, 1) := by decide +kernel
theorem dX0_init_1 : decode cX0_init 1 = .ok (.invokespecial 3, 3) := by decide +kernel
theorem dX0_init_4 : decode cX0_init 4 = .ok (.aload_n 0, 1) := by decide +kernel
theorem dX0_init_5 : decode cX0_init 5 = .ok (.bipush 6, 2) := by decide +kernel
theorem dX0_init_7 : decode cX0_init 7 = .ok (.newarray .int, 2) := by decide +kernel
theorem dX0_init_9 : decode cX0_init 9 = .ok (.putfield 9, 3) := by decide +kernel
theorem dX0_init_12 : decode cX0_init 12 = .ok (.aload_n 0, 1) := by decide +kernel
theorem dX0_init_13 : decode cX0_init 13 = .ok (.bipush 18, 2) := by decide +kernel
theorem dX0_init_15 : decode cX0_init 15 = .ok (.newarray .int, 2) := by decide +kernel
theorem dX0_init_17 : decode cX0_init 17 = .ok (.putfield 15, 3) := by decide +kernel
theorem dX0_init_20 : decode cX0_init 20 = .ok (.aload_n 0, 1) := by decide +kernel
theorem dX0_init_21 : decode cX0_init 21 = .ok (.bipush 6, 2) := by decide +kernel
theorem dX0_init_23 : decode cX0_init 23 = .ok (.newarray .int, 2) := by decide +kernel
theorem dX0_init_25 : decode cX0_init 25 = .ok (.putfield 18, 3) := by decide +kernel
theorem dX0_init_28 : decode cX0_init 28 = .ok (.aload_n 0, 1) := by decide +kernel
theorem dX0_init_29 : decode cX0_init 29 = .ok (.iconst 4, 1) := by decide +kernel
theorem dX0_init_30 : decode cX0_init 30 = .ok (.newarray .int, 2) := by decide +kernel
theorem dX0_init_32 : decode cX0_init 32 = .ok (.putfield 21, 3) := by decide +kernel
theorem dX0_init_35 : decode cX0_init 35 = .ok (.aload_n 0, 1) := by decide +kernel
theorem dX0_init_36 : decode cX0_init 36 = .ok (.iconst 4, 1) := by decide +kernel
theorem dX0_init_37 : decode cX0_init 37 = .ok (.newarray .int, 2) := by decide +kernel
theorem dX0_init_39 : decode cX0_init 39 = .ok (.putfield 24, 3) := by decide +kernel
theorem dX0_init_42 : decode cX0_init 42 = .ok (.aload_n 0, 1) := by decide +kernel
theorem dX0_init_43 : decode cX0_init 43 = .ok (.iconst 4, 1) := by decide +kernel
theorem dX0_init_44 : decode cX0_init 44 = .ok (.newarray .int, 2) := by decide +kernel
theorem dX0_init_46 : decode cX0_init 46 = .ok (.putfield 27, 3) := by decide +kernel
theorem dX0_init_49 : decode cX0_init 49 = .ok (.aload_n 0, 1) := by decide +kernel
theorem dX0_init_50 : decode cX0_init 50 = .ok (.iconst 4, 1) := by decide +kernel
theorem dX0_init_51 : decode cX0_init 51 = .ok (.newarray .int, 2) := by decide +kernel
theorem dX0_init_53 : decode cX0_init 53 = .ok (.putfield 30, 3) := by decide +kernel
theorem dX0_init_56 : decode cX0_init 56 = .ok (.aload_n 0, 1) := by decide +kernel
theorem dX0_init_57 : decode cX0_init 57 = .ok (.iconst 4, 1) := by decide +kernel
theorem dX0_init_58 : decode cX0_init 58 = .ok (.newarray .int, 2) := by decide +kernel
theorem dX0_init_60 : decode cX0_init 60 = .ok (.putfield 33, 3) := by decide +kernel
theorem dX0_init_63 : decode cX0_init 63 = .ok (.aload_n 0, 1) := by decide +kernel
theorem dX0_init_64 : decode cX0_init 64 = .ok (.iconst 4, 1) := by decide +kernel
theorem dX0_init_65 : decode cX0_init 65 = .ok (.newarray .int, 2) := by decide +kernel
theorem dX0_init_67 : decode cX0_init 67 = .ok (.putfield 36, 3) := by decide +kernel
theorem dX0_init_70 : decode cX0_init 70 = .ok (.aload_n 0, 1) := by decide +kernel
theorem dX0_init_71 : decode cX0_init 71 = .ok (.bipush 60, 2) := by decide +kernel
theorem dX0_init_73 : decode cX0_init 73 = .ok (.newarray .int, 2) := by decide +kernel
theorem dX0_init_75 : decode cX0_init 75 = .ok (.putfield 39, 3) := by decide +kernel
theorem dX0_init_78 : decode cX0_init 78 = .ok (.aload_n 0, 1) := by decide +kernel
theorem dX0_init_79 : decode cX0_init 79 = .ok (.bipush 60, 2) := by decide +kernel
theorem dX0_init_81 : decode cX0_init 81 = .ok (.newarray .int, 2) := by decide +kernel
theorem dX0_init_83 : decode cX0_init 83 = .ok (.putfield 42, 3) := by decide +kernel
theorem dX0_init_86 : decode cX0_init 86 = .ok (.aload_n 0, 1) := by decide +kernel
theorem dX0_init_87 : decode cX0_init 87 = .ok (.bipush 60, 2) := by decide +kernel
theorem dX0_init_89 : decode cX0_init 89 = .ok (.newarray .int, 2) := by decide +kernel
theorem dX0_init_91 : decode cX0_init 91 = .ok (.putfield 45, 3) := by decide +kernel
theorem dX0_init_94 : decode cX0_init 94 = .ok (.return_, 1) := by decide +kernel
theorem dX0_copyFrom_0 : decode cX0_copyFrom 0 = .ok (.aload_n 0, 1) := by decide +kernel
theorem dX0_copyFrom_1 : decode cX0_copyFrom 1 = .ok (.aload_n 1, 1) := by decide +kernel
theorem dX0_copyFrom_2 : decode cX0_copyFrom 2 = .ok (.getfield 48, 3) := by decide +kernel
theorem dX0_copyFrom_5 : decode cX0_copyFrom 5 = .ok (.putfield 48, 3) := by decide +kernel
theorem dX0_copyFrom_8 : decode cX0_copyFrom 8 = .ok (.aload_n 1, 1) := by decide +kernel
theorem dX0_copyFrom_9 : decode cX0_copyFrom 9 = .ok (.getfield 9, 3) := by decide +kernel
theorem dX0_copyFrom_12 : decode cX0_copyFrom 12 = .ok (.iconst 0, 1) := by decide +kernel
theorem dX0_copyFrom_13 : decode cX0_copyFrom 13 = .ok (.aload_n 0, 1) := by decide +kernel
theorem dX0_copyFrom_14 : decode cX0_copyFrom 14 = .ok (.getfield 9, 3) := by decide +kernel
theorem dX0_copyFrom_17 : decode cX0_copyFrom 17 = .ok (.iconst 0, 1) := by decide +kernel
theorem dX0_copyFrom_18 : decode cX0_copyFrom 18 = .ok (.bipush 6, 2) := by decide +kernel
theorem dX0_copyFrom_20 : decode cX0_copyFrom 20 = .ok (.invokestatic 52, 3) := by decide +kernel
theorem dX0_copyFrom_23 : decode cX0_copyFrom 23 = .ok (.aload_n 1, 1) := by decide +kernel
theorem dX0_copyFrom_24 : decode cX0_copyFrom 24 = .ok (.getfield 15, 3) := by decide +kernel
theorem dX0_copyFrom_27 : decode cX0_copyFrom 27 = .ok (.iconst 0, 1) := by decide +kernel
theorem dX0_copyFrom_28 : decode cX0_copyFrom 28 = .ok (.aload_n 0, 1) := by decide +kernel
theorem dX0_copyFrom_29 : decode cX0_copyFrom 29 = .ok (.getfield 15, 3) := by decide +kernel
theorem dX0_copyFrom_32 : decode cX0_copyFrom 32 = .ok (.iconst 0, 1) := by decide +kernel
theorem dX0_copyFrom_33 : decode cX0_copyFrom 33 = .ok (.bipush 18, 2) := by decide +kernel
theorem dX0_copyFrom_35 : decode cX0_copyFrom 35 = .ok (.invokestatic 52, 3) := by decide +kernel
theorem dX0_copyFrom_38 : decode cX0_copyFrom 38 = .ok (.aload_n 1, 1) := by decide +kernel
theorem dX0_copyFrom_39 : decode cX0_copyFrom 39 = .ok (.getfield 18, 3) := by decide +kernel
theorem dX0_copyFrom_42 : decode cX0_copyFrom 42 = .ok (.iconst 0, 1) := by decide +kernel
theorem dX0_copyFrom_43 : decode cX0_copyFrom 43 = .ok (.aload_n 0, 1) := by decide +kernel
theorem dX0_copyFrom_44 : decode cX0_copyFrom 44 = .ok (.getfield 18, 3) := by decide +kernel
theorem dX0_copyFrom_47 : decode cX0_copyFrom 47 = .ok (.iconst 0, 1) := by decide +kernel
theorem dX0_copyFrom_48 : decode cX0_copyFrom 48 = .ok (.bipush 6, 2) := by decide +kernel
theorem dX0_copyFrom_50 : decode cX0_copyFrom 50 = .ok (.invokestatic 52, 3) := by decide +kernel
theorem dX0_copyFrom_53 : decode cX0_copyFrom 53 = .ok (.aload_n 0, 1) := by decide +kernel
theorem dX0_copyFrom_54 : decode cX0_copyFrom 54 = .ok (.aload_n 1, 1) := by decide +kernel
theorem dX0_copyFrom_55 : decode cX0_copyFrom 55 = .ok (.getfield 58, 3) := by decide +kernel
theorem dX0_copyFrom_58 : decode cX0_copyFrom 58 = .ok (.putfield 58, 3) := by decide +kernel
theorem dX0_copyFrom_61 : decode cX0_copyFrom 61 = .ok (.aload_n 1, 1) := by decide +kernel
theorem dX0_copyFrom_62 : decode cX0_copyFrom 62 = .ok (.getfield 21, 3) := by decide +kernel
theorem dX0_copyFrom_65 : decode cX0_copyFrom 65 = .ok (.iconst 0, 1) := by decide +kernel
theorem dX0_copyFrom_66 : decode cX0_copyFrom 66 = .ok (.aload_n 0, 1) := by decide +kernel
theorem dX0_copyFrom_67 : decode cX0_copyFrom 67 = .ok (.getfield 21, 3) := by decide +kernel
theorem dX0_copyFrom_70 : decode cX0_copyFrom 70 = .ok (.iconst 0, 1) := by decide +kernel
theorem dX0_copyFrom_71 : decode cX0_copyFrom 71 = .ok (.iconst 4, 1) := by decide +kernel
theorem dX0_copyFrom_72 : decode cX0_copyFrom 72 = .ok (.invokestatic 52, 3) := by decide +kernel
theorem dX0_copyFrom_75 : decode cX0_copyFrom 75 = .ok (.aload_n 1, 1) := by decide +kernel
theorem dX0_copyFrom_76 : decode cX0_copyFrom 76 = .ok (.getfield 24, 3) := by decide +kernel
theorem dX0_copyFrom_79 : decode cX0_copyFrom 79 = .ok (.iconst 0, 1) := by decide +kernel
theorem dX0_copyFrom_80 : decode cX0_copyFrom 80 = .ok (.aload_n 0, 1) := by decide +kernel
theorem dX0_copyFrom_81 : decode cX0_copyFrom 81 = .ok (.getfield 24, 3) := by decide +kernel
theorem dX0_copyFrom_84 : decode cX0_copyFrom 84 = .ok (.iconst 0, 1) := by decide +kernel
theorem dX0_copyFrom_85 : decode cX0_copyFrom 85 = .ok (.iconst 4, 1) := by decide +kernel
theorem dX0_copyFrom_86 : decode cX0_copyFrom 86 = .ok (.invokestatic 52, 3) := by decide +kernel
theorem dX0_copyFrom_89 : decode cX0_copyFrom 89 = .ok (.aload_n 1, 1) := by decide +kernel
theorem dX0_copyFrom_90 : decode cX0_copyFrom 90 = .ok (.getfield 27, 3) := by decide +kernel
theorem dX0_copyFrom_93 : decode cX0_copyFrom 93 = .ok (.iconst 0, 1) := by decide +kernel
theorem dX0_copyFrom_94 : decode cX0_copyFrom 94 = .ok (.aload_n 0, 1) := by decide +kernel
theorem dX0_copyFrom_95 : decode cX0_copyFrom 95 = .ok (.getfield 27, 3) := by decide +kernel
theorem dX0_copyFrom_98 : decode cX0_copyFrom 98 = .ok (.iconst 0, 1) := by decide +kernel
theorem dX0_copyFrom_99 : decode cX0_copyFrom 99 = .ok (.iconst 4, 1) := by decide +kernel
theorem dX0_copyFrom_100 : decode cX0_copyFrom 100 = .ok (.invokestatic 52, 3) := by decide +kernel
theorem dX0_copyFrom_103 : decode cX0_copyFrom 103 = .ok (.aload_n 1, 1) := by decide +kernel
theorem dX0_copyFrom_104 : decode cX0_copyFrom 104 = .ok (.getfield 30, 3) := by decide +kernel
theorem dX0_copyFrom_107 : decode cX0_copyFrom 107 = .ok (.iconst 0, 1) := by decide +kernel
theorem dX0_copyFrom_108 : decode cX0_copyFrom 108 = .ok (.aload_n 0, 1) := by decide +kernel
theorem dX0_copyFrom_109 : decode cX0_copyFrom 109 = .ok (.getfield 30, 3) := by decide +kernel
theorem dX0_copyFrom_112 : decode cX0_copyFrom 112 = .ok (.iconst 0, 1) := by decide +kernel
theorem dX0_copyFrom_113 : decode cX0_copyFrom 113 = .ok (.iconst 4, 1) := by decide +kernel
theorem dX0_copyFrom_114 : decode cX0_copyFrom 114 = .ok (.invokestatic 52, 3) := by decide +kernel
theorem dX0_copyFrom_117 : decode cX0_copyFrom 117 = .ok (.aload_n 1, 1) := by decide +kernel
theorem dX0_copyFrom_118 : decode cX0_copyFrom 118 = .ok (.getfield 33, 3) := by decide +kernel
theorem dX0_copyFrom_121 : decode cX0_copyFrom 121 = .ok (.iconst 0, 1) := by decide +kernel
theorem dX0_copyFrom_122 : decode cX0_copyFrom 122 = .ok (.aload_n 0, 1) := by decide +kernel
theorem dX0_copyFrom_123 : decode cX0_copyFrom 123 = .ok (.getfield 33, 3) := by decide +kernel
theorem dX0_copyFrom_126 : decode cX0_copyFrom 126 = .ok (.iconst 0, 1) := by decide +kernel
theorem dX0_copyFrom_127 : decode cX0_copyFrom 127 = .ok (.iconst 4, 1) := by decide +kernel
theorem dX0_copyFrom_128 : decode cX0_copyFrom 128 = .ok (.invokestatic 52, 3) := by decide +kernel
theorem dX0_copyFrom_131 : decode cX0_copyFrom 131 = .ok (.aload_n 1, 1) := by decide +kernel
theorem dX0_copyFrom_132 : decode cX0_copyFrom 132 = .ok (.getfield 36, 3) := by decide +kernel
theorem dX0_copyFrom_135 : decode cX0_copyFrom 135 = .ok (.iconst 0, 1) := by decide +kernel
theorem dX0_copyFrom_136 : decode cX0_copyFrom 136 = .ok (.aload_n 0, 1) := by decide +kernel
theorem dX0_copyFrom_137 : decode cX0_copyFrom 137 = .ok (.getfield 36, 3) := by decide +kernel
theorem dX0_copyFrom_140 : decode cX0_copyFrom 140 = .ok (.iconst 0, 1) := by decide +kernel
theorem dX0_copyFrom_141 : decode cX0_copyFrom 141 = .ok (.iconst 4, 1) := by decide +kernel
theorem dX0_copyFrom_142 : decode cX0_copyFrom 142 = .ok (.invokestatic 52, 3) := by decide +kernel
theorem dX0_copyFrom_145 : decode cX0_copyFrom 145 = .ok (.aload_n 0, 1) := by decide +kernel
theorem dX0_copyFrom_146 : decode cX0_copyFrom 146 = .ok (.aload_n 1, 1) := by decide +kernel
theorem dX0_copyFrom_147 : decode cX0_copyFrom 147 = .ok (.getfield 61, 3) := by decide +kernel
theorem dX0_copyFrom_150 : decode cX0_copyFrom 150 = .ok (.putfield 61, 3) := by decide +kernel
theorem dX0_copyFrom_153 : decode cX0_copyFrom 153 = .ok (.aload_n 0, 1) := by decide +kernel
theorem dX0_copyFrom_154 : decode cX0_copyFrom 154 = .ok (.aload_n 1, 1) := by decide +kernel
theorem dX0_copyFrom_155 : decode cX0_copyFrom 155 = .ok (.getfield 64, 3) := by decide +kernel
theorem dX0_copyFrom_158 : decode cX0_copyFrom 158 = .ok (.putfield 64, 3) := by decide +kernel
theorem dX0_copyFrom_161 : decode cX0_copyFrom 161 = .ok (.aload_n 1, 1) := by decide +kernel
theorem dX0_copyFrom_162 : decode cX0_copyFrom 162 = .ok (.getfield 39, 3) := by decide +kernel
theorem dX0_copyFrom_165 : decode cX0_copyFrom 165 = .ok (.iconst 0, 1) := by decide +kernel
theorem dX0_copyFrom_166 : decode cX0_copyFrom 166 = .ok (.aload_n 0, 1) := by decide +kernel
theorem dX0_copyFrom_167 : decode cX0_copyFrom 167 = .ok (.getfield 39, 3) := by decide +kernel
theorem dX0_copyFrom_170 : decode cX0_copyFrom 170 = .ok (.iconst 0, 1) := by decide +kernel
theorem dX0_copyFrom_171 : decode cX0_copyFrom 171 = .ok (.bipush 60, 2) := by decide +kernel
theorem dX0_copyFrom_173 : decode cX0_copyFrom 173 = .ok (.invokestatic 52, 3) := by decide +kernel
theorem dX0_copyFrom_176 : decode cX0_copyFrom 176 = .ok (.aload_n 1, 1) := by decide +kernel
theorem dX0_copyFrom_177 : decode cX0_copyFrom 177 = .ok (.getfield 42, 3) := by decide +kernel
theorem dX0_copyFrom_180 : decode cX0_copyFrom 180 = .ok (.iconst 0, 1) := by decide +kernel
theorem dX0_copyFrom_181 : decode cX0_copyFrom 181 = .ok (.aload_n 0, 1) := by decide +kernel
theorem dX0_copyFrom_182 : decode cX0_copyFrom 182 = .ok (.getfield 42, 3) := by decide +kernel
theorem dX0_copyFrom_185 : decode cX0_copyFrom 185 = .ok (.iconst 0, 1) := by decide +kernel
theorem dX0_copyFrom_186 : decode cX0_copyFrom 186 = .ok (.bipush 60, 2) := by decide +kernel
theorem dX0_copyFrom_188 : decode cX0_copyFrom 188 = .ok (.invokestatic 52, 3) := by decide +kernel
theorem dX0_copyFrom_191 : decode cX0_copyFrom 191 = .ok (.aload_n 1, 1) := by decide +kernel
theorem dX0_copyFrom_192 : decode cX0_copyFrom 192 = .ok (.getfield 45, 3) := by decide +kernel
theorem dX0_copyFrom_195 : decode cX0_copyFrom 195 = .ok (.iconst 0, 1) := by decide +kernel
theorem dX0_copyFrom_196 : decode cX0_copyFrom 196 = .ok (.aload_n 0, 1) := by decide +kernel
theorem dX0_copyFrom_197 : decode cX0_copyFrom 197 = .ok (.getfield 45, 3) := by decide +kernel
theorem dX0_copyFrom_200 : decode cX0_copyFrom 200 = .ok (.iconst 0, 1) := by decide +kernel
theorem dX0_copyFrom_201 : decode cX0_copyFrom 201 = .ok (.bipush 60, 2) := by decide +kernel
theorem dX0_copyFrom_203 : decode cX0_copyFrom 203 = .ok (.invokestatic 52, 3) := by decide +kernel
theorem dX0_copyFrom_206 : decode cX0_copyFrom 206 = .ok (.return_, 1) := by decide +kernel
theorem dX0_clearAll_0 : decode cX0_clearAll 0 = .ok (.aload_n 0, 1) := by decide +kernel
theorem dX0_clearAll_1 : decode cX0_clearAll 1 = .ok (.iconst 0, 1) := by decide +kernel
theorem dX0_clearAll_2 : decode cX0_clearAll 2 = .ok (.putfield 48, 3) := by decide +kernel
theorem dX0_clearAll_5 : decode cX0_clearAll 5 = .ok (.aload_n 0, 1) := by decide +kernel
theorem dX0_clearAll_6 : decode cX0_clearAll 6 = .ok (.iconst 0, 1) := by decide +kernel
theorem dX0_clearAll_7 : decode cX0_clearAll 7 = .ok (.putfield 58, 3) := by decide +kernel
theorem dX0_clearAll_10 : decode cX0_clearAll 10 = .ok (.aload_n 0, 1) := by decide +kernel
theorem dX0_clearAll_11 : decode cX0_clearAll 11 = .ok (.iconst 0, 1) := by decide +kernel
theorem dX0_clearAll_12 : decode cX0_clearAll 12 = .ok (.putfield 61, 3) := by decide +kernel
theorem dX0_clearAll_15 : decode cX0_clearAll 15 = .ok (.aload_n 0, 1) := by decide +kernel
theorem dX0_clearAll_16 : decode cX0_clearAll 16 = .ok (.iconst 0, 1) := by decide +kernel
theorem dX0_clearAll_17 : decode cX0_clearAll 17 = .ok (.putfield 64, 3) := by decide +kernel
theorem dX0_clearAll_20 : decode cX0_clearAll 20 = .ok (.return_, 1) := by decide +kernel
theorem dX0_hasPlace_0 : decode cX0_hasPlace 0 = .ok (.iload_n 1, 1) := by decide +kernel
theorem dX0_hasPlace_1 : decode cX0_hasPlace 1 = .ok (.ifCond .lt 15, 3) := by decide +kernel
theorem dX0_hasPlace_4 : decode cX0_hasPlace 4 = .ok (.iload_n 1, 1) := by decide +kernel
theorem dX0_hasPlace_5 : decode cX0_hasPlace 5 = .ok (.aload_n 0, 1) := by decide +kernel
theorem dX0_hasPlace_6 : decode cX0_hasPlace 6 = .ok (.getfield 48, 3) := by decide +kernel
theorem dX0_hasPlace_9 : decode cX0_hasPlace 9 = .ok (.if_icmp .ge 7, 3) := by decide +kernel
theorem dX0_hasPlace_12 : decode cX0_hasPlace 12 = .ok (.iconst 1, 1) := by decide +kernel
theorem dX0_hasPlace_13 : decode cX0_hasPlace 13 = .ok (.goto 4, 3) := by decide +kernel
theorem dX0_hasPlace_16 : decode cX0_hasPlace 16 = .ok (.iconst 0, 1) := by decide +kernel
theorem dX0_hasPlace_17 : decode cX0_hasPlace 17 = .ok (.ireturn, 1) := by decide +kernel
theorem dX0_hasTrain_0 : decode cX0_hasTrain 0 = .ok (.iload_n 1, 1) := by decide +kernel
theorem dX0_hasTrain_1 : decode cX0_hasTrain 1 = .ok (.ifCond .lt 15, 3) := by decide +kernel
theorem dX0_hasTrain_4 : decode cX0_hasTrain 4 = .ok (.iload_n 1, 1) := by decide +kernel
theorem dX0_hasTrain_5 : decode cX0_hasTrain 5 = .ok (.aload_n 0, 1) := by decide +kernel
theorem dX0_hasTrain_6 : decode cX0_hasTrain 6 = .ok (.getfield 58, 3) := by decide +kernel
theorem dX0_hasTrain_9 : decode cX0_hasTrain 9 = .ok (.if_icmp .ge 7, 3) := by decide +kernel
theorem dX0_hasTrain_12 : decode cX0_hasTrain 12 = .ok (.iconst 1, 1) := by decide +kernel
theorem dX0_hasTrain_13 : decode cX0_hasTrain 13 = .ok (.goto 4, 3) := by decide +kernel
theorem dX0_hasTrain_16 : decode cX0_hasTrain 16 = .ok (.iconst 0, 1) := by decide +kernel
theorem dX0_hasTrain_17 : decode cX0_hasTrain 17 = .ok (.ireturn, 1) := by decide +kernel
theorem dX0_hasAllToldPlaces_0 : decode cX0_hasAllToldPlaces 0 = .ok (.iconst 0, 1) := by decide +kernel
theorem dX0_hasAllToldPlaces_1 : decode cX0_hasAllToldPlaces 1 = .ok (.istore_n 1, 1) := by decide +kernel
theorem dX0_hasAllToldPlaces_2 : decode cX0_hasAllToldPlaces 2 = .ok (.iload_n 1, 1) := by decide +kernel
theorem dX0_hasAllToldPlaces_3 : decode cX0_hasAllToldPlaces 3 = .ok (.aload_n 0, 1) := by decide +kernel
theorem dX0_hasAllToldPlaces_4 : decode cX0_hasAllToldPlaces 4 = .ok (.getfield 58, 3) := by decide +kernel
theorem dX0_hasAllToldPlaces_7 : decode cX0_hasAllToldPlaces 7 = .ok (.if_icmp .ge 37, 3) := by decide +kernel
theorem dX0_hasAllToldPlaces_10 : decode cX0_hasAllToldPlaces 10 = .ok (.aload_n 0, 1) := by decide +kernel
theorem dX0_hasAllToldPlaces_11 : decode cX0_hasAllToldPlaces 11 = .ok (.getfield 21, 3) := by decide +kernel
theorem dX0_hasAllToldPlaces_14 : decode cX0_hasAllToldPlaces 14 = .ok (.iload_n 1, 1) := by decide +kernel
theorem dX0_hasAllToldPlaces_15 : decode cX0_hasAllToldPlaces 15 = .ok (.iaload, 1) := by decide +kernel
theorem dX0_hasAllToldPlaces_16 : decode cX0_hasAllToldPlaces 16 = .ok (.aload_n 0, 1) := by decide +kernel
theorem dX0_hasAllToldPlaces_17 : decode cX0_hasAllToldPlaces 17 = .ok (.getfield 48, 3) := by decide +kernel
theorem dX0_hasAllToldPlaces_20 : decode cX0_hasAllToldPlaces 20 = .ok (.if_icmp .ge 16, 3) := by decide +kernel
theorem dX0_hasAllToldPlaces_23 : decode cX0_hasAllToldPlaces 23 = .ok (.aload_n 0, 1) := by decide +kernel
theorem dX0_hasAllToldPlaces_24 : decode cX0_hasAllToldPlaces 24 = .ok (.getfield 24, 3) := by decide +kernel
theorem dX0_hasAllToldPlaces_27 : decode cX0_hasAllToldPlaces 27 = .ok (.iload_n 1, 1) := by decide +kernel
theorem dX0_hasAllToldPlaces_28 : decode cX0_hasAllToldPlaces 28 = .ok (.iaload, 1) := by decide +kernel
theorem dX0_hasAllToldPlaces_29 : decode cX0_hasAllToldPlaces 29 = .ok (.aload_n 0, 1) := by decide +kernel
theorem dX0_hasAllToldPlaces_30 : decode cX0_hasAllToldPlaces 30 = .ok (.getfield 48, 3) := by decide +kernel
theorem dX0_hasAllToldPlaces_33 : decode cX0_hasAllToldPlaces 33 = .ok (.if_icmp .lt 5, 3) := by decide +kernel
theorem dX0_hasAllToldPlaces_36 : decode cX0_hasAllToldPlaces 36 = .ok (.iconst 0, 1) := by decide +kernel
theorem dX0_hasAllToldPlaces_37 : decode cX0_hasAllToldPlaces 37 = .ok (.ireturn, 1) := by decide +kernel
theorem dX0_hasAllToldPlaces_38 : decode cX0_hasAllToldPlaces 38 = .ok (.iinc 1 1, 3) := by decide +kernel
theorem dX0_hasAllToldPlaces_41 : decode cX0_hasAllToldPlaces 41 = .ok (.goto (-39), 3) := by decide +kernel
theorem dX0_hasAllToldPlaces_44 : decode cX0_hasAllToldPlaces 44 = .ok (.iconst 1, 1) := by decide +kernel
theorem dX0_hasAllToldPlaces_45 : decode cX0_hasAllToldPlaces 45 = .ok (.ireturn, 1) := by decide +kernel
theorem dX0_openPlace_0 : decode cX0_openPlace 0 = .ok (.aload_n 0, 1) := by decide +kernel
theorem dX0_openPlace_1 : decode cX0_openPlace 1 = .ok (.getfield 48, 3) := by decide +kernel
theorem dX0_openPlace_4 : decode cX0_openPlace 4 = .ok (.bipush 6, 2) := by decide +kernel
theorem dX0_openPlace_6 : decode cX0_openPlace 6 = .ok (.if_icmp .ge 33, 3) := by decide +kernel
theorem dX0_openPlace_9 : decode cX0_openPlace 9 = .ok (.aload_n 0, 1) := by decide +kernel
theorem dX0_openPlace_10 : decode cX0_openPlace 10 = .ok (.getfield 9, 3) := by decide +kernel
theorem dX0_openPlace_13 : decode cX0_openPlace 13 = .ok (.aload_n 0, 1) := by decide +kernel
theorem dX0_openPlace_14 : decode cX0_openPlace 14 = .ok (.getfield 48, 3) := by decide +kernel
theorem dX0_openPlace_17 : decode cX0_openPlace 17 = .ok (.iconst 0, 1) := by decide +kernel
theorem dX0_openPlace_18 : decode cX0_openPlace 18 = .ok (.iastore, 1) := by decide +kernel
theorem dX0_openPlace_19 : decode cX0_openPlace 19 = .ok (.aload_n 0, 1) := by decide +kernel
theorem dX0_openPlace_20 : decode cX0_openPlace 20 = .ok (.getfield 18, 3) := by decide +kernel
theorem dX0_openPlace_23 : decode cX0_openPlace 23 = .ok (.aload_n 0, 1) := by decide +kernel
theorem dX0_openPlace_24 : decode cX0_openPlace 24 = .ok (.getfield 48, 3) := by decide +kernel
theorem dX0_openPlace_27 : decode cX0_openPlace 27 = .ok (.iconst 1, 1) := by decide +kernel
theorem dX0_openPlace_28 : decode cX0_openPlace 28 = .ok (.iastore, 1) := by decide +kernel
theorem dX0_openPlace_29 : decode cX0_openPlace 29 = .ok (.aload_n 0, 1) := by decide +kernel
theorem dX0_openPlace_30 : decode cX0_openPlace 30 = .ok (.dup, 1) := by decide +kernel
theorem dX0_openPlace_31 : decode cX0_openPlace 31 = .ok (.getfield 48, 3) := by decide +kernel
theorem dX0_openPlace_34 : decode cX0_openPlace 34 = .ok (.iconst 1, 1) := by decide +kernel
theorem dX0_openPlace_35 : decode cX0_openPlace 35 = .ok (.iadd, 1) := by decide +kernel
theorem dX0_openPlace_36 : decode cX0_openPlace 36 = .ok (.putfield 48, 3) := by decide +kernel
theorem dX0_openPlace_39 : decode cX0_openPlace 39 = .ok (.return_, 1) := by decide +kernel
theorem dX0_openTrack_0 : decode cX0_openTrack 0 = .ok (.aload_n 0, 1) := by decide +kernel
theorem dX0_openTrack_1 : decode cX0_openTrack 1 = .ok (.getfield 48, 3) := by decide +kernel
theorem dX0_openTrack_4 : decode cX0_openTrack 4 = .ok (.iconst 1, 1) := by decide +kernel
theorem dX0_openTrack_5 : decode cX0_openTrack 5 = .ok (.isub, 1) := by decide +kernel
theorem dX0_openTrack_6 : decode cX0_openTrack 6 = .ok (.istore_n 2, 1) := by decide +kernel
theorem dX0_openTrack_7 : decode cX0_openTrack 7 = .ok (.iload_n 2, 1) := by decide +kernel
theorem dX0_openTrack_8 : decode cX0_openTrack 8 = .ok (.ifCond .lt 13, 3) := by decide +kernel
theorem dX0_openTrack_11 : decode cX0_openTrack 11 = .ok (.aload_n 0, 1) := by decide +kernel
theorem dX0_openTrack_12 : decode cX0_openTrack 12 = .ok (.getfield 9, 3) := by decide +kernel
theorem dX0_openTrack_15 : decode cX0_openTrack 15 = .ok (.iload_n 2, 1) := by decide +kernel
theorem dX0_openTrack_16 : decode cX0_openTrack 16 = .ok (.iaload, 1) := by decide +kernel
theorem dX0_openTrack_17 : decode cX0_openTrack 17 = .ok (.iconst 3, 1) := by decide +kernel
theorem dX0_openTrack_18 : decode cX0_openTrack 18 = .ok (.if_icmp .lt 4, 3) := by decide +kernel
theorem dX0_openTrack_21 : decode cX0_openTrack 21 = .ok (.return_, 1) := by decide +kernel
theorem dX0_openTrack_22 : decode cX0_openTrack 22 = .ok (.iload_n 2, 1) := by decide +kernel
theorem dX0_openTrack_23 : decode cX0_openTrack 23 = .ok (.iconst 3, 1) := by decide +kernel
theorem dX0_openTrack_24 : decode cX0_openTrack 24 = .ok (.imul, 1) := by decide +kernel
theorem dX0_openTrack_25 : decode cX0_openTrack 25 = .ok (.istore_n 3, 1) := by decide +kernel
theorem dX0_openTrack_26 : decode cX0_openTrack 26 = .ok (.iload_n 3, 1) := by decide +kernel
theorem dX0_openTrack_27 : decode cX0_openTrack 27 = .ok (.aload_n 0, 1) := by decide +kernel
theorem dX0_openTrack_28 : decode cX0_openTrack 28 = .ok (.getfield 9, 3) := by decide +kernel
theorem dX0_openTrack_31 : decode cX0_openTrack 31 = .ok (.iload_n 2, 1) := by decide +kernel
theorem dX0_openTrack_32 : decode cX0_openTrack 32 = .ok (.iaload, 1) := by decide +kernel
theorem dX0_openTrack_33 : decode cX0_openTrack 33 = .ok (.iadd, 1) := by decide +kernel
theorem dX0_openTrack_34 : decode cX0_openTrack 34 = .ok (.istore 4, 2) := by decide +kernel
theorem dX0_openTrack_36 : decode cX0_openTrack 36 = .ok (.iload 4, 2) := by decide +kernel
theorem dX0_openTrack_38 : decode cX0_openTrack 38 = .ok (.iload_n 3, 1) := by decide +kernel
theorem dX0_openTrack_39 : decode cX0_openTrack 39 = .ok (.if_icmp .le 38, 3) := by decide +kernel
theorem dX0_openTrack_42 : decode cX0_openTrack 42 = .ok (.aload_n 0, 1) := by decide +kernel
theorem dX0_openTrack_43 : decode cX0_openTrack 43 = .ok (.getfield 15, 3) := by decide +kernel
theorem dX0_openTrack_46 : decode cX0_openTrack 46 = .ok (.iload 4, 2) := by decide +kernel
theorem dX0_openTrack_48 : decode cX0_openTrack 48 = .ok (.iconst 1, 1) := by decide +kernel
theorem dX0_openTrack_49 : decode cX0_openTrack 49 = .ok (.isub, 1) := by decide +kernel
theorem dX0_openTrack_50 : decode cX0_openTrack 50 = .ok (.iaload, 1) := by decide +kernel
theorem dX0_openTrack_51 : decode cX0_openTrack 51 = .ok (.iload_n 1, 1) := by decide +kernel
theorem dX0_openTrack_52 : decode cX0_openTrack 52 = .ok (.if_icmp .ge 25, 3) := by decide +kernel
theorem dX0_openTrack_55 : decode cX0_openTrack 55 = .ok (.aload_n 0, 1) := by decide +kernel
theorem dX0_openTrack_56 : decode cX0_openTrack 56 = .ok (.getfield 15, 3) := by decide +kernel
theorem dX0_openTrack_59 : decode cX0_openTrack 59 = .ok (.iload 4, 2) := by decide +kernel
theorem dX0_openTrack_61 : decode cX0_openTrack 61 = .ok (.aload_n 0, 1) := by decide +kernel
theorem dX0_openTrack_62 : decode cX0_openTrack 62 = .ok (.getfield 15, 3) := by decide +kernel
theorem dX0_openTrack_65 : decode cX0_openTrack 65 = .ok (.iload 4, 2) := by decide +kernel
theorem dX0_openTrack_67 : decode cX0_openTrack 67 = .ok (.iconst 1, 1) := by decide +kernel
theorem dX0_openTrack_68 : decode cX0_openTrack 68 = .ok (.isub, 1) := by decide +kernel
theorem dX0_openTrack_69 : decode cX0_openTrack 69 = .ok (.iaload, 1) := by decide +kernel
theorem dX0_openTrack_70 : decode cX0_openTrack 70 = .ok (.iastore, 1) := by decide +kernel
theorem dX0_openTrack_71 : decode cX0_openTrack 71 = .ok (.iinc 4 (-1), 3) := by decide +kernel
theorem dX0_openTrack_74 : decode cX0_openTrack 74 = .ok (.goto (-38), 3) := by decide +kernel
theorem dX0_openTrack_77 : decode cX0_openTrack 77 = .ok (.aload_n 0, 1) := by decide +kernel
theorem dX0_openTrack_78 : decode cX0_openTrack 78 = .ok (.getfield 15, 3) := by decide +kernel
theorem dX0_openTrack_81 : decode cX0_openTrack 81 = .ok (.iload 4, 2) := by decide +kernel
theorem dX0_openTrack_83 : decode cX0_openTrack 83 = .ok (.iload_n 1, 1) := by decide +kernel
theorem dX0_openTrack_84 : decode cX0_openTrack 84 = .ok (.iastore, 1) := by decide +kernel
theorem dX0_openTrack_85 : decode cX0_openTrack 85 = .ok (.aload_n 0, 1) := by decide +kernel
theorem dX0_openTrack_86 : decode cX0_openTrack 86 = .ok (.getfield 9, 3) := by decide +kernel
theorem dX0_openTrack_89 : decode cX0_openTrack 89 = .ok (.iload_n 2, 1) := by decide +kernel
theorem dX0_openTrack_90 : decode cX0_openTrack 90 = .ok (.dup2, 1) := by decide +kernel
theorem dX0_openTrack_91 : decode cX0_openTrack 91 = .ok (.iaload, 1) := by decide +kernel
theorem dX0_openTrack_92 : decode cX0_openTrack 92 = .ok (.iconst 1, 1) := by decide +kernel
theorem dX0_openTrack_93 : decode cX0_openTrack 93 = .ok (.iadd, 1) := by decide +kernel
theorem dX0_openTrack_94 : decode cX0_openTrack 94 = .ok (.iastore, 1) := by decide +kernel
theorem dX0_openTrack_95 : decode cX0_openTrack 95 = .ok (.return_, 1) := by decide +kernel
theorem dX0_openTrain_0 : decode cX0_openTrain 0 = .ok (.aload_n 0, 1) := by decide +kernel
theorem dX0_openTrain_1 : decode cX0_openTrain 1 = .ok (.getfield 58, 3) := by decide +kernel
theorem dX0_openTrain_4 : decode cX0_openTrain 4 = .ok (.iconst 4, 1) := by decide +kernel
theorem dX0_openTrain_5 : decode cX0_openTrain 5 = .ok (.if_icmp .ge 78, 3) := by decide +kernel
theorem dX0_openTrain_8 : decode cX0_openTrain 8 = .ok (.aload_n 0, 1) := by decide +kernel
theorem dX0_openTrain_9 : decode cX0_openTrain 9 = .ok (.getfield 21, 3) := by decide +kernel
theorem dX0_openTrain_12 : decode cX0_openTrain 12 = .ok (.aload_n 0, 1) := by decide +kernel
theorem dX0_openTrain_13 : decode cX0_openTrain 13 = .ok (.getfield 58, 3) := by decide +kernel
theorem dX0_openTrain_16 : decode cX0_openTrain 16 = .ok (.iload_n 1, 1) := by decide +kernel
theorem dX0_openTrain_17 : decode cX0_openTrain 17 = .ok (.iastore, 1) := by decide +kernel
theorem dX0_openTrain_18 : decode cX0_openTrain 18 = .ok (.aload_n 0, 1) := by decide +kernel
theorem dX0_openTrain_19 : decode cX0_openTrain 19 = .ok (.getfield 24, 3) := by decide +kernel
theorem dX0_openTrain_22 : decode cX0_openTrain 22 = .ok (.aload_n 0, 1) := by decide +kernel
theorem dX0_openTrain_23 : decode cX0_openTrain 23 = .ok (.getfield 58, 3) := by decide +kernel
theorem dX0_openTrain_26 : decode cX0_openTrain 26 = .ok (.iload_n 2, 1) := by decide +kernel
theorem dX0_openTrain_27 : decode cX0_openTrain 27 = .ok (.iastore, 1) := by decide +kernel
theorem dX0_openTrain_28 : decode cX0_openTrain 28 = .ok (.aload_n 0, 1) := by decide +kernel
theorem dX0_openTrain_29 : decode cX0_openTrain 29 = .ok (.getfield 27, 3) := by decide +kernel
theorem dX0_openTrain_32 : decode cX0_openTrain 32 = .ok (.aload_n 0, 1) := by decide +kernel
theorem dX0_openTrain_33 : decode cX0_openTrain 33 = .ok (.getfield 58, 3) := by decide +kernel
theorem dX0_openTrain_36 : decode cX0_openTrain 36 = .ok (.iload_n 3, 1) := by decide +kernel
theorem dX0_openTrain_37 : decode cX0_openTrain 37 = .ok (.iastore, 1) := by decide +kernel
theorem dX0_openTrain_38 : decode cX0_openTrain 38 = .ok (.aload_n 0, 1) := by decide +kernel
theorem dX0_openTrain_39 : decode cX0_openTrain 39 = .ok (.getfield 30, 3) := by decide +kernel
theorem dX0_openTrain_42 : decode cX0_openTrain 42 = .ok (.aload_n 0, 1) := by decide +kernel
theorem dX0_openTrain_43 : decode cX0_openTrain 43 = .ok (.getfield 58, 3) := by decide +kernel
theorem dX0_openTrain_46 : decode cX0_openTrain 46 = .ok (.iload_n 2, 1) := by decide +kernel
theorem dX0_openTrain_47 : decode cX0_openTrain 47 = .ok (.iload_n 1, 1) := by decide +kernel
theorem dX0_openTrain_48 : decode cX0_openTrain 48 = .ok (.isub, 1) := by decide +kernel
theorem dX0_openTrain_49 : decode cX0_openTrain 49 = .ok (.invokestatic 67, 3) := by decide +kernel
theorem dX0_openTrain_52 : decode cX0_openTrain 52 = .ok (.iastore, 1) := by decide +kernel
theorem dX0_openTrain_53 : decode cX0_openTrain 53 = .ok (.aload_n 0, 1) := by decide +kernel
theorem dX0_openTrain_54 : decode cX0_openTrain 54 = .ok (.getfield 33, 3) := by decide +kernel
theorem dX0_openTrain_57 : decode cX0_openTrain 57 = .ok (.aload_n 0, 1) := by decide +kernel
theorem dX0_openTrain_58 : decode cX0_openTrain 58 = .ok (.getfield 58, 3) := by decide +kernel
theorem dX0_openTrain_61 : decode cX0_openTrain 61 = .ok (.iconst 0, 1) := by decide +kernel
theorem dX0_openTrain_62 : decode cX0_openTrain 62 = .ok (.iastore, 1) := by decide +kernel
theorem dX0_openTrain_63 : decode cX0_openTrain 63 = .ok (.aload_n 0, 1) := by decide +kernel
theorem dX0_openTrain_64 : decode cX0_openTrain 64 = .ok (.getfield 36, 3) := by decide +kernel
theorem dX0_openTrain_67 : decode cX0_openTrain 67 = .ok (.aload_n 0, 1) := by decide +kernel
theorem dX0_openTrain_68 : decode cX0_openTrain 68 = .ok (.getfield 58, 3) := by decide +kernel
theorem dX0_openTrain_71 : decode cX0_openTrain 71 = .ok (.iconst 0, 1) := by decide +kernel
theorem dX0_openTrain_72 : decode cX0_openTrain 72 = .ok (.iastore, 1) := by decide +kernel
theorem dX0_openTrain_73 : decode cX0_openTrain 73 = .ok (.aload_n 0, 1) := by decide +kernel
theorem dX0_openTrain_74 : decode cX0_openTrain 74 = .ok (.dup, 1) := by decide +kernel
theorem dX0_openTrain_75 : decode cX0_openTrain 75 = .ok (.getfield 58, 3) := by decide +kernel
theorem dX0_openTrain_78 : decode cX0_openTrain 78 = .ok (.iconst 1, 1) := by decide +kernel
theorem dX0_openTrain_79 : decode cX0_openTrain 79 = .ok (.iadd, 1) := by decide +kernel
theorem dX0_openTrain_80 : decode cX0_openTrain 80 = .ok (.putfield 58, 3) := by decide +kernel
theorem dX0_openTrain_83 : decode cX0_openTrain 83 = .ok (.return_, 1) := by decide +kernel
theorem dX0_removeTrain_0 : decode cX0_removeTrain 0 = .ok (.iload_n 1, 1) := by decide +kernel
theorem dX0_removeTrain_1 : decode cX0_removeTrain 1 = .ok (.istore_n 2, 1) := by decide +kernel
theorem dX0_removeTrain_2 : decode cX0_removeTrain 2 = .ok (.iload_n 2, 1) := by decide +kernel
theorem dX0_removeTrain_3 : decode cX0_removeTrain 3 = .ok (.aload_n 0, 1) := by decide +kernel
theorem dX0_removeTrain_4 : decode cX0_removeTrain 4 = .ok (.getfield 58, 3) := by decide +kernel
theorem dX0_removeTrain_7 : decode cX0_removeTrain 7 = .ok (.iconst 1, 1) := by decide +kernel
theorem dX0_removeTrain_8 : decode cX0_removeTrain 8 = .ok (.isub, 1) := by decide +kernel
theorem dX0_removeTrain_9 : decode cX0_removeTrain 9 = .ok (.if_icmp .ge 93, 3) := by decide +kernel
theorem dX0_removeTrain_12 : decode cX0_removeTrain 12 = .ok (.aload_n 0, 1) := by decide +kernel
theorem dX0_removeTrain_13 : decode cX0_removeTrain 13 = .ok (.getfield 21, 3) := by decide +kernel
theorem dX0_removeTrain_16 : decode cX0_removeTrain 16 = .ok (.iload_n 2, 1) := by decide +kernel
theorem dX0_removeTrain_17 : decode cX0_removeTrain 17 = .ok (.aload_n 0, 1) := by decide +kernel
theorem dX0_removeTrain_18 : decode cX0_removeTrain 18 = .ok (.getfield 21, 3) := by decide +kernel
theorem dX0_removeTrain_21 : decode cX0_removeTrain 21 = .ok (.iload_n 2, 1) := by decide +kernel
theorem dX0_removeTrain_22 : decode cX0_removeTrain 22 = .ok (.iconst 1, 1) := by decide +kernel
theorem dX0_removeTrain_23 : decode cX0_removeTrain 23 = .ok (.iadd, 1) := by decide +kernel
theorem dX0_removeTrain_24 : decode cX0_removeTrain 24 = .ok (.iaload, 1) := by decide +kernel
theorem dX0_removeTrain_25 : decode cX0_removeTrain 25 = .ok (.iastore, 1) := by decide +kernel
theorem dX0_removeTrain_26 : decode cX0_removeTrain 26 = .ok (.aload_n 0, 1) := by decide +kernel
theorem dX0_removeTrain_27 : decode cX0_removeTrain 27 = .ok (.getfield 24, 3) := by decide +kernel
theorem dX0_removeTrain_30 : decode cX0_removeTrain 30 = .ok (.iload_n 2, 1) := by decide +kernel
theorem dX0_removeTrain_31 : decode cX0_removeTrain 31 = .ok (.aload_n 0, 1) := by decide +kernel
theorem dX0_removeTrain_32 : decode cX0_removeTrain 32 = .ok (.getfield 24, 3) := by decide +kernel
theorem dX0_removeTrain_35 : decode cX0_removeTrain 35 = .ok (.iload_n 2, 1) := by decide +kernel
theorem dX0_removeTrain_36 : decode cX0_removeTrain 36 = .ok (.iconst 1, 1) := by decide +kernel
theorem dX0_removeTrain_37 : decode cX0_removeTrain 37 = .ok (.iadd, 1) := by decide +kernel
theorem dX0_removeTrain_38 : decode cX0_removeTrain 38 = .ok (.iaload, 1) := by decide +kernel
theorem dX0_removeTrain_39 : decode cX0_removeTrain 39 = .ok (.iastore, 1) := by decide +kernel
theorem dX0_removeTrain_40 : decode cX0_removeTrain 40 = .ok (.aload_n 0, 1) := by decide +kernel
theorem dX0_removeTrain_41 : decode cX0_removeTrain 41 = .ok (.getfield 27, 3) := by decide +kernel
theorem dX0_removeTrain_44 : decode cX0_removeTrain 44 = .ok (.iload_n 2, 1) := by decide +kernel
theorem dX0_removeTrain_45 : decode cX0_removeTrain 45 = .ok (.aload_n 0, 1) := by decide +kernel
theorem dX0_removeTrain_46 : decode cX0_removeTrain 46 = .ok (.getfield 27, 3) := by decide +kernel
theorem dX0_removeTrain_49 : decode cX0_removeTrain 49 = .ok (.iload_n 2, 1) := by decide +kernel
theorem dX0_removeTrain_50 : decode cX0_removeTrain 50 = .ok (.iconst 1, 1) := by decide +kernel
theorem dX0_removeTrain_51 : decode cX0_removeTrain 51 = .ok (.iadd, 1) := by decide +kernel
theorem dX0_removeTrain_52 : decode cX0_removeTrain 52 = .ok (.iaload, 1) := by decide +kernel
theorem dX0_removeTrain_53 : decode cX0_removeTrain 53 = .ok (.iastore, 1) := by decide +kernel
theorem dX0_removeTrain_54 : decode cX0_removeTrain 54 = .ok (.aload_n 0, 1) := by decide +kernel
theorem dX0_removeTrain_55 : decode cX0_removeTrain 55 = .ok (.getfield 30, 3) := by decide +kernel
theorem dX0_removeTrain_58 : decode cX0_removeTrain 58 = .ok (.iload_n 2, 1) := by decide +kernel
theorem dX0_removeTrain_59 : decode cX0_removeTrain 59 = .ok (.aload_n 0, 1) := by decide +kernel
theorem dX0_removeTrain_60 : decode cX0_removeTrain 60 = .ok (.getfield 30, 3) := by decide +kernel
theorem dX0_removeTrain_63 : decode cX0_removeTrain 63 = .ok (.iload_n 2, 1) := by decide +kernel
theorem dX0_removeTrain_64 : decode cX0_removeTrain 64 = .ok (.iconst 1, 1) := by decide +kernel
theorem dX0_removeTrain_65 : decode cX0_removeTrain 65 = .ok (.iadd, 1) := by decide +kernel
theorem dX0_removeTrain_66 : decode cX0_removeTrain 66 = .ok (.iaload, 1) := by decide +kernel
theorem dX0_removeTrain_67 : decode cX0_removeTrain 67 = .ok (.iastore, 1) := by decide +kernel
theorem dX0_removeTrain_68 : decode cX0_removeTrain 68 = .ok (.aload_n 0, 1) := by decide +kernel
theorem dX0_removeTrain_69 : decode cX0_removeTrain 69 = .ok (.getfield 33, 3) := by decide +kernel
theorem dX0_removeTrain_72 : decode cX0_removeTrain 72 = .ok (.iload_n 2, 1) := by decide +kernel
theorem dX0_removeTrain_73 : decode cX0_removeTrain 73 = .ok (.aload_n 0, 1) := by decide +kernel
theorem dX0_removeTrain_74 : decode cX0_removeTrain 74 = .ok (.getfield 33, 3) := by decide +kernel
theorem dX0_removeTrain_77 : decode cX0_removeTrain 77 = .ok (.iload_n 2, 1) := by decide +kernel
theorem dX0_removeTrain_78 : decode cX0_removeTrain 78 = .ok (.iconst 1, 1) := by decide +kernel
theorem dX0_removeTrain_79 : decode cX0_removeTrain 79 = .ok (.iadd, 1) := by decide +kernel
theorem dX0_removeTrain_80 : decode cX0_removeTrain 80 = .ok (.iaload, 1) := by decide +kernel
theorem dX0_removeTrain_81 : decode cX0_removeTrain 81 = .ok (.iastore, 1) := by decide +kernel
theorem dX0_removeTrain_82 : decode cX0_removeTrain 82 = .ok (.aload_n 0, 1) := by decide +kernel
theorem dX0_removeTrain_83 : decode cX0_removeTrain 83 = .ok (.getfield 36, 3) := by decide +kernel
theorem dX0_removeTrain_86 : decode cX0_removeTrain 86 = .ok (.iload_n 2, 1) := by decide +kernel
theorem dX0_removeTrain_87 : decode cX0_removeTrain 87 = .ok (.aload_n 0, 1) := by decide +kernel
theorem dX0_removeTrain_88 : decode cX0_removeTrain 88 = .ok (.getfield 36, 3) := by decide +kernel
theorem dX0_removeTrain_91 : decode cX0_removeTrain 91 = .ok (.iload_n 2, 1) := by decide +kernel
theorem dX0_removeTrain_92 : decode cX0_removeTrain 92 = .ok (.iconst 1, 1) := by decide +kernel
theorem dX0_removeTrain_93 : decode cX0_removeTrain 93 = .ok (.iadd, 1) := by decide +kernel
theorem dX0_removeTrain_94 : decode cX0_removeTrain 94 = .ok (.iaload, 1) := by decide +kernel
theorem dX0_removeTrain_95 : decode cX0_removeTrain 95 = .ok (.iastore, 1) := by decide +kernel
theorem dX0_removeTrain_96 : decode cX0_removeTrain 96 = .ok (.iinc 2 1, 3) := by decide +kernel
theorem dX0_removeTrain_99 : decode cX0_removeTrain 99 = .ok (.goto (-97), 3) := by decide +kernel
theorem dX0_removeTrain_102 : decode cX0_removeTrain 102 = .ok (.aload_n 0, 1) := by decide +kernel
theorem dX0_removeTrain_103 : decode cX0_removeTrain 103 = .ok (.dup, 1) := by decide +kernel
theorem dX0_removeTrain_104 : decode cX0_removeTrain 104 = .ok (.getfield 58, 3) := by decide +kernel
theorem dX0_removeTrain_107 : decode cX0_removeTrain 107 = .ok (.iconst 1, 1) := by decide +kernel
theorem dX0_removeTrain_108 : decode cX0_removeTrain 108 = .ok (.isub, 1) := by decide +kernel
theorem dX0_removeTrain_109 : decode cX0_removeTrain 109 = .ok (.putfield 58, 3) := by decide +kernel
theorem dX0_removeTrain_112 : decode cX0_removeTrain 112 = .ok (.aload_n 0, 1) := by decide +kernel
theorem dX0_removeTrain_113 : decode cX0_removeTrain 113 = .ok (.iload_n 1, 1) := by decide +kernel
theorem dX0_removeTrain_114 : decode cX0_removeTrain 114 = .ok (.invokevirtual 73, 3) := by decide +kernel
theorem dX0_removeTrain_117 : decode cX0_removeTrain 117 = .ok (.return_, 1) := by decide +kernel
theorem dX0_removeEntries_0 : decode cX0_removeEntries 0 = .ok (.iconst 0, 1) := by decide +kernel
theorem dX0_removeEntries_1 : decode cX0_removeEntries 1 = .ok (.istore_n 2, 1) := by decide +kernel
theorem dX0_removeEntries_2 : decode cX0_removeEntries 2 = .ok (.iconst 0, 1) := by decide +kernel
theorem dX0_removeEntries_3 : decode cX0_removeEntries 3 = .ok (.istore_n 3, 1) := by decide +kernel
theorem dX0_removeEntries_4 : decode cX0_removeEntries 4 = .ok (.iload_n 3, 1) := by decide +kernel
theorem dX0_removeEntries_5 : decode cX0_removeEntries 5 = .ok (.aload_n 0, 1) := by decide +kernel
theorem dX0_removeEntries_6 : decode cX0_removeEntries 6 = .ok (.getfield 64, 3) := by decide +kernel
theorem dX0_removeEntries_9 : decode cX0_removeEntries 9 = .ok (.if_icmp .ge 79, 3) := by decide +kernel
theorem dX0_removeEntries_12 : decode cX0_removeEntries 12 = .ok (.aload_n 0, 1) := by decide +kernel
theorem dX0_removeEntries_13 : decode cX0_removeEntries 13 = .ok (.getfield 42, 3) := by decide +kernel
theorem dX0_removeEntries_16 : decode cX0_removeEntries 16 = .ok (.iload_n 3, 1) := by decide +kernel
theorem dX0_removeEntries_17 : decode cX0_removeEntries 17 = .ok (.iaload, 1) := by decide +kernel
theorem dX0_removeEntries_18 : decode cX0_removeEntries 18 = .ok (.iload_n 1, 1) := by decide +kernel
theorem dX0_removeEntries_19 : decode cX0_removeEntries 19 = .ok (.if_icmp .eq 63, 3) := by decide +kernel
theorem dX0_removeEntries_22 : decode cX0_removeEntries 22 = .ok (.aload_n 0, 1) := by decide +kernel
theorem dX0_removeEntries_23 : decode cX0_removeEntries 23 = .ok (.getfield 39, 3) := by decide +kernel
theorem dX0_removeEntries_26 : decode cX0_removeEntries 26 = .ok (.iload_n 2, 1) := by decide +kernel
theorem dX0_removeEntries_27 : decode cX0_removeEntries 27 = .ok (.aload_n 0, 1) := by decide +kernel
theorem dX0_removeEntries_28 : decode cX0_removeEntries 28 = .ok (.getfield 39, 3) := by decide +kernel
theorem dX0_removeEntries_31 : decode cX0_removeEntries 31 = .ok (.iload_n 3, 1) := by decide +kernel
theorem dX0_removeEntries_32 : decode cX0_removeEntries 32 = .ok (.iaload, 1) := by decide +kernel
theorem dX0_removeEntries_33 : decode cX0_removeEntries 33 = .ok (.iastore, 1) := by decide +kernel
theorem dX0_removeEntries_34 : decode cX0_removeEntries 34 = .ok (.aload_n 0, 1) := by decide +kernel
theorem dX0_removeEntries_35 : decode cX0_removeEntries 35 = .ok (.getfield 42, 3) := by decide +kernel
theorem dX0_removeEntries_38 : decode cX0_removeEntries 38 = .ok (.iload_n 2, 1) := by decide +kernel
theorem dX0_removeEntries_39 : decode cX0_removeEntries 39 = .ok (.aload_n 0, 1) := by decide +kernel
theorem dX0_removeEntries_40 : decode cX0_removeEntries 40 = .ok (.getfield 42, 3) := by decide +kernel
theorem dX0_removeEntries_43 : decode cX0_removeEntries 43 = .ok (.iload_n 3, 1) := by decide +kernel
theorem dX0_removeEntries_44 : decode cX0_removeEntries 44 = .ok (.iaload, 1) := by decide +kernel
theorem dX0_removeEntries_45 : decode cX0_removeEntries 45 = .ok (.iload_n 1, 1) := by decide +kernel
theorem dX0_removeEntries_46 : decode cX0_removeEntries 46 = .ok (.if_icmp .le 14, 3) := by decide +kernel
theorem dX0_removeEntries_49 : decode cX0_removeEntries 49 = .ok (.aload_n 0, 1) := by decide +kernel
theorem dX0_removeEntries_50 : decode cX0_removeEntries 50 = .ok (.getfield 42, 3) := by decide +kernel
theorem dX0_removeEntries_53 : decode cX0_removeEntries 53 = .ok (.iload_n 3, 1) := by decide +kernel
theorem dX0_removeEntries_54 : decode cX0_removeEntries 54 = .ok (.iaload, 1) := by decide +kernel
theorem dX0_removeEntries_55 : decode cX0_removeEntries 55 = .ok (.iconst 1, 1) := by decide +kernel
theorem dX0_removeEntries_56 : decode cX0_removeEntries 56 = .ok (.isub, 1) := by decide +kernel
theorem dX0_removeEntries_57 : decode cX0_removeEntries 57 = .ok (.goto 9, 3) := by decide +kernel
theorem dX0_removeEntries_60 : decode cX0_removeEntries 60 = .ok (.aload_n 0, 1) := by decide +kernel
theorem dX0_removeEntries_61 : decode cX0_removeEntries 61 = .ok (.getfield 42, 3) := by decide +kernel
theorem dX0_removeEntries_64 : decode cX0_removeEntries 64 = .ok (.iload_n 3, 1) := by decide +kernel
theorem dX0_removeEntries_65 : decode cX0_removeEntries 65 = .ok (.iaload, 1) := by decide +kernel
theorem dX0_removeEntries_66 : decode cX0_removeEntries 66 = .ok (.iastore, 1) := by decide +kernel
theorem dX0_removeEntries_67 : decode cX0_removeEntries 67 = .ok (.aload_n 0, 1) := by decide +kernel
theorem dX0_removeEntries_68 : decode cX0_removeEntries 68 = .ok (.getfield 45, 3) := by decide +kernel
theorem dX0_removeEntries_71 : decode cX0_removeEntries 71 = .ok (.iload_n 2, 1) := by decide +kernel
theorem dX0_removeEntries_72 : decode cX0_removeEntries 72 = .ok (.aload_n 0, 1) := by decide +kernel
theorem dX0_removeEntries_73 : decode cX0_removeEntries 73 = .ok (.getfield 45, 3) := by decide +kernel
theorem dX0_removeEntries_76 : decode cX0_removeEntries 76 = .ok (.iload_n 3, 1) := by decide +kernel
theorem dX0_removeEntries_77 : decode cX0_removeEntries 77 = .ok (.iaload, 1) := by decide +kernel
theorem dX0_removeEntries_78 : decode cX0_removeEntries 78 = .ok (.iastore, 1) := by decide +kernel
theorem dX0_removeEntries_79 : decode cX0_removeEntries 79 = .ok (.iinc 2 1, 3) := by decide +kernel
theorem dX0_removeEntries_82 : decode cX0_removeEntries 82 = .ok (.iinc 3 1, 3) := by decide +kernel
theorem dX0_removeEntries_85 : decode cX0_removeEntries 85 = .ok (.goto (-81), 3) := by decide +kernel
theorem dX0_removeEntries_88 : decode cX0_removeEntries 88 = .ok (.aload_n 0, 1) := by decide +kernel
theorem dX0_removeEntries_89 : decode cX0_removeEntries 89 = .ok (.iload_n 2, 1) := by decide +kernel
theorem dX0_removeEntries_90 : decode cX0_removeEntries 90 = .ok (.putfield 64, 3) := by decide +kernel
theorem dX0_removeEntries_93 : decode cX0_removeEntries 93 = .ok (.return_, 1) := by decide +kernel
theorem dX0_howMany_0 : decode cX0_howMany 0 = .ok (.iconst 0, 1) := by decide +kernel
theorem dX0_howMany_1 : decode cX0_howMany 1 = .ok (.istore_n 2, 1) := by decide +kernel
theorem dX0_howMany_2 : decode cX0_howMany 2 = .ok (.iconst 0, 1) := by decide +kernel
theorem dX0_howMany_3 : decode cX0_howMany 3 = .ok (.istore_n 3, 1) := by decide +kernel
theorem dX0_howMany_4 : decode cX0_howMany 4 = .ok (.iload_n 3, 1) := by decide +kernel
theorem dX0_howMany_5 : decode cX0_howMany 5 = .ok (.aload_n 0, 1) := by decide +kernel
theorem dX0_howMany_6 : decode cX0_howMany 6 = .ok (.getfield 58, 3) := by decide +kernel
theorem dX0_howMany_9 : decode cX0_howMany 9 = .ok (.if_icmp .ge 27, 3) := by decide +kernel
theorem dX0_howMany_12 : decode cX0_howMany 12 = .ok (.iload_n 2, 1) := by decide +kernel
theorem dX0_howMany_13 : decode cX0_howMany 13 = .ok (.aload_n 0, 1) := by decide +kernel
theorem dX0_howMany_14 : decode cX0_howMany 14 = .ok (.getfield 33, 3) := by decide +kernel
theorem dX0_howMany_17 : decode cX0_howMany 17 = .ok (.iload_n 3, 1) := by decide +kernel
theorem dX0_howMany_18 : decode cX0_howMany 18 = .ok (.iaload, 1) := by decide +kernel
theorem dX0_howMany_19 : decode cX0_howMany 19 = .ok (.iload_n 1, 1) := by decide +kernel
theorem dX0_howMany_20 : decode cX0_howMany 20 = .ok (.if_icmp .ne 7, 3) := by decide +kernel
theorem dX0_howMany_23 : decode cX0_howMany 23 = .ok (.iconst 1, 1) := by decide +kernel
theorem dX0_howMany_24 : decode cX0_howMany 24 = .ok (.goto 4, 3) := by decide +kernel
theorem dX0_howMany_27 : decode cX0_howMany 27 = .ok (.iconst 0, 1) := by decide +kernel
theorem dX0_howMany_28 : decode cX0_howMany 28 = .ok (.iadd, 1) := by decide +kernel
theorem dX0_howMany_29 : decode cX0_howMany 29 = .ok (.istore_n 2, 1) := by decide +kernel
theorem dX0_howMany_30 : decode cX0_howMany 30 = .ok (.iinc 3 1, 3) := by decide +kernel
theorem dX0_howMany_33 : decode cX0_howMany 33 = .ok (.goto (-29), 3) := by decide +kernel
theorem dX0_howMany_36 : decode cX0_howMany 36 = .ok (.iload_n 2, 1) := by decide +kernel
theorem dX0_howMany_37 : decode cX0_howMany 37 = .ok (.ireturn, 1) := by decide +kernel
theorem dX0_howManyThere_0 : decode cX0_howManyThere 0 = .ok (.iconst 0, 1) := by decide +kernel
theorem dX0_howManyThere_1 : decode cX0_howManyThere 1 = .ok (.istore_n 2, 1) := by decide +kernel
theorem dX0_howManyThere_2 : decode cX0_howManyThere 2 = .ok (.iconst 0, 1) := by decide +kernel
theorem dX0_howManyThere_3 : decode cX0_howManyThere 3 = .ok (.istore_n 3, 1) := by decide +kernel
theorem dX0_howManyThere_4 : decode cX0_howManyThere 4 = .ok (.iload_n 3, 1) := by decide +kernel
theorem dX0_howManyThere_5 : decode cX0_howManyThere 5 = .ok (.aload_n 0, 1) := by decide +kernel
theorem dX0_howManyThere_6 : decode cX0_howManyThere 6 = .ok (.getfield 58, 3) := by decide +kernel
theorem dX0_howManyThere_9 : decode cX0_howManyThere 9 = .ok (.if_icmp .ge 41, 3) := by decide +kernel
theorem dX0_howManyThere_12 : decode cX0_howManyThere 12 = .ok (.iload_n 2, 1) := by decide +kernel
theorem dX0_howManyThere_13 : decode cX0_howManyThere 13 = .ok (.aload_n 0, 1) := by decide +kernel
theorem dX0_howManyThere_14 : decode cX0_howManyThere 14 = .ok (.getfield 30, 3) := by decide +kernel
theorem dX0_howManyThere_17 : decode cX0_howManyThere 17 = .ok (.iload_n 3, 1) := by decide +kernel
theorem dX0_howManyThere_18 : decode cX0_howManyThere 18 = .ok (.iaload, 1) := by decide +kernel
theorem dX0_howManyThere_19 : decode cX0_howManyThere 19 = .ok (.ifCond .le 22, 3) := by decide +kernel
theorem dX0_howManyThere_22 : decode cX0_howManyThere 22 = .ok (.aload_n 0, 1) := by decide +kernel
theorem dX0_howManyThere_23 : decode cX0_howManyThere 23 = .ok (.iload_n 3, 1) := by decide +kernel
theorem dX0_howManyThere_24 : decode cX0_howManyThere 24 = .ok (.aload_n 0, 1) := by decide +kernel
theorem dX0_howManyThere_25 : decode cX0_howManyThere 25 = .ok (.getfield 30, 3) := by decide +kernel
theorem dX0_howManyThere_28 : decode cX0_howManyThere 28 = .ok (.iload_n 3, 1) := by decide +kernel
theorem dX0_howManyThere_29 : decode cX0_howManyThere 29 = .ok (.iaload, 1) := by decide +kernel
theorem dX0_howManyThere_30 : decode cX0_howManyThere 30 = .ok (.invokevirtual 77, 3) := by decide +kernel
theorem dX0_howManyThere_33 : decode cX0_howManyThere 33 = .ok (.iload_n 1, 1) := by decide +kernel
theorem dX0_howManyThere_34 : decode cX0_howManyThere 34 = .ok (.if_icmp .ne 7, 3) := by decide +kernel
theorem dX0_howManyThere_37 : decode cX0_howManyThere 37 = .ok (.iconst 1, 1) := by decide +kernel
theorem dX0_howManyThere_38 : decode cX0_howManyThere 38 = .ok (.goto 4, 3) := by decide +kernel
theorem dX0_howManyThere_41 : decode cX0_howManyThere 41 = .ok (.iconst 0, 1) := by decide +kernel
theorem dX0_howManyThere_42 : decode cX0_howManyThere 42 = .ok (.iadd, 1) := by decide +kernel
theorem dX0_howManyThere_43 : decode cX0_howManyThere 43 = .ok (.istore_n 2, 1) := by decide +kernel
theorem dX0_howManyThere_44 : decode cX0_howManyThere 44 = .ok (.iinc 3 1, 3) := by decide +kernel
theorem dX0_howManyThere_47 : decode cX0_howManyThere 47 = .ok (.goto (-43), 3) := by decide +kernel
theorem dX0_howManyThere_50 : decode cX0_howManyThere 50 = .ok (.iload_n 2, 1) := by decide +kernel
theorem dX0_howManyThere_51 : decode cX0_howManyThere 51 = .ok (.ireturn, 1) := by decide +kernel
theorem dX0_stepsLeft_0 : decode cX0_stepsLeft 0 = .ok (.iconst 0, 1) := by decide +kernel
theorem dX0_stepsLeft_1 : decode cX0_stepsLeft 1 = .ok (.istore_n 1, 1) := by decide +kernel
theorem dX0_stepsLeft_2 : decode cX0_stepsLeft 2 = .ok (.iconst 0, 1) := by decide +kernel
theorem dX0_stepsLeft_3 : decode cX0_stepsLeft 3 = .ok (.istore_n 2, 1) := by decide +kernel
theorem dX0_stepsLeft_4 : decode cX0_stepsLeft 4 = .ok (.iload_n 2, 1) := by decide +kernel
theorem dX0_stepsLeft_5 : decode cX0_stepsLeft 5 = .ok (.aload_n 0, 1) := by decide +kernel
theorem dX0_stepsLeft_6 : decode cX0_stepsLeft 6 = .ok (.getfield 58, 3) := by decide +kernel
theorem dX0_stepsLeft_9 : decode cX0_stepsLeft 9 = .ok (.if_icmp .ge 18, 3) := by decide +kernel
theorem dX0_stepsLeft_12 : decode cX0_stepsLeft 12 = .ok (.iload_n 1, 1) := by decide +kernel
theorem dX0_stepsLeft_13 : decode cX0_stepsLeft 13 = .ok (.aload_n 0, 1) := by decide +kernel
theorem dX0_stepsLeft_14 : decode cX0_stepsLeft 14 = .ok (.getfield 30, 3) := by decide +kernel
theorem dX0_stepsLeft_17 : decode cX0_stepsLeft 17 = .ok (.iload_n 2, 1) := by decide +kernel
theorem dX0_stepsLeft_18 : decode cX0_stepsLeft 18 = .ok (.iaload, 1) := by decide +kernel
theorem dX0_stepsLeft_19 : decode cX0_stepsLeft 19 = .ok (.iadd, 1) := by decide +kernel
theorem dX0_stepsLeft_20 : decode cX0_stepsLeft 20 = .ok (.istore_n 1, 1) := by decide +kernel
theorem dX0_stepsLeft_21 : decode cX0_stepsLeft 21 = .ok (.iinc 2 1, 3) := by decide +kernel
theorem dX0_stepsLeft_24 : decode cX0_stepsLeft 24 = .ok (.goto (-20), 3) := by decide +kernel
theorem dX0_stepsLeft_27 : decode cX0_stepsLeft 27 = .ok (.iload_n 1, 1) := by decide +kernel
theorem dX0_stepsLeft_28 : decode cX0_stepsLeft 28 = .ok (.ireturn, 1) := by decide +kernel
theorem dX0_spot_0 : decode cX0_spot 0 = .ok (.aload_n 0, 1) := by decide +kernel
theorem dX0_spot_1 : decode cX0_spot 1 = .ok (.getfield 24, 3) := by decide +kernel
theorem dX0_spot_4 : decode cX0_spot 4 = .ok (.iload_n 1, 1) := by decide +kernel
theorem dX0_spot_5 : decode cX0_spot 5 = .ok (.iaload, 1) := by decide +kernel
theorem dX0_spot_6 : decode cX0_spot 6 = .ok (.aload_n 0, 1) := by decide +kernel
theorem dX0_spot_7 : decode cX0_spot 7 = .ok (.getfield 21, 3) := by decide +kernel
theorem dX0_spot_10 : decode cX0_spot 10 = .ok (.iload_n 1, 1) := by decide +kernel
theorem dX0_spot_11 : decode cX0_spot 11 = .ok (.iaload, 1) := by decide +kernel
theorem dX0_spot_12 : decode cX0_spot 12 = .ok (.if_icmp .le 14, 3) := by decide +kernel
theorem dX0_spot_15 : decode cX0_spot 15 = .ok (.aload_n 0, 1) := by decide +kernel
theorem dX0_spot_16 : decode cX0_spot 16 = .ok (.getfield 24, 3) := by decide +kernel
theorem dX0_spot_19 : decode cX0_spot 19 = .ok (.iload_n 1, 1) := by decide +kernel
theorem dX0_spot_20 : decode cX0_spot 20 = .ok (.iaload, 1) := by decide +kernel
theorem dX0_spot_21 : decode cX0_spot 21 = .ok (.iload_n 2, 1) := by decide +kernel
theorem dX0_spot_22 : decode cX0_spot 22 = .ok (.isub, 1) := by decide +kernel
theorem dX0_spot_23 : decode cX0_spot 23 = .ok (.goto 11, 3) := by decide +kernel
theorem dX0_spot_26 : decode cX0_spot 26 = .ok (.aload_n 0, 1) := by decide +kernel
theorem dX0_spot_27 : decode cX0_spot 27 = .ok (.getfield 24, 3) := by decide +kernel
theorem dX0_spot_30 : decode cX0_spot 30 = .ok (.iload_n 1, 1) := by decide +kernel
theorem dX0_spot_31 : decode cX0_spot 31 = .ok (.iaload, 1) := by decide +kernel
theorem dX0_spot_32 : decode cX0_spot 32 = .ok (.iload_n 2, 1) := by decide +kernel
theorem dX0_spot_33 : decode cX0_spot 33 = .ok (.iadd, 1) := by decide +kernel
theorem dX0_spot_34 : decode cX0_spot 34 = .ok (.ireturn, 1) := by decide +kernel
theorem dX0_sectionAhead_0 : decode cX0_sectionAhead 0 = .ok (.aload_n 0, 1) := by decide +kernel
theorem dX0_sectionAhead_1 : decode cX0_sectionAhead 1 = .ok (.getfield 24, 3) := by decide +kernel
theorem dX0_sectionAhead_4 : decode cX0_sectionAhead 4 = .ok (.iload_n 1, 1) := by decide +kernel
theorem dX0_sectionAhead_5 : decode cX0_sectionAhead 5 = .ok (.iaload, 1) := by decide +kernel
theorem dX0_sectionAhead_6 : decode cX0_sectionAhead 6 = .ok (.aload_n 0, 1) := by decide +kernel
theorem dX0_sectionAhead_7 : decode cX0_sectionAhead 7 = .ok (.getfield 21, 3) := by decide +kernel
theorem dX0_sectionAhead_10 : decode cX0_sectionAhead 10 = .ok (.iload_n 1, 1) := by decide +kernel
theorem dX0_sectionAhead_11 : decode cX0_sectionAhead 11 = .ok (.iaload, 1) := by decide +kernel
theorem dX0_sectionAhead_12 : decode cX0_sectionAhead 12 = .ok (.if_icmp .le 14, 3) := by decide +kernel
theorem dX0_sectionAhead_15 : decode cX0_sectionAhead 15 = .ok (.aload_n 0, 1) := by decide +kernel
theorem dX0_sectionAhead_16 : decode cX0_sectionAhead 16 = .ok (.getfield 24, 3) := by decide +kernel
theorem dX0_sectionAhead_19 : decode cX0_sectionAhead 19 = .ok (.iload_n 1, 1) := by decide +kernel
theorem dX0_sectionAhead_20 : decode cX0_sectionAhead 20 = .ok (.iaload, 1) := by decide +kernel
theorem dX0_sectionAhead_21 : decode cX0_sectionAhead 21 = .ok (.iload_n 2, 1) := by decide +kernel
theorem dX0_sectionAhead_22 : decode cX0_sectionAhead 22 = .ok (.isub, 1) := by decide +kernel
theorem dX0_sectionAhead_23 : decode cX0_sectionAhead 23 = .ok (.goto 13, 3) := by decide +kernel
theorem dX0_sectionAhead_26 : decode cX0_sectionAhead 26 = .ok (.aload_n 0, 1) := by decide +kernel
theorem dX0_sectionAhead_27 : decode cX0_sectionAhead 27 = .ok (.getfield 24, 3) := by decide +kernel
theorem dX0_sectionAhead_30 : decode cX0_sectionAhead 30 = .ok (.iload_n 1, 1) := by decide +kernel
theorem dX0_sectionAhead_31 : decode cX0_sectionAhead 31 = .ok (.iaload, 1) := by decide +kernel
theorem dX0_sectionAhead_32 : decode cX0_sectionAhead 32 = .ok (.iload_n 2, 1) := by decide +kernel
theorem dX0_sectionAhead_33 : decode cX0_sectionAhead 33 = .ok (.iadd, 1) := by decide +kernel
theorem dX0_sectionAhead_34 : decode cX0_sectionAhead 34 = .ok (.iconst 1, 1) := by decide +kernel
theorem dX0_sectionAhead_35 : decode cX0_sectionAhead 35 = .ok (.isub, 1) := by decide +kernel
theorem dX0_sectionAhead_36 : decode cX0_sectionAhead 36 = .ok (.ireturn, 1) := by decide +kernel
theorem dX0_minutesLeft_0 : decode cX0_minutesLeft 0 = .ok (.iconst 0, 1) := by decide +kernel
theorem dX0_minutesLeft_1 : decode cX0_minutesLeft 1 = .ok (.istore_n 2, 1) := by decide +kernel
theorem dX0_minutesLeft_2 : decode cX0_minutesLeft 2 = .ok (.aload_n 0, 1) := by decide +kernel
theorem dX0_minutesLeft_3 : decode cX0_minutesLeft 3 = .ok (.getfield 30, 3) := by decide +kernel
theorem dX0_minutesLeft_6 : decode cX0_minutesLeft 6 = .ok (.iload_n 1, 1) := by decide +kernel
theorem dX0_minutesLeft_7 : decode cX0_minutesLeft 7 = .ok (.iaload, 1) := by decide +kernel
theorem dX0_minutesLeft_8 : decode cX0_minutesLeft 8 = .ok (.istore_n 3, 1) := by decide +kernel
theorem dX0_minutesLeft_9 : decode cX0_minutesLeft 9 = .ok (.iload_n 3, 1) := by decide +kernel
theorem dX0_minutesLeft_10 : decode cX0_minutesLeft 10 = .ok (.ifCond .le 23, 3) := by decide +kernel
theorem dX0_minutesLeft_13 : decode cX0_minutesLeft 13 = .ok (.iload_n 2, 1) := by decide +kernel
theorem dX0_minutesLeft_14 : decode cX0_minutesLeft 14 = .ok (.aload_n 0, 1) := by decide +kernel
theorem dX0_minutesLeft_15 : decode cX0_minutesLeft 15 = .ok (.getfield 18, 3) := by decide +kernel
theorem dX0_minutesLeft_18 : decode cX0_minutesLeft 18 = .ok (.aload_n 0, 1) := by decide +kernel
theorem dX0_minutesLeft_19 : decode cX0_minutesLeft 19 = .ok (.iload_n 1, 1) := by decide +kernel
theorem dX0_minutesLeft_20 : decode cX0_minutesLeft 20 = .ok (.iload_n 3, 1) := by decide +kernel
theorem dX0_minutesLeft_21 : decode cX0_minutesLeft 21 = .ok (.invokevirtual 81, 3) := by decide +kernel
theorem dX0_minutesLeft_24 : decode cX0_minutesLeft 24 = .ok (.iaload, 1) := by decide +kernel
theorem dX0_minutesLeft_25 : decode cX0_minutesLeft 25 = .ok (.iadd, 1) := by decide +kernel
theorem dX0_minutesLeft_26 : decode cX0_minutesLeft 26 = .ok (.istore_n 2, 1) := by decide +kernel
theorem dX0_minutesLeft_27 : decode cX0_minutesLeft 27 = .ok (.iinc 3 (-1), 3) := by decide +kernel
theorem dX0_minutesLeft_30 : decode cX0_minutesLeft 30 = .ok (.goto (-21), 3) := by decide +kernel
theorem dX0_minutesLeft_33 : decode cX0_minutesLeft 33 = .ok (.iload_n 2, 1) := by decide +kernel
theorem dX0_minutesLeft_34 : decode cX0_minutesLeft 34 = .ok (.ireturn, 1) := by decide +kernel
theorem dX0_runnerIn_0 : decode cX0_runnerIn 0 = .ok (.iconst 0, 1) := by decide +kernel
theorem dX0_runnerIn_1 : decode cX0_runnerIn 1 = .ok (.istore_n 2, 1) := by decide +kernel
theorem dX0_runnerIn_2 : decode cX0_runnerIn 2 = .ok (.iload_n 2, 1) := by decide +kernel
theorem dX0_runnerIn_3 : decode cX0_runnerIn 3 = .ok (.aload_n 0, 1) := by decide +kernel
theorem dX0_runnerIn_4 : decode cX0_runnerIn 4 = .ok (.getfield 58, 3) := by decide +kernel
theorem dX0_runnerIn_7 : decode cX0_runnerIn 7 = .ok (.if_icmp .ge 38, 3) := by decide +kernel
theorem dX0_runnerIn_10 : decode cX0_runnerIn 10 = .ok (.aload_n 0, 1) := by decide +kernel
theorem dX0_runnerIn_11 : decode cX0_runnerIn 11 = .ok (.getfield 33, 3) := by decide +kernel
theorem dX0_runnerIn_14 : decode cX0_runnerIn 14 = .ok (.iload_n 2, 1) := by decide +kernel
theorem dX0_runnerIn_15 : decode cX0_runnerIn 15 = .ok (.iaload, 1) := by decide +kernel
theorem dX0_runnerIn_16 : decode cX0_runnerIn 16 = .ok (.iconst 1, 1) := by decide +kernel
theorem dX0_runnerIn_17 : decode cX0_runnerIn 17 = .ok (.if_icmp .ne 22, 3) := by decide +kernel
theorem dX0_runnerIn_20 : decode cX0_runnerIn 20 = .ok (.aload_n 0, 1) := by decide +kernel
theorem dX0_runnerIn_21 : decode cX0_runnerIn 21 = .ok (.iload_n 2, 1) := by decide +kernel
theorem dX0_runnerIn_22 : decode cX0_runnerIn 22 = .ok (.aload_n 0, 1) := by decide +kernel
theorem dX0_runnerIn_23 : decode cX0_runnerIn 23 = .ok (.getfield 30, 3) := by decide +kernel
theorem dX0_runnerIn_26 : decode cX0_runnerIn 26 = .ok (.iload_n 2, 1) := by decide +kernel
theorem dX0_runnerIn_27 : decode cX0_runnerIn 27 = .ok (.iaload, 1) := by decide +kernel
theorem dX0_runnerIn_28 : decode cX0_runnerIn 28 = .ok (.iconst 1, 1) := by decide +kernel
theorem dX0_runnerIn_29 : decode cX0_runnerIn 29 = .ok (.iadd, 1) := by decide +kernel
theorem dX0_runnerIn_30 : decode cX0_runnerIn 30 = .ok (.invokevirtual 81, 3) := by decide +kernel
theorem dX0_runnerIn_33 : decode cX0_runnerIn 33 = .ok (.iload_n 1, 1) := by decide +kernel
theorem dX0_runnerIn_34 : decode cX0_runnerIn 34 = .ok (.if_icmp .ne 5, 3) := by decide +kernel
theorem dX0_runnerIn_37 : decode cX0_runnerIn 37 = .ok (.iload_n 2, 1) := by decide +kernel
theorem dX0_runnerIn_38 : decode cX0_runnerIn 38 = .ok (.ireturn, 1) := by decide +kernel
theorem dX0_runnerIn_39 : decode cX0_runnerIn 39 = .ok (.iinc 2 1, 3) := by decide +kernel
theorem dX0_runnerIn_42 : decode cX0_runnerIn 42 = .ok (.goto (-40), 3) := by decide +kernel
theorem dX0_runnerIn_45 : decode cX0_runnerIn 45 = .ok (.bipush (-4), 2) := by decide +kernel
theorem dX0_runnerIn_47 : decode cX0_runnerIn 47 = .ok (.ireturn, 1) := by decide +kernel
theorem dX0_depart_0 : decode cX0_depart 0 = .ok (.aload_n 0, 1) := by decide +kernel
theorem dX0_depart_1 : decode cX0_depart 1 = .ok (.getfield 30, 3) := by decide +kernel
theorem dX0_depart_4 : decode cX0_depart 4 = .ok (.iload_n 1, 1) := by decide +kernel
theorem dX0_depart_5 : decode cX0_depart 5 = .ok (.iaload, 1) := by decide +kernel
theorem dX0_depart_6 : decode cX0_depart 6 = .ok (.iconst 1, 1) := by decide +kernel
theorem dX0_depart_7 : decode cX0_depart 7 = .ok (.if_icmp .ge 4, 3) := by decide +kernel
theorem dX0_depart_10 : decode cX0_depart 10 = .ok (.return_, 1) := by decide +kernel
theorem dX0_depart_11 : decode cX0_depart 11 = .ok (.aload_n 0, 1) := by decide +kernel
theorem dX0_depart_12 : decode cX0_depart 12 = .ok (.iload_n 1, 1) := by decide +kernel
theorem dX0_depart_13 : decode cX0_depart 13 = .ok (.aload_n 0, 1) := by decide +kernel
theorem dX0_depart_14 : decode cX0_depart 14 = .ok (.iload_n 1, 1) := by decide +kernel
theorem dX0_depart_15 : decode cX0_depart 15 = .ok (.aload_n 0, 1) := by decide +kernel
theorem dX0_depart_16 : decode cX0_depart 16 = .ok (.getfield 30, 3) := by decide +kernel
theorem dX0_depart_19 : decode cX0_depart 19 = .ok (.iload_n 1, 1) := by decide +kernel
theorem dX0_depart_20 : decode cX0_depart 20 = .ok (.iaload, 1) := by decide +kernel
theorem dX0_depart_21 : decode cX0_depart 21 = .ok (.invokevirtual 77, 3) := by decide +kernel
theorem dX0_depart_24 : decode cX0_depart 24 = .ok (.invokevirtual 84, 3) := by decide +kernel
theorem dX0_depart_27 : decode cX0_depart 27 = .ok (.aload_n 0, 1) := by decide +kernel
theorem dX0_depart_28 : decode cX0_depart 28 = .ok (.getfield 36, 3) := by decide +kernel
theorem dX0_depart_31 : decode cX0_depart 31 = .ok (.iload_n 1, 1) := by decide +kernel
theorem dX0_depart_32 : decode cX0_depart 32 = .ok (.aload_n 0, 1) := by decide +kernel
theorem dX0_depart_33 : decode cX0_depart 33 = .ok (.getfield 61, 3) := by decide +kernel
theorem dX0_depart_36 : decode cX0_depart 36 = .ok (.aload_n 0, 1) := by decide +kernel
theorem dX0_depart_37 : decode cX0_depart 37 = .ok (.getfield 18, 3) := by decide +kernel
theorem dX0_depart_40 : decode cX0_depart 40 = .ok (.aload_n 0, 1) := by decide +kernel
theorem dX0_depart_41 : decode cX0_depart 41 = .ok (.iload_n 1, 1) := by decide +kernel
theorem dX0_depart_42 : decode cX0_depart 42 = .ok (.aload_n 0, 1) := by decide +kernel
theorem dX0_depart_43 : decode cX0_depart 43 = .ok (.getfield 30, 3) := by decide +kernel
theorem dX0_depart_46 : decode cX0_depart 46 = .ok (.iload_n 1, 1) := by decide +kernel
theorem dX0_depart_47 : decode cX0_depart 47 = .ok (.iaload, 1) := by decide +kernel
theorem dX0_depart_48 : decode cX0_depart 48 = .ok (.invokevirtual 81, 3) := by decide +kernel
theorem dX0_depart_51 : decode cX0_depart 51 = .ok (.iaload, 1) := by decide +kernel
theorem dX0_depart_52 : decode cX0_depart 52 = .ok (.iadd, 1) := by decide +kernel
theorem dX0_depart_53 : decode cX0_depart 53 = .ok (.iastore, 1) := by decide +kernel
theorem dX0_depart_54 : decode cX0_depart 54 = .ok (.aload_n 0, 1) := by decide +kernel
theorem dX0_depart_55 : decode cX0_depart 55 = .ok (.getfield 30, 3) := by decide +kernel
theorem dX0_depart_58 : decode cX0_depart 58 = .ok (.iload_n 1, 1) := by decide +kernel
theorem dX0_depart_59 : decode cX0_depart 59 = .ok (.dup2, 1) := by decide +kernel
theorem dX0_depart_60 : decode cX0_depart 60 = .ok (.iaload, 1) := by decide +kernel
theorem dX0_depart_61 : decode cX0_depart 61 = .ok (.iconst 1, 1) := by decide +kernel
theorem dX0_depart_62 : decode cX0_depart 62 = .ok (.isub, 1) := by decide +kernel
theorem dX0_depart_63 : decode cX0_depart 63 = .ok (.iastore, 1) := by decide +kernel
theorem dX0_depart_64 : decode cX0_depart 64 = .ok (.aload_n 0, 1) := by decide +kernel
theorem dX0_depart_65 : decode cX0_depart 65 = .ok (.getfield 33, 3) := by decide +kernel
theorem dX0_depart_68 : decode cX0_depart 68 = .ok (.iload_n 1, 1) := by decide +kernel
theorem dX0_depart_69 : decode cX0_depart 69 = .ok (.iconst 1, 1) := by decide +kernel
theorem dX0_depart_70 : decode cX0_depart 70 = .ok (.iastore, 1) := by decide +kernel
theorem dX0_depart_71 : decode cX0_depart 71 = .ok (.return_, 1) := by decide +kernel
theorem dX0_enterJournal_0 : decode cX0_enterJournal 0 = .ok (.aload_n 0, 1) := by decide +kernel
theorem dX0_enterJournal_1 : decode cX0_enterJournal 1 = .ok (.getfield 64, 3) := by decide +kernel
theorem dX0_enterJournal_4 : decode cX0_enterJournal 4 = .ok (.bipush 60, 2) := by decide +kernel
theorem dX0_enterJournal_6 : decode cX0_enterJournal 6 = .ok (.if_icmp .lt 7, 3) := by decide +kernel
theorem dX0_enterJournal_9 : decode cX0_enterJournal 9 = .ok (.aload_n 0, 1) := by decide +kernel
theorem dX0_enterJournal_10 : decode cX0_enterJournal 10 = .ok (.invokevirtual 88, 3) := by decide +kernel
theorem dX0_enterJournal_13 : decode cX0_enterJournal 13 = .ok (.aload_n 0, 1) := by decide +kernel
theorem dX0_enterJournal_14 : decode cX0_enterJournal 14 = .ok (.getfield 64, 3) := by decide +kernel
theorem dX0_enterJournal_17 : decode cX0_enterJournal 17 = .ok (.istore_n 3, 1) := by decide +kernel
theorem dX0_enterJournal_18 : decode cX0_enterJournal 18 = .ok (.iload_n 3, 1) := by decide +kernel
theorem dX0_enterJournal_19 : decode cX0_enterJournal 19 = .ok (.ifCond .le 78, 3) := by decide +kernel
theorem dX0_enterJournal_22 : decode cX0_enterJournal 22 = .ok (.aload_n 0, 1) := by decide +kernel
theorem dX0_enterJournal_23 : decode cX0_enterJournal 23 = .ok (.getfield 39, 3) := by decide +kernel
theorem dX0_enterJournal_26 : decode cX0_enterJournal 26 = .ok (.iload_n 3, 1) := by decide +kernel
theorem dX0_enterJournal_27 : decode cX0_enterJournal 27 = .ok (.iconst 1, 1) := by decide +kernel
theorem dX0_enterJournal_28 : decode cX0_enterJournal 28 = .ok (.isub, 1) := by decide +kernel
theorem dX0_enterJournal_29 : decode cX0_enterJournal 29 = .ok (.iaload, 1) := by decide +kernel
theorem dX0_enterJournal_30 : decode cX0_enterJournal 30 = .ok (.aload_n 0, 1) := by decide +kernel
theorem dX0_enterJournal_31 : decode cX0_enterJournal 31 = .ok (.getfield 61, 3) := by decide +kernel
theorem dX0_enterJournal_34 : decode cX0_enterJournal 34 = .ok (.if_icmp .ne 63, 3) := by decide +kernel
theorem dX0_enterJournal_37 : decode cX0_enterJournal 37 = .ok (.aload_n 0, 1) := by decide +kernel
theorem dX0_enterJournal_38 : decode cX0_enterJournal 38 = .ok (.getfield 42, 3) := by decide +kernel
theorem dX0_enterJournal_41 : decode cX0_enterJournal 41 = .ok (.iload_n 3, 1) := by decide +kernel
theorem dX0_enterJournal_42 : decode cX0_enterJournal 42 = .ok (.iconst 1, 1) := by decide +kernel
theorem dX0_enterJournal_43 : decode cX0_enterJournal 43 = .ok (.isub, 1) := by decide +kernel
theorem dX0_enterJournal_44 : decode cX0_enterJournal 44 = .ok (.iaload, 1) := by decide +kernel
theorem dX0_enterJournal_45 : decode cX0_enterJournal 45 = .ok (.iload_n 1, 1) := by decide +kernel
theorem dX0_enterJournal_46 : decode cX0_enterJournal 46 = .ok (.if_icmp .le 51, 3) := by decide +kernel
theorem dX0_enterJournal_49 : decode cX0_enterJournal 49 = .ok (.aload_n 0, 1) := by decide +kernel
theorem dX0_enterJournal_50 : decode cX0_enterJournal 50 = .ok (.getfield 39, 3) := by decide +kernel
theorem dX0_enterJournal_53 : decode cX0_enterJournal 53 = .ok (.iload_n 3, 1) := by decide +kernel
theorem dX0_enterJournal_54 : decode cX0_enterJournal 54 = .ok (.aload_n 0, 1) := by decide +kernel
theorem dX0_enterJournal_55 : decode cX0_enterJournal 55 = .ok (.getfield 39, 3) := by decide +kernel
theorem dX0_enterJournal_58 : decode cX0_enterJournal 58 = .ok (.iload_n 3, 1) := by decide +kernel
theorem dX0_enterJournal_59 : decode cX0_enterJournal 59 = .ok (.iconst 1, 1) := by decide +kernel
theorem dX0_enterJournal_60 : decode cX0_enterJournal 60 = .ok (.isub, 1) := by decide +kernel
theorem dX0_enterJournal_61 : decode cX0_enterJournal 61 = .ok (.iaload, 1) := by decide +kernel
theorem dX0_enterJournal_62 : decode cX0_enterJournal 62 = .ok (.iastore, 1) := by decide +kernel
theorem dX0_enterJournal_63 : decode cX0_enterJournal 63 = .ok (.aload_n 0, 1) := by decide +kernel
theorem dX0_enterJournal_64 : decode cX0_enterJournal 64 = .ok (.getfield 42, 3) := by decide +kernel
theorem dX0_enterJournal_67 : decode cX0_enterJournal 67 = .ok (.iload_n 3, 1) := by decide +kernel
theorem dX0_enterJournal_68 : decode cX0_enterJournal 68 = .ok (.aload_n 0, 1) := by decide +kernel
theorem dX0_enterJournal_69 : decode cX0_enterJournal 69 = .ok (.getfield 42, 3) := by decide +kernel
theorem dX0_enterJournal_72 : decode cX0_enterJournal 72 = .ok (.iload_n 3, 1) := by decide +kernel
theorem dX0_enterJournal_73 : decode cX0_enterJournal 73 = .ok (.iconst 1, 1) := by decide +kernel
theorem dX0_enterJournal_74 : decode cX0_enterJournal 74 = .ok (.isub, 1) := by decide +kernel
theorem dX0_enterJournal_75 : decode cX0_enterJournal 75 = .ok (.iaload, 1) := by decide +kernel
theorem dX0_enterJournal_76 : decode cX0_enterJournal 76 = .ok (.iastore, 1) := by decide +kernel
theorem dX0_enterJournal_77 : decode cX0_enterJournal 77 = .ok (.aload_n 0, 1) := by decide +kernel
theorem dX0_enterJournal_78 : decode cX0_enterJournal 78 = .ok (.getfield 45, 3) := by decide +kernel
theorem dX0_enterJournal_81 : decode cX0_enterJournal 81 = .ok (.iload_n 3, 1) := by decide +kernel
theorem dX0_enterJournal_82 : decode cX0_enterJournal 82 = .ok (.aload_n 0, 1) := by decide +kernel
theorem dX0_enterJournal_83 : decode cX0_enterJournal 83 = .ok (.getfield 45, 3) := by decide +kernel
theorem dX0_enterJournal_86 : decode cX0_enterJournal 86 = .ok (.iload_n 3, 1) := by decide +kernel
theorem dX0_enterJournal_87 : decode cX0_enterJournal 87 = .ok (.iconst 1, 1) := by decide +kernel
theorem dX0_enterJournal_88 : decode cX0_enterJournal 88 = .ok (.isub, 1) := by decide +kernel
theorem dX0_enterJournal_89 : decode cX0_enterJournal 89 = .ok (.iaload, 1) := by decide +kernel
theorem dX0_enterJournal_90 : decode cX0_enterJournal 90 = .ok (.iastore, 1) := by decide +kernel
theorem dX0_enterJournal_91 : decode cX0_enterJournal 91 = .ok (.iinc 3 (-1), 3) := by decide +kernel
theorem dX0_enterJournal_94 : decode cX0_enterJournal 94 = .ok (.goto (-76), 3) := by decide +kernel
theorem dX0_enterJournal_97 : decode cX0_enterJournal 97 = .ok (.aload_n 0, 1) := by decide +kernel
theorem dX0_enterJournal_98 : decode cX0_enterJournal 98 = .ok (.getfield 39, 3) := by decide +kernel
theorem dX0_enterJournal_101 : decode cX0_enterJournal 101 = .ok (.iload_n 3, 1) := by decide +kernel
theorem dX0_enterJournal_102 : decode cX0_enterJournal 102 = .ok (.aload_n 0, 1) := by decide +kernel
theorem dX0_enterJournal_103 : decode cX0_enterJournal 103 = .ok (.getfield 61, 3) := by decide +kernel
theorem dX0_enterJournal_106 : decode cX0_enterJournal 106 = .ok (.iastore, 1) := by decide +kernel
theorem dX0_enterJournal_107 : decode cX0_enterJournal 107 = .ok (.aload_n 0, 1) := by decide +kernel
theorem dX0_enterJournal_108 : decode cX0_enterJournal 108 = .ok (.getfield 42, 3) := by decide +kernel
theorem dX0_enterJournal_111 : decode cX0_enterJournal 111 = .ok (.iload_n 3, 1) := by decide +kernel
theorem dX0_enterJournal_112 : decode cX0_enterJournal 112 = .ok (.iload_n 1, 1) := by decide +kernel
theorem dX0_enterJournal_113 : decode cX0_enterJournal 113 = .ok (.iastore, 1) := by decide +kernel
theorem dX0_enterJournal_114 : decode cX0_enterJournal 114 = .ok (.aload_n 0, 1) := by decide +kernel
theorem dX0_enterJournal_115 : decode cX0_enterJournal 115 = .ok (.getfield 45, 3) := by decide +kernel
theorem dX0_enterJournal_118 : decode cX0_enterJournal 118 = .ok (.iload_n 3, 1) := by decide +kernel
theorem dX0_enterJournal_119 : decode cX0_enterJournal 119 = .ok (.iload_n 2, 1) := by decide +kernel
theorem dX0_enterJournal_120 : decode cX0_enterJournal 120 = .ok (.iastore, 1) := by decide +kernel
theorem dX0_enterJournal_121 : decode cX0_enterJournal 121 = .ok (.aload_n 0, 1) := by decide +kernel
theorem dX0_enterJournal_122 : decode cX0_enterJournal 122 = .ok (.dup, 1) := by decide +kernel
theorem dX0_enterJournal_123 : decode cX0_enterJournal 123 = .ok (.getfield 64, 3) := by decide +kernel
theorem dX0_enterJournal_126 : decode cX0_enterJournal 126 = .ok (.iconst 1, 1) := by decide +kernel
theorem dX0_enterJournal_127 : decode cX0_enterJournal 127 = .ok (.iadd, 1) := by decide +kernel
theorem dX0_enterJournal_128 : decode cX0_enterJournal 128 = .ok (.putfield 64, 3) := by decide +kernel
theorem dX0_enterJournal_131 : decode cX0_enterJournal 131 = .ok (.return_, 1) := by decide +kernel
theorem dX0_forgetFirstEntry_0 : decode cX0_forgetFirstEntry 0 = .ok (.aload_n 0, 1) := by decide +kernel
theorem dX0_forgetFirstEntry_1 : decode cX0_forgetFirstEntry 1 = .ok (.dup, 1) := by decide +kernel
theorem dX0_forgetFirstEntry_2 : decode cX0_forgetFirstEntry 2 = .ok (.getfield 64, 3) := by decide +kernel
theorem dX0_forgetFirstEntry_5 : decode cX0_forgetFirstEntry 5 = .ok (.iconst 1, 1) := by decide +kernel
theorem dX0_forgetFirstEntry_6 : decode cX0_forgetFirstEntry 6 = .ok (.isub, 1) := by decide +kernel
theorem dX0_forgetFirstEntry_7 : decode cX0_forgetFirstEntry 7 = .ok (.putfield 64, 3) := by decide +kernel
theorem dX0_forgetFirstEntry_10 : decode cX0_forgetFirstEntry 10 = .ok (.aload_n 0, 1) := by decide +kernel
theorem dX0_forgetFirstEntry_11 : decode cX0_forgetFirstEntry 11 = .ok (.getfield 39, 3) := by decide +kernel
theorem dX0_forgetFirstEntry_14 : decode cX0_forgetFirstEntry 14 = .ok (.iconst 1, 1) := by decide +kernel
theorem dX0_forgetFirstEntry_15 : decode cX0_forgetFirstEntry 15 = .ok (.aload_n 0, 1) := by decide +kernel
theorem dX0_forgetFirstEntry_16 : decode cX0_forgetFirstEntry 16 = .ok (.getfield 39, 3) := by decide +kernel
theorem dX0_forgetFirstEntry_19 : decode cX0_forgetFirstEntry 19 = .ok (.iconst 0, 1) := by decide +kernel
theorem dX0_forgetFirstEntry_20 : decode cX0_forgetFirstEntry 20 = .ok (.aload_n 0, 1) := by decide +kernel
theorem dX0_forgetFirstEntry_21 : decode cX0_forgetFirstEntry 21 = .ok (.getfield 64, 3) := by decide +kernel
theorem dX0_forgetFirstEntry_24 : decode cX0_forgetFirstEntry 24 = .ok (.invokestatic 52, 3) := by decide +kernel
theorem dX0_forgetFirstEntry_27 : decode cX0_forgetFirstEntry 27 = .ok (.aload_n 0, 1) := by decide +kernel
theorem dX0_forgetFirstEntry_28 : decode cX0_forgetFirstEntry 28 = .ok (.getfield 42, 3) := by decide +kernel
theorem dX0_forgetFirstEntry_31 : decode cX0_forgetFirstEntry 31 = .ok (.iconst 1, 1) := by decide +kernel
theorem dX0_forgetFirstEntry_32 : decode cX0_forgetFirstEntry 32 = .ok (.aload_n 0, 1) := by decide +kernel
theorem dX0_forgetFirstEntry_33 : decode cX0_forgetFirstEntry 33 = .ok (.getfield 42, 3) := by decide +kernel
theorem dX0_forgetFirstEntry_36 : decode cX0_forgetFirstEntry 36 = .ok (.iconst 0, 1) := by decide +kernel
theorem dX0_forgetFirstEntry_37 : decode cX0_forgetFirstEntry 37 = .ok (.aload_n 0, 1) := by decide +kernel
theorem dX0_forgetFirstEntry_38 : decode cX0_forgetFirstEntry 38 = .ok (.getfield 64, 3) := by decide +kernel
theorem dX0_forgetFirstEntry_41 : decode cX0_forgetFirstEntry 41 = .ok (.invokestatic 52, 3) := by decide +kernel
theorem dX0_forgetFirstEntry_44 : decode cX0_forgetFirstEntry 44 = .ok (.aload_n 0, 1) := by decide +kernel
theorem dX0_forgetFirstEntry_45 : decode cX0_forgetFirstEntry 45 = .ok (.getfield 45, 3) := by decide +kernel
theorem dX0_forgetFirstEntry_48 : decode cX0_forgetFirstEntry 48 = .ok (.iconst 1, 1) := by decide +kernel
theorem dX0_forgetFirstEntry_49 : decode cX0_forgetFirstEntry 49 = .ok (.aload_n 0, 1) := by decide +kernel
theorem dX0_forgetFirstEntry_50 : decode cX0_forgetFirstEntry 50 = .ok (.getfield 45, 3) := by decide +kernel
theorem dX0_forgetFirstEntry_53 : decode cX0_forgetFirstEntry 53 = .ok (.iconst 0, 1) := by decide +kernel
theorem dX0_forgetFirstEntry_54 : decode cX0_forgetFirstEntry 54 = .ok (.aload_n 0, 1) := by decide +kernel
theorem dX0_forgetFirstEntry_55 : decode cX0_forgetFirstEntry 55 = .ok (.getfield 64, 3) := by decide +kernel
theorem dX0_forgetFirstEntry_58 : decode cX0_forgetFirstEntry 58 = .ok (.invokestatic 52, 3) := by decide +kernel
theorem dX0_forgetFirstEntry_61 : decode cX0_forgetFirstEntry 61 = .ok (.return_, 1) := by decide +kernel
theorem dX0_passTime_0 : decode cX0_passTime 0 = .ok (.aload_n 0, 1) := by decide +kernel
theorem dX0_passTime_1 : decode cX0_passTime 1 = .ok (.dup, 1) := by decide +kernel
theorem dX0_passTime_2 : decode cX0_passTime 2 = .ok (.getfield 61, 3) := by decide +kernel
theorem dX0_passTime_5 : decode cX0_passTime 5 = .ok (.iload_n 1, 1) := by decide +kernel
theorem dX0_passTime_6 : decode cX0_passTime 6 = .ok (.iadd, 1) := by decide +kernel
theorem dX0_passTime_7 : decode cX0_passTime 7 = .ok (.putfield 61, 3) := by decide +kernel
theorem dX0_passTime_10 : decode cX0_passTime 10 = .ok (.iconst 0, 1) := by decide +kernel
theorem dX0_passTime_11 : decode cX0_passTime 11 = .ok (.istore_n 2, 1) := by decide +kernel
theorem dX0_passTime_12 : decode cX0_passTime 12 = .ok (.iconst 0, 1) := by decide +kernel
theorem dX0_passTime_13 : decode cX0_passTime 13 = .ok (.istore_n 3, 1) := by decide +kernel
theorem dX0_passTime_14 : decode cX0_passTime 14 = .ok (.iload_n 3, 1) := by decide +kernel
theorem dX0_passTime_15 : decode cX0_passTime 15 = .ok (.aload_n 0, 1) := by decide +kernel
theorem dX0_passTime_16 : decode cX0_passTime 16 = .ok (.getfield 58, 3) := by decide +kernel
theorem dX0_passTime_19 : decode cX0_passTime 19 = .ok (.if_icmp .ge 55, 3) := by decide +kernel
theorem dX0_passTime_22 : decode cX0_passTime 22 = .ok (.aload_n 0, 1) := by decide +kernel
theorem dX0_passTime_23 : decode cX0_passTime 23 = .ok (.getfield 33, 3) := by decide +kernel
theorem dX0_passTime_26 : decode cX0_passTime 26 = .ok (.iload_n 3, 1) := by decide +kernel
theorem dX0_passTime_27 : decode cX0_passTime 27 = .ok (.iaload, 1) := by decide +kernel
theorem dX0_passTime_28 : decode cX0_passTime 28 = .ok (.iconst 1, 1) := by decide +kernel
theorem dX0_passTime_29 : decode cX0_passTime 29 = .ok (.if_icmp .ne 39, 3) := by decide +kernel
theorem dX0_passTime_32 : decode cX0_passTime 32 = .ok (.aload_n 0, 1) := by decide +kernel
theorem dX0_passTime_33 : decode cX0_passTime 33 = .ok (.getfield 36, 3) := by decide +kernel
theorem dX0_passTime_36 : decode cX0_passTime 36 = .ok (.iload_n 3, 1) := by decide +kernel
theorem dX0_passTime_37 : decode cX0_passTime 37 = .ok (.iaload, 1) := by decide +kernel
theorem dX0_passTime_38 : decode cX0_passTime 38 = .ok (.aload_n 0, 1) := by decide +kernel
theorem dX0_passTime_39 : decode cX0_passTime 39 = .ok (.getfield 61, 3) := by decide +kernel
theorem dX0_passTime_42 : decode cX0_passTime 42 = .ok (.if_icmp .gt 26, 3) := by decide +kernel
theorem dX0_passTime_45 : decode cX0_passTime 45 = .ok (.aload_n 0, 1) := by decide +kernel
theorem dX0_passTime_46 : decode cX0_passTime 46 = .ok (.getfield 33, 3) := by decide +kernel
theorem dX0_passTime_49 : decode cX0_passTime 49 = .ok (.iload_n 3, 1) := by decide +kernel
theorem dX0_passTime_50 : decode cX0_passTime 50 = .ok (.aload_n 0, 1) := by decide +kernel
theorem dX0_passTime_51 : decode cX0_passTime 51 = .ok (.getfield 30, 3) := by decide +kernel
theorem dX0_passTime_54 : decode cX0_passTime 54 = .ok (.iload_n 3, 1) := by decide +kernel
theorem dX0_passTime_55 : decode cX0_passTime 55 = .ok (.iaload, 1) := by decide +kernel
theorem dX0_passTime_56 : decode cX0_passTime 56 = .ok (.ifCond .ne 7, 3) := by decide +kernel
theorem dX0_passTime_59 : decode cX0_passTime 59 = .ok (.iconst 2, 1) := by decide +kernel
theorem dX0_passTime_60 : decode cX0_passTime 60 = .ok (.goto 4, 3) := by decide +kernel
theorem dX0_passTime_63 : decode cX0_passTime 63 = .ok (.iconst 0, 1) := by decide +kernel
theorem dX0_passTime_64 : decode cX0_passTime 64 = .ok (.iastore, 1) := by decide +kernel
theorem dX0_passTime_65 : decode cX0_passTime 65 = .ok (.iinc 2 1, 3) := by decide +kernel
theorem dX0_passTime_68 : decode cX0_passTime 68 = .ok (.iinc 3 1, 3) := by decide +kernel
theorem dX0_passTime_71 : decode cX0_passTime 71 = .ok (.goto (-57), 3) := by decide +kernel
theorem dX0_passTime_74 : decode cX0_passTime 74 = .ok (.iload_n 2, 1) := by decide +kernel
theorem dX0_passTime_75 : decode cX0_passTime 75 = .ok (.ireturn, 1) := by decide +kernel
theorem dX0_latestEnd_0 : decode cX0_latestEnd 0 = .ok (.iconst 0, 1) := by decide +kernel
theorem dX0_latestEnd_1 : decode cX0_latestEnd 1 = .ok (.istore_n 1, 1) := by decide +kernel
theorem dX0_latestEnd_2 : decode cX0_latestEnd 2 = .ok (.iconst 0, 1) := by decide +kernel
theorem dX0_latestEnd_3 : decode cX0_latestEnd 3 = .ok (.istore_n 2, 1) := by decide +kernel
theorem dX0_latestEnd_4 : decode cX0_latestEnd 4 = .ok (.iload_n 2, 1) := by decide +kernel
theorem dX0_latestEnd_5 : decode cX0_latestEnd 5 = .ok (.aload_n 0, 1) := by decide +kernel
theorem dX0_latestEnd_6 : decode cX0_latestEnd 6 = .ok (.getfield 58, 3) := by decide +kernel
theorem dX0_latestEnd_9 : decode cX0_latestEnd 9 = .ok (.if_icmp .ge 20, 3) := by decide +kernel
theorem dX0_latestEnd_12 : decode cX0_latestEnd 12 = .ok (.iload_n 1, 1) := by decide +kernel
theorem dX0_latestEnd_13 : decode cX0_latestEnd 13 = .ok (.aload_n 0, 1) := by decide +kernel
theorem dX0_latestEnd_14 : decode cX0_latestEnd 14 = .ok (.getfield 36, 3) := by decide +kernel
theorem dX0_latestEnd_17 : decode cX0_latestEnd 17 = .ok (.iload_n 2, 1) := by decide +kernel
theorem dX0_latestEnd_18 : decode cX0_latestEnd 18 = .ok (.iaload, 1) := by decide +kernel
theorem dX0_latestEnd_19 : decode cX0_latestEnd 19 = .ok (.invokestatic 91, 3) := by decide +kernel
theorem dX0_latestEnd_22 : decode cX0_latestEnd 22 = .ok (.istore_n 1, 1) := by decide +kernel
theorem dX0_latestEnd_23 : decode cX0_latestEnd 23 = .ok (.iinc 2 1, 3) := by decide +kernel
theorem dX0_latestEnd_26 : decode cX0_latestEnd 26 = .ok (.goto (-22), 3) := by decide +kernel
theorem dX0_latestEnd_29 : decode cX0_latestEnd 29 = .ok (.iload_n 1, 1) := by decide +kernel
theorem dX0_latestEnd_30 : decode cX0_latestEnd 30 = .ok (.ireturn, 1) := by decide +kernel
theorem dX0_waitForNext_0 : decode cX0_waitForNext 0 = .ok (.iconst 0, 1) := by decide +kernel
theorem dX0_waitForNext_1 : decode cX0_waitForNext 1 = .ok (.istore_n 1, 1) := by decide +kernel
theorem dX0_waitForNext_2 : decode cX0_waitForNext 2 = .ok (.iconst 0, 1) := by decide +kernel
theorem dX0_waitForNext_3 : decode cX0_waitForNext 3 = .ok (.istore_n 2, 1) := by decide +kernel
theorem dX0_waitForNext_4 : decode cX0_waitForNext 4 = .ok (.iload_n 2, 1) := by decide +kernel
theorem dX0_waitForNext_5 : decode cX0_waitForNext 5 = .ok (.aload_n 0, 1) := by decide +kernel
theorem dX0_waitForNext_6 : decode cX0_waitForNext 6 = .ok (.getfield 58, 3) := by decide +kernel
theorem dX0_waitForNext_9 : decode cX0_waitForNext 9 = .ok (.if_icmp .ge 50, 3) := by decide +kernel
theorem dX0_waitForNext_12 : decode cX0_waitForNext 12 = .ok (.aload_n 0, 1) := by decide +kernel
theorem dX0_waitForNext_13 : decode cX0_waitForNext 13 = .ok (.getfield 33, 3) := by decide +kernel
theorem dX0_waitForNext_16 : decode cX0_waitForNext 16 = .ok (.iload_n 2, 1) := by decide +kernel
theorem dX0_waitForNext_17 : decode cX0_waitForNext 17 = .ok (.iaload, 1) := by decide +kernel
theorem dX0_waitForNext_18 : decode cX0_waitForNext 18 = .ok (.iconst 1, 1) := by decide +kernel
theorem dX0_waitForNext_19 : decode cX0_waitForNext 19 = .ok (.if_icmp .ne 34, 3) := by decide +kernel
theorem dX0_waitForNext_22 : decode cX0_waitForNext 22 = .ok (.iload_n 1, 1) := by decide +kernel
theorem dX0_waitForNext_23 : decode cX0_waitForNext 23 = .ok (.ifCond .eq 18, 3) := by decide +kernel
theorem dX0_waitForNext_26 : decode cX0_waitForNext 26 = .ok (.aload_n 0, 1) := by decide +kernel
theorem dX0_waitForNext_27 : decode cX0_waitForNext 27 = .ok (.getfield 36, 3) := by decide +kernel
theorem dX0_waitForNext_30 : decode cX0_waitForNext 30 = .ok (.iload_n 2, 1) := by decide +kernel
theorem dX0_waitForNext_31 : decode cX0_waitForNext 31 = .ok (.iaload, 1) := by decide +kernel
theorem dX0_waitForNext_32 : decode cX0_waitForNext 32 = .ok (.aload_n 0, 1) := by decide +kernel
theorem dX0_waitForNext_33 : decode cX0_waitForNext 33 = .ok (.getfield 61, 3) := by decide +kernel
theorem dX0_waitForNext_36 : decode cX0_waitForNext 36 = .ok (.isub, 1) := by decide +kernel
theorem dX0_waitForNext_37 : decode cX0_waitForNext 37 = .ok (.iload_n 1, 1) := by decide +kernel
theorem dX0_waitForNext_38 : decode cX0_waitForNext 38 = .ok (.if_icmp .ge 15, 3) := by decide +kernel
theorem dX0_waitForNext_41 : decode cX0_waitForNext 41 = .ok (.aload_n 0, 1) := by decide +kernel
theorem dX0_waitForNext_42 : decode cX0_waitForNext 42 = .ok (.getfield 36, 3) := by decide +kernel
theorem dX0_waitForNext_45 : decode cX0_waitForNext 45 = .ok (.iload_n 2, 1) := by decide +kernel
theorem dX0_waitForNext_46 : decode cX0_waitForNext 46 = .ok (.iaload, 1) := by decide +kernel
theorem dX0_waitForNext_47 : decode cX0_waitForNext 47 = .ok (.aload_n 0, 1) := by decide +kernel
theorem dX0_waitForNext_48 : decode cX0_waitForNext 48 = .ok (.getfield 61, 3) := by decide +kernel
theorem dX0_waitForNext_51 : decode cX0_waitForNext 51 = .ok (.isub, 1) := by decide +kernel
theorem dX0_waitForNext_52 : decode cX0_waitForNext 52 = .ok (.istore_n 1, 1) := by decide +kernel
theorem dX0_waitForNext_53 : decode cX0_waitForNext 53 = .ok (.iinc 2 1, 3) := by decide +kernel
theorem dX0_waitForNext_56 : decode cX0_waitForNext 56 = .ok (.goto (-52), 3) := by decide +kernel
theorem dX0_waitForNext_59 : decode cX0_waitForNext 59 = .ok (.iload_n 1, 1) := by decide +kernel
theorem dX0_waitForNext_60 : decode cX0_waitForNext 60 = .ok (.ireturn, 1) := by decide +kernel
