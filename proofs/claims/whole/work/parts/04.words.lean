theorem w_0 : Cond.initialized "UnitThreadsLaw" ∈ zW := zW_of 0 rfl rfl
theorem w_1 : Cond.initialized "UnitThreads" ∈ zW := zW_of 1 rfl rfl
theorem w_2 : Cond.initialized "java/lang/Math" ∈ zW := zW_of 2 rfl rfl
theorem w_3 : Cond.initialized "UnitThreads$Unit" ∈ zW := zW_of 3 rfl rfl
theorem w_4 : Cond.initialized "UnitThreads$Entries" ∈ zW := zW_of 4 rfl rfl
theorem w_5 : Cond.initialized "UnitThreads$Order" ∈ zW := zW_of 5 rfl rfl
theorem w_6 : Cond.initialized "UnitThreads$Turns" ∈ zW := zW_of 6 rfl rfl
theorem w_7 : Cond.initialized "UnitThreads$Board" ∈ zW := zW_of 7 rfl rfl
theorem w_8 : Cond.initialized "java/util/Arrays" ∈ zW := zW_of 8 rfl rfl
theorem w_9 : Cond.initialized "UnitThreadsModel" ∈ zW := zW_of 9 rfl rfl
theorem w_10 : Cond.initialized "java/lang/System" ∈ zW := zW_of 10 rfl rfl
theorem w_11 : Cond.classLink "UnitThreadsLaw" 7 "UnitThreads" ∈ zW := zW_of 11 rfl rfl
theorem w_12 : Cond.instantiable "UnitThreads" 7 ∈ zW := zW_of 12 rfl rfl
theorem w_13 : Cond.methodLink "UnitThreadsLaw" 15 y_Ut_init ∈ zW := zW_of 13 rfl rfl
theorem w_14 : Cond.instanceMethod y_Ut_init ∈ zW := zW_of 14 rfl rfl
theorem w_15 : Cond.code y_Ut_init prog_1_method_1_code 4 none ∈ zW := zW_of 15 rfl rfl
theorem w_16 : Cond.methodLink "UnitThreads" 1 y_Ob_init ∈ zW := zW_of 16 rfl rfl
theorem w_17 : Cond.instanceMethod y_Ob_init ∈ zW := zW_of 17 rfl rfl
theorem w_18 : Cond.code y_Ob_init object_method_1_code 1 none ∈ zW := zW_of 18 rfl rfl
theorem w_19 : Cond.methodLink "UnitThreads" 9 y_Ma_min ∈ zW := zW_of 19 rfl rfl
theorem w_20 : Cond.static y_Ma_min ∈ zW := zW_of 20 rfl rfl
theorem w_21 : Cond.code y_Ma_min prog_9_method_69_code 2 (some .int) ∈ zW := zW_of 21 rfl rfl
theorem w_22 : Cond.methodLink "UnitThreads" 15 y_Ma_max ∈ zW := zW_of 22 rfl rfl
theorem w_23 : Cond.static y_Ma_max ∈ zW := zW_of 23 rfl rfl
theorem w_24 : Cond.code y_Ma_max prog_9_method_65_code 2 (some .int) ∈ zW := zW_of 24 rfl rfl
theorem w_25 : Cond.classLink "UnitThreads" 18 "UnitThreads$Unit" ∈ zW := zW_of 25 rfl rfl
theorem w_27 : Cond.instantiable "UnitThreads$Unit" 8 ∈ zW := zW_of 27 rfl rfl
theorem w_29 : Cond.instanceMethod y_Un_init ∈ zW := zW_of 29 rfl rfl
theorem w_30 : Cond.code y_Un_init prog_6_method_1_code 1 none ∈ zW := zW_of 30 rfl rfl
theorem w_31 : Cond.methodLink "UnitThreads$Unit" 3 y_Ob_init ∈ zW := zW_of 31 rfl rfl
theorem w_32 : Cond.fieldLink "UnitThreads$Unit" 9 "UnitThreads$Unit" "ownSecond" "I" ∈ zW := zW_of 32 rfl rfl
theorem w_33 : Cond.fieldLink "UnitThreads$Entries" 43 "UnitThreads$Unit" "ownSecond" "I" ∈ zW := zW_of 33 rfl rfl
theorem w_34 : Cond.fieldLink "UnitThreads" 134 "UnitThreads$Unit" "ownSecond" "I" ∈ zW := zW_of 34 rfl rfl
theorem w_35 : Cond.fieldLink "UnitThreads$Unit" 15 "UnitThreads$Unit" "lastEntry" "I" ∈ zW := zW_of 35 rfl rfl
theorem w_36 : Cond.fieldLink "UnitThreads" 143 "UnitThreads$Unit" "lastEntry" "I" ∈ zW := zW_of 36 rfl rfl
theorem w_37 : Cond.fieldLink "UnitThreads$Unit" 18 "UnitThreads$Unit" "mode" "I" ∈ zW := zW_of 37 rfl rfl
theorem w_38 : Cond.fieldLink "UnitThreads" 121 "UnitThreads$Unit" "mode" "I" ∈ zW := zW_of 38 rfl rfl
theorem w_39 : Cond.fieldLink "UnitThreads$Unit" 21 "UnitThreads$Unit" "heldIn" "I" ∈ zW := zW_of 39 rfl rfl
theorem w_40 : Cond.fieldLink "UnitThreads" 124 "UnitThreads$Unit" "heldIn" "I" ∈ zW := zW_of 40 rfl rfl
theorem w_41 : Cond.fieldLink "UnitThreads$Unit" 24 "UnitThreads$Unit" "nextThrow" "I" ∈ zW := zW_of 41 rfl rfl
theorem w_42 : Cond.fieldLink "UnitThreads$Entries" 32 "UnitThreads$Unit" "nextThrow" "I" ∈ zW := zW_of 42 rfl rfl
theorem w_43 : Cond.fieldLink "UnitThreads" 185 "UnitThreads$Unit" "nextThrow" "I" ∈ zW := zW_of 43 rfl rfl
theorem w_44 : Cond.fieldLink "UnitThreads$Unit" 27 "UnitThreads$Unit" "waysNow" "I" ∈ zW := zW_of 44 rfl rfl
theorem w_45 : Cond.fieldLink "UnitThreads$Entries" 37 "UnitThreads$Unit" "waysNow" "I" ∈ zW := zW_of 45 rfl rfl
theorem w_46 : Cond.fieldLink "UnitThreads$Unit" 30 "UnitThreads$Unit" "oddBefore" "I" ∈ zW := zW_of 46 rfl rfl
theorem w_47 : Cond.fieldLink "UnitThreads$Entries" 40 "UnitThreads$Unit" "oddBefore" "I" ∈ zW := zW_of 47 rfl rfl
theorem w_48 : Cond.fieldLink "UnitThreads$Unit" 33 "UnitThreads$Unit" "outcome" "I" ∈ zW := zW_of 48 rfl rfl
theorem w_49 : Cond.fieldLink "UnitThreads$Entries" 46 "UnitThreads$Unit" "outcome" "I" ∈ zW := zW_of 49 rfl rfl
theorem w_50 : Cond.fieldLink "UnitThreads" 179 "UnitThreads$Unit" "outcome" "I" ∈ zW := zW_of 50 rfl rfl
theorem w_51 : Cond.lays "UnitThreads$Unit" "UnitThreads$Unit" "ownSecond" "I" ∈ zW := zW_of 51 rfl rfl
theorem w_53 : Cond.lays "UnitThreads$Unit" "UnitThreads$Unit" "lastEntry" "I" ∈ zW := zW_of 53 rfl rfl
theorem w_55 : Cond.lays "UnitThreads$Unit" "UnitThreads$Unit" "mode" "I" ∈ zW := zW_of 55 rfl rfl
theorem w_57 : Cond.lays "UnitThreads$Unit" "UnitThreads$Unit" "heldIn" "I" ∈ zW := zW_of 57 rfl rfl
theorem w_59 : Cond.lays "UnitThreads$Unit" "UnitThreads$Unit" "nextThrow" "I" ∈ zW := zW_of 59 rfl rfl
theorem w_61 : Cond.lays "UnitThreads$Unit" "UnitThreads$Unit" "waysNow" "I" ∈ zW := zW_of 61 rfl rfl
theorem w_63 : Cond.lays "UnitThreads$Unit" "UnitThreads$Unit" "oddBefore" "I" ∈ zW := zW_of 63 rfl rfl
theorem w_65 : Cond.lays "UnitThreads$Unit" "UnitThreads$Unit" "outcome" "I" ∈ zW := zW_of 65 rfl rfl
theorem w_68 : Cond.classLink "UnitThreads" 25 "UnitThreads$Entries" ∈ zW := zW_of 68 rfl rfl
theorem w_69 : Cond.instantiable "UnitThreads$Entries" 6 ∈ zW := zW_of 69 rfl rfl
theorem w_71 : Cond.instanceMethod y_En_init ∈ zW := zW_of 71 rfl rfl
theorem w_72 : Cond.code y_En_init prog_3_method_1_code 1 none ∈ zW := zW_of 72 rfl rfl
theorem w_73 : Cond.methodLink "UnitThreads$Entries" 3 y_Ob_init ∈ zW := zW_of 73 rfl rfl
theorem w_74 : Cond.fieldLink "UnitThreads$Entries" 9 "UnitThreads$Entries" "kinds" "[I" ∈ zW := zW_of 74 rfl rfl
theorem w_75 : Cond.fieldLink "UnitThreads$Entries" 15 "UnitThreads$Entries" "units" "[I" ∈ zW := zW_of 75 rfl rfl
theorem w_76 : Cond.fieldLink "UnitThreads$Entries" 18 "UnitThreads$Entries" "seconds" "[I" ∈ zW := zW_of 76 rfl rfl
theorem w_77 : Cond.fieldLink "UnitThreads$Entries" 21 "UnitThreads$Entries" "targets" "[I" ∈ zW := zW_of 77 rfl rfl
theorem w_78 : Cond.fieldLink "UnitThreads$Entries" 24 "UnitThreads$Entries" "values" "[J" ∈ zW := zW_of 78 rfl rfl
theorem w_79 : Cond.fieldLink "UnitThreads$Entries" 28 "UnitThreads$Entries" "size" "I" ∈ zW := zW_of 79 rfl rfl
theorem w_80 : Cond.fieldLink "UnitThreads" 133 "UnitThreads$Entries" "size" "I" ∈ zW := zW_of 80 rfl rfl
theorem w_81 : Cond.laysFinal "UnitThreads$Entries" "UnitThreads$Entries" "kinds" "[I" ∈ zW := zW_of 81 rfl rfl
theorem w_83 : Cond.laysFinal "UnitThreads$Entries" "UnitThreads$Entries" "units" "[I" ∈ zW := zW_of 83 rfl rfl
theorem w_85 : Cond.laysFinal "UnitThreads$Entries" "UnitThreads$Entries" "seconds" "[I" ∈ zW := zW_of 85 rfl rfl
theorem w_87 : Cond.laysFinal "UnitThreads$Entries" "UnitThreads$Entries" "targets" "[I" ∈ zW := zW_of 87 rfl rfl
theorem w_89 : Cond.laysFinal "UnitThreads$Entries" "UnitThreads$Entries" "values" "[J" ∈ zW := zW_of 89 rfl rfl
theorem w_91 : Cond.lays "UnitThreads$Entries" "UnitThreads$Entries" "size" "I" ∈ zW := zW_of 91 rfl rfl
theorem w_94 : Cond.arrayClass FieldType.int ∈ zW := zW_of 94 rfl rfl
theorem w_95 : Cond.arrayClass FieldType.long ∈ zW := zW_of 95 rfl rfl
theorem w_96 : Cond.classLink "UnitThreads" 32 "UnitThreads$Order" ∈ zW := zW_of 96 rfl rfl
theorem w_97 : Cond.instantiable "UnitThreads$Order" 3 ∈ zW := zW_of 97 rfl rfl
theorem w_98 : Cond.methodLink "UnitThreads" 34 y_Or_init ∈ zW := zW_of 98 rfl rfl
theorem w_99 : Cond.instanceMethod y_Or_init ∈ zW := zW_of 99 rfl rfl
theorem w_100 : Cond.code y_Or_init prog_4_method_1_code 2 none ∈ zW := zW_of 100 rfl rfl
theorem w_101 : Cond.methodLink "UnitThreads$Order" 1 y_Ob_init ∈ zW := zW_of 101 rfl rfl
theorem w_102 : Cond.fieldLink "UnitThreads$Order" 17 "UnitThreads$Order" "units" "[I" ∈ zW := zW_of 102 rfl rfl
theorem w_103 : Cond.fieldLink "UnitThreads" 176 "UnitThreads$Order" "units" "[I" ∈ zW := zW_of 103 rfl rfl
theorem w_104 : Cond.fieldLink "UnitThreads$Order" 7 "UnitThreads$Order" "size" "I" ∈ zW := zW_of 104 rfl rfl
theorem w_105 : Cond.fieldLink "UnitThreads" 175 "UnitThreads$Order" "size" "I" ∈ zW := zW_of 105 rfl rfl
theorem w_106 : Cond.fieldLink "UnitThreads$Order" 13 "UnitThreads$Order" "g" "J" ∈ zW := zW_of 106 rfl rfl
theorem w_107 : Cond.fieldLink "UnitThreads" 96 "UnitThreads$Order" "g" "J" ∈ zW := zW_of 107 rfl rfl
theorem w_108 : Cond.laysFinal "UnitThreads$Order" "UnitThreads$Order" "units" "[I" ∈ zW := zW_of 108 rfl rfl
theorem w_110 : Cond.lays "UnitThreads$Order" "UnitThreads$Order" "size" "I" ∈ zW := zW_of 110 rfl rfl
theorem w_112 : Cond.lays "UnitThreads$Order" "UnitThreads$Order" "g" "J" ∈ zW := zW_of 112 rfl rfl
theorem w_115 : Cond.classLink "UnitThreads" 41 "UnitThreads$Turns" ∈ zW := zW_of 115 rfl rfl
theorem w_116 : Cond.instantiable "UnitThreads$Turns" 4 ∈ zW := zW_of 116 rfl rfl
theorem w_117 : Cond.methodLink "UnitThreads" 43 y_Tu_init ∈ zW := zW_of 117 rfl rfl
theorem w_118 : Cond.instanceMethod y_Tu_init ∈ zW := zW_of 118 rfl rfl
theorem w_119 : Cond.code y_Tu_init prog_5_method_1_code 3 none ∈ zW := zW_of 119 rfl rfl
theorem w_120 : Cond.methodLink "UnitThreads$Turns" 3 y_Ob_init ∈ zW := zW_of 120 rfl rfl
theorem w_121 : Cond.fieldLink "UnitThreads$Turns" 15 "UnitThreads$Turns" "seconds" "[I" ∈ zW := zW_of 121 rfl rfl
theorem w_122 : Cond.fieldLink "UnitThreads$Turns" 19 "UnitThreads$Turns" "units" "[I" ∈ zW := zW_of 122 rfl rfl
theorem w_123 : Cond.fieldLink "UnitThreads$Turns" 22 "UnitThreads$Turns" "outcomes" "[I" ∈ zW := zW_of 123 rfl rfl
theorem w_124 : Cond.fieldLink "UnitThreads$Turns" 9 "UnitThreads$Turns" "size" "I" ∈ zW := zW_of 124 rfl rfl
theorem w_125 : Cond.fieldLink "UnitThreads" 130 "UnitThreads$Turns" "size" "I" ∈ zW := zW_of 125 rfl rfl
theorem w_126 : Cond.laysFinal "UnitThreads$Turns" "UnitThreads$Turns" "seconds" "[I" ∈ zW := zW_of 126 rfl rfl
theorem w_128 : Cond.laysFinal "UnitThreads$Turns" "UnitThreads$Turns" "units" "[I" ∈ zW := zW_of 128 rfl rfl
theorem w_130 : Cond.laysFinal "UnitThreads$Turns" "UnitThreads$Turns" "outcomes" "[I" ∈ zW := zW_of 130 rfl rfl
theorem w_132 : Cond.lays "UnitThreads$Turns" "UnitThreads$Turns" "size" "I" ∈ zW := zW_of 132 rfl rfl
theorem w_135 : Cond.classLink "UnitThreads" 48 "UnitThreads$Board" ∈ zW := zW_of 135 rfl rfl
theorem w_136 : Cond.instantiable "UnitThreads$Board" 6 ∈ zW := zW_of 136 rfl rfl
theorem w_137 : Cond.methodLink "UnitThreads" 50 y_Bo_init ∈ zW := zW_of 137 rfl rfl
theorem w_138 : Cond.instanceMethod y_Bo_init ∈ zW := zW_of 138 rfl rfl
theorem w_139 : Cond.code y_Bo_init prog_2_method_1_code 3 none ∈ zW := zW_of 139 rfl rfl
theorem w_140 : Cond.methodLink "UnitThreads$Board" 3 y_Ob_init ∈ zW := zW_of 140 rfl rfl
theorem w_141 : Cond.methodLink "UnitThreads$Board" 32 y_Ar_fill ∈ zW := zW_of 141 rfl rfl
theorem w_142 : Cond.static y_Ar_fill ∈ zW := zW_of 142 rfl rfl
theorem w_143 : Cond.code y_Ar_fill prog_11_method_103_code 4 none ∈ zW := zW_of 143 rfl rfl
theorem w_144 : Cond.fieldLink "UnitThreads$Board" 22 "UnitThreads$Board" "values" "[J" ∈ zW := zW_of 144 rfl rfl
theorem w_145 : Cond.fieldLink "UnitThreads" 206 "UnitThreads$Board" "values" "[J" ∈ zW := zW_of 145 rfl rfl
theorem w_146 : Cond.fieldLink "UnitThreads$Board" 26 "UnitThreads$Board" "safeValues" "[J" ∈ zW := zW_of 146 rfl rfl
theorem w_147 : Cond.fieldLink "UnitThreads" 85 "UnitThreads$Board" "safeValues" "[J" ∈ zW := zW_of 147 rfl rfl
theorem w_148 : Cond.fieldLink "UnitThreads$Board" 9 "UnitThreads$Board" "owners" "[I" ∈ zW := zW_of 148 rfl rfl
theorem w_149 : Cond.fieldLink "UnitThreads" 194 "UnitThreads$Board" "owners" "[I" ∈ zW := zW_of 149 rfl rfl
theorem w_150 : Cond.fieldLink "UnitThreads$Board" 29 "UnitThreads$Board" "pastValues" "[J" ∈ zW := zW_of 150 rfl rfl
theorem w_151 : Cond.fieldLink "UnitThreads$Board" 15 "UnitThreads$Board" "pastOwners" "[I" ∈ zW := zW_of 151 rfl rfl
theorem w_152 : Cond.fieldLink "UnitThreads$Board" 18 "UnitThreads$Board" "seconds" "I" ∈ zW := zW_of 152 rfl rfl
theorem w_153 : Cond.fieldLink "UnitThreads" 89 "UnitThreads$Board" "seconds" "I" ∈ zW := zW_of 153 rfl rfl
theorem w_154 : Cond.laysFinal "UnitThreads$Board" "UnitThreads$Board" "values" "[J" ∈ zW := zW_of 154 rfl rfl
theorem w_156 : Cond.laysFinal "UnitThreads$Board" "UnitThreads$Board" "safeValues" "[J" ∈ zW := zW_of 156 rfl rfl
theorem w_158 : Cond.laysFinal "UnitThreads$Board" "UnitThreads$Board" "owners" "[I" ∈ zW := zW_of 158 rfl rfl
theorem w_160 : Cond.laysFinal "UnitThreads$Board" "UnitThreads$Board" "pastValues" "[J" ∈ zW := zW_of 160 rfl rfl
theorem w_162 : Cond.laysFinal "UnitThreads$Board" "UnitThreads$Board" "pastOwners" "[I" ∈ zW := zW_of 162 rfl rfl
theorem w_164 : Cond.lays "UnitThreads$Board" "UnitThreads$Board" "seconds" "I" ∈ zW := zW_of 164 rfl rfl
theorem w_167 : Cond.fieldLink "UnitThreads" 20 "UnitThreads" "crew" "[LUnitThreads$Unit;" ∈ zW := zW_of 167 rfl rfl
theorem w_168 : Cond.fieldLink "UnitThreads" 28 "UnitThreads" "entries" "LUnitThreads$Entries;" ∈ zW := zW_of 168 rfl rfl
theorem w_169 : Cond.fieldLink "UnitThreads" 37 "UnitThreads" "order" "LUnitThreads$Order;" ∈ zW := zW_of 169 rfl rfl
theorem w_170 : Cond.fieldLink "UnitThreads" 44 "UnitThreads" "turns" "LUnitThreads$Turns;" ∈ zW := zW_of 170 rfl rfl
theorem w_171 : Cond.fieldLink "UnitThreads" 51 "UnitThreads" "board" "LUnitThreads$Board;" ∈ zW := zW_of 171 rfl rfl
theorem w_172 : Cond.fieldLink "UnitThreads" 55 "UnitThreads" "barred" "[I" ∈ zW := zW_of 172 rfl rfl
theorem w_173 : Cond.fieldLink "UnitThreads" 59 "UnitThreads" "closed" "Z" ∈ zW := zW_of 173 rfl rfl
theorem w_174 : Cond.laysFinal "UnitThreads" "UnitThreads" "crew" "[LUnitThreads$Unit;" ∈ zW := zW_of 174 rfl rfl
theorem w_176 : Cond.laysFinal "UnitThreads" "UnitThreads" "entries" "LUnitThreads$Entries;" ∈ zW := zW_of 176 rfl rfl
theorem w_178 : Cond.laysFinal "UnitThreads" "UnitThreads" "order" "LUnitThreads$Order;" ∈ zW := zW_of 178 rfl rfl
theorem w_180 : Cond.laysFinal "UnitThreads" "UnitThreads" "turns" "LUnitThreads$Turns;" ∈ zW := zW_of 180 rfl rfl
theorem w_182 : Cond.laysFinal "UnitThreads" "UnitThreads" "board" "LUnitThreads$Board;" ∈ zW := zW_of 182 rfl rfl
theorem w_184 : Cond.laysFinal "UnitThreads" "UnitThreads" "barred" "[I" ∈ zW := zW_of 184 rfl rfl
theorem w_186 : Cond.lays "UnitThreads" "UnitThreads" "closed" "Z" ∈ zW := zW_of 186 rfl rfl
theorem w_189 : Cond.methodLink "UnitThreadsLaw" 23 y_Ut_step ∈ zW := zW_of 189 rfl rfl
theorem w_190 : Cond.instanceMethod y_Ut_step ∈ zW := zW_of 190 rfl rfl
theorem w_191 : Cond.selects "UnitThreads" y_Ut_step y_Ut_step ∈ zW := zW_of 191 rfl rfl
theorem w_192 : Cond.code y_Ut_step prog_1_method_2_code 6 (some .boolean) ∈ zW := zW_of 192 rfl rfl
theorem w_193 : Cond.methodLink "UnitThreads" 63 y_Ut_takesEntry ∈ zW := zW_of 193 rfl rfl
theorem w_195 : Cond.instanceMethod y_Ut_takesEntry ∈ zW := zW_of 195 rfl rfl
theorem w_196 : Cond.code y_Ut_takesEntry prog_1_method_20_code 3 (some .boolean) ∈ zW := zW_of 196 rfl rfl
theorem w_197 : Cond.methodLink "UnitThreads" 114 y_Ut_isUnit ∈ zW := zW_of 197 rfl rfl
theorem w_199 : Cond.instanceMethod y_Ut_isUnit ∈ zW := zW_of 199 rfl rfl
theorem w_200 : Cond.code y_Ut_isUnit prog_1_method_16_code 2 (some .boolean) ∈ zW := zW_of 200 rfl rfl
theorem w_201 : Cond.methodLink "UnitThreads" 67 y_Ut_isOutputOf ∈ zW := zW_of 201 rfl rfl
theorem w_202 : Cond.static y_Ut_isOutputOf ∈ zW := zW_of 202 rfl rfl
theorem w_203 : Cond.code y_Ut_isOutputOf prog_1_method_18_code 2 (some .boolean) ∈ zW := zW_of 203 rfl rfl
theorem w_204 : Cond.methodLink "UnitThreads" 70 y_Ut_tell ∈ zW := zW_of 204 rfl rfl
theorem w_206 : Cond.instanceMethod y_Ut_tell ∈ zW := zW_of 206 rfl rfl
theorem w_207 : Cond.code y_Ut_tell prog_1_method_21_code 7 none ∈ zW := zW_of 207 rfl rfl
theorem w_208 : Cond.methodLink "UnitThreads" 140 y_En_add ∈ zW := zW_of 208 rfl rfl
theorem w_209 : Cond.instanceMethod y_En_add ∈ zW := zW_of 209 rfl rfl
theorem w_210 : Cond.selects "UnitThreads$Entries" y_En_add y_En_add ∈ zW := zW_of 210 rfl rfl
theorem w_211 : Cond.code y_En_add prog_3_method_2_code 7 none ∈ zW := zW_of 211 rfl rfl
theorem w_212 : Cond.methodLink "UnitThreadsLaw" 28 y_Ut_asks ∈ zW := zW_of 212 rfl rfl
theorem w_213 : Cond.instanceMethod y_Ut_asks ∈ zW := zW_of 213 rfl rfl
theorem w_214 : Cond.selects "UnitThreads" y_Ut_asks y_Ut_asks ∈ zW := zW_of 214 rfl rfl
theorem w_215 : Cond.code y_Ut_asks prog_1_method_3_code 4 (some .boolean) ∈ zW := zW_of 215 rfl rfl
theorem w_216 : Cond.methodLink "UnitThreads" 74 y_Ut_isWay ∈ zW := zW_of 216 rfl rfl
theorem w_217 : Cond.static y_Ut_isWay ∈ zW := zW_of 217 rfl rfl
theorem w_218 : Cond.code y_Ut_isWay prog_1_method_17_code 1 (some .boolean) ∈ zW := zW_of 218 rfl rfl
theorem w_219 : Cond.methodLink "UnitThreads" 78 y_En_find ∈ zW := zW_of 219 rfl rfl
theorem w_220 : Cond.instanceMethod y_En_find ∈ zW := zW_of 220 rfl rfl
theorem w_221 : Cond.selects "UnitThreads$Entries" y_En_find y_En_find ∈ zW := zW_of 221 rfl rfl
theorem w_222 : Cond.code y_En_find prog_3_method_3_code 6 (some .int) ∈ zW := zW_of 222 rfl rfl
theorem w_223 : Cond.methodLink "UnitThreadsLaw" 33 y_Ut_throwsAt ∈ zW := zW_of 223 rfl rfl
theorem w_224 : Cond.instanceMethod y_Ut_throwsAt ∈ zW := zW_of 224 rfl rfl
theorem w_225 : Cond.selects "UnitThreads" y_Ut_throwsAt y_Ut_throwsAt ∈ zW := zW_of 225 rfl rfl
theorem w_226 : Cond.code y_Ut_throwsAt prog_1_method_4_code 3 (some .boolean) ∈ zW := zW_of 226 rfl rfl
theorem w_227 : Cond.methodLink "UnitThreadsLaw" 38 y_Ut_safe ∈ zW := zW_of 227 rfl rfl
theorem w_228 : Cond.instanceMethod y_Ut_safe ∈ zW := zW_of 228 rfl rfl
theorem w_229 : Cond.selects "UnitThreads" y_Ut_safe y_Ut_safe ∈ zW := zW_of 229 rfl rfl
theorem w_230 : Cond.code y_Ut_safe prog_1_method_5_code 4 (some .boolean) ∈ zW := zW_of 230 rfl rfl
theorem w_231 : Cond.methodLink "UnitThreads" 82 y_Bo_hasOutput ∈ zW := zW_of 231 rfl rfl
theorem w_232 : Cond.instanceMethod y_Bo_hasOutput ∈ zW := zW_of 232 rfl rfl
theorem w_233 : Cond.selects "UnitThreads$Board" y_Bo_hasOutput y_Bo_hasOutput ∈ zW := zW_of 233 rfl rfl
theorem w_234 : Cond.code y_Bo_hasOutput prog_2_method_2_code 2 (some .boolean) ∈ zW := zW_of 234 rfl rfl
theorem w_235 : Cond.methodLink "UnitThreadsLaw" 43 y_Ut_bar ∈ zW := zW_of 235 rfl rfl
theorem w_236 : Cond.instanceMethod y_Ut_bar ∈ zW := zW_of 236 rfl rfl
theorem w_237 : Cond.selects "UnitThreads" y_Ut_bar y_Ut_bar ∈ zW := zW_of 237 rfl rfl
theorem w_238 : Cond.code y_Ut_bar prog_1_method_6_code 3 (some .boolean) ∈ zW := zW_of 238 rfl rfl
theorem w_239 : Cond.methodLink "UnitThreads" 93 y_Ut_hasWay ∈ zW := zW_of 239 rfl rfl
theorem w_240 : Cond.static y_Ut_hasWay ∈ zW := zW_of 240 rfl rfl
theorem w_241 : Cond.code y_Ut_hasWay prog_1_method_19_code 2 (some .boolean) ∈ zW := zW_of 241 rfl rfl
theorem w_242 : Cond.methodLink "UnitThreadsLaw" 47 y_Ut_play ∈ zW := zW_of 242 rfl rfl
theorem w_243 : Cond.instanceMethod y_Ut_play ∈ zW := zW_of 243 rfl rfl
theorem w_244 : Cond.selects "UnitThreads" y_Ut_play y_Ut_play ∈ zW := zW_of 244 rfl rfl
theorem w_245 : Cond.code y_Ut_play prog_1_method_7_code 5 (some .int) ∈ zW := zW_of 245 rfl rfl
theorem w_246 : Cond.methodLink "UnitThreads" 100 y_Ut_acting ∈ zW := zW_of 246 rfl rfl
theorem w_248 : Cond.instanceMethod y_Ut_acting ∈ zW := zW_of 248 rfl rfl
theorem w_249 : Cond.code y_Ut_acting prog_1_method_23_code 4 (some .int) ∈ zW := zW_of 249 rfl rfl
theorem w_250 : Cond.methodLink "UnitThreads" 117 y_Ut_modeOf ∈ zW := zW_of 250 rfl rfl
theorem w_252 : Cond.instanceMethod y_Ut_modeOf ∈ zW := zW_of 252 rfl rfl
theorem w_253 : Cond.code y_Ut_modeOf prog_1_method_22_code 2 (some .int) ∈ zW := zW_of 253 rfl rfl
theorem w_254 : Cond.methodLink "UnitThreads" 146 y_Un_hasEnded ∈ zW := zW_of 254 rfl rfl
theorem w_255 : Cond.instanceMethod y_Un_hasEnded ∈ zW := zW_of 255 rfl rfl
theorem w_256 : Cond.selects "UnitThreads$Unit" y_Un_hasEnded y_Un_hasEnded ∈ zW := zW_of 256 rfl rfl
theorem w_257 : Cond.code y_Un_hasEnded prog_6_method_2_code 1 (some .boolean) ∈ zW := zW_of 257 rfl rfl
theorem w_258 : Cond.methodLink "UnitThreads" 104 y_Ut_passSecond ∈ zW := zW_of 258 rfl rfl
theorem w_260 : Cond.instanceMethod y_Ut_passSecond ∈ zW := zW_of 260 rfl rfl
theorem w_261 : Cond.code y_Ut_passSecond prog_1_method_24_code 4 none ∈ zW := zW_of 261 rfl rfl
theorem w_262 : Cond.methodLink "UnitThreads" 150 y_En_brief ∈ zW := zW_of 262 rfl rfl
theorem w_263 : Cond.instanceMethod y_En_brief ∈ zW := zW_of 263 rfl rfl
theorem w_264 : Cond.selects "UnitThreads$Entries" y_En_brief y_En_brief ∈ zW := zW_of 264 rfl rfl
theorem w_265 : Cond.code y_En_brief prog_3_method_5_code 5 none ∈ zW := zW_of 265 rfl rfl
theorem w_266 : Cond.methodLink "UnitThreads" 154 y_Or_gather ∈ zW := zW_of 266 rfl rfl
theorem w_267 : Cond.instanceMethod y_Or_gather ∈ zW := zW_of 267 rfl rfl
theorem w_268 : Cond.selects "UnitThreads$Order" y_Or_gather y_Or_gather ∈ zW := zW_of 268 rfl rfl
theorem w_269 : Cond.code y_Or_gather prog_4_method_2_code 3 none ∈ zW := zW_of 269 rfl rfl
theorem w_270 : Cond.methodLink "UnitThreads$Order" 21 y_Un_acts ∈ zW := zW_of 270 rfl rfl
theorem w_271 : Cond.instanceMethod y_Un_acts ∈ zW := zW_of 271 rfl rfl
theorem w_272 : Cond.selects "UnitThreads$Unit" y_Un_acts y_Un_acts ∈ zW := zW_of 272 rfl rfl
theorem w_273 : Cond.code y_Un_acts prog_6_method_3_code 1 (some .boolean) ∈ zW := zW_of 273 rfl rfl
theorem w_274 : Cond.methodLink "UnitThreads$Unit" 36 y_Un_hasEnded ∈ zW := zW_of 274 rfl rfl
theorem w_275 : Cond.methodLink "UnitThreads" 157 y_Or_draw ∈ zW := zW_of 275 rfl rfl
theorem w_276 : Cond.instanceMethod y_Or_draw ∈ zW := zW_of 276 rfl rfl
theorem w_277 : Cond.selects "UnitThreads$Order" y_Or_draw y_Or_draw ∈ zW := zW_of 277 rfl rfl
theorem w_278 : Cond.code y_Or_draw prog_4_method_3_code 3 none ∈ zW := zW_of 278 rfl rfl
theorem w_279 : Cond.constantLong "UnitThreads$Order" 27 (6364136223846793005 : Int64) ∈ zW := zW_of 279 rfl rfl
theorem w_280 : Cond.constantLong "UnitThreads$Order" 29 (1442695040888963407 : Int64) ∈ zW := zW_of 280 rfl rfl
theorem w_281 : Cond.methodLink "UnitThreads$Order" 31 y_Or_moveForward ∈ zW := zW_of 281 rfl rfl
theorem w_283 : Cond.instanceMethod y_Or_moveForward ∈ zW := zW_of 283 rfl rfl
theorem w_284 : Cond.code y_Or_moveForward prog_4_method_4_code 5 none ∈ zW := zW_of 284 rfl rfl
theorem w_285 : Cond.methodLink "UnitThreads" 160 y_Ut_takeTurns ∈ zW := zW_of 285 rfl rfl
theorem w_287 : Cond.instanceMethod y_Ut_takeTurns ∈ zW := zW_of 287 rfl rfl
theorem w_288 : Cond.code y_Ut_takeTurns prog_1_method_25_code 3 none ∈ zW := zW_of 288 rfl rfl
theorem w_289 : Cond.methodLink "UnitThreads" 163 y_Ut_holdThrowers ∈ zW := zW_of 289 rfl rfl
theorem w_291 : Cond.instanceMethod y_Ut_holdThrowers ∈ zW := zW_of 291 rfl rfl
theorem w_292 : Cond.code y_Ut_holdThrowers prog_1_method_26_code 4 none ∈ zW := zW_of 292 rfl rfl
theorem w_293 : Cond.methodLink "UnitThreads" 188 y_En_markThrown ∈ zW := zW_of 293 rfl rfl
theorem w_294 : Cond.instanceMethod y_En_markThrown ∈ zW := zW_of 294 rfl rfl
theorem w_295 : Cond.selects "UnitThreads$Entries" y_En_markThrown y_En_markThrown ∈ zW := zW_of 295 rfl rfl
theorem w_296 : Cond.code y_En_markThrown prog_3_method_4_code 2 none ∈ zW := zW_of 296 rfl rfl
theorem w_297 : Cond.methodLink "UnitThreads" 191 y_Bo_makeSafe ∈ zW := zW_of 297 rfl rfl
theorem w_298 : Cond.instanceMethod y_Bo_makeSafe ∈ zW := zW_of 298 rfl rfl
theorem w_299 : Cond.selects "UnitThreads$Board" y_Bo_makeSafe y_Bo_makeSafe ∈ zW := zW_of 299 rfl rfl
theorem w_300 : Cond.code y_Bo_makeSafe prog_2_method_6_code 4 none ∈ zW := zW_of 300 rfl rfl
theorem w_301 : Cond.methodLink "UnitThreads" 166 y_Ut_grantWays ∈ zW := zW_of 301 rfl rfl
theorem w_303 : Cond.instanceMethod y_Ut_grantWays ∈ zW := zW_of 303 rfl rfl
theorem w_304 : Cond.code y_Ut_grantWays prog_1_method_27_code 3 none ∈ zW := zW_of 304 rfl rfl
theorem w_305 : Cond.methodLink "UnitThreads" 197 y_Ut_leastAsker ∈ zW := zW_of 305 rfl rfl
theorem w_307 : Cond.instanceMethod y_Ut_leastAsker ∈ zW := zW_of 307 rfl rfl
theorem w_308 : Cond.code y_Ut_leastAsker prog_1_method_28_code 3 (some .int) ∈ zW := zW_of 308 rfl rfl
theorem w_309 : Cond.methodLink "UnitThreads" 200 y_Un_asked ∈ zW := zW_of 309 rfl rfl
theorem w_310 : Cond.instanceMethod y_Un_asked ∈ zW := zW_of 310 rfl rfl
theorem w_311 : Cond.selects "UnitThreads$Unit" y_Un_asked y_Un_asked ∈ zW := zW_of 311 rfl rfl
theorem w_312 : Cond.code y_Un_asked prog_6_method_4_code 1 (some .int) ∈ zW := zW_of 312 rfl rfl
theorem w_313 : Cond.methodLink "UnitThreads" 169 y_Ut_settle ∈ zW := zW_of 313 rfl rfl
theorem w_315 : Cond.instanceMethod y_Ut_settle ∈ zW := zW_of 315 rfl rfl
theorem w_316 : Cond.code y_Ut_settle prog_1_method_29_code 3 none ∈ zW := zW_of 316 rfl rfl
theorem w_317 : Cond.methodLink "UnitThreads" 203 y_Bo_ownsAll ∈ zW := zW_of 317 rfl rfl
theorem w_318 : Cond.instanceMethod y_Bo_ownsAll ∈ zW := zW_of 318 rfl rfl
theorem w_319 : Cond.selects "UnitThreads$Board" y_Bo_ownsAll y_Bo_ownsAll ∈ zW := zW_of 319 rfl rfl
theorem w_320 : Cond.code y_Bo_ownsAll prog_2_method_7_code 4 (some .boolean) ∈ zW := zW_of 320 rfl rfl
theorem w_322 : Cond.methodLink "UnitThreads" 209 y_En_doSteps ∈ zW := zW_of 322 rfl rfl
theorem w_323 : Cond.instanceMethod y_En_doSteps ∈ zW := zW_of 323 rfl rfl
theorem w_324 : Cond.selects "UnitThreads$Entries" y_En_doSteps y_En_doSteps ∈ zW := zW_of 324 rfl rfl
theorem w_325 : Cond.code y_En_doSteps prog_3_method_6_code 5 none ∈ zW := zW_of 325 rfl rfl
theorem w_326 : Cond.methodLink "UnitThreads" 213 y_Un_given ∈ zW := zW_of 326 rfl rfl
theorem w_327 : Cond.instanceMethod y_Un_given ∈ zW := zW_of 327 rfl rfl
theorem w_328 : Cond.selects "UnitThreads$Unit" y_Un_given y_Un_given ∈ zW := zW_of 328 rfl rfl
theorem w_329 : Cond.code y_Un_given prog_6_method_5_code 1 (some .int) ∈ zW := zW_of 329 rfl rfl
theorem w_330 : Cond.methodLink "UnitThreads" 216 y_Bo_giveBack ∈ zW := zW_of 330 rfl rfl
theorem w_331 : Cond.instanceMethod y_Bo_giveBack ∈ zW := zW_of 331 rfl rfl
theorem w_332 : Cond.selects "UnitThreads$Board" y_Bo_giveBack y_Bo_giveBack ∈ zW := zW_of 332 rfl rfl
theorem w_333 : Cond.code y_Bo_giveBack prog_2_method_8_code 4 none ∈ zW := zW_of 333 rfl rfl
theorem w_334 : Cond.methodLink "UnitThreads" 172 y_Bo_keep ∈ zW := zW_of 334 rfl rfl
theorem w_335 : Cond.instanceMethod y_Bo_keep ∈ zW := zW_of 335 rfl rfl
theorem w_336 : Cond.selects "UnitThreads$Board" y_Bo_keep y_Bo_keep ∈ zW := zW_of 336 rfl rfl
theorem w_337 : Cond.code y_Bo_keep prog_2_method_9_code 1 none ∈ zW := zW_of 337 rfl rfl
theorem w_338 : Cond.methodLink "UnitThreads$Board" 52 y_Sy_arraycopy ∈ zW := zW_of 338 rfl rfl
theorem w_339 : Cond.static y_Sy_arraycopy ∈ zW := zW_of 339 rfl rfl
theorem w_340 : Cond.native y_Sy_arraycopy ∈ zW := zW_of 340 rfl rfl
theorem w_341 : Cond.methodLink "UnitThreads" 182 y_Tu_add ∈ zW := zW_of 341 rfl rfl
theorem w_342 : Cond.instanceMethod y_Tu_add ∈ zW := zW_of 342 rfl rfl
theorem w_343 : Cond.selects "UnitThreads$Turns" y_Tu_add y_Tu_add ∈ zW := zW_of 343 rfl rfl
theorem w_344 : Cond.code y_Tu_add prog_5_method_2_code 4 none ∈ zW := zW_of 344 rfl rfl
theorem w_345 : Cond.methodLink "UnitThreadsLaw" 52 y_Ut_output ∈ zW := zW_of 345 rfl rfl
theorem w_346 : Cond.instanceMethod y_Ut_output ∈ zW := zW_of 346 rfl rfl
theorem w_347 : Cond.selects "UnitThreads" y_Ut_output y_Ut_output ∈ zW := zW_of 347 rfl rfl
theorem w_348 : Cond.code y_Ut_output prog_1_method_8_code 3 (some .long) ∈ zW := zW_of 348 rfl rfl
theorem w_349 : Cond.methodLink "UnitThreads" 107 y_Bo_valueAt ∈ zW := zW_of 349 rfl rfl
theorem w_350 : Cond.instanceMethod y_Bo_valueAt ∈ zW := zW_of 350 rfl rfl
theorem w_351 : Cond.selects "UnitThreads$Board" y_Bo_valueAt y_Bo_valueAt ∈ zW := zW_of 351 rfl rfl
theorem w_352 : Cond.code y_Bo_valueAt prog_2_method_4_code 3 (some .long) ∈ zW := zW_of 352 rfl rfl
theorem w_353 : Cond.methodLink "UnitThreads$Board" 38 y_Bo_hasOutput ∈ zW := zW_of 353 rfl rfl
theorem w_354 : Cond.methodLink "UnitThreads$Board" 42 y_Bo_wasDone ∈ zW := zW_of 354 rfl rfl
theorem w_355 : Cond.instanceMethod y_Bo_wasDone ∈ zW := zW_of 355 rfl rfl
theorem w_356 : Cond.selects "UnitThreads$Board" y_Bo_wasDone y_Bo_wasDone ∈ zW := zW_of 356 rfl rfl
theorem w_357 : Cond.code y_Bo_wasDone prog_2_method_3_code 2 (some .boolean) ∈ zW := zW_of 357 rfl rfl
theorem w_358 : Cond.methodLink "UnitThreadsLaw" 57 y_Ut_owner ∈ zW := zW_of 358 rfl rfl
theorem w_359 : Cond.instanceMethod y_Ut_owner ∈ zW := zW_of 359 rfl rfl
theorem w_360 : Cond.selects "UnitThreads" y_Ut_owner y_Ut_owner ∈ zW := zW_of 360 rfl rfl
theorem w_361 : Cond.code y_Ut_owner prog_1_method_9_code 3 (some .int) ∈ zW := zW_of 361 rfl rfl
theorem w_362 : Cond.methodLink "UnitThreads" 111 y_Bo_ownerAt ∈ zW := zW_of 362 rfl rfl
theorem w_363 : Cond.instanceMethod y_Bo_ownerAt ∈ zW := zW_of 363 rfl rfl
theorem w_364 : Cond.selects "UnitThreads$Board" y_Bo_ownerAt y_Bo_ownerAt ∈ zW := zW_of 364 rfl rfl
theorem w_365 : Cond.code y_Bo_ownerAt prog_2_method_5_code 3 (some .int) ∈ zW := zW_of 365 rfl rfl
theorem w_367 : Cond.methodLink "UnitThreadsLaw" 62 y_Ut_state ∈ zW := zW_of 367 rfl rfl
theorem w_368 : Cond.instanceMethod y_Ut_state ∈ zW := zW_of 368 rfl rfl
theorem w_369 : Cond.selects "UnitThreads" y_Ut_state y_Ut_state ∈ zW := zW_of 369 rfl rfl
theorem w_370 : Cond.code y_Ut_state prog_1_method_10_code 2 (some .int) ∈ zW := zW_of 370 rfl rfl
theorem w_371 : Cond.methodLink "UnitThreadsLaw" 67 y_Ut_restart ∈ zW := zW_of 371 rfl rfl
theorem w_372 : Cond.instanceMethod y_Ut_restart ∈ zW := zW_of 372 rfl rfl
theorem w_373 : Cond.selects "UnitThreads" y_Ut_restart y_Ut_restart ∈ zW := zW_of 373 rfl rfl
theorem w_374 : Cond.code y_Ut_restart prog_1_method_11_code 2 (some .boolean) ∈ zW := zW_of 374 rfl rfl
theorem w_375 : Cond.methodLink "UnitThreadsLaw" 72 y_Ut_held ∈ zW := zW_of 375 rfl rfl
theorem w_376 : Cond.instanceMethod y_Ut_held ∈ zW := zW_of 376 rfl rfl
theorem w_377 : Cond.selects "UnitThreads" y_Ut_held y_Ut_held ∈ zW := zW_of 377 rfl rfl
theorem w_378 : Cond.code y_Ut_held prog_1_method_12_code 2 (some .int) ∈ zW := zW_of 378 rfl rfl
theorem w_379 : Cond.methodLink "UnitThreadsLaw" 76 y_Ut_log ∈ zW := zW_of 379 rfl rfl
theorem w_380 : Cond.instanceMethod y_Ut_log ∈ zW := zW_of 380 rfl rfl
theorem w_381 : Cond.selects "UnitThreads" y_Ut_log y_Ut_log ∈ zW := zW_of 381 rfl rfl
theorem w_382 : Cond.code y_Ut_log prog_1_method_13_code 3 (some .int) ∈ zW := zW_of 382 rfl rfl
theorem w_383 : Cond.methodLink "UnitThreads" 127 y_Tu_look ∈ zW := zW_of 383 rfl rfl
theorem w_384 : Cond.instanceMethod y_Tu_look ∈ zW := zW_of 384 rfl rfl
theorem w_385 : Cond.selects "UnitThreads$Turns" y_Tu_look y_Tu_look ∈ zW := zW_of 385 rfl rfl
theorem w_386 : Cond.code y_Tu_look prog_5_method_3_code 3 (some .int) ∈ zW := zW_of 386 rfl rfl
theorem w_387 : Cond.methodLink "UnitThreadsLaw" 80 y_Ut_count ∈ zW := zW_of 387 rfl rfl
theorem w_388 : Cond.instanceMethod y_Ut_count ∈ zW := zW_of 388 rfl rfl
theorem w_389 : Cond.selects "UnitThreads" y_Ut_count y_Ut_count ∈ zW := zW_of 389 rfl rfl
theorem w_390 : Cond.code y_Ut_count prog_1_method_14_code 2 (some .int) ∈ zW := zW_of 390 rfl rfl
theorem w_391 : Cond.methodLink "UnitThreadsLaw" 84 y_Ut_close ∈ zW := zW_of 391 rfl rfl
theorem w_392 : Cond.instanceMethod y_Ut_close ∈ zW := zW_of 392 rfl rfl
theorem w_393 : Cond.selects "UnitThreads" y_Ut_close y_Ut_close ∈ zW := zW_of 393 rfl rfl
theorem w_394 : Cond.code y_Ut_close prog_1_method_15_code 3 (some .int) ∈ zW := zW_of 394 rfl rfl
theorem w_395 : Cond.methodLink "UnitThreads" 137 y_Bo_shut ∈ zW := zW_of 395 rfl rfl
theorem w_396 : Cond.instanceMethod y_Bo_shut ∈ zW := zW_of 396 rfl rfl
theorem w_397 : Cond.selects "UnitThreads$Board" y_Bo_shut y_Bo_shut ∈ zW := zW_of 397 rfl rfl
theorem w_398 : Cond.code y_Bo_shut prog_2_method_10_code 1 none ∈ zW := zW_of 398 rfl rfl
theorem w_399 : Cond.methodLink "UnitThreadsLaw" 9 y_La_cell ∈ zW := zW_of 399 rfl rfl
set_option maxRecDepth 100000 in
theorem w_400 : Cond.static y_La_cell ∈ zW := zW_of 400 rfl rfl
set_option maxRecDepth 100000 in
theorem w_401 : Cond.code y_La_cell method_2_code 2 (some .int) ∈ zW := zW_of 401 rfl rfl
set_option maxRecDepth 100000 in
theorem w_402 : Cond.classLink "UnitThreadsLaw" 18 "UnitThreadsModel" ∈ zW := zW_of 402 rfl rfl
set_option maxRecDepth 100000 in
theorem w_403 : Cond.instantiable "UnitThreadsModel" 26 ∈ zW := zW_of 403 rfl rfl
set_option maxRecDepth 100000 in
theorem w_404 : Cond.methodLink "UnitThreadsLaw" 20 y_Mo_init ∈ zW := zW_of 404 rfl rfl
set_option maxRecDepth 100000 in
theorem w_405 : Cond.instanceMethod y_Mo_init ∈ zW := zW_of 405 rfl rfl
set_option maxRecDepth 100000 in
theorem w_406 : Cond.code y_Mo_init prog_8_method_1_code 3 none ∈ zW := zW_of 406 rfl rfl
set_option maxRecDepth 100000 in
theorem w_407 : Cond.methodLink "UnitThreadsModel" 1 y_Ob_init ∈ zW := zW_of 407 rfl rfl
set_option maxRecDepth 100000 in
theorem w_408 : Cond.fieldLink "UnitThreadsModel" 75 "UnitThreadsModel" "units" "I" ∈ zW := zW_of 408 rfl rfl
set_option maxRecDepth 100000 in
theorem w_409 : Cond.fieldLink "UnitThreadsModel" 83 "UnitThreadsModel" "isClosed" "Z" ∈ zW := zW_of 409 rfl rfl
set_option maxRecDepth 100000 in
theorem w_410 : Cond.fieldLink "UnitThreadsModel" 106 "UnitThreadsModel" "done" "I" ∈ zW := zW_of 410 rfl rfl
set_option maxRecDepth 100000 in
theorem w_411 : Cond.fieldLink "UnitThreadsModel" 7 "UnitThreadsModel" "outputs" "[J" ∈ zW := zW_of 411 rfl rfl
set_option maxRecDepth 100000 in
theorem w_412 : Cond.fieldLink "UnitThreadsModel" 13 "UnitThreadsModel" "safes" "[J" ∈ zW := zW_of 412 rfl rfl
set_option maxRecDepth 100000 in
theorem w_413 : Cond.fieldLink "UnitThreadsModel" 16 "UnitThreadsModel" "owners" "[I" ∈ zW := zW_of 413 rfl rfl
set_option maxRecDepth 100000 in
theorem w_414 : Cond.fieldLink "UnitThreadsModel" 20 "UnitThreadsModel" "outputsAt" "[J" ∈ zW := zW_of 414 rfl rfl
set_option maxRecDepth 100000 in
theorem w_415 : Cond.fieldLink "UnitThreadsModel" 23 "UnitThreadsModel" "ownersAt" "[I" ∈ zW := zW_of 415 rfl rfl
set_option maxRecDepth 100000 in
theorem w_416 : Cond.fieldLink "UnitThreadsModel" 26 "UnitThreadsModel" "bars" "[Z" ∈ zW := zW_of 416 rfl rfl
set_option maxRecDepth 100000 in
theorem w_417 : Cond.fieldLink "UnitThreadsModel" 30 "UnitThreadsModel" "kinds" "[I" ∈ zW := zW_of 417 rfl rfl
set_option maxRecDepth 100000 in
theorem w_418 : Cond.fieldLink "UnitThreadsModel" 33 "UnitThreadsModel" "whose" "[I" ∈ zW := zW_of 418 rfl rfl
set_option maxRecDepth 100000 in
theorem w_419 : Cond.fieldLink "UnitThreadsModel" 36 "UnitThreadsModel" "seconds" "[I" ∈ zW := zW_of 419 rfl rfl
set_option maxRecDepth 100000 in
theorem w_420 : Cond.fieldLink "UnitThreadsModel" 39 "UnitThreadsModel" "what" "[I" ∈ zW := zW_of 420 rfl rfl
set_option maxRecDepth 100000 in
theorem w_421 : Cond.fieldLink "UnitThreadsModel" 42 "UnitThreadsModel" "values" "[J" ∈ zW := zW_of 421 rfl rfl
set_option maxRecDepth 100000 in
theorem w_422 : Cond.fieldLink "UnitThreadsModel" 87 "UnitThreadsModel" "entries" "I" ∈ zW := zW_of 422 rfl rfl
set_option maxRecDepth 100000 in
theorem w_423 : Cond.fieldLink "UnitThreadsModel" 45 "UnitThreadsModel" "own" "[I" ∈ zW := zW_of 423 rfl rfl
set_option maxRecDepth 100000 in
theorem w_424 : Cond.fieldLink "UnitThreadsModel" 48 "UnitThreadsModel" "waits" "[Z" ∈ zW := zW_of 424 rfl rfl
set_option maxRecDepth 100000 in
theorem w_425 : Cond.fieldLink "UnitThreadsModel" 51 "UnitThreadsModel" "heldAt" "[I" ∈ zW := zW_of 425 rfl rfl
set_option maxRecDepth 100000 in
theorem w_426 : Cond.fieldLink "UnitThreadsModel" 54 "UnitThreadsModel" "turnSeconds" "[I" ∈ zW := zW_of 426 rfl rfl
set_option maxRecDepth 100000 in
theorem w_427 : Cond.fieldLink "UnitThreadsModel" 57 "UnitThreadsModel" "turnUnits" "[I" ∈ zW := zW_of 427 rfl rfl
set_option maxRecDepth 100000 in
theorem w_428 : Cond.fieldLink "UnitThreadsModel" 60 "UnitThreadsModel" "turnEnds" "[I" ∈ zW := zW_of 428 rfl rfl
set_option maxRecDepth 100000 in
theorem w_429 : Cond.fieldLink "UnitThreadsModel" 115 "UnitThreadsModel" "turns" "I" ∈ zW := zW_of 429 rfl rfl
set_option maxRecDepth 100000 in
theorem w_430 : Cond.fieldLink "UnitThreadsModel" 63 "UnitThreadsModel" "takes" "[Z" ∈ zW := zW_of 430 rfl rfl
set_option maxRecDepth 100000 in
theorem w_431 : Cond.fieldLink "UnitThreadsModel" 66 "UnitThreadsModel" "left" "[Z" ∈ zW := zW_of 431 rfl rfl
set_option maxRecDepth 100000 in
theorem w_432 : Cond.fieldLink "UnitThreadsModel" 69 "UnitThreadsModel" "throwing" "[Z" ∈ zW := zW_of 432 rfl rfl
set_option maxRecDepth 100000 in
theorem w_433 : Cond.fieldLink "UnitThreadsModel" 72 "UnitThreadsModel" "asked" "[Z" ∈ zW := zW_of 433 rfl rfl
set_option maxRecDepth 100000 in
theorem w_434 : Cond.laysFinal "UnitThreadsModel" "UnitThreadsModel" "units" "I" ∈ zW := zW_of 434 rfl rfl
set_option maxRecDepth 100000 in
theorem w_436 : Cond.lays "UnitThreadsModel" "UnitThreadsModel" "isClosed" "Z" ∈ zW := zW_of 436 rfl rfl
set_option maxRecDepth 100000 in
theorem w_438 : Cond.lays "UnitThreadsModel" "UnitThreadsModel" "done" "I" ∈ zW := zW_of 438 rfl rfl
set_option maxRecDepth 100000 in
theorem w_440 : Cond.laysFinal "UnitThreadsModel" "UnitThreadsModel" "outputs" "[J" ∈ zW := zW_of 440 rfl rfl
set_option maxRecDepth 100000 in
theorem w_442 : Cond.laysFinal "UnitThreadsModel" "UnitThreadsModel" "safes" "[J" ∈ zW := zW_of 442 rfl rfl
set_option maxRecDepth 100000 in
theorem w_444 : Cond.laysFinal "UnitThreadsModel" "UnitThreadsModel" "owners" "[I" ∈ zW := zW_of 444 rfl rfl
set_option maxRecDepth 100000 in
theorem w_446 : Cond.laysFinal "UnitThreadsModel" "UnitThreadsModel" "outputsAt" "[J" ∈ zW := zW_of 446 rfl rfl
set_option maxRecDepth 100000 in
theorem w_448 : Cond.laysFinal "UnitThreadsModel" "UnitThreadsModel" "ownersAt" "[I" ∈ zW := zW_of 448 rfl rfl
set_option maxRecDepth 100000 in
theorem w_450 : Cond.laysFinal "UnitThreadsModel" "UnitThreadsModel" "bars" "[Z" ∈ zW := zW_of 450 rfl rfl
set_option maxRecDepth 100000 in
theorem w_452 : Cond.laysFinal "UnitThreadsModel" "UnitThreadsModel" "kinds" "[I" ∈ zW := zW_of 452 rfl rfl
set_option maxRecDepth 100000 in
theorem w_454 : Cond.laysFinal "UnitThreadsModel" "UnitThreadsModel" "whose" "[I" ∈ zW := zW_of 454 rfl rfl
set_option maxRecDepth 100000 in
theorem w_456 : Cond.laysFinal "UnitThreadsModel" "UnitThreadsModel" "seconds" "[I" ∈ zW := zW_of 456 rfl rfl
set_option maxRecDepth 100000 in
theorem w_458 : Cond.laysFinal "UnitThreadsModel" "UnitThreadsModel" "what" "[I" ∈ zW := zW_of 458 rfl rfl
set_option maxRecDepth 100000 in
theorem w_460 : Cond.laysFinal "UnitThreadsModel" "UnitThreadsModel" "values" "[J" ∈ zW := zW_of 460 rfl rfl
set_option maxRecDepth 100000 in
theorem w_462 : Cond.lays "UnitThreadsModel" "UnitThreadsModel" "entries" "I" ∈ zW := zW_of 462 rfl rfl
set_option maxRecDepth 100000 in
theorem w_464 : Cond.laysFinal "UnitThreadsModel" "UnitThreadsModel" "own" "[I" ∈ zW := zW_of 464 rfl rfl
set_option maxRecDepth 100000 in
theorem w_466 : Cond.laysFinal "UnitThreadsModel" "UnitThreadsModel" "waits" "[Z" ∈ zW := zW_of 466 rfl rfl
set_option maxRecDepth 100000 in
theorem w_468 : Cond.laysFinal "UnitThreadsModel" "UnitThreadsModel" "heldAt" "[I" ∈ zW := zW_of 468 rfl rfl
set_option maxRecDepth 100000 in
theorem w_470 : Cond.laysFinal "UnitThreadsModel" "UnitThreadsModel" "turnSeconds" "[I" ∈ zW := zW_of 470 rfl rfl
set_option maxRecDepth 100000 in
theorem w_472 : Cond.laysFinal "UnitThreadsModel" "UnitThreadsModel" "turnUnits" "[I" ∈ zW := zW_of 472 rfl rfl
set_option maxRecDepth 100000 in
theorem w_474 : Cond.laysFinal "UnitThreadsModel" "UnitThreadsModel" "turnEnds" "[I" ∈ zW := zW_of 474 rfl rfl
set_option maxRecDepth 100000 in
theorem w_476 : Cond.lays "UnitThreadsModel" "UnitThreadsModel" "turns" "I" ∈ zW := zW_of 476 rfl rfl
set_option maxRecDepth 100000 in
theorem w_478 : Cond.laysFinal "UnitThreadsModel" "UnitThreadsModel" "takes" "[Z" ∈ zW := zW_of 478 rfl rfl
set_option maxRecDepth 100000 in
theorem w_480 : Cond.laysFinal "UnitThreadsModel" "UnitThreadsModel" "left" "[Z" ∈ zW := zW_of 480 rfl rfl
set_option maxRecDepth 100000 in
theorem w_482 : Cond.laysFinal "UnitThreadsModel" "UnitThreadsModel" "throwing" "[Z" ∈ zW := zW_of 482 rfl rfl
set_option maxRecDepth 100000 in
theorem w_484 : Cond.laysFinal "UnitThreadsModel" "UnitThreadsModel" "asked" "[Z" ∈ zW := zW_of 484 rfl rfl
set_option maxRecDepth 100000 in
theorem w_487 : Cond.arrayClass FieldType.boolean ∈ zW := zW_of 487 rfl rfl
set_option maxRecDepth 100000 in
theorem w_488 : Cond.methodLink "UnitThreadsLaw" 27 y_Mo_step ∈ zW := zW_of 488 rfl rfl
set_option maxRecDepth 100000 in
theorem w_489 : Cond.instanceMethod y_Mo_step ∈ zW := zW_of 489 rfl rfl
set_option maxRecDepth 100000 in
theorem w_490 : Cond.selects "UnitThreadsModel" y_Mo_step y_Mo_step ∈ zW := zW_of 490 rfl rfl
set_option maxRecDepth 100000 in
theorem w_491 : Cond.code y_Mo_step prog_8_method_7_code 6 (some .boolean) ∈ zW := zW_of 491 rfl rfl
set_option maxRecDepth 100000 in
theorem w_492 : Cond.methodLink "UnitThreadsModel" 90 y_Mo_isUnit ∈ zW := zW_of 492 rfl rfl
set_option maxRecDepth 100000 in
theorem w_494 : Cond.instanceMethod y_Mo_isUnit ∈ zW := zW_of 494 rfl rfl
set_option maxRecDepth 100000 in
theorem w_495 : Cond.code y_Mo_isUnit prog_8_method_3_code 2 (some .boolean) ∈ zW := zW_of 495 rfl rfl
set_option maxRecDepth 100000 in
theorem w_496 : Cond.methodLink "UnitThreadsModel" 79 y_Mo_isIn ∈ zW := zW_of 496 rfl rfl
set_option maxRecDepth 100000 in
theorem w_497 : Cond.static y_Mo_isIn ∈ zW := zW_of 497 rfl rfl
set_option maxRecDepth 100000 in
theorem w_498 : Cond.code y_Mo_isIn prog_8_method_2_code 3 (some .boolean) ∈ zW := zW_of 498 rfl rfl
set_option maxRecDepth 100000 in
theorem w_499 : Cond.methodLink "UnitThreadsModel" 94 y_Mo_isOpen ∈ zW := zW_of 499 rfl rfl
set_option maxRecDepth 100000 in
theorem w_501 : Cond.instanceMethod y_Mo_isOpen ∈ zW := zW_of 501 rfl rfl
set_option maxRecDepth 100000 in
theorem w_502 : Cond.code y_Mo_isOpen prog_8_method_4_code 3 (some .boolean) ∈ zW := zW_of 502 rfl rfl
set_option maxRecDepth 100000 in
theorem w_503 : Cond.methodLink "UnitThreadsModel" 98 y_Mo_add ∈ zW := zW_of 503 rfl rfl
set_option maxRecDepth 100000 in
theorem w_505 : Cond.instanceMethod y_Mo_add ∈ zW := zW_of 505 rfl rfl
set_option maxRecDepth 100000 in
theorem w_506 : Cond.code y_Mo_add prog_8_method_5_code 7 (some .boolean) ∈ zW := zW_of 506 rfl rfl
set_option maxRecDepth 100000 in
theorem w_507 : Cond.methodLink "UnitThreadsLaw" 32 y_Mo_asks ∈ zW := zW_of 507 rfl rfl
set_option maxRecDepth 100000 in
theorem w_508 : Cond.instanceMethod y_Mo_asks ∈ zW := zW_of 508 rfl rfl
set_option maxRecDepth 100000 in
theorem w_509 : Cond.selects "UnitThreadsModel" y_Mo_asks y_Mo_asks ∈ zW := zW_of 509 rfl rfl
set_option maxRecDepth 100000 in
theorem w_510 : Cond.code y_Mo_asks prog_8_method_8_code 4 (some .boolean) ∈ zW := zW_of 510 rfl rfl
set_option maxRecDepth 100000 in
theorem w_511 : Cond.methodLink "UnitThreadsModel" 102 y_Mo_find ∈ zW := zW_of 511 rfl rfl
set_option maxRecDepth 100000 in
theorem w_513 : Cond.instanceMethod y_Mo_find ∈ zW := zW_of 513 rfl rfl
set_option maxRecDepth 100000 in
theorem w_514 : Cond.code y_Mo_find prog_8_method_6_code 6 (some .int) ∈ zW := zW_of 514 rfl rfl
set_option maxRecDepth 100000 in
theorem w_515 : Cond.methodLink "UnitThreadsLaw" 37 y_Mo_throwsAt ∈ zW := zW_of 515 rfl rfl
set_option maxRecDepth 100000 in
theorem w_516 : Cond.instanceMethod y_Mo_throwsAt ∈ zW := zW_of 516 rfl rfl
set_option maxRecDepth 100000 in
theorem w_517 : Cond.selects "UnitThreadsModel" y_Mo_throwsAt y_Mo_throwsAt ∈ zW := zW_of 517 rfl rfl
set_option maxRecDepth 100000 in
theorem w_518 : Cond.code y_Mo_throwsAt prog_8_method_9_code 3 (some .boolean) ∈ zW := zW_of 518 rfl rfl
set_option maxRecDepth 100000 in
theorem w_519 : Cond.methodLink "UnitThreadsLaw" 42 y_Mo_safe ∈ zW := zW_of 519 rfl rfl
set_option maxRecDepth 100000 in
theorem w_520 : Cond.instanceMethod y_Mo_safe ∈ zW := zW_of 520 rfl rfl
set_option maxRecDepth 100000 in
theorem w_521 : Cond.selects "UnitThreadsModel" y_Mo_safe y_Mo_safe ∈ zW := zW_of 521 rfl rfl
set_option maxRecDepth 100000 in
theorem w_522 : Cond.code y_Mo_safe prog_8_method_10_code 4 (some .boolean) ∈ zW := zW_of 522 rfl rfl
set_option maxRecDepth 100000 in
theorem w_523 : Cond.methodLink "UnitThreadsLaw" 46 y_Mo_bar ∈ zW := zW_of 523 rfl rfl
set_option maxRecDepth 100000 in
theorem w_524 : Cond.instanceMethod y_Mo_bar ∈ zW := zW_of 524 rfl rfl
set_option maxRecDepth 100000 in
theorem w_525 : Cond.selects "UnitThreadsModel" y_Mo_bar y_Mo_bar ∈ zW := zW_of 525 rfl rfl
set_option maxRecDepth 100000 in
theorem w_526 : Cond.code y_Mo_bar prog_8_method_11_code 3 (some .boolean) ∈ zW := zW_of 526 rfl rfl
set_option maxRecDepth 100000 in
theorem w_527 : Cond.methodLink "UnitThreadsLaw" 51 y_Mo_play ∈ zW := zW_of 527 rfl rfl
set_option maxRecDepth 100000 in
theorem w_528 : Cond.instanceMethod y_Mo_play ∈ zW := zW_of 528 rfl rfl
set_option maxRecDepth 100000 in
theorem w_529 : Cond.selects "UnitThreadsModel" y_Mo_play y_Mo_play ∈ zW := zW_of 529 rfl rfl
set_option maxRecDepth 100000 in
theorem w_530 : Cond.code y_Mo_play prog_8_method_23_code 8 (some .int) ∈ zW := zW_of 530 rfl rfl
set_option maxRecDepth 100000 in
theorem w_531 : Cond.methodLink "UnitThreadsModel" 142 y_Mo_going ∈ zW := zW_of 531 rfl rfl
set_option maxRecDepth 100000 in
theorem w_533 : Cond.instanceMethod y_Mo_going ∈ zW := zW_of 533 rfl rfl
set_option maxRecDepth 100000 in
theorem w_534 : Cond.code y_Mo_going prog_8_method_14_code 3 (some .int) ∈ zW := zW_of 534 rfl rfl
set_option maxRecDepth 100000 in
theorem w_535 : Cond.methodLink "UnitThreadsModel" 112 y_Mo_goes ∈ zW := zW_of 535 rfl rfl
set_option maxRecDepth 100000 in
theorem w_537 : Cond.instanceMethod y_Mo_goes ∈ zW := zW_of 537 rfl rfl
set_option maxRecDepth 100000 in
theorem w_538 : Cond.code y_Mo_goes prog_8_method_13_code 2 (some .boolean) ∈ zW := zW_of 538 rfl rfl
set_option maxRecDepth 100000 in
theorem w_539 : Cond.methodLink "UnitThreadsModel" 109 y_Mo_hasEnded ∈ zW := zW_of 539 rfl rfl
set_option maxRecDepth 100000 in
theorem w_541 : Cond.instanceMethod y_Mo_hasEnded ∈ zW := zW_of 541 rfl rfl
set_option maxRecDepth 100000 in
theorem w_542 : Cond.code y_Mo_hasEnded prog_8_method_12_code 4 (some .boolean) ∈ zW := zW_of 542 rfl rfl
set_option maxRecDepth 100000 in
theorem w_543 : Cond.methodLink "UnitThreadsModel" 146 y_Mo_turnsOf ∈ zW := zW_of 543 rfl rfl
set_option maxRecDepth 100000 in
theorem w_545 : Cond.instanceMethod y_Mo_turnsOf ∈ zW := zW_of 545 rfl rfl
set_option maxRecDepth 100000 in
theorem w_546 : Cond.code y_Mo_turnsOf prog_8_method_18_code 8 (some .long) ∈ zW := zW_of 546 rfl rfl
set_option maxRecDepth 100000 in
theorem w_547 : Cond.constantLong "UnitThreadsModel" 124 (6364136223846793005 : Int64) ∈ zW := zW_of 547 rfl rfl
set_option maxRecDepth 100000 in
theorem w_548 : Cond.constantLong "UnitThreadsModel" 126 (1442695040888963407 : Int64) ∈ zW := zW_of 548 rfl rfl
set_option maxRecDepth 100000 in
theorem w_549 : Cond.methodLink "UnitThreadsModel" 128 y_Mo_takeTurn ∈ zW := zW_of 549 rfl rfl
set_option maxRecDepth 100000 in
theorem w_551 : Cond.instanceMethod y_Mo_takeTurn ∈ zW := zW_of 551 rfl rfl
set_option maxRecDepth 100000 in
theorem w_552 : Cond.code y_Mo_takeTurn prog_8_method_17_code 4 none ∈ zW := zW_of 552 rfl rfl
set_option maxRecDepth 100000 in
theorem w_553 : Cond.methodLink "UnitThreadsModel" 118 y_Mo_isNow ∈ zW := zW_of 553 rfl rfl
set_option maxRecDepth 100000 in
theorem w_555 : Cond.instanceMethod y_Mo_isNow ∈ zW := zW_of 555 rfl rfl
set_option maxRecDepth 100000 in
theorem w_556 : Cond.code y_Mo_isNow prog_8_method_16_code 4 (some .boolean) ∈ zW := zW_of 556 rfl rfl
set_option maxRecDepth 100000 in
theorem w_557 : Cond.methodLink "UnitThreadsModel" 121 y_Mo_isGive ∈ zW := zW_of 557 rfl rfl
set_option maxRecDepth 100000 in
theorem w_559 : Cond.instanceMethod y_Mo_isGive ∈ zW := zW_of 559 rfl rfl
set_option maxRecDepth 100000 in
theorem w_560 : Cond.code y_Mo_isGive prog_8_method_15_code 4 (some .boolean) ∈ zW := zW_of 560 rfl rfl
set_option maxRecDepth 100000 in
theorem w_561 : Cond.methodLink "UnitThreadsModel" 150 y_Mo_end ∈ zW := zW_of 561 rfl rfl
set_option maxRecDepth 100000 in
theorem w_563 : Cond.instanceMethod y_Mo_end ∈ zW := zW_of 563 rfl rfl
set_option maxRecDepth 100000 in
theorem w_564 : Cond.code y_Mo_end prog_8_method_22_code 4 none ∈ zW := zW_of 564 rfl rfl
set_option maxRecDepth 100000 in
theorem w_565 : Cond.methodLink "UnitThreadsModel" 135 y_Mo_tellEnd ∈ zW := zW_of 565 rfl rfl
set_option maxRecDepth 100000 in
theorem w_567 : Cond.instanceMethod y_Mo_tellEnd ∈ zW := zW_of 567 rfl rfl
set_option maxRecDepth 100000 in
theorem w_568 : Cond.code y_Mo_tellEnd prog_8_method_19_code 4 none ∈ zW := zW_of 568 rfl rfl
set_option maxRecDepth 100000 in
theorem w_569 : Cond.methodLink "UnitThreadsModel" 139 y_Mo_act ∈ zW := zW_of 569 rfl rfl
set_option maxRecDepth 100000 in
theorem w_571 : Cond.instanceMethod y_Mo_act ∈ zW := zW_of 571 rfl rfl
set_option maxRecDepth 100000 in
theorem w_572 : Cond.code y_Mo_act prog_8_method_21_code 3 none ∈ zW := zW_of 572 rfl rfl
set_option maxRecDepth 100000 in
theorem w_573 : Cond.methodLink "UnitThreadsModel" 132 y_Mo_ownsAll ∈ zW := zW_of 573 rfl rfl
set_option maxRecDepth 100000 in
theorem w_575 : Cond.instanceMethod y_Mo_ownsAll ∈ zW := zW_of 575 rfl rfl
set_option maxRecDepth 100000 in
theorem w_576 : Cond.code y_Mo_ownsAll prog_8_method_20_code 4 (some .boolean) ∈ zW := zW_of 576 rfl rfl
set_option maxRecDepth 100000 in
theorem w_577 : Cond.methodLink "UnitThreadsLaw" 56 y_Mo_output ∈ zW := zW_of 577 rfl rfl
set_option maxRecDepth 100000 in
theorem w_578 : Cond.instanceMethod y_Mo_output ∈ zW := zW_of 578 rfl rfl
set_option maxRecDepth 100000 in
theorem w_579 : Cond.selects "UnitThreadsModel" y_Mo_output y_Mo_output ∈ zW := zW_of 579 rfl rfl
set_option maxRecDepth 100000 in
theorem w_580 : Cond.code y_Mo_output prog_8_method_24_code 3 (some .long) ∈ zW := zW_of 580 rfl rfl
set_option maxRecDepth 100000 in
theorem w_581 : Cond.methodLink "UnitThreadsLaw" 61 y_Mo_owner ∈ zW := zW_of 581 rfl rfl
set_option maxRecDepth 100000 in
theorem w_582 : Cond.instanceMethod y_Mo_owner ∈ zW := zW_of 582 rfl rfl
set_option maxRecDepth 100000 in
theorem w_583 : Cond.selects "UnitThreadsModel" y_Mo_owner y_Mo_owner ∈ zW := zW_of 583 rfl rfl
set_option maxRecDepth 100000 in
theorem w_584 : Cond.code y_Mo_owner prog_8_method_25_code 3 (some .int) ∈ zW := zW_of 584 rfl rfl
set_option maxRecDepth 100000 in
theorem w_585 : Cond.methodLink "UnitThreadsLaw" 66 y_Mo_state ∈ zW := zW_of 585 rfl rfl
set_option maxRecDepth 100000 in
theorem w_586 : Cond.instanceMethod y_Mo_state ∈ zW := zW_of 586 rfl rfl
set_option maxRecDepth 100000 in
theorem w_587 : Cond.selects "UnitThreadsModel" y_Mo_state y_Mo_state ∈ zW := zW_of 587 rfl rfl
set_option maxRecDepth 100000 in
theorem w_588 : Cond.code y_Mo_state prog_8_method_26_code 2 (some .int) ∈ zW := zW_of 588 rfl rfl
set_option maxRecDepth 100000 in
theorem w_589 : Cond.methodLink "UnitThreadsLaw" 71 y_Mo_restart ∈ zW := zW_of 589 rfl rfl
set_option maxRecDepth 100000 in
theorem w_590 : Cond.instanceMethod y_Mo_restart ∈ zW := zW_of 590 rfl rfl
set_option maxRecDepth 100000 in
theorem w_591 : Cond.selects "UnitThreadsModel" y_Mo_restart y_Mo_restart ∈ zW := zW_of 591 rfl rfl
set_option maxRecDepth 100000 in
theorem w_592 : Cond.code y_Mo_restart prog_8_method_27_code 2 (some .boolean) ∈ zW := zW_of 592 rfl rfl
set_option maxRecDepth 100000 in
theorem w_593 : Cond.methodLink "UnitThreadsLaw" 75 y_Mo_held ∈ zW := zW_of 593 rfl rfl
set_option maxRecDepth 100000 in
theorem w_594 : Cond.instanceMethod y_Mo_held ∈ zW := zW_of 594 rfl rfl
set_option maxRecDepth 100000 in
theorem w_595 : Cond.selects "UnitThreadsModel" y_Mo_held y_Mo_held ∈ zW := zW_of 595 rfl rfl
set_option maxRecDepth 100000 in
theorem w_596 : Cond.code y_Mo_held prog_8_method_28_code 2 (some .int) ∈ zW := zW_of 596 rfl rfl
set_option maxRecDepth 100000 in
theorem w_597 : Cond.methodLink "UnitThreadsLaw" 79 y_Mo_log ∈ zW := zW_of 597 rfl rfl
set_option maxRecDepth 100000 in
theorem w_598 : Cond.instanceMethod y_Mo_log ∈ zW := zW_of 598 rfl rfl
set_option maxRecDepth 100000 in
theorem w_599 : Cond.selects "UnitThreadsModel" y_Mo_log y_Mo_log ∈ zW := zW_of 599 rfl rfl
set_option maxRecDepth 100000 in
theorem w_600 : Cond.code y_Mo_log prog_8_method_29_code 3 (some .int) ∈ zW := zW_of 600 rfl rfl
set_option maxRecDepth 100000 in
theorem w_601 : Cond.methodLink "UnitThreadsLaw" 83 y_Mo_count ∈ zW := zW_of 601 rfl rfl
set_option maxRecDepth 100000 in
theorem w_602 : Cond.instanceMethod y_Mo_count ∈ zW := zW_of 602 rfl rfl
set_option maxRecDepth 100000 in
theorem w_603 : Cond.selects "UnitThreadsModel" y_Mo_count y_Mo_count ∈ zW := zW_of 603 rfl rfl
set_option maxRecDepth 100000 in
theorem w_604 : Cond.code y_Mo_count prog_8_method_30_code 2 (some .int) ∈ zW := zW_of 604 rfl rfl
set_option maxRecDepth 100000 in
theorem w_605 : Cond.methodLink "UnitThreadsLaw" 88 y_Mo_close ∈ zW := zW_of 605 rfl rfl
set_option maxRecDepth 100000 in
theorem w_606 : Cond.instanceMethod y_Mo_close ∈ zW := zW_of 606 rfl rfl
set_option maxRecDepth 100000 in
theorem w_607 : Cond.selects "UnitThreadsModel" y_Mo_close y_Mo_close ∈ zW := zW_of 607 rfl rfl
set_option maxRecDepth 100000 in
theorem w_608 : Cond.code y_Mo_close prog_8_method_31_code 3 (some .int) ∈ zW := zW_of 608 rfl rfl
set_option maxRecDepth 100000 in
theorem w_609 : Cond.constantLong "UnitThreadsLaw" 21 (4294967295 : Int64) ∈ zW := zW_of 609 rfl rfl
theorem s_0 : Cond.selects "UnitThreads" y_Ut_takesEntry y_Ut_takesEntry ∈ zW := zW_sel 0 rfl rfl
theorem s_1 : Cond.selects "UnitThreads" y_Ut_isUnit y_Ut_isUnit ∈ zW := zW_sel 1 rfl rfl
theorem s_2 : Cond.selects "UnitThreads" y_Ut_tell y_Ut_tell ∈ zW := zW_sel 2 rfl rfl
theorem s_3 : Cond.selects "UnitThreads" y_Ut_acting y_Ut_acting ∈ zW := zW_sel 3 rfl rfl
theorem s_4 : Cond.selects "UnitThreads" y_Ut_modeOf y_Ut_modeOf ∈ zW := zW_sel 4 rfl rfl
theorem s_5 : Cond.selects "UnitThreads" y_Ut_passSecond y_Ut_passSecond ∈ zW := zW_sel 5 rfl rfl
theorem s_6 : Cond.selects "UnitThreads$Order" y_Or_moveForward y_Or_moveForward ∈ zW := zW_sel 6 rfl rfl
theorem s_7 : Cond.selects "UnitThreads" y_Ut_takeTurns y_Ut_takeTurns ∈ zW := zW_sel 7 rfl rfl
theorem s_8 : Cond.selects "UnitThreads" y_Ut_holdThrowers y_Ut_holdThrowers ∈ zW := zW_sel 8 rfl rfl
theorem s_9 : Cond.selects "UnitThreads" y_Ut_grantWays y_Ut_grantWays ∈ zW := zW_sel 9 rfl rfl
theorem s_10 : Cond.selects "UnitThreads" y_Ut_leastAsker y_Ut_leastAsker ∈ zW := zW_sel 10 rfl rfl
theorem s_11 : Cond.selects "UnitThreads" y_Ut_settle y_Ut_settle ∈ zW := zW_sel 11 rfl rfl
theorem s_12 : Cond.selects "UnitThreadsModel" y_Mo_isUnit y_Mo_isUnit ∈ zW := zW_sel 12 rfl rfl
theorem s_13 : Cond.selects "UnitThreadsModel" y_Mo_isOpen y_Mo_isOpen ∈ zW := zW_sel 13 rfl rfl
theorem s_14 : Cond.selects "UnitThreadsModel" y_Mo_add y_Mo_add ∈ zW := zW_sel 14 rfl rfl
theorem s_15 : Cond.selects "UnitThreadsModel" y_Mo_find y_Mo_find ∈ zW := zW_sel 15 rfl rfl
theorem s_16 : Cond.selects "UnitThreadsModel" y_Mo_going y_Mo_going ∈ zW := zW_sel 16 rfl rfl
theorem s_17 : Cond.selects "UnitThreadsModel" y_Mo_goes y_Mo_goes ∈ zW := zW_sel 17 rfl rfl
theorem s_18 : Cond.selects "UnitThreadsModel" y_Mo_hasEnded y_Mo_hasEnded ∈ zW := zW_sel 18 rfl rfl
theorem s_19 : Cond.selects "UnitThreadsModel" y_Mo_turnsOf y_Mo_turnsOf ∈ zW := zW_sel 19 rfl rfl
theorem s_20 : Cond.selects "UnitThreadsModel" y_Mo_takeTurn y_Mo_takeTurn ∈ zW := zW_sel 20 rfl rfl
theorem s_21 : Cond.selects "UnitThreadsModel" y_Mo_isNow y_Mo_isNow ∈ zW := zW_sel 21 rfl rfl
theorem s_22 : Cond.selects "UnitThreadsModel" y_Mo_isGive y_Mo_isGive ∈ zW := zW_sel 22 rfl rfl
theorem s_23 : Cond.selects "UnitThreadsModel" y_Mo_end y_Mo_end ∈ zW := zW_sel 23 rfl rfl
theorem s_24 : Cond.selects "UnitThreadsModel" y_Mo_tellEnd y_Mo_tellEnd ∈ zW := zW_sel 24 rfl rfl
theorem s_25 : Cond.selects "UnitThreadsModel" y_Mo_act y_Mo_act ∈ zW := zW_sel 25 rfl rfl
theorem s_26 : Cond.selects "UnitThreadsModel" y_Mo_ownsAll y_Mo_ownsAll ∈ zW := zW_sel 26 rfl rfl
theorem in_Un : ∀ w ∈ u_ws "UnitThreads$Unit" T_Un 8, w ∈ zW := by
  show ∀ w ∈ [u_lay "UnitThreads$Unit" T_Un 0, u_lay "UnitThreads$Unit" T_Un 1, u_lay "UnitThreads$Unit" T_Un 2, u_lay "UnitThreads$Unit" T_Un 3, u_lay "UnitThreads$Unit" T_Un 4, u_lay "UnitThreads$Unit" T_Un 5, u_lay "UnitThreads$Unit" T_Un 6, u_lay "UnitThreads$Unit" T_Un 7], w ∈ zW
  exact List.forall_mem_cons.mpr ⟨w_51, List.forall_mem_cons.mpr ⟨w_53, List.forall_mem_cons.mpr ⟨w_55, List.forall_mem_cons.mpr ⟨w_57, List.forall_mem_cons.mpr ⟨w_59, List.forall_mem_cons.mpr ⟨w_61, List.forall_mem_cons.mpr ⟨w_63, List.forall_mem_cons.mpr ⟨w_65, fun _ h => absurd h List.not_mem_nil⟩⟩⟩⟩⟩⟩⟩⟩
theorem in_En : ∀ w ∈ u_ws "UnitThreads$Entries" T_En 6, w ∈ zW := by
  show ∀ w ∈ [u_lay "UnitThreads$Entries" T_En 0, u_lay "UnitThreads$Entries" T_En 1, u_lay "UnitThreads$Entries" T_En 2, u_lay "UnitThreads$Entries" T_En 3, u_lay "UnitThreads$Entries" T_En 4, u_lay "UnitThreads$Entries" T_En 5], w ∈ zW
  exact List.forall_mem_cons.mpr ⟨w_81, List.forall_mem_cons.mpr ⟨w_83, List.forall_mem_cons.mpr ⟨w_85, List.forall_mem_cons.mpr ⟨w_87, List.forall_mem_cons.mpr ⟨w_89, List.forall_mem_cons.mpr ⟨w_91, fun _ h => absurd h List.not_mem_nil⟩⟩⟩⟩⟩⟩
theorem in_Or : ∀ w ∈ u_ws "UnitThreads$Order" T_Or 3, w ∈ zW := by
  show ∀ w ∈ [u_lay "UnitThreads$Order" T_Or 0, u_lay "UnitThreads$Order" T_Or 1, u_lay "UnitThreads$Order" T_Or 2], w ∈ zW
  exact List.forall_mem_cons.mpr ⟨w_108, List.forall_mem_cons.mpr ⟨w_110, List.forall_mem_cons.mpr ⟨w_112, fun _ h => absurd h List.not_mem_nil⟩⟩⟩
theorem in_Tu : ∀ w ∈ u_ws "UnitThreads$Turns" T_Tu 4, w ∈ zW := by
  show ∀ w ∈ [u_lay "UnitThreads$Turns" T_Tu 0, u_lay "UnitThreads$Turns" T_Tu 1, u_lay "UnitThreads$Turns" T_Tu 2, u_lay "UnitThreads$Turns" T_Tu 3], w ∈ zW
  exact List.forall_mem_cons.mpr ⟨w_126, List.forall_mem_cons.mpr ⟨w_128, List.forall_mem_cons.mpr ⟨w_130, List.forall_mem_cons.mpr ⟨w_132, fun _ h => absurd h List.not_mem_nil⟩⟩⟩⟩
theorem in_Bo : ∀ w ∈ u_ws "UnitThreads$Board" T_Bo 6, w ∈ zW := by
  show ∀ w ∈ [u_lay "UnitThreads$Board" T_Bo 0, u_lay "UnitThreads$Board" T_Bo 1, u_lay "UnitThreads$Board" T_Bo 2, u_lay "UnitThreads$Board" T_Bo 3, u_lay "UnitThreads$Board" T_Bo 4, u_lay "UnitThreads$Board" T_Bo 5], w ∈ zW
  exact List.forall_mem_cons.mpr ⟨w_154, List.forall_mem_cons.mpr ⟨w_156, List.forall_mem_cons.mpr ⟨w_158, List.forall_mem_cons.mpr ⟨w_160, List.forall_mem_cons.mpr ⟨w_162, List.forall_mem_cons.mpr ⟨w_164, fun _ h => absurd h List.not_mem_nil⟩⟩⟩⟩⟩⟩
theorem in_Ut : ∀ w ∈ u_ws "UnitThreads" T_Ut 7, w ∈ zW := by
  show ∀ w ∈ [u_lay "UnitThreads" T_Ut 0, u_lay "UnitThreads" T_Ut 1, u_lay "UnitThreads" T_Ut 2, u_lay "UnitThreads" T_Ut 3, u_lay "UnitThreads" T_Ut 4, u_lay "UnitThreads" T_Ut 5, u_lay "UnitThreads" T_Ut 6], w ∈ zW
  exact List.forall_mem_cons.mpr ⟨w_174, List.forall_mem_cons.mpr ⟨w_176, List.forall_mem_cons.mpr ⟨w_178, List.forall_mem_cons.mpr ⟨w_180, List.forall_mem_cons.mpr ⟨w_182, List.forall_mem_cons.mpr ⟨w_184, List.forall_mem_cons.mpr ⟨w_186, fun _ h => absurd h List.not_mem_nil⟩⟩⟩⟩⟩⟩⟩
theorem in_Mo : ∀ w ∈ u_ws "UnitThreadsModel" T_Mo 26, w ∈ zW := by
  show ∀ w ∈ [u_lay "UnitThreadsModel" T_Mo 0, u_lay "UnitThreadsModel" T_Mo 1, u_lay "UnitThreadsModel" T_Mo 2, u_lay "UnitThreadsModel" T_Mo 3, u_lay "UnitThreadsModel" T_Mo 4, u_lay "UnitThreadsModel" T_Mo 5, u_lay "UnitThreadsModel" T_Mo 6, u_lay "UnitThreadsModel" T_Mo 7, u_lay "UnitThreadsModel" T_Mo 8, u_lay "UnitThreadsModel" T_Mo 9, u_lay "UnitThreadsModel" T_Mo 10, u_lay "UnitThreadsModel" T_Mo 11, u_lay "UnitThreadsModel" T_Mo 12, u_lay "UnitThreadsModel" T_Mo 13, u_lay "UnitThreadsModel" T_Mo 14, u_lay "UnitThreadsModel" T_Mo 15, u_lay "UnitThreadsModel" T_Mo 16, u_lay "UnitThreadsModel" T_Mo 17, u_lay "UnitThreadsModel" T_Mo 18, u_lay "UnitThreadsModel" T_Mo 19, u_lay "UnitThreadsModel" T_Mo 20, u_lay "UnitThreadsModel" T_Mo 21, u_lay "UnitThreadsModel" T_Mo 22, u_lay "UnitThreadsModel" T_Mo 23, u_lay "UnitThreadsModel" T_Mo 24, u_lay "UnitThreadsModel" T_Mo 25], w ∈ zW
  exact List.forall_mem_cons.mpr ⟨w_434, List.forall_mem_cons.mpr ⟨w_436, List.forall_mem_cons.mpr ⟨w_438, List.forall_mem_cons.mpr ⟨w_440, List.forall_mem_cons.mpr ⟨w_442, List.forall_mem_cons.mpr ⟨w_444, List.forall_mem_cons.mpr ⟨w_446, List.forall_mem_cons.mpr ⟨w_448, List.forall_mem_cons.mpr ⟨w_450, List.forall_mem_cons.mpr ⟨w_452, List.forall_mem_cons.mpr ⟨w_454, List.forall_mem_cons.mpr ⟨w_456, List.forall_mem_cons.mpr ⟨w_458, List.forall_mem_cons.mpr ⟨w_460, List.forall_mem_cons.mpr ⟨w_462, List.forall_mem_cons.mpr ⟨w_464, List.forall_mem_cons.mpr ⟨w_466, List.forall_mem_cons.mpr ⟨w_468, List.forall_mem_cons.mpr ⟨w_470, List.forall_mem_cons.mpr ⟨w_472, List.forall_mem_cons.mpr ⟨w_474, List.forall_mem_cons.mpr ⟨w_476, List.forall_mem_cons.mpr ⟨w_478, List.forall_mem_cons.mpr ⟨w_480, List.forall_mem_cons.mpr ⟨w_482, List.forall_mem_cons.mpr ⟨w_484, fun _ h => absurd h List.not_mem_nil⟩⟩⟩⟩⟩⟩⟩⟩⟩⟩⟩⟩⟩⟩⟩⟩⟩⟩⟩⟩⟩⟩⟩⟩⟩⟩
