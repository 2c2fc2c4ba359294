theorem lw_cons {a : Cond} {l : List Cond} (h1 : a ∈ lw_tbl) (h2 : ∀ w ∈ l, w ∈ lw_tbl) : ∀ w ∈ a :: l, w ∈ lw_tbl := fun w h => (List.mem_cons.mp h).elim (fun e => by rw [e]; exact h1) (h2 w)
theorem lw_nil : ∀ w ∈ ([] : List Cond), w ∈ lw_tbl := fun _ h => absurd h List.not_mem_nil
set_option maxRecDepth 100000 in
theorem lwM_0 : Cond.methodLink RL 13 yX9_base ∈ lw_tbl := List.mem_of_getElem? (i := 309) rfl
set_option maxRecDepth 100000 in
theorem lwM_1 : Cond.instanceMethod yX9_base ∈ lw_tbl := List.mem_of_getElem? (i := 310) rfl
set_option maxRecDepth 100000 in
theorem lwM_2 : Cond.selects RX9 yX9_base yX9_base ∈ lw_tbl := List.mem_of_getElem? (i := 311) rfl
set_option maxRecDepth 100000 in
theorem lwM_3 : Cond.initialized RX9 ∈ lw_tbl := List.mem_of_getElem? (i := 35) rfl
set_option maxRecDepth 100000 in
theorem lwM_4 : Cond.code yX9_base cX9_base 3 (some .int) ∈ lw_tbl := List.mem_of_getElem? (i := 312) rfl
set_option maxRecDepth 100000 in
theorem lwM_5 : Cond.constant RX9 104 (100000) ∈ lw_tbl := List.mem_of_getElem? (i := 313) rfl
set_option maxRecDepth 100000 in
theorem lwM_6 : Cond.fieldLink RX9 19 "CloudOffice" "settings" "LCloudOffice$Settings;" ∈ lw_tbl := List.mem_of_getElem? (i := 258) rfl
set_option maxRecDepth 100000 in
theorem lwM_7 : Cond.methodLink RX9 105 yX9_isWithin ∈ lw_tbl := List.mem_of_getElem? (i := 314) rfl
set_option maxRecDepth 100000 in
theorem lwM_8 : Cond.static yX9_isWithin ∈ lw_tbl := List.mem_of_getElem? (i := 315) rfl
set_option maxRecDepth 100000 in
theorem lwM_9 : Cond.code yX9_isWithin cX9_isWithin 3 (some .boolean) ∈ lw_tbl := List.mem_of_getElem? (i := 316) rfl
set_option maxRecDepth 100000 in
theorem lwM_10 : u_lay RX9 TX9 0 ∈ lw_tbl := List.mem_of_getElem? (i := 274) rfl
set_option maxRecDepth 100000 in
theorem lwM_11 : u_lay RX9 TX9 1 ∈ lw_tbl := List.mem_of_getElem? (i := 276) rfl
set_option maxRecDepth 100000 in
theorem lwM_12 : u_lay RX9 TX9 2 ∈ lw_tbl := List.mem_of_getElem? (i := 278) rfl
set_option maxRecDepth 100000 in
theorem lwM_13 : u_lay RX9 TX9 3 ∈ lw_tbl := List.mem_of_getElem? (i := 280) rfl
set_option maxRecDepth 100000 in
theorem lwM_14 : u_lay RX9 TX9 4 ∈ lw_tbl := List.mem_of_getElem? (i := 282) rfl
set_option maxRecDepth 100000 in
theorem lwM_15 : u_lay RX9 TX9 5 ∈ lw_tbl := List.mem_of_getElem? (i := 284) rfl
set_option maxRecDepth 100000 in
theorem lwM_16 : u_lay RX9 TX9 6 ∈ lw_tbl := List.mem_of_getElem? (i := 286) rfl
set_option maxRecDepth 100000 in
theorem lwM_17 : u_lay RX9 TX9 7 ∈ lw_tbl := List.mem_of_getElem? (i := 288) rfl
set_option maxRecDepth 100000 in
theorem lwM_18 : u_lay RX9 TX9 8 ∈ lw_tbl := List.mem_of_getElem? (i := 290) rfl
set_option maxRecDepth 100000 in
theorem lwM_19 : u_lay RX9 TX9 9 ∈ lw_tbl := List.mem_of_getElem? (i := 292) rfl
set_option maxRecDepth 100000 in
theorem lwM_20 : u_lay RX9 TX9 10 ∈ lw_tbl := List.mem_of_getElem? (i := 294) rfl
set_option maxRecDepth 100000 in
theorem lwM_21 : u_lay RX9 TX9 11 ∈ lw_tbl := List.mem_of_getElem? (i := 296) rfl
set_option maxRecDepth 100000 in
theorem lwM_22 : u_lay RX9 TX9 12 ∈ lw_tbl := List.mem_of_getElem? (i := 298) rfl
set_option maxRecDepth 100000 in
theorem lwM_23 : u_lay RX9 TX9 13 ∈ lw_tbl := List.mem_of_getElem? (i := 300) rfl
set_option maxRecDepth 100000 in
theorem lwM_24 : u_lay RX9 TX9 14 ∈ lw_tbl := List.mem_of_getElem? (i := 302) rfl
set_option maxRecDepth 100000 in
theorem lwM_25 : u_lay RX9 TX9 15 ∈ lw_tbl := List.mem_of_getElem? (i := 304) rfl
set_option maxRecDepth 100000 in
theorem lwM_26 : u_lay RX9 TX9 16 ∈ lw_tbl := List.mem_of_getElem? (i := 306) rfl
set_option maxRecDepth 100000 in
theorem lwM_27 : u_lay RX4 TX4 0 ∈ lw_tbl := List.mem_of_getElem? (i := 96) rfl
set_option maxRecDepth 100000 in
theorem lwM_28 : u_lay RX4 TX4 1 ∈ lw_tbl := List.mem_of_getElem? (i := 98) rfl
set_option maxRecDepth 100000 in
theorem lwM_29 : u_lay RX4 TX4 2 ∈ lw_tbl := List.mem_of_getElem? (i := 100) rfl
set_option maxRecDepth 100000 in
theorem lwM_30 : u_lay RX4 TX4 3 ∈ lw_tbl := List.mem_of_getElem? (i := 102) rfl
set_option maxRecDepth 100000 in
theorem lwM_31 : u_lay RX4 TX4 4 ∈ lw_tbl := List.mem_of_getElem? (i := 104) rfl
set_option maxRecDepth 100000 in
theorem lwM_32 : u_lay RX4 TX4 5 ∈ lw_tbl := List.mem_of_getElem? (i := 106) rfl
set_option maxRecDepth 100000 in
theorem lwM_33 : Cond.methodLink RL 17 yX10_base ∈ lw_tbl := List.mem_of_getElem? (i := 846) rfl
set_option maxRecDepth 100000 in
theorem lwM_34 : Cond.instanceMethod yX10_base ∈ lw_tbl := List.mem_of_getElem? (i := 847) rfl
set_option maxRecDepth 100000 in
theorem lwM_35 : Cond.selects RX10 yX10_base yX10_base ∈ lw_tbl := List.mem_of_getElem? (i := 848) rfl
set_option maxRecDepth 100000 in
theorem lwM_36 : Cond.initialized RX10 ∈ lw_tbl := List.mem_of_getElem? (i := 46) rfl
set_option maxRecDepth 100000 in
theorem lwM_37 : Cond.code yX10_base cX10_base 3 (some .int) ∈ lw_tbl := List.mem_of_getElem? (i := 849) rfl
set_option maxRecDepth 100000 in
theorem lwM_38 : Cond.constant RX10 88 (100000) ∈ lw_tbl := List.mem_of_getElem? (i := 850) rfl
set_option maxRecDepth 100000 in
theorem lwM_39 : Cond.fieldLink RX10 58 "CloudOfficeModel" "baseWay" "I" ∈ lw_tbl := List.mem_of_getElem? (i := 737) rfl
set_option maxRecDepth 100000 in
theorem lwM_40 : Cond.fieldLink RX10 62 "CloudOfficeModel" "slip" "I" ∈ lw_tbl := List.mem_of_getElem? (i := 738) rfl
set_option maxRecDepth 100000 in
theorem lwM_41 : Cond.methodLink RX10 89 yX10_in ∈ lw_tbl := List.mem_of_getElem? (i := 851) rfl
set_option maxRecDepth 100000 in
theorem lwM_42 : Cond.static yX10_in ∈ lw_tbl := List.mem_of_getElem? (i := 852) rfl
set_option maxRecDepth 100000 in
theorem lwM_43 : Cond.code yX10_in cX10_in 3 (some .boolean) ∈ lw_tbl := List.mem_of_getElem? (i := 853) rfl
set_option maxRecDepth 100000 in
theorem lwM_44 : u_lay RX10 TX10 0 ∈ lw_tbl := List.mem_of_getElem? (i := 773) rfl
set_option maxRecDepth 100000 in
theorem lwM_45 : u_lay RX10 TX10 1 ∈ lw_tbl := List.mem_of_getElem? (i := 775) rfl
set_option maxRecDepth 100000 in
theorem lwM_46 : u_lay RX10 TX10 2 ∈ lw_tbl := List.mem_of_getElem? (i := 777) rfl
set_option maxRecDepth 100000 in
theorem lwM_47 : u_lay RX10 TX10 3 ∈ lw_tbl := List.mem_of_getElem? (i := 779) rfl
set_option maxRecDepth 100000 in
theorem lwM_48 : u_lay RX10 TX10 4 ∈ lw_tbl := List.mem_of_getElem? (i := 781) rfl
set_option maxRecDepth 100000 in
theorem lwM_49 : u_lay RX10 TX10 5 ∈ lw_tbl := List.mem_of_getElem? (i := 783) rfl
set_option maxRecDepth 100000 in
theorem lwM_50 : u_lay RX10 TX10 6 ∈ lw_tbl := List.mem_of_getElem? (i := 785) rfl
set_option maxRecDepth 100000 in
theorem lwM_51 : u_lay RX10 TX10 7 ∈ lw_tbl := List.mem_of_getElem? (i := 787) rfl
set_option maxRecDepth 100000 in
theorem lwM_52 : u_lay RX10 TX10 8 ∈ lw_tbl := List.mem_of_getElem? (i := 789) rfl
set_option maxRecDepth 100000 in
theorem lwM_53 : u_lay RX10 TX10 9 ∈ lw_tbl := List.mem_of_getElem? (i := 791) rfl
set_option maxRecDepth 100000 in
theorem lwM_54 : u_lay RX10 TX10 10 ∈ lw_tbl := List.mem_of_getElem? (i := 793) rfl
set_option maxRecDepth 100000 in
theorem lwM_55 : u_lay RX10 TX10 11 ∈ lw_tbl := List.mem_of_getElem? (i := 795) rfl
set_option maxRecDepth 100000 in
theorem lwM_56 : u_lay RX10 TX10 12 ∈ lw_tbl := List.mem_of_getElem? (i := 797) rfl
set_option maxRecDepth 100000 in
theorem lwM_57 : u_lay RX10 TX10 13 ∈ lw_tbl := List.mem_of_getElem? (i := 799) rfl
set_option maxRecDepth 100000 in
theorem lwM_58 : u_lay RX10 TX10 14 ∈ lw_tbl := List.mem_of_getElem? (i := 801) rfl
set_option maxRecDepth 100000 in
theorem lwM_59 : u_lay RX10 TX10 15 ∈ lw_tbl := List.mem_of_getElem? (i := 803) rfl
set_option maxRecDepth 100000 in
theorem lwM_60 : u_lay RX10 TX10 16 ∈ lw_tbl := List.mem_of_getElem? (i := 805) rfl
set_option maxRecDepth 100000 in
theorem lwM_61 : u_lay RX10 TX10 17 ∈ lw_tbl := List.mem_of_getElem? (i := 807) rfl
set_option maxRecDepth 100000 in
theorem lwM_62 : u_lay RX10 TX10 18 ∈ lw_tbl := List.mem_of_getElem? (i := 809) rfl
set_option maxRecDepth 100000 in
theorem lwM_63 : u_lay RX10 TX10 19 ∈ lw_tbl := List.mem_of_getElem? (i := 811) rfl
set_option maxRecDepth 100000 in
theorem lwM_64 : u_lay RX10 TX10 20 ∈ lw_tbl := List.mem_of_getElem? (i := 813) rfl
set_option maxRecDepth 100000 in
theorem lwM_65 : u_lay RX10 TX10 21 ∈ lw_tbl := List.mem_of_getElem? (i := 815) rfl
set_option maxRecDepth 100000 in
theorem lwM_66 : u_lay RX10 TX10 22 ∈ lw_tbl := List.mem_of_getElem? (i := 817) rfl
set_option maxRecDepth 100000 in
theorem lwM_67 : u_lay RX10 TX10 23 ∈ lw_tbl := List.mem_of_getElem? (i := 819) rfl
set_option maxRecDepth 100000 in
theorem lwM_68 : u_lay RX10 TX10 24 ∈ lw_tbl := List.mem_of_getElem? (i := 821) rfl
set_option maxRecDepth 100000 in
theorem lwM_69 : u_lay RX10 TX10 25 ∈ lw_tbl := List.mem_of_getElem? (i := 823) rfl
set_option maxRecDepth 100000 in
theorem lwM_70 : u_lay RX10 TX10 26 ∈ lw_tbl := List.mem_of_getElem? (i := 825) rfl
set_option maxRecDepth 100000 in
theorem lwM_71 : u_lay RX10 TX10 27 ∈ lw_tbl := List.mem_of_getElem? (i := 827) rfl
set_option maxRecDepth 100000 in
theorem lwM_72 : u_lay RX10 TX10 28 ∈ lw_tbl := List.mem_of_getElem? (i := 829) rfl
set_option maxRecDepth 100000 in
theorem lwM_73 : u_lay RX10 TX10 29 ∈ lw_tbl := List.mem_of_getElem? (i := 831) rfl
set_option maxRecDepth 100000 in
theorem lwM_74 : u_lay RX10 TX10 30 ∈ lw_tbl := List.mem_of_getElem? (i := 833) rfl
set_option maxRecDepth 100000 in
theorem lwM_75 : u_lay RX10 TX10 31 ∈ lw_tbl := List.mem_of_getElem? (i := 835) rfl
set_option maxRecDepth 100000 in
theorem lwM_76 : u_lay RX10 TX10 32 ∈ lw_tbl := List.mem_of_getElem? (i := 837) rfl
set_option maxRecDepth 100000 in
theorem lwM_77 : u_lay RX10 TX10 33 ∈ lw_tbl := List.mem_of_getElem? (i := 839) rfl
set_option maxRecDepth 100000 in
theorem lwM_78 : u_lay RX10 TX10 34 ∈ lw_tbl := List.mem_of_getElem? (i := 841) rfl
set_option maxRecDepth 100000 in
theorem lwM_79 : u_lay RX10 TX10 35 ∈ lw_tbl := List.mem_of_getElem? (i := 843) rfl
set_option maxRecDepth 100000 in
theorem lwM_80 : Cond.methodLink RL 18 yX9_edge ∈ lw_tbl := List.mem_of_getElem? (i := 317) rfl
set_option maxRecDepth 100000 in
theorem lwM_81 : Cond.instanceMethod yX9_edge ∈ lw_tbl := List.mem_of_getElem? (i := 318) rfl
set_option maxRecDepth 100000 in
theorem lwM_82 : Cond.selects RX9 yX9_edge yX9_edge ∈ lw_tbl := List.mem_of_getElem? (i := 319) rfl
set_option maxRecDepth 100000 in
theorem lwM_83 : Cond.code yX9_edge cX9_edge 5 (some .int) ∈ lw_tbl := List.mem_of_getElem? (i := 320) rfl
set_option maxRecDepth 100000 in
theorem lwM_84 : Cond.fieldLink RX9 28 "CloudOffice" "firstEdges" "LCloudOffice$Table;" ∈ lw_tbl := List.mem_of_getElem? (i := 259) rfl
set_option maxRecDepth 100000 in
theorem lwM_85 : Cond.fieldLink RX9 32 "CloudOffice" "secondEdges" "LCloudOffice$Table;" ∈ lw_tbl := List.mem_of_getElem? (i := 260) rfl
set_option maxRecDepth 100000 in
theorem lwM_86 : Cond.methodLink RX9 116 yX9_isLean ∈ lw_tbl := List.mem_of_getElem? (i := 321) rfl
set_option maxRecDepth 100000 in
theorem lwM_87 : Cond.static yX9_isLean ∈ lw_tbl := List.mem_of_getElem? (i := 322) rfl
set_option maxRecDepth 100000 in
theorem lwM_88 : Cond.code yX9_isLean cX9_isLean 1 (some .boolean) ∈ lw_tbl := List.mem_of_getElem? (i := 323) rfl
set_option maxRecDepth 100000 in
theorem lwM_89 : Cond.methodLink RX9 120 yX7_add ∈ lw_tbl := List.mem_of_getElem? (i := 324) rfl
set_option maxRecDepth 100000 in
theorem lwM_90 : Cond.instanceMethod yX7_add ∈ lw_tbl := List.mem_of_getElem? (i := 325) rfl
set_option maxRecDepth 100000 in
theorem lwM_91 : Cond.selects RX7 yX7_add yX7_add ∈ lw_tbl := List.mem_of_getElem? (i := 326) rfl
set_option maxRecDepth 100000 in
theorem lwM_92 : Cond.initialized RX7 ∈ lw_tbl := List.mem_of_getElem? (i := 38) rfl
set_option maxRecDepth 100000 in
theorem lwM_93 : Cond.code yX7_add cX7_add 5 (some .int) ∈ lw_tbl := List.mem_of_getElem? (i := 327) rfl
set_option maxRecDepth 100000 in
theorem lwM_94 : Cond.fieldLink RX7 28 "CloudOffice$Table" "lines" "I" ∈ lw_tbl := List.mem_of_getElem? (i := 121) rfl
set_option maxRecDepth 100000 in
theorem lwM_95 : Cond.fieldLink RX7 15 "CloudOffice$Table" "most" "I" ∈ lw_tbl := List.mem_of_getElem? (i := 119) rfl
set_option maxRecDepth 100000 in
theorem lwM_96 : Cond.methodLink RX7 31 yX7_put ∈ lw_tbl := List.mem_of_getElem? (i := 328) rfl
set_option maxRecDepth 100000 in
theorem lwM_97 : Cond.instanceMethod yX7_put ∈ lw_tbl := List.mem_of_getElem? (i := 330) rfl
set_option maxRecDepth 100000 in
theorem lwM_98 : Cond.selects RX7 yX7_put yX7_put ∈ lw_tbl := List.mem_of_getElem? (i := 0) rfl
set_option maxRecDepth 100000 in
theorem lwM_99 : Cond.code yX7_put cX7_put 4 none ∈ lw_tbl := List.mem_of_getElem? (i := 331) rfl
set_option maxRecDepth 100000 in
theorem lwM_100 : Cond.fieldLink RX7 9 "CloudOffice$Table" "width" "I" ∈ lw_tbl := List.mem_of_getElem? (i := 118) rfl
set_option maxRecDepth 100000 in
theorem lwM_101 : Cond.fieldLink RX7 24 "CloudOffice$Table" "cells" "[I" ∈ lw_tbl := List.mem_of_getElem? (i := 120) rfl
set_option maxRecDepth 100000 in
theorem lwM_102 : u_lay RX7 TX7 0 ∈ lw_tbl := List.mem_of_getElem? (i := 122) rfl
set_option maxRecDepth 100000 in
theorem lwM_103 : u_lay RX7 TX7 1 ∈ lw_tbl := List.mem_of_getElem? (i := 124) rfl
set_option maxRecDepth 100000 in
theorem lwM_104 : u_lay RX7 TX7 2 ∈ lw_tbl := List.mem_of_getElem? (i := 126) rfl
set_option maxRecDepth 100000 in
theorem lwM_105 : u_lay RX7 TX7 3 ∈ lw_tbl := List.mem_of_getElem? (i := 128) rfl
set_option maxRecDepth 100000 in
theorem lwM_106 : Cond.methodLink RL 22 yX10_edge ∈ lw_tbl := List.mem_of_getElem? (i := 854) rfl
set_option maxRecDepth 100000 in
theorem lwM_107 : Cond.instanceMethod yX10_edge ∈ lw_tbl := List.mem_of_getElem? (i := 855) rfl
set_option maxRecDepth 100000 in
theorem lwM_108 : Cond.selects RX10 yX10_edge yX10_edge ∈ lw_tbl := List.mem_of_getElem? (i := 856) rfl
set_option maxRecDepth 100000 in
theorem lwM_109 : Cond.code yX10_edge cX10_edge 4 (some .int) ∈ lw_tbl := List.mem_of_getElem? (i := 857) rfl
set_option maxRecDepth 100000 in
theorem lwM_110 : Cond.fieldLink RX10 7 "CloudOfficeModel" "edges" "[I" ∈ lw_tbl := List.mem_of_getElem? (i := 745) rfl
set_option maxRecDepth 100000 in
theorem lwM_111 : Cond.fieldLink RX10 13 "CloudOfficeModel" "lean" "[I" ∈ lw_tbl := List.mem_of_getElem? (i := 746) rfl
set_option maxRecDepth 100000 in
theorem lwM_112 : Cond.fieldLink RX10 16 "CloudOfficeModel" "word" "[I" ∈ lw_tbl := List.mem_of_getElem? (i := 747) rfl
set_option maxRecDepth 100000 in
theorem lwM_113 : Cond.methodLink RX10 93 yX10_isLean ∈ lw_tbl := List.mem_of_getElem? (i := 858) rfl
set_option maxRecDepth 100000 in
theorem lwM_114 : Cond.static yX10_isLean ∈ lw_tbl := List.mem_of_getElem? (i := 859) rfl
set_option maxRecDepth 100000 in
theorem lwM_115 : Cond.code yX10_isLean cX10_isLean 1 (some .boolean) ∈ lw_tbl := List.mem_of_getElem? (i := 860) rfl
set_option maxRecDepth 100000 in
theorem lwM_116 : Cond.methodLink RL 23 yX9_clear ∈ lw_tbl := List.mem_of_getElem? (i := 332) rfl
set_option maxRecDepth 100000 in
theorem lwM_117 : Cond.instanceMethod yX9_clear ∈ lw_tbl := List.mem_of_getElem? (i := 333) rfl
set_option maxRecDepth 100000 in
theorem lwM_118 : Cond.selects RX9 yX9_clear yX9_clear ∈ lw_tbl := List.mem_of_getElem? (i := 334) rfl
set_option maxRecDepth 100000 in
theorem lwM_119 : Cond.code yX9_clear cX9_clear 1 (some .int) ∈ lw_tbl := List.mem_of_getElem? (i := 335) rfl
set_option maxRecDepth 100000 in
theorem lwM_120 : Cond.methodLink RX9 124 yX7_empty ∈ lw_tbl := List.mem_of_getElem? (i := 336) rfl
set_option maxRecDepth 100000 in
theorem lwM_121 : Cond.instanceMethod yX7_empty ∈ lw_tbl := List.mem_of_getElem? (i := 337) rfl
set_option maxRecDepth 100000 in
theorem lwM_122 : Cond.selects RX7 yX7_empty yX7_empty ∈ lw_tbl := List.mem_of_getElem? (i := 338) rfl
set_option maxRecDepth 100000 in
theorem lwM_123 : Cond.code yX7_empty cX7_empty 2 (some .int) ∈ lw_tbl := List.mem_of_getElem? (i := 339) rfl
set_option maxRecDepth 100000 in
theorem lwM_124 : Cond.methodLink RL 27 yX10_clear ∈ lw_tbl := List.mem_of_getElem? (i := 861) rfl
set_option maxRecDepth 100000 in
theorem lwM_125 : Cond.instanceMethod yX10_clear ∈ lw_tbl := List.mem_of_getElem? (i := 862) rfl
set_option maxRecDepth 100000 in
theorem lwM_126 : Cond.selects RX10 yX10_clear yX10_clear ∈ lw_tbl := List.mem_of_getElem? (i := 863) rfl
set_option maxRecDepth 100000 in
theorem lwM_127 : Cond.code yX10_clear cX10_clear 2 (some .int) ∈ lw_tbl := List.mem_of_getElem? (i := 864) rfl
set_option maxRecDepth 100000 in
theorem lwM_128 : Cond.methodLink RL 28 yX9_height ∈ lw_tbl := List.mem_of_getElem? (i := 340) rfl
set_option maxRecDepth 100000 in
theorem lwM_129 : Cond.instanceMethod yX9_height ∈ lw_tbl := List.mem_of_getElem? (i := 341) rfl
set_option maxRecDepth 100000 in
theorem lwM_130 : Cond.selects RX9 yX9_height yX9_height ∈ lw_tbl := List.mem_of_getElem? (i := 342) rfl
set_option maxRecDepth 100000 in
theorem lwM_131 : Cond.code yX9_height cX9_height 8 (some .int) ∈ lw_tbl := List.mem_of_getElem? (i := 343) rfl
set_option maxRecDepth 100000 in
theorem lwM_132 : Cond.constantLong RX9 128 (2) ∈ lw_tbl := List.mem_of_getElem? (i := 344) rfl
set_option maxRecDepth 100000 in
theorem lwM_133 : Cond.constantLong RX9 130 (1000) ∈ lw_tbl := List.mem_of_getElem? (i := 345) rfl
set_option maxRecDepth 100000 in
theorem lwM_134 : Cond.fieldLink RX9 10 "CloudOffice" "fraction" "LCloudOffice$Fraction;" ∈ lw_tbl := List.mem_of_getElem? (i := 257) rfl
set_option maxRecDepth 100000 in
theorem lwM_135 : Cond.methodLink RX9 132 yX1_put ∈ lw_tbl := List.mem_of_getElem? (i := 346) rfl
set_option maxRecDepth 100000 in
theorem lwM_136 : Cond.instanceMethod yX1_put ∈ lw_tbl := List.mem_of_getElem? (i := 347) rfl
set_option maxRecDepth 100000 in
theorem lwM_137 : Cond.selects RX1 yX1_put yX1_put ∈ lw_tbl := List.mem_of_getElem? (i := 348) rfl
set_option maxRecDepth 100000 in
theorem lwM_138 : Cond.initialized RX1 ∈ lw_tbl := List.mem_of_getElem? (i := 36) rfl
set_option maxRecDepth 100000 in
theorem lwM_139 : Cond.code yX1_put cX1_put 7 none ∈ lw_tbl := List.mem_of_getElem? (i := 349) rfl
set_option maxRecDepth 100000 in
theorem lwM_140 : Cond.methodLink RX1 16 Lib.MathLoose.abs_long.x ∈ lw_tbl := List.mem_of_getElem? (i := 350) rfl
set_option maxRecDepth 100000 in
theorem lwM_141 : Cond.static Lib.MathLoose.abs_long.x ∈ lw_tbl := List.mem_of_getElem? (i := 351) rfl
set_option maxRecDepth 100000 in
theorem lwM_142 : Cond.initialized "java/lang/Math" ∈ lw_tbl := List.mem_of_getElem? (i := 39) rfl
set_option maxRecDepth 100000 in
theorem lwM_143 : Cond.code Lib.MathLoose.abs_long.x Lib.MathLoose.abs_long.code 2 (some .long) ∈ lw_tbl := List.mem_of_getElem? (i := 352) rfl
set_option maxRecDepth 100000 in
theorem lwM_144 : Cond.fieldLink RX1 7 "CloudOffice$Fraction" "above" "J" ∈ lw_tbl := List.mem_of_getElem? (i := 62) rfl
set_option maxRecDepth 100000 in
theorem lwM_145 : Cond.fieldLink RX1 13 "CloudOffice$Fraction" "below" "J" ∈ lw_tbl := List.mem_of_getElem? (i := 64) rfl
set_option maxRecDepth 100000 in
theorem lwM_146 : Cond.methodLink RX1 22 yX1_commonDivisor ∈ lw_tbl := List.mem_of_getElem? (i := 353) rfl
set_option maxRecDepth 100000 in
theorem lwM_147 : Cond.static yX1_commonDivisor ∈ lw_tbl := List.mem_of_getElem? (i := 354) rfl
set_option maxRecDepth 100000 in
theorem lwM_148 : Cond.code yX1_commonDivisor cX1_commonDivisor 11 (some .long) ∈ lw_tbl := List.mem_of_getElem? (i := 355) rfl
set_option maxRecDepth 100000 in
theorem lwM_149 : u_lay RX1 TX1 0 ∈ lw_tbl := List.mem_of_getElem? (i := 66) rfl
set_option maxRecDepth 100000 in
theorem lwM_150 : u_lay RX1 TX1 1 ∈ lw_tbl := List.mem_of_getElem? (i := 68) rfl
set_option maxRecDepth 100000 in
theorem lwM_151 : Cond.methodLink RL 31 yX10_height ∈ lw_tbl := List.mem_of_getElem? (i := 865) rfl
set_option maxRecDepth 100000 in
theorem lwM_152 : Cond.instanceMethod yX10_height ∈ lw_tbl := List.mem_of_getElem? (i := 866) rfl
set_option maxRecDepth 100000 in
theorem lwM_153 : Cond.selects RX10 yX10_height yX10_height ∈ lw_tbl := List.mem_of_getElem? (i := 867) rfl
set_option maxRecDepth 100000 in
theorem lwM_154 : Cond.code yX10_height cX10_height 6 (some .int) ∈ lw_tbl := List.mem_of_getElem? (i := 868) rfl
set_option maxRecDepth 100000 in
theorem lwM_155 : Cond.constantLong RX10 97 (1000) ∈ lw_tbl := List.mem_of_getElem? (i := 869) rfl
set_option maxRecDepth 100000 in
theorem lwM_156 : Cond.methodLink RX10 99 yX10_tells ∈ lw_tbl := List.mem_of_getElem? (i := 870) rfl
set_option maxRecDepth 100000 in
theorem lwM_157 : Cond.instanceMethod yX10_tells ∈ lw_tbl := List.mem_of_getElem? (i := 872) rfl
set_option maxRecDepth 100000 in
theorem lwM_158 : Cond.selects RX10 yX10_tells yX10_tells ∈ lw_tbl := List.mem_of_getElem? (i := 18) rfl
set_option maxRecDepth 100000 in
theorem lwM_159 : Cond.code yX10_tells cX10_tells 7 (some .int) ∈ lw_tbl := List.mem_of_getElem? (i := 873) rfl
set_option maxRecDepth 100000 in
theorem lwM_160 : Cond.fieldLink RX10 77 "CloudOfficeModel" "above" "J" ∈ lw_tbl := List.mem_of_getElem? (i := 743) rfl
set_option maxRecDepth 100000 in
theorem lwM_161 : Cond.fieldLink RX10 81 "CloudOfficeModel" "below" "J" ∈ lw_tbl := List.mem_of_getElem? (i := 744) rfl
set_option maxRecDepth 100000 in
theorem lwM_162 : Cond.methodLink RX10 84 yX10_divisor ∈ lw_tbl := List.mem_of_getElem? (i := 874) rfl
set_option maxRecDepth 100000 in
theorem lwM_163 : Cond.static yX10_divisor ∈ lw_tbl := List.mem_of_getElem? (i := 875) rfl
set_option maxRecDepth 100000 in
theorem lwM_164 : Cond.code yX10_divisor cX10_divisor 10 (some .long) ∈ lw_tbl := List.mem_of_getElem? (i := 876) rfl
set_option maxRecDepth 100000 in
theorem lwM_165 : Cond.methodLink RL 32 yX9_part ∈ lw_tbl := List.mem_of_getElem? (i := 356) rfl
set_option maxRecDepth 100000 in
theorem lwM_166 : Cond.instanceMethod yX9_part ∈ lw_tbl := List.mem_of_getElem? (i := 357) rfl
set_option maxRecDepth 100000 in
theorem lwM_167 : Cond.selects RX9 yX9_part yX9_part ∈ lw_tbl := List.mem_of_getElem? (i := 358) rfl
set_option maxRecDepth 100000 in
theorem lwM_168 : Cond.code yX9_part cX9_part 2 (some .long) ∈ lw_tbl := List.mem_of_getElem? (i := 359) rfl
set_option maxRecDepth 100000 in
theorem lwM_169 : Cond.constantLong RX9 143 (-9000000000000000000) ∈ lw_tbl := List.mem_of_getElem? (i := 360) rfl
set_option maxRecDepth 100000 in
theorem lwM_170 : Cond.methodLink RL 36 yX10_part ∈ lw_tbl := List.mem_of_getElem? (i := 877) rfl
set_option maxRecDepth 100000 in
theorem lwM_171 : Cond.instanceMethod yX10_part ∈ lw_tbl := List.mem_of_getElem? (i := 878) rfl
set_option maxRecDepth 100000 in
theorem lwM_172 : Cond.selects RX10 yX10_part yX10_part ∈ lw_tbl := List.mem_of_getElem? (i := 879) rfl
set_option maxRecDepth 100000 in
theorem lwM_173 : Cond.code yX10_part cX10_part 2 (some .long) ∈ lw_tbl := List.mem_of_getElem? (i := 880) rfl
set_option maxRecDepth 100000 in
theorem lwM_174 : Cond.constantLong RX10 103 (-9000000000000000000) ∈ lw_tbl := List.mem_of_getElem? (i := 881) rfl
set_option maxRecDepth 100000 in
theorem lwM_175 : Cond.methodLink RL 37 yX9_floor ∈ lw_tbl := List.mem_of_getElem? (i := 361) rfl
set_option maxRecDepth 100000 in
theorem lwM_176 : Cond.instanceMethod yX9_floor ∈ lw_tbl := List.mem_of_getElem? (i := 362) rfl
set_option maxRecDepth 100000 in
theorem lwM_177 : Cond.selects RX9 yX9_floor yX9_floor ∈ lw_tbl := List.mem_of_getElem? (i := 363) rfl
set_option maxRecDepth 100000 in
theorem lwM_178 : Cond.code yX9_floor cX9_floor 1 (some .long) ∈ lw_tbl := List.mem_of_getElem? (i := 364) rfl
set_option maxRecDepth 100000 in
theorem lwM_179 : Cond.methodLink RX9 145 yX1_cutDown ∈ lw_tbl := List.mem_of_getElem? (i := 365) rfl
set_option maxRecDepth 100000 in
theorem lwM_180 : Cond.instanceMethod yX1_cutDown ∈ lw_tbl := List.mem_of_getElem? (i := 366) rfl
set_option maxRecDepth 100000 in
theorem lwM_181 : Cond.selects RX1 yX1_cutDown yX1_cutDown ∈ lw_tbl := List.mem_of_getElem? (i := 367) rfl
set_option maxRecDepth 100000 in
theorem lwM_182 : Cond.code yX1_cutDown cX1_cutDown 1 (some .long) ∈ lw_tbl := List.mem_of_getElem? (i := 368) rfl
set_option maxRecDepth 100000 in
theorem lwM_183 : Cond.methodLink RX1 26 yJ9_floorDiv_f86c9 ∈ lw_tbl := List.mem_of_getElem? (i := 369) rfl
set_option maxRecDepth 100000 in
theorem lwM_184 : Cond.static yJ9_floorDiv_f86c9 ∈ lw_tbl := List.mem_of_getElem? (i := 370) rfl
set_option maxRecDepth 100000 in
theorem lwM_185 : Cond.initialized RJ9 ∈ lw_tbl := List.mem_of_getElem? (i := 39) rfl
set_option maxRecDepth 100000 in
theorem lwM_186 : Cond.code yJ9_floorDiv_f86c9 cJ9_floorDiv_f86c9 6 (some .long) ∈ lw_tbl := List.mem_of_getElem? (i := 371) rfl
set_option maxRecDepth 100000 in
theorem lwM_187 : Cond.methodLink RL 41 yX10_floor ∈ lw_tbl := List.mem_of_getElem? (i := 882) rfl
set_option maxRecDepth 100000 in
theorem lwM_188 : Cond.instanceMethod yX10_floor ∈ lw_tbl := List.mem_of_getElem? (i := 883) rfl
set_option maxRecDepth 100000 in
theorem lwM_189 : Cond.selects RX10 yX10_floor yX10_floor ∈ lw_tbl := List.mem_of_getElem? (i := 884) rfl
set_option maxRecDepth 100000 in
theorem lwM_190 : Cond.code yX10_floor cX10_floor 3 (some .long) ∈ lw_tbl := List.mem_of_getElem? (i := 885) rfl
set_option maxRecDepth 100000 in
theorem lwM_191 : Cond.methodLink RL 42 yX9_layer ∈ lw_tbl := List.mem_of_getElem? (i := 372) rfl
set_option maxRecDepth 100000 in
theorem lwM_192 : Cond.instanceMethod yX9_layer ∈ lw_tbl := List.mem_of_getElem? (i := 373) rfl
set_option maxRecDepth 100000 in
theorem lwM_193 : Cond.selects RX9 yX9_layer yX9_layer ∈ lw_tbl := List.mem_of_getElem? (i := 374) rfl
set_option maxRecDepth 100000 in
theorem lwM_194 : Cond.code yX9_layer cX9_layer 2 (some .int) ∈ lw_tbl := List.mem_of_getElem? (i := 375) rfl
set_option maxRecDepth 100000 in
theorem lwM_195 : Cond.fieldLink RX9 35 "CloudOffice" "layers" "LCloudOffice$Table;" ∈ lw_tbl := List.mem_of_getElem? (i := 261) rfl
set_option maxRecDepth 100000 in
theorem lwM_196 : Cond.methodLink RL 46 yX10_layer ∈ lw_tbl := List.mem_of_getElem? (i := 886) rfl
set_option maxRecDepth 100000 in
theorem lwM_197 : Cond.instanceMethod yX10_layer ∈ lw_tbl := List.mem_of_getElem? (i := 887) rfl
set_option maxRecDepth 100000 in
theorem lwM_198 : Cond.selects RX10 yX10_layer yX10_layer ∈ lw_tbl := List.mem_of_getElem? (i := 888) rfl
set_option maxRecDepth 100000 in
theorem lwM_199 : Cond.code yX10_layer cX10_layer 2 (some .int) ∈ lw_tbl := List.mem_of_getElem? (i := 889) rfl
set_option maxRecDepth 100000 in
theorem lwM_200 : Cond.fieldLink RX10 105 "CloudOfficeModel" "layers" "I" ∈ lw_tbl := List.mem_of_getElem? (i := 748) rfl
set_option maxRecDepth 100000 in
theorem lwM_201 : Cond.fieldLink RX10 19 "CloudOfficeModel" "layer" "[I" ∈ lw_tbl := List.mem_of_getElem? (i := 749) rfl
set_option maxRecDepth 100000 in
theorem lwM_202 : Cond.methodLink RL 47 yX9_rules ∈ lw_tbl := List.mem_of_getElem? (i := 376) rfl
set_option maxRecDepth 100000 in
theorem lwM_203 : Cond.instanceMethod yX9_rules ∈ lw_tbl := List.mem_of_getElem? (i := 377) rfl
set_option maxRecDepth 100000 in
theorem lwM_204 : Cond.selects RX9 yX9_rules yX9_rules ∈ lw_tbl := List.mem_of_getElem? (i := 378) rfl
set_option maxRecDepth 100000 in
theorem lwM_205 : Cond.code yX9_rules cX9_rules 5 (some .int) ∈ lw_tbl := List.mem_of_getElem? (i := 379) rfl
set_option maxRecDepth 100000 in
theorem lwM_206 : Cond.methodLink RL 51 yX10_rules ∈ lw_tbl := List.mem_of_getElem? (i := 890) rfl
set_option maxRecDepth 100000 in
theorem lwM_207 : Cond.instanceMethod yX10_rules ∈ lw_tbl := List.mem_of_getElem? (i := 891) rfl
set_option maxRecDepth 100000 in
theorem lwM_208 : Cond.selects RX10 yX10_rules yX10_rules ∈ lw_tbl := List.mem_of_getElem? (i := 892) rfl
set_option maxRecDepth 100000 in
theorem lwM_209 : Cond.code yX10_rules cX10_rules 5 (some .int) ∈ lw_tbl := List.mem_of_getElem? (i := 893) rfl
set_option maxRecDepth 100000 in
theorem lwM_210 : Cond.fieldLink RX10 65 "CloudOfficeModel" "low" "I" ∈ lw_tbl := List.mem_of_getElem? (i := 739) rfl
set_option maxRecDepth 100000 in
theorem lwM_211 : Cond.fieldLink RX10 68 "CloudOfficeModel" "high" "I" ∈ lw_tbl := List.mem_of_getElem? (i := 740) rfl
set_option maxRecDepth 100000 in
theorem lwM_212 : Cond.fieldLink RX10 71 "CloudOfficeModel" "unlike" "I" ∈ lw_tbl := List.mem_of_getElem? (i := 741) rfl
set_option maxRecDepth 100000 in
theorem lwM_213 : Cond.fieldLink RX10 74 "CloudOfficeModel" "alone" "I" ∈ lw_tbl := List.mem_of_getElem? (i := 742) rfl
set_option maxRecDepth 100000 in
theorem lwM_214 : Cond.methodLink RL 52 yX9_cost ∈ lw_tbl := List.mem_of_getElem? (i := 380) rfl
set_option maxRecDepth 100000 in
theorem lwM_215 : Cond.instanceMethod yX9_cost ∈ lw_tbl := List.mem_of_getElem? (i := 381) rfl
set_option maxRecDepth 100000 in
theorem lwM_216 : Cond.selects RX9 yX9_cost yX9_cost ∈ lw_tbl := List.mem_of_getElem? (i := 382) rfl
set_option maxRecDepth 100000 in
theorem lwM_217 : Cond.code yX9_cost cX9_cost 3 (some .int) ∈ lw_tbl := List.mem_of_getElem? (i := 383) rfl
set_option maxRecDepth 100000 in
theorem lwM_218 : Cond.fieldLink RX9 61 "CloudOffice" "matching" "LCloudOffice$Matching;" ∈ lw_tbl := List.mem_of_getElem? (i := 268) rfl
set_option maxRecDepth 100000 in
theorem lwM_219 : Cond.methodLink RX9 161 yX7_has ∈ lw_tbl := List.mem_of_getElem? (i := 384) rfl
set_option maxRecDepth 100000 in
theorem lwM_220 : Cond.instanceMethod yX7_has ∈ lw_tbl := List.mem_of_getElem? (i := 385) rfl
set_option maxRecDepth 100000 in
theorem lwM_221 : Cond.selects RX7 yX7_has yX7_has ∈ lw_tbl := List.mem_of_getElem? (i := 386) rfl
set_option maxRecDepth 100000 in
theorem lwM_222 : Cond.code yX7_has cX7_has 2 (some .boolean) ∈ lw_tbl := List.mem_of_getElem? (i := 387) rfl
set_option maxRecDepth 100000 in
theorem lwM_223 : Cond.methodLink RX9 164 yX3_costOf ∈ lw_tbl := List.mem_of_getElem? (i := 388) rfl
set_option maxRecDepth 100000 in
theorem lwM_224 : Cond.instanceMethod yX3_costOf ∈ lw_tbl := List.mem_of_getElem? (i := 389) rfl
set_option maxRecDepth 100000 in
theorem lwM_225 : Cond.selects RX3 yX3_costOf yX3_costOf ∈ lw_tbl := List.mem_of_getElem? (i := 390) rfl
set_option maxRecDepth 100000 in
theorem lwM_226 : Cond.initialized RX3 ∈ lw_tbl := List.mem_of_getElem? (i := 40) rfl
set_option maxRecDepth 100000 in
theorem lwM_227 : Cond.code yX3_costOf cX3_costOf 8 (some .int) ∈ lw_tbl := List.mem_of_getElem? (i := 391) rfl
set_option maxRecDepth 100000 in
theorem lwM_228 : Cond.fieldLink RX3 15 "CloudOffice$Matching" "first" "LCloudOffice$Table;" ∈ lw_tbl := List.mem_of_getElem? (i := 139) rfl
set_option maxRecDepth 100000 in
theorem lwM_229 : Cond.fieldLink RX3 19 "CloudOffice$Matching" "second" "LCloudOffice$Table;" ∈ lw_tbl := List.mem_of_getElem? (i := 140) rfl
set_option maxRecDepth 100000 in
theorem lwM_230 : Cond.constantLong RX3 39 (1000) ∈ lw_tbl := List.mem_of_getElem? (i := 396) rfl
set_option maxRecDepth 100000 in
theorem lwM_231 : Cond.fieldLink RX3 9 "CloudOffice$Matching" "settings" "LCloudOffice$Settings;" ∈ lw_tbl := List.mem_of_getElem? (i := 138) rfl
set_option maxRecDepth 100000 in
theorem lwM_232 : Cond.methodLink RX3 33 yX7_at ∈ lw_tbl := List.mem_of_getElem? (i := 392) rfl
set_option maxRecDepth 100000 in
theorem lwM_233 : Cond.instanceMethod yX7_at ∈ lw_tbl := List.mem_of_getElem? (i := 393) rfl
set_option maxRecDepth 100000 in
theorem lwM_234 : Cond.selects RX7 yX7_at yX7_at ∈ lw_tbl := List.mem_of_getElem? (i := 394) rfl
set_option maxRecDepth 100000 in
theorem lwM_235 : Cond.code yX7_at cX7_at 4 (some .int) ∈ lw_tbl := List.mem_of_getElem? (i := 395) rfl
set_option maxRecDepth 100000 in
theorem lwM_236 : Cond.methodLink RX3 56 yX3_wayToLayer ∈ lw_tbl := List.mem_of_getElem? (i := 397) rfl
set_option maxRecDepth 100000 in
theorem lwM_237 : Cond.instanceMethod yX3_wayToLayer ∈ lw_tbl := List.mem_of_getElem? (i := 399) rfl
set_option maxRecDepth 100000 in
theorem lwM_238 : Cond.selects RX3 yX3_wayToLayer yX3_wayToLayer ∈ lw_tbl := List.mem_of_getElem? (i := 1) rfl
set_option maxRecDepth 100000 in
theorem lwM_239 : Cond.code yX3_wayToLayer cX3_wayToLayer 4 (some .int) ∈ lw_tbl := List.mem_of_getElem? (i := 400) rfl
set_option maxRecDepth 100000 in
theorem lwM_240 : Cond.fieldLink RX3 22 "CloudOffice$Matching" "layers" "LCloudOffice$Table;" ∈ lw_tbl := List.mem_of_getElem? (i := 141) rfl
set_option maxRecDepth 100000 in
theorem lwM_241 : Cond.constant RX3 64 (100000) ∈ lw_tbl := List.mem_of_getElem? (i := 405) rfl
set_option maxRecDepth 100000 in
theorem lwM_242 : Cond.methodLink RX3 65 Lib.Math.abs.name ∈ lw_tbl := List.mem_of_getElem? (i := 406) rfl
set_option maxRecDepth 100000 in
theorem lwM_243 : Cond.static Lib.Math.abs.name ∈ lw_tbl := List.mem_of_getElem? (i := 407) rfl
set_option maxRecDepth 100000 in
theorem lwM_244 : Cond.code Lib.Math.abs.name Lib.Math.abs.code 1 (some .int) ∈ lw_tbl := List.mem_of_getElem? (i := 408) rfl
set_option maxRecDepth 100000 in
theorem lwM_245 : Cond.methodLink RX3 70 Lib.Math.min.name ∈ lw_tbl := List.mem_of_getElem? (i := 409) rfl
set_option maxRecDepth 100000 in
theorem lwM_246 : Cond.static Lib.Math.min.name ∈ lw_tbl := List.mem_of_getElem? (i := 410) rfl
set_option maxRecDepth 100000 in
theorem lwM_247 : Cond.code Lib.Math.min.name Lib.Math.min.code 2 (some .int) ∈ lw_tbl := List.mem_of_getElem? (i := 411) rfl
set_option maxRecDepth 100000 in
theorem lwM_248 : Cond.methodLink RX3 60 yX7_size ∈ lw_tbl := List.mem_of_getElem? (i := 401) rfl
set_option maxRecDepth 100000 in
theorem lwM_249 : Cond.instanceMethod yX7_size ∈ lw_tbl := List.mem_of_getElem? (i := 402) rfl
set_option maxRecDepth 100000 in
theorem lwM_250 : Cond.selects RX7 yX7_size yX7_size ∈ lw_tbl := List.mem_of_getElem? (i := 403) rfl
set_option maxRecDepth 100000 in
theorem lwM_251 : Cond.code yX7_size cX7_size 1 (some .int) ∈ lw_tbl := List.mem_of_getElem? (i := 404) rfl
set_option maxRecDepth 100000 in
theorem lwM_252 : u_lay RX3 TX3 0 ∈ lw_tbl := List.mem_of_getElem? (i := 144) rfl
set_option maxRecDepth 100000 in
theorem lwM_253 : u_lay RX3 TX3 1 ∈ lw_tbl := List.mem_of_getElem? (i := 146) rfl
set_option maxRecDepth 100000 in
theorem lwM_254 : u_lay RX3 TX3 2 ∈ lw_tbl := List.mem_of_getElem? (i := 148) rfl
set_option maxRecDepth 100000 in
theorem lwM_255 : u_lay RX3 TX3 3 ∈ lw_tbl := List.mem_of_getElem? (i := 150) rfl
set_option maxRecDepth 100000 in
theorem lwM_256 : u_lay RX3 TX3 4 ∈ lw_tbl := List.mem_of_getElem? (i := 152) rfl
set_option maxRecDepth 100000 in
theorem lwM_257 : u_lay RX3 TX3 5 ∈ lw_tbl := List.mem_of_getElem? (i := 154) rfl
set_option maxRecDepth 100000 in
theorem lwM_258 : Cond.methodLink RL 55 yX10_cost ∈ lw_tbl := List.mem_of_getElem? (i := 894) rfl
set_option maxRecDepth 100000 in
theorem lwM_259 : Cond.instanceMethod yX10_cost ∈ lw_tbl := List.mem_of_getElem? (i := 895) rfl
set_option maxRecDepth 100000 in
theorem lwM_260 : Cond.selects RX10 yX10_cost yX10_cost ∈ lw_tbl := List.mem_of_getElem? (i := 896) rfl
set_option maxRecDepth 100000 in
theorem lwM_261 : Cond.code yX10_cost cX10_cost 3 (some .int) ∈ lw_tbl := List.mem_of_getElem? (i := 897) rfl
set_option maxRecDepth 100000 in
theorem lwM_262 : Cond.methodLink RX10 108 yX10_costOf ∈ lw_tbl := List.mem_of_getElem? (i := 898) rfl
set_option maxRecDepth 100000 in
theorem lwM_263 : Cond.instanceMethod yX10_costOf ∈ lw_tbl := List.mem_of_getElem? (i := 900) rfl
set_option maxRecDepth 100000 in
theorem lwM_264 : Cond.selects RX10 yX10_costOf yX10_costOf ∈ lw_tbl := List.mem_of_getElem? (i := 19) rfl
set_option maxRecDepth 100000 in
theorem lwM_265 : Cond.code yX10_costOf cX10_costOf 12 (some .int) ∈ lw_tbl := List.mem_of_getElem? (i := 901) rfl
set_option maxRecDepth 100000 in
theorem lwM_266 : Cond.methodLink RL 56 yX9_matched ∈ lw_tbl := List.mem_of_getElem? (i := 412) rfl
set_option maxRecDepth 100000 in
theorem lwM_267 : Cond.instanceMethod yX9_matched ∈ lw_tbl := List.mem_of_getElem? (i := 413) rfl
set_option maxRecDepth 100000 in
theorem lwM_268 : Cond.selects RX9 yX9_matched yX9_matched ∈ lw_tbl := List.mem_of_getElem? (i := 414) rfl
set_option maxRecDepth 100000 in
theorem lwM_269 : Cond.code yX9_matched cX9_matched 2 (some .int) ∈ lw_tbl := List.mem_of_getElem? (i := 415) rfl
set_option maxRecDepth 100000 in
theorem lwM_270 : Cond.methodLink RX9 168 yX3_bestKey ∈ lw_tbl := List.mem_of_getElem? (i := 416) rfl
set_option maxRecDepth 100000 in
theorem lwM_271 : Cond.instanceMethod yX3_bestKey ∈ lw_tbl := List.mem_of_getElem? (i := 417) rfl
set_option maxRecDepth 100000 in
theorem lwM_272 : Cond.selects RX3 yX3_bestKey yX3_bestKey ∈ lw_tbl := List.mem_of_getElem? (i := 418) rfl
set_option maxRecDepth 100000 in
theorem lwM_273 : Cond.code yX3_bestKey cX3_bestKey 2 (some .long) ∈ lw_tbl := List.mem_of_getElem? (i := 419) rfl
set_option maxRecDepth 100000 in
theorem lwM_274 : Cond.fieldLink RX3 29 "CloudOffice$Matching" "keys" "[J" ∈ lw_tbl := List.mem_of_getElem? (i := 143) rfl
set_option maxRecDepth 100000 in
theorem lwM_275 : Cond.constantLong RX3 73 (1152921504606846976) ∈ lw_tbl := List.mem_of_getElem? (i := 420) rfl
set_option maxRecDepth 100000 in
theorem lwM_276 : Cond.methodLink RX3 75 yX3_fillCosts ∈ lw_tbl := List.mem_of_getElem? (i := 421) rfl
set_option maxRecDepth 100000 in
theorem lwM_277 : Cond.instanceMethod yX3_fillCosts ∈ lw_tbl := List.mem_of_getElem? (i := 423) rfl
set_option maxRecDepth 100000 in
theorem lwM_278 : Cond.selects RX3 yX3_fillCosts yX3_fillCosts ∈ lw_tbl := List.mem_of_getElem? (i := 2) rfl
set_option maxRecDepth 100000 in
theorem lwM_279 : Cond.code yX3_fillCosts cX3_fillCosts 3 none ∈ lw_tbl := List.mem_of_getElem? (i := 424) rfl
set_option maxRecDepth 100000 in
theorem lwM_280 : Cond.fieldLink RX3 25 "CloudOffice$Matching" "costs" "[I" ∈ lw_tbl := List.mem_of_getElem? (i := 142) rfl
set_option maxRecDepth 100000 in
theorem lwM_281 : Cond.methodLink RX3 86 yX3_costOf ∈ lw_tbl := List.mem_of_getElem? (i := 425) rfl
set_option maxRecDepth 100000 in
theorem lwM_282 : Cond.methodLink RX3 79 yX3_bringIn ∈ lw_tbl := List.mem_of_getElem? (i := 426) rfl
set_option maxRecDepth 100000 in
theorem lwM_283 : Cond.instanceMethod yX3_bringIn ∈ lw_tbl := List.mem_of_getElem? (i := 428) rfl
set_option maxRecDepth 100000 in
theorem lwM_284 : Cond.selects RX3 yX3_bringIn yX3_bringIn ∈ lw_tbl := List.mem_of_getElem? (i := 3) rfl
set_option maxRecDepth 100000 in
theorem lwM_285 : Cond.code yX3_bringIn cX3_bringIn 8 none ∈ lw_tbl := List.mem_of_getElem? (i := 429) rfl
set_option maxRecDepth 100000 in
theorem lwM_286 : Cond.methodLink RX3 92 Lib.MathLoose.min_long.x ∈ lw_tbl := List.mem_of_getElem? (i := 430) rfl
set_option maxRecDepth 100000 in
theorem lwM_287 : Cond.static Lib.MathLoose.min_long.x ∈ lw_tbl := List.mem_of_getElem? (i := 431) rfl
set_option maxRecDepth 100000 in
theorem lwM_288 : Cond.code Lib.MathLoose.min_long.x Lib.MathLoose.min_long.code 4 (some .long) ∈ lw_tbl := List.mem_of_getElem? (i := 432) rfl
set_option maxRecDepth 100000 in
theorem lwM_289 : Cond.methodLink RX3 82 yX3_leastWithTheSecondsAlone ∈ lw_tbl := List.mem_of_getElem? (i := 433) rfl
set_option maxRecDepth 100000 in
theorem lwM_290 : Cond.instanceMethod yX3_leastWithTheSecondsAlone ∈ lw_tbl := List.mem_of_getElem? (i := 435) rfl
set_option maxRecDepth 100000 in
theorem lwM_291 : Cond.selects RX3 yX3_leastWithTheSecondsAlone yX3_leastWithTheSecondsAlone ∈ lw_tbl := List.mem_of_getElem? (i := 4) rfl
set_option maxRecDepth 100000 in
theorem lwM_292 : Cond.code yX3_leastWithTheSecondsAlone cX3_leastWithTheSecondsAlone 6 (some .long) ∈ lw_tbl := List.mem_of_getElem? (i := 436) rfl
set_option maxRecDepth 100000 in
theorem lwM_293 : Cond.methodLink RX3 95 yJ6_bitCount_0f7a4 ∈ lw_tbl := List.mem_of_getElem? (i := 437) rfl
set_option maxRecDepth 100000 in
theorem lwM_294 : Cond.static yJ6_bitCount_0f7a4 ∈ lw_tbl := List.mem_of_getElem? (i := 438) rfl
set_option maxRecDepth 100000 in
theorem lwM_295 : Cond.initialized RJ6 ∈ lw_tbl := List.mem_of_getElem? (i := 47) rfl
set_option maxRecDepth 100000 in
theorem lwM_296 : Cond.code yJ6_bitCount_0f7a4 cJ6_bitCount_0f7a4 1 (some .int) ∈ lw_tbl := List.mem_of_getElem? (i := 439) rfl
set_option maxRecDepth 100000 in
theorem lwM_297 : Cond.constant RJ6 265 (1431655765) ∈ lw_tbl := List.mem_of_getElem? (i := 440) rfl
set_option maxRecDepth 100000 in
theorem lwM_298 : Cond.constant RJ6 266 (858993459) ∈ lw_tbl := List.mem_of_getElem? (i := 441) rfl
set_option maxRecDepth 100000 in
theorem lwM_299 : Cond.constant RJ6 267 (252645135) ∈ lw_tbl := List.mem_of_getElem? (i := 442) rfl
set_option maxRecDepth 100000 in
theorem lwM_300 : Cond.methodLink RX9 171 yX3_sumOf ∈ lw_tbl := List.mem_of_getElem? (i := 443) rfl
set_option maxRecDepth 100000 in
theorem lwM_301 : Cond.instanceMethod yX3_sumOf ∈ lw_tbl := List.mem_of_getElem? (i := 444) rfl
set_option maxRecDepth 100000 in
theorem lwM_302 : Cond.selects RX3 yX3_sumOf yX3_sumOf ∈ lw_tbl := List.mem_of_getElem? (i := 445) rfl
set_option maxRecDepth 100000 in
theorem lwM_303 : Cond.code yX3_sumOf cX3_sumOf 3 (some .int) ∈ lw_tbl := List.mem_of_getElem? (i := 446) rfl
set_option maxRecDepth 100000 in
theorem lwM_304 : Cond.methodLink RX9 175 yX3_partnerOf ∈ lw_tbl := List.mem_of_getElem? (i := 447) rfl
set_option maxRecDepth 100000 in
theorem lwM_305 : Cond.instanceMethod yX3_partnerOf ∈ lw_tbl := List.mem_of_getElem? (i := 448) rfl
set_option maxRecDepth 100000 in
theorem lwM_306 : Cond.selects RX3 yX3_partnerOf yX3_partnerOf ∈ lw_tbl := List.mem_of_getElem? (i := 449) rfl
set_option maxRecDepth 100000 in
theorem lwM_307 : Cond.code yX3_partnerOf cX3_partnerOf 4 (some .int) ∈ lw_tbl := List.mem_of_getElem? (i := 450) rfl
set_option maxRecDepth 100000 in
theorem lwM_308 : Cond.constantLong RX3 100 (15) ∈ lw_tbl := List.mem_of_getElem? (i := 451) rfl
set_option maxRecDepth 100000 in
theorem lwM_309 : Cond.methodLink RL 59 yX10_matched ∈ lw_tbl := List.mem_of_getElem? (i := 902) rfl
set_option maxRecDepth 100000 in
theorem lwM_310 : Cond.instanceMethod yX10_matched ∈ lw_tbl := List.mem_of_getElem? (i := 903) rfl
set_option maxRecDepth 100000 in
theorem lwM_311 : Cond.selects RX10 yX10_matched yX10_matched ∈ lw_tbl := List.mem_of_getElem? (i := 904) rfl
set_option maxRecDepth 100000 in
theorem lwM_312 : Cond.code yX10_matched cX10_matched 6 (some .int) ∈ lw_tbl := List.mem_of_getElem? (i := 905) rfl
set_option maxRecDepth 100000 in
theorem lwM_313 : Cond.fieldLink RX10 22 "CloudOfficeModel" "least" "[I" ∈ lw_tbl := List.mem_of_getElem? (i := 750) rfl
set_option maxRecDepth 100000 in
theorem lwM_314 : Cond.methodLink RX10 116 yX10_findLeast ∈ lw_tbl := List.mem_of_getElem? (i := 906) rfl
set_option maxRecDepth 100000 in
theorem lwM_315 : Cond.instanceMethod yX10_findLeast ∈ lw_tbl := List.mem_of_getElem? (i := 908) rfl
set_option maxRecDepth 100000 in
theorem lwM_316 : Cond.selects RX10 yX10_findLeast yX10_findLeast ∈ lw_tbl := List.mem_of_getElem? (i := 20) rfl
set_option maxRecDepth 100000 in
theorem lwM_317 : Cond.code yX10_findLeast cX10_findLeast 8 none ∈ lw_tbl := List.mem_of_getElem? (i := 909) rfl
set_option maxRecDepth 100000 in
theorem lwM_318 : Cond.methodLink RX10 112 yX10_sizeOf ∈ lw_tbl := List.mem_of_getElem? (i := 910) rfl
set_option maxRecDepth 100000 in
theorem lwM_319 : Cond.static yX10_sizeOf ∈ lw_tbl := List.mem_of_getElem? (i := 911) rfl
set_option maxRecDepth 100000 in
theorem lwM_320 : Cond.code yX10_sizeOf cX10_sizeOf 3 (some .int) ∈ lw_tbl := List.mem_of_getElem? (i := 912) rfl
set_option maxRecDepth 100000 in
theorem lwM_321 : Cond.methodLink RL 60 yX9_sight ∈ lw_tbl := List.mem_of_getElem? (i := 452) rfl
set_option maxRecDepth 100000 in
theorem lwM_322 : Cond.instanceMethod yX9_sight ∈ lw_tbl := List.mem_of_getElem? (i := 453) rfl
set_option maxRecDepth 100000 in
theorem lwM_323 : Cond.selects RX9 yX9_sight yX9_sight ∈ lw_tbl := List.mem_of_getElem? (i := 454) rfl
set_option maxRecDepth 100000 in
theorem lwM_324 : Cond.code yX9_sight cX9_sight 5 (some .int) ∈ lw_tbl := List.mem_of_getElem? (i := 455) rfl
set_option maxRecDepth 100000 in
theorem lwM_325 : Cond.fieldLink RX9 38 "CloudOffice" "sights" "LCloudOffice$Table;" ∈ lw_tbl := List.mem_of_getElem? (i := 262) rfl
set_option maxRecDepth 100000 in
theorem lwM_326 : Cond.methodLink RX9 179 yX9_isPuffAndMinute ∈ lw_tbl := List.mem_of_getElem? (i := 456) rfl
set_option maxRecDepth 100000 in
theorem lwM_327 : Cond.static yX9_isPuffAndMinute ∈ lw_tbl := List.mem_of_getElem? (i := 457) rfl
set_option maxRecDepth 100000 in
theorem lwM_328 : Cond.code yX9_isPuffAndMinute cX9_isPuffAndMinute 2 (some .boolean) ∈ lw_tbl := List.mem_of_getElem? (i := 458) rfl
set_option maxRecDepth 100000 in
theorem lwM_329 : Cond.methodLink RX9 183 yX7_addNumbered ∈ lw_tbl := List.mem_of_getElem? (i := 459) rfl
set_option maxRecDepth 100000 in
theorem lwM_330 : Cond.instanceMethod yX7_addNumbered ∈ lw_tbl := List.mem_of_getElem? (i := 460) rfl
set_option maxRecDepth 100000 in
theorem lwM_331 : Cond.selects RX7 yX7_addNumbered yX7_addNumbered ∈ lw_tbl := List.mem_of_getElem? (i := 461) rfl
set_option maxRecDepth 100000 in
theorem lwM_332 : Cond.code yX7_addNumbered cX7_addNumbered 6 (some .int) ∈ lw_tbl := List.mem_of_getElem? (i := 462) rfl
set_option maxRecDepth 100000 in
theorem lwM_333 : Cond.methodLink RX7 35 yX7_add ∈ lw_tbl := List.mem_of_getElem? (i := 463) rfl
set_option maxRecDepth 100000 in
theorem lwM_334 : Cond.methodLink RL 63 yX10_sight ∈ lw_tbl := List.mem_of_getElem? (i := 913) rfl
set_option maxRecDepth 100000 in
theorem lwM_335 : Cond.instanceMethod yX10_sight ∈ lw_tbl := List.mem_of_getElem? (i := 914) rfl
set_option maxRecDepth 100000 in
theorem lwM_336 : Cond.selects RX10 yX10_sight yX10_sight ∈ lw_tbl := List.mem_of_getElem? (i := 915) rfl
set_option maxRecDepth 100000 in
theorem lwM_337 : Cond.code yX10_sight cX10_sight 6 (some .int) ∈ lw_tbl := List.mem_of_getElem? (i := 916) rfl
set_option maxRecDepth 100000 in
theorem lwM_338 : Cond.fieldLink RX10 119 "CloudOfficeModel" "sights" "I" ∈ lw_tbl := List.mem_of_getElem? (i := 751) rfl
set_option maxRecDepth 100000 in
theorem lwM_339 : Cond.fieldLink RX10 25 "CloudOfficeModel" "sight" "[I" ∈ lw_tbl := List.mem_of_getElem? (i := 752) rfl
set_option maxRecDepth 100000 in
theorem lwM_340 : Cond.methodLink RL 64 yX9_shadow ∈ lw_tbl := List.mem_of_getElem? (i := 464) rfl
set_option maxRecDepth 100000 in
theorem lwM_341 : Cond.instanceMethod yX9_shadow ∈ lw_tbl := List.mem_of_getElem? (i := 465) rfl
set_option maxRecDepth 100000 in
theorem lwM_342 : Cond.selects RX9 yX9_shadow yX9_shadow ∈ lw_tbl := List.mem_of_getElem? (i := 466) rfl
set_option maxRecDepth 100000 in
theorem lwM_343 : Cond.code yX9_shadow cX9_shadow 5 (some .int) ∈ lw_tbl := List.mem_of_getElem? (i := 467) rfl
set_option maxRecDepth 100000 in
theorem lwM_344 : Cond.constant RX9 186 (-1000000) ∈ lw_tbl := List.mem_of_getElem? (i := 468) rfl
set_option maxRecDepth 100000 in
theorem lwM_345 : Cond.constant RX9 187 (1000000) ∈ lw_tbl := List.mem_of_getElem? (i := 469) rfl
set_option maxRecDepth 100000 in
theorem lwM_346 : Cond.fieldLink RX9 41 "CloudOffice" "shadows" "LCloudOffice$Table;" ∈ lw_tbl := List.mem_of_getElem? (i := 263) rfl
set_option maxRecDepth 100000 in
theorem lwM_347 : Cond.methodLink RL 67 yX10_shadow ∈ lw_tbl := List.mem_of_getElem? (i := 917) rfl
set_option maxRecDepth 100000 in
theorem lwM_348 : Cond.instanceMethod yX10_shadow ∈ lw_tbl := List.mem_of_getElem? (i := 918) rfl
set_option maxRecDepth 100000 in
theorem lwM_349 : Cond.selects RX10 yX10_shadow yX10_shadow ∈ lw_tbl := List.mem_of_getElem? (i := 919) rfl
set_option maxRecDepth 100000 in
theorem lwM_350 : Cond.code yX10_shadow cX10_shadow 6 (some .int) ∈ lw_tbl := List.mem_of_getElem? (i := 920) rfl
set_option maxRecDepth 100000 in
theorem lwM_351 : Cond.constant RX10 122 (-1000000) ∈ lw_tbl := List.mem_of_getElem? (i := 921) rfl
set_option maxRecDepth 100000 in
theorem lwM_352 : Cond.constant RX10 123 (1000000) ∈ lw_tbl := List.mem_of_getElem? (i := 922) rfl
set_option maxRecDepth 100000 in
theorem lwM_353 : Cond.fieldLink RX10 124 "CloudOfficeModel" "shadows" "I" ∈ lw_tbl := List.mem_of_getElem? (i := 753) rfl
set_option maxRecDepth 100000 in
theorem lwM_354 : Cond.fieldLink RX10 28 "CloudOfficeModel" "shadow" "[I" ∈ lw_tbl := List.mem_of_getElem? (i := 754) rfl
set_option maxRecDepth 100000 in
theorem lwM_355 : Cond.methodLink RL 68 yX9_speed ∈ lw_tbl := List.mem_of_getElem? (i := 470) rfl
set_option maxRecDepth 100000 in
theorem lwM_356 : Cond.instanceMethod yX9_speed ∈ lw_tbl := List.mem_of_getElem? (i := 471) rfl
set_option maxRecDepth 100000 in
theorem lwM_357 : Cond.selects RX9 yX9_speed yX9_speed ∈ lw_tbl := List.mem_of_getElem? (i := 472) rfl
set_option maxRecDepth 100000 in
theorem lwM_358 : Cond.code yX9_speed cX9_speed 4 (some .int) ∈ lw_tbl := List.mem_of_getElem? (i := 473) rfl
set_option maxRecDepth 100000 in
theorem lwM_359 : Cond.fieldLink RX9 70 "CloudOffice" "speeds" "LCloudOffice$Speeds;" ∈ lw_tbl := List.mem_of_getElem? (i := 269) rfl
set_option maxRecDepth 100000 in
theorem lwM_360 : Cond.methodLink RX9 188 yX6_areOfOnePuff ∈ lw_tbl := List.mem_of_getElem? (i := 474) rfl
set_option maxRecDepth 100000 in
theorem lwM_361 : Cond.static yX6_areOfOnePuff ∈ lw_tbl := List.mem_of_getElem? (i := 475) rfl
set_option maxRecDepth 100000 in
theorem lwM_362 : Cond.initialized RX6 ∈ lw_tbl := List.mem_of_getElem? (i := 41) rfl
set_option maxRecDepth 100000 in
theorem lwM_363 : Cond.code yX6_areOfOnePuff cX6_areOfOnePuff 3 (some .boolean) ∈ lw_tbl := List.mem_of_getElem? (i := 476) rfl
set_option maxRecDepth 100000 in
theorem lwM_364 : Cond.methodLink RX6 36 yX7_has ∈ lw_tbl := List.mem_of_getElem? (i := 477) rfl
set_option maxRecDepth 100000 in
theorem lwM_365 : Cond.methodLink RX6 42 yX7_at ∈ lw_tbl := List.mem_of_getElem? (i := 478) rfl
set_option maxRecDepth 100000 in
theorem lwM_366 : Cond.methodLink RX9 192 yX6_putSightSpeed ∈ lw_tbl := List.mem_of_getElem? (i := 479) rfl
set_option maxRecDepth 100000 in
theorem lwM_367 : Cond.instanceMethod yX6_putSightSpeed ∈ lw_tbl := List.mem_of_getElem? (i := 480) rfl
set_option maxRecDepth 100000 in
theorem lwM_368 : Cond.selects RX6 yX6_putSightSpeed yX6_putSightSpeed ∈ lw_tbl := List.mem_of_getElem? (i := 481) rfl
set_option maxRecDepth 100000 in
theorem lwM_369 : Cond.code yX6_putSightSpeed cX6_putSightSpeed 14 (some .boolean) ∈ lw_tbl := List.mem_of_getElem? (i := 482) rfl
set_option maxRecDepth 100000 in
theorem lwM_370 : Cond.fieldLink RX6 13 "CloudOffice$Speeds" "sights" "LCloudOffice$Table;" ∈ lw_tbl := List.mem_of_getElem? (i := 167) rfl
set_option maxRecDepth 100000 in
theorem lwM_371 : Cond.fieldLink RX6 7 "CloudOffice$Speeds" "settings" "LCloudOffice$Settings;" ∈ lw_tbl := List.mem_of_getElem? (i := 166) rfl
set_option maxRecDepth 100000 in
theorem lwM_372 : Cond.methodLink RX6 52 yX6_gapOf ∈ lw_tbl := List.mem_of_getElem? (i := 483) rfl
set_option maxRecDepth 100000 in
theorem lwM_373 : Cond.instanceMethod yX6_gapOf ∈ lw_tbl := List.mem_of_getElem? (i := 485) rfl
set_option maxRecDepth 100000 in
theorem lwM_374 : Cond.selects RX6 yX6_gapOf yX6_gapOf ∈ lw_tbl := List.mem_of_getElem? (i := 5) rfl
set_option maxRecDepth 100000 in
theorem lwM_375 : Cond.code yX6_gapOf cX6_gapOf 2 (some .int) ∈ lw_tbl := List.mem_of_getElem? (i := 486) rfl
set_option maxRecDepth 100000 in
theorem lwM_376 : Cond.methodLink RX6 55 yX6_haveSpan ∈ lw_tbl := List.mem_of_getElem? (i := 487) rfl
set_option maxRecDepth 100000 in
theorem lwM_377 : Cond.instanceMethod yX6_haveSpan ∈ lw_tbl := List.mem_of_getElem? (i := 488) rfl
set_option maxRecDepth 100000 in
theorem lwM_378 : Cond.selects RX6 yX6_haveSpan yX6_haveSpan ∈ lw_tbl := List.mem_of_getElem? (i := 489) rfl
set_option maxRecDepth 100000 in
theorem lwM_379 : Cond.code yX6_haveSpan cX6_haveSpan 4 (some .boolean) ∈ lw_tbl := List.mem_of_getElem? (i := 490) rfl
set_option maxRecDepth 100000 in
theorem lwM_380 : Cond.methodLink RX6 59 yX6_isLater ∈ lw_tbl := List.mem_of_getElem? (i := 491) rfl
set_option maxRecDepth 100000 in
theorem lwM_381 : Cond.static yX6_isLater ∈ lw_tbl := List.mem_of_getElem? (i := 492) rfl
set_option maxRecDepth 100000 in
theorem lwM_382 : Cond.code yX6_isLater cX6_isLater 3 (some .boolean) ∈ lw_tbl := List.mem_of_getElem? (i := 493) rfl
set_option maxRecDepth 100000 in
theorem lwM_383 : Cond.methodLink RX6 63 yX6_sideOf ∈ lw_tbl := List.mem_of_getElem? (i := 494) rfl
set_option maxRecDepth 100000 in
theorem lwM_384 : Cond.static yX6_sideOf ∈ lw_tbl := List.mem_of_getElem? (i := 495) rfl
set_option maxRecDepth 100000 in
theorem lwM_385 : Cond.code yX6_sideOf cX6_sideOf 1 (some .int) ∈ lw_tbl := List.mem_of_getElem? (i := 496) rfl
set_option maxRecDepth 100000 in
theorem lwM_386 : Cond.methodLink RX6 66 yX6_gapAt ∈ lw_tbl := List.mem_of_getElem? (i := 497) rfl
set_option maxRecDepth 100000 in
theorem lwM_387 : Cond.instanceMethod yX6_gapAt ∈ lw_tbl := List.mem_of_getElem? (i := 499) rfl
set_option maxRecDepth 100000 in
theorem lwM_388 : Cond.selects RX6 yX6_gapAt yX6_gapAt ∈ lw_tbl := List.mem_of_getElem? (i := 6) rfl
set_option maxRecDepth 100000 in
theorem lwM_389 : Cond.code yX6_gapAt cX6_gapAt 5 (some .long) ∈ lw_tbl := List.mem_of_getElem? (i := 500) rfl
set_option maxRecDepth 100000 in
theorem lwM_390 : Cond.methodLink RX6 46 Lib.Math.abs.name ∈ lw_tbl := List.mem_of_getElem? (i := 505) rfl
set_option maxRecDepth 100000 in
theorem lwM_391 : Cond.constantLong RX6 102 (2) ∈ lw_tbl := List.mem_of_getElem? (i := 506) rfl
set_option maxRecDepth 100000 in
theorem lwM_392 : Cond.methodLink RX6 70 yX6_leanAt ∈ lw_tbl := List.mem_of_getElem? (i := 501) rfl
set_option maxRecDepth 100000 in
theorem lwM_393 : Cond.instanceMethod yX6_leanAt ∈ lw_tbl := List.mem_of_getElem? (i := 503) rfl
set_option maxRecDepth 100000 in
theorem lwM_394 : Cond.selects RX6 yX6_leanAt yX6_leanAt ∈ lw_tbl := List.mem_of_getElem? (i := 7) rfl
set_option maxRecDepth 100000 in
theorem lwM_395 : Cond.code yX6_leanAt cX6_leanAt 3 (some .long) ∈ lw_tbl := List.mem_of_getElem? (i := 504) rfl
set_option maxRecDepth 100000 in
theorem lwM_396 : Cond.methodLink RX6 79 yX6_minutesBetween ∈ lw_tbl := List.mem_of_getElem? (i := 507) rfl
set_option maxRecDepth 100000 in
theorem lwM_397 : Cond.static yX6_minutesBetween ∈ lw_tbl := List.mem_of_getElem? (i := 508) rfl
set_option maxRecDepth 100000 in
theorem lwM_398 : Cond.code yX6_minutesBetween cX6_minutesBetween 3 (some .int) ∈ lw_tbl := List.mem_of_getElem? (i := 509) rfl
set_option maxRecDepth 100000 in
theorem lwM_399 : Cond.methodLink RX6 83 yX1_put ∈ lw_tbl := List.mem_of_getElem? (i := 510) rfl
set_option maxRecDepth 100000 in
theorem lwM_400 : u_lay RX6 TX6 0 ∈ lw_tbl := List.mem_of_getElem? (i := 173) rfl
set_option maxRecDepth 100000 in
theorem lwM_401 : u_lay RX6 TX6 1 ∈ lw_tbl := List.mem_of_getElem? (i := 175) rfl
set_option maxRecDepth 100000 in
theorem lwM_402 : u_lay RX6 TX6 2 ∈ lw_tbl := List.mem_of_getElem? (i := 177) rfl
set_option maxRecDepth 100000 in
theorem lwM_403 : u_lay RX6 TX6 3 ∈ lw_tbl := List.mem_of_getElem? (i := 179) rfl
set_option maxRecDepth 100000 in
theorem lwM_404 : u_lay RX6 TX6 4 ∈ lw_tbl := List.mem_of_getElem? (i := 181) rfl
set_option maxRecDepth 100000 in
theorem lwM_405 : u_lay RX6 TX6 5 ∈ lw_tbl := List.mem_of_getElem? (i := 183) rfl
set_option maxRecDepth 100000 in
theorem lwM_406 : u_lay RX6 TX6 6 ∈ lw_tbl := List.mem_of_getElem? (i := 185) rfl
set_option maxRecDepth 100000 in
theorem lwM_407 : Cond.methodLink RL 71 yX10_speed ∈ lw_tbl := List.mem_of_getElem? (i := 923) rfl
set_option maxRecDepth 100000 in
theorem lwM_408 : Cond.instanceMethod yX10_speed ∈ lw_tbl := List.mem_of_getElem? (i := 924) rfl
set_option maxRecDepth 100000 in
theorem lwM_409 : Cond.selects RX10 yX10_speed yX10_speed ∈ lw_tbl := List.mem_of_getElem? (i := 925) rfl
set_option maxRecDepth 100000 in
theorem lwM_410 : Cond.code yX10_speed cX10_speed 4 (some .int) ∈ lw_tbl := List.mem_of_getElem? (i := 926) rfl
set_option maxRecDepth 100000 in
theorem lwM_411 : Cond.fieldLink RX10 137 "CloudOfficeModel" "speedAbove" "J" ∈ lw_tbl := List.mem_of_getElem? (i := 757) rfl
set_option maxRecDepth 100000 in
theorem lwM_412 : Cond.fieldLink RX10 140 "CloudOfficeModel" "speedBelow" "J" ∈ lw_tbl := List.mem_of_getElem? (i := 758) rfl
set_option maxRecDepth 100000 in
theorem lwM_413 : Cond.methodLink RX10 151 yX10_areSights ∈ lw_tbl := List.mem_of_getElem? (i := 927) rfl
set_option maxRecDepth 100000 in
theorem lwM_414 : Cond.instanceMethod yX10_areSights ∈ lw_tbl := List.mem_of_getElem? (i := 929) rfl
set_option maxRecDepth 100000 in
theorem lwM_415 : Cond.selects RX10 yX10_areSights yX10_areSights ∈ lw_tbl := List.mem_of_getElem? (i := 21) rfl
set_option maxRecDepth 100000 in
theorem lwM_416 : Cond.code yX10_areSights cX10_areSights 3 (some .boolean) ∈ lw_tbl := List.mem_of_getElem? (i := 930) rfl
set_option maxRecDepth 100000 in
theorem lwM_417 : Cond.methodLink RX10 155 yX10_findSpeed ∈ lw_tbl := List.mem_of_getElem? (i := 931) rfl
set_option maxRecDepth 100000 in
theorem lwM_418 : Cond.instanceMethod yX10_findSpeed ∈ lw_tbl := List.mem_of_getElem? (i := 933) rfl
set_option maxRecDepth 100000 in
theorem lwM_419 : Cond.selects RX10 yX10_findSpeed yX10_findSpeed ∈ lw_tbl := List.mem_of_getElem? (i := 22) rfl
set_option maxRecDepth 100000 in
theorem lwM_420 : Cond.code yX10_findSpeed cX10_findSpeed 11 (some .boolean) ∈ lw_tbl := List.mem_of_getElem? (i := 934) rfl
set_option maxRecDepth 100000 in
theorem lwM_421 : Cond.fieldLink RX10 134 "CloudOfficeModel" "endAbove" "J" ∈ lw_tbl := List.mem_of_getElem? (i := 755) rfl
set_option maxRecDepth 100000 in
theorem lwM_422 : Cond.fieldLink RX10 127 "CloudOfficeModel" "endBelow" "J" ∈ lw_tbl := List.mem_of_getElem? (i := 756) rfl
set_option maxRecDepth 100000 in
theorem lwM_423 : Cond.methodLink RX10 143 yX10_speeds ∈ lw_tbl := List.mem_of_getElem? (i := 935) rfl
set_option maxRecDepth 100000 in
theorem lwM_424 : Cond.instanceMethod yX10_speeds ∈ lw_tbl := List.mem_of_getElem? (i := 937) rfl
set_option maxRecDepth 100000 in
theorem lwM_425 : Cond.selects RX10 yX10_speeds yX10_speeds ∈ lw_tbl := List.mem_of_getElem? (i := 23) rfl
set_option maxRecDepth 100000 in
theorem lwM_426 : Cond.code yX10_speeds cX10_speeds 12 none ∈ lw_tbl := List.mem_of_getElem? (i := 938) rfl
set_option maxRecDepth 100000 in
theorem lwM_427 : Cond.methodLink RX10 147 yX10_findEnd ∈ lw_tbl := List.mem_of_getElem? (i := 939) rfl
set_option maxRecDepth 100000 in
theorem lwM_428 : Cond.instanceMethod yX10_findEnd ∈ lw_tbl := List.mem_of_getElem? (i := 941) rfl
set_option maxRecDepth 100000 in
theorem lwM_429 : Cond.selects RX10 yX10_findEnd yX10_findEnd ∈ lw_tbl := List.mem_of_getElem? (i := 24) rfl
set_option maxRecDepth 100000 in
theorem lwM_430 : Cond.code yX10_findEnd cX10_findEnd 10 (some .boolean) ∈ lw_tbl := List.mem_of_getElem? (i := 942) rfl
set_option maxRecDepth 100000 in
theorem lwM_431 : Cond.constantLong RX10 130 (2) ∈ lw_tbl := List.mem_of_getElem? (i := 943) rfl
set_option maxRecDepth 100000 in
theorem lwM_432 : Cond.constantLong RX10 132 (-2) ∈ lw_tbl := List.mem_of_getElem? (i := 944) rfl
set_option maxRecDepth 100000 in
theorem lwM_433 : Cond.methodLink RL 72 yX9_shade ∈ lw_tbl := List.mem_of_getElem? (i := 511) rfl
set_option maxRecDepth 100000 in
theorem lwM_434 : Cond.instanceMethod yX9_shade ∈ lw_tbl := List.mem_of_getElem? (i := 512) rfl
set_option maxRecDepth 100000 in
theorem lwM_435 : Cond.selects RX9 yX9_shade yX9_shade ∈ lw_tbl := List.mem_of_getElem? (i := 513) rfl
set_option maxRecDepth 100000 in
theorem lwM_436 : Cond.code yX9_shade cX9_shade 4 (some .int) ∈ lw_tbl := List.mem_of_getElem? (i := 514) rfl
set_option maxRecDepth 100000 in
theorem lwM_437 : Cond.methodLink RX9 196 yX6_putShadowSpeed ∈ lw_tbl := List.mem_of_getElem? (i := 515) rfl
set_option maxRecDepth 100000 in
theorem lwM_438 : Cond.instanceMethod yX6_putShadowSpeed ∈ lw_tbl := List.mem_of_getElem? (i := 516) rfl
set_option maxRecDepth 100000 in
theorem lwM_439 : Cond.selects RX6 yX6_putShadowSpeed yX6_putShadowSpeed ∈ lw_tbl := List.mem_of_getElem? (i := 517) rfl
set_option maxRecDepth 100000 in
theorem lwM_440 : Cond.code yX6_putShadowSpeed cX6_putShadowSpeed 9 none ∈ lw_tbl := List.mem_of_getElem? (i := 518) rfl
set_option maxRecDepth 100000 in
theorem lwM_441 : Cond.fieldLink RX6 17 "CloudOffice$Speeds" "shadows" "LCloudOffice$Table;" ∈ lw_tbl := List.mem_of_getElem? (i := 168) rfl
set_option maxRecDepth 100000 in
theorem lwM_442 : Cond.methodLink RL 75 yX10_shade ∈ lw_tbl := List.mem_of_getElem? (i := 945) rfl
set_option maxRecDepth 100000 in
theorem lwM_443 : Cond.instanceMethod yX10_shade ∈ lw_tbl := List.mem_of_getElem? (i := 946) rfl
set_option maxRecDepth 100000 in
theorem lwM_444 : Cond.selects RX10 yX10_shade yX10_shade ∈ lw_tbl := List.mem_of_getElem? (i := 947) rfl
set_option maxRecDepth 100000 in
theorem lwM_445 : Cond.code yX10_shade cX10_shade 4 (some .int) ∈ lw_tbl := List.mem_of_getElem? (i := 948) rfl
set_option maxRecDepth 100000 in
theorem lwM_446 : Cond.methodLink RX10 158 yX10_areShadows ∈ lw_tbl := List.mem_of_getElem? (i := 949) rfl
set_option maxRecDepth 100000 in
theorem lwM_447 : Cond.instanceMethod yX10_areShadows ∈ lw_tbl := List.mem_of_getElem? (i := 951) rfl
set_option maxRecDepth 100000 in
theorem lwM_448 : Cond.selects RX10 yX10_areShadows yX10_areShadows ∈ lw_tbl := List.mem_of_getElem? (i := 25) rfl
set_option maxRecDepth 100000 in
theorem lwM_449 : Cond.code yX10_areShadows cX10_areShadows 3 (some .boolean) ∈ lw_tbl := List.mem_of_getElem? (i := 952) rfl
set_option maxRecDepth 100000 in
theorem lwM_450 : Cond.methodLink RX10 161 yX10_findShade ∈ lw_tbl := List.mem_of_getElem? (i := 953) rfl
set_option maxRecDepth 100000 in
theorem lwM_451 : Cond.instanceMethod yX10_findShade ∈ lw_tbl := List.mem_of_getElem? (i := 955) rfl
set_option maxRecDepth 100000 in
theorem lwM_452 : Cond.selects RX10 yX10_findShade yX10_findShade ∈ lw_tbl := List.mem_of_getElem? (i := 26) rfl
set_option maxRecDepth 100000 in
theorem lwM_453 : Cond.code yX10_findShade cX10_findShade 9 none ∈ lw_tbl := List.mem_of_getElem? (i := 956) rfl
set_option maxRecDepth 100000 in
theorem lwM_454 : Cond.methodLink RL 76 yX9_agree ∈ lw_tbl := List.mem_of_getElem? (i := 519) rfl
set_option maxRecDepth 100000 in
theorem lwM_455 : Cond.instanceMethod yX9_agree ∈ lw_tbl := List.mem_of_getElem? (i := 520) rfl
set_option maxRecDepth 100000 in
theorem lwM_456 : Cond.selects RX9 yX9_agree yX9_agree ∈ lw_tbl := List.mem_of_getElem? (i := 521) rfl
set_option maxRecDepth 100000 in
theorem lwM_457 : Cond.code yX9_agree cX9_agree 5 (some .int) ∈ lw_tbl := List.mem_of_getElem? (i := 522) rfl
set_option maxRecDepth 100000 in
theorem lwM_458 : Cond.methodLink RX9 200 yX7_at ∈ lw_tbl := List.mem_of_getElem? (i := 523) rfl
set_option maxRecDepth 100000 in
theorem lwM_459 : Cond.methodLink RX9 203 yX6_haveSpan ∈ lw_tbl := List.mem_of_getElem? (i := 524) rfl
set_option maxRecDepth 100000 in
theorem lwM_460 : Cond.methodLink RX9 206 yX6_spansMeet ∈ lw_tbl := List.mem_of_getElem? (i := 525) rfl
set_option maxRecDepth 100000 in
theorem lwM_461 : Cond.instanceMethod yX6_spansMeet ∈ lw_tbl := List.mem_of_getElem? (i := 526) rfl
set_option maxRecDepth 100000 in
theorem lwM_462 : Cond.selects RX6 yX6_spansMeet yX6_spansMeet ∈ lw_tbl := List.mem_of_getElem? (i := 527) rfl
set_option maxRecDepth 100000 in
theorem lwM_463 : Cond.code yX6_spansMeet cX6_spansMeet 5 (some .boolean) ∈ lw_tbl := List.mem_of_getElem? (i := 528) rfl
set_option maxRecDepth 100000 in
theorem lwM_464 : Cond.fieldLink RX6 23 "CloudOffice$Speeds" "sightLow" "LCloudOffice$Fraction;" ∈ lw_tbl := List.mem_of_getElem? (i := 169) rfl
set_option maxRecDepth 100000 in
theorem lwM_465 : Cond.fieldLink RX6 27 "CloudOffice$Speeds" "sightHigh" "LCloudOffice$Fraction;" ∈ lw_tbl := List.mem_of_getElem? (i := 170) rfl
set_option maxRecDepth 100000 in
theorem lwM_466 : Cond.fieldLink RX6 30 "CloudOffice$Speeds" "shadowLow" "LCloudOffice$Fraction;" ∈ lw_tbl := List.mem_of_getElem? (i := 171) rfl
set_option maxRecDepth 100000 in
theorem lwM_467 : Cond.fieldLink RX6 33 "CloudOffice$Speeds" "shadowHigh" "LCloudOffice$Fraction;" ∈ lw_tbl := List.mem_of_getElem? (i := 172) rfl
set_option maxRecDepth 100000 in
theorem lwM_468 : Cond.methodLink RX6 90 yX6_putSightSpeed ∈ lw_tbl := List.mem_of_getElem? (i := 529) rfl
set_option maxRecDepth 100000 in
theorem lwM_469 : Cond.methodLink RX6 94 yX6_putShadowSpeed ∈ lw_tbl := List.mem_of_getElem? (i := 530) rfl
set_option maxRecDepth 100000 in
theorem lwM_470 : Cond.methodLink RX6 98 yX1_isAtMost ∈ lw_tbl := List.mem_of_getElem? (i := 531) rfl
set_option maxRecDepth 100000 in
theorem lwM_471 : Cond.instanceMethod yX1_isAtMost ∈ lw_tbl := List.mem_of_getElem? (i := 532) rfl
set_option maxRecDepth 100000 in
theorem lwM_472 : Cond.selects RX1 yX1_isAtMost yX1_isAtMost ∈ lw_tbl := List.mem_of_getElem? (i := 533) rfl
set_option maxRecDepth 100000 in
theorem lwM_473 : Cond.code yX1_isAtMost cX1_isAtMost 2 (some .boolean) ∈ lw_tbl := List.mem_of_getElem? (i := 534) rfl
set_option maxRecDepth 100000 in
theorem lwM_474 : Cond.methodLink RL 79 yX10_agree ∈ lw_tbl := List.mem_of_getElem? (i := 957) rfl
set_option maxRecDepth 100000 in
theorem lwM_475 : Cond.instanceMethod yX10_agree ∈ lw_tbl := List.mem_of_getElem? (i := 958) rfl
set_option maxRecDepth 100000 in
theorem lwM_476 : Cond.selects RX10 yX10_agree yX10_agree ∈ lw_tbl := List.mem_of_getElem? (i := 959) rfl
set_option maxRecDepth 100000 in
theorem lwM_477 : Cond.code yX10_agree cX10_agree 15 (some .int) ∈ lw_tbl := List.mem_of_getElem? (i := 960) rfl
set_option maxRecDepth 100000 in
theorem lwM_478 : Cond.methodLink RL 80 yX9_balloon ∈ lw_tbl := List.mem_of_getElem? (i := 535) rfl
set_option maxRecDepth 100000 in
theorem lwM_479 : Cond.instanceMethod yX9_balloon ∈ lw_tbl := List.mem_of_getElem? (i := 536) rfl
set_option maxRecDepth 100000 in
theorem lwM_480 : Cond.selects RX9 yX9_balloon yX9_balloon ∈ lw_tbl := List.mem_of_getElem? (i := 537) rfl
set_option maxRecDepth 100000 in
theorem lwM_481 : Cond.code yX9_balloon cX9_balloon 5 (some .int) ∈ lw_tbl := List.mem_of_getElem? (i := 538) rfl
set_option maxRecDepth 100000 in
theorem lwM_482 : Cond.methodLink RL 83 yX10_balloon ∈ lw_tbl := List.mem_of_getElem? (i := 961) rfl
set_option maxRecDepth 100000 in
theorem lwM_483 : Cond.instanceMethod yX10_balloon ∈ lw_tbl := List.mem_of_getElem? (i := 962) rfl
set_option maxRecDepth 100000 in
theorem lwM_484 : Cond.selects RX10 yX10_balloon yX10_balloon ∈ lw_tbl := List.mem_of_getElem? (i := 963) rfl
set_option maxRecDepth 100000 in
theorem lwM_485 : Cond.code yX10_balloon cX10_balloon 5 (some .int) ∈ lw_tbl := List.mem_of_getElem? (i := 964) rfl
set_option maxRecDepth 100000 in
theorem lwM_486 : Cond.methodLink RL 84 yX9_light ∈ lw_tbl := List.mem_of_getElem? (i := 539) rfl
set_option maxRecDepth 100000 in
theorem lwM_487 : Cond.instanceMethod yX9_light ∈ lw_tbl := List.mem_of_getElem? (i := 540) rfl
set_option maxRecDepth 100000 in
theorem lwM_488 : Cond.selects RX9 yX9_light yX9_light ∈ lw_tbl := List.mem_of_getElem? (i := 541) rfl
set_option maxRecDepth 100000 in
theorem lwM_489 : Cond.code yX9_light cX9_light 3 (some .int) ∈ lw_tbl := List.mem_of_getElem? (i := 542) rfl
set_option maxRecDepth 100000 in
theorem lwM_490 : Cond.methodLink RL 87 yX10_light ∈ lw_tbl := List.mem_of_getElem? (i := 965) rfl
set_option maxRecDepth 100000 in
theorem lwM_491 : Cond.instanceMethod yX10_light ∈ lw_tbl := List.mem_of_getElem? (i := 966) rfl
set_option maxRecDepth 100000 in
theorem lwM_492 : Cond.selects RX10 yX10_light yX10_light ∈ lw_tbl := List.mem_of_getElem? (i := 967) rfl
set_option maxRecDepth 100000 in
theorem lwM_493 : Cond.code yX10_light cX10_light 3 (some .int) ∈ lw_tbl := List.mem_of_getElem? (i := 968) rfl
set_option maxRecDepth 100000 in
theorem lwM_494 : Cond.methodLink RL 88 yX9_span ∈ lw_tbl := List.mem_of_getElem? (i := 543) rfl
set_option maxRecDepth 100000 in
theorem lwM_495 : Cond.instanceMethod yX9_span ∈ lw_tbl := List.mem_of_getElem? (i := 544) rfl
set_option maxRecDepth 100000 in
theorem lwM_496 : Cond.selects RX9 yX9_span yX9_span ∈ lw_tbl := List.mem_of_getElem? (i := 545) rfl
set_option maxRecDepth 100000 in
theorem lwM_497 : Cond.code yX9_span cX9_span 4 (some .int) ∈ lw_tbl := List.mem_of_getElem? (i := 546) rfl
set_option maxRecDepth 100000 in
theorem lwM_498 : Cond.fieldLink RX9 44 "CloudOffice" "heights" "LCloudOffice$Table;" ∈ lw_tbl := List.mem_of_getElem? (i := 264) rfl
set_option maxRecDepth 100000 in
theorem lwM_499 : Cond.methodLink RL 91 yX10_span ∈ lw_tbl := List.mem_of_getElem? (i := 969) rfl
set_option maxRecDepth 100000 in
theorem lwM_500 : Cond.instanceMethod yX10_span ∈ lw_tbl := List.mem_of_getElem? (i := 970) rfl
set_option maxRecDepth 100000 in
theorem lwM_501 : Cond.selects RX10 yX10_span yX10_span ∈ lw_tbl := List.mem_of_getElem? (i := 971) rfl
set_option maxRecDepth 100000 in
theorem lwM_502 : Cond.code yX10_span cX10_span 4 (some .int) ∈ lw_tbl := List.mem_of_getElem? (i := 972) rfl
set_option maxRecDepth 100000 in
theorem lwM_503 : Cond.fieldLink RX10 165 "CloudOfficeModel" "spans" "I" ∈ lw_tbl := List.mem_of_getElem? (i := 759) rfl
set_option maxRecDepth 100000 in
theorem lwM_504 : Cond.fieldLink RX10 31 "CloudOfficeModel" "spanLow" "[I" ∈ lw_tbl := List.mem_of_getElem? (i := 760) rfl
set_option maxRecDepth 100000 in
theorem lwM_505 : Cond.fieldLink RX10 34 "CloudOfficeModel" "spanHigh" "[I" ∈ lw_tbl := List.mem_of_getElem? (i := 761) rfl
set_option maxRecDepth 100000 in
theorem lwM_506 : Cond.fieldLink RX10 37 "CloudOfficeModel" "spanAt" "[I" ∈ lw_tbl := List.mem_of_getElem? (i := 762) rfl
set_option maxRecDepth 100000 in
theorem lwM_507 : Cond.methodLink RL 92 yX9_sweep ∈ lw_tbl := List.mem_of_getElem? (i := 547) rfl
set_option maxRecDepth 100000 in
theorem lwM_508 : Cond.instanceMethod yX9_sweep ∈ lw_tbl := List.mem_of_getElem? (i := 548) rfl
set_option maxRecDepth 100000 in
theorem lwM_509 : Cond.selects RX9 yX9_sweep yX9_sweep ∈ lw_tbl := List.mem_of_getElem? (i := 549) rfl
set_option maxRecDepth 100000 in
theorem lwM_510 : Cond.code yX9_sweep cX9_sweep 1 (some .int) ∈ lw_tbl := List.mem_of_getElem? (i := 550) rfl
set_option maxRecDepth 100000 in
theorem lwM_511 : Cond.methodLink RL 95 yX10_sweep ∈ lw_tbl := List.mem_of_getElem? (i := 973) rfl
set_option maxRecDepth 100000 in
theorem lwM_512 : Cond.instanceMethod yX10_sweep ∈ lw_tbl := List.mem_of_getElem? (i := 974) rfl
set_option maxRecDepth 100000 in
theorem lwM_513 : Cond.selects RX10 yX10_sweep yX10_sweep ∈ lw_tbl := List.mem_of_getElem? (i := 975) rfl
set_option maxRecDepth 100000 in
theorem lwM_514 : Cond.code yX10_sweep cX10_sweep 2 (some .int) ∈ lw_tbl := List.mem_of_getElem? (i := 976) rfl
set_option maxRecDepth 100000 in
theorem lwM_515 : Cond.methodLink RL 96 yX9_must ∈ lw_tbl := List.mem_of_getElem? (i := 551) rfl
set_option maxRecDepth 100000 in
theorem lwM_516 : Cond.instanceMethod yX9_must ∈ lw_tbl := List.mem_of_getElem? (i := 552) rfl
set_option maxRecDepth 100000 in
theorem lwM_517 : Cond.selects RX9 yX9_must yX9_must ∈ lw_tbl := List.mem_of_getElem? (i := 553) rfl
set_option maxRecDepth 100000 in
theorem lwM_518 : Cond.code yX9_must cX9_must 4 (some .int) ∈ lw_tbl := List.mem_of_getElem? (i := 554) rfl
set_option maxRecDepth 100000 in
theorem lwM_519 : Cond.constant RX9 210 (-2000000) ∈ lw_tbl := List.mem_of_getElem? (i := 555) rfl
set_option maxRecDepth 100000 in
theorem lwM_520 : Cond.fieldLink RX9 79 "CloudOffice" "layering" "LCloudOffice$Layering;" ∈ lw_tbl := List.mem_of_getElem? (i := 270) rfl
set_option maxRecDepth 100000 in
theorem lwM_521 : Cond.methodLink RX9 211 yX2_fill ∈ lw_tbl := List.mem_of_getElem? (i := 556) rfl
set_option maxRecDepth 100000 in
theorem lwM_522 : Cond.instanceMethod yX2_fill ∈ lw_tbl := List.mem_of_getElem? (i := 557) rfl
set_option maxRecDepth 100000 in
theorem lwM_523 : Cond.selects RX2 yX2_fill yX2_fill ∈ lw_tbl := List.mem_of_getElem? (i := 558) rfl
set_option maxRecDepth 100000 in
theorem lwM_524 : Cond.initialized RX2 ∈ lw_tbl := List.mem_of_getElem? (i := 42) rfl
set_option maxRecDepth 100000 in
theorem lwM_525 : Cond.code yX2_fill cX2_fill 6 (some .int) ∈ lw_tbl := List.mem_of_getElem? (i := 559) rfl
set_option maxRecDepth 100000 in
theorem lwM_526 : Cond.constant RX2 29 (-1000000) ∈ lw_tbl := List.mem_of_getElem? (i := 566) rfl
set_option maxRecDepth 100000 in
theorem lwM_527 : Cond.constant RX2 34 (1000000) ∈ lw_tbl := List.mem_of_getElem? (i := 571) rfl
set_option maxRecDepth 100000 in
theorem lwM_528 : Cond.fieldLink RX2 22 "CloudOffice$Layering" "found" "[I" ∈ lw_tbl := List.mem_of_getElem? (i := 197) rfl
set_option maxRecDepth 100000 in
theorem lwM_529 : Cond.methodLink RX2 25 yX2_bringDown ∈ lw_tbl := List.mem_of_getElem? (i := 560) rfl
set_option maxRecDepth 100000 in
theorem lwM_530 : Cond.instanceMethod yX2_bringDown ∈ lw_tbl := List.mem_of_getElem? (i := 562) rfl
set_option maxRecDepth 100000 in
theorem lwM_531 : Cond.selects RX2 yX2_bringDown yX2_bringDown ∈ lw_tbl := List.mem_of_getElem? (i := 8) rfl
set_option maxRecDepth 100000 in
theorem lwM_532 : Cond.code yX2_bringDown cX2_bringDown 4 none ∈ lw_tbl := List.mem_of_getElem? (i := 563) rfl
set_option maxRecDepth 100000 in
theorem lwM_533 : Cond.fieldLink RX2 9 "CloudOffice$Layering" "heights" "LCloudOffice$Table;" ∈ lw_tbl := List.mem_of_getElem? (i := 194) rfl
set_option maxRecDepth 100000 in
theorem lwM_534 : Cond.fieldLink RX2 15 "CloudOffice$Layering" "lows" "[I" ∈ lw_tbl := List.mem_of_getElem? (i := 195) rfl
set_option maxRecDepth 100000 in
theorem lwM_535 : Cond.fieldLink RX2 19 "CloudOffice$Layering" "highs" "[I" ∈ lw_tbl := List.mem_of_getElem? (i := 196) rfl
set_option maxRecDepth 100000 in
theorem lwM_536 : Cond.methodLink RX2 35 yX7_size ∈ lw_tbl := List.mem_of_getElem? (i := 564) rfl
set_option maxRecDepth 100000 in
theorem lwM_537 : Cond.methodLink RX2 41 yX7_at ∈ lw_tbl := List.mem_of_getElem? (i := 565) rfl
set_option maxRecDepth 100000 in
theorem lwM_538 : Cond.methodLink RX2 30 yX2_leastHighAbove ∈ lw_tbl := List.mem_of_getElem? (i := 567) rfl
set_option maxRecDepth 100000 in
theorem lwM_539 : Cond.instanceMethod yX2_leastHighAbove ∈ lw_tbl := List.mem_of_getElem? (i := 569) rfl
set_option maxRecDepth 100000 in
theorem lwM_540 : Cond.selects RX2 yX2_leastHighAbove yX2_leastHighAbove ∈ lw_tbl := List.mem_of_getElem? (i := 9) rfl
set_option maxRecDepth 100000 in
theorem lwM_541 : Cond.code yX2_leastHighAbove cX2_leastHighAbove 4 (some .int) ∈ lw_tbl := List.mem_of_getElem? (i := 570) rfl
set_option maxRecDepth 100000 in
theorem lwM_542 : Cond.methodLink RX9 214 yX2_layerAt ∈ lw_tbl := List.mem_of_getElem? (i := 572) rfl
set_option maxRecDepth 100000 in
theorem lwM_543 : Cond.instanceMethod yX2_layerAt ∈ lw_tbl := List.mem_of_getElem? (i := 573) rfl
set_option maxRecDepth 100000 in
theorem lwM_544 : Cond.selects RX2 yX2_layerAt yX2_layerAt ∈ lw_tbl := List.mem_of_getElem? (i := 574) rfl
set_option maxRecDepth 100000 in
theorem lwM_545 : Cond.code yX2_layerAt cX2_layerAt 2 (some .int) ∈ lw_tbl := List.mem_of_getElem? (i := 575) rfl
set_option maxRecDepth 100000 in
theorem lwM_546 : u_lay RX2 TX2 0 ∈ lw_tbl := List.mem_of_getElem? (i := 198) rfl
set_option maxRecDepth 100000 in
theorem lwM_547 : u_lay RX2 TX2 1 ∈ lw_tbl := List.mem_of_getElem? (i := 200) rfl
set_option maxRecDepth 100000 in
theorem lwM_548 : u_lay RX2 TX2 2 ∈ lw_tbl := List.mem_of_getElem? (i := 202) rfl
set_option maxRecDepth 100000 in
theorem lwM_549 : u_lay RX2 TX2 3 ∈ lw_tbl := List.mem_of_getElem? (i := 204) rfl
set_option maxRecDepth 100000 in
theorem lwM_550 : Cond.methodLink RL 99 yX10_must ∈ lw_tbl := List.mem_of_getElem? (i := 977) rfl
set_option maxRecDepth 100000 in
theorem lwM_551 : Cond.instanceMethod yX10_must ∈ lw_tbl := List.mem_of_getElem? (i := 978) rfl
set_option maxRecDepth 100000 in
theorem lwM_552 : Cond.selects RX10 yX10_must yX10_must ∈ lw_tbl := List.mem_of_getElem? (i := 979) rfl
set_option maxRecDepth 100000 in
theorem lwM_553 : Cond.code yX10_must cX10_must 3 (some .int) ∈ lw_tbl := List.mem_of_getElem? (i := 980) rfl
set_option maxRecDepth 100000 in
theorem lwM_554 : Cond.constant RX10 171 (-2000000) ∈ lw_tbl := List.mem_of_getElem? (i := 981) rfl
set_option maxRecDepth 100000 in
theorem lwM_555 : Cond.fieldLink RX10 168 "CloudOfficeModel" "found" "I" ∈ lw_tbl := List.mem_of_getElem? (i := 763) rfl
set_option maxRecDepth 100000 in
theorem lwM_556 : Cond.fieldLink RX10 40 "CloudOfficeModel" "numbers" "[I" ∈ lw_tbl := List.mem_of_getElem? (i := 764) rfl
set_option maxRecDepth 100000 in
theorem lwM_557 : Cond.methodLink RX10 172 yX10_findNumbers ∈ lw_tbl := List.mem_of_getElem? (i := 982) rfl
set_option maxRecDepth 100000 in
theorem lwM_558 : Cond.instanceMethod yX10_findNumbers ∈ lw_tbl := List.mem_of_getElem? (i := 984) rfl
set_option maxRecDepth 100000 in
theorem lwM_559 : Cond.selects RX10 yX10_findNumbers yX10_findNumbers ∈ lw_tbl := List.mem_of_getElem? (i := 27) rfl
set_option maxRecDepth 100000 in
theorem lwM_560 : Cond.code yX10_findNumbers cX10_findNumbers 7 none ∈ lw_tbl := List.mem_of_getElem? (i := 985) rfl
set_option maxRecDepth 100000 in
theorem lwM_561 : Cond.methodLink RL 100 yX9_tilted ∈ lw_tbl := List.mem_of_getElem? (i := 576) rfl
set_option maxRecDepth 100000 in
theorem lwM_562 : Cond.instanceMethod yX9_tilted ∈ lw_tbl := List.mem_of_getElem? (i := 577) rfl
set_option maxRecDepth 100000 in
theorem lwM_563 : Cond.selects RX9 yX9_tilted yX9_tilted ∈ lw_tbl := List.mem_of_getElem? (i := 578) rfl
set_option maxRecDepth 100000 in
theorem lwM_564 : Cond.code yX9_tilted cX9_tilted 3 (some .int) ∈ lw_tbl := List.mem_of_getElem? (i := 579) rfl
set_option maxRecDepth 100000 in
theorem lwM_565 : Cond.methodLink RX9 218 yX2_bestTilt ∈ lw_tbl := List.mem_of_getElem? (i := 580) rfl
set_option maxRecDepth 100000 in
theorem lwM_566 : Cond.instanceMethod yX2_bestTilt ∈ lw_tbl := List.mem_of_getElem? (i := 581) rfl
set_option maxRecDepth 100000 in
theorem lwM_567 : Cond.selects RX2 yX2_bestTilt yX2_bestTilt ∈ lw_tbl := List.mem_of_getElem? (i := 582) rfl
set_option maxRecDepth 100000 in
theorem lwM_568 : Cond.code yX2_bestTilt cX2_bestTilt 6 (some .int) ∈ lw_tbl := List.mem_of_getElem? (i := 583) rfl
set_option maxRecDepth 100000 in
theorem lwM_569 : Cond.methodLink RX2 45 yX2_fill ∈ lw_tbl := List.mem_of_getElem? (i := 584) rfl
set_option maxRecDepth 100000 in
theorem lwM_570 : Cond.methodLink RL 103 yX10_tilted ∈ lw_tbl := List.mem_of_getElem? (i := 986) rfl
set_option maxRecDepth 100000 in
theorem lwM_571 : Cond.instanceMethod yX10_tilted ∈ lw_tbl := List.mem_of_getElem? (i := 987) rfl
set_option maxRecDepth 100000 in
theorem lwM_572 : Cond.selects RX10 yX10_tilted yX10_tilted ∈ lw_tbl := List.mem_of_getElem? (i := 988) rfl
set_option maxRecDepth 100000 in
theorem lwM_573 : Cond.code yX10_tilted cX10_tilted 6 (some .int) ∈ lw_tbl := List.mem_of_getElem? (i := 989) rfl
set_option maxRecDepth 100000 in
theorem lwM_574 : Cond.methodLink RL 104 yX9_pair ∈ lw_tbl := List.mem_of_getElem? (i := 585) rfl
set_option maxRecDepth 100000 in
theorem lwM_575 : Cond.instanceMethod yX9_pair ∈ lw_tbl := List.mem_of_getElem? (i := 586) rfl
set_option maxRecDepth 100000 in
theorem lwM_576 : Cond.selects RX9 yX9_pair yX9_pair ∈ lw_tbl := List.mem_of_getElem? (i := 587) rfl
set_option maxRecDepth 100000 in
theorem lwM_577 : Cond.code yX9_pair cX9_pair 4 (some .int) ∈ lw_tbl := List.mem_of_getElem? (i := 588) rfl
set_option maxRecDepth 100000 in
theorem lwM_578 : Cond.fieldLink RX9 47 "CloudOffice" "pairs" "LCloudOffice$Table;" ∈ lw_tbl := List.mem_of_getElem? (i := 265) rfl
set_option maxRecDepth 100000 in
theorem lwM_579 : Cond.methodLink RL 107 yX10_pair ∈ lw_tbl := List.mem_of_getElem? (i := 990) rfl
set_option maxRecDepth 100000 in
theorem lwM_580 : Cond.instanceMethod yX10_pair ∈ lw_tbl := List.mem_of_getElem? (i := 991) rfl
set_option maxRecDepth 100000 in
theorem lwM_581 : Cond.selects RX10 yX10_pair yX10_pair ∈ lw_tbl := List.mem_of_getElem? (i := 992) rfl
set_option maxRecDepth 100000 in
theorem lwM_582 : Cond.code yX10_pair cX10_pair 4 (some .int) ∈ lw_tbl := List.mem_of_getElem? (i := 993) rfl
set_option maxRecDepth 100000 in
theorem lwM_583 : Cond.fieldLink RX10 176 "CloudOfficeModel" "pairs" "I" ∈ lw_tbl := List.mem_of_getElem? (i := 765) rfl
set_option maxRecDepth 100000 in
theorem lwM_584 : Cond.fieldLink RX10 43 "CloudOfficeModel" "pair" "[I" ∈ lw_tbl := List.mem_of_getElem? (i := 766) rfl
set_option maxRecDepth 100000 in
theorem lwM_585 : Cond.methodLink RL 108 yX9_worst ∈ lw_tbl := List.mem_of_getElem? (i := 589) rfl
set_option maxRecDepth 100000 in
theorem lwM_586 : Cond.instanceMethod yX9_worst ∈ lw_tbl := List.mem_of_getElem? (i := 590) rfl
set_option maxRecDepth 100000 in
theorem lwM_587 : Cond.selects RX9 yX9_worst yX9_worst ∈ lw_tbl := List.mem_of_getElem? (i := 591) rfl
set_option maxRecDepth 100000 in
theorem lwM_588 : Cond.code yX9_worst cX9_worst 1 (some .int) ∈ lw_tbl := List.mem_of_getElem? (i := 592) rfl
set_option maxRecDepth 100000 in
theorem lwM_589 : Cond.fieldLink RX9 86 "CloudOffice" "boards" "LCloudOffice$Boards;" ∈ lw_tbl := List.mem_of_getElem? (i := 271) rfl
set_option maxRecDepth 100000 in
theorem lwM_590 : Cond.methodLink RX9 221 yX0_leastWorst ∈ lw_tbl := List.mem_of_getElem? (i := 593) rfl
set_option maxRecDepth 100000 in
theorem lwM_591 : Cond.instanceMethod yX0_leastWorst ∈ lw_tbl := List.mem_of_getElem? (i := 594) rfl
set_option maxRecDepth 100000 in
theorem lwM_592 : Cond.selects RX0 yX0_leastWorst yX0_leastWorst ∈ lw_tbl := List.mem_of_getElem? (i := 595) rfl
set_option maxRecDepth 100000 in
theorem lwM_593 : Cond.initialized RX0 ∈ lw_tbl := List.mem_of_getElem? (i := 43) rfl
set_option maxRecDepth 100000 in
theorem lwM_594 : Cond.code yX0_leastWorst cX0_leastWorst 5 (some .int) ∈ lw_tbl := List.mem_of_getElem? (i := 596) rfl
set_option maxRecDepth 100000 in
theorem lwM_595 : Cond.fieldLink RX0 9 "CloudOffice$Boards" "pairs" "LCloudOffice$Table;" ∈ lw_tbl := List.mem_of_getElem? (i := 213) rfl
set_option maxRecDepth 100000 in
theorem lwM_596 : Cond.methodLink RX0 19 yX0_settle ∈ lw_tbl := List.mem_of_getElem? (i := 597) rfl
set_option maxRecDepth 100000 in
theorem lwM_597 : Cond.instanceMethod yX0_settle ∈ lw_tbl := List.mem_of_getElem? (i := 599) rfl
set_option maxRecDepth 100000 in
theorem lwM_598 : Cond.selects RX0 yX0_settle yX0_settle ∈ lw_tbl := List.mem_of_getElem? (i := 10) rfl
set_option maxRecDepth 100000 in
theorem lwM_599 : Cond.code yX0_settle cX0_settle 3 (some .boolean) ∈ lw_tbl := List.mem_of_getElem? (i := 600) rfl
set_option maxRecDepth 100000 in
theorem lwM_600 : Cond.fieldLink RX0 15 "CloudOffice$Boards" "bents" "[I" ∈ lw_tbl := List.mem_of_getElem? (i := 214) rfl
set_option maxRecDepth 100000 in
theorem lwM_601 : Cond.constant RX0 44 (1000000) ∈ lw_tbl := List.mem_of_getElem? (i := 601) rfl
set_option maxRecDepth 100000 in
theorem lwM_602 : Cond.methodLink RX0 45 yX0_lowerAll ∈ lw_tbl := List.mem_of_getElem? (i := 602) rfl
set_option maxRecDepth 100000 in
theorem lwM_603 : Cond.instanceMethod yX0_lowerAll ∈ lw_tbl := List.mem_of_getElem? (i := 604) rfl
set_option maxRecDepth 100000 in
theorem lwM_604 : Cond.selects RX0 yX0_lowerAll yX0_lowerAll ∈ lw_tbl := List.mem_of_getElem? (i := 11) rfl
set_option maxRecDepth 100000 in
theorem lwM_605 : Cond.code yX0_lowerAll cX0_lowerAll 7 (some .boolean) ∈ lw_tbl := List.mem_of_getElem? (i := 605) rfl
set_option maxRecDepth 100000 in
theorem lwM_606 : Cond.methodLink RX0 23 yX7_size ∈ lw_tbl := List.mem_of_getElem? (i := 606) rfl
set_option maxRecDepth 100000 in
theorem lwM_607 : Cond.methodLink RX0 33 yX7_at ∈ lw_tbl := List.mem_of_getElem? (i := 607) rfl
set_option maxRecDepth 100000 in
theorem lwM_608 : Cond.methodLink RX0 48 yX0_lower ∈ lw_tbl := List.mem_of_getElem? (i := 608) rfl
set_option maxRecDepth 100000 in
theorem lwM_609 : Cond.instanceMethod yX0_lower ∈ lw_tbl := List.mem_of_getElem? (i := 610) rfl
set_option maxRecDepth 100000 in
theorem lwM_610 : Cond.selects RX0 yX0_lower yX0_lower ∈ lw_tbl := List.mem_of_getElem? (i := 12) rfl
set_option maxRecDepth 100000 in
theorem lwM_611 : Cond.code yX0_lower cX0_lower 5 (some .boolean) ∈ lw_tbl := List.mem_of_getElem? (i := 611) rfl
set_option maxRecDepth 100000 in
theorem lwM_612 : Cond.methodLink RX0 37 yX0_isJoined ∈ lw_tbl := List.mem_of_getElem? (i := 613) rfl
set_option maxRecDepth 100000 in
theorem lwM_613 : Cond.instanceMethod yX0_isJoined ∈ lw_tbl := List.mem_of_getElem? (i := 614) rfl
set_option maxRecDepth 100000 in
theorem lwM_614 : Cond.selects RX0 yX0_isJoined yX0_isJoined ∈ lw_tbl := List.mem_of_getElem? (i := 615) rfl
set_option maxRecDepth 100000 in
theorem lwM_615 : Cond.code yX0_isJoined cX0_isJoined 2 (some .boolean) ∈ lw_tbl := List.mem_of_getElem? (i := 616) rfl
set_option maxRecDepth 100000 in
theorem lwM_616 : Cond.methodLink RX0 29 yX0_areAllJoined ∈ lw_tbl := List.mem_of_getElem? (i := 617) rfl
set_option maxRecDepth 100000 in
theorem lwM_617 : Cond.instanceMethod yX0_areAllJoined ∈ lw_tbl := List.mem_of_getElem? (i := 619) rfl
set_option maxRecDepth 100000 in
theorem lwM_618 : Cond.selects RX0 yX0_areAllJoined yX0_areAllJoined ∈ lw_tbl := List.mem_of_getElem? (i := 13) rfl
set_option maxRecDepth 100000 in
theorem lwM_619 : Cond.code yX0_areAllJoined cX0_areAllJoined 2 (some .boolean) ∈ lw_tbl := List.mem_of_getElem? (i := 620) rfl
set_option maxRecDepth 100000 in
theorem lwM_620 : u_lay RX0 TX0 0 ∈ lw_tbl := List.mem_of_getElem? (i := 215) rfl
set_option maxRecDepth 100000 in
theorem lwM_621 : u_lay RX0 TX0 1 ∈ lw_tbl := List.mem_of_getElem? (i := 217) rfl
set_option maxRecDepth 100000 in
theorem lwM_622 : Cond.methodLink RL 111 yX10_worst ∈ lw_tbl := List.mem_of_getElem? (i := 994) rfl
set_option maxRecDepth 100000 in
theorem lwM_623 : Cond.instanceMethod yX10_worst ∈ lw_tbl := List.mem_of_getElem? (i := 995) rfl
set_option maxRecDepth 100000 in
theorem lwM_624 : Cond.selects RX10 yX10_worst yX10_worst ∈ lw_tbl := List.mem_of_getElem? (i := 996) rfl
set_option maxRecDepth 100000 in
theorem lwM_625 : Cond.code yX10_worst cX10_worst 1 (some .int) ∈ lw_tbl := List.mem_of_getElem? (i := 997) rfl
set_option maxRecDepth 100000 in
theorem lwM_626 : Cond.methodLink RX10 191 yX10_worstOf ∈ lw_tbl := List.mem_of_getElem? (i := 998) rfl
set_option maxRecDepth 100000 in
theorem lwM_627 : Cond.instanceMethod yX10_worstOf ∈ lw_tbl := List.mem_of_getElem? (i := 1000) rfl
set_option maxRecDepth 100000 in
theorem lwM_628 : Cond.selects RX10 yX10_worstOf yX10_worstOf ∈ lw_tbl := List.mem_of_getElem? (i := 28) rfl
set_option maxRecDepth 100000 in
theorem lwM_629 : Cond.code yX10_worstOf cX10_worstOf 2 (some .int) ∈ lw_tbl := List.mem_of_getElem? (i := 1001) rfl
set_option maxRecDepth 100000 in
theorem lwM_630 : Cond.methodLink RX10 184 yX10_areJoined ∈ lw_tbl := List.mem_of_getElem? (i := 1002) rfl
set_option maxRecDepth 100000 in
theorem lwM_631 : Cond.instanceMethod yX10_areJoined ∈ lw_tbl := List.mem_of_getElem? (i := 1004) rfl
set_option maxRecDepth 100000 in
theorem lwM_632 : Cond.selects RX10 yX10_areJoined yX10_areJoined ∈ lw_tbl := List.mem_of_getElem? (i := 29) rfl
set_option maxRecDepth 100000 in
theorem lwM_633 : Cond.code yX10_areJoined cX10_areJoined 5 (some .boolean) ∈ lw_tbl := List.mem_of_getElem? (i := 1005) rfl
set_option maxRecDepth 100000 in
theorem lwM_634 : Cond.methodLink RX10 179 yX10_paired ∈ lw_tbl := List.mem_of_getElem? (i := 1006) rfl
set_option maxRecDepth 100000 in
theorem lwM_635 : Cond.instanceMethod yX10_paired ∈ lw_tbl := List.mem_of_getElem? (i := 1008) rfl
set_option maxRecDepth 100000 in
theorem lwM_636 : Cond.selects RX10 yX10_paired yX10_paired ∈ lw_tbl := List.mem_of_getElem? (i := 30) rfl
set_option maxRecDepth 100000 in
theorem lwM_637 : Cond.code yX10_paired cX10_paired 3 (some .int) ∈ lw_tbl := List.mem_of_getElem? (i := 1009) rfl
set_option maxRecDepth 100000 in
theorem lwM_638 : Cond.methodLink RX10 188 yX10_findMost ∈ lw_tbl := List.mem_of_getElem? (i := 1010) rfl
set_option maxRecDepth 100000 in
theorem lwM_639 : Cond.instanceMethod yX10_findMost ∈ lw_tbl := List.mem_of_getElem? (i := 1012) rfl
set_option maxRecDepth 100000 in
theorem lwM_640 : Cond.selects RX10 yX10_findMost yX10_findMost ∈ lw_tbl := List.mem_of_getElem? (i := 31) rfl
set_option maxRecDepth 100000 in
theorem lwM_641 : Cond.code yX10_findMost cX10_findMost 8 (some .boolean) ∈ lw_tbl := List.mem_of_getElem? (i := 1013) rfl
set_option maxRecDepth 100000 in
theorem lwM_642 : Cond.fieldLink RX10 46 "CloudOfficeModel" "most" "[I" ∈ lw_tbl := List.mem_of_getElem? (i := 767) rfl
set_option maxRecDepth 100000 in
theorem lwM_643 : Cond.constant RX10 183 (100000000) ∈ lw_tbl := List.mem_of_getElem? (i := 1014) rfl
set_option maxRecDepth 100000 in
theorem lwM_644 : Cond.methodLink RL 112 yX9_bent ∈ lw_tbl := List.mem_of_getElem? (i := 621) rfl
set_option maxRecDepth 100000 in
theorem lwM_645 : Cond.instanceMethod yX9_bent ∈ lw_tbl := List.mem_of_getElem? (i := 622) rfl
set_option maxRecDepth 100000 in
theorem lwM_646 : Cond.selects RX9 yX9_bent yX9_bent ∈ lw_tbl := List.mem_of_getElem? (i := 623) rfl
set_option maxRecDepth 100000 in
theorem lwM_647 : Cond.code yX9_bent cX9_bent 2 (some .int) ∈ lw_tbl := List.mem_of_getElem? (i := 624) rfl
set_option maxRecDepth 100000 in
theorem lwM_648 : Cond.constant RX9 224 (-100000) ∈ lw_tbl := List.mem_of_getElem? (i := 625) rfl
set_option maxRecDepth 100000 in
theorem lwM_649 : Cond.constant RX9 228 (-200000) ∈ lw_tbl := List.mem_of_getElem? (i := 627) rfl
set_option maxRecDepth 100000 in
theorem lwM_650 : Cond.methodLink RX9 225 yX0_isJoined ∈ lw_tbl := List.mem_of_getElem? (i := 626) rfl
set_option maxRecDepth 100000 in
theorem lwM_651 : Cond.methodLink RX9 229 yX0_bentOf ∈ lw_tbl := List.mem_of_getElem? (i := 628) rfl
set_option maxRecDepth 100000 in
theorem lwM_652 : Cond.instanceMethod yX0_bentOf ∈ lw_tbl := List.mem_of_getElem? (i := 629) rfl
set_option maxRecDepth 100000 in
theorem lwM_653 : Cond.selects RX0 yX0_bentOf yX0_bentOf ∈ lw_tbl := List.mem_of_getElem? (i := 630) rfl
set_option maxRecDepth 100000 in
theorem lwM_654 : Cond.code yX0_bentOf cX0_bentOf 2 (some .int) ∈ lw_tbl := List.mem_of_getElem? (i := 631) rfl
set_option maxRecDepth 100000 in
theorem lwM_655 : Cond.methodLink RL 115 yX10_bent ∈ lw_tbl := List.mem_of_getElem? (i := 1015) rfl
set_option maxRecDepth 100000 in
theorem lwM_656 : Cond.instanceMethod yX10_bent ∈ lw_tbl := List.mem_of_getElem? (i := 1016) rfl
set_option maxRecDepth 100000 in
theorem lwM_657 : Cond.selects RX10 yX10_bent yX10_bent ∈ lw_tbl := List.mem_of_getElem? (i := 1017) rfl
set_option maxRecDepth 100000 in
theorem lwM_658 : Cond.code yX10_bent cX10_bent 2 (some .int) ∈ lw_tbl := List.mem_of_getElem? (i := 1018) rfl
set_option maxRecDepth 100000 in
theorem lwM_659 : Cond.constant RX10 194 (-100000) ∈ lw_tbl := List.mem_of_getElem? (i := 1019) rfl
set_option maxRecDepth 100000 in
theorem lwM_660 : Cond.constant RX10 195 (-200000) ∈ lw_tbl := List.mem_of_getElem? (i := 1020) rfl
set_option maxRecDepth 100000 in
theorem lwM_661 : Cond.methodLink RL 116 yX9_row ∈ lw_tbl := List.mem_of_getElem? (i := 632) rfl
set_option maxRecDepth 100000 in
theorem lwM_662 : Cond.instanceMethod yX9_row ∈ lw_tbl := List.mem_of_getElem? (i := 633) rfl
set_option maxRecDepth 100000 in
theorem lwM_663 : Cond.selects RX9 yX9_row yX9_row ∈ lw_tbl := List.mem_of_getElem? (i := 634) rfl
set_option maxRecDepth 100000 in
theorem lwM_664 : Cond.code yX9_row cX9_row 5 (some .int) ∈ lw_tbl := List.mem_of_getElem? (i := 635) rfl
set_option maxRecDepth 100000 in
theorem lwM_665 : Cond.fieldLink RX9 50 "CloudOffice" "rows" "LCloudOffice$Table;" ∈ lw_tbl := List.mem_of_getElem? (i := 266) rfl
set_option maxRecDepth 100000 in
theorem lwM_666 : Cond.methodLink RX9 232 yX9_isFormHourWind ∈ lw_tbl := List.mem_of_getElem? (i := 636) rfl
set_option maxRecDepth 100000 in
theorem lwM_667 : Cond.static yX9_isFormHourWind ∈ lw_tbl := List.mem_of_getElem? (i := 637) rfl
set_option maxRecDepth 100000 in
theorem lwM_668 : Cond.code yX9_isFormHourWind cX9_isFormHourWind 3 (some .boolean) ∈ lw_tbl := List.mem_of_getElem? (i := 638) rfl
set_option maxRecDepth 100000 in
theorem lwM_669 : Cond.methodLink RX9 248 yX9_isForm ∈ lw_tbl := List.mem_of_getElem? (i := 639) rfl
set_option maxRecDepth 100000 in
theorem lwM_670 : Cond.static yX9_isForm ∈ lw_tbl := List.mem_of_getElem? (i := 640) rfl
set_option maxRecDepth 100000 in
theorem lwM_671 : Cond.code yX9_isForm cX9_isForm 1 (some .boolean) ∈ lw_tbl := List.mem_of_getElem? (i := 641) rfl
set_option maxRecDepth 100000 in
theorem lwM_672 : Cond.methodLink RL 119 yX10_row ∈ lw_tbl := List.mem_of_getElem? (i := 1021) rfl
set_option maxRecDepth 100000 in
theorem lwM_673 : Cond.instanceMethod yX10_row ∈ lw_tbl := List.mem_of_getElem? (i := 1022) rfl
set_option maxRecDepth 100000 in
theorem lwM_674 : Cond.selects RX10 yX10_row yX10_row ∈ lw_tbl := List.mem_of_getElem? (i := 1023) rfl
set_option maxRecDepth 100000 in
theorem lwM_675 : Cond.code yX10_row cX10_row 5 (some .int) ∈ lw_tbl := List.mem_of_getElem? (i := 1024) rfl
set_option maxRecDepth 100000 in
theorem lwM_676 : Cond.fieldLink RX10 196 "CloudOfficeModel" "rows" "I" ∈ lw_tbl := List.mem_of_getElem? (i := 768) rfl
set_option maxRecDepth 100000 in
theorem lwM_677 : Cond.fieldLink RX10 49 "CloudOfficeModel" "row" "[I" ∈ lw_tbl := List.mem_of_getElem? (i := 769) rfl
set_option maxRecDepth 100000 in
theorem lwM_678 : Cond.methodLink RL 120 yX9_guess ∈ lw_tbl := List.mem_of_getElem? (i := 642) rfl
set_option maxRecDepth 100000 in
theorem lwM_679 : Cond.instanceMethod yX9_guess ∈ lw_tbl := List.mem_of_getElem? (i := 643) rfl
set_option maxRecDepth 100000 in
theorem lwM_680 : Cond.selects RX9 yX9_guess yX9_guess ∈ lw_tbl := List.mem_of_getElem? (i := 644) rfl
set_option maxRecDepth 100000 in
theorem lwM_681 : Cond.code yX9_guess cX9_guess 5 (some .int) ∈ lw_tbl := List.mem_of_getElem? (i := 645) rfl
set_option maxRecDepth 100000 in
theorem lwM_682 : Cond.fieldLink RX9 93 "CloudOffice" "years" "LCloudOffice$Years;" ∈ lw_tbl := List.mem_of_getElem? (i := 272) rfl
set_option maxRecDepth 100000 in
theorem lwM_683 : Cond.methodLink RX9 235 yX8_look ∈ lw_tbl := List.mem_of_getElem? (i := 646) rfl
set_option maxRecDepth 100000 in
theorem lwM_684 : Cond.instanceMethod yX8_look ∈ lw_tbl := List.mem_of_getElem? (i := 647) rfl
set_option maxRecDepth 100000 in
theorem lwM_685 : Cond.selects RX8 yX8_look yX8_look ∈ lw_tbl := List.mem_of_getElem? (i := 648) rfl
set_option maxRecDepth 100000 in
theorem lwM_686 : Cond.initialized RX8 ∈ lw_tbl := List.mem_of_getElem? (i := 44) rfl
set_option maxRecDepth 100000 in
theorem lwM_687 : Cond.code yX8_look cX8_look 7 none ∈ lw_tbl := List.mem_of_getElem? (i := 649) rfl
set_option maxRecDepth 100000 in
theorem lwM_688 : Cond.fieldLink RX8 15 "CloudOffice$Years" "sum" "I" ∈ lw_tbl := List.mem_of_getElem? (i := 227) rfl
set_option maxRecDepth 100000 in
theorem lwM_689 : Cond.fieldLink RX8 19 "CloudOffice$Years" "many" "I" ∈ lw_tbl := List.mem_of_getElem? (i := 228) rfl
set_option maxRecDepth 100000 in
theorem lwM_690 : Cond.fieldLink RX8 22 "CloudOffice$Years" "distance" "I" ∈ lw_tbl := List.mem_of_getElem? (i := 230) rfl
set_option maxRecDepth 100000 in
theorem lwM_691 : Cond.fieldLink RX8 9 "CloudOffice$Years" "rows" "LCloudOffice$Table;" ∈ lw_tbl := List.mem_of_getElem? (i := 226) rfl
set_option maxRecDepth 100000 in
theorem lwM_692 : Cond.methodLink RX8 25 yX7_size ∈ lw_tbl := List.mem_of_getElem? (i := 650) rfl
set_option maxRecDepth 100000 in
theorem lwM_693 : Cond.methodLink RX8 31 yX7_at ∈ lw_tbl := List.mem_of_getElem? (i := 651) rfl
set_option maxRecDepth 100000 in
theorem lwM_694 : Cond.methodLink RX8 35 yX8_apart ∈ lw_tbl := List.mem_of_getElem? (i := 652) rfl
set_option maxRecDepth 100000 in
theorem lwM_695 : Cond.static yX8_apart ∈ lw_tbl := List.mem_of_getElem? (i := 653) rfl
set_option maxRecDepth 100000 in
theorem lwM_696 : Cond.code yX8_apart cX8_apart 4 (some .int) ∈ lw_tbl := List.mem_of_getElem? (i := 654) rfl
set_option maxRecDepth 100000 in
theorem lwM_697 : Cond.methodLink RX8 43 Lib.Math.abs.name ∈ lw_tbl := List.mem_of_getElem? (i := 655) rfl
set_option maxRecDepth 100000 in
theorem lwM_698 : Cond.methodLink RX8 49 Lib.Math.min.name ∈ lw_tbl := List.mem_of_getElem? (i := 656) rfl
set_option maxRecDepth 100000 in
theorem lwM_699 : Cond.methodLink RX8 39 yX8_take ∈ lw_tbl := List.mem_of_getElem? (i := 657) rfl
set_option maxRecDepth 100000 in
theorem lwM_700 : Cond.instanceMethod yX8_take ∈ lw_tbl := List.mem_of_getElem? (i := 659) rfl
set_option maxRecDepth 100000 in
theorem lwM_701 : Cond.selects RX8 yX8_take yX8_take ∈ lw_tbl := List.mem_of_getElem? (i := 14) rfl
set_option maxRecDepth 100000 in
theorem lwM_702 : Cond.code yX8_take cX8_take 3 none ∈ lw_tbl := List.mem_of_getElem? (i := 660) rfl
set_option maxRecDepth 100000 in
theorem lwM_703 : Cond.methodLink RX9 239 yX8_mean ∈ lw_tbl := List.mem_of_getElem? (i := 661) rfl
set_option maxRecDepth 100000 in
theorem lwM_704 : Cond.instanceMethod yX8_mean ∈ lw_tbl := List.mem_of_getElem? (i := 662) rfl
set_option maxRecDepth 100000 in
theorem lwM_705 : Cond.selects RX8 yX8_mean yX8_mean ∈ lw_tbl := List.mem_of_getElem? (i := 663) rfl
set_option maxRecDepth 100000 in
theorem lwM_706 : Cond.code yX8_mean cX8_mean 1 (some .int) ∈ lw_tbl := List.mem_of_getElem? (i := 664) rfl
set_option maxRecDepth 100000 in
theorem lwM_707 : u_lay RX8 TX8 0 ∈ lw_tbl := List.mem_of_getElem? (i := 232) rfl
set_option maxRecDepth 100000 in
theorem lwM_708 : u_lay RX8 TX8 1 ∈ lw_tbl := List.mem_of_getElem? (i := 234) rfl
set_option maxRecDepth 100000 in
theorem lwM_709 : u_lay RX8 TX8 2 ∈ lw_tbl := List.mem_of_getElem? (i := 236) rfl
set_option maxRecDepth 100000 in
theorem lwM_710 : u_lay RX8 TX8 3 ∈ lw_tbl := List.mem_of_getElem? (i := 238) rfl
set_option maxRecDepth 100000 in
theorem lwM_711 : Cond.methodLink RL 123 yX10_guess ∈ lw_tbl := List.mem_of_getElem? (i := 1025) rfl
set_option maxRecDepth 100000 in
theorem lwM_712 : Cond.instanceMethod yX10_guess ∈ lw_tbl := List.mem_of_getElem? (i := 1026) rfl
set_option maxRecDepth 100000 in
theorem lwM_713 : Cond.selects RX10 yX10_guess yX10_guess ∈ lw_tbl := List.mem_of_getElem? (i := 1027) rfl
set_option maxRecDepth 100000 in
theorem lwM_714 : Cond.code yX10_guess cX10_guess 11 (some .int) ∈ lw_tbl := List.mem_of_getElem? (i := 1028) rfl
set_option maxRecDepth 100000 in
theorem lwM_715 : Cond.methodLink RX10 199 yX10_round ∈ lw_tbl := List.mem_of_getElem? (i := 1029) rfl
set_option maxRecDepth 100000 in
theorem lwM_716 : Cond.static yX10_round ∈ lw_tbl := List.mem_of_getElem? (i := 1030) rfl
set_option maxRecDepth 100000 in
theorem lwM_717 : Cond.code yX10_round cX10_round 4 (some .int) ∈ lw_tbl := List.mem_of_getElem? (i := 1031) rfl
set_option maxRecDepth 100000 in
theorem lwM_718 : Cond.methodLink RL 124 yX9_under ∈ lw_tbl := List.mem_of_getElem? (i := 665) rfl
set_option maxRecDepth 100000 in
theorem lwM_719 : Cond.instanceMethod yX9_under ∈ lw_tbl := List.mem_of_getElem? (i := 666) rfl
set_option maxRecDepth 100000 in
theorem lwM_720 : Cond.selects RX9 yX9_under yX9_under ∈ lw_tbl := List.mem_of_getElem? (i := 667) rfl
set_option maxRecDepth 100000 in
theorem lwM_721 : Cond.code yX9_under cX9_under 3 (some .int) ∈ lw_tbl := List.mem_of_getElem? (i := 668) rfl
set_option maxRecDepth 100000 in
theorem lwM_722 : Cond.fieldLink RX9 53 "CloudOffice" "notes" "LCloudOffice$Table;" ∈ lw_tbl := List.mem_of_getElem? (i := 267) rfl
set_option maxRecDepth 100000 in
theorem lwM_723 : Cond.methodLink RL 127 yX10_under ∈ lw_tbl := List.mem_of_getElem? (i := 1032) rfl
set_option maxRecDepth 100000 in
theorem lwM_724 : Cond.instanceMethod yX10_under ∈ lw_tbl := List.mem_of_getElem? (i := 1033) rfl
set_option maxRecDepth 100000 in
theorem lwM_725 : Cond.selects RX10 yX10_under yX10_under ∈ lw_tbl := List.mem_of_getElem? (i := 1034) rfl
set_option maxRecDepth 100000 in
theorem lwM_726 : Cond.code yX10_under cX10_under 3 (some .int) ∈ lw_tbl := List.mem_of_getElem? (i := 1035) rfl
set_option maxRecDepth 100000 in
theorem lwM_727 : Cond.fieldLink RX10 203 "CloudOfficeModel" "notes" "I" ∈ lw_tbl := List.mem_of_getElem? (i := 770) rfl
set_option maxRecDepth 100000 in
theorem lwM_728 : Cond.fieldLink RX10 52 "CloudOfficeModel" "under" "[I" ∈ lw_tbl := List.mem_of_getElem? (i := 771) rfl
set_option maxRecDepth 100000 in
theorem lwM_729 : Cond.methodLink RL 128 yX9_order ∈ lw_tbl := List.mem_of_getElem? (i := 669) rfl
set_option maxRecDepth 100000 in
theorem lwM_730 : Cond.instanceMethod yX9_order ∈ lw_tbl := List.mem_of_getElem? (i := 670) rfl
set_option maxRecDepth 100000 in
theorem lwM_731 : Cond.selects RX9 yX9_order yX9_order ∈ lw_tbl := List.mem_of_getElem? (i := 671) rfl
set_option maxRecDepth 100000 in
theorem lwM_732 : Cond.code yX9_order cX9_order 4 (some .int) ∈ lw_tbl := List.mem_of_getElem? (i := 672) rfl
set_option maxRecDepth 100000 in
theorem lwM_733 : Cond.fieldLink RX9 100 "CloudOffice" "sheets" "LCloudOffice$Sheets;" ∈ lw_tbl := List.mem_of_getElem? (i := 273) rfl
set_option maxRecDepth 100000 in
theorem lwM_734 : Cond.methodLink RX9 251 yX5_bestKey ∈ lw_tbl := List.mem_of_getElem? (i := 673) rfl
set_option maxRecDepth 100000 in
theorem lwM_735 : Cond.instanceMethod yX5_bestKey ∈ lw_tbl := List.mem_of_getElem? (i := 674) rfl
set_option maxRecDepth 100000 in
theorem lwM_736 : Cond.selects RX5 yX5_bestKey yX5_bestKey ∈ lw_tbl := List.mem_of_getElem? (i := 675) rfl
set_option maxRecDepth 100000 in
theorem lwM_737 : Cond.initialized RX5 ∈ lw_tbl := List.mem_of_getElem? (i := 45) rfl
set_option maxRecDepth 100000 in
theorem lwM_738 : Cond.code yX5_bestKey cX5_bestKey 2 (some .long) ∈ lw_tbl := List.mem_of_getElem? (i := 676) rfl
set_option maxRecDepth 100000 in
theorem lwM_739 : Cond.fieldLink RX5 19 "CloudOffice$Sheets" "keys" "[J" ∈ lw_tbl := List.mem_of_getElem? (i := 249) rfl
set_option maxRecDepth 100000 in
theorem lwM_740 : Cond.methodLink RX5 23 yX5_countVotes ∈ lw_tbl := List.mem_of_getElem? (i := 677) rfl
set_option maxRecDepth 100000 in
theorem lwM_741 : Cond.instanceMethod yX5_countVotes ∈ lw_tbl := List.mem_of_getElem? (i := 679) rfl
set_option maxRecDepth 100000 in
theorem lwM_742 : Cond.selects RX5 yX5_countVotes yX5_countVotes ∈ lw_tbl := List.mem_of_getElem? (i := 15) rfl
set_option maxRecDepth 100000 in
theorem lwM_743 : Cond.code yX5_countVotes cX5_countVotes 3 none ∈ lw_tbl := List.mem_of_getElem? (i := 680) rfl
set_option maxRecDepth 100000 in
theorem lwM_744 : Cond.fieldLink RX5 15 "CloudOffice$Sheets" "votes" "[I" ∈ lw_tbl := List.mem_of_getElem? (i := 248) rfl
set_option maxRecDepth 100000 in
theorem lwM_745 : Cond.fieldLink RX5 9 "CloudOffice$Sheets" "notes" "LCloudOffice$Table;" ∈ lw_tbl := List.mem_of_getElem? (i := 247) rfl
set_option maxRecDepth 100000 in
theorem lwM_746 : Cond.methodLink RX5 30 yX7_size ∈ lw_tbl := List.mem_of_getElem? (i := 681) rfl
set_option maxRecDepth 100000 in
theorem lwM_747 : Cond.methodLink RX5 36 yX7_at ∈ lw_tbl := List.mem_of_getElem? (i := 682) rfl
set_option maxRecDepth 100000 in
theorem lwM_748 : Cond.methodLink RX5 26 yX5_bestOf ∈ lw_tbl := List.mem_of_getElem? (i := 683) rfl
set_option maxRecDepth 100000 in
theorem lwM_749 : Cond.instanceMethod yX5_bestOf ∈ lw_tbl := List.mem_of_getElem? (i := 685) rfl
set_option maxRecDepth 100000 in
theorem lwM_750 : Cond.selects RX5 yX5_bestOf yX5_bestOf ∈ lw_tbl := List.mem_of_getElem? (i := 16) rfl
set_option maxRecDepth 100000 in
theorem lwM_751 : Cond.code yX5_bestOf cX5_bestOf 9 (some .long) ∈ lw_tbl := List.mem_of_getElem? (i := 686) rfl
set_option maxRecDepth 100000 in
theorem lwM_752 : Cond.constantLong RX5 46 (1152921504606846976) ∈ lw_tbl := List.mem_of_getElem? (i := 688) rfl
set_option maxRecDepth 100000 in
theorem lwM_753 : Cond.methodLink RX5 51 Lib.MathLoose.min_long.x ∈ lw_tbl := List.mem_of_getElem? (i := 693) rfl
set_option maxRecDepth 100000 in
theorem lwM_754 : Cond.methodLink RX5 40 yJ6_bitCount_0f7a4 ∈ lw_tbl := List.mem_of_getElem? (i := 687) rfl
set_option maxRecDepth 100000 in
theorem lwM_755 : Cond.methodLink RX5 48 yX5_votesAgainst ∈ lw_tbl := List.mem_of_getElem? (i := 689) rfl
set_option maxRecDepth 100000 in
theorem lwM_756 : Cond.instanceMethod yX5_votesAgainst ∈ lw_tbl := List.mem_of_getElem? (i := 691) rfl
set_option maxRecDepth 100000 in
theorem lwM_757 : Cond.selects RX5 yX5_votesAgainst yX5_votesAgainst ∈ lw_tbl := List.mem_of_getElem? (i := 17) rfl
set_option maxRecDepth 100000 in
theorem lwM_758 : Cond.code yX5_votesAgainst cX5_votesAgainst 6 (some .int) ∈ lw_tbl := List.mem_of_getElem? (i := 692) rfl
set_option maxRecDepth 100000 in
theorem lwM_759 : Cond.methodLink RX9 252 yX5_quarrelOf ∈ lw_tbl := List.mem_of_getElem? (i := 694) rfl
set_option maxRecDepth 100000 in
theorem lwM_760 : Cond.instanceMethod yX5_quarrelOf ∈ lw_tbl := List.mem_of_getElem? (i := 695) rfl
set_option maxRecDepth 100000 in
theorem lwM_761 : Cond.selects RX5 yX5_quarrelOf yX5_quarrelOf ∈ lw_tbl := List.mem_of_getElem? (i := 696) rfl
set_option maxRecDepth 100000 in
theorem lwM_762 : Cond.code yX5_quarrelOf cX5_quarrelOf 3 (some .int) ∈ lw_tbl := List.mem_of_getElem? (i := 697) rfl
set_option maxRecDepth 100000 in
theorem lwM_763 : Cond.methodLink RX9 255 yX5_formAt ∈ lw_tbl := List.mem_of_getElem? (i := 698) rfl
set_option maxRecDepth 100000 in
theorem lwM_764 : Cond.instanceMethod yX5_formAt ∈ lw_tbl := List.mem_of_getElem? (i := 699) rfl
set_option maxRecDepth 100000 in
theorem lwM_765 : Cond.selects RX5 yX5_formAt yX5_formAt ∈ lw_tbl := List.mem_of_getElem? (i := 700) rfl
set_option maxRecDepth 100000 in
theorem lwM_766 : Cond.code yX5_formAt cX5_formAt 4 (some .int) ∈ lw_tbl := List.mem_of_getElem? (i := 701) rfl
set_option maxRecDepth 100000 in
theorem lwM_767 : Cond.constantLong RX5 57 (7) ∈ lw_tbl := List.mem_of_getElem? (i := 702) rfl
set_option maxRecDepth 100000 in
theorem lwM_768 : u_lay RX5 TX5 0 ∈ lw_tbl := List.mem_of_getElem? (i := 250) rfl
set_option maxRecDepth 100000 in
theorem lwM_769 : u_lay RX5 TX5 1 ∈ lw_tbl := List.mem_of_getElem? (i := 252) rfl
set_option maxRecDepth 100000 in
theorem lwM_770 : u_lay RX5 TX5 2 ∈ lw_tbl := List.mem_of_getElem? (i := 254) rfl
set_option maxRecDepth 100000 in
theorem lwM_771 : Cond.methodLink RL 131 yX10_order ∈ lw_tbl := List.mem_of_getElem? (i := 1036) rfl
set_option maxRecDepth 100000 in
theorem lwM_772 : Cond.instanceMethod yX10_order ∈ lw_tbl := List.mem_of_getElem? (i := 1037) rfl
set_option maxRecDepth 100000 in
theorem lwM_773 : Cond.selects RX10 yX10_order yX10_order ∈ lw_tbl := List.mem_of_getElem? (i := 1038) rfl
set_option maxRecDepth 100000 in
theorem lwM_774 : Cond.code yX10_order cX10_order 6 (some .int) ∈ lw_tbl := List.mem_of_getElem? (i := 1039) rfl
set_option maxRecDepth 100000 in
theorem lwM_775 : Cond.fieldLink RX10 55 "CloudOfficeModel" "agreed" "[I" ∈ lw_tbl := List.mem_of_getElem? (i := 772) rfl
set_option maxRecDepth 100000 in
theorem lwM_776 : Cond.methodLink RX10 206 yX10_gain ∈ lw_tbl := List.mem_of_getElem? (i := 1040) rfl
set_option maxRecDepth 100000 in
theorem lwM_777 : Cond.instanceMethod yX10_gain ∈ lw_tbl := List.mem_of_getElem? (i := 1042) rfl
set_option maxRecDepth 100000 in
theorem lwM_778 : Cond.selects RX10 yX10_gain yX10_gain ∈ lw_tbl := List.mem_of_getElem? (i := 32) rfl
set_option maxRecDepth 100000 in
theorem lwM_779 : Cond.code yX10_gain cX10_gain 5 (some .int) ∈ lw_tbl := List.mem_of_getElem? (i := 1043) rfl
set_option maxRecDepth 100000 in
theorem lwM_780 : Cond.methodLink RL 132 yX9_count ∈ lw_tbl := List.mem_of_getElem? (i := 703) rfl
set_option maxRecDepth 100000 in
theorem lwM_781 : Cond.instanceMethod yX9_count ∈ lw_tbl := List.mem_of_getElem? (i := 704) rfl
set_option maxRecDepth 100000 in
theorem lwM_782 : Cond.selects RX9 yX9_count yX9_count ∈ lw_tbl := List.mem_of_getElem? (i := 705) rfl
set_option maxRecDepth 100000 in
theorem lwM_783 : Cond.code yX9_count cX9_count 2 (some .int) ∈ lw_tbl := List.mem_of_getElem? (i := 706) rfl
set_option maxRecDepth 100000 in
theorem lwM_784 : Cond.methodLink RX9 258 yX7_size ∈ lw_tbl := List.mem_of_getElem? (i := 707) rfl
set_option maxRecDepth 100000 in
theorem lwM_785 : Cond.methodLink RL 135 yX10_count ∈ lw_tbl := List.mem_of_getElem? (i := 1044) rfl
set_option maxRecDepth 100000 in
theorem lwM_786 : Cond.instanceMethod yX10_count ∈ lw_tbl := List.mem_of_getElem? (i := 1045) rfl
set_option maxRecDepth 100000 in
theorem lwM_787 : Cond.selects RX10 yX10_count yX10_count ∈ lw_tbl := List.mem_of_getElem? (i := 1046) rfl
set_option maxRecDepth 100000 in
theorem lwM_788 : Cond.code yX10_count cX10_count 2 (some .int) ∈ lw_tbl := List.mem_of_getElem? (i := 1047) rfl
set_option maxRecDepth 100000 in
theorem lwM_789 : Cond.methodLink RX10 209 yX10_countOf ∈ lw_tbl := List.mem_of_getElem? (i := 1048) rfl
set_option maxRecDepth 100000 in
theorem lwM_790 : Cond.instanceMethod yX10_countOf ∈ lw_tbl := List.mem_of_getElem? (i := 1050) rfl
set_option maxRecDepth 100000 in
theorem lwM_791 : Cond.selects RX10 yX10_countOf yX10_countOf ∈ lw_tbl := List.mem_of_getElem? (i := 33) rfl
set_option maxRecDepth 100000 in
theorem lwM_792 : Cond.code yX10_countOf cX10_countOf 2 (some .int) ∈ lw_tbl := List.mem_of_getElem? (i := 1051) rfl
set_option maxRecDepth 100000 in
theorem lwM_793 : Cond.methodLink RL 136 yX9_digest ∈ lw_tbl := List.mem_of_getElem? (i := 708) rfl
set_option maxRecDepth 100000 in
theorem lwM_794 : Cond.instanceMethod yX9_digest ∈ lw_tbl := List.mem_of_getElem? (i := 709) rfl
set_option maxRecDepth 100000 in
theorem lwM_795 : Cond.selects RX9 yX9_digest yX9_digest ∈ lw_tbl := List.mem_of_getElem? (i := 710) rfl
set_option maxRecDepth 100000 in
theorem lwM_796 : Cond.code yX9_digest cX9_digest 4 (some .long) ∈ lw_tbl := List.mem_of_getElem? (i := 711) rfl
set_option maxRecDepth 100000 in
theorem lwM_797 : Cond.constantLong RX9 261 (317) ∈ lw_tbl := List.mem_of_getElem? (i := 712) rfl
set_option maxRecDepth 100000 in
theorem lwM_798 : Cond.constantLong RX9 263 (31) ∈ lw_tbl := List.mem_of_getElem? (i := 713) rfl
set_option maxRecDepth 100000 in
theorem lwM_799 : Cond.methodLink RX9 265 yX9_count ∈ lw_tbl := List.mem_of_getElem? (i := 714) rfl
set_option maxRecDepth 100000 in
theorem lwM_800 : Cond.methodLink RX9 268 yX4_mixInto ∈ lw_tbl := List.mem_of_getElem? (i := 715) rfl
set_option maxRecDepth 100000 in
theorem lwM_801 : Cond.instanceMethod yX4_mixInto ∈ lw_tbl := List.mem_of_getElem? (i := 716) rfl
set_option maxRecDepth 100000 in
theorem lwM_802 : Cond.selects RX4 yX4_mixInto yX4_mixInto ∈ lw_tbl := List.mem_of_getElem? (i := 717) rfl
set_option maxRecDepth 100000 in
theorem lwM_803 : Cond.initialized RX4 ∈ lw_tbl := List.mem_of_getElem? (i := 37) rfl
set_option maxRecDepth 100000 in
theorem lwM_804 : Cond.code yX4_mixInto cX4_mixInto 5 (some .long) ∈ lw_tbl := List.mem_of_getElem? (i := 718) rfl
set_option maxRecDepth 100000 in
theorem lwM_805 : Cond.constantLong RX4 28 (31) ∈ lw_tbl := List.mem_of_getElem? (i := 719) rfl
set_option maxRecDepth 100000 in
theorem lwM_806 : Cond.fieldLink RX4 7 "CloudOffice$Settings" "base" "I" ∈ lw_tbl := List.mem_of_getElem? (i := 77) rfl
set_option maxRecDepth 100000 in
theorem lwM_807 : Cond.fieldLink RX4 13 "CloudOffice$Settings" "slip" "I" ∈ lw_tbl := List.mem_of_getElem? (i := 81) rfl
set_option maxRecDepth 100000 in
theorem lwM_808 : Cond.fieldLink RX4 16 "CloudOffice$Settings" "low" "I" ∈ lw_tbl := List.mem_of_getElem? (i := 84) rfl
set_option maxRecDepth 100000 in
theorem lwM_809 : Cond.fieldLink RX4 19 "CloudOffice$Settings" "high" "I" ∈ lw_tbl := List.mem_of_getElem? (i := 87) rfl
set_option maxRecDepth 100000 in
theorem lwM_810 : Cond.fieldLink RX4 22 "CloudOffice$Settings" "unlike" "I" ∈ lw_tbl := List.mem_of_getElem? (i := 90) rfl
set_option maxRecDepth 100000 in
theorem lwM_811 : Cond.fieldLink RX4 25 "CloudOffice$Settings" "alone" "I" ∈ lw_tbl := List.mem_of_getElem? (i := 93) rfl
set_option maxRecDepth 100000 in
theorem lwM_812 : Cond.methodLink RX9 272 yX7_mixInto ∈ lw_tbl := List.mem_of_getElem? (i := 720) rfl
set_option maxRecDepth 100000 in
theorem lwM_813 : Cond.instanceMethod yX7_mixInto ∈ lw_tbl := List.mem_of_getElem? (i := 721) rfl
set_option maxRecDepth 100000 in
theorem lwM_814 : Cond.selects RX7 yX7_mixInto yX7_mixInto ∈ lw_tbl := List.mem_of_getElem? (i := 722) rfl
set_option maxRecDepth 100000 in
theorem lwM_815 : Cond.code yX7_mixInto cX7_mixInto 7 (some .long) ∈ lw_tbl := List.mem_of_getElem? (i := 723) rfl
set_option maxRecDepth 100000 in
theorem lwM_816 : Cond.methodLink RX7 39 Lib.Math.min.name ∈ lw_tbl := List.mem_of_getElem? (i := 724) rfl
set_option maxRecDepth 100000 in
theorem lwM_817 : Cond.constantLong RX7 42 (31) ∈ lw_tbl := List.mem_of_getElem? (i := 725) rfl
set_option maxRecDepth 100000 in
theorem lwM_818 : Cond.methodLink RX9 273 yX1_mixInto ∈ lw_tbl := List.mem_of_getElem? (i := 726) rfl
set_option maxRecDepth 100000 in
theorem lwM_819 : Cond.instanceMethod yX1_mixInto ∈ lw_tbl := List.mem_of_getElem? (i := 727) rfl
set_option maxRecDepth 100000 in
theorem lwM_820 : Cond.selects RX1 yX1_mixInto yX1_mixInto ∈ lw_tbl := List.mem_of_getElem? (i := 728) rfl
set_option maxRecDepth 100000 in
theorem lwM_821 : Cond.code yX1_mixInto cX1_mixInto 3 (some .long) ∈ lw_tbl := List.mem_of_getElem? (i := 729) rfl
set_option maxRecDepth 100000 in
theorem lwM_822 : Cond.constantLong RX1 29 (31) ∈ lw_tbl := List.mem_of_getElem? (i := 730) rfl
set_option maxRecDepth 100000 in
theorem lwM_823 : Cond.methodLink RL 139 yX10_digest ∈ lw_tbl := List.mem_of_getElem? (i := 1052) rfl
set_option maxRecDepth 100000 in
theorem lwM_824 : Cond.instanceMethod yX10_digest ∈ lw_tbl := List.mem_of_getElem? (i := 1053) rfl
set_option maxRecDepth 100000 in
theorem lwM_825 : Cond.selects RX10 yX10_digest yX10_digest ∈ lw_tbl := List.mem_of_getElem? (i := 1054) rfl
set_option maxRecDepth 100000 in
theorem lwM_826 : Cond.code yX10_digest cX10_digest 5 (some .long) ∈ lw_tbl := List.mem_of_getElem? (i := 1055) rfl
set_option maxRecDepth 100000 in
theorem lwM_827 : Cond.constantLong RX10 214 (317) ∈ lw_tbl := List.mem_of_getElem? (i := 1056) rfl
set_option maxRecDepth 100000 in
theorem lwM_828 : Cond.constantLong RX10 212 (31) ∈ lw_tbl := List.mem_of_getElem? (i := 1057) rfl
set_option maxRecDepth 100000 in
theorem lwM_829 : Cond.methodLink RX10 216 yX10_mixed ∈ lw_tbl := List.mem_of_getElem? (i := 1058) rfl
set_option maxRecDepth 100000 in
theorem lwM_830 : Cond.static yX10_mixed ∈ lw_tbl := List.mem_of_getElem? (i := 1059) rfl
set_option maxRecDepth 100000 in
theorem lwM_831 : Cond.code yX10_mixed cX10_mixed 7 (some .long) ∈ lw_tbl := List.mem_of_getElem? (i := 1060) rfl
set_option maxRecDepth 100000 in
theorem lwM_832 : Cond.code yX9_init cX9_init 1 none ∈ lw_tbl := List.mem_of_getElem? (i := 52) rfl
set_option maxRecDepth 100000 in
theorem lwM_833 : Cond.methodLink RX9 1 objectInit ∈ lw_tbl := List.mem_of_getElem? (i := 53) rfl
set_option maxRecDepth 100000 in
theorem lwM_834 : Cond.instanceMethod objectInit ∈ lw_tbl := List.mem_of_getElem? (i := 54) rfl
set_option maxRecDepth 100000 in
theorem lwM_835 : Cond.code objectInit ⟨#[0xb1]⟩ 1 none ∈ lw_tbl := List.mem_of_getElem? (i := 55) rfl
set_option maxRecDepth 100000 in
theorem lwM_836 : Cond.classLink RX9 7 RX1 ∈ lw_tbl := List.mem_of_getElem? (i := 56) rfl
set_option maxRecDepth 100000 in
theorem lwM_837 : Cond.instantiable RX1 2 ∈ lw_tbl := List.mem_of_getElem? (i := 57) rfl
set_option maxRecDepth 100000 in
theorem lwM_838 : Cond.classLink RX9 16 RX4 ∈ lw_tbl := List.mem_of_getElem? (i := 71) rfl
set_option maxRecDepth 100000 in
theorem lwM_839 : Cond.instantiable RX4 6 ∈ lw_tbl := List.mem_of_getElem? (i := 72) rfl
set_option maxRecDepth 100000 in
theorem lwM_840 : Cond.classLink RX9 23 RX7 ∈ lw_tbl := List.mem_of_getElem? (i := 109) rfl
set_option maxRecDepth 100000 in
theorem lwM_841 : Cond.instantiable RX7 4 ∈ lw_tbl := List.mem_of_getElem? (i := 110) rfl
set_option maxRecDepth 100000 in
theorem lwM_842 : Cond.classLink RX9 56 RX3 ∈ lw_tbl := List.mem_of_getElem? (i := 132) rfl
set_option maxRecDepth 100000 in
theorem lwM_843 : Cond.instantiable RX3 6 ∈ lw_tbl := List.mem_of_getElem? (i := 133) rfl
set_option maxRecDepth 100000 in
theorem lwM_844 : Cond.classLink RX9 65 RX6 ∈ lw_tbl := List.mem_of_getElem? (i := 158) rfl
set_option maxRecDepth 100000 in
theorem lwM_845 : Cond.instantiable RX6 7 ∈ lw_tbl := List.mem_of_getElem? (i := 159) rfl
set_option maxRecDepth 100000 in
theorem lwM_846 : Cond.classLink RX9 74 RX2 ∈ lw_tbl := List.mem_of_getElem? (i := 188) rfl
set_option maxRecDepth 100000 in
theorem lwM_847 : Cond.instantiable RX2 4 ∈ lw_tbl := List.mem_of_getElem? (i := 189) rfl
set_option maxRecDepth 100000 in
theorem lwM_848 : Cond.classLink RX9 83 RX0 ∈ lw_tbl := List.mem_of_getElem? (i := 207) rfl
set_option maxRecDepth 100000 in
theorem lwM_849 : Cond.instantiable RX0 2 ∈ lw_tbl := List.mem_of_getElem? (i := 208) rfl
set_option maxRecDepth 100000 in
theorem lwM_850 : Cond.classLink RX9 90 RX8 ∈ lw_tbl := List.mem_of_getElem? (i := 220) rfl
set_option maxRecDepth 100000 in
theorem lwM_851 : Cond.instantiable RX8 4 ∈ lw_tbl := List.mem_of_getElem? (i := 221) rfl
set_option maxRecDepth 100000 in
theorem lwM_852 : Cond.classLink RX9 97 RX5 ∈ lw_tbl := List.mem_of_getElem? (i := 241) rfl
set_option maxRecDepth 100000 in
theorem lwM_853 : Cond.instantiable RX5 3 ∈ lw_tbl := List.mem_of_getElem? (i := 242) rfl
set_option maxRecDepth 100000 in
theorem lwM_854 : Cond.methodLink RX9 9 yX1_init ∈ lw_tbl := List.mem_of_getElem? (i := 58) rfl
set_option maxRecDepth 100000 in
theorem lwM_855 : Cond.instanceMethod yX1_init ∈ lw_tbl := List.mem_of_getElem? (i := 59) rfl
set_option maxRecDepth 100000 in
theorem lwM_856 : Cond.code yX1_init cX1_init 1 none ∈ lw_tbl := List.mem_of_getElem? (i := 60) rfl
set_option maxRecDepth 100000 in
theorem lwM_857 : Cond.methodLink RX1 1 objectInit ∈ lw_tbl := List.mem_of_getElem? (i := 61) rfl
set_option maxRecDepth 100000 in
theorem lwM_858 : Cond.methodLink RX9 18 yX4_init ∈ lw_tbl := List.mem_of_getElem? (i := 73) rfl
set_option maxRecDepth 100000 in
theorem lwM_859 : Cond.instanceMethod yX4_init ∈ lw_tbl := List.mem_of_getElem? (i := 74) rfl
set_option maxRecDepth 100000 in
theorem lwM_860 : Cond.code yX4_init cX4_init 1 none ∈ lw_tbl := List.mem_of_getElem? (i := 75) rfl
set_option maxRecDepth 100000 in
theorem lwM_861 : Cond.methodLink RX4 1 objectInit ∈ lw_tbl := List.mem_of_getElem? (i := 76) rfl
set_option maxRecDepth 100000 in
theorem lwM_862 : Cond.methodLink RX9 25 yX7_init ∈ lw_tbl := List.mem_of_getElem? (i := 111) rfl
set_option maxRecDepth 100000 in
theorem lwM_863 : Cond.instanceMethod yX7_init ∈ lw_tbl := List.mem_of_getElem? (i := 112) rfl
set_option maxRecDepth 100000 in
theorem lwM_864 : Cond.code yX7_init cX7_init 3 none ∈ lw_tbl := List.mem_of_getElem? (i := 113) rfl
set_option maxRecDepth 100000 in
theorem lwM_865 : Cond.methodLink RX7 3 objectInit ∈ lw_tbl := List.mem_of_getElem? (i := 114) rfl
set_option maxRecDepth 100000 in
theorem lwM_866 : Cond.methodLink RX7 18 Lib.Math.max.name ∈ lw_tbl := List.mem_of_getElem? (i := 115) rfl
set_option maxRecDepth 100000 in
theorem lwM_867 : Cond.static Lib.Math.max.name ∈ lw_tbl := List.mem_of_getElem? (i := 116) rfl
set_option maxRecDepth 100000 in
theorem lwM_868 : Cond.code Lib.Math.max.name Lib.Math.max.code 2 (some .int) ∈ lw_tbl := List.mem_of_getElem? (i := 117) rfl
set_option maxRecDepth 100000 in
theorem lwM_869 : Cond.arrayClass .int ∈ lw_tbl := List.mem_of_getElem? (i := 131) rfl
set_option maxRecDepth 100000 in
theorem lwM_870 : Cond.methodLink RX9 58 yX3_init ∈ lw_tbl := List.mem_of_getElem? (i := 134) rfl
set_option maxRecDepth 100000 in
theorem lwM_871 : Cond.instanceMethod yX3_init ∈ lw_tbl := List.mem_of_getElem? (i := 135) rfl
set_option maxRecDepth 100000 in
theorem lwM_872 : Cond.code yX3_init cX3_init 5 none ∈ lw_tbl := List.mem_of_getElem? (i := 136) rfl
set_option maxRecDepth 100000 in
theorem lwM_873 : Cond.methodLink RX3 3 objectInit ∈ lw_tbl := List.mem_of_getElem? (i := 137) rfl
set_option maxRecDepth 100000 in
theorem lwM_874 : Cond.arrayClass .long ∈ lw_tbl := List.mem_of_getElem? (i := 157) rfl
set_option maxRecDepth 100000 in
theorem lwM_875 : Cond.methodLink RX9 67 yX6_init ∈ lw_tbl := List.mem_of_getElem? (i := 160) rfl
set_option maxRecDepth 100000 in
theorem lwM_876 : Cond.instanceMethod yX6_init ∈ lw_tbl := List.mem_of_getElem? (i := 161) rfl
set_option maxRecDepth 100000 in
theorem lwM_877 : Cond.code yX6_init cX6_init 4 none ∈ lw_tbl := List.mem_of_getElem? (i := 162) rfl
set_option maxRecDepth 100000 in
theorem lwM_878 : Cond.methodLink RX6 1 objectInit ∈ lw_tbl := List.mem_of_getElem? (i := 163) rfl
set_option maxRecDepth 100000 in
theorem lwM_879 : Cond.classLink RX6 20 RX1 ∈ lw_tbl := List.mem_of_getElem? (i := 164) rfl
set_option maxRecDepth 100000 in
theorem lwM_880 : Cond.methodLink RX6 22 yX1_init ∈ lw_tbl := List.mem_of_getElem? (i := 165) rfl
set_option maxRecDepth 100000 in
theorem lwM_881 : Cond.methodLink RX9 76 yX2_init ∈ lw_tbl := List.mem_of_getElem? (i := 190) rfl
set_option maxRecDepth 100000 in
theorem lwM_882 : Cond.instanceMethod yX2_init ∈ lw_tbl := List.mem_of_getElem? (i := 191) rfl
set_option maxRecDepth 100000 in
theorem lwM_883 : Cond.code yX2_init cX2_init 2 none ∈ lw_tbl := List.mem_of_getElem? (i := 192) rfl
set_option maxRecDepth 100000 in
theorem lwM_884 : Cond.methodLink RX2 3 objectInit ∈ lw_tbl := List.mem_of_getElem? (i := 193) rfl
set_option maxRecDepth 100000 in
theorem lwM_885 : Cond.methodLink RX9 85 yX0_init ∈ lw_tbl := List.mem_of_getElem? (i := 209) rfl
set_option maxRecDepth 100000 in
theorem lwM_886 : Cond.instanceMethod yX0_init ∈ lw_tbl := List.mem_of_getElem? (i := 210) rfl
set_option maxRecDepth 100000 in
theorem lwM_887 : Cond.code yX0_init cX0_init 2 none ∈ lw_tbl := List.mem_of_getElem? (i := 211) rfl
set_option maxRecDepth 100000 in
theorem lwM_888 : Cond.methodLink RX0 3 objectInit ∈ lw_tbl := List.mem_of_getElem? (i := 212) rfl
set_option maxRecDepth 100000 in
theorem lwM_889 : Cond.methodLink RX9 92 yX8_init ∈ lw_tbl := List.mem_of_getElem? (i := 222) rfl
set_option maxRecDepth 100000 in
theorem lwM_890 : Cond.instanceMethod yX8_init ∈ lw_tbl := List.mem_of_getElem? (i := 223) rfl
set_option maxRecDepth 100000 in
theorem lwM_891 : Cond.code yX8_init cX8_init 2 none ∈ lw_tbl := List.mem_of_getElem? (i := 224) rfl
set_option maxRecDepth 100000 in
theorem lwM_892 : Cond.methodLink RX8 3 objectInit ∈ lw_tbl := List.mem_of_getElem? (i := 225) rfl
set_option maxRecDepth 100000 in
theorem lwM_893 : Cond.methodLink RX9 99 yX5_init ∈ lw_tbl := List.mem_of_getElem? (i := 243) rfl
set_option maxRecDepth 100000 in
theorem lwM_894 : Cond.instanceMethod yX5_init ∈ lw_tbl := List.mem_of_getElem? (i := 244) rfl
set_option maxRecDepth 100000 in
theorem lwM_895 : Cond.code yX5_init cX5_init 2 none ∈ lw_tbl := List.mem_of_getElem? (i := 245) rfl
set_option maxRecDepth 100000 in
theorem lwM_896 : Cond.methodLink RX5 3 objectInit ∈ lw_tbl := List.mem_of_getElem? (i := 246) rfl
set_option maxRecDepth 100000 in
theorem lwM_897 : Cond.code yX10_init cX10_init 1 none ∈ lw_tbl := List.mem_of_getElem? (i := 735) rfl
set_option maxRecDepth 100000 in
theorem lwM_898 : Cond.methodLink RX10 1 objectInit ∈ lw_tbl := List.mem_of_getElem? (i := 736) rfl
