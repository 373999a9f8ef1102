/-! ===== words by their places in the tables ===== -/
theorem wc_L_10 : (Jvm.Cond.classLink "EddyhallLaw" (10 : Nat) "Eddyhall") ∈ lw_tbl := List.mem_of_getElem? (i := 57) (by decide +kernel)
theorem wm_L_171 : (Jvm.Cond.methodLink "EddyhallLaw" (171 : Nat) yX5_init) ∈ lw_tbl := List.mem_of_getElem? (i := 59) (by decide +kernel)
theorem wm_X5_1 : (Jvm.Cond.methodLink "Eddyhall" (1 : Nat) ({ cls := "java/lang/Object", name := "<init>", desc := "()V" } : Jvm.MethodName)) ∈ lw_tbl := List.mem_of_getElem? (i := 62) (by decide +kernel)
theorem wc_X5_7 : (Jvm.Cond.classLink "Eddyhall" (7 : Nat) "Eddyhall$Water") ∈ lw_tbl := List.mem_of_getElem? (i := 65) (by decide +kernel)
theorem wn_X5_9 : (Jvm.Cond.methodLinkNest "Eddyhall" (9 : Nat) yX3_init "Eddyhall") ∈ lw_tbl := List.mem_of_getElem? (i := 67) (by decide +kernel)
theorem wm_X3_3 : (Jvm.Cond.methodLink "Eddyhall$Water" (3 : Nat) ({ cls := "java/lang/Object", name := "<init>", desc := "()V" } : Jvm.MethodName)) ∈ lw_tbl := List.mem_of_getElem? (i := 70) (by decide +kernel)
theorem wm_X3_48 : (Jvm.Cond.methodLink "Eddyhall$Water" (48 : Nat) yJ7_fill_53178) ∈ lw_tbl := List.mem_of_getElem? (i := 71) (by decide +kernel)
theorem wf_X3_9 : (Jvm.Cond.fieldLink "Eddyhall$Water" (9 : Nat) "Eddyhall$Water" "kinds" "[I") ∈ lw_tbl := List.mem_of_getElem? (i := 74) (by decide +kernel)
theorem wg_X5_57 : (Jvm.Cond.fieldLinkNest "Eddyhall" (57 : Nat) "Eddyhall$Water" "kinds" "[I" "Eddyhall") ∈ lw_tbl := List.mem_of_getElem? (i := 75) (by decide +kernel)
theorem wf_X3_15 : (Jvm.Cond.fieldLink "Eddyhall$Water" (15 : Nat) "Eddyhall$Water" "bodies" "[I") ∈ lw_tbl := List.mem_of_getElem? (i := 76) (by decide +kernel)
theorem wg_X5_60 : (Jvm.Cond.fieldLinkNest "Eddyhall" (60 : Nat) "Eddyhall$Water" "bodies" "[I" "Eddyhall") ∈ lw_tbl := List.mem_of_getElem? (i := 77) (by decide +kernel)
theorem wf_X3_18 : (Jvm.Cond.fieldLink "Eddyhall$Water" (18 : Nat) "Eddyhall$Water" "particles" "[I") ∈ lw_tbl := List.mem_of_getElem? (i := 78) (by decide +kernel)
theorem wg_X5_78 : (Jvm.Cond.fieldLinkNest "Eddyhall" (78 : Nat) "Eddyhall$Water" "particles" "[I" "Eddyhall") ∈ lw_tbl := List.mem_of_getElem? (i := 79) (by decide +kernel)
theorem wf_X3_21 : (Jvm.Cond.fieldLink "Eddyhall$Water" (21 : Nat) "Eddyhall$Water" "dyed" "[I") ∈ lw_tbl := List.mem_of_getElem? (i := 80) (by decide +kernel)
theorem wg_X5_89 : (Jvm.Cond.fieldLinkNest "Eddyhall" (89 : Nat) "Eddyhall$Water" "dyed" "[I" "Eddyhall") ∈ lw_tbl := List.mem_of_getElem? (i := 81) (by decide +kernel)
theorem wf_X3_24 : (Jvm.Cond.fieldLink "Eddyhall$Water" (24 : Nat) "Eddyhall$Water" "hoppedParticles" "[I") ∈ lw_tbl := List.mem_of_getElem? (i := 82) (by decide +kernel)
theorem wf_X3_27 : (Jvm.Cond.fieldLink "Eddyhall$Water" (27 : Nat) "Eddyhall$Water" "hoppedDyed" "[I") ∈ lw_tbl := List.mem_of_getElem? (i := 83) (by decide +kernel)
theorem wf_X3_30 : (Jvm.Cond.fieldLink "Eddyhall$Water" (30 : Nat) "Eddyhall$Water" "hits" "[I") ∈ lw_tbl := List.mem_of_getElem? (i := 84) (by decide +kernel)
theorem wg_X5_139 : (Jvm.Cond.fieldLinkNest "Eddyhall" (139 : Nat) "Eddyhall$Water" "hits" "[I" "Eddyhall") ∈ lw_tbl := List.mem_of_getElem? (i := 85) (by decide +kernel)
theorem wf_X3_33 : (Jvm.Cond.fieldLink "Eddyhall$Water" (33 : Nat) "Eddyhall$Water" "pushRight" "[I") ∈ lw_tbl := List.mem_of_getElem? (i := 86) (by decide +kernel)
theorem wg_X5_142 : (Jvm.Cond.fieldLinkNest "Eddyhall" (142 : Nat) "Eddyhall$Water" "pushRight" "[I" "Eddyhall") ∈ lw_tbl := List.mem_of_getElem? (i := 87) (by decide +kernel)
theorem wf_X3_36 : (Jvm.Cond.fieldLink "Eddyhall$Water" (36 : Nat) "Eddyhall$Water" "pushUp" "[I") ∈ lw_tbl := List.mem_of_getElem? (i := 88) (by decide +kernel)
theorem wg_X5_145 : (Jvm.Cond.fieldLinkNest "Eddyhall" (145 : Nat) "Eddyhall$Water" "pushUp" "[I" "Eddyhall") ∈ lw_tbl := List.mem_of_getElem? (i := 89) (by decide +kernel)
theorem wf_X3_39 : (Jvm.Cond.fieldLink "Eddyhall$Water" (39 : Nat) "Eddyhall$Water" "came" "[I") ∈ lw_tbl := List.mem_of_getElem? (i := 90) (by decide +kernel)
theorem wg_X5_161 : (Jvm.Cond.fieldLinkNest "Eddyhall" (161 : Nat) "Eddyhall$Water" "came" "[I" "Eddyhall") ∈ lw_tbl := List.mem_of_getElem? (i := 91) (by decide +kernel)
theorem wf_X3_42 : (Jvm.Cond.fieldLink "Eddyhall$Water" (42 : Nat) "Eddyhall$Water" "gone" "[I") ∈ lw_tbl := List.mem_of_getElem? (i := 92) (by decide +kernel)
theorem wg_X5_164 : (Jvm.Cond.fieldLinkNest "Eddyhall" (164 : Nat) "Eddyhall$Water" "gone" "[I" "Eddyhall") ∈ lw_tbl := List.mem_of_getElem? (i := 93) (by decide +kernel)
theorem wf_X3_45 : (Jvm.Cond.fieldLink "Eddyhall$Water" (45 : Nat) "Eddyhall$Water" "struck" "[I") ∈ lw_tbl := List.mem_of_getElem? (i := 94) (by decide +kernel)
theorem wg_X5_167 : (Jvm.Cond.fieldLinkNest "Eddyhall" (167 : Nat) "Eddyhall$Water" "struck" "[I" "Eddyhall") ∈ lw_tbl := List.mem_of_getElem? (i := 95) (by decide +kernel)
theorem wf_X3_60 : (Jvm.Cond.fieldLink "Eddyhall$Water" (60 : Nat) "Eddyhall$Water" "meetings" "I") ∈ lw_tbl := List.mem_of_getElem? (i := 96) (by decide +kernel)
theorem wg_X5_155 : (Jvm.Cond.fieldLinkNest "Eddyhall" (155 : Nat) "Eddyhall$Water" "meetings" "I" "Eddyhall") ∈ lw_tbl := List.mem_of_getElem? (i := 97) (by decide +kernel)
theorem wc_X5_19 : (Jvm.Cond.classLink "Eddyhall" (19 : Nat) "Eddyhall$Counts") ∈ lw_tbl := List.mem_of_getElem? (i := 126) (by decide +kernel)
theorem wn_X5_21 : (Jvm.Cond.methodLinkNest "Eddyhall" (21 : Nat) yX0_init "Eddyhall") ∈ lw_tbl := List.mem_of_getElem? (i := 128) (by decide +kernel)
theorem wm_X0_3 : (Jvm.Cond.methodLink "Eddyhall$Counts" (3 : Nat) ({ cls := "java/lang/Object", name := "<init>", desc := "()V" } : Jvm.MethodName)) ∈ lw_tbl := List.mem_of_getElem? (i := 131) (by decide +kernel)
theorem wc_X0_9 : (Jvm.Cond.classLink "Eddyhall$Counts" (9 : Nat) "[[I") ∈ lw_tbl := List.mem_of_getElem? (i := 132) (by decide +kernel)
theorem wf_X0_11 : (Jvm.Cond.fieldLink "Eddyhall$Counts" (11 : Nat) "Eddyhall$Counts" "rows" "[[I") ∈ lw_tbl := List.mem_of_getElem? (i := 134) (by decide +kernel)
theorem wg_X5_108 : (Jvm.Cond.fieldLinkNest "Eddyhall" (108 : Nat) "Eddyhall$Counts" "rows" "[[I" "Eddyhall") ∈ lw_tbl := List.mem_of_getElem? (i := 135) (by decide +kernel)
theorem wf_X0_16 : (Jvm.Cond.fieldLink "Eddyhall$Counts" (16 : Nat) "Eddyhall$Counts" "moved" "[[I") ∈ lw_tbl := List.mem_of_getElem? (i := 136) (by decide +kernel)
theorem wg_X5_104 : (Jvm.Cond.fieldLinkNest "Eddyhall" (104 : Nat) "Eddyhall$Counts" "all" "I" "Eddyhall") ∈ lw_tbl := List.mem_of_getElem? (i := 137) (by decide +kernel)
theorem wf_X0_39 : (Jvm.Cond.fieldLink "Eddyhall$Counts" (39 : Nat) "Eddyhall$Counts" "rounds" "J") ∈ lw_tbl := List.mem_of_getElem? (i := 138) (by decide +kernel)
theorem wg_X5_135 : (Jvm.Cond.fieldLinkNest "Eddyhall" (135 : Nat) "Eddyhall$Counts" "rounds" "J" "Eddyhall") ∈ lw_tbl := List.mem_of_getElem? (i := 139) (by decide +kernel)
theorem wc_X5_26 : (Jvm.Cond.classLink "Eddyhall" (26 : Nat) "Eddyhall$Probes") ∈ lw_tbl := List.mem_of_getElem? (i := 149) (by decide +kernel)
theorem wn_X5_28 : (Jvm.Cond.methodLinkNest "Eddyhall" (28 : Nat) yX1_init "Eddyhall") ∈ lw_tbl := List.mem_of_getElem? (i := 151) (by decide +kernel)
theorem wm_X1_3 : (Jvm.Cond.methodLink "Eddyhall$Probes" (3 : Nat) ({ cls := "java/lang/Object", name := "<init>", desc := "()V" } : Jvm.MethodName)) ∈ lw_tbl := List.mem_of_getElem? (i := 154) (by decide +kernel)
theorem wc_X1_18 : (Jvm.Cond.classLink "Eddyhall$Probes" (18 : Nat) "[[B") ∈ lw_tbl := List.mem_of_getElem? (i := 155) (by decide +kernel)
theorem wf_X1_9 : (Jvm.Cond.fieldLink "Eddyhall$Probes" (9 : Nat) "Eddyhall$Probes" "cells" "[I") ∈ lw_tbl := List.mem_of_getElem? (i := 157) (by decide +kernel)
theorem wf_X1_15 : (Jvm.Cond.fieldLink "Eddyhall$Probes" (15 : Nat) "Eddyhall$Probes" "recorded" "[I") ∈ lw_tbl := List.mem_of_getElem? (i := 158) (by decide +kernel)
theorem wg_X5_219 : (Jvm.Cond.fieldLinkNest "Eddyhall" (219 : Nat) "Eddyhall$Probes" "recorded" "[I" "Eddyhall") ∈ lw_tbl := List.mem_of_getElem? (i := 159) (by decide +kernel)
theorem wf_X1_20 : (Jvm.Cond.fieldLink "Eddyhall$Probes" (20 : Nat) "Eddyhall$Probes" "rows" "[[B") ∈ lw_tbl := List.mem_of_getElem? (i := 160) (by decide +kernel)
theorem wg_X5_222 : (Jvm.Cond.fieldLinkNest "Eddyhall" (222 : Nat) "Eddyhall$Probes" "rows" "[[B" "Eddyhall") ∈ lw_tbl := List.mem_of_getElem? (i := 161) (by decide +kernel)
theorem wf_X1_23 : (Jvm.Cond.fieldLink "Eddyhall$Probes" (23 : Nat) "Eddyhall$Probes" "many" "I") ∈ lw_tbl := List.mem_of_getElem? (i := 162) (by decide +kernel)
theorem wg_X5_97 : (Jvm.Cond.fieldLinkNest "Eddyhall" (97 : Nat) "Eddyhall$Probes" "many" "I" "Eddyhall") ∈ lw_tbl := List.mem_of_getElem? (i := 163) (by decide +kernel)
theorem wf_X5_10 : (Jvm.Cond.fieldLink "Eddyhall" (10 : Nat) "Eddyhall" "water" "LEddyhall$Water;") ∈ lw_tbl := List.mem_of_getElem? (i := 174) (by decide +kernel)
theorem wf_X5_16 : (Jvm.Cond.fieldLink "Eddyhall" (16 : Nat) "Eddyhall" "trial" "LEddyhall$Water;") ∈ lw_tbl := List.mem_of_getElem? (i := 175) (by decide +kernel)
theorem wf_X5_22 : (Jvm.Cond.fieldLink "Eddyhall" (22 : Nat) "Eddyhall" "counts" "LEddyhall$Counts;") ∈ lw_tbl := List.mem_of_getElem? (i := 176) (by decide +kernel)
theorem wf_X5_29 : (Jvm.Cond.fieldLink "Eddyhall" (29 : Nat) "Eddyhall" "probes" "LEddyhall$Probes;") ∈ lw_tbl := List.mem_of_getElem? (i := 177) (by decide +kernel)
theorem wf_X5_33 : (Jvm.Cond.fieldLink "Eddyhall" (33 : Nat) "Eddyhall" "faults" "[I") ∈ lw_tbl := List.mem_of_getElem? (i := 178) (by decide +kernel)
theorem wf_X5_112 : (Jvm.Cond.fieldLink "Eddyhall" (112 : Nat) "Eddyhall" "stepsSoFar" "I") ∈ lw_tbl := List.mem_of_getElem? (i := 179) (by decide +kernel)
theorem wf_X5_63 : (Jvm.Cond.fieldLink "Eddyhall" (63 : Nat) "Eddyhall" "reach" "I") ∈ lw_tbl := List.mem_of_getElem? (i := 180) (by decide +kernel)
theorem wm_L_172 : (Jvm.Cond.methodLink "EddyhallLaw" (172 : Nat) yL_draw) ∈ lw_tbl := List.mem_of_getElem? (i := 196) (by decide +kernel)
theorem wk_L_7 : (Jvm.Cond.constant "EddyhallLaw" (7 : Nat) (qI (15595963))) ∈ lw_tbl := List.mem_of_getElem? (i := 199) (by decide +kernel)
theorem wk_L_8 : (Jvm.Cond.constant "EddyhallLaw" (8 : Nat) (qI (2147483647))) ∈ lw_tbl := List.mem_of_getElem? (i := 200) (by decide +kernel)
theorem wm_L_144 : (Jvm.Cond.methodLink "EddyhallLaw" (144 : Nat) yL_wall) ∈ lw_tbl := List.mem_of_getElem? (i := 201) (by decide +kernel)
theorem wc_L_15 : (Jvm.Cond.classLink "EddyhallLaw" (15 : Nat) "java/lang/IndexOutOfBoundsException") ∈ lw_tbl := List.mem_of_getElem? (i := 204) (by decide +kernel)
theorem wc_L_19 : (Jvm.Cond.classLink "EddyhallLaw" (19 : Nat) "java/lang/IllegalStateException") ∈ lw_tbl := List.mem_of_getElem? (i := 205) (by decide +kernel)
theorem wm_L_9 : (Jvm.Cond.methodLink "EddyhallLaw" (9 : Nat) yX5_wall) ∈ lw_tbl := List.mem_of_getElem? (i := 206) (by decide +kernel)
theorem wm_X5_37 : (Jvm.Cond.methodLink "Eddyhall" (37 : Nat) yX5_isNoCell) ∈ lw_tbl := List.mem_of_getElem? (i := 210) (by decide +kernel)
theorem wm_X5_41 : (Jvm.Cond.methodLink "Eddyhall" (41 : Nat) yX5_isNoBody) ∈ lw_tbl := List.mem_of_getElem? (i := 213) (by decide +kernel)
theorem wc_X5_44 : (Jvm.Cond.classLink "Eddyhall" (44 : Nat) "java/lang/IndexOutOfBoundsException") ∈ lw_tbl := List.mem_of_getElem? (i := 216) (by decide +kernel)
theorem wm_X5_46 : (Jvm.Cond.methodLink "Eddyhall" (46 : Nat) ({ cls := "java/lang/IndexOutOfBoundsException", name := "<init>", desc := "()V" } : Jvm.MethodName)) ∈ lw_tbl := List.mem_of_getElem? (i := 257) (by decide +kernel)
theorem wm_X5_47 : (Jvm.Cond.methodLink "Eddyhall" (47 : Nat) yX5_mayBeWall) ∈ lw_tbl := List.mem_of_getElem? (i := 279) (by decide +kernel)
theorem wn_X5_232 : (Jvm.Cond.methodLinkNest "Eddyhall" (232 : Nat) yX0_areAt "Eddyhall") ∈ lw_tbl := List.mem_of_getElem? (i := 283) (by decide +kernel)
theorem wn_X5_235 : (Jvm.Cond.methodLinkNest "Eddyhall" (235 : Nat) yX1_areAt "Eddyhall") ∈ lw_tbl := List.mem_of_getElem? (i := 287) (by decide +kernel)
theorem wn_X5_50 : (Jvm.Cond.methodLinkNest "Eddyhall" (50 : Nat) yX3_cellsOfBody "Eddyhall") ∈ lw_tbl := List.mem_of_getElem? (i := 291) (by decide +kernel)
theorem wc_X5_54 : (Jvm.Cond.classLink "Eddyhall" (54 : Nat) "java/lang/IllegalStateException") ∈ lw_tbl := List.mem_of_getElem? (i := 295) (by decide +kernel)
theorem wm_X5_56 : (Jvm.Cond.methodLink "Eddyhall" (56 : Nat) ({ cls := "java/lang/IllegalStateException", name := "<init>", desc := "()V" } : Jvm.MethodName)) ∈ lw_tbl := List.mem_of_getElem? (i := 304) (by decide +kernel)
theorem wq_L_17 : (Jvm.Cond.constantLong "EddyhallLaw" (17 : Nat) (qJ (-9000000000000000001))) ∈ lw_tbl := List.mem_of_getElem? (i := 310) (by decide +kernel)
theorem wq_L_21 : (Jvm.Cond.constantLong "EddyhallLaw" (21 : Nat) (qJ (-9000000000000000003))) ∈ lw_tbl := List.mem_of_getElem? (i := 311) (by decide +kernel)
theorem wm_L_146 : (Jvm.Cond.methodLink "EddyhallLaw" (146 : Nat) yL_clear) ∈ lw_tbl := List.mem_of_getElem? (i := 312) (by decide +kernel)
theorem wm_L_23 : (Jvm.Cond.methodLink "EddyhallLaw" (23 : Nat) yX5_clear) ∈ lw_tbl := List.mem_of_getElem? (i := 315) (by decide +kernel)
theorem wn_X5_67 : (Jvm.Cond.methodLinkNest "Eddyhall" (67 : Nat) yX3_makeFree "Eddyhall") ∈ lw_tbl := List.mem_of_getElem? (i := 319) (by decide +kernel)
theorem wm_L_148 : (Jvm.Cond.methodLink "EddyhallLaw" (148 : Nat) yL_open) ∈ lw_tbl := List.mem_of_getElem? (i := 323) (by decide +kernel)
theorem wc_L_30 : (Jvm.Cond.classLink "EddyhallLaw" (30 : Nat) "java/lang/IllegalArgumentException") ∈ lw_tbl := List.mem_of_getElem? (i := 326) (by decide +kernel)
theorem wm_L_27 : (Jvm.Cond.methodLink "EddyhallLaw" (27 : Nat) yX5_open) ∈ lw_tbl := List.mem_of_getElem? (i := 327) (by decide +kernel)
theorem wc_X5_71 : (Jvm.Cond.classLink "Eddyhall" (71 : Nat) "java/lang/IllegalArgumentException") ∈ lw_tbl := List.mem_of_getElem? (i := 331) (by decide +kernel)
theorem wm_X5_73 : (Jvm.Cond.methodLink "Eddyhall" (73 : Nat) ({ cls := "java/lang/IllegalArgumentException", name := "<init>", desc := "()V" } : Jvm.MethodName)) ∈ lw_tbl := List.mem_of_getElem? (i := 340) (by decide +kernel)
theorem wq_L_32 : (Jvm.Cond.constantLong "EddyhallLaw" (32 : Nat) (qJ (-9000000000000000002))) ∈ lw_tbl := List.mem_of_getElem? (i := 346) (by decide +kernel)
theorem wm_L_150 : (Jvm.Cond.methodLink "EddyhallLaw" (150 : Nat) yL_particle) ∈ lw_tbl := List.mem_of_getElem? (i := 347) (by decide +kernel)
theorem wm_L_34 : (Jvm.Cond.methodLink "EddyhallLaw" (34 : Nat) yX5_particle) ∈ lw_tbl := List.mem_of_getElem? (i := 350) (by decide +kernel)
theorem wm_X5_74 : (Jvm.Cond.methodLink "Eddyhall" (74 : Nat) yX5_isOutside) ∈ lw_tbl := List.mem_of_getElem? (i := 354) (by decide +kernel)
theorem wm_X5_81 : (Jvm.Cond.methodLink "Eddyhall" (81 : Nat) yX5_has) ∈ lw_tbl := List.mem_of_getElem? (i := 357) (by decide +kernel)
theorem wn_X5_85 : (Jvm.Cond.methodLinkNest "Eddyhall" (85 : Nat) yX3_letIn "Eddyhall") ∈ lw_tbl := List.mem_of_getElem? (i := 360) (by decide +kernel)
theorem wm_L_152 : (Jvm.Cond.methodLink "EddyhallLaw" (152 : Nat) yL_ink) ∈ lw_tbl := List.mem_of_getElem? (i := 364) (by decide +kernel)
theorem wm_L_38 : (Jvm.Cond.methodLink "EddyhallLaw" (38 : Nat) yX5_ink) ∈ lw_tbl := List.mem_of_getElem? (i := 367) (by decide +kernel)
theorem wm_X5_92 : (Jvm.Cond.methodLink "Eddyhall" (92 : Nat) yJ6_bitCount_0f7a4) ∈ lw_tbl := List.mem_of_getElem? (i := 371) (by decide +kernel)
theorem wk_J6_265 : (Jvm.Cond.constant "java/lang/Integer" (265 : Nat) (qI (1431655765))) ∈ lw_tbl := List.mem_of_getElem? (i := 374) (by decide +kernel)
theorem wk_J6_266 : (Jvm.Cond.constant "java/lang/Integer" (266 : Nat) (qI (858993459))) ∈ lw_tbl := List.mem_of_getElem? (i := 375) (by decide +kernel)
theorem wk_J6_267 : (Jvm.Cond.constant "java/lang/Integer" (267 : Nat) (qI (252645135))) ∈ lw_tbl := List.mem_of_getElem? (i := 376) (by decide +kernel)
theorem wm_L_154 : (Jvm.Cond.methodLink "EddyhallLaw" (154 : Nat) yL_probe) ∈ lw_tbl := List.mem_of_getElem? (i := 377) (by decide +kernel)
theorem wm_L_41 : (Jvm.Cond.methodLink "EddyhallLaw" (41 : Nat) yX5_probe) ∈ lw_tbl := List.mem_of_getElem? (i := 380) (by decide +kernel)
theorem wn_X5_100 : (Jvm.Cond.methodLinkNest "Eddyhall" (100 : Nat) yX1_setInto "Eddyhall") ∈ lw_tbl := List.mem_of_getElem? (i := 384) (by decide +kernel)
theorem wm_L_156 : (Jvm.Cond.methodLink "EddyhallLaw" (156 : Nat) yL_fault) ∈ lw_tbl := List.mem_of_getElem? (i := 388) (by decide +kernel)
theorem wm_L_44 : (Jvm.Cond.methodLink "EddyhallLaw" (44 : Nat) yX5_fault) ∈ lw_tbl := List.mem_of_getElem? (i := 391) (by decide +kernel)
theorem wm_L_158 : (Jvm.Cond.methodLink "EddyhallLaw" (158 : Nat) yL_bring) ∈ lw_tbl := List.mem_of_getElem? (i := 395) (by decide +kernel)
theorem wm_L_47 : (Jvm.Cond.methodLink "EddyhallLaw" (47 : Nat) yX5_bring) ∈ lw_tbl := List.mem_of_getElem? (i := 398) (by decide +kernel)
theorem wk_X5_103 : (Jvm.Cond.constant "Eddyhall" (103 : Nat) (qI (100000))) ∈ lw_tbl := List.mem_of_getElem? (i := 402) (by decide +kernel)
theorem wk_X5_107 : (Jvm.Cond.constant "Eddyhall" (107 : Nat) (qI (1000000))) ∈ lw_tbl := List.mem_of_getElem? (i := 403) (by decide +kernel)
theorem wm_L_161 : (Jvm.Cond.methodLink "EddyhallLaw" (161 : Nat) yL_step) ∈ lw_tbl := List.mem_of_getElem? (i := 404) (by decide +kernel)
theorem wm_L_51 : (Jvm.Cond.methodLink "EddyhallLaw" (51 : Nat) yX5_step) ∈ lw_tbl := List.mem_of_getElem? (i := 407) (by decide +kernel)
theorem wn_X5_115 : (Jvm.Cond.methodLinkNest "Eddyhall" (115 : Nat) yX3_isClosed "Eddyhall") ∈ lw_tbl := List.mem_of_getElem? (i := 411) (by decide +kernel)
theorem wn_X5_119 : (Jvm.Cond.methodLinkNest "Eddyhall" (119 : Nat) yX3_passStep "Eddyhall") ∈ lw_tbl := List.mem_of_getElem? (i := 415) (by decide +kernel)
theorem wm_X3_81 : (Jvm.Cond.methodLink "Eddyhall$Water" (81 : Nat) yX3_turnMeetings) ∈ lw_tbl := List.mem_of_getElem? (i := 419) (by decide +kernel)
theorem wn_X3_97 : (Jvm.Cond.methodLinkNest "Eddyhall$Water" (97 : Nat) yX5_isMeeting "Eddyhall") ∈ lw_tbl := List.mem_of_getElem? (i := 423) (by decide +kernel)
theorem wn_X3_100 : (Jvm.Cond.methodLinkNest "Eddyhall$Water" (100 : Nat) yX5_turned "Eddyhall") ∈ lw_tbl := List.mem_of_getElem? (i := 426) (by decide +kernel)
theorem wm_X3_85 : (Jvm.Cond.methodLink "Eddyhall$Water" (85 : Nat) yX3_hopAll) ∈ lw_tbl := List.mem_of_getElem? (i := 429) (by decide +kernel)
theorem wn_X3_103 : (Jvm.Cond.methodLinkNest "Eddyhall$Water" (103 : Nat) yX5_has "Eddyhall") ∈ lw_tbl := List.mem_of_getElem? (i := 433) (by decide +kernel)
theorem wm_X3_107 : (Jvm.Cond.methodLink "Eddyhall$Water" (107 : Nat) yX3_hopOne) ∈ lw_tbl := List.mem_of_getElem? (i := 434) (by decide +kernel)
theorem wn_X3_111 : (Jvm.Cond.methodLinkNest "Eddyhall$Water" (111 : Nat) yX5_beside "Eddyhall") ∈ lw_tbl := List.mem_of_getElem? (i := 438) (by decide +kernel)
theorem wm_X3_114 : (Jvm.Cond.methodLink "Eddyhall$Water" (114 : Nat) yX3_isShut) ∈ lw_tbl := List.mem_of_getElem? (i := 441) (by decide +kernel)
theorem wn_X3_64 : (Jvm.Cond.methodLinkNest "Eddyhall$Water" (64 : Nat) yX5_isNoCell "Eddyhall") ∈ lw_tbl := List.mem_of_getElem? (i := 445) (by decide +kernel)
theorem wm_X3_117 : (Jvm.Cond.methodLink "Eddyhall$Water" (117 : Nat) yX3_countHit) ∈ lw_tbl := List.mem_of_getElem? (i := 446) (by decide +kernel)
theorem wn_X3_120 : (Jvm.Cond.methodLinkNest "Eddyhall$Water" (120 : Nat) yX5_isNoBody "Eddyhall") ∈ lw_tbl := List.mem_of_getElem? (i := 450) (by decide +kernel)
theorem wn_X3_78 : (Jvm.Cond.methodLinkNest "Eddyhall$Water" (78 : Nat) yX5_opposite "Eddyhall") ∈ lw_tbl := List.mem_of_getElem? (i := 451) (by decide +kernel)
theorem wm_X3_54 : (Jvm.Cond.methodLink "Eddyhall$Water" (54 : Nat) ({ cls := "java/lang/System", name := "arraycopy", desc := "(Ljava/lang/Object;ILjava/lang/Object;II)V" } : Jvm.MethodName)) ∈ lw_tbl := List.mem_of_getElem? (i := 454) (by decide +kernel)
theorem wm_X3_88 : (Jvm.Cond.methodLink "Eddyhall$Water" (88 : Nat) yX3_emptyOutlets) ∈ lw_tbl := List.mem_of_getElem? (i := 457) (by decide +kernel)
theorem wm_X3_91 : (Jvm.Cond.methodLink "Eddyhall$Water" (91 : Nat) yX3_fillInlets) ∈ lw_tbl := List.mem_of_getElem? (i := 461) (by decide +kernel)
theorem wm_X3_123 : (Jvm.Cond.methodLink "Eddyhall$Water" (123 : Nat) yX3_letIn) ∈ lw_tbl := List.mem_of_getElem? (i := 465) (by decide +kernel)
theorem wn_X5_122 : (Jvm.Cond.methodLinkNest "Eddyhall" (122 : Nat) yX1_recordAll "Eddyhall") ∈ lw_tbl := List.mem_of_getElem? (i := 466) (by decide +kernel)
theorem wn_X1_27 : (Jvm.Cond.methodLinkNest "Eddyhall$Probes" (27 : Nat) yX3_moreAt "Eddyhall") ∈ lw_tbl := List.mem_of_getElem? (i := 470) (by decide +kernel)
theorem wm_L_163 : (Jvm.Cond.methodLink "EddyhallLaw" (163 : Nat) yL_back) ∈ lw_tbl := List.mem_of_getElem? (i := 474) (by decide +kernel)
theorem wm_L_54 : (Jvm.Cond.methodLink "EddyhallLaw" (54 : Nat) yX5_back) ∈ lw_tbl := List.mem_of_getElem? (i := 477) (by decide +kernel)
theorem wn_X5_126 : (Jvm.Cond.methodLinkNest "Eddyhall" (126 : Nat) yX3_undoStep "Eddyhall") ∈ lw_tbl := List.mem_of_getElem? (i := 481) (by decide +kernel)
theorem wm_X3_94 : (Jvm.Cond.methodLink "Eddyhall$Water" (94 : Nat) yX3_turnRound) ∈ lw_tbl := List.mem_of_getElem? (i := 485) (by decide +kernel)
theorem wn_X5_129 : (Jvm.Cond.methodLinkNest "Eddyhall" (129 : Nat) yX1_loseLatest "Eddyhall") ∈ lw_tbl := List.mem_of_getElem? (i := 489) (by decide +kernel)
theorem wm_L_165 : (Jvm.Cond.methodLink "EddyhallLaw" (165 : Nat) yL_flow) ∈ lw_tbl := List.mem_of_getElem? (i := 493) (by decide +kernel)
theorem wm_L_57 : (Jvm.Cond.methodLink "EddyhallLaw" (57 : Nat) yX5_flow) ∈ lw_tbl := List.mem_of_getElem? (i := 496) (by decide +kernel)
theorem wn_X5_132 : (Jvm.Cond.methodLinkNest "Eddyhall" (132 : Nat) yX0_passRound "Eddyhall") ∈ lw_tbl := List.mem_of_getElem? (i := 500) (by decide +kernel)
theorem wm_X0_19 : (Jvm.Cond.methodLink "Eddyhall$Counts" (19 : Nat) yX0_evenOut) ∈ lw_tbl := List.mem_of_getElem? (i := 504) (by decide +kernel)
theorem wm_X0_43 : (Jvm.Cond.methodLink "Eddyhall$Counts" (43 : Nat) yJ9_min_7cf53) ∈ lw_tbl := List.mem_of_getElem? (i := 508) (by decide +kernel)
theorem wm_X0_49 : (Jvm.Cond.methodLink "Eddyhall$Counts" (49 : Nat) yX0_shiftToUpright) ∈ lw_tbl := List.mem_of_getElem? (i := 511) (by decide +kernel)
theorem wm_X0_23 : (Jvm.Cond.methodLink "Eddyhall$Counts" (23 : Nat) yX0_moveAll) ∈ lw_tbl := List.mem_of_getElem? (i := 515) (by decide +kernel)
theorem wn_X0_53 : (Jvm.Cond.methodLinkNest "Eddyhall$Counts" (53 : Nat) yX5_beside "Eddyhall") ∈ lw_tbl := List.mem_of_getElem? (i := 519) (by decide +kernel)
theorem wn_X0_56 : (Jvm.Cond.methodLinkNest "Eddyhall$Counts" (56 : Nat) yX3_isShut "Eddyhall") ∈ lw_tbl := List.mem_of_getElem? (i := 520) (by decide +kernel)
theorem wn_X0_62 : (Jvm.Cond.methodLinkNest "Eddyhall$Counts" (62 : Nat) yX5_opposite "Eddyhall") ∈ lw_tbl := List.mem_of_getElem? (i := 521) (by decide +kernel)
theorem wm_X0_27 : (Jvm.Cond.methodLink "Eddyhall$Counts" (27 : Nat) ({ cls := "java/lang/System", name := "arraycopy", desc := "(Ljava/lang/Object;ILjava/lang/Object;II)V" } : Jvm.MethodName)) ∈ lw_tbl := List.mem_of_getElem? (i := 522) (by decide +kernel)
theorem wm_X0_33 : (Jvm.Cond.methodLink "Eddyhall$Counts" (33 : Nat) yJ7_fill_53178) ∈ lw_tbl := List.mem_of_getElem? (i := 523) (by decide +kernel)
theorem wm_L_101 : (Jvm.Cond.methodLink "EddyhallLaw" (101 : Nat) yL_cellOf) ∈ lw_tbl := List.mem_of_getElem? (i := 524) (by decide +kernel)
theorem wm_L_61 : (Jvm.Cond.methodLink "EddyhallLaw" (61 : Nat) yX5_cellOf) ∈ lw_tbl := List.mem_of_getElem? (i := 527) (by decide +kernel)
theorem wm_L_110 : (Jvm.Cond.methodLink "EddyhallLaw" (110 : Nat) yL_bodyOf) ∈ lw_tbl := List.mem_of_getElem? (i := 531) (by decide +kernel)
theorem wm_L_64 : (Jvm.Cond.methodLink "EddyhallLaw" (64 : Nat) yX5_bodyOf) ∈ lw_tbl := List.mem_of_getElem? (i := 534) (by decide +kernel)
theorem wm_L_114 : (Jvm.Cond.methodLink "EddyhallLaw" (114 : Nat) yL_sum) ∈ lw_tbl := List.mem_of_getElem? (i := 538) (by decide +kernel)
theorem wm_L_67 : (Jvm.Cond.methodLink "EddyhallLaw" (67 : Nat) yX5_sum) ∈ lw_tbl := List.mem_of_getElem? (i := 541) (by decide +kernel)
theorem wm_X5_148 : (Jvm.Cond.methodLink "Eddyhall" (148 : Nat) yX5_bitsOf) ∈ lw_tbl := List.mem_of_getElem? (i := 545) (by decide +kernel)
theorem wn_X5_152 : (Jvm.Cond.methodLinkNest "Eddyhall" (152 : Nat) yX3_goingMore "Eddyhall") ∈ lw_tbl := List.mem_of_getElem? (i := 548) (by decide +kernel)
theorem wm_X3_74 : (Jvm.Cond.methodLink "Eddyhall$Water" (74 : Nat) yX3_moreAt) ∈ lw_tbl := List.mem_of_getElem? (i := 552) (by decide +kernel)
theorem wm_L_140 : (Jvm.Cond.methodLink "EddyhallLaw" (140 : Nat) yL_mark) ∈ lw_tbl := List.mem_of_getElem? (i := 553) (by decide +kernel)
theorem wq_L_95 : (Jvm.Cond.constantLong "EddyhallLaw" (95 : Nat) (qJ (17))) ∈ lw_tbl := List.mem_of_getElem? (i := 556) (by decide +kernel)
theorem wq_L_97 : (Jvm.Cond.constantLong "EddyhallLaw" (97 : Nat) (qJ (31))) ∈ lw_tbl := List.mem_of_getElem? (i := 557) (by decide +kernel)
theorem wq_L_99 : (Jvm.Cond.constantLong "EddyhallLaw" (99 : Nat) (qJ (256))) ∈ lw_tbl := List.mem_of_getElem? (i := 558) (by decide +kernel)
theorem wq_L_106 : (Jvm.Cond.constantLong "EddyhallLaw" (106 : Nat) (qJ (16))) ∈ lw_tbl := List.mem_of_getElem? (i := 559) (by decide +kernel)
theorem wq_L_108 : (Jvm.Cond.constantLong "EddyhallLaw" (108 : Nat) (qJ (10007))) ∈ lw_tbl := List.mem_of_getElem? (i := 560) (by decide +kernel)
theorem wq_L_112 : (Jvm.Cond.constantLong "EddyhallLaw" (112 : Nat) (qJ (101))) ∈ lw_tbl := List.mem_of_getElem? (i := 561) (by decide +kernel)
theorem wm_L_188 : (Jvm.Cond.methodLink "EddyhallLaw" (188 : Nat) yL_sumsHold) ∈ lw_tbl := List.mem_of_getElem? (i := 562) (by decide +kernel)
theorem wq_L_117 : (Jvm.Cond.constantLong "EddyhallLaw" (117 : Nat) (qJ (-1))) ∈ lw_tbl := List.mem_of_getElem? (i := 565) (by decide +kernel)
theorem wm_L_119 : (Jvm.Cond.methodLink "EddyhallLaw" (119 : Nat) yX5_left) ∈ lw_tbl := List.mem_of_getElem? (i := 566) (by decide +kernel)
theorem wm_X5_158 : (Jvm.Cond.methodLink "Eddyhall" (158 : Nat) yX5_opposite) ∈ lw_tbl := List.mem_of_getElem? (i := 570) (by decide +kernel)
theorem wq_X5_170 : (Jvm.Cond.constantLong "Eddyhall" (170 : Nat) (qJ (2))) ∈ lw_tbl := List.mem_of_getElem? (i := 571) (by decide +kernel)
theorem wm_L_123 : (Jvm.Cond.methodLink "EddyhallLaw" (123 : Nat) yL_mixed) ∈ lw_tbl := List.mem_of_getElem? (i := 572) (by decide +kernel)
theorem wm_L_83 : (Jvm.Cond.methodLink "EddyhallLaw" (83 : Nat) yX5_mixed) ∈ lw_tbl := List.mem_of_getElem? (i := 575) (by decide +kernel)
theorem wm_X5_211 : (Jvm.Cond.methodLink "Eddyhall" (211 : Nat) yX5_edgesOfInk) ∈ lw_tbl := List.mem_of_getElem? (i := 579) (by decide +kernel)
theorem wm_X5_252 : (Jvm.Cond.methodLink "Eddyhall" (252 : Nat) yX5_beside) ∈ lw_tbl := List.mem_of_getElem? (i := 583) (by decide +kernel)
theorem wm_X5_261 : (Jvm.Cond.methodLink "Eddyhall" (261 : Nat) yX5_isEdgeOfInk) ∈ lw_tbl := List.mem_of_getElem? (i := 584) (by decide +kernel)
theorem wn_X5_264 : (Jvm.Cond.methodLinkNest "Eddyhall" (264 : Nat) yX3_isAllDyed "Eddyhall") ∈ lw_tbl := List.mem_of_getElem? (i := 588) (by decide +kernel)
theorem wn_X5_267 : (Jvm.Cond.methodLinkNest "Eddyhall" (267 : Nat) yX3_isAllPlain "Eddyhall") ∈ lw_tbl := List.mem_of_getElem? (i := 592) (by decide +kernel)
theorem wm_X5_215 : (Jvm.Cond.methodLink "Eddyhall" (215 : Nat) yX5_unevenInk) ∈ lw_tbl := List.mem_of_getElem? (i := 596) (by decide +kernel)
theorem wc_X5_176 : (Jvm.Cond.classLink "Eddyhall" (176 : Nat) "Eddyhall$Window") ∈ lw_tbl := List.mem_of_getElem? (i := 600) (by decide +kernel)
theorem wn_X5_178 : (Jvm.Cond.methodLinkNest "Eddyhall" (178 : Nat) yX4_init "Eddyhall") ∈ lw_tbl := List.mem_of_getElem? (i := 602) (by decide +kernel)
theorem wm_X4_3 : (Jvm.Cond.methodLink "Eddyhall$Window" (3 : Nat) ({ cls := "java/lang/Object", name := "<init>", desc := "()V" } : Jvm.MethodName)) ∈ lw_tbl := List.mem_of_getElem? (i := 605) (by decide +kernel)
theorem wf_X4_9 : (Jvm.Cond.fieldLink "Eddyhall$Window" (9 : Nat) "Eddyhall$Window" "top" "I") ∈ lw_tbl := List.mem_of_getElem? (i := 606) (by decide +kernel)
theorem wf_X4_15 : (Jvm.Cond.fieldLink "Eddyhall$Window" (15 : Nat) "Eddyhall$Window" "leftmost" "I") ∈ lw_tbl := List.mem_of_getElem? (i := 607) (by decide +kernel)
theorem wf_X4_18 : (Jvm.Cond.fieldLink "Eddyhall$Window" (18 : Nat) "Eddyhall$Window" "rows" "I") ∈ lw_tbl := List.mem_of_getElem? (i := 608) (by decide +kernel)
theorem wf_X4_21 : (Jvm.Cond.fieldLink "Eddyhall$Window" (21 : Nat) "Eddyhall$Window" "columns" "I") ∈ lw_tbl := List.mem_of_getElem? (i := 609) (by decide +kernel)
theorem wm_X5_270 : (Jvm.Cond.methodLink "Eddyhall" (270 : Nat) yX5_bitsWithin) ∈ lw_tbl := List.mem_of_getElem? (i := 619) (by decide +kernel)
theorem wn_X5_237 : (Jvm.Cond.methodLinkNest "Eddyhall" (237 : Nat) yX4_holds "Eddyhall") ∈ lw_tbl := List.mem_of_getElem? (i := 622) (by decide +kernel)
theorem wm_X4_24 : (Jvm.Cond.methodLink "Eddyhall$Window" (24 : Nat) yJ9_floorMod_7cf53) ∈ lw_tbl := List.mem_of_getElem? (i := 626) (by decide +kernel)
theorem wm_X5_274 : (Jvm.Cond.methodLink "Eddyhall" (274 : Nat) yJ9_abs_067f4) ∈ lw_tbl := List.mem_of_getElem? (i := 629) (by decide +kernel)
theorem wm_L_180 : (Jvm.Cond.methodLink "EddyhallLaw" (180 : Nat) yL_asked) ∈ lw_tbl := List.mem_of_getElem? (i := 632) (by decide +kernel)
theorem wm_L_125 : (Jvm.Cond.methodLink "EddyhallLaw" (125 : Nat) yL_ahead) ∈ lw_tbl := List.mem_of_getElem? (i := 635) (by decide +kernel)
theorem wm_L_77 : (Jvm.Cond.methodLink "EddyhallLaw" (77 : Nat) yX5_ahead) ∈ lw_tbl := List.mem_of_getElem? (i := 638) (by decide +kernel)
theorem wn_X5_204 : (Jvm.Cond.methodLinkNest "Eddyhall" (204 : Nat) yX3_becomeLike "Eddyhall") ∈ lw_tbl := List.mem_of_getElem? (i := 642) (by decide +kernel)
theorem wm_L_127 : (Jvm.Cond.methodLink "EddyhallLaw" (127 : Nat) yL_aheadAnew) ∈ lw_tbl := List.mem_of_getElem? (i := 646) (by decide +kernel)
theorem wm_L_80 : (Jvm.Cond.methodLink "EddyhallLaw" (80 : Nat) yX5_aheadAnew) ∈ lw_tbl := List.mem_of_getElem? (i := 649) (by decide +kernel)
theorem wm_X5_207 : (Jvm.Cond.methodLink "Eddyhall" (207 : Nat) yX5_arrived) ∈ lw_tbl := List.mem_of_getElem? (i := 653) (by decide +kernel)
theorem wn_X5_249 : (Jvm.Cond.methodLinkNest "Eddyhall" (249 : Nat) yX3_isShut "Eddyhall") ∈ lw_tbl := List.mem_of_getElem? (i := 656) (by decide +kernel)
theorem wm_X5_255 : (Jvm.Cond.methodLink "Eddyhall" (255 : Nat) yX5_isMeeting) ∈ lw_tbl := List.mem_of_getElem? (i := 657) (by decide +kernel)
theorem wm_X5_258 : (Jvm.Cond.methodLink "Eddyhall" (258 : Nat) yX5_turned) ∈ lw_tbl := List.mem_of_getElem? (i := 658) (by decide +kernel)
theorem wm_L_129 : (Jvm.Cond.methodLink "EddyhallLaw" (129 : Nat) yL_average) ∈ lw_tbl := List.mem_of_getElem? (i := 659) (by decide +kernel)
theorem wm_L_70 : (Jvm.Cond.methodLink "EddyhallLaw" (70 : Nat) yX5_average) ∈ lw_tbl := List.mem_of_getElem? (i := 662) (by decide +kernel)
theorem wm_X5_172 : (Jvm.Cond.methodLink "Eddyhall" (172 : Nat) yX5_isNoWindow) ∈ lw_tbl := List.mem_of_getElem? (i := 666) (by decide +kernel)
theorem wm_X5_181 : (Jvm.Cond.methodLink "Eddyhall" (181 : Nat) yX5_tallyOf) ∈ lw_tbl := List.mem_of_getElem? (i := 669) (by decide +kernel)
theorem wc_X5_186 : (Jvm.Cond.classLink "Eddyhall" (186 : Nat) "Eddyhall$Tally") ∈ lw_tbl := List.mem_of_getElem? (i := 673) (by decide +kernel)
theorem wn_X5_236 : (Jvm.Cond.methodLinkNest "Eddyhall" (236 : Nat) yX2_init "Eddyhall") ∈ lw_tbl := List.mem_of_getElem? (i := 675) (by decide +kernel)
theorem wm_X2_1 : (Jvm.Cond.methodLink "Eddyhall$Tally" (1 : Nat) ({ cls := "java/lang/Object", name := "<init>", desc := "()V" } : Jvm.MethodName)) ∈ lw_tbl := List.mem_of_getElem? (i := 678) (by decide +kernel)
theorem wf_X2_7 : (Jvm.Cond.fieldLink "Eddyhall$Tally" (7 : Nat) "Eddyhall$Tally" "cells" "J") ∈ lw_tbl := List.mem_of_getElem? (i := 679) (by decide +kernel)
theorem wg_X5_185 : (Jvm.Cond.fieldLinkNest "Eddyhall" (185 : Nat) "Eddyhall$Tally" "cells" "J" "Eddyhall") ∈ lw_tbl := List.mem_of_getElem? (i := 680) (by decide +kernel)
theorem wf_X2_13 : (Jvm.Cond.fieldLink "Eddyhall$Tally" (13 : Nat) "Eddyhall$Tally" "total" "J") ∈ lw_tbl := List.mem_of_getElem? (i := 681) (by decide +kernel)
theorem wg_X5_192 : (Jvm.Cond.fieldLinkNest "Eddyhall" (192 : Nat) "Eddyhall$Tally" "total" "J" "Eddyhall") ∈ lw_tbl := List.mem_of_getElem? (i := 682) (by decide +kernel)
theorem wf_X2_16 : (Jvm.Cond.fieldLink "Eddyhall$Tally" (16 : Nat) "Eddyhall$Tally" "squares" "J") ∈ lw_tbl := List.mem_of_getElem? (i := 683) (by decide +kernel)
theorem wg_X5_201 : (Jvm.Cond.fieldLinkNest "Eddyhall" (201 : Nat) "Eddyhall$Tally" "squares" "J" "Eddyhall") ∈ lw_tbl := List.mem_of_getElem? (i := 684) (by decide +kernel)
theorem wn_X5_240 : (Jvm.Cond.methodLinkNest "Eddyhall" (240 : Nat) yX0_numberAt "Eddyhall") ∈ lw_tbl := List.mem_of_getElem? (i := 692) (by decide +kernel)
theorem wn_X5_244 : (Jvm.Cond.methodLinkNest "Eddyhall" (244 : Nat) yX3_numberAt "Eddyhall") ∈ lw_tbl := List.mem_of_getElem? (i := 696) (by decide +kernel)
theorem wm_X3_68 : (Jvm.Cond.methodLink "Eddyhall$Water" (68 : Nat) yJ6_bitCount_0f7a4) ∈ lw_tbl := List.mem_of_getElem? (i := 700) (by decide +kernel)
theorem wn_X5_245 : (Jvm.Cond.methodLinkNest "Eddyhall" (245 : Nat) yX2_take "Eddyhall") ∈ lw_tbl := List.mem_of_getElem? (i := 701) (by decide +kernel)
theorem wq_X5_190 : (Jvm.Cond.constantLong "Eddyhall" (190 : Nat) (qJ (100))) ∈ lw_tbl := List.mem_of_getElem? (i := 705) (by decide +kernel)
theorem wm_X5_195 : (Jvm.Cond.methodLink "Eddyhall" (195 : Nat) yJ9_floorDiv_f86c9) ∈ lw_tbl := List.mem_of_getElem? (i := 706) (by decide +kernel)
theorem wq_L_132 : (Jvm.Cond.constantLong "EddyhallLaw" (132 : Nat) (qJ (100))) ∈ lw_tbl := List.mem_of_getElem? (i := 709) (by decide +kernel)
theorem wm_L_134 : (Jvm.Cond.methodLink "EddyhallLaw" (134 : Nat) yL_scatter) ∈ lw_tbl := List.mem_of_getElem? (i := 710) (by decide +kernel)
theorem wm_L_74 : (Jvm.Cond.methodLink "EddyhallLaw" (74 : Nat) yX5_scatter) ∈ lw_tbl := List.mem_of_getElem? (i := 713) (by decide +kernel)
theorem wm_L_184 : (Jvm.Cond.methodLink "EddyhallLaw" (184 : Nat) yL_betterHolds) ∈ lw_tbl := List.mem_of_getElem? (i := 717) (by decide +kernel)
theorem wm_L_136 : (Jvm.Cond.methodLink "EddyhallLaw" (136 : Nat) yL_better) ∈ lw_tbl := List.mem_of_getElem? (i := 720) (by decide +kernel)
theorem wm_L_92 : (Jvm.Cond.methodLink "EddyhallLaw" (92 : Nat) yX5_better) ∈ lw_tbl := List.mem_of_getElem? (i := 723) (by decide +kernel)
theorem wm_X5_228 : (Jvm.Cond.methodLink "Eddyhall" (228 : Nat) yX5_pushWithout) ∈ lw_tbl := List.mem_of_getElem? (i := 727) (by decide +kernel)
theorem wq_L_138 : (Jvm.Cond.constantLong "EddyhallLaw" (138 : Nat) (qJ (96))) ∈ lw_tbl := List.mem_of_getElem? (i := 731) (by decide +kernel)
theorem wm_L_192 : (Jvm.Cond.methodLink "EddyhallLaw" (192 : Nat) yL_refuses) ∈ lw_tbl := List.mem_of_getElem? (i := 732) (by decide +kernel)
theorem wm_L_167 : (Jvm.Cond.methodLink "EddyhallLaw" (167 : Nat) yL_record) ∈ lw_tbl := List.mem_of_getElem? (i := 735) (by decide +kernel)
theorem wm_L_86 : (Jvm.Cond.methodLink "EddyhallLaw" (86 : Nat) yX5_record) ∈ lw_tbl := List.mem_of_getElem? (i := 738) (by decide +kernel)
theorem wm_L_169 : (Jvm.Cond.methodLink "EddyhallLaw" (169 : Nat) yL_beat) ∈ lw_tbl := List.mem_of_getElem? (i := 742) (by decide +kernel)
theorem wm_L_89 : (Jvm.Cond.methodLink "EddyhallLaw" (89 : Nat) yX5_beat) ∈ lw_tbl := List.mem_of_getElem? (i := 745) (by decide +kernel)
theorem wn_X5_225 : (Jvm.Cond.methodLinkNest "Eddyhall" (225 : Nat) yX1_changesOfSign "Eddyhall") ∈ lw_tbl := List.mem_of_getElem? (i := 749) (by decide +kernel)
theorem wq_L_176 : (Jvm.Cond.constantLong "EddyhallLaw" (176 : Nat) (qJ (-5))) ∈ lw_tbl := List.mem_of_getElem? (i := 753) (by decide +kernel)
theorem wq_L_178 : (Jvm.Cond.constantLong "EddyhallLaw" (178 : Nat) (qJ (-1000000))) ∈ lw_tbl := List.mem_of_getElem? (i := 754) (by decide +kernel)
theorem wnat : Cond.native arraycopyName ∈ lw_tbl := List.mem_of_getElem? (i := 456) (by decide +kernel)
theorem wnats : Cond.static arraycopyName ∈ lw_tbl := List.mem_of_getElem? (i := 455) (by decide +kernel)
theorem wnati : Cond.initialized "java/lang/System" ∈ lw_tbl := List.mem_of_getElem? (i := 54) (by decide +kernel)
theorem qm_X0_init : qM yX0_init cX0_init 1 none 0 := ⟨List.mem_of_getElem? (i := 130) (by decide +kernel), List.mem_of_getElem? (i := 44) (by decide +kernel), by decide +kernel, by decide +kernel⟩
theorem qi_X0_init : Cond.instanceMethod yX0_init ∈ lw_tbl := List.mem_of_getElem? (i := 129) (by decide +kernel)
theorem qm_X0_areAt : qM yX0_areAt cX0_areAt 6 (some .boolean) 1 := ⟨List.mem_of_getElem? (i := 286) (by decide +kernel), List.mem_of_getElem? (i := 44) (by decide +kernel), by decide +kernel, by decide +kernel⟩
theorem qv_X0_areAt : qMv RX0 yX0_areAt := ⟨List.mem_of_getElem? (i := 285) (by decide +kernel), List.mem_of_getElem? (i := 2) (by decide +kernel)⟩
theorem qm_X0_numberAt : qM yX0_numberAt cX0_numberAt 5 (some .int) 2 := ⟨List.mem_of_getElem? (i := 695) (by decide +kernel), List.mem_of_getElem? (i := 44) (by decide +kernel), by decide +kernel, by decide +kernel⟩
theorem qv_X0_numberAt : qMv RX0 yX0_numberAt := ⟨List.mem_of_getElem? (i := 694) (by decide +kernel), List.mem_of_getElem? (i := 35) (by decide +kernel)⟩
theorem qm_X0_passRound : qM yX0_passRound cX0_passRound 3 none 1 := ⟨List.mem_of_getElem? (i := 503) (by decide +kernel), List.mem_of_getElem? (i := 44) (by decide +kernel), by decide +kernel, by decide +kernel⟩
theorem qv_X0_passRound : qMv RX0 yX0_passRound := ⟨List.mem_of_getElem? (i := 502) (by decide +kernel), List.mem_of_getElem? (i := 22) (by decide +kernel)⟩
theorem qm_X0_evenOut : qM yX0_evenOut cX0_evenOut 6 none 1 := ⟨List.mem_of_getElem? (i := 507) (by decide +kernel), List.mem_of_getElem? (i := 44) (by decide +kernel), by decide +kernel, by decide +kernel⟩
theorem qv_X0_evenOut : qMv RX0 yX0_evenOut := ⟨List.mem_of_getElem? (i := 506) (by decide +kernel), List.mem_of_getElem? (i := 23) (by decide +kernel)⟩
theorem qm_X0_shiftToUpright : qM yX0_shiftToUpright cX0_shiftToUpright 3 none 2 := ⟨List.mem_of_getElem? (i := 514) (by decide +kernel), List.mem_of_getElem? (i := 44) (by decide +kernel), by decide +kernel, by decide +kernel⟩
theorem qv_X0_shiftToUpright : qMv RX0 yX0_shiftToUpright := ⟨List.mem_of_getElem? (i := 513) (by decide +kernel), List.mem_of_getElem? (i := 24) (by decide +kernel)⟩
theorem qm_X0_moveAll : qM yX0_moveAll cX0_moveAll 5 none 2 := ⟨List.mem_of_getElem? (i := 518) (by decide +kernel), List.mem_of_getElem? (i := 44) (by decide +kernel), by decide +kernel, by decide +kernel⟩
theorem qv_X0_moveAll : qMv RX0 yX0_moveAll := ⟨List.mem_of_getElem? (i := 517) (by decide +kernel), List.mem_of_getElem? (i := 25) (by decide +kernel)⟩
theorem qm_X1_init : qM yX1_init cX1_init 1 none 0 := ⟨List.mem_of_getElem? (i := 153) (by decide +kernel), List.mem_of_getElem? (i := 45) (by decide +kernel), by decide +kernel, by decide +kernel⟩
theorem qi_X1_init : Cond.instanceMethod yX1_init ∈ lw_tbl := List.mem_of_getElem? (i := 152) (by decide +kernel)
theorem qm_X1_setInto : qM yX1_setInto cX1_setInto 2 (some .int) 1 := ⟨List.mem_of_getElem? (i := 387) (by decide +kernel), List.mem_of_getElem? (i := 45) (by decide +kernel), by decide +kernel, by decide +kernel⟩
theorem qv_X1_setInto : qMv RX1 yX1_setInto := ⟨List.mem_of_getElem? (i := 386) (by decide +kernel), List.mem_of_getElem? (i := 7) (by decide +kernel)⟩
theorem qm_X1_areAt : qM yX1_areAt cX1_areAt 3 (some .boolean) 1 := ⟨List.mem_of_getElem? (i := 290) (by decide +kernel), List.mem_of_getElem? (i := 45) (by decide +kernel), by decide +kernel, by decide +kernel⟩
theorem qv_X1_areAt : qMv RX1 yX1_areAt := ⟨List.mem_of_getElem? (i := 289) (by decide +kernel), List.mem_of_getElem? (i := 3) (by decide +kernel)⟩
theorem qm_X1_recordAll : qM yX1_recordAll cX1_recordAll 3 none 1 := ⟨List.mem_of_getElem? (i := 469) (by decide +kernel), List.mem_of_getElem? (i := 45) (by decide +kernel), by decide +kernel, by decide +kernel⟩
theorem qv_X1_recordAll : qMv RX1 yX1_recordAll := ⟨List.mem_of_getElem? (i := 468) (by decide +kernel), List.mem_of_getElem? (i := 17) (by decide +kernel)⟩
theorem qm_X1_loseLatest : qM yX1_loseLatest cX1_loseLatest 2 none 0 := ⟨List.mem_of_getElem? (i := 492) (by decide +kernel), List.mem_of_getElem? (i := 45) (by decide +kernel), by decide +kernel, by decide +kernel⟩
theorem qv_X1_loseLatest : qMv RX1 yX1_loseLatest := ⟨List.mem_of_getElem? (i := 491) (by decide +kernel), List.mem_of_getElem? (i := 21) (by decide +kernel)⟩
theorem qm_X1_changesOfSign : qM yX1_changesOfSign cX1_changesOfSign 6 (some .int) 1 := ⟨List.mem_of_getElem? (i := 752) (by decide +kernel), List.mem_of_getElem? (i := 45) (by decide +kernel), by decide +kernel, by decide +kernel⟩
theorem qv_X1_changesOfSign : qMv RX1 yX1_changesOfSign := ⟨List.mem_of_getElem? (i := 751) (by decide +kernel), List.mem_of_getElem? (i := 39) (by decide +kernel)⟩
theorem qm_X2_init : qM yX2_init cX2_init 1 none 0 := ⟨List.mem_of_getElem? (i := 677) (by decide +kernel), List.mem_of_getElem? (i := 56) (by decide +kernel), by decide +kernel, by decide +kernel⟩
theorem qi_X2_init : Cond.instanceMethod yX2_init ∈ lw_tbl := List.mem_of_getElem? (i := 676) (by decide +kernel)
theorem qm_X2_take : qM yX2_take cX2_take 3 none 1 := ⟨List.mem_of_getElem? (i := 704) (by decide +kernel), List.mem_of_getElem? (i := 56) (by decide +kernel), by decide +kernel, by decide +kernel⟩
theorem qv_X2_take : qMv RX2 yX2_take := ⟨List.mem_of_getElem? (i := 703) (by decide +kernel), List.mem_of_getElem? (i := 37) (by decide +kernel)⟩
theorem qm_X3_init : qM yX3_init cX3_init 1 none 0 := ⟨List.mem_of_getElem? (i := 69) (by decide +kernel), List.mem_of_getElem? (i := 42) (by decide +kernel), by decide +kernel, by decide +kernel⟩
theorem qi_X3_init : Cond.instanceMethod yX3_init ∈ lw_tbl := List.mem_of_getElem? (i := 68) (by decide +kernel)
theorem qm_X3_becomeLike : qM yX3_becomeLike cX3_becomeLike 2 none 1 := ⟨List.mem_of_getElem? (i := 645) (by decide +kernel), List.mem_of_getElem? (i := 42) (by decide +kernel), by decide +kernel, by decide +kernel⟩
theorem qv_X3_becomeLike : qMv RX3 yX3_becomeLike := ⟨List.mem_of_getElem? (i := 644) (by decide +kernel), List.mem_of_getElem? (i := 33) (by decide +kernel)⟩
theorem qm_X3_makeFree : qM yX3_makeFree cX3_makeFree 2 none 1 := ⟨List.mem_of_getElem? (i := 322) (by decide +kernel), List.mem_of_getElem? (i := 42) (by decide +kernel), by decide +kernel, by decide +kernel⟩
theorem qv_X3_makeFree : qMv RX3 yX3_makeFree := ⟨List.mem_of_getElem? (i := 321) (by decide +kernel), List.mem_of_getElem? (i := 5) (by decide +kernel)⟩
theorem qm_X3_letIn : qM yX3_letIn cX3_letIn 3 none 2 := ⟨List.mem_of_getElem? (i := 363) (by decide +kernel), List.mem_of_getElem? (i := 42) (by decide +kernel), by decide +kernel, by decide +kernel⟩
theorem qv_X3_letIn : qMv RX3 yX3_letIn := ⟨List.mem_of_getElem? (i := 362) (by decide +kernel), List.mem_of_getElem? (i := 6) (by decide +kernel)⟩
theorem qm_X3_isShut : qM yX3_isShut cX3_isShut 2 (some .boolean) 1 := ⟨List.mem_of_getElem? (i := 444) (by decide +kernel), List.mem_of_getElem? (i := 42) (by decide +kernel), by decide +kernel, by decide +kernel⟩
theorem qv_X3_isShut : qMv RX3 yX3_isShut := ⟨List.mem_of_getElem? (i := 443) (by decide +kernel), List.mem_of_getElem? (i := 13) (by decide +kernel)⟩
theorem qm_X3_isClosed : qM yX3_isClosed cX3_isClosed 5 (some .boolean) 0 := ⟨List.mem_of_getElem? (i := 414) (by decide +kernel), List.mem_of_getElem? (i := 42) (by decide +kernel), by decide +kernel, by decide +kernel⟩
theorem qv_X3_isClosed : qMv RX3 yX3_isClosed := ⟨List.mem_of_getElem? (i := 413) (by decide +kernel), List.mem_of_getElem? (i := 8) (by decide +kernel)⟩
theorem qm_X3_isAllDyed : qM yX3_isAllDyed cX3_isAllDyed 2 (some .boolean) 1 := ⟨List.mem_of_getElem? (i := 591) (by decide +kernel), List.mem_of_getElem? (i := 42) (by decide +kernel), by decide +kernel, by decide +kernel⟩
theorem qv_X3_isAllDyed : qMv RX3 yX3_isAllDyed := ⟨List.mem_of_getElem? (i := 590) (by decide +kernel), List.mem_of_getElem? (i := 29) (by decide +kernel)⟩
theorem qm_X3_isAllPlain : qM yX3_isAllPlain cX3_isAllPlain 2 (some .boolean) 1 := ⟨List.mem_of_getElem? (i := 595) (by decide +kernel), List.mem_of_getElem? (i := 42) (by decide +kernel), by decide +kernel, by decide +kernel⟩
theorem qv_X3_isAllPlain : qMv RX3 yX3_isAllPlain := ⟨List.mem_of_getElem? (i := 594) (by decide +kernel), List.mem_of_getElem? (i := 30) (by decide +kernel)⟩
theorem qm_X3_cellsOfBody : qM yX3_cellsOfBody cX3_cellsOfBody 7 (some .int) 1 := ⟨List.mem_of_getElem? (i := 294) (by decide +kernel), List.mem_of_getElem? (i := 42) (by decide +kernel), by decide +kernel, by decide +kernel⟩
theorem qv_X3_cellsOfBody : qMv RX3 yX3_cellsOfBody := ⟨List.mem_of_getElem? (i := 293) (by decide +kernel), List.mem_of_getElem? (i := 4) (by decide +kernel)⟩
theorem qm_X3_numberAt : qM yX3_numberAt cX3_numberAt 3 (some .int) 2 := ⟨List.mem_of_getElem? (i := 699) (by decide +kernel), List.mem_of_getElem? (i := 42) (by decide +kernel), by decide +kernel, by decide +kernel⟩
theorem qv_X3_numberAt : qMv RX3 yX3_numberAt := ⟨List.mem_of_getElem? (i := 698) (by decide +kernel), List.mem_of_getElem? (i := 36) (by decide +kernel)⟩
theorem qm_X3_moreAt : qM yX3_moreAt cX3_moreAt 3 (some .int) 2 := ⟨List.mem_of_getElem? (i := 473) (by decide +kernel), List.mem_of_getElem? (i := 42) (by decide +kernel), by decide +kernel, by decide +kernel⟩
theorem qv_X3_moreAt : qMv RX3 yX3_moreAt := ⟨List.mem_of_getElem? (i := 472) (by decide +kernel), List.mem_of_getElem? (i := 18) (by decide +kernel)⟩
theorem qm_X3_goingMore : qM yX3_goingMore cX3_goingMore 4 (some .int) 1 := ⟨List.mem_of_getElem? (i := 551) (by decide +kernel), List.mem_of_getElem? (i := 42) (by decide +kernel), by decide +kernel, by decide +kernel⟩
theorem qv_X3_goingMore : qMv RX3 yX3_goingMore := ⟨List.mem_of_getElem? (i := 550) (by decide +kernel), List.mem_of_getElem? (i := 26) (by decide +kernel)⟩
theorem qm_X3_passStep : qM yX3_passStep cX3_passStep 1 none 0 := ⟨List.mem_of_getElem? (i := 418) (by decide +kernel), List.mem_of_getElem? (i := 42) (by decide +kernel), by decide +kernel, by decide +kernel⟩
theorem qv_X3_passStep : qMv RX3 yX3_passStep := ⟨List.mem_of_getElem? (i := 417) (by decide +kernel), List.mem_of_getElem? (i := 9) (by decide +kernel)⟩
theorem qm_X3_undoStep : qM yX3_undoStep cX3_undoStep 1 none 0 := ⟨List.mem_of_getElem? (i := 484) (by decide +kernel), List.mem_of_getElem? (i := 42) (by decide +kernel), by decide +kernel, by decide +kernel⟩
theorem qv_X3_undoStep : qMv RX3 yX3_undoStep := ⟨List.mem_of_getElem? (i := 483) (by decide +kernel), List.mem_of_getElem? (i := 19) (by decide +kernel)⟩
theorem qm_X3_turnMeetings : qM yX3_turnMeetings cX3_turnMeetings 4 none 1 := ⟨List.mem_of_getElem? (i := 422) (by decide +kernel), List.mem_of_getElem? (i := 42) (by decide +kernel), by decide +kernel, by decide +kernel⟩
theorem qv_X3_turnMeetings : qMv RX3 yX3_turnMeetings := ⟨List.mem_of_getElem? (i := 421) (by decide +kernel), List.mem_of_getElem? (i := 10) (by decide +kernel)⟩
theorem qm_X3_turnRound : qM yX3_turnRound cX3_turnRound 2 none 0 := ⟨List.mem_of_getElem? (i := 488) (by decide +kernel), List.mem_of_getElem? (i := 42) (by decide +kernel), by decide +kernel, by decide +kernel⟩
theorem qv_X3_turnRound : qMv RX3 yX3_turnRound := ⟨List.mem_of_getElem? (i := 487) (by decide +kernel), List.mem_of_getElem? (i := 20) (by decide +kernel)⟩
theorem qm_X3_hopAll : qM yX3_hopAll cX3_hopAll 4 none 1 := ⟨List.mem_of_getElem? (i := 432) (by decide +kernel), List.mem_of_getElem? (i := 42) (by decide +kernel), by decide +kernel, by decide +kernel⟩
theorem qv_X3_hopAll : qMv RX3 yX3_hopAll := ⟨List.mem_of_getElem? (i := 431) (by decide +kernel), List.mem_of_getElem? (i := 11) (by decide +kernel)⟩
theorem qm_X3_hopOne : qM yX3_hopOne cX3_hopOne 7 none 3 := ⟨List.mem_of_getElem? (i := 437) (by decide +kernel), List.mem_of_getElem? (i := 42) (by decide +kernel), by decide +kernel, by decide +kernel⟩
theorem qv_X3_hopOne : qMv RX3 yX3_hopOne := ⟨List.mem_of_getElem? (i := 436) (by decide +kernel), List.mem_of_getElem? (i := 12) (by decide +kernel)⟩
theorem qm_X3_countHit : qM yX3_countHit cX3_countHit 6 none 3 := ⟨List.mem_of_getElem? (i := 449) (by decide +kernel), List.mem_of_getElem? (i := 42) (by decide +kernel), by decide +kernel, by decide +kernel⟩
theorem qv_X3_countHit : qMv RX3 yX3_countHit := ⟨List.mem_of_getElem? (i := 448) (by decide +kernel), List.mem_of_getElem? (i := 14) (by decide +kernel)⟩
theorem qm_X3_emptyOutlets : qM yX3_emptyOutlets cX3_emptyOutlets 3 none 0 := ⟨List.mem_of_getElem? (i := 460) (by decide +kernel), List.mem_of_getElem? (i := 42) (by decide +kernel), by decide +kernel, by decide +kernel⟩
theorem qv_X3_emptyOutlets : qMv RX3 yX3_emptyOutlets := ⟨List.mem_of_getElem? (i := 459) (by decide +kernel), List.mem_of_getElem? (i := 15) (by decide +kernel)⟩
theorem qm_X3_fillInlets : qM yX3_fillInlets cX3_fillInlets 2 none 0 := ⟨List.mem_of_getElem? (i := 464) (by decide +kernel), List.mem_of_getElem? (i := 42) (by decide +kernel), by decide +kernel, by decide +kernel⟩
theorem qv_X3_fillInlets : qMv RX3 yX3_fillInlets := ⟨List.mem_of_getElem? (i := 463) (by decide +kernel), List.mem_of_getElem? (i := 16) (by decide +kernel)⟩
theorem qm_X4_init : qM yX4_init cX4_init 5 none 4 := ⟨List.mem_of_getElem? (i := 604) (by decide +kernel), List.mem_of_getElem? (i := 55) (by decide +kernel), by decide +kernel, by decide +kernel⟩
theorem qi_X4_init : Cond.instanceMethod yX4_init ∈ lw_tbl := List.mem_of_getElem? (i := 603) (by decide +kernel)
theorem qm_X4_holds : qM yX4_holds cX4_holds 4 (some .boolean) 1 := ⟨List.mem_of_getElem? (i := 625) (by decide +kernel), List.mem_of_getElem? (i := 55) (by decide +kernel), by decide +kernel, by decide +kernel⟩
theorem qv_X4_holds : qMv RX4 yX4_holds := ⟨List.mem_of_getElem? (i := 624) (by decide +kernel), List.mem_of_getElem? (i := 32) (by decide +kernel)⟩
theorem qm_X5_init : qM yX5_init cX5_init 1 none 0 := ⟨List.mem_of_getElem? (i := 61) (by decide +kernel), List.mem_of_getElem? (i := 41) (by decide +kernel), by decide +kernel, by decide +kernel⟩
theorem qi_X5_init : Cond.instanceMethod yX5_init ∈ lw_tbl := List.mem_of_getElem? (i := 60) (by decide +kernel)
theorem qm_X5_wall : qM yX5_wall cX5_wall 3 none 2 := ⟨List.mem_of_getElem? (i := 209) (by decide +kernel), List.mem_of_getElem? (i := 41) (by decide +kernel), by decide +kernel, by decide +kernel⟩
theorem qv_X5_wall : qMv RX5 yX5_wall := ⟨List.mem_of_getElem? (i := 207) (by decide +kernel), List.mem_of_getElem? (i := 208) (by decide +kernel)⟩
theorem qm_X5_clear : qM yX5_clear cX5_clear 3 (some .int) 1 := ⟨List.mem_of_getElem? (i := 318) (by decide +kernel), List.mem_of_getElem? (i := 41) (by decide +kernel), by decide +kernel, by decide +kernel⟩
theorem qv_X5_clear : qMv RX5 yX5_clear := ⟨List.mem_of_getElem? (i := 316) (by decide +kernel), List.mem_of_getElem? (i := 317) (by decide +kernel)⟩
theorem qm_X5_open : qM yX5_open cX5_open 3 none 2 := ⟨List.mem_of_getElem? (i := 330) (by decide +kernel), List.mem_of_getElem? (i := 41) (by decide +kernel), by decide +kernel, by decide +kernel⟩
theorem qv_X5_open : qMv RX5 yX5_open := ⟨List.mem_of_getElem? (i := 328) (by decide +kernel), List.mem_of_getElem? (i := 329) (by decide +kernel)⟩
theorem qm_X5_particle : qM yX5_particle cX5_particle 3 (some .int) 2 := ⟨List.mem_of_getElem? (i := 353) (by decide +kernel), List.mem_of_getElem? (i := 41) (by decide +kernel), by decide +kernel, by decide +kernel⟩
theorem qv_X5_particle : qMv RX5 yX5_particle := ⟨List.mem_of_getElem? (i := 351) (by decide +kernel), List.mem_of_getElem? (i := 352) (by decide +kernel)⟩
theorem qm_X5_ink : qM yX5_ink cX5_ink 3 (some .int) 1 := ⟨List.mem_of_getElem? (i := 370) (by decide +kernel), List.mem_of_getElem? (i := 41) (by decide +kernel), by decide +kernel, by decide +kernel⟩
theorem qv_X5_ink : qMv RX5 yX5_ink := ⟨List.mem_of_getElem? (i := 368) (by decide +kernel), List.mem_of_getElem? (i := 369) (by decide +kernel)⟩
theorem qm_X5_probe : qM yX5_probe cX5_probe 2 (some .int) 1 := ⟨List.mem_of_getElem? (i := 383) (by decide +kernel), List.mem_of_getElem? (i := 41) (by decide +kernel), by decide +kernel, by decide +kernel⟩
theorem qv_X5_probe : qMv RX5 yX5_probe := ⟨List.mem_of_getElem? (i := 381) (by decide +kernel), List.mem_of_getElem? (i := 382) (by decide +kernel)⟩
theorem qm_X5_fault : qM yX5_fault cX5_fault 4 (some .int) 2 := ⟨List.mem_of_getElem? (i := 394) (by decide +kernel), List.mem_of_getElem? (i := 41) (by decide +kernel), by decide +kernel, by decide +kernel⟩
theorem qv_X5_fault : qMv RX5 yX5_fault := ⟨List.mem_of_getElem? (i := 392) (by decide +kernel), List.mem_of_getElem? (i := 393) (by decide +kernel)⟩
theorem qm_X5_bring : qM yX5_bring cX5_bring 4 (some .int) 3 := ⟨List.mem_of_getElem? (i := 401) (by decide +kernel), List.mem_of_getElem? (i := 41) (by decide +kernel), by decide +kernel, by decide +kernel⟩
theorem qv_X5_bring : qMv RX5 yX5_bring := ⟨List.mem_of_getElem? (i := 399) (by decide +kernel), List.mem_of_getElem? (i := 400) (by decide +kernel)⟩
theorem qm_X5_step : qM yX5_step cX5_step 4 (some .int) 1 := ⟨List.mem_of_getElem? (i := 410) (by decide +kernel), List.mem_of_getElem? (i := 41) (by decide +kernel), by decide +kernel, by decide +kernel⟩
theorem qv_X5_step : qMv RX5 yX5_step := ⟨List.mem_of_getElem? (i := 408) (by decide +kernel), List.mem_of_getElem? (i := 409) (by decide +kernel)⟩
theorem qm_X5_back : qM yX5_back cX5_back 3 (some .int) 1 := ⟨List.mem_of_getElem? (i := 480) (by decide +kernel), List.mem_of_getElem? (i := 41) (by decide +kernel), by decide +kernel, by decide +kernel⟩
theorem qv_X5_back : qMv RX5 yX5_back := ⟨List.mem_of_getElem? (i := 478) (by decide +kernel), List.mem_of_getElem? (i := 479) (by decide +kernel)⟩
theorem qm_X5_flow : qM yX5_flow cX5_flow 3 (some .long) 1 := ⟨List.mem_of_getElem? (i := 499) (by decide +kernel), List.mem_of_getElem? (i := 41) (by decide +kernel), by decide +kernel, by decide +kernel⟩
theorem qv_X5_flow : qMv RX5 yX5_flow := ⟨List.mem_of_getElem? (i := 497) (by decide +kernel), List.mem_of_getElem? (i := 498) (by decide +kernel)⟩
theorem qm_X5_cellOf : qM yX5_cellOf cX5_cellOf 3 (some .int) 2 := ⟨List.mem_of_getElem? (i := 530) (by decide +kernel), List.mem_of_getElem? (i := 41) (by decide +kernel), by decide +kernel, by decide +kernel⟩
theorem qv_X5_cellOf : qMv RX5 yX5_cellOf := ⟨List.mem_of_getElem? (i := 528) (by decide +kernel), List.mem_of_getElem? (i := 529) (by decide +kernel)⟩
theorem qm_X5_bodyOf : qM yX5_bodyOf cX5_bodyOf 3 (some .int) 2 := ⟨List.mem_of_getElem? (i := 537) (by decide +kernel), List.mem_of_getElem? (i := 41) (by decide +kernel), by decide +kernel, by decide +kernel⟩
theorem qv_X5_bodyOf : qMv RX5 yX5_bodyOf := ⟨List.mem_of_getElem? (i := 535) (by decide +kernel), List.mem_of_getElem? (i := 536) (by decide +kernel)⟩
theorem qm_X5_sum : qM yX5_sum cX5_sum 2 (some .long) 1 := ⟨List.mem_of_getElem? (i := 544) (by decide +kernel), List.mem_of_getElem? (i := 41) (by decide +kernel), by decide +kernel, by decide +kernel⟩
theorem qv_X5_sum : qMv RX5 yX5_sum := ⟨List.mem_of_getElem? (i := 542) (by decide +kernel), List.mem_of_getElem? (i := 543) (by decide +kernel)⟩
theorem qm_X5_left : qM yX5_left cX5_left 10 (some .long) 1 := ⟨List.mem_of_getElem? (i := 569) (by decide +kernel), List.mem_of_getElem? (i := 41) (by decide +kernel), by decide +kernel, by decide +kernel⟩
theorem qv_X5_left : qMv RX5 yX5_left := ⟨List.mem_of_getElem? (i := 567) (by decide +kernel), List.mem_of_getElem? (i := 568) (by decide +kernel)⟩
theorem qm_X5_average : qM yX5_average cX5_average 8 (some .long) 6 := ⟨List.mem_of_getElem? (i := 665) (by decide +kernel), List.mem_of_getElem? (i := 41) (by decide +kernel), by decide +kernel, by decide +kernel⟩
theorem qv_X5_average : qMv RX5 yX5_average := ⟨List.mem_of_getElem? (i := 663) (by decide +kernel), List.mem_of_getElem? (i := 664) (by decide +kernel)⟩
theorem qm_X5_scatter : qM yX5_scatter cX5_scatter 10 (some .long) 6 := ⟨List.mem_of_getElem? (i := 716) (by decide +kernel), List.mem_of_getElem? (i := 41) (by decide +kernel), by decide +kernel, by decide +kernel⟩
theorem qv_X5_scatter : qMv RX5 yX5_scatter := ⟨List.mem_of_getElem? (i := 714) (by decide +kernel), List.mem_of_getElem? (i := 715) (by decide +kernel)⟩
theorem qm_X5_ahead : qM yX5_ahead cX5_ahead 4 (some .int) 2 := ⟨List.mem_of_getElem? (i := 641) (by decide +kernel), List.mem_of_getElem? (i := 41) (by decide +kernel), by decide +kernel, by decide +kernel⟩
theorem qv_X5_ahead : qMv RX5 yX5_ahead := ⟨List.mem_of_getElem? (i := 639) (by decide +kernel), List.mem_of_getElem? (i := 640) (by decide +kernel)⟩
theorem qm_X5_aheadAnew : qM yX5_aheadAnew cX5_aheadAnew 3 (some .int) 2 := ⟨List.mem_of_getElem? (i := 652) (by decide +kernel), List.mem_of_getElem? (i := 41) (by decide +kernel), by decide +kernel, by decide +kernel⟩
theorem qv_X5_aheadAnew : qMv RX5 yX5_aheadAnew := ⟨List.mem_of_getElem? (i := 650) (by decide +kernel), List.mem_of_getElem? (i := 651) (by decide +kernel)⟩
theorem qm_X5_mixed : qM yX5_mixed cX5_mixed 2 (some .long) 1 := ⟨List.mem_of_getElem? (i := 578) (by decide +kernel), List.mem_of_getElem? (i := 41) (by decide +kernel), by decide +kernel, by decide +kernel⟩
theorem qv_X5_mixed : qMv RX5 yX5_mixed := ⟨List.mem_of_getElem? (i := 576) (by decide +kernel), List.mem_of_getElem? (i := 577) (by decide +kernel)⟩
theorem qm_X5_record : qM yX5_record cX5_record 3 (some .int) 2 := ⟨List.mem_of_getElem? (i := 741) (by decide +kernel), List.mem_of_getElem? (i := 41) (by decide +kernel), by decide +kernel, by decide +kernel⟩
theorem qv_X5_record : qMv RX5 yX5_record := ⟨List.mem_of_getElem? (i := 739) (by decide +kernel), List.mem_of_getElem? (i := 740) (by decide +kernel)⟩
theorem qm_X5_beat : qM yX5_beat cX5_beat 2 (some .int) 1 := ⟨List.mem_of_getElem? (i := 748) (by decide +kernel), List.mem_of_getElem? (i := 41) (by decide +kernel), by decide +kernel, by decide +kernel⟩
theorem qv_X5_beat : qMv RX5 yX5_beat := ⟨List.mem_of_getElem? (i := 746) (by decide +kernel), List.mem_of_getElem? (i := 747) (by decide +kernel)⟩
theorem qm_X5_better : qM yX5_better cX5_better 7 (some .int) 2 := ⟨List.mem_of_getElem? (i := 726) (by decide +kernel), List.mem_of_getElem? (i := 41) (by decide +kernel), by decide +kernel, by decide +kernel⟩
theorem qv_X5_better : qMv RX5 yX5_better := ⟨List.mem_of_getElem? (i := 724) (by decide +kernel), List.mem_of_getElem? (i := 725) (by decide +kernel)⟩
theorem qm_X5_isOutside : qM yX5_isOutside cX5_isOutside 3 (some .boolean) 3 := ⟨List.mem_of_getElem? (i := 356) (by decide +kernel), List.mem_of_getElem? (i := 41) (by decide +kernel), by decide +kernel, by decide +kernel⟩
theorem qs_X5_isOutside : qMs yX5_isOutside := List.mem_of_getElem? (i := 355) (by decide +kernel)
theorem qm_X5_isNoCell : qM yX5_isNoCell cX5_isNoCell 1 (some .boolean) 1 := ⟨List.mem_of_getElem? (i := 212) (by decide +kernel), List.mem_of_getElem? (i := 41) (by decide +kernel), by decide +kernel, by decide +kernel⟩
theorem qs_X5_isNoCell : qMs yX5_isNoCell := List.mem_of_getElem? (i := 211) (by decide +kernel)
theorem qm_X5_isNoBody : qM yX5_isNoBody cX5_isNoBody 1 (some .boolean) 1 := ⟨List.mem_of_getElem? (i := 215) (by decide +kernel), List.mem_of_getElem? (i := 41) (by decide +kernel), by decide +kernel, by decide +kernel⟩
theorem qs_X5_isNoBody : qMs yX5_isNoBody := List.mem_of_getElem? (i := 214) (by decide +kernel)
theorem qm_X5_isNoWindow : qM yX5_isNoWindow cX5_isNoWindow 4 (some .boolean) 4 := ⟨List.mem_of_getElem? (i := 668) (by decide +kernel), List.mem_of_getElem? (i := 41) (by decide +kernel), by decide +kernel, by decide +kernel⟩
theorem qs_X5_isNoWindow : qMs yX5_isNoWindow := List.mem_of_getElem? (i := 667) (by decide +kernel)
theorem qm_X5_opposite : qM yX5_opposite cX5_opposite 1 (some .int) 1 := ⟨List.mem_of_getElem? (i := 453) (by decide +kernel), List.mem_of_getElem? (i := 41) (by decide +kernel), by decide +kernel, by decide +kernel⟩
theorem qs_X5_opposite : qMs yX5_opposite := List.mem_of_getElem? (i := 452) (by decide +kernel)
theorem qm_X5_has : qM yX5_has cX5_has 2 (some .boolean) 2 := ⟨List.mem_of_getElem? (i := 359) (by decide +kernel), List.mem_of_getElem? (i := 41) (by decide +kernel), by decide +kernel, by decide +kernel⟩
theorem qs_X5_has : qMs yX5_has := List.mem_of_getElem? (i := 358) (by decide +kernel)
theorem qm_X5_turned : qM yX5_turned cX5_turned 2 (some .int) 2 := ⟨List.mem_of_getElem? (i := 428) (by decide +kernel), List.mem_of_getElem? (i := 41) (by decide +kernel), by decide +kernel, by decide +kernel⟩
theorem qs_X5_turned : qMs yX5_turned := List.mem_of_getElem? (i := 427) (by decide +kernel)
theorem qm_X5_isMeeting : qM yX5_isMeeting cX5_isMeeting 1 (some .boolean) 1 := ⟨List.mem_of_getElem? (i := 425) (by decide +kernel), List.mem_of_getElem? (i := 41) (by decide +kernel), by decide +kernel, by decide +kernel⟩
theorem qs_X5_isMeeting : qMs yX5_isMeeting := List.mem_of_getElem? (i := 424) (by decide +kernel)
theorem qm_X5_beside : qM yX5_beside cX5_beside 2 (some .int) 2 := ⟨List.mem_of_getElem? (i := 440) (by decide +kernel), List.mem_of_getElem? (i := 41) (by decide +kernel), by decide +kernel, by decide +kernel⟩
theorem qs_X5_beside : qMs yX5_beside := List.mem_of_getElem? (i := 439) (by decide +kernel)
theorem qm_X5_bitsOf : qM yX5_bitsOf cX5_bitsOf 6 (some .int) 1 := ⟨List.mem_of_getElem? (i := 547) (by decide +kernel), List.mem_of_getElem? (i := 41) (by decide +kernel), by decide +kernel, by decide +kernel⟩
theorem qs_X5_bitsOf : qMs yX5_bitsOf := List.mem_of_getElem? (i := 546) (by decide +kernel)
theorem qm_X5_mayBeWall : qM yX5_mayBeWall cX5_mayBeWall 2 (some .boolean) 1 := ⟨List.mem_of_getElem? (i := 282) (by decide +kernel), List.mem_of_getElem? (i := 41) (by decide +kernel), by decide +kernel, by decide +kernel⟩
theorem qv_X5_mayBeWall : qMv RX5 yX5_mayBeWall := ⟨List.mem_of_getElem? (i := 281) (by decide +kernel), List.mem_of_getElem? (i := 1) (by decide +kernel)⟩
theorem qm_X5_tallyOf : qM yX5_tallyOf cX5_tallyOf 6 (some (.object "Eddyhall$Tally")) 3 := ⟨List.mem_of_getElem? (i := 672) (by decide +kernel), List.mem_of_getElem? (i := 41) (by decide +kernel), by decide +kernel, by decide +kernel⟩
theorem qv_X5_tallyOf : qMv RX5 yX5_tallyOf := ⟨List.mem_of_getElem? (i := 671) (by decide +kernel), List.mem_of_getElem? (i := 34) (by decide +kernel)⟩
theorem qm_X5_arrived : qM yX5_arrived cX5_arrived 9 (some .int) 3 := ⟨List.mem_of_getElem? (i := 655) (by decide +kernel), List.mem_of_getElem? (i := 41) (by decide +kernel), by decide +kernel, by decide +kernel⟩
theorem qs_X5_arrived : qMs yX5_arrived := List.mem_of_getElem? (i := 654) (by decide +kernel)
theorem qm_X5_edgesOfInk : qM yX5_edgesOfInk cX5_edgesOfInk 3 (some .int) 0 := ⟨List.mem_of_getElem? (i := 582) (by decide +kernel), List.mem_of_getElem? (i := 41) (by decide +kernel), by decide +kernel, by decide +kernel⟩
theorem qv_X5_edgesOfInk : qMv RX5 yX5_edgesOfInk := ⟨List.mem_of_getElem? (i := 581) (by decide +kernel), List.mem_of_getElem? (i := 27) (by decide +kernel)⟩
theorem qm_X5_isEdgeOfInk : qM yX5_isEdgeOfInk cX5_isEdgeOfInk 3 (some .boolean) 2 := ⟨List.mem_of_getElem? (i := 587) (by decide +kernel), List.mem_of_getElem? (i := 41) (by decide +kernel), by decide +kernel, by decide +kernel⟩
theorem qv_X5_isEdgeOfInk : qMv RX5 yX5_isEdgeOfInk := ⟨List.mem_of_getElem? (i := 586) (by decide +kernel), List.mem_of_getElem? (i := 28) (by decide +kernel)⟩
theorem qm_X5_unevenInk : qM yX5_unevenInk cX5_unevenInk 14 (some .long) 0 := ⟨List.mem_of_getElem? (i := 599) (by decide +kernel), List.mem_of_getElem? (i := 41) (by decide +kernel), by decide +kernel, by decide +kernel⟩
theorem qv_X5_unevenInk : qMv RX5 yX5_unevenInk := ⟨List.mem_of_getElem? (i := 598) (by decide +kernel), List.mem_of_getElem? (i := 31) (by decide +kernel)⟩
theorem qm_X5_bitsWithin : qM yX5_bitsWithin cX5_bitsWithin 4 (some .int) 2 := ⟨List.mem_of_getElem? (i := 621) (by decide +kernel), List.mem_of_getElem? (i := 41) (by decide +kernel), by decide +kernel, by decide +kernel⟩
theorem qs_X5_bitsWithin : qMs yX5_bitsWithin := List.mem_of_getElem? (i := 620) (by decide +kernel)
theorem qm_X5_pushWithout : qM yX5_pushWithout cX5_pushWithout 5 (some .int) 3 := ⟨List.mem_of_getElem? (i := 730) (by decide +kernel), List.mem_of_getElem? (i := 41) (by decide +kernel), by decide +kernel, by decide +kernel⟩
theorem qv_X5_pushWithout : qMv RX5 yX5_pushWithout := ⟨List.mem_of_getElem? (i := 729) (by decide +kernel), List.mem_of_getElem? (i := 38) (by decide +kernel)⟩
theorem qm_J6_bitCount_0f7a4 : qM yJ6_bitCount_0f7a4 cJ6_bitCount_0f7a4 1 (some .int) 1 := ⟨List.mem_of_getElem? (i := 373) (by decide +kernel), List.mem_of_getElem? (i := 46) (by decide +kernel), by decide +kernel, by decide +kernel⟩
theorem qs_J6_bitCount_0f7a4 : qMs yJ6_bitCount_0f7a4 := List.mem_of_getElem? (i := 372) (by decide +kernel)
theorem qm_J9_floorDiv_f86c9 : qM yJ9_floorDiv_f86c9 cJ9_floorDiv_f86c9 6 (some .long) 2 := ⟨List.mem_of_getElem? (i := 708) (by decide +kernel), List.mem_of_getElem? (i := 53) (by decide +kernel), by decide +kernel, by decide +kernel⟩
theorem qs_J9_floorDiv_f86c9 : qMs yJ9_floorDiv_f86c9 := List.mem_of_getElem? (i := 707) (by decide +kernel)
theorem qm_J9_floorMod_7cf53 : qM yJ9_floorMod_7cf53 cJ9_floorMod_7cf53 3 (some .int) 2 := ⟨List.mem_of_getElem? (i := 628) (by decide +kernel), List.mem_of_getElem? (i := 53) (by decide +kernel), by decide +kernel, by decide +kernel⟩
theorem qs_J9_floorMod_7cf53 : qMs yJ9_floorMod_7cf53 := List.mem_of_getElem? (i := 627) (by decide +kernel)
theorem qm_J9_abs_067f4 : qM yJ9_abs_067f4 cJ9_abs_067f4 2 (some .long) 1 := ⟨List.mem_of_getElem? (i := 631) (by decide +kernel), List.mem_of_getElem? (i := 53) (by decide +kernel), by decide +kernel, by decide +kernel⟩
theorem qs_J9_abs_067f4 : qMs yJ9_abs_067f4 := List.mem_of_getElem? (i := 630) (by decide +kernel)
theorem qm_J9_min_7cf53 : qM yJ9_min_7cf53 cJ9_min_7cf53 2 (some .int) 2 := ⟨List.mem_of_getElem? (i := 510) (by decide +kernel), List.mem_of_getElem? (i := 53) (by decide +kernel), by decide +kernel, by decide +kernel⟩
theorem qs_J9_min_7cf53 : qMs yJ9_min_7cf53 := List.mem_of_getElem? (i := 509) (by decide +kernel)
theorem qm_J7_fill_53178 : qM yJ7_fill_53178 cJ7_fill_53178 4 none 2 := ⟨List.mem_of_getElem? (i := 73) (by decide +kernel), List.mem_of_getElem? (i := 43) (by decide +kernel), by decide +kernel, by decide +kernel⟩
theorem qs_J7_fill_53178 : qMs yJ7_fill_53178 := List.mem_of_getElem? (i := 72) (by decide +kernel)
theorem qm_L_draw : qM yL_draw cL_draw 2 (some .int) 2 := ⟨List.mem_of_getElem? (i := 198) (by decide +kernel), List.mem_of_getElem? (i := 40) (by decide +kernel), by decide +kernel, by decide +kernel⟩
theorem qs_L_draw : qMs yL_draw := List.mem_of_getElem? (i := 197) (by decide +kernel)
theorem qmh_L_wall : qMH yL_wall cL_wall 4 (some .long) [(0, 7, 8, 15), (0, 7, 13, 19)] 3 := ⟨List.mem_of_getElem? (i := 203) (by decide +kernel), List.mem_of_getElem? (i := 40) (by decide +kernel), by decide +kernel, by decide +kernel, List.mem_of_getElem? (i := 202) (by decide +kernel)⟩
theorem qmh_L_clear : qMH yL_clear cL_clear 3 (some .long) [(0, 6, 7, 15)] 2 := ⟨List.mem_of_getElem? (i := 314) (by decide +kernel), List.mem_of_getElem? (i := 40) (by decide +kernel), by decide +kernel, by decide +kernel, List.mem_of_getElem? (i := 313) (by decide +kernel)⟩
theorem qmh_L_open : qMH yL_open cL_open 4 (some .long) [(0, 7, 8, 15), (0, 7, 13, 30), (0, 7, 18, 19)] 3 := ⟨List.mem_of_getElem? (i := 325) (by decide +kernel), List.mem_of_getElem? (i := 40) (by decide +kernel), by decide +kernel, by decide +kernel, List.mem_of_getElem? (i := 324) (by decide +kernel)⟩
theorem qmh_L_particle : qMH yL_particle cL_particle 4 (some .long) [(0, 7, 8, 15), (0, 7, 13, 30), (0, 7, 18, 19)] 3 := ⟨List.mem_of_getElem? (i := 349) (by decide +kernel), List.mem_of_getElem? (i := 40) (by decide +kernel), by decide +kernel, by decide +kernel, List.mem_of_getElem? (i := 348) (by decide +kernel)⟩
theorem qmh_L_ink : qMH yL_ink cL_ink 3 (some .long) [(0, 6, 7, 15)] 2 := ⟨List.mem_of_getElem? (i := 366) (by decide +kernel), List.mem_of_getElem? (i := 40) (by decide +kernel), by decide +kernel, by decide +kernel, List.mem_of_getElem? (i := 365) (by decide +kernel)⟩
theorem qmh_L_probe : qMH yL_probe cL_probe 3 (some .long) [(0, 6, 7, 15), (0, 6, 12, 19)] 2 := ⟨List.mem_of_getElem? (i := 379) (by decide +kernel), List.mem_of_getElem? (i := 40) (by decide +kernel), by decide +kernel, by decide +kernel, List.mem_of_getElem? (i := 378) (by decide +kernel)⟩
theorem qmh_L_fault : qMH yL_fault cL_fault 4 (some .long) [(0, 7, 8, 15), (0, 7, 13, 30)] 3 := ⟨List.mem_of_getElem? (i := 390) (by decide +kernel), List.mem_of_getElem? (i := 40) (by decide +kernel), by decide +kernel, by decide +kernel, List.mem_of_getElem? (i := 389) (by decide +kernel)⟩
theorem qmh_L_bring : qMH yL_bring cL_bring 5 (some .long) [(0, 8, 9, 15), (0, 8, 15, 30), (0, 8, 21, 19)] 4 := ⟨List.mem_of_getElem? (i := 397) (by decide +kernel), List.mem_of_getElem? (i := 40) (by decide +kernel), by decide +kernel, by decide +kernel, List.mem_of_getElem? (i := 396) (by decide +kernel)⟩
theorem qmh_L_step : qMH yL_step cL_step 3 (some .long) [(0, 6, 7, 30), (0, 6, 12, 19)] 2 := ⟨List.mem_of_getElem? (i := 406) (by decide +kernel), List.mem_of_getElem? (i := 40) (by decide +kernel), by decide +kernel, by decide +kernel, List.mem_of_getElem? (i := 405) (by decide +kernel)⟩
theorem qmh_L_back : qMH yL_back cL_back 3 (some .long) [(0, 6, 7, 30), (0, 6, 12, 19)] 2 := ⟨List.mem_of_getElem? (i := 476) (by decide +kernel), List.mem_of_getElem? (i := 40) (by decide +kernel), by decide +kernel, by decide +kernel, List.mem_of_getElem? (i := 475) (by decide +kernel)⟩
theorem qmh_L_flow : qMH yL_flow cL_flow 3 (some .long) [(0, 5, 6, 30)] 2 := ⟨List.mem_of_getElem? (i := 495) (by decide +kernel), List.mem_of_getElem? (i := 40) (by decide +kernel), by decide +kernel, by decide +kernel, List.mem_of_getElem? (i := 494) (by decide +kernel)⟩
theorem qmh_L_cellOf : qMH yL_cellOf cL_cellOf 4 (some .long) [(0, 7, 8, 15), (0, 7, 13, 30)] 3 := ⟨List.mem_of_getElem? (i := 526) (by decide +kernel), List.mem_of_getElem? (i := 40) (by decide +kernel), by decide +kernel, by decide +kernel, List.mem_of_getElem? (i := 525) (by decide +kernel)⟩
theorem qmh_L_bodyOf : qMH yL_bodyOf cL_bodyOf 4 (some .long) [(0, 7, 8, 15), (0, 7, 13, 30)] 3 := ⟨List.mem_of_getElem? (i := 533) (by decide +kernel), List.mem_of_getElem? (i := 40) (by decide +kernel), by decide +kernel, by decide +kernel, List.mem_of_getElem? (i := 532) (by decide +kernel)⟩
theorem qmh_L_sum : qMH yL_sum cL_sum 3 (some .long) [(0, 5, 6, 30)] 2 := ⟨List.mem_of_getElem? (i := 540) (by decide +kernel), List.mem_of_getElem? (i := 40) (by decide +kernel), by decide +kernel, by decide +kernel, List.mem_of_getElem? (i := 539) (by decide +kernel)⟩
theorem qmh_L_average : qMH yL_average cL_average 8 (some .long) [(0, 13, 14, 30)] 7 := ⟨List.mem_of_getElem? (i := 661) (by decide +kernel), List.mem_of_getElem? (i := 40) (by decide +kernel), by decide +kernel, by decide +kernel, List.mem_of_getElem? (i := 660) (by decide +kernel)⟩
theorem qmh_L_scatter : qMH yL_scatter cL_scatter 8 (some .long) [(0, 13, 14, 30)] 7 := ⟨List.mem_of_getElem? (i := 712) (by decide +kernel), List.mem_of_getElem? (i := 40) (by decide +kernel), by decide +kernel, by decide +kernel, List.mem_of_getElem? (i := 711) (by decide +kernel)⟩
theorem qmh_L_ahead : qMH yL_ahead cL_ahead 4 (some .long) [(0, 7, 8, 15), (0, 7, 13, 30)] 3 := ⟨List.mem_of_getElem? (i := 637) (by decide +kernel), List.mem_of_getElem? (i := 40) (by decide +kernel), by decide +kernel, by decide +kernel, List.mem_of_getElem? (i := 636) (by decide +kernel)⟩
theorem qmh_L_aheadAnew : qMH yL_aheadAnew cL_aheadAnew 4 (some .long) [(0, 7, 8, 15), (0, 7, 13, 30)] 3 := ⟨List.mem_of_getElem? (i := 648) (by decide +kernel), List.mem_of_getElem? (i := 40) (by decide +kernel), by decide +kernel, by decide +kernel, List.mem_of_getElem? (i := 647) (by decide +kernel)⟩
theorem qmh_L_mixed : qMH yL_mixed cL_mixed 3 (some .long) [(0, 5, 6, 30)] 2 := ⟨List.mem_of_getElem? (i := 574) (by decide +kernel), List.mem_of_getElem? (i := 40) (by decide +kernel), by decide +kernel, by decide +kernel, List.mem_of_getElem? (i := 573) (by decide +kernel)⟩
theorem qmh_L_record : qMH yL_record cL_record 4 (some .long) [(0, 7, 8, 15)] 3 := ⟨List.mem_of_getElem? (i := 737) (by decide +kernel), List.mem_of_getElem? (i := 40) (by decide +kernel), by decide +kernel, by decide +kernel, List.mem_of_getElem? (i := 736) (by decide +kernel)⟩
theorem qmh_L_beat : qMH yL_beat cL_beat 3 (some .long) [(0, 6, 7, 15)] 2 := ⟨List.mem_of_getElem? (i := 744) (by decide +kernel), List.mem_of_getElem? (i := 40) (by decide +kernel), by decide +kernel, by decide +kernel, List.mem_of_getElem? (i := 743) (by decide +kernel)⟩
theorem qmh_L_better : qMH yL_better cL_better 4 (some .long) [(0, 7, 8, 15), (0, 7, 13, 30)] 3 := ⟨List.mem_of_getElem? (i := 722) (by decide +kernel), List.mem_of_getElem? (i := 40) (by decide +kernel), by decide +kernel, by decide +kernel, List.mem_of_getElem? (i := 721) (by decide +kernel)⟩
theorem qm_L_mark : qM yL_mark cL_mark 4 (some .long) 1 := ⟨List.mem_of_getElem? (i := 555) (by decide +kernel), List.mem_of_getElem? (i := 40) (by decide +kernel), by decide +kernel, by decide +kernel⟩
theorem qs_L_mark : qMs yL_mark := List.mem_of_getElem? (i := 554) (by decide +kernel)
theorem qm_L_sumsHold : qM yL_sumsHold cL_sumsHold 17 (some .boolean) 1 := ⟨List.mem_of_getElem? (i := 564) (by decide +kernel), List.mem_of_getElem? (i := 40) (by decide +kernel), by decide +kernel, by decide +kernel⟩
theorem qs_L_sumsHold : qMs yL_sumsHold := List.mem_of_getElem? (i := 563) (by decide +kernel)
theorem qm_L_asked : qM yL_asked cL_asked 15 (some .boolean) 3 := ⟨List.mem_of_getElem? (i := 634) (by decide +kernel), List.mem_of_getElem? (i := 40) (by decide +kernel), by decide +kernel, by decide +kernel⟩
theorem qs_L_asked : qMs yL_asked := List.mem_of_getElem? (i := 633) (by decide +kernel)
theorem qm_L_betterHolds : qM yL_betterHolds cL_betterHolds 4 (some .boolean) 2 := ⟨List.mem_of_getElem? (i := 719) (by decide +kernel), List.mem_of_getElem? (i := 40) (by decide +kernel), by decide +kernel, by decide +kernel⟩
theorem qs_L_betterHolds : qMs yL_betterHolds := List.mem_of_getElem? (i := 718) (by decide +kernel)
theorem qm_L_refuses : qM yL_refuses cL_refuses 6 (some .boolean) 1 := ⟨List.mem_of_getElem? (i := 734) (by decide +kernel), List.mem_of_getElem? (i := 40) (by decide +kernel), by decide +kernel, by decide +kernel⟩
theorem qs_L_refuses : qMs yL_refuses := List.mem_of_getElem? (i := 733) (by decide +kernel)
theorem qc_X0 : ∀ x, x ∈ u_ws RX0 TX0 4 → x ∈ lw_tbl ∧ goodWord x = true := by decide +kernel
theorem qc_X1 : ∀ x, x ∈ u_ws RX1 TX1 4 → x ∈ lw_tbl ∧ goodWord x = true := by decide +kernel
theorem qc_X2 : ∀ x, x ∈ u_ws RX2 TX2 3 → x ∈ lw_tbl ∧ goodWord x = true := by decide +kernel
theorem qc_X3 : ∀ x, x ∈ u_ws RX3 TX3 13 → x ∈ lw_tbl ∧ goodWord x = true := by decide +kernel
theorem qc_X4 : ∀ x, x ∈ u_ws RX4 TX4 4 → x ∈ lw_tbl ∧ goodWord x = true := by decide +kernel
theorem qc_X5 : ∀ x, x ∈ u_ws RX5 TX5 7 → x ∈ lw_tbl ∧ goodWord x = true := by decide +kernel
theorem qt_qE2_71_73 : qTh RX5 qE2 71 73 := ⟨List.mem_of_getElem? (i := 331) (by decide +kernel), List.mem_of_getElem? (i := 50) (by decide +kernel), by decide +kernel, by decide +kernel, by decide +kernel, by decide +kernel⟩
theorem qcast_qE2 : Cond.castable qE2 qE2 ∈ lw_tbl := by decide +kernel
theorem qt_qE3_54_56 : qTh RX5 qE3 54 56 := ⟨List.mem_of_getElem? (i := 295) (by decide +kernel), List.mem_of_getElem? (i := 52) (by decide +kernel), by decide +kernel, by decide +kernel, by decide +kernel, by decide +kernel⟩
theorem qcast_qE3 : Cond.castable qE3 qE3 ∈ lw_tbl := by decide +kernel
theorem qt_qE1_44_46 : qTh RX5 qE1 44 46 := ⟨List.mem_of_getElem? (i := 216) (by decide +kernel), List.mem_of_getElem? (i := 51) (by decide +kernel), by decide +kernel, by decide +kernel, by decide +kernel, by decide +kernel⟩
theorem qcast_qE1 : Cond.castable qE1 qE1 ∈ lw_tbl := by decide +kernel
