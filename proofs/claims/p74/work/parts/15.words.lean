theorem xk_mem (ws : List Cond) (ps : List Nat) (hp : ws = ps.filterMap (fun i => lw_tbl[i]?)) (hg : ws.all (fun w => goodWord w || xk_nest w) = true) : ∀ w ∈ ws, w ∈ xk_tb := by
  intro w hw
  have h1 := List.all_eq_true.mp hg w hw
  rw [hp] at hw
  obtain ⟨i, -, hi⟩ := List.mem_filterMap.mp hw
  exact List.mem_filter.mpr ⟨List.mem_of_getElem? hi, h1⟩
theorem xo_4 : Cond.arrayOver (xk_ty 4) ∈ xk_tb := List.mem_filter.mpr ⟨List.mem_of_getElem? (i := 420) (by decide +kernel), rfl⟩
theorem xo_5 : Cond.arrayOver (xk_ty 5) ∈ xk_tb := List.mem_filter.mpr ⟨List.mem_of_getElem? (i := 422) (by decide +kernel), rfl⟩
theorem xa_0 : Cond.arrayClass (xk_ty 0) ∈ xk_tb := List.mem_filter.mpr ⟨List.mem_of_getElem? (i := 237) (by decide +kernel), rfl⟩
theorem xa_1 : Cond.arrayClass (xk_ty 1) ∈ xk_tb := List.mem_filter.mpr ⟨List.mem_of_getElem? (i := 207) (by decide +kernel), rfl⟩
theorem xa_2 : Cond.arrayClass (xk_ty 2) ∈ xk_tb := List.mem_filter.mpr ⟨List.mem_of_getElem? (i := 378) (by decide +kernel), rfl⟩
theorem xa_3 : Cond.arrayClass (xk_ty 3) ∈ xk_tb := List.mem_filter.mpr ⟨List.mem_of_getElem? (i := 238) (by decide +kernel), rfl⟩
theorem xw_0 : Cond.fieldLink RX9 12 "LieKitchen" "tape" "LLieKitchen$Tape;" ∈ xk_tg := List.mem_filter.mpr ⟨List.mem_of_getElem? (i := 441) (by decide +kernel), rfl⟩
theorem xw_1 : Cond.fieldLink RX9 19 "LieKitchen" "now" "LLieKitchen$Kitchen;" ∈ xk_tg := List.mem_filter.mpr ⟨List.mem_of_getElem? (i := 442) (by decide +kernel), rfl⟩
theorem xw_2 : Cond.fieldLink RX9 23 "LieKitchen" "fresh" "LLieKitchen$Kitchen;" ∈ xk_tg := List.mem_filter.mpr ⟨List.mem_of_getElem? (i := 443) (by decide +kernel), rfl⟩
theorem xw_3 : Cond.fieldLink RX9 31 "LieKitchen" "reader" "LLieKitchen$Reader;" ∈ xk_tg := List.mem_filter.mpr ⟨List.mem_of_getElem? (i := 444) (by decide +kernel), rfl⟩
theorem xw_4 : Cond.fieldLink RX9 40 "LieKitchen" "sieve" "LLieKitchen$Sieve;" ∈ xk_tg := List.mem_filter.mpr ⟨List.mem_of_getElem? (i := 445) (by decide +kernel), rfl⟩
theorem xw_5 : Cond.fieldLink RX9 47 "LieKitchen" "hitter" "LLieKitchen$Hitter;" ∈ xk_tg := List.mem_filter.mpr ⟨List.mem_of_getElem? (i := 446) (by decide +kernel), rfl⟩
theorem xw_6 : Cond.fieldLink RX9 54 "LieKitchen" "mender" "LLieKitchen$Mender;" ∈ xk_tg := List.mem_filter.mpr ⟨List.mem_of_getElem? (i := 447) (by decide +kernel), rfl⟩
theorem xw_7 : Cond.fieldLink RX9 61 "LieKitchen" "evening" "LLieKitchen$Evening;" ∈ xk_tg := List.mem_filter.mpr ⟨List.mem_of_getElem? (i := 448) (by decide +kernel), rfl⟩
theorem xw_8 : Cond.fieldLink RX9 65 "LieKitchen" "images" "[LLieKitchen$Kitchen;" ∈ xk_tg := List.mem_filter.mpr ⟨List.mem_of_getElem? (i := 449) (by decide +kernel), rfl⟩
theorem xw_9 : Cond.fieldLink RX9 71 "LieKitchen" "slots" "[LLieKitchen$Slot;" ∈ xk_tg := List.mem_filter.mpr ⟨List.mem_of_getElem? (i := 450) (by decide +kernel), rfl⟩
theorem xw_10 : Cond.fieldLinkNest RX9 76 "LieKitchen$Tape" "length" "I" "LieKitchen" ∈ xk_tb := List.mem_filter.mpr ⟨List.mem_of_getElem? (i := 200) (by decide +kernel), rfl⟩
theorem xw_11 : Cond.fieldLinkNest RX9 94 "LieKitchen$Reader" "fault" "I" "LieKitchen" ∈ xk_tb := List.mem_filter.mpr ⟨List.mem_of_getElem? (i := 333) (by decide +kernel), rfl⟩
theorem xw_12 : Cond.fieldLinkNest RX9 103 "LieKitchen$Kitchen" "lines" "I" "LieKitchen" ∈ xk_tb := List.mem_filter.mpr ⟨List.mem_of_getElem? (i := 241) (by decide +kernel), rfl⟩
theorem xw_13 : Cond.fieldLinkNest RX9 106 "LieKitchen$Reader" "place" "I" "LieKitchen" ∈ xk_tb := List.mem_filter.mpr ⟨List.mem_of_getElem? (i := 335) (by decide +kernel), rfl⟩
theorem xw_14 : Cond.fieldLinkNest RX9 113 "LieKitchen$Kitchen" "truth" "I" "LieKitchen" ∈ xk_tb := List.mem_filter.mpr ⟨List.mem_of_getElem? (i := 256) (by decide +kernel), rfl⟩
theorem xw_15 : Cond.fieldLinkNest RX9 116 "LieKitchen$Kitchen" "cost" "[I" "LieKitchen" ∈ xk_tb := List.mem_filter.mpr ⟨List.mem_of_getElem? (i := 268) (by decide +kernel), rfl⟩
theorem xw_16 : Cond.fieldLinkNest RX9 120 "LieKitchen$Kitchen" "found" "[I" "LieKitchen" ∈ xk_tb := List.mem_filter.mpr ⟨List.mem_of_getElem? (i := 271) (by decide +kernel), rfl⟩
theorem xw_17 : Cond.fieldLinkNest RX9 123 "LieKitchen$Kitchen" "owns" "[I" "LieKitchen" ∈ xk_tb := List.mem_filter.mpr ⟨List.mem_of_getElem? (i := 273) (by decide +kernel), rfl⟩
theorem xw_18 : Cond.fieldLinkNest RX9 126 "LieKitchen$Kitchen" "known" "I" "LieKitchen" ∈ xk_tb := List.mem_filter.mpr ⟨List.mem_of_getElem? (i := 260) (by decide +kernel), rfl⟩
theorem xw_19 : Cond.fieldLinkNest RX9 133 "LieKitchen$Kitchen" "laws" "I" "LieKitchen" ∈ xk_tb := List.mem_filter.mpr ⟨List.mem_of_getElem? (i := 249) (by decide +kernel), rfl⟩
theorem xw_20 : Cond.fieldLinkNest RX9 139 "LieKitchen$Kitchen" "lawSo" "[I" "LieKitchen" ∈ xk_tb := List.mem_filter.mpr ⟨List.mem_of_getElem? (i := 276) (by decide +kernel), rfl⟩
theorem xw_21 : Cond.fieldLinkNest RX9 142 "LieKitchen$Kitchen" "lawNot" "[I" "LieKitchen" ∈ xk_tb := List.mem_filter.mpr ⟨List.mem_of_getElem? (i := 279) (by decide +kernel), rfl⟩
theorem xw_22 : Cond.fieldLinkNest RX9 148 "LieKitchen$Kitchen" "fee" "[I" "LieKitchen" ∈ xk_tb := List.mem_filter.mpr ⟨List.mem_of_getElem? (i := 281) (by decide +kernel), rfl⟩
theorem xw_23 : Cond.fieldLinkNest RX9 151 "LieKitchen$Kitchen" "knows" "[I" "LieKitchen" ∈ xk_tb := List.mem_filter.mpr ⟨List.mem_of_getElem? (i := 283) (by decide +kernel), rfl⟩
theorem xw_24 : Cond.fieldLinkNest RX9 219 "LieKitchen$Kitchen" "claims" "I" "LieKitchen" ∈ xk_tb := List.mem_filter.mpr ⟨List.mem_of_getElem? (i := 246) (by decide +kernel), rfl⟩
theorem xw_25 : Cond.fieldLinkNest RX9 271 "LieKitchen$Slot" "length" "I" "LieKitchen" ∈ xk_tb := List.mem_filter.mpr ⟨List.mem_of_getElem? (i := 433) (by decide +kernel), rfl⟩
theorem xw_26 : Cond.fieldLinkNest RX9 289 "LieKitchen$Kitchen" "wanted" "I" "LieKitchen" ∈ xk_tb := List.mem_filter.mpr ⟨List.mem_of_getElem? (i := 263) (by decide +kernel), rfl⟩
theorem xw_27 : Cond.fieldLinkNest RX9 292 "LieKitchen$Kitchen" "wishes" "I" "LieKitchen" ∈ xk_tb := List.mem_filter.mpr ⟨List.mem_of_getElem? (i := 266) (by decide +kernel), rfl⟩
theorem xw_28 : Cond.fieldLinkNest RX9 295 "LieKitchen$Kitchen" "talk" "LLieKitchen$Talk;" "LieKitchen" ∈ xk_tb := List.mem_filter.mpr ⟨List.mem_of_getElem? (i := 286) (by decide +kernel), rfl⟩
theorem xw_29 : Cond.fieldLinkNest RX9 299 "LieKitchen$Talk" "mask" "I" "LieKitchen" ∈ xk_tb := List.mem_filter.mpr ⟨List.mem_of_getElem? (i := 225) (by decide +kernel), rfl⟩
theorem xw_30 : Cond.fieldLinkNest RX9 308 "LieKitchen$Talk" "length" "I" "LieKitchen" ∈ xk_tb := List.mem_filter.mpr ⟨List.mem_of_getElem? (i := 223) (by decide +kernel), rfl⟩
theorem xw_31 : Cond.fieldLinkNest RX9 315 "LieKitchen$Talk" "words" "[I" "LieKitchen" ∈ xk_tb := List.mem_filter.mpr ⟨List.mem_of_getElem? (i := 221) (by decide +kernel), rfl⟩
theorem xw_32 : Cond.fieldLinkNest RX9 318 "LieKitchen$Talk" "values" "I" "LieKitchen" ∈ xk_tb := List.mem_filter.mpr ⟨List.mem_of_getElem? (i := 227) (by decide +kernel), rfl⟩
theorem xw_33 : Cond.fieldLinkNest RX9 324 "LieKitchen$Kitchen" "people" "I" "LieKitchen" ∈ xk_tb := List.mem_filter.mpr ⟨List.mem_of_getElem? (i := 252) (by decide +kernel), rfl⟩
theorem xw_34 : Cond.fieldLinkNest RX9 336 "LieKitchen$Mender" "length" "I" "LieKitchen" ∈ xk_tb := List.mem_filter.mpr ⟨List.mem_of_getElem? (i := 388) (by decide +kernel), rfl⟩
theorem xw_35 : Cond.fieldLinkNest RX9 337 "LieKitchen$Mender" "story" "I" "LieKitchen" ∈ xk_tb := List.mem_filter.mpr ⟨List.mem_of_getElem? (i := 390) (by decide +kernel), rfl⟩
theorem xw_36 : Cond.fieldLinkNest RX9 343 "LieKitchen$Mender" "changes" "[I" "LieKitchen" ∈ xk_tb := List.mem_filter.mpr ⟨List.mem_of_getElem? (i := 386) (by decide +kernel), rfl⟩
theorem xw_37 : Cond.fieldLinkNest RX9 354 "LieKitchen$Evening" "out" "I" "LieKitchen" ∈ xk_tb := List.mem_filter.mpr ⟨List.mem_of_getElem? (i := 406) (by decide +kernel), rfl⟩
theorem xw_38 : Cond.fieldLinkNest RX9 357 "LieKitchen$Evening" "firstDay" "I" "LieKitchen" ∈ xk_tb := List.mem_filter.mpr ⟨List.mem_of_getElem? (i := 408) (by decide +kernel), rfl⟩
theorem xw_39 : Cond.fieldLinkNest RX9 360 "LieKitchen$Evening" "firstClaim" "I" "LieKitchen" ∈ xk_tb := List.mem_filter.mpr ⟨List.mem_of_getElem? (i := 410) (by decide +kernel), rfl⟩
theorem xw_40 : Cond.fieldLinkNest RX9 386 "LieKitchen$Slot" "width" "I" "LieKitchen" ∈ xk_tb := List.mem_filter.mpr ⟨List.mem_of_getElem? (i := 431) (by decide +kernel), rfl⟩
theorem xw_41 : Cond.fieldLinkNest RX9 393 "LieKitchen$Slot" "numbers" "[J" "LieKitchen" ∈ xk_tb := List.mem_filter.mpr ⟨List.mem_of_getElem? (i := 429) (by decide +kernel), rfl⟩
theorem xw_42 : Cond.classLink RX9 9 RX8 ∈ xk_tg := List.mem_filter.mpr ⟨List.mem_of_getElem? (i := 192) (by decide +kernel), rfl⟩
theorem xw_43 : Cond.instantiable RX8 2 ∈ xk_tg := List.mem_filter.mpr ⟨List.mem_of_getElem? (i := 193) (by decide +kernel), rfl⟩
theorem xw_44 : Cond.initialized RX8 ∈ xk_tg := List.mem_filter.mpr ⟨List.mem_of_getElem? (i := 166) (by decide +kernel), rfl⟩
theorem xw_45 : Cond.classLink RX9 16 RX2 ∈ xk_tg := List.mem_filter.mpr ⟨List.mem_of_getElem? (i := 208) (by decide +kernel), rfl⟩
theorem xw_46 : Cond.instantiable RX2 17 ∈ xk_tg := List.mem_filter.mpr ⟨List.mem_of_getElem? (i := 209) (by decide +kernel), rfl⟩
theorem xw_47 : Cond.initialized RX2 ∈ xk_tg := List.mem_filter.mpr ⟨List.mem_of_getElem? (i := 167) (by decide +kernel), rfl⟩
theorem xw_48 : Cond.classLink RX9 26 RX4 ∈ xk_tg := List.mem_filter.mpr ⟨List.mem_of_getElem? (i := 322) (by decide +kernel), rfl⟩
theorem xw_49 : Cond.instantiable RX4 6 ∈ xk_tg := List.mem_filter.mpr ⟨List.mem_of_getElem? (i := 323) (by decide +kernel), rfl⟩
theorem xw_50 : Cond.initialized RX4 ∈ xk_tg := List.mem_filter.mpr ⟨List.mem_of_getElem? (i := 169) (by decide +kernel), rfl⟩
theorem xw_51 : Cond.classLink RX9 35 RX5 ∈ xk_tg := List.mem_filter.mpr ⟨List.mem_of_getElem? (i := 349) (by decide +kernel), rfl⟩
theorem xw_52 : Cond.instantiable RX5 4 ∈ xk_tg := List.mem_filter.mpr ⟨List.mem_of_getElem? (i := 350) (by decide +kernel), rfl⟩
theorem xw_53 : Cond.initialized RX5 ∈ xk_tg := List.mem_filter.mpr ⟨List.mem_of_getElem? (i := 170) (by decide +kernel), rfl⟩
theorem xw_54 : Cond.classLink RX9 44 RX1 ∈ xk_tg := List.mem_filter.mpr ⟨List.mem_of_getElem? (i := 368) (by decide +kernel), rfl⟩
theorem xw_55 : Cond.instantiable RX1 1 ∈ xk_tg := List.mem_filter.mpr ⟨List.mem_of_getElem? (i := 369) (by decide +kernel), rfl⟩
theorem xw_56 : Cond.initialized RX1 ∈ xk_tg := List.mem_filter.mpr ⟨List.mem_of_getElem? (i := 171) (by decide +kernel), rfl⟩
theorem xw_57 : Cond.classLink RX9 51 RX3 ∈ xk_tg := List.mem_filter.mpr ⟨List.mem_of_getElem? (i := 379) (by decide +kernel), rfl⟩
theorem xw_58 : Cond.instantiable RX3 3 ∈ xk_tg := List.mem_filter.mpr ⟨List.mem_of_getElem? (i := 380) (by decide +kernel), rfl⟩
theorem xw_59 : Cond.initialized RX3 ∈ xk_tg := List.mem_filter.mpr ⟨List.mem_of_getElem? (i := 172) (by decide +kernel), rfl⟩
theorem xw_60 : Cond.classLink RX9 58 RX0 ∈ xk_tg := List.mem_filter.mpr ⟨List.mem_of_getElem? (i := 398) (by decide +kernel), rfl⟩
theorem xw_61 : Cond.instantiable RX0 4 ∈ xk_tg := List.mem_filter.mpr ⟨List.mem_of_getElem? (i := 399) (by decide +kernel), rfl⟩
theorem xw_62 : Cond.initialized RX0 ∈ xk_tg := List.mem_filter.mpr ⟨List.mem_of_getElem? (i := 173) (by decide +kernel), rfl⟩
theorem xw_63 : Cond.classLink RX9 69 RX6 ∈ xk_tg := List.mem_filter.mpr ⟨List.mem_of_getElem? (i := 421) (by decide +kernel), rfl⟩
theorem xw_64 : Cond.instantiable RX6 3 ∈ xk_tg := List.mem_filter.mpr ⟨List.mem_of_getElem? (i := 423) (by decide +kernel), rfl⟩
theorem xw_65 : Cond.initialized RX6 ∈ xk_tg := List.mem_filter.mpr ⟨List.mem_of_getElem? (i := 174) (by decide +kernel), rfl⟩
theorem xw_66 : Cond.constant RX9 403 (Int32.ofInt 2000000000) ∈ xk_tg := List.mem_filter.mpr ⟨List.mem_of_getElem? (i := 1238) (by decide +kernel), rfl⟩
theorem xw_67 : Cond.constantLong RX9 208 (Int64.ofInt (-2)) ∈ xk_tg := List.mem_filter.mpr ⟨List.mem_of_getElem? (i := 950) (by decide +kernel), rfl⟩
theorem xw_68 : Cond.constantLong RX9 215 (Int64.ofInt 9) ∈ xk_tg := List.mem_filter.mpr ⟨List.mem_of_getElem? (i := 952) (by decide +kernel), rfl⟩
theorem xw_69 : Cond.constantLong RX9 217 (Int64.ofInt (-1)) ∈ xk_tg := List.mem_filter.mpr ⟨List.mem_of_getElem? (i := 953) (by decide +kernel), rfl⟩
theorem xw_70 : Cond.constantLong RX9 222 (Int64.ofInt 100) ∈ xk_tg := List.mem_filter.mpr ⟨List.mem_of_getElem? (i := 954) (by decide +kernel), rfl⟩
theorem xw_71 : Cond.constantLong RX9 434 (Int64.ofInt 2) ∈ xk_tg := List.mem_filter.mpr ⟨List.mem_of_getElem? (i := 1072) (by decide +kernel), rfl⟩
theorem xw_72 : Cond.methodLink RX9 3 objectInit ∈ xk_tg := List.mem_filter.mpr ⟨List.mem_of_getElem? (i := 189) (by decide +kernel), rfl⟩
theorem xw_73 : Cond.methodLink RX9 397 arraycopyName ∈ xk_tg := List.mem_filter.mpr ⟨List.mem_of_getElem? (i := 1315) (by decide +kernel), rfl⟩
theorem xw_74 : Cond.initialized RJ9 ∈ xk_tg := List.mem_filter.mpr ⟨List.mem_of_getElem? (i := 176) (by decide +kernel), rfl⟩
theorem xw_75 : Cond.methodLink RX9 440 yJ9_max_f86c9 ∈ xk_tg := List.mem_filter.mpr ⟨List.mem_of_getElem? (i := 961) (by decide +kernel), rfl⟩
theorem xw_76 : Cond.static yJ9_max_f86c9 ∈ xk_tg := List.mem_filter.mpr ⟨List.mem_of_getElem? (i := 962) (by decide +kernel), rfl⟩
theorem xw_77 : Cond.code yJ9_max_f86c9 cJ9_max_f86c9 4 (some .long) ∈ xk_tg := List.mem_filter.mpr ⟨List.mem_of_getElem? (i := 963) (by decide +kernel), rfl⟩
theorem xw_78 : Cond.fieldLink RX0 9 "LieKitchen$Evening" "x" "J" ∈ xk_tg := List.mem_filter.mpr ⟨List.mem_of_getElem? (i := 404) (by decide +kernel), rfl⟩
theorem xw_79 : Cond.fieldLink RX0 15 "LieKitchen$Evening" "out" "I" ∈ xk_tg := List.mem_filter.mpr ⟨List.mem_of_getElem? (i := 405) (by decide +kernel), rfl⟩
theorem xw_80 : Cond.fieldLink RX0 19 "LieKitchen$Evening" "firstDay" "I" ∈ xk_tg := List.mem_filter.mpr ⟨List.mem_of_getElem? (i := 407) (by decide +kernel), rfl⟩
theorem xw_81 : Cond.fieldLink RX0 22 "LieKitchen$Evening" "firstClaim" "I" ∈ xk_tg := List.mem_filter.mpr ⟨List.mem_of_getElem? (i := 409) (by decide +kernel), rfl⟩
theorem xw_82 : Cond.fieldLinkNest RX0 25 "LieKitchen$Kitchen" "truth" "I" "LieKitchen" ∈ xk_tb := List.mem_filter.mpr ⟨List.mem_of_getElem? (i := 255) (by decide +kernel), rfl⟩
theorem xw_83 : Cond.fieldLinkNest RX0 30 "LieKitchen$Kitchen" "claims" "I" "LieKitchen" ∈ xk_tb := List.mem_filter.mpr ⟨List.mem_of_getElem? (i := 243) (by decide +kernel), rfl⟩
theorem xw_84 : Cond.fieldLinkNest RX0 37 "LieKitchen$Kitchen" "found" "[I" "LieKitchen" ∈ xk_tb := List.mem_filter.mpr ⟨List.mem_of_getElem? (i := 270) (by decide +kernel), rfl⟩
theorem xw_85 : Cond.constantLong RX0 45 (Int64.ofInt 1103515245) ∈ xk_tg := List.mem_filter.mpr ⟨List.mem_of_getElem? (i := 1247) (by decide +kernel), rfl⟩
theorem xw_86 : Cond.constantLong RX0 47 (Int64.ofInt 12345) ∈ xk_tg := List.mem_filter.mpr ⟨List.mem_of_getElem? (i := 1248) (by decide +kernel), rfl⟩
theorem xw_87 : Cond.constantLong RX0 49 (Int64.ofInt 2147483648) ∈ xk_tg := List.mem_filter.mpr ⟨List.mem_of_getElem? (i := 1249) (by decide +kernel), rfl⟩
theorem xw_88 : Cond.constantLong RX0 51 (Int64.ofInt 65536) ∈ xk_tg := List.mem_filter.mpr ⟨List.mem_of_getElem? (i := 1250) (by decide +kernel), rfl⟩
theorem xw_89 : Cond.constantLong RX0 53 (Int64.ofInt 100) ∈ xk_tg := List.mem_filter.mpr ⟨List.mem_of_getElem? (i := 1251) (by decide +kernel), rfl⟩
theorem xw_90 : Cond.methodLink RX0 3 objectInit ∈ xk_tg := List.mem_filter.mpr ⟨List.mem_of_getElem? (i := 403) (by decide +kernel), rfl⟩
theorem xw_91 : Cond.fieldLink RX1 9 "LieKitchen$Hitter" "marked" "[Z" ∈ xk_tg := List.mem_filter.mpr ⟨List.mem_of_getElem? (i := 374) (by decide +kernel), rfl⟩
theorem xw_92 : Cond.methodLink RX1 3 objectInit ∈ xk_tg := List.mem_filter.mpr ⟨List.mem_of_getElem? (i := 373) (by decide +kernel), rfl⟩
theorem xw_93 : Cond.fieldLink RX2 9 "LieKitchen$Kitchen" "lines" "I" ∈ xk_tg := List.mem_filter.mpr ⟨List.mem_of_getElem? (i := 239) (by decide +kernel), rfl⟩
theorem xw_94 : Cond.fieldLink RX2 15 "LieKitchen$Kitchen" "claims" "I" ∈ xk_tg := List.mem_filter.mpr ⟨List.mem_of_getElem? (i := 242) (by decide +kernel), rfl⟩
theorem xw_95 : Cond.fieldLink RX2 18 "LieKitchen$Kitchen" "laws" "I" ∈ xk_tg := List.mem_filter.mpr ⟨List.mem_of_getElem? (i := 247) (by decide +kernel), rfl⟩
theorem xw_96 : Cond.fieldLink RX2 21 "LieKitchen$Kitchen" "people" "I" ∈ xk_tg := List.mem_filter.mpr ⟨List.mem_of_getElem? (i := 250) (by decide +kernel), rfl⟩
theorem xw_97 : Cond.fieldLink RX2 24 "LieKitchen$Kitchen" "truth" "I" ∈ xk_tg := List.mem_filter.mpr ⟨List.mem_of_getElem? (i := 253) (by decide +kernel), rfl⟩
theorem xw_98 : Cond.fieldLink RX2 27 "LieKitchen$Kitchen" "known" "I" ∈ xk_tg := List.mem_filter.mpr ⟨List.mem_of_getElem? (i := 257) (by decide +kernel), rfl⟩
theorem xw_99 : Cond.fieldLink RX2 30 "LieKitchen$Kitchen" "wanted" "I" ∈ xk_tg := List.mem_filter.mpr ⟨List.mem_of_getElem? (i := 261) (by decide +kernel), rfl⟩
theorem xw_100 : Cond.fieldLink RX2 33 "LieKitchen$Kitchen" "wishes" "I" ∈ xk_tg := List.mem_filter.mpr ⟨List.mem_of_getElem? (i := 264) (by decide +kernel), rfl⟩
theorem xw_101 : Cond.fieldLink RX2 36 "LieKitchen$Kitchen" "cost" "[I" ∈ xk_tg := List.mem_filter.mpr ⟨List.mem_of_getElem? (i := 267) (by decide +kernel), rfl⟩
theorem xw_102 : Cond.fieldLink RX2 40 "LieKitchen$Kitchen" "found" "[I" ∈ xk_tg := List.mem_filter.mpr ⟨List.mem_of_getElem? (i := 269) (by decide +kernel), rfl⟩
theorem xw_103 : Cond.fieldLink RX2 43 "LieKitchen$Kitchen" "owns" "[I" ∈ xk_tg := List.mem_filter.mpr ⟨List.mem_of_getElem? (i := 272) (by decide +kernel), rfl⟩
theorem xw_104 : Cond.fieldLink RX2 46 "LieKitchen$Kitchen" "lawSo" "[I" ∈ xk_tg := List.mem_filter.mpr ⟨List.mem_of_getElem? (i := 274) (by decide +kernel), rfl⟩
theorem xw_105 : Cond.fieldLink RX2 49 "LieKitchen$Kitchen" "lawNot" "[I" ∈ xk_tg := List.mem_filter.mpr ⟨List.mem_of_getElem? (i := 277) (by decide +kernel), rfl⟩
theorem xw_106 : Cond.fieldLink RX2 52 "LieKitchen$Kitchen" "fee" "[I" ∈ xk_tg := List.mem_filter.mpr ⟨List.mem_of_getElem? (i := 280) (by decide +kernel), rfl⟩
theorem xw_107 : Cond.fieldLink RX2 55 "LieKitchen$Kitchen" "knows" "[I" ∈ xk_tg := List.mem_filter.mpr ⟨List.mem_of_getElem? (i := 282) (by decide +kernel), rfl⟩
theorem xw_108 : Cond.fieldLink RX2 58 "LieKitchen$Kitchen" "lawful" "[J" ∈ xk_tg := List.mem_filter.mpr ⟨List.mem_of_getElem? (i := 284) (by decide +kernel), rfl⟩
theorem xw_109 : Cond.fieldLink RX2 65 "LieKitchen$Kitchen" "talk" "LLieKitchen$Talk;" ∈ xk_tg := List.mem_filter.mpr ⟨List.mem_of_getElem? (i := 285) (by decide +kernel), rfl⟩
theorem xw_110 : Cond.classLink RX2 62 RX7 ∈ xk_tg := List.mem_filter.mpr ⟨List.mem_of_getElem? (i := 214) (by decide +kernel), rfl⟩
theorem xw_111 : Cond.instantiable RX7 4 ∈ xk_tg := List.mem_filter.mpr ⟨List.mem_of_getElem? (i := 215) (by decide +kernel), rfl⟩
theorem xw_112 : Cond.initialized RX7 ∈ xk_tg := List.mem_filter.mpr ⟨List.mem_of_getElem? (i := 168) (by decide +kernel), rfl⟩
theorem xw_113 : Cond.constantLong RX2 118 (Int64.ofInt 100) ∈ xk_tg := List.mem_filter.mpr ⟨List.mem_of_getElem? (i := 977) (by decide +kernel), rfl⟩
theorem xw_114 : Cond.methodLink RX2 3 objectInit ∈ xk_tg := List.mem_filter.mpr ⟨List.mem_of_getElem? (i := 213) (by decide +kernel), rfl⟩
theorem xw_115 : Cond.methodLink RX2 72 arraycopyName ∈ xk_tg := List.mem_filter.mpr ⟨List.mem_of_getElem? (i := 699) (by decide +kernel), rfl⟩
theorem xw_116 : Cond.fieldLink RX3 9 "LieKitchen$Mender" "changes" "[I" ∈ xk_tg := List.mem_filter.mpr ⟨List.mem_of_getElem? (i := 385) (by decide +kernel), rfl⟩
theorem xw_117 : Cond.fieldLink RX3 15 "LieKitchen$Mender" "length" "I" ∈ xk_tg := List.mem_filter.mpr ⟨List.mem_of_getElem? (i := 387) (by decide +kernel), rfl⟩
theorem xw_118 : Cond.fieldLink RX3 19 "LieKitchen$Mender" "story" "I" ∈ xk_tg := List.mem_filter.mpr ⟨List.mem_of_getElem? (i := 389) (by decide +kernel), rfl⟩
theorem xw_119 : Cond.fieldLinkNest RX3 22 "LieKitchen$Kitchen" "truth" "I" "LieKitchen" ∈ xk_tb := List.mem_filter.mpr ⟨List.mem_of_getElem? (i := 254) (by decide +kernel), rfl⟩
theorem xw_120 : Cond.fieldLinkNest RX3 27 "LieKitchen$Kitchen" "wanted" "I" "LieKitchen" ∈ xk_tb := List.mem_filter.mpr ⟨List.mem_of_getElem? (i := 262) (by decide +kernel), rfl⟩
theorem xw_121 : Cond.fieldLinkNest RX3 30 "LieKitchen$Kitchen" "wishes" "I" "LieKitchen" ∈ xk_tb := List.mem_filter.mpr ⟨List.mem_of_getElem? (i := 265) (by decide +kernel), rfl⟩
theorem xw_122 : Cond.fieldLinkNest RX3 33 "LieKitchen$Kitchen" "known" "I" "LieKitchen" ∈ xk_tb := List.mem_filter.mpr ⟨List.mem_of_getElem? (i := 258) (by decide +kernel), rfl⟩
theorem xw_123 : Cond.fieldLinkNest RX3 40 "LieKitchen$Kitchen" "lawSo" "[I" "LieKitchen" ∈ xk_tb := List.mem_filter.mpr ⟨List.mem_of_getElem? (i := 275) (by decide +kernel), rfl⟩
theorem xw_124 : Cond.fieldLinkNest RX3 43 "LieKitchen$Kitchen" "lawNot" "[I" "LieKitchen" ∈ xk_tb := List.mem_filter.mpr ⟨List.mem_of_getElem? (i := 278) (by decide +kernel), rfl⟩
theorem xw_125 : Cond.methodLink RX3 3 objectInit ∈ xk_tg := List.mem_filter.mpr ⟨List.mem_of_getElem? (i := 384) (by decide +kernel), rfl⟩
theorem xw_126 : Cond.fieldLink RX4 9 "LieKitchen$Reader" "tokens" "[I" ∈ xk_tg := List.mem_filter.mpr ⟨List.mem_of_getElem? (i := 330) (by decide +kernel), rfl⟩
theorem xw_127 : Cond.fieldLink RX4 15 "LieKitchen$Reader" "at" "I" ∈ xk_tg := List.mem_filter.mpr ⟨List.mem_of_getElem? (i := 331) (by decide +kernel), rfl⟩
theorem xw_128 : Cond.fieldLink RX4 19 "LieKitchen$Reader" "fault" "I" ∈ xk_tg := List.mem_filter.mpr ⟨List.mem_of_getElem? (i := 332) (by decide +kernel), rfl⟩
theorem xw_129 : Cond.fieldLink RX4 22 "LieKitchen$Reader" "place" "I" ∈ xk_tg := List.mem_filter.mpr ⟨List.mem_of_getElem? (i := 334) (by decide +kernel), rfl⟩
theorem xw_130 : Cond.fieldLink RX4 25 "LieKitchen$Reader" "tape" "LLieKitchen$Tape;" ∈ xk_tg := List.mem_filter.mpr ⟨List.mem_of_getElem? (i := 328) (by decide +kernel), rfl⟩
theorem xw_131 : Cond.fieldLink RX4 29 "LieKitchen$Reader" "into" "LLieKitchen$Kitchen;" ∈ xk_tg := List.mem_filter.mpr ⟨List.mem_of_getElem? (i := 329) (by decide +kernel), rfl⟩
theorem xw_132 : Cond.fieldLinkNest RX4 48 "LieKitchen$Kitchen" "lines" "I" "LieKitchen" ∈ xk_tb := List.mem_filter.mpr ⟨List.mem_of_getElem? (i := 240) (by decide +kernel), rfl⟩
theorem xw_133 : Cond.fieldLinkNest RX4 73 "LieKitchen$Kitchen" "known" "I" "LieKitchen" ∈ xk_tb := List.mem_filter.mpr ⟨List.mem_of_getElem? (i := 259) (by decide +kernel), rfl⟩
theorem xw_134 : Cond.fieldLinkNest RX4 75 "LieKitchen$Kitchen" "claims" "I" "LieKitchen" ∈ xk_tb := List.mem_filter.mpr ⟨List.mem_of_getElem? (i := 244) (by decide +kernel), rfl⟩
theorem xw_135 : Cond.fieldLinkNest RX4 115 "LieKitchen$Kitchen" "laws" "I" "LieKitchen" ∈ xk_tb := List.mem_filter.mpr ⟨List.mem_of_getElem? (i := 248) (by decide +kernel), rfl⟩
theorem xw_136 : Cond.fieldLinkNest RX4 147 "LieKitchen$Kitchen" "people" "I" "LieKitchen" ∈ xk_tb := List.mem_filter.mpr ⟨List.mem_of_getElem? (i := 251) (by decide +kernel), rfl⟩
theorem xw_137 : Cond.fieldLinkNest RX4 155 "LieKitchen$Tape" "length" "I" "LieKitchen" ∈ xk_tb := List.mem_filter.mpr ⟨List.mem_of_getElem? (i := 201) (by decide +kernel), rfl⟩
theorem xw_138 : Cond.methodLink RX4 3 objectInit ∈ xk_tg := List.mem_filter.mpr ⟨List.mem_of_getElem? (i := 327) (by decide +kernel), rfl⟩
theorem xw_139 : Cond.methodLink RX4 184 yJ9_min_7cf53 ∈ xk_tg := List.mem_filter.mpr ⟨List.mem_of_getElem? (i := 516) (by decide +kernel), rfl⟩
theorem xw_140 : Cond.static yJ9_min_7cf53 ∈ xk_tg := List.mem_filter.mpr ⟨List.mem_of_getElem? (i := 517) (by decide +kernel), rfl⟩
theorem xw_141 : Cond.code yJ9_min_7cf53 cJ9_min_7cf53 2 (some .int) ∈ xk_tg := List.mem_filter.mpr ⟨List.mem_of_getElem? (i := 518) (by decide +kernel), rfl⟩
theorem xw_142 : Cond.fieldLink RX5 9 "LieKitchen$Sieve" "mask" "I" ∈ xk_tg := List.mem_filter.mpr ⟨List.mem_of_getElem? (i := 356) (by decide +kernel), rfl⟩
theorem xw_143 : Cond.fieldLink RX5 15 "LieKitchen$Sieve" "values" "I" ∈ xk_tg := List.mem_filter.mpr ⟨List.mem_of_getElem? (i := 357) (by decide +kernel), rfl⟩
theorem xw_144 : Cond.fieldLink RX5 18 "LieKitchen$Sieve" "shut" "Z" ∈ xk_tg := List.mem_filter.mpr ⟨List.mem_of_getElem? (i := 358) (by decide +kernel), rfl⟩
theorem xw_145 : Cond.fieldLink RX5 22 "LieKitchen$Sieve" "kitchen" "LLieKitchen$Kitchen;" ∈ xk_tg := List.mem_filter.mpr ⟨List.mem_of_getElem? (i := 355) (by decide +kernel), rfl⟩
theorem xw_146 : Cond.fieldLinkNest RX5 32 "LieKitchen$Kitchen" "claims" "I" "LieKitchen" ∈ xk_tb := List.mem_filter.mpr ⟨List.mem_of_getElem? (i := 245) (by decide +kernel), rfl⟩
theorem xw_147 : Cond.constantLong RX5 67 (Int64.ofInt (-1)) ∈ xk_tg := List.mem_filter.mpr ⟨List.mem_of_getElem? (i := 972) (by decide +kernel), rfl⟩
theorem xw_148 : Cond.methodLink RX5 3 objectInit ∈ xk_tg := List.mem_filter.mpr ⟨List.mem_of_getElem? (i := 354) (by decide +kernel), rfl⟩
theorem xw_149 : Cond.methodLink RX5 55 yJ9_max_7cf53 ∈ xk_tg := List.mem_filter.mpr ⟨List.mem_of_getElem? (i := 1121) (by decide +kernel), rfl⟩
theorem xw_150 : Cond.static yJ9_max_7cf53 ∈ xk_tg := List.mem_filter.mpr ⟨List.mem_of_getElem? (i := 1122) (by decide +kernel), rfl⟩
theorem xw_151 : Cond.code yJ9_max_7cf53 cJ9_max_7cf53 2 (some .int) ∈ xk_tg := List.mem_filter.mpr ⟨List.mem_of_getElem? (i := 1123) (by decide +kernel), rfl⟩
theorem xw_152 : Cond.fieldLink RX6 9 "LieKitchen$Slot" "numbers" "[J" ∈ xk_tg := List.mem_filter.mpr ⟨List.mem_of_getElem? (i := 428) (by decide +kernel), rfl⟩
theorem xw_153 : Cond.fieldLink RX6 15 "LieKitchen$Slot" "width" "I" ∈ xk_tg := List.mem_filter.mpr ⟨List.mem_of_getElem? (i := 430) (by decide +kernel), rfl⟩
theorem xw_154 : Cond.fieldLink RX6 19 "LieKitchen$Slot" "length" "I" ∈ xk_tg := List.mem_filter.mpr ⟨List.mem_of_getElem? (i := 432) (by decide +kernel), rfl⟩
theorem xw_155 : Cond.methodLink RX6 3 objectInit ∈ xk_tg := List.mem_filter.mpr ⟨List.mem_of_getElem? (i := 427) (by decide +kernel), rfl⟩
theorem xw_156 : Cond.fieldLink RX7 9 "LieKitchen$Talk" "words" "[I" ∈ xk_tg := List.mem_filter.mpr ⟨List.mem_of_getElem? (i := 220) (by decide +kernel), rfl⟩
theorem xw_157 : Cond.fieldLink RX7 15 "LieKitchen$Talk" "length" "I" ∈ xk_tg := List.mem_filter.mpr ⟨List.mem_of_getElem? (i := 222) (by decide +kernel), rfl⟩
theorem xw_158 : Cond.fieldLink RX7 19 "LieKitchen$Talk" "mask" "I" ∈ xk_tg := List.mem_filter.mpr ⟨List.mem_of_getElem? (i := 224) (by decide +kernel), rfl⟩
theorem xw_159 : Cond.fieldLink RX7 22 "LieKitchen$Talk" "values" "I" ∈ xk_tg := List.mem_filter.mpr ⟨List.mem_of_getElem? (i := 226) (by decide +kernel), rfl⟩
theorem xw_160 : Cond.methodLink RX7 3 objectInit ∈ xk_tg := List.mem_filter.mpr ⟨List.mem_of_getElem? (i := 219) (by decide +kernel), rfl⟩
theorem xw_161 : Cond.methodLink RX7 25 arraycopyName ∈ xk_tg := List.mem_filter.mpr ⟨List.mem_of_getElem? (i := 706) (by decide +kernel), rfl⟩
theorem xw_162 : Cond.fieldLink RX8 9 "LieKitchen$Tape" "bytes" "[B" ∈ xk_tg := List.mem_filter.mpr ⟨List.mem_of_getElem? (i := 198) (by decide +kernel), rfl⟩
theorem xw_163 : Cond.fieldLink RX8 15 "LieKitchen$Tape" "length" "I" ∈ xk_tg := List.mem_filter.mpr ⟨List.mem_of_getElem? (i := 199) (by decide +kernel), rfl⟩
theorem xw_164 : Cond.methodLink RX8 3 objectInit ∈ xk_tg := List.mem_filter.mpr ⟨List.mem_of_getElem? (i := 197) (by decide +kernel), rfl⟩
theorem xw_165 : Cond.classLink RL 7 RX9 ∈ xk_tg := List.mem_filter.mpr ⟨List.mem_of_getElem? (i := 184) (by decide +kernel), rfl⟩
theorem xw_166 : Cond.instantiable RX9 10 ∈ xk_tg := List.mem_filter.mpr ⟨List.mem_of_getElem? (i := 185) (by decide +kernel), rfl⟩
theorem xw_167 : Cond.initialized RX9 ∈ xk_tg := List.mem_filter.mpr ⟨List.mem_of_getElem? (i := 165) (by decide +kernel), rfl⟩
theorem xw_168 : Cond.classLink RL 10 RX10 ∈ xk_tg := List.mem_filter.mpr ⟨List.mem_of_getElem? (i := 1316) (by decide +kernel), rfl⟩
theorem xw_169 : Cond.instantiable RX10 33 ∈ xk_tg := List.mem_filter.mpr ⟨List.mem_of_getElem? (i := 1317) (by decide +kernel), rfl⟩
theorem xw_170 : Cond.initialized RX10 ∈ xk_tg := List.mem_filter.mpr ⟨List.mem_of_getElem? (i := 175) (by decide +kernel), rfl⟩
theorem xw_171 : Cond.constantLong RL 308 (Int64.ofInt 4294967295) ∈ xk_tg := List.mem_filter.mpr ⟨List.mem_of_getElem? (i := 2049) (by decide +kernel), rfl⟩
theorem xw_172 : Cond.fieldLink RX10 7 "LieKitchenModel" "width" "[I" ∈ xk_tg := List.mem_filter.mpr ⟨List.mem_of_getElem? (i := 1323) (by decide +kernel), rfl⟩
theorem xw_173 : Cond.fieldLink RX10 13 "LieKitchenModel" "many" "[I" ∈ xk_tg := List.mem_filter.mpr ⟨List.mem_of_getElem? (i := 1324) (by decide +kernel), rfl⟩
theorem xw_174 : Cond.fieldLink RX10 16 "LieKitchenModel" "cells" "[J" ∈ xk_tg := List.mem_filter.mpr ⟨List.mem_of_getElem? (i := 1325) (by decide +kernel), rfl⟩
theorem xw_175 : Cond.fieldLink RX10 20 "LieKitchenModel" "moved" "[J" ∈ xk_tg := List.mem_filter.mpr ⟨List.mem_of_getElem? (i := 1326) (by decide +kernel), rfl⟩
theorem xw_176 : Cond.fieldLink RX10 23 "LieKitchenModel" "tape" "[B" ∈ xk_tg := List.mem_filter.mpr ⟨List.mem_of_getElem? (i := 1327) (by decide +kernel), rfl⟩
theorem xw_177 : Cond.fieldLink RX10 27 "LieKitchenModel" "faultPlace" "I" ∈ xk_tg := List.mem_filter.mpr ⟨List.mem_of_getElem? (i := 1337) (by decide +kernel), rfl⟩
theorem xw_178 : Cond.fieldLink RX10 31 "LieKitchenModel" "lines" "[I" ∈ xk_tg := List.mem_filter.mpr ⟨List.mem_of_getElem? (i := 1338) (by decide +kernel), rfl⟩
theorem xw_179 : Cond.fieldLink RX10 34 "LieKitchenModel" "has" "[I" ∈ xk_tg := List.mem_filter.mpr ⟨List.mem_of_getElem? (i := 1339) (by decide +kernel), rfl⟩
theorem xw_180 : Cond.fieldLink RX10 37 "LieKitchenModel" "claim" "[I" ∈ xk_tg := List.mem_filter.mpr ⟨List.mem_of_getElem? (i := 1340) (by decide +kernel), rfl⟩
theorem xw_181 : Cond.fieldLink RX10 40 "LieKitchenModel" "law" "[I" ∈ xk_tg := List.mem_filter.mpr ⟨List.mem_of_getElem? (i := 1341) (by decide +kernel), rfl⟩
theorem xw_182 : Cond.fieldLink RX10 43 "LieKitchenModel" "person" "[I" ∈ xk_tg := List.mem_filter.mpr ⟨List.mem_of_getElem? (i := 1342) (by decide +kernel), rfl⟩
theorem xw_183 : Cond.fieldLink RX10 46 "LieKitchenModel" "told" "[I" ∈ xk_tg := List.mem_filter.mpr ⟨List.mem_of_getElem? (i := 1343) (by decide +kernel), rfl⟩
theorem xw_184 : Cond.fieldLink RX10 49 "LieKitchenModel" "isKept" "[Z" ∈ xk_tg := List.mem_filter.mpr ⟨List.mem_of_getElem? (i := 1344) (by decide +kernel), rfl⟩
theorem xw_185 : Cond.fieldLink RX10 53 "LieKitchenModel" "counts" "[Z" ∈ xk_tg := List.mem_filter.mpr ⟨List.mem_of_getElem? (i := 1345) (by decide +kernel), rfl⟩
theorem xw_186 : Cond.fieldLink RX10 56 "LieKitchenModel" "changes" "[I" ∈ xk_tg := List.mem_filter.mpr ⟨List.mem_of_getElem? (i := 1349) (by decide +kernel), rfl⟩
theorem xw_187 : Cond.fieldLink RX10 59 "LieKitchenModel" "thrown" "I" ∈ xk_tg := List.mem_filter.mpr ⟨List.mem_of_getElem? (i := 1322) (by decide +kernel), rfl⟩
theorem xw_188 : Cond.fieldLink RX10 76 "LieKitchenModel" "taped" "I" ∈ xk_tg := List.mem_filter.mpr ⟨List.mem_of_getElem? (i := 1328) (by decide +kernel), rfl⟩
theorem xw_189 : Cond.fieldLink RX10 83 "LieKitchenModel" "at" "I" ∈ xk_tg := List.mem_filter.mpr ⟨List.mem_of_getElem? (i := 1329) (by decide +kernel), rfl⟩
theorem xw_190 : Cond.fieldLink RX10 90 "LieKitchenModel" "place" "I" ∈ xk_tg := List.mem_filter.mpr ⟨List.mem_of_getElem? (i := 1331) (by decide +kernel), rfl⟩
theorem xw_191 : Cond.fieldLink RX10 93 "LieKitchenModel" "value" "I" ∈ xk_tg := List.mem_filter.mpr ⟨List.mem_of_getElem? (i := 1332) (by decide +kernel), rfl⟩
theorem xw_192 : Cond.fieldLink RX10 96 "LieKitchenModel" "word" "J" ∈ xk_tg := List.mem_filter.mpr ⟨List.mem_of_getElem? (i := 1333) (by decide +kernel), rfl⟩
theorem xw_193 : Cond.fieldLink RX10 100 "LieKitchenModel" "token" "I" ∈ xk_tg := List.mem_filter.mpr ⟨List.mem_of_getElem? (i := 1330) (by decide +kernel), rfl⟩
theorem xw_194 : Cond.fieldLink RX10 111 "LieKitchenModel" "bad" "I" ∈ xk_tg := List.mem_filter.mpr ⟨List.mem_of_getElem? (i := 1334) (by decide +kernel), rfl⟩
theorem xw_195 : Cond.fieldLink RX10 114 "LieKitchenModel" "badPlace" "I" ∈ xk_tg := List.mem_filter.mpr ⟨List.mem_of_getElem? (i := 1335) (by decide +kernel), rfl⟩
theorem xw_196 : Cond.fieldLink RX10 138 "LieKitchenModel" "fault" "I" ∈ xk_tg := List.mem_filter.mpr ⟨List.mem_of_getElem? (i := 1336) (by decide +kernel), rfl⟩
theorem xw_197 : Cond.fieldLink RX10 287 "LieKitchenModel" "many0" "I" ∈ xk_tg := List.mem_filter.mpr ⟨List.mem_of_getElem? (i := 1346) (by decide +kernel), rfl⟩
theorem xw_198 : Cond.fieldLink RX10 341 "LieKitchenModel" "confessCost" "I" ∈ xk_tg := List.mem_filter.mpr ⟨List.mem_of_getElem? (i := 1347) (by decide +kernel), rfl⟩
theorem xw_199 : Cond.fieldLink RX10 374 "LieKitchenModel" "askLeaves" "I" ∈ xk_tg := List.mem_filter.mpr ⟨List.mem_of_getElem? (i := 1348) (by decide +kernel), rfl⟩
theorem xw_200 : Cond.fieldLink RX10 387 "LieKitchenModel" "changed" "I" ∈ xk_tg := List.mem_filter.mpr ⟨List.mem_of_getElem? (i := 1350) (by decide +kernel), rfl⟩
theorem xw_201 : Cond.fieldLink RX10 390 "LieKitchenModel" "naiveStory" "I" ∈ xk_tg := List.mem_filter.mpr ⟨List.mem_of_getElem? (i := 1351) (by decide +kernel), rfl⟩
theorem xw_202 : Cond.fieldLink RX10 396 "LieKitchenModel" "cameOut" "I" ∈ xk_tg := List.mem_filter.mpr ⟨List.mem_of_getElem? (i := 1352) (by decide +kernel), rfl⟩
theorem xw_203 : Cond.fieldLink RX10 399 "LieKitchenModel" "firstDay" "I" ∈ xk_tg := List.mem_filter.mpr ⟨List.mem_of_getElem? (i := 1353) (by decide +kernel), rfl⟩
theorem xw_204 : Cond.fieldLink RX10 402 "LieKitchenModel" "firstClaim" "I" ∈ xk_tg := List.mem_filter.mpr ⟨List.mem_of_getElem? (i := 1354) (by decide +kernel), rfl⟩
theorem xw_205 : Cond.constant RX10 109 (Int32.ofInt 100000) ∈ xk_tg := List.mem_filter.mpr ⟨List.mem_of_getElem? (i := 1487) (by decide +kernel), rfl⟩
theorem xw_206 : Cond.constant RX10 110 (Int32.ofInt 1000000) ∈ xk_tg := List.mem_filter.mpr ⟨List.mem_of_getElem? (i := 1488) (by decide +kernel), rfl⟩
theorem xw_207 : Cond.constantLong RX10 62 (Int64.ofInt 3) ∈ xk_tg := List.mem_filter.mpr ⟨List.mem_of_getElem? (i := 1429) (by decide +kernel), rfl⟩
theorem xw_208 : Cond.constantLong RX10 103 (Int64.ofInt (-1)) ∈ xk_tg := List.mem_filter.mpr ⟨List.mem_of_getElem? (i := 1484) (by decide +kernel), rfl⟩
theorem xw_209 : Cond.constantLong RX10 105 (Int64.ofInt 27) ∈ xk_tg := List.mem_filter.mpr ⟨List.mem_of_getElem? (i := 1485) (by decide +kernel), rfl⟩
theorem xw_210 : Cond.constantLong RX10 107 (Int64.ofInt 96) ∈ xk_tg := List.mem_filter.mpr ⟨List.mem_of_getElem? (i := 1486) (by decide +kernel), rfl⟩
theorem xw_211 : Cond.constantLong RX10 145 (Int64.ofInt 10631) ∈ xk_tg := List.mem_filter.mpr ⟨List.mem_of_getElem? (i := 1526) (by decide +kernel), rfl⟩
theorem xw_212 : Cond.constantLong RX10 151 (Int64.ofInt 528) ∈ xk_tg := List.mem_filter.mpr ⟨List.mem_of_getElem? (i := 1525) (by decide +kernel), rfl⟩
theorem xw_213 : Cond.constantLong RX10 153 (Int64.ofInt 70517) ∈ xk_tg := List.mem_filter.mpr ⟨List.mem_of_getElem? (i := 1527) (by decide +kernel), rfl⟩
theorem xw_214 : Cond.constantLong RX10 158 (Int64.ofInt 3499582) ∈ xk_tg := List.mem_filter.mpr ⟨List.mem_of_getElem? (i := 1536) (by decide +kernel), rfl⟩
theorem xw_215 : Cond.constantLong RX10 160 (Int64.ofInt 312409) ∈ xk_tg := List.mem_filter.mpr ⟨List.mem_of_getElem? (i := 1537) (by decide +kernel), rfl⟩
theorem xw_216 : Cond.constantLong RX10 170 (Int64.ofInt 385268) ∈ xk_tg := List.mem_filter.mpr ⟨List.mem_of_getElem? (i := 1542) (by decide +kernel), rfl⟩
theorem xw_217 : Cond.constantLong RX10 182 (Int64.ofInt 249) ∈ xk_tg := List.mem_filter.mpr ⟨List.mem_of_getElem? (i := 1559) (by decide +kernel), rfl⟩
theorem xw_218 : Cond.constantLong RX10 184 (Int64.ofInt 40600) ∈ xk_tg := List.mem_filter.mpr ⟨List.mem_of_getElem? (i := 1560) (by decide +kernel), rfl⟩
theorem xw_219 : Cond.constantLong RX10 186 (Int64.ofInt 399641) ∈ xk_tg := List.mem_filter.mpr ⟨List.mem_of_getElem? (i := 1561) (by decide +kernel), rfl⟩
theorem xw_220 : Cond.constantLong RX10 188 (Int64.ofInt 6132988) ∈ xk_tg := List.mem_filter.mpr ⟨List.mem_of_getElem? (i := 1566) (by decide +kernel), rfl⟩
theorem xw_221 : Cond.constantLong RX10 190 (Int64.ofInt 1831504) ∈ xk_tg := List.mem_filter.mpr ⟨List.mem_of_getElem? (i := 1514) (by decide +kernel), rfl⟩
theorem xw_222 : Cond.constantLong RX10 192 (Int64.ofInt 8798) ∈ xk_tg := List.mem_filter.mpr ⟨List.mem_of_getElem? (i := 1515) (by decide +kernel), rfl⟩
theorem xw_223 : Cond.constantLong RX10 194 (Int64.ofInt 232608281) ∈ xk_tg := List.mem_filter.mpr ⟨List.mem_of_getElem? (i := 1516) (by decide +kernel), rfl⟩
theorem xw_224 : Cond.constantLong RX10 205 (Int64.ofInt 12253591) ∈ xk_tg := List.mem_filter.mpr ⟨List.mem_of_getElem? (i := 1567) (by decide +kernel), rfl⟩
theorem xw_225 : Cond.constantLong RX10 210 (Int64.ofInt 6132983) ∈ xk_tg := List.mem_filter.mpr ⟨List.mem_of_getElem? (i := 1572) (by decide +kernel), rfl⟩
theorem xw_226 : Cond.constantLong RX10 222 (Int64.ofInt 4401459392) ∈ xk_tg := List.mem_filter.mpr ⟨List.mem_of_getElem? (i := 1493) (by decide +kernel), rfl⟩
theorem xw_227 : Cond.constantLong RX10 249 (Int64.ofInt 5) ∈ xk_tg := List.mem_filter.mpr ⟨List.mem_of_getElem? (i := 1599) (by decide +kernel), rfl⟩
theorem xw_228 : Cond.constantLong RX10 321 (Int64.ofInt (-2)) ∈ xk_tg := List.mem_filter.mpr ⟨List.mem_of_getElem? (i := 1767) (by decide +kernel), rfl⟩
theorem xw_229 : Cond.constantLong RX10 323 (Int64.ofInt 9) ∈ xk_tg := List.mem_filter.mpr ⟨List.mem_of_getElem? (i := 1768) (by decide +kernel), rfl⟩
theorem xw_230 : Cond.constantLong RX10 325 (Int64.ofInt 100) ∈ xk_tg := List.mem_filter.mpr ⟨List.mem_of_getElem? (i := 1769) (by decide +kernel), rfl⟩
theorem xw_231 : Cond.constantLong RX10 382 (Int64.ofInt 2) ∈ xk_tg := List.mem_filter.mpr ⟨List.mem_of_getElem? (i := 1948) (by decide +kernel), rfl⟩
theorem xw_232 : Cond.constantLong RX10 405 (Int64.ofInt 1103515245) ∈ xk_tg := List.mem_filter.mpr ⟨List.mem_of_getElem? (i := 2015) (by decide +kernel), rfl⟩
theorem xw_233 : Cond.constantLong RX10 407 (Int64.ofInt 12345) ∈ xk_tg := List.mem_filter.mpr ⟨List.mem_of_getElem? (i := 2016) (by decide +kernel), rfl⟩
theorem xw_234 : Cond.constantLong RX10 409 (Int64.ofInt 2147483648) ∈ xk_tg := List.mem_filter.mpr ⟨List.mem_of_getElem? (i := 2017) (by decide +kernel), rfl⟩
theorem xw_235 : Cond.constantLong RX10 411 (Int64.ofInt 65536) ∈ xk_tg := List.mem_filter.mpr ⟨List.mem_of_getElem? (i := 2018) (by decide +kernel), rfl⟩
theorem xw_236 : Cond.constantLong RX10 413 (Int64.ofInt 2000000000) ∈ xk_tg := List.mem_filter.mpr ⟨List.mem_of_getElem? (i := 2009) (by decide +kernel), rfl⟩
theorem xw_237 : Cond.constantLong RX10 415 (Int64.ofInt 60) ∈ xk_tg := List.mem_filter.mpr ⟨List.mem_of_getElem? (i := 2010) (by decide +kernel), rfl⟩
theorem xw_238 : Cond.constantLong RX10 424 (Int64.ofInt 20) ∈ xk_tg := List.mem_filter.mpr ⟨List.mem_of_getElem? (i := 2023) (by decide +kernel), rfl⟩
theorem xw_239 : Cond.constantLong RX10 426 (Int64.ofInt 99) ∈ xk_tg := List.mem_filter.mpr ⟨List.mem_of_getElem? (i := 2036) (by decide +kernel), rfl⟩
theorem xw_240 : Cond.methodLink RX10 1 objectInit ∈ xk_tg := List.mem_filter.mpr ⟨List.mem_of_getElem? (i := 1321) (by decide +kernel), rfl⟩
theorem xw_241 : Cond.constant RJ6 264 (Int32.ofInt 65536) ∈ xk_tg := List.mem_filter.mpr ⟨List.mem_of_getElem? (i := 1224) (by decide +kernel), rfl⟩
theorem xw_242 : Cond.constant RJ6 265 (Int32.ofInt 1431655765) ∈ xk_tg := List.mem_filter.mpr ⟨List.mem_of_getElem? (i := 843) (by decide +kernel), rfl⟩
theorem xw_243 : Cond.constant RJ6 266 (Int32.ofInt 858993459) ∈ xk_tg := List.mem_filter.mpr ⟨List.mem_of_getElem? (i := 844) (by decide +kernel), rfl⟩
theorem xw_244 : Cond.constant RJ6 267 (Int32.ofInt 252645135) ∈ xk_tg := List.mem_filter.mpr ⟨List.mem_of_getElem? (i := 845) (by decide +kernel), rfl⟩
theorem xw_245 : Cond.fieldLink RJ0 9 "java/lang/String" "value" "[B" ∈ xk_tg := List.mem_filter.mpr ⟨List.mem_of_getElem? (i := 2050) (by decide +kernel), rfl⟩
theorem xw_246 : Cond.fieldLink RJ0 15 "java/lang/String" "coder" "B" ∈ xk_tg := List.mem_filter.mpr ⟨List.mem_of_getElem? (i := 2051) (by decide +kernel), rfl⟩
theorem xw_247 : Cond.fieldLink RJ0 38 "java/lang/String" "COMPACT_STRINGS" "Z" ∈ xk_tg := List.mem_filter.mpr ⟨List.mem_of_getElem? (i := 556) (by decide +kernel), rfl⟩
theorem xw_248 : Cond.fieldLink RJ0 1053 "jdk/internal/util/Preconditions" "SIOOBE_FORMATTER" "Ljava/util/function/BiFunction;" ∈ xk_tg := List.mem_filter.mpr ⟨List.mem_of_getElem? (i := 572) (by decide +kernel), rfl⟩
theorem xw_249 : Cond.instanceMethod objectInit ∈ xk_tg := List.mem_filter.mpr ⟨List.mem_of_getElem? (i := 190) (by decide +kernel), rfl⟩
theorem xw_250 : Cond.code objectInit ⟨#[0xb1]⟩ 1 none ∈ xk_tg := List.mem_filter.mpr ⟨List.mem_of_getElem? (i := 191) (by decide +kernel), rfl⟩
theorem xw_251 : Cond.native arraycopyName ∈ xk_tg := List.mem_filter.mpr ⟨List.mem_of_getElem? (i := 701) (by decide +kernel), rfl⟩
theorem xw_252 : Cond.static arraycopyName ∈ xk_tg := List.mem_filter.mpr ⟨List.mem_of_getElem? (i := 700) (by decide +kernel), rfl⟩
theorem xw_253 : Cond.initialized RJ10 ∈ xk_tg := List.mem_filter.mpr ⟨List.mem_of_getElem? (i := 182) (by decide +kernel), rfl⟩
theorem xw_254 : Cond.methodLinkNest RX2 64 yX7_init "LieKitchen" ∈ xk_tb := List.mem_filter.mpr ⟨List.mem_of_getElem? (i := 216) (by decide +kernel), rfl⟩
theorem xw_255 : Cond.code yX7_init cX7_init 1 none ∈ xk_tg := List.mem_filter.mpr ⟨List.mem_of_getElem? (i := 218) (by decide +kernel), rfl⟩
theorem xw_256 : Cond.instanceMethod yX7_init ∈ xk_tg := List.mem_filter.mpr ⟨List.mem_of_getElem? (i := 217) (by decide +kernel), rfl⟩
theorem xw_257 : Cond.methodLinkNest RX9 75 yX6_init "LieKitchen" ∈ xk_tb := List.mem_filter.mpr ⟨List.mem_of_getElem? (i := 424) (by decide +kernel), rfl⟩
theorem xw_258 : Cond.code yX6_init cX6_init 1 none ∈ xk_tg := List.mem_filter.mpr ⟨List.mem_of_getElem? (i := 426) (by decide +kernel), rfl⟩
theorem xw_259 : Cond.instanceMethod yX6_init ∈ xk_tg := List.mem_filter.mpr ⟨List.mem_of_getElem? (i := 425) (by decide +kernel), rfl⟩
theorem xw_260 : Cond.methodLinkNest RX9 60 yX0_init "LieKitchen" ∈ xk_tb := List.mem_filter.mpr ⟨List.mem_of_getElem? (i := 400) (by decide +kernel), rfl⟩
theorem xw_261 : Cond.code yX0_init cX0_init 1 none ∈ xk_tg := List.mem_filter.mpr ⟨List.mem_of_getElem? (i := 402) (by decide +kernel), rfl⟩
theorem xw_262 : Cond.instanceMethod yX0_init ∈ xk_tg := List.mem_filter.mpr ⟨List.mem_of_getElem? (i := 401) (by decide +kernel), rfl⟩
theorem xw_263 : Cond.methodLinkNest RX9 53 yX3_init "LieKitchen" ∈ xk_tb := List.mem_filter.mpr ⟨List.mem_of_getElem? (i := 381) (by decide +kernel), rfl⟩
theorem xw_264 : Cond.code yX3_init cX3_init 1 none ∈ xk_tg := List.mem_filter.mpr ⟨List.mem_of_getElem? (i := 383) (by decide +kernel), rfl⟩
theorem xw_265 : Cond.instanceMethod yX3_init ∈ xk_tg := List.mem_filter.mpr ⟨List.mem_of_getElem? (i := 382) (by decide +kernel), rfl⟩
theorem xw_266 : Cond.methodLinkNest RX9 46 yX1_init "LieKitchen" ∈ xk_tb := List.mem_filter.mpr ⟨List.mem_of_getElem? (i := 370) (by decide +kernel), rfl⟩
theorem xw_267 : Cond.code yX1_init cX1_init 1 none ∈ xk_tg := List.mem_filter.mpr ⟨List.mem_of_getElem? (i := 372) (by decide +kernel), rfl⟩
theorem xw_268 : Cond.instanceMethod yX1_init ∈ xk_tg := List.mem_filter.mpr ⟨List.mem_of_getElem? (i := 371) (by decide +kernel), rfl⟩
theorem xw_269 : Cond.methodLinkNest RX9 37 yX5_init "LieKitchen" ∈ xk_tb := List.mem_filter.mpr ⟨List.mem_of_getElem? (i := 351) (by decide +kernel), rfl⟩
theorem xw_270 : Cond.code yX5_init cX5_init 2 none ∈ xk_tg := List.mem_filter.mpr ⟨List.mem_of_getElem? (i := 353) (by decide +kernel), rfl⟩
theorem xw_271 : Cond.instanceMethod yX5_init ∈ xk_tg := List.mem_filter.mpr ⟨List.mem_of_getElem? (i := 352) (by decide +kernel), rfl⟩
theorem xw_272 : Cond.methodLinkNest RX9 28 yX4_init "LieKitchen" ∈ xk_tb := List.mem_filter.mpr ⟨List.mem_of_getElem? (i := 324) (by decide +kernel), rfl⟩
theorem xw_273 : Cond.code yX4_init cX4_init 3 none ∈ xk_tg := List.mem_filter.mpr ⟨List.mem_of_getElem? (i := 326) (by decide +kernel), rfl⟩
theorem xw_274 : Cond.instanceMethod yX4_init ∈ xk_tg := List.mem_filter.mpr ⟨List.mem_of_getElem? (i := 325) (by decide +kernel), rfl⟩
theorem xw_275 : Cond.methodLinkNest RX9 18 yX2_init "LieKitchen" ∈ xk_tb := List.mem_filter.mpr ⟨List.mem_of_getElem? (i := 210) (by decide +kernel), rfl⟩
theorem xw_276 : Cond.code yX2_init cX2_init 1 none ∈ xk_tg := List.mem_filter.mpr ⟨List.mem_of_getElem? (i := 212) (by decide +kernel), rfl⟩
theorem xw_277 : Cond.instanceMethod yX2_init ∈ xk_tg := List.mem_filter.mpr ⟨List.mem_of_getElem? (i := 211) (by decide +kernel), rfl⟩
theorem xw_278 : Cond.methodLinkNest RX9 11 yX8_init "LieKitchen" ∈ xk_tb := List.mem_filter.mpr ⟨List.mem_of_getElem? (i := 194) (by decide +kernel), rfl⟩
theorem xw_279 : Cond.code yX8_init cX8_init 1 none ∈ xk_tg := List.mem_filter.mpr ⟨List.mem_of_getElem? (i := 196) (by decide +kernel), rfl⟩
theorem xw_280 : Cond.instanceMethod yX8_init ∈ xk_tg := List.mem_filter.mpr ⟨List.mem_of_getElem? (i := 195) (by decide +kernel), rfl⟩
theorem xw_281 : Cond.methodLinkNest RX9 80 yX8_append "LieKitchen" ∈ xk_tb := List.mem_filter.mpr ⟨List.mem_of_getElem? (i := 476) (by decide +kernel), rfl⟩
theorem xw_282 : Cond.code yX8_append cX8_append 3 none ∈ xk_tg := List.mem_filter.mpr ⟨List.mem_of_getElem? (i := 479) (by decide +kernel), rfl⟩
theorem xw_283 : Cond.instanceMethod yX8_append ∈ xk_tg := List.mem_filter.mpr ⟨List.mem_of_getElem? (i := 478) (by decide +kernel), rfl⟩
theorem xw_284 : Cond.selects RX8 yX8_append yX8_append ∈ xk_tg := List.mem_filter.mpr ⟨List.mem_of_getElem? (i := 0) (by decide +kernel), rfl⟩
theorem xw_285 : Cond.methodLink RX10 79 yX10_four ∈ xk_tg := List.mem_filter.mpr ⟨List.mem_of_getElem? (i := 1448) (by decide +kernel), rfl⟩
theorem xw_286 : Cond.code yX10_four cX10_four 3 none ∈ xk_tg := List.mem_filter.mpr ⟨List.mem_of_getElem? (i := 1451) (by decide +kernel), rfl⟩
theorem xw_287 : Cond.instanceMethod yX10_four ∈ xk_tg := List.mem_filter.mpr ⟨List.mem_of_getElem? (i := 1450) (by decide +kernel), rfl⟩
theorem xw_288 : Cond.selects RX10 yX10_four yX10_four ∈ xk_tg := List.mem_filter.mpr ⟨List.mem_of_getElem? (i := 96) (by decide +kernel), rfl⟩
theorem xw_289 : Cond.methodLink RX10 64 yX10_in ∈ xk_tg := List.mem_filter.mpr ⟨List.mem_of_getElem? (i := 1430) (by decide +kernel), rfl⟩
theorem xw_290 : Cond.code yX10_in cX10_in 6 (some .boolean) ∈ xk_tg := List.mem_filter.mpr ⟨List.mem_of_getElem? (i := 1432) (by decide +kernel), rfl⟩
theorem xw_291 : Cond.static yX10_in ∈ xk_tg := List.mem_filter.mpr ⟨List.mem_of_getElem? (i := 1431) (by decide +kernel), rfl⟩
theorem xw_292 : Cond.methodLinkNest RX4 164 yX8_byteAt "LieKitchen" ∈ xk_tb := List.mem_filter.mpr ⟨List.mem_of_getElem? (i := 512) (by decide +kernel), rfl⟩
theorem xw_293 : Cond.code yX8_byteAt cX8_byteAt 2 (some .int) ∈ xk_tg := List.mem_filter.mpr ⟨List.mem_of_getElem? (i := 515) (by decide +kernel), rfl⟩
theorem xw_294 : Cond.instanceMethod yX8_byteAt ∈ xk_tg := List.mem_filter.mpr ⟨List.mem_of_getElem? (i := 514) (by decide +kernel), rfl⟩
theorem xw_295 : Cond.selects RX8 yX8_byteAt yX8_byteAt ∈ xk_tg := List.mem_filter.mpr ⟨List.mem_of_getElem? (i := 7) (by decide +kernel), rfl⟩
theorem xw_296 : Cond.methodLinkNest RX4 178 yX8_hasDigit "LieKitchen" ∈ xk_tb := List.mem_filter.mpr ⟨List.mem_of_getElem? (i := 504) (by decide +kernel), rfl⟩
theorem xw_297 : Cond.code yX8_hasDigit cX8_hasDigit 2 (some .boolean) ∈ xk_tg := List.mem_filter.mpr ⟨List.mem_of_getElem? (i := 507) (by decide +kernel), rfl⟩
theorem xw_298 : Cond.instanceMethod yX8_hasDigit ∈ xk_tg := List.mem_filter.mpr ⟨List.mem_of_getElem? (i := 506) (by decide +kernel), rfl⟩
theorem xw_299 : Cond.selects RX8 yX8_hasDigit yX8_hasDigit ∈ xk_tg := List.mem_filter.mpr ⟨List.mem_of_getElem? (i := 5) (by decide +kernel), rfl⟩
theorem xw_300 : Cond.methodLink RX4 181 yX4_numberFrom ∈ xk_tg := List.mem_filter.mpr ⟨List.mem_of_getElem? (i := 508) (by decide +kernel), rfl⟩
theorem xw_301 : Cond.code yX4_numberFrom cX4_numberFrom 4 (some .int) ∈ xk_tg := List.mem_filter.mpr ⟨List.mem_of_getElem? (i := 511) (by decide +kernel), rfl⟩
theorem xw_302 : Cond.instanceMethod yX4_numberFrom ∈ xk_tg := List.mem_filter.mpr ⟨List.mem_of_getElem? (i := 510) (by decide +kernel), rfl⟩
theorem xw_303 : Cond.selects RX4 yX4_numberFrom yX4_numberFrom ∈ xk_tg := List.mem_filter.mpr ⟨List.mem_of_getElem? (i := 6) (by decide +kernel), rfl⟩
theorem xw_304 : Cond.methodLinkNest RX4 171 yX8_hasLetter "LieKitchen" ∈ xk_tb := List.mem_filter.mpr ⟨List.mem_of_getElem? (i := 500) (by decide +kernel), rfl⟩
theorem xw_305 : Cond.code yX8_hasLetter cX8_hasLetter 2 (some .boolean) ∈ xk_tg := List.mem_filter.mpr ⟨List.mem_of_getElem? (i := 503) (by decide +kernel), rfl⟩
theorem xw_306 : Cond.instanceMethod yX8_hasLetter ∈ xk_tg := List.mem_filter.mpr ⟨List.mem_of_getElem? (i := 502) (by decide +kernel), rfl⟩
theorem xw_307 : Cond.selects RX8 yX8_hasLetter yX8_hasLetter ∈ xk_tg := List.mem_filter.mpr ⟨List.mem_of_getElem? (i := 4) (by decide +kernel), rfl⟩
theorem xw_308 : Cond.methodLink RX4 175 yX4_tokenFrom ∈ xk_tg := List.mem_filter.mpr ⟨List.mem_of_getElem? (i := 496) (by decide +kernel), rfl⟩
theorem xw_309 : Cond.code yX4_tokenFrom cX4_tokenFrom 3 (some .int) ∈ xk_tg := List.mem_filter.mpr ⟨List.mem_of_getElem? (i := 499) (by decide +kernel), rfl⟩
theorem xw_310 : Cond.instanceMethod yX4_tokenFrom ∈ xk_tg := List.mem_filter.mpr ⟨List.mem_of_getElem? (i := 498) (by decide +kernel), rfl⟩
theorem xw_311 : Cond.selects RX4 yX4_tokenFrom yX4_tokenFrom ∈ xk_tg := List.mem_filter.mpr ⟨List.mem_of_getElem? (i := 3) (by decide +kernel), rfl⟩
theorem xw_312 : Cond.methodLinkNest RX2 69 yX7_clear "LieKitchen" ∈ xk_tb := List.mem_filter.mpr ⟨List.mem_of_getElem? (i := 523) (by decide +kernel), rfl⟩
theorem xw_313 : Cond.code yX7_clear cX7_clear 1 none ∈ xk_tg := List.mem_filter.mpr ⟨List.mem_of_getElem? (i := 526) (by decide +kernel), rfl⟩
theorem xw_314 : Cond.instanceMethod yX7_clear ∈ xk_tg := List.mem_filter.mpr ⟨List.mem_of_getElem? (i := 525) (by decide +kernel), rfl⟩
theorem xw_315 : Cond.selects RX7 yX7_clear yX7_clear ∈ xk_tg := List.mem_filter.mpr ⟨List.mem_of_getElem? (i := 9) (by decide +kernel), rfl⟩
theorem xw_316 : Cond.methodLink RX4 41 yX4_advance ∈ xk_tg := List.mem_filter.mpr ⟨List.mem_of_getElem? (i := 527) (by decide +kernel), rfl⟩
theorem xw_317 : Cond.code yX4_advance cX4_advance 2 none ∈ xk_tg := List.mem_filter.mpr ⟨List.mem_of_getElem? (i := 530) (by decide +kernel), rfl⟩
theorem xw_318 : Cond.instanceMethod yX4_advance ∈ xk_tg := List.mem_filter.mpr ⟨List.mem_of_getElem? (i := 529) (by decide +kernel), rfl⟩
theorem xw_319 : Cond.selects RX4 yX4_advance yX4_advance ∈ xk_tg := List.mem_filter.mpr ⟨List.mem_of_getElem? (i := 10) (by decide +kernel), rfl⟩
theorem xw_320 : Cond.methodLinkNest RX4 36 yX2_clear "LieKitchen" ∈ xk_tb := List.mem_filter.mpr ⟨List.mem_of_getElem? (i := 519) (by decide +kernel), rfl⟩
theorem xw_321 : Cond.code yX2_clear cX2_clear 1 none ∈ xk_tg := List.mem_filter.mpr ⟨List.mem_of_getElem? (i := 522) (by decide +kernel), rfl⟩
theorem xw_322 : Cond.instanceMethod yX2_clear ∈ xk_tg := List.mem_filter.mpr ⟨List.mem_of_getElem? (i := 521) (by decide +kernel), rfl⟩
theorem xw_323 : Cond.selects RX2 yX2_clear yX2_clear ∈ xk_tg := List.mem_filter.mpr ⟨List.mem_of_getElem? (i := 8) (by decide +kernel), rfl⟩
theorem xw_324 : Cond.methodLink RX4 33 yX4_findTokens ∈ xk_tg := List.mem_filter.mpr ⟨List.mem_of_getElem? (i := 492) (by decide +kernel), rfl⟩
theorem xw_325 : Cond.code yX4_findTokens cX4_findTokens 2 none ∈ xk_tg := List.mem_filter.mpr ⟨List.mem_of_getElem? (i := 495) (by decide +kernel), rfl⟩
theorem xw_326 : Cond.instanceMethod yX4_findTokens ∈ xk_tg := List.mem_filter.mpr ⟨List.mem_of_getElem? (i := 494) (by decide +kernel), rfl⟩
theorem xw_327 : Cond.selects RX4 yX4_findTokens yX4_findTokens ∈ xk_tg := List.mem_filter.mpr ⟨List.mem_of_getElem? (i := 2) (by decide +kernel), rfl⟩
theorem xw_328 : Cond.methodLink RX4 44 yX4_token ∈ xk_tg := List.mem_filter.mpr ⟨List.mem_of_getElem? (i := 535) (by decide +kernel), rfl⟩
theorem xw_329 : Cond.code yX4_token cX4_token 1 (some .int) ∈ xk_tg := List.mem_filter.mpr ⟨List.mem_of_getElem? (i := 538) (by decide +kernel), rfl⟩
theorem xw_330 : Cond.instanceMethod yX4_token ∈ xk_tg := List.mem_filter.mpr ⟨List.mem_of_getElem? (i := 537) (by decide +kernel), rfl⟩
theorem xw_331 : Cond.selects RX4 yX4_token yX4_token ∈ xk_tg := List.mem_filter.mpr ⟨List.mem_of_getElem? (i := 12) (by decide +kernel), rfl⟩
theorem xw_332 : Cond.methodLink RJ0 335 yJ0_coder_7d493 ∈ xk_tg := List.mem_filter.mpr ⟨List.mem_of_getElem? (i := 552) (by decide +kernel), rfl⟩
theorem xw_333 : Cond.code yJ0_coder_7d493 cJ0_coder_7d493 1 (some .byte) ∈ xk_tg := List.mem_filter.mpr ⟨List.mem_of_getElem? (i := 555) (by decide +kernel), rfl⟩
theorem xw_334 : Cond.initialized RJ0 ∈ xk_tg := List.mem_filter.mpr ⟨List.mem_of_getElem? (i := 177) (by decide +kernel), rfl⟩
theorem xw_335 : Cond.instanceMethod yJ0_coder_7d493 ∈ xk_tg := List.mem_filter.mpr ⟨List.mem_of_getElem? (i := 553) (by decide +kernel), rfl⟩
theorem xw_336 : Cond.selects RJ0 yJ0_coder_7d493 yJ0_coder_7d493 ∈ xk_tg := List.mem_filter.mpr ⟨List.mem_of_getElem? (i := 554) (by decide +kernel), rfl⟩
theorem xw_337 : Cond.methodLink RJ0 1059 yJ3_checkIndex_8e157 ∈ xk_tg := List.mem_filter.mpr ⟨List.mem_of_getElem? (i := 574) (by decide +kernel), rfl⟩
theorem xw_338 : Cond.code yJ3_checkIndex_8e157 cJ3_checkIndex_8e157 3 (some .int) ∈ xk_tg := List.mem_filter.mpr ⟨List.mem_of_getElem? (i := 576) (by decide +kernel), rfl⟩
theorem xw_339 : Cond.initialized RJ3 ∈ xk_tg := List.mem_filter.mpr ⟨List.mem_of_getElem? (i := 179) (by decide +kernel), rfl⟩
theorem xw_340 : Cond.static yJ3_checkIndex_8e157 ∈ xk_tg := List.mem_filter.mpr ⟨List.mem_of_getElem? (i := 575) (by decide +kernel), rfl⟩
theorem xw_341 : Cond.methodLink RJ1 9 yJ0_checkIndex_df160 ∈ xk_tg := List.mem_filter.mpr ⟨List.mem_of_getElem? (i := 569) (by decide +kernel), rfl⟩
theorem xw_342 : Cond.code yJ0_checkIndex_df160 cJ0_checkIndex_df160 2 none ∈ xk_tg := List.mem_filter.mpr ⟨List.mem_of_getElem? (i := 571) (by decide +kernel), rfl⟩
theorem xw_343 : Cond.static yJ0_checkIndex_df160 ∈ xk_tg := List.mem_filter.mpr ⟨List.mem_of_getElem? (i := 570) (by decide +kernel), rfl⟩
theorem xw_344 : Cond.methodLink RJ0 495 yJ1_charAt_3b067 ∈ xk_tg := List.mem_filter.mpr ⟨List.mem_of_getElem? (i := 566) (by decide +kernel), rfl⟩
theorem xw_345 : Cond.code yJ1_charAt_3b067 cJ1_charAt_3b067 2 (some .char) ∈ xk_tg := List.mem_filter.mpr ⟨List.mem_of_getElem? (i := 568) (by decide +kernel), rfl⟩
theorem xw_346 : Cond.initialized RJ1 ∈ xk_tg := List.mem_filter.mpr ⟨List.mem_of_getElem? (i := 178) (by decide +kernel), rfl⟩
theorem xw_347 : Cond.static yJ1_charAt_3b067 ∈ xk_tg := List.mem_filter.mpr ⟨List.mem_of_getElem? (i := 567) (by decide +kernel), rfl⟩
theorem xw_348 : Cond.methodLink RJ0 492 yJ0_isLatin1_aae02 ∈ xk_tg := List.mem_filter.mpr ⟨List.mem_of_getElem? (i := 562) (by decide +kernel), rfl⟩
theorem xw_349 : Cond.code yJ0_isLatin1_aae02 cJ0_isLatin1_aae02 1 (some .boolean) ∈ xk_tg := List.mem_filter.mpr ⟨List.mem_of_getElem? (i := 565) (by decide +kernel), rfl⟩
theorem xw_350 : Cond.instanceMethod yJ0_isLatin1_aae02 ∈ xk_tg := List.mem_filter.mpr ⟨List.mem_of_getElem? (i := 563) (by decide +kernel), rfl⟩
theorem xw_351 : Cond.selects RJ0 yJ0_isLatin1_aae02 yJ0_isLatin1_aae02 ∈ xk_tg := List.mem_filter.mpr ⟨List.mem_of_getElem? (i := 564) (by decide +kernel), rfl⟩
theorem xw_352 : Cond.methodLink RX4 160 yJ0_length_8abf5 ∈ xk_tg := List.mem_filter.mpr ⟨List.mem_of_getElem? (i := 548) (by decide +kernel), rfl⟩
theorem xw_353 : Cond.code yJ0_length_8abf5 cJ0_length_8abf5 1 (some .int) ∈ xk_tg := List.mem_filter.mpr ⟨List.mem_of_getElem? (i := 551) (by decide +kernel), rfl⟩
theorem xw_354 : Cond.instanceMethod yJ0_length_8abf5 ∈ xk_tg := List.mem_filter.mpr ⟨List.mem_of_getElem? (i := 549) (by decide +kernel), rfl⟩
theorem xw_355 : Cond.selects RJ0 yJ0_length_8abf5 yJ0_length_8abf5 ∈ xk_tg := List.mem_filter.mpr ⟨List.mem_of_getElem? (i := 550) (by decide +kernel), rfl⟩
theorem xw_356 : Cond.methodLink RX4 167 yJ0_charAt_5068e ∈ xk_tg := List.mem_filter.mpr ⟨List.mem_of_getElem? (i := 558) (by decide +kernel), rfl⟩
theorem xw_357 : Cond.code yJ0_charAt_5068e cJ0_charAt_5068e 2 (some .char) ∈ xk_tg := List.mem_filter.mpr ⟨List.mem_of_getElem? (i := 561) (by decide +kernel), rfl⟩
theorem xw_358 : Cond.instanceMethod yJ0_charAt_5068e ∈ xk_tg := List.mem_filter.mpr ⟨List.mem_of_getElem? (i := 559) (by decide +kernel), rfl⟩
theorem xw_359 : Cond.selects RJ0 yJ0_charAt_5068e yJ0_charAt_5068e ∈ xk_tg := List.mem_filter.mpr ⟨List.mem_of_getElem? (i := 560) (by decide +kernel), rfl⟩
theorem xw_360 : Cond.methodLink RX4 97 yX4_fail ∈ xk_tg := List.mem_filter.mpr ⟨List.mem_of_getElem? (i := 600) (by decide +kernel), rfl⟩
theorem xw_361 : Cond.code yX4_fail cX4_fail 2 none ∈ xk_tg := List.mem_filter.mpr ⟨List.mem_of_getElem? (i := 603) (by decide +kernel), rfl⟩
theorem xw_362 : Cond.instanceMethod yX4_fail ∈ xk_tg := List.mem_filter.mpr ⟨List.mem_of_getElem? (i := 602) (by decide +kernel), rfl⟩
theorem xw_363 : Cond.selects RX4 yX4_fail yX4_fail ∈ xk_tg := List.mem_filter.mpr ⟨List.mem_of_getElem? (i := 16) (by decide +kernel), rfl⟩
theorem xw_364 : Cond.methodLinkNest RX2 82 yX9_withBit "LieKitchen" ∈ xk_tb := List.mem_filter.mpr ⟨List.mem_of_getElem? (i := 622) (by decide +kernel), rfl⟩
theorem xw_365 : Cond.code yX9_withBit cX9_withBit 3 (some .int) ∈ xk_tg := List.mem_filter.mpr ⟨List.mem_of_getElem? (i := 624) (by decide +kernel), rfl⟩
theorem xw_366 : Cond.static yX9_withBit ∈ xk_tg := List.mem_filter.mpr ⟨List.mem_of_getElem? (i := 623) (by decide +kernel), rfl⟩
theorem xw_367 : Cond.methodLinkNest RX4 111 yX2_addClaim "LieKitchen" ∈ xk_tb := List.mem_filter.mpr ⟨List.mem_of_getElem? (i := 618) (by decide +kernel), rfl⟩
theorem xw_368 : Cond.code yX2_addClaim cX2_addClaim 5 none ∈ xk_tg := List.mem_filter.mpr ⟨List.mem_of_getElem? (i := 621) (by decide +kernel), rfl⟩
theorem xw_369 : Cond.instanceMethod yX2_addClaim ∈ xk_tg := List.mem_filter.mpr ⟨List.mem_of_getElem? (i := 620) (by decide +kernel), rfl⟩
theorem xw_370 : Cond.selects RX2 yX2_addClaim yX2_addClaim ∈ xk_tg := List.mem_filter.mpr ⟨List.mem_of_getElem? (i := 19) (by decide +kernel), rfl⟩
theorem xw_371 : Cond.methodLink RX4 78 yX4_readNumber ∈ xk_tg := List.mem_filter.mpr ⟨List.mem_of_getElem? (i := 612) (by decide +kernel), rfl⟩
theorem xw_372 : Cond.code yX4_readNumber cX4_readNumber 4 (some .int) ∈ xk_tg := List.mem_filter.mpr ⟨List.mem_of_getElem? (i := 615) (by decide +kernel), rfl⟩
theorem xw_373 : Cond.instanceMethod yX4_readNumber ∈ xk_tg := List.mem_filter.mpr ⟨List.mem_of_getElem? (i := 614) (by decide +kernel), rfl⟩
theorem xw_374 : Cond.selects RX4 yX4_readNumber yX4_readNumber ∈ xk_tg := List.mem_filter.mpr ⟨List.mem_of_getElem? (i := 18) (by decide +kernel), rfl⟩
theorem xw_375 : Cond.methodLink RX4 53 yX4_isWord ∈ xk_tg := List.mem_filter.mpr ⟨List.mem_of_getElem? (i := 544) (by decide +kernel), rfl⟩
theorem xw_376 : Cond.code yX4_isWord cX4_isWord 3 (some .boolean) ∈ xk_tg := List.mem_filter.mpr ⟨List.mem_of_getElem? (i := 547) (by decide +kernel), rfl⟩
theorem xw_377 : Cond.instanceMethod yX4_isWord ∈ xk_tg := List.mem_filter.mpr ⟨List.mem_of_getElem? (i := 546) (by decide +kernel), rfl⟩
theorem xw_378 : Cond.selects RX4 yX4_isWord yX4_isWord ∈ xk_tg := List.mem_filter.mpr ⟨List.mem_of_getElem? (i := 14) (by decide +kernel), rfl⟩
theorem xw_379 : Cond.methodLink RX4 57 yX4_expect ∈ xk_tg := List.mem_filter.mpr ⟨List.mem_of_getElem? (i := 596) (by decide +kernel), rfl⟩
theorem xw_380 : Cond.code yX4_expect cX4_expect 2 none ∈ xk_tg := List.mem_filter.mpr ⟨List.mem_of_getElem? (i := 599) (by decide +kernel), rfl⟩
theorem xw_381 : Cond.instanceMethod yX4_expect ∈ xk_tg := List.mem_filter.mpr ⟨List.mem_of_getElem? (i := 598) (by decide +kernel), rfl⟩
theorem xw_382 : Cond.selects RX4 yX4_expect yX4_expect ∈ xk_tg := List.mem_filter.mpr ⟨List.mem_of_getElem? (i := 15) (by decide +kernel), rfl⟩
theorem xw_383 : Cond.methodLinkNest RX4 139 yX2_addLaw "LieKitchen" ∈ xk_tb := List.mem_filter.mpr ⟨List.mem_of_getElem? (i := 645) (by decide +kernel), rfl⟩
theorem xw_384 : Cond.code yX2_addLaw cX2_addLaw 3 none ∈ xk_tg := List.mem_filter.mpr ⟨List.mem_of_getElem? (i := 648) (by decide +kernel), rfl⟩
theorem xw_385 : Cond.instanceMethod yX2_addLaw ∈ xk_tg := List.mem_filter.mpr ⟨List.mem_of_getElem? (i := 647) (by decide +kernel), rfl⟩
theorem xw_386 : Cond.selects RX2 yX2_addLaw yX2_addLaw ∈ xk_tg := List.mem_filter.mpr ⟨List.mem_of_getElem? (i := 23) (by decide +kernel), rfl⟩
theorem xw_387 : Cond.methodLink RX4 133 yX4_soBit ∈ xk_tg := List.mem_filter.mpr ⟨List.mem_of_getElem? (i := 639) (by decide +kernel), rfl⟩
theorem xw_388 : Cond.code yX4_soBit cX4_soBit 1 (some .int) ∈ xk_tg := List.mem_filter.mpr ⟨List.mem_of_getElem? (i := 641) (by decide +kernel), rfl⟩
theorem xw_389 : Cond.static yX4_soBit ∈ xk_tg := List.mem_filter.mpr ⟨List.mem_of_getElem? (i := 640) (by decide +kernel), rfl⟩
theorem xw_390 : Cond.methodLink RX4 136 yX4_opposite ∈ xk_tg := List.mem_filter.mpr ⟨List.mem_of_getElem? (i := 642) (by decide +kernel), rfl⟩
theorem xw_391 : Cond.code yX4_opposite cX4_opposite 1 (some .int) ∈ xk_tg := List.mem_filter.mpr ⟨List.mem_of_getElem? (i := 644) (by decide +kernel), rfl⟩
theorem xw_392 : Cond.static yX4_opposite ∈ xk_tg := List.mem_filter.mpr ⟨List.mem_of_getElem? (i := 643) (by decide +kernel), rfl⟩
theorem xw_393 : Cond.methodLink RX4 84 yX4_readLiteral ∈ xk_tg := List.mem_filter.mpr ⟨List.mem_of_getElem? (i := 635) (by decide +kernel), rfl⟩
theorem xw_394 : Cond.code yX4_readLiteral cX4_readLiteral 3 (some .int) ∈ xk_tg := List.mem_filter.mpr ⟨List.mem_of_getElem? (i := 638) (by decide +kernel), rfl⟩
theorem xw_395 : Cond.instanceMethod yX4_readLiteral ∈ xk_tg := List.mem_filter.mpr ⟨List.mem_of_getElem? (i := 637) (by decide +kernel), rfl⟩
theorem xw_396 : Cond.selects RX4 yX4_readLiteral yX4_readLiteral ∈ xk_tg := List.mem_filter.mpr ⟨List.mem_of_getElem? (i := 22) (by decide +kernel), rfl⟩
theorem xw_397 : Cond.methodLink RX4 144 yX4_addPair ∈ xk_tg := List.mem_filter.mpr ⟨List.mem_of_getElem? (i := 655) (by decide +kernel), rfl⟩
theorem xw_398 : Cond.code yX4_addPair cX4_addPair 5 none ∈ xk_tg := List.mem_filter.mpr ⟨List.mem_of_getElem? (i := 658) (by decide +kernel), rfl⟩
theorem xw_399 : Cond.instanceMethod yX4_addPair ∈ xk_tg := List.mem_filter.mpr ⟨List.mem_of_getElem? (i := 657) (by decide +kernel), rfl⟩
theorem xw_400 : Cond.selects RX4 yX4_addPair yX4_addPair ∈ xk_tg := List.mem_filter.mpr ⟨List.mem_of_getElem? (i := 25) (by decide +kernel), rfl⟩
theorem xw_401 : Cond.methodLink RX4 130 yX4_readBars ∈ xk_tg := List.mem_filter.mpr ⟨List.mem_of_getElem? (i := 660) (by decide +kernel), rfl⟩
theorem xw_402 : Cond.code yX4_readBars cX4_readBars 3 none ∈ xk_tg := List.mem_filter.mpr ⟨List.mem_of_getElem? (i := 663) (by decide +kernel), rfl⟩
theorem xw_403 : Cond.instanceMethod yX4_readBars ∈ xk_tg := List.mem_filter.mpr ⟨List.mem_of_getElem? (i := 662) (by decide +kernel), rfl⟩
theorem xw_404 : Cond.selects RX4 yX4_readBars yX4_readBars ∈ xk_tg := List.mem_filter.mpr ⟨List.mem_of_getElem? (i := 26) (by decide +kernel), rfl⟩
theorem xw_405 : Cond.methodLink RX4 125 yX4_readIf ∈ xk_tg := List.mem_filter.mpr ⟨List.mem_of_getElem? (i := 650) (by decide +kernel), rfl⟩
theorem xw_406 : Cond.code yX4_readIf cX4_readIf 3 none ∈ xk_tg := List.mem_filter.mpr ⟨List.mem_of_getElem? (i := 653) (by decide +kernel), rfl⟩
theorem xw_407 : Cond.instanceMethod yX4_readIf ∈ xk_tg := List.mem_filter.mpr ⟨List.mem_of_getElem? (i := 652) (by decide +kernel), rfl⟩
theorem xw_408 : Cond.selects RX4 yX4_readIf yX4_readIf ∈ xk_tg := List.mem_filter.mpr ⟨List.mem_of_getElem? (i := 24) (by decide +kernel), rfl⟩
theorem xw_409 : Cond.methodLink RX4 120 yX4_readSome ∈ xk_tg := List.mem_filter.mpr ⟨List.mem_of_getElem? (i := 631) (by decide +kernel), rfl⟩
theorem xw_410 : Cond.code yX4_readSome cX4_readSome 6 none ∈ xk_tg := List.mem_filter.mpr ⟨List.mem_of_getElem? (i := 634) (by decide +kernel), rfl⟩
theorem xw_411 : Cond.instanceMethod yX4_readSome ∈ xk_tg := List.mem_filter.mpr ⟨List.mem_of_getElem? (i := 633) (by decide +kernel), rfl⟩
theorem xw_412 : Cond.selects RX4 yX4_readSome yX4_readSome ∈ xk_tg := List.mem_filter.mpr ⟨List.mem_of_getElem? (i := 21) (by decide +kernel), rfl⟩
theorem xw_413 : Cond.methodLinkNest RX4 152 yX2_addPerson "LieKitchen" ∈ xk_tb := List.mem_filter.mpr ⟨List.mem_of_getElem? (i := 676) (by decide +kernel), rfl⟩
theorem xw_414 : Cond.code yX2_addPerson cX2_addPerson 3 none ∈ xk_tg := List.mem_filter.mpr ⟨List.mem_of_getElem? (i := 679) (by decide +kernel), rfl⟩
theorem xw_415 : Cond.instanceMethod yX2_addPerson ∈ xk_tg := List.mem_filter.mpr ⟨List.mem_of_getElem? (i := 678) (by decide +kernel), rfl⟩
theorem xw_416 : Cond.selects RX2 yX2_addPerson yX2_addPerson ∈ xk_tg := List.mem_filter.mpr ⟨List.mem_of_getElem? (i := 29) (by decide +kernel), rfl⟩
theorem xw_417 : Cond.methodLink RX4 94 yX4_readPerson ∈ xk_tg := List.mem_filter.mpr ⟨List.mem_of_getElem? (i := 671) (by decide +kernel), rfl⟩
theorem xw_418 : Cond.code yX4_readPerson cX4_readPerson 4 none ∈ xk_tg := List.mem_filter.mpr ⟨List.mem_of_getElem? (i := 674) (by decide +kernel), rfl⟩
theorem xw_419 : Cond.instanceMethod yX4_readPerson ∈ xk_tg := List.mem_filter.mpr ⟨List.mem_of_getElem? (i := 673) (by decide +kernel), rfl⟩
theorem xw_420 : Cond.selects RX4 yX4_readPerson yX4_readPerson ∈ xk_tg := List.mem_filter.mpr ⟨List.mem_of_getElem? (i := 28) (by decide +kernel), rfl⟩
theorem xw_421 : Cond.methodLinkNest RX4 88 yX2_want "LieKitchen" ∈ xk_tb := List.mem_filter.mpr ⟨List.mem_of_getElem? (i := 666) (by decide +kernel), rfl⟩
theorem xw_422 : Cond.code yX2_want cX2_want 3 none ∈ xk_tg := List.mem_filter.mpr ⟨List.mem_of_getElem? (i := 669) (by decide +kernel), rfl⟩
theorem xw_423 : Cond.instanceMethod yX2_want ∈ xk_tg := List.mem_filter.mpr ⟨List.mem_of_getElem? (i := 668) (by decide +kernel), rfl⟩
theorem xw_424 : Cond.selects RX2 yX2_want yX2_want ∈ xk_tg := List.mem_filter.mpr ⟨List.mem_of_getElem? (i := 27) (by decide +kernel), rfl⟩
theorem xw_425 : Cond.methodLink RX4 68 yX4_readLaw ∈ xk_tg := List.mem_filter.mpr ⟨List.mem_of_getElem? (i := 626) (by decide +kernel), rfl⟩
theorem xw_426 : Cond.code yX4_readLaw cX4_readLaw 1 none ∈ xk_tg := List.mem_filter.mpr ⟨List.mem_of_getElem? (i := 629) (by decide +kernel), rfl⟩
theorem xw_427 : Cond.instanceMethod yX4_readLaw ∈ xk_tg := List.mem_filter.mpr ⟨List.mem_of_getElem? (i := 628) (by decide +kernel), rfl⟩
theorem xw_428 : Cond.selects RX4 yX4_readLaw yX4_readLaw ∈ xk_tg := List.mem_filter.mpr ⟨List.mem_of_getElem? (i := 20) (by decide +kernel), rfl⟩
theorem xw_429 : Cond.methodLink RX4 63 yX4_readClaim ∈ xk_tg := List.mem_filter.mpr ⟨List.mem_of_getElem? (i := 605) (by decide +kernel), rfl⟩
theorem xw_430 : Cond.code yX4_readClaim cX4_readClaim 5 none ∈ xk_tg := List.mem_filter.mpr ⟨List.mem_of_getElem? (i := 608) (by decide +kernel), rfl⟩
theorem xw_431 : Cond.instanceMethod yX4_readClaim ∈ xk_tg := List.mem_filter.mpr ⟨List.mem_of_getElem? (i := 607) (by decide +kernel), rfl⟩
theorem xw_432 : Cond.selects RX4 yX4_readClaim yX4_readClaim ∈ xk_tg := List.mem_filter.mpr ⟨List.mem_of_getElem? (i := 17) (by decide +kernel), rfl⟩
theorem xw_433 : Cond.methodLink RX2 96 yX2_isBroken ∈ xk_tg := List.mem_filter.mpr ⟨List.mem_of_getElem? (i := 691) (by decide +kernel), rfl⟩
theorem xw_434 : Cond.code yX2_isBroken cX2_isBroken 3 (some .boolean) ∈ xk_tg := List.mem_filter.mpr ⟨List.mem_of_getElem? (i := 694) (by decide +kernel), rfl⟩
theorem xw_435 : Cond.instanceMethod yX2_isBroken ∈ xk_tg := List.mem_filter.mpr ⟨List.mem_of_getElem? (i := 693) (by decide +kernel), rfl⟩
theorem xw_436 : Cond.selects RX2 yX2_isBroken yX2_isBroken ∈ xk_tg := List.mem_filter.mpr ⟨List.mem_of_getElem? (i := 32) (by decide +kernel), rfl⟩
theorem xw_437 : Cond.methodLink RX2 92 yX2_firstBroken ∈ xk_tg := List.mem_filter.mpr ⟨List.mem_of_getElem? (i := 687) (by decide +kernel), rfl⟩
theorem xw_438 : Cond.code yX2_firstBroken cX2_firstBroken 3 (some .int) ∈ xk_tg := List.mem_filter.mpr ⟨List.mem_of_getElem? (i := 690) (by decide +kernel), rfl⟩
theorem xw_439 : Cond.instanceMethod yX2_firstBroken ∈ xk_tg := List.mem_filter.mpr ⟨List.mem_of_getElem? (i := 689) (by decide +kernel), rfl⟩
theorem xw_440 : Cond.selects RX2 yX2_firstBroken yX2_firstBroken ∈ xk_tg := List.mem_filter.mpr ⟨List.mem_of_getElem? (i := 31) (by decide +kernel), rfl⟩
theorem xw_441 : Cond.methodLink RX2 86 yJ7_fill_d0a16 ∈ xk_tg := List.mem_filter.mpr ⟨List.mem_of_getElem? (i := 684) (by decide +kernel), rfl⟩
theorem xw_442 : Cond.code yJ7_fill_d0a16 cJ7_fill_d0a16 5 none ∈ xk_tg := List.mem_filter.mpr ⟨List.mem_of_getElem? (i := 686) (by decide +kernel), rfl⟩
theorem xw_443 : Cond.initialized RJ7 ∈ xk_tg := List.mem_filter.mpr ⟨List.mem_of_getElem? (i := 181) (by decide +kernel), rfl⟩
theorem xw_444 : Cond.static yJ7_fill_d0a16 ∈ xk_tg := List.mem_filter.mpr ⟨List.mem_of_getElem? (i := 685) (by decide +kernel), rfl⟩
theorem xw_445 : Cond.methodLinkNest RX2 78 yX7_copyFrom "LieKitchen" ∈ xk_tb := List.mem_filter.mpr ⟨List.mem_of_getElem? (i := 702) (by decide +kernel), rfl⟩
theorem xw_446 : Cond.code yX7_copyFrom cX7_copyFrom 2 none ∈ xk_tg := List.mem_filter.mpr ⟨List.mem_of_getElem? (i := 705) (by decide +kernel), rfl⟩
theorem xw_447 : Cond.instanceMethod yX7_copyFrom ∈ xk_tg := List.mem_filter.mpr ⟨List.mem_of_getElem? (i := 704) (by decide +kernel), rfl⟩
theorem xw_448 : Cond.selects RX7 yX7_copyFrom yX7_copyFrom ∈ xk_tg := List.mem_filter.mpr ⟨List.mem_of_getElem? (i := 34) (by decide +kernel), rfl⟩
theorem xw_449 : Cond.methodLinkNest RX9 100 yX2_copyFrom "LieKitchen" ∈ xk_tb := List.mem_filter.mpr ⟨List.mem_of_getElem? (i := 695) (by decide +kernel), rfl⟩
theorem xw_450 : Cond.code yX2_copyFrom cX2_copyFrom 2 none ∈ xk_tg := List.mem_filter.mpr ⟨List.mem_of_getElem? (i := 698) (by decide +kernel), rfl⟩
theorem xw_451 : Cond.instanceMethod yX2_copyFrom ∈ xk_tg := List.mem_filter.mpr ⟨List.mem_of_getElem? (i := 697) (by decide +kernel), rfl⟩
theorem xw_452 : Cond.selects RX2 yX2_copyFrom yX2_copyFrom ∈ xk_tg := List.mem_filter.mpr ⟨List.mem_of_getElem? (i := 33) (by decide +kernel), rfl⟩
theorem xw_453 : Cond.methodLinkNest RX9 97 yX2_findLawful "LieKitchen" ∈ xk_tb := List.mem_filter.mpr ⟨List.mem_of_getElem? (i := 680) (by decide +kernel), rfl⟩
theorem xw_454 : Cond.code yX2_findLawful cX2_findLawful 2 none ∈ xk_tg := List.mem_filter.mpr ⟨List.mem_of_getElem? (i := 683) (by decide +kernel), rfl⟩
theorem xw_455 : Cond.instanceMethod yX2_findLawful ∈ xk_tg := List.mem_filter.mpr ⟨List.mem_of_getElem? (i := 682) (by decide +kernel), rfl⟩
theorem xw_456 : Cond.selects RX2 yX2_findLawful yX2_findLawful ∈ xk_tg := List.mem_filter.mpr ⟨List.mem_of_getElem? (i := 30) (by decide +kernel), rfl⟩
theorem xw_457 : Cond.methodLinkNest RX9 91 yX4_readLine "LieKitchen" ∈ xk_tb := List.mem_filter.mpr ⟨List.mem_of_getElem? (i := 539) (by decide +kernel), rfl⟩
theorem xw_458 : Cond.code yX4_readLine cX4_readLine 2 none ∈ xk_tg := List.mem_filter.mpr ⟨List.mem_of_getElem? (i := 542) (by decide +kernel), rfl⟩
theorem xw_459 : Cond.instanceMethod yX4_readLine ∈ xk_tg := List.mem_filter.mpr ⟨List.mem_of_getElem? (i := 541) (by decide +kernel), rfl⟩
theorem xw_460 : Cond.selects RX4 yX4_readLine yX4_readLine ∈ xk_tg := List.mem_filter.mpr ⟨List.mem_of_getElem? (i := 13) (by decide +kernel), rfl⟩
theorem xw_461 : Cond.methodLinkNest RX9 87 yX4_goesOn "LieKitchen" ∈ xk_tb := List.mem_filter.mpr ⟨List.mem_of_getElem? (i := 531) (by decide +kernel), rfl⟩
theorem xw_462 : Cond.code yX4_goesOn cX4_goesOn 1 (some .boolean) ∈ xk_tg := List.mem_filter.mpr ⟨List.mem_of_getElem? (i := 534) (by decide +kernel), rfl⟩
theorem xw_463 : Cond.instanceMethod yX4_goesOn ∈ xk_tg := List.mem_filter.mpr ⟨List.mem_of_getElem? (i := 533) (by decide +kernel), rfl⟩
theorem xw_464 : Cond.selects RX4 yX4_goesOn yX4_goesOn ∈ xk_tg := List.mem_filter.mpr ⟨List.mem_of_getElem? (i := 11) (by decide +kernel), rfl⟩
theorem xw_465 : Cond.methodLinkNest RX9 84 yX4_begin "LieKitchen" ∈ xk_tb := List.mem_filter.mpr ⟨List.mem_of_getElem? (i := 488) (by decide +kernel), rfl⟩
theorem xw_466 : Cond.code yX4_begin cX4_begin 1 none ∈ xk_tg := List.mem_filter.mpr ⟨List.mem_of_getElem? (i := 491) (by decide +kernel), rfl⟩
theorem xw_467 : Cond.instanceMethod yX4_begin ∈ xk_tg := List.mem_filter.mpr ⟨List.mem_of_getElem? (i := 490) (by decide +kernel), rfl⟩
theorem xw_468 : Cond.selects RX4 yX4_begin yX4_begin ∈ xk_tg := List.mem_filter.mpr ⟨List.mem_of_getElem? (i := 1) (by decide +kernel), rfl⟩
theorem xw_469 : Cond.methodLink RX10 162 yX10_reads ∈ xk_tg := List.mem_filter.mpr ⟨List.mem_of_getElem? (i := 1468) (by decide +kernel), rfl⟩
theorem xw_470 : Cond.code yX10_reads cX10_reads 3 none ∈ xk_tg := List.mem_filter.mpr ⟨List.mem_of_getElem? (i := 1471) (by decide +kernel), rfl⟩
theorem xw_471 : Cond.instanceMethod yX10_reads ∈ xk_tg := List.mem_filter.mpr ⟨List.mem_of_getElem? (i := 1470) (by decide +kernel), rfl⟩
theorem xw_472 : Cond.selects RX10 yX10_reads yX10_reads ∈ xk_tg := List.mem_filter.mpr ⟨List.mem_of_getElem? (i := 98) (by decide +kernel), rfl⟩
theorem xw_473 : Cond.methodLink RX10 86 yX10_isByte ∈ xk_tg := List.mem_filter.mpr ⟨List.mem_of_getElem? (i := 1480) (by decide +kernel), rfl⟩
theorem xw_474 : Cond.code yX10_isByte cX10_isByte 4 (some .boolean) ∈ xk_tg := List.mem_filter.mpr ⟨List.mem_of_getElem? (i := 1483) (by decide +kernel), rfl⟩
theorem xw_475 : Cond.instanceMethod yX10_isByte ∈ xk_tg := List.mem_filter.mpr ⟨List.mem_of_getElem? (i := 1482) (by decide +kernel), rfl⟩
theorem xw_476 : Cond.selects RX10 yX10_isByte yX10_isByte ∈ xk_tg := List.mem_filter.mpr ⟨List.mem_of_getElem? (i := 101) (by decide +kernel), rfl⟩
theorem xw_477 : Cond.methodLink RX10 121 yX10_next ∈ xk_tg := List.mem_filter.mpr ⟨List.mem_of_getElem? (i := 1476) (by decide +kernel), rfl⟩
theorem xw_478 : Cond.code yX10_next cX10_next 2 none ∈ xk_tg := List.mem_filter.mpr ⟨List.mem_of_getElem? (i := 1479) (by decide +kernel), rfl⟩
theorem xw_479 : Cond.instanceMethod yX10_next ∈ xk_tg := List.mem_filter.mpr ⟨List.mem_of_getElem? (i := 1478) (by decide +kernel), rfl⟩
theorem xw_480 : Cond.selects RX10 yX10_next yX10_next ∈ xk_tg := List.mem_filter.mpr ⟨List.mem_of_getElem? (i := 100) (by decide +kernel), rfl⟩
theorem xw_481 : Cond.methodLink RX10 117 yX10_is ∈ xk_tg := List.mem_filter.mpr ⟨List.mem_of_getElem? (i := 1502) (by decide +kernel), rfl⟩
theorem xw_482 : Cond.code yX10_is cX10_is 3 (some .boolean) ∈ xk_tg := List.mem_filter.mpr ⟨List.mem_of_getElem? (i := 1505) (by decide +kernel), rfl⟩
theorem xw_483 : Cond.instanceMethod yX10_is ∈ xk_tg := List.mem_filter.mpr ⟨List.mem_of_getElem? (i := 1504) (by decide +kernel), rfl⟩
theorem xw_484 : Cond.selects RX10 yX10_is yX10_is ∈ xk_tg := List.mem_filter.mpr ⟨List.mem_of_getElem? (i := 105) (by decide +kernel), rfl⟩
theorem xw_485 : Cond.methodLink RX10 127 yX10_fails ∈ xk_tg := List.mem_filter.mpr ⟨List.mem_of_getElem? (i := 1506) (by decide +kernel), rfl⟩
theorem xw_486 : Cond.code yX10_fails cX10_fails 2 none ∈ xk_tg := List.mem_filter.mpr ⟨List.mem_of_getElem? (i := 1509) (by decide +kernel), rfl⟩
theorem xw_487 : Cond.instanceMethod yX10_fails ∈ xk_tg := List.mem_filter.mpr ⟨List.mem_of_getElem? (i := 1508) (by decide +kernel), rfl⟩
theorem xw_488 : Cond.selects RX10 yX10_fails yX10_fails ∈ xk_tg := List.mem_filter.mpr ⟨List.mem_of_getElem? (i := 106) (by decide +kernel), rfl⟩
theorem xw_489 : Cond.methodLink RX10 124 yX10_takes ∈ xk_tg := List.mem_filter.mpr ⟨List.mem_of_getElem? (i := 1498) (by decide +kernel), rfl⟩
theorem xw_490 : Cond.code yX10_takes cX10_takes 3 (some .boolean) ∈ xk_tg := List.mem_filter.mpr ⟨List.mem_of_getElem? (i := 1501) (by decide +kernel), rfl⟩
theorem xw_491 : Cond.instanceMethod yX10_takes ∈ xk_tg := List.mem_filter.mpr ⟨List.mem_of_getElem? (i := 1500) (by decide +kernel), rfl⟩
theorem xw_492 : Cond.selects RX10 yX10_takes yX10_takes ∈ xk_tg := List.mem_filter.mpr ⟨List.mem_of_getElem? (i := 104) (by decide +kernel), rfl⟩
theorem xw_493 : Cond.methodLink RX10 134 yX10_number ∈ xk_tg := List.mem_filter.mpr ⟨List.mem_of_getElem? (i := 1532) (by decide +kernel), rfl⟩
theorem xw_494 : Cond.code yX10_number cX10_number 4 (some .int) ∈ xk_tg := List.mem_filter.mpr ⟨List.mem_of_getElem? (i := 1535) (by decide +kernel), rfl⟩
theorem xw_495 : Cond.instanceMethod yX10_number ∈ xk_tg := List.mem_filter.mpr ⟨List.mem_of_getElem? (i := 1534) (by decide +kernel), rfl⟩
theorem xw_496 : Cond.selects RX10 yX10_number yX10_number ∈ xk_tg := List.mem_filter.mpr ⟨List.mem_of_getElem? (i := 111) (by decide +kernel), rfl⟩
theorem xw_497 : Cond.methodLink RX10 130 yX10_asks ∈ xk_tg := List.mem_filter.mpr ⟨List.mem_of_getElem? (i := 1494) (by decide +kernel), rfl⟩
theorem xw_498 : Cond.code yX10_asks cX10_asks 3 none ∈ xk_tg := List.mem_filter.mpr ⟨List.mem_of_getElem? (i := 1497) (by decide +kernel), rfl⟩
theorem xw_499 : Cond.instanceMethod yX10_asks ∈ xk_tg := List.mem_filter.mpr ⟨List.mem_of_getElem? (i := 1496) (by decide +kernel), rfl⟩
theorem xw_500 : Cond.selects RX10 yX10_asks yX10_asks ∈ xk_tg := List.mem_filter.mpr ⟨List.mem_of_getElem? (i := 103) (by decide +kernel), rfl⟩
theorem xw_501 : Cond.methodLink RX10 141 yX10_hasRead ∈ xk_tg := List.mem_filter.mpr ⟨List.mem_of_getElem? (i := 1517) (by decide +kernel), rfl⟩
theorem xw_502 : Cond.code yX10_hasRead cX10_hasRead 2 (some .int) ∈ xk_tg := List.mem_filter.mpr ⟨List.mem_of_getElem? (i := 1520) (by decide +kernel), rfl⟩
theorem xw_503 : Cond.instanceMethod yX10_hasRead ∈ xk_tg := List.mem_filter.mpr ⟨List.mem_of_getElem? (i := 1519) (by decide +kernel), rfl⟩
theorem xw_504 : Cond.selects RX10 yX10_hasRead yX10_hasRead ∈ xk_tg := List.mem_filter.mpr ⟨List.mem_of_getElem? (i := 108) (by decide +kernel), rfl⟩
theorem xw_505 : Cond.methodLink RX10 155 yX10_number_ ∈ xk_tg := List.mem_filter.mpr ⟨List.mem_of_getElem? (i := 1528) (by decide +kernel), rfl⟩
theorem xw_506 : Cond.code yX10_number_ cX10_number_ 5 (some .int) ∈ xk_tg := List.mem_filter.mpr ⟨List.mem_of_getElem? (i := 1531) (by decide +kernel), rfl⟩
theorem xw_507 : Cond.instanceMethod yX10_number_ ∈ xk_tg := List.mem_filter.mpr ⟨List.mem_of_getElem? (i := 1530) (by decide +kernel), rfl⟩
theorem xw_508 : Cond.selects RX10 yX10_number_ yX10_number_ ∈ xk_tg := List.mem_filter.mpr ⟨List.mem_of_getElem? (i := 110) (by decide +kernel), rfl⟩
theorem xw_509 : Cond.methodLink RX10 147 yX10_claimHere ∈ xk_tg := List.mem_filter.mpr ⟨List.mem_of_getElem? (i := 1547) (by decide +kernel), rfl⟩
theorem xw_510 : Cond.code yX10_claimHere cX10_claimHere 1 (some .int) ∈ xk_tg := List.mem_filter.mpr ⟨List.mem_of_getElem? (i := 1550) (by decide +kernel), rfl⟩
theorem xw_511 : Cond.instanceMethod yX10_claimHere ∈ xk_tg := List.mem_filter.mpr ⟨List.mem_of_getElem? (i := 1549) (by decide +kernel), rfl⟩
theorem xw_512 : Cond.selects RX10 yX10_claimHere yX10_claimHere ∈ xk_tg := List.mem_filter.mpr ⟨List.mem_of_getElem? (i := 114) (by decide +kernel), rfl⟩
theorem xw_513 : Cond.methodLink RX10 166 yX10_isGood ∈ xk_tg := List.mem_filter.mpr ⟨List.mem_of_getElem? (i := 1489) (by decide +kernel), rfl⟩
theorem xw_514 : Cond.code yX10_isGood cX10_isGood 1 (some .boolean) ∈ xk_tg := List.mem_filter.mpr ⟨List.mem_of_getElem? (i := 1492) (by decide +kernel), rfl⟩
theorem xw_515 : Cond.instanceMethod yX10_isGood ∈ xk_tg := List.mem_filter.mpr ⟨List.mem_of_getElem? (i := 1491) (by decide +kernel), rfl⟩
theorem xw_516 : Cond.selects RX10 yX10_isGood yX10_isGood ∈ xk_tg := List.mem_filter.mpr ⟨List.mem_of_getElem? (i := 102) (by decide +kernel), rfl⟩
theorem xw_517 : Cond.methodLink RX10 175 yX10_does ∈ xk_tg := List.mem_filter.mpr ⟨List.mem_of_getElem? (i := 1551) (by decide +kernel), rfl⟩
theorem xw_518 : Cond.code yX10_does cX10_does 5 none ∈ xk_tg := List.mem_filter.mpr ⟨List.mem_of_getElem? (i := 1554) (by decide +kernel), rfl⟩
theorem xw_519 : Cond.instanceMethod yX10_does ∈ xk_tg := List.mem_filter.mpr ⟨List.mem_of_getElem? (i := 1553) (by decide +kernel), rfl⟩
theorem xw_520 : Cond.selects RX10 yX10_does yX10_does ∈ xk_tg := List.mem_filter.mpr ⟨List.mem_of_getElem? (i := 115) (by decide +kernel), rfl⟩
theorem xw_521 : Cond.methodLink RX10 172 yX10_saidHere ∈ xk_tg := List.mem_filter.mpr ⟨List.mem_of_getElem? (i := 1543) (by decide +kernel), rfl⟩
theorem xw_522 : Cond.code yX10_saidHere cX10_saidHere 4 (some .int) ∈ xk_tg := List.mem_filter.mpr ⟨List.mem_of_getElem? (i := 1546) (by decide +kernel), rfl⟩
theorem xw_523 : Cond.instanceMethod yX10_saidHere ∈ xk_tg := List.mem_filter.mpr ⟨List.mem_of_getElem? (i := 1545) (by decide +kernel), rfl⟩
theorem xw_524 : Cond.selects RX10 yX10_saidHere yX10_saidHere ∈ xk_tg := List.mem_filter.mpr ⟨List.mem_of_getElem? (i := 113) (by decide +kernel), rfl⟩
theorem xw_525 : Cond.methodLink RX10 179 yX10_isSaid ∈ xk_tg := List.mem_filter.mpr ⟨List.mem_of_getElem? (i := 1555) (by decide +kernel), rfl⟩
theorem xw_526 : Cond.code yX10_isSaid cX10_isSaid 1 (some .boolean) ∈ xk_tg := List.mem_filter.mpr ⟨List.mem_of_getElem? (i := 1558) (by decide +kernel), rfl⟩
theorem xw_527 : Cond.instanceMethod yX10_isSaid ∈ xk_tg := List.mem_filter.mpr ⟨List.mem_of_getElem? (i := 1557) (by decide +kernel), rfl⟩
theorem xw_528 : Cond.selects RX10 yX10_isSaid yX10_isSaid ∈ xk_tg := List.mem_filter.mpr ⟨List.mem_of_getElem? (i := 116) (by decide +kernel), rfl⟩
theorem xw_529 : Cond.methodLink RX10 212 yX10_isBit ∈ xk_tg := List.mem_filter.mpr ⟨List.mem_of_getElem? (i := 1573) (by decide +kernel), rfl⟩
theorem xw_530 : Cond.code yX10_isBit cX10_isBit 2 (some .boolean) ∈ xk_tg := List.mem_filter.mpr ⟨List.mem_of_getElem? (i := 1575) (by decide +kernel), rfl⟩
theorem xw_531 : Cond.static yX10_isBit ∈ xk_tg := List.mem_filter.mpr ⟨List.mem_of_getElem? (i := 1574) (by decide +kernel), rfl⟩
theorem xw_532 : Cond.methodLink RX10 207 yX10_wantsLine ∈ xk_tg := List.mem_filter.mpr ⟨List.mem_of_getElem? (i := 1568) (by decide +kernel), rfl⟩
theorem xw_533 : Cond.code yX10_wantsLine cX10_wantsLine 3 none ∈ xk_tg := List.mem_filter.mpr ⟨List.mem_of_getElem? (i := 1571) (by decide +kernel), rfl⟩
theorem xw_534 : Cond.instanceMethod yX10_wantsLine ∈ xk_tg := List.mem_filter.mpr ⟨List.mem_of_getElem? (i := 1570) (by decide +kernel), rfl⟩
theorem xw_535 : Cond.selects RX10 yX10_wantsLine yX10_wantsLine ∈ xk_tg := List.mem_filter.mpr ⟨List.mem_of_getElem? (i := 118) (by decide +kernel), rfl⟩
theorem xw_536 : Cond.methodLink RX10 202 yX10_personLine ∈ xk_tg := List.mem_filter.mpr ⟨List.mem_of_getElem? (i := 1562) (by decide +kernel), rfl⟩
theorem xw_537 : Cond.code yX10_personLine cX10_personLine 3 none ∈ xk_tg := List.mem_filter.mpr ⟨List.mem_of_getElem? (i := 1565) (by decide +kernel), rfl⟩
theorem xw_538 : Cond.instanceMethod yX10_personLine ∈ xk_tg := List.mem_filter.mpr ⟨List.mem_of_getElem? (i := 1564) (by decide +kernel), rfl⟩
theorem xw_539 : Cond.selects RX10 yX10_personLine yX10_personLine ∈ xk_tg := List.mem_filter.mpr ⟨List.mem_of_getElem? (i := 117) (by decide +kernel), rfl⟩
theorem xw_540 : Cond.methodLink RX10 199 yX10_lawLine ∈ xk_tg := List.mem_filter.mpr ⟨List.mem_of_getElem? (i := 1538) (by decide +kernel), rfl⟩
theorem xw_541 : Cond.code yX10_lawLine cX10_lawLine 5 none ∈ xk_tg := List.mem_filter.mpr ⟨List.mem_of_getElem? (i := 1541) (by decide +kernel), rfl⟩
theorem xw_542 : Cond.instanceMethod yX10_lawLine ∈ xk_tg := List.mem_filter.mpr ⟨List.mem_of_getElem? (i := 1540) (by decide +kernel), rfl⟩
theorem xw_543 : Cond.selects RX10 yX10_lawLine yX10_lawLine ∈ xk_tg := List.mem_filter.mpr ⟨List.mem_of_getElem? (i := 112) (by decide +kernel), rfl⟩
theorem xw_544 : Cond.methodLink RX10 196 yX10_claimLine ∈ xk_tg := List.mem_filter.mpr ⟨List.mem_of_getElem? (i := 1521) (by decide +kernel), rfl⟩
theorem xw_545 : Cond.code yX10_claimLine cX10_claimLine 5 none ∈ xk_tg := List.mem_filter.mpr ⟨List.mem_of_getElem? (i := 1524) (by decide +kernel), rfl⟩
theorem xw_546 : Cond.instanceMethod yX10_claimLine ∈ xk_tg := List.mem_filter.mpr ⟨List.mem_of_getElem? (i := 1523) (by decide +kernel), rfl⟩
theorem xw_547 : Cond.selects RX10 yX10_claimLine yX10_claimLine ∈ xk_tg := List.mem_filter.mpr ⟨List.mem_of_getElem? (i := 109) (by decide +kernel), rfl⟩
theorem xw_548 : Cond.methodLink RX10 236 yX10_copyRow ∈ xk_tg := List.mem_filter.mpr ⟨List.mem_of_getElem? (i := 1588) (by decide +kernel), rfl⟩
theorem xw_549 : Cond.code yX10_copyRow cX10_copyRow 5 none ∈ xk_tg := List.mem_filter.mpr ⟨List.mem_of_getElem? (i := 1590) (by decide +kernel), rfl⟩
theorem xw_550 : Cond.static yX10_copyRow ∈ xk_tg := List.mem_filter.mpr ⟨List.mem_of_getElem? (i := 1589) (by decide +kernel), rfl⟩
theorem xw_551 : Cond.methodLink RX10 233 yX10_copyKitchen ∈ xk_tg := List.mem_filter.mpr ⟨List.mem_of_getElem? (i := 1584) (by decide +kernel), rfl⟩
theorem xw_552 : Cond.code yX10_copyKitchen cX10_copyKitchen 3 none ∈ xk_tg := List.mem_filter.mpr ⟨List.mem_of_getElem? (i := 1587) (by decide +kernel), rfl⟩
theorem xw_553 : Cond.instanceMethod yX10_copyKitchen ∈ xk_tg := List.mem_filter.mpr ⟨List.mem_of_getElem? (i := 1586) (by decide +kernel), rfl⟩
theorem xw_554 : Cond.selects RX10 yX10_copyKitchen yX10_copyKitchen ∈ xk_tg := List.mem_filter.mpr ⟨List.mem_of_getElem? (i := 121) (by decide +kernel), rfl⟩
theorem xw_555 : Cond.methodLink RX10 230 yX10_isOver ∈ xk_tg := List.mem_filter.mpr ⟨List.mem_of_getElem? (i := 1580) (by decide +kernel), rfl⟩
theorem xw_556 : Cond.code yX10_isOver cX10_isOver 1 none ∈ xk_tg := List.mem_filter.mpr ⟨List.mem_of_getElem? (i := 1583) (by decide +kernel), rfl⟩
theorem xw_557 : Cond.instanceMethod yX10_isOver ∈ xk_tg := List.mem_filter.mpr ⟨List.mem_of_getElem? (i := 1582) (by decide +kernel), rfl⟩
theorem xw_558 : Cond.selects RX10 yX10_isOver yX10_isOver ∈ xk_tg := List.mem_filter.mpr ⟨List.mem_of_getElem? (i := 120) (by decide +kernel), rfl⟩
theorem xw_559 : Cond.methodLink RX10 227 yX10_ends ∈ xk_tg := List.mem_filter.mpr ⟨List.mem_of_getElem? (i := 1576) (by decide +kernel), rfl⟩
theorem xw_560 : Cond.code yX10_ends cX10_ends 1 none ∈ xk_tg := List.mem_filter.mpr ⟨List.mem_of_getElem? (i := 1579) (by decide +kernel), rfl⟩
theorem xw_561 : Cond.instanceMethod yX10_ends ∈ xk_tg := List.mem_filter.mpr ⟨List.mem_of_getElem? (i := 1578) (by decide +kernel), rfl⟩
theorem xw_562 : Cond.selects RX10 yX10_ends yX10_ends ∈ xk_tg := List.mem_filter.mpr ⟨List.mem_of_getElem? (i := 119) (by decide +kernel), rfl⟩
theorem xw_563 : Cond.methodLink RX10 224 yX10_line ∈ xk_tg := List.mem_filter.mpr ⟨List.mem_of_getElem? (i := 1510) (by decide +kernel), rfl⟩
theorem xw_564 : Cond.code yX10_line cX10_line 5 none ∈ xk_tg := List.mem_filter.mpr ⟨List.mem_of_getElem? (i := 1513) (by decide +kernel), rfl⟩
theorem xw_565 : Cond.instanceMethod yX10_line ∈ xk_tg := List.mem_filter.mpr ⟨List.mem_of_getElem? (i := 1512) (by decide +kernel), rfl⟩
theorem xw_566 : Cond.selects RX10 yX10_line yX10_line ∈ xk_tg := List.mem_filter.mpr ⟨List.mem_of_getElem? (i := 107) (by decide +kernel), rfl⟩
theorem xw_567 : Cond.methodLink RX10 219 yX10_begins ∈ xk_tg := List.mem_filter.mpr ⟨List.mem_of_getElem? (i := 1472) (by decide +kernel), rfl⟩
theorem xw_568 : Cond.code yX10_begins cX10_begins 1 none ∈ xk_tg := List.mem_filter.mpr ⟨List.mem_of_getElem? (i := 1475) (by decide +kernel), rfl⟩
theorem xw_569 : Cond.instanceMethod yX10_begins ∈ xk_tg := List.mem_filter.mpr ⟨List.mem_of_getElem? (i := 1474) (by decide +kernel), rfl⟩
theorem xw_570 : Cond.selects RX10 yX10_begins yX10_begins ∈ xk_tg := List.mem_filter.mpr ⟨List.mem_of_getElem? (i := 99) (by decide +kernel), rfl⟩
theorem xw_571 : Cond.methodLink RX10 216 yX10_clears ∈ xk_tg := List.mem_filter.mpr ⟨List.mem_of_getElem? (i := 1464) (by decide +kernel), rfl⟩
theorem xw_572 : Cond.code yX10_clears cX10_clears 2 none ∈ xk_tg := List.mem_filter.mpr ⟨List.mem_of_getElem? (i := 1467) (by decide +kernel), rfl⟩
theorem xw_573 : Cond.instanceMethod yX10_clears ∈ xk_tg := List.mem_filter.mpr ⟨List.mem_of_getElem? (i := 1466) (by decide +kernel), rfl⟩
theorem xw_574 : Cond.selects RX10 yX10_clears yX10_clears ∈ xk_tg := List.mem_filter.mpr ⟨List.mem_of_getElem? (i := 97) (by decide +kernel), rfl⟩
theorem xw_575 : Cond.methodLink RX9 129 yX9_wishFor ∈ xk_tg := List.mem_filter.mpr ⟨List.mem_of_getElem? (i := 719) (by decide +kernel), rfl⟩
theorem xw_576 : Cond.code yX9_wishFor cX9_wishFor 2 (some .int) ∈ xk_tg := List.mem_filter.mpr ⟨List.mem_of_getElem? (i := 722) (by decide +kernel), rfl⟩
theorem xw_577 : Cond.instanceMethod yX9_wishFor ∈ xk_tg := List.mem_filter.mpr ⟨List.mem_of_getElem? (i := 721) (by decide +kernel), rfl⟩
theorem xw_578 : Cond.selects RX9 yX9_wishFor yX9_wishFor ∈ xk_tg := List.mem_filter.mpr ⟨List.mem_of_getElem? (i := 36) (by decide +kernel), rfl⟩
theorem xw_579 : Cond.methodLink RX9 109 yX9_noClaim ∈ xk_tg := List.mem_filter.mpr ⟨List.mem_of_getElem? (i := 715) (by decide +kernel), rfl⟩
theorem xw_580 : Cond.code yX9_noClaim cX9_noClaim 2 (some .boolean) ∈ xk_tg := List.mem_filter.mpr ⟨List.mem_of_getElem? (i := 718) (by decide +kernel), rfl⟩
theorem xw_581 : Cond.instanceMethod yX9_noClaim ∈ xk_tg := List.mem_filter.mpr ⟨List.mem_of_getElem? (i := 717) (by decide +kernel), rfl⟩
theorem xw_582 : Cond.selects RX9 yX9_noClaim yX9_noClaim ∈ xk_tg := List.mem_filter.mpr ⟨List.mem_of_getElem? (i := 35) (by decide +kernel), rfl⟩
theorem xw_583 : Cond.methodLink RX10 254 yX10_wishOf ∈ xk_tg := List.mem_filter.mpr ⟨List.mem_of_getElem? (i := 1604) (by decide +kernel), rfl⟩
theorem xw_584 : Cond.code yX10_wishOf cX10_wishOf 2 (some .int) ∈ xk_tg := List.mem_filter.mpr ⟨List.mem_of_getElem? (i := 1607) (by decide +kernel), rfl⟩
theorem xw_585 : Cond.instanceMethod yX10_wishOf ∈ xk_tg := List.mem_filter.mpr ⟨List.mem_of_getElem? (i := 1606) (by decide +kernel), rfl⟩
theorem xw_586 : Cond.selects RX10 yX10_wishOf yX10_wishOf ∈ xk_tg := List.mem_filter.mpr ⟨List.mem_of_getElem? (i := 124) (by decide +kernel), rfl⟩
theorem xw_587 : Cond.methodLink RX10 251 yX10_of ∈ xk_tg := List.mem_filter.mpr ⟨List.mem_of_getElem? (i := 1600) (by decide +kernel), rfl⟩
theorem xw_588 : Cond.code yX10_of cX10_of 3 (some .int) ∈ xk_tg := List.mem_filter.mpr ⟨List.mem_of_getElem? (i := 1603) (by decide +kernel), rfl⟩
theorem xw_589 : Cond.instanceMethod yX10_of ∈ xk_tg := List.mem_filter.mpr ⟨List.mem_of_getElem? (i := 1602) (by decide +kernel), rfl⟩
theorem xw_590 : Cond.selects RX10 yX10_of yX10_of ∈ xk_tg := List.mem_filter.mpr ⟨List.mem_of_getElem? (i := 123) (by decide +kernel), rfl⟩
theorem xw_591 : Cond.methodLink RX10 246 yX10_isClaim ∈ xk_tg := List.mem_filter.mpr ⟨List.mem_of_getElem? (i := 1595) (by decide +kernel), rfl⟩
theorem xw_592 : Cond.code yX10_isClaim cX10_isClaim 3 (some .boolean) ∈ xk_tg := List.mem_filter.mpr ⟨List.mem_of_getElem? (i := 1598) (by decide +kernel), rfl⟩
theorem xw_593 : Cond.instanceMethod yX10_isClaim ∈ xk_tg := List.mem_filter.mpr ⟨List.mem_of_getElem? (i := 1597) (by decide +kernel), rfl⟩
theorem xw_594 : Cond.selects RX10 yX10_isClaim yX10_isClaim ∈ xk_tg := List.mem_filter.mpr ⟨List.mem_of_getElem? (i := 122) (by decide +kernel), rfl⟩
theorem xw_595 : Cond.methodLink RX9 136 yX9_notTwofold ∈ xk_tg := List.mem_filter.mpr ⟨List.mem_of_getElem? (i := 727) (by decide +kernel), rfl⟩
theorem xw_596 : Cond.code yX9_notTwofold cX9_notTwofold 1 (some .boolean) ∈ xk_tg := List.mem_filter.mpr ⟨List.mem_of_getElem? (i := 729) (by decide +kernel), rfl⟩
theorem xw_597 : Cond.static yX9_notTwofold ∈ xk_tg := List.mem_filter.mpr ⟨List.mem_of_getElem? (i := 728) (by decide +kernel), rfl⟩
theorem xw_598 : Cond.methodLink RX9 145 yX9_noPerson ∈ xk_tg := List.mem_filter.mpr ⟨List.mem_of_getElem? (i := 734) (by decide +kernel), rfl⟩
theorem xw_599 : Cond.code yX9_noPerson cX9_noPerson 2 (some .boolean) ∈ xk_tg := List.mem_filter.mpr ⟨List.mem_of_getElem? (i := 737) (by decide +kernel), rfl⟩
theorem xw_600 : Cond.instanceMethod yX9_noPerson ∈ xk_tg := List.mem_filter.mpr ⟨List.mem_of_getElem? (i := 736) (by decide +kernel), rfl⟩
theorem xw_601 : Cond.selects RX9 yX9_noPerson yX9_noPerson ∈ xk_tg := List.mem_filter.mpr ⟨List.mem_of_getElem? (i := 37) (by decide +kernel), rfl⟩
theorem xw_602 : Cond.methodLink RX9 154 yX9_noKitchen ∈ xk_tg := List.mem_filter.mpr ⟨List.mem_of_getElem? (i := 742) (by decide +kernel), rfl⟩
theorem xw_603 : Cond.code yX9_noKitchen cX9_noKitchen 1 (some .boolean) ∈ xk_tg := List.mem_filter.mpr ⟨List.mem_of_getElem? (i := 745) (by decide +kernel), rfl⟩
theorem xw_604 : Cond.instanceMethod yX9_noKitchen ∈ xk_tg := List.mem_filter.mpr ⟨List.mem_of_getElem? (i := 744) (by decide +kernel), rfl⟩
theorem xw_605 : Cond.selects RX9 yX9_noKitchen yX9_noKitchen ∈ xk_tg := List.mem_filter.mpr ⟨List.mem_of_getElem? (i := 38) (by decide +kernel), rfl⟩
theorem xw_606 : Cond.methodLink RX10 240 yX10_isKitchen ∈ xk_tg := List.mem_filter.mpr ⟨List.mem_of_getElem? (i := 1620) (by decide +kernel), rfl⟩
theorem xw_607 : Cond.code yX10_isKitchen cX10_isKitchen 1 (some .boolean) ∈ xk_tg := List.mem_filter.mpr ⟨List.mem_of_getElem? (i := 1623) (by decide +kernel), rfl⟩
theorem xw_608 : Cond.instanceMethod yX10_isKitchen ∈ xk_tg := List.mem_filter.mpr ⟨List.mem_of_getElem? (i := 1622) (by decide +kernel), rfl⟩
theorem xw_609 : Cond.selects RX10 yX10_isKitchen yX10_isKitchen ∈ xk_tg := List.mem_filter.mpr ⟨List.mem_of_getElem? (i := 125) (by decide +kernel), rfl⟩
theorem xw_610 : Cond.methodLinkNest RX9 160 yX2_firstBroken "LieKitchen" ∈ xk_tb := List.mem_filter.mpr ⟨List.mem_of_getElem? (i := 754) (by decide +kernel), rfl⟩
theorem xw_611 : Cond.methodLink RX9 157 yX9_noStory ∈ xk_tg := List.mem_filter.mpr ⟨List.mem_of_getElem? (i := 750) (by decide +kernel), rfl⟩
theorem xw_612 : Cond.code yX9_noStory cX9_noStory 2 (some .boolean) ∈ xk_tg := List.mem_filter.mpr ⟨List.mem_of_getElem? (i := 753) (by decide +kernel), rfl⟩
theorem xw_613 : Cond.instanceMethod yX9_noStory ∈ xk_tg := List.mem_filter.mpr ⟨List.mem_of_getElem? (i := 752) (by decide +kernel), rfl⟩
theorem xw_614 : Cond.selects RX9 yX9_noStory yX9_noStory ∈ xk_tg := List.mem_filter.mpr ⟨List.mem_of_getElem? (i := 39) (by decide +kernel), rfl⟩
theorem xw_615 : Cond.methodLink RX10 243 yX10_all ∈ xk_tg := List.mem_filter.mpr ⟨List.mem_of_getElem? (i := 1632) (by decide +kernel), rfl⟩
theorem xw_616 : Cond.code yX10_all cX10_all 1 (some .int) ∈ xk_tg := List.mem_filter.mpr ⟨List.mem_of_getElem? (i := 1635) (by decide +kernel), rfl⟩
theorem xw_617 : Cond.instanceMethod yX10_all ∈ xk_tg := List.mem_filter.mpr ⟨List.mem_of_getElem? (i := 1634) (by decide +kernel), rfl⟩
theorem xw_618 : Cond.selects RX10 yX10_all yX10_all ∈ xk_tg := List.mem_filter.mpr ⟨List.mem_of_getElem? (i := 127) (by decide +kernel), rfl⟩
theorem xw_619 : Cond.methodLink RX10 257 yX10_isBroken ∈ xk_tg := List.mem_filter.mpr ⟨List.mem_of_getElem? (i := 1640) (by decide +kernel), rfl⟩
theorem xw_620 : Cond.code yX10_isBroken cX10_isBroken 3 (some .boolean) ∈ xk_tg := List.mem_filter.mpr ⟨List.mem_of_getElem? (i := 1643) (by decide +kernel), rfl⟩
theorem xw_621 : Cond.instanceMethod yX10_isBroken ∈ xk_tg := List.mem_filter.mpr ⟨List.mem_of_getElem? (i := 1642) (by decide +kernel), rfl⟩
theorem xw_622 : Cond.selects RX10 yX10_isBroken yX10_isBroken ∈ xk_tg := List.mem_filter.mpr ⟨List.mem_of_getElem? (i := 129) (by decide +kernel), rfl⟩
theorem xw_623 : Cond.methodLink RX10 263 yX10_firstBroken ∈ xk_tg := List.mem_filter.mpr ⟨List.mem_of_getElem? (i := 1636) (by decide +kernel), rfl⟩
theorem xw_624 : Cond.code yX10_firstBroken cX10_firstBroken 3 (some .int) ∈ xk_tg := List.mem_filter.mpr ⟨List.mem_of_getElem? (i := 1639) (by decide +kernel), rfl⟩
theorem xw_625 : Cond.instanceMethod yX10_firstBroken ∈ xk_tg := List.mem_filter.mpr ⟨List.mem_of_getElem? (i := 1638) (by decide +kernel), rfl⟩
theorem xw_626 : Cond.selects RX10 yX10_firstBroken yX10_firstBroken ∈ xk_tg := List.mem_filter.mpr ⟨List.mem_of_getElem? (i := 128) (by decide +kernel), rfl⟩
theorem xw_627 : Cond.methodLink RX10 275 yX10_isStory ∈ xk_tg := List.mem_filter.mpr ⟨List.mem_of_getElem? (i := 1628) (by decide +kernel), rfl⟩
theorem xw_628 : Cond.code yX10_isStory cX10_isStory 2 (some .boolean) ∈ xk_tg := List.mem_filter.mpr ⟨List.mem_of_getElem? (i := 1631) (by decide +kernel), rfl⟩
theorem xw_629 : Cond.instanceMethod yX10_isStory ∈ xk_tg := List.mem_filter.mpr ⟨List.mem_of_getElem? (i := 1630) (by decide +kernel), rfl⟩
theorem xw_630 : Cond.selects RX10 yX10_isStory yX10_isStory ∈ xk_tg := List.mem_filter.mpr ⟨List.mem_of_getElem? (i := 126) (by decide +kernel), rfl⟩
theorem xw_631 : Cond.methodLinkNest RX9 163 yX2_countBroken "LieKitchen" ∈ xk_tb := List.mem_filter.mpr ⟨List.mem_of_getElem? (i := 759) (by decide +kernel), rfl⟩
theorem xw_632 : Cond.code yX2_countBroken cX2_countBroken 4 (some .int) ∈ xk_tg := List.mem_filter.mpr ⟨List.mem_of_getElem? (i := 762) (by decide +kernel), rfl⟩
theorem xw_633 : Cond.instanceMethod yX2_countBroken ∈ xk_tg := List.mem_filter.mpr ⟨List.mem_of_getElem? (i := 761) (by decide +kernel), rfl⟩
theorem xw_634 : Cond.selects RX2 yX2_countBroken yX2_countBroken ∈ xk_tg := List.mem_filter.mpr ⟨List.mem_of_getElem? (i := 40) (by decide +kernel), rfl⟩
theorem xw_635 : Cond.methodLinkNest RX9 258 yX5_demand "LieKitchen" ∈ xk_tb := List.mem_filter.mpr ⟨List.mem_of_getElem? (i := 779) (by decide +kernel), rfl⟩
theorem xw_636 : Cond.code yX5_demand cX5_demand 3 (some (.object "LieKitchen$Sieve")) ∈ xk_tg := List.mem_filter.mpr ⟨List.mem_of_getElem? (i := 782) (by decide +kernel), rfl⟩
theorem xw_637 : Cond.instanceMethod yX5_demand ∈ xk_tg := List.mem_filter.mpr ⟨List.mem_of_getElem? (i := 781) (by decide +kernel), rfl⟩
theorem xw_638 : Cond.selects RX5 yX5_demand yX5_demand ∈ xk_tg := List.mem_filter.mpr ⟨List.mem_of_getElem? (i := 44) (by decide +kernel), rfl⟩
theorem xw_639 : Cond.methodLinkNest RX9 427 yX5_open "LieKitchen" ∈ xk_tb := List.mem_filter.mpr ⟨List.mem_of_getElem? (i := 775) (by decide +kernel), rfl⟩
theorem xw_640 : Cond.code yX5_open cX5_open 1 (some (.object "LieKitchen$Sieve")) ∈ xk_tg := List.mem_filter.mpr ⟨List.mem_of_getElem? (i := 778) (by decide +kernel), rfl⟩
theorem xw_641 : Cond.instanceMethod yX5_open ∈ xk_tg := List.mem_filter.mpr ⟨List.mem_of_getElem? (i := 777) (by decide +kernel), rfl⟩
theorem xw_642 : Cond.selects RX5 yX5_open yX5_open ∈ xk_tg := List.mem_filter.mpr ⟨List.mem_of_getElem? (i := 43) (by decide +kernel), rfl⟩
theorem xw_643 : Cond.methodLink RX9 268 yX9_sound ∈ xk_tg := List.mem_filter.mpr ⟨List.mem_of_getElem? (i := 771) (by decide +kernel), rfl⟩
theorem xw_644 : Cond.code yX9_sound cX9_sound 1 (some (.object "LieKitchen$Sieve")) ∈ xk_tg := List.mem_filter.mpr ⟨List.mem_of_getElem? (i := 774) (by decide +kernel), rfl⟩
theorem xw_645 : Cond.instanceMethod yX9_sound ∈ xk_tg := List.mem_filter.mpr ⟨List.mem_of_getElem? (i := 773) (by decide +kernel), rfl⟩
theorem xw_646 : Cond.selects RX9 yX9_sound yX9_sound ∈ xk_tg := List.mem_filter.mpr ⟨List.mem_of_getElem? (i := 42) (by decide +kernel), rfl⟩
theorem xw_647 : Cond.methodLinkNest RX5 26 yX2_isLawful "LieKitchen" ∈ xk_tb := List.mem_filter.mpr ⟨List.mem_of_getElem? (i := 787) (by decide +kernel), rfl⟩
theorem xw_648 : Cond.code yX2_isLawful cX2_isLawful 2 (some .boolean) ∈ xk_tg := List.mem_filter.mpr ⟨List.mem_of_getElem? (i := 790) (by decide +kernel), rfl⟩
theorem xw_649 : Cond.instanceMethod yX2_isLawful ∈ xk_tg := List.mem_filter.mpr ⟨List.mem_of_getElem? (i := 789) (by decide +kernel), rfl⟩
theorem xw_650 : Cond.selects RX2 yX2_isLawful yX2_isLawful ∈ xk_tg := List.mem_filter.mpr ⟨List.mem_of_getElem? (i := 46) (by decide +kernel), rfl⟩
theorem xw_651 : Cond.methodLinkNest RX9 170 yX5_passes "LieKitchen" ∈ xk_tb := List.mem_filter.mpr ⟨List.mem_of_getElem? (i := 783) (by decide +kernel), rfl⟩
theorem xw_652 : Cond.code yX5_passes cX5_passes 2 (some .boolean) ∈ xk_tg := List.mem_filter.mpr ⟨List.mem_of_getElem? (i := 786) (by decide +kernel), rfl⟩
theorem xw_653 : Cond.instanceMethod yX5_passes ∈ xk_tg := List.mem_filter.mpr ⟨List.mem_of_getElem? (i := 785) (by decide +kernel), rfl⟩
theorem xw_654 : Cond.selects RX5 yX5_passes yX5_passes ∈ xk_tg := List.mem_filter.mpr ⟨List.mem_of_getElem? (i := 45) (by decide +kernel), rfl⟩
theorem xw_655 : Cond.methodLink RX9 166 yX9_holding ∈ xk_tg := List.mem_filter.mpr ⟨List.mem_of_getElem? (i := 767) (by decide +kernel), rfl⟩
theorem xw_656 : Cond.code yX9_holding cX9_holding 1 (some (.object "LieKitchen$Sieve")) ∈ xk_tg := List.mem_filter.mpr ⟨List.mem_of_getElem? (i := 770) (by decide +kernel), rfl⟩
theorem xw_657 : Cond.instanceMethod yX9_holding ∈ xk_tg := List.mem_filter.mpr ⟨List.mem_of_getElem? (i := 769) (by decide +kernel), rfl⟩
theorem xw_658 : Cond.selects RX9 yX9_holding yX9_holding ∈ xk_tg := List.mem_filter.mpr ⟨List.mem_of_getElem? (i := 41) (by decide +kernel), rfl⟩
theorem xw_659 : Cond.methodLink RX10 260 yX10_untrueOf ∈ xk_tg := List.mem_filter.mpr ⟨List.mem_of_getElem? (i := 1664) (by decide +kernel), rfl⟩
theorem xw_660 : Cond.code yX10_untrueOf cX10_untrueOf 2 (some .int) ∈ xk_tg := List.mem_filter.mpr ⟨List.mem_of_getElem? (i := 1667) (by decide +kernel), rfl⟩
theorem xw_661 : Cond.instanceMethod yX10_untrueOf ∈ xk_tg := List.mem_filter.mpr ⟨List.mem_of_getElem? (i := 1666) (by decide +kernel), rfl⟩
theorem xw_662 : Cond.selects RX10 yX10_untrueOf yX10_untrueOf ∈ xk_tg := List.mem_filter.mpr ⟨List.mem_of_getElem? (i := 133) (by decide +kernel), rfl⟩
theorem xw_663 : Cond.methodLink RX10 266 yX10_isLawful ∈ xk_tg := List.mem_filter.mpr ⟨List.mem_of_getElem? (i := 1660) (by decide +kernel), rfl⟩
theorem xw_664 : Cond.code yX10_isLawful cX10_isLawful 3 (some .boolean) ∈ xk_tg := List.mem_filter.mpr ⟨List.mem_of_getElem? (i := 1663) (by decide +kernel), rfl⟩
theorem xw_665 : Cond.instanceMethod yX10_isLawful ∈ xk_tg := List.mem_filter.mpr ⟨List.mem_of_getElem? (i := 1662) (by decide +kernel), rfl⟩
theorem xw_666 : Cond.selects RX10 yX10_isLawful yX10_isLawful ∈ xk_tg := List.mem_filter.mpr ⟨List.mem_of_getElem? (i := 132) (by decide +kernel), rfl⟩
theorem xw_667 : Cond.methodLink RX10 272 yX10_isWished ∈ xk_tg := List.mem_filter.mpr ⟨List.mem_of_getElem? (i := 1668) (by decide +kernel), rfl⟩
theorem xw_668 : Cond.code yX10_isWished cX10_isWished 3 (some .boolean) ∈ xk_tg := List.mem_filter.mpr ⟨List.mem_of_getElem? (i := 1671) (by decide +kernel), rfl⟩
theorem xw_669 : Cond.instanceMethod yX10_isWished ∈ xk_tg := List.mem_filter.mpr ⟨List.mem_of_getElem? (i := 1670) (by decide +kernel), rfl⟩
theorem xw_670 : Cond.selects RX10 yX10_isWished yX10_isWished ∈ xk_tg := List.mem_filter.mpr ⟨List.mem_of_getElem? (i := 134) (by decide +kernel), rfl⟩
theorem xw_671 : Cond.methodLink RX10 269 yX10_isSound ∈ xk_tg := List.mem_filter.mpr ⟨List.mem_of_getElem? (i := 1656) (by decide +kernel), rfl⟩
theorem xw_672 : Cond.code yX10_isSound cX10_isSound 2 (some .boolean) ∈ xk_tg := List.mem_filter.mpr ⟨List.mem_of_getElem? (i := 1659) (by decide +kernel), rfl⟩
theorem xw_673 : Cond.instanceMethod yX10_isSound ∈ xk_tg := List.mem_filter.mpr ⟨List.mem_of_getElem? (i := 1658) (by decide +kernel), rfl⟩
theorem xw_674 : Cond.selects RX10 yX10_isSound yX10_isSound ∈ xk_tg := List.mem_filter.mpr ⟨List.mem_of_getElem? (i := 131) (by decide +kernel), rfl⟩
theorem xw_675 : Cond.methodLink RX10 278 yX10_isHeld ∈ xk_tg := List.mem_filter.mpr ⟨List.mem_of_getElem? (i := 1652) (by decide +kernel), rfl⟩
theorem xw_676 : Cond.code yX10_isHeld cX10_isHeld 2 (some .boolean) ∈ xk_tg := List.mem_filter.mpr ⟨List.mem_of_getElem? (i := 1655) (by decide +kernel), rfl⟩
theorem xw_677 : Cond.instanceMethod yX10_isHeld ∈ xk_tg := List.mem_filter.mpr ⟨List.mem_of_getElem? (i := 1654) (by decide +kernel), rfl⟩
theorem xw_678 : Cond.selects RX10 yX10_isHeld yX10_isHeld ∈ xk_tg := List.mem_filter.mpr ⟨List.mem_of_getElem? (i := 130) (by decide +kernel), rfl⟩
theorem xw_679 : Cond.methodLinkNest RX9 173 yX2_costOf "LieKitchen" ∈ xk_tb := List.mem_filter.mpr ⟨List.mem_of_getElem? (i := 799) (by decide +kernel), rfl⟩
theorem xw_680 : Cond.code yX2_costOf cX2_costOf 4 (some .int) ∈ xk_tg := List.mem_filter.mpr ⟨List.mem_of_getElem? (i := 802) (by decide +kernel), rfl⟩
theorem xw_681 : Cond.instanceMethod yX2_costOf ∈ xk_tg := List.mem_filter.mpr ⟨List.mem_of_getElem? (i := 801) (by decide +kernel), rfl⟩
theorem xw_682 : Cond.selects RX2 yX2_costOf yX2_costOf ∈ xk_tg := List.mem_filter.mpr ⟨List.mem_of_getElem? (i := 47) (by decide +kernel), rfl⟩
theorem xw_683 : Cond.methodLink RX10 281 yX10_costOf ∈ xk_tg := List.mem_filter.mpr ⟨List.mem_of_getElem? (i := 1680) (by decide +kernel), rfl⟩
theorem xw_684 : Cond.code yX10_costOf cX10_costOf 4 (some .int) ∈ xk_tg := List.mem_filter.mpr ⟨List.mem_of_getElem? (i := 1683) (by decide +kernel), rfl⟩
theorem xw_685 : Cond.instanceMethod yX10_costOf ∈ xk_tg := List.mem_filter.mpr ⟨List.mem_of_getElem? (i := 1682) (by decide +kernel), rfl⟩
theorem xw_686 : Cond.selects RX10 yX10_costOf yX10_costOf ∈ xk_tg := List.mem_filter.mpr ⟨List.mem_of_getElem? (i := 135) (by decide +kernel), rfl⟩
theorem xw_687 : Cond.methodLink RX5 39 yX5_passes ∈ xk_tg := List.mem_filter.mpr ⟨List.mem_of_getElem? (i := 815) (by decide +kernel), rfl⟩
theorem xw_688 : Cond.methodLink RX5 35 yX5_bound ∈ xk_tg := List.mem_filter.mpr ⟨List.mem_of_getElem? (i := 811) (by decide +kernel), rfl⟩
theorem xw_689 : Cond.code yX5_bound cX5_bound 1 (some .int) ∈ xk_tg := List.mem_filter.mpr ⟨List.mem_of_getElem? (i := 814) (by decide +kernel), rfl⟩
theorem xw_690 : Cond.instanceMethod yX5_bound ∈ xk_tg := List.mem_filter.mpr ⟨List.mem_of_getElem? (i := 813) (by decide +kernel), rfl⟩
theorem xw_691 : Cond.selects RX5 yX5_bound yX5_bound ∈ xk_tg := List.mem_filter.mpr ⟨List.mem_of_getElem? (i := 49) (by decide +kernel), rfl⟩
theorem xw_692 : Cond.methodLinkNest RX9 176 yX5_size "LieKitchen" ∈ xk_tb := List.mem_filter.mpr ⟨List.mem_of_getElem? (i := 807) (by decide +kernel), rfl⟩
theorem xw_693 : Cond.code yX5_size cX5_size 4 (some .int) ∈ xk_tg := List.mem_filter.mpr ⟨List.mem_of_getElem? (i := 810) (by decide +kernel), rfl⟩
theorem xw_694 : Cond.instanceMethod yX5_size ∈ xk_tg := List.mem_filter.mpr ⟨List.mem_of_getElem? (i := 809) (by decide +kernel), rfl⟩
theorem xw_695 : Cond.selects RX5 yX5_size yX5_size ∈ xk_tg := List.mem_filter.mpr ⟨List.mem_of_getElem? (i := 48) (by decide +kernel), rfl⟩
theorem xw_696 : Cond.methodLink RX10 284 yX10_lays ∈ xk_tg := List.mem_filter.mpr ⟨List.mem_of_getElem? (i := 1692) (by decide +kernel), rfl⟩
theorem xw_697 : Cond.code yX10_lays cX10_lays 4 none ∈ xk_tg := List.mem_filter.mpr ⟨List.mem_of_getElem? (i := 1695) (by decide +kernel), rfl⟩
theorem xw_698 : Cond.instanceMethod yX10_lays ∈ xk_tg := List.mem_filter.mpr ⟨List.mem_of_getElem? (i := 1694) (by decide +kernel), rfl⟩
theorem xw_699 : Cond.selects RX10 yX10_lays yX10_lays ∈ xk_tg := List.mem_filter.mpr ⟨List.mem_of_getElem? (i := 137) (by decide +kernel), rfl⟩
theorem xw_700 : Cond.methodLink RX10 290 yX10_laysHeld ∈ xk_tg := List.mem_filter.mpr ⟨List.mem_of_getElem? (i := 1688) (by decide +kernel), rfl⟩
theorem xw_701 : Cond.code yX10_laysHeld cX10_laysHeld 1 none ∈ xk_tg := List.mem_filter.mpr ⟨List.mem_of_getElem? (i := 1691) (by decide +kernel), rfl⟩
theorem xw_702 : Cond.instanceMethod yX10_laysHeld ∈ xk_tg := List.mem_filter.mpr ⟨List.mem_of_getElem? (i := 1690) (by decide +kernel), rfl⟩
theorem xw_703 : Cond.selects RX10 yX10_laysHeld yX10_laysHeld ∈ xk_tg := List.mem_filter.mpr ⟨List.mem_of_getElem? (i := 136) (by decide +kernel), rfl⟩
theorem xw_704 : Cond.methodLinkNest RX9 180 yX5_nth "LieKitchen" ∈ xk_tb := List.mem_filter.mpr ⟨List.mem_of_getElem? (i := 820) (by decide +kernel), rfl⟩
theorem xw_705 : Cond.code yX5_nth cX5_nth 5 (some .int) ∈ xk_tg := List.mem_filter.mpr ⟨List.mem_of_getElem? (i := 823) (by decide +kernel), rfl⟩
theorem xw_706 : Cond.instanceMethod yX5_nth ∈ xk_tg := List.mem_filter.mpr ⟨List.mem_of_getElem? (i := 822) (by decide +kernel), rfl⟩
theorem xw_707 : Cond.selects RX5 yX5_nth yX5_nth ∈ xk_tg := List.mem_filter.mpr ⟨List.mem_of_getElem? (i := 50) (by decide +kernel), rfl⟩
theorem xw_708 : Cond.methodLinkNest RX2 105 yX9_rank "LieKitchen" ∈ xk_tb := List.mem_filter.mpr ⟨List.mem_of_getElem? (i := 846) (by decide +kernel), rfl⟩
theorem xw_709 : Cond.code yX9_rank cX9_rank 2 (some .int) ∈ xk_tg := List.mem_filter.mpr ⟨List.mem_of_getElem? (i := 848) (by decide +kernel), rfl⟩
theorem xw_710 : Cond.static yX9_rank ∈ xk_tg := List.mem_filter.mpr ⟨List.mem_of_getElem? (i := 847) (by decide +kernel), rfl⟩
theorem xw_711 : Cond.methodLink RX2 100 yJ6_bitCount_0f7a4 ∈ xk_tg := List.mem_filter.mpr ⟨List.mem_of_getElem? (i := 840) (by decide +kernel), rfl⟩
theorem xw_712 : Cond.code yJ6_bitCount_0f7a4 cJ6_bitCount_0f7a4 1 (some .int) ∈ xk_tg := List.mem_filter.mpr ⟨List.mem_of_getElem? (i := 842) (by decide +kernel), rfl⟩
theorem xw_713 : Cond.initialized RJ6 ∈ xk_tg := List.mem_filter.mpr ⟨List.mem_of_getElem? (i := 183) (by decide +kernel), rfl⟩
theorem xw_714 : Cond.static yJ6_bitCount_0f7a4 ∈ xk_tg := List.mem_filter.mpr ⟨List.mem_of_getElem? (i := 841) (by decide +kernel), rfl⟩
theorem xw_715 : Cond.methodLink RX2 112 yX2_witnessesOf ∈ xk_tg := List.mem_filter.mpr ⟨List.mem_of_getElem? (i := 850) (by decide +kernel), rfl⟩
theorem xw_716 : Cond.code yX2_witnessesOf cX2_witnessesOf 4 (some .int) ∈ xk_tg := List.mem_filter.mpr ⟨List.mem_of_getElem? (i := 853) (by decide +kernel), rfl⟩
theorem xw_717 : Cond.instanceMethod yX2_witnessesOf ∈ xk_tg := List.mem_filter.mpr ⟨List.mem_of_getElem? (i := 852) (by decide +kernel), rfl⟩
theorem xw_718 : Cond.selects RX2 yX2_witnessesOf yX2_witnessesOf ∈ xk_tg := List.mem_filter.mpr ⟨List.mem_of_getElem? (i := 54) (by decide +kernel), rfl⟩
theorem xw_719 : Cond.methodLink RX2 115 yX2_feesOf ∈ xk_tg := List.mem_filter.mpr ⟨List.mem_of_getElem? (i := 854) (by decide +kernel), rfl⟩
theorem xw_720 : Cond.code yX2_feesOf cX2_feesOf 4 (some .int) ∈ xk_tg := List.mem_filter.mpr ⟨List.mem_of_getElem? (i := 857) (by decide +kernel), rfl⟩
theorem xw_721 : Cond.instanceMethod yX2_feesOf ∈ xk_tg := List.mem_filter.mpr ⟨List.mem_of_getElem? (i := 856) (by decide +kernel), rfl⟩
theorem xw_722 : Cond.selects RX2 yX2_feesOf yX2_feesOf ∈ xk_tg := List.mem_filter.mpr ⟨List.mem_of_getElem? (i := 55) (by decide +kernel), rfl⟩
theorem xw_723 : Cond.methodLink RX2 109 yX2_costOf ∈ xk_tg := List.mem_filter.mpr ⟨List.mem_of_getElem? (i := 849) (by decide +kernel), rfl⟩
theorem xw_724 : Cond.methodLinkNest RX5 64 yX9_lesser "LieKitchen" ∈ xk_tb := List.mem_filter.mpr ⟨List.mem_of_getElem? (i := 858) (by decide +kernel), rfl⟩
theorem xw_725 : Cond.code yX9_lesser cX9_lesser 2 (some .int) ∈ xk_tg := List.mem_filter.mpr ⟨List.mem_of_getElem? (i := 860) (by decide +kernel), rfl⟩
theorem xw_726 : Cond.static yX9_lesser ∈ xk_tg := List.mem_filter.mpr ⟨List.mem_of_getElem? (i := 859) (by decide +kernel), rfl⟩
theorem xw_727 : Cond.methodLinkNest RX5 61 yX2_rankOf "LieKitchen" ∈ xk_tb := List.mem_filter.mpr ⟨List.mem_of_getElem? (i := 836) (by decide +kernel), rfl⟩
theorem xw_728 : Cond.code yX2_rankOf cX2_rankOf 5 (some .int) ∈ xk_tg := List.mem_filter.mpr ⟨List.mem_of_getElem? (i := 839) (by decide +kernel), rfl⟩
theorem xw_729 : Cond.instanceMethod yX2_rankOf ∈ xk_tg := List.mem_filter.mpr ⟨List.mem_of_getElem? (i := 838) (by decide +kernel), rfl⟩
theorem xw_730 : Cond.selects RX2 yX2_rankOf yX2_rankOf ∈ xk_tg := List.mem_filter.mpr ⟨List.mem_of_getElem? (i := 53) (by decide +kernel), rfl⟩
theorem xw_731 : Cond.methodLinkNest RX9 234 yX5_best "LieKitchen" ∈ xk_tb := List.mem_filter.mpr ⟨List.mem_of_getElem? (i := 832) (by decide +kernel), rfl⟩
theorem xw_732 : Cond.code yX5_best cX5_best 5 (some .int) ∈ xk_tg := List.mem_filter.mpr ⟨List.mem_of_getElem? (i := 835) (by decide +kernel), rfl⟩
theorem xw_733 : Cond.instanceMethod yX5_best ∈ xk_tg := List.mem_filter.mpr ⟨List.mem_of_getElem? (i := 834) (by decide +kernel), rfl⟩
theorem xw_734 : Cond.selects RX5 yX5_best yX5_best ∈ xk_tg := List.mem_filter.mpr ⟨List.mem_of_getElem? (i := 52) (by decide +kernel), rfl⟩
theorem xw_735 : Cond.methodLink RX9 186 yX9_amountOf ∈ xk_tg := List.mem_filter.mpr ⟨List.mem_of_getElem? (i := 861) (by decide +kernel), rfl⟩
theorem xw_736 : Cond.code yX9_amountOf cX9_amountOf 1 (some .int) ∈ xk_tg := List.mem_filter.mpr ⟨List.mem_of_getElem? (i := 863) (by decide +kernel), rfl⟩
theorem xw_737 : Cond.static yX9_amountOf ∈ xk_tg := List.mem_filter.mpr ⟨List.mem_of_getElem? (i := 862) (by decide +kernel), rfl⟩
theorem xw_738 : Cond.methodLink RX9 183 yX9_bestHolding ∈ xk_tg := List.mem_filter.mpr ⟨List.mem_of_getElem? (i := 828) (by decide +kernel), rfl⟩
theorem xw_739 : Cond.code yX9_bestHolding cX9_bestHolding 2 (some .int) ∈ xk_tg := List.mem_filter.mpr ⟨List.mem_of_getElem? (i := 831) (by decide +kernel), rfl⟩
theorem xw_740 : Cond.instanceMethod yX9_bestHolding ∈ xk_tg := List.mem_filter.mpr ⟨List.mem_of_getElem? (i := 830) (by decide +kernel), rfl⟩
theorem xw_741 : Cond.selects RX9 yX9_bestHolding yX9_bestHolding ∈ xk_tg := List.mem_filter.mpr ⟨List.mem_of_getElem? (i := 51) (by decide +kernel), rfl⟩
theorem xw_742 : Cond.methodLink RX10 293 yX10_witnessesOf ∈ xk_tg := List.mem_filter.mpr ⟨List.mem_of_getElem? (i := 1727) (by decide +kernel), rfl⟩
theorem xw_743 : Cond.code yX10_witnessesOf cX10_witnessesOf 4 (some .int) ∈ xk_tg := List.mem_filter.mpr ⟨List.mem_of_getElem? (i := 1730) (by decide +kernel), rfl⟩
theorem xw_744 : Cond.instanceMethod yX10_witnessesOf ∈ xk_tg := List.mem_filter.mpr ⟨List.mem_of_getElem? (i := 1729) (by decide +kernel), rfl⟩
theorem xw_745 : Cond.selects RX10 yX10_witnessesOf yX10_witnessesOf ∈ xk_tg := List.mem_filter.mpr ⟨List.mem_of_getElem? (i := 143) (by decide +kernel), rfl⟩
theorem xw_746 : Cond.methodLink RX10 296 yX10_sizeOf ∈ xk_tg := List.mem_filter.mpr ⟨List.mem_of_getElem? (i := 1720) (by decide +kernel), rfl⟩
theorem xw_747 : Cond.code yX10_sizeOf cX10_sizeOf 3 (some .int) ∈ xk_tg := List.mem_filter.mpr ⟨List.mem_of_getElem? (i := 1722) (by decide +kernel), rfl⟩
theorem xw_748 : Cond.static yX10_sizeOf ∈ xk_tg := List.mem_filter.mpr ⟨List.mem_of_getElem? (i := 1721) (by decide +kernel), rfl⟩
theorem xw_749 : Cond.methodLink RX10 299 yX10_matesOf ∈ xk_tg := List.mem_filter.mpr ⟨List.mem_of_getElem? (i := 1723) (by decide +kernel), rfl⟩
theorem xw_750 : Cond.code yX10_matesOf cX10_matesOf 4 (some .int) ∈ xk_tg := List.mem_filter.mpr ⟨List.mem_of_getElem? (i := 1726) (by decide +kernel), rfl⟩
theorem xw_751 : Cond.instanceMethod yX10_matesOf ∈ xk_tg := List.mem_filter.mpr ⟨List.mem_of_getElem? (i := 1725) (by decide +kernel), rfl⟩
theorem xw_752 : Cond.selects RX10 yX10_matesOf yX10_matesOf ∈ xk_tg := List.mem_filter.mpr ⟨List.mem_of_getElem? (i := 142) (by decide +kernel), rfl⟩
theorem xw_753 : Cond.methodLink RX10 302 yX10_measure ∈ xk_tg := List.mem_filter.mpr ⟨List.mem_of_getElem? (i := 1716) (by decide +kernel), rfl⟩
theorem xw_754 : Cond.code yX10_measure cX10_measure 3 (some .int) ∈ xk_tg := List.mem_filter.mpr ⟨List.mem_of_getElem? (i := 1719) (by decide +kernel), rfl⟩
theorem xw_755 : Cond.instanceMethod yX10_measure ∈ xk_tg := List.mem_filter.mpr ⟨List.mem_of_getElem? (i := 1718) (by decide +kernel), rfl⟩
theorem xw_756 : Cond.selects RX10 yX10_measure yX10_measure ∈ xk_tg := List.mem_filter.mpr ⟨List.mem_of_getElem? (i := 141) (by decide +kernel), rfl⟩
theorem xw_757 : Cond.methodLink RX10 305 yX10_best ∈ xk_tg := List.mem_filter.mpr ⟨List.mem_of_getElem? (i := 1712) (by decide +kernel), rfl⟩
theorem xw_758 : Cond.code yX10_best cX10_best 4 (some .int) ∈ xk_tg := List.mem_filter.mpr ⟨List.mem_of_getElem? (i := 1715) (by decide +kernel), rfl⟩
theorem xw_759 : Cond.instanceMethod yX10_best ∈ xk_tg := List.mem_filter.mpr ⟨List.mem_of_getElem? (i := 1714) (by decide +kernel), rfl⟩
theorem xw_760 : Cond.selects RX10 yX10_best yX10_best ∈ xk_tg := List.mem_filter.mpr ⟨List.mem_of_getElem? (i := 140) (by decide +kernel), rfl⟩
theorem xw_761 : Cond.methodLink RX10 308 yX10_bestHeld ∈ xk_tg := List.mem_filter.mpr ⟨List.mem_of_getElem? (i := 1708) (by decide +kernel), rfl⟩
theorem xw_762 : Cond.code yX10_bestHeld cX10_bestHeld 2 (some .int) ∈ xk_tg := List.mem_filter.mpr ⟨List.mem_of_getElem? (i := 1711) (by decide +kernel), rfl⟩
theorem xw_763 : Cond.instanceMethod yX10_bestHeld ∈ xk_tg := List.mem_filter.mpr ⟨List.mem_of_getElem? (i := 1710) (by decide +kernel), rfl⟩
theorem xw_764 : Cond.selects RX10 yX10_bestHeld yX10_bestHeld ∈ xk_tg := List.mem_filter.mpr ⟨List.mem_of_getElem? (i := 139) (by decide +kernel), rfl⟩
theorem xw_765 : Cond.methodLink RX10 311 yX10_leastHeld ∈ xk_tg := List.mem_filter.mpr ⟨List.mem_of_getElem? (i := 1704) (by decide +kernel), rfl⟩
theorem xw_766 : Cond.code yX10_leastHeld cX10_leastHeld 3 (some .int) ∈ xk_tg := List.mem_filter.mpr ⟨List.mem_of_getElem? (i := 1707) (by decide +kernel), rfl⟩
theorem xw_767 : Cond.instanceMethod yX10_leastHeld ∈ xk_tg := List.mem_filter.mpr ⟨List.mem_of_getElem? (i := 1706) (by decide +kernel), rfl⟩
theorem xw_768 : Cond.selects RX10 yX10_leastHeld yX10_leastHeld ∈ xk_tg := List.mem_filter.mpr ⟨List.mem_of_getElem? (i := 138) (by decide +kernel), rfl⟩
theorem xw_769 : Cond.methodLink RX9 189 yX9_setOf ∈ xk_tg := List.mem_filter.mpr ⟨List.mem_of_getElem? (i := 868) (by decide +kernel), rfl⟩
theorem xw_770 : Cond.code yX9_setOf cX9_setOf 1 (some .int) ∈ xk_tg := List.mem_filter.mpr ⟨List.mem_of_getElem? (i := 870) (by decide +kernel), rfl⟩
theorem xw_771 : Cond.static yX9_setOf ∈ xk_tg := List.mem_filter.mpr ⟨List.mem_of_getElem? (i := 869) (by decide +kernel), rfl⟩
theorem xw_772 : Cond.methodLinkNest RX1 29 yX9_lesser "LieKitchen" ∈ xk_tb := List.mem_filter.mpr ⟨List.mem_of_getElem? (i := 909) (by decide +kernel), rfl⟩
theorem xw_773 : Cond.methodLinkNest RX1 25 yX9_rank "LieKitchen" ∈ xk_tb := List.mem_filter.mpr ⟨List.mem_of_getElem? (i := 908) (by decide +kernel), rfl⟩
theorem xw_774 : Cond.methodLink RX1 19 yJ6_bitCount_0f7a4 ∈ xk_tg := List.mem_filter.mpr ⟨List.mem_of_getElem? (i := 907) (by decide +kernel), rfl⟩
theorem xw_775 : Cond.methodLink RX1 15 yX1_markSupersets ∈ xk_tg := List.mem_filter.mpr ⟨List.mem_of_getElem? (i := 903) (by decide +kernel), rfl⟩
theorem xw_776 : Cond.code yX1_markSupersets cX1_markSupersets 4 none ∈ xk_tg := List.mem_filter.mpr ⟨List.mem_of_getElem? (i := 906) (by decide +kernel), rfl⟩
theorem xw_777 : Cond.instanceMethod yX1_markSupersets ∈ xk_tg := List.mem_filter.mpr ⟨List.mem_of_getElem? (i := 905) (by decide +kernel), rfl⟩
theorem xw_778 : Cond.selects RX1 yX1_markSupersets yX1_markSupersets ∈ xk_tg := List.mem_filter.mpr ⟨List.mem_of_getElem? (i := 61) (by decide +kernel), rfl⟩
theorem xw_779 : Cond.methodLinkNest RX9 411 yX1_smallest "LieKitchen" ∈ xk_tb := List.mem_filter.mpr ⟨List.mem_of_getElem? (i := 899) (by decide +kernel), rfl⟩
theorem xw_780 : Cond.code yX1_smallest cX1_smallest 6 (some .int) ∈ xk_tg := List.mem_filter.mpr ⟨List.mem_of_getElem? (i := 902) (by decide +kernel), rfl⟩
theorem xw_781 : Cond.instanceMethod yX1_smallest ∈ xk_tg := List.mem_filter.mpr ⟨List.mem_of_getElem? (i := 901) (by decide +kernel), rfl⟩
theorem xw_782 : Cond.selects RX1 yX1_smallest yX1_smallest ∈ xk_tg := List.mem_filter.mpr ⟨List.mem_of_getElem? (i := 60) (by decide +kernel), rfl⟩
theorem xw_783 : Cond.methodLinkNest RX9 408 yX1_mark "LieKitchen" ∈ xk_tb := List.mem_filter.mpr ⟨List.mem_of_getElem? (i := 895) (by decide +kernel), rfl⟩
theorem xw_784 : Cond.code yX1_mark cX1_mark 2 none ∈ xk_tg := List.mem_filter.mpr ⟨List.mem_of_getElem? (i := 898) (by decide +kernel), rfl⟩
theorem xw_785 : Cond.instanceMethod yX1_mark ∈ xk_tg := List.mem_filter.mpr ⟨List.mem_of_getElem? (i := 897) (by decide +kernel), rfl⟩
theorem xw_786 : Cond.selects RX1 yX1_mark yX1_mark ∈ xk_tg := List.mem_filter.mpr ⟨List.mem_of_getElem? (i := 59) (by decide +kernel), rfl⟩
theorem xw_787 : Cond.methodLinkNest RX9 405 yX2_missedBy "LieKitchen" ∈ xk_tb := List.mem_filter.mpr ⟨List.mem_of_getElem? (i := 891) (by decide +kernel), rfl⟩
theorem xw_788 : Cond.code yX2_missedBy cX2_missedBy 2 (some .int) ∈ xk_tg := List.mem_filter.mpr ⟨List.mem_of_getElem? (i := 894) (by decide +kernel), rfl⟩
theorem xw_789 : Cond.instanceMethod yX2_missedBy ∈ xk_tg := List.mem_filter.mpr ⟨List.mem_of_getElem? (i := 893) (by decide +kernel), rfl⟩
theorem xw_790 : Cond.selects RX2 yX2_missedBy yX2_missedBy ∈ xk_tg := List.mem_filter.mpr ⟨List.mem_of_getElem? (i := 58) (by decide +kernel), rfl⟩
theorem xw_791 : Cond.methodLinkNest RX9 404 yX1_clear "LieKitchen" ∈ xk_tb := List.mem_filter.mpr ⟨List.mem_of_getElem? (i := 887) (by decide +kernel), rfl⟩
theorem xw_792 : Cond.code yX1_clear cX1_clear 2 none ∈ xk_tg := List.mem_filter.mpr ⟨List.mem_of_getElem? (i := 890) (by decide +kernel), rfl⟩
theorem xw_793 : Cond.instanceMethod yX1_clear ∈ xk_tg := List.mem_filter.mpr ⟨List.mem_of_getElem? (i := 889) (by decide +kernel), rfl⟩
theorem xw_794 : Cond.selects RX1 yX1_clear yX1_clear ∈ xk_tg := List.mem_filter.mpr ⟨List.mem_of_getElem? (i := 57) (by decide +kernel), rfl⟩
theorem xw_795 : Cond.methodLink RX9 192 yX9_rankedClash ∈ xk_tg := List.mem_filter.mpr ⟨List.mem_of_getElem? (i := 883) (by decide +kernel), rfl⟩
theorem xw_796 : Cond.code yX9_rankedClash cX9_rankedClash 4 (some .int) ∈ xk_tg := List.mem_filter.mpr ⟨List.mem_of_getElem? (i := 886) (by decide +kernel), rfl⟩
theorem xw_797 : Cond.instanceMethod yX9_rankedClash ∈ xk_tg := List.mem_filter.mpr ⟨List.mem_of_getElem? (i := 885) (by decide +kernel), rfl⟩
theorem xw_798 : Cond.selects RX9 yX9_rankedClash yX9_rankedClash ∈ xk_tg := List.mem_filter.mpr ⟨List.mem_of_getElem? (i := 56) (by decide +kernel), rfl⟩
theorem xw_799 : Cond.methodLink RX10 314 yX10_clashOf ∈ xk_tg := List.mem_filter.mpr ⟨List.mem_of_getElem? (i := 1747) (by decide +kernel), rfl⟩
theorem xw_800 : Cond.code yX10_clashOf cX10_clashOf 3 (some .int) ∈ xk_tg := List.mem_filter.mpr ⟨List.mem_of_getElem? (i := 1750) (by decide +kernel), rfl⟩
theorem xw_801 : Cond.instanceMethod yX10_clashOf ∈ xk_tg := List.mem_filter.mpr ⟨List.mem_of_getElem? (i := 1749) (by decide +kernel), rfl⟩
theorem xw_802 : Cond.selects RX10 yX10_clashOf yX10_clashOf ∈ xk_tg := List.mem_filter.mpr ⟨List.mem_of_getElem? (i := 144) (by decide +kernel), rfl⟩
theorem xw_803 : Cond.methodLink RX9 198 yX9_lying ∈ xk_tg := List.mem_filter.mpr ⟨List.mem_of_getElem? (i := 922) (by decide +kernel), rfl⟩
theorem xw_804 : Cond.code yX9_lying cX9_lying 2 (some (.object "LieKitchen$Sieve")) ∈ xk_tg := List.mem_filter.mpr ⟨List.mem_of_getElem? (i := 925) (by decide +kernel), rfl⟩
theorem xw_805 : Cond.instanceMethod yX9_lying ∈ xk_tg := List.mem_filter.mpr ⟨List.mem_of_getElem? (i := 924) (by decide +kernel), rfl⟩
theorem xw_806 : Cond.selects RX9 yX9_lying yX9_lying ∈ xk_tg := List.mem_filter.mpr ⟨List.mem_of_getElem? (i := 63) (by decide +kernel), rfl⟩
theorem xw_807 : Cond.methodLink RX9 195 yX9_rankedLie ∈ xk_tg := List.mem_filter.mpr ⟨List.mem_of_getElem? (i := 918) (by decide +kernel), rfl⟩
theorem xw_808 : Cond.code yX9_rankedLie cX9_rankedLie 2 (some .int) ∈ xk_tg := List.mem_filter.mpr ⟨List.mem_of_getElem? (i := 921) (by decide +kernel), rfl⟩
theorem xw_809 : Cond.instanceMethod yX9_rankedLie ∈ xk_tg := List.mem_filter.mpr ⟨List.mem_of_getElem? (i := 920) (by decide +kernel), rfl⟩
theorem xw_810 : Cond.selects RX9 yX9_rankedLie yX9_rankedLie ∈ xk_tg := List.mem_filter.mpr ⟨List.mem_of_getElem? (i := 62) (by decide +kernel), rfl⟩
theorem xw_811 : Cond.methodLink RX5 45 yX5_someNot ∈ xk_tg := List.mem_filter.mpr ⟨List.mem_of_getElem? (i := 938) (by decide +kernel), rfl⟩
theorem xw_812 : Cond.code yX5_someNot cX5_someNot 4 (some .int) ∈ xk_tg := List.mem_filter.mpr ⟨List.mem_of_getElem? (i := 941) (by decide +kernel), rfl⟩
theorem xw_813 : Cond.instanceMethod yX5_someNot ∈ xk_tg := List.mem_filter.mpr ⟨List.mem_of_getElem? (i := 940) (by decide +kernel), rfl⟩
theorem xw_814 : Cond.selects RX5 yX5_someNot yX5_someNot ∈ xk_tg := List.mem_filter.mpr ⟨List.mem_of_getElem? (i := 66) (by decide +kernel), rfl⟩
theorem xw_815 : Cond.methodLink RX5 42 yX5_someSo ∈ xk_tg := List.mem_filter.mpr ⟨List.mem_of_getElem? (i := 934) (by decide +kernel), rfl⟩
theorem xw_816 : Cond.code yX5_someSo cX5_someSo 4 (some .int) ∈ xk_tg := List.mem_filter.mpr ⟨List.mem_of_getElem? (i := 937) (by decide +kernel), rfl⟩
theorem xw_817 : Cond.instanceMethod yX5_someSo ∈ xk_tg := List.mem_filter.mpr ⟨List.mem_of_getElem? (i := 936) (by decide +kernel), rfl⟩
theorem xw_818 : Cond.selects RX5 yX5_someSo yX5_someSo ∈ xk_tg := List.mem_filter.mpr ⟨List.mem_of_getElem? (i := 65) (by decide +kernel), rfl⟩
theorem xw_819 : Cond.methodLinkNest RX9 205 yX5_allNot "LieKitchen" ∈ xk_tb := List.mem_filter.mpr ⟨List.mem_of_getElem? (i := 942) (by decide +kernel), rfl⟩
theorem xw_820 : Cond.code yX5_allNot cX5_allNot 1 (some .int) ∈ xk_tg := List.mem_filter.mpr ⟨List.mem_of_getElem? (i := 945) (by decide +kernel), rfl⟩
theorem xw_821 : Cond.instanceMethod yX5_allNot ∈ xk_tg := List.mem_filter.mpr ⟨List.mem_of_getElem? (i := 944) (by decide +kernel), rfl⟩
theorem xw_822 : Cond.selects RX5 yX5_allNot yX5_allNot ∈ xk_tg := List.mem_filter.mpr ⟨List.mem_of_getElem? (i := 67) (by decide +kernel), rfl⟩
theorem xw_823 : Cond.methodLinkNest RX9 202 yX5_allSo "LieKitchen" ∈ xk_tb := List.mem_filter.mpr ⟨List.mem_of_getElem? (i := 930) (by decide +kernel), rfl⟩
theorem xw_824 : Cond.code yX5_allSo cX5_allSo 1 (some .int) ∈ xk_tg := List.mem_filter.mpr ⟨List.mem_of_getElem? (i := 933) (by decide +kernel), rfl⟩
theorem xw_825 : Cond.instanceMethod yX5_allSo ∈ xk_tg := List.mem_filter.mpr ⟨List.mem_of_getElem? (i := 932) (by decide +kernel), rfl⟩
theorem xw_826 : Cond.selects RX5 yX5_allSo yX5_allSo ∈ xk_tg := List.mem_filter.mpr ⟨List.mem_of_getElem? (i := 64) (by decide +kernel), rfl⟩
theorem xw_827 : Cond.methodLink RX9 436 yX9_commonDivisor ∈ xk_tg := List.mem_filter.mpr ⟨List.mem_of_getElem? (i := 958) (by decide +kernel), rfl⟩
theorem xw_828 : Cond.code yX9_commonDivisor cX9_commonDivisor 11 (some .long) ∈ xk_tg := List.mem_filter.mpr ⟨List.mem_of_getElem? (i := 960) (by decide +kernel), rfl⟩
theorem xw_829 : Cond.static yX9_commonDivisor ∈ xk_tg := List.mem_filter.mpr ⟨List.mem_of_getElem? (i := 959) (by decide +kernel), rfl⟩
theorem xw_830 : Cond.methodLink RX9 224 yX9_inLowestTerms ∈ xk_tg := List.mem_filter.mpr ⟨List.mem_of_getElem? (i := 955) (by decide +kernel), rfl⟩
theorem xw_831 : Cond.code yX9_inLowestTerms cX9_inLowestTerms 7 (some .long) ∈ xk_tg := List.mem_filter.mpr ⟨List.mem_of_getElem? (i := 957) (by decide +kernel), rfl⟩
theorem xw_832 : Cond.static yX9_inLowestTerms ∈ xk_tg := List.mem_filter.mpr ⟨List.mem_of_getElem? (i := 956) (by decide +kernel), rfl⟩
theorem xw_833 : Cond.methodLink RX9 210 yJ6_bitCount_0f7a4 ∈ xk_tg := List.mem_filter.mpr ⟨List.mem_of_getElem? (i := 951) (by decide +kernel), rfl⟩
theorem xw_834 : Cond.methodLink RX10 317 yX10_common ∈ xk_tg := List.mem_filter.mpr ⟨List.mem_of_getElem? (i := 1773) (by decide +kernel), rfl⟩
theorem xw_835 : Cond.code yX10_common cX10_common 4 (some .long) ∈ xk_tg := List.mem_filter.mpr ⟨List.mem_of_getElem? (i := 1775) (by decide +kernel), rfl⟩
theorem xw_836 : Cond.static yX10_common ∈ xk_tg := List.mem_filter.mpr ⟨List.mem_of_getElem? (i := 1774) (by decide +kernel), rfl⟩
theorem xw_837 : Cond.methodLink RX10 327 yX10_part ∈ xk_tg := List.mem_filter.mpr ⟨List.mem_of_getElem? (i := 1770) (by decide +kernel), rfl⟩
theorem xw_838 : Cond.code yX10_part cX10_part 5 (some .long) ∈ xk_tg := List.mem_filter.mpr ⟨List.mem_of_getElem? (i := 1772) (by decide +kernel), rfl⟩
theorem xw_839 : Cond.static yX10_part ∈ xk_tg := List.mem_filter.mpr ⟨List.mem_of_getElem? (i := 1771) (by decide +kernel), rfl⟩
theorem xw_840 : Cond.methodLinkNest RX5 69 yX2_safety "LieKitchen" ∈ xk_tb := List.mem_filter.mpr ⟨List.mem_of_getElem? (i := 973) (by decide +kernel), rfl⟩
theorem xw_841 : Cond.code yX2_safety cX2_safety 6 (some .long) ∈ xk_tg := List.mem_filter.mpr ⟨List.mem_of_getElem? (i := 976) (by decide +kernel), rfl⟩
theorem xw_842 : Cond.instanceMethod yX2_safety ∈ xk_tg := List.mem_filter.mpr ⟨List.mem_of_getElem? (i := 975) (by decide +kernel), rfl⟩
theorem xw_843 : Cond.selects RX2 yX2_safety yX2_safety ∈ xk_tg := List.mem_filter.mpr ⟨List.mem_of_getElem? (i := 69) (by decide +kernel), rfl⟩
theorem xw_844 : Cond.methodLinkNest RX9 228 yX5_leastRisky "LieKitchen" ∈ xk_tb := List.mem_filter.mpr ⟨List.mem_of_getElem? (i := 968) (by decide +kernel), rfl⟩
theorem xw_845 : Cond.code yX5_leastRisky cX5_leastRisky 6 (some .int) ∈ xk_tg := List.mem_filter.mpr ⟨List.mem_of_getElem? (i := 971) (by decide +kernel), rfl⟩
theorem xw_846 : Cond.instanceMethod yX5_leastRisky ∈ xk_tg := List.mem_filter.mpr ⟨List.mem_of_getElem? (i := 970) (by decide +kernel), rfl⟩
theorem xw_847 : Cond.selects RX5 yX5_leastRisky yX5_leastRisky ∈ xk_tg := List.mem_filter.mpr ⟨List.mem_of_getElem? (i := 68) (by decide +kernel), rfl⟩
theorem xw_848 : Cond.methodLink RX10 331 yX10_quietOf ∈ xk_tg := List.mem_filter.mpr ⟨List.mem_of_getElem? (i := 1780) (by decide +kernel), rfl⟩
theorem xw_849 : Cond.code yX10_quietOf cX10_quietOf 5 (some .long) ∈ xk_tg := List.mem_filter.mpr ⟨List.mem_of_getElem? (i := 1783) (by decide +kernel), rfl⟩
theorem xw_850 : Cond.instanceMethod yX10_quietOf ∈ xk_tg := List.mem_filter.mpr ⟨List.mem_of_getElem? (i := 1782) (by decide +kernel), rfl⟩
theorem xw_851 : Cond.selects RX10 yX10_quietOf yX10_quietOf ∈ xk_tg := List.mem_filter.mpr ⟨List.mem_of_getElem? (i := 145) (by decide +kernel), rfl⟩
theorem xw_852 : Cond.methodLink RX9 231 yX9_owned ∈ xk_tg := List.mem_filter.mpr ⟨List.mem_of_getElem? (i := 982) (by decide +kernel), rfl⟩
theorem xw_853 : Cond.code yX9_owned cX9_owned 3 (some (.object "LieKitchen$Sieve")) ∈ xk_tg := List.mem_filter.mpr ⟨List.mem_of_getElem? (i := 985) (by decide +kernel), rfl⟩
theorem xw_854 : Cond.instanceMethod yX9_owned ∈ xk_tg := List.mem_filter.mpr ⟨List.mem_of_getElem? (i := 984) (by decide +kernel), rfl⟩
theorem xw_855 : Cond.selects RX9 yX9_owned yX9_owned ∈ xk_tg := List.mem_filter.mpr ⟨List.mem_of_getElem? (i := 70) (by decide +kernel), rfl⟩
theorem xw_856 : Cond.methodLink RX10 335 yX10_laysOwned ∈ xk_tg := List.mem_filter.mpr ⟨List.mem_of_getElem? (i := 1792) (by decide +kernel), rfl⟩
theorem xw_857 : Cond.code yX10_laysOwned cX10_laysOwned 2 (some .boolean) ∈ xk_tg := List.mem_filter.mpr ⟨List.mem_of_getElem? (i := 1795) (by decide +kernel), rfl⟩
theorem xw_858 : Cond.instanceMethod yX10_laysOwned ∈ xk_tg := List.mem_filter.mpr ⟨List.mem_of_getElem? (i := 1794) (by decide +kernel), rfl⟩
theorem xw_859 : Cond.selects RX10 yX10_laysOwned yX10_laysOwned ∈ xk_tg := List.mem_filter.mpr ⟨List.mem_of_getElem? (i := 147) (by decide +kernel), rfl⟩
theorem xw_860 : Cond.methodLink RX10 338 yX10_ownOf ∈ xk_tg := List.mem_filter.mpr ⟨List.mem_of_getElem? (i := 1788) (by decide +kernel), rfl⟩
theorem xw_861 : Cond.code yX10_ownOf cX10_ownOf 2 (some .int) ∈ xk_tg := List.mem_filter.mpr ⟨List.mem_of_getElem? (i := 1791) (by decide +kernel), rfl⟩
theorem xw_862 : Cond.instanceMethod yX10_ownOf ∈ xk_tg := List.mem_filter.mpr ⟨List.mem_of_getElem? (i := 1790) (by decide +kernel), rfl⟩
theorem xw_863 : Cond.selects RX10 yX10_ownOf yX10_ownOf ∈ xk_tg := List.mem_filter.mpr ⟨List.mem_of_getElem? (i := 146) (by decide +kernel), rfl⟩
theorem xw_864 : Cond.methodLink RX9 240 yX9_own ∈ xk_tg := List.mem_filter.mpr ⟨List.mem_of_getElem? (i := 991) (by decide +kernel), rfl⟩
theorem xw_865 : Cond.code yX9_own cX9_own 3 (some .int) ∈ xk_tg := List.mem_filter.mpr ⟨List.mem_of_getElem? (i := 981) (by decide +kernel), rfl⟩
theorem xw_866 : Cond.instanceMethod yX9_own ∈ xk_tg := List.mem_filter.mpr ⟨List.mem_of_getElem? (i := 979) (by decide +kernel), rfl⟩
theorem xw_867 : Cond.selects RX9 yX9_own yX9_own ∈ xk_tg := List.mem_filter.mpr ⟨List.mem_of_getElem? (i := 980) (by decide +kernel), rfl⟩
theorem xw_868 : Cond.methodLink RX9 237 yX9_cheap ∈ xk_tg := List.mem_filter.mpr ⟨List.mem_of_getElem? (i := 990) (by decide +kernel), rfl⟩
theorem xw_869 : Cond.code yX9_cheap cX9_cheap 1 (some .int) ∈ xk_tg := List.mem_filter.mpr ⟨List.mem_of_getElem? (i := 874) (by decide +kernel), rfl⟩
theorem xw_870 : Cond.instanceMethod yX9_cheap ∈ xk_tg := List.mem_filter.mpr ⟨List.mem_of_getElem? (i := 872) (by decide +kernel), rfl⟩
theorem xw_871 : Cond.selects RX9 yX9_cheap yX9_cheap ∈ xk_tg := List.mem_filter.mpr ⟨List.mem_of_getElem? (i := 873) (by decide +kernel), rfl⟩
theorem xw_872 : Cond.methodLink RX9 243 yX9_fewest ∈ xk_tg := List.mem_filter.mpr ⟨List.mem_of_getElem? (i := 996) (by decide +kernel), rfl⟩
theorem xw_873 : Cond.code yX9_fewest cX9_fewest 1 (some .int) ∈ xk_tg := List.mem_filter.mpr ⟨List.mem_of_getElem? (i := 827) (by decide +kernel), rfl⟩
theorem xw_874 : Cond.instanceMethod yX9_fewest ∈ xk_tg := List.mem_filter.mpr ⟨List.mem_of_getElem? (i := 825) (by decide +kernel), rfl⟩
theorem xw_875 : Cond.selects RX9 yX9_fewest yX9_fewest ∈ xk_tg := List.mem_filter.mpr ⟨List.mem_of_getElem? (i := 826) (by decide +kernel), rfl⟩
theorem xw_876 : Cond.methodLink RX9 424 yX9_lesser ∈ xk_tg := List.mem_filter.mpr ⟨List.mem_of_getElem? (i := 1014) (by decide +kernel), rfl⟩
theorem xw_877 : Cond.methodLink RX9 421 yX9_rank ∈ xk_tg := List.mem_filter.mpr ⟨List.mem_of_getElem? (i := 1013) (by decide +kernel), rfl⟩
theorem xw_878 : Cond.methodLinkNest RX9 418 yX2_ownsOf "LieKitchen" ∈ xk_tb := List.mem_filter.mpr ⟨List.mem_of_getElem? (i := 1009) (by decide +kernel), rfl⟩
theorem xw_879 : Cond.code yX2_ownsOf cX2_ownsOf 4 (some .int) ∈ xk_tg := List.mem_filter.mpr ⟨List.mem_of_getElem? (i := 1012) (by decide +kernel), rfl⟩
theorem xw_880 : Cond.instanceMethod yX2_ownsOf ∈ xk_tg := List.mem_filter.mpr ⟨List.mem_of_getElem? (i := 1011) (by decide +kernel), rfl⟩
theorem xw_881 : Cond.selects RX2 yX2_ownsOf yX2_ownsOf ∈ xk_tg := List.mem_filter.mpr ⟨List.mem_of_getElem? (i := 73) (by decide +kernel), rfl⟩
theorem xw_882 : Cond.methodLinkNest RX9 415 yX2_cannotBeOwned "LieKitchen" ∈ xk_tb := List.mem_filter.mpr ⟨List.mem_of_getElem? (i := 1005) (by decide +kernel), rfl⟩
theorem xw_883 : Cond.code yX2_cannotBeOwned cX2_cannotBeOwned 3 (some .int) ∈ xk_tg := List.mem_filter.mpr ⟨List.mem_of_getElem? (i := 1008) (by decide +kernel), rfl⟩
theorem xw_884 : Cond.instanceMethod yX2_cannotBeOwned ∈ xk_tg := List.mem_filter.mpr ⟨List.mem_of_getElem? (i := 1007) (by decide +kernel), rfl⟩
theorem xw_885 : Cond.selects RX2 yX2_cannotBeOwned yX2_cannotBeOwned ∈ xk_tg := List.mem_filter.mpr ⟨List.mem_of_getElem? (i := 72) (by decide +kernel), rfl⟩
theorem xw_886 : Cond.methodLink RX9 246 yX9_rankedConfession ∈ xk_tg := List.mem_filter.mpr ⟨List.mem_of_getElem? (i := 1001) (by decide +kernel), rfl⟩
theorem xw_887 : Cond.code yX9_rankedConfession cX9_rankedConfession 7 (some .int) ∈ xk_tg := List.mem_filter.mpr ⟨List.mem_of_getElem? (i := 1004) (by decide +kernel), rfl⟩
theorem xw_888 : Cond.instanceMethod yX9_rankedConfession ∈ xk_tg := List.mem_filter.mpr ⟨List.mem_of_getElem? (i := 1003) (by decide +kernel), rfl⟩
theorem xw_889 : Cond.selects RX9 yX9_rankedConfession yX9_rankedConfession ∈ xk_tg := List.mem_filter.mpr ⟨List.mem_of_getElem? (i := 71) (by decide +kernel), rfl⟩
theorem xw_890 : Cond.methodLink RX10 344 yX10_confessOf ∈ xk_tg := List.mem_filter.mpr ⟨List.mem_of_getElem? (i := 1808) (by decide +kernel), rfl⟩
theorem xw_891 : Cond.code yX10_confessOf cX10_confessOf 6 (some .int) ∈ xk_tg := List.mem_filter.mpr ⟨List.mem_of_getElem? (i := 1811) (by decide +kernel), rfl⟩
theorem xw_892 : Cond.instanceMethod yX10_confessOf ∈ xk_tg := List.mem_filter.mpr ⟨List.mem_of_getElem? (i := 1810) (by decide +kernel), rfl⟩
theorem xw_893 : Cond.selects RX10 yX10_confessOf yX10_confessOf ∈ xk_tg := List.mem_filter.mpr ⟨List.mem_of_getElem? (i := 148) (by decide +kernel), rfl⟩
theorem xw_894 : Cond.methodLinkNest RX9 255 yX5_someNot "LieKitchen" ∈ xk_tb := List.mem_filter.mpr ⟨List.mem_of_getElem? (i := 1032) (by decide +kernel), rfl⟩
theorem xw_895 : Cond.methodLinkNest RX9 252 yX5_someSo "LieKitchen" ∈ xk_tb := List.mem_filter.mpr ⟨List.mem_of_getElem? (i := 1031) (by decide +kernel), rfl⟩
theorem xw_896 : Cond.methodLink RX9 249 yX9_remaining ∈ xk_tg := List.mem_filter.mpr ⟨List.mem_of_getElem? (i := 1027) (by decide +kernel), rfl⟩
theorem xw_897 : Cond.code yX9_remaining cX9_remaining 1 (some (.object "LieKitchen$Sieve")) ∈ xk_tg := List.mem_filter.mpr ⟨List.mem_of_getElem? (i := 1030) (by decide +kernel), rfl⟩
theorem xw_898 : Cond.instanceMethod yX9_remaining ∈ xk_tg := List.mem_filter.mpr ⟨List.mem_of_getElem? (i := 1029) (by decide +kernel), rfl⟩
theorem xw_899 : Cond.selects RX9 yX9_remaining yX9_remaining ∈ xk_tg := List.mem_filter.mpr ⟨List.mem_of_getElem? (i := 74) (by decide +kernel), rfl⟩
theorem xw_900 : Cond.methodLink RX10 353 yX10_mayOf ∈ xk_tg := List.mem_filter.mpr ⟨List.mem_of_getElem? (i := 1832) (by decide +kernel), rfl⟩
theorem xw_901 : Cond.code yX10_mayOf cX10_mayOf 4 (some .int) ∈ xk_tg := List.mem_filter.mpr ⟨List.mem_of_getElem? (i := 1835) (by decide +kernel), rfl⟩
theorem xw_902 : Cond.instanceMethod yX10_mayOf ∈ xk_tg := List.mem_filter.mpr ⟨List.mem_of_getElem? (i := 1834) (by decide +kernel), rfl⟩
theorem xw_903 : Cond.selects RX10 yX10_mayOf yX10_mayOf ∈ xk_tg := List.mem_filter.mpr ⟨List.mem_of_getElem? (i := 151) (by decide +kernel), rfl⟩
theorem xw_904 : Cond.methodLink RX10 350 yX10_laysLeft ∈ xk_tg := List.mem_filter.mpr ⟨List.mem_of_getElem? (i := 1828) (by decide +kernel), rfl⟩
theorem xw_905 : Cond.code yX10_laysLeft cX10_laysLeft 3 none ∈ xk_tg := List.mem_filter.mpr ⟨List.mem_of_getElem? (i := 1831) (by decide +kernel), rfl⟩
theorem xw_906 : Cond.instanceMethod yX10_laysLeft ∈ xk_tg := List.mem_filter.mpr ⟨List.mem_of_getElem? (i := 1830) (by decide +kernel), rfl⟩
theorem xw_907 : Cond.selects RX10 yX10_laysLeft yX10_laysLeft ∈ xk_tg := List.mem_filter.mpr ⟨List.mem_of_getElem? (i := 150) (by decide +kernel), rfl⟩
theorem xw_908 : Cond.methodLink RX10 347 yX10_isPerson ∈ xk_tg := List.mem_filter.mpr ⟨List.mem_of_getElem? (i := 1824) (by decide +kernel), rfl⟩
theorem xw_909 : Cond.code yX10_isPerson cX10_isPerson 2 (some .boolean) ∈ xk_tg := List.mem_filter.mpr ⟨List.mem_of_getElem? (i := 1827) (by decide +kernel), rfl⟩
theorem xw_910 : Cond.instanceMethod yX10_isPerson ∈ xk_tg := List.mem_filter.mpr ⟨List.mem_of_getElem? (i := 1826) (by decide +kernel), rfl⟩
theorem xw_911 : Cond.selects RX10 yX10_isPerson yX10_isPerson ∈ xk_tg := List.mem_filter.mpr ⟨List.mem_of_getElem? (i := 149) (by decide +kernel), rfl⟩
theorem xw_912 : Cond.methodLink RX9 262 yX9_rankedCatch ∈ xk_tg := List.mem_filter.mpr ⟨List.mem_of_getElem? (i := 1041) (by decide +kernel), rfl⟩
theorem xw_913 : Cond.code yX9_rankedCatch cX9_rankedCatch 4 (some .int) ∈ xk_tg := List.mem_filter.mpr ⟨List.mem_of_getElem? (i := 1044) (by decide +kernel), rfl⟩
theorem xw_914 : Cond.instanceMethod yX9_rankedCatch ∈ xk_tg := List.mem_filter.mpr ⟨List.mem_of_getElem? (i := 1043) (by decide +kernel), rfl⟩
theorem xw_915 : Cond.selects RX9 yX9_rankedCatch yX9_rankedCatch ∈ xk_tg := List.mem_filter.mpr ⟨List.mem_of_getElem? (i := 75) (by decide +kernel), rfl⟩
theorem xw_916 : Cond.methodLink RX10 356 yX10_knowingOf ∈ xk_tg := List.mem_filter.mpr ⟨List.mem_of_getElem? (i := 1848) (by decide +kernel), rfl⟩
theorem xw_917 : Cond.code yX10_knowingOf cX10_knowingOf 2 (some .int) ∈ xk_tg := List.mem_filter.mpr ⟨List.mem_of_getElem? (i := 1851) (by decide +kernel), rfl⟩
theorem xw_918 : Cond.instanceMethod yX10_knowingOf ∈ xk_tg := List.mem_filter.mpr ⟨List.mem_of_getElem? (i := 1850) (by decide +kernel), rfl⟩
theorem xw_919 : Cond.selects RX10 yX10_knowingOf yX10_knowingOf ∈ xk_tg := List.mem_filter.mpr ⟨List.mem_of_getElem? (i := 153) (by decide +kernel), rfl⟩
theorem xw_920 : Cond.methodLink RX10 359 yX10_caughtOf ∈ xk_tg := List.mem_filter.mpr ⟨List.mem_of_getElem? (i := 1844) (by decide +kernel), rfl⟩
theorem xw_921 : Cond.code yX10_caughtOf cX10_caughtOf 3 (some .int) ∈ xk_tg := List.mem_filter.mpr ⟨List.mem_of_getElem? (i := 1847) (by decide +kernel), rfl⟩
theorem xw_922 : Cond.instanceMethod yX10_caughtOf ∈ xk_tg := List.mem_filter.mpr ⟨List.mem_of_getElem? (i := 1846) (by decide +kernel), rfl⟩
theorem xw_923 : Cond.selects RX10 yX10_caughtOf yX10_caughtOf ∈ xk_tg := List.mem_filter.mpr ⟨List.mem_of_getElem? (i := 152) (by decide +kernel), rfl⟩
theorem xw_924 : Cond.methodLink RX10 362 yX10_fixedOf ∈ xk_tg := List.mem_filter.mpr ⟨List.mem_of_getElem? (i := 1864) (by decide +kernel), rfl⟩
theorem xw_925 : Cond.code yX10_fixedOf cX10_fixedOf 4 (some .int) ∈ xk_tg := List.mem_filter.mpr ⟨List.mem_of_getElem? (i := 1867) (by decide +kernel), rfl⟩
theorem xw_926 : Cond.instanceMethod yX10_fixedOf ∈ xk_tg := List.mem_filter.mpr ⟨List.mem_of_getElem? (i := 1866) (by decide +kernel), rfl⟩
theorem xw_927 : Cond.selects RX10 yX10_fixedOf yX10_fixedOf ∈ xk_tg := List.mem_filter.mpr ⟨List.mem_of_getElem? (i := 154) (by decide +kernel), rfl⟩
theorem xw_928 : Cond.methodLinkNest RX9 430 yX6_numberAt "LieKitchen" ∈ xk_tb := List.mem_filter.mpr ⟨List.mem_of_getElem? (i := 1073) (by decide +kernel), rfl⟩
theorem xw_929 : Cond.code yX6_numberAt cX6_numberAt 2 (some .long) ∈ xk_tg := List.mem_filter.mpr ⟨List.mem_of_getElem? (i := 1076) (by decide +kernel), rfl⟩
theorem xw_930 : Cond.instanceMethod yX6_numberAt ∈ xk_tg := List.mem_filter.mpr ⟨List.mem_of_getElem? (i := 1075) (by decide +kernel), rfl⟩
theorem xw_931 : Cond.selects RX6 yX6_numberAt yX6_numberAt ∈ xk_tg := List.mem_filter.mpr ⟨List.mem_of_getElem? (i := 78) (by decide +kernel), rfl⟩
theorem xw_932 : Cond.methodLinkNest RX9 379 yX6_isBare "LieKitchen" ∈ xk_tb := List.mem_filter.mpr ⟨List.mem_of_getElem? (i := 1068) (by decide +kernel), rfl⟩
theorem xw_933 : Cond.code yX6_isBare cX6_isBare 1 (some .boolean) ∈ xk_tg := List.mem_filter.mpr ⟨List.mem_of_getElem? (i := 1071) (by decide +kernel), rfl⟩
theorem xw_934 : Cond.instanceMethod yX6_isBare ∈ xk_tg := List.mem_filter.mpr ⟨List.mem_of_getElem? (i := 1070) (by decide +kernel), rfl⟩
theorem xw_935 : Cond.selects RX6 yX6_isBare yX6_isBare ∈ xk_tg := List.mem_filter.mpr ⟨List.mem_of_getElem? (i := 77) (by decide +kernel), rfl⟩
theorem xw_936 : Cond.methodLink RX9 373 yX9_noSlot ∈ xk_tg := List.mem_filter.mpr ⟨List.mem_of_getElem? (i := 1065) (by decide +kernel), rfl⟩
theorem xw_937 : Cond.code yX9_noSlot cX9_noSlot 1 (some .boolean) ∈ xk_tg := List.mem_filter.mpr ⟨List.mem_of_getElem? (i := 1067) (by decide +kernel), rfl⟩
theorem xw_938 : Cond.static yX9_noSlot ∈ xk_tg := List.mem_filter.mpr ⟨List.mem_of_getElem? (i := 1066) (by decide +kernel), rfl⟩
theorem xw_939 : Cond.methodLink RX9 272 yX9_demandAnswer ∈ xk_tg := List.mem_filter.mpr ⟨List.mem_of_getElem? (i := 1077) (by decide +kernel), rfl⟩
theorem xw_940 : Cond.code yX9_demandAnswer cX9_demandAnswer 5 none ∈ xk_tg := List.mem_filter.mpr ⟨List.mem_of_getElem? (i := 1079) (by decide +kernel), rfl⟩
theorem xw_941 : Cond.static yX9_demandAnswer ∈ xk_tg := List.mem_filter.mpr ⟨List.mem_of_getElem? (i := 1078) (by decide +kernel), rfl⟩
theorem xw_942 : Cond.methodLink RX9 265 yX9_answersRefusal ∈ xk_tg := List.mem_filter.mpr ⟨List.mem_of_getElem? (i := 1061) (by decide +kernel), rfl⟩
theorem xw_943 : Cond.code yX9_answersRefusal cX9_answersRefusal 6 (some .int) ∈ xk_tg := List.mem_filter.mpr ⟨List.mem_of_getElem? (i := 1064) (by decide +kernel), rfl⟩
theorem xw_944 : Cond.instanceMethod yX9_answersRefusal ∈ xk_tg := List.mem_filter.mpr ⟨List.mem_of_getElem? (i := 1063) (by decide +kernel), rfl⟩
theorem xw_945 : Cond.selects RX9 yX9_answersRefusal yX9_answersRefusal ∈ xk_tg := List.mem_filter.mpr ⟨List.mem_of_getElem? (i := 76) (by decide +kernel), rfl⟩
theorem xw_946 : Cond.methodLink RX10 68 yX10_isSlot ∈ xk_tg := List.mem_filter.mpr ⟨List.mem_of_getElem? (i := 1426) (by decide +kernel), rfl⟩
theorem xw_947 : Cond.code yX10_isSlot cX10_isSlot 1 (some .boolean) ∈ xk_tg := List.mem_filter.mpr ⟨List.mem_of_getElem? (i := 1428) (by decide +kernel), rfl⟩
theorem xw_948 : Cond.static yX10_isSlot ∈ xk_tg := List.mem_filter.mpr ⟨List.mem_of_getElem? (i := 1427) (by decide +kernel), rfl⟩
theorem xw_949 : Cond.methodLink RX10 368 yX10_laysFits ∈ xk_tg := List.mem_filter.mpr ⟨List.mem_of_getElem? (i := 1876) (by decide +kernel), rfl⟩
theorem xw_950 : Cond.code yX10_laysFits cX10_laysFits 6 none ∈ xk_tg := List.mem_filter.mpr ⟨List.mem_of_getElem? (i := 1879) (by decide +kernel), rfl⟩
theorem xw_951 : Cond.instanceMethod yX10_laysFits ∈ xk_tg := List.mem_filter.mpr ⟨List.mem_of_getElem? (i := 1878) (by decide +kernel), rfl⟩
theorem xw_952 : Cond.selects RX10 yX10_laysFits yX10_laysFits ∈ xk_tg := List.mem_filter.mpr ⟨List.mem_of_getElem? (i := 156) (by decide +kernel), rfl⟩
theorem xw_953 : Cond.methodLink RX10 365 yX10_whyNot ∈ xk_tg := List.mem_filter.mpr ⟨List.mem_of_getElem? (i := 1872) (by decide +kernel), rfl⟩
theorem xw_954 : Cond.code yX10_whyNot cX10_whyNot 3 (some .int) ∈ xk_tg := List.mem_filter.mpr ⟨List.mem_of_getElem? (i := 1875) (by decide +kernel), rfl⟩
theorem xw_955 : Cond.instanceMethod yX10_whyNot ∈ xk_tg := List.mem_filter.mpr ⟨List.mem_of_getElem? (i := 1874) (by decide +kernel), rfl⟩
theorem xw_956 : Cond.selects RX10 yX10_whyNot yX10_whyNot ∈ xk_tg := List.mem_filter.mpr ⟨List.mem_of_getElem? (i := 155) (by decide +kernel), rfl⟩
theorem xw_957 : Cond.methodLink RX9 276 yX9_answered ∈ xk_tg := List.mem_filter.mpr ⟨List.mem_of_getElem? (i := 1084) (by decide +kernel), rfl⟩
theorem xw_958 : Cond.code yX9_answered cX9_answered 5 (some (.object "LieKitchen$Sieve")) ∈ xk_tg := List.mem_filter.mpr ⟨List.mem_of_getElem? (i := 1087) (by decide +kernel), rfl⟩
theorem xw_959 : Cond.instanceMethod yX9_answered ∈ xk_tg := List.mem_filter.mpr ⟨List.mem_of_getElem? (i := 1086) (by decide +kernel), rfl⟩
theorem xw_960 : Cond.selects RX9 yX9_answered yX9_answered ∈ xk_tg := List.mem_filter.mpr ⟨List.mem_of_getElem? (i := 79) (by decide +kernel), rfl⟩
theorem xw_961 : Cond.methodLink RX10 371 yX10_fitsAll ∈ xk_tg := List.mem_filter.mpr ⟨List.mem_of_getElem? (i := 1884) (by decide +kernel), rfl⟩
theorem xw_962 : Cond.code yX10_fitsAll cX10_fitsAll 3 (some .int) ∈ xk_tg := List.mem_filter.mpr ⟨List.mem_of_getElem? (i := 1887) (by decide +kernel), rfl⟩
theorem xw_963 : Cond.instanceMethod yX10_fitsAll ∈ xk_tg := List.mem_filter.mpr ⟨List.mem_of_getElem? (i := 1886) (by decide +kernel), rfl⟩
theorem xw_964 : Cond.selects RX10 yX10_fitsAll yX10_fitsAll ∈ xk_tg := List.mem_filter.mpr ⟨List.mem_of_getElem? (i := 157) (by decide +kernel), rfl⟩
theorem xw_965 : Cond.methodLink RX9 279 yX9_rankedAnswer ∈ xk_tg := List.mem_filter.mpr ⟨List.mem_of_getElem? (i := 1096) (by decide +kernel), rfl⟩
theorem xw_966 : Cond.code yX9_rankedAnswer cX9_rankedAnswer 3 (some .int) ∈ xk_tg := List.mem_filter.mpr ⟨List.mem_of_getElem? (i := 1099) (by decide +kernel), rfl⟩
theorem xw_967 : Cond.instanceMethod yX9_rankedAnswer ∈ xk_tg := List.mem_filter.mpr ⟨List.mem_of_getElem? (i := 1098) (by decide +kernel), rfl⟩
theorem xw_968 : Cond.selects RX9 yX9_rankedAnswer yX9_rankedAnswer ∈ xk_tg := List.mem_filter.mpr ⟨List.mem_of_getElem? (i := 80) (by decide +kernel), rfl⟩
theorem xw_969 : Cond.methodLink RX5 52 yX5_size ∈ xk_tg := List.mem_filter.mpr ⟨List.mem_of_getElem? (i := 1120) (by decide +kernel), rfl⟩
theorem xw_970 : Cond.methodLink RX5 48 yX5_countSo ∈ xk_tg := List.mem_filter.mpr ⟨List.mem_of_getElem? (i := 1116) (by decide +kernel), rfl⟩
theorem xw_971 : Cond.code yX5_countSo cX5_countSo 5 (some .int) ∈ xk_tg := List.mem_filter.mpr ⟨List.mem_of_getElem? (i := 1119) (by decide +kernel), rfl⟩
theorem xw_972 : Cond.instanceMethod yX5_countSo ∈ xk_tg := List.mem_filter.mpr ⟨List.mem_of_getElem? (i := 1118) (by decide +kernel), rfl⟩
theorem xw_973 : Cond.selects RX5 yX5_countSo yX5_countSo ∈ xk_tg := List.mem_filter.mpr ⟨List.mem_of_getElem? (i := 83) (by decide +kernel), rfl⟩
theorem xw_974 : Cond.methodLinkNest RX9 286 yX5_worstOf "LieKitchen" ∈ xk_tb := List.mem_filter.mpr ⟨List.mem_of_getElem? (i := 1112) (by decide +kernel), rfl⟩
theorem xw_975 : Cond.code yX5_worstOf cX5_worstOf 3 (some .int) ∈ xk_tg := List.mem_filter.mpr ⟨List.mem_of_getElem? (i := 1115) (by decide +kernel), rfl⟩
theorem xw_976 : Cond.instanceMethod yX5_worstOf ∈ xk_tg := List.mem_filter.mpr ⟨List.mem_of_getElem? (i := 1114) (by decide +kernel), rfl⟩
theorem xw_977 : Cond.selects RX5 yX5_worstOf yX5_worstOf ∈ xk_tg := List.mem_filter.mpr ⟨List.mem_of_getElem? (i := 82) (by decide +kernel), rfl⟩
theorem xw_978 : Cond.methodLink RX9 282 yX9_bestQuestion ∈ xk_tg := List.mem_filter.mpr ⟨List.mem_of_getElem? (i := 1108) (by decide +kernel), rfl⟩
theorem xw_979 : Cond.code yX9_bestQuestion cX9_bestQuestion 6 (some .int) ∈ xk_tg := List.mem_filter.mpr ⟨List.mem_of_getElem? (i := 1111) (by decide +kernel), rfl⟩
theorem xw_980 : Cond.instanceMethod yX9_bestQuestion ∈ xk_tg := List.mem_filter.mpr ⟨List.mem_of_getElem? (i := 1110) (by decide +kernel), rfl⟩
theorem xw_981 : Cond.selects RX9 yX9_bestQuestion yX9_bestQuestion ∈ xk_tg := List.mem_filter.mpr ⟨List.mem_of_getElem? (i := 81) (by decide +kernel), rfl⟩
theorem xw_982 : Cond.methodLink RX10 377 yX10_asks_ ∈ xk_tg := List.mem_filter.mpr ⟨List.mem_of_getElem? (i := 1904) (by decide +kernel), rfl⟩
theorem xw_983 : Cond.code yX10_asks_ cX10_asks_ 5 (some .int) ∈ xk_tg := List.mem_filter.mpr ⟨List.mem_of_getElem? (i := 1907) (by decide +kernel), rfl⟩
theorem xw_984 : Cond.instanceMethod yX10_asks_ ∈ xk_tg := List.mem_filter.mpr ⟨List.mem_of_getElem? (i := 1906) (by decide +kernel), rfl⟩
theorem xw_985 : Cond.selects RX10 yX10_asks_ yX10_asks_ ∈ xk_tg := List.mem_filter.mpr ⟨List.mem_of_getElem? (i := 158) (by decide +kernel), rfl⟩
theorem xw_986 : Cond.methodLinkNest RX7 31 yX9_withBit "LieKitchen" ∈ xk_tb := List.mem_filter.mpr ⟨List.mem_of_getElem? (i := 1140) (by decide +kernel), rfl⟩
theorem xw_987 : Cond.methodLinkNest RX9 304 yX7_add "LieKitchen" ∈ xk_tb := List.mem_filter.mpr ⟨List.mem_of_getElem? (i := 1136) (by decide +kernel), rfl⟩
theorem xw_988 : Cond.code yX7_add cX7_add 3 none ∈ xk_tg := List.mem_filter.mpr ⟨List.mem_of_getElem? (i := 1139) (by decide +kernel), rfl⟩
theorem xw_989 : Cond.instanceMethod yX7_add ∈ xk_tg := List.mem_filter.mpr ⟨List.mem_of_getElem? (i := 1138) (by decide +kernel), rfl⟩
theorem xw_990 : Cond.selects RX7 yX7_add yX7_add ∈ xk_tg := List.mem_filter.mpr ⟨List.mem_of_getElem? (i := 84) (by decide +kernel), rfl⟩
theorem xw_991 : Cond.methodLink RX10 379 yX10_saidOf ∈ xk_tg := List.mem_filter.mpr ⟨List.mem_of_getElem? (i := 1920) (by decide +kernel), rfl⟩
theorem xw_992 : Cond.code yX10_saidOf cX10_saidOf 3 (some .int) ∈ xk_tg := List.mem_filter.mpr ⟨List.mem_of_getElem? (i := 1923) (by decide +kernel), rfl⟩
theorem xw_993 : Cond.instanceMethod yX10_saidOf ∈ xk_tg := List.mem_filter.mpr ⟨List.mem_of_getElem? (i := 1922) (by decide +kernel), rfl⟩
theorem xw_994 : Cond.selects RX10 yX10_saidOf yX10_saidOf ∈ xk_tg := List.mem_filter.mpr ⟨List.mem_of_getElem? (i := 159) (by decide +kernel), rfl⟩
theorem xw_995 : Cond.methodLinkNest RX9 309 yX7_drop "LieKitchen" ∈ xk_tb := List.mem_filter.mpr ⟨List.mem_of_getElem? (i := 1145) (by decide +kernel), rfl⟩
theorem xw_996 : Cond.code yX7_drop cX7_drop 2 none ∈ xk_tg := List.mem_filter.mpr ⟨List.mem_of_getElem? (i := 1148) (by decide +kernel), rfl⟩
theorem xw_997 : Cond.instanceMethod yX7_drop ∈ xk_tg := List.mem_filter.mpr ⟨List.mem_of_getElem? (i := 1147) (by decide +kernel), rfl⟩
theorem xw_998 : Cond.selects RX7 yX7_drop yX7_drop ∈ xk_tg := List.mem_filter.mpr ⟨List.mem_of_getElem? (i := 85) (by decide +kernel), rfl⟩
theorem xw_999 : Cond.methodLinkNest RX9 312 yX7_clear "LieKitchen" ∈ xk_tb := List.mem_filter.mpr ⟨List.mem_of_getElem? (i := 1153) (by decide +kernel), rfl⟩
theorem xw_1000 : Cond.methodLinkNest RX9 321 yX2_witnessesOf "LieKitchen" ∈ xk_tb := List.mem_filter.mpr ⟨List.mem_of_getElem? (i := 1182) (by decide +kernel), rfl⟩
theorem xw_1001 : Cond.methodLinkNest RX9 327 yX2_knownToAny "LieKitchen" ∈ xk_tb := List.mem_filter.mpr ⟨List.mem_of_getElem? (i := 1195) (by decide +kernel), rfl⟩
theorem xw_1002 : Cond.code yX2_knownToAny cX2_knownToAny 4 (some .int) ∈ xk_tg := List.mem_filter.mpr ⟨List.mem_of_getElem? (i := 1198) (by decide +kernel), rfl⟩
theorem xw_1003 : Cond.instanceMethod yX2_knownToAny ∈ xk_tg := List.mem_filter.mpr ⟨List.mem_of_getElem? (i := 1197) (by decide +kernel), rfl⟩
theorem xw_1004 : Cond.selects RX2 yX2_knownToAny yX2_knownToAny ∈ xk_tg := List.mem_filter.mpr ⟨List.mem_of_getElem? (i := 86) (by decide +kernel), rfl⟩
theorem xw_1005 : Cond.methodLink RX10 384 yX10_isPeople ∈ xk_tg := List.mem_filter.mpr ⟨List.mem_of_getElem? (i := 1973) (by decide +kernel), rfl⟩
theorem xw_1006 : Cond.code yX10_isPeople cX10_isPeople 2 (some .boolean) ∈ xk_tg := List.mem_filter.mpr ⟨List.mem_of_getElem? (i := 1976) (by decide +kernel), rfl⟩
theorem xw_1007 : Cond.instanceMethod yX10_isPeople ∈ xk_tg := List.mem_filter.mpr ⟨List.mem_of_getElem? (i := 1975) (by decide +kernel), rfl⟩
theorem xw_1008 : Cond.selects RX10 yX10_isPeople yX10_isPeople ∈ xk_tg := List.mem_filter.mpr ⟨List.mem_of_getElem? (i := 160) (by decide +kernel), rfl⟩
theorem xw_1009 : Cond.methodLink RX9 330 yX9_mated ∈ xk_tg := List.mem_filter.mpr ⟨List.mem_of_getElem? (i := 1211) (by decide +kernel), rfl⟩
theorem xw_1010 : Cond.code yX9_mated cX9_mated 1 (some .int) ∈ xk_tg := List.mem_filter.mpr ⟨List.mem_of_getElem? (i := 1190) (by decide +kernel), rfl⟩
theorem xw_1011 : Cond.instanceMethod yX9_mated ∈ xk_tg := List.mem_filter.mpr ⟨List.mem_of_getElem? (i := 1188) (by decide +kernel), rfl⟩
theorem xw_1012 : Cond.selects RX9 yX9_mated yX9_mated ∈ xk_tg := List.mem_filter.mpr ⟨List.mem_of_getElem? (i := 1189) (by decide +kernel), rfl⟩
theorem xw_1013 : Cond.methodLink RX3 46 yJ6_numberOfTrailingZeros_0f7a4 ∈ xk_tg := List.mem_filter.mpr ⟨List.mem_of_getElem? (i := 1221) (by decide +kernel), rfl⟩
theorem xw_1014 : Cond.code yJ6_numberOfTrailingZeros_0f7a4 cJ6_numberOfTrailingZeros_0f7a4 2 (some .int) ∈ xk_tg := List.mem_filter.mpr ⟨List.mem_of_getElem? (i := 1223) (by decide +kernel), rfl⟩
theorem xw_1015 : Cond.static yJ6_numberOfTrailingZeros_0f7a4 ∈ xk_tg := List.mem_filter.mpr ⟨List.mem_of_getElem? (i := 1222) (by decide +kernel), rfl⟩
theorem xw_1016 : Cond.methodLinkNest RX3 36 yX2_firstBroken "LieKitchen" ∈ xk_tb := List.mem_filter.mpr ⟨List.mem_of_getElem? (i := 1220) (by decide +kernel), rfl⟩
theorem xw_1017 : Cond.methodLink RX9 340 yX9_holds ∈ xk_tg := List.mem_filter.mpr ⟨List.mem_of_getElem? (i := 1225) (by decide +kernel), rfl⟩
theorem xw_1018 : Cond.code yX9_holds cX9_holds 2 (some .int) ∈ xk_tg := List.mem_filter.mpr ⟨List.mem_of_getElem? (i := 766) (by decide +kernel), rfl⟩
theorem xw_1019 : Cond.instanceMethod yX9_holds ∈ xk_tg := List.mem_filter.mpr ⟨List.mem_of_getElem? (i := 764) (by decide +kernel), rfl⟩
theorem xw_1020 : Cond.selects RX9 yX9_holds yX9_holds ∈ xk_tg := List.mem_filter.mpr ⟨List.mem_of_getElem? (i := 765) (by decide +kernel), rfl⟩
theorem xw_1021 : Cond.methodLinkNest RX9 333 yX3_mend "LieKitchen" ∈ xk_tb := List.mem_filter.mpr ⟨List.mem_of_getElem? (i := 1216) (by decide +kernel), rfl⟩
theorem xw_1022 : Cond.code yX3_mend cX3_mend 7 none ∈ xk_tg := List.mem_filter.mpr ⟨List.mem_of_getElem? (i := 1219) (by decide +kernel), rfl⟩
theorem xw_1023 : Cond.instanceMethod yX3_mend ∈ xk_tg := List.mem_filter.mpr ⟨List.mem_of_getElem? (i := 1218) (by decide +kernel), rfl⟩
theorem xw_1024 : Cond.selects RX3 yX3_mend yX3_mend ∈ xk_tg := List.mem_filter.mpr ⟨List.mem_of_getElem? (i := 87) (by decide +kernel), rfl⟩
theorem xw_1025 : Cond.methodLink RX10 393 yX10_laysNaive ∈ xk_tg := List.mem_filter.mpr ⟨List.mem_of_getElem? (i := 1993) (by decide +kernel), rfl⟩
theorem xw_1026 : Cond.code yX10_laysNaive cX10_laysNaive 6 none ∈ xk_tg := List.mem_filter.mpr ⟨List.mem_of_getElem? (i := 1996) (by decide +kernel), rfl⟩
theorem xw_1027 : Cond.instanceMethod yX10_laysNaive ∈ xk_tg := List.mem_filter.mpr ⟨List.mem_of_getElem? (i := 1995) (by decide +kernel), rfl⟩
theorem xw_1028 : Cond.selects RX10 yX10_laysNaive yX10_laysNaive ∈ xk_tg := List.mem_filter.mpr ⟨List.mem_of_getElem? (i := 161) (by decide +kernel), rfl⟩
theorem xw_1029 : Cond.methodLink RX0 41 yX0_comeOut ∈ xk_tg := List.mem_filter.mpr ⟨List.mem_of_getElem? (i := 1252) (by decide +kernel), rfl⟩
theorem xw_1030 : Cond.code yX0_comeOut cX0_comeOut 3 none ∈ xk_tg := List.mem_filter.mpr ⟨List.mem_of_getElem? (i := 1255) (by decide +kernel), rfl⟩
theorem xw_1031 : Cond.instanceMethod yX0_comeOut ∈ xk_tg := List.mem_filter.mpr ⟨List.mem_of_getElem? (i := 1254) (by decide +kernel), rfl⟩
theorem xw_1032 : Cond.selects RX0 yX0_comeOut yX0_comeOut ∈ xk_tg := List.mem_filter.mpr ⟨List.mem_of_getElem? (i := 91) (by decide +kernel), rfl⟩
theorem xw_1033 : Cond.methodLink RX0 33 yX0_draw ∈ xk_tg := List.mem_filter.mpr ⟨List.mem_of_getElem? (i := 1243) (by decide +kernel), rfl⟩
theorem xw_1034 : Cond.code yX0_draw cX0_draw 1 (some .int) ∈ xk_tg := List.mem_filter.mpr ⟨List.mem_of_getElem? (i := 1246) (by decide +kernel), rfl⟩
theorem xw_1035 : Cond.instanceMethod yX0_draw ∈ xk_tg := List.mem_filter.mpr ⟨List.mem_of_getElem? (i := 1245) (by decide +kernel), rfl⟩
theorem xw_1036 : Cond.selects RX0 yX0_draw yX0_draw ∈ xk_tg := List.mem_filter.mpr ⟨List.mem_of_getElem? (i := 90) (by decide +kernel), rfl⟩
theorem xw_1037 : Cond.methodLinkNest RX9 350 yX0_pass "LieKitchen" ∈ xk_tb := List.mem_filter.mpr ⟨List.mem_of_getElem? (i := 1239) (by decide +kernel), rfl⟩
theorem xw_1038 : Cond.code yX0_pass cX0_pass 8 none ∈ xk_tg := List.mem_filter.mpr ⟨List.mem_of_getElem? (i := 1242) (by decide +kernel), rfl⟩
theorem xw_1039 : Cond.instanceMethod yX0_pass ∈ xk_tg := List.mem_filter.mpr ⟨List.mem_of_getElem? (i := 1241) (by decide +kernel), rfl⟩
theorem xw_1040 : Cond.selects RX0 yX0_pass yX0_pass ∈ xk_tg := List.mem_filter.mpr ⟨List.mem_of_getElem? (i := 89) (by decide +kernel), rfl⟩
theorem xw_1041 : Cond.methodLink RX9 346 yX9_noEvening ∈ xk_tg := List.mem_filter.mpr ⟨List.mem_of_getElem? (i := 1234) (by decide +kernel), rfl⟩
theorem xw_1042 : Cond.code yX9_noEvening cX9_noEvening 4 (some .boolean) ∈ xk_tg := List.mem_filter.mpr ⟨List.mem_of_getElem? (i := 1237) (by decide +kernel), rfl⟩
theorem xw_1043 : Cond.instanceMethod yX9_noEvening ∈ xk_tg := List.mem_filter.mpr ⟨List.mem_of_getElem? (i := 1236) (by decide +kernel), rfl⟩
theorem xw_1044 : Cond.selects RX9 yX9_noEvening yX9_noEvening ∈ xk_tg := List.mem_filter.mpr ⟨List.mem_of_getElem? (i := 88) (by decide +kernel), rfl⟩
theorem xw_1045 : Cond.methodLink RX10 420 yX10_draws ∈ xk_tg := List.mem_filter.mpr ⟨List.mem_of_getElem? (i := 2011) (by decide +kernel), rfl⟩
theorem xw_1046 : Cond.code yX10_draws cX10_draws 10 none ∈ xk_tg := List.mem_filter.mpr ⟨List.mem_of_getElem? (i := 2014) (by decide +kernel), rfl⟩
theorem xw_1047 : Cond.instanceMethod yX10_draws ∈ xk_tg := List.mem_filter.mpr ⟨List.mem_of_getElem? (i := 2013) (by decide +kernel), rfl⟩
theorem xw_1048 : Cond.selects RX10 yX10_draws yX10_draws ∈ xk_tg := List.mem_filter.mpr ⟨List.mem_of_getElem? (i := 163) (by decide +kernel), rfl⟩
theorem xw_1049 : Cond.methodLink RX10 417 yX10_isDraw ∈ xk_tg := List.mem_filter.mpr ⟨List.mem_of_getElem? (i := 2005) (by decide +kernel), rfl⟩
theorem xw_1050 : Cond.code yX10_isDraw cX10_isDraw 4 (some .boolean) ∈ xk_tg := List.mem_filter.mpr ⟨List.mem_of_getElem? (i := 2008) (by decide +kernel), rfl⟩
theorem xw_1051 : Cond.instanceMethod yX10_isDraw ∈ xk_tg := List.mem_filter.mpr ⟨List.mem_of_getElem? (i := 2007) (by decide +kernel), rfl⟩
theorem xw_1052 : Cond.selects RX10 yX10_isDraw yX10_isDraw ∈ xk_tg := List.mem_filter.mpr ⟨List.mem_of_getElem? (i := 162) (by decide +kernel), rfl⟩
theorem xw_1053 : Cond.methodLink RX9 363 yX9_withBit ∈ xk_tg := List.mem_filter.mpr ⟨List.mem_of_getElem? (i := 1264) (by decide +kernel), rfl⟩
theorem xw_1054 : Cond.methodLinkNest RX9 367 yX2_want "LieKitchen" ∈ xk_tb := List.mem_filter.mpr ⟨List.mem_of_getElem? (i := 1269) (by decide +kernel), rfl⟩
theorem xw_1055 : Cond.methodLink RX9 370 yX9_countRows ∈ xk_tg := List.mem_filter.mpr ⟨List.mem_of_getElem? (i := 1278) (by decide +kernel), rfl⟩
theorem xw_1056 : Cond.code yX9_countRows cX9_countRows 3 (some .int) ∈ xk_tg := List.mem_filter.mpr ⟨List.mem_of_getElem? (i := 1281) (by decide +kernel), rfl⟩
theorem xw_1057 : Cond.instanceMethod yX9_countRows ∈ xk_tg := List.mem_filter.mpr ⟨List.mem_of_getElem? (i := 1280) (by decide +kernel), rfl⟩
theorem xw_1058 : Cond.selects RX9 yX9_countRows yX9_countRows ∈ xk_tg := List.mem_filter.mpr ⟨List.mem_of_getElem? (i := 92) (by decide +kernel), rfl⟩
theorem xw_1059 : Cond.methodLink RX6 22 yJ7_fill_d0a16 ∈ xk_tg := List.mem_filter.mpr ⟨List.mem_of_getElem? (i := 1298) (by decide +kernel), rfl⟩
theorem xw_1060 : Cond.methodLinkNest RX9 376 yX6_lay "LieKitchen" ∈ xk_tb := List.mem_filter.mpr ⟨List.mem_of_getElem? (i := 1294) (by decide +kernel), rfl⟩
theorem xw_1061 : Cond.code yX6_lay cX6_lay 3 none ∈ xk_tg := List.mem_filter.mpr ⟨List.mem_of_getElem? (i := 1297) (by decide +kernel), rfl⟩
theorem xw_1062 : Cond.instanceMethod yX6_lay ∈ xk_tg := List.mem_filter.mpr ⟨List.mem_of_getElem? (i := 1296) (by decide +kernel), rfl⟩
theorem xw_1063 : Cond.selects RX6 yX6_lay yX6_lay ∈ xk_tg := List.mem_filter.mpr ⟨List.mem_of_getElem? (i := 93) (by decide +kernel), rfl⟩
theorem xw_1064 : Cond.methodLinkNest RX9 382 yX6_put "LieKitchen" ∈ xk_tb := List.mem_filter.mpr ⟨List.mem_of_getElem? (i := 1303) (by decide +kernel), rfl⟩
theorem xw_1065 : Cond.code yX6_put cX6_put 4 none ∈ xk_tg := List.mem_filter.mpr ⟨List.mem_of_getElem? (i := 1306) (by decide +kernel), rfl⟩
theorem xw_1066 : Cond.instanceMethod yX6_put ∈ xk_tg := List.mem_filter.mpr ⟨List.mem_of_getElem? (i := 1305) (by decide +kernel), rfl⟩
theorem xw_1067 : Cond.selects RX6 yX6_put yX6_put ∈ xk_tg := List.mem_filter.mpr ⟨List.mem_of_getElem? (i := 94) (by decide +kernel), rfl⟩
theorem xw_1068 : Cond.methodLink RX10 72 yX10_cut ∈ xk_tg := List.mem_filter.mpr ⟨List.mem_of_getElem? (i := 1437) (by decide +kernel), rfl⟩
theorem xw_1069 : Cond.code yX10_cut cX10_cut 3 (some .long) ∈ xk_tg := List.mem_filter.mpr ⟨List.mem_of_getElem? (i := 1439) (by decide +kernel), rfl⟩
theorem xw_1070 : Cond.static yX10_cut ∈ xk_tg := List.mem_filter.mpr ⟨List.mem_of_getElem? (i := 1438) (by decide +kernel), rfl⟩
theorem xw_1071 : Cond.methodLinkNest RX9 389 yX6_lacks "LieKitchen" ∈ xk_tb := List.mem_filter.mpr ⟨List.mem_of_getElem? (i := 1311) (by decide +kernel), rfl⟩
theorem xw_1072 : Cond.code yX6_lacks cX6_lacks 3 (some .boolean) ∈ xk_tg := List.mem_filter.mpr ⟨List.mem_of_getElem? (i := 1314) (by decide +kernel), rfl⟩
theorem xw_1073 : Cond.instanceMethod yX6_lacks ∈ xk_tg := List.mem_filter.mpr ⟨List.mem_of_getElem? (i := 1313) (by decide +kernel), rfl⟩
theorem xw_1074 : Cond.selects RX6 yX6_lacks yX6_lacks ∈ xk_tg := List.mem_filter.mpr ⟨List.mem_of_getElem? (i := 95) (by decide +kernel), rfl⟩
theorem xw_1075 : Cond.methodLink RL 17 yX10_feed ∈ xk_tg := List.mem_filter.mpr ⟨List.mem_of_getElem? (i := 1444) (by decide +kernel), rfl⟩
theorem xw_1076 : Cond.code yX10_feed cX10_feed 6 (some .int) ∈ xk_tg := List.mem_filter.mpr ⟨List.mem_of_getElem? (i := 1447) (by decide +kernel), rfl⟩
theorem xw_1077 : Cond.instanceMethod yX10_feed ∈ xk_tg := List.mem_filter.mpr ⟨List.mem_of_getElem? (i := 1445) (by decide +kernel), rfl⟩
theorem xw_1078 : Cond.selects RX10 yX10_feed yX10_feed ∈ xk_tg := List.mem_filter.mpr ⟨List.mem_of_getElem? (i := 1446) (by decide +kernel), rfl⟩
theorem xw_1079 : Cond.methodLink RL 13 yX9_feed ∈ xk_tg := List.mem_filter.mpr ⟨List.mem_of_getElem? (i := 472) (by decide +kernel), rfl⟩
theorem xw_1080 : Cond.code yX9_feed cX9_feed 6 (some .int) ∈ xk_tg := List.mem_filter.mpr ⟨List.mem_of_getElem? (i := 475) (by decide +kernel), rfl⟩
theorem xw_1081 : Cond.instanceMethod yX9_feed ∈ xk_tg := List.mem_filter.mpr ⟨List.mem_of_getElem? (i := 473) (by decide +kernel), rfl⟩
theorem xw_1082 : Cond.selects RX9 yX9_feed yX9_feed ∈ xk_tg := List.mem_filter.mpr ⟨List.mem_of_getElem? (i := 474) (by decide +kernel), rfl⟩
theorem xw_1083 : Cond.methodLink RL 22 yX10_end ∈ xk_tg := List.mem_filter.mpr ⟨List.mem_of_getElem? (i := 1452) (by decide +kernel), rfl⟩
theorem xw_1084 : Cond.code yX10_end cX10_end 2 (some .int) ∈ xk_tg := List.mem_filter.mpr ⟨List.mem_of_getElem? (i := 1455) (by decide +kernel), rfl⟩
theorem xw_1085 : Cond.instanceMethod yX10_end ∈ xk_tg := List.mem_filter.mpr ⟨List.mem_of_getElem? (i := 1453) (by decide +kernel), rfl⟩
theorem xw_1086 : Cond.selects RX10 yX10_end yX10_end ∈ xk_tg := List.mem_filter.mpr ⟨List.mem_of_getElem? (i := 1454) (by decide +kernel), rfl⟩
theorem xw_1087 : Cond.methodLink RL 18 yX9_end ∈ xk_tg := List.mem_filter.mpr ⟨List.mem_of_getElem? (i := 480) (by decide +kernel), rfl⟩
theorem xw_1088 : Cond.code yX9_end cX9_end 2 (some .int) ∈ xk_tg := List.mem_filter.mpr ⟨List.mem_of_getElem? (i := 483) (by decide +kernel), rfl⟩
theorem xw_1089 : Cond.instanceMethod yX9_end ∈ xk_tg := List.mem_filter.mpr ⟨List.mem_of_getElem? (i := 481) (by decide +kernel), rfl⟩
theorem xw_1090 : Cond.selects RX9 yX9_end yX9_end ∈ xk_tg := List.mem_filter.mpr ⟨List.mem_of_getElem? (i := 482) (by decide +kernel), rfl⟩
theorem xw_1091 : Cond.methodLink RL 27 yX10_kitchen ∈ xk_tg := List.mem_filter.mpr ⟨List.mem_of_getElem? (i := 1460) (by decide +kernel), rfl⟩
theorem xw_1092 : Cond.code yX10_kitchen cX10_kitchen 1 (some .int) ∈ xk_tg := List.mem_filter.mpr ⟨List.mem_of_getElem? (i := 1463) (by decide +kernel), rfl⟩
theorem xw_1093 : Cond.instanceMethod yX10_kitchen ∈ xk_tg := List.mem_filter.mpr ⟨List.mem_of_getElem? (i := 1461) (by decide +kernel), rfl⟩
theorem xw_1094 : Cond.selects RX10 yX10_kitchen yX10_kitchen ∈ xk_tg := List.mem_filter.mpr ⟨List.mem_of_getElem? (i := 1462) (by decide +kernel), rfl⟩
theorem xw_1095 : Cond.methodLink RL 23 yX9_kitchen ∈ xk_tg := List.mem_filter.mpr ⟨List.mem_of_getElem? (i := 484) (by decide +kernel), rfl⟩
theorem xw_1096 : Cond.code yX9_kitchen cX9_kitchen 2 (some .int) ∈ xk_tg := List.mem_filter.mpr ⟨List.mem_of_getElem? (i := 487) (by decide +kernel), rfl⟩
theorem xw_1097 : Cond.instanceMethod yX9_kitchen ∈ xk_tg := List.mem_filter.mpr ⟨List.mem_of_getElem? (i := 485) (by decide +kernel), rfl⟩
theorem xw_1098 : Cond.selects RX9 yX9_kitchen yX9_kitchen ∈ xk_tg := List.mem_filter.mpr ⟨List.mem_of_getElem? (i := 486) (by decide +kernel), rfl⟩
theorem xw_1099 : Cond.methodLink RL 31 yX10_fault ∈ xk_tg := List.mem_filter.mpr ⟨List.mem_of_getElem? (i := 1456) (by decide +kernel), rfl⟩
theorem xw_1100 : Cond.code yX10_fault cX10_fault 2 (some .int) ∈ xk_tg := List.mem_filter.mpr ⟨List.mem_of_getElem? (i := 1459) (by decide +kernel), rfl⟩
theorem xw_1101 : Cond.instanceMethod yX10_fault ∈ xk_tg := List.mem_filter.mpr ⟨List.mem_of_getElem? (i := 1457) (by decide +kernel), rfl⟩
theorem xw_1102 : Cond.selects RX10 yX10_fault yX10_fault ∈ xk_tg := List.mem_filter.mpr ⟨List.mem_of_getElem? (i := 1458) (by decide +kernel), rfl⟩
theorem xw_1103 : Cond.methodLink RL 28 yX9_fault ∈ xk_tg := List.mem_filter.mpr ⟨List.mem_of_getElem? (i := 707) (by decide +kernel), rfl⟩
theorem xw_1104 : Cond.code yX9_fault cX9_fault 2 (some .int) ∈ xk_tg := List.mem_filter.mpr ⟨List.mem_of_getElem? (i := 710) (by decide +kernel), rfl⟩
theorem xw_1105 : Cond.instanceMethod yX9_fault ∈ xk_tg := List.mem_filter.mpr ⟨List.mem_of_getElem? (i := 708) (by decide +kernel), rfl⟩
theorem xw_1106 : Cond.selects RX9 yX9_fault yX9_fault ∈ xk_tg := List.mem_filter.mpr ⟨List.mem_of_getElem? (i := 709) (by decide +kernel), rfl⟩
theorem xw_1107 : Cond.methodLink RL 36 yX10_claim ∈ xk_tg := List.mem_filter.mpr ⟨List.mem_of_getElem? (i := 1591) (by decide +kernel), rfl⟩
theorem xw_1108 : Cond.code yX10_claim cX10_claim 3 (some .int) ∈ xk_tg := List.mem_filter.mpr ⟨List.mem_of_getElem? (i := 1594) (by decide +kernel), rfl⟩
theorem xw_1109 : Cond.instanceMethod yX10_claim ∈ xk_tg := List.mem_filter.mpr ⟨List.mem_of_getElem? (i := 1592) (by decide +kernel), rfl⟩
theorem xw_1110 : Cond.selects RX10 yX10_claim yX10_claim ∈ xk_tg := List.mem_filter.mpr ⟨List.mem_of_getElem? (i := 1593) (by decide +kernel), rfl⟩
theorem xw_1111 : Cond.methodLink RL 32 yX9_claim ∈ xk_tg := List.mem_filter.mpr ⟨List.mem_of_getElem? (i := 711) (by decide +kernel), rfl⟩
theorem xw_1112 : Cond.code yX9_claim cX9_claim 3 (some .int) ∈ xk_tg := List.mem_filter.mpr ⟨List.mem_of_getElem? (i := 714) (by decide +kernel), rfl⟩
theorem xw_1113 : Cond.instanceMethod yX9_claim ∈ xk_tg := List.mem_filter.mpr ⟨List.mem_of_getElem? (i := 712) (by decide +kernel), rfl⟩
theorem xw_1114 : Cond.selects RX9 yX9_claim yX9_claim ∈ xk_tg := List.mem_filter.mpr ⟨List.mem_of_getElem? (i := 713) (by decide +kernel), rfl⟩
theorem xw_1115 : Cond.methodLink RL 40 yX10_law ∈ xk_tg := List.mem_filter.mpr ⟨List.mem_of_getElem? (i := 1608) (by decide +kernel), rfl⟩
theorem xw_1116 : Cond.code yX10_law cX10_law 3 (some .int) ∈ xk_tg := List.mem_filter.mpr ⟨List.mem_of_getElem? (i := 1611) (by decide +kernel), rfl⟩
theorem xw_1117 : Cond.instanceMethod yX10_law ∈ xk_tg := List.mem_filter.mpr ⟨List.mem_of_getElem? (i := 1609) (by decide +kernel), rfl⟩
theorem xw_1118 : Cond.selects RX10 yX10_law yX10_law ∈ xk_tg := List.mem_filter.mpr ⟨List.mem_of_getElem? (i := 1610) (by decide +kernel), rfl⟩
theorem xw_1119 : Cond.methodLink RL 37 yX9_law ∈ xk_tg := List.mem_filter.mpr ⟨List.mem_of_getElem? (i := 723) (by decide +kernel), rfl⟩
theorem xw_1120 : Cond.code yX9_law cX9_law 3 (some .int) ∈ xk_tg := List.mem_filter.mpr ⟨List.mem_of_getElem? (i := 726) (by decide +kernel), rfl⟩
theorem xw_1121 : Cond.instanceMethod yX9_law ∈ xk_tg := List.mem_filter.mpr ⟨List.mem_of_getElem? (i := 724) (by decide +kernel), rfl⟩
theorem xw_1122 : Cond.selects RX9 yX9_law yX9_law ∈ xk_tg := List.mem_filter.mpr ⟨List.mem_of_getElem? (i := 725) (by decide +kernel), rfl⟩
theorem xw_1123 : Cond.methodLink RL 44 yX10_person ∈ xk_tg := List.mem_filter.mpr ⟨List.mem_of_getElem? (i := 1612) (by decide +kernel), rfl⟩
theorem xw_1124 : Cond.code yX10_person cX10_person 3 (some .int) ∈ xk_tg := List.mem_filter.mpr ⟨List.mem_of_getElem? (i := 1615) (by decide +kernel), rfl⟩
theorem xw_1125 : Cond.instanceMethod yX10_person ∈ xk_tg := List.mem_filter.mpr ⟨List.mem_of_getElem? (i := 1613) (by decide +kernel), rfl⟩
theorem xw_1126 : Cond.selects RX10 yX10_person yX10_person ∈ xk_tg := List.mem_filter.mpr ⟨List.mem_of_getElem? (i := 1614) (by decide +kernel), rfl⟩
theorem xw_1127 : Cond.methodLink RL 41 yX9_person ∈ xk_tg := List.mem_filter.mpr ⟨List.mem_of_getElem? (i := 730) (by decide +kernel), rfl⟩
theorem xw_1128 : Cond.code yX9_person cX9_person 3 (some .int) ∈ xk_tg := List.mem_filter.mpr ⟨List.mem_of_getElem? (i := 733) (by decide +kernel), rfl⟩
theorem xw_1129 : Cond.instanceMethod yX9_person ∈ xk_tg := List.mem_filter.mpr ⟨List.mem_of_getElem? (i := 731) (by decide +kernel), rfl⟩
theorem xw_1130 : Cond.selects RX9 yX9_person yX9_person ∈ xk_tg := List.mem_filter.mpr ⟨List.mem_of_getElem? (i := 732) (by decide +kernel), rfl⟩
theorem xw_1131 : Cond.methodLink RL 48 yX10_truth ∈ xk_tg := List.mem_filter.mpr ⟨List.mem_of_getElem? (i := 1616) (by decide +kernel), rfl⟩
theorem xw_1132 : Cond.code yX10_truth cX10_truth 1 (some .int) ∈ xk_tg := List.mem_filter.mpr ⟨List.mem_of_getElem? (i := 1619) (by decide +kernel), rfl⟩
theorem xw_1133 : Cond.instanceMethod yX10_truth ∈ xk_tg := List.mem_filter.mpr ⟨List.mem_of_getElem? (i := 1617) (by decide +kernel), rfl⟩
theorem xw_1134 : Cond.selects RX10 yX10_truth yX10_truth ∈ xk_tg := List.mem_filter.mpr ⟨List.mem_of_getElem? (i := 1618) (by decide +kernel), rfl⟩
theorem xw_1135 : Cond.methodLink RL 45 yX9_truth ∈ xk_tg := List.mem_filter.mpr ⟨List.mem_of_getElem? (i := 738) (by decide +kernel), rfl⟩
theorem xw_1136 : Cond.code yX9_truth cX9_truth 1 (some .int) ∈ xk_tg := List.mem_filter.mpr ⟨List.mem_of_getElem? (i := 741) (by decide +kernel), rfl⟩
theorem xw_1137 : Cond.instanceMethod yX9_truth ∈ xk_tg := List.mem_filter.mpr ⟨List.mem_of_getElem? (i := 739) (by decide +kernel), rfl⟩
theorem xw_1138 : Cond.selects RX9 yX9_truth yX9_truth ∈ xk_tg := List.mem_filter.mpr ⟨List.mem_of_getElem? (i := 740) (by decide +kernel), rfl⟩
theorem xw_1139 : Cond.methodLink RL 52 yX10_breaks ∈ xk_tg := List.mem_filter.mpr ⟨List.mem_of_getElem? (i := 1624) (by decide +kernel), rfl⟩
theorem xw_1140 : Cond.code yX10_breaks cX10_breaks 2 (some .int) ∈ xk_tg := List.mem_filter.mpr ⟨List.mem_of_getElem? (i := 1627) (by decide +kernel), rfl⟩
theorem xw_1141 : Cond.instanceMethod yX10_breaks ∈ xk_tg := List.mem_filter.mpr ⟨List.mem_of_getElem? (i := 1625) (by decide +kernel), rfl⟩
theorem xw_1142 : Cond.selects RX10 yX10_breaks yX10_breaks ∈ xk_tg := List.mem_filter.mpr ⟨List.mem_of_getElem? (i := 1626) (by decide +kernel), rfl⟩
theorem xw_1143 : Cond.methodLink RL 49 yX9_breaks ∈ xk_tg := List.mem_filter.mpr ⟨List.mem_of_getElem? (i := 746) (by decide +kernel), rfl⟩
theorem xw_1144 : Cond.code yX9_breaks cX9_breaks 2 (some .int) ∈ xk_tg := List.mem_filter.mpr ⟨List.mem_of_getElem? (i := 749) (by decide +kernel), rfl⟩
theorem xw_1145 : Cond.instanceMethod yX9_breaks ∈ xk_tg := List.mem_filter.mpr ⟨List.mem_of_getElem? (i := 747) (by decide +kernel), rfl⟩
theorem xw_1146 : Cond.selects RX9 yX9_breaks yX9_breaks ∈ xk_tg := List.mem_filter.mpr ⟨List.mem_of_getElem? (i := 748) (by decide +kernel), rfl⟩
theorem xw_1147 : Cond.methodLink RL 56 yX10_broken ∈ xk_tg := List.mem_filter.mpr ⟨List.mem_of_getElem? (i := 1644) (by decide +kernel), rfl⟩
theorem xw_1148 : Cond.code yX10_broken cX10_broken 4 (some .int) ∈ xk_tg := List.mem_filter.mpr ⟨List.mem_of_getElem? (i := 1647) (by decide +kernel), rfl⟩
theorem xw_1149 : Cond.instanceMethod yX10_broken ∈ xk_tg := List.mem_filter.mpr ⟨List.mem_of_getElem? (i := 1645) (by decide +kernel), rfl⟩
theorem xw_1150 : Cond.selects RX10 yX10_broken yX10_broken ∈ xk_tg := List.mem_filter.mpr ⟨List.mem_of_getElem? (i := 1646) (by decide +kernel), rfl⟩
theorem xw_1151 : Cond.methodLink RL 53 yX9_broken ∈ xk_tg := List.mem_filter.mpr ⟨List.mem_of_getElem? (i := 755) (by decide +kernel), rfl⟩
theorem xw_1152 : Cond.code yX9_broken cX9_broken 2 (some .int) ∈ xk_tg := List.mem_filter.mpr ⟨List.mem_of_getElem? (i := 758) (by decide +kernel), rfl⟩
theorem xw_1153 : Cond.instanceMethod yX9_broken ∈ xk_tg := List.mem_filter.mpr ⟨List.mem_of_getElem? (i := 756) (by decide +kernel), rfl⟩
theorem xw_1154 : Cond.selects RX9 yX9_broken yX9_broken ∈ xk_tg := List.mem_filter.mpr ⟨List.mem_of_getElem? (i := 757) (by decide +kernel), rfl⟩
theorem xw_1155 : Cond.methodLink RL 60 yX10_holds ∈ xk_tg := List.mem_filter.mpr ⟨List.mem_of_getElem? (i := 1648) (by decide +kernel), rfl⟩
theorem xw_1156 : Cond.code yX10_holds cX10_holds 2 (some .int) ∈ xk_tg := List.mem_filter.mpr ⟨List.mem_of_getElem? (i := 1651) (by decide +kernel), rfl⟩
theorem xw_1157 : Cond.instanceMethod yX10_holds ∈ xk_tg := List.mem_filter.mpr ⟨List.mem_of_getElem? (i := 1649) (by decide +kernel), rfl⟩
theorem xw_1158 : Cond.selects RX10 yX10_holds yX10_holds ∈ xk_tg := List.mem_filter.mpr ⟨List.mem_of_getElem? (i := 1650) (by decide +kernel), rfl⟩
theorem xw_1159 : Cond.methodLink RL 57 yX9_holds ∈ xk_tg := List.mem_filter.mpr ⟨List.mem_of_getElem? (i := 763) (by decide +kernel), rfl⟩
theorem xw_1160 : Cond.methodLink RL 64 yX10_untrue ∈ xk_tg := List.mem_filter.mpr ⟨List.mem_of_getElem? (i := 1672) (by decide +kernel), rfl⟩
theorem xw_1161 : Cond.code yX10_untrue cX10_untrue 2 (some .int) ∈ xk_tg := List.mem_filter.mpr ⟨List.mem_of_getElem? (i := 1675) (by decide +kernel), rfl⟩
theorem xw_1162 : Cond.instanceMethod yX10_untrue ∈ xk_tg := List.mem_filter.mpr ⟨List.mem_of_getElem? (i := 1673) (by decide +kernel), rfl⟩
theorem xw_1163 : Cond.selects RX10 yX10_untrue yX10_untrue ∈ xk_tg := List.mem_filter.mpr ⟨List.mem_of_getElem? (i := 1674) (by decide +kernel), rfl⟩
theorem xw_1164 : Cond.methodLink RL 61 yX9_untrue ∈ xk_tg := List.mem_filter.mpr ⟨List.mem_of_getElem? (i := 791) (by decide +kernel), rfl⟩
theorem xw_1165 : Cond.code yX9_untrue cX9_untrue 2 (some .int) ∈ xk_tg := List.mem_filter.mpr ⟨List.mem_of_getElem? (i := 794) (by decide +kernel), rfl⟩
theorem xw_1166 : Cond.instanceMethod yX9_untrue ∈ xk_tg := List.mem_filter.mpr ⟨List.mem_of_getElem? (i := 792) (by decide +kernel), rfl⟩
theorem xw_1167 : Cond.selects RX9 yX9_untrue yX9_untrue ∈ xk_tg := List.mem_filter.mpr ⟨List.mem_of_getElem? (i := 793) (by decide +kernel), rfl⟩
theorem xw_1168 : Cond.methodLink RL 68 yX10_costs ∈ xk_tg := List.mem_filter.mpr ⟨List.mem_of_getElem? (i := 1676) (by decide +kernel), rfl⟩
theorem xw_1169 : Cond.code yX10_costs cX10_costs 2 (some .int) ∈ xk_tg := List.mem_filter.mpr ⟨List.mem_of_getElem? (i := 1679) (by decide +kernel), rfl⟩
theorem xw_1170 : Cond.instanceMethod yX10_costs ∈ xk_tg := List.mem_filter.mpr ⟨List.mem_of_getElem? (i := 1677) (by decide +kernel), rfl⟩
theorem xw_1171 : Cond.selects RX10 yX10_costs yX10_costs ∈ xk_tg := List.mem_filter.mpr ⟨List.mem_of_getElem? (i := 1678) (by decide +kernel), rfl⟩
theorem xw_1172 : Cond.methodLink RL 65 yX9_costs ∈ xk_tg := List.mem_filter.mpr ⟨List.mem_of_getElem? (i := 795) (by decide +kernel), rfl⟩
theorem xw_1173 : Cond.code yX9_costs cX9_costs 2 (some .int) ∈ xk_tg := List.mem_filter.mpr ⟨List.mem_of_getElem? (i := 798) (by decide +kernel), rfl⟩
theorem xw_1174 : Cond.instanceMethod yX9_costs ∈ xk_tg := List.mem_filter.mpr ⟨List.mem_of_getElem? (i := 796) (by decide +kernel), rfl⟩
theorem xw_1175 : Cond.selects RX9 yX9_costs yX9_costs ∈ xk_tg := List.mem_filter.mpr ⟨List.mem_of_getElem? (i := 797) (by decide +kernel), rfl⟩
theorem xw_1176 : Cond.methodLink RL 72 yX10_stories ∈ xk_tg := List.mem_filter.mpr ⟨List.mem_of_getElem? (i := 1684) (by decide +kernel), rfl⟩
theorem xw_1177 : Cond.code yX10_stories cX10_stories 1 (some .int) ∈ xk_tg := List.mem_filter.mpr ⟨List.mem_of_getElem? (i := 1687) (by decide +kernel), rfl⟩
theorem xw_1178 : Cond.instanceMethod yX10_stories ∈ xk_tg := List.mem_filter.mpr ⟨List.mem_of_getElem? (i := 1685) (by decide +kernel), rfl⟩
theorem xw_1179 : Cond.selects RX10 yX10_stories yX10_stories ∈ xk_tg := List.mem_filter.mpr ⟨List.mem_of_getElem? (i := 1686) (by decide +kernel), rfl⟩
theorem xw_1180 : Cond.methodLink RL 69 yX9_stories ∈ xk_tg := List.mem_filter.mpr ⟨List.mem_of_getElem? (i := 803) (by decide +kernel), rfl⟩
theorem xw_1181 : Cond.code yX9_stories cX9_stories 1 (some .int) ∈ xk_tg := List.mem_filter.mpr ⟨List.mem_of_getElem? (i := 806) (by decide +kernel), rfl⟩
theorem xw_1182 : Cond.instanceMethod yX9_stories ∈ xk_tg := List.mem_filter.mpr ⟨List.mem_of_getElem? (i := 804) (by decide +kernel), rfl⟩
theorem xw_1183 : Cond.selects RX9 yX9_stories yX9_stories ∈ xk_tg := List.mem_filter.mpr ⟨List.mem_of_getElem? (i := 805) (by decide +kernel), rfl⟩
theorem xw_1184 : Cond.methodLink RL 76 yX10_story ∈ xk_tg := List.mem_filter.mpr ⟨List.mem_of_getElem? (i := 1696) (by decide +kernel), rfl⟩
theorem xw_1185 : Cond.code yX10_story cX10_story 4 (some .int) ∈ xk_tg := List.mem_filter.mpr ⟨List.mem_of_getElem? (i := 1699) (by decide +kernel), rfl⟩
theorem xw_1186 : Cond.instanceMethod yX10_story ∈ xk_tg := List.mem_filter.mpr ⟨List.mem_of_getElem? (i := 1697) (by decide +kernel), rfl⟩
theorem xw_1187 : Cond.selects RX10 yX10_story yX10_story ∈ xk_tg := List.mem_filter.mpr ⟨List.mem_of_getElem? (i := 1698) (by decide +kernel), rfl⟩
theorem xw_1188 : Cond.methodLink RL 73 yX9_story ∈ xk_tg := List.mem_filter.mpr ⟨List.mem_of_getElem? (i := 816) (by decide +kernel), rfl⟩
theorem xw_1189 : Cond.code yX9_story cX9_story 2 (some .int) ∈ xk_tg := List.mem_filter.mpr ⟨List.mem_of_getElem? (i := 819) (by decide +kernel), rfl⟩
theorem xw_1190 : Cond.instanceMethod yX9_story ∈ xk_tg := List.mem_filter.mpr ⟨List.mem_of_getElem? (i := 817) (by decide +kernel), rfl⟩
theorem xw_1191 : Cond.selects RX9 yX9_story yX9_story ∈ xk_tg := List.mem_filter.mpr ⟨List.mem_of_getElem? (i := 818) (by decide +kernel), rfl⟩
theorem xw_1192 : Cond.methodLink RL 80 yX10_fewest ∈ xk_tg := List.mem_filter.mpr ⟨List.mem_of_getElem? (i := 1700) (by decide +kernel), rfl⟩
theorem xw_1193 : Cond.code yX10_fewest cX10_fewest 1 (some .int) ∈ xk_tg := List.mem_filter.mpr ⟨List.mem_of_getElem? (i := 1703) (by decide +kernel), rfl⟩
theorem xw_1194 : Cond.instanceMethod yX10_fewest ∈ xk_tg := List.mem_filter.mpr ⟨List.mem_of_getElem? (i := 1701) (by decide +kernel), rfl⟩
theorem xw_1195 : Cond.selects RX10 yX10_fewest yX10_fewest ∈ xk_tg := List.mem_filter.mpr ⟨List.mem_of_getElem? (i := 1702) (by decide +kernel), rfl⟩
theorem xw_1196 : Cond.methodLink RL 77 yX9_fewest ∈ xk_tg := List.mem_filter.mpr ⟨List.mem_of_getElem? (i := 824) (by decide +kernel), rfl⟩
theorem xw_1197 : Cond.methodLink RL 84 yX10_told ∈ xk_tg := List.mem_filter.mpr ⟨List.mem_of_getElem? (i := 1731) (by decide +kernel), rfl⟩
theorem xw_1198 : Cond.code yX10_told cX10_told 1 (some .int) ∈ xk_tg := List.mem_filter.mpr ⟨List.mem_of_getElem? (i := 1734) (by decide +kernel), rfl⟩
theorem xw_1199 : Cond.instanceMethod yX10_told ∈ xk_tg := List.mem_filter.mpr ⟨List.mem_of_getElem? (i := 1732) (by decide +kernel), rfl⟩
theorem xw_1200 : Cond.selects RX10 yX10_told yX10_told ∈ xk_tg := List.mem_filter.mpr ⟨List.mem_of_getElem? (i := 1733) (by decide +kernel), rfl⟩
theorem xw_1201 : Cond.methodLink RL 81 yX9_told ∈ xk_tg := List.mem_filter.mpr ⟨List.mem_of_getElem? (i := 864) (by decide +kernel), rfl⟩
theorem xw_1202 : Cond.code yX9_told cX9_told 1 (some .int) ∈ xk_tg := List.mem_filter.mpr ⟨List.mem_of_getElem? (i := 867) (by decide +kernel), rfl⟩
theorem xw_1203 : Cond.instanceMethod yX9_told ∈ xk_tg := List.mem_filter.mpr ⟨List.mem_of_getElem? (i := 865) (by decide +kernel), rfl⟩
theorem xw_1204 : Cond.selects RX9 yX9_told yX9_told ∈ xk_tg := List.mem_filter.mpr ⟨List.mem_of_getElem? (i := 866) (by decide +kernel), rfl⟩
theorem xw_1205 : Cond.methodLink RL 88 yX10_cheap ∈ xk_tg := List.mem_filter.mpr ⟨List.mem_of_getElem? (i := 1735) (by decide +kernel), rfl⟩
theorem xw_1206 : Cond.code yX10_cheap cX10_cheap 1 (some .int) ∈ xk_tg := List.mem_filter.mpr ⟨List.mem_of_getElem? (i := 1738) (by decide +kernel), rfl⟩
theorem xw_1207 : Cond.instanceMethod yX10_cheap ∈ xk_tg := List.mem_filter.mpr ⟨List.mem_of_getElem? (i := 1736) (by decide +kernel), rfl⟩
theorem xw_1208 : Cond.selects RX10 yX10_cheap yX10_cheap ∈ xk_tg := List.mem_filter.mpr ⟨List.mem_of_getElem? (i := 1737) (by decide +kernel), rfl⟩
theorem xw_1209 : Cond.methodLink RL 85 yX9_cheap ∈ xk_tg := List.mem_filter.mpr ⟨List.mem_of_getElem? (i := 871) (by decide +kernel), rfl⟩
theorem xw_1210 : Cond.methodLink RL 92 yX10_cheaply ∈ xk_tg := List.mem_filter.mpr ⟨List.mem_of_getElem? (i := 1739) (by decide +kernel), rfl⟩
theorem xw_1211 : Cond.code yX10_cheaply cX10_cheaply 1 (some .int) ∈ xk_tg := List.mem_filter.mpr ⟨List.mem_of_getElem? (i := 1742) (by decide +kernel), rfl⟩
theorem xw_1212 : Cond.instanceMethod yX10_cheaply ∈ xk_tg := List.mem_filter.mpr ⟨List.mem_of_getElem? (i := 1740) (by decide +kernel), rfl⟩
theorem xw_1213 : Cond.selects RX10 yX10_cheaply yX10_cheaply ∈ xk_tg := List.mem_filter.mpr ⟨List.mem_of_getElem? (i := 1741) (by decide +kernel), rfl⟩
theorem xw_1214 : Cond.methodLink RL 89 yX9_cheaply ∈ xk_tg := List.mem_filter.mpr ⟨List.mem_of_getElem? (i := 875) (by decide +kernel), rfl⟩
theorem xw_1215 : Cond.code yX9_cheaply cX9_cheaply 1 (some .int) ∈ xk_tg := List.mem_filter.mpr ⟨List.mem_of_getElem? (i := 878) (by decide +kernel), rfl⟩
theorem xw_1216 : Cond.instanceMethod yX9_cheaply ∈ xk_tg := List.mem_filter.mpr ⟨List.mem_of_getElem? (i := 876) (by decide +kernel), rfl⟩
theorem xw_1217 : Cond.selects RX9 yX9_cheaply yX9_cheaply ∈ xk_tg := List.mem_filter.mpr ⟨List.mem_of_getElem? (i := 877) (by decide +kernel), rfl⟩
theorem xw_1218 : Cond.methodLink RL 96 yX10_clash ∈ xk_tg := List.mem_filter.mpr ⟨List.mem_of_getElem? (i := 1743) (by decide +kernel), rfl⟩
theorem xw_1219 : Cond.code yX10_clash cX10_clash 2 (some .int) ∈ xk_tg := List.mem_filter.mpr ⟨List.mem_of_getElem? (i := 1746) (by decide +kernel), rfl⟩
theorem xw_1220 : Cond.instanceMethod yX10_clash ∈ xk_tg := List.mem_filter.mpr ⟨List.mem_of_getElem? (i := 1744) (by decide +kernel), rfl⟩
theorem xw_1221 : Cond.selects RX10 yX10_clash yX10_clash ∈ xk_tg := List.mem_filter.mpr ⟨List.mem_of_getElem? (i := 1745) (by decide +kernel), rfl⟩
theorem xw_1222 : Cond.methodLink RL 93 yX9_clash ∈ xk_tg := List.mem_filter.mpr ⟨List.mem_of_getElem? (i := 879) (by decide +kernel), rfl⟩
theorem xw_1223 : Cond.code yX9_clash cX9_clash 1 (some .int) ∈ xk_tg := List.mem_filter.mpr ⟨List.mem_of_getElem? (i := 882) (by decide +kernel), rfl⟩
theorem xw_1224 : Cond.instanceMethod yX9_clash ∈ xk_tg := List.mem_filter.mpr ⟨List.mem_of_getElem? (i := 880) (by decide +kernel), rfl⟩
theorem xw_1225 : Cond.selects RX9 yX9_clash yX9_clash ∈ xk_tg := List.mem_filter.mpr ⟨List.mem_of_getElem? (i := 881) (by decide +kernel), rfl⟩
theorem xw_1226 : Cond.methodLink RL 100 yX10_clashed ∈ xk_tg := List.mem_filter.mpr ⟨List.mem_of_getElem? (i := 1751) (by decide +kernel), rfl⟩
theorem xw_1227 : Cond.code yX10_clashed cX10_clashed 1 (some .int) ∈ xk_tg := List.mem_filter.mpr ⟨List.mem_of_getElem? (i := 1754) (by decide +kernel), rfl⟩
theorem xw_1228 : Cond.instanceMethod yX10_clashed ∈ xk_tg := List.mem_filter.mpr ⟨List.mem_of_getElem? (i := 1752) (by decide +kernel), rfl⟩
theorem xw_1229 : Cond.selects RX10 yX10_clashed yX10_clashed ∈ xk_tg := List.mem_filter.mpr ⟨List.mem_of_getElem? (i := 1753) (by decide +kernel), rfl⟩
theorem xw_1230 : Cond.methodLink RL 97 yX9_clashed ∈ xk_tg := List.mem_filter.mpr ⟨List.mem_of_getElem? (i := 910) (by decide +kernel), rfl⟩
theorem xw_1231 : Cond.code yX9_clashed cX9_clashed 1 (some .int) ∈ xk_tg := List.mem_filter.mpr ⟨List.mem_of_getElem? (i := 913) (by decide +kernel), rfl⟩
theorem xw_1232 : Cond.instanceMethod yX9_clashed ∈ xk_tg := List.mem_filter.mpr ⟨List.mem_of_getElem? (i := 911) (by decide +kernel), rfl⟩
theorem xw_1233 : Cond.selects RX9 yX9_clashed yX9_clashed ∈ xk_tg := List.mem_filter.mpr ⟨List.mem_of_getElem? (i := 912) (by decide +kernel), rfl⟩
theorem xw_1234 : Cond.methodLink RL 104 yX10_lie ∈ xk_tg := List.mem_filter.mpr ⟨List.mem_of_getElem? (i := 1755) (by decide +kernel), rfl⟩
theorem xw_1235 : Cond.code yX10_lie cX10_lie 4 (some .int) ∈ xk_tg := List.mem_filter.mpr ⟨List.mem_of_getElem? (i := 1758) (by decide +kernel), rfl⟩
theorem xw_1236 : Cond.instanceMethod yX10_lie ∈ xk_tg := List.mem_filter.mpr ⟨List.mem_of_getElem? (i := 1756) (by decide +kernel), rfl⟩
theorem xw_1237 : Cond.selects RX10 yX10_lie yX10_lie ∈ xk_tg := List.mem_filter.mpr ⟨List.mem_of_getElem? (i := 1757) (by decide +kernel), rfl⟩
theorem xw_1238 : Cond.methodLink RL 101 yX9_lie ∈ xk_tg := List.mem_filter.mpr ⟨List.mem_of_getElem? (i := 914) (by decide +kernel), rfl⟩
theorem xw_1239 : Cond.code yX9_lie cX9_lie 2 (some .int) ∈ xk_tg := List.mem_filter.mpr ⟨List.mem_of_getElem? (i := 917) (by decide +kernel), rfl⟩
theorem xw_1240 : Cond.instanceMethod yX9_lie ∈ xk_tg := List.mem_filter.mpr ⟨List.mem_of_getElem? (i := 915) (by decide +kernel), rfl⟩
theorem xw_1241 : Cond.selects RX9 yX9_lie yX9_lie ∈ xk_tg := List.mem_filter.mpr ⟨List.mem_of_getElem? (i := 916) (by decide +kernel), rfl⟩
theorem xw_1242 : Cond.methodLink RL 108 yX10_needs ∈ xk_tg := List.mem_filter.mpr ⟨List.mem_of_getElem? (i := 1759) (by decide +kernel), rfl⟩
theorem xw_1243 : Cond.code yX10_needs cX10_needs 5 (some .int) ∈ xk_tg := List.mem_filter.mpr ⟨List.mem_of_getElem? (i := 1762) (by decide +kernel), rfl⟩
theorem xw_1244 : Cond.instanceMethod yX10_needs ∈ xk_tg := List.mem_filter.mpr ⟨List.mem_of_getElem? (i := 1760) (by decide +kernel), rfl⟩
theorem xw_1245 : Cond.selects RX10 yX10_needs yX10_needs ∈ xk_tg := List.mem_filter.mpr ⟨List.mem_of_getElem? (i := 1761) (by decide +kernel), rfl⟩
theorem xw_1246 : Cond.methodLink RL 105 yX9_needs ∈ xk_tg := List.mem_filter.mpr ⟨List.mem_of_getElem? (i := 926) (by decide +kernel), rfl⟩
theorem xw_1247 : Cond.code yX9_needs cX9_needs 4 (some .int) ∈ xk_tg := List.mem_filter.mpr ⟨List.mem_of_getElem? (i := 929) (by decide +kernel), rfl⟩
theorem xw_1248 : Cond.instanceMethod yX9_needs ∈ xk_tg := List.mem_filter.mpr ⟨List.mem_of_getElem? (i := 927) (by decide +kernel), rfl⟩
theorem xw_1249 : Cond.selects RX9 yX9_needs yX9_needs ∈ xk_tg := List.mem_filter.mpr ⟨List.mem_of_getElem? (i := 928) (by decide +kernel), rfl⟩
theorem xw_1250 : Cond.methodLink RL 113 yX10_risk ∈ xk_tg := List.mem_filter.mpr ⟨List.mem_of_getElem? (i := 1763) (by decide +kernel), rfl⟩
theorem xw_1251 : Cond.code yX10_risk cX10_risk 11 (some .long) ∈ xk_tg := List.mem_filter.mpr ⟨List.mem_of_getElem? (i := 1766) (by decide +kernel), rfl⟩
theorem xw_1252 : Cond.instanceMethod yX10_risk ∈ xk_tg := List.mem_filter.mpr ⟨List.mem_of_getElem? (i := 1764) (by decide +kernel), rfl⟩
theorem xw_1253 : Cond.selects RX10 yX10_risk yX10_risk ∈ xk_tg := List.mem_filter.mpr ⟨List.mem_of_getElem? (i := 1765) (by decide +kernel), rfl⟩
theorem xw_1254 : Cond.methodLink RL 109 yX9_risk ∈ xk_tg := List.mem_filter.mpr ⟨List.mem_of_getElem? (i := 946) (by decide +kernel), rfl⟩
theorem xw_1255 : Cond.code yX9_risk cX9_risk 11 (some .long) ∈ xk_tg := List.mem_filter.mpr ⟨List.mem_of_getElem? (i := 949) (by decide +kernel), rfl⟩
theorem xw_1256 : Cond.instanceMethod yX9_risk ∈ xk_tg := List.mem_filter.mpr ⟨List.mem_of_getElem? (i := 947) (by decide +kernel), rfl⟩
theorem xw_1257 : Cond.selects RX9 yX9_risk yX9_risk ∈ xk_tg := List.mem_filter.mpr ⟨List.mem_of_getElem? (i := 948) (by decide +kernel), rfl⟩
theorem xw_1258 : Cond.methodLink RL 117 yX10_safest ∈ xk_tg := List.mem_filter.mpr ⟨List.mem_of_getElem? (i := 1776) (by decide +kernel), rfl⟩
theorem xw_1259 : Cond.code yX10_safest cX10_safest 3 (some .int) ∈ xk_tg := List.mem_filter.mpr ⟨List.mem_of_getElem? (i := 1779) (by decide +kernel), rfl⟩
theorem xw_1260 : Cond.instanceMethod yX10_safest ∈ xk_tg := List.mem_filter.mpr ⟨List.mem_of_getElem? (i := 1777) (by decide +kernel), rfl⟩
theorem xw_1261 : Cond.selects RX10 yX10_safest yX10_safest ∈ xk_tg := List.mem_filter.mpr ⟨List.mem_of_getElem? (i := 1778) (by decide +kernel), rfl⟩
theorem xw_1262 : Cond.methodLink RL 114 yX9_safest ∈ xk_tg := List.mem_filter.mpr ⟨List.mem_of_getElem? (i := 964) (by decide +kernel), rfl⟩
theorem xw_1263 : Cond.code yX9_safest cX9_safest 1 (some .int) ∈ xk_tg := List.mem_filter.mpr ⟨List.mem_of_getElem? (i := 967) (by decide +kernel), rfl⟩
theorem xw_1264 : Cond.instanceMethod yX9_safest ∈ xk_tg := List.mem_filter.mpr ⟨List.mem_of_getElem? (i := 965) (by decide +kernel), rfl⟩
theorem xw_1265 : Cond.selects RX9 yX9_safest yX9_safest ∈ xk_tg := List.mem_filter.mpr ⟨List.mem_of_getElem? (i := 966) (by decide +kernel), rfl⟩
theorem xw_1266 : Cond.methodLink RL 121 yX10_own ∈ xk_tg := List.mem_filter.mpr ⟨List.mem_of_getElem? (i := 1784) (by decide +kernel), rfl⟩
theorem xw_1267 : Cond.code yX10_own cX10_own 2 (some .int) ∈ xk_tg := List.mem_filter.mpr ⟨List.mem_of_getElem? (i := 1787) (by decide +kernel), rfl⟩
theorem xw_1268 : Cond.instanceMethod yX10_own ∈ xk_tg := List.mem_filter.mpr ⟨List.mem_of_getElem? (i := 1785) (by decide +kernel), rfl⟩
theorem xw_1269 : Cond.selects RX10 yX10_own yX10_own ∈ xk_tg := List.mem_filter.mpr ⟨List.mem_of_getElem? (i := 1786) (by decide +kernel), rfl⟩
theorem xw_1270 : Cond.methodLink RL 118 yX9_own ∈ xk_tg := List.mem_filter.mpr ⟨List.mem_of_getElem? (i := 978) (by decide +kernel), rfl⟩
theorem xw_1271 : Cond.methodLink RL 125 yX10_owning ∈ xk_tg := List.mem_filter.mpr ⟨List.mem_of_getElem? (i := 1796) (by decide +kernel), rfl⟩
theorem xw_1272 : Cond.code yX10_owning cX10_owning 5 (some .int) ∈ xk_tg := List.mem_filter.mpr ⟨List.mem_of_getElem? (i := 1799) (by decide +kernel), rfl⟩
theorem xw_1273 : Cond.instanceMethod yX10_owning ∈ xk_tg := List.mem_filter.mpr ⟨List.mem_of_getElem? (i := 1797) (by decide +kernel), rfl⟩
theorem xw_1274 : Cond.selects RX10 yX10_owning yX10_owning ∈ xk_tg := List.mem_filter.mpr ⟨List.mem_of_getElem? (i := 1798) (by decide +kernel), rfl⟩
theorem xw_1275 : Cond.methodLink RL 122 yX9_owning ∈ xk_tg := List.mem_filter.mpr ⟨List.mem_of_getElem? (i := 986) (by decide +kernel), rfl⟩
theorem xw_1276 : Cond.code yX9_owning cX9_owning 5 (some .int) ∈ xk_tg := List.mem_filter.mpr ⟨List.mem_of_getElem? (i := 989) (by decide +kernel), rfl⟩
theorem xw_1277 : Cond.instanceMethod yX9_owning ∈ xk_tg := List.mem_filter.mpr ⟨List.mem_of_getElem? (i := 987) (by decide +kernel), rfl⟩
theorem xw_1278 : Cond.selects RX9 yX9_owning yX9_owning ∈ xk_tg := List.mem_filter.mpr ⟨List.mem_of_getElem? (i := 988) (by decide +kernel), rfl⟩
theorem xw_1279 : Cond.methodLink RL 129 yX10_spares ∈ xk_tg := List.mem_filter.mpr ⟨List.mem_of_getElem? (i := 1800) (by decide +kernel), rfl⟩
theorem xw_1280 : Cond.code yX10_spares cX10_spares 3 (some .int) ∈ xk_tg := List.mem_filter.mpr ⟨List.mem_of_getElem? (i := 1803) (by decide +kernel), rfl⟩
theorem xw_1281 : Cond.instanceMethod yX10_spares ∈ xk_tg := List.mem_filter.mpr ⟨List.mem_of_getElem? (i := 1801) (by decide +kernel), rfl⟩
theorem xw_1282 : Cond.selects RX10 yX10_spares yX10_spares ∈ xk_tg := List.mem_filter.mpr ⟨List.mem_of_getElem? (i := 1802) (by decide +kernel), rfl⟩
theorem xw_1283 : Cond.methodLink RL 126 yX9_spares ∈ xk_tg := List.mem_filter.mpr ⟨List.mem_of_getElem? (i := 992) (by decide +kernel), rfl⟩
theorem xw_1284 : Cond.code yX9_spares cX9_spares 4 (some .int) ∈ xk_tg := List.mem_filter.mpr ⟨List.mem_of_getElem? (i := 995) (by decide +kernel), rfl⟩
theorem xw_1285 : Cond.instanceMethod yX9_spares ∈ xk_tg := List.mem_filter.mpr ⟨List.mem_of_getElem? (i := 993) (by decide +kernel), rfl⟩
theorem xw_1286 : Cond.selects RX9 yX9_spares yX9_spares ∈ xk_tg := List.mem_filter.mpr ⟨List.mem_of_getElem? (i := 994) (by decide +kernel), rfl⟩
theorem xw_1287 : Cond.methodLink RL 133 yX10_confess ∈ xk_tg := List.mem_filter.mpr ⟨List.mem_of_getElem? (i := 1804) (by decide +kernel), rfl⟩
theorem xw_1288 : Cond.code yX10_confess cX10_confess 1 (some .int) ∈ xk_tg := List.mem_filter.mpr ⟨List.mem_of_getElem? (i := 1807) (by decide +kernel), rfl⟩
theorem xw_1289 : Cond.instanceMethod yX10_confess ∈ xk_tg := List.mem_filter.mpr ⟨List.mem_of_getElem? (i := 1805) (by decide +kernel), rfl⟩
theorem xw_1290 : Cond.selects RX10 yX10_confess yX10_confess ∈ xk_tg := List.mem_filter.mpr ⟨List.mem_of_getElem? (i := 1806) (by decide +kernel), rfl⟩
theorem xw_1291 : Cond.methodLink RL 130 yX9_confess ∈ xk_tg := List.mem_filter.mpr ⟨List.mem_of_getElem? (i := 997) (by decide +kernel), rfl⟩
theorem xw_1292 : Cond.code yX9_confess cX9_confess 1 (some .int) ∈ xk_tg := List.mem_filter.mpr ⟨List.mem_of_getElem? (i := 1000) (by decide +kernel), rfl⟩
theorem xw_1293 : Cond.instanceMethod yX9_confess ∈ xk_tg := List.mem_filter.mpr ⟨List.mem_of_getElem? (i := 998) (by decide +kernel), rfl⟩
theorem xw_1294 : Cond.selects RX9 yX9_confess yX9_confess ∈ xk_tg := List.mem_filter.mpr ⟨List.mem_of_getElem? (i := 999) (by decide +kernel), rfl⟩
theorem xw_1295 : Cond.methodLink RL 137 yX10_confessed ∈ xk_tg := List.mem_filter.mpr ⟨List.mem_of_getElem? (i := 1812) (by decide +kernel), rfl⟩
theorem xw_1296 : Cond.code yX10_confessed cX10_confessed 1 (some .int) ∈ xk_tg := List.mem_filter.mpr ⟨List.mem_of_getElem? (i := 1815) (by decide +kernel), rfl⟩
theorem xw_1297 : Cond.instanceMethod yX10_confessed ∈ xk_tg := List.mem_filter.mpr ⟨List.mem_of_getElem? (i := 1813) (by decide +kernel), rfl⟩
theorem xw_1298 : Cond.selects RX10 yX10_confessed yX10_confessed ∈ xk_tg := List.mem_filter.mpr ⟨List.mem_of_getElem? (i := 1814) (by decide +kernel), rfl⟩
theorem xw_1299 : Cond.methodLink RL 134 yX9_confessed ∈ xk_tg := List.mem_filter.mpr ⟨List.mem_of_getElem? (i := 1015) (by decide +kernel), rfl⟩
theorem xw_1300 : Cond.code yX9_confessed cX9_confessed 1 (some .int) ∈ xk_tg := List.mem_filter.mpr ⟨List.mem_of_getElem? (i := 1018) (by decide +kernel), rfl⟩
theorem xw_1301 : Cond.instanceMethod yX9_confessed ∈ xk_tg := List.mem_filter.mpr ⟨List.mem_of_getElem? (i := 1016) (by decide +kernel), rfl⟩
theorem xw_1302 : Cond.selects RX9 yX9_confessed yX9_confessed ∈ xk_tg := List.mem_filter.mpr ⟨List.mem_of_getElem? (i := 1017) (by decide +kernel), rfl⟩
theorem xw_1303 : Cond.methodLink RL 141 yX10_spread ∈ xk_tg := List.mem_filter.mpr ⟨List.mem_of_getElem? (i := 1816) (by decide +kernel), rfl⟩
theorem xw_1304 : Cond.code yX10_spread cX10_spread 3 (some .int) ∈ xk_tg := List.mem_filter.mpr ⟨List.mem_of_getElem? (i := 1819) (by decide +kernel), rfl⟩
theorem xw_1305 : Cond.instanceMethod yX10_spread ∈ xk_tg := List.mem_filter.mpr ⟨List.mem_of_getElem? (i := 1817) (by decide +kernel), rfl⟩
theorem xw_1306 : Cond.selects RX10 yX10_spread yX10_spread ∈ xk_tg := List.mem_filter.mpr ⟨List.mem_of_getElem? (i := 1818) (by decide +kernel), rfl⟩
theorem xw_1307 : Cond.methodLink RL 138 yX9_spread ∈ xk_tg := List.mem_filter.mpr ⟨List.mem_of_getElem? (i := 1019) (by decide +kernel), rfl⟩
theorem xw_1308 : Cond.code yX9_spread cX9_spread 2 (some .int) ∈ xk_tg := List.mem_filter.mpr ⟨List.mem_of_getElem? (i := 1022) (by decide +kernel), rfl⟩
theorem xw_1309 : Cond.instanceMethod yX9_spread ∈ xk_tg := List.mem_filter.mpr ⟨List.mem_of_getElem? (i := 1020) (by decide +kernel), rfl⟩
theorem xw_1310 : Cond.selects RX9 yX9_spread yX9_spread ∈ xk_tg := List.mem_filter.mpr ⟨List.mem_of_getElem? (i := 1021) (by decide +kernel), rfl⟩
theorem xw_1311 : Cond.methodLink RL 145 yX10_apart ∈ xk_tg := List.mem_filter.mpr ⟨List.mem_of_getElem? (i := 1820) (by decide +kernel), rfl⟩
theorem xw_1312 : Cond.code yX10_apart cX10_apart 6 (some .int) ∈ xk_tg := List.mem_filter.mpr ⟨List.mem_of_getElem? (i := 1823) (by decide +kernel), rfl⟩
theorem xw_1313 : Cond.instanceMethod yX10_apart ∈ xk_tg := List.mem_filter.mpr ⟨List.mem_of_getElem? (i := 1821) (by decide +kernel), rfl⟩
theorem xw_1314 : Cond.selects RX10 yX10_apart yX10_apart ∈ xk_tg := List.mem_filter.mpr ⟨List.mem_of_getElem? (i := 1822) (by decide +kernel), rfl⟩
theorem xw_1315 : Cond.methodLink RL 142 yX9_apart ∈ xk_tg := List.mem_filter.mpr ⟨List.mem_of_getElem? (i := 1023) (by decide +kernel), rfl⟩
theorem xw_1316 : Cond.code yX9_apart cX9_apart 4 (some .int) ∈ xk_tg := List.mem_filter.mpr ⟨List.mem_of_getElem? (i := 1026) (by decide +kernel), rfl⟩
theorem xw_1317 : Cond.instanceMethod yX9_apart ∈ xk_tg := List.mem_filter.mpr ⟨List.mem_of_getElem? (i := 1024) (by decide +kernel), rfl⟩
theorem xw_1318 : Cond.selects RX9 yX9_apart yX9_apart ∈ xk_tg := List.mem_filter.mpr ⟨List.mem_of_getElem? (i := 1025) (by decide +kernel), rfl⟩
theorem xw_1319 : Cond.methodLink RL 149 yX10_trusts ∈ xk_tg := List.mem_filter.mpr ⟨List.mem_of_getElem? (i := 1836) (by decide +kernel), rfl⟩
theorem xw_1320 : Cond.code yX10_trusts cX10_trusts 4 (some .int) ∈ xk_tg := List.mem_filter.mpr ⟨List.mem_of_getElem? (i := 1839) (by decide +kernel), rfl⟩
theorem xw_1321 : Cond.instanceMethod yX10_trusts ∈ xk_tg := List.mem_filter.mpr ⟨List.mem_of_getElem? (i := 1837) (by decide +kernel), rfl⟩
theorem xw_1322 : Cond.selects RX10 yX10_trusts yX10_trusts ∈ xk_tg := List.mem_filter.mpr ⟨List.mem_of_getElem? (i := 1838) (by decide +kernel), rfl⟩
theorem xw_1323 : Cond.methodLink RL 146 yX9_trusts ∈ xk_tg := List.mem_filter.mpr ⟨List.mem_of_getElem? (i := 1033) (by decide +kernel), rfl⟩
theorem xw_1324 : Cond.code yX9_trusts cX9_trusts 2 (some .int) ∈ xk_tg := List.mem_filter.mpr ⟨List.mem_of_getElem? (i := 1036) (by decide +kernel), rfl⟩
theorem xw_1325 : Cond.instanceMethod yX9_trusts ∈ xk_tg := List.mem_filter.mpr ⟨List.mem_of_getElem? (i := 1034) (by decide +kernel), rfl⟩
theorem xw_1326 : Cond.selects RX9 yX9_trusts yX9_trusts ∈ xk_tg := List.mem_filter.mpr ⟨List.mem_of_getElem? (i := 1035) (by decide +kernel), rfl⟩
theorem xw_1327 : Cond.methodLink RL 153 yX10_catches ∈ xk_tg := List.mem_filter.mpr ⟨List.mem_of_getElem? (i := 1840) (by decide +kernel), rfl⟩
theorem xw_1328 : Cond.code yX10_catches cX10_catches 2 (some .int) ∈ xk_tg := List.mem_filter.mpr ⟨List.mem_of_getElem? (i := 1843) (by decide +kernel), rfl⟩
theorem xw_1329 : Cond.instanceMethod yX10_catches ∈ xk_tg := List.mem_filter.mpr ⟨List.mem_of_getElem? (i := 1841) (by decide +kernel), rfl⟩
theorem xw_1330 : Cond.selects RX10 yX10_catches yX10_catches ∈ xk_tg := List.mem_filter.mpr ⟨List.mem_of_getElem? (i := 1842) (by decide +kernel), rfl⟩
theorem xw_1331 : Cond.methodLink RL 150 yX9_catches ∈ xk_tg := List.mem_filter.mpr ⟨List.mem_of_getElem? (i := 1037) (by decide +kernel), rfl⟩
theorem xw_1332 : Cond.code yX9_catches cX9_catches 1 (some .int) ∈ xk_tg := List.mem_filter.mpr ⟨List.mem_of_getElem? (i := 1040) (by decide +kernel), rfl⟩
theorem xw_1333 : Cond.instanceMethod yX9_catches ∈ xk_tg := List.mem_filter.mpr ⟨List.mem_of_getElem? (i := 1038) (by decide +kernel), rfl⟩
theorem xw_1334 : Cond.selects RX9 yX9_catches yX9_catches ∈ xk_tg := List.mem_filter.mpr ⟨List.mem_of_getElem? (i := 1039) (by decide +kernel), rfl⟩
theorem xw_1335 : Cond.methodLink RL 157 yX10_caught ∈ xk_tg := List.mem_filter.mpr ⟨List.mem_of_getElem? (i := 1852) (by decide +kernel), rfl⟩
theorem xw_1336 : Cond.code yX10_caught cX10_caught 1 (some .int) ∈ xk_tg := List.mem_filter.mpr ⟨List.mem_of_getElem? (i := 1855) (by decide +kernel), rfl⟩
theorem xw_1337 : Cond.instanceMethod yX10_caught ∈ xk_tg := List.mem_filter.mpr ⟨List.mem_of_getElem? (i := 1853) (by decide +kernel), rfl⟩
theorem xw_1338 : Cond.selects RX10 yX10_caught yX10_caught ∈ xk_tg := List.mem_filter.mpr ⟨List.mem_of_getElem? (i := 1854) (by decide +kernel), rfl⟩
theorem xw_1339 : Cond.methodLink RL 154 yX9_caught ∈ xk_tg := List.mem_filter.mpr ⟨List.mem_of_getElem? (i := 1045) (by decide +kernel), rfl⟩
theorem xw_1340 : Cond.code yX9_caught cX9_caught 1 (some .int) ∈ xk_tg := List.mem_filter.mpr ⟨List.mem_of_getElem? (i := 1048) (by decide +kernel), rfl⟩
theorem xw_1341 : Cond.instanceMethod yX9_caught ∈ xk_tg := List.mem_filter.mpr ⟨List.mem_of_getElem? (i := 1046) (by decide +kernel), rfl⟩
theorem xw_1342 : Cond.selects RX9 yX9_caught yX9_caught ∈ xk_tg := List.mem_filter.mpr ⟨List.mem_of_getElem? (i := 1047) (by decide +kernel), rfl⟩
theorem xw_1343 : Cond.methodLink RL 161 yX10_knowing ∈ xk_tg := List.mem_filter.mpr ⟨List.mem_of_getElem? (i := 1856) (by decide +kernel), rfl⟩
theorem xw_1344 : Cond.code yX10_knowing cX10_knowing 2 (some .int) ∈ xk_tg := List.mem_filter.mpr ⟨List.mem_of_getElem? (i := 1859) (by decide +kernel), rfl⟩
theorem xw_1345 : Cond.instanceMethod yX10_knowing ∈ xk_tg := List.mem_filter.mpr ⟨List.mem_of_getElem? (i := 1857) (by decide +kernel), rfl⟩
theorem xw_1346 : Cond.selects RX10 yX10_knowing yX10_knowing ∈ xk_tg := List.mem_filter.mpr ⟨List.mem_of_getElem? (i := 1858) (by decide +kernel), rfl⟩
theorem xw_1347 : Cond.methodLink RL 158 yX9_knowing ∈ xk_tg := List.mem_filter.mpr ⟨List.mem_of_getElem? (i := 1049) (by decide +kernel), rfl⟩
theorem xw_1348 : Cond.code yX9_knowing cX9_knowing 2 (some .int) ∈ xk_tg := List.mem_filter.mpr ⟨List.mem_of_getElem? (i := 1052) (by decide +kernel), rfl⟩
theorem xw_1349 : Cond.instanceMethod yX9_knowing ∈ xk_tg := List.mem_filter.mpr ⟨List.mem_of_getElem? (i := 1050) (by decide +kernel), rfl⟩
theorem xw_1350 : Cond.selects RX9 yX9_knowing yX9_knowing ∈ xk_tg := List.mem_filter.mpr ⟨List.mem_of_getElem? (i := 1051) (by decide +kernel), rfl⟩
theorem xw_1351 : Cond.methodLink RL 165 yX10_fixed ∈ xk_tg := List.mem_filter.mpr ⟨List.mem_of_getElem? (i := 1860) (by decide +kernel), rfl⟩
theorem xw_1352 : Cond.code yX10_fixed cX10_fixed 2 (some .int) ∈ xk_tg := List.mem_filter.mpr ⟨List.mem_of_getElem? (i := 1863) (by decide +kernel), rfl⟩
theorem xw_1353 : Cond.instanceMethod yX10_fixed ∈ xk_tg := List.mem_filter.mpr ⟨List.mem_of_getElem? (i := 1861) (by decide +kernel), rfl⟩
theorem xw_1354 : Cond.selects RX10 yX10_fixed yX10_fixed ∈ xk_tg := List.mem_filter.mpr ⟨List.mem_of_getElem? (i := 1862) (by decide +kernel), rfl⟩
theorem xw_1355 : Cond.methodLink RL 162 yX9_fixed ∈ xk_tg := List.mem_filter.mpr ⟨List.mem_of_getElem? (i := 1053) (by decide +kernel), rfl⟩
theorem xw_1356 : Cond.code yX9_fixed cX9_fixed 2 (some .int) ∈ xk_tg := List.mem_filter.mpr ⟨List.mem_of_getElem? (i := 1056) (by decide +kernel), rfl⟩
theorem xw_1357 : Cond.instanceMethod yX9_fixed ∈ xk_tg := List.mem_filter.mpr ⟨List.mem_of_getElem? (i := 1054) (by decide +kernel), rfl⟩
theorem xw_1358 : Cond.selects RX9 yX9_fixed yX9_fixed ∈ xk_tg := List.mem_filter.mpr ⟨List.mem_of_getElem? (i := 1055) (by decide +kernel), rfl⟩
theorem xw_1359 : Cond.methodLink RL 169 yX10_judge ∈ xk_tg := List.mem_filter.mpr ⟨List.mem_of_getElem? (i := 1868) (by decide +kernel), rfl⟩
theorem xw_1360 : Cond.code yX10_judge cX10_judge 4 (some .int) ∈ xk_tg := List.mem_filter.mpr ⟨List.mem_of_getElem? (i := 1871) (by decide +kernel), rfl⟩
theorem xw_1361 : Cond.instanceMethod yX10_judge ∈ xk_tg := List.mem_filter.mpr ⟨List.mem_of_getElem? (i := 1869) (by decide +kernel), rfl⟩
theorem xw_1362 : Cond.selects RX10 yX10_judge yX10_judge ∈ xk_tg := List.mem_filter.mpr ⟨List.mem_of_getElem? (i := 1870) (by decide +kernel), rfl⟩
theorem xw_1363 : Cond.methodLink RL 166 yX9_judge ∈ xk_tg := List.mem_filter.mpr ⟨List.mem_of_getElem? (i := 1057) (by decide +kernel), rfl⟩
theorem xw_1364 : Cond.code yX9_judge cX9_judge 6 (some .int) ∈ xk_tg := List.mem_filter.mpr ⟨List.mem_of_getElem? (i := 1060) (by decide +kernel), rfl⟩
theorem xw_1365 : Cond.instanceMethod yX9_judge ∈ xk_tg := List.mem_filter.mpr ⟨List.mem_of_getElem? (i := 1058) (by decide +kernel), rfl⟩
theorem xw_1366 : Cond.selects RX9 yX9_judge yX9_judge ∈ xk_tg := List.mem_filter.mpr ⟨List.mem_of_getElem? (i := 1059) (by decide +kernel), rfl⟩
theorem xw_1367 : Cond.methodLink RL 173 yX10_fits ∈ xk_tg := List.mem_filter.mpr ⟨List.mem_of_getElem? (i := 1880) (by decide +kernel), rfl⟩
theorem xw_1368 : Cond.code yX10_fits cX10_fits 3 (some .int) ∈ xk_tg := List.mem_filter.mpr ⟨List.mem_of_getElem? (i := 1883) (by decide +kernel), rfl⟩
theorem xw_1369 : Cond.instanceMethod yX10_fits ∈ xk_tg := List.mem_filter.mpr ⟨List.mem_of_getElem? (i := 1881) (by decide +kernel), rfl⟩
theorem xw_1370 : Cond.selects RX10 yX10_fits yX10_fits ∈ xk_tg := List.mem_filter.mpr ⟨List.mem_of_getElem? (i := 1882) (by decide +kernel), rfl⟩
theorem xw_1371 : Cond.methodLink RL 170 yX9_fits ∈ xk_tg := List.mem_filter.mpr ⟨List.mem_of_getElem? (i := 1080) (by decide +kernel), rfl⟩
theorem xw_1372 : Cond.code yX9_fits cX9_fits 3 (some .int) ∈ xk_tg := List.mem_filter.mpr ⟨List.mem_of_getElem? (i := 1083) (by decide +kernel), rfl⟩
theorem xw_1373 : Cond.instanceMethod yX9_fits ∈ xk_tg := List.mem_filter.mpr ⟨List.mem_of_getElem? (i := 1081) (by decide +kernel), rfl⟩
theorem xw_1374 : Cond.selects RX9 yX9_fits yX9_fits ∈ xk_tg := List.mem_filter.mpr ⟨List.mem_of_getElem? (i := 1082) (by decide +kernel), rfl⟩
theorem xw_1375 : Cond.methodLink RL 177 yX10_must ∈ xk_tg := List.mem_filter.mpr ⟨List.mem_of_getElem? (i := 1888) (by decide +kernel), rfl⟩
theorem xw_1376 : Cond.code yX10_must cX10_must 4 (some .int) ∈ xk_tg := List.mem_filter.mpr ⟨List.mem_of_getElem? (i := 1891) (by decide +kernel), rfl⟩
theorem xw_1377 : Cond.instanceMethod yX10_must ∈ xk_tg := List.mem_filter.mpr ⟨List.mem_of_getElem? (i := 1889) (by decide +kernel), rfl⟩
theorem xw_1378 : Cond.selects RX10 yX10_must yX10_must ∈ xk_tg := List.mem_filter.mpr ⟨List.mem_of_getElem? (i := 1890) (by decide +kernel), rfl⟩
theorem xw_1379 : Cond.methodLink RL 174 yX9_must ∈ xk_tg := List.mem_filter.mpr ⟨List.mem_of_getElem? (i := 1088) (by decide +kernel), rfl⟩
theorem xw_1380 : Cond.code yX9_must cX9_must 4 (some .int) ∈ xk_tg := List.mem_filter.mpr ⟨List.mem_of_getElem? (i := 1091) (by decide +kernel), rfl⟩
theorem xw_1381 : Cond.instanceMethod yX9_must ∈ xk_tg := List.mem_filter.mpr ⟨List.mem_of_getElem? (i := 1089) (by decide +kernel), rfl⟩
theorem xw_1382 : Cond.selects RX9 yX9_must yX9_must ∈ xk_tg := List.mem_filter.mpr ⟨List.mem_of_getElem? (i := 1090) (by decide +kernel), rfl⟩
theorem xw_1383 : Cond.methodLink RL 181 yX10_least ∈ xk_tg := List.mem_filter.mpr ⟨List.mem_of_getElem? (i := 1892) (by decide +kernel), rfl⟩
theorem xw_1384 : Cond.code yX10_least cX10_least 4 (some .int) ∈ xk_tg := List.mem_filter.mpr ⟨List.mem_of_getElem? (i := 1895) (by decide +kernel), rfl⟩
theorem xw_1385 : Cond.instanceMethod yX10_least ∈ xk_tg := List.mem_filter.mpr ⟨List.mem_of_getElem? (i := 1893) (by decide +kernel), rfl⟩
theorem xw_1386 : Cond.selects RX10 yX10_least yX10_least ∈ xk_tg := List.mem_filter.mpr ⟨List.mem_of_getElem? (i := 1894) (by decide +kernel), rfl⟩
theorem xw_1387 : Cond.methodLink RL 178 yX9_least ∈ xk_tg := List.mem_filter.mpr ⟨List.mem_of_getElem? (i := 1092) (by decide +kernel), rfl⟩
theorem xw_1388 : Cond.code yX9_least cX9_least 2 (some .int) ∈ xk_tg := List.mem_filter.mpr ⟨List.mem_of_getElem? (i := 1095) (by decide +kernel), rfl⟩
theorem xw_1389 : Cond.instanceMethod yX9_least ∈ xk_tg := List.mem_filter.mpr ⟨List.mem_of_getElem? (i := 1093) (by decide +kernel), rfl⟩
theorem xw_1390 : Cond.selects RX9 yX9_least yX9_least ∈ xk_tg := List.mem_filter.mpr ⟨List.mem_of_getElem? (i := 1094) (by decide +kernel), rfl⟩
theorem xw_1391 : Cond.methodLink RL 185 yX10_lies ∈ xk_tg := List.mem_filter.mpr ⟨List.mem_of_getElem? (i := 1896) (by decide +kernel), rfl⟩
theorem xw_1392 : Cond.code yX10_lies cX10_lies 5 (some .int) ∈ xk_tg := List.mem_filter.mpr ⟨List.mem_of_getElem? (i := 1899) (by decide +kernel), rfl⟩
theorem xw_1393 : Cond.instanceMethod yX10_lies ∈ xk_tg := List.mem_filter.mpr ⟨List.mem_of_getElem? (i := 1897) (by decide +kernel), rfl⟩
theorem xw_1394 : Cond.selects RX10 yX10_lies yX10_lies ∈ xk_tg := List.mem_filter.mpr ⟨List.mem_of_getElem? (i := 1898) (by decide +kernel), rfl⟩
theorem xw_1395 : Cond.methodLink RL 182 yX9_lies ∈ xk_tg := List.mem_filter.mpr ⟨List.mem_of_getElem? (i := 1100) (by decide +kernel), rfl⟩
theorem xw_1396 : Cond.code yX9_lies cX9_lies 2 (some .int) ∈ xk_tg := List.mem_filter.mpr ⟨List.mem_of_getElem? (i := 1103) (by decide +kernel), rfl⟩
theorem xw_1397 : Cond.instanceMethod yX9_lies ∈ xk_tg := List.mem_filter.mpr ⟨List.mem_of_getElem? (i := 1101) (by decide +kernel), rfl⟩
theorem xw_1398 : Cond.selects RX9 yX9_lies yX9_lies ∈ xk_tg := List.mem_filter.mpr ⟨List.mem_of_getElem? (i := 1102) (by decide +kernel), rfl⟩
theorem xw_1399 : Cond.methodLink RL 189 yX10_ask ∈ xk_tg := List.mem_filter.mpr ⟨List.mem_of_getElem? (i := 1900) (by decide +kernel), rfl⟩
theorem xw_1400 : Cond.code yX10_ask cX10_ask 3 (some .int) ∈ xk_tg := List.mem_filter.mpr ⟨List.mem_of_getElem? (i := 1903) (by decide +kernel), rfl⟩
theorem xw_1401 : Cond.instanceMethod yX10_ask ∈ xk_tg := List.mem_filter.mpr ⟨List.mem_of_getElem? (i := 1901) (by decide +kernel), rfl⟩
theorem xw_1402 : Cond.selects RX10 yX10_ask yX10_ask ∈ xk_tg := List.mem_filter.mpr ⟨List.mem_of_getElem? (i := 1902) (by decide +kernel), rfl⟩
theorem xw_1403 : Cond.methodLink RL 186 yX9_ask ∈ xk_tg := List.mem_filter.mpr ⟨List.mem_of_getElem? (i := 1104) (by decide +kernel), rfl⟩
theorem xw_1404 : Cond.code yX9_ask cX9_ask 3 (some .int) ∈ xk_tg := List.mem_filter.mpr ⟨List.mem_of_getElem? (i := 1107) (by decide +kernel), rfl⟩
theorem xw_1405 : Cond.instanceMethod yX9_ask ∈ xk_tg := List.mem_filter.mpr ⟨List.mem_of_getElem? (i := 1105) (by decide +kernel), rfl⟩
theorem xw_1406 : Cond.selects RX9 yX9_ask yX9_ask ∈ xk_tg := List.mem_filter.mpr ⟨List.mem_of_getElem? (i := 1106) (by decide +kernel), rfl⟩
theorem xw_1407 : Cond.methodLink RL 193 yX10_leaves ∈ xk_tg := List.mem_filter.mpr ⟨List.mem_of_getElem? (i := 1908) (by decide +kernel), rfl⟩
theorem xw_1408 : Cond.code yX10_leaves cX10_leaves 3 (some .int) ∈ xk_tg := List.mem_filter.mpr ⟨List.mem_of_getElem? (i := 1911) (by decide +kernel), rfl⟩
theorem xw_1409 : Cond.instanceMethod yX10_leaves ∈ xk_tg := List.mem_filter.mpr ⟨List.mem_of_getElem? (i := 1909) (by decide +kernel), rfl⟩
theorem xw_1410 : Cond.selects RX10 yX10_leaves yX10_leaves ∈ xk_tg := List.mem_filter.mpr ⟨List.mem_of_getElem? (i := 1910) (by decide +kernel), rfl⟩
theorem xw_1411 : Cond.methodLink RL 190 yX9_leaves ∈ xk_tg := List.mem_filter.mpr ⟨List.mem_of_getElem? (i := 1124) (by decide +kernel), rfl⟩
theorem xw_1412 : Cond.code yX9_leaves cX9_leaves 5 (some .int) ∈ xk_tg := List.mem_filter.mpr ⟨List.mem_of_getElem? (i := 1127) (by decide +kernel), rfl⟩
theorem xw_1413 : Cond.instanceMethod yX9_leaves ∈ xk_tg := List.mem_filter.mpr ⟨List.mem_of_getElem? (i := 1125) (by decide +kernel), rfl⟩
theorem xw_1414 : Cond.selects RX9 yX9_leaves yX9_leaves ∈ xk_tg := List.mem_filter.mpr ⟨List.mem_of_getElem? (i := 1126) (by decide +kernel), rfl⟩
theorem xw_1415 : Cond.methodLink RL 197 yX10_likely ∈ xk_tg := List.mem_filter.mpr ⟨List.mem_of_getElem? (i := 1912) (by decide +kernel), rfl⟩
theorem xw_1416 : Cond.code yX10_likely cX10_likely 6 (some .int) ∈ xk_tg := List.mem_filter.mpr ⟨List.mem_of_getElem? (i := 1915) (by decide +kernel), rfl⟩
theorem xw_1417 : Cond.instanceMethod yX10_likely ∈ xk_tg := List.mem_filter.mpr ⟨List.mem_of_getElem? (i := 1913) (by decide +kernel), rfl⟩
theorem xw_1418 : Cond.selects RX10 yX10_likely yX10_likely ∈ xk_tg := List.mem_filter.mpr ⟨List.mem_of_getElem? (i := 1914) (by decide +kernel), rfl⟩
theorem xw_1419 : Cond.methodLink RL 194 yX9_likely ∈ xk_tg := List.mem_filter.mpr ⟨List.mem_of_getElem? (i := 1128) (by decide +kernel), rfl⟩
theorem xw_1420 : Cond.code yX9_likely cX9_likely 7 (some .int) ∈ xk_tg := List.mem_filter.mpr ⟨List.mem_of_getElem? (i := 1131) (by decide +kernel), rfl⟩
theorem xw_1421 : Cond.instanceMethod yX9_likely ∈ xk_tg := List.mem_filter.mpr ⟨List.mem_of_getElem? (i := 1129) (by decide +kernel), rfl⟩
theorem xw_1422 : Cond.selects RX9 yX9_likely yX9_likely ∈ xk_tg := List.mem_filter.mpr ⟨List.mem_of_getElem? (i := 1130) (by decide +kernel), rfl⟩
theorem xw_1423 : Cond.methodLink RL 201 yX10_say ∈ xk_tg := List.mem_filter.mpr ⟨List.mem_of_getElem? (i := 1916) (by decide +kernel), rfl⟩
theorem xw_1424 : Cond.code yX10_say cX10_say 3 (some .int) ∈ xk_tg := List.mem_filter.mpr ⟨List.mem_of_getElem? (i := 1919) (by decide +kernel), rfl⟩
theorem xw_1425 : Cond.instanceMethod yX10_say ∈ xk_tg := List.mem_filter.mpr ⟨List.mem_of_getElem? (i := 1917) (by decide +kernel), rfl⟩
theorem xw_1426 : Cond.selects RX10 yX10_say yX10_say ∈ xk_tg := List.mem_filter.mpr ⟨List.mem_of_getElem? (i := 1918) (by decide +kernel), rfl⟩
theorem xw_1427 : Cond.methodLink RL 198 yX9_say ∈ xk_tg := List.mem_filter.mpr ⟨List.mem_of_getElem? (i := 1132) (by decide +kernel), rfl⟩
theorem xw_1428 : Cond.code yX9_say cX9_say 4 (some .int) ∈ xk_tg := List.mem_filter.mpr ⟨List.mem_of_getElem? (i := 1135) (by decide +kernel), rfl⟩
theorem xw_1429 : Cond.instanceMethod yX9_say ∈ xk_tg := List.mem_filter.mpr ⟨List.mem_of_getElem? (i := 1133) (by decide +kernel), rfl⟩
theorem xw_1430 : Cond.selects RX9 yX9_say yX9_say ∈ xk_tg := List.mem_filter.mpr ⟨List.mem_of_getElem? (i := 1134) (by decide +kernel), rfl⟩
theorem xw_1431 : Cond.methodLink RL 205 yX10_unsay ∈ xk_tg := List.mem_filter.mpr ⟨List.mem_of_getElem? (i := 1924) (by decide +kernel), rfl⟩
theorem xw_1432 : Cond.code yX10_unsay cX10_unsay 1 (some .int) ∈ xk_tg := List.mem_filter.mpr ⟨List.mem_of_getElem? (i := 1927) (by decide +kernel), rfl⟩
theorem xw_1433 : Cond.instanceMethod yX10_unsay ∈ xk_tg := List.mem_filter.mpr ⟨List.mem_of_getElem? (i := 1925) (by decide +kernel), rfl⟩
theorem xw_1434 : Cond.selects RX10 yX10_unsay yX10_unsay ∈ xk_tg := List.mem_filter.mpr ⟨List.mem_of_getElem? (i := 1926) (by decide +kernel), rfl⟩
theorem xw_1435 : Cond.methodLink RL 202 yX9_unsay ∈ xk_tg := List.mem_filter.mpr ⟨List.mem_of_getElem? (i := 1141) (by decide +kernel), rfl⟩
theorem xw_1436 : Cond.code yX9_unsay cX9_unsay 1 (some .int) ∈ xk_tg := List.mem_filter.mpr ⟨List.mem_of_getElem? (i := 1144) (by decide +kernel), rfl⟩
theorem xw_1437 : Cond.instanceMethod yX9_unsay ∈ xk_tg := List.mem_filter.mpr ⟨List.mem_of_getElem? (i := 1142) (by decide +kernel), rfl⟩
theorem xw_1438 : Cond.selects RX9 yX9_unsay yX9_unsay ∈ xk_tg := List.mem_filter.mpr ⟨List.mem_of_getElem? (i := 1143) (by decide +kernel), rfl⟩
theorem xw_1439 : Cond.methodLink RL 209 yX10_anew ∈ xk_tg := List.mem_filter.mpr ⟨List.mem_of_getElem? (i := 1928) (by decide +kernel), rfl⟩
theorem xw_1440 : Cond.code yX10_anew cX10_anew 2 (some .int) ∈ xk_tg := List.mem_filter.mpr ⟨List.mem_of_getElem? (i := 1931) (by decide +kernel), rfl⟩
theorem xw_1441 : Cond.instanceMethod yX10_anew ∈ xk_tg := List.mem_filter.mpr ⟨List.mem_of_getElem? (i := 1929) (by decide +kernel), rfl⟩
theorem xw_1442 : Cond.selects RX10 yX10_anew yX10_anew ∈ xk_tg := List.mem_filter.mpr ⟨List.mem_of_getElem? (i := 1930) (by decide +kernel), rfl⟩
theorem xw_1443 : Cond.methodLink RL 206 yX9_anew ∈ xk_tg := List.mem_filter.mpr ⟨List.mem_of_getElem? (i := 1149) (by decide +kernel), rfl⟩
theorem xw_1444 : Cond.code yX9_anew cX9_anew 2 (some .int) ∈ xk_tg := List.mem_filter.mpr ⟨List.mem_of_getElem? (i := 1152) (by decide +kernel), rfl⟩
theorem xw_1445 : Cond.instanceMethod yX9_anew ∈ xk_tg := List.mem_filter.mpr ⟨List.mem_of_getElem? (i := 1150) (by decide +kernel), rfl⟩
theorem xw_1446 : Cond.selects RX9 yX9_anew yX9_anew ∈ xk_tg := List.mem_filter.mpr ⟨List.mem_of_getElem? (i := 1151) (by decide +kernel), rfl⟩
theorem xw_1447 : Cond.methodLink RL 213 yX10_said ∈ xk_tg := List.mem_filter.mpr ⟨List.mem_of_getElem? (i := 1932) (by decide +kernel), rfl⟩
theorem xw_1448 : Cond.code yX10_said cX10_said 2 (some .int) ∈ xk_tg := List.mem_filter.mpr ⟨List.mem_of_getElem? (i := 1935) (by decide +kernel), rfl⟩
theorem xw_1449 : Cond.instanceMethod yX10_said ∈ xk_tg := List.mem_filter.mpr ⟨List.mem_of_getElem? (i := 1933) (by decide +kernel), rfl⟩
theorem xw_1450 : Cond.selects RX10 yX10_said yX10_said ∈ xk_tg := List.mem_filter.mpr ⟨List.mem_of_getElem? (i := 1934) (by decide +kernel), rfl⟩
theorem xw_1451 : Cond.methodLink RL 210 yX9_said ∈ xk_tg := List.mem_filter.mpr ⟨List.mem_of_getElem? (i := 1154) (by decide +kernel), rfl⟩
theorem xw_1452 : Cond.code yX9_said cX9_said 2 (some .int) ∈ xk_tg := List.mem_filter.mpr ⟨List.mem_of_getElem? (i := 1157) (by decide +kernel), rfl⟩
theorem xw_1453 : Cond.instanceMethod yX9_said ∈ xk_tg := List.mem_filter.mpr ⟨List.mem_of_getElem? (i := 1155) (by decide +kernel), rfl⟩
theorem xw_1454 : Cond.selects RX9 yX9_said yX9_said ∈ xk_tg := List.mem_filter.mpr ⟨List.mem_of_getElem? (i := 1156) (by decide +kernel), rfl⟩
theorem xw_1455 : Cond.methodLink RL 217 yX10_may ∈ xk_tg := List.mem_filter.mpr ⟨List.mem_of_getElem? (i := 1936) (by decide +kernel), rfl⟩
theorem xw_1456 : Cond.code yX10_may cX10_may 2 (some .int) ∈ xk_tg := List.mem_filter.mpr ⟨List.mem_of_getElem? (i := 1939) (by decide +kernel), rfl⟩
theorem xw_1457 : Cond.instanceMethod yX10_may ∈ xk_tg := List.mem_filter.mpr ⟨List.mem_of_getElem? (i := 1937) (by decide +kernel), rfl⟩
theorem xw_1458 : Cond.selects RX10 yX10_may yX10_may ∈ xk_tg := List.mem_filter.mpr ⟨List.mem_of_getElem? (i := 1938) (by decide +kernel), rfl⟩
theorem xw_1459 : Cond.methodLink RL 214 yX9_may ∈ xk_tg := List.mem_filter.mpr ⟨List.mem_of_getElem? (i := 1158) (by decide +kernel), rfl⟩
theorem xw_1460 : Cond.code yX9_may cX9_may 3 (some .int) ∈ xk_tg := List.mem_filter.mpr ⟨List.mem_of_getElem? (i := 1161) (by decide +kernel), rfl⟩
theorem xw_1461 : Cond.instanceMethod yX9_may ∈ xk_tg := List.mem_filter.mpr ⟨List.mem_of_getElem? (i := 1159) (by decide +kernel), rfl⟩
theorem xw_1462 : Cond.selects RX9 yX9_may yX9_may ∈ xk_tg := List.mem_filter.mpr ⟨List.mem_of_getElem? (i := 1160) (by decide +kernel), rfl⟩
theorem xw_1463 : Cond.methodLink RL 221 yX10_left ∈ xk_tg := List.mem_filter.mpr ⟨List.mem_of_getElem? (i := 1940) (by decide +kernel), rfl⟩
theorem xw_1464 : Cond.code yX10_left cX10_left 1 (some .int) ∈ xk_tg := List.mem_filter.mpr ⟨List.mem_of_getElem? (i := 1943) (by decide +kernel), rfl⟩
theorem xw_1465 : Cond.instanceMethod yX10_left ∈ xk_tg := List.mem_filter.mpr ⟨List.mem_of_getElem? (i := 1941) (by decide +kernel), rfl⟩
theorem xw_1466 : Cond.selects RX10 yX10_left yX10_left ∈ xk_tg := List.mem_filter.mpr ⟨List.mem_of_getElem? (i := 1942) (by decide +kernel), rfl⟩
theorem xw_1467 : Cond.methodLink RL 218 yX9_left ∈ xk_tg := List.mem_filter.mpr ⟨List.mem_of_getElem? (i := 1162) (by decide +kernel), rfl⟩
theorem xw_1468 : Cond.code yX9_left cX9_left 1 (some .int) ∈ xk_tg := List.mem_filter.mpr ⟨List.mem_of_getElem? (i := 1165) (by decide +kernel), rfl⟩
theorem xw_1469 : Cond.instanceMethod yX9_left ∈ xk_tg := List.mem_filter.mpr ⟨List.mem_of_getElem? (i := 1163) (by decide +kernel), rfl⟩
theorem xw_1470 : Cond.selects RX9 yX9_left yX9_left ∈ xk_tg := List.mem_filter.mpr ⟨List.mem_of_getElem? (i := 1164) (by decide +kernel), rfl⟩
theorem xw_1471 : Cond.methodLink RL 225 yX10_forced ∈ xk_tg := List.mem_filter.mpr ⟨List.mem_of_getElem? (i := 1944) (by decide +kernel), rfl⟩
theorem xw_1472 : Cond.code yX10_forced cX10_forced 3 (some .int) ∈ xk_tg := List.mem_filter.mpr ⟨List.mem_of_getElem? (i := 1947) (by decide +kernel), rfl⟩
theorem xw_1473 : Cond.instanceMethod yX10_forced ∈ xk_tg := List.mem_filter.mpr ⟨List.mem_of_getElem? (i := 1945) (by decide +kernel), rfl⟩
theorem xw_1474 : Cond.selects RX10 yX10_forced yX10_forced ∈ xk_tg := List.mem_filter.mpr ⟨List.mem_of_getElem? (i := 1946) (by decide +kernel), rfl⟩
theorem xw_1475 : Cond.methodLink RL 222 yX9_forced ∈ xk_tg := List.mem_filter.mpr ⟨List.mem_of_getElem? (i := 1166) (by decide +kernel), rfl⟩
theorem xw_1476 : Cond.code yX9_forced cX9_forced 2 (some .int) ∈ xk_tg := List.mem_filter.mpr ⟨List.mem_of_getElem? (i := 1169) (by decide +kernel), rfl⟩
theorem xw_1477 : Cond.instanceMethod yX9_forced ∈ xk_tg := List.mem_filter.mpr ⟨List.mem_of_getElem? (i := 1167) (by decide +kernel), rfl⟩
theorem xw_1478 : Cond.selects RX9 yX9_forced yX9_forced ∈ xk_tg := List.mem_filter.mpr ⟨List.mem_of_getElem? (i := 1168) (by decide +kernel), rfl⟩
theorem xw_1479 : Cond.methodLink RL 229 yX10_lied ∈ xk_tg := List.mem_filter.mpr ⟨List.mem_of_getElem? (i := 1949) (by decide +kernel), rfl⟩
theorem xw_1480 : Cond.code yX10_lied cX10_lied 3 (some .int) ∈ xk_tg := List.mem_filter.mpr ⟨List.mem_of_getElem? (i := 1952) (by decide +kernel), rfl⟩
theorem xw_1481 : Cond.instanceMethod yX10_lied ∈ xk_tg := List.mem_filter.mpr ⟨List.mem_of_getElem? (i := 1950) (by decide +kernel), rfl⟩
theorem xw_1482 : Cond.selects RX10 yX10_lied yX10_lied ∈ xk_tg := List.mem_filter.mpr ⟨List.mem_of_getElem? (i := 1951) (by decide +kernel), rfl⟩
theorem xw_1483 : Cond.methodLink RL 226 yX9_lied ∈ xk_tg := List.mem_filter.mpr ⟨List.mem_of_getElem? (i := 1170) (by decide +kernel), rfl⟩
theorem xw_1484 : Cond.code yX9_lied cX9_lied 1 (some .int) ∈ xk_tg := List.mem_filter.mpr ⟨List.mem_of_getElem? (i := 1173) (by decide +kernel), rfl⟩
theorem xw_1485 : Cond.instanceMethod yX9_lied ∈ xk_tg := List.mem_filter.mpr ⟨List.mem_of_getElem? (i := 1171) (by decide +kernel), rfl⟩
theorem xw_1486 : Cond.selects RX9 yX9_lied yX9_lied ∈ xk_tg := List.mem_filter.mpr ⟨List.mem_of_getElem? (i := 1172) (by decide +kernel), rfl⟩
theorem xw_1487 : Cond.methodLink RL 233 yX10_still ∈ xk_tg := List.mem_filter.mpr ⟨List.mem_of_getElem? (i := 1953) (by decide +kernel), rfl⟩
theorem xw_1488 : Cond.code yX10_still cX10_still 2 (some .int) ∈ xk_tg := List.mem_filter.mpr ⟨List.mem_of_getElem? (i := 1956) (by decide +kernel), rfl⟩
theorem xw_1489 : Cond.instanceMethod yX10_still ∈ xk_tg := List.mem_filter.mpr ⟨List.mem_of_getElem? (i := 1954) (by decide +kernel), rfl⟩
theorem xw_1490 : Cond.selects RX10 yX10_still yX10_still ∈ xk_tg := List.mem_filter.mpr ⟨List.mem_of_getElem? (i := 1955) (by decide +kernel), rfl⟩
theorem xw_1491 : Cond.methodLink RL 230 yX9_still ∈ xk_tg := List.mem_filter.mpr ⟨List.mem_of_getElem? (i := 1174) (by decide +kernel), rfl⟩
theorem xw_1492 : Cond.code yX9_still cX9_still 1 (some .int) ∈ xk_tg := List.mem_filter.mpr ⟨List.mem_of_getElem? (i := 1177) (by decide +kernel), rfl⟩
theorem xw_1493 : Cond.instanceMethod yX9_still ∈ xk_tg := List.mem_filter.mpr ⟨List.mem_of_getElem? (i := 1175) (by decide +kernel), rfl⟩
theorem xw_1494 : Cond.selects RX9 yX9_still yX9_still ∈ xk_tg := List.mem_filter.mpr ⟨List.mem_of_getElem? (i := 1176) (by decide +kernel), rfl⟩
theorem xw_1495 : Cond.methodLink RL 237 yX10_witnesses ∈ xk_tg := List.mem_filter.mpr ⟨List.mem_of_getElem? (i := 1957) (by decide +kernel), rfl⟩
theorem xw_1496 : Cond.code yX10_witnesses cX10_witnesses 2 (some .int) ∈ xk_tg := List.mem_filter.mpr ⟨List.mem_of_getElem? (i := 1960) (by decide +kernel), rfl⟩
theorem xw_1497 : Cond.instanceMethod yX10_witnesses ∈ xk_tg := List.mem_filter.mpr ⟨List.mem_of_getElem? (i := 1958) (by decide +kernel), rfl⟩
theorem xw_1498 : Cond.selects RX10 yX10_witnesses yX10_witnesses ∈ xk_tg := List.mem_filter.mpr ⟨List.mem_of_getElem? (i := 1959) (by decide +kernel), rfl⟩
theorem xw_1499 : Cond.methodLink RL 234 yX9_witnesses ∈ xk_tg := List.mem_filter.mpr ⟨List.mem_of_getElem? (i := 1178) (by decide +kernel), rfl⟩
theorem xw_1500 : Cond.code yX9_witnesses cX9_witnesses 2 (some .int) ∈ xk_tg := List.mem_filter.mpr ⟨List.mem_of_getElem? (i := 1181) (by decide +kernel), rfl⟩
theorem xw_1501 : Cond.instanceMethod yX9_witnesses ∈ xk_tg := List.mem_filter.mpr ⟨List.mem_of_getElem? (i := 1179) (by decide +kernel), rfl⟩
theorem xw_1502 : Cond.selects RX9 yX9_witnesses yX9_witnesses ∈ xk_tg := List.mem_filter.mpr ⟨List.mem_of_getElem? (i := 1180) (by decide +kernel), rfl⟩
theorem xw_1503 : Cond.methodLink RL 241 yX10_mates ∈ xk_tg := List.mem_filter.mpr ⟨List.mem_of_getElem? (i := 1961) (by decide +kernel), rfl⟩
theorem xw_1504 : Cond.code yX10_mates cX10_mates 1 (some .int) ∈ xk_tg := List.mem_filter.mpr ⟨List.mem_of_getElem? (i := 1964) (by decide +kernel), rfl⟩
theorem xw_1505 : Cond.instanceMethod yX10_mates ∈ xk_tg := List.mem_filter.mpr ⟨List.mem_of_getElem? (i := 1962) (by decide +kernel), rfl⟩
theorem xw_1506 : Cond.selects RX10 yX10_mates yX10_mates ∈ xk_tg := List.mem_filter.mpr ⟨List.mem_of_getElem? (i := 1963) (by decide +kernel), rfl⟩
theorem xw_1507 : Cond.methodLink RL 238 yX9_mates ∈ xk_tg := List.mem_filter.mpr ⟨List.mem_of_getElem? (i := 1183) (by decide +kernel), rfl⟩
theorem xw_1508 : Cond.code yX9_mates cX9_mates 1 (some .int) ∈ xk_tg := List.mem_filter.mpr ⟨List.mem_of_getElem? (i := 1186) (by decide +kernel), rfl⟩
theorem xw_1509 : Cond.instanceMethod yX9_mates ∈ xk_tg := List.mem_filter.mpr ⟨List.mem_of_getElem? (i := 1184) (by decide +kernel), rfl⟩
theorem xw_1510 : Cond.selects RX9 yX9_mates yX9_mates ∈ xk_tg := List.mem_filter.mpr ⟨List.mem_of_getElem? (i := 1185) (by decide +kernel), rfl⟩
theorem xw_1511 : Cond.methodLink RL 245 yX10_mated ∈ xk_tg := List.mem_filter.mpr ⟨List.mem_of_getElem? (i := 1965) (by decide +kernel), rfl⟩
theorem xw_1512 : Cond.code yX10_mated cX10_mated 1 (some .int) ∈ xk_tg := List.mem_filter.mpr ⟨List.mem_of_getElem? (i := 1968) (by decide +kernel), rfl⟩
theorem xw_1513 : Cond.instanceMethod yX10_mated ∈ xk_tg := List.mem_filter.mpr ⟨List.mem_of_getElem? (i := 1966) (by decide +kernel), rfl⟩
theorem xw_1514 : Cond.selects RX10 yX10_mated yX10_mated ∈ xk_tg := List.mem_filter.mpr ⟨List.mem_of_getElem? (i := 1967) (by decide +kernel), rfl⟩
theorem xw_1515 : Cond.methodLink RL 242 yX9_mated ∈ xk_tg := List.mem_filter.mpr ⟨List.mem_of_getElem? (i := 1187) (by decide +kernel), rfl⟩
theorem xw_1516 : Cond.methodLink RL 249 yX10_quiet ∈ xk_tg := List.mem_filter.mpr ⟨List.mem_of_getElem? (i := 1969) (by decide +kernel), rfl⟩
theorem xw_1517 : Cond.code yX10_quiet cX10_quiet 3 (some .int) ∈ xk_tg := List.mem_filter.mpr ⟨List.mem_of_getElem? (i := 1972) (by decide +kernel), rfl⟩
theorem xw_1518 : Cond.instanceMethod yX10_quiet ∈ xk_tg := List.mem_filter.mpr ⟨List.mem_of_getElem? (i := 1970) (by decide +kernel), rfl⟩
theorem xw_1519 : Cond.selects RX10 yX10_quiet yX10_quiet ∈ xk_tg := List.mem_filter.mpr ⟨List.mem_of_getElem? (i := 1971) (by decide +kernel), rfl⟩
theorem xw_1520 : Cond.methodLink RL 246 yX9_quiet ∈ xk_tg := List.mem_filter.mpr ⟨List.mem_of_getElem? (i := 1191) (by decide +kernel), rfl⟩
theorem xw_1521 : Cond.code yX9_quiet cX9_quiet 3 (some .int) ∈ xk_tg := List.mem_filter.mpr ⟨List.mem_of_getElem? (i := 1194) (by decide +kernel), rfl⟩
theorem xw_1522 : Cond.instanceMethod yX9_quiet ∈ xk_tg := List.mem_filter.mpr ⟨List.mem_of_getElem? (i := 1192) (by decide +kernel), rfl⟩
theorem xw_1523 : Cond.selects RX9 yX9_quiet yX9_quiet ∈ xk_tg := List.mem_filter.mpr ⟨List.mem_of_getElem? (i := 1193) (by decide +kernel), rfl⟩
theorem xw_1524 : Cond.methodLink RL 253 yX10_few ∈ xk_tg := List.mem_filter.mpr ⟨List.mem_of_getElem? (i := 1977) (by decide +kernel), rfl⟩
theorem xw_1525 : Cond.code yX10_few cX10_few 1 (some .int) ∈ xk_tg := List.mem_filter.mpr ⟨List.mem_of_getElem? (i := 1980) (by decide +kernel), rfl⟩
theorem xw_1526 : Cond.instanceMethod yX10_few ∈ xk_tg := List.mem_filter.mpr ⟨List.mem_of_getElem? (i := 1978) (by decide +kernel), rfl⟩
theorem xw_1527 : Cond.selects RX10 yX10_few yX10_few ∈ xk_tg := List.mem_filter.mpr ⟨List.mem_of_getElem? (i := 1979) (by decide +kernel), rfl⟩
theorem xw_1528 : Cond.methodLink RL 250 yX9_few ∈ xk_tg := List.mem_filter.mpr ⟨List.mem_of_getElem? (i := 1199) (by decide +kernel), rfl⟩
theorem xw_1529 : Cond.code yX9_few cX9_few 1 (some .int) ∈ xk_tg := List.mem_filter.mpr ⟨List.mem_of_getElem? (i := 1202) (by decide +kernel), rfl⟩
theorem xw_1530 : Cond.instanceMethod yX9_few ∈ xk_tg := List.mem_filter.mpr ⟨List.mem_of_getElem? (i := 1200) (by decide +kernel), rfl⟩
theorem xw_1531 : Cond.selects RX9 yX9_few yX9_few ∈ xk_tg := List.mem_filter.mpr ⟨List.mem_of_getElem? (i := 1201) (by decide +kernel), rfl⟩
theorem xw_1532 : Cond.methodLink RL 257 yX10_whom ∈ xk_tg := List.mem_filter.mpr ⟨List.mem_of_getElem? (i := 1981) (by decide +kernel), rfl⟩
theorem xw_1533 : Cond.code yX10_whom cX10_whom 4 (some .int) ∈ xk_tg := List.mem_filter.mpr ⟨List.mem_of_getElem? (i := 1984) (by decide +kernel), rfl⟩
theorem xw_1534 : Cond.instanceMethod yX10_whom ∈ xk_tg := List.mem_filter.mpr ⟨List.mem_of_getElem? (i := 1982) (by decide +kernel), rfl⟩
theorem xw_1535 : Cond.selects RX10 yX10_whom yX10_whom ∈ xk_tg := List.mem_filter.mpr ⟨List.mem_of_getElem? (i := 1983) (by decide +kernel), rfl⟩
theorem xw_1536 : Cond.methodLink RL 254 yX9_whom ∈ xk_tg := List.mem_filter.mpr ⟨List.mem_of_getElem? (i := 1203) (by decide +kernel), rfl⟩
theorem xw_1537 : Cond.code yX9_whom cX9_whom 1 (some .int) ∈ xk_tg := List.mem_filter.mpr ⟨List.mem_of_getElem? (i := 1206) (by decide +kernel), rfl⟩
theorem xw_1538 : Cond.instanceMethod yX9_whom ∈ xk_tg := List.mem_filter.mpr ⟨List.mem_of_getElem? (i := 1204) (by decide +kernel), rfl⟩
theorem xw_1539 : Cond.selects RX9 yX9_whom yX9_whom ∈ xk_tg := List.mem_filter.mpr ⟨List.mem_of_getElem? (i := 1205) (by decide +kernel), rfl⟩
theorem xw_1540 : Cond.methodLink RL 261 yX10_slips ∈ xk_tg := List.mem_filter.mpr ⟨List.mem_of_getElem? (i := 1985) (by decide +kernel), rfl⟩
theorem xw_1541 : Cond.code yX10_slips cX10_slips 3 (some .int) ∈ xk_tg := List.mem_filter.mpr ⟨List.mem_of_getElem? (i := 1988) (by decide +kernel), rfl⟩
theorem xw_1542 : Cond.instanceMethod yX10_slips ∈ xk_tg := List.mem_filter.mpr ⟨List.mem_of_getElem? (i := 1986) (by decide +kernel), rfl⟩
theorem xw_1543 : Cond.selects RX10 yX10_slips yX10_slips ∈ xk_tg := List.mem_filter.mpr ⟨List.mem_of_getElem? (i := 1987) (by decide +kernel), rfl⟩
theorem xw_1544 : Cond.methodLink RL 258 yX9_slips ∈ xk_tg := List.mem_filter.mpr ⟨List.mem_of_getElem? (i := 1207) (by decide +kernel), rfl⟩
theorem xw_1545 : Cond.code yX9_slips cX9_slips 3 (some .int) ∈ xk_tg := List.mem_filter.mpr ⟨List.mem_of_getElem? (i := 1210) (by decide +kernel), rfl⟩
theorem xw_1546 : Cond.instanceMethod yX9_slips ∈ xk_tg := List.mem_filter.mpr ⟨List.mem_of_getElem? (i := 1208) (by decide +kernel), rfl⟩
theorem xw_1547 : Cond.selects RX9 yX9_slips yX9_slips ∈ xk_tg := List.mem_filter.mpr ⟨List.mem_of_getElem? (i := 1209) (by decide +kernel), rfl⟩
theorem xw_1548 : Cond.methodLink RL 265 yX10_naive ∈ xk_tg := List.mem_filter.mpr ⟨List.mem_of_getElem? (i := 1989) (by decide +kernel), rfl⟩
theorem xw_1549 : Cond.code yX10_naive cX10_naive 2 (some .int) ∈ xk_tg := List.mem_filter.mpr ⟨List.mem_of_getElem? (i := 1992) (by decide +kernel), rfl⟩
theorem xw_1550 : Cond.instanceMethod yX10_naive ∈ xk_tg := List.mem_filter.mpr ⟨List.mem_of_getElem? (i := 1990) (by decide +kernel), rfl⟩
theorem xw_1551 : Cond.selects RX10 yX10_naive yX10_naive ∈ xk_tg := List.mem_filter.mpr ⟨List.mem_of_getElem? (i := 1991) (by decide +kernel), rfl⟩
theorem xw_1552 : Cond.methodLink RL 262 yX9_naive ∈ xk_tg := List.mem_filter.mpr ⟨List.mem_of_getElem? (i := 1212) (by decide +kernel), rfl⟩
theorem xw_1553 : Cond.code yX9_naive cX9_naive 2 (some .int) ∈ xk_tg := List.mem_filter.mpr ⟨List.mem_of_getElem? (i := 1215) (by decide +kernel), rfl⟩
theorem xw_1554 : Cond.instanceMethod yX9_naive ∈ xk_tg := List.mem_filter.mpr ⟨List.mem_of_getElem? (i := 1213) (by decide +kernel), rfl⟩
theorem xw_1555 : Cond.selects RX9 yX9_naive yX9_naive ∈ xk_tg := List.mem_filter.mpr ⟨List.mem_of_getElem? (i := 1214) (by decide +kernel), rfl⟩
theorem xw_1556 : Cond.methodLink RL 269 yX10_change ∈ xk_tg := List.mem_filter.mpr ⟨List.mem_of_getElem? (i := 1997) (by decide +kernel), rfl⟩
theorem xw_1557 : Cond.code yX10_change cX10_change 2 (some .int) ∈ xk_tg := List.mem_filter.mpr ⟨List.mem_of_getElem? (i := 2000) (by decide +kernel), rfl⟩
theorem xw_1558 : Cond.instanceMethod yX10_change ∈ xk_tg := List.mem_filter.mpr ⟨List.mem_of_getElem? (i := 1998) (by decide +kernel), rfl⟩
theorem xw_1559 : Cond.selects RX10 yX10_change yX10_change ∈ xk_tg := List.mem_filter.mpr ⟨List.mem_of_getElem? (i := 1999) (by decide +kernel), rfl⟩
theorem xw_1560 : Cond.methodLink RL 266 yX9_change ∈ xk_tg := List.mem_filter.mpr ⟨List.mem_of_getElem? (i := 1226) (by decide +kernel), rfl⟩
theorem xw_1561 : Cond.code yX9_change cX9_change 2 (some .int) ∈ xk_tg := List.mem_filter.mpr ⟨List.mem_of_getElem? (i := 1229) (by decide +kernel), rfl⟩
theorem xw_1562 : Cond.instanceMethod yX9_change ∈ xk_tg := List.mem_filter.mpr ⟨List.mem_of_getElem? (i := 1227) (by decide +kernel), rfl⟩
theorem xw_1563 : Cond.selects RX9 yX9_change yX9_change ∈ xk_tg := List.mem_filter.mpr ⟨List.mem_of_getElem? (i := 1228) (by decide +kernel), rfl⟩
theorem xw_1564 : Cond.methodLink RL 274 yX10_drawn ∈ xk_tg := List.mem_filter.mpr ⟨List.mem_of_getElem? (i := 2001) (by decide +kernel), rfl⟩
theorem xw_1565 : Cond.code yX10_drawn cX10_drawn 5 (some .int) ∈ xk_tg := List.mem_filter.mpr ⟨List.mem_of_getElem? (i := 2004) (by decide +kernel), rfl⟩
theorem xw_1566 : Cond.instanceMethod yX10_drawn ∈ xk_tg := List.mem_filter.mpr ⟨List.mem_of_getElem? (i := 2002) (by decide +kernel), rfl⟩
theorem xw_1567 : Cond.selects RX10 yX10_drawn yX10_drawn ∈ xk_tg := List.mem_filter.mpr ⟨List.mem_of_getElem? (i := 2003) (by decide +kernel), rfl⟩
theorem xw_1568 : Cond.methodLink RL 270 yX9_drawn ∈ xk_tg := List.mem_filter.mpr ⟨List.mem_of_getElem? (i := 1230) (by decide +kernel), rfl⟩
theorem xw_1569 : Cond.code yX9_drawn cX9_drawn 5 (some .int) ∈ xk_tg := List.mem_filter.mpr ⟨List.mem_of_getElem? (i := 1233) (by decide +kernel), rfl⟩
theorem xw_1570 : Cond.instanceMethod yX9_drawn ∈ xk_tg := List.mem_filter.mpr ⟨List.mem_of_getElem? (i := 1231) (by decide +kernel), rfl⟩
theorem xw_1571 : Cond.selects RX9 yX9_drawn yX9_drawn ∈ xk_tg := List.mem_filter.mpr ⟨List.mem_of_getElem? (i := 1232) (by decide +kernel), rfl⟩
theorem xw_1572 : Cond.methodLink RL 278 yX10_luck ∈ xk_tg := List.mem_filter.mpr ⟨List.mem_of_getElem? (i := 2019) (by decide +kernel), rfl⟩
theorem xw_1573 : Cond.code yX10_luck cX10_luck 7 (some .int) ∈ xk_tg := List.mem_filter.mpr ⟨List.mem_of_getElem? (i := 2022) (by decide +kernel), rfl⟩
theorem xw_1574 : Cond.instanceMethod yX10_luck ∈ xk_tg := List.mem_filter.mpr ⟨List.mem_of_getElem? (i := 2020) (by decide +kernel), rfl⟩
theorem xw_1575 : Cond.selects RX10 yX10_luck yX10_luck ∈ xk_tg := List.mem_filter.mpr ⟨List.mem_of_getElem? (i := 2021) (by decide +kernel), rfl⟩
theorem xw_1576 : Cond.methodLink RL 275 yX9_luck ∈ xk_tg := List.mem_filter.mpr ⟨List.mem_of_getElem? (i := 1256) (by decide +kernel), rfl⟩
theorem xw_1577 : Cond.code yX9_luck cX9_luck 7 (some .int) ∈ xk_tg := List.mem_filter.mpr ⟨List.mem_of_getElem? (i := 1259) (by decide +kernel), rfl⟩
theorem xw_1578 : Cond.instanceMethod yX9_luck ∈ xk_tg := List.mem_filter.mpr ⟨List.mem_of_getElem? (i := 1257) (by decide +kernel), rfl⟩
theorem xw_1579 : Cond.selects RX9 yX9_luck yX9_luck ∈ xk_tg := List.mem_filter.mpr ⟨List.mem_of_getElem? (i := 1258) (by decide +kernel), rfl⟩
theorem xw_1580 : Cond.methodLink RL 282 yX10_learn ∈ xk_tg := List.mem_filter.mpr ⟨List.mem_of_getElem? (i := 2024) (by decide +kernel), rfl⟩
theorem xw_1581 : Cond.code yX10_learn cX10_learn 4 (some .int) ∈ xk_tg := List.mem_filter.mpr ⟨List.mem_of_getElem? (i := 2027) (by decide +kernel), rfl⟩
theorem xw_1582 : Cond.instanceMethod yX10_learn ∈ xk_tg := List.mem_filter.mpr ⟨List.mem_of_getElem? (i := 2025) (by decide +kernel), rfl⟩
theorem xw_1583 : Cond.selects RX10 yX10_learn yX10_learn ∈ xk_tg := List.mem_filter.mpr ⟨List.mem_of_getElem? (i := 2026) (by decide +kernel), rfl⟩
theorem xw_1584 : Cond.methodLink RL 279 yX9_learn ∈ xk_tg := List.mem_filter.mpr ⟨List.mem_of_getElem? (i := 1260) (by decide +kernel), rfl⟩
theorem xw_1585 : Cond.code yX9_learn cX9_learn 4 (some .int) ∈ xk_tg := List.mem_filter.mpr ⟨List.mem_of_getElem? (i := 1263) (by decide +kernel), rfl⟩
theorem xw_1586 : Cond.instanceMethod yX9_learn ∈ xk_tg := List.mem_filter.mpr ⟨List.mem_of_getElem? (i := 1261) (by decide +kernel), rfl⟩
theorem xw_1587 : Cond.selects RX9 yX9_learn yX9_learn ∈ xk_tg := List.mem_filter.mpr ⟨List.mem_of_getElem? (i := 1262) (by decide +kernel), rfl⟩
theorem xw_1588 : Cond.methodLink RL 286 yX10_wish ∈ xk_tg := List.mem_filter.mpr ⟨List.mem_of_getElem? (i := 2028) (by decide +kernel), rfl⟩
theorem xw_1589 : Cond.code yX10_wish cX10_wish 5 (some .int) ∈ xk_tg := List.mem_filter.mpr ⟨List.mem_of_getElem? (i := 2031) (by decide +kernel), rfl⟩
theorem xw_1590 : Cond.instanceMethod yX10_wish ∈ xk_tg := List.mem_filter.mpr ⟨List.mem_of_getElem? (i := 2029) (by decide +kernel), rfl⟩
theorem xw_1591 : Cond.selects RX10 yX10_wish yX10_wish ∈ xk_tg := List.mem_filter.mpr ⟨List.mem_of_getElem? (i := 2030) (by decide +kernel), rfl⟩
theorem xw_1592 : Cond.methodLink RL 283 yX9_wish ∈ xk_tg := List.mem_filter.mpr ⟨List.mem_of_getElem? (i := 1265) (by decide +kernel), rfl⟩
theorem xw_1593 : Cond.code yX9_wish cX9_wish 4 (some .int) ∈ xk_tg := List.mem_filter.mpr ⟨List.mem_of_getElem? (i := 1268) (by decide +kernel), rfl⟩
theorem xw_1594 : Cond.instanceMethod yX9_wish ∈ xk_tg := List.mem_filter.mpr ⟨List.mem_of_getElem? (i := 1266) (by decide +kernel), rfl⟩
theorem xw_1595 : Cond.selects RX9 yX9_wish yX9_wish ∈ xk_tg := List.mem_filter.mpr ⟨List.mem_of_getElem? (i := 1267) (by decide +kernel), rfl⟩
theorem xw_1596 : Cond.methodLink RL 291 yX10_price ∈ xk_tg := List.mem_filter.mpr ⟨List.mem_of_getElem? (i := 2032) (by decide +kernel), rfl⟩
theorem xw_1597 : Cond.code yX10_price cX10_price 5 (some .int) ∈ xk_tg := List.mem_filter.mpr ⟨List.mem_of_getElem? (i := 2035) (by decide +kernel), rfl⟩
theorem xw_1598 : Cond.instanceMethod yX10_price ∈ xk_tg := List.mem_filter.mpr ⟨List.mem_of_getElem? (i := 2033) (by decide +kernel), rfl⟩
theorem xw_1599 : Cond.selects RX10 yX10_price yX10_price ∈ xk_tg := List.mem_filter.mpr ⟨List.mem_of_getElem? (i := 2034) (by decide +kernel), rfl⟩
theorem xw_1600 : Cond.methodLink RL 287 yX9_price ∈ xk_tg := List.mem_filter.mpr ⟨List.mem_of_getElem? (i := 1270) (by decide +kernel), rfl⟩
theorem xw_1601 : Cond.code yX9_price cX9_price 8 (some .int) ∈ xk_tg := List.mem_filter.mpr ⟨List.mem_of_getElem? (i := 1273) (by decide +kernel), rfl⟩
theorem xw_1602 : Cond.instanceMethod yX9_price ∈ xk_tg := List.mem_filter.mpr ⟨List.mem_of_getElem? (i := 1271) (by decide +kernel), rfl⟩
theorem xw_1603 : Cond.selects RX9 yX9_price yX9_price ∈ xk_tg := List.mem_filter.mpr ⟨List.mem_of_getElem? (i := 1272) (by decide +kernel), rfl⟩
theorem xw_1604 : Cond.methodLink RL 295 yX10_count ∈ xk_tg := List.mem_filter.mpr ⟨List.mem_of_getElem? (i := 2037) (by decide +kernel), rfl⟩
theorem xw_1605 : Cond.code yX10_count cX10_count 4 (some .int) ∈ xk_tg := List.mem_filter.mpr ⟨List.mem_of_getElem? (i := 2040) (by decide +kernel), rfl⟩
theorem xw_1606 : Cond.instanceMethod yX10_count ∈ xk_tg := List.mem_filter.mpr ⟨List.mem_of_getElem? (i := 2038) (by decide +kernel), rfl⟩
theorem xw_1607 : Cond.selects RX10 yX10_count yX10_count ∈ xk_tg := List.mem_filter.mpr ⟨List.mem_of_getElem? (i := 2039) (by decide +kernel), rfl⟩
theorem xw_1608 : Cond.methodLink RL 292 yX9_count ∈ xk_tg := List.mem_filter.mpr ⟨List.mem_of_getElem? (i := 1274) (by decide +kernel), rfl⟩
theorem xw_1609 : Cond.code yX9_count cX9_count 2 (some .int) ∈ xk_tg := List.mem_filter.mpr ⟨List.mem_of_getElem? (i := 1277) (by decide +kernel), rfl⟩
theorem xw_1610 : Cond.instanceMethod yX9_count ∈ xk_tg := List.mem_filter.mpr ⟨List.mem_of_getElem? (i := 1275) (by decide +kernel), rfl⟩
theorem xw_1611 : Cond.selects RX9 yX9_count yX9_count ∈ xk_tg := List.mem_filter.mpr ⟨List.mem_of_getElem? (i := 1276) (by decide +kernel), rfl⟩
theorem xw_1612 : Cond.methodLink RL 299 yX10_keep ∈ xk_tg := List.mem_filter.mpr ⟨List.mem_of_getElem? (i := 2041) (by decide +kernel), rfl⟩
theorem xw_1613 : Cond.code yX10_keep cX10_keep 2 (some .int) ∈ xk_tg := List.mem_filter.mpr ⟨List.mem_of_getElem? (i := 2044) (by decide +kernel), rfl⟩
theorem xw_1614 : Cond.instanceMethod yX10_keep ∈ xk_tg := List.mem_filter.mpr ⟨List.mem_of_getElem? (i := 2042) (by decide +kernel), rfl⟩
theorem xw_1615 : Cond.selects RX10 yX10_keep yX10_keep ∈ xk_tg := List.mem_filter.mpr ⟨List.mem_of_getElem? (i := 2043) (by decide +kernel), rfl⟩
theorem xw_1616 : Cond.methodLink RL 296 yX9_keep ∈ xk_tg := List.mem_filter.mpr ⟨List.mem_of_getElem? (i := 1282) (by decide +kernel), rfl⟩
theorem xw_1617 : Cond.code yX9_keep cX9_keep 2 (some .int) ∈ xk_tg := List.mem_filter.mpr ⟨List.mem_of_getElem? (i := 1285) (by decide +kernel), rfl⟩
theorem xw_1618 : Cond.instanceMethod yX9_keep ∈ xk_tg := List.mem_filter.mpr ⟨List.mem_of_getElem? (i := 1283) (by decide +kernel), rfl⟩
theorem xw_1619 : Cond.selects RX9 yX9_keep yX9_keep ∈ xk_tg := List.mem_filter.mpr ⟨List.mem_of_getElem? (i := 1284) (by decide +kernel), rfl⟩
theorem xw_1620 : Cond.methodLink RL 303 yX10_back ∈ xk_tg := List.mem_filter.mpr ⟨List.mem_of_getElem? (i := 2045) (by decide +kernel), rfl⟩
theorem xw_1621 : Cond.code yX10_back cX10_back 2 (some .int) ∈ xk_tg := List.mem_filter.mpr ⟨List.mem_of_getElem? (i := 2048) (by decide +kernel), rfl⟩
theorem xw_1622 : Cond.instanceMethod yX10_back ∈ xk_tg := List.mem_filter.mpr ⟨List.mem_of_getElem? (i := 2046) (by decide +kernel), rfl⟩
theorem xw_1623 : Cond.selects RX10 yX10_back yX10_back ∈ xk_tg := List.mem_filter.mpr ⟨List.mem_of_getElem? (i := 2047) (by decide +kernel), rfl⟩
theorem xw_1624 : Cond.methodLink RL 300 yX9_back ∈ xk_tg := List.mem_filter.mpr ⟨List.mem_of_getElem? (i := 1286) (by decide +kernel), rfl⟩
theorem xw_1625 : Cond.code yX9_back cX9_back 2 (some .int) ∈ xk_tg := List.mem_filter.mpr ⟨List.mem_of_getElem? (i := 1289) (by decide +kernel), rfl⟩
theorem xw_1626 : Cond.instanceMethod yX9_back ∈ xk_tg := List.mem_filter.mpr ⟨List.mem_of_getElem? (i := 1287) (by decide +kernel), rfl⟩
theorem xw_1627 : Cond.selects RX9 yX9_back yX9_back ∈ xk_tg := List.mem_filter.mpr ⟨List.mem_of_getElem? (i := 1288) (by decide +kernel), rfl⟩
theorem xw_1628 : Cond.methodLink RL 307 yX10_row ∈ xk_tg := List.mem_filter.mpr ⟨List.mem_of_getElem? (i := 1422) (by decide +kernel), rfl⟩
theorem xw_1629 : Cond.code yX10_row cX10_row 5 (some .int) ∈ xk_tg := List.mem_filter.mpr ⟨List.mem_of_getElem? (i := 1425) (by decide +kernel), rfl⟩
theorem xw_1630 : Cond.instanceMethod yX10_row ∈ xk_tg := List.mem_filter.mpr ⟨List.mem_of_getElem? (i := 1423) (by decide +kernel), rfl⟩
theorem xw_1631 : Cond.selects RX10 yX10_row yX10_row ∈ xk_tg := List.mem_filter.mpr ⟨List.mem_of_getElem? (i := 1424) (by decide +kernel), rfl⟩
theorem xw_1632 : Cond.methodLink RL 304 yX9_row ∈ xk_tg := List.mem_filter.mpr ⟨List.mem_of_getElem? (i := 1290) (by decide +kernel), rfl⟩
theorem xw_1633 : Cond.code yX9_row cX9_row 4 (some .int) ∈ xk_tg := List.mem_filter.mpr ⟨List.mem_of_getElem? (i := 1293) (by decide +kernel), rfl⟩
theorem xw_1634 : Cond.instanceMethod yX9_row ∈ xk_tg := List.mem_filter.mpr ⟨List.mem_of_getElem? (i := 1291) (by decide +kernel), rfl⟩
theorem xw_1635 : Cond.selects RX9 yX9_row yX9_row ∈ xk_tg := List.mem_filter.mpr ⟨List.mem_of_getElem? (i := 1292) (by decide +kernel), rfl⟩
theorem xw_1636 : Cond.methodLink RL 314 yX10_write ∈ xk_tg := List.mem_filter.mpr ⟨List.mem_of_getElem? (i := 1433) (by decide +kernel), rfl⟩
theorem xw_1637 : Cond.code yX10_write cX10_write 5 (some .int) ∈ xk_tg := List.mem_filter.mpr ⟨List.mem_of_getElem? (i := 1436) (by decide +kernel), rfl⟩
theorem xw_1638 : Cond.instanceMethod yX10_write ∈ xk_tg := List.mem_filter.mpr ⟨List.mem_of_getElem? (i := 1434) (by decide +kernel), rfl⟩
theorem xw_1639 : Cond.selects RX10 yX10_write yX10_write ∈ xk_tg := List.mem_filter.mpr ⟨List.mem_of_getElem? (i := 1435) (by decide +kernel), rfl⟩
theorem xw_1640 : Cond.methodLink RL 310 yX9_write ∈ xk_tg := List.mem_filter.mpr ⟨List.mem_of_getElem? (i := 1299) (by decide +kernel), rfl⟩
theorem xw_1641 : Cond.code yX9_write cX9_write 6 (some .int) ∈ xk_tg := List.mem_filter.mpr ⟨List.mem_of_getElem? (i := 1302) (by decide +kernel), rfl⟩
theorem xw_1642 : Cond.instanceMethod yX9_write ∈ xk_tg := List.mem_filter.mpr ⟨List.mem_of_getElem? (i := 1300) (by decide +kernel), rfl⟩
theorem xw_1643 : Cond.selects RX9 yX9_write yX9_write ∈ xk_tg := List.mem_filter.mpr ⟨List.mem_of_getElem? (i := 1301) (by decide +kernel), rfl⟩
theorem xw_1644 : Cond.methodLink RL 318 yX10_paste ∈ xk_tg := List.mem_filter.mpr ⟨List.mem_of_getElem? (i := 1440) (by decide +kernel), rfl⟩
theorem xw_1645 : Cond.code yX10_paste cX10_paste 7 (some .int) ∈ xk_tg := List.mem_filter.mpr ⟨List.mem_of_getElem? (i := 1443) (by decide +kernel), rfl⟩
theorem xw_1646 : Cond.instanceMethod yX10_paste ∈ xk_tg := List.mem_filter.mpr ⟨List.mem_of_getElem? (i := 1441) (by decide +kernel), rfl⟩
theorem xw_1647 : Cond.selects RX10 yX10_paste yX10_paste ∈ xk_tg := List.mem_filter.mpr ⟨List.mem_of_getElem? (i := 1442) (by decide +kernel), rfl⟩
theorem xw_1648 : Cond.methodLink RL 315 yX9_paste ∈ xk_tg := List.mem_filter.mpr ⟨List.mem_of_getElem? (i := 1307) (by decide +kernel), rfl⟩
theorem xw_1649 : Cond.code yX9_paste cX9_paste 8 (some .int) ∈ xk_tg := List.mem_filter.mpr ⟨List.mem_of_getElem? (i := 1310) (by decide +kernel), rfl⟩
theorem xw_1650 : Cond.instanceMethod yX9_paste ∈ xk_tg := List.mem_filter.mpr ⟨List.mem_of_getElem? (i := 1308) (by decide +kernel), rfl⟩
theorem xw_1651 : Cond.selects RX9 yX9_paste yX9_paste ∈ xk_tg := List.mem_filter.mpr ⟨List.mem_of_getElem? (i := 1309) (by decide +kernel), rfl⟩
theorem xw_1652 : Cond.methodLink RL 12 yX10_init ∈ xk_tg := List.mem_filter.mpr ⟨List.mem_of_getElem? (i := 1318) (by decide +kernel), rfl⟩
theorem xw_1653 : Cond.code yX10_init cX10_init 2 none ∈ xk_tg := List.mem_filter.mpr ⟨List.mem_of_getElem? (i := 1320) (by decide +kernel), rfl⟩
theorem xw_1654 : Cond.instanceMethod yX10_init ∈ xk_tg := List.mem_filter.mpr ⟨List.mem_of_getElem? (i := 1319) (by decide +kernel), rfl⟩
theorem xw_1655 : Cond.methodLink RL 9 yX9_init ∈ xk_tg := List.mem_filter.mpr ⟨List.mem_of_getElem? (i := 186) (by decide +kernel), rfl⟩
theorem xw_1656 : Cond.code yX9_init cX9_init 2 none ∈ xk_tg := List.mem_filter.mpr ⟨List.mem_of_getElem? (i := 188) (by decide +kernel), rfl⟩
theorem xw_1657 : Cond.instanceMethod yX9_init ∈ xk_tg := List.mem_filter.mpr ⟨List.mem_of_getElem? (i := 187) (by decide +kernel), rfl⟩
