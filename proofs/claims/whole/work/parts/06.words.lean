set_option maxRecDepth 20000 in
theorem pw_cw_1 : Cond.code (pw_inf 1).1 (pw_inf 1).2.1 (pw_inf 1).2.2.1 (pw_inf 1).2.2.2 ∈ lw_tbl := List.mem_of_getElem? (i := 379) rfl
set_option maxRecDepth 20000 in
theorem pw_cw_2 : Cond.code (pw_inf 2).1 (pw_inf 2).2.1 (pw_inf 2).2.2.1 (pw_inf 2).2.2.2 ∈ lw_tbl := List.mem_of_getElem? (i := 60) rfl
set_option maxRecDepth 20000 in
theorem pw_cw_3 : Cond.code (pw_inf 3).1 (pw_inf 3).2.1 (pw_inf 3).2.2.1 (pw_inf 3).2.2.2 ∈ lw_tbl := List.mem_of_getElem? (i := 461) rfl
set_option maxRecDepth 20000 in
theorem pw_cw_4 : Cond.code (pw_inf 4).1 (pw_inf 4).2.1 (pw_inf 4).2.2.1 (pw_inf 4).2.2.2 ∈ lw_tbl := List.mem_of_getElem? (i := 303) rfl
set_option maxRecDepth 20000 in
theorem pw_cw_5 : Cond.code (pw_inf 5).1 (pw_inf 5).2.1 (pw_inf 5).2.2.1 (pw_inf 5).2.2.2 ∈ lw_tbl := List.mem_of_getElem? (i := 307) rfl
set_option maxRecDepth 20000 in
theorem pw_cw_6 : Cond.code (pw_inf 6).1 (pw_inf 6).2.1 (pw_inf 6).2.2.1 (pw_inf 6).2.2.2 ∈ lw_tbl := List.mem_of_getElem? (i := 323) rfl
set_option maxRecDepth 20000 in
theorem pw_cw_7 : Cond.code (pw_inf 7).1 (pw_inf 7).2.1 (pw_inf 7).2.2.1 (pw_inf 7).2.2.2 ∈ lw_tbl := List.mem_of_getElem? (i := 149) rfl
set_option maxRecDepth 20000 in
theorem pw_cw_8 : Cond.code (pw_inf 8).1 (pw_inf 8).2.1 (pw_inf 8).2.2.1 (pw_inf 8).2.2.2 ∈ lw_tbl := List.mem_of_getElem? (i := 193) rfl
set_option maxRecDepth 20000 in
theorem pw_cw_9 : Cond.code (pw_inf 9).1 (pw_inf 9).2.1 (pw_inf 9).2.2.1 (pw_inf 9).2.2.2 ∈ lw_tbl := List.mem_of_getElem? (i := 197) rfl
set_option maxRecDepth 20000 in
theorem pw_cw_10 : Cond.code (pw_inf 10).1 (pw_inf 10).2.1 (pw_inf 10).2.2.1 (pw_inf 10).2.2.2 ∈ lw_tbl := List.mem_of_getElem? (i := 247) rfl
set_option maxRecDepth 20000 in
theorem pw_cw_11 : Cond.code (pw_inf 11).1 (pw_inf 11).2.1 (pw_inf 11).2.2.1 (pw_inf 11).2.2.2 ∈ lw_tbl := List.mem_of_getElem? (i := 255) rfl
set_option maxRecDepth 20000 in
theorem pw_cw_12 : Cond.code (pw_inf 12).1 (pw_inf 12).2.1 (pw_inf 12).2.2.1 (pw_inf 12).2.2.2 ∈ lw_tbl := List.mem_of_getElem? (i := 287) rfl
set_option maxRecDepth 20000 in
theorem pw_cw_13 : Cond.code (pw_inf 13).1 (pw_inf 13).2.1 (pw_inf 13).2.2.1 (pw_inf 13).2.2.2 ∈ lw_tbl := List.mem_of_getElem? (i := 263) rfl
set_option maxRecDepth 20000 in
theorem pw_cw_14 : Cond.code (pw_inf 14).1 (pw_inf 14).2.1 (pw_inf 14).2.2.1 (pw_inf 14).2.2.2 ∈ lw_tbl := List.mem_of_getElem? (i := 201) rfl
set_option maxRecDepth 20000 in
theorem pw_cw_15 : Cond.code (pw_inf 15).1 (pw_inf 15).2.1 (pw_inf 15).2.2.1 (pw_inf 15).2.2.2 ∈ lw_tbl := List.mem_of_getElem? (i := 205) rfl
set_option maxRecDepth 20000 in
theorem pw_cw_16 : Cond.code (pw_inf 16).1 (pw_inf 16).2.1 (pw_inf 16).2.2.1 (pw_inf 16).2.2.2 ∈ lw_tbl := List.mem_of_getElem? (i := 213) rfl
set_option maxRecDepth 20000 in
theorem pw_cw_17 : Cond.code (pw_inf 17).1 (pw_inf 17).2.1 (pw_inf 17).2.2.1 (pw_inf 17).2.2.2 ∈ lw_tbl := List.mem_of_getElem? (i := 230) rfl
set_option maxRecDepth 20000 in
theorem pw_cw_18 : Cond.code (pw_inf 18).1 (pw_inf 18).2.1 (pw_inf 18).2.2.1 (pw_inf 18).2.2.2 ∈ lw_tbl := List.mem_of_getElem? (i := 235) rfl
set_option maxRecDepth 20000 in
theorem pw_cw_19 : Cond.code (pw_inf 19).1 (pw_inf 19).2.1 (pw_inf 19).2.2.1 (pw_inf 19).2.2.2 ∈ lw_tbl := List.mem_of_getElem? (i := 209) rfl
set_option maxRecDepth 20000 in
theorem pw_cw_20 : Cond.code (pw_inf 20).1 (pw_inf 20).2.1 (pw_inf 20).2.2.1 (pw_inf 20).2.2.2 ∈ lw_tbl := List.mem_of_getElem? (i := 217) rfl
set_option maxRecDepth 20000 in
theorem pw_cw_21 : Cond.code (pw_inf 21).1 (pw_inf 21).2.1 (pw_inf 21).2.2.1 (pw_inf 21).2.2.2 ∈ lw_tbl := List.mem_of_getElem? (i := 222) rfl
set_option maxRecDepth 20000 in
theorem pw_cw_22 : Cond.code (pw_inf 22).1 (pw_inf 22).2.1 (pw_inf 22).2.2.1 (pw_inf 22).2.2.2 ∈ lw_tbl := List.mem_of_getElem? (i := 226) rfl
set_option maxRecDepth 20000 in
theorem pw_cw_23 : Cond.code (pw_inf 23).1 (pw_inf 23).2.1 (pw_inf 23).2.2.1 (pw_inf 23).2.2.2 ∈ lw_tbl := List.mem_of_getElem? (i := 50) rfl
set_option maxRecDepth 20000 in
theorem pw_cw_24 : Cond.code (pw_inf 24).1 (pw_inf 24).2.1 (pw_inf 24).2.2.1 (pw_inf 24).2.2.2 ∈ lw_tbl := List.mem_of_getElem? (i := 139) rfl
set_option maxRecDepth 20000 in
theorem pw_cw_25 : Cond.code (pw_inf 25).1 (pw_inf 25).2.1 (pw_inf 25).2.2.1 (pw_inf 25).2.2.2 ∈ lw_tbl := List.mem_of_getElem? (i := 185) rfl
set_option maxRecDepth 20000 in
theorem pw_cw_26 : Cond.code (pw_inf 26).1 (pw_inf 26).2.1 (pw_inf 26).2.2.1 (pw_inf 26).2.2.2 ∈ lw_tbl := List.mem_of_getElem? (i := 243) rfl
set_option maxRecDepth 20000 in
theorem pw_cw_27 : Cond.code (pw_inf 27).1 (pw_inf 27).2.1 (pw_inf 27).2.2.1 (pw_inf 27).2.2.2 ∈ lw_tbl := List.mem_of_getElem? (i := 251) rfl
set_option maxRecDepth 20000 in
theorem pw_cw_28 : Cond.code (pw_inf 28).1 (pw_inf 28).2.1 (pw_inf 28).2.2.1 (pw_inf 28).2.2.2 ∈ lw_tbl := List.mem_of_getElem? (i := 259) rfl
set_option maxRecDepth 20000 in
theorem pw_cw_29 : Cond.code (pw_inf 29).1 (pw_inf 29).2.1 (pw_inf 29).2.2.1 (pw_inf 29).2.2.2 ∈ lw_tbl := List.mem_of_getElem? (i := 273) rfl
set_option maxRecDepth 20000 in
theorem pw_cw_30 : Cond.code (pw_inf 30).1 (pw_inf 30).2.1 (pw_inf 30).2.2.1 (pw_inf 30).2.2.2 ∈ lw_tbl := List.mem_of_getElem? (i := 292) rfl
set_option maxRecDepth 20000 in
theorem pw_cw_31 : Cond.code (pw_inf 31).1 (pw_inf 31).2.1 (pw_inf 31).2.2.1 (pw_inf 31).2.2.2 ∈ lw_tbl := List.mem_of_getElem? (i := 312) rfl
set_option maxRecDepth 20000 in
theorem pw_cw_32 : Cond.code (pw_inf 32).1 (pw_inf 32).2.1 (pw_inf 32).2.2.1 (pw_inf 32).2.2.2 ∈ lw_tbl := List.mem_of_getElem? (i := 327) rfl
set_option maxRecDepth 20000 in
theorem pw_cw_33 : Cond.code (pw_inf 33).1 (pw_inf 33).2.1 (pw_inf 33).2.2.1 (pw_inf 33).2.2.2 ∈ lw_tbl := List.mem_of_getElem? (i := 332) rfl
set_option maxRecDepth 20000 in
theorem pw_cw_34 : Cond.code (pw_inf 34).1 (pw_inf 34).2.1 (pw_inf 34).2.2.1 (pw_inf 34).2.2.2 ∈ lw_tbl := List.mem_of_getElem? (i := 336) rfl
set_option maxRecDepth 20000 in
theorem pw_cw_35 : Cond.code (pw_inf 35).1 (pw_inf 35).2.1 (pw_inf 35).2.2.1 (pw_inf 35).2.2.2 ∈ lw_tbl := List.mem_of_getElem? (i := 343) rfl
set_option maxRecDepth 20000 in
theorem pw_cw_36 : Cond.code (pw_inf 36).1 (pw_inf 36).2.1 (pw_inf 36).2.2.1 (pw_inf 36).2.2.2 ∈ lw_tbl := List.mem_of_getElem? (i := 359) rfl
set_option maxRecDepth 20000 in
theorem pw_cw_37 : Cond.code (pw_inf 37).1 (pw_inf 37).2.1 (pw_inf 37).2.2.1 (pw_inf 37).2.2.2 ∈ lw_tbl := List.mem_of_getElem? (i := 363) rfl
set_option maxRecDepth 20000 in
theorem pw_cw_38 : Cond.code (pw_inf 38).1 (pw_inf 38).2.1 (pw_inf 38).2.2.1 (pw_inf 38).2.2.2 ∈ lw_tbl := List.mem_of_getElem? (i := 367) rfl
set_option maxRecDepth 20000 in
theorem pw_cw_39 : Cond.code (pw_inf 39).1 (pw_inf 39).2.1 (pw_inf 39).2.2.1 (pw_inf 39).2.2.2 ∈ lw_tbl := List.mem_of_getElem? (i := 371) rfl
set_option maxRecDepth 20000 in
theorem pw_cw_40 : Cond.code (pw_inf 40).1 (pw_inf 40).2.1 (pw_inf 40).2.2.1 (pw_inf 40).2.2.2 ∈ lw_tbl := List.mem_of_getElem? (i := 375) rfl
set_option maxRecDepth 20000 in
theorem pw_cw_41 : Cond.code (pw_inf 41).1 (pw_inf 41).2.1 (pw_inf 41).2.2.1 (pw_inf 41).2.2.2 ∈ lw_tbl := List.mem_of_getElem? (i := 409) rfl
set_option maxRecDepth 20000 in
theorem pw_cw_42 : Cond.code (pw_inf 42).1 (pw_inf 42).2.1 (pw_inf 42).2.2.1 (pw_inf 42).2.2.2 ∈ lw_tbl := List.mem_of_getElem? (i := 413) rfl
set_option maxRecDepth 20000 in
theorem pw_cw_43 : Cond.code (pw_inf 43).1 (pw_inf 43).2.1 (pw_inf 43).2.2.1 (pw_inf 43).2.2.2 ∈ lw_tbl := List.mem_of_getElem? (i := 425) rfl
set_option maxRecDepth 20000 in
theorem pw_cw_44 : Cond.code (pw_inf 44).1 (pw_inf 44).2.1 (pw_inf 44).2.2.1 (pw_inf 44).2.2.2 ∈ lw_tbl := List.mem_of_getElem? (i := 433) rfl
set_option maxRecDepth 20000 in
theorem pw_cw_45 : Cond.code (pw_inf 45).1 (pw_inf 45).2.1 (pw_inf 45).2.2.1 (pw_inf 45).2.2.2 ∈ lw_tbl := List.mem_of_getElem? (i := 437) rfl
set_option maxRecDepth 20000 in
theorem pw_cw_46 : Cond.code (pw_inf 46).1 (pw_inf 46).2.1 (pw_inf 46).2.2.1 (pw_inf 46).2.2.2 ∈ lw_tbl := List.mem_of_getElem? (i := 441) rfl
set_option maxRecDepth 20000 in
theorem pw_cw_47 : Cond.code (pw_inf 47).1 (pw_inf 47).2.1 (pw_inf 47).2.2.1 (pw_inf 47).2.2.2 ∈ lw_tbl := List.mem_of_getElem? (i := 457) rfl
set_option maxRecDepth 20000 in
theorem pw_cw_48 : Cond.code (pw_inf 48).1 (pw_inf 48).2.1 (pw_inf 48).2.2.1 (pw_inf 48).2.2.2 ∈ lw_tbl := List.mem_of_getElem? (i := 145) rfl
set_option maxRecDepth 20000 in
theorem pw_cw_49 : Cond.code (pw_inf 49).1 (pw_inf 49).2.1 (pw_inf 49).2.2.1 (pw_inf 49).2.2.2 ∈ lw_tbl := List.mem_of_getElem? (i := 142) rfl
set_option maxRecDepth 20000 in
theorem pw_cw_50 : Cond.code (pw_inf 50).1 (pw_inf 50).2.1 (pw_inf 50).2.2.1 (pw_inf 50).2.2.2 ∈ lw_tbl := List.mem_of_getElem? (i := 276) rfl
set_option maxRecDepth 20000 in
theorem pw_cw_51 : Cond.code (pw_inf 51).1 (pw_inf 51).2.1 (pw_inf 51).2.2.1 (pw_inf 51).2.2.2 ∈ lw_tbl := List.mem_of_getElem? (i := 299) rfl
set_option maxRecDepth 20000 in
theorem pw_cw_52 : Cond.code (pw_inf 52).1 (pw_inf 52).2.1 (pw_inf 52).2.2.1 (pw_inf 52).2.2.2 ∈ lw_tbl := List.mem_of_getElem? (i := 296) rfl
set_option maxRecDepth 20000 in
theorem pw_cw_53 : Cond.code (pw_inf 53).1 (pw_inf 53).2.1 (pw_inf 53).2.2.1 (pw_inf 53).2.2.2 ∈ lw_tbl := List.mem_of_getElem? (i := 351) rfl
set_option maxRecDepth 20000 in
theorem pw_cw_54 : Cond.code (pw_inf 54).1 (pw_inf 54).2.1 (pw_inf 54).2.2.1 (pw_inf 54).2.2.2 ∈ lw_tbl := List.mem_of_getElem? (i := 339) rfl
set_option maxRecDepth 20000 in
theorem pw_cw_55 : Cond.code (pw_inf 55).1 (pw_inf 55).2.1 (pw_inf 55).2.2.1 (pw_inf 55).2.2.2 ∈ lw_tbl := List.mem_of_getElem? (i := 279) rfl
set_option maxRecDepth 20000 in
theorem pw_cw_56 : Cond.code (pw_inf 56).1 (pw_inf 56).2.1 (pw_inf 56).2.2.1 (pw_inf 56).2.2.2 ∈ lw_tbl := List.mem_of_getElem? (i := 189) rfl
set_option maxRecDepth 20000 in
theorem pw_cw_57 : Cond.code (pw_inf 57).1 (pw_inf 57).2.1 (pw_inf 57).2.2.1 (pw_inf 57).2.2.2 ∈ lw_tbl := List.mem_of_getElem? (i := 417) rfl
set_option maxRecDepth 20000 in
theorem pw_cw_58 : Cond.code (pw_inf 58).1 (pw_inf 58).2.1 (pw_inf 58).2.2.1 (pw_inf 58).2.2.2 ∈ lw_tbl := List.mem_of_getElem? (i := 283) rfl
set_option maxRecDepth 20000 in
theorem pw_cw_59 : Cond.code (pw_inf 59).1 (pw_inf 59).2.1 (pw_inf 59).2.2.1 (pw_inf 59).2.2.2 ∈ lw_tbl := List.mem_of_getElem? (i := 316) rfl
set_option maxRecDepth 20000 in
theorem pw_cw_60 : Cond.code (pw_inf 60).1 (pw_inf 60).2.1 (pw_inf 60).2.2.1 (pw_inf 60).2.2.2 ∈ lw_tbl := List.mem_of_getElem? (i := 319) rfl
set_option maxRecDepth 20000 in
theorem pw_cw_61 : Cond.code (pw_inf 61).1 (pw_inf 61).2.1 (pw_inf 61).2.2.1 (pw_inf 61).2.2.2 ∈ lw_tbl := List.mem_of_getElem? (i := 421) rfl
set_option maxRecDepth 20000 in
theorem pw_cw_62 : Cond.code (pw_inf 62).1 (pw_inf 62).2.1 (pw_inf 62).2.2.1 (pw_inf 62).2.2.2 ∈ lw_tbl := List.mem_of_getElem? (i := 347) rfl
set_option maxRecDepth 20000 in
theorem pw_cw_63 : Cond.code (pw_inf 63).1 (pw_inf 63).2.1 (pw_inf 63).2.2.1 (pw_inf 63).2.2.2 ∈ lw_tbl := List.mem_of_getElem? (i := 355) rfl
set_option maxRecDepth 20000 in
theorem pw_cw_64 : Cond.code (pw_inf 64).1 (pw_inf 64).2.1 (pw_inf 64).2.2.1 (pw_inf 64).2.2.2 ∈ lw_tbl := List.mem_of_getElem? (i := 429) rfl
set_option maxRecDepth 20000 in
theorem pw_cw_65 : Cond.code (pw_inf 65).1 (pw_inf 65).2.1 (pw_inf 65).2.2.1 (pw_inf 65).2.2.2 ∈ lw_tbl := List.mem_of_getElem? (i := 445) rfl
set_option maxRecDepth 20000 in
theorem pw_cw_66 : Cond.code (pw_inf 66).1 (pw_inf 66).2.1 (pw_inf 66).2.2.1 (pw_inf 66).2.2.2 ∈ lw_tbl := List.mem_of_getElem? (i := 449) rfl
set_option maxRecDepth 20000 in
theorem pw_cw_67 : Cond.code (pw_inf 67).1 (pw_inf 67).2.1 (pw_inf 67).2.2.1 (pw_inf 67).2.2.2 ∈ lw_tbl := List.mem_of_getElem? (i := 453) rfl
set_option maxRecDepth 20000 in
theorem pw_cw_68 : Cond.code (pw_inf 68).1 (pw_inf 68).2.1 (pw_inf 68).2.2.1 (pw_inf 68).2.2.2 ∈ lw_tbl := List.mem_of_getElem? (i := 466) rfl
set_option maxRecDepth 20000 in
theorem pw_cw_69 : Cond.code (pw_inf 69).1 (pw_inf 69).2.1 (pw_inf 69).2.2.1 (pw_inf 69).2.2.2 ∈ lw_tbl := List.mem_of_getElem? (i := 599) rfl
set_option maxRecDepth 20000 in
theorem pw_cw_70 : Cond.code (pw_inf 70).1 (pw_inf 70).2.1 (pw_inf 70).2.2.1 (pw_inf 70).2.2.2 ∈ lw_tbl := List.mem_of_getElem? (i := 596) rfl
set_option maxRecDepth 20000 in
theorem pw_cw_71 : Cond.code (pw_inf 71).1 (pw_inf 71).2.1 (pw_inf 71).2.2.1 (pw_inf 71).2.2.2 ∈ lw_tbl := List.mem_of_getElem? (i := 646) rfl
set_option maxRecDepth 20000 in
theorem pw_cw_72 : Cond.code (pw_inf 72).1 (pw_inf 72).2.1 (pw_inf 72).2.2.1 (pw_inf 72).2.2.2 ∈ lw_tbl := List.mem_of_getElem? (i := 657) rfl
set_option maxRecDepth 20000 in
theorem pw_cw_73 : Cond.code (pw_inf 73).1 (pw_inf 73).2.1 (pw_inf 73).2.2.1 (pw_inf 73).2.2.2 ∈ lw_tbl := List.mem_of_getElem? (i := 607) rfl
set_option maxRecDepth 20000 in
theorem pw_cw_74 : Cond.code (pw_inf 74).1 (pw_inf 74).2.1 (pw_inf 74).2.2.1 (pw_inf 74).2.2.2 ∈ lw_tbl := List.mem_of_getElem? (i := 593) rfl
set_option maxRecDepth 20000 in
theorem pw_cw_75 : Cond.code (pw_inf 75).1 (pw_inf 75).2.1 (pw_inf 75).2.2.1 (pw_inf 75).2.2.2 ∈ lw_tbl := List.mem_of_getElem? (i := 603) rfl
set_option maxRecDepth 20000 in
theorem pw_cw_76 : Cond.code (pw_inf 76).1 (pw_inf 76).2.1 (pw_inf 76).2.2.1 (pw_inf 76).2.2.2 ∈ lw_tbl := List.mem_of_getElem? (i := 611) rfl
set_option maxRecDepth 20000 in
theorem pw_cw_77 : Cond.code (pw_inf 77).1 (pw_inf 77).2.1 (pw_inf 77).2.2.1 (pw_inf 77).2.2.2 ∈ lw_tbl := List.mem_of_getElem? (i := 623) rfl
set_option maxRecDepth 20000 in
theorem pw_cw_78 : Cond.code (pw_inf 78).1 (pw_inf 78).2.1 (pw_inf 78).2.2.1 (pw_inf 78).2.2.2 ∈ lw_tbl := List.mem_of_getElem? (i := 627) rfl
set_option maxRecDepth 20000 in
theorem pw_cw_79 : Cond.code (pw_inf 79).1 (pw_inf 79).2.1 (pw_inf 79).2.2.1 (pw_inf 79).2.2.2 ∈ lw_tbl := List.mem_of_getElem? (i := 619) rfl
set_option maxRecDepth 20000 in
theorem pw_cw_80 : Cond.code (pw_inf 80).1 (pw_inf 80).2.1 (pw_inf 80).2.2.1 (pw_inf 80).2.2.2 ∈ lw_tbl := List.mem_of_getElem? (i := 615) rfl
set_option maxRecDepth 20000 in
theorem pw_cw_81 : Cond.code (pw_inf 81).1 (pw_inf 81).2.1 (pw_inf 81).2.2.1 (pw_inf 81).2.2.2 ∈ lw_tbl := List.mem_of_getElem? (i := 639) rfl
set_option maxRecDepth 20000 in
theorem pw_cw_82 : Cond.code (pw_inf 82).1 (pw_inf 82).2.1 (pw_inf 82).2.2.1 (pw_inf 82).2.2.2 ∈ lw_tbl := List.mem_of_getElem? (i := 635) rfl
set_option maxRecDepth 20000 in
theorem pw_cw_83 : Cond.code (pw_inf 83).1 (pw_inf 83).2.1 (pw_inf 83).2.2.1 (pw_inf 83).2.2.2 ∈ lw_tbl := List.mem_of_getElem? (i := 631) rfl
set_option maxRecDepth 20000 in
theorem pw_cw_84 : Cond.code (pw_inf 84).1 (pw_inf 84).2.1 (pw_inf 84).2.2.1 (pw_inf 84).2.2.2 ∈ lw_tbl := List.mem_of_getElem? (i := 650) rfl
set_option maxRecDepth 20000 in
theorem pw_cw_85 : Cond.code (pw_inf 85).1 (pw_inf 85).2.1 (pw_inf 85).2.2.1 (pw_inf 85).2.2.2 ∈ lw_tbl := List.mem_of_getElem? (i := 643) rfl
set_option maxRecDepth 20000 in
theorem pw_cw_86 : Cond.code (pw_inf 86).1 (pw_inf 86).2.1 (pw_inf 86).2.2.1 (pw_inf 86).2.2.2 ∈ lw_tbl := List.mem_of_getElem? (i := 654) rfl
set_option maxRecDepth 20000 in
theorem pw_cw_87 : Cond.code (pw_inf 87).1 (pw_inf 87).2.1 (pw_inf 87).2.2.1 (pw_inf 87).2.2.2 ∈ lw_tbl := List.mem_of_getElem? (i := 665) rfl
set_option maxRecDepth 20000 in
theorem pw_cw_88 : Cond.code (pw_inf 88).1 (pw_inf 88).2.1 (pw_inf 88).2.2.1 (pw_inf 88).2.2.2 ∈ lw_tbl := List.mem_of_getElem? (i := 661) rfl
set_option maxRecDepth 20000 in
theorem pw_cw_89 : Cond.code (pw_inf 89).1 (pw_inf 89).2.1 (pw_inf 89).2.2.1 (pw_inf 89).2.2.2 ∈ lw_tbl := List.mem_of_getElem? (i := 672) rfl
set_option maxRecDepth 20000 in
theorem pw_cw_90 : Cond.code (pw_inf 90).1 (pw_inf 90).2.1 (pw_inf 90).2.2.1 (pw_inf 90).2.2.2 ∈ lw_tbl := List.mem_of_getElem? (i := 669) rfl
set_option maxRecDepth 20000 in
theorem pw_cw_91 : Cond.code (pw_inf 91).1 (pw_inf 91).2.1 (pw_inf 91).2.2.1 (pw_inf 91).2.2.2 ∈ lw_tbl := List.mem_of_getElem? (i := 676) rfl
set_option maxRecDepth 20000 in
theorem pw_cw_92 : Cond.code (pw_inf 92).1 (pw_inf 92).2.1 (pw_inf 92).2.2.1 (pw_inf 92).2.2.2 ∈ lw_tbl := List.mem_of_getElem? (i := 692) rfl
set_option maxRecDepth 20000 in
theorem pw_cw_93 : Cond.code (pw_inf 93).1 (pw_inf 93).2.1 (pw_inf 93).2.2.1 (pw_inf 93).2.2.2 ∈ lw_tbl := List.mem_of_getElem? (i := 680) rfl
set_option maxRecDepth 20000 in
theorem pw_cw_94 : Cond.code (pw_inf 94).1 (pw_inf 94).2.1 (pw_inf 94).2.2.1 (pw_inf 94).2.2.2 ∈ lw_tbl := List.mem_of_getElem? (i := 696) rfl
set_option maxRecDepth 20000 in
theorem pw_cw_95 : Cond.code (pw_inf 95).1 (pw_inf 95).2.1 (pw_inf 95).2.2.1 (pw_inf 95).2.2.2 ∈ lw_tbl := List.mem_of_getElem? (i := 688) rfl
set_option maxRecDepth 20000 in
theorem pw_cw_96 : Cond.code (pw_inf 96).1 (pw_inf 96).2.1 (pw_inf 96).2.2.1 (pw_inf 96).2.2.2 ∈ lw_tbl := List.mem_of_getElem? (i := 684) rfl
set_option maxRecDepth 20000 in
theorem pw_cw_97 : Cond.code (pw_inf 97).1 (pw_inf 97).2.1 (pw_inf 97).2.2.1 (pw_inf 97).2.2.2 ∈ lw_tbl := List.mem_of_getElem? (i := 700) rfl
set_option maxRecDepth 20000 in
theorem pw_cw_98 : Cond.code (pw_inf 98).1 (pw_inf 98).2.1 (pw_inf 98).2.2.1 (pw_inf 98).2.2.2 ∈ lw_tbl := List.mem_of_getElem? (i := 708) rfl
set_option maxRecDepth 20000 in
theorem pw_cw_99 : Cond.code (pw_inf 99).1 (pw_inf 99).2.1 (pw_inf 99).2.2.1 (pw_inf 99).2.2.2 ∈ lw_tbl := List.mem_of_getElem? (i := 704) rfl
set_option maxRecDepth 20000 in
theorem pw_cw_100 : Cond.code (pw_inf 100).1 (pw_inf 100).2.1 (pw_inf 100).2.2.1 (pw_inf 100).2.2.2 ∈ lw_tbl := List.mem_of_getElem? (i := 712) rfl
set_option maxRecDepth 20000 in
theorem pw_cw_101 : Cond.code (pw_inf 101).1 (pw_inf 101).2.1 (pw_inf 101).2.2.1 (pw_inf 101).2.2.2 ∈ lw_tbl := List.mem_of_getElem? (i := 716) rfl
set_option maxRecDepth 20000 in
theorem pw_cw_102 : Cond.code (pw_inf 102).1 (pw_inf 102).2.1 (pw_inf 102).2.2.1 (pw_inf 102).2.2.2 ∈ lw_tbl := List.mem_of_getElem? (i := 720) rfl
set_option maxRecDepth 20000 in
theorem pw_cw_103 : Cond.code (pw_inf 103).1 (pw_inf 103).2.1 (pw_inf 103).2.2.1 (pw_inf 103).2.2.2 ∈ lw_tbl := List.mem_of_getElem? (i := 724) rfl
set_option maxRecDepth 20000 in
theorem pw_cw_104 : Cond.code (pw_inf 104).1 (pw_inf 104).2.1 (pw_inf 104).2.2.1 (pw_inf 104).2.2.2 ∈ lw_tbl := List.mem_of_getElem? (i := 732) rfl
set_option maxRecDepth 20000 in
theorem pw_cw_105 : Cond.code (pw_inf 105).1 (pw_inf 105).2.1 (pw_inf 105).2.2.1 (pw_inf 105).2.2.2 ∈ lw_tbl := List.mem_of_getElem? (i := 736) rfl
set_option maxRecDepth 20000 in
theorem pw_cw_106 : Cond.code (pw_inf 106).1 (pw_inf 106).2.1 (pw_inf 106).2.2.1 (pw_inf 106).2.2.2 ∈ lw_tbl := List.mem_of_getElem? (i := 728) rfl
set_option maxRecDepth 20000 in
theorem pw_cw_107 : Cond.code (pw_inf 107).1 (pw_inf 107).2.1 (pw_inf 107).2.2.1 (pw_inf 107).2.2.2 ∈ lw_tbl := List.mem_of_getElem? (i := 744) rfl
set_option maxRecDepth 20000 in
theorem pw_cw_108 : Cond.code (pw_inf 108).1 (pw_inf 108).2.1 (pw_inf 108).2.2.1 (pw_inf 108).2.2.2 ∈ lw_tbl := List.mem_of_getElem? (i := 740) rfl
set_option maxRecDepth 20000 in
theorem pw_cw_109 : Cond.code (pw_inf 109).1 (pw_inf 109).2.1 (pw_inf 109).2.2.1 (pw_inf 109).2.2.2 ∈ lw_tbl := List.mem_of_getElem? (i := 748) rfl
set_option maxRecDepth 20000 in
theorem pw_cw_110 : Cond.code (pw_inf 110).1 (pw_inf 110).2.1 (pw_inf 110).2.2.1 (pw_inf 110).2.2.2 ∈ lw_tbl := List.mem_of_getElem? (i := 752) rfl
set_option maxRecDepth 20000 in
theorem pw_cw_111 : Cond.code (pw_inf 111).1 (pw_inf 111).2.1 (pw_inf 111).2.2.1 (pw_inf 111).2.2.2 ∈ lw_tbl := List.mem_of_getElem? (i := 760) rfl
set_option maxRecDepth 20000 in
theorem pw_cw_112 : Cond.code (pw_inf 112).1 (pw_inf 112).2.1 (pw_inf 112).2.2.1 (pw_inf 112).2.2.2 ∈ lw_tbl := List.mem_of_getElem? (i := 756) rfl
set_option maxRecDepth 20000 in
theorem pw_cw_113 : Cond.code (pw_inf 113).1 (pw_inf 113).2.1 (pw_inf 113).2.2.1 (pw_inf 113).2.2.2 ∈ lw_tbl := List.mem_of_getElem? (i := 764) rfl
set_option maxRecDepth 20000 in
theorem pw_cw_114 : Cond.code (pw_inf 114).1 (pw_inf 114).2.1 (pw_inf 114).2.2.1 (pw_inf 114).2.2.2 ∈ lw_tbl := List.mem_of_getElem? (i := 266) rfl
theorem pw_chk {M : Nat} {m : pw_I × List (Nat × pw_O)} (h : pw_ms[M]? = some m) : ∀ e ∈ m.2, pw_ok m.1 e = true := by
  have hlt : M < 115 := (List.getElem?_eq_some_iff.mp h).1
  have key : ∀ M, M < 115 → ∀ m, pw_ms[M]? = some m → m.2.all (pw_ok m.1) = true := by
    intro M hM
    match M, hM with
    | 0, _ => intro m hm; obtain rfl := Option.some.inj hm; exact pw_ck_0
    | 1, _ => intro m hm; obtain rfl := Option.some.inj hm; exact pw_ck_1
    | 2, _ => intro m hm; obtain rfl := Option.some.inj hm; exact pw_ck_2
    | 3, _ => intro m hm; obtain rfl := Option.some.inj hm; exact pw_ck_3
    | 4, _ => intro m hm; obtain rfl := Option.some.inj hm; exact pw_ck_4
    | 5, _ => intro m hm; obtain rfl := Option.some.inj hm; exact pw_ck_5
    | 6, _ => intro m hm; obtain rfl := Option.some.inj hm; exact pw_ck_6
    | 7, _ => intro m hm; obtain rfl := Option.some.inj hm; exact pw_ck_7
    | 8, _ => intro m hm; obtain rfl := Option.some.inj hm; exact pw_ck_8
    | 9, _ => intro m hm; obtain rfl := Option.some.inj hm; exact pw_ck_9
    | 10, _ => intro m hm; obtain rfl := Option.some.inj hm; exact pw_ck_10
    | 11, _ => intro m hm; obtain rfl := Option.some.inj hm; exact pw_ck_11
    | 12, _ => intro m hm; obtain rfl := Option.some.inj hm; exact pw_ck_12
    | 13, _ => intro m hm; obtain rfl := Option.some.inj hm; exact pw_ck_13
    | 14, _ => intro m hm; obtain rfl := Option.some.inj hm; exact pw_ck_14
    | 15, _ => intro m hm; obtain rfl := Option.some.inj hm; exact pw_ck_15
    | 16, _ => intro m hm; obtain rfl := Option.some.inj hm; exact pw_ck_16
    | 17, _ => intro m hm; obtain rfl := Option.some.inj hm; exact pw_ck_17
    | 18, _ => intro m hm; obtain rfl := Option.some.inj hm; exact pw_ck_18
    | 19, _ => intro m hm; obtain rfl := Option.some.inj hm; exact pw_ck_19
    | 20, _ => intro m hm; obtain rfl := Option.some.inj hm; exact pw_ck_20
    | 21, _ => intro m hm; obtain rfl := Option.some.inj hm; exact pw_ck_21
    | 22, _ => intro m hm; obtain rfl := Option.some.inj hm; exact pw_ck_22
    | 23, _ => intro m hm; obtain rfl := Option.some.inj hm; exact pw_ck_23
    | 24, _ => intro m hm; obtain rfl := Option.some.inj hm; exact pw_ck_24
    | 25, _ => intro m hm; obtain rfl := Option.some.inj hm; exact pw_ck_25
    | 26, _ => intro m hm; obtain rfl := Option.some.inj hm; exact pw_ck_26
    | 27, _ => intro m hm; obtain rfl := Option.some.inj hm; exact pw_ck_27
    | 28, _ => intro m hm; obtain rfl := Option.some.inj hm; exact pw_ck_28
    | 29, _ => intro m hm; obtain rfl := Option.some.inj hm; exact pw_ck_29
    | 30, _ => intro m hm; obtain rfl := Option.some.inj hm; exact pw_ck_30
    | 31, _ => intro m hm; obtain rfl := Option.some.inj hm; exact pw_ck_31
    | 32, _ => intro m hm; obtain rfl := Option.some.inj hm; exact pw_ck_32
    | 33, _ => intro m hm; obtain rfl := Option.some.inj hm; exact pw_ck_33
    | 34, _ => intro m hm; obtain rfl := Option.some.inj hm; exact pw_ck_34
    | 35, _ => intro m hm; obtain rfl := Option.some.inj hm; exact pw_ck_35
    | 36, _ => intro m hm; obtain rfl := Option.some.inj hm; exact pw_ck_36
    | 37, _ => intro m hm; obtain rfl := Option.some.inj hm; exact pw_ck_37
    | 38, _ => intro m hm; obtain rfl := Option.some.inj hm; exact pw_ck_38
    | 39, _ => intro m hm; obtain rfl := Option.some.inj hm; exact pw_ck_39
    | 40, _ => intro m hm; obtain rfl := Option.some.inj hm; exact pw_ck_40
    | 41, _ => intro m hm; obtain rfl := Option.some.inj hm; exact pw_ck_41
    | 42, _ => intro m hm; obtain rfl := Option.some.inj hm; exact pw_ck_42
    | 43, _ => intro m hm; obtain rfl := Option.some.inj hm; exact pw_ck_43
    | 44, _ => intro m hm; obtain rfl := Option.some.inj hm; exact pw_ck_44
    | 45, _ => intro m hm; obtain rfl := Option.some.inj hm; exact pw_ck_45
    | 46, _ => intro m hm; obtain rfl := Option.some.inj hm; exact pw_ck_46
    | 47, _ => intro m hm; obtain rfl := Option.some.inj hm; exact pw_ck_47
    | 48, _ => intro m hm; obtain rfl := Option.some.inj hm; exact pw_ck_48
    | 49, _ => intro m hm; obtain rfl := Option.some.inj hm; exact pw_ck_49
    | 50, _ => intro m hm; obtain rfl := Option.some.inj hm; exact pw_ck_50
    | 51, _ => intro m hm; obtain rfl := Option.some.inj hm; exact pw_ck_51
    | 52, _ => intro m hm; obtain rfl := Option.some.inj hm; exact pw_ck_52
    | 53, _ => intro m hm; obtain rfl := Option.some.inj hm; exact pw_ck_53
    | 54, _ => intro m hm; obtain rfl := Option.some.inj hm; exact pw_ck_54
    | 55, _ => intro m hm; obtain rfl := Option.some.inj hm; exact pw_ck_55
    | 56, _ => intro m hm; obtain rfl := Option.some.inj hm; exact pw_ck_56
    | 57, _ => intro m hm; obtain rfl := Option.some.inj hm; exact pw_ck_57
    | 58, _ => intro m hm; obtain rfl := Option.some.inj hm; exact pw_ck_58
    | 59, _ => intro m hm; obtain rfl := Option.some.inj hm; exact pw_ck_59
    | 60, _ => intro m hm; obtain rfl := Option.some.inj hm; exact pw_ck_60
    | 61, _ => intro m hm; obtain rfl := Option.some.inj hm; exact pw_ck_61
    | 62, _ => intro m hm; obtain rfl := Option.some.inj hm; exact pw_ck_62
    | 63, _ => intro m hm; obtain rfl := Option.some.inj hm; exact pw_ck_63
    | 64, _ => intro m hm; obtain rfl := Option.some.inj hm; exact pw_ck_64
    | 65, _ => intro m hm; obtain rfl := Option.some.inj hm; exact pw_ck_65
    | 66, _ => intro m hm; obtain rfl := Option.some.inj hm; exact pw_ck_66
    | 67, _ => intro m hm; obtain rfl := Option.some.inj hm; exact pw_ck_67
    | 68, _ => intro m hm; obtain rfl := Option.some.inj hm; exact pw_ck_68
    | 69, _ => intro m hm; obtain rfl := Option.some.inj hm; exact pw_ck_69
    | 70, _ => intro m hm; obtain rfl := Option.some.inj hm; exact pw_ck_70
    | 71, _ => intro m hm; obtain rfl := Option.some.inj hm; exact pw_ck_71
    | 72, _ => intro m hm; obtain rfl := Option.some.inj hm; exact pw_ck_72
    | 73, _ => intro m hm; obtain rfl := Option.some.inj hm; exact pw_ck_73
    | 74, _ => intro m hm; obtain rfl := Option.some.inj hm; exact pw_ck_74
    | 75, _ => intro m hm; obtain rfl := Option.some.inj hm; exact pw_ck_75
    | 76, _ => intro m hm; obtain rfl := Option.some.inj hm; exact pw_ck_76
    | 77, _ => intro m hm; obtain rfl := Option.some.inj hm; exact pw_ck_77
    | 78, _ => intro m hm; obtain rfl := Option.some.inj hm; exact pw_ck_78
    | 79, _ => intro m hm; obtain rfl := Option.some.inj hm; exact pw_ck_79
    | 80, _ => intro m hm; obtain rfl := Option.some.inj hm; exact pw_ck_80
    | 81, _ => intro m hm; obtain rfl := Option.some.inj hm; exact pw_ck_81
    | 82, _ => intro m hm; obtain rfl := Option.some.inj hm; exact pw_ck_82
    | 83, _ => intro m hm; obtain rfl := Option.some.inj hm; exact pw_ck_83
    | 84, _ => intro m hm; obtain rfl := Option.some.inj hm; exact pw_ck_84
    | 85, _ => intro m hm; obtain rfl := Option.some.inj hm; exact pw_ck_85
    | 86, _ => intro m hm; obtain rfl := Option.some.inj hm; exact pw_ck_86
    | 87, _ => intro m hm; obtain rfl := Option.some.inj hm; exact pw_ck_87
    | 88, _ => intro m hm; obtain rfl := Option.some.inj hm; exact pw_ck_88
    | 89, _ => intro m hm; obtain rfl := Option.some.inj hm; exact pw_ck_89
    | 90, _ => intro m hm; obtain rfl := Option.some.inj hm; exact pw_ck_90
    | 91, _ => intro m hm; obtain rfl := Option.some.inj hm; exact pw_ck_91
    | 92, _ => intro m hm; obtain rfl := Option.some.inj hm; exact pw_ck_92
    | 93, _ => intro m hm; obtain rfl := Option.some.inj hm; exact pw_ck_93
    | 94, _ => intro m hm; obtain rfl := Option.some.inj hm; exact pw_ck_94
    | 95, _ => intro m hm; obtain rfl := Option.some.inj hm; exact pw_ck_95
    | 96, _ => intro m hm; obtain rfl := Option.some.inj hm; exact pw_ck_96
    | 97, _ => intro m hm; obtain rfl := Option.some.inj hm; exact pw_ck_97
    | 98, _ => intro m hm; obtain rfl := Option.some.inj hm; exact pw_ck_98
    | 99, _ => intro m hm; obtain rfl := Option.some.inj hm; exact pw_ck_99
    | 100, _ => intro m hm; obtain rfl := Option.some.inj hm; exact pw_ck_100
    | 101, _ => intro m hm; obtain rfl := Option.some.inj hm; exact pw_ck_101
    | 102, _ => intro m hm; obtain rfl := Option.some.inj hm; exact pw_ck_102
    | 103, _ => intro m hm; obtain rfl := Option.some.inj hm; exact pw_ck_103
    | 104, _ => intro m hm; obtain rfl := Option.some.inj hm; exact pw_ck_104
    | 105, _ => intro m hm; obtain rfl := Option.some.inj hm; exact pw_ck_105
    | 106, _ => intro m hm; obtain rfl := Option.some.inj hm; exact pw_ck_106
    | 107, _ => intro m hm; obtain rfl := Option.some.inj hm; exact pw_ck_107
    | 108, _ => intro m hm; obtain rfl := Option.some.inj hm; exact pw_ck_108
    | 109, _ => intro m hm; obtain rfl := Option.some.inj hm; exact pw_ck_109
    | 110, _ => intro m hm; obtain rfl := Option.some.inj hm; exact pw_ck_110
    | 111, _ => intro m hm; obtain rfl := Option.some.inj hm; exact pw_ck_111
    | 112, _ => intro m hm; obtain rfl := Option.some.inj hm; exact pw_ck_112
    | 113, _ => intro m hm; obtain rfl := Option.some.inj hm; exact pw_ck_113
    | 114, _ => intro m hm; obtain rfl := Option.some.inj hm; exact pw_ck_114
    | k + 115, hM => exact absurd hM (by omega)
  exact List.all_eq_true.mp (key M hlt m h)
theorem pw_cw {M : Nat} (h0 : 0 < M) (h : M < 115) : Cond.code (pw_inf M).1 (pw_inf M).2.1 (pw_inf M).2.2.1 (pw_inf M).2.2.2 ∈ lw_tbl := by
  match M, h0, h with
  | 1, _, _ => exact pw_cw_1
  | 2, _, _ => exact pw_cw_2
  | 3, _, _ => exact pw_cw_3
  | 4, _, _ => exact pw_cw_4
  | 5, _, _ => exact pw_cw_5
  | 6, _, _ => exact pw_cw_6
  | 7, _, _ => exact pw_cw_7
  | 8, _, _ => exact pw_cw_8
  | 9, _, _ => exact pw_cw_9
  | 10, _, _ => exact pw_cw_10
  | 11, _, _ => exact pw_cw_11
  | 12, _, _ => exact pw_cw_12
  | 13, _, _ => exact pw_cw_13
  | 14, _, _ => exact pw_cw_14
  | 15, _, _ => exact pw_cw_15
  | 16, _, _ => exact pw_cw_16
  | 17, _, _ => exact pw_cw_17
  | 18, _, _ => exact pw_cw_18
  | 19, _, _ => exact pw_cw_19
  | 20, _, _ => exact pw_cw_20
  | 21, _, _ => exact pw_cw_21
  | 22, _, _ => exact pw_cw_22
  | 23, _, _ => exact pw_cw_23
  | 24, _, _ => exact pw_cw_24
  | 25, _, _ => exact pw_cw_25
  | 26, _, _ => exact pw_cw_26
  | 27, _, _ => exact pw_cw_27
  | 28, _, _ => exact pw_cw_28
  | 29, _, _ => exact pw_cw_29
  | 30, _, _ => exact pw_cw_30
  | 31, _, _ => exact pw_cw_31
  | 32, _, _ => exact pw_cw_32
  | 33, _, _ => exact pw_cw_33
  | 34, _, _ => exact pw_cw_34
  | 35, _, _ => exact pw_cw_35
  | 36, _, _ => exact pw_cw_36
  | 37, _, _ => exact pw_cw_37
  | 38, _, _ => exact pw_cw_38
  | 39, _, _ => exact pw_cw_39
  | 40, _, _ => exact pw_cw_40
  | 41, _, _ => exact pw_cw_41
  | 42, _, _ => exact pw_cw_42
  | 43, _, _ => exact pw_cw_43
  | 44, _, _ => exact pw_cw_44
  | 45, _, _ => exact pw_cw_45
  | 46, _, _ => exact pw_cw_46
  | 47, _, _ => exact pw_cw_47
  | 48, _, _ => exact pw_cw_48
  | 49, _, _ => exact pw_cw_49
  | 50, _, _ => exact pw_cw_50
  | 51, _, _ => exact pw_cw_51
  | 52, _, _ => exact pw_cw_52
  | 53, _, _ => exact pw_cw_53
  | 54, _, _ => exact pw_cw_54
  | 55, _, _ => exact pw_cw_55
  | 56, _, _ => exact pw_cw_56
  | 57, _, _ => exact pw_cw_57
  | 58, _, _ => exact pw_cw_58
  | 59, _, _ => exact pw_cw_59
  | 60, _, _ => exact pw_cw_60
  | 61, _, _ => exact pw_cw_61
  | 62, _, _ => exact pw_cw_62
  | 63, _, _ => exact pw_cw_63
  | 64, _, _ => exact pw_cw_64
  | 65, _, _ => exact pw_cw_65
  | 66, _, _ => exact pw_cw_66
  | 67, _, _ => exact pw_cw_67
  | 68, _, _ => exact pw_cw_68
  | 69, _, _ => exact pw_cw_69
  | 70, _, _ => exact pw_cw_70
  | 71, _, _ => exact pw_cw_71
  | 72, _, _ => exact pw_cw_72
  | 73, _, _ => exact pw_cw_73
  | 74, _, _ => exact pw_cw_74
  | 75, _, _ => exact pw_cw_75
  | 76, _, _ => exact pw_cw_76
  | 77, _, _ => exact pw_cw_77
  | 78, _, _ => exact pw_cw_78
  | 79, _, _ => exact pw_cw_79
  | 80, _, _ => exact pw_cw_80
  | 81, _, _ => exact pw_cw_81
  | 82, _, _ => exact pw_cw_82
  | 83, _, _ => exact pw_cw_83
  | 84, _, _ => exact pw_cw_84
  | 85, _, _ => exact pw_cw_85
  | 86, _, _ => exact pw_cw_86
  | 87, _, _ => exact pw_cw_87
  | 88, _, _ => exact pw_cw_88
  | 89, _, _ => exact pw_cw_89
  | 90, _, _ => exact pw_cw_90
  | 91, _, _ => exact pw_cw_91
  | 92, _, _ => exact pw_cw_92
  | 93, _, _ => exact pw_cw_93
  | 94, _, _ => exact pw_cw_94
  | 95, _, _ => exact pw_cw_95
  | 96, _, _ => exact pw_cw_96
  | 97, _, _ => exact pw_cw_97
  | 98, _, _ => exact pw_cw_98
  | 99, _, _ => exact pw_cw_99
  | 100, _, _ => exact pw_cw_100
  | 101, _, _ => exact pw_cw_101
  | 102, _, _ => exact pw_cw_102
  | 103, _, _ => exact pw_cw_103
  | 104, _, _ => exact pw_cw_104
  | 105, _, _ => exact pw_cw_105
  | 106, _, _ => exact pw_cw_106
  | 107, _, _ => exact pw_cw_107
  | 108, _, _ => exact pw_cw_108
  | 109, _, _ => exact pw_cw_109
  | 110, _, _ => exact pw_cw_110
  | 111, _, _ => exact pw_cw_111
  | 112, _, _ => exact pw_cw_112
  | 113, _, _ => exact pw_cw_113
  | 114, _, _ => exact pw_cw_114
  | k + 115, _, h => exact absurd h (by omega)
theorem pw_look_mem : ∀ (l : List (Nat × pw_O)) (pc : Nat) (o : pw_O), pw_look l pc = some o → (pc, o) ∈ l
  | [], _, _, h => by cases h
  | e :: l, pc, o, h => by
    unfold pw_look at h
    cases hb : Nat.beq e.1 pc with
    | true =>
      rw [hb] at h
      have h1 : e.2 = o := Option.some.inj h
      have h2 : e.1 = pc := Nat.eq_of_beq_eq_true hb
      rw [← h1, ← h2]
      exact List.mem_cons_self
    | false =>
      rw [hb] at h
      exact List.mem_cons_of_mem _ (pw_look_mem l pc o h)
theorem pw_op_ok {M pc : Nat} {o : pw_O} (h : pw_op M pc = some o) : pw_ok (pw_inf M) (pc, o) = true := by
  unfold pw_op at h
  unfold pw_inf
  cases hm : pw_ms[M]? with
  | none => rw [hm] at h; cases h
  | some m =>
    rw [hm] at h
    exact pw_chk hm _ (pw_look_mem _ _ _ h)
