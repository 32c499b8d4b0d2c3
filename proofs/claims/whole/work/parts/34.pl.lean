theorem zo_0 : zob 0 7 92 := zob_dec (by decide +kernel)
theorem zo_1 : zob 1 20 92 := zob_dec (by decide +kernel)
theorem zl_1 : ((zsh 1).2 : Int) = 120 := by decide +kernel
theorem zo_2 : zob 2 6 92 := zob_dec (by decide +kernel)
theorem zo_3 : zob 3 20 92 := zob_dec (by decide +kernel)
theorem zl_3 : ((zsh 3).2 : Int) = 3 := by decide +kernel
theorem zo_4 : zob 4 20 92 := zob_dec (by decide +kernel)
theorem zl_4 : ((zsh 4).2 : Int) = 4 := by decide +kernel
theorem zo_5 : zob 5 20 92 := zob_dec (by decide +kernel)
theorem zl_5 : ((zsh 5).2 : Int) = 4 := by decide +kernel
theorem zo_6 : zob 6 20 92 := zob_dec (by decide +kernel)
theorem zl_6 : ((zsh 6).2 : Int) = 20 := by decide +kernel
theorem zo_7 : zob 7 20 92 := zob_dec (by decide +kernel)
theorem zl_7 : ((zsh 7).2 : Int) = 20 := by decide +kernel
theorem zo_8 : zob 8 20 92 := zob_dec (by decide +kernel)
theorem zl_8 : ((zsh 8).2 : Int) = 20 := by decide +kernel
theorem zo_9 : zob 9 6 92 := zob_dec (by decide +kernel)
theorem zo_10 : zob 10 20 92 := zob_dec (by decide +kernel)
theorem zl_10 : ((zsh 10).2 : Int) = 3 := by decide +kernel
theorem zo_11 : zob 11 20 92 := zob_dec (by decide +kernel)
theorem zl_11 : ((zsh 11).2 : Int) = 4 := by decide +kernel
theorem zo_12 : zob 12 20 92 := zob_dec (by decide +kernel)
theorem zl_12 : ((zsh 12).2 : Int) = 4 := by decide +kernel
theorem zo_13 : zob 13 20 92 := zob_dec (by decide +kernel)
theorem zl_13 : ((zsh 13).2 : Int) = 20 := by decide +kernel
theorem zo_14 : zob 14 20 92 := zob_dec (by decide +kernel)
theorem zl_14 : ((zsh 14).2 : Int) = 20 := by decide +kernel
theorem zo_15 : zob 15 20 92 := zob_dec (by decide +kernel)
theorem zl_15 : ((zsh 15).2 : Int) = 20 := by decide +kernel
theorem zo_16 : zob 16 1 92 := zob_dec (by decide +kernel)
theorem zo_17 : zob 17 20 92 := zob_dec (by decide +kernel)
theorem zl_17 : ((zsh 17).2 : Int) = 121 := by decide +kernel
theorem zo_18 : zob 18 20 92 := zob_dec (by decide +kernel)
theorem zl_18 : ((zsh 18).2 : Int) = 121 := by decide +kernel
theorem zo_19 : zob 19 2 92 := zob_dec (by decide +kernel)
theorem zo_20 : zob 20 20 92 := zob_dec (by decide +kernel)
theorem zl_20 : ((zsh 20).2 : Int) = 3 := by decide +kernel
theorem zo_21 : zob 21 20 92 := zob_dec (by decide +kernel)
theorem zl_21 : ((zsh 21).2 : Int) = 3 := by decide +kernel
theorem zo_22 : zob 22 20 92 := zob_dec (by decide +kernel)
theorem zl_22 : ((zsh 22).2 : Int) = 3 := by decide +kernel
theorem zo_23 : zob 23 20 92 := zob_dec (by decide +kernel)
theorem zl_23 : ((zsh 23).2 : Int) = 4 := by decide +kernel
theorem zo_24 : zob 24 20 92 := zob_dec (by decide +kernel)
theorem zl_24 : ((zsh 24).2 : Int) = 4 := by decide +kernel
theorem zo_25 : zob 25 20 92 := zob_dec (by decide +kernel)
theorem zl_25 : ((zsh 25).2 : Int) = 4 := by decide +kernel
theorem zo_26 : zob 26 20 92 := zob_dec (by decide +kernel)
theorem zl_26 : ((zsh 26).2 : Int) = 4 := by decide +kernel
theorem zo_27 : zob 27 20 92 := zob_dec (by decide +kernel)
theorem zl_27 : ((zsh 27).2 : Int) = 4 := by decide +kernel
theorem zo_28 : zob 28 20 92 := zob_dec (by decide +kernel)
theorem zl_28 : ((zsh 28).2 : Int) = 4 := by decide +kernel
theorem zo_29 : zob 29 0 92 := zob_dec (by decide +kernel)
theorem zo_30 : zob 30 4 92 := zob_dec (by decide +kernel)
theorem zo_31 : zob 31 21 92 := zob_dec (by decide +kernel)
theorem zl_31 : ((zsh 31).2 : Int) = 12 := by decide +kernel
theorem zo_32 : zob 32 20 92 := zob_dec (by decide +kernel)
theorem zl_32 : ((zsh 32).2 : Int) = 12 := by decide +kernel
theorem zo_33 : zob 33 22 92 := zob_dec (by decide +kernel)
theorem zl_33 : ((zsh 33).2 : Int) = 12 := by decide +kernel
theorem zo_34 : zob 34 4 92 := zob_dec (by decide +kernel)
theorem zo_35 : zob 35 21 92 := zob_dec (by decide +kernel)
theorem zl_35 : ((zsh 35).2 : Int) = 2 := by decide +kernel
theorem zo_36 : zob 36 20 92 := zob_dec (by decide +kernel)
theorem zl_36 : ((zsh 36).2 : Int) = 2 := by decide +kernel
theorem zo_37 : zob 37 22 92 := zob_dec (by decide +kernel)
theorem zl_37 : ((zsh 37).2 : Int) = 2 := by decide +kernel
theorem zo_38 : zob 38 5 92 := zob_dec (by decide +kernel)
theorem zo_39 : zob 39 20 92 := zob_dec (by decide +kernel)
theorem zl_39 : ((zsh 39).2 : Int) = 6 := by decide +kernel
theorem zo_40 : zob 40 20 92 := zob_dec (by decide +kernel)
theorem zl_40 : ((zsh 40).2 : Int) = 6 := by decide +kernel
theorem zo_41 : zob 41 3 92 := zob_dec (by decide +kernel)
theorem zo_42 : zob 42 21 92 := zob_dec (by decide +kernel)
theorem zl_42 : ((zsh 42).2 : Int) = 3000 := by decide +kernel
theorem zo_43 : zob 43 20 92 := zob_dec (by decide +kernel)
theorem zl_43 : ((zsh 43).2 : Int) = 3000 := by decide +kernel
theorem zo_44 : zob 44 20 92 := zob_dec (by decide +kernel)
theorem zl_44 : ((zsh 44).2 : Int) = 8192 := by decide +kernel
theorem zo_45 : zob 45 2 92 := zob_dec (by decide +kernel)
theorem zo_46 : zob 46 20 92 := zob_dec (by decide +kernel)
theorem zl_46 : ((zsh 46).2 : Int) = 3 := by decide +kernel
theorem zo_47 : zob 47 20 92 := zob_dec (by decide +kernel)
theorem zl_47 : ((zsh 47).2 : Int) = 3 := by decide +kernel
theorem zo_48 : zob 48 20 92 := zob_dec (by decide +kernel)
theorem zl_48 : ((zsh 48).2 : Int) = 3 := by decide +kernel
theorem zo_49 : zob 49 20 92 := zob_dec (by decide +kernel)
theorem zl_49 : ((zsh 49).2 : Int) = 4 := by decide +kernel
theorem zo_50 : zob 50 20 92 := zob_dec (by decide +kernel)
theorem zl_50 : ((zsh 50).2 : Int) = 4 := by decide +kernel
theorem zo_51 : zob 51 20 92 := zob_dec (by decide +kernel)
theorem zl_51 : ((zsh 51).2 : Int) = 4 := by decide +kernel
theorem zo_52 : zob 52 20 92 := zob_dec (by decide +kernel)
theorem zl_52 : ((zsh 52).2 : Int) = 4 := by decide +kernel
theorem zo_53 : zob 53 20 92 := zob_dec (by decide +kernel)
theorem zl_53 : ((zsh 53).2 : Int) = 4 := by decide +kernel
theorem zo_54 : zob 54 20 92 := zob_dec (by decide +kernel)
theorem zl_54 : ((zsh 54).2 : Int) = 4 := by decide +kernel
theorem zo_55 : zob 55 2 92 := zob_dec (by decide +kernel)
theorem zo_56 : zob 56 20 92 := zob_dec (by decide +kernel)
theorem zl_56 : ((zsh 56).2 : Int) = 3 := by decide +kernel
theorem zo_57 : zob 57 20 92 := zob_dec (by decide +kernel)
theorem zl_57 : ((zsh 57).2 : Int) = 3 := by decide +kernel
theorem zo_58 : zob 58 20 92 := zob_dec (by decide +kernel)
theorem zl_58 : ((zsh 58).2 : Int) = 3 := by decide +kernel
theorem zo_59 : zob 59 20 92 := zob_dec (by decide +kernel)
theorem zl_59 : ((zsh 59).2 : Int) = 4 := by decide +kernel
theorem zo_60 : zob 60 20 92 := zob_dec (by decide +kernel)
theorem zl_60 : ((zsh 60).2 : Int) = 4 := by decide +kernel
theorem zo_61 : zob 61 20 92 := zob_dec (by decide +kernel)
theorem zl_61 : ((zsh 61).2 : Int) = 4 := by decide +kernel
theorem zo_62 : zob 62 20 92 := zob_dec (by decide +kernel)
theorem zl_62 : ((zsh 62).2 : Int) = 4 := by decide +kernel
theorem zo_63 : zob 63 20 92 := zob_dec (by decide +kernel)
theorem zl_63 : ((zsh 63).2 : Int) = 4 := by decide +kernel
theorem zo_64 : zob 64 20 92 := zob_dec (by decide +kernel)
theorem zl_64 : ((zsh 64).2 : Int) = 4 := by decide +kernel
theorem zo_65 : zob 65 20 92 := zob_dec (by decide +kernel)
theorem zl_65 : ((zsh 65).2 : Int) = 3 := by decide +kernel
theorem zo_66 : zob 66 20 92 := zob_dec (by decide +kernel)
theorem zl_66 : ((zsh 66).2 : Int) = 3 := by decide +kernel
theorem zo_67 : zob 67 8 92 := zob_dec (by decide +kernel)
theorem zo_68 : zob 68 20 92 := zob_dec (by decide +kernel)
theorem zl_68 : ((zsh 68).2 : Int) = 3 := by decide +kernel
theorem zo_69 : zob 69 20 92 := zob_dec (by decide +kernel)
theorem zl_69 : ((zsh 69).2 : Int) = 4 := by decide +kernel
theorem zo_70 : zob 70 20 92 := zob_dec (by decide +kernel)
theorem zl_70 : ((zsh 70).2 : Int) = 4 := by decide +kernel
theorem zo_71 : zob 71 20 92 := zob_dec (by decide +kernel)
theorem zl_71 : ((zsh 71).2 : Int) = 60 := by decide +kernel
theorem zo_72 : zob 72 20 92 := zob_dec (by decide +kernel)
theorem zl_72 : ((zsh 72).2 : Int) = 25 := by decide +kernel
theorem zo_73 : zob 73 20 92 := zob_dec (by decide +kernel)
theorem zl_73 : ((zsh 73).2 : Int) = 4 := by decide +kernel
theorem zo_74 : zob 74 20 92 := zob_dec (by decide +kernel)
theorem zl_74 : ((zsh 74).2 : Int) = 120 := by decide +kernel
theorem zo_75 : zob 75 20 92 := zob_dec (by decide +kernel)
theorem zl_75 : ((zsh 75).2 : Int) = 3 := by decide +kernel
theorem zo_76 : zob 76 20 92 := zob_dec (by decide +kernel)
theorem zl_76 : ((zsh 76).2 : Int) = 4 := by decide +kernel
theorem zo_77 : zob 77 20 92 := zob_dec (by decide +kernel)
theorem zl_77 : ((zsh 77).2 : Int) = 4 := by decide +kernel
theorem zo_78 : zob 78 20 92 := zob_dec (by decide +kernel)
theorem zl_78 : ((zsh 78).2 : Int) = 60 := by decide +kernel
theorem zo_79 : zob 79 21 92 := zob_dec (by decide +kernel)
theorem zl_79 : ((zsh 79).2 : Int) = 12 := by decide +kernel
theorem zo_80 : zob 80 20 92 := zob_dec (by decide +kernel)
theorem zl_80 : ((zsh 80).2 : Int) = 12 := by decide +kernel
theorem zo_81 : zob 81 21 92 := zob_dec (by decide +kernel)
theorem zl_81 : ((zsh 81).2 : Int) = 3001 := by decide +kernel
theorem zo_82 : zob 82 20 92 := zob_dec (by decide +kernel)
theorem zl_82 : ((zsh 82).2 : Int) = 3001 := by decide +kernel
theorem zo_83 : zob 83 20 92 := zob_dec (by decide +kernel)
theorem zl_83 : ((zsh 83).2 : Int) = 3001 := by decide +kernel
theorem zo_84 : zob 84 20 92 := zob_dec (by decide +kernel)
theorem zl_84 : ((zsh 84).2 : Int) = 3001 := by decide +kernel
theorem zo_85 : zob 85 20 92 := zob_dec (by decide +kernel)
theorem zl_85 : ((zsh 85).2 : Int) = 8192 := by decide +kernel
theorem zo_86 : zob 86 20 92 := zob_dec (by decide +kernel)
theorem zl_86 : ((zsh 86).2 : Int) = 3 := by decide +kernel
theorem zo_87 : zob 87 20 92 := zob_dec (by decide +kernel)
theorem zl_87 : ((zsh 87).2 : Int) = 3 := by decide +kernel
theorem zo_88 : zob 88 20 92 := zob_dec (by decide +kernel)
theorem zl_88 : ((zsh 88).2 : Int) = 12 := by decide +kernel
theorem zo_89 : zob 89 21 92 := zob_dec (by decide +kernel)
theorem zl_89 : ((zsh 89).2 : Int) = 2 := by decide +kernel
theorem zo_90 : zob 90 20 92 := zob_dec (by decide +kernel)
theorem zl_90 : ((zsh 90).2 : Int) = 2 := by decide +kernel
theorem zo_91 : zob 91 22 92 := zob_dec (by decide +kernel)
theorem zl_91 : ((zsh 91).2 : Int) = 2 := by decide +kernel
