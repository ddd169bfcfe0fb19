def am_kP (a : Nat) : Prop := (am_code a).all (fun c => c.all (am_okB a)) = true
theorem am_kk_0 : ∀ a, a < 0 → am_kP a := lt_0
theorem am_ko_0 : (am_code 0).all (fun c => c.all (am_okB 0)) = true := by decide +kernel
theorem am_kk_1 : ∀ a, a < 1 → am_kP a := lt_s am_kk_0 am_ko_0
theorem am_ko_1 : (am_code 1).all (fun c => c.all (am_okB 1)) = true := by decide +kernel
theorem am_kk_2 : ∀ a, a < 2 → am_kP a := lt_s am_kk_1 am_ko_1
theorem am_ko_2 : (am_code 2).all (fun c => c.all (am_okB 2)) = true := by decide +kernel
theorem am_kk_3 : ∀ a, a < 3 → am_kP a := lt_s am_kk_2 am_ko_2
theorem am_ko_3 : (am_code 3).all (fun c => c.all (am_okB 3)) = true := by decide +kernel
theorem am_kk_4 : ∀ a, a < 4 → am_kP a := lt_s am_kk_3 am_ko_3
theorem am_ko_4 : (am_code 4).all (fun c => c.all (am_okB 4)) = true := by decide +kernel
theorem am_kk_5 : ∀ a, a < 5 → am_kP a := lt_s am_kk_4 am_ko_4
theorem am_ko_5 : (am_code 5).all (fun c => c.all (am_okB 5)) = true := by decide +kernel
theorem am_kk_6 : ∀ a, a < 6 → am_kP a := lt_s am_kk_5 am_ko_5
theorem am_ko_6 : (am_code 6).all (fun c => c.all (am_okB 6)) = true := by decide +kernel
theorem am_kk_7 : ∀ a, a < 7 → am_kP a := lt_s am_kk_6 am_ko_6
theorem am_ko_7 : (am_code 7).all (fun c => c.all (am_okB 7)) = true := by decide +kernel
theorem am_kk_8 : ∀ a, a < 8 → am_kP a := lt_s am_kk_7 am_ko_7
theorem am_ko_8 : (am_code 8).all (fun c => c.all (am_okB 8)) = true := by decide +kernel
theorem am_kk_9 : ∀ a, a < 9 → am_kP a := lt_s am_kk_8 am_ko_8
theorem am_ko_9 : (am_code 9).all (fun c => c.all (am_okB 9)) = true := by decide +kernel
theorem am_kk_10 : ∀ a, a < 10 → am_kP a := lt_s am_kk_9 am_ko_9
theorem am_ko_10 : (am_code 10).all (fun c => c.all (am_okB 10)) = true := by decide +kernel
theorem am_kk_11 : ∀ a, a < 11 → am_kP a := lt_s am_kk_10 am_ko_10
theorem am_ko_11 : (am_code 11).all (fun c => c.all (am_okB 11)) = true := by decide +kernel
theorem am_kk_12 : ∀ a, a < 12 → am_kP a := lt_s am_kk_11 am_ko_11
theorem am_ko_12 : (am_code 12).all (fun c => c.all (am_okB 12)) = true := by decide +kernel
theorem am_kk_13 : ∀ a, a < 13 → am_kP a := lt_s am_kk_12 am_ko_12
theorem am_ko_13 : (am_code 13).all (fun c => c.all (am_okB 13)) = true := by decide +kernel
theorem am_kk_14 : ∀ a, a < 14 → am_kP a := lt_s am_kk_13 am_ko_13
theorem am_ko_14 : (am_code 14).all (fun c => c.all (am_okB 14)) = true := by decide +kernel
theorem am_kk_15 : ∀ a, a < 15 → am_kP a := lt_s am_kk_14 am_ko_14
theorem am_ko_15 : (am_code 15).all (fun c => c.all (am_okB 15)) = true := by decide +kernel
theorem am_kk_16 : ∀ a, a < 16 → am_kP a := lt_s am_kk_15 am_ko_15
theorem am_ko_16 : (am_code 16).all (fun c => c.all (am_okB 16)) = true := by decide +kernel
theorem am_kk_17 : ∀ a, a < 17 → am_kP a := lt_s am_kk_16 am_ko_16
theorem am_ko_17 : (am_code 17).all (fun c => c.all (am_okB 17)) = true := by decide +kernel
theorem am_kk_18 : ∀ a, a < 18 → am_kP a := lt_s am_kk_17 am_ko_17
theorem am_ko_18 : (am_code 18).all (fun c => c.all (am_okB 18)) = true := by decide +kernel
theorem am_kk_19 : ∀ a, a < 19 → am_kP a := lt_s am_kk_18 am_ko_18
theorem am_ko_19 : (am_code 19).all (fun c => c.all (am_okB 19)) = true := by decide +kernel
theorem am_kk_20 : ∀ a, a < 20 → am_kP a := lt_s am_kk_19 am_ko_19
theorem am_ko_20 : (am_code 20).all (fun c => c.all (am_okB 20)) = true := by decide +kernel
theorem am_kk_21 : ∀ a, a < 21 → am_kP a := lt_s am_kk_20 am_ko_20
theorem am_ko_21 : (am_code 21).all (fun c => c.all (am_okB 21)) = true := by decide +kernel
theorem am_kk_22 : ∀ a, a < 22 → am_kP a := lt_s am_kk_21 am_ko_21
theorem am_ko_22 : (am_code 22).all (fun c => c.all (am_okB 22)) = true := by decide +kernel
theorem am_kk_23 : ∀ a, a < 23 → am_kP a := lt_s am_kk_22 am_ko_22
theorem am_ko_23 : (am_code 23).all (fun c => c.all (am_okB 23)) = true := by decide +kernel
theorem am_kk_24 : ∀ a, a < 24 → am_kP a := lt_s am_kk_23 am_ko_23
theorem am_ko_24 : (am_code 24).all (fun c => c.all (am_okB 24)) = true := by decide +kernel
theorem am_kk_25 : ∀ a, a < 25 → am_kP a := lt_s am_kk_24 am_ko_24
theorem am_ko_25 : (am_code 25).all (fun c => c.all (am_okB 25)) = true := by decide +kernel
theorem am_kk_26 : ∀ a, a < 26 → am_kP a := lt_s am_kk_25 am_ko_25
theorem am_ko_26 : (am_code 26).all (fun c => c.all (am_okB 26)) = true := by decide +kernel
theorem am_kk_27 : ∀ a, a < 27 → am_kP a := lt_s am_kk_26 am_ko_26
theorem am_ko_27 : (am_code 27).all (fun c => c.all (am_okB 27)) = true := by decide +kernel
theorem am_kk_28 : ∀ a, a < 28 → am_kP a := lt_s am_kk_27 am_ko_27
theorem am_ko_28 : (am_code 28).all (fun c => c.all (am_okB 28)) = true := by decide +kernel
theorem am_kk_29 : ∀ a, a < 29 → am_kP a := lt_s am_kk_28 am_ko_28
theorem am_ko_29 : (am_code 29).all (fun c => c.all (am_okB 29)) = true := by decide +kernel
theorem am_kk_30 : ∀ a, a < 30 → am_kP a := lt_s am_kk_29 am_ko_29
theorem am_ko_30 : (am_code 30).all (fun c => c.all (am_okB 30)) = true := by decide +kernel
theorem am_kk_31 : ∀ a, a < 31 → am_kP a := lt_s am_kk_30 am_ko_30
theorem am_ko_31 : (am_code 31).all (fun c => c.all (am_okB 31)) = true := by decide +kernel
theorem am_kk_32 : ∀ a, a < 32 → am_kP a := lt_s am_kk_31 am_ko_31
theorem am_ko_32 : (am_code 32).all (fun c => c.all (am_okB 32)) = true := by decide +kernel
theorem am_kk_33 : ∀ a, a < 33 → am_kP a := lt_s am_kk_32 am_ko_32
theorem am_ko_33 : (am_code 33).all (fun c => c.all (am_okB 33)) = true := by decide +kernel
theorem am_kk_34 : ∀ a, a < 34 → am_kP a := lt_s am_kk_33 am_ko_33
theorem am_ko_34 : (am_code 34).all (fun c => c.all (am_okB 34)) = true := by decide +kernel
theorem am_kk_35 : ∀ a, a < 35 → am_kP a := lt_s am_kk_34 am_ko_34
theorem am_ko_35 : (am_code 35).all (fun c => c.all (am_okB 35)) = true := by decide +kernel
theorem am_kk_36 : ∀ a, a < 36 → am_kP a := lt_s am_kk_35 am_ko_35
theorem am_ko_36 : (am_code 36).all (fun c => c.all (am_okB 36)) = true := by decide +kernel
theorem am_kk_37 : ∀ a, a < 37 → am_kP a := lt_s am_kk_36 am_ko_36
theorem am_ko_37 : (am_code 37).all (fun c => c.all (am_okB 37)) = true := by decide +kernel
theorem am_kk_38 : ∀ a, a < 38 → am_kP a := lt_s am_kk_37 am_ko_37
theorem am_ko_38 : (am_code 38).all (fun c => c.all (am_okB 38)) = true := by decide +kernel
theorem am_kk_39 : ∀ a, a < 39 → am_kP a := lt_s am_kk_38 am_ko_38
theorem am_ko_39 : (am_code 39).all (fun c => c.all (am_okB 39)) = true := by decide +kernel
theorem am_kk_40 : ∀ a, a < 40 → am_kP a := lt_s am_kk_39 am_ko_39
theorem am_ko_40 : (am_code 40).all (fun c => c.all (am_okB 40)) = true := by decide +kernel
theorem am_kk_41 : ∀ a, a < 41 → am_kP a := lt_s am_kk_40 am_ko_40
theorem am_ko_41 : (am_code 41).all (fun c => c.all (am_okB 41)) = true := by decide +kernel
theorem am_kk_42 : ∀ a, a < 42 → am_kP a := lt_s am_kk_41 am_ko_41
theorem am_ko_42 : (am_code 42).all (fun c => c.all (am_okB 42)) = true := by decide +kernel
theorem am_kk_43 : ∀ a, a < 43 → am_kP a := lt_s am_kk_42 am_ko_42
theorem am_ko_43 : (am_code 43).all (fun c => c.all (am_okB 43)) = true := by decide +kernel
theorem am_kk_44 : ∀ a, a < 44 → am_kP a := lt_s am_kk_43 am_ko_43
theorem am_ko_44 : (am_code 44).all (fun c => c.all (am_okB 44)) = true := by decide +kernel
theorem am_kk_45 : ∀ a, a < 45 → am_kP a := lt_s am_kk_44 am_ko_44
theorem am_ko_45 : (am_code 45).all (fun c => c.all (am_okB 45)) = true := by decide +kernel
theorem am_kk_46 : ∀ a, a < 46 → am_kP a := lt_s am_kk_45 am_ko_45
theorem am_ko_46 : (am_code 46).all (fun c => c.all (am_okB 46)) = true := by decide +kernel
theorem am_kk_47 : ∀ a, a < 47 → am_kP a := lt_s am_kk_46 am_ko_46
theorem am_ko_47 : (am_code 47).all (fun c => c.all (am_okB 47)) = true := by decide +kernel
theorem am_kk_48 : ∀ a, a < 48 → am_kP a := lt_s am_kk_47 am_ko_47
theorem am_ko_48 : (am_code 48).all (fun c => c.all (am_okB 48)) = true := by decide +kernel
theorem am_kk_49 : ∀ a, a < 49 → am_kP a := lt_s am_kk_48 am_ko_48
theorem am_ko_49 : (am_code 49).all (fun c => c.all (am_okB 49)) = true := by decide +kernel
theorem am_kk_50 : ∀ a, a < 50 → am_kP a := lt_s am_kk_49 am_ko_49
theorem am_ko_50 : (am_code 50).all (fun c => c.all (am_okB 50)) = true := by decide +kernel
theorem am_kk_51 : ∀ a, a < 51 → am_kP a := lt_s am_kk_50 am_ko_50
theorem am_ko_51 : (am_code 51).all (fun c => c.all (am_okB 51)) = true := by decide +kernel
theorem am_kk_52 : ∀ a, a < 52 → am_kP a := lt_s am_kk_51 am_ko_51
theorem am_ko_52 : (am_code 52).all (fun c => c.all (am_okB 52)) = true := by decide +kernel
theorem am_kk_53 : ∀ a, a < 53 → am_kP a := lt_s am_kk_52 am_ko_52
theorem am_ko_53 : (am_code 53).all (fun c => c.all (am_okB 53)) = true := by decide +kernel
theorem am_kk_54 : ∀ a, a < 54 → am_kP a := lt_s am_kk_53 am_ko_53
theorem am_ko_54 : (am_code 54).all (fun c => c.all (am_okB 54)) = true := by decide +kernel
theorem am_kk_55 : ∀ a, a < 55 → am_kP a := lt_s am_kk_54 am_ko_54
theorem am_ko_55 : (am_code 55).all (fun c => c.all (am_okB 55)) = true := by decide +kernel
theorem am_kk_56 : ∀ a, a < 56 → am_kP a := lt_s am_kk_55 am_ko_55
theorem am_ko_56 : (am_code 56).all (fun c => c.all (am_okB 56)) = true := by decide +kernel
theorem am_kk_57 : ∀ a, a < 57 → am_kP a := lt_s am_kk_56 am_ko_56
theorem am_ko_57 : (am_code 57).all (fun c => c.all (am_okB 57)) = true := by decide +kernel
theorem am_kk_58 : ∀ a, a < 58 → am_kP a := lt_s am_kk_57 am_ko_57
theorem am_ko_58 : (am_code 58).all (fun c => c.all (am_okB 58)) = true := by decide +kernel
theorem am_kk_59 : ∀ a, a < 59 → am_kP a := lt_s am_kk_58 am_ko_58
theorem am_ko_59 : (am_code 59).all (fun c => c.all (am_okB 59)) = true := by decide +kernel
theorem am_kk_60 : ∀ a, a < 60 → am_kP a := lt_s am_kk_59 am_ko_59
theorem am_ko_60 : (am_code 60).all (fun c => c.all (am_okB 60)) = true := by decide +kernel
theorem am_kk_61 : ∀ a, a < 61 → am_kP a := lt_s am_kk_60 am_ko_60
theorem am_ko_61 : (am_code 61).all (fun c => c.all (am_okB 61)) = true := by decide +kernel
theorem am_kk_62 : ∀ a, a < 62 → am_kP a := lt_s am_kk_61 am_ko_61
theorem am_ko_62 : (am_code 62).all (fun c => c.all (am_okB 62)) = true := by decide +kernel
theorem am_kk_63 : ∀ a, a < 63 → am_kP a := lt_s am_kk_62 am_ko_62
theorem am_ko_63 : (am_code 63).all (fun c => c.all (am_okB 63)) = true := by decide +kernel
theorem am_kk_64 : ∀ a, a < 64 → am_kP a := lt_s am_kk_63 am_ko_63
theorem am_ko_64 : (am_code 64).all (fun c => c.all (am_okB 64)) = true := by decide +kernel
theorem am_kk_65 : ∀ a, a < 65 → am_kP a := lt_s am_kk_64 am_ko_64
theorem am_ko_65 : (am_code 65).all (fun c => c.all (am_okB 65)) = true := by decide +kernel
theorem am_kk_66 : ∀ a, a < 66 → am_kP a := lt_s am_kk_65 am_ko_65
theorem am_ko_66 : (am_code 66).all (fun c => c.all (am_okB 66)) = true := by decide +kernel
theorem am_kk_67 : ∀ a, a < 67 → am_kP a := lt_s am_kk_66 am_ko_66
theorem am_ko_67 : (am_code 67).all (fun c => c.all (am_okB 67)) = true := by decide +kernel
theorem am_kk_68 : ∀ a, a < 68 → am_kP a := lt_s am_kk_67 am_ko_67
theorem am_ko_68 : (am_code 68).all (fun c => c.all (am_okB 68)) = true := by decide +kernel
theorem am_kk_69 : ∀ a, a < 69 → am_kP a := lt_s am_kk_68 am_ko_68
theorem am_ko_69 : (am_code 69).all (fun c => c.all (am_okB 69)) = true := by decide +kernel
theorem am_kk_70 : ∀ a, a < 70 → am_kP a := lt_s am_kk_69 am_ko_69
theorem am_ko_70 : (am_code 70).all (fun c => c.all (am_okB 70)) = true := by decide +kernel
theorem am_kk_71 : ∀ a, a < 71 → am_kP a := lt_s am_kk_70 am_ko_70
theorem am_ko_71 : (am_code 71).all (fun c => c.all (am_okB 71)) = true := by decide +kernel
theorem am_kk_72 : ∀ a, a < 72 → am_kP a := lt_s am_kk_71 am_ko_71
theorem am_ko_72 : (am_code 72).all (fun c => c.all (am_okB 72)) = true := by decide +kernel
theorem am_kk_73 : ∀ a, a < 73 → am_kP a := lt_s am_kk_72 am_ko_72
theorem am_ko_73 : (am_code 73).all (fun c => c.all (am_okB 73)) = true := by decide +kernel
theorem am_kk_74 : ∀ a, a < 74 → am_kP a := lt_s am_kk_73 am_ko_73
theorem am_ko_74 : (am_code 74).all (fun c => c.all (am_okB 74)) = true := by decide +kernel
theorem am_kk_75 : ∀ a, a < 75 → am_kP a := lt_s am_kk_74 am_ko_74
theorem am_ko_75 : (am_code 75).all (fun c => c.all (am_okB 75)) = true := by decide +kernel
theorem am_kk_76 : ∀ a, a < 76 → am_kP a := lt_s am_kk_75 am_ko_75
theorem am_ko_76 : (am_code 76).all (fun c => c.all (am_okB 76)) = true := by decide +kernel
theorem am_kk_77 : ∀ a, a < 77 → am_kP a := lt_s am_kk_76 am_ko_76
theorem am_ko_77 : (am_code 77).all (fun c => c.all (am_okB 77)) = true := by decide +kernel
theorem am_kk_78 : ∀ a, a < 78 → am_kP a := lt_s am_kk_77 am_ko_77
theorem am_ko_78 : (am_code 78).all (fun c => c.all (am_okB 78)) = true := by decide +kernel
theorem am_kk_79 : ∀ a, a < 79 → am_kP a := lt_s am_kk_78 am_ko_78
theorem am_ko_79 : (am_code 79).all (fun c => c.all (am_okB 79)) = true := by decide +kernel
theorem am_kk_80 : ∀ a, a < 80 → am_kP a := lt_s am_kk_79 am_ko_79
theorem am_ko_80 : (am_code 80).all (fun c => c.all (am_okB 80)) = true := by decide +kernel
theorem am_kk_81 : ∀ a, a < 81 → am_kP a := lt_s am_kk_80 am_ko_80
theorem am_ko_81 : (am_code 81).all (fun c => c.all (am_okB 81)) = true := by decide +kernel
theorem am_kk_82 : ∀ a, a < 82 → am_kP a := lt_s am_kk_81 am_ko_81
theorem am_ko_82 : (am_code 82).all (fun c => c.all (am_okB 82)) = true := by decide +kernel
theorem am_kk_83 : ∀ a, a < 83 → am_kP a := lt_s am_kk_82 am_ko_82
theorem am_ko_83 : (am_code 83).all (fun c => c.all (am_okB 83)) = true := by decide +kernel
theorem am_kk_84 : ∀ a, a < 84 → am_kP a := lt_s am_kk_83 am_ko_83
theorem am_ko_84 : (am_code 84).all (fun c => c.all (am_okB 84)) = true := by decide +kernel
theorem am_kk_85 : ∀ a, a < 85 → am_kP a := lt_s am_kk_84 am_ko_84
theorem am_ko_85 : (am_code 85).all (fun c => c.all (am_okB 85)) = true := by decide +kernel
theorem am_kk_86 : ∀ a, a < 86 → am_kP a := lt_s am_kk_85 am_ko_85
theorem am_ko_86 : (am_code 86).all (fun c => c.all (am_okB 86)) = true := by decide +kernel
theorem am_kk_87 : ∀ a, a < 87 → am_kP a := lt_s am_kk_86 am_ko_86
theorem am_ko_87 : (am_code 87).all (fun c => c.all (am_okB 87)) = true := by decide +kernel
theorem am_kk_88 : ∀ a, a < 88 → am_kP a := lt_s am_kk_87 am_ko_87
theorem am_ko_88 : (am_code 88).all (fun c => c.all (am_okB 88)) = true := by decide +kernel
theorem am_kk_89 : ∀ a, a < 89 → am_kP a := lt_s am_kk_88 am_ko_88
theorem am_ko_89 : (am_code 89).all (fun c => c.all (am_okB 89)) = true := by decide +kernel
theorem am_kk_90 : ∀ a, a < 90 → am_kP a := lt_s am_kk_89 am_ko_89
theorem am_ko_90 : (am_code 90).all (fun c => c.all (am_okB 90)) = true := by decide +kernel
theorem am_kk_91 : ∀ a, a < 91 → am_kP a := lt_s am_kk_90 am_ko_90
theorem am_ko_91 : (am_code 91).all (fun c => c.all (am_okB 91)) = true := by decide +kernel
theorem am_kk_92 : ∀ a, a < 92 → am_kP a := lt_s am_kk_91 am_ko_91
theorem am_ko_92 : (am_code 92).all (fun c => c.all (am_okB 92)) = true := by decide +kernel
theorem am_kk_93 : ∀ a, a < 93 → am_kP a := lt_s am_kk_92 am_ko_92
theorem am_ko_93 : (am_code 93).all (fun c => c.all (am_okB 93)) = true := by decide +kernel
theorem am_kk_94 : ∀ a, a < 94 → am_kP a := lt_s am_kk_93 am_ko_93
theorem am_ko_94 : (am_code 94).all (fun c => c.all (am_okB 94)) = true := by decide +kernel
theorem am_kk_95 : ∀ a, a < 95 → am_kP a := lt_s am_kk_94 am_ko_94
theorem am_ko_95 : (am_code 95).all (fun c => c.all (am_okB 95)) = true := by decide +kernel
theorem am_kk_96 : ∀ a, a < 96 → am_kP a := lt_s am_kk_95 am_ko_95
theorem am_ko_96 : (am_code 96).all (fun c => c.all (am_okB 96)) = true := by decide +kernel
theorem am_kk_97 : ∀ a, a < 97 → am_kP a := lt_s am_kk_96 am_ko_96
theorem am_ko_97 : (am_code 97).all (fun c => c.all (am_okB 97)) = true := by decide +kernel
theorem am_kk_98 : ∀ a, a < 98 → am_kP a := lt_s am_kk_97 am_ko_97
theorem am_ko_98 : (am_code 98).all (fun c => c.all (am_okB 98)) = true := by decide +kernel
theorem am_kk_99 : ∀ a, a < 99 → am_kP a := lt_s am_kk_98 am_ko_98
theorem am_ko_99 : (am_code 99).all (fun c => c.all (am_okB 99)) = true := by decide +kernel
theorem am_kk_100 : ∀ a, a < 100 → am_kP a := lt_s am_kk_99 am_ko_99
theorem am_ko_100 : (am_code 100).all (fun c => c.all (am_okB 100)) = true := by decide +kernel
theorem am_kk_101 : ∀ a, a < 101 → am_kP a := lt_s am_kk_100 am_ko_100
theorem am_ko_101 : (am_code 101).all (fun c => c.all (am_okB 101)) = true := by decide +kernel
theorem am_kk_102 : ∀ a, a < 102 → am_kP a := lt_s am_kk_101 am_ko_101
theorem am_ko_102 : (am_code 102).all (fun c => c.all (am_okB 102)) = true := by decide +kernel
theorem am_kk_103 : ∀ a, a < 103 → am_kP a := lt_s am_kk_102 am_ko_102
theorem am_ko_103 : (am_code 103).all (fun c => c.all (am_okB 103)) = true := by decide +kernel
theorem am_kk_104 : ∀ a, a < 104 → am_kP a := lt_s am_kk_103 am_ko_103
theorem am_ko_104 : (am_code 104).all (fun c => c.all (am_okB 104)) = true := by decide +kernel
theorem am_kk_105 : ∀ a, a < 105 → am_kP a := lt_s am_kk_104 am_ko_104
theorem am_ko_105 : (am_code 105).all (fun c => c.all (am_okB 105)) = true := by decide +kernel
theorem am_kk_106 : ∀ a, a < 106 → am_kP a := lt_s am_kk_105 am_ko_105
theorem am_ko_106 : (am_code 106).all (fun c => c.all (am_okB 106)) = true := by decide +kernel
theorem am_kk_107 : ∀ a, a < 107 → am_kP a := lt_s am_kk_106 am_ko_106
theorem am_ko_107 : (am_code 107).all (fun c => c.all (am_okB 107)) = true := by decide +kernel
theorem am_kk_108 : ∀ a, a < 108 → am_kP a := lt_s am_kk_107 am_ko_107
theorem am_ko_108 : (am_code 108).all (fun c => c.all (am_okB 108)) = true := by decide +kernel
theorem am_kk_109 : ∀ a, a < 109 → am_kP a := lt_s am_kk_108 am_ko_108
theorem am_ko_109 : (am_code 109).all (fun c => c.all (am_okB 109)) = true := by decide +kernel
theorem am_kk_110 : ∀ a, a < 110 → am_kP a := lt_s am_kk_109 am_ko_109
theorem am_ko_110 : (am_code 110).all (fun c => c.all (am_okB 110)) = true := by decide +kernel
theorem am_kk_111 : ∀ a, a < 111 → am_kP a := lt_s am_kk_110 am_ko_110
theorem am_ko_111 : (am_code 111).all (fun c => c.all (am_okB 111)) = true := by decide +kernel
theorem am_kk_112 : ∀ a, a < 112 → am_kP a := lt_s am_kk_111 am_ko_111
theorem am_ko_112 : (am_code 112).all (fun c => c.all (am_okB 112)) = true := by decide +kernel
theorem am_kk_113 : ∀ a, a < 113 → am_kP a := lt_s am_kk_112 am_ko_112
theorem am_ko_113 : (am_code 113).all (fun c => c.all (am_okB 113)) = true := by decide +kernel
theorem am_kk_114 : ∀ a, a < 114 → am_kP a := lt_s am_kk_113 am_ko_113
theorem am_ko_114 : (am_code 114).all (fun c => c.all (am_okB 114)) = true := by decide +kernel
theorem am_kk_115 : ∀ a, a < 115 → am_kP a := lt_s am_kk_114 am_ko_114
theorem am_ko_115 : (am_code 115).all (fun c => c.all (am_okB 115)) = true := by decide +kernel
theorem am_kk_116 : ∀ a, a < 116 → am_kP a := lt_s am_kk_115 am_ko_115
theorem am_ko_116 : (am_code 116).all (fun c => c.all (am_okB 116)) = true := by decide +kernel
theorem am_kk_117 : ∀ a, a < 117 → am_kP a := lt_s am_kk_116 am_ko_116
theorem am_ko_117 : (am_code 117).all (fun c => c.all (am_okB 117)) = true := by decide +kernel
theorem am_kk_118 : ∀ a, a < 118 → am_kP a := lt_s am_kk_117 am_ko_117
theorem am_ko_118 : (am_code 118).all (fun c => c.all (am_okB 118)) = true := by decide +kernel
theorem am_kk_119 : ∀ a, a < 119 → am_kP a := lt_s am_kk_118 am_ko_118
theorem am_ko_119 : (am_code 119).all (fun c => c.all (am_okB 119)) = true := by decide +kernel
theorem am_kk_120 : ∀ a, a < 120 → am_kP a := lt_s am_kk_119 am_ko_119
theorem am_ko_120 : (am_code 120).all (fun c => c.all (am_okB 120)) = true := by decide +kernel
theorem am_kk_121 : ∀ a, a < 121 → am_kP a := lt_s am_kk_120 am_ko_120
theorem am_ko_121 : (am_code 121).all (fun c => c.all (am_okB 121)) = true := by decide +kernel
theorem am_kk_122 : ∀ a, a < 122 → am_kP a := lt_s am_kk_121 am_ko_121
theorem am_ko_122 : (am_code 122).all (fun c => c.all (am_okB 122)) = true := by decide +kernel
theorem am_kk_123 : ∀ a, a < 123 → am_kP a := lt_s am_kk_122 am_ko_122
theorem am_ko_123 : (am_code 123).all (fun c => c.all (am_okB 123)) = true := by decide +kernel
theorem am_kk_124 : ∀ a, a < 124 → am_kP a := lt_s am_kk_123 am_ko_123
theorem am_ko_124 : (am_code 124).all (fun c => c.all (am_okB 124)) = true := by decide +kernel
theorem am_kk_125 : ∀ a, a < 125 → am_kP a := lt_s am_kk_124 am_ko_124
theorem am_ko_125 : (am_code 125).all (fun c => c.all (am_okB 125)) = true := by decide +kernel
theorem am_kk_126 : ∀ a, a < 126 → am_kP a := lt_s am_kk_125 am_ko_125
theorem am_ko_126 : (am_code 126).all (fun c => c.all (am_okB 126)) = true := by decide +kernel
theorem am_kk_127 : ∀ a, a < 127 → am_kP a := lt_s am_kk_126 am_ko_126
theorem am_ko_127 : (am_code 127).all (fun c => c.all (am_okB 127)) = true := by decide +kernel
theorem am_kk_128 : ∀ a, a < 128 → am_kP a := lt_s am_kk_127 am_ko_127
theorem am_ko_128 : (am_code 128).all (fun c => c.all (am_okB 128)) = true := by decide +kernel
theorem am_kk_129 : ∀ a, a < 129 → am_kP a := lt_s am_kk_128 am_ko_128
theorem am_ko_129 : (am_code 129).all (fun c => c.all (am_okB 129)) = true := by decide +kernel
theorem am_kk_130 : ∀ a, a < 130 → am_kP a := lt_s am_kk_129 am_ko_129
theorem am_ko_130 : (am_code 130).all (fun c => c.all (am_okB 130)) = true := by decide +kernel
theorem am_kk_131 : ∀ a, a < 131 → am_kP a := lt_s am_kk_130 am_ko_130
theorem am_ko_131 : (am_code 131).all (fun c => c.all (am_okB 131)) = true := by decide +kernel
theorem am_kk_132 : ∀ a, a < 132 → am_kP a := lt_s am_kk_131 am_ko_131
theorem am_ko_132 : (am_code 132).all (fun c => c.all (am_okB 132)) = true := by decide +kernel
theorem am_kk_133 : ∀ a, a < 133 → am_kP a := lt_s am_kk_132 am_ko_132
theorem am_ko_133 : (am_code 133).all (fun c => c.all (am_okB 133)) = true := by decide +kernel
theorem am_kk_134 : ∀ a, a < 134 → am_kP a := lt_s am_kk_133 am_ko_133
theorem am_ko_134 : (am_code 134).all (fun c => c.all (am_okB 134)) = true := by decide +kernel
theorem am_kk_135 : ∀ a, a < 135 → am_kP a := lt_s am_kk_134 am_ko_134
theorem am_ko_135 : (am_code 135).all (fun c => c.all (am_okB 135)) = true := by decide +kernel
theorem am_kk_136 : ∀ a, a < 136 → am_kP a := lt_s am_kk_135 am_ko_135
theorem am_ko_136 : (am_code 136).all (fun c => c.all (am_okB 136)) = true := by decide +kernel
theorem am_kk_137 : ∀ a, a < 137 → am_kP a := lt_s am_kk_136 am_ko_136
theorem am_ko_137 : (am_code 137).all (fun c => c.all (am_okB 137)) = true := by decide +kernel
theorem am_kk_138 : ∀ a, a < 138 → am_kP a := lt_s am_kk_137 am_ko_137
theorem am_ko_138 : (am_code 138).all (fun c => c.all (am_okB 138)) = true := by decide +kernel
theorem am_kk_139 : ∀ a, a < 139 → am_kP a := lt_s am_kk_138 am_ko_138
theorem am_ko_139 : (am_code 139).all (fun c => c.all (am_okB 139)) = true := by decide +kernel
theorem am_kk_140 : ∀ a, a < 140 → am_kP a := lt_s am_kk_139 am_ko_139
theorem am_ko_140 : (am_code 140).all (fun c => c.all (am_okB 140)) = true := by decide +kernel
theorem am_kk_141 : ∀ a, a < 141 → am_kP a := lt_s am_kk_140 am_ko_140
theorem am_ko_141 : (am_code 141).all (fun c => c.all (am_okB 141)) = true := by decide +kernel
theorem am_kk_142 : ∀ a, a < 142 → am_kP a := lt_s am_kk_141 am_ko_141
theorem am_ko_142 : (am_code 142).all (fun c => c.all (am_okB 142)) = true := by decide +kernel
theorem am_kk_143 : ∀ a, a < 143 → am_kP a := lt_s am_kk_142 am_ko_142
theorem am_ko_143 : (am_code 143).all (fun c => c.all (am_okB 143)) = true := by decide +kernel
theorem am_kk_144 : ∀ a, a < 144 → am_kP a := lt_s am_kk_143 am_ko_143
theorem am_ko_144 : (am_code 144).all (fun c => c.all (am_okB 144)) = true := by decide +kernel
theorem am_kk_145 : ∀ a, a < 145 → am_kP a := lt_s am_kk_144 am_ko_144
