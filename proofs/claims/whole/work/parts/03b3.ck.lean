/-! each item of each method checked (by program) -/
theorem mckl_0 : ((List.range 100).all fun j => mChI 209 (0 + j) (mAt 209 (0 + j))) = true := by decide +kernel
theorem mckl_1 : ((List.range 100).all fun j => mChI 209 (100 + j) (mAt 209 (100 + j))) = true := by decide +kernel
theorem mckl_2 : ((List.range 100).all fun j => mChI 209 (200 + j) (mAt 209 (200 + j))) = true := by decide +kernel
theorem mckl_3 : ((List.range 100).all fun j => mChI 209 (300 + j) (mAt 209 (300 + j))) = true := by decide +kernel
theorem mckl_4 : ((List.range 100).all fun j => mChI 209 (400 + j) (mAt 209 (400 + j))) = true := by decide +kernel
theorem mckl_5 : ((List.range 100).all fun j => mChI 209 (500 + j) (mAt 209 (500 + j))) = true := by decide +kernel
theorem mckl_6 : ((List.range 100).all fun j => mChI 209 (600 + j) (mAt 209 (600 + j))) = true := by decide +kernel
theorem mckl_7 : ((List.range 100).all fun j => mChI 209 (700 + j) (mAt 209 (700 + j))) = true := by decide +kernel
theorem mckl_8 : ((List.range 100).all fun j => mChI 209 (800 + j) (mAt 209 (800 + j))) = true := by decide +kernel
theorem mckl_9 : ((List.range 100).all fun j => mChI 209 (900 + j) (mAt 209 (900 + j))) = true := by decide +kernel
theorem mckl_10 : ((List.range 100).all fun j => mChI 209 (1000 + j) (mAt 209 (1000 + j))) = true := by decide +kernel
theorem mckl_11 : ((List.range 100).all fun j => mChI 209 (1100 + j) (mAt 209 (1100 + j))) = true := by decide +kernel
theorem mckl_12 : ((List.range 100).all fun j => mChI 209 (1200 + j) (mAt 209 (1200 + j))) = true := by decide +kernel
theorem mckl_13 : ((List.range 100).all fun j => mChI 209 (1300 + j) (mAt 209 (1300 + j))) = true := by decide +kernel
theorem mckl_14 : ((List.range 100).all fun j => mChI 209 (1400 + j) (mAt 209 (1400 + j))) = true := by decide +kernel
theorem mckl_15 : ((List.range 100).all fun j => mChI 209 (1500 + j) (mAt 209 (1500 + j))) = true := by decide +kernel
theorem mckl_16 : ((List.range 100).all fun j => mChI 209 (1600 + j) (mAt 209 (1600 + j))) = true := by decide +kernel
theorem mckl_17 : ((List.range 100).all fun j => mChI 209 (1700 + j) (mAt 209 (1700 + j))) = true := by decide +kernel
theorem mckl_18 : ((List.range 100).all fun j => mChI 209 (1800 + j) (mAt 209 (1800 + j))) = true := by decide +kernel
theorem mckl_19 : ((List.range 100).all fun j => mChI 209 (1900 + j) (mAt 209 (1900 + j))) = true := by decide +kernel
theorem mcw_0 : mWrd (mCw 0) = some (.code (mY 0) (mBy 0) (mMt 0).1 (mRt 0)) := rfl
theorem mcw_1 : mWrd (mCw 1) = some (.code (mY 1) (mBy 1) (mMt 1).1 (mRt 1)) := rfl
theorem mcw_2 : mWrd (mCw 2) = some (.code (mY 2) (mBy 2) (mMt 2).1 (mRt 2)) := rfl
theorem mcw_3 : mWrd (mCw 3) = some (.code (mY 3) (mBy 3) (mMt 3).1 (mRt 3)) := rfl
theorem mcw_4 : mWrd (mCw 4) = some (.code (mY 4) (mBy 4) (mMt 4).1 (mRt 4)) := rfl
theorem mcw_5 : mWrd (mCw 5) = some (.code (mY 5) (mBy 5) (mMt 5).1 (mRt 5)) := rfl
theorem mcw_6 : mWrd (mCw 6) = some (.code (mY 6) (mBy 6) (mMt 6).1 (mRt 6)) := rfl
theorem mcw_7 : mWrd (mCw 7) = some (.code (mY 7) (mBy 7) (mMt 7).1 (mRt 7)) := rfl
theorem mcw_8 : mWrd (mCw 8) = some (.code (mY 8) (mBy 8) (mMt 8).1 (mRt 8)) := rfl
theorem mcw_9 : mWrd (mCw 9) = some (.code (mY 9) (mBy 9) (mMt 9).1 (mRt 9)) := rfl
theorem mcw_10 : mWrd (mCw 10) = some (.code (mY 10) (mBy 10) (mMt 10).1 (mRt 10)) := rfl
theorem mcw_11 : mWrd (mCw 11) = some (.code (mY 11) (mBy 11) (mMt 11).1 (mRt 11)) := rfl
theorem mcw_12 : mWrd (mCw 12) = some (.code (mY 12) (mBy 12) (mMt 12).1 (mRt 12)) := rfl
theorem mcw_13 : mWrd (mCw 13) = some (.code (mY 13) (mBy 13) (mMt 13).1 (mRt 13)) := rfl
theorem mcw_14 : mWrd (mCw 14) = some (.code (mY 14) (mBy 14) (mMt 14).1 (mRt 14)) := rfl
theorem mcw_15 : mWrd (mCw 15) = some (.code (mY 15) (mBy 15) (mMt 15).1 (mRt 15)) := rfl
theorem mcw_16 : mWrd (mCw 16) = some (.code (mY 16) (mBy 16) (mMt 16).1 (mRt 16)) := rfl
theorem mcw_17 : mWrd (mCw 17) = some (.code (mY 17) (mBy 17) (mMt 17).1 (mRt 17)) := rfl
theorem mcw_18 : mWrd (mCw 18) = some (.code (mY 18) (mBy 18) (mMt 18).1 (mRt 18)) := rfl
theorem mcw_19 : mWrd (mCw 19) = some (.code (mY 19) (mBy 19) (mMt 19).1 (mRt 19)) := rfl
theorem mcw_20 : mWrd (mCw 20) = some (.code (mY 20) (mBy 20) (mMt 20).1 (mRt 20)) := rfl
theorem mcw_21 : mWrd (mCw 21) = some (.code (mY 21) (mBy 21) (mMt 21).1 (mRt 21)) := rfl
theorem mcw_22 : mWrd (mCw 22) = some (.code (mY 22) (mBy 22) (mMt 22).1 (mRt 22)) := rfl
theorem mcw_23 : mWrd (mCw 23) = some (.code (mY 23) (mBy 23) (mMt 23).1 (mRt 23)) := rfl
theorem mcw_24 : mWrd (mCw 24) = some (.code (mY 24) (mBy 24) (mMt 24).1 (mRt 24)) := rfl
theorem mcw_25 : mWrd (mCw 25) = some (.code (mY 25) (mBy 25) (mMt 25).1 (mRt 25)) := rfl
theorem mcw_26 : mWrd (mCw 26) = some (.code (mY 26) (mBy 26) (mMt 26).1 (mRt 26)) := rfl
theorem mcw_27 : mWrd (mCw 27) = some (.code (mY 27) (mBy 27) (mMt 27).1 (mRt 27)) := rfl
theorem mcw_28 : mWrd (mCw 28) = some (.code (mY 28) (mBy 28) (mMt 28).1 (mRt 28)) := rfl
theorem mcw_29 : mWrd (mCw 29) = some (.code (mY 29) (mBy 29) (mMt 29).1 (mRt 29)) := rfl
theorem mcw_30 : mWrd (mCw 30) = some (.code (mY 30) (mBy 30) (mMt 30).1 (mRt 30)) := rfl
theorem mcw_31 : mWrd (mCw 31) = some (.code (mY 31) (mBy 31) (mMt 31).1 (mRt 31)) := rfl
theorem mcw_32 : mWrd (mCw 32) = some (.code (mY 32) (mBy 32) (mMt 32).1 (mRt 32)) := rfl
theorem mcw_33 : mWrd (mCw 33) = some (.code (mY 33) (mBy 33) (mMt 33).1 (mRt 33)) := rfl
theorem mcw_34 : mWrd (mCw 34) = some (.code (mY 34) (mBy 34) (mMt 34).1 (mRt 34)) := rfl
theorem mcw_35 : mWrd (mCw 35) = some (.code (mY 35) (mBy 35) (mMt 35).1 (mRt 35)) := rfl
theorem mcw_36 : mWrd (mCw 36) = some (.code (mY 36) (mBy 36) (mMt 36).1 (mRt 36)) := rfl
theorem mcw_37 : mWrd (mCw 37) = some (.code (mY 37) (mBy 37) (mMt 37).1 (mRt 37)) := rfl
theorem mcw_38 : mWrd (mCw 38) = some (.code (mY 38) (mBy 38) (mMt 38).1 (mRt 38)) := rfl
theorem mcw_39 : mWrd (mCw 39) = some (.code (mY 39) (mBy 39) (mMt 39).1 (mRt 39)) := rfl
theorem mcw_40 : mWrd (mCw 40) = some (.code (mY 40) (mBy 40) (mMt 40).1 (mRt 40)) := rfl
theorem mcw_41 : mWrd (mCw 41) = some (.code (mY 41) (mBy 41) (mMt 41).1 (mRt 41)) := rfl
theorem mcw_42 : mWrd (mCw 42) = some (.code (mY 42) (mBy 42) (mMt 42).1 (mRt 42)) := rfl
theorem mcw_43 : mWrd (mCw 43) = some (.code (mY 43) (mBy 43) (mMt 43).1 (mRt 43)) := rfl
theorem mcw_44 : mWrd (mCw 44) = some (.code (mY 44) (mBy 44) (mMt 44).1 (mRt 44)) := rfl
theorem mcw_45 : mWrd (mCw 45) = some (.code (mY 45) (mBy 45) (mMt 45).1 (mRt 45)) := rfl
theorem mcw_46 : mWrd (mCw 46) = some (.code (mY 46) (mBy 46) (mMt 46).1 (mRt 46)) := rfl
theorem mcw_47 : mWrd (mCw 47) = some (.code (mY 47) (mBy 47) (mMt 47).1 (mRt 47)) := rfl
theorem mcw_48 : mWrd (mCw 48) = some (.code (mY 48) (mBy 48) (mMt 48).1 (mRt 48)) := rfl
theorem mcw_49 : mWrd (mCw 49) = some (.code (mY 49) (mBy 49) (mMt 49).1 (mRt 49)) := rfl
theorem mcw_50 : mWrd (mCw 50) = some (.code (mY 50) (mBy 50) (mMt 50).1 (mRt 50)) := rfl
theorem mcw_51 : mWrd (mCw 51) = some (.code (mY 51) (mBy 51) (mMt 51).1 (mRt 51)) := rfl
theorem mcw_52 : mWrd (mCw 52) = some (.code (mY 52) (mBy 52) (mMt 52).1 (mRt 52)) := rfl
theorem mcw_53 : mWrd (mCw 53) = some (.code (mY 53) (mBy 53) (mMt 53).1 (mRt 53)) := rfl
theorem mcw_54 : mWrd (mCw 54) = some (.code (mY 54) (mBy 54) (mMt 54).1 (mRt 54)) := rfl
theorem mcw_55 : mWrd (mCw 55) = some (.code (mY 55) (mBy 55) (mMt 55).1 (mRt 55)) := rfl
theorem mcw_56 : mWrd (mCw 56) = some (.code (mY 56) (mBy 56) (mMt 56).1 (mRt 56)) := rfl
theorem mcw_57 : mWrd (mCw 57) = some (.code (mY 57) (mBy 57) (mMt 57).1 (mRt 57)) := rfl
theorem mcw_58 : mWrd (mCw 58) = some (.code (mY 58) (mBy 58) (mMt 58).1 (mRt 58)) := rfl
theorem mcw_59 : mWrd (mCw 59) = some (.code (mY 59) (mBy 59) (mMt 59).1 (mRt 59)) := rfl
theorem mcw_60 : mWrd (mCw 60) = some (.code (mY 60) (mBy 60) (mMt 60).1 (mRt 60)) := rfl
theorem mcw_61 : mWrd (mCw 61) = some (.code (mY 61) (mBy 61) (mMt 61).1 (mRt 61)) := rfl
theorem mcw_62 : mWrd (mCw 62) = some (.code (mY 62) (mBy 62) (mMt 62).1 (mRt 62)) := rfl
theorem mcw_63 : mWrd (mCw 63) = some (.code (mY 63) (mBy 63) (mMt 63).1 (mRt 63)) := rfl
theorem mcw_64 : mWrd (mCw 64) = some (.code (mY 64) (mBy 64) (mMt 64).1 (mRt 64)) := rfl
theorem mcw_65 : mWrd (mCw 65) = some (.code (mY 65) (mBy 65) (mMt 65).1 (mRt 65)) := rfl
theorem mcw_66 : mWrd (mCw 66) = some (.code (mY 66) (mBy 66) (mMt 66).1 (mRt 66)) := rfl
theorem mcw_67 : mWrd (mCw 67) = some (.code (mY 67) (mBy 67) (mMt 67).1 (mRt 67)) := rfl
theorem mcw_68 : mWrd (mCw 68) = some (.code (mY 68) (mBy 68) (mMt 68).1 (mRt 68)) := rfl
theorem mcw_69 : mWrd (mCw 69) = some (.code (mY 69) (mBy 69) (mMt 69).1 (mRt 69)) := rfl
theorem mcw_70 : mWrd (mCw 70) = some (.code (mY 70) (mBy 70) (mMt 70).1 (mRt 70)) := rfl
theorem mcw_71 : mWrd (mCw 71) = some (.code (mY 71) (mBy 71) (mMt 71).1 (mRt 71)) := rfl
theorem mcw_72 : mWrd (mCw 72) = some (.code (mY 72) (mBy 72) (mMt 72).1 (mRt 72)) := rfl
theorem mcw_73 : mWrd (mCw 73) = some (.code (mY 73) (mBy 73) (mMt 73).1 (mRt 73)) := rfl
theorem mcw_74 : mWrd (mCw 74) = some (.code (mY 74) (mBy 74) (mMt 74).1 (mRt 74)) := rfl
theorem mcw_75 : mWrd (mCw 75) = some (.code (mY 75) (mBy 75) (mMt 75).1 (mRt 75)) := rfl
theorem mcw_76 : mWrd (mCw 76) = some (.code (mY 76) (mBy 76) (mMt 76).1 (mRt 76)) := rfl
theorem mcw_77 : mWrd (mCw 77) = some (.code (mY 77) (mBy 77) (mMt 77).1 (mRt 77)) := rfl
theorem mcw_78 : mWrd (mCw 78) = some (.code (mY 78) (mBy 78) (mMt 78).1 (mRt 78)) := rfl
theorem mcw_79 : mWrd (mCw 79) = some (.code (mY 79) (mBy 79) (mMt 79).1 (mRt 79)) := rfl
theorem mcw_80 : mWrd (mCw 80) = some (.code (mY 80) (mBy 80) (mMt 80).1 (mRt 80)) := rfl
theorem mcw_81 : mWrd (mCw 81) = some (.code (mY 81) (mBy 81) (mMt 81).1 (mRt 81)) := rfl
theorem mcw_82 : mWrd (mCw 82) = some (.code (mY 82) (mBy 82) (mMt 82).1 (mRt 82)) := rfl
theorem mcw_83 : mWrd (mCw 83) = some (.code (mY 83) (mBy 83) (mMt 83).1 (mRt 83)) := rfl
theorem mcw_84 : mWrd (mCw 84) = some (.code (mY 84) (mBy 84) (mMt 84).1 (mRt 84)) := rfl
theorem mcw_85 : mWrd (mCw 85) = some (.code (mY 85) (mBy 85) (mMt 85).1 (mRt 85)) := rfl
theorem mcw_86 : mWrd (mCw 86) = some (.code (mY 86) (mBy 86) (mMt 86).1 (mRt 86)) := rfl
theorem mcw_87 : mWrd (mCw 87) = some (.code (mY 87) (mBy 87) (mMt 87).1 (mRt 87)) := rfl
theorem mcw_88 : mWrd (mCw 88) = some (.code (mY 88) (mBy 88) (mMt 88).1 (mRt 88)) := rfl
theorem mcw_89 : mWrd (mCw 89) = some (.code (mY 89) (mBy 89) (mMt 89).1 (mRt 89)) := rfl
theorem mcw_90 : mWrd (mCw 90) = some (.code (mY 90) (mBy 90) (mMt 90).1 (mRt 90)) := rfl
theorem mcw_91 : mWrd (mCw 91) = some (.code (mY 91) (mBy 91) (mMt 91).1 (mRt 91)) := rfl
theorem mcw_92 : mWrd (mCw 92) = some (.code (mY 92) (mBy 92) (mMt 92).1 (mRt 92)) := rfl
theorem mcw_93 : mWrd (mCw 93) = some (.code (mY 93) (mBy 93) (mMt 93).1 (mRt 93)) := rfl
theorem mcw_94 : mWrd (mCw 94) = some (.code (mY 94) (mBy 94) (mMt 94).1 (mRt 94)) := rfl
theorem mcw_95 : mWrd (mCw 95) = some (.code (mY 95) (mBy 95) (mMt 95).1 (mRt 95)) := rfl
theorem mcw_96 : mWrd (mCw 96) = some (.code (mY 96) (mBy 96) (mMt 96).1 (mRt 96)) := rfl
theorem mcw_97 : mWrd (mCw 97) = some (.code (mY 97) (mBy 97) (mMt 97).1 (mRt 97)) := rfl
theorem mcw_98 : mWrd (mCw 98) = some (.code (mY 98) (mBy 98) (mMt 98).1 (mRt 98)) := rfl
theorem mcw_99 : mWrd (mCw 99) = some (.code (mY 99) (mBy 99) (mMt 99).1 (mRt 99)) := rfl
theorem mcw_100 : mWrd (mCw 100) = some (.code (mY 100) (mBy 100) (mMt 100).1 (mRt 100)) := rfl
theorem mcw_101 : mWrd (mCw 101) = some (.code (mY 101) (mBy 101) (mMt 101).1 (mRt 101)) := rfl
theorem mcw_102 : mWrd (mCw 102) = some (.code (mY 102) (mBy 102) (mMt 102).1 (mRt 102)) := rfl
theorem mcw_103 : mWrd (mCw 103) = some (.code (mY 103) (mBy 103) (mMt 103).1 (mRt 103)) := rfl
theorem mcw_104 : mWrd (mCw 104) = some (.code (mY 104) (mBy 104) (mMt 104).1 (mRt 104)) := rfl
theorem mcw_105 : mWrd (mCw 105) = some (.code (mY 105) (mBy 105) (mMt 105).1 (mRt 105)) := rfl
theorem mcw_106 : mWrd (mCw 106) = some (.code (mY 106) (mBy 106) (mMt 106).1 (mRt 106)) := rfl
theorem mcw_107 : mWrd (mCw 107) = some (.code (mY 107) (mBy 107) (mMt 107).1 (mRt 107)) := rfl
theorem mcw_108 : mWrd (mCw 108) = some (.code (mY 108) (mBy 108) (mMt 108).1 (mRt 108)) := rfl
theorem mcw_109 : mWrd (mCw 109) = some (.code (mY 109) (mBy 109) (mMt 109).1 (mRt 109)) := rfl
theorem mcw_110 : mWrd (mCw 110) = some (.code (mY 110) (mBy 110) (mMt 110).1 (mRt 110)) := rfl
theorem mcw_111 : mWrd (mCw 111) = some (.code (mY 111) (mBy 111) (mMt 111).1 (mRt 111)) := rfl
theorem mcw_112 : mWrd (mCw 112) = some (.code (mY 112) (mBy 112) (mMt 112).1 (mRt 112)) := rfl
theorem mcw_113 : mWrd (mCw 113) = some (.code (mY 113) (mBy 113) (mMt 113).1 (mRt 113)) := rfl
theorem mcw_114 : mWrd (mCw 114) = some (.code (mY 114) (mBy 114) (mMt 114).1 (mRt 114)) := rfl
theorem mcw_115 : mWrd (mCw 115) = some (.code (mY 115) (mBy 115) (mMt 115).1 (mRt 115)) := rfl
theorem mcw_116 : mWrd (mCw 116) = some (.code (mY 116) (mBy 116) (mMt 116).1 (mRt 116)) := rfl
theorem mcw_117 : mWrd (mCw 117) = some (.code (mY 117) (mBy 117) (mMt 117).1 (mRt 117)) := rfl
theorem mcw_118 : mWrd (mCw 118) = some (.code (mY 118) (mBy 118) (mMt 118).1 (mRt 118)) := rfl
theorem mcw_119 : mWrd (mCw 119) = some (.code (mY 119) (mBy 119) (mMt 119).1 (mRt 119)) := rfl
theorem mcw_120 : mWrd (mCw 120) = some (.code (mY 120) (mBy 120) (mMt 120).1 (mRt 120)) := rfl
theorem mcw_121 : mWrd (mCw 121) = some (.code (mY 121) (mBy 121) (mMt 121).1 (mRt 121)) := rfl
theorem mcw_122 : mWrd (mCw 122) = some (.code (mY 122) (mBy 122) (mMt 122).1 (mRt 122)) := rfl
theorem mcw_123 : mWrd (mCw 123) = some (.code (mY 123) (mBy 123) (mMt 123).1 (mRt 123)) := rfl
theorem mcw_124 : mWrd (mCw 124) = some (.code (mY 124) (mBy 124) (mMt 124).1 (mRt 124)) := rfl
theorem mcw_125 : mWrd (mCw 125) = some (.code (mY 125) (mBy 125) (mMt 125).1 (mRt 125)) := rfl
theorem mcw_126 : mWrd (mCw 126) = some (.code (mY 126) (mBy 126) (mMt 126).1 (mRt 126)) := rfl
theorem mcw_127 : mWrd (mCw 127) = some (.code (mY 127) (mBy 127) (mMt 127).1 (mRt 127)) := rfl
theorem mcw_128 : mWrd (mCw 128) = some (.code (mY 128) (mBy 128) (mMt 128).1 (mRt 128)) := rfl
theorem mcw_129 : mWrd (mCw 129) = some (.code (mY 129) (mBy 129) (mMt 129).1 (mRt 129)) := rfl
theorem mcw_130 : mWrd (mCw 130) = some (.code (mY 130) (mBy 130) (mMt 130).1 (mRt 130)) := rfl
theorem mcw_131 : mWrd (mCw 131) = some (.code (mY 131) (mBy 131) (mMt 131).1 (mRt 131)) := rfl
theorem mcw_132 : mWrd (mCw 132) = some (.code (mY 132) (mBy 132) (mMt 132).1 (mRt 132)) := rfl
theorem mcw_133 : mWrd (mCw 133) = some (.code (mY 133) (mBy 133) (mMt 133).1 (mRt 133)) := rfl
theorem mcw_134 : mWrd (mCw 134) = some (.code (mY 134) (mBy 134) (mMt 134).1 (mRt 134)) := rfl
theorem mcw_135 : mWrd (mCw 135) = some (.code (mY 135) (mBy 135) (mMt 135).1 (mRt 135)) := rfl
theorem mcw_136 : mWrd (mCw 136) = some (.code (mY 136) (mBy 136) (mMt 136).1 (mRt 136)) := rfl
theorem mcw_137 : mWrd (mCw 137) = some (.code (mY 137) (mBy 137) (mMt 137).1 (mRt 137)) := rfl
theorem mcw_138 : mWrd (mCw 138) = some (.code (mY 138) (mBy 138) (mMt 138).1 (mRt 138)) := rfl
theorem mcw_139 : mWrd (mCw 139) = some (.code (mY 139) (mBy 139) (mMt 139).1 (mRt 139)) := rfl
theorem mcw_140 : mWrd (mCw 140) = some (.code (mY 140) (mBy 140) (mMt 140).1 (mRt 140)) := rfl
theorem mcw_141 : mWrd (mCw 141) = some (.code (mY 141) (mBy 141) (mMt 141).1 (mRt 141)) := rfl
theorem mcw_142 : mWrd (mCw 142) = some (.code (mY 142) (mBy 142) (mMt 142).1 (mRt 142)) := rfl
theorem mcw_143 : mWrd (mCw 143) = some (.code (mY 143) (mBy 143) (mMt 143).1 (mRt 143)) := rfl
theorem mcw_144 : mWrd (mCw 144) = some (.code (mY 144) (mBy 144) (mMt 144).1 (mRt 144)) := rfl
theorem mcw_145 : mWrd (mCw 145) = some (.code (mY 145) (mBy 145) (mMt 145).1 (mRt 145)) := rfl
theorem mcw_146 : mWrd (mCw 146) = some (.code (mY 146) (mBy 146) (mMt 146).1 (mRt 146)) := rfl
theorem mcw_147 : mWrd (mCw 147) = some (.code (mY 147) (mBy 147) (mMt 147).1 (mRt 147)) := rfl
theorem mcw_148 : mWrd (mCw 148) = some (.code (mY 148) (mBy 148) (mMt 148).1 (mRt 148)) := rfl
theorem mcw_149 : mWrd (mCw 149) = some (.code (mY 149) (mBy 149) (mMt 149).1 (mRt 149)) := rfl
theorem mcw_150 : mWrd (mCw 150) = some (.code (mY 150) (mBy 150) (mMt 150).1 (mRt 150)) := rfl
theorem mcw_151 : mWrd (mCw 151) = some (.code (mY 151) (mBy 151) (mMt 151).1 (mRt 151)) := rfl
theorem mcw_152 : mWrd (mCw 152) = some (.code (mY 152) (mBy 152) (mMt 152).1 (mRt 152)) := rfl
theorem mcw_153 : mWrd (mCw 153) = some (.code (mY 153) (mBy 153) (mMt 153).1 (mRt 153)) := rfl
theorem mcw_154 : mWrd (mCw 154) = some (.code (mY 154) (mBy 154) (mMt 154).1 (mRt 154)) := rfl
theorem mcw_155 : mWrd (mCw 155) = some (.code (mY 155) (mBy 155) (mMt 155).1 (mRt 155)) := rfl
theorem mcw_156 : mWrd (mCw 156) = some (.code (mY 156) (mBy 156) (mMt 156).1 (mRt 156)) := rfl
theorem mcw_157 : mWrd (mCw 157) = some (.code (mY 157) (mBy 157) (mMt 157).1 (mRt 157)) := rfl
theorem mcw_158 : mWrd (mCw 158) = some (.code (mY 158) (mBy 158) (mMt 158).1 (mRt 158)) := rfl
theorem mcw_159 : mWrd (mCw 159) = some (.code (mY 159) (mBy 159) (mMt 159).1 (mRt 159)) := rfl
theorem mcw_160 : mWrd (mCw 160) = some (.code (mY 160) (mBy 160) (mMt 160).1 (mRt 160)) := rfl
theorem mcw_161 : mWrd (mCw 161) = some (.code (mY 161) (mBy 161) (mMt 161).1 (mRt 161)) := rfl
theorem mcw_162 : mWrd (mCw 162) = some (.code (mY 162) (mBy 162) (mMt 162).1 (mRt 162)) := rfl
theorem mcw_163 : mWrd (mCw 163) = some (.code (mY 163) (mBy 163) (mMt 163).1 (mRt 163)) := rfl
theorem mcw_164 : mWrd (mCw 164) = some (.code (mY 164) (mBy 164) (mMt 164).1 (mRt 164)) := rfl
theorem mcw_165 : mWrd (mCw 165) = some (.code (mY 165) (mBy 165) (mMt 165).1 (mRt 165)) := rfl
theorem mcw_166 : mWrd (mCw 166) = some (.code (mY 166) (mBy 166) (mMt 166).1 (mRt 166)) := rfl
theorem mcw_167 : mWrd (mCw 167) = some (.code (mY 167) (mBy 167) (mMt 167).1 (mRt 167)) := rfl
theorem mcw_168 : mWrd (mCw 168) = some (.code (mY 168) (mBy 168) (mMt 168).1 (mRt 168)) := rfl
theorem mcw_169 : mWrd (mCw 169) = some (.code (mY 169) (mBy 169) (mMt 169).1 (mRt 169)) := rfl
theorem mcw_170 : mWrd (mCw 170) = some (.code (mY 170) (mBy 170) (mMt 170).1 (mRt 170)) := rfl
theorem mcw_171 : mWrd (mCw 171) = some (.code (mY 171) (mBy 171) (mMt 171).1 (mRt 171)) := rfl
theorem mcw_172 : mWrd (mCw 172) = some (.code (mY 172) (mBy 172) (mMt 172).1 (mRt 172)) := rfl
theorem mcw_173 : mWrd (mCw 173) = some (.code (mY 173) (mBy 173) (mMt 173).1 (mRt 173)) := rfl
theorem mcw_174 : mWrd (mCw 174) = some (.code (mY 174) (mBy 174) (mMt 174).1 (mRt 174)) := rfl
theorem mcw_175 : mWrd (mCw 175) = some (.code (mY 175) (mBy 175) (mMt 175).1 (mRt 175)) := rfl
theorem mcw_176 : mWrd (mCw 176) = some (.code (mY 176) (mBy 176) (mMt 176).1 (mRt 176)) := rfl
theorem mcw_177 : mWrd (mCw 177) = some (.code (mY 177) (mBy 177) (mMt 177).1 (mRt 177)) := rfl
theorem mcw_178 : mWrd (mCw 178) = some (.code (mY 178) (mBy 178) (mMt 178).1 (mRt 178)) := rfl
theorem mcw_179 : mWrd (mCw 179) = some (.code (mY 179) (mBy 179) (mMt 179).1 (mRt 179)) := rfl
theorem mcw_180 : mWrd (mCw 180) = some (.code (mY 180) (mBy 180) (mMt 180).1 (mRt 180)) := rfl
theorem mcw_181 : mWrd (mCw 181) = some (.code (mY 181) (mBy 181) (mMt 181).1 (mRt 181)) := rfl
theorem mcw_182 : mWrd (mCw 182) = some (.code (mY 182) (mBy 182) (mMt 182).1 (mRt 182)) := rfl
theorem mcw_183 : mWrd (mCw 183) = some (.code (mY 183) (mBy 183) (mMt 183).1 (mRt 183)) := rfl
theorem mcw_184 : mWrd (mCw 184) = some (.code (mY 184) (mBy 184) (mMt 184).1 (mRt 184)) := rfl
theorem mcw_185 : mWrd (mCw 185) = some (.code (mY 185) (mBy 185) (mMt 185).1 (mRt 185)) := rfl
theorem mcw_186 : mWrd (mCw 186) = some (.code (mY 186) (mBy 186) (mMt 186).1 (mRt 186)) := rfl
theorem mcw_187 : mWrd (mCw 187) = some (.code (mY 187) (mBy 187) (mMt 187).1 (mRt 187)) := rfl
theorem mcw_188 : mWrd (mCw 188) = some (.codeWith (mY 188) (mBy 188) (mMt 188).1 (mRt 188) (mHh 188)) := rfl
theorem mcw_189 : mWrd (mCw 189) = some (.codeWith (mY 189) (mBy 189) (mMt 189).1 (mRt 189) (mHh 189)) := rfl
theorem mcw_190 : mWrd (mCw 190) = some (.codeWith (mY 190) (mBy 190) (mMt 190).1 (mRt 190) (mHh 190)) := rfl
theorem mcw_191 : mWrd (mCw 191) = some (.codeWith (mY 191) (mBy 191) (mMt 191).1 (mRt 191) (mHh 191)) := rfl
theorem mcw_192 : mWrd (mCw 192) = some (.codeWith (mY 192) (mBy 192) (mMt 192).1 (mRt 192) (mHh 192)) := rfl
theorem mcw_193 : mWrd (mCw 193) = some (.codeWith (mY 193) (mBy 193) (mMt 193).1 (mRt 193) (mHh 193)) := rfl
theorem mcw_194 : mWrd (mCw 194) = some (.codeWith (mY 194) (mBy 194) (mMt 194).1 (mRt 194) (mHh 194)) := rfl
theorem mcw_195 : mWrd (mCw 195) = some (.codeWith (mY 195) (mBy 195) (mMt 195).1 (mRt 195) (mHh 195)) := rfl
theorem mcw_196 : mWrd (mCw 196) = some (.codeWith (mY 196) (mBy 196) (mMt 196).1 (mRt 196) (mHh 196)) := rfl
theorem mcw_197 : mWrd (mCw 197) = some (.codeWith (mY 197) (mBy 197) (mMt 197).1 (mRt 197) (mHh 197)) := rfl
theorem mcw_198 : mWrd (mCw 198) = some (.codeWith (mY 198) (mBy 198) (mMt 198).1 (mRt 198) (mHh 198)) := rfl
theorem mcw_199 : mWrd (mCw 199) = some (.codeWith (mY 199) (mBy 199) (mMt 199).1 (mRt 199) (mHh 199)) := rfl
theorem mcw_200 : mWrd (mCw 200) = some (.codeWith (mY 200) (mBy 200) (mMt 200).1 (mRt 200) (mHh 200)) := rfl
theorem mcw_201 : mWrd (mCw 201) = some (.codeWith (mY 201) (mBy 201) (mMt 201).1 (mRt 201) (mHh 201)) := rfl
theorem mcw_202 : mWrd (mCw 202) = some (.codeWith (mY 202) (mBy 202) (mMt 202).1 (mRt 202) (mHh 202)) := rfl
theorem mcw_203 : mWrd (mCw 203) = some (.codeWith (mY 203) (mBy 203) (mMt 203).1 (mRt 203) (mHh 203)) := rfl
theorem mcw_204 : mWrd (mCw 204) = some (.codeWith (mY 204) (mBy 204) (mMt 204).1 (mRt 204) (mHh 204)) := rfl
theorem mcw_205 : mWrd (mCw 205) = some (.codeWith (mY 205) (mBy 205) (mMt 205).1 (mRt 205) (mHh 205)) := rfl
theorem mcw_206 : mWrd (mCw 206) = some (.codeWith (mY 206) (mBy 206) (mMt 206).1 (mRt 206) (mHh 206)) := rfl
theorem mcw_207 : mWrd (mCw 207) = some (.codeWith (mY 207) (mBy 207) (mMt 207).1 (mRt 207) (mHh 207)) := rfl
theorem mcw_208 : mWrd (mCw 208) = some (.codeWith (mY 208) (mBy 208) (mMt 208).1 (mRt 208) (mHh 208)) := rfl
theorem mcv_0 : ((List.range 15).all fun j => Nat.ble 209 (0 + j) || Nat.beq (0 + j) 1 || Nat.beq (0 + j) 2 || mChW (0 + j)) = true := by decide +kernel
theorem mcv_1 : ((List.range 15).all fun j => Nat.ble 209 (15 + j) || Nat.beq (15 + j) 1 || Nat.beq (15 + j) 2 || mChW (15 + j)) = true := by decide +kernel
theorem mcv_2 : ((List.range 15).all fun j => Nat.ble 209 (30 + j) || Nat.beq (30 + j) 1 || Nat.beq (30 + j) 2 || mChW (30 + j)) = true := by decide +kernel
theorem mcv_3 : ((List.range 15).all fun j => Nat.ble 209 (45 + j) || Nat.beq (45 + j) 1 || Nat.beq (45 + j) 2 || mChW (45 + j)) = true := by decide +kernel
theorem mcv_4 : ((List.range 15).all fun j => Nat.ble 209 (60 + j) || Nat.beq (60 + j) 1 || Nat.beq (60 + j) 2 || mChW (60 + j)) = true := by decide +kernel
theorem mcv_5 : ((List.range 15).all fun j => Nat.ble 209 (75 + j) || Nat.beq (75 + j) 1 || Nat.beq (75 + j) 2 || mChW (75 + j)) = true := by decide +kernel
theorem mcv_6 : ((List.range 15).all fun j => Nat.ble 209 (90 + j) || Nat.beq (90 + j) 1 || Nat.beq (90 + j) 2 || mChW (90 + j)) = true := by decide +kernel
theorem mcv_7 : ((List.range 15).all fun j => Nat.ble 209 (105 + j) || Nat.beq (105 + j) 1 || Nat.beq (105 + j) 2 || mChW (105 + j)) = true := by decide +kernel
theorem mcv_8 : ((List.range 15).all fun j => Nat.ble 209 (120 + j) || Nat.beq (120 + j) 1 || Nat.beq (120 + j) 2 || mChW (120 + j)) = true := by decide +kernel
theorem mcv_9 : ((List.range 15).all fun j => Nat.ble 209 (135 + j) || Nat.beq (135 + j) 1 || Nat.beq (135 + j) 2 || mChW (135 + j)) = true := by decide +kernel
theorem mcv_10 : ((List.range 15).all fun j => Nat.ble 209 (150 + j) || Nat.beq (150 + j) 1 || Nat.beq (150 + j) 2 || mChW (150 + j)) = true := by decide +kernel
theorem mcv_11 : ((List.range 15).all fun j => Nat.ble 209 (165 + j) || Nat.beq (165 + j) 1 || Nat.beq (165 + j) 2 || mChW (165 + j)) = true := by decide +kernel
theorem mcv_12 : ((List.range 15).all fun j => Nat.ble 209 (180 + j) || Nat.beq (180 + j) 1 || Nat.beq (180 + j) 2 || mChW (180 + j)) = true := by decide +kernel
theorem mcv_13 : ((List.range 15).all fun j => Nat.ble 209 (195 + j) || Nat.beq (195 + j) 1 || Nat.beq (195 + j) 2 || mChW (195 + j)) = true := by decide +kernel
