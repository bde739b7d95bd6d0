/-! SOUNDNESS, part 4: the checks of all methods, together -/
theorem mck_all {m pc : Nat} {it : mIt} (h : mAt m pc = some it) : m < 210 ∧ mChI m pc (some it) = true := by
  have hb : (Nat.blt m 210 && Nat.blt pc 2000) = true := by
    cases hc : (Nat.blt m 210 && Nat.blt pc 2000) with
    | true => rfl
    | false => unfold mAt at h; rw [hc] at h; cases h
  obtain ⟨h1, h2⟩ := Bool.and_eq_true _ _ ▸ hb
  have h1 : m < 210 := by simp only [Nat.blt] at h1; exact Nat.lt_of_succ_le (Nat.le_of_ble_eq_true h1)
  have h2 : pc < 2000 := by simp only [Nat.blt] at h2; exact Nat.lt_of_succ_le (Nat.le_of_ble_eq_true h2)
  refine ⟨h1, ?_⟩
  rw [← h]
  have key : ∀ x, mChM x = true → mChI x pc (mAt x pc) = true := fun x hx => List.all_eq_true.mp hx pc (List.mem_range.mpr h2)
  clear hb h
  rcases Nat.lt_or_ge m 209 with q0 | q0
  · have all : ∀ x, x < 209 → mChM x = true := by
      intro y hy
      rcases Nat.lt_or_ge y 104 with q | q
      ·
        rcases Nat.lt_or_ge y 52 with q | q
        ·
          rcases Nat.lt_or_ge y 26 with q | q
          ·
            rcases Nat.lt_or_ge y 13 with q | q
            ·
              rcases Nat.lt_or_ge y 6 with q | q
              ·
                rcases Nat.lt_or_ge y 3 with q | q
                ·
                  rcases Nat.lt_or_ge y 1 with q | q
                  ·
                    obtain rfl : y = 0 := by omega
                    exact mck_0
                  ·
                    rcases Nat.lt_or_ge y 2 with q | q
                    ·
                      obtain rfl : y = 1 := by omega
                      exact mck_1
                    ·
                      obtain rfl : y = 2 := by omega
                      exact mck_2
                ·
                  rcases Nat.lt_or_ge y 4 with q | q
                  ·
                    obtain rfl : y = 3 := by omega
                    exact mck_3
                  ·
                    rcases Nat.lt_or_ge y 5 with q | q
                    ·
                      obtain rfl : y = 4 := by omega
                      exact mck_4
                    ·
                      obtain rfl : y = 5 := by omega
                      exact mck_5
              ·
                rcases Nat.lt_or_ge y 9 with q | q
                ·
                  rcases Nat.lt_or_ge y 7 with q | q
                  ·
                    obtain rfl : y = 6 := by omega
                    exact mck_6
                  ·
                    rcases Nat.lt_or_ge y 8 with q | q
                    ·
                      obtain rfl : y = 7 := by omega
                      exact mck_7
                    ·
                      obtain rfl : y = 8 := by omega
                      exact mck_8
                ·
                  rcases Nat.lt_or_ge y 11 with q | q
                  ·
                    rcases Nat.lt_or_ge y 10 with q | q
                    ·
                      obtain rfl : y = 9 := by omega
                      exact mck_9
                    ·
                      obtain rfl : y = 10 := by omega
                      exact mck_10
                  ·
                    rcases Nat.lt_or_ge y 12 with q | q
                    ·
                      obtain rfl : y = 11 := by omega
                      exact mck_11
                    ·
                      obtain rfl : y = 12 := by omega
                      exact mck_12
            ·
              rcases Nat.lt_or_ge y 19 with q | q
              ·
                rcases Nat.lt_or_ge y 16 with q | q
                ·
                  rcases Nat.lt_or_ge y 14 with q | q
                  ·
                    obtain rfl : y = 13 := by omega
                    exact mck_13
                  ·
                    rcases Nat.lt_or_ge y 15 with q | q
                    ·
                      obtain rfl : y = 14 := by omega
                      exact mck_14
                    ·
                      obtain rfl : y = 15 := by omega
                      exact mck_15
                ·
                  rcases Nat.lt_or_ge y 17 with q | q
                  ·
                    obtain rfl : y = 16 := by omega
                    exact mck_16
                  ·
                    rcases Nat.lt_or_ge y 18 with q | q
                    ·
                      obtain rfl : y = 17 := by omega
                      exact mck_17
                    ·
                      obtain rfl : y = 18 := by omega
                      exact mck_18
              ·
                rcases Nat.lt_or_ge y 22 with q | q
                ·
                  rcases Nat.lt_or_ge y 20 with q | q
                  ·
                    obtain rfl : y = 19 := by omega
                    exact mck_19
                  ·
                    rcases Nat.lt_or_ge y 21 with q | q
                    ·
                      obtain rfl : y = 20 := by omega
                      exact mck_20
                    ·
                      obtain rfl : y = 21 := by omega
                      exact mck_21
                ·
                  rcases Nat.lt_or_ge y 24 with q | q
                  ·
                    rcases Nat.lt_or_ge y 23 with q | q
                    ·
                      obtain rfl : y = 22 := by omega
                      exact mck_22
                    ·
                      obtain rfl : y = 23 := by omega
                      exact mck_23
                  ·
                    rcases Nat.lt_or_ge y 25 with q | q
                    ·
                      obtain rfl : y = 24 := by omega
                      exact mck_24
                    ·
                      obtain rfl : y = 25 := by omega
                      exact mck_25
          ·
            rcases Nat.lt_or_ge y 39 with q | q
            ·
              rcases Nat.lt_or_ge y 32 with q | q
              ·
                rcases Nat.lt_or_ge y 29 with q | q
                ·
                  rcases Nat.lt_or_ge y 27 with q | q
                  ·
                    obtain rfl : y = 26 := by omega
                    exact mck_26
                  ·
                    rcases Nat.lt_or_ge y 28 with q | q
                    ·
                      obtain rfl : y = 27 := by omega
                      exact mck_27
                    ·
                      obtain rfl : y = 28 := by omega
                      exact mck_28
                ·
                  rcases Nat.lt_or_ge y 30 with q | q
                  ·
                    obtain rfl : y = 29 := by omega
                    exact mck_29
                  ·
                    rcases Nat.lt_or_ge y 31 with q | q
                    ·
                      obtain rfl : y = 30 := by omega
                      exact mck_30
                    ·
                      obtain rfl : y = 31 := by omega
                      exact mck_31
              ·
                rcases Nat.lt_or_ge y 35 with q | q
                ·
                  rcases Nat.lt_or_ge y 33 with q | q
                  ·
                    obtain rfl : y = 32 := by omega
                    exact mck_32
                  ·
                    rcases Nat.lt_or_ge y 34 with q | q
                    ·
                      obtain rfl : y = 33 := by omega
                      exact mck_33
                    ·
                      obtain rfl : y = 34 := by omega
                      exact mck_34
                ·
                  rcases Nat.lt_or_ge y 37 with q | q
                  ·
                    rcases Nat.lt_or_ge y 36 with q | q
                    ·
                      obtain rfl : y = 35 := by omega
                      exact mck_35
                    ·
                      obtain rfl : y = 36 := by omega
                      exact mck_36
                  ·
                    rcases Nat.lt_or_ge y 38 with q | q
                    ·
                      obtain rfl : y = 37 := by omega
                      exact mck_37
                    ·
                      obtain rfl : y = 38 := by omega
                      exact mck_38
            ·
              rcases Nat.lt_or_ge y 45 with q | q
              ·
                rcases Nat.lt_or_ge y 42 with q | q
                ·
                  rcases Nat.lt_or_ge y 40 with q | q
                  ·
                    obtain rfl : y = 39 := by omega
                    exact mck_39
                  ·
                    rcases Nat.lt_or_ge y 41 with q | q
                    ·
                      obtain rfl : y = 40 := by omega
                      exact mck_40
                    ·
                      obtain rfl : y = 41 := by omega
                      exact mck_41
                ·
                  rcases Nat.lt_or_ge y 43 with q | q
                  ·
                    obtain rfl : y = 42 := by omega
                    exact mck_42
                  ·
                    rcases Nat.lt_or_ge y 44 with q | q
                    ·
                      obtain rfl : y = 43 := by omega
                      exact mck_43
                    ·
                      obtain rfl : y = 44 := by omega
                      exact mck_44
              ·
                rcases Nat.lt_or_ge y 48 with q | q
                ·
                  rcases Nat.lt_or_ge y 46 with q | q
                  ·
                    obtain rfl : y = 45 := by omega
                    exact mck_45
                  ·
                    rcases Nat.lt_or_ge y 47 with q | q
                    ·
                      obtain rfl : y = 46 := by omega
                      exact mck_46
                    ·
                      obtain rfl : y = 47 := by omega
                      exact mck_47
                ·
                  rcases Nat.lt_or_ge y 50 with q | q
                  ·
                    rcases Nat.lt_or_ge y 49 with q | q
                    ·
                      obtain rfl : y = 48 := by omega
                      exact mck_48
                    ·
                      obtain rfl : y = 49 := by omega
                      exact mck_49
                  ·
                    rcases Nat.lt_or_ge y 51 with q | q
                    ·
                      obtain rfl : y = 50 := by omega
                      exact mck_50
                    ·
                      obtain rfl : y = 51 := by omega
                      exact mck_51
        ·
          rcases Nat.lt_or_ge y 78 with q | q
          ·
            rcases Nat.lt_or_ge y 65 with q | q
            ·
              rcases Nat.lt_or_ge y 58 with q | q
              ·
                rcases Nat.lt_or_ge y 55 with q | q
                ·
                  rcases Nat.lt_or_ge y 53 with q | q
                  ·
                    obtain rfl : y = 52 := by omega
                    exact mck_52
                  ·
                    rcases Nat.lt_or_ge y 54 with q | q
                    ·
                      obtain rfl : y = 53 := by omega
                      exact mck_53
                    ·
                      obtain rfl : y = 54 := by omega
                      exact mck_54
                ·
                  rcases Nat.lt_or_ge y 56 with q | q
                  ·
                    obtain rfl : y = 55 := by omega
                    exact mck_55
                  ·
                    rcases Nat.lt_or_ge y 57 with q | q
                    ·
                      obtain rfl : y = 56 := by omega
                      exact mck_56
                    ·
                      obtain rfl : y = 57 := by omega
                      exact mck_57
              ·
                rcases Nat.lt_or_ge y 61 with q | q
                ·
                  rcases Nat.lt_or_ge y 59 with q | q
                  ·
                    obtain rfl : y = 58 := by omega
                    exact mck_58
                  ·
                    rcases Nat.lt_or_ge y 60 with q | q
                    ·
                      obtain rfl : y = 59 := by omega
                      exact mck_59
                    ·
                      obtain rfl : y = 60 := by omega
                      exact mck_60
                ·
                  rcases Nat.lt_or_ge y 63 with q | q
                  ·
                    rcases Nat.lt_or_ge y 62 with q | q
                    ·
                      obtain rfl : y = 61 := by omega
                      exact mck_61
                    ·
                      obtain rfl : y = 62 := by omega
                      exact mck_62
                  ·
                    rcases Nat.lt_or_ge y 64 with q | q
                    ·
                      obtain rfl : y = 63 := by omega
                      exact mck_63
                    ·
                      obtain rfl : y = 64 := by omega
                      exact mck_64
            ·
              rcases Nat.lt_or_ge y 71 with q | q
              ·
                rcases Nat.lt_or_ge y 68 with q | q
                ·
                  rcases Nat.lt_or_ge y 66 with q | q
                  ·
                    obtain rfl : y = 65 := by omega
                    exact mck_65
                  ·
                    rcases Nat.lt_or_ge y 67 with q | q
                    ·
                      obtain rfl : y = 66 := by omega
                      exact mck_66
                    ·
                      obtain rfl : y = 67 := by omega
                      exact mck_67
                ·
                  rcases Nat.lt_or_ge y 69 with q | q
                  ·
                    obtain rfl : y = 68 := by omega
                    exact mck_68
                  ·
                    rcases Nat.lt_or_ge y 70 with q | q
                    ·
                      obtain rfl : y = 69 := by omega
                      exact mck_69
                    ·
                      obtain rfl : y = 70 := by omega
                      exact mck_70
              ·
                rcases Nat.lt_or_ge y 74 with q | q
                ·
                  rcases Nat.lt_or_ge y 72 with q | q
                  ·
                    obtain rfl : y = 71 := by omega
                    exact mck_71
                  ·
                    rcases Nat.lt_or_ge y 73 with q | q
                    ·
                      obtain rfl : y = 72 := by omega
                      exact mck_72
                    ·
                      obtain rfl : y = 73 := by omega
                      exact mck_73
                ·
                  rcases Nat.lt_or_ge y 76 with q | q
                  ·
                    rcases Nat.lt_or_ge y 75 with q | q
                    ·
                      obtain rfl : y = 74 := by omega
                      exact mck_74
                    ·
                      obtain rfl : y = 75 := by omega
                      exact mck_75
                  ·
                    rcases Nat.lt_or_ge y 77 with q | q
                    ·
                      obtain rfl : y = 76 := by omega
                      exact mck_76
                    ·
                      obtain rfl : y = 77 := by omega
                      exact mck_77
          ·
            rcases Nat.lt_or_ge y 91 with q | q
            ·
              rcases Nat.lt_or_ge y 84 with q | q
              ·
                rcases Nat.lt_or_ge y 81 with q | q
                ·
                  rcases Nat.lt_or_ge y 79 with q | q
                  ·
                    obtain rfl : y = 78 := by omega
                    exact mck_78
                  ·
                    rcases Nat.lt_or_ge y 80 with q | q
                    ·
                      obtain rfl : y = 79 := by omega
                      exact mck_79
                    ·
                      obtain rfl : y = 80 := by omega
                      exact mck_80
                ·
                  rcases Nat.lt_or_ge y 82 with q | q
                  ·
                    obtain rfl : y = 81 := by omega
                    exact mck_81
                  ·
                    rcases Nat.lt_or_ge y 83 with q | q
                    ·
                      obtain rfl : y = 82 := by omega
                      exact mck_82
                    ·
                      obtain rfl : y = 83 := by omega
                      exact mck_83
              ·
                rcases Nat.lt_or_ge y 87 with q | q
                ·
                  rcases Nat.lt_or_ge y 85 with q | q
                  ·
                    obtain rfl : y = 84 := by omega
                    exact mck_84
                  ·
                    rcases Nat.lt_or_ge y 86 with q | q
                    ·
                      obtain rfl : y = 85 := by omega
                      exact mck_85
                    ·
                      obtain rfl : y = 86 := by omega
                      exact mck_86
                ·
                  rcases Nat.lt_or_ge y 89 with q | q
                  ·
                    rcases Nat.lt_or_ge y 88 with q | q
                    ·
                      obtain rfl : y = 87 := by omega
                      exact mck_87
                    ·
                      obtain rfl : y = 88 := by omega
                      exact mck_88
                  ·
                    rcases Nat.lt_or_ge y 90 with q | q
                    ·
                      obtain rfl : y = 89 := by omega
                      exact mck_89
                    ·
                      obtain rfl : y = 90 := by omega
                      exact mck_90
            ·
              rcases Nat.lt_or_ge y 97 with q | q
              ·
                rcases Nat.lt_or_ge y 94 with q | q
                ·
                  rcases Nat.lt_or_ge y 92 with q | q
                  ·
                    obtain rfl : y = 91 := by omega
                    exact mck_91
                  ·
                    rcases Nat.lt_or_ge y 93 with q | q
                    ·
                      obtain rfl : y = 92 := by omega
                      exact mck_92
                    ·
                      obtain rfl : y = 93 := by omega
                      exact mck_93
                ·
                  rcases Nat.lt_or_ge y 95 with q | q
                  ·
                    obtain rfl : y = 94 := by omega
                    exact mck_94
                  ·
                    rcases Nat.lt_or_ge y 96 with q | q
                    ·
                      obtain rfl : y = 95 := by omega
                      exact mck_95
                    ·
                      obtain rfl : y = 96 := by omega
                      exact mck_96
              ·
                rcases Nat.lt_or_ge y 100 with q | q
                ·
                  rcases Nat.lt_or_ge y 98 with q | q
                  ·
                    obtain rfl : y = 97 := by omega
                    exact mck_97
                  ·
                    rcases Nat.lt_or_ge y 99 with q | q
                    ·
                      obtain rfl : y = 98 := by omega
                      exact mck_98
                    ·
                      obtain rfl : y = 99 := by omega
                      exact mck_99
                ·
                  rcases Nat.lt_or_ge y 102 with q | q
                  ·
                    rcases Nat.lt_or_ge y 101 with q | q
                    ·
                      obtain rfl : y = 100 := by omega
                      exact mck_100
                    ·
                      obtain rfl : y = 101 := by omega
                      exact mck_101
                  ·
                    rcases Nat.lt_or_ge y 103 with q | q
                    ·
                      obtain rfl : y = 102 := by omega
                      exact mck_102
                    ·
                      obtain rfl : y = 103 := by omega
                      exact mck_103
      ·
        rcases Nat.lt_or_ge y 156 with q | q
        ·
          rcases Nat.lt_or_ge y 130 with q | q
          ·
            rcases Nat.lt_or_ge y 117 with q | q
            ·
              rcases Nat.lt_or_ge y 110 with q | q
              ·
                rcases Nat.lt_or_ge y 107 with q | q
                ·
                  rcases Nat.lt_or_ge y 105 with q | q
                  ·
                    obtain rfl : y = 104 := by omega
                    exact mck_104
                  ·
                    rcases Nat.lt_or_ge y 106 with q | q
                    ·
                      obtain rfl : y = 105 := by omega
                      exact mck_105
                    ·
                      obtain rfl : y = 106 := by omega
                      exact mck_106
                ·
                  rcases Nat.lt_or_ge y 108 with q | q
                  ·
                    obtain rfl : y = 107 := by omega
                    exact mck_107
                  ·
                    rcases Nat.lt_or_ge y 109 with q | q
                    ·
                      obtain rfl : y = 108 := by omega
                      exact mck_108
                    ·
                      obtain rfl : y = 109 := by omega
                      exact mck_109
              ·
                rcases Nat.lt_or_ge y 113 with q | q
                ·
                  rcases Nat.lt_or_ge y 111 with q | q
                  ·
                    obtain rfl : y = 110 := by omega
                    exact mck_110
                  ·
                    rcases Nat.lt_or_ge y 112 with q | q
                    ·
                      obtain rfl : y = 111 := by omega
                      exact mck_111
                    ·
                      obtain rfl : y = 112 := by omega
                      exact mck_112
                ·
                  rcases Nat.lt_or_ge y 115 with q | q
                  ·
                    rcases Nat.lt_or_ge y 114 with q | q
                    ·
                      obtain rfl : y = 113 := by omega
                      exact mck_113
                    ·
                      obtain rfl : y = 114 := by omega
                      exact mck_114
                  ·
                    rcases Nat.lt_or_ge y 116 with q | q
                    ·
                      obtain rfl : y = 115 := by omega
                      exact mck_115
                    ·
                      obtain rfl : y = 116 := by omega
                      exact mck_116
            ·
              rcases Nat.lt_or_ge y 123 with q | q
              ·
                rcases Nat.lt_or_ge y 120 with q | q
                ·
                  rcases Nat.lt_or_ge y 118 with q | q
                  ·
                    obtain rfl : y = 117 := by omega
                    exact mck_117
                  ·
                    rcases Nat.lt_or_ge y 119 with q | q
                    ·
                      obtain rfl : y = 118 := by omega
                      exact mck_118
                    ·
                      obtain rfl : y = 119 := by omega
                      exact mck_119
                ·
                  rcases Nat.lt_or_ge y 121 with q | q
                  ·
                    obtain rfl : y = 120 := by omega
                    exact mck_120
                  ·
                    rcases Nat.lt_or_ge y 122 with q | q
                    ·
                      obtain rfl : y = 121 := by omega
                      exact mck_121
                    ·
                      obtain rfl : y = 122 := by omega
                      exact mck_122
              ·
                rcases Nat.lt_or_ge y 126 with q | q
                ·
                  rcases Nat.lt_or_ge y 124 with q | q
                  ·
                    obtain rfl : y = 123 := by omega
                    exact mck_123
                  ·
                    rcases Nat.lt_or_ge y 125 with q | q
                    ·
                      obtain rfl : y = 124 := by omega
                      exact mck_124
                    ·
                      obtain rfl : y = 125 := by omega
                      exact mck_125
                ·
                  rcases Nat.lt_or_ge y 128 with q | q
                  ·
                    rcases Nat.lt_or_ge y 127 with q | q
                    ·
                      obtain rfl : y = 126 := by omega
                      exact mck_126
                    ·
                      obtain rfl : y = 127 := by omega
                      exact mck_127
                  ·
                    rcases Nat.lt_or_ge y 129 with q | q
                    ·
                      obtain rfl : y = 128 := by omega
                      exact mck_128
                    ·
                      obtain rfl : y = 129 := by omega
                      exact mck_129
          ·
            rcases Nat.lt_or_ge y 143 with q | q
            ·
              rcases Nat.lt_or_ge y 136 with q | q
              ·
                rcases Nat.lt_or_ge y 133 with q | q
                ·
                  rcases Nat.lt_or_ge y 131 with q | q
                  ·
                    obtain rfl : y = 130 := by omega
                    exact mck_130
                  ·
                    rcases Nat.lt_or_ge y 132 with q | q
                    ·
                      obtain rfl : y = 131 := by omega
                      exact mck_131
                    ·
                      obtain rfl : y = 132 := by omega
                      exact mck_132
                ·
                  rcases Nat.lt_or_ge y 134 with q | q
                  ·
                    obtain rfl : y = 133 := by omega
                    exact mck_133
                  ·
                    rcases Nat.lt_or_ge y 135 with q | q
                    ·
                      obtain rfl : y = 134 := by omega
                      exact mck_134
                    ·
                      obtain rfl : y = 135 := by omega
                      exact mck_135
              ·
                rcases Nat.lt_or_ge y 139 with q | q
                ·
                  rcases Nat.lt_or_ge y 137 with q | q
                  ·
                    obtain rfl : y = 136 := by omega
                    exact mck_136
                  ·
                    rcases Nat.lt_or_ge y 138 with q | q
                    ·
                      obtain rfl : y = 137 := by omega
                      exact mck_137
                    ·
                      obtain rfl : y = 138 := by omega
                      exact mck_138
                ·
                  rcases Nat.lt_or_ge y 141 with q | q
                  ·
                    rcases Nat.lt_or_ge y 140 with q | q
                    ·
                      obtain rfl : y = 139 := by omega
                      exact mck_139
                    ·
                      obtain rfl : y = 140 := by omega
                      exact mck_140
                  ·
                    rcases Nat.lt_or_ge y 142 with q | q
                    ·
                      obtain rfl : y = 141 := by omega
                      exact mck_141
                    ·
                      obtain rfl : y = 142 := by omega
                      exact mck_142
            ·
              rcases Nat.lt_or_ge y 149 with q | q
              ·
                rcases Nat.lt_or_ge y 146 with q | q
                ·
                  rcases Nat.lt_or_ge y 144 with q | q
                  ·
                    obtain rfl : y = 143 := by omega
                    exact mck_143
                  ·
                    rcases Nat.lt_or_ge y 145 with q | q
                    ·
                      obtain rfl : y = 144 := by omega
                      exact mck_144
                    ·
                      obtain rfl : y = 145 := by omega
                      exact mck_145
                ·
                  rcases Nat.lt_or_ge y 147 with q | q
                  ·
                    obtain rfl : y = 146 := by omega
                    exact mck_146
                  ·
                    rcases Nat.lt_or_ge y 148 with q | q
                    ·
                      obtain rfl : y = 147 := by omega
                      exact mck_147
                    ·
                      obtain rfl : y = 148 := by omega
                      exact mck_148
              ·
                rcases Nat.lt_or_ge y 152 with q | q
                ·
                  rcases Nat.lt_or_ge y 150 with q | q
                  ·
                    obtain rfl : y = 149 := by omega
                    exact mck_149
                  ·
                    rcases Nat.lt_or_ge y 151 with q | q
                    ·
                      obtain rfl : y = 150 := by omega
                      exact mck_150
                    ·
                      obtain rfl : y = 151 := by omega
                      exact mck_151
                ·
                  rcases Nat.lt_or_ge y 154 with q | q
                  ·
                    rcases Nat.lt_or_ge y 153 with q | q
                    ·
                      obtain rfl : y = 152 := by omega
                      exact mck_152
                    ·
                      obtain rfl : y = 153 := by omega
                      exact mck_153
                  ·
                    rcases Nat.lt_or_ge y 155 with q | q
                    ·
                      obtain rfl : y = 154 := by omega
                      exact mck_154
                    ·
                      obtain rfl : y = 155 := by omega
                      exact mck_155
        ·
          rcases Nat.lt_or_ge y 182 with q | q
          ·
            rcases Nat.lt_or_ge y 169 with q | q
            ·
              rcases Nat.lt_or_ge y 162 with q | q
              ·
                rcases Nat.lt_or_ge y 159 with q | q
                ·
                  rcases Nat.lt_or_ge y 157 with q | q
                  ·
                    obtain rfl : y = 156 := by omega
                    exact mck_156
                  ·
                    rcases Nat.lt_or_ge y 158 with q | q
                    ·
                      obtain rfl : y = 157 := by omega
                      exact mck_157
                    ·
                      obtain rfl : y = 158 := by omega
                      exact mck_158
                ·
                  rcases Nat.lt_or_ge y 160 with q | q
                  ·
                    obtain rfl : y = 159 := by omega
                    exact mck_159
                  ·
                    rcases Nat.lt_or_ge y 161 with q | q
                    ·
                      obtain rfl : y = 160 := by omega
                      exact mck_160
                    ·
                      obtain rfl : y = 161 := by omega
                      exact mck_161
              ·
                rcases Nat.lt_or_ge y 165 with q | q
                ·
                  rcases Nat.lt_or_ge y 163 with q | q
                  ·
                    obtain rfl : y = 162 := by omega
                    exact mck_162
                  ·
                    rcases Nat.lt_or_ge y 164 with q | q
                    ·
                      obtain rfl : y = 163 := by omega
                      exact mck_163
                    ·
                      obtain rfl : y = 164 := by omega
                      exact mck_164
                ·
                  rcases Nat.lt_or_ge y 167 with q | q
                  ·
                    rcases Nat.lt_or_ge y 166 with q | q
                    ·
                      obtain rfl : y = 165 := by omega
                      exact mck_165
                    ·
                      obtain rfl : y = 166 := by omega
                      exact mck_166
                  ·
                    rcases Nat.lt_or_ge y 168 with q | q
                    ·
                      obtain rfl : y = 167 := by omega
                      exact mck_167
                    ·
                      obtain rfl : y = 168 := by omega
                      exact mck_168
            ·
              rcases Nat.lt_or_ge y 175 with q | q
              ·
                rcases Nat.lt_or_ge y 172 with q | q
                ·
                  rcases Nat.lt_or_ge y 170 with q | q
                  ·
                    obtain rfl : y = 169 := by omega
                    exact mck_169
                  ·
                    rcases Nat.lt_or_ge y 171 with q | q
                    ·
                      obtain rfl : y = 170 := by omega
                      exact mck_170
                    ·
                      obtain rfl : y = 171 := by omega
                      exact mck_171
                ·
                  rcases Nat.lt_or_ge y 173 with q | q
                  ·
                    obtain rfl : y = 172 := by omega
                    exact mck_172
                  ·
                    rcases Nat.lt_or_ge y 174 with q | q
                    ·
                      obtain rfl : y = 173 := by omega
                      exact mck_173
                    ·
                      obtain rfl : y = 174 := by omega
                      exact mck_174
              ·
                rcases Nat.lt_or_ge y 178 with q | q
                ·
                  rcases Nat.lt_or_ge y 176 with q | q
                  ·
                    obtain rfl : y = 175 := by omega
                    exact mck_175
                  ·
                    rcases Nat.lt_or_ge y 177 with q | q
                    ·
                      obtain rfl : y = 176 := by omega
                      exact mck_176
                    ·
                      obtain rfl : y = 177 := by omega
                      exact mck_177
                ·
                  rcases Nat.lt_or_ge y 180 with q | q
                  ·
                    rcases Nat.lt_or_ge y 179 with q | q
                    ·
                      obtain rfl : y = 178 := by omega
                      exact mck_178
                    ·
                      obtain rfl : y = 179 := by omega
                      exact mck_179
                  ·
                    rcases Nat.lt_or_ge y 181 with q | q
                    ·
                      obtain rfl : y = 180 := by omega
                      exact mck_180
                    ·
                      obtain rfl : y = 181 := by omega
                      exact mck_181
          ·
            rcases Nat.lt_or_ge y 195 with q | q
            ·
              rcases Nat.lt_or_ge y 188 with q | q
              ·
                rcases Nat.lt_or_ge y 185 with q | q
                ·
                  rcases Nat.lt_or_ge y 183 with q | q
                  ·
                    obtain rfl : y = 182 := by omega
                    exact mck_182
                  ·
                    rcases Nat.lt_or_ge y 184 with q | q
                    ·
                      obtain rfl : y = 183 := by omega
                      exact mck_183
                    ·
                      obtain rfl : y = 184 := by omega
                      exact mck_184
                ·
                  rcases Nat.lt_or_ge y 186 with q | q
                  ·
                    obtain rfl : y = 185 := by omega
                    exact mck_185
                  ·
                    rcases Nat.lt_or_ge y 187 with q | q
                    ·
                      obtain rfl : y = 186 := by omega
                      exact mck_186
                    ·
                      obtain rfl : y = 187 := by omega
                      exact mck_187
              ·
                rcases Nat.lt_or_ge y 191 with q | q
                ·
                  rcases Nat.lt_or_ge y 189 with q | q
                  ·
                    obtain rfl : y = 188 := by omega
                    exact mck_188
                  ·
                    rcases Nat.lt_or_ge y 190 with q | q
                    ·
                      obtain rfl : y = 189 := by omega
                      exact mck_189
                    ·
                      obtain rfl : y = 190 := by omega
                      exact mck_190
                ·
                  rcases Nat.lt_or_ge y 193 with q | q
                  ·
                    rcases Nat.lt_or_ge y 192 with q | q
                    ·
                      obtain rfl : y = 191 := by omega
                      exact mck_191
                    ·
                      obtain rfl : y = 192 := by omega
                      exact mck_192
                  ·
                    rcases Nat.lt_or_ge y 194 with q | q
                    ·
                      obtain rfl : y = 193 := by omega
                      exact mck_193
                    ·
                      obtain rfl : y = 194 := by omega
                      exact mck_194
            ·
              rcases Nat.lt_or_ge y 202 with q | q
              ·
                rcases Nat.lt_or_ge y 198 with q | q
                ·
                  rcases Nat.lt_or_ge y 196 with q | q
                  ·
                    obtain rfl : y = 195 := by omega
                    exact mck_195
                  ·
                    rcases Nat.lt_or_ge y 197 with q | q
                    ·
                      obtain rfl : y = 196 := by omega
                      exact mck_196
                    ·
                      obtain rfl : y = 197 := by omega
                      exact mck_197
                ·
                  rcases Nat.lt_or_ge y 200 with q | q
                  ·
                    rcases Nat.lt_or_ge y 199 with q | q
                    ·
                      obtain rfl : y = 198 := by omega
                      exact mck_198
                    ·
                      obtain rfl : y = 199 := by omega
                      exact mck_199
                  ·
                    rcases Nat.lt_or_ge y 201 with q | q
                    ·
                      obtain rfl : y = 200 := by omega
                      exact mck_200
                    ·
                      obtain rfl : y = 201 := by omega
                      exact mck_201
              ·
                rcases Nat.lt_or_ge y 205 with q | q
                ·
                  rcases Nat.lt_or_ge y 203 with q | q
                  ·
                    obtain rfl : y = 202 := by omega
                    exact mck_202
                  ·
                    rcases Nat.lt_or_ge y 204 with q | q
                    ·
                      obtain rfl : y = 203 := by omega
                      exact mck_203
                    ·
                      obtain rfl : y = 204 := by omega
                      exact mck_204
                ·
                  rcases Nat.lt_or_ge y 207 with q | q
                  ·
                    rcases Nat.lt_or_ge y 206 with q | q
                    ·
                      obtain rfl : y = 205 := by omega
                      exact mck_205
                    ·
                      obtain rfl : y = 206 := by omega
                      exact mck_206
                  ·
                    rcases Nat.lt_or_ge y 208 with q | q
                    ·
                      obtain rfl : y = 207 := by omega
                      exact mck_207
                    ·
                      obtain rfl : y = 208 := by omega
                      exact mck_208
    exact key m (all m q0)
  · obtain rfl : m = 209 := by omega
    have e : pc = 100 * (pc / 100) + pc % 100 := (Nat.div_add_mod pc 100).symm
    have hk : pc / 100 < 20 := by omega
    have hj : pc % 100 < 100 := by omega
    generalize pc / 100 = y at e hk
    generalize pc % 100 = j at e hj
    subst e
    have hm := List.mem_range.mpr hj
    rcases Nat.lt_or_ge y 10 with q | q
    ·
      rcases Nat.lt_or_ge y 5 with q | q
      ·
        rcases Nat.lt_or_ge y 2 with q | q
        ·
          rcases Nat.lt_or_ge y 1 with q | q
          ·
            obtain rfl : y = 0 := by omega
            exact List.all_eq_true.mp mckl_0 j hm
          ·
            obtain rfl : y = 1 := by omega
            exact List.all_eq_true.mp mckl_1 j hm
        ·
          rcases Nat.lt_or_ge y 3 with q | q
          ·
            obtain rfl : y = 2 := by omega
            exact List.all_eq_true.mp mckl_2 j hm
          ·
            rcases Nat.lt_or_ge y 4 with q | q
            ·
              obtain rfl : y = 3 := by omega
              exact List.all_eq_true.mp mckl_3 j hm
            ·
              obtain rfl : y = 4 := by omega
              exact List.all_eq_true.mp mckl_4 j hm
      ·
        rcases Nat.lt_or_ge y 7 with q | q
        ·
          rcases Nat.lt_or_ge y 6 with q | q
          ·
            obtain rfl : y = 5 := by omega
            exact List.all_eq_true.mp mckl_5 j hm
          ·
            obtain rfl : y = 6 := by omega
            exact List.all_eq_true.mp mckl_6 j hm
        ·
          rcases Nat.lt_or_ge y 8 with q | q
          ·
            obtain rfl : y = 7 := by omega
            exact List.all_eq_true.mp mckl_7 j hm
          ·
            rcases Nat.lt_or_ge y 9 with q | q
            ·
              obtain rfl : y = 8 := by omega
              exact List.all_eq_true.mp mckl_8 j hm
            ·
              obtain rfl : y = 9 := by omega
              exact List.all_eq_true.mp mckl_9 j hm
    ·
      rcases Nat.lt_or_ge y 15 with q | q
      ·
        rcases Nat.lt_or_ge y 12 with q | q
        ·
          rcases Nat.lt_or_ge y 11 with q | q
          ·
            obtain rfl : y = 10 := by omega
            exact List.all_eq_true.mp mckl_10 j hm
          ·
            obtain rfl : y = 11 := by omega
            exact List.all_eq_true.mp mckl_11 j hm
        ·
          rcases Nat.lt_or_ge y 13 with q | q
          ·
            obtain rfl : y = 12 := by omega
            exact List.all_eq_true.mp mckl_12 j hm
          ·
            rcases Nat.lt_or_ge y 14 with q | q
            ·
              obtain rfl : y = 13 := by omega
              exact List.all_eq_true.mp mckl_13 j hm
            ·
              obtain rfl : y = 14 := by omega
              exact List.all_eq_true.mp mckl_14 j hm
      ·
        rcases Nat.lt_or_ge y 17 with q | q
        ·
          rcases Nat.lt_or_ge y 16 with q | q
          ·
            obtain rfl : y = 15 := by omega
            exact List.all_eq_true.mp mckl_15 j hm
          ·
            obtain rfl : y = 16 := by omega
            exact List.all_eq_true.mp mckl_16 j hm
        ·
          rcases Nat.lt_or_ge y 18 with q | q
          ·
            obtain rfl : y = 17 := by omega
            exact List.all_eq_true.mp mckl_17 j hm
          ·
            rcases Nat.lt_or_ge y 19 with q | q
            ·
              obtain rfl : y = 18 := by omega
              exact List.all_eq_true.mp mckl_18 j hm
            ·
              obtain rfl : y = 19 := by omega
              exact List.all_eq_true.mp mckl_19 j hm

def mWs (y : Nat) : List Cond := (match mHh y with
  | [] => Cond.code (mY y) (mBy y) (mMt y).1 (mRt y)
  | h => Cond.codeWith (mY y) (mBy y) (mMt y).1 (mRt y) h) :: mBIG
theorem mcw_all {y : Nat} (hy : y < 209) : (match mHh y with
  | [] => Cond.code (mY y) (mBy y) (mMt y).1 (mRt y)
  | h => Cond.codeWith (mY y) (mBy y) (mMt y).1 (mRt y) h) ∈ mBIG := by
  rcases Nat.lt_or_ge y 104 with q | q
  ·
    rcases Nat.lt_or_ge y 52 with q | q
    ·
      rcases Nat.lt_or_ge y 26 with q | q
      ·
        rcases Nat.lt_or_ge y 13 with q | q
        ·
          rcases Nat.lt_or_ge y 6 with q | q
          ·
            rcases Nat.lt_or_ge y 3 with q | q
            ·
              rcases Nat.lt_or_ge y 1 with q | q
              ·
                obtain rfl : y = 0 := by omega
                exact mWrd_big mcw_0 rfl
              ·
                rcases Nat.lt_or_ge y 2 with q | q
                ·
                  obtain rfl : y = 1 := by omega
                  exact mWrd_big mcw_1 rfl
                ·
                  obtain rfl : y = 2 := by omega
                  exact mWrd_big mcw_2 rfl
            ·
              rcases Nat.lt_or_ge y 4 with q | q
              ·
                obtain rfl : y = 3 := by omega
                exact mWrd_big mcw_3 rfl
              ·
                rcases Nat.lt_or_ge y 5 with q | q
                ·
                  obtain rfl : y = 4 := by omega
                  exact mWrd_big mcw_4 rfl
                ·
                  obtain rfl : y = 5 := by omega
                  exact mWrd_big mcw_5 rfl
          ·
            rcases Nat.lt_or_ge y 9 with q | q
            ·
              rcases Nat.lt_or_ge y 7 with q | q
              ·
                obtain rfl : y = 6 := by omega
                exact mWrd_big mcw_6 rfl
              ·
                rcases Nat.lt_or_ge y 8 with q | q
                ·
                  obtain rfl : y = 7 := by omega
                  exact mWrd_big mcw_7 rfl
                ·
                  obtain rfl : y = 8 := by omega
                  exact mWrd_big mcw_8 rfl
            ·
              rcases Nat.lt_or_ge y 11 with q | q
              ·
                rcases Nat.lt_or_ge y 10 with q | q
                ·
                  obtain rfl : y = 9 := by omega
                  exact mWrd_big mcw_9 rfl
                ·
                  obtain rfl : y = 10 := by omega
                  exact mWrd_big mcw_10 rfl
              ·
                rcases Nat.lt_or_ge y 12 with q | q
                ·
                  obtain rfl : y = 11 := by omega
                  exact mWrd_big mcw_11 rfl
                ·
                  obtain rfl : y = 12 := by omega
                  exact mWrd_big mcw_12 rfl
        ·
          rcases Nat.lt_or_ge y 19 with q | q
          ·
            rcases Nat.lt_or_ge y 16 with q | q
            ·
              rcases Nat.lt_or_ge y 14 with q | q
              ·
                obtain rfl : y = 13 := by omega
                exact mWrd_big mcw_13 rfl
              ·
                rcases Nat.lt_or_ge y 15 with q | q
                ·
                  obtain rfl : y = 14 := by omega
                  exact mWrd_big mcw_14 rfl
                ·
                  obtain rfl : y = 15 := by omega
                  exact mWrd_big mcw_15 rfl
            ·
              rcases Nat.lt_or_ge y 17 with q | q
              ·
                obtain rfl : y = 16 := by omega
                exact mWrd_big mcw_16 rfl
              ·
                rcases Nat.lt_or_ge y 18 with q | q
                ·
                  obtain rfl : y = 17 := by omega
                  exact mWrd_big mcw_17 rfl
                ·
                  obtain rfl : y = 18 := by omega
                  exact mWrd_big mcw_18 rfl
          ·
            rcases Nat.lt_or_ge y 22 with q | q
            ·
              rcases Nat.lt_or_ge y 20 with q | q
              ·
                obtain rfl : y = 19 := by omega
                exact mWrd_big mcw_19 rfl
              ·
                rcases Nat.lt_or_ge y 21 with q | q
                ·
                  obtain rfl : y = 20 := by omega
                  exact mWrd_big mcw_20 rfl
                ·
                  obtain rfl : y = 21 := by omega
                  exact mWrd_big mcw_21 rfl
            ·
              rcases Nat.lt_or_ge y 24 with q | q
              ·
                rcases Nat.lt_or_ge y 23 with q | q
                ·
                  obtain rfl : y = 22 := by omega
                  exact mWrd_big mcw_22 rfl
                ·
                  obtain rfl : y = 23 := by omega
                  exact mWrd_big mcw_23 rfl
              ·
                rcases Nat.lt_or_ge y 25 with q | q
                ·
                  obtain rfl : y = 24 := by omega
                  exact mWrd_big mcw_24 rfl
                ·
                  obtain rfl : y = 25 := by omega
                  exact mWrd_big mcw_25 rfl
      ·
        rcases Nat.lt_or_ge y 39 with q | q
        ·
          rcases Nat.lt_or_ge y 32 with q | q
          ·
            rcases Nat.lt_or_ge y 29 with q | q
            ·
              rcases Nat.lt_or_ge y 27 with q | q
              ·
                obtain rfl : y = 26 := by omega
                exact mWrd_big mcw_26 rfl
              ·
                rcases Nat.lt_or_ge y 28 with q | q
                ·
                  obtain rfl : y = 27 := by omega
                  exact mWrd_big mcw_27 rfl
                ·
                  obtain rfl : y = 28 := by omega
                  exact mWrd_big mcw_28 rfl
            ·
              rcases Nat.lt_or_ge y 30 with q | q
              ·
                obtain rfl : y = 29 := by omega
                exact mWrd_big mcw_29 rfl
              ·
                rcases Nat.lt_or_ge y 31 with q | q
                ·
                  obtain rfl : y = 30 := by omega
                  exact mWrd_big mcw_30 rfl
                ·
                  obtain rfl : y = 31 := by omega
                  exact mWrd_big mcw_31 rfl
          ·
            rcases Nat.lt_or_ge y 35 with q | q
            ·
              rcases Nat.lt_or_ge y 33 with q | q
              ·
                obtain rfl : y = 32 := by omega
                exact mWrd_big mcw_32 rfl
              ·
                rcases Nat.lt_or_ge y 34 with q | q
                ·
                  obtain rfl : y = 33 := by omega
                  exact mWrd_big mcw_33 rfl
                ·
                  obtain rfl : y = 34 := by omega
                  exact mWrd_big mcw_34 rfl
            ·
              rcases Nat.lt_or_ge y 37 with q | q
              ·
                rcases Nat.lt_or_ge y 36 with q | q
                ·
                  obtain rfl : y = 35 := by omega
                  exact mWrd_big mcw_35 rfl
                ·
                  obtain rfl : y = 36 := by omega
                  exact mWrd_big mcw_36 rfl
              ·
                rcases Nat.lt_or_ge y 38 with q | q
                ·
                  obtain rfl : y = 37 := by omega
                  exact mWrd_big mcw_37 rfl
                ·
                  obtain rfl : y = 38 := by omega
                  exact mWrd_big mcw_38 rfl
        ·
          rcases Nat.lt_or_ge y 45 with q | q
          ·
            rcases Nat.lt_or_ge y 42 with q | q
            ·
              rcases Nat.lt_or_ge y 40 with q | q
              ·
                obtain rfl : y = 39 := by omega
                exact mWrd_big mcw_39 rfl
              ·
                rcases Nat.lt_or_ge y 41 with q | q
                ·
                  obtain rfl : y = 40 := by omega
                  exact mWrd_big mcw_40 rfl
                ·
                  obtain rfl : y = 41 := by omega
                  exact mWrd_big mcw_41 rfl
            ·
              rcases Nat.lt_or_ge y 43 with q | q
              ·
                obtain rfl : y = 42 := by omega
                exact mWrd_big mcw_42 rfl
              ·
                rcases Nat.lt_or_ge y 44 with q | q
                ·
                  obtain rfl : y = 43 := by omega
                  exact mWrd_big mcw_43 rfl
                ·
                  obtain rfl : y = 44 := by omega
                  exact mWrd_big mcw_44 rfl
          ·
            rcases Nat.lt_or_ge y 48 with q | q
            ·
              rcases Nat.lt_or_ge y 46 with q | q
              ·
                obtain rfl : y = 45 := by omega
                exact mWrd_big mcw_45 rfl
              ·
                rcases Nat.lt_or_ge y 47 with q | q
                ·
                  obtain rfl : y = 46 := by omega
                  exact mWrd_big mcw_46 rfl
                ·
                  obtain rfl : y = 47 := by omega
                  exact mWrd_big mcw_47 rfl
            ·
              rcases Nat.lt_or_ge y 50 with q | q
              ·
                rcases Nat.lt_or_ge y 49 with q | q
                ·
                  obtain rfl : y = 48 := by omega
                  exact mWrd_big mcw_48 rfl
                ·
                  obtain rfl : y = 49 := by omega
                  exact mWrd_big mcw_49 rfl
              ·
                rcases Nat.lt_or_ge y 51 with q | q
                ·
                  obtain rfl : y = 50 := by omega
                  exact mWrd_big mcw_50 rfl
                ·
                  obtain rfl : y = 51 := by omega
                  exact mWrd_big mcw_51 rfl
    ·
      rcases Nat.lt_or_ge y 78 with q | q
      ·
        rcases Nat.lt_or_ge y 65 with q | q
        ·
          rcases Nat.lt_or_ge y 58 with q | q
          ·
            rcases Nat.lt_or_ge y 55 with q | q
            ·
              rcases Nat.lt_or_ge y 53 with q | q
              ·
                obtain rfl : y = 52 := by omega
                exact mWrd_big mcw_52 rfl
              ·
                rcases Nat.lt_or_ge y 54 with q | q
                ·
                  obtain rfl : y = 53 := by omega
                  exact mWrd_big mcw_53 rfl
                ·
                  obtain rfl : y = 54 := by omega
                  exact mWrd_big mcw_54 rfl
            ·
              rcases Nat.lt_or_ge y 56 with q | q
              ·
                obtain rfl : y = 55 := by omega
                exact mWrd_big mcw_55 rfl
              ·
                rcases Nat.lt_or_ge y 57 with q | q
                ·
                  obtain rfl : y = 56 := by omega
                  exact mWrd_big mcw_56 rfl
                ·
                  obtain rfl : y = 57 := by omega
                  exact mWrd_big mcw_57 rfl
          ·
            rcases Nat.lt_or_ge y 61 with q | q
            ·
              rcases Nat.lt_or_ge y 59 with q | q
              ·
                obtain rfl : y = 58 := by omega
                exact mWrd_big mcw_58 rfl
              ·
                rcases Nat.lt_or_ge y 60 with q | q
                ·
                  obtain rfl : y = 59 := by omega
                  exact mWrd_big mcw_59 rfl
                ·
                  obtain rfl : y = 60 := by omega
                  exact mWrd_big mcw_60 rfl
            ·
              rcases Nat.lt_or_ge y 63 with q | q
              ·
                rcases Nat.lt_or_ge y 62 with q | q
                ·
                  obtain rfl : y = 61 := by omega
                  exact mWrd_big mcw_61 rfl
                ·
                  obtain rfl : y = 62 := by omega
                  exact mWrd_big mcw_62 rfl
              ·
                rcases Nat.lt_or_ge y 64 with q | q
                ·
                  obtain rfl : y = 63 := by omega
                  exact mWrd_big mcw_63 rfl
                ·
                  obtain rfl : y = 64 := by omega
                  exact mWrd_big mcw_64 rfl
        ·
          rcases Nat.lt_or_ge y 71 with q | q
          ·
            rcases Nat.lt_or_ge y 68 with q | q
            ·
              rcases Nat.lt_or_ge y 66 with q | q
              ·
                obtain rfl : y = 65 := by omega
                exact mWrd_big mcw_65 rfl
              ·
                rcases Nat.lt_or_ge y 67 with q | q
                ·
                  obtain rfl : y = 66 := by omega
                  exact mWrd_big mcw_66 rfl
                ·
                  obtain rfl : y = 67 := by omega
                  exact mWrd_big mcw_67 rfl
            ·
              rcases Nat.lt_or_ge y 69 with q | q
              ·
                obtain rfl : y = 68 := by omega
                exact mWrd_big mcw_68 rfl
              ·
                rcases Nat.lt_or_ge y 70 with q | q
                ·
                  obtain rfl : y = 69 := by omega
                  exact mWrd_big mcw_69 rfl
                ·
                  obtain rfl : y = 70 := by omega
                  exact mWrd_big mcw_70 rfl
          ·
            rcases Nat.lt_or_ge y 74 with q | q
            ·
              rcases Nat.lt_or_ge y 72 with q | q
              ·
                obtain rfl : y = 71 := by omega
                exact mWrd_big mcw_71 rfl
              ·
                rcases Nat.lt_or_ge y 73 with q | q
                ·
                  obtain rfl : y = 72 := by omega
                  exact mWrd_big mcw_72 rfl
                ·
                  obtain rfl : y = 73 := by omega
                  exact mWrd_big mcw_73 rfl
            ·
              rcases Nat.lt_or_ge y 76 with q | q
              ·
                rcases Nat.lt_or_ge y 75 with q | q
                ·
                  obtain rfl : y = 74 := by omega
                  exact mWrd_big mcw_74 rfl
                ·
                  obtain rfl : y = 75 := by omega
                  exact mWrd_big mcw_75 rfl
              ·
                rcases Nat.lt_or_ge y 77 with q | q
                ·
                  obtain rfl : y = 76 := by omega
                  exact mWrd_big mcw_76 rfl
                ·
                  obtain rfl : y = 77 := by omega
                  exact mWrd_big mcw_77 rfl
      ·
        rcases Nat.lt_or_ge y 91 with q | q
        ·
          rcases Nat.lt_or_ge y 84 with q | q
          ·
            rcases Nat.lt_or_ge y 81 with q | q
            ·
              rcases Nat.lt_or_ge y 79 with q | q
              ·
                obtain rfl : y = 78 := by omega
                exact mWrd_big mcw_78 rfl
              ·
                rcases Nat.lt_or_ge y 80 with q | q
                ·
                  obtain rfl : y = 79 := by omega
                  exact mWrd_big mcw_79 rfl
                ·
                  obtain rfl : y = 80 := by omega
                  exact mWrd_big mcw_80 rfl
            ·
              rcases Nat.lt_or_ge y 82 with q | q
              ·
                obtain rfl : y = 81 := by omega
                exact mWrd_big mcw_81 rfl
              ·
                rcases Nat.lt_or_ge y 83 with q | q
                ·
                  obtain rfl : y = 82 := by omega
                  exact mWrd_big mcw_82 rfl
                ·
                  obtain rfl : y = 83 := by omega
                  exact mWrd_big mcw_83 rfl
          ·
            rcases Nat.lt_or_ge y 87 with q | q
            ·
              rcases Nat.lt_or_ge y 85 with q | q
              ·
                obtain rfl : y = 84 := by omega
                exact mWrd_big mcw_84 rfl
              ·
                rcases Nat.lt_or_ge y 86 with q | q
                ·
                  obtain rfl : y = 85 := by omega
                  exact mWrd_big mcw_85 rfl
                ·
                  obtain rfl : y = 86 := by omega
                  exact mWrd_big mcw_86 rfl
            ·
              rcases Nat.lt_or_ge y 89 with q | q
              ·
                rcases Nat.lt_or_ge y 88 with q | q
                ·
                  obtain rfl : y = 87 := by omega
                  exact mWrd_big mcw_87 rfl
                ·
                  obtain rfl : y = 88 := by omega
                  exact mWrd_big mcw_88 rfl
              ·
                rcases Nat.lt_or_ge y 90 with q | q
                ·
                  obtain rfl : y = 89 := by omega
                  exact mWrd_big mcw_89 rfl
                ·
                  obtain rfl : y = 90 := by omega
                  exact mWrd_big mcw_90 rfl
        ·
          rcases Nat.lt_or_ge y 97 with q | q
          ·
            rcases Nat.lt_or_ge y 94 with q | q
            ·
              rcases Nat.lt_or_ge y 92 with q | q
              ·
                obtain rfl : y = 91 := by omega
                exact mWrd_big mcw_91 rfl
              ·
                rcases Nat.lt_or_ge y 93 with q | q
                ·
                  obtain rfl : y = 92 := by omega
                  exact mWrd_big mcw_92 rfl
                ·
                  obtain rfl : y = 93 := by omega
                  exact mWrd_big mcw_93 rfl
            ·
              rcases Nat.lt_or_ge y 95 with q | q
              ·
                obtain rfl : y = 94 := by omega
                exact mWrd_big mcw_94 rfl
              ·
                rcases Nat.lt_or_ge y 96 with q | q
                ·
                  obtain rfl : y = 95 := by omega
                  exact mWrd_big mcw_95 rfl
                ·
                  obtain rfl : y = 96 := by omega
                  exact mWrd_big mcw_96 rfl
          ·
            rcases Nat.lt_or_ge y 100 with q | q
            ·
              rcases Nat.lt_or_ge y 98 with q | q
              ·
                obtain rfl : y = 97 := by omega
                exact mWrd_big mcw_97 rfl
              ·
                rcases Nat.lt_or_ge y 99 with q | q
                ·
                  obtain rfl : y = 98 := by omega
                  exact mWrd_big mcw_98 rfl
                ·
                  obtain rfl : y = 99 := by omega
                  exact mWrd_big mcw_99 rfl
            ·
              rcases Nat.lt_or_ge y 102 with q | q
              ·
                rcases Nat.lt_or_ge y 101 with q | q
                ·
                  obtain rfl : y = 100 := by omega
                  exact mWrd_big mcw_100 rfl
                ·
                  obtain rfl : y = 101 := by omega
                  exact mWrd_big mcw_101 rfl
              ·
                rcases Nat.lt_or_ge y 103 with q | q
                ·
                  obtain rfl : y = 102 := by omega
                  exact mWrd_big mcw_102 rfl
                ·
                  obtain rfl : y = 103 := by omega
                  exact mWrd_big mcw_103 rfl
  ·
    rcases Nat.lt_or_ge y 156 with q | q
    ·
      rcases Nat.lt_or_ge y 130 with q | q
      ·
        rcases Nat.lt_or_ge y 117 with q | q
        ·
          rcases Nat.lt_or_ge y 110 with q | q
          ·
            rcases Nat.lt_or_ge y 107 with q | q
            ·
              rcases Nat.lt_or_ge y 105 with q | q
              ·
                obtain rfl : y = 104 := by omega
                exact mWrd_big mcw_104 rfl
              ·
                rcases Nat.lt_or_ge y 106 with q | q
                ·
                  obtain rfl : y = 105 := by omega
                  exact mWrd_big mcw_105 rfl
                ·
                  obtain rfl : y = 106 := by omega
                  exact mWrd_big mcw_106 rfl
            ·
              rcases Nat.lt_or_ge y 108 with q | q
              ·
                obtain rfl : y = 107 := by omega
                exact mWrd_big mcw_107 rfl
              ·
                rcases Nat.lt_or_ge y 109 with q | q
                ·
                  obtain rfl : y = 108 := by omega
                  exact mWrd_big mcw_108 rfl
                ·
                  obtain rfl : y = 109 := by omega
                  exact mWrd_big mcw_109 rfl
          ·
            rcases Nat.lt_or_ge y 113 with q | q
            ·
              rcases Nat.lt_or_ge y 111 with q | q
              ·
                obtain rfl : y = 110 := by omega
                exact mWrd_big mcw_110 rfl
              ·
                rcases Nat.lt_or_ge y 112 with q | q
                ·
                  obtain rfl : y = 111 := by omega
                  exact mWrd_big mcw_111 rfl
                ·
                  obtain rfl : y = 112 := by omega
                  exact mWrd_big mcw_112 rfl
            ·
              rcases Nat.lt_or_ge y 115 with q | q
              ·
                rcases Nat.lt_or_ge y 114 with q | q
                ·
                  obtain rfl : y = 113 := by omega
                  exact mWrd_big mcw_113 rfl
                ·
                  obtain rfl : y = 114 := by omega
                  exact mWrd_big mcw_114 rfl
              ·
                rcases Nat.lt_or_ge y 116 with q | q
                ·
                  obtain rfl : y = 115 := by omega
                  exact mWrd_big mcw_115 rfl
                ·
                  obtain rfl : y = 116 := by omega
                  exact mWrd_big mcw_116 rfl
        ·
          rcases Nat.lt_or_ge y 123 with q | q
          ·
            rcases Nat.lt_or_ge y 120 with q | q
            ·
              rcases Nat.lt_or_ge y 118 with q | q
              ·
                obtain rfl : y = 117 := by omega
                exact mWrd_big mcw_117 rfl
              ·
                rcases Nat.lt_or_ge y 119 with q | q
                ·
                  obtain rfl : y = 118 := by omega
                  exact mWrd_big mcw_118 rfl
                ·
                  obtain rfl : y = 119 := by omega
                  exact mWrd_big mcw_119 rfl
            ·
              rcases Nat.lt_or_ge y 121 with q | q
              ·
                obtain rfl : y = 120 := by omega
                exact mWrd_big mcw_120 rfl
              ·
                rcases Nat.lt_or_ge y 122 with q | q
                ·
                  obtain rfl : y = 121 := by omega
                  exact mWrd_big mcw_121 rfl
                ·
                  obtain rfl : y = 122 := by omega
                  exact mWrd_big mcw_122 rfl
          ·
            rcases Nat.lt_or_ge y 126 with q | q
            ·
              rcases Nat.lt_or_ge y 124 with q | q
              ·
                obtain rfl : y = 123 := by omega
                exact mWrd_big mcw_123 rfl
              ·
                rcases Nat.lt_or_ge y 125 with q | q
                ·
                  obtain rfl : y = 124 := by omega
                  exact mWrd_big mcw_124 rfl
                ·
                  obtain rfl : y = 125 := by omega
                  exact mWrd_big mcw_125 rfl
            ·
              rcases Nat.lt_or_ge y 128 with q | q
              ·
                rcases Nat.lt_or_ge y 127 with q | q
                ·
                  obtain rfl : y = 126 := by omega
                  exact mWrd_big mcw_126 rfl
                ·
                  obtain rfl : y = 127 := by omega
                  exact mWrd_big mcw_127 rfl
              ·
                rcases Nat.lt_or_ge y 129 with q | q
                ·
                  obtain rfl : y = 128 := by omega
                  exact mWrd_big mcw_128 rfl
                ·
                  obtain rfl : y = 129 := by omega
                  exact mWrd_big mcw_129 rfl
      ·
        rcases Nat.lt_or_ge y 143 with q | q
        ·
          rcases Nat.lt_or_ge y 136 with q | q
          ·
            rcases Nat.lt_or_ge y 133 with q | q
            ·
              rcases Nat.lt_or_ge y 131 with q | q
              ·
                obtain rfl : y = 130 := by omega
                exact mWrd_big mcw_130 rfl
              ·
                rcases Nat.lt_or_ge y 132 with q | q
                ·
                  obtain rfl : y = 131 := by omega
                  exact mWrd_big mcw_131 rfl
                ·
                  obtain rfl : y = 132 := by omega
                  exact mWrd_big mcw_132 rfl
            ·
              rcases Nat.lt_or_ge y 134 with q | q
              ·
                obtain rfl : y = 133 := by omega
                exact mWrd_big mcw_133 rfl
              ·
                rcases Nat.lt_or_ge y 135 with q | q
                ·
                  obtain rfl : y = 134 := by omega
                  exact mWrd_big mcw_134 rfl
                ·
                  obtain rfl : y = 135 := by omega
                  exact mWrd_big mcw_135 rfl
          ·
            rcases Nat.lt_or_ge y 139 with q | q
            ·
              rcases Nat.lt_or_ge y 137 with q | q
              ·
                obtain rfl : y = 136 := by omega
                exact mWrd_big mcw_136 rfl
              ·
                rcases Nat.lt_or_ge y 138 with q | q
                ·
                  obtain rfl : y = 137 := by omega
                  exact mWrd_big mcw_137 rfl
                ·
                  obtain rfl : y = 138 := by omega
                  exact mWrd_big mcw_138 rfl
            ·
              rcases Nat.lt_or_ge y 141 with q | q
              ·
                rcases Nat.lt_or_ge y 140 with q | q
                ·
                  obtain rfl : y = 139 := by omega
                  exact mWrd_big mcw_139 rfl
                ·
                  obtain rfl : y = 140 := by omega
                  exact mWrd_big mcw_140 rfl
              ·
                rcases Nat.lt_or_ge y 142 with q | q
                ·
                  obtain rfl : y = 141 := by omega
                  exact mWrd_big mcw_141 rfl
                ·
                  obtain rfl : y = 142 := by omega
                  exact mWrd_big mcw_142 rfl
        ·
          rcases Nat.lt_or_ge y 149 with q | q
          ·
            rcases Nat.lt_or_ge y 146 with q | q
            ·
              rcases Nat.lt_or_ge y 144 with q | q
              ·
                obtain rfl : y = 143 := by omega
                exact mWrd_big mcw_143 rfl
              ·
                rcases Nat.lt_or_ge y 145 with q | q
                ·
                  obtain rfl : y = 144 := by omega
                  exact mWrd_big mcw_144 rfl
                ·
                  obtain rfl : y = 145 := by omega
                  exact mWrd_big mcw_145 rfl
            ·
              rcases Nat.lt_or_ge y 147 with q | q
              ·
                obtain rfl : y = 146 := by omega
                exact mWrd_big mcw_146 rfl
              ·
                rcases Nat.lt_or_ge y 148 with q | q
                ·
                  obtain rfl : y = 147 := by omega
                  exact mWrd_big mcw_147 rfl
                ·
                  obtain rfl : y = 148 := by omega
                  exact mWrd_big mcw_148 rfl
          ·
            rcases Nat.lt_or_ge y 152 with q | q
            ·
              rcases Nat.lt_or_ge y 150 with q | q
              ·
                obtain rfl : y = 149 := by omega
                exact mWrd_big mcw_149 rfl
              ·
                rcases Nat.lt_or_ge y 151 with q | q
                ·
                  obtain rfl : y = 150 := by omega
                  exact mWrd_big mcw_150 rfl
                ·
                  obtain rfl : y = 151 := by omega
                  exact mWrd_big mcw_151 rfl
            ·
              rcases Nat.lt_or_ge y 154 with q | q
              ·
                rcases Nat.lt_or_ge y 153 with q | q
                ·
                  obtain rfl : y = 152 := by omega
                  exact mWrd_big mcw_152 rfl
                ·
                  obtain rfl : y = 153 := by omega
                  exact mWrd_big mcw_153 rfl
              ·
                rcases Nat.lt_or_ge y 155 with q | q
                ·
                  obtain rfl : y = 154 := by omega
                  exact mWrd_big mcw_154 rfl
                ·
                  obtain rfl : y = 155 := by omega
                  exact mWrd_big mcw_155 rfl
    ·
      rcases Nat.lt_or_ge y 182 with q | q
      ·
        rcases Nat.lt_or_ge y 169 with q | q
        ·
          rcases Nat.lt_or_ge y 162 with q | q
          ·
            rcases Nat.lt_or_ge y 159 with q | q
            ·
              rcases Nat.lt_or_ge y 157 with q | q
              ·
                obtain rfl : y = 156 := by omega
                exact mWrd_big mcw_156 rfl
              ·
                rcases Nat.lt_or_ge y 158 with q | q
                ·
                  obtain rfl : y = 157 := by omega
                  exact mWrd_big mcw_157 rfl
                ·
                  obtain rfl : y = 158 := by omega
                  exact mWrd_big mcw_158 rfl
            ·
              rcases Nat.lt_or_ge y 160 with q | q
              ·
                obtain rfl : y = 159 := by omega
                exact mWrd_big mcw_159 rfl
              ·
                rcases Nat.lt_or_ge y 161 with q | q
                ·
                  obtain rfl : y = 160 := by omega
                  exact mWrd_big mcw_160 rfl
                ·
                  obtain rfl : y = 161 := by omega
                  exact mWrd_big mcw_161 rfl
          ·
            rcases Nat.lt_or_ge y 165 with q | q
            ·
              rcases Nat.lt_or_ge y 163 with q | q
              ·
                obtain rfl : y = 162 := by omega
                exact mWrd_big mcw_162 rfl
              ·
                rcases Nat.lt_or_ge y 164 with q | q
                ·
                  obtain rfl : y = 163 := by omega
                  exact mWrd_big mcw_163 rfl
                ·
                  obtain rfl : y = 164 := by omega
                  exact mWrd_big mcw_164 rfl
            ·
              rcases Nat.lt_or_ge y 167 with q | q
              ·
                rcases Nat.lt_or_ge y 166 with q | q
                ·
                  obtain rfl : y = 165 := by omega
                  exact mWrd_big mcw_165 rfl
                ·
                  obtain rfl : y = 166 := by omega
                  exact mWrd_big mcw_166 rfl
              ·
                rcases Nat.lt_or_ge y 168 with q | q
                ·
                  obtain rfl : y = 167 := by omega
                  exact mWrd_big mcw_167 rfl
                ·
                  obtain rfl : y = 168 := by omega
                  exact mWrd_big mcw_168 rfl
        ·
          rcases Nat.lt_or_ge y 175 with q | q
          ·
            rcases Nat.lt_or_ge y 172 with q | q
            ·
              rcases Nat.lt_or_ge y 170 with q | q
              ·
                obtain rfl : y = 169 := by omega
                exact mWrd_big mcw_169 rfl
              ·
                rcases Nat.lt_or_ge y 171 with q | q
                ·
                  obtain rfl : y = 170 := by omega
                  exact mWrd_big mcw_170 rfl
                ·
                  obtain rfl : y = 171 := by omega
                  exact mWrd_big mcw_171 rfl
            ·
              rcases Nat.lt_or_ge y 173 with q | q
              ·
                obtain rfl : y = 172 := by omega
                exact mWrd_big mcw_172 rfl
              ·
                rcases Nat.lt_or_ge y 174 with q | q
                ·
                  obtain rfl : y = 173 := by omega
                  exact mWrd_big mcw_173 rfl
                ·
                  obtain rfl : y = 174 := by omega
                  exact mWrd_big mcw_174 rfl
          ·
            rcases Nat.lt_or_ge y 178 with q | q
            ·
              rcases Nat.lt_or_ge y 176 with q | q
              ·
                obtain rfl : y = 175 := by omega
                exact mWrd_big mcw_175 rfl
              ·
                rcases Nat.lt_or_ge y 177 with q | q
                ·
                  obtain rfl : y = 176 := by omega
                  exact mWrd_big mcw_176 rfl
                ·
                  obtain rfl : y = 177 := by omega
                  exact mWrd_big mcw_177 rfl
            ·
              rcases Nat.lt_or_ge y 180 with q | q
              ·
                rcases Nat.lt_or_ge y 179 with q | q
                ·
                  obtain rfl : y = 178 := by omega
                  exact mWrd_big mcw_178 rfl
                ·
                  obtain rfl : y = 179 := by omega
                  exact mWrd_big mcw_179 rfl
              ·
                rcases Nat.lt_or_ge y 181 with q | q
                ·
                  obtain rfl : y = 180 := by omega
                  exact mWrd_big mcw_180 rfl
                ·
                  obtain rfl : y = 181 := by omega
                  exact mWrd_big mcw_181 rfl
      ·
        rcases Nat.lt_or_ge y 195 with q | q
        ·
          rcases Nat.lt_or_ge y 188 with q | q
          ·
            rcases Nat.lt_or_ge y 185 with q | q
            ·
              rcases Nat.lt_or_ge y 183 with q | q
              ·
                obtain rfl : y = 182 := by omega
                exact mWrd_big mcw_182 rfl
              ·
                rcases Nat.lt_or_ge y 184 with q | q
                ·
                  obtain rfl : y = 183 := by omega
                  exact mWrd_big mcw_183 rfl
                ·
                  obtain rfl : y = 184 := by omega
                  exact mWrd_big mcw_184 rfl
            ·
              rcases Nat.lt_or_ge y 186 with q | q
              ·
                obtain rfl : y = 185 := by omega
                exact mWrd_big mcw_185 rfl
              ·
                rcases Nat.lt_or_ge y 187 with q | q
                ·
                  obtain rfl : y = 186 := by omega
                  exact mWrd_big mcw_186 rfl
                ·
                  obtain rfl : y = 187 := by omega
                  exact mWrd_big mcw_187 rfl
          ·
            rcases Nat.lt_or_ge y 191 with q | q
            ·
              rcases Nat.lt_or_ge y 189 with q | q
              ·
                obtain rfl : y = 188 := by omega
                exact mWrd_big mcw_188 rfl
              ·
                rcases Nat.lt_or_ge y 190 with q | q
                ·
                  obtain rfl : y = 189 := by omega
                  exact mWrd_big mcw_189 rfl
                ·
                  obtain rfl : y = 190 := by omega
                  exact mWrd_big mcw_190 rfl
            ·
              rcases Nat.lt_or_ge y 193 with q | q
              ·
                rcases Nat.lt_or_ge y 192 with q | q
                ·
                  obtain rfl : y = 191 := by omega
                  exact mWrd_big mcw_191 rfl
                ·
                  obtain rfl : y = 192 := by omega
                  exact mWrd_big mcw_192 rfl
              ·
                rcases Nat.lt_or_ge y 194 with q | q
                ·
                  obtain rfl : y = 193 := by omega
                  exact mWrd_big mcw_193 rfl
                ·
                  obtain rfl : y = 194 := by omega
                  exact mWrd_big mcw_194 rfl
        ·
          rcases Nat.lt_or_ge y 202 with q | q
          ·
            rcases Nat.lt_or_ge y 198 with q | q
            ·
              rcases Nat.lt_or_ge y 196 with q | q
              ·
                obtain rfl : y = 195 := by omega
                exact mWrd_big mcw_195 rfl
              ·
                rcases Nat.lt_or_ge y 197 with q | q
                ·
                  obtain rfl : y = 196 := by omega
                  exact mWrd_big mcw_196 rfl
                ·
                  obtain rfl : y = 197 := by omega
                  exact mWrd_big mcw_197 rfl
            ·
              rcases Nat.lt_or_ge y 200 with q | q
              ·
                rcases Nat.lt_or_ge y 199 with q | q
                ·
                  obtain rfl : y = 198 := by omega
                  exact mWrd_big mcw_198 rfl
                ·
                  obtain rfl : y = 199 := by omega
                  exact mWrd_big mcw_199 rfl
              ·
                rcases Nat.lt_or_ge y 201 with q | q
                ·
                  obtain rfl : y = 200 := by omega
                  exact mWrd_big mcw_200 rfl
                ·
                  obtain rfl : y = 201 := by omega
                  exact mWrd_big mcw_201 rfl
          ·
            rcases Nat.lt_or_ge y 205 with q | q
            ·
              rcases Nat.lt_or_ge y 203 with q | q
              ·
                obtain rfl : y = 202 := by omega
                exact mWrd_big mcw_202 rfl
              ·
                rcases Nat.lt_or_ge y 204 with q | q
                ·
                  obtain rfl : y = 203 := by omega
                  exact mWrd_big mcw_203 rfl
                ·
                  obtain rfl : y = 204 := by omega
                  exact mWrd_big mcw_204 rfl
            ·
              rcases Nat.lt_or_ge y 207 with q | q
              ·
                rcases Nat.lt_or_ge y 206 with q | q
                ·
                  obtain rfl : y = 205 := by omega
                  exact mWrd_big mcw_205 rfl
                ·
                  obtain rfl : y = 206 := by omega
                  exact mWrd_big mcw_206 rfl
              ·
                rcases Nat.lt_or_ge y 208 with q | q
                ·
                  obtain rfl : y = 207 := by omega
                  exact mWrd_big mcw_207 rfl
                ·
                  obtain rfl : y = 208 := by omega
                  exact mWrd_big mcw_208 rfl

theorem mcv_all {y : Nat} (hy : y < 209) (hy1 : y ≠ 1) (hy2 : y ≠ 2) : mChW y = true := by
  have e : y = 15 * (y / 15) + y % 15 := (Nat.div_add_mod y 15).symm
  have hk : y / 15 < 14 := by omega
  have hj : y % 15 < 15 := by omega
  generalize y / 15 = z at e hk
  generalize y % 15 = j at e hj
  subst e
  have hm := List.mem_range.mpr hj
  have fin : ∀ x, x < 209 → x ≠ 1 → x ≠ 2 → (Nat.ble 209 x || Nat.beq x 1 || Nat.beq x 2 || mChW x) = true → mChW x = true := by
    intro x hx h1 h2 h
    have e0 : Nat.ble 209 x = false := by cases hb : Nat.ble 209 x with
      | true => exact absurd (Nat.le_of_ble_eq_true hb) (by omega)
      | false => rfl
    have e1 : Nat.beq x 1 = false := by cases hb : Nat.beq x 1 with
      | true => exact absurd (Nat.eq_of_beq_eq_true hb) h1
      | false => rfl
    have e2 : Nat.beq x 2 = false := by cases hb : Nat.beq x 2 with
      | true => exact absurd (Nat.eq_of_beq_eq_true hb) h2
      | false => rfl
    rw [e0, e1, e2] at h
    exact h
  rcases Nat.lt_or_ge z 7 with q | q
  ·
    rcases Nat.lt_or_ge z 3 with q | q
    ·
      rcases Nat.lt_or_ge z 1 with q | q
      ·
        obtain rfl : z = 0 := by omega
        exact fin _ hy hy1 hy2 (List.all_eq_true.mp mcv_0 j hm)
      ·
        rcases Nat.lt_or_ge z 2 with q | q
        ·
          obtain rfl : z = 1 := by omega
          exact fin _ hy hy1 hy2 (List.all_eq_true.mp mcv_1 j hm)
        ·
          obtain rfl : z = 2 := by omega
          exact fin _ hy hy1 hy2 (List.all_eq_true.mp mcv_2 j hm)
    ·
      rcases Nat.lt_or_ge z 5 with q | q
      ·
        rcases Nat.lt_or_ge z 4 with q | q
        ·
          obtain rfl : z = 3 := by omega
          exact fin _ hy hy1 hy2 (List.all_eq_true.mp mcv_3 j hm)
        ·
          obtain rfl : z = 4 := by omega
          exact fin _ hy hy1 hy2 (List.all_eq_true.mp mcv_4 j hm)
      ·
        rcases Nat.lt_or_ge z 6 with q | q
        ·
          obtain rfl : z = 5 := by omega
          exact fin _ hy hy1 hy2 (List.all_eq_true.mp mcv_5 j hm)
        ·
          obtain rfl : z = 6 := by omega
          exact fin _ hy hy1 hy2 (List.all_eq_true.mp mcv_6 j hm)
  ·
    rcases Nat.lt_or_ge z 10 with q | q
    ·
      rcases Nat.lt_or_ge z 8 with q | q
      ·
        obtain rfl : z = 7 := by omega
        exact fin _ hy hy1 hy2 (List.all_eq_true.mp mcv_7 j hm)
      ·
        rcases Nat.lt_or_ge z 9 with q | q
        ·
          obtain rfl : z = 8 := by omega
          exact fin _ hy hy1 hy2 (List.all_eq_true.mp mcv_8 j hm)
        ·
          obtain rfl : z = 9 := by omega
          exact fin _ hy hy1 hy2 (List.all_eq_true.mp mcv_9 j hm)
    ·
      rcases Nat.lt_or_ge z 12 with q | q
      ·
        rcases Nat.lt_or_ge z 11 with q | q
        ·
          obtain rfl : z = 10 := by omega
          exact fin _ hy hy1 hy2 (List.all_eq_true.mp mcv_10 j hm)
        ·
          obtain rfl : z = 11 := by omega
          exact fin _ hy hy1 hy2 (List.all_eq_true.mp mcv_11 j hm)
      ·
        rcases Nat.lt_or_ge z 13 with q | q
        ·
          obtain rfl : z = 12 := by omega
          exact fin _ hy hy1 hy2 (List.all_eq_true.mp mcv_12 j hm)
        ·
          obtain rfl : z = 13 := by omega
          exact fin _ hy hy1 hy2 (List.all_eq_true.mp mcv_13 j hm)

