/-! the checks together (printed by wip/whole/gen2.py) -/
set_option maxRecDepth 100000 in
theorem jok_all : ∀ k, jokM k = true := by
  intro k
  rcases Nat.lt_or_ge k 270 with h0 | h0
  · have h00 := h0
    rcases Nat.lt_or_ge k 135 with h | h
    · rcases Nat.lt_or_ge k 67 with h | h
      · rcases Nat.lt_or_ge k 33 with h | h
        · rcases Nat.lt_or_ge k 16 with h | h
          · rcases Nat.lt_or_ge k 8 with h | h
            · rcases Nat.lt_or_ge k 4 with h | h
              · rcases Nat.lt_or_ge k 2 with h | h
                · rcases Nat.lt_or_ge k 1 with h | h
                  · obtain rfl : k = 0 := by omega
                    exact jok_0
                  · obtain rfl : k = 1 := by omega
                    exact jok_1
                · rcases Nat.lt_or_ge k 3 with h | h
                  · obtain rfl : k = 2 := by omega
                    exact jok_2
                  · obtain rfl : k = 3 := by omega
                    exact jok_3
              · rcases Nat.lt_or_ge k 6 with h | h
                · rcases Nat.lt_or_ge k 5 with h | h
                  · obtain rfl : k = 4 := by omega
                    exact jok_4
                  · obtain rfl : k = 5 := by omega
                    exact jok_5
                · rcases Nat.lt_or_ge k 7 with h | h
                  · obtain rfl : k = 6 := by omega
                    exact jok_6
                  · obtain rfl : k = 7 := by omega
                    exact jok_7
            · rcases Nat.lt_or_ge k 12 with h | h
              · rcases Nat.lt_or_ge k 10 with h | h
                · rcases Nat.lt_or_ge k 9 with h | h
                  · obtain rfl : k = 8 := by omega
                    exact jok_8
                  · obtain rfl : k = 9 := by omega
                    exact jok_9
                · rcases Nat.lt_or_ge k 11 with h | h
                  · obtain rfl : k = 10 := by omega
                    exact jok_10
                  · obtain rfl : k = 11 := by omega
                    exact jok_11
              · rcases Nat.lt_or_ge k 14 with h | h
                · rcases Nat.lt_or_ge k 13 with h | h
                  · obtain rfl : k = 12 := by omega
                    exact jok_12
                  · obtain rfl : k = 13 := by omega
                    exact jok_13
                · rcases Nat.lt_or_ge k 15 with h | h
                  · obtain rfl : k = 14 := by omega
                    exact jok_14
                  · obtain rfl : k = 15 := by omega
                    exact jok_15
          · rcases Nat.lt_or_ge k 24 with h | h
            · rcases Nat.lt_or_ge k 20 with h | h
              · rcases Nat.lt_or_ge k 18 with h | h
                · rcases Nat.lt_or_ge k 17 with h | h
                  · obtain rfl : k = 16 := by omega
                    exact jok_16
                  · obtain rfl : k = 17 := by omega
                    exact jok_17
                · rcases Nat.lt_or_ge k 19 with h | h
                  · obtain rfl : k = 18 := by omega
                    exact jok_18
                  · obtain rfl : k = 19 := by omega
                    exact jok_19
              · rcases Nat.lt_or_ge k 22 with h | h
                · rcases Nat.lt_or_ge k 21 with h | h
                  · obtain rfl : k = 20 := by omega
                    exact jok_20
                  · obtain rfl : k = 21 := by omega
                    exact jok_21
                · rcases Nat.lt_or_ge k 23 with h | h
                  · obtain rfl : k = 22 := by omega
                    exact jok_22
                  · obtain rfl : k = 23 := by omega
                    exact jok_23
            · rcases Nat.lt_or_ge k 28 with h | h
              · rcases Nat.lt_or_ge k 26 with h | h
                · rcases Nat.lt_or_ge k 25 with h | h
                  · obtain rfl : k = 24 := by omega
                    exact jok_24
                  · obtain rfl : k = 25 := by omega
                    exact jok_25
                · rcases Nat.lt_or_ge k 27 with h | h
                  · obtain rfl : k = 26 := by omega
                    exact jok_26
                  · obtain rfl : k = 27 := by omega
                    exact jok_27
              · rcases Nat.lt_or_ge k 30 with h | h
                · rcases Nat.lt_or_ge k 29 with h | h
                  · obtain rfl : k = 28 := by omega
                    exact jok_28
                  · obtain rfl : k = 29 := by omega
                    exact jok_29
                · rcases Nat.lt_or_ge k 31 with h | h
                  · obtain rfl : k = 30 := by omega
                    exact jok_30
                  · rcases Nat.lt_or_ge k 32 with h | h
                    · obtain rfl : k = 31 := by omega
                      exact jok_31
                    · obtain rfl : k = 32 := by omega
                      exact jok_32
        · rcases Nat.lt_or_ge k 50 with h | h
          · rcases Nat.lt_or_ge k 41 with h | h
            · rcases Nat.lt_or_ge k 37 with h | h
              · rcases Nat.lt_or_ge k 35 with h | h
                · rcases Nat.lt_or_ge k 34 with h | h
                  · obtain rfl : k = 33 := by omega
                    exact jok_33
                  · obtain rfl : k = 34 := by omega
                    exact jok_34
                · rcases Nat.lt_or_ge k 36 with h | h
                  · obtain rfl : k = 35 := by omega
                    exact jok_35
                  · obtain rfl : k = 36 := by omega
                    exact jok_36
              · rcases Nat.lt_or_ge k 39 with h | h
                · rcases Nat.lt_or_ge k 38 with h | h
                  · obtain rfl : k = 37 := by omega
                    exact jok_37
                  · obtain rfl : k = 38 := by omega
                    exact jok_38
                · rcases Nat.lt_or_ge k 40 with h | h
                  · obtain rfl : k = 39 := by omega
                    exact jok_39
                  · obtain rfl : k = 40 := by omega
                    exact jok_40
            · rcases Nat.lt_or_ge k 45 with h | h
              · rcases Nat.lt_or_ge k 43 with h | h
                · rcases Nat.lt_or_ge k 42 with h | h
                  · obtain rfl : k = 41 := by omega
                    exact jok_41
                  · obtain rfl : k = 42 := by omega
                    exact jok_42
                · rcases Nat.lt_or_ge k 44 with h | h
                  · obtain rfl : k = 43 := by omega
                    exact jok_43
                  · obtain rfl : k = 44 := by omega
                    exact jok_44
              · rcases Nat.lt_or_ge k 47 with h | h
                · rcases Nat.lt_or_ge k 46 with h | h
                  · obtain rfl : k = 45 := by omega
                    exact jok_45
                  · obtain rfl : k = 46 := by omega
                    exact jok_46
                · rcases Nat.lt_or_ge k 48 with h | h
                  · obtain rfl : k = 47 := by omega
                    exact jok_47
                  · rcases Nat.lt_or_ge k 49 with h | h
                    · obtain rfl : k = 48 := by omega
                      exact jok_48
                    · obtain rfl : k = 49 := by omega
                      exact jok_49
          · rcases Nat.lt_or_ge k 58 with h | h
            · rcases Nat.lt_or_ge k 54 with h | h
              · rcases Nat.lt_or_ge k 52 with h | h
                · rcases Nat.lt_or_ge k 51 with h | h
                  · obtain rfl : k = 50 := by omega
                    exact jok_50
                  · obtain rfl : k = 51 := by omega
                    exact jok_51
                · rcases Nat.lt_or_ge k 53 with h | h
                  · obtain rfl : k = 52 := by omega
                    exact jok_52
                  · obtain rfl : k = 53 := by omega
                    exact jok_53
              · rcases Nat.lt_or_ge k 56 with h | h
                · rcases Nat.lt_or_ge k 55 with h | h
                  · obtain rfl : k = 54 := by omega
                    exact jok_54
                  · obtain rfl : k = 55 := by omega
                    exact jok_55
                · rcases Nat.lt_or_ge k 57 with h | h
                  · obtain rfl : k = 56 := by omega
                    exact jok_56
                  · obtain rfl : k = 57 := by omega
                    exact jok_57
            · rcases Nat.lt_or_ge k 62 with h | h
              · rcases Nat.lt_or_ge k 60 with h | h
                · rcases Nat.lt_or_ge k 59 with h | h
                  · obtain rfl : k = 58 := by omega
                    exact jok_58
                  · obtain rfl : k = 59 := by omega
                    exact jok_59
                · rcases Nat.lt_or_ge k 61 with h | h
                  · obtain rfl : k = 60 := by omega
                    exact jok_60
                  · obtain rfl : k = 61 := by omega
                    exact jok_61
              · rcases Nat.lt_or_ge k 64 with h | h
                · rcases Nat.lt_or_ge k 63 with h | h
                  · obtain rfl : k = 62 := by omega
                    exact jok_62
                  · obtain rfl : k = 63 := by omega
                    exact jok_63
                · rcases Nat.lt_or_ge k 65 with h | h
                  · obtain rfl : k = 64 := by omega
                    exact jok_64
                  · rcases Nat.lt_or_ge k 66 with h | h
                    · obtain rfl : k = 65 := by omega
                      exact jok_65
                    · obtain rfl : k = 66 := by omega
                      exact jok_66
      · rcases Nat.lt_or_ge k 101 with h | h
        · rcases Nat.lt_or_ge k 84 with h | h
          · rcases Nat.lt_or_ge k 75 with h | h
            · rcases Nat.lt_or_ge k 71 with h | h
              · rcases Nat.lt_or_ge k 69 with h | h
                · rcases Nat.lt_or_ge k 68 with h | h
                  · obtain rfl : k = 67 := by omega
                    exact jok_67
                  · obtain rfl : k = 68 := by omega
                    exact jok_68
                · rcases Nat.lt_or_ge k 70 with h | h
                  · obtain rfl : k = 69 := by omega
                    exact jok_69
                  · obtain rfl : k = 70 := by omega
                    exact jok_70
              · rcases Nat.lt_or_ge k 73 with h | h
                · rcases Nat.lt_or_ge k 72 with h | h
                  · obtain rfl : k = 71 := by omega
                    exact jok_71
                  · obtain rfl : k = 72 := by omega
                    exact jok_72
                · rcases Nat.lt_or_ge k 74 with h | h
                  · obtain rfl : k = 73 := by omega
                    exact jok_73
                  · obtain rfl : k = 74 := by omega
                    exact jok_74
            · rcases Nat.lt_or_ge k 79 with h | h
              · rcases Nat.lt_or_ge k 77 with h | h
                · rcases Nat.lt_or_ge k 76 with h | h
                  · obtain rfl : k = 75 := by omega
                    exact jok_75
                  · obtain rfl : k = 76 := by omega
                    exact jok_76
                · rcases Nat.lt_or_ge k 78 with h | h
                  · obtain rfl : k = 77 := by omega
                    exact jok_77
                  · obtain rfl : k = 78 := by omega
                    exact jok_78
              · rcases Nat.lt_or_ge k 81 with h | h
                · rcases Nat.lt_or_ge k 80 with h | h
                  · obtain rfl : k = 79 := by omega
                    exact jok_79
                  · obtain rfl : k = 80 := by omega
                    exact jok_80
                · rcases Nat.lt_or_ge k 82 with h | h
                  · obtain rfl : k = 81 := by omega
                    exact jok_81
                  · rcases Nat.lt_or_ge k 83 with h | h
                    · obtain rfl : k = 82 := by omega
                      exact jok_82
                    · obtain rfl : k = 83 := by omega
                      exact jok_83
          · rcases Nat.lt_or_ge k 92 with h | h
            · rcases Nat.lt_or_ge k 88 with h | h
              · rcases Nat.lt_or_ge k 86 with h | h
                · rcases Nat.lt_or_ge k 85 with h | h
                  · obtain rfl : k = 84 := by omega
                    exact jok_84
                  · obtain rfl : k = 85 := by omega
                    exact jok_85
                · rcases Nat.lt_or_ge k 87 with h | h
                  · obtain rfl : k = 86 := by omega
                    exact jok_86
                  · obtain rfl : k = 87 := by omega
                    exact jok_87
              · rcases Nat.lt_or_ge k 90 with h | h
                · rcases Nat.lt_or_ge k 89 with h | h
                  · obtain rfl : k = 88 := by omega
                    exact jok_88
                  · obtain rfl : k = 89 := by omega
                    exact jok_89
                · rcases Nat.lt_or_ge k 91 with h | h
                  · obtain rfl : k = 90 := by omega
                    exact jok_90
                  · obtain rfl : k = 91 := by omega
                    exact jok_91
            · rcases Nat.lt_or_ge k 96 with h | h
              · rcases Nat.lt_or_ge k 94 with h | h
                · rcases Nat.lt_or_ge k 93 with h | h
                  · obtain rfl : k = 92 := by omega
                    exact jok_92
                  · obtain rfl : k = 93 := by omega
                    exact jok_93
                · rcases Nat.lt_or_ge k 95 with h | h
                  · obtain rfl : k = 94 := by omega
                    exact jok_94
                  · obtain rfl : k = 95 := by omega
                    exact jok_95
              · rcases Nat.lt_or_ge k 98 with h | h
                · rcases Nat.lt_or_ge k 97 with h | h
                  · obtain rfl : k = 96 := by omega
                    exact jok_96
                  · obtain rfl : k = 97 := by omega
                    exact jok_97
                · rcases Nat.lt_or_ge k 99 with h | h
                  · obtain rfl : k = 98 := by omega
                    exact jok_98
                  · rcases Nat.lt_or_ge k 100 with h | h
                    · obtain rfl : k = 99 := by omega
                      exact jok_99
                    · obtain rfl : k = 100 := by omega
                      exact jok_100
        · rcases Nat.lt_or_ge k 118 with h | h
          · rcases Nat.lt_or_ge k 109 with h | h
            · rcases Nat.lt_or_ge k 105 with h | h
              · rcases Nat.lt_or_ge k 103 with h | h
                · rcases Nat.lt_or_ge k 102 with h | h
                  · obtain rfl : k = 101 := by omega
                    exact jok_101
                  · obtain rfl : k = 102 := by omega
                    exact jok_102
                · rcases Nat.lt_or_ge k 104 with h | h
                  · obtain rfl : k = 103 := by omega
                    exact jok_103
                  · obtain rfl : k = 104 := by omega
                    exact jok_104
              · rcases Nat.lt_or_ge k 107 with h | h
                · rcases Nat.lt_or_ge k 106 with h | h
                  · obtain rfl : k = 105 := by omega
                    exact jok_105
                  · obtain rfl : k = 106 := by omega
                    exact jok_106
                · rcases Nat.lt_or_ge k 108 with h | h
                  · obtain rfl : k = 107 := by omega
                    exact jok_107
                  · obtain rfl : k = 108 := by omega
                    exact jok_108
            · rcases Nat.lt_or_ge k 113 with h | h
              · rcases Nat.lt_or_ge k 111 with h | h
                · rcases Nat.lt_or_ge k 110 with h | h
                  · obtain rfl : k = 109 := by omega
                    exact jok_109
                  · obtain rfl : k = 110 := by omega
                    exact jok_110
                · rcases Nat.lt_or_ge k 112 with h | h
                  · obtain rfl : k = 111 := by omega
                    exact jok_111
                  · obtain rfl : k = 112 := by omega
                    exact jok_112
              · rcases Nat.lt_or_ge k 115 with h | h
                · rcases Nat.lt_or_ge k 114 with h | h
                  · obtain rfl : k = 113 := by omega
                    exact jok_113
                  · obtain rfl : k = 114 := by omega
                    exact jok_114
                · rcases Nat.lt_or_ge k 116 with h | h
                  · obtain rfl : k = 115 := by omega
                    exact jok_115
                  · rcases Nat.lt_or_ge k 117 with h | h
                    · obtain rfl : k = 116 := by omega
                      exact jok_116
                    · obtain rfl : k = 117 := by omega
                      exact jok_117
          · rcases Nat.lt_or_ge k 126 with h | h
            · rcases Nat.lt_or_ge k 122 with h | h
              · rcases Nat.lt_or_ge k 120 with h | h
                · rcases Nat.lt_or_ge k 119 with h | h
                  · obtain rfl : k = 118 := by omega
                    exact jok_118
                  · obtain rfl : k = 119 := by omega
                    exact jok_119
                · rcases Nat.lt_or_ge k 121 with h | h
                  · obtain rfl : k = 120 := by omega
                    exact jok_120
                  · obtain rfl : k = 121 := by omega
                    exact jok_121
              · rcases Nat.lt_or_ge k 124 with h | h
                · rcases Nat.lt_or_ge k 123 with h | h
                  · obtain rfl : k = 122 := by omega
                    exact jok_122
                  · obtain rfl : k = 123 := by omega
                    exact jok_123
                · rcases Nat.lt_or_ge k 125 with h | h
                  · obtain rfl : k = 124 := by omega
                    exact jok_124
                  · obtain rfl : k = 125 := by omega
                    exact jok_125
            · rcases Nat.lt_or_ge k 130 with h | h
              · rcases Nat.lt_or_ge k 128 with h | h
                · rcases Nat.lt_or_ge k 127 with h | h
                  · obtain rfl : k = 126 := by omega
                    exact jok_126
                  · obtain rfl : k = 127 := by omega
                    exact jok_127
                · rcases Nat.lt_or_ge k 129 with h | h
                  · obtain rfl : k = 128 := by omega
                    exact jok_128
                  · obtain rfl : k = 129 := by omega
                    exact jok_129
              · rcases Nat.lt_or_ge k 132 with h | h
                · rcases Nat.lt_or_ge k 131 with h | h
                  · obtain rfl : k = 130 := by omega
                    exact jok_130
                  · obtain rfl : k = 131 := by omega
                    exact jok_131
                · rcases Nat.lt_or_ge k 133 with h | h
                  · obtain rfl : k = 132 := by omega
                    exact jok_132
                  · rcases Nat.lt_or_ge k 134 with h | h
                    · obtain rfl : k = 133 := by omega
                      exact jok_133
                    · obtain rfl : k = 134 := by omega
                      exact jok_134
    · rcases Nat.lt_or_ge k 202 with h | h
      · rcases Nat.lt_or_ge k 168 with h | h
        · rcases Nat.lt_or_ge k 151 with h | h
          · rcases Nat.lt_or_ge k 143 with h | h
            · rcases Nat.lt_or_ge k 139 with h | h
              · rcases Nat.lt_or_ge k 137 with h | h
                · rcases Nat.lt_or_ge k 136 with h | h
                  · obtain rfl : k = 135 := by omega
                    exact jok_135
                  · obtain rfl : k = 136 := by omega
                    exact jok_136
                · rcases Nat.lt_or_ge k 138 with h | h
                  · obtain rfl : k = 137 := by omega
                    exact jok_137
                  · obtain rfl : k = 138 := by omega
                    exact jok_138
              · rcases Nat.lt_or_ge k 141 with h | h
                · rcases Nat.lt_or_ge k 140 with h | h
                  · obtain rfl : k = 139 := by omega
                    exact jok_139
                  · obtain rfl : k = 140 := by omega
                    exact jok_140
                · rcases Nat.lt_or_ge k 142 with h | h
                  · obtain rfl : k = 141 := by omega
                    exact jok_141
                  · obtain rfl : k = 142 := by omega
                    exact jok_142
            · rcases Nat.lt_or_ge k 147 with h | h
              · rcases Nat.lt_or_ge k 145 with h | h
                · rcases Nat.lt_or_ge k 144 with h | h
                  · obtain rfl : k = 143 := by omega
                    exact jok_143
                  · obtain rfl : k = 144 := by omega
                    exact jok_144
                · rcases Nat.lt_or_ge k 146 with h | h
                  · obtain rfl : k = 145 := by omega
                    exact jok_145
                  · obtain rfl : k = 146 := by omega
                    exact jok_146
              · rcases Nat.lt_or_ge k 149 with h | h
                · rcases Nat.lt_or_ge k 148 with h | h
                  · obtain rfl : k = 147 := by omega
                    exact jok_147
                  · obtain rfl : k = 148 := by omega
                    exact jok_148
                · rcases Nat.lt_or_ge k 150 with h | h
                  · obtain rfl : k = 149 := by omega
                    exact jok_149
                  · obtain rfl : k = 150 := by omega
                    exact jok_150
          · rcases Nat.lt_or_ge k 159 with h | h
            · rcases Nat.lt_or_ge k 155 with h | h
              · rcases Nat.lt_or_ge k 153 with h | h
                · rcases Nat.lt_or_ge k 152 with h | h
                  · obtain rfl : k = 151 := by omega
                    exact jok_151
                  · obtain rfl : k = 152 := by omega
                    exact jok_152
                · rcases Nat.lt_or_ge k 154 with h | h
                  · obtain rfl : k = 153 := by omega
                    exact jok_153
                  · obtain rfl : k = 154 := by omega
                    exact jok_154
              · rcases Nat.lt_or_ge k 157 with h | h
                · rcases Nat.lt_or_ge k 156 with h | h
                  · obtain rfl : k = 155 := by omega
                    exact jok_155
                  · obtain rfl : k = 156 := by omega
                    exact jok_156
                · rcases Nat.lt_or_ge k 158 with h | h
                  · obtain rfl : k = 157 := by omega
                    exact jok_157
                  · obtain rfl : k = 158 := by omega
                    exact jok_158
            · rcases Nat.lt_or_ge k 163 with h | h
              · rcases Nat.lt_or_ge k 161 with h | h
                · rcases Nat.lt_or_ge k 160 with h | h
                  · obtain rfl : k = 159 := by omega
                    exact jok_159
                  · obtain rfl : k = 160 := by omega
                    exact jok_160
                · rcases Nat.lt_or_ge k 162 with h | h
                  · obtain rfl : k = 161 := by omega
                    exact jok_161
                  · obtain rfl : k = 162 := by omega
                    exact jok_162
              · rcases Nat.lt_or_ge k 165 with h | h
                · rcases Nat.lt_or_ge k 164 with h | h
                  · obtain rfl : k = 163 := by omega
                    exact jok_163
                  · obtain rfl : k = 164 := by omega
                    exact jok_164
                · rcases Nat.lt_or_ge k 166 with h | h
                  · obtain rfl : k = 165 := by omega
                    exact jok_165
                  · rcases Nat.lt_or_ge k 167 with h | h
                    · obtain rfl : k = 166 := by omega
                      exact jok_166
                    · obtain rfl : k = 167 := by omega
                      exact jok_167
        · rcases Nat.lt_or_ge k 185 with h | h
          · rcases Nat.lt_or_ge k 176 with h | h
            · rcases Nat.lt_or_ge k 172 with h | h
              · rcases Nat.lt_or_ge k 170 with h | h
                · rcases Nat.lt_or_ge k 169 with h | h
                  · obtain rfl : k = 168 := by omega
                    exact jok_168
                  · obtain rfl : k = 169 := by omega
                    exact jok_169
                · rcases Nat.lt_or_ge k 171 with h | h
                  · obtain rfl : k = 170 := by omega
                    exact jok_170
                  · obtain rfl : k = 171 := by omega
                    exact jok_171
              · rcases Nat.lt_or_ge k 174 with h | h
                · rcases Nat.lt_or_ge k 173 with h | h
                  · obtain rfl : k = 172 := by omega
                    exact jok_172
                  · obtain rfl : k = 173 := by omega
                    exact jok_173
                · rcases Nat.lt_or_ge k 175 with h | h
                  · obtain rfl : k = 174 := by omega
                    exact jok_174
                  · obtain rfl : k = 175 := by omega
                    exact jok_175
            · rcases Nat.lt_or_ge k 180 with h | h
              · rcases Nat.lt_or_ge k 178 with h | h
                · rcases Nat.lt_or_ge k 177 with h | h
                  · obtain rfl : k = 176 := by omega
                    exact jok_176
                  · obtain rfl : k = 177 := by omega
                    exact jok_177
                · rcases Nat.lt_or_ge k 179 with h | h
                  · obtain rfl : k = 178 := by omega
                    exact jok_178
                  · obtain rfl : k = 179 := by omega
                    exact jok_179
              · rcases Nat.lt_or_ge k 182 with h | h
                · rcases Nat.lt_or_ge k 181 with h | h
                  · obtain rfl : k = 180 := by omega
                    exact jok_180
                  · obtain rfl : k = 181 := by omega
                    exact jok_181
                · rcases Nat.lt_or_ge k 183 with h | h
                  · obtain rfl : k = 182 := by omega
                    exact jok_182
                  · rcases Nat.lt_or_ge k 184 with h | h
                    · obtain rfl : k = 183 := by omega
                      exact jok_183
                    · obtain rfl : k = 184 := by omega
                      exact jok_184
          · rcases Nat.lt_or_ge k 193 with h | h
            · rcases Nat.lt_or_ge k 189 with h | h
              · rcases Nat.lt_or_ge k 187 with h | h
                · rcases Nat.lt_or_ge k 186 with h | h
                  · obtain rfl : k = 185 := by omega
                    exact jok_185
                  · obtain rfl : k = 186 := by omega
                    exact jok_186
                · rcases Nat.lt_or_ge k 188 with h | h
                  · obtain rfl : k = 187 := by omega
                    exact jok_187
                  · obtain rfl : k = 188 := by omega
                    exact jok_188
              · rcases Nat.lt_or_ge k 191 with h | h
                · rcases Nat.lt_or_ge k 190 with h | h
                  · obtain rfl : k = 189 := by omega
                    exact jok_189
                  · obtain rfl : k = 190 := by omega
                    exact jok_190
                · rcases Nat.lt_or_ge k 192 with h | h
                  · obtain rfl : k = 191 := by omega
                    exact jok_191
                  · obtain rfl : k = 192 := by omega
                    exact jok_192
            · rcases Nat.lt_or_ge k 197 with h | h
              · rcases Nat.lt_or_ge k 195 with h | h
                · rcases Nat.lt_or_ge k 194 with h | h
                  · obtain rfl : k = 193 := by omega
                    exact jok_193
                  · obtain rfl : k = 194 := by omega
                    exact jok_194
                · rcases Nat.lt_or_ge k 196 with h | h
                  · obtain rfl : k = 195 := by omega
                    exact jok_195
                  · obtain rfl : k = 196 := by omega
                    exact jok_196
              · rcases Nat.lt_or_ge k 199 with h | h
                · rcases Nat.lt_or_ge k 198 with h | h
                  · obtain rfl : k = 197 := by omega
                    exact jok_197
                  · obtain rfl : k = 198 := by omega
                    exact jok_198
                · rcases Nat.lt_or_ge k 200 with h | h
                  · obtain rfl : k = 199 := by omega
                    exact jok_199
                  · rcases Nat.lt_or_ge k 201 with h | h
                    · obtain rfl : k = 200 := by omega
                      exact jok_200
                    · obtain rfl : k = 201 := by omega
                      exact jok_201
      · rcases Nat.lt_or_ge k 236 with h | h
        · rcases Nat.lt_or_ge k 219 with h | h
          · rcases Nat.lt_or_ge k 210 with h | h
            · rcases Nat.lt_or_ge k 206 with h | h
              · rcases Nat.lt_or_ge k 204 with h | h
                · rcases Nat.lt_or_ge k 203 with h | h
                  · obtain rfl : k = 202 := by omega
                    exact jok_202
                  · obtain rfl : k = 203 := by omega
                    exact jok_203
                · rcases Nat.lt_or_ge k 205 with h | h
                  · obtain rfl : k = 204 := by omega
                    exact jok_204
                  · obtain rfl : k = 205 := by omega
                    exact jok_205
              · rcases Nat.lt_or_ge k 208 with h | h
                · rcases Nat.lt_or_ge k 207 with h | h
                  · obtain rfl : k = 206 := by omega
                    exact jok_206
                  · obtain rfl : k = 207 := by omega
                    exact jok_207
                · rcases Nat.lt_or_ge k 209 with h | h
                  · obtain rfl : k = 208 := by omega
                    exact jok_208
                  · obtain rfl : k = 209 := by omega
                    exact jok_209
            · rcases Nat.lt_or_ge k 214 with h | h
              · rcases Nat.lt_or_ge k 212 with h | h
                · rcases Nat.lt_or_ge k 211 with h | h
                  · obtain rfl : k = 210 := by omega
                    exact jok_210
                  · obtain rfl : k = 211 := by omega
                    exact jok_211
                · rcases Nat.lt_or_ge k 213 with h | h
                  · obtain rfl : k = 212 := by omega
                    exact jok_212
                  · obtain rfl : k = 213 := by omega
                    exact jok_213
              · rcases Nat.lt_or_ge k 216 with h | h
                · rcases Nat.lt_or_ge k 215 with h | h
                  · obtain rfl : k = 214 := by omega
                    exact jok_214
                  · obtain rfl : k = 215 := by omega
                    exact jok_215
                · rcases Nat.lt_or_ge k 217 with h | h
                  · obtain rfl : k = 216 := by omega
                    exact jok_216
                  · rcases Nat.lt_or_ge k 218 with h | h
                    · obtain rfl : k = 217 := by omega
                      exact jok_217
                    · obtain rfl : k = 218 := by omega
                      exact jok_218
          · rcases Nat.lt_or_ge k 227 with h | h
            · rcases Nat.lt_or_ge k 223 with h | h
              · rcases Nat.lt_or_ge k 221 with h | h
                · rcases Nat.lt_or_ge k 220 with h | h
                  · obtain rfl : k = 219 := by omega
                    exact jok_219
                  · obtain rfl : k = 220 := by omega
                    exact jok_220
                · rcases Nat.lt_or_ge k 222 with h | h
                  · obtain rfl : k = 221 := by omega
                    exact jok_221
                  · obtain rfl : k = 222 := by omega
                    exact jok_222
              · rcases Nat.lt_or_ge k 225 with h | h
                · rcases Nat.lt_or_ge k 224 with h | h
                  · obtain rfl : k = 223 := by omega
                    exact jok_223
                  · obtain rfl : k = 224 := by omega
                    exact jok_224
                · rcases Nat.lt_or_ge k 226 with h | h
                  · obtain rfl : k = 225 := by omega
                    exact jok_225
                  · obtain rfl : k = 226 := by omega
                    exact jok_226
            · rcases Nat.lt_or_ge k 231 with h | h
              · rcases Nat.lt_or_ge k 229 with h | h
                · rcases Nat.lt_or_ge k 228 with h | h
                  · obtain rfl : k = 227 := by omega
                    exact jok_227
                  · obtain rfl : k = 228 := by omega
                    exact jok_228
                · rcases Nat.lt_or_ge k 230 with h | h
                  · obtain rfl : k = 229 := by omega
                    exact jok_229
                  · obtain rfl : k = 230 := by omega
                    exact jok_230
              · rcases Nat.lt_or_ge k 233 with h | h
                · rcases Nat.lt_or_ge k 232 with h | h
                  · obtain rfl : k = 231 := by omega
                    exact jok_231
                  · obtain rfl : k = 232 := by omega
                    exact jok_232
                · rcases Nat.lt_or_ge k 234 with h | h
                  · obtain rfl : k = 233 := by omega
                    exact jok_233
                  · rcases Nat.lt_or_ge k 235 with h | h
                    · obtain rfl : k = 234 := by omega
                      exact jok_234
                    · obtain rfl : k = 235 := by omega
                      exact jok_235
        · rcases Nat.lt_or_ge k 253 with h | h
          · rcases Nat.lt_or_ge k 244 with h | h
            · rcases Nat.lt_or_ge k 240 with h | h
              · rcases Nat.lt_or_ge k 238 with h | h
                · rcases Nat.lt_or_ge k 237 with h | h
                  · obtain rfl : k = 236 := by omega
                    exact jok_236
                  · obtain rfl : k = 237 := by omega
                    exact jok_237
                · rcases Nat.lt_or_ge k 239 with h | h
                  · obtain rfl : k = 238 := by omega
                    exact jok_238
                  · obtain rfl : k = 239 := by omega
                    exact jok_239
              · rcases Nat.lt_or_ge k 242 with h | h
                · rcases Nat.lt_or_ge k 241 with h | h
                  · obtain rfl : k = 240 := by omega
                    exact jok_240
                  · obtain rfl : k = 241 := by omega
                    exact jok_241
                · rcases Nat.lt_or_ge k 243 with h | h
                  · obtain rfl : k = 242 := by omega
                    exact jok_242
                  · obtain rfl : k = 243 := by omega
                    exact jok_243
            · rcases Nat.lt_or_ge k 248 with h | h
              · rcases Nat.lt_or_ge k 246 with h | h
                · rcases Nat.lt_or_ge k 245 with h | h
                  · obtain rfl : k = 244 := by omega
                    exact jok_244
                  · obtain rfl : k = 245 := by omega
                    exact jok_245
                · rcases Nat.lt_or_ge k 247 with h | h
                  · obtain rfl : k = 246 := by omega
                    exact jok_246
                  · obtain rfl : k = 247 := by omega
                    exact jok_247
              · rcases Nat.lt_or_ge k 250 with h | h
                · rcases Nat.lt_or_ge k 249 with h | h
                  · obtain rfl : k = 248 := by omega
                    exact jok_248
                  · obtain rfl : k = 249 := by omega
                    exact jok_249
                · rcases Nat.lt_or_ge k 251 with h | h
                  · obtain rfl : k = 250 := by omega
                    exact jok_250
                  · rcases Nat.lt_or_ge k 252 with h | h
                    · obtain rfl : k = 251 := by omega
                      exact jok_251
                    · obtain rfl : k = 252 := by omega
                      exact jok_252
          · rcases Nat.lt_or_ge k 261 with h | h
            · rcases Nat.lt_or_ge k 257 with h | h
              · rcases Nat.lt_or_ge k 255 with h | h
                · rcases Nat.lt_or_ge k 254 with h | h
                  · obtain rfl : k = 253 := by omega
                    exact jok_253
                  · obtain rfl : k = 254 := by omega
                    exact jok_254
                · rcases Nat.lt_or_ge k 256 with h | h
                  · obtain rfl : k = 255 := by omega
                    exact jok_255
                  · obtain rfl : k = 256 := by omega
                    exact jok_256
              · rcases Nat.lt_or_ge k 259 with h | h
                · rcases Nat.lt_or_ge k 258 with h | h
                  · obtain rfl : k = 257 := by omega
                    exact jok_257
                  · obtain rfl : k = 258 := by omega
                    exact jok_258
                · rcases Nat.lt_or_ge k 260 with h | h
                  · obtain rfl : k = 259 := by omega
                    exact jok_259
                  · obtain rfl : k = 260 := by omega
                    exact jok_260
            · rcases Nat.lt_or_ge k 265 with h | h
              · rcases Nat.lt_or_ge k 263 with h | h
                · rcases Nat.lt_or_ge k 262 with h | h
                  · obtain rfl : k = 261 := by omega
                    exact jok_261
                  · obtain rfl : k = 262 := by omega
                    exact jok_262
                · rcases Nat.lt_or_ge k 264 with h | h
                  · obtain rfl : k = 263 := by omega
                    exact jok_263
                  · obtain rfl : k = 264 := by omega
                    exact jok_264
              · rcases Nat.lt_or_ge k 267 with h | h
                · rcases Nat.lt_or_ge k 266 with h | h
                  · obtain rfl : k = 265 := by omega
                    exact jok_265
                  · obtain rfl : k = 266 := by omega
                    exact jok_266
                · rcases Nat.lt_or_ge k 268 with h | h
                  · obtain rfl : k = 267 := by omega
                    exact jok_267
                  · rcases Nat.lt_or_ge k 269 with h | h
                    · obtain rfl : k = 268 := by omega
                      exact jok_268
                    · obtain rfl : k = 269 := by omega
                      exact jok_269
  · have e : jTs[k]? = none := List.getElem?_eq_none (by rw [show jTs.length = 270 from rfl]; exact h0)
    unfold jokM
    rw [e]
set_option maxRecDepth 100000 in
theorem jmo_all : ∀ k, k < 269 → jmOK k := by
  intro k h0
  rcases Nat.lt_or_ge k 134 with h | h
  · rcases Nat.lt_or_ge k 67 with h | h
    · rcases Nat.lt_or_ge k 33 with h | h
      · rcases Nat.lt_or_ge k 16 with h | h
        · rcases Nat.lt_or_ge k 8 with h | h
          · rcases Nat.lt_or_ge k 4 with h | h
            · rcases Nat.lt_or_ge k 2 with h | h
              · rcases Nat.lt_or_ge k 1 with h | h
                · obtain rfl : k = 0 := by omega
                  exact jmo_0
                · obtain rfl : k = 1 := by omega
                  exact jmo_1
              · rcases Nat.lt_or_ge k 3 with h | h
                · obtain rfl : k = 2 := by omega
                  exact jmo_2
                · obtain rfl : k = 3 := by omega
                  exact jmo_3
            · rcases Nat.lt_or_ge k 6 with h | h
              · rcases Nat.lt_or_ge k 5 with h | h
                · obtain rfl : k = 4 := by omega
                  exact jmo_4
                · obtain rfl : k = 5 := by omega
                  exact jmo_5
              · rcases Nat.lt_or_ge k 7 with h | h
                · obtain rfl : k = 6 := by omega
                  exact jmo_6
                · obtain rfl : k = 7 := by omega
                  exact jmo_7
          · rcases Nat.lt_or_ge k 12 with h | h
            · rcases Nat.lt_or_ge k 10 with h | h
              · rcases Nat.lt_or_ge k 9 with h | h
                · obtain rfl : k = 8 := by omega
                  exact jmo_8
                · obtain rfl : k = 9 := by omega
                  exact jmo_9
              · rcases Nat.lt_or_ge k 11 with h | h
                · obtain rfl : k = 10 := by omega
                  exact jmo_10
                · obtain rfl : k = 11 := by omega
                  exact jmo_11
            · rcases Nat.lt_or_ge k 14 with h | h
              · rcases Nat.lt_or_ge k 13 with h | h
                · obtain rfl : k = 12 := by omega
                  exact jmo_12
                · obtain rfl : k = 13 := by omega
                  exact jmo_13
              · rcases Nat.lt_or_ge k 15 with h | h
                · obtain rfl : k = 14 := by omega
                  exact jmo_14
                · obtain rfl : k = 15 := by omega
                  exact jmo_15
        · rcases Nat.lt_or_ge k 24 with h | h
          · rcases Nat.lt_or_ge k 20 with h | h
            · rcases Nat.lt_or_ge k 18 with h | h
              · rcases Nat.lt_or_ge k 17 with h | h
                · obtain rfl : k = 16 := by omega
                  exact jmo_16
                · obtain rfl : k = 17 := by omega
                  exact jmo_17
              · rcases Nat.lt_or_ge k 19 with h | h
                · obtain rfl : k = 18 := by omega
                  exact jmo_18
                · obtain rfl : k = 19 := by omega
                  exact jmo_19
            · rcases Nat.lt_or_ge k 22 with h | h
              · rcases Nat.lt_or_ge k 21 with h | h
                · obtain rfl : k = 20 := by omega
                  exact jmo_20
                · obtain rfl : k = 21 := by omega
                  exact jmo_21
              · rcases Nat.lt_or_ge k 23 with h | h
                · obtain rfl : k = 22 := by omega
                  exact jmo_22
                · obtain rfl : k = 23 := by omega
                  exact jmo_23
          · rcases Nat.lt_or_ge k 28 with h | h
            · rcases Nat.lt_or_ge k 26 with h | h
              · rcases Nat.lt_or_ge k 25 with h | h
                · obtain rfl : k = 24 := by omega
                  exact jmo_24
                · obtain rfl : k = 25 := by omega
                  exact jmo_25
              · rcases Nat.lt_or_ge k 27 with h | h
                · obtain rfl : k = 26 := by omega
                  exact jmo_26
                · obtain rfl : k = 27 := by omega
                  exact jmo_27
            · rcases Nat.lt_or_ge k 30 with h | h
              · rcases Nat.lt_or_ge k 29 with h | h
                · obtain rfl : k = 28 := by omega
                  exact jmo_28
                · obtain rfl : k = 29 := by omega
                  exact jmo_29
              · rcases Nat.lt_or_ge k 31 with h | h
                · obtain rfl : k = 30 := by omega
                  exact jmo_30
                · rcases Nat.lt_or_ge k 32 with h | h
                  · obtain rfl : k = 31 := by omega
                    exact jmo_31
                  · obtain rfl : k = 32 := by omega
                    exact jmo_32
      · rcases Nat.lt_or_ge k 50 with h | h
        · rcases Nat.lt_or_ge k 41 with h | h
          · rcases Nat.lt_or_ge k 37 with h | h
            · rcases Nat.lt_or_ge k 35 with h | h
              · rcases Nat.lt_or_ge k 34 with h | h
                · obtain rfl : k = 33 := by omega
                  exact jmo_33
                · obtain rfl : k = 34 := by omega
                  exact jmo_34
              · rcases Nat.lt_or_ge k 36 with h | h
                · obtain rfl : k = 35 := by omega
                  exact jmo_35
                · obtain rfl : k = 36 := by omega
                  exact jmo_36
            · rcases Nat.lt_or_ge k 39 with h | h
              · rcases Nat.lt_or_ge k 38 with h | h
                · obtain rfl : k = 37 := by omega
                  exact jmo_37
                · obtain rfl : k = 38 := by omega
                  exact jmo_38
              · rcases Nat.lt_or_ge k 40 with h | h
                · obtain rfl : k = 39 := by omega
                  exact jmo_39
                · obtain rfl : k = 40 := by omega
                  exact jmo_40
          · rcases Nat.lt_or_ge k 45 with h | h
            · rcases Nat.lt_or_ge k 43 with h | h
              · rcases Nat.lt_or_ge k 42 with h | h
                · obtain rfl : k = 41 := by omega
                  exact jmo_41
                · obtain rfl : k = 42 := by omega
                  exact jmo_42
              · rcases Nat.lt_or_ge k 44 with h | h
                · obtain rfl : k = 43 := by omega
                  exact jmo_43
                · obtain rfl : k = 44 := by omega
                  exact jmo_44
            · rcases Nat.lt_or_ge k 47 with h | h
              · rcases Nat.lt_or_ge k 46 with h | h
                · obtain rfl : k = 45 := by omega
                  exact jmo_45
                · obtain rfl : k = 46 := by omega
                  exact jmo_46
              · rcases Nat.lt_or_ge k 48 with h | h
                · obtain rfl : k = 47 := by omega
                  exact jmo_47
                · rcases Nat.lt_or_ge k 49 with h | h
                  · obtain rfl : k = 48 := by omega
                    exact jmo_48
                  · obtain rfl : k = 49 := by omega
                    exact jmo_49
        · rcases Nat.lt_or_ge k 58 with h | h
          · rcases Nat.lt_or_ge k 54 with h | h
            · rcases Nat.lt_or_ge k 52 with h | h
              · rcases Nat.lt_or_ge k 51 with h | h
                · obtain rfl : k = 50 := by omega
                  exact jmo_50
                · obtain rfl : k = 51 := by omega
                  exact jmo_51
              · rcases Nat.lt_or_ge k 53 with h | h
                · obtain rfl : k = 52 := by omega
                  exact jmo_52
                · obtain rfl : k = 53 := by omega
                  exact jmo_53
            · rcases Nat.lt_or_ge k 56 with h | h
              · rcases Nat.lt_or_ge k 55 with h | h
                · obtain rfl : k = 54 := by omega
                  exact jmo_54
                · obtain rfl : k = 55 := by omega
                  exact jmo_55
              · rcases Nat.lt_or_ge k 57 with h | h
                · obtain rfl : k = 56 := by omega
                  exact jmo_56
                · obtain rfl : k = 57 := by omega
                  exact jmo_57
          · rcases Nat.lt_or_ge k 62 with h | h
            · rcases Nat.lt_or_ge k 60 with h | h
              · rcases Nat.lt_or_ge k 59 with h | h
                · obtain rfl : k = 58 := by omega
                  exact jmo_58
                · obtain rfl : k = 59 := by omega
                  exact jmo_59
              · rcases Nat.lt_or_ge k 61 with h | h
                · obtain rfl : k = 60 := by omega
                  exact jmo_60
                · obtain rfl : k = 61 := by omega
                  exact jmo_61
            · rcases Nat.lt_or_ge k 64 with h | h
              · rcases Nat.lt_or_ge k 63 with h | h
                · obtain rfl : k = 62 := by omega
                  exact jmo_62
                · obtain rfl : k = 63 := by omega
                  exact jmo_63
              · rcases Nat.lt_or_ge k 65 with h | h
                · obtain rfl : k = 64 := by omega
                  exact jmo_64
                · rcases Nat.lt_or_ge k 66 with h | h
                  · obtain rfl : k = 65 := by omega
                    exact jmo_65
                  · obtain rfl : k = 66 := by omega
                    exact jmo_66
    · rcases Nat.lt_or_ge k 100 with h | h
      · rcases Nat.lt_or_ge k 83 with h | h
        · rcases Nat.lt_or_ge k 75 with h | h
          · rcases Nat.lt_or_ge k 71 with h | h
            · rcases Nat.lt_or_ge k 69 with h | h
              · rcases Nat.lt_or_ge k 68 with h | h
                · obtain rfl : k = 67 := by omega
                  exact jmo_67
                · obtain rfl : k = 68 := by omega
                  exact jmo_68
              · rcases Nat.lt_or_ge k 70 with h | h
                · obtain rfl : k = 69 := by omega
                  exact jmo_69
                · obtain rfl : k = 70 := by omega
                  exact jmo_70
            · rcases Nat.lt_or_ge k 73 with h | h
              · rcases Nat.lt_or_ge k 72 with h | h
                · obtain rfl : k = 71 := by omega
                  exact jmo_71
                · obtain rfl : k = 72 := by omega
                  exact jmo_72
              · rcases Nat.lt_or_ge k 74 with h | h
                · obtain rfl : k = 73 := by omega
                  exact jmo_73
                · obtain rfl : k = 74 := by omega
                  exact jmo_74
          · rcases Nat.lt_or_ge k 79 with h | h
            · rcases Nat.lt_or_ge k 77 with h | h
              · rcases Nat.lt_or_ge k 76 with h | h
                · obtain rfl : k = 75 := by omega
                  exact jmo_75
                · obtain rfl : k = 76 := by omega
                  exact jmo_76
              · rcases Nat.lt_or_ge k 78 with h | h
                · obtain rfl : k = 77 := by omega
                  exact jmo_77
                · obtain rfl : k = 78 := by omega
                  exact jmo_78
            · rcases Nat.lt_or_ge k 81 with h | h
              · rcases Nat.lt_or_ge k 80 with h | h
                · obtain rfl : k = 79 := by omega
                  exact jmo_79
                · obtain rfl : k = 80 := by omega
                  exact jmo_80
              · rcases Nat.lt_or_ge k 82 with h | h
                · obtain rfl : k = 81 := by omega
                  exact jmo_81
                · obtain rfl : k = 82 := by omega
                  exact jmo_82
        · rcases Nat.lt_or_ge k 91 with h | h
          · rcases Nat.lt_or_ge k 87 with h | h
            · rcases Nat.lt_or_ge k 85 with h | h
              · rcases Nat.lt_or_ge k 84 with h | h
                · obtain rfl : k = 83 := by omega
                  exact jmo_83
                · obtain rfl : k = 84 := by omega
                  exact jmo_84
              · rcases Nat.lt_or_ge k 86 with h | h
                · obtain rfl : k = 85 := by omega
                  exact jmo_85
                · obtain rfl : k = 86 := by omega
                  exact jmo_86
            · rcases Nat.lt_or_ge k 89 with h | h
              · rcases Nat.lt_or_ge k 88 with h | h
                · obtain rfl : k = 87 := by omega
                  exact jmo_87
                · obtain rfl : k = 88 := by omega
                  exact jmo_88
              · rcases Nat.lt_or_ge k 90 with h | h
                · obtain rfl : k = 89 := by omega
                  exact jmo_89
                · obtain rfl : k = 90 := by omega
                  exact jmo_90
          · rcases Nat.lt_or_ge k 95 with h | h
            · rcases Nat.lt_or_ge k 93 with h | h
              · rcases Nat.lt_or_ge k 92 with h | h
                · obtain rfl : k = 91 := by omega
                  exact jmo_91
                · obtain rfl : k = 92 := by omega
                  exact jmo_92
              · rcases Nat.lt_or_ge k 94 with h | h
                · obtain rfl : k = 93 := by omega
                  exact jmo_93
                · obtain rfl : k = 94 := by omega
                  exact jmo_94
            · rcases Nat.lt_or_ge k 97 with h | h
              · rcases Nat.lt_or_ge k 96 with h | h
                · obtain rfl : k = 95 := by omega
                  exact jmo_95
                · obtain rfl : k = 96 := by omega
                  exact jmo_96
              · rcases Nat.lt_or_ge k 98 with h | h
                · obtain rfl : k = 97 := by omega
                  exact jmo_97
                · rcases Nat.lt_or_ge k 99 with h | h
                  · obtain rfl : k = 98 := by omega
                    exact jmo_98
                  · obtain rfl : k = 99 := by omega
                    exact jmo_99
      · rcases Nat.lt_or_ge k 117 with h | h
        · rcases Nat.lt_or_ge k 108 with h | h
          · rcases Nat.lt_or_ge k 104 with h | h
            · rcases Nat.lt_or_ge k 102 with h | h
              · rcases Nat.lt_or_ge k 101 with h | h
                · obtain rfl : k = 100 := by omega
                  exact jmo_100
                · obtain rfl : k = 101 := by omega
                  exact jmo_101
              · rcases Nat.lt_or_ge k 103 with h | h
                · obtain rfl : k = 102 := by omega
                  exact jmo_102
                · obtain rfl : k = 103 := by omega
                  exact jmo_103
            · rcases Nat.lt_or_ge k 106 with h | h
              · rcases Nat.lt_or_ge k 105 with h | h
                · obtain rfl : k = 104 := by omega
                  exact jmo_104
                · obtain rfl : k = 105 := by omega
                  exact jmo_105
              · rcases Nat.lt_or_ge k 107 with h | h
                · obtain rfl : k = 106 := by omega
                  exact jmo_106
                · obtain rfl : k = 107 := by omega
                  exact jmo_107
          · rcases Nat.lt_or_ge k 112 with h | h
            · rcases Nat.lt_or_ge k 110 with h | h
              · rcases Nat.lt_or_ge k 109 with h | h
                · obtain rfl : k = 108 := by omega
                  exact jmo_108
                · obtain rfl : k = 109 := by omega
                  exact jmo_109
              · rcases Nat.lt_or_ge k 111 with h | h
                · obtain rfl : k = 110 := by omega
                  exact jmo_110
                · obtain rfl : k = 111 := by omega
                  exact jmo_111
            · rcases Nat.lt_or_ge k 114 with h | h
              · rcases Nat.lt_or_ge k 113 with h | h
                · obtain rfl : k = 112 := by omega
                  exact jmo_112
                · obtain rfl : k = 113 := by omega
                  exact jmo_113
              · rcases Nat.lt_or_ge k 115 with h | h
                · obtain rfl : k = 114 := by omega
                  exact jmo_114
                · rcases Nat.lt_or_ge k 116 with h | h
                  · obtain rfl : k = 115 := by omega
                    exact jmo_115
                  · obtain rfl : k = 116 := by omega
                    exact jmo_116
        · rcases Nat.lt_or_ge k 125 with h | h
          · rcases Nat.lt_or_ge k 121 with h | h
            · rcases Nat.lt_or_ge k 119 with h | h
              · rcases Nat.lt_or_ge k 118 with h | h
                · obtain rfl : k = 117 := by omega
                  exact jmo_117
                · obtain rfl : k = 118 := by omega
                  exact jmo_118
              · rcases Nat.lt_or_ge k 120 with h | h
                · obtain rfl : k = 119 := by omega
                  exact jmo_119
                · obtain rfl : k = 120 := by omega
                  exact jmo_120
            · rcases Nat.lt_or_ge k 123 with h | h
              · rcases Nat.lt_or_ge k 122 with h | h
                · obtain rfl : k = 121 := by omega
                  exact jmo_121
                · obtain rfl : k = 122 := by omega
                  exact jmo_122
              · rcases Nat.lt_or_ge k 124 with h | h
                · obtain rfl : k = 123 := by omega
                  exact jmo_123
                · obtain rfl : k = 124 := by omega
                  exact jmo_124
          · rcases Nat.lt_or_ge k 129 with h | h
            · rcases Nat.lt_or_ge k 127 with h | h
              · rcases Nat.lt_or_ge k 126 with h | h
                · obtain rfl : k = 125 := by omega
                  exact jmo_125
                · obtain rfl : k = 126 := by omega
                  exact jmo_126
              · rcases Nat.lt_or_ge k 128 with h | h
                · obtain rfl : k = 127 := by omega
                  exact jmo_127
                · obtain rfl : k = 128 := by omega
                  exact jmo_128
            · rcases Nat.lt_or_ge k 131 with h | h
              · rcases Nat.lt_or_ge k 130 with h | h
                · obtain rfl : k = 129 := by omega
                  exact jmo_129
                · obtain rfl : k = 130 := by omega
                  exact jmo_130
              · rcases Nat.lt_or_ge k 132 with h | h
                · obtain rfl : k = 131 := by omega
                  exact jmo_131
                · rcases Nat.lt_or_ge k 133 with h | h
                  · obtain rfl : k = 132 := by omega
                    exact jmo_132
                  · obtain rfl : k = 133 := by omega
                    exact jmo_133
  · rcases Nat.lt_or_ge k 201 with h | h
    · rcases Nat.lt_or_ge k 167 with h | h
      · rcases Nat.lt_or_ge k 150 with h | h
        · rcases Nat.lt_or_ge k 142 with h | h
          · rcases Nat.lt_or_ge k 138 with h | h
            · rcases Nat.lt_or_ge k 136 with h | h
              · rcases Nat.lt_or_ge k 135 with h | h
                · obtain rfl : k = 134 := by omega
                  exact jmo_134
                · obtain rfl : k = 135 := by omega
                  exact jmo_135
              · rcases Nat.lt_or_ge k 137 with h | h
                · obtain rfl : k = 136 := by omega
                  exact jmo_136
                · obtain rfl : k = 137 := by omega
                  exact jmo_137
            · rcases Nat.lt_or_ge k 140 with h | h
              · rcases Nat.lt_or_ge k 139 with h | h
                · obtain rfl : k = 138 := by omega
                  exact jmo_138
                · obtain rfl : k = 139 := by omega
                  exact jmo_139
              · rcases Nat.lt_or_ge k 141 with h | h
                · obtain rfl : k = 140 := by omega
                  exact jmo_140
                · obtain rfl : k = 141 := by omega
                  exact jmo_141
          · rcases Nat.lt_or_ge k 146 with h | h
            · rcases Nat.lt_or_ge k 144 with h | h
              · rcases Nat.lt_or_ge k 143 with h | h
                · obtain rfl : k = 142 := by omega
                  exact jmo_142
                · obtain rfl : k = 143 := by omega
                  exact jmo_143
              · rcases Nat.lt_or_ge k 145 with h | h
                · obtain rfl : k = 144 := by omega
                  exact jmo_144
                · obtain rfl : k = 145 := by omega
                  exact jmo_145
            · rcases Nat.lt_or_ge k 148 with h | h
              · rcases Nat.lt_or_ge k 147 with h | h
                · obtain rfl : k = 146 := by omega
                  exact jmo_146
                · obtain rfl : k = 147 := by omega
                  exact jmo_147
              · rcases Nat.lt_or_ge k 149 with h | h
                · obtain rfl : k = 148 := by omega
                  exact jmo_148
                · obtain rfl : k = 149 := by omega
                  exact jmo_149
        · rcases Nat.lt_or_ge k 158 with h | h
          · rcases Nat.lt_or_ge k 154 with h | h
            · rcases Nat.lt_or_ge k 152 with h | h
              · rcases Nat.lt_or_ge k 151 with h | h
                · obtain rfl : k = 150 := by omega
                  exact jmo_150
                · obtain rfl : k = 151 := by omega
                  exact jmo_151
              · rcases Nat.lt_or_ge k 153 with h | h
                · obtain rfl : k = 152 := by omega
                  exact jmo_152
                · obtain rfl : k = 153 := by omega
                  exact jmo_153
            · rcases Nat.lt_or_ge k 156 with h | h
              · rcases Nat.lt_or_ge k 155 with h | h
                · obtain rfl : k = 154 := by omega
                  exact jmo_154
                · obtain rfl : k = 155 := by omega
                  exact jmo_155
              · rcases Nat.lt_or_ge k 157 with h | h
                · obtain rfl : k = 156 := by omega
                  exact jmo_156
                · obtain rfl : k = 157 := by omega
                  exact jmo_157
          · rcases Nat.lt_or_ge k 162 with h | h
            · rcases Nat.lt_or_ge k 160 with h | h
              · rcases Nat.lt_or_ge k 159 with h | h
                · obtain rfl : k = 158 := by omega
                  exact jmo_158
                · obtain rfl : k = 159 := by omega
                  exact jmo_159
              · rcases Nat.lt_or_ge k 161 with h | h
                · obtain rfl : k = 160 := by omega
                  exact jmo_160
                · obtain rfl : k = 161 := by omega
                  exact jmo_161
            · rcases Nat.lt_or_ge k 164 with h | h
              · rcases Nat.lt_or_ge k 163 with h | h
                · obtain rfl : k = 162 := by omega
                  exact jmo_162
                · obtain rfl : k = 163 := by omega
                  exact jmo_163
              · rcases Nat.lt_or_ge k 165 with h | h
                · obtain rfl : k = 164 := by omega
                  exact jmo_164
                · rcases Nat.lt_or_ge k 166 with h | h
                  · obtain rfl : k = 165 := by omega
                    exact jmo_165
                  · obtain rfl : k = 166 := by omega
                    exact jmo_166
      · rcases Nat.lt_or_ge k 184 with h | h
        · rcases Nat.lt_or_ge k 175 with h | h
          · rcases Nat.lt_or_ge k 171 with h | h
            · rcases Nat.lt_or_ge k 169 with h | h
              · rcases Nat.lt_or_ge k 168 with h | h
                · obtain rfl : k = 167 := by omega
                  exact jmo_167
                · obtain rfl : k = 168 := by omega
                  exact jmo_168
              · rcases Nat.lt_or_ge k 170 with h | h
                · obtain rfl : k = 169 := by omega
                  exact jmo_169
                · obtain rfl : k = 170 := by omega
                  exact jmo_170
            · rcases Nat.lt_or_ge k 173 with h | h
              · rcases Nat.lt_or_ge k 172 with h | h
                · obtain rfl : k = 171 := by omega
                  exact jmo_171
                · obtain rfl : k = 172 := by omega
                  exact jmo_172
              · rcases Nat.lt_or_ge k 174 with h | h
                · obtain rfl : k = 173 := by omega
                  exact jmo_173
                · obtain rfl : k = 174 := by omega
                  exact jmo_174
          · rcases Nat.lt_or_ge k 179 with h | h
            · rcases Nat.lt_or_ge k 177 with h | h
              · rcases Nat.lt_or_ge k 176 with h | h
                · obtain rfl : k = 175 := by omega
                  exact jmo_175
                · obtain rfl : k = 176 := by omega
                  exact jmo_176
              · rcases Nat.lt_or_ge k 178 with h | h
                · obtain rfl : k = 177 := by omega
                  exact jmo_177
                · obtain rfl : k = 178 := by omega
                  exact jmo_178
            · rcases Nat.lt_or_ge k 181 with h | h
              · rcases Nat.lt_or_ge k 180 with h | h
                · obtain rfl : k = 179 := by omega
                  exact jmo_179
                · obtain rfl : k = 180 := by omega
                  exact jmo_180
              · rcases Nat.lt_or_ge k 182 with h | h
                · obtain rfl : k = 181 := by omega
                  exact jmo_181
                · rcases Nat.lt_or_ge k 183 with h | h
                  · obtain rfl : k = 182 := by omega
                    exact jmo_182
                  · obtain rfl : k = 183 := by omega
                    exact jmo_183
        · rcases Nat.lt_or_ge k 192 with h | h
          · rcases Nat.lt_or_ge k 188 with h | h
            · rcases Nat.lt_or_ge k 186 with h | h
              · rcases Nat.lt_or_ge k 185 with h | h
                · obtain rfl : k = 184 := by omega
                  exact jmo_184
                · obtain rfl : k = 185 := by omega
                  exact jmo_185
              · rcases Nat.lt_or_ge k 187 with h | h
                · obtain rfl : k = 186 := by omega
                  exact jmo_186
                · obtain rfl : k = 187 := by omega
                  exact jmo_187
            · rcases Nat.lt_or_ge k 190 with h | h
              · rcases Nat.lt_or_ge k 189 with h | h
                · obtain rfl : k = 188 := by omega
                  exact jmo_188
                · obtain rfl : k = 189 := by omega
                  exact jmo_189
              · rcases Nat.lt_or_ge k 191 with h | h
                · obtain rfl : k = 190 := by omega
                  exact jmo_190
                · obtain rfl : k = 191 := by omega
                  exact jmo_191
          · rcases Nat.lt_or_ge k 196 with h | h
            · rcases Nat.lt_or_ge k 194 with h | h
              · rcases Nat.lt_or_ge k 193 with h | h
                · obtain rfl : k = 192 := by omega
                  exact jmo_192
                · obtain rfl : k = 193 := by omega
                  exact jmo_193
              · rcases Nat.lt_or_ge k 195 with h | h
                · obtain rfl : k = 194 := by omega
                  exact jmo_194
                · obtain rfl : k = 195 := by omega
                  exact jmo_195
            · rcases Nat.lt_or_ge k 198 with h | h
              · rcases Nat.lt_or_ge k 197 with h | h
                · obtain rfl : k = 196 := by omega
                  exact jmo_196
                · obtain rfl : k = 197 := by omega
                  exact jmo_197
              · rcases Nat.lt_or_ge k 199 with h | h
                · obtain rfl : k = 198 := by omega
                  exact jmo_198
                · rcases Nat.lt_or_ge k 200 with h | h
                  · obtain rfl : k = 199 := by omega
                    exact jmo_199
                  · obtain rfl : k = 200 := by omega
                    exact jmo_200
    · rcases Nat.lt_or_ge k 235 with h | h
      · rcases Nat.lt_or_ge k 218 with h | h
        · rcases Nat.lt_or_ge k 209 with h | h
          · rcases Nat.lt_or_ge k 205 with h | h
            · rcases Nat.lt_or_ge k 203 with h | h
              · rcases Nat.lt_or_ge k 202 with h | h
                · obtain rfl : k = 201 := by omega
                  exact jmo_201
                · obtain rfl : k = 202 := by omega
                  exact jmo_202
              · rcases Nat.lt_or_ge k 204 with h | h
                · obtain rfl : k = 203 := by omega
                  exact jmo_203
                · obtain rfl : k = 204 := by omega
                  exact jmo_204
            · rcases Nat.lt_or_ge k 207 with h | h
              · rcases Nat.lt_or_ge k 206 with h | h
                · obtain rfl : k = 205 := by omega
                  exact jmo_205
                · obtain rfl : k = 206 := by omega
                  exact jmo_206
              · rcases Nat.lt_or_ge k 208 with h | h
                · obtain rfl : k = 207 := by omega
                  exact jmo_207
                · obtain rfl : k = 208 := by omega
                  exact jmo_208
          · rcases Nat.lt_or_ge k 213 with h | h
            · rcases Nat.lt_or_ge k 211 with h | h
              · rcases Nat.lt_or_ge k 210 with h | h
                · obtain rfl : k = 209 := by omega
                  exact jmo_209
                · obtain rfl : k = 210 := by omega
                  exact jmo_210
              · rcases Nat.lt_or_ge k 212 with h | h
                · obtain rfl : k = 211 := by omega
                  exact jmo_211
                · obtain rfl : k = 212 := by omega
                  exact jmo_212
            · rcases Nat.lt_or_ge k 215 with h | h
              · rcases Nat.lt_or_ge k 214 with h | h
                · obtain rfl : k = 213 := by omega
                  exact jmo_213
                · obtain rfl : k = 214 := by omega
                  exact jmo_214
              · rcases Nat.lt_or_ge k 216 with h | h
                · obtain rfl : k = 215 := by omega
                  exact jmo_215
                · rcases Nat.lt_or_ge k 217 with h | h
                  · obtain rfl : k = 216 := by omega
                    exact jmo_216
                  · obtain rfl : k = 217 := by omega
                    exact jmo_217
        · rcases Nat.lt_or_ge k 226 with h | h
          · rcases Nat.lt_or_ge k 222 with h | h
            · rcases Nat.lt_or_ge k 220 with h | h
              · rcases Nat.lt_or_ge k 219 with h | h
                · obtain rfl : k = 218 := by omega
                  exact jmo_218
                · obtain rfl : k = 219 := by omega
                  exact jmo_219
              · rcases Nat.lt_or_ge k 221 with h | h
                · obtain rfl : k = 220 := by omega
                  exact jmo_220
                · obtain rfl : k = 221 := by omega
                  exact jmo_221
            · rcases Nat.lt_or_ge k 224 with h | h
              · rcases Nat.lt_or_ge k 223 with h | h
                · obtain rfl : k = 222 := by omega
                  exact jmo_222
                · obtain rfl : k = 223 := by omega
                  exact jmo_223
              · rcases Nat.lt_or_ge k 225 with h | h
                · obtain rfl : k = 224 := by omega
                  exact jmo_224
                · obtain rfl : k = 225 := by omega
                  exact jmo_225
          · rcases Nat.lt_or_ge k 230 with h | h
            · rcases Nat.lt_or_ge k 228 with h | h
              · rcases Nat.lt_or_ge k 227 with h | h
                · obtain rfl : k = 226 := by omega
                  exact jmo_226
                · obtain rfl : k = 227 := by omega
                  exact jmo_227
              · rcases Nat.lt_or_ge k 229 with h | h
                · obtain rfl : k = 228 := by omega
                  exact jmo_228
                · obtain rfl : k = 229 := by omega
                  exact jmo_229
            · rcases Nat.lt_or_ge k 232 with h | h
              · rcases Nat.lt_or_ge k 231 with h | h
                · obtain rfl : k = 230 := by omega
                  exact jmo_230
                · obtain rfl : k = 231 := by omega
                  exact jmo_231
              · rcases Nat.lt_or_ge k 233 with h | h
                · obtain rfl : k = 232 := by omega
                  exact jmo_232
                · rcases Nat.lt_or_ge k 234 with h | h
                  · obtain rfl : k = 233 := by omega
                    exact jmo_233
                  · obtain rfl : k = 234 := by omega
                    exact jmo_234
      · rcases Nat.lt_or_ge k 252 with h | h
        · rcases Nat.lt_or_ge k 243 with h | h
          · rcases Nat.lt_or_ge k 239 with h | h
            · rcases Nat.lt_or_ge k 237 with h | h
              · rcases Nat.lt_or_ge k 236 with h | h
                · obtain rfl : k = 235 := by omega
                  exact jmo_235
                · obtain rfl : k = 236 := by omega
                  exact jmo_236
              · rcases Nat.lt_or_ge k 238 with h | h
                · obtain rfl : k = 237 := by omega
                  exact jmo_237
                · obtain rfl : k = 238 := by omega
                  exact jmo_238
            · rcases Nat.lt_or_ge k 241 with h | h
              · rcases Nat.lt_or_ge k 240 with h | h
                · obtain rfl : k = 239 := by omega
                  exact jmo_239
                · obtain rfl : k = 240 := by omega
                  exact jmo_240
              · rcases Nat.lt_or_ge k 242 with h | h
                · obtain rfl : k = 241 := by omega
                  exact jmo_241
                · obtain rfl : k = 242 := by omega
                  exact jmo_242
          · rcases Nat.lt_or_ge k 247 with h | h
            · rcases Nat.lt_or_ge k 245 with h | h
              · rcases Nat.lt_or_ge k 244 with h | h
                · obtain rfl : k = 243 := by omega
                  exact jmo_243
                · obtain rfl : k = 244 := by omega
                  exact jmo_244
              · rcases Nat.lt_or_ge k 246 with h | h
                · obtain rfl : k = 245 := by omega
                  exact jmo_245
                · obtain rfl : k = 246 := by omega
                  exact jmo_246
            · rcases Nat.lt_or_ge k 249 with h | h
              · rcases Nat.lt_or_ge k 248 with h | h
                · obtain rfl : k = 247 := by omega
                  exact jmo_247
                · obtain rfl : k = 248 := by omega
                  exact jmo_248
              · rcases Nat.lt_or_ge k 250 with h | h
                · obtain rfl : k = 249 := by omega
                  exact jmo_249
                · rcases Nat.lt_or_ge k 251 with h | h
                  · obtain rfl : k = 250 := by omega
                    exact jmo_250
                  · obtain rfl : k = 251 := by omega
                    exact jmo_251
        · rcases Nat.lt_or_ge k 260 with h | h
          · rcases Nat.lt_or_ge k 256 with h | h
            · rcases Nat.lt_or_ge k 254 with h | h
              · rcases Nat.lt_or_ge k 253 with h | h
                · obtain rfl : k = 252 := by omega
                  exact jmo_252
                · obtain rfl : k = 253 := by omega
                  exact jmo_253
              · rcases Nat.lt_or_ge k 255 with h | h
                · obtain rfl : k = 254 := by omega
                  exact jmo_254
                · obtain rfl : k = 255 := by omega
                  exact jmo_255
            · rcases Nat.lt_or_ge k 258 with h | h
              · rcases Nat.lt_or_ge k 257 with h | h
                · obtain rfl : k = 256 := by omega
                  exact jmo_256
                · obtain rfl : k = 257 := by omega
                  exact jmo_257
              · rcases Nat.lt_or_ge k 259 with h | h
                · obtain rfl : k = 258 := by omega
                  exact jmo_258
                · obtain rfl : k = 259 := by omega
                  exact jmo_259
          · rcases Nat.lt_or_ge k 264 with h | h
            · rcases Nat.lt_or_ge k 262 with h | h
              · rcases Nat.lt_or_ge k 261 with h | h
                · obtain rfl : k = 260 := by omega
                  exact jmo_260
                · obtain rfl : k = 261 := by omega
                  exact jmo_261
              · rcases Nat.lt_or_ge k 263 with h | h
                · obtain rfl : k = 262 := by omega
                  exact jmo_262
                · obtain rfl : k = 263 := by omega
                  exact jmo_263
            · rcases Nat.lt_or_ge k 266 with h | h
              · rcases Nat.lt_or_ge k 265 with h | h
                · obtain rfl : k = 264 := by omega
                  exact jmo_264
                · obtain rfl : k = 265 := by omega
                  exact jmo_265
              · rcases Nat.lt_or_ge k 267 with h | h
                · obtain rfl : k = 266 := by omega
                  exact jmo_266
                · rcases Nat.lt_or_ge k 268 with h | h
                  · obtain rfl : k = 267 := by omega
                    exact jmo_267
                  · obtain rfl : k = 268 := by omega
                    exact jmo_268
