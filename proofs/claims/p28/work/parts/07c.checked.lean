/-! the checks together (printed by wip/p28/gen2.py) -/
set_option maxRecDepth 100000 in
theorem jok_all : ∀ k, jokM k = true := by
  intro k
  rcases Nat.lt_or_ge k 146 with h0 | h0
  · have h00 := h0
    rcases Nat.lt_or_ge k 73 with h | h
    · rcases Nat.lt_or_ge k 36 with h | h
      · rcases Nat.lt_or_ge k 18 with h | h
        · rcases Nat.lt_or_ge k 9 with h | h
          · rcases Nat.lt_or_ge k 4 with h | h
            · rcases Nat.lt_or_ge k 2 with h | h
              · rcases Nat.lt_or_ge k 1 with h | h
                · obtain rfl : k = 0 := by omega
                  exact jok_0
                · obtain rfl : k = 1 := by omega
                  exact jok_1
              · rcases Nat.lt_or_ge k 3 with h | h
                · obtain rfl : k = 2 := by omega
                  exact jok_2
                · obtain rfl : k = 3 := by omega
                  exact jok_3
            · rcases Nat.lt_or_ge k 6 with h | h
              · rcases Nat.lt_or_ge k 5 with h | h
                · obtain rfl : k = 4 := by omega
                  exact jok_4
                · obtain rfl : k = 5 := by omega
                  exact jok_5
              · rcases Nat.lt_or_ge k 7 with h | h
                · obtain rfl : k = 6 := by omega
                  exact jok_6
                · rcases Nat.lt_or_ge k 8 with h | h
                  · obtain rfl : k = 7 := by omega
                    exact jok_7
                  · obtain rfl : k = 8 := by omega
                    exact jok_8
          · rcases Nat.lt_or_ge k 13 with h | h
            · rcases Nat.lt_or_ge k 11 with h | h
              · rcases Nat.lt_or_ge k 10 with h | h
                · obtain rfl : k = 9 := by omega
                  exact jok_9
                · obtain rfl : k = 10 := by omega
                  exact jok_10
              · rcases Nat.lt_or_ge k 12 with h | h
                · obtain rfl : k = 11 := by omega
                  exact jok_11
                · obtain rfl : k = 12 := by omega
                  exact jok_12
            · rcases Nat.lt_or_ge k 15 with h | h
              · rcases Nat.lt_or_ge k 14 with h | h
                · obtain rfl : k = 13 := by omega
                  exact jok_13
                · obtain rfl : k = 14 := by omega
                  exact jok_14
              · rcases Nat.lt_or_ge k 16 with h | h
                · obtain rfl : k = 15 := by omega
                  exact jok_15
                · rcases Nat.lt_or_ge k 17 with h | h
                  · obtain rfl : k = 16 := by omega
                    exact jok_16
                  · obtain rfl : k = 17 := by omega
                    exact jok_17
        · rcases Nat.lt_or_ge k 27 with h | h
          · rcases Nat.lt_or_ge k 22 with h | h
            · rcases Nat.lt_or_ge k 20 with h | h
              · rcases Nat.lt_or_ge k 19 with h | h
                · obtain rfl : k = 18 := by omega
                  exact jok_18
                · obtain rfl : k = 19 := by omega
                  exact jok_19
              · rcases Nat.lt_or_ge k 21 with h | h
                · obtain rfl : k = 20 := by omega
                  exact jok_20
                · obtain rfl : k = 21 := by omega
                  exact jok_21
            · rcases Nat.lt_or_ge k 24 with h | h
              · rcases Nat.lt_or_ge k 23 with h | h
                · obtain rfl : k = 22 := by omega
                  exact jok_22
                · obtain rfl : k = 23 := by omega
                  exact jok_23
              · rcases Nat.lt_or_ge k 25 with h | h
                · obtain rfl : k = 24 := by omega
                  exact jok_24
                · rcases Nat.lt_or_ge k 26 with h | h
                  · obtain rfl : k = 25 := by omega
                    exact jok_25
                  · obtain rfl : k = 26 := by omega
                    exact jok_26
          · rcases Nat.lt_or_ge k 31 with h | h
            · rcases Nat.lt_or_ge k 29 with h | h
              · rcases Nat.lt_or_ge k 28 with h | h
                · obtain rfl : k = 27 := by omega
                  exact jok_27
                · obtain rfl : k = 28 := by omega
                  exact jok_28
              · rcases Nat.lt_or_ge k 30 with h | h
                · obtain rfl : k = 29 := by omega
                  exact jok_29
                · obtain rfl : k = 30 := by omega
                  exact jok_30
            · rcases Nat.lt_or_ge k 33 with h | h
              · rcases Nat.lt_or_ge k 32 with h | h
                · obtain rfl : k = 31 := by omega
                  exact jok_31
                · obtain rfl : k = 32 := by omega
                  exact jok_32
              · rcases Nat.lt_or_ge k 34 with h | h
                · obtain rfl : k = 33 := by omega
                  exact jok_33
                · rcases Nat.lt_or_ge k 35 with h | h
                  · obtain rfl : k = 34 := by omega
                    exact jok_34
                  · obtain rfl : k = 35 := by omega
                    exact jok_35
      · rcases Nat.lt_or_ge k 54 with h | h
        · rcases Nat.lt_or_ge k 45 with h | h
          · rcases Nat.lt_or_ge k 40 with h | h
            · rcases Nat.lt_or_ge k 38 with h | h
              · rcases Nat.lt_or_ge k 37 with h | h
                · obtain rfl : k = 36 := by omega
                  exact jok_36
                · obtain rfl : k = 37 := by omega
                  exact jok_37
              · rcases Nat.lt_or_ge k 39 with h | h
                · obtain rfl : k = 38 := by omega
                  exact jok_38
                · obtain rfl : k = 39 := by omega
                  exact jok_39
            · rcases Nat.lt_or_ge k 42 with h | h
              · rcases Nat.lt_or_ge k 41 with h | h
                · obtain rfl : k = 40 := by omega
                  exact jok_40
                · obtain rfl : k = 41 := by omega
                  exact jok_41
              · rcases Nat.lt_or_ge k 43 with h | h
                · obtain rfl : k = 42 := by omega
                  exact jok_42
                · rcases Nat.lt_or_ge k 44 with h | h
                  · obtain rfl : k = 43 := by omega
                    exact jok_43
                  · obtain rfl : k = 44 := by omega
                    exact jok_44
          · rcases Nat.lt_or_ge k 49 with h | h
            · rcases Nat.lt_or_ge k 47 with h | h
              · rcases Nat.lt_or_ge k 46 with h | h
                · obtain rfl : k = 45 := by omega
                  exact jok_45
                · obtain rfl : k = 46 := by omega
                  exact jok_46
              · rcases Nat.lt_or_ge k 48 with h | h
                · obtain rfl : k = 47 := by omega
                  exact jok_47
                · obtain rfl : k = 48 := by omega
                  exact jok_48
            · rcases Nat.lt_or_ge k 51 with h | h
              · rcases Nat.lt_or_ge k 50 with h | h
                · obtain rfl : k = 49 := by omega
                  exact jok_49
                · obtain rfl : k = 50 := by omega
                  exact jok_50
              · rcases Nat.lt_or_ge k 52 with h | h
                · obtain rfl : k = 51 := by omega
                  exact jok_51
                · rcases Nat.lt_or_ge k 53 with h | h
                  · obtain rfl : k = 52 := by omega
                    exact jok_52
                  · obtain rfl : k = 53 := by omega
                    exact jok_53
        · rcases Nat.lt_or_ge k 63 with h | h
          · rcases Nat.lt_or_ge k 58 with h | h
            · rcases Nat.lt_or_ge k 56 with h | h
              · rcases Nat.lt_or_ge k 55 with h | h
                · obtain rfl : k = 54 := by omega
                  exact jok_54
                · obtain rfl : k = 55 := by omega
                  exact jok_55
              · rcases Nat.lt_or_ge k 57 with h | h
                · obtain rfl : k = 56 := by omega
                  exact jok_56
                · obtain rfl : k = 57 := by omega
                  exact jok_57
            · rcases Nat.lt_or_ge k 60 with h | h
              · rcases Nat.lt_or_ge k 59 with h | h
                · obtain rfl : k = 58 := by omega
                  exact jok_58
                · obtain rfl : k = 59 := by omega
                  exact jok_59
              · rcases Nat.lt_or_ge k 61 with h | h
                · obtain rfl : k = 60 := by omega
                  exact jok_60
                · rcases Nat.lt_or_ge k 62 with h | h
                  · obtain rfl : k = 61 := by omega
                    exact jok_61
                  · obtain rfl : k = 62 := by omega
                    exact jok_62
          · rcases Nat.lt_or_ge k 68 with h | h
            · rcases Nat.lt_or_ge k 65 with h | h
              · rcases Nat.lt_or_ge k 64 with h | h
                · obtain rfl : k = 63 := by omega
                  exact jok_63
                · obtain rfl : k = 64 := by omega
                  exact jok_64
              · rcases Nat.lt_or_ge k 66 with h | h
                · obtain rfl : k = 65 := by omega
                  exact jok_65
                · rcases Nat.lt_or_ge k 67 with h | h
                  · obtain rfl : k = 66 := by omega
                    exact jok_66
                  · obtain rfl : k = 67 := by omega
                    exact jok_67
            · rcases Nat.lt_or_ge k 70 with h | h
              · rcases Nat.lt_or_ge k 69 with h | h
                · obtain rfl : k = 68 := by omega
                  exact jok_68
                · obtain rfl : k = 69 := by omega
                  exact jok_69
              · rcases Nat.lt_or_ge k 71 with h | h
                · obtain rfl : k = 70 := by omega
                  exact jok_70
                · rcases Nat.lt_or_ge k 72 with h | h
                  · obtain rfl : k = 71 := by omega
                    exact jok_71
                  · obtain rfl : k = 72 := by omega
                    exact jok_72
    · rcases Nat.lt_or_ge k 109 with h | h
      · rcases Nat.lt_or_ge k 91 with h | h
        · rcases Nat.lt_or_ge k 82 with h | h
          · rcases Nat.lt_or_ge k 77 with h | h
            · rcases Nat.lt_or_ge k 75 with h | h
              · rcases Nat.lt_or_ge k 74 with h | h
                · obtain rfl : k = 73 := by omega
                  exact jok_73
                · obtain rfl : k = 74 := by omega
                  exact jok_74
              · rcases Nat.lt_or_ge k 76 with h | h
                · obtain rfl : k = 75 := by omega
                  exact jok_75
                · obtain rfl : k = 76 := by omega
                  exact jok_76
            · rcases Nat.lt_or_ge k 79 with h | h
              · rcases Nat.lt_or_ge k 78 with h | h
                · obtain rfl : k = 77 := by omega
                  exact jok_77
                · obtain rfl : k = 78 := by omega
                  exact jok_78
              · rcases Nat.lt_or_ge k 80 with h | h
                · obtain rfl : k = 79 := by omega
                  exact jok_79
                · rcases Nat.lt_or_ge k 81 with h | h
                  · obtain rfl : k = 80 := by omega
                    exact jok_80
                  · obtain rfl : k = 81 := by omega
                    exact jok_81
          · rcases Nat.lt_or_ge k 86 with h | h
            · rcases Nat.lt_or_ge k 84 with h | h
              · rcases Nat.lt_or_ge k 83 with h | h
                · obtain rfl : k = 82 := by omega
                  exact jok_82
                · obtain rfl : k = 83 := by omega
                  exact jok_83
              · rcases Nat.lt_or_ge k 85 with h | h
                · obtain rfl : k = 84 := by omega
                  exact jok_84
                · obtain rfl : k = 85 := by omega
                  exact jok_85
            · rcases Nat.lt_or_ge k 88 with h | h
              · rcases Nat.lt_or_ge k 87 with h | h
                · obtain rfl : k = 86 := by omega
                  exact jok_86
                · obtain rfl : k = 87 := by omega
                  exact jok_87
              · rcases Nat.lt_or_ge k 89 with h | h
                · obtain rfl : k = 88 := by omega
                  exact jok_88
                · rcases Nat.lt_or_ge k 90 with h | h
                  · obtain rfl : k = 89 := by omega
                    exact jok_89
                  · obtain rfl : k = 90 := by omega
                    exact jok_90
        · rcases Nat.lt_or_ge k 100 with h | h
          · rcases Nat.lt_or_ge k 95 with h | h
            · rcases Nat.lt_or_ge k 93 with h | h
              · rcases Nat.lt_or_ge k 92 with h | h
                · obtain rfl : k = 91 := by omega
                  exact jok_91
                · obtain rfl : k = 92 := by omega
                  exact jok_92
              · rcases Nat.lt_or_ge k 94 with h | h
                · obtain rfl : k = 93 := by omega
                  exact jok_93
                · obtain rfl : k = 94 := by omega
                  exact jok_94
            · rcases Nat.lt_or_ge k 97 with h | h
              · rcases Nat.lt_or_ge k 96 with h | h
                · obtain rfl : k = 95 := by omega
                  exact jok_95
                · obtain rfl : k = 96 := by omega
                  exact jok_96
              · rcases Nat.lt_or_ge k 98 with h | h
                · obtain rfl : k = 97 := by omega
                  exact jok_97
                · rcases Nat.lt_or_ge k 99 with h | h
                  · obtain rfl : k = 98 := by omega
                    exact jok_98
                  · obtain rfl : k = 99 := by omega
                    exact jok_99
          · rcases Nat.lt_or_ge k 104 with h | h
            · rcases Nat.lt_or_ge k 102 with h | h
              · rcases Nat.lt_or_ge k 101 with h | h
                · obtain rfl : k = 100 := by omega
                  exact jok_100
                · obtain rfl : k = 101 := by omega
                  exact jok_101
              · rcases Nat.lt_or_ge k 103 with h | h
                · obtain rfl : k = 102 := by omega
                  exact jok_102
                · obtain rfl : k = 103 := by omega
                  exact jok_103
            · rcases Nat.lt_or_ge k 106 with h | h
              · rcases Nat.lt_or_ge k 105 with h | h
                · obtain rfl : k = 104 := by omega
                  exact jok_104
                · obtain rfl : k = 105 := by omega
                  exact jok_105
              · rcases Nat.lt_or_ge k 107 with h | h
                · obtain rfl : k = 106 := by omega
                  exact jok_106
                · rcases Nat.lt_or_ge k 108 with h | h
                  · obtain rfl : k = 107 := by omega
                    exact jok_107
                  · obtain rfl : k = 108 := by omega
                    exact jok_108
      · rcases Nat.lt_or_ge k 127 with h | h
        · rcases Nat.lt_or_ge k 118 with h | h
          · rcases Nat.lt_or_ge k 113 with h | h
            · rcases Nat.lt_or_ge k 111 with h | h
              · rcases Nat.lt_or_ge k 110 with h | h
                · obtain rfl : k = 109 := by omega
                  exact jok_109
                · obtain rfl : k = 110 := by omega
                  exact jok_110
              · rcases Nat.lt_or_ge k 112 with h | h
                · obtain rfl : k = 111 := by omega
                  exact jok_111
                · obtain rfl : k = 112 := by omega
                  exact jok_112
            · rcases Nat.lt_or_ge k 115 with h | h
              · rcases Nat.lt_or_ge k 114 with h | h
                · obtain rfl : k = 113 := by omega
                  exact jok_113
                · obtain rfl : k = 114 := by omega
                  exact jok_114
              · rcases Nat.lt_or_ge k 116 with h | h
                · obtain rfl : k = 115 := by omega
                  exact jok_115
                · rcases Nat.lt_or_ge k 117 with h | h
                  · obtain rfl : k = 116 := by omega
                    exact jok_116
                  · obtain rfl : k = 117 := by omega
                    exact jok_117
          · rcases Nat.lt_or_ge k 122 with h | h
            · rcases Nat.lt_or_ge k 120 with h | h
              · rcases Nat.lt_or_ge k 119 with h | h
                · obtain rfl : k = 118 := by omega
                  exact jok_118
                · obtain rfl : k = 119 := by omega
                  exact jok_119
              · rcases Nat.lt_or_ge k 121 with h | h
                · obtain rfl : k = 120 := by omega
                  exact jok_120
                · obtain rfl : k = 121 := by omega
                  exact jok_121
            · rcases Nat.lt_or_ge k 124 with h | h
              · rcases Nat.lt_or_ge k 123 with h | h
                · obtain rfl : k = 122 := by omega
                  exact jok_122
                · obtain rfl : k = 123 := by omega
                  exact jok_123
              · rcases Nat.lt_or_ge k 125 with h | h
                · obtain rfl : k = 124 := by omega
                  exact jok_124
                · rcases Nat.lt_or_ge k 126 with h | h
                  · obtain rfl : k = 125 := by omega
                    exact jok_125
                  · obtain rfl : k = 126 := by omega
                    exact jok_126
        · rcases Nat.lt_or_ge k 136 with h | h
          · rcases Nat.lt_or_ge k 131 with h | h
            · rcases Nat.lt_or_ge k 129 with h | h
              · rcases Nat.lt_or_ge k 128 with h | h
                · obtain rfl : k = 127 := by omega
                  exact jok_127
                · obtain rfl : k = 128 := by omega
                  exact jok_128
              · rcases Nat.lt_or_ge k 130 with h | h
                · obtain rfl : k = 129 := by omega
                  exact jok_129
                · obtain rfl : k = 130 := by omega
                  exact jok_130
            · rcases Nat.lt_or_ge k 133 with h | h
              · rcases Nat.lt_or_ge k 132 with h | h
                · obtain rfl : k = 131 := by omega
                  exact jok_131
                · obtain rfl : k = 132 := by omega
                  exact jok_132
              · rcases Nat.lt_or_ge k 134 with h | h
                · obtain rfl : k = 133 := by omega
                  exact jok_133
                · rcases Nat.lt_or_ge k 135 with h | h
                  · obtain rfl : k = 134 := by omega
                    exact jok_134
                  · obtain rfl : k = 135 := by omega
                    exact jok_135
          · rcases Nat.lt_or_ge k 141 with h | h
            · rcases Nat.lt_or_ge k 138 with h | h
              · rcases Nat.lt_or_ge k 137 with h | h
                · obtain rfl : k = 136 := by omega
                  exact jok_136
                · obtain rfl : k = 137 := by omega
                  exact jok_137
              · rcases Nat.lt_or_ge k 139 with h | h
                · obtain rfl : k = 138 := by omega
                  exact jok_138
                · rcases Nat.lt_or_ge k 140 with h | h
                  · obtain rfl : k = 139 := by omega
                    exact jok_139
                  · obtain rfl : k = 140 := by omega
                    exact jok_140
            · rcases Nat.lt_or_ge k 143 with h | h
              · rcases Nat.lt_or_ge k 142 with h | h
                · obtain rfl : k = 141 := by omega
                  exact jok_141
                · obtain rfl : k = 142 := by omega
                  exact jok_142
              · rcases Nat.lt_or_ge k 144 with h | h
                · obtain rfl : k = 143 := by omega
                  exact jok_143
                · rcases Nat.lt_or_ge k 145 with h | h
                  · obtain rfl : k = 144 := by omega
                    exact jok_144
                  · obtain rfl : k = 145 := by omega
                    exact jok_145
  · have e : jTs[k]? = none := List.getElem?_eq_none (by rw [show jTs.length = 146 from rfl]; exact h0)
    unfold jokM
    rw [e]
set_option maxRecDepth 100000 in
theorem jmo_all : ∀ k, k < 145 → jmOK k := by
  intro k h0
  rcases Nat.lt_or_ge k 72 with h | h
  · rcases Nat.lt_or_ge k 36 with h | h
    · rcases Nat.lt_or_ge k 18 with h | h
      · rcases Nat.lt_or_ge k 9 with h | h
        · rcases Nat.lt_or_ge k 4 with h | h
          · rcases Nat.lt_or_ge k 2 with h | h
            · rcases Nat.lt_or_ge k 1 with h | h
              · obtain rfl : k = 0 := by omega
                exact jmo_0
              · obtain rfl : k = 1 := by omega
                exact jmo_1
            · rcases Nat.lt_or_ge k 3 with h | h
              · obtain rfl : k = 2 := by omega
                exact jmo_2
              · obtain rfl : k = 3 := by omega
                exact jmo_3
          · rcases Nat.lt_or_ge k 6 with h | h
            · rcases Nat.lt_or_ge k 5 with h | h
              · obtain rfl : k = 4 := by omega
                exact jmo_4
              · obtain rfl : k = 5 := by omega
                exact jmo_5
            · rcases Nat.lt_or_ge k 7 with h | h
              · obtain rfl : k = 6 := by omega
                exact jmo_6
              · rcases Nat.lt_or_ge k 8 with h | h
                · obtain rfl : k = 7 := by omega
                  exact jmo_7
                · obtain rfl : k = 8 := by omega
                  exact jmo_8
        · rcases Nat.lt_or_ge k 13 with h | h
          · rcases Nat.lt_or_ge k 11 with h | h
            · rcases Nat.lt_or_ge k 10 with h | h
              · obtain rfl : k = 9 := by omega
                exact jmo_9
              · obtain rfl : k = 10 := by omega
                exact jmo_10
            · rcases Nat.lt_or_ge k 12 with h | h
              · obtain rfl : k = 11 := by omega
                exact jmo_11
              · obtain rfl : k = 12 := by omega
                exact jmo_12
          · rcases Nat.lt_or_ge k 15 with h | h
            · rcases Nat.lt_or_ge k 14 with h | h
              · obtain rfl : k = 13 := by omega
                exact jmo_13
              · obtain rfl : k = 14 := by omega
                exact jmo_14
            · rcases Nat.lt_or_ge k 16 with h | h
              · obtain rfl : k = 15 := by omega
                exact jmo_15
              · rcases Nat.lt_or_ge k 17 with h | h
                · obtain rfl : k = 16 := by omega
                  exact jmo_16
                · obtain rfl : k = 17 := by omega
                  exact jmo_17
      · rcases Nat.lt_or_ge k 27 with h | h
        · rcases Nat.lt_or_ge k 22 with h | h
          · rcases Nat.lt_or_ge k 20 with h | h
            · rcases Nat.lt_or_ge k 19 with h | h
              · obtain rfl : k = 18 := by omega
                exact jmo_18
              · obtain rfl : k = 19 := by omega
                exact jmo_19
            · rcases Nat.lt_or_ge k 21 with h | h
              · obtain rfl : k = 20 := by omega
                exact jmo_20
              · obtain rfl : k = 21 := by omega
                exact jmo_21
          · rcases Nat.lt_or_ge k 24 with h | h
            · rcases Nat.lt_or_ge k 23 with h | h
              · obtain rfl : k = 22 := by omega
                exact jmo_22
              · obtain rfl : k = 23 := by omega
                exact jmo_23
            · rcases Nat.lt_or_ge k 25 with h | h
              · obtain rfl : k = 24 := by omega
                exact jmo_24
              · rcases Nat.lt_or_ge k 26 with h | h
                · obtain rfl : k = 25 := by omega
                  exact jmo_25
                · obtain rfl : k = 26 := by omega
                  exact jmo_26
        · rcases Nat.lt_or_ge k 31 with h | h
          · rcases Nat.lt_or_ge k 29 with h | h
            · rcases Nat.lt_or_ge k 28 with h | h
              · obtain rfl : k = 27 := by omega
                exact jmo_27
              · obtain rfl : k = 28 := by omega
                exact jmo_28
            · rcases Nat.lt_or_ge k 30 with h | h
              · obtain rfl : k = 29 := by omega
                exact jmo_29
              · obtain rfl : k = 30 := by omega
                exact jmo_30
          · rcases Nat.lt_or_ge k 33 with h | h
            · rcases Nat.lt_or_ge k 32 with h | h
              · obtain rfl : k = 31 := by omega
                exact jmo_31
              · obtain rfl : k = 32 := by omega
                exact jmo_32
            · rcases Nat.lt_or_ge k 34 with h | h
              · obtain rfl : k = 33 := by omega
                exact jmo_33
              · rcases Nat.lt_or_ge k 35 with h | h
                · obtain rfl : k = 34 := by omega
                  exact jmo_34
                · obtain rfl : k = 35 := by omega
                  exact jmo_35
    · rcases Nat.lt_or_ge k 54 with h | h
      · rcases Nat.lt_or_ge k 45 with h | h
        · rcases Nat.lt_or_ge k 40 with h | h
          · rcases Nat.lt_or_ge k 38 with h | h
            · rcases Nat.lt_or_ge k 37 with h | h
              · obtain rfl : k = 36 := by omega
                exact jmo_36
              · obtain rfl : k = 37 := by omega
                exact jmo_37
            · rcases Nat.lt_or_ge k 39 with h | h
              · obtain rfl : k = 38 := by omega
                exact jmo_38
              · obtain rfl : k = 39 := by omega
                exact jmo_39
          · rcases Nat.lt_or_ge k 42 with h | h
            · rcases Nat.lt_or_ge k 41 with h | h
              · obtain rfl : k = 40 := by omega
                exact jmo_40
              · obtain rfl : k = 41 := by omega
                exact jmo_41
            · rcases Nat.lt_or_ge k 43 with h | h
              · obtain rfl : k = 42 := by omega
                exact jmo_42
              · rcases Nat.lt_or_ge k 44 with h | h
                · obtain rfl : k = 43 := by omega
                  exact jmo_43
                · obtain rfl : k = 44 := by omega
                  exact jmo_44
        · rcases Nat.lt_or_ge k 49 with h | h
          · rcases Nat.lt_or_ge k 47 with h | h
            · rcases Nat.lt_or_ge k 46 with h | h
              · obtain rfl : k = 45 := by omega
                exact jmo_45
              · obtain rfl : k = 46 := by omega
                exact jmo_46
            · rcases Nat.lt_or_ge k 48 with h | h
              · obtain rfl : k = 47 := by omega
                exact jmo_47
              · obtain rfl : k = 48 := by omega
                exact jmo_48
          · rcases Nat.lt_or_ge k 51 with h | h
            · rcases Nat.lt_or_ge k 50 with h | h
              · obtain rfl : k = 49 := by omega
                exact jmo_49
              · obtain rfl : k = 50 := by omega
                exact jmo_50
            · rcases Nat.lt_or_ge k 52 with h | h
              · obtain rfl : k = 51 := by omega
                exact jmo_51
              · rcases Nat.lt_or_ge k 53 with h | h
                · obtain rfl : k = 52 := by omega
                  exact jmo_52
                · obtain rfl : k = 53 := by omega
                  exact jmo_53
      · rcases Nat.lt_or_ge k 63 with h | h
        · rcases Nat.lt_or_ge k 58 with h | h
          · rcases Nat.lt_or_ge k 56 with h | h
            · rcases Nat.lt_or_ge k 55 with h | h
              · obtain rfl : k = 54 := by omega
                exact jmo_54
              · obtain rfl : k = 55 := by omega
                exact jmo_55
            · rcases Nat.lt_or_ge k 57 with h | h
              · obtain rfl : k = 56 := by omega
                exact jmo_56
              · obtain rfl : k = 57 := by omega
                exact jmo_57
          · rcases Nat.lt_or_ge k 60 with h | h
            · rcases Nat.lt_or_ge k 59 with h | h
              · obtain rfl : k = 58 := by omega
                exact jmo_58
              · obtain rfl : k = 59 := by omega
                exact jmo_59
            · rcases Nat.lt_or_ge k 61 with h | h
              · obtain rfl : k = 60 := by omega
                exact jmo_60
              · rcases Nat.lt_or_ge k 62 with h | h
                · obtain rfl : k = 61 := by omega
                  exact jmo_61
                · obtain rfl : k = 62 := by omega
                  exact jmo_62
        · rcases Nat.lt_or_ge k 67 with h | h
          · rcases Nat.lt_or_ge k 65 with h | h
            · rcases Nat.lt_or_ge k 64 with h | h
              · obtain rfl : k = 63 := by omega
                exact jmo_63
              · obtain rfl : k = 64 := by omega
                exact jmo_64
            · rcases Nat.lt_or_ge k 66 with h | h
              · obtain rfl : k = 65 := by omega
                exact jmo_65
              · obtain rfl : k = 66 := by omega
                exact jmo_66
          · rcases Nat.lt_or_ge k 69 with h | h
            · rcases Nat.lt_or_ge k 68 with h | h
              · obtain rfl : k = 67 := by omega
                exact jmo_67
              · obtain rfl : k = 68 := by omega
                exact jmo_68
            · rcases Nat.lt_or_ge k 70 with h | h
              · obtain rfl : k = 69 := by omega
                exact jmo_69
              · rcases Nat.lt_or_ge k 71 with h | h
                · obtain rfl : k = 70 := by omega
                  exact jmo_70
                · obtain rfl : k = 71 := by omega
                  exact jmo_71
  · rcases Nat.lt_or_ge k 108 with h | h
    · rcases Nat.lt_or_ge k 90 with h | h
      · rcases Nat.lt_or_ge k 81 with h | h
        · rcases Nat.lt_or_ge k 76 with h | h
          · rcases Nat.lt_or_ge k 74 with h | h
            · rcases Nat.lt_or_ge k 73 with h | h
              · obtain rfl : k = 72 := by omega
                exact jmo_72
              · obtain rfl : k = 73 := by omega
                exact jmo_73
            · rcases Nat.lt_or_ge k 75 with h | h
              · obtain rfl : k = 74 := by omega
                exact jmo_74
              · obtain rfl : k = 75 := by omega
                exact jmo_75
          · rcases Nat.lt_or_ge k 78 with h | h
            · rcases Nat.lt_or_ge k 77 with h | h
              · obtain rfl : k = 76 := by omega
                exact jmo_76
              · obtain rfl : k = 77 := by omega
                exact jmo_77
            · rcases Nat.lt_or_ge k 79 with h | h
              · obtain rfl : k = 78 := by omega
                exact jmo_78
              · rcases Nat.lt_or_ge k 80 with h | h
                · obtain rfl : k = 79 := by omega
                  exact jmo_79
                · obtain rfl : k = 80 := by omega
                  exact jmo_80
        · rcases Nat.lt_or_ge k 85 with h | h
          · rcases Nat.lt_or_ge k 83 with h | h
            · rcases Nat.lt_or_ge k 82 with h | h
              · obtain rfl : k = 81 := by omega
                exact jmo_81
              · obtain rfl : k = 82 := by omega
                exact jmo_82
            · rcases Nat.lt_or_ge k 84 with h | h
              · obtain rfl : k = 83 := by omega
                exact jmo_83
              · obtain rfl : k = 84 := by omega
                exact jmo_84
          · rcases Nat.lt_or_ge k 87 with h | h
            · rcases Nat.lt_or_ge k 86 with h | h
              · obtain rfl : k = 85 := by omega
                exact jmo_85
              · obtain rfl : k = 86 := by omega
                exact jmo_86
            · rcases Nat.lt_or_ge k 88 with h | h
              · obtain rfl : k = 87 := by omega
                exact jmo_87
              · rcases Nat.lt_or_ge k 89 with h | h
                · obtain rfl : k = 88 := by omega
                  exact jmo_88
                · obtain rfl : k = 89 := by omega
                  exact jmo_89
      · rcases Nat.lt_or_ge k 99 with h | h
        · rcases Nat.lt_or_ge k 94 with h | h
          · rcases Nat.lt_or_ge k 92 with h | h
            · rcases Nat.lt_or_ge k 91 with h | h
              · obtain rfl : k = 90 := by omega
                exact jmo_90
              · obtain rfl : k = 91 := by omega
                exact jmo_91
            · rcases Nat.lt_or_ge k 93 with h | h
              · obtain rfl : k = 92 := by omega
                exact jmo_92
              · obtain rfl : k = 93 := by omega
                exact jmo_93
          · rcases Nat.lt_or_ge k 96 with h | h
            · rcases Nat.lt_or_ge k 95 with h | h
              · obtain rfl : k = 94 := by omega
                exact jmo_94
              · obtain rfl : k = 95 := by omega
                exact jmo_95
            · rcases Nat.lt_or_ge k 97 with h | h
              · obtain rfl : k = 96 := by omega
                exact jmo_96
              · rcases Nat.lt_or_ge k 98 with h | h
                · obtain rfl : k = 97 := by omega
                  exact jmo_97
                · obtain rfl : k = 98 := by omega
                  exact jmo_98
        · rcases Nat.lt_or_ge k 103 with h | h
          · rcases Nat.lt_or_ge k 101 with h | h
            · rcases Nat.lt_or_ge k 100 with h | h
              · obtain rfl : k = 99 := by omega
                exact jmo_99
              · obtain rfl : k = 100 := by omega
                exact jmo_100
            · rcases Nat.lt_or_ge k 102 with h | h
              · obtain rfl : k = 101 := by omega
                exact jmo_101
              · obtain rfl : k = 102 := by omega
                exact jmo_102
          · rcases Nat.lt_or_ge k 105 with h | h
            · rcases Nat.lt_or_ge k 104 with h | h
              · obtain rfl : k = 103 := by omega
                exact jmo_103
              · obtain rfl : k = 104 := by omega
                exact jmo_104
            · rcases Nat.lt_or_ge k 106 with h | h
              · obtain rfl : k = 105 := by omega
                exact jmo_105
              · rcases Nat.lt_or_ge k 107 with h | h
                · obtain rfl : k = 106 := by omega
                  exact jmo_106
                · obtain rfl : k = 107 := by omega
                  exact jmo_107
    · rcases Nat.lt_or_ge k 126 with h | h
      · rcases Nat.lt_or_ge k 117 with h | h
        · rcases Nat.lt_or_ge k 112 with h | h
          · rcases Nat.lt_or_ge k 110 with h | h
            · rcases Nat.lt_or_ge k 109 with h | h
              · obtain rfl : k = 108 := by omega
                exact jmo_108
              · obtain rfl : k = 109 := by omega
                exact jmo_109
            · rcases Nat.lt_or_ge k 111 with h | h
              · obtain rfl : k = 110 := by omega
                exact jmo_110
              · obtain rfl : k = 111 := by omega
                exact jmo_111
          · rcases Nat.lt_or_ge k 114 with h | h
            · rcases Nat.lt_or_ge k 113 with h | h
              · obtain rfl : k = 112 := by omega
                exact jmo_112
              · obtain rfl : k = 113 := by omega
                exact jmo_113
            · rcases Nat.lt_or_ge k 115 with h | h
              · obtain rfl : k = 114 := by omega
                exact jmo_114
              · rcases Nat.lt_or_ge k 116 with h | h
                · obtain rfl : k = 115 := by omega
                  exact jmo_115
                · obtain rfl : k = 116 := by omega
                  exact jmo_116
        · rcases Nat.lt_or_ge k 121 with h | h
          · rcases Nat.lt_or_ge k 119 with h | h
            · rcases Nat.lt_or_ge k 118 with h | h
              · obtain rfl : k = 117 := by omega
                exact jmo_117
              · obtain rfl : k = 118 := by omega
                exact jmo_118
            · rcases Nat.lt_or_ge k 120 with h | h
              · obtain rfl : k = 119 := by omega
                exact jmo_119
              · obtain rfl : k = 120 := by omega
                exact jmo_120
          · rcases Nat.lt_or_ge k 123 with h | h
            · rcases Nat.lt_or_ge k 122 with h | h
              · obtain rfl : k = 121 := by omega
                exact jmo_121
              · obtain rfl : k = 122 := by omega
                exact jmo_122
            · rcases Nat.lt_or_ge k 124 with h | h
              · obtain rfl : k = 123 := by omega
                exact jmo_123
              · rcases Nat.lt_or_ge k 125 with h | h
                · obtain rfl : k = 124 := by omega
                  exact jmo_124
                · obtain rfl : k = 125 := by omega
                  exact jmo_125
      · rcases Nat.lt_or_ge k 135 with h | h
        · rcases Nat.lt_or_ge k 130 with h | h
          · rcases Nat.lt_or_ge k 128 with h | h
            · rcases Nat.lt_or_ge k 127 with h | h
              · obtain rfl : k = 126 := by omega
                exact jmo_126
              · obtain rfl : k = 127 := by omega
                exact jmo_127
            · rcases Nat.lt_or_ge k 129 with h | h
              · obtain rfl : k = 128 := by omega
                exact jmo_128
              · obtain rfl : k = 129 := by omega
                exact jmo_129
          · rcases Nat.lt_or_ge k 132 with h | h
            · rcases Nat.lt_or_ge k 131 with h | h
              · obtain rfl : k = 130 := by omega
                exact jmo_130
              · obtain rfl : k = 131 := by omega
                exact jmo_131
            · rcases Nat.lt_or_ge k 133 with h | h
              · obtain rfl : k = 132 := by omega
                exact jmo_132
              · rcases Nat.lt_or_ge k 134 with h | h
                · obtain rfl : k = 133 := by omega
                  exact jmo_133
                · obtain rfl : k = 134 := by omega
                  exact jmo_134
        · rcases Nat.lt_or_ge k 140 with h | h
          · rcases Nat.lt_or_ge k 137 with h | h
            · rcases Nat.lt_or_ge k 136 with h | h
              · obtain rfl : k = 135 := by omega
                exact jmo_135
              · obtain rfl : k = 136 := by omega
                exact jmo_136
            · rcases Nat.lt_or_ge k 138 with h | h
              · obtain rfl : k = 137 := by omega
                exact jmo_137
              · rcases Nat.lt_or_ge k 139 with h | h
                · obtain rfl : k = 138 := by omega
                  exact jmo_138
                · obtain rfl : k = 139 := by omega
                  exact jmo_139
          · rcases Nat.lt_or_ge k 142 with h | h
            · rcases Nat.lt_or_ge k 141 with h | h
              · obtain rfl : k = 140 := by omega
                exact jmo_140
              · obtain rfl : k = 141 := by omega
                exact jmo_141
            · rcases Nat.lt_or_ge k 143 with h | h
              · obtain rfl : k = 142 := by omega
                exact jmo_142
              · rcases Nat.lt_or_ge k 144 with h | h
                · obtain rfl : k = 143 := by omega
                  exact jmo_143
                · obtain rfl : k = 144 := by omega
                  exact jmo_144
