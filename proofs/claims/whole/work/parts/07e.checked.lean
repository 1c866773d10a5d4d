theorem mjc_all (c : Nat) (h : c < 263) : mjChM c = true := by
  rcases Nat.lt_or_ge c 131 with h131 | h131
  · rcases Nat.lt_or_ge c 65 with h65 | h65
    · rcases Nat.lt_or_ge c 32 with h32 | h32
      · rcases Nat.lt_or_ge c 16 with h16 | h16
        · rcases Nat.lt_or_ge c 8 with h8 | h8
          · rcases Nat.lt_or_ge c 4 with h4 | h4
            · rcases Nat.lt_or_ge c 2 with h2 | h2
              · rcases Nat.lt_or_ge c 1 with h1 | h1
                · obtain rfl : c = 0 := by omega
                  exact mjc_0
                · obtain rfl : c = 1 := by omega
                  exact mjc_1
              · rcases Nat.lt_or_ge c 3 with h3 | h3
                · obtain rfl : c = 2 := by omega
                  exact mjc_2
                · obtain rfl : c = 3 := by omega
                  exact mjc_3
            · rcases Nat.lt_or_ge c 6 with h6 | h6
              · rcases Nat.lt_or_ge c 5 with h5 | h5
                · obtain rfl : c = 4 := by omega
                  exact mjc_4
                · obtain rfl : c = 5 := by omega
                  exact mjc_5
              · rcases Nat.lt_or_ge c 7 with h7 | h7
                · obtain rfl : c = 6 := by omega
                  exact mjc_6
                · obtain rfl : c = 7 := by omega
                  exact mjc_7
          · rcases Nat.lt_or_ge c 12 with h12 | h12
            · rcases Nat.lt_or_ge c 10 with h10 | h10
              · rcases Nat.lt_or_ge c 9 with h9 | h9
                · obtain rfl : c = 8 := by omega
                  exact mjc_8
                · obtain rfl : c = 9 := by omega
                  exact mjc_9
              · rcases Nat.lt_or_ge c 11 with h11 | h11
                · obtain rfl : c = 10 := by omega
                  exact mjc_10
                · obtain rfl : c = 11 := by omega
                  exact mjc_11
            · rcases Nat.lt_or_ge c 14 with h14 | h14
              · rcases Nat.lt_or_ge c 13 with h13 | h13
                · obtain rfl : c = 12 := by omega
                  exact mjc_12
                · obtain rfl : c = 13 := by omega
                  exact mjc_13
              · rcases Nat.lt_or_ge c 15 with h15 | h15
                · obtain rfl : c = 14 := by omega
                  exact mjc_14
                · obtain rfl : c = 15 := by omega
                  exact mjc_15
        · rcases Nat.lt_or_ge c 24 with h24 | h24
          · rcases Nat.lt_or_ge c 20 with h20 | h20
            · rcases Nat.lt_or_ge c 18 with h18 | h18
              · rcases Nat.lt_or_ge c 17 with h17 | h17
                · obtain rfl : c = 16 := by omega
                  exact mjc_16
                · obtain rfl : c = 17 := by omega
                  exact mjc_17
              · rcases Nat.lt_or_ge c 19 with h19 | h19
                · obtain rfl : c = 18 := by omega
                  exact mjc_18
                · obtain rfl : c = 19 := by omega
                  exact mjc_19
            · rcases Nat.lt_or_ge c 22 with h22 | h22
              · rcases Nat.lt_or_ge c 21 with h21 | h21
                · obtain rfl : c = 20 := by omega
                  exact mjc_20
                · obtain rfl : c = 21 := by omega
                  exact mjc_21
              · rcases Nat.lt_or_ge c 23 with h23 | h23
                · obtain rfl : c = 22 := by omega
                  exact mjc_22
                · obtain rfl : c = 23 := by omega
                  exact mjc_23
          · rcases Nat.lt_or_ge c 28 with h28 | h28
            · rcases Nat.lt_or_ge c 26 with h26 | h26
              · rcases Nat.lt_or_ge c 25 with h25 | h25
                · obtain rfl : c = 24 := by omega
                  exact mjc_24
                · obtain rfl : c = 25 := by omega
                  exact mjc_25
              · rcases Nat.lt_or_ge c 27 with h27 | h27
                · obtain rfl : c = 26 := by omega
                  exact mjc_26
                · obtain rfl : c = 27 := by omega
                  exact mjc_27
            · rcases Nat.lt_or_ge c 30 with h30 | h30
              · rcases Nat.lt_or_ge c 29 with h29 | h29
                · obtain rfl : c = 28 := by omega
                  exact mjc_28
                · obtain rfl : c = 29 := by omega
                  exact mjc_29
              · rcases Nat.lt_or_ge c 31 with h31 | h31
                · obtain rfl : c = 30 := by omega
                  exact mjc_30
                · obtain rfl : c = 31 := by omega
                  exact mjc_31
      · rcases Nat.lt_or_ge c 48 with h48 | h48
        · rcases Nat.lt_or_ge c 40 with h40 | h40
          · rcases Nat.lt_or_ge c 36 with h36 | h36
            · rcases Nat.lt_or_ge c 34 with h34 | h34
              · rcases Nat.lt_or_ge c 33 with h33 | h33
                · obtain rfl : c = 32 := by omega
                  exact mjc_32
                · obtain rfl : c = 33 := by omega
                  exact mjc_33
              · rcases Nat.lt_or_ge c 35 with h35 | h35
                · obtain rfl : c = 34 := by omega
                  exact mjc_34
                · obtain rfl : c = 35 := by omega
                  exact mjc_35
            · rcases Nat.lt_or_ge c 38 with h38 | h38
              · rcases Nat.lt_or_ge c 37 with h37 | h37
                · obtain rfl : c = 36 := by omega
                  exact mjc_36
                · obtain rfl : c = 37 := by omega
                  exact mjc_37
              · rcases Nat.lt_or_ge c 39 with h39 | h39
                · obtain rfl : c = 38 := by omega
                  exact mjc_38
                · obtain rfl : c = 39 := by omega
                  exact mjc_39
          · rcases Nat.lt_or_ge c 44 with h44 | h44
            · rcases Nat.lt_or_ge c 42 with h42 | h42
              · rcases Nat.lt_or_ge c 41 with h41 | h41
                · obtain rfl : c = 40 := by omega
                  exact mjc_40
                · obtain rfl : c = 41 := by omega
                  exact mjc_41
              · rcases Nat.lt_or_ge c 43 with h43 | h43
                · obtain rfl : c = 42 := by omega
                  exact mjc_42
                · obtain rfl : c = 43 := by omega
                  exact mjc_43
            · rcases Nat.lt_or_ge c 46 with h46 | h46
              · rcases Nat.lt_or_ge c 45 with h45 | h45
                · obtain rfl : c = 44 := by omega
                  exact mjc_44
                · obtain rfl : c = 45 := by omega
                  exact mjc_45
              · rcases Nat.lt_or_ge c 47 with h47 | h47
                · obtain rfl : c = 46 := by omega
                  exact mjc_46
                · obtain rfl : c = 47 := by omega
                  exact mjc_47
        · rcases Nat.lt_or_ge c 56 with h56 | h56
          · rcases Nat.lt_or_ge c 52 with h52 | h52
            · rcases Nat.lt_or_ge c 50 with h50 | h50
              · rcases Nat.lt_or_ge c 49 with h49 | h49
                · obtain rfl : c = 48 := by omega
                  exact mjc_48
                · obtain rfl : c = 49 := by omega
                  exact mjc_49
              · rcases Nat.lt_or_ge c 51 with h51 | h51
                · obtain rfl : c = 50 := by omega
                  exact mjc_50
                · obtain rfl : c = 51 := by omega
                  exact mjc_51
            · rcases Nat.lt_or_ge c 54 with h54 | h54
              · rcases Nat.lt_or_ge c 53 with h53 | h53
                · obtain rfl : c = 52 := by omega
                  exact mjc_52
                · obtain rfl : c = 53 := by omega
                  exact mjc_53
              · rcases Nat.lt_or_ge c 55 with h55 | h55
                · obtain rfl : c = 54 := by omega
                  exact mjc_54
                · obtain rfl : c = 55 := by omega
                  exact mjc_55
          · rcases Nat.lt_or_ge c 60 with h60 | h60
            · rcases Nat.lt_or_ge c 58 with h58 | h58
              · rcases Nat.lt_or_ge c 57 with h57 | h57
                · obtain rfl : c = 56 := by omega
                  exact mjc_56
                · obtain rfl : c = 57 := by omega
                  exact mjc_57
              · rcases Nat.lt_or_ge c 59 with h59 | h59
                · obtain rfl : c = 58 := by omega
                  exact mjc_58
                · obtain rfl : c = 59 := by omega
                  exact mjc_59
            · rcases Nat.lt_or_ge c 62 with h62 | h62
              · rcases Nat.lt_or_ge c 61 with h61 | h61
                · obtain rfl : c = 60 := by omega
                  exact mjc_60
                · obtain rfl : c = 61 := by omega
                  exact mjc_61
              · rcases Nat.lt_or_ge c 63 with h63 | h63
                · obtain rfl : c = 62 := by omega
                  exact mjc_62
                · rcases Nat.lt_or_ge c 64 with h64 | h64
                  · obtain rfl : c = 63 := by omega
                    exact mjc_63
                  · obtain rfl : c = 64 := by omega
                    exact mjc_64
    · rcases Nat.lt_or_ge c 98 with h98 | h98
      · rcases Nat.lt_or_ge c 81 with h81 | h81
        · rcases Nat.lt_or_ge c 73 with h73 | h73
          · rcases Nat.lt_or_ge c 69 with h69 | h69
            · rcases Nat.lt_or_ge c 67 with h67 | h67
              · rcases Nat.lt_or_ge c 66 with h66 | h66
                · obtain rfl : c = 65 := by omega
                  exact mjc_65
                · obtain rfl : c = 66 := by omega
                  exact mjc_66
              · rcases Nat.lt_or_ge c 68 with h68 | h68
                · obtain rfl : c = 67 := by omega
                  exact mjc_67
                · obtain rfl : c = 68 := by omega
                  exact mjc_68
            · rcases Nat.lt_or_ge c 71 with h71 | h71
              · rcases Nat.lt_or_ge c 70 with h70 | h70
                · obtain rfl : c = 69 := by omega
                  exact mjc_69
                · obtain rfl : c = 70 := by omega
                  exact mjc_70
              · rcases Nat.lt_or_ge c 72 with h72 | h72
                · obtain rfl : c = 71 := by omega
                  exact mjc_71
                · obtain rfl : c = 72 := by omega
                  exact mjc_72
          · rcases Nat.lt_or_ge c 77 with h77 | h77
            · rcases Nat.lt_or_ge c 75 with h75 | h75
              · rcases Nat.lt_or_ge c 74 with h74 | h74
                · obtain rfl : c = 73 := by omega
                  exact mjc_73
                · obtain rfl : c = 74 := by omega
                  exact mjc_74
              · rcases Nat.lt_or_ge c 76 with h76 | h76
                · obtain rfl : c = 75 := by omega
                  exact mjc_75
                · obtain rfl : c = 76 := by omega
                  exact mjc_76
            · rcases Nat.lt_or_ge c 79 with h79 | h79
              · rcases Nat.lt_or_ge c 78 with h78 | h78
                · obtain rfl : c = 77 := by omega
                  exact mjc_77
                · obtain rfl : c = 78 := by omega
                  exact mjc_78
              · rcases Nat.lt_or_ge c 80 with h80 | h80
                · obtain rfl : c = 79 := by omega
                  exact mjc_79
                · obtain rfl : c = 80 := by omega
                  exact mjc_80
        · rcases Nat.lt_or_ge c 89 with h89 | h89
          · rcases Nat.lt_or_ge c 85 with h85 | h85
            · rcases Nat.lt_or_ge c 83 with h83 | h83
              · rcases Nat.lt_or_ge c 82 with h82 | h82
                · obtain rfl : c = 81 := by omega
                  exact mjc_81
                · obtain rfl : c = 82 := by omega
                  exact mjc_82
              · rcases Nat.lt_or_ge c 84 with h84 | h84
                · obtain rfl : c = 83 := by omega
                  exact mjc_83
                · obtain rfl : c = 84 := by omega
                  exact mjc_84
            · rcases Nat.lt_or_ge c 87 with h87 | h87
              · rcases Nat.lt_or_ge c 86 with h86 | h86
                · obtain rfl : c = 85 := by omega
                  exact mjc_85
                · obtain rfl : c = 86 := by omega
                  exact mjc_86
              · rcases Nat.lt_or_ge c 88 with h88 | h88
                · obtain rfl : c = 87 := by omega
                  exact mjc_87
                · obtain rfl : c = 88 := by omega
                  exact mjc_88
          · rcases Nat.lt_or_ge c 93 with h93 | h93
            · rcases Nat.lt_or_ge c 91 with h91 | h91
              · rcases Nat.lt_or_ge c 90 with h90 | h90
                · obtain rfl : c = 89 := by omega
                  exact mjc_89
                · obtain rfl : c = 90 := by omega
                  exact mjc_90
              · rcases Nat.lt_or_ge c 92 with h92 | h92
                · obtain rfl : c = 91 := by omega
                  exact mjc_91
                · obtain rfl : c = 92 := by omega
                  exact mjc_92
            · rcases Nat.lt_or_ge c 95 with h95 | h95
              · rcases Nat.lt_or_ge c 94 with h94 | h94
                · obtain rfl : c = 93 := by omega
                  exact mjc_93
                · obtain rfl : c = 94 := by omega
                  exact mjc_94
              · rcases Nat.lt_or_ge c 96 with h96 | h96
                · obtain rfl : c = 95 := by omega
                  exact mjc_95
                · rcases Nat.lt_or_ge c 97 with h97 | h97
                  · obtain rfl : c = 96 := by omega
                    exact mjc_96
                  · obtain rfl : c = 97 := by omega
                    exact mjc_97
      · rcases Nat.lt_or_ge c 114 with h114 | h114
        · rcases Nat.lt_or_ge c 106 with h106 | h106
          · rcases Nat.lt_or_ge c 102 with h102 | h102
            · rcases Nat.lt_or_ge c 100 with h100 | h100
              · rcases Nat.lt_or_ge c 99 with h99 | h99
                · obtain rfl : c = 98 := by omega
                  exact mjc_98
                · obtain rfl : c = 99 := by omega
                  exact mjc_99
              · rcases Nat.lt_or_ge c 101 with h101 | h101
                · obtain rfl : c = 100 := by omega
                  exact mjc_100
                · obtain rfl : c = 101 := by omega
                  exact mjc_101
            · rcases Nat.lt_or_ge c 104 with h104 | h104
              · rcases Nat.lt_or_ge c 103 with h103 | h103
                · obtain rfl : c = 102 := by omega
                  exact mjc_102
                · obtain rfl : c = 103 := by omega
                  exact mjc_103
              · rcases Nat.lt_or_ge c 105 with h105 | h105
                · obtain rfl : c = 104 := by omega
                  exact mjc_104
                · obtain rfl : c = 105 := by omega
                  exact mjc_105
          · rcases Nat.lt_or_ge c 110 with h110 | h110
            · rcases Nat.lt_or_ge c 108 with h108 | h108
              · rcases Nat.lt_or_ge c 107 with h107 | h107
                · obtain rfl : c = 106 := by omega
                  exact mjc_106
                · obtain rfl : c = 107 := by omega
                  exact mjc_107
              · rcases Nat.lt_or_ge c 109 with h109 | h109
                · obtain rfl : c = 108 := by omega
                  exact mjc_108
                · obtain rfl : c = 109 := by omega
                  exact mjc_109
            · rcases Nat.lt_or_ge c 112 with h112 | h112
              · rcases Nat.lt_or_ge c 111 with h111 | h111
                · obtain rfl : c = 110 := by omega
                  exact mjc_110
                · obtain rfl : c = 111 := by omega
                  exact mjc_111
              · rcases Nat.lt_or_ge c 113 with h113 | h113
                · obtain rfl : c = 112 := by omega
                  exact mjc_112
                · obtain rfl : c = 113 := by omega
                  exact mjc_113
        · rcases Nat.lt_or_ge c 122 with h122 | h122
          · rcases Nat.lt_or_ge c 118 with h118 | h118
            · rcases Nat.lt_or_ge c 116 with h116 | h116
              · rcases Nat.lt_or_ge c 115 with h115 | h115
                · obtain rfl : c = 114 := by omega
                  exact mjc_114
                · obtain rfl : c = 115 := by omega
                  exact mjc_115
              · rcases Nat.lt_or_ge c 117 with h117 | h117
                · obtain rfl : c = 116 := by omega
                  exact mjc_116
                · obtain rfl : c = 117 := by omega
                  exact mjc_117
            · rcases Nat.lt_or_ge c 120 with h120 | h120
              · rcases Nat.lt_or_ge c 119 with h119 | h119
                · obtain rfl : c = 118 := by omega
                  exact mjc_118
                · obtain rfl : c = 119 := by omega
                  exact mjc_119
              · rcases Nat.lt_or_ge c 121 with h121 | h121
                · obtain rfl : c = 120 := by omega
                  exact mjc_120
                · obtain rfl : c = 121 := by omega
                  exact mjc_121
          · rcases Nat.lt_or_ge c 126 with h126 | h126
            · rcases Nat.lt_or_ge c 124 with h124 | h124
              · rcases Nat.lt_or_ge c 123 with h123 | h123
                · obtain rfl : c = 122 := by omega
                  exact mjc_122
                · obtain rfl : c = 123 := by omega
                  exact mjc_123
              · rcases Nat.lt_or_ge c 125 with h125 | h125
                · obtain rfl : c = 124 := by omega
                  exact mjc_124
                · obtain rfl : c = 125 := by omega
                  exact mjc_125
            · rcases Nat.lt_or_ge c 128 with h128 | h128
              · rcases Nat.lt_or_ge c 127 with h127 | h127
                · obtain rfl : c = 126 := by omega
                  exact mjc_126
                · obtain rfl : c = 127 := by omega
                  exact mjc_127
              · rcases Nat.lt_or_ge c 129 with h129 | h129
                · obtain rfl : c = 128 := by omega
                  exact mjc_128
                · rcases Nat.lt_or_ge c 130 with h130 | h130
                  · obtain rfl : c = 129 := by omega
                    exact mjc_129
                  · obtain rfl : c = 130 := by omega
                    exact mjc_130
  · rcases Nat.lt_or_ge c 197 with h197 | h197
    · rcases Nat.lt_or_ge c 164 with h164 | h164
      · rcases Nat.lt_or_ge c 147 with h147 | h147
        · rcases Nat.lt_or_ge c 139 with h139 | h139
          · rcases Nat.lt_or_ge c 135 with h135 | h135
            · rcases Nat.lt_or_ge c 133 with h133 | h133
              · rcases Nat.lt_or_ge c 132 with h132 | h132
                · obtain rfl : c = 131 := by omega
                  exact mjc_131
                · obtain rfl : c = 132 := by omega
                  exact mjc_132
              · rcases Nat.lt_or_ge c 134 with h134 | h134
                · obtain rfl : c = 133 := by omega
                  exact mjc_133
                · obtain rfl : c = 134 := by omega
                  exact mjc_134
            · rcases Nat.lt_or_ge c 137 with h137 | h137
              · rcases Nat.lt_or_ge c 136 with h136 | h136
                · obtain rfl : c = 135 := by omega
                  exact mjc_135
                · obtain rfl : c = 136 := by omega
                  exact mjc_136
              · rcases Nat.lt_or_ge c 138 with h138 | h138
                · obtain rfl : c = 137 := by omega
                  exact mjc_137
                · obtain rfl : c = 138 := by omega
                  exact mjc_138
          · rcases Nat.lt_or_ge c 143 with h143 | h143
            · rcases Nat.lt_or_ge c 141 with h141 | h141
              · rcases Nat.lt_or_ge c 140 with h140 | h140
                · obtain rfl : c = 139 := by omega
                  exact mjc_139
                · obtain rfl : c = 140 := by omega
                  exact mjc_140
              · rcases Nat.lt_or_ge c 142 with h142 | h142
                · obtain rfl : c = 141 := by omega
                  exact mjc_141
                · obtain rfl : c = 142 := by omega
                  exact mjc_142
            · rcases Nat.lt_or_ge c 145 with h145 | h145
              · rcases Nat.lt_or_ge c 144 with h144 | h144
                · obtain rfl : c = 143 := by omega
                  exact mjc_143
                · obtain rfl : c = 144 := by omega
                  exact mjc_144
              · rcases Nat.lt_or_ge c 146 with h146 | h146
                · obtain rfl : c = 145 := by omega
                  exact mjc_145
                · obtain rfl : c = 146 := by omega
                  exact mjc_146
        · rcases Nat.lt_or_ge c 155 with h155 | h155
          · rcases Nat.lt_or_ge c 151 with h151 | h151
            · rcases Nat.lt_or_ge c 149 with h149 | h149
              · rcases Nat.lt_or_ge c 148 with h148 | h148
                · obtain rfl : c = 147 := by omega
                  exact mjc_147
                · obtain rfl : c = 148 := by omega
                  exact mjc_148
              · rcases Nat.lt_or_ge c 150 with h150 | h150
                · obtain rfl : c = 149 := by omega
                  exact mjc_149
                · obtain rfl : c = 150 := by omega
                  exact mjc_150
            · rcases Nat.lt_or_ge c 153 with h153 | h153
              · rcases Nat.lt_or_ge c 152 with h152 | h152
                · obtain rfl : c = 151 := by omega
                  exact mjc_151
                · obtain rfl : c = 152 := by omega
                  exact mjc_152
              · rcases Nat.lt_or_ge c 154 with h154 | h154
                · obtain rfl : c = 153 := by omega
                  exact mjc_153
                · obtain rfl : c = 154 := by omega
                  exact mjc_154
          · rcases Nat.lt_or_ge c 159 with h159 | h159
            · rcases Nat.lt_or_ge c 157 with h157 | h157
              · rcases Nat.lt_or_ge c 156 with h156 | h156
                · obtain rfl : c = 155 := by omega
                  exact mjc_155
                · obtain rfl : c = 156 := by omega
                  exact mjc_156
              · rcases Nat.lt_or_ge c 158 with h158 | h158
                · obtain rfl : c = 157 := by omega
                  exact mjc_157
                · obtain rfl : c = 158 := by omega
                  exact mjc_158
            · rcases Nat.lt_or_ge c 161 with h161 | h161
              · rcases Nat.lt_or_ge c 160 with h160 | h160
                · obtain rfl : c = 159 := by omega
                  exact mjc_159
                · obtain rfl : c = 160 := by omega
                  exact mjc_160
              · rcases Nat.lt_or_ge c 162 with h162 | h162
                · obtain rfl : c = 161 := by omega
                  exact mjc_161
                · rcases Nat.lt_or_ge c 163 with h163 | h163
                  · obtain rfl : c = 162 := by omega
                    exact mjc_162
                  · obtain rfl : c = 163 := by omega
                    exact mjc_163
      · rcases Nat.lt_or_ge c 180 with h180 | h180
        · rcases Nat.lt_or_ge c 172 with h172 | h172
          · rcases Nat.lt_or_ge c 168 with h168 | h168
            · rcases Nat.lt_or_ge c 166 with h166 | h166
              · rcases Nat.lt_or_ge c 165 with h165 | h165
                · obtain rfl : c = 164 := by omega
                  exact mjc_164
                · obtain rfl : c = 165 := by omega
                  exact mjc_165
              · rcases Nat.lt_or_ge c 167 with h167 | h167
                · obtain rfl : c = 166 := by omega
                  exact mjc_166
                · obtain rfl : c = 167 := by omega
                  exact mjc_167
            · rcases Nat.lt_or_ge c 170 with h170 | h170
              · rcases Nat.lt_or_ge c 169 with h169 | h169
                · obtain rfl : c = 168 := by omega
                  exact mjc_168
                · obtain rfl : c = 169 := by omega
                  exact mjc_169
              · rcases Nat.lt_or_ge c 171 with h171 | h171
                · obtain rfl : c = 170 := by omega
                  exact mjc_170
                · obtain rfl : c = 171 := by omega
                  exact mjc_171
          · rcases Nat.lt_or_ge c 176 with h176 | h176
            · rcases Nat.lt_or_ge c 174 with h174 | h174
              · rcases Nat.lt_or_ge c 173 with h173 | h173
                · obtain rfl : c = 172 := by omega
                  exact mjc_172
                · obtain rfl : c = 173 := by omega
                  exact mjc_173
              · rcases Nat.lt_or_ge c 175 with h175 | h175
                · obtain rfl : c = 174 := by omega
                  exact mjc_174
                · obtain rfl : c = 175 := by omega
                  exact mjc_175
            · rcases Nat.lt_or_ge c 178 with h178 | h178
              · rcases Nat.lt_or_ge c 177 with h177 | h177
                · obtain rfl : c = 176 := by omega
                  exact mjc_176
                · obtain rfl : c = 177 := by omega
                  exact mjc_177
              · rcases Nat.lt_or_ge c 179 with h179 | h179
                · obtain rfl : c = 178 := by omega
                  exact mjc_178
                · obtain rfl : c = 179 := by omega
                  exact mjc_179
        · rcases Nat.lt_or_ge c 188 with h188 | h188
          · rcases Nat.lt_or_ge c 184 with h184 | h184
            · rcases Nat.lt_or_ge c 182 with h182 | h182
              · rcases Nat.lt_or_ge c 181 with h181 | h181
                · obtain rfl : c = 180 := by omega
                  exact mjc_180
                · obtain rfl : c = 181 := by omega
                  exact mjc_181
              · rcases Nat.lt_or_ge c 183 with h183 | h183
                · obtain rfl : c = 182 := by omega
                  exact mjc_182
                · obtain rfl : c = 183 := by omega
                  exact mjc_183
            · rcases Nat.lt_or_ge c 186 with h186 | h186
              · rcases Nat.lt_or_ge c 185 with h185 | h185
                · obtain rfl : c = 184 := by omega
                  exact mjc_184
                · obtain rfl : c = 185 := by omega
                  exact mjc_185
              · rcases Nat.lt_or_ge c 187 with h187 | h187
                · obtain rfl : c = 186 := by omega
                  exact mjc_186
                · obtain rfl : c = 187 := by omega
                  exact mjc_187
          · rcases Nat.lt_or_ge c 192 with h192 | h192
            · rcases Nat.lt_or_ge c 190 with h190 | h190
              · rcases Nat.lt_or_ge c 189 with h189 | h189
                · obtain rfl : c = 188 := by omega
                  exact mjc_188
                · obtain rfl : c = 189 := by omega
                  exact mjc_189
              · rcases Nat.lt_or_ge c 191 with h191 | h191
                · obtain rfl : c = 190 := by omega
                  exact mjc_190
                · obtain rfl : c = 191 := by omega
                  exact mjc_191
            · rcases Nat.lt_or_ge c 194 with h194 | h194
              · rcases Nat.lt_or_ge c 193 with h193 | h193
                · obtain rfl : c = 192 := by omega
                  exact mjc_192
                · obtain rfl : c = 193 := by omega
                  exact mjc_193
              · rcases Nat.lt_or_ge c 195 with h195 | h195
                · obtain rfl : c = 194 := by omega
                  exact mjc_194
                · rcases Nat.lt_or_ge c 196 with h196 | h196
                  · obtain rfl : c = 195 := by omega
                    exact mjc_195
                  · obtain rfl : c = 196 := by omega
                    exact mjc_196
    · rcases Nat.lt_or_ge c 230 with h230 | h230
      · rcases Nat.lt_or_ge c 213 with h213 | h213
        · rcases Nat.lt_or_ge c 205 with h205 | h205
          · rcases Nat.lt_or_ge c 201 with h201 | h201
            · rcases Nat.lt_or_ge c 199 with h199 | h199
              · rcases Nat.lt_or_ge c 198 with h198 | h198
                · obtain rfl : c = 197 := by omega
                  exact mjc_197
                · obtain rfl : c = 198 := by omega
                  exact mjc_198
              · rcases Nat.lt_or_ge c 200 with h200 | h200
                · obtain rfl : c = 199 := by omega
                  exact mjc_199
                · obtain rfl : c = 200 := by omega
                  exact mjc_200
            · rcases Nat.lt_or_ge c 203 with h203 | h203
              · rcases Nat.lt_or_ge c 202 with h202 | h202
                · obtain rfl : c = 201 := by omega
                  exact mjc_201
                · obtain rfl : c = 202 := by omega
                  exact mjc_202
              · rcases Nat.lt_or_ge c 204 with h204 | h204
                · obtain rfl : c = 203 := by omega
                  exact mjc_203
                · obtain rfl : c = 204 := by omega
                  exact mjc_204
          · rcases Nat.lt_or_ge c 209 with h209 | h209
            · rcases Nat.lt_or_ge c 207 with h207 | h207
              · rcases Nat.lt_or_ge c 206 with h206 | h206
                · obtain rfl : c = 205 := by omega
                  exact mjc_205
                · obtain rfl : c = 206 := by omega
                  exact mjc_206
              · rcases Nat.lt_or_ge c 208 with h208 | h208
                · obtain rfl : c = 207 := by omega
                  exact mjc_207
                · obtain rfl : c = 208 := by omega
                  exact mjc_208
            · rcases Nat.lt_or_ge c 211 with h211 | h211
              · rcases Nat.lt_or_ge c 210 with h210 | h210
                · obtain rfl : c = 209 := by omega
                  exact mjc_209
                · obtain rfl : c = 210 := by omega
                  exact mjc_210
              · rcases Nat.lt_or_ge c 212 with h212 | h212
                · obtain rfl : c = 211 := by omega
                  exact mjc_211
                · obtain rfl : c = 212 := by omega
                  exact mjc_212
        · rcases Nat.lt_or_ge c 221 with h221 | h221
          · rcases Nat.lt_or_ge c 217 with h217 | h217
            · rcases Nat.lt_or_ge c 215 with h215 | h215
              · rcases Nat.lt_or_ge c 214 with h214 | h214
                · obtain rfl : c = 213 := by omega
                  exact mjc_213
                · obtain rfl : c = 214 := by omega
                  exact mjc_214
              · rcases Nat.lt_or_ge c 216 with h216 | h216
                · obtain rfl : c = 215 := by omega
                  exact mjc_215
                · obtain rfl : c = 216 := by omega
                  exact mjc_216
            · rcases Nat.lt_or_ge c 219 with h219 | h219
              · rcases Nat.lt_or_ge c 218 with h218 | h218
                · obtain rfl : c = 217 := by omega
                  exact mjc_217
                · obtain rfl : c = 218 := by omega
                  exact mjc_218
              · rcases Nat.lt_or_ge c 220 with h220 | h220
                · obtain rfl : c = 219 := by omega
                  exact mjc_219
                · obtain rfl : c = 220 := by omega
                  exact mjc_220
          · rcases Nat.lt_or_ge c 225 with h225 | h225
            · rcases Nat.lt_or_ge c 223 with h223 | h223
              · rcases Nat.lt_or_ge c 222 with h222 | h222
                · obtain rfl : c = 221 := by omega
                  exact mjc_221
                · obtain rfl : c = 222 := by omega
                  exact mjc_222
              · rcases Nat.lt_or_ge c 224 with h224 | h224
                · obtain rfl : c = 223 := by omega
                  exact mjc_223
                · obtain rfl : c = 224 := by omega
                  exact mjc_224
            · rcases Nat.lt_or_ge c 227 with h227 | h227
              · rcases Nat.lt_or_ge c 226 with h226 | h226
                · obtain rfl : c = 225 := by omega
                  exact mjc_225
                · obtain rfl : c = 226 := by omega
                  exact mjc_226
              · rcases Nat.lt_or_ge c 228 with h228 | h228
                · obtain rfl : c = 227 := by omega
                  exact mjc_227
                · rcases Nat.lt_or_ge c 229 with h229 | h229
                  · obtain rfl : c = 228 := by omega
                    exact mjc_228
                  · obtain rfl : c = 229 := by omega
                    exact mjc_229
      · rcases Nat.lt_or_ge c 246 with h246 | h246
        · rcases Nat.lt_or_ge c 238 with h238 | h238
          · rcases Nat.lt_or_ge c 234 with h234 | h234
            · rcases Nat.lt_or_ge c 232 with h232 | h232
              · rcases Nat.lt_or_ge c 231 with h231 | h231
                · obtain rfl : c = 230 := by omega
                  exact mjc_230
                · obtain rfl : c = 231 := by omega
                  exact mjc_231
              · rcases Nat.lt_or_ge c 233 with h233 | h233
                · obtain rfl : c = 232 := by omega
                  exact mjc_232
                · obtain rfl : c = 233 := by omega
                  exact mjc_233
            · rcases Nat.lt_or_ge c 236 with h236 | h236
              · rcases Nat.lt_or_ge c 235 with h235 | h235
                · obtain rfl : c = 234 := by omega
                  exact mjc_234
                · obtain rfl : c = 235 := by omega
                  exact mjc_235
              · rcases Nat.lt_or_ge c 237 with h237 | h237
                · obtain rfl : c = 236 := by omega
                  exact mjc_236
                · obtain rfl : c = 237 := by omega
                  exact mjc_237
          · rcases Nat.lt_or_ge c 242 with h242 | h242
            · rcases Nat.lt_or_ge c 240 with h240 | h240
              · rcases Nat.lt_or_ge c 239 with h239 | h239
                · obtain rfl : c = 238 := by omega
                  exact mjc_238
                · obtain rfl : c = 239 := by omega
                  exact mjc_239
              · rcases Nat.lt_or_ge c 241 with h241 | h241
                · obtain rfl : c = 240 := by omega
                  exact mjc_240
                · obtain rfl : c = 241 := by omega
                  exact mjc_241
            · rcases Nat.lt_or_ge c 244 with h244 | h244
              · rcases Nat.lt_or_ge c 243 with h243 | h243
                · obtain rfl : c = 242 := by omega
                  exact mjc_242
                · obtain rfl : c = 243 := by omega
                  exact mjc_243
              · rcases Nat.lt_or_ge c 245 with h245 | h245
                · obtain rfl : c = 244 := by omega
                  exact mjc_244
                · obtain rfl : c = 245 := by omega
                  exact mjc_245
        · rcases Nat.lt_or_ge c 254 with h254 | h254
          · rcases Nat.lt_or_ge c 250 with h250 | h250
            · rcases Nat.lt_or_ge c 248 with h248 | h248
              · rcases Nat.lt_or_ge c 247 with h247 | h247
                · obtain rfl : c = 246 := by omega
                  exact mjc_246
                · obtain rfl : c = 247 := by omega
                  exact mjc_247
              · rcases Nat.lt_or_ge c 249 with h249 | h249
                · obtain rfl : c = 248 := by omega
                  exact mjc_248
                · obtain rfl : c = 249 := by omega
                  exact mjc_249
            · rcases Nat.lt_or_ge c 252 with h252 | h252
              · rcases Nat.lt_or_ge c 251 with h251 | h251
                · obtain rfl : c = 250 := by omega
                  exact mjc_250
                · obtain rfl : c = 251 := by omega
                  exact mjc_251
              · rcases Nat.lt_or_ge c 253 with h253 | h253
                · obtain rfl : c = 252 := by omega
                  exact mjc_252
                · obtain rfl : c = 253 := by omega
                  exact mjc_253
          · rcases Nat.lt_or_ge c 258 with h258 | h258
            · rcases Nat.lt_or_ge c 256 with h256 | h256
              · rcases Nat.lt_or_ge c 255 with h255 | h255
                · obtain rfl : c = 254 := by omega
                  exact mjc_254
                · obtain rfl : c = 255 := by omega
                  exact mjc_255
              · rcases Nat.lt_or_ge c 257 with h257 | h257
                · obtain rfl : c = 256 := by omega
                  exact mjc_256
                · obtain rfl : c = 257 := by omega
                  exact mjc_257
            · rcases Nat.lt_or_ge c 260 with h260 | h260
              · rcases Nat.lt_or_ge c 259 with h259 | h259
                · obtain rfl : c = 258 := by omega
                  exact mjc_258
                · obtain rfl : c = 259 := by omega
                  exact mjc_259
              · rcases Nat.lt_or_ge c 261 with h261 | h261
                · obtain rfl : c = 260 := by omega
                  exact mjc_260
                · rcases Nat.lt_or_ge c 262 with h262 | h262
                  · obtain rfl : c = 261 := by omega
                    exact mjc_261
                  · obtain rfl : c = 262 := by omega
                    exact mjc_262

theorem mjy_all (c : Nat) (h : c < 263) (hm : c < 258 ∨ 260 < c) : mjChY c = true := by
  rcases Nat.lt_or_ge c 131 with h131 | h131
  · rcases Nat.lt_or_ge c 65 with h65 | h65
    · rcases Nat.lt_or_ge c 32 with h32 | h32
      · rcases Nat.lt_or_ge c 16 with h16 | h16
        · rcases Nat.lt_or_ge c 8 with h8 | h8
          · rcases Nat.lt_or_ge c 4 with h4 | h4
            · rcases Nat.lt_or_ge c 2 with h2 | h2
              · rcases Nat.lt_or_ge c 1 with h1 | h1
                · obtain rfl : c = 0 := by omega
                  exact mjy_0
                · obtain rfl : c = 1 := by omega
                  exact mjy_1
              · rcases Nat.lt_or_ge c 3 with h3 | h3
                · obtain rfl : c = 2 := by omega
                  exact mjy_2
                · obtain rfl : c = 3 := by omega
                  exact mjy_3
            · rcases Nat.lt_or_ge c 6 with h6 | h6
              · rcases Nat.lt_or_ge c 5 with h5 | h5
                · obtain rfl : c = 4 := by omega
                  exact mjy_4
                · obtain rfl : c = 5 := by omega
                  exact mjy_5
              · rcases Nat.lt_or_ge c 7 with h7 | h7
                · obtain rfl : c = 6 := by omega
                  exact mjy_6
                · obtain rfl : c = 7 := by omega
                  exact mjy_7
          · rcases Nat.lt_or_ge c 12 with h12 | h12
            · rcases Nat.lt_or_ge c 10 with h10 | h10
              · rcases Nat.lt_or_ge c 9 with h9 | h9
                · obtain rfl : c = 8 := by omega
                  exact mjy_8
                · obtain rfl : c = 9 := by omega
                  exact mjy_9
              · rcases Nat.lt_or_ge c 11 with h11 | h11
                · obtain rfl : c = 10 := by omega
                  exact mjy_10
                · obtain rfl : c = 11 := by omega
                  exact mjy_11
            · rcases Nat.lt_or_ge c 14 with h14 | h14
              · rcases Nat.lt_or_ge c 13 with h13 | h13
                · obtain rfl : c = 12 := by omega
                  exact mjy_12
                · obtain rfl : c = 13 := by omega
                  exact mjy_13
              · rcases Nat.lt_or_ge c 15 with h15 | h15
                · obtain rfl : c = 14 := by omega
                  exact mjy_14
                · obtain rfl : c = 15 := by omega
                  exact mjy_15
        · rcases Nat.lt_or_ge c 24 with h24 | h24
          · rcases Nat.lt_or_ge c 20 with h20 | h20
            · rcases Nat.lt_or_ge c 18 with h18 | h18
              · rcases Nat.lt_or_ge c 17 with h17 | h17
                · obtain rfl : c = 16 := by omega
                  exact mjy_16
                · obtain rfl : c = 17 := by omega
                  exact mjy_17
              · rcases Nat.lt_or_ge c 19 with h19 | h19
                · obtain rfl : c = 18 := by omega
                  exact mjy_18
                · obtain rfl : c = 19 := by omega
                  exact mjy_19
            · rcases Nat.lt_or_ge c 22 with h22 | h22
              · rcases Nat.lt_or_ge c 21 with h21 | h21
                · obtain rfl : c = 20 := by omega
                  exact mjy_20
                · obtain rfl : c = 21 := by omega
                  exact mjy_21
              · rcases Nat.lt_or_ge c 23 with h23 | h23
                · obtain rfl : c = 22 := by omega
                  exact mjy_22
                · obtain rfl : c = 23 := by omega
                  exact mjy_23
          · rcases Nat.lt_or_ge c 28 with h28 | h28
            · rcases Nat.lt_or_ge c 26 with h26 | h26
              · rcases Nat.lt_or_ge c 25 with h25 | h25
                · obtain rfl : c = 24 := by omega
                  exact mjy_24
                · obtain rfl : c = 25 := by omega
                  exact mjy_25
              · rcases Nat.lt_or_ge c 27 with h27 | h27
                · obtain rfl : c = 26 := by omega
                  exact mjy_26
                · obtain rfl : c = 27 := by omega
                  exact mjy_27
            · rcases Nat.lt_or_ge c 30 with h30 | h30
              · rcases Nat.lt_or_ge c 29 with h29 | h29
                · obtain rfl : c = 28 := by omega
                  exact mjy_28
                · obtain rfl : c = 29 := by omega
                  exact mjy_29
              · rcases Nat.lt_or_ge c 31 with h31 | h31
                · obtain rfl : c = 30 := by omega
                  exact mjy_30
                · obtain rfl : c = 31 := by omega
                  exact mjy_31
      · rcases Nat.lt_or_ge c 48 with h48 | h48
        · rcases Nat.lt_or_ge c 40 with h40 | h40
          · rcases Nat.lt_or_ge c 36 with h36 | h36
            · rcases Nat.lt_or_ge c 34 with h34 | h34
              · rcases Nat.lt_or_ge c 33 with h33 | h33
                · obtain rfl : c = 32 := by omega
                  exact mjy_32
                · obtain rfl : c = 33 := by omega
                  exact mjy_33
              · rcases Nat.lt_or_ge c 35 with h35 | h35
                · obtain rfl : c = 34 := by omega
                  exact mjy_34
                · obtain rfl : c = 35 := by omega
                  exact mjy_35
            · rcases Nat.lt_or_ge c 38 with h38 | h38
              · rcases Nat.lt_or_ge c 37 with h37 | h37
                · obtain rfl : c = 36 := by omega
                  exact mjy_36
                · obtain rfl : c = 37 := by omega
                  exact mjy_37
              · rcases Nat.lt_or_ge c 39 with h39 | h39
                · obtain rfl : c = 38 := by omega
                  exact mjy_38
                · obtain rfl : c = 39 := by omega
                  exact mjy_39
          · rcases Nat.lt_or_ge c 44 with h44 | h44
            · rcases Nat.lt_or_ge c 42 with h42 | h42
              · rcases Nat.lt_or_ge c 41 with h41 | h41
                · obtain rfl : c = 40 := by omega
                  exact mjy_40
                · obtain rfl : c = 41 := by omega
                  exact mjy_41
              · rcases Nat.lt_or_ge c 43 with h43 | h43
                · obtain rfl : c = 42 := by omega
                  exact mjy_42
                · obtain rfl : c = 43 := by omega
                  exact mjy_43
            · rcases Nat.lt_or_ge c 46 with h46 | h46
              · rcases Nat.lt_or_ge c 45 with h45 | h45
                · obtain rfl : c = 44 := by omega
                  exact mjy_44
                · obtain rfl : c = 45 := by omega
                  exact mjy_45
              · rcases Nat.lt_or_ge c 47 with h47 | h47
                · obtain rfl : c = 46 := by omega
                  exact mjy_46
                · obtain rfl : c = 47 := by omega
                  exact mjy_47
        · rcases Nat.lt_or_ge c 56 with h56 | h56
          · rcases Nat.lt_or_ge c 52 with h52 | h52
            · rcases Nat.lt_or_ge c 50 with h50 | h50
              · rcases Nat.lt_or_ge c 49 with h49 | h49
                · obtain rfl : c = 48 := by omega
                  exact mjy_48
                · obtain rfl : c = 49 := by omega
                  exact mjy_49
              · rcases Nat.lt_or_ge c 51 with h51 | h51
                · obtain rfl : c = 50 := by omega
                  exact mjy_50
                · obtain rfl : c = 51 := by omega
                  exact mjy_51
            · rcases Nat.lt_or_ge c 54 with h54 | h54
              · rcases Nat.lt_or_ge c 53 with h53 | h53
                · obtain rfl : c = 52 := by omega
                  exact mjy_52
                · obtain rfl : c = 53 := by omega
                  exact mjy_53
              · rcases Nat.lt_or_ge c 55 with h55 | h55
                · obtain rfl : c = 54 := by omega
                  exact mjy_54
                · obtain rfl : c = 55 := by omega
                  exact mjy_55
          · rcases Nat.lt_or_ge c 60 with h60 | h60
            · rcases Nat.lt_or_ge c 58 with h58 | h58
              · rcases Nat.lt_or_ge c 57 with h57 | h57
                · obtain rfl : c = 56 := by omega
                  exact mjy_56
                · obtain rfl : c = 57 := by omega
                  exact mjy_57
              · rcases Nat.lt_or_ge c 59 with h59 | h59
                · obtain rfl : c = 58 := by omega
                  exact mjy_58
                · obtain rfl : c = 59 := by omega
                  exact mjy_59
            · rcases Nat.lt_or_ge c 62 with h62 | h62
              · rcases Nat.lt_or_ge c 61 with h61 | h61
                · obtain rfl : c = 60 := by omega
                  exact mjy_60
                · obtain rfl : c = 61 := by omega
                  exact mjy_61
              · rcases Nat.lt_or_ge c 63 with h63 | h63
                · obtain rfl : c = 62 := by omega
                  exact mjy_62
                · rcases Nat.lt_or_ge c 64 with h64 | h64
                  · obtain rfl : c = 63 := by omega
                    exact mjy_63
                  · obtain rfl : c = 64 := by omega
                    exact mjy_64
    · rcases Nat.lt_or_ge c 98 with h98 | h98
      · rcases Nat.lt_or_ge c 81 with h81 | h81
        · rcases Nat.lt_or_ge c 73 with h73 | h73
          · rcases Nat.lt_or_ge c 69 with h69 | h69
            · rcases Nat.lt_or_ge c 67 with h67 | h67
              · rcases Nat.lt_or_ge c 66 with h66 | h66
                · obtain rfl : c = 65 := by omega
                  exact mjy_65
                · obtain rfl : c = 66 := by omega
                  exact mjy_66
              · rcases Nat.lt_or_ge c 68 with h68 | h68
                · obtain rfl : c = 67 := by omega
                  exact mjy_67
                · obtain rfl : c = 68 := by omega
                  exact mjy_68
            · rcases Nat.lt_or_ge c 71 with h71 | h71
              · rcases Nat.lt_or_ge c 70 with h70 | h70
                · obtain rfl : c = 69 := by omega
                  exact mjy_69
                · obtain rfl : c = 70 := by omega
                  exact mjy_70
              · rcases Nat.lt_or_ge c 72 with h72 | h72
                · obtain rfl : c = 71 := by omega
                  exact mjy_71
                · obtain rfl : c = 72 := by omega
                  exact mjy_72
          · rcases Nat.lt_or_ge c 77 with h77 | h77
            · rcases Nat.lt_or_ge c 75 with h75 | h75
              · rcases Nat.lt_or_ge c 74 with h74 | h74
                · obtain rfl : c = 73 := by omega
                  exact mjy_73
                · obtain rfl : c = 74 := by omega
                  exact mjy_74
              · rcases Nat.lt_or_ge c 76 with h76 | h76
                · obtain rfl : c = 75 := by omega
                  exact mjy_75
                · obtain rfl : c = 76 := by omega
                  exact mjy_76
            · rcases Nat.lt_or_ge c 79 with h79 | h79
              · rcases Nat.lt_or_ge c 78 with h78 | h78
                · obtain rfl : c = 77 := by omega
                  exact mjy_77
                · obtain rfl : c = 78 := by omega
                  exact mjy_78
              · rcases Nat.lt_or_ge c 80 with h80 | h80
                · obtain rfl : c = 79 := by omega
                  exact mjy_79
                · obtain rfl : c = 80 := by omega
                  exact mjy_80
        · rcases Nat.lt_or_ge c 89 with h89 | h89
          · rcases Nat.lt_or_ge c 85 with h85 | h85
            · rcases Nat.lt_or_ge c 83 with h83 | h83
              · rcases Nat.lt_or_ge c 82 with h82 | h82
                · obtain rfl : c = 81 := by omega
                  exact mjy_81
                · obtain rfl : c = 82 := by omega
                  exact mjy_82
              · rcases Nat.lt_or_ge c 84 with h84 | h84
                · obtain rfl : c = 83 := by omega
                  exact mjy_83
                · obtain rfl : c = 84 := by omega
                  exact mjy_84
            · rcases Nat.lt_or_ge c 87 with h87 | h87
              · rcases Nat.lt_or_ge c 86 with h86 | h86
                · obtain rfl : c = 85 := by omega
                  exact mjy_85
                · obtain rfl : c = 86 := by omega
                  exact mjy_86
              · rcases Nat.lt_or_ge c 88 with h88 | h88
                · obtain rfl : c = 87 := by omega
                  exact mjy_87
                · obtain rfl : c = 88 := by omega
                  exact mjy_88
          · rcases Nat.lt_or_ge c 93 with h93 | h93
            · rcases Nat.lt_or_ge c 91 with h91 | h91
              · rcases Nat.lt_or_ge c 90 with h90 | h90
                · obtain rfl : c = 89 := by omega
                  exact mjy_89
                · obtain rfl : c = 90 := by omega
                  exact mjy_90
              · rcases Nat.lt_or_ge c 92 with h92 | h92
                · obtain rfl : c = 91 := by omega
                  exact mjy_91
                · obtain rfl : c = 92 := by omega
                  exact mjy_92
            · rcases Nat.lt_or_ge c 95 with h95 | h95
              · rcases Nat.lt_or_ge c 94 with h94 | h94
                · obtain rfl : c = 93 := by omega
                  exact mjy_93
                · obtain rfl : c = 94 := by omega
                  exact mjy_94
              · rcases Nat.lt_or_ge c 96 with h96 | h96
                · obtain rfl : c = 95 := by omega
                  exact mjy_95
                · rcases Nat.lt_or_ge c 97 with h97 | h97
                  · obtain rfl : c = 96 := by omega
                    exact mjy_96
                  · obtain rfl : c = 97 := by omega
                    exact mjy_97
      · rcases Nat.lt_or_ge c 114 with h114 | h114
        · rcases Nat.lt_or_ge c 106 with h106 | h106
          · rcases Nat.lt_or_ge c 102 with h102 | h102
            · rcases Nat.lt_or_ge c 100 with h100 | h100
              · rcases Nat.lt_or_ge c 99 with h99 | h99
                · obtain rfl : c = 98 := by omega
                  exact mjy_98
                · obtain rfl : c = 99 := by omega
                  exact mjy_99
              · rcases Nat.lt_or_ge c 101 with h101 | h101
                · obtain rfl : c = 100 := by omega
                  exact mjy_100
                · obtain rfl : c = 101 := by omega
                  exact mjy_101
            · rcases Nat.lt_or_ge c 104 with h104 | h104
              · rcases Nat.lt_or_ge c 103 with h103 | h103
                · obtain rfl : c = 102 := by omega
                  exact mjy_102
                · obtain rfl : c = 103 := by omega
                  exact mjy_103
              · rcases Nat.lt_or_ge c 105 with h105 | h105
                · obtain rfl : c = 104 := by omega
                  exact mjy_104
                · obtain rfl : c = 105 := by omega
                  exact mjy_105
          · rcases Nat.lt_or_ge c 110 with h110 | h110
            · rcases Nat.lt_or_ge c 108 with h108 | h108
              · rcases Nat.lt_or_ge c 107 with h107 | h107
                · obtain rfl : c = 106 := by omega
                  exact mjy_106
                · obtain rfl : c = 107 := by omega
                  exact mjy_107
              · rcases Nat.lt_or_ge c 109 with h109 | h109
                · obtain rfl : c = 108 := by omega
                  exact mjy_108
                · obtain rfl : c = 109 := by omega
                  exact mjy_109
            · rcases Nat.lt_or_ge c 112 with h112 | h112
              · rcases Nat.lt_or_ge c 111 with h111 | h111
                · obtain rfl : c = 110 := by omega
                  exact mjy_110
                · obtain rfl : c = 111 := by omega
                  exact mjy_111
              · rcases Nat.lt_or_ge c 113 with h113 | h113
                · obtain rfl : c = 112 := by omega
                  exact mjy_112
                · obtain rfl : c = 113 := by omega
                  exact mjy_113
        · rcases Nat.lt_or_ge c 122 with h122 | h122
          · rcases Nat.lt_or_ge c 118 with h118 | h118
            · rcases Nat.lt_or_ge c 116 with h116 | h116
              · rcases Nat.lt_or_ge c 115 with h115 | h115
                · obtain rfl : c = 114 := by omega
                  exact mjy_114
                · obtain rfl : c = 115 := by omega
                  exact mjy_115
              · rcases Nat.lt_or_ge c 117 with h117 | h117
                · obtain rfl : c = 116 := by omega
                  exact mjy_116
                · obtain rfl : c = 117 := by omega
                  exact mjy_117
            · rcases Nat.lt_or_ge c 120 with h120 | h120
              · rcases Nat.lt_or_ge c 119 with h119 | h119
                · obtain rfl : c = 118 := by omega
                  exact mjy_118
                · obtain rfl : c = 119 := by omega
                  exact mjy_119
              · rcases Nat.lt_or_ge c 121 with h121 | h121
                · obtain rfl : c = 120 := by omega
                  exact mjy_120
                · obtain rfl : c = 121 := by omega
                  exact mjy_121
          · rcases Nat.lt_or_ge c 126 with h126 | h126
            · rcases Nat.lt_or_ge c 124 with h124 | h124
              · rcases Nat.lt_or_ge c 123 with h123 | h123
                · obtain rfl : c = 122 := by omega
                  exact mjy_122
                · obtain rfl : c = 123 := by omega
                  exact mjy_123
              · rcases Nat.lt_or_ge c 125 with h125 | h125
                · obtain rfl : c = 124 := by omega
                  exact mjy_124
                · obtain rfl : c = 125 := by omega
                  exact mjy_125
            · rcases Nat.lt_or_ge c 128 with h128 | h128
              · rcases Nat.lt_or_ge c 127 with h127 | h127
                · obtain rfl : c = 126 := by omega
                  exact mjy_126
                · obtain rfl : c = 127 := by omega
                  exact mjy_127
              · rcases Nat.lt_or_ge c 129 with h129 | h129
                · obtain rfl : c = 128 := by omega
                  exact mjy_128
                · rcases Nat.lt_or_ge c 130 with h130 | h130
                  · obtain rfl : c = 129 := by omega
                    exact mjy_129
                  · obtain rfl : c = 130 := by omega
                    exact mjy_130
  · rcases Nat.lt_or_ge c 197 with h197 | h197
    · rcases Nat.lt_or_ge c 164 with h164 | h164
      · rcases Nat.lt_or_ge c 147 with h147 | h147
        · rcases Nat.lt_or_ge c 139 with h139 | h139
          · rcases Nat.lt_or_ge c 135 with h135 | h135
            · rcases Nat.lt_or_ge c 133 with h133 | h133
              · rcases Nat.lt_or_ge c 132 with h132 | h132
                · obtain rfl : c = 131 := by omega
                  exact mjy_131
                · obtain rfl : c = 132 := by omega
                  exact mjy_132
              · rcases Nat.lt_or_ge c 134 with h134 | h134
                · obtain rfl : c = 133 := by omega
                  exact mjy_133
                · obtain rfl : c = 134 := by omega
                  exact mjy_134
            · rcases Nat.lt_or_ge c 137 with h137 | h137
              · rcases Nat.lt_or_ge c 136 with h136 | h136
                · obtain rfl : c = 135 := by omega
                  exact mjy_135
                · obtain rfl : c = 136 := by omega
                  exact mjy_136
              · rcases Nat.lt_or_ge c 138 with h138 | h138
                · obtain rfl : c = 137 := by omega
                  exact mjy_137
                · obtain rfl : c = 138 := by omega
                  exact mjy_138
          · rcases Nat.lt_or_ge c 143 with h143 | h143
            · rcases Nat.lt_or_ge c 141 with h141 | h141
              · rcases Nat.lt_or_ge c 140 with h140 | h140
                · obtain rfl : c = 139 := by omega
                  exact mjy_139
                · obtain rfl : c = 140 := by omega
                  exact mjy_140
              · rcases Nat.lt_or_ge c 142 with h142 | h142
                · obtain rfl : c = 141 := by omega
                  exact mjy_141
                · obtain rfl : c = 142 := by omega
                  exact mjy_142
            · rcases Nat.lt_or_ge c 145 with h145 | h145
              · rcases Nat.lt_or_ge c 144 with h144 | h144
                · obtain rfl : c = 143 := by omega
                  exact mjy_143
                · obtain rfl : c = 144 := by omega
                  exact mjy_144
              · rcases Nat.lt_or_ge c 146 with h146 | h146
                · obtain rfl : c = 145 := by omega
                  exact mjy_145
                · obtain rfl : c = 146 := by omega
                  exact mjy_146
        · rcases Nat.lt_or_ge c 155 with h155 | h155
          · rcases Nat.lt_or_ge c 151 with h151 | h151
            · rcases Nat.lt_or_ge c 149 with h149 | h149
              · rcases Nat.lt_or_ge c 148 with h148 | h148
                · obtain rfl : c = 147 := by omega
                  exact mjy_147
                · obtain rfl : c = 148 := by omega
                  exact mjy_148
              · rcases Nat.lt_or_ge c 150 with h150 | h150
                · obtain rfl : c = 149 := by omega
                  exact mjy_149
                · obtain rfl : c = 150 := by omega
                  exact mjy_150
            · rcases Nat.lt_or_ge c 153 with h153 | h153
              · rcases Nat.lt_or_ge c 152 with h152 | h152
                · obtain rfl : c = 151 := by omega
                  exact mjy_151
                · obtain rfl : c = 152 := by omega
                  exact mjy_152
              · rcases Nat.lt_or_ge c 154 with h154 | h154
                · obtain rfl : c = 153 := by omega
                  exact mjy_153
                · obtain rfl : c = 154 := by omega
                  exact mjy_154
          · rcases Nat.lt_or_ge c 159 with h159 | h159
            · rcases Nat.lt_or_ge c 157 with h157 | h157
              · rcases Nat.lt_or_ge c 156 with h156 | h156
                · obtain rfl : c = 155 := by omega
                  exact mjy_155
                · obtain rfl : c = 156 := by omega
                  exact mjy_156
              · rcases Nat.lt_or_ge c 158 with h158 | h158
                · obtain rfl : c = 157 := by omega
                  exact mjy_157
                · obtain rfl : c = 158 := by omega
                  exact mjy_158
            · rcases Nat.lt_or_ge c 161 with h161 | h161
              · rcases Nat.lt_or_ge c 160 with h160 | h160
                · obtain rfl : c = 159 := by omega
                  exact mjy_159
                · obtain rfl : c = 160 := by omega
                  exact mjy_160
              · rcases Nat.lt_or_ge c 162 with h162 | h162
                · obtain rfl : c = 161 := by omega
                  exact mjy_161
                · rcases Nat.lt_or_ge c 163 with h163 | h163
                  · obtain rfl : c = 162 := by omega
                    exact mjy_162
                  · obtain rfl : c = 163 := by omega
                    exact mjy_163
      · rcases Nat.lt_or_ge c 180 with h180 | h180
        · rcases Nat.lt_or_ge c 172 with h172 | h172
          · rcases Nat.lt_or_ge c 168 with h168 | h168
            · rcases Nat.lt_or_ge c 166 with h166 | h166
              · rcases Nat.lt_or_ge c 165 with h165 | h165
                · obtain rfl : c = 164 := by omega
                  exact mjy_164
                · obtain rfl : c = 165 := by omega
                  exact mjy_165
              · rcases Nat.lt_or_ge c 167 with h167 | h167
                · obtain rfl : c = 166 := by omega
                  exact mjy_166
                · obtain rfl : c = 167 := by omega
                  exact mjy_167
            · rcases Nat.lt_or_ge c 170 with h170 | h170
              · rcases Nat.lt_or_ge c 169 with h169 | h169
                · obtain rfl : c = 168 := by omega
                  exact mjy_168
                · obtain rfl : c = 169 := by omega
                  exact mjy_169
              · rcases Nat.lt_or_ge c 171 with h171 | h171
                · obtain rfl : c = 170 := by omega
                  exact mjy_170
                · obtain rfl : c = 171 := by omega
                  exact mjy_171
          · rcases Nat.lt_or_ge c 176 with h176 | h176
            · rcases Nat.lt_or_ge c 174 with h174 | h174
              · rcases Nat.lt_or_ge c 173 with h173 | h173
                · obtain rfl : c = 172 := by omega
                  exact mjy_172
                · obtain rfl : c = 173 := by omega
                  exact mjy_173
              · rcases Nat.lt_or_ge c 175 with h175 | h175
                · obtain rfl : c = 174 := by omega
                  exact mjy_174
                · obtain rfl : c = 175 := by omega
                  exact mjy_175
            · rcases Nat.lt_or_ge c 178 with h178 | h178
              · rcases Nat.lt_or_ge c 177 with h177 | h177
                · obtain rfl : c = 176 := by omega
                  exact mjy_176
                · obtain rfl : c = 177 := by omega
                  exact mjy_177
              · rcases Nat.lt_or_ge c 179 with h179 | h179
                · obtain rfl : c = 178 := by omega
                  exact mjy_178
                · obtain rfl : c = 179 := by omega
                  exact mjy_179
        · rcases Nat.lt_or_ge c 188 with h188 | h188
          · rcases Nat.lt_or_ge c 184 with h184 | h184
            · rcases Nat.lt_or_ge c 182 with h182 | h182
              · rcases Nat.lt_or_ge c 181 with h181 | h181
                · obtain rfl : c = 180 := by omega
                  exact mjy_180
                · obtain rfl : c = 181 := by omega
                  exact mjy_181
              · rcases Nat.lt_or_ge c 183 with h183 | h183
                · obtain rfl : c = 182 := by omega
                  exact mjy_182
                · obtain rfl : c = 183 := by omega
                  exact mjy_183
            · rcases Nat.lt_or_ge c 186 with h186 | h186
              · rcases Nat.lt_or_ge c 185 with h185 | h185
                · obtain rfl : c = 184 := by omega
                  exact mjy_184
                · obtain rfl : c = 185 := by omega
                  exact mjy_185
              · rcases Nat.lt_or_ge c 187 with h187 | h187
                · obtain rfl : c = 186 := by omega
                  exact mjy_186
                · obtain rfl : c = 187 := by omega
                  exact mjy_187
          · rcases Nat.lt_or_ge c 192 with h192 | h192
            · rcases Nat.lt_or_ge c 190 with h190 | h190
              · rcases Nat.lt_or_ge c 189 with h189 | h189
                · obtain rfl : c = 188 := by omega
                  exact mjy_188
                · obtain rfl : c = 189 := by omega
                  exact mjy_189
              · rcases Nat.lt_or_ge c 191 with h191 | h191
                · obtain rfl : c = 190 := by omega
                  exact mjy_190
                · obtain rfl : c = 191 := by omega
                  exact mjy_191
            · rcases Nat.lt_or_ge c 194 with h194 | h194
              · rcases Nat.lt_or_ge c 193 with h193 | h193
                · obtain rfl : c = 192 := by omega
                  exact mjy_192
                · obtain rfl : c = 193 := by omega
                  exact mjy_193
              · rcases Nat.lt_or_ge c 195 with h195 | h195
                · obtain rfl : c = 194 := by omega
                  exact mjy_194
                · rcases Nat.lt_or_ge c 196 with h196 | h196
                  · obtain rfl : c = 195 := by omega
                    exact mjy_195
                  · obtain rfl : c = 196 := by omega
                    exact mjy_196
    · rcases Nat.lt_or_ge c 230 with h230 | h230
      · rcases Nat.lt_or_ge c 213 with h213 | h213
        · rcases Nat.lt_or_ge c 205 with h205 | h205
          · rcases Nat.lt_or_ge c 201 with h201 | h201
            · rcases Nat.lt_or_ge c 199 with h199 | h199
              · rcases Nat.lt_or_ge c 198 with h198 | h198
                · obtain rfl : c = 197 := by omega
                  exact mjy_197
                · obtain rfl : c = 198 := by omega
                  exact mjy_198
              · rcases Nat.lt_or_ge c 200 with h200 | h200
                · obtain rfl : c = 199 := by omega
                  exact mjy_199
                · obtain rfl : c = 200 := by omega
                  exact mjy_200
            · rcases Nat.lt_or_ge c 203 with h203 | h203
              · rcases Nat.lt_or_ge c 202 with h202 | h202
                · obtain rfl : c = 201 := by omega
                  exact mjy_201
                · obtain rfl : c = 202 := by omega
                  exact mjy_202
              · rcases Nat.lt_or_ge c 204 with h204 | h204
                · obtain rfl : c = 203 := by omega
                  exact mjy_203
                · obtain rfl : c = 204 := by omega
                  exact mjy_204
          · rcases Nat.lt_or_ge c 209 with h209 | h209
            · rcases Nat.lt_or_ge c 207 with h207 | h207
              · rcases Nat.lt_or_ge c 206 with h206 | h206
                · obtain rfl : c = 205 := by omega
                  exact mjy_205
                · obtain rfl : c = 206 := by omega
                  exact mjy_206
              · rcases Nat.lt_or_ge c 208 with h208 | h208
                · obtain rfl : c = 207 := by omega
                  exact mjy_207
                · obtain rfl : c = 208 := by omega
                  exact mjy_208
            · rcases Nat.lt_or_ge c 211 with h211 | h211
              · rcases Nat.lt_or_ge c 210 with h210 | h210
                · obtain rfl : c = 209 := by omega
                  exact mjy_209
                · obtain rfl : c = 210 := by omega
                  exact mjy_210
              · rcases Nat.lt_or_ge c 212 with h212 | h212
                · obtain rfl : c = 211 := by omega
                  exact mjy_211
                · obtain rfl : c = 212 := by omega
                  exact mjy_212
        · rcases Nat.lt_or_ge c 221 with h221 | h221
          · rcases Nat.lt_or_ge c 217 with h217 | h217
            · rcases Nat.lt_or_ge c 215 with h215 | h215
              · rcases Nat.lt_or_ge c 214 with h214 | h214
                · obtain rfl : c = 213 := by omega
                  exact mjy_213
                · obtain rfl : c = 214 := by omega
                  exact mjy_214
              · rcases Nat.lt_or_ge c 216 with h216 | h216
                · obtain rfl : c = 215 := by omega
                  exact mjy_215
                · obtain rfl : c = 216 := by omega
                  exact mjy_216
            · rcases Nat.lt_or_ge c 219 with h219 | h219
              · rcases Nat.lt_or_ge c 218 with h218 | h218
                · obtain rfl : c = 217 := by omega
                  exact mjy_217
                · obtain rfl : c = 218 := by omega
                  exact mjy_218
              · rcases Nat.lt_or_ge c 220 with h220 | h220
                · obtain rfl : c = 219 := by omega
                  exact mjy_219
                · obtain rfl : c = 220 := by omega
                  exact mjy_220
          · rcases Nat.lt_or_ge c 225 with h225 | h225
            · rcases Nat.lt_or_ge c 223 with h223 | h223
              · rcases Nat.lt_or_ge c 222 with h222 | h222
                · obtain rfl : c = 221 := by omega
                  exact mjy_221
                · obtain rfl : c = 222 := by omega
                  exact mjy_222
              · rcases Nat.lt_or_ge c 224 with h224 | h224
                · obtain rfl : c = 223 := by omega
                  exact mjy_223
                · obtain rfl : c = 224 := by omega
                  exact mjy_224
            · rcases Nat.lt_or_ge c 227 with h227 | h227
              · rcases Nat.lt_or_ge c 226 with h226 | h226
                · obtain rfl : c = 225 := by omega
                  exact mjy_225
                · obtain rfl : c = 226 := by omega
                  exact mjy_226
              · rcases Nat.lt_or_ge c 228 with h228 | h228
                · obtain rfl : c = 227 := by omega
                  exact mjy_227
                · rcases Nat.lt_or_ge c 229 with h229 | h229
                  · obtain rfl : c = 228 := by omega
                    exact mjy_228
                  · obtain rfl : c = 229 := by omega
                    exact mjy_229
      · rcases Nat.lt_or_ge c 246 with h246 | h246
        · rcases Nat.lt_or_ge c 238 with h238 | h238
          · rcases Nat.lt_or_ge c 234 with h234 | h234
            · rcases Nat.lt_or_ge c 232 with h232 | h232
              · rcases Nat.lt_or_ge c 231 with h231 | h231
                · obtain rfl : c = 230 := by omega
                  exact mjy_230
                · obtain rfl : c = 231 := by omega
                  exact mjy_231
              · rcases Nat.lt_or_ge c 233 with h233 | h233
                · obtain rfl : c = 232 := by omega
                  exact mjy_232
                · obtain rfl : c = 233 := by omega
                  exact mjy_233
            · rcases Nat.lt_or_ge c 236 with h236 | h236
              · rcases Nat.lt_or_ge c 235 with h235 | h235
                · obtain rfl : c = 234 := by omega
                  exact mjy_234
                · obtain rfl : c = 235 := by omega
                  exact mjy_235
              · rcases Nat.lt_or_ge c 237 with h237 | h237
                · obtain rfl : c = 236 := by omega
                  exact mjy_236
                · obtain rfl : c = 237 := by omega
                  exact mjy_237
          · rcases Nat.lt_or_ge c 242 with h242 | h242
            · rcases Nat.lt_or_ge c 240 with h240 | h240
              · rcases Nat.lt_or_ge c 239 with h239 | h239
                · obtain rfl : c = 238 := by omega
                  exact mjy_238
                · obtain rfl : c = 239 := by omega
                  exact mjy_239
              · rcases Nat.lt_or_ge c 241 with h241 | h241
                · obtain rfl : c = 240 := by omega
                  exact mjy_240
                · obtain rfl : c = 241 := by omega
                  exact mjy_241
            · rcases Nat.lt_or_ge c 244 with h244 | h244
              · rcases Nat.lt_or_ge c 243 with h243 | h243
                · obtain rfl : c = 242 := by omega
                  exact mjy_242
                · obtain rfl : c = 243 := by omega
                  exact mjy_243
              · rcases Nat.lt_or_ge c 245 with h245 | h245
                · obtain rfl : c = 244 := by omega
                  exact mjy_244
                · obtain rfl : c = 245 := by omega
                  exact mjy_245
        · rcases Nat.lt_or_ge c 254 with h254 | h254
          · rcases Nat.lt_or_ge c 250 with h250 | h250
            · rcases Nat.lt_or_ge c 248 with h248 | h248
              · rcases Nat.lt_or_ge c 247 with h247 | h247
                · obtain rfl : c = 246 := by omega
                  exact mjy_246
                · obtain rfl : c = 247 := by omega
                  exact mjy_247
              · rcases Nat.lt_or_ge c 249 with h249 | h249
                · obtain rfl : c = 248 := by omega
                  exact mjy_248
                · obtain rfl : c = 249 := by omega
                  exact mjy_249
            · rcases Nat.lt_or_ge c 252 with h252 | h252
              · rcases Nat.lt_or_ge c 251 with h251 | h251
                · obtain rfl : c = 250 := by omega
                  exact mjy_250
                · obtain rfl : c = 251 := by omega
                  exact mjy_251
              · rcases Nat.lt_or_ge c 253 with h253 | h253
                · obtain rfl : c = 252 := by omega
                  exact mjy_252
                · obtain rfl : c = 253 := by omega
                  exact mjy_253
          · rcases Nat.lt_or_ge c 258 with h258 | h258
            · rcases Nat.lt_or_ge c 256 with h256 | h256
              · rcases Nat.lt_or_ge c 255 with h255 | h255
                · obtain rfl : c = 254 := by omega
                  exact mjy_254
                · obtain rfl : c = 255 := by omega
                  exact mjy_255
              · rcases Nat.lt_or_ge c 257 with h257 | h257
                · obtain rfl : c = 256 := by omega
                  exact mjy_256
                · obtain rfl : c = 257 := by omega
                  exact mjy_257
            · rcases Nat.lt_or_ge c 260 with h260 | h260
              · rcases Nat.lt_or_ge c 259 with h259 | h259
                · omega
                · omega
              · rcases Nat.lt_or_ge c 261 with h261 | h261
                · omega
                · rcases Nat.lt_or_ge c 262 with h262 | h262
                  · obtain rfl : c = 261 := by omega
                    exact mjy_261
                  · obtain rfl : c = 262 := by omega
                    exact mjy_262

theorem mjCh_of {c pc : Nat} {q : mjIns} (h : (match mjTab c pc with
  | none => true
  | some q => mjChk c pc q) = true) (hq : mjCode c pc = some q) : mjChk c pc q = true := by
  have ht : mjTab c pc = some q := by
    unfold mjCode at hq
    cases hb : Nat.blt pc (mjMeta c).2.2 with
    | true => rw [hb] at hq; exact hq
    | false => rw [hb] at hq; cases hq
  rw [ht] at h
  exact h
theorem mjCode_lt {c pc : Nat} {q : mjIns} (hq : mjCode c pc = some q) : pc < (mjMeta c).2.2 := by
  unfold mjCode at hq
  cases hb : Nat.blt pc (mjMeta c).2.2 with
  | true => exact Nat.le_of_ble_eq_true hb
  | false => rw [hb] at hq; cases hq
theorem mjChR_of {c lo n pc : Nat} {q : mjIns} (h : mjChR c lo n = true) (h1 : lo ≤ pc) (h2 : pc < lo + n) (hq : mjCode c pc = some q) : mjChk c pc q = true := by
  have := List.all_eq_true.mp h pc (List.mem_range'_1.mpr ⟨h1, h2⟩)
  exact mjCh_of this hq
/-- the tables are the claim's -/
theorem mj_chk : ∀ c pc q, c < 264 → mjCode c pc = some q → mjChk c pc q = true := by
  intro c pc q hc hq
  rcases Nat.lt_or_ge c 263 with h | h
  · exact mjCh_of (List.all_eq_true.mp (mjc_all c h) pc (List.mem_range.mpr (mjCode_lt hq))) hq
  · obtain rfl : c = 263 := by omega
    have hl : pc < 1308 := mjCode_lt hq
    rcases Nat.lt_or_ge pc 109 with h109 | h109
    · exact mjChR_of mjcl_0 (by omega) (by omega) hq
    rcases Nat.lt_or_ge pc 218 with h218 | h218
    · exact mjChR_of mjcl_109 (by omega) (by omega) hq
    rcases Nat.lt_or_ge pc 327 with h327 | h327
    · exact mjChR_of mjcl_218 (by omega) (by omega) hq
    rcases Nat.lt_or_ge pc 436 with h436 | h436
    · exact mjChR_of mjcl_327 (by omega) (by omega) hq
    rcases Nat.lt_or_ge pc 545 with h545 | h545
    · exact mjChR_of mjcl_436 (by omega) (by omega) hq
    rcases Nat.lt_or_ge pc 654 with h654 | h654
    · exact mjChR_of mjcl_545 (by omega) (by omega) hq
    rcases Nat.lt_or_ge pc 763 with h763 | h763
    · exact mjChR_of mjcl_654 (by omega) (by omega) hq
    rcases Nat.lt_or_ge pc 872 with h872 | h872
    · exact mjChR_of mjcl_763 (by omega) (by omega) hq
    rcases Nat.lt_or_ge pc 981 with h981 | h981
    · exact mjChR_of mjcl_872 (by omega) (by omega) hq
    rcases Nat.lt_or_ge pc 1090 with h1090 | h1090
    · exact mjChR_of mjcl_981 (by omega) (by omega) hq
    rcases Nat.lt_or_ge pc 1199 with h1199 | h1199
    · exact mjChR_of mjcl_1090 (by omega) (by omega) hq
    rcases Nat.lt_or_ge pc 1308 with h1308 | h1308
    · exact mjChR_of mjcl_1199 (by omega) (by omega) hq
    · omega
