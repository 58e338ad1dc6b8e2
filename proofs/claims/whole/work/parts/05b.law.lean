def okR (mi lo n : Nat) : Bool := (List.range n).all (fun i => okE mi (lo + i))
theorem okL_0 : okR 380 0 60 = true := by decide +kernel
theorem okL_60 : okR 380 60 60 = true := by decide +kernel
theorem okL_120 : okR 380 120 60 = true := by decide +kernel
theorem okL_180 : okR 380 180 60 = true := by decide +kernel
theorem okL_240 : okR 380 240 60 = true := by decide +kernel
theorem okL_300 : okR 380 300 60 = true := by decide +kernel
theorem okL_360 : okR 380 360 60 = true := by decide +kernel
theorem okL_420 : okR 380 420 60 = true := by decide +kernel
theorem okL_480 : okR 380 480 60 = true := by decide +kernel
theorem okL_540 : okR 380 540 60 = true := by decide +kernel
theorem okL_600 : okR 380 600 60 = true := by decide +kernel
theorem okL_660 : okR 380 660 60 = true := by decide +kernel
theorem okL_720 : okR 380 720 60 = true := by decide +kernel
theorem okL_780 : okR 380 780 60 = true := by decide +kernel
theorem okL_840 : okR 380 840 60 = true := by decide +kernel
theorem okL_900 : okR 380 900 60 = true := by decide +kernel
theorem okL_960 : okR 380 960 60 = true := by decide +kernel
theorem okL_1020 : okR 380 1020 60 = true := by decide +kernel
theorem okL_1080 : okR 380 1080 60 = true := by decide +kernel
theorem okL_1140 : okR 380 1140 60 = true := by decide +kernel
theorem okL_1200 : okR 380 1200 60 = true := by decide +kernel
theorem okL_1260 : okR 380 1260 60 = true := by decide +kernel
theorem okL_1320 : okR 380 1320 60 = true := by decide +kernel
theorem okL_1380 : okR 380 1380 60 = true := by decide +kernel
theorem okL_1440 : okR 380 1440 60 = true := by decide +kernel
theorem okL_1500 : okR 380 1500 60 = true := by decide +kernel
theorem okL_1560 : okR 380 1560 60 = true := by decide +kernel
theorem okL_1620 : okR 380 1620 60 = true := by decide +kernel
theorem okL_1680 : okR 380 1680 60 = true := by decide +kernel
theorem okL_1740 : okR 380 1740 60 = true := by decide +kernel
theorem okL_1800 : okR 380 1800 60 = true := by decide +kernel
theorem okL_1860 : okR 380 1860 60 = true := by decide +kernel
theorem okL_1920 : okR 380 1920 60 = true := by decide +kernel
theorem okL_1980 : okR 380 1980 60 = true := by decide +kernel
theorem okL_2040 : okR 380 2040 44 = true := by decide +kernel
theorem okM_380 : okM 380 = true := by
  unfold okM
  rw [List.all_eq_true]
  intro pc hpc
  have h := List.mem_range.mp hpc
  have h : pc < 2084 := h
  by_cases c0 : pc < 60
  · have q := List.all_eq_true.mp okL_0 (pc - 0) (List.mem_range.mpr (by omega))
    rwa [show 0 + (pc - 0) = pc by omega] at q
  by_cases c60 : pc < 120
  · have q := List.all_eq_true.mp okL_60 (pc - 60) (List.mem_range.mpr (by omega))
    rwa [show 60 + (pc - 60) = pc by omega] at q
  by_cases c120 : pc < 180
  · have q := List.all_eq_true.mp okL_120 (pc - 120) (List.mem_range.mpr (by omega))
    rwa [show 120 + (pc - 120) = pc by omega] at q
  by_cases c180 : pc < 240
  · have q := List.all_eq_true.mp okL_180 (pc - 180) (List.mem_range.mpr (by omega))
    rwa [show 180 + (pc - 180) = pc by omega] at q
  by_cases c240 : pc < 300
  · have q := List.all_eq_true.mp okL_240 (pc - 240) (List.mem_range.mpr (by omega))
    rwa [show 240 + (pc - 240) = pc by omega] at q
  by_cases c300 : pc < 360
  · have q := List.all_eq_true.mp okL_300 (pc - 300) (List.mem_range.mpr (by omega))
    rwa [show 300 + (pc - 300) = pc by omega] at q
  by_cases c360 : pc < 420
  · have q := List.all_eq_true.mp okL_360 (pc - 360) (List.mem_range.mpr (by omega))
    rwa [show 360 + (pc - 360) = pc by omega] at q
  by_cases c420 : pc < 480
  · have q := List.all_eq_true.mp okL_420 (pc - 420) (List.mem_range.mpr (by omega))
    rwa [show 420 + (pc - 420) = pc by omega] at q
  by_cases c480 : pc < 540
  · have q := List.all_eq_true.mp okL_480 (pc - 480) (List.mem_range.mpr (by omega))
    rwa [show 480 + (pc - 480) = pc by omega] at q
  by_cases c540 : pc < 600
  · have q := List.all_eq_true.mp okL_540 (pc - 540) (List.mem_range.mpr (by omega))
    rwa [show 540 + (pc - 540) = pc by omega] at q
  by_cases c600 : pc < 660
  · have q := List.all_eq_true.mp okL_600 (pc - 600) (List.mem_range.mpr (by omega))
    rwa [show 600 + (pc - 600) = pc by omega] at q
  by_cases c660 : pc < 720
  · have q := List.all_eq_true.mp okL_660 (pc - 660) (List.mem_range.mpr (by omega))
    rwa [show 660 + (pc - 660) = pc by omega] at q
  by_cases c720 : pc < 780
  · have q := List.all_eq_true.mp okL_720 (pc - 720) (List.mem_range.mpr (by omega))
    rwa [show 720 + (pc - 720) = pc by omega] at q
  by_cases c780 : pc < 840
  · have q := List.all_eq_true.mp okL_780 (pc - 780) (List.mem_range.mpr (by omega))
    rwa [show 780 + (pc - 780) = pc by omega] at q
  by_cases c840 : pc < 900
  · have q := List.all_eq_true.mp okL_840 (pc - 840) (List.mem_range.mpr (by omega))
    rwa [show 840 + (pc - 840) = pc by omega] at q
  by_cases c900 : pc < 960
  · have q := List.all_eq_true.mp okL_900 (pc - 900) (List.mem_range.mpr (by omega))
    rwa [show 900 + (pc - 900) = pc by omega] at q
  by_cases c960 : pc < 1020
  · have q := List.all_eq_true.mp okL_960 (pc - 960) (List.mem_range.mpr (by omega))
    rwa [show 960 + (pc - 960) = pc by omega] at q
  by_cases c1020 : pc < 1080
  · have q := List.all_eq_true.mp okL_1020 (pc - 1020) (List.mem_range.mpr (by omega))
    rwa [show 1020 + (pc - 1020) = pc by omega] at q
  by_cases c1080 : pc < 1140
  · have q := List.all_eq_true.mp okL_1080 (pc - 1080) (List.mem_range.mpr (by omega))
    rwa [show 1080 + (pc - 1080) = pc by omega] at q
  by_cases c1140 : pc < 1200
  · have q := List.all_eq_true.mp okL_1140 (pc - 1140) (List.mem_range.mpr (by omega))
    rwa [show 1140 + (pc - 1140) = pc by omega] at q
  by_cases c1200 : pc < 1260
  · have q := List.all_eq_true.mp okL_1200 (pc - 1200) (List.mem_range.mpr (by omega))
    rwa [show 1200 + (pc - 1200) = pc by omega] at q
  by_cases c1260 : pc < 1320
  · have q := List.all_eq_true.mp okL_1260 (pc - 1260) (List.mem_range.mpr (by omega))
    rwa [show 1260 + (pc - 1260) = pc by omega] at q
  by_cases c1320 : pc < 1380
  · have q := List.all_eq_true.mp okL_1320 (pc - 1320) (List.mem_range.mpr (by omega))
    rwa [show 1320 + (pc - 1320) = pc by omega] at q
  by_cases c1380 : pc < 1440
  · have q := List.all_eq_true.mp okL_1380 (pc - 1380) (List.mem_range.mpr (by omega))
    rwa [show 1380 + (pc - 1380) = pc by omega] at q
  by_cases c1440 : pc < 1500
  · have q := List.all_eq_true.mp okL_1440 (pc - 1440) (List.mem_range.mpr (by omega))
    rwa [show 1440 + (pc - 1440) = pc by omega] at q
  by_cases c1500 : pc < 1560
  · have q := List.all_eq_true.mp okL_1500 (pc - 1500) (List.mem_range.mpr (by omega))
    rwa [show 1500 + (pc - 1500) = pc by omega] at q
  by_cases c1560 : pc < 1620
  · have q := List.all_eq_true.mp okL_1560 (pc - 1560) (List.mem_range.mpr (by omega))
    rwa [show 1560 + (pc - 1560) = pc by omega] at q
  by_cases c1620 : pc < 1680
  · have q := List.all_eq_true.mp okL_1620 (pc - 1620) (List.mem_range.mpr (by omega))
    rwa [show 1620 + (pc - 1620) = pc by omega] at q
  by_cases c1680 : pc < 1740
  · have q := List.all_eq_true.mp okL_1680 (pc - 1680) (List.mem_range.mpr (by omega))
    rwa [show 1680 + (pc - 1680) = pc by omega] at q
  by_cases c1740 : pc < 1800
  · have q := List.all_eq_true.mp okL_1740 (pc - 1740) (List.mem_range.mpr (by omega))
    rwa [show 1740 + (pc - 1740) = pc by omega] at q
  by_cases c1800 : pc < 1860
  · have q := List.all_eq_true.mp okL_1800 (pc - 1800) (List.mem_range.mpr (by omega))
    rwa [show 1800 + (pc - 1800) = pc by omega] at q
  by_cases c1860 : pc < 1920
  · have q := List.all_eq_true.mp okL_1860 (pc - 1860) (List.mem_range.mpr (by omega))
    rwa [show 1860 + (pc - 1860) = pc by omega] at q
  by_cases c1920 : pc < 1980
  · have q := List.all_eq_true.mp okL_1920 (pc - 1920) (List.mem_range.mpr (by omega))
    rwa [show 1920 + (pc - 1920) = pc by omega] at q
  by_cases c1980 : pc < 2040
  · have q := List.all_eq_true.mp okL_1980 (pc - 1980) (List.mem_range.mpr (by omega))
    rwa [show 1980 + (pc - 1980) = pc by omega] at q
  by_cases c2040 : pc < 2084
  · have q := List.all_eq_true.mp okL_2040 (pc - 2040) (List.mem_range.mpr (by omega))
    rwa [show 2040 + (pc - 2040) = pc by omega] at q
  omega
theorem okM_r0 : ∀ i, 0 ≤ i → i < 10 → okM i = true := by
  intro i h1 h2
  rcases (show i = 0 ∨ i = 1 ∨ i = 2 ∨ i = 3 ∨ i = 4 ∨ i = 5 ∨ i = 6 ∨ i = 7 ∨ i = 8 ∨ i = 9 by omega) with e | e | e | e | e | e | e | e | e | e
  · subst e; exact okM_0
  · subst e; exact okM_1
  · subst e; exact okM_2
  · subst e; exact okM_3
  · subst e; exact okM_4
  · subst e; exact okM_5
  · subst e; exact okM_6
  · subst e; exact okM_7
  · subst e; exact okM_8
  · subst e; exact okM_9
theorem okM_r10 : ∀ i, 10 ≤ i → i < 20 → okM i = true := by
  intro i h1 h2
  rcases (show i = 10 ∨ i = 11 ∨ i = 12 ∨ i = 13 ∨ i = 14 ∨ i = 15 ∨ i = 16 ∨ i = 17 ∨ i = 18 ∨ i = 19 by omega) with e | e | e | e | e | e | e | e | e | e
  · subst e; exact okM_10
  · subst e; exact okM_11
  · subst e; exact okM_12
  · subst e; exact okM_13
  · subst e; exact okM_14
  · subst e; exact okM_15
  · subst e; exact okM_16
  · subst e; exact okM_17
  · subst e; exact okM_18
  · subst e; exact okM_19
theorem okM_r20 : ∀ i, 20 ≤ i → i < 30 → okM i = true := by
  intro i h1 h2
  rcases (show i = 20 ∨ i = 21 ∨ i = 22 ∨ i = 23 ∨ i = 24 ∨ i = 25 ∨ i = 26 ∨ i = 27 ∨ i = 28 ∨ i = 29 by omega) with e | e | e | e | e | e | e | e | e | e
  · subst e; exact okM_20
  · subst e; exact okM_21
  · subst e; exact okM_22
  · subst e; exact okM_23
  · subst e; exact okM_24
  · subst e; exact okM_25
  · subst e; exact okM_26
  · subst e; exact okM_27
  · subst e; exact okM_28
  · subst e; exact okM_29
theorem okM_r30 : ∀ i, 30 ≤ i → i < 40 → okM i = true := by
  intro i h1 h2
  rcases (show i = 30 ∨ i = 31 ∨ i = 32 ∨ i = 33 ∨ i = 34 ∨ i = 35 ∨ i = 36 ∨ i = 37 ∨ i = 38 ∨ i = 39 by omega) with e | e | e | e | e | e | e | e | e | e
  · subst e; exact okM_30
  · subst e; exact okM_31
  · subst e; exact okM_32
  · subst e; exact okM_33
  · subst e; exact okM_34
  · subst e; exact okM_35
  · subst e; exact okM_36
  · subst e; exact okM_37
  · subst e; exact okM_38
  · subst e; exact okM_39
theorem okM_r40 : ∀ i, 40 ≤ i → i < 50 → okM i = true := by
  intro i h1 h2
  rcases (show i = 40 ∨ i = 41 ∨ i = 42 ∨ i = 43 ∨ i = 44 ∨ i = 45 ∨ i = 46 ∨ i = 47 ∨ i = 48 ∨ i = 49 by omega) with e | e | e | e | e | e | e | e | e | e
  · subst e; exact okM_40
  · subst e; exact okM_41
  · subst e; exact okM_42
  · subst e; exact okM_43
  · subst e; exact okM_44
  · subst e; exact okM_45
  · subst e; exact okM_46
  · subst e; exact okM_47
  · subst e; exact okM_48
  · subst e; exact okM_49
theorem okM_r50 : ∀ i, 50 ≤ i → i < 60 → okM i = true := by
  intro i h1 h2
  rcases (show i = 50 ∨ i = 51 ∨ i = 52 ∨ i = 53 ∨ i = 54 ∨ i = 55 ∨ i = 56 ∨ i = 57 ∨ i = 58 ∨ i = 59 by omega) with e | e | e | e | e | e | e | e | e | e
  · subst e; exact okM_50
  · subst e; exact okM_51
  · subst e; exact okM_52
  · subst e; exact okM_53
  · subst e; exact okM_54
  · subst e; exact okM_55
  · subst e; exact okM_56
  · subst e; exact okM_57
  · subst e; exact okM_58
  · subst e; exact okM_59
theorem okM_r60 : ∀ i, 60 ≤ i → i < 70 → okM i = true := by
  intro i h1 h2
  rcases (show i = 60 ∨ i = 61 ∨ i = 62 ∨ i = 63 ∨ i = 64 ∨ i = 65 ∨ i = 66 ∨ i = 67 ∨ i = 68 ∨ i = 69 by omega) with e | e | e | e | e | e | e | e | e | e
  · subst e; exact okM_60
  · subst e; exact okM_61
  · subst e; exact okM_62
  · subst e; exact okM_63
  · subst e; exact okM_64
  · subst e; exact okM_65
  · subst e; exact okM_66
  · subst e; exact okM_67
  · subst e; exact okM_68
  · subst e; exact okM_69
theorem okM_r70 : ∀ i, 70 ≤ i → i < 80 → okM i = true := by
  intro i h1 h2
  rcases (show i = 70 ∨ i = 71 ∨ i = 72 ∨ i = 73 ∨ i = 74 ∨ i = 75 ∨ i = 76 ∨ i = 77 ∨ i = 78 ∨ i = 79 by omega) with e | e | e | e | e | e | e | e | e | e
  · subst e; exact okM_70
  · subst e; exact okM_71
  · subst e; exact okM_72
  · subst e; exact okM_73
  · subst e; exact okM_74
  · subst e; exact okM_75
  · subst e; exact okM_76
  · subst e; exact okM_77
  · subst e; exact okM_78
  · subst e; exact okM_79
theorem okM_r80 : ∀ i, 80 ≤ i → i < 90 → okM i = true := by
  intro i h1 h2
  rcases (show i = 80 ∨ i = 81 ∨ i = 82 ∨ i = 83 ∨ i = 84 ∨ i = 85 ∨ i = 86 ∨ i = 87 ∨ i = 88 ∨ i = 89 by omega) with e | e | e | e | e | e | e | e | e | e
  · subst e; exact okM_80
  · subst e; exact okM_81
  · subst e; exact okM_82
  · subst e; exact okM_83
  · subst e; exact okM_84
  · subst e; exact okM_85
  · subst e; exact okM_86
  · subst e; exact okM_87
  · subst e; exact okM_88
  · subst e; exact okM_89
theorem okM_r90 : ∀ i, 90 ≤ i → i < 100 → okM i = true := by
  intro i h1 h2
  rcases (show i = 90 ∨ i = 91 ∨ i = 92 ∨ i = 93 ∨ i = 94 ∨ i = 95 ∨ i = 96 ∨ i = 97 ∨ i = 98 ∨ i = 99 by omega) with e | e | e | e | e | e | e | e | e | e
  · subst e; exact okM_90
  · subst e; exact okM_91
  · subst e; exact okM_92
  · subst e; exact okM_93
  · subst e; exact okM_94
  · subst e; exact okM_95
  · subst e; exact okM_96
  · subst e; exact okM_97
  · subst e; exact okM_98
  · subst e; exact okM_99
theorem okM_r100 : ∀ i, 100 ≤ i → i < 110 → okM i = true := by
  intro i h1 h2
  rcases (show i = 100 ∨ i = 101 ∨ i = 102 ∨ i = 103 ∨ i = 104 ∨ i = 105 ∨ i = 106 ∨ i = 107 ∨ i = 108 ∨ i = 109 by omega) with e | e | e | e | e | e | e | e | e | e
  · subst e; exact okM_100
  · subst e; exact okM_101
  · subst e; exact okM_102
  · subst e; exact okM_103
  · subst e; exact okM_104
  · subst e; exact okM_105
  · subst e; exact okM_106
  · subst e; exact okM_107
  · subst e; exact okM_108
  · subst e; exact okM_109
theorem okM_r110 : ∀ i, 110 ≤ i → i < 120 → okM i = true := by
  intro i h1 h2
  rcases (show i = 110 ∨ i = 111 ∨ i = 112 ∨ i = 113 ∨ i = 114 ∨ i = 115 ∨ i = 116 ∨ i = 117 ∨ i = 118 ∨ i = 119 by omega) with e | e | e | e | e | e | e | e | e | e
  · subst e; exact okM_110
  · subst e; exact okM_111
  · subst e; exact okM_112
  · subst e; exact okM_113
  · subst e; exact okM_114
  · subst e; exact okM_115
  · subst e; exact okM_116
  · subst e; exact okM_117
  · subst e; exact okM_118
  · subst e; exact okM_119
theorem okM_r120 : ∀ i, 120 ≤ i → i < 130 → okM i = true := by
  intro i h1 h2
  rcases (show i = 120 ∨ i = 121 ∨ i = 122 ∨ i = 123 ∨ i = 124 ∨ i = 125 ∨ i = 126 ∨ i = 127 ∨ i = 128 ∨ i = 129 by omega) with e | e | e | e | e | e | e | e | e | e
  · subst e; exact okM_120
  · subst e; exact okM_121
  · subst e; exact okM_122
  · subst e; exact okM_123
  · subst e; exact okM_124
  · subst e; exact okM_125
  · subst e; exact okM_126
  · subst e; exact okM_127
  · subst e; exact okM_128
  · subst e; exact okM_129
theorem okM_r130 : ∀ i, 130 ≤ i → i < 140 → okM i = true := by
  intro i h1 h2
  rcases (show i = 130 ∨ i = 131 ∨ i = 132 ∨ i = 133 ∨ i = 134 ∨ i = 135 ∨ i = 136 ∨ i = 137 ∨ i = 138 ∨ i = 139 by omega) with e | e | e | e | e | e | e | e | e | e
  · subst e; exact okM_130
  · subst e; exact okM_131
  · subst e; exact okM_132
  · subst e; exact okM_133
  · subst e; exact okM_134
  · subst e; exact okM_135
  · subst e; exact okM_136
  · subst e; exact okM_137
  · subst e; exact okM_138
  · subst e; exact okM_139
theorem okM_r140 : ∀ i, 140 ≤ i → i < 150 → okM i = true := by
  intro i h1 h2
  rcases (show i = 140 ∨ i = 141 ∨ i = 142 ∨ i = 143 ∨ i = 144 ∨ i = 145 ∨ i = 146 ∨ i = 147 ∨ i = 148 ∨ i = 149 by omega) with e | e | e | e | e | e | e | e | e | e
  · subst e; exact okM_140
  · subst e; exact okM_141
  · subst e; exact okM_142
  · subst e; exact okM_143
  · subst e; exact okM_144
  · subst e; exact okM_145
  · subst e; exact okM_146
  · subst e; exact okM_147
  · subst e; exact okM_148
  · subst e; exact okM_149
theorem okM_r150 : ∀ i, 150 ≤ i → i < 160 → okM i = true := by
  intro i h1 h2
  rcases (show i = 150 ∨ i = 151 ∨ i = 152 ∨ i = 153 ∨ i = 154 ∨ i = 155 ∨ i = 156 ∨ i = 157 ∨ i = 158 ∨ i = 159 by omega) with e | e | e | e | e | e | e | e | e | e
  · subst e; exact okM_150
  · subst e; exact okM_151
  · subst e; exact okM_152
  · subst e; exact okM_153
  · subst e; exact okM_154
  · subst e; exact okM_155
  · subst e; exact okM_156
  · subst e; exact okM_157
  · subst e; exact okM_158
  · subst e; exact okM_159
theorem okM_r160 : ∀ i, 160 ≤ i → i < 170 → okM i = true := by
  intro i h1 h2
  rcases (show i = 160 ∨ i = 161 ∨ i = 162 ∨ i = 163 ∨ i = 164 ∨ i = 165 ∨ i = 166 ∨ i = 167 ∨ i = 168 ∨ i = 169 by omega) with e | e | e | e | e | e | e | e | e | e
  · subst e; exact okM_160
  · subst e; exact okM_161
  · subst e; exact okM_162
  · subst e; exact okM_163
  · subst e; exact okM_164
  · subst e; exact okM_165
  · subst e; exact okM_166
  · subst e; exact okM_167
  · subst e; exact okM_168
  · subst e; exact okM_169
theorem okM_r170 : ∀ i, 170 ≤ i → i < 180 → okM i = true := by
  intro i h1 h2
  rcases (show i = 170 ∨ i = 171 ∨ i = 172 ∨ i = 173 ∨ i = 174 ∨ i = 175 ∨ i = 176 ∨ i = 177 ∨ i = 178 ∨ i = 179 by omega) with e | e | e | e | e | e | e | e | e | e
  · subst e; exact okM_170
  · subst e; exact okM_171
  · subst e; exact okM_172
  · subst e; exact okM_173
  · subst e; exact okM_174
  · subst e; exact okM_175
  · subst e; exact okM_176
  · subst e; exact okM_177
  · subst e; exact okM_178
  · subst e; exact okM_179
theorem okM_r180 : ∀ i, 180 ≤ i → i < 190 → okM i = true := by
  intro i h1 h2
  rcases (show i = 180 ∨ i = 181 ∨ i = 182 ∨ i = 183 ∨ i = 184 ∨ i = 185 ∨ i = 186 ∨ i = 187 ∨ i = 188 ∨ i = 189 by omega) with e | e | e | e | e | e | e | e | e | e
  · subst e; exact okM_180
  · subst e; exact okM_181
  · subst e; exact okM_182
  · subst e; exact okM_183
  · subst e; exact okM_184
  · subst e; exact okM_185
  · subst e; exact okM_186
  · subst e; exact okM_187
  · subst e; exact okM_188
  · subst e; exact okM_189
theorem okM_r190 : ∀ i, 190 ≤ i → i < 200 → okM i = true := by
  intro i h1 h2
  rcases (show i = 190 ∨ i = 191 ∨ i = 192 ∨ i = 193 ∨ i = 194 ∨ i = 195 ∨ i = 196 ∨ i = 197 ∨ i = 198 ∨ i = 199 by omega) with e | e | e | e | e | e | e | e | e | e
  · subst e; exact okM_190
  · subst e; exact okM_191
  · subst e; exact okM_192
  · subst e; exact okM_193
  · subst e; exact okM_194
  · subst e; exact okM_195
  · subst e; exact okM_196
  · subst e; exact okM_197
  · subst e; exact okM_198
  · subst e; exact okM_199
theorem okM_r200 : ∀ i, 200 ≤ i → i < 210 → okM i = true := by
  intro i h1 h2
  rcases (show i = 200 ∨ i = 201 ∨ i = 202 ∨ i = 203 ∨ i = 204 ∨ i = 205 ∨ i = 206 ∨ i = 207 ∨ i = 208 ∨ i = 209 by omega) with e | e | e | e | e | e | e | e | e | e
  · subst e; exact okM_200
  · subst e; exact okM_201
  · subst e; exact okM_202
  · subst e; exact okM_203
  · subst e; exact okM_204
  · subst e; exact okM_205
  · subst e; exact okM_206
  · subst e; exact okM_207
  · subst e; exact okM_208
  · subst e; exact okM_209
theorem okM_r210 : ∀ i, 210 ≤ i → i < 220 → okM i = true := by
  intro i h1 h2
  rcases (show i = 210 ∨ i = 211 ∨ i = 212 ∨ i = 213 ∨ i = 214 ∨ i = 215 ∨ i = 216 ∨ i = 217 ∨ i = 218 ∨ i = 219 by omega) with e | e | e | e | e | e | e | e | e | e
  · subst e; exact okM_210
  · subst e; exact okM_211
  · subst e; exact okM_212
  · subst e; exact okM_213
  · subst e; exact okM_214
  · subst e; exact okM_215
  · subst e; exact okM_216
  · subst e; exact okM_217
  · subst e; exact okM_218
  · subst e; exact okM_219
theorem okM_r220 : ∀ i, 220 ≤ i → i < 230 → okM i = true := by
  intro i h1 h2
  rcases (show i = 220 ∨ i = 221 ∨ i = 222 ∨ i = 223 ∨ i = 224 ∨ i = 225 ∨ i = 226 ∨ i = 227 ∨ i = 228 ∨ i = 229 by omega) with e | e | e | e | e | e | e | e | e | e
  · subst e; exact okM_220
  · subst e; exact okM_221
  · subst e; exact okM_222
  · subst e; exact okM_223
  · subst e; exact okM_224
  · subst e; exact okM_225
  · subst e; exact okM_226
  · subst e; exact okM_227
  · subst e; exact okM_228
  · subst e; exact okM_229
theorem okM_r230 : ∀ i, 230 ≤ i → i < 240 → okM i = true := by
  intro i h1 h2
  rcases (show i = 230 ∨ i = 231 ∨ i = 232 ∨ i = 233 ∨ i = 234 ∨ i = 235 ∨ i = 236 ∨ i = 237 ∨ i = 238 ∨ i = 239 by omega) with e | e | e | e | e | e | e | e | e | e
  · subst e; exact okM_230
  · subst e; exact okM_231
  · subst e; exact okM_232
  · subst e; exact okM_233
  · subst e; exact okM_234
  · subst e; exact okM_235
  · subst e; exact okM_236
  · subst e; exact okM_237
  · subst e; exact okM_238
  · subst e; exact okM_239
theorem okM_r240 : ∀ i, 240 ≤ i → i < 250 → okM i = true := by
  intro i h1 h2
  rcases (show i = 240 ∨ i = 241 ∨ i = 242 ∨ i = 243 ∨ i = 244 ∨ i = 245 ∨ i = 246 ∨ i = 247 ∨ i = 248 ∨ i = 249 by omega) with e | e | e | e | e | e | e | e | e | e
  · subst e; exact okM_240
  · subst e; exact okM_241
  · subst e; exact okM_242
  · subst e; exact okM_243
  · subst e; exact okM_244
  · subst e; exact okM_245
  · subst e; exact okM_246
  · subst e; exact okM_247
  · subst e; exact okM_248
  · subst e; exact okM_249
theorem okM_r250 : ∀ i, 250 ≤ i → i < 260 → okM i = true := by
  intro i h1 h2
  rcases (show i = 250 ∨ i = 251 ∨ i = 252 ∨ i = 253 ∨ i = 254 ∨ i = 255 ∨ i = 256 ∨ i = 257 ∨ i = 258 ∨ i = 259 by omega) with e | e | e | e | e | e | e | e | e | e
  · subst e; exact okM_250
  · subst e; exact okM_251
  · subst e; exact okM_252
  · subst e; exact okM_253
  · subst e; exact okM_254
  · subst e; exact okM_255
  · subst e; exact okM_256
  · subst e; exact okM_257
  · subst e; exact okM_258
  · subst e; exact okM_259
theorem okM_r260 : ∀ i, 260 ≤ i → i < 270 → okM i = true := by
  intro i h1 h2
  rcases (show i = 260 ∨ i = 261 ∨ i = 262 ∨ i = 263 ∨ i = 264 ∨ i = 265 ∨ i = 266 ∨ i = 267 ∨ i = 268 ∨ i = 269 by omega) with e | e | e | e | e | e | e | e | e | e
  · subst e; exact okM_260
  · subst e; exact okM_261
  · subst e; exact okM_262
  · subst e; exact okM_263
  · subst e; exact okM_264
  · subst e; exact okM_265
  · subst e; exact okM_266
  · subst e; exact okM_267
  · subst e; exact okM_268
  · subst e; exact okM_269
theorem okM_r270 : ∀ i, 270 ≤ i → i < 280 → okM i = true := by
  intro i h1 h2
  rcases (show i = 270 ∨ i = 271 ∨ i = 272 ∨ i = 273 ∨ i = 274 ∨ i = 275 ∨ i = 276 ∨ i = 277 ∨ i = 278 ∨ i = 279 by omega) with e | e | e | e | e | e | e | e | e | e
  · subst e; exact okM_270
  · subst e; exact okM_271
  · subst e; exact okM_272
  · subst e; exact okM_273
  · subst e; exact okM_274
  · subst e; exact okM_275
  · subst e; exact okM_276
  · subst e; exact okM_277
  · subst e; exact okM_278
  · subst e; exact okM_279
theorem okM_r280 : ∀ i, 280 ≤ i → i < 290 → okM i = true := by
  intro i h1 h2
  rcases (show i = 280 ∨ i = 281 ∨ i = 282 ∨ i = 283 ∨ i = 284 ∨ i = 285 ∨ i = 286 ∨ i = 287 ∨ i = 288 ∨ i = 289 by omega) with e | e | e | e | e | e | e | e | e | e
  · subst e; exact okM_280
  · subst e; exact okM_281
  · subst e; exact okM_282
  · subst e; exact okM_283
  · subst e; exact okM_284
  · subst e; exact okM_285
  · subst e; exact okM_286
  · subst e; exact okM_287
  · subst e; exact okM_288
  · subst e; exact okM_289
theorem okM_r290 : ∀ i, 290 ≤ i → i < 300 → okM i = true := by
  intro i h1 h2
  rcases (show i = 290 ∨ i = 291 ∨ i = 292 ∨ i = 293 ∨ i = 294 ∨ i = 295 ∨ i = 296 ∨ i = 297 ∨ i = 298 ∨ i = 299 by omega) with e | e | e | e | e | e | e | e | e | e
  · subst e; exact okM_290
  · subst e; exact okM_291
  · subst e; exact okM_292
  · subst e; exact okM_293
  · subst e; exact okM_294
  · subst e; exact okM_295
  · subst e; exact okM_296
  · subst e; exact okM_297
  · subst e; exact okM_298
  · subst e; exact okM_299
theorem okM_r300 : ∀ i, 300 ≤ i → i < 310 → okM i = true := by
  intro i h1 h2
  rcases (show i = 300 ∨ i = 301 ∨ i = 302 ∨ i = 303 ∨ i = 304 ∨ i = 305 ∨ i = 306 ∨ i = 307 ∨ i = 308 ∨ i = 309 by omega) with e | e | e | e | e | e | e | e | e | e
  · subst e; exact okM_300
  · subst e; exact okM_301
  · subst e; exact okM_302
  · subst e; exact okM_303
  · subst e; exact okM_304
  · subst e; exact okM_305
  · subst e; exact okM_306
  · subst e; exact okM_307
  · subst e; exact okM_308
  · subst e; exact okM_309
theorem okM_r310 : ∀ i, 310 ≤ i → i < 320 → okM i = true := by
  intro i h1 h2
  rcases (show i = 310 ∨ i = 311 ∨ i = 312 ∨ i = 313 ∨ i = 314 ∨ i = 315 ∨ i = 316 ∨ i = 317 ∨ i = 318 ∨ i = 319 by omega) with e | e | e | e | e | e | e | e | e | e
  · subst e; exact okM_310
  · subst e; exact okM_311
  · subst e; exact okM_312
  · subst e; exact okM_313
  · subst e; exact okM_314
  · subst e; exact okM_315
  · subst e; exact okM_316
  · subst e; exact okM_317
  · subst e; exact okM_318
  · subst e; exact okM_319
theorem okM_r320 : ∀ i, 320 ≤ i → i < 330 → okM i = true := by
  intro i h1 h2
  rcases (show i = 320 ∨ i = 321 ∨ i = 322 ∨ i = 323 ∨ i = 324 ∨ i = 325 ∨ i = 326 ∨ i = 327 ∨ i = 328 ∨ i = 329 by omega) with e | e | e | e | e | e | e | e | e | e
  · subst e; exact okM_320
  · subst e; exact okM_321
  · subst e; exact okM_322
  · subst e; exact okM_323
  · subst e; exact okM_324
  · subst e; exact okM_325
  · subst e; exact okM_326
  · subst e; exact okM_327
  · subst e; exact okM_328
  · subst e; exact okM_329
theorem okM_r330 : ∀ i, 330 ≤ i → i < 340 → okM i = true := by
  intro i h1 h2
  rcases (show i = 330 ∨ i = 331 ∨ i = 332 ∨ i = 333 ∨ i = 334 ∨ i = 335 ∨ i = 336 ∨ i = 337 ∨ i = 338 ∨ i = 339 by omega) with e | e | e | e | e | e | e | e | e | e
  · subst e; exact okM_330
  · subst e; exact okM_331
  · subst e; exact okM_332
  · subst e; exact okM_333
  · subst e; exact okM_334
  · subst e; exact okM_335
  · subst e; exact okM_336
  · subst e; exact okM_337
  · subst e; exact okM_338
  · subst e; exact okM_339
theorem okM_r340 : ∀ i, 340 ≤ i → i < 350 → okM i = true := by
  intro i h1 h2
  rcases (show i = 340 ∨ i = 341 ∨ i = 342 ∨ i = 343 ∨ i = 344 ∨ i = 345 ∨ i = 346 ∨ i = 347 ∨ i = 348 ∨ i = 349 by omega) with e | e | e | e | e | e | e | e | e | e
  · subst e; exact okM_340
  · subst e; exact okM_341
  · subst e; exact okM_342
  · subst e; exact okM_343
  · subst e; exact okM_344
  · subst e; exact okM_345
  · subst e; exact okM_346
  · subst e; exact okM_347
  · subst e; exact okM_348
  · subst e; exact okM_349
theorem okM_r350 : ∀ i, 350 ≤ i → i < 360 → okM i = true := by
  intro i h1 h2
  rcases (show i = 350 ∨ i = 351 ∨ i = 352 ∨ i = 353 ∨ i = 354 ∨ i = 355 ∨ i = 356 ∨ i = 357 ∨ i = 358 ∨ i = 359 by omega) with e | e | e | e | e | e | e | e | e | e
  · subst e; exact okM_350
  · subst e; exact okM_351
  · subst e; exact okM_352
  · subst e; exact okM_353
  · subst e; exact okM_354
  · subst e; exact okM_355
  · subst e; exact okM_356
  · subst e; exact okM_357
  · subst e; exact okM_358
  · subst e; exact okM_359
theorem okM_r360 : ∀ i, 360 ≤ i → i < 370 → okM i = true := by
  intro i h1 h2
  rcases (show i = 360 ∨ i = 361 ∨ i = 362 ∨ i = 363 ∨ i = 364 ∨ i = 365 ∨ i = 366 ∨ i = 367 ∨ i = 368 ∨ i = 369 by omega) with e | e | e | e | e | e | e | e | e | e
  · subst e; exact okM_360
  · subst e; exact okM_361
  · subst e; exact okM_362
  · subst e; exact okM_363
  · subst e; exact okM_364
  · subst e; exact okM_365
  · subst e; exact okM_366
  · subst e; exact okM_367
  · subst e; exact okM_368
  · subst e; exact okM_369
theorem okM_r370 : ∀ i, 370 ≤ i → i < 380 → okM i = true := by
  intro i h1 h2
  rcases (show i = 370 ∨ i = 371 ∨ i = 372 ∨ i = 373 ∨ i = 374 ∨ i = 375 ∨ i = 376 ∨ i = 377 ∨ i = 378 ∨ i = 379 by omega) with e | e | e | e | e | e | e | e | e | e
  · subst e; exact okM_370
  · subst e; exact okM_371
  · subst e; exact okM_372
  · subst e; exact okM_373
  · subst e; exact okM_374
  · subst e; exact okM_375
  · subst e; exact okM_376
  · subst e; exact okM_377
  · subst e; exact okM_378
  · subst e; exact okM_379
theorem okM_r380 : ∀ i, 380 ≤ i → i < 381 → okM i = true := by
  intro i h1 h2
  rcases (show i = 380 by omega) with e
  · subst e; exact okM_380
theorem okM_all : ∀ i, i < 381 → okM i = true := by
  intro i h
  by_cases c0 : i < 10
  · exact okM_r0 i (by omega) c0
  by_cases c10 : i < 20
  · exact okM_r10 i (by omega) c10
  by_cases c20 : i < 30
  · exact okM_r20 i (by omega) c20
  by_cases c30 : i < 40
  · exact okM_r30 i (by omega) c30
  by_cases c40 : i < 50
  · exact okM_r40 i (by omega) c40
  by_cases c50 : i < 60
  · exact okM_r50 i (by omega) c50
  by_cases c60 : i < 70
  · exact okM_r60 i (by omega) c60
  by_cases c70 : i < 80
  · exact okM_r70 i (by omega) c70
  by_cases c80 : i < 90
  · exact okM_r80 i (by omega) c80
  by_cases c90 : i < 100
  · exact okM_r90 i (by omega) c90
  by_cases c100 : i < 110
  · exact okM_r100 i (by omega) c100
  by_cases c110 : i < 120
  · exact okM_r110 i (by omega) c110
  by_cases c120 : i < 130
  · exact okM_r120 i (by omega) c120
  by_cases c130 : i < 140
  · exact okM_r130 i (by omega) c130
  by_cases c140 : i < 150
  · exact okM_r140 i (by omega) c140
  by_cases c150 : i < 160
  · exact okM_r150 i (by omega) c150
  by_cases c160 : i < 170
  · exact okM_r160 i (by omega) c160
  by_cases c170 : i < 180
  · exact okM_r170 i (by omega) c170
  by_cases c180 : i < 190
  · exact okM_r180 i (by omega) c180
  by_cases c190 : i < 200
  · exact okM_r190 i (by omega) c190
  by_cases c200 : i < 210
  · exact okM_r200 i (by omega) c200
  by_cases c210 : i < 220
  · exact okM_r210 i (by omega) c210
  by_cases c220 : i < 230
  · exact okM_r220 i (by omega) c220
  by_cases c230 : i < 240
  · exact okM_r230 i (by omega) c230
  by_cases c240 : i < 250
  · exact okM_r240 i (by omega) c240
  by_cases c250 : i < 260
  · exact okM_r250 i (by omega) c250
  by_cases c260 : i < 270
  · exact okM_r260 i (by omega) c260
  by_cases c270 : i < 280
  · exact okM_r270 i (by omega) c270
  by_cases c280 : i < 290
  · exact okM_r280 i (by omega) c280
  by_cases c290 : i < 300
  · exact okM_r290 i (by omega) c290
  by_cases c300 : i < 310
  · exact okM_r300 i (by omega) c300
  by_cases c310 : i < 320
  · exact okM_r310 i (by omega) c310
  by_cases c320 : i < 330
  · exact okM_r320 i (by omega) c320
  by_cases c330 : i < 340
  · exact okM_r330 i (by omega) c330
  by_cases c340 : i < 350
  · exact okM_r340 i (by omega) c340
  by_cases c350 : i < 360
  · exact okM_r350 i (by omega) c350
  by_cases c360 : i < 370
  · exact okM_r360 i (by omega) c360
  by_cases c370 : i < 380
  · exact okM_r370 i (by omega) c370
  by_cases c380 : i < 381
  · exact okM_r380 i (by omega) c380
  omega
