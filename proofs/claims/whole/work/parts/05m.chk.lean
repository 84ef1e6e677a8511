theorem zokB_cut {own : String} {bytes : ByteArray} {bl : List (Nat × List zE × Nat)} (a : Nat) (h1 : zokB own bytes (bl.take a) = true) (h2 : zokB own bytes (bl.drop a) = true) : zokB own bytes bl = true := by
  unfold zokB at *
  rw [← List.take_append_drop a bl, List.all_append, h1, h2]
  rfl
theorem zo_137 : zokB RL cL_law zc_137 = true := by
  refine zokB_cut 4 zoL_0 ?_
  refine zokB_cut 2 zoL_1 ?_
  rw [List.drop_drop]
  refine zokB_cut 2 zoL_2 ?_
  rw [List.drop_drop]
  refine zokB_cut 1 zoL_3 ?_
  rw [List.drop_drop]
  refine zokB_cut 2 zoL_4 ?_
  rw [List.drop_drop]
  refine zokB_cut 3 zoL_5 ?_
  rw [List.drop_drop]
  refine zokB_cut 2 zoL_6 ?_
  rw [List.drop_drop]
  refine zokB_cut 2 zoL_7 ?_
  rw [List.drop_drop]
  refine zokB_cut 2 zoL_8 ?_
  rw [List.drop_drop]
  refine zokB_cut 2 zoL_9 ?_
  rw [List.drop_drop]
  refine zokB_cut 2 zoL_10 ?_
  rw [List.drop_drop]
  refine zokB_cut 2 zoL_11 ?_
  rw [List.drop_drop]
  have h := zoL_12
  rw [List.take_of_length_le (by decide +kernel)] at h
  exact h
def zokK (k : Nat) : Prop := match zinfo k, zget zcodes k with
  | some i, some bl => zokB i.1 i.2.2.1 bl = true
  | _, _ => True
theorem zokK_all : ∀ k, zokK k := by
  intro k
  match k with
  | 0 => exact zo_0
  | 1 => exact zo_1
  | 2 => exact zo_2
  | 3 => exact zo_3
  | 4 => exact zo_4
  | 5 => exact zo_5
  | 6 => exact zo_6
  | 7 => exact zo_7
  | 8 => exact zo_8
  | 9 => exact zo_9
  | 10 => exact zo_10
  | 11 => exact zo_11
  | 12 => exact zo_12
  | 13 => exact zo_13
  | 14 => exact zo_14
  | 15 => exact zo_15
  | 16 => exact zo_16
  | 17 => exact zo_17
  | 18 => exact zo_18
  | 19 => exact zo_19
  | 20 => exact zo_20
  | 21 => exact zo_21
  | 22 => exact zo_22
  | 23 => exact zo_23
  | 24 => exact zo_24
  | 25 => exact zo_25
  | 26 => exact zo_26
  | 27 => exact zo_27
  | 28 => exact zo_28
  | 29 => exact zo_29
  | 30 => exact zo_30
  | 31 => exact zo_31
  | 32 => exact zo_32
  | 33 => exact zo_33
  | 34 => exact zo_34
  | 35 => exact zo_35
  | 36 => exact zo_36
  | 37 => exact zo_37
  | 38 => exact zo_38
  | 39 => exact zo_39
  | 40 => exact zo_40
  | 41 => exact zo_41
  | 42 => exact zo_42
  | 43 => exact zo_43
  | 44 => exact zo_44
  | 45 => exact zo_45
  | 46 => exact zo_46
  | 47 => exact zo_47
  | 48 => exact zo_48
  | 49 => exact zo_49
  | 50 => exact zo_50
  | 51 => exact zo_51
  | 52 => exact zo_52
  | 53 => exact zo_53
  | 54 => exact zo_54
  | 55 => exact zo_55
  | 56 => exact zo_56
  | 57 => exact zo_57
  | 58 => exact zo_58
  | 59 => exact zo_59
  | 60 => exact zo_60
  | 61 => exact zo_61
  | 62 => exact zo_62
  | 63 => exact zo_63
  | 64 => exact zo_64
  | 65 => exact zo_65
  | 66 => exact zo_66
  | 67 => exact zo_67
  | 68 => exact zo_68
  | 69 => exact zo_69
  | 70 => exact zo_70
  | 71 => exact zo_71
  | 72 => exact zo_72
  | 73 => exact zo_73
  | 74 => exact zo_74
  | 75 => exact zo_75
  | 76 => exact zo_76
  | 77 => exact zo_77
  | 78 => exact zo_78
  | 79 => exact zo_79
  | 80 => exact zo_80
  | 81 => exact zo_81
  | 82 => exact zo_82
  | 83 => exact zo_83
  | 84 => exact zo_84
  | 85 => exact zo_85
  | 86 => exact zo_86
  | 87 => exact zo_87
  | 88 => exact zo_88
  | 89 => exact zo_89
  | 90 => exact zo_90
  | 91 => exact zo_91
  | 92 => exact zo_92
  | 93 => exact zo_93
  | 94 => exact zo_94
  | 95 => exact zo_95
  | 96 => exact zo_96
  | 97 => exact zo_97
  | 98 => exact zo_98
  | 99 => exact zo_99
  | 100 => exact zo_100
  | 101 => exact zo_101
  | 102 => exact zo_102
  | 103 => exact zo_103
  | 104 => exact zo_104
  | 105 => exact zo_105
  | 106 => exact zo_106
  | 107 => exact zo_107
  | 108 => exact zo_108
  | 109 => exact zo_109
  | 110 => exact zo_110
  | 111 => exact zo_111
  | 112 => exact zo_112
  | 113 => exact zo_113
  | 114 => exact zo_114
  | 115 => exact zo_115
  | 116 => exact zo_116
  | 117 => exact zo_117
  | 118 => exact zo_118
  | 119 => exact zo_119
  | 120 => exact zo_120
  | 121 => exact zo_121
  | 122 => exact zo_122
  | 123 => exact zo_123
  | 124 => exact zo_124
  | 125 => exact zo_125
  | 126 => exact zo_126
  | 127 => exact zo_127
  | 128 => exact zo_128
  | 129 => exact zo_129
  | 130 => exact zo_130
  | 131 => exact zo_131
  | 132 => exact zo_132
  | 133 => exact zo_133
  | 134 => exact zo_134
  | 135 => exact zo_135
  | 136 => exact zo_136
  | 137 => exact zo_137
  | k + 138 => show zokK (k + 138); unfold zokK; rw [show zinfo (k + 138) = none from rfl]; trivial
