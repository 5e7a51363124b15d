/-! ===== the store that the constructors leave (by program, gen_g0.py) ===== -/
def zR (b : Nat) : Nat := if 6 ≤ b ∧ b < 42 then (b - 6) % 12 else if 44 ≤ b ∧ b < 188 then (b - 44) % 12 else 100
def m0 : Nat → Int32 := mset 12 (upd (upd (upd (fun _ => 0) 1 (-1 : Int32)) 4 (nI 6)) 9 (nI 1))
def g0F (b k : Nat) : Int32 := if b = 0 then (if k = 10 then -1 else 0) else if b = 1 then (if k = 0 then -1 else 0) else if b = 192 then (if k = 1 then nI 14 else 0) else if b = 194 then (if k = 1 then nI 12 else 0) else if b = 206 then (if k = 12 then -1 else 0) else if zR b = 0 then (if k = 1 then nI 6 else if k = 5 then nI 1 else 0) else 0
def g0A (b : Nat) : Nat → Int32 := if b = 207 then m0 else if zR b = 5 then fil (-1) 10 (fun _ => 0) else if zR b = 6 then fil (-1) 10 (fun _ => 0) else if zR b = 7 then fil (-1) 10 (fun _ => 0) else if zR b = 11 then fil (-1) 12 (fun _ => 0) else fun _ => 0
def g0 : gG := ((0, fun _ => 0, fun _ => 1), g0F, g0A, fun _ _ => 0)
def LL : List va_E := (.inr (11, [.ref 4, .ref 6, .ref 18, .ref 30, .ref 42, .ref 192, .ref 194, .ref 196, .ref 203, .int 0, .int (-1 : Int32)]) :: hR11) ++ bMod (rp 206) ++ [.inl (1, 1, .inr (.inl (fun _ => 0)))]
set_option maxRecDepth 100000 in
theorem g0_0 : LL.getD 0 d0 = gc g0 0 := rfl
set_option maxRecDepth 100000 in
theorem g0_1 : LL.getD 1 d0 = gc g0 1 := rfl
set_option maxRecDepth 100000 in
theorem g0_2 : LL.getD 2 d0 = gc g0 2 := rfl
set_option maxRecDepth 100000 in
theorem g0_3 : LL.getD 3 d0 = gc g0 3 := rfl
set_option maxRecDepth 100000 in
theorem g0_4 : LL.getD 4 d0 = gc g0 4 := rfl
set_option maxRecDepth 100000 in
theorem g0_5 : LL.getD 5 d0 = gc g0 5 := rfl
set_option maxRecDepth 100000 in
theorem g0_6 : LL.getD 6 d0 = gc g0 6 := rfl
set_option maxRecDepth 100000 in
theorem g0_7 : LL.getD 7 d0 = gc g0 7 := rfl
set_option maxRecDepth 100000 in
theorem g0_8 : LL.getD 8 d0 = gc g0 8 := rfl
set_option maxRecDepth 100000 in
theorem g0_9 : LL.getD 9 d0 = gc g0 9 := rfl
set_option maxRecDepth 100000 in
theorem g0_10 : LL.getD 10 d0 = gc g0 10 := rfl
set_option maxRecDepth 100000 in
theorem g0_11 : LL.getD 11 d0 = gc g0 11 := rfl
set_option maxRecDepth 100000 in
theorem g0_12 : LL.getD 12 d0 = gc g0 12 := rfl
set_option maxRecDepth 100000 in
theorem g0_13 : LL.getD 13 d0 = gc g0 13 := rfl
set_option maxRecDepth 100000 in
theorem g0_14 : LL.getD 14 d0 = gc g0 14 := rfl
set_option maxRecDepth 100000 in
theorem g0_15 : LL.getD 15 d0 = gc g0 15 := rfl
set_option maxRecDepth 100000 in
theorem g0_16 : LL.getD 16 d0 = gc g0 16 := rfl
set_option maxRecDepth 100000 in
theorem g0_17 : LL.getD 17 d0 = gc g0 17 := rfl
set_option maxRecDepth 100000 in
theorem g0_18 : LL.getD 18 d0 = gc g0 18 := rfl
set_option maxRecDepth 100000 in
theorem g0_19 : LL.getD 19 d0 = gc g0 19 := rfl
set_option maxRecDepth 100000 in
theorem g0_20 : LL.getD 20 d0 = gc g0 20 := rfl
set_option maxRecDepth 100000 in
theorem g0_21 : LL.getD 21 d0 = gc g0 21 := rfl
set_option maxRecDepth 100000 in
theorem g0_22 : LL.getD 22 d0 = gc g0 22 := rfl
set_option maxRecDepth 100000 in
theorem g0_23 : LL.getD 23 d0 = gc g0 23 := rfl
set_option maxRecDepth 100000 in
theorem g0_24 : LL.getD 24 d0 = gc g0 24 := rfl
set_option maxRecDepth 100000 in
theorem g0_25 : LL.getD 25 d0 = gc g0 25 := rfl
set_option maxRecDepth 100000 in
theorem g0_26 : LL.getD 26 d0 = gc g0 26 := rfl
set_option maxRecDepth 100000 in
theorem g0_27 : LL.getD 27 d0 = gc g0 27 := rfl
set_option maxRecDepth 100000 in
theorem g0_28 : LL.getD 28 d0 = gc g0 28 := rfl
set_option maxRecDepth 100000 in
theorem g0_29 : LL.getD 29 d0 = gc g0 29 := rfl
set_option maxRecDepth 100000 in
theorem g0_30 : LL.getD 30 d0 = gc g0 30 := rfl
set_option maxRecDepth 100000 in
theorem g0_31 : LL.getD 31 d0 = gc g0 31 := rfl
set_option maxRecDepth 100000 in
theorem g0_32 : LL.getD 32 d0 = gc g0 32 := rfl
set_option maxRecDepth 100000 in
theorem g0_33 : LL.getD 33 d0 = gc g0 33 := rfl
set_option maxRecDepth 100000 in
theorem g0_34 : LL.getD 34 d0 = gc g0 34 := rfl
set_option maxRecDepth 100000 in
theorem g0_35 : LL.getD 35 d0 = gc g0 35 := rfl
set_option maxRecDepth 100000 in
theorem g0_36 : LL.getD 36 d0 = gc g0 36 := rfl
set_option maxRecDepth 100000 in
theorem g0_37 : LL.getD 37 d0 = gc g0 37 := rfl
set_option maxRecDepth 100000 in
theorem g0_38 : LL.getD 38 d0 = gc g0 38 := rfl
set_option maxRecDepth 100000 in
theorem g0_39 : LL.getD 39 d0 = gc g0 39 := rfl
set_option maxRecDepth 100000 in
theorem g0_40 : LL.getD 40 d0 = gc g0 40 := rfl
set_option maxRecDepth 100000 in
theorem g0_41 : LL.getD 41 d0 = gc g0 41 := rfl
set_option maxRecDepth 100000 in
theorem g0_42 : LL.getD 42 d0 = gc g0 42 := rfl
set_option maxRecDepth 100000 in
theorem g0_43 : LL.getD 43 d0 = gc g0 43 := rfl
set_option maxRecDepth 100000 in
theorem g0_44 : LL.getD 44 d0 = gc g0 44 := rfl
set_option maxRecDepth 100000 in
theorem g0_45 : LL.getD 45 d0 = gc g0 45 := rfl
set_option maxRecDepth 100000 in
theorem g0_46 : LL.getD 46 d0 = gc g0 46 := rfl
set_option maxRecDepth 100000 in
theorem g0_47 : LL.getD 47 d0 = gc g0 47 := rfl
set_option maxRecDepth 100000 in
theorem g0_48 : LL.getD 48 d0 = gc g0 48 := rfl
set_option maxRecDepth 100000 in
theorem g0_49 : LL.getD 49 d0 = gc g0 49 := rfl
set_option maxRecDepth 100000 in
theorem g0_50 : LL.getD 50 d0 = gc g0 50 := rfl
set_option maxRecDepth 100000 in
theorem g0_51 : LL.getD 51 d0 = gc g0 51 := rfl
set_option maxRecDepth 100000 in
theorem g0_52 : LL.getD 52 d0 = gc g0 52 := rfl
set_option maxRecDepth 100000 in
theorem g0_53 : LL.getD 53 d0 = gc g0 53 := rfl
set_option maxRecDepth 100000 in
theorem g0_54 : LL.getD 54 d0 = gc g0 54 := rfl
set_option maxRecDepth 100000 in
theorem g0_55 : LL.getD 55 d0 = gc g0 55 := rfl
set_option maxRecDepth 100000 in
theorem g0_56 : LL.getD 56 d0 = gc g0 56 := rfl
set_option maxRecDepth 100000 in
theorem g0_57 : LL.getD 57 d0 = gc g0 57 := rfl
set_option maxRecDepth 100000 in
theorem g0_58 : LL.getD 58 d0 = gc g0 58 := rfl
set_option maxRecDepth 100000 in
theorem g0_59 : LL.getD 59 d0 = gc g0 59 := rfl
set_option maxRecDepth 100000 in
theorem g0_60 : LL.getD 60 d0 = gc g0 60 := rfl
set_option maxRecDepth 100000 in
theorem g0_61 : LL.getD 61 d0 = gc g0 61 := rfl
set_option maxRecDepth 100000 in
theorem g0_62 : LL.getD 62 d0 = gc g0 62 := rfl
set_option maxRecDepth 100000 in
theorem g0_63 : LL.getD 63 d0 = gc g0 63 := rfl
set_option maxRecDepth 100000 in
theorem g0_64 : LL.getD 64 d0 = gc g0 64 := rfl
set_option maxRecDepth 100000 in
theorem g0_65 : LL.getD 65 d0 = gc g0 65 := rfl
set_option maxRecDepth 100000 in
theorem g0_66 : LL.getD 66 d0 = gc g0 66 := rfl
set_option maxRecDepth 100000 in
theorem g0_67 : LL.getD 67 d0 = gc g0 67 := rfl
set_option maxRecDepth 100000 in
theorem g0_68 : LL.getD 68 d0 = gc g0 68 := rfl
set_option maxRecDepth 100000 in
theorem g0_69 : LL.getD 69 d0 = gc g0 69 := rfl
set_option maxRecDepth 100000 in
theorem g0_70 : LL.getD 70 d0 = gc g0 70 := rfl
set_option maxRecDepth 100000 in
theorem g0_71 : LL.getD 71 d0 = gc g0 71 := rfl
set_option maxRecDepth 100000 in
theorem g0_72 : LL.getD 72 d0 = gc g0 72 := rfl
set_option maxRecDepth 100000 in
theorem g0_73 : LL.getD 73 d0 = gc g0 73 := rfl
set_option maxRecDepth 100000 in
theorem g0_74 : LL.getD 74 d0 = gc g0 74 := rfl
set_option maxRecDepth 100000 in
theorem g0_75 : LL.getD 75 d0 = gc g0 75 := rfl
set_option maxRecDepth 100000 in
theorem g0_76 : LL.getD 76 d0 = gc g0 76 := rfl
set_option maxRecDepth 100000 in
theorem g0_77 : LL.getD 77 d0 = gc g0 77 := rfl
set_option maxRecDepth 100000 in
theorem g0_78 : LL.getD 78 d0 = gc g0 78 := rfl
set_option maxRecDepth 100000 in
theorem g0_79 : LL.getD 79 d0 = gc g0 79 := rfl
set_option maxRecDepth 100000 in
theorem g0_80 : LL.getD 80 d0 = gc g0 80 := rfl
set_option maxRecDepth 100000 in
theorem g0_81 : LL.getD 81 d0 = gc g0 81 := rfl
set_option maxRecDepth 100000 in
theorem g0_82 : LL.getD 82 d0 = gc g0 82 := rfl
set_option maxRecDepth 100000 in
theorem g0_83 : LL.getD 83 d0 = gc g0 83 := rfl
set_option maxRecDepth 100000 in
theorem g0_84 : LL.getD 84 d0 = gc g0 84 := rfl
set_option maxRecDepth 100000 in
theorem g0_85 : LL.getD 85 d0 = gc g0 85 := rfl
set_option maxRecDepth 100000 in
theorem g0_86 : LL.getD 86 d0 = gc g0 86 := rfl
set_option maxRecDepth 100000 in
theorem g0_87 : LL.getD 87 d0 = gc g0 87 := rfl
set_option maxRecDepth 100000 in
theorem g0_88 : LL.getD 88 d0 = gc g0 88 := rfl
set_option maxRecDepth 100000 in
theorem g0_89 : LL.getD 89 d0 = gc g0 89 := rfl
set_option maxRecDepth 100000 in
theorem g0_90 : LL.getD 90 d0 = gc g0 90 := rfl
set_option maxRecDepth 100000 in
theorem g0_91 : LL.getD 91 d0 = gc g0 91 := rfl
set_option maxRecDepth 100000 in
theorem g0_92 : LL.getD 92 d0 = gc g0 92 := rfl
set_option maxRecDepth 100000 in
theorem g0_93 : LL.getD 93 d0 = gc g0 93 := rfl
set_option maxRecDepth 100000 in
theorem g0_94 : LL.getD 94 d0 = gc g0 94 := rfl
set_option maxRecDepth 100000 in
theorem g0_95 : LL.getD 95 d0 = gc g0 95 := rfl
set_option maxRecDepth 100000 in
theorem g0_96 : LL.getD 96 d0 = gc g0 96 := rfl
set_option maxRecDepth 100000 in
theorem g0_97 : LL.getD 97 d0 = gc g0 97 := rfl
set_option maxRecDepth 100000 in
theorem g0_98 : LL.getD 98 d0 = gc g0 98 := rfl
set_option maxRecDepth 100000 in
theorem g0_99 : LL.getD 99 d0 = gc g0 99 := rfl
set_option maxRecDepth 100000 in
theorem g0_100 : LL.getD 100 d0 = gc g0 100 := rfl
set_option maxRecDepth 100000 in
theorem g0_101 : LL.getD 101 d0 = gc g0 101 := rfl
set_option maxRecDepth 100000 in
theorem g0_102 : LL.getD 102 d0 = gc g0 102 := rfl
set_option maxRecDepth 100000 in
theorem g0_103 : LL.getD 103 d0 = gc g0 103 := rfl
set_option maxRecDepth 100000 in
theorem g0_104 : LL.getD 104 d0 = gc g0 104 := rfl
set_option maxRecDepth 100000 in
theorem g0_105 : LL.getD 105 d0 = gc g0 105 := rfl
set_option maxRecDepth 100000 in
theorem g0_106 : LL.getD 106 d0 = gc g0 106 := rfl
set_option maxRecDepth 100000 in
theorem g0_107 : LL.getD 107 d0 = gc g0 107 := rfl
set_option maxRecDepth 100000 in
theorem g0_108 : LL.getD 108 d0 = gc g0 108 := rfl
set_option maxRecDepth 100000 in
theorem g0_109 : LL.getD 109 d0 = gc g0 109 := rfl
set_option maxRecDepth 100000 in
theorem g0_110 : LL.getD 110 d0 = gc g0 110 := rfl
set_option maxRecDepth 100000 in
theorem g0_111 : LL.getD 111 d0 = gc g0 111 := rfl
set_option maxRecDepth 100000 in
theorem g0_112 : LL.getD 112 d0 = gc g0 112 := rfl
set_option maxRecDepth 100000 in
theorem g0_113 : LL.getD 113 d0 = gc g0 113 := rfl
set_option maxRecDepth 100000 in
theorem g0_114 : LL.getD 114 d0 = gc g0 114 := rfl
set_option maxRecDepth 100000 in
theorem g0_115 : LL.getD 115 d0 = gc g0 115 := rfl
set_option maxRecDepth 100000 in
theorem g0_116 : LL.getD 116 d0 = gc g0 116 := rfl
set_option maxRecDepth 100000 in
theorem g0_117 : LL.getD 117 d0 = gc g0 117 := rfl
set_option maxRecDepth 100000 in
theorem g0_118 : LL.getD 118 d0 = gc g0 118 := rfl
set_option maxRecDepth 100000 in
theorem g0_119 : LL.getD 119 d0 = gc g0 119 := rfl
set_option maxRecDepth 100000 in
theorem g0_120 : LL.getD 120 d0 = gc g0 120 := rfl
set_option maxRecDepth 100000 in
theorem g0_121 : LL.getD 121 d0 = gc g0 121 := rfl
set_option maxRecDepth 100000 in
theorem g0_122 : LL.getD 122 d0 = gc g0 122 := rfl
set_option maxRecDepth 100000 in
theorem g0_123 : LL.getD 123 d0 = gc g0 123 := rfl
set_option maxRecDepth 100000 in
theorem g0_124 : LL.getD 124 d0 = gc g0 124 := rfl
set_option maxRecDepth 100000 in
theorem g0_125 : LL.getD 125 d0 = gc g0 125 := rfl
set_option maxRecDepth 100000 in
theorem g0_126 : LL.getD 126 d0 = gc g0 126 := rfl
set_option maxRecDepth 100000 in
theorem g0_127 : LL.getD 127 d0 = gc g0 127 := rfl
set_option maxRecDepth 100000 in
theorem g0_128 : LL.getD 128 d0 = gc g0 128 := rfl
set_option maxRecDepth 100000 in
theorem g0_129 : LL.getD 129 d0 = gc g0 129 := rfl
set_option maxRecDepth 100000 in
theorem g0_130 : LL.getD 130 d0 = gc g0 130 := rfl
set_option maxRecDepth 100000 in
theorem g0_131 : LL.getD 131 d0 = gc g0 131 := rfl
set_option maxRecDepth 100000 in
theorem g0_132 : LL.getD 132 d0 = gc g0 132 := rfl
set_option maxRecDepth 100000 in
theorem g0_133 : LL.getD 133 d0 = gc g0 133 := rfl
set_option maxRecDepth 100000 in
theorem g0_134 : LL.getD 134 d0 = gc g0 134 := rfl
set_option maxRecDepth 100000 in
theorem g0_135 : LL.getD 135 d0 = gc g0 135 := rfl
set_option maxRecDepth 100000 in
theorem g0_136 : LL.getD 136 d0 = gc g0 136 := rfl
set_option maxRecDepth 100000 in
theorem g0_137 : LL.getD 137 d0 = gc g0 137 := rfl
set_option maxRecDepth 100000 in
theorem g0_138 : LL.getD 138 d0 = gc g0 138 := rfl
set_option maxRecDepth 100000 in
theorem g0_139 : LL.getD 139 d0 = gc g0 139 := rfl
set_option maxRecDepth 100000 in
theorem g0_140 : LL.getD 140 d0 = gc g0 140 := rfl
set_option maxRecDepth 100000 in
theorem g0_141 : LL.getD 141 d0 = gc g0 141 := rfl
set_option maxRecDepth 100000 in
theorem g0_142 : LL.getD 142 d0 = gc g0 142 := rfl
set_option maxRecDepth 100000 in
theorem g0_143 : LL.getD 143 d0 = gc g0 143 := rfl
set_option maxRecDepth 100000 in
theorem g0_144 : LL.getD 144 d0 = gc g0 144 := rfl
set_option maxRecDepth 100000 in
theorem g0_145 : LL.getD 145 d0 = gc g0 145 := rfl
set_option maxRecDepth 100000 in
theorem g0_146 : LL.getD 146 d0 = gc g0 146 := rfl
set_option maxRecDepth 100000 in
theorem g0_147 : LL.getD 147 d0 = gc g0 147 := rfl
set_option maxRecDepth 100000 in
theorem g0_148 : LL.getD 148 d0 = gc g0 148 := rfl
set_option maxRecDepth 100000 in
theorem g0_149 : LL.getD 149 d0 = gc g0 149 := rfl
set_option maxRecDepth 100000 in
theorem g0_150 : LL.getD 150 d0 = gc g0 150 := rfl
set_option maxRecDepth 100000 in
theorem g0_151 : LL.getD 151 d0 = gc g0 151 := rfl
set_option maxRecDepth 100000 in
theorem g0_152 : LL.getD 152 d0 = gc g0 152 := rfl
set_option maxRecDepth 100000 in
theorem g0_153 : LL.getD 153 d0 = gc g0 153 := rfl
set_option maxRecDepth 100000 in
theorem g0_154 : LL.getD 154 d0 = gc g0 154 := rfl
set_option maxRecDepth 100000 in
theorem g0_155 : LL.getD 155 d0 = gc g0 155 := rfl
set_option maxRecDepth 100000 in
theorem g0_156 : LL.getD 156 d0 = gc g0 156 := rfl
set_option maxRecDepth 100000 in
theorem g0_157 : LL.getD 157 d0 = gc g0 157 := rfl
set_option maxRecDepth 100000 in
theorem g0_158 : LL.getD 158 d0 = gc g0 158 := rfl
set_option maxRecDepth 100000 in
theorem g0_159 : LL.getD 159 d0 = gc g0 159 := rfl
set_option maxRecDepth 100000 in
theorem g0_160 : LL.getD 160 d0 = gc g0 160 := rfl
set_option maxRecDepth 100000 in
theorem g0_161 : LL.getD 161 d0 = gc g0 161 := rfl
set_option maxRecDepth 100000 in
theorem g0_162 : LL.getD 162 d0 = gc g0 162 := rfl
set_option maxRecDepth 100000 in
theorem g0_163 : LL.getD 163 d0 = gc g0 163 := rfl
set_option maxRecDepth 100000 in
theorem g0_164 : LL.getD 164 d0 = gc g0 164 := rfl
set_option maxRecDepth 100000 in
theorem g0_165 : LL.getD 165 d0 = gc g0 165 := rfl
set_option maxRecDepth 100000 in
theorem g0_166 : LL.getD 166 d0 = gc g0 166 := rfl
set_option maxRecDepth 100000 in
theorem g0_167 : LL.getD 167 d0 = gc g0 167 := rfl
set_option maxRecDepth 100000 in
theorem g0_168 : LL.getD 168 d0 = gc g0 168 := rfl
set_option maxRecDepth 100000 in
theorem g0_169 : LL.getD 169 d0 = gc g0 169 := rfl
set_option maxRecDepth 100000 in
theorem g0_170 : LL.getD 170 d0 = gc g0 170 := rfl
set_option maxRecDepth 100000 in
theorem g0_171 : LL.getD 171 d0 = gc g0 171 := rfl
set_option maxRecDepth 100000 in
theorem g0_172 : LL.getD 172 d0 = gc g0 172 := rfl
set_option maxRecDepth 100000 in
theorem g0_173 : LL.getD 173 d0 = gc g0 173 := rfl
set_option maxRecDepth 100000 in
theorem g0_174 : LL.getD 174 d0 = gc g0 174 := rfl
set_option maxRecDepth 100000 in
theorem g0_175 : LL.getD 175 d0 = gc g0 175 := rfl
set_option maxRecDepth 100000 in
theorem g0_176 : LL.getD 176 d0 = gc g0 176 := rfl
set_option maxRecDepth 100000 in
theorem g0_177 : LL.getD 177 d0 = gc g0 177 := rfl
set_option maxRecDepth 100000 in
theorem g0_178 : LL.getD 178 d0 = gc g0 178 := rfl
set_option maxRecDepth 100000 in
theorem g0_179 : LL.getD 179 d0 = gc g0 179 := rfl
set_option maxRecDepth 100000 in
theorem g0_180 : LL.getD 180 d0 = gc g0 180 := rfl
set_option maxRecDepth 100000 in
theorem g0_181 : LL.getD 181 d0 = gc g0 181 := rfl
set_option maxRecDepth 100000 in
theorem g0_182 : LL.getD 182 d0 = gc g0 182 := rfl
set_option maxRecDepth 100000 in
theorem g0_183 : LL.getD 183 d0 = gc g0 183 := rfl
set_option maxRecDepth 100000 in
theorem g0_184 : LL.getD 184 d0 = gc g0 184 := rfl
set_option maxRecDepth 100000 in
theorem g0_185 : LL.getD 185 d0 = gc g0 185 := rfl
set_option maxRecDepth 100000 in
theorem g0_186 : LL.getD 186 d0 = gc g0 186 := rfl
set_option maxRecDepth 100000 in
theorem g0_187 : LL.getD 187 d0 = gc g0 187 := rfl
set_option maxRecDepth 100000 in
theorem g0_188 : LL.getD 188 d0 = gc g0 188 := rfl
set_option maxRecDepth 100000 in
theorem g0_189 : LL.getD 189 d0 = gc g0 189 := rfl
set_option maxRecDepth 100000 in
theorem g0_190 : LL.getD 190 d0 = gc g0 190 := rfl
set_option maxRecDepth 100000 in
theorem g0_191 : LL.getD 191 d0 = gc g0 191 := rfl
set_option maxRecDepth 100000 in
theorem g0_192 : LL.getD 192 d0 = gc g0 192 := rfl
set_option maxRecDepth 100000 in
theorem g0_193 : LL.getD 193 d0 = gc g0 193 := rfl
set_option maxRecDepth 100000 in
theorem g0_194 : LL.getD 194 d0 = gc g0 194 := rfl
set_option maxRecDepth 100000 in
theorem g0_195 : LL.getD 195 d0 = gc g0 195 := rfl
set_option maxRecDepth 100000 in
theorem g0_196 : LL.getD 196 d0 = gc g0 196 := rfl
set_option maxRecDepth 100000 in
theorem g0_197 : LL.getD 197 d0 = gc g0 197 := rfl
set_option maxRecDepth 100000 in
theorem g0_198 : LL.getD 198 d0 = gc g0 198 := rfl
set_option maxRecDepth 100000 in
theorem g0_199 : LL.getD 199 d0 = gc g0 199 := rfl
set_option maxRecDepth 100000 in
theorem g0_200 : LL.getD 200 d0 = gc g0 200 := rfl
set_option maxRecDepth 100000 in
theorem g0_201 : LL.getD 201 d0 = gc g0 201 := rfl
set_option maxRecDepth 100000 in
theorem g0_202 : LL.getD 202 d0 = gc g0 202 := rfl
set_option maxRecDepth 100000 in
theorem g0_203 : LL.getD 203 d0 = gc g0 203 := rfl
set_option maxRecDepth 100000 in
theorem g0_204 : LL.getD 204 d0 = gc g0 204 := rfl
set_option maxRecDepth 100000 in
theorem g0_205 : LL.getD 205 d0 = gc g0 205 := rfl
set_option maxRecDepth 100000 in
theorem g0_206 : LL.getD 206 d0 = gc g0 206 := rfl
set_option maxRecDepth 100000 in
theorem g0_207 : LL.getD 207 d0 = gc g0 207 := rfl
set_option maxRecDepth 100000 in
theorem g0_208 : LL.getD 208 d0 = gc g0 208 := rfl
set_option maxRecDepth 100000 in
theorem g0_209 : LL.getD 209 d0 = gc g0 209 := rfl
set_option maxRecDepth 100000 in
theorem g0_210 : LL.getD 210 d0 = gc g0 210 := rfl
set_option maxRecDepth 100000 in
theorem g0_211 : LL.getD 211 d0 = gc g0 211 := rfl
set_option maxRecDepth 100000 in
theorem g0_212 : LL.getD 212 d0 = gc g0 212 := rfl
set_option maxRecDepth 100000 in
theorem g0_213 : LL.getD 213 d0 = gc g0 213 := rfl
set_option maxRecDepth 100000 in
theorem g0_214 : LL.getD 214 d0 = gc g0 214 := rfl
set_option maxRecDepth 100000 in
theorem g0_215 : LL.getD 215 d0 = gc g0 215 := rfl
set_option maxRecDepth 100000 in
theorem g0_216 : LL.getD 216 d0 = gc g0 216 := rfl
set_option maxRecDepth 100000 in
theorem g0_217 : LL.getD 217 d0 = gc g0 217 := rfl
set_option maxRecDepth 100000 in
theorem g0_218 : LL.getD 218 d0 = gc g0 218 := rfl
set_option maxRecDepth 100000 in
theorem g0_219 : LL.getD 219 d0 = gc g0 219 := rfl
theorem g0_all (b : Nat) (hb : b < 220) : LL.getD b d0 = gc g0 b := by
  by_cases h110 : b < 110
  · by_cases h55 : b < 55
    · by_cases h27 : b < 27
      · by_cases h13 : b < 13
        · by_cases h6 : b < 6
          · by_cases h3 : b < 3
            · by_cases h1 : b < 1
              · have e : b = 0 := by omega
                subst e; exact g0_0
              · by_cases h2 : b < 2
                · have e : b = 1 := by omega
                  subst e; exact g0_1
                · have e : b = 2 := by omega
                  subst e; exact g0_2
            · by_cases h4 : b < 4
              · have e : b = 3 := by omega
                subst e; exact g0_3
              · by_cases h5 : b < 5
                · have e : b = 4 := by omega
                  subst e; exact g0_4
                · have e : b = 5 := by omega
                  subst e; exact g0_5
          · by_cases h9 : b < 9
            · by_cases h7 : b < 7
              · have e : b = 6 := by omega
                subst e; exact g0_6
              · by_cases h8 : b < 8
                · have e : b = 7 := by omega
                  subst e; exact g0_7
                · have e : b = 8 := by omega
                  subst e; exact g0_8
            · by_cases h11 : b < 11
              · by_cases h10 : b < 10
                · have e : b = 9 := by omega
                  subst e; exact g0_9
                · have e : b = 10 := by omega
                  subst e; exact g0_10
              · by_cases h12 : b < 12
                · have e : b = 11 := by omega
                  subst e; exact g0_11
                · have e : b = 12 := by omega
                  subst e; exact g0_12
        · by_cases h20 : b < 20
          · by_cases h16 : b < 16
            · by_cases h14 : b < 14
              · have e : b = 13 := by omega
                subst e; exact g0_13
              · by_cases h15 : b < 15
                · have e : b = 14 := by omega
                  subst e; exact g0_14
                · have e : b = 15 := by omega
                  subst e; exact g0_15
            · by_cases h18 : b < 18
              · by_cases h17 : b < 17
                · have e : b = 16 := by omega
                  subst e; exact g0_16
                · have e : b = 17 := by omega
                  subst e; exact g0_17
              · by_cases h19 : b < 19
                · have e : b = 18 := by omega
                  subst e; exact g0_18
                · have e : b = 19 := by omega
                  subst e; exact g0_19
          · by_cases h23 : b < 23
            · by_cases h21 : b < 21
              · have e : b = 20 := by omega
                subst e; exact g0_20
              · by_cases h22 : b < 22
                · have e : b = 21 := by omega
                  subst e; exact g0_21
                · have e : b = 22 := by omega
                  subst e; exact g0_22
            · by_cases h25 : b < 25
              · by_cases h24 : b < 24
                · have e : b = 23 := by omega
                  subst e; exact g0_23
                · have e : b = 24 := by omega
                  subst e; exact g0_24
              · by_cases h26 : b < 26
                · have e : b = 25 := by omega
                  subst e; exact g0_25
                · have e : b = 26 := by omega
                  subst e; exact g0_26
      · by_cases h41 : b < 41
        · by_cases h34 : b < 34
          · by_cases h30 : b < 30
            · by_cases h28 : b < 28
              · have e : b = 27 := by omega
                subst e; exact g0_27
              · by_cases h29 : b < 29
                · have e : b = 28 := by omega
                  subst e; exact g0_28
                · have e : b = 29 := by omega
                  subst e; exact g0_29
            · by_cases h32 : b < 32
              · by_cases h31 : b < 31
                · have e : b = 30 := by omega
                  subst e; exact g0_30
                · have e : b = 31 := by omega
                  subst e; exact g0_31
              · by_cases h33 : b < 33
                · have e : b = 32 := by omega
                  subst e; exact g0_32
                · have e : b = 33 := by omega
                  subst e; exact g0_33
          · by_cases h37 : b < 37
            · by_cases h35 : b < 35
              · have e : b = 34 := by omega
                subst e; exact g0_34
              · by_cases h36 : b < 36
                · have e : b = 35 := by omega
                  subst e; exact g0_35
                · have e : b = 36 := by omega
                  subst e; exact g0_36
            · by_cases h39 : b < 39
              · by_cases h38 : b < 38
                · have e : b = 37 := by omega
                  subst e; exact g0_37
                · have e : b = 38 := by omega
                  subst e; exact g0_38
              · by_cases h40 : b < 40
                · have e : b = 39 := by omega
                  subst e; exact g0_39
                · have e : b = 40 := by omega
                  subst e; exact g0_40
        · by_cases h48 : b < 48
          · by_cases h44 : b < 44
            · by_cases h42 : b < 42
              · have e : b = 41 := by omega
                subst e; exact g0_41
              · by_cases h43 : b < 43
                · have e : b = 42 := by omega
                  subst e; exact g0_42
                · have e : b = 43 := by omega
                  subst e; exact g0_43
            · by_cases h46 : b < 46
              · by_cases h45 : b < 45
                · have e : b = 44 := by omega
                  subst e; exact g0_44
                · have e : b = 45 := by omega
                  subst e; exact g0_45
              · by_cases h47 : b < 47
                · have e : b = 46 := by omega
                  subst e; exact g0_46
                · have e : b = 47 := by omega
                  subst e; exact g0_47
          · by_cases h51 : b < 51
            · by_cases h49 : b < 49
              · have e : b = 48 := by omega
                subst e; exact g0_48
              · by_cases h50 : b < 50
                · have e : b = 49 := by omega
                  subst e; exact g0_49
                · have e : b = 50 := by omega
                  subst e; exact g0_50
            · by_cases h53 : b < 53
              · by_cases h52 : b < 52
                · have e : b = 51 := by omega
                  subst e; exact g0_51
                · have e : b = 52 := by omega
                  subst e; exact g0_52
              · by_cases h54 : b < 54
                · have e : b = 53 := by omega
                  subst e; exact g0_53
                · have e : b = 54 := by omega
                  subst e; exact g0_54
    · by_cases h82 : b < 82
      · by_cases h68 : b < 68
        · by_cases h61 : b < 61
          · by_cases h58 : b < 58
            · by_cases h56 : b < 56
              · have e : b = 55 := by omega
                subst e; exact g0_55
              · by_cases h57 : b < 57
                · have e : b = 56 := by omega
                  subst e; exact g0_56
                · have e : b = 57 := by omega
                  subst e; exact g0_57
            · by_cases h59 : b < 59
              · have e : b = 58 := by omega
                subst e; exact g0_58
              · by_cases h60 : b < 60
                · have e : b = 59 := by omega
                  subst e; exact g0_59
                · have e : b = 60 := by omega
                  subst e; exact g0_60
          · by_cases h64 : b < 64
            · by_cases h62 : b < 62
              · have e : b = 61 := by omega
                subst e; exact g0_61
              · by_cases h63 : b < 63
                · have e : b = 62 := by omega
                  subst e; exact g0_62
                · have e : b = 63 := by omega
                  subst e; exact g0_63
            · by_cases h66 : b < 66
              · by_cases h65 : b < 65
                · have e : b = 64 := by omega
                  subst e; exact g0_64
                · have e : b = 65 := by omega
                  subst e; exact g0_65
              · by_cases h67 : b < 67
                · have e : b = 66 := by omega
                  subst e; exact g0_66
                · have e : b = 67 := by omega
                  subst e; exact g0_67
        · by_cases h75 : b < 75
          · by_cases h71 : b < 71
            · by_cases h69 : b < 69
              · have e : b = 68 := by omega
                subst e; exact g0_68
              · by_cases h70 : b < 70
                · have e : b = 69 := by omega
                  subst e; exact g0_69
                · have e : b = 70 := by omega
                  subst e; exact g0_70
            · by_cases h73 : b < 73
              · by_cases h72 : b < 72
                · have e : b = 71 := by omega
                  subst e; exact g0_71
                · have e : b = 72 := by omega
                  subst e; exact g0_72
              · by_cases h74 : b < 74
                · have e : b = 73 := by omega
                  subst e; exact g0_73
                · have e : b = 74 := by omega
                  subst e; exact g0_74
          · by_cases h78 : b < 78
            · by_cases h76 : b < 76
              · have e : b = 75 := by omega
                subst e; exact g0_75
              · by_cases h77 : b < 77
                · have e : b = 76 := by omega
                  subst e; exact g0_76
                · have e : b = 77 := by omega
                  subst e; exact g0_77
            · by_cases h80 : b < 80
              · by_cases h79 : b < 79
                · have e : b = 78 := by omega
                  subst e; exact g0_78
                · have e : b = 79 := by omega
                  subst e; exact g0_79
              · by_cases h81 : b < 81
                · have e : b = 80 := by omega
                  subst e; exact g0_80
                · have e : b = 81 := by omega
                  subst e; exact g0_81
      · by_cases h96 : b < 96
        · by_cases h89 : b < 89
          · by_cases h85 : b < 85
            · by_cases h83 : b < 83
              · have e : b = 82 := by omega
                subst e; exact g0_82
              · by_cases h84 : b < 84
                · have e : b = 83 := by omega
                  subst e; exact g0_83
                · have e : b = 84 := by omega
                  subst e; exact g0_84
            · by_cases h87 : b < 87
              · by_cases h86 : b < 86
                · have e : b = 85 := by omega
                  subst e; exact g0_85
                · have e : b = 86 := by omega
                  subst e; exact g0_86
              · by_cases h88 : b < 88
                · have e : b = 87 := by omega
                  subst e; exact g0_87
                · have e : b = 88 := by omega
                  subst e; exact g0_88
          · by_cases h92 : b < 92
            · by_cases h90 : b < 90
              · have e : b = 89 := by omega
                subst e; exact g0_89
              · by_cases h91 : b < 91
                · have e : b = 90 := by omega
                  subst e; exact g0_90
                · have e : b = 91 := by omega
                  subst e; exact g0_91
            · by_cases h94 : b < 94
              · by_cases h93 : b < 93
                · have e : b = 92 := by omega
                  subst e; exact g0_92
                · have e : b = 93 := by omega
                  subst e; exact g0_93
              · by_cases h95 : b < 95
                · have e : b = 94 := by omega
                  subst e; exact g0_94
                · have e : b = 95 := by omega
                  subst e; exact g0_95
        · by_cases h103 : b < 103
          · by_cases h99 : b < 99
            · by_cases h97 : b < 97
              · have e : b = 96 := by omega
                subst e; exact g0_96
              · by_cases h98 : b < 98
                · have e : b = 97 := by omega
                  subst e; exact g0_97
                · have e : b = 98 := by omega
                  subst e; exact g0_98
            · by_cases h101 : b < 101
              · by_cases h100 : b < 100
                · have e : b = 99 := by omega
                  subst e; exact g0_99
                · have e : b = 100 := by omega
                  subst e; exact g0_100
              · by_cases h102 : b < 102
                · have e : b = 101 := by omega
                  subst e; exact g0_101
                · have e : b = 102 := by omega
                  subst e; exact g0_102
          · by_cases h106 : b < 106
            · by_cases h104 : b < 104
              · have e : b = 103 := by omega
                subst e; exact g0_103
              · by_cases h105 : b < 105
                · have e : b = 104 := by omega
                  subst e; exact g0_104
                · have e : b = 105 := by omega
                  subst e; exact g0_105
            · by_cases h108 : b < 108
              · by_cases h107 : b < 107
                · have e : b = 106 := by omega
                  subst e; exact g0_106
                · have e : b = 107 := by omega
                  subst e; exact g0_107
              · by_cases h109 : b < 109
                · have e : b = 108 := by omega
                  subst e; exact g0_108
                · have e : b = 109 := by omega
                  subst e; exact g0_109
  · by_cases h165 : b < 165
    · by_cases h137 : b < 137
      · by_cases h123 : b < 123
        · by_cases h116 : b < 116
          · by_cases h113 : b < 113
            · by_cases h111 : b < 111
              · have e : b = 110 := by omega
                subst e; exact g0_110
              · by_cases h112 : b < 112
                · have e : b = 111 := by omega
                  subst e; exact g0_111
                · have e : b = 112 := by omega
                  subst e; exact g0_112
            · by_cases h114 : b < 114
              · have e : b = 113 := by omega
                subst e; exact g0_113
              · by_cases h115 : b < 115
                · have e : b = 114 := by omega
                  subst e; exact g0_114
                · have e : b = 115 := by omega
                  subst e; exact g0_115
          · by_cases h119 : b < 119
            · by_cases h117 : b < 117
              · have e : b = 116 := by omega
                subst e; exact g0_116
              · by_cases h118 : b < 118
                · have e : b = 117 := by omega
                  subst e; exact g0_117
                · have e : b = 118 := by omega
                  subst e; exact g0_118
            · by_cases h121 : b < 121
              · by_cases h120 : b < 120
                · have e : b = 119 := by omega
                  subst e; exact g0_119
                · have e : b = 120 := by omega
                  subst e; exact g0_120
              · by_cases h122 : b < 122
                · have e : b = 121 := by omega
                  subst e; exact g0_121
                · have e : b = 122 := by omega
                  subst e; exact g0_122
        · by_cases h130 : b < 130
          · by_cases h126 : b < 126
            · by_cases h124 : b < 124
              · have e : b = 123 := by omega
                subst e; exact g0_123
              · by_cases h125 : b < 125
                · have e : b = 124 := by omega
                  subst e; exact g0_124
                · have e : b = 125 := by omega
                  subst e; exact g0_125
            · by_cases h128 : b < 128
              · by_cases h127 : b < 127
                · have e : b = 126 := by omega
                  subst e; exact g0_126
                · have e : b = 127 := by omega
                  subst e; exact g0_127
              · by_cases h129 : b < 129
                · have e : b = 128 := by omega
                  subst e; exact g0_128
                · have e : b = 129 := by omega
                  subst e; exact g0_129
          · by_cases h133 : b < 133
            · by_cases h131 : b < 131
              · have e : b = 130 := by omega
                subst e; exact g0_130
              · by_cases h132 : b < 132
                · have e : b = 131 := by omega
                  subst e; exact g0_131
                · have e : b = 132 := by omega
                  subst e; exact g0_132
            · by_cases h135 : b < 135
              · by_cases h134 : b < 134
                · have e : b = 133 := by omega
                  subst e; exact g0_133
                · have e : b = 134 := by omega
                  subst e; exact g0_134
              · by_cases h136 : b < 136
                · have e : b = 135 := by omega
                  subst e; exact g0_135
                · have e : b = 136 := by omega
                  subst e; exact g0_136
      · by_cases h151 : b < 151
        · by_cases h144 : b < 144
          · by_cases h140 : b < 140
            · by_cases h138 : b < 138
              · have e : b = 137 := by omega
                subst e; exact g0_137
              · by_cases h139 : b < 139
                · have e : b = 138 := by omega
                  subst e; exact g0_138
                · have e : b = 139 := by omega
                  subst e; exact g0_139
            · by_cases h142 : b < 142
              · by_cases h141 : b < 141
                · have e : b = 140 := by omega
                  subst e; exact g0_140
                · have e : b = 141 := by omega
                  subst e; exact g0_141
              · by_cases h143 : b < 143
                · have e : b = 142 := by omega
                  subst e; exact g0_142
                · have e : b = 143 := by omega
                  subst e; exact g0_143
          · by_cases h147 : b < 147
            · by_cases h145 : b < 145
              · have e : b = 144 := by omega
                subst e; exact g0_144
              · by_cases h146 : b < 146
                · have e : b = 145 := by omega
                  subst e; exact g0_145
                · have e : b = 146 := by omega
                  subst e; exact g0_146
            · by_cases h149 : b < 149
              · by_cases h148 : b < 148
                · have e : b = 147 := by omega
                  subst e; exact g0_147
                · have e : b = 148 := by omega
                  subst e; exact g0_148
              · by_cases h150 : b < 150
                · have e : b = 149 := by omega
                  subst e; exact g0_149
                · have e : b = 150 := by omega
                  subst e; exact g0_150
        · by_cases h158 : b < 158
          · by_cases h154 : b < 154
            · by_cases h152 : b < 152
              · have e : b = 151 := by omega
                subst e; exact g0_151
              · by_cases h153 : b < 153
                · have e : b = 152 := by omega
                  subst e; exact g0_152
                · have e : b = 153 := by omega
                  subst e; exact g0_153
            · by_cases h156 : b < 156
              · by_cases h155 : b < 155
                · have e : b = 154 := by omega
                  subst e; exact g0_154
                · have e : b = 155 := by omega
                  subst e; exact g0_155
              · by_cases h157 : b < 157
                · have e : b = 156 := by omega
                  subst e; exact g0_156
                · have e : b = 157 := by omega
                  subst e; exact g0_157
          · by_cases h161 : b < 161
            · by_cases h159 : b < 159
              · have e : b = 158 := by omega
                subst e; exact g0_158
              · by_cases h160 : b < 160
                · have e : b = 159 := by omega
                  subst e; exact g0_159
                · have e : b = 160 := by omega
                  subst e; exact g0_160
            · by_cases h163 : b < 163
              · by_cases h162 : b < 162
                · have e : b = 161 := by omega
                  subst e; exact g0_161
                · have e : b = 162 := by omega
                  subst e; exact g0_162
              · by_cases h164 : b < 164
                · have e : b = 163 := by omega
                  subst e; exact g0_163
                · have e : b = 164 := by omega
                  subst e; exact g0_164
    · by_cases h192 : b < 192
      · by_cases h178 : b < 178
        · by_cases h171 : b < 171
          · by_cases h168 : b < 168
            · by_cases h166 : b < 166
              · have e : b = 165 := by omega
                subst e; exact g0_165
              · by_cases h167 : b < 167
                · have e : b = 166 := by omega
                  subst e; exact g0_166
                · have e : b = 167 := by omega
                  subst e; exact g0_167
            · by_cases h169 : b < 169
              · have e : b = 168 := by omega
                subst e; exact g0_168
              · by_cases h170 : b < 170
                · have e : b = 169 := by omega
                  subst e; exact g0_169
                · have e : b = 170 := by omega
                  subst e; exact g0_170
          · by_cases h174 : b < 174
            · by_cases h172 : b < 172
              · have e : b = 171 := by omega
                subst e; exact g0_171
              · by_cases h173 : b < 173
                · have e : b = 172 := by omega
                  subst e; exact g0_172
                · have e : b = 173 := by omega
                  subst e; exact g0_173
            · by_cases h176 : b < 176
              · by_cases h175 : b < 175
                · have e : b = 174 := by omega
                  subst e; exact g0_174
                · have e : b = 175 := by omega
                  subst e; exact g0_175
              · by_cases h177 : b < 177
                · have e : b = 176 := by omega
                  subst e; exact g0_176
                · have e : b = 177 := by omega
                  subst e; exact g0_177
        · by_cases h185 : b < 185
          · by_cases h181 : b < 181
            · by_cases h179 : b < 179
              · have e : b = 178 := by omega
                subst e; exact g0_178
              · by_cases h180 : b < 180
                · have e : b = 179 := by omega
                  subst e; exact g0_179
                · have e : b = 180 := by omega
                  subst e; exact g0_180
            · by_cases h183 : b < 183
              · by_cases h182 : b < 182
                · have e : b = 181 := by omega
                  subst e; exact g0_181
                · have e : b = 182 := by omega
                  subst e; exact g0_182
              · by_cases h184 : b < 184
                · have e : b = 183 := by omega
                  subst e; exact g0_183
                · have e : b = 184 := by omega
                  subst e; exact g0_184
          · by_cases h188 : b < 188
            · by_cases h186 : b < 186
              · have e : b = 185 := by omega
                subst e; exact g0_185
              · by_cases h187 : b < 187
                · have e : b = 186 := by omega
                  subst e; exact g0_186
                · have e : b = 187 := by omega
                  subst e; exact g0_187
            · by_cases h190 : b < 190
              · by_cases h189 : b < 189
                · have e : b = 188 := by omega
                  subst e; exact g0_188
                · have e : b = 189 := by omega
                  subst e; exact g0_189
              · by_cases h191 : b < 191
                · have e : b = 190 := by omega
                  subst e; exact g0_190
                · have e : b = 191 := by omega
                  subst e; exact g0_191
      · by_cases h206 : b < 206
        · by_cases h199 : b < 199
          · by_cases h195 : b < 195
            · by_cases h193 : b < 193
              · have e : b = 192 := by omega
                subst e; exact g0_192
              · by_cases h194 : b < 194
                · have e : b = 193 := by omega
                  subst e; exact g0_193
                · have e : b = 194 := by omega
                  subst e; exact g0_194
            · by_cases h197 : b < 197
              · by_cases h196 : b < 196
                · have e : b = 195 := by omega
                  subst e; exact g0_195
                · have e : b = 196 := by omega
                  subst e; exact g0_196
              · by_cases h198 : b < 198
                · have e : b = 197 := by omega
                  subst e; exact g0_197
                · have e : b = 198 := by omega
                  subst e; exact g0_198
          · by_cases h202 : b < 202
            · by_cases h200 : b < 200
              · have e : b = 199 := by omega
                subst e; exact g0_199
              · by_cases h201 : b < 201
                · have e : b = 200 := by omega
                  subst e; exact g0_200
                · have e : b = 201 := by omega
                  subst e; exact g0_201
            · by_cases h204 : b < 204
              · by_cases h203 : b < 203
                · have e : b = 202 := by omega
                  subst e; exact g0_202
                · have e : b = 203 := by omega
                  subst e; exact g0_203
              · by_cases h205 : b < 205
                · have e : b = 204 := by omega
                  subst e; exact g0_204
                · have e : b = 205 := by omega
                  subst e; exact g0_205
        · by_cases h213 : b < 213
          · by_cases h209 : b < 209
            · by_cases h207 : b < 207
              · have e : b = 206 := by omega
                subst e; exact g0_206
              · by_cases h208 : b < 208
                · have e : b = 207 := by omega
                  subst e; exact g0_207
                · have e : b = 208 := by omega
                  subst e; exact g0_208
            · by_cases h211 : b < 211
              · by_cases h210 : b < 210
                · have e : b = 209 := by omega
                  subst e; exact g0_209
                · have e : b = 210 := by omega
                  subst e; exact g0_210
              · by_cases h212 : b < 212
                · have e : b = 211 := by omega
                  subst e; exact g0_211
                · have e : b = 212 := by omega
                  subst e; exact g0_212
          · by_cases h216 : b < 216
            · by_cases h214 : b < 214
              · have e : b = 213 := by omega
                subst e; exact g0_213
              · by_cases h215 : b < 215
                · have e : b = 214 := by omega
                  subst e; exact g0_214
                · have e : b = 215 := by omega
                  subst e; exact g0_215
            · by_cases h218 : b < 218
              · by_cases h217 : b < 217
                · have e : b = 216 := by omega
                  subst e; exact g0_216
                · have e : b = 217 := by omega
                  subst e; exact g0_217
              · by_cases h219 : b < 219
                · have e : b = 218 := by omega
                  subst e; exact g0_218
                · have e : b = 219 := by omega
                  subst e; exact g0_219
