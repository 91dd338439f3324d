-- calls, printed by my program
theorem cc_0_17_0 (L : Nat) (xs : Nat → Int32) (h : AH) (a0 : Nat) : cfD (XM L xs) 0 17 0 [.ref a0] h = XM L xs 115 [.ref a0] h := rfl
theorem cc_0_22_0 (L : Nat) (xs : Nat → Int32) (h : AH) (a0 : Int32) : cfD (XM L xs) 0 22 0 [.int a0] h = XM L xs 32 [.int a0] h := rfl
theorem cc_0_26_1 (L : Nat) (xs : Nat → Int32) (h : AH) (a0 : Nat) (a1 : Nat) : cfD (XM L xs) 0 26 1 [.ref a0, .ref a1] h = XM L xs 33 [.ref a0, .ref a1] h := rfl
theorem cc_0_30_1 (L : Nat) (xs : Nat → Int32) (h : AH) (a0 : Nat) (a1 : Int32) : cfD (XM L xs) 0 30 1 [.ref a0, .int a1] h = XM L xs 25 [.ref a0, .int a1] h := rfl
theorem cc_0_35_1 (L : Nat) (xs : Nat → Int32) (h : AH) (a0 : Nat) : cfD (XM L xs) 0 35 1 [.ref a0] h = XM L xs 34 [.ref a0] h := rfl
theorem cc_0_39_1 (L : Nat) (xs : Nat → Int32) (h : AH) (a0 : Nat) (a1 : Int32) (a2 : Nat) (a3 : Int64) (a4 : Int32) : cfD (XM L xs) 0 39 1 [.ref a0, .int a1, .ref a2, .long a3, .int a4] h = XM L xs 35 [.ref a0, .int a1, .ref a2, .long a3, .int a4] h := rfl
theorem cc_0_43_1 (L : Nat) (xs : Nat → Int32) (h : AH) (a0 : Nat) (a1 : Int32) : cfD (XM L xs) 0 43 1 [.ref a0, .int a1] h = XM L xs 26 [.ref a0, .int a1] h := rfl
theorem cc_0_47_1 (L : Nat) (xs : Nat → Int32) (h : AH) (a0 : Nat) (a1 : Int32) : cfD (XM L xs) 0 47 1 [.ref a0, .int a1] h = XM L xs 30 [.ref a0, .int a1] h := rfl
theorem cc_0_51_2 (L : Nat) (xs : Nat → Int32) (h : AH) (a0 : Nat) : cfD (XM L xs) 0 51 2 [.ref a0] h = XM L xs 116 [.ref a0] h := rfl
theorem cc_0_54_5 (L : Nat) (xs : Nat → Int32) (h : AH) (a0 : Nat) : cfD (XM L xs) 0 54 5 [.ref a0] h = XM L xs 158 [.ref a0] h := rfl
theorem cc_0_54_7 (L : Nat) (xs : Nat → Int32) (h : AH) (a0 : Nat) : cfD (XM L xs) 0 54 7 [.ref a0] h = XM L xs 158 [.ref a0] h := rfl
theorem cc_0_64_5 (L : Nat) (xs : Nat → Int32) (h : AH) (a0 : Nat) (a1 : Int64) : cfD (XM L xs) 0 64 5 [.ref a0, .long a1] h = XM L xs 162 [.ref a0, .long a1] h := rfl
theorem cc_0_64_7 (L : Nat) (xs : Nat → Int32) (h : AH) (a0 : Nat) (a1 : Int64) : cfD (XM L xs) 0 64 7 [.ref a0, .long a1] h = XM L xs 162 [.ref a0, .long a1] h := rfl
theorem cc_0_68_1 (L : Nat) (xs : Nat → Int32) (h : AH) (a0 : Nat) (a1 : Nat) : cfD (XM L xs) 0 68 1 [.ref a0, .ref a1] h = XM L xs 37 [.ref a0, .ref a1] h := rfl
theorem cc_0_72_1 (L : Nat) (xs : Nat → Int32) (h : AH) (a0 : Nat) (a1 : Int32) (a2 : Nat) (a3 : Int32) (a4 : Int32) : cfD (XM L xs) 0 72 1 [.ref a0, .int a1, .ref a2, .int a3, .int a4] h = XM L xs 39 [.ref a0, .int a1, .ref a2, .int a3, .int a4] h := rfl
theorem cc_0_81_5 (L : Nat) (xs : Nat → Int32) (h : AH) (a0 : Nat) (a1 : Nat) : cfD (XM L xs) 0 81 5 [.ref a0, .ref a1] h = XM L xs 163 [.ref a0, .ref a1] h := rfl
theorem cc_0_81_7 (L : Nat) (xs : Nat → Int32) (h : AH) (a0 : Nat) (a1 : Nat) : cfD (XM L xs) 0 81 7 [.ref a0, .ref a1] h = XM L xs 163 [.ref a0, .ref a1] h := rfl
theorem cc_0_87_1 (L : Nat) (xs : Nat → Int32) (h : AH) (a0 : Nat) (a1 : Int32) (a2 : Int64) (a3 : Int32) : cfD (XM L xs) 0 87 1 [.ref a0, .int a1, .long a2, .int a3] h = XM L xs 36 [.ref a0, .int a1, .long a2, .int a3] h := rfl
theorem cc_0_91_1 (L : Nat) (xs : Nat → Int32) (h : AH) (a0 : Nat) (a1 : Int32) : cfD (XM L xs) 0 91 1 [.ref a0, .int a1] h = XM L xs 27 [.ref a0, .int a1] h := rfl
theorem cc_0_98_7 (L : Nat) (xs : Nat → Int32) (h : AH) (a0 : Nat) : cfD (XM L xs) 0 98 7 [.ref a0] h = XM L xs 158 [.ref a0] h := rfl
theorem cc_0_102_0 (L : Nat) (xs : Nat → Int32) (h : AH) (a0 : Nat) : cfD (XM L xs) 0 102 0 [.ref a0] h = XM L xs 170 [.ref a0] h := rfl
theorem cc_0_103_7 (L : Nat) (xs : Nat → Int32) (h : AH) (a0 : Nat) (a1 : Int64) (a2 : Nat) : cfD (XM L xs) 0 103 7 [.ref a0, .long a1, .ref a2] h = XM L xs 177 [.ref a0, .long a1, .ref a2] h := rfl
theorem cc_0_110_1 (L : Nat) (xs : Nat → Int32) (h : AH) (a0 : Nat) (a1 : Int32) (a2 : Int32) : cfD (XM L xs) 0 110 1 [.ref a0, .int a1, .int a2] h = XM L xs 31 [.ref a0, .int a1, .int a2] h := rfl
theorem cc_0_114_7 (L : Nat) (xs : Nat → Int32) (h : AH) (a0 : Nat) (a1 : Nat) : cfD (XM L xs) 0 114 7 [.ref a0, .ref a1] h = XM L xs 175 [.ref a0, .ref a1] h := rfl
theorem cc_0_121_0 (L : Nat) (xs : Nat → Int32) (h : AH) (a0 : Int32) : cfD (XM L xs) 0 121 0 [.int a0] h = XM L xs 41 [.int a0] h := rfl
theorem cc_0_124_7 (L : Nat) (xs : Nat → Int32) (h : AH) (a0 : Nat) (a1 : Nat) : cfD (XM L xs) 0 124 7 [.ref a0, .ref a1] h = XM L xs 176 [.ref a0, .ref a1] h := rfl
theorem cc_0_128_0 (L : Nat) (xs : Nat → Int32) (h : AH) (a0 : Nat) (a1 : Nat) : cfD (XM L xs) 0 128 0 [.ref a0, .ref a1] h = XM L xs 38 [.ref a0, .ref a1] h := rfl
theorem cc_0_132_1 (L : Nat) (xs : Nat → Int32) (h : AH) (a0 : Nat) (a1 : Int32) : cfD (XM L xs) 0 132 1 [.ref a0, .int a1] h = XM L xs 28 [.ref a0, .int a1] h := rfl
theorem cc_0_142_3 (L : Nat) (xs : Nat → Int32) (h : AH) (a0 : Nat) : cfD (XM L xs) 0 142 3 [.ref a0] h = XM L xs 123 [.ref a0] h := rfl
theorem cc_0_146_3 (L : Nat) (xs : Nat → Int32) (h : AH) (a0 : Nat) : cfD (XM L xs) 0 146 3 [.ref a0] h = XM L xs 127 [.ref a0] h := rfl
theorem cc_0_150_3 (L : Nat) (xs : Nat → Int32) (h : AH) (a0 : Nat) (a1 : Nat) : cfD (XM L xs) 0 150 3 [.ref a0, .ref a1] h = XM L xs 125 [.ref a0, .ref a1] h := rfl
theorem cc_0_154_0 (L : Nat) (xs : Nat → Int32) (h : AH) (a0 : Int32) (a1 : Int32) : cfD (XM L xs) 0 154 0 [.int a0, .int a1] h = XM L xs 42 [.int a0, .int a1] h := rfl
theorem cc_0_157_3 (L : Nat) (xs : Nat → Int32) (h : AH) (a0 : Nat) (a1 : Nat) : cfD (XM L xs) 0 157 3 [.ref a0, .ref a1] h = XM L xs 126 [.ref a0, .ref a1] h := rfl
theorem cc_0_160_1 (L : Nat) (xs : Nat → Int32) (h : AH) (a0 : Nat) (a1 : Int32) : cfD (XM L xs) 0 160 1 [.ref a0, .int a1] h = XM L xs 29 [.ref a0, .int a1] h := rfl
theorem cc_0_166_6 (L : Nat) (xs : Nat → Int32) (h : AH) (a0 : Nat) (a1 : Int32) : cfD (XM L xs) 0 166 6 [.ref a0, .int a1] h = XM L xs 151 [.ref a0, .int a1] h := rfl
theorem cc_0_177_6 (L : Nat) (xs : Nat → Int32) (h : AH) (a0 : Nat) : cfD (XM L xs) 0 177 6 [.ref a0] h = XM L xs 152 [.ref a0] h := rfl
theorem cc_0_184_3 (L : Nat) (xs : Nat → Int32) (h : AH) (a0 : Nat) : cfD (XM L xs) 0 184 3 [.ref a0] h = XM L xs 155 [.ref a0] h := rfl
theorem cc_0_184_5 (L : Nat) (xs : Nat → Int32) (h : AH) (a0 : Nat) : cfD (XM L xs) 0 184 5 [.ref a0] h = XM L xs 160 [.ref a0] h := rfl
theorem cc_0_184_6 (L : Nat) (xs : Nat → Int32) (h : AH) (a0 : Nat) : cfD (XM L xs) 0 184 6 [.ref a0] h = XM L xs 155 [.ref a0] h := rfl
theorem cc_0_184_7 (L : Nat) (xs : Nat → Int32) (h : AH) (a0 : Nat) : cfD (XM L xs) 0 184 7 [.ref a0] h = XM L xs 160 [.ref a0] h := rfl
theorem cc_0_187_3 (L : Nat) (xs : Nat → Int32) (h : AH) (a0 : Nat) : cfD (XM L xs) 0 187 3 [.ref a0] h = XM L xs 156 [.ref a0] h := rfl
theorem cc_0_187_5 (L : Nat) (xs : Nat → Int32) (h : AH) (a0 : Nat) : cfD (XM L xs) 0 187 5 [.ref a0] h = XM L xs 156 [.ref a0] h := rfl
theorem cc_0_187_6 (L : Nat) (xs : Nat → Int32) (h : AH) (a0 : Nat) : cfD (XM L xs) 0 187 6 [.ref a0] h = XM L xs 149 [.ref a0] h := rfl
theorem cc_0_187_7 (L : Nat) (xs : Nat → Int32) (h : AH) (a0 : Nat) : cfD (XM L xs) 0 187 7 [.ref a0] h = XM L xs 156 [.ref a0] h := rfl
theorem cc_0_190_3 (L : Nat) (xs : Nat → Int32) (h : AH) (a0 : Nat) : cfD (XM L xs) 0 190 3 [.ref a0] h = XM L xs 121 [.ref a0] h := rfl
theorem cc_0_190_5 (L : Nat) (xs : Nat → Int32) (h : AH) (a0 : Nat) : cfD (XM L xs) 0 190 5 [.ref a0] h = XM L xs 141 [.ref a0] h := rfl
theorem cc_0_190_6 (L : Nat) (xs : Nat → Int32) (h : AH) (a0 : Nat) : cfD (XM L xs) 0 190 6 [.ref a0] h = XM L xs 147 [.ref a0] h := rfl
theorem cc_0_190_7 (L : Nat) (xs : Nat → Int32) (h : AH) (a0 : Nat) : cfD (XM L xs) 0 190 7 [.ref a0] h = XM L xs 171 [.ref a0] h := rfl
theorem cc_0_196_0 (L : Nat) (xs : Nat → Int32) (h : AH) (a0 : Nat) : cfD (XM L xs) 0 196 0 [.ref a0] h = XM L xs 49 [.ref a0] h := rfl
theorem cc_0_200_1 (L : Nat) (xs : Nat → Int32) (h : AH) (a0 : Nat) (a1 : Int32) (a2 : Int32) : cfD (XM L xs) 0 200 1 [.ref a0, .int a1, .int a2] h = XM L xs 43 [.ref a0, .int a1, .int a2] h := rfl
theorem cc_0_203_3 (L : Nat) (xs : Nat → Int32) (h : AH) (a0 : Nat) : cfD (XM L xs) 0 203 3 [.ref a0] h = XM L xs 122 [.ref a0] h := rfl
theorem cc_0_203_5 (L : Nat) (xs : Nat → Int32) (h : AH) (a0 : Nat) : cfD (XM L xs) 0 203 5 [.ref a0] h = XM L xs 159 [.ref a0] h := rfl
theorem cc_0_203_6 (L : Nat) (xs : Nat → Int32) (h : AH) (a0 : Nat) : cfD (XM L xs) 0 203 6 [.ref a0] h = XM L xs 148 [.ref a0] h := rfl
theorem cc_0_203_7 (L : Nat) (xs : Nat → Int32) (h : AH) (a0 : Nat) : cfD (XM L xs) 0 203 7 [.ref a0] h = XM L xs 159 [.ref a0] h := rfl
theorem cc_0_206_0 (L : Nat) (xs : Nat → Int32) (h : AH) (a0 : Nat) : cfD (XM L xs) 0 206 0 [.ref a0] h = XM L xs 45 [.ref a0] h := rfl
theorem cc_0_209_1 (L : Nat) (xs : Nat → Int32) (h : AH) (a0 : Nat) (a1 : Int32) (a2 : Int32) : cfD (XM L xs) 0 209 1 [.ref a0, .int a1, .int a2] h = XM L xs 44 [.ref a0, .int a1, .int a2] h := rfl
theorem cc_0_212_0 (L : Nat) (xs : Nat → Int32) (h : AH) (a0 : Nat) (a1 : Int32) : cfD (XM L xs) 0 212 0 [.ref a0, .int a1] h = XM L xs 46 [.ref a0, .int a1] h := rfl
theorem cc_0_224_0 (L : Nat) (xs : Nat → Int32) (h : AH) (a0 : Nat) : cfD (XM L xs) 0 224 0 [.ref a0] h = XM L xs 48 [.ref a0] h := rfl
theorem cc_0_233_4 (L : Nat) (xs : Nat → Int32) (h : AH) (a0 : Nat) : cfD (XM L xs) 0 233 4 [.ref a0] h = XM L xs 133 [.ref a0] h := rfl
theorem cc_0_239_2 (L : Nat) (xs : Nat → Int32) (h : AH) (a0 : Nat) (a1 : Int32) (a2 : Int32) : cfD (XM L xs) 0 239 2 [.ref a0, .int a1, .int a2] h = XM L xs 118 [.ref a0, .int a1, .int a2] h := rfl
theorem cc_0_242_2 (L : Nat) (xs : Nat → Int32) (h : AH) (a0 : Nat) (a1 : Int32) : cfD (XM L xs) 0 242 2 [.ref a0, .int a1] h = XM L xs 119 [.ref a0, .int a1] h := rfl
theorem cc_0_250_0 (L : Nat) (xs : Nat → Int32) (h : AH) (a0 : Nat) : cfD (XM L xs) 0 250 0 [.ref a0] h = XM L xs 140 [.ref a0] h := rfl
theorem cc_0_251_0 (L : Nat) (xs : Nat → Int32) (h : AH) (a0 : Nat) (a1 : Int32) : cfD (XM L xs) 0 251 0 [.ref a0, .int a1] h = XM L xs 120 [.ref a0, .int a1] h := rfl
theorem cc_0_254_0 (L : Nat) (xs : Nat → Int32) (h : AH) (a0 : Nat) (a1 : Int32) : cfD (XM L xs) 0 254 0 [.ref a0, .int a1] h = XM L xs 146 [.ref a0, .int a1] h := rfl
theorem cc_0_258_3 (L : Nat) (xs : Nat → Int32) (h : AH) (a0 : Nat) (a1 : Int64) (a2 : Int32) (a3 : Int32) : cfD (XM L xs) 0 258 3 [.ref a0, .long a1, .int a2, .int a3] h = XM L xs 124 [.ref a0, .long a1, .int a2, .int a3] h := rfl
theorem cc_0_258_5 (L : Nat) (xs : Nat → Int32) (h : AH) (a0 : Nat) (a1 : Int64) (a2 : Int32) (a3 : Int32) : cfD (XM L xs) 0 258 5 [.ref a0, .long a1, .int a2, .int a3] h = XM L xs 161 [.ref a0, .long a1, .int a2, .int a3] h := rfl
theorem cc_0_258_6 (L : Nat) (xs : Nat → Int32) (h : AH) (a0 : Nat) (a1 : Int64) (a2 : Int32) (a3 : Int32) : cfD (XM L xs) 0 258 6 [.ref a0, .long a1, .int a2, .int a3] h = XM L xs 150 [.ref a0, .long a1, .int a2, .int a3] h := rfl
theorem cc_0_258_7 (L : Nat) (xs : Nat → Int32) (h : AH) (a0 : Nat) (a1 : Int64) (a2 : Int32) (a3 : Int32) : cfD (XM L xs) 0 258 7 [.ref a0, .long a1, .int a2, .int a3] h = XM L xs 161 [.ref a0, .long a1, .int a2, .int a3] h := rfl
theorem cc_0_262_5 (L : Nat) (xs : Nat → Int32) (h : AH) (a0 : Nat) (a1 : Int64) (a2 : Int32) : cfD (XM L xs) 0 262 5 [.ref a0, .long a1, .int a2] h = XM L xs 164 [.ref a0, .long a1, .int a2] h := rfl
theorem cc_0_262_7 (L : Nat) (xs : Nat → Int32) (h : AH) (a0 : Nat) (a1 : Int64) (a2 : Int32) : cfD (XM L xs) 0 262 7 [.ref a0, .long a1, .int a2] h = XM L xs 164 [.ref a0, .long a1, .int a2] h := rfl
theorem cc_0_266_2 (L : Nat) (xs : Nat → Int32) (h : AH) (a0 : Nat) (a1 : Int32) (a2 : Int32) (a3 : Int32) (a4 : Int32) : cfD (XM L xs) 0 266 2 [.ref a0, .int a1, .int a2, .int a3, .int a4] h = XM L xs 117 [.ref a0, .int a1, .int a2, .int a3, .int a4] h := rfl
theorem cc_0_270_0 (L : Nat) (xs : Nat → Int32) (h : AH) (a0 : Int32) : cfD (XM L xs) 0 270 0 [.int a0] h = XM L xs 40 [.int a0] h := rfl
theorem cc_0_273_0 (L : Nat) (xs : Nat → Int32) (h : AH) (a0 : Nat) (a1 : Nat) : cfD (XM L xs) 0 273 0 [.ref a0, .ref a1] h = XM L xs 185 [.ref a0, .ref a1] h := rfl
theorem cc_0_275_9 (L : Nat) (xs : Nat → Int32) (h : AH) (a0 : Nat) : cfD (XM L xs) 0 275 9 [.ref a0] h = XM L xs 187 [.ref a0] h := rfl
theorem cc_0_281_9 (L : Nat) (xs : Nat → Int32) (h : AH) (a0 : Nat) : cfD (XM L xs) 0 281 9 [.ref a0] h = XM L xs 186 [.ref a0] h := rfl
theorem cc_1_28_2 (L : Nat) (xs : Nat → Int32) (h : AH) (a0 : Nat) : cfD (XM L xs) 1 28 2 [.ref a0] h = XM L xs 116 [.ref a0] h := rfl
theorem cc_2_3_0 (L : Nat) (xs : Nat → Int32) (h : AH) (a0 : Nat) (a1 : Int32) : cfD (XM L xs) 2 3 0 [.ref a0, .int a1] h = XM L xs 154 [.ref a0, .int a1] h := rfl
theorem cc_2_18_0 (L : Nat) (xs : Nat → Int32) (h : AH) (a0 : Int32) (a1 : Int32) : cfD (XM L xs) 2 18 0 [.int a0, .int a1] h = XM L xs 42 [.int a0, .int a1] h := rfl
theorem cc_2_31_0 (L : Nat) (xs : Nat → Int32) (h : AH) (a0 : Nat) : cfD (XM L xs) 2 31 0 [.ref a0] h = XM L xs 47 [.ref a0] h := rfl
theorem cc_2_38_0 (L : Nat) (xs : Nat → Int32) (h : AH) (a0 : Nat) (a1 : Int64) (a2 : Int32) (a3 : Int32) : cfD (XM L xs) 2 38 0 [.ref a0, .long a1, .int a2, .int a3] h = XM L xs 132 [.ref a0, .long a1, .int a2, .int a3] h := rfl
theorem cc_2_41_3 (L : Nat) (xs : Nat → Int32) (h : AH) (a0 : Nat) (a1 : Nat) (a2 : Nat) : cfD (XM L xs) 2 41 3 [.ref a0, .ref a1, .ref a2] h = XM L xs 128 [.ref a0, .ref a1, .ref a2] h := rfl
theorem cc_2_48_0 (L : Nat) (xs : Nat → Int32) (h : AH) (a0 : Nat) : cfD (XM L xs) 2 48 0 [.ref a0] h = XM L xs 130 [.ref a0] h := rfl
theorem cc_2_54_3 (L : Nat) (xs : Nat → Int32) (h : AH) (a0 : Nat) (a1 : Nat) (a2 : Nat) : cfD (XM L xs) 2 54 3 [.ref a0, .ref a1, .ref a2] h = XM L xs 131 [.ref a0, .ref a1, .ref a2] h := rfl
theorem cc_2_61_3 (L : Nat) (xs : Nat → Int32) (h : AH) (a0 : Nat) (a1 : Nat) (a2 : Nat) : cfD (XM L xs) 2 61 3 [.ref a0, .ref a1, .ref a2] h = XM L xs 129 [.ref a0, .ref a1, .ref a2] h := rfl
theorem cc_2_65_4 (L : Nat) (xs : Nat → Int32) (h : AH) (a0 : Nat) (a1 : Nat) : cfD (XM L xs) 2 65 4 [.ref a0, .ref a1] h = XM L xs 138 [.ref a0, .ref a1] h := rfl
theorem cc_3_22_0 (L : Nat) (xs : Nat → Int32) (h : AH) (a0 : Nat) (a1 : Int32) : cfD (XM L xs) 3 22 0 [.ref a0, .int a1] h = XM L xs 184 [.ref a0, .int a1] h := rfl
theorem cc_4_3_0 (L : Nat) (xs : Nat → Int32) (h : AH) (a0 : Nat) (a1 : Int32) : cfD (XM L xs) 4 3 0 [.ref a0, .int a1] h = XM L xs 157 [.ref a0, .int a1] h := rfl
theorem cc_4_24_5 (L : Nat) (xs : Nat → Int32) (h : AH) (a0 : Nat) (a1 : Nat) : cfD (XM L xs) 4 24 5 [.ref a0, .ref a1] h = XM L xs 165 [.ref a0, .ref a1] h := rfl
theorem cc_4_28_4 (L : Nat) (xs : Nat → Int32) (h : AH) (a0 : Nat) (a1 : Nat) : cfD (XM L xs) 4 28 4 [.ref a0, .ref a1] h = XM L xs 136 [.ref a0, .ref a1] h := rfl
theorem cc_4_32_5 (L : Nat) (xs : Nat → Int32) (h : AH) (a0 : Nat) (a1 : Nat) (a2 : Nat) : cfD (XM L xs) 4 32 5 [.ref a0, .ref a1, .ref a2] h = XM L xs 145 [.ref a0, .ref a1, .ref a2] h := rfl
theorem cc_4_42_4 (L : Nat) (xs : Nat → Int32) (h : AH) (a0 : Nat) (a1 : Nat) : cfD (XM L xs) 4 42 4 [.ref a0, .ref a1] h = XM L xs 138 [.ref a0, .ref a1] h := rfl
theorem cc_4_45_4 (L : Nat) (xs : Nat → Int32) (h : AH) (a0 : Nat) (a1 : Nat) : cfD (XM L xs) 4 45 4 [.ref a0, .ref a1] h = XM L xs 139 [.ref a0, .ref a1] h := rfl
theorem cc_5_3_0 (L : Nat) (xs : Nat → Int32) (h : AH) (a0 : Nat) (a1 : Int32) : cfD (XM L xs) 5 3 0 [.ref a0, .int a1] h = XM L xs 154 [.ref a0, .int a1] h := rfl
theorem cc_5_22_6 (L : Nat) (xs : Nat → Int32) (h : AH) (a0 : Nat) (a1 : Int32) : cfD (XM L xs) 5 22 6 [.ref a0, .int a1] h = XM L xs 153 [.ref a0, .int a1] h := rfl
theorem cc_6_3_0 (L : Nat) (xs : Nat → Int32) (h : AH) (a0 : Nat) (a1 : Int32) : cfD (XM L xs) 6 3 0 [.ref a0, .int a1] h = XM L xs 157 [.ref a0, .int a1] h := rfl
theorem cc_6_27_7 (L : Nat) (xs : Nat → Int32) (h : AH) (a0 : Nat) (a1 : Nat) (a2 : Nat) : cfD (XM L xs) 6 27 7 [.ref a0, .ref a1, .ref a2] h = XM L xs 183 [.ref a0, .ref a1, .ref a2] h := rfl
theorem cc_6_40_7 (L : Nat) (xs : Nat → Int32) (h : AH) (a0 : Nat) (a1 : Nat) (a2 : Int32) : cfD (XM L xs) 6 40 7 [.ref a0, .ref a1, .int a2] h = XM L xs 182 [.ref a0, .ref a1, .int a2] h := rfl
theorem cc_6_47_0 (L : Nat) (xs : Nat → Int32) (h : AH) (a0 : Int32) : cfD (XM L xs) 6 47 0 [.int a0] h = XM L xs 40 [.int a0] h := rfl
theorem cc_6_51_7 (L : Nat) (xs : Nat → Int32) (h : AH) (a0 : Nat) (a1 : Nat) : cfD (XM L xs) 6 51 7 [.ref a0, .ref a1] h = XM L xs 180 [.ref a0, .ref a1] h := rfl
theorem cc_6_55_7 (L : Nat) (xs : Nat → Int32) (h : AH) (a0 : Nat) (a1 : Nat) : cfD (XM L xs) 6 55 7 [.ref a0, .ref a1] h = XM L xs 165 [.ref a0, .ref a1] h := rfl
theorem cc_6_59_7 (L : Nat) (xs : Nat → Int32) (h : AH) (a0 : Nat) (a1 : Nat) : cfD (XM L xs) 6 59 7 [.ref a0, .ref a1] h = XM L xs 172 [.ref a0, .ref a1] h := rfl
theorem cc_6_62_7 (L : Nat) (xs : Nat → Int32) (h : AH) (a0 : Nat) (a1 : Nat) : cfD (XM L xs) 6 62 7 [.ref a0, .ref a1] h = XM L xs 181 [.ref a0, .ref a1] h := rfl
theorem cc_6_75_7 (L : Nat) (xs : Nat → Int32) (h : AH) (a0 : Nat) : cfD (XM L xs) 6 75 7 [.ref a0] h = XM L xs 179 [.ref a0] h := rfl
theorem cc_6_79_7 (L : Nat) (xs : Nat → Int32) (h : AH) (a0 : Nat) (a1 : Int64) (a2 : Int32) : cfD (XM L xs) 6 79 7 [.ref a0, .long a1, .int a2] h = XM L xs 164 [.ref a0, .long a1, .int a2] h := rfl
theorem cc_6_83_0 (L : Nat) (xs : Nat → Int32) (h : AH) (a0 : Nat) : cfD (XM L xs) 6 83 0 [.ref a0] h = XM L xs 47 [.ref a0] h := rfl
theorem cc_6_87_7 (L : Nat) (xs : Nat → Int32) (h : AH) (a0 : Nat) : cfD (XM L xs) 6 87 7 [.ref a0] h = XM L xs 178 [.ref a0] h := rfl
theorem cc_6_92_0 (L : Nat) (xs : Nat → Int32) (h : AH) (a0 : Nat) (a1 : Nat) : cfD (XM L xs) 6 92 0 [.ref a0, .ref a1] h = XM L xs 185 [.ref a0, .ref a1] h := rfl
theorem cc_6_98_9 (L : Nat) (xs : Nat → Int32) (h : AH) (a0 : Nat) : cfD (XM L xs) 6 98 9 [.ref a0] h = XM L xs 187 [.ref a0] h := rfl
theorem cc_6_101_4 (L : Nat) (xs : Nat → Int32) (h : AH) (a0 : Nat) (a1 : Nat) : cfD (XM L xs) 6 101 4 [.ref a0, .ref a1] h = XM L xs 139 [.ref a0, .ref a1] h := rfl
theorem cc_6_104_4 (L : Nat) (xs : Nat → Int32) (h : AH) (a0 : Nat) (a1 : Nat) : cfD (XM L xs) 6 104 4 [.ref a0, .ref a1] h = XM L xs 138 [.ref a0, .ref a1] h := rfl
theorem cc_8_25_9 (L : Nat) (xs : Nat → Int32) (h : AH) (a0 : Nat) : cfD (XM L xs) 8 25 9 [.ref a0] h = XM L xs 188 [.ref a0] h := rfl
theorem cc_9_99_10 (L : Nat) (xs : Nat → Int32) (h : AH) (a0 : Nat) (a1 : Int64) : cfD (XM L xs) 9 99 10 [.ref a0, .long a1] h = XM L xs 54 [.ref a0, .long a1] h := rfl
theorem cc_9_109_10 (L : Nat) (xs : Nat → Int32) (h : AH) (a0 : Nat) (a1 : Int32) : cfD (XM L xs) 9 109 10 [.ref a0, .int a1] h = XM L xs 59 [.ref a0, .int a1] h := rfl
theorem cc_9_113_10 (L : Nat) (xs : Nat → Int32) (h : AH) (a0 : Nat) (a1 : Int32) : cfD (XM L xs) 9 113 10 [.ref a0, .int a1] h = XM L xs 62 [.ref a0, .int a1] h := rfl
theorem cc_9_117_0 (L : Nat) (xs : Nat → Int32) (h : AH) (a0 : Int32) : cfD (XM L xs) 9 117 0 [.int a0] h = XM L xs 51 [.int a0] h := rfl
theorem cc_9_121_10 (L : Nat) (xs : Nat → Int32) (h : AH) (a0 : Nat) (a1 : Int32) : cfD (XM L xs) 9 121 10 [.ref a0, .int a1] h = XM L xs 61 [.ref a0, .int a1] h := rfl
theorem cc_9_130_10 (L : Nat) (xs : Nat → Int32) (h : AH) (a0 : Nat) (a1 : Int32) : cfD (XM L xs) 9 130 10 [.ref a0, .int a1] h = XM L xs 65 [.ref a0, .int a1] h := rfl
theorem cc_9_133_10 (L : Nat) (xs : Nat → Int32) (h : AH) (a0 : Nat) (a1 : Int32) (a2 : Int32) : cfD (XM L xs) 9 133 10 [.ref a0, .int a1, .int a2] h = XM L xs 67 [.ref a0, .int a1, .int a2] h := rfl
theorem cc_9_137_10 (L : Nat) (xs : Nat → Int32) (h : AH) (a0 : Nat) (a1 : Int32) (a2 : Int32) : cfD (XM L xs) 9 137 10 [.ref a0, .int a1, .int a2] h = XM L xs 68 [.ref a0, .int a1, .int a2] h := rfl
theorem cc_9_140_10 (L : Nat) (xs : Nat → Int32) (h : AH) (a0 : Nat) (a1 : Int32) : cfD (XM L xs) 9 140 10 [.ref a0, .int a1] h = XM L xs 69 [.ref a0, .int a1] h := rfl
theorem cc_9_143_10 (L : Nat) (xs : Nat → Int32) (h : AH) (a0 : Nat) (a1 : Int32) : cfD (XM L xs) 9 143 10 [.ref a0, .int a1] h = XM L xs 70 [.ref a0, .int a1] h := rfl
theorem cc_9_146_10 (L : Nat) (xs : Nat → Int32) (h : AH) (a0 : Nat) (a1 : Int32) (a2 : Int64) (a3 : Int32) : cfD (XM L xs) 9 146 10 [.ref a0, .int a1, .long a2, .int a3] h = XM L xs 93 [.ref a0, .int a1, .long a2, .int a3] h := rfl
theorem cc_9_150_10 (L : Nat) (xs : Nat → Int32) (h : AH) (a0 : Nat) (a1 : Int32) : cfD (XM L xs) 9 150 10 [.ref a0, .int a1] h = XM L xs 64 [.ref a0, .int a1] h := rfl
theorem cc_9_153_10 (L : Nat) (xs : Nat → Int32) (h : AH) (a0 : Nat) (a1 : Int32) : cfD (XM L xs) 9 153 10 [.ref a0, .int a1] h = XM L xs 71 [.ref a0, .int a1] h := rfl
theorem cc_9_156_10 (L : Nat) (xs : Nat → Int32) (h : AH) (a0 : Nat) (a1 : Int32) (a2 : Int64) : cfD (XM L xs) 9 156 10 [.ref a0, .int a1, .long a2] h = XM L xs 72 [.ref a0, .int a1, .long a2] h := rfl
theorem cc_9_160_10 (L : Nat) (xs : Nat → Int32) (h : AH) (a0 : Nat) (a1 : Int64) : cfD (XM L xs) 9 160 10 [.ref a0, .long a1] h = XM L xs 52 [.ref a0, .long a1] h := rfl
theorem cc_9_163_10 (L : Nat) (xs : Nat → Int32) (h : AH) (a0 : Nat) (a1 : Int32) (a2 : Int32) : cfD (XM L xs) 9 163 10 [.ref a0, .int a1, .int a2] h = XM L xs 56 [.ref a0, .int a1, .int a2] h := rfl
theorem cc_9_166_10 (L : Nat) (xs : Nat → Int32) (h : AH) (a0 : Nat) (a1 : Int32) : cfD (XM L xs) 9 166 10 [.ref a0, .int a1] h = XM L xs 57 [.ref a0, .int a1] h := rfl
theorem cc_9_169_10 (L : Nat) (xs : Nat → Int32) (h : AH) (a0 : Nat) (a1 : Int32) (a2 : Int32) : cfD (XM L xs) 9 169 10 [.ref a0, .int a1, .int a2] h = XM L xs 73 [.ref a0, .int a1, .int a2] h := rfl
theorem cc_9_172_10 (L : Nat) (xs : Nat → Int32) (h : AH) (a0 : Nat) (a1 : Int32) (a2 : Int32) : cfD (XM L xs) 9 172 10 [.ref a0, .int a1, .int a2] h = XM L xs 66 [.ref a0, .int a1, .int a2] h := rfl
theorem cc_9_175_10 (L : Nat) (xs : Nat → Int32) (h : AH) (a0 : Nat) (a1 : Int32) : cfD (XM L xs) 9 175 10 [.ref a0, .int a1] h = XM L xs 63 [.ref a0, .int a1] h := rfl
theorem cc_9_178_10 (L : Nat) (xs : Nat → Int32) (h : AH) (a0 : Nat) (a1 : Int32) (a2 : Int64) (a3 : Int32) : cfD (XM L xs) 9 178 10 [.ref a0, .int a1, .long a2, .int a3] h = XM L xs 74 [.ref a0, .int a1, .long a2, .int a3] h := rfl
theorem cc_9_181_10 (L : Nat) (xs : Nat → Int32) (h : AH) (a0 : Nat) (a1 : Int32) : cfD (XM L xs) 9 181 10 [.ref a0, .int a1] h = XM L xs 60 [.ref a0, .int a1] h := rfl
theorem cc_9_188_10 (L : Nat) (xs : Nat → Int32) (h : AH) (a0 : Nat) (a1 : Int32) : cfD (XM L xs) 9 188 10 [.ref a0, .int a1] h = XM L xs 58 [.ref a0, .int a1] h := rfl
theorem cc_9_194_10 (L : Nat) (xs : Nat → Int32) (h : AH) (a0 : Nat) (a1 : Int32) : cfD (XM L xs) 9 194 10 [.ref a0, .int a1] h = XM L xs 55 [.ref a0, .int a1] h := rfl
theorem cc_9_197_10 (L : Nat) (xs : Nat → Int32) (h : AH) (a0 : Nat) (a1 : Int32) : cfD (XM L xs) 9 197 10 [.ref a0, .int a1] h = XM L xs 78 [.ref a0, .int a1] h := rfl
theorem cc_9_200_10 (L : Nat) (xs : Nat → Int32) (h : AH) (a0 : Nat) (a1 : Int32) (a2 : Int32) : cfD (XM L xs) 9 200 10 [.ref a0, .int a1, .int a2] h = XM L xs 80 [.ref a0, .int a1, .int a2] h := rfl
theorem cc_9_203_10 (L : Nat) (xs : Nat → Int32) (h : AH) (a0 : Nat) (a1 : Int32) : cfD (XM L xs) 9 203 10 [.ref a0, .int a1] h = XM L xs 53 [.ref a0, .int a1] h := rfl
theorem cc_9_206_10 (L : Nat) (xs : Nat → Int32) (h : AH) (a0 : Nat) (a1 : Int32) : cfD (XM L xs) 9 206 10 [.ref a0, .int a1] h = XM L xs 79 [.ref a0, .int a1] h := rfl
theorem cc_9_209_10 (L : Nat) (xs : Nat → Int32) (h : AH) (a0 : Nat) (a1 : Int32) (a2 : Int32) (a3 : Int32) : cfD (XM L xs) 9 209 10 [.ref a0, .int a1, .int a2, .int a3] h = XM L xs 81 [.ref a0, .int a1, .int a2, .int a3] h := rfl
theorem cc_9_216_10 (L : Nat) (xs : Nat → Int32) (h : AH) (a0 : Nat) (a1 : Int32) (a2 : Int64) (a3 : Int32) : cfD (XM L xs) 9 216 10 [.ref a0, .int a1, .long a2, .int a3] h = XM L xs 82 [.ref a0, .int a1, .long a2, .int a3] h := rfl
theorem cc_9_220_10 (L : Nat) (xs : Nat → Int32) (h : AH) (a0 : Nat) (a1 : Int32) (a2 : Int64) (a3 : Int32) : cfD (XM L xs) 9 220 10 [.ref a0, .int a1, .long a2, .int a3] h = XM L xs 83 [.ref a0, .int a1, .long a2, .int a3] h := rfl
theorem cc_9_223_10 (L : Nat) (xs : Nat → Int32) (h : AH) (a0 : Nat) (a1 : Int32) : cfD (XM L xs) 9 223 10 [.ref a0, .int a1] h = XM L xs 101 [.ref a0, .int a1] h := rfl
theorem cc_9_226_10 (L : Nat) (xs : Nat → Int32) (h : AH) (a0 : Nat) (a1 : Int32) (a2 : Int32) : cfD (XM L xs) 9 226 10 [.ref a0, .int a1, .int a2] h = XM L xs 87 [.ref a0, .int a1, .int a2] h := rfl
theorem cc_9_230_10 (L : Nat) (xs : Nat → Int32) (h : AH) (a0 : Nat) (a1 : Int32) (a2 : Int32) (a3 : Int32) : cfD (XM L xs) 9 230 10 [.ref a0, .int a1, .int a2, .int a3] h = XM L xs 89 [.ref a0, .int a1, .int a2, .int a3] h := rfl
theorem cc_9_237_10 (L : Nat) (xs : Nat → Int32) (h : AH) (a0 : Nat) (a1 : Int32) (a2 : Int32) (a3 : Int32) : cfD (XM L xs) 9 237 10 [.ref a0, .int a1, .int a2, .int a3] h = XM L xs 90 [.ref a0, .int a1, .int a2, .int a3] h := rfl
theorem cc_9_241_0 (L : Nat) (xs : Nat → Int32) (h : AH) (a0 : Int32) (a1 : Int32) : cfD (XM L xs) 9 241 0 [.int a0, .int a1] h = XM L xs 91 [.int a0, .int a1] h := rfl
theorem cc_9_244_10 (L : Nat) (xs : Nat → Int32) (h : AH) (a0 : Nat) (a1 : Int32) : cfD (XM L xs) 9 244 10 [.ref a0, .int a1] h = XM L xs 92 [.ref a0, .int a1] h := rfl
theorem cc_9_247_10 (L : Nat) (xs : Nat → Int32) (h : AH) (a0 : Nat) (a1 : Int32) (a2 : Int32) : cfD (XM L xs) 9 247 10 [.ref a0, .int a1, .int a2] h = XM L xs 95 [.ref a0, .int a1, .int a2] h := rfl
theorem cc_9_250_10 (L : Nat) (xs : Nat → Int32) (h : AH) (a0 : Nat) (a1 : Int32) (a2 : Int64) : cfD (XM L xs) 9 250 10 [.ref a0, .int a1, .long a2] h = XM L xs 97 [.ref a0, .int a1, .long a2] h := rfl
theorem cc_9_253_10 (L : Nat) (xs : Nat → Int32) (h : AH) (a0 : Nat) (a1 : Int32) : cfD (XM L xs) 9 253 10 [.ref a0, .int a1] h = XM L xs 107 [.ref a0, .int a1] h := rfl
theorem cc_9_256_10 (L : Nat) (xs : Nat → Int32) (h : AH) (a0 : Nat) (a1 : Int32) : cfD (XM L xs) 9 256 10 [.ref a0, .int a1] h = XM L xs 108 [.ref a0, .int a1] h := rfl
theorem cc_11_1_0 (L : Nat) (xs : Nat → Int32) (h : AH) (a0 : Nat) (a1 : Int32) : cfD (XM L xs) 11 1 0 [.ref a0, .int a1] h = XM L xs 154 [.ref a0, .int a1] h := rfl
theorem cc_11_13_0 (L : Nat) (xs : Nat → Int32) (h : AH) (a0 : Int32) : cfD (XM L xs) 11 13 0 [.int a0] h = XM L xs 41 [.int a0] h := rfl
theorem cc_11_19_5 (L : Nat) (xs : Nat → Int32) (h : AH) (a0 : Nat) : cfD (XM L xs) 11 19 5 [.ref a0] h = XM L xs 158 [.ref a0] h := rfl
theorem cc_11_19_7 (L : Nat) (xs : Nat → Int32) (h : AH) (a0 : Nat) : cfD (XM L xs) 11 19 7 [.ref a0] h = XM L xs 158 [.ref a0] h := rfl
theorem cc_11_26_5 (L : Nat) (xs : Nat → Int32) (h : AH) (a0 : Nat) (a1 : Int64) : cfD (XM L xs) 11 26 5 [.ref a0, .long a1] h = XM L xs 166 [.ref a0, .long a1] h := rfl
theorem cc_11_26_7 (L : Nat) (xs : Nat → Int32) (h : AH) (a0 : Nat) (a1 : Int64) : cfD (XM L xs) 11 26 7 [.ref a0, .long a1] h = XM L xs 166 [.ref a0, .long a1] h := rfl
theorem cc_11_40_4 (L : Nat) (xs : Nat → Int32) (h : AH) (a0 : Nat) (a1 : Int32) : cfD (XM L xs) 11 40 4 [.ref a0, .int a1] h = XM L xs 134 [.ref a0, .int a1] h := rfl
theorem cc_11_43_0 (L : Nat) (xs : Nat → Int32) (h : AH) (a0 : Nat) (a1 : Int64) (a2 : Int32) (a3 : Int32) : cfD (XM L xs) 11 43 0 [.ref a0, .long a1, .int a2, .int a3] h = XM L xs 132 [.ref a0, .long a1, .int a2, .int a3] h := rfl
theorem cc_11_46_5 (L : Nat) (xs : Nat → Int32) (h : AH) (a0 : Nat) (a1 : Nat) : cfD (XM L xs) 11 46 5 [.ref a0, .ref a1] h = XM L xs 169 [.ref a0, .ref a1] h := rfl
theorem cc_11_46_7 (L : Nat) (xs : Nat → Int32) (h : AH) (a0 : Nat) (a1 : Nat) : cfD (XM L xs) 11 46 7 [.ref a0, .ref a1] h = XM L xs 169 [.ref a0, .ref a1] h := rfl
theorem cc_11_50_5 (L : Nat) (xs : Nat → Int32) (h : AH) (a0 : Nat) (a1 : Nat) : cfD (XM L xs) 11 50 5 [.ref a0, .ref a1] h = XM L xs 142 [.ref a0, .ref a1] h := rfl
theorem cc_11_50_7 (L : Nat) (xs : Nat → Int32) (h : AH) (a0 : Nat) (a1 : Nat) : cfD (XM L xs) 11 50 7 [.ref a0, .ref a1] h = XM L xs 172 [.ref a0, .ref a1] h := rfl
theorem cc_11_54_4 (L : Nat) (xs : Nat → Int32) (h : AH) (a0 : Nat) : cfD (XM L xs) 11 54 4 [.ref a0] h = XM L xs 135 [.ref a0] h := rfl
theorem cc_11_58_5 (L : Nat) (xs : Nat → Int32) (h : AH) (a0 : Nat) (a1 : Nat) : cfD (XM L xs) 11 58 5 [.ref a0, .ref a1] h = XM L xs 144 [.ref a0, .ref a1] h := rfl
theorem cc_11_58_7 (L : Nat) (xs : Nat → Int32) (h : AH) (a0 : Nat) (a1 : Nat) : cfD (XM L xs) 11 58 7 [.ref a0, .ref a1] h = XM L xs 174 [.ref a0, .ref a1] h := rfl
theorem cc_11_73_5 (L : Nat) (xs : Nat → Int32) (h : AH) (a0 : Nat) (a1 : Int64) : cfD (XM L xs) 11 73 5 [.ref a0, .long a1] h = XM L xs 167 [.ref a0, .long a1] h := rfl
theorem cc_11_73_7 (L : Nat) (xs : Nat → Int32) (h : AH) (a0 : Nat) (a1 : Int64) : cfD (XM L xs) 11 73 7 [.ref a0, .long a1] h = XM L xs 167 [.ref a0, .long a1] h := rfl
theorem cc_11_83_4 (L : Nat) (xs : Nat → Int32) (h : AH) (a0 : Nat) (a1 : Int64) : cfD (XM L xs) 11 83 4 [.ref a0, .long a1] h = XM L xs 137 [.ref a0, .long a1] h := rfl
theorem cc_11_87_5 (L : Nat) (xs : Nat → Int32) (h : AH) (a0 : Nat) (a1 : Nat) : cfD (XM L xs) 11 87 5 [.ref a0, .ref a1] h = XM L xs 168 [.ref a0, .ref a1] h := rfl
theorem cc_11_87_7 (L : Nat) (xs : Nat → Int32) (h : AH) (a0 : Nat) (a1 : Nat) : cfD (XM L xs) 11 87 7 [.ref a0, .ref a1] h = XM L xs 168 [.ref a0, .ref a1] h := rfl
theorem cc_11_90_4 (L : Nat) (xs : Nat → Int32) (h : AH) (a0 : Nat) (a1 : Nat) : cfD (XM L xs) 11 90 4 [.ref a0, .ref a1] h = XM L xs 138 [.ref a0, .ref a1] h := rfl
theorem cc_11_93_4 (L : Nat) (xs : Nat → Int32) (h : AH) (a0 : Nat) (a1 : Nat) : cfD (XM L xs) 11 93 4 [.ref a0, .ref a1] h = XM L xs 139 [.ref a0, .ref a1] h := rfl
theorem cc_11_96_5 (L : Nat) (xs : Nat → Int32) (h : AH) (a0 : Nat) (a1 : Nat) : cfD (XM L xs) 11 96 5 [.ref a0, .ref a1] h = XM L xs 143 [.ref a0, .ref a1] h := rfl
theorem cc_11_96_7 (L : Nat) (xs : Nat → Int32) (h : AH) (a0 : Nat) (a1 : Nat) : cfD (XM L xs) 11 96 7 [.ref a0, .ref a1] h = XM L xs 173 [.ref a0, .ref a1] h := rfl
theorem cc_12_9_0 (L : Nat) (xs : Nat → Int32) (h : AH) (a0 : Nat) : cfD (XM L xs) 12 9 0 [.ref a0] h = XM L xs 1 [.ref a0] h := rfl
theorem cc_12_12_0 (L : Nat) (xs : Nat → Int32) (h : AH) (a0 : Nat) : cfD (XM L xs) 12 12 0 [.ref a0] h = XM L xs 50 [.ref a0] h := rfl
theorem cc_12_13_1 (L : Nat) (xs : Nat → Int32) (h : AH) (a0 : Nat) (a1 : Int32) : cfD (XM L xs) 12 13 1 [.ref a0, .int a1] h = XM L xs 2 [.ref a0, .int a1] h := rfl
theorem cc_12_17_10 (L : Nat) (xs : Nat → Int32) (h : AH) (a0 : Nat) (a1 : Int32) : cfD (XM L xs) 12 17 10 [.ref a0, .int a1] h = XM L xs 102 [.ref a0, .int a1] h := rfl
theorem cc_12_20_1 (L : Nat) (xs : Nat → Int32) (h : AH) (a0 : Nat) (a1 : Int32) (a2 : Int64) (a3 : Int32) : cfD (XM L xs) 12 20 1 [.ref a0, .int a1, .long a2, .int a3] h = XM L xs 3 [.ref a0, .int a1, .long a2, .int a3] h := rfl
theorem cc_12_24_10 (L : Nat) (xs : Nat → Int32) (h : AH) (a0 : Nat) (a1 : Int32) (a2 : Int64) (a3 : Int32) : cfD (XM L xs) 12 24 10 [.ref a0, .int a1, .long a2, .int a3] h = XM L xs 75 [.ref a0, .int a1, .long a2, .int a3] h := rfl
theorem cc_12_25_1 (L : Nat) (xs : Nat → Int32) (h : AH) (a0 : Nat) (a1 : Int32) (a2 : Int64) (a3 : Int32) : cfD (XM L xs) 12 25 1 [.ref a0, .int a1, .long a2, .int a3] h = XM L xs 4 [.ref a0, .int a1, .long a2, .int a3] h := rfl
theorem cc_12_28_10 (L : Nat) (xs : Nat → Int32) (h : AH) (a0 : Nat) (a1 : Int32) (a2 : Int64) (a3 : Int32) : cfD (XM L xs) 12 28 10 [.ref a0, .int a1, .long a2, .int a3] h = XM L xs 103 [.ref a0, .int a1, .long a2, .int a3] h := rfl
theorem cc_12_29_1 (L : Nat) (xs : Nat → Int32) (h : AH) (a0 : Nat) (a1 : Int32) (a2 : Int64) : cfD (XM L xs) 12 29 1 [.ref a0, .int a1, .long a2] h = XM L xs 5 [.ref a0, .int a1, .long a2] h := rfl
theorem cc_12_33_10 (L : Nat) (xs : Nat → Int32) (h : AH) (a0 : Nat) (a1 : Int32) (a2 : Int64) : cfD (XM L xs) 12 33 10 [.ref a0, .int a1, .long a2] h = XM L xs 76 [.ref a0, .int a1, .long a2] h := rfl
theorem cc_12_34_1 (L : Nat) (xs : Nat → Int32) (h : AH) (a0 : Nat) (a1 : Int32) (a2 : Int64) : cfD (XM L xs) 12 34 1 [.ref a0, .int a1, .long a2] h = XM L xs 6 [.ref a0, .int a1, .long a2] h := rfl
theorem cc_12_37_10 (L : Nat) (xs : Nat → Int32) (h : AH) (a0 : Nat) (a1 : Int32) (a2 : Int64) : cfD (XM L xs) 12 37 10 [.ref a0, .int a1, .long a2] h = XM L xs 77 [.ref a0, .int a1, .long a2] h := rfl
theorem cc_12_38_1 (L : Nat) (xs : Nat → Int32) (h : AH) (a0 : Nat) (a1 : Int32) (a2 : Int64) : cfD (XM L xs) 12 38 1 [.ref a0, .int a1, .long a2] h = XM L xs 7 [.ref a0, .int a1, .long a2] h := rfl
theorem cc_12_41_10 (L : Nat) (xs : Nat → Int32) (h : AH) (a0 : Nat) (a1 : Int32) (a2 : Int64) : cfD (XM L xs) 12 41 10 [.ref a0, .int a1, .long a2] h = XM L xs 84 [.ref a0, .int a1, .long a2] h := rfl
theorem cc_12_42_1 (L : Nat) (xs : Nat → Int32) (h : AH) (a0 : Nat) (a1 : Int32) (a2 : Int64) : cfD (XM L xs) 12 42 1 [.ref a0, .int a1, .long a2] h = XM L xs 8 [.ref a0, .int a1, .long a2] h := rfl
theorem cc_12_45_10 (L : Nat) (xs : Nat → Int32) (h : AH) (a0 : Nat) (a1 : Int32) (a2 : Int64) : cfD (XM L xs) 12 45 10 [.ref a0, .int a1, .long a2] h = XM L xs 85 [.ref a0, .int a1, .long a2] h := rfl
theorem cc_12_46_1 (L : Nat) (xs : Nat → Int32) (h : AH) (a0 : Nat) (a1 : Int32) (a2 : Int64) : cfD (XM L xs) 12 46 1 [.ref a0, .int a1, .long a2] h = XM L xs 9 [.ref a0, .int a1, .long a2] h := rfl
theorem cc_12_49_10 (L : Nat) (xs : Nat → Int32) (h : AH) (a0 : Nat) (a1 : Int32) (a2 : Int64) : cfD (XM L xs) 12 49 10 [.ref a0, .int a1, .long a2] h = XM L xs 86 [.ref a0, .int a1, .long a2] h := rfl
theorem cc_12_50_1 (L : Nat) (xs : Nat → Int32) (h : AH) (a0 : Nat) (a1 : Int32) (a2 : Int32) : cfD (XM L xs) 12 50 1 [.ref a0, .int a1, .int a2] h = XM L xs 10 [.ref a0, .int a1, .int a2] h := rfl
theorem cc_12_54_10 (L : Nat) (xs : Nat → Int32) (h : AH) (a0 : Nat) (a1 : Int32) (a2 : Int32) : cfD (XM L xs) 12 54 10 [.ref a0, .int a1, .int a2] h = XM L xs 88 [.ref a0, .int a1, .int a2] h := rfl
theorem cc_12_55_1 (L : Nat) (xs : Nat → Int32) (h : AH) (a0 : Nat) (a1 : Int32) : cfD (XM L xs) 12 55 1 [.ref a0, .int a1] h = XM L xs 11 [.ref a0, .int a1] h := rfl
theorem cc_12_58_10 (L : Nat) (xs : Nat → Int32) (h : AH) (a0 : Nat) (a1 : Int32) : cfD (XM L xs) 12 58 10 [.ref a0, .int a1] h = XM L xs 94 [.ref a0, .int a1] h := rfl
theorem cc_12_59_1 (L : Nat) (xs : Nat → Int32) (h : AH) (a0 : Nat) (a1 : Int32) (a2 : Int32) : cfD (XM L xs) 12 59 1 [.ref a0, .int a1, .int a2] h = XM L xs 12 [.ref a0, .int a1, .int a2] h := rfl
theorem cc_12_62_10 (L : Nat) (xs : Nat → Int32) (h : AH) (a0 : Nat) (a1 : Int32) (a2 : Int32) : cfD (XM L xs) 12 62 10 [.ref a0, .int a1, .int a2] h = XM L xs 96 [.ref a0, .int a1, .int a2] h := rfl
theorem cc_12_63_1 (L : Nat) (xs : Nat → Int32) (h : AH) (a0 : Nat) (a1 : Int32) (a2 : Int64) : cfD (XM L xs) 12 63 1 [.ref a0, .int a1, .long a2] h = XM L xs 13 [.ref a0, .int a1, .long a2] h := rfl
theorem cc_12_66_10 (L : Nat) (xs : Nat → Int32) (h : AH) (a0 : Nat) (a1 : Int32) (a2 : Int64) : cfD (XM L xs) 12 66 10 [.ref a0, .int a1, .long a2] h = XM L xs 98 [.ref a0, .int a1, .long a2] h := rfl
theorem cc_12_67_1 (L : Nat) (xs : Nat → Int32) (h : AH) (a0 : Nat) (a1 : Int32) : cfD (XM L xs) 12 67 1 [.ref a0, .int a1] h = XM L xs 14 [.ref a0, .int a1] h := rfl
theorem cc_12_70_10 (L : Nat) (xs : Nat → Int32) (h : AH) (a0 : Nat) (a1 : Int32) : cfD (XM L xs) 12 70 10 [.ref a0, .int a1] h = XM L xs 99 [.ref a0, .int a1] h := rfl
theorem cc_12_71_1 (L : Nat) (xs : Nat → Int32) (h : AH) (a0 : Nat) (a1 : Int32) (a2 : Int32) : cfD (XM L xs) 12 71 1 [.ref a0, .int a1, .int a2] h = XM L xs 15 [.ref a0, .int a1, .int a2] h := rfl
theorem cc_12_75_10 (L : Nat) (xs : Nat → Int32) (h : AH) (a0 : Nat) (a1 : Int32) (a2 : Int32) : cfD (XM L xs) 12 75 10 [.ref a0, .int a1, .int a2] h = XM L xs 100 [.ref a0, .int a1, .int a2] h := rfl
theorem cc_12_76_1 (L : Nat) (xs : Nat → Int32) (h : AH) (a0 : Nat) : cfD (XM L xs) 12 76 1 [.ref a0] h = XM L xs 16 [.ref a0] h := rfl
theorem cc_12_80_10 (L : Nat) (xs : Nat → Int32) (h : AH) (a0 : Nat) : cfD (XM L xs) 12 80 10 [.ref a0] h = XM L xs 104 [.ref a0] h := rfl
theorem cc_12_81_1 (L : Nat) (xs : Nat → Int32) (h : AH) (a0 : Nat) : cfD (XM L xs) 12 81 1 [.ref a0] h = XM L xs 17 [.ref a0] h := rfl
theorem cc_12_85_10 (L : Nat) (xs : Nat → Int32) (h : AH) (a0 : Nat) : cfD (XM L xs) 12 85 10 [.ref a0] h = XM L xs 105 [.ref a0] h := rfl
theorem cc_12_86_1 (L : Nat) (xs : Nat → Int32) (h : AH) (a0 : Nat) (a1 : Int32) (a2 : Int32) : cfD (XM L xs) 12 86 1 [.ref a0, .int a1, .int a2] h = XM L xs 18 [.ref a0, .int a1, .int a2] h := rfl
theorem cc_12_89_10 (L : Nat) (xs : Nat → Int32) (h : AH) (a0 : Nat) (a1 : Int32) (a2 : Int32) : cfD (XM L xs) 12 89 10 [.ref a0, .int a1, .int a2] h = XM L xs 106 [.ref a0, .int a1, .int a2] h := rfl
theorem cc_12_90_1 (L : Nat) (xs : Nat → Int32) (h : AH) (a0 : Nat) (a1 : Int32) (a2 : Int32) (a3 : Int32) : cfD (XM L xs) 12 90 1 [.ref a0, .int a1, .int a2, .int a3] h = XM L xs 19 [.ref a0, .int a1, .int a2, .int a3] h := rfl
theorem cc_12_94_10 (L : Nat) (xs : Nat → Int32) (h : AH) (a0 : Nat) (a1 : Int32) (a2 : Int32) (a3 : Int32) : cfD (XM L xs) 12 94 10 [.ref a0, .int a1, .int a2, .int a3] h = XM L xs 109 [.ref a0, .int a1, .int a2, .int a3] h := rfl
theorem cc_12_95_1 (L : Nat) (xs : Nat → Int32) (h : AH) (a0 : Nat) (a1 : Int32) (a2 : Int32) (a3 : Int32) : cfD (XM L xs) 12 95 1 [.ref a0, .int a1, .int a2, .int a3] h = XM L xs 20 [.ref a0, .int a1, .int a2, .int a3] h := rfl
theorem cc_12_98_10 (L : Nat) (xs : Nat → Int32) (h : AH) (a0 : Nat) (a1 : Int32) (a2 : Int32) (a3 : Int32) : cfD (XM L xs) 12 98 10 [.ref a0, .int a1, .int a2, .int a3] h = XM L xs 110 [.ref a0, .int a1, .int a2, .int a3] h := rfl
theorem cc_12_99_1 (L : Nat) (xs : Nat → Int32) (h : AH) (a0 : Nat) (a1 : Int32) (a2 : Int32) : cfD (XM L xs) 12 99 1 [.ref a0, .int a1, .int a2] h = XM L xs 21 [.ref a0, .int a1, .int a2] h := rfl
theorem cc_12_102_10 (L : Nat) (xs : Nat → Int32) (h : AH) (a0 : Nat) (a1 : Int32) (a2 : Int32) : cfD (XM L xs) 12 102 10 [.ref a0, .int a1, .int a2] h = XM L xs 111 [.ref a0, .int a1, .int a2] h := rfl
theorem cc_12_103_1 (L : Nat) (xs : Nat → Int32) (h : AH) (a0 : Nat) (a1 : Int32) (a2 : Int32) : cfD (XM L xs) 12 103 1 [.ref a0, .int a1, .int a2] h = XM L xs 22 [.ref a0, .int a1, .int a2] h := rfl
theorem cc_12_106_10 (L : Nat) (xs : Nat → Int32) (h : AH) (a0 : Nat) (a1 : Int32) (a2 : Int32) : cfD (XM L xs) 12 106 10 [.ref a0, .int a1, .int a2] h = XM L xs 112 [.ref a0, .int a1, .int a2] h := rfl
theorem cc_12_107_1 (L : Nat) (xs : Nat → Int32) (h : AH) (a0 : Nat) (a1 : Int32) : cfD (XM L xs) 12 107 1 [.ref a0, .int a1] h = XM L xs 23 [.ref a0, .int a1] h := rfl
theorem cc_12_110_10 (L : Nat) (xs : Nat → Int32) (h : AH) (a0 : Nat) (a1 : Int32) : cfD (XM L xs) 12 110 10 [.ref a0, .int a1] h = XM L xs 113 [.ref a0, .int a1] h := rfl
theorem cc_12_111_1 (L : Nat) (xs : Nat → Int32) (h : AH) (a0 : Nat) (a1 : Int32) : cfD (XM L xs) 12 111 1 [.ref a0, .int a1] h = XM L xs 24 [.ref a0, .int a1] h := rfl
theorem cc_12_114_10 (L : Nat) (xs : Nat → Int32) (h : AH) (a0 : Nat) (a1 : Int32) : cfD (XM L xs) 12 114 10 [.ref a0, .int a1] h = XM L xs 114 [.ref a0, .int a1] h := rfl
