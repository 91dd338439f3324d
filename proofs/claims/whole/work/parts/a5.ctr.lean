-- the constructors
def Ar (h : AH) (p t l f : Nat) : AH := wR (mk h t l l) f p (nn h + 1)
def KK (h : AH) (p t : Nat) : Prop := p ≤ nn h ∧ tg h p = t
theorem KK.mk {h : AH} {p t : Nat} (k : KK h p t) (a b c : Nat) : KK (_root_.Jvm.Pilot.CStepPurseLaw_law_r8377_2c7bf5.mk h a b c) p t := ⟨Nat.le_succ_of_le k.1, (u1_o _ _ (by have := k.1; omega)).trans k.2⟩
theorem KK.ar {h : AH} {p t : Nat} (k : KK h p t) (q a b c : Nat) : KK (Ar h q a b c) p t := KK.mk k a b b
theorem KK.wi {h : AH} {p t : Nat} (k : KK h p t) (f a : Nat) (v : Int32) : KK (wI h f a v) p t := k
theorem KK.wr {h : AH} {p t : Nat} (k : KK h p t) (f a v : Nat) : KK (wR h f a v) p t := k
theorem n40 : (40 : Int32).toNatClampNeg = 40 := by decide +kernel
theorem n20 : (20000 : Int32).toNatClampNeg = 20000 := by decide +kernel
theorem n22 : (20002 : Int32).toNatClampNeg = 20002 := by decide +kernel
theorem o40 : decide (0 ≤ (40 : Int32).toInt ∧ (40 : Int32).toInt ≤ 1000000) = true := by decide +kernel
theorem o20 : decide (0 ≤ (20000 : Int32).toInt ∧ (20000 : Int32).toInt ≤ 1000000) = true := by decide +kernel
theorem o22 : decide (0 ≤ (20002 : Int32).toInt ∧ (20002 : Int32).toInt ≤ 1000000) = true := by decide +kernel
section Ctor
variable (L : Nat) (xs : Nat → Int32)
theorem s_115_0 {h : AH} (k : KK h 3 2) : X L xs 115 0 [.ref 3] [] h = X L xs 115 13 [.ref 3] [] (Ar h 3 20 20000 7) := by
  rw [k_115_0]
  simp only [gd_t, decide_true, Bool.and_self, HQ, HZ, o20, n20]
  rw [k_115_10]
  simp only [(k.mk 20 20000 20000).2, show hasF 2 7 = true from rfl, gd_t]
  rfl
theorem s_115_13 {h : AH} (k : KK h 3 2) : X L xs 115 13 [.ref 3] [] h = X L xs 115 22 [.ref 3] [] (Ar h 3 20 20000 8) := by
  rw [k_115_13]
  simp only [gd_t, decide_true, Bool.and_self, HQ, HZ, o20, n20]
  rw [k_115_19]
  simp only [(k.mk 20 20000 20000).2, show hasF 2 8 = true from rfl, gd_t]
  rfl
theorem s_115_22 {h : AH} (k : KK h 3 2) : X L xs 115 22 [.ref 3] [] h = X L xs 115 31 [.ref 3] [] (Ar h 3 20 20000 9) := by
  rw [k_115_22]
  simp only [gd_t, decide_true, Bool.and_self, HQ, HZ, o20, n20]
  rw [k_115_28]
  simp only [(k.mk 20 20000 20000).2, show hasF 2 9 = true from rfl, gd_t]
  rfl
theorem s_115_31 {h : AH} (k : KK h 3 2) : X L xs 115 31 [.ref 3] [] h = X L xs 115 40 [.ref 3] [] (Ar h 3 20 20000 10) := by
  rw [k_115_31]
  simp only [gd_t, decide_true, Bool.and_self, HQ, HZ, o20, n20]
  rw [k_115_37]
  simp only [(k.mk 20 20000 20000).2, show hasF 2 10 = true from rfl, gd_t]
  rfl
def H115 (h : AH) : AH := Ar (Ar (Ar (Ar h 3 20 20000 7) 3 20 20000 8) 3 20 20000 9) 3 20 20000 10
theorem c_H115 {h : AH} (k : KK h 3 2) : XM L xs 115 [.ref 3] h = some (H115 h, none) := by
  have e0 := s_115_0 L xs k
  have k1 := KK.ar k 3 20 20000 7
  have e1 := s_115_13 L xs k1
  have k2 := KK.ar k1 3 20 20000 8
  have e2 := s_115_22 L xs k2
  have k3 := KK.ar k2 3 20 20000 9
  have e3 := s_115_31 L xs k3
  have k4 := KK.ar k3 3 20 20000 10
  rw [en_115, e0, e1, e2, e3, k_115_40]
  rfl
theorem s_50_0 {h : AH} (k : KK h 8 10) : X L xs 50 0 [.ref 8] [] h = X L xs 50 12 [.ref 8] [] (Ar h 8 20 40 37) := by
  rw [k_50_0]
  simp only [gd_t, decide_true, Bool.and_self, HQ, HZ, o40, n40]
  rw [k_50_9]
  simp only [(k.mk 20 40 40).2, show hasF 10 37 = true from rfl, gd_t]
  rfl
theorem s_50_12 {h : AH} (k : KK h 8 10) : X L xs 50 12 [.ref 8] [] h = X L xs 50 20 [.ref 8] [] (Ar h 8 20 40 38) := by
  rw [k_50_12]
  simp only [gd_t, decide_true, Bool.and_self, HQ, HZ, o40, n40]
  rw [k_50_17]
  simp only [(k.mk 20 40 40).2, show hasF 10 38 = true from rfl, gd_t]
  rfl
theorem s_50_20 {h : AH} (k : KK h 8 10) : X L xs 50 20 [.ref 8] [] h = X L xs 50 28 [.ref 8] [] (Ar h 8 21 40 39) := by
  rw [k_50_20]
  simp only [gd_t, decide_true, Bool.and_self, HQ, HZ, o40, n40]
  rw [k_50_25]
  simp only [(k.mk 21 40 40).2, show hasF 10 39 = true from rfl, gd_t]
  rfl
theorem s_50_28 {h : AH} (k : KK h 8 10) : X L xs 50 28 [.ref 8] [] h = X L xs 50 36 [.ref 8] [] (Ar h 8 21 40 40) := by
  rw [k_50_28]
  simp only [gd_t, decide_true, Bool.and_self, HQ, HZ, o40, n40]
  rw [k_50_33]
  simp only [(k.mk 21 40 40).2, show hasF 10 40 = true from rfl, gd_t]
  rfl
theorem s_50_36 {h : AH} (k : KK h 8 10) : X L xs 50 36 [.ref 8] [] h = X L xs 50 44 [.ref 8] [] (Ar h 8 20 40 41) := by
  rw [k_50_36]
  simp only [gd_t, decide_true, Bool.and_self, HQ, HZ, o40, n40]
  rw [k_50_41]
  simp only [(k.mk 20 40 40).2, show hasF 10 41 = true from rfl, gd_t]
  rfl
theorem s_50_44 {h : AH} (k : KK h 8 10) : X L xs 50 44 [.ref 8] [] h = X L xs 50 52 [.ref 8] [] (Ar h 8 20 40 42) := by
  rw [k_50_44]
  simp only [gd_t, decide_true, Bool.and_self, HQ, HZ, o40, n40]
  rw [k_50_49]
  simp only [(k.mk 20 40 40).2, show hasF 10 42 = true from rfl, gd_t]
  rfl
theorem s_50_52 {h : AH} (k : KK h 8 10) : X L xs 50 52 [.ref 8] [] h = X L xs 50 61 [.ref 8] [] (Ar h 8 21 20002 45) := by
  rw [k_50_52]
  simp only [gd_t, decide_true, Bool.and_self, HQ, HZ, o22, n22]
  rw [k_50_58]
  simp only [(k.mk 21 20002 20002).2, show hasF 10 45 = true from rfl, gd_t]
  rfl
theorem s_50_61 {h : AH} (k : KK h 8 10) : X L xs 50 61 [.ref 8] [] h = X L xs 50 70 [.ref 8] [] (Ar h 8 20 20002 46) := by
  rw [k_50_61]
  simp only [gd_t, decide_true, Bool.and_self, HQ, HZ, o22, n22]
  rw [k_50_67]
  simp only [(k.mk 20 20002 20002).2, show hasF 10 46 = true from rfl, gd_t]
  rfl
theorem s_50_70 {h : AH} (k : KK h 8 10) : X L xs 50 70 [.ref 8] [] h = X L xs 50 79 [.ref 8] [] (Ar h 8 20 20002 47) := by
  rw [k_50_70]
  simp only [gd_t, decide_true, Bool.and_self, HQ, HZ, o22, n22]
  rw [k_50_76]
  simp only [(k.mk 20 20002 20002).2, show hasF 10 47 = true from rfl, gd_t]
  rfl
theorem s_50_79 {h : AH} (k : KK h 8 10) : X L xs 50 79 [.ref 8] [] h = X L xs 50 88 [.ref 8] [] (Ar h 8 20 20002 48) := by
  rw [k_50_79]
  simp only [gd_t, decide_true, Bool.and_self, HQ, HZ, o22, n22]
  rw [k_50_85]
  simp only [(k.mk 20 20002 20002).2, show hasF 10 48 = true from rfl, gd_t]
  rfl
theorem s_50_88 {h : AH} (k : KK h 8 10) : X L xs 50 88 [.ref 8] [] h = X L xs 50 97 [.ref 8] [] (Ar h 8 20 20002 49) := by
  rw [k_50_88]
  simp only [gd_t, decide_true, Bool.and_self, HQ, HZ, o22, n22]
  rw [k_50_94]
  simp only [(k.mk 20 20002 20002).2, show hasF 10 49 = true from rfl, gd_t]
  rfl
theorem s_50_97 {h : AH} (k : KK h 8 10) : X L xs 50 97 [.ref 8] [] h = X L xs 50 102 [.ref 8] [] (wI h 51 8 (-1)) := by
  rw [k_50_97]
  simp only [k.2, show hasF 10 51 = true from rfl, gd_t]
theorem s_50_102 {h : AH} (k : KK h 8 10) : X L xs 50 102 [.ref 8] [] h = X L xs 50 111 [.ref 8] [] (Ar h 8 20 20002 52) := by
  rw [k_50_102]
  simp only [gd_t, decide_true, Bool.and_self, HQ, HZ, o22, n22]
  rw [k_50_108]
  simp only [(k.mk 20 20002 20002).2, show hasF 10 52 = true from rfl, gd_t]
  rfl
theorem s_50_111 {h : AH} (k : KK h 8 10) : X L xs 50 111 [.ref 8] [] h = X L xs 50 120 [.ref 8] [] (Ar h 8 20 20002 53) := by
  rw [k_50_111]
  simp only [gd_t, decide_true, Bool.and_self, HQ, HZ, o22, n22]
  rw [k_50_117]
  simp only [(k.mk 20 20002 20002).2, show hasF 10 53 = true from rfl, gd_t]
  rfl
theorem s_50_120 {h : AH} (k : KK h 8 10) : X L xs 50 120 [.ref 8] [] h = X L xs 50 129 [.ref 8] [] (Ar h 8 21 20002 54) := by
  rw [k_50_120]
  simp only [gd_t, decide_true, Bool.and_self, HQ, HZ, o22, n22]
  rw [k_50_126]
  simp only [(k.mk 21 20002 20002).2, show hasF 10 54 = true from rfl, gd_t]
  rfl
theorem s_50_129 {h : AH} (k : KK h 8 10) : X L xs 50 129 [.ref 8] [] h = X L xs 50 138 [.ref 8] [] (Ar h 8 20 20002 55) := by
  rw [k_50_129]
  simp only [gd_t, decide_true, Bool.and_self, HQ, HZ, o22, n22]
  rw [k_50_135]
  simp only [(k.mk 20 20002 20002).2, show hasF 10 55 = true from rfl, gd_t]
  rfl
theorem s_50_138 {h : AH} (k : KK h 8 10) : X L xs 50 138 [.ref 8] [] h = X L xs 50 143 [.ref 8] [] (wI h 57 8 (-1)) := by
  rw [k_50_138]
  simp only [k.2, show hasF 10 57 = true from rfl, gd_t]
theorem s_50_143 {h : AH} (k : KK h 8 10) : X L xs 50 143 [.ref 8] [] h = X L xs 50 152 [.ref 8] [] (Ar h 8 20 20002 59) := by
  rw [k_50_143]
  simp only [gd_t, decide_true, Bool.and_self, HQ, HZ, o22, n22]
  rw [k_50_149]
  simp only [(k.mk 20 20002 20002).2, show hasF 10 59 = true from rfl, gd_t]
  rfl
theorem s_50_152 {h : AH} (k : KK h 8 10) : X L xs 50 152 [.ref 8] [] h = X L xs 50 161 [.ref 8] [] (Ar h 8 20 20002 60) := by
  rw [k_50_152]
  simp only [gd_t, decide_true, Bool.and_self, HQ, HZ, o22, n22]
  rw [k_50_158]
  simp only [(k.mk 20 20002 20002).2, show hasF 10 60 = true from rfl, gd_t]
  rfl
theorem s_50_161 {h : AH} (k : KK h 8 10) : X L xs 50 161 [.ref 8] [] h = X L xs 50 170 [.ref 8] [] (Ar h 8 20 20002 61) := by
  rw [k_50_161]
  simp only [gd_t, decide_true, Bool.and_self, HQ, HZ, o22, n22]
  rw [k_50_167]
  simp only [(k.mk 20 20002 20002).2, show hasF 10 61 = true from rfl, gd_t]
  rfl
theorem s_50_170 {h : AH} (k : KK h 8 10) : X L xs 50 170 [.ref 8] [] h = X L xs 50 179 [.ref 8] [] (Ar h 8 20 20002 62) := by
  rw [k_50_170]
  simp only [gd_t, decide_true, Bool.and_self, HQ, HZ, o22, n22]
  rw [k_50_176]
  simp only [(k.mk 20 20002 20002).2, show hasF 10 62 = true from rfl, gd_t]
  rfl
theorem s_50_179 {h : AH} (k : KK h 8 10) : X L xs 50 179 [.ref 8] [] h = X L xs 50 188 [.ref 8] [] (Ar h 8 20 20002 63) := by
  rw [k_50_179]
  simp only [gd_t, decide_true, Bool.and_self, HQ, HZ, o22, n22]
  rw [k_50_185]
  simp only [(k.mk 20 20002 20002).2, show hasF 10 63 = true from rfl, gd_t]
  rfl
theorem s_50_188 {h : AH} (k : KK h 8 10) : X L xs 50 188 [.ref 8] [] h = X L xs 50 197 [.ref 8] [] (Ar h 8 20 20000 68) := by
  rw [k_50_188]
  simp only [gd_t, decide_true, Bool.and_self, HQ, HZ, o20, n20]
  rw [k_50_194]
  simp only [(k.mk 20 20000 20000).2, show hasF 10 68 = true from rfl, gd_t]
  rfl
theorem s_50_197 {h : AH} (k : KK h 8 10) : X L xs 50 197 [.ref 8] [] h = X L xs 50 206 [.ref 8] [] (Ar h 8 20 20000 69) := by
  rw [k_50_197]
  simp only [gd_t, decide_true, Bool.and_self, HQ, HZ, o20, n20]
  rw [k_50_203]
  simp only [(k.mk 20 20000 20000).2, show hasF 10 69 = true from rfl, gd_t]
  rfl
theorem s_50_206 {h : AH} (k : KK h 8 10) : X L xs 50 206 [.ref 8] [] h = X L xs 50 215 [.ref 8] [] (Ar h 8 20 20000 70) := by
  rw [k_50_206]
  simp only [gd_t, decide_true, Bool.and_self, HQ, HZ, o20, n20]
  rw [k_50_212]
  simp only [(k.mk 20 20000 20000).2, show hasF 10 70 = true from rfl, gd_t]
  rfl
theorem s_50_215 {h : AH} (k : KK h 8 10) : X L xs 50 215 [.ref 8] [] h = X L xs 50 224 [.ref 8] [] (Ar h 8 20 20000 71) := by
  rw [k_50_215]
  simp only [gd_t, decide_true, Bool.and_self, HQ, HZ, o20, n20]
  rw [k_50_221]
  simp only [(k.mk 20 20000 20000).2, show hasF 10 71 = true from rfl, gd_t]
  rfl
def H50 (h : AH) : AH := Ar (Ar (Ar (Ar (Ar (Ar (Ar (Ar (Ar (wI (Ar (Ar (Ar (Ar (wI (Ar (Ar (Ar (Ar (Ar (Ar (Ar (Ar (Ar (Ar (Ar h 8 20 40 37) 8 20 40 38) 8 21 40 39) 8 21 40 40) 8 20 40 41) 8 20 40 42) 8 21 20002 45) 8 20 20002 46) 8 20 20002 47) 8 20 20002 48) 8 20 20002 49) 51 8 (-1)) 8 20 20002 52) 8 20 20002 53) 8 21 20002 54) 8 20 20002 55) 57 8 (-1)) 8 20 20002 59) 8 20 20002 60) 8 20 20002 61) 8 20 20002 62) 8 20 20002 63) 8 20 20000 68) 8 20 20000 69) 8 20 20000 70) 8 20 20000 71
theorem c_H50 {h : AH} (k : KK h 8 10) : XM L xs 50 [.ref 8] h = some (H50 h, none) := by
  have e0 := s_50_0 L xs k
  have k1 := KK.ar k 8 20 40 37
  have e1 := s_50_12 L xs k1
  have k2 := KK.ar k1 8 20 40 38
  have e2 := s_50_20 L xs k2
  have k3 := KK.ar k2 8 21 40 39
  have e3 := s_50_28 L xs k3
  have k4 := KK.ar k3 8 21 40 40
  have e4 := s_50_36 L xs k4
  have k5 := KK.ar k4 8 20 40 41
  have e5 := s_50_44 L xs k5
  have k6 := KK.ar k5 8 20 40 42
  have e6 := s_50_52 L xs k6
  have k7 := KK.ar k6 8 21 20002 45
  have e7 := s_50_61 L xs k7
  have k8 := KK.ar k7 8 20 20002 46
  have e8 := s_50_70 L xs k8
  have k9 := KK.ar k8 8 20 20002 47
  have e9 := s_50_79 L xs k9
  have k10 := KK.ar k9 8 20 20002 48
  have e10 := s_50_88 L xs k10
  have k11 := KK.ar k10 8 20 20002 49
  have e11 := s_50_97 L xs k11
  have k12 := KK.wi k11 51 8 (-1)
  have e12 := s_50_102 L xs k12
  have k13 := KK.ar k12 8 20 20002 52
  have e13 := s_50_111 L xs k13
  have k14 := KK.ar k13 8 20 20002 53
  have e14 := s_50_120 L xs k14
  have k15 := KK.ar k14 8 21 20002 54
  have e15 := s_50_129 L xs k15
  have k16 := KK.ar k15 8 20 20002 55
  have e16 := s_50_138 L xs k16
  have k17 := KK.wi k16 57 8 (-1)
  have e17 := s_50_143 L xs k17
  have k18 := KK.ar k17 8 20 20002 59
  have e18 := s_50_152 L xs k18
  have k19 := KK.ar k18 8 20 20002 60
  have e19 := s_50_161 L xs k19
  have k20 := KK.ar k19 8 20 20002 61
  have e20 := s_50_170 L xs k20
  have k21 := KK.ar k20 8 20 20002 62
  have e21 := s_50_179 L xs k21
  have k22 := KK.ar k21 8 20 20002 63
  have e22 := s_50_188 L xs k22
  have k23 := KK.ar k22 8 20 20000 68
  have e23 := s_50_197 L xs k23
  have k24 := KK.ar k23 8 20 20000 69
  have e24 := s_50_206 L xs k24
  have k25 := KK.ar k24 8 20 20000 70
  have e25 := s_50_215 L xs k25
  have k26 := KK.ar k25 8 20 20000 71
  rw [en_50, e0, e1, e2, e3, e4, e5, e6, e7, e8, e9, e10, e11, e12, e13, e14, e15, e16, e17, e18, e19, e20, e21, e22, e23, e24, e25, k_50_224]
  rfl
def hA : AH := mk e0 1 0 7
def hC : AH := mk (Ar hA 1 22 40 0) 2 0 5
def hE : AH := wR (H115 hC) 1 1 3
def hF : AH := mk hE 10 0 37
def H0 : AH := H50 hF
theorem c_1 : XM L xs 1 [.ref 1] hA = some (hE, none) := by
  rw [en_1, k_1_0]
  simp only [gd_t, decide_true, Bool.and_self, HQ, HZ, o40, n40]
  rw [k_1_10]
  have k1 : KK (mk hA 22 40 40) 1 1 := ⟨by decide +kernel, by decide +kernel⟩
  simp only [k1.2, show hasF 1 0 = true from rfl, gd_t]
  rw [k_1_13, k_1_17]
  have k3 : KK hC 3 2 := ⟨by decide +kernel, by decide +kernel⟩
  have e := c_H115 L xs k3
  have e2 : nn (wR (mk hA 22 40 40) 0 1 (nn hA + 1)) + 1 = 3 := by decide +kernel
  have e3 : mk (wR (mk hA 22 40 40) 0 1 (nn hA + 1)) 2 0 5 = hC := rfl
  rw [e2, e3]
  have k4 : tg (H115 hC) 1 = 1 := by decide +kernel
  simp only [gd_t, decide_true, Bool.and_self, HQ, HZ, cc_0_17_0, e, bV_s, k4, show hasF 1 1 = true from rfl]
  rw [k_1_24]
  rfl
theorem law_new (l1 l2 l3 : Value) : X L xs 0 0 [.retAddr 0, l1, l2, l3] [] e0 = X L xs 0 18 [.retAddr 0, .ref 1, .ref 8, .int 0] [] H0 := by
  rw [k_0_0]
  have e1 : nn e0 + 1 = 1 := rfl
  have e2 : mk e0 1 0 7 = hA := rfl
  rw [e1, e2, k_0_3]
  simp only [gd_t, decide_true, Bool.and_self, HQ, HZ, cc_12_9_0, c_1 L xs, bV_s]
  have e3 : nn hE + 1 = 8 := by decide +kernel
  have e4 : mk hE 10 0 37 = hF := rfl
  rw [e3, e4, k_0_11]
  have k8 : KK hF 8 10 := ⟨by decide +kernel, by decide +kernel⟩
  simp only [gd_t, decide_true, Bool.and_self, HQ, HZ, cc_12_12_0, c_H50 L xs k8, bV_s]
  rfl
end Ctor
theorem H0_nn : nn H0 = 32 := by decide +kernel
theorem H0_sl : sl H0 ≤ 600000 := by decide +kernel
theorem H0_MB : MB H0 := by
  unfold MB
  refine ⟨?_, ?_, ?_, ?_⟩ <;> (repeat' apply And.intro) <;> decide +kernel
theorem H0_CB : CB H0 := by
  unfold CB
  refine ⟨?_, ?_, ?_, ?_⟩ <;> (repeat' apply And.intro) <;> decide +kernel
-- what is not written is zero
def ZZ (h : AH) : Prop := (∀ f a, fL h f a = 0) ∧ (∀ a i, eI h a i = 0) ∧ (∀ a i, eL h a i = 0) ∧ ∀ a i, eR h a i = 0
theorem ZZ.mk {h : AH} (z : ZZ h) (t l n : Nat) : ZZ (_root_.Jvm.Pilot.CStepPurseLaw_law_r8377_2c7bf5.mk h t l n) := by
  obtain ⟨z1, z2, z3, z4⟩ := z
  refine ⟨fun f a => ?_, fun a i => ?_, fun a i => ?_, fun a i => ?_⟩
  · show (if a = nn h + 1 then 0 else fL h f a) = 0
    split
    · rfl
    · exact z1 f a
  · show (if a = nn h + 1 then 0 else eI h a i) = 0
    split
    · rfl
    · exact z2 a i
  · show (if a = nn h + 1 then 0 else eL h a i) = 0
    split
    · rfl
    · exact z3 a i
  · show (if a = nn h + 1 then 0 else eR h a i) = 0
    split
    · rfl
    · exact z4 a i
theorem ZZ.ar {h : AH} (z : ZZ h) (p t l f : Nat) : ZZ (Ar h p t l f) := ZZ.mk z t l l
theorem ZZ.wi {h : AH} (z : ZZ h) (f a : Nat) (v : Int32) : ZZ (wI h f a v) := z
theorem ZZ.wr {h : AH} (z : ZZ h) (f a v : Nat) : ZZ (wR h f a v) := z
def FF (h : AH) (g : Nat → Nat → Int32) : Prop := 8 ≤ nn h ∧ ∀ f a, fI h f a = g f a
def gZ (g : Nat → Nat → Int32) : Prop := ∀ f a, a ≠ 8 → g f a = 0
theorem FF.ar {h : AH} {g : Nat → Nat → Int32} (z : FF h g) (hg : gZ g) (p t l f : Nat) : FF (Ar h p t l f) g := by
  refine ⟨Nat.le_succ_of_le z.1, fun f' a => ?_⟩
  show (if a = nn h + 1 then 0 else fI h f' a) = _
  split
  · rename_i e
    exact (hg f' a (by have := z.1; omega)).symm
  · exact z.2 f' a
theorem FF.wi {h : AH} {g : Nat → Nat → Int32} (z : FF h g) (f : Nat) (v : Int32) : FF (wI h f 8 v) (fun f' a => if f' = f then (if a = 8 then v else g f' a) else g f' a) := by
  refine ⟨z.1, fun f' a => ?_⟩
  show (if f' = f then (if a = 8 then v else fI h f' a) else fI h f' a) = _
  rw [z.2 f' a]
theorem hF_z : ZZ hF ∧ FF hF (fun _ _ => 0) := by
  have z0 : ZZ e0 := ⟨fun _ _ => rfl, fun _ _ => rfl, fun _ _ => rfl, fun _ _ => rfl⟩
  have f0 : ∀ (h : AH) (t l n : Nat), (∀ f a, fI h f a = 0) → ∀ f a, fI (mk h t l n) f a = 0 := fun h t l n z f a => by
    show (if a = nn h + 1 then 0 else fI h f a) = 0
    split
    · rfl
    · exact z f a
  have fe : ∀ f a, fI e0 f a = 0 := fun _ _ => rfl
  have z1 := ((z0.mk 1 0 7).ar 1 22 40 0).mk 2 0 5
  have f1 := f0 _ 2 0 5 (f0 _ 22 40 40 (f0 _ 1 0 7 fe))
  have z2 := ((((z1).ar 3 20 20000 7).ar 3 20 20000 8).ar 3 20 20000 9).ar 3 20 20000 10
  have f2 := (f0 _ 20 20000 20000 (f0 _ 20 20000 20000 (f0 _ 20 20000 20000 (f0 _ 20 20000 20000 f1))))
  exact ⟨(z2.wr 1 1 3).mk 10 0 37, by decide +kernel, f0 _ 10 0 37 f2⟩
theorem H0_z : ZZ H0 ∧ ∀ f a, fI H0 f a = if f = 57 then (if a = 8 then -1 else 0) else if f = 51 then (if a = 8 then -1 else 0) else 0 := by
  obtain ⟨z, f0⟩ := hF_z
  have g0 : gZ (fun _ _ => 0) := fun _ _ _ => rfl
  have f1 := f0.ar g0 8 20 40 37
  have f2 := f1.ar g0 8 20 40 38
  have f3 := f2.ar g0 8 21 40 39
  have f4 := f3.ar g0 8 21 40 40
  have f5 := f4.ar g0 8 20 40 41
  have f6 := f5.ar g0 8 20 40 42
  have f7 := f6.ar g0 8 21 20002 45
  have f8 := f7.ar g0 8 20 20002 46
  have f9 := f8.ar g0 8 20 20002 47
  have f10 := f9.ar g0 8 20 20002 48
  have f11 := f10.ar g0 8 20 20002 49
  have f12 := f11.wi 51 (-1)
  have g1 : gZ (fun f' a => if f' = 51 then (if a = 8 then (-1 : Int32) else 0) else 0) := fun f' a h => by
    show (if f' = 51 then (if a = 8 then (-1 : Int32) else 0) else 0) = 0
    rw [if_neg h]; split <;> rfl
  have f13 := f12.ar g1 8 20 20002 52
  have f14 := f13.ar g1 8 20 20002 53
  have f15 := f14.ar g1 8 21 20002 54
  have f16 := f15.ar g1 8 20 20002 55
  have f17 := f16.wi 57 (-1)
  have g2 : gZ (fun f' a => if f' = 57 then (if a = 8 then (-1 : Int32) else (if f' = 51 then (if a = 8 then (-1 : Int32) else 0) else 0)) else (if f' = 51 then (if a = 8 then (-1 : Int32) else 0) else 0)) := fun f' a h => by
    show (if f' = 57 then (if a = 8 then (-1 : Int32) else (if f' = 51 then (if a = 8 then (-1 : Int32) else 0) else 0)) else (if f' = 51 then (if a = 8 then (-1 : Int32) else 0) else 0)) = 0
    rw [if_neg h, if_neg h]; split <;> split <;> rfl
  have f18 := f17.ar g2 8 20 20002 59
  have f19 := f18.ar g2 8 20 20002 60
  have f20 := f19.ar g2 8 20 20002 61
  have f21 := f20.ar g2 8 20 20002 62
  have f22 := f21.ar g2 8 20 20002 63
  have f23 := f22.ar g2 8 20 20000 68
  have f24 := f23.ar g2 8 20 20000 69
  have f25 := f24.ar g2 8 20 20000 70
  have f26 := f25.ar g2 8 20 20000 71
  refine ⟨((((((((((((((((((((((((((z).ar 8 20 40 37).ar 8 20 40 38).ar 8 21 40 39).ar 8 21 40 40).ar 8 20 40 41).ar 8 20 40 42).ar 8 21 20002 45).ar 8 20 20002 46).ar 8 20 20002 47).ar 8 20 20002 48).ar 8 20 20002 49).wi 51 8 (-1)).ar 8 20 20002 52).ar 8 20 20002 53).ar 8 21 20002 54).ar 8 20 20002 55).wi 57 8 (-1)).ar 8 20 20002 59).ar 8 20 20002 60).ar 8 20 20002 61).ar 8 20 20002 62).ar 8 20 20002 63).ar 8 20 20000 68).ar 8 20 20000 69).ar 8 20 20000 70).ar 8 20 20000 71, fun f a => ?_⟩
  refine (f26.2 f a).trans ?_
  show (if f = 57 then (if a = 8 then (-1 : Int32) else (if f = 51 then (if a = 8 then (-1 : Int32) else 0) else 0)) else (if f = 51 then (if a = 8 then (-1 : Int32) else 0) else 0)) = _
  by_cases q : f = 57
  · rw [if_pos q, if_pos q]
    by_cases r : a = 8
    · rw [if_pos r, if_pos r]
    · rw [if_neg r, if_neg r, if_neg (by omega)]
  · rw [if_neg q, if_neg q]
