-- each part of the invariant for another state with the same rows
theorem JS.cg {m m' : MS} {c c' : CS} {d : DS} {B : AH} (h : JS m c d B) (e0 : m'.K = m.K) (e1 : m'.kd = m.kd) (e2 : c'.K = c.K) (e3 : c'.ar = c.ar) (e4 : c'.kd = c.kd) : JS m' c' d B := by
  unfold _root_.Jvm.Pilot.CStepPurseLaw_law_r8377_2c7bf5.JS _root_.Jvm.Pilot.CStepPurseLaw_law_r8377_2c7bf5.AR at h ⊢
  simp only [e0, e1, e2, e3, e4]
  exact h
theorem JT.cg {m m' : MS} {c c' : CS} {T z : Nat → Nat} (h : JT m c T z) (e0 : m'.K = m.K) (e1 : m'.kd = m.kd) (e2 : c'.P = c.P) : JT m' c' T z := by
  unfold _root_.Jvm.Pilot.CStepPurseLaw_law_r8377_2c7bf5.JT at h ⊢
  simp only [e0, e1, e2]
  exact h
theorem JR.cg {m m' : MS} {c c' : CS} {T : Nat → Nat} (h : JR m c T) (e0 : m'.K = m.K) (e1 : m'.kd = m.kd) (e2 : m'.rt = m.rt) (e3 : m'.pl = m.pl) (e4 : c'.ro = c.ro) (e5 : c'.P = c.P) : JR m' c' T := by
  unfold _root_.Jvm.Pilot.CStepPurseLaw_law_r8377_2c7bf5.JR at h ⊢
  simp only [e0, e1, e2, e3, e4, e5]
  exact h
theorem JP.cg {m m' : MS} {c c' : CS} {T : Nat → Nat} (h : JP m c T) (e0 : m'.P = m.P) (e1 : m'.ky = m.ky) (e2 : m'.kd = m.kd) (e3 : c'.P = c.P) (e4 : c'.ck = c.ck) : JP m' c' T := by
  unfold _root_.Jvm.Pilot.CStepPurseLaw_law_r8377_2c7bf5.JP at h ⊢
  simp only [e0, e1, e2, e3, e4]
  exact h
theorem JV.cg {m m' : MS} {c c' : CS} {T : Nat → Nat} {V : Nat → List Nat} {ow : Nat → Nat} (h : JV m c T V ow) (e0 : m'.nx = m.nx) (e1 : m'.fV = m.fV) (e2 : m'.lV = m.lV) (e3 : m'.it = m.it) (e4 : c'.f1 = c.f1) (e5 : c'.l1 = c.l1) (e6 : c'.nv = c.nv) (e7 : c'.vn = c.vn) (e8 : c'.vx = c.vx) : JV m' c' T V ow := by
  unfold _root_.Jvm.Pilot.CStepPurseLaw_law_r8377_2c7bf5.JV at h ⊢
  simp only [e0, e1, e2, e3, e4, e5, e6, e7, e8]
  exact h
theorem JI.cg {m m' : MS} {T : Nat → Nat} {V : Nat → List Nat} {FI : List Nat} {ow : Nat → Nat} (h : JI m T V FI ow) (e0 : m'.nx = m.nx) (e1 : m'.fi = m.fi) (e2 : m'.im = m.im) (e3 : m'.E = m.E)  : JI m' T V FI ow := by
  unfold _root_.Jvm.Pilot.CStepPurseLaw_law_r8377_2c7bf5.JI at h ⊢
  simp only [e0, e1, e2, e3]
  exact h
theorem JF.cg {m m' : MS} {T : Nat → Nat} {FN : List Nat} (h : JF m T FN) (e0 : m'.P = m.P) (e1 : m'.fn = m.fn) (e2 : m'.nm = m.nm)  : JF m' T FN := by
  unfold _root_.Jvm.Pilot.CStepPurseLaw_law_r8377_2c7bf5.JF at h ⊢
  simp only [e0, e1, e2]
  exact h
theorem JW.cg {m m' : MS} {c c' : CS} {B : AH} {R : Nat → List Nat} {ow : Nat → Nat} (h : JW m c B R ow) (e0 : m'.K = m.K) (e1 : m'.kd = m.kd) (e2 : m'.nx = m.nx) (e3 : m'.rt = m.rt) (e4 : m'.nu = m.nu) (e5 : m'.pl = m.pl) (e6 : m'.it = m.it) (e7 : c'.he = c.he) (e8 : c'.pa = c.pa) : JW m' c' B R ow := by
  unfold _root_.Jvm.Pilot.CStepPurseLaw_law_r8377_2c7bf5.JW _root_.Jvm.Pilot.CStepPurseLaw_law_r8377_2c7bf5.JWs at h ⊢
  simp only [e0, e1, e2, e3, e4, e5, e6, e7, e8]
  exact h
theorem JH.cg {m m' : MS} {c c' : CS} {T : Nat → Nat} (h : JH m c T) (e0 : m'.cs = m.cs) (e1 : m'.se = m.se) (e2 : m'.kd = m.kd) (e3 : c'.cc = c.cc) (e4 : c'.cn = c.cn) : JH m' c' T := by
  unfold _root_.Jvm.Pilot.CStepPurseLaw_law_r8377_2c7bf5.JH at h ⊢
  simp only [e0, e1, e2, e3, e4]
  exact h
theorem JZ.cg {m m' : MS} {c c' : CS} {T z : Nat → Nat} {V : Nat → List Nat} (h : JZ m c T z V) (e0 : m'.K = m.K) (e1 : m'.kd = m.kd) (e2 : c'.he = c.he) (e3 : c'.vs = c.vs) (e4 : c'.lg = c.lg) (e5 : c'.hy = c.hy) (e6 : c'.P = c.P) (e7 : c'.cz = c.cz) : JZ m' c' T z V := by
  unfold _root_.Jvm.Pilot.CStepPurseLaw_law_r8377_2c7bf5.JZ at h ⊢
  simp only [e0, e1, e2, e3, e4, e5, e6, e7]
  exact h
theorem JL.cg {m m' : MS} {c c' : CS} {d : DS} {T : Nat → Nat} (h : JL m c d T) (e0 : m'.K = m.K) (e1 : m'.kd = m.kd) (e2 : c'.la = c.la) (e3 : c'.tl = c.tl) (e4 : c'.dp = c.dp) (e5 : c'.P = c.P) (e6 : c'.ck = c.ck) (e7 : c'.ro = c.ro) : JL m' c' d T := by
  unfold _root_.Jvm.Pilot.CStepPurseLaw_law_r8377_2c7bf5.JL _root_.Jvm.Pilot.CStepPurseLaw_law_r8377_2c7bf5.JLs at h ⊢
  simp only [e0, e1, e2, e3, e4, e5, e6, e7]
  exact h
