-- drop: a node or a value goes, on both sides
def mA0 (m : MS) (n : Nat) : MS := mLetI (m.sfV (u1 m.fV n (m.nx (m.fV n)))) (m.fV n)
def cA0 (c : CS) (s n : Nat) : CS := (cLose c n).svs (u1 c.vs s (c.vs s - 1))
def cA1 (c : CS) (s n : Nat) : CS := (((cLose c n).svs (u1 c.vs s (c.vs s - 1))).she (u1 c.he s (c.he s - 1))).sla (u1 c.la s 0)
theorem HmA0 (m : MS) (n : Nat) : (mA0 m n).kd = m.kd ∧ (mA0 m n).rt = m.rt ∧ (mA0 m n).pl = m.pl ∧ (mA0 m n).nu = m.nu ∧ (mA0 m n).cs = m.cs ∧ (mA0 m n).it = m.it ∧ (mA0 m n).nx = u1 m.nx (m.fV n) m.fi ∧ (mA0 m n).K = m.K ∧ (mA0 m n).E = m.E - 1 ∧ (mA0 m n).nm = m.nm ∧ (mA0 m n).fn = m.fn ∧ (mA0 m n).im = m.im ∧ (mA0 m n).fi = m.fV n ∧ (mA0 m n).se = m.se ∧ (mA0 m n).P = m.P ∧ (mA0 m n).ky = m.ky ∧ (mA0 m n).lV = m.lV ∧ (mA0 m n).fV = u1 m.fV n (m.nx (m.fV n)) ∧ (mA0 m n).pu = m.pu ∧ (mA0 m n).st = m.st ∧ (mA0 m n).sp = m.sp ∧ (mA0 m n).fk = m.fk ∧ (mA0 m n).fv = m.fv ∧ (mA0 m n).N = m.N ∧ (mA0 m n).rO = m.rO ∧ (mA0 m n).rP = m.rP ∧ (mA0 m n).rT = m.rT ∧ (mA0 m n).rQ = m.rQ := ⟨rfl, rfl, rfl, rfl, rfl, rfl, rfl, rfl, rfl, rfl, rfl, rfl, rfl, rfl, rfl, rfl, rfl, rfl, rfl, rfl, rfl, rfl, rfl, rfl, rfl, rfl, rfl, rfl⟩
theorem HcA0 (c : CS) (s n : Nat) : (cA0 c s n).cc = c.cc ∧ (cA0 c s n).vn = c.vn ∧ (cA0 c s n).vx = c.vx ∧ (cA0 c s n).kd = c.kd ∧ (cA0 c s n).ro = c.ro ∧ (cA0 c s n).he = c.he ∧ (cA0 c s n).vs = u1 c.vs s (c.vs s - 1) ∧ (cA0 c s n).hy = c.hy ∧ (cA0 c s n).la = c.la ∧ (cA0 c s n).tl = c.tl ∧ (cA0 c s n).dp = c.dp ∧ (cA0 c s n).pa = c.pa ∧ (cA0 c s n).K = c.K ∧ (cA0 c s n).ar = c.ar ∧ (cA0 c s n).cn = c.cn ∧ (cA0 c s n).lg = c.lg ∧ (cA0 c s n).P = c.P ∧ (cA0 c s n).ck = c.ck ∧ (cA0 c s n).cz = c.cz ∧ (cA0 c s n).l1 = c.l1 ∧ (cA0 c s n).f1 = u1 c.f1 n (c.vx (c.f1 n)) ∧ (cA0 c s n).nv = u1 c.nv n (c.nv n - 1) ∧ (cA0 c s n).pu = c.pu ∧ (cA0 c s n).st = c.st ∧ (cA0 c s n).fk = c.fk ∧ (cA0 c s n).fv = c.fv ∧ (cA0 c s n).E = c.E ∧ (cA0 c s n).N = c.N ∧ (cA0 c s n).rO = c.rO ∧ (cA0 c s n).rP = c.rP ∧ (cA0 c s n).rT = c.rT ∧ (cA0 c s n).rQ = c.rQ := ⟨rfl, rfl, rfl, rfl, rfl, rfl, rfl, rfl, rfl, rfl, rfl, rfl, rfl, rfl, rfl, rfl, rfl, rfl, rfl, rfl, rfl, rfl, rfl, rfl, rfl, rfl, rfl, rfl, rfl, rfl, rfl, rfl⟩
theorem HcA1 (c : CS) (s n : Nat) : (cA1 c s n).cc = c.cc ∧ (cA1 c s n).vn = c.vn ∧ (cA1 c s n).vx = c.vx ∧ (cA1 c s n).kd = c.kd ∧ (cA1 c s n).ro = c.ro ∧ (cA1 c s n).he = u1 c.he s (c.he s - 1) ∧ (cA1 c s n).vs = u1 c.vs s (c.vs s - 1) ∧ (cA1 c s n).hy = c.hy ∧ (cA1 c s n).la = u1 c.la s 0 ∧ (cA1 c s n).tl = c.tl ∧ (cA1 c s n).dp = c.dp ∧ (cA1 c s n).pa = c.pa ∧ (cA1 c s n).K = c.K ∧ (cA1 c s n).ar = c.ar ∧ (cA1 c s n).cn = c.cn ∧ (cA1 c s n).lg = c.lg ∧ (cA1 c s n).P = c.P ∧ (cA1 c s n).ck = c.ck ∧ (cA1 c s n).cz = c.cz ∧ (cA1 c s n).l1 = c.l1 ∧ (cA1 c s n).f1 = u1 c.f1 n (c.vx (c.f1 n)) ∧ (cA1 c s n).nv = u1 c.nv n (c.nv n - 1) ∧ (cA1 c s n).pu = c.pu ∧ (cA1 c s n).st = c.st ∧ (cA1 c s n).fk = c.fk ∧ (cA1 c s n).fv = c.fv ∧ (cA1 c s n).E = c.E ∧ (cA1 c s n).N = c.N ∧ (cA1 c s n).rO = c.rO ∧ (cA1 c s n).rP = c.rP ∧ (cA1 c s n).rT = c.rT ∧ (cA1 c s n).rQ = c.rQ := ⟨rfl, rfl, rfl, rfl, rfl, rfl, rfl, rfl, rfl, rfl, rfl, rfl, rfl, rfl, rfl, rfl, rfl, rfl, rfl, rfl, rfl, rfl, rfl, rfl, rfl, rfl, rfl, rfl, rfl, rfl, rfl, rfl⟩
theorem HmTk (m : MS) (s n ch : Nat) : (mTk m s n ch).kd = m.kd ∧ (mTk m s n ch).rt = (if m.P.2.2 n = 0 then u1 m.rt s ch else m.rt) ∧ (mTk m s n ch).pl = m.pl ∧ (mTk m s n ch).nu = m.nu ∧ (mTk m s n ch).cs = m.cs ∧ (mTk m s n ch).it = m.it ∧ (mTk m s n ch).nx = m.nx ∧ (mTk m s n ch).K = m.K ∧ (mTk m s n ch).E = m.E ∧ (mTk m s n ch).nm = m.nm ∧ (mTk m s n ch).fn = n ∧ (mTk m s n ch).im = m.im ∧ (mTk m s n ch).fi = m.fi ∧ (mTk m s n ch).se = m.se ∧ (mTk m s n ch).P = (u1 (tkP m.P n ch).1 n m.fn, (tkP m.P n ch).2) ∧ (mTk m s n ch).ky = m.ky ∧ (mTk m s n ch).lV = m.lV ∧ (mTk m s n ch).fV = m.fV ∧ (mTk m s n ch).pu = m.pu ∧ (mTk m s n ch).st = m.st ∧ (mTk m s n ch).sp = m.sp ∧ (mTk m s n ch).fk = m.fk ∧ (mTk m s n ch).fv = m.fv ∧ (mTk m s n ch).N = m.N ∧ (mTk m s n ch).rO = m.rO ∧ (mTk m s n ch).rP = m.rP ∧ (mTk m s n ch).rT = m.rT ∧ (mTk m s n ch).rQ = m.rQ := ⟨rfl, rfl, rfl, rfl, rfl, rfl, rfl, rfl, rfl, rfl, rfl, rfl, rfl, rfl, rfl, rfl, rfl, rfl, rfl, rfl, rfl, rfl, rfl, rfl, rfl, rfl, rfl, rfl⟩
theorem HmMv (m : MS) (n e k : Nat) : (mMv m n e k).kd = m.kd ∧ (mMv m n e k).rt = m.rt ∧ (mMv m n e k).pl = m.pl ∧ (mMv m n e k).nu = m.nu ∧ (mMv m n e k).cs = m.cs ∧ (mMv m n e k).it = m.it ∧ (mMv m n e k).nx = m.nx ∧ (mMv m n e k).K = m.K ∧ (mMv m n e k).E = m.E ∧ (mMv m n e k).nm = m.nm ∧ (mMv m n e k).fn = m.fn ∧ (mMv m n e k).im = m.im ∧ (mMv m n e k).fi = m.fi ∧ (mMv m n e k).se = m.se ∧ (mMv m n e k).P = m.P ∧ (mMv m n e k).ky = u1 m.ky n (m.ky e) ∧ (mMv m n e k).lV = u1 m.lV n (m.lV e) ∧ (mMv m n e k).fV = u1 m.fV n (m.fV e) ∧ (mMv m n e k).pu = m.pu ∧ (mMv m n e k).st = m.st ∧ (mMv m n e k).sp = m.sp + 1 + k ∧ (mMv m n e k).fk = m.fk ∧ (mMv m n e k).fv = m.fv ∧ (mMv m n e k).N = m.N ∧ (mMv m n e k).rO = m.rO ∧ (mMv m n e k).rP = m.rP ∧ (mMv m n e k).rT = m.rT ∧ (mMv m n e k).rQ = m.rQ := ⟨rfl, rfl, rfl, rfl, rfl, rfl, rfl, rfl, rfl, rfl, rfl, rfl, rfl, rfl, rfl, rfl, rfl, rfl, rfl, rfl, rfl, rfl, rfl, rfl, rfl, rfl, rfl, rfl⟩
theorem HcPip (c : CS) (s n x : Nat) : (cPip c s n x).cc = c.cc ∧ (cPip c s n x).vn = c.vn ∧ (cPip c s n x).vx = c.vx ∧ (cPip c s n x).kd = c.kd ∧ (cPip c s n x).ro = (if c.P.2.2 n = 0 then u1 c.ro s x else c.ro) ∧ (cPip c s n x).he = c.he ∧ (cPip c s n x).vs = c.vs ∧ (cPip c s n x).hy = c.hy ∧ (cPip c s n x).la = c.la ∧ (cPip c s n x).tl = c.tl ∧ (cPip c s n x).dp = c.dp ∧ (cPip c s n x).pa = c.pa ∧ (cPip c s n x).K = c.K ∧ (cPip c s n x).ar = c.ar ∧ (cPip c s n x).cn = c.cn ∧ (cPip c s n x).lg = c.lg ∧ (cPip c s n x).P = tkP c.P n x ∧ (cPip c s n x).ck = c.ck ∧ (cPip c s n x).cz = c.cz ∧ (cPip c s n x).l1 = c.l1 ∧ (cPip c s n x).f1 = c.f1 ∧ (cPip c s n x).nv = c.nv ∧ (cPip c s n x).pu = c.pu ∧ (cPip c s n x).st = c.st ∧ (cPip c s n x).fk = c.fk ∧ (cPip c s n x).fv = c.fv ∧ (cPip c s n x).E = c.E ∧ (cPip c s n x).N = c.N ∧ (cPip c s n x).rO = c.rO ∧ (cPip c s n x).rP = c.rP ∧ (cPip c s n x).rT = c.rT ∧ (cPip c s n x).rQ = c.rQ := ⟨rfl, rfl, rfl, rfl, rfl, rfl, rfl, rfl, rfl, rfl, rfl, rfl, rfl, rfl, rfl, rfl, rfl, rfl, rfl, rfl, rfl, rfl, rfl, rfl, rfl, rfl, rfl, rfl, rfl, rfl, rfl, rfl⟩
theorem HcTkv (c : CS) (a e : Nat) : (cTkv c a e).cc = c.cc ∧ (cTkv c a e).vn = c.vn ∧ (cTkv c a e).vx = c.vx ∧ (cTkv c a e).kd = c.kd ∧ (cTkv c a e).ro = c.ro ∧ (cTkv c a e).he = c.he ∧ (cTkv c a e).vs = c.vs ∧ (cTkv c a e).hy = c.hy ∧ (cTkv c a e).la = c.la ∧ (cTkv c a e).tl = c.tl ∧ (cTkv c a e).dp = c.dp ∧ (cTkv c a e).pa = c.pa ∧ (cTkv c a e).K = c.K ∧ (cTkv c a e).ar = c.ar ∧ (cTkv c a e).cn = c.cn ∧ (cTkv c a e).lg = c.lg ∧ (cTkv c a e).P = c.P ∧ (cTkv c a e).ck = u1 c.ck a (c.ck e) ∧ (cTkv c a e).cz = c.cz ∧ (cTkv c a e).l1 = u1 c.l1 a (c.l1 e) ∧ (cTkv c a e).f1 = u1 c.f1 a (c.f1 e) ∧ (cTkv c a e).nv = u1 c.nv a (c.nv e) ∧ (cTkv c a e).pu = c.pu ∧ (cTkv c a e).st = c.st ∧ (cTkv c a e).fk = c.fk ∧ (cTkv c a e).fv = c.fv ∧ (cTkv c a e).E = c.E ∧ (cTkv c a e).N = c.N ∧ (cTkv c a e).rO = c.rO ∧ (cTkv c a e).rP = c.rP ∧ (cTkv c a e).rT = c.rT ∧ (cTkv c a e).rQ = c.rQ := ⟨rfl, rfl, rfl, rfl, rfl, rfl, rfl, rfl, rfl, rfl, rfl, rfl, rfl, rfl, rfl, rfl, rfl, rfl, rfl, rfl, rfl, rfl, rfl, rfl, rfl, rfl, rfl, rfl, rfl, rfl, rfl, rfl⟩
theorem HcSE (c : CS) (v : Nat) : (c.sE v).cc = c.cc ∧ (c.sE v).vn = c.vn ∧ (c.sE v).vx = c.vx ∧ (c.sE v).kd = c.kd ∧ (c.sE v).ro = c.ro ∧ (c.sE v).he = c.he ∧ (c.sE v).vs = c.vs ∧ (c.sE v).hy = c.hy ∧ (c.sE v).la = c.la ∧ (c.sE v).tl = c.tl ∧ (c.sE v).dp = c.dp ∧ (c.sE v).pa = c.pa ∧ (c.sE v).K = c.K ∧ (c.sE v).ar = c.ar ∧ (c.sE v).cn = c.cn ∧ (c.sE v).lg = c.lg ∧ (c.sE v).P = c.P ∧ (c.sE v).ck = c.ck ∧ (c.sE v).cz = c.cz ∧ (c.sE v).l1 = c.l1 ∧ (c.sE v).f1 = c.f1 ∧ (c.sE v).nv = c.nv ∧ (c.sE v).pu = c.pu ∧ (c.sE v).st = c.st ∧ (c.sE v).fk = c.fk ∧ (c.sE v).fv = c.fv ∧ (c.sE v).E = v ∧ (c.sE v).N = c.N ∧ (c.sE v).rO = c.rO ∧ (c.sE v).rP = c.rP ∧ (c.sE v).rT = c.rT ∧ (c.sE v).rQ = c.rQ := ⟨rfl, rfl, rfl, rfl, rfl, rfl, rfl, rfl, rfl, rfl, rfl, rfl, rfl, rfl, rfl, rfl, rfl, rfl, rfl, rfl, rfl, rfl, rfl, rfl, rfl, rfl, rfl, rfl, rfl, rfl, rfl, rfl⟩
theorem HcSst (c : CS) (v : Nat → Int32) : (c.sst v).cc = c.cc ∧ (c.sst v).vn = c.vn ∧ (c.sst v).vx = c.vx ∧ (c.sst v).kd = c.kd ∧ (c.sst v).ro = c.ro ∧ (c.sst v).he = c.he ∧ (c.sst v).vs = c.vs ∧ (c.sst v).hy = c.hy ∧ (c.sst v).la = c.la ∧ (c.sst v).tl = c.tl ∧ (c.sst v).dp = c.dp ∧ (c.sst v).pa = c.pa ∧ (c.sst v).K = c.K ∧ (c.sst v).ar = c.ar ∧ (c.sst v).cn = c.cn ∧ (c.sst v).lg = c.lg ∧ (c.sst v).P = c.P ∧ (c.sst v).ck = c.ck ∧ (c.sst v).cz = c.cz ∧ (c.sst v).l1 = c.l1 ∧ (c.sst v).f1 = c.f1 ∧ (c.sst v).nv = c.nv ∧ (c.sst v).pu = c.pu ∧ (c.sst v).st = v ∧ (c.sst v).fk = c.fk ∧ (c.sst v).fv = c.fv ∧ (c.sst v).E = c.E ∧ (c.sst v).N = c.N ∧ (c.sst v).rO = c.rO ∧ (c.sst v).rP = c.rP ∧ (c.sst v).rT = c.rT ∧ (c.sst v).rQ = c.rQ := ⟨rfl, rfl, rfl, rfl, rfl, rfl, rfl, rfl, rfl, rfl, rfl, rfl, rfl, rfl, rfl, rfl, rfl, rfl, rfl, rfl, rfl, rfl, rfl, rfl, rfl, rfl, rfl, rfl, rfl, rfl, rfl, rfl⟩
def LoseOK (L : Nat) (xs : Nat → Int32) (m : MS) (c : CS) (d : DS) (B : AH) (R : Nat → List Nat) (s n : Nat) : Prop :=
  ∃ (c' : CS) (d' : DS) (m' : MS) (T z : Nat → Nat) (V : Nat → List Nat) (FN FI : List Nat) (ow : Nat → Nat),
    XM L xs 163 [.ref (d.sa (s + 1)), .ref (d.ph n)] (cl B d c) = some (cl B d c', none) ∧
    (∀ c0, cl B d c0 = cl (cl B d c0) d' c0) ∧
    (∀ h, MB h → ∀ (q : SCT) (pr : Int32) (k : Int64), X L xs 77 121 [.ref 8, .int (nI s), .long k, .null, .int pr, .int (en n), .int 1, .int (en (m.fV n))] [] (ml h (m.sW q)) = X L xs 77 177 [.ref 8, .int (nI s), .long k, .null, .int pr, .int (en n), .int 1, .int (en (m.fV n))] [] (ml h (m'.sW q))) ∧
    JJ m' (c'.sE (c.E - 1)) d' B T z V R FN FI ow ∧ JM m' (c'.sE (c.E - 1)) s ∧ 1 ≤ c.E ∧ c'.E = c.E ∧ m'.K = m.K ∧ m'.kd = m.kd ∧ m'.N = m.N ∧ m'.st = m.st ∧ m'.nu = m.nu ∧ m'.pl = m.pl ∧ (∀ r, d'.sa (r + 1) = d.sa (r + 1))
section Lose
variable (L : Nat) (xs : Nat → Int32)
theorem m_77p {h : AH} (hb : MB h) (m : MS) {s n : Nat} (n1 : 1 ≤ n) (n2 : n ≤ 20002) (i1 : 1 ≤ m.fV n) (i2 : m.fV n ≤ 20002) (nb : m.nx (m.fV n) ≤ 20002) (hE : 1 ≤ m.E) (q : SCT) (pr : Int32) (k : Int64) :
    X L xs 77 121 [.ref 8, .int (nI s), .long k, .null, .int pr, .int (en n), .int 1, .int (en (m.fV n))] [] (ml h (m.sW q)) = if m.nx (m.fV n) ≠ 0 then X L xs 77 177 [.ref 8, .int (nI s), .long k, .null, .int pr, .int (en n), .int 1, .int (en (m.fV n))] [] (ml h ((mA0 m n).sW q)) else X L xs 77 152 [.ref 8, .int (nI s), .long k, .null, .int pr, .int (en n), .int 1, .int (en (m.fV n))] [] (ml h ((mA0 m n).sW q)) := by
  obtain ⟨b1, b2, b3, b4⟩ := id hb
  have n31 : n < 2 ^ 31 := by omega
  have i31 : m.fV n < 2 ^ 31 := by omega
  have en1 : n - 1 + 1 = n := by omega
  have en2 : m.fV n - 1 + 1 = m.fV n := by omega
  have e55 := m_55 L xs hb ((m.sW q).sfV (u1 m.fV n (m.nx (m.fV n)))) i1 i2 hE
  rw [k_77_121]
  simp only [Hml, b1, b2, b3, b4, HF10, gd_t, decide_true, Bool.and_self, HQ, HZ, SWq, inb_en n1 n2 (by decide), cl_en n1 n31, en1, inb_en i1 i2 (by decide), cl_en i1 i31, en2, ml_fV h _ n1]
  rw [k_77_135]
  simp only [Hml, b1, b2, b3, b4, HF10, gd_t, decide_true, Bool.and_self, HQ, HZ, cc_9_194_10, e55, bV_s, inb_en n1 n2 (by decide), cl_en n1 n31, en1]
  have ef : (mLetI ((m.sW q).sfV (u1 m.fV n (m.nx (m.fV n)))) (m.fV n)).fV n = m.nx (m.fV n) := u1_s _ _ _
  rw [ef]
  simp only [en_m1 (show m.nx (m.fV n) < 2 ^ 31 by omega)]
  rfl
/-- what is known of the node's first value -/
theorem JJ.fst {m : MS} {c : CS} {d : DS} {B : AH} {T z : Nat → Nat} {V R : Nat → List Nat} {FN FI : List Nat} {ow : Nat → Nat} (hj : JJ m c d B T z V R FN FI ow) {s n : Nat} (hs : s < m.K) (ks : m.kd s ≤ 1) (hn : T n = s + 1) :
    ∃ t, V n = m.fV n :: t ∧ c.f1 n = m.fV n ∧ 1 ≤ m.fV n ∧ m.fV n ≤ 20000 ∧ d.iid (d.vh (m.fV n)) = m.fV n ∧ c.nv n = t.length + 1 ∧ t.length < 20003 ∧ 1 ≤ c.vs s ∧ 1 ≤ c.he s ∧ 1 ≤ m.E ∧ (m.nx (m.fV n) = 0 ↔ t = []) ∧ m.nx (m.fV n) ≤ 20002 ∧ m.fn ≤ 20002 ∧ 1 ≤ n ∧ n ≤ 20002 := by
  obtain ⟨jb, js, jt, jr, jp, jd, jv, ji, jf, jw, jh, jz, jl⟩ := id hj
  have κ0 : s + 1 ≠ 0 := Nat.succ_ne_zero s
  have tn : T n ≠ 0 := by rw [hn]; exact κ0
  obtain ⟨f1, f2, f3, f4, f5, f6, f7, f8⟩ := hj.f1 tn
  obtain ⟨v1, v2, v3, v4, v5, v6, v7, v8⟩ := jv n tn
  have n0 := jt.1.n0 tn
  have nb := jt.2.1.2 n tn
  have iw := item_let ji (i := m.fV n) (by rw [f6]; exact n0) (by rw [f6]; omega)
  obtain ⟨t, ht, hc⟩ := Chn_n0 f2 v2
  have gv := Sm_ge κ0 (fun a => (V a).length) [n] T jt.2.1 (List.nodup_cons.mpr ⟨List.not_mem_nil, List.nodup_nil⟩) (fun x hx => by rw [List.mem_singleton.mp hx]; exact hn)
  have gh := Sm_ge κ0 (fun _ => 1) [n] T jt.2.1 (List.nodup_cons.mpr ⟨List.not_mem_nil, List.nodup_nil⟩) (fun x hx => by rw [List.mem_singleton.mp hx]; exact hn)
  rw [← (jz.1 s hs).2.1 ks] at gv
  rw [← (jz.1 s hs).1 (by omega)] at gh
  have gv : (V n).length + 0 ≤ c.vs s := gv
  have gh : 1 + 0 ≤ c.he s := gh
  rw [ht, List.length_cons] at gv v6
  have bt : ∀ x, x ∈ t → x ≤ 20002 := fun x hx => f7 x (by rw [ht]; exact List.mem_cons_of_mem _ hx)
  have lt : t.length ≤ 20002 := nd_le (List.nodup_cons.mp (by rw [ht] at v7; exact v7)).2 (fun x hx => ⟨Nat.pos_of_ne_zero (fun g => Chn_mem0 hc (g ▸ hx)), bt x hx⟩)
  refine ⟨t, ht, f1, by omega, f3, f4, v6, by omega, by omega, by omega, iw.1, ?_, ?_, ?_, by omega, nb⟩
  · constructor
    · intro g; rw [g] at hc; exact Chn_0 hc
    · intro g; rw [g] at hc; exact hc
  · by_cases g : m.nx (m.fV n) = 0
    · omega
    · obtain ⟨t', ht', -⟩ := Chn_n0 g hc
      exact bt _ (by rw [ht']; exact List.mem_cons_self)
  · obtain ⟨g1, g2, g3, g4, g5, g6⟩ := jf
    by_cases g : m.fn = 0
    · omega
    · obtain ⟨t', ht', -⟩ := Chn_n0 g g1
      have := (g3 m.fn (by rw [ht']; exact List.mem_cons_self)).2
      omega
set_option maxHeartbeats 4000000 in
theorem lose_A {m : MS} {c : CS} {d : DS} {B : AH} {T z : Nat → Nat} {V R : Nat → List Nat} {FN FI : List Nat} {ow : Nat → Nat} (hj : JJ m c d B T z V R FN FI ow) {s n : Nat} (hs : s < m.K) (ks : m.kd s ≤ 1) (hn : T n = s + 1) (hM : JM m c s) (hsp : m.sp ≤ 80000) (hnx : m.nx (m.fV n) ≠ 0) : LoseOK L xs m c d B R s n := by
  obtain ⟨jb, js, jt, jr, jp, jd, jv, ji, jf, jw, jh, jz, jl⟩ := id hj
  obtain ⟨p1, p2, p3, p4⟩ := id jb.1
  obtain ⟨h1, h2, h3, h4, h5, h6⟩ := hj.kin hs
  have hw := jb.2.2.2.2.2
  obtain ⟨t, f1, f2, f3, f4, f5, f6, f7, f8, f9, f10, f11, f12, f13, n1, n2⟩ := hj.fst hs ks hn
  have tn : T n ≠ 0 := by rw [hn]; exact Nat.succ_ne_zero s
  have ht : t ≠ [] := fun g => hnx (f11.mpr g)
  have hdn := hj.hD n (Or.inr tn)
  have tl : 1 ≤ t.length := by
    cases t with
    | nil => exact absurd rfl ht
    | cons a t => exact Nat.succ_le_succ (Nat.zero_le _)
  have e163 := c163 L xs hw jb.2.2.2.1 jb.2.2.2.2.1 h2 (hj.tgt hs ks) c (n := n) (by omega) hdn (by rw [f2]; exact f5) (by rw [f2]; omega) (by omega) (by omega) f8 (fun g => by omega) (H := cl B d c) (fun g => by omega)
  rw [if_neg (by omega)] at e163
  obtain ⟨cA, hcA⟩ : ∃ x, x = cA0 c s n := ⟨_, rfl⟩
  have gC := HcA0 c s n
  rw [← hcA] at gC
  obtain ⟨cE, hcE⟩ : ∃ x, x = cA.sE (c.E - 1) := ⟨_, rfl⟩
  have gE := HcSE cA (c.E - 1)
  rw [← hcE] at gE
  have e163 : XM L xs 163 [.ref (d.sa (s + 1)), .ref (d.ph n)] (cl B d c) = some (cl B d cA, none) := by rw [hcA]; exact e163
  obtain ⟨mA, hmA⟩ : ∃ x, x = mA0 m n := ⟨_, rfl⟩
  have gM := HmA0 m n
  rw [← hmA] at gM
  have ref : ∀ h, MB h → ∀ (q : SCT) (pr : Int32) (k : Int64), X L xs 77 121 [.ref 8, .int (nI s), .long k, .null, .int pr, .int (en n), .int 1, .int (en (m.fV n))] [] (ml h (m.sW q)) = X L xs 77 177 [.ref 8, .int (nI s), .long k, .null, .int pr, .int (en n), .int 1, .int (en (m.fV n))] [] (ml h (mA.sW q)) := fun h hh q pr k => by
    rw [m_77p L xs hh m n1 n2 f3 (by omega) f12 f10 q pr k, if_pos hnx, hmA]
  clear hcA hmA
  refine ⟨cA, d.di (m.fV n), mA, T, z, u1 V n t, FN, m.fV n :: FI, u1 ow (m.fV n) 50000, e163, fun c0 => cl_di B d c0 (m.fV n), ref, ?_, ?_, ?_⟩

  all_goals obtain ⟨gCcc, gCvn, gCvx, gCkd, gCro, gChe, gCvs, gChy, gCla, gCtl, gCdp, gCpa, gCK, gCar, gCcn, gClg, gCP, gCck, gCcz, gCl1, gCf1, gCnv, gCpu, gCst, gCfk, gCfv, gCE, gCN, gCrO, gCrP, gCrT, gCrQ⟩ := gC
  all_goals obtain ⟨gEcc, gEvn, gEvx, gEkd, gEro, gEhe, gEvs, gEhy, gEla, gEtl, gEdp, gEpa, gEK, gEar, gEcn, gElg, gEP, gEck, gEcz, gEl1, gEf1, gEnv, gEpu, gEst, gEfk, gEfv, gEE, gEN, gErO, gErP, gErT, gErQ⟩ := gE
  all_goals obtain ⟨gMkd, gMrt, gMpl, gMnu, gMcs, gMit, gMnx, gMK, gME, gMnm, gMfn, gMim, gMfi, gMse, gMP, gMky, gMlV, gMfV, gMpu, gMst, gMsp, gMfk, gMfv, gMN, gMrO, gMrP, gMrT, gMrQ⟩ := gM
  all_goals try rw [← hcE]
  · exact less_tr hj hs ks hn f1 ht ⟨gMkd, gMrt, gMpl, gMnu, gMcs, gMit, gMnx, gMK, gME, gMnm, gMfn, gMim, gMfi, gMse, gMP, gMky, gMlV, gMfV⟩ ⟨gEcc.trans gCcc, gEvn.trans gCvn, gEvx.trans gCvx, gEkd.trans gCkd, gEro.trans gCro, gEhe.trans gChe, gEvs.trans gCvs, gEhy.trans gChy, gEla.trans gCla, gEtl.trans gCtl, gEdp.trans gCdp, gEpa.trans gCpa, gEK.trans gCK, gEar.trans gCar, gEcn.trans gCcn, gElg.trans gClg, gEP.trans gCP, gEck.trans gCck, gEcz.trans gCcz, gEl1.trans gCl1, gEf1.trans gCf1, gEnv.trans gCnv⟩
  · refine hM.mv (δ := 0) (gEpu.trans gCpu) ?_ (fun r _ => by rw [gEst, gCst]) gMpu gMst gMK gMsp (by rw [gMsp]; omega) ⟨gEfk.trans gCfk, gEfv.trans gCfv, gMfk, gMfv, ?_, gMse, gEcn.trans gCcn⟩ (gEN.trans gCN) gMN (gErO.trans gCrO) (gErP.trans gCrP) (gErT.trans gCrT) (gErQ.trans gCrQ) gMrO gMrP gMrT gMrQ
    · rw [gEst, gCst, nI_0, Int32.add_zero]
    · rw [gEE, gME, hM.2.2.1.2.2.1]
  · exact ⟨by rw [hM.2.2.1.2.2.1]; exact f10, gCE, gMK, gMkd, gMN, gMst, gMnu, gMpl, fun _ => rfl⟩
end Lose
