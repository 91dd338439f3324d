-- bring, of trees: the cases
theorem hang_e (P : PT) (n x : Nat) (n0 : n ≠ 0) (x0 : x ≠ 0) : hang P n x true = stl (u1 P.1 x 0, u1 P.2.1 x 0, u1 P.2.2 x 0) n x ∧ hang P n x false = str (u1 P.1 x 0, u1 P.2.1 x 0, u1 P.2.2 x 0) n x := by
  unfold hang stl str
  constructor
  · rw [if_pos ⟨n0, rfl⟩, if_neg (fun q => by cases q.2), if_neg x0, u1_u1]
  · rw [if_neg (fun q => by cases q.2), if_pos ⟨n0, rfl⟩, if_neg x0, u1_u1]
theorem hang_0 (P : PT) (x : Nat) (lt : Bool) : hang P 0 x lt = (u1 P.1 x 0, u1 P.2.1 x 0, u1 P.2.2 x 0) := by
  unfold hang
  rw [if_neg (fun q => q.1 rfl), if_neg (fun q => q.1 rfl)]
def mNl (m : MS) (s n : Nat) (k v : Int64) (lt : Bool) (σ : Nat) : MS :=
  mAdd (if n = 0 then (mNew m k).srt (u1 m.rt s (mid m)) else ((mNew m k).ssp σ).sP (if lt then stl (mNew m k).P n (mid m) else str (mNew m k).P n (mid m))) (mid m) v
theorem HmAdd0 {M : MS} {x : Nat} (h : M.fV x = 0) (v : Int64) : mAdd M x v = ((mItm M v).sfV (u1 M.fV x (iid M))).slV (u1 M.lV x (iid M)) := by
  unfold mAdd
  have g : (mItm M v).fV x = 0 := h
  simp only [g, if_true]
  rfl
theorem HmAd0 {M : MS} {x : Nat} (h : M.fV x = 0) (v : Int64) : (mAdd M x v).kd = M.kd ∧ (mAdd M x v).rt = M.rt ∧ (mAdd M x v).pl = M.pl ∧ (mAdd M x v).nu = M.nu ∧ (mAdd M x v).ky = M.ky ∧ (mAdd M x v).P = M.P ∧ (mAdd M x v).cs = M.cs ∧ (mAdd M x v).K = M.K ∧ (mAdd M x v).nm = M.nm ∧ (mAdd M x v).fn = M.fn ∧ (mAdd M x v).se = M.se ∧ (mAdd M x v).sp = M.sp ∧ (mAdd M x v).pu = M.pu ∧ (mAdd M x v).st = M.st ∧ (mAdd M x v).N = M.N ∧ (mAdd M x v).fk = M.fk ∧ (mAdd M x v).fv = M.fv ∧ (mAdd M x v).rO = M.rO ∧ (mAdd M x v).rP = M.rP ∧ (mAdd M x v).rT = M.rT ∧ (mAdd M x v).rQ = M.rQ ∧ (mAdd M x v).fV = u1 M.fV x (iid M) ∧ (mAdd M x v).lV = u1 M.lV x (iid M) ∧ (mAdd M x v).it = u1 M.it (iid M) v ∧ (mAdd M x v).nx = u1 M.nx (iid M) 0 ∧ (mAdd M x v).E = M.E + 1 ∧ (mAdd M x v).im = (if M.fi = 0 then M.im + 1 else M.im) ∧ (mAdd M x v).fi = (if M.fi = 0 then 0 else M.nx M.fi) := by
  rw [HmAdd0 h]
  exact ⟨rfl, rfl, rfl, rfl, rfl, rfl, rfl, rfl, rfl, rfl, rfl, rfl, rfl, rfl, rfl, rfl, rfl, rfl, rfl, rfl, rfl, rfl, rfl, rfl, rfl, rfl, rfl, rfl⟩
theorem HmNew (m : MS) (k : Int64) : (mNew m k).kd = m.kd ∧ (mNew m k).rt = m.rt ∧ (mNew m k).pl = m.pl ∧ (mNew m k).nu = m.nu ∧ (mNew m k).cs = m.cs ∧ (mNew m k).it = m.it ∧ (mNew m k).nx = m.nx ∧ (mNew m k).K = m.K ∧ (mNew m k).E = m.E ∧ (mNew m k).im = m.im ∧ (mNew m k).fi = m.fi ∧ (mNew m k).se = m.se ∧ (mNew m k).sp = m.sp ∧ (mNew m k).pu = m.pu ∧ (mNew m k).st = m.st ∧ (mNew m k).N = m.N ∧ (mNew m k).fk = m.fk ∧ (mNew m k).fv = m.fv ∧ (mNew m k).rO = m.rO ∧ (mNew m k).rP = m.rP ∧ (mNew m k).rT = m.rT ∧ (mNew m k).rQ = m.rQ ∧ (mNew m k).ky = u1 m.ky (mid m) k ∧ (mNew m k).P = (u1 m.P.1 (mid m) 0, u1 m.P.2.1 (mid m) 0, u1 m.P.2.2 (mid m) 0) ∧ (mNew m k).fV = u1 m.fV (mid m) 0 ∧ (mNew m k).lV = u1 m.lV (mid m) 0 ∧ (mNew m k).nm = (if m.fn = 0 then m.nm + 1 else m.nm) ∧ (mNew m k).fn = (if m.fn = 0 then 0 else m.P.1 m.fn) ∧ iid (mNew m k) = iid m := ⟨rfl, rfl, rfl, rfl, rfl, rfl, rfl, rfl, rfl, rfl, rfl, rfl, rfl, rfl, rfl, rfl, rfl, rfl, rfl, rfl, rfl, rfl, rfl, rfl, rfl, rfl, rfl, rfl, rfl⟩
/-- the reference's new node, hung -/
def mHg (N : MS) (r : Nat → Nat) (Q : PT) (n σ : Nat) : MS := if n = 0 then N.srt r else (N.ssp σ).sP Q
theorem HmHg (N : MS) (r : Nat → Nat) (Q : PT) (n σ : Nat) : (mHg N r Q n σ).kd = N.kd ∧ (mHg N r Q n σ).pl = N.pl ∧ (mHg N r Q n σ).nu = N.nu ∧ (mHg N r Q n σ).ky = N.ky ∧ (mHg N r Q n σ).cs = N.cs ∧ (mHg N r Q n σ).fV = N.fV ∧ (mHg N r Q n σ).lV = N.lV ∧ (mHg N r Q n σ).it = N.it ∧ (mHg N r Q n σ).nx = N.nx ∧ (mHg N r Q n σ).K = N.K ∧ (mHg N r Q n σ).E = N.E ∧ (mHg N r Q n σ).im = N.im ∧ (mHg N r Q n σ).fi = N.fi ∧ (mHg N r Q n σ).nm = N.nm ∧ (mHg N r Q n σ).fn = N.fn ∧ (mHg N r Q n σ).se = N.se ∧ (mHg N r Q n σ).pu = N.pu ∧ (mHg N r Q n σ).st = N.st ∧ (mHg N r Q n σ).N = N.N ∧ (mHg N r Q n σ).fk = N.fk ∧ (mHg N r Q n σ).fv = N.fv ∧ (mHg N r Q n σ).rO = N.rO ∧ (mHg N r Q n σ).rP = N.rP ∧ (mHg N r Q n σ).rT = N.rT ∧ (mHg N r Q n σ).rQ = N.rQ ∧ iid (mHg N r Q n σ) = iid N ∧ (mHg N r Q n σ).rt = (if n = 0 then r else N.rt) ∧ (mHg N r Q n σ).P = (if n = 0 then N.P else Q) ∧ (mHg N r Q n σ).sp = (if n = 0 then N.sp else σ) := by
  unfold mHg
  by_cases n0 : n = 0
  · simp only [n0, if_true]
    exact ⟨rfl, rfl, rfl, rfl, rfl, rfl, rfl, rfl, rfl, rfl, rfl, rfl, rfl, rfl, rfl, rfl, rfl, rfl, rfl, rfl, rfl, rfl, rfl, rfl, rfl, rfl, rfl, rfl, rfl⟩
  · simp only [n0, if_false]
    exact ⟨rfl, rfl, rfl, rfl, rfl, rfl, rfl, rfl, rfl, rfl, rfl, rfl, rfl, rfl, rfl, rfl, rfl, rfl, rfl, rfl, rfl, rfl, rfl, rfl, rfl, rfl, rfl, rfl, rfl⟩
theorem mNl_e (m : MS) (s n : Nat) (k v : Int64) (lt : Bool) (σ : Nat) : mNl m s n k v lt σ = mAdd (mHg (mNew m k) (u1 m.rt s (mid m)) (if lt then stl (mNew m k).P n (mid m) else str (mNew m k).P n (mid m)) n σ) (mid m) v := rfl
theorem HmNl (m : MS) (s n : Nat) (k v : Int64) (lt : Bool) (σ : Nat) (x0 : mid m ≠ 0) : (mNl m s n k v lt σ).kd = m.kd ∧ (mNl m s n k v lt σ).rt = (if n = 0 then u1 m.rt s (mid m) else m.rt) ∧ (mNl m s n k v lt σ).pl = m.pl ∧ (mNl m s n k v lt σ).nu = m.nu ∧ (mNl m s n k v lt σ).ky = u1 m.ky (mid m) k ∧ (mNl m s n k v lt σ).P = hang m.P n (mid m) lt ∧ (mNl m s n k v lt σ).cs = m.cs ∧ (mNl m s n k v lt σ).fV = u1 m.fV (mid m) (iid m) ∧ (mNl m s n k v lt σ).lV = u1 m.lV (mid m) (iid m) ∧ (mNl m s n k v lt σ).it = u1 m.it (iid m) v ∧ (mNl m s n k v lt σ).nx = u1 m.nx (iid m) 0 ∧ (mNl m s n k v lt σ).K = m.K ∧ (mNl m s n k v lt σ).E = m.E + 1 ∧ (mNl m s n k v lt σ).nm = (if m.fn = 0 then m.nm + 1 else m.nm) ∧ (mNl m s n k v lt σ).fn = (if m.fn = 0 then 0 else m.P.1 m.fn) ∧ (mNl m s n k v lt σ).im = (if m.fi = 0 then m.im + 1 else m.im) ∧ (mNl m s n k v lt σ).fi = (if m.fi = 0 then 0 else m.nx m.fi) ∧ (mNl m s n k v lt σ).se = m.se := by
  have hP : (if n = 0 then (mNew m k).P else (if lt then stl (mNew m k).P n (mid m) else str (mNew m k).P n (mid m))) = hang m.P n (mid m) lt := by
    have eP : (mNew m k).P = (u1 m.P.1 (mid m) 0, u1 m.P.2.1 (mid m) 0, u1 m.P.2.2 (mid m) 0) := rfl
    rw [eP]
    by_cases n0 : n = 0
    · rw [if_pos n0, n0, hang_0]
    · rw [if_neg n0]
      obtain ⟨y1, y2⟩ := hang_e m.P n (mid m) n0 x0
      cases lt
      · rw [y2]; rfl
      · rw [y1]; rfl
  have hf : (mHg (mNew m k) (u1 m.rt s (mid m)) (if lt then stl (mNew m k).P n (mid m) else str (mNew m k).P n (mid m)) n σ).fV (mid m) = 0 := by
    simp only [HmHg, HmNew, u1_s]
  rw [mNl_e]
  simp only [HmAd0 hf, HmHg, hP]
  simp only [HmNew, u1_u1, and_self]
theorem HmNl2 (m : MS) (s n : Nat) (k v : Int64) (lt : Bool) (σ : Nat) : (mNl m s n k v lt σ).sp = (if n = 0 then m.sp else σ) ∧ (mNl m s n k v lt σ).pu = m.pu ∧ (mNl m s n k v lt σ).st = m.st ∧ (mNl m s n k v lt σ).N = m.N ∧ (mNl m s n k v lt σ).fk = m.fk ∧ (mNl m s n k v lt σ).fv = m.fv ∧ (mNl m s n k v lt σ).rO = m.rO ∧ (mNl m s n k v lt σ).rP = m.rP ∧ (mNl m s n k v lt σ).rT = m.rT ∧ (mNl m s n k v lt σ).rQ = m.rQ := by
  have hf : (mHg (mNew m k) (u1 m.rt s (mid m)) (if lt then stl (mNew m k).P n (mid m) else str (mNew m k).P n (mid m)) n σ).fV (mid m) = 0 := by
    simp only [HmHg, HmNew, u1_s]
  rw [mNl_e]
  simp only [HmAd0 hf, HmHg]
  simp only [HmNew, and_self]
theorem grF_fr {u : Nat → Nat} {T : Nat → Nat} {κ : Nat} (hu : ∀ y, T y = κ → u y = 0 ∨ T (u y) = κ) {a : Nat} (ha : T a ≠ κ) : ∀ (f n : Nat) (z : Nat → Nat), (n = 0 ∨ T n = κ) → grF u f n z a = z a := by
  intro f
  induction f with
  | zero => intro n z _; rfl
  | succ f ih =>
    intro n z hn
    unfold grF
    by_cases n0 : n = 0
    · rw [if_pos n0]
    · have tn := hn.resolve_left n0
      rw [if_neg n0, ih (u n) _ (hu n tn), u1_o _ _ (fun q => ha (by rw [q]; exact tn))]
theorem cLz_ad2 (kd : Nat) (c : CS) (s n i : Nat) (v : Int32) (e : Nat) : cAd2 (cLz kd c s) s n i v e = cLz kd (cAd2 c s n i v e) s := by
  unfold cLz
  by_cases q : kd = 1
  · rw [if_pos q, if_pos q]; rfl
  · rw [if_neg q, if_neg q]
theorem HcLz (kd : Nat) (c : CS) (s : Nat) : (cLz kd c s).ck = c.ck ∧ (cLz kd c s).cc = c.cc ∧ (cLz kd c s).P = c.P ∧ (cLz kd c s).cz = c.cz ∧ (cLz kd c s).nv = c.nv ∧ (cLz kd c s).f1 = c.f1 ∧ (cLz kd c s).l1 = c.l1 ∧ (cLz kd c s).vn = c.vn ∧ (cLz kd c s).vx = c.vx ∧ (cLz kd c s).kd = c.kd ∧ (cLz kd c s).ro = c.ro ∧ (cLz kd c s).he = c.he ∧ (cLz kd c s).vs = c.vs ∧ (cLz kd c s).tl = c.tl ∧ (cLz kd c s).dp = c.dp ∧ (cLz kd c s).lg = c.lg ∧ (cLz kd c s).hy = c.hy ∧ (cLz kd c s).pa = c.pa ∧ (cLz kd c s).K = c.K ∧ (cLz kd c s).ar = c.ar ∧ (cLz kd c s).cn = c.cn ∧ (cLz kd c s).E = c.E ∧ (cLz kd c s).la = (if kd = 1 then u1 c.la s 0 else c.la) := by
  unfold cLz
  by_cases q : kd = 1
  · rw [if_pos q, if_pos q]
    exact ⟨rfl, rfl, rfl, rfl, rfl, rfl, rfl, rfl, rfl, rfl, rfl, rfl, rfl, rfl, rfl, rfl, rfl, rfl, rfl, rfl, rfl, rfl, rfl⟩
  · rw [if_neg q, if_neg q]
    exact ⟨rfl, rfl, rfl, rfl, rfl, rfl, rfl, rfl, rfl, rfl, rfl, rfl, rfl, rfl, rfl, rfl, rfl, rfl, rfl, rfl, rfl, rfl, rfl⟩
theorem cLz_un (kd : Nat) (c : CS) (s a e : Nat) : ((((cLz kd c s).scn a).sE e).scn c.cn).sE c.E = cLz kd c s := by
  have e' := HcLz kd c s
  generalize cLz kd c s = X at e' ⊢
  rw [← e'.2.2.2.2.2.2.2.2.2.2.2.2.2.2.2.2.2.2.2.2.1, ← e'.2.2.2.2.2.2.2.2.2.2.2.2.2.2.2.2.2.2.2.2.2.1]
  rfl
section Brt2
variable (L : Nat) (xs : Nat → Int32)
/-- the reference, up to where the way ends -/
theorem ins_go {m : MS} {c : CS} {d : DS} {B : AH} {T z : Nat → Nat} {V R : Nat → List Nat} {FN FI : List Nat} {ow : Nat → Nat} (hj : JJ m c d B T z V R FN FI ow) {s : Nat} (hs : s < m.K) (hk : m.kd s ≤ 1) (k : Int64) (v : Int32) {n g2 : Nat} (hn : (gT c.ck c.P k 20003 (c.ro s)).1 = n) (hg : (gT c.ck c.P k 20003 (c.ro s)).2 = g2) (nb : n ≤ 20002) :
    ∀ h, MB h → ∃ q, XM L xs 74 [.ref 8, .int (nI s), .long k, .int v] (ml h m) = if n = 0 then X L xs 74 47 [.ref 8, .int (nI s), .long k, .null, .int v, .int (prT (c.he s)), .int (en n), .null] [] (ml h ((m.ssp g2).sW q)) else X L xs 74 65 [.ref 8, .int (nI s), .long k, .null, .int v, .int (prT (c.he s)), .int (en n), .null] [] (ml h ((m.ssp g2).sW q)) := by
  intro h hh
  obtain ⟨jb, js, jt, jr, jp, jd, jv, ji, jf, jw, jh, jz, jl⟩ := id hj
  obtain ⟨h1, h2, h3, h4, h5, h6⟩ := hj.kin hs
  obtain ⟨b1, b2, b3, b4⟩ := id hh
  have hs40 : s < 40 := by have := hj.K; omega
  have er := ((jr s hs).1 (by omega)).1
  have hzr := hj.zle (hj.rz hs)
  have ehe := hj.he hs (by omega)
  have egT := gT_cg (ky := m.ky) (ky' := c.ck) (P := m.P) jt.1 (fun a ha => ⟨(jp.2 a ha).1, (jp.2 a ha).2.1, (jp.2 a ha).2.2.1⟩) k 20003 (c.ro s) (hj.rz hs)
  obtain ⟨q, hq⟩ := m_64 L xs hh (m.ssp 0) (up := c.P.2.2) (T := T) (z := z) hj.mw jt.2.1 hs40 (by show LZ T (m.rt s); rw [er]; exact hj.rz hs)
  have hq : XM L xs 64 [.ref 8, .int (nI s)] (ml h (m.ssp 0)) = some (ml h ((m.ssp 0).sW q), some (.int (nI (z (m.rt s))))) := hq
  rw [er, ehe] at hq
  have e71 := s_71 L xs (ml h ((m.ssp 0).sW q)) 8 (c.he s) (by omega)
  have e72 := m_72 L xs hh ((m.ssp 0).sW q) (up := c.P.2.2) (T := T) (z := z) hj.mw jt.2.1 k hs40 (by show LZ T (m.rt s); rw [er]; exact hj.rz hs)
  have e72 : XM L xs 72 [.ref 8, .int (nI s), .long k] (ml h ((m.ssp 0).sW q)) = some (ml h ((m.ssp (0 + (gT m.ky m.P k 20003 (m.rt s)).2)).sW q), some (.int (en (gT m.ky m.P k 20003 (m.rt s)).1))) := e72
  rw [er, egT, hn, hg, Nat.zero_add] at e72
  have e61 := m_61 L xs hh (m.ssp 0) hs40 (by show m.kd s ≤ 5; exact h5)
  have e61 : XM L xs 61 [.ref 8, .int (nI s)] (ml h (m.ssp 0)) = some (ml h (m.ssp 0), some (.int 0)) := by
    rw [e61]
    show some (ml h (m.ssp 0), some (Value.int (bI1 (decide (m.kd s = 2 ∨ m.kd s = 3))))) = _
    rw [decide_eq_false (show ¬ (m.kd s = 2 ∨ m.kd s = 3) by omega)]
    rfl
  refine ⟨q, ?_⟩
  rw [en_74, k_74_0]
  simp only [Hml, b1, b2, b3, b4, HF10, gd_t, decide_true, Bool.and_self, HQ, HZ]
  rw [← nI_0, ml_sp, k_74_5]
  simp only [Hml, b1, b2, b3, b4, HF10, gd_t, decide_true, Bool.and_self, HQ, HZ, cc_9_121_10, e61, bI_s, if_true]
  rw [k_74_22]
  simp only [Hml, b1, b2, b3, b4, HF10, gd_t, decide_true, Bool.and_self, HQ, HZ, cc_9_150_10, hq, bI_s, cc_9_153_10, e71, cc_9_156_10, e72, en_m1 (show n < 2 ^ 31 by omega)]
  by_cases n0 : n = 0
  · rw [if_neg (fun g => g n0), if_pos n0]
  · rw [if_pos n0, if_neg n0]
set_option maxHeartbeats 4000000 in
theorem bring_met {i : Nat} {B : AH} {m : MS} {c : CS} {d : DS} {T z : Nat → Nat} {V R : Nat → List Nat} {FN FI : List Nat} {ow : Nat → Nat} (ja : JA m c) (jq : JQ B m i) (hj : JJ m c d B T z V R FN FI ow) {s : Nat} (hs : s < m.K) (hk : m.kd s ≤ 1) (hE : m.E < 20000) (hN : m.N < 20000) (k : Int64) (v : Int32) {n g2 : Nat} (hn : (gT c.ck c.P k 20003 (c.ro s)).1 = n) (hg : (gT c.ck c.P k 20003 (c.ro s)).2 = g2) (n0 : n ≠ 0) (tn : T n = s + 1) (ek : c.ck n = k) : BrgOK L xs i B m c d s k v := by
  obtain ⟨jb, js, jt, jr, jp, jd, jv, ji, jf, jw, jh, jz, jl⟩ := id hj
  obtain ⟨h1, h2, h3, h4, h5, h6⟩ := hj.kin hs
  have hw := jb.2.2.2.2.2
  have κ0 : s + 1 ≠ 0 := Nat.succ_ne_zero s
  have tn0 : T n ≠ 0 := by rw [tn]; exact κ0
  have nb := jt.2.1.2 n tn0
  have gle := gT_le (ky := c.ck) (P := c.P) k 20003 (c.ro s)
  rw [hg] at gle
  obtain ⟨tl', go, gl⟩ := go_ok L xs hj hs hk k hn hg
  obtain ⟨FI', ⟨i1, i2, i3⟩, -, -, -, -, -, -, -, -, i12, i13⟩ := item_new ji hE
  generalize hc1 : (cW c s n tl' g2).sst (u1 c.st s (c.st s + nI g2)) = cg at go gl
  have hjg : JJ m (cLz (m.kd s) cg s) d B T z V R FN FI ow := by rw [← hc1]; exact hj.go hs _ hk (by rw [hc1]; exact gl)
  have e1 : cg.pu = c.pu ∧ cg.st = u1 c.st s (c.st s + nI g2) ∧ cg.fk = c.fk ∧ cg.fv = c.fv ∧ cg.E = c.E ∧ cg.cn = c.cn ∧ cg.N = c.N ∧ cg.rO = c.rO ∧ cg.rP = c.rP ∧ cg.rT = c.rT ∧ cg.rQ = c.rQ ∧ cg.ck = c.ck ∧ cg.la = u1 c.la s n ∧ cg.f1 = c.f1 ∧ cg.nv = c.nv ∧ cg.vn = c.vn ∧ cg.P = c.P ∧ cg.l1 = c.l1 ∧ cg.vx = c.vx ∧ cg.ro = c.ro ∧ cg.ar = c.ar ∧ cg.cc = c.cc := by
    rw [← hc1]
    exact ⟨rfl, rfl, rfl, rfl, rfl, rfl, rfl, rfl, rfl, rfl, rfl, rfl, rfl, rfl, rfl, rfl, rfl, rfl, rfl, rfl, rfl, rfl⟩
  clear hc1
  obtain ⟨q1, q2, q3, q4, q5, q6, q7, q8, q9, q10, q11, q12, q13, q14, q15, q16, q17, q18, q19, q20, q21, q22⟩ := e1
  obtain ⟨f1, f2, f3, f4, f5⟩ := ja.2.1
  obtain ⟨v1, v2, v3, v4, v5, v6, v7, v8⟩ := jv n tn0
  have hlm : m.lV n ∈ V n := by rw [v4]; exact getLastD_mem v1
  have hl0 : m.lV n ≠ 0 := fun q => Chn_mem0 v2 (by rw [← q]; exact hlm)
  have hlb := (hj.f1 tn0).2.2.2.2.2.2.1 _ hlm
  have hid : d.iid (d.vh (iid m)) ≠ iid m := fun q => by have := (jd.2 _ i1).mp q; omega
  have hla : cg.la s = n := by rw [q13, u1_s]
  have cld : Cld d cg := hj.cld q17 q14 q18 q19 q20 q21 (fun r hr => by
    rw [q13]
    by_cases g : r = s
    · rw [g, u1_s]; exact Or.inr tn0
    · rw [u1_o _ _ g]
      by_cases l0 : c.la r = 0
      · exact Or.inl l0
      · have k0 : m.kd r = 0 := by
          rcases Nat.eq_zero_or_pos (m.kd r) with q | q
          · exact q
          · exact absurd (jl.1 r hr (by omega)) l0
        exact Or.inr (by rw [(jl.2.1 r hr k0 l0).1]; exact Nat.succ_ne_zero r))
  have hl1 : d.iid (d.vh (cg.l1 n)) = cg.l1 n := by
    have := (cld.1 (d.ph n) (by rw [hj.hD n (Or.inr tn0)]; exact n0)).2.2.2.2
    rw [hj.hD n (Or.inr tn0)] at this
    exact this
  obtain ⟨V', FI2, ow', hlen, hj2⟩ := add_JJ (hjg.ssp g2) hs hk tn hE v (cg.E + 1)
  obtain ⟨x1, x2, x3, x4⟩ := bVal_ext B v
  generalize hcA : (cAdd cg n (iid m) v).svs (u1 cg.vs s (cg.vs s + 1)) = cA
  have eA : cAd2 cg s n (iid m) v (cg.E + 1) = (cA.scn (cA.cn + 1)).sE (cA.E + 1) := by rw [← hcA]; rfl
  have ecA : cA.pu = cg.pu ∧ cA.st = cg.st ∧ cA.fk = cg.fk ∧ cA.fv = cg.fv ∧ cA.E = cg.E ∧ cA.cn = cg.cn ∧ cA.N = cg.N ∧ cA.rO = cg.rO ∧ cA.rP = cg.rP ∧ cA.rT = cg.rT ∧ cA.rQ = cg.rQ ∧ cA.cc = cg.cc := by
    rw [← hcA]
    exact ⟨rfl, rfl, rfl, rfl, rfl, rfl, rfl, rfl, rfl, rfl, rfl, rfl⟩
  obtain ⟨a1, a2, a3, a4, a5, a6, a7, a8, a9, a10, a11, a12⟩ := ecA
  have hj2 : JJ (mAdd (m.ssp g2) n v.toInt64) (cLz (m.kd s) ((cA.scn (cA.cn + 1)).sE (cA.E + 1)) s) (d.ai (iid m) (nn B + 1)) (bVal B v) T z V' R FN FI2 ow' := by
    rw [← eA, ← cLz_ad2]
    exact hj2
  have hj2' : JJ (mAdd (m.ssp g2) n v.toInt64) (cLz (m.kd s) cA s) (d.ai (iid m) (nn B + 1)) (bVal B v) T z V' R FN FI2 ow' := by
    have e' := HcLz (m.kd s) cA s
    have kdA : (mAdd (m.ssp g2) n v.toInt64).kd = m.kd := by unfold mAdd; dsimp only; split <;> rfl
    rw [cLz_cnE] at hj2
    have g1 : ∀ x, T x ≠ 0 → (((cLz (m.kd s) cA s).scn (cA.cn + 1)).sE (cA.E + 1)).cc x ≤ cA.cn := fun x hx => by
      show (cLz (m.kd s) cA s).cc x ≤ cA.cn
      rw [e'.2.1, a12, a6, q22, q6]
      exact hj.2.2.2.2.2.2.2.2.2.2.1.2.1 x hx
    have g2' : ∀ x, T x ≠ 0 → 2 ≤ (mAdd (m.ssp g2) n v.toInt64).kd (T x - 1) → (((cLz (m.kd s) cA s).scn (cA.cn + 1)).sE (cA.E + 1)).cc x < cA.cn := fun x hx g => by
      rw [kdA] at g
      show (cLz (m.kd s) cA s).cc x < cA.cn
      rw [e'.2.1, a12, a6, q22, q6]
      exact (hj.2.2.2.2.2.2.2.2.2.2.1.2.2.1 x hx g).2
    have hh := hj2.scnE cA.cn cA.E g1 g2'
    rw [cLz_un] at hh
    exact hh
  have fn0 := (hj.f1 tn0).2.1
  have eadd : mAdd (m.ssp g2) n v.toInt64 = ((mItm (m.ssp g2) v.toInt64).snx (u1 (mItm (m.ssp g2) v.toInt64).nx (m.lV n) (iid m))).slV (u1 m.lV n (iid m)) := by
    unfold mAdd
    have g : ¬ (mItm (m.ssp g2) v.toInt64).fV n = 0 := fn0
    simp only [g, if_false]
    rfl
  have em : (mAdd (m.ssp g2) n v.toInt64).sp = g2 ∧ (mAdd (m.ssp g2) n v.toInt64).K = m.K ∧ (mAdd (m.ssp g2) n v.toInt64).kd = m.kd ∧ (mAdd (m.ssp g2) n v.toInt64).st = m.st ∧ (mAdd (m.ssp g2) n v.toInt64).N = m.N ∧ (mAdd (m.ssp g2) n v.toInt64).pu = m.pu ∧ (mAdd (m.ssp g2) n v.toInt64).fk = m.fk ∧ (mAdd (m.ssp g2) n v.toInt64).fv = m.fv ∧ (mAdd (m.ssp g2) n v.toInt64).E = m.E + 1 ∧ (mAdd (m.ssp g2) n v.toInt64).se = m.se ∧ (mAdd (m.ssp g2) n v.toInt64).rO = m.rO ∧ (mAdd (m.ssp g2) n v.toInt64).rP = m.rP ∧ (mAdd (m.ssp g2) n v.toInt64).rT = m.rT ∧ (mAdd (m.ssp g2) n v.toInt64).rQ = m.rQ ∧ rwP (mAdd (m.ssp g2) n v.toInt64) = rwP m := by
    rw [eadd]
    exact ⟨rfl, rfl, rfl, rfl, rfl, rfl, rfl, rfl, rfl, rfl, rfl, rfl, rfl, rfl, rfl⟩
  obtain ⟨w1, w2, w3, w4, w5, w6, w7, w8, w9, w10, w11, w12, w13, w14, w15⟩ := em
  refine brt_fin L xs ja jq hj hs hk k v hj2 hj2' ?_ tn (by rw [w1]; omega) w2 w3 w4 w5 w15 rfl ?_ (by omega) (by omega) (fun m0 c3 hset => ?_) (fun h hh => ?_)
  · refine JM.of ja hN hs (a1.trans q1) ?_ w6 w4 w2 (by rw [w1]; omega) ⟨?_, ?_, ?_, ?_, ?_⟩ (a7.trans q7) w5 (a8.trans q8) (a9.trans q9) (a10.trans q10) (a11.trans q11) w11 w12 w13 w14
    · rw [w1]; exact a2.trans q2
    · rw [w7]; exact (a3.trans q3).trans f1
    · rw [w8]; exact (a4.trans q4).trans f2
    · rw [w9]; show cA.E + 1 = m.E + 1; rw [a5, q5, f3]
    · rw [w10]; omega
    · show cA.cn + 1 ≤ m.N + 1; rw [a6, q6]; omega
  · exact (x1.2 _ (jb.2.2.1.2.2.2 _ (by rw [h2]; exact Nat.succ_ne_zero s))).1
  · have hadd := c134 L xs (b := ml B m0) hw (jb.2.2.1) jb.2.2.2.1 jb.2.2.2.2.1 cld (a := n) (i := iid m) (hj.hD n (Or.inr tn0)) n0 (by rw [q18, v5]; exact hl0) hl1 i1 hid v
    rw [← bVal_ml B m0 v jb.2.2.1.1] at hadd
    rw [← hcA] at hset
    refine c161_m L xs (b := ml B m0) (b1 := ml (bVal B v) m0) hw jb.2.2.2.1 h2 (hj.tgt hs hk) (go m0) hla n0 (hj.hD n (Or.inr tn0)) (by rw [q12]; exact ek) hadd (jb.2.2.2.2.2.ai i1 (by show nn B + 1 ≠ 0; omega) hid) rfl rfl h2 (hj.hD n (Or.inr tn0)) ?_ ?_ hset
    · show tg (bVal B v) (d.ph n) = 4
      rw [(x1.2 _ (jb.2.2.1.2.1 _ (by rw [hj.hD n (Or.inr tn0)]; exact n0))).1]
      exact jb.2.2.2.1 _ (by rw [hj.hD n (Or.inr tn0)]; exact n0)
    · exact (x1.2 _ (jb.2.2.1.2.2.2 _ (by rw [h2]; exact Nat.succ_ne_zero s))).1
  · obtain ⟨b1, b2, b3, b4⟩ := id hh
    obtain ⟨q, hq⟩ := ins_go L xs hj hs hk k v hn hg nb h hh
    refine ⟨q, ?_⟩
    rw [hq, if_neg n0, k_74_65]
    have pc := jp.2 n tn0
    simp only [Hml, b1, b2, b3, b4, HF10, gd_t, decide_true, Bool.and_self, HQ, HZ, SWq, Ssp, inb_en (show 1 ≤ n by omega) nb (by decide), cl_en (show 1 ≤ n by omega) (show n < 2 ^ 31 by omega), show n - 1 + 1 = n from by omega, pc.2.2.1, lg_cmp_eq, ek, if_true]
    rw [k_74_129]
    have hf := hj.f1 tn0
    have e56 := m_56 L xs hh ((m.ssp g2).sW q) (show 1 ≤ n by omega) nb v i12 i13 (show m.fV n ≤ 20002 by omega) (fun _ => ⟨show 1 ≤ m.lV n by omega, show m.lV n ≤ 20002 from hlb⟩)
    have eq56 : mAdd ((m.ssp g2).sW q) n v.toInt64 = (mAdd (m.ssp g2) n v.toInt64).sW q := by
      rw [eadd]
      unfold mAdd
      have g : ¬ (mItm ((m.ssp g2).sW q) v.toInt64).fV n = 0 := fn0
      simp only [g, if_false]
      rfl
    rw [eq56] at e56
    have v' := hj2.2.2.2.2.2.2.1 n tn0
    have e57 := m_57 L xs hh ((mAdd (m.ssp g2) n v.toInt64).sW q) (show 1 ≤ n by omega) nb (l := V' n) v'.2.1 (hj2.f1 tn0).2.2.2.2.2.2.1
    simp only [Hml, b1, b2, b3, b4, HF10, gd_t, decide_true, Bool.and_self, HQ, HZ, cc_9_163_10, e56, bV_s, cc_9_166_10, e57, bI_s]
end Brt2
