-- bring, of trees: a new node, put together
/-- what the class's state is behind hangNew -/
def NwS (cg cA : CS) (s n x i : Nat) (k : Int64) (v : Int32) (lt : Bool) : Prop :=
  (cA.ck = u1 cg.ck x k ∧ cA.cc = u1 cg.cc x cg.cn ∧ cA.P = hang cg.P n x lt ∧ cA.nv = u1 cg.nv x 1 ∧ cA.f1 = u1 cg.f1 x i ∧ cA.l1 = u1 cg.l1 x i ∧ cA.vn = u1 cg.vn i v ∧ cA.vx = u1 cg.vx i 0 ∧ cA.kd = cg.kd ∧ cA.ro = (if n = 0 then u1 cg.ro s x else cg.ro) ∧ cA.he = u1 cg.he s (cg.he s + 1) ∧ cA.vs = u1 cg.vs s (cg.vs s + 1) ∧ cA.la = cg.la ∧ cA.tl = cg.tl ∧ cA.dp = cg.dp ∧ cA.hy = cg.hy ∧ cA.pa = cg.pa ∧ cA.K = cg.K ∧ cA.ar = cg.ar) ∧
  (cA.cn = cg.cn ∧ cA.E = cg.E ∧ cA.pu = cg.pu ∧ cA.st = (if n = 0 then cg.st else u1 cg.st s (cg.st s + 1)) ∧ cA.fk = cg.fk ∧ cA.fv = cg.fv ∧ cA.N = cg.N ∧ cA.rO = cg.rO ∧ cA.rP = cg.rP ∧ cA.rT = cg.rT ∧ cA.rQ = cg.rQ)
section Brt4
variable (L : Nat) (xs : Nat → Int32)
set_option maxHeartbeats 4000000 in
theorem brn_fin {i : Nat} {B : AH} {m : MS} {c cg cA : CS} {d : DS} {T z : Nat → Nat} {V R : Nat → List Nat} {FN FI : List Nat} {ow : Nat → Nat} (ja : JA m c) (jq : JQ B m i) (hj : JJ m c d B T z V R FN FI ow) {s : Nat} (hs : s < m.K) (hk : m.kd s ≤ 1) (hE : m.E < 20000) (hN : m.N < 20000) (k : Int64) (v : Int32) {n g2 : Nat} (hn : (gT c.ck c.P k 20003 (c.ro s)).1 = n) (hg : (gT c.ck c.P k 20003 (c.ro s)).2 = g2) (gle : g2 ≤ 20003) (nb : n ≤ 20002) (tn : n ≠ 0 → T n = s + 1) (hkn : n ≠ 0 → c.ck n ≠ k)
    (hsl : Slot c.P T (s + 1) n (decide (k < c.ck n))) (hro : n = 0 → c.ro s = 0) (hdir : n ≠ 0 → Dir c.P c.ck k n) (hjg : JJ m (cLz (m.kd s) cg s) d B T z V R FN FI ow)
    (q1 : cg.pu = c.pu) (q2 : cg.st = u1 c.st s (c.st s + nI g2)) (q3 : cg.fk = c.fk) (q4 : cg.fv = c.fv) (q5 : cg.E = c.E) (q6 : cg.cn = c.cn) (q7 : cg.N = c.N) (q8 : cg.rO = c.rO) (q9 : cg.rP = c.rP) (q10 : cg.rT = c.rT) (q11 : cg.rQ = c.rQ) (q12 : cg.ck = c.ck) (q17 : cg.P = c.P) (q20 : cg.ro = c.ro) (g20 : n = 0 → g2 = 0)
    (spec : NwS cg cA s n (mid m) (iid m) k v (decide (k < c.ck n)))
    (ez : (∀ a, T a ≠ 0 → T a ≠ s + 1 → cA.cz a = cg.cz a) ∧ (m.kd s = 1 → ∀ a, u1 T (mid m) (s + 1) a = s + 1 → cA.cz a = zf (hang cg.P n (mid m) (decide (k < c.ck n))) a) ∧ (∀ r, r ≠ s → cA.lg r = cg.lg r) ∧ (m.kd s = 1 → cA.lg s = Sm (u1 T (mid m) (s + 1)) (s + 1) (fun a => Nat.log2 (zf (hang cg.P n (mid m) (decide (k < c.ck n))) a))))
    (htk : ∀ m0 (c3 : CS), cfD (XM L xs) 11 50 (tg B (d.sa (s + 1))) [.ref (d.sa (s + 1)), .ref (nn B + 1)] (cl (ml (bNod B k v c.cn) m0) ((d.ai (iid m) (nn B + 2)).an (mid m) (nn B + 1)) cA) = some (cl (ml (bNod B k v c.cn) m0) ((d.ai (iid m) (nn B + 2)).an (mid m) (nn B + 1)) c3, none) → XM L xs 161 [.ref (d.sa (s + 1)), .long k, .int v, .int (nI c.cn)] (cl (ml B m0) d c) = some (cl (ml (bNod B k v c.cn) m0) ((d.ai (iid m) (nn B + 2)).an (mid m) (nn B + 1)) c3, some (.int (nI (c3.nv (mid m)))))) : BrgOK L xs i B m c d s k v := by
  obtain ⟨FN', ⟨o1, o2, o3⟩, -⟩ := node_new hj hE
  obtain ⟨jb, js, jt, jr, jp, jd, jv, ji, jf, jw, jh, jz, jl⟩ := id hj
  obtain ⟨h1, h2, h3, h4, h5, h6⟩ := hj.kin hs
  obtain ⟨f1, f2, f3, f4, f5⟩ := ja.2.1
  obtain ⟨⟨s1, s2, s3, s4, s5, s6, s7, s8, s9, s10, s11, s12, s13, s14, s15, s16, s17, s18, s19⟩, t1, t2, t3, t4, t5, t6, t7, t8, t9, t10, t11⟩ := spec
  have hL := HcLz (m.kd s) cg s
  have hA := HcLz (m.kd s) ((cA.scn (cA.cn + 1)).sE (cA.E + 1)) s
  generalize hX : cLz (m.kd s) cg s = X at hjg hL
  generalize hY : cLz (m.kd s) ((cA.scn (cA.cn + 1)).sE (cA.E + 1)) s = Y at hA
  obtain ⟨l1, l2, l3, l4, l5, l6, l7, l8, l9, l10, l11, l12, l13, l14, l15, l16, l17, l18, l19, l20, l21, l22, l23⟩ := hL
  obtain ⟨a1, a2, a3, a4, a5, a6, a7, a8, a9, a10, a11, a12, a13, a14, a15, a16, a17, a18, a19, a20, a21, a22, a23⟩ := hA
  have eck : X.ck = c.ck := l1.trans q12
  have eP : X.P = c.P := l3.trans q17
  have em := HmNl (m.ssp g2) s n k v.toInt64 (decide (k < c.ck n)) (g2 + 1) o1
  have em2 := HmNl2 (m.ssp g2) s n k v.toInt64 (decide (k < c.ck n)) (g2 + 1)
  generalize hM' : mNl (m.ssp g2) s n k v.toInt64 (decide (k < c.ck n)) (g2 + 1) = m1 at em em2
  have nw := new_JJ (m := m.ssp g2) (m' := m1) (c := X) (c' := Y) (cm := c.cn) (n := n) (k := k) (hjg.ssp g2) hs hk hE v (by rw [eck, eP]; exact hsl) (fun g => by rw [l11, q20]; exact hro g) (fun g => by rw [eck]; exact hkn g) (fun g => by rw [eck, eP]; exact hdir g) (by rw [l21, q6]; exact Nat.le_refl _) (by rw [eck]; exact em)
    ⟨by rw [a1, l1]; exact s1, by rw [a2, l2, ← q6]; exact s2, by rw [a3, l3, eck]; exact s3, by rw [a5, l5]; exact s4, by rw [a6, l6]; exact s5, by rw [a7, l7]; exact s6, by rw [a8, l8]; exact s7, by rw [a9, l9]; exact s8, by rw [a10, l10]; exact s9, by rw [a11, l11]; exact s10, by rw [a12, l12]; exact s11, by rw [a13, l13]; exact s12, by rw [a23, l23]; show (if m.kd s = 1 then u1 cA.la s 0 else cA.la) = _; rw [s13], by rw [a14, l14]; exact s14, by rw [a15, l15]; exact s15, by rw [a17, l17]; exact s16, by rw [a18, l18]; exact s17, by rw [a19, l19]; exact s18, by rw [a20, l20]; exact s19, by rw [a21, l21, ← t1]; rfl⟩
    ⟨fun a h h' => by rw [a4, l4]; exact ez.1 a h h', fun h a h' => by rw [a4, eck, l3]; exact ez.2.1 h a h', fun r h => by rw [a16, l16]; exact ez.2.2.1 r h, fun h => by rw [a16, eck, l3]; exact ez.2.2.2 h⟩
  obtain ⟨FN1, FI1, hj1⟩ := nw
  have hj1 : JJ m1 Y ((d.ai (iid m) (nn B + 2)).an (mid m) (nn B + 1)) (bNod B k v c.cn) (u1 T (mid m) (s + 1)) (zf (hang X.P n (mid m) (decide (k < X.ck n)))) (u1 V (mid m) [iid m]) R FN1 FI1 (u1 ow (iid m) (mid m)) := hj1
  obtain ⟨e1, e2, e3, e4, e5, e6, e7, e8, e9, e10, e11, e12, e13, e14, e15, e16, e17, e18⟩ := em
  obtain ⟨w1, w2, w3, w4, w5, w6, w7, w8, w9, w10⟩ := em2
  have w1 : m1.sp = if n = 0 then g2 else g2 + 1 := w1
  have wsp : m1.sp ≤ g2 + 1 := by rw [w1]; split <;> omega
  obtain ⟨x1, x2, x3, x4, x5⟩ := bNod_ext B k v c.cn
  have Tx : u1 T (mid m) (s + 1) (mid m) = s + 1 := u1_s _ _ _
  have hjY : JJ m1 (cLz (m.kd s) cA s) ((d.ai (iid m) (nn B + 2)).an (mid m) (nn B + 1)) (bNod B k v c.cn) (u1 T (mid m) (s + 1)) (zf (hang X.P n (mid m) (decide (k < X.ck n)))) (u1 V (mid m) [iid m]) R FN1 FI1 (u1 ow (iid m) (mid m)) := by
    have hj1' := hj1
    rw [← hY, cLz_cnE] at hj1'
    have hB := HcLz (m.kd s) cA s
    have jhg := hjg.2.2.2.2.2.2.2.2.2.2.1
    have nT : ∀ x, u1 T (mid m) (s + 1) x ≠ 0 → x ≠ mid m → T x ≠ 0 := fun x hx g => by rw [u1_o _ _ g] at hx; exact hx
    have g1 : ∀ x, u1 T (mid m) (s + 1) x ≠ 0 → (((cLz (m.kd s) cA s).scn (cA.cn + 1)).sE (cA.E + 1)).cc x ≤ cA.cn := fun x hx => by
      show (cLz (m.kd s) cA s).cc x ≤ cA.cn
      rw [hB.2.1, s2, t1]
      by_cases g : x = mid m
      · rw [g, u1_s]; exact Nat.le_refl _
      · rw [u1_o _ _ g, ← l2, ← l21]
        exact jhg.2.1 x (nT x hx g)
    have g2' : ∀ x, u1 T (mid m) (s + 1) x ≠ 0 → 2 ≤ m1.kd (u1 T (mid m) (s + 1) x - 1) → (((cLz (m.kd s) cA s).scn (cA.cn + 1)).sE (cA.E + 1)).cc x < cA.cn := fun x hx h => by
      rw [e1] at h
      have h : 2 ≤ m.kd (u1 T (mid m) (s + 1) x - 1) := h
      have g : x ≠ mid m := fun g => by rw [g, Tx, Nat.add_sub_cancel] at h; omega
      show (cLz (m.kd s) cA s).cc x < cA.cn
      rw [u1_o _ _ g] at h
      rw [hB.2.1, s2, t1, u1_o _ _ g, ← l2, ← l21]
      exact (jhg.2.2.1 x (nT x hx g) h).2
    have hh := hj1'.scnE cA.cn cA.E g1 g2'
    rw [cLz_un] at hh
    exact hh
  have hrw : rwP m1 = rwP m := by
    unfold rwP
    rw [e1, e3, e4, e12]
    rfl
  have hn1 : nn (bNod B k v c.cn) ≤ nn B + 4 := by omega
  have hs1 : sl (bNod B k v c.cn) ≤ sl B + 20 := by omega
  rw [← hY] at hj1
  refine brt_fin L xs ja jq hj hs hk k v (x := mid m) hj1 hjY ?_ Tx (by omega) e12 e1 w3 w4 hrw rfl ?_ hn1 hs1 (fun m0 c3 hset => ?_) (fun h hh => ?_)
  · refine JM.of ja hN hs ?_ ?_ w2 w3 e12 (by omega) ⟨?_, ?_, ?_, ?_, ?_⟩ ?_ w4 ?_ ?_ ?_ ?_ w7 w8 w9 w10
    · exact t3.trans q1
    · show cA.st = _
      rw [t4, w1]
      by_cases n0 : n = 0
      · rw [if_pos n0, if_pos n0]; exact q2
      · rw [if_neg n0, if_neg n0, q2, u1_u1, u1_s, Int32.add_assoc, nI_1]
    · show cA.fk = m1.fk
      rw [t5, q3, w5]; exact f1
    · show cA.fv = m1.fv
      rw [t6, q4, w6]; exact f2
    · show cA.E + 1 = m1.E
      rw [t2, q5, e13, f3]; rfl
    · rw [e18]; show m.se ≤ m.N + 1; omega
    · show cA.cn + 1 ≤ m.N + 1
      rw [t1, q6]; omega
    · exact t7.trans q7
    · exact t8.trans q8
    · exact t9.trans q9
    · exact t10.trans q10
    · exact t11.trans q11
  · exact (x1.2 _ (jb.2.2.1.2.2.2 _ (by rw [h2]; exact Nat.succ_ne_zero s))).1
  · refine htk m0 c3 ?_
    have ep : ((d.ai (iid m) (nn B + 2)).an (mid m) (nn B + 1)).ph (mid m) = nn B + 1 := u1_s _ _ _
    rw [ep] at hset
    exact hset
  · obtain ⟨q, hq⟩ := ins_new L xs hj hs hk hE k v hn hg nb tn hkn h hh
    refine ⟨q, ?_⟩
    have el : (u1 V (mid m) [iid m] (mid m)).length = 1 := by rw [u1_s]; rfl
    rw [el, ← hM']
    exact hq
end Brt4
