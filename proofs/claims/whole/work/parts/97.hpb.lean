-- bring, of heaps
def mCS (N : MS) (X : Nat → Nat) (y : Nat) : MS := (N.scs X).sse y
theorem HmCS (N : MS) (X : Nat → Nat) (y : Nat) : (mCS N X y).kd = N.kd ∧ (mCS N X y).rt = N.rt ∧ (mCS N X y).pl = N.pl ∧ (mCS N X y).nu = N.nu ∧ (mCS N X y).ky = N.ky ∧ (mCS N X y).P = N.P ∧ (mCS N X y).cs = X ∧ (mCS N X y).fV = N.fV ∧ (mCS N X y).lV = N.lV ∧ (mCS N X y).it = N.it ∧ (mCS N X y).nx = N.nx ∧ (mCS N X y).K = N.K ∧ (mCS N X y).E = N.E ∧ (mCS N X y).nm = N.nm ∧ (mCS N X y).fn = N.fn ∧ (mCS N X y).im = N.im ∧ (mCS N X y).fi = N.fi ∧ (mCS N X y).se = y ∧ (mCS N X y).sp = N.sp ∧ (mCS N X y).pu = N.pu ∧ (mCS N X y).st = N.st ∧ (mCS N X y).N = N.N ∧ (mCS N X y).fk = N.fk ∧ (mCS N X y).fv = N.fv ∧ (mCS N X y).rO = N.rO ∧ (mCS N X y).rP = N.rP ∧ (mCS N X y).rT = N.rT ∧ (mCS N X y).rQ = N.rQ ∧ iid (mCS N X y) = iid N := ⟨rfl, rfl, rfl, rfl, rfl, rfl, rfl, rfl, rfl, rfl, rfl, rfl, rfl, rfl, rfl, rfl, rfl, rfl, rfl, rfl, rfl, rfl, rfl, rfl, rfl, rfl, rfl, rfl, rfl⟩
theorem mAdd_sW {M : MS} {x : Nat} (h : M.fV x = 0) (v : Int64) (q : SCT) : mAdd (M.sW q) x v = (mAdd M x v).sW q := by
  rw [HmAdd0 (M := M.sW q) h, HmAdd0 h]
  rfl
theorem mCS_w (N : MS) (q : SCT) (x : Nat) : ((N.sW q).scs (u1 (N.sW q).cs x (N.sW q).se)).sse (((N.sW q).scs (u1 (N.sW q).cs x (N.sW q).se)).se + 1) = (mCS N (u1 N.cs x N.se) (N.se + 1)).sW q := rfl
def mH1 (m : MS) (k v : Int64) : MS := mAdd (mCS (mNew (m.ssp 0) k) (u1 m.cs (mid m) m.se) (m.se + 1)) (mid m) v
theorem mH1_f (m : MS) (k : Int64) : (mCS (mNew (m.ssp 0) k) (u1 m.cs (mid m) m.se) (m.se + 1)).fV (mid m) = 0 := by
  rw [(HmCS _ _ _).2.2.2.2.2.2.2.1]
  exact u1_s _ _ _
theorem HmH1 (m : MS) (k v : Int64) : (mH1 m k v).kd = m.kd ∧ (mH1 m k v).rt = m.rt ∧ (mH1 m k v).pl = m.pl ∧ (mH1 m k v).nu = m.nu ∧ (mH1 m k v).ky = u1 m.ky (mid m) k ∧ (mH1 m k v).P = (u1 m.P.1 (mid m) 0, u1 m.P.2.1 (mid m) 0, u1 m.P.2.2 (mid m) 0) ∧ (mH1 m k v).cs = u1 m.cs (mid m) m.se ∧ (mH1 m k v).fV = u1 m.fV (mid m) (iid m) ∧ (mH1 m k v).lV = u1 m.lV (mid m) (iid m) ∧ (mH1 m k v).it = u1 m.it (iid m) v ∧ (mH1 m k v).nx = u1 m.nx (iid m) 0 ∧ (mH1 m k v).K = m.K ∧ (mH1 m k v).E = m.E + 1 ∧ (mH1 m k v).nm = (if m.fn = 0 then m.nm + 1 else m.nm) ∧ (mH1 m k v).fn = (if m.fn = 0 then 0 else m.P.1 m.fn) ∧ (mH1 m k v).im = (if m.fi = 0 then m.im + 1 else m.im) ∧ (mH1 m k v).fi = (if m.fi = 0 then 0 else m.nx m.fi) ∧ (mH1 m k v).se = m.se + 1 ∧ (mH1 m k v).sp = 0 ∧ (mH1 m k v).pu = m.pu ∧ (mH1 m k v).st = m.st ∧ (mH1 m k v).N = m.N ∧ (mH1 m k v).fk = m.fk ∧ (mH1 m k v).fv = m.fv ∧ (mH1 m k v).rO = m.rO ∧ (mH1 m k v).rP = m.rP ∧ (mH1 m k v).rT = m.rT ∧ (mH1 m k v).rQ = m.rQ := by
  have hN := HmNew (m.ssp 0) k
  have hf := mH1_f m k
  unfold mH1
  have hC := HmCS (mNew (m.ssp 0) k) (u1 m.cs (mid m) m.se) (m.se + 1)
  generalize mNew (m.ssp 0) k = N at *
  generalize mCS N (u1 m.cs (mid m) m.se) (m.se + 1) = M at *
  have hA := HmAd0 hf v
  generalize mAdd M (mid m) v = A at *
  obtain ⟨a1, a2, a3, a4, a5, a6, a7, a8, a9, a10, a11, a12, a13, a14, a15, a16, a17, a18, a19, a20, a21, a22, a23, a24, a25, a26, a27, a28⟩ := hA
  obtain ⟨c1, c2, c3, c4, c5, c6, c7, c8, c9, c10, c11, c12, c13, c14, c15, c16, c17, c18, c19, c20, c21, c22, c23, c24, c25, c26, c27, c28, c29⟩ := hC
  obtain ⟨n1, n2, n3, n4, n5, n6, n7, n8, n9, n10, n11, n12, n13, n14, n15, n16, n17, n18, n19, n20, n21, n22, n23, n24, n25, n26, n27, n28, n29⟩ := hN
  have ei : iid M = iid m := c29.trans n29
  refine ⟨?_, ?_, ?_, ?_, ?_, ?_, ?_, ?_, ?_, ?_, ?_, ?_, ?_, ?_, ?_, ?_, ?_, ?_, ?_, ?_, ?_, ?_, ?_, ?_, ?_, ?_, ?_, ?_⟩
  · rw [a1, c1, n1]; rfl
  · rw [a2, c2, n2]; rfl
  · rw [a3, c3, n3]; rfl
  · rw [a4, c4, n4]; rfl
  · rw [a5, c5, n23]; rfl
  · rw [a6, c6, n24]; rfl
  · rw [a7, c7]
  · rw [a22, c8, n25, ei]
    show u1 (u1 m.fV (mid m) 0) (mid m) (iid m) = _
    rw [u1_u1]
  · rw [a23, c9, n26, ei]
    show u1 (u1 m.lV (mid m) 0) (mid m) (iid m) = _
    rw [u1_u1]
  · rw [a24, c10, n6, ei]; rfl
  · rw [a25, c11, n7, ei]; rfl
  · rw [a8, c12, n8]; rfl
  · rw [a26, c13, n9]; rfl
  · rw [a9, c14, n27]; rfl
  · rw [a10, c15, n28]; rfl
  · rw [a27, c17, c16, n11, n10]; rfl
  · rw [a28, c17, c11, n11, n7]; rfl
  · rw [a11, c18]
  · rw [a12, c19, n13]; rfl
  · rw [a13, c20, n14]; rfl
  · rw [a14, c21, n15]; rfl
  · rw [a15, c22, n16]; rfl
  · rw [a16, c23, n17]; rfl
  · rw [a17, c24, n18]; rfl
  · rw [a18, c25, n19]; rfl
  · rw [a19, c26, n20]; rfl
  · rw [a20, c27, n21]; rfl
  · rw [a21, c28, n22]; rfl
section Hpb
variable (L : Nat) (xs : Nat → Int32)
/-- the reference's heap-insert up to the closing -/
theorem ins_hp {m : MS} {c : CS} {d : DS} {B : AH} {T z : Nat → Nat} {V R : Nat → List Nat} {FN FI : List Nat} {ow : Nat → Nat} (hj : JJ m c d B T z V R FN FI ow) {s : Nat} (hs : s < m.K) (ks : 2 ≤ m.kd s ∧ m.kd s ≤ 3) (hE : m.E < 20000) (hse : m.se ≤ 20000) (k : Int64) (v : Int32) {M2 : MS} {q : Nat} (hq2 : q ≤ 20002)
    (hmel : ∀ h, MB h → ∀ q0 : SCT, ∃ q1 : SCT, XM L xs 90 [.ref 8, .int (nI s), .int (en (m.rt s)), .int (en (mid m))] (ml h ((mH1 m k v.toInt64).sW q0)) = some (ml h (M2.sW q1), some (.int (en q)))) :
    ∀ h, MB h → ∃ q1, XM L xs 74 [.ref 8, .int (nI s), .long k, .int v] (ml h m) = bV (XM L xs 66 [.ref 8, .int (nI s), .int (prH (c.he s) 1)] (ml h ((M2.srt (u1 M2.rt s q)).sW q1))) fun h2 => some (h2, some (.int (nI (c.he s + 1)))) := by
  intro h hh
  obtain ⟨jb, js, jt, jr, jp, jd, jv, ji, jf, jw, jh, jz, jl⟩ := id hj
  obtain ⟨FI', ⟨i1, i2, i3⟩, -, -, -, -, -, -, -, -, i12, i13⟩ := item_new ji hE
  obtain ⟨FN', ⟨o1, o2, o3⟩, -, -, -, -, -, -, -, -, o12, o13⟩ := node_new hj hE
  obtain ⟨b1, b2, b3, b4⟩ := id hh
  have hs40 : s < 40 := by have := hj.K; omega
  have hs31 : s < 2 ^ 31 := by omega
  have x1 : 1 ≤ mid m := by omega
  have x2 : mid m ≤ 20002 := by omega
  have er : m.rt s = c.ro s := ((jr s hs).1 (by omega)).1
  have hz : z (m.rt s) = c.he s := by rw [er]; exact hj.he hs (by omega)
  have hzb : c.he s ≤ 20000 := by rw [← hz, er]; exact hj.zle (hj.rz hs)
  have lz : LZ T (m.rt s) := by rw [er]; exact hj.rz hs
  obtain ⟨q0, e64⟩ := m_64 L xs hh (m.ssp 0) (up := c.P.2.2) (T := T) (z := z) hj.mw jt.2.1 hs40 lz
  have e64 : XM L xs 64 [.ref 8, .int (nI s)] (ml h (m.ssp 0)) = some (ml h ((m.ssp 0).sW q0), some (.int (nI (c.he s)))) := by rw [← hz]; exact e64
  have e61 := m_61 L xs hh (m.ssp 0) hs40 (by show m.kd s ≤ 5; omega)
  have e61 : XM L xs 61 [.ref 8, .int (nI s)] (ml h (m.ssp 0)) = some (ml h (m.ssp 0), some (.int 1)) := by
    refine e61.trans ?_
    have : decide ((m.ssp 0).kd s = 2 ∨ (m.ssp 0).kd s = 3) = true := decide_eq_true (by show m.kd s = 2 ∨ m.kd s = 3; omega)
    rw [this]
    rfl
  have emid : mid ((m.ssp 0).sW q0) = mid m := rfl
  have e52 := m_52 L xs hh ((m.ssp 0).sW q0) k o12 o13
  have eq52 : mNew ((m.ssp 0).sW q0) k = (mNew (m.ssp 0) k).sW q0 := rfl
  rw [eq52, emid] at e52
  have hf := mH1_f m k
  have hN := HmNew (m.ssp 0) k
  have hC := HmCS (mNew (m.ssp 0) k) (u1 m.cs (mid m) m.se) (m.se + 1)
  have eH : mAdd (mCS (mNew (m.ssp 0) k) (u1 m.cs (mid m) m.se) (m.se + 1)) (mid m) v.toInt64 = mH1 m k v.toInt64 := rfl
  have hr1 : ∀ q0, ((mH1 m k v.toInt64).sW q0).rt s = m.rt s := fun q0 => congrFun (HmH1 m k v.toInt64).2.1 s
  generalize hNe : mNew (m.ssp 0) k = N at *
  have ecs := mCS_w N q0 (mid m)
  have ncs : N.cs = m.cs := hN.2.2.2.2.1
  have nse : N.se = m.se := hN.2.2.2.2.2.2.2.2.2.2.2.1
  rw [ncs, nse] at ecs
  generalize mCS N (u1 m.cs (mid m) m.se) (m.se + 1) = M at *
  have e56 := m_56 L xs hh (M.sW q0) x1 x2 v (by show M.im < 20002; rw [hC.2.2.2.2.2.2.2.2.2.2.2.2.2.2.2.1, hN.2.2.2.2.2.2.2.2.2.1]; exact i12) (by show M.fi ≤ 20002; rw [hC.2.2.2.2.2.2.2.2.2.2.2.2.2.2.2.2.1, hN.2.2.2.2.2.2.2.2.2.2.1]; exact i13) (by show M.fV (mid m) ≤ 20002; omega) (fun g => absurd hf g)
  rw [mAdd_sW hf, eH] at e56
  generalize mH1 m k v.toInt64 = H1 at *
  obtain ⟨q1, e90⟩ := hmel h hh q0
  refine ⟨q1, ?_⟩
  have e91 := s_91 L xs (ml h ((M2.srt (u1 M2.rt s q)).sW q1)) (c.he s) 1 (by omega) (by decide)
  have e93 : XM L xs 93 [.ref 8, .int (nI s), .long k, .int v] (ml h (m.ssp 0)) = bV (XM L xs 66 [.ref 8, .int (nI s), .int (prH (c.he s) 1)] (ml h ((M2.srt (u1 M2.rt s q)).sW q1))) fun h2 => some (h2, some (.int (nI (c.he s + 1)))) := by
    rw [en_93, k_93_0]
    simp only [Hml, b1, b2, b3, b4, HF10, gd_t, decide_true, Bool.and_self, HQ, HZ, cc_9_150_10, e64, bI_s, cc_9_160_10, e52, inb_en x1 x2 (by decide), cl_en x1 (show mid m < 2 ^ 31 by omega), ml_cs h _ x1]
    rw [k_93_25]
    simp only [Hml, b1, b2, b3, b4, HF10, gd_t, decide_true, Bool.and_self, HQ, HZ, nI_1, ml_se]
    rw [ecs, k_93_35]
    simp only [Hml, b1, b2, b3, b4, HF10, gd_t, decide_true, Bool.and_self, HQ, HZ, cc_9_163_10, e56, bV_s, inb_nI hs40 (by decide), nI_clamp hs31, hr1 q0, cc_9_237_10, e90, bI_s, ml_rt]
    rw [k_93_62]
    have esr : (M2.sW q1).srt (u1 (M2.sW q1).rt s q) = (M2.srt (u1 M2.rt s q)).sW q1 := rfl
    rw [esr]
    simp only [Hml, b1, b2, b3, b4, HF10, gd_t, decide_true, Bool.and_self, HQ, HZ, cc_9_241_0, nI_1c, e91, bI_s, cc_9_172_10, nI_add]
  rw [en_74, k_74_0]
  simp only [Hml, b1, b2, b3, b4, HF10, gd_t, decide_true, Bool.and_self, HQ, HZ]
  rw [← nI_0, ml_sp, k_74_5]
  simp only [Hml, b1, b2, b3, b4, HF10, gd_t, decide_true, Bool.and_self, HQ, HZ, cc_9_121_10, e61, bI_s]
  rw [if_neg (by decide), k_74_13]
  simp only [Hml, b1, b2, b3, b4, HF10, gd_t, decide_true, Bool.and_self, HQ, HZ, cc_9_146_10, e93]
  generalize XM L xs 66 _ _ = G
  rcases G with _ | ⟨H, _ | r⟩ <;> rfl
end Hpb
