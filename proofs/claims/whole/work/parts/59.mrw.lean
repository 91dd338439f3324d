-- THE REFERENCE: is, rows, begin, make, and what tells NONE from KIND
def mPsh (m : MS) (s : Nat) (v : Int64) (sp' pl' : Nat) : MS :=
  let m1 := (m.ssp sp').spl (u1 m.pl s pl')
  let m2 := mItm m1 v
  mAct (((m2.snx (u1 m2.nx (iid m) (m.rt s))).srt (u1 m.rt s (iid m))).snu (u1 m.nu s (m.nu s + 1))) s 3 (nI (prow (m.kd s) (m.nu s + 1) pl'))
def mPul (m : MS) (s : Nat) (sp' pl' : Nat) : MS :=
  let m1 := ((m.ssp 1).sfk (m.it (m.rt s))).sfv 0
  let m2 := mLetI (m1.srt (u1 m.rt s (m.nx (m.rt s)))) (m.rt s)
  mAct (((m2.snu (u1 m.nu s (m.nu s - 1))).ssp sp').spl (u1 m.pl s pl')) s 3 (nI (prow (m.kd s) (m.nu s - 1) pl'))
def mBeg (m : MS) (k : Nat) (pot : Nat) : MS := (((((((m.skd (u1 m.kd m.K k)).srt (u1 m.rt m.K 0)).spl (u1 m.pl m.K (if 4 ≤ k then 4 else 0))).snu (u1 m.nu m.K 0)).sst (u1 m.st m.K 0)).sK (m.K + 1)).spu (u1 m.pu m.K (nI pot).toInt64))
section Mrw
variable (L : Nat) (xs : Nat → Int32)
theorem m_63_t {h : AH} (hb : MB h) (m : MS) {s : Nat} (hs : s < m.K) (hK : m.K ≤ 40) : XM L xs 63 [.ref 8, .int (nI s)] (ml h m) = some (ml h m, some (.int 1)) := by
  obtain ⟨b1, b2, b3, b4⟩ := id hb
  rw [en_63, k_63_0, if_neg (nI_pos (by omega)), k_63_4]
  simp only [Hml, b1, b2, b3, b4, HF10, gd_t, decide_true, Bool.and_self, HQ, HZ]
  rw [if_neg (nI_ge hs (by omega)), k_63_12, k_63_17]
  rfl
theorem m_63_f {h : AH} (hb : MB h) (m : MS) {i : Int32} (hi : i < 0 ∨ nI m.K ≤ i) : XM L xs 63 [.ref 8, .int i] (ml h m) = some (ml h m, some (.int 0)) := by
  obtain ⟨b1, b2, b3, b4⟩ := id hb
  rw [en_63, k_63_0]
  by_cases i0 : i < 0
  · rw [if_pos i0, k_63_16, k_63_17]; rfl
  · rw [if_neg i0, k_63_4]
    simp only [Hml, b1, b2, b3, b4, HF10, gd_t, decide_true, Bool.and_self, HQ, HZ]
    rcases hi with q | q
    · exact absurd q i0
    · rw [if_pos q, k_63_16, k_63_17]; rfl
theorem st_of {K : Nat} (hK : K ≤ 40) (i : Int32) : (i < 0 ∨ nI K ≤ i) ∨ ∃ s, s < K ∧ i = nI s := by
  by_cases i0 : i < 0
  · exact Or.inl (Or.inl i0)
  · obtain ⟨j, j1, rfl⟩ := nn_of i0
    rcases Nat.lt_or_ge j K with g | g
    · exact Or.inr ⟨j, g, rfl⟩
    · exact Or.inl (Or.inr (nI_le g j1))
theorem m_97 {h : AH} (hb : MB h) (m : MS) {s : Nat} (hs : s < 40) (hk : 4 ≤ m.kd s) (hk5 : m.kd s ≤ 5) (v : Int64) (h1 : m.im < 20002) (h2 : m.fi ≤ 20002) (h3 : m.nu s < 2 ^ 28) (h4 : m.pl s < 2 ^ 28) (hN : m.N < 20000) {sp' pl' : Nat} (hc : if m.nu s = m.pl s then sp' = 1 + m.nu s ∧ pl' = 2 * m.pl s else sp' = 1 ∧ pl' = m.pl s) :
    XM L xs 97 [.ref 8, .int (nI s), .long v] (ml h m) = some (ml h (mPsh m s v sp' pl'), some (.int (nI (m.nu s + 1)))) := by
  obtain ⟨b1, b2, b3, b4⟩ := id hb
  have hi2 : iid m ≤ 20002 := by unfold iid; split <;> omega
  have hi1 : 1 ≤ iid m := by unfold iid; split <;> omega
  have pl4 : pl' < 2 ^ 30 := by split at hc <;> omega
  have key : ∀ l3 l4 : Value, X L xs 97 49 [.ref 8, .int (nI s), .long v, l3, l4] [] (ml h ((m.ssp sp').spl (u1 m.pl s pl'))) = some (ml h (mPsh m s v sp' pl'), some (.int (nI (m.nu s + 1)))) := by
    intro l3 l4
    have e1 := m_54 L xs hb ((m.ssp sp').spl (u1 m.pl s pl')) v h1 h2
    have ei : iid ((m.ssp sp').spl (u1 m.pl s pl')) = iid m := rfl
    have efin0 : mPsh m s v sp' pl' = mAct ((((mItm ((m.ssp sp').spl (u1 m.pl s pl')) v).snx (u1 (mItm ((m.ssp sp').spl (u1 m.pl s pl')) v).nx (iid m) (m.rt s))).srt (u1 m.rt s (iid m))).snu (u1 m.nu s (m.nu s + 1))) s 3 (nI (prow (m.kd s) (m.nu s + 1) pl')) := rfl
    rw [ei] at e1
    rw [efin0]
    generalize hm2 : mItm ((m.ssp sp').spl (u1 m.pl s pl')) v = m2 at *
    have er : m2.rt = m.rt := by rw [← hm2]; rfl
    have en' : m2.nu = m.nu := by rw [← hm2]; rfl
    have ek' : m2.kd = m.kd := by rw [← hm2]; rfl
    have ep' : m2.pl = u1 m.pl s pl' := by rw [← hm2]; rfl
    have eN' : m2.N = m.N := by rw [← hm2]; rfl
    rw [k_97_49]
    simp only [Hml, b1, b2, b3, b4, HF10, gd_t, decide_true, Bool.and_self, HQ, HZ, cc_9_99_10, e1, bI_s, inb_nI hs (by decide), nI_clamp (show s < 2 ^ 31 by omega), inb_en hi1 hi2 (by decide), cl_en hi1 (by omega), er, ml_nx h _ hi1]
    rw [k_97_69]
    simp only [Hml, b1, b2, b3, b4, HF10, gd_t, decide_true, Bool.and_self, HQ, HZ, inb_nI hs (by decide), nI_clamp (show s < 2 ^ 31 by omega), ml_rt, Snx, er]
    rw [k_97_77]
    simp only [Hml, b1, b2, b3, b4, HF10, gd_t, decide_true, Bool.and_self, HQ, HZ, inb_nI hs (by decide), nI_clamp (show s < 2 ^ 31 by omega), Snx, Srt, en', nI_1, ml_nu]
    rw [k_97_87]
    generalize hm3 : ((m2.snx (u1 m2.nx (iid m) (m.rt s))).srt (u1 m.rt s (iid m))).snu (u1 m.nu s (m.nu s + 1)) = m3 at *
    have ekd : m3.kd s = m.kd s := by rw [← hm3]; simp only [Snu, Srt, Snx, ek']
    have enu : m3.nu s = m.nu s + 1 := by rw [← hm3]; simp only [Snu, u1_s]
    have epl : m3.pl s = pl' := by rw [← hm3]; simp only [Snu, Srt, Snx, ep', u1_s]
    have eN : m3.N = m.N := by rw [← hm3]; simp only [Snu, Srt, Snx, eN']
    have ac := m_66_r L xs hb m3 hs (by rw [ekd]; exact hk) (by rw [ekd]; exact hk5) (by rw [enu]; omega) (by rw [epl]; exact pl4) (by rw [eN]; exact hN) 3
    rw [ekd, enu, epl] at ac
    have efin : (mAct m3 s 3 (nI (prow (m.kd s) (m.nu s + 1) pl'))).nu = m3.nu := rfl
    simp only [Hml, b1, b2, b3, b4, HF10, gd_t, decide_true, Bool.and_self, HQ, HZ, cc_9_172_10, ac, bV_s, inb_nI hs (by decide), nI_clamp (show s < 2 ^ 31 by omega), efin, enu]
  rw [en_97, k_97_0]
  simp only [Hml, b1, b2, b3, b4, HF10, gd_t, decide_true, Bool.and_self, HQ, HZ]
  rw [nI_1c, ml_sp, k_97_5]
  simp only [Hml, b1, b2, b3, b4, HF10, gd_t, decide_true, Bool.and_self, HQ, HZ, inb_nI hs (by decide), nI_clamp (show s < 2 ^ 31 by omega), Ssp, nI_eq (show m.nu s < 2 ^ 31 by omega) (show m.pl s < 2 ^ 31 by omega)]
  by_cases q : m.nu s = m.pl s
  · rw [if_pos q] at hc
    rw [if_neg (fun g => g q), k_97_20]
    simp only [Hml, b1, b2, b3, b4, HF10, gd_t, decide_true, Bool.and_self, HQ, HZ, inb_nI hs (by decide), nI_clamp (show s < 2 ^ 31 by omega), Ssp, nI_add, ml_sp]
    rw [k_97_35]
    simp only [Hml, b1, b2, b3, b4, HF10, gd_t, decide_true, Bool.and_self, HQ, HZ, inb_nI hs (by decide), nI_clamp (show s < 2 ^ 31 by omega), Ssp, nI_2c, pk_mul, ml_pl]
    rw [hc.1, hc.2] at key
    rw [hc.1, hc.2]
    exact key _ _
  · rw [if_neg q] at hc
    rw [if_pos q]
    have e : (m.ssp 1) = (m.ssp sp').spl (u1 m.pl s pl') := by
      rw [hc.1, hc.2, u1_id]
      rfl
    rw [e]
    exact key _ _
theorem m_99 {h : AH} (hb : MB h) (m : MS) {s : Nat} (hsK : s < m.K) (hK : m.K ≤ 40) (hk : 4 ≤ m.kd s) (hk5 : m.kd s ≤ 5) (h0 : 1 ≤ m.nu s) (r1 : 1 ≤ m.rt s) (r2 : m.rt s ≤ 20002) (hE : 1 ≤ m.E) (h3 : m.nu s < 2 ^ 28) (h4 : m.pl s < 2 ^ 28) (hN : m.N < 20000) {sp' pl' : Nat} (hc : (shk (m.kd s) (m.nu s - 1) (m.pl s) → sp' = 1 + (m.nu s - 1) ∧ pl' = m.pl s / 2) ∧ (¬ shk (m.kd s) (m.nu s - 1) (m.pl s) → sp' = 1 ∧ pl' = m.pl s)) :
    XM L xs 99 [.ref 8, .int (nI s)] (ml h m) = some (ml h (mPul m s sp' pl'), some (.int (nI (m.nu s - 1)))) := by
  obtain ⟨b1, b2, b3, b4⟩ := id hb
  have hs : s < 40 := by omega
  have hs2 : s < 2 ^ 31 := by omega
  have c5 : (5 : Int32) = nI 5 := by decide
  have c4 : (4 : Int32) = nI 4 := by decide
  have c20 : (20000 : Int32) = nI 20000 := by decide +kernel
  have pl4 : pl' < 2 ^ 30 := by
    rcases Classical.em (shk (m.kd s) (m.nu s - 1) (m.pl s)) with g | g
    · have := hc.1 g; omega
    · have := hc.2 g; omega
  have i1 := m_63_t L xs hb m hsK hK
  have i2 := m_62 L xs hb m hs hk5
  rw [en_99, k_99_0]
  simp only [Hml, b1, b2, b3, b4, HF10, gd_t, decide_true, Bool.and_self, HQ, HZ, cc_9_175_10, i1, bI_s, show ¬ (1 : Int32) = 0 from by decide, not_false_eq_true, if_true]
  rw [k_99_10]
  simp only [Hml, b1, b2, b3, b4, HF10, gd_t, decide_true, Bool.and_self, HQ, HZ, cc_9_113_10, i2, bI_s, hk, bI1, if_true, show ¬ (1 : Int32) = 0 from by decide, not_false_eq_true]
  rw [k_99_21]
  simp only [Hml, b1, b2, b3, b4, HF10, gd_t, decide_true, Bool.and_self, HQ, HZ, inb_nI hs (by decide), nI_clamp hs2]
  rw [if_pos (nI_ne0 (by omega) (by omega)), k_99_33]
  simp only [Hml, b1, b2, b3, b4, HF10, gd_t, decide_true, Bool.and_self, HQ, HZ, c20, nI_eq (show m.N < 2 ^ 31 by omega) (show 20000 < 2 ^ 31 by decide)]
  rw [if_pos (by omega), k_99_46]
  simp only [Hml, b1, b2, b3, b4, HF10, gd_t, decide_true, Bool.and_self, HQ, HZ]
  rw [nI_1c, ml_sp, k_99_51]
  simp only [Hml, b1, b2, b3, b4, HF10, gd_t, decide_true, Bool.and_self, HQ, HZ, inb_nI hs (by decide), nI_clamp hs2, Ssp, inb_en r1 r2 (by decide), cl_en r1 (by omega), show m.rt s - 1 + 1 = m.rt s from by omega, ml_fk]
  rw [k_99_68]
  simp only [Hml, b1, b2, b3, b4, HF10, gd_t, decide_true, Bool.and_self, HQ, HZ, ml_fv]
  rw [k_99_73]
  simp only [Hml, b1, b2, b3, b4, HF10, gd_t, decide_true, Bool.and_self, HQ, HZ, inb_nI hs (by decide), nI_clamp hs2, Ssp, Sfk, Sfv, inb_en r1 r2 (by decide), cl_en r1 (by omega), show m.rt s - 1 + 1 = m.rt s from by omega, ml_rt]
  rw [k_99_85]
  have l1 := m_55 L xs hb ((((m.ssp 1).sfk (m.it (m.rt s))).sfv 0).srt (u1 m.rt s (m.nx (m.rt s)))) r1 r2 (show 1 ≤ m.E from hE)
  have e1 : (mLetI ((((m.ssp 1).sfk (m.it (m.rt s))).sfv 0).srt (u1 m.rt s (m.nx (m.rt s)))) (m.rt s)).nu = m.nu := rfl
  simp only [Hml, b1, b2, b3, b4, HF10, gd_t, decide_true, Bool.and_self, HQ, HZ, cc_9_194_10, l1, bV_s, inb_nI hs (by decide), nI_clamp hs2, e1]
  rw [show nI (m.nu s) - 1 = nI (m.nu s - 1) from pk_sub h0, ml_nu, e1, k_99_100]
  have key : ∀ M : MS, M.kd s = m.kd s → M.nu s = m.nu s - 1 → M.pl s = pl' → M.N = m.N → X L xs 99 166 [.ref 8, .int (nI s), .int (en (m.rt s))] [] (ml h M) = some (ml h (mAct M s 3 (nI (prow (m.kd s) (m.nu s - 1) pl'))), some (.int (nI (m.nu s - 1)))) := by
    intro M k1 k2 k3 k4
    have ac := m_66_r L xs hb M hs (by rw [k1]; exact hk) (by rw [k1]; exact hk5) (by rw [k2]; omega) (by rw [k3]; exact pl4) (by rw [k4]; exact hN) 3
    rw [k1, k2, k3] at ac
    have e2 : (mAct M s 3 (nI (prow (m.kd s) (m.nu s - 1) pl'))).nu = M.nu := rfl
    rw [k_99_166]
    simp only [Hml, b1, b2, b3, b4, HF10, gd_t, decide_true, Bool.and_self, HQ, HZ, cc_9_172_10, ac, bV_s, inb_nI hs (by decide), nI_clamp hs2, e2, k2]
  generalize hm2 : (mLetI ((((m.ssp 1).sfk (m.it (m.rt s))).sfv 0).srt (u1 m.rt s (m.nx (m.rt s)))) (m.rt s)) = m2 at *
  have g1 : m2.kd = m.kd := by rw [← hm2]; rfl
  have g2 : m2.pl = m.pl := by rw [← hm2]; rfl
  have g3 : m2.N = m.N := by rw [← hm2]; rfl
  have g4 : m2.sp = 1 := by rw [← hm2]; rfl
  have efin : mPul m s sp' pl' = mAct (((m2.snu (u1 m.nu s (m.nu s - 1))).ssp sp').spl (u1 m.pl s pl')) s 3 (nI (prow (m.kd s) (m.nu s - 1) pl')) := by
    rw [← hm2]
    rfl
  rw [efin]
  have noSh : ¬ shk (m.kd s) (m.nu s - 1) (m.pl s) → X L xs 99 166 [.ref 8, .int (nI s), .int (en (m.rt s))] [] (ml h (m2.snu (u1 m.nu s (m.nu s - 1)))) = some (ml h (mAct (((m2.snu (u1 m.nu s (m.nu s - 1))).ssp sp').spl (u1 m.pl s pl')) s 3 (nI (prow (m.kd s) (m.nu s - 1) pl'))), some (.int (nI (m.nu s - 1)))) := by
    intro g
    obtain ⟨q1, q2⟩ := hc.2 g
    have e3 : (m2.snu (u1 m.nu s (m.nu s - 1))) = ((m2.snu (u1 m.nu s (m.nu s - 1))).ssp sp').spl (u1 m.pl s pl') := by
      rw [q1, q2, u1_id, ← g4, ← g2]
      rfl
    rw [← e3]
    exact key _ (by show m2.kd s = _; rw [g1]) (u1_s _ _ _) (by show m2.pl s = _; rw [g2, q2]) g3
  simp only [Hml, b1, b2, b3, b4, HF10, gd_t, decide_true, Bool.and_self, HQ, HZ, inb_nI hs (by decide), nI_clamp hs2, Snu, g1, c5, nI_eq (show m.kd s < 2 ^ 31 by omega) (show 5 < 2 ^ 31 by decide)]
  by_cases k5 : m.kd s = 5
  · rw [if_neg (fun g => g k5), k_99_110]
    simp only [Hml, b1, b2, b3, b4, HF10, gd_t, decide_true, Bool.and_self, HQ, HZ, inb_nI hs (by decide), nI_clamp hs2, Snu, g2, c4, (nI_iff (show m.pl s < 2 ^ 31 by omega) (show 4 < 2 ^ 31 by decide)).1]
    by_cases l4 : m.pl s ≤ 4
    · rw [if_pos l4]
      exact noSh (fun g => by have := g.2.1; omega)
    · rw [if_neg l4, k_99_120]
      simp only [Hml, b1, b2, b3, b4, HF10, gd_t, decide_true, Bool.and_self, HQ, HZ, inb_nI hs (by decide), nI_clamp hs2, Snu, g2, u1_s, c4, pk_mul, nI_eq (show 4 * (m.nu s - 1) < 2 ^ 31 by omega) (show m.pl s < 2 ^ 31 by omega)]
      by_cases e4 : 4 * (m.nu s - 1) = m.pl s
      · obtain ⟨q1, q2⟩ := hc.1 ⟨k5, by omega, e4⟩
        rw [if_neg (fun g => g e4), k_99_137]
        simp only [Hml, b1, b2, b3, b4, HF10, gd_t, decide_true, Bool.and_self, HQ, HZ, inb_nI hs (by decide), nI_clamp hs2, Snu, g4, u1_s, nI_add, ml_sp]
        rw [k_99_152]
        simp only [Hml, b1, b2, b3, b4, HF10, gd_t, decide_true, Bool.and_self, HQ, HZ, inb_nI hs (by decide), nI_clamp hs2, Snu, Ssp, g2, nI_2c, pk_div (show m.pl s < 2 ^ 31 by omega) (show 0 < 2 by decide) (show 2 < 2 ^ 31 by decide), show decide (nI 2 ≠ 0) = true from by decide, ml_pl]
        rw [← q1, ← q2]
        exact key _ (by show m2.kd s = _; rw [g1]) (u1_s _ _ _) (u1_s _ _ _) g3
      · rw [if_pos e4]
        exact noSh (fun g => e4 g.2.2)
  · rw [if_pos k5]
    exact noSh (fun g => k5 g.1)
theorem m_100 {h : AH} (hb : MB h) (m : MS) {s : Nat} (hsK : s < m.K) (hK : m.K ≤ 40) (hk : 4 ≤ m.kd s) (hk5 : m.kd s ≤ 5) {l : List Nat} (hl : Chn m.nx (m.rt s) l) (hn : m.nu s = l.length) (hl2 : ∀ a, a ∈ l → a ≤ 20002) (h3 : m.nu s < 2 ^ 28) (i : Int32) :
    XM L xs 100 [.ref 8, .int (nI s), .int i] (ml h m) = some (ml h m, some (.long (if i < 0 ∨ nI (m.nu s) ≤ i then 0 else m.it (l.getD (m.nu s - 1 - i.toNatClampNeg) 0)))) := by
  obtain ⟨b1, b2, b3, b4⟩ := id hb
  have hs : s < 40 := by omega
  have hs2 : s < 2 ^ 31 := by omega
  have i1 := m_63_t L xs hb m hsK hK
  have i2 := m_62 L xs hb m hs hk5
  rw [en_100, k_100_0]
  simp only [Hml, b1, b2, b3, b4, HF10, gd_t, decide_true, Bool.and_self, HQ, HZ, cc_9_175_10, i1, bI_s, show ¬ (1 : Int32) = 0 from by decide, if_false]
  rw [k_100_8]
  simp only [Hml, b1, b2, b3, b4, HF10, gd_t, decide_true, Bool.and_self, HQ, HZ, cc_9_113_10, i2, bI_s, hk, bI1, if_true, show ¬ (1 : Int32) = 0 from by decide, if_false]
  rw [k_100_16]
  by_cases i0 : i < 0
  · rw [if_pos i0, if_pos (Or.inl i0), k_100_30]
  · obtain ⟨j, j1, rfl⟩ := nn_of i0
    rw [if_neg i0, k_100_20]
    simp only [Hml, b1, b2, b3, b4, HF10, gd_t, decide_true, Bool.and_self, HQ, HZ, inb_nI hs (by decide), nI_clamp hs2, (nI_iff j1 (show m.nu s < 2 ^ 31 by omega)).2, (nI_iff (show m.nu s < 2 ^ 31 by omega) j1).1, i0, false_or, nI_clamp j1]
    by_cases q : j < m.nu s
    · rw [if_pos q, if_neg (by omega), k_100_32]
      simp only [Hml, b1, b2, b3, b4, HF10, gd_t, decide_true, Bool.and_self, HQ, HZ, inb_nI hs (by decide), nI_clamp hs2]
      have lp : ∀ (l : List Nat) (a k : Nat), Chn m.nx a l → (∀ x, x ∈ l → x ≤ 20002) → j ≤ k → k - j < l.length → k < 2 ^ 28 → X L xs 100 49 [.ref 8, .int (nI s), .int (nI j), .int (en a), .int (nI k)] [] (ml h m) = some (ml h m, some (.long (m.it (l.getD (k - j) 0)))) := by
        intro l
        induction l with
        | nil => intro a k _ _ _ hlt _; rw [List.length_nil] at hlt; omega
        | cons x t ih =>
          intro a k ha hx hjk hlt hk
          obtain ⟨rfl, x0, hc⟩ := ha
          have x1 : 1 ≤ a := by omega
          have x2 := hx a List.mem_cons_self
          rw [k_100_49]
          simp only [(nI_iff (show k < 2 ^ 31 by omega) j1).1]
          by_cases g : k ≤ j
          · have : k = j := by omega
            subst this
            rw [if_pos g, k_100_68]
            simp only [Hml, b1, b2, b3, b4, HF10, gd_t, decide_true, Bool.and_self, HQ, HZ, inb_en x1 x2 (by decide), cl_en x1 (by omega), show a - 1 + 1 = a from by omega]
            rw [Nat.sub_self]
            rfl
          · rw [if_neg g, k_100_55]
            simp only [Hml, b1, b2, b3, b4, HF10, gd_t, decide_true, Bool.and_self, HQ, HZ, inb_en x1 x2 (by decide), cl_en x1 (by omega), show a - 1 + 1 = a from by omega]
            obtain ⟨k', rfl⟩ : ∃ k', k = k' + 1 := ⟨k - 1, by omega⟩
            rw [nI_m, ih (m.nx a) k' hc (fun y hy => hx y (List.mem_cons_of_mem _ hy)) (by omega) (by rw [List.length_cons] at hlt; omega) (by omega), show k' + 1 - j = (k' - j) + 1 from by omega]
            rfl
      rw [show nI (m.nu s) - 1 = nI (m.nu s - 1) from pk_sub (show 1 ≤ m.nu s by omega), lp l (m.rt s) (m.nu s - 1) hl hl2 (by omega) (by omega) (by omega)]
    · rw [if_neg q, if_pos (by omega), k_100_30]
theorem m_101 {h : AH} (hb : MB h) (m : MS) {up T z : Nat → Nat} (hw : WF (m.P.1, m.P.2.1, up) T z) (hT : TN T) (hK : m.K < 40) {k : Nat} (hk : k ≤ 5) :
    ∃ q : SCT, XM L xs 101 [.ref 8, .int (nI k)] (ml h m) = some (ml h ((mBeg m k (if 4 ≤ k then prow k 0 4 else 0)).sW q), some (.int (nI m.K))) := by
  obtain ⟨b1, b2, b3, b4⟩ := id hb
  have c4 : (4 : Int32) = nI 4 := by decide
  have hK2 : m.K < 2 ^ 31 := by omega
  have m0 : MS := m
  have pre : XM L xs 101 [.ref 8, .int (nI k)] (ml h m) = X L xs 101 59 [.ref 8, .int (nI k), .int (nI m.K)] [] (ml h ((((((m.skd (u1 m.kd m.K k)).srt (u1 m.rt m.K 0)).spl (u1 m.pl m.K (if 4 ≤ k then 4 else 0))).snu (u1 m.nu m.K 0)).sst (u1 m.st m.K 0)).sK (m.K + 1))) := by
    rw [en_101, k_101_0]
    simp only [Hml, b1, b2, b3, b4, HF10, gd_t, decide_true, Bool.and_self, HQ, HZ, inb_nI hK (by decide), nI_clamp hK2, ml_kd]
    rw [k_101_12]
    simp only [Hml, b1, b2, b3, b4, HF10, gd_t, decide_true, Bool.and_self, HQ, HZ, inb_nI hK (by decide), nI_clamp hK2, ml_rt0]
    rw [k_101_19]
    simp only [Hml, b1, b2, b3, b4, HF10, gd_t, decide_true, Bool.and_self, HQ, HZ]
    have tail : ∀ p : Nat, X L xs 101 34 [.ref 8, .int (nI k), .int (nI m.K)] [.int (nI p), .int (nI m.K), .ref 13] (ml h ((m.skd (u1 m.kd m.K k)).srt (u1 (m.skd (u1 m.kd m.K k)).rt m.K 0))) = X L xs 101 59 [.ref 8, .int (nI k), .int (nI m.K)] [] (ml h ((((((m.skd (u1 m.kd m.K k)).srt (u1 m.rt m.K 0)).spl (u1 m.pl m.K p)).snu (u1 m.nu m.K 0)).sst (u1 m.st m.K 0)).sK (m.K + 1))) := by
      intro p
      rw [k_101_34]
      simp only [Hml, b1, b2, b3, b4, HF10, gd_t, decide_true, Bool.and_self, HQ, HZ, inb_nI hK (by decide), nI_clamp hK2, ml_pl]
      rw [k_101_35]
      simp only [Hml, b1, b2, b3, b4, HF10, gd_t, decide_true, Bool.and_self, HQ, HZ, inb_nI hK (by decide), nI_clamp hK2]
      rw [show (0 : Int32) = nI 0 from nI_0.symm, ml_nu, k_101_42]
      simp only [Hml, b1, b2, b3, b4, HF10, gd_t, decide_true, Bool.and_self, HQ, HZ, inb_nI hK (by decide), nI_clamp hK2, ml_st]
      rw [k_101_49]
      simp only [Hml, b1, b2, b3, b4, HF10, gd_t, decide_true, Bool.and_self, HQ, HZ, Sst, Snu, Spl, Srt, Skd, nI_1, ml_K]
    by_cases q : 4 ≤ k
    · rw [if_neg (by rw [c4]; exact nI_nlt q (by omega)), k_101_29, c4]
      simp only [q, if_true]
      exact tail 4
    · rw [if_pos (by rw [c4]; exact nI_lt (by omega) (by decide)), k_101_33, show (0 : Int32) = nI 0 from nI_0.symm]
      simp only [q, if_false]
      exact tail 0
  rw [pre]
  generalize hM : ((((((m.skd (u1 m.kd m.K k)).srt (u1 m.rt m.K 0)).spl (u1 m.pl m.K (if 4 ≤ k then 4 else 0))).snu (u1 m.nu m.K 0)).sst (u1 m.st m.K 0)).sK (m.K + 1)) = M
  have ekd : M.kd m.K = k := by rw [← hM]; exact u1_s _ _ _
  have ert : M.rt m.K = 0 := by rw [← hM]; exact u1_s _ _ _
  have enu : M.nu m.K = 0 := by rw [← hM]; exact u1_s _ _ _
  have epl : M.pl m.K = if 4 ≤ k then 4 else 0 := by rw [← hM]; exact u1_s _ _ _
  have eP : M.P = m.P := by rw [← hM]; rfl
  have epu : M.pu = m.pu := by rw [← hM]; rfl
  have ebg : ∀ p, mBeg m k p = M.spu (u1 m.pu m.K (nI p).toInt64) := fun p => by rw [← hM]; rfl
  rw [k_101_59]
  by_cases q : 4 ≤ k
  · have pr := m_65_r L xs hb M hK (by rw [ekd]; exact q) (by rw [ekd]; exact hk) (by rw [enu]; decide) (by rw [epl]; split <;> omega)
    rw [ekd, enu, epl, if_pos q] at pr
    refine ⟨M.2.2.2.2.2, ?_⟩
    simp only [Hml, b1, b2, b3, b4, HF10, gd_t, decide_true, Bool.and_self, HQ, HZ, cc_9_130_10, pr, bI_s, inb_nI hK (by decide), nI_clamp hK2, ml_pu, k_101_71]
    rw [if_pos q, ebg, epu]
    rfl
  · obtain ⟨sq, pr⟩ := m_65_n L xs hb M (up := up) (T := T) (z := z) (by rw [eP]; exact hw) hT hK (by rw [ekd]; omega) (by rw [ert]; exact Or.inl rfl)
    rw [ert, pdF_0] at pr
    refine ⟨sq, ?_⟩
    simp only [Hml, b1, b2, b3, b4, HF10, gd_t, decide_true, Bool.and_self, HQ, HZ, cc_9_130_10, pr, bI_s, inb_nI hK (by decide), nI_clamp hK2, ml_pu, k_101_71]
    rw [if_neg q, ebg]
    simp only [SWq, epu]
    rfl
theorem m_104 {h : AH} (hb : MB h) (m : MS) : XM L xs 104 [.ref 8] (ml h m) = some (ml h m, some (.long m.fk)) := by
  obtain ⟨b1, b2, b3, b4⟩ := id hb
  rw [en_104, k_104_0]
  simp only [Hml, b1, b2, b3, b4, HF10, gd_t, decide_true, Bool.and_self, HQ, HZ]
theorem m_105 {h : AH} (hb : MB h) (m : MS) : XM L xs 105 [.ref 8] (ml h m) = some (ml h m, some (.int m.fv)) := by
  obtain ⟨b1, b2, b3, b4⟩ := id hb
  rw [en_105, k_105_0]
  simp only [Hml, b1, b2, b3, b4, HF10, gd_t, decide_true, Bool.and_self, HQ, HZ]
end Mrw
