-- THE CLASS'S METHODS, small ones first, over its state
theorem cl_dp0 (h : AH) {d : DS} (hw : DW d) (c : CS) {s : Nat} (hd : d.sid (d.sa (s + 1)) = s + 1) : wI (cl h d c) 20 (d.sa (s + 1)) 0 = cl h d (c.sdp (u1 c.dp s 0)) := by
  have := cl_dp h hw c hd 0
  rw [nI_0] at this
  exact this
theorem cl_he0 (h : AH) {d : DS} (hw : DW d) (c : CS) {s : Nat} (hd : d.sid (d.sa (s + 1)) = s + 1) : wI (cl h d c) 14 (d.sa (s + 1)) 0 = cl h d (c.she (u1 c.he s 0)) := by
  have := cl_he h hw c hd 0
  rw [nI_0] at this
  exact this
theorem cl_vs0 (h : AH) {d : DS} (hw : DW d) (c : CS) {s : Nat} (hd : d.sid (d.sa (s + 1)) = s + 1) : wI (cl h d c) 17 (d.sa (s + 1)) 0 = cl h d (c.svs (u1 c.vs s 0)) := by
  have := cl_vs h hw c hd 0
  rw [nI_0] at this
  exact this
theorem cl_lg0 (h : AH) {d : DS} (hw : DW d) (c : CS) {s : Nat} (hd : d.sid (d.sa (s + 1)) = s + 1) : wI (cl h d c) 21 (d.sa (s + 1)) 0 = cl h d (c.slg (u1 c.lg s 0)) := by
  have := cl_lg h hw c hd 0
  rw [nI_0] at this
  exact this
theorem cl_hy0 (h : AH) {d : DS} (hw : DW d) (c : CS) {s : Nat} (hd : d.sid (d.sa (s + 1)) = s + 1) : wI (cl h d c) 22 (d.sa (s + 1)) 0 = cl h d (c.shy (u1 c.hy s 0)) := by
  have := cl_hy h hw c hd 0
  rw [nI_0] at this
  exact this
theorem dS {d : DS} (hw : DW d) {s : Nat} (hd : d.sid (d.sa (s + 1)) = s + 1) : decide (d.sa (s + 1) ≠ 0) = true := decide_eq_true (fun e => Nat.succ_ne_zero s ((sa0 hw hd).mp e))
theorem dN {d : DS} (hw : DW d) {a : Nat} (hd : d.nid (d.ph a) = a) (a0 : a ≠ 0) : decide (d.ph a ≠ 0) = true := decide_eq_true (fun e => a0 ((ph0 hw hd).mp e))
section Csm
variable (L : Nat) (xs : Nat → Int32)
theorem c133 {b : AH} {d : DS} (hw : DW d) (tN : ∀ x, d.nid x ≠ 0 → tg b x = 4) (tI : ∀ x, d.iid x ≠ 0 → tg b x = 8) (c : CS) {a : Nat} (hd : d.nid (d.ph a) = a) (a0 : a ≠ 0) (hf : d.iid (d.vh (c.f1 a)) = c.f1 a) :
    XM L xs 133 [.ref (d.ph a)] (cl b d c) = some (cl b d c, some (.int (if c.f1 a = 0 then 0 else c.vn (c.f1 a)))) := by
  have ta : tg b (d.ph a) = 4 := tN _ (by rw [hd]; exact a0)
  rw [en_133, k_133_0]
  simp only [Hcl, gd_t, decide_true, Bool.and_self, HQ, HZ, Rn d hd a0, ta, HF4, vh0 hw hf]
  by_cases f0 : c.f1 a = 0
  · rw [if_pos f0, if_pos f0, k_133_7, k_133_18]
  · rw [if_neg f0, if_neg f0, k_133_11]
    have ti : tg b (d.vh (c.f1 a)) = 8 := tI _ (by rw [hf]; exact f0)
    simp only [Hcl, gd_t, decide_true, Bool.and_self, HQ, HZ, Rn d hd a0, Ri d hf f0, ta, ti, HF4, HF8, k_133_18]
def twd (c : CS) (a : Nat) (k : Int64) : Nat := if k = c.ck a then 0 else if k < c.ck a then c.P.1 a else c.P.2.1 a
theorem c137 {b : AH} {d : DS} (hw : DW d) (tN : ∀ x, d.nid x ≠ 0 → tg b x = 4) (c : CS) {a : Nat} (hd : d.nid (d.ph a) = a) (a0 : a ≠ 0) (k : Int64) :
    XM L xs 137 [.ref (d.ph a), .long k] (cl b d c) = some (cl b d c, some (.ref (d.ph (twd c a k)))) := by
  have ta : tg b (d.ph a) = 4 := tN _ (by rw [hd]; exact a0)
  rw [en_137, k_137_0]
  simp only [Hcl, gd_t, decide_true, Bool.and_self, HQ, HZ, Rn d hd a0, ta, HF4, lg_cmp_eq]
  unfold twd
  by_cases e : k = c.ck a
  · rw [if_neg (fun q => q e), if_pos e, k_137_9, hw.1.1]
  · rw [if_pos e, if_neg e, k_137_11]
    simp only [Hcl, gd_t, decide_true, Bool.and_self, HQ, HZ, Rn d hd a0, ta, HF4, lg_cmp_ge]
    by_cases q : k < c.ck a
    · rw [if_neg (i64_nle q), if_pos q, k_137_20]
      simp only [Hcl, gd_t, decide_true, Bool.and_self, HQ, HZ, Rn d hd a0, ta, HF4, k_137_31]
    · rw [if_pos (i64_le q), if_neg q, k_137_27]
      simp only [Hcl, gd_t, decide_true, Bool.and_self, HQ, HZ, Rn d hd a0, ta, HF4, k_137_31]
theorem c138 {b : AH} {d : DS} (hw : DW d) (tN : ∀ x, d.nid x ≠ 0 → tg b x = 4) (c : CS) {a x : Nat} (hd : d.nid (d.ph a) = a) (a0 : a ≠ 0) (hx : d.nid (d.ph x) = x) :
    XM L xs 138 [.ref (d.ph a), .ref (d.ph x)] (cl b d c) = some (cl b d (c.sP (stl c.P a x)), none) := by
  have ta : tg b (d.ph a) = 4 := tN _ (by rw [hd]; exact a0)
  rw [en_138, k_138_0]
  simp only [Hcl, gd_t, decide_true, Bool.and_self, HQ, HZ, ta, HF4, cl_P1 b hw c hd a0, k_138_5, ph0 hw hx]
  unfold stl
  by_cases x0 : x = 0
  · rw [if_pos x0, if_pos x0, k_138_14]
  · have tx : tg b (d.ph x) = 4 := tN _ (by rw [hx]; exact x0)
    rw [if_neg x0, if_neg x0, k_138_9]
    simp only [Hcl, gd_t, decide_true, Bool.and_self, HQ, HZ, tx, HF4, cl_P3 b hw _ hx x0, k_138_14]
    rfl
theorem c139 {b : AH} {d : DS} (hw : DW d) (tN : ∀ x, d.nid x ≠ 0 → tg b x = 4) (c : CS) {a x : Nat} (hd : d.nid (d.ph a) = a) (a0 : a ≠ 0) (hx : d.nid (d.ph x) = x) :
    XM L xs 139 [.ref (d.ph a), .ref (d.ph x)] (cl b d c) = some (cl b d (c.sP (str c.P a x)), none) := by
  have ta : tg b (d.ph a) = 4 := tN _ (by rw [hd]; exact a0)
  rw [en_139, k_139_0]
  simp only [Hcl, gd_t, decide_true, Bool.and_self, HQ, HZ, ta, HF4, cl_P2 b hw c hd a0, k_139_5, ph0 hw hx]
  unfold str
  by_cases x0 : x = 0
  · rw [if_pos x0, if_pos x0, k_139_14]
  · have tx : tg b (d.ph x) = 4 := tN _ (by rw [hx]; exact x0)
    rw [if_neg x0, if_neg x0, k_139_9]
    simp only [Hcl, gd_t, decide_true, Bool.and_self, HQ, HZ, tx, HF4, cl_P3 b hw _ hx x0, k_139_14]
    rfl
def cLose (c : CS) (a : Nat) : CS := (c.sf1 (u1 c.f1 a (c.vx (c.f1 a)))).snv (u1 c.nv a (c.nv a - 1))
theorem c135 {b : AH} {d : DS} (hw : DW d) (tN : ∀ x, d.nid x ≠ 0 → tg b x = 4) (tI : ∀ x, d.iid x ≠ 0 → tg b x = 8) (c : CS) {a : Nat} (hd : d.nid (d.ph a) = a) (a0 : a ≠ 0) (hf : d.iid (d.vh (c.f1 a)) = c.f1 a) (f0 : c.f1 a ≠ 0) (hn : 1 ≤ c.nv a) :
    XM L xs 135 [.ref (d.ph a)] (cl b d c) = some (cl b d (cLose c a), none) := by
  have ta : tg b (d.ph a) = 4 := tN _ (by rw [hd]; exact a0)
  have ti : tg b (d.vh (c.f1 a)) = 8 := tI _ (by rw [hf]; exact f0)
  rw [en_135, k_135_0]
  simp only [Hcl, gd_t, decide_true, Bool.and_self, HQ, HZ, Rn d hd a0, ta, HF4, vh0 hw hf]
  rw [if_neg f0, k_135_7]
  simp only [Hcl, gd_t, decide_true, Bool.and_self, HQ, HZ, Rn d hd a0, Ri d hf f0, ta, ti, HF4, HF8, cl_f1 b hw _ hd a0, k_135_18, Uf1]
  rw [show nI (c.nv a) - 1 = nI (c.nv a - 1) from pk_sub hn, cl_nv b hw _ hd a0, k_135_28]
  rfl
def cTkv (c : CS) (a e : Nat) : CS := (((c.sck (u1 c.ck a (c.ck e))).snv (u1 c.nv a (c.nv e))).sf1 (u1 c.f1 a (c.f1 e))).sl1 (u1 c.l1 a (c.l1 e))
theorem c136 {b : AH} {d : DS} (hw : DW d) (tN : ∀ x, d.nid x ≠ 0 → tg b x = 4) (c : CS) {a e : Nat} (hd : d.nid (d.ph a) = a) (a0 : a ≠ 0) (he : d.nid (d.ph e) = e) (e0 : e ≠ 0) :
    XM L xs 136 [.ref (d.ph a), .ref (d.ph e)] (cl b d c) = some (cl b d (cTkv c a e), none) := by
  have ta : tg b (d.ph a) = 4 := tN _ (by rw [hd]; exact a0)
  have te : tg b (d.ph e) = 4 := tN _ (by rw [he]; exact e0)
  rw [en_136]
  simp only [k_136_0, k_136_8, k_136_16, k_136_24, k_136_32, Hcl, gd_t, decide_true, Bool.and_self, HQ, HZ, Rn d he e0, ta, te, HF4, cl_ck b hw _ hd a0, cl_nv b hw _ hd a0, cl_f1 b hw _ hd a0, cl_l1 b hw _ hd a0, Uck, Unv, Uf1]
  rfl
theorem c47 {b : AH} {d : DS} (hw : DW d) (tN : ∀ x, d.nid x ≠ 0 → tg b x = 4) (c : CS) {a : Nat} (hd : d.nid (d.ph a) = a) :
    XM L xs 47 [.ref (d.ph a)] (cl b d c) = some (cl b d c, some (.int (nI (if a = 0 then 0 else c.cz a)))) := by
  rw [en_47, k_47_0]
  simp only [ph0 hw hd]
  by_cases a0 : a = 0
  · rw [if_pos a0, if_pos a0, k_47_4, k_47_12]
    rfl
  · have ta : tg b (d.ph a) = 4 := tN _ (by rw [hd]; exact a0)
    rw [if_neg a0, if_neg a0, k_47_8]
    simp only [Hcl, gd_t, decide_true, Bool.and_self, HQ, HZ, Rn d hd a0, ta, HF4, k_47_12]
def cRsz (c : CS) (s a z : Nat) : CS := (c.slg (u1 c.lg s (c.lg s + Nat.log2 z - Nat.log2 (c.cz a)))).scz (u1 c.cz a z)
theorem c182 {b : AH} {d : DS} (hw : DW d) (tN : ∀ x, d.nid x ≠ 0 → tg b x = 4) (c : CS) {s a z : Nat} (hs : d.sid (d.sa (s + 1)) = s + 1) (ts : tg b (d.sa (s + 1)) = 7) (hd : d.nid (d.ph a) = a) (a0 : a ≠ 0) (hz : z < 2 ^ 31) (hz2 : c.cz a < 2 ^ 31) (hl : Nat.log2 (c.cz a) ≤ c.lg s + Nat.log2 z) :
    XM L xs 182 [.ref (d.sa (s + 1)), .ref (d.ph a), .int (nI z)] (cl b d c) = some (cl b d (cRsz c s a z), none) := by
  have ta : tg b (d.ph a) = 4 := tN _ (by rw [hd]; exact a0)
  rw [en_182, k_182_0]
  simp only [Hcl, gd_t, decide_true, Bool.and_self, HQ, HZ, Rs d hs, Rn d hd a0, ta, ts, HF4, HF7, cc_6_47_0, s_40 L xs _ _ hz, s_40 L xs _ _ hz2, bI_s]
  have e : nI (c.lg s) + (nI (Nat.log2 z) - nI (Nat.log2 (c.cz a))) = nI (c.lg s + Nat.log2 z - Nat.log2 (c.cz a)) := by
    rw [← pk_sub hl, ← nI_add, Int32.sub_eq_add_neg, Int32.sub_eq_add_neg, Int32.add_assoc]
  rw [e, cl_lg b hw _ hs, k_182_21]
  simp only [Hcl, gd_t, decide_true, Bool.and_self, HQ, HZ, ta, HF4, cl_cz b hw _ hd a0, k_182_26]
  rfl
def cRoot (c : CS) (s x : Nat) : CS := (c.sro (u1 c.ro s x)).sP (if x = 0 then c.P else (c.P.1, c.P.2.1, u1 c.P.2.2 x 0))
theorem c180 {b : AH} {d : DS} (hw : DW d) (tN : ∀ x, d.nid x ≠ 0 → tg b x = 4) (c : CS) {s x : Nat} (hs : d.sid (d.sa (s + 1)) = s + 1) (ts : tg b (d.sa (s + 1)) = 7) (hx : d.nid (d.ph x) = x) :
    XM L xs 180 [.ref (d.sa (s + 1)), .ref (d.ph x)] (cl b d c) = some (cl b d (cRoot c s x), none) := by
  rw [en_180, k_180_0]
  simp only [Hcl, gd_t, decide_true, Bool.and_self, HQ, HZ, ts, HF7, cl_ro b hw c hs, k_180_5, ph0 hw hx]
  unfold cRoot
  by_cases x0 : x = 0
  · rw [if_pos x0, if_pos x0, k_180_14]
    rfl
  · have tx : tg b (d.ph x) = 4 := tN _ (by rw [hx]; exact x0)
    rw [if_neg x0, if_neg x0, k_180_9]
    simp only [Hcl, gd_t, decide_true, Bool.and_self, HQ, HZ, tx, HF4, cl_P30 b hw _ hx x0, k_180_14]
    rfl
theorem c179 {b : AH} {d : DS} (hw : DW d) (c : CS) {s : Nat} (hs : d.sid (d.sa (s + 1)) = s + 1) (ts : tg b (d.sa (s + 1)) = 7) :
    XM L xs 179 [.ref (d.sa (s + 1))] (cl b d c) = some (cl b d ((((c.sro (u1 c.ro s 0)).she (u1 c.he s 0)).svs (u1 c.vs s 0)).slg (u1 c.lg s 0)), none) := by
  rw [en_179]
  simp only [k_179_0, k_179_5, k_179_10, k_179_15, k_179_20, Hcl, gd_t, decide_true, Bool.and_self, HQ, HZ, ts, HF7, cl_ro0 b hw _ hs, cl_he0 b hw _ hs, cl_vs0 b hw _ hs, cl_lg0 b hw _ hs]
  rfl
def cHrr (c : CS) (s x : Nat) : CS := if c.ro s = 0 ∨ x = 0 then c else cRsz (c.sP (str c.P (c.ro s) x)) s (c.ro s) (c.cz (c.ro s) + c.cz x)
theorem c181 {b : AH} {d : DS} (hw : DW d) (tN : ∀ x, d.nid x ≠ 0 → tg b x = 4) (c : CS) {s x : Nat} (hs : d.sid (d.sa (s + 1)) = s + 1) (ts : tg b (d.sa (s + 1)) = 7) (hr : d.nid (d.ph (c.ro s)) = c.ro s) (hx : d.nid (d.ph x) = x) (hz : c.ro s ≠ 0 → x ≠ 0 → c.cz (c.ro s) + c.cz x < 2 ^ 31 ∧ Nat.log2 (c.cz (c.ro s)) ≤ c.lg s + Nat.log2 (c.cz (c.ro s) + c.cz x)) :
    XM L xs 181 [.ref (d.sa (s + 1)), .ref (d.ph x)] (cl b d c) = some (cl b d (cHrr c s x), none) := by
  rw [en_181, k_181_0]
  simp only [Hcl, gd_t, decide_true, Bool.and_self, HQ, HZ, Rs d hs, ts, HF7, ph0 hw hr]
  unfold cHrr
  by_cases r0 : c.ro s = 0
  · rw [if_pos r0, if_pos (Or.inl r0), k_181_39]
  · rw [if_neg r0, k_181_7]
    simp only [ph0 hw hx]
    by_cases x0 : x = 0
    · rw [if_pos x0, if_pos (Or.inr x0), k_181_39]
    · rw [if_neg x0, if_neg (fun q => by rcases q with q | q; exact r0 q; exact x0 q), k_181_11]
      have tr : tg b (d.ph (c.ro s)) = 4 := tN _ (by rw [hr]; exact r0)
      have tx : tg b (d.ph x) = 4 := tN _ (by rw [hx]; exact x0)
      obtain ⟨z1, z2⟩ := hz r0 x0
      simp only [Hcl, gd_t, decide_true, Bool.and_self, HQ, HZ, Rs d hs, ts, HF7, dN hw hr r0, tr, cc_6_101_4, c139 L xs hw tN c hr r0 hx, bV_s, UP, HF4, Rn d hr r0, Rn d hx x0, tx, dS hw hs, cc_6_40_7, nI_add]
      rw [c182 L xs hw tN (c.sP (str c.P (c.ro s) x)) hs ts hr r0 (show c.cz (c.ro s) + c.cz x < 2 ^ 31 from z1) (show c.cz (c.ro s) < 2 ^ 31 by omega) z2]
      simp only [bV_s, k_181_39]
theorem c165_loop {b : AH} {d : DS} (hw : DW d) (tN : ∀ x, d.nid x ≠ 0 → tg b x = 4) {s : Nat} (hs : d.sid (d.sa (s + 1)) = s + 1) (l1 : Nat) (ts : hasF (tg b (d.sa (s + 1))) 16 = true) {T z : Nat → Nat} : ∀ (f n : Nat) (c : CS), WF c.P T z → (∀ x, T x ≠ 0 → d.nid (d.ph x) = x) → T n ≠ 0 → z n ≤ f →
    X L xs 165 2 [.ref (d.sa (s + 1)), .ref l1, .ref (d.ph n)] [] (cl b d c) = some (cl b d (c.sst (u1 c.st s (c.st s + nI (lR c.P f n).2))), some (.ref (d.ph (lR c.P f n).1))) := by
  intro f
  induction f with
  | zero => intro n c hW _ hn hz; have := hW.pos hn; omega
  | succ f ih =>
    intro n c hW hD hn hz
    have n0 := hW.n0 hn
    have hd := hD n hn
    have ta : tg b (d.ph n) = 4 := tN _ (by rw [hd]; exact n0)
    obtain ⟨w1, w2, w3, w4, w5⟩ := hW.2.2 n hn
    unfold lR
    rw [k_165_2]
    have hc : d.nid (d.ph (c.P.2.1 n)) = c.P.2.1 n := by
      by_cases c0 : c.P.2.1 n = 0
      · rw [c0, hw.1.1]; exact hw.1.2.2.2.1
      · exact hD _ (by rw [(w2 c0).2]; exact hn)
    simp only [Hcl, gd_t, decide_true, Bool.and_self, HQ, HZ, Rn d hd n0, ta, HF4, ph0 hw hc]
    by_cases c0 : c.P.2.1 n = 0
    · rw [if_pos c0, if_pos c0, k_165_27, nI_0, Int32.add_zero]
      have : u1 c.st s (c.st s) = c.st := by
        funext x
        unfold u1
        by_cases q : x = s
        · rw [if_pos q, q]
        · rw [if_neg q]
      rw [this]
      rfl
    · rw [if_neg c0, if_neg c0, k_165_9]
      simp only [Hcl, gd_t, decide_true, Bool.and_self, HQ, HZ, Rn d hd n0, Rs d hs, ta, ts, HF4, cl_st b hw _ hs, k_165_24]
      have := ih (c.P.2.1 n) (c.sst (u1 c.st s (c.st s + 1))) hW hD (by rw [(w2 c0).2]; exact hn) (by omega)
      simp only [Ust, u1_s] at this
      rw [this]
      have e : u1 (u1 c.st s (c.st s + 1)) s (c.st s + 1 + nI (lR c.P f (c.P.2.1 n)).2) = u1 c.st s (c.st s + nI ((lR c.P f (c.P.2.1 n)).2 + 1)) := by
        funext x
        unfold u1
        by_cases q : x = s
        · rw [if_pos q, if_pos q, ← nI_1, Int32.add_assoc, Int32.add_comm 1]
        · rw [if_neg q, if_neg q, if_neg q]
      rw [e]
      rfl
theorem c165 {b : AH} {d : DS} (hw : DW d) (tN : ∀ x, d.nid x ≠ 0 → tg b x = 4) {s : Nat} (hs : d.sid (d.sa (s + 1)) = s + 1) (ts : hasF (tg b (d.sa (s + 1))) 16 = true) {T z : Nat → Nat} {n : Nat} (c : CS) (hW : WF c.P T z) (hD : ∀ x, T x ≠ 0 → d.nid (d.ph x) = x) (hN : ∀ a, T a ≠ 0 → a ≤ 20002) (hn : T n ≠ 0) :
    XM L xs 165 [.ref (d.sa (s + 1)), .ref (d.ph n)] (cl b d c) = some (cl b d (c.sst (u1 c.st s (c.st s + nI (lR c.P 20003 n).2))), some (.ref (d.ph (lR c.P 20003 n).1))) := by
  rw [en_165, k_165_0]
  have := hW.z_le hN (Or.inr hn)
  exact c165_loop L xs hw tN hs _ ts 20003 n c hW hD hn (by omega)
end Csm
