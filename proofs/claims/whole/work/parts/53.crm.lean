-- the class: a node goes from a tree; join
def oneC (P : PT) (n : Nat) : Nat := if P.1 n = 0 then P.2.1 n else P.1 n
def cPip (c : CS) (s n x : Nat) : CS := (c.sP (tkP c.P n x)).sro (if c.P.2.2 n = 0 then u1 c.ro s x else c.ro)
def cPl2 (F : Nat) (c : CS) (s n : Nat) : CS :=
  let e := (lR c.P F (c.P.1 n)).1
  let c1 := cTkv (c.sst (u1 c.st s (c.st s + 1 + nI (lR c.P F (c.P.1 n)).2))) n e
  cPip c1 s e (oneC c.P e)
section Crm
variable (L : Nat) (xs : Nat → Int32)
theorem c145 {b : AH} {d : DS} (hw : DW d) (tN : ∀ x, d.nid x ≠ 0 → tg b x = 4) {s : Nat} (hsd : d.sid (d.sa (s + 1)) = s + 1) (ts : tg b (d.sa (s + 1)) = 5) (c : CS) {n x : Nat} (n0 : n ≠ 0) (hdn : d.nid (d.ph n) = n) (hx : d.nid (d.ph x) = x) (hp : d.nid (d.ph (c.P.2.2 n)) = c.P.2.2 n) (hq : c.P.2.2 n ≠ 0 → d.nid (d.ph (c.P.1 (c.P.2.2 n))) = c.P.1 (c.P.2.2 n)) :
    XM L xs 145 [.ref (d.sa (s + 1)), .ref (d.ph n), .ref (d.ph x)] (cl b d c) = some (cl b d (cPip c s n x), none) := by
  have tn : tg b (d.ph n) = 4 := tN _ (by rw [hdn]; exact n0)
  rw [en_145, k_145_0]
  simp only [Hcl, gd_t, decide_true, Bool.and_self, HQ, HZ, tn, HF4, Rn d hdn n0, ph0 hw hp]
  unfold cPip tkP
  by_cases p0 : c.P.2.2 n = 0
  · rw [if_pos p0, if_pos p0]
    simp only [p0, if_true]
    rw [k_145_9]
    simp only [Hcl, gd_t, decide_true, Bool.and_self, HQ, HZ, ts, HF5, cl_ro b hw _ hsd, k_145_14, ph0 hw hx]
    by_cases x0 : x = 0
    · rw [if_pos x0, if_pos x0, k_145_47]
      rfl
    · have tx : tg b (d.ph x) = 4 := tN _ (by rw [hx]; exact x0)
      rw [if_neg x0, if_neg x0, k_145_18]
      simp only [Hcl, gd_t, decide_true, Bool.and_self, HQ, HZ, tx, HF4, cl_P30 b hw _ hx x0, k_145_23, k_145_47]
      rfl
  · have tp : tg b (d.ph (c.P.2.2 n)) = 4 := tN _ (by rw [hp]; exact p0)
    rw [if_neg p0, if_neg p0]
    simp only [p0, if_false]
    rw [k_145_26]
    simp only [Hcl, gd_t, decide_true, Bool.and_self, HQ, HZ, tp, HF4, Rn d hp p0, phI (hq p0) hdn]
    by_cases e : c.P.1 (c.P.2.2 n) = n
    · rw [if_neg (fun q => q e), if_pos e, k_145_34]
      simp only [Hcl, gd_t, decide_true, Bool.and_self, HQ, HZ, dN hw hp p0, tp, cc_4_42_4, c138 L xs hw tN c hp p0 hx, bV_s, k_145_47]
      rfl
    · rw [if_pos e, if_neg e, k_145_42]
      simp only [Hcl, gd_t, decide_true, Bool.and_self, HQ, HZ, dN hw hp p0, tp, cc_4_45_4, c139 L xs hw tN c hp p0 hx, bV_s, k_145_47]
      rfl
theorem c144_1 {b : AH} {d : DS} (hw : DW d) (tN : ∀ x, d.nid x ≠ 0 → tg b x = 4) {s : Nat} (hsd : d.sid (d.sa (s + 1)) = s + 1) (ts : tg b (d.sa (s + 1)) = 5) (c : CS) {T z : Nat → Nat} (hW : WF c.P T z) (hD : ∀ x, LZ T x → d.nid (d.ph x) = x) {n : Nat} (hn : T n ≠ 0) (hc : c.P.1 n = 0 ∨ c.P.2.1 n = 0) :
    XM L xs 144 [.ref (d.sa (s + 1)), .ref (d.ph n)] (cl b d c) = some (cl b d (cPip c s n (oneC c.P n)), none) := by
  have n0 := hW.n0 hn
  have hdn := hD n (Or.inr hn)
  have tn : tg b (d.ph n) = 4 := tN _ (by rw [hdn]; exact n0)
  have h1 := hD _ (hW.lzl hn)
  have h2 := hD _ (hW.lzr hn)
  have h3 := hD _ (hW.lzu hn)
  have h4 : c.P.2.2 n ≠ 0 → d.nid (d.ph (c.P.1 (c.P.2.2 n))) = c.P.1 (c.P.2.2 n) := fun u0 => hD _ (hW.lzl (by rw [(hW.up_lt hn u0).2]; exact hn))
  have tail : X L xs 144 40 [.ref (d.sa (s + 1)), .ref (d.ph n), .ref (d.ph n)] [] (cl b d c) = some (cl b d (cPip c s n (oneC c.P n)), none) := by
    rw [k_144_40]
    simp only [Hcl, gd_t, decide_true, Bool.and_self, HQ, HZ, tn, HF4, Rn d hdn n0, ph0 hw h1]
    unfold oneC
    by_cases l0 : c.P.1 n = 0
    · rw [if_pos l0, if_pos l0, k_144_56]
      simp only [Hcl, gd_t, decide_true, Bool.and_self, HQ, HZ, tn, HF4, Rn d hdn n0]
      rw [k_144_60]
      simp only [Hcl, gd_t, decide_true, Bool.and_self, HQ, HZ, dS hw hsd, ts, cc_4_32_5, c145 L xs hw tN hsd ts c n0 hdn h2 h3 h4, bV_s]
    · rw [if_neg l0, if_neg l0, k_144_49]
      simp only [Hcl, gd_t, decide_true, Bool.and_self, HQ, HZ, tn, HF4, Rn d hdn n0]
      rw [k_144_60]
      simp only [Hcl, gd_t, decide_true, Bool.and_self, HQ, HZ, dS hw hsd, ts, cc_4_32_5, c145 L xs hw tN hsd ts c n0 hdn h1 h3 h4, bV_s]
  rw [en_144, k_144_0]
  simp only [Hcl, gd_t, decide_true, Bool.and_self, HQ, HZ, tn, HF4, Rn d hdn n0, ph0 hw h1]
  by_cases l0 : c.P.1 n = 0
  · rw [if_pos l0]; exact tail
  · rw [if_neg l0, k_144_9]
    simp only [Hcl, gd_t, decide_true, Bool.and_self, HQ, HZ, tn, HF4, Rn d hdn n0, ph0 hw h2]
    rcases hc with q | q
    · exact absurd q l0
    · rw [if_pos q]; exact tail
theorem c144_2 {b : AH} {d : DS} (hw : DW d) (tN : ∀ x, d.nid x ≠ 0 → tg b x = 4) {s : Nat} (hsd : d.sid (d.sa (s + 1)) = s + 1) (ts : tg b (d.sa (s + 1)) = 5) (c : CS) {T z : Nat → Nat} (hW : WF c.P T z) (hD : ∀ x, LZ T x → d.nid (d.ph x) = x) (hN : ∀ a, T a ≠ 0 → a ≤ 20002) {n : Nat} (hn : T n ≠ 0) (hl : c.P.1 n ≠ 0) (hr : c.P.2.1 n ≠ 0) :
    XM L xs 144 [.ref (d.sa (s + 1)), .ref (d.ph n)] (cl b d c) = some (cl b d (cPl2 20003 c s n), none) := by
  have n0 := hW.n0 hn
  have hdn := hD n (Or.inr hn)
  have tn : tg b (d.ph n) = 4 := tN _ (by rw [hdn]; exact n0)
  have h1 := hD _ (hW.lzl hn)
  have h2 := hD _ (hW.lzr hn)
  have hlT : T (c.P.1 n) ≠ 0 := by rw [((hW.2.2 n hn).1 hl).2]; exact hn
  have hm := lR_mem hW 20003 (c.P.1 n) hlT
  have go := c165 L xs hw tN hsd (show hasF (tg b (d.sa (s + 1))) 16 = true by rw [ts]; rfl) (c.sst (u1 c.st s (c.st s + 1))) hW (fun x hx => hD x (Or.inr hx)) hN hlT
  have est : (c.sst (u1 c.st s (c.st s + 1))).st = u1 c.st s (c.st s + 1) := rfl
  have ePP : (c.sst (u1 c.st s (c.st s + 1))).P = c.P := rfl
  rw [est, ePP, u1_s, u1_u1, A7] at go
  unfold cPl2
  generalize (lR c.P 20003 (c.P.1 n)).2 = k at *
  generalize (lR c.P 20003 (c.P.1 n)).1 = e at *
  have heT : T e ≠ 0 := by rw [hm]; exact hlT
  have e0 := hW.n0 heT
  have hde := hD e (Or.inr heT)
  have te : tg b (d.ph e) = 4 := tN _ (by rw [hde]; exact e0)
  have tk := c136 L xs hw tN (c.sst (u1 c.st s (c.st s + 1 + nI k))) hdn n0 hde e0
  have eP : (cTkv (c.sst (u1 c.st s (c.st s + 1 + nI k))) n e).P = c.P := rfl
  have g1 := hD _ (hW.lzl heT)
  have g2 := hD _ (hW.lzr heT)
  have g3 := hD _ (hW.lzu heT)
  have g4 : c.P.2.2 e ≠ 0 → d.nid (d.ph (c.P.1 (c.P.2.2 e))) = c.P.1 (c.P.2.2 e) := fun u0 => hD _ (hW.lzl (by rw [(hW.up_lt heT u0).2]; exact heT))
  rw [en_144, k_144_0]
  simp only [Hcl, gd_t, decide_true, Bool.and_self, HQ, HZ, tn, HF4, Rn d hdn n0, ph0 hw h1, hl, if_false]
  rw [k_144_9]
  simp only [Hcl, gd_t, decide_true, Bool.and_self, HQ, HZ, tn, HF4, Rn d hdn n0, ph0 hw h2, hr, if_false]
  rw [k_144_16]
  simp only [Hcl, gd_t, decide_true, Bool.and_self, HQ, HZ, ts, HF5, Rs d hsd, cl_st b hw _ hsd]
  rw [k_144_26]
  simp only [Hcl, gd_t, decide_true, Bool.and_self, HQ, HZ, tn, HF4, Rn d hdn n0, Ust, dS hw hsd, ts, cc_4_24_5, go, bR_s, dN hw hdn n0, cc_4_28_4, tk, bV_s]
  rw [k_144_40]
  simp only [Hcl, gd_t, decide_true, Bool.and_self, HQ, HZ, te, HF4, Rn d hde e0, eP, ph0 hw g1]
  unfold oneC
  by_cases l0 : c.P.1 e = 0
  · rw [if_pos l0, if_pos l0, k_144_56]
    simp only [Hcl, gd_t, decide_true, Bool.and_self, HQ, HZ, te, HF4, Rn d hde e0, eP]
    rw [k_144_60]
    simp only [Hcl, gd_t, decide_true, Bool.and_self, HQ, HZ, dS hw hsd, ts, cc_4_32_5, c145 L xs hw tN hsd ts (cTkv (c.sst (u1 c.st s (c.st s + 1 + nI k))) n e) e0 hde (show d.nid (d.ph (c.P.2.1 e)) = c.P.2.1 e from g2) g3 g4, bV_s]
  · rw [if_neg l0, if_neg l0, k_144_49]
    simp only [Hcl, gd_t, decide_true, Bool.and_self, HQ, HZ, te, HF4, Rn d hde e0, eP]
    rw [k_144_60]
    simp only [Hcl, gd_t, decide_true, Bool.and_self, HQ, HZ, dS hw hsd, ts, cc_4_32_5, c145 L xs hw tN hsd ts (cTkv (c.sst (u1 c.st s (c.st s + 1 + nI k))) n e) e0 hde (show d.nid (d.ph (c.P.1 e)) = c.P.1 e from g1) g3 g4, bV_s]
/-- loseNode of a TURNING tree: nothing left of it -/
theorem c174_0 {b : AH} {d : DS} (hw : DW d) (tN : ∀ x, d.nid x ≠ 0 → tg b x = 4) {s : Nat} (hsd : d.sid (d.sa (s + 1)) = s + 1) (ts : tg b (d.sa (s + 1)) = 7) (c : CS) {n : Nat} (n0 : n ≠ 0) (hdn : d.nid (d.ph n) = n) (h2 : d.nid (d.ph (c.P.2.1 n)) = c.P.2.1 n) (hl : c.P.1 n = 0) (hz : c.cz n < 2 ^ 31) (hg : Nat.log2 (c.cz n) ≤ c.lg s) :
    XM L xs 174 [.ref (d.sa (s + 1)), .ref (d.ph n)] (cl b d c) = some (cl b d (cRoot (c.slg (u1 c.lg s (c.lg s - Nat.log2 (c.cz n)))) s (c.P.2.1 n)), none) := by
  have tn : tg b (d.ph n) = 4 := tN _ (by rw [hdn]; exact n0)
  rw [en_174, k_174_0]
  simp only [Hcl, gd_t, decide_true, Bool.and_self, HQ, HZ, tn, HF4, Rn d hdn n0, ts, HF7, Rs d hsd, cc_6_47_0, s_40 L xs _ _ hz, bI_s, pk_sub hg, cl_lg b hw _ hsd, hl, hw.1.1]
  rw [k_174_26, if_pos rfl, k_174_31, k_174_36]
  simp only [Hcl, gd_t, decide_true, Bool.and_self, HQ, HZ, ts, dS hw hsd, cc_6_51_7, c180 L xs hw tN _ hsd ts h2, bV_s, if_true, k_174_57]
/-- loseNode of a TURNING tree: the greatest on the left comes up -/
theorem c174_1 {b : AH} {d : DS} (hw : DW d) (tN : ∀ x, d.nid x ≠ 0 → tg b x = 4) {s : Nat} (hsd : d.sid (d.sa (s + 1)) = s + 1) (ts : tg b (d.sa (s + 1)) = 7) (c : CS) {n e : Nat} {c2 c3 c4 : CS} (n0 : n ≠ 0) (hdn : d.nid (d.ph n) = n) (h1 : d.nid (d.ph (c.P.1 n)) = c.P.1 n) (hl : c.P.1 n ≠ 0) (hz : c.cz n < 2 ^ 31) (hg : Nat.log2 (c.cz n) ≤ c.lg s)
    (hfar : XM L xs 165 [.ref (d.sa (s + 1)), .ref (d.ph (c.P.1 n))] (cl b d (cRoot (c.slg (u1 c.lg s (c.lg s - Nat.log2 (c.cz n)))) s (c.P.1 n))) = some (cl b d c2, some (.ref (d.ph e))))
    (hset : XM L xs 172 [.ref (d.sa (s + 1)), .ref (d.ph e)] (cl b d c2) = some (cl b d c3, none))
    (hhrr : XM L xs 181 [.ref (d.sa (s + 1)), .ref (d.ph (c.P.2.1 n))] (cl b d c3) = some (cl b d c4, none)) :
    XM L xs 174 [.ref (d.sa (s + 1)), .ref (d.ph n)] (cl b d c) = some (cl b d c4, none) := by
  have tn : tg b (d.ph n) = 4 := tN _ (by rw [hdn]; exact n0)
  have ln0 : ¬ d.ph (c.P.1 n) = 0 := fun q => hl ((ph0 hw h1).mp q)
  rw [en_174, k_174_0]
  simp only [Hcl, gd_t, decide_true, Bool.and_self, HQ, HZ, tn, HF4, Rn d hdn n0, ts, HF7, Rs d hsd, cc_6_47_0, s_40 L xs _ _ hz, bI_s, pk_sub hg, cl_lg b hw _ hsd]
  rw [k_174_26, if_neg ln0, k_174_35, k_174_36]
  simp only [Hcl, gd_t, decide_true, Bool.and_self, HQ, HZ, ts, dS hw hsd, cc_6_51_7, c180 L xs hw tN _ hsd ts h1, bV_s, ln0, if_false]
  rw [k_174_43]
  simp only [Hcl, gd_t, decide_true, Bool.and_self, HQ, HZ, ts, dS hw hsd, cc_6_55_7, hfar, bR_s, cc_6_59_7, hset, bV_s, cc_6_62_7, hhrr, k_174_57]
/-- isAllLessThan -/
theorem c175 {b : AH} {d : DS} (hw : DW d) (tN : ∀ x, d.nid x ≠ 0 → tg b x = 4) {s t : Nat} (hsd : d.sid (d.sa (s + 1)) = s + 1) (ts : tg b (d.sa (s + 1)) = 7) (htd : d.sid (d.sa (t + 1)) = t + 1) (tt : tg b (d.sa (t + 1)) = 7) (c : CS) {T z : Nat → Nat} (hW : WF c.P T z) (hD : ∀ x, LZ T x → d.nid (d.ph x) = x) {F : Nat} (hF : ∀ x, LZ T x → z x ≤ F) (hr : LZ T (c.ro s)) (hq : LZ T (c.ro t)) :
    XM L xs 175 [.ref (d.sa (s + 1)), .ref (d.sa (t + 1))] (cl b d c) = some (cl b d c, some (.int (bI1 (decide (c.ro s = 0 ∨ c.ro t = 0 ∨ c.ck (lR c.P F (c.ro s)).1 < c.ck (lL c.P F (c.ro t))))))) := by
  have lp1 : ∀ (f a e : Nat), T a ≠ 0 → z a ≤ f → X L xs 175 20 [.ref (d.sa (s + 1)), .ref (d.sa (t + 1)), .ref (d.ph a), .ref (d.ph e)] [] (cl b d c) = X L xs 175 35 [.ref (d.sa (s + 1)), .ref (d.sa (t + 1)), .ref (d.ph (lR c.P f a).1), .ref (d.ph e)] [] (cl b d c) := by
    intro f
    induction f with
    | zero => intro a e ha hz; have := hW.pos ha; omega
    | succ f ih =>
      intro a e ha hz
      have a0 := hW.n0 ha
      have hda := hD a (Or.inr ha)
      have ta : tg b (d.ph a) = 4 := tN _ (by rw [hda]; exact a0)
      obtain ⟨w1, w2, w3, w4, w5⟩ := hW.2.2 a ha
      rw [k_175_20]
      simp only [Hcl, gd_t, decide_true, Bool.and_self, HQ, HZ, ta, HF4, Rn d hda a0, ph0 hw (hD _ (hW.lzr ha))]
      unfold lR
      by_cases c0 : c.P.2.1 a = 0
      · rw [if_pos c0, if_pos c0]
      · rw [if_neg c0, if_neg c0, k_175_27]
        simp only [Hcl, gd_t, decide_true, Bool.and_self, HQ, HZ, ta, HF4, Rn d hda a0]
        exact ih (c.P.2.1 a) e (by rw [(w2 c0).2]; exact ha) (by omega)
  have lp2 : ∀ (f a e : Nat), T a ≠ 0 → z a ≤ f → X L xs 175 35 [.ref (d.sa (s + 1)), .ref (d.sa (t + 1)), .ref (d.ph e), .ref (d.ph a)] [] (cl b d c) = X L xs 175 50 [.ref (d.sa (s + 1)), .ref (d.sa (t + 1)), .ref (d.ph e), .ref (d.ph (lL c.P f a))] [] (cl b d c) := by
    intro f
    induction f with
    | zero => intro a e ha hz; have := hW.pos ha; omega
    | succ f ih =>
      intro a e ha hz
      have a0 := hW.n0 ha
      have hda := hD a (Or.inr ha)
      have ta : tg b (d.ph a) = 4 := tN _ (by rw [hda]; exact a0)
      obtain ⟨w1, w2, w3, w4, w5⟩ := hW.2.2 a ha
      rw [k_175_35]
      simp only [Hcl, gd_t, decide_true, Bool.and_self, HQ, HZ, ta, HF4, Rn d hda a0, ph0 hw (hD _ (hW.lzl ha))]
      unfold lL
      by_cases c0 : c.P.1 a = 0
      · rw [if_pos c0, if_pos c0]
      · rw [if_neg c0, if_neg c0, k_175_42]
        simp only [Hcl, gd_t, decide_true, Bool.and_self, HQ, HZ, ta, HF4, Rn d hda a0]
        exact ih (c.P.1 a) e (by rw [(w1 c0).2]; exact ha) (by omega)
  have llm : ∀ (f a : Nat), T a ≠ 0 → T (lL c.P f a) = T a := by
    intro f
    induction f with
    | zero => intro a _; rfl
    | succ f ih =>
      intro a ha
      unfold lL
      by_cases c0 : c.P.1 a = 0
      · rw [if_pos c0]
      · rw [if_neg c0]
        have := ((hW.2.2 a ha).1 c0).2
        rw [ih _ (by rw [this]; exact ha), this]
  rw [en_175, k_175_0]
  simp only [Hcl, gd_t, decide_true, Bool.and_self, HQ, HZ, ts, tt, HF7, Rs d hsd, Rs d htd, ph0 hw (hD _ hr)]
  by_cases r0 : c.ro s = 0
  · rw [if_pos r0, k_175_18, show decide (c.ro s = 0 ∨ c.ro t = 0 ∨ c.ck (lR c.P F (c.ro s)).1 < c.ck (lL c.P F (c.ro t))) = true from decide_eq_true (Or.inl r0)]
    rfl
  · rw [if_neg r0, k_175_14]
    simp only [ph0 hw (hD _ hq)]
    by_cases q0 : c.ro t = 0
    · rw [if_pos q0, k_175_18, show decide (c.ro s = 0 ∨ c.ro t = 0 ∨ c.ck (lR c.P F (c.ro s)).1 < c.ck (lL c.P F (c.ro t))) = true from decide_eq_true (Or.inr (Or.inl q0))]
      rfl
    · have hrT : T (c.ro s) ≠ 0 := by rcases hr with e | e; exact absurd e r0; exact e
      have hqT : T (c.ro t) ≠ 0 := by rcases hq with e | e; exact absurd e q0; exact e
      rw [if_neg q0, lp1 F _ _ hrT (hF _ hr), lp2 F _ _ hqT (hF _ hq)]
      have ga := lR_mem hW F (c.ro s) hrT
      have gb := llm F (c.ro t) hqT
      generalize (lR c.P F (c.ro s)).1 = a at *
      generalize lL c.P F (c.ro t) = e at *
      have haT : T a ≠ 0 := by rw [ga]; exact hrT
      have heT : T e ≠ 0 := by rw [gb]; exact hqT
      have a0 := hW.n0 haT
      have e0 := hW.n0 heT
      have hda := hD a (Or.inr haT)
      have hde := hD e (Or.inr heT)
      have ta : tg b (d.ph a) = 4 := tN _ (by rw [hda]; exact a0)
      have te : tg b (d.ph e) = 4 := tN _ (by rw [hde]; exact e0)
      rw [k_175_50]
      simp only [Hcl, gd_t, decide_true, Bool.and_self, HQ, HZ, ta, te, HF4, Rn d hda a0, Rn d hde e0, lg_cmp_ge]
      by_cases lt : c.ck a < c.ck e
      · rw [if_neg (i64_nle lt), k_175_62, k_175_67, show decide (c.ro s = 0 ∨ c.ro t = 0 ∨ c.ck a < c.ck e) = true from decide_eq_true (Or.inr (Or.inr lt))]
        rfl
      · rw [if_pos (i64_le lt), k_175_66, k_175_67, show decide (c.ro s = 0 ∨ c.ro t = 0 ∨ c.ck a < c.ck e) = false from decide_eq_false (fun q => by rcases q with q | q | q; exact r0 q; exact q0 q; exact lt q)]
        rfl
/-- takeAll of a TURNING tree: the sums -/
def cJn (c : CS) (s t : Nat) : CS := ((c.she (u1 c.he s (c.he s + c.he t))).svs (u1 c.vs s (c.vs s + c.vs t))).slg (u1 c.lg s (c.lg s + c.lg t))
def cEm (c : CS) (t : Nat) : CS := (((c.sro (u1 c.ro t 0)).she (u1 c.he t 0)).svs (u1 c.vs t 0)).slg (u1 c.lg t 0)
theorem c176_t {b : AH} {d : DS} (hw : DW d) {s t : Nat} (hsd : d.sid (d.sa (s + 1)) = s + 1) (ts : tg b (d.sa (s + 1)) = 7) (htd : d.sid (d.sa (t + 1)) = t + 1) (tt : tg b (d.sa (t + 1)) = 7) (c : CS) :
    X L xs 176 38 [.ref (d.sa (s + 1)), .ref (d.sa (t + 1))] [] (cl b d c) = some (cl b d (cEm (cJn c s t) t), none) := by
  rw [k_176_38]
  simp only [Hcl, gd_t, decide_true, Bool.and_self, HQ, HZ, ts, tt, HF7, Rs d hsd, Rs d htd, nI_add, cl_he b hw _ hsd]
  rw [k_176_51]
  simp only [Hcl, gd_t, decide_true, Bool.and_self, HQ, HZ, ts, tt, HF7, Rs d hsd, Rs d htd, Uhe, nI_add, cl_vs b hw _ hsd]
  rw [k_176_64]
  simp only [Hcl, gd_t, decide_true, Bool.and_self, HQ, HZ, ts, tt, HF7, Rs d hsd, Rs d htd, Uhe, Uvs, nI_add, cl_lg b hw _ hsd]
  rw [k_176_77]
  simp only [Hcl, gd_t, decide_true, Bool.and_self, HQ, HZ, tt, dS hw htd, cc_6_75_7, c179 L xs hw _ htd tt, bV_s]
  rfl
theorem c176_0 {b : AH} {d : DS} (hw : DW d) {s t : Nat} (hsd : d.sid (d.sa (s + 1)) = s + 1) (ts : tg b (d.sa (s + 1)) = 7) (htd : d.sid (d.sa (t + 1)) = t + 1) (tt : tg b (d.sa (t + 1)) = 7) (c : CS) (hr : c.ro s = 0) :
    XM L xs 176 [.ref (d.sa (s + 1)), .ref (d.sa (t + 1))] (cl b d c) = some (cl b d (cEm (cJn (c.sro (u1 c.ro s (c.ro t))) s t) t), none) := by
  rw [en_176, k_176_0]
  simp only [Hcl, gd_t, decide_true, Bool.and_self, HQ, HZ, ts, HF7, Rs d hsd, hr, hw.1.1, if_true]
  rw [k_176_7]
  simp only [Hcl, gd_t, decide_true, Bool.and_self, HQ, HZ, ts, tt, HF7, Rs d htd, cl_ro b hw _ hsd, k_176_15]
  exact c176_t L xs hw hsd ts htd tt _
theorem c176_1 {b : AH} {d : DS} (hw : DW d) {s t : Nat} (hsd : d.sid (d.sa (s + 1)) = s + 1) (ts : tg b (d.sa (s + 1)) = 7) (htd : d.sid (d.sa (t + 1)) = t + 1) (tt : tg b (d.sa (t + 1)) = 7) (c : CS) {e : Nat} {c2 c3 c4 : CS} (hr : c.ro s ≠ 0) (hdr : d.nid (d.ph (c.ro s)) = c.ro s)
    (hfar : XM L xs 165 [.ref (d.sa (s + 1)), .ref (d.ph (c.ro s))] (cl b d c) = some (cl b d c2, some (.ref (d.ph e))))
    (hset : XM L xs 172 [.ref (d.sa (s + 1)), .ref (d.ph e)] (cl b d c2) = some (cl b d c3, none))
    (hhrr : XM L xs 181 [.ref (d.sa (s + 1)), .ref (d.ph (c3.ro t))] (cl b d c3) = some (cl b d c4, none)) :
    XM L xs 176 [.ref (d.sa (s + 1)), .ref (d.sa (t + 1))] (cl b d c) = some (cl b d (cEm (cJn c4 s t) t), none) := by
  have rn0 : ¬ d.ph (c.ro s) = 0 := fun q => hr ((ph0 hw hdr).mp q)
  rw [en_176, k_176_0]
  simp only [Hcl, gd_t, decide_true, Bool.and_self, HQ, HZ, ts, HF7, Rs d hsd, rn0, if_false]
  rw [k_176_18]
  simp only [Hcl, gd_t, decide_true, Bool.and_self, HQ, HZ, ts, tt, HF7, Rs d hsd, Rs d htd, dS hw hsd, cc_6_55_7, hfar, bR_s, cc_6_59_7, hset, bV_s, cc_6_62_7, hhrr]
  exact c176_t L xs hw hsd ts htd tt c4
end Crm
