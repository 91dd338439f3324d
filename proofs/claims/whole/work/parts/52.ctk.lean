-- the class's hangNew, take, seek, loseValue: how they are put together
def hgP (c : CS) (s x : Nat) : PT := if c.ck x < c.ck (c.la s) then stl c.P (c.la s) x else str c.P (c.la s) x
def cHg0 (c : CS) (s x : Nat) : CS := (c.she (u1 c.he s (c.he s + 1))).sro (u1 c.ro s x)
def cHg5 (c : CS) (s x : Nat) : CS := ((c.she (u1 c.he s (c.he s + 1))).sP (hgP c s x)).sst (u1 c.st s (c.st s + 1))
def cHg7 (F : Nat) (M : List Nat) (c : CS) (s x : Nat) : CS := ((cHg5 c s x).scz (grF (hgP c s x).2.2 F (c.la s) c.cz)).slg (u1 c.lg s (Gs M (grF (hgP c s x).2.2 F (c.la s) c.cz)))
section Ctk
variable (L : Nat) (xs : Nat → Int32)
theorem c169_0 {b : AH} {d : DS} (hw : DW d) {s : Nat} (hsd : d.sid (d.sa (s + 1)) = s + 1) (ts : tg b (d.sa (s + 1)) = 5 ∨ tg b (d.sa (s + 1)) = 7) (c : CS) {x : Nat} (l0 : c.la s = 0) :
    XM L xs 169 [.ref (d.sa (s + 1)), .ref (d.ph x)] (cl b d c) = some (cl b d (cHg0 c s x), none) := by
  have h13 : hasF (tg b (d.sa (s + 1))) 13 = true := by rcases ts with q | q <;> rw [q] <;> rfl
  have h14 : hasF (tg b (d.sa (s + 1))) 14 = true := by rcases ts with q | q <;> rw [q] <;> rfl
  have h18 : hasF (tg b (d.sa (s + 1))) 18 = true := by rcases ts with q | q <;> rw [q] <;> rfl
  rw [en_169, k_169_0]
  simp only [Hcl, gd_t, decide_true, Bool.and_self, HQ, HZ, h14, Rs d hsd, nI_1, cl_he b hw _ hsd, k_169_10, h18, Uhe, l0, hw.1.1, if_true, k_169_17, h13, cl_ro b hw _ hsd, k_169_22]
  rfl
theorem c169_a {b : AH} {d : DS} (hw : DW d) (tN : ∀ x, d.nid x ≠ 0 → tg b x = 4) {s : Nat} (hsd : d.sid (d.sa (s + 1)) = s + 1) (ts : tg b (d.sa (s + 1)) = 5 ∨ tg b (d.sa (s + 1)) = 7) (c : CS) {x : Nat} (l0 : c.la s ≠ 0) (hl : d.nid (d.ph (c.la s)) = c.la s) (x0 : x ≠ 0) (hx : d.nid (d.ph x) = x) :
    XM L xs 169 [.ref (d.sa (s + 1)), .ref (d.ph x)] (cl b d c) = X L xs 169 67 [.ref (d.sa (s + 1)), .ref (d.ph x)] [] (cl b d (cHg5 c s x)) := by
  have h14 : hasF (tg b (d.sa (s + 1))) 14 = true := by rcases ts with q | q <;> rw [q] <;> rfl
  have h16 : hasF (tg b (d.sa (s + 1))) 16 = true := by rcases ts with q | q <;> rw [q] <;> rfl
  have h18 : hasF (tg b (d.sa (s + 1))) 18 = true := by rcases ts with q | q <;> rw [q] <;> rfl
  have tl : tg b (d.ph (c.la s)) = 4 := tN _ (by rw [hl]; exact l0)
  have tx : tg b (d.ph x) = 4 := tN _ (by rw [hx]; exact x0)
  have ln0 : ¬ d.ph (c.la s) = 0 := fun e => l0 ((ph0 hw hl).mp e)
  rw [en_169, k_169_0]
  simp only [Hcl, gd_t, decide_true, Bool.and_self, HQ, HZ, h14, Rs d hsd, nI_1, cl_he b hw _ hsd, k_169_10, h18, Uhe, ln0, if_false]
  rw [k_169_23]
  simp only [Hcl, gd_t, decide_true, Bool.and_self, HQ, HZ, h18, Rs d hsd, Uhe, tl, tx, HF4, Rn d hl l0, Rn d hx x0, lg_cmp_ge]
  have p1 := c138 L xs hw tN (c.she (u1 c.he s (c.he s + 1))) hl l0 hx
  have p2 := c139 L xs hw tN (c.she (u1 c.he s (c.he s + 1))) hl l0 hx
  by_cases q : c.ck x < c.ck (c.la s)
  · have eP : hgP c s x = stl c.P (c.la s) x := by unfold hgP; rw [if_pos q]
    rw [if_neg (i64_nle q), k_169_38]
    simp only [Hcl, gd_t, decide_true, Bool.and_self, HQ, HZ, h18, Rs d hsd, Uhe, dN hw hl l0, tl, cc_11_90_4, p1, bV_s, k_169_57, h16, UP, cl_st b hw _ hsd]
    unfold cHg5
    rw [eP]
  · have eP : hgP c s x = str c.P (c.la s) x := by unfold hgP; rw [if_neg q]
    rw [if_pos (i64_le q), k_169_49]
    simp only [Hcl, gd_t, decide_true, Bool.and_self, HQ, HZ, h18, Rs d hsd, Uhe, dN hw hl l0, tl, cc_11_93_4, p2, bV_s, k_169_57, h16, UP, cl_st b hw _ hsd]
    unfold cHg5
    rw [eP]
theorem c169_5 {b : AH} {d : DS} (hw : DW d) (tN : ∀ x, d.nid x ≠ 0 → tg b x = 4) {s : Nat} (hsd : d.sid (d.sa (s + 1)) = s + 1) (ts : tg b (d.sa (s + 1)) = 5) (c : CS) {x : Nat} (l0 : c.la s ≠ 0) (hl : d.nid (d.ph (c.la s)) = c.la s) (x0 : x ≠ 0) (hx : d.nid (d.ph x) = x) :
    XM L xs 169 [.ref (d.sa (s + 1)), .ref (d.ph x)] (cl b d c) = some (cl b d (cHg5 c s x), none) := by
  rw [c169_a L xs hw tN hsd (Or.inl ts) c l0 hl x0 hx, k_169_67]
  simp only [Hcl, gd_t, decide_true, Bool.and_self, HQ, HZ, ts, HF5, dS hw hsd, cc_11_96_5, en_143, k_143_0, bV_s]
theorem c169_7 {b : AH} {d : DS} (hw : DW d) (tN : ∀ x, d.nid x ≠ 0 → tg b x = 4) {s : Nat} (hsd : d.sid (d.sa (s + 1)) = s + 1) (ts : tg b (d.sa (s + 1)) = 7) (c : CS) {x : Nat} (l0 : c.la s ≠ 0) (hl : d.nid (d.ph (c.la s)) = c.la s) (x0 : x ≠ 0) (hx : d.nid (d.ph x) = x) {S μ : Nat → Nat} {B F : Nat} {M : List Nat} (hM : M.Nodup) (hMS : ∀ x, S x ≠ 0 → x ∈ M) (hD : ∀ x, S x ≠ 0 → d.nid (d.ph x) = x) (hB : ∀ x, S x ≠ 0 → μ x ≤ B) (h1 : WS (hgP c s x) S) (h2 : MU (hgP c s x) S μ) (h3 : S (c.la s) ≠ 0) (h4 : B < μ (c.la s) + F) (h5 : c.lg s = Gs M c.cz) (h6 : ∀ x, S x ≠ 0 → c.cz x + F < 2 ^ 30) :
    XM L xs 169 [.ref (d.sa (s + 1)), .ref (d.ph x)] (cl b d c) = some (cl b d (cHg7 F M c s x), none) := by
  rw [c169_a L xs hw tN hsd (Or.inr ts) c l0 hl x0 hx, k_169_67]
  have eP : (cHg5 c s x).P = hgP c s x := rfl
  have ecz : (cHg5 c s x).cz = c.cz := rfl
  have elg : (cHg5 c s x).lg = c.lg := rfl
  have ela : (cHg5 c s x).la = c.la := rfl
  have := c173_loop L xs hw tN hsd ts (d.ph (c.la s)) hM hMS hD hB F (c.la s) (cHg5 c s x) (by rw [eP]; exact h1) (by rw [eP]; exact h2) (Or.inr h3) (fun _ => h4) (by rw [elg, ecz]; exact h5) (by rw [ecz]; exact h6)
  rw [eP, ecz, elg] at this
  simp only [Hcl, gd_t, decide_true, Bool.and_self, HQ, HZ, ts, HF7, dS hw hsd, Rs d hsd, ela, cc_11_96_7, en_173, k_173_0, this, bV_s]
  rfl
/-- take, where the key is there -/
theorem c161_m {b b1 : AH} {d d1 : DS} (hw : DW d) (tN : ∀ x, d.nid x ≠ 0 → tg b x = 4) {s : Nat} (hsd : d.sid (d.sa (s + 1)) = s + 1) (ts : tg b (d.sa (s + 1)) = 5 ∨ tg b (d.sa (s + 1)) = 7) {c c1 c2 c3 : CS} {k : Int64} {v : Int32} {cm n : Nat} (hgo : XM L xs 166 [.ref (d.sa (s + 1)), .long k] (cl b d c) = some (cl b d c1, none)) (hn : c1.la s = n) (n0 : n ≠ 0) (hdn : d.nid (d.ph n) = n) (hk : c1.ck n = k)
    (hadd : XM L xs 134 [.ref (d.ph n), .int v] (cl b d c1) = some (cl b1 d1 c2, none)) (hw1 : DW d1) (e1 : d1.sa (s + 1) = d.sa (s + 1)) (e2 : d1.ph n = d.ph n) (hsd1 : d1.sid (d1.sa (s + 1)) = s + 1) (hdn1 : d1.nid (d1.ph n) = n) (tN1 : tg b1 (d.ph n) = 4) (ts1 : tg b1 (d.sa (s + 1)) = tg b (d.sa (s + 1)))
    (hset : cfD (XM L xs) 11 50 (tg b (d.sa (s + 1))) [.ref (d.sa (s + 1)), .ref (d.ph n)] (cl b1 d1 (c2.svs (u1 c2.vs s (c2.vs s + 1)))) = some (cl b1 d1 c3, none)) :
    XM L xs 161 [.ref (d.sa (s + 1)), .long k, .int v, .int (nI cm)] (cl b d c) = some (cl b1 d1 c3, some (.int (nI (c3.nv n)))) := by
  have h17 : hasF (tg b (d.sa (s + 1))) 17 = true := by rcases ts with q | q <;> rw [q] <;> rfl
  have h18 : hasF (tg b (d.sa (s + 1))) 18 = true := by rcases ts with q | q <;> rw [q] <;> rfl
  have tn : tg b (d.ph n) = 4 := tN _ (by rw [hdn]; exact n0)
  have pn0 : ¬ d.ph n = 0 := fun e => n0 ((ph0 hw hdn).mp e)
  have go' : cfD (XM L xs) 11 26 (tg b (d.sa (s + 1))) [.ref (d.sa (s + 1)), .long k] (cl b d c) = some (cl b d c1, none) := by
    rcases ts with q | q
    · rw [q, cc_11_26_5]; exact hgo
    · rw [q, cc_11_26_7]; exact hgo
  have r17 : fI (cl b1 d1 c2) 17 (d.sa (s + 1)) = nI (c2.vs s) := by rw [← e1]; exact (Rs d1 hsd1 b1 c2).2.2.2.2.1
  have w17 : wI (cl b1 d1 c2) 17 (d.sa (s + 1)) (nI (c2.vs s + 1)) = cl b1 d1 (c2.svs (u1 c2.vs s (c2.vs s + 1))) := by rw [← e1]; exact cl_vs b1 hw1 c2 hsd1 _
  have r30 : fI (cl b1 d1 c3) 30 (d.ph n) = nI (c3.nv n) := by rw [← e2]; exact (Rn d1 hdn1 n0 b1 c3).2.2.1
  rw [en_161, k_161_0]
  simp only [Hcl, gd_t, decide_true, Bool.and_self, HQ, HZ, dS hw hsd, go', bV_s, h18, Rs d hsd, hn, pn0, if_false]
  rw [k_161_16]
  simp only [Hcl, gd_t, decide_true, Bool.and_self, HQ, HZ, tn, HF4, Rn d hdn n0, lg_cmp_eq, hk, not_true_eq_false, if_false]
  rw [k_161_26]
  simp only [Hcl, gd_t, decide_true, Bool.and_self, HQ, HZ, dN hw hdn n0, tn, cc_11_40_4, hadd, bV_s]
  rw [k_161_54]
  simp only [Hcl, gd_t, decide_true, Bool.and_self, HQ, HZ, ts1, h17, r17, nI_1, w17]
  rw [k_161_64]
  simp only [Hcl, gd_t, decide_true, Bool.and_self, HQ, HZ, dS hw hsd, ts1, hset, bV_s, tN1, HF4, r30]
/-- take, where a node comes -/
theorem c161_n {b b1 : AH} {d d1 : DS} (hw : DW d) (tN : ∀ x, d.nid x ≠ 0 → tg b x = 4) {s : Nat} (hsd : d.sid (d.sa (s + 1)) = s + 1) (ts : tg b (d.sa (s + 1)) = 5 ∨ tg b (d.sa (s + 1)) = 7) {c c1 c2 c4 c3 : CS} {k : Int64} {v : Int32} {cm n x : Nat} (hgo : XM L xs 166 [.ref (d.sa (s + 1)), .long k] (cl b d c) = some (cl b d c1, none)) (hn : c1.la s = n) (hdn : d.nid (d.ph n) = n) (hk : n ≠ 0 → c1.ck n ≠ k)
    (hnew : XM L xs 132 [.ref (nn b + 1), .long k, .int v, .int (nI cm)] (mk (cl b d c1) 4 0 9) = some (cl b1 d1 c2, none)) (hw1 : DW d1) (e1 : d1.sa (s + 1) = d.sa (s + 1)) (e2 : d1.ph x = nn b + 1) (x0 : x ≠ 0) (hsd1 : d1.sid (d1.sa (s + 1)) = s + 1) (hdx : d1.nid (d1.ph x) = x) (tN1 : tg b1 (nn b + 1) = 4) (ts1 : tg b1 (d.sa (s + 1)) = tg b (d.sa (s + 1)))
    (hhang : XM L xs 169 [.ref (d1.sa (s + 1)), .ref (d1.ph x)] (cl b1 d1 c2) = some (cl b1 d1 c4, none))
    (hset : cfD (XM L xs) 11 50 (tg b (d.sa (s + 1))) [.ref (d.sa (s + 1)), .ref (nn b + 1)] (cl b1 d1 (c4.svs (u1 c4.vs s (c4.vs s + 1)))) = some (cl b1 d1 c3, none)) :
    XM L xs 161 [.ref (d.sa (s + 1)), .long k, .int v, .int (nI cm)] (cl b d c) = some (cl b1 d1 c3, some (.int (nI (c3.nv x)))) := by
  have h17 : hasF (tg b (d.sa (s + 1))) 17 = true := by rcases ts with q | q <;> rw [q] <;> rfl
  have h18 : hasF (tg b (d.sa (s + 1))) 18 = true := by rcases ts with q | q <;> rw [q] <;> rfl
  have go' : cfD (XM L xs) 11 26 (tg b (d.sa (s + 1))) [.ref (d.sa (s + 1)), .long k] (cl b d c) = some (cl b d c1, none) := by
    rcases ts with q | q
    · rw [q, cc_11_26_5]; exact hgo
    · rw [q, cc_11_26_7]; exact hgo
  have hang' : cfD (XM L xs) 11 46 (tg b (d.sa (s + 1))) [.ref (d.sa (s + 1)), .ref (nn b + 1)] (cl b1 d1 c2) = some (cl b1 d1 c4, none) := by
    rw [e1, e2] at hhang
    rcases ts with q | q
    · rw [q, cc_11_46_5]; exact hhang
    · rw [q, cc_11_46_7]; exact hhang
  have r17 : fI (cl b1 d1 c4) 17 (d.sa (s + 1)) = nI (c4.vs s) := by rw [← e1]; exact (Rs d1 hsd1 b1 c4).2.2.2.2.1
  have w17 : wI (cl b1 d1 c4) 17 (d.sa (s + 1)) (nI (c4.vs s + 1)) = cl b1 d1 (c4.svs (u1 c4.vs s (c4.vs s + 1))) := by rw [← e1]; exact cl_vs b1 hw1 c4 hsd1 _
  have r30 : fI (cl b1 d1 c3) 30 (nn b + 1) = nI (c3.nv x) := by rw [← e2]; exact (Rn d1 hdx x0 b1 c3).2.2.1
  have tail : ∀ l5 : Value, ∀ l2 : Value, X L xs 161 35 [.ref (d.sa (s + 1)), .long k, l2, .int v, .int (nI cm), .ref (d.ph n)] [] (cl b d c1) = some (cl b1 d1 c3, some (.int (nI (c3.nv x)))) := by
    intro _ l2
    rw [k_161_35, k_161_38]
    simp only [Hcl, gd_t, decide_true, Bool.and_self, HQ, HZ, show decide (nn b + 1 ≠ 0) = true from decide_eq_true (by omega), cc_11_43_0, hnew, bV_s, dS hw hsd, ts1, hang']
    rw [k_161_54]
    simp only [Hcl, gd_t, decide_true, Bool.and_self, HQ, HZ, ts1, h17, r17, nI_1, w17]
    rw [k_161_64]
    simp only [Hcl, gd_t, decide_true, Bool.and_self, HQ, HZ, dS hw hsd, ts1, hset, bV_s, tN1, HF4, r30]
  rw [en_161, k_161_0]
  simp only [Hcl, gd_t, decide_true, Bool.and_self, HQ, HZ, dS hw hsd, go', bV_s, h18, Rs d hsd, hn, ph0 hw hdn]
  by_cases n0 : n = 0
  · rw [if_pos n0]
    exact tail .null _
  · have tn : tg b (d.ph n) = 4 := tN _ (by rw [hdn]; exact n0)
    rw [if_neg n0, k_161_16]
    simp only [Hcl, gd_t, decide_true, Bool.and_self, HQ, HZ, tn, HF4, Rn d hdn n0, lg_cmp_eq, hk n0, not_false_eq_true, if_true]
    exact tail .null _
/-- seek -/
theorem c162 {b : AH} {d : DS} (hw : DW d) (tN : ∀ x, d.nid x ≠ 0 → tg b x = 4) {s : Nat} (hsd : d.sid (d.sa (s + 1)) = s + 1) (ts : tg b (d.sa (s + 1)) = 5 ∨ tg b (d.sa (s + 1)) = 7) {c c1 c2 : CS} {k : Int64} {n : Nat} (hgo : XM L xs 166 [.ref (d.sa (s + 1)), .long k] (cl b d c) = some (cl b d c1, none)) (hn : c1.la s = n) (hdn : d.nid (d.ph n) = n)
    (hset : cfD (XM L xs) 11 50 (tg b (d.sa (s + 1))) [.ref (d.sa (s + 1)), .ref (d.ph n)] (cl b d c1) = some (cl b d c2, none)) :
    XM L xs 162 [.ref (d.sa (s + 1)), .long k] (cl b d c) = some (cl b d c2, some (.ref (d.ph (if n ≠ 0 ∧ c2.ck n = k then n else 0)))) := by
  have h18 : hasF (tg b (d.sa (s + 1))) 18 = true := by rcases ts with q | q <;> rw [q] <;> rfl
  have go' : cfD (XM L xs) 11 26 (tg b (d.sa (s + 1))) [.ref (d.sa (s + 1)), .long k] (cl b d c) = some (cl b d c1, none) := by
    rcases ts with q | q
    · rw [q, cc_11_26_5]; exact hgo
    · rw [q, cc_11_26_7]; exact hgo
  rw [en_162, k_162_0]
  simp only [Hcl, gd_t, decide_true, Bool.and_self, HQ, HZ, dS hw hsd, go', bV_s, h18, Rs d hsd, hn, hset, ph0 hw hdn]
  by_cases n0 : n = 0
  · rw [if_pos n0, if_neg (fun q => q.1 n0), k_162_32, k_162_33, hw.1.1]
  · have tn : tg b (d.ph n) = 4 := tN _ (by rw [hdn]; exact n0)
    rw [if_neg n0, k_162_19]
    simp only [Hcl, gd_t, decide_true, Bool.and_self, HQ, HZ, tn, HF4, Rn d hdn n0, lg_cmp_eq]
    by_cases e : c2.ck n = k
    · rw [if_neg (fun q => q e), if_pos ⟨n0, e⟩, k_162_28, k_162_33]
    · rw [if_pos e, if_neg (fun q => e q.2), k_162_32, k_162_33, hw.1.1]
/-- loseValue -/
theorem c163 {b : AH} {d : DS} (hw : DW d) (tN : ∀ x, d.nid x ≠ 0 → tg b x = 4) (tI : ∀ x, d.iid x ≠ 0 → tg b x = 8) {s : Nat} (hsd : d.sid (d.sa (s + 1)) = s + 1) (ts : tg b (d.sa (s + 1)) = 5 ∨ tg b (d.sa (s + 1)) = 7) (c : CS) {n : Nat} (n0 : n ≠ 0) (hdn : d.nid (d.ph n) = n) (hf : d.iid (d.vh (c.f1 n)) = c.f1 n) (f0 : c.f1 n ≠ 0) (hv : 1 ≤ c.nv n) (hv2 : c.nv n < 2 ^ 31) (hvs : 1 ≤ c.vs s) (hhe : c.nv n = 1 → 1 ≤ c.he s) {H : AH}
    (hlose : c.nv n = 1 → cfD (XM L xs) 11 58 (tg b (d.sa (s + 1))) [.ref (d.sa (s + 1)), .ref (d.ph n)] (cl b d ((((cLose c n).svs (u1 c.vs s (c.vs s - 1))).she (u1 c.he s (c.he s - 1))).sla (u1 c.la s 0))) = some (H, none)) :
    XM L xs 163 [.ref (d.sa (s + 1)), .ref (d.ph n)] (cl b d c) = some (if c.nv n = 1 then H else cl b d ((cLose c n).svs (u1 c.vs s (c.vs s - 1))), none) := by
  have h14 : hasF (tg b (d.sa (s + 1))) 14 = true := by rcases ts with q | q <;> rw [q] <;> rfl
  have h17 : hasF (tg b (d.sa (s + 1))) 17 = true := by rcases ts with q | q <;> rw [q] <;> rfl
  have h18 : hasF (tg b (d.sa (s + 1))) 18 = true := by rcases ts with q | q <;> rw [q] <;> rfl
  have tn : tg b (d.ph n) = 4 := tN _ (by rw [hdn]; exact n0)
  have evs : (cLose c n).vs = c.vs := rfl
  have ehe : (cLose c n).he = c.he := rfl
  have ela : (cLose c n).la = c.la := rfl
  have env : (cLose c n).nv n = c.nv n - 1 := u1_s _ _ _
  rw [en_163, k_163_0]
  simp only [Hcl, gd_t, decide_true, Bool.and_self, HQ, HZ, dN hw hdn n0, tn, cc_11_54_4, c135 L xs hw tN tI c hdn n0 hf f0 hv, bV_s, h17, Rs d hsd, evs]
  rw [show nI (c.vs s) - 1 = nI (c.vs s - 1) from pk_sub hvs, cl_vs b hw _ hsd, evs, k_163_14]
  simp only [Hcl, gd_t, decide_true, Bool.and_self, HQ, HZ, tn, HF4, Rn d hdn n0, Uvs, env]
  by_cases e : c.nv n = 1
  · rw [if_pos e, if_neg (fun q => q (by rw [e]; rfl)), k_163_21]
    simp only [Hcl, gd_t, decide_true, Bool.and_self, HQ, HZ, h14, Rs d hsd, Uvs, ehe]
    rw [show nI (c.he s) - 1 = nI (c.he s - 1) from pk_sub (hhe e), cl_he b hw _ hsd, k_163_31]
    simp only [Hcl, gd_t, decide_true, Bool.and_self, HQ, HZ, h18, cl_la0 b hw _ hsd, Uvs, Uhe, ehe, ela]
    rw [k_163_36]
    simp only [Hcl, gd_t, decide_true, Bool.and_self, HQ, HZ, dS hw hsd, hlose e, bV_s, k_163_41]
  · rw [if_neg e, if_pos (nI_ne0 (by omega) (by omega)), k_163_41]
end Ctk
