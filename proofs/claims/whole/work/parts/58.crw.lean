-- the class's rows
def cpB (b : AH) (y n k : Nat) : AH := ((mk b 21 n n).1, ((mk b 21 n n).2.1.1, (fun a i => if a = nn b + 1 then (if i < k then eL b y i else 0) else eL b a i), (mk b 21 n n).2.1.2.2), (mk b 21 n n).2.2)
theorem cpB_0 (b : AH) (y n : Nat) : mk b 21 n n = cpB b y n 0 := by
  have e : (fun a i => if a = nn b + 1 then (0 : Int64) else b.2.1.2.1 a i) = (fun a i => if a = nn b + 1 then (if i < 0 then eL b y i else 0) else eL b a i) := by
    funext a i
    by_cases q : a = nn b + 1
    · rw [if_pos q, if_pos q, if_neg (Nat.not_lt_zero i)]
    · rw [if_neg q, if_neg q]; rfl
  show ((mk b 21 n n).1, ((mk b 21 n n).2.1.1, (fun a i => if a = nn b + 1 then (0 : Int64) else b.2.1.2.1 a i), (mk b 21 n n).2.1.2.2), (mk b 21 n n).2.2) = _
  rw [e]
  rfl
theorem cpB_S (b : AH) (y n k : Nat) : sL (cpB b y n k) (nn b + 1) k (eL b y k) = cpB b y n (k + 1) := by
  have e : u2 (fun a i => if a = nn b + 1 then (if i < k then eL b y i else 0) else eL b a i) (nn b + 1) k (eL b y k) = (fun a i => if a = nn b + 1 then (if i < k + 1 then eL b y i else 0) else eL b a i) := by
    funext a i
    unfold u2
    dsimp only
    by_cases q : a = nn b + 1
    · subst q
      simp only [if_true]
      by_cases q2 : i = k
      · subst q2
        rw [if_pos rfl, if_pos (Nat.lt_succ_self i)]
      · rw [if_neg q2]
        by_cases q3 : i < k
        · rw [if_pos q3, if_pos (by omega)]
        · rw [if_neg q3, if_neg (by omega)]
    · simp only [q, if_false]
  exact congrArg (fun w => (((mk b 21 n n).1, ((mk b 21 n n).2.1.1, w, (mk b 21 n n).2.1.2.2), (mk b 21 n n).2.2) : AH)) e
theorem Hcp (b : AH) (y n k : Nat) : (∀ x, tg (cpB b y n k) x = if x = nn b + 1 then 21 else tg b x) ∧ (∀ x, ln (cpB b y n k) x = if x = nn b + 1 then n else ln b x) ∧ (nn (cpB b y n k) = nn b + 1) ∧ (sl (cpB b y n k) = sl b + n) ∧ (∀ a i, eL (cpB b y n k) a i = if a = nn b + 1 then (if i < k then eL b y i else 0) else eL b a i) := ⟨fun _ => rfl, fun _ => rfl, rfl, rfl, fun _ _ => rfl⟩
def cCp (c : CS) (s y' : Nat) : CS := (c.sst (u1 c.st s (c.st s + nI (c.he s)))).spa (u1 c.pa s y')
def cRtk (c : CS) (s : Nat) : CS := (c.she (u1 c.he s (c.he s + 1))).sst (u1 c.st s (c.st s + 1))
def cRls (c : CS) (s : Nat) : CS := (c.she (u1 c.he s (c.he s - 1))).sst (u1 c.st s (c.st s + 1))
theorem A11 (c : CS) (v w : Nat → Int32) : (c.sst v).sst w = c.sst w := (rfl)
section Crw
variable (L : Nat) (xs : Nat → Int32)
theorem c147 {b : AH} {d : DS} {s : Nat} (hsd : d.sid (d.sa (s + 1)) = s + 1) (ts : tg b (d.sa (s + 1)) = 6) (c : CS) (ty : tg b (c.pa s) = 21) (hk : c.kd s ≤ 5) (h1 : c.he s < 2 ^ 29) (h2 : ln b (c.pa s) < 2 ^ 29) :
    XM L xs 147 [.ref (d.sa (s + 1))] (cl b d c) = some (cl b d c, some (.int (nI (prow (c.kd s) (c.he s) (ln b (c.pa s)))))) := by
  have c5 : (5 : Int32) = nI 5 := by decide
  have ed : Int32.ofNat (ln b (c.pa s)) / (2 : Int32) = nI (ln b (c.pa s) / 2) := by
    rw [nI_2c]; exact pk_div (show ln b (c.pa s) < 2 ^ 31 by omega) (by decide) (by decide)
  rw [en_147, k_147_0]
  simp only [Hcl, gd_t, decide_true, Bool.and_self, HQ, HZ, ts, HF6, Rs d hsd, ty, show isA 21 = true from rfl, show decide ((2 : Int32) ≠ 0) = true from by decide, ed]
  unfold prow
  by_cases q : ln b (c.pa s) / 2 ≤ c.he s
  · rw [pk_sub q, if_pos (nI_pos' (by omega)), if_pos q, k_147_32, nI_2c, pk_mul]
  · have hneg : ¬ (0 : Int32) ≤ nI (c.he s) - nI (ln b (c.pa s) / 2) := by
      rw [Int32.le_iff_toInt_le, pk_sub_toInt (by omega) (by omega)]
      have : (0 : Int32).toInt = 0 := rfl
      omega
    rw [if_neg hneg, if_neg q, k_147_17]
    simp only [Hcl, gd_t, decide_true, Bool.and_self, HQ, HZ, ts, HF6, Rs d hsd, c5, nI_eq (show c.kd s < 2 ^ 31 by omega) (show 5 < 2 ^ 31 by decide)]
    by_cases k5 : c.kd s = 5
    · rw [if_neg (fun g => g k5), if_pos k5, k_147_25, k_147_31, Int32.neg_sub, pk_sub (by omega)]
    · rw [if_pos k5, if_neg k5, k_147_30, k_147_31]; rfl
theorem c149 {b : AH} {d : DS} {s : Nat} (hsd : d.sid (d.sa (s + 1)) = s + 1) (ts : tg b (d.sa (s + 1)) = 6) (c : CS) (ty : tg b (c.pa s) = 21) :
    XM L xs 149 [.ref (d.sa (s + 1))] (cl b d c) = some (cl b d c, some (.int (nI (ln b (c.pa s))))) := by
  rw [en_149, k_149_0]
  simp only [Hcl, gd_t, decide_true, Bool.and_self, HQ, HZ, ts, HF6, Rs d hsd, ty, show isA 21 = true from rfl]
  rfl
theorem c151 {b : AH} {d : DS} {s : Nat} (hsd : d.sid (d.sa (s + 1)) = s + 1) (ts : tg b (d.sa (s + 1)) = 6) (c : CS) (ty : tg b (c.pa s) = 21) (h1 : c.he s ≤ ln b (c.pa s)) (h2 : ln b (c.pa s) < 2 ^ 29) (i : Int32) :
    XM L xs 151 [.ref (d.sa (s + 1)), .int i] (cl b d c) = some (cl b d c, some (.long (if i < 0 ∨ nI (c.he s) ≤ i then 0 else eL b (c.pa s) i.toNatClampNeg))) := by
  rw [en_151, k_151_0]
  by_cases i0 : i < 0
  · rw [if_pos i0, if_pos (Or.inl i0), k_151_21, k_151_31]
  · obtain ⟨j, j1, rfl⟩ := nn_of i0
    rw [if_neg i0, k_151_4]
    simp only [Hcl, gd_t, decide_true, Bool.and_self, HQ, HZ, ts, HF6, Rs d hsd, (nI_iff (show c.he s < 2 ^ 31 by omega) j1).1, i0, false_or]
    by_cases q : c.he s ≤ j
    · rw [if_pos q, if_pos q, k_151_21, k_151_31]
    · rw [if_neg q, if_neg q, k_151_12]
      simp only [Hcl, gd_t, decide_true, Bool.and_self, HQ, HZ, ts, HF6, Rs d hsd, ty, show isA 21 = true from rfl]
      rw [if_pos (show nI j < Int32.ofNat (ln b (c.pa s)) from nI_lt (by omega) (by omega)), k_151_25]
      simp only [Hcl, gd_t, decide_true, Bool.and_self, HQ, HZ, ts, HF6, Rs d hsd, ty, inb_nI (show j < ln b (c.pa s) by omega) (by omega), k_151_31]
theorem c153_loop {b : AH} {d : DS} (hw : DW d) (hB : Bd b d) {s : Nat} (hsd : d.sid (d.sa (s + 1)) = s + 1) (ts : tg b (d.sa (s + 1)) = 6) (c : CS) (ty : tg b (c.pa s) = 21) (hpa : c.pa s ≤ nn b) (h1 : c.he s ≤ ln b (c.pa s)) (h2 : ln b (c.pa s) < 2 ^ 29) {n : Nat} (h3 : c.he s ≤ n) (h4 : n < 2 ^ 29) (l1 : Int32) : ∀ (j k : Nat), k + j = c.he s →
    X L xs 153 13 [.ref (d.sa (s + 1)), .int l1, .ref (nn b + 1), .int (nI k)] [] (cl (cpB b (c.pa s) n k) d (cSt c s k)) = some (cl (cpB b (c.pa s) n (c.he s)) d (cCp c s (nn b + 1)), none) := by
  have sn : d.sa (s + 1) ≠ nn b + 1 := fun e => by have := hB.2.2.2 (d.sa (s + 1)) (by rw [hsd]; exact Nat.succ_ne_zero s); omega
  have ts' : ∀ k, tg (cpB b (c.pa s) n k) (d.sa (s + 1)) = 6 := fun k => by rw [(Hcp b (c.pa s) n k).1, if_neg sn]; exact ts
  have pn : c.pa s ≠ nn b + 1 := by omega
  have ty' : ∀ k, tg (cpB b (c.pa s) n k) (c.pa s) = 21 := fun k => by rw [(Hcp b (c.pa s) n k).1, if_neg pn]; exact ty
  have ln' : ∀ k, ln (cpB b (c.pa s) n k) (c.pa s) = ln b (c.pa s) := fun k => by rw [(Hcp b (c.pa s) n k).2.1, if_neg pn]
  have tz' : ∀ k, tg (cpB b (c.pa s) n k) (nn b + 1) = 21 := fun k => by rw [(Hcp b (c.pa s) n k).1, if_pos rfl]
  have lz' : ∀ k, ln (cpB b (c.pa s) n k) (nn b + 1) = n := fun k => by rw [(Hcp b (c.pa s) n k).2.1, if_pos rfl]
  have el' : ∀ k i, eL (cpB b (c.pa s) n k) (c.pa s) i = eL b (c.pa s) i := fun k i => by rw [(Hcp b (c.pa s) n k).2.2.2.2, if_neg pn]
  have she : ∀ k, (cSt c s k).he = c.he := fun _ => rfl
  have spa : ∀ k, (cSt c s k).pa = c.pa := fun _ => rfl
  intro j
  induction j with
  | zero =>
    intro k hk
    have : k = c.he s := by omega
    subst this
    rw [k_153_13]
    simp only [Hcl, gd_t, decide_true, Bool.and_self, HQ, HZ, ts', HF6, Rs d hsd, she]
    rw [if_pos (nI_le (Nat.le_refl _) (by omega)), k_153_55]
    simp only [Hcl, gd_t, decide_true, Bool.and_self, HQ, HZ, ts', HF6, cl_pa _ hw _ hsd, k_153_60]
    rfl
  | succ j ih =>
    intro k hk
    rw [k_153_13]
    simp only [Hcl, gd_t, decide_true, Bool.and_self, HQ, HZ, ts', HF6, Rs d hsd, she]
    rw [if_neg (nI_ge (by omega) (by omega)), k_153_21]
    simp only [Hcl, gd_t, decide_true, Bool.and_self, HQ, HZ, ts', HF6, Rs d hsd, spa, ty', ln', show isA 21 = true from rfl]
    rw [if_neg (show ¬ Int32.ofNat (ln b (c.pa s)) ≤ nI k from nI_ge (by omega) (by omega)), k_153_30]
    simp only [Hcl, gd_t, decide_true, Bool.and_self, HQ, HZ, ts', HF6, Rs d hsd, spa, ty', ln', tz', lz', el', inb_nI (show k < ln b (c.pa s) by omega) (by omega), inb_nI (show k < n by omega) (by omega), nI_clamp (show k < 2 ^ 31 by omega)]
    rw [sL_cl, cpB_S, k_153_39]
    simp only [Hcl, gd_t, decide_true, Bool.and_self, HQ, HZ, ts', HF6, Rs d hsd, cl_st _ hw _ hsd]
    rw [cSt_1, k_153_49, nI_1]
    exact ih (k + 1) (by omega)
theorem c153 {b : AH} {d : DS} (hw : DW d) (hB : Bd b d) {s : Nat} (hsd : d.sid (d.sa (s + 1)) = s + 1) (ts : tg b (d.sa (s + 1)) = 6) (c : CS) (ty : tg b (c.pa s) = 21) (hpa : c.pa s ≤ nn b) (h1 : c.he s ≤ ln b (c.pa s)) (h2 : ln b (c.pa s) < 2 ^ 29) {n : Nat} (h3 : c.he s ≤ n) (h4 : n ≤ 1000000) :
    XM L xs 153 [.ref (d.sa (s + 1)), .int (nI n)] (cl b d c) = some (cl (cpB b (c.pa s) n (c.he s)) d (cCp c s (nn b + 1)), none) := by
  have hy := hB.out (Nat.lt_succ_self _)
  have em : (if nI n < nI (c.he s) then nI (c.he s) else nI n) = nI n := by rw [if_neg (nI_nlt h3 (by omega))]
  rw [en_153, k_153_0]
  simp only [Hcl, gd_t, decide_true, Bool.and_self, HQ, HZ, ts, HF6, Rs d hsd, em, nI_toInt (show n < 2 ^ 31 by omega), nI_clamp (show n < 2 ^ 31 by omega)]
  rw [show decide ((0 : Int) ≤ (n : Int) ∧ (n : Int) ≤ 1000000) = true from decide_eq_true (by omega), gd_t, k_153_10, mk_cl b c hy, cpB_0 b (c.pa s) n]
  have := c153_loop L xs hw hB hsd ts c ty hpa h1 h2 h3 (by omega) (nI n) (c.he s) 0 (by omega)
  rw [cSt_0, nI_0] at this
  exact this
/-- take of a row with a place left -/
theorem c150_0 {b : AH} {d : DS} (hw : DW d) {s : Nat} (hsd : d.sid (d.sa (s + 1)) = s + 1) (ts : tg b (d.sa (s + 1)) = 6) (c : CS) (ty : tg b (c.pa s) = 21) (h1 : c.he s < ln b (c.pa s)) (h2 : ln b (c.pa s) < 2 ^ 29) (k : Int64) (v : Int32) (m : Int32) :
    XM L xs 150 [.ref (d.sa (s + 1)), .long k, .int v, .int m] (cl b d c) = some (cl (sL b (c.pa s) (c.he s) k) d (cRtk c s), some (.int (nI (c.he s + 1)))) := by
  rw [en_150, k_150_0]
  simp only [Hcl, gd_t, decide_true, Bool.and_self, HQ, HZ, ts, HF6, Rs d hsd, ty, show isA 21 = true from rfl]
  rw [if_pos (show nI (c.he s) < Int32.ofNat (ln b (c.pa s)) from nI_lt h1 (by omega)), k_150_23]
  simp only [Hcl, gd_t, decide_true, Bool.and_self, HQ, HZ, ts, HF6, Rs d hsd, ty, inb_nI h1 (by omega), nI_clamp (show c.he s < 2 ^ 31 by omega)]
  have ts2 : tg (sL b (c.pa s) (c.he s) k) (d.sa (s + 1)) = 6 := ts
  rw [sL_cl, k_150_33]
  simp only [Hcl, gd_t, decide_true, Bool.and_self, HQ, HZ, ts2, HF6, Rs d hsd, nI_1, cl_he _ hw _ hsd]
  rw [k_150_43]
  simp only [Hcl, gd_t, decide_true, Bool.and_self, HQ, HZ, ts2, HF6, Rs d hsd, Uhe, cl_st _ hw _ hsd]
  rw [k_150_53]
  simp only [Hcl, gd_t, decide_true, Bool.and_self, HQ, HZ, ts2, HF6, Rs d hsd, Uhe, Ust, u1_s]
  rfl
/-- take of a full row -/
theorem c150_1 {b : AH} {d : DS} (hw : DW d) (hB : Bd b d) {s : Nat} (hsd : d.sid (d.sa (s + 1)) = s + 1) (ts : tg b (d.sa (s + 1)) = 6) (c : CS) (ty : tg b (c.pa s) = 21) (hpa : c.pa s ≤ nn b) (h1 : c.he s = ln b (c.pa s)) (h0 : 0 < c.he s) (h2 : ln b (c.pa s) ≤ 200000) (k : Int64) (v : Int32) (m : Int32) :
    XM L xs 150 [.ref (d.sa (s + 1)), .long k, .int v, .int m] (cl b d c) = some (cl (sL (cpB b (c.pa s) (2 * c.he s) (c.he s)) (nn b + 1) (c.he s) k) d (cRtk (cCp c s (nn b + 1)) s), some (.int (nI (c.he s + 1)))) := by
  have sn : d.sa (s + 1) ≠ nn b + 1 := fun e => by have := hB.2.2.2 (d.sa (s + 1)) (by rw [hsd]; exact Nat.succ_ne_zero s); omega
  have cp := c153 L xs hw hB hsd ts c ty hpa (by omega) (by omega) (n := 2 * c.he s) (by omega) (by omega)
  rw [en_150, k_150_0]
  simp only [Hcl, gd_t, decide_true, Bool.and_self, HQ, HZ, ts, HF6, Rs d hsd, ty, show isA 21 = true from rfl]
  rw [if_neg (show ¬ nI (c.he s) < Int32.ofNat (ln b (c.pa s)) from nI_nlt (by omega) (by omega)), k_150_12]
  have el : (2 : Int32) * Int32.ofNat (ln b (c.pa s)) = nI (2 * c.he s) := by
    rw [nI_2c, show Int32.ofNat (ln b (c.pa s)) = nI (c.he s) from by rw [h1]; rfl, pk_mul]
  simp only [Hcl, gd_t, decide_true, Bool.and_self, HQ, HZ, ts, HF6, Rs d hsd, ty, show isA 21 = true from rfl, dS hw hsd, el, cc_5_22_6, cp, bV_s]
  have epa : (cCp c s (nn b + 1)).pa s = nn b + 1 := u1_s _ _ _
  have ehe : (cCp c s (nn b + 1)).he = c.he := rfl
  have ts1 : tg (cpB b (c.pa s) (2 * c.he s) (c.he s)) (d.sa (s + 1)) = 6 := by rw [(Hcp b (c.pa s) _ _).1, if_neg sn]; exact ts
  have tz : tg (cpB b (c.pa s) (2 * c.he s) (c.he s)) (nn b + 1) = 21 := by rw [(Hcp b (c.pa s) _ _).1, if_pos rfl]
  have lz : ln (cpB b (c.pa s) (2 * c.he s) (c.he s)) (nn b + 1) = 2 * c.he s := by rw [(Hcp b (c.pa s) _ _).2.1, if_pos rfl]
  rw [k_150_23]
  simp only [Hcl, gd_t, decide_true, Bool.and_self, HQ, HZ, ts1, HF6, Rs d hsd, epa, ehe, tz, lz, inb_nI (show c.he s < 2 * c.he s by omega) (by omega), nI_clamp (show c.he s < 2 ^ 31 by omega)]
  have ts2 : tg (sL (cpB b (c.pa s) (2 * c.he s) (c.he s)) (nn b + 1) (c.he s) k) (d.sa (s + 1)) = 6 := ts1
  rw [sL_cl, k_150_33]
  simp only [Hcl, gd_t, decide_true, Bool.and_self, HQ, HZ, ts2, HF6, Rs d hsd, ehe, nI_1, cl_he _ hw _ hsd]
  rw [k_150_43]
  simp only [Hcl, gd_t, decide_true, Bool.and_self, HQ, HZ, ts2, HF6, Rs d hsd, Uhe, cl_st _ hw _ hsd]
  rw [k_150_53]
  simp only [Hcl, gd_t, decide_true, Bool.and_self, HQ, HZ, ts2, HF6, Rs d hsd, Uhe, Ust, u1_s]
  rfl
def shk (kd he len : Nat) : Prop := kd = 5 ∧ 4 < len ∧ 4 * he = len
/-- loseLast -/
theorem c152 {b : AH} {d : DS} (hw : DW d) (hB : Bd b d) {s : Nat} (hsd : d.sid (d.sa (s + 1)) = s + 1) (ts : tg b (d.sa (s + 1)) = 6) (c : CS) (ty : tg b (c.pa s) = 21) (hpa : c.pa s ≤ nn b) (h0 : 1 ≤ c.he s) (h1 : c.he s ≤ ln b (c.pa s)) (h2 : ln b (c.pa s) ≤ 200000) (hk : c.kd s ≤ 5) :
    (¬ shk (c.kd s) (c.he s - 1) (ln b (c.pa s)) → XM L xs 152 [.ref (d.sa (s + 1))] (cl b d c) = some (cl b d (cRls c s), none)) ∧ (shk (c.kd s) (c.he s - 1) (ln b (c.pa s)) → XM L xs 152 [.ref (d.sa (s + 1))] (cl b d c) = some (cl (cpB b (c.pa s) (ln b (c.pa s) / 2) (c.he s - 1)) d (cCp (cRls c s) s (nn b + 1)), none)) := by
  have c5 : (5 : Int32) = nI 5 := by decide
  have c4 : (4 : Int32) = nI 4 := by decide
  have ehe : (cRls c s).he s = c.he s - 1 := u1_s _ _ _
  have epa : (cRls c s).pa = c.pa := rfl
  have ekd : (cRls c s).kd = c.kd := rfl
  have cp := fun g => c153 L xs hw hB hsd ts (cRls c s) (show tg b ((cRls c s).pa s) = 21 from ty) (show (cRls c s).pa s ≤ nn b from hpa) (show (cRls c s).he s ≤ ln b (c.pa s) by rw [ehe]; omega) (show ln b (c.pa s) < 2 ^ 29 by omega) (n := ln b (c.pa s) / 2) g (by omega)
  have start : XM L xs 152 [.ref (d.sa (s + 1))] (cl b d c) = X L xs 152 28 [.ref (d.sa (s + 1)), .null] [] (cl b d (cRls c s)) := by
    rw [en_152, k_152_0]
    simp only [Hcl, gd_t, decide_true, Bool.and_self, HQ, HZ, ts, HF6, Rs d hsd]
    rw [if_pos (nI_ne0 (by omega) (by omega)), k_152_8]
    simp only [Hcl, gd_t, decide_true, Bool.and_self, HQ, HZ, ts, HF6, Rs d hsd]
    rw [show nI (c.he s) - 1 = nI (c.he s - 1) from pk_sub h0, cl_he _ hw _ hsd, k_152_18]
    simp only [Hcl, gd_t, decide_true, Bool.and_self, HQ, HZ, ts, HF6, Rs d hsd, Uhe, cl_st _ hw _ hsd]
    rfl
  have el : Int32.ofNat (ln b (c.pa s)) = nI (ln b (c.pa s)) := rfl
  have mid : X L xs 152 28 [.ref (d.sa (s + 1)), .null] [] (cl b d (cRls c s)) = if c.kd s = 5 ∧ 4 < ln b (c.pa s) then X L xs 152 55 [.ref (d.sa (s + 1)), .int 1] [] (cl b d (cRls c s)) else some (cl b d (cRls c s), none) := by
    rw [k_152_28]
    simp only [Hcl, gd_t, decide_true, Bool.and_self, HQ, HZ, ts, HF6, Rs d hsd, ekd, c5, nI_eq (show c.kd s < 2 ^ 31 by omega) (show 5 < 2 ^ 31 by decide)]
    by_cases k5 : c.kd s = 5
    · rw [if_neg (fun g => g k5), k_152_36]
      simp only [Hcl, gd_t, decide_true, Bool.and_self, HQ, HZ, ts, HF6, Rs d hsd, epa, ty, show isA 21 = true from rfl, el, c4, (nI_iff (show ln b (c.pa s) < 2 ^ 31 by omega) (show 4 < 2 ^ 31 by decide)).1]
      by_cases l4 : ln b (c.pa s) ≤ 4
      · rw [if_pos l4, if_neg (fun g => by omega), k_152_49, k_152_50, if_pos rfl, k_152_80]
      · rw [if_neg l4, if_pos ⟨k5, by omega⟩, k_152_45, k_152_50, if_neg (by decide)]
    · rw [if_pos k5, if_neg (fun g => k5 g.1), k_152_49, k_152_50, if_pos rfl, k_152_80]
  have fin : X L xs 152 55 [.ref (d.sa (s + 1)), .int 1] [] (cl b d (cRls c s)) = if 4 * (c.he s - 1) = ln b (c.pa s) then X L xs 152 69 [.ref (d.sa (s + 1)), .int 1] [] (cl b d (cRls c s)) else some (cl b d (cRls c s), none) := by
    rw [k_152_55]
    simp only [Hcl, gd_t, decide_true, Bool.and_self, HQ, HZ, ts, HF6, Rs d hsd, epa, ty, ehe, show isA 21 = true from rfl, el, c4, pk_mul, nI_eq (show 4 * (c.he s - 1) < 2 ^ 31 by omega) (show ln b (c.pa s) < 2 ^ 31 by omega)]
    by_cases e : 4 * (c.he s - 1) = ln b (c.pa s)
    · rw [if_neg (fun g => g e), if_pos e]
    · rw [if_pos e, if_neg e, k_152_80]
  rw [start, mid]
  constructor
  · intro g
    by_cases q : c.kd s = 5 ∧ 4 < ln b (c.pa s)
    · rw [if_pos q, fin, if_neg (fun e => g ⟨q.1, q.2, e⟩)]
    · rw [if_neg q]
  · intro g
    obtain ⟨g1, g2, g3⟩ := g
    rw [if_pos ⟨g1, g2⟩, fin, if_pos g3, k_152_69]
    have ed : Int32.ofNat (ln b (c.pa s)) / (2 : Int32) = nI (ln b (c.pa s) / 2) := by
      rw [nI_2c]; exact pk_div (show ln b (c.pa s) < 2 ^ 31 by omega) (by decide) (by decide)
    have cp1 := cp (by rw [ehe]; omega)
    rw [epa, ehe] at cp1
    simp only [Hcl, gd_t, decide_true, Bool.and_self, HQ, HZ, ts, HF6, Rs d hsd, epa, ty, show isA 21 = true from rfl, show decide ((2 : Int32) ≠ 0) = true from by decide, dS hw hsd, ed, cc_5_22_6, cp1, bV_s, k_152_80]
end Crw
