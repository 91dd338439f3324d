-- the class's small methods of structures
section Csq
variable (L : Nat) (xs : Nat → Int32)
theorem c121 {b : AH} {d : DS} {s : Nat} (hsd : d.sid (d.sa (s + 1)) = s + 1) (ts : tg b (d.sa (s + 1)) = 3) (c : CS) :
    XM L xs 121 [.ref (d.sa (s + 1))] (cl b d c) = some (cl b d c, some (.int (nI (c.hy s)))) := by
  rw [en_121, k_121_0]
  simp only [Hcl, gd_t, decide_true, Bool.and_self, HQ, HZ, ts, HF3, Rs d hsd]
theorem c122 {b : AH} {d : DS} {s : Nat} (hsd : d.sid (d.sa (s + 1)) = s + 1) (ts : tg b (d.sa (s + 1)) = 3) (c : CS) (hh : c.he s < 2 ^ 31) :
    XM L xs 122 [.ref (d.sa (s + 1))] (cl b d c) = some (cl b d c, some (.int (prH (c.he s) 1))) := by
  rw [en_122, k_122_0]
  simp only [Hcl, gd_t, decide_true, Bool.and_self, HQ, HZ, ts, HF3, Rs d hsd]
  rw [cc_2_18_0, nI_1c, s_42 L xs _ _ _ hh (by decide)]
  rfl
theorem c123_0 {b : AH} {d : DS} (hw : DW d) {s : Nat} (hsd : d.sid (d.sa (s + 1)) = s + 1) (ts : tg b (d.sa (s + 1)) = 3) (c : CS) (hr : c.ro s = 0) :
    XM L xs 123 [.ref (d.sa (s + 1))] (cl b d c) = some (cl b d c, some (.int 0)) := by
  rw [en_123, k_123_0]
  simp only [Hcl, gd_t, decide_true, Bool.and_self, HQ, HZ, ts, HF3, Rs d hsd, hr, hw.1.1, if_true, k_123_7, k_123_34]
theorem c123_n {b : AH} {d : DS} (hw : DW d) (tN : ∀ x, d.nid x ≠ 0 → tg b x = 4) {s : Nat} (hsd : d.sid (d.sa (s + 1)) = s + 1) (ts : tg b (d.sa (s + 1)) = 3) (c : CS) (r0 : c.ro s ≠ 0) (hdr : d.nid (d.ph (c.ro s)) = c.ro s)
    (hl : d.nid (d.ph (c.P.1 (c.ro s))) = c.P.1 (c.ro s)) (hr : d.nid (d.ph (c.P.2.1 (c.ro s))) = c.P.2.1 (c.ro s)) (h1 : zC c (c.P.1 (c.ro s)) < 2 ^ 31) (h2 : zC c (c.P.2.1 (c.ro s)) < 2 ^ 31) :
    XM L xs 123 [.ref (d.sa (s + 1))] (cl b d c) = some (cl b d c, some (.int (prH (zC c (c.P.1 (c.ro s))) (zC c (c.P.2.1 (c.ro s)))))) := by
  have tn : tg b (d.ph (c.ro s)) = 4 := tN _ (by rw [hdr]; exact r0)
  have e1 := c47 L xs hw tN c hl
  have e2 := c47 L xs hw tN c hr
  have e3 := s_42 L xs (cl b d c) _ _ h1 h2
  rw [en_123, k_123_0]
  simp only [Hcl, gd_t, decide_true, Bool.and_self, HQ, HZ, ts, HF3, Rs d hsd, ph0 hw hdr, r0, if_false, k_123_11, tn, HF4, Rn d hdr r0, cc_2_31_0, e1, bI_s, e2, cc_2_18_0]
  rw [show (nI (if c.P.1 (c.ro s) = 0 then 0 else c.cz (c.P.1 (c.ro s)))) = nI (zC c (c.P.1 (c.ro s))) from rfl, show (nI (if c.P.2.1 (c.ro s) = 0 then 0 else c.cz (c.P.2.1 (c.ro s)))) = nI (zC c (c.P.2.1 (c.ro s))) from rfl, e3]
  simp only [bI_s, k_123_34]
theorem c125 {b : AH} {d : DS} {s t : Nat} (hsd : d.sid (d.sa (s + 1)) = s + 1) (htd : d.sid (d.sa (t + 1)) = t + 1) (ts : tg b (d.sa (s + 1)) = 3) (tt : tg b (d.sa (t + 1)) = 3) (c : CS) (k1 : c.kd s ≤ 5) (k2 : c.kd t ≤ 5) :
    XM L xs 125 [.ref (d.sa (s + 1)), .ref (d.sa (t + 1))] (cl b d c) = some (cl b d c, some (.int (bI1 (decide (s ≠ t ∧ c.kd s = c.kd t))))) := by
  rw [en_125, k_125_0]
  simp only [saI hsd htd, Nat.add_right_cancel_iff]
  by_cases e : s = t
  · rw [if_pos e, k_125_20, k_125_21, show decide (s ≠ t ∧ c.kd s = c.kd t) = false from decide_eq_false (fun q => q.1 e)]
    rfl
  · rw [if_neg e, k_125_5]
    simp only [Hcl, gd_t, decide_true, Bool.and_self, HQ, HZ, ts, tt, HF3, Rs d hsd, Rs d htd, nI_eq (show c.kd s < 2 ^ 31 by omega) (show c.kd t < 2 ^ 31 by omega)]
    by_cases g : c.kd s = c.kd t
    · rw [if_neg (fun q => q g), k_125_16, k_125_21, show decide (s ≠ t ∧ c.kd s = c.kd t) = true from decide_eq_true ⟨e, g⟩]
      rfl
    · rw [if_pos g, k_125_20, k_125_21, show decide (s ≠ t ∧ c.kd s = c.kd t) = false from decide_eq_false (fun q => g q.2)]
      rfl
theorem c141 (h : AH) (a : Nat) : XM L xs 141 [.ref a] h = some (h, some (.int 0)) := by rw [en_141, k_141_0]
theorem c142 (h : AH) (a e : Nat) : XM L xs 142 [.ref a, .ref e] h = some (h, none) := by rw [en_142, k_142_0]
theorem c148 (h : AH) (a : Nat) : XM L xs 148 [.ref a] h = some (h, some (.int 3)) := by rw [en_148, k_148_0]
theorem c156 (h : AH) (a : Nat) : XM L xs 156 [.ref a] h = some (h, some (.int 0)) := by rw [en_156, k_156_0]
theorem c155 {b : AH} {d : DS} {s : Nat} (hsd : d.sid (d.sa (s + 1)) = s + 1) (h14 : hasF (tg b (d.sa (s + 1))) 14 = true) (c : CS) :
    XM L xs 155 [.ref (d.sa (s + 1))] (cl b d c) = some (cl b d c, some (.int (nI (c.he s)))) := by
  rw [en_155, k_155_0]
  simp only [Hcl, gd_t, decide_true, Bool.and_self, HQ, HZ, h14, Rs d hsd]
theorem c160 {b : AH} {d : DS} {s : Nat} (hsd : d.sid (d.sa (s + 1)) = s + 1) (h17 : hasF (tg b (d.sa (s + 1))) 17 = true) (c : CS) :
    XM L xs 160 [.ref (d.sa (s + 1))] (cl b d c) = some (cl b d c, some (.int (nI (c.vs s)))) := by
  rw [en_160, k_160_0]
  simp only [Hcl, gd_t, decide_true, Bool.and_self, HQ, HZ, h17, Rs d hsd]
theorem c158 {b : AH} {d : DS} {s : Nat} (hsd : d.sid (d.sa (s + 1)) = s + 1) (h14 : hasF (tg b (d.sa (s + 1))) 14 = true) (c : CS) (hh : c.he s < 2 ^ 30) :
    XM L xs 158 [.ref (d.sa (s + 1))] (cl b d c) = some (cl b d c, some (.int (prT (c.he s)))) := by
  rw [en_158, k_158_0]
  simp only [Hcl, gd_t, decide_true, Bool.and_self, HQ, HZ, h14, Rs d hsd]
  rw [cc_11_13_0, s_41 L xs _ _ hh]
  rfl
theorem c159 {b : AH} {d : DS} (hw : DW d) {s : Nat} (hsd : d.sid (d.sa (s + 1)) = s + 1) (ts : tg b (d.sa (s + 1)) = 5 ∨ tg b (d.sa (s + 1)) = 7) (c : CS) (hh : c.he s < 2 ^ 30) :
    XM L xs 159 [.ref (d.sa (s + 1))] (cl b d c) = some (cl b d c, some (.int (prT (c.he s)))) := by
  have h14 : hasF (tg b (d.sa (s + 1))) 14 = true := by rcases ts with q | q <;> rw [q] <;> rfl
  have e := c158 L xs hsd h14 c hh
  rw [en_159, k_159_0]
  rcases ts with q | q
  · simp only [Hcl, gd_t, decide_true, Bool.and_self, HQ, HZ, dS hw hsd, q, cc_11_19_5, e, bI_s]
  · simp only [Hcl, gd_t, decide_true, Bool.and_self, HQ, HZ, dS hw hsd, q, cc_11_19_7, e, bI_s]
theorem c171 {b : AH} {d : DS} {s : Nat} (hsd : d.sid (d.sa (s + 1)) = s + 1) (ts : tg b (d.sa (s + 1)) = 7) (c : CS) :
    XM L xs 171 [.ref (d.sa (s + 1))] (cl b d c) = some (cl b d c, some (.int (nI (3 * c.lg s)))) := by
  have e3 : (3 : Int32) = nI 3 := by decide +kernel
  rw [en_171, k_171_0]
  simp only [Hcl, gd_t, decide_true, Bool.and_self, HQ, HZ, ts, HF7, Rs d hsd]
  rw [e3, pk_mul]
end Csq
-- kinds and tags
def tgS (k : Nat) : Nat := if k = 0 then 5 else if k = 1 then 7 else if k ≤ 3 then 3 else 6
theorem tgS_all {k : Nat} (h : k ≤ 5) : (k = 0 ∧ tgS k = 5) ∨ (k = 1 ∧ tgS k = 7) ∨ ((k = 2 ∨ k = 3) ∧ tgS k = 3) ∨ ((k = 4 ∨ k = 5) ∧ tgS k = 6) := by
  have : k = 0 ∨ k = 1 ∨ k = 2 ∨ k = 3 ∨ k = 4 ∨ k = 5 := by omega
  rcases this with rfl | rfl | rfl | rfl | rfl | rfl
  · exact Or.inl ⟨rfl, rfl⟩
  · exact Or.inr (Or.inl ⟨rfl, rfl⟩)
  · exact Or.inr (Or.inr (Or.inl ⟨Or.inl rfl, rfl⟩))
  · exact Or.inr (Or.inr (Or.inl ⟨Or.inr rfl, rfl⟩))
  · exact Or.inr (Or.inr (Or.inr ⟨Or.inl rfl, rfl⟩))
  · exact Or.inr (Or.inr (Or.inr ⟨Or.inr rfl, rfl⟩))
theorem tgS_f {k : Nat} (h : k ≤ 5) : hasF (tgS k) 12 = true ∧ hasF (tgS k) 13 = true ∧ hasF (tgS k) 14 = true ∧ hasF (tgS k) 15 = true ∧ hasF (tgS k) 16 = true := by
  rcases tgS_all h with ⟨-, q⟩ | ⟨-, q⟩ | ⟨-, q⟩ | ⟨-, q⟩ <;> rw [q] <;> exact ⟨rfl, rfl, rfl, rfl, rfl⟩
/-- the class's potential -/
def potV (b : AH) (c : CS) (s : Nat) : Nat := if c.kd s = 0 then 0 else if c.kd s = 1 then 3 * c.lg s else if c.kd s ≤ 3 then c.hy s else prow (c.kd s) (c.he s) (ln b (c.pa s))
section Csq2
variable (L : Nat) (xs : Nat → Int32)
theorem cpot {b : AH} {d : DS} {s : Nat} (hsd : d.sid (d.sa (s + 1)) = s + 1) (c : CS) (hk : c.kd s ≤ 5) (ts : tg b (d.sa (s + 1)) = tgS (c.kd s)) (hr : 4 ≤ c.kd s → tg b (c.pa s) = 21 ∧ c.he s < 2 ^ 29 ∧ ln b (c.pa s) < 2 ^ 29) :
    cfD (XM L xs) 0 190 (tg b (d.sa (s + 1))) [.ref (d.sa (s + 1))] (cl b d c) = some (cl b d c, some (.int (nI (potV b c s)))) := by
  rcases tgS_all hk with ⟨q, e⟩ | ⟨q, e⟩ | ⟨q, e⟩ | ⟨q, e⟩
  · rw [ts, e, cc_0_190_5, c141]
    unfold potV
    rw [if_pos q, nI_0]
  · rw [ts, e, cc_0_190_7, c171 L xs hsd (ts.trans e)]
    unfold potV
    rw [if_neg (by omega), if_pos q]
  · rw [ts, e, cc_0_190_3, c121 L xs hsd (ts.trans e)]
    unfold potV
    rw [if_neg (by omega), if_neg (by omega), if_pos (by omega)]
  · obtain ⟨r1, r2, r3⟩ := hr (by omega)
    rw [ts, e, cc_0_190_6, c147 L xs hsd (ts.trans e) c r1 hk r2 r3]
    unfold potV
    rw [if_neg (by omega), if_neg (by omega), if_neg (by omega)]
end Csq2
