-- the class: which structure a number means; what the acts share
def AR (c : CS) : Prop := c.K ≤ 40 ∧ (∀ i, i < c.K → c.ar i = i + 1) ∧ ∀ i, c.K ≤ i → c.ar i = 0
section Csa
variable (L : Nat) (xs : Nat → Int32)
theorem c25_t {b : AH} (hb : CB b) (d : DS) (c : CS) (ha : AR c) {s : Nat} (hs : s < c.K) : XM L xs 25 [.ref 1, .int (nI s)] (cl b d c) = some (cl b d c, some (.ref (d.sa (s + 1)))) := by
  obtain ⟨p1, p2, p3, p4⟩ := id hb
  have h40 : s < 40 := by have := ha.1; omega
  rw [en_25, k_25_0, if_neg (nI_pos (by omega)), k_25_4]
  simp only [Hcl, p1, p2, p3, p4, HF1, HF2, gd_t, decide_true, Bool.and_self, HQ, HZ, show isA 22 = true from rfl]
  rw [if_pos (show nI s < Int32.ofNat 40 from nI_lt h40 (by decide)), k_25_17]
  simp only [Hcl, p1, p2, p3, p4, HF1, HF2, gd_t, decide_true, Bool.and_self, HQ, HZ, inb_nI h40 (by decide), nI_clamp (show s < 2 ^ 31 by omega), ha.2.1 s hs, k_25_23]
theorem c25_f {b : AH} (hb : CB b) {d : DS} (hw : DW d) (c : CS) (ha : AR c) {i : Int32} (hi : i < 0 ∨ nI c.K ≤ i) : XM L xs 25 [.ref 1, .int i] (cl b d c) = some (cl b d c, some (.ref 0)) := by
  obtain ⟨p1, p2, p3, p4⟩ := id hb
  rw [en_25, k_25_0]
  by_cases i0 : i < 0
  · rw [if_pos i0, k_25_13, k_25_23]
  · obtain ⟨j, j1, rfl⟩ := nn_of i0
    have hj : c.K ≤ j := by
      rcases hi with q | q
      · exact absurd q i0
      · exact (nI_iff (by have := ha.1; omega) j1).1.mp q
    rw [if_neg i0, k_25_4]
    simp only [Hcl, p1, p2, p3, p4, HF1, HF2, gd_t, decide_true, Bool.and_self, HQ, HZ, show isA 22 = true from rfl]
    by_cases g : j < 40
    · rw [if_pos (show nI j < Int32.ofNat 40 from nI_lt g (by decide)), k_25_17]
      simp only [Hcl, p1, p2, p3, p4, HF1, HF2, gd_t, decide_true, Bool.and_self, HQ, HZ, inb_nI g (by decide), nI_clamp j1, ha.2.2 j hj, hw.1.2.2.1, k_25_23]
    · rw [if_neg (show ¬ nI j < Int32.ofNat 40 from nI_nlt (by omega) j1), k_25_13, k_25_23]
theorem c26_3 {b : AH} (hb : CB b) {d : DS} (hw : DW d) (c : CS) (ha : AR c) {s : Nat} (hs : s < c.K) (hsd : d.sid (d.sa (s + 1)) = s + 1) (ts : tg b (d.sa (s + 1)) = 3) : XM L xs 26 [.ref 1, .int (nI s)] (cl b d c) = some (cl b d c, some (.ref 0)) := by
  obtain ⟨p1, p2, p3, p4⟩ := id hb
  have s0 : ¬ d.sa (s + 1) = 0 := fun e => Nat.succ_ne_zero s ((sa0 hw hsd).mp e)
  rw [en_26, k_26_0]
  simp only [Hcl, p1, p2, p3, p4, HF1, HF2, gd_t, decide_true, Bool.and_self, HQ, HZ, cc_0_30_1, c25_t L xs hb d c ha hs, bR_s, s0, if_false, ts, show ins 11 3 = some 0 from rfl, or_true, true_or, if_true]
  rw [if_pos (by decide), k_26_22, k_26_23]
theorem c26_5 {b : AH} (hb : CB b) {d : DS} (hw : DW d) (c : CS) (ha : AR c) {s : Nat} (hs : s < c.K) (hsd : d.sid (d.sa (s + 1)) = s + 1) (ts : tg b (d.sa (s + 1)) = 5) : XM L xs 26 [.ref 1, .int (nI s)] (cl b d c) = some (cl b d c, some (.ref (d.sa (s + 1)))) := by
  obtain ⟨p1, p2, p3, p4⟩ := id hb
  have s0 : ¬ d.sa (s + 1) = 0 := fun e => Nat.succ_ne_zero s ((sa0 hw hsd).mp e)
  rw [en_26, k_26_0]
  simp only [Hcl, p1, p2, p3, p4, HF1, HF2, gd_t, decide_true, Bool.and_self, HQ, HZ, cc_0_30_1, c25_t L xs hb d c ha hs, bR_s, s0, if_false, ts, show ins 11 5 = some 1 from rfl, or_true, true_or, if_true]
  rw [if_neg (by decide), k_26_13]
  simp only [Hcl, p1, p2, p3, p4, HF1, HF2, gd_t, decide_true, Bool.and_self, HQ, HZ, ts, show ins 11 5 = some 1 from rfl, Bool.or_true, k_26_23]
theorem c26_6 {b : AH} (hb : CB b) {d : DS} (hw : DW d) (c : CS) (ha : AR c) {s : Nat} (hs : s < c.K) (hsd : d.sid (d.sa (s + 1)) = s + 1) (ts : tg b (d.sa (s + 1)) = 6) : XM L xs 26 [.ref 1, .int (nI s)] (cl b d c) = some (cl b d c, some (.ref 0)) := by
  obtain ⟨p1, p2, p3, p4⟩ := id hb
  have s0 : ¬ d.sa (s + 1) = 0 := fun e => Nat.succ_ne_zero s ((sa0 hw hsd).mp e)
  rw [en_26, k_26_0]
  simp only [Hcl, p1, p2, p3, p4, HF1, HF2, gd_t, decide_true, Bool.and_self, HQ, HZ, cc_0_30_1, c25_t L xs hb d c ha hs, bR_s, s0, if_false, ts, show ins 11 6 = some 0 from rfl, or_true, true_or, if_true]
  rw [if_pos (by decide), k_26_22, k_26_23]
theorem c26_7 {b : AH} (hb : CB b) {d : DS} (hw : DW d) (c : CS) (ha : AR c) {s : Nat} (hs : s < c.K) (hsd : d.sid (d.sa (s + 1)) = s + 1) (ts : tg b (d.sa (s + 1)) = 7) : XM L xs 26 [.ref 1, .int (nI s)] (cl b d c) = some (cl b d c, some (.ref (d.sa (s + 1)))) := by
  obtain ⟨p1, p2, p3, p4⟩ := id hb
  have s0 : ¬ d.sa (s + 1) = 0 := fun e => Nat.succ_ne_zero s ((sa0 hw hsd).mp e)
  rw [en_26, k_26_0]
  simp only [Hcl, p1, p2, p3, p4, HF1, HF2, gd_t, decide_true, Bool.and_self, HQ, HZ, cc_0_30_1, c25_t L xs hb d c ha hs, bR_s, s0, if_false, ts, show ins 11 7 = some 1 from rfl, or_true, true_or, if_true]
  rw [if_neg (by decide), k_26_13]
  simp only [Hcl, p1, p2, p3, p4, HF1, HF2, gd_t, decide_true, Bool.and_self, HQ, HZ, ts, show ins 11 7 = some 1 from rfl, Bool.or_true, k_26_23]
theorem c26_f {b : AH} (hb : CB b) {d : DS} (hw : DW d) (c : CS) (ha : AR c) {i : Int32} (hi : i < 0 ∨ nI c.K ≤ i) : XM L xs 26 [.ref 1, .int i] (cl b d c) = some (cl b d c, some (.ref 0)) := by
  obtain ⟨p1, p2, p3, p4⟩ := id hb
  rw [en_26, k_26_0]
  simp only [Hcl, p1, p2, p3, p4, HF1, HF2, gd_t, decide_true, Bool.and_self, HQ, HZ, cc_0_30_1, c25_f L xs hb hw c ha hi, bR_s, if_true, k_26_22, k_26_23]
theorem c27_3 {b : AH} (hb : CB b) {d : DS} (hw : DW d) (c : CS) (ha : AR c) {s : Nat} (hs : s < c.K) (hsd : d.sid (d.sa (s + 1)) = s + 1) (ts : tg b (d.sa (s + 1)) = 3) : XM L xs 27 [.ref 1, .int (nI s)] (cl b d c) = some (cl b d c, some (.ref 0)) := by
  obtain ⟨p1, p2, p3, p4⟩ := id hb
  have s0 : ¬ d.sa (s + 1) = 0 := fun e => Nat.succ_ne_zero s ((sa0 hw hsd).mp e)
  rw [en_27, k_27_0]
  simp only [Hcl, p1, p2, p3, p4, HF1, HF2, gd_t, decide_true, Bool.and_self, HQ, HZ, cc_0_30_1, c25_t L xs hb d c ha hs, bR_s, s0, if_false, ts, show ins 6 3 = some 0 from rfl, or_true, true_or, if_true]
  rw [if_pos (by decide), k_27_22, k_27_23]
theorem c27_5 {b : AH} (hb : CB b) {d : DS} (hw : DW d) (c : CS) (ha : AR c) {s : Nat} (hs : s < c.K) (hsd : d.sid (d.sa (s + 1)) = s + 1) (ts : tg b (d.sa (s + 1)) = 5) : XM L xs 27 [.ref 1, .int (nI s)] (cl b d c) = some (cl b d c, some (.ref 0)) := by
  obtain ⟨p1, p2, p3, p4⟩ := id hb
  have s0 : ¬ d.sa (s + 1) = 0 := fun e => Nat.succ_ne_zero s ((sa0 hw hsd).mp e)
  rw [en_27, k_27_0]
  simp only [Hcl, p1, p2, p3, p4, HF1, HF2, gd_t, decide_true, Bool.and_self, HQ, HZ, cc_0_30_1, c25_t L xs hb d c ha hs, bR_s, s0, if_false, ts, show ins 6 5 = some 0 from rfl, or_true, true_or, if_true]
  rw [if_pos (by decide), k_27_22, k_27_23]
theorem c27_6 {b : AH} (hb : CB b) {d : DS} (hw : DW d) (c : CS) (ha : AR c) {s : Nat} (hs : s < c.K) (hsd : d.sid (d.sa (s + 1)) = s + 1) (ts : tg b (d.sa (s + 1)) = 6) : XM L xs 27 [.ref 1, .int (nI s)] (cl b d c) = some (cl b d c, some (.ref 0)) := by
  obtain ⟨p1, p2, p3, p4⟩ := id hb
  have s0 : ¬ d.sa (s + 1) = 0 := fun e => Nat.succ_ne_zero s ((sa0 hw hsd).mp e)
  rw [en_27, k_27_0]
  simp only [Hcl, p1, p2, p3, p4, HF1, HF2, gd_t, decide_true, Bool.and_self, HQ, HZ, cc_0_30_1, c25_t L xs hb d c ha hs, bR_s, s0, if_false, ts, show ins 6 6 = some 0 from rfl, or_true, true_or, if_true]
  rw [if_pos (by decide), k_27_22, k_27_23]
theorem c27_7 {b : AH} (hb : CB b) {d : DS} (hw : DW d) (c : CS) (ha : AR c) {s : Nat} (hs : s < c.K) (hsd : d.sid (d.sa (s + 1)) = s + 1) (ts : tg b (d.sa (s + 1)) = 7) : XM L xs 27 [.ref 1, .int (nI s)] (cl b d c) = some (cl b d c, some (.ref (d.sa (s + 1)))) := by
  obtain ⟨p1, p2, p3, p4⟩ := id hb
  have s0 : ¬ d.sa (s + 1) = 0 := fun e => Nat.succ_ne_zero s ((sa0 hw hsd).mp e)
  rw [en_27, k_27_0]
  simp only [Hcl, p1, p2, p3, p4, HF1, HF2, gd_t, decide_true, Bool.and_self, HQ, HZ, cc_0_30_1, c25_t L xs hb d c ha hs, bR_s, s0, if_false, ts, show ins 6 7 = some 1 from rfl, or_true, true_or, if_true]
  rw [if_neg (by decide), k_27_13]
  simp only [Hcl, p1, p2, p3, p4, HF1, HF2, gd_t, decide_true, Bool.and_self, HQ, HZ, ts, show ins 6 7 = some 1 from rfl, Bool.or_true, k_27_23]
theorem c27_f {b : AH} (hb : CB b) {d : DS} (hw : DW d) (c : CS) (ha : AR c) {i : Int32} (hi : i < 0 ∨ nI c.K ≤ i) : XM L xs 27 [.ref 1, .int i] (cl b d c) = some (cl b d c, some (.ref 0)) := by
  obtain ⟨p1, p2, p3, p4⟩ := id hb
  rw [en_27, k_27_0]
  simp only [Hcl, p1, p2, p3, p4, HF1, HF2, gd_t, decide_true, Bool.and_self, HQ, HZ, cc_0_30_1, c25_f L xs hb hw c ha hi, bR_s, if_true, k_27_22, k_27_23]
theorem c28_3 {b : AH} (hb : CB b) {d : DS} (hw : DW d) (c : CS) (ha : AR c) {s : Nat} (hs : s < c.K) (hsd : d.sid (d.sa (s + 1)) = s + 1) (ts : tg b (d.sa (s + 1)) = 3) : XM L xs 28 [.ref 1, .int (nI s)] (cl b d c) = some (cl b d c, some (.ref (d.sa (s + 1)))) := by
  obtain ⟨p1, p2, p3, p4⟩ := id hb
  have s0 : ¬ d.sa (s + 1) = 0 := fun e => Nat.succ_ne_zero s ((sa0 hw hsd).mp e)
  rw [en_28, k_28_0]
  simp only [Hcl, p1, p2, p3, p4, HF1, HF2, gd_t, decide_true, Bool.and_self, HQ, HZ, cc_0_30_1, c25_t L xs hb d c ha hs, bR_s, s0, if_false, ts, show ins 2 3 = some 1 from rfl, or_true, true_or, if_true]
  rw [if_neg (by decide), k_28_13]
  simp only [Hcl, p1, p2, p3, p4, HF1, HF2, gd_t, decide_true, Bool.and_self, HQ, HZ, ts, show ins 2 3 = some 1 from rfl, Bool.or_true, k_28_23]
theorem c28_5 {b : AH} (hb : CB b) {d : DS} (hw : DW d) (c : CS) (ha : AR c) {s : Nat} (hs : s < c.K) (hsd : d.sid (d.sa (s + 1)) = s + 1) (ts : tg b (d.sa (s + 1)) = 5) : XM L xs 28 [.ref 1, .int (nI s)] (cl b d c) = some (cl b d c, some (.ref 0)) := by
  obtain ⟨p1, p2, p3, p4⟩ := id hb
  have s0 : ¬ d.sa (s + 1) = 0 := fun e => Nat.succ_ne_zero s ((sa0 hw hsd).mp e)
  rw [en_28, k_28_0]
  simp only [Hcl, p1, p2, p3, p4, HF1, HF2, gd_t, decide_true, Bool.and_self, HQ, HZ, cc_0_30_1, c25_t L xs hb d c ha hs, bR_s, s0, if_false, ts, show ins 2 5 = some 0 from rfl, or_true, true_or, if_true]
  rw [if_pos (by decide), k_28_22, k_28_23]
theorem c28_6 {b : AH} (hb : CB b) {d : DS} (hw : DW d) (c : CS) (ha : AR c) {s : Nat} (hs : s < c.K) (hsd : d.sid (d.sa (s + 1)) = s + 1) (ts : tg b (d.sa (s + 1)) = 6) : XM L xs 28 [.ref 1, .int (nI s)] (cl b d c) = some (cl b d c, some (.ref 0)) := by
  obtain ⟨p1, p2, p3, p4⟩ := id hb
  have s0 : ¬ d.sa (s + 1) = 0 := fun e => Nat.succ_ne_zero s ((sa0 hw hsd).mp e)
  rw [en_28, k_28_0]
  simp only [Hcl, p1, p2, p3, p4, HF1, HF2, gd_t, decide_true, Bool.and_self, HQ, HZ, cc_0_30_1, c25_t L xs hb d c ha hs, bR_s, s0, if_false, ts, show ins 2 6 = some 0 from rfl, or_true, true_or, if_true]
  rw [if_pos (by decide), k_28_22, k_28_23]
theorem c28_7 {b : AH} (hb : CB b) {d : DS} (hw : DW d) (c : CS) (ha : AR c) {s : Nat} (hs : s < c.K) (hsd : d.sid (d.sa (s + 1)) = s + 1) (ts : tg b (d.sa (s + 1)) = 7) : XM L xs 28 [.ref 1, .int (nI s)] (cl b d c) = some (cl b d c, some (.ref 0)) := by
  obtain ⟨p1, p2, p3, p4⟩ := id hb
  have s0 : ¬ d.sa (s + 1) = 0 := fun e => Nat.succ_ne_zero s ((sa0 hw hsd).mp e)
  rw [en_28, k_28_0]
  simp only [Hcl, p1, p2, p3, p4, HF1, HF2, gd_t, decide_true, Bool.and_self, HQ, HZ, cc_0_30_1, c25_t L xs hb d c ha hs, bR_s, s0, if_false, ts, show ins 2 7 = some 0 from rfl, or_true, true_or, if_true]
  rw [if_pos (by decide), k_28_22, k_28_23]
theorem c28_f {b : AH} (hb : CB b) {d : DS} (hw : DW d) (c : CS) (ha : AR c) {i : Int32} (hi : i < 0 ∨ nI c.K ≤ i) : XM L xs 28 [.ref 1, .int i] (cl b d c) = some (cl b d c, some (.ref 0)) := by
  obtain ⟨p1, p2, p3, p4⟩ := id hb
  rw [en_28, k_28_0]
  simp only [Hcl, p1, p2, p3, p4, HF1, HF2, gd_t, decide_true, Bool.and_self, HQ, HZ, cc_0_30_1, c25_f L xs hb hw c ha hi, bR_s, if_true, k_28_22, k_28_23]
theorem c29_3 {b : AH} (hb : CB b) {d : DS} (hw : DW d) (c : CS) (ha : AR c) {s : Nat} (hs : s < c.K) (hsd : d.sid (d.sa (s + 1)) = s + 1) (ts : tg b (d.sa (s + 1)) = 3) : XM L xs 29 [.ref 1, .int (nI s)] (cl b d c) = some (cl b d c, some (.ref 0)) := by
  obtain ⟨p1, p2, p3, p4⟩ := id hb
  have s0 : ¬ d.sa (s + 1) = 0 := fun e => Nat.succ_ne_zero s ((sa0 hw hsd).mp e)
  rw [en_29, k_29_0]
  simp only [Hcl, p1, p2, p3, p4, HF1, HF2, gd_t, decide_true, Bool.and_self, HQ, HZ, cc_0_30_1, c25_t L xs hb d c ha hs, bR_s, s0, if_false, ts, show ins 5 3 = some 0 from rfl, or_true, true_or, if_true]
  rw [if_pos (by decide), k_29_22, k_29_23]
theorem c29_5 {b : AH} (hb : CB b) {d : DS} (hw : DW d) (c : CS) (ha : AR c) {s : Nat} (hs : s < c.K) (hsd : d.sid (d.sa (s + 1)) = s + 1) (ts : tg b (d.sa (s + 1)) = 5) : XM L xs 29 [.ref 1, .int (nI s)] (cl b d c) = some (cl b d c, some (.ref 0)) := by
  obtain ⟨p1, p2, p3, p4⟩ := id hb
  have s0 : ¬ d.sa (s + 1) = 0 := fun e => Nat.succ_ne_zero s ((sa0 hw hsd).mp e)
  rw [en_29, k_29_0]
  simp only [Hcl, p1, p2, p3, p4, HF1, HF2, gd_t, decide_true, Bool.and_self, HQ, HZ, cc_0_30_1, c25_t L xs hb d c ha hs, bR_s, s0, if_false, ts, show ins 5 5 = some 0 from rfl, or_true, true_or, if_true]
  rw [if_pos (by decide), k_29_22, k_29_23]
theorem c29_6 {b : AH} (hb : CB b) {d : DS} (hw : DW d) (c : CS) (ha : AR c) {s : Nat} (hs : s < c.K) (hsd : d.sid (d.sa (s + 1)) = s + 1) (ts : tg b (d.sa (s + 1)) = 6) : XM L xs 29 [.ref 1, .int (nI s)] (cl b d c) = some (cl b d c, some (.ref (d.sa (s + 1)))) := by
  obtain ⟨p1, p2, p3, p4⟩ := id hb
  have s0 : ¬ d.sa (s + 1) = 0 := fun e => Nat.succ_ne_zero s ((sa0 hw hsd).mp e)
  rw [en_29, k_29_0]
  simp only [Hcl, p1, p2, p3, p4, HF1, HF2, gd_t, decide_true, Bool.and_self, HQ, HZ, cc_0_30_1, c25_t L xs hb d c ha hs, bR_s, s0, if_false, ts, show ins 5 6 = some 1 from rfl, or_true, true_or, if_true]
  rw [if_neg (by decide), k_29_13]
  simp only [Hcl, p1, p2, p3, p4, HF1, HF2, gd_t, decide_true, Bool.and_self, HQ, HZ, ts, show ins 5 6 = some 1 from rfl, Bool.or_true, k_29_23]
theorem c29_7 {b : AH} (hb : CB b) {d : DS} (hw : DW d) (c : CS) (ha : AR c) {s : Nat} (hs : s < c.K) (hsd : d.sid (d.sa (s + 1)) = s + 1) (ts : tg b (d.sa (s + 1)) = 7) : XM L xs 29 [.ref 1, .int (nI s)] (cl b d c) = some (cl b d c, some (.ref 0)) := by
  obtain ⟨p1, p2, p3, p4⟩ := id hb
  have s0 : ¬ d.sa (s + 1) = 0 := fun e => Nat.succ_ne_zero s ((sa0 hw hsd).mp e)
  rw [en_29, k_29_0]
  simp only [Hcl, p1, p2, p3, p4, HF1, HF2, gd_t, decide_true, Bool.and_self, HQ, HZ, cc_0_30_1, c25_t L xs hb d c ha hs, bR_s, s0, if_false, ts, show ins 5 7 = some 0 from rfl, or_true, true_or, if_true]
  rw [if_pos (by decide), k_29_22, k_29_23]
theorem c29_f {b : AH} (hb : CB b) {d : DS} (hw : DW d) (c : CS) (ha : AR c) {i : Int32} (hi : i < 0 ∨ nI c.K ≤ i) : XM L xs 29 [.ref 1, .int i] (cl b d c) = some (cl b d c, some (.ref 0)) := by
  obtain ⟨p1, p2, p3, p4⟩ := id hb
  rw [en_29, k_29_0]
  simp only [Hcl, p1, p2, p3, p4, HF1, HF2, gd_t, decide_true, Bool.and_self, HQ, HZ, cc_0_30_1, c25_f L xs hb hw c ha hi, bR_s, if_true, k_29_22, k_29_23]
theorem c30_t {b : AH} (hb : CB b) {d : DS} (hw : DW d) (c : CS) (ha : AR c) {s : Nat} (hs : s < c.K) (hsd : d.sid (d.sa (s + 1)) = s + 1) : XM L xs 30 [.ref 1, .int (nI s)] (cl b d c) = some (cl b d c, some (.int (-2))) := by
  obtain ⟨p1, p2, p3, p4⟩ := id hb
  have s0 : ¬ d.sa (s + 1) = 0 := fun e => Nat.succ_ne_zero s ((sa0 hw hsd).mp e)
  rw [en_30, k_30_0]
  simp only [Hcl, p1, p2, p3, p4, HF1, HF2, gd_t, decide_true, Bool.and_self, HQ, HZ, cc_0_30_1, c25_t L xs hb d c ha hs, bR_s, s0, if_false, k_30_12, k_30_14]
theorem c30_f {b : AH} (hb : CB b) {d : DS} (hw : DW d) (c : CS) (ha : AR c) {i : Int32} (hi : i < 0 ∨ nI c.K ≤ i) : XM L xs 30 [.ref 1, .int i] (cl b d c) = some (cl b d c, some (.int (-1))) := by
  obtain ⟨p1, p2, p3, p4⟩ := id hb
  rw [en_30, k_30_0]
  simp only [Hcl, p1, p2, p3, p4, HF1, HF2, gd_t, decide_true, Bool.and_self, HQ, HZ, cc_0_30_1, c25_f L xs hb hw c ha hi, bR_s, if_true, k_30_8, k_30_14]
theorem c31_f {b : AH} (hb : CB b) {d : DS} (hw : DW d) (c : CS) (ha : AR c) (i : Int32) {j : Int32} (hj : j < 0 ∨ nI c.K ≤ j) : XM L xs 31 [.ref 1, .int i, .int j] (cl b d c) = some (cl b d c, some (.int (-1))) := by
  obtain ⟨p1, p2, p3, p4⟩ := id hb
  rw [en_31, k_31_0]
  simp only [Hcl, p1, p2, p3, p4, HF1, HF2, gd_t, decide_true, Bool.and_self, HQ, HZ, cc_0_30_1, c25_f L xs hb hw c ha hj, bR_s, if_true, k_31_8, k_31_17]
theorem c31_t {b : AH} (hb : CB b) {d : DS} (hw : DW d) (c : CS) (ha : AR c) (i : Int32) {t : Nat} (ht : t < c.K) (htd : d.sid (d.sa (t + 1)) = t + 1) {r : Int32} (h30 : XM L xs 30 [.ref 1, .int i] (cl b d c) = some (cl b d c, some (.int r))) : XM L xs 31 [.ref 1, .int i, .int (nI t)] (cl b d c) = some (cl b d c, some (.int r)) := by
  obtain ⟨p1, p2, p3, p4⟩ := id hb
  have s0 : ¬ d.sa (t + 1) = 0 := fun e => Nat.succ_ne_zero t ((sa0 hw htd).mp e)
  rw [en_31, k_31_0]
  simp only [Hcl, p1, p2, p3, p4, HF1, HF2, gd_t, decide_true, Bool.and_self, HQ, HZ, cc_0_30_1, c25_t L xs hb d c ha ht, bR_s, s0, if_false, k_31_12]
  simp only [Hcl, p1, p2, p3, p4, HF1, HF2, gd_t, decide_true, Bool.and_self, HQ, HZ, cc_0_47_1, h30, bI_s, k_31_17]
theorem c34 {b : AH} (hb : CB b) (d : DS) (c : CS) (hE : c.E ≤ 20000) (hN : c.N ≤ 20000) : XM L xs 34 [.ref 1] (cl b d c) = some (cl b d c, some (.int (bI1 (decide (c.E = 20000 ∨ c.N = 20000))))) := by
  obtain ⟨p1, p2, p3, p4⟩ := id hb
  have c20 : (20000 : Int32) = nI 20000 := by decide +kernel
  rw [en_34, k_34_0]
  simp only [Hcl, p1, p2, p3, p4, HF1, HF2, gd_t, decide_true, Bool.and_self, HQ, HZ, c20, (nI_iff (show 20000 < 2 ^ 31 by decide) (show c.E < 2 ^ 31 by omega)).1]
  by_cases e : 20000 ≤ c.E
  · rw [if_pos e, k_34_20, k_34_25, show decide (c.E = 20000 ∨ c.N = 20000) = true from decide_eq_true (Or.inl (by omega))]; rfl
  · rw [if_neg e, k_34_10]
    simp only [Hcl, p1, p2, p3, p4, HF1, HF2, gd_t, decide_true, Bool.and_self, HQ, HZ, cc_0_51_2, c116 L xs hb d c hN, bI_s]
    by_cases n : c.N = 20000
    · rw [decide_eq_true n, if_neg (by decide), k_34_20, k_34_25, show decide (c.E = 20000 ∨ c.N = 20000) = true from decide_eq_true (Or.inr n)]; rfl
    · rw [decide_eq_false n, if_pos (by decide), k_34_24, k_34_25, show decide (c.E = 20000 ∨ c.N = 20000) = false from decide_eq_false (fun g => by rcases g with g | g; omega; exact n g)]; rfl
def cRem (c : CS) (n : Nat) : CS := if n = 0 then c else (c.sfk (c.ck n)).sfv (if c.f1 n = 0 then 0 else c.vn (c.f1 n))
theorem c37 {b : AH} (hb : CB b) {d : DS} (hw : DW d) (tN : ∀ x, d.nid x ≠ 0 → tg b x = 4) (tI : ∀ x, d.iid x ≠ 0 → tg b x = 8) (c : CS) {n : Nat} (hdn : d.nid (d.ph n) = n) (hf : n ≠ 0 → d.iid (d.vh (c.f1 n)) = c.f1 n) : XM L xs 37 [.ref 1, .ref (d.ph n)] (cl b d c) = some (cl b d (cRem c n), none) := by
  obtain ⟨p1, p2, p3, p4⟩ := id hb
  rw [en_37, k_37_0]
  simp only [ph0 hw hdn]
  unfold cRem
  by_cases n0 : n = 0
  · rw [if_pos n0, if_pos n0, k_37_20]
  · have tn : tg b (d.ph n) = 4 := tN _ (by rw [hdn]; exact n0)
    rw [if_neg n0, if_neg n0, k_37_4]
    simp only [Hcl, p1, p2, p3, p4, HF1, HF2, gd_t, decide_true, Bool.and_self, HQ, HZ, tn, HF4, Rn d hdn n0, cl_fk]
    rw [k_37_12]
    simp only [Hcl, p1, p2, p3, p4, HF1, HF2, gd_t, decide_true, Bool.and_self, HQ, HZ, dN hw hdn n0, tn, cc_0_233_4, c133 L xs hw tN tI (c.sfk (c.ck n)) hdn n0 (show d.iid (d.vh (c.f1 n)) = c.f1 n from hf n0), bI_s, cl_fv, k_37_20, Ufk]
theorem c38 {b : AH} {d : DS} (hw : DW d) (c : CS) {s t : Nat} (hsd : d.sid (d.sa (s + 1)) = s + 1) (htd : d.sid (d.sa (t + 1)) = t + 1) (ts : hasF (tg b (d.sa (s + 1))) 15 = true) (tt : hasF (tg b (d.sa (t + 1))) 15 = true) : XM L xs 38 [.ref (d.sa (s + 1)), .ref (d.sa (t + 1))] (cl b d c) = some (cl b d (c.spu (u1 (u1 c.pu s (c.pu s + c.pu t)) t 0)), none) := by
  rw [en_38, k_38_0]
  simp only [Hcl, gd_t, decide_true, Bool.and_self, HQ, HZ, ts, tt, Rs d hsd, Rs d htd, cl_pu b hw _ hsd]
  rw [k_38_13]
  simp only [Hcl, gd_t, decide_true, Bool.and_self, HQ, HZ, tt, cl_pu b hw _ htd, Upu, k_38_18]
  rfl
def cCls (c : CS) (s : Nat) (i price taken pot : Int32) : CS := cBk (c.spu (u1 c.pu s (c.pu s + (price - taken)))) i price taken pot
theorem c39 {b : AH} (hb : CB b) {d : DS} (hw : DW d) (c : CS) {s : Nat} (hsd : d.sid (d.sa (s + 1)) = s + 1) (h15 : hasF (tg b (d.sa (s + 1))) 15 = true) (h16 : hasF (tg b (d.sa (s + 1))) 16 = true) (hN : c.N < 20000) (i price before pot : Int32)
    (hp : cfD (XM L xs) 0 190 (tg b (d.sa (s + 1))) [.ref (d.sa (s + 1))] (cl b d (c.spu (u1 c.pu s (c.pu s + (price - (c.st s - before)))))) = some (cl b d (c.spu (u1 c.pu s (c.pu s + (price - (c.st s - before))))), some (.int pot))) :
    XM L xs 39 [.ref 1, .int i, .ref (d.sa (s + 1)), .int price, .int before] (cl b d c) = some (cl b d (cCls c s i price (c.st s - before) pot), none) := by
  obtain ⟨p1, p2, p3, p4⟩ := id hb
  rw [en_39, k_39_0]
  simp only [Hcl, p1, p2, p3, p4, HF1, HF2, gd_t, decide_true, Bool.and_self, HQ, HZ, h15, h16, Rs d hsd, cl_pu b hw _ hsd]
  rw [k_39_22]
  simp only [Hcl, p1, p2, p3, p4, HF1, HF2, gd_t, decide_true, Bool.and_self, HQ, HZ, dS hw hsd, hp, bI_s, cc_0_266_2, c117 L xs hb d (c.spu (u1 c.pu s (c.pu s + (price - (c.st s - before))))) hN, bV_s]
  rfl
end Csa
