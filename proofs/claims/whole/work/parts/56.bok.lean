-- the ledger, on both sides
def CB (b : AH) : Prop := tg b 1 = 1 ∧ (fR b 0 1 = 2 ∧ fR b 1 1 = 3 ∧ fR b 7 3 = 4 ∧ fR b 8 3 = 5 ∧ fR b 9 3 = 6 ∧ fR b 10 3 = 7) ∧ (tg b 2 = 22 ∧ tg b 3 = 2 ∧ tg b 4 = 20 ∧ tg b 5 = 20 ∧ tg b 6 = 20 ∧ tg b 7 = 20) ∧ (ln b 2 = 40 ∧ ln b 4 = 20000 ∧ ln b 5 = 20000 ∧ ln b 6 = 20000 ∧ ln b 7 = 20000)
theorem nn_of {i : Int32} (h : ¬ i < 0) : ∃ j, j < 2 ^ 31 ∧ i = nI j := by
  have h1 : (0 : Int) ≤ i.toInt := by
    have := Int32.not_lt.mp h
    rw [Int32.le_iff_toInt_le] at this
    exact this
  have h2 : i.toInt < 2 ^ 31 := Int32.toInt_lt i
  refine ⟨i.toInt.toNat, by omega, ?_⟩
  apply Int32.toInt_inj.mp
  rw [nI_toInt (by omega)]
  omega
def ldg (N : Nat) (rO rP rT rQ : Nat → Int32) (i w : Int32) : Int32 := if i < 0 ∨ nI N ≤ i then -1 else if w = 0 then rO i.toNatClampNeg else if w = 1 then rP i.toNatClampNeg else if w = 2 then rT i.toNatClampNeg else if w = 3 then rQ i.toNatClampNeg else -1
theorem nI_iff {a b : Nat} (ha : a < 2 ^ 31) (hb : b < 2 ^ 31) : (nI a ≤ nI b ↔ a ≤ b) ∧ (nI a < nI b ↔ a < b) := by
  refine ⟨⟨fun q => ?_, fun q => nI_le q hb⟩, ⟨fun q => ?_, fun q => nI_lt q hb⟩⟩
  · rcases Nat.lt_or_ge b a with g | g
    · exact absurd q (nI_ge g ha)
    · exact g
  · rcases Nat.lt_or_ge a b with g | g
    · exact g
    · exact absurd q (nI_nlt g ha)
def cBk (c : CS) (s p t q : Int32) : CS := ((((c.srO (u1 c.rO c.N s)).srP (u1 c.rP c.N p)).srT (u1 c.rT c.N t)).srQ (u1 c.rQ c.N q)).sN (c.N + 1)
def cum (t : Nat → Nat) : Nat → Nat
  | 0 => 0
  | n + 1 => cum t n + t n
theorem cum_mono (t : Nat → Nat) : ∀ {a b : Nat}, a ≤ b → cum t a ≤ cum t b := by
  intro a b h
  induction h with
  | refl => exact Nat.le_refl _
  | step _ ih => exact Nat.le_trans ih (Nat.le_add_right _ _)
theorem cum_le (t : Nat → Nat) {B : Nat} : ∀ (n : Nat), (∀ i, i < n → t i ≤ B) → cum t n ≤ n * B := by
  intro n
  induction n with
  | zero => intro _; exact Nat.zero_le _
  | succ n ih =>
    intro h
    have h1 := ih (fun i hi => h i (by omega))
    have h2 := h n (by omega)
    show cum t n + t n ≤ (n + 1) * B
    rw [Nat.succ_mul]
    omega
def spF (t : Nat → Nat) (n : Nat) : Nat → Nat → Nat → Nat → Nat
  | 0, _, _, at' => at'
  | j + 1, i, M, at' => if cum t (i + 1) - cum t (i + 1 - n) ≤ M then spF t n j (i + 1) M at' else spF t n j (i + 1) (cum t (i + 1) - cum t (i + 1 - n)) (i - n + 1)
section Bok
variable (L : Nat) (xs : Nat → Int32)
theorem c116 {b : AH} (hb : CB b) (d : DS) (c : CS) (hN : c.N ≤ 20000) : XM L xs 116 [.ref 3] (cl b d c) = some (cl b d c, some (.int (bI1 (decide (c.N = 20000))))) := by
  obtain ⟨p1, p2, p3, p4⟩ := id hb
  have c20 : (20000 : Int32) = nI 20000 := by decide +kernel
  rw [en_116, k_116_0]
  simp only [Hcl, p1, p2, p3, p4, HF1, HF2, gd_t, decide_true, Bool.and_self, HQ, HZ, c20, (nI_iff (show c.N < 2 ^ 31 by omega) (show 20000 < 2 ^ 31 by decide)).2]
  by_cases q : c.N = 20000
  · rw [if_neg (by omega), k_116_10, k_116_15, decide_eq_true q]; rfl
  · rw [if_pos (by omega), k_116_14, k_116_15, decide_eq_false q]; rfl
theorem c117 {b : AH} (hb : CB b) (d : DS) (c : CS) (hN : c.N < 20000) (s p t q : Int32) : XM L xs 117 [.ref 3, .int s, .int p, .int t, .int q] (cl b d c) = some (cl b d (cBk c s p t q), none) := by
  obtain ⟨p1, p2, p3, p4⟩ := id hb
  rw [en_117, k_117_0]
  simp only [Hcl, p1, p2, p3, p4, HF1, HF2, gd_t, decide_true, Bool.and_self, HQ, HZ, cc_1_28_2, c116 L xs hb d c (by omega), bI_s, show ¬ c.N = 20000 from by omega, decide_false]
  rw [if_pos (by decide), k_117_8]
  simp only [Hcl, p1, p2, p3, p4, HF1, HF2, gd_t, decide_true, Bool.and_self, HQ, HZ, inb_nI hN (by decide), nI_clamp (show c.N < 2 ^ 31 by omega), cl_rO]
  rw [k_117_18]
  simp only [Hcl, p1, p2, p3, p4, HF1, HF2, gd_t, decide_true, Bool.and_self, HQ, HZ, UrO, inb_nI hN (by decide), nI_clamp (show c.N < 2 ^ 31 by omega), cl_rP]
  rw [k_117_28]
  simp only [Hcl, p1, p2, p3, p4, HF1, HF2, gd_t, decide_true, Bool.and_self, HQ, HZ, UrO, UrP, inb_nI hN (by decide), nI_clamp (show c.N < 2 ^ 31 by omega), cl_rT]
  rw [k_117_38]
  simp only [Hcl, p1, p2, p3, p4, HF1, HF2, gd_t, decide_true, Bool.and_self, HQ, HZ, UrO, UrP, UrT, inb_nI hN (by decide), nI_clamp (show c.N < 2 ^ 31 by omega), cl_rQ]
  rw [k_117_49]
  simp only [Hcl, p1, p2, p3, p4, HF1, HF2, gd_t, decide_true, Bool.and_self, HQ, HZ, UrO, UrP, UrT, UrQ, nI_1, cl_N, k_117_59]
  rfl
theorem c118 {b : AH} (hb : CB b) (d : DS) (c : CS) (hN : c.N ≤ 20000) (i w : Int32) : XM L xs 118 [.ref 3, .int i, .int w] (cl b d c) = some (cl b d c, some (.int (ldg c.N c.rO c.rP c.rT c.rQ i w))) := by
  obtain ⟨p1, p2, p3, p4⟩ := id hb
  rw [en_118, k_118_0]
  unfold ldg
  by_cases i0 : i < 0
  · rw [if_pos i0, if_pos (Or.inl i0), k_118_12]
  · obtain ⟨j, j1, rfl⟩ := nn_of i0
    rw [if_neg i0, k_118_4]
    simp only [Hcl, p1, p2, p3, p4, HF1, HF2, gd_t, decide_true, Bool.and_self, HQ, HZ, (nI_iff j1 (show c.N < 2 ^ 31 by omega)).2, (nI_iff (show c.N < 2 ^ 31 by omega) j1).1, i0, false_or]
    by_cases q : j < c.N
    · have hj : j < 20000 := by omega
      rw [if_pos q, if_neg (by omega), k_118_14]
      by_cases w0 : w = 0
      · subst w0
        rw [show swp 15 57 0 3 #[29, 36, 43, 50] 0 = 44 from by decide +kernel, k_118_44]
        simp only [Hcl, p1, p2, p3, p4, HF1, HF2, gd_t, decide_true, Bool.and_self, HQ, HZ, inb_nI hj (by decide), if_true]
      · rw [if_neg w0]
        by_cases w1 : w = 1
        · subst w1
          rw [show swp 15 57 0 3 #[29, 36, 43, 50] 1 = 51 from by decide +kernel, k_118_51]
          simp only [Hcl, p1, p2, p3, p4, HF1, HF2, gd_t, decide_true, Bool.and_self, HQ, HZ, inb_nI hj (by decide), if_true]
        · rw [if_neg w1]
          by_cases w2 : w = 2
          · subst w2
            rw [show swp 15 57 0 3 #[29, 36, 43, 50] 2 = 58 from by decide +kernel, k_118_58]
            simp only [Hcl, p1, p2, p3, p4, HF1, HF2, gd_t, decide_true, Bool.and_self, HQ, HZ, inb_nI hj (by decide), if_true]
          · rw [if_neg w2]
            by_cases w3 : w = 3
            · subst w3
              rw [show swp 15 57 0 3 #[29, 36, 43, 50] 3 = 65 from by decide +kernel, k_118_65]
              simp only [Hcl, p1, p2, p3, p4, HF1, HF2, gd_t, decide_true, Bool.and_self, HQ, HZ, inb_nI hj (by decide), if_true]
            · rw [if_neg w3]
              have e : swp 15 57 0 3 #[29, 36, 43, 50] w = 72 := by
                unfold swp
                rw [if_pos]
                · decide +kernel
                · rcases Int.lt_or_le w.toInt 0 with g | g
                  · exact Or.inl g
                  · refine Or.inr ?_
                    rcases Int.lt_or_le 3 w.toInt with g2 | g2
                    · exact g2
                    · exfalso
                      have key : ∀ k : Int32, w.toInt = k.toInt → w = k := fun k hk => Int32.toInt_inj.mp hk
                      have : w.toInt = 0 ∨ w.toInt = 1 ∨ w.toInt = 2 ∨ w.toInt = 3 := by omega
                      rcases this with g3 | g3 | g3 | g3
                      · exact w0 (key 0 g3)
                      · exact w1 (key 1 g3)
                      · exact w2 (key 2 g3)
                      · exact w3 (key 3 g3)
              rw [e, k_118_72]
    · rw [if_neg q, if_pos (by omega), k_118_12]
theorem m_112 {h : AH} (hb : MB h) (m : MS) (hN : m.N ≤ 20000) (i w : Int32) : XM L xs 112 [.ref 8, .int i, .int w] (ml h m) = some (ml h m, some (.int (ldg m.N m.rO m.rP m.rT m.rQ i w))) := by
  obtain ⟨b1, b2, b3, b4⟩ := id hb
  rw [en_112, k_112_0]
  unfold ldg
  by_cases i0 : i < 0
  · rw [if_pos i0, if_pos (Or.inl i0), k_112_21]
  · obtain ⟨j, j1, rfl⟩ := nn_of i0
    rw [if_neg i0, k_112_4]
    simp only [Hml, b1, b2, b3, b4, HF10, gd_t, decide_true, Bool.and_self, HQ, HZ, (nI_iff (show m.N < 2 ^ 31 by omega) j1).1, i0, false_or]
    by_cases q : j < m.N
    · have hj : j < 20000 := by omega
      rw [if_neg (by omega), if_neg (by omega), k_112_12]
      by_cases wn : w < 0
      · rw [if_pos wn, k_112_21]
        have n0 : ¬ w = 0 := fun e => by rw [e] at wn; exact absurd wn (by decide)
        have n1 : ¬ w = 1 := fun e => by rw [e] at wn; exact absurd wn (by decide)
        have n2 : ¬ w = 2 := fun e => by rw [e] at wn; exact absurd wn (by decide)
        have n3 : ¬ w = 3 := fun e => by rw [e] at wn; exact absurd wn (by decide)
        rw [if_neg n0, if_neg n1, if_neg n2, if_neg n3]
      · obtain ⟨v, v1, rfl⟩ := nn_of wn
        have c0 : (0 : Int32) = nI 0 := nI_0.symm
        have c3 : (3 : Int32) = nI 3 := by decide
        have e0 : (nI v = (0 : Int32)) = (v = 0) := propext (by rw [c0]; exact nI_eq v1 (by decide))
        have e1 : (nI v = (1 : Int32)) = (v = 1) := propext (by rw [nI_1c]; exact nI_eq v1 (by decide))
        have e2 : (nI v = (2 : Int32)) = (v = 2) := propext (by rw [nI_2c]; exact nI_eq v1 (by decide))
        have e3 : (nI v = (3 : Int32)) = (v = 3) := propext (by rw [c3]; exact nI_eq v1 (by decide))
        have l3 : (nI v ≤ (3 : Int32)) = (v ≤ 3) := propext (by rw [c3]; exact (nI_iff v1 (by decide)).1)
        rw [if_neg wn, k_112_16]
        simp only [e0, e1, e2, e3, l3, k_112_23, k_112_36, k_112_50]
        by_cases v3 : v ≤ 3
        · rw [if_pos v3]
          by_cases w0 : v = 0
          · rw [if_neg (fun g => g w0), if_pos w0, k_112_27]
            simp only [Hml, b1, b2, b3, b4, HF10, gd_t, decide_true, Bool.and_self, HQ, HZ, inb_nI hj (by decide), k_112_70]
          · rw [if_pos w0, if_neg w0]
            by_cases w1 : v = 1
            · rw [if_neg (fun g => g w1), if_pos w1, k_112_41]
              simp only [Hml, b1, b2, b3, b4, HF10, gd_t, decide_true, Bool.and_self, HQ, HZ, inb_nI hj (by decide), k_112_70]
            · rw [if_pos w1, if_neg w1]
              by_cases w2 : v = 2
              · rw [if_neg (fun g => g w2), if_pos w2, k_112_55]
                simp only [Hml, b1, b2, b3, b4, HF10, gd_t, decide_true, Bool.and_self, HQ, HZ, inb_nI hj (by decide), k_112_70]
              · rw [if_pos w2, if_neg w2, if_pos (by omega), k_112_64]
                simp only [Hml, b1, b2, b3, b4, HF10, gd_t, decide_true, Bool.and_self, HQ, HZ, inb_nI hj (by decide), k_112_70]
        · rw [if_neg v3, k_112_21, if_neg (by omega), if_neg (by omega), if_neg (by omega), if_neg (by omega)]
    · rw [if_pos (by omega), if_pos (by omega), k_112_21]
def cnt (K E N : Nat) (w : Int32) : Int32 := if w = 0 then nI K else if w = 1 then nI E else if w = 2 then nI N else -1
theorem m_114 {h : AH} (hb : MB h) (m : MS) (w : Int32) : XM L xs 114 [.ref 8, .int w] (ml h m) = some (ml h m, some (.int (cnt m.K m.E m.N w))) := by
  obtain ⟨b1, b2, b3, b4⟩ := id hb
  rw [en_114, k_114_0]
  unfold cnt
  by_cases w0 : w = 0
  · rw [if_neg (fun g => g w0), if_pos w0, k_114_4]
    simp only [Hml, b1, b2, b3, b4, HF10, gd_t, decide_true, Bool.and_self, HQ, HZ, k_114_36]
  · rw [if_pos w0, if_neg w0, k_114_11]
    by_cases w1 : w = 1
    · rw [if_neg (fun g => g w1), if_pos w1, k_114_16]
      simp only [Hml, b1, b2, b3, b4, HF10, gd_t, decide_true, Bool.and_self, HQ, HZ, k_114_36]
    · rw [if_pos w1, if_neg w1, k_114_23]
      by_cases w2 : w = 2
      · rw [if_neg (fun g => g w2), if_pos w2, k_114_28]
        simp only [Hml, b1, b2, b3, b4, HF10, gd_t, decide_true, Bool.and_self, HQ, HZ, k_114_36]
      · rw [if_pos w2, if_neg w2, k_114_35, k_114_36]
/-- spread -/
def spr (t : Nat → Nat) (N : Nat) (n : Int32) : Int32 := if n < 1 ∨ nI N < n then -1 else nI (spF t n.toNatClampNeg (N - n.toNatClampNeg) n.toNatClampNeg (cum t n.toNatClampNeg) 0)
theorem c119 {b : AH} (hb : CB b) (d : DS) (c : CS) (hN : c.N ≤ 20000) {t : Nat → Nat} (ht : ∀ i, i < c.N → c.rT i = nI (t i) ∧ t i ≤ 100000) (n : Int32) : XM L xs 119 [.ref 3, .int n] (cl b d c) = some (cl b d c, some (.int (spr t c.N n))) := by
  obtain ⟨p1, p2, p3, p4⟩ := id hb
  have big : ∀ i, i ≤ c.N → cum t i < 2 ^ 31 := fun i hi => by
    have := cum_le t (B := 100000) i (fun j hj => (ht j (by omega)).2)
    have : i * 100000 ≤ 20000 * 100000 := Nat.mul_le_mul_right _ (by omega)
    omega
  rw [en_119, k_119_0]
  unfold spr
  by_cases n1 : n < 1
  · rw [if_pos n1, if_pos (Or.inl n1), k_119_13]
  · have n0 : ¬ n < 0 := fun g => n1 (by rw [Int32.lt_iff_toInt_lt] at *; have : (0 : Int32).toInt = 0 := rfl; have : (1 : Int32).toInt = 1 := rfl; omega)
    obtain ⟨v, v1, rfl⟩ := nn_of n0
    have v2 : 1 ≤ v := by
      rcases Nat.eq_zero_or_pos v with g | g
      · exfalso; rw [g] at n1; exact n1 (by decide)
      · exact g
    rw [if_neg n1, k_119_5]
    simp only [Hcl, p1, p2, p3, p4, HF1, HF2, gd_t, decide_true, Bool.and_self, HQ, HZ, (nI_iff v1 (show c.N < 2 ^ 31 by omega)).1, (nI_iff (show c.N < 2 ^ 31 by omega) v1).2, n1, false_or, nI_clamp v1]
    by_cases q : v ≤ c.N
    · rw [if_pos q, if_neg (by omega), k_119_15]
      have lp1 : ∀ (j i : Nat) (l4 l5 : Value), i + j = v → X L xs 119 19 [.ref 3, .int (nI v), .int (nI (cum t i)), .int (nI i), l4, l5] [] (cl b d c) = X L xs 119 39 [.ref 3, .int (nI v), .int (nI (cum t v)), .int (nI v), l4, l5] [] (cl b d c) := by
        intro j
        induction j with
        | zero =>
          intro i l4 l5 hi
          have : i = v := by omega
          subst this
          rw [k_119_19, if_pos (nI_le (Nat.le_refl _) v1)]
        | succ j ih =>
          intro i l4 l5 hi
          rw [k_119_19, if_neg (nI_ge (by omega) v1), k_119_24]
          simp only [Hcl, p1, p2, p3, p4, HF1, HF2, gd_t, decide_true, Bool.and_self, HQ, HZ, inb_nI (show i < 20000 by omega) (by decide), nI_clamp (show i < 2 ^ 31 by omega), (ht i (by omega)).1, nI_add, nI_1]
          exact ih (i + 1) l4 l5 (by omega)
      have lp2 : ∀ (j i M a : Nat), i + j = c.N → v ≤ i → M < 2 ^ 31 → X L xs 119 47 [.ref 3, .int (nI v), .int (nI (cum t i - cum t (i - v))), .int (nI M), .int (nI a), .int (nI i)] [] (cl b d c) = some (cl b d c, some (.int (nI (spF t v j i M a)))) := by
        intro j
        induction j with
        | zero =>
          intro i M a hi hv hM
          rw [k_119_47]
          simp only [Hcl, p1, p2, p3, p4, HF1, HF2, gd_t, decide_true, Bool.and_self, HQ, HZ]
          rw [if_pos (nI_le (by omega) (by omega)), k_119_97]
          rfl
        | succ j ih =>
          intro i M a hi hv hM
          have hd : nI i - nI v = nI (i - v) := pk_sub hv
          have e1 := (ht i (by omega)).1
          have e2 := (ht (i - v) (by omega)).1
          have mo : cum t (i - v + 1) ≤ cum t i := cum_mono t (by omega)
          have mo' : cum t (i - v) + t (i - v) ≤ cum t i := mo
          have es : nI (cum t i - cum t (i - v)) + (nI (t i) - nI (t (i - v))) = nI (cum t (i + 1) - cum t (i + 1 - v)) := by
            rw [show i + 1 - v = i - v + 1 from by omega]
            show _ = nI (cum t i + t i - (cum t (i - v) + t (i - v)))
            rw [← pk_sub (show cum t (i - v) + t (i - v) ≤ cum t i + t i from by omega), ← pk_sub (show cum t (i - v) ≤ cum t i from by omega), ← nI_add, ← nI_add]
            simp only [Int32.sub_eq_add_neg, Int32.neg_add]
            rw [Int32.add_assoc, Int32.add_assoc]
            congr 1
            rw [← Int32.add_assoc, Int32.add_comm (-nI (cum t (i - v))), Int32.add_assoc]
          have bS : cum t (i + 1) - cum t (i + 1 - v) < 2 ^ 31 := by have := big (i + 1) (by omega); omega
          rw [k_119_47]
          simp only [Hcl, p1, p2, p3, p4, HF1, HF2, gd_t, decide_true, Bool.and_self, HQ, HZ]
          rw [if_neg (nI_ge (by omega) (by omega)), k_119_56]
          simp only [Hcl, p1, p2, p3, p4, HF1, HF2, gd_t, decide_true, Bool.and_self, HQ, HZ, inb_nI (show i < 20000 by omega) (by decide), hd, inb_nI (show i - v < 20000 by omega) (by decide), nI_clamp (show i < 2 ^ 31 by omega), nI_clamp (show i - v < 2 ^ 31 by omega), e1, e2, es]
          unfold spF
          by_cases g : cum t (i + 1) - cum t (i + 1 - v) ≤ M
          · rw [if_pos (nI_le g hM), if_pos g, k_119_91, nI_1]
            exact ih (i + 1) M a (by omega) (by omega) hM
          · rw [if_neg (nI_ge (by omega) bS), if_neg g, k_119_81, k_119_91, hd, nI_1, nI_1]
            exact ih (i + 1) _ (i - v + 1) (by omega) (by omega) bS
      rw [show (0 : Int32) = nI 0 from nI_0.symm]
      rw [show nI 0 = nI (cum t 0) from rfl]
      have := lp1 v 0 .null .null (by omega)
      rw [show (.int (nI (cum t 0)) : Value) = .int (nI 0) from rfl] at this ⊢
      rw [this, k_119_39]
      have e := lp2 (c.N - v) v (cum t v) 0 (by omega) (Nat.le_refl _) (big v q)
      rw [Nat.sub_self, show cum t v - cum t 0 = cum t v from rfl, nI_0] at e
      rw [e]
    · rw [if_neg q, if_pos (by omega), k_119_13]
end Bok
