-- THE REFERENCE'S METHODS, small ones first, over its state
def mid (m : MS) : Nat := if m.fn = 0 then m.nm + 1 else m.fn
def mNd (m : MS) (n : Nat) (k : Int64) : MS := (((m.sky (u1 m.ky n k)).sP (u1 m.P.1 n 0, u1 m.P.2.1 n 0, u1 m.P.2.2 n 0)).sfV (u1 m.fV n 0)).slV (u1 m.lV n 0)
def mNew (m : MS) (k : Int64) : MS := mNd ((m.snm (if m.fn = 0 then m.nm + 1 else m.nm)).sfn (if m.fn = 0 then 0 else m.P.1 m.fn)) (mid m) k
def iid (m : MS) : Nat := if m.fi = 0 then m.im + 1 else m.fi
def mIt (m : MS) (n : Nat) (v : Int64) : MS := ((m.sit (u1 m.it n v)).snx (u1 m.nx n 0)).sE (m.E + 1)
def mItm (m : MS) (v : Int64) : MS := mIt ((m.sim (if m.fi = 0 then m.im + 1 else m.im)).sfi (if m.fi = 0 then 0 else m.nx m.fi)) (iid m) v
def mLetN (m : MS) (n : Nat) : MS := (m.sP (u1 m.P.1 n m.fn, m.P.2)).sfn n
def mLetI (m : MS) (n : Nat) : MS := ((m.snx (u1 m.nx n m.fi)).sfi n).sE (m.E - 1)
def mAdd (m : MS) (n : Nat) (v : Int64) : MS :=
  let m1 := mItm m v
  let m2 := if m1.fV n = 0 then m1.sfV (u1 m1.fV n (iid m)) else m1.snx (u1 m1.nx (m1.lV n) (iid m))
  m2.slV (u1 m2.lV n (iid m))
section Mth
variable (L : Nat) (xs : Nat → Int32)
theorem m_52 {h : AH} (hb : MB h) (m : MS) (k : Int64) (h1 : m.nm < 20002) (h2 : m.fn ≤ 20002) : XM L xs 52 [.ref 8, .long k] (ml h m) = some (ml h (mNew m k), some (.int (en (mid m)))) := by
  obtain ⟨b1, b2, b3, b4⟩ := id hb
  have key : ∀ (m : MS) (n : Nat) (l2 : Value), 1 ≤ n → n ≤ 20002 → X L xs 52 38 [.ref 8, .long k, l2, .int (en n)] [] (ml h m) = some (ml h (mNd m n k), some (.int (en n))) := by
    intro m n l2 n1 n2
    simp only [k_52_38, k_52_45, k_52_52, k_52_59, k_52_66, k_52_73, k_52_80, Hml, b1, b2, b3, b4, HF10, gd_t, decide_true, Bool.and_self, HQ, HZ, inb_en n1 n2 (by decide), cl_en n1 (by omega), ml_ky h _ n1, ml_Pl0 h _ n1, ml_Pr0 h _ n1, ml_Pu0 h _ n1, ml_fV0 h _ n1, ml_lV0 h _ n1]
    rfl
  rw [en_52, k_52_0]
  simp only [Hml, b1, b2, b3, b4, HF10, gd_t, decide_true, Bool.and_self, HQ, HZ]
  by_cases f0 : m.fn = 0
  · rw [f0, en_0, if_neg (by decide), k_52_10]
    simp only [Hml, b1, b2, b3, b4, HF10, gd_t, decide_true, Bool.and_self, HQ, HZ, nI_1, ml_nm, k_52_25]
    rw [← en_S, key _ _ _ (by omega) (by omega)]
    unfold mNew mid
    simp only [f0, if_true]
    rw [show (m.snm (m.nm + 1)).sfn 0 = m.snm (m.nm + 1) from by rw [← f0]; rfl]
  · rw [if_pos (fun q => f0 ((en_m1 (by omega)).mp q)), k_52_28]
    have f1 : 1 ≤ m.fn := by omega
    simp only [Hml, b1, b2, b3, b4, HF10, gd_t, decide_true, Bool.and_self, HQ, HZ, inb_en f1 h2 (by decide), cl_en f1 (by omega), show m.fn - 1 + 1 = m.fn from by omega, ml_fn]
    rw [key _ _ _ f1 h2]
    unfold mNew mid
    simp only [f0, if_false]
    rfl
theorem m_53 {h : AH} (hb : MB h) (m : MS) {n : Nat} (n1 : 1 ≤ n) (n2 : n ≤ 20002) : XM L xs 53 [.ref 8, .int (en n)] (ml h m) = some (ml h (mLetN m n), none) := by
  obtain ⟨b1, b2, b3, b4⟩ := id hb
  simp only [en_53, k_53_0, k_53_10, k_53_15, Hml, b1, b2, b3, b4, HF10, gd_t, decide_true, Bool.and_self, HQ, HZ, inb_en n1 n2 (by decide), cl_en n1 (by omega), ml_Pl h _ n1, ml_fn]
  rfl
theorem m_54 {h : AH} (hb : MB h) (m : MS) (v : Int64) (h1 : m.im < 20002) (h2 : m.fi ≤ 20002) : XM L xs 54 [.ref 8, .long v] (ml h m) = some (ml h (mItm m v), some (.int (en (iid m)))) := by
  obtain ⟨b1, b2, b3, b4⟩ := id hb
  have key : ∀ (m : MS) (n : Nat) (l2 : Value), 1 ≤ n → n ≤ 20002 → X L xs 54 38 [.ref 8, .long v, l2, .int (en n)] [] (ml h m) = some (ml h (mIt m n v), some (.int (en n))) := by
    intro m n l2 n1 n2
    simp only [k_54_38, k_54_45, k_54_52, k_54_62, Hml, b1, b2, b3, b4, HF10, gd_t, decide_true, Bool.and_self, HQ, HZ, inb_en n1 n2 (by decide), cl_en n1 (by omega), ml_it h _ n1, ml_nx0 h _ n1, nI_1, ml_E]
    rfl
  rw [en_54, k_54_0]
  simp only [Hml, b1, b2, b3, b4, HF10, gd_t, decide_true, Bool.and_self, HQ, HZ]
  by_cases f0 : m.fi = 0
  · rw [f0, en_0, if_neg (by decide), k_54_10]
    simp only [Hml, b1, b2, b3, b4, HF10, gd_t, decide_true, Bool.and_self, HQ, HZ, nI_1, ml_im, k_54_25]
    rw [← en_S, key _ _ _ (by omega) (by omega)]
    unfold mItm iid
    simp only [f0, if_true]
    rw [show (m.sim (m.im + 1)).sfi 0 = m.sim (m.im + 1) from by rw [← f0]; rfl]
  · rw [if_pos (fun q => f0 ((en_m1 (by omega)).mp q)), k_54_28]
    have f1 : 1 ≤ m.fi := by omega
    simp only [Hml, b1, b2, b3, b4, HF10, gd_t, decide_true, Bool.and_self, HQ, HZ, inb_en f1 h2 (by decide), cl_en f1 (by omega), show m.fi - 1 + 1 = m.fi from by omega, ml_fi]
    rw [key _ _ _ f1 h2]
    unfold mItm iid
    simp only [f0, if_false]
    rfl
theorem m_55 {h : AH} (hb : MB h) (m : MS) {n : Nat} (n1 : 1 ≤ n) (n2 : n ≤ 20002) (hE : 1 ≤ m.E) : XM L xs 55 [.ref 8, .int (en n)] (ml h m) = some (ml h (mLetI m n), none) := by
  obtain ⟨b1, b2, b3, b4⟩ := id hb
  simp only [en_55, k_55_0, k_55_10, k_55_15, k_55_25, Hml, b1, b2, b3, b4, HF10, gd_t, decide_true, Bool.and_self, HQ, HZ, inb_en n1 n2 (by decide), cl_en n1 (by omega), ml_nx h _ n1, ml_fi, Sfi, Snx]
  rw [show nI m.E - 1 = nI (m.E - 1) from pk_sub hE, ml_E]
  rfl
theorem m_56 {h : AH} (hb : MB h) (m : MS) {n : Nat} (n1 : 1 ≤ n) (n2 : n ≤ 20002) (v : Int32) (h1 : m.im < 20002) (h2 : m.fi ≤ 20002) (h3 : m.fV n ≤ 20002) (h4 : m.fV n ≠ 0 → 1 ≤ m.lV n ∧ m.lV n ≤ 20002) : XM L xs 56 [.ref 8, .int (en n), .int v] (ml h m) = some (ml h (mAdd m n v.toInt64), none) := by
  obtain ⟨b1, b2, b3, b4⟩ := id hb
  have ef : (mItm m v.toInt64).fV n = m.fV n := rfl
  have el : (mItm m v.toInt64).lV n = m.lV n := rfl
  rw [en_56, k_56_0]
  simp only [Hml, b1, b2, b3, b4, HF10, gd_t, decide_true, Bool.and_self, HQ, HZ, cc_9_99_10, m_54 L xs hb m v.toInt64 h1 h2, bI_s, inb_en n1 n2 (by decide), cl_en n1 (by omega), show n - 1 + 1 = n from by omega, ef]
  by_cases f0 : m.fV n = 0
  · rw [f0, en_0, if_neg (by decide)]
    simp only [k_56_17, k_56_24, k_56_39, k_56_46, Hml, b1, b2, b3, b4, HF10, gd_t, decide_true, Bool.and_self, HQ, HZ, inb_en n1 n2 (by decide), cl_en n1 (by omega), ml_fV h _ n1, ml_lV h _ n1]
    unfold mAdd
    simp only [ef, f0, if_true]
  · obtain ⟨l1, l2⟩ := h4 f0
    rw [if_pos (fun q => f0 ((en_m1 (by omega)).mp q))]
    simp only [k_56_27, k_56_39, k_56_46, Hml, b1, b2, b3, b4, HF10, gd_t, decide_true, Bool.and_self, HQ, HZ, inb_en n1 n2 (by decide), cl_en n1 (by omega), show n - 1 + 1 = n from by omega, el, inb_en l1 l2 (by decide), cl_en l1 (by omega), ml_nx h _ l1, ml_lV h _ n1]
    unfold mAdd
    simp only [ef, el, f0, if_false]
/-- a list along a row of nexts -/
def Chn (nx : Nat → Nat) : Nat → List Nat → Prop
  | i, [] => i = 0
  | i, a :: t => i = a ∧ a ≠ 0 ∧ Chn nx (nx a) t
theorem m_57_loop {h : AH} (hb : MB h) (m : MS) (l1 : Int32) : ∀ (l : List Nat) (i c : Nat), Chn m.nx i l → (∀ a, a ∈ l → a ≤ 20002) → X L xs 57 9 [.ref 8, .int l1, .int (nI c), .int (en i)] [] (ml h m) = some (ml h m, some (.int (nI (c + l.length)))) := by
  obtain ⟨b1, b2, b3, b4⟩ := id hb
  intro l
  induction l with
  | nil =>
    intro i c hi _
    rw [show i = 0 from hi, en_0, k_57_9, if_pos rfl, k_57_27]
    rfl
  | cons a t ih =>
    intro i c hi hl
    obtain ⟨rfl, a0, hc⟩ := hi
    have a1 : 1 ≤ i := by omega
    have a2 := hl i List.mem_cons_self
    rw [k_57_9, if_neg (fun q => a0 ((en_m1 (by omega)).mp q)), k_57_14]
    simp only [Hml, b1, b2, b3, b4, HF10, gd_t, decide_true, Bool.and_self, HQ, HZ, inb_en a1 a2 (by decide), cl_en a1 (by omega), show i - 1 + 1 = i from by omega, nI_1]
    rw [ih _ (c + 1) hc (fun b hb => hl b (List.mem_cons_of_mem _ hb)), List.length_cons]
    rw [show c + 1 + t.length = c + (t.length + 1) from by omega]
theorem m_57 {h : AH} (hb : MB h) (m : MS) {n : Nat} (n1 : 1 ≤ n) (n2 : n ≤ 20002) {l : List Nat} (hc : Chn m.nx (m.fV n) l) (hl : ∀ a, a ∈ l → a ≤ 20002) : XM L xs 57 [.ref 8, .int (en n)] (ml h m) = some (ml h m, some (.int (nI l.length))) := by
  obtain ⟨b1, b2, b3, b4⟩ := id hb
  rw [en_57, k_57_0]
  simp only [Hml, b1, b2, b3, b4, HF10, gd_t, decide_true, Bool.and_self, HQ, HZ, inb_en n1 n2 (by decide), cl_en n1 (by omega), show n - 1 + 1 = n from by omega]
  have := m_57_loop L xs hb m (en n) l (m.fV n) 0 hc hl
  rw [Nat.zero_add] at this
  exact this
theorem m_58 {h : AH} (hb : MB h) (m : MS) {n : Nat} (n1 : 1 ≤ n) (n2 : n ≤ 20002) (f1 : 1 ≤ m.fV n) (f2 : m.fV n ≤ 20002) : XM L xs 58 [.ref 8, .int (en n)] (ml h m) = some (ml h m, some (.int (m.it (m.fV n)).toInt32)) := by
  obtain ⟨b1, b2, b3, b4⟩ := id hb
  rw [en_58, k_58_0]
  simp only [Hml, b1, b2, b3, b4, HF10, gd_t, decide_true, Bool.and_self, HQ, HZ, inb_en n1 n2 (by decide), cl_en n1 (by omega), show n - 1 + 1 = n from by omega, inb_en f1 f2 (by decide), cl_en f1 (by omega), show m.fV n - 1 + 1 = m.fV n from by omega]
def bI1 (p : Bool) : Int32 := if p then 1 else 0
theorem m_60 {h : AH} (hb : MB h) (m : MS) {s : Nat} (hs : s < 40) (hk : m.kd s ≤ 5) : XM L xs 60 [.ref 8, .int (nI s)] (ml h m) = some (ml h m, some (.int (bI1 (decide (m.kd s ≤ 1))))) := by
  obtain ⟨b1, b2, b3, b4⟩ := id hb
  rw [en_60, k_60_0]
  simp only [Hml, b1, b2, b3, b4, HF10, gd_t, decide_true, Bool.and_self, HQ, HZ, inb_nI hs (by decide), nI_clamp (show s < 2 ^ 31 by omega)]
  by_cases q : m.kd s ≤ 1
  · rw [if_neg (by rw [nI_1c]; exact nI_nlt q (by decide)), k_60_10, k_60_15]
    simp only [q, decide_true, bI1, if_true]
    rfl
  · rw [if_pos (by rw [nI_1c]; exact nI_lt (by omega) (by omega)), k_60_14, k_60_15]
    simp only [q, decide_false, bI1]
    rfl
theorem m_61 {h : AH} (hb : MB h) (m : MS) {s : Nat} (hs : s < 40) (hk : m.kd s ≤ 5) : XM L xs 61 [.ref 8, .int (nI s)] (ml h m) = some (ml h m, some (.int (bI1 (decide (m.kd s = 2 ∨ m.kd s = 3))))) := by
  obtain ⟨b1, b2, b3, b4⟩ := id hb
  have c2 : (2 : Int32) = nI 2 := by decide
  have c3 : (3 : Int32) = nI 3 := by decide
  rw [en_61, k_61_0]
  simp only [Hml, b1, b2, b3, b4, HF10, gd_t, decide_true, Bool.and_self, HQ, HZ, inb_nI hs (by decide), nI_clamp (show s < 2 ^ 31 by omega), c2, nI_eq (show m.kd s < 2 ^ 31 by omega) (show 2 < 2 ^ 31 by decide)]
  by_cases q : m.kd s = 2
  · rw [if_pos q, k_61_20, k_61_25]
    simp only [q, true_or, decide_true, bI1, if_true]
    rfl
  · rw [if_neg q, k_61_10]
    simp only [Hml, b1, b2, b3, b4, HF10, gd_t, decide_true, Bool.and_self, HQ, HZ, inb_nI hs (by decide), nI_clamp (show s < 2 ^ 31 by omega), c3, nI_eq (show m.kd s < 2 ^ 31 by omega) (show 3 < 2 ^ 31 by decide)]
    by_cases q3 : m.kd s = 3
    · rw [if_neg (fun z => z q3), k_61_20, k_61_25]
      simp only [q3, or_true, decide_true, bI1, if_true]
      rfl
    · rw [if_pos q3, k_61_24, k_61_25]
      simp only [q, q3, or_self, decide_false, bI1]
      rfl
theorem m_62 {h : AH} (hb : MB h) (m : MS) {s : Nat} (hs : s < 40) (hk : m.kd s ≤ 5) : XM L xs 62 [.ref 8, .int (nI s)] (ml h m) = some (ml h m, some (.int (bI1 (decide (4 ≤ m.kd s))))) := by
  obtain ⟨b1, b2, b3, b4⟩ := id hb
  have c4 : (4 : Int32) = nI 4 := by decide
  rw [en_62, k_62_0]
  simp only [Hml, b1, b2, b3, b4, HF10, gd_t, decide_true, Bool.and_self, HQ, HZ, inb_nI hs (by decide), nI_clamp (show s < 2 ^ 31 by omega), c4]
  by_cases q : 4 ≤ m.kd s
  · rw [if_neg (nI_nlt q (by omega)), k_62_10, k_62_15]
    simp only [q, decide_true, bI1, if_true]
    rfl
  · rw [if_pos (nI_lt (by omega) (by decide)), k_62_14, k_62_15]
    simp only [q, decide_false, bI1]
    rfl
end Mth
