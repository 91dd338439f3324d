-- THE REFERENCE'S WALKS, turns, and the closing of an act
def gT (ky : Nat → Int64) (P : PT) (k : Int64) : Nat → Nat → Nat × Nat
  | 0, n => (n, 0)
  | f + 1, n => if n = 0 then (n, 0) else if ky n = k then (n, 0) else if (if k < ky n then P.1 n else P.2.1 n) = 0 then (n, 0) else ((gT ky P k f (if k < ky n then P.1 n else P.2.1 n)).1, (gT ky P k f (if k < ky n then P.1 n else P.2.1 n)).2 + 1)
def lR (P : PT) : Nat → Nat → Nat × Nat
  | 0, n => (n, 0)
  | f + 1, n => if P.2.1 n = 0 then (n, 0) else ((lR P f (P.2.1 n)).1, (lR P f (P.2.1 n)).2 + 1)
def lL (P : PT) : Nat → Nat → Nat
  | 0, n => n
  | f + 1, n => if P.1 n = 0 then n else lL P f (P.1 n)
def tR (ab : Bool) (x k : Int64) : Bool := if ab then decide (x ≤ k) else decide (x < k)
def gB (ky : Nat → Int64) (P : PT) (k : Int64) (ab : Bool) : Nat → Nat → Nat → Nat → Nat × Nat × Nat
  | 0, _, l, b => (l, b, 0)
  | f + 1, n, l, b => if n = 0 then (l, b, 0) else
    let r := gB ky P k ab f (if tR ab (ky n) k then P.2.1 n else P.1 n) n (if tR ab (ky n) k = ab then b else n)
    (r.1, r.2.1, r.2.2 + (if l = 0 then 0 else 1))
theorem gT_mem {ky : Nat → Int64} {P : PT} {T z : Nat → Nat} (h : WF P T z) (k : Int64) : ∀ (f n : Nat), T n ≠ 0 → T (gT ky P k f n).1 = T n := by
  intro f
  induction f with
  | zero => intro n _; rfl
  | succ f ih =>
    intro n hn
    obtain ⟨w1, w2, -⟩ := h.2.2 n hn
    unfold gT
    rw [if_neg (h.n0 hn)]
    by_cases e : ky n = k
    · rw [if_pos e]
    · rw [if_neg e]
      by_cases c0 : (if k < ky n then P.1 n else P.2.1 n) = 0
      · rw [if_pos c0]
      · rw [if_neg c0]
        have hc : T (if k < ky n then P.1 n else P.2.1 n) = T n := by
          by_cases q : k < ky n
          · rw [if_pos q] at c0 ⊢; exact (w1 c0).2
          · rw [if_neg q] at c0 ⊢; exact (w2 c0).2
        show T (gT ky P k f _).1 = _
        rw [ih _ (by rw [hc]; exact hn), hc]
theorem lR_mem {P : PT} {T z : Nat → Nat} (h : WF P T z) : ∀ (f n : Nat), T n ≠ 0 → T (lR P f n).1 = T n := by
  intro f
  induction f with
  | zero => intro n _; rfl
  | succ f ih =>
    intro n hn
    obtain ⟨w1, w2, -⟩ := h.2.2 n hn
    unfold lR
    by_cases c0 : P.2.1 n = 0
    · rw [if_pos c0]
    · rw [if_neg c0]
      have hc := (w2 c0).2
      show T (lR P f _).1 = _
      rw [ih _ (by rw [hc]; exact hn), hc]
theorem lR_end {P : PT} {T z : Nat → Nat} (h : WF P T z) : ∀ (f n : Nat), T n ≠ 0 → z n ≤ f → P.2.1 (lR P f n).1 = 0 := by
  intro f
  induction f with
  | zero => intro n hn hz; have := h.pos hn; omega
  | succ f ih =>
    intro n hn hz
    obtain ⟨w1, w2, w3, w4, w5⟩ := h.2.2 n hn
    unfold lR
    by_cases c0 : P.2.1 n = 0
    · rw [if_pos c0]; exact c0
    · rw [if_neg c0]
      have hc := (w2 c0).2
      exact ih _ (by rw [hc]; exact hn) (by omega)
theorem gB_mem {ky : Nat → Int64} {P : PT} {T z : Nat → Nat} (h : WF P T z) (k : Int64) (ab : Bool) {c : Nat} (hc : c ≠ 0) : ∀ (f n l b : Nat), (n ≠ 0 → T n = c) → (l ≠ 0 → T l = c) → (b ≠ 0 → T b = c) → ((gB ky P k ab f n l b).1 ≠ 0 → T (gB ky P k ab f n l b).1 = c) ∧ ((gB ky P k ab f n l b).2.1 ≠ 0 → T (gB ky P k ab f n l b).2.1 = c) := by
  intro f
  induction f with
  | zero => intro n l b _ hl hb; exact ⟨hl, hb⟩
  | succ f ih =>
    intro n l b hn hl hb
    unfold gB
    by_cases n0 : n = 0
    · rw [if_pos n0]; exact ⟨hl, hb⟩
    · rw [if_neg n0]
      have hT := hn n0
      obtain ⟨w1, w2, -⟩ := h.2.2 n (by rw [hT]; exact hc)
      refine ih _ _ _ ?_ hn ?_
      · intro c0
        by_cases q : tR ab (ky n) k = true
        · rw [if_pos q] at c0 ⊢; rw [(w2 c0).2, hT]
        · rw [if_neg q] at c0 ⊢; rw [(w1 c0).2, hT]
      · intro c0
        by_cases q : tR ab (ky n) k = ab
        · rw [if_pos q] at c0 ⊢; exact hb c0
        · rw [if_neg q]; exact hT
def mUp (m : MS) (n : Nat) : MS := (m.ssp (tuF 20003 m.P n m.sp).2).sP (tuF 20003 m.P n m.sp).1
def mTrn (m : MS) (s n : Nat) : MS := if m.kd s = 1 ∧ n ≠ 0 then (mUp m n).srt (u1 m.rt s n) else m
def mAct (m : MS) (s : Nat) (price pot : Int32) : MS := ((((((m.spu (u1 m.pu s (m.pu s + (price - nI m.sp).toInt64))).sst (u1 m.st s (m.st s + (nI m.sp).toInt64))).srO (u1 m.rO m.N (nI s))).srP (u1 m.rP m.N price)).srT (u1 m.rT m.N (nI m.sp))).srQ (u1 m.rQ m.N pot)).sN (m.N + 1)
def potL (m : MS) (z : Nat → Nat) (s : Nat) : Nat := ((pdF 20003 m.P (m.rt s) 0).map (fun p => gp (m.kd s) m.P z p.1)).sum
theorem i64_nle {a b : Int64} (h : a < b) : ¬ b ≤ a := Int64.not_le.mpr h
theorem i64_le {a b : Int64} (h : ¬ a < b) : b ≤ a := Int64.not_lt.mp h
section Mwk
variable (L : Nat) (xs : Nat → Int32)
theorem m_72_loop {h : AH} (hb : MB h) (m : MS) {up T z : Nat → Nat} (hw : WF (m.P.1, m.P.2.1, up) T z) (hT : TN T) (s k : Int64) (l1 : Int32) : ∀ (f n sp : Nat) (l3 l5 : Value), LZ T n → z n ≤ f →
    X L xs 72 8 [.ref 8, .int l1, .long k, l3, .int (en n), l5] [] (ml h (m.ssp sp)) = some (ml h (m.ssp (sp + (gT m.ky m.P k f n).2)), some (.int (en (gT m.ky m.P k f n).1))) := by
  obtain ⟨b1, b2, b3, b4⟩ := id hb
  intro f
  induction f with
  | zero =>
    intro n sp l3 l5 hn hz
    rcases hn with e | e
    · subst e
      rw [en_0, k_72_8, if_pos rfl, k_72_83]
      rfl
    · have := hw.pos e; omega
  | succ f ih =>
    intro n sp l3 l5 hn hz
    by_cases n0 : n = 0
    · subst n0
      rw [en_0, k_72_8, if_pos rfl, k_72_83]
      unfold gT
      rw [if_pos rfl]
      rfl
    · have hnT : T n ≠ 0 := by rcases hn with e | e; exact absurd e n0; exact e
      have n1 : 1 ≤ n := by omega
      have n2 := hT.2 n hnT
      obtain ⟨w1, w2, w3, w4, w5⟩ := hw.2.2 n hnT
      have w6 : z n = 1 + z (m.P.1 n) + z (m.P.2.1 n) := w5
      unfold gT
      rw [if_neg n0, k_72_8, if_neg (fun q => n0 ((en_m1 (by omega)).mp q)), k_72_14]
      simp only [Hml, b1, b2, b3, b4, HF10, gd_t, decide_true, Bool.and_self, HQ, HZ, inb_en n1 n2 (by decide), cl_en n1 (by omega), show n - 1 + 1 = n from by omega, Ssp, lg_cmp_eq]
      by_cases e : m.ky n = k
      · rw [if_pos e, if_pos e, k_72_83]
        rfl
      · rw [if_neg e, if_neg e, k_72_26]
        simp only [Hml, b1, b2, b3, b4, HF10, gd_t, decide_true, Bool.and_self, HQ, HZ, inb_en n1 n2 (by decide), cl_en n1 (by omega), show n - 1 + 1 = n from by omega, Ssp, lg_cmp_ge]
        have key : ∀ c, LZ T c → (c ≠ 0 → z c ≤ f) → X L xs 72 55 [.ref 8, .int l1, .long k, l3, .int (en n), l5] [.int (en c)] (ml h (m.ssp sp)) = some (ml h (m.ssp (sp + (if c = 0 then (n, 0) else ((gT m.ky m.P k f c).1, (gT m.ky m.P k f c).2 + 1)).2)), some (.int (en (if c = 0 then (n, 0) else ((gT m.ky m.P k f c).1, (gT m.ky m.P k f c).2 + 1)).1))) := by
          intro c hc hcz
          rw [k_72_55]
          by_cases c0 : c = 0
          · subst c0
            rw [en_0, if_neg (by decide), k_72_63]
            rfl
          · have hcT : T c ≠ 0 := by rcases hc with e | e; exact absurd e c0; exact e
            have := hT.2 c hcT
            rw [if_pos (fun q => c0 ((en_m1 (by omega)).mp q)), k_72_66]
            simp only [Hml, b1, b2, b3, b4, HF10, gd_t, decide_true, Bool.and_self, HQ, HZ, Ssp, nI_1, ml_sp, k_72_76]
            rw [if_neg c0]
            have := ih c (sp + 1) (klL l3) (.int (en c)) hc (hcz c0)
            rw [show sp + ((gT m.ky m.P k f c).1, (gT m.ky m.P k f c).2 + 1).2 = sp + 1 + (gT m.ky m.P k f c).2 from by show sp + ((gT m.ky m.P k f c).2 + 1) = _; omega]
            exact this
        by_cases q : k < m.ky n
        · rw [if_neg (i64_nle q), k_72_38]
          simp only [Hml, b1, b2, b3, b4, HF10, gd_t, decide_true, Bool.and_self, HQ, HZ, inb_en n1 n2 (by decide), cl_en n1 (by omega), show n - 1 + 1 = n from by omega, Ssp]
          simp only [q, if_true]
          exact key _ (hw.lzl hnT) (fun c0 => by omega)
        · rw [if_pos (i64_le q), k_72_48]
          simp only [Hml, b1, b2, b3, b4, HF10, gd_t, decide_true, Bool.and_self, HQ, HZ, inb_en n1 n2 (by decide), cl_en n1 (by omega), show n - 1 + 1 = n from by omega, Ssp]
          simp only [q, if_false]
          exact key _ (hw.lzr hnT) (fun c0 => by omega)
theorem m_72 {h : AH} (hb : MB h) (m : MS) {up T z : Nat → Nat} (hw : WF (m.P.1, m.P.2.1, up) T z) (hT : TN T) (k : Int64) {s : Nat} (hs : s < 40) (hr : LZ T (m.rt s)) :
    XM L xs 72 [.ref 8, .int (nI s), .long k] (ml h m) = some (ml h (m.ssp (m.sp + (gT m.ky m.P k 20003 (m.rt s)).2)), some (.int (en (gT m.ky m.P k 20003 (m.rt s)).1))) := by
  obtain ⟨b1, b2, b3, b4⟩ := id hb
  have hz := hw.z_le hT.2 hr
  rw [en_72, k_72_0]
  simp only [Hml, b1, b2, b3, b4, HF10, gd_t, decide_true, Bool.and_self, HQ, HZ, inb_nI hs (by decide), nI_clamp (show s < 2 ^ 31 by omega)]
  exact m_72_loop L xs hb m hw hT 0 k (nI s) 20003 (m.rt s) m.sp _ .null hr (by omega)
theorem m_79_loop {h : AH} (hb : MB h) (m : MS) {up T z : Nat → Nat} (hw : WF (m.P.1, m.P.2.1, up) T z) (hT : TN T) (l1 : Int32) : ∀ (f n sp : Nat), T n ≠ 0 → z n ≤ f →
    X L xs 79 2 [.ref 8, .int l1, .int (en n)] [] (ml h (m.ssp sp)) = some (ml h (m.ssp (sp + (lR m.P f n).2)), some (.int (en (lR m.P f n).1))) := by
  obtain ⟨b1, b2, b3, b4⟩ := id hb
  intro f
  induction f with
  | zero => intro n sp hn hz; have := hw.pos hn; omega
  | succ f ih =>
    intro n sp hnT hz
    have n1 : 1 ≤ n := Nat.pos_of_ne_zero (hw.n0 hnT)
    have n2 := hT.2 n hnT
    obtain ⟨w1, w2, w3, w4, w5⟩ := hw.2.2 n hnT
    have w6 : z n = 1 + z (m.P.1 n) + z (m.P.2.1 n) := w5
    unfold lR
    rw [k_79_2]
    simp only [Hml, b1, b2, b3, b4, HF10, gd_t, decide_true, Bool.and_self, HQ, HZ, inb_en n1 n2 (by decide), cl_en n1 (by omega), show n - 1 + 1 = n from by omega, Ssp]
    by_cases c0 : m.P.2.1 n = 0
    · rw [c0, en_0, if_pos rfl, k_79_32, if_pos rfl]
      rfl
    · have hc := (w2 c0).2
      have hcT : T (m.P.2.1 n) ≠ 0 := by rw [hc]; exact hnT
      have := hT.2 _ hcT
      rw [if_neg (fun q => c0 ((en_m1 (by omega)).mp q)), if_neg c0, k_79_12]
      simp only [Hml, b1, b2, b3, b4, HF10, gd_t, decide_true, Bool.and_self, HQ, HZ, inb_en n1 n2 (by decide), cl_en n1 (by omega), show n - 1 + 1 = n from by omega, Ssp, nI_1, ml_sp, k_79_29]
      have := ih (m.P.2.1 n) (sp + 1) hcT (by omega)
      rw [show sp + ((lR m.P f (m.P.2.1 n)).2 + 1) = sp + 1 + (lR m.P f (m.P.2.1 n)).2 from by omega]
      exact this
theorem m_79 {h : AH} (hb : MB h) (m : MS) {up T z : Nat → Nat} (hw : WF (m.P.1, m.P.2.1, up) T z) (hT : TN T) {n : Nat} (hn : T n ≠ 0) :
    XM L xs 79 [.ref 8, .int (en n)] (ml h m) = some (ml h (m.ssp (m.sp + (lR m.P 20003 n).2)), some (.int (en (lR m.P 20003 n).1))) := by
  have hz := hw.z_le hT.2 (Or.inr hn)
  rw [en_79, k_79_0]
  exact m_79_loop L xs hb m hw hT (en n) 20003 n m.sp hn (by omega)
set_option maxHeartbeats 2000000 in
theorem m_82_loop {h : AH} (hb : MB h) (m : MS) {up T z : Nat → Nat} (hw : WF (m.P.1, m.P.2.1, up) T z) (hT : TN T) (k : Int64) (ab : Bool) (l1 : Int32) : ∀ (f n l b sp : Nat) (l3 l7 : Value), LZ T n → LZ T l → z n ≤ f →
    X L xs 82 16 [.ref 8, .int l1, .long k, l3, .int (bI1 ab), .int (en n), .int (en l), l7] [] (ml h ((m.ssp sp).sbs b)) = some (ml h ((m.ssp (sp + (gB m.ky m.P k ab f n l b).2.2)).sbs (gB m.ky m.P k ab f n l b).2.1), some (.int (en (gB m.ky m.P k ab f n l b).1))) := by
  obtain ⟨b1, b2, b3, b4⟩ := id hb
  intro f
  induction f with
  | zero =>
    intro n l b sp l3 l7 hn hl hz
    rcases hn with e | e
    · subst e
      rw [en_0, k_82_16, if_pos rfl, k_82_137]
      rfl
    · have := hw.pos e; omega
  | succ f ih =>
    intro n l b sp l3 l7 hn hl hz
    by_cases n0 : n = 0
    · subst n0
      rw [en_0, k_82_16, if_pos rfl, k_82_137]
      unfold gB
      rw [if_pos rfl]
      rfl
    · have hnT : T n ≠ 0 := by rcases hn with e | e; exact absurd e n0; exact e
      have n1 : 1 ≤ n := by omega
      have n2 := hT.2 n hnT
      have l2 : l ≤ 20002 := by rcases hl with e | e; rw [e]; exact Nat.zero_le _; exact hT.2 l e
      obtain ⟨w1, w2, w3, w4, w5⟩ := hw.2.2 n hnT
      have w6 : z n = 1 + z (m.P.1 n) + z (m.P.2.1 n) := w5
      have key : ∀ (r : Bool) (sp : Nat), tR ab (m.ky n) k = r → X L xs 82 88 [.ref 8, .int l1, .long k, l3, .int (bI1 ab), .int (en n), .int (en n), l7] [.int (bI1 r)] (ml h ((m.ssp sp).sbs b)) = X L xs 82 16 [.ref 8, .int l1, .long k, l3, .int (bI1 ab), .int (en (if r then m.P.2.1 n else m.P.1 n)), .int (en n), .int (bI1 r)] [] (ml h ((m.ssp sp).sbs (if r = ab then b else n))) := by
        intro r sp _
        rw [k_82_88]
        cases r <;> cases ab <;> simp only [bI1, if_true, if_false, Bool.false_eq_true, reduceCtorEq, show (1 : Int32) = 0 ↔ False from by decide, show (0 : Int32) = 1 ↔ False from by decide, k_82_103, k_82_98, k_82_107, k_82_110, k_82_115, k_82_125, k_82_132, Hml, b1, b2, b3, b4, HF10, gd_t, decide_true, Bool.and_self, HQ, HZ, inb_en n1 n2 (by decide), cl_en n1 (by omega), show n - 1 + 1 = n from by omega, Ssp, Sbs, ml_bs] <;> rfl
      have e1 : X L xs 82 16 [.ref 8, .int l1, .long k, l3, .int (bI1 ab), .int (en n), .int (en l), l7] [] (ml h ((m.ssp sp).sbs b)) = X L xs 82 42 [.ref 8, .int l1, .long k, l3, .int (bI1 ab), .int (en n), .int (en l), l7] [] (ml h ((m.ssp (sp + (if l = 0 then 0 else 1))).sbs b)) := by
        rw [k_82_16, if_neg (fun q => n0 ((en_m1 (by omega)).mp q)), k_82_22]
        simp only [Hml, b1, b2, b3, b4, HF10, gd_t, decide_true, Bool.and_self, HQ, HZ, Ssp, Sbs]
        by_cases l0 : l = 0
        · subst l0
          rw [en_0, if_neg (by decide), k_82_33, k_82_38]
          simp only [Hml, b1, b2, b3, b4, HF10, gd_t, decide_true, Bool.and_self, HQ, HZ, Int32.add_zero, ml_sp, if_true]
          rfl
        · rw [if_pos (fun q => l0 ((en_m1 (by omega)).mp q)), k_82_37, k_82_38]
          simp only [Hml, b1, b2, b3, b4, HF10, gd_t, decide_true, Bool.and_self, HQ, HZ, nI_1, ml_sp, l0, if_false]
          rfl
      have e2 : ∀ sp, X L xs 82 42 [.ref 8, .int l1, .long k, l3, .int (bI1 ab), .int (en n), .int (en l), l7] [] (ml h ((m.ssp sp).sbs b)) = X L xs 82 88 [.ref 8, .int l1, .long k, l3, .int (bI1 ab), .int (en n), .int (en n), l7] [.int (bI1 (tR ab (m.ky n) k))] (ml h ((m.ssp sp).sbs b)) := by
        intro sp
        rw [k_82_42]
        cases ab with
        | true =>
          rw [if_neg (by decide), k_82_51]
          simp only [Hml, b1, b2, b3, b4, HF10, gd_t, decide_true, Bool.and_self, HQ, HZ, inb_en n1 n2 (by decide), cl_en n1 (by omega), show n - 1 + 1 = n from by omega, Ssp, Sbs, lg_cmp_gt]
          by_cases q : m.ky n ≤ k
          · rw [if_neg (Int64.not_lt.mpr q), k_82_63]
            simp only [tR, if_true, q, decide_true, bI1]
          · rw [if_pos (Int64.not_le.mp q), k_82_67]
            simp only [tR, if_true, q, decide_false, bI1, Bool.false_eq_true, if_false]
        | false =>
          rw [if_pos (by decide), k_82_71]
          simp only [Hml, b1, b2, b3, b4, HF10, gd_t, decide_true, Bool.and_self, HQ, HZ, inb_en n1 n2 (by decide), cl_en n1 (by omega), show n - 1 + 1 = n from by omega, Ssp, Sbs, lg_cmp_ge]
          by_cases q : m.ky n < k
          · rw [if_neg (i64_nle q), k_82_83]
            simp only [tR, Bool.false_eq_true, if_false, q, decide_true, bI1, if_true]
          · rw [if_pos (i64_le q), k_82_87]
            simp only [tR, Bool.false_eq_true, if_false, q, decide_false, bI1]
      rw [e1, e2, key _ _ rfl]
      unfold gB
      rw [if_neg n0]
      have hz2 : z (if tR ab (m.ky n) k then m.P.2.1 n else m.P.1 n) ≤ f := by
        by_cases q : tR ab (m.ky n) k = true
        · rw [if_pos q]; omega
        · rw [if_neg q]; omega
      have hl2 : LZ T (if tR ab (m.ky n) k then m.P.2.1 n else m.P.1 n) := by
        by_cases q : tR ab (m.ky n) k = true
        · rw [if_pos q]; exact hw.lzr hnT
        · rw [if_neg q]; exact hw.lzl hnT
      rw [ih _ n _ _ _ _ hl2 hn hz2]
      show some (ml h ((m.ssp (sp + (if l = 0 then 0 else 1) + _)).sbs _), _) = some (ml h ((m.ssp (sp + (_ + (if l = 0 then 0 else 1)))).sbs _), _)
      rw [show ∀ a b c : Nat, a + b + c = a + (c + b) from fun a b c => by omega]
theorem m_82 {h : AH} (hb : MB h) (m : MS) {up T z : Nat → Nat} (hw : WF (m.P.1, m.P.2.1, up) T z) (hT : TN T) (k : Int64) (ab : Bool) {s : Nat} (hs : s < 40) (hr : LZ T (m.rt s)) :
    XM L xs 82 [.ref 8, .int (nI s), .long k, .int (bI1 ab)] (ml h m) = some (ml h ((m.ssp (m.sp + (gB m.ky m.P k ab 20003 (m.rt s) 0 0).2.2)).sbs (gB m.ky m.P k ab 20003 (m.rt s) 0 0).2.1), some (.int (en (gB m.ky m.P k ab 20003 (m.rt s) 0 0).1))) := by
  obtain ⟨b1, b2, b3, b4⟩ := id hb
  have hz := hw.z_le hT.2 hr
  rw [en_82, k_82_0]
  simp only [Hml, b1, b2, b3, b4, HF10, gd_t, decide_true, Bool.and_self, HQ, HZ, inb_nI hs (by decide), nI_clamp (show s < 2 ^ 31 by omega), ml_bs0]
  have := m_82_loop L xs hb m hw hT k ab (nI s) 20003 (m.rt s) 0 0 m.sp .null .null hr (Or.inl rfl) (by omega)
  exact this
theorem m_70 {h : AH} (hb : MB h) (m : MS) {S z : Nat → Nat} (hw : WF m.P S z) (hS : ∀ a, S a ≠ 0 → a ≤ 20002) (hP : BP m.P) {n : Nat} (hn : S n ≠ 0) :
    XM L xs 70 [.ref 8, .int (en n)] (ml h m) = some (ml h (mUp m n), none) := by
  have := m_70_loop L xs (MB_ml hb m) hn (hS n hn) (B := 20002) 20003 m.P m.sp z .null .null hw (fun x hx => hw.z_le hS (Or.inr hx)) hP (by omega)
  rw [ml_sp, pm_ml, ml_sp, pm_ml] at this
  rw [en_70]
  exact this
theorem m_73 {h : AH} (hb : MB h) (m : MS) {S z : Nat → Nat} (hP : BP m.P) {s n : Nat} (hs : s < 40) (hk : m.kd s ≤ 5) (hn2 : n ≤ 20002) (hw : m.kd s = 1 → n ≠ 0 → WF m.P S z ∧ (∀ a, S a ≠ 0 → a ≤ 20002) ∧ S n ≠ 0) :
    XM L xs 73 [.ref 8, .int (nI s), .int (en n)] (ml h m) = some (ml h (mTrn m s n), none) := by
  obtain ⟨b1, b2, b3, b4⟩ := id hb
  rw [en_73, k_73_0]
  simp only [Hml, b1, b2, b3, b4, HF10, gd_t, decide_true, Bool.and_self, HQ, HZ, inb_nI hs (by decide), nI_clamp (show s < 2 ^ 31 by omega), nI_1c, nI_eq (show m.kd s < 2 ^ 31 by omega) (show 1 < 2 ^ 31 by decide)]
  by_cases k1 : m.kd s = 1
  · rw [if_neg (fun q => q k1), k_73_10]
    by_cases n0 : n = 0
    · subst n0
      rw [en_0, if_pos rfl, k_73_27]
      unfold mTrn
      rw [if_neg (fun q => q.2 rfl)]
    · obtain ⟨w1, w2, w3⟩ := hw k1 n0
      rw [if_neg (fun q => n0 ((en_m1 (by omega)).mp q)), k_73_15]
      simp only [Hml, b1, b2, b3, b4, HF10, gd_t, decide_true, Bool.and_self, HQ, HZ, cc_9_143_10, m_70 L xs hb m w1 w2 hP w3, bV_s, inb_nI hs (by decide), nI_clamp (show s < 2 ^ 31 by omega), ml_rt, k_73_27]
      unfold mTrn
      rw [if_pos ⟨k1, n0⟩]
      rfl
  · rw [if_pos k1, k_73_27]
    unfold mTrn
    rw [if_neg (fun q => k1 q.1)]
theorem m_66_a {h : AH} (hb : MB h) (m : MS) {s : Nat} (hs : s < 40) (hN : m.N < 20000) (price : Int32) :
    XM L xs 66 [.ref 8, .int (nI s), .int price] (ml h m) = X L xs 66 63 [.ref 8, .int (nI s), .int price] [] (ml h (((((m.spu (u1 m.pu s (m.pu s + (price - nI m.sp).toInt64))).sst (u1 m.st s (m.st s + (nI m.sp).toInt64))).srO (u1 m.rO m.N (nI s))).srP (u1 m.rP m.N price)).srT (u1 m.rT m.N (nI m.sp)))) := by
  obtain ⟨b1, b2, b3, b4⟩ := id hb
  rw [en_66]
  simp only [k_66_0, k_66_16, k_66_30, k_66_40, k_66_50, Hml, b1, b2, b3, b4, HF10, gd_t, decide_true, Bool.and_self, HQ, HZ, inb_nI hs (by decide), nI_clamp (show s < 2 ^ 31 by omega), ml_pu, ml_st, ml_rO, ml_rP, ml_rT, Spu, Sst, SrO, SrP, SrT, inb_nI hN (by decide), nI_clamp (show m.N < 2 ^ 31 by omega)]
theorem m_66_n {h : AH} (hb : MB h) (m : MS) {up T z : Nat → Nat} (hw : WF (m.P.1, m.P.2.1, up) T z) (hT : TN T) {s : Nat} (hs : s < 40) (hk : m.kd s ≤ 3) (hr : LZ T (m.rt s)) (hN : m.N < 20000) (price : Int32) :
    ∃ q : SCT, XM L xs 66 [.ref 8, .int (nI s), .int price] (ml h m) = some (ml h ((mAct m s price (nI (potL m z s))).sW q), none) := by
  obtain ⟨b1, b2, b3, b4⟩ := id hb
  obtain ⟨q, hq⟩ := m_65_n L xs hb (((((m.spu (u1 m.pu s (m.pu s + (price - nI m.sp).toInt64))).sst (u1 m.st s (m.st s + (nI m.sp).toInt64))).srO (u1 m.rO m.N (nI s))).srP (u1 m.rP m.N price)).srT (u1 m.rT m.N (nI m.sp))) hw hT hs hk hr
  refine ⟨q, ?_⟩
  rw [m_66_a L xs hb m hs hN, k_66_63]
  simp only [Hml, b1, b2, b3, b4, HF10, gd_t, decide_true, Bool.and_self, HQ, HZ, cc_9_130_10, hq, bI_s, SrT, SrP, SrO, Sst, Spu, SWq, inb_nI hN (by decide), nI_clamp (show m.N < 2 ^ 31 by omega), ml_rQ, k_66_77, nI_1, SrQ, ml_N, k_66_87]
  rfl
theorem m_66_r {h : AH} (hb : MB h) (m : MS) {s : Nat} (hs : s < 40) (hk : 4 ≤ m.kd s) (hk5 : m.kd s ≤ 5) (hn : m.nu s < 2 ^ 30) (hp : m.pl s < 2 ^ 30) (hN : m.N < 20000) (price : Int32) :
    XM L xs 66 [.ref 8, .int (nI s), .int price] (ml h m) = some (ml h (mAct m s price (nI (prow (m.kd s) (m.nu s) (m.pl s)))), none) := by
  obtain ⟨b1, b2, b3, b4⟩ := id hb
  have hq := m_65_r L xs hb (((((m.spu (u1 m.pu s (m.pu s + (price - nI m.sp).toInt64))).sst (u1 m.st s (m.st s + (nI m.sp).toInt64))).srO (u1 m.rO m.N (nI s))).srP (u1 m.rP m.N price)).srT (u1 m.rT m.N (nI m.sp))) hs hk hk5 hn hp
  rw [m_66_a L xs hb m hs hN, k_66_63]
  simp only [Hml, b1, b2, b3, b4, HF10, gd_t, decide_true, Bool.and_self, HQ, HZ, cc_9_130_10, hq, bI_s, SrT, SrP, SrO, Sst, Spu, inb_nI hN (by decide), nI_clamp (show m.N < 2 ^ 31 by omega), ml_rQ, k_66_77, nI_1, SrQ, ml_N, k_66_87]
  rfl
end Mwk
