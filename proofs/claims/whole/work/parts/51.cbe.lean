-- the class's goBeside, noteGrowth, hangNew
theorem A7 (c : CS) (v w : Nat → Int32) : (c.sst v).sst w = c.sst w := (rfl)
theorem A8 (c : CS) (v w : Nat → Nat) : (c.slg v).slg w = c.slg w := (rfl)
theorem A9 (c : CS) (v w : Nat → Nat) : (c.scz v).scz w = c.scz w := (rfl)
theorem A10 (c : CS) (v w : Nat → Nat) : (c.slg v).scz w = (c.scz w).slg v := (rfl)
def cSt (c : CS) (s p : Nat) : CS := c.sst (u1 c.st s (c.st s + nI p))
theorem cSt_1 (c : CS) (s p : Nat) : (cSt c s p).sst (u1 (cSt c s p).st s ((cSt c s p).st s + 1)) = cSt c s (p + 1) := by
  unfold cSt
  simp only [Ust, u1_s, u1_u1, A7]
  rw [Int32.add_assoc, nI_1]
theorem cSt_0 (c : CS) (s : Nat) : cSt c s 0 = c := by
  unfold cSt
  rw [nI_0, Int32.add_zero, u1_id]
  rfl
theorem HcSt (c : CS) (s p : Nat) : (cSt c s p).ck = c.ck ∧ (cSt c s p).P = c.P ∧ (cSt c s p).la = c.la ∧ (cSt c s p).ro = c.ro ∧ (cSt c s p).cz = c.cz ∧ (cSt c s p).lg = c.lg := ⟨rfl, rfl, rfl, rfl, rfl, rfl⟩
theorem Gs_upd {M : List Nat} (hM : M.Nodup) (z : Nat → Nat) {n : Nat} (hn : n ∈ M) (v : Nat) : Gs M (u1 z n v) + Nat.log2 (z n) = Gs M z + Nat.log2 v := by
  have h := sum_upd (fun a => Nat.log2 (z a)) M hM n (Nat.log2 v) hn
  have e : (fun a => Nat.log2 (u1 z n v a)) = u1 (fun a => Nat.log2 (z a)) n (Nat.log2 v) := by
    funext a
    unfold u1
    by_cases q : a = n
    · rw [if_pos q, if_pos q]
    · rw [if_neg q, if_neg q]
  unfold Gs
  rw [e]
  exact h
section Cbe
variable (L : Nat) (xs : Nat → Int32)
set_option maxHeartbeats 2000000 in
theorem c164_loop {b : AH} {d : DS} (hw : DW d) (tN : ∀ x, d.nid x ≠ 0 → tg b x = 4) {s : Nat} (hsd : d.sid (d.sa (s + 1)) = s + 1) (ts : tg b (d.sa (s + 1)) = 5 ∨ tg b (d.sa (s + 1)) = 7) (c : CS) {T z : Nat → Nat} (hW : WF c.P T z) (hD : ∀ x, T x ≠ 0 → d.nid (d.ph x) = x) (k : Int64) (ab : Bool) (l2 : Value) : ∀ (f n l bt p : Nat) (l7 : Value), LZ T n → LZ T l → z n ≤ f →
    ∃ l7' : Value, X L xs 164 12 [.ref (d.sa (s + 1)), .long k, l2, .int (bI1 ab), .ref (d.ph bt), .ref (d.ph l), .ref (d.ph n), l7] [] (cl b d (cSt c s p)) = X L xs 164 108 [.ref (d.sa (s + 1)), .long k, l2, .int (bI1 ab), .ref (d.ph (gB c.ck c.P k ab f n l bt).2.1), .ref (d.ph (gB c.ck c.P k ab f n l bt).1), .ref 0, l7'] [] (cl b d (cSt c s (p + (gB c.ck c.P k ab f n l bt).2.2))) := by
  have h16 : hasF (tg b (d.sa (s + 1))) 16 = true := by rcases ts with q | q <;> rw [q] <;> rfl
  have okz : ∀ x, LZ T x → d.nid (d.ph x) = x := fun x hx => by
    rcases hx with q | q
    · rw [q, hw.1.1]; exact hw.1.2.2.2.1
    · exact hD x q
  intro f
  induction f with
  | zero =>
    intro n l bt p l7 hn hl hz
    rcases hn with e | e
    · subst e
      refine ⟨l7, ?_⟩
      rw [hw.1.1, k_164_12, if_pos rfl]
      rfl
    · have := hW.pos e; omega
  | succ f ih =>
    intro n l bt p l7 hn hl hz
    by_cases n0 : n = 0
    · subst n0
      refine ⟨l7, ?_⟩
      unfold gB
      rw [hw.1.1, k_164_12, if_pos rfl, if_pos rfl]
      rfl
    · have hnT : T n ≠ 0 := by rcases hn with e | e; exact absurd e n0; exact e
      have hdn := hD n hnT
      have tn : tg b (d.ph n) = 4 := tN _ (by rw [hdn]; exact n0)
      obtain ⟨w1, w2, w3, w4, w5⟩ := hW.2.2 n hnT
      have e1 : X L xs 164 12 [.ref (d.sa (s + 1)), .long k, l2, .int (bI1 ab), .ref (d.ph bt), .ref (d.ph l), .ref (d.ph n), l7] [] (cl b d (cSt c s p)) = X L xs 164 32 [.ref (d.sa (s + 1)), .long k, l2, .int (bI1 ab), .ref (d.ph bt), .ref (d.ph l), .ref (d.ph n), l7] [] (cl b d (cSt c s (p + (if l = 0 then 0 else 1)))) := by
        rw [k_164_12, if_neg (fun q => n0 ((ph0 hw hdn).mp q)), k_164_17]
        simp only [ph0 hw (okz l hl)]
        by_cases l0 : l = 0
        · rw [if_pos l0, if_pos l0, Nat.add_zero p]
        · rw [if_neg l0, if_neg l0, k_164_22]
          simp only [Hcl, gd_t, decide_true, Bool.and_self, HQ, HZ, h16, Rs d hsd, cl_st b hw _ hsd]
          rw [cSt_1]
      have e2 : ∀ p, X L xs 164 32 [.ref (d.sa (s + 1)), .long k, l2, .int (bI1 ab), .ref (d.ph bt), .ref (d.ph l), .ref (d.ph n), l7] [] (cl b d (cSt c s p)) = X L xs 164 73 [.ref (d.sa (s + 1)), .long k, l2, .int (bI1 ab), .ref (d.ph bt), .ref (d.ph n), .ref (d.ph n), l7] [.int (bI1 (tR ab (c.ck n) k))] (cl b d (cSt c s p)) := by
        intro p
        rw [k_164_32]
        cases ab with
        | true =>
          rw [if_neg (by decide), k_164_40]
          simp only [Hcl, gd_t, decide_true, Bool.and_self, HQ, HZ, tn, HF4, Rn d hdn n0, HcSt, lg_cmp_gt]
          by_cases q : c.ck n ≤ k
          · rw [if_neg (Int64.not_lt.mpr q), k_164_50]
            simp only [tR, if_true, q, decide_true, bI1]
          · rw [if_pos (Int64.not_le.mp q), k_164_54]
            simp only [tR, if_true, q, decide_false, bI1, Bool.false_eq_true, if_false]
        | false =>
          rw [if_pos (by decide), k_164_58]
          simp only [Hcl, gd_t, decide_true, Bool.and_self, HQ, HZ, tn, HF4, Rn d hdn n0, HcSt, lg_cmp_ge]
          by_cases q : c.ck n < k
          · rw [if_neg (i64_nle q), k_164_68]
            simp only [tR, Bool.false_eq_true, if_false, q, decide_true, bI1, if_true]
          · rw [if_pos (i64_le q), k_164_72]
            simp only [tR, Bool.false_eq_true, if_false, q, decide_false, bI1]
      have e3 : ∀ (r : Bool) (p : Nat), X L xs 164 73 [.ref (d.sa (s + 1)), .long k, l2, .int (bI1 ab), .ref (d.ph bt), .ref (d.ph n), .ref (d.ph n), l7] [.int (bI1 r)] (cl b d (cSt c s p)) = X L xs 164 12 [.ref (d.sa (s + 1)), .long k, l2, .int (bI1 ab), .ref (d.ph (if r = ab then bt else n)), .ref (d.ph n), .ref (d.ph (if r then c.P.2.1 n else c.P.1 n)), .int (bI1 r)] [] (cl b d (cSt c s p)) := by
        intro r p
        rw [k_164_73]
        cases r <;> cases ab <;> simp only [bI1, if_true, if_false, Bool.false_eq_true, reduceCtorEq, show (1 : Int32) = 0 ↔ False from by decide, show (0 : Int32) = 1 ↔ False from by decide, k_164_81, k_164_85, k_164_90, k_164_98, k_164_103, Hcl, gd_t, decide_true, Bool.and_self, HQ, HZ, tn, HF4, Rn d hdn n0, HcSt]
      rw [e1, e2, e3]
      have hz2 : z (if tR ab (c.ck n) k then c.P.2.1 n else c.P.1 n) ≤ f := by
        by_cases q : tR ab (c.ck n) k = true
        · rw [if_pos q]; omega
        · rw [if_neg q]; omega
      have hl2 : LZ T (if tR ab (c.ck n) k then c.P.2.1 n else c.P.1 n) := by
        by_cases q : tR ab (c.ck n) k = true
        · rw [if_pos q]; exact hW.lzr hnT
        · rw [if_neg q]; exact hW.lzl hnT
      obtain ⟨l7', i1⟩ := ih _ n (if tR ab (c.ck n) k = ab then bt else n) (p + (if l = 0 then 0 else 1)) (.int (bI1 (tR ab (c.ck n) k))) hl2 hn hz2
      refine ⟨l7', ?_⟩
      rw [i1]
      have e4 : gB c.ck c.P k ab (f + 1) n l bt = ((gB c.ck c.P k ab f (if tR ab (c.ck n) k then c.P.2.1 n else c.P.1 n) n (if tR ab (c.ck n) k = ab then bt else n)).1, (gB c.ck c.P k ab f (if tR ab (c.ck n) k then c.P.2.1 n else c.P.1 n) n (if tR ab (c.ck n) k = ab then bt else n)).2.1, (gB c.ck c.P k ab f (if tR ab (c.ck n) k then c.P.2.1 n else c.P.1 n) n (if tR ab (c.ck n) k = ab then bt else n)).2.2 + (if l = 0 then 0 else 1)) := by
        show (if n = 0 then (l, bt, 0) else _) = _
        rw [if_neg n0]
      rw [e4]
      generalize gB c.ck c.P k ab f (if tR ab (c.ck n) k then c.P.2.1 n else c.P.1 n) n (if tR ab (c.ck n) k = ab then bt else n) = r
      rw [show p + (if l = 0 then 0 else 1) + r.2.2 = p + (r.2.2 + (if l = 0 then 0 else 1)) from by omega]
theorem c164 {b : AH} {d : DS} (hw : DW d) (tN : ∀ x, d.nid x ≠ 0 → tg b x = 4) {s : Nat} (hsd : d.sid (d.sa (s + 1)) = s + 1) (ts : tg b (d.sa (s + 1)) = 5 ∨ tg b (d.sa (s + 1)) = 7) (c : CS) {T z : Nat → Nat} (hW : WF c.P T z) (hD : ∀ x, T x ≠ 0 → d.nid (d.ph x) = x) (k : Int64) (ab : Bool) {F : Nat} (hF : ∀ x, LZ T x → z x ≤ F) (hr : LZ T (c.ro s)) {H : AH}
    (hset : cfD (XM L xs) 11 50 (tg b (d.sa (s + 1))) [.ref (d.sa (s + 1)), .ref (d.ph (gB c.ck c.P k ab F (c.ro s) 0 0).1)] (cl b d (cSt c s (gB c.ck c.P k ab F (c.ro s) 0 0).2.2)) = some (H, none)) :
    XM L xs 164 [.ref (d.sa (s + 1)), .long k, .int (bI1 ab)] (cl b d c) = some (H, some (.ref (d.ph (gB c.ck c.P k ab F (c.ro s) 0 0).2.1))) := by
  have h13 : hasF (tg b (d.sa (s + 1))) 13 = true := by rcases ts with q | q <;> rw [q] <;> rfl
  rw [en_164, k_164_0]
  simp only [Hcl, gd_t, decide_true, Bool.and_self, HQ, HZ, h13, Rs d hsd]
  obtain ⟨l7', e⟩ := c164_loop L xs hw tN hsd ts c hW hD k ab .null F (c.ro s) 0 0 0 .null hr (Or.inl rfl) (hF _ hr)
  rw [cSt_0, hw.1.1, Nat.zero_add] at e
  rw [e, k_164_108]
  simp only [Hcl, gd_t, decide_true, Bool.and_self, HQ, HZ, dS hw hsd, hset, bV_s]
theorem c173_loop {b : AH} {d : DS} (hw : DW d) (tN : ∀ x, d.nid x ≠ 0 → tg b x = 4) {s : Nat} (hsd : d.sid (d.sa (s + 1)) = s + 1) (ts : tg b (d.sa (s + 1)) = 7) (l1 : Nat) {S μ : Nat → Nat} {B : Nat} {M : List Nat} (hM : M.Nodup) (hMS : ∀ x, S x ≠ 0 → x ∈ M) (hD : ∀ x, S x ≠ 0 → d.nid (d.ph x) = x) (hB : ∀ x, S x ≠ 0 → μ x ≤ B) : ∀ (f n : Nat) (c : CS), WS c.P S → MU c.P S μ → LZ S n → (n ≠ 0 → B < μ n + f) → c.lg s = Gs M c.cz → (∀ x, S x ≠ 0 → c.cz x + f < 2 ^ 30) →
    X L xs 173 2 [.ref (d.sa (s + 1)), .ref l1, .ref (d.ph n)] [] (cl b d c) = some (cl b d ((c.scz (grF c.P.2.2 f n c.cz)).slg (u1 c.lg s (Gs M (grF c.P.2.2 f n c.cz)))), none) := by
  have fin : ∀ (c : CS), c.lg s = Gs M c.cz → c = (c.scz c.cz).slg (u1 c.lg s (Gs M c.cz)) := by
    intro c h
    rw [← h, u1_id]
    rfl
  intro f
  induction f with
  | zero =>
    intro n c hs hm hn hf hl hz
    by_cases n0 : n = 0
    · subst n0
      rw [hw.1.1, k_173_2, if_pos rfl, k_173_25]
      exact congrArg (fun q : CS => (some (cl b d q, none) : Option Out)) (fin c hl)
    · have hnS : S n ≠ 0 := by rcases hn with e | e; exact absurd e n0; exact e
      have := hf n0
      have := hB n hnS
      omega
  | succ f ih =>
    intro n c hs hm hn hf hl hz
    by_cases n0 : n = 0
    · subst n0
      unfold grF
      rw [hw.1.1, k_173_2, if_pos rfl, k_173_25, if_pos rfl]
      exact congrArg (fun q : CS => (some (cl b d q, none) : Option Out)) (fin c hl)
    · have hnS : S n ≠ 0 := by rcases hn with e | e; exact absurd e n0; exact e
      have hdn := hD n hnS
      have tn : tg b (d.ph n) = 4 := tN _ (by rw [hdn]; exact n0)
      have hzn := hz n hnS
      have gu := Gs_upd hM c.cz (hMS n hnS) (c.cz n + 1)
      have c1 := c182 L xs hw tN c hsd ts hdn n0 (show c.cz n + 1 < 2 ^ 31 by omega) (show c.cz n < 2 ^ 31 by omega) (by rw [hl]; omega)
      rw [k_173_2, if_neg (fun q => n0 ((ph0 hw hdn).mp q)), k_173_6]
      simp only [Hcl, gd_t, decide_true, Bool.and_self, HQ, HZ, tn, HF4, Rn d hdn n0, ts, dS hw hsd, cc_6_40_7, nI_1, c1, bV_s]
      have hup : LZ S (c.P.2.2 n) := by
        by_cases u0 : c.P.2.2 n = 0
        · exact Or.inl u0
        · exact Or.inr (by rw [((hs.2 n hnS).2.2.1 u0).2]; exact hnS)
      have e1 : (cRsz c s n (c.cz n + 1)).cz = u1 c.cz n (c.cz n + 1) := rfl
      have e2 : (cRsz c s n (c.cz n + 1)).P = c.P := rfl
      have e3 : (cRsz c s n (c.cz n + 1)).lg = u1 c.lg s (c.lg s + Nat.log2 (c.cz n + 1) - Nat.log2 (c.cz n)) := rfl
      have := ih (c.P.2.2 n) (cRsz c s n (c.cz n + 1)) (by rw [e2]; exact hs) (by rw [e2]; exact hm) hup (fun u0 => by
        obtain ⟨a1, a2⟩ := (hs.2 n hnS).2.2.1 u0
        have hS : S (c.P.2.2 n) ≠ 0 := by rw [a2]; exact hnS
        have hlt : μ n < μ (c.P.2.2 n) := by
          obtain ⟨n1, n2⟩ := hm _ hS
          rcases a1 with q | q
          · have := n1 (by rw [q]; exact n0); rw [q] at this; exact this
          · have := n2 (by rw [q]; exact n0); rw [q] at this; exact this
        have := hf n0
        omega) (by
        rw [e1, e3, u1_s, hl]
        omega) (fun x hx => by
        rw [e1]
        have := hz x hx
        by_cases q : x = n
        · rw [q, u1_s]; rw [q] at this; omega
        · rw [u1_o _ _ q]; omega)
      rw [e1, e2, e3] at this
      have e5 : (cRsz c s n (c.cz n + 1)).P.2.2 n = c.P.2.2 n := rfl
      rw [e5, this]
      have e6 : grF c.P.2.2 (f + 1) n c.cz = grF c.P.2.2 f (c.P.2.2 n) (u1 c.cz n (c.cz n + 1)) := by
        show (if n = 0 then c.cz else _) = _
        rw [if_neg n0]
      rw [e6, u1_u1]
      refine congrArg (fun q : CS => (some (cl b d q, none) : Option Out)) ?_
      unfold cRsz
      simp only [A8, A9, A10]
end Cbe
