-- split: the reference's cut, and the new structure on both sides
def uCt (u : Nat → Nat) (a r : Nat) : Nat → Nat := if r = 0 then (if a = 0 then u else u1 u a 0) else u1 (if a = 0 then u else u1 u a 0) r 0
theorem uCt_b (u : Nat → Nat) (a r : Nat) {b : Nat} (b0 : b ≠ 0) : uCt u a r b = if b = a ∨ b = r then 0 else u b := by
  have h1 : (if a = 0 then u else u1 u a 0) b = if b = a then 0 else u b := by
    by_cases a0 : a = 0
    · rw [if_pos a0, if_neg (fun g => b0 (g.trans a0))]
    · rw [if_neg a0]
      by_cases g : b = a
      · rw [g, u1_s, if_pos rfl]
      · rw [u1_o _ _ g, if_neg g]
  unfold uCt
  by_cases r0 : r = 0
  · rw [if_pos r0, h1]
    by_cases g : b = a
    · rw [if_pos g, if_pos (Or.inl g)]
    · rw [if_neg g, if_neg (fun h => h.elim g (fun q => b0 (q.trans r0)))]
  · rw [if_neg r0]
    by_cases g2 : b = r
    · rw [g2, u1_s, if_pos (Or.inr rfl)]
    · rw [u1_o _ _ g2, h1]
      by_cases g : b = a
      · rw [if_pos g, if_pos (Or.inl g)]
      · rw [if_neg g, if_neg (fun h => h.elim g g2)]
theorem uCt_le {u : Nat → Nat} (h : ∀ b, u b ≤ 20002) (a r b : Nat) : uCt u a r b ≤ 20002 := by
  have h1 : ∀ b, (if a = 0 then u else u1 u a 0) b ≤ 20002 := fun b => by
    by_cases a0 : a = 0
    · rw [if_pos a0]; exact h b
    · rw [if_neg a0]
      by_cases g : b = a
      · rw [g, u1_s]; omega
      · rw [u1_o _ _ g]; exact h b
  unfold uCt
  by_cases r0 : r = 0
  · rw [if_pos r0]; exact h1 b
  · rw [if_neg r0]
    by_cases g : b = r
    · rw [g, u1_s]; omega
    · rw [u1_o _ _ g]; exact h1 b
def mCt (m : MS) (s t n a r : Nat) (lt : Bool) : MS := (m.sP (if lt then m.P.1 else u1 m.P.1 n 0, if lt then u1 m.P.2.1 n 0 else m.P.2.1, uCt m.P.2.2 a r)).srt (u1 (u1 m.rt s a) t r)
theorem HmCt (m : MS) (s t n a r : Nat) (lt : Bool) : (mCt m s t n a r lt).kd = m.kd ∧ (mCt m s t n a r lt).rt = u1 (u1 m.rt s a) t r ∧ (mCt m s t n a r lt).pl = m.pl ∧ (mCt m s t n a r lt).nu = m.nu ∧ (mCt m s t n a r lt).cs = m.cs ∧ (mCt m s t n a r lt).it = m.it ∧ (mCt m s t n a r lt).nx = m.nx ∧ (mCt m s t n a r lt).K = m.K ∧ (mCt m s t n a r lt).E = m.E ∧ (mCt m s t n a r lt).nm = m.nm ∧ (mCt m s t n a r lt).fn = m.fn ∧ (mCt m s t n a r lt).im = m.im ∧ (mCt m s t n a r lt).fi = m.fi ∧ (mCt m s t n a r lt).se = m.se ∧ (mCt m s t n a r lt).P = (if lt then m.P.1 else u1 m.P.1 n 0, if lt then u1 m.P.2.1 n 0 else m.P.2.1, uCt m.P.2.2 a r) ∧ (mCt m s t n a r lt).ky = m.ky ∧ (mCt m s t n a r lt).lV = m.lV ∧ (mCt m s t n a r lt).fV = m.fV ∧ (mCt m s t n a r lt).pu = m.pu ∧ (mCt m s t n a r lt).st = m.st ∧ (mCt m s t n a r lt).sp = m.sp ∧ (mCt m s t n a r lt).fk = m.fk ∧ (mCt m s t n a r lt).fv = m.fv ∧ (mCt m s t n a r lt).N = m.N ∧ (mCt m s t n a r lt).rO = m.rO ∧ (mCt m s t n a r lt).rP = m.rP ∧ (mCt m s t n a r lt).rT = m.rT ∧ (mCt m s t n a r lt).rQ = m.rQ := ⟨rfl, rfl, rfl, rfl, rfl, rfl, rfl, rfl, rfl, rfl, rfl, rfl, rfl, rfl, rfl, rfl, rfl, rfl, rfl, rfl, rfl, rfl, rfl, rfl, rfl, rfl, rfl, rfl⟩
section M86
variable (L : Nat) (xs : Nat → Int32)
theorem m_86c {h : AH} (hb : MB h) (m : MS) {s t n : Nat} (hs : s < 40) (ht : t < 40) (n1 : 1 ≤ n) (n2 : n ≤ 20002) (hBP : BP m.P) (k : Int64) {a r : Nat} (hea : a = if m.ky n < k then n else m.P.1 n) (her : r = if m.ky n < k then m.P.2.1 n else n) (pr : Int32) :
    ∃ l7 l8, X L xs 86 90 [.ref 8, .int (nI s), .long k, .null, .int pr, .int (en n), .int (nI t), .null, .null] [] (ml h m) = X L xs 86 218 [.ref 8, .int (nI s), .long k, .null, .int pr, .int (en n), .int (nI t), l7, l8] [] (ml h (mCt m s t n a r (decide (m.ky n < k)))) := by
  obtain ⟨b1, b2, b3, b4⟩ := id hb
  have n31 : n < 2 ^ 31 := by omega
  have en1 : n - 1 + 1 = n := by omega
  have hs31 : s < 2 ^ 31 := by omega
  have ht31 : t < 2 ^ 31 := by omega
  obtain ⟨bl, br, bu⟩ := hBP n
  have ab : a ≤ 20002 := by rw [hea]; split <;> assumption
  have rb : r ≤ 20002 := by rw [her]; split <;> assumption
  have tail : ∀ M : MS, X L xs 86 173 [.ref 8, .int (nI s), .long k, .null, .int pr, .int (en n), .int (nI t), .int (en r), .int (en a)] [] (ml h M) = X L xs 86 218 [.ref 8, .int (nI s), .long k, .null, .int pr, .int (en n), .int (nI t), .int (en r), .int (en a)] [] (ml h ((M.sP (M.P.1, M.P.2.1, uCt M.P.2.2 a r)).srt (u1 (u1 M.rt s a) t r))) := fun M => by
    rw [k_86_173]
    simp only [Hml, b1, b2, b3, b4, HF10, gd_t, decide_true, Bool.and_self, HQ, HZ, inb_nI hs (by decide), nI_clamp hs31, ml_rt]
    rw [k_86_181]
    simp only [Hml, b1, b2, b3, b4, HF10, gd_t, decide_true, Bool.and_self, HQ, HZ, inb_nI ht (by decide), nI_clamp ht31, ml_rt]
    rw [k_86_190]
    simp only [en_m1 (show a < 2 ^ 31 by omega)]
    have e1 : (M.srt (u1 M.rt s a)).srt (u1 (M.srt (u1 M.rt s a)).rt t r) = M.srt (u1 (u1 M.rt s a) t r) := rfl
    rw [e1]
    unfold uCt
    by_cases a0 : a = 0
    · rw [if_pos a0, k_86_204]
      simp only [en_m1 (show r < 2 ^ 31 by omega)]
      by_cases r0 : r = 0
      · rw [if_pos r0, if_pos r0, if_pos a0]
        rfl
      · rw [if_neg r0, if_neg r0, if_pos a0, k_86_210]
        simp only [Hml, b1, b2, b3, b4, HF10, gd_t, decide_true, Bool.and_self, HQ, HZ, inb_en (show 1 ≤ r by omega) rb (by decide), cl_en (show 1 ≤ r by omega) (show r < 2 ^ 31 by omega), ml_Pu0 h _ (show 1 ≤ r by omega)]
        rfl
    · rw [if_neg a0, k_86_196]
      simp only [Hml, b1, b2, b3, b4, HF10, gd_t, decide_true, Bool.and_self, HQ, HZ, inb_en (show 1 ≤ a by omega) ab (by decide), cl_en (show 1 ≤ a by omega) (show a < 2 ^ 31 by omega), ml_Pu0 h _ (show 1 ≤ a by omega)]
      rw [k_86_204]
      simp only [en_m1 (show r < 2 ^ 31 by omega)]
      by_cases r0 : r = 0
      · rw [if_pos r0, if_pos r0, if_neg a0]
        rfl
      · rw [if_neg r0, if_neg r0, if_neg a0, k_86_210]
        simp only [Hml, b1, b2, b3, b4, HF10, gd_t, decide_true, Bool.and_self, HQ, HZ, inb_en (show 1 ≤ r by omega) rb (by decide), cl_en (show 1 ≤ r by omega) (show r < 2 ^ 31 by omega), ml_Pu0 h _ (show 1 ≤ r by omega)]
        rfl
  refine ⟨.int (en r), .int (en a), ?_⟩
  rw [k_86_90]
  simp only [Hml, b1, b2, b3, b4, HF10, gd_t, decide_true, Bool.and_self, HQ, HZ, inb_en n1 n2 (by decide), cl_en n1 n31, en1, lg_cmp_ge]
  unfold mCt
  by_cases lt : m.ky n < k
  · rw [if_pos lt] at hea her
    rw [if_neg (i64_nle lt), k_86_102]
    simp only [Hml, b1, b2, b3, b4, HF10, gd_t, decide_true, Bool.and_self, HQ, HZ, inb_en n1 n2 (by decide), cl_en n1 n31, en1]
    rw [k_86_114]
    simp only [Hml, b1, b2, b3, b4, HF10, gd_t, decide_true, Bool.and_self, HQ, HZ, inb_en n1 n2 (by decide), cl_en n1 n31, en1, lg_cmp_ge]
    rw [if_neg (i64_nle lt), k_86_128, k_86_140]
    simp only [Hml, b1, b2, b3, b4, HF10, gd_t, decide_true, Bool.and_self, HQ, HZ, inb_en n1 n2 (by decide), cl_en n1 n31, en1, lg_cmp_ge]
    rw [if_neg (i64_nle lt), k_86_154]
    simp only [Hml, b1, b2, b3, b4, HF10, gd_t, decide_true, Bool.and_self, HQ, HZ, inb_en n1 n2 (by decide), cl_en n1 n31, en1, ml_Pr0 h _ n1]
    rw [k_86_162]
    have tl := tail (m.sP (m.P.1, u1 m.P.2.1 n 0, m.P.2.2))
    rw [her] at tl ⊢
    rw [hea] at tl ⊢
    rw [tl, decide_eq_true lt]
    rfl
  · rw [if_neg lt] at hea her
    rw [if_pos (i64_le lt), k_86_112, k_86_114]
    simp only [Hml, b1, b2, b3, b4, HF10, gd_t, decide_true, Bool.and_self, HQ, HZ, inb_en n1 n2 (by decide), cl_en n1 n31, en1, lg_cmp_ge]
    rw [if_pos (i64_le lt), k_86_133]
    simp only [Hml, b1, b2, b3, b4, HF10, gd_t, decide_true, Bool.and_self, HQ, HZ, inb_en n1 n2 (by decide), cl_en n1 n31, en1]
    rw [k_86_140]
    simp only [Hml, b1, b2, b3, b4, HF10, gd_t, decide_true, Bool.and_self, HQ, HZ, inb_en n1 n2 (by decide), cl_en n1 n31, en1, lg_cmp_ge]
    rw [if_pos (i64_le lt), k_86_165]
    simp only [Hml, b1, b2, b3, b4, HF10, gd_t, decide_true, Bool.and_self, HQ, HZ, inb_en n1 n2 (by decide), cl_en n1 n31, en1, ml_Pl0 h _ n1]
    have tl := tail (m.sP (u1 m.P.1 n 0, m.P.2))
    rw [her] at tl ⊢
    rw [hea] at tl ⊢
    rw [tl, decide_eq_false lt]
    rfl
theorem c170 (H : AH) : XM L xs 170 [.ref (nn H + 1)] (mk H 7 0 10) = some (nwT H 1, none) := by
  have y0 : nn H + 1 ≠ 0 := Nat.succ_ne_zero _
  have dy : decide (nn H + 1 ≠ 0) = true := decide_eq_true y0
  have tm : tg (mk H 7 0 10) (nn H + 1) = 7 := u1_s _ _ _
  rw [en_170, k_170_0]
  simp only [gd_t, decide_true, Bool.and_self, HQ, HZ, dy, cc_6_3_0, c157 L xs y0 (show hasF (tg (mk H 7 0 10) (nn H + 1)) 12 = true by rw [tm]; rfl) 1, bV_s]
  rfl
end M86
