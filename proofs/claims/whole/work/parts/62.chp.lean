-- the reference's melded is mel; the class's melded
theorem bk_mel (q : Nat) : ∀ (l : List (Nat × Nat)) (P Q : PT) (E : Nat → Prop), P.1 = Q.1 → (∀ x, ¬ E x → P.2.1 x = Q.2.1 x) → (bkF P (l.map Prod.fst) q).2 = hd l q ∧ (bkF P (l.map Prod.fst) q).1.1 = (mel Q l q).1 ∧ (∀ x, ¬ E x → (bkF P (l.map Prod.fst) q).1.2.1 x = (mel Q l q).2.1 x) ∧ (bkF P (l.map Prod.fst) q).1.2.2 = P.2.2 := by
  intro l
  induction l with
  | nil => intro P Q E h1 h2; exact ⟨rfl, h1, h2, rfl⟩
  | cons p t ih =>
    intro P Q E h1 h2
    obtain ⟨i1, i2, i3, i4⟩ := ih P (cutR Q p.1) (fun x => E x ∨ x = p.1) h1 (fun x hx => by
      show P.2.1 x = u1 Q.2.1 p.1 0 x
      rw [u1_o _ _ (fun e => hx (Or.inr e))]
      exact h2 x (fun e => hx (Or.inl e)))
    have e : bkF P ((p :: t).map Prod.fst) q = bk1 p.1 (bkF P (t.map Prod.fst) q) := rfl
    rw [e]
    refine ⟨rfl, ?_, fun x hx => ?_, i4⟩
    · show u1 (bkF P (t.map Prod.fst) q).1.1 p.1 (bkF P (t.map Prod.fst) q).2 = u1 (mel (cutR Q p.1) t q).1 p.1 (hd t q)
      rw [i1, i2]
    · show u1 (bkF P (t.map Prod.fst) q).1.2.1 p.1 ((bkF P (t.map Prod.fst) q).1.1 p.1) x = u1 (mel (cutR Q p.1) t q).2.1 p.1 ((mel (cutR Q p.1) t q).1 p.1) x
      rw [i2]
      by_cases xp : x = p.1
      · rw [xp, u1_s, u1_s]
      · rw [u1_o _ _ xp, u1_o _ _ xp]
        exact i3 x (fun g => by rcases g with g | g; exact hx g; exact xp g)
def zC (c : CS) (a : Nat) : Nat := if a = 0 then 0 else c.cz a
def hvC (c : CS) (a : Nat) : Nat := if c.cz a < 2 * zC c (c.P.2.1 a) then 1 else 0
def cPo (c : CS) (s w o : Nat) : CS :=
  let c3 := ((c.shy (u1 c.hy s (c.hy s - hvC c w))).sP (c.P.1, u1 c.P.2.1 w (c.P.1 w), c.P.2.2)).scz (u1 c.cz w (c.cz w + c.cz o))
  c3.shy (u1 c3.hy s (c3.hy s + hvC c3 w))
def cstp (s : Nat) (c : CS) (p : Nat) (x : Nat × Nat) : CS :=
  if p = 0 then cPo (c.sst (u1 c.st s (c.st s + 1))) s x.1 x.2 else (cPo (c.sst (u1 c.st s (c.st s + 1))) s x.1 x.2).sP (stl (cPo (c.sst (u1 c.st s (c.st s + 1))) s x.1 x.2).P p x.1)
def crun (s : Nat) : CS → Nat → List (Nat × Nat) → CS × Nat
  | c, p, [] => (c, p)
  | c, p, x :: t => crun s (cstp s c p x) x.1 t
section Chp
variable (L : Nat) (xs : Nat → Int32)
theorem c130 {b : AH} {d : DS} (hw : DW d) (tN : ∀ x, d.nid x ≠ 0 → tg b x = 4) (c : CS) {a : Nat} (a0 : a ≠ 0) (hda : d.nid (d.ph a) = a) (hr : d.nid (d.ph (c.P.2.1 a)) = c.P.2.1 a) (h1 : c.cz a < 2 ^ 29) (h2 : zC c (c.P.2.1 a) < 2 ^ 29) :
    XM L xs 130 [.ref (d.ph a)] (cl b d c) = some (cl b d c, some (.int (nI (hvC c a)))) := by
  have ta : tg b (d.ph a) = 4 := tN _ (by rw [hda]; exact a0)
  have e47 := c47 L xs hw tN c hr
  have ez : (if c.P.2.1 a = 0 then 0 else c.cz (c.P.2.1 a)) = zC c (c.P.2.1 a) := rfl
  rw [ez] at e47
  rw [en_130, k_130_0]
  simp only [Hcl, gd_t, decide_true, Bool.and_self, HQ, HZ, ta, HF4, Rn d hda a0, cc_2_31_0, e47, bI_s, nI_2c, pk_mul, (nI_iff (show 2 * zC c (c.P.2.1 a) < 2 ^ 31 by omega) (show c.cz a < 2 ^ 31 by omega)).1]
  unfold hvC
  by_cases q : c.cz a < 2 * zC c (c.P.2.1 a)
  · rw [if_neg (by omega), if_pos q, k_130_16, k_130_21]; rfl
  · rw [if_pos (by omega), if_neg q, k_130_20, k_130_21]; rfl
theorem c131 {b : AH} {d : DS} (tN : ∀ x, d.nid x ≠ 0 → tg b x = 4) {s : Nat} (hsd : d.sid (d.sa (s + 1)) = s + 1) (ts : tg b (d.sa (s + 1)) = 3) (c : CS) (hk : c.kd s = 2 ∨ c.kd s = 3) {a e : Nat} (a0 : a ≠ 0) (hda : d.nid (d.ph a) = a) (e0 : e ≠ 0) (hde : d.nid (d.ph e) = e) (h1 : c.cc a < 2 ^ 31) (h2 : c.cc e < 2 ^ 31) :
    XM L xs 131 [.ref (d.sa (s + 1)), .ref (d.ph a), .ref (d.ph e)] (cl b d c) = some (cl b d c, some (.int (bI1 (fsM (c.kd s) c.ck c.cc a e)))) := by
  have ta : tg b (d.ph a) = 4 := tN _ (by rw [hda]; exact a0)
  have te : tg b (d.ph e) = 4 := tN _ (by rw [hde]; exact e0)
  have c3 : (3 : Int32) = nI 3 := by decide
  rw [en_131, k_131_0]
  simp only [Hcl, gd_t, decide_true, Bool.and_self, HQ, HZ, ta, te, HF4, Rn d hda a0, Rn d hde e0, lg_cmp_eq]
  unfold fsM
  by_cases q : c.ck a = c.ck e
  · rw [if_neg (fun g => g q), if_pos q, k_131_12]
    simp only [Hcl, gd_t, decide_true, Bool.and_self, HQ, HZ, ta, te, HF4, Rn d hda a0, Rn d hde e0, (nI_iff h2 h1).1]
    by_cases g : c.cc a < c.cc e
    · rw [if_neg (by omega), k_131_23, k_131_28, decide_eq_true g]; rfl
    · rw [if_pos (by omega), k_131_27, k_131_28, decide_eq_false g]; rfl
  · rw [if_pos q, if_neg q, k_131_29]
    simp only [Hcl, gd_t, decide_true, Bool.and_self, HQ, HZ, ts, HF3, Rs d hsd, c3, nI_eq (show c.kd s < 2 ^ 31 by omega) (show 3 < 2 ^ 31 by decide)]
    rcases hk with k | k
    · rw [if_pos (by omega), if_pos k, k_131_57]
      simp only [Hcl, gd_t, decide_true, Bool.and_self, HQ, HZ, ta, te, HF4, Rn d hda a0, Rn d hde e0, lg_cmp_ge]
      by_cases g : c.ck a < c.ck e
      · rw [if_neg (i64_nle g), k_131_69, k_131_74, decide_eq_true g]; rfl
      · rw [if_pos (i64_le g), k_131_73, k_131_74, decide_eq_false g]; rfl
    · rw [if_neg (fun g => g k), if_neg (by omega), k_131_37]
      simp only [Hcl, gd_t, decide_true, Bool.and_self, HQ, HZ, ta, te, HF4, Rn d hda a0, Rn d hde e0, lg_cmp_le]
      by_cases g : c.ck e < c.ck a
      · rw [if_neg (i64_nle g), k_131_49, k_131_74, decide_eq_true g]; rfl
      · rw [if_pos (i64_le g), k_131_53, k_131_74, decide_eq_false g]; rfl
theorem c129 {b : AH} {d : DS} (hw : DW d) (tN : ∀ x, d.nid x ≠ 0 → tg b x = 4) {s : Nat} (hsd : d.sid (d.sa (s + 1)) = s + 1) (ts : tg b (d.sa (s + 1)) = 3) (c : CS) {w o : Nat} (w0 : w ≠ 0) (hdw : d.nid (d.ph w) = w) (o0 : o ≠ 0) (hdo : d.nid (d.ph o) = o) (hl : d.nid (d.ph (c.P.1 w)) = c.P.1 w) (hr : d.nid (d.ph (c.P.2.1 w)) = c.P.2.1 w) (h1 : c.cz w + c.cz o < 2 ^ 29) (h2 : zC c (c.P.2.1 w) < 2 ^ 29) (h3 : zC (((c.shy (u1 c.hy s (c.hy s - hvC c w))).sP (c.P.1, u1 c.P.2.1 w (c.P.1 w), c.P.2.2)).scz (u1 c.cz w (c.cz w + c.cz o))) (c.P.1 w) < 2 ^ 29) (h4 : hvC c w ≤ c.hy s) :
    XM L xs 129 [.ref (d.sa (s + 1)), .ref (d.ph w), .ref (d.ph o)] (cl b d c) = some (cl b d (cPo c s w o), none) := by
  have tw : tg b (d.ph w) = 4 := tN _ (by rw [hdw]; exact w0)
  have to : tg b (d.ph o) = 4 := tN _ (by rw [hdo]; exact o0)
  rw [en_129, k_129_0]
  simp only [Hcl, gd_t, decide_true, Bool.and_self, HQ, HZ, ts, HF3, Rs d hsd, cc_2_48_0, c130 L xs hw tN c w0 hdw hr (by omega) h2, bI_s, pk_sub h4, cl_hy b hw _ hsd]
  rw [k_129_13]
  simp only [Hcl, gd_t, decide_true, Bool.and_self, HQ, HZ, tw, HF4, Rn d hdw w0, Uhy, cl_P2 b hw _ hdw w0]
  rw [k_129_21]
  simp only [Hcl, gd_t, decide_true, Bool.and_self, HQ, HZ, tw, to, HF4, Rn d hdw w0, Rn d hdo o0, Uhy, UP, nI_add, cl_cz b hw _ hdw w0]
  rw [k_129_34]
  have e1 : (((c.shy (u1 c.hy s (c.hy s - hvC c w))).sP (c.P.1, u1 c.P.2.1 w (c.P.1 w), c.P.2.2)).scz (u1 c.cz w (c.cz w + c.cz o))).P.2.1 w = c.P.1 w := u1_s _ _ _
  have e2 : (((c.shy (u1 c.hy s (c.hy s - hvC c w))).sP (c.P.1, u1 c.P.2.1 w (c.P.1 w), c.P.2.2)).scz (u1 c.cz w (c.cz w + c.cz o))).cz w = c.cz w + c.cz o := u1_s _ _ _
  have c2 := c130 L xs hw tN (((c.shy (u1 c.hy s (c.hy s - hvC c w))).sP (c.P.1, u1 c.P.2.1 w (c.P.1 w), c.P.2.2)).scz (u1 c.cz w (c.cz w + c.cz o))) w0 hdw (by rw [e1]; exact hl) (by rw [e2]; exact h1) (by rw [e1]; exact h3)
  simp only [Hcl, gd_t, decide_true, Bool.and_self, HQ, HZ, ts, HF3, Rs d hsd, cc_2_48_0, c2, bI_s, nI_add, cl_hy b hw _ hsd, k_129_47]
  rfl
end Chp
