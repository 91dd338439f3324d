-- heaps: what changes in the invariant, what does not
theorem JL.hp {m m' : MS} {c c' : CS} {d d' : DS} {T T' z : Nat → Nat} (jl : JL m c d T) (hw : WF c.P T z) (hK : m'.K = m.K) (hkd : m'.kd = m.kd) (l1 : ∀ a, T a ≠ 0 → m.kd (T a - 1) = 0 → T' a = T a) (l2 : ∀ a, T' a ≠ 0 → m.kd (T' a - 1) = 0 → T a = T' a) (ela : c'.la = c.la) (etl : c'.tl = c.tl) (edp : c'.dp = c.dp) (ero : ∀ s, s < m.K → m.kd s = 0 → c'.ro s = c.ro s) (hP : ∀ a, T a ≠ 0 → m.kd (T a - 1) = 0 → c'.P.1 a = c.P.1 a ∧ c'.P.2.1 a = c.P.2.1 a ∧ c'.P.2.2 a = c.P.2.2 a ∧ c'.ck a = c.ck a ∧ d'.ph a = d.ph a) (p0 : d'.ph 0 = d.ph 0) : JL m' c' d' T' := by
  obtain ⟨j1, j2, j3⟩ := jl
  have tr : ∀ a, T a ≠ 0 → m.kd (T a - 1) = 0 → ∀ x, T x = T a → c'.P.1 x = c.P.1 x ∧ c'.P.2.1 x = c.P.2.1 x ∧ c'.P.2.2 x = c.P.2.2 x ∧ c'.ck x = c.ck x := fun a ha hk x hx => by
    obtain ⟨a1, a2, a3, a4, a5⟩ := hP x (by rw [hx]; exact ha) (by rw [hx]; exact hk)
    exact ⟨a1, a2, a3, a4⟩
  refine ⟨fun s hs h => ?_, fun s hs h => ?_, fun a ha h => ?_⟩
  · rw [hK] at hs
    rw [hkd] at h
    rw [ela]
    exact j1 s hs h
  · rw [hK] at hs
    rw [hkd] at h
    unfold JLs
    rw [ela, etl, edp, ero s hs h]
    intro l0
    obtain ⟨t1, t2, t, t3, t4, t5⟩ := j2 s hs h l0
    have tl0 : T (c.la s) ≠ 0 := by rw [t1]; exact Nat.succ_ne_zero s
    have k0 : m.kd (T (c.la s) - 1) = 0 := by rw [t1, Nat.add_sub_cancel]; exact h
    have frr := tr (c.la s) tl0 k0
    refine ⟨(l1 _ tl0 k0).trans t1, ?_, t, ?_, ?_, t5.fr hw tl0 (fun x hx => ⟨(frr x hx).1, (frr x hx).2.2.1, (frr x hx).2.2.2⟩) (fun q => ?_)⟩
    · rw [upI_cg hw tl0 (fun x hx => (frr x hx).2.2.1)]
      exact t2
    · rcases t4 with q | q
      · rw [t3, q, p0]
      · rw [t3]
        exact (hP t (by rw [q]; exact Nat.succ_ne_zero s) (by rw [q, Nat.add_sub_cancel]; exact h)).2.2.2.2.symm
    · rcases t4 with q | q
      · exact Or.inl q
      · exact Or.inr ((l1 t (by rw [q]; exact Nat.succ_ne_zero s) (by rw [q, Nat.add_sub_cancel]; exact h)).trans q)
    · have tt := t4.resolve_left q
      exact (hP t (by rw [tt]; exact Nat.succ_ne_zero s) (by rw [tt, Nat.add_sub_cancel]; exact h)).2.2.2.1
  · rw [hkd] at h
    have e := l2 a ha h
    rw [← e] at ha h
    exact (j3 a ha h).fr hw ha (tr a ha h)
set_option maxHeartbeats 1000000 in
theorem hp4 {m m' : MS} {c c' : CS} {T T' z z' : Nat → Nat} {V V' : Nat → List Nat} {s t : Nat} (hs : s < m.K) (ks : 2 ≤ m.kd s ∧ m.kd s ≤ 3) (kt : 2 ≤ m.kd t ∧ m.kd t ≤ 3) (jt : JT m c T z) (jr : JR m c T) (jp : JP m c T) (jz : JZ m c T z V) (eK : m'.K = m.K) (ek : m'.kd = m.kd) (epl : m'.pl = m.pl)
    (hT' : TN T') (lab : ∀ r, r ≠ s → r ≠ t → ∀ a, T' a = r + 1 ↔ T a = r + 1) (emp : t ≠ s → ∀ a, T' a ≠ t + 1) (hW : WF c'.P T' z')
    (fr : ∀ a, T' a ≠ 0 → T' a ≠ s + 1 → c'.P.1 a = c.P.1 a ∧ c'.P.2.1 a = c.P.2.1 a ∧ c'.P.2.2 a = c.P.2.2 a ∧ m'.P.1 a = m.P.1 a ∧ m'.P.2.1 a = m.P.2.1 a ∧ m'.P.2.2 a = m.P.2.2 a ∧ m'.ky a = m.ky a ∧ c'.ck a = c.ck a ∧ c'.cz a = c.cz a ∧ z' a = z a ∧ V' a = V a)
    (own : ∀ a, T' a = s + 1 → m'.P.1 a = c'.P.1 a ∧ m'.P.2.1 a = c'.P.2.1 a ∧ m'.ky a = c'.ck a ∧ c'.cz a = z' a ∧ (V' a).length = 1) (bp : BP m'.P)
    (ss : m'.rt s = c'.ro s ∧ (c'.ro s ≠ 0 → T' (c'.ro s) = s + 1 ∧ c'.P.2.2 (c'.ro s) = 0) ∧ (∀ a, T' a = s + 1 → c'.P.2.2 a = 0 → a = c'.ro s) ∧ c'.he s = Sm T' (s + 1) (fun _ => 1) ∧ c'.hy s = Sm T' (s + 1) (hv c'.P z'))
    (tt : t ≠ s → m'.rt t = 0 ∧ c'.ro t = 0 ∧ c'.he t = 0 ∧ c'.hy t = 0)
    (oo : ∀ r, r ≠ s → r ≠ t → m'.rt r = m.rt r ∧ c'.ro r = c.ro r ∧ c'.he r = c.he r ∧ c'.vs r = c.vs r ∧ c'.lg r = c.lg r ∧ c'.hy r = c.hy r) :
    JT m' c' T' z' ∧ JR m' c' T' ∧ JP m' c' T' ∧ JZ m' c' T' z' V' := by
  have key : ∀ a, T' a ≠ 0 → T' a = s + 1 ∨ (T' a ≠ s + 1 ∧ T a = T' a) := fun a ha => by
    by_cases g : T' a = s + 1
    · exact Or.inl g
    · have e : T' a - 1 + 1 = T' a := by omega
      refine Or.inr ⟨g, ?_⟩
      by_cases g2 : T' a - 1 = t
      · have ts : t ≠ s := fun q => g (by omega)
        exact absurd (by omega) (emp ts a)
      · have := (lab (T' a - 1) (by omega) g2 a).mp e.symm
        omega
  refine ⟨⟨hW, hT', fun a ha => ?_⟩, fun r hr => ?_, ⟨bp, fun a ha => ?_⟩, fun r hr => ?_, fun a ha h => ?_, fun a ha h => ?_⟩
  · rw [eK, ek]
    rcases key a ha with g | g
    · rw [g, Nat.add_sub_cancel]; exact ⟨hs, ks.2⟩
    · rw [← g.2] at ha ⊢
      exact jt.2.2 a ha
  · rw [eK] at hr
    rw [ek, epl]
    obtain ⟨r1, r2, r3, r4⟩ := jr r hr
    by_cases g : r = s
    · rw [g] at r1 ⊢
      exact ⟨fun h => ⟨ss.1, (r1 h).2⟩, fun h => by omega, ss.2.1, ss.2.2.1⟩
    · by_cases g2 : r = t
      · rw [g2] at r1 g ⊢
        obtain ⟨t1, t2, -, -⟩ := tt g
        exact ⟨fun h => ⟨t1.trans t2.symm, (r1 h).2⟩, fun h => by omega, fun h => absurd t2 h, fun a ha _ => absurd ha (emp g a)⟩
      · obtain ⟨o1, o2, -⟩ := oo r g g2
        rw [o1, o2]
        have rf : ∀ a, T a = r + 1 → c'.P.2.2 a = c.P.2.2 a := fun a ha => by
          have e := (lab r g g2 a).mpr ha
          exact (fr a (by rw [e]; exact Nat.succ_ne_zero r) (by rw [e]; omega)).2.2.1
        refine ⟨r1, r2, fun h => ⟨(lab r g g2 _).mpr (r3 h).1, by rw [rf _ (r3 h).1]; exact (r3 h).2⟩, fun a ha hu => ?_⟩
        have e := (lab r g g2 a).mp ha
        rw [rf a e] at hu
        exact r4 a e hu
  · rw [ek]
    rcases key a ha with g | g
    · obtain ⟨w1, w2, w3, -⟩ := own a g
      exact ⟨w1, w2, w3, fun h => by rw [g, Nat.add_sub_cancel] at h; omega⟩
    · obtain ⟨f1, f2, f3, f4, f5, f6, f7, f8, -⟩ := fr a ha g.1
      rw [f1, f2, f3, f4, f5, f6, f7, f8, ← g.2]
      exact jp.2 a (by rw [g.2]; exact ha)
  · rw [eK] at hr
    rw [ek]
    by_cases g : r = s
    · rw [g]
      exact ⟨fun _ => ss.2.2.2.1, fun h => by omega, fun h => by omega, fun _ _ => ss.2.2.2.2⟩
    · by_cases g2 : r = t
      · rw [g2] at g ⊢
        obtain ⟨t1, t2, t3, t4⟩ := tt g
        exact ⟨fun _ => by rw [t3, Sm_none (emp g)], fun h => by omega, fun h => by omega, fun _ _ => by rw [t4, Sm_none (emp g)]⟩
      · obtain ⟨o1, o2, o3, o4, o5, o6⟩ := oo r g g2
        rw [o3, o4, o5, o6]
        obtain ⟨z1, z2, z3, z4⟩ := jz.1 r hr
        have Vo : ∀ f f' : Nat → Nat, (∀ a, T a = r + 1 → f' a = f a) → Sm T' (r + 1) f' = Sm T (r + 1) f := fun f f' he => by
          rw [Sm_T (T := T) (s := r + 1) (fun a => lab r g g2 a) f']
          exact Sm_congr jt.2.1 (Nat.succ_ne_zero r) he
        have ff : ∀ a, T a = r + 1 → c'.P.2.1 a = c.P.2.1 a ∧ z' a = z a ∧ V' a = V a := fun a ha => by
          have e := (lab r g g2 a).mpr ha
          obtain ⟨-, f2, -, -, -, -, -, -, -, f3, f4⟩ := fr a (by rw [e]; exact Nat.succ_ne_zero r) (by rw [e]; omega)
          exact ⟨f2, f3, f4⟩
        refine ⟨fun h => ?_, fun h => ?_, fun h => ?_, fun h h' => ?_⟩
        · rw [Vo (fun _ => 1) (fun _ => 1) (fun _ _ => rfl)]; exact z1 h
        · rw [Vo (fun a => (V a).length) (fun a => (V' a).length) (fun a ha => by show (V' a).length = _; rw [(ff a ha).2.2])]; exact z2 h
        · rw [Vo (fun a => Nat.log2 (z a)) (fun a => Nat.log2 (z' a)) (fun a ha => by show Nat.log2 (z' a) = _; rw [(ff a ha).2.1])]; exact z3 h
        · rw [Vo (hv c.P z) (hv c'.P z') (fun a ha => ?_)]
          · exact z4 h h'
          · obtain ⟨f1, f2, -⟩ := ff a ha
            have ta : T a ≠ 0 := by rw [ha]; exact Nat.succ_ne_zero r
            unfold hv
            rw [f1, f2]
            by_cases b0 : c.P.2.1 a = 0
            · rw [b0, hW.2.1, jt.1.2.1]
            · rw [(ff _ (((jt.1.2.2 a ta).2.1 b0).2.trans ha)).2.1]
  · rw [ek] at h
    rcases key a ha with g | g
    · exact (own a g).2.2.2.1
    · obtain ⟨-, -, -, -, -, -, -, -, f1, f2, -⟩ := fr a ha g.1
      rw [f1, f2]
      rw [← g.2] at ha h
      exact jz.2.1 a ha h
  · rw [ek] at h
    rcases key a ha with g | g
    · exact (own a g).2.2.2.2
    · obtain ⟨-, -, -, -, -, -, -, -, -, -, f3⟩ := fr a ha g.1
      rw [f3]
      rw [← g.2] at ha h
      exact jz.2.2 a ha h
section Hp4
variable (L : Nat) (xs : Nat → Int32)
theorem c124 {b b1 : AH} {d d1 : DS} (hw : DW d) {s : Nat} (hsd : d.sid (d.sa (s + 1)) = s + 1) (ts : tg b (d.sa (s + 1)) = 3) {c c2 c3 : CS} {k : Int64} {v : Int32} {cm q : Nat} (hnew : XM L xs 132 [.ref (nn b + 1), .long k, .int v, .int (nI cm)] (mk (cl b d c) 4 0 9) = some (cl b1 d1 c2, none)) (hw1 : DW d1) (e1 : d1.sa (s + 1) = d.sa (s + 1)) (hsd1 : d1.sid (d1.sa (s + 1)) = s + 1) (ts1 : tg b1 (d.sa (s + 1)) = 3) (hmel : XM L xs 128 [.ref (d.sa (s + 1)), .ref (d.ph (c.ro s)), .ref (nn b + 1)] (cl b1 d1 c2) = some (cl b1 d1 c3, some (.ref (d1.ph q)))) :
    XM L xs 124 [.ref (d.sa (s + 1)), .long k, .int v, .int (nI cm)] (cl b d c) = some (cl b1 d1 ((c3.sro (u1 c3.ro s q)).she (u1 c3.he s (c3.he s + 1))), some (.int (nI (c3.he s + 1)))) := by
  have w13 : ∀ C : CS, wR (cl b1 d1 C) 13 (d.sa (s + 1)) (d1.ph q) = cl b1 d1 (C.sro (u1 C.ro s q)) := fun C => by rw [← e1]; exact cl_ro b1 hw1 C hsd1 q
  have r14 : ∀ C : CS, fI (cl b1 d1 C) 14 (d.sa (s + 1)) = nI (C.he s) := fun C => by rw [← e1]; simp only [Rs d1 hsd1]
  have w14 : ∀ (C : CS) (n : Nat), wI (cl b1 d1 C) 14 (d.sa (s + 1)) (nI n) = cl b1 d1 (C.she (u1 C.he s n)) := fun C n => by rw [← e1]; exact cl_he b1 hw1 C hsd1 n
  rw [en_124, k_124_0]
  simp only [Hcl, gd_t, HF3, ts, Rs d hsd]
  rw [k_124_9]
  simp only [Hcl, gd_t, decide_true, Bool.and_self, HQ, HZ, show decide (nn b + 1 ≠ 0) = true from decide_eq_true (by omega), cc_2_38_0, hnew, bV_s, dS hw hsd, ts1, cc_2_41_3, hmel, bR_s, HF3, w13]
  rw [k_124_23]
  simp only [Hcl, gd_t, HF3, ts1, r14, nI_1, w14]
  rw [k_124_33]
  simp only [Hcl, gd_t, HF3, ts1, r14]
  have e : ((c3.sro (u1 c3.ro s q)).she (u1 (c3.sro (u1 c3.ro s q)).he s ((c3.sro (u1 c3.ro s q)).he s + 1))).he s = c3.he s + 1 := u1_s _ _ _
  rw [e]
  rfl
theorem c126 {b : AH} {d : DS} (hw : DW d) {s t : Nat} (hsd : d.sid (d.sa (s + 1)) = s + 1) (htd : d.sid (d.sa (t + 1)) = t + 1) (ts : tg b (d.sa (s + 1)) = 3) (tt : tg b (d.sa (t + 1)) = 3) (st : s ≠ t) {c c3 : CS} {q : Nat} (hmel : XM L xs 128 [.ref (d.sa (s + 1)), .ref (d.ph (c.ro s)), .ref (d.ph (c.ro t))] (cl b d (c.shy (u1 c.hy s (c.hy s + c.hy t)))) = some (cl b d c3, some (.ref (d.ph q)))) :
    XM L xs 126 [.ref (d.sa (s + 1)), .ref (d.sa (t + 1))] (cl b d c) = some (cl b d (((c3.sro (u1 (u1 c3.ro s q) t 0)).she (u1 (u1 c3.he s (c3.he s + c3.he t)) t 0)).shy (u1 c3.hy t 0)), none) := by
  rw [en_126, k_126_0]
  simp only [Hcl, gd_t, HF3, ts, tt, Rs d hsd, Rs d htd, nI_add, cl_hy b hw _ hsd]
  rw [k_126_13]
  have ero : (c.shy (u1 c.hy s (c.hy s + c.hy t))).ro = c.ro := rfl
  simp only [Hcl, gd_t, decide_true, Bool.and_self, HQ, HZ, HF3, ts, tt, dS hw hsd, Rs d hsd, Rs d htd, ero, cc_2_41_3, hmel, bR_s, cl_ro b hw _ hsd]
  rw [k_126_29]
  simp only [Hcl, gd_t, HF3, ts, tt, Rs d hsd, Rs d htd, nI_add, cl_he b hw _ hsd]
  rw [k_126_42]
  simp only [Hcl, gd_t, HF3, tt, cl_ro0 b hw _ htd]
  rw [k_126_47]
  simp only [Hcl, gd_t, HF3, tt, cl_he0 b hw _ htd]
  rw [k_126_52]
  simp only [Hcl, gd_t, HF3, tt, cl_hy0 b hw _ htd]
  rw [k_126_57]
  rfl
theorem c127 {b : AH} {d : DS} (hw : DW d) (tN : ∀ x, d.nid x ≠ 0 → tg b x = 4) {s : Nat} (hsd : d.sid (d.sa (s + 1)) = s + 1) (ts : tg b (d.sa (s + 1)) = 3) {c c3 : CS} {a q : Nat} (ha : c.ro s = a) (a0 : a ≠ 0) (hda : d.nid (d.ph a) = a) (hq : d.nid (d.ph q) = q) (hhv : XM L xs 130 [.ref (d.ph a)] (cl b d c) = some (cl b d c, some (.int (nI (hvC c a))))) (hle : hvC c a ≤ c.hy s) (hmel : XM L xs 128 [.ref (d.sa (s + 1)), .ref (d.ph (c.P.1 a)), .ref (d.ph (c.P.2.1 a))] (cl b d (c.shy (u1 c.hy s (c.hy s - hvC c a)))) = some (cl b d c3, some (.ref (d.ph q)))) (hhe : 1 ≤ c3.he s) :
    XM L xs 127 [.ref (d.sa (s + 1))] (cl b d c) = some (cl b d (((c3.sro (u1 c3.ro s q)).sP (c3.P.1, c3.P.2.1, if q = 0 then c3.P.2.2 else u1 c3.P.2.2 q 0)).she (u1 c3.he s (c3.he s - 1))), none) := by
  have ta : tg b (d.ph a) = 4 := tN _ (by rw [hda]; exact a0)
  rw [en_127, k_127_0]
  simp only [Hcl, gd_t, HF3, ts, Rs d hsd, ha, ph0 hw hda, a0, if_false]
  rw [k_127_10]
  simp only [Hcl, gd_t, decide_true, Bool.and_self, HQ, HZ, cc_2_48_0, hhv, bI_s, HF3, ts, Rs d hsd, pk_sub hle, cl_hy b hw _ hsd]
  rw [k_127_23]
  have eP : (c.shy (u1 c.hy s (c.hy s - hvC c a))).P = c.P := rfl
  simp only [Hcl, gd_t, decide_true, Bool.and_self, HQ, HZ, HF4, HF3, ta, ts, dS hw hsd, Rn d hda a0, eP, cc_2_41_3, hmel, bR_s, cl_ro b hw _ hsd]
  rw [k_127_39]
  have er : (c3.sro (u1 c3.ro s q)).ro s = q := u1_s _ _ _
  have fin : ∀ C : CS, C.he = c3.he → X L xs 127 54 [.ref (d.sa (s + 1)), .ref (d.ph a)] [] (cl b d C) = some (cl b d (C.she (u1 c3.he s (c3.he s - 1))), none) := fun C hC => by
    rw [k_127_54]
    simp only [Hcl, gd_t, HF3, ts, Rs d hsd, hC, show nI (c3.he s) - 1 = nI (c3.he s - 1) from pk_sub hhe, cl_he b hw _ hsd]
    rw [k_127_64]
  simp only [Hcl, gd_t, HF3, ts, Rs d hsd, er, ph0 hw hq]
  by_cases q0 : q = 0
  · rw [if_pos q0, if_pos q0, fin (c3.sro (u1 c3.ro s q)) rfl]
    rfl
  · have tq : tg b (d.ph q) = 4 := tN _ (by rw [hq]; exact q0)
    rw [if_neg q0, k_127_46, if_neg q0]
    simp only [Hcl, gd_t, HF4, HF3, ts, tq, Rs d hsd, er, cl_P30 b hw _ hq q0]
    rw [fin ((c3.sro (u1 c3.ro s q)).sP ((c3.sro (u1 c3.ro s q)).P.1, (c3.sro (u1 c3.ro s q)).P.2.1, u1 (c3.sro (u1 c3.ro s q)).P.2.2 q 0)) rfl]
    rfl
end Hp4
