-- the class's new Values and Nodes
def Bd (b : AH) (d : DS) : Prop := 32 ≤ nn b ∧ (∀ x, d.nid x ≠ 0 → x ≤ nn b) ∧ (∀ x, d.iid x ≠ 0 → x ≤ nn b) ∧ (∀ x, d.sid x ≠ 0 → x ≤ nn b)
theorem Bd.out {b : AH} {d : DS} (h : Bd b d) {y : Nat} (hy : nn b < y) : Oud d y := by
  obtain ⟨h1, h2, h3, h4⟩ := h
  refine ⟨?_, ?_, ?_, by omega⟩
  · rcases Nat.eq_zero_or_pos (d.nid y) with q | q
    · exact q
    · have := h2 y (by omega); omega
  · rcases Nat.eq_zero_or_pos (d.iid y) with q | q
    · exact q
    · have := h3 y (by omega); omega
  · rcases Nat.eq_zero_or_pos (d.sid y) with q | q
    · exact q
    · have := h4 y (by omega); omega
def cVal (c : CS) (i : Nat) (v : Int32) : CS := (c.svn (u1 c.vn i v)).svx (u1 c.vx i 0)
def bVal (b : AH) (v : Int32) : AH := wI (mk b 8 0 2) 33 (nn b + 1) v
def cAdd (c : CS) (a i : Nat) (v : Int32) : CS := (((cVal c i v).svx (u1 (u1 c.vx i 0) (c.l1 a) i)).sl1 (u1 c.l1 a i)).snv (u1 c.nv a (c.nv a + 1))
section Cnew
variable (L : Nat) (xs : Nat → Int32)
theorem c184 {H : AH} {y : Nat} (v : Int32) (ht : tg H y = 8) (y0 : y ≠ 0) : XM L xs 184 [.ref y, .int v] H = some (wI H 33 y v, none) := by
  rw [en_184, k_184_0]
  simp only [ne_eq, y0, not_false_eq_true, decide_true, HQ, Bool.and_self, gd_t, ht, HF8, k_184_9]
/-- a new Value, numbered -/
theorem cl_val {b : AH} {d : DS} {c : CS} (hw : DW d) (hB : Bd b d) (hc : Cld d c) {i : Nat} (i0 : i ≠ 0) (hi : d.iid (d.vh i) ≠ i) (v : Int32) : wI (mk (cl b d c) 8 0 2) 33 (nn b + 1) v = cl (bVal b v) (d.ai i (nn b + 1)) (cVal c i v) := by
  have hy := hB.out (Nat.lt_succ_self _)
  rw [mk_cl b c hy, wI_cl _ c hy]
  refine cl_ai hw hc hy i0 hi ?_ ?_
  · show fI (wI (mk b 8 0 2) 33 (nn b + 1) v) 33 (nn b + 1) = v
    simp only [HwI, if_true]
  · show fR (wI (mk b 8 0 2) 33 (nn b + 1) v) 34 (nn b + 1) = 0
    simp only [HwI, Hmk, if_true]
theorem c134 {b : AH} {d : DS} (hw : DW d) (hB : Bd b d) (tN : ∀ x, d.nid x ≠ 0 → tg b x = 4) (tI : ∀ x, d.iid x ≠ 0 → tg b x = 8) {c : CS} (hc : Cld d c) {a i : Nat} (hd : d.nid (d.ph a) = a) (a0 : a ≠ 0) (l0 : c.l1 a ≠ 0) (hl : d.iid (d.vh (c.l1 a)) = c.l1 a) (i0 : i ≠ 0) (hi : d.iid (d.vh i) ≠ i) (v : Int32) :
    XM L xs 134 [.ref (d.ph a), .int v] (cl b d c) = some (cl (bVal b v) (d.ai i (nn b + 1)) (cAdd c a i v), none) := by
  have hy := hB.out (Nat.lt_succ_self _)
  have hw' := hw.ai i0 (show nn b + 1 ≠ 0 from by omega) hi
  have li : c.l1 a ≠ i := ne_of_ok hi hl
  have ia : d.ph a ≠ nn b + 1 := fun e => by have := hB.2.1 (d.ph a) (by rw [hd]; exact a0); omega
  have il : d.vh (c.l1 a) ≠ nn b + 1 := fun e => by have := hB.2.2.1 (d.vh (c.l1 a)) (by rw [hl]; exact l0); omega
  have ta : tg (bVal b v) (d.ph a) = 4 := by
    show u1 b.2.2.1 (nn b + 1) 8 (d.ph a) = 4
    rw [u1_o _ _ ia]
    exact tN _ (by rw [hd]; exact a0)
  have tl : tg (bVal b v) (d.vh (c.l1 a)) = 8 := by
    show u1 b.2.2.1 (nn b + 1) 8 (d.vh (c.l1 a)) = 8
    rw [u1_o _ _ il]
    exact tI _ (by rw [hl]; exact l0)
  have ty : tg (mk (cl b d c) 8 0 2) (nn b + 1) = 8 := u1_s _ _ _
  have hd' : (d.ai i (nn b + 1)).nid ((d.ai i (nn b + 1)).ph a) = a := hd
  have ev : (d.ai i (nn b + 1)).vh (c.l1 a) = d.vh (c.l1 a) := u1_o _ _ li
  have hl' : (d.ai i (nn b + 1)).iid ((d.ai i (nn b + 1)).vh (c.l1 a)) = c.l1 a := by
    rw [ev]
    show u1 d.iid (nn b + 1) i (d.vh (c.l1 a)) = _
    rw [u1_o _ _ il]; exact hl
  have ey : (d.ai i (nn b + 1)).vh i = nn b + 1 := u1_s _ _ _
  have r32 := (Rn (d.ai i (nn b + 1)) hd' a0 (bVal b v) (cVal c i v)).2.2.2.2.2.2.2.2
  have e1 : fR (cl (bVal b v) (d.ai i (nn b + 1)) (cVal c i v)) 32 (d.ph a) = d.vh (c.l1 a) := r32.trans ev
  have w1 := cl_vx (bVal b v) hw' (cVal c i v) hl' l0 i
  rw [ey, ev] at w1
  have w2 := cl_l1 (bVal b v) hw' ((cVal c i v).svx (u1 (cVal c i v).vx (c.l1 a) i)) hd' a0 i
  rw [ey] at w2
  have w3 := cl_nv (bVal b v) hw' (((cVal c i v).svx (u1 (cVal c i v).vx (c.l1 a) i)).sl1 (u1 ((cVal c i v).svx (u1 (cVal c i v).vx (c.l1 a) i)).l1 a i)) hd' a0 (c.nv a + 1)
  have r30 := (Rn (d.ai i (nn b + 1)) hd' a0 (bVal b v) (((cVal c i v).svx (u1 (cVal c i v).vx (c.l1 a) i)).sl1 (u1 ((cVal c i v).svx (u1 (cVal c i v).vx (c.l1 a) i)).l1 a i))).2.2.1
  have ln0 : ¬ d.vh (c.l1 a) = 0 := fun e => l0 ((vh0 hw hl).mp e)
  rw [en_134, k_134_0, k_134_3]
  simp only [Hcl, ne_eq, show ¬ nn b + 1 = 0 from by omega, not_false_eq_true, decide_true, HQ, Bool.and_self, gd_t, cc_3_22_0, c184 L xs v ty (show nn b + 1 ≠ 0 from by omega), bV_s]
  rw [cl_val hw hB hc i0 hi v]
  simp only [Hcl, ta, HF4, gd_t, e1, ln0, if_false]
  rw [k_134_16]
  simp only [Hcl, ta, HF4, gd_t, e1, tl, HF8]
  rw [w1, k_134_24]
  simp only [Hcl, ta, HF4, gd_t]
  rw [show wR (cl (bVal b v) (d.ai i (nn b + 1)) ((cVal c i v).svx (u1 (cVal c i v).vx (c.l1 a) i))) 32 (d.ph a) (nn b + 1) = _ from w2, k_134_29]
  simp only [Hcl, ta, HF4, gd_t]
  rw [show fI (cl (bVal b v) (d.ai i (nn b + 1)) (((cVal c i v).svx (u1 (cVal c i v).vx (c.l1 a) i)).sl1 (u1 ((cVal c i v).svx (u1 (cVal c i v).vx (c.l1 a) i)).l1 a i))) 30 (d.ph a) = nI (c.nv a) from r30, nI_1]
  rw [show wI (cl (bVal b v) (d.ai i (nn b + 1)) (((cVal c i v).svx (u1 (cVal c i v).vx (c.l1 a) i)).sl1 (u1 ((cVal c i v).svx (u1 (cVal c i v).vx (c.l1 a) i)).l1 a i))) 30 (d.ph a) (nI (c.nv a + 1)) = _ from w3, k_134_39]
  rfl
/-- a new Node with its Value -/
def bNod (b : AH) (k : Int64) (v : Int32) (n : Nat) : AH :=
  let y := nn b + 1
  let b1 := wI (wL (wI (mk b 4 0 9) 29 y 1) 24 y k) 25 y (nI n)
  wI (wR (wR (bVal b1 v) 31 y (y + 1)) 32 y (y + 1)) 30 y 1
theorem c132 {b : AH} {d : DS} (hw : DW d) (hB : Bd b d) {c : CS} (hc : Cld d c) {a i : Nat} (a0 : a ≠ 0) (ha : d.nid (d.ph a) ≠ a) (i0 : i ≠ 0) (hi : d.iid (d.vh i) ≠ i) (k : Int64) (v : Int32) (n : Nat) :
    XM L xs 132 [.ref (nn b + 1), .long k, .int v, .int (nI n)] (mk (cl b d c) 4 0 9) = some (cl (bNod b k v n) ((d.ai i (nn b + 2)).an a (nn b + 1)) ((cVal c i v).nd a k n 1 1 i i), none) := by
  have hy := hB.out (Nat.lt_succ_self _)
  have hy2 : Oud d (nn b + 2) := hB.out (by omega)
  have hb1 : Bd (wI (wL (wI (mk b 4 0 9) 29 (nn b + 1) 1) 24 (nn b + 1) k) 25 (nn b + 1) (nI n)) d := by
    obtain ⟨h1, h2, h3, h4⟩ := hB
    have e : nn (wI (wL (wI (mk b 4 0 9) 29 (nn b + 1) 1) 24 (nn b + 1) k) 25 (nn b + 1) (nI n)) = nn b + 1 := rfl
    exact ⟨by rw [e]; omega, fun x hx => by rw [e]; have := h2 x hx; omega, fun x hx => by rw [e]; have := h3 x hx; omega, fun x hx => by rw [e]; have := h4 x hx; omega⟩
  have t4 : ∀ H : AH, tg (wI (wL (wI (mk H 4 0 9) 29 (nn H + 1) 1) 24 (nn H + 1) k) 25 (nn H + 1) (nI n)) (nn H + 1) = 4 := fun H => u1_s _ _ _
  rw [mk_cl b c hy, en_132, k_132_0]
  simp only [Hcl, ne_eq, show ¬ nn b + 1 = 0 from by omega, not_false_eq_true, decide_true, HQ, Bool.and_self, gd_t, show tg (mk b 4 0 9) (nn b + 1) = 4 from u1_s _ _ _, HF4]
  rw [wI_cl _ c hy, k_132_9]
  simp only [Hcl, gd_t, show tg (wI (mk b 4 0 9) 29 (nn b + 1) 1) (nn b + 1) = 4 from u1_s _ _ _, HF4]
  rw [wL_cl _ c hy, k_132_14]
  simp only [Hcl, gd_t, show tg (wL (wI (mk b 4 0 9) 29 (nn b + 1) 1) 24 (nn b + 1) k) (nn b + 1) = 4 from u1_s _ _ _, HF4]
  rw [wI_cl _ c hy, k_132_20, k_132_24]
  have e2 : nn (cl (wI (wL (wI (mk b 4 0 9) 29 (nn b + 1) 1) 24 (nn b + 1) k) 25 (nn b + 1) (nI n)) d c) + 1 = nn b + 2 := rfl
  have ty : tg (mk (cl (wI (wL (wI (mk b 4 0 9) 29 (nn b + 1) 1) 24 (nn b + 1) k) 25 (nn b + 1) (nI n)) d c) 8 0 2) (nn b + 2) = 8 := u1_s _ _ _
  rw [e2]
  simp only [ne_eq, show ¬ nn b + 2 = 0 from by omega, not_false_eq_true, decide_true, HQ, Bool.and_self, gd_t, cc_3_22_0, c184 L xs v ty (show nn b + 2 ≠ 0 from by omega), bV_s]
  have ev := cl_val (c := c) hw hb1 hc i0 hi v
  rw [show wI (mk (cl (wI (wL (wI (mk b 4 0 9) 29 (nn b + 1) 1) 24 (nn b + 1) k) 25 (nn b + 1) (nI n)) d c) 8 0 2) 33 (nn b + 2) v = _ from ev]
  have hyi : Oud (d.ai i (nn b + 2)) (nn b + 1) := ⟨hy.1, by show u1 d.iid (nn b + 2) i (nn b + 1) = 0; rw [u1_o _ _ (by omega)]; exact hy.2.1, hy.2.2.1, hy.2.2.2⟩
  have t5 : tg (bVal (wI (wL (wI (mk b 4 0 9) 29 (nn b + 1) 1) 24 (nn b + 1) k) 25 (nn b + 1) (nI n)) v) (nn b + 1) = 4 := by
    show u1 (u1 b.2.2.1 (nn b + 1) 4) (nn b + 2) 8 (nn b + 1) = 4
    rw [u1_o _ _ (by omega), u1_s]
  simp only [Hcl, t5, HF4, gd_t]
  rw [show nn (wI (wL (wI (mk b 4 0 9) 29 (nn b + 1) 1) 24 (nn b + 1) k) 25 (nn b + 1) (nI n)) + 1 = nn b + 2 from rfl]
  rw [wR_cl _ _ hyi, k_132_32]
  have t6 : ∀ H : AH, tg (wR H 31 (nn b + 1) (nn b + 2)) (nn b + 1) = tg H (nn b + 1) := fun _ => rfl
  simp only [Hcl, t6, t5, HF4, gd_t]
  have r31 : fR (cl (wR (bVal (wI (wL (wI (mk b 4 0 9) 29 (nn b + 1) 1) 24 (nn b + 1) k) 25 (nn b + 1) (nI n)) v) 31 (nn b + 1) (nn b + 2)) (d.ai i (nn b + 2)) (cVal c i v)) 31 (nn b + 1) = nn b + 2 := by
    show clR _ _ _ 31 (nn b + 1) = _
    rw [clR_o _ _ hyi]
    show u2 _ 31 (nn b + 1) (nn b + 2) 31 (nn b + 1) = _
    unfold u2
    rw [if_pos rfl, if_pos rfl]
  rw [r31, wR_cl _ _ hyi, k_132_40]
  simp only [Hcl, show ∀ H : AH, tg (wR H 32 (nn b + 1) (nn b + 2)) (nn b + 1) = tg H (nn b + 1) from fun _ => rfl, t6, t5, HF4, gd_t]
  rw [wI_cl _ _ hyi, k_132_45]
  have hwi := hw.ai i0 (show nn b + 2 ≠ 0 from by omega) hi
  have hci : Cld (d.ai i (nn b + 2)) (cVal c i v) := by
    have kv : ∀ j, d.iid (d.vh j) = j → (d.ai i (nn b + 2)).iid ((d.ai i (nn b + 2)).vh j) = j := fun j hj => by
      have ji : j ≠ i := ne_of_ok hi hj
      show u1 d.iid (nn b + 2) i (u1 d.vh i (nn b + 2) j) = j
      rw [u1_o d.vh _ ji]
      by_cases j0 : j = 0
      · rw [j0, hw.1.2.1, u1_o _ _ (by omega)]; exact hw.1.2.2.2.2.1
      · rw [u1_o _ _ (fun e => by have := hB.2.2.1 (d.vh j) (by rw [hj]; exact j0); omega)]; exact hj
    have kz : (d.ai i (nn b + 2)).iid ((d.ai i (nn b + 2)).vh 0) = 0 := kv 0 (by rw [hw.1.2.1]; exact hw.1.2.2.2.2.1)
    refine ⟨fun x hx => ?_, fun x hx => ?_, hc.2.2.1, hc.2.2.2⟩
    · obtain ⟨q1, q2, q3, q4, q5⟩ := hc.1 x hx
      exact ⟨q1, q2, q3, kv _ q4, kv _ q5⟩
    · have hx' : u1 d.iid (nn b + 2) i x ≠ 0 := hx
      show (d.ai i (nn b + 2)).iid ((d.ai i (nn b + 2)).vh (u1 c.vx i 0 (u1 d.iid (nn b + 2) i x))) = u1 c.vx i 0 (u1 d.iid (nn b + 2) i x)
      by_cases e : x = nn b + 2
      · rw [e, u1_s, u1_s]; exact kz
      · rw [u1_o _ _ e] at hx' ⊢
        rw [u1_o c.vx _ (ne_of_ok hi (by rw [hw.2.2.1 x hx']))]
        exact kv _ (hc.2.1 x hx')
  rw [cl_an (a := a) hwi hci hyi a0 ha (k := k) (n := n) (z := 1) (v := 1) (f := i) (l := i)]
  · rfl
  · simp only [bVal, HwI, HwL, HwR, Hmk, if_true]
    show (if nn b + 1 = nn b + 1 + 1 then (0 : Int64) else _) = k
    rw [if_neg (by omega)]
  · simp only [bVal, HwI, HwL, HwR, Hmk]
    simp
  · simp only [bVal, HwI, HwL, HwR, Hmk]
    simp
    rfl
  · simp only [HwI, if_true]
    rfl
  · simp only [bVal, HwI, HwL, HwR, Hmk]
    simp
  · simp only [bVal, HwI, HwL, HwR, Hmk]
    simp
  · simp only [bVal, HwI, HwL, HwR, Hmk]
    simp
  · have : (d.ai i (nn b + 2)).vh i = nn b + 2 := u1_s _ _ _
    rw [this]
    simp only [HwI, HwR]
    simp
  · have : (d.ai i (nn b + 2)).vh i = nn b + 2 := u1_s _ _ _
    rw [this]
    simp only [HwI, HwR]
    simp
end Cnew
