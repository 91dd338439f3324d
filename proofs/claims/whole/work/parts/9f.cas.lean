-- a new structure's number
def NS (c c' : CS) (s k p : Nat) : Prop := (c'.kd = u1 c.kd s k ∧ c'.he = u1 c.he s 0 ∧ c'.pu = u1 c.pu s 0 ∧ c'.st = u1 c.st s 0 ∧ c'.vs = u1 c.vs s 0 ∧ c'.dp = u1 c.dp s 0 ∧ c'.lg = u1 c.lg s 0 ∧ c'.hy = u1 c.hy s 0 ∧ c'.ro = u1 c.ro s 0 ∧ c'.la = u1 c.la s 0 ∧ c'.tl = u1 c.tl s 0 ∧ c'.pa = u1 c.pa s p) ∧ c'.ck = c.ck ∧ c'.cc = c.cc ∧ c'.P = c.P ∧ c'.cz = c.cz ∧ c'.nv = c.nv ∧ c'.f1 = c.f1 ∧ c'.l1 = c.l1 ∧ c'.vn = c.vn ∧ c'.vx = c.vx ∧ c'.K = c.K ∧ c'.ar = c.ar ∧ c'.cn = c.cn ∧ c'.E = c.E ∧ c'.fk = c.fk ∧ c'.fv = c.fv ∧ c'.N = c.N ∧ c'.rO = c.rO ∧ c'.rP = c.rP ∧ c'.rT = c.rT ∧ c'.rQ = c.rQ
theorem NS_ex (c : CS) (s k p : Nat) : ∃ c', NS c c' s k p := by
  obtain ⟨c1, h1⟩ : ∃ c1, c1 = (((c.skd (u1 c.kd s k)).she (u1 c.he s 0)).spu (u1 c.pu s 0)).sst (u1 c.st s 0) := ⟨_, rfl⟩
  have e1 : c1.kd = u1 c.kd s k ∧ c1.he = u1 c.he s 0 ∧ c1.pu = u1 c.pu s 0 ∧ c1.st = u1 c.st s 0 ∧ c1.vs = c.vs ∧ c1.dp = c.dp ∧ c1.lg = c.lg ∧ c1.hy = c.hy ∧ c1.ro = c.ro ∧ c1.la = c.la ∧ c1.tl = c.tl ∧ c1.pa = c.pa ∧ c1.ck = c.ck ∧ c1.cc = c.cc ∧ c1.P = c.P ∧ c1.cz = c.cz ∧ c1.nv = c.nv ∧ c1.f1 = c.f1 ∧ c1.l1 = c.l1 ∧ c1.vn = c.vn ∧ c1.vx = c.vx ∧ c1.K = c.K ∧ c1.ar = c.ar ∧ c1.cn = c.cn ∧ c1.E = c.E ∧ c1.fk = c.fk ∧ c1.fv = c.fv ∧ c1.N = c.N ∧ c1.rO = c.rO ∧ c1.rP = c.rP ∧ c1.rT = c.rT ∧ c1.rQ = c.rQ := by
    rw [h1]
    exact ⟨rfl, rfl, rfl, rfl, rfl, rfl, rfl, rfl, rfl, rfl, rfl, rfl, rfl, rfl, rfl, rfl, rfl, rfl, rfl, rfl, rfl, rfl, rfl, rfl, rfl, rfl, rfl, rfl, rfl, rfl, rfl, rfl⟩
  clear h1
  obtain ⟨x0, x1, x2, x3, x4, x5, x6, x7, x8, x9, x10, x11, x12, x13, x14, x15, x16, x17, x18, x19, x20, x21, x22, x23, x24, x25, x26, x27, x28, x29, x30, x31⟩ := e1
  obtain ⟨c2, h2⟩ : ∃ c2, c2 = (((c1.svs (u1 c1.vs s 0)).sdp (u1 c1.dp s 0)).slg (u1 c1.lg s 0)).shy (u1 c1.hy s 0) := ⟨_, rfl⟩
  have e2 : c2.kd = c1.kd ∧ c2.he = c1.he ∧ c2.pu = c1.pu ∧ c2.st = c1.st ∧ c2.vs = u1 c1.vs s 0 ∧ c2.dp = u1 c1.dp s 0 ∧ c2.lg = u1 c1.lg s 0 ∧ c2.hy = u1 c1.hy s 0 ∧ c2.ro = c1.ro ∧ c2.la = c1.la ∧ c2.tl = c1.tl ∧ c2.pa = c1.pa ∧ c2.ck = c1.ck ∧ c2.cc = c1.cc ∧ c2.P = c1.P ∧ c2.cz = c1.cz ∧ c2.nv = c1.nv ∧ c2.f1 = c1.f1 ∧ c2.l1 = c1.l1 ∧ c2.vn = c1.vn ∧ c2.vx = c1.vx ∧ c2.K = c1.K ∧ c2.ar = c1.ar ∧ c2.cn = c1.cn ∧ c2.E = c1.E ∧ c2.fk = c1.fk ∧ c2.fv = c1.fv ∧ c2.N = c1.N ∧ c2.rO = c1.rO ∧ c2.rP = c1.rP ∧ c2.rT = c1.rT ∧ c2.rQ = c1.rQ := by
    rw [h2]
    exact ⟨rfl, rfl, rfl, rfl, rfl, rfl, rfl, rfl, rfl, rfl, rfl, rfl, rfl, rfl, rfl, rfl, rfl, rfl, rfl, rfl, rfl, rfl, rfl, rfl, rfl, rfl, rfl, rfl, rfl, rfl, rfl, rfl⟩
  clear h2
  obtain ⟨y0, y1, y2, y3, y4, y5, y6, y7, y8, y9, y10, y11, y12, y13, y14, y15, y16, y17, y18, y19, y20, y21, y22, y23, y24, y25, y26, y27, y28, y29, y30, y31⟩ := e2
  obtain ⟨c3, h3⟩ : ∃ c3, c3 = (((c2.sro (u1 c2.ro s 0)).sla (u1 c2.la s 0)).stl (u1 c2.tl s 0)).spa (u1 c2.pa s p) := ⟨_, rfl⟩
  have e3 : c3.kd = c2.kd ∧ c3.he = c2.he ∧ c3.pu = c2.pu ∧ c3.st = c2.st ∧ c3.vs = c2.vs ∧ c3.dp = c2.dp ∧ c3.lg = c2.lg ∧ c3.hy = c2.hy ∧ c3.ro = u1 c2.ro s 0 ∧ c3.la = u1 c2.la s 0 ∧ c3.tl = u1 c2.tl s 0 ∧ c3.pa = u1 c2.pa s p ∧ c3.ck = c2.ck ∧ c3.cc = c2.cc ∧ c3.P = c2.P ∧ c3.cz = c2.cz ∧ c3.nv = c2.nv ∧ c3.f1 = c2.f1 ∧ c3.l1 = c2.l1 ∧ c3.vn = c2.vn ∧ c3.vx = c2.vx ∧ c3.K = c2.K ∧ c3.ar = c2.ar ∧ c3.cn = c2.cn ∧ c3.E = c2.E ∧ c3.fk = c2.fk ∧ c3.fv = c2.fv ∧ c3.N = c2.N ∧ c3.rO = c2.rO ∧ c3.rP = c2.rP ∧ c3.rT = c2.rT ∧ c3.rQ = c2.rQ := by
    rw [h3]
    exact ⟨rfl, rfl, rfl, rfl, rfl, rfl, rfl, rfl, rfl, rfl, rfl, rfl, rfl, rfl, rfl, rfl, rfl, rfl, rfl, rfl, rfl, rfl, rfl, rfl, rfl, rfl, rfl, rfl, rfl, rfl, rfl, rfl⟩
  clear h3
  obtain ⟨z0, z1, z2, z3, z4, z5, z6, z7, z8, z9, z10, z11, z12, z13, z14, z15, z16, z17, z18, z19, z20, z21, z22, z23, z24, z25, z26, z27, z28, z29, z30, z31⟩ := e3
  exact ⟨c3, ⟨by rw [z0, y0, x0], by rw [z1, y1, x1], by rw [z2, y2, x2], by rw [z3, y3, x3], by rw [z4, y4, x4], by rw [z5, y5, x5], by rw [z6, y6, x6], by rw [z7, y7, x7], by rw [z8, y8, x8], by rw [z9, y9, x9], by rw [z10, y10, x10], by rw [z11, y11, x11]⟩, by rw [z12, y12, x12], by rw [z13, y13, x13], by rw [z14, y14, x14], by rw [z15, y15, x15], by rw [z16, y16, x16], by rw [z17, y17, x17], by rw [z18, y18, x18], by rw [z19, y19, x19], by rw [z20, y20, x20], by rw [z21, y21, x21], by rw [z22, y22, x22], by rw [z23, y23, x23], by rw [z24, y24, x24], by rw [z25, y25, x25], by rw [z26, y26, x26], by rw [z27, y27, x27], by rw [z28, y28, x28], by rw [z29, y29, x29], by rw [z30, y30, x30], by rw [z31, y31, x31]⟩
set_option maxHeartbeats 2000000 in
theorem cl_as {h : AH} {d : DS} {c c' : CS} {s y k p : Nat} (hn : NS c c' s k p) (hw : DW d) (hc : Cld d c) (hy : Oud d y) (hs : d.sid (d.sa (s + 1)) ≠ s + 1) (h12 : fI h 12 y = nI k) (h14 : fI h 14 y = nI 0) (h15 : fI h 15 y = 0) (h16 : fI h 16 y = 0) (h17 : fI h 17 y = nI 0) (h20 : fI h 20 y = nI 0) (h21 : fI h 21 y = nI 0) (h22 : fI h 22 y = nI 0) (h13 : fR h 13 y = 0) (h18 : fR h 18 y = 0) (h19 : fR h 19 y = 0) (h23 : fR h 23 y = p) : cl h d c = cl h (d.as (s + 1) y) c' := by
  obtain ⟨⟨nkd, nhe, npu, nst, nvs, ndp, nlg, nhy, nro, nla, ntl, npa⟩, nck, ncc, nP, ncz, nnv, nf1, nl1, nvn, nvx, nK, nar, ncn, nE, nfk, nfv, nN, nrO, nrP, nrT, nrQ⟩ := hn
  have hnx : ∀ x, d.sid x ≠ 0 → d.sid x - 1 ≠ s := fun x h3 g => by
    have e : d.sid x = s + 1 := by omega
    have := hw.2.2.2 x h3
    rw [e] at this
    exact hs (by rw [this]; exact e)
  have gen : ∀ {α : Type} (o w : Nat → α) (b : Nat → α), b y = w s → (∀ x, d.sid x ≠ 0 → o (d.sid x - 1) = w (d.sid x - 1)) → ∀ x, (if d.sid x ≠ 0 then o (d.sid x - 1) else b x) = (if u1 d.sid y (s + 1) x ≠ 0 then w (u1 d.sid y (s + 1) x - 1) else b x) := by
    intro α o w b hb ho x
    by_cases h2 : x = y
    · rw [h2, hy.2.2.1, if_neg (fun q => q rfl), u1_s, if_pos (Nat.succ_ne_zero s), Nat.add_sub_cancel]; exact hb
    · rw [u1_o _ _ h2]
      by_cases h3 : d.sid x ≠ 0
      · rw [if_pos h3, if_pos h3, ho x h3]
      · rw [if_neg h3, if_neg h3]
  have e1 : clI h d c = clI h (d.as (s + 1) y) c' := by
    funext g x
    by_cases q1 : g = 12
    · subst q1
      exact gen (fun j => nI (c.kd j)) (fun j => nI (c'.kd j)) (fun x => h.1.1 12 x) (by show fI h 12 y = nI (c'.kd s); rw [nkd, u1_s]; exact h12) (fun x h3 => by show nI (c.kd _) = nI (c'.kd _); rw [nkd, u1_o _ _ (hnx x h3)]) x
    by_cases q2 : g = 14
    · subst q2
      exact gen (fun j => nI (c.he j)) (fun j => nI (c'.he j)) (fun x => h.1.1 14 x) (by show fI h 14 y = nI (c'.he s); rw [nhe, u1_s]; exact h14) (fun x h3 => by show nI (c.he _) = nI (c'.he _); rw [nhe, u1_o _ _ (hnx x h3)]) x
    by_cases q3 : g = 15
    · subst q3
      exact gen (fun j => c.pu j) (fun j => c'.pu j) (fun x => h.1.1 15 x) (by show fI h 15 y = c'.pu s; rw [npu, u1_s]; exact h15) (fun x h3 => by show c.pu _ = c'.pu _; rw [npu, u1_o _ _ (hnx x h3)]) x
    by_cases q4 : g = 16
    · subst q4
      exact gen (fun j => c.st j) (fun j => c'.st j) (fun x => h.1.1 16 x) (by show fI h 16 y = c'.st s; rw [nst, u1_s]; exact h16) (fun x h3 => by show c.st _ = c'.st _; rw [nst, u1_o _ _ (hnx x h3)]) x
    by_cases q5 : g = 17
    · subst q5
      exact gen (fun j => nI (c.vs j)) (fun j => nI (c'.vs j)) (fun x => h.1.1 17 x) (by show fI h 17 y = nI (c'.vs s); rw [nvs, u1_s]; exact h17) (fun x h3 => by show nI (c.vs _) = nI (c'.vs _); rw [nvs, u1_o _ _ (hnx x h3)]) x
    by_cases q6 : g = 20
    · subst q6
      exact gen (fun j => nI (c.dp j)) (fun j => nI (c'.dp j)) (fun x => h.1.1 20 x) (by show fI h 20 y = nI (c'.dp s); rw [ndp, u1_s]; exact h20) (fun x h3 => by show nI (c.dp _) = nI (c'.dp _); rw [ndp, u1_o _ _ (hnx x h3)]) x
    by_cases q7 : g = 21
    · subst q7
      exact gen (fun j => nI (c.lg j)) (fun j => nI (c'.lg j)) (fun x => h.1.1 21 x) (by show fI h 21 y = nI (c'.lg s); rw [nlg, u1_s]; exact h21) (fun x h3 => by show nI (c.lg _) = nI (c'.lg _); rw [nlg, u1_o _ _ (hnx x h3)]) x
    by_cases q8 : g = 22
    · subst q8
      exact gen (fun j => nI (c.hy j)) (fun j => nI (c'.hy j)) (fun x => h.1.1 22 x) (by show fI h 22 y = nI (c'.hy s); rw [nhy, u1_s]; exact h22) (fun x h3 => by show nI (c.hy _) = nI (c'.hy _); rw [nhy, u1_o _ _ (hnx x h3)]) x
    unfold clI
    simp only [q1, q2, q3, q4, q5, q6, q7, q8, if_false, ncc, ncz, nnv, nvn, nK, nE, ncn, nfv, nN] <;> rfl
  have e2 : clL h d c = clL h (d.as (s + 1) y) c' := by
    unfold clL
    rw [nck, nfk]
    rfl
  have e3 : clR h d c = clR h (d.as (s + 1) y) c' := by
    funext g x
    by_cases q1 : g = 13
    · subst q1
      exact gen (fun j => d.ph (c.ro j)) (fun j => d.ph (c'.ro j)) (fun x => h.1.2.2 13 x) (by show fR h 13 y = d.ph (c'.ro s); rw [nro, u1_s, hw.1.1]; exact h13) (fun x h3 => by show d.ph (c.ro _) = d.ph (c'.ro _); rw [nro, u1_o _ _ (hnx x h3)]) x
    by_cases q2 : g = 18
    · subst q2
      exact gen (fun j => d.ph (c.la j)) (fun j => d.ph (c'.la j)) (fun x => h.1.2.2 18 x) (by show fR h 18 y = d.ph (c'.la s); rw [nla, u1_s, hw.1.1]; exact h18) (fun x h3 => by show d.ph (c.la _) = d.ph (c'.la _); rw [nla, u1_o _ _ (hnx x h3)]) x
    by_cases q3 : g = 19
    · subst q3
      exact gen (fun j => c.tl j) (fun j => c'.tl j) (fun x => h.1.2.2 19 x) (by show fR h 19 y = c'.tl s; rw [ntl, u1_s]; exact h19) (fun x h3 => by show c.tl _ = c'.tl _; rw [ntl, u1_o _ _ (hnx x h3)]) x
    by_cases q4 : g = 23
    · subst q4
      exact gen (fun j => c.pa j) (fun j => c'.pa j) (fun x => h.1.2.2 23 x) (by show fR h 23 y = c'.pa s; rw [npa, u1_s]; exact h23) (fun x h3 => by show c.pa _ = c'.pa _; rw [npa, u1_o _ _ (hnx x h3)]) x
    unfold clR
    simp only [q1, q2, q3, q4, if_false, nP, nf1, nl1, nvx] <;> rfl
  have e5 : clA h c = clA h c' := by
    unfold clA
    rw [nrO, nrP, nrT, nrQ]
  have e4 : clS h d c = clS h (d.as (s + 1) y) c' := by
    funext g x
    unfold clS
    rw [nar]
    by_cases q1 : g = 2
    · rw [if_pos q1, if_pos q1]
      show d.sa (c.ar x) = u1 d.sa (s + 1) y (c.ar x)
      rw [u1_o _ _ (fun e => hs (by rw [← e]; exact hc.2.2.2 x))]
    · rw [if_neg q1, if_neg q1]
  show (((clI h d c, clL h d c, clR h d c), (clA h c, h.2.1.2.1, clS h d c), h.2.2) : AH) = _
  rw [e1, e2, e3, e4, e5]
  rfl
