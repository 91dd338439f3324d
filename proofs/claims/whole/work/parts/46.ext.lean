-- new numbers for new objects, and numbers let go
def DS.an (d : DS) (a y : Nat) : DS := (d.sph (u1 d.ph a y)).snid (u1 d.nid y a)
def DS.ai (d : DS) (i y : Nat) : DS := (d.svh (u1 d.vh i y)).siid (u1 d.iid y i)
def DS.as (d : DS) (s y : Nat) : DS := (d.ssa (u1 d.sa s y)).ssid (u1 d.sid y s)
def DS.dn (d : DS) (a : Nat) : DS := d.snid (u1 d.nid (d.ph a) 0)
def DS.di (d : DS) (i : Nat) : DS := d.siid (u1 d.iid (d.vh i) 0)
theorem Han (d : DS) (a y : Nat) : (d.an a y).ph = u1 d.ph a y ∧ (d.an a y).nid = u1 d.nid y a ∧ (d.an a y).vh = d.vh ∧ (d.an a y).iid = d.iid ∧ (d.an a y).sa = d.sa ∧ (d.an a y).sid = d.sid := ⟨rfl, rfl, rfl, rfl, rfl, rfl⟩
theorem Hai (d : DS) (a y : Nat) : (d.ai a y).ph = d.ph ∧ (d.ai a y).nid = d.nid ∧ (d.ai a y).vh = u1 d.vh a y ∧ (d.ai a y).iid = u1 d.iid y a ∧ (d.ai a y).sa = d.sa ∧ (d.ai a y).sid = d.sid := ⟨rfl, rfl, rfl, rfl, rfl, rfl⟩
theorem Has (d : DS) (a y : Nat) : (d.as a y).ph = d.ph ∧ (d.as a y).nid = d.nid ∧ (d.as a y).vh = d.vh ∧ (d.as a y).iid = d.iid ∧ (d.as a y).sa = u1 d.sa a y ∧ (d.as a y).sid = u1 d.sid y a := ⟨rfl, rfl, rfl, rfl, rfl, rfl⟩
theorem Hdn (d : DS) (a : Nat) : (d.dn a).ph = d.ph ∧ (d.dn a).nid = u1 d.nid (d.ph a) 0 ∧ (d.dn a).vh = d.vh ∧ (d.dn a).iid = d.iid ∧ (d.dn a).sa = d.sa ∧ (d.dn a).sid = d.sid := ⟨rfl, rfl, rfl, rfl, rfl, rfl⟩
theorem Hdi (d : DS) (a : Nat) : (d.di a).ph = d.ph ∧ (d.di a).nid = d.nid ∧ (d.di a).vh = d.vh ∧ (d.di a).iid = u1 d.iid (d.vh a) 0 ∧ (d.di a).sa = d.sa ∧ (d.di a).sid = d.sid := ⟨rfl, rfl, rfl, rfl, rfl, rfl⟩
theorem inv_ext {p n : Nat → Nat} (hp : p 0 = 0) (hn : n 0 = 0) (hi : ∀ x, n x ≠ 0 → p (n x) = x) {a y : Nat} (a0 : a ≠ 0) (y0 : y ≠ 0) (ha : n (p a) ≠ a) : u1 p a y 0 = 0 ∧ u1 n y a 0 = 0 ∧ ∀ x, u1 n y a x ≠ 0 → u1 p a y (u1 n y a x) = x := by
  refine ⟨by rw [u1_o _ _ (Ne.symm a0)]; exact hp, by rw [u1_o _ _ (Ne.symm y0)]; exact hn, fun x hx => ?_⟩
  by_cases e : x = y
  · rw [e, u1_s, u1_s]
  · rw [u1_o _ _ e] at hx ⊢
    rw [u1_o _ _ (fun q => ha (by rw [← q, hi x hx]))]
    exact hi x hx
theorem inv_del {p n : Nat → Nat} (hn : n 0 = 0) (hi : ∀ x, n x ≠ 0 → p (n x) = x) (a : Nat) : u1 n (p a) 0 0 = 0 ∧ ∀ x, u1 n (p a) 0 x ≠ 0 → p (u1 n (p a) 0 x) = x := by
  refine ⟨?_, fun x hx => ?_⟩
  · by_cases e : 0 = p a
    · rw [← e, u1_s]
    · rw [u1_o _ _ e]; exact hn
  · by_cases e : x = p a
    · rw [e, u1_s] at hx; exact absurd rfl hx
    · rw [u1_o _ _ e] at hx ⊢; exact hi x hx
theorem DW.an {d : DS} (h : DW d) {a y : Nat} (a0 : a ≠ 0) (y0 : y ≠ 0) (ha : d.nid (d.ph a) ≠ a) : DW (d.an a y) := by
  obtain ⟨⟨z1, z2, z3, z4, z5, z6⟩, i1, i2, i3⟩ := h
  obtain ⟨e1, e2, e3⟩ := inv_ext z1 z4 i1 a0 y0 ha
  exact ⟨⟨e1, z2, z3, e2, z5, z6⟩, e3, i2, i3⟩
theorem DW.ai {d : DS} (h : DW d) {a y : Nat} (a0 : a ≠ 0) (y0 : y ≠ 0) (ha : d.iid (d.vh a) ≠ a) : DW (d.ai a y) := by
  obtain ⟨⟨z1, z2, z3, z4, z5, z6⟩, i1, i2, i3⟩ := h
  obtain ⟨e1, e2, e3⟩ := inv_ext z2 z5 i2 a0 y0 ha
  exact ⟨⟨z1, e1, z3, z4, e2, z6⟩, i1, e3, i3⟩
theorem DW.as {d : DS} (h : DW d) {a y : Nat} (a0 : a ≠ 0) (y0 : y ≠ 0) (ha : d.sid (d.sa a) ≠ a) : DW (d.as a y) := by
  obtain ⟨⟨z1, z2, z3, z4, z5, z6⟩, i1, i2, i3⟩ := h
  obtain ⟨e1, e2, e3⟩ := inv_ext z3 z6 i3 a0 y0 ha
  exact ⟨⟨z1, z2, e1, z4, z5, e2⟩, i1, i2, e3⟩
theorem DW.dn {d : DS} (h : DW d) (a : Nat) : DW (d.dn a) := by
  obtain ⟨⟨z1, z2, z3, z4, z5, z6⟩, i1, i2, i3⟩ := h
  obtain ⟨e2, e3⟩ := inv_del z4 i1 a
  exact ⟨⟨z1, z2, z3, e2, z5, z6⟩, e3, i2, i3⟩
theorem DW.di {d : DS} (h : DW d) (a : Nat) : DW (d.di a) := by
  obtain ⟨⟨z1, z2, z3, z4, z5, z6⟩, i1, i2, i3⟩ := h
  obtain ⟨e2, e3⟩ := inv_del z5 i2 a
  exact ⟨⟨z1, z2, z3, z4, e2, z6⟩, i1, e3, i3⟩
/-- the numbers in the class's state are numbers of objects -/
def Cld (d : DS) (c : CS) : Prop := (∀ x, d.nid x ≠ 0 → d.nid (d.ph (c.P.1 (d.nid x))) = c.P.1 (d.nid x) ∧ d.nid (d.ph (c.P.2.1 (d.nid x))) = c.P.2.1 (d.nid x) ∧ d.nid (d.ph (c.P.2.2 (d.nid x))) = c.P.2.2 (d.nid x) ∧ d.iid (d.vh (c.f1 (d.nid x))) = c.f1 (d.nid x) ∧ d.iid (d.vh (c.l1 (d.nid x))) = c.l1 (d.nid x)) ∧ (∀ x, d.iid x ≠ 0 → d.iid (d.vh (c.vx (d.iid x))) = c.vx (d.iid x)) ∧ (∀ x, d.sid x ≠ 0 → d.nid (d.ph (c.ro (d.sid x - 1))) = c.ro (d.sid x - 1) ∧ d.nid (d.ph (c.la (d.sid x - 1))) = c.la (d.sid x - 1)) ∧ ∀ i, d.sid (d.sa (c.ar i)) = c.ar i
theorem ne_of_ok {p n : Nat → Nat} {a x : Nat} (ha : n (p a) ≠ a) (hx : n (p x) = x) : x ≠ a := fun e => ha (by rw [← e]; exact hx)
/-- a number for a new Value -/
theorem cl_ai {h : AH} {d : DS} {c : CS} {i y : Nat} (hw : DW d) (hc : Cld d c) (hy : Oud d y) (i0 : i ≠ 0) (hi : d.iid (d.vh i) ≠ i) {v : Int32} (h33 : fI h 33 y = v) (h34 : fR h 34 y = 0) : cl h d c = cl h (d.ai i y) ((c.svn (u1 c.vn i v)).svx (u1 c.vx i 0)) := by
  have e1 : clI h d c = clI h (d.ai i y) ((c.svn (u1 c.vn i v)).svx (u1 c.vx i 0)) := by
    funext f x
    by_cases h1 : f = 33
    · subst h1
      show (if d.iid x ≠ 0 then c.vn (d.iid x) else h.1.1 33 x) = (if u1 d.iid y i x ≠ 0 then u1 c.vn i v (u1 d.iid y i x) else h.1.1 33 x)
      by_cases h2 : x = y
      · rw [h2, hy.2.1, if_neg (fun q => q rfl), u1_s, if_pos i0, u1_s]; exact h33
      · rw [u1_o _ _ h2]
        by_cases h3 : d.iid x ≠ 0
        · rw [if_pos h3, if_pos h3, u1_o _ _ (ne_of_ok hi (by rw [hw.2.2.1 x h3]))]
        · rw [if_neg h3, if_neg h3]
    · unfold clI
      simp only [h1, if_false] <;> rfl
  have kv : ∀ j, d.iid (d.vh j) = j → u1 d.vh i y j = d.vh j := fun j hj => u1_o _ _ (ne_of_ok hi hj)
  have e3 : clR h d c = clR h (d.ai i y) ((c.svn (u1 c.vn i v)).svx (u1 c.vx i 0)) := by
    funext f x
    by_cases h1 : f = 34
    · subst h1
      show (if d.iid x ≠ 0 then d.vh (c.vx (d.iid x)) else h.1.2.2 34 x) = (if u1 d.iid y i x ≠ 0 then u1 d.vh i y (u1 c.vx i 0 (u1 d.iid y i x)) else h.1.2.2 34 x)
      by_cases h2 : x = y
      · rw [h2, hy.2.1, if_neg (fun q => q rfl), u1_s, if_pos i0, u1_s, u1_o _ _ (Ne.symm i0), hw.1.2.1]; exact h34
      · rw [u1_o _ _ h2]
        by_cases h3 : d.iid x ≠ 0
        · rw [if_pos h3, if_pos h3, u1_o c.vx _ (ne_of_ok hi (by rw [hw.2.2.1 x h3])), kv _ (hc.2.1 x h3)]
        · rw [if_neg h3, if_neg h3]
    · by_cases h2 : f = 31
      · subst h2
        show (if d.nid x ≠ 0 then d.vh (c.f1 (d.nid x)) else h.1.2.2 31 x) = (if d.nid x ≠ 0 then u1 d.vh i y (c.f1 (d.nid x)) else h.1.2.2 31 x)
        by_cases h3 : d.nid x ≠ 0
        · rw [if_pos h3, if_pos h3, kv _ (hc.1 x h3).2.2.2.1]
        · rw [if_neg h3, if_neg h3]
      · by_cases h4 : f = 32
        · subst h4
          show (if d.nid x ≠ 0 then d.vh (c.l1 (d.nid x)) else h.1.2.2 32 x) = (if d.nid x ≠ 0 then u1 d.vh i y (c.l1 (d.nid x)) else h.1.2.2 32 x)
          by_cases h3 : d.nid x ≠ 0
          · rw [if_pos h3, if_pos h3, kv _ (hc.1 x h3).2.2.2.2]
          · rw [if_neg h3, if_neg h3]
        · unfold clR
          simp only [h1, h2, h4, if_false] <;> rfl
  show (((clI h d c, clL h d c, clR h d c), (clA h c, h.2.1.2.1, clS h d c), h.2.2) : AH) = _
  rw [e1, e3]
  rfl
def CS.nd (c : CS) (a : Nat) (k : Int64) (n z v f l : Nat) : CS := ((((((c.sck (u1 c.ck a k)).scc (u1 c.cc a n)).sP (u1 c.P.1 a 0, u1 c.P.2.1 a 0, u1 c.P.2.2 a 0)).scz (u1 c.cz a z)).snv (u1 c.nv a v)).sf1 (u1 c.f1 a f)).sl1 (u1 c.l1 a l)
set_option maxHeartbeats 2000000 in
/-- a number for a new Node -/
theorem cl_an {h : AH} {d : DS} {c : CS} {a y : Nat} (hw : DW d) (hc : Cld d c) (hy : Oud d y) (a0 : a ≠ 0) (ha : d.nid (d.ph a) ≠ a) {k : Int64} {n z v f l : Nat} (h24 : fL h 24 y = k) (h25 : fI h 25 y = nI n) (h29 : fI h 29 y = nI z) (h30 : fI h 30 y = nI v) (h26 : fR h 26 y = 0) (h27 : fR h 27 y = 0) (h28 : fR h 28 y = 0) (h31 : fR h 31 y = d.vh f) (h32 : fR h 32 y = d.vh l) : cl h d c = cl h (d.an a y) (c.nd a k n z v f l) := by
  have hnx : ∀ x, d.nid x ≠ 0 → d.nid x ≠ a := fun x h3 => ne_of_ok ha (by rw [hw.2.1 x h3])
  have kp : ∀ j, d.nid (d.ph j) = j → u1 d.ph a y j = d.ph j := fun j hj => u1_o _ _ (ne_of_ok ha hj)
  have p0 : u1 d.ph a y 0 = 0 := by rw [u1_o _ _ (Ne.symm a0)]; exact hw.1.1
  have gen : ∀ {α : Type} (o w : Nat → α) (b : Nat → α), b y = w a → (∀ x, d.nid x ≠ 0 → o (d.nid x) = w (d.nid x)) → ∀ x, (if d.nid x ≠ 0 then o (d.nid x) else b x) = (if u1 d.nid y a x ≠ 0 then w (u1 d.nid y a x) else b x) := by
    intro α o w b hb ho x
    by_cases h2 : x = y
    · rw [h2, hy.1, if_neg (fun q => q rfl), u1_s, if_pos a0]; exact hb
    · rw [u1_o _ _ h2]
      by_cases h3 : d.nid x ≠ 0
      · rw [if_pos h3, if_pos h3, ho x h3]
      · rw [if_neg h3, if_neg h3]
  have e1 : clI h d c = clI h (d.an a y) (c.nd a k n z v f l) := by
    funext g x
    by_cases q1 : g = 25
    · subst q1
      exact gen (fun j => nI (c.cc j)) (fun j => nI (u1 c.cc a n j)) (fun x => h.1.1 25 x) (by show fI h 25 y = nI (u1 c.cc a n a); rw [u1_s]; exact h25) (fun x h3 => by show nI (c.cc _) = nI (u1 c.cc a n _); rw [u1_o _ _ (hnx x h3)]) x
    · by_cases q2 : g = 29
      · subst q2
        exact gen (fun j => nI (c.cz j)) (fun j => nI (u1 c.cz a z j)) (fun x => h.1.1 29 x) (by show fI h 29 y = nI (u1 c.cz a z a); rw [u1_s]; exact h29) (fun x h3 => by show nI (c.cz _) = nI (u1 c.cz a z _); rw [u1_o _ _ (hnx x h3)]) x
      · by_cases q3 : g = 30
        · subst q3
          exact gen (fun j => nI (c.nv j)) (fun j => nI (u1 c.nv a v j)) (fun x => h.1.1 30 x) (by show fI h 30 y = nI (u1 c.nv a v a); rw [u1_s]; exact h30) (fun x h3 => by show nI (c.nv _) = nI (u1 c.nv a v _); rw [u1_o _ _ (hnx x h3)]) x
        · unfold clI
          simp only [q1, q2, q3, if_false] <;> rfl
  have e2 : clL h d c = clL h (d.an a y) (c.nd a k n z v f l) := by
    funext g x
    by_cases q1 : g = 24
    · subst q1
      exact gen (fun j => c.ck j) (fun j => u1 c.ck a k j) (fun x => h.1.2.1 24 x) (by show fL h 24 y = u1 c.ck a k a; rw [u1_s]; exact h24) (fun x h3 => by show c.ck _ = u1 c.ck a k _; rw [u1_o _ _ (hnx x h3)]) x
    · unfold clL
      simp only [q1, if_false] <;> rfl
  have e3 : clR h d c = clR h (d.an a y) (c.nd a k n z v f l) := by
    funext g x
    by_cases q1 : g = 26
    · subst q1
      exact gen (fun j => d.ph (c.P.1 j)) (fun j => u1 d.ph a y (u1 c.P.1 a 0 j)) (fun x => h.1.2.2 26 x) (by show fR h 26 y = u1 d.ph a y (u1 c.P.1 a 0 a); rw [u1_s, p0]; exact h26) (fun x h3 => by show d.ph (c.P.1 _) = u1 d.ph a y (u1 c.P.1 a 0 _); rw [u1_o c.P.1 _ (hnx x h3), kp _ (hc.1 x h3).1]) x
    by_cases q2 : g = 27
    · subst q2
      exact gen (fun j => d.ph (c.P.2.1 j)) (fun j => u1 d.ph a y (u1 c.P.2.1 a 0 j)) (fun x => h.1.2.2 27 x) (by show fR h 27 y = u1 d.ph a y (u1 c.P.2.1 a 0 a); rw [u1_s, p0]; exact h27) (fun x h3 => by show d.ph (c.P.2.1 _) = u1 d.ph a y (u1 c.P.2.1 a 0 _); rw [u1_o c.P.2.1 _ (hnx x h3), kp _ (hc.1 x h3).2.1]) x
    by_cases q3 : g = 28
    · subst q3
      exact gen (fun j => d.ph (c.P.2.2 j)) (fun j => u1 d.ph a y (u1 c.P.2.2 a 0 j)) (fun x => h.1.2.2 28 x) (by show fR h 28 y = u1 d.ph a y (u1 c.P.2.2 a 0 a); rw [u1_s, p0]; exact h28) (fun x h3 => by show d.ph (c.P.2.2 _) = u1 d.ph a y (u1 c.P.2.2 a 0 _); rw [u1_o c.P.2.2 _ (hnx x h3), kp _ (hc.1 x h3).2.2.1]) x
    by_cases q4 : g = 31
    · subst q4
      exact gen (fun j => d.vh (c.f1 j)) (fun j => d.vh (u1 c.f1 a f j)) (fun x => h.1.2.2 31 x) (by show fR h 31 y = d.vh (u1 c.f1 a f a); rw [u1_s]; exact h31) (fun x h3 => by show d.vh (c.f1 _) = d.vh (u1 c.f1 a f _); rw [u1_o c.f1 _ (hnx x h3)]) x
    by_cases q5 : g = 32
    · subst q5
      exact gen (fun j => d.vh (c.l1 j)) (fun j => d.vh (u1 c.l1 a l j)) (fun x => h.1.2.2 32 x) (by show fR h 32 y = d.vh (u1 c.l1 a l a); rw [u1_s]; exact h32) (fun x h3 => by show d.vh (c.l1 _) = d.vh (u1 c.l1 a l _); rw [u1_o c.l1 _ (hnx x h3)]) x
    by_cases q6 : g = 13
    · subst q6
      show (if d.sid x ≠ 0 then d.ph (c.ro (d.sid x - 1)) else h.1.2.2 13 x) = (if d.sid x ≠ 0 then u1 d.ph a y (c.ro (d.sid x - 1)) else h.1.2.2 13 x)
      by_cases h3 : d.sid x ≠ 0
      · rw [if_pos h3, if_pos h3, kp _ (hc.2.2.1 x h3).1]
      · rw [if_neg h3, if_neg h3]
    by_cases q7 : g = 18
    · subst q7
      show (if d.sid x ≠ 0 then d.ph (c.la (d.sid x - 1)) else h.1.2.2 18 x) = (if d.sid x ≠ 0 then u1 d.ph a y (c.la (d.sid x - 1)) else h.1.2.2 18 x)
      by_cases h3 : d.sid x ≠ 0
      · rw [if_pos h3, if_pos h3, kp _ (hc.2.2.1 x h3).2]
      · rw [if_neg h3, if_neg h3]
    unfold clR
    simp only [q1, q2, q3, q4, q5, q6, q7, if_false] <;> rfl
  show (((clI h d c, clL h d c, clR h d c), (clA h c, h.2.1.2.1, clS h d c), h.2.2) : AH) = _
  rw [e1, e2, e3]
  rfl
/-- fewer numbers -/
theorem cl_dn (h : AH) (d : DS) (c : CS) (a : Nat) : cl h d c = cl (cl h d c) (d.dn a) c := by
  have key : ∀ x, (d.dn a).nid x ≠ 0 → (d.dn a).nid x = d.nid x := fun x hx => by
    have e : (d.dn a).nid x = u1 d.nid (d.ph a) 0 x := rfl
    rw [e] at hx ⊢
    by_cases q : x = d.ph a
    · rw [q, u1_s] at hx; exact absurd rfl hx
    · rw [u1_o _ _ q]
  have gen : ∀ {α : Type} (o : Nat → α) (b : Nat → α) (x : Nat), (if d.nid x ≠ 0 then o (d.nid x) else b x) = (if (d.dn a).nid x ≠ 0 then o ((d.dn a).nid x) else (if d.nid x ≠ 0 then o (d.nid x) else b x)) := by
    intro α o b x
    by_cases q : (d.dn a).nid x ≠ 0
    · rw [if_pos q, key x q]
      rw [key x q] at q
      rw [if_pos q]
    · rw [if_neg q]
  have e1 : clI h d c = clI (cl h d c) (d.dn a) c := by
    funext g x
    by_cases q1 : g = 25
    · subst q1; exact gen (fun j => nI (c.cc j)) (fun x => h.1.1 25 x) x
    by_cases q2 : g = 29
    · subst q2; exact gen (fun j => nI (c.cz j)) (fun x => h.1.1 29 x) x
    by_cases q3 : g = 30
    · subst q3; exact gen (fun j => nI (c.nv j)) (fun x => h.1.1 30 x) x
    have e := congrFun (congrFun (congrArg (fun q : AH => q.1.1) (cl_idem h d c c)) g) x
    have e' : clI (cl h d c) d c g x = clI h d c g x := e
    rw [← e']
    unfold clI
    simp only [q1, q2, q3, if_false] <;> rfl
  have e2 : clL h d c = clL (cl h d c) (d.dn a) c := by
    funext g x
    by_cases q1 : g = 24
    · subst q1; exact gen (fun j => c.ck j) (fun x => h.1.2.1 24 x) x
    have e := congrFun (congrFun (congrArg (fun q : AH => q.1.2.1) (cl_idem h d c c)) g) x
    have e' : clL (cl h d c) d c g x = clL h d c g x := e
    rw [← e']
    unfold clL
    simp only [q1, if_false] <;> rfl
  have e3 : clR h d c = clR (cl h d c) (d.dn a) c := by
    funext g x
    by_cases q1 : g = 26
    · subst q1; exact gen (fun j => d.ph (c.P.1 j)) (fun x => h.1.2.2 26 x) x
    by_cases q2 : g = 27
    · subst q2; exact gen (fun j => d.ph (c.P.2.1 j)) (fun x => h.1.2.2 27 x) x
    by_cases q3 : g = 28
    · subst q3; exact gen (fun j => d.ph (c.P.2.2 j)) (fun x => h.1.2.2 28 x) x
    by_cases q4 : g = 31
    · subst q4; exact gen (fun j => d.vh (c.f1 j)) (fun x => h.1.2.2 31 x) x
    by_cases q5 : g = 32
    · subst q5; exact gen (fun j => d.vh (c.l1 j)) (fun x => h.1.2.2 32 x) x
    have e := congrFun (congrFun (congrArg (fun q : AH => q.1.2.2) (cl_idem h d c c)) g) x
    have e' : clR (cl h d c) d c g x = clR h d c g x := e
    rw [← e']
    unfold clR
    simp only [q1, q2, q3, q4, q5, if_false] <;> rfl
  have e4 : clA h c = clA (cl h d c) c := congrArg (fun q : AH => q.2.1.1) (cl_idem h d c c).symm
  have e5 : clS h d c = clS (cl h d c) d c := congrArg (fun q : AH => q.2.1.2.2) (cl_idem h d c c).symm
  show (((clI h d c, clL h d c, clR h d c), (clA h c, h.2.1.2.1, clS h d c), h.2.2) : AH) = (((clI (cl h d c) (d.dn a) c, clL (cl h d c) (d.dn a) c, clR (cl h d c) (d.dn a) c), (clA (cl h d c) c, h.2.1.2.1, clS (cl h d c) (d.dn a) c), h.2.2) : AH)
  rw [← e1, ← e2, ← e3, ← e4]
  exact congrArg (fun q => (((clI h d c, clL h d c, clR h d c), (clA h c, h.2.1.2.1, q), h.2.2) : AH)) e5
theorem cl_di (h : AH) (d : DS) (c : CS) (a : Nat) : cl h d c = cl (cl h d c) (d.di a) c := by
  have key : ∀ x, (d.di a).iid x ≠ 0 → (d.di a).iid x = d.iid x := fun x hx => by
    have e : (d.di a).iid x = u1 d.iid (d.vh a) 0 x := rfl
    rw [e] at hx ⊢
    by_cases q : x = d.vh a
    · rw [q, u1_s] at hx; exact absurd rfl hx
    · rw [u1_o _ _ q]
  have gen : ∀ {α : Type} (o : Nat → α) (b : Nat → α) (x : Nat), (if d.iid x ≠ 0 then o (d.iid x) else b x) = (if (d.di a).iid x ≠ 0 then o ((d.di a).iid x) else (if d.iid x ≠ 0 then o (d.iid x) else b x)) := by
    intro α o b x
    by_cases q : (d.di a).iid x ≠ 0
    · rw [if_pos q, key x q]
      rw [key x q] at q
      rw [if_pos q]
    · rw [if_neg q]
  have e1 : clI h d c = clI (cl h d c) (d.di a) c := by
    funext g x
    by_cases q1 : g = 33
    · subst q1; exact gen (fun j => c.vn j) (fun x => h.1.1 33 x) x
    have e := congrFun (congrFun (congrArg (fun q : AH => q.1.1) (cl_idem h d c c)) g) x
    have e' : clI (cl h d c) d c g x = clI h d c g x := e
    rw [← e']
    unfold clI
    simp only [q1, if_false] <;> rfl
  have e3 : clR h d c = clR (cl h d c) (d.di a) c := by
    funext g x
    by_cases q1 : g = 34
    · subst q1; exact gen (fun j => d.vh (c.vx j)) (fun x => h.1.2.2 34 x) x
    have e := congrFun (congrFun (congrArg (fun q : AH => q.1.2.2) (cl_idem h d c c)) g) x
    have e' : clR (cl h d c) d c g x = clR h d c g x := e
    rw [← e']
    unfold clR
    simp only [q1, if_false] <;> rfl
  have e2 : clL h d c = clL (cl h d c) d c := congrArg (fun q : AH => q.1.2.1) (cl_idem h d c c).symm
  have e4 : clA h c = clA (cl h d c) c := congrArg (fun q : AH => q.2.1.1) (cl_idem h d c c).symm
  have e5 : clS h d c = clS (cl h d c) d c := congrArg (fun q : AH => q.2.1.2.2) (cl_idem h d c c).symm
  show (((clI h d c, clL h d c, clR h d c), (clA h c, h.2.1.2.1, clS h d c), h.2.2) : AH) = (((clI (cl h d c) (d.di a) c, clL (cl h d c) d c, clR (cl h d c) (d.di a) c), (clA (cl h d c) c, h.2.1.2.1, clS (cl h d c) d c), h.2.2) : AH)
  rw [← e1, ← e2, ← e3, ← e4, ← e5]
