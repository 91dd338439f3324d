-- items come and go
theorem Chn_u {nx : Nat → Nat} {i x : Nat} : ∀ {l : List Nat} {a : Nat}, i ∉ l → Chn nx a l → Chn (u1 nx i x) a l
  | [], _, _, h => h
  | e :: t, a, hi, h => by
    obtain ⟨h1, h2, h3⟩ := h
    refine ⟨h1, h2, ?_⟩
    rw [u1_o _ _ (fun q => hi (by rw [q]; exact List.mem_cons_self ..))]
    exact Chn_u (fun q => hi (List.mem_cons_of_mem _ q)) h3
theorem Chn_0 {nx : Nat → Nat} : ∀ {l : List Nat}, Chn nx 0 l → l = []
  | [], _ => rfl
  | _ :: _, h => absurd h.1.symm h.2.1
theorem Chn_n0 {nx : Nat → Nat} {a : Nat} (ha : a ≠ 0) : ∀ {l : List Nat}, Chn nx a l → ∃ t, l = a :: t ∧ Chn nx (nx a) t
  | [], h => absurd h ha
  | e :: t, h => by
    obtain ⟨h1, h2, h3⟩ := h
    subst h1
    exact ⟨t, rfl, h3⟩
theorem Chn_mem0 {nx : Nat → Nat} : ∀ {l : List Nat} {a : Nat}, Chn nx a l → 0 ∉ l
  | [], _, _ => by intro q; cases q
  | e :: t, _, h => by
    intro q
    rcases List.mem_cons.mp q with g | g
    · exact h.2.1 g.symm
    · exact Chn_mem0 h.2.2 g
/-- a new item, whoever gets it -/
theorem item_new {m : MS} {T : Nat → Nat} {V : Nat → List Nat} {FI : List Nat} {ow : Nat → Nat} (h : JI m T V FI ow) (hE : m.E < 20000) :
    ∃ FI' : List Nat, (iid m ≠ 0 ∧ iid m ≤ 20000 ∧ (ow (iid m) = 0 ∨ ow (iid m) = 50000)) ∧ iid m ∉ FI' ∧ FI'.Nodup ∧ (∀ j, j ∈ FI' → ow j = 50000) ∧ (∀ x, Chn (u1 m.nx (iid m) x) (if m.fi = 0 then 0 else m.nx m.fi) FI') ∧ (if m.fi = 0 then m.im + 1 else m.im) = (m.E + 1) + FI'.length ∧ (if m.fi = 0 then m.im + 1 else m.im) ≤ 20000 ∧ iid m ≤ (if m.fi = 0 then m.im + 1 else m.im) ∧ m.im ≤ (if m.fi = 0 then m.im + 1 else m.im) ∧ m.im < 20002 ∧ m.fi ≤ 20002 := by
  obtain ⟨i1, i2, i3, i4, i5, i6, i7⟩ := h
  unfold iid
  by_cases f0 : m.fi = 0
  · rw [f0] at i1
    have hF := Chn_0 i1
    subst hF
    simp only [f0, if_true]
    refine ⟨[], ⟨by omega, ?_, Or.inl ?_⟩, (fun q => by cases q), List.nodup_nil, (fun j q => by cases q), fun x => rfl, ?_, ?_, Nat.le_refl _, by omega, by omega, by omega⟩
    · rw [List.length_nil] at i4; omega
    · rcases Nat.eq_zero_or_pos (ow (m.im + 1)) with q | q
      · exact q
      · have := (i6 (m.im + 1) (by omega)).2; omega
    · rw [List.length_nil] at i4 ⊢; omega
    · rw [List.length_nil] at i4; omega
  · obtain ⟨t, rfl, ht⟩ := Chn_n0 f0 i1
    simp only [f0, if_false]
    have hm := i3 m.fi (List.mem_cons_self ..)
    have hb := i6 m.fi (by rw [hm]; decide)
    have hnd := List.nodup_cons.mp i2
    refine ⟨t, ⟨f0, by omega, Or.inr hm⟩, hnd.1, hnd.2, fun j q => i3 j (List.mem_cons_of_mem _ q), fun x => Chn_u hnd.1 ht, ?_, i5, by omega, by omega, by omega, by omega⟩
    rw [List.length_cons] at i4; omega
/-- an item is let go -/
theorem item_let {m : MS} {T : Nat → Nat} {V : Nat → List Nat} {FI : List Nat} {ow : Nat → Nat} (h : JI m T V FI ow) {i : Nat} (h0 : ow i ≠ 0) (h5 : ow i ≠ 50000) :
    1 ≤ m.E ∧ Chn (u1 m.nx i m.fi) i (i :: FI) ∧ (i :: FI).Nodup ∧ m.im = (m.E - 1) + (i :: FI).length ∧ 1 ≤ i ∧ i ≤ 20000 := by
  obtain ⟨i1, i2, i3, i4, i5, i6, i7⟩ := h
  have hb := i6 i h0
  have hni : i ∉ FI := fun q => h5 (i3 i q)
  have hnd : (i :: FI).Nodup := List.nodup_cons.mpr ⟨hni, i2⟩
  have hlen := nd_le (n := m.im) hnd (fun x hx => by
    rcases List.mem_cons.mp hx with q | q
    · rw [q]; exact hb
    · exact i6 x (by rw [i3 x q]; decide))
  rw [List.length_cons] at hlen ⊢
  refine ⟨by omega, ⟨rfl, by omega, ?_⟩, hnd, by omega, hb.1, by omega⟩
  rw [u1_s]
  exact Chn_u hni i1
theorem u1_u1' {α : Type} (f : Nat → α) (s : Nat) (v w : α) : u1 (u1 f s v) s w = u1 f s w := u1_u1 f s v w
section Brg
variable (L : Nat) (xs : Nat → Int32)
/-- bring, put together -/
theorem c35 {b b1 : AH} (hb : CB b) (hb1 : CB b1) {d d1 : DS} (hw : DW d) {s : Nat} (hsd : d.sid (d.sa (s + 1)) = s + 1) (h16 : hasF (tg b (d.sa (s + 1))) 16 = true) {c c1 : CS} {k : Int64} {v price r : Int32} {H : AH}
    (hpr : cfD (XM L xs) 0 203 (tg b (d.sa (s + 1))) [.ref (d.sa (s + 1))] (cl b d c) = some (cl b d c, some (.int price)))
    (htk : cfD (XM L xs) 0 258 (tg b (d.sa (s + 1))) [.ref (d.sa (s + 1)), .long k, .int v, .int (nI c.cn)] (cl b d c) = some (cl b1 d1 c1, some (.int r)))
    (hcl : XM L xs 39 [.ref 1, .int (nI s), .ref (d.sa (s + 1)), .int price, .int (c.st s)] (cl b1 d1 ((c1.scn (c1.cn + 1)).sE (c1.E + 1))) = some (H, none)) :
    XM L xs 35 [.ref 1, .int (nI s), .ref (d.sa (s + 1)), .long k, .int v] (cl b d c) = some (H, some (.int r)) := by
  obtain ⟨p1, p2, p3, p4⟩ := id hb
  obtain ⟨q1, q2, q3, q4⟩ := id hb1
  rw [en_35, k_35_0]
  simp only [Hcl, p1, p2, p3, p4, HF1, HF2, gd_t, decide_true, Bool.and_self, HQ, HZ, dS hw hsd, hpr, bI_s, h16, Rs d hsd, htk, q1]
  rw [nI_1, cl_cn, k_35_35]
  simp only [Hcl, p1, p2, p3, p4, HF1, HF2, gd_t, decide_true, Bool.and_self, HQ, HZ, q1]
  rw [nI_1, cl_E, k_35_45]
  simp only [Hcl, p1, p2, p3, p4, HF1, HF2, gd_t, decide_true, Bool.and_self, HQ, HZ, q1, cc_0_72_1]
  have e : (c1.scn (c1.cn + 1)).E = c1.E := rfl
  rw [e, hcl]
  rfl
end Brg
