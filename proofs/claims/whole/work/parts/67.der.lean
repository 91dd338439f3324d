-- the reference's lens twice; the lenses and the fixed objects
theorem ml_idem (h : AH) (m m' : MS) : ml (ml h m) m' = ml h m' := by
  have e1 : mlI (ml h m) m' = mlI h m' := by
    funext f a
    by_cases q43 : f = 43
    · subst q43
      by_cases g : a = 8
      · show (if a = 8 then _ else _) = (if a = 8 then _ else _)
        rw [if_pos g, if_pos g]
      · show (if a = 8 then _ else (if a = 8 then _ else _)) = (if a = 8 then _ else _)
        rw [if_neg g, if_neg g, if_neg g]
    by_cases q44 : f = 44
    · subst q44
      by_cases g : a = 8
      · show (if a = 8 then _ else _) = (if a = 8 then _ else _)
        rw [if_pos g, if_pos g]
      · show (if a = 8 then _ else (if a = 8 then _ else _)) = (if a = 8 then _ else _)
        rw [if_neg g, if_neg g, if_neg g]
    by_cases q50 : f = 50
    · subst q50
      by_cases g : a = 8
      · show (if a = 8 then _ else _) = (if a = 8 then _ else _)
        rw [if_pos g, if_pos g]
      · show (if a = 8 then _ else (if a = 8 then _ else _)) = (if a = 8 then _ else _)
        rw [if_neg g, if_neg g, if_neg g]
    by_cases q51 : f = 51
    · subst q51
      by_cases g : a = 8
      · show (if a = 8 then _ else _) = (if a = 8 then _ else _)
        rw [if_pos g, if_pos g]
      · show (if a = 8 then _ else (if a = 8 then _ else _)) = (if a = 8 then _ else _)
        rw [if_neg g, if_neg g, if_neg g]
    by_cases q56 : f = 56
    · subst q56
      by_cases g : a = 8
      · show (if a = 8 then _ else _) = (if a = 8 then _ else _)
        rw [if_pos g, if_pos g]
      · show (if a = 8 then _ else (if a = 8 then _ else _)) = (if a = 8 then _ else _)
        rw [if_neg g, if_neg g, if_neg g]
    by_cases q57 : f = 57
    · subst q57
      by_cases g : a = 8
      · show (if a = 8 then _ else _) = (if a = 8 then _ else _)
        rw [if_pos g, if_pos g]
      · show (if a = 8 then _ else (if a = 8 then _ else _)) = (if a = 8 then _ else _)
        rw [if_neg g, if_neg g, if_neg g]
    by_cases q58 : f = 58
    · subst q58
      by_cases g : a = 8
      · show (if a = 8 then _ else _) = (if a = 8 then _ else _)
        rw [if_pos g, if_pos g]
      · show (if a = 8 then _ else (if a = 8 then _ else _)) = (if a = 8 then _ else _)
        rw [if_neg g, if_neg g, if_neg g]
    by_cases q64 : f = 64
    · subst q64
      by_cases g : a = 8
      · show (if a = 8 then _ else _) = (if a = 8 then _ else _)
        rw [if_pos g, if_pos g]
      · show (if a = 8 then _ else (if a = 8 then _ else _)) = (if a = 8 then _ else _)
        rw [if_neg g, if_neg g, if_neg g]
    by_cases q65 : f = 65
    · subst q65
      by_cases g : a = 8
      · show (if a = 8 then _ else _) = (if a = 8 then _ else _)
        rw [if_pos g, if_pos g]
      · show (if a = 8 then _ else (if a = 8 then _ else _)) = (if a = 8 then _ else _)
        rw [if_neg g, if_neg g, if_neg g]
    by_cases q67 : f = 67
    · subst q67
      by_cases g : a = 8
      · show (if a = 8 then _ else _) = (if a = 8 then _ else _)
        rw [if_pos g, if_pos g]
      · show (if a = 8 then _ else (if a = 8 then _ else _)) = (if a = 8 then _ else _)
        rw [if_neg g, if_neg g, if_neg g]
    by_cases q72 : f = 72
    · subst q72
      by_cases g : a = 8
      · show (if a = 8 then _ else _) = (if a = 8 then _ else _)
        rw [if_pos g, if_pos g]
      · show (if a = 8 then _ else (if a = 8 then _ else _)) = (if a = 8 then _ else _)
        rw [if_neg g, if_neg g, if_neg g]
    by_cases q73 : f = 73
    · subst q73
      by_cases g : a = 8
      · show (if a = 8 then _ else _) = (if a = 8 then _ else _)
        rw [if_pos g, if_pos g]
      · show (if a = 8 then _ else (if a = 8 then _ else _)) = (if a = 8 then _ else _)
        rw [if_neg g, if_neg g, if_neg g]
    refine mlI_g _ _ m' ?_
    show mlI h m f a = h.1.1 f a
    unfold mlI
    simp only [q43, q44, q50, q51, q56, q57, q58, q64, q65, q67, q72, q73, if_false]
  have e2 : mlL (ml h m) m' = mlL h m' := by
    funext f a
    by_cases q66 : f = 66
    · subst q66
      by_cases g : a = 8
      · show (if a = 8 then _ else _) = (if a = 8 then _ else _)
        rw [if_pos g, if_pos g]
      · show (if a = 8 then _ else (if a = 8 then _ else _)) = (if a = 8 then _ else _)
        rw [if_neg g, if_neg g, if_neg g]
    refine mlL_g _ _ m' ?_
    show mlL h m f a = h.1.2.1 f a
    unfold mlL
    simp only [q66, if_false]
  have e3 : mlA (ml h m) m' = mlA h m' := by
    funext a i
    by_cases q9 : a = 9
    · subst q9; rfl
    by_cases q10 : a = 10
    · subst q10; rfl
    by_cases q13 : a = 13
    · subst q13; rfl
    by_cases q14 : a = 14
    · subst q14; rfl
    by_cases q16 : a = 16
    · subst q16; rfl
    by_cases q17 : a = 17
    · subst q17; rfl
    by_cases q18 : a = 18
    · subst q18; rfl
    by_cases q19 : a = 19
    · subst q19; rfl
    by_cases q20 : a = 20
    · subst q20; rfl
    by_cases q21 : a = 21
    · subst q21; rfl
    by_cases q23 : a = 23
    · subst q23; rfl
    by_cases q24 : a = 24
    · subst q24; rfl
    by_cases q26 : a = 26
    · subst q26; rfl
    by_cases q27 : a = 27
    · subst q27; rfl
    by_cases q28 : a = 28
    · subst q28; rfl
    by_cases q29 : a = 29
    · subst q29; rfl
    by_cases q30 : a = 30
    · subst q30; rfl
    by_cases q31 : a = 31
    · subst q31; rfl
    by_cases q32 : a = 32
    · subst q32; rfl
    refine mlA_g _ _ m' ?_
    show mlA h m a i = h.2.1.1 a i
    unfold mlA
    simp only [q9, q10, q13, q14, q16, q17, q18, q19, q20, q21, q23, q24, q26, q27, q28, q29, q30, q31, q32, if_false]
  have e4 : mlB (ml h m) m' = mlB h m' := by
    funext a i
    by_cases q11 : a = 11
    · subst q11; rfl
    by_cases q12 : a = 12
    · subst q12; rfl
    by_cases q15 : a = 15
    · subst q15; rfl
    by_cases q22 : a = 22
    · subst q22; rfl
    refine mlB_g _ _ m' ?_
    show mlB h m a i = h.2.1.2.1 a i
    unfold mlB
    simp only [q11, q12, q15, q22, if_false]
  show ((mlI (ml h m) m', mlL (ml h m) m', h.1.2.2), (mlA (ml h m) m', mlB (ml h m) m', h.2.1.2.2), h.2.2) = _
  rw [e1, e2, e3, e4]
  rfl
theorem MB_cl {h : AH} (hb : MB h) (d : DS) (c : CS) : MB (cl h d c) := hb
theorem CB_cl {h : AH} (hb : CB h) (d : DS) (c : CS) : CB (cl h d c) := hb
theorem CB_ml {h : AH} (hb : CB h) (m : MS) : CB (ml h m) := hb
theorem ml_clb {B : AH} {m : MS} (h : ml B m = B) (d : DS) (c : CS) : ml (cl B d c) m = cl B d c := by rw [ml_cl, h]
/-- the reference's part of the heap is laid anew -/
theorem JJ.ml {m : MS} {c : CS} {d : DS} {B : AH} {T z : Nat → Nat} {V R : Nat → List Nat} {FN FI : List Nat} {ow : Nat → Nat} (h : JJ m c d B T z V R FN FI ow) (m' : MS) : JJ m c d (_root_.Jvm.Pilot.CStepPurseLaw_law_r8377_2c7bf5.ml B m') T z V R FN FI ow := by
  obtain ⟨jb, js, jt, jr, jp, jd, jv, ji, jf, jw, jh, jz, jl⟩ := h
  refine ⟨jb, js, jt, jr, jp, jd, jv, ji, jf, ⟨fun s hs hk => ?_, jw.2⟩, jh, jz, jl⟩
  obtain ⟨w1, w2, w3, w4, w5, w6, w7, w8⟩ := jw.1 s hs hk
  refine ⟨w1, w2, w3, w4, w5, w6, w7, fun i hi => ?_⟩
  rw [Hml_L B m' w6.2.2.1]
  exact w8 i hi
/-- from a state with its accounts, room and picture -/
theorem Inv.mk' {i : Nat} {B : AH} {m : MS} {c : CS} {d : DS} {T z : Nat → Nat} {V R : Nat → List Nat} {FN FI : List Nat} {ow : Nat → Nat} (ha : JA m c) (hq : JQ B m i) (hj : JJ m c d B T z V R FN FI ow) : Inv i (ml B m) m c d :=
  ⟨ml_idem B m m, ha, hq, T, z, V, R, FN, FI, ow, hj.ml m⟩
section Ans
variable (L : Nat) (xs : Nat → Int32)
def vk (v : Value) : Nat := match v with | .int _ => 1 | .long _ => 2 | _ => 0
theorem vk_int {v : Value} (h : vk v = 1) : ∃ x, v = .int x := by
  cases v with
  | int x => exact ⟨x, rfl⟩
  | long x => cases h
  | _ => cases h
theorem vk_long {v : Value} (h : vk v = 2) : ∃ x, v = .long x := by
  cases v with
  | long x => exact ⟨x, rfl⟩
  | int x => cases h
  | _ => cases h
/-- class and reference answer alike, and the invariant holds again -/
def Ans (i : Nat) (B : AH) (m : MS) (c : CS) (d : DS) (M M' : Nat) (as : List Value) : Prop :=
  ∃ (B' : AH) (c' : CS) (d' : DS) (m' : MS) (r : Value), XM L xs M (.ref 1 :: as) (cl B d c) = some (cl B' d' c', some r) ∧ XM L xs M' (.ref 8 :: as) (cl B' d' c') = some (cl (ml B' m') d' c', some r) ∧ Inv (i + 1) (ml B' m') m' c' d' ∧ vk r = mrk M
theorem Ans.of {i : Nat} {B B' : AH} {m : MS} {c c' : CS} {d d' : DS} {M M' : Nat} {as : List Value} {r : Value} (hc : XM L xs M (.ref 1 :: as) (cl B d c) = some (cl B' d' c', some r)) (hB : ml B' m = B') (hM : MB B')
    (hm : ∀ h, MB h → ∃ m', XM L xs M' (.ref 8 :: as) (ml h m) = some (ml h m', some r) ∧ Inv (i + 1) (ml B' m') m' c' d') (hv : vk r = mrk M := by rfl) : Ans L xs i B m c d M M' as := by
  obtain ⟨m', e, hi⟩ := hm (cl B' d' c') (MB_cl hM d' c')
  refine ⟨B', c', d', m', r, hc, ?_, hi, hv⟩
  have e1 : cl B' d' c' = ml (cl B' d' c') m := (ml_clb hB d' c').symm
  rw [ml_cl] at e
  rw [hB, ml_cl] at e
  exact e
end Ans
-- what follows of the invariant
section Der
variable {m : MS} {c : CS} {d : DS} {B : AH} {T z : Nat → Nat} {V R : Nat → List Nat} {FN FI : List Nat} {ow : Nat → Nat}
theorem JJ.mw (h : JJ m c d B T z V R FN FI ow) : WF (m.P.1, m.P.2.1, c.P.2.2) T z := by
  obtain ⟨jb, js, jt, jr, jp, -⟩ := h
  exact jt.1.pt (fun a ha => ⟨(jp.2 a ha).1, (jp.2 a ha).2.1, rfl⟩)
theorem JJ.hD (h : JJ m c d B T z V R FN FI ow) : ∀ x, LZ T x → d.nid (d.ph x) = x := by
  obtain ⟨jb, js, jt, jr, jp, jd, -⟩ := h
  intro x hx
  by_cases x0 : x = 0
  · subst x0
    rw [jb.2.2.2.2.2.1.1, jb.2.2.2.2.2.1.2.2.2.1]
  · exact (jd.1 x x0).mpr (hx.resolve_left x0)
theorem JJ.hs (h : JJ m c d B T z V R FN FI ow) {s : Nat} (hs : s < m.K) : d.sid (d.sa (s + 1)) = s + 1 := (h.2.1.2.2.1 s).mpr hs
theorem JJ.rz (h : JJ m c d B T z V R FN FI ow) {s : Nat} (hs : s < m.K) : LZ T (c.ro s) := by
  by_cases r0 : c.ro s = 0
  · exact Or.inl r0
  · exact Or.inr (by rw [((h.2.2.2.1 s hs).2.2.1 r0).1]; exact Nat.succ_ne_zero s)
theorem JJ.pig (h : JJ m c d B T z V R FN FI ow) {l : List Nat} (hl : l.Nodup) (hT : ∀ a, a ∈ l → T a ≠ 0) : l.length ≤ m.E := by
  obtain ⟨jb, js, jt, jr, jp, jd, jv, ji, jf, jw, jh, jz, jl⟩ := h
  obtain ⟨i1, i2, i3, i4, i5, i6, i7⟩ := ji
  have hof : ∀ a, T a ≠ 0 → ow (m.fV a) = a := by
    intro a ha
    obtain ⟨v1, v2, v3, v4, v5, v6, v7, v8⟩ := jv a ha
    cases hV : V a with
    | nil => exact absurd hV v1
    | cons x t =>
      rw [hV] at v2 v8
      have := (v8 x (List.mem_cons_self ..)).1
      rw [← v2.1] at this
      exact this
  have hn : (l.map m.fV).Nodup := by
    rw [List.nodup_iff_pairwise_ne, List.pairwise_map]
    refine List.Pairwise.imp_of_mem ?_ (List.nodup_iff_pairwise_ne.mp hl)
    intro a e ha he hne q
    exact hne ((hof a (hT a ha)).symm.trans ((congrArg ow q).trans (hof e (hT e he))))
  have hall : (l.map m.fV ++ FI).Nodup := by
    rw [List.nodup_append]
    refine ⟨hn, i2, ?_⟩
    intro a ha e he q
    obtain ⟨x, hx, rfl⟩ := List.mem_map.mp ha
    have o1 := hof x (hT x hx)
    rw [q, i3 e he] at o1
    have := jt.2.1.2 x (hT x hx)
    omega
  have hb : ∀ x, x ∈ l.map m.fV ++ FI → 1 ≤ x ∧ x ≤ m.im := by
    intro x hx
    refine i6 x ?_
    rcases List.mem_append.mp hx with q | q
    · obtain ⟨a, ha, rfl⟩ := List.mem_map.mp q
      rw [hof a (hT a ha)]
      exact jt.1.n0 (hT a ha)
    · rw [i3 x q]; decide
  have := nd_le hall hb
  rw [List.length_append, List.length_map] at this
  omega
theorem JJ.E (h : JJ m c d B T z V R FN FI ow) : m.E ≤ 20000 := by
  obtain ⟨jb, js, jt, jr, jp, jd, jv, ji, -⟩ := h
  obtain ⟨i1, i2, i3, i4, i5, i6, i7⟩ := ji
  omega
theorem JJ.zle (h : JJ m c d B T z V R FN FI ow) {a : Nat} (ha : LZ T a) : z a ≤ 20000 := by
  have hW : WF c.P T z := h.2.2.1.1
  have hT : TN T := h.2.2.1.2.1
  by_cases a0 : a = 0
  · rw [a0, hW.2.1]; omega
  have hz := hW.z_le hT.2 ha
  have := h.pig (pd_nodup hW 20003 a 0 ha (by omega)) (fun x hx => by
    obtain ⟨q1, q2, -⟩ := pd_up hW 20003 a 0 ha (by omega) x hx
    rw [q2]; exact ha.resolve_left a0)
  rw [List.length_map, pdF_len, zF_eq hW 20003 a ha (by omega)] at this
  have := h.E
  omega
end Der
theorem WF.top {P : PT} {T z : Nat → Nat} (h : WF P T z) {B : Nat} (hB : ∀ x, T x ≠ 0 → z x ≤ B) : ∀ (k a : Nat), T a ≠ 0 → B < z a + k → ∃ r, T r = T a ∧ P.2.2 r = 0 ∧ r ≠ 0 := by
  intro k
  induction k with
  | zero => intro a ha hk; have := hB a ha; omega
  | succ k ih =>
    intro a ha hk
    by_cases u0 : P.2.2 a = 0
    · exact ⟨a, rfl, u0, h.n0 ha⟩
    · obtain ⟨q1, q2⟩ := h.up_lt ha u0
      obtain ⟨r, r1, r2, r3⟩ := ih (P.2.2 a) (by rw [q2]; exact ha) (by omega)
      exact ⟨r, r1.trans q2, r2, r3⟩
section Der2
variable {m : MS} {c : CS} {d : DS} {B : AH} {T z : Nat → Nat} {V R : Nat → List Nat} {FN FI : List Nat} {ow : Nat → Nat}
theorem JJ.emp (h : JJ m c d B T z V R FN FI ow) {s : Nat} (hs : s < m.K) (r0 : c.ro s = 0) : ∀ a, T a ≠ s + 1 := by
  intro a ha
  have hW : WF c.P T z := h.2.2.1.1
  obtain ⟨r, r1, r2, r3⟩ := hW.top (B := 20000) (fun x hx => h.zle (Or.inr hx)) 20001 a (by rw [ha]; exact Nat.succ_ne_zero s) (by omega)
  exact r3 (((h.2.2.2.1 s hs).2.2.2 r (r1.trans ha) r2).trans r0)
/-- sums over a tree's nodes, along the walk -/
theorem JJ.sum (h : JJ m c d B T z V R FN FI ow) {s : Nat} (hs : s < m.K) (g : Nat → Nat) : ((pdF 20003 c.P (c.ro s) 0).map (fun p => g p.1)).sum = Sm T (s + 1) g := by
  have hW : WF c.P T z := h.2.2.1.1
  have hT : TN T := h.2.2.1.2.1
  by_cases r0 : c.ro s = 0
  · rw [r0, pdF_0, Sm_none (h.emp hs r0)]
    rfl
  · obtain ⟨t1, t2⟩ := (h.2.2.2.1 s hs).2.2.1 r0
    have hz := h.zle (h.rz hs)
    have := Sm_pd hW hT (r := c.ro s) (f := 20003) (d := 0) (by rw [t1]; exact Nat.succ_ne_zero s) (by omega) (fun x hx hu => (h.2.2.2.1 s hs).2.2.2 x (hx.trans t1) hu) g
    rw [t1, List.map_map] at this
    exact this.symm
theorem JJ.he (h : JJ m c d B T z V R FN FI ow) {s : Nat} (hs : s < m.K) (hk : m.kd s ≤ 3) : z (c.ro s) = c.he s := by
  have hW : WF c.P T z := h.2.2.1.1
  obtain ⟨jb, js, jt, jr, jp, jd, jv, ji, jf, jw, jh, jz, jl⟩ := id h
  rw [(jz.1 s hs).1 hk, ← h.sum hs]
  have hz := h.zle (h.rz hs)
  have e := pdF_len (P := c.P) 20003 (c.ro s) 0
  rw [zF_eq hW 20003 _ (h.rz hs) (by omega)] at e
  rw [← e]
  generalize pdF 20003 c.P (c.ro s) 0 = l
  clear e
  induction l with
  | nil => rfl
  | cons a l ih => rw [List.length_cons, List.map_cons, List.sum_cons, ih]; omega
/-- the two potentials are one -/
theorem JJ.pot (h : JJ m c d B T z V R FN FI ow) {s : Nat} (hs : s < m.K) (hk : m.kd s ≤ 3) : potL m z s = potV B c s := by
  have hW : WF c.P T z := h.2.2.1.1
  obtain ⟨jb, js, jt, jr, jp, jd, jv, ji, jf, jw, jh, jz, jl⟩ := id h
  have hz := h.zle (h.rz hs)
  have e1 : potL m z s = Sm T (s + 1) (gp (m.kd s) c.P z) := by
    unfold potL
    rw [((jr s hs).1 hk).1, pd_cg hW (fun a ha => ⟨(jp.2 a ha).1, (jp.2 a ha).2.1⟩) 20003 _ 0 (h.rz hs), ← h.sum hs]
    congr 1
    refine List.map_congr_left (fun p hp => ?_)
    have tp : T p.1 ≠ 0 := by
      obtain ⟨q1, q2, -⟩ := pd_up hW 20003 (c.ro s) 0 (h.rz hs) (by omega) p.1 (List.mem_map_of_mem hp)
      rw [q2]; exact (h.rz hs).resolve_left q1
    unfold gp hv
    rw [(jp.2 _ tp).2.1]
  rw [e1]
  unfold potV
  rw [(js.2.2.2 s hs).1]
  have : m.kd s = 0 ∨ m.kd s = 1 ∨ m.kd s = 2 ∨ m.kd s = 3 := by omega
  rcases this with q | q | q | q
  · rw [if_pos q, q]
    unfold Sm
    have : ∀ l : List Nat, (l.map (gp 0 c.P z)).sum = 0 := by
      intro l
      induction l with
      | nil => rfl
      | cons a l ih => rw [List.map_cons, List.sum_cons, ih]; rfl
    exact this _
  · rw [if_neg (by omega), if_pos q, q, (jz.1 s hs).2.2.1 q]
    unfold Sm
    have : ∀ l : List Nat, (l.map (gp 1 c.P z)).sum = 3 * (l.map (fun a => Nat.log2 (z a))).sum := by
      intro l
      induction l with
      | nil => rfl
      | cons a l ih => rw [List.map_cons, List.sum_cons, ih, List.map_cons, List.sum_cons, show gp 1 c.P z a = 3 * Nat.log2 (z a) from rfl]; omega
    exact this _
  · rw [if_neg (by omega), if_neg (by omega), if_pos (by omega), (jz.1 s hs).2.2.2 (by omega) hk, q]
    rfl
  · rw [if_neg (by omega), if_neg (by omega), if_pos (by omega), (jz.1 s hs).2.2.2 (by omega) hk, q]
    rfl
end Der2
