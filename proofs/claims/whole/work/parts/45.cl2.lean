-- the two lenses; new objects
theorem cl_idem (h : AH) (d : DS) (c c' : CS) : cl (cl h d c) d c' = cl h d c' := by
  have e1 : clI (cl h d c) d c' = clI h d c' := by
    funext f x
    by_cases q25 : f = 25
    · subst q25
      by_cases g : d.nid x ≠ 0
      · show (if d.nid x ≠ 0 then _ else _) = (if d.nid x ≠ 0 then _ else _)
        rw [if_pos g, if_pos g]
      · show (if d.nid x ≠ 0 then _ else (if d.nid x ≠ 0 then _ else _)) = (if d.nid x ≠ 0 then _ else _)
        rw [if_neg g, if_neg g, if_neg g]
    by_cases q29 : f = 29
    · subst q29
      by_cases g : d.nid x ≠ 0
      · show (if d.nid x ≠ 0 then _ else _) = (if d.nid x ≠ 0 then _ else _)
        rw [if_pos g, if_pos g]
      · show (if d.nid x ≠ 0 then _ else (if d.nid x ≠ 0 then _ else _)) = (if d.nid x ≠ 0 then _ else _)
        rw [if_neg g, if_neg g, if_neg g]
    by_cases q30 : f = 30
    · subst q30
      by_cases g : d.nid x ≠ 0
      · show (if d.nid x ≠ 0 then _ else _) = (if d.nid x ≠ 0 then _ else _)
        rw [if_pos g, if_pos g]
      · show (if d.nid x ≠ 0 then _ else (if d.nid x ≠ 0 then _ else _)) = (if d.nid x ≠ 0 then _ else _)
        rw [if_neg g, if_neg g, if_neg g]
    by_cases q33 : f = 33
    · subst q33
      by_cases g : d.iid x ≠ 0
      · show (if d.iid x ≠ 0 then _ else _) = (if d.iid x ≠ 0 then _ else _)
        rw [if_pos g, if_pos g]
      · show (if d.iid x ≠ 0 then _ else (if d.iid x ≠ 0 then _ else _)) = (if d.iid x ≠ 0 then _ else _)
        rw [if_neg g, if_neg g, if_neg g]
    by_cases q12 : f = 12
    · subst q12
      by_cases g : d.sid x ≠ 0
      · show (if d.sid x ≠ 0 then _ else _) = (if d.sid x ≠ 0 then _ else _)
        rw [if_pos g, if_pos g]
      · show (if d.sid x ≠ 0 then _ else (if d.sid x ≠ 0 then _ else _)) = (if d.sid x ≠ 0 then _ else _)
        rw [if_neg g, if_neg g, if_neg g]
    by_cases q14 : f = 14
    · subst q14
      by_cases g : d.sid x ≠ 0
      · show (if d.sid x ≠ 0 then _ else _) = (if d.sid x ≠ 0 then _ else _)
        rw [if_pos g, if_pos g]
      · show (if d.sid x ≠ 0 then _ else (if d.sid x ≠ 0 then _ else _)) = (if d.sid x ≠ 0 then _ else _)
        rw [if_neg g, if_neg g, if_neg g]
    by_cases q15 : f = 15
    · subst q15
      by_cases g : d.sid x ≠ 0
      · show (if d.sid x ≠ 0 then _ else _) = (if d.sid x ≠ 0 then _ else _)
        rw [if_pos g, if_pos g]
      · show (if d.sid x ≠ 0 then _ else (if d.sid x ≠ 0 then _ else _)) = (if d.sid x ≠ 0 then _ else _)
        rw [if_neg g, if_neg g, if_neg g]
    by_cases q16 : f = 16
    · subst q16
      by_cases g : d.sid x ≠ 0
      · show (if d.sid x ≠ 0 then _ else _) = (if d.sid x ≠ 0 then _ else _)
        rw [if_pos g, if_pos g]
      · show (if d.sid x ≠ 0 then _ else (if d.sid x ≠ 0 then _ else _)) = (if d.sid x ≠ 0 then _ else _)
        rw [if_neg g, if_neg g, if_neg g]
    by_cases q17 : f = 17
    · subst q17
      by_cases g : d.sid x ≠ 0
      · show (if d.sid x ≠ 0 then _ else _) = (if d.sid x ≠ 0 then _ else _)
        rw [if_pos g, if_pos g]
      · show (if d.sid x ≠ 0 then _ else (if d.sid x ≠ 0 then _ else _)) = (if d.sid x ≠ 0 then _ else _)
        rw [if_neg g, if_neg g, if_neg g]
    by_cases q20 : f = 20
    · subst q20
      by_cases g : d.sid x ≠ 0
      · show (if d.sid x ≠ 0 then _ else _) = (if d.sid x ≠ 0 then _ else _)
        rw [if_pos g, if_pos g]
      · show (if d.sid x ≠ 0 then _ else (if d.sid x ≠ 0 then _ else _)) = (if d.sid x ≠ 0 then _ else _)
        rw [if_neg g, if_neg g, if_neg g]
    by_cases q21 : f = 21
    · subst q21
      by_cases g : d.sid x ≠ 0
      · show (if d.sid x ≠ 0 then _ else _) = (if d.sid x ≠ 0 then _ else _)
        rw [if_pos g, if_pos g]
      · show (if d.sid x ≠ 0 then _ else (if d.sid x ≠ 0 then _ else _)) = (if d.sid x ≠ 0 then _ else _)
        rw [if_neg g, if_neg g, if_neg g]
    by_cases q22 : f = 22
    · subst q22
      by_cases g : d.sid x ≠ 0
      · show (if d.sid x ≠ 0 then _ else _) = (if d.sid x ≠ 0 then _ else _)
        rw [if_pos g, if_pos g]
      · show (if d.sid x ≠ 0 then _ else (if d.sid x ≠ 0 then _ else _)) = (if d.sid x ≠ 0 then _ else _)
        rw [if_neg g, if_neg g, if_neg g]
    by_cases q2 : f = 2
    · subst q2
      by_cases g : x = 1
      · show (if x = 1 then _ else _) = (if x = 1 then _ else _)
        rw [if_pos g, if_pos g]
      · show (if x = 1 then _ else (if x = 1 then _ else _)) = (if x = 1 then _ else _)
        rw [if_neg g, if_neg g, if_neg g]
    by_cases q3 : f = 3
    · subst q3
      by_cases g : x = 1
      · show (if x = 1 then _ else _) = (if x = 1 then _ else _)
        rw [if_pos g, if_pos g]
      · show (if x = 1 then _ else (if x = 1 then _ else _)) = (if x = 1 then _ else _)
        rw [if_neg g, if_neg g, if_neg g]
    by_cases q4 : f = 4
    · subst q4
      by_cases g : x = 1
      · show (if x = 1 then _ else _) = (if x = 1 then _ else _)
        rw [if_pos g, if_pos g]
      · show (if x = 1 then _ else (if x = 1 then _ else _)) = (if x = 1 then _ else _)
        rw [if_neg g, if_neg g, if_neg g]
    by_cases q6 : f = 6
    · subst q6
      by_cases g : x = 1
      · show (if x = 1 then _ else _) = (if x = 1 then _ else _)
        rw [if_pos g, if_pos g]
      · show (if x = 1 then _ else (if x = 1 then _ else _)) = (if x = 1 then _ else _)
        rw [if_neg g, if_neg g, if_neg g]
    by_cases q11 : f = 11
    · subst q11
      by_cases g : x = 3
      · show (if x = 3 then _ else _) = (if x = 3 then _ else _)
        rw [if_pos g, if_pos g]
      · show (if x = 3 then _ else (if x = 3 then _ else _)) = (if x = 3 then _ else _)
        rw [if_neg g, if_neg g, if_neg g]
    unfold clI
    simp only [q25, q29, q30, q33, q12, q14, q15, q16, q17, q20, q21, q22, q2, q3, q4, q6, q11, if_false]
    show clI h d c f x = _
    unfold clI
    simp only [q25, q29, q30, q33, q12, q14, q15, q16, q17, q20, q21, q22, q2, q3, q4, q6, q11, if_false]
  have e2 : clL (cl h d c) d c' = clL h d c' := by
    funext f x
    by_cases q24 : f = 24
    · subst q24
      by_cases g : d.nid x ≠ 0
      · show (if d.nid x ≠ 0 then _ else _) = (if d.nid x ≠ 0 then _ else _)
        rw [if_pos g, if_pos g]
      · show (if d.nid x ≠ 0 then _ else (if d.nid x ≠ 0 then _ else _)) = (if d.nid x ≠ 0 then _ else _)
        rw [if_neg g, if_neg g, if_neg g]
    by_cases q5 : f = 5
    · subst q5
      by_cases g : x = 1
      · show (if x = 1 then _ else _) = (if x = 1 then _ else _)
        rw [if_pos g, if_pos g]
      · show (if x = 1 then _ else (if x = 1 then _ else _)) = (if x = 1 then _ else _)
        rw [if_neg g, if_neg g, if_neg g]
    unfold clL
    simp only [q24, q5, if_false]
    show clL h d c f x = _
    unfold clL
    simp only [q24, q5, if_false]
  have e3 : clR (cl h d c) d c' = clR h d c' := by
    funext f x
    by_cases q26 : f = 26
    · subst q26
      by_cases g : d.nid x ≠ 0
      · show (if d.nid x ≠ 0 then _ else _) = (if d.nid x ≠ 0 then _ else _)
        rw [if_pos g, if_pos g]
      · show (if d.nid x ≠ 0 then _ else (if d.nid x ≠ 0 then _ else _)) = (if d.nid x ≠ 0 then _ else _)
        rw [if_neg g, if_neg g, if_neg g]
    by_cases q27 : f = 27
    · subst q27
      by_cases g : d.nid x ≠ 0
      · show (if d.nid x ≠ 0 then _ else _) = (if d.nid x ≠ 0 then _ else _)
        rw [if_pos g, if_pos g]
      · show (if d.nid x ≠ 0 then _ else (if d.nid x ≠ 0 then _ else _)) = (if d.nid x ≠ 0 then _ else _)
        rw [if_neg g, if_neg g, if_neg g]
    by_cases q28 : f = 28
    · subst q28
      by_cases g : d.nid x ≠ 0
      · show (if d.nid x ≠ 0 then _ else _) = (if d.nid x ≠ 0 then _ else _)
        rw [if_pos g, if_pos g]
      · show (if d.nid x ≠ 0 then _ else (if d.nid x ≠ 0 then _ else _)) = (if d.nid x ≠ 0 then _ else _)
        rw [if_neg g, if_neg g, if_neg g]
    by_cases q31 : f = 31
    · subst q31
      by_cases g : d.nid x ≠ 0
      · show (if d.nid x ≠ 0 then _ else _) = (if d.nid x ≠ 0 then _ else _)
        rw [if_pos g, if_pos g]
      · show (if d.nid x ≠ 0 then _ else (if d.nid x ≠ 0 then _ else _)) = (if d.nid x ≠ 0 then _ else _)
        rw [if_neg g, if_neg g, if_neg g]
    by_cases q32 : f = 32
    · subst q32
      by_cases g : d.nid x ≠ 0
      · show (if d.nid x ≠ 0 then _ else _) = (if d.nid x ≠ 0 then _ else _)
        rw [if_pos g, if_pos g]
      · show (if d.nid x ≠ 0 then _ else (if d.nid x ≠ 0 then _ else _)) = (if d.nid x ≠ 0 then _ else _)
        rw [if_neg g, if_neg g, if_neg g]
    by_cases q34 : f = 34
    · subst q34
      by_cases g : d.iid x ≠ 0
      · show (if d.iid x ≠ 0 then _ else _) = (if d.iid x ≠ 0 then _ else _)
        rw [if_pos g, if_pos g]
      · show (if d.iid x ≠ 0 then _ else (if d.iid x ≠ 0 then _ else _)) = (if d.iid x ≠ 0 then _ else _)
        rw [if_neg g, if_neg g, if_neg g]
    by_cases q13 : f = 13
    · subst q13
      by_cases g : d.sid x ≠ 0
      · show (if d.sid x ≠ 0 then _ else _) = (if d.sid x ≠ 0 then _ else _)
        rw [if_pos g, if_pos g]
      · show (if d.sid x ≠ 0 then _ else (if d.sid x ≠ 0 then _ else _)) = (if d.sid x ≠ 0 then _ else _)
        rw [if_neg g, if_neg g, if_neg g]
    by_cases q18 : f = 18
    · subst q18
      by_cases g : d.sid x ≠ 0
      · show (if d.sid x ≠ 0 then _ else _) = (if d.sid x ≠ 0 then _ else _)
        rw [if_pos g, if_pos g]
      · show (if d.sid x ≠ 0 then _ else (if d.sid x ≠ 0 then _ else _)) = (if d.sid x ≠ 0 then _ else _)
        rw [if_neg g, if_neg g, if_neg g]
    by_cases q19 : f = 19
    · subst q19
      by_cases g : d.sid x ≠ 0
      · show (if d.sid x ≠ 0 then _ else _) = (if d.sid x ≠ 0 then _ else _)
        rw [if_pos g, if_pos g]
      · show (if d.sid x ≠ 0 then _ else (if d.sid x ≠ 0 then _ else _)) = (if d.sid x ≠ 0 then _ else _)
        rw [if_neg g, if_neg g, if_neg g]
    by_cases q23 : f = 23
    · subst q23
      by_cases g : d.sid x ≠ 0
      · show (if d.sid x ≠ 0 then _ else _) = (if d.sid x ≠ 0 then _ else _)
        rw [if_pos g, if_pos g]
      · show (if d.sid x ≠ 0 then _ else (if d.sid x ≠ 0 then _ else _)) = (if d.sid x ≠ 0 then _ else _)
        rw [if_neg g, if_neg g, if_neg g]
    unfold clR
    simp only [q26, q27, q28, q31, q32, q34, q13, q18, q19, q23, if_false]
    show clR h d c f x = _
    unfold clR
    simp only [q26, q27, q28, q31, q32, q34, q13, q18, q19, q23, if_false]
  have e4 : clA (cl h d c) c' = clA h c' := by
    funext a i
    by_cases q4 : a = 4
    · subst q4
      rfl
    by_cases q5 : a = 5
    · subst q5
      rfl
    by_cases q6 : a = 6
    · subst q6
      rfl
    by_cases q7 : a = 7
    · subst q7
      rfl
    unfold clA
    simp only [q4, q5, q6, q7, if_false]
    show clA h c a i = _
    unfold clA
    simp only [q4, q5, q6, q7, if_false]
  have e5 : clS (cl h d c) d c' = clS h d c' := by
    funext a i
    by_cases q2 : a = 2
    · subst q2
      rfl
    unfold clS
    simp only [q2, if_false]
    show clS h d c a i = _
    unfold clS
    simp only [q2, if_false]
  show (((clI (cl h d c) d c', clL (cl h d c) d c', clR (cl h d c) d c'), (clA (cl h d c) c', h.2.1.2.1, clS (cl h d c) d c'), h.2.2) : AH) = _
  rw [e1, e2, e3, e4, e5]
  rfl
theorem ml_cl (h : AH) (d : DS) (c : CS) (m : MS) : ml (cl h d c) m = cl (ml h m) d c := by
  have e1 : mlI (cl h d c) m = clI (ml h m) d c := by
    funext f x
    by_cases q43 : f = 43
    · subst q43; rfl
    by_cases q44 : f = 44
    · subst q44; rfl
    by_cases q50 : f = 50
    · subst q50; rfl
    by_cases q51 : f = 51
    · subst q51; rfl
    by_cases q56 : f = 56
    · subst q56; rfl
    by_cases q57 : f = 57
    · subst q57; rfl
    by_cases q58 : f = 58
    · subst q58; rfl
    by_cases q64 : f = 64
    · subst q64; rfl
    by_cases q65 : f = 65
    · subst q65; rfl
    by_cases q67 : f = 67
    · subst q67; rfl
    by_cases q72 : f = 72
    · subst q72; rfl
    by_cases q73 : f = 73
    · subst q73; rfl
    unfold mlI
    simp only [q43, q44, q50, q51, q56, q57, q58, q64, q65, q67, q72, q73, if_false]
    have em : (ml h m).1.1 f x = h.1.1 f x := by
      show mlI h m f x = _
      unfold mlI
      simp only [q43, q44, q50, q51, q56, q57, q58, q64, q65, q67, q72, q73, if_false]
    show clI h d c f x = clI (ml h m) d c f x
    unfold clI
    simp only [em]
  have e2 : mlL (cl h d c) m = clL (ml h m) d c := by
    funext f x
    by_cases q66 : f = 66
    · subst q66; rfl
    unfold mlL
    simp only [q66, if_false]
    have em : (ml h m).1.2.1 f x = h.1.2.1 f x := by
      show mlL h m f x = _
      unfold mlL
      simp only [q66, if_false]
    show clL h d c f x = clL (ml h m) d c f x
    unfold clL
    simp only [em]
  have e4 : mlA (cl h d c) m = clA (ml h m) c := by
    funext a i
    by_cases q9 : a = 9
    · subst q9; rfl
    by_cases q10 : a = 10
    · subst q10; rfl
    by_cases q13 : a = 13
    · subst q13; rfl
    by_cases q14 : a = 14
    · subst q14; rfl
    by_cases q16 : a = 16
    · subst q16; rfl
    by_cases q17 : a = 17
    · subst q17; rfl
    by_cases q18 : a = 18
    · subst q18; rfl
    by_cases q19 : a = 19
    · subst q19; rfl
    by_cases q20 : a = 20
    · subst q20; rfl
    by_cases q21 : a = 21
    · subst q21; rfl
    by_cases q23 : a = 23
    · subst q23; rfl
    by_cases q24 : a = 24
    · subst q24; rfl
    by_cases q26 : a = 26
    · subst q26; rfl
    by_cases q27 : a = 27
    · subst q27; rfl
    by_cases q28 : a = 28
    · subst q28; rfl
    by_cases q29 : a = 29
    · subst q29; rfl
    by_cases q30 : a = 30
    · subst q30; rfl
    by_cases q31 : a = 31
    · subst q31; rfl
    by_cases q32 : a = 32
    · subst q32; rfl
    unfold mlA
    simp only [q9, q10, q13, q14, q16, q17, q18, q19, q20, q21, q23, q24, q26, q27, q28, q29, q30, q31, q32, if_false]
    have em : (ml h m).2.1.1 a i = h.2.1.1 a i := by
      show mlA h m a i = _
      unfold mlA
      simp only [q9, q10, q13, q14, q16, q17, q18, q19, q20, q21, q23, q24, q26, q27, q28, q29, q30, q31, q32, if_false]
    show clA h c a i = clA (ml h m) c a i
    unfold clA
    simp only [em]
  have e6 : mlB (cl h d c) m = mlB h m := by
    funext a i
    by_cases q11 : a = 11
    · subst q11; rfl
    by_cases q12 : a = 12
    · subst q12; rfl
    by_cases q15 : a = 15
    · subst q15; rfl
    by_cases q22 : a = 22
    · subst q22; rfl
    unfold mlB
    simp only [q11, q12, q15, q22, if_false]
    rfl
  show (((mlI (cl h d c) m, mlL (cl h d c) m, clR h d c), (mlA (cl h d c) m, mlB (cl h d c) m, clS h d c), h.2.2) : AH) = (((clI (ml h m) d c, clL (ml h m) d c, clR (ml h m) d c), (clA (ml h m) c, mlB h m, clS (ml h m) d c), h.2.2) : AH)
  rw [e1, e2, e4, e6]
  rfl
def Oud (d : DS) (y : Nat) : Prop := d.nid y = 0 ∧ d.iid y = 0 ∧ d.sid y = 0 ∧ 32 < y
theorem clI_o (h : AH) {d : DS} (c : CS) {y : Nat} (hy : Oud d y) (f : Nat) : clI h d c f y = h.1.1 f y := by
  obtain ⟨o1, o2, o3, o4⟩ := hy
  unfold clI
  simp only [o1, o2, o3, show ¬ y = 1 from by omega, show ¬ y = 3 from by omega, ne_eq, not_true_eq_false, if_false, ite_self]
theorem clI_g (h h' : AH) (d : DS) (c : CS) {f x : Nat} (e : h.1.1 f x = h'.1.1 f x) : clI h d c f x = clI h' d c f x := by
  unfold clI
  rw [e]
theorem clL_o (h : AH) {d : DS} (c : CS) {y : Nat} (hy : Oud d y) (f : Nat) : clL h d c f y = h.1.2.1 f y := by
  obtain ⟨o1, o2, o3, o4⟩ := hy
  unfold clL
  simp only [o1, o2, o3, show ¬ y = 1 from by omega, show ¬ y = 3 from by omega, ne_eq, not_true_eq_false, if_false, ite_self]
theorem clL_g (h h' : AH) (d : DS) (c : CS) {f x : Nat} (e : h.1.2.1 f x = h'.1.2.1 f x) : clL h d c f x = clL h' d c f x := by
  unfold clL
  rw [e]
theorem clR_o (h : AH) {d : DS} (c : CS) {y : Nat} (hy : Oud d y) (f : Nat) : clR h d c f y = h.1.2.2 f y := by
  obtain ⟨o1, o2, o3, o4⟩ := hy
  unfold clR
  simp only [o1, o2, o3, show ¬ y = 1 from by omega, show ¬ y = 3 from by omega, ne_eq, not_true_eq_false, if_false, ite_self]
theorem clR_g (h h' : AH) (d : DS) (c : CS) {f x : Nat} (e : h.1.2.2 f x = h'.1.2.2 f x) : clR h d c f x = clR h' d c f x := by
  unfold clR
  rw [e]
theorem wI_cl (h : AH) {d : DS} (c : CS) {y : Nat} (hy : Oud d y) (f : Nat) (v : Int32) : wI (cl h d c) f y v = cl (wI h f y v) d c := by
  have e : u2 (clI h d c) f y v = clI (wI h f y v) d c := by
    funext g x
    by_cases h1 : x = y
    · subst h1
      rw [clI_o _ c hy]
      show (if g = f then (if x = x then v else clI h d c g x) else clI h d c g x) = (if g = f then (if x = x then v else h.1.1 g x) else h.1.1 g x)
      rw [clI_o _ c hy]
    · have e1 : u2 (clI h d c) f y v g x = clI h d c g x := by
        unfold u2
        by_cases h2 : g = f
        · rw [if_pos h2, if_neg h1]
        · rw [if_neg h2]
      rw [e1]
      refine clI_g _ _ d c ?_
      show _ = u2 h.1.1 f y v g x
      unfold u2
      by_cases h2 : g = f
      · rw [if_pos h2, if_neg h1]
      · rw [if_neg h2]
  exact congrArg (fun q => (((q, clL h d c, clR h d c), (clA h c, h.2.1.2.1, clS h d c), h.2.2) : AH)) e
theorem wL_cl (h : AH) {d : DS} (c : CS) {y : Nat} (hy : Oud d y) (f : Nat) (v : Int64) : wL (cl h d c) f y v = cl (wL h f y v) d c := by
  have e : u2 (clL h d c) f y v = clL (wL h f y v) d c := by
    funext g x
    by_cases h1 : x = y
    · subst h1
      rw [clL_o _ c hy]
      show (if g = f then (if x = x then v else clL h d c g x) else clL h d c g x) = (if g = f then (if x = x then v else h.1.2.1 g x) else h.1.2.1 g x)
      rw [clL_o _ c hy]
    · have e1 : u2 (clL h d c) f y v g x = clL h d c g x := by
        unfold u2
        by_cases h2 : g = f
        · rw [if_pos h2, if_neg h1]
        · rw [if_neg h2]
      rw [e1]
      refine clL_g _ _ d c ?_
      show _ = u2 h.1.2.1 f y v g x
      unfold u2
      by_cases h2 : g = f
      · rw [if_pos h2, if_neg h1]
      · rw [if_neg h2]
  exact congrArg (fun q => (((clI h d c, q, clR h d c), (clA h c, h.2.1.2.1, clS h d c), h.2.2) : AH)) e
theorem wR_cl (h : AH) {d : DS} (c : CS) {y : Nat} (hy : Oud d y) (f : Nat) (v : Nat) : wR (cl h d c) f y v = cl (wR h f y v) d c := by
  have e : u2 (clR h d c) f y v = clR (wR h f y v) d c := by
    funext g x
    by_cases h1 : x = y
    · subst h1
      rw [clR_o _ c hy]
      show (if g = f then (if x = x then v else clR h d c g x) else clR h d c g x) = (if g = f then (if x = x then v else h.1.2.2 g x) else h.1.2.2 g x)
      rw [clR_o _ c hy]
    · have e1 : u2 (clR h d c) f y v g x = clR h d c g x := by
        unfold u2
        by_cases h2 : g = f
        · rw [if_pos h2, if_neg h1]
        · rw [if_neg h2]
      rw [e1]
      refine clR_g _ _ d c ?_
      show _ = u2 h.1.2.2 f y v g x
      unfold u2
      by_cases h2 : g = f
      · rw [if_pos h2, if_neg h1]
      · rw [if_neg h2]
  exact congrArg (fun q => (((clI h d c, clL h d c, q), (clA h c, h.2.1.2.1, clS h d c), h.2.2) : AH)) e
theorem sL_cl (h : AH) (d : DS) (c : CS) (a i : Nat) (v : Int64) : sL (cl h d c) a i v = cl (sL h a i v) d c := rfl
theorem mk_cl (h : AH) {d : DS} (c : CS) (hy : Oud d (nn h + 1)) (t l n : Nat) : mk (cl h d c) t l n = cl (mk h t l n) d c := by
  have e1 : (fun f a => if a = nn h + 1 then 0 else clI h d c f a) = clI (mk h t l n) d c := by
    funext f x
    by_cases h1 : x = nn h + 1
    · rw [if_pos h1, h1, clI_o _ c hy]; show _ = (if nn h + 1 = nn h + 1 then (0 : Int32) else _); rw [if_pos rfl]
    · rw [if_neg h1]; refine clI_g _ _ d c ?_; show _ = (if x = nn h + 1 then (0 : Int32) else _); rw [if_neg h1]
  have e2 : (fun f a => if a = nn h + 1 then 0 else clL h d c f a) = clL (mk h t l n) d c := by
    funext f x
    by_cases h1 : x = nn h + 1
    · rw [if_pos h1, h1, clL_o _ c hy]; show _ = (if nn h + 1 = nn h + 1 then (0 : Int64) else _); rw [if_pos rfl]
    · rw [if_neg h1]; refine clL_g _ _ d c ?_; show _ = (if x = nn h + 1 then (0 : Int64) else _); rw [if_neg h1]
  have e3 : (fun f a => if a = nn h + 1 then 0 else clR h d c f a) = clR (mk h t l n) d c := by
    funext f x
    by_cases h1 : x = nn h + 1
    · rw [if_pos h1, h1, clR_o _ c hy]; show _ = (if nn h + 1 = nn h + 1 then (0 : Nat) else _); rw [if_pos rfl]
    · rw [if_neg h1]; refine clR_g _ _ d c ?_; show _ = (if x = nn h + 1 then (0 : Nat) else _); rw [if_neg h1]
  have hy4 := hy.2.2.2
  have e4 : (fun a i => if a = nn h + 1 then 0 else clA h c a i) = clA (mk h t l n) c := by
    funext a i
    unfold clA
    show _ = (if a = 4 then _ else if a = 5 then _ else if a = 6 then _ else if a = 7 then _ else (if a = nn h + 1 then (0 : Int32) else h.2.1.1 a i))
    by_cases h1 : a = nn h + 1
    · rw [if_pos h1, if_neg (by omega), if_neg (by omega), if_neg (by omega), if_neg (by omega), if_pos h1]
    · rw [if_neg h1, if_neg h1]
  have e5 : (fun a i => if a = nn h + 1 then 0 else clS h d c a i) = clS (mk h t l n) d c := by
    funext a i
    unfold clS
    show _ = (if a = 2 then _ else (if a = nn h + 1 then (0 : Nat) else h.2.1.2.2 a i))
    by_cases h1 : a = nn h + 1
    · rw [if_pos h1, if_neg (by omega), if_pos h1]
    · rw [if_neg h1, if_neg h1]
  show (((fun f a => if a = nn h + 1 then 0 else clI h d c f a, fun f a => if a = nn h + 1 then 0 else clL h d c f a, fun f a => if a = nn h + 1 then 0 else clR h d c f a), (fun a i => if a = nn h + 1 then 0 else clA h c a i, fun a i => if a = nn h + 1 then 0 else h.2.1.2.1 a i, fun a i => if a = nn h + 1 then 0 else clS h d c a i), (mk h t l n).2.2) : AH) = _
  rw [e1, e2, e3, e4, e5]
  rfl
theorem mlI_o (h : AH) (m : MS) {a : Nat} (ha : 32 < a) (f : Nat) : mlI h m f a = h.1.1 f a := by
  unfold mlI
  simp only [show ¬ a = 8 from by omega, if_false, ite_self]
theorem mlL_o (h : AH) (m : MS) {a : Nat} (ha : 32 < a) (f : Nat) : mlL h m f a = h.1.2.1 f a := by
  unfold mlL
  simp only [show ¬ a = 8 from by omega, if_false, ite_self]
theorem mlA_o (h : AH) (m : MS) {a : Nat} (ha : 32 < a) (i : Nat) : mlA h m a i = h.2.1.1 a i := by
  unfold mlA
  simp only [show ¬ a = 9 from by omega, show ¬ a = 10 from by omega, show ¬ a = 13 from by omega, show ¬ a = 14 from by omega, show ¬ a = 16 from by omega, show ¬ a = 17 from by omega, show ¬ a = 18 from by omega, show ¬ a = 19 from by omega, show ¬ a = 20 from by omega, show ¬ a = 21 from by omega, show ¬ a = 23 from by omega, show ¬ a = 24 from by omega, show ¬ a = 26 from by omega, show ¬ a = 27 from by omega, show ¬ a = 28 from by omega, show ¬ a = 29 from by omega, show ¬ a = 30 from by omega, show ¬ a = 31 from by omega, show ¬ a = 32 from by omega, if_false]
theorem mlB_o (h : AH) (m : MS) {a : Nat} (ha : 32 < a) (i : Nat) : mlB h m a i = h.2.1.2.1 a i := by
  unfold mlB
  simp only [show ¬ a = 11 from by omega, show ¬ a = 12 from by omega, show ¬ a = 15 from by omega, show ¬ a = 22 from by omega, if_false]
theorem mlI_g (h h' : AH) (m : MS) {f x : Nat} (e : h.1.1 f x = h'.1.1 f x) : mlI h m f x = mlI h' m f x := by
  unfold mlI
  rw [e]
theorem mlL_g (h h' : AH) (m : MS) {f x : Nat} (e : h.1.2.1 f x = h'.1.2.1 f x) : mlL h m f x = mlL h' m f x := by
  unfold mlL
  rw [e]
theorem mlA_g (h h' : AH) (m : MS) {f x : Nat} (e : h.2.1.1 f x = h'.2.1.1 f x) : mlA h m f x = mlA h' m f x := by
  unfold mlA
  rw [e]
theorem mlB_g (h h' : AH) (m : MS) {f x : Nat} (e : h.2.1.2.1 f x = h'.2.1.2.1 f x) : mlB h m f x = mlB h' m f x := by
  unfold mlB
  rw [e]
theorem mk_ml (h : AH) (m : MS) (hy : 32 < nn h + 1) (t l n : Nat) : mk (ml h m) t l n = ml (mk h t l n) m := by
  have e1 : (fun f a => if a = nn h + 1 then 0 else mlI h m f a) = mlI (mk h t l n) m := by
    funext f x
    by_cases h1 : x = nn h + 1
    · rw [if_pos h1, h1, mlI_o _ m hy]; show _ = (if nn h + 1 = nn h + 1 then (0 : Int32) else _); rw [if_pos rfl]
    · rw [if_neg h1]; refine mlI_g _ _ m ?_; show _ = (if x = nn h + 1 then (0 : Int32) else _); rw [if_neg h1]
  have e2 : (fun f a => if a = nn h + 1 then 0 else mlL h m f a) = mlL (mk h t l n) m := by
    funext f x
    by_cases h1 : x = nn h + 1
    · rw [if_pos h1, h1, mlL_o _ m hy]; show _ = (if nn h + 1 = nn h + 1 then (0 : Int64) else _); rw [if_pos rfl]
    · rw [if_neg h1]; refine mlL_g _ _ m ?_; show _ = (if x = nn h + 1 then (0 : Int64) else _); rw [if_neg h1]
  have e3 : (fun f a => if f = nn h + 1 then 0 else mlA h m f a) = mlA (mk h t l n) m := by
    funext f x
    by_cases h1 : f = nn h + 1
    · rw [if_pos h1, h1, mlA_o _ m hy]; show _ = (if nn h + 1 = nn h + 1 then (0 : Int32) else _); rw [if_pos rfl]
    · rw [if_neg h1]; refine mlA_g _ _ m ?_; show _ = (if f = nn h + 1 then (0 : Int32) else _); rw [if_neg h1]
  have e4 : (fun f a => if f = nn h + 1 then 0 else mlB h m f a) = mlB (mk h t l n) m := by
    funext f x
    by_cases h1 : f = nn h + 1
    · rw [if_pos h1, h1, mlB_o _ m hy]; show _ = (if nn h + 1 = nn h + 1 then (0 : Int64) else _); rw [if_pos rfl]
    · rw [if_neg h1]; refine mlB_g _ _ m ?_; show _ = (if f = nn h + 1 then (0 : Int64) else _); rw [if_neg h1]
  show (((fun f a => if a = nn h + 1 then 0 else mlI h m f a, fun f a => if a = nn h + 1 then 0 else mlL h m f a, fun f a => if a = nn h + 1 then 0 else h.1.2.2 f a), (fun a i => if a = nn h + 1 then 0 else mlA h m a i, fun a i => if a = nn h + 1 then 0 else mlB h m a i, fun a i => if a = nn h + 1 then 0 else h.2.1.2.2 a i), (mk h t l n).2.2) : AH) = _
  rw [e1, e2, e3, e4]
  rfl
theorem wI_ml (h : AH) (m : MS) {y : Nat} (hy : 32 < y) (f : Nat) (v : Int32) : wI (ml h m) f y v = ml (wI h f y v) m := by
  have e : u2 (mlI h m) f y v = mlI (wI h f y v) m := by
    funext g x
    by_cases h1 : x = y
    · subst h1
      rw [mlI_o _ m hy]
      show (if g = f then (if x = x then v else mlI h m g x) else mlI h m g x) = (if g = f then (if x = x then v else h.1.1 g x) else h.1.1 g x)
      rw [mlI_o _ m hy]
    · have e1 : u2 (mlI h m) f y v g x = mlI h m g x := by
        unfold u2
        by_cases h2 : g = f
        · rw [if_pos h2, if_neg h1]
        · rw [if_neg h2]
      rw [e1]
      refine mlI_g _ _ m ?_
      show _ = u2 h.1.1 f y v g x
      unfold u2
      by_cases h2 : g = f
      · rw [if_pos h2, if_neg h1]
      · rw [if_neg h2]
  exact congrArg (fun q => (((q, mlL h m, h.1.2.2), (mlA h m, mlB h m, h.2.1.2.2), h.2.2) : AH)) e
theorem wL_ml (h : AH) (m : MS) {y : Nat} (hy : 32 < y) (f : Nat) (v : Int64) : wL (ml h m) f y v = ml (wL h f y v) m := by
  have e : u2 (mlL h m) f y v = mlL (wL h f y v) m := by
    funext g x
    by_cases h1 : x = y
    · subst h1
      rw [mlL_o _ m hy]
      show (if g = f then (if x = x then v else mlL h m g x) else mlL h m g x) = (if g = f then (if x = x then v else h.1.2.1 g x) else h.1.2.1 g x)
      rw [mlL_o _ m hy]
    · have e1 : u2 (mlL h m) f y v g x = mlL h m g x := by
        unfold u2
        by_cases h2 : g = f
        · rw [if_pos h2, if_neg h1]
        · rw [if_neg h2]
      rw [e1]
      refine mlL_g _ _ m ?_
      show _ = u2 h.1.2.1 f y v g x
      unfold u2
      by_cases h2 : g = f
      · rw [if_pos h2, if_neg h1]
      · rw [if_neg h2]
  exact congrArg (fun q => (((mlI h m, q, h.1.2.2), (mlA h m, mlB h m, h.2.1.2.2), h.2.2) : AH)) e
theorem wR_ml (h : AH) (m : MS) (f y v : Nat) : wR (ml h m) f y v = ml (wR h f y v) m := rfl
theorem sL_ml (h : AH) (m : MS) {y : Nat} (hy : 32 < y) (i : Nat) (v : Int64) : sL (ml h m) y i v = ml (sL h y i v) m := by
  have e : u2 (mlB h m) y i v = mlB (sL h y i v) m := by
    funext g x
    by_cases h1 : g = y
    · subst h1
      rw [mlB_o _ m hy]
      show (if g = g then (if x = i then v else mlB h m g x) else mlB h m g x) = (if g = g then (if x = i then v else h.2.1.2.1 g x) else h.2.1.2.1 g x)
      rw [mlB_o _ m hy]
    · have e1 : u2 (mlB h m) y i v g x = mlB h m g x := by
        unfold u2
        rw [if_neg h1]
      rw [e1]
      refine mlB_g _ _ m ?_
      show _ = u2 h.2.1.2.1 y i v g x
      unfold u2
      rw [if_neg h1]
  exact congrArg (fun q => (((mlI h m, mlL h m, h.1.2.2), (mlA h m, q, h.2.1.2.2), h.2.2) : AH)) e
