-- the beginning, and the loop
def m00 : MS := ((fun _ => 0, fun _ => 1, fun _ => 0, fun _ => 0, fun _ => 0, fun _ => 0), (fun _ => 0, (fun _ => 1, fun _ => 1, fun _ => 1), fun _ => 0, fun _ => 1, fun _ => 1), (fun _ => 0, fun _ => 1), (0, 0, 0, 0, 0, 0, 0, 0, 0, 0, 0, 1), (fun _ => 0, fun _ => 0, fun _ => 0, fun _ => 0), (fun _ => 0, fun _ => 0, fun _ => 0, fun _ => 0, 0))
def c00 : CS := ((fun _ => 0, fun _ => 0, (fun _ => 0, fun _ => 0, fun _ => 0), fun _ => 0, fun _ => 0, fun _ => 0, fun _ => 0), (fun _ => 0, fun _ => 0), (fun _ => 0, fun _ => 0, fun _ => 0, fun _ => 0, fun _ => 0, fun _ => 0, fun _ => 0, fun _ => 0, fun _ => 0, fun _ => 0, fun _ => 0, fun _ => 0), (0, 0, 0, 0, 0, 0), (fun _ => 0, fun _ => 0, fun _ => 0, fun _ => 0), fun _ => 0)
def d00 : DS := (fun _ => 0, fun _ => 0, fun _ => 0, fun _ => 0, fun _ => 0, fun _ => 0)
theorem ml00 : ml H0 m00 = H0 := by
  obtain ⟨⟨z1, z2, z3, z4⟩, hf⟩ := H0_z
  have e1 : mlI H0 m00 = H0.1.1 := by
    funext f a
    by_cases q43 : f = 43
    · subst q43
      by_cases g : a = 8
      · subst g
        refine Eq.trans ?_ (hf 43 8).symm
        decide +kernel
      · show (if a = 8 then _ else _) = _
        rw [if_neg g]
    by_cases q44 : f = 44
    · subst q44
      by_cases g : a = 8
      · subst g
        refine Eq.trans ?_ (hf 44 8).symm
        decide +kernel
      · show (if a = 8 then _ else _) = _
        rw [if_neg g]
    by_cases q50 : f = 50
    · subst q50
      by_cases g : a = 8
      · subst g
        refine Eq.trans ?_ (hf 50 8).symm
        decide +kernel
      · show (if a = 8 then _ else _) = _
        rw [if_neg g]
    by_cases q51 : f = 51
    · subst q51
      by_cases g : a = 8
      · subst g
        refine Eq.trans ?_ (hf 51 8).symm
        decide +kernel
      · show (if a = 8 then _ else _) = _
        rw [if_neg g]
    by_cases q56 : f = 56
    · subst q56
      by_cases g : a = 8
      · subst g
        refine Eq.trans ?_ (hf 56 8).symm
        decide +kernel
      · show (if a = 8 then _ else _) = _
        rw [if_neg g]
    by_cases q57 : f = 57
    · subst q57
      by_cases g : a = 8
      · subst g
        refine Eq.trans ?_ (hf 57 8).symm
        decide +kernel
      · show (if a = 8 then _ else _) = _
        rw [if_neg g]
    by_cases q58 : f = 58
    · subst q58
      by_cases g : a = 8
      · subst g
        refine Eq.trans ?_ (hf 58 8).symm
        decide +kernel
      · show (if a = 8 then _ else _) = _
        rw [if_neg g]
    by_cases q64 : f = 64
    · subst q64
      by_cases g : a = 8
      · subst g
        refine Eq.trans ?_ (hf 64 8).symm
        decide +kernel
      · show (if a = 8 then _ else _) = _
        rw [if_neg g]
    by_cases q65 : f = 65
    · subst q65
      by_cases g : a = 8
      · subst g
        refine Eq.trans ?_ (hf 65 8).symm
        decide +kernel
      · show (if a = 8 then _ else _) = _
        rw [if_neg g]
    by_cases q67 : f = 67
    · subst q67
      by_cases g : a = 8
      · subst g
        refine Eq.trans ?_ (hf 67 8).symm
        decide +kernel
      · show (if a = 8 then _ else _) = _
        rw [if_neg g]
    by_cases q72 : f = 72
    · subst q72
      by_cases g : a = 8
      · subst g
        refine Eq.trans ?_ (hf 72 8).symm
        decide +kernel
      · show (if a = 8 then _ else _) = _
        rw [if_neg g]
    by_cases q73 : f = 73
    · subst q73
      by_cases g : a = 8
      · subst g
        refine Eq.trans ?_ (hf 73 8).symm
        decide +kernel
      · show (if a = 8 then _ else _) = _
        rw [if_neg g]
    unfold mlI
    simp only [q43, q44, q50, q51, q56, q57, q58, q64, q65, q67, q72, q73, if_false]
  have e2 : mlL H0 m00 = H0.1.2.1 := by
    funext f a
    by_cases q : f = 66
    · subst q
      by_cases g : a = 8
      · subst g
        exact (z1 66 8).symm
      · show (if a = 8 then _ else _) = _
        rw [if_neg g]
    · exact if_neg q
  have en1 : en 1 = 0 := by decide +kernel
  have e3 : mlA H0 m00 = H0.2.1.1 := by
    funext a i
    by_cases q9 : a = 9
    · subst q9
      exact nI_0.trans (z2 9 i).symm
    by_cases q10 : a = 10
    · subst q10
      exact en1.trans (z2 10 i).symm
    by_cases q13 : a = 13
    · subst q13
      exact nI_0.trans (z2 13 i).symm
    by_cases q14 : a = 14
    · subst q14
      exact nI_0.trans (z2 14 i).symm
    by_cases q16 : a = 16
    · subst q16
      exact en1.trans (z2 16 i).symm
    by_cases q17 : a = 17
    · subst q17
      exact en1.trans (z2 17 i).symm
    by_cases q18 : a = 18
    · subst q18
      exact en1.trans (z2 18 i).symm
    by_cases q19 : a = 19
    · subst q19
      exact nI_0.trans (z2 19 i).symm
    by_cases q20 : a = 20
    · subst q20
      exact en1.trans (z2 20 i).symm
    by_cases q21 : a = 21
    · subst q21
      exact en1.trans (z2 21 i).symm
    by_cases q23 : a = 23
    · subst q23
      exact en1.trans (z2 23 i).symm
    by_cases q24 : a = 24
    · subst q24
      exact (z2 24 i).symm
    by_cases q26 : a = 26
    · subst q26
      exact (z2 26 i).symm
    by_cases q27 : a = 27
    · subst q27
      exact (z2 27 i).symm
    by_cases q28 : a = 28
    · subst q28
      exact (z2 28 i).symm
    by_cases q29 : a = 29
    · subst q29
      exact (z2 29 i).symm
    by_cases q30 : a = 30
    · subst q30
      exact (z2 30 i).symm
    by_cases q31 : a = 31
    · subst q31
      exact (z2 31 i).symm
    by_cases q32 : a = 32
    · subst q32
      exact (z2 32 i).symm
    unfold mlA
    simp only [q9, q10, q13, q14, q16, q17, q18, q19, q20, q21, q23, q24, q26, q27, q28, q29, q30, q31, q32, if_false]
  have e4 : mlB H0 m00 = H0.2.1.2.1 := by
    funext a i
    by_cases q11 : a = 11
    · subst q11
      exact (z3 11 i).symm
    by_cases q12 : a = 12
    · subst q12
      exact (z3 12 i).symm
    by_cases q15 : a = 15
    · subst q15
      exact (z3 15 i).symm
    by_cases q22 : a = 22
    · subst q22
      exact (z3 22 i).symm
    unfold mlB
    simp only [q11, q12, q15, q22, if_false]
  show ((mlI H0 m00, mlL H0 m00, H0.1.2.2), (mlA H0 m00, mlB H0 m00, H0.2.1.2.2), H0.2.2) = H0
  rw [e1, e2, e3, e4]
theorem cl00 : cl H0 d00 c00 = H0 := by
  obtain ⟨⟨z1, z2, z3, z4⟩, hf⟩ := H0_z
  have e1 : clI H0 d00 c00 = H0.1.1 := by
    funext f a
    by_cases q25 : f = 25
    · subst q25
      rfl
    by_cases q29 : f = 29
    · subst q29
      rfl
    by_cases q30 : f = 30
    · subst q30
      rfl
    by_cases q33 : f = 33
    · subst q33
      rfl
    by_cases q12 : f = 12
    · subst q12
      rfl
    by_cases q14 : f = 14
    · subst q14
      rfl
    by_cases q15 : f = 15
    · subst q15
      rfl
    by_cases q16 : f = 16
    · subst q16
      rfl
    by_cases q17 : f = 17
    · subst q17
      rfl
    by_cases q20 : f = 20
    · subst q20
      rfl
    by_cases q21 : f = 21
    · subst q21
      rfl
    by_cases q22 : f = 22
    · subst q22
      rfl
    by_cases q2 : f = 2
    · subst q2
      by_cases g : a = 1
      · subst g
        refine Eq.trans ?_ (hf 2 1).symm
        decide +kernel
      · show (if a = 1 then _ else _) = _
        rw [if_neg g]
    by_cases q3 : f = 3
    · subst q3
      by_cases g : a = 1
      · subst g
        refine Eq.trans ?_ (hf 3 1).symm
        decide +kernel
      · show (if a = 1 then _ else _) = _
        rw [if_neg g]
    by_cases q4 : f = 4
    · subst q4
      by_cases g : a = 1
      · subst g
        refine Eq.trans ?_ (hf 4 1).symm
        decide +kernel
      · show (if a = 1 then _ else _) = _
        rw [if_neg g]
    by_cases q6 : f = 6
    · subst q6
      by_cases g : a = 1
      · subst g
        refine Eq.trans ?_ (hf 6 1).symm
        decide +kernel
      · show (if a = 1 then _ else _) = _
        rw [if_neg g]
    by_cases q11 : f = 11
    · subst q11
      by_cases g : a = 3
      · subst g
        refine Eq.trans ?_ (hf 11 3).symm
        decide +kernel
      · show (if a = 3 then _ else _) = _
        rw [if_neg g]
    unfold clI
    simp only [q25, q29, q30, q33, q12, q14, q15, q16, q17, q20, q21, q22, q2, q3, q4, q6, q11, if_false]
  have e2 : clL H0 d00 c00 = H0.1.2.1 := by
    funext f a
    by_cases q24 : f = 24
    · subst q24; rfl
    by_cases q5 : f = 5
    · subst q5
      by_cases g : a = 1
      · subst g
        exact (z1 5 1).symm
      · show (if a = 1 then _ else _) = _
        rw [if_neg g]
    unfold clL
    simp only [q24, q5, if_false]
  have e3 : clR H0 d00 c00 = H0.1.2.2 := by
    funext f a
    by_cases q26 : f = 26
    · subst q26; rfl
    by_cases q27 : f = 27
    · subst q27; rfl
    by_cases q28 : f = 28
    · subst q28; rfl
    by_cases q31 : f = 31
    · subst q31; rfl
    by_cases q32 : f = 32
    · subst q32; rfl
    by_cases q34 : f = 34
    · subst q34; rfl
    by_cases q13 : f = 13
    · subst q13; rfl
    by_cases q18 : f = 18
    · subst q18; rfl
    by_cases q19 : f = 19
    · subst q19; rfl
    by_cases q23 : f = 23
    · subst q23; rfl
    unfold clR
    simp only [q26, q27, q28, q31, q32, q34, q13, q18, q19, q23, if_false]
  have e4 : clA H0 c00 = H0.2.1.1 := by
    funext a i
    by_cases q4 : a = 4
    · subst q4; exact (z2 4 i).symm
    by_cases q5 : a = 5
    · subst q5; exact (z2 5 i).symm
    by_cases q6 : a = 6
    · subst q6; exact (z2 6 i).symm
    by_cases q7 : a = 7
    · subst q7; exact (z2 7 i).symm
    unfold clA
    simp only [q4, q5, q6, q7, if_false]
  have e5 : clS H0 d00 c00 = H0.2.1.2.2 := by
    funext a i
    by_cases q : a = 2
    · subst q; exact (z4 2 i).symm
    · exact if_neg q
  show ((clI H0 d00 c00, clL H0 d00 c00, clR H0 d00 c00), (clA H0 c00, H0.2.1.2.1, clS H0 d00 c00), H0.2.2) = H0
  rw [e1, e2, e3, e4, e5]
theorem Inv00 : Inv 0 H0 m00 c00 d00 := by
  refine ⟨ml00, ⟨fun s hs => absurd hs (Nat.not_lt_zero s), ⟨rfl, rfl, rfl, Nat.le_refl _, Nat.le_refl _⟩, ⟨rfl, Nat.zero_le _, rfl, rfl, rfl, rfl⟩, fun _ => 0, fun i hi => absurd hi (Nat.not_lt_zero i)⟩, ⟨?_, ?_⟩, fun _ => 0, fun _ => 0, fun _ => [], fun _ => [], [], [], fun _ => 0, ?_⟩
  · rw [H0_nn]; decide
  · have := H0_sl
    show sl H0 + 2 * 0 ≤ 1000000 + 20 * 0 + 200 * 0
    omega
  · have nz : ∀ {p : Prop}, (0 : Nat) ≠ 0 → p := fun h => absurd rfl h
    refine ⟨⟨H0_CB, H0_MB, ⟨by rw [H0_nn]; decide, fun x hx => nz hx, fun x hx => nz hx, fun x hx => nz hx⟩, fun x hx => nz hx, fun x hx => nz hx, ⟨⟨rfl, rfl, rfl, rfl, rfl, rfl⟩, fun x hx => nz hx, fun x hx => nz hx, fun x hx => nz hx⟩⟩, ⟨rfl, ⟨Nat.zero_le _, fun i hi => absurd hi (Nat.not_lt_zero i), fun i _ => rfl⟩, fun s => ⟨fun h => absurd h (Ne.symm (Nat.succ_ne_zero s)), fun h => absurd h (Nat.not_lt_zero s)⟩, fun s hs => absurd hs (Nat.not_lt_zero s)⟩, ⟨⟨rfl, rfl, fun n hn => nz hn⟩, ⟨rfl, fun a ha => nz ha⟩, fun a ha => nz ha⟩, fun s hs => absurd hs (Nat.not_lt_zero s), ⟨fun n => ⟨by show 1 ≤ 20002; decide, by show 1 ≤ 20002; decide, by show 1 ≤ 20002; decide⟩, fun a ha => nz ha⟩, ⟨fun a a0 => ⟨fun h => absurd h (Ne.symm a0), fun h => nz h⟩, fun i i0 => ⟨fun h => absurd h (Ne.symm i0), fun h => nz h.1⟩⟩, fun a ha => nz ha, ⟨rfl, List.nodup_nil, fun i hi => absurd hi List.not_mem_nil, rfl, Nat.zero_le _, fun i hi => nz hi, fun i hi => nz hi⟩, ⟨rfl, List.nodup_nil, fun a ha => absurd ha List.not_mem_nil, fun a h1 h2 => absurd (Nat.le_trans h1 h2) (by show ¬ 1 ≤ 0; decide), fun a ha => nz ha, Nat.zero_le _⟩, ⟨fun s hs => absurd hs (Nat.not_lt_zero s), fun s t hs => absurd hs (Nat.not_lt_zero s)⟩, ⟨fun a => Nat.le_refl _, fun a ha => nz ha, fun a ha => nz ha, fun a e ha => nz ha⟩, ⟨fun s hs => absurd hs (Nat.not_lt_zero s), fun a ha => nz ha, fun a ha => nz ha⟩, ⟨fun s hs => absurd hs (Nat.not_lt_zero s), fun s hs => absurd hs (Nat.not_lt_zero s), fun a ha => nz ha⟩⟩
section Loop
variable (L : Nat) (xs : Nat → Int32)
theorem law_loop (hL : L ≤ 2560) : ∀ (n j : Nat) (B : AH) (m : MS) (c : CS) (d : DS), L ≤ 5 * j + n → 5 * j ≤ L → Inv j B m c d → ∃ h', X L xs 0 18 [.retAddr 0, .ref 1, .ref 8, .int (nI (5 * j))] [] (cl B d c) = some (h', some (.int 1)) ∧ nn h' ≤ 600000 ∧ sl h' ≤ 2000000 := by
  have c5 : (5 : Int32) = nI 5 := by decide +kernel
  have stop : ∀ (j : Nat) (B : AH) (m : MS) (c : CS) (d : DS), 5 * j ≤ L → L < 5 * j + 5 → Inv j B m c d → ∃ h', X L xs 0 18 [.retAddr 0, .ref 1, .ref 8, .int (nI (5 * j))] [] (cl B d c) = some (h', some (.int 1)) ∧ nn h' ≤ 600000 ∧ sl h' ≤ 2000000 := by
    intro j B m c d h1 h2 hI
    have cond : (Int32.ofNat L) - (5 : Int32) < nI (5 * j) := by
      by_cases g : 5 ≤ L
      · have e : nI L - nI 5 = nI (L - 5) := pk_sub g
        show nI L - (5 : Int32) < nI (5 * j)
        rw [c5, e, (nI_iff (by omega) (by omega)).2]
        omega
      · have j0 : j = 0 := by omega
        rw [j0]
        have : L = 0 ∨ L = 1 ∨ L = 2 ∨ L = 3 ∨ L = 4 := by omega
        rcases this with q | q | q | q | q <;> rw [q] <;> decide +kernel
    obtain ⟨e0, ja, jq, -⟩ := hI
    have hN := ja.2.2.1.2.1
    refine ⟨cl B d c, ?_, ?_, ?_⟩
    · rw [k_0_18, if_pos cond, k_0_1098]
      rfl
    · show nn B ≤ 600000
      have := jq.1
      omega
    · show sl B ≤ 2000000
      have := jq.2
      omega
  intro n
  induction n with
  | zero => intro j B m c d h1 h2 hI; exact stop j B m c d h2 (by omega) hI
  | succ n ih =>
    intro j B m c d h1 h2 hI
    by_cases g : L < 5 * j + 5
    · exact stop j B m c d h2 g hI
    · have cond : ¬ (Int32.ofNat L) - (5 : Int32) < nI (5 * j) := by
        have e : nI L - nI 5 = nI (L - 5) := pk_sub (by omega)
        show ¬ nI L - (5 : Int32) < nI (5 * j)
        rw [c5, e, (nI_iff (by omega) (by omega)).2]
        omega
      obtain ⟨B', m', c', d', e, hI'⟩ := law_step L xs hI (i := 5 * j) (by omega) hL
      obtain ⟨h', e2, e3, e4⟩ := ih (j + 1) B' m' c' d' (by omega) (by omega) hI'
      refine ⟨h', ?_, e3, e4⟩
      rw [k_0_18, if_neg cond, e, k_0_1092]
      have e5 : nI (5 * j) + (5 : Int32) = nI (5 * (j + 1)) := by rw [c5, nI_add]; congr 1
      rw [e5]
      exact e2
theorem law_all (hL : L ≤ 2560) : ∃ h', X L xs 0 0 (initL 0 [.retAddr 0]) [] e0 = some (h', some (.int 1)) ∧ nn h' ≤ 600000 ∧ sl h' ≤ 2000000 := by
  obtain ⟨h', e1, e2, e3⟩ := law_loop L xs hL L 0 H0 m00 c00 d00 (by omega) (by omega) Inv00
  refine ⟨h', ?_, e2, e3⟩
  have e4 : initL 0 [.retAddr 0] = [Value.retAddr 0, .null, .null, .null] := by decide +kernel
  rw [e4, law_new L xs, ← e1, cl00]
  rfl
end Loop
