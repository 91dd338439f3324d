-- THE REFERENCE'S lay: its scratch rows
def sc (h : AH) (O Pi Z F : Nat → Int32) (n : Int32) : AH :=
  ((u2 h.1.1 64 8 n, h.1.2.1, h.1.2.2), (fun a i => if a = 24 then O i else if a = 26 then Pi i else if a = 27 then Z i else if a = 28 then F i else h.2.1.1 a i, h.2.1.2.1, h.2.1.2.2), h.2.2)
theorem Hsc (h : AH) (O Pi Z F : Nat → Int32) (n : Int32) : (∀ f a, fL (sc h O Pi Z F n) f a = fL h f a) ∧ (∀ f a, fR (sc h O Pi Z F n) f a = fR h f a) ∧ (∀ f a, eL (sc h O Pi Z F n) f a = eL h f a) ∧ (∀ f a, eR (sc h O Pi Z F n) f a = eR h f a) ∧ (∀ a, tg (sc h O Pi Z F n) a = tg h a) ∧ (∀ a, ln (sc h O Pi Z F n) a = ln h a) ∧ (nn (sc h O Pi Z F n) = nn h) ∧ (sl (sc h O Pi Z F n) = sl h) ∧ (fI (sc h O Pi Z F n) 64 8 = n) ∧ (∀ x, eI (sc h O Pi Z F n) 24 x = O x) ∧ (∀ x, eI (sc h O Pi Z F n) 26 x = Pi x) ∧ (∀ x, eI (sc h O Pi Z F n) 27 x = Z x) ∧ (∀ x, eI (sc h O Pi Z F n) 28 x = F x) ∧ (∀ a, fI (sc h O Pi Z F n) 2 a = fI h 2 a) ∧ (∀ a, fI (sc h O Pi Z F n) 3 a = fI h 3 a) ∧ (∀ a, fI (sc h O Pi Z F n) 4 a = fI h 4 a) ∧ (∀ a, fI (sc h O Pi Z F n) 6 a = fI h 6 a) ∧ (∀ a, fI (sc h O Pi Z F n) 11 a = fI h 11 a) ∧ (∀ a, fI (sc h O Pi Z F n) 12 a = fI h 12 a) ∧ (∀ a, fI (sc h O Pi Z F n) 14 a = fI h 14 a) ∧ (∀ a, fI (sc h O Pi Z F n) 15 a = fI h 15 a) ∧ (∀ a, fI (sc h O Pi Z F n) 16 a = fI h 16 a) ∧ (∀ a, fI (sc h O Pi Z F n) 17 a = fI h 17 a) ∧ (∀ a, fI (sc h O Pi Z F n) 20 a = fI h 20 a) ∧ (∀ a, fI (sc h O Pi Z F n) 21 a = fI h 21 a) ∧ (∀ a, fI (sc h O Pi Z F n) 22 a = fI h 22 a) ∧ (∀ a, fI (sc h O Pi Z F n) 25 a = fI h 25 a) ∧ (∀ a, fI (sc h O Pi Z F n) 29 a = fI h 29 a) ∧ (∀ a, fI (sc h O Pi Z F n) 30 a = fI h 30 a) ∧ (∀ a, fI (sc h O Pi Z F n) 33 a = fI h 33 a) ∧ (∀ a, fI (sc h O Pi Z F n) 36 a = fI h 36 a) ∧ (∀ a, fI (sc h O Pi Z F n) 43 a = fI h 43 a) ∧ (∀ a, fI (sc h O Pi Z F n) 44 a = fI h 44 a) ∧ (∀ a, fI (sc h O Pi Z F n) 50 a = fI h 50 a) ∧ (∀ a, fI (sc h O Pi Z F n) 51 a = fI h 51 a) ∧ (∀ a, fI (sc h O Pi Z F n) 56 a = fI h 56 a) ∧ (∀ a, fI (sc h O Pi Z F n) 57 a = fI h 57 a) ∧ (∀ a, fI (sc h O Pi Z F n) 58 a = fI h 58 a) ∧ (∀ a, fI (sc h O Pi Z F n) 65 a = fI h 65 a) ∧ (∀ a, fI (sc h O Pi Z F n) 67 a = fI h 67 a) ∧ (∀ a, fI (sc h O Pi Z F n) 72 a = fI h 72 a) ∧ (∀ a, fI (sc h O Pi Z F n) 73 a = fI h 73 a) ∧ (∀ x, eI (sc h O Pi Z F n) 2 x = eI h 2 x) ∧ (∀ x, eI (sc h O Pi Z F n) 4 x = eI h 4 x) ∧ (∀ x, eI (sc h O Pi Z F n) 5 x = eI h 5 x) ∧ (∀ x, eI (sc h O Pi Z F n) 6 x = eI h 6 x) ∧ (∀ x, eI (sc h O Pi Z F n) 7 x = eI h 7 x) ∧ (∀ x, eI (sc h O Pi Z F n) 9 x = eI h 9 x) ∧ (∀ x, eI (sc h O Pi Z F n) 10 x = eI h 10 x) ∧ (∀ x, eI (sc h O Pi Z F n) 11 x = eI h 11 x) ∧ (∀ x, eI (sc h O Pi Z F n) 12 x = eI h 12 x) ∧ (∀ x, eI (sc h O Pi Z F n) 13 x = eI h 13 x) ∧ (∀ x, eI (sc h O Pi Z F n) 14 x = eI h 14 x) ∧ (∀ x, eI (sc h O Pi Z F n) 15 x = eI h 15 x) ∧ (∀ x, eI (sc h O Pi Z F n) 16 x = eI h 16 x) ∧ (∀ x, eI (sc h O Pi Z F n) 17 x = eI h 17 x) ∧ (∀ x, eI (sc h O Pi Z F n) 18 x = eI h 18 x) ∧ (∀ x, eI (sc h O Pi Z F n) 19 x = eI h 19 x) ∧ (∀ x, eI (sc h O Pi Z F n) 20 x = eI h 20 x) ∧ (∀ x, eI (sc h O Pi Z F n) 21 x = eI h 21 x) ∧ (∀ x, eI (sc h O Pi Z F n) 22 x = eI h 22 x) ∧ (∀ x, eI (sc h O Pi Z F n) 23 x = eI h 23 x) ∧ (∀ x, eI (sc h O Pi Z F n) 25 x = eI h 25 x) ∧ (∀ x, eI (sc h O Pi Z F n) 29 x = eI h 29 x) ∧ (∀ x, eI (sc h O Pi Z F n) 30 x = eI h 30 x) ∧ (∀ x, eI (sc h O Pi Z F n) 31 x = eI h 31 x) ∧ (∀ x, eI (sc h O Pi Z F n) 32 x = eI h 32 x) := ⟨fun _ _ => rfl, fun _ _ => rfl, fun _ _ => rfl, fun _ _ => rfl, fun _ => rfl, fun _ => rfl, rfl, rfl, rfl, fun _ => rfl, fun _ => rfl, fun _ => rfl, fun _ => rfl, fun _ => rfl, fun _ => rfl, fun _ => rfl, fun _ => rfl, fun _ => rfl, fun _ => rfl, fun _ => rfl, fun _ => rfl, fun _ => rfl, fun _ => rfl, fun _ => rfl, fun _ => rfl, fun _ => rfl, fun _ => rfl, fun _ => rfl, fun _ => rfl, fun _ => rfl, fun _ => rfl, fun _ => rfl, fun _ => rfl, fun _ => rfl, fun _ => rfl, fun _ => rfl, fun _ => rfl, fun _ => rfl, fun _ => rfl, fun _ => rfl, fun _ => rfl, fun _ => rfl, fun _ => rfl, fun _ => rfl, fun _ => rfl, fun _ => rfl, fun _ => rfl, fun _ => rfl, fun _ => rfl, fun _ => rfl, fun _ => rfl, fun _ => rfl, fun _ => rfl, fun _ => rfl, fun _ => rfl, fun _ => rfl, fun _ => rfl, fun _ => rfl, fun _ => rfl, fun _ => rfl, fun _ => rfl, fun _ => rfl, fun _ => rfl, fun _ => rfl, fun _ => rfl, fun _ => rfl, fun _ => rfl⟩
theorem Hsc_o (h : AH) (O Pi Z F : Nat → Int32) (n : Int32) {a : Nat} (x : Nat) (h1 : a ≠ 24) (h2 : a ≠ 26) (h3 : a ≠ 27) (h4 : a ≠ 28) : eI (sc h O Pi Z F n) a x = eI h a x := by
  show (if a = 24 then _ else if a = 26 then _ else if a = 27 then _ else if a = 28 then _ else _) = _
  rw [if_neg h1, if_neg h2, if_neg h3, if_neg h4]
  rfl
theorem Hsc_f (h : AH) (O Pi Z F : Nat → Int32) (n : Int32) {f : Nat} (x : Nat) (h1 : f ≠ 64) : fI (sc h O Pi Z F n) f x = fI h f x := by
  show u2 h.1.1 64 8 n f x = _
  unfold u2
  rw [if_neg h1]
  rfl
theorem sc_id (h : AH) : sc h (eI h 24) (eI h 26) (eI h 27) (eI h 28) (fI h 64 8) = h := by
  have e1 : u2 h.1.1 64 8 (fI h 64 8) = h.1.1 := by
    funext f a
    unfold u2
    by_cases h1 : f = 64
    · by_cases h2 : a = 8
      · rw [if_pos h1, if_pos h2, h1, h2]; rfl
      · rw [if_pos h1, if_neg h2]
    · rw [if_neg h1]
  have e2 : (fun a i => if a = 24 then eI h 24 i else if a = 26 then eI h 26 i else if a = 27 then eI h 27 i else if a = 28 then eI h 28 i else h.2.1.1 a i) = h.2.1.1 := by
    funext a i
    by_cases h1 : a = 24
    · rw [if_pos h1, h1]; rfl
    · rw [if_neg h1]
      by_cases h2 : a = 26
      · rw [if_pos h2, h2]; rfl
      · rw [if_neg h2]
        by_cases h3 : a = 27
        · rw [if_pos h3, h3]; rfl
        · rw [if_neg h3]
          by_cases h4 : a = 28
          · rw [if_pos h4, h4]; rfl
          · rw [if_neg h4]
  unfold sc
  rw [e1, e2]
theorem sc_O (h : AH) (O Pi Z F : Nat → Int32) (n : Int32) (i : Nat) (v : Int32) : sI (sc h O Pi Z F n) 24 i v = sc h (u1 O i v) Pi Z F n := by
  have e : u2 (fun a i => if a = 24 then O i else if a = 26 then Pi i else if a = 27 then Z i else if a = 28 then F i else h.2.1.1 a i) 24 i v = (fun a j => if a = 24 then (u1 O i v) j else if a = 26 then Pi j else if a = 27 then Z j else if a = 28 then F j else h.2.1.1 a j) := by
    funext a j
    unfold u2 u1
    by_cases h1 : a = 24
    · subst h1; rfl
    · simp only [h1, if_false]
  exact congrArg (fun m => ((sc h O Pi Z F n).1, (m, h.2.1.2.1, h.2.1.2.2), h.2.2)) e
theorem sc_Pi (h : AH) (O Pi Z F : Nat → Int32) (n : Int32) (i : Nat) (v : Int32) : sI (sc h O Pi Z F n) 26 i v = sc h O (u1 Pi i v) Z F n := by
  have e : u2 (fun a i => if a = 24 then O i else if a = 26 then Pi i else if a = 27 then Z i else if a = 28 then F i else h.2.1.1 a i) 26 i v = (fun a j => if a = 24 then O j else if a = 26 then (u1 Pi i v) j else if a = 27 then Z j else if a = 28 then F j else h.2.1.1 a j) := by
    funext a j
    unfold u2 u1
    by_cases h1 : a = 26
    · subst h1; rfl
    · simp only [h1, if_false]
  exact congrArg (fun m => ((sc h O Pi Z F n).1, (m, h.2.1.2.1, h.2.1.2.2), h.2.2)) e
theorem sc_Z (h : AH) (O Pi Z F : Nat → Int32) (n : Int32) (i : Nat) (v : Int32) : sI (sc h O Pi Z F n) 27 i v = sc h O Pi (u1 Z i v) F n := by
  have e : u2 (fun a i => if a = 24 then O i else if a = 26 then Pi i else if a = 27 then Z i else if a = 28 then F i else h.2.1.1 a i) 27 i v = (fun a j => if a = 24 then O j else if a = 26 then Pi j else if a = 27 then (u1 Z i v) j else if a = 28 then F j else h.2.1.1 a j) := by
    funext a j
    unfold u2 u1
    by_cases h1 : a = 27
    · subst h1; rfl
    · simp only [h1, if_false]
  exact congrArg (fun m => ((sc h O Pi Z F n).1, (m, h.2.1.2.1, h.2.1.2.2), h.2.2)) e
theorem sc_F (h : AH) (O Pi Z F : Nat → Int32) (n : Int32) (i : Nat) (v : Int32) : sI (sc h O Pi Z F n) 28 i v = sc h O Pi Z (u1 F i v) n := by
  have e : u2 (fun a i => if a = 24 then O i else if a = 26 then Pi i else if a = 27 then Z i else if a = 28 then F i else h.2.1.1 a i) 28 i v = (fun a j => if a = 24 then O j else if a = 26 then Pi j else if a = 27 then Z j else if a = 28 then (u1 F i v) j else h.2.1.1 a j) := by
    funext a j
    unfold u2 u1
    by_cases h1 : a = 28
    · subst h1; rfl
    · simp only [h1, if_false]
  exact congrArg (fun m => ((sc h O Pi Z F n).1, (m, h.2.1.2.1, h.2.1.2.2), h.2.2)) e
theorem sc_n (h : AH) (O Pi Z F : Nat → Int32) (n v : Int32) : wI (sc h O Pi Z F n) 64 8 v = sc h O Pi Z F v := by
  show ((u2 (u2 h.1.1 64 8 n) 64 8 v, h.1.2.1, h.1.2.2), (sc h O Pi Z F n).2) = _
  rw [u2_u2]
  rfl
theorem MB_sc {h : AH} (hb : MB h) (O Pi Z F : Nat → Int32) (n : Int32) : MB (sc h O Pi Z F n) := hb
theorem nI_m (k : Nat) : nI (k + 1) + (-1 : Int32) = nI k := by
  rw [← nI_pred k, Int32.sub_eq_add_neg]
theorem pd_suf {P : PT} {S z : Nat → Nat} (h : WF P S z) : ∀ (f r e : Nat) (o : List (Nat × Nat)) (a d : Nat) (t : List (Nat × Nat)), LZ S r → z r ≤ f → pdF f P r e = o ++ (a, d) :: t → (P.1 a ≠ 0 → P.1 a ∈ t.map Prod.fst) ∧ (P.2.1 a ≠ 0 → P.2.1 a ∈ t.map Prod.fst) := by
  intro f
  induction f with
  | zero =>
    intro r e o a d t hr hz he
    have := congrArg List.length he
    rw [List.length_append, List.length_cons] at this
    have e0 : (pdF 0 P r e).length = 0 := rfl
    omega
  | succ f ih =>
    intro r e o a d t hr hz he
    rcases hr with e0 | e0
    · subst e0
      rw [pdF_0] at he
      have := congrArg List.length he
      rw [List.length_append, List.length_cons, List.length_nil] at this
      omega
    · have hw := h.2.2 r e0
      have hw5 := hw.2.2.2.2
      rw [show pdF (f + 1) P r e = if r = 0 then [] else (r, e) :: (pdF f P (P.1 r) (e + 1) ++ pdF f P (P.2.1 r) (e + 1)) from rfl, if_neg (h.n0 e0)] at he
      cases o with
      | nil =>
        rw [List.nil_append, List.cons.injEq] at he
        obtain ⟨h1, h2⟩ := he
        obtain ⟨rfl, rfl⟩ := Prod.mk.inj h1
        rw [← h2]
        refine ⟨fun c0 => ?_, fun c0 => ?_⟩
        · rw [List.map_append, List.mem_append]
          exact Or.inl (pd_hd h (by rw [(hw.1 c0).2]; exact e0) (by omega))
        · rw [List.map_append, List.mem_append]
          exact Or.inr (pd_hd h (by rw [(hw.2.1 c0).2]; exact e0) (by omega))
      | cons p o =>
        rw [List.cons_append, List.cons.injEq] at he
        rcases List.append_eq_append_iff.mp he.2 with ⟨u, q1, q2⟩ | ⟨u, q1, q2⟩
        · exact ih _ _ u a d t (h.lzr e0) (by omega) q2
        · rcases List.cons_eq_append_iff.mp q2 with ⟨q3, q4⟩ | ⟨u', q3, q4⟩
          · exact ih _ _ [] a d t (h.lzr e0) (by omega) q4
          · obtain ⟨i1, i2⟩ := ih _ _ o a d u' (h.lzl e0) (by omega) (by rw [q1, q3])
            rw [q4, List.map_append]
            exact ⟨fun c => List.mem_append_left _ (i1 c), fun c => List.mem_append_left _ (i2 c)⟩
def PiOK (Pi : Nat → Int32) : List (Nat × Nat) → Prop
  | [] => True
  | p :: t => Pi t.length = en p.1 ∧ PiOK Pi t
theorem PiOK_u {Pi : Nat → Int32} {v : Int32} : ∀ (t : List (Nat × Nat)) {k : Nat}, t.length ≤ k → PiOK Pi t → PiOK (u1 Pi k v) t
  | [], _, _, _ => trivial
  | p :: t, k, hk, h => by
    rw [List.length_cons] at hk
    refine ⟨?_, PiOK_u t (by omega) h.2⟩
    rw [u1_o _ _ (by omega)]
    exact h.1
section Lay
variable (L : Nat) (xs : Nat → Int32)
/-- the right child goes on the pile -/
theorem m_59_r {h : AH} (hb : MB h) (O Pi Z F : Nat → Int32) (n l1 : Int32) (l4 : Value) {a c k : Nat} (a1 : 1 ≤ a) (a2 : a ≤ 20002) (hc : eI h 17 (a - 1) = en c) (c2 : c ≤ 20002) (hk : k < 20002) :
    X L xs 59 62 [.ref 8, .int l1, .int (nI k), .int (en a), l4] [] (sc h O Pi Z F n) = X L xs 59 106 [.ref 8, .int l1, .int (nI (if c = 0 then k else k + 1)), .int (en a), l4] [] (sc h O (if c = 0 then Pi else u1 Pi k (en c)) Z (if c = 0 then F else u1 F (c - 1) (F (a - 1) + 1)) n) := by
  obtain ⟨b1, b2, b3, b4⟩ := id hb
  simp only [k_59_62, Hsc, b1, b2, b3, b4, HF10, gd_t, inb_en a1 a2 (by decide), cl_en a1 (by omega), decide_true, Bool.and_self, hc]
  by_cases c0 : c = 0
  · subst c0
    simp only [en_0, if_true]
  · rw [if_neg (fun q => c0 ((en_m1 (by omega)).mp q))]
    have c1 : 1 ≤ c := by omega
    simp only [k_59_72, k_59_84, k_59_103, Hsc, b1, b2, b3, b4, HF10, gd_t, inb_en a1 a2 (by decide), cl_en a1 (by omega), decide_true, Bool.and_self, hc, inb_nI hk (by decide), nI_clamp (show k < 2 ^ 31 by omega), sc_Pi, sc_F, inb_en c1 c2 (by decide), cl_en c1 (by omega), nI_1, c0, if_false]
theorem m_59_l {h : AH} (hb : MB h) (O Pi Z F : Nat → Int32) (n l1 : Int32) (l4 : Value) {a c k : Nat} (a1 : 1 ≤ a) (a2 : a ≤ 20002) (hc : eI h 16 (a - 1) = en c) (c2 : c ≤ 20002) (hk : k < 20002) :
    X L xs 59 106 [.ref 8, .int l1, .int (nI k), .int (en a), l4] [] (sc h O Pi Z F n) = X L xs 59 28 [.ref 8, .int l1, .int (nI (if c = 0 then k else k + 1)), .int (en a), l4] [] (sc h O (if c = 0 then Pi else u1 Pi k (en c)) Z (if c = 0 then F else u1 F (c - 1) (F (a - 1) + 1)) n) := by
  obtain ⟨b1, b2, b3, b4⟩ := id hb
  simp only [k_59_106, Hsc, b1, b2, b3, b4, HF10, gd_t, inb_en a1 a2 (by decide), cl_en a1 (by omega), decide_true, Bool.and_self, hc]
  by_cases c0 : c = 0
  · subst c0
    simp only [en_0, if_true, k_59_150]
  · rw [if_neg (fun q => c0 ((en_m1 (by omega)).mp q))]
    have c1 : 1 ≤ c := by omega
    simp only [k_59_116, k_59_128, k_59_147, k_59_150, Hsc, b1, b2, b3, b4, HF10, gd_t, inb_en a1 a2 (by decide), cl_en a1 (by omega), decide_true, Bool.and_self, hc, inb_nI hk (by decide), nI_clamp (show k < 2 ^ 31 by omega), sc_Pi, sc_F, inb_en c1 c2 (by decide), cl_en c1 (by omega), nI_1, c0, if_false]
set_option maxHeartbeats 2000000 in
theorem m_59_a {h : AH} (hb : MB h) {P : PT} {S z : Nat → Nat} (hw : WF P S z) (hN : ∀ a, S a ≠ 0 → a ≤ 20002) (hP : ∀ a, S a ≠ 0 → eI h 16 (a - 1) = en (P.1 a) ∧ eI h 17 (a - 1) = en (P.2.1 a)) {W : List (Nat × Nat)} (hWn : (W.map Prod.fst).Nodup) (hWl : W.length ≤ 20002) (hWS : ∀ p, p ∈ W → S p.1 ≠ 0) (Z : Nat → Int32) (l1 : Int32) (l4 : Value) :
    ∀ (m : Nat) (o st : List (Nat × Nat)) (O Pi F : Nat → Int32) (l3 : Value), o ++ st.flatMap (fun p => pdF 20003 P p.1 p.2) = W → W.length ≤ o.length + m → (∀ p, p ∈ st → S p.1 ≠ 0) → PiOK Pi st → (∀ i p, o[i]? = some p → O i = en p.1) → (∀ p, p ∈ o ++ st → F (p.1 - 1) = nI p.2) →
      ∃ O' Pi' F', (∀ i p, W[i]? = some p → O' i = en p.1) ∧ (∀ p, p ∈ W → F' (p.1 - 1) = nI p.2) ∧ X L xs 59 28 [.ref 8, .int l1, .int (nI st.length), l3, l4] [] (sc h O Pi Z F (nI o.length)) = X L xs 59 160 [.ref 8, .int l1, .int 0, .int (nI W.length - 1), l4] [] (sc h O' Pi' Z F' (nI W.length)) := by
  obtain ⟨b1, b2, b3, b4⟩ := id hb
  have nilc : ∀ (o : List (Nat × Nat)) (O Pi F : Nat → Int32) (l3 : Value), o = W → (∀ i p, o[i]? = some p → O i = en p.1) → (∀ p, p ∈ o → F (p.1 - 1) = nI p.2) →
      ∃ O' Pi' F', (∀ i p, W[i]? = some p → O' i = en p.1) ∧ (∀ p, p ∈ W → F' (p.1 - 1) = nI p.2) ∧ X L xs 59 28 [.ref 8, .int l1, .int (nI 0), l3, l4] [] (sc h O Pi Z F (nI o.length)) = X L xs 59 160 [.ref 8, .int l1, .int 0, .int (nI W.length - 1), l4] [] (sc h O' Pi' Z F' (nI W.length)) := by
    intro o O Pi F l3 he hO hF
    subst he
    refine ⟨O, Pi, F, hO, hF, ?_⟩
    rw [nI_0, k_59_28, if_pos (by decide), k_59_153]
    simp only [Hsc, b1, HF10, gd_t]
  intro m
  induction m with
  | zero =>
    intro o st O Pi F l3 he hm hst hPi hO hF
    cases st with
    | nil =>
      refine nilc o O Pi F l3 ?_ hO (fun p hp => hF p (List.mem_append_left _ hp))
      rw [← he, List.flatMap_nil, List.append_nil]
    | cons p t =>
      have hp := hst p List.mem_cons_self
      have hz := hw.z_le hN (Or.inr hp)
      have := congrArg List.length he
      rw [List.flatMap_cons, pdF_eq hw hp (by omega), List.length_append, List.cons_append, List.length_cons] at this
      omega
  | succ m ih =>
    intro o st O Pi F l3 he hm hst hPi hO hF
    cases st with
    | nil =>
      refine nilc o O Pi F l3 ?_ hO (fun p hp => hF p (List.mem_append_left _ hp))
      rw [← he, List.flatMap_nil, List.append_nil]
    | cons p t =>
      obtain ⟨a, d⟩ := p
      have hp : S a ≠ 0 := hst (a, d) List.mem_cons_self
      have hz := hw.z_le hN (Or.inr hp)
      obtain ⟨w1, w2, w3, w4, w5⟩ := hw.2.2 a hp
      have hlen := congrArg List.length he
      have heq : pdF 20003 P a d = (a, d) :: (pdF 20003 P (P.1 a) (d + 1) ++ pdF 20003 P (P.2.1 a) (d + 1)) := pdF_eq hw hp (by omega)
      rw [List.flatMap_cons, heq] at he
      have htl : t.length ≤ (t.flatMap (fun p => pdF 20003 P p.1 p.2)).length := by
        have : ∀ t : List (Nat × Nat), (∀ p, p ∈ t → S p.1 ≠ 0) → t.length ≤ (t.flatMap (fun p => pdF 20003 P p.1 p.2)).length := by
          intro t
          induction t with
          | nil => intro _; exact Nat.le_refl _
          | cons q t iht =>
            intro hq
            have hq1 := hq q List.mem_cons_self
            have := hw.z_le hN (Or.inr hq1)
            rw [List.flatMap_cons, List.length_append, pdF_eq hw hq1 (by omega), List.length_cons, List.length_cons]
            have := iht (fun p hp => hq p (List.mem_cons_of_mem _ hp))
            omega
        exact this t (fun p hp => hst p (List.mem_cons_of_mem _ hp))
      have hlen2 := congrArg List.length he
      rw [List.length_append, List.length_append, List.length_cons] at hlen2
      have a1 : 1 ≤ a := Nat.pos_of_ne_zero (hw.n0 hp)
      have a2 := hN a hp
      have hL := hP a hp
      have ha : (a, d) ∈ W := by rw [← he]; exact List.mem_append_right _ (List.mem_append_left _ List.mem_cons_self)
      have lz1 := hw.lzl hp
      have lz2 := hw.lzr hp
      have Lb : P.1 a ≤ 20002 := by rcases lz1 with q | q; rw [q]; exact Nat.zero_le _; exact hN _ q
      have Rb : P.2.1 a ≤ 20002 := by rcases lz2 with q | q; rw [q]; exact Nat.zero_le _; exact hN _ q
      -- far, behind a write for a child
      have hFu : ∀ (G : Nat → Int32) (q : List (Nat × Nat)) (c : Nat), (∀ p, p ∈ q → p ∈ W) → (c, d + 1) ∈ W → c ≠ 0 → (∀ p, p ∈ q → G (p.1 - 1) = nI p.2) → ∀ p, p ∈ q → u1 G (c - 1) (nI (d + 1)) (p.1 - 1) = nI p.2 := by
        intro G q c hq hc c0 hG p hp'
        by_cases e : p.1 - 1 = c - 1
        · have hp1 : p.1 ≠ 0 := hw.n0 (hWS p (hq p hp'))
          have e2 : p.1 = c := by omega
          rw [e, u1_s]
          have : p = (c, d + 1) := by
            have hu : ∀ (W : List (Nat × Nat)) (x y : Nat × Nat), (W.map Prod.fst).Nodup → x ∈ W → y ∈ W → x.1 = y.1 → x = y := by
              intro W
              induction W with
              | nil => intro x y _ hx; cases hx
              | cons w W ihW =>
                intro x y hn hx hy hxy
                rw [List.map_cons, List.nodup_cons] at hn
                rcases List.mem_cons.mp hx with q1 | q1
                · rcases List.mem_cons.mp hy with q2 | q2
                  · rw [q1, q2]
                  · exact absurd (List.mem_map.mpr ⟨y, q2, by rw [← hxy, q1]⟩) hn.1
                · rcases List.mem_cons.mp hy with q2 | q2
                  · exact absurd (List.mem_map.mpr ⟨x, q1, by rw [hxy, q2]⟩) hn.1
                  · exact ihW x y hn.2 q1 q2 hxy
            exact hu W p (c, d + 1) hWn (hq p hp') hc e2
          rw [this]
        · rw [u1_o _ _ e]
          exact hG p hp'
      have hWo : ∀ p, p ∈ o → p ∈ W := fun p hp' => by rw [← he]; exact List.mem_append_left _ hp'
      have hWt : ∀ p, p ∈ t → p ∈ W := fun p hp' => by
        rw [← he]
        refine List.mem_append_right _ (List.mem_append_right _ (List.mem_flatMap.mpr ⟨p, hp', ?_⟩))
        have h1 := hst p (List.mem_cons_of_mem _ hp')
        have := hw.z_le hN (Or.inr h1)
        rw [pdF_eq hw h1 (by omega)]
        exact List.mem_cons_self
      have hOu : ∀ i p, (o ++ [(a, d)])[i]? = some p → u1 O o.length (en a) i = en p.1 := by
        intro i p hi
        by_cases e : i = o.length
        · subst e
          rw [List.getElem?_append_right (Nat.le_refl _), Nat.sub_self, List.getElem?_cons_zero] at hi
          rw [u1_s, ← Option.some.inj hi]
        · rw [u1_o _ _ e]
          by_cases e2 : i < o.length
          · rw [List.getElem?_append_left e2] at hi
            exact hO i p hi
          · rw [List.getElem?_append_right (by omega), List.getElem?_eq_none (by rw [List.length_singleton]; omega)] at hi
            cases hi
      have hFa : F (a - 1) = nI d := hF (a, d) (List.mem_append_right _ List.mem_cons_self)
      have hRW : P.2.1 a ≠ 0 → (P.2.1 a, d + 1) ∈ W := fun r0 => by
        have h1 : S (P.2.1 a) ≠ 0 := by rw [(w2 r0).2]; exact hp
        have := hw.z_le hN (Or.inr h1)
        rw [← he, pdF_eq hw h1 (by omega)]
        exact List.mem_append_right _ (List.mem_append_left _ (List.mem_cons_of_mem _ (List.mem_append_right _ List.mem_cons_self)))
      have hLW : P.1 a ≠ 0 → (P.1 a, d + 1) ∈ W := fun r0 => by
        have h1 : S (P.1 a) ≠ 0 := by rw [(w1 r0).2]; exact hp
        have := hw.z_le hN (Or.inr h1)
        rw [← he, pdF_eq hw h1 (by omega)]
        exact List.mem_append_right _ (List.mem_append_left _ (List.mem_cons_of_mem _ (List.mem_append_left _ List.mem_cons_self)))
      have e1 : X L xs 59 28 [.ref 8, .int l1, .int (nI ((a, d) :: t).length), l3, l4] [] (sc h O Pi Z F (nI o.length)) = X L xs 59 62 [.ref 8, .int l1, .int (nI t.length), .int (en a), l4] [] (sc h (u1 O o.length (en a)) Pi Z F (nI (o.length + 1))) := by
        rw [List.length_cons, k_59_28, if_neg (nI_nle (by omega) (by omega))]
        simp only [k_59_32, k_59_52, Hsc, b1, b2, b3, b4, HF10, gd_t, nI_m, inb_nI (show t.length < 20002 by omega) (by decide), inb_nI (show o.length < 20002 by omega) (by decide), nI_clamp (show t.length < 2 ^ 31 by omega), nI_clamp (show o.length < 2 ^ 31 by omega), decide_true, Bool.and_self, hPi.1, sc_O, sc_n, nI_1]
      have e2 := e1.trans (m_59_r L xs hb (u1 O o.length (en a)) Pi Z F (nI (o.length + 1)) l1 l4 a1 a2 hL.2 Rb (show t.length < 20002 by omega))
      have hk2 : (if P.2.1 a = 0 then t.length else t.length + 1) < 20002 := by
        split
        · omega
        · have h1 : S (P.2.1 a) ≠ 0 := by rw [(w2 (by assumption)).2]; exact hp
          have := hw.z_le hN (Or.inr h1)
          rw [pdF_eq hw h1 (by omega), List.length_append, List.length_cons] at hlen2
          omega
      have e3 := e2.trans (m_59_l L xs hb _ _ Z _ (nI (o.length + 1)) l1 l4 a1 a2 hL.1 Lb hk2)
      rw [e3]
      have hst' : ∀ p, p ∈ (if P.1 a = 0 then [] else [(P.1 a, d + 1)]) ++ ((if P.2.1 a = 0 then [] else [(P.2.1 a, d + 1)]) ++ t) → S p.1 ≠ 0 ∧ p ∈ W := by
        intro p hp'
        rw [List.mem_append, List.mem_append] at hp'
        rcases hp' with q | q | q
        · by_cases c0 : P.1 a = 0
          · rw [if_pos c0] at q; cases q
          · rw [if_neg c0, List.mem_singleton] at q
            rw [q]
            exact ⟨by rw [(w1 c0).2]; exact hp, hLW c0⟩
        · by_cases c0 : P.2.1 a = 0
          · rw [if_pos c0] at q; cases q
          · rw [if_neg c0, List.mem_singleton] at q
            rw [q]
            exact ⟨by rw [(w2 c0).2]; exact hp, hRW c0⟩
        · exact ⟨hst p (List.mem_cons_of_mem _ q), hWt p q⟩
      have hres := ih (o ++ [(a, d)]) ((if P.1 a = 0 then [] else [(P.1 a, d + 1)]) ++ ((if P.2.1 a = 0 then [] else [(P.2.1 a, d + 1)]) ++ t)) (u1 O o.length (en a)) (if P.1 a = 0 then (if P.2.1 a = 0 then Pi else u1 Pi t.length (en (P.2.1 a))) else u1 (if P.2.1 a = 0 then Pi else u1 Pi t.length (en (P.2.1 a))) (if P.2.1 a = 0 then t.length else t.length + 1) (en (P.1 a))) (if P.1 a = 0 then (if P.2.1 a = 0 then F else u1 F (P.2.1 a - 1) (F (a - 1) + 1)) else u1 (if P.2.1 a = 0 then F else u1 F (P.2.1 a - 1) (F (a - 1) + 1)) (P.1 a - 1) ((if P.2.1 a = 0 then F else u1 F (P.2.1 a - 1) (F (a - 1) + 1)) (a - 1) + 1)) (.int (en a)) ?_ ?_ (fun p hp' => (hst' p hp').1) ?_ hOu ?_
      · have eo : (o ++ [(a, d)]).length = o.length + 1 := by rw [List.length_append, List.length_singleton]
        rw [eo] at hres
        have el : ((if P.1 a = 0 then [] else [(P.1 a, d + 1)]) ++ ((if P.2.1 a = 0 then [] else [(P.2.1 a, d + 1)]) ++ t)).length = if P.1 a = 0 then (if P.2.1 a = 0 then t.length else t.length + 1) else (if P.2.1 a = 0 then t.length else t.length + 1) + 1 := by
          rw [List.length_append, List.length_append]
          by_cases c0 : P.1 a = 0
          · by_cases c1 : P.2.1 a = 0
            · simp only [c0, c1, if_true, List.length_nil, Nat.zero_add]
            · simp only [c0, c1, if_true, if_false, List.length_nil, List.length_singleton]; omega
          · by_cases c1 : P.2.1 a = 0
            · simp only [c0, c1, if_true, if_false, List.length_nil, List.length_singleton]; omega
            · simp only [c0, c1, if_false, List.length_singleton]; omega
        rw [el] at hres
        exact hres
      · rw [← he, List.flatMap_append, List.flatMap_append, List.append_assoc, List.singleton_append, List.cons_append]
        congr 2
        rw [← List.append_assoc]
        congr 1
        by_cases c0 : P.1 a = 0
        · by_cases c1 : P.2.1 a = 0
          · simp only [c0, c1, if_true, List.flatMap_nil, pdF_0]
          · simp only [c0, c1, if_true, if_false, List.flatMap_nil, pdF_0, List.flatMap_singleton]
        · by_cases c1 : P.2.1 a = 0
          · simp only [c0, c1, if_true, if_false, List.flatMap_nil, pdF_0, List.flatMap_singleton]
          · simp only [c0, c1, if_false, List.flatMap_singleton]
      · rw [List.length_append, List.length_singleton]; omega
      · have hPt := hPi.2
        by_cases c1 : P.2.1 a = 0
        · by_cases c0 : P.1 a = 0
          · simp only [c0, c1, if_true, List.nil_append]; exact hPt
          · simp only [c0, c1, if_true, if_false, List.nil_append, List.singleton_append]
            exact ⟨u1_s _ _ _, PiOK_u t (Nat.le_refl _) hPt⟩
        · have hP2 : PiOK (u1 Pi t.length (en (P.2.1 a))) ((P.2.1 a, d + 1) :: t) := ⟨u1_s _ _ _, PiOK_u t (Nat.le_refl _) hPt⟩
          by_cases c0 : P.1 a = 0
          · simp only [c0, c1, if_true, if_false, List.nil_append, List.singleton_append]; exact hP2
          · simp only [c0, c1, if_false, List.singleton_append]
            exact ⟨u1_s _ _ _, PiOK_u _ (by rw [List.length_cons]; exact Nat.le_refl _) hP2⟩
      · -- far
        have hq : ∀ p, p ∈ (o ++ [(a, d)]) ++ t → p ∈ W := by
          intro p hp'
          rcases List.mem_append.mp hp' with q | q
          · rcases List.mem_append.mp q with q | q
            · exact hWo p q
            · rw [List.mem_singleton.mp q]; exact ha
          · exact hWt p q
        have hF0 : ∀ p, p ∈ (o ++ [(a, d)]) ++ t → F (p.1 - 1) = nI p.2 := by
          intro p hp'
          rcases List.mem_append.mp hp' with q | q
          · rcases List.mem_append.mp q with q | q
            · exact hF p (List.mem_append_left _ q)
            · rw [List.mem_singleton.mp q]; exact hFa
          · exact hF p (List.mem_append_right _ (List.mem_cons_of_mem _ q))
        have hF1 : ∀ p, p ∈ (o ++ [(a, d)]) ++ ((if P.2.1 a = 0 then [] else [(P.2.1 a, d + 1)]) ++ t) → p ∈ W ∧ (if P.2.1 a = 0 then F else u1 F (P.2.1 a - 1) (F (a - 1) + 1)) (p.1 - 1) = nI p.2 := by
          intro p hp'
          by_cases c1 : P.2.1 a = 0
          · rw [if_pos c1, List.nil_append] at hp'
            rw [if_pos c1]
            exact ⟨hq p hp', hF0 p hp'⟩
          · rw [if_neg c1] at hp' ⊢
            rw [hFa, nI_1]
            by_cases e : p = (P.2.1 a, d + 1)
            · rw [e]; exact ⟨hRW c1, u1_s _ _ _⟩
            · have : p ∈ (o ++ [(a, d)]) ++ t := by
                rcases List.mem_append.mp hp' with q | q
                · exact List.mem_append_left _ q
                · rcases List.mem_append.mp q with q | q
                  · exact absurd (List.mem_singleton.mp q) e
                  · exact List.mem_append_right _ q
              exact ⟨hq p this, hFu F _ _ hq (hRW c1) c1 hF0 p this⟩
        intro p hp'
        by_cases c0 : P.1 a = 0
        · rw [if_pos c0, List.nil_append] at hp'
          rw [if_pos c0]
          exact (hF1 p hp').2
        · rw [if_neg c0] at hp' ⊢
          have hFa2 := (hF1 (a, d) (List.mem_append_left _ (List.mem_append_right _ (List.mem_singleton.mpr rfl)))).2
          rw [hFa2, nI_1]
          by_cases e : p = (P.1 a, d + 1)
          · rw [e]; exact u1_s _ _ _
          · have : p ∈ (o ++ [(a, d)]) ++ ((if P.2.1 a = 0 then [] else [(P.2.1 a, d + 1)]) ++ t) := by
              rcases List.mem_append.mp hp' with q | q
              · exact List.mem_append_left _ q
              · rcases List.mem_append.mp q with q | q
                · exact absurd (List.mem_singleton.mp q) e
                · exact List.mem_append_right _ q
            exact hFu _ _ _ (fun p q => (hF1 p q).1) (hLW c0) c0 (fun p q => (hF1 p q).2) p this
theorem m_59_b {h : AH} (hb : MB h) {P : PT} {S z : Nat → Nat} (hw : WF P S z) (hN : ∀ a, S a ≠ 0 → a ≤ 20002) (hP : ∀ a, S a ≠ 0 → eI h 16 (a - 1) = en (P.1 a) ∧ eI h 17 (a - 1) = en (P.2.1 a)) {r : Nat} (hr : LZ S r) {W : List (Nat × Nat)} (hW : pdF 20003 P r 0 = W) (hWl : W.length ≤ 20002) (hWS : ∀ p, p ∈ W → S p.1 ≠ 0) (O Pi F : Nat → Int32) (n l1 l2 : Int32) (hO : ∀ i p, W[i]? = some p → O i = en p.1) :
    ∀ (m : Nat) (o t : List (Nat × Nat)) (Z : Nat → Int32) (l4 : Value), o.length = m → o ++ t = W → (∀ p, p ∈ t → Z (p.1 - 1) = nI (z p.1)) →
      ∃ Z', (∀ p, p ∈ W → Z' (p.1 - 1) = nI (z p.1)) ∧ X L xs 59 160 [.ref 8, .int l1, .int l2, .int (nI o.length - 1), l4] [] (sc h O Pi Z F n) = some (sc h O Pi Z' F n, none) := by
  obtain ⟨b1, b2, b3, b4⟩ := id hb
  intro m
  induction m with
  | zero =>
    intro o t Z l4 ho he hZ
    have ho := List.eq_nil_of_length_eq_zero ho
    subst ho
    rw [List.nil_append] at he
    subst he
    refine ⟨Z, hZ, ?_⟩
    rw [List.length_nil, k_59_160, if_pos (by decide), k_59_242]
  | succ m ih =>
    intro o t Z l4 ho he hZ
    obtain ⟨o', p, rfl⟩ : ∃ o' p, o = o' ++ [p] := ⟨o.dropLast, o.getLast (by intro q; rw [q] at ho; cases ho), (List.dropLast_concat_getLast _).symm⟩
    obtain ⟨k, d⟩ := p
    rw [List.length_append, List.length_singleton] at ho
    have he2 : o' ++ (k, d) :: t = W := by rw [← he, List.append_assoc, List.singleton_append]
    have hkW : (k, d) ∈ W := by rw [← he2]; exact List.mem_append_right _ List.mem_cons_self
    have hk := hWS _ hkW
    have k1 : 1 ≤ k := Nat.pos_of_ne_zero (hw.n0 hk)
    have k2 : k ≤ 20002 := hN k hk
    have hOk : O o'.length = en k := hO o'.length (k, d) (by rw [← he2, List.getElem?_append_right (Nat.le_refl _), Nat.sub_self, List.getElem?_cons_zero])
    have hlen := congrArg List.length he2
    rw [List.length_append, List.length_cons] at hlen
    have hzr := hw.z_le hN hr
    obtain ⟨s1, s2⟩ := pd_suf hw 20003 r 0 o' k d t hr (by omega) (hW.trans he2.symm)
    have hPk := hP k hk
    obtain ⟨w1, w2, w3, w4, w5⟩ := hw.2.2 k hk
    have hin : ∀ c, c ∈ t.map Prod.fst → Z (c - 1) = nI (z c) ∧ 1 ≤ c ∧ c ≤ 20002 := by
      intro c hc
      obtain ⟨q, q1, q2⟩ := List.mem_map.mp hc
      subst q2
      have hq := hWS q (by rw [← he2]; exact List.mem_append_right _ (List.mem_cons_of_mem _ q1))
      exact ⟨hZ q q1, Nat.pos_of_ne_zero (hw.n0 hq), hN _ hq⟩
    have hzk := hw.z_le hN (Or.inr hk)
    have e : X L xs 59 160 [.ref 8, .int l1, .int l2, .int (nI (o' ++ [(k, d)]).length - 1), l4] [] (sc h O Pi Z F n) = X L xs 59 160 [.ref 8, .int l1, .int l2, .int (nI o'.length - 1), .int (en k)] [] (sc h O Pi (u1 Z (k - 1) (nI (z k))) F n) := by
      rw [List.length_append, List.length_singleton, nI_pred, k_59_160, if_neg (nI_pos (by omega)), k_59_164]
      simp only [Hsc, b1, b2, b3, b4, HF10, gd_t, inb_nI (show o'.length < 20002 by omega) (by decide), nI_clamp (show o'.length < 2 ^ 31 by omega), decide_true, Bool.and_self, hOk, inb_en k1 k2 (by decide), cl_en k1 (by omega), hPk.1]
      have eL : ∀ (s1 : Int32) (s2 : Nat), (if ¬ en (P.1 k) = -1 then X L xs 59 194 [.ref 8, .int l1, .int l2, .int (nI o'.length), .int (en k)] [.int 1, .int s1, .ref s2] (sc h O Pi Z F n) else X L xs 59 190 [.ref 8, .int l1, .int l2, .int (nI o'.length), .int (en k)] [.int 1, .int s1, .ref s2] (sc h O Pi Z F n)) = X L xs 59 206 [.ref 8, .int l1, .int l2, .int (nI o'.length), .int (en k)] [.int (nI (z (P.1 k))), .int 1, .int s1, .ref s2] (sc h O Pi Z F n) := by
        intro s1' s2'
        by_cases c0 : P.1 k = 0
        · rw [c0, en_0, if_neg (by decide), k_59_190, hw.2.1, nI_0]
        · obtain ⟨q1, q2, q3⟩ := hin _ (s1 c0)
          rw [if_pos (fun q => c0 ((en_m1 (by omega)).mp q)), k_59_194]
          simp only [Hsc, b1, b2, b3, b4, HF10, gd_t, decide_true, Bool.and_self, inb_en k1 k2 (by decide), cl_en k1 (by omega), hPk.1, inb_en q2 q3 (by decide), cl_en q2 (by omega), q1]
      have eR : ∀ (s0 : Int32) (s1 : Int32) (s2 : Nat), (if ¬ en (P.2.1 k) = -1 then X L xs 59 222 [.ref 8, .int l1, .int l2, .int (nI o'.length), .int (en k)] [.int s0, .int s1, .ref s2] (sc h O Pi Z F n) else X L xs 59 218 [.ref 8, .int l1, .int l2, .int (nI o'.length), .int (en k)] [.int s0, .int s1, .ref s2] (sc h O Pi Z F n)) = X L xs 59 234 [.ref 8, .int l1, .int l2, .int (nI o'.length), .int (en k)] [.int (nI (z (P.2.1 k))), .int s0, .int s1, .ref s2] (sc h O Pi Z F n) := by
        intro s0' s1' s2'
        by_cases c0 : P.2.1 k = 0
        · rw [c0, en_0, if_neg (by decide), k_59_218, hw.2.1, nI_0]
        · obtain ⟨q1, q2, q3⟩ := hin _ (s2 c0)
          rw [if_pos (fun q => c0 ((en_m1 (by omega)).mp q)), k_59_222]
          simp only [Hsc, b1, b2, b3, b4, HF10, gd_t, decide_true, Bool.and_self, inb_en k1 k2 (by decide), cl_en k1 (by omega), hPk.2, inb_en q2 q3 (by decide), cl_en q2 (by omega), q1]
      rw [eL, k_59_206]
      simp only [Hsc, b1, b2, b3, b4, HF10, gd_t, decide_true, Bool.and_self, inb_en k1 k2 (by decide), cl_en k1 (by omega), hPk.2]
      rw [eR, k_59_234]
      simp only [Hsc, b3, b4, gd_t, decide_true, Bool.and_self, inb_en k1 k2 (by decide), cl_en k1 (by omega), sc_Z, k_59_236]
      rw [show (1 : Int32) + nI (z (P.1 k)) + nI (z (P.2.1 k)) = nI (z k) by rw [nI_1c, nI_add, nI_add, w5], ← Int32.sub_eq_add_neg]
    obtain ⟨Z', z1, z2⟩ := ih o' ((k, d) :: t) (u1 Z (k - 1) (nI (z k))) (.int (en k)) (by omega) he2 (fun p hp => by
      by_cases e : p.1 - 1 = k - 1
      · have hp1 := hw.n0 (hWS p (by rw [← he2]; exact List.mem_append_right _ hp))
        have e2 : p.1 = k := by omega
        rw [e, u1_s, e2]
      · rw [u1_o _ _ e]
        rcases List.mem_cons.mp hp with q | q
        · rw [q] at e; exact absurd rfl e
        · exact hZ p q)
    exact ⟨Z', z1, by rw [e]; exact z2⟩
theorem m_59 {h : AH} (hb : MB h) {P : PT} {S z : Nat → Nat} (hw : WF P S z) (hN : ∀ a, S a ≠ 0 → a ≤ 20002) (hP : ∀ a, S a ≠ 0 → eI h 16 (a - 1) = en (P.1 a) ∧ eI h 17 (a - 1) = en (P.2.1 a)) {r : Nat} (hr : LZ S r) :
    ∃ O Pi Z F, (∀ i p, (pdF 20003 P r 0)[i]? = some p → O i = en p.1) ∧ (∀ p, p ∈ pdF 20003 P r 0 → F (p.1 - 1) = nI p.2 ∧ Z (p.1 - 1) = nI (z p.1)) ∧ XM L xs 59 [.ref 8, .int (en r)] h = some (sc h O Pi Z F (nI (z r)), none) := by
  obtain ⟨b1, b2, b3, b4⟩ := id hb
  have hzr := hw.z_le hN hr
  have hlen : (pdF 20003 P r 0).length = z r := by rw [pdF_len, zF_eq hw 20003 r hr (by omega)]
  have hWn := pd_nodup hw 20003 r 0 hr (by omega)
  have hWS : ∀ p, p ∈ pdF 20003 P r 0 → S p.1 ≠ 0 := by
    intro p hp
    obtain ⟨i0, i1, -⟩ := pd_up hw 20003 r 0 hr (by omega) p.1 (List.mem_map.mpr ⟨p, hp, rfl⟩)
    rw [i1]
    rcases hr with q | q
    · exact absurd q i0
    · exact q
  have key : ∀ (st : List (Nat × Nat)) (Pi F : Nat → Int32) (l3 : Value), st.flatMap (fun p => pdF 20003 P p.1 p.2) = pdF 20003 P r 0 → (∀ p, p ∈ st → S p.1 ≠ 0) → PiOK Pi st → (∀ p, p ∈ st → F (p.1 - 1) = nI p.2) →
      ∃ O' Pi' Z' F', (∀ i p, (pdF 20003 P r 0)[i]? = some p → O' i = en p.1) ∧ (∀ p, p ∈ pdF 20003 P r 0 → F' (p.1 - 1) = nI p.2 ∧ Z' (p.1 - 1) = nI (z p.1)) ∧ X L xs 59 28 [.ref 8, .int (en r), .int (nI st.length), l3, .null] [] (sc h (eI h 24) Pi (eI h 27) F 0) = some (sc h O' Pi' Z' F' (nI (z r)), none) := by
    intro st Pi F l3 h1 h2 h3 h4
    obtain ⟨O', Pi', F', a1, a2, a3⟩ := m_59_a L xs hb hw hN hP hWn (by omega) hWS (eI h 27) (en r) .null (z r) [] st (eI h 24) Pi F l3 (by rw [List.nil_append]; exact h1) (by rw [hlen]; exact Nat.le_add_left _ _) h2 h3 (fun i p hi => by rw [List.getElem?_nil] at hi; cases hi) (fun p hp => h4 p (by rw [List.nil_append] at hp; exact hp))
    obtain ⟨Z', c1, c2⟩ := m_59_b L xs hb hw hN hP hr rfl (by omega) hWS O' Pi' F' (nI (z r)) (en r) 0 a1 _ (pdF 20003 P r 0) [] (eI h 27) .null rfl (List.append_nil _) (fun p hp => by cases hp)
    refine ⟨O', Pi', Z', F', a1, fun p hp => ⟨a2 p hp, c1 p hp⟩, ?_⟩
    rw [List.length_nil, nI_0, hlen] at a3
    rw [hlen] at c2
    rw [a3]
    exact c2
  have e0 : X L xs 59 0 [.ref 8, .int (en r), .null, .null, .null] [] h = X L xs 59 5 [.ref 8, .int (en r), .null, .null, .null] [] (sc h (eI h 24) (eI h 26) (eI h 27) (eI h 28) 0) := by
    rw [k_59_0, b1]
    simp only [HF10, gd_t]
    rw [show wI h 64 8 0 = wI (sc h (eI h 24) (eI h 26) (eI h 27) (eI h 28) (fI h 64 8)) 64 8 0 by rw [sc_id], sc_n]
  rw [en_59, e0, k_59_5]
  by_cases r0 : r = 0
  · rw [if_pos (by rw [r0, en_0])]
    have := key [] (eI h 26) (eI h 28) .null (by rw [r0, pdF_0]; rfl) (fun p hp => by cases hp) trivial (fun p hp => by cases hp)
    exact this
  · rw [if_neg (fun q => r0 ((en_m1 (by have := hN r (by rcases hr with e | e; exact absurd e r0; exact e); omega)).mp q))]
    have hrS : S r ≠ 0 := by rcases hr with e | e; exact absurd e r0; exact e
    have r1 : 1 ≤ r := by omega
    have r2 : r ≤ 20002 := hN r hrS
    have := key [(r, 0)] (u1 (eI h 26) 0 (en r)) (u1 (eI h 28) (r - 1) 0) .null (by rw [List.flatMap_singleton]) (fun p hp => by rw [List.mem_singleton.mp hp]; exact hrS) ⟨u1_s _ _ _, trivial⟩ (fun p hp => by rw [List.mem_singleton.mp hp]; exact u1_s _ _ _)
    simp only [k_59_12, k_59_19, k_59_26, Hsc, b1, b2, b3, b4, HF10, gd_t, decide_true, Bool.and_self, show inb 0 20002 = true from by decide, inb_en r1 r2 (by decide), cl_en r1 (by omega), show (0 : Int32).toNatClampNeg = 0 from by decide, sc_Pi, sc_F]
    exact this
end Lay
