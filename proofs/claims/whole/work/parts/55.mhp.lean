-- THE REFERENCE'S HEAPS: isFirst, melded
def fsM (kd : Nat) (ky : Nat → Int64) (cs : Nat → Nat) (a b : Nat) : Bool := if ky a = ky b then decide (cs a < cs b) else if kd = 2 then decide (ky a < ky b) else decide (ky b < ky a)
def mwF (fs : Nat → Nat → Bool) (P : PT) : Nat → Nat → Nat → List Nat × Nat
  | 0, a, b => ([], if a = 0 then b else a)
  | f + 1, a, b => if a = 0 ∨ b = 0 then ([], if a = 0 then b else a) else
    ((if fs a b then a else b) :: (mwF fs P f (P.2.1 (if fs a b then a else b)) (if fs a b then b else a)).1, (mwF fs P f (P.2.1 (if fs a b then a else b)) (if fs a b then b else a)).2)
def bk1 (w : Nat) (x : PT × Nat) : PT × Nat := ((u1 x.1.1 w x.2, u1 x.1.2.1 w (x.1.1 w), x.1.2.2), w)
def bkF (P : PT) (o : List Nat) (q : Nat) : PT × Nat := o.foldr bk1 (P, q)
theorem BP_bk1 {w : Nat} {x : PT × Nat} (h : BP x.1) (hx : x.2 ≤ 20002) (hw : w ≤ 20002) : BP (bk1 w x).1 ∧ (bk1 w x).2 ≤ 20002 := by
  refine ⟨fun n => ?_, hw⟩
  obtain ⟨a1, a2, a3⟩ := h n
  unfold bk1 u1
  dsimp only
  refine ⟨?_, ?_, a3⟩
  · by_cases e : n = w
    · rw [if_pos e]; exact hx
    · rw [if_neg e]; exact a1
  · by_cases e : n = w
    · rw [if_pos e]; exact (h w).1
    · rw [if_neg e]; exact a2
section Mhp
variable (L : Nat) (xs : Nat → Int32)
theorem m_89 {h : AH} (hb : MB h) (m : MS) {s a b : Nat} (hs : s < 40) (hk : m.kd s ≤ 5) (a1 : 1 ≤ a) (a2 : a ≤ 20002) (c1 : 1 ≤ b) (c2 : b ≤ 20002) (h1 : m.cs a < 2 ^ 31) (h2 : m.cs b < 2 ^ 31) :
    XM L xs 89 [.ref 8, .int (nI s), .int (en a), .int (en b)] (ml h m) = some (ml h m, some (.int (bI1 (fsM (m.kd s) m.ky m.cs a b)))) := by
  obtain ⟨b1, b2, b3, b4⟩ := id hb
  rw [en_89, k_89_0]
  simp only [Hml, b1, b2, b3, b4, HF10, gd_t, decide_true, Bool.and_self, HQ, HZ, inb_en a1 a2 (by decide), cl_en a1 (by omega), inb_en c1 c2 (by decide), cl_en c1 (by omega), show a - 1 + 1 = a from by omega, show b - 1 + 1 = b from by omega, lg_cmp_eq]
  unfold fsM
  by_cases e : m.ky a = m.ky b
  · rw [if_pos e, if_pos e, k_89_72]
    simp only [Hml, b1, b2, b3, b4, HF10, gd_t, decide_true, Bool.and_self, HQ, HZ, inb_en a1 a2 (by decide), cl_en a1 (by omega), inb_en c1 c2 (by decide), cl_en c1 (by omega), show a - 1 + 1 = a from by omega, show b - 1 + 1 = b from by omega]
    by_cases q : m.cs a < m.cs b
    · rw [if_neg (nI_ge q h2), k_89_87, k_89_92, decide_eq_true q]; rfl
    · rw [if_pos (nI_le (by omega) h1), k_89_91, k_89_92, decide_eq_false q]; rfl
  · rw [if_neg e, if_neg e, k_89_16]
    simp only [Hml, b1, b2, b3, b4, HF10, gd_t, decide_true, Bool.and_self, HQ, HZ, inb_nI hs (by decide), nI_clamp (show s < 2 ^ 31 by omega), nI_2c, nI_eq (show m.kd s < 2 ^ 31 by omega) (show 2 < 2 ^ 31 by decide)]
    by_cases k2 : m.kd s = 2
    · rw [if_neg (fun q => q k2), if_pos k2, k_89_26]
      simp only [Hml, b1, b2, b3, b4, HF10, gd_t, decide_true, Bool.and_self, HQ, HZ, inb_en a1 a2 (by decide), cl_en a1 (by omega), inb_en c1 c2 (by decide), cl_en c1 (by omega), show a - 1 + 1 = a from by omega, show b - 1 + 1 = b from by omega, lg_cmp_ge]
      by_cases q : m.ky a < m.ky b
      · rw [if_neg (i64_nle q), k_89_42, k_89_71, decide_eq_true q]; rfl
      · rw [if_pos (i64_le q), k_89_46, k_89_71, decide_eq_false q]; rfl
    · rw [if_pos k2, if_neg k2, k_89_50]
      simp only [Hml, b1, b2, b3, b4, HF10, gd_t, decide_true, Bool.and_self, HQ, HZ, inb_en a1 a2 (by decide), cl_en a1 (by omega), inb_en c1 c2 (by decide), cl_en c1 (by omega), show a - 1 + 1 = a from by omega, show b - 1 + 1 = b from by omega, lg_cmp_le]
      by_cases q : m.ky b < m.ky a
      · rw [if_neg (i64_nle q), k_89_66, k_89_71, decide_eq_true q]; rfl
      · rw [if_pos (i64_le q), k_89_70, k_89_71, decide_eq_false q]; rfl
theorem mwF_mem {P : PT} {T z : Nat → Nat} (hw : WF P T z) (fs : Nat → Nat → Bool) {c : Nat} (c0 : c ≠ 0) : ∀ (f a b : Nat), (a ≠ 0 → T a = c) → (b ≠ 0 → T b = c) → (∀ w, w ∈ (mwF fs P f a b).1 → T w = c) ∧ ((mwF fs P f a b).2 ≠ 0 → T (mwF fs P f a b).2 = c) ∧ ((mwF fs P f a b).1.length ≤ f) := by
  intro f
  induction f with
  | zero =>
    intro a b ha hb
    refine ⟨fun w hw => (by cases hw), fun q => ?_, Nat.le_refl _⟩
    show T (if a = 0 then b else a) = c
    have q' : (if a = 0 then b else a) ≠ 0 := q
    by_cases a0 : a = 0
    · rw [if_pos a0] at q' ⊢; exact hb q'
    · rw [if_neg a0]; exact ha a0
  | succ f ih =>
    intro a b ha hb
    unfold mwF
    by_cases e : a = 0 ∨ b = 0
    · rw [if_pos e]
      refine ⟨fun w hw => (by cases hw), fun q => ?_, Nat.zero_le _⟩
      show T (if a = 0 then b else a) = c
      have q' : (if a = 0 then b else a) ≠ 0 := q
      by_cases a0 : a = 0
      · rw [if_pos a0] at q' ⊢; exact hb q'
      · rw [if_neg a0]; exact ha a0
    · rw [if_neg e]
      have a0 : a ≠ 0 := fun q => e (Or.inl q)
      have b0 : b ≠ 0 := fun q => e (Or.inr q)
      have hr : T (if fs a b then a else b) = c := by
        by_cases q : fs a b = true
        · rw [if_pos q]; exact ha a0
        · rw [if_neg q]; exact hb b0
      have ho : T (if fs a b then b else a) = c := by
        by_cases q : fs a b = true
        · rw [if_pos q]; exact hb b0
        · rw [if_neg q]; exact ha a0
      obtain ⟨i1, i2, i3⟩ := ih (P.2.1 (if fs a b then a else b)) (if fs a b then b else a) (fun q => by rw [((hw.2.2 _ (by rw [hr]; exact c0)).2.1 q).2]; exact hr) (fun _ => ho)
      refine ⟨fun w hw => ?_, i2, by rw [List.length_cons]; omega⟩
      rcases List.mem_cons.mp hw with q | q
      · rw [q]; exact hr
      · exact i1 w q
theorem m_90_a {h : AH} (hb : MB h) (m : MS) {up T z : Nat → Nat} (hw : WF (m.P.1, m.P.2.1, up) T z) (hT : TN T) {s : Nat} (hs : s < 40) (hk : m.kd s ≤ 5) (hcs : ∀ x, T x ≠ 0 → m.cs x < 2 ^ 31) (l2 l3 : Int32) : ∀ (f a b : Nat) (o : List Nat) (sp : Nat) (pi : Nat → Int32) (l7 l8 : Value), LZ T a → LZ T b → z a + z b ≤ f → o.length + z a + z b ≤ 20002 → (∀ i w, o[i]? = some w → pi i = en w) →
    ∃ (a' b' : Nat) (pi' : Nat → Int32) (l7' l8' : Value), (if a' = 0 then b' else a') = (mwF (fsM (m.kd s) m.ky m.cs) m.P f a b).2 ∧ LZ T a' ∧ LZ T b' ∧ (∀ i w, (o ++ (mwF (fsM (m.kd s) m.ky m.cs) m.P f a b).1)[i]? = some w → pi' i = en w) ∧ o.length + (mwF (fsM (m.kd s) m.ky m.cs) m.P f a b).1.length ≤ 20002 ∧
      X L xs 90 9 [.ref 8, .int (nI s), .int l2, .int l3, .int (en a), .int (en b), .int (nI o.length), l7, l8] [] (ml h ((m.ssp sp).sPi pi)) = X L xs 90 96 [.ref 8, .int (nI s), .int l2, .int l3, .int (en a'), .int (en b'), .int (nI (o.length + (mwF (fsM (m.kd s) m.ky m.cs) m.P f a b).1.length)), l7', l8'] [] (ml h ((m.ssp (sp + (mwF (fsM (m.kd s) m.ky m.cs) m.P f a b).1.length)).sPi pi')) := by
  obtain ⟨b1, b2, b3, b4⟩ := id hb
  have stop : ∀ (a b : Nat) (o : List Nat) (sp : Nat) (pi : Nat → Int32) (l7 l8 : Value), LZ T a → LZ T b → (a = 0 ∨ b = 0) → X L xs 90 9 [.ref 8, .int (nI s), .int l2, .int l3, .int (en a), .int (en b), .int (nI o.length), l7, l8] [] (ml h ((m.ssp sp).sPi pi)) = X L xs 90 96 [.ref 8, .int (nI s), .int l2, .int l3, .int (en a), .int (en b), .int (nI o.length), l7, l8] [] (ml h ((m.ssp sp).sPi pi)) := by
    intro a b o sp pi l7 l8 ha hb' hab
    rw [k_90_9]
    by_cases a0 : a = 0
    · rw [a0, en_0, if_pos rfl]
    · have a2 : a ≤ 20002 := by rcases ha with e | e; exact absurd e a0; exact hT.2 a e
      rw [if_neg (fun q => a0 ((en_m1 (by omega)).mp q)), k_90_15]
      rcases hab with q | q
      · exact absurd q a0
      · rw [q, en_0, if_pos rfl]
  intro f
  induction f with
  | zero =>
    intro a b o sp pi l7 l8 ha hb' hz ho hpi
    have ab : a = 0 ∨ b = 0 := by
      rcases ha with e | e
      · exact Or.inl e
      · have := hw.pos e; omega
    refine ⟨a, b, pi, l7, l8, rfl, ha, hb', ?_, ?_, ?_⟩
    · show ∀ i w, (o ++ [])[i]? = some w → _
      rw [List.append_nil]; exact hpi
    · show o.length + 0 ≤ 20002; omega
    · exact stop a b o sp pi l7 l8 ha hb' ab
  | succ f ih =>
    intro a b o sp pi l7 l8 ha hb' hz ho hpi
    by_cases ab : a = 0 ∨ b = 0
    · have e : mwF (fsM (m.kd s) m.ky m.cs) m.P (f + 1) a b = ([], if a = 0 then b else a) := by
        show (if a = 0 ∨ b = 0 then _ else _) = _
        rw [if_pos ab]
      rw [e]
      refine ⟨a, b, pi, l7, l8, rfl, ha, hb', ?_, ?_, ?_⟩
      · show ∀ i w, (o ++ [])[i]? = some w → _
        rw [List.append_nil]; exact hpi
      · show o.length + 0 ≤ 20002; omega
      · exact stop a b o sp pi l7 l8 ha hb' ab
    · have a0 : a ≠ 0 := fun q => ab (Or.inl q)
      have b0 : b ≠ 0 := fun q => ab (Or.inr q)
      have haT : T a ≠ 0 := by rcases ha with e | e; exact absurd e a0; exact e
      have hbT : T b ≠ 0 := by rcases hb' with e | e; exact absurd e b0; exact e
      have a1 : 1 ≤ a := by omega
      have a2 := hT.2 a haT
      have c1 : 1 ≤ b := by omega
      have c2 := hT.2 b hbT
      have za := hw.pos haT
      have zb := hw.pos hbT
      have e : mwF (fsM (m.kd s) m.ky m.cs) m.P (f + 1) a b = ((if fsM (m.kd s) m.ky m.cs a b then a else b) :: (mwF (fsM (m.kd s) m.ky m.cs) m.P f (m.P.2.1 (if fsM (m.kd s) m.ky m.cs a b then a else b)) (if fsM (m.kd s) m.ky m.cs a b then b else a)).1, (mwF (fsM (m.kd s) m.ky m.cs) m.P f (m.P.2.1 (if fsM (m.kd s) m.ky m.cs a b then a else b)) (if fsM (m.kd s) m.ky m.cs a b then b else a)).2) := by
        show (if a = 0 ∨ b = 0 then _ else _) = _
        rw [if_neg ab]
      rw [e]
      have tot : z (if fsM (m.kd s) m.ky m.cs a b then a else b) + z (if fsM (m.kd s) m.ky m.cs a b then b else a) = z a + z b := by
        by_cases q : fsM (m.kd s) m.ky m.cs a b = true
        · rw [if_pos q, if_pos q]
        · rw [if_neg q, if_neg q]; omega
      have hrT : T (if fsM (m.kd s) m.ky m.cs a b then a else b) ≠ 0 := by
        by_cases q : fsM (m.kd s) m.ky m.cs a b = true
        · rw [if_pos q]; exact haT
        · rw [if_neg q]; exact hbT
      have hoT : T (if fsM (m.kd s) m.ky m.cs a b then b else a) ≠ 0 := by
        by_cases q : fsM (m.kd s) m.ky m.cs a b = true
        · rw [if_pos q]; exact hbT
        · rw [if_neg q]; exact haT
      have run : ∀ (r o' : Nat), T r ≠ 0 → o.length < 20002 → ∀ l8 : Value, X L xs 90 56 [.ref 8, .int (nI s), .int l2, .int l3, .int (en a), .int (en b), .int (nI o.length), .int (en r), l8] [.int (en o')] (ml h ((m.ssp sp).sPi pi)) = X L xs 90 9 [.ref 8, .int (nI s), .int l2, .int l3, .int (en (m.P.2.1 r)), .int (en o'), .int (nI (o.length + 1)), .int (en r), .int (en o')] [] (ml h ((m.ssp (sp + 1)).sPi (u1 pi o.length (en r)))) := by
        intro r o' hr hlt l8
        have r1 : 1 ≤ r := Nat.pos_of_ne_zero (hw.n0 hr)
        have r2 := hT.2 r hr
        rw [k_90_56]
        simp only [Hml, b1, b2, b3, b4, HF10, gd_t, decide_true, Bool.and_self, HQ, HZ, SPi, Ssp, nI_1, ml_sp]
        rw [k_90_68]
        simp only [Hml, b1, b2, b3, b4, HF10, gd_t, decide_true, Bool.and_self, HQ, HZ, inb_nI hlt (by decide), nI_clamp (show o.length < 2 ^ 31 by omega), ml_Pi, SPi, Ssp]
        rw [k_90_77]
        simp only [Hml, b1, b2, b3, b4, HF10, gd_t, decide_true, Bool.and_self, HQ, HZ, inb_en r1 r2 (by decide), cl_en r1 (by omega), show r - 1 + 1 = r from by omega, SPi, Ssp, nI_1]
        rfl
      have start : ∀ l7 l8 : Value, X L xs 90 9 [.ref 8, .int (nI s), .int l2, .int l3, .int (en a), .int (en b), .int (nI o.length), l7, l8] [] (ml h ((m.ssp sp).sPi pi)) = X L xs 90 56 [.ref 8, .int (nI s), .int l2, .int l3, .int (en a), .int (en b), .int (nI o.length), .int (en (if fsM (m.kd s) m.ky m.cs a b then a else b)), l8] [.int (en (if fsM (m.kd s) m.ky m.cs a b then b else a))] (ml h ((m.ssp sp).sPi pi)) := by
        intro l7 l8
        have fs := m_89 L xs hb ((m.ssp sp).sPi pi) hs (show m.kd s ≤ 5 from hk) a1 a2 c1 c2 (hcs a haT) (hcs b hbT)
        have efs : fsM (((m.ssp sp).sPi pi).kd s) ((m.ssp sp).sPi pi).ky ((m.ssp sp).sPi pi).cs a b = fsM (m.kd s) m.ky m.cs a b := rfl
        rw [efs] at fs
        rw [k_90_9, if_neg (fun q => a0 ((en_m1 (by omega)).mp q)), k_90_15, if_neg (fun q => b0 ((en_m1 (by omega)).mp q)), k_90_21]
        simp only [Hml, b1, b2, b3, b4, HF10, gd_t, decide_true, Bool.and_self, HQ, HZ, cc_9_230_10, fs, bI_s]
        by_cases q : fsM (m.kd s) m.ky m.cs a b = true
        · simp only [q, if_true]
          rw [if_neg (by decide), k_90_33, k_90_40, if_neg (fun g => g rfl), k_90_49]
        · rw [if_neg q, if_neg q]
          rw [Bool.not_eq_true] at q
          rw [q, if_pos (by decide), k_90_38, k_90_40]
          by_cases g : en b = en a
          · rw [if_neg (fun g2 => g2 g), k_90_49]
            rw [(en_inj (by omega) (by omega)).mp g]
          · rw [if_pos g, k_90_54]
      obtain ⟨w1, w2, w3, w4, w5⟩ := hw.2.2 _ hrT
      dsimp only at w5
      have hx : (o ++ [if fsM (m.kd s) m.ky m.cs a b then a else b]).length = o.length + 1 := by rw [List.length_append, List.length_singleton]
      obtain ⟨a', b', pi', l7', l8', i1, i2, i3, i4, i5, i6⟩ := ih (m.P.2.1 (if fsM (m.kd s) m.ky m.cs a b then a else b)) (if fsM (m.kd s) m.ky m.cs a b then b else a) (o ++ [if fsM (m.kd s) m.ky m.cs a b then a else b]) (sp + 1) (u1 pi o.length (en (if fsM (m.kd s) m.ky m.cs a b then a else b))) (.int (en (if fsM (m.kd s) m.ky m.cs a b then a else b))) (.int (en (if fsM (m.kd s) m.ky m.cs a b then b else a))) (hw.lzr hrT) (Or.inr hoT) (by omega) (by rw [hx]; omega) (by
        intro i w hi
        by_cases g : i = o.length
        · subst g
          rw [List.getElem?_append_right (Nat.le_refl _), Nat.sub_self, List.getElem?_cons_zero] at hi
          rw [u1_s, Option.some.inj hi]
        · rw [u1_o _ _ g]
          by_cases g2 : i < o.length
          · rw [List.getElem?_append_left g2] at hi; exact hpi i w hi
          · rw [List.getElem?_append_right (by omega), List.getElem?_eq_none (by rw [List.length_singleton]; omega)] at hi; cases hi)
      refine ⟨a', b', pi', l7', l8', i1, i2, i3, ?_, ?_, ?_⟩
      · rw [List.append_assoc, List.singleton_append] at i4; exact i4
      · rw [hx] at i5; rw [List.length_cons]; omega
      · rw [start, run _ _ hrT (by omega)]
        rw [hx] at i6
        rw [i6, List.length_cons, show ∀ n : Nat, o.length + 1 + n = o.length + (n + 1) from fun n => by omega, show ∀ n : Nat, sp + 1 + n = sp + (n + 1) from fun n => by omega]
theorem m_90_b {h : AH} (hb : MB h) (l1 l2 l3 l4 l5 : Int32) : ∀ (n : Nat) (o : List Nat) (m : MS) (q : Nat) (l8 : Value), o.length = n → n ≤ 20002 → BP m.P → q ≤ 20002 → (∀ w, w ∈ o → 1 ≤ w ∧ w ≤ 20002) → (∀ i w, o[i]? = some w → m.Pi i = en w) →
    X L xs 90 111 [.ref 8, .int l1, .int l2, .int l3, .int l4, .int l5, .int (nI o.length), .int (en q), l8] [] (ml h m) = some (ml h (m.sP (bkF m.P o q).1), some (.int (en (bkF m.P o q).2))) := by
  obtain ⟨b1, b2, b3, b4⟩ := id hb
  intro n
  induction n with
  | zero =>
    intro o m q l8 hn _ _ _ _ _
    have := List.eq_nil_of_length_eq_zero hn
    subst this
    rw [List.length_nil, nI_0, k_90_111, if_pos (by decide), k_90_158]
    rfl
  | succ n ih =>
    intro o m q l8 hn hn2 hP hq ho hpi
    obtain ⟨o', w, rfl⟩ : ∃ o' w, o = o' ++ [w] := ⟨o.dropLast, o.getLast (by intro e; rw [e] at hn; cases hn), (List.dropLast_concat_getLast _).symm⟩
    rw [List.length_append, List.length_singleton] at hn
    obtain ⟨w1, w2⟩ := ho w (List.mem_append_right _ (List.mem_singleton.mpr rfl))
    have hw := hpi o'.length w (by rw [List.getElem?_append_right (Nat.le_refl _), Nat.sub_self, List.getElem?_cons_zero])
    have hlt : o'.length < 20002 := by omega
    rw [List.length_append, List.length_singleton, k_90_111, if_neg (nI_nle (by omega) (by omega)), k_90_116]
    simp only [Hml, b1, b2, b3, b4, HF10, gd_t, decide_true, Bool.and_self, HQ, HZ, nI_m, inb_nI hlt (by decide), nI_clamp (show o'.length < 2 ^ 31 by omega), hw, inb_en w1 w2 (by decide), cl_en w1 (by omega), show w - 1 + 1 = w from by omega, ml_Pr h _ w1]
    rw [k_90_142]
    simp only [Hml, b1, b2, b3, b4, HF10, gd_t, decide_true, Bool.and_self, HQ, HZ, inb_en w1 w2 (by decide), cl_en w1 (by omega), ml_Pl h _ w1, SP]
    rw [k_90_151]
    have hB := BP_bk1 (w := w) (x := (m.P, q)) hP hq w2
    have := ih o' (m.sP (bk1 w (m.P, q)).1) w (.int (en w)) (by omega) (by omega) hB.1 w2 (fun x hx => ho x (List.mem_append_left _ hx)) (fun i x hx => hpi i x (by
      rw [List.getElem?_append_left]
      · exact hx
      · rcases Nat.lt_or_ge i o'.length with g | g
        · exact g
        · rw [List.getElem?_eq_none g] at hx; cases hx))
    have e : bkF m.P (o' ++ [w]) q = bkF (bk1 w (m.P, q)).1 o' w := by
      unfold bkF
      rw [List.foldr_append]
      rfl
    rw [e]
    exact this
theorem m_90 {h : AH} (hb : MB h) (m : MS) {up T z : Nat → Nat} (hw : WF (m.P.1, m.P.2.1, up) T z) (hT : TN T) {s a b : Nat} (hs : s < 40) (hk : m.kd s ≤ 5) (hcs : ∀ x, T x ≠ 0 → m.cs x < 2 ^ 31) (hP : BP m.P) {c : Nat} (c0 : c ≠ 0) (ha : a ≠ 0 → T a = c) (hb' : b ≠ 0 → T b = c) {f : Nat} (hz : z a + z b ≤ f) (hz2 : z a + z b ≤ 20002) :
    ∃ q : SCT, XM L xs 90 [.ref 8, .int (nI s), .int (en a), .int (en b)] (ml h m) = some (ml h (((m.ssp (m.sp + (mwF (fsM (m.kd s) m.ky m.cs) m.P f a b).1.length)).sP (bkF m.P (mwF (fsM (m.kd s) m.ky m.cs) m.P f a b).1 (mwF (fsM (m.kd s) m.ky m.cs) m.P f a b).2).1).sW q), some (.int (en (bkF m.P (mwF (fsM (m.kd s) m.ky m.cs) m.P f a b).1 (mwF (fsM (m.kd s) m.ky m.cs) m.P f a b).2).2))) := by
  obtain ⟨b1, b2, b3, b4⟩ := id hb
  have la : LZ T a := by by_cases e : a = 0; exact Or.inl e; exact Or.inr (by rw [ha e]; exact c0)
  have lb : LZ T b := by by_cases e : b = 0; exact Or.inl e; exact Or.inr (by rw [hb' e]; exact c0)
  obtain ⟨a', b', pi', l7', l8', i1, i2, i3, i4, i5, i6⟩ := m_90_a L xs hb m hw hT hs hk hcs (en a) (en b) f a b [] m.sp m.Pi .null .null la lb hz (by rw [List.length_nil]; omega) (fun i w hi => by rw [List.getElem?_nil] at hi; cases hi)
  obtain ⟨k1, k2, -⟩ := mwF_mem hw (fsM (m.kd s) m.ky m.cs) c0 f a b ha hb'
  have ew : mwF (fsM (m.kd s) m.ky m.cs) (m.P.1, m.P.2.1, up) f a b = mwF (fsM (m.kd s) m.ky m.cs) m.P f a b := by
    have : ∀ (f a b : Nat), mwF (fsM (m.kd s) m.ky m.cs) (m.P.1, m.P.2.1, up) f a b = mwF (fsM (m.kd s) m.ky m.cs) m.P f a b := by
      intro f
      induction f with
      | zero => intro a b; rfl
      | succ f ih =>
        intro a b
        unfold mwF
        by_cases e : a = 0 ∨ b = 0
        · rw [if_pos e, if_pos e]
        · rw [if_neg e, if_neg e, ih]
    exact this f a b
  rw [ew] at k1 k2
  generalize mwF (fsM (m.kd s) m.ky m.cs) m.P f a b = W at *
  have hq2 : W.2 ≤ 20002 := by
    by_cases e : W.2 = 0
    · omega
    · exact hT.2 _ (by rw [k2 e]; exact c0)
  rw [List.nil_append] at i4
  rw [List.length_nil, Nat.zero_add] at i5 i6
  refine ⟨((m.ssp (m.sp + W.1.length)).sPi pi').2.2.2.2.2, ?_⟩
  have lp2 := m_90_b L xs hb (nI s) (en a) (en b) (en a') (en b') W.1.length W.1 ((m.ssp (m.sp + W.1.length)).sPi pi') W.2 l8' rfl i5 hP hq2 (fun w hw' => ⟨Nat.pos_of_ne_zero (hw.n0 (by rw [k1 w hw']; exact c0)), hT.2 w (by rw [k1 w hw']; exact c0)⟩) i4
  rw [en_90, k_90_0]
  rw [show ml h m = ml h ((m.ssp m.sp).sPi m.Pi) from rfl, show (0 : Int32) = nI 0 from nI_0.symm, i6, k_90_96]
  have e1 : (if ¬ en a' = -1 then X L xs 90 107 [.ref 8, .int (nI s), .int (en a), .int (en b), .int (en a'), .int (en b'), .int (nI W.1.length), l7', l8'] [] (ml h ((m.ssp (m.sp + W.1.length)).sPi pi')) else X L xs 90 102 [.ref 8, .int (nI s), .int (en a), .int (en b), .int (en a'), .int (en b'), .int (nI W.1.length), l7', l8'] [] (ml h ((m.ssp (m.sp + W.1.length)).sPi pi'))) = X L xs 90 111 [.ref 8, .int (nI s), .int (en a), .int (en b), .int (en a'), .int (en b'), .int (nI W.1.length), .int (en W.2), l8'] [] (ml h ((m.ssp (m.sp + W.1.length)).sPi pi')) := by
    by_cases a0 : a' = 0
    · rw [if_pos a0] at i1
      rw [a0, en_0, if_neg (by decide), k_90_102, k_90_109, i1]
    · have a2 : a' ≤ 20002 := by rcases i2 with e | e; exact absurd e a0; exact hT.2 a' e
      rw [if_neg a0] at i1
      rw [if_pos (fun g => a0 ((en_m1 (by omega)).mp g)), k_90_107, k_90_109, i1]
  rw [e1, lp2]
  rfl
end Mhp
