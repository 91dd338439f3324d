-- what the class's melded leaves: mel's picture, sizes, heavy ones, steps
def Fp (s : Nat) (c : CS) (p : Nat) (l : List (Nat × Nat)) (q : Nat) : PT := if (crun s c p l).2 = 0 then (crun s c p l).1.P else stl (crun s c p l).1.P (crun s c p l).2 q
theorem Fp_c (s : Nat) (c : CS) (p : Nat) (x : Nat × Nat) (t : List (Nat × Nat)) (q : Nat) : Fp s c p (x :: t) q = Fp s (cstp s c p x) x.1 t q := rfl
theorem Fp_R (s q : Nat) : ∀ (l : List (Nat × Nat)) (c : CS) (p x : Nat), x ∉ l.map Prod.fst → (Fp s c p l q).2.1 x = c.P.2.1 x := by
  intro l
  induction l with
  | nil =>
    intro c p x _
    show (if p = 0 then c.P else stl c.P p q).2.1 x = _
    by_cases p0 : p = 0
    · rw [if_pos p0]
    · rw [if_neg p0]; rfl
  | cons y t ih =>
    intro c p x hx
    rw [List.map_cons, List.mem_cons] at hx
    rw [Fp_c, ih _ _ x (fun g => hx (Or.inr g)), (cstp_1 s c p y).2.1, u1_o _ _ (fun g => hx (Or.inl g))]
theorem Fp_L (s q : Nat) : ∀ (l : List (Nat × Nat)) (c : CS) (p x : Nat), x ∉ l.map Prod.fst → x ≠ p → (Fp s c p l q).1 x = c.P.1 x := by
  intro l
  induction l with
  | nil =>
    intro c p x _ hp
    show (if p = 0 then c.P else stl c.P p q).1 x = _
    by_cases p0 : p = 0
    · rw [if_pos p0]
    · rw [if_neg p0]; show u1 c.P.1 p q x = _; rw [u1_o _ _ hp]
  | cons y t ih =>
    intro c p x hx hp
    rw [List.map_cons, List.mem_cons] at hx
    rw [Fp_c, ih _ _ x (fun g => hx (Or.inr g)) (fun g => hx (Or.inl g)), (cstp_1 s c p y).1]
    by_cases p0 : p = 0
    · rw [if_pos p0]
    · rw [if_neg p0, u1_o _ _ hp]
theorem Fp_Lp (s q : Nat) (l : List (Nat × Nat)) (c : CS) {p : Nat} (p0 : p ≠ 0) (hp : p ∉ l.map Prod.fst) : (Fp s c p l q).1 p = hd l q := by
  cases l with
  | nil =>
    show (if p = 0 then c.P else stl c.P p q).1 p = q
    rw [if_neg p0]; show u1 c.P.1 p q p = q; rw [u1_s]
  | cons y t =>
    rw [List.map_cons, List.mem_cons] at hp
    rw [Fp_c, Fp_L s q t _ _ p (fun g => hp (Or.inr g)) (fun g => hp (Or.inl g)), (cstp_1 s c p y).1, if_neg p0, u1_s]
    rfl
theorem Fp_U (s q : Nat) : ∀ (l : List (Nat × Nat)) (c : CS) (p x : Nat), x ∉ l.map Prod.fst → x ≠ q → (Fp s c p l q).2.2 x = c.P.2.2 x := by
  intro l
  induction l with
  | nil =>
    intro c p x _ hq
    show (if p = 0 then c.P else stl c.P p q).2.2 x = _
    by_cases p0 : p = 0
    · rw [if_pos p0]
    · rw [if_neg p0]
      show (if q = 0 then c.P.2.2 else u1 c.P.2.2 q p) x = _
      by_cases q0 : q = 0
      · rw [if_pos q0]
      · rw [if_neg q0, u1_o _ _ hq]
  | cons y t ih =>
    intro c p x hx hq
    rw [List.map_cons, List.mem_cons] at hx
    rw [Fp_c, ih _ _ x (fun g => hx (Or.inr g)) hq, (cstp_1 s c p y).2.2.1]
    by_cases p0 : p = 0
    · rw [if_pos p0]
    · rw [if_neg p0]
      by_cases y0 : y.1 = 0
      · rw [if_pos y0]
      · rw [if_neg y0, u1_o _ _ (fun g => hx (Or.inl g))]
theorem Fp_Um (s q : Nat) (l : List (Nat × Nat)) (c : CS) {p : Nat} (p0 : p ≠ 0) (hm : hd l q ≠ 0) (hn : (l.map Prod.fst).Nodup) (hq : q ∉ l.map Prod.fst) : (Fp s c p l q).2.2 (hd l q) = p := by
  cases l with
  | nil =>
    show (if p = 0 then c.P else stl c.P p q).2.2 q = p
    have q0 : q ≠ 0 := hm
    rw [if_neg p0]; show (if q = 0 then c.P.2.2 else u1 c.P.2.2 q p) q = p; rw [if_neg q0, u1_s]
  | cons y t =>
    rw [List.map_cons, List.nodup_cons] at hn
    rw [List.map_cons, List.mem_cons] at hq
    have y0 : y.1 ≠ 0 := hm
    show (Fp s c p (y :: t) q).2.2 y.1 = p
    rw [Fp_c, Fp_U s q t _ _ y.1 hn.1 (fun g => hq (Or.inl g.symm)), (cstp_1 s c p y).2.2.1, if_neg p0, if_neg y0, u1_s]
theorem Fp_U0 (s q : Nat) (l : List (Nat × Nat)) (c : CS) (hn : (l.map Prod.fst).Nodup) (hq : q ∉ l.map Prod.fst) : (Fp s c 0 l q).2.2 (hd l q) = c.P.2.2 (hd l q) := by
  cases l with
  | nil => rfl
  | cons y t =>
    rw [List.map_cons, List.nodup_cons] at hn
    rw [List.map_cons, List.mem_cons] at hq
    show (Fp s c 0 (y :: t) q).2.2 y.1 = c.P.2.2 y.1
    rw [Fp_c, Fp_U s q t _ _ y.1 hn.1 (fun g => hq (Or.inl g.symm)), (cstp_1 s c 0 y).2.2.1, if_pos rfl]
theorem mel_L (q : Nat) : ∀ (l : List (Nat × Nat)) (Q : PT) (x : Nat), x ∉ l.map Prod.fst → (mel Q l q).1 x = Q.1 x := by
  intro l
  induction l with
  | nil => intro Q x _; rfl
  | cons y t ih =>
    intro Q x hx
    rw [List.map_cons, List.mem_cons] at hx
    show u1 (mel (cutR Q y.1) t q).1 y.1 (hd t q) x = _
    rw [u1_o _ _ (fun g => hx (Or.inl g)), ih _ x (fun g => hx (Or.inr g))]
    rfl
/-- each right child of a winner comes up again -/
def Cv (P : PT) (q : Nat) : List (Nat × Nat) → Prop
  | [] => True
  | x :: t => (P.2.1 x.1 = 0 ∨ P.2.1 x.1 ∈ t.map Prod.fst ∨ P.2.1 x.1 = q) ∧ Cv P q t
theorem mwP_cv (fs : Nat → Nat → Bool) (P : PT) {T z : Nat → Nat} (hW : WF P T z) : ∀ (f a b : Nat), LZ T a → LZ T b → z a + z b ≤ f → Cv P (mwP fs P f a b).2 (mwP fs P f a b).1 ∧ (∀ x, x = a ∨ x = b → x = 0 ∨ x ∈ (mwP fs P f a b).1.map Prod.fst ∨ x = (mwP fs P f a b).2) := by
  have stop : ∀ a b : Nat, (a = 0 ∨ b = 0) → ∀ x, x = a ∨ x = b → x = 0 ∨ x ∈ ([] : List (Nat × Nat)).map Prod.fst ∨ x = (if a = 0 then b else a) := by
    intro a b ab x hx
    by_cases a0 : a = 0
    · rw [if_pos a0]
      rcases hx with g | g
      · exact Or.inl (g.trans a0)
      · exact Or.inr (Or.inr g)
    · rw [if_neg a0]
      rcases hx with g | g
      · exact Or.inr (Or.inr g)
      · rcases ab with k | k
        · exact absurd k a0
        · exact Or.inl (g.trans k)
  intro f
  induction f with
  | zero =>
    intro a b ha hb hz
    refine ⟨trivial, stop a b ?_⟩
    rcases ha with q | q
    · exact Or.inl q
    · have := hW.pos q; omega
  | succ f ih =>
    intro a b ha hb hz
    unfold mwP
    by_cases e : a = 0 ∨ b = 0
    · rw [if_pos e]; exact ⟨trivial, stop a b e⟩
    · rw [if_neg e]
      have a0 : a ≠ 0 := fun q => e (Or.inl q)
      have b0 : b ≠ 0 := fun q => e (Or.inr q)
      have haT : T a ≠ 0 := by rcases ha with q | q; exact absurd q a0; exact q
      have hbT : T b ≠ 0 := by rcases hb with q | q; exact absurd q b0; exact q
      have hrT : T (if fs a b then a else b) ≠ 0 := by split; exact haT; exact hbT
      have hoT : T (if fs a b then b else a) ≠ 0 := by split; exact hbT; exact haT
      have tot : z (if fs a b then a else b) + z (if fs a b then b else a) = z a + z b := by
        by_cases q : fs a b = true
        · rw [if_pos q, if_pos q]
        · rw [if_neg q, if_neg q]; omega
      obtain ⟨v1, v2, v3, v4, v5⟩ := hW.2.2 _ hrT
      obtain ⟨i1, i2⟩ := ih (P.2.1 (if fs a b then a else b)) (if fs a b then b else a) (hW.lzr hrT) (Or.inr hoT) (by omega)
      refine ⟨⟨i2 _ (Or.inl rfl), i1⟩, fun x hx => ?_⟩
      rw [List.map_cons, List.mem_cons]
      by_cases g : x = (if fs a b then a else b)
      · exact Or.inr (Or.inl (Or.inl g))
      · have : x = (if fs a b then b else a) := by
          by_cases q : fs a b = true
          · rw [if_pos q] at g ⊢
            rcases hx with k | k
            · exact absurd k g
            · exact k
          · rw [if_neg q] at g ⊢
            rcases hx with k | k
            · exact k
            · exact absurd k g
        rcases i2 x (Or.inr this) with k | k | k
        · exact Or.inl k
        · exact Or.inr (Or.inl (Or.inr k))
        · exact Or.inr (Or.inr k)
theorem Cv_cut {P : PT} {q w : Nat} : ∀ {t : List (Nat × Nat)}, w ∉ t.map Prod.fst → Cv P q t → Cv (cutR P w) q t := by
  intro t
  induction t with
  | nil => intro _ _; trivial
  | cons y t ih =>
    intro hw h
    rw [List.map_cons, List.mem_cons] at hw
    refine ⟨?_, ih (fun g => hw (Or.inr g)) h.2⟩
    have : (cutR P w).2.1 y.1 = P.2.1 y.1 := u1_o _ _ (fun g => hw (Or.inl g.symm))
    rw [this]
    exact h.1
theorem run_mel (s q : Nat) : ∀ (l : List (Nat × Nat)) (c : CS) (p : Nat) (Q : PT) (E X : Nat → Prop), (∀ x, ¬ E x → c.P.1 x = Q.1 x ∧ c.P.2.1 x = Q.2.1 x) → (∀ x, ¬ E x → ¬ X x → c.P.2.2 x = Q.2.2 x) → (∀ x, X x → x = 0 ∨ x ∈ l.map Prod.fst ∨ x = q) → (∀ x, x ∈ l.map Prod.fst → ¬ E x ∧ x ≠ 0) → (p ≠ 0 → E p) → (l.map Prod.fst).Nodup → q ∉ l.map Prod.fst → Cv Q q l →
    ∀ x, ¬ E x → (Fp s c p l q).1 x = (mel Q l q).1 x ∧ (Fp s c p l q).2.1 x = (mel Q l q).2.1 x ∧ (x ≠ hd l q → x ≠ 0 → (Fp s c p l q).2.2 x = (mel Q l q).2.2 x) := by
  intro l
  induction l with
  | nil =>
    intro c p Q E X hA hX hXl hEl hp hn hq hcv x hx
    have xp : p ≠ 0 → x ≠ p := fun p0 g => hx (by rw [g]; exact hp p0)
    obtain ⟨a1, a2⟩ := hA x hx
    refine ⟨?_, ?_, fun xq x0 => ?_⟩
    · show (if p = 0 then c.P else stl c.P p q).1 x = Q.1 x
      by_cases p0 : p = 0
      · rw [if_pos p0]; exact a1
      · rw [if_neg p0]; show u1 c.P.1 p q x = _; rw [u1_o _ _ (xp p0)]; exact a1
    · rw [Fp_R s q [] c p x (by intro g; cases g)]; exact a2
    · rw [Fp_U s q [] c p x (by intro g; cases g) xq]
      exact hX x hx (fun g => by
        rcases hXl x g with k | k | k
        · exact x0 k
        · cases k
        · exact xq k)
  | cons y t ih =>
    intro c p Q E X hA hX hXl hEl hp hn hq hcv x hx
    rw [List.map_cons, List.nodup_cons] at hn
    rw [List.map_cons, List.mem_cons] at hq
    obtain ⟨yE, y0⟩ := hEl y.1 (by rw [List.map_cons]; exact List.mem_cons_self)
    obtain ⟨e1, e2, e3, -⟩ := cstp_1 s c p y
    have I := ih (cstp s c p y) y.1 (cutR Q y.1) (fun x => E x ∨ x = y.1) (fun x => (X x ∧ x ≠ y.1) ∨ x = Q.2.1 y.1) (fun x hx' => by
        have xE : ¬ E x := fun g => hx' (Or.inl g)
        have xy : x ≠ y.1 := fun g => hx' (Or.inr g)
        obtain ⟨a1, a2⟩ := hA x xE
        refine ⟨?_, ?_⟩
        · rw [e1]
          by_cases p0 : p = 0
          · rw [if_pos p0]; exact a1
          · rw [if_neg p0, u1_o _ _ (fun g => xE (by rw [g]; exact hp p0))]; exact a1
        · rw [e2, u1_o _ _ xy, a2]
          show _ = u1 Q.2.1 y.1 0 x
          rw [u1_o _ _ xy]) (fun x hx' hnx => by
        have xE : ¬ E x := fun g => hx' (Or.inl g)
        have xy : x ≠ y.1 := fun g => hx' (Or.inr g)
        have xa : x ≠ Q.2.1 y.1 := fun g => hnx (Or.inr g)
        have xX : ¬ X x := fun g => hnx (Or.inl ⟨g, xy⟩)
        have k1 : (cstp s c p y).P.2.2 x = c.P.2.2 x := by
          rw [e3]
          by_cases p0 : p = 0
          · rw [if_pos p0]
          · rw [if_neg p0, if_neg y0, u1_o _ _ xy]
        rw [k1, hX x xE xX]
        show _ = (if Q.2.1 y.1 = 0 then Q.2.2 else u1 Q.2.2 (Q.2.1 y.1) 0) x
        by_cases g : Q.2.1 y.1 = 0
        · rw [if_pos g]
        · rw [if_neg g, u1_o _ _ xa]) (fun x hx' => by
        rcases hx' with g | g
        · rcases hXl x g.1 with k | k | k
          · exact Or.inl k
          · rw [List.map_cons, List.mem_cons] at k
            rcases k with k | k
            · exact absurd k g.2
            · exact Or.inr (Or.inl k)
          · exact Or.inr (Or.inr k)
        · rw [g]; exact hcv.1) (fun x hx' => by
        obtain ⟨k1, k2⟩ := hEl x (by rw [List.map_cons]; exact List.mem_cons_of_mem _ hx')
        exact ⟨fun g => by rcases g with g | g; exact k1 g; rw [g] at hx'; exact hn.1 hx', k2⟩) (fun _ => Or.inr rfl) hn.2 (fun g => hq (Or.inr g)) (Cv_cut hn.1 hcv.2)
    rw [Fp_c]
    have em : mel Q (y :: t) q = lnk (mel (cutR Q y.1) t q) y.1 (hd t q) := rfl
    have eh : hd (y :: t) q = y.1 := rfl
    rw [em, eh]
    by_cases xy : x = y.1
    · rw [xy]
      refine ⟨?_, ?_, fun g => absurd rfl g⟩
      · rw [Fp_Lp s q t _ y0 hn.1]
        show hd t q = u1 _ y.1 (hd t q) y.1
        rw [u1_s]
      · rw [Fp_R s q t _ _ y.1 hn.1, e2, u1_s]
        show _ = u1 _ y.1 ((mel (cutR Q y.1) t q).1 y.1) y.1
        rw [u1_s, mel_L q t _ y.1 hn.1]
        exact (hA y.1 yE).1
    · obtain ⟨k1, k2, k3⟩ := I x (fun g => by rcases g with g | g; exact hx g; exact xy g)
      refine ⟨?_, ?_, fun _ x0 => ?_⟩
      · show _ = u1 _ y.1 (hd t q) x
        rw [u1_o _ _ xy]; exact k1
      · show _ = u1 _ y.1 _ x
        rw [u1_o _ _ xy]; exact k2
      · show _ = (if hd t q = 0 then (mel (cutR Q y.1) t q).2.2 else u1 (mel (cutR Q y.1) t q).2.2 (hd t q) y.1) x
        by_cases xm : x = hd t q
        · have m0 : hd t q ≠ 0 := by rw [← xm]; exact x0
          rw [if_neg m0, xm, u1_s]
          exact Fp_Um s q t _ y0 m0 hn.2 (fun g => hq (Or.inr g))
        · by_cases m0 : hd t q = 0
          · rw [if_pos m0]; exact k3 xm x0
          · rw [if_neg m0, u1_o _ _ xm]; exact k3 xm x0
