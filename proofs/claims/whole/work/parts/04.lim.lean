-- the interpreter without fuel: X, and its equation
def Le (o o' : Option Out) : Prop := ∀ r, o = some r → o' = some r
theorem Le_none {o : Option Out} : Le none o := fun _ h => by cases h
theorem Le_refl {o : Option Out} : Le o o := fun _ h => h
theorem gd_le {b : Bool} {x y : Option Out} (h : Le x y) : Le (gd b x) (gd b y) := by
  cases b
  · exact Le_none
  · exact h
theorem ite_le {c : Prop} {dc : Decidable c} {a b a' b' : Option Out} (h1 : Le a a') (h2 : Le b b') : Le (if c then a else b) (if c then a' else b') := by
  by_cases h : c
  · rw [if_pos h, if_pos h]; exact h1
  · rw [if_neg h, if_neg h]; exact h2
theorem bV_le {o o' : Option Out} {k k' : AH → Option Out} (h : Le o o') (hk : ∀ x, Le (k x) (k' x)) : Le (bV o k) (bV o' k') := by
  match o, h with
  | none, _ => exact Le_none
  | some (a, none), h => rw [h _ rfl]; exact hk a
  | some (a, some v), h => exact Le_none
theorem bI_le {o o' : Option Out} {k k' : Int32 → AH → Option Out} (h : Le o o') (hk : ∀ x y, Le (k x y) (k' x y)) : Le (bI o k) (bI o' k') := by
  match o, h with
  | none, _ => exact Le_none
  | some (a, none), h => exact Le_none
  | some (a, some v), h => rw [h _ rfl]; cases v <;> first | exact hk _ _ | exact Le_none
theorem bL_le {o o' : Option Out} {k k' : Int64 → AH → Option Out} (h : Le o o') (hk : ∀ x y, Le (k x y) (k' x y)) : Le (bL o k) (bL o' k') := by
  match o, h with
  | none, _ => exact Le_none
  | some (a, none), h => exact Le_none
  | some (a, some v), h => rw [h _ rfl]; cases v <;> first | exact hk _ _ | exact Le_none
theorem bR_le {o o' : Option Out} {k k' : Nat → AH → Option Out} (h : Le o o') (hk : ∀ x y, Le (k x y) (k' x y)) : Le (bR o k) (bR o' k') := by
  match o, h with
  | none, _ => exact Le_none
  | some (a, none), h => exact Le_none
  | some (a, some v), h => rw [h _ rfl]; cases v <;> first | exact hk _ _ | exact Le_none
theorem bK_le {rk : Nat} {o o' : Option Out} {k k' : List Value → AH → Option Out} (h : Le o o') (hk : ∀ x y, Le (k x y) (k' x y)) : Le (bK rk o k) (bK rk o' k') := by
  unfold bK
  split
  · exact bV_le h fun _ => hk _ _
  · exact bL_le h fun _ _ => hk _ _
  · exact bR_le h fun _ _ => hk _ _
  · exact bI_le h fun _ _ => hk _ _
theorem cfD_le {cf cf' : Nat → List Value → AH → Option Out} (h : ∀ M as a, Le (cf M as a) (cf' M as a)) (own idx t : Nat) (as : List Value) (a : AH) : Le (cfD cf own idx t as a) (cfD cf' own idx t as a) := by
  unfold cfD
  split
  · split
    · exact gd_le (h _ _ _)
    · exact Le_none
  · exact Le_none
set_option maxHeartbeats 4000000 in
theorem stepI_le {L : Nat} {xs : Nat → Int32} {cf cf' : Nat → List Value → AH → Option Out} {k k' : Nat → List Value → List Value → AH → Option Out} (hc : ∀ M as a, Le (cf M as a) (cf' M as a)) (hk : ∀ p l s a, Le (k p l s a) (k' p l s a)) (M pc nx : Nat) (i : Instr) (ls st : List Value) (h : AH) : Le (stepI L xs cf k M pc nx i ls st h) (stepI L xs cf' k' M pc nx i ls st h) := by
  unfold stepI
  split <;> (repeat' (first | exact Le_none | exact hk _ _ _ _ | exact Le_refl | apply gd_le | apply ite_le | (refine bK_le (cfD_le hc _ _ _ _ _) (fun _ _ => hk _ _ _ _)) | split))
/-- along a chain: what holds at the limit holds from some place on -/
def Ct (o : Option Out) (f : Nat → Option Out) : Prop := ∀ r, o = some r → ∃ n, ∀ m, n ≤ m → f m = some r
theorem Ct_none {f : Nat → Option Out} : Ct none f := fun _ h => by cases h
theorem Ct_const {o : Option Out} : Ct o (fun _ => o) := fun _ h => ⟨0, fun _ _ => h⟩
theorem gd_ct {b : Bool} {x : Option Out} {y : Nat → Option Out} (h : Ct x y) : Ct (gd b x) (fun m => gd b (y m)) := by
  cases b
  · exact Ct_none
  · exact h
theorem ite_ct {c : Prop} {dc : Decidable c} {a b : Option Out} {a' b' : Nat → Option Out} (h1 : Ct a a') (h2 : Ct b b') : Ct (if c then a else b) (fun m => if c then a' m else b' m) := by
  by_cases h : c
  · simp only [if_pos h]; exact h1
  · simp only [if_neg h]; exact h2
theorem bK_ct {rk : Nat} {o : Option Out} {o' : Nat → Option Out} {k : List Value → AH → Option Out} {k' : Nat → List Value → AH → Option Out} (h : Ct o o') (hk : ∀ x y, Ct (k x y) (fun m => k' m x y)) : Ct (bK rk o k) (fun m => bK rk (o' m) (k' m)) := by
  intro r hr
  cases o with
  | none =>
    exfalso
    revert hr
    unfold bK
    split <;> intro hr <;> cases hr
  | some q =>
    obtain ⟨n1, h1⟩ := h q rfl
    obtain ⟨a, v⟩ := q
    have key : ∀ (x : List Value) (y : AH), k x y = some r → (∀ m, n1 ≤ m → bK rk (o' m) (k' m) = k' m x y) → ∃ n, ∀ m, n ≤ m → bK rk (o' m) (k' m) = some r := by
      intro x y e1 e2
      obtain ⟨n2, h2⟩ := hk x y r e1
      exact ⟨max n1 n2, fun m hm => by rw [e2 m (by omega)]; exact h2 m (by omega)⟩
    match rk, key, hr with
    | 0, key, hr =>
      cases v with
      | none => exact key [] a hr (fun m hm => by rw [h1 m hm]; rfl)
      | some v => cases hr
    | 1, key, hr =>
      cases v with
      | none => cases hr
      | some v => cases v <;> first | (exact key _ a hr (fun m hm => by rw [h1 m hm]; rfl)) | cases hr
    | 2, key, hr =>
      cases v with
      | none => cases hr
      | some v => cases v <;> first | (exact key _ a hr (fun m hm => by rw [h1 m hm]; rfl)) | cases hr
    | 3, key, hr =>
      cases v with
      | none => cases hr
      | some v => cases v <;> first | (exact key _ a hr (fun m hm => by rw [h1 m hm]; rfl)) | cases hr
    | n + 4, key, hr =>
      cases v with
      | none => cases hr
      | some v => cases v <;> first | (exact key _ a hr (fun m hm => by rw [h1 m hm]; rfl)) | cases hr
theorem cfD_ct {cf : Nat → List Value → AH → Option Out} {cf' : Nat → Nat → List Value → AH → Option Out} (h : ∀ M as a, Ct (cf M as a) (fun m => cf' m M as a)) (own idx t : Nat) (as : List Value) (a : AH) : Ct (cfD cf own idx t as a) (fun m => cfD (cf' m) own idx t as a) := by
  unfold cfD
  split
  · split
    · exact gd_ct (h _ _ _)
    · exact Ct_none
  · exact Ct_none
set_option maxHeartbeats 4000000 in
theorem stepI_ct {L : Nat} {xs : Nat → Int32} {cf : Nat → List Value → AH → Option Out} {cf' : Nat → Nat → List Value → AH → Option Out} {k : Nat → List Value → List Value → AH → Option Out} {k' : Nat → Nat → List Value → List Value → AH → Option Out} (hc : ∀ M as a, Ct (cf M as a) (fun m => cf' m M as a)) (hk : ∀ p l s a, Ct (k p l s a) (fun m => k' m p l s a)) (M pc nx : Nat) (i : Instr) (ls st : List Value) (h : AH) : Ct (stepI L xs cf k M pc nx i ls st h) (fun m => stepI L xs (cf' m) (k' m) M pc nx i ls st h) := by
  unfold stepI
  split <;> (repeat' (first | exact Ct_none | exact hk _ _ _ _ | exact Ct_const | apply gd_ct | apply ite_ct | (refine bK_ct (cfD_ct hc _ _ _ _ _) (fun _ _ => hk _ _ _ _)) | split))
theorem ex_step_le {L : Nat} {xs : Nat → Int32} : ∀ (n M pc : Nat) (ls st : List Value) (h : AH), Le (ex L xs n M pc ls st h) (ex L xs (n + 1) M pc ls st h) := by
  intro n
  induction n with
  | zero => intro M pc ls st h; exact Le_none
  | succ n ih =>
    intro M pc ls st h
    show Le (stepK L xs _ _ M pc ls st h) (stepK L xs _ _ M pc ls st h)
    unfold stepK
    split
    · exact stepI_le (fun M' as a => ih M' 0 _ _ a) (fun p l s a => ih M p l s a) _ _ _ _ _ _ _
    · exact Le_none
theorem ex_le {L : Nat} {xs : Nat → Int32} {n m : Nat} (hnm : n ≤ m) (M pc : Nat) (ls st : List Value) (h : AH) : Le (ex L xs n M pc ls st h) (ex L xs m M pc ls st h) := by
  induction hnm with
  | refl => exact Le_refl
  | step _ ih => exact fun r hr => ex_step_le _ M pc ls st h r (ih r hr)
noncomputable def X (L : Nat) (xs : Nat → Int32) (M pc : Nat) (ls st : List Value) (h : AH) : Option Out :=
  match Classical.propDecidable (∃ n r, ex L xs n M pc ls st h = some r) with
  | isTrue H => ex L xs (Classical.choose H) M pc ls st h
  | isFalse _ => none
theorem X_some {L : Nat} {xs : Nat → Int32} {M pc : Nat} {ls st : List Value} {h : AH} {r : Out} : X L xs M pc ls st h = some r ↔ ∃ n, ex L xs n M pc ls st h = some r := by
  unfold X
  split
  · next H _ =>
    constructor
    · intro e; exact ⟨_, e⟩
    · rintro ⟨n, e⟩
      obtain ⟨r', e'⟩ := Classical.choose_spec H
      have h1 := ex_le (Nat.le_max_left n (Classical.choose H)) M pc ls st h _ e
      have h2 := ex_le (Nat.le_max_right n (Classical.choose H)) M pc ls st h _ e'
      rw [e', ← h2, h1]
  · next H _ =>
    constructor
    · intro e; cases e
    · rintro ⟨n, e⟩; exact absurd ⟨n, r, e⟩ H
theorem X_ct {L : Nat} {xs : Nat → Int32} (M pc : Nat) (ls st : List Value) (h : AH) : Ct (X L xs M pc ls st h) (fun m => ex L xs m M pc ls st h) := by
  intro r hr
  obtain ⟨n, e⟩ := X_some.mp hr
  exact ⟨n, fun m hm => ex_le hm M pc ls st h r e⟩
noncomputable def XM (L : Nat) (xs : Nat → Int32) (M : Nat) (as : List Value) (h : AH) : Option Out := X L xs M 0 (initL M as) [] h
theorem X_eq (L : Nat) (xs : Nat → Int32) (M pc : Nat) (ls st : List Value) (h : AH) : X L xs M pc ls st h = stepK L xs (XM L xs) (X L xs M) M pc ls st h := by
  have h1 : Le (X L xs M pc ls st h) (stepK L xs (XM L xs) (X L xs M) M pc ls st h) := by
    intro r hr
    obtain ⟨n, e⟩ := X_some.mp hr
    cases n with
    | zero => cases e
    | succ n =>
      have e : stepK L xs (fun M' as h' => ex L xs n M' 0 (initL M' as) [] h') (ex L xs n M) M pc ls st h = some r := e
      revert e
      unfold stepK
      split
      · exact fun e => stepI_le (fun M' as a r hr => X_some.mpr ⟨n, hr⟩) (fun p l s a r hr => X_some.mpr ⟨n, hr⟩) _ _ _ _ _ _ _ r e
      · intro e; cases e
  have h2 : Le (stepK L xs (XM L xs) (X L xs M) M pc ls st h) (X L xs M pc ls st h) := by
    intro r hr
    have : ∃ n, stepK L xs (fun M' as h' => ex L xs n M' 0 (initL M' as) [] h') (ex L xs n M) M pc ls st h = some r := by
      revert hr
      unfold stepK
      split
      · intro hr
        obtain ⟨n, hn⟩ := stepI_ct (L := L) (xs := xs) (cf' := fun n M' as h' => ex L xs n M' 0 (initL M' as) [] h') (k' := fun n => ex L xs n M) (fun M' as a => X_ct M' 0 _ _ a) (fun p l s a => X_ct M p l s a) _ _ _ _ _ _ _ r hr
        exact ⟨n, hn n (Nat.le_refl n)⟩
      · intro e; cases e
    obtain ⟨n, hn⟩ := this
    exact X_some.mpr ⟨n + 1, hn⟩
  cases e : X L xs M pc ls st h with
  | some r => exact (h1 r e).symm
  | none =>
    cases e2 : stepK L xs (XM L xs) (X L xs M) M pc ls st h with
    | none => rfl
    | some r => rw [h2 r e2] at e; cases e
/-- n instructions, then K -/
noncomputable def exk (L : Nat) (xs : Nat → Int32) (M : Nat) (K : Nat → List Value → List Value → AH → Option Out) : Nat → Nat → List Value → List Value → AH → Option Out
  | 0, pc, ls, st, h => K pc ls st h
  | n + 1, pc, ls, st, h => stepK L xs (XM L xs) (exk L xs M K n) M pc ls st h
theorem X_un (L : Nat) (xs : Nat → Int32) (M : Nat) : ∀ (n pc : Nat) (ls st : List Value) (h : AH), X L xs M pc ls st h = exk L xs M (X L xs M) n pc ls st h := by
  intro n
  induction n with
  | zero => intro pc ls st h; rfl
  | succ n ih =>
    intro pc ls st h
    have e : exk L xs M (X L xs M) n = X L xs M := by
      funext a b c d
      exact (ih a b c d).symm
    show _ = stepK L xs (XM L xs) (exk L xs M (X L xs M) n) M pc ls st h
    rw [e]
    exact X_eq L xs M pc ls st h
