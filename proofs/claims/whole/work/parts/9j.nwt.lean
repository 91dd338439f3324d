-- newStructure's heap
theorem nwT_cl {b : AH} {d : DS} (hB : Bd b d) (c : CS) (k : Nat) : nwT (cl b d c) k = cl (nwT b k) d c := by
  have hy : Oud d (nn b + 1) := hB.out (by omega)
  have hy2 : Oud d (nn b + 2) := hB.out (by omega)
  have eS : ∀ t n, nwS (cl b d c) k t n = cl (nwS b k t n) d c := fun t n => by
    unfold nwS
    rw [mk_cl b c hy]
    exact wI_cl _ c hy 12 (nI k)
  unfold nwT
  by_cases k0 : k = 0
  · rw [if_pos k0, if_pos k0, eS]
  · rw [if_neg k0, if_neg k0]
    by_cases k1 : k = 1
    · rw [if_pos k1, if_pos k1, eS]
    · rw [if_neg k1, if_neg k1]
      by_cases k3 : k ≤ 3
      · rw [if_pos k3, if_pos k3, eS]
      · rw [if_neg k3, if_neg k3]
        unfold nwR
        rw [eS, mk_cl _ c (show Oud d (nn (nwS b k 6 6) + 1) from hy2)]
        exact wR_cl _ c hy 23 (nn b + 2)
theorem nwT_ml {b : AH} (h : 32 ≤ nn b) (m : MS) (k : Nat) : nwT (ml b m) k = ml (nwT b k) m := by
  have eS : ∀ t n, nwS (ml b m) k t n = ml (nwS b k t n) m := fun t n => by
    unfold nwS
    rw [mk_ml b m (by omega)]
    exact wI_ml _ m (by show 32 < nn b + 1; omega) 12 (nI k)
  unfold nwT
  by_cases k0 : k = 0
  · rw [if_pos k0, if_pos k0, eS]
  · rw [if_neg k0, if_neg k0]
    by_cases k1 : k = 1
    · rw [if_pos k1, if_pos k1, eS]
    · rw [if_neg k1, if_neg k1]
      by_cases k3 : k ≤ 3
      · rw [if_pos k3, if_pos k3, eS]
      · rw [if_neg k3, if_neg k3]
        unfold nwR
        rw [eS, mk_ml _ m (show 32 < nn (nwS b k 6 6) + 1 by show 32 < nn b + 1 + 1; omega)]
        rfl
/-- what the new one holds -/
def NwF (B H : AH) (k p : Nat) : Prop := (Ext B H ∧ nn B + 1 ≤ nn H ∧ nn H ≤ nn B + 2 ∧ sl H ≤ sl B + 20 ∧ tg H (nn B + 1) = tgS k) ∧ (fI H 12 (nn B + 1) = nI k ∧ fI H 14 (nn B + 1) = nI 0 ∧ fI H 15 (nn B + 1) = 0 ∧ fI H 16 (nn B + 1) = 0 ∧ fI H 17 (nn B + 1) = nI 0 ∧ fI H 20 (nn B + 1) = nI 0 ∧ fI H 21 (nn B + 1) = nI 0 ∧ fI H 22 (nn B + 1) = nI 0 ∧ fR H 13 (nn B + 1) = 0 ∧ fR H 18 (nn B + 1) = 0 ∧ fR H 19 (nn B + 1) = 0 ∧ fR H 23 (nn B + 1) = p) ∧ (4 ≤ k → ln H p = 4 ∧ tg H p = 21 ∧ nn B < p ∧ p ≤ nn H)
theorem nwS_f (B : AH) {k t n : Nat} (ht : tgS k = t) (hn : n ≤ 20) (hk : k ≤ 3) : NwF B (nwS B k t n) k 0 := by
  have hx : ∀ x, x ≤ nn B → ¬ x = nn B + 1 := fun x hx => by omega
  refine ⟨⟨⟨Nat.le_succ _, fun x h => ⟨if_neg (hx x h), if_neg (hx x h), fun i => if_neg (hx x h), fun f => if_neg (hx x h)⟩⟩, Nat.le_refl _, by show nn B + 1 ≤ nn B + 2; omega, by show sl B + n ≤ sl B + 20; omega, ?_⟩, ⟨?_, ?_, ?_, ?_, ?_, ?_, ?_, ?_, ?_, ?_, ?_, ?_⟩, fun h => by omega⟩
  · rw [ht]; exact if_pos rfl
  all_goals exact if_pos rfl
theorem nwR_f (B : AH) {k : Nat} (h4 : 4 ≤ k) : NwF B (nwR B k) k (nn B + 2) := by
  have hx : ∀ x, x ≤ nn B → ¬ x = nn B + 1 := fun x hx => by omega
  have hx2 : ∀ x, x ≤ nn B → ¬ x = nn B + 1 + 1 := fun x hx => by omega
  have n12 : ¬ nn B + 1 = nn B + 1 + 1 := by omega
  have et : tgS k = 6 := by unfold tgS; rw [if_neg (by omega), if_neg (by omega), if_neg (by omega)]
  refine ⟨⟨⟨by show nn B ≤ nn B + 1 + 1; omega, fun x h => ⟨?_, ?_, fun i => ?_, fun f => ?_⟩⟩, by show nn B + 1 ≤ nn B + 1 + 1; omega, by show nn B + 1 + 1 ≤ nn B + 2; omega, by show sl B + 6 + 4 ≤ sl B + 20; omega, ?_⟩, ⟨?_, ?_, ?_, ?_, ?_, ?_, ?_, ?_, ?_, ?_, ?_, ?_⟩, fun _ => ⟨if_pos rfl, if_pos rfl, by omega, by show nn B + 2 ≤ nn B + 1 + 1; omega⟩⟩
  · show (if x = nn B + 1 + 1 then 21 else (if x = nn B + 1 then 6 else tg B x)) = tg B x
    rw [if_neg (hx2 x h), if_neg (hx x h)]
  · show (if x = nn B + 1 + 1 then 4 else (if x = nn B + 1 then 0 else ln B x)) = ln B x
    rw [if_neg (hx2 x h), if_neg (hx x h)]
  · show (if x = nn B + 1 + 1 then 0 else (if x = nn B + 1 then 0 else eL B x i)) = eL B x i
    rw [if_neg (hx2 x h), if_neg (hx x h)]
  · show (if f = 23 then (if x = nn B + 1 then nn B + 2 else (if x = nn B + 1 + 1 then 0 else (if x = nn B + 1 then 0 else fR B f x))) else (if x = nn B + 1 + 1 then 0 else (if x = nn B + 1 then 0 else fR B f x))) = fR B f x
    rw [if_neg (hx2 x h), if_neg (hx x h), if_neg (hx x h), ite_self]
  · rw [et]
    show (if nn B + 1 = nn B + 1 + 1 then 21 else (if nn B + 1 = nn B + 1 then 6 else tg B (nn B + 1))) = 6
    rw [if_neg n12, if_pos rfl]
  all_goals first | exact (if_neg n12).trans (if_pos rfl) | exact if_pos rfl
theorem nwT_f (B : AH) {k : Nat} (hk : k ≤ 5) : ∃ p, NwF B (nwT B k) k p := by
  unfold nwT
  by_cases k0 : k = 0
  · rw [if_pos k0]; exact ⟨0, nwS_f B (by rw [k0]; rfl) (by omega) (by omega)⟩
  · rw [if_neg k0]
    by_cases k1 : k = 1
    · rw [if_pos k1]; exact ⟨0, nwS_f B (by rw [k1]; rfl) (by omega) (by omega)⟩
    · rw [if_neg k1]
      by_cases k3 : k ≤ 3
      · rw [if_pos k3]; exact ⟨0, nwS_f B (by unfold tgS; rw [if_neg k0, if_neg k1, if_pos k3]) (by omega) k3⟩
      · rw [if_neg k3]; exact ⟨_, nwR_f B (by omega)⟩
