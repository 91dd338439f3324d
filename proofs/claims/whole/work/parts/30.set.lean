-- the class's settle of a TURNING tree
def hs (h : AH) (t : Nat) (a b : Int32) : AH := wI (wI h 16 t a) 21 t b
theorem wI_sw (h : AH) {f g : Nat} (hfg : f ≠ g) (t : Nat) (a b : Int32) : wI (wI h f t a) g t b = wI (wI h g t b) f t a := by
  have e : u2 (u2 h.1.1 f t a) g t b = u2 (u2 h.1.1 g t b) f t a := by
    funext k x
    unfold u2
    by_cases h1 : k = g
    · subst h1; simp only [if_true, Ne.symm hfg, if_false]
    · simp only [h1, if_false]
  show ((u2 (u2 h.1.1 f t a) g t b, h.1.2.1, h.1.2.2), h.2) = ((u2 (u2 h.1.1 g t b) f t a, h.1.2.1, h.1.2.2), h.2)
  rw [e]
theorem hs_16 (h : AH) (t : Nat) (a b c : Int32) : wI (hs h t a b) 16 t c = hs h t c b := by
  unfold hs
  rw [wI_sw _ (by decide), wI_wI]
theorem hs_21 (h : AH) (t : Nat) (a b c : Int32) : wI (hs h t a b) 21 t c = hs h t a c := by
  unfold hs
  rw [wI_wI]
theorem Hhs (h : AH) (t : Nat) (a b : Int32) : (fI (hs h t a b) 16 t = a) ∧ (fI (hs h t a b) 21 t = b) ∧ (∀ x, tg (hs h t a b) x = tg h x) ∧ (∀ f x, fR (hs h t a b) f x = fR h f x) ∧ (∀ f x, fL (hs h t a b) f x = fL h f x) ∧ (nn (hs h t a b) = nn h) ∧ (sl (hs h t a b) = sl h) := by
  refine ⟨?_, ?_, fun _ => rfl, fun _ _ => rfl, fun _ _ => rfl, rfl, rfl⟩
  · unfold hs; simp only [HwI]; rfl
  · unfold hs; simp only [HwI, if_true]
def Gs (M : List Nat) (z : Nat → Nat) : Nat := (M.map (fun a => Nat.log2 (z a))).sum
theorem sum_upd (f : Nat → Nat) : ∀ (M : List Nat), M.Nodup → ∀ (a v : Nat), a ∈ M → (M.map (u1 f a v)).sum + f a = (M.map f).sum + v
  | [], _, a, v, h => by cases h
  | b :: M, hM, a, v, h => by
    have hM2 := List.nodup_cons.mp hM
    simp only [List.map_cons, List.sum_cons]
    by_cases e : a = b
    · subst e
      have e2 : M.map (u1 f a v) = M.map f := by
        apply List.map_congr_left
        intro x hx
        unfold u1
        rw [if_neg]
        intro q
        subst q
        exact hM2.1 hx
      rw [e2]
      unfold u1
      rw [if_pos rfl]
      omega
    · have hin : a ∈ M := by
        rcases List.mem_cons.mp h with q | q
        · exact absurd q e
        · exact q
      have ih := sum_upd f M hM2.2 a v hin
      have e3 : u1 f a v b = f b := by unfold u1; rw [if_neg (Ne.symm e)]
      rw [e3]
      omega
theorem Gs_rz {P : PT} {z : Nat → Nat} {n : Nat} {M : List Nat} (hM : M.Nodup) (hn : n ∈ M) (hp : P.2.2 n ∈ M) (d1 : P.2.2 n ≠ n) : Gs M (rz P z n) + Nat.log2 (z n) = Gs M z + Nat.log2 (rz P z n (P.2.2 n)) := by
  have e1 : (fun a => Nat.log2 (rz P z n a)) = u1 (u1 (fun a => Nat.log2 (z a)) (P.2.2 n) (Nat.log2 (rz P z n (P.2.2 n)))) n (Nat.log2 (z (P.2.2 n))) := by
    funext x
    unfold u1
    by_cases x1 : x = n
    · rw [if_pos x1]; unfold rz; rw [if_pos x1]
    · rw [if_neg x1]
      by_cases x2 : x = P.2.2 n
      · rw [if_pos x2, x2]
      · rw [if_neg x2]; unfold rz; rw [if_neg x1, if_neg x2]
  unfold Gs
  rw [e1]
  have s1 := sum_upd (u1 (fun a => Nat.log2 (z a)) (P.2.2 n) (Nat.log2 (rz P z n (P.2.2 n)))) M hM n (Nat.log2 (z (P.2.2 n))) hn
  have s2 := sum_upd (fun a => Nat.log2 (z a)) M hM (P.2.2 n) (Nat.log2 (rz P z n (P.2.2 n))) hp
  have e2 : u1 (fun a => Nat.log2 (z a)) (P.2.2 n) (Nat.log2 (rz P z n (P.2.2 n))) n = Nat.log2 (z n) := by unfold u1; rw [if_neg (Ne.symm d1)]
  rw [e2] at s1
  omega
section Settle
variable (L : Nat) (xs : Nat → Int32)
/-- a turn in the class: all that it keeps -/
def CI (P : PT) (Z : Nat → Int32) (S z : Nat → Nat) (B : Nat) : Prop := WF P S z ∧ (∀ a, S a ≠ 0 → Z a = nI (z a)) ∧ (∀ a, S a ≠ 0 → z a ≤ B)
theorem CI_rot {P : PT} {Z : Nat → Int32} {S z : Nat → Nat} {B n : Nat} (h : CI P Z S z B) (hn : S n ≠ 0) (hu : P.2.2 n ≠ 0) : CI (rot P n) (u1 (u1 Z (P.2.2 n) (nI (rz P z n (P.2.2 n)))) n (nI (z (P.2.2 n)))) S (rz P z n) B := by
  obtain ⟨h1, h2, h3⟩ := h
  refine ⟨rot_wf h1 hn hu, fun a ha => ?_, rz_le h1 h3 hn hu⟩
  unfold u1
  by_cases a1 : a = n
  · rw [if_pos a1]; unfold rz; rw [if_pos a1]
  · rw [if_neg a1]
    by_cases a2 : a = P.2.2 n
    · rw [if_pos a2, a2]
    · rw [if_neg a2, h2 a ha]; unfold rz; rw [if_neg a1, if_neg a2]
theorem c_183' (h : AH) (P : PT) (Z : Nat → Int32) {S z : Nat → Nat} {B t n G0 : Nat} {a : Int32} {M : List Nat} (hc : CI P Z S z B) (hB : B < 2 ^ 30) (hn : S n ≠ 0) (hu : P.2.2 n ≠ 0) (ht : tg h t = 7) (hT : ∀ a, S a ≠ 0 → tg h a = 4) (hM : M.Nodup) (hMS : ∀ x, x ∈ M ↔ S x = S n) :
    XM L xs 183 [.ref t, .ref n, .ref (P.2.2 n)] (cq (hs h t a (nI (G0 + Gs M z))) P Z) = some (cq (hs h t a (nI (G0 + Gs M (rz P z n)))) (rot P n) (u1 (u1 Z (P.2.2 n) (nI (rz P z n (P.2.2 n)))) n (nI (z (P.2.2 n)))), none) := by
  obtain ⟨h1, h2, h3⟩ := hc
  obtain ⟨d1, -⟩ := rot_dist h1 hn hu
  have hpS := (h1.up_lt hn hu).2
  rw [c_183 L xs (hs h t a (nI (G0 + Gs M z))) P Z h1 hn hu (by rw [(Hhs h t a _).2.2.1]; exact ht) (fun x hx => by rw [(Hhs h t a _).2.2.1]; exact hT x hx) h2 (fun x hx => Nat.lt_of_le_of_lt (h3 x hx) hB), (Hhs h t a _).2.1, hs_21]
  have hg := Gs_rz (z := z) (P := P) hM ((hMS n).mpr rfl) ((hMS _).mpr hpS) d1
  have e : nI (G0 + Gs M z) + (nI (Nat.log2 (rz P z n (P.2.2 n))) - nI (Nat.log2 (z n))) = nI (G0 + Gs M (rz P z n)) := by
    have e1 : nI (G0 + Gs M (rz P z n)) + nI (Nat.log2 (z n)) = nI (G0 + Gs M z) + nI (Nat.log2 (rz P z n (P.2.2 n))) := by rw [nI_add, nI_add, Nat.add_assoc, hg, Nat.add_assoc]
    have e2 : nI (G0 + Gs M (rz P z n)) = nI (G0 + Gs M z) + nI (Nat.log2 (rz P z n (P.2.2 n))) - nI (Nat.log2 (z n)) := by rw [← e1, Int32.add_sub_cancel]
    rw [e2, Int32.sub_eq_add_neg, Int32.sub_eq_add_neg, Int32.add_assoc]
  rw [e]
end Settle
