-- the class's settle of a TURNING tree: its loop
section Settle2
variable (L : Nat) (xs : Nat → Int32)
theorem st16 (h : AH) (P : PT) (Z : Nat → Int32) (t : Nat) (a b : Int32) : wI (cq (hs h t a b) P Z) 16 t (fI (cq (hs h t a b) P Z) 16 t + 1) = cq (hs h t (a + 1) b) P Z := by
  rw [cq_wI _ _ _ _ _ (by decide)]
  have e : fI (cq (hs h t a b) P Z) 16 t = a := by
    simp only [Hcq]
    exact (Hhs h t a b).1
  rw [e, hs_16]
theorem nI_20000c : (20000 : Int32) = nI 20000 := by decide +kernel
set_option maxHeartbeats 1000000 in
theorem c_172_loop {h : AH} {S : Nat → Nat} {B t n G0 : Nat} {M : List Nat} {a0 : Int32} (hB : B < 2 ^ 30) (hB2 : B ≤ 20002) (hn : S n ≠ 0) (ht : tg h t = 7) (t0 : t ≠ 0) (hT : ∀ a, S a ≠ 0 → tg h a = 4) (hM : M.Nodup) (hMS : ∀ x, x ∈ M ↔ S x = S n) :
    ∀ (f : Nat) (P : PT) (Z : Nat → Int32) (z : Nat → Nat) (s k : Nat) (l4 : Value), CI P Z S z B → B < z n + f → (P.2.2 n ≠ 0 → 2 * k ≤ z n) →
      ∃ Z' z', CI (tuF f P n s).1 Z' S z' B ∧ (tuF f P n s).1.2.2 n = 0 ∧ (∀ x, S x ≠ S n → z' x = z x ∧ Z' x = Z x) ∧
        X L xs 172 17 [.ref t, .ref n, .ref (P.2.2 n), .int (nI k), l4] [] (cq (hs h t (a0 + nI s) (nI (G0 + Gs M z))) P Z) = some (wR (cq (hs h t (a0 + nI (tuF f P n s).2) (nI (G0 + Gs M z'))) (tuF f P n s).1 Z') 13 t n, none) := by
  intro f
  induction f with
  | zero =>
    intro P Z z s k l4 hc hf hk
    have := hc.2.2 n hn
    omega
  | succ f ih =>
    intro P Z z s k l4 hc hf hk
    have n0 : n ≠ 0 := fun q => hn (by rw [q]; exact hc.1.1)
    have hW := hc.1
    have htag : ∀ a b x, tg (hs h t a b) x = tg h x := fun a b x => rfl
    unfold tuF
    by_cases u0 : P.2.2 n = 0
    · refine ⟨Z, z, ?_, ?_, fun _ _ => ⟨rfl, rfl⟩, ?_⟩
      · rw [if_pos u0]; exact hc
      · rw [if_pos u0]; exact u0
      · simp only [u0, if_true, k_172_17, k_172_24, k_172_128, Hcq, htag, ht, HF7, gd_t, k_172_133, ite_self]
    · rw [if_neg u0]
      have hup := hW.up_lt hn u0
      have hSp : S (P.2.2 n) ≠ 0 := by rw [hup.2]; exact hn
      have tn := hT n hn
      have tp := hT _ hSp
      have r1 := CI_rot hc hn u0
      obtain ⟨r4, r5⟩ := rot_up hW hn u0
      have rfr : ∀ x, S x ≠ S n → rz P z n x = z x := fun x hx => by
        unfold rz
        rw [if_neg (fun q => hx (by rw [q])), if_neg (fun q => hx (by rw [q]; exact hup.2))]
      have st := st16 h P Z t (a0 + nI s) (nI (G0 + Gs M z))
      rw [Int32.add_assoc, nI_1] at st
      have k1 : ¬ (20000 : Int32) ≤ nI k := by
        have z1 := hc.2.2 n hn
        have z2 := hk u0
        rw [nI_20000c]
        exact nI_ge (by omega) (by omega)
      simp only [k_172_17, k1, k_172_24, u0, if_false, k_172_28, Hcq, htag, tp, ht, HF4, HF7, gd_t]
      simp only [Hcq] at st
      rw [st]
      simp only [k_172_44]
      by_cases g0 : P.2.2 (P.2.2 n) = 0
      · rw [if_pos g0, if_pos g0]
        simp only [k_172_49, Hcq, htag, ht, ne_eq, t0, not_false_eq_true, decide_true, HQ, Bool.and_self, gd_t, cc_6_27_7, c_183' L xs h P Z hc hB hn u0 ht hT hM hMS, bV_s, k_172_117, tn, HF4, nI_1]
        obtain ⟨Z', z', i1, i2, i3, i4⟩ := ih (rot P n) _ (rz P z n) (s + 1) (k + 1) (.ref (P.2.2 (P.2.2 n))) r1 (by rw [r5]; omega) (fun q => absurd (r4.trans g0) q)
        exact ⟨Z', z', i1, i2, fun x hx => ⟨(i3 x hx).1.trans (rfr x hx), (i3 x hx).2.trans (by unfold u1; rw [if_neg (fun q => hx (by rw [q])), if_neg (fun q => hx (by rw [q]; exact hup.2))])⟩, i4⟩
      · rw [if_neg g0, if_neg g0]
        have hupg := hW.up_lt hSp g0
        have hSg : S (P.2.2 (P.2.2 n)) ≠ 0 := by rw [hupg.2]; exact hSp
        have tgg := hT _ hSg
        have e85 : ∀ H : AH, (∀ x, fR H 26 x = P.1 x) → (∀ x, tg H x = tg h x) → X L xs 172 58 [.ref t, .ref n, .ref (P.2.2 n), .int (nI k), .ref (P.2.2 (P.2.2 n))] [] H = if zz P n = true then X L xs 172 88 [.ref t, .ref n, .ref (P.2.2 n), .int (nI k), .ref (P.2.2 (P.2.2 n))] [] H else X L xs 172 104 [.ref t, .ref n, .ref (P.2.2 n), .int (nI k), .ref (P.2.2 (P.2.2 n))] [] H := by
          intro H h26 hHt
          simp only [k_172_58, hHt, tp, HF4, gd_t, h26]
          by_cases h1 : P.1 (P.2.2 n) = n
          · simp only [h1, not_true_eq_false, if_false, k_172_66, k_172_71, hHt, tgg, HF4, gd_t, h26]
            by_cases h2 : P.1 (P.2.2 (P.2.2 n)) = P.2.2 n
            · simp only [h2, not_true_eq_false, if_false, k_172_80, k_172_85, zz, h1, decide_true, beq_self_eq_true, if_true]
            · simp only [h2, not_false_eq_true, if_true, k_172_84, k_172_85, zz, h1, decide_true, decide_false]
              rfl
          · simp only [h1, not_false_eq_true, if_true, k_172_70, k_172_71, hHt, tgg, HF4, gd_t, h26]
            by_cases h2 : P.1 (P.2.2 (P.2.2 n)) = P.2.2 n
            · simp only [h2, not_true_eq_false, if_false, k_172_80, k_172_85, zz, h1, decide_true, decide_false]
              rfl
            · simp only [h2, not_false_eq_true, if_true, k_172_84, k_172_85, zz, h1, decide_false, beq_self_eq_true, not_true_eq_false, if_false]
        rw [e85 (cq (hs h t (a0 + nI (s + 1)) (nI (G0 + Gs M z))) P Z) (fun x => rfl) (fun x => rfl)]
        by_cases hz : zz P n = true
        · rw [if_pos hz, if_pos hz]
          obtain ⟨y1, y2, y3⟩ := zz_up hW hn u0 g0 hz
          have q1 := CI_rot hc hSp g0
          have hu1 : (rot P (P.2.2 n)).2.2 n ≠ 0 := by rw [y1]; exact u0
          have hMSp : ∀ x, x ∈ M ↔ S x = S (P.2.2 n) := fun x => by rw [hup.2]; exact hMS x
          have e2 := c_183' L xs h (rot P (P.2.2 n)) _ (G0 := G0) (a := a0 + nI (s + 1)) q1 hB hn hu1 ht hT hM hMS
          rw [y1] at e2
          simp only [k_172_88, Hcq, htag, ht, ne_eq, t0, not_false_eq_true, decide_true, HQ, Bool.and_self, gd_t, cc_6_27_7, c_183' L xs h P Z hc hB hSp g0 ht hT hM hMSp, bV_s]
          rw [e2]
          simp only [bV_s, k_172_117, Hcq, htag, tn, HF4, gd_t, nI_1]
          have q4 := CI_rot q1 hn hu1
          rw [y1] at q4
          obtain ⟨-, t5⟩ := rot_up q1.1 hn hu1
          have hfuel : B < rz (rot P (P.2.2 n)) (rz P z (P.2.2 n)) n n + f := by
            rw [t5, y1, y3]
            omega
          have hk2 : (rot (rot P (P.2.2 n)) n).2.2 n ≠ 0 → 2 * (k + 1) ≤ rz (rot P (P.2.2 n)) (rz P z (P.2.2 n)) n n := fun _ => by
            have z2 := hk u0
            have z3 := hup.1
            have z4 := hupg.1
            rw [t5, y1, y3]
            omega
          obtain ⟨Z', z', i1, i2, i3, i4⟩ := ih (rot (rot P (P.2.2 n)) n) _ _ (s + 1) (k + 1) (.ref (P.2.2 (P.2.2 n))) q4 hfuel hk2
          refine ⟨Z', z', i1, i2, fun x hx => ⟨(i3 x hx).1.trans ?_, (i3 x hx).2.trans (by unfold u1; rw [if_neg (fun q => hx (by rw [q])), if_neg (fun q => hx (by rw [q]; exact hup.2)), if_neg (fun q => hx (by rw [q]; exact hup.2)), if_neg (fun q => hx (by rw [q, hupg.2, hup.2]))])⟩, i4⟩
          have hpn : S ((rot P (P.2.2 n)).2.2 n) = S n := (q1.1.up_lt hn hu1).2
          unfold rz
          rw [if_neg (fun q => hx (by rw [q])), if_neg (fun q => hx (by rw [q]; exact hpn)), if_neg (fun q => hx (by rw [q]; exact hup.2)), if_neg (fun q => hx (by rw [q, hupg.2, hup.2]))]
        · rw [if_neg hz, if_neg hz]
          have hu1 : (rot P n).2.2 n ≠ 0 := by rw [r4]; exact g0
          have e2 := c_183' L xs h (rot P n) _ (G0 := G0) (a := a0 + nI (s + 1)) r1 hB hn hu1 ht hT hM hMS
          rw [r4] at e2
          simp only [k_172_104, Hcq, htag, ht, ne_eq, t0, not_false_eq_true, decide_true, HQ, Bool.and_self, gd_t, cc_6_27_7, c_183' L xs h P Z hc hB hn u0 ht hT hM hMS, bV_s]
          rw [e2]
          simp only [bV_s, k_172_117, Hcq, htag, tn, HF4, gd_t, nI_1]
          have q4 := CI_rot r1 hn hu1
          rw [r4] at q4
          obtain ⟨-, t5⟩ := rot_up r1.1 hn hu1
          have hfuel : B < rz (rot P n) (rz P z n) n n + f := by
            rw [t5, r4]
            have := (r1.1.up_lt hn hu1).1
            rw [r4, r5] at this
            omega
          have hk2 : (rot (rot P n) n).2.2 n ≠ 0 → 2 * (k + 1) ≤ rz (rot P n) (rz P z n) n n := fun _ => by
            have z2 := hk u0
            have z3 := hup.1
            rw [t5, r4]
            have := (r1.1.up_lt hn hu1).1
            rw [r4, r5] at this
            omega
          obtain ⟨Z', z', i1, i2, i3, i4⟩ := ih (rot (rot P n) n) _ _ (s + 1) (k + 1) (.ref (P.2.2 (P.2.2 n))) q4 hfuel hk2
          refine ⟨Z', z', i1, i2, fun x hx => ⟨(i3 x hx).1.trans ?_, (i3 x hx).2.trans (by unfold u1; rw [if_neg (fun q => hx (by rw [q])), if_neg (fun q => hx (by rw [q, hupg.2, hup.2])), if_neg (fun q => hx (by rw [q])), if_neg (fun q => hx (by rw [q]; exact hup.2))])⟩, i4⟩
          have hpn : S ((rot P n).2.2 n) = S n := (r1.1.up_lt hn hu1).2
          have := rfr x hx
          show rz (rot P n) (rz P z n) n x = z x
          rw [← this]
          show (if x = n then _ else if x = (rot P n).2.2 n then _ else rz P z n x) = _
          rw [if_neg (fun q => hx (by rw [q])), if_neg (fun q => hx (by rw [q]; exact hpn))]
end Settle2
