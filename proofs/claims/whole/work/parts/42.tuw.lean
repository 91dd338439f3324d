-- turning up, as a whole
theorem rot_fr {P : PT} {S z : Nat → Nat} (h : WF P S z) {n : Nat} (hn : S n ≠ 0) (hu : P.2.2 n ≠ 0) {x : Nat} (hx : S x ≠ S n) : (rot P n).1 x = P.1 x ∧ (rot P n).2.1 x = P.2.1 x ∧ (rot P n).2.2 x = P.2.2 x ∧ rz P z n x = z x := by
  obtain ⟨d1, d2, d3, -⟩ := rot_dist h hn hu
  obtain ⟨w1, w2, w3, w4, w5⟩ := h.2.2 n hn
  have hp := (w3 hu).2
  have hpS : S (P.2.2 n) ≠ 0 := by rw [hp]; exact hn
  obtain ⟨v1, v2, v3, -⟩ := h.2.2 _ hpS
  have x1 : x ≠ n := fun e => hx (by rw [e])
  have x2 : x ≠ P.2.2 n := fun e => hx (by rw [e]; exact hp)
  have x3 : ¬ (x = P.2.2 (P.2.2 n) ∧ P.2.2 (P.2.2 n) ≠ 0) := fun e => hx (by rw [e.1, (v3 e.2).2]; exact hp)
  have x4 : ¬ (x = P.2.1 n ∧ P.2.1 n ≠ 0) := fun e => hx (by rw [e.1, (w2 e.2).2])
  have x5 : ¬ (x = P.1 n ∧ P.1 n ≠ 0) := fun e => hx (by rw [e.1, (w1 e.2).2])
  have hz : rz P z n x = z x := by unfold rz; rw [if_neg x1, if_neg x2]
  by_cases h1 : P.1 (P.2.2 n) = n
  · obtain ⟨a1, a2, a3⟩ := rot_A h1 hu d1 d2 d3
    rw [a1, a2, a3, if_neg x2, if_neg (fun e => x3 ⟨e.1, e.2.1⟩), if_neg x1, if_neg (fun e => x3 ⟨e.1, e.2.1⟩), if_neg x1, if_neg x2, if_neg x4]
    exact ⟨rfl, rfl, rfl, hz⟩
  · obtain ⟨a1, a2, a3⟩ := rot_B h1 hu d1 d2 d3
    rw [a1, a2, a3, if_neg x1, if_neg (fun e => x3 ⟨e.1, e.2.1⟩), if_neg x2, if_neg (fun e => x3 ⟨e.1, e.2.1⟩), if_neg x1, if_neg x2, if_neg x5]
    exact ⟨rfl, rfl, rfl, hz⟩
def Fr (P P' : PT) (S : Nat → Nat) (c : Nat) : Prop := ∀ x, S x ≠ c → P'.1 x = P.1 x ∧ P'.2.1 x = P.2.1 x ∧ P'.2.2 x = P.2.2 x
theorem Fr.tr {P P' P'' : PT} {S : Nat → Nat} {c : Nat} (h1 : Fr P P' S c) (h2 : Fr P' P'' S c) : Fr P P'' S c := fun x hx => by
  obtain ⟨a1, a2, a3⟩ := h1 x hx
  obtain ⟨b1, b2, b3⟩ := h2 x hx
  exact ⟨b1.trans a1, b2.trans a2, b3.trans a3⟩
theorem rot_Fr {P : PT} {S z : Nat → Nat} (h : WF P S z) {n : Nat} (hn : S n ≠ 0) (hu : P.2.2 n ≠ 0) : Fr P (rot P n) S (S n) := fun x hx => by
  obtain ⟨a1, a2, a3, -⟩ := rot_fr h hn hu hx
  exact ⟨a1, a2, a3⟩
/-- one round of turning up: what it does -/
def tu1 (P : PT) (n : Nat) : PT := if P.2.2 (P.2.2 n) = 0 then rot P n else if zz P n = true then rot (rot P (P.2.2 n)) n else rot (rot P n) n
theorem tuF_S (f : Nat) (P : PT) (n s : Nat) (hu : P.2.2 n ≠ 0) : tuF (f + 1) P n s = tuF f (tu1 P n) n (s + 1) := by
  unfold tu1
  show (if P.2.2 n = 0 then (P, s) else _) = _
  rw [if_neg hu]
  by_cases g0 : P.2.2 (P.2.2 n) = 0
  · rw [if_pos g0, if_pos g0]
  · rw [if_neg g0, if_neg g0]
    by_cases q : zz P n = true
    · rw [if_pos q, if_pos q]
    · rw [if_neg q, if_neg q]
theorem tu1_ok {P : PT} {S z : Nat → Nat} {B n : Nat} (h : WF P S z) (hB : ∀ x, S x ≠ 0 → z x ≤ B) (hn : S n ≠ 0) (hu : P.2.2 n ≠ 0) : ∃ z', WF (tu1 P n) S z' ∧ (∀ x, S x ≠ 0 → z' x ≤ B) ∧ (∀ x, S x ≠ S n → z' x = z x) ∧ z n < z' n ∧ Fr P (tu1 P n) S (S n) := by
  have r1 := rot_wf h hn hu
  have r2 := rz_le h hB hn hu
  obtain ⟨r4, r5⟩ := rot_up h hn hu
  have hup := h.up_lt hn hu
  have hp : S (P.2.2 n) ≠ 0 := by rw [hup.2]; exact hn
  have fr := rot_Fr h hn hu
  have fz : ∀ x, S x ≠ S n → rz P z n x = z x := fun x hx => (rot_fr h hn hu hx).2.2.2
  unfold tu1
  by_cases g0 : P.2.2 (P.2.2 n) = 0
  · rw [if_pos g0]
    exact ⟨rz P z n, r1, r2, fz, by rw [r5]; exact hup.1, fr⟩
  · rw [if_neg g0]
    have hupg := h.up_lt hp g0
    by_cases q : zz P n = true
    · rw [if_pos q]
      obtain ⟨e1, e2, e3⟩ := zz_up h hn hu g0 q
      have q1 := rot_wf h hp g0
      have q2 := rz_le h hB hp g0
      have u0 : (rot P (P.2.2 n)).2.2 n ≠ 0 := by rw [e1]; exact hu
      have fr1 := rot_Fr h hp g0
      rw [hup.2] at fr1
      have fz1 : ∀ x, S x ≠ S n → rz P z (P.2.2 n) x = z x := fun x hx => (rot_fr h hp g0 (by rw [hup.2]; exact hx)).2.2.2
      obtain ⟨e4, e5⟩ := rot_up q1 hn u0
      refine ⟨_, rot_wf q1 hn u0, rz_le q1 q2 hn u0, fun x hx => ?_, ?_, fr1.tr (rot_Fr q1 hn u0)⟩
      · rw [(rot_fr q1 hn u0 hx).2.2.2, fz1 x hx]
      · rw [e5, e1, e3]; omega
    · rw [if_neg q]
      have u0 : (rot P n).2.2 n ≠ 0 := by rw [r4]; exact g0
      obtain ⟨e4, e5⟩ := rot_up r1 hn u0
      have := r1.up_lt hn u0
      refine ⟨_, rot_wf r1 hn u0, rz_le r1 r2 hn u0, fun x hx => ?_, ?_, fr.tr (rot_Fr r1 hn u0)⟩
      · rw [(rot_fr r1 hn u0 hx).2.2.2, fz x hx]
      · rw [e5]; have := this.1; rw [r5] at this; omega
theorem tuF_ok {S : Nat → Nat} {B n : Nat} (hn : S n ≠ 0) : ∀ (f : Nat) (P : PT) (s : Nat) (z : Nat → Nat), WF P S z → (∀ x, S x ≠ 0 → z x ≤ B) → B < z n + f →
    ∃ z', WF (tuF f P n s).1 S z' ∧ (∀ x, S x ≠ 0 → z' x ≤ B) ∧ (∀ x, S x ≠ S n → z' x = z x) ∧ Fr P (tuF f P n s).1 S (S n) ∧ (tuF f P n s).1.2.2 n = 0 ∧ (tuF f P n s).2 ≤ s + f := by
  intro f
  induction f with
  | zero => intro P s z h hB hf; have := hB n hn; omega
  | succ f ih =>
    intro P s z h hB hf
    by_cases u0 : P.2.2 n = 0
    · have e : tuF (f + 1) P n s = (P, s) := by
        show (if P.2.2 n = 0 then (P, s) else _) = _
        rw [if_pos u0]
      rw [e]
      exact ⟨z, h, hB, fun _ _ => rfl, fun _ _ => ⟨rfl, rfl, rfl⟩, u0, by show s ≤ s + (f + 1); omega⟩
    · rw [tuF_S f P n s u0]
      obtain ⟨z1, a1, a2, a3, a4, a5⟩ := tu1_ok h hB hn u0
      obtain ⟨z2, b1, b2, b3, b4, b5, b6⟩ := ih (tu1 P n) (s + 1) z1 a1 a2 (by omega)
      exact ⟨z2, b1, b2, fun x hx => (b3 x hx).trans (a3 x hx), a5.tr b4, b5, by omega⟩
theorem BP_tuF {n : Nat} (hn : n ≤ 20002) : ∀ (f : Nat) (P : PT) (s : Nat), BP P → BP (tuF f P n s).1 := by
  intro f
  induction f with
  | zero => intro P s h; exact h
  | succ f ih =>
    intro P s h
    by_cases u0 : P.2.2 n = 0
    · have e : tuF (f + 1) P n s = (P, s) := by
        show (if P.2.2 n = 0 then (P, s) else _) = _
        rw [if_pos u0]
      rw [e]; exact h
    · rw [tuF_S f P n s u0]
      refine ih _ _ ?_
      unfold tu1
      by_cases g0 : P.2.2 (P.2.2 n) = 0
      · rw [if_pos g0]; exact BP_rot h hn
      · rw [if_neg g0]
        by_cases q : zz P n = true
        · rw [if_pos q]; exact BP_rot (BP_rot h (h n).2.2) hn
        · rw [if_neg q]; exact BP_rot (BP_rot h hn) hn
theorem Iso.tu1 {ph : Nat → Nat} {Pc Pm : PT} {S T z : Nat → Nat} (h : Iso ph Pc Pm S T) (hT0 : T 0 = 0) (hw : WF Pc S z) {n : Nat} (hn : T n ≠ 0) (hu : Pm.2.2 n ≠ 0) : Iso ph (_root_.Jvm.Pilot.CStepPurseLaw_law_r8377_2c7bf5.tu1 Pc (ph n)) (_root_.Jvm.Pilot.CStepPurseLaw_law_r8377_2c7bf5.tu1 Pm n) S T := by
  have hwm := h.wf hT0 hw
  obtain ⟨i1, i2, i3, i4, i5, j1, j2, j3⟩ := h.2.1 n hn
  have hp : T (Pm.2.2 n) ≠ 0 := by rcases j3 with e | e; exact absurd e hu; exact e
  obtain ⟨p1, p2, p3, p4, p5, q1, q2, q3⟩ := h.2.1 _ hp
  have hSn : S (ph n) ≠ 0 := by rw [i2]; exact hn
  have huc : Pc.2.2 (ph n) ≠ 0 := by rw [i5]; exact p1
  have r1 := h.rot hT0 hw hn hu
  have rw1 := rot_wf hw hSn huc
  unfold _root_.Jvm.Pilot.CStepPurseLaw_law_r8377_2c7bf5.tu1
  have hg : Pc.2.2 (Pc.2.2 (ph n)) = 0 ↔ Pm.2.2 (Pm.2.2 n) = 0 := by rw [i5, p5]; exact h.z0 q3
  by_cases g0 : Pm.2.2 (Pm.2.2 n) = 0
  · rw [if_pos g0, if_pos (hg.mpr g0)]; exact r1
  · rw [if_neg g0, if_neg (fun e => g0 (hg.mp e))]
    have hgT : T (Pm.2.2 (Pm.2.2 n)) ≠ 0 := by rcases q3 with e | e; exact absurd e g0; exact e
    obtain ⟨g1, g2, g3, g4, g5, o1, o2, o3⟩ := h.2.1 _ hgT
    have hzz : zz Pc (ph n) = zz Pm n := by
      unfold zz
      rw [i5, p3, p5, g3]
      have e1 := h.inj q1 (Or.inr hn : LZ T n)
      have e2 := h.inj o1 (Or.inr hp : LZ T (Pm.2.2 n))
      simp only [e1, e2]
    rw [hzz]
    by_cases q : zz Pm n = true
    · rw [if_pos q, if_pos q, i5]
      have r2 := h.rot hT0 hw hp g0
      have hSp : S (ph (Pm.2.2 n)) ≠ 0 := by rw [p2]; exact hp
      have huc2 : Pc.2.2 (ph (Pm.2.2 n)) ≠ 0 := by rw [p5]; exact g1
      refine r2.rot hT0 (rot_wf hw hSp huc2) hn ?_
      rw [(zz_up hwm hn hu g0 q).1]; exact hu
    · rw [if_neg q, if_neg q]
      refine r1.rot hT0 rw1 hn ?_
      rw [(rot_up hwm hn hu).1]; exact g0
theorem Iso.tuF {ph : Nat → Nat} {S T : Nat → Nat} {B n : Nat} (hT0 : T 0 = 0) (hn : T n ≠ 0) : ∀ (f : Nat) (Pc Pm : PT) (s : Nat) (z : Nat → Nat), Iso ph Pc Pm S T → WF Pc S z → (∀ x, S x ≠ 0 → z x ≤ B) →
    (_root_.Jvm.Pilot.CStepPurseLaw_law_r8377_2c7bf5.tuF f Pc (ph n) s).2 = (_root_.Jvm.Pilot.CStepPurseLaw_law_r8377_2c7bf5.tuF f Pm n s).2 ∧ Iso ph (_root_.Jvm.Pilot.CStepPurseLaw_law_r8377_2c7bf5.tuF f Pc (ph n) s).1 (_root_.Jvm.Pilot.CStepPurseLaw_law_r8377_2c7bf5.tuF f Pm n s).1 S T := by
  intro f
  induction f with
  | zero => intro Pc Pm s z h _ _; exact ⟨rfl, h⟩
  | succ f ih =>
    intro Pc Pm s z h hw hB
    obtain ⟨i1, i2, i3, i4, i5, j1, j2, j3⟩ := h.2.1 n hn
    have hSn : S (ph n) ≠ 0 := by rw [i2]; exact hn
    by_cases u0 : Pm.2.2 n = 0
    · have u0c : Pc.2.2 (ph n) = 0 := by rw [i5, u0]; exact h.1
      have e : _root_.Jvm.Pilot.CStepPurseLaw_law_r8377_2c7bf5.tuF (f + 1) Pm n s = (Pm, s) := by
        show (if Pm.2.2 n = 0 then (Pm, s) else _) = _
        rw [if_pos u0]
      have e2 : _root_.Jvm.Pilot.CStepPurseLaw_law_r8377_2c7bf5.tuF (f + 1) Pc (ph n) s = (Pc, s) := by
        show (if Pc.2.2 (ph n) = 0 then (Pc, s) else _) = _
        rw [if_pos u0c]
      rw [e, e2]
      exact ⟨rfl, h⟩
    · have u0c : Pc.2.2 (ph n) ≠ 0 := by rw [i5]; exact fun e => u0 ((h.z0 j3).mp e)
      rw [tuF_S f Pm n s u0, tuF_S f Pc (ph n) s u0c]
      obtain ⟨z1, a1, a2, -⟩ := tu1_ok hw hB hSn u0c
      exact ih _ _ (s + 1) z1 (h.tu1 hT0 hw hn u0) a1 a2
