-- two trees become one: pictures on both sides
theorem tuF_two {P Q : PT} {S z : Nat → Nat} {κ e : Nat} (κ0 : κ ≠ 0) (hW : WF P S z) (hT : TN S) (one : ∀ x, S x ≠ 0 → S x = κ) (he : S e ≠ 0) (ag : ∀ a, S a ≠ 0 → Q.1 a = P.1 a ∧ Q.2.1 a = P.2.1 a ∧ Q.2.2 a = P.2.2 a) (sp : Nat) :
    (tuF 20003 Q e sp).2 = sp + (tuF 20003 P e 0).2 ∧ (tuF 20003 P e 0).2 ≤ 20003 ∧ (∀ a, S a ≠ 0 → (tuF 20003 Q e sp).1.1 a = (tuF 20003 P e 0).1.1 a ∧ (tuF 20003 Q e sp).1.2.1 a = (tuF 20003 P e 0).1.2.1 a ∧ (tuF 20003 Q e sp).1.2.2 a = (tuF 20003 P e 0).1.2.2 a) ∧ (∀ a, S a = 0 → (tuF 20003 Q e sp).1.1 a = Q.1 a ∧ (tuF 20003 Q e sp).1.2.1 a = Q.2.1 a ∧ (tuF 20003 Q e sp).1.2.2 a = Q.2.2 a) ∧ (∀ a, S a = 0 → (tuF 20003 P e 0).1.1 a = P.1 a ∧ (tuF 20003 P e 0).1.2.1 a = P.2.1 a ∧ (tuF 20003 P e 0).1.2.2 a = P.2.2 a) ∧ (tuF 20003 P e 0).1.2.2 e = 0 ∧ WF (tuF 20003 P e 0).1 S (zf (tuF 20003 P e 0).1) := by
  have hB : ∀ x, S x ≠ 0 → z x ≤ 20002 := fun x hx => hW.z_le hT.2 (Or.inr hx)
  have hQ : WF Q S z := hW.pt ag
  obtain ⟨zc, c1, c2, c3, c4, c5, c6⟩ := tuF_ok (B := 20002) he 20003 P 0 z hW hB (by omega)
  obtain ⟨zm, m1, m2, m3, m4, m5, m6⟩ := tuF_ok (B := 20002) he 20003 Q sp z hQ hB (by omega)
  have hiso : Iso (fun a => a) P Q S S := by
    refine ⟨rfl, fun a ha => ?_, fun a b _ _ e => e⟩
    obtain ⟨g1, g2, g3⟩ := ag a ha
    exact ⟨hW.n0 ha, rfl, g1.symm, g2.symm, g3.symm, hQ.lzl ha, hQ.lzr ha, hQ.lzu ha⟩
  obtain ⟨i1, i2⟩ := Iso.tuF (B := 20002) hT.1 he 20003 P Q 0 z hiso hW hB
  have eQ := tuF_sp 20003 Q e sp
  refine ⟨by rw [eQ.2, ← i1], by omega, fun a ha => ?_, fun a ha => m4 a (by rw [ha, one e he]; exact Ne.symm κ0), fun a ha => c4 a (by rw [ha, one e he]; exact Ne.symm κ0), c5, c1.zf hT.2⟩
  obtain ⟨-, -, g1, g2, g3, -⟩ := i2.2.1 a ha
  rw [eQ.1]
  exact ⟨g1.symm, g2.symm, g3.symm⟩
theorem lR_le {P : PT} : ∀ (f n : Nat), (lR P f n).2 ≤ f := by
  intro f
  induction f with
  | zero => intro n; exact Nat.le_refl _
  | succ f ih =>
    intro n
    show (if P.2.1 n = 0 then (n, 0) else ((lR P f (P.2.1 n)).1, (lR P f (P.2.1 n)).2 + 1)).2 ≤ f + 1
    by_cases g : P.2.1 n = 0
    · rw [if_pos g]; exact Nat.zero_le _
    · rw [if_neg g]
      have := ih (P.2.1 n)
      show (lR P f (P.2.1 n)).2 + 1 ≤ f + 1
      omega
/-- a tree's part gets another label -/
theorem split_lab {P : PT} {T z : Nat → Nat} (hW : WF P T z) (hT : TN T) {κ κ2 a r : Nat} (κ0 : κ ≠ 0) (k20 : κ2 ≠ 0) (no : ∀ x, T x ≠ κ2) (hr : r ≠ 0 → T r = κ ∧ P.2.2 r = 0) (ha : a ≠ 0 → T a = κ ∧ P.2.2 a = 0 ∧ a ≠ r) :
    ∃ T2, WF P T2 z ∧ TN T2 ∧ (a ≠ 0 → T2 a = κ) ∧ (r ≠ 0 → T2 r = κ2) ∧ (r = 0 → ∀ x, T2 x ≠ κ2) ∧ (∀ x, (if T2 x = κ2 then κ else T2 x) = T x) ∧ (∀ x, T x ≠ κ → T2 x = T x) := by
  by_cases r0 : r = 0
  · exact ⟨T, hW, hT, fun h => (ha h).1, fun h => absurd r0 h, fun _ => no, fun x => if_neg (no x), fun x _ => rfl⟩
  · obtain ⟨r1, r2⟩ := hr r0
    have tr : T r ≠ 0 := by rw [r1]; exact κ0
    have zr := hW.z_le hT.2 (Or.inr tr)
    have mem : ∀ x, sub P r x = true → T x = κ ∧ ∃ k, upI P k x = r := fun x hx => by
      obtain ⟨-, q2, q3⟩ := pd_up hW 20003 r 0 (Or.inr tr) (by omega) x (of_decide_eq_true hx)
      exact ⟨q2.trans r1, q3⟩
    have ws := WS.rel (c := κ2) hW.ws (sub_cl hW hT tr r2)
    have e0 : ∀ x, (if T x ≠ 0 ∧ sub P r x = true then κ2 else T x) ≠ 0 → T x ≠ 0 := fun x hx g => by
      rw [if_neg (fun q => q.1 g)] at hx
      exact hx g
    refine ⟨fun x => if T x ≠ 0 ∧ sub P r x = true then κ2 else T x, ⟨ws.1, hW.2.1, fun x hx => ?_⟩, ⟨ws.1, fun x hx => hT.2 x (e0 x hx)⟩, fun a0 => ?_, fun _ => ?_, fun g => absurd g r0, fun x => ?_, fun x hx => ?_⟩
    · obtain ⟨w1, w2, w3, w4⟩ := ws.2 x hx
      exact ⟨w1, w2, w3, w4, (hW.2.2 x (e0 x hx)).2.2.2.2⟩
    · obtain ⟨a1, a2, a3⟩ := ha a0
      show (if T a ≠ 0 ∧ sub P r a = true then κ2 else T a) = κ
      rw [if_neg (fun q => ?_), a1]
      obtain ⟨k, hk⟩ := (mem a q.2).2
      cases k with
      | zero => exact a3 hk
      | succ k =>
        rw [upI_N P k a a2] at hk
        exact r0 hk.symm
    · show (if T r ≠ 0 ∧ sub P r r = true then κ2 else T r) = κ2
      rw [if_pos ⟨tr, decide_eq_true (pd_of_up hW tr (by omega) 0 r tr rfl)⟩]
    · show (if (if T x ≠ 0 ∧ sub P r x = true then κ2 else T x) = κ2 then κ else (if T x ≠ 0 ∧ sub P r x = true then κ2 else T x)) = T x
      by_cases g : T x ≠ 0 ∧ sub P r x = true
      · rw [if_pos g, if_pos rfl]
        exact (mem x g.2).1.symm
      · rw [if_neg g, if_neg (no x)]
    · show (if T x ≠ 0 ∧ sub P r x = true then κ2 else T x) = T x
      exact if_neg (fun q => hx (mem x q.2).1)
theorem str_c (P : PT) (p c x : Nat) : (str P p c).1 x = P.1 x ∧ (x ≠ p → (str P p c).2.1 x = P.2.1 x) ∧ (str P p c).2.1 p = c ∧ (x ≠ c → (str P p c).2.2 x = P.2.2 x) ∧ (c ≠ 0 → (str P p c).2.2 c = p) := by
  unfold str
  refine ⟨rfl, fun g => u1_o _ _ g, u1_s _ _ _, fun g => ?_, fun g => ?_⟩
  · show (if c = 0 then P.2.2 else u1 P.2.2 c p) x = _
    split
    · rfl
    · exact u1_o _ _ g
  · show (if c = 0 then P.2.2 else u1 P.2.2 c p) c = _
    rw [if_neg g]
    exact u1_s _ _ _
theorem str_0 (P : PT) {p x : Nat} (x0 : P.2.1 p = 0) : (str P p 0).2.2 x = P.2.2 x ∧ str P p 0 = P := by
  have : str P p 0 = P := by
    unfold str
    rw [if_pos rfl, ← x0, u1_id]
  exact ⟨by rw [this], this⟩
set_option maxHeartbeats 4000000 in
theorem JN {Pd Pc Pm : PT} {T z : Nat → Nat} (hD : WF Pd T z) (hT : TN T) {κ κ2 a r : Nat} (κ0 : κ ≠ 0) (k20 : κ2 ≠ 0) (ne : κ ≠ κ2) (ha : T a = κ) (hau : Pd.2.2 a = 0) (hr : r ≠ 0 → T r = κ2 ∧ Pd.2.2 r = 0) (hr0 : r = 0 → ∀ x, T x ≠ κ2)
    (ac : ∀ b, T b = κ → Pc.1 b = Pd.1 b ∧ Pc.2.1 b = Pd.2.1 b ∧ Pc.2.2 b = Pd.2.2 b)
    (am : ∀ b, T b = κ → Pm.1 b = Pc.1 b ∧ Pm.2.1 b = Pc.2.1 b ∧ Pm.2.2 b = Pc.2.2 b)
    (oc : ∀ b, T b ≠ κ → Pc.1 b = Pd.1 b ∧ Pc.2.1 b = Pd.2.1 b ∧ (T b ≠ 0 → b ≠ r → Pc.2.2 b = Pd.2.2 b))
    (om : ∀ b, T b = κ2 → Pm.1 b = Pc.1 b ∧ Pm.2.1 b = Pc.2.1 b ∧ (b ≠ r → Pm.2.2 b = Pc.2.2 b))
    (uq : ∀ x, T x = κ → Pd.2.2 x = 0 → x = a) (uq2 : ∀ x, T x = κ2 → Pd.2.2 x = 0 → x = r) (sp : Nat)
    {e k : Nat} (he : lR Pc 20003 a = (e, k)) {Qc Qm : PT} {tc tm : Nat} (hQc : tuF 20003 Pc e 0 = (Qc, tc)) (hQm : tuF 20003 Pm e sp = (Qm, tm)) :
    (lR Pm 20003 a = (e, k) ∧ T e = κ ∧ Qc.2.1 e = 0 ∧ tm = sp + tc ∧ tc ≤ 20003 ∧ k ≤ 20003 ∧ WF Pc (ind T κ) z ∧ WF Pm (ind T κ) z ∧ e ≠ r) ∧
    ∃ z', WF (str Qc e r) (fun x => if T x = κ2 then κ else T x) z' ∧ (∀ b, T b ≠ κ → z' b = z b) ∧ (∀ b, T b = κ → b ≠ e → z' b = zf Qc b) ∧ z' e = zf Qc e + z r ∧
    (∀ b, T b = κ ∨ T b = κ2 → (str Qm e r).1 b = (str Qc e r).1 b ∧ (str Qm e r).2.1 b = (str Qc e r).2.1 b ∧ (str Qm e r).2.2 b = (str Qc e r).2.2 b) ∧
    (∀ b, T b ≠ κ → (str Qc e r).1 b = Pc.1 b ∧ (str Qc e r).2.1 b = Pc.2.1 b ∧ (b ≠ r → (str Qc e r).2.2 b = Pc.2.2 b)) ∧ (∀ b, T b ≠ κ → (str Qm e r).1 b = Pm.1 b ∧ (str Qm e r).2.1 b = Pm.2.1 b ∧ (b ≠ r → (str Qm e r).2.2 b = Pm.2.2 b)) ∧
    (str Qc e r).2.2 e = 0 ∧ (∀ b, (T b = κ ∨ T b = κ2) → (str Qc e r).2.2 b = 0 → b = e) ∧
    Sm (fun x => if T x = κ2 then κ else T x) κ (fun x => Nat.log2 (z' x)) + Nat.log2 (zf Qc e) = Sm T κ (fun x => Nat.log2 (zf Qc x)) + Sm T κ2 (fun x => Nat.log2 (z x)) + Nat.log2 (zf Qc e + z r) := by
  have hDi : WF Pd (ind T κ) z := WF.ind (l := Pd.1) (r := Pd.2.1) (u := Pd.2.2) (u' := Pd.2.2) hD κ0 (fun _ _ => rfl)
  have lv : ∀ b, ind T κ b ≠ 0 ↔ T b = κ := fun b => ind_ne κ0 b
  have lv0 : ∀ b, T b ≠ κ → ind T κ b = 0 := fun b hb => if_neg hb
  have hTi : TN (ind T κ) := ⟨lv0 0 (by rw [hT.1]; exact Ne.symm κ0), fun b hb => hT.2 b (by rw [(lv b).mp hb]; exact κ0)⟩
  have hCi : WF Pc (ind T κ) z := hDi.pt (fun b hb => ac b ((lv b).mp hb))
  have hMi : WF Pm (ind T κ) z := hCi.pt (fun b hb => am b ((lv b).mp hb))
  have tai : ind T κ a ≠ 0 := (lv a).mpr ha
  have za := hCi.z_le hTi.2 (Or.inr tai)
  have tei := lR_mem hCi 20003 a tai
  have rs := lR_rsp hCi 20003 a tai (Rsp.root (by rw [(ac a ha).2.2]; exact hau))
  have ren := lR_end hCi 20003 a tai (by omega)
  have em := lR_cg (P := Pm) (Q := Pc) hCi (fun b hb => ⟨(am b ((lv b).mp hb)).1, (am b ((lv b).mp hb)).2.1⟩) 20003 a tai
  have kle := lR_le (P := Pc) 20003 a
  rw [he] at tei rs ren em kle
  have tei0 : ind T κ e ≠ 0 := by
    have : ind T κ e = ind T κ a := tei
    rw [this]; exact tai
  have te : T e = κ := (lv e).mp tei0
  have te0 : T e ≠ 0 := by rw [te]; exact κ0
  have e0 := hD.n0 te0
  obtain ⟨u1', u2, u3, u4, u5, u6, u7⟩ := tuF_two (P := Pc) (Q := Pm) κ0 hCi hTi (fun x hx => by rw [ind_eq ((lv x).mp hx)]) tei0 (fun b hb => am b ((lv b).mp hb)) sp
  have rr := Rsp.tuF (B := 20002) tei0 20003 Pc 0 z rs hCi (fun x hx => hCi.z_le hTi.2 (Or.inr hx))
  rw [hQc] at u1' u2 u3 u5 u6 u7 rr
  rw [hQm] at u1' u3 u4
  have q1 : Qc.2.1 e = 0 := rr.trans ren
  have er : e ≠ r := fun g => by
    have := (hr (by rw [← g]; exact e0)).1
    rw [← g, te] at this
    exact ne this
  have uqi : Unq Qc (ind T κ) κ := by
    have := Unq.tuF (B := 20002) (T := ind T κ) κ0 (ind_eq te) 20003 Pc 0 z (fun x y hx hy ux uy => by
      have tx := (lv x).mp (by rw [hx]; exact κ0)
      have ty := (lv y).mp (by rw [hy]; exact κ0)
      rw [uq x tx ((ac x tx).2.2.symm.trans ux), uq y ty ((ac y ty).2.2.symm.trans uy)]) hCi (fun x hx => hCi.z_le hTi.2 (Or.inr hx))
    rw [hQc] at this
    exact this
  refine ⟨⟨em, te, q1, u1', u2, kle, hCi, hMi, er⟩, ?_⟩
  -- the turned picture over all labels
  have hM := WF.mrg (l := Pd.1) (r := Pd.2.1) (u := Pd.2.2) (P' := Qc) hD κ0 u7 (fun x hx => ⟨(u5 x (lv0 x hx)).1.trans (oc x hx).1, (u5 x (lv0 x hx)).2.1.trans (oc x hx).2.1⟩)
  have hk2 : ∀ b, T b = κ2 → T b ≠ κ := fun b h => by rw [h]; exact Ne.symm ne
  have hL := lk_ok (e := e) (r := r) hM κ0 k20 ne te q1 (by show (if T e = κ then Qc.2.2 e else Pd.2.2 e) = 0; rw [if_pos te]; exact u6) (fun h => ⟨(hr h).1, by show (if T r = κ then Qc.2.2 r else Pd.2.2 r) = 0; rw [if_neg (hk2 r (hr h).1)]; exact (hr h).2⟩) hr0
  have zr : (if T r = κ then zf Qc r else z r) = z r := by
    by_cases g : r = 0
    · rw [g, if_neg (by rw [hT.1]; exact Ne.symm κ0)]
    · rw [if_neg (hk2 r (hr g).1)]
  have frC : ∀ b, T b ≠ κ → (str Qc e r).1 b = Pc.1 b ∧ (str Qc e r).2.1 b = Pc.2.1 b ∧ (b ≠ r → (str Qc e r).2.2 b = Pc.2.2 b) := fun b hb => by
    obtain ⟨s1, s2, s3, s4, s5⟩ := str_c Qc e r b
    obtain ⟨w1, w2, w3⟩ := u5 b (lv0 b hb)
    exact ⟨s1.trans w1, (s2 (fun g => hb (by rw [g]; exact te))).trans w2, fun g => (s4 g).trans w3⟩
  have frM : ∀ b, T b ≠ κ → (str Qm e r).1 b = Pm.1 b ∧ (str Qm e r).2.1 b = Pm.2.1 b ∧ (b ≠ r → (str Qm e r).2.2 b = Pm.2.2 b) := fun b hb => by
    obtain ⟨s1, s2, s3, s4, s5⟩ := str_c Qm e r b
    obtain ⟨w1, w2, w3⟩ := u4 b (lv0 b hb)
    exact ⟨s1.trans w1, (s2 (fun g => hb (by rw [g]; exact te))).trans w2, fun g => (s4 g).trans w3⟩
  have hUe : (str Qc e r).2.2 e = 0 := by rw [(str_c Qc e r e).2.2.2.1 er]; exact u6
  refine ⟨u1 (fun x => if T x = κ then zf Qc x else z x) e ((if T e = κ then zf Qc e else z e) + (if T r = κ then zf Qc r else z r)), ?_, fun b hb => ?_, fun b hb hbe => ?_, ?_, ?_, frC, frM, hUe, ?_, ?_⟩
  · refine hL.pt (fun b hb => ⟨rfl, rfl, ?_⟩)
    have tb : T b ≠ 0 := fun g => by
      have hb : (if T b = κ2 then κ else T b) ≠ 0 := hb
      rw [if_neg (by rw [g]; exact Ne.symm k20)] at hb
      exact hb g
    by_cases g : b = r
    · have r0 : r ≠ 0 := by rw [← g]; exact hD.n0 tb
      rw [g, (str_c Qc e r r).2.2.2.2 r0, (str_c _ e r r).2.2.2.2 r0]
    · rw [(str_c Qc e r b).2.2.2.1 g, (str_c _ e r b).2.2.2.1 g]
      show Qc.2.2 b = if T b = κ then Qc.2.2 b else Pd.2.2 b
      by_cases h : T b = κ
      · rw [if_pos h]
      · rw [if_neg h, (u5 b (lv0 b h)).2.2, (oc b h).2.2 tb g]
  · rw [u1_o _ _ (fun g => hb (by rw [g]; exact te))]
    exact if_neg hb
  · rw [u1_o _ _ hbe]
    exact if_pos hb
  · rw [u1_s, zr, if_pos te]
  · intro b hb
    obtain ⟨s1, s2, s3, s4, s5⟩ := str_c Qc e r b
    obtain ⟨t1, t2, t3, t4, t5⟩ := str_c Qm e r b
    have eL : Qm.1 b = Qc.1 b ∧ Qm.2.1 b = Qc.2.1 b ∧ (b ≠ r → Qm.2.2 b = Qc.2.2 b) := by
      rcases hb with h | h
      · obtain ⟨g1, g2, g3⟩ := u3 b ((lv b).mpr h)
        exact ⟨g1, g2, fun _ => g3⟩
      · have hne := hk2 b h
        obtain ⟨w1, w2, w3⟩ := u5 b (lv0 b hne)
        obtain ⟨y1, y2, y3⟩ := u4 b (lv0 b hne)
        obtain ⟨o1, o2, o3⟩ := om b h
        exact ⟨y1.trans (o1.trans w1.symm), y2.trans (o2.trans w2.symm), fun g => y3.trans ((o3 g).trans w3.symm)⟩
    refine ⟨t1.trans (eL.1.trans s1.symm), ?_, ?_⟩
    · by_cases g : b = e
      · rw [g, t3, s3]
      · rw [t2 g, s2 g]; exact eL.2.1
    · by_cases g : b = r
      · have r0 : r ≠ 0 := by
          rw [← g]
          rcases hb with h | h
          · exact hD.n0 (by rw [h]; exact κ0)
          · exact hD.n0 (by rw [h]; exact k20)
        rw [g, t5 r0, s5 r0]
      · rw [t4 g, s4 g]; exact eL.2.2 g
  · intro b hb hub
    by_cases g : b = r
    · have r0 : r ≠ 0 := by
        rw [← g]
        rcases hb with h | h
        · exact hD.n0 (by rw [h]; exact κ0)
        · exact hD.n0 (by rw [h]; exact k20)
      rw [g, (str_c Qc e r r).2.2.2.2 r0] at hub
      exact absurd hub e0
    · rw [(str_c Qc e r b).2.2.2.1 g] at hub
      rcases hb with h | h
      · exact uqi b e (ind_eq h) (ind_eq te) hub u6
      · have hne := hk2 b h
        rw [(u5 b (lv0 b hne)).2.2, (oc b hne).2.2 (by rw [h]; exact k20) g] at hub
        exact absurd (uq2 b h hub) g
  · have hT' : TN (fun x => if T x = κ2 then κ else T x) := ⟨by show (if T 0 = κ2 then κ else T 0) = 0; rw [if_neg (by rw [hT.1]; exact Ne.symm k20)]; exact hT.1, fun b hb => hT.2 b (fun g => by
      have hb : (if T b = κ2 then κ else T b) ≠ 0 := hb
      rw [if_neg (by rw [g]; exact Ne.symm k20)] at hb
      exact hb g)⟩
    rw [Sm_two hT κ0 k20 ne κ0 hT' (fun b => by
      show (if T b = κ2 then κ else T b) = κ ↔ _
      by_cases g : T b = κ2
      · rw [if_pos g]; exact ⟨fun _ => Or.inr g, fun _ => rfl⟩
      · rw [if_neg g]; exact ⟨fun h => Or.inl h, fun h => h.resolve_right g⟩)]
    rw [Sm_congr (T := T) hT k20 (f := fun x => Nat.log2 (u1 (fun x => if T x = κ then zf Qc x else z x) e ((if T e = κ then zf Qc e else z e) + (if T r = κ then zf Qc r else z r)) x)) (g := fun x => Nat.log2 (z x)) (fun b hb => by
      have hne := hk2 b hb
      show Nat.log2 (u1 _ e _ b) = _
      rw [u1_o _ _ (fun g => hne (by rw [g]; exact te)), if_neg hne])]
    rw [Sm_congr (T := T) hT κ0 (f := fun x => Nat.log2 (u1 (fun x => if T x = κ then zf Qc x else z x) e ((if T e = κ then zf Qc e else z e) + (if T r = κ then zf Qc r else z r)) x)) (g := u1 (fun x => Nat.log2 (zf Qc x)) e (Nat.log2 (zf Qc e + z r))) (fun b hb => by
      show Nat.log2 (u1 _ e _ b) = _
      by_cases g : b = e
      · rw [g, u1_s, u1_s, zr, if_pos te]
      · rw [u1_o _ _ g, u1_o _ _ g, if_pos hb])]
    have := Sm_upd hT κ0 (fun x => Nat.log2 (zf Qc x)) (a := e) (Nat.log2 (zf Qc e + z r)) te
    have this : Sm T κ (u1 (fun x => Nat.log2 (zf Qc x)) e (Nat.log2 (zf Qc e + z r))) + Nat.log2 (zf Qc e) = Sm T κ (fun x => Nat.log2 (zf Qc x)) + Nat.log2 (zf Qc e + z r) := this
    omega
