-- settling, over the invariant
theorem gT_le {ky : Nat → Int64} {P : PT} (k : Int64) : ∀ (f n : Nat), (gT ky P k f n).2 ≤ f := by
  intro f
  induction f with
  | zero => intro n; exact Nat.le_refl _
  | succ f ih =>
    intro n
    by_cases n0 : n = 0
    · simp only [gT, n0, if_true]; exact Nat.zero_le _
    · by_cases e : ky n = k
      · simp only [gT, n0, if_false, e, if_true]; exact Nat.zero_le _
      · have i1 := ih (if k < ky n then P.1 n else P.2.1 n)
        by_cases c0 : (if k < ky n then P.1 n else P.2.1 n) = 0
        · simp only [gT, n0, if_false, e, c0, if_true]; exact Nat.zero_le _
        · simp only [gT, n0, if_false, e, c0]; omega
theorem gB_le {ky : Nat → Int64} {P : PT} (k : Int64) (ab : Bool) : ∀ (f n l b : Nat), (gB ky P k ab f n l b).2.2 ≤ f := by
  intro f
  induction f with
  | zero => intro n l b; exact Nat.le_refl _
  | succ f ih =>
    intro n l b
    by_cases n0 : n = 0
    · simp only [gB, n0, if_true]; exact Nat.zero_le _
    · have i1 := ih (if tR ab (ky n) k then P.2.1 n else P.1 n) n (if tR ab (ky n) k = ab then b else n)
      simp only [gB, n0, if_false]
      have i2 : (if l = 0 then 0 else 1) ≤ 1 := by split <;> omega
      omega
def cLz (kd : Nat) (c : CS) (s : Nat) : CS := if kd = 1 then c.sla (u1 c.la s 0) else c
def cStl (kd : Nat) (c : CS) (s n : Nat) (T : Nat → Nat) : CS := if kd = 1 then (if n = 0 then c.sla (u1 c.la s 0) else cSet c s n (ind T (s + 1)) (s + 1) (zf (tuF 20003 c.P n 0).1) 0) else c
theorem JJ.lz {m : MS} {c : CS} {d : DS} {B : AH} {T z : Nat → Nat} {V R : Nat → List Nat} {FN FI : List Nat} {ow : Nat → Nat} (hj : JJ m c d B T z V R FN FI ow) {s : Nat} (hs : s < m.K) : JJ m (cLz (m.kd s) c s) d B T z V R FN FI ow := by
  unfold cLz
  by_cases q : m.kd s = 1
  · rw [if_pos q]
    have e := hj.2.2.2.2.2.2.2.2.2.2.2.2.1 s hs (by omega)
    have : u1 c.la s 0 = c.la := by rw [← e]; exact u1_id _ _
    rw [this]
    exact hj
  · rw [if_neg q]; exact hj
/-- other ways -/
def cQ (c : CS) (la tl dp : Nat → Nat) (st : Nat → Int32) : CS := (((c.sla la).stl tl).sdp dp).sst st
theorem HcQ (c : CS) (la tl dp : Nat → Nat) (st : Nat → Int32) : (cQ c la tl dp st).ck = c.ck ∧ (cQ c la tl dp st).cc = c.cc ∧ (cQ c la tl dp st).P = c.P ∧ (cQ c la tl dp st).cz = c.cz ∧ (cQ c la tl dp st).nv = c.nv ∧ (cQ c la tl dp st).f1 = c.f1 ∧ (cQ c la tl dp st).l1 = c.l1 ∧ (cQ c la tl dp st).vn = c.vn ∧ (cQ c la tl dp st).vx = c.vx ∧ (cQ c la tl dp st).kd = c.kd ∧ (cQ c la tl dp st).ro = c.ro ∧ (cQ c la tl dp st).he = c.he ∧ (cQ c la tl dp st).pu = c.pu ∧ (cQ c la tl dp st).vs = c.vs ∧ (cQ c la tl dp st).lg = c.lg ∧ (cQ c la tl dp st).hy = c.hy ∧ (cQ c la tl dp st).pa = c.pa ∧ (cQ c la tl dp st).K = c.K ∧ (cQ c la tl dp st).E = c.E ∧ (cQ c la tl dp st).cn = c.cn ∧ (cQ c la tl dp st).fk = c.fk ∧ (cQ c la tl dp st).fv = c.fv ∧ (cQ c la tl dp st).N = c.N ∧ (cQ c la tl dp st).rO = c.rO ∧ (cQ c la tl dp st).rP = c.rP ∧ (cQ c la tl dp st).rT = c.rT ∧ (cQ c la tl dp st).rQ = c.rQ ∧ (cQ c la tl dp st).ar = c.ar ∧ (cQ c la tl dp st).la = la ∧ (cQ c la tl dp st).tl = tl ∧ (cQ c la tl dp st).dp = dp ∧ (cQ c la tl dp st).st = st := ⟨rfl, rfl, rfl, rfl, rfl, rfl, rfl, rfl, rfl, rfl, rfl, rfl, rfl, rfl, rfl, rfl, rfl, rfl, rfl, rfl, rfl, rfl, rfl, rfl, rfl, rfl, rfl, rfl, rfl, rfl, rfl, rfl⟩
theorem JJ.cQ {m : MS} {c : CS} {d : DS} {B : AH} {T z : Nat → Nat} {V R : Nat → List Nat} {FN FI : List Nat} {ow : Nat → Nat} (hj : JJ m c d B T z V R FN FI ow) (la tl dp : Nat → Nat) (st : Nat → Int32) (hl : JL m (_root_.Jvm.Pilot.CStepPurseLaw_law_r8377_2c7bf5.cQ c la tl dp st) d T) : JJ m (_root_.Jvm.Pilot.CStepPurseLaw_law_r8377_2c7bf5.cQ c la tl dp st) d B T z V R FN FI ow := by
  obtain ⟨jb, js, jt, jr, jp, jd, jv, ji, jf, jw, jh, jz, jl⟩ := id hj
  exact ⟨jb, js.cg rfl rfl rfl rfl rfl, jt.cg rfl rfl rfl, jr.cg rfl rfl rfl rfl rfl rfl, jp.cg rfl rfl rfl rfl rfl, jd, jv.cg rfl rfl rfl rfl rfl rfl rfl rfl rfl, ji, jf, jw.cg rfl rfl rfl rfl rfl rfl rfl rfl rfl, jh.cg rfl rfl rfl rfl rfl, jz.cg rfl rfl rfl rfl rfl rfl rfl rfl, hl⟩
/-- behind goTo -/
theorem JJ.go {m : MS} {c : CS} {d : DS} {B : AH} {T z : Nat → Nat} {V R : Nat → List Nat} {FN FI : List Nat} {ow : Nat → Nat} (hj : JJ m c d B T z V R FN FI ow) {s : Nat} (hs : s < m.K) {n tl' g2 : Nat} (σ : Nat → Int32) (hk : m.kd s ≤ 1) (hl : m.kd s = 0 → JLs ((cW c s n tl' g2).sst σ) d T s) : JJ m (cLz (m.kd s) ((cW c s n tl' g2).sst σ) s) d B T z V R FN FI ow := by
  have jt := hj.2.2.1
  have jl := hj.2.2.2.2.2.2.2.2.2.2.2.2
  unfold cLz
  by_cases q : m.kd s = 1
  · rw [if_pos q]
    refine JJ.cQ hj (u1 (u1 c.la s n) s 0) (u1 c.tl s tl') (u1 c.dp s g2) σ ?_
    refine JL.keep (m := m) (c := c) (d := d) (z := z) jl jt.1 rfl (fun _ _ => rfl) (fun a ha => (jt.2.2 a ha).1) (fun r hr h1 => ?_) (fun r hr h1 => ?_) (fun a ha hka => by simp only [HcQ, and_self]) (fun r hr h1 t l0 g1 g2 g3 => ⟨t, g1, g2, g3, fun _ => by simp only [HcQ]⟩)
    · simp only [HcQ]
      rw [u1_u1]
      by_cases g : r = s
      · rw [g, u1_s]
      · rw [u1_o _ _ g]; exact jl.1 r hr h1
    · have ne : r ≠ s := fun g => by rw [g] at h1; omega
      simp only [HcQ]
      rw [u1_u1]
      exact ⟨u1_o _ _ ne, u1_o _ _ ne, u1_o _ _ ne, trivial⟩
  · rw [if_neg q]
    refine JJ.cQ hj (u1 c.la s n) (u1 c.tl s tl') (u1 c.dp s g2) σ ⟨?_, ?_, ?_⟩
    · intro r hr h1
      simp only [HcQ]
      by_cases g : r = s
      · exfalso
        rw [g] at h1
        omega
      · rw [u1_o _ _ g]; exact jl.1 r hr h1
    · intro r hr h1
      by_cases g : r = s
      · rw [g]; exact hl (by rw [← g]; exact h1)
      · have := jl.2.1 r hr h1
        unfold JLs at this ⊢
        simp only [HcQ]
        rw [u1_o _ _ g, u1_o _ _ g, u1_o _ _ g]
        exact this
    · intro a ha hka
      simp only [HcQ]
      exact jl.2.2 a ha hka
theorem mTrn_0 (m : MS) {s n : Nat} (h : ¬ (m.kd s = 1 ∧ n ≠ 0)) : mTrn m s n = m := if_neg h
theorem mTrn_1 (m : MS) {s n : Nat} (h : m.kd s = 1) (n0 : n ≠ 0) : mTrn m s n = (mUp m n).srt (u1 m.rt s n) := if_pos ⟨h, n0⟩
section Stl
variable (L : Nat) (xs : Nat → Int32)
theorem c172z {b : AH} {d : DS} (hw : DW d) (tN : ∀ x, d.nid x ≠ 0 → tg b x = 4) {s : Nat} (hsd : d.sid (d.sa (s + 1)) = s + 1) (ts : tg b (d.sa (s + 1)) = 7) (c : CS) {T z : Nat → Nat} {κ G0 : Nat} (κ0 : κ ≠ 0) (hW : WF c.P T z) (hT : TN T) (hD : ∀ x, T x ≠ 0 → d.nid (d.ph x) = x) (hone : ∀ a, T a ≠ 0 → T a = κ) (hcz : ∀ a, T a ≠ 0 → c.cz a = z a) (hlg : c.lg s = G0 + Gs (Ms T κ) z) {n : Nat} (hn : T n ≠ 0) :
    WF (tuF 20003 c.P n 0).1 T (zf (tuF 20003 c.P n 0).1) ∧ (tuF 20003 c.P n 0).1.2.2 n = 0 ∧ XM L xs 172 [.ref (d.sa (s + 1)), .ref (d.ph n)] (cl b d c) = some (cl b d (cSet c s n T κ (zf (tuF 20003 c.P n 0).1) G0), none) := by
  obtain ⟨z', w1, w2, w3⟩ := c172 L xs hw tN hsd ts c κ0 hW hT hD hone hcz hlg hn
  refine ⟨w1.zf hT.2, w2, ?_⟩
  have e1 : Gs (Ms T κ) z' = Gs (Ms T κ) (zf (tuF 20003 c.P n 0).1) := by
    unfold Gs
    refine congrArg List.sum (List.map_congr_left (fun a ha => ?_))
    rw [w1.can hT.2 (Or.inr (by rw [(Ms_mem hT κ0 a).mp ha]; exact κ0))]
  have e2 : (fun a => if T a = κ then z' a else c.cz a) = (fun a => if T a = κ then zf (tuF 20003 c.P n 0).1 a else c.cz a) := by
    funext a
    by_cases q : T a = κ
    · rw [if_pos q, if_pos q, w1.can hT.2 (Or.inr (by rw [q]; exact κ0))]
    · rw [if_neg q, if_neg q]
  rw [w3]
  unfold cSet
  rw [e1, e2]
theorem stl_ok {m : MS} {c : CS} {d : DS} {B : AH} {T z : Nat → Nat} {V R : Nat → List Nat} {FN FI : List Nat} {ow : Nat → Nat} {s : Nat} (hj : JJ m (cLz (m.kd s) c s) d B T z V R FN FI ow) (hs : s < m.K) (hk : m.kd s ≤ 1) {n : Nat} (hn : n ≠ 0 → T n = s + 1) (hM : JM m c s) (hb : m.sp ≤ 50000) :
    (∀ m0, cfD (XM L xs) 11 50 (tg B (d.sa (s + 1))) [.ref (d.sa (s + 1)), .ref (d.ph n)] (cl (ml B m0) d c) = some (cl (ml B m0) d (cStl (m.kd s) c s n T), none)) ∧ (∃ z2, JJ (mTrn m s n) (cStl (m.kd s) c s n T) d B T z2 V R FN FI ow) ∧ JM (mTrn m s n) (cStl (m.kd s) c s n T) s ∧ (mTrn m s n).sp ≤ m.sp + 20003 ∧ (m.kd s = 1 → n ≠ 0 → (cStl (m.kd s) c s n T).ro s = n) := by
  obtain ⟨jb, js, jt, jr, jp, jd, jv, ji, jf, jw, jh, jz, jl⟩ := id hj
  obtain ⟨h1, h2, h3, h4, h5, h6⟩ := hj.kin hs
  have hw := jb.2.2.2.2.2
  have κ0 : s + 1 ≠ 0 := Nat.succ_ne_zero s
  unfold cStl
  unfold cLz at hj jt jr jp jv jz jl h4 js
  by_cases q : m.kd s = 1
  · rw [if_pos q] at hj jt jr jp jv jz jl h4 js ⊢
    have t7 := (hj.tgs hs).2.1 q
    by_cases n0 : n = 0
    · subst n0
      rw [if_pos rfl, mTrn_0 m (fun g => g.2 rfl)]
      refine ⟨fun m0 => ?_, ⟨z, hj⟩, hM, by omega, fun _ g => absurd rfl g⟩
      rw [t7, cc_11_50_7, hw.1.1]
      exact c172_0 L xs (b := ml B m0) hw h2 t7 c
    · have tn := hn n0
      have tn0 : T n ≠ 0 := by rw [tn]; exact κ0
      rw [if_neg n0, mTrn_1 m q n0]
      have hWi : WF c.P (ind T (s + 1)) z := WF.ind (l := c.P.1) (r := c.P.2.1) (u := c.P.2.2) (u' := c.P.2.2) jt.1 κ0 (fun _ _ => rfl)
      have lv : ∀ a, ind T (s + 1) a ≠ 0 → T a = s + 1 := fun a ha => (ind_ne κ0 a).mp ha
      have lv0 : ∀ a, T a = s + 1 → T a ≠ 0 := fun a ha => by rw [ha]; exact κ0
      have hTi : TN (ind T (s + 1)) := ⟨by unfold ind; rw [jt.1.1, if_neg (fun g => κ0 g.symm)], fun a ha => jt.2.1.2 a (lv0 a (lv a ha))⟩
      have hlg : c.lg s = 0 + Gs (Ms (ind T (s + 1)) (s + 1)) z := by
        have e2 : Gs (Ms (ind T (s + 1)) (s + 1)) z = Sm (ind T (s + 1)) (s + 1) (fun a => Nat.log2 (z a)) := rfl
        rw [Nat.zero_add, e2, Ms_ind T κ0]
        exact (jz.1 s hs).2.2.1 q
      have cc := fun m0 => c172z L xs (b := ml B m0) hw jb.2.2.2.1 h2 t7 c κ0 hWi hTi (fun x hx => hj.hD x (Or.inr (lv0 x (lv x hx)))) (fun a ha => ind_eq (lv a ha)) (fun a ha => jz.2.1 a (lv0 a (lv a ha)) (by rw [lv a ha, Nat.add_sub_cancel]; omega)) hlg (n := n) (by rw [ind_eq tn]; exact κ0)
      obtain ⟨x1, x2, x3⟩ := turn_JJ hj hs q tn (z' := zf (tuF 20003 c.P n 0).1) (cc m).1 (cc m).2.1 m.sp
      have e0 : cSet (c.sla (u1 c.la s 0)) s n (ind T (s + 1)) (s + 1) (zf (tuF 20003 c.P n 0).1) 0 = cSet c s n (ind T (s + 1)) (s + 1) (zf (tuF 20003 c.P n 0).1) 0 := by
        unfold cSet
        show (((((c.sla (u1 (u1 c.la s 0) s 0)).sst _).slg _).sP _).scz _).sro _ = _
        rw [u1_u1]
        rfl
      rw [e0] at x3
      refine ⟨fun m0 => by rw [t7, cc_11_50_7]; exact (cc m0).2.2, ⟨_, x3⟩, ?_, ?_, fun _ _ => u1_s _ _ _⟩
      · obtain ⟨a1, ⟨a2, a3⟩, a4, a5, a6⟩ := hM
        have x1 : (tuF 20003 m.P n m.sp).2 = m.sp + (tuF 20003 c.P n 0).2 := x1
        refine ⟨fun r hr => ⟨(a1 r hr).1, fun g => ?_⟩, ⟨?_, ?_⟩, a4, a5, a6⟩
        · show u1 c.st s (c.st s + nI (tuF 20003 c.P n 0).2) r = _
          rw [u1_o _ _ g]
          exact (a1 r hr).2 g
        · show u1 c.st s (c.st s + nI (tuF 20003 c.P n 0).2) s = (m.st s).toInt32 + nI (tuF 20003 m.P n m.sp).2
          rw [u1_s, a2, x1, Int32.add_assoc, nI_add]
        · show (tuF 20003 m.P n m.sp).2 ≤ 100000
          rw [x1]
          have x2 : (tuF 20003 c.P n 0).2 ≤ 20003 := x2
          omega
      · show (tuF 20003 m.P n m.sp).2 ≤ m.sp + 20003
        have x1 : (tuF 20003 m.P n m.sp).2 = m.sp + (tuF 20003 c.P n 0).2 := x1
        have x2 : (tuF 20003 c.P n 0).2 ≤ 20003 := x2
        omega
  · rw [if_neg q] at hj ⊢
    rw [mTrn_0 m (fun g => q g.1)]
    have t5 := (hj.tgs hs).1 (by omega)
    refine ⟨fun m0 => ?_, ⟨z, hj⟩, hM, by omega, fun g _ => absurd g q⟩
    rw [t5, cc_11_50_5, c142]
end Stl
