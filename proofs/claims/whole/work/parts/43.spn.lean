-- the right spine; one tree alone; the class's world; a size more all the way up
def Rsp (P : PT) (n : Nat) : Prop := ∀ k, upI P (k + 1) n ≠ 0 → P.2.1 (upI P (k + 1) n) = upI P k n
theorem upI_S (P : PT) (k n : Nat) (hu : P.2.2 n ≠ 0) : upI P (k + 1) n = upI P k (P.2.2 n) := by
  show (if P.2.2 n = 0 then 0 else _) = _
  rw [if_neg hu]
theorem upI_N (P : PT) (k n : Nat) (hu : P.2.2 n = 0) : upI P (k + 1) n = 0 := by
  show (if P.2.2 n = 0 then 0 else _) = _
  rw [if_pos hu]
theorem Rsp.tl {P : PT} {n : Nat} (h : Rsp P n) (hu : P.2.2 n ≠ 0) : P.2.1 (P.2.2 n) = n ∧ Rsp P (P.2.2 n) := by
  refine ⟨?_, fun k hk => ?_⟩
  · have := h 0 (by rw [upI_S P 0 n hu]; exact hu)
    rw [upI_S P 0 n hu] at this
    exact this
  · have := h (k + 1) (by rw [upI_S P (k + 1) n hu]; exact hk)
    rw [upI_S P (k + 1) n hu, upI_S P k n hu] at this
    exact this
theorem Rsp.cons {P : PT} {n : Nat} (hr : P.2.2 n ≠ 0 → P.2.1 (P.2.2 n) = n ∧ Rsp P (P.2.2 n)) : Rsp P n := by
  intro k hk
  by_cases hu : P.2.2 n = 0
  · rw [upI_N P k n hu] at hk; exact absurd rfl hk
  · obtain ⟨a1, a2⟩ := hr hu
    cases k with
    | zero => rw [upI_S P 0 n hu]; exact a1
    | succ k =>
      rw [upI_S P (k + 1) n hu] at hk ⊢
      rw [upI_S P k n hu]
      exact a2 k hk
theorem upI_fr {P P' : PT} : ∀ (k y : Nat), (∀ j, j < k → upI P j y ≠ 0 → P'.2.2 (upI P j y) = P.2.2 (upI P j y)) → y ≠ 0 → upI P' k y = upI P k y := by
  intro k
  induction k with
  | zero => intro y _ _; rfl
  | succ k ih =>
    intro y h y0
    have e := h 0 (by omega) y0
    have e' : P'.2.2 y = P.2.2 y := e
    by_cases hu : P.2.2 y = 0
    · rw [upI_N P k y hu, upI_N P' k y (by rw [e']; exact hu)]
    · rw [upI_S P k y hu, upI_S P' k y (by rw [e']; exact hu), e']
      refine ih _ (fun j hj hn => ?_) hu
      have := h (j + 1) (by omega) (by rw [upI_S P j y hu]; exact hn)
      rw [upI_S P j y hu] at this
      exact this
theorem Rsp.rot {P : PT} {S z : Nat → Nat} {n : Nat} (h : Rsp P n) (hw : WF P S z) (hn : S n ≠ 0) (hu : P.2.2 n ≠ 0) : Rsp (_root_.Jvm.Pilot.CStepPurseLaw_law_r8377_2c7bf5.rot P n) n ∧ (_root_.Jvm.Pilot.CStepPurseLaw_law_r8377_2c7bf5.rot P n).2.1 n = P.2.1 n := by
  obtain ⟨d1, d2, d3, d4, d5, d6, d7⟩ := rot_dist hw hn hu
  obtain ⟨t1, t2⟩ := h.tl hu
  have hp : S (P.2.2 n) ≠ 0 := by rw [(hw.up_lt hn hu).2]; exact hn
  have h1 : ¬ P.1 (P.2.2 n) = n := fun e => by
    have := (hw.2.2 _ hp).2.2.2.1 (e.trans t1.symm)
    rw [this] at e
    exact hw.n0 hn e.symm
  obtain ⟨a1, a2, a3⟩ := rot_B h1 hu d1 d2 d3
  refine ⟨?_, ?_⟩
  · refine Rsp.cons (fun hu' => ?_)
    have e : (_root_.Jvm.Pilot.CStepPurseLaw_law_r8377_2c7bf5.rot P n).2.2 n = P.2.2 (P.2.2 n) := by rw [a3, if_pos rfl]
    rw [e] at hu' ⊢
    obtain ⟨s1, s2⟩ := t2.tl hu'
    have h2 : P.1 (P.2.2 (P.2.2 n)) ≠ P.2.2 n := fun q => by
      have hg : S (P.2.2 (P.2.2 n)) ≠ 0 := by rw [(hw.up_lt hp hu').2]; exact hp
      have := (hw.2.2 _ hg).2.2.2.1 (q.trans s1.symm)
      rw [this] at q
      exact hw.n0 hp q.symm
    have hg : S (P.2.2 (P.2.2 n)) ≠ 0 := by rw [(hw.up_lt hp hu').2]; exact hp
    refine ⟨by rw [a2, if_neg d2, if_pos ⟨rfl, hu', h2⟩], ?_⟩
    have big : ∀ k, upI P k (P.2.2 (P.2.2 n)) ≠ 0 → z (P.2.2 (P.2.2 n)) + k ≤ z (upI P k (P.2.2 (P.2.2 n))) := fun k hk => (upI_z hw k _ hg hk).1
    have d7' := d7 hu'
    have fr : ∀ k, upI (_root_.Jvm.Pilot.CStepPurseLaw_law_r8377_2c7bf5.rot P n) k (P.2.2 (P.2.2 n)) = upI P k (P.2.2 (P.2.2 n)) := by
      intro k
      refine upI_fr k _ (fun j _ hj => ?_) hu'
      have b := big j hj
      rw [a3, if_neg (fun q => by rw [q] at b; omega), if_neg (fun q => by rw [q] at b; omega), if_neg (fun q => by have := d4 q.2; rw [q.1] at b; omega)]
    intro k hk
    rw [fr] at hk ⊢
    rw [fr]
    have b := big (k + 1) hk
    rw [a2, if_neg (fun q => by rw [q] at b; omega), if_neg (fun q => by rw [q.1] at b; omega)]
    exact s2 k hk |>.trans rfl |> fun q => by
      have := t2 (k + 1) (by rw [upI_S P (k + 1) _ hu']; exact hk)
      rw [upI_S P (k + 1) _ hu', upI_S P k _ hu'] at this
      exact this
  · rw [a2, if_neg (Ne.symm d1), if_neg (fun q => d3 q.1.symm)]
theorem Rsp.tu1 {P : PT} {S z : Nat → Nat} {n : Nat} (h : Rsp P n) (hw : WF P S z) (hn : S n ≠ 0) (hu : P.2.2 n ≠ 0) : Rsp (_root_.Jvm.Pilot.CStepPurseLaw_law_r8377_2c7bf5.tu1 P n) n ∧ (_root_.Jvm.Pilot.CStepPurseLaw_law_r8377_2c7bf5.tu1 P n).2.1 n = P.2.1 n := by
  unfold _root_.Jvm.Pilot.CStepPurseLaw_law_r8377_2c7bf5.tu1
  by_cases g0 : P.2.2 (P.2.2 n) = 0
  · rw [if_pos g0]; exact h.rot hw hn hu
  · rw [if_neg g0]
    obtain ⟨d1, d2, d3, d4, d5, d6, d7⟩ := rot_dist hw hn hu
    obtain ⟨t1, t2⟩ := h.tl hu
    obtain ⟨s1, s2⟩ := t2.tl g0
    have hp : S (P.2.2 n) ≠ 0 := by rw [(hw.up_lt hn hu).2]; exact hn
    have hg : S (P.2.2 (P.2.2 n)) ≠ 0 := by rw [(hw.up_lt hp g0).2]; exact hp
    have h1 : ¬ P.1 (P.2.2 n) = n := fun e => by
      have := (hw.2.2 _ hp).2.2.2.1 (e.trans t1.symm)
      rw [this] at e
      exact hw.n0 hn e.symm
    have h2 : ¬ P.1 (P.2.2 (P.2.2 n)) = P.2.2 n := fun q => by
      have := (hw.2.2 _ hg).2.2.2.1 (q.trans s1.symm)
      rw [this] at q
      exact hw.n0 hp q.symm
    have hz : zz P n = true := by unfold zz; simp only [h1, h2, decide_false, beq_self_eq_true]
    rw [if_pos hz]
    obtain ⟨e1, e2, e3⟩ := zz_up hw hn hu g0 hz
    obtain ⟨c1, c2, c3, c4, c5, c6, c7⟩ := rot_dist hw hp g0
    obtain ⟨a1, a2, a3⟩ := rot_B h2 g0 c1 c2 c3
    have r1 := rot_wf hw hp g0
    have q1 := t2.rot hw hp g0
    have x1 : n ≠ P.2.2 (P.2.2 n) := Ne.symm d3
    have x2 : ¬ (n = P.2.2 (P.2.2 (P.2.2 n)) ∧ P.2.2 (P.2.2 (P.2.2 n)) ≠ 0) := fun q => by
      have := c7 q.2; rw [← q.1] at this; omega
    have en : (_root_.Jvm.Pilot.CStepPurseLaw_law_r8377_2c7bf5.rot P (P.2.2 n)).2.1 n = P.2.1 n := by
      rw [a2, if_neg x1, if_neg (fun q => x2 ⟨q.1, q.2.1⟩)]
    have hsp : Rsp (_root_.Jvm.Pilot.CStepPurseLaw_law_r8377_2c7bf5.rot P (P.2.2 n)) n := Rsp.cons (fun _ => by
      rw [e1]
      exact ⟨q1.2.trans t1, q1.1⟩)
    obtain ⟨f1, f2⟩ := hsp.rot r1 hn (by rw [e1]; exact hu)
    exact ⟨f1, f2.trans en⟩
theorem Rsp.tuF {S : Nat → Nat} {B n : Nat} (hn : S n ≠ 0) : ∀ (f : Nat) (P : PT) (s : Nat) (z : Nat → Nat), Rsp P n → WF P S z → (∀ x, S x ≠ 0 → z x ≤ B) → (_root_.Jvm.Pilot.CStepPurseLaw_law_r8377_2c7bf5.tuF f P n s).1.2.1 n = P.2.1 n := by
  intro f
  induction f with
  | zero => intro P s z _ _ _; rfl
  | succ f ih =>
    intro P s z h hw hB
    by_cases u0 : P.2.2 n = 0
    · have e : _root_.Jvm.Pilot.CStepPurseLaw_law_r8377_2c7bf5.tuF (f + 1) P n s = (P, s) := by
        show (if P.2.2 n = 0 then (P, s) else _) = _
        rw [if_pos u0]
      rw [e]
    · rw [tuF_S f P n s u0]
      obtain ⟨z1, a1, a2, -⟩ := tu1_ok hw hB hn u0
      obtain ⟨r1, r2⟩ := h.tu1 hw hn u0
      rw [ih _ _ z1 r1 a1 a2, r2]
theorem lR_rsp {P : PT} {S z : Nat → Nat} (hw : WF P S z) : ∀ (f n : Nat), S n ≠ 0 → Rsp P n → Rsp P (lR P f n).1 := by
  intro f
  induction f with
  | zero => intro n _ h; exact h
  | succ f ih =>
    intro n hn h
    unfold lR
    by_cases c0 : P.2.1 n = 0
    · rw [if_pos c0]; exact h
    · rw [if_neg c0]
      obtain ⟨w1, w2⟩ := (hw.2.2 n hn).2.1 c0
      refine ih _ (by rw [w2]; exact hn) (Rsp.cons (fun _ => ?_))
      rw [w1]
      exact ⟨rfl, h⟩
theorem Rsp.root {P : PT} {n : Nat} (h : P.2.2 n = 0) : Rsp P n := Rsp.cons (fun q => absurd h q)
-- one tree alone
def ind (T : Nat → Nat) (c x : Nat) : Nat := if T x = c then c else 0
theorem ind_ne {T : Nat → Nat} {c : Nat} (c0 : c ≠ 0) (x : Nat) : ind T c x ≠ 0 ↔ T x = c := by
  unfold ind
  by_cases e : T x = c
  · rw [if_pos e]; exact ⟨fun _ => e, fun _ => c0⟩
  · rw [if_neg e]; exact ⟨fun q => absurd rfl q, fun q => absurd q e⟩
theorem ind_eq {T : Nat → Nat} {c x : Nat} (h : T x = c) : ind T c x = c := by unfold ind; rw [if_pos h]
theorem WF.ind {l r u u' T z : Nat → Nat} {c : Nat} (h : WF (l, r, u) T z) (c0 : c ≠ 0) (hu : ∀ x, T x = c → u' x = u x) : WF (l, r, u') (_root_.Jvm.Pilot.CStepPurseLaw_law_r8377_2c7bf5.ind T c) z := by
  refine ⟨?_, h.2.1, fun n hn => ?_⟩
  · unfold _root_.Jvm.Pilot.CStepPurseLaw_law_r8377_2c7bf5.ind
    rw [if_neg]
    rw [h.1]; exact Ne.symm c0
  · have hn' := (ind_ne c0 n).mp hn
    have hnT : T n ≠ 0 := by rw [hn']; exact c0
    obtain ⟨w1, w2, w3, w4, w5⟩ := h.2.2 n hnT
    dsimp only at *
    have un := hu n hn'
    refine ⟨fun e => ?_, fun e => ?_, fun e => ?_, w4, w5⟩
    · obtain ⟨a1, a2⟩ := w1 e
      have : T (l n) = c := by rw [a2]; exact hn'
      exact ⟨by rw [hu _ this]; exact a1, by rw [ind_eq this, ind_eq hn']⟩
    · obtain ⟨a1, a2⟩ := w2 e
      have : T (r n) = c := by rw [a2]; exact hn'
      exact ⟨by rw [hu _ this]; exact a1, by rw [ind_eq this, ind_eq hn']⟩
    · rw [un] at e ⊢
      obtain ⟨a1, a2⟩ := w3 e
      have : T (u n) = c := by rw [a2]; exact hn'
      exact ⟨a1, by rw [ind_eq this, ind_eq hn']⟩
theorem WF.mrg {l r u T z z' : Nat → Nat} {P' : PT} {c : Nat} (h : WF (l, r, u) T z) (c0 : c ≠ 0) (h' : WF P' (_root_.Jvm.Pilot.CStepPurseLaw_law_r8377_2c7bf5.ind T c) z') (hf : ∀ x, T x ≠ c → P'.1 x = l x ∧ P'.2.1 x = r x) : WF (P'.1, P'.2.1, fun x => if T x = c then P'.2.2 x else u x) T (fun x => if T x = c then z' x else z x) := by
  have zz0 : (if T 0 = c then z' 0 else z 0) = 0 := by rw [h.1, if_neg (Ne.symm c0)]; exact h.2.1
  refine ⟨h.1, zz0, fun n hn => ?_⟩
  by_cases hc : T n = c
  · obtain ⟨w1, w2, w3, w4, w5⟩ := h'.2.2 n ((ind_ne c0 n).mpr hc)
    rw [ind_eq hc] at w1 w2 w3
    have key : ∀ y, _root_.Jvm.Pilot.CStepPurseLaw_law_r8377_2c7bf5.ind T c y = c → T y = c := fun y hy => (ind_ne c0 y).mp (by rw [hy]; exact c0)
    have kz : ∀ y, (y ≠ 0 → T y = c) → (if T y = c then z' y else z y) = z' y := fun y hy => by
      by_cases y0 : y = 0
      · rw [y0, zz0]; exact h'.2.1.symm
      · rw [if_pos (hy y0)]
    refine ⟨fun e => ?_, fun e => ?_, fun e => ?_, w4, ?_⟩
    · obtain ⟨a1, a2⟩ := w1 e
      dsimp only
      rw [if_pos (key _ a2), key _ a2, hc]
      exact ⟨a1, rfl⟩
    · obtain ⟨a1, a2⟩ := w2 e
      dsimp only
      rw [if_pos (key _ a2), key _ a2, hc]
      exact ⟨a1, rfl⟩
    · dsimp only at e ⊢
      rw [if_pos hc] at e ⊢
      obtain ⟨a1, a2⟩ := w3 e
      rw [key _ a2, hc]
      exact ⟨a1, rfl⟩
    · dsimp only
      rw [if_pos hc, kz _ (fun e => key _ (w1 e).2), kz _ (fun e => key _ (w2 e).2)]
      exact w5
  · obtain ⟨w1, w2, w3, w4, w5⟩ := h.2.2 n hn
    obtain ⟨f1, f2⟩ := hf n hc
    dsimp only at *
    have kz : ∀ y, (y ≠ 0 → T y = T n) → (if T y = c then z' y else z y) = z y := fun y hy => by
      by_cases y0 : y = 0
      · rw [y0, zz0]; exact h.2.1.symm
      · rw [if_neg]; rw [hy y0]; exact hc
    unfold WN
    dsimp only
    rw [f1, f2]
    refine ⟨fun e => ?_, fun e => ?_, fun e => ?_, w4, ?_⟩
    · obtain ⟨a1, a2⟩ := w1 e
      rw [if_neg (by rw [a2]; exact hc)]
      exact ⟨a1, a2⟩
    · obtain ⟨a1, a2⟩ := w2 e
      rw [if_neg (by rw [a2]; exact hc)]
      exact ⟨a1, a2⟩
    · rw [if_neg hc] at e ⊢
      obtain ⟨a1, a2⟩ := w3 e
      obtain ⟨g1, g2⟩ := hf (u n) (by rw [a2]; exact hc)
      rw [g1, g2]
      exact ⟨a1, a2⟩
    · rw [if_neg hc, kz _ (fun e => (w1 e).2), kz _ (fun e => (w2 e).2)]
      exact w5
-- the class's world
theorem cWd {ph : Nat → Nat} {Pc P : PT} {T z : Nat → Nat} (h0 : ph 0 = 0) (hw : WF P T z) (hp : ∀ a, T a ≠ 0 → ph a ≠ 0 ∧ Pc.1 (ph a) = ph (P.1 a) ∧ Pc.2.1 (ph a) = ph (P.2.1 a) ∧ Pc.2.2 (ph a) = ph (P.2.2 a)) (hi : ∀ a b, T a ≠ 0 → T b ≠ 0 → ph a = ph b → a = b) :
    ∃ S zc : Nat → Nat, Iso ph Pc P S T ∧ WF Pc S zc ∧ (∀ a, LZ T a → zc (ph a) = z a) ∧ ∀ x, S x ≠ 0 → ∃ a, T a ≠ 0 ∧ ph a = x := by
  have ex : ∀ x, ∃ a, (T a ≠ 0 ∧ ph a = x) ∨ (a = 0 ∧ ∀ b, T b ≠ 0 → ph b ≠ x) := fun x => by
    by_cases q : ∃ a, T a ≠ 0 ∧ ph a = x
    · obtain ⟨a, ha⟩ := q; exact ⟨a, Or.inl ha⟩
    · exact ⟨0, Or.inr ⟨rfl, fun b hb e => q ⟨b, hb, e⟩⟩⟩
  obtain ⟨iv, hiv⟩ := Classical.axiomOfChoice ex
  have iv1 : ∀ a, T a ≠ 0 → iv (ph a) = a := fun a ha => by
    rcases hiv (ph a) with q | q
    · exact hi _ _ q.1 ha q.2
    · exact absurd rfl (q.2 a ha)
  have iv0 : iv 0 = 0 := by
    rcases hiv 0 with q | q
    · exact absurd q.2 (hp _ q.1).1
    · exact q.1
  have ivz : ∀ a, LZ T a → iv (ph a) = a := fun a ha => by
    rcases ha with e | e
    · rw [e, h0]; exact iv0
    · exact iv1 a e
  have lu : ∀ a, T a ≠ 0 → LZ T (P.2.2 a) := fun a ha => hw.lzu ha
  have hiso : Iso ph Pc P (fun x => T (iv x)) T := by
    refine ⟨h0, fun a ha => ?_, hi⟩
    obtain ⟨p1, p2, p3, p4⟩ := hp a ha
    exact ⟨p1, by show T (iv (ph a)) = T a; rw [iv1 a ha], p2, p3, p4, hw.lzl ha, hw.lzr ha, lu a ha⟩
  have back : ∀ x, T (iv x) ≠ 0 → ∃ a, T a ≠ 0 ∧ ph a = x := fun x hx => by
    rcases hiv x with q | q
    · exact ⟨iv x, q⟩
    · rw [q.1, hw.1] at hx; exact absurd rfl hx
  refine ⟨fun x => T (iv x), fun x => z (iv x), hiso, ⟨by show T (iv 0) = 0; rw [iv0]; exact hw.1, by show z (iv 0) = 0; rw [iv0]; exact hw.2.1, fun x hx => ?_⟩, fun a ha => by show z (iv (ph a)) = z a; rw [ivz a ha], back⟩
  obtain ⟨a, ha, rfl⟩ := back x hx
  obtain ⟨p1, p2, p3, p4⟩ := hp a ha
  obtain ⟨w1, w2, w3, w4, w5⟩ := hw.2.2 a ha
  have ll := hw.lzl ha
  have lr := hw.lzr ha
  have l3 := lu a ha
  have z0 : ∀ y, LZ T y → ph y ≠ 0 → y ≠ 0 := fun y _ q e => q (by rw [e]; exact h0)
  have lv : ∀ y, LZ T y → y ≠ 0 → T y ≠ 0 := fun y hy q => by rcases hy with e | e; exact absurd e q; exact e
  rw [WN, p2, p3, p4]
  rw [ivz _ ll, ivz _ lr, ivz a (Or.inr ha), ivz _ l3]
  refine ⟨fun e => ?_, fun e => ?_, fun e => ?_, fun e => ?_, w5⟩
  · have e' := z0 _ ll e
    obtain ⟨a1, a2⟩ := w1 e'
    rw [(hp _ (lv _ ll e')).2.2.2, a1]
    exact ⟨rfl, a2⟩
  · have e' := z0 _ lr e
    obtain ⟨a1, a2⟩ := w2 e'
    rw [(hp _ (lv _ lr e')).2.2.2, a1]
    exact ⟨rfl, a2⟩
  · have e' := z0 _ l3 e
    obtain ⟨a1, a2⟩ := w3 e'
    rw [(hp _ (lv _ l3 e')).2.1, (hp _ (lv _ l3 e')).2.2.1]
    refine ⟨?_, a2⟩
    rcases a1 with q | q
    · rw [q]; exact Or.inl rfl
    · rw [q]; exact Or.inr rfl
  · have : P.1 a = P.2.1 a := by
      have := congrArg iv e
      rw [ivz _ ll, ivz _ lr] at this
      exact this
    rw [w4 this]; exact h0
-- a size more, all the way up
def grF (u : Nat → Nat) : Nat → Nat → (Nat → Nat) → (Nat → Nat)
  | 0, _, z => z
  | f + 1, n, z => if n = 0 then z else grF u f (u n) (u1 z n (z n + 1))
theorem grF_wf {P : PT} {S μ : Nat → Nat} {B : Nat} (hs : WS P S) (hm : MU P S μ) (hB : ∀ x, S x ≠ 0 → μ x ≤ B) : ∀ (f p : Nat) (z : Nat → Nat), z 0 = 0 → LZ S p → (∀ x, S x ≠ 0 → x ≠ p → z x = 1 + z (P.1 x) + z (P.2.1 x)) → (p ≠ 0 → z p + 1 = 1 + z (P.1 p) + z (P.2.1 p)) → (p ≠ 0 → B < μ p + f) → WF P S (grF P.2.2 f p z) ∧ ∀ x, S x ≠ S p → grF P.2.2 f p z x = z x := by
  intro f
  induction f with
  | zero =>
    intro p z z0 hp h1 h2 h3
    by_cases p0 : p = 0
    · subst p0
      refine ⟨⟨hs.1, z0, fun n hn => ?_⟩, fun _ _ => rfl⟩
      obtain ⟨w1, w2, w3, w4⟩ := hs.2 n hn
      exact ⟨w1, w2, w3, w4, h1 n hn (hs.n0 hn)⟩
    · have hpS : S p ≠ 0 := by rcases hp with e | e; exact absurd e p0; exact e
      have := h3 p0
      have := hB p hpS
      omega
  | succ f ih =>
    intro p z z0 hp h1 h2 h3
    unfold grF
    by_cases p0 : p = 0
    · rw [if_pos p0]
      subst p0
      refine ⟨⟨hs.1, z0, fun n hn => ?_⟩, fun _ _ => rfl⟩
      obtain ⟨w1, w2, w3, w4⟩ := hs.2 n hn
      exact ⟨w1, w2, w3, w4, h1 n hn (hs.n0 hn)⟩
    · rw [if_neg p0]
      have hpS : S p ≠ 0 := by rcases hp with e | e; exact absurd e p0; exact e
      obtain ⟨w1, w2, w3, w4⟩ := hs.2 p hpS
      obtain ⟨m1, m2⟩ := hm p hpS
      have hup : P.2.2 p ≠ 0 → S (P.2.2 p) ≠ 0 ∧ μ p < μ (P.2.2 p) := fun e => by
        obtain ⟨a1, a2⟩ := w3 e
        have hS : S (P.2.2 p) ≠ 0 := by rw [a2]; exact hpS
        refine ⟨hS, ?_⟩
        obtain ⟨n1, n2⟩ := hm _ hS
        rcases a1 with q | q
        · have := n1 (by rw [q]; exact p0); rw [q] at this; exact this
        · have := n2 (by rw [q]; exact p0); rw [q] at this; exact this
      have lp : P.1 p ≠ p := fun e => by have := m1 (by rw [e]; exact p0); rw [e] at this; omega
      have rp : P.2.1 p ≠ p := fun e => by have := m2 (by rw [e]; exact p0); rw [e] at this; omega
      have hS' : S (P.2.2 p) = S p ∨ P.2.2 p = 0 := by
        by_cases e : P.2.2 p = 0
        · exact Or.inr e
        · exact Or.inl (w3 e).2
      obtain ⟨i1, i2⟩ := ih (P.2.2 p) (u1 z p (z p + 1)) (by rw [u1_o _ _ (Ne.symm p0)]; exact z0) (by
        by_cases e : P.2.2 p = 0
        · exact Or.inl e
        · exact Or.inr (hup e).1) (fun x hx hxu => by
          by_cases xp : x = p
          · subst xp
            rw [u1_s, u1_o _ _ lp, u1_o _ _ rp]
            exact h2 p0
          · rw [u1_o _ _ xp]
            obtain ⟨v1, v2, -⟩ := hs.2 x hx
            rw [u1_o _ _ (fun e => hxu (by rw [← (v1 (by rw [e]; exact p0)).1, e])), u1_o _ _ (fun e => hxu (by rw [← (v2 (by rw [e]; exact p0)).1, e]))]
            exact h1 x hx xp) (fun e => by
          obtain ⟨a1, a2⟩ := hup e
          have up : P.2.2 p ≠ p := fun q => by rw [q] at a2; omega
          rw [u1_o _ _ up]
          obtain ⟨v1, v2, v3, v4⟩ := hs.2 _ a1
          have hz := h1 _ a1 up
          rcases (w3 e).1 with q | q
          · have rq : P.2.1 (P.2.2 p) ≠ p := fun q2 => p0 (by rw [← q]; exact v4 (q.trans q2.symm))
            rw [q, u1_s, u1_o _ _ rq]
            rw [q] at hz
            omega
          · have lq : P.1 (P.2.2 p) ≠ p := fun q2 => by
              have := v4 (q2.trans q.symm)
              rw [this] at q2
              exact p0 q2.symm
            rw [q, u1_s, u1_o _ _ lq]
            rw [q] at hz
            omega) (fun e => by have := (hup e).2; have := h3 p0; omega)
      refine ⟨i1, fun x hx => ?_⟩
      rcases hS' with q | q
      · rw [i2 x (by rw [q]; exact hx), u1_o _ _ (fun e => hx (by rw [e]))]
      · cases f with
        | zero =>
          show u1 z p (z p + 1) x = z x
          rw [u1_o _ _ (fun e => hx (by rw [e]))]
        | succ f =>
          rw [q]
          unfold grF
          rw [if_pos rfl, u1_o _ _ (fun e => hx (by rw [e]))]
