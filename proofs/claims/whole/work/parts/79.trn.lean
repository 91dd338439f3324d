-- turning up: one root; both pictures; the invariant
theorem tuF_sp : ∀ (f : Nat) (P : PT) (n s : Nat), (tuF f P n s).1 = (tuF f P n 0).1 ∧ (tuF f P n s).2 = s + (tuF f P n 0).2 := by
  intro f
  induction f with
  | zero => intro P n s; exact ⟨rfl, rfl⟩
  | succ f ih =>
    intro P n s
    by_cases u0 : P.2.2 n = 0
    · have e : ∀ t, tuF (f + 1) P n t = (P, t) := fun t => by unfold tuF; rw [if_pos u0]
      rw [e, e]
      exact ⟨rfl, rfl⟩
    · rw [tuF_S f P n s u0, tuF_S f P n 0 u0]
      obtain ⟨a1, a2⟩ := ih (tu1 P n) n (s + 1)
      obtain ⟨b1, b2⟩ := ih (tu1 P n) n (0 + 1)
      exact ⟨a1.trans b1.symm, by rw [a2, b2]; omega⟩
def Unq (P : PT) (T : Nat → Nat) (κ : Nat) : Prop := ∀ x y, T x = κ → T y = κ → P.2.2 x = 0 → P.2.2 y = 0 → x = y
theorem Unq.rot {P : PT} {T z : Nat → Nat} {κ n : Nat} (h : Unq P T κ) (hw : WF P T z) (κ0 : κ ≠ 0) (hn : T n = κ) (hu : P.2.2 n ≠ 0) : Unq (_root_.Jvm.Pilot.CStepPurseLaw_law_r8377_2c7bf5.rot P n) T κ := by
  have hn0 : T n ≠ 0 := by rw [hn]; exact κ0
  obtain ⟨d1, d2, d3, d4, d5, d6, d7⟩ := rot_dist hw hn0 hu
  have hp := (hw.up_lt hn0 hu).2
  have n0 := hw.n0 hn0
  have key : ∀ x, (_root_.Jvm.Pilot.CStepPurseLaw_law_r8377_2c7bf5.rot P n).2.2 x = 0 → (x = n ∧ P.2.2 (P.2.2 n) = 0) ∨ (x ≠ n ∧ x ≠ P.2.2 n ∧ P.2.2 x = 0) := by
    intro x hx
    by_cases h1 : P.1 (P.2.2 n) = n
    · rw [(rot_A h1 hu d1 d2 d3).2.2 x] at hx
      by_cases q : x = n
      · rw [if_pos q] at hx; exact Or.inl ⟨q, hx⟩
      · rw [if_neg q] at hx
        by_cases q2 : x = P.2.2 n
        · rw [if_pos q2] at hx; exact absurd hx n0
        · rw [if_neg q2] at hx
          by_cases q3 : x = P.2.1 n ∧ P.2.1 n ≠ 0
          · rw [if_pos q3] at hx; exact absurd hx hu
          · rw [if_neg q3] at hx; exact Or.inr ⟨q, q2, hx⟩
    · rw [(rot_B h1 hu d1 d2 d3).2.2 x] at hx
      by_cases q : x = n
      · rw [if_pos q] at hx; exact Or.inl ⟨q, hx⟩
      · rw [if_neg q] at hx
        by_cases q2 : x = P.2.2 n
        · rw [if_pos q2] at hx; exact absurd hx n0
        · rw [if_neg q2] at hx
          by_cases q3 : x = P.1 n ∧ P.1 n ≠ 0
          · rw [if_pos q3] at hx; exact absurd hx hu
          · rw [if_neg q3] at hx; exact Or.inr ⟨q, q2, hx⟩
  intro x y tx ty hx hy
  rcases key x hx with ⟨a1, a2⟩ | ⟨a1, a2, a3⟩
  · rcases key y hy with ⟨b1, b2⟩ | ⟨b1, b2, b3⟩
    · rw [a1, b1]
    · exact absurd (h y (P.2.2 n) ty (hp.trans hn) b3 a2) b2
  · rcases key y hy with ⟨b1, b2⟩ | ⟨b1, b2, b3⟩
    · exact absurd (h x (P.2.2 n) tx (hp.trans hn) a3 b2) a2
    · exact h x y tx ty a3 b3
theorem Unq.tu1 {P : PT} {T z : Nat → Nat} {κ n : Nat} (h : Unq P T κ) (hw : WF P T z) (κ0 : κ ≠ 0) (hn : T n = κ) (hu : P.2.2 n ≠ 0) : Unq (_root_.Jvm.Pilot.CStepPurseLaw_law_r8377_2c7bf5.tu1 P n) T κ := by
  have hn0 : T n ≠ 0 := by rw [hn]; exact κ0
  have hp := (hw.up_lt hn0 hu).2
  have hp0 : T (P.2.2 n) ≠ 0 := by rw [hp]; exact hn0
  unfold _root_.Jvm.Pilot.CStepPurseLaw_law_r8377_2c7bf5.tu1
  by_cases g : P.2.2 (P.2.2 n) = 0
  · rw [if_pos g]; exact h.rot hw κ0 hn hu
  · rw [if_neg g]
    by_cases q : zz P n = true
    · rw [if_pos q]
      obtain ⟨y1, -⟩ := zz_up hw hn0 hu g q
      exact (h.rot hw κ0 (hp.trans hn) g).rot (rot_wf hw hp0 g) κ0 hn (by rw [y1]; exact hu)
    · rw [if_neg q]
      obtain ⟨r4, -⟩ := rot_up hw hn0 hu
      exact (h.rot hw κ0 hn hu).rot (rot_wf hw hn0 hu) κ0 hn (by rw [r4]; exact g)
theorem Unq.tuF {T : Nat → Nat} {κ n B : Nat} (κ0 : κ ≠ 0) (hn : T n = κ) : ∀ (f : Nat) (P : PT) (s : Nat) (z : Nat → Nat), Unq P T κ → WF P T z → (∀ x, T x ≠ 0 → z x ≤ B) → Unq (_root_.Jvm.Pilot.CStepPurseLaw_law_r8377_2c7bf5.tuF f P n s).1 T κ := by
  intro f
  induction f with
  | zero => intro P s z h _ _; exact h
  | succ f ih =>
    intro P s z h hw hB
    have hn0 : T n ≠ 0 := by rw [hn]; exact κ0
    by_cases u0 : P.2.2 n = 0
    · have e : _root_.Jvm.Pilot.CStepPurseLaw_law_r8377_2c7bf5.tuF (f + 1) P n s = (P, s) := by
        unfold _root_.Jvm.Pilot.CStepPurseLaw_law_r8377_2c7bf5.tuF; rw [if_pos u0]
      rw [e]; exact h
    · rw [tuF_S f P n s u0]
      obtain ⟨z', w1, w2, -⟩ := tu1_ok hw hB hn0 u0
      exact ih (_root_.Jvm.Pilot.CStepPurseLaw_law_r8377_2c7bf5.tu1 P n) (s + 1) z' (h.tu1 hw κ0 hn u0) w1 w2
-- frames
theorem Chn_cg {nx nx' : Nat → Nat} : ∀ {l : List Nat} {a : Nat}, (∀ x, x ∈ l → nx' x = nx x) → Chn nx a l → Chn nx' a l
  | [], _, _, h => h
  | e :: t, a, hx, h => by
    obtain ⟨h1, h2, h3⟩ := h
    refine ⟨h1, h2, ?_⟩
    rw [hx e (List.mem_cons_self ..)]
    exact Chn_cg (fun x q => hx x (List.mem_cons_of_mem _ q)) h3
theorem upI_cg {P P' : PT} {T z : Nat → Nat} (hw : WF P T z) {a : Nat} (ha : T a ≠ 0) (fr : ∀ x, T x = T a → P'.2.2 x = P.2.2 x) (k : Nat) : upI P' k a = upI P k a :=
  upI_fr k a (fun j _ hn => fr _ (upI_z hw j a ha hn).2) (hw.n0 ha)
theorem OrK.fr {P P' : PT} {ky ky' : Nat → Int64} {T z : Nat → Nat} {a : Nat} (h : OrK P ky a) (hw : WF P T z) (ha : T a ≠ 0) (fr : ∀ x, T x = T a → P'.1 x = P.1 x ∧ P'.2.1 x = P.2.1 x ∧ P'.2.2 x = P.2.2 x ∧ ky' x = ky x) : OrK P' ky' a := by
  intro k
  rw [upI_cg hw ha (fun x hx => (fr x hx).2.2.1) (k + 1), upI_cg hw ha (fun x hx => (fr x hx).2.2.1) k]
  intro u0
  have t1 := (upI_z hw (k + 1) a ha u0).2
  obtain ⟨f1, f2, f3, f4⟩ := fr _ t1
  rw [f1, f2, f4, (fr a rfl).2.2.2]
  exact h k u0
theorem Lft.fr {P P' : PT} {ky ky' : Nat → Int64} {T z : Nat → Nat} {a t : Nat} (h : Lft P ky a t) (hw : WF P T z) (ha : T a ≠ 0) (fr : ∀ x, T x = T a → P'.1 x = P.1 x ∧ P'.2.2 x = P.2.2 x ∧ ky' x = ky x) (ht : t ≠ 0 → ky' t = ky t) : Lft P' ky' a t := by
  intro k
  rw [upI_cg hw ha (fun x hx => (fr x hx).2.1) (k + 1), upI_cg hw ha (fun x hx => (fr x hx).2.1) k]
  intro u0
  have t1 := (upI_z hw (k + 1) a ha u0).2
  obtain ⟨f1, f2, f3⟩ := fr _ t1
  rw [f1, f3]
  intro g
  obtain ⟨g1, g2⟩ := h k u0 g
  exact ⟨g1, by rw [ht g1]; exact g2⟩
/-- the node from which the way last went left is in the tree -/
theorem JL.keep {m m' : MS} {c c' : CS} {d d' : DS} {T z : Nat → Nat} (jl : JL m c d T) (hw : WF c.P T z) (hK : m'.K = m.K) (hkd : ∀ s, s < m.K → m'.kd s = m.kd s) (hT : ∀ a, T a ≠ 0 → T a ≤ m.K) (h0 : ∀ s, s < m.K → m.kd s ≠ 0 → c'.la s = 0) (hs : ∀ s, s < m.K → m.kd s = 0 → c'.la s = c.la s ∧ c'.tl s = c.tl s ∧ c'.dp s = c.dp s ∧ c'.ro s = c.ro s) (hP : ∀ a, T a ≠ 0 → m.kd (T a - 1) = 0 → c'.P.1 a = c.P.1 a ∧ c'.P.2.1 a = c.P.2.1 a ∧ c'.P.2.2 a = c.P.2.2 a ∧ c'.ck a = c.ck a)
    (hph : ∀ s, s < m.K → m.kd s = 0 → ∀ t, c.la s ≠ 0 → c.tl s = d.ph t → (t = 0 ∨ T t = s + 1) → Lft c.P c.ck (c.la s) t → ∃ t', c.tl s = d'.ph t' ∧ (t' = 0 ∨ T t' = s + 1) ∧ Lft c.P c.ck (c.la s) t' ∧ (t' ≠ 0 → c'.ck t' = c.ck t')) : JL m' c' d' T := by
  obtain ⟨j1, j2, j3⟩ := jl
  have tr : ∀ a, T a ≠ 0 → m.kd (T a - 1) = 0 → ∀ x, T x = T a → c'.P.1 x = c.P.1 x ∧ c'.P.2.1 x = c.P.2.1 x ∧ c'.P.2.2 x = c.P.2.2 x ∧ c'.ck x = c.ck x := fun a ha hk x hx => hP x (by rw [hx]; exact ha) (by rw [hx]; exact hk)
  refine ⟨fun s hsK hk => ?_, fun s hsK hk => ?_, fun a ha hk => ?_⟩
  · rw [hK] at hsK
    rw [hkd s hsK] at hk
    exact h0 s hsK hk
  · rw [hK] at hsK
    rw [hkd s hsK] at hk
    obtain ⟨e1, e2, e3, e4⟩ := hs s hsK hk
    intro l0
    rw [e1] at l0
    obtain ⟨t1, t2, t, t3, t4, t5⟩ := j2 s hsK hk l0
    have tl0 : T (c.la s) ≠ 0 := by rw [t1]; exact Nat.succ_ne_zero s
    have frr := tr (c.la s) tl0 (by rw [t1, Nat.add_sub_cancel]; exact hk)
    rw [e1, e2, e3, e4]
    obtain ⟨t', y1, y2, y3, y4⟩ := hph s hsK hk t l0 t3 t4 t5
    refine ⟨t1, ?_, t', y1, y2, y3.fr hw tl0 (fun x hx => ⟨(frr x hx).1, (frr x hx).2.2.1, (frr x hx).2.2.2⟩) y4⟩
    rw [upI_cg hw tl0 (fun x hx => (frr x hx).2.2.1)]
    exact t2
  · have hb := hT a ha
    have hpos : 1 ≤ T a := by omega
    rw [hkd _ (by omega)] at hk
    exact (j3 a ha hk).fr hw ha (tr a ha hk)
theorem Ms_ind (T : Nat → Nat) {κ : Nat} (κ0 : κ ≠ 0) (f : Nat → Nat) : Sm (ind T κ) κ f = Sm T κ f := Sm_T (fun a => by
  unfold ind
  constructor
  · intro h
    by_cases q : T a = κ
    · exact q
    · rw [if_neg q] at h; exact absurd h.symm κ0
  · intro h; rw [if_pos h]) f
/-- a node of a TURNING tree is turned up, on both sides -/
theorem turn_JJ {m : MS} {c : CS} {d : DS} {B : AH} {T z : Nat → Nat} {V R : Nat → List Nat} {FN FI : List Nat} {ow : Nat → Nat} (hj : JJ m c d B T z V R FN FI ow) {s n : Nat} (hs : s < m.K) (hk : m.kd s = 1) (hn : T n = s + 1) {z' : Nat → Nat} (hz' : WF (tuF 20003 c.P n 0).1 (ind T (s + 1)) z') (h0 : (tuF 20003 c.P n 0).1.2.2 n = 0) (sp : Nat) :
    (tuF 20003 m.P n sp).2 = sp + (tuF 20003 c.P n 0).2 ∧ (tuF 20003 c.P n 0).2 ≤ 20003 ∧ JJ ((m.sP (tuF 20003 m.P n sp).1).srt (u1 m.rt s n)) (cSet c s n (ind T (s + 1)) (s + 1) z' 0) d B T (fun a => if T a = s + 1 then z' a else z a) V R FN FI ow := by
  obtain ⟨jb, js, jt, jr, jp, jd, jv, ji, jf, jw, jh, jz, jl⟩ := id hj
  have κ0 : s + 1 ≠ 0 := Nat.succ_ne_zero s
  have hWi : WF c.P (ind T (s + 1)) z := WF.ind (l := c.P.1) (r := c.P.2.1) (u := c.P.2.2) (u' := c.P.2.2) jt.1 κ0 (fun _ _ => rfl)
  have hIn : ind T (s + 1) n = s + 1 := ind_eq hn
  have hIn0 : ind T (s + 1) n ≠ 0 := by rw [hIn]; exact κ0
  have lv : ∀ a, ind T (s + 1) a ≠ 0 → T a = s + 1 := fun a ha => (ind_ne κ0 a).mp ha
  have lv0 : ∀ a, T a = s + 1 → T a ≠ 0 := fun a ha => by rw [ha]; exact κ0
  have hWm : WF m.P (ind T (s + 1)) z := hWi.pt (fun a ha => by
    have p := jp.2 a (lv0 a (lv a ha))
    exact ⟨p.1, p.2.1, p.2.2.2 (by rw [lv a ha, Nat.add_sub_cancel]; omega)⟩)
  have hB : ∀ x, ind T (s + 1) x ≠ 0 → z x ≤ 20002 := fun x hx => by
    have := hj.zle (Or.inr (lv0 x (lv x hx))); omega
  have hTi : ind T (s + 1) 0 = 0 := by
    unfold ind
    rw [jt.1.1, if_neg (fun q => κ0 q.symm)]
  obtain ⟨zc, c1, c2, c3, c4, c5, c6⟩ := tuF_ok (B := 20002) hIn0 20003 c.P 0 z hWi hB (by omega)
  obtain ⟨zm, m1, m2, m3, m4, m5, m6⟩ := tuF_ok (B := 20002) hIn0 20003 m.P 0 z hWm hB (by omega)
  have hiso : Iso (fun a => a) c.P m.P (ind T (s + 1)) (ind T (s + 1)) := by
    refine ⟨rfl, fun a ha => ?_, fun a b _ _ e => e⟩
    have p := jp.2 a (lv0 a (lv a ha))
    exact ⟨hWi.n0 ha, rfl, p.1.symm, p.2.1.symm, (p.2.2.2 (by rw [lv a ha, Nat.add_sub_cancel]; omega)).symm, hWm.lzl ha, hWm.lzr ha, hWm.lzu ha⟩
  obtain ⟨i1, i2⟩ := Iso.tuF (B := 20002) hTi hIn0 20003 c.P m.P 0 z hiso hWi hB
  have eQ := (tuF_sp 20003 m.P n sp).1
  have frc : ∀ x, T x ≠ s + 1 → (tuF 20003 c.P n 0).1.1 x = c.P.1 x ∧ (tuF 20003 c.P n 0).1.2.1 x = c.P.2.1 x ∧ (tuF 20003 c.P n 0).1.2.2 x = c.P.2.2 x := fun x hx => c4 x (by rw [hIn]; unfold ind; rw [if_neg hx]; exact fun q => κ0 q.symm)
  have frm : ∀ x, T x ≠ s + 1 → (tuF 20003 m.P n 0).1.1 x = m.P.1 x ∧ (tuF 20003 m.P n 0).1.2.1 x = m.P.2.1 x ∧ (tuF 20003 m.P n 0).1.2.2 x = m.P.2.2 x := fun x hx => m4 x (by rw [hIn]; unfold ind; rw [if_neg hx]; exact fun q => κ0 q.symm)
  have unq : Unq (tuF 20003 c.P n 0).1 (ind T (s + 1)) (s + 1) := by
    refine Unq.tuF κ0 hIn 20003 c.P 0 z (fun x y hx hy ux uy => ?_) hWi hB
    have tx := lv x (by rw [hx]; exact κ0)
    have ty := lv y (by rw [hy]; exact κ0)
    rw [(jr s hs).2.2.2 x tx ux, (jr s hs).2.2.2 y ty uy]
  have hW' : WF (tuF 20003 c.P n 0).1 T (fun a => if T a = s + 1 then z' a else z a) := by
    have := WF.mrg (l := c.P.1) (r := c.P.2.1) (u := c.P.2.2) jt.1 κ0 hz' (fun x hx => ⟨(frc x hx).1, (frc x hx).2.1⟩)
    refine this.pt (fun a ha => ⟨rfl, rfl, ?_⟩)
    show _ = if T a = s + 1 then (tuF 20003 c.P n 0).1.2.2 a else c.P.2.2 a
    by_cases q : T a = s + 1
    · rw [if_pos q]
    · rw [if_neg q]; exact (frc a q).2.2
  refine ⟨by rw [(tuF_sp 20003 m.P n sp).2, ← i1], by omega, jb, js.cg rfl rfl rfl rfl rfl, ⟨hW', jt.2⟩, ?_, ⟨?_, fun a ha => ?_⟩, jd, jv.cg rfl rfl rfl rfl rfl rfl rfl rfl rfl, ji.cg rfl rfl rfl rfl, ?_, ⟨fun t ht hkt => ?_, jw.2⟩, jh.cg rfl rfl rfl rfl rfl, ⟨fun r hr => ?_, fun a ha hka => ?_, jz.2.2⟩, ?_⟩
  · intro r hr
    have hr : r < m.K := hr
    obtain ⟨r1, r2, r3, r4⟩ := jr r hr
    by_cases q : r = s
    · subst q
      refine ⟨fun _ => ⟨?_, (r1 (by omega)).2⟩, fun h4 => ?_, fun _ => ?_, fun a ha hu => ?_⟩
      · show u1 m.rt r n r = u1 c.ro r n r
        rw [u1_s, u1_s]
      · have h4 : 4 ≤ m.kd r := h4
        omega
      · show T (u1 c.ro r n r) = r + 1 ∧ (tuF 20003 c.P n 0).1.2.2 (u1 c.ro r n r) = 0
        rw [u1_s]
        exact ⟨hn, h0⟩
      · show a = u1 c.ro r n r
        rw [u1_s]
        exact unq a n (ind_eq ha) hIn hu h0
    · have e1 : u1 m.rt s n r = m.rt r := u1_o _ _ q
      have e2 : u1 c.ro s n r = c.ro r := u1_o _ _ q
      refine ⟨fun h3 => ?_, fun h4 => ?_, fun h5 => ?_, fun a ha hu => ?_⟩
      · show u1 m.rt s n r = u1 c.ro s n r ∧ m.pl r = 0
        rw [e1, e2]; exact r1 h3
      · show u1 c.ro s n r = 0
        rw [e2]; exact r2 h4
      · have h5 : u1 c.ro s n r ≠ 0 := h5
        show T (u1 c.ro s n r) = r + 1 ∧ (tuF 20003 c.P n 0).1.2.2 (u1 c.ro s n r) = 0
        rw [e2] at h5 ⊢
        obtain ⟨y1, y2⟩ := r3 h5
        refine ⟨y1, ?_⟩
        rw [(frc _ (by rw [y1]; omega)).2.2]
        exact y2
      · show a = u1 c.ro s n r
        rw [e2]
        have hu : (tuF 20003 c.P n 0).1.2.2 a = 0 := hu
        rw [(frc a (by rw [ha]; omega)).2.2] at hu
        exact r4 a ha hu
  · show BP (tuF 20003 m.P n sp).1
    exact BP_tuF (by have := jt.2.1.2 n (lv0 n hn); omega) 20003 m.P sp jp.1
  · have p := jp.2 a ha
    show (tuF 20003 m.P n sp).1.1 a = (tuF 20003 c.P n 0).1.1 a ∧ (tuF 20003 m.P n sp).1.2.1 a = (tuF 20003 c.P n 0).1.2.1 a ∧ m.ky a = c.ck a ∧ (m.kd (T a - 1) ≤ 1 → (tuF 20003 m.P n sp).1.2.2 a = (tuF 20003 c.P n 0).1.2.2 a)
    rw [eQ]
    by_cases q : T a = s + 1
    · obtain ⟨-, -, w1, w2, w3, -⟩ := i2.2.1 a (by rw [ind_eq q]; exact κ0)
      exact ⟨w1.symm, w2.symm, p.2.2.1, fun _ => w3.symm⟩
    · obtain ⟨f1, f2, f3⟩ := frc a q
      obtain ⟨g1, g2, g3⟩ := frm a q
      rw [f1, f2, f3, g1, g2, g3]
      exact p
  · refine ⟨?_, jf.2⟩
    show Chn (tuF 20003 m.P n sp).1.1 m.fn FN
    rw [eQ]
    refine Chn_cg (fun x hx => (frm x ?_).1) jf.1
    rw [(jf.2.2.1 x hx).1]
    exact fun q => κ0 q.symm
  · have ht : t < m.K := ht
    have hkt : 4 ≤ m.kd t := hkt
    have ne : t ≠ s := fun q => by rw [q] at hkt; omega
    have e1 : ((m.sP (tuF 20003 m.P n sp).1).srt (u1 m.rt s n)).rt t = m.rt t := u1_o _ _ ne
    have w := jw.1 t ht hkt
    refine ⟨?_, w.2⟩
    rw [e1]
    exact w.1
  · have hr : r < m.K := hr
    obtain ⟨z1, z2, z3, z4⟩ := jz.1 r hr
    refine ⟨z1, z2, fun h1 => ?_, fun h2 h3 => ?_⟩
    · show u1 c.lg s (0 + Gs (Ms (ind T (s + 1)) (s + 1)) z') r = _
      by_cases q : r = s
      · subst q
        rw [u1_s, Nat.zero_add]
        have e := Ms_ind T κ0 (fun a => Nat.log2 (z' a))
        have e2 : Gs (Ms (ind T (r + 1)) (r + 1)) z' = Sm (ind T (r + 1)) (r + 1) (fun a => Nat.log2 (z' a)) := rfl
        rw [e2, e]
        refine Sm_congr jt.2.1 κ0 (fun a ha => ?_)
        show Nat.log2 (z' a) = Nat.log2 (if T a = r + 1 then z' a else z a)
        rw [if_pos ha]
      · rw [u1_o _ _ q, z3 h1]
        refine Sm_congr (s := r + 1) jt.2.1 (Nat.succ_ne_zero r) (fun a ha => ?_)
        show Nat.log2 (z a) = Nat.log2 (if T a = s + 1 then z' a else z a)
        rw [if_neg (show ¬ T a = s + 1 by rw [ha]; omega)]
    · have h2 : 2 ≤ m.kd r := h2
      show c.hy r = _
      have ne : r ≠ s := fun q => by rw [q] at h2; omega
      rw [z4 h2 h3]
      refine Sm_congr (s := r + 1) jt.2.1 (Nat.succ_ne_zero r) (fun a ha => ?_)
      have ta : T a ≠ 0 := by rw [ha]; exact Nat.succ_ne_zero r
      have na : ¬ T a = s + 1 := by rw [ha]; omega
      show hv c.P z a = hv (tuF 20003 c.P n 0).1 (fun a => if T a = s + 1 then z' a else z a) a
      unfold hv
      rw [(frc a na).2.1]
      simp only [na, if_false]
      have hrt : z (c.P.2.1 a) = if T (c.P.2.1 a) = s + 1 then z' (c.P.2.1 a) else z (c.P.2.1 a) := by
        by_cases r0 : c.P.2.1 a = 0
        · rw [r0, jt.1.1, if_neg (fun q => κ0 q.symm)]
        · rw [if_neg (by rw [((jt.1.2.2 a ta).2.1 r0).2]; exact na)]
      rw [← hrt]
  · have hka : 1 ≤ m.kd (T a - 1) := hka
    show (if ind T (s + 1) a = s + 1 then z' a else c.cz a) = if T a = s + 1 then z' a else z a
    by_cases q : T a = s + 1
    · rw [if_pos (ind_eq q), if_pos q]
    · rw [if_neg (fun g => q (lv a (by rw [g]; exact κ0))), if_neg q]
      exact jz.2.1 a ha hka
  · refine JL.keep (m := m) (c := c) (d := d) (z := z) jl jt.1 rfl (fun _ _ => rfl) (fun a ha => (jt.2.2 a ha).1) (fun r hr h1 => ?_) (fun r hr h1 => ?_) (fun a ha hka => ?_) (fun r hr h1 t l0 g1 g2 g3 => ⟨t, g1, g2, g3, fun _ => rfl⟩)
    · show u1 c.la s 0 r = 0
      by_cases q : r = s
      · rw [q, u1_s]
      · rw [u1_o _ _ q]; exact jl.1 r hr h1
    · have ne : r ≠ s := fun q => by rw [q] at h1; omega
      exact ⟨u1_o _ _ ne, rfl, rfl, u1_o _ _ ne⟩
    · have na : T a ≠ s + 1 := fun q => by rw [q, Nat.add_sub_cancel] at hka; omega
      obtain ⟨f1, f2, f3⟩ := frc a na
      exact ⟨f1, f2, f3, rfl⟩
