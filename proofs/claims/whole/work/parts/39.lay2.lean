-- lay, and what is read off it
theorem zF_u (P : PT) (u : Nat → Nat) : ∀ (f a : Nat), zF f (P.1, P.2.1, u) a = zF f P a := by
  intro f
  induction f with
  | zero => intro a; rfl
  | succ f ih =>
    intro a
    show (if a = 0 then 0 else 1 + zF f (P.1, P.2.1, u) (P.1 a) + zF f (P.1, P.2.1, u) (P.2.1 a)) = (if a = 0 then 0 else 1 + zF f P (P.1 a) + zF f P (P.2.1 a))
    rw [ih, ih]
theorem zf_u (P : PT) (u : Nat → Nat) (a : Nat) : zf (P.1, P.2.1, u) a = zf P a := zF_u P u 20003 a
theorem pdF_u (P : PT) (u : Nat → Nat) : ∀ (f a d : Nat), pdF f (P.1, P.2.1, u) a d = pdF f P a d := by
  intro f
  induction f with
  | zero => intro a d; rfl
  | succ f ih =>
    intro a d
    show (if a = 0 then [] else (a, d) :: (pdF f (P.1, P.2.1, u) (P.1 a) (d + 1) ++ pdF f (P.1, P.2.1, u) (P.2.1 a) (d + 1))) = (if a = 0 then [] else (a, d) :: (pdF f P (P.1 a) (d + 1) ++ pdF f P (P.2.1 a) (d + 1)))
    rw [ih, ih]
theorem pd_dlt {P : PT} : ∀ (f a e : Nat) (p : Nat × Nat), p ∈ pdF f P a e → p.2 < e + f := by
  intro f
  induction f with
  | zero => intro a e p hp; cases hp
  | succ f ih =>
    intro a e p hp
    rw [show pdF (f + 1) P a e = if a = 0 then [] else (a, e) :: (pdF f P (P.1 a) (e + 1) ++ pdF f P (P.2.1 a) (e + 1)) from rfl] at hp
    by_cases a0 : a = 0
    · rw [if_pos a0] at hp; cases hp
    · rw [if_neg a0] at hp
      rcases List.mem_cons.mp hp with q | q
      · rw [q]; show e < e + (f + 1); omega
      · rcases List.mem_append.mp q with q | q
        · have := ih _ _ p q; omega
        · have := ih _ _ p q; omega
def hv (P : PT) (z : Nat → Nat) (a : Nat) : Nat := if z a < 2 * z (P.2.1 a) then 1 else 0
def gp (k : Nat) (P : PT) (z : Nat → Nat) (a : Nat) : Nat := if k = 1 then 3 * Nat.log2 (z a) else if k = 2 ∨ k = 3 then hv P z a else 0
def prow (k n p : Nat) : Nat := if p / 2 ≤ n then 2 * (n - p / 2) else if k = 5 then p / 2 - n else 0
def mxD (b : Nat) (W : List (Nat × Nat)) : Nat := W.foldl (fun b p => max b p.2) b
/-- what the scratch rows hold behind lay -/
def Laid (q : SCT) (W : List (Nat × Nat)) (z : Nat → Nat) : Prop := q.2.2.2.2 = nI W.length ∧ W.length ≤ 20002 ∧ (∀ i p, W[i]? = some p → q.1 i = en p.1) ∧ ∀ p, p ∈ W → q.2.2.2.1 (p.1 - 1) = nI p.2 ∧ q.2.2.1 (p.1 - 1) = nI (z p.1) ∧ 1 ≤ p.1 ∧ p.1 ≤ 20002 ∧ p.2 < 20003
theorem Laid.at {q : SCT} {o t : List (Nat × Nat)} {p : Nat × Nat} {z : Nat → Nat} (h : Laid q (o ++ p :: t) z) : q.1 o.length = en p.1 ∧ o.length < 20002 ∧ q.2.2.2.1 (p.1 - 1) = nI p.2 ∧ q.2.2.1 (p.1 - 1) = nI (z p.1) ∧ 1 ≤ p.1 ∧ p.1 ≤ 20002 ∧ p.2 < 20003 := by
  refine ⟨h.2.2.1 o.length p (by rw [List.getElem?_append_right (Nat.le_refl _), Nat.sub_self, List.getElem?_cons_zero]), ?_, h.2.2.2 p (List.mem_append_right _ List.mem_cons_self)⟩
  have := h.2.1
  rw [List.length_append, List.length_cons] at this
  omega
section Lay2
variable (L : Nat) (xs : Nat → Int32)
theorem ly {h : AH} (hb : MB h) (m : MS) {up T z : Nat → Nat} (hw : WF (m.P.1, m.P.2.1, up) T z) (hT : TN T) {r : Nat} (hr : LZ T r) :
    ∃ q : SCT, Laid q (pdF 20003 m.P r 0) z ∧ (pdF 20003 m.P r 0).length = z r ∧ (∀ p, p ∈ pdF 20003 m.P r 0 → T p.1 ≠ 0) ∧ XM L xs 59 [.ref 8, .int (en r)] (ml h m) = some (ml h (m.sW q), none) := by
  obtain ⟨O, Pi, Z, F, e1, e2, e3⟩ := m_59 L xs (MB_ml hb m) hw hT.2 (fun a ha => ⟨by have := hw.n0 ha; rw [show a = a - 1 + 1 from by omega]; rfl, by have := hw.n0 ha; rw [show a = a - 1 + 1 from by omega]; rfl⟩) hr
  rw [pdF_u] at e1 e2
  have hz := hw.z_le hT.2 hr
  have hlen : (pdF 20003 m.P r 0).length = z r := by
    rw [← pdF_u m.P up, pdF_len, zF_eq hw 20003 r hr (by omega)]
  have hS : ∀ p, p ∈ pdF 20003 m.P r 0 → T p.1 ≠ 0 := by
    intro p hp
    obtain ⟨i0, i1, -⟩ := pd_up hw 20003 r 0 hr (by omega) p.1 (by rw [pdF_u]; exact List.mem_map.mpr ⟨p, hp, rfl⟩)
    rw [i1]
    rcases hr with q | q
    · exact absurd q i0
    · exact q
  refine ⟨(O, Pi, Z, F, nI (z r)), ⟨by rw [hlen], by omega, e1, fun p hp => ⟨(e2 p hp).1, (e2 p hp).2, Nat.pos_of_ne_zero (hw.n0 (hS p hp)), hT.2 _ (hS p hp), ?_⟩⟩, hlen, hS, ?_⟩
  · have := pd_dlt 20003 r 0 p hp; omega
  · rw [e3, sc_ml]
theorem m_64 {h : AH} (hb : MB h) (m : MS) {up T z : Nat → Nat} (hw : WF (m.P.1, m.P.2.1, up) T z) (hT : TN T) {s : Nat} (hs : s < 40) (hr : LZ T (m.rt s)) :
    ∃ q : SCT, XM L xs 64 [.ref 8, .int (nI s)] (ml h m) = some (ml h (m.sW q), some (.int (nI (z (m.rt s))))) := by
  obtain ⟨b1, b2, b3, b4⟩ := id hb
  obtain ⟨q, l1, l2, l3, l4⟩ := ly L xs hb m hw hT hr
  refine ⟨q, ?_⟩
  rw [en_64, k_64_0]
  simp only [Hml, b1, b2, b3, b4, HF10, gd_t, decide_true, Bool.and_self, HQ, HZ, inb_nI hs (by decide), nI_clamp (show s < 2 ^ 31 by omega), cc_9_109_10, l4, bV_s, SWq, l1.1, l2]
theorem m_92 {h : AH} (hb : MB h) (m : MS) {up T z : Nat → Nat} (hw : WF (m.P.1, m.P.2.1, up) T z) (hT : TN T) {r : Nat} (hr : LZ T r) :
    ∃ q : SCT, XM L xs 92 [.ref 8, .int (en r)] (ml h m) = some (ml h (m.sW q), some (.int (nI (z r)))) := by
  obtain ⟨b1, b2, b3, b4⟩ := id hb
  rw [en_92, k_92_0]
  by_cases r0 : r = 0
  · subst r0
    refine ⟨(m.O, m.Pi, m.Z, m.F, m.la), ?_⟩
    rw [en_0, if_neg (by decide), k_92_5, hw.2.1]
    rfl
  · have hrT : T r ≠ 0 := by rcases hr with e | e; exact absurd e r0; exact e
    obtain ⟨q, l1, l2, l3, l4⟩ := ly L xs hb m hw hT hr
    have := hT.2 r hrT
    refine ⟨q, ?_⟩
    rw [if_pos (fun e => r0 ((en_m1 (by omega)).mp e)), k_92_7]
    simp only [Hml, b1, b2, b3, b4, HF10, gd_t, decide_true, Bool.and_self, HQ, HZ, cc_9_109_10, l4, bV_s, SWq, l1.1, l2]
theorem hv_le (P : PT) (z : Nat → Nat) (a : Nat) : hv P z a ≤ 1 := by unfold hv; split <;> omega
/-- potential's loop -/
theorem m_65_loop {h : AH} (hb : MB h) (m : MS) {up T z : Nat → Nat} (hw : WF (m.P.1, m.P.2.1, up) T z) (hT : TN T) {s : Nat} (hs : s < 40) (hk : m.kd s ≤ 3) {q : SCT} {W : List (Nat × Nat)} (hq : Laid q W z) (hWT : ∀ p, p ∈ W → T p.1 ≠ 0) (hch : ∀ p, p ∈ W → m.P.2.1 p.1 ≠ 0 → m.P.2.1 p.1 ∈ W.map Prod.fst) :
    ∀ (t o : List (Nat × Nat)) (b : Nat) (l4 : Value), o ++ t = W → X L xs 65 77 [.ref 8, .int (nI s), .int (nI b), .int (nI o.length), l4] [] (ml h (m.sW q)) = some (ml h (m.sW q), some (.int (nI (b + (t.map (fun p => gp (m.kd s) m.P z p.1)).sum)))) := by
  obtain ⟨b1, b2, b3, b4⟩ := id hb
  have hs2 : s < 2 ^ 31 := by omega
  intro t
  induction t with
  | nil =>
    intro o b l4 he
    rw [List.append_nil] at he
    rw [k_65_77]
    simp only [Hml, b1, b2, b3, b4, HF10, gd_t, decide_true, Bool.and_self, HQ, HZ, SWq, hq.1, ← he]
    rw [if_pos (nI_le (Nat.le_refl _) (by have := hq.2.1; rw [← he] at this; omega)), k_65_178]
    rfl
  | cons p t ih =>
    intro o b l4 he
    have hq' := hq
    rw [← he] at hq'
    obtain ⟨a1, a2, a3, a4, a5, a6, a7⟩ := hq'.at
    have hpW : p ∈ W := by rw [← he]; exact List.mem_append_right _ List.mem_cons_self
    have hlt : o.length < W.length := by rw [← he, List.length_append, List.length_cons]; omega
    have hzp := hw.z_le hT.2 (Or.inr (hWT p hpW))
    have hrr : m.P.2.1 p.1 ≠ 0 → q.2.2.1 (m.P.2.1 p.1 - 1) = nI (z (m.P.2.1 p.1)) ∧ 1 ≤ m.P.2.1 p.1 ∧ m.P.2.1 p.1 ≤ 20002 := by
      intro c0
      obtain ⟨p', q1, q2⟩ := List.mem_map.mp (hch p hpW c0)
      obtain ⟨c1, c2, c3, c4, c5⟩ := hq.2.2.2 p' q1
      rw [q2] at c2 c3 c4
      exact ⟨c2, c3, c4⟩
    have hzr : z (m.P.2.1 p.1) ≤ 20002 := hw.z_le hT.2 (hw.lzr (hWT p hpW))
    have e : X L xs 65 77 [.ref 8, .int (nI s), .int (nI b), .int (nI o.length), l4] [] (ml h (m.sW q)) = X L xs 65 77 [.ref 8, .int (nI s), .int (nI (b + gp (m.kd s) m.P z p.1)), .int (nI (o.length + 1)), .int (en p.1)] [] (ml h (m.sW q)) := by
      rw [k_65_77]
      simp only [Hml, b1, b2, b3, b4, HF10, gd_t, decide_true, Bool.and_self, HQ, HZ, SWq, hq.1]
      rw [if_neg (nI_ge hlt (by have := hq.2.1; omega)), k_65_85]
      simp only [Hml, b1, b2, b3, b4, HF10, gd_t, decide_true, Bool.and_self, HQ, HZ, SWq, inb_nI a2 (by decide), nI_clamp (show o.length < 2 ^ 31 by omega), inb_nI hs (by decide), nI_clamp hs2, a1, nI_1c, nI_eq (show m.kd s < 2 ^ 31 by omega) (show 1 < 2 ^ 31 by decide)]
      by_cases k1 : m.kd s = 1
      · rw [if_neg (fun z => z k1), k_65_103]
        simp only [Hml, b1, b2, b3, b4, HF10, gd_t, decide_true, Bool.and_self, HQ, HZ, SWq, inb_en a5 a6 (by decide), cl_en a5 (by omega), a4, cc_9_117_0, s_51 L xs _ _ (show z p.1 < 2 ^ 31 by omega), bI_s, k_65_172, nI_1]
        have c3 : (3 : Int32) = nI 3 := by decide
        rw [c3, pk_mul, nI_add]
        simp only [gp, k1, if_true]
      · rw [if_pos k1, k_65_121]
        simp only [Hml, b1, b2, b3, b4, HF10, gd_t, decide_true, Bool.and_self, HQ, HZ, cc_9_121_10, m_61 L xs hb (m.sW q) hs (show (m.sW q).kd s ≤ 5 from by show m.kd s ≤ 5; omega), bI_s, SWq]
        by_cases k2 : m.kd s = 2 ∨ m.kd s = 3
        · simp only [k2, decide_true, bI1, if_true]
          rw [if_neg (by decide), k_65_129]
          simp only [Hml, b1, b2, b3, b4, HF10, gd_t, decide_true, Bool.and_self, HQ, HZ, SWq, inb_en a5 a6 (by decide), cl_en a5 (by omega), show p.1 - 1 + 1 = p.1 from by omega]
          have hg : gp (m.kd s) m.P z p.1 = hv m.P z p.1 := by unfold gp; rw [if_neg k1, if_pos k2]
          rw [hg]
          by_cases c0 : m.P.2.1 p.1 = 0
          · have h0 : hv m.P z p.1 = 0 := by unfold hv; rw [c0, hw.2.1, if_neg (by omega)]
            rw [c0, en_0, if_pos rfl, k_65_169, k_65_170, k_65_172, h0, Int32.add_zero, nI_1, Nat.add_zero b]
          · obtain ⟨c1, c2, c3⟩ := hrr c0
            rw [if_neg (fun e => c0 ((en_m1 (by omega)).mp e)), k_65_141]
            simp only [Hml, b1, b2, b3, b4, HF10, gd_t, decide_true, Bool.and_self, HQ, HZ, SWq, inb_en a5 a6 (by decide), cl_en a5 (by omega), show p.1 - 1 + 1 = p.1 from by omega, inb_en c2 c3 (by decide), cl_en c2 (by omega), c1, a4, nI_2c, pk_mul]
            by_cases hh : z p.1 < 2 * z (m.P.2.1 p.1)
            · have h0 : hv m.P z p.1 = 1 := by unfold hv; rw [if_pos hh]
              rw [if_neg (nI_ge hh (by omega)), k_65_165, k_65_170, k_65_172, h0, nI_1, nI_1]
            · have h0 : hv m.P z p.1 = 0 := by unfold hv; rw [if_neg hh]
              rw [if_pos (nI_le (by omega) (by omega)), k_65_169, k_65_170, k_65_172, h0, Int32.add_zero, nI_1, Nat.add_zero b]
        · simp only [k2, decide_false, bI1]
          rw [if_pos (by decide), k_65_172, nI_1]
          have hg : gp (m.kd s) m.P z p.1 = 0 := by unfold gp; rw [if_neg k1, if_neg k2]
          rw [hg]
          rfl
    rw [e]
    have := ih (o ++ [p]) (b + gp (m.kd s) m.P z p.1) (.int (en p.1)) (by rw [List.append_assoc, List.singleton_append]; exact he)
    rw [List.length_append, List.length_singleton] at this
    rw [this, List.map_cons, List.sum_cons, Nat.add_assoc]
theorem pd_chr {P : PT} {u S z : Nat → Nat} (h : WF (P.1, P.2.1, u) S z) (hT : TN S) {r : Nat} (hr : LZ S r) : ∀ p, p ∈ pdF 20003 P r 0 → (P.1 p.1 ≠ 0 → P.1 p.1 ∈ (pdF 20003 P r 0).map Prod.fst) ∧ (P.2.1 p.1 ≠ 0 → P.2.1 p.1 ∈ (pdF 20003 P r 0).map Prod.fst) := by
  intro p hp
  have hz := h.z_le hT.2 hr
  have := pd_ch h 20003 r 0 hr (by omega) p.1 (by rw [pdF_u]; exact List.mem_map.mpr ⟨p, hp, rfl⟩)
  rw [pdF_u] at this
  exact this
theorem m_65_n {h : AH} (hb : MB h) (m : MS) {up T z : Nat → Nat} (hw : WF (m.P.1, m.P.2.1, up) T z) (hT : TN T) {s : Nat} (hs : s < 40) (hk : m.kd s ≤ 3) (hr : LZ T (m.rt s)) :
    ∃ q : SCT, XM L xs 65 [.ref 8, .int (nI s)] (ml h m) = some (ml h (m.sW q), some (.int (nI ((pdF 20003 m.P (m.rt s) 0).map (fun p => gp (m.kd s) m.P z p.1)).sum))) := by
  obtain ⟨b1, b2, b3, b4⟩ := id hb
  obtain ⟨q, l1, l2, l3, l4⟩ := ly L xs hb m hw hT hr
  refine ⟨q, ?_⟩
  rw [en_65, k_65_0]
  simp only [Hml, b1, b2, b3, b4, HF10, gd_t, decide_true, Bool.and_self, HQ, HZ, cc_9_113_10, m_62 L xs hb m hs (show m.kd s ≤ 5 by omega), bI_s, show ¬ 4 ≤ m.kd s from by omega, decide_false, bI1]
  rw [if_pos (by decide), k_65_63]
  simp only [Hml, b1, b2, b3, b4, HF10, gd_t, decide_true, Bool.and_self, HQ, HZ, inb_nI hs (by decide), nI_clamp (show s < 2 ^ 31 by omega), cc_9_109_10, l4, bV_s]
  have := m_65_loop L xs hb m hw hT hs hk l1 l3 (fun p hp => (pd_chr hw hT hr p hp).2) (pdF 20003 m.P (m.rt s) 0) [] 0 .null rfl
  rw [Nat.zero_add] at this
  exact this
theorem m_65_r {h : AH} (hb : MB h) (m : MS) {s : Nat} (hs : s < 40) (hk : 4 ≤ m.kd s) (hk5 : m.kd s ≤ 5) (hn : m.nu s < 2 ^ 30) (hp : m.pl s < 2 ^ 30) :
    XM L xs 65 [.ref 8, .int (nI s)] (ml h m) = some (ml h m, some (.int (nI (prow (m.kd s) (m.nu s) (m.pl s))))) := by
  obtain ⟨b1, b2, b3, b4⟩ := id hb
  have c5 : (5 : Int32) = nI 5 := by decide
  rw [en_65, k_65_0]
  simp only [Hml, b1, b2, b3, b4, HF10, gd_t, decide_true, Bool.and_self, HQ, HZ, cc_9_113_10, m_62 L xs hb m hs hk5, bI_s, hk, bI1, if_true]
  rw [if_neg (by decide), k_65_8]
  simp only [Hml, b1, b2, b3, b4, HF10, gd_t, decide_true, Bool.and_self, HQ, HZ, inb_nI hs (by decide), nI_clamp (show s < 2 ^ 31 by omega), nI_2c, pk_div (show m.pl s < 2 ^ 31 by omega) (show 0 < 2 by decide) (show 2 < 2 ^ 31 by decide), show decide (nI 2 ≠ 0) = true from by decide]
  by_cases q : m.pl s / 2 ≤ m.nu s
  · rw [if_neg (nI_nlt q (by omega)), k_65_27]
    simp only [Hml, b1, b2, b3, b4, HF10, gd_t, decide_true, Bool.and_self, HQ, HZ, inb_nI hs (by decide), nI_clamp (show s < 2 ^ 31 by omega), nI_2c, pk_sub q, pk_mul, k_65_62]
    unfold prow
    rw [if_pos q]
  · rw [if_pos (nI_lt (by omega) (by omega)), k_65_40]
    simp only [Hml, b1, b2, b3, b4, HF10, gd_t, decide_true, Bool.and_self, HQ, HZ, inb_nI hs (by decide), nI_clamp (show s < 2 ^ 31 by omega), c5, nI_eq (show m.kd s < 2 ^ 31 by omega) (show 5 < 2 ^ 31 by decide)]
    by_cases k : m.kd s = 5
    · rw [if_neg (fun z => z k), k_65_50]
      simp only [Hml, b1, b2, b3, b4, HF10, gd_t, decide_true, Bool.and_self, HQ, HZ, inb_nI hs (by decide), nI_clamp (show s < 2 ^ 31 by omega), pk_sub (show m.nu s ≤ m.pl s / 2 by omega), k_65_62]
      unfold prow
      rw [if_neg q, if_pos k]
    · rw [if_pos k, k_65_61, k_65_62]
      unfold prow
      rw [if_neg q, if_neg k]
      rfl
theorem m_107_r {h : AH} (hb : MB h) (m : MS) {s : Nat} (hs : s < 40) (hk : 4 ≤ m.kd s) (hk5 : m.kd s ≤ 5) :
    XM L xs 107 [.ref 8, .int (nI s)] (ml h m) = some (ml h m, some (.int (nI (m.nu s)))) := by
  obtain ⟨b1, b2, b3, b4⟩ := id hb
  rw [en_107, k_107_0]
  simp only [Hml, b1, b2, b3, b4, HF10, gd_t, decide_true, Bool.and_self, HQ, HZ, cc_9_113_10, m_62 L xs hb m hs hk5, bI_s, hk, bI1, if_true]
  rw [if_neg (by decide), k_107_8]
  simp only [Hml, b1, b2, b3, b4, HF10, gd_t, decide_true, Bool.and_self, HQ, HZ, inb_nI hs (by decide), nI_clamp (show s < 2 ^ 31 by omega)]
theorem m_107_loop {h : AH} (hb : MB h) (m : MS) {V : Nat → List Nat} {z : Nat → Nat} {q : SCT} {W : List (Nat × Nat)} (hq : Laid q W z) (hV : ∀ p, p ∈ W → Chn m.nx (m.fV p.1) (V p.1) ∧ ∀ i, i ∈ V p.1 → i ≤ 20002) (l1 : Int32) :
    ∀ (t o : List (Nat × Nat)) (b : Nat), o ++ t = W → X L xs 107 29 [.ref 8, .int l1, .int (nI b), .int (nI o.length)] [] (ml h (m.sW q)) = some (ml h (m.sW q), some (.int (nI (b + (t.map (fun p => (V p.1).length)).sum)))) := by
  obtain ⟨b1, b2, b3, b4⟩ := id hb
  intro t
  induction t with
  | nil =>
    intro o b he
    rw [List.append_nil] at he
    rw [k_107_29]
    simp only [Hml, b1, b2, b3, b4, HF10, gd_t, decide_true, Bool.and_self, HQ, HZ, SWq, hq.1, ← he]
    rw [if_pos (nI_le (Nat.le_refl _) (by have := hq.2.1; rw [← he] at this; omega)), k_107_56]
    rfl
  | cons p t ih =>
    intro o b he
    have hq' := hq
    rw [← he] at hq'
    obtain ⟨a1, a2, a3, a4, a5, a6, a7⟩ := hq'.at
    have hpW : p ∈ W := by rw [← he]; exact List.mem_append_right _ List.mem_cons_self
    have hlt : o.length < W.length := by rw [← he, List.length_append, List.length_cons]; omega
    rw [k_107_29]
    simp only [Hml, b1, b2, b3, b4, HF10, gd_t, decide_true, Bool.and_self, HQ, HZ, SWq, hq.1]
    rw [if_neg (nI_ge hlt (by have := hq.2.1; omega)), k_107_37]
    simp only [Hml, b1, b2, b3, b4, HF10, gd_t, decide_true, Bool.and_self, HQ, HZ, SWq, inb_nI a2 (by decide), nI_clamp (show o.length < 2 ^ 31 by omega), a1, cc_9_166_10, m_57 L xs hb (m.sW q) a5 a6 (hV p hpW).1 (hV p hpW).2, bI_s, nI_add, nI_1]
    have := ih (o ++ [p]) (b + (V p.1).length) (by rw [List.append_assoc, List.singleton_append]; exact he)
    rw [List.length_append, List.length_singleton] at this
    rw [this, List.map_cons, List.sum_cons, Nat.add_assoc]
theorem m_107_n {h : AH} (hb : MB h) (m : MS) {up T z : Nat → Nat} {V : Nat → List Nat} (hw : WF (m.P.1, m.P.2.1, up) T z) (hT : TN T) (hV : ∀ a, T a ≠ 0 → Chn m.nx (m.fV a) (V a) ∧ ∀ i, i ∈ V a → i ≤ 20002) {s : Nat} (hs : s < 40) (hk : m.kd s ≤ 3) (hr : LZ T (m.rt s)) :
    ∃ q : SCT, XM L xs 107 [.ref 8, .int (nI s)] (ml h m) = some (ml h (m.sW q), some (.int (nI ((pdF 20003 m.P (m.rt s) 0).map (fun p => (V p.1).length)).sum))) := by
  obtain ⟨b1, b2, b3, b4⟩ := id hb
  obtain ⟨q, l1, l2, l3, l4⟩ := ly L xs hb m hw hT hr
  refine ⟨q, ?_⟩
  rw [en_107, k_107_0]
  simp only [Hml, b1, b2, b3, b4, HF10, gd_t, decide_true, Bool.and_self, HQ, HZ, cc_9_113_10, m_62 L xs hb m hs (show m.kd s ≤ 5 by omega), bI_s, show ¬ 4 ≤ m.kd s from by omega, decide_false, bI1]
  rw [if_pos (by decide), k_107_15]
  simp only [Hml, b1, b2, b3, b4, HF10, gd_t, decide_true, Bool.and_self, HQ, HZ, inb_nI hs (by decide), nI_clamp (show s < 2 ^ 31 by omega), cc_9_109_10, l4, bV_s]
  have := m_107_loop L xs hb m l1 (fun p hp => hV p.1 (l3 p hp)) (nI s) (pdF 20003 m.P (m.rt s) 0) [] 0 rfl
  rw [Nat.zero_add] at this
  exact this
theorem m_108_loop {h : AH} (hb : MB h) (m : MS) {z : Nat → Nat} {q : SCT} {W : List (Nat × Nat)} (hq : Laid q W z) (l1 : Int32) :
    ∀ (t o : List (Nat × Nat)) (b : Nat), o ++ t = W → b < 20003 → X L xs 108 14 [.ref 8, .int l1, .int (nI b), .int (nI o.length)] [] (ml h (m.sW q)) = some (ml h (m.sW q), some (.int (nI (mxD b t)))) := by
  obtain ⟨b1, b2, b3, b4⟩ := id hb
  intro t
  induction t with
  | nil =>
    intro o b he hb2
    rw [List.append_nil] at he
    rw [k_108_14]
    simp only [Hml, b1, b2, b3, b4, HF10, gd_t, decide_true, Bool.and_self, HQ, HZ, SWq, hq.1, ← he]
    rw [if_pos (nI_le (Nat.le_refl _) (by have := hq.2.1; rw [← he] at this; omega)), k_108_59]
    rfl
  | cons p t ih =>
    intro o b he hb2
    have hq' := hq
    rw [← he] at hq'
    obtain ⟨a1, a2, a3, a4, a5, a6, a7⟩ := hq'.at
    have hlt : o.length < W.length := by rw [← he, List.length_append, List.length_cons]; omega
    have e : mxD b (p :: t) = mxD (max b p.2) t := rfl
    have := ih (o ++ [p]) (max b p.2) (by rw [List.append_assoc, List.singleton_append]; exact he) (by omega)
    rw [List.length_append, List.length_singleton] at this
    rw [k_108_14]
    simp only [Hml, b1, b2, b3, b4, HF10, gd_t, decide_true, Bool.and_self, HQ, HZ, SWq, hq.1]
    rw [if_neg (nI_ge hlt (by have := hq.2.1; omega)), k_108_22]
    simp only [Hml, b1, b2, b3, b4, HF10, gd_t, decide_true, Bool.and_self, HQ, HZ, SWq, inb_nI a2 (by decide), nI_clamp (show o.length < 2 ^ 31 by omega), a1, inb_en a5 a6 (by decide), cl_en a5 (by omega), a3]
    by_cases c : p.2 ≤ b
    · rw [if_pos (nI_le c (by omega)), k_108_51, k_108_52, nI_1, e]
      rw [show max b p.2 = b from by omega] at this ⊢
      exact this
    · rw [if_neg (nI_ge (by omega) (by omega)), k_108_37]
      simp only [Hml, b1, b2, b3, b4, HF10, gd_t, decide_true, Bool.and_self, HQ, HZ, SWq, inb_nI a2 (by decide), nI_clamp (show o.length < 2 ^ 31 by omega), a1, inb_en a5 a6 (by decide), cl_en a5 (by omega), a3, k_108_52, nI_1]
      rw [e]
      rw [show max b p.2 = p.2 from by omega] at this ⊢
      exact this
theorem m_108 {h : AH} (hb : MB h) (m : MS) {up T z : Nat → Nat} (hw : WF (m.P.1, m.P.2.1, up) T z) (hT : TN T) {s : Nat} (hs : s < 40) (hr : LZ T (m.rt s)) :
    ∃ q : SCT, XM L xs 108 [.ref 8, .int (nI s)] (ml h m) = some (ml h (m.sW q), some (.int (nI (mxD 0 (pdF 20003 m.P (m.rt s) 0))))) := by
  obtain ⟨b1, b2, b3, b4⟩ := id hb
  obtain ⟨q, l1, l2, l3, l4⟩ := ly L xs hb m hw hT hr
  refine ⟨q, ?_⟩
  rw [en_108, k_108_0]
  simp only [Hml, b1, b2, b3, b4, HF10, gd_t, decide_true, Bool.and_self, HQ, HZ, inb_nI hs (by decide), nI_clamp (show s < 2 ^ 31 by omega), cc_9_109_10, l4, bV_s]
  exact m_108_loop L xs hb m l1 (nI s) (pdF 20003 m.P (m.rt s) 0) [] 0 rfl (by decide)
end Lay2
