-- the class's walks
def cTF (d : DS) (c : CS) (k : Int64) : Nat → Nat → Nat → Nat × Nat × Nat
  | 0, l, t => (l, t, 0)
  | f + 1, l, t => if twd c l k = 0 then (l, t, 0) else
    let r := cTF d c k f (twd c l k) (if c.P.1 l = twd c l k then d.ph l else t)
    (r.1, r.2.1, r.2.2 + 1)
def cW (c : CS) (s l t n : Nat) : CS := ((c.sla (u1 c.la s l)).stl (u1 c.tl s t)).sdp (u1 c.dp s n)
theorem A1 (c : CS) (v w : Nat → Nat) : (c.sdp v).sla w = (c.sla w).sdp v := (rfl)
theorem A2 (c : CS) (v w : Nat → Nat) : (c.stl v).sla w = (c.sla w).stl v := (rfl)
theorem A3 (c : CS) (v w : Nat → Nat) : (c.sla v).sla w = c.sla w := (rfl)
theorem A4 (c : CS) (v w : Nat → Nat) : (c.sdp v).stl w = (c.stl w).sdp v := (rfl)
theorem A5 (c : CS) (v w : Nat → Nat) : (c.stl v).stl w = c.stl w := (rfl)
theorem A6 (c : CS) (v w : Nat → Nat) : (c.sdp v).sdp w = c.sdp w := (rfl)
theorem u1_u1 {α : Type} (f : Nat → α) (s : Nat) (v w : α) : u1 (u1 f s v) s w = u1 f s w := by
  funext x
  unfold u1
  by_cases q : x = s
  · rw [if_pos q, if_pos q]
  · rw [if_neg q, if_neg q, if_neg q]
theorem u1_id {α : Type} (f : Nat → α) (s : Nat) : u1 f s (f s) = f := by
  funext x
  unfold u1
  by_cases q : x = s
  · rw [if_pos q, q]
  · rw [if_neg q]
theorem cW_W (c : CS) (s l t n l' t' n' : Nat) : cW (cW c s l t n) s l' t' n' = cW c s l' t' n' := by
  unfold cW
  simp only [Ula, Utl, Udp, A1, A2, A3, A4, A5, A6, u1_u1]
theorem cW_id (c : CS) (s : Nat) : cW c s (c.la s) (c.tl s) (c.dp s) = c := by
  have e : ∀ {α : Type} (f : Nat → α), u1 f s (f s) = f := by
    intro α f
    funext x
    unfold u1
    by_cases q : x = s
    · rw [if_pos q, q]
    · rw [if_neg q]
  unfold cW
  rw [e, e, e]
  rfl
theorem HcW (c : CS) (s l t n : Nat) : (cW c s l t n).ck = c.ck ∧ (cW c s l t n).P = c.P ∧ (cW c s l t n).la = u1 c.la s l ∧ (cW c s l t n).tl = u1 c.tl s t ∧ (cW c s l t n).dp = u1 c.dp s n ∧ (cW c s l t n).st = c.st ∧ (cW c s l t n).ro = c.ro := ⟨rfl, rfl, rfl, rfl, rfl, rfl, rfl⟩
theorem twd_dom {d : DS} (hw : DW d) {c : CS} {T z : Nat → Nat} (hW : WF c.P T z) (hD : ∀ x, T x ≠ 0 → d.nid (d.ph x) = x) {l : Nat} (hl : T l ≠ 0) (k : Int64) : d.nid (d.ph (twd c l k)) = twd c l k ∧ (twd c l k ≠ 0 → T (twd c l k) = T l ∧ z (twd c l k) < z l) := by
  obtain ⟨w1, w2, w3, w4, w5⟩ := hW.2.2 l hl
  have z0 : d.nid (d.ph 0) = 0 := by rw [hw.1.1]; exact hw.1.2.2.2.1
  have key : ∀ x, (x ≠ 0 → T x = T l ∧ z x < z l) → d.nid (d.ph x) = x := fun x hx => by
    by_cases x0 : x = 0
    · rw [x0]; exact z0
    · exact hD x (by rw [(hx x0).1]; exact hl)
  have h2 : twd c l k ≠ 0 → T (twd c l k) = T l ∧ z (twd c l k) < z l := by
    unfold twd
    by_cases e : k = c.ck l
    · rw [if_pos e]; intro q; exact absurd rfl q
    · rw [if_neg e]
      by_cases q : k < c.ck l
      · rw [if_pos q]; intro q0; exact ⟨(w1 q0).2, by omega⟩
      · rw [if_neg q]; intro q0; exact ⟨(w2 q0).2, by omega⟩
  exact ⟨key _ h2, h2⟩
/-- the class's way is the reference's -/
theorem cTF_gT {d : DS} (hw : DW d) {c : CS} {T z : Nat → Nat} (hW : WF c.P T z) (hD : ∀ x, T x ≠ 0 → d.nid (d.ph x) = x) (k : Int64) : ∀ (f l t : Nat), T l ≠ 0 → (cTF d c k f l t).1 = (gT c.ck c.P k f l).1 ∧ (cTF d c k f l t).2.2 = (gT c.ck c.P k f l).2 := by
  intro f
  induction f with
  | zero => intro l t _; exact ⟨rfl, rfl⟩
  | succ f ih =>
    intro l t hl
    unfold cTF gT
    rw [if_neg (hW.n0 hl)]
    by_cases e : c.ck l = k
    · have : twd c l k = 0 := by unfold twd; rw [if_pos e.symm]
      rw [if_pos this, if_pos e]
      exact ⟨rfl, rfl⟩
    · rw [if_neg e]
      have et : twd c l k = (if k < c.ck l then c.P.1 l else c.P.2.1 l) := by unfold twd; rw [if_neg (fun q => e q.symm)]
      rw [← et]
      by_cases t0 : twd c l k = 0
      · rw [if_pos t0, if_pos t0]; exact ⟨rfl, rfl⟩
      · rw [if_neg t0, if_neg t0]
        obtain ⟨i1, i2⟩ := ih (twd c l k) (if c.P.1 l = twd c l k then d.ph l else t) (by rw [((twd_dom hw hW hD hl k).2 t0).1]; exact hl)
        exact ⟨i1, by show _ + 1 = _ + 1; rw [i2]⟩
section Cgo
variable (L : Nat) (xs : Nat → Int32)
theorem c168 {b : AH} {d : DS} (hw : DW d) (tN : ∀ x, d.nid x ≠ 0 → tg b x = 4) {s : Nat} (hs : d.sid (d.sa (s + 1)) = s + 1) (ts : tg b (d.sa (s + 1)) = 5 ∨ tg b (d.sa (s + 1)) = 7) (c : CS) {l x : Nat} (t n : Nat) (l0 : l ≠ 0) (hl : d.nid (d.ph l) = l) (hp : d.nid (d.ph (c.P.1 l)) = c.P.1 l) (hx : d.nid (d.ph x) = x) :
    XM L xs 168 [.ref (d.sa (s + 1)), .ref (d.ph x)] (cl b d (cW c s l t n)) = some (cl b d (cW c s x (if c.P.1 l = x then d.ph l else t) (n + 1)), none) := by
  have ta : tg b (d.ph l) = 4 := tN _ (by rw [hl]; exact l0)
  have h18 : hasF (tg b (d.sa (s + 1))) 18 = true := by rcases ts with q | q <;> rw [q] <;> rfl
  have h19 : hasF (tg b (d.sa (s + 1))) 19 = true := by rcases ts with q | q <;> rw [q] <;> rfl
  have h20 : hasF (tg b (d.sa (s + 1))) 20 = true := by rcases ts with q | q <;> rw [q] <;> rfl
  have ln0 : ¬ d.ph l = 0 := fun e => l0 ((ph0 hw hl).mp e)
  rw [en_168, k_168_0]
  simp only [Hcl, gd_t, decide_true, Bool.and_self, HQ, HZ, h18, Rs d hs, HcW, u1_s, ln0, if_false]
  rw [k_168_7]
  simp only [Hcl, gd_t, decide_true, Bool.and_self, HQ, HZ, h18, Rs d hs, HcW, u1_s, ta, HF4, Rn d hl l0, phI hp hx]
  by_cases e : c.P.1 l = x
  · rw [if_neg (fun q => q e), if_pos e, k_168_18]
    simp only [Hcl, gd_t, decide_true, Bool.and_self, HQ, HZ, h18, h19, Rs d hs, HcW, u1_s, cl_tl b hw _ hs, k_168_26, cl_la b hw _ hs, k_168_31, h20, Ula, Utl, nI_1, cl_dp b hw _ hs, k_168_41]
    simp only [cW, Ula, Utl, Udp, A1, A2, A3, A4, A5, A6, u1_u1]
  · rw [if_pos e, if_neg e]
    simp only [Hcl, gd_t, decide_true, Bool.and_self, HQ, HZ, h18, h19, Rs d hs, HcW, u1_s, k_168_26, cl_la b hw _ hs, k_168_31, h20, Ula, Utl, nI_1, cl_dp b hw _ hs, k_168_41]
    simp only [cW, Ula, Utl, Udp, A1, A2, A3, A4, A5, A6, u1_u1]
def lth (c : CS) (s t : Nat) (k : Int64) : Bool := decide (c.la s ≠ 0 ∧ c.ck (c.la s) ≤ k ∧ (t = 0 ∨ k < c.ck t))
theorem c167 {b : AH} {d : DS} (hw : DW d) (tN : ∀ x, d.nid x ≠ 0 → tg b x = 4) {s : Nat} (hs : d.sid (d.sa (s + 1)) = s + 1) (ts : tg b (d.sa (s + 1)) = 5 ∨ tg b (d.sa (s + 1)) = 7) (c : CS) (k : Int64) (hl : d.nid (d.ph (c.la s)) = c.la s) {t : Nat} (ht : c.la s ≠ 0 → c.tl s = d.ph t) (ht2 : d.nid (d.ph t) = t) :
    XM L xs 167 [.ref (d.sa (s + 1)), .long k] (cl b d c) = some (cl b d c, some (.int (bI1 (lth c s t k)))) := by
  have h18 : hasF (tg b (d.sa (s + 1))) 18 = true := by rcases ts with q | q <;> rw [q] <;> rfl
  have h19 : hasF (tg b (d.sa (s + 1))) 19 = true := by rcases ts with q | q <;> rw [q] <;> rfl
  rw [en_167, k_167_0]
  simp only [Hcl, gd_t, decide_true, Bool.and_self, HQ, HZ, h18, Rs d hs, ph0 hw hl]
  unfold lth
  by_cases l0 : c.la s = 0
  · rw [if_pos l0, k_167_19, show decide (c.la s ≠ 0 ∧ c.ck (c.la s) ≤ k ∧ (t = 0 ∨ k < c.ck t)) = false from decide_eq_false (fun q => q.1 l0)]
    rfl
  · rw [if_neg l0, k_167_7]
    have ta : tg b (d.ph (c.la s)) = 4 := tN _ (by rw [hl]; exact l0)
    have et := ht l0
    simp only [Hcl, gd_t, decide_true, Bool.and_self, HQ, HZ, h18, Rs d hs, ta, HF4, Rn d hl l0, lg_cmp_ge]
    by_cases q : c.ck (c.la s) ≤ k
    · rw [if_pos q, k_167_21]
      simp only [Hcl, gd_t, decide_true, Bool.and_self, HQ, HZ, h19, Rs d hs, et, ph0 hw ht2]
      by_cases t0 : t = 0
      · rw [if_pos t0, k_167_40, k_167_45, show decide (c.la s ≠ 0 ∧ c.ck (c.la s) ≤ k ∧ (t = 0 ∨ k < c.ck t)) = true from decide_eq_true ⟨l0, q, Or.inl t0⟩]
        rfl
      · have tt : tg b (d.ph t) = 4 := tN _ (by rw [ht2]; exact t0)
        rw [if_neg t0, k_167_28]
        simp only [Hcl, gd_t, decide_true, Bool.and_self, HQ, HZ, h19, Rs d hs, et, tt, HF4, Rn d ht2 t0, lg_cmp_ge]
        by_cases q2 : k < c.ck t
        · rw [if_neg (i64_nle q2), k_167_40, k_167_45, show decide (c.la s ≠ 0 ∧ c.ck (c.la s) ≤ k ∧ (t = 0 ∨ k < c.ck t)) = true from decide_eq_true ⟨l0, q, Or.inr q2⟩]
          rfl
        · rw [if_pos (i64_le q2), k_167_44, k_167_45, show decide (c.la s ≠ 0 ∧ c.ck (c.la s) ≤ k ∧ (t = 0 ∨ k < c.ck t)) = false from decide_eq_false (fun e => by rcases e.2.2 with r | r; exact t0 r; exact q2 r)]
          rfl
    · rw [if_neg q, k_167_19, show decide (c.la s ≠ 0 ∧ c.ck (c.la s) ≤ k ∧ (t = 0 ∨ k < c.ck t)) = false from decide_eq_false (fun e => q e.2.1)]
      rfl
theorem c166_loop {b : AH} {d : DS} (hw : DW d) (tN : ∀ x, d.nid x ≠ 0 → tg b x = 4) {s : Nat} (hs : d.sid (d.sa (s + 1)) = s + 1) (ts : tg b (d.sa (s + 1)) = 5 ∨ tg b (d.sa (s + 1)) = 7) (c : CS) {T z : Nat → Nat} (hW : WF c.P T z) (hD : ∀ x, T x ≠ 0 → d.nid (d.ph x) = x) (k : Int64) : ∀ (f l t n : Nat) (l2 : Value), T l ≠ 0 → z l ≤ f →
    X L xs 166 46 [.ref (d.sa (s + 1)), .long k, l2, .ref (d.ph (twd c l k))] [] (cl b d (cW c s l t n)) = some (cl b d ((cW c s (cTF d c k f l t).1 (cTF d c k f l t).2.1 (n + (cTF d c k f l t).2.2)).sst (u1 c.st s (c.st s + nI (n + (cTF d c k f l t).2.2)))), none) := by
  have h16 : hasF (tg b (d.sa (s + 1))) 16 = true := by rcases ts with q | q <;> rw [q] <;> rfl
  have h20 : hasF (tg b (d.sa (s + 1))) 20 = true := by rcases ts with q | q <;> rw [q] <;> rfl
  have fin : ∀ (l t n : Nat) (l2 : Value), X L xs 166 64 [.ref (d.sa (s + 1)), .long k, l2, .ref 0] [] (cl b d (cW c s l t n)) = some (cl b d ((cW c s l t n).sst (u1 c.st s (c.st s + nI n))), none) := by
    intro l t n l2
    rw [k_166_64]
    simp only [Hcl, gd_t, decide_true, Bool.and_self, HQ, HZ, h16, h20, Rs d hs, HcW, u1_s, cl_st b hw _ hs, k_166_77]
  intro f
  induction f with
  | zero => intro l t n l2 hl hz; have := hW.pos hl; omega
  | succ f ih =>
    intro l t n l2 hl hz
    obtain ⟨e1, e2⟩ := twd_dom hw hW hD hl k
    have l0 := hW.n0 hl
    have hdl := hD l hl
    unfold cTF
    rw [k_166_46]
    simp only [ph0 hw e1]
    by_cases t0 : twd c l k = 0
    · rw [if_pos t0, if_pos t0, t0, hw.1.1, fin]
      rfl
    · rw [if_neg t0, if_neg t0]
      obtain ⟨f1, f2⟩ := e2 t0
      have hT : T (twd c l k) ≠ 0 := by rw [f1]; exact hl
      have hp1 : d.nid (d.ph (c.P.1 l)) = c.P.1 l := by
        by_cases q : c.P.1 l = 0
        · rw [q, hw.1.1]; exact hw.1.2.2.2.1
        · exact hD _ (by rw [((hW.2.2 l hl).1 q).2]; exact hl)
      have tx : tg b (d.ph (twd c l k)) = 4 := tN _ (by rw [e1]; exact t0)
      rw [k_166_50]
      have c1 := c168 L xs hw tN hs ts c t n l0 hdl hp1 e1
      have c2 := c137 L xs hw tN (cW c s (twd c l k) (if c.P.1 l = twd c l k then d.ph l else t) (n + 1)) e1 t0 k
      have key : X L xs 166 46 [.ref (d.sa (s + 1)), .long k, klL l2, .ref (d.ph (twd c (twd c l k) k))] [] (cl b d (cW c s (twd c l k) (if c.P.1 l = twd c l k then d.ph l else t) (n + 1))) = some (cl b d ((cW c s (cTF d c k f (twd c l k) (if c.P.1 l = twd c l k then d.ph l else t)).1 (cTF d c k f (twd c l k) (if c.P.1 l = twd c l k then d.ph l else t)).2.1 (n + ((cTF d c k f (twd c l k) (if c.P.1 l = twd c l k then d.ph l else t)).2.2 + 1))).sst (u1 c.st s (c.st s + nI (n + ((cTF d c k f (twd c l k) (if c.P.1 l = twd c l k then d.ph l else t)).2.2 + 1))))), none) := by
        have := ih (twd c l k) (if c.P.1 l = twd c l k then d.ph l else t) (n + 1) (klL l2) hT (by omega)
        rw [show n + ((cTF d c k f (twd c l k) (if c.P.1 l = twd c l k then d.ph l else t)).2.2 + 1) = n + 1 + (cTF d c k f (twd c l k) (if c.P.1 l = twd c l k then d.ph l else t)).2.2 from by omega]
        exact this
      rcases ts with q | q
      · simp only [Hcl, gd_t, decide_true, Bool.and_self, HQ, HZ, q, dS hw hs, cc_11_87_5, c1, bV_s, dN hw e1 t0, tx, cc_11_83_4, c2, bR_s]
        exact key
      · simp only [Hcl, gd_t, decide_true, Bool.and_self, HQ, HZ, q, dS hw hs, cc_11_87_7, c1, bV_s, dN hw e1 t0, tx, cc_11_83_4, c2, bR_s]
        exact key
/-- goTo -/
def cGo (F : Nat) (d : DS) (c : CS) (s t : Nat) (k : Int64) : CS :=
  let l := if lth c s t k then c.la s else c.ro s
  let u := if lth c s t k then c.tl s else 0
  let n := if lth c s t k then c.dp s else 0
  let r := if l = 0 then (0, u, 0) else cTF d c k F l u
  (cW c s r.1 r.2.1 (n + r.2.2)).sst (u1 c.st s (c.st s + nI (n + r.2.2)))
theorem c166 {b : AH} {d : DS} (hw : DW d) (tN : ∀ x, d.nid x ≠ 0 → tg b x = 4) {s : Nat} (hs : d.sid (d.sa (s + 1)) = s + 1) (ts : tg b (d.sa (s + 1)) = 5 ∨ tg b (d.sa (s + 1)) = 7) (c : CS) {T z : Nat → Nat} (hW : WF c.P T z) (hD : ∀ x, T x ≠ 0 → d.nid (d.ph x) = x) {F : Nat} (hF : ∀ a, T a ≠ 0 → z a ≤ F) (k : Int64) (hl : LZ T (c.la s)) (hr : LZ T (c.ro s)) {t : Nat} (ht : c.la s ≠ 0 → c.tl s = d.ph t) (ht2 : d.nid (d.ph t) = t) :
    XM L xs 166 [.ref (d.sa (s + 1)), .long k] (cl b d c) = some (cl b d (cGo F d c s t k), none) := by
  have h13 : hasF (tg b (d.sa (s + 1))) 13 = true := by rcases ts with q | q <;> rw [q] <;> rfl
  have h16 : hasF (tg b (d.sa (s + 1))) 16 = true := by rcases ts with q | q <;> rw [q] <;> rfl
  have h18 : hasF (tg b (d.sa (s + 1))) 18 = true := by rcases ts with q | q <;> rw [q] <;> rfl
  have h19 : hasF (tg b (d.sa (s + 1))) 19 = true := by rcases ts with q | q <;> rw [q] <;> rfl
  have h20 : hasF (tg b (d.sa (s + 1))) 20 = true := by rcases ts with q | q <;> rw [q] <;> rfl
  have okz : ∀ x, LZ T x → d.nid (d.ph x) = x := fun x hx => by
    rcases hx with q | q
    · rw [q, hw.1.1]; exact hw.1.2.2.2.1
    · exact hD x q
  have key : ∀ (l u n : Nat), LZ T l → X L xs 166 26 [.ref (d.sa (s + 1)), .long k, .null, .null] [] (cl b d (cW c s l u n)) = some (cl b d ((cW c s (if l = 0 then (0, u, 0) else cTF d c k F l u).1 (if l = 0 then (0, u, 0) else cTF d c k F l u).2.1 (n + (if l = 0 then (0, u, 0) else cTF d c k F l u).2.2)).sst (u1 c.st s (c.st s + nI (n + (if l = 0 then (0, u, 0) else cTF d c k F l u).2.2)))), none) := by
    intro l u n hl
    rw [k_166_26]
    simp only [Hcl, gd_t, decide_true, Bool.and_self, HQ, HZ, h18, Rs d hs, HcW, u1_s, ph0 hw (okz l hl)]
    by_cases l0 : l = 0
    · rw [if_pos l0, k_166_33, k_166_45, k_166_46, if_pos rfl, k_166_64]
      simp only [Hcl, gd_t, decide_true, Bool.and_self, HQ, HZ, h16, h20, Rs d hs, HcW, u1_s, cl_st b hw _ hs, k_166_77]
      subst l0
      rfl
    · have hlT : T l ≠ 0 := by rcases hl with e | e; exact absurd e l0; exact e
      have ta : tg b (d.ph l) = 4 := tN _ (by rw [hD l hlT]; exact l0)
      rw [if_neg l0, k_166_37]
      have c2 := c137 L xs hw tN (cW c s l u n) (hD l hlT) l0 k
      simp only [Hcl, gd_t, decide_true, Bool.and_self, HQ, HZ, h18, Rs d hs, HcW, u1_s, dN hw (hD l hlT) l0, ta, cc_11_83_4, c2, bR_s, k_166_45]
      have := c166_loop L xs hw tN hs ts c hW hD k F l u n (klL .null) hlT (hF l hlT)
      simp only [l0, if_false]
      exact this
  have c1 := c167 L xs hw tN hs ts c k (okz _ hl) ht ht2
  have fin : X L xs 166 0 [.ref (d.sa (s + 1)), .long k, .null, .null] [] (cl b d c) = if lth c s t k = true then X L xs 166 26 [.ref (d.sa (s + 1)), .long k, .null, .null] [] (cl b d c) else X L xs 166 8 [.ref (d.sa (s + 1)), .long k, .null, .null] [] (cl b d c) := by
    rw [k_166_0]
    rcases ts with q | q
    · simp only [Hcl, gd_t, decide_true, Bool.and_self, HQ, HZ, q, dS hw hs, cc_11_73_5, c1, bI_s]
      by_cases e : lth c s t k = true
      · rw [e, if_pos rfl, if_pos (by decide)]
      · rw [if_neg e]
        rw [Bool.not_eq_true] at e
        rw [e, if_neg (by decide)]
    · simp only [Hcl, gd_t, decide_true, Bool.and_self, HQ, HZ, q, dS hw hs, cc_11_73_7, c1, bI_s]
      by_cases e : lth c s t k = true
      · rw [e, if_pos rfl, if_pos (by decide)]
      · rw [if_neg e]
        rw [Bool.not_eq_true] at e
        rw [e, if_neg (by decide)]
  rw [en_166, fin]
  unfold cGo
  by_cases e : lth c s t k = true
  · simp only [e, if_true]
    have := key (c.la s) (c.tl s) (c.dp s) hl
    rw [cW_id] at this
    exact this
  · simp only [e, if_false]
    rw [k_166_8]
    simp only [Hcl, gd_t, decide_true, Bool.and_self, HQ, HZ, h13, h18, h19, h20, Rs d hs, cl_la b hw _ hs, k_166_16, cl_tl b hw _ hs, k_166_21, cl_dp0 b hw _ hs]
    exact key (c.ro s) 0 0 hr
end Cgo
