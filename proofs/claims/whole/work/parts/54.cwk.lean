-- the class's Walk
def wd (x : Int) : Int32 := Int32.ofInt x
theorem wd_add (x : Int) : wd x + 1 = wd (x + 1) := (Int32.ofInt_add x 1).symm
theorem wd_sub (x : Int) : wd x - 1 = wd (x - 1) := by
  unfold wd
  rw [Int32.ofInt_sub]
  rfl
theorem wd_nat (n : Nat) : wd (n : Int) = nI n := by
  unfold wd nI
  exact Int32.ofInt_eq_ofNat
def wkb (b : AH) (y n : Nat) (e : Int32) : AH := wI (wR b 35 y n) 36 y e
theorem Hwk (b : AH) (y n : Nat) (e : Int32) : fR (wkb b y n e) 35 y = n ∧ fI (wkb b y n e) 36 y = e ∧ (∀ x, tg (wkb b y n e) x = tg b x) ∧ nn (wkb b y n e) = nn b ∧ sl (wkb b y n e) = sl b := by
  refine ⟨?_, ?_, fun _ => rfl, rfl, rfl⟩
  · unfold wkb
    simp only [HwI, HwR, if_true]
  · unfold wkb
    simp only [HwI, if_true]
theorem wkb_n {b : AH} {d : DS} {c : CS} {y : Nat} (hy : Oud d y) (n : Nat) (e : Int32) (n' : Nat) : wR (cl (wkb b y n e) d c) 35 y n' = cl (wkb b y n' e) d c := by
  rw [wR_cl _ c hy]
  have : wR (wkb b y n e) 35 y n' = wkb b y n' e := by
    show (((u2 b.1.1 36 y e, b.1.2.1, u2 (u2 b.1.2.2 35 y n) 35 y n'), b.2) : AH) = ((u2 b.1.1 36 y e, b.1.2.1, u2 b.1.2.2 35 y n'), b.2)
    rw [u2_u2]
  rw [this]
theorem wkb_e {b : AH} {d : DS} {c : CS} {y : Nat} (hy : Oud d y) (n : Nat) (e e' : Int32) : wI (cl (wkb b y n e) d c) 36 y e' = cl (wkb b y n e') d c := by
  rw [wI_cl _ c hy]
  have : wI (wkb b y n e) 36 y e' = wkb b y n e' := by
    show (((u2 (u2 b.1.1 36 y e) 36 y e', b.1.2.1, u2 b.1.2.2 35 y n), b.2) : AH) = ((u2 b.1.1 36 y e', b.1.2.1, u2 b.1.2.2 35 y n), b.2)
    rw [u2_u2]
  rw [this]
/-- a new Walk -/
def bWk (b : AH) (n : Nat) (e : Int32) : AH := wkb (mk b 9 0 2) (nn b + 1) n e
theorem wkb_0 (b : AH) (y : Nat) (n : Nat) (h0 : fI b 36 y = 0) : wR b 35 y n = wkb b y n 0 := by
  have : wI (wR b 35 y n) 36 y 0 = wR b 35 y n := by
    show (((u2 b.1.1 36 y 0, b.1.2.1, u2 b.1.2.2 35 y n), b.2) : AH) = ((b.1.1, b.1.2.1, u2 b.1.2.2 35 y n), b.2)
    have e : u2 b.1.1 36 y 0 = b.1.1 := by
      have := u2_id b.1.1 36 y
      rw [show b.1.1 36 y = 0 from h0] at this
      exact this
    rw [e]
  exact this.symm
section Cwk
variable (L : Nat) (xs : Nat → Int32)
theorem c185 {b : AH} {d : DS} {c : CS} (hB : Bd b d) (x : Nat) : XM L xs 185 [.ref (nn b + 1), .ref x] (mk (cl b d c) 9 0 2) = some (cl (bWk b x 0) d c, none) := by
  have hy := hB.out (Nat.lt_succ_self _)
  have ty : tg (mk b 9 0 2) (nn b + 1) = 9 := u1_s _ _ _
  rw [mk_cl b c hy, en_185, k_185_0]
  simp only [Hcl, gd_t, decide_true, Bool.and_self, HQ, HZ, show decide (nn b + 1 ≠ 0) = true from decide_eq_true (by omega), ty, HF9]
  rw [wR_cl _ c hy, wkb_0 _ _ _ (by simp only [Hmk, if_true]), k_185_9]
  rfl
theorem c188_loop {b : AH} {d : DS} (hw : DW d) (tN : ∀ x, d.nid x ≠ 0 → tg b x = 4) (c : CS) {T z : Nat → Nat} (hW : WF c.P T z) (hD : ∀ x, LZ T x → d.nid (d.ph x) = x) {B : Nat} (hB : ∀ x, T x ≠ 0 → z x ≤ B) {y : Nat} (hy : Oud d y) (ty : tg b y = 9) (n0 : Nat) : ∀ (f x : Nat) (e : Int), T x ≠ 0 → B < z x + f →
    X L xs 188 18 [.ref y, .ref (d.ph x), .ref (d.ph (c.P.2.2 x))] [] (cl (wkb b y n0 (wd e)) d c) = some (cl (wkb b y (d.ph (clF f c.P x e).1) (wd (clF f c.P x e).2)) d c, none) := by
  intro f
  induction f with
  | zero => intro x e hx hf; have := hB x hx; omega
  | succ f ih =>
    intro x e hx hf
    have hp := hD _ (hW.lzu hx)
    have hdx := hD x (Or.inr hx)
    rw [k_188_18]
    simp only [ph0 hw hp]
    unfold clF
    by_cases p0 : c.P.2.2 x = 0
    · rw [if_pos p0, if_pos p0, k_188_57, p0, hw.1.1, if_pos rfl, k_188_62, k_188_70]
      simp only [Hcl, gd_t, decide_true, Bool.and_self, HQ, HZ, Hwk, ty, HF9, wkb_n hy, k_188_73]
    · have hpT : T (c.P.2.2 x) ≠ 0 := by rw [(hW.up_lt hx p0).2]; exact hx
      have tp : tg b (d.ph (c.P.2.2 x)) = 4 := tN _ (by rw [hp]; exact p0)
      have hr := hD _ (hW.lzr hpT)
      rw [if_neg p0, if_neg p0, k_188_22]
      simp only [Hcl, gd_t, decide_true, Bool.and_self, HQ, HZ, Hwk, tp, HF4, Rn d hp p0, ph0 hw hr]
      have go : X L xs 188 37 [.ref y, .ref (d.ph x), .ref (d.ph (c.P.2.2 x))] [] (cl (wkb b y n0 (wd e)) d c) = some (cl (wkb b y (d.ph (clF f c.P (c.P.2.2 x) (e - 1)).1) (wd (clF f c.P (c.P.2.2 x) (e - 1)).2)) d c, none) := by
        rw [k_188_37]
        simp only [Hcl, gd_t, decide_true, Bool.and_self, HQ, HZ, Hwk, tp, ty, HF4, HF9, Rn d hp p0, wd_sub, wkb_e hy, k_188_54]
        exact ih (c.P.2.2 x) (e - 1) hpT (by have := (hW.up_lt hx p0).1; omega)
      by_cases r0 : c.P.2.1 (c.P.2.2 x) = 0
      · rw [if_pos r0, if_pos (Or.inl r0)]
        exact go
      · rw [if_neg r0, k_188_29]
        simp only [Hcl, gd_t, decide_true, Bool.and_self, HQ, HZ, Hwk, tp, HF4, Rn d hp p0, phI hr hdx]
        by_cases rx : c.P.2.1 (c.P.2.2 x) = x
        · rw [if_neg (fun q => q rx), if_pos (Or.inr rx)]
          exact go
        · rw [if_pos rx, if_neg (fun q => by rcases q with q | q; exact r0 q; exact rx q), k_188_57, if_neg (fun q => p0 ((ph0 hw hp).mp q)), k_188_66]
          simp only [Hcl, gd_t, decide_true, Bool.and_self, HQ, HZ, Hwk, tp, HF4, Rn d hp p0]
          rw [k_188_70]
          simp only [Hcl, gd_t, decide_true, Bool.and_self, HQ, HZ, Hwk, ty, HF9, wkb_n hy, k_188_73]
theorem c187 {b : AH} {d : DS} (hw : DW d) (tN : ∀ x, d.nid x ≠ 0 → tg b x = 4) (c : CS) {T z : Nat → Nat} (hW : WF c.P T z) (hD : ∀ x, LZ T x → d.nid (d.ph x) = x) (hB : ∀ x, T x ≠ 0 → z x ≤ 20002) {y : Nat} (hy : Oud d y) (ty : tg b y = 9) {n : Nat} (hn : T n ≠ 0) (e : Int) :
    XM L xs 187 [.ref y] (cl (wkb b y (d.ph n) (wd e)) d c) = some (cl (wkb b y (d.ph (adv c.P (n, e)).1) (wd (adv c.P (n, e)).2)) d c, none) := by
  have n0 := hW.n0 hn
  have hdn := hD n (Or.inr hn)
  have tn : tg b (d.ph n) = 4 := tN _ (by rw [hdn]; exact n0)
  have pn0 : ¬ d.ph n = 0 := fun q => n0 ((ph0 hw hdn).mp q)
  have h1 := hD _ (hW.lzl hn)
  have h2 := hD _ (hW.lzr hn)
  have dy : decide (y ≠ 0) = true := decide_eq_true (by have := hy.2.2.2; omega)
  have go : ∀ x, x ≠ 0 → d.nid (d.ph x) = x → X L xs 187 35 [.ref y, .null] [.ref (d.ph x)] (cl (wkb b y (d.ph n) (wd e)) d c) = some (cl (wkb b y (d.ph x) (wd (e + 1))) d c, none) := by
    intro x x0 hx
    rw [k_187_35, if_neg (fun q => x0 ((ph0 hw hx).mp q)), k_187_40]
    simp only [Hcl, gd_t, decide_true, Bool.and_self, HQ, HZ, Hwk, ty, HF9, wkb_n hy]
    rw [k_187_45]
    simp only [Hcl, gd_t, decide_true, Bool.and_self, HQ, HZ, Hwk, ty, HF9, wd_add, wkb_e hy, k_187_55, k_187_62]
  rw [en_187, k_187_0]
  simp only [Hcl, gd_t, decide_true, Bool.and_self, HQ, HZ, Hwk, ty, HF9, pn0, if_false]
  rw [k_187_8]
  simp only [Hcl, gd_t, decide_true, Bool.and_self, HQ, HZ, Hwk, ty, tn, HF4, HF9, Rn d hdn n0, ph0 hw h1]
  unfold adv
  by_cases l0 : c.P.1 n = 0
  · rw [if_pos l0, if_neg (fun q => q l0), k_187_28]
    simp only [Hcl, gd_t, decide_true, Bool.and_self, HQ, HZ, Hwk, ty, tn, HF4, HF9, Rn d hdn n0]
    by_cases r0 : c.P.2.1 n = 0
    · rw [if_neg (fun q => q r0), r0, hw.1.1, k_187_35, if_pos rfl, k_187_58]
      have := c188_loop L xs hw tN c hW hD hB hy ty (d.ph n) 20003 n e hn (by omega)
      simp only [Hcl, gd_t, decide_true, Bool.and_self, HQ, HZ, Hwk, ty, dy, cc_8_25_9]
      rw [en_188, k_188_0]
      simp only [Hcl, gd_t, decide_true, Bool.and_self, HQ, HZ, Hwk, ty, HF9, pn0, if_false]
      rw [k_188_13]
      simp only [Hcl, gd_t, decide_true, Bool.and_self, HQ, HZ, Hwk, tn, HF4, Rn d hdn n0]
      rw [k_188_17, this]
      simp only [bV_s, k_187_62]
    · rw [if_pos r0]
      exact go _ r0 h2
  · rw [if_neg l0, if_pos l0, k_187_18]
    simp only [Hcl, gd_t, decide_true, Bool.and_self, HQ, HZ, Hwk, ty, tn, HF4, HF9, Rn d hdn n0]
    exact go _ l0 h1
theorem c186 {b : AH} {d : DS} (c : CS) {y : Nat} (ty : tg b y = 9) (p : Nat) (e : Int) (he1 : -(2 ^ 30) < e) (he2 : e < 2 ^ 30) : XM L xs 186 [.ref y] (cl (wkb b y p (wd e)) d c) = some (cl (wkb b y p (wd e)) d c, some (.int (bI1 (decide (p ≠ 0 ∧ 0 < e))))) := by
  rw [en_186, k_186_0]
  simp only [Hcl, gd_t, decide_true, Bool.and_self, HQ, HZ, Hwk, ty, HF9]
  by_cases p0 : p = 0
  · rw [if_pos p0, k_186_18, k_186_19, show decide (p ≠ 0 ∧ 0 < e) = false from decide_eq_false (fun q => q.1 p0)]
    rfl
  · rw [if_neg p0, k_186_7]
    simp only [Hcl, gd_t, decide_true, Bool.and_self, HQ, HZ, Hwk, ty, HF9]
    have hle : wd e ≤ 0 ↔ e ≤ 0 := by
      unfold wd
      rw [Int32.le_iff_toInt_le, Int32.toInt_ofInt_of_le (by omega) (by omega)]
      exact Iff.rfl
    by_cases q : e ≤ 0
    · rw [if_pos (hle.mpr q), k_186_18, k_186_19, show decide (p ≠ 0 ∧ 0 < e) = false from decide_eq_false (fun r => by have := r.2; omega)]
      rfl
    · rw [if_neg (fun r => q (hle.mp r)), k_186_14, k_186_19, show decide (p ≠ 0 ∧ 0 < e) = true from decide_eq_true ⟨p0, by omega⟩]
      rfl
end Cwk
theorem clF_ge {P : PT} : ∀ (f x : Nat) (e : Int), e - f ≤ (clF f P x e).2 := by
  intro f
  induction f with
  | zero => intro x e; show e - ((0 : Nat) : Int) ≤ e; omega
  | succ f ih =>
    intro x e
    unfold clF
    by_cases p0 : P.2.2 x = 0
    · rw [if_pos p0]; show e - ((f + 1 : Nat) : Int) ≤ e; omega
    · rw [if_neg p0]
      by_cases q : P.2.1 (P.2.2 x) = 0 ∨ P.2.1 (P.2.2 x) = x
      · rw [if_pos q]; have := ih (P.2.2 x) (e - 1); omega
      · rw [if_neg q]; show e - ((f + 1 : Nat) : Int) ≤ e; omega
/-- the walk from a node, step by step -/
theorem wst {P : PT} {T z : Nat → Nat} (hW : WF P T z) (hT : TN T) {r : Nat} (hr : T r ≠ 0) {k : Nat} (hk : k < z r) : ∃ p, (pdF 20003 P r 0)[k]? = some p ∧ itA P k (r, 0) = (p.1, (p.2 : Int)) ∧ T p.1 ≠ 0 ∧ p.2 < 20003 ∧ itA P (k + 1) (r, 0) = adv P (p.1, (p.2 : Int)) ∧ (k = 0 → p = (r, 0)) ∧ (0 < k → 0 < p.2) := by
  have hz := hW.z_le hT.2 (Or.inr hr)
  have hB : ∀ x, T x ≠ 0 → z x ≤ 20002 := fun x hx => hW.z_le hT.2 (Or.inr hx)
  have hlen : (pdF 20003 P r 0).length = z r := by rw [pdF_len, zF_eq hW 20003 r (Or.inr hr) (by omega)]
  obtain ⟨a1, a2⟩ := wk hW hB 20003 r 0 hr (by omega)
  have hk2 : k < (pdF 20003 P r 0).length := by rw [hlen]; exact hk
  obtain ⟨p, e1⟩ : ∃ p, (pdF 20003 P r 0)[k]? = some p := ⟨_, List.getElem?_eq_getElem hk2⟩
  have hmem : p ∈ pdF 20003 P r 0 := List.mem_of_getElem? e1
  have e2 : (pdF 20003 P r 0).getD k (0, 0) = p := by rw [List.getD_eq_getElem?_getD, e1]; rfl
  have e3 : itA P k (r, 0) = (p.1, (p.2 : Int)) := by
    have := a1 k hk
    rw [e2] at this
    exact this
  have hT' : T p.1 ≠ 0 := by
    obtain ⟨i0, i1, -⟩ := pd_up hW 20003 r 0 (Or.inr hr) (by omega) _ (List.mem_map.mpr ⟨_, hmem, rfl⟩)
    rw [i1]; exact hr
  have hd := pd_dlt 20003 r 0 _ hmem
  have hcons : pdF 20003 P r 0 = (r, 0) :: (pdF 20003 P (P.1 r) 1 ++ pdF 20003 P (P.2.1 r) 1) := pdF_eq hW hr (by omega)
  refine ⟨p, e1, e3, hT', by omega, ?_, fun k0 => ?_, fun k0 => ?_⟩
  · rw [itA_S, e3]
  · subst k0
    have := e1
    rw [hcons, List.getElem?_cons_zero] at this
    exact (Option.some.inj this).symm
  · obtain ⟨j, rfl⟩ : ∃ j, k = j + 1 := ⟨k - 1, by omega⟩
    have := e1
    rw [hcons, List.getElem?_cons_succ] at this
    have hm := List.mem_of_getElem? this
    rcases List.mem_append.mp hm with q | q
    · rcases pd_dep 20003 _ _ _ q with g | g
      · rw [g]; exact Nat.lt_succ_self _
      · omega
    · rcases pd_dep 20003 _ _ _ q with g | g
      · rw [g]; exact Nat.lt_succ_self _
      · omega
theorem wen {P : PT} {T z : Nat → Nat} (hW : WF P T z) (hT : TN T) {r : Nat} (hr : T r ≠ 0) : itA P (z r) (r, 0) = clF 20003 P r 0 := by
  have hz := hW.z_le hT.2 (Or.inr hr)
  exact (wk hW (fun x hx => hW.z_le hT.2 (Or.inr hx)) 20003 r 0 hr (by omega)).2
theorem wen0 {P : PT} {T z : Nat → Nat} (hW : WF P T z) (hT : TN T) {r : Nat} (hr : T r ≠ 0) (hu : P.2.2 r = 0) : itA P (z r) (r, 0) = (0, 0) := by
  rw [wen hW hT hr]
  show (if P.2.2 r = 0 then (0, (0 : Int)) else _) = _
  rw [if_pos hu]
theorem drop_S {α : Type} {l : List α} {k : Nat} {p : α} (h : l[k]? = some p) : l.drop k = p :: l.drop (k + 1) := by
  have hk : k < l.length := by
    rcases Nat.lt_or_ge k l.length with q | q
    · exact q
    · rw [List.getElem?_eq_none q] at h; cases h
  rw [List.drop_eq_getElem_cons hk]
  rw [List.getElem?_eq_getElem hk] at h
  rw [Option.some.inj h]
section Cwk2
variable (L : Nat) (xs : Nat → Int32)
theorem c49_loop {b : AH} {d : DS} (hw : DW d) (tN : ∀ x, d.nid x ≠ 0 → tg b x = 4) (c : CS) {T z : Nat → Nat} (hW : WF c.P T z) (hT : TN T) (hD : ∀ x, LZ T x → d.nid (d.ph x) = x) {y : Nat} (hy : Oud d y) (ty : tg b y = 9) {r : Nat} (hr : T r ≠ 0) (hu : c.P.2.2 r = 0) (hz : z r ≤ 20000) (l0 : Nat) : ∀ (j k m : Nat), k + j = z r → m < 20003 →
    X L xs 49 13 [.ref l0, .ref y, .int (nI m), .int (nI k)] [] (cl (wkb b y (d.ph (itA c.P k (r, 0)).1) (wd (itA c.P k (r, 0)).2)) d c) = some (cl (wkb b y 0 0) d c, some (.int (nI (mxD m ((pdF 20003 c.P r 0).drop k))))) := by
  have hB : ∀ x, T x ≠ 0 → z x ≤ 20002 := fun x hx => hW.z_le hT.2 (Or.inr hx)
  have hlen : (pdF 20003 c.P r 0).length = z r := by rw [pdF_len, zF_eq hW 20003 r (Or.inr hr) (by omega)]
  have c20 : (20000 : Int32) = nI 20000 := by decide +kernel
  have dy : decide (y ≠ 0) = true := decide_eq_true (by have := hy.2.2.2; omega)
  intro j
  induction j with
  | zero =>
    intro k m hk hm
    have e : k = z r := by omega
    subst e
    rw [wen0 hW hT hr hu, k_49_13]
    have en : (pdF 20003 c.P r 0).drop (z r) = [] := List.drop_eq_nil_of_le (by omega)
    rw [en, hw.1.1]
    have e0 : wd 0 = 0 := by decide +kernel
    rw [e0]
    by_cases q : (20000 : Int32) ≤ nI (z r)
    · rw [if_pos q, k_49_46]; rfl
    · rw [if_neg q, k_49_20]
      simp only [Hcl, gd_t, decide_true, Bool.and_self, HQ, HZ, Hwk, ty, HF9, if_true]
      rw [k_49_46]; rfl
  | succ j ih =>
    intro k m hk hm
    obtain ⟨p, p1, p2, p3, p4, p5, -, -⟩ := wst hW hT hr (show k < z r by omega)
    have hdp := hD _ (Or.inr p3)
    have pn0 : ¬ d.ph p.1 = 0 := fun q => hW.n0 p3 ((ph0 hw hdp).mp q)
    rw [k_49_13, if_neg (by rw [c20]; exact nI_ge (by omega) (by decide)), k_49_20, p2]
    simp only [Hcl, gd_t, decide_true, Bool.and_self, HQ, HZ, Hwk, ty, HF9, pn0, if_false]
    rw [k_49_27]
    simp only [Hcl, gd_t, decide_true, Bool.and_self, HQ, HZ, Hwk, ty, HF9, dy, cc_0_275_9, c187 L xs hw tN c hW hD hB hy ty p3 (p.2 : Int), bV_s, nI_1]
    rw [wd_nat, ← p5]
    have em : (if nI m < nI p.2 then nI p.2 else nI m) = nI (max m p.2) := by
      by_cases q : m < p.2
      · rw [if_pos (nI_lt q (by omega)), show max m p.2 = p.2 from by omega]
      · rw [if_neg (nI_nlt (by omega) (by omega)), show max m p.2 = m from by omega]
    rw [em, ih (k + 1) (max m p.2) (by omega) (by omega), drop_S p1]
    rfl
theorem c49 {b : AH} {d : DS} (hw : DW d) (hBd : Bd b d) (tN : ∀ x, d.nid x ≠ 0 → tg b x = 4) (c : CS) {T z : Nat → Nat} (hW : WF c.P T z) (hT : TN T) (hD : ∀ x, LZ T x → d.nid (d.ph x) = x) {r : Nat} (hr : LZ T r) (hu : r ≠ 0 → c.P.2.2 r = 0) (hz : z r ≤ 20000) :
    XM L xs 49 [.ref (d.ph r)] (cl b d c) = some (cl (bWk b 0 0) d c, some (.int (nI (mxD 0 (pdF 20003 c.P r 0))))) := by
  have hy := hBd.out (Nat.lt_succ_self _)
  have tN' : ∀ x, d.nid x ≠ 0 → tg (mk b 9 0 2) x = 4 := fun x hx => by
    show u1 b.2.2.1 (nn b + 1) 9 x = 4
    rw [u1_o _ _ (fun e => by have := hBd.2.1 x hx; omega)]; exact tN x hx
  have ty : tg (mk b 9 0 2) (nn b + 1) = 9 := u1_s _ _ _
  rw [en_49, k_49_0, k_49_3]
  simp only [Hcl, HQ, Bool.and_self, gd_t, show decide (nn b + 1 ≠ 0) = true from decide_eq_true (by omega), cc_0_273_0, c185 L xs hBd, bV_s]
  by_cases r0 : r = 0
  · subst r0
    rw [hw.1.1, k_49_13, if_neg (by decide), k_49_20]
    have e1 : fR (cl (bWk b 0 0) d c) 35 (nn b + 1) = 0 := (Hwk (mk b 9 0 2) (nn b + 1) 0 0).1
    simp only [Hcl, gd_t, decide_true, Bool.and_self, HQ, HZ, show tg (bWk b 0 0) (nn b + 1) = 9 from ty, HF9, show fR (bWk b 0 0) 35 (nn b + 1) = 0 from (Hwk (mk b 9 0 2) (nn b + 1) 0 0).1, if_true, k_49_46, pdF_0]
    rfl
  · have hrT : T r ≠ 0 := by rcases hr with e | e; exact absurd e r0; exact e
    have := c49_loop L xs hw tN' c hW hT hD hy ty hrT (hu r0) hz (d.ph r) (z r) 0 0 (by omega) (by omega)
    rw [List.drop_zero] at this
    exact this
theorem c48_loop {b : AH} {d : DS} (hw : DW d) (tN : ∀ x, d.nid x ≠ 0 → tg b x = 4) (c : CS) {T z : Nat → Nat} (hW : WF c.P T z) (hT : TN T) (hD : ∀ x, LZ T x → d.nid (d.ph x) = x) {y : Nat} (hy : Oud d y) (ty : tg b y = 9) {r : Nat} (hr : T r ≠ 0) (hz : z r ≤ 20000) (l0 : Nat) : ∀ (j k : Nat), k + j = z r → 1 ≤ k →
    X L xs 48 15 [.ref l0, .ref y, .int (nI k)] [] (cl (wkb b y (d.ph (itA c.P k (r, 0)).1) (wd (itA c.P k (r, 0)).2)) d c) = some (cl (wkb b y (d.ph (itA c.P (z r) (r, 0)).1) (wd (itA c.P (z r) (r, 0)).2)) d c, some (.int (nI (z r)))) := by
  have hB : ∀ x, T x ≠ 0 → z x ≤ 20002 := fun x hx => hW.z_le hT.2 (Or.inr hx)
  have c20 : (20000 : Int32) = nI 20000 := by decide +kernel
  have dy : decide (y ≠ 0) = true := decide_eq_true (by have := hy.2.2.2; omega)
  intro j
  induction j with
  | zero =>
    intro k hk k1
    have e : k = z r := by omega
    subst e
    rw [k_48_15]
    by_cases q : (20000 : Int32) ≤ nI (z r)
    · rw [if_pos q, k_48_39]
    · rw [if_neg q, k_48_22]
      have hle : (itA c.P (z r) (r, 0)).2 ≤ 0 := by rw [wen hW hT hr]; exact clF_le 20003 r 0
      have hge : -20003 ≤ (itA c.P (z r) (r, 0)).2 := by rw [wen hW hT hr]; have := clF_ge (P := c.P) 20003 r 0; omega
      simp only [Hcl, gd_t, decide_true, Bool.and_self, HQ, HZ, Hwk, ty, dy, cc_0_281_9, c186 L xs c ty _ _ (show -(2 ^ 30) < (itA c.P (z r) (r, 0)).2 by omega) (show (itA c.P (z r) (r, 0)).2 < 2 ^ 30 by omega), bI_s]
      rw [show decide (d.ph (itA c.P (z r) (r, 0)).1 ≠ 0 ∧ 0 < (itA c.P (z r) (r, 0)).2) = false from decide_eq_false (fun g => by have := g.2; omega), if_pos (by decide), k_48_39]
  | succ j ih =>
    intro k hk k1
    obtain ⟨p, p1, p2, p3, p4, p5, -, p6⟩ := wst hW hT hr (show k < z r by omega)
    have hdp := hD _ (Or.inr p3)
    have pn0 : d.ph p.1 ≠ 0 := fun q => hW.n0 p3 ((ph0 hw hdp).mp q)
    have p7 := p6 (by omega)
    rw [k_48_15, if_neg (by rw [c20]; exact nI_ge (by omega) (by decide)), k_48_22, p2]
    simp only [Hcl, gd_t, decide_true, Bool.and_self, HQ, HZ, Hwk, ty, dy, cc_0_281_9, c186 L xs c ty (d.ph p.1) (p.2 : Int) (by omega) (by omega), bI_s]
    rw [show decide (d.ph p.1 ≠ 0 ∧ 0 < (p.2 : Int)) = true from decide_eq_true ⟨pn0, by omega⟩, if_neg (by decide), k_48_29]
    simp only [Hcl, gd_t, decide_true, Bool.and_self, HQ, HZ, Hwk, ty, dy, cc_0_275_9, c187 L xs hw tN c hW hD hB hy ty p3 (p.2 : Int), bV_s, nI_1]
    rw [← p5]
    exact ih (k + 1) (by omega) (by omega)
theorem c48 {b : AH} {d : DS} (hw : DW d) (hBd : Bd b d) (tN : ∀ x, d.nid x ≠ 0 → tg b x = 4) (c : CS) {T z : Nat → Nat} (hW : WF c.P T z) (hT : TN T) (hD : ∀ x, LZ T x → d.nid (d.ph x) = x) {r : Nat} (hr : T r ≠ 0) (hz : z r ≤ 20000) :
    ∃ p e, XM L xs 48 [.ref (d.ph r)] (cl b d c) = some (cl (bWk b p e) d c, some (.int (nI (z r)))) := by
  have hB : ∀ x, T x ≠ 0 → z x ≤ 20002 := fun x hx => hW.z_le hT.2 (Or.inr hx)
  have hy := hBd.out (Nat.lt_succ_self _)
  have tN' : ∀ x, d.nid x ≠ 0 → tg (mk b 9 0 2) x = 4 := fun x hx => by
    show u1 b.2.2.1 (nn b + 1) 9 x = 4
    rw [u1_o _ _ (fun e => by have := hBd.2.1 x hx; omega)]; exact tN x hx
  have ty : tg (mk b 9 0 2) (nn b + 1) = 9 := u1_s _ _ _
  refine ⟨d.ph (itA c.P (z r) (r, 0)).1, wd (itA c.P (z r) (r, 0)).2, ?_⟩
  have hpos := hW.pos hr
  obtain ⟨p, p1, p2, p3, p4, p5, p6, -⟩ := wst hW hT hr (show 0 < z r by omega)
  have p7 := p6 rfl
  subst p7
  have adv1 := c187 L xs hw tN' c hW hD hB hy ty hr 0
  have e0 : wd 0 = 0 := by decide +kernel
  rw [e0] at adv1
  rw [en_48, k_48_0, k_48_3]
  simp only [Hcl, HQ, Bool.and_self, gd_t, show decide (nn b + 1 ≠ 0) = true from decide_eq_true (by omega), cc_0_273_0, c185 L xs hBd, bV_s, show tg (bWk b (d.ph r) 0) (nn b + 1) = 9 from ty, cc_0_275_9]
  rw [show XM L xs 187 [.ref (nn b + 1)] (cl (bWk b (d.ph r) 0) d c) = _ from adv1]
  simp only [bV_s]
  have p5' : itA c.P 1 (r, 0) = adv c.P (r, 0) := p5
  rw [← p5']
  exact c48_loop L xs hw tN' c hW hT hD hy ty hr hz (d.ph r) (z r - 1) 1 (by omega) (by omega)
theorem c46_loop {b : AH} {d : DS} (hw : DW d) (tN : ∀ x, d.nid x ≠ 0 → tg b x = 4) (c : CS) {T z : Nat → Nat} (hW : WF c.P T z) (hT : TN T) (hD : ∀ x, LZ T x → d.nid (d.ph x) = x) {y : Nat} (hy : Oud d y) (ty : tg b y = 9) {r : Nat} (hr : T r ≠ 0) (hu : c.P.2.2 r = 0) (l0 : Nat) (i : Int32) (hi : i.toInt < 2 ^ 31) : ∀ (j k : Nat), k + j = z r → (k : Int) ≤ i.toInt →
    X L xs 46 19 [.ref l0, .int i, .ref y, .int (nI k)] [] (cl (wkb b y (d.ph (itA c.P k (r, 0)).1) (wd (itA c.P k (r, 0)).2)) d c) = some (cl (wkb b y (d.ph (itA c.P (min i.toInt.toNat (z r)) (r, 0)).1) (wd (itA c.P (min i.toInt.toNat (z r)) (r, 0)).2)) d c, some (.ref y)) := by
  have hB : ∀ x, T x ≠ 0 → z x ≤ 20002 := fun x hx => hW.z_le hT.2 (Or.inr hx)
  have dy : decide (y ≠ 0) = true := decide_eq_true (by have := hy.2.2.2; omega)
  have hzr := hB r hr
  intro j
  induction j with
  | zero =>
    intro k hk hki
    have e : k = z r := by omega
    subst e
    rw [show min i.toInt.toNat (z r) = z r from by omega, k_46_19]
    by_cases q : i ≤ nI (z r)
    · rw [if_pos q, k_46_41]
    · rw [if_neg q, k_46_24, wen0 hW hT hr hu, hw.1.1]
      simp only [Hcl, gd_t, decide_true, Bool.and_self, HQ, HZ, Hwk, ty, HF9, if_true, k_46_41]
  | succ j ih =>
    intro k hk hki
    obtain ⟨p, p1, p2, p3, p4, p5, -, -⟩ := wst hW hT hr (show k < z r by omega)
    have hdp := hD _ (Or.inr p3)
    have pn0 : ¬ d.ph p.1 = 0 := fun q => hW.n0 p3 ((ph0 hw hdp).mp q)
    have hle : i ≤ nI k ↔ i.toInt ≤ (k : Int) := by rw [Int32.le_iff_toInt_le, nI_toInt (by omega)]
    rw [k_46_19]
    by_cases q : i ≤ nI k
    · have := hle.mp q
      rw [if_pos q, k_46_41, show min i.toInt.toNat (z r) = k from by omega]
    · have q' : ¬ i.toInt ≤ (k : Int) := fun g => q (hle.mpr g)
      rw [if_neg q, k_46_24, p2]
      simp only [Hcl, gd_t, decide_true, Bool.and_self, HQ, HZ, Hwk, ty, HF9, pn0, if_false]
      rw [k_46_31]
      simp only [Hcl, gd_t, decide_true, Bool.and_self, HQ, HZ, Hwk, ty, dy, cc_0_275_9, c187 L xs hw tN c hW hD hB hy ty p3 (p.2 : Int), bV_s, nI_1]
      rw [← p5]
      exact ih (k + 1) (by omega) (by omega)
/-- walkTo: the node is the i-th of the walk, or none -/
theorem c46 {b : AH} {d : DS} (hw : DW d) (hBd : Bd b d) (tN : ∀ x, d.nid x ≠ 0 → tg b x = 4) (c : CS) {T z : Nat → Nat} (hW : WF c.P T z) (hT : TN T) (hD : ∀ x, LZ T x → d.nid (d.ph x) = x) {r : Nat} (hr : LZ T r) (hu : r ≠ 0 → c.P.2.2 r = 0) (i : Int32) :
    ∃ e, XM L xs 46 [.ref (d.ph r), .int i] (cl b d c) = some (cl (bWk b (d.ph (if i < 0 then 0 else ((pdF 20003 c.P r 0).getD i.toInt.toNat (0, 0)).1)) e) d c, some (.ref (nn b + 1))) ∧ (¬ i < 0 → ∀ p, (pdF 20003 c.P r 0)[i.toInt.toNat]? = some p → e = nI p.2) := by
  have hB : ∀ x, T x ≠ 0 → z x ≤ 20002 := fun x hx => hW.z_le hT.2 (Or.inr hx)
  have hy := hBd.out (Nat.lt_succ_self _)
  have tN' : ∀ x, d.nid x ≠ 0 → tg (mk b 9 0 2) x = 4 := fun x hx => by
    show u1 b.2.2.1 (nn b + 1) 9 x = 4
    rw [u1_o _ _ (fun e => by have := hBd.2.1 x hx; omega)]; exact tN x hx
  have ty : tg (mk b 9 0 2) (nn b + 1) = 9 := u1_s _ _ _
  have nul : ∀ (l0 : Nat), X L xs 46 19 [.ref l0, .int i, .ref (nn b + 1), .int 0] [] (cl (bWk b 0 0) d c) = some (cl (bWk b 0 0) d c, some (.ref (nn b + 1))) := by
    intro l0
    rw [k_46_19]
    by_cases q : i ≤ 0
    · rw [if_pos q, k_46_41]
    · rw [if_neg q, k_46_24]
      simp only [Hcl, gd_t, decide_true, Bool.and_self, HQ, HZ, show tg (bWk b 0 0) (nn b + 1) = 9 from ty, HF9, show fR (bWk b 0 0) 35 (nn b + 1) = 0 from (Hwk (mk b 9 0 2) (nn b + 1) 0 0).1, if_true, k_46_41]
  rw [en_46, k_46_0, k_46_3]
  by_cases i0 : i < 0
  · refine ⟨0, ?_, fun q => absurd i0 q⟩
    rw [if_neg (Int32.not_le.mpr i0), if_pos i0, k_46_8, k_46_13]
    simp only [Hcl, HQ, Bool.and_self, gd_t, show decide (nn b + 1 ≠ 0) = true from decide_eq_true (by omega), cc_0_273_0, c185 L xs hBd, bV_s]
    rw [nul, hw.1.1]
  · rw [if_pos (Int32.not_lt.mp i0), if_neg i0, k_46_12, k_46_13]
    simp only [Hcl, HQ, Bool.and_self, gd_t, show decide (nn b + 1 ≠ 0) = true from decide_eq_true (by omega), cc_0_273_0, c185 L xs hBd, bV_s]
    by_cases r0 : r = 0
    · subst r0
      refine ⟨0, ?_, fun _ p hp => by rw [pdF_0, List.getElem?_nil] at hp; cases hp⟩
      rw [hw.1.1, nul, pdF_0, show ([] : List (Nat × Nat)).getD i.toInt.toNat (0, 0) = (0, 0) from rfl, hw.1.1]
    · have hrT : T r ≠ 0 := by rcases hr with e | e; exact absurd e r0; exact e
      have hz := hB r hrT
      have hi1 : (0 : Int) ≤ i.toInt := by
        have := Int32.not_lt.mp i0
        rw [Int32.le_iff_toInt_le] at this
        exact this
      have hi2 : i.toInt < 2 ^ 31 := Int32.toInt_lt i
      have lp := c46_loop L xs hw tN' c hW hT hD hy ty hrT (hu r0) (d.ph r) i hi2 (z r) 0 (by omega) (by omega)
      have hlen : (pdF 20003 c.P r 0).length = z r := by rw [pdF_len, zF_eq hW 20003 r (Or.inr hrT) (by omega)]
      have e0 : wd 0 = 0 := by decide +kernel
      by_cases q : i.toInt.toNat < z r
      · obtain ⟨p, p1, p2, -⟩ := wst hW hT hrT q
        rw [show min i.toInt.toNat (z r) = i.toInt.toNat from by omega, p2, wd_nat] at lp
        refine ⟨nI p.2, ?_, fun _ p' hp' => ?_⟩
        · rw [List.getD_eq_getElem?_getD, p1]
          exact lp
        · rw [p1] at hp'
          rw [Option.some.inj hp']
      · rw [show min i.toInt.toNat (z r) = z r from by omega, wen0 hW hT hrT (hu r0)] at lp
        refine ⟨wd 0, ?_, fun _ p' hp' => ?_⟩
        · rw [List.getD_eq_getElem?_getD, List.getElem?_eq_none (by omega)]
          exact lp
        · rw [List.getElem?_eq_none (by omega)] at hp'; cases hp'
def cCn (c : CS) (s a e f : Nat) : CS := ((c.she (u1 c.he s a)).svs (u1 c.vs s e)).slg (u1 c.lg s f)
theorem cCn_S (c : CS) (s a e f a' e' f' : Nat) : (((cCn c s a e f).she (u1 (cCn c s a e f).he s a')).svs (u1 (cCn c s a e f).vs s e')).slg (u1 (cCn c s a e f).lg s f') = cCn c s a' e' f' := by
  have B1 : ∀ (c : CS) (v w : Nat → Nat), (c.slg v).she w = (c.she w).slg v := fun _ _ _ => (rfl)
  have B2 : ∀ (c : CS) (v w : Nat → Nat), (c.svs v).she w = (c.she w).svs v := fun _ _ _ => (rfl)
  have B3 : ∀ (c : CS) (v w : Nat → Nat), (c.she v).she w = c.she w := fun _ _ _ => (rfl)
  have B4 : ∀ (c : CS) (v w : Nat → Nat), (c.slg v).svs w = (c.svs w).slg v := fun _ _ _ => (rfl)
  have B5 : ∀ (c : CS) (v w : Nat → Nat), (c.svs v).svs w = c.svs w := fun _ _ _ => (rfl)
  unfold cCn
  simp only [Uhe, Uvs, Ulg, B1, B2, B3, B4, B5, A8, u1_u1]
theorem c178_loop {b : AH} {d : DS} (hw : DW d) (tN : ∀ x, d.nid x ≠ 0 → tg b x = 4) {s : Nat} (hsd : d.sid (d.sa (s + 1)) = s + 1) (ts : tg b (d.sa (s + 1)) = 7) (c : CS) {T z : Nat → Nat} (hW : WF c.P T z) (hT : TN T) (hD : ∀ x, LZ T x → d.nid (d.ph x) = x) {y : Nat} (hy : Oud d y) (ty : tg b y = 9) {r : Nat} (hr : T r ≠ 0) (hu : c.P.2.2 r = 0) (hz : z r ≤ 20000) (hcz : ∀ x, T x ≠ 0 → c.cz x < 2 ^ 31) : ∀ (j k e f : Nat), k + j = z r →
    X L xs 178 12 [.ref (d.sa (s + 1)), .ref y] [] (cl (wkb b y (d.ph (itA c.P k (r, 0)).1) (wd (itA c.P k (r, 0)).2)) d (cCn c s k e f)) = some (cl (wkb b y 0 0) d (cCn c s (z r) (e + (((pdF 20003 c.P r 0).drop k).map (fun p => c.nv p.1)).sum) (f + (((pdF 20003 c.P r 0).drop k).map (fun p => Nat.log2 (c.cz p.1))).sum)), none) := by
  have hB : ∀ x, T x ≠ 0 → z x ≤ 20002 := fun x hx => hW.z_le hT.2 (Or.inr hx)
  have hlen : (pdF 20003 c.P r 0).length = z r := by rw [pdF_len, zF_eq hW 20003 r (Or.inr hr) (by omega)]
  have c20 : (20000 : Int32) = nI 20000 := by decide +kernel
  have dy : decide (y ≠ 0) = true := decide_eq_true (by have := hy.2.2.2; omega)
  have e0 : wd 0 = 0 := by decide +kernel
  have rh : ∀ (b : AH) (k e f : Nat), fI (cl b d (cCn c s k e f)) 14 (d.sa (s + 1)) = nI k := fun b k e f => (Rs d hsd b (cCn c s k e f)).2.1.trans (congrArg nI (u1_s _ _ _))
  have rv : ∀ (b : AH) (k e f : Nat), (cCn c s k e f).vs s = e := fun b k e f => u1_s _ _ _
  have rl : ∀ (b : AH) (k e f : Nat), (cCn c s k e f).lg s = f := fun b k e f => u1_s _ _ _
  intro j
  induction j with
  | zero =>
    intro k e f hk
    have ek : k = z r := by omega
    subst ek
    rw [wen0 hW hT hr hu, List.drop_eq_nil_of_le (by omega), hw.1.1, e0, k_178_12]
    simp only [Hcl, gd_t, decide_true, Bool.and_self, HQ, HZ, Hwk, ts, HF7, rh]
    by_cases q : (20000 : Int32) ≤ nI (z r)
    · rw [if_pos q, k_178_81]; rfl
    · rw [if_neg q, k_178_22]
      simp only [Hcl, gd_t, decide_true, Bool.and_self, HQ, HZ, Hwk, ty, HF9, if_true, k_178_81]; rfl
  | succ j ih =>
    intro k e f hk
    obtain ⟨p, p1, p2, p3, p4, p5, -, -⟩ := wst hW hT hr (show k < z r by omega)
    have p0 := hW.n0 p3
    have hdp := hD _ (Or.inr p3)
    have pn0 : ¬ d.ph p.1 = 0 := fun q => p0 ((ph0 hw hdp).mp q)
    have tp : tg b (d.ph p.1) = 4 := tN _ (by rw [hdp]; exact p0)
    have env : (cCn c s k e f).nv = c.nv := rfl
    have ecz : (cCn c s k e f).cz = c.cz := rfl
    have hPP : (cCn c s (k + 1) (e + c.nv p.1) (f + Nat.log2 (c.cz p.1))).P = c.P := rfl
    have adv1 := c187 L xs hw tN (cCn c s (k + 1) (e + c.nv p.1) (f + Nat.log2 (c.cz p.1))) hW hD hB hy ty p3 (p.2 : Int)
    rw [hPP, ← p5] at adv1
    rw [k_178_12, p2]
    simp only [Hcl, gd_t, decide_true, Bool.and_self, HQ, HZ, Hwk, ts, HF7, rh]
    rw [if_neg (by rw [c20]; exact nI_ge (by omega) (by decide)), k_178_22]
    simp only [Hcl, gd_t, decide_true, Bool.and_self, HQ, HZ, Hwk, ty, HF9, pn0, if_false]
    rw [k_178_29]
    simp only [Hcl, gd_t, decide_true, Bool.and_self, HQ, HZ, Hwk, ts, HF7, rh, nI_1, cl_he _ hw _ hsd]
    rw [k_178_39]
    simp only [Hcl, gd_t, decide_true, Bool.and_self, HQ, HZ, Hwk, ts, ty, tp, HF7, HF9, HF4, Rs d hsd, Rn d hdp p0, Uhe, rv b, env, nI_add, cl_vs _ hw _ hsd]
    rw [k_178_55]
    simp only [Hcl, gd_t, decide_true, Bool.and_self, HQ, HZ, Hwk, ts, ty, tp, HF7, HF9, HF4, Rs d hsd, Rn d hdp p0, Uhe, Uvs, rl b, ecz, cc_6_47_0, s_40 L xs _ _ (hcz _ p3), bI_s, nI_add, cl_lg _ hw _ hsd]
    rw [cCn_S, k_178_74]
    simp only [Hcl, gd_t, decide_true, Bool.and_self, HQ, HZ, Hwk, ty, dy, cc_6_98_9, adv1, bV_s]
    rw [ih (k + 1) (e + c.nv p.1) (f + Nat.log2 (c.cz p.1)) (by omega), drop_S p1, List.map_cons, List.map_cons, List.sum_cons, List.sum_cons, Nat.add_assoc, Nat.add_assoc]
theorem c178 {b : AH} {d : DS} (hw : DW d) (hBd : Bd b d) (tN : ∀ x, d.nid x ≠ 0 → tg b x = 4) {s : Nat} (hsd : d.sid (d.sa (s + 1)) = s + 1) (ts : tg b (d.sa (s + 1)) = 7) (c : CS) {T z : Nat → Nat} (hW : WF c.P T z) (hT : TN T) (hD : ∀ x, LZ T x → d.nid (d.ph x) = x) (hr : LZ T (c.ro s)) (hu : c.ro s ≠ 0 → c.P.2.2 (c.ro s) = 0) (hz : z (c.ro s) ≤ 20000) (hcz : ∀ x, T x ≠ 0 → c.cz x < 2 ^ 31) (h1 : c.he s = 0) (h2 : c.vs s = 0) (h3 : c.lg s = 0) :
    XM L xs 178 [.ref (d.sa (s + 1))] (cl b d c) = some (cl (bWk b 0 0) d (cCn c s (z (c.ro s)) (((pdF 20003 c.P (c.ro s) 0)).map (fun p => c.nv p.1)).sum (((pdF 20003 c.P (c.ro s) 0)).map (fun p => Nat.log2 (c.cz p.1))).sum), none) := by
  have hy := hBd.out (Nat.lt_succ_self _)
  have tN' : ∀ x, d.nid x ≠ 0 → tg (mk b 9 0 2) x = 4 := fun x hx => by
    show u1 b.2.2.1 (nn b + 1) 9 x = 4
    rw [u1_o _ _ (fun e => by have := hBd.2.1 x hx; omega)]; exact tN x hx
  have sn : d.sa (s + 1) ≠ nn b + 1 := fun e => by have := hBd.2.2.2 (d.sa (s + 1)) (by rw [hsd]; exact Nat.succ_ne_zero s); omega
  have ts' : tg (mk b 9 0 2) (d.sa (s + 1)) = 7 := by
    show u1 b.2.2.1 (nn b + 1) 9 (d.sa (s + 1)) = 7
    rw [u1_o _ _ sn]; exact ts
  have ty : tg (mk b 9 0 2) (nn b + 1) = 9 := u1_s _ _ _
  have r13 : fR (mk (cl b d c) 9 0 2) 13 (d.sa (s + 1)) = d.ph (c.ro s) := by
    simp only [Hmk, Hcl, sn, if_false]
    exact (Rs d hsd b c).2.2.2.2.2.2.2.2.1
  have idc : cCn c s 0 0 0 = c := by
    have q1 : u1 c.he s 0 = c.he := by rw [← h1]; exact u1_id _ _
    have q2 : u1 c.vs s 0 = c.vs := by rw [← h2]; exact u1_id _ _
    have q3 : u1 c.lg s 0 = c.lg := by rw [← h3]; exact u1_id _ _
    unfold cCn
    rw [q1, q2, q3]
    rfl
  rw [en_178, k_178_0, k_178_3]
  simp only [Hcl, show tg (mk (cl b d c) 9 0 2) (d.sa (s + 1)) = 7 from ts', HF7, HQ, Bool.and_self, gd_t, show decide (nn b + 1 ≠ 0) = true from decide_eq_true (by omega), r13, cc_6_92_0, c185 L xs hBd, bV_s]
  by_cases r0 : c.ro s = 0
  · rw [r0, hw.1.1, k_178_12]
    have e1 : (fI (cl (bWk b 0 0) d c) 14 (d.sa (s + 1))) = 0 := by
      rw [(Rs d hsd (bWk b 0 0) c).2.1, h1]; exact nI_0
    simp only [Hcl, gd_t, decide_true, Bool.and_self, HQ, HZ, show tg (bWk b 0 0) (d.sa (s + 1)) = 7 from ts', HF7, e1]
    rw [if_neg (by decide), k_178_22]
    simp only [Hcl, gd_t, decide_true, Bool.and_self, HQ, HZ, show tg (bWk b 0 0) (nn b + 1) = 9 from ty, HF9, show fR (bWk b 0 0) 35 (nn b + 1) = 0 from (Hwk (mk b 9 0 2) (nn b + 1) 0 0).1, if_true, k_178_81, pdF_0, List.map_nil, List.sum_nil]
    rw [hW.2.1, idc]
  · have hrT : T (c.ro s) ≠ 0 := by rcases hr with e | e; exact absurd e r0; exact e
    have := c178_loop L xs hw tN' hsd ts' c hW hT hD hy ty hrT (hu r0) hz hcz (z (c.ro s)) 0 0 0 (by omega)
    rw [idc, List.drop_zero, Nat.zero_add, Nat.zero_add] at this
    exact this
end Cwk2
