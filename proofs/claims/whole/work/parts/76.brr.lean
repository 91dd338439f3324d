-- bring, of rows
theorem rwP_u {m m' : MS} {s x : Nat} (eK : m'.K = m.K) (hs : s < m.K) (e : ∀ t, t < m.K → (if 4 ≤ m'.kd t then prow (m'.kd t) (m'.nu t) (m'.pl t) else 0) = if t = s then x else (if 4 ≤ m.kd t then prow (m.kd t) (m.nu t) (m.pl t) else 0)) :
    rwP m' + (if 4 ≤ m.kd s then prow (m.kd s) (m.nu s) (m.pl s) else 0) = rwP m + x := by
  have h := sum_upd (fun t => if 4 ≤ m.kd t then prow (m.kd t) (m.nu t) (m.pl t) else 0) (List.range m.K) List.nodup_range s x (List.mem_range.mpr hs)
  have e2 : rwP m' = ((List.range m.K).map (u1 (fun t => if 4 ≤ m.kd t then prow (m.kd t) (m.nu t) (m.pl t) else 0) s x)).sum := by
    unfold rwP
    rw [eK]
    congr 1
    refine List.map_congr_left (fun t ht => ?_)
    rw [e t (List.mem_range.mp ht)]
    unfold u1
    rfl
  rw [e2]
  exact h
def BrgOK (L : Nat) (xs : Nat → Int32) (i : Nat) (B : AH) (m : MS) (c : CS) (d : DS) (s : Nat) (k : Int64) (v : Int32) : Prop :=
  ∃ (B' : AH) (c' : CS) (d' : DS) (r : Int32), (∀ m0, XM L xs 35 [.ref 1, .int (nI s), .ref (d.sa (s + 1)), .long k, .int v] (cl (ml B m0) d c) = some (cl (ml B' m0) d' c', some (.int r))) ∧ d'.sa (s + 1) = d.sa (s + 1) ∧ MB B' ∧
    ∀ h, MB h → ∃ m', (if 4 ≤ m.kd s then XM L xs 97 [.ref 8, .int (nI s), .long k] (ml h m) else XM L xs 74 [.ref 8, .int (nI s), .long k, .int v] (ml h m)) = some (ml h m', some (.int r)) ∧ Inv i (ml B' m') m' c' d' ∧ m'.kd s = m.kd s ∧ m'.K = m.K
def cPs2 (c : CS) (s y' sp' : Nat) : CS := (((((c.she (u1 c.he s (c.he s + 1))).sst (u1 c.st s (c.st s + nI sp'))).spa (u1 c.pa s y')).scn (c.cn + 1)).sE (c.E + 1))
theorem JM_psh {m : MS} {c : CS} {s : Nat} (ja : JA m c) (hN : m.N < 20000) (hs : s < m.K) (v : Int64) {sp' pl' : Nat} (hsp : sp' ≤ 100000) (X Y : Nat → Nat) : JM (mPs1 m s v sp' pl') (((((c.she X).sst (u1 c.st s (c.st s + nI sp'))).spa Y).scn (c.cn + 1)).sE (c.E + 1)) s := by
  obtain ⟨a1, ⟨a2, a3, a4, a5, a6⟩, ⟨n1, n2, n3, n4, n5, n6⟩, t, ht⟩ := ja
  refine ⟨fun r hr => ⟨(a1 r hr).1, fun q => ?_⟩, ⟨?_, hsp⟩, ⟨a2, a3, ?_, ?_, ?_⟩, ⟨n1, hN, n3, n4, n5, n6⟩, t, ht⟩
  · show u1 c.st s (c.st s + nI sp') r = _
    rw [u1_o _ _ q]
    exact (a1 r hr).2
  · show u1 c.st s (c.st s + nI sp') s = (m.st s).toInt32 + nI sp'
    rw [u1_s, (a1 s hs).2]
  · show c.E + 1 = m.E + 1
    rw [a4]
  · show m.se ≤ m.N + 1
    omega
  · show c.cn + 1 ≤ m.N + 1
    omega
section Brr
variable (L : Nat) (xs : Nat → Int32)
theorem bring_row {i : Nat} {B : AH} {m : MS} {c : CS} {d : DS} (hI : Inv i B m c d) {s : Nat} (hs : s < m.K) (hk : 4 ≤ m.kd s) (hE : m.E < 20000) (hN : m.N < 20000) (k : Int64) (v : Int32) : BrgOK L xs i B m c d s k v := by
  obtain ⟨e0, ja, jq, T, z, V, R, FN, FI, ow, hj⟩ := id hI
  obtain ⟨jb, js, jt, jr, jp, jd, jv, ji, jf, jw, jh, jz, jl⟩ := id hj
  obtain ⟨h1, h2, h3, h4, h5, h6⟩ := hj.kin hs
  obtain ⟨r1, r2, r3, r4, r5, r6, r7⟩ := hj.row hs hk
  obtain ⟨w1, w2, w3, w4, w5, w6, w7, w8⟩ := jw.1 s hs hk
  obtain ⟨FI', ⟨n1, n2, n3⟩, n4, n5, n6, n7, n8, n9, n10, n11, n12, n13⟩ := item_new ji hE
  have t6 := (hj.tgs hs).2.2.2 hk
  have hw := jb.2.2.2.2.2
  have hK := hj.K
  have h31 : hasF (tg B (d.sa (s + 1))) 16 = true := by rw [h6]; exact (tgS_f h5).2.2.2.2
  have step : ∀ (B' : AH) (y' sp' pl' : Nat), (m.nu s = m.pl s → sp' = 1 + m.nu s ∧ pl' = 2 * m.pl s) → (m.nu s ≠ m.pl s → sp' = 1 ∧ pl' = m.pl s) →
      JB B' d → nn B ≤ nn B' → (∀ x, x ≤ nn B → tg B' x = tg B x ∧ ln B' x = ln B x) → (∀ t, t < m.K → 4 ≤ m.kd t → t ≠ s → (∀ i, eL B' (c.pa t) i = eL B (c.pa t) i) ∧ y' ≠ c.pa t) → (ln B' y' = pl' ∧ tg B' y' = 21 ∧ 32 < y' ∧ y' ≤ nn B') → (∀ i, i < m.nu s → eL B' y' i = eL B (c.pa s) i) → eL B' y' (m.nu s) = k →
      nn B' ≤ nn B + 4 → sl B' + 2 * prow (m.kd s) (m.nu s + 1) pl' ≤ sl B + 2 * prow (m.kd s) (m.nu s) (m.pl s) + 20 →
      (∀ m0, XM L xs 150 [.ref (d.sa (s + 1)), .long k, .int v, .int (nI c.cn)] (cl (ml B m0) d c) = some (cl (ml B' m0) d (((c.she (u1 c.he s (c.he s + 1))).sst (u1 c.st s (c.st s + nI sp'))).spa (u1 c.pa s y')), some (.int (nI (m.nu s + 1))))) → BrgOK L xs i B m c d s k v := by
    intro B' y' sp' pl' g1 g2 F1 F0 F2 F3 F4 F5 F6 q1 q2 tk
    have hpl : m.nu s < pl' ∧ 4 ≤ pl' ∧ pl' ≤ 40000 ∧ sp' ≤ 100000 := by
      by_cases g : m.nu s = m.pl s
      · have := g1 g; omega
      · have := g2 g; omega
    obtain ⟨R', FI2, ow', hj2⟩ := push_JJ hj hs hk hE k (sp' := sp') (u1 c.st s (c.st s + nI sp')) (c.E + 1) F1 F0 F2 F3 F4 F5 F6 ⟨hpl.1, hpl.2.1, hpl.2.2.1⟩
    have hM := JM_psh ja hN hs k (pl' := pl') hpl.2.2.2 (u1 c.he s (c.he s + 1)) (u1 c.pa s y')
    have epot : potV B' (((((c.she (u1 c.he s (c.he s + 1))).sst (u1 c.st s (c.st s + nI sp'))).spa (u1 c.pa s y')).scn (c.cn + 1)).sE (c.E + 1)) s = prow (m.kd s) (m.nu s + 1) pl' := by
      show (if c.kd s = 0 then 0 else if c.kd s = 1 then 3 * c.lg s else if c.kd s ≤ 3 then c.hy s else prow (c.kd s) (u1 c.he s (c.he s + 1) s) (ln B' (u1 c.pa s y' s))) = _
      rw [h4, if_neg (by omega), if_neg (by omega), if_neg (by omega), u1_s, u1_s, F4.1, r5]
    refine ⟨B', cCls (cPs2 c s y' sp') s (nI s) 3 (nI sp') (nI (potV B' (cPs2 c s y' sp') s)), d, nI (m.nu s + 1), fun m0 => ?_, rfl, F1.2.1, fun h hh => ⟨mPsh m s k sp' pl', ?_, ?_, rfl, rfl⟩⟩
    · have hcl := (cls L xs (hj2.ml m0) hM hs 3 (c.st s) (ja.1 s hs).2).1
      refine c35 L xs (b := ml B m0) (b1 := ml B' m0) (c1 := ((c.she (u1 c.he s (c.he s + 1))).sst (u1 c.st s (c.st s + nI sp'))).spa (u1 c.pa s y')) (CB_ml jb.1 m0) (CB_ml F1.1 m0) hw h2 h31 (price := 3) ?_ ?_ hcl
      · show cfD (XM L xs) 0 203 (tg B (d.sa (s + 1))) _ _ = _
        rw [t6, cc_0_203_6, c148]
      · show cfD (XM L xs) 0 258 (tg B (d.sa (s + 1))) _ _ = _
        rw [t6, cc_0_258_6, tk m0]
    · rw [if_pos hk]
      refine m_97 L xs hh m (by omega) hk h5 k n12 n13 (by omega) (by omega) hN ?_
      by_cases g : m.nu s = m.pl s
      · rw [if_pos g]; exact g1 g
      · rw [if_neg g]; exact g2 g
    · have hb0 : potV (ml B' m) (((((c.she (u1 c.he s (c.he s + 1))).sst (u1 c.st s (c.st s + nI sp'))).spa (u1 c.pa s y')).scn (c.cn + 1)).sE (c.E + 1)) s = prow (m.kd s) (m.nu s + 1) pl' := epot
      have jap := act_JA hM hs 3 (nI (prow (m.kd s) (m.nu s + 1) pl'))
      have hrw := rwP_u (m := m) (m' := mPsh m s k sp' pl') (s := s) (x := prow (m.kd s) (m.nu s + 1) pl') rfl hs (fun t ht => by
        show (if 4 ≤ m.kd t then prow (m.kd t) (u1 m.nu s (m.nu s + 1) t) (u1 m.pl s pl' t) else 0) = _
        by_cases q : t = s
        · rw [q, if_pos hk, if_pos rfl, u1_s, u1_s]
        · rw [if_neg q, u1_o _ _ q, u1_o _ _ q])
      rw [if_pos hk] at hrw
      have := Inv.mk' (i := i) (B := B') jap (JQ.act jq rfl q1 (by
        have e : rwP (mAct (mPs1 m s k sp' pl') s 3 (nI (prow (m.kd s) (m.nu s + 1) pl'))) = rwP (mPsh m s k sp' pl') := rfl
        rw [e]; omega)) (hj2.act s 3 (nI (prow (m.kd s) (m.nu s + 1) pl')) (nI s) 3 (nI sp') (nI (prow (m.kd s) (m.nu s + 1) pl')))
      rw [mPsh_1]
      rw [← epot] at this ⊢
      exact this
  by_cases g : m.nu s = m.pl s
  · have x1 : ∀ x, x ≤ nn B → ¬ x = nn B + 1 := fun x hx => by omega
    have hle : nn B + 1 > 32 := by have := jb.2.2.1.1; omega
    have hne : ¬ c.pa s = nn B + 1 := x1 _ w6.2.2.2
    refine step (sL (cpB B (c.pa s) (2 * c.he s) (c.he s)) (nn B + 1) (c.he s) k) (nn B + 1) (1 + m.nu s) (2 * m.pl s) (fun _ => ⟨rfl, rfl⟩) (fun q => absurd g q) ?_ (Nat.le_succ _) (fun x hx => ⟨if_neg (x1 x hx), if_neg (x1 x hx)⟩) (fun t ht hkt q => ⟨fun i => ?_, ?_⟩) ⟨?_, if_pos rfl, hle, Nat.le_refl _⟩ (fun i hi => ?_) ?_ ?_ ?_ (fun m0 => ?_)
    · refine Ext.JB (B := B) ⟨Nat.le_succ _, fun x hx => ⟨if_neg (x1 x hx), if_neg (x1 x hx), fun i => ?_, fun f => if_neg (x1 x hx)⟩⟩ jb
      show (if x = nn B + 1 then (if i = c.he s then k else _) else (if x = nn B + 1 then _ else eL B x i)) = eL B x i
      rw [if_neg (x1 x hx), if_neg (x1 x hx)]
    · have hx := (jw.1 t ht hkt).2.2.2.2.2.1.2.2.2
      show (if c.pa t = nn B + 1 then (if i = c.he s then k else _) else (if c.pa t = nn B + 1 then _ else eL B (c.pa t) i)) = _
      rw [if_neg (x1 _ hx), if_neg (x1 _ hx)]
    · have hx := (jw.1 t ht hkt).2.2.2.2.2.1.2.2.2
      omega
    · show (if nn B + 1 = nn B + 1 then 2 * c.he s else _) = 2 * m.pl s
      rw [if_pos rfl, r5, g]
    · show (if nn B + 1 = nn B + 1 then (if i = c.he s then k else (if nn B + 1 = nn B + 1 then (if i < c.he s then eL B (c.pa s) i else 0) else _)) else _) = _
      rw [if_pos rfl, if_neg (by omega), if_pos rfl, if_pos (by omega)]
    · show (if nn B + 1 = nn B + 1 then (if m.nu s = c.he s then k else _) else _) = k
      rw [if_pos rfl, if_pos r5.symm]
    · show nn B + 1 ≤ nn B + 4
      omega
    · show sl B + 2 * c.he s + 2 * prow (m.kd s) (m.nu s + 1) (2 * m.pl s) ≤ sl B + 2 * prow (m.kd s) (m.nu s) (m.pl s) + 20
      unfold prow
      rw [if_pos (by omega), if_pos (by omega)]
      omega
    · have := c150_1 L xs (b := ml B m0) hw (jb.2.2.1) h2 t6 c r4 w6.2.2.2 (by rw [r5, g]; exact r6) (by omega) (by show ln B (c.pa s) ≤ 200000; omega) k v (nI c.cn)
      rw [this]
      have e1 : sL (cpB (ml B m0) (c.pa s) (2 * c.he s) (c.he s)) (nn (ml B m0) + 1) (c.he s) k = ml (sL (cpB B (c.pa s) (2 * c.he s) (c.he s)) (nn B + 1) (c.he s) k) m0 := by
        rw [← sL_ml _ _ hle]
        have e2 : ∀ j, cpB (ml B m0) (c.pa s) (2 * c.he s) j = ml (cpB B (c.pa s) (2 * c.he s) j) m0 := by
          intro j
          induction j with
          | zero => rw [← cpB_0, ← cpB_0, mk_ml _ _ (by omega)]
          | succ j ih =>
            rw [← cpB_S, ← cpB_S, ih, Hml_L B m0 w6.2.2.1, ← sL_ml _ _ hle]
            rfl
        rw [e2]
        rfl
      have e3 : cRtk (cCp c s (nn (ml B m0) + 1)) s = ((c.she (u1 c.he s (c.he s + 1))).sst (u1 c.st s (c.st s + nI (1 + m.nu s)))).spa (u1 c.pa s (nn B + 1)) := by
        show ((c.she (u1 c.he s (c.he s + 1))).sst (u1 (u1 c.st s (c.st s + nI (c.he s))) s (u1 c.st s (c.st s + nI (c.he s)) s + 1))).spa (u1 c.pa s (nn B + 1)) = _
        rw [u1_u1, u1_s, r5, Int32.add_assoc, nI_1, Nat.add_comm 1]
      rw [e1, e3, r5]
  · have x3 : ∀ t, t < m.K → 4 ≤ m.kd t → t ≠ s → ¬ c.pa t = c.pa s := fun t ht hkt q e => q (jw.2 t s ht hs hkt hk e)
    refine step (sL B (c.pa s) (c.he s) k) (c.pa s) 1 (m.pl s) (fun q => absurd q g) (fun _ => ⟨rfl, rfl⟩) jb (Nat.le_refl _) (fun x hx => ⟨rfl, rfl⟩) (fun t ht hkt q => ⟨fun i => if_neg (x3 t ht hkt q), fun e => x3 t ht hkt q e.symm⟩) ⟨r6.symm, r4, w6.2.2.1, w6.2.2.2⟩ (fun i hi => ?_) ?_ (by show nn B ≤ nn B + 4; omega) ?_ (fun m0 => ?_)
    · show (if c.pa s = c.pa s then (if i = c.he s then k else eL B (c.pa s) i) else _) = _
      rw [if_pos rfl, if_neg (by omega)]
    · show (if c.pa s = c.pa s then (if m.nu s = c.he s then k else _) else _) = k
      rw [if_pos rfl, if_pos r5.symm]
    · show sl B + _ ≤ _
      unfold prow
      have : m.kd s = 4 ∨ m.kd s = 5 := by omega
      rcases this with q | q <;> rw [q] <;> (repeat' split) <;> omega
    · have := c150_0 L xs (b := ml B m0) hw h2 t6 c r4 (by show c.he s < ln B (c.pa s); omega) (by show ln B (c.pa s) < 2 ^ 29; omega) k v (nI c.cn)
      rw [this, sL_ml _ _ w6.2.2.1]
      have e3 : cRtk c s = ((c.she (u1 c.he s (c.he s + 1))).sst (u1 c.st s (c.st s + nI 1))).spa (u1 c.pa s (c.pa s)) := by
        rw [u1_id]
        rfl
      rw [e3, r5]
end Brr
