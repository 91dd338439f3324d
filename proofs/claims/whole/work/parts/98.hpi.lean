-- bring, of heaps, put together
theorem hd_or (fs : Nat → Nat → Bool) (P : PT) (f a b : Nat) : hd (mwP fs P (f + 1) a b).1 (mwP fs P (f + 1) a b).2 = a ∨ hd (mwP fs P (f + 1) a b).1 (mwP fs P (f + 1) a b).2 = b := by
  by_cases g : a = 0 ∨ b = 0
  · have e : mwP fs P (f + 1) a b = ([], if a = 0 then b else a) := by
      show (if a = 0 ∨ b = 0 then _ else _) = _
      rw [if_pos g]
    rw [e]
    show (if a = 0 then b else a) = a ∨ (if a = 0 then b else a) = b
    by_cases a0 : a = 0
    · rw [if_pos a0]; exact Or.inr rfl
    · rw [if_neg a0]; exact Or.inl rfl
  · have e : mwP fs P (f + 1) a b = ((if fs a b then a else b, if fs a b then b else a) :: (mwP fs P f (P.2.1 (if fs a b then a else b)) (if fs a b then b else a)).1, (mwP fs P f (P.2.1 (if fs a b then a else b)) (if fs a b then b else a)).2) := by
      show (if a = 0 ∨ b = 0 then _ else _) = _
      rw [if_neg g]
    rw [e]
    show (if fs a b then a else b) = a ∨ (if fs a b then a else b) = b
    by_cases q : fs a b = true
    · rw [if_pos q]; exact Or.inl rfl
    · rw [if_neg q]; exact Or.inr rfl
theorem mwP_len (fs : Nat → Nat → Bool) (P : PT) : ∀ (f a b : Nat), (mwP fs P f a b).1.length ≤ f := by
  intro f
  induction f with
  | zero => intro a b; exact Nat.le_refl _
  | succ f ih =>
    intro a b
    by_cases g : a = 0 ∨ b = 0
    · have e : mwP fs P (f + 1) a b = ([], if a = 0 then b else a) := by
        show (if a = 0 ∨ b = 0 then _ else _) = _
        rw [if_pos g]
      rw [e]
      exact Nat.zero_le _
    · have e : mwP fs P (f + 1) a b = ((if fs a b then a else b, if fs a b then b else a) :: (mwP fs P f (P.2.1 (if fs a b then a else b)) (if fs a b then b else a)).1, (mwP fs P f (P.2.1 (if fs a b then a else b)) (if fs a b then b else a)).2) := by
        show (if a = 0 ∨ b = 0 then _ else _) = _
        rw [if_neg g]
      rw [e]
      exact Nat.succ_le_succ (ih _ _)
theorem BP_mel {P M : PT} {T z : Nat → Nat} {κ : Nat} (hP : BP P) (hT : TN T) (κ0 : κ ≠ 0) (hW : WF M T z) (fr : ∀ x, T x ≠ κ → M.1 x = P.1 x ∧ M.2.1 x = P.2.1 x) : BP (M.1, M.2.1, P.2.2) := by
  have lz : ∀ y, LZ T y → y ≤ 20002 := fun y hy => by
    rcases hy with g | g
    · omega
    · exact hT.2 y g
  intro n
  refine ⟨?_, ?_, (hP n).2.2⟩
  · show M.1 n ≤ 20002
    by_cases g : T n = κ
    · exact lz _ (hW.lzl (by rw [g]; exact κ0))
    · rw [(fr n g).1]; exact (hP n).1
  · show M.2.1 n ≤ 20002
    by_cases g : T n = κ
    · exact lz _ (hW.lzr (by rw [g]; exact κ0))
    · rw [(fr n g).2]; exact (hP n).2.1
theorem fsM_cg {kd : Nat} {ky ck : Nat → Int64} {cs cc : Nat → Nat} {a b : Nat} (h1 : ky a = ck a) (h2 : ky b = ck b) (h3 : cs a < cs b ↔ cc a < cc b) : fsM kd ky cs a b = fsM kd ck cc a b := by
  unfold fsM
  rw [h1, h2, show decide (cs a < cs b) = decide (cc a < cc b) from decide_eq_decide.mpr h3]
section Hpi
variable (L : Nat) (xs : Nat → Int32)
set_option maxHeartbeats 4000000 in
theorem bring_heap {i : Nat} {B : AH} {m : MS} {c : CS} {d : DS} (hI : Inv i B m c d) {s : Nat} (hs : s < m.K) (ks : 2 ≤ m.kd s ∧ m.kd s ≤ 3) (hE : m.E < 20000) (hN : m.N < 20000) (k : Int64) (v : Int32) : BrgOK L xs i B m c d s k v := by
  obtain ⟨e0, ja, jq, T, z, V, R, FN, FI, ow, hj⟩ := id hI
  obtain ⟨jb, js, jt, jr, jp, jd, jv, ji, jf, jw, jh, jz, jl⟩ := id hj
  obtain ⟨h1, h2, h3, h4, h5, h6⟩ := hj.kin hs
  obtain ⟨FI', ⟨n1, n2, n3⟩, -, -, -, -, -, -, -, -, -, -⟩ := item_new ji hE
  obtain ⟨FN', ⟨o1, o2, o3⟩, -⟩ := node_new hj hE
  obtain ⟨⟨f1, f2, f3, f4, f5⟩, ⟨f6, f7, f8, f9, f10, f11⟩, -⟩ := ja.2
  have hw := jb.2.2.2.2.2
  have hK := hj.K
  have h32 := jb.2.2.1.1
  have κ0 : s + 1 ≠ 0 := Nat.succ_ne_zero s
  have ts : tg B (d.sa (s + 1)) = 3 := (hj.tgs hs).2.2.1 ks.1 ks.2
  obtain ⟨x1, x2, x3, x4, x5⟩ := bNod_ext B k v c.cn
  have hid : d.iid (d.vh (iid m)) ≠ iid m := fun q => by have := (jd.2 _ n1).mp q; omega
  have hnd : d.nid (d.ph (mid m)) ≠ mid m := fun q => (jd.1 _ o1).mp q o3
  have hcld : Cld d c := hj.cld rfl rfl rfl rfl rfl rfl (fun r hr => by
    by_cases l0 : c.la r = 0
    · exact Or.inl l0
    · have k0 : m.kd r = 0 := by
        rcases Nat.eq_zero_or_pos (m.kd r) with q | q
        · exact q
        · exact absurd (jl.1 r hr (by omega)) l0
      exact Or.inr (by rw [(jl.2.1 r hr k0 l0).1]; exact Nat.succ_ne_zero r))
  have hcn := HcNd c (mid m) (iid m) k v c.cn
  have new : ∀ m0, XM L xs 132 [.ref (nn B + 1), .long k, .int v, .int (nI c.cn)] (mk (cl (ml B m0) d c) 4 0 9) = some (cl (ml (bNod B k v c.cn) m0) ((d.ai (iid m) (nn B + 2)).an (mid m) (nn B + 1)) (cNd c (mid m) (iid m) k v c.cn), none) := fun m0 => by
    rw [bNod_ml B m0 k v c.cn h32]
    exact c132 L xs (b := ml B m0) (a := mid m) (i := iid m) hw jb.2.2.1 hcld o1 hnd n1 hid k v c.cn
  generalize cNd c (mid m) (iid m) k v c.cn = c2 at hcn new
  obtain ⟨g1, g2, g3, g4, g5, g6, g7, g8, g9, g10, g11, g12, g13, g14, g15, g16, g17, g18, g19, g20, g21, g22, g23, g24, g25, g26, g27, g28, g29, g30, g31, g32⟩ := hcn
  have jb1 := ((x1.JB jb).ai' (i := iid m) (y := nn B + 2) (by omega) (by omega) x5 n1 hid).an (x := mid m) (y := nn B + 1) (by omega) (by omega) x4 o1 hnd
  have hm1 := HmH1 m k v.toInt64
  have hm93 := fun (M2 : MS) (q : Nat) (hq) hmel => ins_hp L xs hj hs ks hE (by omega) k v (M2 := M2) (q := q) hq hmel
  have nT : ∀ a, T a ≠ 0 → a ≠ mid m := fun a ha q => ha (by rw [q]; exact o3)
  have hph : ∀ a, a ≠ mid m → ((d.ai (iid m) (nn B + 2)).an (mid m) (nn B + 1)).ph a = d.ph a := fun a ha => u1_o d.ph _ ha
  have hphx : ((d.ai (iid m) (nn B + 2)).an (mid m) (nn B + 1)).ph (mid m) = nn B + 1 := u1_s d.ph _ _
  have hsa : ((d.ai (iid m) (nn B + 2)).an (mid m) (nn B + 1)).sa = d.sa := rfl
  have hsd : ((d.ai (iid m) (nn B + 2)).an (mid m) (nn B + 1)).sid = d.sid := rfl
  have jd1 : ∀ a, a ≠ 0 → (((d.ai (iid m) (nn B + 2)).an (mid m) (nn B + 1)).nid (((d.ai (iid m) (nn B + 2)).an (mid m) (nn B + 1)).ph a) = a ↔ u1 T (mid m) (s + 1) a ≠ 0) := by
    have hy1 : d.iid (nn B + 2) = 0 := by
      rcases Nat.eq_zero_or_pos (d.iid (nn B + 2)) with q | q
      · exact q
      · have := jb.2.2.1.2.2.1 (nn B + 2) (by omega); omega
    have hy2 : d.nid (nn B + 1) = 0 := by
      rcases Nat.eq_zero_or_pos (d.nid (nn B + 1)) with q | q
      · exact q
      · have := jb.2.2.1.2.1 (nn B + 1) (by omega); omega
    exact ((jd.ai hy1 n1 n3 o1 (by omega)).an (d := d.ai (iid m) (nn B + 2)) hy2 o1 o3 κ0).1
  have nhp := fun (m' : MS) (c' : CS) (q : Nat) (z' : Nat → Nat) em ec ep => new_hp (m := m) (m' := m') (c := c) (c' := c') (z' := z') (q := q) (k := k) hj hs ks hE v em ec ep
  generalize hd1 : (d.ai (iid m) (nn B + 2)).an (mid m) (nn B + 1) = d1 at *
  generalize mH1 m k v.toInt64 = H1 at *
  generalize hx : mid m = x at *
  generalize hB1 : bNod B k v c.cn = B1 at *
  have hw1 := jb1.2.2.2.2.2
  have T' : ∀ a, T a ≠ 0 → u1 T x (s + 1) a = T a := fun a ha => u1_o _ _ (nT a ha)
  have Tx : u1 T x (s + 1) x = s + 1 := u1_s _ _ _
  have back : ∀ a, u1 T x (s + 1) a ≠ 0 → a ≠ x → T a ≠ 0 := fun a ha q => by rw [u1_o _ _ q] at ha; exact ha
  have hTN : TN (u1 T x (s + 1)) := TN_u1 jt.2.1 o1 (by omega)
  have hWQ : WF (u1 m.P.1 x 0, u1 m.P.2.1 x 0, u1 c.P.2.2 x 0) (u1 T x (s + 1)) (u1 z x 1) := hj.mw.one (κ := s + 1) o3 o1
  generalize hQ : ((u1 m.P.1 x 0, u1 m.P.2.1 x 0, u1 c.P.2.2 x 0) : PT) = Q at hWQ
  have Q1 : Q.1 = u1 m.P.1 x 0 := by rw [← hQ]
  have Q2 : Q.2.1 = u1 m.P.2.1 x 0 := by rw [← hQ]
  have Q3 : Q.2.2 = u1 c.P.2.2 x 0 := by rw [← hQ]
  clear hQ
  have hD1 : ∀ a, LZ (u1 T x (s + 1)) a → d1.nid (d1.ph a) = a := fun a ha => by
    by_cases a0 : a = 0
    · rw [a0, hw1.1.1]; exact hw1.1.2.2.2.1
    · exact (jd1 a a0).mpr (ha.resolve_left a0)
  have hsd1 : d1.sid (d1.sa (s + 1)) = s + 1 := by rw [hsa, hsd]; exact h2
  have hro : c.ro s ≠ 0 → T (c.ro s) = s + 1 ∧ c.P.2.2 (c.ro s) = 0 := (jr s hs).2.2.1
  have rox : c.ro s ≠ x := fun q => by
    have r0 : c.ro s ≠ 0 := by rw [q]; exact o1
    have := (hro r0).1
    rw [q, o3] at this
    omega
  have ha : c.ro s ≠ 0 → u1 T x (s + 1) (c.ro s) = s + 1 ∧ Q.2.2 (c.ro s) = 0 := fun r0 => by
    rw [Q3, u1_o _ _ rox, u1_o _ _ rox]; exact hro r0
  have he : x ≠ 0 → u1 T x (s + 1) x = s + 1 ∧ Q.2.2 x = 0 := fun _ => by rw [Q3, u1_s, u1_s]; exact ⟨rfl, rfl⟩
  have hPe : ∀ a, u1 T x (s + 1) a ≠ 0 → c2.P.1 a = Q.1 a ∧ c2.P.2.1 a = Q.2.1 a := fun a ha => by
    rw [g3, Q1, Q2]
    show u1 c.P.1 x 0 a = _ ∧ u1 c.P.2.1 x 0 a = _
    by_cases g : a = x
    · rw [g, u1_s, u1_s, u1_s, u1_s]; exact ⟨rfl, rfl⟩
    · rw [u1_o _ _ g, u1_o _ _ g, u1_o _ _ g, u1_o _ _ g]
      have := jp.2 a (back a ha g)
      exact ⟨this.1.symm, this.2.1.symm⟩
  have eU : c2.P.2.2 = Q.2.2 := by rw [g3, Q3]
  have hcz : ∀ a, u1 T x (s + 1) a = s + 1 → c2.cz a = u1 z x 1 a := fun a ha => by
    rw [g4]
    by_cases g : a = x
    · rw [g, u1_s, u1_s]
    · rw [u1_o _ _ g] at ha
      rw [u1_o _ _ g, u1_o _ _ g]
      exact jz.2.1 a (by rw [ha]; exact κ0) (by rw [ha, Nat.add_sub_cancel]; omega)
  have hhy : c2.hy s = Sm (u1 T x (s + 1)) (s + 1) (hv Q (u1 z x 1)) := by
    rw [g18, (jz.1 s hs).2.2.2 ks.1 ks.2, Sm_ins jt.2.1 κ0 _ o3 o1 (by omega)]
    have e1 : hv Q (u1 z x 1) x = 0 := by
      unfold hv
      rw [Q2, u1_s, u1_s, u1_o z _ (Ne.symm o1), jt.1.2.1]
      rfl
    rw [e1, Nat.zero_add]
    refine Sm_congr jt.2.1 κ0 (fun a ha => ?_)
    have ta : T a ≠ 0 := by rw [ha]; exact κ0
    have ax := nT a ta
    have cx : c.P.2.1 a ≠ x := fun q => by
      have := ((jt.1.2.2 a ta).2.1 (by rw [q]; exact o1)).2
      rw [q, o3] at this
      exact ta this.symm
    unfold hv
    rw [Q2, u1_o _ _ ax, u1_o _ _ ax, (jp.2 a ta).2.1, u1_o _ _ cx]
  have hcsiff : ∀ a e, u1 T x (s + 1) a = s + 1 → u1 T x (s + 1) e = s + 1 → (u1 m.cs x m.se a < u1 m.cs x m.se e ↔ u1 c.cc x c.cn a < u1 c.cc x c.cn e) := fun a e ha he => by
    have hs2 : ∀ b, T b = s + 1 → T b ≠ 0 ∧ 2 ≤ m.kd (T b - 1) := fun b hb => by rw [hb, Nat.add_sub_cancel]; exact ⟨κ0, ks.1⟩
    by_cases g : a = x
    · by_cases g2 : e = x
      · rw [g, g2, u1_s, u1_s]; omega
      · rw [u1_o _ _ g2] at he
        rw [g, u1_s, u1_s, u1_o _ _ g2, u1_o _ _ g2]
        have := jh.2.2.1 e (hs2 e he).1 (hs2 e he).2
        omega
    · rw [u1_o _ _ g] at ha
      by_cases g2 : e = x
      · rw [g2, u1_s, u1_s, u1_o _ _ g, u1_o _ _ g]
        have := jh.2.2.1 a (hs2 a ha).1 (hs2 a ha).2
        omega
      · rw [u1_o _ _ g2] at he
        rw [u1_o _ _ g, u1_o _ _ g, u1_o _ _ g2, u1_o _ _ g2]
        exact jh.2.2.2 a e (hs2 a ha).1 (hs2 e he).1 (hs2 a ha).2 (hs2 e he).2
  obtain ⟨W, hWe⟩ : ∃ W, W = mwP (fsM (c2.kd s) c2.ck c2.cc) Q 20002 (c.ro s) x := ⟨_, rfl⟩
  obtain ⟨c3, z', cm, hS, hst, hyo, hys, hWm, czs, czo, hPm, hPu, hqT, hzq, hun, hfr, hza⟩ := cmel L xs hw1 hsd1 c2 (by rw [g10, h4]; omega) hTN hWQ κ0 hD1 (fun a ha => by
      rw [g2]
      by_cases g : a = x
      · rw [g, u1_s]; omega
      · rw [u1_o _ _ g]
        have := jh.2.1 a (back a ha g)
        omega) ha he (fun _ => rox) hPe (fun a _ _ _ => by rw [eU]) hcz hhy hWe
  have hlen : W.1.length ≤ 20002 := by rw [hWe]; exact mwP_len _ _ _ _ _
  have hor : hd W.1 W.2 = c.ro s ∨ hd W.1 W.2 = x := by rw [hWe]; exact hd_or _ _ 20001 _ _
  generalize hq : hd W.1 W.2 = q at *
  generalize hM : mel Q W.1 W.2 = M at *
  have q0 : q ≠ 0 := fun g => by
    rw [g, hWm.2.1, u1_s z x 1] at hzq
    omega
  obtain ⟨qT, qU⟩ := hqT q0
  have qb : q ≤ 20002 := hTN.2 q (by rw [qT]; exact κ0)
  have eUq : c3.P.2.2 q = 0 := by
    rw [hPu, eU]
    rcases hor with g | g
    · rw [g]; exact (ha (by rw [← g]; exact q0)).2
    · rw [g]; exact (he o1).2
  have hPA : ∀ a, u1 T x (s + 1) a ≠ 0 → c3.P.1 a = M.1 a ∧ c3.P.2.1 a = M.2.1 a ∧ c3.P.2.2 a = M.2.2 a := fun a ha => by
    obtain ⟨y1, y2, y3⟩ := hPm a ha
    refine ⟨y1, y2, ?_⟩
    by_cases g : a = q
    · rw [g, eUq, qU]
    · exact y3 g
  have hW3 : WF c3.P (u1 T x (s + 1)) z' := hWm.pt hPA
  obtain ⟨s1, s2, s3, s4, s5, s6, s7, s8, s9, s10, s11, s12, s13, s14, s15, s16, s17, s18, s19, s20, s21, s22, s23, s24, s25, s26, s27, s28⟩ := hS
  obtain ⟨t1, t2, t3, t4, t5, t6, t7, t8, t9, t10, t11, t12, t13, t14, t15, t16, t17, t18, t19, t20, t21, t22, t23, t24, t25, t26, t27, t28⟩ := hm1
  have hP1 : H1.P.1 = u1 m.P.1 x 0 := by rw [t6]
  have hP2 : H1.P.2.1 = u1 m.P.2.1 x 0 := by rw [t6]
  have hP3 : H1.P.2.2 = u1 m.P.2.2 x 0 := by rw [t6]
  have hBPH : BP H1.P := by
    rw [t6]
    exact BP_mk (u1_le (fun a => (jp.1 a).1) (by omega)) (u1_le (fun a => (jp.1 a).2.1) (by omega)) (u1_le (fun a => (jp.1 a).2.2) (by omega))
  have hBP : BP (M.1, M.2.1, H1.P.2.2) := BP_mel hBPH hTN κ0 hWm (fun a ha => by rw [hP1, hP2, ← Q1, ← Q2]; exact ⟨(hfr a ha).1, (hfr a ha).2.1⟩)
  -- the reference's side
  have href := hm93 ((H1.ssp (H1.sp + W.1.length)).sP (M.1, M.2.1, H1.P.2.2)) q qb (fun h hh q0 => by
    obtain ⟨q1, hq1⟩ := mmel L xs hh (H1.sW q0) (Q := Q) (T := u1 T x (s + 1)) (z := u1 z x 1) hWQ (by rw [Q1]; exact hP1.symm) (by rw [Q2]; exact hP2.symm) hTN (show s < 40 by omega) (by show H1.kd s ≤ 5; rw [t1]; omega) (fun a ha => by
        show H1.cs a < 2 ^ 31
        rw [t7]
        by_cases g : a = x
        · rw [g, u1_s]; omega
        · rw [u1_o _ _ g]
          have := jh.1 a
          omega) hBPH κ0 (a := m.rt s) (e := x) (fun r0 => by rw [((jr s hs).1 (by omega)).1] at r0 ⊢; exact (ha r0).1) (fun _ => Tx) (by rw [((jr s hs).1 (by omega)).1]; exact hza) (fs := fsM (c2.kd s) c2.ck c2.cc) (fun a e ha he => by
        show fsM (H1.kd s) H1.ky H1.cs a e = _
        rw [t1, t5, t7, g10, g1, g2, h4]
        have kk : ∀ b, u1 T x (s + 1) b = s + 1 → u1 m.ky x k b = u1 c.ck x k b := fun b hb => by
          by_cases g : b = x
          · rw [g, u1_s, u1_s]
          · rw [u1_o _ _ g] at hb
            rw [u1_o _ _ g, u1_o _ _ g]
            exact (jp.2 b (by rw [hb]; exact κ0)).2.2.1
        exact fsM_cg (kk a ha) (kk e he) (hcsiff a e ha he)) (W := W) (by rw [((jr s hs).1 (by omega)).1]; exact hWe)
    rw [hq, hM] at hq1
    exact ⟨q1, hq1⟩)
  obtain ⟨m2, hm2⟩ : ∃ m2, m2 = ((H1.ssp (H1.sp + W.1.length)).sP (M.1, M.2.1, H1.P.2.2)).srt (u1 ((H1.ssp (H1.sp + W.1.length)).sP (M.1, M.2.1, H1.P.2.2)).rt s q) := ⟨_, rfl⟩
  rw [← hm2] at href
  have em : m2.kd = m.kd ∧ m2.rt = u1 m.rt s q ∧ m2.pl = m.pl ∧ m2.nu = m.nu ∧ m2.ky = u1 m.ky x k ∧ m2.P.2.2 = u1 m.P.2.2 x 0 ∧ m2.cs = u1 m.cs x m.se ∧ m2.fV = u1 m.fV x (iid m) ∧ m2.lV = u1 m.lV x (iid m) ∧ m2.it = u1 m.it (iid m) v.toInt64 ∧ m2.nx = u1 m.nx (iid m) 0 ∧ m2.K = m.K ∧ m2.E = m.E + 1 ∧ m2.nm = (if m.fn = 0 then m.nm + 1 else m.nm) ∧ m2.fn = (if m.fn = 0 then 0 else m.P.1 m.fn) ∧ m2.im = (if m.fi = 0 then m.im + 1 else m.im) ∧ m2.fi = (if m.fi = 0 then 0 else m.nx m.fi) ∧ m2.se = m.se + 1 := by
    rw [hm2]
    exact ⟨t1, by show u1 H1.rt s q = _; rw [t2], t3, t4, t5, hP3, t7, t8, t9, t10, t11, t12, t13, t14, t15, t16, t17, t18⟩
  have em2 : m2.P.1 = M.1 ∧ m2.P.2.1 = M.2.1 ∧ m2.sp = W.1.length ∧ m2.pu = m.pu ∧ m2.st = m.st ∧ m2.N = m.N ∧ m2.fk = m.fk ∧ m2.fv = m.fv ∧ m2.rO = m.rO ∧ m2.rP = m.rP ∧ m2.rT = m.rT ∧ m2.rQ = m.rQ ∧ BP m2.P := by
    rw [hm2]
    exact ⟨rfl, rfl, by show H1.sp + W.1.length = _; rw [t19, Nat.zero_add], t20, t21, t22, t23, t24, t25, t26, t27, t28, hBP⟩
  clear hm2
  obtain ⟨u1', u2, u3, u4, u5, u6, u7, u8, u9, u10, u11, u12, u13⟩ := em2
  obtain ⟨c4, hc4⟩ : ∃ c4, c4 = (c3.sro (u1 c3.ro s q)).she (u1 c3.he s (c3.he s + 1)) := ⟨_, rfl⟩
  have e4 : c4.ro = u1 c.ro s q ∧ c4.he = u1 c.he s (c.he s + 1) ∧ c4.P = c3.P ∧ c4.cz = c3.cz ∧ c4.hy = c3.hy ∧ c4.st = c3.st ∧ c4.ck = c3.ck ∧ c4.cc = c3.cc ∧ c4.nv = c3.nv ∧ c4.f1 = c3.f1 ∧ c4.l1 = c3.l1 ∧ c4.vn = c3.vn ∧ c4.vx = c3.vx ∧ c4.kd = c3.kd ∧ c4.vs = c3.vs ∧ c4.la = c3.la ∧ c4.tl = c3.tl ∧ c4.dp = c3.dp ∧ c4.lg = c3.lg ∧ c4.pa = c3.pa ∧ c4.K = c3.K ∧ c4.ar = c3.ar ∧ c4.cn = c3.cn ∧ c4.E = c3.E ∧ c4.pu = c3.pu ∧ c4.fk = c3.fk ∧ c4.fv = c3.fv ∧ c4.N = c3.N ∧ c4.rO = c3.rO ∧ c4.rP = c3.rP ∧ c4.rT = c3.rT ∧ c4.rQ = c3.rQ := by
    rw [hc4]
    exact ⟨by show u1 c3.ro s q = _; rw [s9, g11], by show u1 c3.he s (c3.he s + 1) = _; rw [s10, g12], rfl, rfl, rfl, rfl, rfl, rfl, rfl, rfl, rfl, rfl, rfl, rfl, rfl, rfl, rfl, rfl, rfl, rfl, rfl, rfl, rfl, rfl, rfl, rfl, rfl, rfl, rfl, rfl, rfl, rfl⟩
  have htk : ∀ m0, XM L xs 124 [.ref (d.sa (s + 1)), .long k, .int v, .int (nI c.cn)] (cl (ml B m0) d c) = some (cl (ml B1 m0) d1 c4, some (.int (nI (c.he s + 1)))) := fun m0 => by
    have ts1 : tg B1 (d.sa (s + 1)) = 3 := by
      rw [(x1.2 _ (jb.2.2.1.2.2.2 _ (by rw [h2]; exact κ0))).1]; exact ts
    have mm := cm (ml B1 m0) jb1.2.2.2.1 (by show tg B1 (d1.sa (s + 1)) = 3; rw [hsa]; exact ts1)
    rw [hsa, hphx, hph _ rox] at mm
    have := c124 L xs (b := ml B m0) (b1 := ml B1 m0) (d1 := d1) hw h2 ts (new m0) hw1 (by rw [hsa]) hsd1 ts1 mm
    rw [← hc4] at this
    rw [this, s10, g12]
  clear hc4
  obtain ⟨v1, v2, v3, v4, v5, v6, v7, v8, v9, v10, v11, v12, v13, v14, v15, v16, v17, v18, v19, v20, v21, v22, v23, v24, v25, v26, v27, v28, v29, v30, v31, v32⟩ := e4
  have ccn : c4.cn = c.cn := by rw [v23, s19, g22]
  have cE : c4.E = c.E := by rw [v24, s20, g23]
  obtain ⟨FN1, FI1, hj2⟩ := nhp m2 ((c4.scn (c4.cn + 1)).sE (c4.E + 1)) q z' em
    ⟨by show c4.ck = _; rw [v7, s1, g1], by show c4.cc = _; rw [v8, s2, g2], by show c4.lg = _; rw [v19, s15, g17], by show c4.nv = _; rw [v9, s3, g5], by show c4.f1 = _; rw [v10, s4, g6], by show c4.l1 = _; rw [v11, s5, g7], by show c4.vn = _; rw [v12, s6, g8], by show c4.vx = _; rw [v13, s7, g9], by show c4.kd = _; rw [v14, s8, g10], v1, v2, by show c4.vs = _; rw [v15, s11, g13], by show c4.la = _; rw [v16, s12, g14], by show c4.tl = _; rw [v17, s13, g15], by show c4.dp = _; rw [v18, s14, g16], by show c4.pa = _; rw [v20, s16, g19], by show c4.K = _; rw [v21, s17, g20], by show c4.ar = _; rw [v22, s18, g21], by show c4.cn + 1 = _; rw [ccn]⟩
    ⟨by show WF c4.P _ _; rw [v3]; exact hW3, u13, fun a ha => by
      show m2.P.1 a = c4.P.1 a ∧ m2.P.2.1 a = c4.P.2.1 a ∧ c4.cz a = z' a
      rw [u1', u2, v3, v4]
      obtain ⟨y1, y2, -⟩ := hPA a (by rw [ha]; exact κ0)
      exact ⟨y1.symm, y2.symm, czs a ha⟩, fun a ha => by
      have ax : a ≠ x := fun g => ha (by rw [g]; exact Tx)
      obtain ⟨y1, y2, -⟩ := hfr a ha
      rw [u1', u2, y1, y2, (czo a ha).2, Q1, Q2, u1_o _ _ ax, u1_o _ _ ax, u1_o _ _ ax]
      exact ⟨rfl, rfl, rfl⟩, fun a ha hne => by
      have ax : a ≠ x := fun g => hne (by rw [g]; exact Tx)
      obtain ⟨y1, y2, y3⟩ := hPA a ha
      obtain ⟨w1, w2, w3⟩ := hfr a hne
      have p := jp.2 a (back a ha ax)
      show c4.P.1 a = _ ∧ c4.P.2.1 a = _ ∧ c4.P.2.2 a = _ ∧ c4.cz a = _
      rw [v3, v4, y1, y2, y3, w1, w2, w3, (czo a hne).1, g4, Q1, Q2, Q3, u1_o _ _ ax, u1_o _ _ ax, u1_o _ _ ax, u1_o _ _ ax]
      exact ⟨p.1, p.2.1, rfl, rfl⟩, ⟨qT, by show c4.P.2.2 q = 0; rw [v3]; exact eUq⟩, fun a ha hu => by
      have hu : c4.P.2.2 a = 0 := hu
      rw [v3, (hPA a (by rw [ha]; exact κ0)).2.2] at hu
      rcases hun a (by rw [ha]; exact κ0) hu with g | g
      · exact g
      · exfalso
        rw [u1_o _ _ g.2.2] at ha
        rw [Q3, u1_o _ _ g.2.2] at g
        exact g.2.1 ((jr s hs).2.2.2 a ha g.1), by
      show c4.hy s = Sm _ _ (hv c4.P z')
      rw [v5, v3, hys]
      refine Sm_congr hTN κ0 (fun a ha => ?_)
      unfold hv
      rw [(hPA a (by rw [ha]; exact κ0)).2.1], fun r hr => by
      show c4.hy r = _
      rw [v5, hyo r hr, g18]⟩
  have hM2 : JM m2 ((c4.scn (c4.cn + 1)).sE (c4.E + 1)) s := by
    refine JM.of ja hN hs ?_ ?_ u4 u5 em.2.2.2.2.2.2.2.2.2.2.2.1 (by omega) ⟨?_, ?_, ?_, ?_, ?_⟩ ?_ u6 ?_ ?_ ?_ ?_ u9 u10 u11 u12
    · show c4.pu = c.pu; rw [v25, s21, g24]
    · show c4.st = _; rw [v6, hst, g25, u3]
    · show c4.fk = _; rw [v26, s22, g26, u7]; exact f1
    · show c4.fv = _; rw [v27, s23, g27, u8]; exact f2
    · show c4.E + 1 = _; rw [cE, f3, em.2.2.2.2.2.2.2.2.2.2.2.2.1]
    · rw [em.2.2.2.2.2.2.2.2.2.2.2.2.2.2.2.2.2]; omega
    · show c4.cn + 1 ≤ _; rw [ccn]; omega
    · show c4.N = _; rw [v28, s24, g28]
    · show c4.rO = _; rw [v29, s25, g29]
    · show c4.rP = _; rw [v30, s26, g30]
    · show c4.rT = _; rw [v31, s27, g31]
    · show c4.rQ = _; rw [v32, s28, g32]
  have hK2 : m2.K = m.K := em.2.2.2.2.2.2.2.2.2.2.2.1
  have hs2 : s < m2.K := by rw [hK2]; exact hs
  have hst2 : c.st s = (m2.st s).toInt32 := by rw [u5]; exact (ja.1 s hs).2
  have hrw : rwP m2 = rwP m := by
    unfold rwP
    rw [hK2, em.1, em.2.2.1, em.2.2.2.1]
  have f16 : hasF (tg B (d.sa (s + 1))) 16 = true := by rw [ts]; rfl
  have hheb : c.he s ≤ 20000 := by
    have := hj.zle (hj.rz hs)
    rw [hj.he hs (by omega)] at this
    exact this
  refine ⟨B1, cCls ((c4.scn (c4.cn + 1)).sE (c4.E + 1)) s (nI s) (prH (c.he s) 1) (nI m2.sp) (nI (potV B1 ((c4.scn (c4.cn + 1)).sE (c4.E + 1)) s)), d1, nI (c.he s + 1), fun m0 => ?_, by rw [hsa], jb1.2.1, fun h hh => ?_⟩
  · have hcl := (cls L xs (hj2.ml m0) hM2 hs2 (prH (c.he s) 1) (c.st s) hst2).1
    rw [hsa] at hcl
    refine c35 L xs (b := ml B m0) (b1 := ml B1 m0) (c1 := c4) (CB_ml jb.1 m0) (CB_ml jb1.1 m0) hw h2 f16 (price := prH (c.he s) 1) ?_ ?_ hcl
    · show cfD (XM L xs) 0 203 (tg B (d.sa (s + 1))) _ _ = _
      rw [ts, cc_0_203_3]
      exact c122 L xs (b := ml B m0) h2 ts c (by omega)
    · show cfD (XM L xs) 0 258 (tg B (d.sa (s + 1))) _ _ = _
      rw [ts, cc_0_258_3]
      exact htk m0
  · obtain ⟨q1, hq1⟩ := href h hh
    obtain ⟨q3, hq3⟩ := clsq L xs hj2 hM2 hs2 (prH (c.he s) 1) (c.st s) hst2 q1 h hh
    refine ⟨(mAct m2 s (prH (c.he s) 1) (nI (potV B1 ((c4.scn (c4.cn + 1)).sE (c4.E + 1)) s))).sW q3, ?_, ?_, ?_, ?_⟩
    · rw [if_neg (show ¬ 4 ≤ m.kd s by omega), hq1, hq3]
      rfl
    · exact Inv.act hj2 hM2 hs2 _ _ q3 jq u6 (by omega) (by rw [hrw]; omega)
    · show m2.kd s = m.kd s
      rw [em.1]
    · exact hK2
end Hpi
