-- bring, of trees
def cNd (c : CS) (x i : Nat) (k : Int64) (v : Int32) (n : Nat) : CS := (cVal c i v).nd x k n 1 1 i i
theorem HcNd (c : CS) (x i : Nat) (k : Int64) (v : Int32) (n : Nat) : (cNd c x i k v n).ck = u1 c.ck x k ∧ (cNd c x i k v n).cc = u1 c.cc x n ∧ (cNd c x i k v n).P = (u1 c.P.1 x 0, u1 c.P.2.1 x 0, u1 c.P.2.2 x 0) ∧ (cNd c x i k v n).cz = u1 c.cz x 1 ∧ (cNd c x i k v n).nv = u1 c.nv x 1 ∧ (cNd c x i k v n).f1 = u1 c.f1 x i ∧ (cNd c x i k v n).l1 = u1 c.l1 x i ∧ (cNd c x i k v n).vn = u1 c.vn i v ∧ (cNd c x i k v n).vx = u1 c.vx i 0 ∧ (cNd c x i k v n).kd = c.kd ∧ (cNd c x i k v n).ro = c.ro ∧ (cNd c x i k v n).he = c.he ∧ (cNd c x i k v n).vs = c.vs ∧ (cNd c x i k v n).la = c.la ∧ (cNd c x i k v n).tl = c.tl ∧ (cNd c x i k v n).dp = c.dp ∧ (cNd c x i k v n).lg = c.lg ∧ (cNd c x i k v n).hy = c.hy ∧ (cNd c x i k v n).pa = c.pa ∧ (cNd c x i k v n).K = c.K ∧ (cNd c x i k v n).ar = c.ar ∧ (cNd c x i k v n).cn = c.cn ∧ (cNd c x i k v n).E = c.E ∧ (cNd c x i k v n).pu = c.pu ∧ (cNd c x i k v n).st = c.st ∧ (cNd c x i k v n).fk = c.fk ∧ (cNd c x i k v n).fv = c.fv ∧ (cNd c x i k v n).N = c.N ∧ (cNd c x i k v n).rO = c.rO ∧ (cNd c x i k v n).rP = c.rP ∧ (cNd c x i k v n).rT = c.rT ∧ (cNd c x i k v n).rQ = c.rQ := ⟨rfl, rfl, rfl, rfl, rfl, rfl, rfl, rfl, rfl, rfl, rfl, rfl, rfl, rfl, rfl, rfl, rfl, rfl, rfl, rfl, rfl, rfl, rfl, rfl, rfl, rfl, rfl, rfl, rfl, rfl, rfl, rfl⟩
section Brt5
variable (L : Nat) (xs : Nat → Int32)
set_option maxHeartbeats 4000000 in
theorem bring_new {i : Nat} {B : AH} {m : MS} {c : CS} {d : DS} {T z : Nat → Nat} {V R : Nat → List Nat} {FN FI : List Nat} {ow : Nat → Nat} (ja : JA m c) (jq : JQ B m i) (hj : JJ m c d B T z V R FN FI ow) {s : Nat} (hs : s < m.K) (hk : m.kd s ≤ 1) (hE : m.E < 20000) (hN : m.N < 20000) (k : Int64) (v : Int32) {n g2 : Nat} (hn : (gT c.ck c.P k 20003 (c.ro s)).1 = n) (hg : (gT c.ck c.P k 20003 (c.ro s)).2 = g2) (hkn : n ≠ 0 → c.ck n ≠ k) : BrgOK L xs i B m c d s k v := by
  obtain ⟨jb, js, jt, jr, jp, jd, jv, ji, jf, jw, jh, jz, jl⟩ := id hj
  obtain ⟨h1, h2, h3, h4, h5, h6⟩ := hj.kin hs
  obtain ⟨FI', ⟨i1, i2, i3⟩, -⟩ := item_new ji hE
  obtain ⟨FN', ⟨o1, o2, o3⟩, -⟩ := node_new hj hE
  have hw := jb.2.2.2.2.2
  have κ0 : s + 1 ≠ 0 := Nat.succ_ne_zero s
  have gle := gT_le (ky := c.ck) (P := c.P) k 20003 (c.ro s)
  rw [hg] at gle
  have hzr := hj.zle (hj.rz hs)
  have r0 : n = 0 → c.ro s = 0 := fun n0 => by
    rcases hj.rz hs with q | q
    · exact q
    · have := gT_mem (ky := c.ck) jt.1 k 20003 (c.ro s) q
      rw [hn, n0, jt.1.1] at this
      exact absurd this.symm q
  have nr : c.ro s ≠ 0 → T (c.ro s) ≠ 0 ∧ T (c.ro s) = s + 1 ∧ c.P.2.2 (c.ro s) = 0 := fun q => ⟨(hj.rz hs).resolve_left q, ((jr s hs).2.2.1 q).1, ((jr s hs).2.2.1 q).2⟩
  have rn : n ≠ 0 → c.ro s ≠ 0 := fun n0 q => n0 (by rw [← hn, q]; unfold gT; rw [if_pos rfl])
  have tn : n ≠ 0 → T n = s + 1 := fun n0 => by
    obtain ⟨y1, y2, y3⟩ := nr (rn n0)
    rw [← hn, gT_mem jt.1 k 20003 _ y1, y2]
  have g20 : n = 0 → g2 = 0 := fun n0 => by rw [← hg, r0 n0]; unfold gT; rw [if_pos rfl]
  have hdir : n ≠ 0 → Dir c.P c.ck k n := fun n0 => by
    obtain ⟨y1, y2, y3⟩ := nr (rn n0)
    rw [← hn]
    exact gT_dir jt.1 k 20003 _ y1 (fun j hj' => absurd (upI_N c.P j (c.ro s) y3) hj')
  have hsl : Slot c.P T (s + 1) n (decide (k < c.ck n)) := fun n0 => by
    obtain ⟨y1, y2, y3⟩ := nr (rn n0)
    have e := gT_end (ky := c.ck) jt.1 k 20003 (c.ro s) y1 (by omega) (by rw [hn]; exact hkn n0)
    rw [hn] at e
    exact ⟨tn n0, fun g => e.1 (of_decide_eq_true g), fun g => e.2 (of_decide_eq_false g)⟩
  have lzn : LZ T n := by
    by_cases n0 : n = 0
    · exact Or.inl n0
    · exact Or.inr (by rw [tn n0]; exact κ0)
  have nb : n ≤ 20002 := by
    rcases lzn with q | q
    · omega
    · exact jt.2.1.2 n q
  obtain ⟨tl', go, gl⟩ := go_ok L xs hj hs hk k hn hg
  generalize hc1 : (cW c s n tl' g2).sst (u1 c.st s (c.st s + nI g2)) = cg at go gl
  have hjg : JJ m (cLz (m.kd s) cg s) d B T z V R FN FI ow := by rw [← hc1]; exact hj.go hs _ hk (by rw [hc1]; exact gl)
  have e1 : cg.pu = c.pu ∧ cg.st = u1 c.st s (c.st s + nI g2) ∧ cg.fk = c.fk ∧ cg.fv = c.fv ∧ cg.E = c.E ∧ cg.cn = c.cn ∧ cg.N = c.N ∧ cg.rO = c.rO ∧ cg.rP = c.rP ∧ cg.rT = c.rT ∧ cg.rQ = c.rQ ∧ cg.ck = c.ck ∧ cg.la = u1 c.la s n ∧ cg.f1 = c.f1 ∧ cg.cz = c.cz ∧ cg.lg = c.lg ∧ cg.P = c.P ∧ cg.l1 = c.l1 ∧ cg.vx = c.vx ∧ cg.ro = c.ro ∧ cg.ar = c.ar := by
    rw [← hc1]
    exact ⟨rfl, rfl, rfl, rfl, rfl, rfl, rfl, rfl, rfl, rfl, rfl, rfl, rfl, rfl, rfl, rfl, rfl, rfl, rfl, rfl, rfl⟩
  clear hc1
  obtain ⟨q1, q2, q3, q4, q5, q6, q7, q8, q9, q10, q11, q12, q13, q14, q15, q16, q17, q18, q19, q20, q21⟩ := e1
  have hid : d.iid (d.vh (iid m)) ≠ iid m := fun q => by have := (jd.2 _ i1).mp q; omega
  have hnd : d.nid (d.ph (mid m)) ≠ mid m := fun q => (jd.1 _ o1).mp q o3
  have hla : cg.la s = n := by rw [q13, u1_s]
  have cld : Cld d cg := hj.cld q17 q14 q18 q19 q20 q21 (fun r hr => by
    rw [q13]
    by_cases g : r = s
    · rw [g, u1_s]; exact lzn
    · rw [u1_o _ _ g]
      by_cases l0 : c.la r = 0
      · exact Or.inl l0
      · have k0 : m.kd r = 0 := by
          rcases Nat.eq_zero_or_pos (m.kd r) with q | q
          · exact q
          · exact absurd (jl.1 r hr (by omega)) l0
        exact Or.inr (by rw [(jl.2.1 r hr k0 l0).1]; exact Nat.succ_ne_zero r))
  obtain ⟨x1, x2, x3, x4, x5⟩ := bNod_ext B k v c.cn
  obtain ⟨w1, w2, nx⟩ := hang_ws jt.1 κ0 o3 o1 hsl
  have hwf := hang_wf jt.1 jt.2.1 κ0 o3 o1 (by omega) hsl
  have h32 := jb.2.2.1.1
  have hcn := HcNd cg (mid m) (iid m) k v c.cn
  have new := fun m0 => c132 L xs (b := ml B m0) (a := mid m) (i := iid m) hw jb.2.2.1 cld o1 hnd i1 hid k v c.cn
  have new : ∀ m0, XM L xs 132 [.ref (nn B + 1), .long k, .int v, .int (nI c.cn)] (mk (cl (ml B m0) d cg) 4 0 9) = some (cl (ml (bNod B k v c.cn) m0) ((d.ai (iid m) (nn B + 2)).an (mid m) (nn B + 1)) (cNd cg (mid m) (iid m) k v c.cn), none) := fun m0 => by
    rw [bNod_ml B m0 k v c.cn h32]
    exact new m0
  generalize hc2 : cNd cg (mid m) (iid m) k v c.cn = c2 at hcn new
  clear hc2
  obtain ⟨n1, n2, n3, n4, n5, n6, n7, n8, n9, m1, m2, m3, m4, m5, m6, m7, m8, m9, m10, m11, m12, m13, m14, m15, m16, m17, m18, m19, m20, m21, m22, m23⟩ := hcn
  have jb1 := ((x1.JB jb).ai' (i := iid m) (y := nn B + 2) (by omega) (by omega) x5 i1 hid).an (x := mid m) (y := nn B + 1) (by omega) (by omega) x4 o1 hnd
  generalize hd1 : (d.ai (iid m) (nn B + 2)).an (mid m) (nn B + 1) = d1 at jb1 new
  have dd : d1.sa = d.sa ∧ d1.sid = d.sid ∧ d1.ph (mid m) = nn B + 1 ∧ d1.nid (d1.ph (mid m)) = mid m ∧ (∀ a, T a ≠ 0 → d1.nid (d1.ph a) = a) ∧ d1.nid (d1.ph 0) = 0 := by
    rw [← hd1]
    refine ⟨rfl, rfl, u1_s _ _ _, ?_, fun a ha => ?_, ?_⟩
    · show u1 d.nid (nn B + 1) (mid m) (u1 d.ph (mid m) (nn B + 1) (mid m)) = mid m
      rw [u1_s, u1_s]
    · show u1 d.nid (nn B + 1) (mid m) (u1 d.ph (mid m) (nn B + 1) a) = a
      have ea : a ≠ mid m := fun q => ha (by rw [q]; exact o3)
      have e := hj.hD a (Or.inr ha)
      have eb : d.ph a ≠ nn B + 1 := fun q => by
        have := jb.2.2.1.2.1 (d.ph a) (by rw [e]; exact jt.1.n0 ha)
        omega
      have e1 : u1 d.ph (mid m) (nn B + 1) a = d.ph a := u1_o d.ph _ ea
      rw [e1, u1_o d.nid _ eb]
      exact e
    · show u1 d.nid (nn B + 1) (mid m) (u1 d.ph (mid m) (nn B + 1) 0) = 0
      have e1 : u1 d.ph (mid m) (nn B + 1) 0 = d.ph 0 := u1_o d.ph _ (fun q => o1 q.symm)
      rw [e1, hw.1.1, u1_o d.nid _ (show (0 : Nat) ≠ nn B + 1 by omega)]
      exact hw.1.2.2.2.1
  obtain ⟨d1a, d1b, d1c, d1d, d1e, d1f⟩ := dd
  have hsd1 : d1.sid (d1.sa (s + 1)) = s + 1 := by rw [d1a, d1b]; exact h2
  have ts1 : tg (bNod B k v c.cn) (d.sa (s + 1)) = tg B (d.sa (s + 1)) := (x1.2 _ (jb.2.2.1.2.2.2 _ (by rw [h2]; exact Nat.succ_ne_zero s))).1
  have tst : tg (bNod B k v c.cn) (d1.sa (s + 1)) = 5 ∨ tg (bNod B k v c.cn) (d1.sa (s + 1)) = 7 := by rw [d1a, ts1]; exact hj.tgt hs hk
  have c2la : c2.la s = n := by rw [m5]; exact hla
  have hd1n : d1.nid (d1.ph n) = n := by
    rcases lzn with q | q
    · rw [q]; exact d1f
    · exact d1e n q
  -- from hangNew's answer on
  have fin : ∀ c4 : CS, (∀ m0, XM L xs 169 [.ref (d1.sa (s + 1)), .ref (d1.ph (mid m))] (cl (ml (bNod B k v c.cn) m0) d1 c2) = some (cl (ml (bNod B k v c.cn) m0) d1 c4, none)) → NwS cg (c4.svs (u1 c4.vs s (c4.vs s + 1))) s n (mid m) (iid m) k v (decide (k < c.ck n)) → ((∀ a, T a ≠ 0 → T a ≠ s + 1 → c4.cz a = cg.cz a) ∧ (m.kd s = 1 → ∀ a, u1 T (mid m) (s + 1) a = s + 1 → c4.cz a = zf (hang cg.P n (mid m) (decide (k < c.ck n))) a) ∧ (∀ r, r ≠ s → c4.lg r = cg.lg r) ∧ (m.kd s = 1 → c4.lg s = Sm (u1 T (mid m) (s + 1)) (s + 1) (fun a => Nat.log2 (zf (hang cg.P n (mid m) (decide (k < c.ck n))) a)))) → BrgOK L xs i B m c d s k v := by
    intro c4 hh spec ez
    refine brn_fin L xs ja jq hj hs hk hE hN k v hn hg gle nb tn hkn hsl r0 hdir hjg q1 q2 q3 q4 q5 q6 q7 q8 q9 q10 q11 q12 q17 q20 g20 spec ez (fun m0 c3 hset => ?_)
    rw [hd1] at hset ⊢
    exact c161_n L xs (b := ml B m0) (b1 := ml (bNod B k v c.cn) m0) (d1 := d1) hw jb.2.2.2.1 h2 (hj.tgt hs hk) (go m0) hla (hj.hD n lzn) (fun g => by rw [q12]; exact hkn g) (new m0) jb1.2.2.2.2.2 (by rw [d1a]) d1c o1 hsd1 d1d x4 ts1 (hh m0) hset
  by_cases n0 : n = 0
  · refine fin (cHg0 c2 s (mid m)) (fun m0 => c169_0 L xs (b := ml (bNod B k v c.cn) m0) jb1.2.2.2.2.2 hsd1 tst c2 (by rw [c2la]; exact n0)) ?_ ?_
    · refine ⟨⟨n1, by rw [q6]; exact n2, ?_, n5, n6, n7, n8, n9, m1, ?_, ?_, ?_, m5, m6, m7, m9, m10, m11, m12⟩, m13, m14, m15, ?_, m17, m18, m19, m20, m21, m22, m23⟩
      · rw [n0, hang_0]; exact n3
      · rw [if_pos n0, ← m2]; rfl
      · rw [← m3]; rfl
      · rw [← m4]; rfl
      · rw [if_pos n0]; exact m16
    · have emp := hj.emp hs (r0 n0)
      refine ⟨fun a ha hne => ?_, fun h a ha => ?_, fun r hr => ?_, fun h => ?_⟩
      · show c2.cz a = cg.cz a
        rw [n4, u1_o _ _ (fun q => ha (by rw [q]; exact o3))]
      · have ax : a = mid m := (Classical.em (a = mid m)).elim id (fun q => absurd (by rw [u1_o _ _ q] at ha; exact ha) (emp a))
        show c2.cz a = _
        rw [n4, ax, u1_s, q17]
        have := (hwf.2.2 (mid m) (by rw [u1_s]; exact κ0)).2.2.2.2
        rw [(hang_x c.P _ nx).1, (hang_x c.P _ nx).2.1, hwf.2.1] at this
        exact this.symm
      · show c2.lg r = cg.lg r
        rw [m8]
      · show c2.lg s = _
        rw [m8, q16, (jz.1 s hs).2.2.1 h, Sm_none emp, Sm_ins jt.2.1 κ0 _ o3 o1 (by omega), Sm_none emp, q17]
        have := (hwf.2.2 (mid m) (by rw [u1_s]; exact κ0)).2.2.2.2
        rw [(hang_x c.P _ nx).1, (hang_x c.P _ nx).2.1, hwf.2.1] at this
        rw [this]
        rfl
  · have hgp : hgP c2 s (mid m) = hang cg.P n (mid m) (decide (k < c.ck n)) := by
      have := hgP_hang (c2 := c2) (P := cg.P) (ck := cg.ck) (s := s) (n := n) (x := mid m) (k := k) n3 n1 c2la n0 o1 nx
      rw [q12] at this
      exact this
    have c2l0 : c2.la s ≠ 0 := by rw [c2la]; exact n0
    have hdl : d1.nid (d1.ph (c2.la s)) = c2.la s := by rw [c2la]; exact hd1n
    by_cases k1 : m.kd s = 1
    · have t7 : tg (bNod B k v c.cn) (d1.sa (s + 1)) = 7 := by rw [d1a, ts1]; exact (hj.tgs hs).2.1 k1
      have lv : ∀ a, ind (u1 T (mid m) (s + 1)) (s + 1) a ≠ 0 → u1 T (mid m) (s + 1) a = s + 1 := fun a ha => (ind_ne κ0 a).mp ha
      have lv0 : ∀ a, u1 T (mid m) (s + 1) a = s + 1 → u1 T (mid m) (s + 1) a ≠ 0 := fun a ha => by rw [ha]; exact κ0
      have hT' := TN_u1 (s := s + 1) jt.2.1 o1 (show mid m ≤ 20002 by omega)
      have hwi : WF (hang c.P n (mid m) (decide (k < c.ck n))) (ind (u1 T (mid m) (s + 1)) (s + 1)) (zf (hang c.P n (mid m) (decide (k < c.ck n)))) := WF.ind (l := (hang c.P n (mid m) (decide (k < c.ck n))).1) (r := (hang c.P n (mid m) (decide (k < c.ck n))).2.1) (u := (hang c.P n (mid m) (decide (k < c.ck n))).2.2) (u' := (hang c.P n (mid m) (decide (k < c.ck n))).2.2) hwf κ0 (fun _ _ => rfl)
      have czs : ∀ a, T a = s + 1 → c.cz a = z a := fun a ha => jz.2.1 a (by rw [ha]; exact κ0) (by rw [ha, Nat.add_sub_cancel]; omega)
      have gr := hang_gr (lt := decide (k < c.ck n)) jt.1 jt.2.1 κ0 o3 o1 (show mid m ≤ 20002 by omega) hsl czs
      have ecz : c2.cz = u1 c.cz (mid m) 1 := by rw [n4, q15]
      have h5' : c2.lg s = Gs (Ms (u1 T (mid m) (s + 1)) (s + 1)) c2.cz := by
        have e2 : Gs (Ms (u1 T (mid m) (s + 1)) (s + 1)) c2.cz = Sm (u1 T (mid m) (s + 1)) (s + 1) (fun a => Nat.log2 (c2.cz a)) := rfl
        rw [e2, Sm_ins jt.2.1 κ0 _ o3 o1 (by omega), m8, q16, (jz.1 s hs).2.2.1 k1, ecz, u1_s]
        have : Sm T (s + 1) (fun a => Nat.log2 (u1 c.cz (mid m) 1 a)) = Sm T (s + 1) (fun a => Nat.log2 (z a)) := Sm_congr jt.2.1 κ0 (fun a ha => by
          show Nat.log2 (u1 c.cz (mid m) 1 a) = Nat.log2 (z a)
          rw [u1_o _ _ (fun q => by rw [q, o3] at ha; exact κ0 ha.symm), czs a ha])
        rw [this]
        have : Nat.log2 1 = 0 := by decide
        rw [this, Nat.zero_add]
      have c7 := fun m0 => c169_7 L xs (b := ml (bNod B k v c.cn) m0) jb1.2.2.2.2.2 jb1.2.2.2.1 hsd1 t7 c2 c2l0 hdl o1 d1d (S := ind (u1 T (mid m) (s + 1)) (s + 1)) (μ := u1 (fun a => z a + 1) (mid m) 0) (B := 20003) (F := 20003) (M := Ms (u1 T (mid m) (s + 1)) (s + 1)) (Ms_nodup _ _) (fun a ha => (Ms_mem hT' κ0 a).mpr (lv a ha)) (fun a ha => by
          by_cases q : a = mid m
          · rw [q]; exact d1d
          · have := lv a ha
            rw [u1_o _ _ q] at this
            exact d1e a (by rw [this]; exact κ0)) (fun a ha => by
          have ta := lv a ha
          by_cases q : a = mid m
          · rw [q, u1_s]; omega
          · rw [u1_o _ _ q] at ta ⊢
            have := hj.zle (a := a) (Or.inr (by rw [ta]; exact κ0))
            omega) (by rw [hgp, q17]; exact hwi.ws) (by rw [hgp, q17]; exact fun a ha => w2 a (lv0 a (lv a ha))) (by rw [c2la, ind_eq (by rw [u1_o _ _ nx]; exact tn n0)]; exact κ0) (by rw [c2la, u1_o _ _ nx]; omega) h5' (fun a ha => by
          have ta := lv a ha
          rw [ecz]
          by_cases q : a = mid m
          · rw [q, u1_s]; decide
          · rw [u1_o _ _ q] at ta ⊢
            rw [czs a ta]
            have := hj.zle (a := a) (Or.inr (by rw [ta]; exact κ0))
            omega)
      refine fin (cHg7 20003 (Ms (u1 T (mid m) (s + 1)) (s + 1)) c2 s (mid m)) c7 ?_ ?_
      · refine ⟨⟨n1, by rw [q6]; exact n2, hgp, n5, n6, n7, n8, n9, m1, ?_, ?_, ?_, m5, m6, m7, m9, m10, m11, m12⟩, m13, m14, m15, ?_, m17, m18, m19, m20, m21, m22, m23⟩
        · rw [if_neg n0]; exact m2
        · rw [← m3]; rfl
        · rw [← m4]; rfl
        · rw [if_neg n0, ← m16]; rfl
      · have ec : ∀ a, (cHg7 20003 (Ms (u1 T (mid m) (s + 1)) (s + 1)) c2 s (mid m)).cz a = grF (hang c.P n (mid m) (decide (k < c.ck n))).2.2 20003 n (u1 c.cz (mid m) 1) a := fun a => by
          show grF (hgP c2 s (mid m)).2.2 20003 (c2.la s) c2.cz a = _
          rw [hgp, q17, c2la, ecz]
        refine ⟨fun a ha hne => ?_, fun h a ha => ?_, fun r hr => ?_, fun h => ?_⟩
        · rw [ec, grF_fr (T := u1 T (mid m) (s + 1)) (κ := s + 1) (fun y hy => ?_) (by rw [u1_o _ _ (fun q => ha (by rw [q]; exact o3))]; exact hne) 20003 n _ (Or.inr (by rw [u1_o _ _ nx]; exact tn n0)), u1_o _ _ (fun q => ha (by rw [q]; exact o3)), q15]
          by_cases u0 : (hang c.P n (mid m) (decide (k < c.ck n))).2.2 y = 0
          · exact Or.inl u0
          · exact Or.inr (((hwf.2.2 y (lv0 y hy)).2.2.1 u0).2.trans hy)
        · rw [ec, gr a ha, q17]
        · show u1 c2.lg s _ r = cg.lg r
          rw [u1_o _ _ hr, m8]
        · show u1 c2.lg s (Gs (Ms (u1 T (mid m) (s + 1)) (s + 1)) (grF (hgP c2 s (mid m)).2.2 20003 (c2.la s) c2.cz)) s = _
          rw [u1_s]
          have e2 : ∀ f, Gs (Ms (u1 T (mid m) (s + 1)) (s + 1)) f = Sm (u1 T (mid m) (s + 1)) (s + 1) (fun a => Nat.log2 (f a)) := fun _ => rfl
          rw [e2]
          refine Sm_congr hT' κ0 (fun a ha => ?_)
          have := ec a
          have this : grF (hgP c2 s (mid m)).2.2 20003 (c2.la s) c2.cz a = _ := this
          rw [this, gr a ha, q17]
    · have k0 : m.kd s = 0 := by omega
      have t5 : tg (bNod B k v c.cn) (d1.sa (s + 1)) = 5 := by rw [d1a, ts1]; exact (hj.tgs hs).1 k0
      refine fin (cHg5 c2 s (mid m)) (fun m0 => c169_5 L xs (b := ml (bNod B k v c.cn) m0) jb1.2.2.2.2.2 jb1.2.2.2.1 hsd1 t5 c2 c2l0 hdl o1 d1d) ?_ ?_
      · refine ⟨⟨n1, by rw [q6]; exact n2, hgp, n5, n6, n7, n8, n9, m1, ?_, ?_, ?_, m5, m6, m7, m9, m10, m11, m12⟩, m13, m14, m15, ?_, m17, m18, m19, m20, m21, m22, m23⟩
        · rw [if_neg n0]; exact m2
        · rw [← m3]; rfl
        · rw [← m4]; rfl
        · rw [if_neg n0, ← m16]; rfl
      · refine ⟨fun a ha hne => ?_, fun h => absurd h k1, fun r hr => ?_, fun h => absurd h k1⟩
        · show c2.cz a = cg.cz a
          rw [n4, u1_o _ _ (fun q => ha (by rw [q]; exact o3))]
        · show c2.lg r = cg.lg r
          rw [m8]
theorem bring_tree {i : Nat} {B : AH} {m : MS} {c : CS} {d : DS} (hI : Inv i B m c d) {s : Nat} (hs : s < m.K) (hk : m.kd s ≤ 1) (hE : m.E < 20000) (hN : m.N < 20000) (k : Int64) (v : Int32) : BrgOK L xs i B m c d s k v := by
  obtain ⟨e0, ja, jq, T, z, V, R, FN, FI, ow, hj⟩ := id hI
  have jt := hj.2.2.1
  have jr := hj.2.2.2.1
  generalize hn : (gT c.ck c.P k 20003 (c.ro s)).1 = n
  generalize hg : (gT c.ck c.P k 20003 (c.ro s)).2 = g2
  by_cases met : n ≠ 0 ∧ c.ck n = k
  · have r0 : c.ro s ≠ 0 := fun q => met.1 (by rw [← hn, q]; unfold gT; rw [if_pos rfl])
    have tr := ((jr s hs).2.2.1 r0).1
    have tn : T n = s + 1 := by rw [← hn, gT_mem jt.1 k 20003 _ (by rw [tr]; exact Nat.succ_ne_zero s), tr]
    exact bring_met L xs ja jq hj hs hk hE hN k v hn hg met.1 tn met.2
  · exact bring_new L xs ja jq hj hs hk hE hN k v hn hg (fun n0 e => met ⟨n0, e⟩)
end Brt5
