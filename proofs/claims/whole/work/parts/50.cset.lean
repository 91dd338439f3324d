-- the class's settle, over its state
theorem cq_id (H : AH) : cq H (fR H 26, fR H 27, fR H 28) (fI H 29) = H := by
  have e1 : (fun f a => if f = 29 then fI H 29 a else H.1.1 f a) = H.1.1 := by
    funext f a
    by_cases q : f = 29
    · rw [if_pos q, q]; rfl
    · rw [if_neg q]
  have e2 : (fun f a => if f = 26 then fR H 26 a else if f = 27 then fR H 27 a else if f = 28 then fR H 28 a else H.1.2.2 f a) = H.1.2.2 := by
    funext f a
    by_cases q : f = 26
    · rw [if_pos q, q]; rfl
    · rw [if_neg q]
      by_cases q2 : f = 27
      · rw [if_pos q2, q2]; rfl
      · rw [if_neg q2]
        by_cases q3 : f = 28
        · rw [if_pos q3, q3]; rfl
        · rw [if_neg q3]
  show ((fun f a => if f = 29 then fI H 29 a else H.1.1 f a, H.1.2.1, fun f a => if f = 26 then fR H 26 a else if f = 27 then fR H 27 a else if f = 28 then fR H 28 a else H.1.2.2 f a), H.2) = H
  rw [e1, e2]
theorem u2_id {α : Type} (m : Nat → Nat → α) (f a : Nat) : u2 m f a (m f a) = m := by
  funext g x
  unfold u2
  by_cases h1 : g = f
  · by_cases h2 : x = a
    · rw [if_pos h1, if_pos h2, h1, h2]
    · rw [if_pos h1, if_neg h2]
  · rw [if_neg h1]
theorem cq_cl {b : AH} {d : DS} {c : CS} {Pc' : PT} {Z' : Nat → Int32} {P' : PT} {z' : Nat → Nat} (h1 : ∀ x, d.nid x ≠ 0 → Pc'.1 x = d.ph (P'.1 (d.nid x)) ∧ Pc'.2.1 x = d.ph (P'.2.1 (d.nid x)) ∧ Pc'.2.2 x = d.ph (P'.2.2 (d.nid x)) ∧ Z' x = nI (z' (d.nid x))) (h2 : ∀ x, d.nid x = 0 → Pc'.1 x = fR b 26 x ∧ Pc'.2.1 x = fR b 27 x ∧ Pc'.2.2 x = fR b 28 x ∧ Z' x = fI b 29 x) : cq (cl b d c) Pc' Z' = cl b d ((c.sP P').scz z') := by
  have e1 : (fun f a => if f = 29 then Z' a else clI b d c f a) = clI b d ((c.sP P').scz z') := by
    funext f x
    by_cases q : f = 29
    · subst q
      show Z' x = (if d.nid x ≠ 0 then nI (z' (d.nid x)) else b.1.1 29 x)
      by_cases g : d.nid x = 0
      · rw [if_neg (fun e => e g)]; exact (h2 x g).2.2.2
      · rw [if_pos g]; exact (h1 x g).2.2.2
    · unfold clI
      simp only [q, if_false] <;> rfl
  have e2 : (fun f a => if f = 26 then Pc'.1 a else if f = 27 then Pc'.2.1 a else if f = 28 then Pc'.2.2 a else clR b d c f a) = clR b d ((c.sP P').scz z') := by
    funext f x
    by_cases q : f = 26
    · subst q
      show Pc'.1 x = (if d.nid x ≠ 0 then d.ph (P'.1 (d.nid x)) else b.1.2.2 26 x)
      by_cases g : d.nid x = 0
      · rw [if_neg (fun e => e g)]; exact (h2 x g).1
      · rw [if_pos g]; exact (h1 x g).1
    by_cases q2 : f = 27
    · subst q2
      show Pc'.2.1 x = (if d.nid x ≠ 0 then d.ph (P'.2.1 (d.nid x)) else b.1.2.2 27 x)
      by_cases g : d.nid x = 0
      · rw [if_neg (fun e => e g)]; exact (h2 x g).2.1
      · rw [if_pos g]; exact (h1 x g).2.1
    by_cases q3 : f = 28
    · subst q3
      show Pc'.2.2 x = (if d.nid x ≠ 0 then d.ph (P'.2.2 (d.nid x)) else b.1.2.2 28 x)
      by_cases g : d.nid x = 0
      · rw [if_neg (fun e => e g)]; exact (h2 x g).2.2.1
      · rw [if_pos g]; exact (h1 x g).2.2.1
    unfold clR
    simp only [q, q2, q3, if_false] <;> rfl
  show (((fun f a => if f = 29 then Z' a else clI b d c f a, clL b d c, fun f a => if f = 26 then Pc'.1 a else if f = 27 then Pc'.2.1 a else if f = 28 then Pc'.2.2 a else clR b d c f a), (clA b c, b.2.1.2.1, clS b d c), b.2.2) : AH) = _
  rw [e1, e2]
  rfl
def cSet (c : CS) (s n : Nat) (T : Nat → Nat) (κ : Nat) (z' : Nat → Nat) (G0 : Nat) : CS := (((((c.sla (u1 c.la s 0)).sst (u1 c.st s (c.st s + nI (tuF 20003 c.P n 0).2))).slg (u1 c.lg s (G0 + Gs (Ms T κ) z'))).sP (tuF 20003 c.P n 0).1).scz (fun a => if T a = κ then z' a else c.cz a)).sro (u1 c.ro s n)
section Cset
variable (L : Nat) (xs : Nat → Int32)
theorem c172_0 {b : AH} {d : DS} (hw : DW d) {s : Nat} (hsd : d.sid (d.sa (s + 1)) = s + 1) (ts : tg b (d.sa (s + 1)) = 7) (c : CS) :
    XM L xs 172 [.ref (d.sa (s + 1)), .ref 0] (cl b d c) = some (cl b d (c.sla (u1 c.la s 0)), none) := by
  rw [en_172, k_172_0]
  simp only [Hcl, gd_t, decide_true, Bool.and_self, HQ, HZ, ts, HF7, cl_la0 b hw _ hsd, k_172_5, if_true, k_172_9]
theorem c172 {b : AH} {d : DS} (hw : DW d) (tN : ∀ x, d.nid x ≠ 0 → tg b x = 4) {s : Nat} (hsd : d.sid (d.sa (s + 1)) = s + 1) (ts : tg b (d.sa (s + 1)) = 7) (c : CS) {T z : Nat → Nat} {κ G0 : Nat} (κ0 : κ ≠ 0) (hW : WF c.P T z) (hT : TN T) (hD : ∀ x, T x ≠ 0 → d.nid (d.ph x) = x) (hone : ∀ a, T a ≠ 0 → T a = κ) (hcz : ∀ a, T a ≠ 0 → c.cz a = z a) (hlg : c.lg s = G0 + Gs (Ms T κ) z) {n : Nat} (hn : T n ≠ 0) :
    ∃ z', WF (tuF 20003 c.P n 0).1 T z' ∧ (tuF 20003 c.P n 0).1.2.2 n = 0 ∧ XM L xs 172 [.ref (d.sa (s + 1)), .ref (d.ph n)] (cl b d c) = some (cl b d (cSet c s n T κ z' G0), none) := by
  have n0 := hW.n0 hn
  have hdn := hD n hn
  have tn : tg b (d.ph n) = 4 := tN _ (by rw [hdn]; exact n0)
  have rd : ∀ a, T a ≠ 0 → _ := fun a ha => Rn d (hD a ha) (hW.n0 ha) b (c.sla (u1 c.la s 0))
  have inj : ∀ a b, T a ≠ 0 → T b ≠ 0 → d.ph a = d.ph b → a = b := fun a b ha hb e => (phI (hD a ha) (hD b hb)).mp e
  obtain ⟨S, zc, hI, hWc, hzc, back⟩ := cWd (ph := d.ph) (Pc := (fR (cl b d (c.sla (u1 c.la s 0))) 26, fR (cl b d (c.sla (u1 c.la s 0))) 27, fR (cl b d (c.sla (u1 c.la s 0))) 28)) hw.1.1 hW (fun a ha => ⟨fun e => hW.n0 ha ((ph0 hw (hD a ha)).mp e), (rd a ha).2.2.2.2.1, (rd a ha).2.2.2.2.2.1, (rd a ha).2.2.2.2.2.2.1⟩) inj
  have hSn : S (d.ph n) = κ := by rw [(hI.2.1 n hn).2.1]; exact hone n hn
  have hSn0 : S (d.ph n) ≠ 0 := by rw [hSn]; exact κ0
  have hM : ((Ms T κ).map d.ph).Nodup := by
    have : ∀ l : List Nat, l.Nodup → (∀ a, a ∈ l → T a ≠ 0) → (l.map d.ph).Nodup := by
      intro l
      induction l with
      | nil => intro _ _; exact List.nodup_nil
      | cons a l ih =>
        intro hl hm
        rw [List.nodup_cons] at hl
        rw [List.map_cons, List.nodup_cons]
        refine ⟨fun q => ?_, ih hl.2 (fun x hx => hm x (List.mem_cons_of_mem _ hx))⟩
        obtain ⟨x, x1, x2⟩ := List.mem_map.mp q
        have := inj x a (hm x (List.mem_cons_of_mem _ x1)) (hm a List.mem_cons_self) x2
        rw [this] at x1
        exact hl.1 x1
    exact this _ (Ms_nodup T κ) (fun a ha => by rw [(Ms_mem hT κ0 a).mp ha]; exact κ0)
  have hMS : ∀ x, x ∈ (Ms T κ).map d.ph ↔ S x = S (d.ph n) := by
    intro x
    rw [hSn]
    constructor
    · intro q
      obtain ⟨a, a1, a2⟩ := List.mem_map.mp q
      have ha := (Ms_mem hT κ0 a).mp a1
      rw [← a2, (hI.2.1 a (by rw [ha]; exact κ0)).2.1]; exact ha
    · intro q
      obtain ⟨a, a1, a2⟩ := back x (by rw [q]; exact κ0)
      exact List.mem_map.mpr ⟨a, (Ms_mem hT κ0 a).mpr (hone a a1), a2⟩
  have gs : ∀ (w : Nat → Nat), Gs ((Ms T κ).map d.ph) w = Gs (Ms T κ) (fun a => w (d.ph a)) := by
    intro w
    unfold Gs
    rw [List.map_map]
    rfl
  have gz : Gs (Ms T κ) (fun a => zc (d.ph a)) = Gs (Ms T κ) z := by
    unfold Gs
    exact congrArg List.sum (List.map_congr_left (fun a ha => by show Nat.log2 (zc (d.ph a)) = _; rw [hzc a (Or.inr (by rw [(Ms_mem hT κ0 a).mp ha]; exact κ0))]))
  have hci : CI (fR (cl b d (c.sla (u1 c.la s 0))) 26, fR (cl b d (c.sla (u1 c.la s 0))) 27, fR (cl b d (c.sla (u1 c.la s 0))) 28) (fI (cl b d (c.sla (u1 c.la s 0))) 29) S zc 20002 := by
    refine ⟨hWc, fun x hx => ?_, fun x hx => ?_⟩
    · obtain ⟨a, a1, rfl⟩ := back x hx
      rw [hzc a (Or.inr a1), ← hcz a a1]
      exact (rd a a1).2.1
    · obtain ⟨a, a1, rfl⟩ := back x hx
      rw [hzc a (Or.inr a1)]
      exact hW.z_le hT.2 (Or.inr a1)
  obtain ⟨Z', z', k1, k2, k3, k4⟩ := c_172_loop L xs (G0 := G0) (h := cl b d (c.sla (u1 c.la s 0))) (a0 := c.st s) (t := d.sa (s + 1)) (n := d.ph n) (B := 20002) (by decide) (Nat.le_refl _) hSn0 ts (fun e => Nat.succ_ne_zero s ((sa0 hw hsd).mp e)) (fun x hx => by obtain ⟨a, a1, rfl⟩ := back x hx; exact tN _ (by rw [hD a a1]; exact hW.n0 a1)) hM hMS 20003 _ _ zc 0 0 .null hci (by omega) (fun _ => Nat.zero_le _)
  obtain ⟨i1, i2⟩ := Iso.tuF (B := 20002) hT.1 hn 20003 _ c.P 0 zc hI hWc hci.2.2
  obtain ⟨zf', f1, f2, f3, f4, f5, f6⟩ := tuF_ok (B := 20002) hn 20003 c.P 0 z hW (fun x hx => hW.z_le hT.2 (Or.inr hx)) (by omega)
  obtain ⟨zg', g1, g2, g3, g4, g5, g6⟩ := tuF_ok (B := 20002) hSn0 20003 _ 0 zc hWc hci.2.2 (by omega)
  have hW' : WF (tuF 20003 c.P n 0).1 T (fun a => z' (d.ph a)) := i2.wf hT.1 k1.1
  refine ⟨fun a => z' (d.ph a), hW', f5, ?_⟩
  have ra := (Rs d hsd b (c.sla (u1 c.la s 0)))
  have e0 : cq (hs (cl b d (c.sla (u1 c.la s 0))) (d.sa (s + 1)) (c.st s + nI 0) (nI (G0 + Gs ((Ms T κ).map d.ph) zc))) (fR (cl b d (c.sla (u1 c.la s 0))) 26, fR (cl b d (c.sla (u1 c.la s 0))) 27, fR (cl b d (c.sla (u1 c.la s 0))) 28) (fI (cl b d (c.sla (u1 c.la s 0))) 29) = cl b d (c.sla (u1 c.la s 0)) := by
    have e1 : hs (cl b d (c.sla (u1 c.la s 0))) (d.sa (s + 1)) (c.st s + nI 0) (nI (G0 + Gs ((Ms T κ).map d.ph) zc)) = cl b d (c.sla (u1 c.la s 0)) := by
      unfold hs
      rw [nI_0, Int32.add_zero, gs, gz, ← hlg, cl_st b hw _ hsd, cl_lg b hw _ hsd]
      have q1 : u1 c.st s (c.st s) = c.st := by
        funext x
        unfold u1
        by_cases q : x = s
        · rw [if_pos q, q]
        · rw [if_neg q]
      have q2 : u1 c.lg s (c.lg s) = c.lg := by
        funext x
        unfold u1
        by_cases q : x = s
        · rw [if_pos q, q]
        · rw [if_neg q]
      show cl b d (((c.sla (u1 c.la s 0)).sst (u1 c.st s (c.st s))).slg (u1 c.lg s (c.lg s))) = _
      rw [q1, q2]
      rfl
    rw [e1, cq_id]
  rw [e0] at k4
  have e28 : fR (cl b d (c.sla (u1 c.la s 0))) 28 (d.ph n) = (fR (cl b d (c.sla (u1 c.la s 0))) 26, fR (cl b d (c.sla (u1 c.la s 0))) 27, fR (cl b d (c.sla (u1 c.la s 0))) 28).2.2 (d.ph n) := rfl
  rw [en_172, k_172_0]
  simp only [Hcl, gd_t, decide_true, Bool.and_self, HQ, HZ, ts, HF7, cl_la0 b hw _ hsd, k_172_5]
  rw [if_neg (fun e => n0 ((ph0 hw hdn).mp e)), k_172_10]
  simp only [Hcl, gd_t, decide_true, Bool.and_self, HQ, HZ, tn, HF4]
  rw [e28, ← nI_0, k4]
  refine congrArg (fun q : AH => (some (q, none) : Option Out)) ?_
  have e5 : hs (cl b d (c.sla (u1 c.la s 0))) (d.sa (s + 1)) (c.st s + nI (tuF 20003 (fR (cl b d (c.sla (u1 c.la s 0))) 26, fR (cl b d (c.sla (u1 c.la s 0))) 27, fR (cl b d (c.sla (u1 c.la s 0))) 28) (d.ph n) 0).2) (nI (G0 + Gs ((Ms T κ).map d.ph) z')) = cl b d (((c.sla (u1 c.la s 0)).sst (u1 c.st s (c.st s + nI (tuF 20003 c.P n 0).2))).slg (u1 c.lg s (G0 + Gs (Ms T κ) (fun a => z' (d.ph a))))) := by
    unfold hs
    rw [i1, gs, cl_st b hw _ hsd, cl_lg b hw _ hsd]
    rfl
  rw [e5, cq_cl (P' := (tuF 20003 c.P n 0).1) (z' := fun a => if T a = κ then z' (d.ph a) else c.cz a), cl_ro b hw _ hsd]
  · rfl
  · intro x hx
    have ex : d.ph (d.nid x) = x := hw.2.1 x hx
    by_cases tx : T (d.nid x) = κ
    · have tx0 : T (d.nid x) ≠ 0 := by rw [tx]; exact κ0
      obtain ⟨j1, j2, j3, j4, j5, -⟩ := i2.2.1 (d.nid x) tx0
      rw [ex] at j2 j3 j4 j5
      refine ⟨j3, j4, j5, ?_⟩
      show Z' x = nI (if T (d.nid x) = κ then z' (d.ph (d.nid x)) else c.cz (d.nid x))
      rw [if_pos tx, ex]
      exact k1.2.1 x (by rw [j2]; exact tx0)
    · have tx0 : T (d.nid x) = 0 := by
        rcases Nat.eq_zero_or_pos (T (d.nid x)) with q | q
        · exact q
        · exact absurd (hone _ (by omega)) tx
      have sx : S x ≠ S (d.ph n) := by
        rw [hSn]
        intro q
        obtain ⟨a, a1, a2⟩ := back x (by rw [q]; exact κ0)
        have := hD a a1
        rw [a2] at this
        rw [this] at tx0
        exact a1 tx0
      obtain ⟨v1, v2, v3⟩ := g4 x sx
      obtain ⟨y1, y2, y3⟩ := f4 (d.nid x) (by rw [hone n hn]; exact tx)
      have hdx : d.nid (d.ph (d.nid x)) = d.nid x := by rw [ex]
      have rx := Rn d hdx hx b (c.sla (u1 c.la s 0))
      rw [ex] at rx
      refine ⟨?_, ?_, ?_, ?_⟩
      · rw [v1, y1]; exact rx.2.2.2.2.1
      · rw [v2, y2]; exact rx.2.2.2.2.2.1
      · rw [v3, y3]; exact rx.2.2.2.2.2.2.1
      · show Z' x = nI (if T (d.nid x) = κ then z' (d.ph (d.nid x)) else c.cz (d.nid x))
        rw [if_neg tx, (k3 x sx).2]
        exact rx.2.1
  · intro x hx
    have sx : S x ≠ S (d.ph n) := by
      rw [hSn]
      intro q
      obtain ⟨a, a1, a2⟩ := back x (by rw [q]; exact κ0)
      have := hD a a1
      rw [a2, hx] at this
      exact hW.n0 a1 this.symm
    obtain ⟨v1, v2, v3⟩ := g4 x sx
    have rr : ∀ f, (f = 26 ∨ f = 27 ∨ f = 28) → fR (cl b d (c.sla (u1 c.la s 0))) f x = fR b f x := by
      intro f hf
      show clR b d (c.sla (u1 c.la s 0)) f x = b.1.2.2 f x
      rcases hf with q | q | q
      · subst q; show (if d.nid x ≠ 0 then _ else _) = _; rw [if_neg (fun e => e hx)]
      · subst q; show (if d.nid x ≠ 0 then _ else _) = _; rw [if_neg (fun e => e hx)]
      · subst q; show (if d.nid x ≠ 0 then _ else _) = _; rw [if_neg (fun e => e hx)]
    refine ⟨?_, ?_, ?_, ?_⟩
    · rw [v1]; exact rr 26 (Or.inl rfl)
    · rw [v2]; exact rr 27 (Or.inr (Or.inl rfl))
    · rw [v3]; exact rr 28 (Or.inr (Or.inr rfl))
    · rw [(k3 x sx).2]
      show clI b d (c.sla (u1 c.la s 0)) 29 x = b.1.1 29 x
      show (if d.nid x ≠ 0 then _ else _) = _
      rw [if_neg (fun e => e hx)]
end Cset
