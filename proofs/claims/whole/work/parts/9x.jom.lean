-- join
theorem HcJE (c : CS) (s t : Nat) : (cEm (cJn c s t) t).cc = c.cc ∧ (cEm (cJn c s t) t).vn = c.vn ∧ (cEm (cJn c s t) t).vx = c.vx ∧ (cEm (cJn c s t) t).kd = c.kd ∧ (cEm (cJn c s t) t).ro = u1 c.ro t 0 ∧ (cEm (cJn c s t) t).he = u1 (u1 c.he s (c.he s + c.he t)) t 0 ∧ (cEm (cJn c s t) t).vs = u1 (u1 c.vs s (c.vs s + c.vs t)) t 0 ∧ (cEm (cJn c s t) t).hy = c.hy ∧ (cEm (cJn c s t) t).la = c.la ∧ (cEm (cJn c s t) t).tl = c.tl ∧ (cEm (cJn c s t) t).dp = c.dp ∧ (cEm (cJn c s t) t).pa = c.pa ∧ (cEm (cJn c s t) t).K = c.K ∧ (cEm (cJn c s t) t).ar = c.ar ∧ (cEm (cJn c s t) t).cn = c.cn ∧ (cEm (cJn c s t) t).lg = u1 (u1 c.lg s (c.lg s + c.lg t)) t 0 ∧ (cEm (cJn c s t) t).P = c.P ∧ (cEm (cJn c s t) t).ck = c.ck ∧ (cEm (cJn c s t) t).cz = c.cz ∧ (cEm (cJn c s t) t).l1 = c.l1 ∧ (cEm (cJn c s t) t).f1 = c.f1 ∧ (cEm (cJn c s t) t).nv = c.nv ∧ (cEm (cJn c s t) t).pu = c.pu ∧ (cEm (cJn c s t) t).st = c.st ∧ (cEm (cJn c s t) t).fk = c.fk ∧ (cEm (cJn c s t) t).fv = c.fv ∧ (cEm (cJn c s t) t).E = c.E ∧ (cEm (cJn c s t) t).N = c.N ∧ (cEm (cJn c s t) t).rO = c.rO ∧ (cEm (cJn c s t) t).rP = c.rP ∧ (cEm (cJn c s t) t).rT = c.rT ∧ (cEm (cJn c s t) t).rQ = c.rQ := ⟨rfl, rfl, rfl, rfl, rfl, rfl, rfl, rfl, rfl, rfl, rfl, rfl, rfl, rfl, rfl, rfl, rfl, rfl, rfl, rfl, rfl, rfl, rfl, rfl, rfl, rfl, rfl, rfl, rfl, rfl, rfl, rfl⟩
theorem HcSpu (c : CS) (v : Nat → Int32) : (c.spu v).cc = c.cc ∧ (c.spu v).vn = c.vn ∧ (c.spu v).vx = c.vx ∧ (c.spu v).kd = c.kd ∧ (c.spu v).ro = c.ro ∧ (c.spu v).he = c.he ∧ (c.spu v).vs = c.vs ∧ (c.spu v).hy = c.hy ∧ (c.spu v).la = c.la ∧ (c.spu v).tl = c.tl ∧ (c.spu v).dp = c.dp ∧ (c.spu v).pa = c.pa ∧ (c.spu v).K = c.K ∧ (c.spu v).ar = c.ar ∧ (c.spu v).cn = c.cn ∧ (c.spu v).lg = c.lg ∧ (c.spu v).P = c.P ∧ (c.spu v).ck = c.ck ∧ (c.spu v).cz = c.cz ∧ (c.spu v).l1 = c.l1 ∧ (c.spu v).f1 = c.f1 ∧ (c.spu v).nv = c.nv ∧ (c.spu v).pu = v ∧ (c.spu v).st = c.st ∧ (c.spu v).fk = c.fk ∧ (c.spu v).fv = c.fv ∧ (c.spu v).E = c.E ∧ (c.spu v).N = c.N ∧ (c.spu v).rO = c.rO ∧ (c.spu v).rP = c.rP ∧ (c.spu v).rT = c.rT ∧ (c.spu v).rQ = c.rQ := ⟨rfl, rfl, rfl, rfl, rfl, rfl, rfl, rfl, rfl, rfl, rfl, rfl, rfl, rfl, rfl, rfl, rfl, rfl, rfl, rfl, rfl, rfl, rfl, rfl, rfl, rfl, rfl, rfl, rfl, rfl, rfl, rfl⟩
theorem HcSro (c : CS) (v : Nat → Nat) : (c.sro v).cc = c.cc ∧ (c.sro v).vn = c.vn ∧ (c.sro v).vx = c.vx ∧ (c.sro v).kd = c.kd ∧ (c.sro v).ro = v ∧ (c.sro v).he = c.he ∧ (c.sro v).vs = c.vs ∧ (c.sro v).hy = c.hy ∧ (c.sro v).la = c.la ∧ (c.sro v).tl = c.tl ∧ (c.sro v).dp = c.dp ∧ (c.sro v).pa = c.pa ∧ (c.sro v).K = c.K ∧ (c.sro v).ar = c.ar ∧ (c.sro v).cn = c.cn ∧ (c.sro v).lg = c.lg ∧ (c.sro v).P = c.P ∧ (c.sro v).ck = c.ck ∧ (c.sro v).cz = c.cz ∧ (c.sro v).l1 = c.l1 ∧ (c.sro v).f1 = c.f1 ∧ (c.sro v).nv = c.nv ∧ (c.sro v).pu = c.pu ∧ (c.sro v).st = c.st ∧ (c.sro v).fk = c.fk ∧ (c.sro v).fv = c.fv ∧ (c.sro v).E = c.E ∧ (c.sro v).N = c.N ∧ (c.sro v).rO = c.rO ∧ (c.sro v).rP = c.rP ∧ (c.sro v).rT = c.rT ∧ (c.sro v).rQ = c.rQ := ⟨rfl, rfl, rfl, rfl, rfl, rfl, rfl, rfl, rfl, rfl, rfl, rfl, rfl, rfl, rfl, rfl, rfl, rfl, rfl, rfl, rfl, rfl, rfl, rfl, rfl, rfl, rfl, rfl, rfl, rfl, rfl, rfl⟩
theorem HmJ0 (m : MS) (v : Nat → Nat) (k : Nat) : ((m.ssp k).srt v).kd = m.kd ∧ ((m.ssp k).srt v).rt = v ∧ ((m.ssp k).srt v).pl = m.pl ∧ ((m.ssp k).srt v).nu = m.nu ∧ ((m.ssp k).srt v).cs = m.cs ∧ ((m.ssp k).srt v).it = m.it ∧ ((m.ssp k).srt v).nx = m.nx ∧ ((m.ssp k).srt v).K = m.K ∧ ((m.ssp k).srt v).E = m.E ∧ ((m.ssp k).srt v).nm = m.nm ∧ ((m.ssp k).srt v).fn = m.fn ∧ ((m.ssp k).srt v).im = m.im ∧ ((m.ssp k).srt v).fi = m.fi ∧ ((m.ssp k).srt v).se = m.se ∧ ((m.ssp k).srt v).P = m.P ∧ ((m.ssp k).srt v).ky = m.ky ∧ ((m.ssp k).srt v).lV = m.lV ∧ ((m.ssp k).srt v).fV = m.fV ∧ ((m.ssp k).srt v).pu = m.pu ∧ ((m.ssp k).srt v).st = m.st ∧ ((m.ssp k).srt v).sp = k ∧ ((m.ssp k).srt v).fk = m.fk ∧ ((m.ssp k).srt v).fv = m.fv ∧ ((m.ssp k).srt v).N = m.N ∧ ((m.ssp k).srt v).rO = m.rO ∧ ((m.ssp k).srt v).rP = m.rP ∧ ((m.ssp k).srt v).rT = m.rT ∧ ((m.ssp k).srt v).rQ = m.rQ := ⟨rfl, rfl, rfl, rfl, rfl, rfl, rfl, rfl, rfl, rfl, rfl, rfl, rfl, rfl, rfl, rfl, rfl, rfl, rfl, rfl, rfl, rfl, rfl, rfl, rfl, rfl, rfl, rfl⟩
theorem HmJ5 (m : MS) (v : Nat → Nat) (w : Nat → Int64) : ((m.srt v).spu w).kd = m.kd ∧ ((m.srt v).spu w).rt = v ∧ ((m.srt v).spu w).pl = m.pl ∧ ((m.srt v).spu w).nu = m.nu ∧ ((m.srt v).spu w).cs = m.cs ∧ ((m.srt v).spu w).it = m.it ∧ ((m.srt v).spu w).nx = m.nx ∧ ((m.srt v).spu w).K = m.K ∧ ((m.srt v).spu w).E = m.E ∧ ((m.srt v).spu w).nm = m.nm ∧ ((m.srt v).spu w).fn = m.fn ∧ ((m.srt v).spu w).im = m.im ∧ ((m.srt v).spu w).fi = m.fi ∧ ((m.srt v).spu w).se = m.se ∧ ((m.srt v).spu w).P = m.P ∧ ((m.srt v).spu w).ky = m.ky ∧ ((m.srt v).spu w).lV = m.lV ∧ ((m.srt v).spu w).fV = m.fV ∧ ((m.srt v).spu w).pu = w ∧ ((m.srt v).spu w).st = m.st ∧ ((m.srt v).spu w).sp = m.sp ∧ ((m.srt v).spu w).fk = m.fk ∧ ((m.srt v).spu w).fv = m.fv ∧ ((m.srt v).spu w).N = m.N ∧ ((m.srt v).spu w).rO = m.rO ∧ ((m.srt v).spu w).rP = m.rP ∧ ((m.srt v).spu w).rT = m.rT ∧ ((m.srt v).spu w).rQ = m.rQ := ⟨rfl, rfl, rfl, rfl, rfl, rfl, rfl, rfl, rfl, rfl, rfl, rfl, rfl, rfl, rfl, rfl, rfl, rfl, rfl, rfl, rfl, rfl, rfl, rfl, rfl, rfl, rfl, rfl⟩
theorem HmSsp (m : MS) (k : Nat) : (m.ssp k).kd = m.kd ∧ (m.ssp k).rt = m.rt ∧ (m.ssp k).pl = m.pl ∧ (m.ssp k).nu = m.nu ∧ (m.ssp k).cs = m.cs ∧ (m.ssp k).it = m.it ∧ (m.ssp k).nx = m.nx ∧ (m.ssp k).K = m.K ∧ (m.ssp k).E = m.E ∧ (m.ssp k).nm = m.nm ∧ (m.ssp k).fn = m.fn ∧ (m.ssp k).im = m.im ∧ (m.ssp k).fi = m.fi ∧ (m.ssp k).se = m.se ∧ (m.ssp k).P = m.P ∧ (m.ssp k).ky = m.ky ∧ (m.ssp k).lV = m.lV ∧ (m.ssp k).fV = m.fV ∧ (m.ssp k).pu = m.pu ∧ (m.ssp k).st = m.st ∧ (m.ssp k).sp = k ∧ (m.ssp k).fk = m.fk ∧ (m.ssp k).fv = m.fv ∧ (m.ssp k).N = m.N ∧ (m.ssp k).rO = m.rO ∧ (m.ssp k).rP = m.rP ∧ (m.ssp k).rT = m.rT ∧ (m.ssp k).rQ = m.rQ := ⟨rfl, rfl, rfl, rfl, rfl, rfl, rfl, rfl, rfl, rfl, rfl, rfl, rfl, rfl, rfl, rfl, rfl, rfl, rfl, rfl, rfl, rfl, rfl, rfl, rfl, rfl, rfl, rfl⟩
def JoinOK (L : Nat) (xs : Nat → Int32) (m : MS) (c : CS) (d : DS) (B : AH) (T z : Nat → Nat) (s t : Nat) : Prop :=
  ∃ (c4 : CS) (m4 : MS) (z' : Nat → Nat) (q δ : Nat), XM L xs 176 [.ref (d.sa (s + 1)), .ref (d.sa (t + 1))] (cl B d c) = some (cl B d (cEm (cJn c4 s t) t), none) ∧
    (∀ h, MB h → ∀ (w : SCT) (pr : Int32) (l5 : Value), ∃ l5' : Value, (if ¬ m.rt s = 0 then X L xs 88 176 [.ref 8, .int (nI s), .int (nI t), .int 0, .int pr, l5] [] (ml h ((m.ssp 0).sW w)) else X L xs 88 161 [.ref 8, .int (nI s), .int (nI t), .int 0, .int pr, l5] [] (ml h ((m.ssp 0).sW w))) = X L xs 88 214 [.ref 8, .int (nI s), .int (nI t), .int 0, .int pr, l5'] [] (ml h (m4.sW w))) ∧
    (c4.ro = u1 c.ro s q ∧ c4.la = c.la ∧ c4.st s = c.st s + nI δ ∧ (∀ r, r ≠ s → c4.st r = c.st r) ∧ δ ≤ 50000 ∧ c4.lg s + c.lg t = Sm (fun x => if T x = t + 1 then s + 1 else T x) (s + 1) (fun x => Nat.log2 (z' x)) ∧ (∀ r, r ≠ s → c4.lg r = c.lg r)) ∧
    (m4.rt = u1 m.rt s q ∧ m4.sp = δ ∧ BP m4.P) ∧
    (WF c4.P (fun x => if T x = t + 1 then s + 1 else T x) z' ∧ (∀ a, (T a = s + 1 ∨ T a = t + 1) → m4.P.1 a = c4.P.1 a ∧ m4.P.2.1 a = c4.P.2.1 a ∧ m4.P.2.2 a = c4.P.2.2 a ∧ c4.cz a = z' a) ∧ (∀ b, b ≠ 0 → T b ≠ s + 1 → T b ≠ t + 1 → m4.P.1 b = m.P.1 b ∧ m4.P.2.1 b = m.P.2.1 b ∧ m4.P.2.2 b = m.P.2.2 b) ∧ (∀ b, T b ≠ 0 → T b ≠ s + 1 → T b ≠ t + 1 → c4.P.1 b = c.P.1 b ∧ c4.P.2.1 b = c.P.2.1 b ∧ c4.P.2.2 b = c.P.2.2 b ∧ c4.cz b = c.cz b ∧ z' b = z b) ∧ (q ≠ 0 → (T q = s + 1 ∨ T q = t + 1) ∧ c4.P.2.2 q = 0) ∧ (∀ a, (T a = s + 1 ∨ T a = t + 1) → c4.P.2.2 a = 0 → a = q)) ∧
    (c4.cc = c.cc ∧ c4.vn = c.vn ∧ c4.vx = c.vx ∧ c4.kd = c.kd ∧ c4.he = c.he ∧ c4.vs = c.vs ∧ c4.hy = c.hy ∧ c4.tl = c.tl ∧ c4.dp = c.dp ∧ c4.pa = c.pa ∧ c4.K = c.K ∧ c4.ar = c.ar ∧ c4.cn = c.cn ∧ c4.ck = c.ck ∧ c4.l1 = c.l1 ∧ c4.f1 = c.f1 ∧ c4.nv = c.nv ∧ c4.pu = c.pu ∧ c4.fk = c.fk ∧ c4.fv = c.fv ∧ c4.E = c.E ∧ c4.N = c.N ∧ c4.rO = c.rO ∧ c4.rP = c.rP ∧ c4.rT = c.rT ∧ c4.rQ = c.rQ) ∧ m4.kd = m.kd ∧ m4.pl = m.pl ∧ m4.nu = m.nu ∧ m4.cs = m.cs ∧ m4.it = m.it ∧ m4.nx = m.nx ∧ m4.K = m.K ∧ m4.E = m.E ∧ m4.nm = m.nm ∧ m4.fn = m.fn ∧ m4.im = m.im ∧ m4.fi = m.fi ∧ m4.se = m.se ∧ m4.ky = m.ky ∧ m4.lV = m.lV ∧ m4.fV = m.fV ∧ m4.pu = m.pu ∧ m4.st = m.st ∧ m4.fk = m.fk ∧ m4.fv = m.fv ∧ m4.N = m.N ∧ m4.rO = m.rO ∧ m4.rP = m.rP ∧ m4.rT = m.rT ∧ m4.rQ = m.rQ
section Join
variable (L : Nat) (xs : Nat → Int32)
set_option maxHeartbeats 8000000 in
theorem join_mid {m : MS} {c : CS} {d : DS} {B : AH} {T z : Nat → Nat} {V R : Nat → List Nat} {FN FI : List Nat} {ow : Nat → Nat} (hj : JJ m c d B T z V R FN FI ow) {s t : Nat} (hs : s < m.K) (ht : t < m.K) (ks : m.kd s = 1) (kt : m.kd t = 1) (st : s ≠ t) : JoinOK L xs m c d B T z s t := by
  obtain ⟨jb, js, jt, jr, jp, jd, jv, ji, jf, jw, jh, jz, jl⟩ := id hj
  obtain ⟨h1, h2, h3, h4, h5, h6⟩ := hj.kin hs
  obtain ⟨t1, t2, t3, t4, t5, t6⟩ := hj.kin ht
  have hw := jb.2.2.2.2.2
  have hK := hj.K
  have hs40 : s < 40 := by omega
  have ht40 : t < 40 := by omega
  have κ0 : s + 1 ≠ 0 := Nat.succ_ne_zero s
  have τ0 : t + 1 ≠ 0 := Nat.succ_ne_zero t
  have kne : s + 1 ≠ t + 1 := by omega
  have ts : tg B (d.sa (s + 1)) = 7 := by rw [h6, ks]; rfl
  have tt : tg B (d.sa (t + 1)) = 7 := by rw [t6, kt]; rfl
  have ers : m.rt s = c.ro s := ((jr s hs).1 (by omega)).1
  have ert : m.rt t = c.ro t := ((jr t ht).1 (by omega)).1
  have ag : ∀ b, (T b = s + 1 ∨ T b = t + 1) → m.P.1 b = c.P.1 b ∧ m.P.2.1 b = c.P.2.1 b ∧ m.P.2.2 b = c.P.2.2 b ∧ c.cz b = z b := fun b hb => by
    have kb : m.kd (T b - 1) = 1 := by rcases hb with g | g <;> rw [g, Nat.add_sub_cancel] <;> assumption
    have tb : T b ≠ 0 := by rcases hb with g | g <;> rw [g] <;> assumption
    have p := jp.2 b tb
    exact ⟨p.1, p.2.1, p.2.2.2 (by omega), jz.2.1 b tb (by omega)⟩
  have lgs := (jz.1 s hs).2.2.1 ks
  have lgt := (jz.1 t ht).2.2.1 kt
  have hT' : TN (fun x => if T x = t + 1 then s + 1 else T x) := ⟨by show (if T 0 = t + 1 then s + 1 else T 0) = 0; rw [if_neg (by rw [jt.2.1.1]; exact Ne.symm τ0)]; exact jt.2.1.1, fun b hb => jt.2.1.2 b (fun g => by
    have hb : (if T b = t + 1 then s + 1 else T b) ≠ 0 := hb
    rw [if_neg (by rw [g]; exact Ne.symm τ0)] at hb
    exact hb g)⟩
  have iff' : ∀ b, (if T b = t + 1 then s + 1 else T b) = s + 1 ↔ (T b = s + 1 ∨ T b = t + 1) := fun b => by
    by_cases g : T b = t + 1
    · rw [if_pos g]; exact ⟨fun _ => Or.inr g, fun _ => rfl⟩
    · rw [if_neg g]; exact ⟨fun h => Or.inl h, fun h => h.resolve_right g⟩
  have bro : ∀ r, r < m.K → c.ro r ≤ 20002 := fun r hr => by
    rcases hj.rz hr with g | g
    · omega
    · exact jt.2.1.2 _ g
  by_cases r0 : c.ro s = 0
  · have emp := hj.emp hs r0
    have e176 := c176_0 L xs (b := B) hw h2 ts t2 tt c r0
    obtain ⟨c4, hc4⟩ : ∃ x, x = c.sro (u1 c.ro s (c.ro t)) := ⟨_, rfl⟩
    have g4 := HcSro c (u1 c.ro s (c.ro t))
    rw [← hc4] at g4 e176
    clear hc4
    obtain ⟨g4cc, g4vn, g4vx, g4kd, g4ro, g4he, g4vs, g4hy, g4la, g4tl, g4dp, g4pa, g4K, g4ar, g4cn, g4lg, g4P, g4ck, g4cz, g4l1, g4f1, g4nv, g4pu, g4st, g4fk, g4fv, g4E, g4N, g4rO, g4rP, g4rT, g4rQ⟩ := g4
    obtain ⟨m4, hm4⟩ : ∃ x, x = (m.ssp 0).srt (u1 m.rt s (c.ro t)) := ⟨_, rfl⟩
    have gm := HmJ0 m (u1 m.rt s (c.ro t)) 0
    rw [← hm4] at gm
    obtain ⟨gmkd, gmrt, gmpl, gmnu, gmcs, gmit, gmnx, gmK, gmE, gmnm, gmfn, gmim, gmfi, gmse, gmP, gmky, gmlV, gmfV, gmpu, gmst, gmsp, gmfk, gmfv, gmN, gmrO, gmrP, gmrT, gmrQ⟩ := gm
    have hWl : WF c.P (fun x => if T x = t + 1 then s + 1 else T x) z := WF.lab (f := rl s t) jt.1 (rl_0 s t)
    refine ⟨c4, m4, z, c.ro t, 0, e176, fun h hh w pr l5 => ⟨l5, ?_⟩, ⟨g4ro, g4la, by rw [g4st, nI_0, Int32.add_zero], fun r _ => by rw [g4st], by omega, ?_, fun r _ => by rw [g4lg]⟩, ⟨gmrt, gmsp, by rw [gmP]; exact jp.1⟩, ⟨by rw [g4P]; exact hWl, fun a ha => ?_, fun b _ _ _ => by rw [gmP]; exact ⟨rfl, rfl, rfl⟩, fun b _ _ _ => by rw [g4P, g4cz]; exact ⟨rfl, rfl, rfl, rfl, rfl⟩, fun q0 => ?_, fun a ha hu => ?_⟩, ⟨g4cc, g4vn, g4vx, g4kd, g4he, g4vs, g4hy, g4tl, g4dp, g4pa, g4K, g4ar, g4cn, g4ck, g4l1, g4f1, g4nv, g4pu, g4fk, g4fv, g4E, g4N, g4rO, g4rP, g4rT, g4rQ⟩, gmkd, gmpl, gmnu, gmcs, gmit, gmnx, gmK, gmE, gmnm, gmfn, gmim, gmfi, gmse, gmky, gmlV, gmfV, gmpu, gmst, gmfk, gmfv, gmN, gmrO, gmrP, gmrT, gmrQ⟩
    · obtain ⟨b1, b2, b3, b4⟩ := id hh
      rw [if_neg (fun q => q (by rw [ers]; exact r0)), k_88_161]
      simp only [Hml, b1, b2, b3, b4, HF10, gd_t, decide_true, Bool.and_self, HQ, HZ, inb_nI hs40 (by decide), nI_clamp (show s < 2 ^ 31 by omega), inb_nI ht40 (by decide), nI_clamp (show t < 2 ^ 31 by omega), ml_rt]
      rw [k_88_173]
      have e1 : ((m.ssp 0).sW w).srt (u1 ((m.ssp 0).sW w).rt s (((m.ssp 0).sW w).rt t)) = m4.sW w := by
        rw [hm4, ← ert]; rfl
      rw [e1]
    · rw [g4lg, lgs, lgt, Sm_two jt.2.1 κ0 τ0 kne κ0 hT' iff']
    · rw [gmP, g4P, g4cz]; exact ag a ha
    · rw [g4P]
      exact ⟨Or.inr ((jr t ht).2.2.1 q0).1, ((jr t ht).2.2.1 q0).2⟩
    · rw [g4P] at hu
      exact (jr t ht).2.2.2 a (ha.resolve_left (emp a)) hu
  · obtain ⟨tro, uro⟩ := (jr s hs).2.2.1 r0
    obtain ⟨r, hre⟩ : ∃ r, r = c.ro t := ⟨_, rfl⟩
    have tr : r ≠ 0 → T r = t + 1 ∧ c.P.2.2 r = 0 := fun g => by rw [hre] at g ⊢; exact (jr t ht).2.2.1 g
    obtain ⟨m1, hm1⟩ : ∃ x, x = m.ssp 0 := ⟨_, rfl⟩
    have g1 := HmSsp m 0
    rw [← hm1] at g1
    obtain ⟨g1kd, g1rt, g1pl, g1nu, g1cs, g1it, g1nx, g1K, g1E, g1nm, g1fn, g1im, g1fi, g1se, g1P, g1ky, g1lV, g1fV, g1pu, g1st, g1sp, g1fk, g1fv, g1N, g1rO, g1rP, g1rT, g1rQ⟩ := g1
    obtain ⟨e, he⟩ : ∃ e, e = (lR c.P 20003 (c.ro s)).1 := ⟨_, rfl⟩
    obtain ⟨k, hk⟩ : ∃ k, k = (lR c.P 20003 (c.ro s)).2 := ⟨_, rfl⟩
    have ek : lR c.P 20003 (c.ro s) = (e, k) := by rw [he, hk]
    obtain ⟨Qc, hQc⟩ : ∃ Q, Q = (tuF 20003 c.P e 0).1 := ⟨_, rfl⟩
    obtain ⟨tc, htc⟩ : ∃ t, t = (tuF 20003 c.P e 0).2 := ⟨_, rfl⟩
    have eQc : tuF 20003 c.P e 0 = (Qc, tc) := by rw [hQc, htc]
    obtain ⟨Qm, hQm⟩ : ∃ Q, Q = (tuF 20003 m1.P e (m1.sp + k)).1 := ⟨_, rfl⟩
    obtain ⟨tm, htm⟩ : ∃ t, t = (tuF 20003 m1.P e (m1.sp + k)).2 := ⟨_, rfl⟩
    have eQm : tuF 20003 m1.P e (m1.sp + k) = (Qm, tm) := by rw [hQm, htm]
    have hJN := JN (Pd := c.P) (Pc := c.P) (Pm := m1.P) (κ := s + 1) (κ2 := t + 1) (a := c.ro s) (r := r) jt.1 jt.2.1 κ0 τ0 kne tro uro tr (fun g => hj.emp ht (by rw [← hre]; exact g)) (fun b _ => ⟨rfl, rfl, rfl⟩) (fun b hb => by
      rw [g1P]
      obtain ⟨a1, a2, a3, -⟩ := ag b (Or.inl hb)
      exact ⟨a1, a2, a3⟩) (fun b _ => ⟨rfl, rfl, fun _ _ => rfl⟩) (fun b hb => by
      rw [g1P]
      obtain ⟨a1, a2, a3, -⟩ := ag b (Or.inr hb)
      exact ⟨a1, a2, fun _ => a3⟩) (fun x hx hu => (jr s hs).2.2.2 x hx hu) (fun x hx hu => by rw [hre]; exact (jr t ht).2.2.2 x hx hu) (m1.sp + k) ek eQc eQm
    obtain ⟨⟨j1, te, q1, j4, tcb, kb, hWc, hWm, er⟩, z', y1, y2, y3, y4, y5, y6, y7, y8, y9, y10⟩ := hJN
    have zr : z r ≤ 20002 := by
      have := hj.zle (a := r) (by rw [hre]; exact hj.rz ht)
      omega
    have trs : T r ≠ s + 1 := fun g => by
      by_cases g0 : r = 0
      · rw [g0, jt.2.1.1] at g; exact κ0 g.symm
      · rw [(tr g0).1] at g; exact kne g.symm
    obtain ⟨cF, cS, c4, e165, e172, e181, ero3, ⟨u1', u2, u3, u4, u5, u6, u7, u8, u9, u10⟩, us⟩ := c_jn L xs (B := B) (d := d) (s := s) (κ := s + 1) (G0 := 0) (a := c.ro s) (r := r) hw jb.2.2.2.1 h2 ts c κ0 jt.2.1 hWc (fun x hx => hj.hD x (Or.inr (by rw [hx]; exact κ0))) (hj.hD r (by rw [hre]; exact hj.rz ht)) tro trs (fun x hx => (ag x (Or.inl hx)).2.2.2) (fun g => (ag r (Or.inr (tr g).1)).2.2.2) zr (by rw [lgs, Nat.zero_add]) ek eQc te q1
    have e176 := c176_1 L xs (b := B) hw h2 ts t2 tt c (e := e) (c2 := cF) (c3 := cS) (c4 := c4) r0 (hj.hD _ (hj.rz hs)) e165 e172 (by rw [ero3, u1_o _ _ (Ne.symm st), ← hre]; exact e181)
    obtain ⟨m4, hm4⟩ : ∃ x, x = mJn m1 s e k r := ⟨_, rfl⟩
    have gm := HmJn m1 s e k r
    rw [← hm4, ← hQm, ← htm] at gm
    obtain ⟨gmkd, gmrt, gmpl, gmnu, gmcs, gmit, gmnx, gmK, gmE, gmnm, gmfn, gmim, gmfi, gmse, gmP, gmky, gmlV, gmfV, gmpu, gmst, gmsp, gmfk, gmfv, gmN, gmrO, gmrP, gmrT, gmrQ⟩ := gm
    obtain ⟨ucc, uvn, uvx, ukd, uhe, uvs, uhy, utl, udp, upa, uK, uar, ucn, uck, ul1, uf1, unv, upu, ufk, ufv, uE, uN, urO, urP, urT, urQ⟩ := us
    have te0 : T e ≠ 0 := by rw [te]; exact κ0
    have eb : e ≤ 20002 := jt.2.1.2 e te0
    have rb : r ≤ 20002 := by rw [hre]; exact bro t ht
    have bpQ : BP Qm := by
      have := BP_tuF eb 20003 m1.P (m1.sp + k) (by rw [g1P]; exact jp.1)
      rw [eQm] at this
      exact this
    have hTi : TN (ind T (s + 1)) := ⟨by unfold ind; rw [jt.2.1.1, if_neg (Ne.symm κ0)], fun b hb => jt.2.1.2 b (by rw [(ind_ne κ0 b).mp hb]; exact κ0)⟩
    have la0 : c.la s = 0 := jl.1 s hs (by omega)
    have nr : ∀ b, b ≠ 0 → T b ≠ t + 1 → b ≠ r := fun b b0 hb g => hb (by rw [g]; exact (tr (by rw [← g]; exact b0)).1)
    refine ⟨c4, m4, z', e, k + tc, e176, fun h hh w pr l5 => ⟨.int (en e), ?_⟩, ⟨u2, ?_, u4, u5, by omega, ?_, u10⟩, ⟨by rw [gmrt, g1rt], by rw [gmsp, j4, g1sp, Nat.zero_add], by rw [gmP]; exact BP_str bpQ eb rb⟩, ⟨by rw [u1']; exact y1, fun a ha => ?_, fun b b0 hb1 hb2 => ?_, fun b tb hb1 hb2 => ?_, fun _ => ?_, fun a ha hu => ?_⟩, ⟨ucc, uvn, uvx, ukd, uhe, uvs, uhy, utl, udp, upa, uK, uar, ucn, uck, ul1, uf1, unv, upu, ufk, ufv, uE, uN, urO, urP, urT, urQ⟩, gmkd.trans g1kd, gmpl.trans g1pl, gmnu.trans g1nu, gmcs.trans g1cs, gmit.trans g1it, gmnx.trans g1nx, gmK.trans g1K, gmE.trans g1E, gmnm.trans g1nm, gmfn.trans g1fn, gmim.trans g1im, gmfi.trans g1fi, gmse.trans g1se, gmky.trans g1ky, gmlV.trans g1lV, gmfV.trans g1fV, gmpu.trans g1pu, gmst.trans g1st, gmfk.trans g1fk, gmfv.trans g1fv, gmN.trans g1N, gmrO.trans g1rO, gmrP.trans g1rP, gmrT.trans g1rT, gmrQ.trans g1rQ⟩
    · obtain ⟨b1, b2, b3, b4⟩ := id hh
      rw [if_pos (by rw [ers]; exact r0), k_88_176]
      have eP1 : (m1.sW w).P = m1.P := rfl
      have e79 := m_79 L xs hh (m1.sW w) (up := m1.P.2.2) (T := ind T (s + 1)) (z := z) hWm hTi (n := c.ro s) ((ind_ne κ0 _).mpr tro)
      rw [eP1, j1] at e79
      have e79 : XM L xs 79 [.ref 8, .int (en (c.ro s))] (ml h (m1.sW w)) = some (ml h ((m1.ssp (m1.sp + k)).sW w), some (.int (en e))) := e79
      have e70 := m_70 L xs hh ((m1.ssp (m1.sp + k)).sW w) (S := ind T (s + 1)) (z := z) hWm hTi.2 (by show BP m1.P; rw [g1P]; exact jp.1) (n := e) ((ind_ne κ0 _).mpr te)
      obtain ⟨m2, hm2⟩ : ∃ x, x = mUp ((m1.ssp (m1.sp + k)).sW w) e := ⟨_, rfl⟩
      rw [← hm2] at e70
      have rt2 : m2.rt = m1.rt := by rw [hm2]; rfl
      have e68 := m_68' L xs hh (m2.srt (u1 m2.rt s e)) (p := e) (c := r) (by have := jt.1.n0 te0; omega) eb rb
      have er1 : m.rt t = r := by rw [ert, hre]
      rw [← hm1]
      have ers' : m1.rt s = c.ro s := by rw [g1rt, ers]
      simp only [Hml, b1, b2, b3, b4, HF10, gd_t, decide_true, Bool.and_self, HQ, HZ, SWq, inb_nI hs40 (by decide), nI_clamp (show s < 2 ^ 31 by omega), ers', cc_9_206_10, e79, bI_s, cc_9_143_10, e70, bV_s, ml_rt]
      rw [k_88_202]
      have er2 : (m2.srt (u1 m2.rt s e)).rt t = r := by
        show u1 m2.rt s e t = r
        rw [u1_o _ _ (Ne.symm st), rt2, g1rt, er1]
      simp only [Hml, b1, b2, b3, b4, HF10, gd_t, decide_true, Bool.and_self, HQ, HZ, inb_nI ht40 (by decide), nI_clamp (show t < 2 ^ 31 by omega), er2, cc_9_137_10, e68, bV_s]
      have e1 : (m2.srt (u1 m2.rt s e)).sP (str (m2.srt (u1 m2.rt s e)).P e r) = m4.sW w := by
        rw [hm4, hm2]; rfl
      rw [e1]
    · rw [u3, ← la0, u1_id]
    · rw [lgt]
      omega
    · rw [gmP, u1']
      obtain ⟨v1, v2, v3⟩ := y5 a ha
      refine ⟨v1, v2, v3, ?_⟩
      rcases ha with g | g
      · by_cases g2 : a = e
        · rw [g2, u8, y4]
        · rw [u7 a g g2, y3 a g g2]
      · have hne : T a ≠ s + 1 := by rw [g]; exact Ne.symm kne
        rw [u6 a hne, y2 a hne]
        exact (ag a (Or.inr g)).2.2.2
    · obtain ⟨v1, v2, v3⟩ := y7 b hb1
      rw [gmP, v1, v2, v3 (nr b b0 hb2), g1P]
      exact ⟨rfl, rfl, rfl⟩
    · obtain ⟨v1, v2, v3⟩ := y6 b hb1
      rw [u1', v1, v2, v3 (nr b (jt.1.n0 tb) hb2), u6 b hb1]
      exact ⟨rfl, rfl, rfl, rfl, y2 b hb1⟩
    · rw [u1']; exact ⟨Or.inl te, y8⟩
    · rw [u1'] at hu
      exact y9 a ha hu
end Join
