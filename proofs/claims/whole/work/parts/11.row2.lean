-- rows over Rep: new cells, arrays, classes
theorem tg_mk {h : AH} {t l n : Nat} : tg (mk h t l n) (nn h + 1) = t := by show (if nn h + 1 = nn h + 1 then t else _) = _; rw [if_pos rfl]
theorem ln_mk {h : AH} {t l n : Nat} : ln (mk h t l n) (nn h + 1) = l := by show (if nn h + 1 = nn h + 1 then l else _) = _; rw [if_pos rfl]
theorem eI_mk {h : AH} {t l n : Nat} : eI (mk h t l n) (nn h + 1) = fun _ => 0 := by funext i; show (if nn h + 1 = nn h + 1 then (0 : Int32) else _) = _; rw [if_pos rfl]
theorem eL_mk {h : AH} {t l n : Nat} : eL (mk h t l n) (nn h + 1) = fun _ => 0 := by funext i; show (if nn h + 1 = nn h + 1 then (0 : Int64) else _) = _; rw [if_pos rfl]
theorem eR_mk {h : AH} {t l n : Nat} : eR (mk h t l n) (nn h + 1) = fun _ => 0 := by funext i; show (if nn h + 1 = nn h + 1 then (0 : Nat) else _) = _; rw [if_pos rfl]
theorem fI_mk {h : AH} {t l n f : Nat} : fI (mk h t l n) f (nn h + 1) = 0 := by show (if nn h + 1 = nn h + 1 then (0 : Int32) else _) = _; rw [if_pos rfl]
theorem fL_mk {h : AH} {t l n f : Nat} : fL (mk h t l n) f (nn h + 1) = 0 := by show (if nn h + 1 = nn h + 1 then (0 : Int64) else _) = _; rw [if_pos rfl]
theorem fR_mk {h : AH} {t l n f : Nat} : fR (mk h t l n) f (nn h + 1) = 0 := by show (if nn h + 1 = nn h + 1 then (0 : Nat) else _) = _; rw [if_pos rfl]
theorem op_nw (base : Nat) (h : AH) : va_rf (op base (nn h + 1)) = .ref (base + nn h + 1) := by
  unfold op
  rw [if_neg (by omega)]
  rfl
theorem inb_in {i : Int32} {n : Nat} (h : inb i n = true) : vp_in i n := by
  simp only [inb, decide_eq_true_eq] at h
  exact vp_in_iff.mpr h
theorem n_pos {n : Int32} (h : 0 ≤ n.toInt ∧ n.toInt ≤ 1000000) : ¬ n < 0 ∧ n.toNatClampNeg ≤ 1000000 := by
  refine ⟨fun q => ?_, ?_⟩
  · rw [Int32.lt_iff_toInt_lt, Int32.toInt_zero] at q
    omega
  · have : n.toNatClampNeg = n.toInt.toNat := rfl
    rw [this]
    omega
section Rows2
variable {p : Program} {l : Launch} {e : Env} {R : Room} {s : State} {m : MethodId} {args : Array Value} {below : List Frame} {meth : Method} {c : Code} {H H0 : Heap} {locs : List Loc} {cells slots : Nat} {Q : State → Prop}
variable {cc : ByteArray} {pc : Nat} {ls : Array Slot} {rest : List Value} {D : va_G} {A : AC} {base : Nat} {h : AH}
theorem y_Sn {H1 : Heap} (hS : va_S (fun q => base < q) H0 H locs) (z : H1.size = H.size + 1) (oq : ∀ q, q < H.size → H1[q]? = H[q]?) : va_S (fun q => base < q) H0 H1 locs :=
  ⟨Nat.le_trans hS.1 (by omega), fun x h1 h2 => (oq x (Nat.lt_of_lt_of_le h1 hS.1)).trans (hS.2.1 x h1 h2), hS.2.2⟩
theorem y_new (hexec : p.tables.exec = Jvm.exec) (hb : c.code = cc) (hsw : SW D A s) {own idx ci pos : Nat} (hown : s.vm.findClass (xcl own) = some m.cls) (hcp : cpC own idx = some (ci, pos)) (hci : ci < 10) (r : Rep base D A h H) (hS : va_S (fun q => base < q) H0 H locs)
    (hcells : cells + 1 ≤ R.cells) (hslots : slots + (ctab ci).length ≤ R.slots) (hdg : decode cc pc = .ok (.new idx, 3))
    (kk : ∀ H1, Rep base D A (mk h (ci + 1) 0 (ctab ci).length) H1 → va_S (fun q => base < q) H0 H1 locs → W p l e R s m args below meth c H1 locs (cells + 1) (slots + (ctab ci).length) Q (F0 m (pc + 3) ls (va_rf (op base (nn h + 1)) :: rest))) : W p l e R s m args below meth c H locs cells slots Q (F0 m pc ls rest) := by
  have hk := cpC_ok hcp
  simp only [kC] at hk
  have hi := List.all_eq_true.mp kI_ok ci (List.mem_range.mpr hci)
  simp only [kI, Bool.and_eq_true] at hi
  have hK := hsw.2.2.2.2.2.2
  have hKn := hK.1 ci _ (cl_ok ci hci)
  refine W.newcK hexec hb hown (hsw.wd hk args) (hsw.wd hi.1 args) (hsw.wd hi.2 args) rfl hdg hcells hslots hKn.2.1 r.1 fun H1 kC hkC e1 z1 o1 => ?_
  have key := kk H1 (r.nw (by rw [r.1]; exact z1) (fun q hq => o1 q (by rw [← r.1]; exact hq)) ?_) (y_Sn hS (by rw [r.1]; exact z1) (fun q hq => o1 q (by rw [← r.1]; exact hq)))
  · rw [op_nw] at key
    exact key
  · rw [ce_obj tg_mk hci]
    refine ⟨_, cl_ok ci hci, (u_born (tyC ci) (hsw.ws args) (ls_g hci) hKn hkC e1 (ty_ok ci hci)).to (fun j hj => ?_)⟩
    show defaultValue (ftF ((ctab ci).getD j 0)) = ((ctab ci).map _).getD j .null
    rw [List.getD_eq_getElem?_getD (l := List.map _ _), List.getElem?_map, List.getElem?_eq_getElem hj]
    have hf := fk_ok ci hci j hj
    rw [List.getD_eq_getElem?_getD, List.getElem?_eq_getElem hj] at hf ⊢
    simp only [Option.getD_some, Option.map_some] at hf ⊢
    generalize (ctab ci)[j] = f at hf
    unfold fv
    rcases hf with ⟨f1, f2⟩ | ⟨f1, f2⟩ | ⟨f1, f2⟩
    · rw [f1, f2, fI_mk]; rfl
    · rw [f1, f2, fL_mk]; rfl
    · rw [f1, fR_mk]
      cases hz : ftF f with
      | object n => rfl
      | array t => rfl
      | _ => rw [hz] at f2; cases f2
theorem y_newi (hexec : p.tables.exec = Jvm.exec) (hb : c.code = cc) (hsw : SW D A s) (harr : (Cond.arrayClass .int).before args s = true) (r : Rep base D A h H) (hS : va_S (fun q => base < q) H0 H locs) {n : Int32} (hn : 0 ≤ n.toInt ∧ n.toInt ≤ 1000000)
    (hcells : cells + 1 ≤ R.cells) (hslots : slots + n.toNatClampNeg ≤ R.slots) (hdg : decode cc pc = .ok (.newarray .int, 2))
    (kk : ∀ H1, Rep base D A (mk h 20 n.toNatClampNeg n.toNatClampNeg) H1 → va_S (fun q => base < q) H0 H1 locs → W p l e R s m args below meth c H1 locs (cells + 1) (slots + n.toNatClampNeg) Q (F0 m (pc + 2) ls (va_rf (op base (nn h + 1)) :: rest))) : W p l e R s m args below meth c H locs cells slots Q (F0 m pc ls (.int n :: rest)) := by
  obtain ⟨n1, n2⟩ := n_pos hn
  have hK := hsw.2.2.2.2.2.2
  refine va_newaK (atype := .int) hexec hb harr rfl hdg rfl n1 rfl (by show _ * 4 ≤ _; omega) hcells hslots r.1 fun H1 cA e1 z1 o1 _ hc => ?_
  have hA : cA = A.1 := Option.some.inj (hc.symm.trans (hK.2 0 _ rfl).2)
  subst hA
  have key := kk H1 (r.nw (by rw [r.1]; exact z1) (fun q hq => o1 q (by rw [← r.1]; exact hq)) ?_) (y_Sn hS (by rw [r.1]; exact z1) (fun q hq => o1 q (by rw [← r.1]; exact hq)))
  · rw [op_nw] at key
    exact key
  · rw [ce_i tg_mk, ln_mk, eI_mk]
    exact e1
theorem y_newl (hexec : p.tables.exec = Jvm.exec) (hb : c.code = cc) (hsw : SW D A s) (harr : (Cond.arrayClass .long).before args s = true) (r : Rep base D A h H) (hS : va_S (fun q => base < q) H0 H locs) {n : Int32} (hn : 0 ≤ n.toInt ∧ n.toInt ≤ 1000000)
    (hcells : cells + 1 ≤ R.cells) (hslots : slots + n.toNatClampNeg ≤ R.slots) (hdg : decode cc pc = .ok (.newarray .long, 2))
    (kk : ∀ H1, Rep base D A (mk h 21 n.toNatClampNeg n.toNatClampNeg) H1 → va_S (fun q => base < q) H0 H1 locs → W p l e R s m args below meth c H1 locs (cells + 1) (slots + n.toNatClampNeg) Q (F0 m (pc + 2) ls (va_rf (op base (nn h + 1)) :: rest))) : W p l e R s m args below meth c H locs cells slots Q (F0 m pc ls (.int n :: rest)) := by
  obtain ⟨n1, n2⟩ := n_pos hn
  have hK := hsw.2.2.2.2.2.2
  refine va_newaK (atype := .long) hexec hb harr rfl hdg rfl n1 rfl (by show _ * 8 ≤ _; omega) hcells hslots r.1 fun H1 cA e1 z1 o1 _ hc => ?_
  have hA : cA = A.2.1 := Option.some.inj (hc.symm.trans (hK.2 1 _ rfl).2)
  subst hA
  have key := kk H1 (r.nw (by rw [r.1]; exact z1) (fun q hq => o1 q (by rw [← r.1]; exact hq)) ?_) (y_Sn hS (by rw [r.1]; exact z1) (fun q hq => o1 q (by rw [← r.1]; exact hq)))
  · rw [op_nw] at key
    exact key
  · rw [ce_l tg_mk, ln_mk, eL_mk]
    exact e1
theorem y_newr (hexec : p.tables.exec = Jvm.exec) (hb : c.code = cc) (hsw : SW D A s) {own idx pos : Nat} (hown : s.vm.findClass (xcl own) = some m.cls) (hcp : cpC own idx = some (10, pos)) (r : Rep base D A h H) (hS : va_S (fun q => base < q) H0 H locs) {n : Int32} (hn : 0 ≤ n.toInt ∧ n.toInt ≤ 1000000)
    (hcells : cells + 1 ≤ R.cells) (hslots : slots + n.toNatClampNeg ≤ R.slots) (hdg : decode cc pc = .ok (.anewarray idx, 3))
    (kk : ∀ H1, Rep base D A (mk h 22 n.toNatClampNeg n.toNatClampNeg) H1 → va_S (fun q => base < q) H0 H1 locs → W p l e R s m args below meth c H1 locs (cells + 1) (slots + n.toNatClampNeg) Q (F0 m (pc + 3) ls (va_rf (op base (nn h + 1)) :: rest))) : W p l e R s m args below meth c H locs cells slots Q (F0 m pc ls (.int n :: rest)) := by
  obtain ⟨n1, n2⟩ := n_pos hn
  have hK := hsw.2.2.2.2.2.2
  have hk := cpC_ok hcp
  simp only [kC] at hk
  refine W.anew (C := "StepPurse$Structure") hexec hb hown (hsw.wd hk args) (va_AO.use hsw.2.2.2.2.2.1) rfl hdg rfl n1 (by omega) hcells hslots fun cA kA comp f1 f2 f3 f4 => ?_
  obtain ⟨_, _, _, _, _, g4⟩ := (hK.2 2 _ rfl).2
  have hA : cA = A.2.2 := Option.some.inj (f1.symm.trans g4)
  subst hA
  generalize hH1 : H.push ({ cls := A.2.2, slots := Array.replicate n.toNatClampNeg .null, vm := .none } : Cell) = H1
  have z1 : H1.size = H.size + 1 := by rw [← hH1, Array.size_push]
  have e1 : H1[H.size]? = some (arrV A.2.2 n.toNatClampNeg (fun _ => .null)) := by rw [← hH1, Array.getElem?_push_size, ← arrV_new]
  have o1 : ∀ q : Nat, q < H.size → H1[q]? = H[q]? := fun q hq => by rw [← hH1, Array.getElem?_push, if_neg (Nat.ne_of_lt hq)]
  have key := kk H1 (r.nw z1 o1 ?_) (y_Sn hS z1 o1)
  · rw [op_nw, ← r.1] at key
    exact key
  · rw [ce_r tg_mk, ln_mk, eR_mk]
    rw [r.1] at e1
    exact e1
theorem y_one {q : Nat} {x : va_E} (h : va_at D xclasses (q, x) H) : va_P D xclasses [(q, x)] H := by
  intro j z hj
  cases j with
  | zero => cases hj; exact h
  | succ j => cases hj
theorem y_iald (hexec : p.tables.exec = Jvm.exec) (hb : c.code = cc) (hsw : SW D A s) (r : Rep base D A h H) {a : Nat} (ht : tg h a = 20) {i : Int32} (hi : inb i (ln h a) = true) (hdg : decode cc pc = .ok (.iaload, 1))
    (kk : W p l e R s m args below meth c H locs cells slots Q (F0 m (pc + 1) ls (.int (eI h a i.toNatClampNeg) :: rest))) : W p l e R s m args below meth c H locs cells slots Q (F0 m pc ls (.int i :: va_rf (op base a) :: rest)) := by
  rw [r.pos (by omega)]
  have hat := r.cell (a := a) (by omega)
  rw [ce_i ht] at hat
  exact va_iald hexec hb hsw.2.2.2.2.2.2 (y_one hat) 0 0 rfl rfl (inb_in hi) hdg kk
theorem y_lald (hexec : p.tables.exec = Jvm.exec) (hb : c.code = cc) (hsw : SW D A s) (r : Rep base D A h H) {a : Nat} (ht : tg h a = 21) {i : Int32} (hi : inb i (ln h a) = true) (hdg : decode cc pc = .ok (.laload, 1))
    (kk : W p l e R s m args below meth c H locs cells slots Q (F0 m (pc + 1) ls (.long (eL h a i.toNatClampNeg) :: rest))) : W p l e R s m args below meth c H locs cells slots Q (F0 m pc ls (.int i :: va_rf (op base a) :: rest)) := by
  rw [r.pos (by omega)]
  have hat := r.cell (a := a) (by omega)
  rw [ce_l ht] at hat
  exact va_lald hexec hb hsw.2.2.2.2.2.2 (y_one hat) 0 1 rfl rfl (inb_in hi) hdg kk
theorem y_aald (hexec : p.tables.exec = Jvm.exec) (hb : c.code = cc) (hsw : SW D A s) (r : Rep base D A h H) {a : Nat} (ht : tg h a = 22) {i : Int32} (hi : inb i (ln h a) = true) (hdg : decode cc pc = .ok (.aaload, 1))
    (kk : W p l e R s m args below meth c H locs cells slots Q (F0 m (pc + 1) ls (va_rf (op base (eR h a i.toNatClampNeg)) :: rest))) : W p l e R s m args below meth c H locs cells slots Q (F0 m pc ls (.int i :: va_rf (op base a) :: rest)) := by
  rw [r.pos (by omega)]
  have hat := r.cell (a := a) (by omega)
  rw [ce_r ht] at hat
  exact va_aldq hexec hb hsw.2.2.2.2.2.2 (y_one hat) 0 2 rfl rfl (inb_in hi) hdg kk
theorem y_alen (hexec : p.tables.exec = Jvm.exec) (hb : c.code = cc) (hsw : SW D A s) (r : Rep base D A h H) {a : Nat} (ht : isA (tg h a) = true) (hdg : decode cc pc = .ok (.arraylength, 1))
    (kk : W p l e R s m args below meth c H locs cells slots Q (F0 m (pc + 1) ls (.int (Int32.ofNat (ln h a)) :: rest))) : W p l e R s m args below meth c H locs cells slots Q (F0 m pc ls (va_rf (op base a) :: rest)) := by
  simp only [isA, decide_eq_true_eq] at ht
  rw [r.pos (by omega)]
  have hat := r.cell (a := a) (by omega)
  have : tg h a = 20 ∨ tg h a = 21 ∨ tg h a = 22 := by omega
  rcases this with t | t | t
  · rw [ce_i t] at hat
    exact va_alen hexec hb hsw.2.2.2.2.2.2 (y_one hat) 0 0 rfl rfl rfl hdg kk
  · rw [ce_l t] at hat
    exact va_alen hexec hb hsw.2.2.2.2.2.2 (y_one hat) 0 1 rfl rfl rfl hdg kk
  · rw [ce_r t] at hat
    exact va_alen hexec hb hsw.2.2.2.2.2.2 (y_one hat) 0 2 rfl rfl rfl hdg kk
theorem y_iast (hexec : p.tables.exec = Jvm.exec) (hb : c.code = cc) (hsw : SW D A s) (r : Rep base D A h H) (hS : va_S (fun q => base < q) H0 H locs) {a : Nat} (ht : tg h a = 20) {i x : Int32} (hi : inb i (ln h a) = true) (hdg : decode cc pc = .ok (.iastore, 1))
    (kk : ∀ H1 locs1, Rep base D A (sI h a i.toNatClampNeg x) H1 → va_S (fun q => base < q) H0 H1 locs1 → W p l e R s m args below meth c H1 locs1 cells slots Q (F0 m (pc + 1) ls rest)) : W p l e R s m args below meth c H locs cells slots Q (F0 m pc ls (.int x :: .int i :: va_rf (op base a) :: rest)) := by
  rw [r.pos (by omega)]
  have hat := r.cell (a := a) (by omega)
  rw [ce_i ht] at hat
  have hin := inb_in hi
  refine W.iast hexec hb hat ((hsw.2.2.2.2.2.2.2 0 _ rfl).1 (ln h a) (fun j => .int (eI h a j))) (fun q => by cases q) (by show ¬ (i < 0 ∨ (arrV _ _ _).slots.size ≤ _); rw [arrV_size]; exact hin) rfl rfl hdg fun H1 e1 z oq => ?_
  refine kk H1 _ (r.sto (h2 := sI h a i.toNatClampNeg x) (a := a) rfl rfl z oq (fun y hy => u2_row hy) (fun y hy => rfl) (fun y hy => rfl) ?_) (y_S hS (r.2.2 a (by omega)).1 z oq)
  rw [ce_i (h := sI h a i.toNatClampNeg x) ht]
  show H1[base + a]? = some (vp_cell _ _)
  rw [e1]
  rw [vp_cell_i, vp_cell_i, arrV_store]
  congr 2
  funext q
  show updV _ _ _ _ = Value.int (u2 h.2.1.1 a i.toNatClampNeg x a q)
  by_cases hq : q = i.toNatClampNeg
  · subst hq
    rw [u2_eq]
    simp [updV]
  · rw [u2_ne (fun z => hq z.2)]
    simp [updV, hq, eI]
theorem y_last (hexec : p.tables.exec = Jvm.exec) (hb : c.code = cc) (hsw : SW D A s) (r : Rep base D A h H) (hS : va_S (fun q => base < q) H0 H locs) {a : Nat} (ht : tg h a = 21) {i : Int32} {x : Int64} (hi : inb i (ln h a) = true) (hdg : decode cc pc = .ok (.lastore, 1))
    (kk : ∀ H1 locs1, Rep base D A (sL h a i.toNatClampNeg x) H1 → va_S (fun q => base < q) H0 H1 locs1 → W p l e R s m args below meth c H1 locs1 cells slots Q (F0 m (pc + 1) ls rest)) : W p l e R s m args below meth c H locs cells slots Q (F0 m pc ls (.long x :: .int i :: va_rf (op base a) :: rest)) := by
  rw [r.pos (by omega)]
  have hat := r.cell (a := a) (by omega)
  rw [ce_l ht] at hat
  have hin := inb_in hi
  refine W.last hexec hb hat ((hsw.2.2.2.2.2.2.2 1 _ rfl).1 (ln h a) (fun j => .long (eL h a j))) (fun q => by cases q) (by show ¬ (i < 0 ∨ (arrV _ _ _).slots.size ≤ _); rw [arrV_size]; exact hin) rfl rfl hdg fun H1 e1 z oq => ?_
  refine kk H1 _ (r.sto (h2 := sL h a i.toNatClampNeg x) (a := a) rfl rfl z oq (fun y hy => rfl) (fun y hy => u2_row hy) (fun y hy => rfl) ?_) (y_S hS (r.2.2 a (by omega)).1 z oq)
  rw [ce_l (h := sL h a i.toNatClampNeg x) ht]
  show H1[base + a]? = some (vp_cell _ _)
  rw [e1]
  rw [vp_cell_l, vp_cell_l, arrV_store]
  congr 2
  funext q
  show updV _ _ _ _ = Value.long (u2 h.2.1.2.1 a i.toNatClampNeg x a q)
  by_cases hq : q = i.toNatClampNeg
  · subst hq
    rw [u2_eq]
    simp [updV]
  · rw [u2_ne (fun z => hq z.2)]
    simp [updV, hq, eL]
theorem tag_obj {t c r : Nat} (h : ins c t = some r) : ∃ ci, t = ci + 1 ∧ (xcl ci, xcl c) ∈ (if r = 1 then castL else ncL) ∧ (r = 1 ∨ r = 0) := by
  have hk := ins_ok h
  simp only [kN, Bool.and_eq_true, Bool.or_eq_true, decide_eq_true_eq] at hk
  refine ⟨t - 1, by omega, ?_, ?_⟩
  · rcases hk.2 with q | q
    · rw [if_pos q.1]; exact q.2
    · rw [if_neg (by omega)]; exact q.2
  · rcases hk.2 with q | q
    · exact Or.inl q.1
    · exact Or.inr q.1
theorem insT_lt {c t r : Nat} (h : ins c t = some r) : 1 ≤ t ∧ t ≤ 10 := by
  have h1 := lkp_in h
  have : (List.range 14).all (fun c => (insT.getD c []).all (fun q => decide (1 ≤ q.1 ∧ q.1 ≤ 10))) = true := by decide +kernel
  exact of_decide_eq_true (List.all_eq_true.mp (List.all_eq_true.mp this c (List.mem_range.mpr (getD_lt h1))) _ h1)
theorem y_recv (hsw : SW D A s) (r : Rep base D A h H) {a ci : Nat} (ht : tg h a = ci + 1) (hci : ci < 10) : ∃ cell : Cell, H[base + a]? = some cell ∧ cell.vm.isStatics = false ∧ s.vm.findClass (xcl ci) = some cell.cls := by
  have hat := r.cell (a := a) (by omega)
  rw [ce_obj ht hci] at hat
  exact va_recv hsw.2.2.2.2.2.2 (y_one hat) (cl_ok ci hci) (q0 := 0) rfl
theorem y_inst (hexec : p.tables.exec = Jvm.exec) (hb : c.code = cc) (hsw : SW D A s) {own idx ci pos : Nat} (hown : s.vm.findClass (xcl own) = some m.cls) (hcp : cpC own idx = some (ci, pos)) (r : Rep base D A h H) {a z : Nat} (hi : ins ci (tg h a) = some z) (hdg : decode cc pc = .ok (.instanceof idx, 3))
    (kk : W p l e R s m args below meth c H locs cells slots Q (F0 m (pc + 3) ls (.int (if z = 1 then 1 else 0) :: rest))) : W p l e R s m args below meth c H locs cells slots Q (F0 m pc ls (va_rf (op base a) :: rest)) := by
  have hk := cpC_ok hcp
  simp only [kC] at hk
  obtain ⟨cj, ht, hm, hz⟩ := tag_obj hi
  have hlt := insT_lt hi
  rw [r.pos (by omega)]
  have hr := y_recv hsw r ht (by omega)
  rcases hz with rfl | rfl
  · exact va_instY hexec hb hown (hsw.wd hk args) (hsw.2.2.2.1 _ hm) hr hdg kk
  · exact va_instNo hexec hb hown (hsw.wd hk args) (hsw.2.2.2.2.1 _ hm) hr hdg kk
theorem y_cast (hexec : p.tables.exec = Jvm.exec) (hb : c.code = cc) (hsw : SW D A s) {own idx ci pos : Nat} (hown : s.vm.findClass (xcl own) = some m.cls) (hcp : cpC own idx = some (ci, pos)) (r : Rep base D A h H) {a : Nat} (hi : ins ci (tg h a) = some 1) (hdg : decode cc pc = .ok (.checkcast idx, 3))
    (kk : W p l e R s m args below meth c H locs cells slots Q (F0 m (pc + 3) ls (va_rf (op base a) :: rest))) : W p l e R s m args below meth c H locs cells slots Q (F0 m pc ls (va_rf (op base a) :: rest)) := by
  have hk := cpC_ok hcp
  simp only [kC] at hk
  obtain ⟨cj, ht, hm, hz⟩ := tag_obj hi
  have hlt := insT_lt hi
  rw [r.pos (by omega)] at kk ⊢
  exact va_castY hexec hb hown (hsw.wd hk args) (hsw.2.2.2.1 _ hm) (y_recv hsw r ht (by omega)) hdg kk
theorem y_aast (hexec : p.tables.exec = Jvm.exec) (hb : c.code = cc) (hsw : SW D A s) (r : Rep base D A h H) (hS : va_S (fun q => base < q) H0 H locs) {a x : Nat} (ht : tg h a = 22) {i : Int32} (hi : inb i (ln h a) = true) (hx : ins 10 (tg h x) = some 1) (hdg : decode cc pc = .ok (.aastore, 1))
    (kk : ∀ H1 locs1, Rep base D A (sR h a i.toNatClampNeg x) H1 → va_S (fun q => base < q) H0 H1 locs1 → W p l e R s m args below meth c H1 locs1 cells slots Q (F0 m (pc + 1) ls rest)) : W p l e R s m args below meth c H locs cells slots Q (F0 m pc ls (va_rf (op base x) :: .int i :: va_rf (op base a) :: rest)) := by
  obtain ⟨cj, htx, hm, hz⟩ := tag_obj hx
  have hltx := insT_lt hx
  rw [r.pos (a := a) (by omega), r.pos (a := x) (by omega)]
  have hat := r.cell (a := a) (by omega)
  rw [ce_r ht] at hat
  have hin := inb_in hi
  have hlt : i.toNatClampNeg < ln h a := Nat.not_le.mp fun q => hin (Or.inr q)
  have h0 : ¬ i < 0 := fun q => hin (Or.inl q)
  have hax := r.cell (a := x) (by omega)
  rw [ce_obj htx (by omega)] at hax
  have hK := hsw.2.2.2.2.2.2
  have hcj : cj < 10 := by omega
  obtain ⟨r', hr', cellV, g1, g2, g3, -⟩ := hax
  have hcls := (hK.1 cj _ (cl_ok cj hcj)).2
  obtain ⟨kA, comp, k1, k2, k3, -⟩ := (hK.2 2 _ rfl).2
  obtain ⟨kE, hkE, -⟩ := Vm.findClass_spec k3
  obtain ⟨c0, t1, f1, f2, f3⟩ := Cond.castable_spec (va_Nw.use (A := args) rfl (hsw.2.2.2.1 _ hm))
  cases hcls.1.symm.trans f1
  cases k3.symm.trans f2
  obtain ⟨kC, hkC, -⟩ := hcls.2
  refine W.aast hexec hb hat (fun q h => by cases h) (fun h => by cases h) k1 k2 rfl hkE ⟨h0, by show _ < (arrV _ _ _).slots.size; rw [arrV_size]; exact hlt⟩ g1 (fun q h => by rw [g3] at h; cases h) (by rw [g2]; exact hkC) (by rw [g2]; exact f3) rfl rfl hdg fun H1 e1 z oq => ?_
  refine kk H1 _ (r.sto (h2 := sR h a i.toNatClampNeg x) (a := a) rfl rfl z oq (fun y hy => rfl) (fun y hy => rfl) (fun y hy => u2_row hy) ?_) (y_S hS (r.2.2 a (by omega)).1 z oq)
  rw [ce_r (h := sR h a i.toNatClampNeg x) ht]
  show H1[base + a]? = some (vp_cell _ _)
  rw [e1]
  rw [vp_cell_q, vp_cell_q, arrV_store]
  congr 2
  funext q
  show updV _ _ _ _ = va_rf (op base (u2 h.2.1.2.2 a i.toNatClampNeg x a q))
  by_cases hq : q = i.toNatClampNeg
  · subst hq
    rw [u2_eq, r.pos (a := x) (by omega)]
    simp [updV, va_rf]
  · rw [u2_ne (fun z => hq z.2)]
    simp [updV, hq, eR]
end Rows2
