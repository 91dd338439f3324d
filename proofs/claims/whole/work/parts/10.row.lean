-- what the tables say, at a state; and rows of the machine over Rep
def xg : List Cond := xtbl.filter goodWord
def tysA (A : AC) : List (ClassId × FieldType) := [(A.1, .int), (A.2.1, .long), (A.2.2, .object "StepPurse$Structure")]
def SW (D : va_G) (A : AC) (s : State) : Prop :=
  (∀ w ∈ xg, ∀ a : Array Value, w.before a s = true) ∧ (∀ q ∈ nestL, va_Nw (.methodLinkNest q.1 q.2.1 q.2.2 "StepPurse") s) ∧ (∀ q ∈ declL, va_Nw (.declares q) s) ∧ (∀ q ∈ castL, va_Nw (.castable q.1 q.2) s) ∧ (∀ q ∈ ncL, va_Nc q.1 q.2 s) ∧ va_AO "StepPurse$Structure" s ∧ va_K D xclasses (tysA A) s
theorem SW.warm {D : va_G} {A : AC} {s U : State} (hW : s.WarmedH U.vm) (h : SW D A s) : SW D A U := by
  obtain ⟨h1, h2, h3, h4, h5, h6, h7⟩ := h
  refine ⟨fun w hw a => ?_, fun q hq => (h2 q hq).warmM hW, fun q hq => (h3 q hq).warmD hW, fun q hq => (h4 q hq).warmC hW, fun q hq => (h5 q hq).moved hW.alike, h6.moved hW.alike, h7.moved hW.alike⟩
  exact word_at hW (good_of_word (List.mem_filter.mp hw).2) (h1 w hw a)
theorem SW.wd {D : va_G} {A : AC} {s : State} (h : SW D A s) {p : Nat} {w : Cond} (hw : at_ p w = true) (a : Array Value) : w.before a s = true := h.1 w (List.mem_filter.mpr (at_in hw)) a
theorem SW.ws {D : va_G} {A : AC} {s : State} (h : SW D A s) (a : Array Value) : ∀ w ∈ xg, w.before a s = true := fun w hw => h.1 w hw a
theorem ls_g {c : Nat} (hc : c < 10) : ∀ w ∈ u_ws (xcl c) (cT c) (ctab c).length, w ∈ xg := fun w hw => List.mem_filter.mpr ⟨ls_ok c hc w hw, List.all_eq_true.mp (lsg_ok c hc) w hw⟩
theorem lkp_in {α : Type} : ∀ {l : List (Nat × α)} {n : Nat} {v : α}, lkp l n = some v → (n, v) ∈ l
  | [], _, _, h => by cases h
  | (k, w) :: t, n, v, h => by
    unfold lkp at h
    by_cases e : k = n
    · rw [if_pos e] at h
      cases h
      subst e
      exact List.mem_cons_self
    · rw [if_neg e] at h
      exact List.mem_cons_of_mem _ (lkp_in h)
theorem getD_lt {α : Type} {l : List (List α)} {n : Nat} {x : α} (h : x ∈ l.getD n []) : n < l.length := by
  rcases Nat.lt_or_ge n l.length with q | q
  · exact q
  · rw [List.getD_eq_getElem?_getD, List.getElem?_eq_none q] at h
    cases h
theorem cpF_ok {own idx f ref pl ps : Nat} (h : cpF own idx = some (f, ref, pl, ps)) : kF own (idx, f, ref, pl, ps) = true := by
  have h1 := lkp_in h
  exact List.all_eq_true.mp (List.all_eq_true.mp kF_ok own (List.mem_range.mpr (getD_lt h1))) _ h1
theorem cpC_ok {own idx c p : Nat} (h : cpC own idx = some (c, p)) : kC own (idx, c, p) = true := by
  have h1 := lkp_in h
  exact List.all_eq_true.mp (List.all_eq_true.mp kC_ok own (List.mem_range.mpr (getD_lt h1))) _ h1
theorem ins_ok {c t r : Nat} (h : ins c t = some r) : kN c (t, r) = true := by
  have h1 := lkp_in h
  exact List.all_eq_true.mp (List.all_eq_true.mp kN_ok c (List.mem_range.mpr (getD_lt h1))) _ h1
theorem cpM_ok {own idx : Nat} {e : Nat × Nat × Nat × MethodName × String × List (Nat × Nat × List Nat)} (h : cpM own idx = some e) : kM own (idx, e) = true := by
  have h1 := lkp_in h
  exact List.all_eq_true.mp (List.all_eq_true.mp kM_ok own (List.mem_range.mpr (getD_lt h1))) _ h1
section Rows
variable {p : Program} {l : Launch} {e : Env} {R : Room} {s : State} {m : MethodId} {args : Array Value} {below : List Frame} {meth : Method} {c : Code} {H : Heap} {locs : List Loc} {cells slots : Nat} {Q : State → Prop}
variable {cc : ByteArray} {pc : Nat} {ls : Array Slot} {rest : List Value} {D : va_G} {A : AC} {base : Nat} {h : AH}
theorem y_same {own ref f : Nat} {idx pl ps : Nat} (hsw : SW D A s) (hcp : cpF own idx = some (f, ref, pl, ps)) : (Cond.fieldLink (xcl own) idx (xcl ref) (fd f).2.1 (fd f).2.2.1).before args s = true ∧ ∀ x, s.fieldFound? (fd f).1 (fd f).2.1 (fd f).2.2.1 = some x → s.fieldFound? (xcl ref) (fd f).2.1 (fd f).2.2.1 = some x := by
  have hk := cpF_ok hcp
  simp only [kF, Bool.and_eq_true, Bool.or_eq_true, decide_eq_true_eq] at hk
  refine ⟨hsw.wd hk.1 args, fun x hx => ?_⟩
  rcases hk.2 with q | q
  · rw [q]; exact hx
  · exact u_same (hsw.wd q args) x hx
theorem y_get (hexec : p.tables.exec = Jvm.exec) (hb : c.code = cc) (hsw : SW D A s) {own idx f ref pl ps a : Nat} (hown : s.vm.findClass (xcl own) = some m.cls) (hcp : cpF own idx = some (f, ref, pl, ps)) (r : Rep base D A h H) (hf : hasF (tg h a) f = true) (hdg : decode cc pc = .ok (.getfield idx, 3))
    (kk : W p l e R s m args below meth c H locs cells slots Q (F0 m (pc + 3) ls (fv base h f a :: rest))) : W p l e R s m args below meth c H locs cells slots Q (F0 m pc ls (va_rf (op base a) :: rest)) := by
  obtain ⟨ci, k, ht, hc, hk, hkf⟩ := hasF_spec hf
  have h0 : tg h a ≠ 0 := by omega
  rw [r.pos h0]
  have hat := r.cell h0
  rw [ce_obj ht hc] at hat
  obtain ⟨hl, hs⟩ := y_same (args := args) hsw hcp
  have hT : cT ci k = fd f := by unfold cT; rw [hkf]
  refine va_get (D := D) (cl := xclasses) (tys := tysA A) (ws := [(base + a, .inr (ci, (ctab ci).map (fun f => fv base h f a)))]) (own := xcl own) (ref := xcl ref) (index := idx) hexec hb (hsw.ws args) (ls_g hc) hown hsw.2.2.2.2.2.2 ?_ 0 rfl (cl_ok ci hc) k hk (by rw [hT]; exact hl) (by rw [hT]; exact hs) ?_ hdg kk
  · intro j q hj
    cases j with
    | zero => cases hj; exact hat
    | succ j => cases hj
  · rw [List.getElem?_map]
    rw [List.getD_eq_getElem?_getD, List.getElem?_eq_getElem hk] at hkf
    rw [List.getElem?_eq_getElem hk]
    simp only [Option.getD_some] at hkf
    simp only [Option.map_some, hkf]
theorem y_put0 (hexec : p.tables.exec = Jvm.exec) (hb : c.code = cc) (hsw : SW D A s) {own idx f ref pl ps a M : Nat} (hM : mow M = own) (hown : s.vm.findClass (xcl own) = some m.cls) (hmn : (mnm M).name = "<init>" → meth.name = "<init>") (hokP : okP M f = true) (hcp : cpF own idx = some (f, ref, pl, ps)) (r : Rep base D A h H) (hf : hasF (tg h a) f = true) (hdg : decode cc pc = .ok (.putfield idx, 3))
    {v : Value} (hn : narrow (ftF f) v = v) (hfit : fits (ftF f) v = true)
    (kk : ∀ (ci k : Nat) (H1 : Heap) (sl : Nat), tg h a = ci + 1 → ci < 10 → k < (ctab ci).length → (ctab ci).getD k 0 = f → va_at D xclasses (base + a, .inr (ci, ((ctab ci).map (fun g => fv base h g a)).set k v)) H1 → H1.size = H.size → (∀ q, q ≠ base + a → H1[q]? = H[q]?) → W p l e R s m args below meth c H1 (locs ++ [⟨base + a, sl⟩]) cells slots Q (F0 m (pc + 3) ls rest)) : W p l e R s m args below meth c H locs cells slots Q (F0 m pc ls (v :: va_rf (op base a) :: rest)) := by
  obtain ⟨ci, k, ht, hc, hk, hkf⟩ := hasF_spec hf
  have h0 : tg h a ≠ 0 := by omega
  rw [r.pos h0]
  have hat := r.cell h0
  rw [ce_obj ht hc] at hat
  obtain ⟨hl, hs⟩ := y_same (args := args) hsw hcp
  have hT : cT ci k = fd f := by unfold cT; rw [hkf]
  have hK := hsw.2.2.2.2.2.2
  have hts := hsw.ws args
  have hin := ls_g hc
  have hcl := cl_ok ci hc
  have hap := va_apart (own := xcl own) hts hin (tyC ci) (ty_ok ci hc) (nm_ok ci hc) hK hcl
  obtain ⟨r', h1, cell, q1, q2, q3, q4⟩ := hat
  have hr : r' = (xcl ci, cT ci, (ctab ci).length) := Option.some.inj (h1.symm.trans hcl)
  subst hr
  obtain ⟨hS, hfc, kC, hkC, hkind⟩ := hK.1 ci _ hcl
  obtain ⟨cf, kf, fi, fl, hi, hsl⟩ := hS k hk
  have hlay := hts _ (hin _ (u_in_lay hk))
  have hd : parseFieldDescriptor (cT ci k).2.2.1 = some (ftF f) := by
    rw [ty_ok ci hc k hk]; unfold tyC; rw [hkf]
  have hst := (u_facts hfc hkC (u_lays hts hin hk) hi).1
  have hlen : k < ((ctab ci).map (fun g => fv base h g a)).length := by rw [List.length_map]; exact hk
  have hi' : s.fieldFound? (fd f).1 (fd f).2.1 (fd f).2.2.1 = some (cf, kf, fi, fl) := by rw [← hT]; exact hi
  unfold u_lay at hlay
  by_cases hfin : (cT ci k).2.2.2 = true
  · rw [if_pos hfin] at hlay
    have hox : (mnm M).name = "<init>" ∧ (fd f).1 = xcl (mow M) := by
      rw [hT] at hfin
      simpa [okP, hfin] using hokP
    have hcf : m.cls = cf := by
      obtain ⟨_, _, c', _, _, _, -, -, hf', -, -, -, hown2, -⟩ := Cond.laysFinal_spec hlay
      have e1 : c' = cf := by have := hi.symm.trans hf'; simp at this; exact this.1.symm
      rw [hT, hox.2, hM] at hown2
      rw [← e1]; exact Option.some.inj (hown.symm.trans hown2)
    have h6 := u_fits hfc hkC hkind (Or.inr hlay) hi hd hn hfit
    refine W.putFinK hexec hb hown hl (hs _ hi') hst hcf (hmn hox.1) (by rw [q2]; exact h6) q1 q3 (by rw [hsl]; exact k2_hasslot (q4 k hk)) rfl rfl hdg fun H' e1 e2 e3 => ?_
    rw [hsl] at e1 ⊢
    exact kk ci k H' _ ht hc hk hkf ⟨_, hcl, t_OB.to (V := updV (vp_V ((ctab ci).map (fun g => fv base h g a))) k v) ⟨_, e1, q2, q3, t_set q4 hap hk v⟩ (fun j _ => vp_updV_set hlen v j)⟩ e2 e3
  · rw [if_neg hfin] at hlay
    have h6 := u_store hfc hkC hkind hlay hi hd hn hfit
    refine W.putK hexec hb (f := fl) ⟨hown, hl, ⟨_, _, _, hs _ hi'⟩, hst⟩ (by rw [q2]; exact h6) q1 q3 (by rw [hsl]; exact k2_hasslot (q4 k hk)) rfl rfl hdg fun H' e1 e2 e3 => ?_
    rw [hsl] at e1 ⊢
    exact kk ci k H' _ ht hc hk hkf ⟨_, hcl, t_OB.to (V := updV (vp_V ((ctab ci).map (fun g => fv base h g a))) k v) ⟨_, e1, q2, q3, t_set q4 hap hk v⟩ (fun j _ => vp_updV_set hlen v j)⟩ e2 e3
/-- behind a write: nothing else changed -/
theorem y_S {H0 H1 : Heap} {a k : Nat} (hS : va_S (fun q => base < q) H0 H locs) (ha : 1 ≤ a) (z : H1.size = H.size) (oq : ∀ q, q ≠ base + a → H1[q]? = H[q]?) : va_S (fun q => base < q) H0 H1 (locs ++ [⟨base + a, k⟩]) := va_S.put hS z oq (by show base < base + a; omega)
theorem fk_of {ci k f : Nat} (hc : ci < 10) (hk : k < (ctab ci).length) (hf : (ctab ci).getD k 0 = f) : (fty f = 0 ∧ ftF f = .int) ∨ (fty f = 1 ∧ ftF f = .long) ∨ (fty f = 2 ∧ (ftF f).isReference = true) := by
  have := fk_ok ci hc k hk
  rw [hf] at this
  exact this
theorem nar_ref {ty : FieldType} (h : ty.isReference = true) (r : Option Nat) : narrow ty (va_rf r) = va_rf r ∧ fits ty (va_rf r) = true := by
  cases ty with
  | object n => cases r <;> exact ⟨rfl, rfl⟩
  | array t => cases r <;> exact ⟨rfl, rfl⟩
  | _ => cases h
end Rows
