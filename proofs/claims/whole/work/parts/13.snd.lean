-- SOUNDNESS: what the interpreter answers, the machine does
theorem gd_some {α : Type} {b : Bool} {x : Option α} {r : α} (h : gd b x = some r) : b = true ∧ x = some r := by
  cases b
  · cases h
  · exact ⟨rfl, h⟩
theorem getD_some {l : List Value} {j : Nat} {v : Value} (h : l.getD j .null = v) (h0 : v ≠ .null) : l[j]? = some v := by
  rw [List.getD_eq_getElem?_getD] at h
  cases e : l[j]? with
  | none => rw [e] at h; exact absurd h.symm h0
  | some w => rw [e] at h; rw [← h]; rfl
theorem bK_some {rk : Nat} {o : Option Out} {k : List Value → AH → Option Out} {r : Out} (h : bK rk o k = some r) : ∃ h1 v, o = some (h1, v) ∧ k v.toList h1 = some r := by
  match rk, o, h with
  | 0, none, h => cases h
  | 1, none, h => cases h
  | 2, none, h => cases h
  | 3, none, h => cases h
  | n + 4, none, h => cases h
  | 0, some (a, none), h => exact ⟨a, none, rfl, h⟩
  | 0, some (a, some v), h => cases h
  | 1, some (a, none), h => cases h
  | 2, some (a, none), h => cases h
  | 3, some (a, none), h => cases h
  | n + 4, some (a, none), h => cases h
  | 1, some (a, some v), h => cases v <;> first | exact ⟨a, _, rfl, h⟩ | cases h
  | 2, some (a, some v), h => cases v <;> first | exact ⟨a, _, rfl, h⟩ | cases h
  | 3, some (a, some v), h => cases v <;> first | exact ⟨a, _, rfl, h⟩ | cases h
  | n + 4, some (a, some v), h => cases v <;> first | exact ⟨a, _, rfl, h⟩ | cases h
theorem cfD_some {cf : Nat → List Value → AH → Option Out} {own idx t : Nat} {as : List Value} {h : AH} {r : Out} (hh : cfD cf own idx t as h = some r) : ∃ e M' ps, cpM own idx = some e ∧ lkp e.2.2.2.2.2 t = some (M', ps) ∧ (layA as).length ≤ mxl M' ∧ cf M' as h = some r := by
  unfold cfD at hh
  split at hh
  · next a1 a2 a3 a4 a5 tgs he =>
    split at hh
    · next M' ps hl =>
      obtain ⟨g1, g2⟩ := gd_some hh
      exact ⟨_, M', ps, he, hl, of_decide_eq_true g1, g2⟩
    · cases hh
  · cases hh
theorem kM_all {own idx kd np rk : Nat} {x : MethodName} {owner : String} {tgs : List (Nat × Nat × List Nat)} (h : kM own (idx, kd, np, rk, x, owner, tgs) = true) (h4 : kd ≠ 4) (h7 : kd ≠ 7) {q : Nat × Nat × List Nat} (hq : q ∈ tgs) : kM1 own idx kd np x owner q = true := by
  simp only [kM, Bool.or_eq_true, Bool.and_eq_true, decide_eq_true_eq] at h
  rcases h with (h | h) | h
  · exact absurd h.1.1.1 h7
  · exact absurd h.1 h4
  · exact List.all_eq_true.mp h q hq
theorem kE_ok : (List.range 14).all (fun own => (cpMT.getD own []).all (fun e => decide (e.2.1 ≠ 4 ∧ e.2.1 ≠ 7) || decide (e.2.2.2.2.2.2 ≠ []))) = true := by decide +kernel
theorem kM_obj {own idx np rk : Nat} {x : MethodName} {owner : String} {tgs : List (Nat × Nat × List Nat)} (hcp : cpM own idx = some (4, np, rk, x, owner, tgs)) : at_ ((tgs.headD (0, 0, [])).2.2.headD 0) (.methodLink (xcl own) idx objectInit) = true := by
  have h := cpM_ok hcp
  simp only [kM, Bool.or_eq_true, Bool.and_eq_true, decide_eq_true_eq] at h
  rcases h with (h | h) | h
  · exact absurd h.1.1.1 (by decide)
  · exact h.2
  · exfalso
    have h1 := lkp_in hcp
    have h2 := List.all_eq_true.mp (List.all_eq_true.mp kE_ok own (List.mem_range.mpr (getD_lt h1))) _ h1
    simp only [Bool.or_eq_true, decide_eq_true_eq] at h2
    rcases h2 with h2 | h2
    · exact absurd rfl h2.1
    · cases tgs with
      | nil => exact h2 rfl
      | cons q t =>
        have := List.all_eq_true.mp h q List.mem_cons_self
        simp [kM1] at this
theorem kM_max {own idx np rk : Nat} {x : MethodName} {owner : String} {tgs : List (Nat × Nat × List Nat)} (hcp : cpM own idx = some (7, np, rk, x, owner, tgs)) : ∃ p1 p2 p3, at_ p1 (.methodLink (xcl own) idx Lib.Math.max.name) = true ∧ at_ p2 (.static Lib.Math.max.name) = true ∧ at_ p3 (.initialized "java/lang/Math") = true := by
  have h := cpM_ok hcp
  simp only [kM, Bool.or_eq_true, Bool.and_eq_true, decide_eq_true_eq] at h
  rcases h with (h | h) | h
  · exact ⟨_, _, _, h.1.1.2, h.1.2, h.2⟩
  · exact absurd h.1 (by decide)
  · exfalso
    have h1 := lkp_in hcp
    have h2 := List.all_eq_true.mp (List.all_eq_true.mp kE_ok own (List.mem_range.mpr (getD_lt h1))) _ h1
    simp only [Bool.or_eq_true, decide_eq_true_eq] at h2
    rcases h2 with h2 | h2
    · exact absurd rfl h2.2
    · cases tgs with
      | nil => exact h2 rfl
      | cons q t =>
        have := List.all_eq_true.mp h q List.mem_cons_self
        simp [kM1] at this
theorem dec {M pc nx : Nat} {i : Instr} (hM : M < 189) (hf : fetch M pc = some (i, nx)) : decode (mby M) pc = .ok (i, nx - pc) ∧ pc ≤ nx ∧ ilk i (nx - pc) = true ∧ tgk pc i = true ∧ calk M i = true := by
  have h := ck_all hM pc
  rw [hf] at h
  simp only [ck1, Bool.and_eq_true, decide_eq_true_eq] at h
  exact ⟨h.1.1.1.1, h.1.1.1.2, h.1.1.2, h.1.2, h.2⟩
theorem dn {M pc nx n : Nat} {i : Instr} (hM : M < 189) (hf : fetch M pc = some (i, nx)) (hi : ∀ k, ilk i k = (k == n)) : decode (mby M) pc = .ok (i, n) ∧ nx = pc + n := by
  obtain ⟨h1, h2, h3, -⟩ := dec hM hf
  rw [hi] at h3
  have e : nx - pc = n := by simpa using h3
  rw [e] at h1
  exact ⟨h1, by omega⟩
theorem d1 {M pc nx : Nat} {i : Instr} (hM : M < 189) (hf : fetch M pc = some (i, nx)) (hi : ∀ k, ilk i k = (k == 1)) : decode (mby M) pc = .ok (i, 1) ∧ nx = pc + 1 := dn hM hf hi
theorem d2 {M pc nx : Nat} {i : Instr} (hM : M < 189) (hf : fetch M pc = some (i, nx)) (hi : ∀ k, ilk i k = (k == 2)) : decode (mby M) pc = .ok (i, 2) ∧ nx = pc + 2 := dn hM hf hi
theorem d3 {M pc nx : Nat} {i : Instr} (hM : M < 189) (hf : fetch M pc = some (i, nx)) (hi : ∀ k, ilk i k = (k == 3)) : decode (mby M) pc = .ok (i, 3) ∧ nx = pc + 3 := dn hM hf hi
theorem dtg {M pc nx : Nat} {i : Instr} (hM : M < 189) (hf : fetch M pc = some (i, nx)) : tgk pc i = true := (dec hM hf).2.2.2.1
theorem dck {M pc nx : Nat} {i : Instr} (hM : M < 189) (hf : fetch M pc = some (i, nx)) : calk M i = true := (dec hM hf).2.2.2.2
theorem dsw {M pc nx : Nat} {i : Instr} (hM : M < 189) (hf : fetch M pc = some (i, nx)) : decode (mby M) pc = .ok (i, nx - pc) ∧ tgk pc i = true := ⟨(dec hM hf).1, dtg hM hf⟩
theorem tg_ok {pc : Nat} {off : Int} (h : 0 ≤ (pc : Int) + off) : (pc : Int) + off = ((tgt pc off : Nat) : Int) := (Int.toNat_of_nonneg h).symm
theorem op_inj {base x y : Nat} (h : op base x = op base y) : x = y := by
  unfold op at h
  split at h <;> split at h
  · omega
  · cases h
  · cases h
  · have := Option.some.inj h; omega
theorem vmap {base b : Nat} (v : Option Value) : v.toList.map (cv base b) = (v.map (cv base b)).toList := by cases v <;> rfl
theorem y_arg2 {base b : Nat} (rs : List Value) {a : Nat} (ha : a ≠ 0) : ((Value.ref a :: rs).map (cv base b)) = .ref (base + a) :: rs.map (cv base b) := (y_arg rs ha).symm
theorem ax_i : Cond.arrayClass .int ∈ xg := List.mem_filter.mpr ⟨by have := axw_ok; simp only [axw, Bool.and_eq_true, decide_eq_true_eq] at this; exact this.1, rfl⟩
theorem ax_l : Cond.arrayClass .long ∈ xg := List.mem_filter.mpr ⟨by have := axw_ok; simp only [axw, Bool.and_eq_true, decide_eq_true_eq] at this; exact this.2, rfl⟩
def Mo (h0 : AH) (o : Option Out) : Prop := ∀ r, o = some r → nn h0 ≤ nn r.1 ∧ sl h0 ≤ sl r.1
theorem Mo_none {h0 : AH} : Mo h0 none := fun _ h => by cases h
theorem Mo_some {h0 : AH} {v : Option Value} : Mo h0 (some (h0, v)) := fun _ h => by cases h; exact ⟨Nat.le_refl _, Nat.le_refl _⟩
theorem gd_mo {h0 : AH} {b : Bool} {x : Option Out} (h : Mo h0 x) : Mo h0 (gd b x) := by
  cases b
  · exact Mo_none
  · exact h
theorem ite_mo {h0 : AH} {c : Prop} {dc : Decidable c} {a b : Option Out} (h1 : Mo h0 a) (h2 : Mo h0 b) : Mo h0 (if c then a else b) := by
  by_cases h : c
  · rw [if_pos h]; exact h1
  · rw [if_neg h]; exact h2
theorem bK_mo {h0 : AH} {rk : Nat} {o : Option Out} {k : List Value → AH → Option Out} (h : Mo h0 o) (hk : ∀ x y, nn h0 ≤ nn y → sl h0 ≤ sl y → Mo h0 (k x y)) : Mo h0 (bK rk o k) := by
  intro r hr
  obtain ⟨h1, v, e1, e2⟩ := bK_some hr
  obtain ⟨m1, m2⟩ := h _ e1
  exact hk _ _ m1 m2 r e2
theorem cfD_mo {cf : Nat → List Value → AH → Option Out} {h0 : AH} (h : ∀ M as, Mo h0 (cf M as h0)) (own idx t : Nat) (as : List Value) : Mo h0 (cfD cf own idx t as h0) := by
  intro r hr
  obtain ⟨e, M', ps, -, -, -, h2⟩ := cfD_some hr
  exact h M' as r h2
set_option maxHeartbeats 4000000 in
theorem stepI_mo {L : Nat} {xs : Nat → Int32} {cf : Nat → List Value → AH → Option Out} {k : Nat → List Value → List Value → AH → Option Out} {h : AH} (hc : ∀ M as, Mo h (cf M as h)) (hk : ∀ p l s a, nn h ≤ nn a → sl h ≤ sl a → Mo h (k p l s a)) (M pc nx : Nat) (i : Instr) (ls st : List Value) : Mo h (stepI L xs cf k M pc nx i ls st h) := by
  unfold stepI
  split <;> (repeat' (first | exact Mo_none | exact hk _ _ _ _ (Nat.le_refl _) (Nat.le_refl _) | exact hk _ _ _ _ (Nat.le_add_right _ _) (Nat.le_add_right _ _) | exact Mo_some | apply gd_mo | apply ite_mo | (refine bK_mo (cfD_mo hc _ _ _ _) (fun _ _ => hk _ _ _ _)) | split))
theorem ex_mo {L : Nat} {xs : Nat → Int32} : ∀ (n M pc : Nat) (ls st : List Value) (h : AH), Mo h (ex L xs n M pc ls st h) := by
  intro n
  induction n with
  | zero => intro M pc ls st h; exact Mo_none
  | succ n ih =>
    intro M pc ls st h
    show Mo h (stepK L xs _ _ M pc ls st h)
    unfold stepK
    split
    · refine stepI_mo (fun M' as => ih M' 0 _ _ h) (fun p l s a h1 h2 r hr => ?_) _ _ _ _ _ _
      obtain ⟨m1, m2⟩ := ih M p l s a r hr
      exact ⟨Nat.le_trans h1 m1, Nat.le_trans h2 m2⟩
    · exact Mo_none
section RowsA
variable {p : Program} {l : Launch} {e : Env} {R : Room} {s : State} {m : MethodId} {args : Array Value} {below : List Frame} {meth : Method} {c : Code} {H : Heap} {locs : List Loc} {cells slots : Nat} {Q : State → Prop}
variable {cc : ByteArray} {pc : Nat} {ls : Array Slot} {rest : List Value}
theorem y_aload (hexec : p.tables.exec = Jvm.exec) (hb : c.code = cc) {i : Nat} {o : Option Nat} (hdg : decode cc pc = .ok (.aload i, 2)) (hl : ls[i]? = some (.val (va_rf o))) (k : W p l e R s m args below meth c H locs cells slots Q (F0 m (pc + 2) ls (va_rf o :: rest))) : W p l e R s m args below meth c H locs cells slots Q (F0 m pc ls rest) := by
  cases o with
  | none => exact lv_aloadN hexec hb hdg hl k
  | some a => exact lv_aload hexec hb hdg hl k
theorem y_aload_n (hexec : p.tables.exec = Jvm.exec) (hb : c.code = cc) {j : Fin 4} {i : Nat} {o : Option Nat} (hdg : decode cc pc = .ok (.aload_n j, 1)) (hi : (j : Nat) = i) (hl : ls[i]? = some (.val (va_rf o))) (k : W p l e R s m args below meth c H locs cells slots Q (F0 m (pc + 1) ls (va_rf o :: rest))) : W p l e R s m args below meth c H locs cells slots Q (F0 m pc ls rest) := by
  cases o with
  | none => exact lv_aload_nN hexec hb hdg hi hl k
  | some a => exact lv_aload_n hexec hb hdg hi hl k
theorem y_astore (hexec : p.tables.exec = Jvm.exec) (hb : c.code = cc) {i nL : Nat} {o : Option Nat} {lv : List (Nat × Value)} (hdg : decode cc pc = .ok (.astore i, 2)) (h : lv_has ls nL lv) (hn : i < nL)
    (kk : ∀ ls' : Array Slot, lv_has ls' nL ((i, va_rf o) :: lv.filter (fun q => !(q.1 == i) && !(q.1 + 1 == i && q.2.category == 2))) → W p l e R s m args below meth c H locs cells slots Q (F0 m (pc + 2) ls' rest)) : W p l e R s m args below meth c H locs cells slots Q (F0 m pc ls (va_rf o :: rest)) := by
  cases o with
  | none => exact lv_astoreN hexec hb hdg h hn rfl kk
  | some a => exact lv_astore hexec hb hdg h hn rfl kk
theorem y_astore_n (hexec : p.tables.exec = Jvm.exec) (hb : c.code = cc) {j : Fin 4} {i nL : Nat} {o : Option Nat} {lv : List (Nat × Value)} (hdg : decode cc pc = .ok (.astore_n j, 1)) (hi : (j : Nat) = i) (h : lv_has ls nL lv) (hn : i < nL)
    (kk : ∀ ls' : Array Slot, lv_has ls' nL ((i, va_rf o) :: lv.filter (fun q => !(q.1 == i) && !(q.1 + 1 == i && q.2.category == 2))) → W p l e R s m args below meth c H locs cells slots Q (F0 m (pc + 1) ls' rest)) : W p l e R s m args below meth c H locs cells slots Q (F0 m pc ls (va_rf o :: rest)) := by
  cases o with
  | none => exact lv_astore_nN hexec hb hdg hi h hn rfl kk
  | some a => exact lv_astore_n hexec hb hdg hi h hn rfl kk
end RowsA
def rOK (M : Nat) (i : Instr) (r : Option Value) : Prop := (i = .ireturn ∧ ∃ x, r = some (.int x) ∧ (mrk M = 1 ∨ (mrk M = 4 ∧ x &&& 1 = x))) ∨ (i = .lreturn ∧ ∃ x, r = some (.long x) ∧ mrk M = 2) ∨ (i = .areturn ∧ ∃ x, r = some (.ref x) ∧ mrk M = 3) ∨ (i = .return_ ∧ r = none ∧ mrk M = 0)
abbrev GoT (l : Launch) (base : Nat) (D : va_G) (A : AC) (b : Nat) (p : Program) (e : Env) (R : Room) (s : State) (m : MethodId) (args : Array Value) (below : List Frame) (meth : Method) (c : Code) (Q : State → Prop) (M : Nat) (h' : AH) (pc : Nat) (absL absS : List Value) (h : AH) : Prop :=
  ∀ (H : Heap) (locs : List Loc) (cells slots : Nat) (ls : Array Slot), Rep base D A h H → LR base b ls (mxl M) absL → va_S (fun q => base < q) s.heap H locs → cells + nn h' ≤ R.cells + nn h → slots + sl h' ≤ R.slots + sl h → W p l e R s m args below meth c H locs cells slots Q (F0 m pc ls (absS.map (cv base b)))
abbrev FnT (l : Launch) (base : Nat) (D : va_G) (A : AC) (b : Nat) (p : Program) (e : Env) (R : Room) (s : State) (m : MethodId) (args : Array Value) (below : List Frame) (meth : Method) (c : Code) (Q : State → Prop) (M : Nat) (h' : AH) (r : Option Value) : Prop :=
  ∀ (H : Heap) (locs : List Loc) (cells slots pc : Nat) (ls : Array Slot) (i : Instr), Rep base D A h' H → va_S (fun q => base < q) s.heap H locs → cells ≤ R.cells → slots ≤ R.slots → decode (mby M) pc = .ok (i, 1) → rOK M i r → W p l e R s m args below meth c H locs cells slots Q (F0 m pc ls (r.toList.map (cv base b)))
set_option maxHeartbeats 8000000 in
theorem snd_step {l : Launch} {base b L : Nat} {xs : Nat → Int32} {D : va_G} {A : AC} {p : Program} {e : Env} {R : Room} {s : State} {m : MethodId} {args : Array Value} {below : List Frame} {meth : Method} {c : Code} {Q : State → Prop} {M : Nat} {h' : AH} {r : Option Value} {cf : Nat → List Value → AH → Option Out} {k : Nat → List Value → List Value → AH → Option Out}
    (hM : M < 189) (hexec : p.tables.exec = Jvm.exec) (hb : c.code = mby M) (hml : c.maxLocals = mxl M) (hown : s.vm.findClass (xcl (mow M)) = some m.cls) (hmn : (mnm M).name = "<init>" → meth.name = "<init>") (hsw : SW D A s) (hX : va_X b L xs s s.heap) (hbb : b ≤ base) (hbs : base < s.heap.size) (hfr : mfr M ≤ R.frames) (hlo : mlo M ≤ R.locals)
    (fin : FnT l base D A b p e R s m args below meth c Q M h' r)
    (hk : ∀ pc ls st h0, k pc ls st h0 = some (h', r) → GoT l base D A b p e R s m args below meth c Q M h' pc ls st h0)
    (hkm : ∀ pc ls st h0, k pc ls st h0 = some (h', r) → nn h0 ≤ nn h' ∧ sl h0 ≤ sl h')
    (hc' : ∀ M' as h0 h1 v, cf M' as h0 = some (h1, v) → M' < 189 → M' ≠ 0 → (layA as).length ≤ mxl M' → MM l base D A b L xs M' as h0 h1 v ∧ nn h0 ≤ nn h1 ∧ sl h0 ≤ sl h1)
    (pc nx : Nat) (i : Instr) (absL absS : List Value) (h : AH) (hf : fetch M pc = some (i, nx)) (hst : stepI L xs cf k M pc nx i absL absS h = some (h', r)) : GoT l base D A b p e R s m args below meth c Q M h' pc absL absS h := by
  cases i with
  | iconst n =>
    obtain ⟨hdg, rfl⟩ := d1 hM hf (fun _ => rfl)
    simp only [stepI] at hst
    exact fun H locs cells slots ls hR hL hS hc hs => lv_iconst hexec hb hdg rfl (hk _ _ _ _ hst H locs cells slots ls hR hL hS hc hs)
  | bipush n =>
    obtain ⟨hdg, rfl⟩ := d2 hM hf (fun _ => rfl)
    simp only [stepI] at hst
    exact fun H locs cells slots ls hR hL hS hc hs => lv_bipush hexec hb hdg rfl (hk _ _ _ _ hst H locs cells slots ls hR hL hS hc hs)
  | sipush n =>
    obtain ⟨hdg, rfl⟩ := d3 hM hf (fun _ => rfl)
    simp only [stepI] at hst
    exact fun H locs cells slots ls hR hL hS hc hs => lv_sipush hexec hb hdg rfl (hk _ _ _ _ hst H locs cells slots ls hR hL hS hc hs)
  | lconst n =>
    obtain ⟨hdg, rfl⟩ := d1 hM hf (fun _ => rfl)
    simp only [stepI] at hst
    exact fun H locs cells slots ls hR hL hS hc hs => lv_lconst hexec hb hdg rfl (hk _ _ _ _ hst H locs cells slots ls hR hL hS hc hs)
  | aconst_null =>
    obtain ⟨hdg, rfl⟩ := d1 hM hf (fun _ => rfl)
    simp only [stepI] at hst
    exact fun H locs cells slots ls hR hL hS hc hs => lv_null hexec hb hdg (hk _ _ _ _ hst H locs cells slots ls hR hL hS hc hs)
  | ldc2_w j =>
    obtain ⟨hdg, rfl⟩ := d3 hM hf (fun _ => rfl)
    simp only [stepI] at hst
    obtain ⟨g1, hst⟩ := gd_some hst
    simp only [Bool.and_eq_true, decide_eq_true_eq] at g1
    obtain ⟨g1, g2⟩ := g1
    subst g1; subst g2
    exact fun H locs cells slots ls hR hL hS hc hs => lv_ldc2 (own := "StepPurseLaw") hexec hb hown (hsw.wd kL_ok args) hdg (hk _ _ _ _ hst H locs cells slots ls hR hL hS hc hs)
  | iload j =>
    obtain ⟨hdg, rfl⟩ := d2 hM hf (fun _ => rfl)
    simp only [stepI] at hst
    split at hst
    · next x hx => exact fun H locs cells slots ls hR hL hS hc hs => lv_iload hexec hb hdg (hL.at hx (by intro z; cases z)) (hk _ _ _ _ hst H locs cells slots ls hR hL hS hc hs)
    · cases hst
  | iload_n j =>
    obtain ⟨hdg, rfl⟩ := d1 hM hf (fun _ => rfl)
    simp only [stepI] at hst
    split at hst
    · next x hx => exact fun H locs cells slots ls hR hL hS hc hs => lv_iload_n hexec hb hdg rfl (hL.at hx (by intro z; cases z)) (hk _ _ _ _ hst H locs cells slots ls hR hL hS hc hs)
    · cases hst
  | lload j =>
    obtain ⟨hdg, rfl⟩ := d2 hM hf (fun _ => rfl)
    simp only [stepI] at hst
    split at hst
    · next x hx => exact fun H locs cells slots ls hR hL hS hc hs => lv_lload hexec hb hdg (hL.at hx (by intro z; cases z)) (hk _ _ _ _ hst H locs cells slots ls hR hL hS hc hs)
    · cases hst
  | lload_n j =>
    obtain ⟨hdg, rfl⟩ := d1 hM hf (fun _ => rfl)
    simp only [stepI] at hst
    split at hst
    · next x hx => exact fun H locs cells slots ls hR hL hS hc hs => lv_lload_n hexec hb hdg rfl (hL.at hx (by intro z; cases z)) (hk _ _ _ _ hst H locs cells slots ls hR hL hS hc hs)
    · cases hst
  | aload j =>
    obtain ⟨hdg, rfl⟩ := d2 hM hf (fun _ => rfl)
    simp only [stepI] at hst
    split at hst
    · next x hx => exact fun H locs cells slots ls hR hL hS hc hs => y_aload hexec hb hdg (hL.at hx (by intro z; cases z)) (hk _ _ _ _ hst H locs cells slots ls hR hL hS hc hs)
    · next x hx => exact fun H locs cells slots ls hR hL hS hc hs => lv_aload hexec hb hdg (hL.at hx (by intro z; cases z)) (hk _ _ _ _ hst H locs cells slots ls hR hL hS hc hs)
    · cases hst
  | aload_n j =>
    obtain ⟨hdg, rfl⟩ := d1 hM hf (fun _ => rfl)
    simp only [stepI] at hst
    split at hst
    · next x hx => exact fun H locs cells slots ls hR hL hS hc hs => y_aload_n hexec hb hdg rfl (hL.at hx (by intro z; cases z)) (hk _ _ _ _ hst H locs cells slots ls hR hL hS hc hs)
    · next x hx => exact fun H locs cells slots ls hR hL hS hc hs => lv_aload_n hexec hb hdg rfl (hL.at hx (by intro z; cases z)) (hk _ _ _ _ hst H locs cells slots ls hR hL hS hc hs)
    · cases hst
  | istore j =>
    obtain ⟨hdg, rfl⟩ := d2 hM hf (fun _ => rfl)
    simp only [stepI] at hst
    split at hst
    · next x rs =>
      obtain ⟨g1, hst⟩ := gd_some hst
      have g1 := of_decide_eq_true g1
      intro H locs cells slots ls hR hL hS hc hs
      obtain ⟨hl, lv, h1, h2⟩ := hL
      exact lv_istore hexec hb hdg h1 (by omega) rfl (fun ls' h' => hk _ _ _ _ hst H locs cells slots ls' hR (LR.set1 hl h2 h') hS hc hs)
    · cases hst
  | istore_n j =>
    obtain ⟨hdg, rfl⟩ := d1 hM hf (fun _ => rfl)
    simp only [stepI] at hst
    split at hst
    · next x rs =>
      obtain ⟨g1, hst⟩ := gd_some hst
      have g1 := of_decide_eq_true g1
      intro H locs cells slots ls hR hL hS hc hs
      obtain ⟨hl, lv, h1, h2⟩ := hL
      exact lv_istore_n hexec hb hdg rfl h1 (by omega) rfl (fun ls' h' => hk _ _ _ _ hst H locs cells slots ls' hR (LR.set1 hl h2 h') hS hc hs)
    · cases hst
  | astore j =>
    obtain ⟨hdg, rfl⟩ := d2 hM hf (fun _ => rfl)
    simp only [stepI] at hst
    split at hst
    · next x rs =>
      obtain ⟨g1, hst⟩ := gd_some hst
      have g1 := of_decide_eq_true g1
      intro H locs cells slots ls hR hL hS hc hs
      obtain ⟨hl, lv, h1, h2⟩ := hL
      exact y_astore hexec hb hdg h1 (by omega) (fun ls' h' => hk _ _ _ _ hst H locs cells slots ls' hR (LR.set1 hl h2 h') hS hc hs)
    · cases hst
  | astore_n j =>
    obtain ⟨hdg, rfl⟩ := d1 hM hf (fun _ => rfl)
    simp only [stepI] at hst
    split at hst
    · next x rs =>
      obtain ⟨g1, hst⟩ := gd_some hst
      have g1 := of_decide_eq_true g1
      intro H locs cells slots ls hR hL hS hc hs
      obtain ⟨hl, lv, h1, h2⟩ := hL
      exact y_astore_n hexec hb hdg rfl h1 (by omega) (fun ls' h' => hk _ _ _ _ hst H locs cells slots ls' hR (LR.set1 hl h2 h') hS hc hs)
    · cases hst
  | lstore j =>
    obtain ⟨hdg, rfl⟩ := d2 hM hf (fun _ => rfl)
    simp only [stepI] at hst
    split at hst
    · next x rs =>
      obtain ⟨g1, hst⟩ := gd_some hst
      have g1 := of_decide_eq_true g1
      intro H locs cells slots ls hR hL hS hc hs
      obtain ⟨hl, lv, h1, h2⟩ := hL
      exact lv_lstore hexec hb hdg h1 (by omega) rfl (fun ls' h' => hk _ _ _ _ hst H locs cells slots ls' hR (LR.set2 hl h2 h') hS hc hs)
    · cases hst
  | lstore_n j =>
    obtain ⟨hdg, rfl⟩ := d1 hM hf (fun _ => rfl)
    simp only [stepI] at hst
    split at hst
    · next x rs =>
      obtain ⟨g1, hst⟩ := gd_some hst
      have g1 := of_decide_eq_true g1
      intro H locs cells slots ls hR hL hS hc hs
      obtain ⟨hl, lv, h1, h2⟩ := hL
      exact lv_lstore_n hexec hb hdg rfl h1 (by omega) rfl (fun ls' h' => hk _ _ _ _ hst H locs cells slots ls' hR (LR.set2 hl h2 h') hS hc hs)
    · cases hst
  | iinc j n =>
    obtain ⟨hdg, rfl⟩ := d3 hM hf (fun _ => rfl)
    simp only [stepI] at hst
    split at hst
    · next x hx =>
      obtain ⟨g1, hst⟩ := gd_some hst
      have g1 := of_decide_eq_true g1
      intro H locs cells slots ls hR hL hS hc hs
      obtain ⟨hl, lv, h1, h2⟩ := hL
      have hm : (j, cv base b (.int x)) ∈ lv := h2 j (.int x) (getD_some hx (by intro z; cases z)) (by intro z; cases z)
      obtain ⟨q, hq⟩ := List.getElem?_of_mem hm
      exact lv_iinc hexec hb hdg h1 (k := q) hq rfl (by omega) rfl (fun ls' h' => hk _ _ _ _ hst H locs cells slots ls' hR (LR.set1 hl h2 h') hS hc hs)
    · cases hst
  | dup =>
    obtain ⟨hdg, rfl⟩ := d1 hM hf (fun _ => rfl)
    simp only [stepI] at hst
    split at hst
    · next x rs => exact fun H locs cells slots ls hR hL hS hc hs => lv_dup hexec hb hdg rfl (hk _ _ _ _ hst H locs cells slots ls hR hL hS hc hs)
    · next x rs => exact fun H locs cells slots ls hR hL hS hc hs => lv_dup hexec hb hdg (cv_cat base b (.ref x)) (hk _ _ _ _ hst H locs cells slots ls hR hL hS hc hs)
    · cases hst
  | dup2 =>
    obtain ⟨hdg, rfl⟩ := d1 hM hf (fun _ => rfl)
    simp only [stepI] at hst
    split at hst
    · next x y rs => exact fun H locs cells slots ls hR hL hS hc hs => lv_dup2_11 hexec hb hdg rfl (cv_cat base b (.ref y)) (hk _ _ _ _ hst H locs cells slots ls hR hL hS hc hs)
    · cases hst
  | pop =>
    obtain ⟨hdg, rfl⟩ := d1 hM hf (fun _ => rfl)
    simp only [stepI] at hst
    split at hst
    · next x rs => exact fun H locs cells slots ls hR hL hS hc hs => lv_pop hexec hb hdg rfl (hk _ _ _ _ hst H locs cells slots ls hR hL hS hc hs)
    · next x rs => exact fun H locs cells slots ls hR hL hS hc hs => lv_pop hexec hb hdg (cv_cat base b (.ref x)) (hk _ _ _ _ hst H locs cells slots ls hR hL hS hc hs)
    · cases hst
  | iadd =>
    obtain ⟨hdg, rfl⟩ := d1 hM hf (fun _ => rfl)
    simp only [stepI] at hst
    split at hst
    · next y x rs => exact fun H locs cells slots ls hR hL hS hc hs => lv_iadd hexec hb hdg (hk _ _ _ _ hst H locs cells slots ls hR hL hS hc hs)
    · cases hst
  | isub =>
    obtain ⟨hdg, rfl⟩ := d1 hM hf (fun _ => rfl)
    simp only [stepI] at hst
    split at hst
    · next y x rs => exact fun H locs cells slots ls hR hL hS hc hs => lv_isub hexec hb hdg (hk _ _ _ _ hst H locs cells slots ls hR hL hS hc hs)
    · cases hst
  | imul =>
    obtain ⟨hdg, rfl⟩ := d1 hM hf (fun _ => rfl)
    simp only [stepI] at hst
    split at hst
    · next y x rs => exact fun H locs cells slots ls hR hL hS hc hs => lv_imul hexec hb hdg (hk _ _ _ _ hst H locs cells slots ls hR hL hS hc hs)
    · cases hst
  | iand =>
    obtain ⟨hdg, rfl⟩ := d1 hM hf (fun _ => rfl)
    simp only [stepI] at hst
    split at hst
    · next y x rs => exact fun H locs cells slots ls hR hL hS hc hs => lv_iand hexec hb hdg (hk _ _ _ _ hst H locs cells slots ls hR hL hS hc hs)
    · cases hst
  | ishr =>
    obtain ⟨hdg, rfl⟩ := d1 hM hf (fun _ => rfl)
    simp only [stepI] at hst
    split at hst
    · next y x rs => exact fun H locs cells slots ls hR hL hS hc hs => lv_ishr hexec hb hdg (hk _ _ _ _ hst H locs cells slots ls hR hL hS hc hs)
    · cases hst
  | ladd =>
    obtain ⟨hdg, rfl⟩ := d1 hM hf (fun _ => rfl)
    simp only [stepI] at hst
    split at hst
    · next y x rs => exact fun H locs cells slots ls hR hL hS hc hs => lv_ladd hexec hb hdg (hk _ _ _ _ hst H locs cells slots ls hR hL hS hc hs)
    · cases hst
  | lsub =>
    obtain ⟨hdg, rfl⟩ := d1 hM hf (fun _ => rfl)
    simp only [stepI] at hst
    split at hst
    · next y x rs => exact fun H locs cells slots ls hR hL hS hc hs => lv_lsub hexec hb hdg (hk _ _ _ _ hst H locs cells slots ls hR hL hS hc hs)
    · cases hst
  | land =>
    obtain ⟨hdg, rfl⟩ := d1 hM hf (fun _ => rfl)
    simp only [stepI] at hst
    split at hst
    · next y x rs => exact fun H locs cells slots ls hR hL hS hc hs => lv_land hexec hb hdg (hk _ _ _ _ hst H locs cells slots ls hR hL hS hc hs)
    · cases hst
  | lor =>
    obtain ⟨hdg, rfl⟩ := d1 hM hf (fun _ => rfl)
    simp only [stepI] at hst
    split at hst
    · next y x rs => exact fun H locs cells slots ls hR hL hS hc hs => lv_lor hexec hb hdg (hk _ _ _ _ hst H locs cells slots ls hR hL hS hc hs)
    · cases hst
  | lshl =>
    obtain ⟨hdg, rfl⟩ := d1 hM hf (fun _ => rfl)
    simp only [stepI] at hst
    split at hst
    · next y x rs => exact fun H locs cells slots ls hR hL hS hc hs => lv_lshl hexec hb hdg rfl (hk _ _ _ _ hst H locs cells slots ls hR hL hS hc hs)
    · cases hst
  | lcmp =>
    obtain ⟨hdg, rfl⟩ := d1 hM hf (fun _ => rfl)
    simp only [stepI] at hst
    split at hst
    · next y x rs => exact fun H locs cells slots ls hR hL hS hc hs => W.lcmp hexec hb hdg (hk _ _ _ _ hst H locs cells slots ls hR hL hS hc hs)
    · cases hst
  | idiv =>
    obtain ⟨hdg, rfl⟩ := d1 hM hf (fun _ => rfl)
    simp only [stepI] at hst
    split at hst
    · next y x rs =>
      obtain ⟨g1, hst⟩ := gd_some hst
      have g1 := of_decide_eq_true g1
      exact fun H locs cells slots ls hR hL hS hc hs => lv_idiv hexec hb hdg g1 (hk _ _ _ _ hst H locs cells slots ls hR hL hS hc hs)
    · cases hst
  | ineg =>
    obtain ⟨hdg, rfl⟩ := d1 hM hf (fun _ => rfl)
    simp only [stepI] at hst
    split at hst
    · next x rs => exact fun H locs cells slots ls hR hL hS hc hs => lv_ineg hexec hb hdg (hk _ _ _ _ hst H locs cells slots ls hR hL hS hc hs)
    · cases hst
  | i2l =>
    obtain ⟨hdg, rfl⟩ := d1 hM hf (fun _ => rfl)
    simp only [stepI] at hst
    split at hst
    · next x rs => exact fun H locs cells slots ls hR hL hS hc hs => lv_i2l hexec hb hdg rfl (hk _ _ _ _ hst H locs cells slots ls hR hL hS hc hs)
    · cases hst
  | l2i =>
    obtain ⟨hdg, rfl⟩ := d1 hM hf (fun _ => rfl)
    simp only [stepI] at hst
    split at hst
    · next x rs => exact fun H locs cells slots ls hR hL hS hc hs => lv_l2i hexec hb hdg rfl (hk _ _ _ _ hst H locs cells slots ls hR hL hS hc hs)
    · cases hst
  | goto off =>
    have htg : 0 ≤ (pc : Int) + off := of_decide_eq_true (dtg hM hf)
    obtain ⟨hdg, rfl⟩ := d3 hM hf (fun _ => rfl)
    simp only [stepI] at hst
    exact fun H locs cells slots ls hR hL hS hc hs => lv_goto hexec hb hdg (tg_ok htg) (hk _ _ _ _ hst H locs cells slots ls hR hL hS hc hs)
  | ifCond cd off =>
    have htg : 0 ≤ (pc : Int) + off := of_decide_eq_true (dtg hM hf)
    obtain ⟨hdg, rfl⟩ := d3 hM hf (fun _ => rfl)
    cases cd with
    | eq =>
      simp only [stepI] at hst
      split at hst
      · next x rs => exact fun H locs cells slots ls hR hL hS hc hs => lv_if_eq hexec hb hdg (tg_ok htg) (fun q => hk _ _ _ _ ((if_pos q).symm.trans hst) H locs cells slots ls hR hL hS hc hs) (fun q => hk _ _ _ _ ((if_neg q).symm.trans hst) H locs cells slots ls hR hL hS hc hs)
      · cases hst
    | ne =>
      simp only [stepI] at hst
      split at hst
      · next x rs => exact fun H locs cells slots ls hR hL hS hc hs => lv_if_ne hexec hb hdg (tg_ok htg) (fun q => hk _ _ _ _ ((if_pos q).symm.trans hst) H locs cells slots ls hR hL hS hc hs) (fun q => hk _ _ _ _ ((if_neg (fun z => z q)).symm.trans hst) H locs cells slots ls hR hL hS hc hs)
      · cases hst
    | lt =>
      simp only [stepI] at hst
      split at hst
      · next x rs => exact fun H locs cells slots ls hR hL hS hc hs => lv_if_lt hexec hb hdg (tg_ok htg) (fun q => hk _ _ _ _ ((if_pos q).symm.trans hst) H locs cells slots ls hR hL hS hc hs) (fun q => hk _ _ _ _ ((if_neg q).symm.trans hst) H locs cells slots ls hR hL hS hc hs)
      · cases hst
    | ge =>
      simp only [stepI] at hst
      split at hst
      · next x rs => exact fun H locs cells slots ls hR hL hS hc hs => lv_if_ge hexec hb hdg (tg_ok htg) (fun q => hk _ _ _ _ ((if_pos q).symm.trans hst) H locs cells slots ls hR hL hS hc hs) (fun q => hk _ _ _ _ ((if_neg q).symm.trans hst) H locs cells slots ls hR hL hS hc hs)
      · cases hst
    | gt =>
      simp only [stepI] at hst
      split at hst
      · next x rs => exact fun H locs cells slots ls hR hL hS hc hs => lv_if_gt hexec hb hdg (tg_ok htg) (fun q => hk _ _ _ _ ((if_pos q).symm.trans hst) H locs cells slots ls hR hL hS hc hs) (fun q => hk _ _ _ _ ((if_neg q).symm.trans hst) H locs cells slots ls hR hL hS hc hs)
      · cases hst
    | le =>
      simp only [stepI] at hst
      split at hst
      · next x rs => exact fun H locs cells slots ls hR hL hS hc hs => lv_if_le hexec hb hdg (tg_ok htg) (fun q => hk _ _ _ _ ((if_pos q).symm.trans hst) H locs cells slots ls hR hL hS hc hs) (fun q => hk _ _ _ _ ((if_neg q).symm.trans hst) H locs cells slots ls hR hL hS hc hs)
      · cases hst
  | if_icmp cd off =>
    have htg : 0 ≤ (pc : Int) + off := of_decide_eq_true (dtg hM hf)
    obtain ⟨hdg, rfl⟩ := d3 hM hf (fun _ => rfl)
    cases cd with
    | eq =>
      simp only [stepI] at hst
      split at hst
      · next y x rs => exact fun H locs cells slots ls hR hL hS hc hs => lv_icmp_eq hexec hb hdg (tg_ok htg) (fun q => hk _ _ _ _ ((if_pos q).symm.trans hst) H locs cells slots ls hR hL hS hc hs) (fun q => hk _ _ _ _ ((if_neg q).symm.trans hst) H locs cells slots ls hR hL hS hc hs)
      · cases hst
    | ne =>
      simp only [stepI] at hst
      split at hst
      · next y x rs => exact fun H locs cells slots ls hR hL hS hc hs => lv_icmp_ne hexec hb hdg (tg_ok htg) (fun q => hk _ _ _ _ ((if_pos q).symm.trans hst) H locs cells slots ls hR hL hS hc hs) (fun q => hk _ _ _ _ ((if_neg (fun z => z q)).symm.trans hst) H locs cells slots ls hR hL hS hc hs)
      · cases hst
    | lt =>
      simp only [stepI] at hst
      split at hst
      · next y x rs => exact fun H locs cells slots ls hR hL hS hc hs => lv_icmp_lt hexec hb hdg (tg_ok htg) (fun q => hk _ _ _ _ ((if_pos q).symm.trans hst) H locs cells slots ls hR hL hS hc hs) (fun q => hk _ _ _ _ ((if_neg q).symm.trans hst) H locs cells slots ls hR hL hS hc hs)
      · cases hst
    | ge =>
      simp only [stepI] at hst
      split at hst
      · next y x rs => exact fun H locs cells slots ls hR hL hS hc hs => lv_icmp_ge hexec hb hdg (tg_ok htg) (fun q => hk _ _ _ _ ((if_pos q).symm.trans hst) H locs cells slots ls hR hL hS hc hs) (fun q => hk _ _ _ _ ((if_neg q).symm.trans hst) H locs cells slots ls hR hL hS hc hs)
      · cases hst
    | gt =>
      simp only [stepI] at hst
      split at hst
      · next y x rs => exact fun H locs cells slots ls hR hL hS hc hs => lv_icmp_gt hexec hb hdg (tg_ok htg) (fun q => hk _ _ _ _ ((if_pos q).symm.trans hst) H locs cells slots ls hR hL hS hc hs) (fun q => hk _ _ _ _ ((if_neg q).symm.trans hst) H locs cells slots ls hR hL hS hc hs)
      · cases hst
    | le =>
      simp only [stepI] at hst
      split at hst
      · next y x rs => exact fun H locs cells slots ls hR hL hS hc hs => lv_icmp_le hexec hb hdg (tg_ok htg) (fun q => hk _ _ _ _ ((if_pos q).symm.trans hst) H locs cells slots ls hR hL hS hc hs) (fun q => hk _ _ _ _ ((if_neg q).symm.trans hst) H locs cells slots ls hR hL hS hc hs)
      · cases hst
  | if_acmp cd off =>
    have htg : 0 ≤ (pc : Int) + off := of_decide_eq_true (dtg hM hf)
    obtain ⟨hdg, rfl⟩ := d3 hM hf (fun _ => rfl)
    cases cd with
    | eq =>
      simp only [stepI] at hst
      split at hst
      · next y x rs => exact fun H locs cells slots ls hR hL hS hc hs => lv_acmp_eq (rx := op base x) (ry := op base y) hexec hb hdg (tg_ok htg) (fun q => hk _ _ _ _ ((if_pos (op_inj q)).symm.trans hst) H locs cells slots ls hR hL hS hc hs) (fun q => hk _ _ _ _ ((if_neg (fun z => q (congrArg _ z))).symm.trans hst) H locs cells slots ls hR hL hS hc hs)
      · cases hst
    | ne =>
      simp only [stepI] at hst
      split at hst
      · next y x rs => exact fun H locs cells slots ls hR hL hS hc hs => lv_acmp_ne (rx := op base x) (ry := op base y) hexec hb hdg (tg_ok htg) (fun q => hk _ _ _ _ ((if_pos (fun z => q (congrArg _ z))).symm.trans hst) H locs cells slots ls hR hL hS hc hs) (fun q => hk _ _ _ _ ((if_neg (fun z => z (op_inj q))).symm.trans hst) H locs cells slots ls hR hL hS hc hs)
      · cases hst
  | ifnull off =>
    have htg : 0 ≤ (pc : Int) + off := of_decide_eq_true (dtg hM hf)
    obtain ⟨hdg, rfl⟩ := d3 hM hf (fun _ => rfl)
    simp only [stepI] at hst
    split at hst
    · next x rs =>
      intro H locs cells slots ls hR hL hS hc hs
      by_cases hx : x = 0
      · subst hx
        exact lv_ifnullN hexec hb hdg (tg_ok htg) (hk _ _ _ _ ((if_pos rfl).symm.trans hst) H locs cells slots ls hR hL hS hc hs)
      · have e : ((Value.ref x :: rs).map (cv base b)) = .ref (base + x) :: rs.map (cv base b) := y_arg2 rs hx
        rw [e]
        exact lv_ifnull hexec hb hdg (hk _ _ _ _ ((if_neg hx).symm.trans hst) H locs cells slots ls hR hL hS hc hs)
    · cases hst
  | ifnonnull off =>
    have htg : 0 ≤ (pc : Int) + off := of_decide_eq_true (dtg hM hf)
    obtain ⟨hdg, rfl⟩ := d3 hM hf (fun _ => rfl)
    simp only [stepI] at hst
    split at hst
    · next x rs =>
      intro H locs cells slots ls hR hL hS hc hs
      by_cases hx : x = 0
      · subst hx
        exact lv_ifnonnullN hexec hb hdg (hk _ _ _ _ ((if_pos rfl).symm.trans hst) H locs cells slots ls hR hL hS hc hs)
      · have e : ((Value.ref x :: rs).map (cv base b)) = .ref (base + x) :: rs.map (cv base b) := y_arg2 rs hx
        rw [e]
        exact lv_ifnonnull hexec hb hdg (tg_ok htg) (hk _ _ _ _ ((if_neg hx).symm.trans hst) H locs cells slots ls hR hL hS hc hs)
    · cases hst
  | tableswitch dd lo hi os =>
    obtain ⟨hdg, htg⟩ := dsw hM hf
    simp only [stepI] at hst
    split at hst
    · next x rs =>
      obtain ⟨g1, hst⟩ := gd_some hst
      have g1 := of_decide_eq_true g1
      simp only [tgk, Bool.and_eq_true, decide_eq_true_eq, List.all_eq_true] at htg
      intro H locs cells slots ls hR hL hS hc hs
      unfold swp at hst
      by_cases hx : x.toInt < lo ∨ hi < x.toInt
      · rw [if_pos hx] at hst
        exact lv_tableOut hexec hb hdg hx (tg_ok htg.1) (hk _ _ _ _ hst H locs cells slots ls hR hL hS hc hs)
      · rw [if_neg hx] at hst
        have hlt : (x.toInt - lo).toNat < os.toList.length := by omega
        have e1 : os.toList.getD (x.toInt - lo).toNat dd = os.toList[(x.toInt - lo).toNat] := by rw [List.getD_eq_getElem?_getD, List.getElem?_eq_getElem hlt]; rfl
        rw [e1] at hst
        exact lv_tableIn hexec hb hdg (fun z => hx (Or.inl z)) (fun z => hx (Or.inr z)) (by rw [← Array.getElem?_toList, List.getElem?_eq_getElem hlt]) (tg_ok (htg.2 _ (List.getElem_mem hlt))) (hk _ _ _ _ hst H locs cells slots ls hR hL hS hc hs)
    · cases hst
  | getfield idx =>
    obtain ⟨hdg, rfl⟩ := d3 hM hf (fun _ => rfl)
    simp only [stepI] at hst
    split at hst
    · next f q hcp =>
      split at hst
      · next a rs =>
        obtain ⟨g1, hst⟩ := gd_some hst
        obtain ⟨ref, pl, ps⟩ := q
        exact fun H locs cells slots ls hR hL hS hc hs => y_get hexec hb hsw hown hcp hR g1 hdg (by rw [← cv_rdF base b]; exact hk _ _ _ _ hst H locs cells slots ls hR hL hS hc hs)
      · cases hst
    · cases hst
  | putfield idx =>
    obtain ⟨hdg, rfl⟩ := d3 hM hf (fun _ => rfl)
    simp only [stepI] at hst
    split at hst
    · next f q hcp =>
      obtain ⟨g0, hst⟩ := gd_some hst
      obtain ⟨ref, pl, ps⟩ := q
      have tail : ∀ (x : Value) (a : Nat) (rs : List Value) (h2 : AH), hasF (tg h a) f = true → h2.2 = h.2 → (∀ g y, ¬ (g = f ∧ y = a) → fv base h2 g y = fv base h g y) → fv base h2 f a = cv base b x → narrow (ftF f) (cv base b x) = cv base b x → fits (ftF f) (cv base b x) = true → k (pc + 3) absL rs h2 = some (h', r) → nn h2 = nn h → sl h2 = sl h → GoT l base D A b p e R s m args below meth c Q M h' pc absL (x :: .ref a :: rs) h := by
        intro x a rs h2 g1 e1 e2 e3 e4 e5 hst e6 e7 H locs cells slots ls hR hL hS hc hs
        refine y_put0 (M := M) hexec hb hsw rfl hown hmn g0 hcp hR g1 hdg (v := cv base b x) e4 e5 (fun ci k2 H1 sl u1 u2 u3 u4 u5 u6 u7 => ?_)
        exact hk _ _ _ _ hst H1 _ cells slots ls (hR.put u1 u2 u3 u4 e1 e2 e3 u5 u6 u7) hL (y_S hS (hR.2.2 a (by omega)).1 u6 u7) (by rw [e6]; exact hc) (by rw [e7]; exact hs)
      split at hst
      · next hft =>
        split at hst
        · next x a rs _ =>
          obtain ⟨g1, hst⟩ := gd_some hst
          obtain ⟨c1, k1, t1, t2, t3, t4⟩ := hasF_spec g1
          have hft2 : ftF f = .int := by rcases fk_of t2 t3 t4 with q | q | q <;> first | exact q.2 | (rw [hft] at q; exact absurd q.1 (by decide))
          exact tail (.int x) a rs (wI h f a x) g1 rfl (fv_wI hft).1 (fv_wI hft).2 (by rw [hft2]; rfl) (by rw [hft2]; rfl) hst rfl rfl
        · cases hst
      · next hft =>
        split at hst
        · next x a rs _ =>
          obtain ⟨g1, hst⟩ := gd_some hst
          obtain ⟨c1, k1, t1, t2, t3, t4⟩ := hasF_spec g1
          have hft2 : ftF f = .long := by rcases fk_of t2 t3 t4 with q | q | q <;> first | exact q.2 | (rw [hft] at q; exact absurd q.1 (by decide))
          exact tail (.long x) a rs (wL h f a x) g1 rfl (fv_wL hft).1 (fv_wL hft).2 (by rw [hft2]; rfl) (by rw [hft2]; rfl) hst rfl rfl
        · cases hst
      · next hft0 hft1 =>
        split at hst
        · next x a rs _ =>
          obtain ⟨g1, hst⟩ := gd_some hst
          obtain ⟨c1, k1, t1, t2, t3, t4⟩ := hasF_spec g1
          have hft2 : fty f = 2 ∧ (ftF f).isReference = true := by rcases fk_of t2 t3 t4 with q | q | q <;> first | exact q | exact absurd q.1 hft0 | exact absurd q.1 hft1
          exact tail (.ref x) a rs (wR h f a x) g1 rfl (fv_wR hft2.1).1 (fv_wR hft2.1).2 (nar_ref hft2.2 _).1 (nar_ref hft2.2 _).2 hst rfl rfl
        · cases hst
    · cases hst
  | new idx =>
    obtain ⟨hdg, rfl⟩ := d3 hM hf (fun _ => rfl)
    simp only [stepI] at hst
    split at hst
    · next ci q hcp =>
      obtain ⟨g1, hst⟩ := gd_some hst
      have g1 := of_decide_eq_true g1
      have hmo := hkm _ _ _ _ hst
      have m1 : nn (mk h (ci + 1) 0 (ctab ci).length) = nn h + 1 := rfl
      have m2 : sl (mk h (ci + 1) 0 (ctab ci).length) = sl h + (ctab ci).length := rfl
      rw [m1, m2] at hmo
      intro H locs cells slots ls hR hL hS hc hs
      exact y_new hexec hb hsw hown hcp g1 hR hS (by omega) (by omega) hdg (fun H1 r1 s1 => hk _ _ _ _ hst H1 locs _ _ ls r1 hL s1 (by rw [m1]; omega) (by rw [m2]; omega))
    · cases hst
  | newarray at2 =>
    obtain ⟨hdg, rfl⟩ := d2 hM hf (fun _ => rfl)
    cases at2 with
    | int =>
      simp only [stepI] at hst
      split at hst
      · next n rs =>
        obtain ⟨g1, hst⟩ := gd_some hst
        have g1 := of_decide_eq_true g1
        have hmo := hkm _ _ _ _ hst
        have m1 : nn (mk h 20 n.toNatClampNeg n.toNatClampNeg) = nn h + 1 := rfl
        have m2 : sl (mk h 20 n.toNatClampNeg n.toNatClampNeg) = sl h + n.toNatClampNeg := rfl
        rw [m1, m2] at hmo
        intro H locs cells slots ls hR hL hS hc hs
        exact y_newi hexec hb hsw (hsw.1 _ ax_i args) hR hS g1 (by omega) (by omega) hdg (fun H1 r1 s1 => hk _ _ _ _ hst H1 locs _ _ ls r1 hL s1 (by rw [m1]; omega) (by rw [m2]; omega))
      · cases hst
    | long =>
      simp only [stepI] at hst
      split at hst
      · next n rs =>
        obtain ⟨g1, hst⟩ := gd_some hst
        have g1 := of_decide_eq_true g1
        have hmo := hkm _ _ _ _ hst
        have m1 : nn (mk h 21 n.toNatClampNeg n.toNatClampNeg) = nn h + 1 := rfl
        have m2 : sl (mk h 21 n.toNatClampNeg n.toNatClampNeg) = sl h + n.toNatClampNeg := rfl
        rw [m1, m2] at hmo
        intro H locs cells slots ls hR hL hS hc hs
        exact y_newl hexec hb hsw (hsw.1 _ ax_l args) hR hS g1 (by omega) (by omega) hdg (fun H1 r1 s1 => hk _ _ _ _ hst H1 locs _ _ ls r1 hL s1 (by rw [m1]; omega) (by rw [m2]; omega))
      · cases hst
    | _ => cases hst
  | anewarray idx =>
    obtain ⟨hdg, rfl⟩ := d3 hM hf (fun _ => rfl)
    simp only [stepI] at hst
    split at hst
    · next q hcp =>
      split at hst
      · next n rs =>
        obtain ⟨g1, hst⟩ := gd_some hst
        have g1 := of_decide_eq_true g1
        have hmo := hkm _ _ _ _ hst
        have m1 : nn (mk h 22 n.toNatClampNeg n.toNatClampNeg) = nn h + 1 := rfl
        have m2 : sl (mk h 22 n.toNatClampNeg n.toNatClampNeg) = sl h + n.toNatClampNeg := rfl
        rw [m1, m2] at hmo
        intro H locs cells slots ls hR hL hS hc hs
        exact y_newr hexec hb hsw hown hcp hR hS g1 (by omega) (by omega) hdg (fun H1 r1 s1 => hk _ _ _ _ hst H1 locs _ _ ls r1 hL s1 (by rw [m1]; omega) (by rw [m2]; omega))
      · cases hst
    · cases hst
  | arraylength =>
    obtain ⟨hdg, rfl⟩ := d1 hM hf (fun _ => rfl)
    simp only [stepI] at hst
    split at hst
    · next a rs =>
      obtain ⟨g1, hst⟩ := gd_some hst
      exact fun H locs cells slots ls hR hL hS hc hs => y_alen hexec hb hsw hR g1 hdg (hk _ _ _ _ hst H locs cells slots ls hR hL hS hc hs)
    · next z rs => exact fun H locs cells slots ls hR hL hS hc hs => va_slen hexec hb hX (by omega) (show ¬ base < b by omega) hS hdg (hk _ _ _ _ hst H locs cells slots ls hR hL hS hc hs)
    · cases hst
  | iaload =>
    obtain ⟨hdg, rfl⟩ := d1 hM hf (fun _ => rfl)
    simp only [stepI] at hst
    split at hst
    · next j a rs =>
      obtain ⟨g1, hst⟩ := gd_some hst
      simp only [Bool.and_eq_true, decide_eq_true_eq] at g1
      exact fun H locs cells slots ls hR hL hS hc hs => y_iald hexec hb hsw hR g1.1 g1.2 hdg (hk _ _ _ _ hst H locs cells slots ls hR hL hS hc hs)
    · next j z rs =>
      obtain ⟨g1, hst⟩ := gd_some hst
      exact fun H locs cells slots ls hR hL hS hc hs => va_sld hexec hb hX (by omega) (show ¬ base < b by omega) hS (inb_in g1) hdg (hk _ _ _ _ hst H locs cells slots ls hR hL hS hc hs)
    · cases hst
  | laload =>
    obtain ⟨hdg, rfl⟩ := d1 hM hf (fun _ => rfl)
    simp only [stepI] at hst
    split at hst
    · next j a rs =>
      obtain ⟨g1, hst⟩ := gd_some hst
      simp only [Bool.and_eq_true, decide_eq_true_eq] at g1
      exact fun H locs cells slots ls hR hL hS hc hs => y_lald hexec hb hsw hR g1.1 g1.2 hdg (hk _ _ _ _ hst H locs cells slots ls hR hL hS hc hs)
    · cases hst
  | aaload =>
    obtain ⟨hdg, rfl⟩ := d1 hM hf (fun _ => rfl)
    simp only [stepI] at hst
    split at hst
    · next j a rs =>
      obtain ⟨g1, hst⟩ := gd_some hst
      simp only [Bool.and_eq_true, decide_eq_true_eq] at g1
      exact fun H locs cells slots ls hR hL hS hc hs => y_aald hexec hb hsw hR g1.1 g1.2 hdg (hk _ _ _ _ hst H locs cells slots ls hR hL hS hc hs)
    · cases hst
  | iastore =>
    obtain ⟨hdg, rfl⟩ := d1 hM hf (fun _ => rfl)
    simp only [stepI] at hst
    split at hst
    · next x j a rs =>
      obtain ⟨g1, hst⟩ := gd_some hst
      simp only [Bool.and_eq_true, decide_eq_true_eq] at g1
      exact fun H locs cells slots ls hR hL hS hc hs => y_iast hexec hb hsw hR hS g1.1 g1.2 hdg (fun H1 locs1 r1 s1 => hk _ _ _ _ hst H1 locs1 cells slots ls r1 hL s1 hc hs)
    · cases hst
  | lastore =>
    obtain ⟨hdg, rfl⟩ := d1 hM hf (fun _ => rfl)
    simp only [stepI] at hst
    split at hst
    · next x j a rs =>
      obtain ⟨g1, hst⟩ := gd_some hst
      simp only [Bool.and_eq_true, decide_eq_true_eq] at g1
      exact fun H locs cells slots ls hR hL hS hc hs => y_last hexec hb hsw hR hS g1.1 g1.2 hdg (fun H1 locs1 r1 s1 => hk _ _ _ _ hst H1 locs1 cells slots ls r1 hL s1 hc hs)
    · cases hst
  | aastore =>
    obtain ⟨hdg, rfl⟩ := d1 hM hf (fun _ => rfl)
    simp only [stepI] at hst
    split at hst
    · next x j a rs =>
      obtain ⟨g1, hst⟩ := gd_some hst
      simp only [Bool.and_eq_true, decide_eq_true_eq] at g1
      exact fun H locs cells slots ls hR hL hS hc hs => y_aast hexec hb hsw hR hS g1.1.1 g1.1.2 g1.2 hdg (fun H1 locs1 r1 s1 => hk _ _ _ _ hst H1 locs1 cells slots ls r1 hL s1 hc hs)
    · cases hst
  | instanceof idx =>
    obtain ⟨hdg, rfl⟩ := d3 hM hf (fun _ => rfl)
    simp only [stepI] at hst
    split at hst
    · next ci q hcp =>
      split at hst
      · next a rs =>
        by_cases ha : a = 0
        · subst ha
          exact fun H locs cells slots ls hR hL hS hc hs => lv_instN hexec hb hdg (hk _ _ _ _ ((if_pos rfl).symm.trans hst) H locs cells slots ls hR hL hS hc hs)
        · rw [if_neg ha] at hst
          obtain ⟨g1, hst⟩ := gd_some hst
          have g1 := of_decide_eq_true g1
          rcases g1 with g | g
          · exact fun H locs cells slots ls hR hL hS hc hs => y_inst hexec hb hsw hown hcp hR g hdg (by rw [if_pos g] at hst; exact hk _ _ _ _ hst H locs cells slots ls hR hL hS hc hs)
          · exact fun H locs cells slots ls hR hL hS hc hs => y_inst hexec hb hsw hown hcp hR g hdg (by rw [if_neg (by rw [g]; decide)] at hst; exact hk _ _ _ _ hst H locs cells slots ls hR hL hS hc hs)
      · cases hst
    · cases hst
  | checkcast idx =>
    obtain ⟨hdg, rfl⟩ := d3 hM hf (fun _ => rfl)
    simp only [stepI] at hst
    split at hst
    · next ci q hcp =>
      split at hst
      · next a rs =>
        obtain ⟨g1, hst⟩ := gd_some hst
        simp only [Bool.or_eq_true, decide_eq_true_eq] at g1
        rcases g1 with g | g
        · subst g
          exact fun H locs cells slots ls hR hL hS hc hs => lv_castN hexec hb hdg (hk _ _ _ _ hst H locs cells slots ls hR hL hS hc hs)
        · exact fun H locs cells slots ls hR hL hS hc hs => y_cast hexec hb hsw hown hcp hR g hdg (hk _ _ _ _ hst H locs cells slots ls hR hL hS hc hs)
      · cases hst
    · cases hst
  | invokestatic idx =>
    obtain ⟨hdg, rfl⟩ := d3 hM hf (fun _ => rfl)
    have hck := dck hM hf
    simp only [calk] at hck
    simp only [stepI] at hst
    split at hst
    · next q hcp =>
      split at hst
      · next y x rs =>
        obtain ⟨g1, hst⟩ := gd_some hst
        have g1 := of_decide_eq_true g1
        obtain ⟨np, rk, x', owner, tgs⟩ := q
        rw [hcp] at hck
        simp only [Bool.and_eq_true, Bool.or_eq_true, decide_eq_true_eq] at hck
        have hfl : 1 ≤ mfr M ∧ 21 ≤ mlo M := by
          rcases hck with z | z
          · exact ⟨z.1.2, z.2⟩
          · exact absurd z.1 (by decide)
        obtain ⟨p1, p2, p3, w1, w2, w3⟩ := kM_max hcp
        have hmo := hkm _ _ _ _ hst
        intro H locs cells slots ls hR hL hS hc hs
        have hsz : ls.size = mxl M := by obtain ⟨-, lv, h1', -⟩ := hL; exact h1'.1
        have hq := y_cat (m := m) (base := base) (b := b) g1 pc ls []
        exact va_mmax hexec hb (by rw [hml, hsz]) hown (hsw.wd w1 args) (hsw.wd w2 args) (hsw.wd w3 args) (hsw.1 _ (List.mem_filter.mpr ⟨List.mem_of_getElem? kX2, rfl⟩) args) (by omega) (by have : 2 * 0 + ((rs.map (cv base b)).map fun v => v.category).sum ≤ 8 := hq; omega) (by omega) (by omega) hdg (hk _ _ _ _ hst H locs cells slots ls hR hL hS hc hs)
      · cases hst
    · next kd np rk q hne hcp =>
      obtain ⟨x, owner, tgs⟩ := q
      have hkd7 : kd ≠ 7 := fun z => hne z
      rw [hcp] at hck
      simp only [Bool.and_eq_true, Bool.or_eq_true, decide_eq_true_eq] at hck
      have hck : kd ≤ 1 ∧ roomk M tgs = true := by
        rcases hck with z | z
        · exact absurd z.1.1 hkd7
        · exact z
      split at hst
      · next as rs hta =>
          obtain ⟨g1, hst⟩ := gd_some hst
          have g1 := of_decide_eq_true g1
          obtain ⟨h1, v, hcf, hst⟩ := bK_some hst
          obtain ⟨e0, M', ps, he, hlk, hly, hcf⟩ := cfD_some hcf
          rw [hcp] at he
          cases he
          have hmem := lkp_in hlk
          have hrm := List.all_eq_true.mp hck.2 _ hmem
          simp only [Bool.and_eq_true, decide_eq_true_eq] at hrm
          obtain ⟨hMt, n1, n2⟩ := hc' M' _ h h1 v hcf hrm.1.2 hrm.2 hly
          have hkk := cpM_ok hcp
          have hk1 := kM_all hkk (by omega) (by omega) hmem
          have hmo := hkm _ _ _ _ hst
          obtain ⟨ta, tb⟩ := takeA_0 hta
          subst tb
          intro H locs cells slots ls hR hL hS hc hs
          have hXH := va_Xs hX hbb hbs hS
          refine y_call (y_invS hexec hb hml hsw hXH hown (show kd = 0 ∨ kd = 1 by omega) hk1 hrm.1.2 hrm.2 (by omega) (by omega) hR ta (by obtain ⟨-, lv, h1', -⟩ := hL; exact h1'.1) g1 hdg ⟨by omega, by omega⟩ hMt) hS (fun H1 locs1 r1 s1 => ?_)
          have := hk _ _ _ _ hst H1 locs1 (cells + (nn h1 - nn h)) (slots + (sl h1 - sl h)) ls r1 hL s1 (by omega) (by omega)
          rw [List.map_append, vmap] at this
          exact this
      · cases hst
    · cases hst
  | invokevirtual idx =>
    obtain ⟨hdg, rfl⟩ := d3 hM hf (fun _ => rfl)
    have hck := dck hM hf
    simp only [calk] at hck
    simp only [stepI] at hst
    split at hst
    · next kd np rk q hcp =>
      obtain ⟨x, owner, tgs⟩ := q
      split at hst
      · next as a rs hta =>
          obtain ⟨g1, hst⟩ := gd_some hst
          simp only [Bool.and_eq_true, decide_eq_true_eq] at g1
          obtain ⟨h1, v, hcf, hst⟩ := bK_some hst
          obtain ⟨e0, M', ps, he, hlk, hly, hcf⟩ := cfD_some hcf
          rw [hcp] at he
          cases he
          rw [hcp] at hck
          simp only [Bool.and_eq_true, decide_eq_true_eq, List.all_eq_true] at hck
          have hmem := lkp_in hlk
          have hrm := List.all_eq_true.mp hck.1.2 _ hmem
          simp only [Bool.and_eq_true, decide_eq_true_eq] at hrm
          obtain ⟨hMt, n1, n2⟩ := hc' M' _ h h1 v hcf hrm.1.2 hrm.2 hly
          have hkk := cpM_ok hcp
          have hk1 := kM_all hkk (by omega) (by omega) hmem
          have hmo := hkm _ _ _ _ hst
          obtain ⟨ta, tb⟩ := takeA_0 hta
          subst tb
          intro H locs cells slots ls hR hL hS hc hs
          have hXH := va_Xs hX hbb hbs hS
          refine y_call (y_invV hexec hb hml hsw hXH hown hck.1.1 hk1 hrm.1.2 hrm.2 (by omega) (by omega) hR g1.1 rfl (hck.2 _ hmem) ta (by obtain ⟨-, lv, h1', -⟩ := hL; exact h1'.1) g1.2 hdg ⟨by omega, by omega⟩ hMt) hS (fun H1 locs1 r1 s1 => ?_)
          have := hk _ _ _ _ hst H1 locs1 (cells + (nn h1 - nn h)) (slots + (sl h1 - sl h)) ls r1 hL s1 (by omega) (by omega)
          rw [List.map_append, vmap] at this
          exact this
      · cases hst
    · cases hst
  | invokespecial idx =>
    obtain ⟨hdg, rfl⟩ := d3 hM hf (fun _ => rfl)
    have hck := dck hM hf
    simp only [calk] at hck
    simp only [stepI] at hst
    split at hst
    · next q hcp =>
      split at hst
      · next a rs =>
        obtain ⟨g1, hst⟩ := gd_some hst
        simp only [Bool.and_eq_true, decide_eq_true_eq] at g1
        obtain ⟨np, rk, x, owner, tgs⟩ := q
        rw [hcp] at hck
        simp only [Bool.and_eq_true, Bool.or_eq_true, decide_eq_true_eq] at hck
        have hol := kM_obj hcp
        intro H locs cells slots ls hR hL hS hc hs
        have e : ((Value.ref a :: rs).map (cv base b)) = .ref (base + a) :: rs.map (cv base b) := y_arg2 rs g1.1
        rw [e]
        have hq := y_cat (m := m) (base := base) (b := b) g1.2 pc ls (.ref (base + a) :: rs.map (cv base b))
        have hfl : 1 ≤ mfr M ∧ 20 ≤ mlo M := by
          rcases hck with z | z
          · exact ⟨z.1.2, z.2⟩
          · exact absurd z.1.1 (by decide)
        exact W.objInit hexec hb hown (hsw.wd hol args) (hsw.wd kO1 args) (hsw.1 _ (List.mem_filter.mpr ⟨List.mem_of_getElem? kO2, rfl⟩) args) rfl (by obtain ⟨-, lv, h1', -⟩ := hL; rw [hml]; exact h1'.1) rfl hdg (by omega) (by omega) (hk _ _ _ _ hst H locs cells slots ls hR hL hS hc hs)
      · cases hst
    · next kd np rk q hne hcp =>
      obtain ⟨x, owner, tgs⟩ := q
      split at hst
      · next as a rs hta =>
          obtain ⟨g1, hst⟩ := gd_some hst
          simp only [Bool.and_eq_true, decide_eq_true_eq] at g1
          have hkd4 : kd ≠ 4 := fun z => hne z
          have hck2 : ((kd = 2 ∨ kd = 3) ∧ roomk M tgs = true) ∧ ∀ q ∈ tgs, mrt q.2.1 = none := by
            rw [hcp] at hck
            simp only [Bool.and_eq_true, Bool.or_eq_true, decide_eq_true_eq, List.all_eq_true] at hck
            rcases hck with z | z
            · exact absurd z.1.1 hkd4
            · exact z
          clear hck
          obtain ⟨h1, v, hcf, hst⟩ := bK_some hst
          obtain ⟨e0, M', ps, he, hlk, hly, hcf⟩ := cfD_some hcf
          rw [hcp] at he
          cases he
          have hmem := lkp_in hlk
          have hrm := List.all_eq_true.mp hck2.1.2 _ hmem
          simp only [Bool.and_eq_true, decide_eq_true_eq] at hrm
          obtain ⟨hMt, n1, n2⟩ := hc' M' _ h h1 v hcf hrm.1.2 hrm.2 hly
          have hkk := cpM_ok hcp
          have hk1 := kM_all hkk hkd4 (by omega) hmem
          have hmo := hkm _ _ _ _ hst
          obtain ⟨ta, tb⟩ := takeA_0 hta
          subst tb
          intro H locs cells slots ls hR hL hS hc hs
          have hXH := va_Xs hX hbb hbs hS
          refine y_call (y_invI hexec hb hml hsw hXH hown hck2.1.1 hk1 hrm.1.2 hrm.2 (hck2.2 _ hmem) (by omega) (by omega) hR g1.1 ta (by obtain ⟨-, lv, h1', -⟩ := hL; exact h1'.1) g1.2 hdg ⟨by omega, by omega⟩ hMt) hS (fun H1 locs1 r1 s1 => ?_)
          have := hk _ _ _ _ hst H1 locs1 (cells + (nn h1 - nn h)) (slots + (sl h1 - sl h)) ls r1 hL s1 (by omega) (by omega)
          rw [List.map_append, vmap] at this
          exact this
      · cases hst
    · cases hst
  | ireturn =>
    obtain ⟨hdg, rfl⟩ := d1 hM hf (fun _ => rfl)
    simp only [stepI] at hst
    split at hst
    · next x =>
      obtain ⟨g1, hst⟩ := gd_some hst
      simp only [Bool.or_eq_true, Bool.and_eq_true, decide_eq_true_eq] at g1
      cases hst
      intro H locs cells slots ls hR hL hS hc hs
      exact fin H locs cells slots pc ls _ hR hS (by omega) (by omega) hdg (Or.inl ⟨rfl, x, rfl, g1⟩)
    · cases hst
  | lreturn =>
    obtain ⟨hdg, rfl⟩ := d1 hM hf (fun _ => rfl)
    simp only [stepI] at hst
    split at hst
    · next x =>
      obtain ⟨g1, hst⟩ := gd_some hst
      simp only [Bool.or_eq_true, Bool.and_eq_true, decide_eq_true_eq] at g1
      cases hst
      intro H locs cells slots ls hR hL hS hc hs
      exact fin H locs cells slots pc ls _ hR hS (by omega) (by omega) hdg (Or.inr (Or.inl ⟨rfl, x, rfl, g1⟩))
    · cases hst
  | areturn =>
    obtain ⟨hdg, rfl⟩ := d1 hM hf (fun _ => rfl)
    simp only [stepI] at hst
    split at hst
    · next x =>
      obtain ⟨g1, hst⟩ := gd_some hst
      simp only [Bool.or_eq_true, Bool.and_eq_true, decide_eq_true_eq] at g1
      cases hst
      intro H locs cells slots ls hR hL hS hc hs
      exact fin H locs cells slots pc ls _ hR hS (by omega) (by omega) hdg (Or.inr (Or.inr (Or.inl ⟨rfl, x, rfl, g1⟩)))
    · cases hst
  | return_ =>
    obtain ⟨hdg, rfl⟩ := d1 hM hf (fun _ => rfl)
    simp only [stepI] at hst
    split at hst
    · next =>
      obtain ⟨g1, hst⟩ := gd_some hst
      simp only [Bool.or_eq_true, Bool.and_eq_true, decide_eq_true_eq] at g1
      cases hst
      intro H locs cells slots ls hR hL hS hc hs
      exact fin H locs cells slots pc ls _ hR hS (by omega) (by omega) hdg (Or.inr (Or.inr (Or.inr ⟨rfl, rfl, g1⟩)))
    · cases hst
  | _ => cases hst
