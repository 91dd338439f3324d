-- the interpreter's answer is the machine's: for methods, and for the law
def R_law : String := "StepPurseLaw"
def lw_P (b : Addr) (xs : List Int32) (args : Array Value) (s : State) : Prop := args = #[.ref b] ∧ s.IntsAt b xs ∧ xs.length ≤ 2560 ∧ (Jvm.Cond.and given_1 narrow_1).before args s = true
def lw_Q (_ : Array Value) (s : State) (o : Outcome) (t : State) : Prop := o = .returned (some (.int 1)) ∧ Framed s o t [] room_1.cells room_1.slots
def lw_Z (below : List Frame) (a : Array Value) (s : State) : State → Prop := fun t => ∃ o, t.status = .running ∧ Ended t below o ∧ lw_Q a s o t
/-- the law's own end, with 1 on the stack, nothing written that was there before, its room as the claim has it -/
theorem lw_ret {p : Program} {l : Launch} {e : Env} {s : State} {m : MethodId} {below : List Frame} {meth : Method} {c : Code} {b : Nat} (hx : p.tables.exec = Jvm.exec) (hb : c.code = code) (hr : meth.sig.returnType = ret) (hlocks : meth.locks = false) {pc : Nat} {H : Heap} {ls : Array Slot} (hdg : decode code pc = .ok (.ireturn, 1)) : W p l e room_1 s m #[Value.ref b] below meth c H [] room_1.cells room_1.slots (lw_Z below #[Value.ref b] s) (F0 m pc ls [.int 1]) := by
  intro T hT X
  obtain ⟨fs, hret, hrun, hended, hW, hframe⟩ := X.leave (v := some (.int 1)) (hlocks := hlocks) (fun h => by rw [hr] at h; cases h)
  have hmeth' : T.vm.method? m = some meth := X.method'
  refine ⟨T.setFrames fs, ?_, .returned (some (.int 1)), hrun, hended, rfl, ⟨_, rfl⟩, hW, hframe⟩
  jvm_step X.here [X.here.top, hx, hb, hdg, hmeth', hr, ret, narrow_b1]
  (try refine ⟨rfl, ?_⟩); (try refine ⟨rfl, ?_⟩)
  first | (intro acts; rw [hret _ acts rfl rfl rfl]) | rw [hret _ _ rfl rfl rfl]
  exact Steps.refl _
/-- what holds at the law's entry: the machine, the code, the tables' words (any of lw_tbl by 'hts w (by decide +kernel)'), the script of L ints xs at the cell b, what the Statement gives of the start (any of its parts by flat_of_before) -/
def lw_At (p : Program) (s : State) (m : MethodId) (meth : Method) (c : Code) (b L : Nat) (xs : Nat → Int32) : Prop :=
  p.tables.exec = Jvm.exec ∧ c.code = code ∧ meth.sig.returnType = ret ∧ c.maxLocals = 4 ∧ s.vm.findClass R_law = some m.cls ∧ (∀ w ∈ lw_tbl, w.before #[Value.ref b] s = true) ∧ va_X b L xs s s.heap ∧ b < s.heap.size ∧ meth.locks = false ∧ (Jvm.Cond.and given_1 narrow_1).before #[Value.ref b] s = true

theorem pn_ok : (List.range 189).all (fun M => plainName (mnm M).cls && decide ((mnm M).cls = xcl (mow M))) = true := by decide +kernel
theorem rt_ok : (List.range 189).all (fun M => (decide (mrk M = 1) && decide (mrt M = some .int)) || (decide (mrk M = 4) && decide (mrt M = some .boolean)) || (decide (mrk M = 2) && decide (mrt M = some .long)) || (decide (mrk M = 0) && decide (mrt M = none)) || (decide (mrk M = 3) && (match mrt M with | some (.object _) => true | some (.array _) => true | _ => false))) = true := by decide +kernel
theorem rf_nr (o : Option Nat) : va_rf o = .null ∨ ∃ a, va_rf o = .ref a := by
  cases o with
  | none => exact Or.inl rfl
  | some a => exact Or.inr ⟨a, rfl⟩
theorem layA_len (base b : Nat) : ∀ as : List Value, (lg_sl (as.map (cv base b))).length = (layA as).length
  | [] => rfl
  | v :: t => by
    have ih := layA_len base b t
    have hc := cv_cat base b v
    by_cases h : v.category = 2
    · have h2 : (cv base b v).category = 2 := by rw [hc]; exact h
      simp only [List.map_cons, lg_sl, List.flatMap_cons, h2, if_true, layA, h, List.length_append, List.length_cons, List.length_nil]
      simp only [lg_sl] at ih
      rw [ih]
      omega
    · have h2 : ¬ (cv base b v).category = 2 := by rw [hc]; exact h
      simp only [List.map_cons, lg_sl, List.flatMap_cons, h2, if_false, layA, h, List.length_append, List.length_cons, List.length_nil]
      simp only [lg_sl] at ih
      rw [ih]
      omega
theorem layA_get (base b : Nat) : ∀ (as : List Value) (o i : Nat) (v : Value), (layA as)[i]? = some v → v ≠ .null → (o + i, cv base b v) ∈ lv_args o (as.map (cv base b))
  | [], o, i, v, h, _ => by cases h
  | w :: t, o, i, v, h, h0 => by
    have hc := cv_cat base b w
    rw [List.map_cons]
    unfold lv_args
    rw [hc]
    by_cases hw : w.category = 2
    · rw [if_pos hw]
      simp only [layA, if_pos hw] at h
      match i, h with
      | 0, h => cases h; exact List.mem_cons_self
      | 1, h => cases h; exact absurd rfl h0
      | i + 2, h =>
        have := layA_get base b t (o + 2) i v h h0
        rw [show o + 2 + i = o + (i + 2) by omega] at this
        exact List.mem_cons_of_mem _ this
    · rw [if_neg hw]
      simp only [layA, if_neg hw] at h
      match i, h with
      | 0, h => cases h; exact List.mem_cons_self
      | i + 1, h =>
        have := layA_get base b t (o + 1) i v h h0
        rw [show o + 1 + i = o + (i + 1) by omega] at this
        exact List.mem_cons_of_mem _ this
theorem padL_len : ∀ (n : Nat) (l : List Value), (padL n l).length = n
  | 0, _ => rfl
  | n + 1, [] => by show (padL n []).length + 1 = _; rw [padL_len n []]
  | n + 1, v :: t => by show (padL n t).length + 1 = _; rw [padL_len n t]
theorem padL_get : ∀ (n : Nat) (l : List Value) (i : Nat) (v : Value), (padL n l)[i]? = some v → v ≠ .null → l[i]? = some v
  | 0, _, i, v, h, _ => by cases h
  | n + 1, [], i, v, h, h0 => by
    cases i with
    | zero => cases h; exact absurd rfl h0
    | succ i => have := padL_get n [] i v h h0; cases this
  | n + 1, w :: t, i, v, h, h0 => by
    cases i with
    | zero => exact h
    | succ i => exact padL_get n t i v h h0
theorem LR_entry {base b M : Nat} {as : List Value} (h : (layA as).length ≤ mxl M) : LR base b ((lg_sl (as.map (cv base b)) ++ List.replicate (mxl M - (lg_sl (as.map (cv base b))).length) Slot.unset).toArray) (mxl M) (initL M as) := by
  refine ⟨padL_len _ _, _, lv_entry (as.map (cv base b)) (by rw [layA_len]; exact h), fun i v hv h0 => ?_⟩
  have := layA_get base b as 0 i v (padL_get _ _ i v hv h0) h0
  rw [Nat.zero_add] at this
  exact this
abbrev SndT (l : Launch) (base : Nat) (D : va_G) (A : AC) (b L : Nat) (xs : Nat → Int32) (n : Nat) : Prop :=
  ∀ (M pc : Nat) (absL absS : List Value) (h h' : AH) (r : Option Value), ex L xs n M pc absL absS h = some (h', r) → M < 189 → ∀ (p : Program) (e : Env) (R : Room) (s : State) (m : MethodId) (args : Array Value) (below : List Frame) (meth : Method) (c : Code) (Q : State → Prop),
    p.tables.exec = Jvm.exec → c.code = mby M → c.maxLocals = mxl M → s.vm.findClass (xcl (mow M)) = some m.cls → ((mnm M).name = "<init>" → meth.name = "<init>") → SW D A s → va_X b L xs s s.heap → base < s.heap.size → mfr M ≤ R.frames → mlo M ≤ R.locals →
    FnT l base D A b p e R s m args below meth c Q M h' r → GoT l base D A b p e R s m args below meth c Q M h' pc absL absS h
theorem snd_met {l : Launch} {base b L n : Nat} {xs : Nat → Int32} {D : va_G} {A : AC} (ih : SndT l base D A b L xs n) (M : Nat) (as : List Value) (h h1 : AH) (v : Option Value) (hx : ex L xs n M 0 (initL M as) [] h = some (h1, v)) (hM : M < 189) (hM0 : M ≠ 0) (hly : (layA as).length ≤ mxl M) : MM l base D A b L xs M as h h1 v := by
  have hp := List.all_eq_true.mp pn_ok M (List.mem_range.mpr hM)
  simp only [Bool.and_eq_true, decide_eq_true_eq] at hp
  have hrt := List.all_eq_true.mp rt_ok M (List.mem_range.mpr hM)
  simp only [Bool.and_eq_true, Bool.or_eq_true, decide_eq_true_eq] at hrt
  refine Met.ofW (cc := mby M) (maxL := mxl M) (ret := mrt M) hp.1 rfl ?_
  intro p e s m args below meth c s₁ B hml hv
  obtain ⟨rfl, hR, hsw, hX⟩ := hv
  have hr := B.returns
  have hown : s.vm.findClass (mnm M).cls = some m.cls := findClass_of_methodNamed B.named
  rw [hp.2] at hown
  have hin := (name_of_methodNamed B.named B.method).1
  have hlocks := B.notSynchronized
  rw [lg_entry_eq]
  refine ih M 0 _ [] h h1 v hx hM p e _ s m _ below meth c _ B.exec B.bytes hml hown (fun z => by rw [hin]; exact z) hsw hX (by rw [hR.1]; omega) (Nat.le_refl _) (Nat.le_refl _) ?_ s.heap [] 0 0 _ hR (LR_entry hly) va_S.rf ?_ ?_
  · intro H locs cells slots pc ls i hR1 hS hc hs hdg hok
    have hq : ∀ t : State, t.heap = H → s.WarmedH t.vm → Qq base D A b h1 v (as.map (cv base b)).toArray s (.returned (v.map (cv base b))) t := fun t ht _ => ⟨rfl, by rw [ht]; exact hR1, by rw [ht]; exact hS.1, fun q hq => by rw [ht]; exact hS.2.1 q (by rw [hR.1]; omega) (by show ¬ base < q; omega)⟩
    refine W.widen hc hs ?_
    rcases hok with ⟨rfl, x, rfl, hk⟩ | ⟨rfl, x, rfl, hk⟩ | ⟨rfl, x, rfl, hk⟩ | ⟨rfl, rfl, hk⟩
    · rcases hk with hk | ⟨hk, hx1⟩
      · have ht : mrt M = some .int := by rcases hrt with (((z | z) | z) | z) | z <;> first | exact z.2 | exact absurd (hk.symm.trans z.1) (by decide)
        exact W.iret B.exec B.bytes (hr.trans ht) hq hS.2.2 hdg
      · have ht : mrt M = some .boolean := by rcases hrt with (((z | z) | z) | z) | z <;> first | exact z.2 | exact absurd (hk.symm.trans z.1) (by decide)
        exact W.zret B.exec B.bytes (hr.trans ht) (by show Value.int (x &&& 1) = _; rw [hx1]) hq hS.2.2 hdg
    · have ht : mrt M = some .long := by rcases hrt with (((z | z) | z) | z) | z <;> first | exact z.2 | exact absurd (hk.symm.trans z.1) (by decide)
      exact W.lret B.exec B.bytes (hr.trans ht) hq hS.2.2 hdg
    · have ht : (match mrt M with | some (.object _) => true | some (.array _) => true | _ => false) = true := by rcases hrt with (((z | z) | z) | z) | z <;> first | exact z.2 | exact absurd (hk.symm.trans z.1) (by decide)
      cases hz : mrt M with
      | none => rw [hz] at ht; cases ht
      | some ty =>
        cases ty with
        | object z => exact W.aret B.exec B.bytes (hr.trans hz) (Or.inl ⟨z, rfl⟩) (rf_nr (op base x)) hq hS.2.2 hdg
        | array z => exact W.aret B.exec B.bytes (hr.trans hz) (Or.inr ⟨z, rfl⟩) (rf_nr (op base x)) hq hS.2.2 hdg
        | _ => rw [hz] at ht; cases ht
    · have ht : mrt M = none := by rcases hrt with (((z | z) | z) | z) | z <;> first | exact z.2 | exact absurd (hk.symm.trans z.1) (by decide)
      exact W.vret B.exec B.bytes (hr.trans ht) hq hS.2.2 hdg
  · show 0 + nn h1 ≤ (nn h1 - nn h) + nn h; omega
  · show 0 + sl h1 ≤ (sl h1 - sl h) + sl h; omega
theorem snd_all {l : Launch} {base b L : Nat} {xs : Nat → Int32} {D : va_G} {A : AC} (hbb : b ≤ base) : ∀ n, SndT l base D A b L xs n := by
  intro n
  induction n with
  | zero => intro M pc absL absS h h' r hx; cases hx
  | succ n ih =>
    intro M pc absL absS h h' r hx hM p e R s m args below meth c Q hexec hb hml hown hmn hsw hX hbs hfr hlo fin
    have hx : stepK L xs (fun M' as h' => ex L xs n M' 0 (initL M' as) [] h') (ex L xs n M) M pc absL absS h = some (h', r) := hx
    unfold stepK at hx
    split at hx
    · next i nx hf =>
      exact snd_step hM hexec hb hml hown hmn hsw hX hbb hbs hfr hlo fin
        (fun pc ls st h0 hk => ih M pc ls st h0 h' r hk hM p e R s m args below meth c Q hexec hb hml hown hmn hsw hX hbs hfr hlo fin)
        (fun pc ls st h0 hk => ex_mo n M pc ls st h0 _ hk)
        (fun M' as h0 h1 v hcf hM' hM0 hly => ⟨snd_met ih M' as h0 h1 v hcf hM' hM0 hly, ex_mo n M' 0 _ _ h0 _ hcf⟩)
        pc nx i absL absS h hf hx
    · cases hx

/-- the heap at the start: nothing -/
def e0 : AH := ((fun _ _ => 0, fun _ _ => 0, fun _ _ => 0), (fun _ _ => 0, fun _ _ => 0, fun _ _ => 0), (fun _ => 0, fun _ => 0, 0, 0))
theorem sel_priv {y : MethodName} {C : String} {s : State} {args : Array Value} {n : Nat} (hy : y.cls ≠ "java/lang/invoke/MethodHandle" ∧ y.cls ≠ "java/lang/invoke/VarHandle") (hins : (Cond.instantiable C n).before args s = true) (hpriv : (Cond.privateMethod y).before args s = true) (hinst : (Cond.instanceMethod y).before args s = true) (hsame : (Cond.sameMethod y.cls y.cls y.name y.desc).before args s = true) :
    (Cond.selects C y y).before args s = true := by
  obtain ⟨c, k, hc, hk, -, -, -, -⟩ := Cond.instantiable_spec hins
  obtain ⟨mk, methM, hnamed, hmethM, -, -⟩ := Cond.instanceMethod_spec hinst
  have hfound : s.methodFound? y.cls y.name y.desc = some mk := State.methodFound?_of_named hnamed hy
  obtain ⟨cn, ck, r1, hcn, hck, hni, hf, hn1⟩ := Cond.sameMethod_found hsame
  have hcls : mk.cls = cn := Option.some.inj ((findClass_of_methodNamed hnamed).symm.trans hcn)
  have hsel : selectMethod {} s.vm c mk = .method mk := selectMethod_private hmethM (Cond.privateMethod_at hpriv mk methM hnamed hmethM)
  simp only [Cond.before, Cond.holds, Cond.value, hc, hfound, hnamed, hsel, hcls, hck]
  simp; exact hni
def px_c : Bool := (pvx.zip pvxP).all fun q => nMH q.1.2.2.cls && at_ q.2.1 (.instantiable q.1.1 q.1.2.1) && decide (xtbl[q.2.2.1]? = some (.privateMethod q.1.2.2)) && at_ q.2.2.2.1 (.instanceMethod q.1.2.2) && at_ q.2.2.2.2 (.sameMethod q.1.2.2.cls q.1.2.2.cls q.1.2.2.name q.1.2.2.desc) && decide (8 ≤ q.2.1) && decide (8 ≤ q.2.2.1) && decide (8 ≤ q.2.2.2.1) && decide (8 ≤ q.2.2.2.2)
theorem px_ok : px_c = true := by decide +kernel
theorem px_len : pvx.length = pvxP.length := rfl
theorem nest_in : ∀ q ∈ nestL, Cond.methodLinkNest q.1 q.2.1 q.2.2 "StepPurse" ∈ lw_tbl := by decide +kernel
theorem decl_in : ∀ q ∈ declL, Cond.declares q ∈ lw_tbl := by decide +kernel
theorem cast_in : ∀ q ∈ castL, Cond.castable q.1 q.2 ∈ lw_tbl := by decide +kernel
theorem ax_in : Cond.arrayClass .int ∈ lw_tbl ∧ Cond.arrayClass .long ∈ lw_tbl ∧ Cond.arrayOver (.object "StepPurse$Structure") ∈ lw_tbl := by decide +kernel
theorem xt_lw {p : Nat} {w : Cond} (h : xtbl[p]? = some w) (hp : 8 ≤ p) : w ∈ lw_tbl := by
  have h2 : (xsel ++ lw_tbl)[p]? = some w := h
  have hl : xsel.length = 8 := rfl
  rw [List.getElem?_append_right (by omega)] at h2
  exact List.mem_of_getElem? h2
theorem at_lw {p : Nat} {w : Cond} (h : at_ p w = true) (hp : 8 ≤ p) : w ∈ lw_tbl := by
  simp only [at_, Bool.and_eq_true, decide_eq_true_eq] at h
  exact xt_lw h.1 hp
theorem xt_all {s : State} {a : Array Value} (hts : ∀ w ∈ lw_tbl, w.before a s = true) : ∀ w ∈ xtbl, w.before a s = true := by
  intro w hw
  rcases List.mem_append.mp hw with h | h
  · obtain ⟨q, hq, rfl⟩ := List.mem_map.mp h
    obtain ⟨i, hi⟩ := List.getElem?_of_mem hq
    have hil : i < pvx.length := (List.getElem?_eq_some_iff.mp hi).1
    have hz : (q, pvxP[i]'(by rw [← px_len]; exact hil)) ∈ pvx.zip pvxP := by
      refine List.mem_of_getElem? (i := i) ?_
      rw [List.getElem?_zip_eq_some]
      exact ⟨hi, List.getElem?_eq_getElem _⟩
    have hc := List.all_eq_true.mp px_ok _ hz
    simp only [Bool.and_eq_true, decide_eq_true_eq] at hc
    obtain ⟨⟨⟨⟨⟨⟨⟨⟨c1, c2⟩, c3⟩, c4⟩, c5⟩, c6⟩, c7⟩, c8⟩, c9⟩ := hc
    exact sel_priv (nMH_sp c1) (hts _ (at_lw c2 c6)) (hts _ (xt_lw c3 c7)) (hts _ (at_lw c4 c8)) (hts _ (at_lw c5 c9))
  · exact hts w h
theorem nc_in : ∀ q ∈ ncL, Cond.not (.castable q.1 q.2) ∈ flatC (Jvm.Cond.and given_1 narrow_1) := by decide +kernel
theorem whole_of {p : Program} {e : Env} {s : State} {m : MethodId} {below : List Frame} {meth : Method} {c : Code} (l : Launch) {b L : Nat} {xs : Nat → Int32} (C0 : lw_At p s m meth c b L xs) {h' : AH} (hx : X L xs 0 0 (initL 0 [.retAddr 0]) [] e0 = some (h', some (.int 1))) (hn : nn h' ≤ 600000) (hs : sl h' ≤ 2000000) :
    W p l e room_1 s m #[Value.ref b] below meth c s.heap [] 0 0 (lw_Z below #[Value.ref b] s) (entryFrame m ([Value.ref b] : List Value).toArray 4) := by
  obtain ⟨hexec, hb, hr, hml, hown, hts, hX, hbl, hlocks, hgv⟩ := C0
  have hxt := xt_all hts
  have hk : ∀ c, ∃ q : ClassId × (Nat → Nat), c < 10 → u_Kn s (xcl c) (cT c) (ctab c).length q.1 q.2 := by
    intro c
    by_cases hc : c < 10
    · have hi := List.all_eq_true.mp kI_ok c (List.mem_range.mpr hc)
      simp only [kI, Bool.and_eq_true] at hi
      obtain ⟨cC, iS, hK⟩ := u_known (C := xcl c) (T := cT c) (N := (ctab c).length) (n := (ctab c).length) hxt (ls_ok c hc) (hxt _ (at_in hi.1).1)
      exact ⟨(cC, iS), fun _ => hK⟩
    · exact ⟨(0, fun _ => 0), fun h => absurd h hc⟩
  obtain ⟨cI, kI', compI, i1, i2, i3⟩ := Cond.arrayClass_spec (hts _ ax_in.1)
  obtain ⟨cL, kL', compL, j1, j2, j3⟩ := Cond.arrayClass_spec (hts _ ax_in.2.1)
  obtain ⟨compR, cR, kR', r1, -, r3, r4, r5⟩ := Cond.arrayOver_spec (hts _ ax_in.2.2)
  have hK : va_K (fun c => (Classical.choose (hk c)).1, fun c => (Classical.choose (hk c)).2) xclasses (tysA (cI, cL, cR)) s := by
    refine ⟨fun c q hq => ?_, fun k q hq => ?_⟩
    · have hc : c < 10 := (List.getElem?_eq_some_iff.mp hq).1
      rw [cl_ok c hc] at hq
      cases hq
      exact Classical.choose_spec (hk c) hc
    · match k, hq with
      | 0, hq => cases hq; exact ⟨fun n z => ⟨fun k h => (by cases h), kI', i2, compI, i3⟩, i1⟩
      | 1, hq => cases hq; exact ⟨fun n z => ⟨fun k h => (by cases h), kL', j2, compL, j3⟩, j1⟩
      | 2, hq => cases hq; exact ⟨fun n z => ⟨fun k h => (by cases h), kR', r3, compR, r4⟩, kR', compR, r3, r4, r1, r5⟩
      | k + 3, hq => cases hq
  generalize (fun c => (Classical.choose (hk c)).1, fun c => (Classical.choose (hk c)).2) = D at hK
  have hfl := flat_of_before _ hgv
  have hSW : SW D (cI, cL, cR) s := by
    refine ⟨fun w hw a => ?_, fun q hq => va_Nw.of rfl (hts _ (nest_in q hq)), fun q hq => va_Nw.of rfl (hts _ (decl_in q hq)), fun q hq => va_Nw.of rfl (hts _ (cast_in q hq)), fun q hq => va_Nc.of (hfl _ (nc_in q hq)), va_AO.of (hts _ ax_in.2.2), hK⟩
    have hw2 := List.mem_filter.mp hw
    exact word_at (State.WarmedH.refl s) (good_of_word hw2.2) (hxt w hw2.1)
  obtain ⟨base, hbase⟩ : ∃ base, s.heap.size = base + 1 := ⟨s.heap.size - 1, by omega⟩
  obtain ⟨n, hn'⟩ := X_some.mp hx
  have hR : Rep base D (cI, cL, cR) e0 s.heap := ⟨by rw [hbase]; rfl, fun a h1 h2 => by have : a ≤ 0 := h2; omega, fun a h1 => absurd rfl h1⟩
  rw [lg_entry_eq]
  refine snd_all (l := l) (base := base) (b := b) (L := L) (xs := xs) (D := D) (A := (cI, cL, cR)) (by omega) n 0 0 _ [] e0 h' _ hn' (by decide) p e room_1 s m #[Value.ref b] below meth c (lw_Z below #[Value.ref b] s) hexec hb hml hown (fun z => absurd z (by decide)) hSW hX (by omega) (by decide) (by decide) ?_ s.heap [] 0 0 _ hR (LR_entry (M := 0) (as := [.retAddr 0]) (by decide)) va_S.rf ?_ ?_
  · intro H locs cells slots pc ls i hR1 hS hc hs1 hdg hok
    have hi : i = .ireturn := by
      rcases hok with ⟨h, -⟩ | ⟨-, x, h, -⟩ | ⟨-, x, h, -⟩ | ⟨-, h, -⟩
      · exact h
      · cases h
      · cases h
      · cases h
    subst hi
    refine va_forget (fun q hq => ?_) ?_
    · have : base < q.base := hS.2.2 q hq
      omega
    · refine W.widen (k := room_1.cells) (n := room_1.slots) hc hs1 ?_
      exact lw_ret hexec hb hr hlocks hdg
  · have r1 : 600000 ≤ room_1.cells := Nat.le_of_ble_eq_true rfl
    show 0 + nn h' ≤ room_1.cells + 0; omega
  · have r2 : 2000000 ≤ room_1.slots := Nat.le_of_ble_eq_true rfl
    show 0 + sl h' ≤ room_1.slots + 0; omega
