-- the locals; calls
theorem cv_cat (base b : Nat) (v : Value) : (cv base b v).category = v.category := by
  cases v with
  | ref a => unfold cv op; by_cases h : a = 0 <;> simp [h, va_rf, Value.category]
  | _ => rfl
def LR (base b : Nat) (ls : Array Slot) (n : Nat) (abs : List Value) : Prop :=
  abs.length = n ∧ ∃ lv, lv_has ls n lv ∧ ∀ (i : Nat) (v : Value), abs[i]? = some v → v ≠ .null → (i, cv base b v) ∈ lv
theorem LR.at {base b n : Nat} {ls : Array Slot} {abs : List Value} (h : LR base b ls n abs) {j : Nat} {v : Value} (hv : abs.getD j .null = v) (h0 : v ≠ .null) : ls[j]? = some (.val (cv base b v)) := by
  obtain ⟨-, lv, h1, h2⟩ := h
  refine h1.2.2 (j, cv base b v) (h2 j v ?_ h0)
  rw [List.getD_eq_getElem?_getD] at hv
  cases e : abs[j]? with
  | none => rw [e] at hv; exact absurd hv.symm h0
  | some w => rw [e] at hv; rw [← hv]; rfl
theorem stL_length : ∀ (l : List Value) (j : Nat) (v : Value), (stL l j v).length = l.length
  | [], _, _ => rfl
  | _ :: _, 0, _ => rfl
  | _ :: [], 1, _ => rfl
  | _ :: _ :: _, 1, _ => rfl
  | a :: l, n + 2, v => by
    show (a :: stL l (n + 1) v).length = _
    rw [List.length_cons, stL_length l (n + 1) v]
    rfl
theorem stL_get : ∀ (l : List Value) (j : Nat) (v : Value) (i : Nat) (w : Value), (stL l j v)[i]? = some w → (i = j ∧ w = v) ∨ (i + 1 = j ∧ ∃ w', l[i]? = some w' ∧ w = klL w') ∨ (i ≠ j ∧ i + 1 ≠ j ∧ l[i]? = some w)
  | [], _, _, i, w, h => by cases h
  | a :: l, 0, v, i, w, h => by
    cases i with
    | zero => exact Or.inl ⟨rfl, (Option.some.inj h).symm⟩
    | succ i => exact Or.inr (Or.inr ⟨by omega, by omega, h⟩)
  | a :: [], 1, v, i, w, h => by
    cases i with
    | zero => exact Or.inr (Or.inl ⟨rfl, a, rfl, (Option.some.inj h).symm⟩)
    | succ i => cases h
  | a :: x :: t, 1, v, i, w, h => by
    match i, h with
    | 0, h => exact Or.inr (Or.inl ⟨rfl, a, rfl, (Option.some.inj h).symm⟩)
    | 1, h => exact Or.inl ⟨rfl, (Option.some.inj h).symm⟩
    | i + 2, h => exact Or.inr (Or.inr ⟨by omega, by omega, h⟩)
  | a :: l, n + 2, v, i, w, h => by
    cases i with
    | zero => exact Or.inr (Or.inr ⟨by omega, by omega, h⟩)
    | succ i =>
      have h' : (stL l (n + 1) v)[i]? = some w := h
      rcases stL_get l (n + 1) v i w h' with ⟨h1, h2⟩ | ⟨h1, w', h2, h3⟩ | ⟨h1, h2, h3⟩
      · exact Or.inl ⟨by omega, h2⟩
      · exact Or.inr (Or.inl ⟨by omega, w', h2, h3⟩)
      · exact Or.inr (Or.inr ⟨by omega, by omega, h3⟩)
theorem klL_ne {w : Value} (h : klL w ≠ .null) : klL w = w ∧ ¬ w.category = 2 := by
  unfold klL at h ⊢
  by_cases e : w.category = 2
  · rw [if_pos e] at h; exact absurd rfl h
  · rw [if_neg e]; exact ⟨rfl, e⟩
theorem LR.set1 {base b n j : Nat} {ls' : Array Slot} {abs : List Value} {lv : List (Nat × Value)} {v : Value} (hl : abs.length = n) (hm : ∀ (i : Nat) (v : Value), abs[i]? = some v → v ≠ .null → (i, cv base b v) ∈ lv)
    (h' : lv_has ls' n ((j, cv base b v) :: lv.filter (fun q => !(q.1 == j) && !(q.1 + 1 == j && q.2.category == 2)))) : LR base b ls' n (stL abs j v) := by
  refine ⟨by rw [stL_length]; exact hl, _, h', fun i w hw h0 => ?_⟩
  rcases stL_get abs j v i w hw with ⟨h1, h2⟩ | ⟨h1, w', h2, h3⟩ | ⟨h1, h2, h3⟩
  · subst h1; subst h2; exact List.mem_cons_self
  · subst h3
    obtain ⟨e1, e2⟩ := klL_ne h0
    rw [e1] at h0 ⊢
    refine List.mem_cons_of_mem _ (List.mem_filter.mpr ⟨hm i w' h2 h0, ?_⟩)
    have e3 : ¬ (cv base b w').category = 2 := by rw [cv_cat]; exact e2
    have e4 : ¬ i = j := by omega
    simp [e3, e4]
  · refine List.mem_cons_of_mem _ (List.mem_filter.mpr ⟨hm i w h3 h0, ?_⟩)
    simp [h1, h2]
theorem LR.set2 {base b n j : Nat} {ls' : Array Slot} {abs : List Value} {lv : List (Nat × Value)} {v : Value} (hl : abs.length = n) (hm : ∀ (i : Nat) (v : Value), abs[i]? = some v → v ≠ .null → (i, cv base b v) ∈ lv)
    (h' : lv_has ls' n ((j, cv base b v) :: lv.filter (fun q => !(q.1 == j) && (!(q.1 == j + 1) && !(q.1 + 1 == j && q.2.category == 2))))) : LR base b ls' n ((stL abs j v).set (j + 1) .null) := by
  refine ⟨by rw [List.length_set, stL_length]; exact hl, _, h', fun i w hw h0 => ?_⟩
  by_cases e : i = j + 1
  · subst e
    rw [List.getElem?_set] at hw
    simp at hw
    exact absurd hw.2.symm h0
  · rw [List.getElem?_set_ne (Ne.symm e)] at hw
    rcases stL_get abs j v i w hw with ⟨h1, h2⟩ | ⟨h1, w', h2, h3⟩ | ⟨h1, h2, h3⟩
    · subst h1; subst h2; exact List.mem_cons_self
    · subst h3
      obtain ⟨e1, e2⟩ := klL_ne h0
      rw [e1] at h0 ⊢
      refine List.mem_cons_of_mem _ (List.mem_filter.mpr ⟨hm i w' h2 h0, ?_⟩)
      have e3 : ¬ (cv base b w').category = 2 := by rw [cv_cat]; exact e2
      have e4 : ¬ i = j := by omega
      simp [e3, e4, e]
    · refine List.mem_cons_of_mem _ (List.mem_filter.mpr ⟨hm i w h3 h0, ?_⟩)
      simp [h1, h2, e]
theorem takeA_spec : ∀ (n : Nat) (acc st as r : List Value), takeA n acc st = some (as, r) → as.length = n + acc.length ∧ st = as.reverse.drop acc.length ++ r ∧ as.reverse.take acc.length = acc.reverse
  | 0, acc, st, as, r, h => by
    cases h
    refine ⟨by omega, ?_, ?_⟩
    · rw [List.drop_of_length_le (by rw [List.length_reverse]; exact Nat.le_refl _)]; rfl
    · rw [← List.length_reverse, List.take_length]
  | n + 1, acc, [], as, r, h => by cases h
  | n + 1, acc, v :: st, as, r, h => by
    obtain ⟨h1, h2, h3⟩ := takeA_spec n (v :: acc) st as r h
    have hl : (v :: acc).length = acc.length + 1 := rfl
    have hr : as.reverse.length = n + 1 + acc.length := by rw [List.length_reverse, h1, hl]; omega
    rw [hl] at h1 h2 h3
    refine ⟨by omega, ?_, ?_⟩
    · have e1 : as.reverse = (v :: acc).reverse ++ as.reverse.drop (acc.length + 1) := by
        rw [← h3, List.take_append_drop]
      have e2 : as.reverse.drop acc.length = v :: as.reverse.drop (acc.length + 1) := by
        conv => lhs; rw [e1]
        rw [List.reverse_cons, List.append_assoc, ← List.length_reverse, List.drop_left]
        rw [List.length_reverse]
        rfl
      rw [e2, h2]
      rfl
    · have : as.reverse.take acc.length = (as.reverse.take (acc.length + 1)).take acc.length := by rw [List.take_take]; congr 1; omega
      rw [this, h3, List.reverse_cons, ← List.length_reverse, List.take_left]
theorem takeA_0 {n : Nat} {st as r : List Value} (h : takeA n [] st = some (as, r)) : as.length = n ∧ st = as.reverse ++ r := by
  obtain ⟨h1, h2, -⟩ := takeA_spec n [] st as r h
  exact ⟨h1, h2⟩
/-- a method's start and its end, in the interpreter's words -/
def Pq (base : Nat) (D : va_G) (A : AC) (b L : Nat) (xs : Nat → Int32) (as : List Value) (h : AH) : Array Value → State → Prop := fun v U => v = (as.map (cv base b)).toArray ∧ Rep base D A h U.heap ∧ SW D A U ∧ va_X b L xs U U.heap
def Qq (base : Nat) (D : va_G) (A : AC) (b : Nat) (h : AH) (r : Option Value) : Array Value → State → Outcome → State → Prop := fun _ st oc t => oc = .returned (r.map (cv base b)) ∧ Rep base D A h t.heap ∧ st.heap.size ≤ t.heap.size ∧ ∀ q : Nat, q ≤ base → t.heap[q]? = st.heap[q]?
def rmM (M : Nat) (h h1 : AH) : Room := { frames := mfr M, cells := nn h1 - nn h, slots := sl h1 - sl h, locals := mlo M }
abbrev MM (l : Launch) (base : Nat) (D : va_G) (A : AC) (b L : Nat) (xs : Nat → Int32) (M : Nat) (as : List Value) (h h1 : AH) (r : Option Value) : Prop :=
  Met l (mnm M) [cw M] (rmM M h h1) (Pq base D A b L xs as h) (Qq base D A b h1 r) (nn h1 - nn h) (sl h1 - sl h) (fun q => base < q)
theorem Pq_blind {base : Nat} {D : va_G} {A : AC} {b L : Nat} {xs : Nat → Int32} {as : List Value} {h : AH} : FrameBlind (Pq base D A b L xs as h) := by
  intro a U g mk ⟨h1, h2, h3, h4⟩
  exact ⟨h1, h2, SW.warm (U := U.calling g mk a) (State.WarmedH.refl U) h3, va_X.moved (u := U) (U := U.calling g mk a) (Vm.Alike.refl U.vm) h4⟩
section Calls2
variable {p : Program} {l : Launch} {e : Env} {R : Room} {s : State} {m : MethodId} {args : Array Value} {below : List Frame} {meth : Method} {c : Code} {H : Heap} {locs : List Loc} {cells slots : Nat} {Q : State → Prop}
variable {cc : ByteArray} {pc : Nat} {ls : Array Slot} {rest : List Value} {D : va_G} {A : AC} {base b L : Nat} {xs : Nat → Int32} {h h1 : AH} {r : Option Value} {nL : Nat}
theorem y_call {mc ms : Nat} {st0 : List Value} {a : Array Value} (hr : va_Run p l e R s m args below meth c H locs cells slots mc ms (F0 m pc ls st0) rest (Qq base D A b h1 r a) (fun q => base < q)) (hS : va_S (fun q => base < q) s.heap H locs)
    (kk : ∀ H1 locs1, Rep base D A h1 H1 → va_S (fun q => base < q) s.heap H1 locs1 → W p l e R s m args below meth c H1 locs1 (cells + mc) (slots + ms) Q (F0 m (pc + 3) ls ((r.map (cv base b)).toList ++ rest))) : W p l e R s m args below meth c H locs cells slots Q (F0 m pc ls st0) := by
  intro T hT X
  obtain ⟨v, st₀, t, T', Lo, h0, X', hL, e1, e2, ⟨hv, hRep, hz, hk⟩, st⟩ := hr T hT X
  have hv' := Outcome.returned.inj hv
  subst hv'
  rw [h0] at hz hk
  obtain ⟨t2, a1, b1⟩ := kk T'.heap (locs ++ Lo) (by rw [e1]; exact hRep) ⟨Nat.le_trans hS.1 (by rw [e1]; exact hz), fun q q1 q2 => by rw [e1, hk q (Nat.le_of_not_lt q2)]; exact hS.2.1 q q1 q2, fun q hq => by
      rcases List.mem_append.mp hq with h | h
      · exact hS.2.2 q h
      · exact hL q h⟩ T' rfl X'
  exact ⟨t2, st t2 a1, b1⟩
theorem va_Xs (hX : va_X b L xs s s.heap) (hbb : b ≤ base) (hbs : base < s.heap.size) (hS : va_S (fun q => base < q) s.heap H locs) : va_X b L xs s H := hX.kept (hS.2.1 b (by omega) (by show ¬ base < b; omega))
theorem y_pre {as : List Value} (hsw : SW D A s) (hX : va_X b L xs s H) (rr : Rep base D A h H) : ∀ U : State, U.heap = H → s.WarmedH U.vm → Pq base D A b L xs as h (as.map (cv base b)).toArray U := by
  intro U hU hW
  exact ⟨rfl, by rw [hU]; exact rr, SW.warm hW hsw, by rw [hU]; exact va_X.moved hW.alike hX⟩
theorem cw_g (M : Nat) : goodWord (cw M) = true := rfl
theorem y_cw (hsw : SW D A s) {M : Nat} (hM : M < 189) (hM0 : M ≠ 0) (a : Array Value) : (cw M).before a s = true := hsw.1 _ (List.mem_filter.mpr ⟨cw_in hM hM0, cw_g M⟩) a
theorem y_len {x : MethodName} {np : Nat} (h : (parseMethodDescriptor x.desc).map (fun d => d.parameters.length) = some np) : ∀ sig, parseMethodDescriptor x.desc = some sig → np = sig.parameters.length := by
  intro sig hs
  rw [hs] at h
  exact (Option.some.inj h).symm
theorem nMH_sp {c : String} (h : nMH c = true) : c ≠ "java/lang/invoke/MethodHandle" ∧ c ≠ "java/lang/invoke/VarHandle" := by
  simpa [nMH] using h
theorem y_cat {rs : List Value} (h : catS rs ≤ 8) (pc : Nat) (ls : Array Slot) (st : List Value) : 2 * (F0 m pc ls st).monitorRoom + ((rs.map (cv base b)).map fun v => v.category).sum ≤ 8 := by
  have e : (rs.map (cv base b)).map (fun v => v.category) = rs.map fun v => v.category := by
    rw [List.map_map]
    apply List.map_congr_left
    intro v _
    exact cv_cat base b v
  rw [e]
  show 2 * 0 + catS rs ≤ 8
  omega
theorem y_invS (hexec : p.tables.exec = Jvm.exec) (hb : c.code = cc) (hml : c.maxLocals = nL) (hsw : SW D A s) (hX : va_X b L xs s H) {own idx kd np t M : Nat} {x : MethodName} {owner : String} {ps : List Nat} (hown : s.vm.findClass (xcl own) = some m.cls) (hkd : kd = 0 ∨ kd = 1)
    (hk : kM1 own idx kd np x owner (t, M, ps) = true) (hM : M < 189) (hM0 : M ≠ 0) (hfr : mfr M + 1 ≤ R.frames) (hlo : 8 + (mxl M + 11) + mlo M ≤ R.locals) (rr : Rep base D A h H) {as rs : List Value} (hn : as.length = np) (hsz : ls.size = nL) (hcat : catS rs ≤ 8)
    (hdg : decode cc pc = .ok (.invokestatic idx, 3)) (hf : cells + (nn h1 - nn h) ≤ R.cells ∧ slots + (sl h1 - sl h) ≤ R.slots) (hMet : MM l base D A b L xs M as h h1 r) :
    va_Run p l e R s m args below meth c H locs cells slots (nn h1 - nn h) (sl h1 - sl h) (F0 m pc ls ((as.reverse ++ rs).map (cv base b))) (rs.map (cv base b)) (Qq base D A b h1 r (as.map (cv base b)).toArray) (fun q => base < q) := by
  have hst : ((as.reverse ++ rs).map (cv base b)) = (as.map (cv base b)).reverse ++ rs.map (cv base b) := by rw [List.map_append, List.map_reverse]
  have hw : ∀ w ∈ [cw M], ∀ (a' : Array Value) (U : State), s.WarmedH U.vm → w.before a' U = true := fun w hw a' U hW => by
    rw [List.mem_singleton.mp hw]
    exact y_cw (SW.warm hW hsw) hM hM0 a'
  rcases hkd with rfl | rfl
  · simp only [kM1, Bool.and_eq_true, decide_eq_true_eq] at hk
    obtain ⟨⟨⟨⟨k1, k2⟩, k3⟩, k4⟩, ⟨k5, k6⟩, k7⟩ := hk
    subst k5
    exact va_runS (bytes := mby M) (maxL := mxl M) (ret := mrt M) ⟨hexec, hb, hml, hown, hsw.ws args⟩ hMet ⟨⟨rfl, rfl, hfr, hlo, hw, List.mem_singleton.mpr rfl, y_cw hsw hM hM0 args, hsw.wd k4 args, nMH_sp k1, y_len k3, hsw.wd k6 args⟩, hsw.wd k7 args⟩ ⟨Pq_blind, y_pre hsw hX rr⟩ rfl (by rw [List.length_map]; exact hn) hsz hst (y_cat hcat pc ls _) hdg hf
  · simp only [kM1, Bool.and_eq_true, decide_eq_true_eq] at hk
    obtain ⟨⟨⟨⟨k1, k2⟩, k3⟩, k4⟩, ⟨k5, k6⟩, k7⟩ := hk
    subst k5
    have hnl := hsw.2.1 _ k6
    exact va_runSN (bytes := mby M) (maxL := mxl M) (ret := mrt M) (host := "StepPurse") ⟨hexec, hb, hml, hown, hsw.ws args⟩ hMet ⟨⟨⟨rfl, rfl, hfr, hlo, hw, List.mem_singleton.mpr rfl⟩, y_cw hsw hM hM0 args, hsw.wd k4 args, nMH_sp k1, y_len k3, va_Nw.use rfl hnl⟩, hsw.wd k7 args, trivial⟩ ⟨Pq_blind, y_pre hsw hX rr⟩ rfl (by rw [List.length_map]; exact hn) hsz hst (y_cat hcat pc ls _) hdg hf
theorem y_stk (as rs : List Value) {a : Nat} (ha : a ≠ 0) : ((as.reverse ++ .ref a :: rs).map (cv base b)) = (as.map (cv base b)).reverse ++ .ref (base + a) :: rs.map (cv base b) := by
  rw [List.map_append, List.map_reverse, List.map_cons]
  show _ ++ va_rf (op base a) :: _ = _
  unfold op
  rw [if_neg ha]
  rfl
theorem y_arg (as : List Value) {a : Nat} (ha : a ≠ 0) : (Value.ref (base + a) :: as.map (cv base b)) = (.ref a :: as).map (cv base b) := by
  rw [List.map_cons]
  show _ = va_rf (op base a) :: _
  unfold op
  rw [if_neg ha]
  rfl
theorem y_invI (hexec : p.tables.exec = Jvm.exec) (hb : c.code = cc) (hml : c.maxLocals = nL) (hsw : SW D A s) (hX : va_X b L xs s H) {own idx kd np t M : Nat} {x : MethodName} {owner : String} {ps : List Nat} (hown : s.vm.findClass (xcl own) = some m.cls) (hkd : kd = 2 ∨ kd = 3)
    (hk : kM1 own idx kd np x owner (t, M, ps) = true) (hM : M < 189) (hM0 : M ≠ 0) (hrt : mrt M = none) (hfr : mfr M + 1 ≤ R.frames) (hlo : 8 + (mxl M + 11) + mlo M ≤ R.locals) (rr : Rep base D A h H) {as rs : List Value} {a : Nat} (ha : a ≠ 0) (hn : as.length = np) (hsz : ls.size = nL) (hcat : catS rs ≤ 8)
    (hdg : decode cc pc = .ok (.invokespecial idx, 3)) (hf : cells + (nn h1 - nn h) ≤ R.cells ∧ slots + (sl h1 - sl h) ≤ R.slots) (hMet : MM l base D A b L xs M (.ref a :: as) h h1 r) :
    va_Run p l e R s m args below meth c H locs cells slots (nn h1 - nn h) (sl h1 - sl h) (F0 m pc ls ((as.reverse ++ .ref a :: rs).map (cv base b))) (rs.map (cv base b)) (Qq base D A b h1 r ((.ref a :: as).map (cv base b)).toArray) (fun q => base < q) := by
  have hw : ∀ w ∈ [cw M], ∀ (a' : Array Value) (U : State), s.WarmedH U.vm → w.before a' U = true := fun w hw a' U hW => by
    rw [List.mem_singleton.mp hw]
    exact y_cw (SW.warm hW hsw) hM hM0 a'
  have hcw : cw M = .code (mnm M) (mby M) (mxl M) none := by unfold cw; rw [hrt]
  have hc1 := y_cw hsw hM hM0 args
  rw [hcw] at hc1
  rw [← y_arg as ha]
  have hp := y_pre (as := .ref a :: as) hsw hX rr
  rw [← y_arg as ha] at hp
  rcases hkd with rfl | rfl
  · simp only [kM1, Bool.and_eq_true, decide_eq_true_eq] at hk
    obtain ⟨⟨⟨⟨k1, k2⟩, k3⟩, k4⟩, ⟨⟨k5, k6⟩, k7⟩, k8⟩ := hk
    subst k5
    exact va_runI (bytes := mby M) (maxL := mxl M) ⟨hexec, hb, hml, hown, hsw.ws args⟩ hMet ⟨⟨rfl, rfl, hfr, hlo, hw, List.mem_singleton.mpr hcw.symm, hc1, hsw.wd k4 args, nMH_sp k1, y_len k3, hsw.wd k6 args⟩, k8, hsw.wd k7 args⟩ ⟨Pq_blind, hp⟩ rfl (by rw [List.length_map]; exact hn) hsz (y_stk as rs ha) (y_cat hcat pc ls _) hdg hf
  · simp only [kM1, Bool.and_eq_true, decide_eq_true_eq] at hk
    obtain ⟨⟨⟨⟨k1, k2⟩, k3⟩, k4⟩, ⟨⟨k5, k6⟩, k7⟩, k8⟩ := hk
    subst k5
    have hnl := hsw.2.1 _ k6
    exact va_runIN (bytes := mby M) (maxL := mxl M) (host := "StepPurse") ⟨hexec, hb, hml, hown, hsw.ws args⟩ hMet ⟨⟨⟨rfl, rfl, hfr, hlo, hw, List.mem_singleton.mpr hcw.symm⟩, hc1, hsw.wd k4 args, nMH_sp k1, y_len k3, va_Nw.use rfl hnl⟩, k8, hsw.wd k7 args⟩ ⟨Pq_blind, hp⟩ rfl (by rw [List.length_map]; exact hn) hsz (y_stk as rs ha) (y_cat hcat pc ls _) hdg hf
theorem y_invV (hexec : p.tables.exec = Jvm.exec) (hb : c.code = cc) (hml : c.maxLocals = nL) (hsw : SW D A s) (hX : va_X b L xs s H) {own idx kd np t M : Nat} {x : MethodName} {owner : String} {ps : List Nat} (hown : s.vm.findClass (xcl own) = some m.cls) (hkd : kd = 5 ∨ kd = 6)
    (hk : kM1 own idx kd np x owner (t, M, ps) = true) (hM : M < 189) (hM0 : M ≠ 0) (hfr : mfr M + 1 ≤ R.frames) (hlo : 8 + (mxl M + 11) + mlo M ≤ R.locals) (rr : Rep base D A h H) {as rs : List Value} {a : Nat} (ha : a ≠ 0) (hta : tg h a = t) (ht : t ≤ 10) (hn : as.length = np) (hsz : ls.size = nL) (hcat : catS rs ≤ 8)
    (hdg : decode cc pc = .ok (.invokevirtual idx, 3)) (hf : cells + (nn h1 - nn h) ≤ R.cells ∧ slots + (sl h1 - sl h) ≤ R.slots) (hMet : MM l base D A b L xs M (.ref a :: as) h h1 r) :
    va_Run p l e R s m args below meth c H locs cells slots (nn h1 - nn h) (sl h1 - sl h) (F0 m pc ls ((as.reverse ++ .ref a :: rs).map (cv base b))) (rs.map (cv base b)) (Qq base D A b h1 r ((.ref a :: as).map (cv base b)).toArray) (fun q => base < q) := by
  have hw : ∀ w ∈ [cw M], ∀ (a' : Array Value) (U : State), s.WarmedH U.vm → w.before a' U = true := fun w hw a' U hW => by
    rw [List.mem_singleton.mp hw]
    exact y_cw (SW.warm hW hsw) hM hM0 a'
  rw [← y_arg as ha]
  have hp := y_pre (as := .ref a :: as) hsw hX rr
  rw [← y_arg as ha] at hp
  rcases hkd with rfl | rfl
  · simp only [kM1, Bool.and_eq_true, decide_eq_true_eq] at hk
    obtain ⟨⟨⟨⟨k1, k2⟩, k3⟩, k4⟩, ⟨⟨⟨k0, k5⟩, k6⟩, k7⟩, k8⟩ := hk
    subst k5
    have hrc := y_recv (a := a) (ci := t - 1) hsw rr (by omega) (by omega)
    exact va_runV (C := xcl (t - 1)) (bytes := mby M) (maxL := mxl M) (ret := mrt M) ⟨hexec, hb, hml, hown, hsw.ws args⟩ hMet ⟨⟨rfl, rfl, hfr, hlo, hw, List.mem_singleton.mpr rfl, y_cw hsw hM hM0 args, hsw.wd k4 args, nMH_sp k1, y_len k3, hsw.wd k6 args⟩, hsw.wd k7 args, hsw.wd k8 args⟩ ⟨Pq_blind, hrc, hp⟩ rfl (by rw [List.length_map]; exact hn) hsz (y_stk as rs ha) (y_cat hcat pc ls _) hdg hf
  · simp only [kM1, Bool.and_eq_true, Bool.or_eq_true, decide_eq_true_eq] at hk
    obtain ⟨⟨⟨⟨k1, k2⟩, k3⟩, k4⟩, ⟨⟨⟨⟨k0, k5⟩, k6⟩, k7⟩, k8⟩, k9⟩ := hk
    have hrc := y_recv (a := a) (ci := t - 1) hsw rr (by omega) (by omega)
    have hdecl : va_Decl s ⟨owner, x.name, x.desc⟩ := by
      rcases k9 with q | ⟨⟨⟨q1, q2⟩, q3⟩, q4⟩
      · exact va_Decl.abs (hsw.2.2.1 _ q)
      · have hc2 := y_cw hsw q3 q4 args
        unfold cw at hc2
        rw [q2] at hc2
        exact va_Decl.of (hsw.wd q1 args) hc2
    exact va_runU (C := xcl (t - 1)) (x := x) (owner := owner) (bytes := mby M) (maxL := mxl M) (ret := mrt M) ⟨hexec, hb, hml, hown, hsw.ws args⟩ hMet ⟨⟨rfl, rfl, hfr, hlo, hw, List.mem_singleton.mpr rfl⟩, y_cw hsw hM hM0 args, hsw.wd k4 args, nMH_sp k2, y_len k3, hsw.wd k5 args, hsw.wd k8 args, hdecl, hsw.wd k7 args, hsw.wd k6 args⟩ ⟨Pq_blind, hrc, hp⟩ rfl (by rw [List.length_map]; exact hn) hsz (y_stk as rs ha) (y_cat hcat pc ls _) hdg hf
end Calls2
