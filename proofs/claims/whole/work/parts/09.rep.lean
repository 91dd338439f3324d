-- the machine's heap holds the interpreter's
def op (base a : Nat) : Option Nat := if a = 0 then none else some (base + a)
def cv (base b : Nat) : Value → Value
  | .ref a => va_rf (op base a)
  | .retAddr _ => .ref b
  | v => v
def fv (base : Nat) (h : AH) (f a : Nat) : Value := match fty f with | 0 => .int (fI h f a) | 1 => .long (fL h f a) | _ => va_rf (op base (fR h f a))
theorem cv_rdF (base b : Nat) (h : AH) (f a : Nat) : cv base b (rdF h f a) = fv base h f a := by
  unfold rdF fv
  generalize fty f = t
  match t with
  | 0 => rfl
  | 1 => rfl
  | n + 2 => rfl
abbrev AC : Type := ClassId × ClassId × ClassId
def ce (base : Nat) (A : AC) (h : AH) (a : Nat) : va_E :=
  if tg h a = 20 then .inl (A.1, ln h a, .inl (eI h a))
  else if tg h a = 21 then .inl (A.2.1, ln h a, .inr (.inl (eL h a)))
  else if tg h a = 22 then .inl (A.2.2, ln h a, .inr (.inr (.inr (.inr (fun i => op base (eR h a i))))))
  else if tg h a = 0 then .inr (99, [])
  else .inr (tg h a - 1, (ctab (tg h a - 1)).map (fun f => fv base h f a))
def Rep (base : Nat) (D : va_G) (A : AC) (h : AH) (H : Heap) : Prop :=
  H.size = base + nn h + 1 ∧ (∀ a, 1 ≤ a → a ≤ nn h → va_at D xclasses (base + a, ce base A h a) H) ∧ ∀ a, tg h a ≠ 0 → 1 ≤ a ∧ a ≤ nn h
theorem Rep.cell {base : Nat} {D : va_G} {A : AC} {h : AH} {H : Heap} (r : Rep base D A h H) {a : Nat} (ha : tg h a ≠ 0) : va_at D xclasses (base + a, ce base A h a) H := r.2.1 a (r.2.2 a ha).1 (r.2.2 a ha).2
theorem Rep.pos {base : Nat} {D : va_G} {A : AC} {h : AH} {H : Heap} (r : Rep base D A h H) {a : Nat} (ha : tg h a ≠ 0) : op base a = some (base + a) := by
  have := (r.2.2 a ha).1
  unfold op
  rw [if_neg (by omega)]
theorem hasF_spec {t f : Nat} (h : hasF t f = true) : ∃ c k, t = c + 1 ∧ c < 10 ∧ k < (ctab c).length ∧ (ctab c).getD k 0 = f := by
  simp only [hasF, Bool.and_eq_true, decide_eq_true_eq, List.any_eq_true, beq_iff_eq] at h
  obtain ⟨⟨⟨x, hx, rfl⟩, h1⟩, h2⟩ := h
  obtain ⟨k, hk⟩ := List.getElem?_of_mem hx
  have hl : k < (ctab (t - 1)).length := (List.getElem?_eq_some_iff.mp hk).1
  refine ⟨t - 1, k, by omega, ?_, hl, by rw [List.getD_eq_getElem?_getD, hk]; rfl⟩
  rcases Nat.lt_or_ge (t - 1) 10 with q | q
  · exact q
  · exfalso
    have e : ctab (t - 1) = [] := by
      unfold ctab
      rw [List.getD_eq_getElem?_getD, List.getElem?_eq_none]
      · rfl
      · exact q
    rw [e] at hl
    exact absurd hl (Nat.not_lt_zero _)
theorem ce_obj {base : Nat} {A : AC} {h : AH} {a c : Nat} (ht : tg h a = c + 1) (hc : c < 10) : ce base A h a = .inr (c, (ctab c).map (fun f => fv base h f a)) := by
  unfold ce
  rw [if_neg (by omega), if_neg (by omega), if_neg (by omega), if_neg (by omega), ht]
  rfl
theorem ce_i {base : Nat} {A : AC} {h : AH} {a : Nat} (ht : tg h a = 20) : ce base A h a = .inl (A.1, ln h a, .inl (eI h a)) := by
  unfold ce
  rw [if_pos ht]
theorem ce_l {base : Nat} {A : AC} {h : AH} {a : Nat} (ht : tg h a = 21) : ce base A h a = .inl (A.2.1, ln h a, .inr (.inl (eL h a))) := by
  unfold ce
  rw [if_neg (by omega), if_pos ht]
theorem ce_r {base : Nat} {A : AC} {h : AH} {a : Nat} (ht : tg h a = 22) : ce base A h a = .inl (A.2.2, ln h a, .inr (.inr (.inr (.inr (fun i => op base (eR h a i)))))) := by
  unfold ce
  rw [if_neg (by omega), if_neg (by omega), if_pos ht]
/-- what a cell shows: it depends on its own entries alone -/
theorem ce_same {base : Nat} {A : AC} {h h2 : AH} {a : Nat} (h1 : tg h2 a = tg h a) (h3 : ln h2 a = ln h a) (h4 : eI h2 a = eI h a) (h5 : eL h2 a = eL h a) (h6 : eR h2 a = eR h a) (h7 : ∀ f, fv base h2 f a = fv base h f a) : ce base A h2 a = ce base A h a := by
  unfold ce
  rw [h1, h3, h4, h5, h6]
  simp only [h7]
theorem Rep.upd {base : Nat} {D : va_G} {A : AC} {h h2 : AH} {H H1 : Heap} {a : Nat} (r : Rep base D A h H) (hn : nn h2 = nn h) (ht : ∀ x, tg h2 x = tg h x) (hs : H1.size = H.size) (ho : ∀ q, q ≠ base + a → H1[q]? = H[q]?)
    (hc : ∀ x, x ≠ a → ce base A h2 x = ce base A h x) (hat : va_at D xclasses (base + a, ce base A h2 a) H1) : Rep base D A h2 H1 := by
  refine ⟨by rw [hs, hn]; exact r.1, fun x h1 h3 => ?_, fun x hx => ?_⟩
  · by_cases e : x = a
    · subst e; exact hat
    · rw [hc x e]
      rw [hn] at h3
      exact (r.2.1 x h1 h3).kept (ho _ (by show base + x ≠ base + a; omega))
  · rw [hn]; rw [ht] at hx; exact r.2.2 x hx
theorem fld_set {base : Nat} {h h2 : AH} {a c k f : Nat} {v : Value} (hc : c < 10) (hk : k < (ctab c).length) (hf : (ctab c).getD k 0 = f) (h1 : ∀ g, g ≠ f → fv base h2 g a = fv base h g a) (h3 : fv base h2 f a = v) :
    ((ctab c).map (fun g => fv base h g a)).set k v = (ctab c).map (fun g => fv base h2 g a) := by
  apply List.ext_getElem?
  intro j
  by_cases hj : j = k
  · subst hj
    rw [List.getElem?_set_self (by rw [List.length_map]; exact hk), List.getElem?_map]
    rw [List.getD_eq_getElem?_getD, List.getElem?_eq_getElem hk] at hf
    rw [List.getElem?_eq_getElem hk]
    simp only [Option.getD_some] at hf
    simp only [Option.map_some, hf, h3]
  · rw [List.getElem?_set_ne (Ne.symm hj), List.getElem?_map, List.getElem?_map]
    cases e : (ctab c)[j]? with
    | none => rfl
    | some g =>
      simp only [Option.map_some]
      rw [h1 g]
      intro hg
      subst hg
      have hjl : j < (ctab c).length := (List.getElem?_eq_some_iff.mp e).1
      rw [List.getD_eq_getElem?_getD, List.getElem?_eq_getElem hk] at hf
      rw [List.getElem?_eq_getElem hjl] at e
      simp only [Option.getD_some] at hf
      exact hj ((List.getElem_inj (nd_ok c hc)).mp ((Option.some.inj e).trans hf.symm))
theorem Rep.put {base : Nat} {D : va_G} {A : AC} {h h2 : AH} {H H1 : Heap} {a c k f : Nat} {v : Value} (r : Rep base D A h H) (ht : tg h a = c + 1) (hc : c < 10) (hk : k < (ctab c).length) (hf : (ctab c).getD k 0 = f) (e : h2.2 = h.2)
    (hfv : ∀ g x, ¬ (g = f ∧ x = a) → fv base h2 g x = fv base h g x) (hv : fv base h2 f a = v) (hat : va_at D xclasses (base + a, .inr (c, ((ctab c).map (fun g => fv base h g a)).set k v)) H1) (hs : H1.size = H.size) (ho : ∀ q, q ≠ base + a → H1[q]? = H[q]?) : Rep base D A h2 H1 := by
  have t2 : ∀ x, tg h2 x = tg h x := fun x => by show h2.2.2.1 x = h.2.2.1 x; rw [e]
  refine r.upd (by show h2.2.2.2.2.1 = h.2.2.2.2.1; rw [e]) t2 hs ho (fun x hx => ?_) ?_
  · refine ce_same (t2 x) (by show h2.2.2.2.1 x = h.2.2.2.1 x; rw [e]) ?_ ?_ ?_ (fun g => hfv g x (fun q => hx q.2))
    · show h2.2.1.1 x = h.2.1.1 x; rw [e]
    · show h2.2.1.2.1 x = h.2.1.2.1 x; rw [e]
    · show h2.2.1.2.2 x = h.2.1.2.2 x; rw [e]
  · rw [ce_obj (by rw [t2]; exact ht) hc, ← fld_set hc hk hf (fun g hg => hfv g a (fun q => hg q.1)) hv]
    exact hat
theorem u2_ne {α : Type} {m : Nat → Nat → α} {f a g x : Nat} {v : α} (h : ¬ (g = f ∧ x = a)) : u2 m f a v g x = m g x := by
  unfold u2
  by_cases h1 : g = f
  · rw [if_pos h1, if_neg (fun e => h ⟨h1, e⟩)]
  · rw [if_neg h1]
theorem u2_eq {α : Type} {m : Nat → Nat → α} {f a : Nat} {v : α} : u2 m f a v f a = v := by
  unfold u2
  rw [if_pos rfl, if_pos rfl]
theorem fv_wI {base : Nat} {h : AH} {f a : Nat} {x : Int32} (hf : fty f = 0) : (∀ g y, ¬ (g = f ∧ y = a) → fv base (wI h f a x) g y = fv base h g y) ∧ fv base (wI h f a x) f a = .int x := by
  refine ⟨fun g y hg => ?_, ?_⟩
  · have e : fI (wI h f a x) g y = fI h g y := u2_ne hg
    unfold fv
    rw [e]
    rfl
  · unfold fv
    rw [hf]
    show Value.int (u2 h.1.1 f a x f a) = _
    rw [u2_eq]
theorem fv_wL {base : Nat} {h : AH} {f a : Nat} {x : Int64} (hf : fty f = 1) : (∀ g y, ¬ (g = f ∧ y = a) → fv base (wL h f a x) g y = fv base h g y) ∧ fv base (wL h f a x) f a = .long x := by
  refine ⟨fun g y hg => ?_, ?_⟩
  · have e : fL (wL h f a x) g y = fL h g y := u2_ne hg
    unfold fv
    rw [e]
    rfl
  · unfold fv
    rw [hf]
    show Value.long (u2 h.1.2.1 f a x f a) = _
    rw [u2_eq]
theorem fv_wR {base : Nat} {h : AH} {f a : Nat} {x : Nat} (hf : fty f = 2) : (∀ g y, ¬ (g = f ∧ y = a) → fv base (wR h f a x) g y = fv base h g y) ∧ fv base (wR h f a x) f a = va_rf (op base x) := by
  refine ⟨fun g y hg => ?_, ?_⟩
  · have e : fR (wR h f a x) g y = fR h g y := u2_ne hg
    unfold fv
    rw [e]
    rfl
  · unfold fv
    rw [hf]
    show va_rf (op base (u2 h.1.2.2 f a x f a)) = _
    rw [u2_eq]
theorem Rep.sto {base : Nat} {D : va_G} {A : AC} {h h2 : AH} {H H1 : Heap} {a : Nat} (r : Rep base D A h H) (e1 : h2.1 = h.1) (e2 : h2.2.2 = h.2.2) (hs : H1.size = H.size) (ho : ∀ q, q ≠ base + a → H1[q]? = H[q]?)
    (hI : ∀ x, x ≠ a → eI h2 x = eI h x) (hL : ∀ x, x ≠ a → eL h2 x = eL h x) (hR : ∀ x, x ≠ a → eR h2 x = eR h x) (hat : va_at D xclasses (base + a, ce base A h2 a) H1) : Rep base D A h2 H1 := by
  have t2 : ∀ x, tg h2 x = tg h x := fun x => by show h2.2.2.1 x = h.2.2.1 x; rw [e2]
  refine r.upd (by show h2.2.2.2.2.1 = h.2.2.2.2.1; rw [e2]) t2 hs ho (fun x hx => ?_) hat
  refine ce_same (t2 x) (by show h2.2.2.2.1 x = h.2.2.2.1 x; rw [e2]) (hI x hx) (hL x hx) (hR x hx) (fun f => ?_)
  unfold fv fI fL fR
  rw [e1]
theorem u2_row {α : Type} {m : Nat → Nat → α} {a i x : Nat} {v : α} (h : x ≠ a) : u2 m a i v x = m x := by
  funext j
  exact u2_ne (fun q => h q.1)
theorem Rep.nw {base : Nat} {D : va_G} {A : AC} {h : AH} {H H1 : Heap} {t l n : Nat} (r : Rep base D A h H) (hs : H1.size = H.size + 1) (ho : ∀ q, q < H.size → H1[q]? = H[q]?) (hat : va_at D xclasses (base + (nn h + 1), ce base A (mk h t l n) (nn h + 1)) H1) : Rep base D A (mk h t l n) H1 := by
  have hn : nn (mk h t l n) = nn h + 1 := rfl
  refine ⟨by rw [hs, r.1, hn]; omega, fun x h1 h3 => ?_, fun x hx => ?_⟩
  · rw [hn] at h3
    by_cases e : x = nn h + 1
    · subst e; exact hat
    · have h4 := r.2.1 x h1 (by omega)
      have e2 : ce base A (mk h t l n) x = ce base A h x := by
        refine ce_same ?_ ?_ ?_ ?_ ?_ (fun f => ?_)
        · show (if x = nn h + 1 then t else _) = _; rw [if_neg e]; rfl
        · show (if x = nn h + 1 then l else _) = _; rw [if_neg e]; rfl
        · funext i; show (if x = nn h + 1 then _ else _) = _; rw [if_neg e]; rfl
        · funext i; show (if x = nn h + 1 then _ else _) = _; rw [if_neg e]; rfl
        · funext i; show (if x = nn h + 1 then _ else _) = _; rw [if_neg e]; rfl
        · have g1 : fI (mk h t l n) f x = fI h f x := by show (if x = nn h + 1 then _ else _) = _; rw [if_neg e]; rfl
          have g2 : fL (mk h t l n) f x = fL h f x := by show (if x = nn h + 1 then _ else _) = _; rw [if_neg e]; rfl
          have g3 : fR (mk h t l n) f x = fR h f x := by show (if x = nn h + 1 then _ else _) = _; rw [if_neg e]; rfl
          unfold fv
          rw [g1, g2, g3]
      rw [e2]
      exact h4.kept (ho _ h4.lt)
  · rw [hn]
    by_cases e : x = nn h + 1
    · omega
    · have : tg (mk h t l n) x = tg h x := by show (if x = nn h + 1 then t else _) = _; rw [if_neg e]; rfl
      rw [this] at hx
      have := r.2.2 x hx
      omega
