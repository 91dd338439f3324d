-- a new leaf
def hang (P : PT) (n x : Nat) (lt : Bool) : PT := (if n ≠ 0 ∧ lt = true then u1 (u1 P.1 x 0) n x else u1 P.1 x 0, if n ≠ 0 ∧ lt = false then u1 (u1 P.2.1 x 0) n x else u1 P.2.1 x 0, u1 P.2.2 x n)
theorem hang_x (P : PT) {n x : Nat} (lt : Bool) (h : n ≠ x) : (hang P n x lt).1 x = 0 ∧ (hang P n x lt).2.1 x = 0 ∧ (hang P n x lt).2.2 x = n := by
  have hx : x ≠ n := fun q => h q.symm
  refine ⟨?_, ?_, u1_s _ _ _⟩
  · show (if n ≠ 0 ∧ lt = true then u1 (u1 P.1 x 0) n x else u1 P.1 x 0) x = 0
    split
    · rw [u1_o _ _ hx, u1_s]
    · rw [u1_s]
  · show (if n ≠ 0 ∧ lt = false then u1 (u1 P.2.1 x 0) n x else u1 P.2.1 x 0) x = 0
    split
    · rw [u1_o _ _ hx, u1_s]
    · rw [u1_s]
theorem hang_u (P : PT) {n x a : Nat} (lt : Bool) (h : a ≠ x) : (hang P n x lt).2.2 a = P.2.2 a := u1_o _ _ h
theorem hang_o (P : PT) {n x a : Nat} (lt : Bool) (h : a ≠ x) (h2 : a ≠ n) : (hang P n x lt).1 a = P.1 a ∧ (hang P n x lt).2.1 a = P.2.1 a := by
  refine ⟨?_, ?_⟩
  · show (if n ≠ 0 ∧ lt = true then u1 (u1 P.1 x 0) n x else u1 P.1 x 0) a = P.1 a
    split
    · rw [u1_o _ _ h2, u1_o _ _ h]
    · rw [u1_o _ _ h]
  · show (if n ≠ 0 ∧ lt = false then u1 (u1 P.2.1 x 0) n x else u1 P.2.1 x 0) a = P.2.1 a
    split
    · rw [u1_o _ _ h2, u1_o _ _ h]
    · rw [u1_o _ _ h]
theorem hang_n (P : PT) {n x : Nat} (lt : Bool) (h : n ≠ x) (n0 : n ≠ 0) : (hang P n x lt).1 n = (if lt then x else P.1 n) ∧ (hang P n x lt).2.1 n = (if lt then P.2.1 n else x) := by
  refine ⟨?_, ?_⟩
  · show (if n ≠ 0 ∧ lt = true then u1 (u1 P.1 x 0) n x else u1 P.1 x 0) n = _
    cases lt
    · rw [if_neg (fun q => by cases q.2), u1_o _ _ h]; rfl
    · rw [if_pos ⟨n0, rfl⟩, u1_s]; rfl
  · show (if n ≠ 0 ∧ lt = false then u1 (u1 P.2.1 x 0) n x else u1 P.2.1 x 0) n = _
    cases lt
    · rw [if_pos ⟨n0, rfl⟩, u1_s]; rfl
    · rw [if_neg (fun q => by cases q.2), u1_o _ _ h]; rfl
/-- what is asked of the place for a leaf -/
def Slot (P : PT) (T : Nat → Nat) (κ n : Nat) (lt : Bool) : Prop := n ≠ 0 → T n = κ ∧ (lt = true → P.1 n = 0) ∧ (lt = false → P.2.1 n = 0)
theorem hang_ws {P : PT} {T z : Nat → Nat} {κ n x : Nat} {lt : Bool} (hw : WF P T z) (κ0 : κ ≠ 0) (hx : T x = 0) (x0 : x ≠ 0) (hs : Slot P T κ n lt) : WS (hang P n x lt) (u1 T x κ) ∧ MU (hang P n x lt) (u1 T x κ) (u1 (fun a => z a + 1) x 0) ∧ n ≠ x := by
  have nx : n ≠ x := fun q => by
    by_cases n0 : n = 0
    · exact x0 (q.symm.trans n0)
    · have := (hs n0).1
      rw [q, hx] at this
      exact κ0 this.symm
  have ws : WS (P.1, P.2.1, P.2.2) T := hw.ws
  refine ⟨?_, ?_, nx⟩
  · by_cases n0 : n = 0
    · subst n0
      have := ws.ho (c := x) (t := κ) hx x0
      have e : hang P 0 x lt = (u1 P.1 x 0, u1 P.2.1 x 0, u1 P.2.2 x 0) := by
        unfold hang
        rw [if_neg (fun q => q.1 rfl), if_neg (fun q => q.1 rfl)]
      rw [e]; exact this
    · obtain ⟨s1, s2, s3⟩ := hs n0
      have tn : T n ≠ 0 := by rw [s1]; exact κ0
      cases lt
      · have := ws.hr (n := n) (c := x) tn hx x0 (s3 rfl)
        rw [s1] at this
        have e : hang P n x false = (u1 P.1 x 0, u1 (u1 P.2.1 x 0) n x, u1 P.2.2 x n) := by
          unfold hang
          rw [if_neg (fun q => by cases q.2), if_pos ⟨n0, rfl⟩]
        rw [e]; exact this
      · have := ws.hl (n := n) (c := x) tn hx x0 (s2 rfl)
        rw [s1] at this
        have e : hang P n x true = (u1 (u1 P.1 x 0) n x, u1 P.2.1 x 0, u1 P.2.2 x n) := by
          unfold hang
          rw [if_pos ⟨n0, rfl⟩, if_neg (fun q => by cases q.2)]
        rw [e]; exact this
  · intro a ha
    by_cases q : a = x
    · rw [q, (hang_x P lt nx).1, (hang_x P lt nx).2.1]
      exact ⟨fun g => absurd rfl g, fun g => absurd rfl g⟩
    · rw [u1_o _ _ q] at ha
      have wa := hw.2.2 a ha
      have nb := ws.nb ha hx x0
      have lz : ∀ ch, ch ≠ 0 → ch ≠ x → z ch < z a → u1 (fun a => z a + 1) x 0 ch < u1 (fun a => z a + 1) x 0 a := fun ch _ h2 h3 => by
        rw [u1_o _ _ q, u1_o _ _ h2]; omega
      have lx : u1 (fun a => z a + 1) x 0 x < u1 (fun a => z a + 1) x 0 a := by
        rw [u1_o _ _ q, u1_s]; omega
      by_cases q2 : a = n
      · have n0 : n ≠ 0 := by rw [← q2]; exact hw.n0 ha
        rw [q2] at lx lz wa nb ⊢
        rw [(hang_n P lt nx n0).1, (hang_n P lt nx n0).2]
        cases lt
        · exact ⟨fun g => lz _ g nb.1 (by have := wa.2.2.2.2; have g : P.1 n ≠ 0 := g; show z (P.1 n) < z n; omega), fun _ => lx⟩
        · exact ⟨fun _ => lx, fun g => lz _ g nb.2.1 (by have := wa.2.2.2.2; have g : P.2.1 n ≠ 0 := g; show z (P.2.1 n) < z n; omega)⟩
      · rw [(hang_o P lt q q2).1, (hang_o P lt q q2).2]
        exact ⟨fun g => lz _ g nb.1 (by have := wa.2.2.2.2; omega), fun g => lz _ g nb.2.1 (by have := wa.2.2.2.2; omega)⟩
theorem hang_wf {P : PT} {T z : Nat → Nat} {κ n x : Nat} {lt : Bool} (hw : WF P T z) (hT : TN T) (κ0 : κ ≠ 0) (hx : T x = 0) (x0 : x ≠ 0) (x2 : x ≤ 20002) (hs : Slot P T κ n lt) : WF (hang P n x lt) (u1 T x κ) (zf (hang P n x lt)) := by
  obtain ⟨w1, w2, -⟩ := hang_ws hw κ0 hx x0 hs
  refine WF.of (B := 20003) w1 (TN_u1 hT x0 x2) w2 (fun a ha => ?_)
  by_cases q : a = x
  · rw [q, u1_s]; omega
  · rw [u1_o _ _ q] at ha ⊢
    have := hw.z_le hT.2 (Or.inr ha)
    omega
/-- sizes of a tree in which nothing has changed -/
theorem zfr {P P' : PT} {T T' z z' : Nat → Nat} (hw : WF P T z) (hw' : WF P' T' z') (hT : TN T) {κ : Nat} (κ0 : κ ≠ 0) (e : ∀ a, T a = κ → T' a = κ ∧ P'.1 a = P.1 a ∧ P'.2.1 a = P.2.1 a ∧ P'.2.2 a = P.2.2 a) (e2 : ∀ a, T' a = κ → T a = κ) : ∀ a, T a = κ → z' a = z a := by
  intro a ha
  have lv : ∀ a, ind T κ a ≠ 0 → T a = κ := fun a ha => (ind_ne κ0 a).mp ha
  have h1 : WF P (ind T κ) z := WF.ind (l := P.1) (r := P.2.1) (u := P.2.2) (u' := P.2.2) hw κ0 (fun _ _ => rfl)
  have h2 : WF P' (ind T κ) z := h1.pt (fun a ha => ⟨(e a (lv a ha)).2.1, (e a (lv a ha)).2.2.1, (e a (lv a ha)).2.2.2⟩)
  have h3 : WF P' (ind T' κ) z' := WF.ind (l := P'.1) (r := P'.2.1) (u := P'.2.2) (u' := P'.2.2) hw' κ0 (fun _ _ => rfl)
  have ei : ind T' κ = ind T κ := by
    funext b
    unfold ind
    by_cases q : T b = κ
    · rw [if_pos q, if_pos (e b q).1]
    · rw [if_neg q, if_neg (fun g => q (e2 b g))]
  rw [ei] at h3
  have hN : ∀ a, ind T κ a ≠ 0 → a ≤ 20002 := fun a ha => hT.2 a (by rw [lv a ha]; exact κ0)
  have la : LZ (ind T κ) a := Or.inr (by rw [ind_eq ha]; exact κ0)
  rw [← h2.can hN la, ← h3.can hN la]
theorem grF_cg (u : Nat → Nat) : ∀ (f n : Nat) (z z' : Nat → Nat), (∀ a, a ≠ 0 → z a = z' a) → ∀ a, a ≠ 0 → grF u f n z a = grF u f n z' a := by
  intro f
  induction f with
  | zero => intro n z z' h a ha; exact h a ha
  | succ f ih =>
    intro n z z' h a ha
    unfold grF
    by_cases n0 : n = 0
    · rw [if_pos n0, if_pos n0]; exact h a ha
    · rw [if_neg n0, if_neg n0]
      refine ih _ _ _ (fun b hb => ?_) a ha
      by_cases q : b = n
      · rw [q, u1_s, u1_s, h n n0]
      · rw [u1_o _ _ q, u1_o _ _ q]; exact h b hb
/-- the growth of sizes above a new leaf -/
theorem hang_gr {P : PT} {T z cz : Nat → Nat} {κ n x : Nat} {lt : Bool} (hw : WF P T z) (hT : TN T) (κ0 : κ ≠ 0) (hx : T x = 0) (x0 : x ≠ 0) (x2 : x ≤ 20002) (hs : Slot P T κ n lt) (hcz : ∀ a, T a = κ → cz a = z a) : ∀ a, u1 T x κ a = κ → grF (hang P n x lt).2.2 20003 n (u1 cz x 1) a = zf (hang P n x lt) a := by
  intro a ha
  obtain ⟨w1, w2, nx⟩ := hang_ws hw κ0 hx x0 hs
  have hT' := TN_u1 (s := κ) hT x0 x2
  have hwf := hang_wf hw hT κ0 hx x0 x2 hs
  have lv : ∀ a, ind (u1 T x κ) κ a ≠ 0 → u1 T x κ a = κ := fun a ha => (ind_ne κ0 a).mp ha
  have lv0 : ∀ a, u1 T x κ a = κ → u1 T x κ a ≠ 0 := fun a ha => by rw [ha]; exact κ0
  have hwi : WF (hang P n x lt) (ind (u1 T x κ) κ) (zf (hang P n x lt)) := WF.ind (l := (hang P n x lt).1) (r := (hang P n x lt).2.1) (u := (hang P n x lt).2.2) (u' := (hang P n x lt).2.2) hwf κ0 (fun _ _ => rfl)
  have hB : ∀ a, ind (u1 T x κ) κ a ≠ 0 → u1 (fun a => z a + 1) x 0 a ≤ 20003 := fun a ha => by
    have ta := lv a ha
    by_cases q : a = x
    · rw [q, u1_s]; omega
    · rw [u1_o _ _ q] at ta ⊢
      have := hw.z_le hT.2 (Or.inr (by rw [ta]; exact κ0))
      omega
  have a0 : a ≠ 0 := hwf.n0 (lv0 a ha)
  have cg := grF_cg (hang P n x lt).2.2 20003 n (u1 cz x 1) (fun b => if b = 0 then 0 else u1 cz x 1 b) (fun b hb => by show _ = if b = 0 then 0 else _; rw [if_neg hb]) a a0
  rw [cg]
  have val : ∀ b, b ≠ x → LZ T b → (b ≠ 0 → T b = κ) → (if b = 0 then 0 else u1 cz x 1 b) = z b := fun b q lb hb => by
    by_cases b0 : b = 0
    · rw [if_pos b0, b0, hw.2.1]
    · rw [if_neg b0, u1_o _ _ q, hcz b (hb b0)]
  have valx : (if x = 0 then 0 else u1 cz x 1 x) = 1 := by rw [if_neg x0, u1_s]
  have key := grF_wf (P := hang P n x lt) (S := ind (u1 T x κ) κ) (μ := u1 (fun a => z a + 1) x 0) (B := 20003) hwi.ws (fun b hb => w2 b (lv0 b (lv b hb))) hB 20003 n (fun b => if b = 0 then 0 else u1 cz x 1 b) (if_pos rfl) (by
    by_cases n0 : n = 0
    · exact Or.inl n0
    · refine Or.inr ?_
      rw [ind_eq (by rw [u1_o _ _ nx]; exact (hs n0).1)]
      exact κ0) (fun b hb hbn => ?_) (fun n0 => ?_) (fun n0 => by rw [u1_o _ _ nx]; have := hw.pos (n := n) (by rw [(hs n0).1]; exact κ0); omega)
  · rw [← key.1.can (fun b hb => hT'.2 b (lv0 b (lv b hb))) (Or.inr (by rw [ind_eq ha]; exact κ0))]
  · have tb := lv b hb
    by_cases q : b = x
    · subst q
      rw [(hang_x P lt nx).1, (hang_x P lt nx).2.1]
      show (if b = 0 then 0 else u1 cz b 1 b) = 1 + (if (0 : Nat) = 0 then 0 else _) + (if (0 : Nat) = 0 then 0 else _)
      rw [valx, if_pos rfl]
    · rw [u1_o _ _ q] at tb
      have tb0 : T b ≠ 0 := by rw [tb]; exact κ0
      have wb := hw.2.2 b tb0
      have nb := hw.ws.nb tb0 hx x0
      rw [(hang_o P lt q hbn).1, (hang_o P lt q hbn).2]
      show (if b = 0 then 0 else u1 cz x 1 b) = 1 + (if P.1 b = 0 then 0 else u1 cz x 1 (P.1 b)) + (if P.2.1 b = 0 then 0 else u1 cz x 1 (P.2.1 b))
      rw [val b q (Or.inr tb0) (fun _ => tb), val _ nb.1 (hw.lzl tb0) (fun g => (wb.1 g).2.trans tb), val _ nb.2.1 (hw.lzr tb0) (fun g => (wb.2.1 g).2.trans tb)]
      exact wb.2.2.2.2
  · obtain ⟨s1, s2, s3⟩ := hs n0
    have tb0 : T n ≠ 0 := by rw [s1]; exact κ0
    have wb := hw.2.2 n tb0
    have nb := hw.ws.nb tb0 hx x0
    have h5 := wb.2.2.2.2
    rw [(hang_n P lt nx n0).1, (hang_n P lt nx n0).2]
    cases lt
    · show (if n = 0 then 0 else u1 cz x 1 n) + 1 = 1 + (if P.1 n = 0 then 0 else u1 cz x 1 (P.1 n)) + (if x = 0 then 0 else u1 cz x 1 x)
      rw [val n nx (Or.inr tb0) (fun _ => s1), val _ nb.1 (hw.lzl tb0) (fun g => (wb.1 g).2.trans s1), valx]
      rw [s3 rfl, hw.2.1] at h5
      omega
    · show (if n = 0 then 0 else u1 cz x 1 n) + 1 = 1 + (if x = 0 then 0 else u1 cz x 1 x) + (if P.2.1 n = 0 then 0 else u1 cz x 1 (P.2.1 n))
      rw [val n nx (Or.inr tb0) (fun _ => s1), val _ nb.2.1 (hw.lzr tb0) (fun g => (wb.2.1 g).2.trans s1), valx]
      rw [s2 rfl, hw.2.1] at h5
      omega
-- the key's way, from the root down to a node
def Dir (P : PT) (ky : Nat → Int64) (k : Int64) (n : Nat) : Prop := ∀ j, upI P (j + 1) n ≠ 0 → (P.1 (upI P (j + 1) n) = upI P j n → k < ky (upI P (j + 1) n)) ∧ (P.2.1 (upI P (j + 1) n) = upI P j n → ky (upI P (j + 1) n) < k)
theorem i64_tri {a b : Int64} (h : a ≠ b) (g : ¬ a < b) : b < a := by
  rcases Int64.lt_or_le a b with q | q
  · exact absurd q g
  · exact Int64.lt_of_le_of_ne q (fun e => h e.symm)
theorem gT_dir {ky : Nat → Int64} {P : PT} {T z : Nat → Nat} (hW : WF P T z) (k : Int64) : ∀ (f n : Nat), T n ≠ 0 → Dir P ky k n → Dir P ky k (gT ky P k f n).1 := by
  intro f
  induction f with
  | zero => intro n _ h; exact h
  | succ f ih =>
    intro n hn h
    have n0 := hW.n0 hn
    by_cases e : ky n = k
    · simp only [gT, n0, if_false, e, if_true]; exact h
    · generalize hc : (if k < ky n then P.1 n else P.2.1 n) = ch
      by_cases c0 : ch = 0
      · simp only [gT, n0, if_false, e, hc, c0, if_true]; exact h
      · have w := hW.2.2 n hn
        have tc : T ch = T n ∧ P.2.2 ch = n ∧ (P.1 n = ch → k < ky n) ∧ (P.2.1 n = ch → ky n < k) := by
          by_cases g : k < ky n
          · rw [if_pos g] at hc
            have := w.1 (by rw [hc]; exact c0)
            rw [hc] at this
            refine ⟨this.2, this.1, fun _ => g, fun q => ?_⟩
            have := w.2.2.2.1 (hc.trans q.symm)
            rw [hc] at this
            exact absurd this c0
          · rw [if_neg g] at hc
            have := w.2.1 (by rw [hc]; exact c0)
            rw [hc] at this
            refine ⟨this.2, this.1, fun q => ?_, fun _ => i64_tri (fun q => e q.symm) g⟩
            have := w.2.2.2.1 (q.trans hc.symm)
            rw [q] at this
            exact absurd this c0
        simp only [gT, n0, if_false, e, hc, c0]
        refine ih ch (by rw [tc.1]; exact hn) (fun j hj => ?_)
        have hu : P.2.2 ch ≠ 0 := by rw [tc.2.1]; exact n0
        cases j with
        | zero =>
          rw [upI_S _ _ _ hu, tc.2.1]
          exact tc.2.2
        | succ j =>
          rw [upI_S P (j + 1) ch hu, tc.2.1] at hj ⊢
          rw [upI_S P j ch hu, tc.2.1]
          exact h j hj
/-- where the way ends: the key is met, or there is no child -/
theorem gT_end {ky : Nat → Int64} {P : PT} {T z : Nat → Nat} (hW : WF P T z) (k : Int64) : ∀ (f n : Nat), T n ≠ 0 → z n ≤ f → ky (gT ky P k f n).1 ≠ k → (k < ky (gT ky P k f n).1 → P.1 (gT ky P k f n).1 = 0) ∧ (¬ k < ky (gT ky P k f n).1 → P.2.1 (gT ky P k f n).1 = 0) := by
  intro f
  induction f with
  | zero => intro n hn hz; have := hW.pos hn; omega
  | succ f ih =>
    intro n hn hz
    have n0 := hW.n0 hn
    by_cases e : ky n = k
    · simp only [gT, n0, if_false, e, if_true]; exact fun h => absurd rfl h
    · generalize hc : (if k < ky n then P.1 n else P.2.1 n) = ch
      by_cases c0 : ch = 0
      · simp only [gT, n0, if_false, e, hc, c0, if_true]
        intro _
        refine ⟨fun g => ?_, fun g => ?_⟩
        · rw [if_pos g] at hc; exact hc.trans c0
        · rw [if_neg g] at hc; exact hc.trans c0
      · have w := hW.2.2 n hn
        have tc : T ch = T n ∧ z ch < z n := by
          by_cases g : k < ky n
          · rw [if_pos g] at hc
            have := w.1 (by rw [hc]; exact c0)
            rw [hc] at this
            exact ⟨this.2, by rw [← hc]; have := w.2.2.2.2; omega⟩
          · rw [if_neg g] at hc
            have := w.2.1 (by rw [hc]; exact c0)
            rw [hc] at this
            exact ⟨this.2, by rw [← hc]; have := w.2.2.2.2; omega⟩
        simp only [gT, n0, if_false, e, hc, c0]
        exact ih ch (by rw [tc.1]; exact hn) (by omega)
/-- keys in order, with a leaf more -/
theorem hang_ord {P : PT} {ky : Nat → Int64} {T z : Nat → Nat} {κ n x : Nat} {k : Int64} (hw : WF P T z) (κ0 : κ ≠ 0) (hx : T x = 0) (x0 : x ≠ 0) (hs : Slot P T κ n (decide (k < ky n))) (hO : ∀ a, T a = κ → OrK P ky a) (hk : n ≠ 0 → ky n ≠ k) (hd : n ≠ 0 → Dir P ky k n) : ∀ a, u1 T x κ a = κ → OrK (hang P n x (decide (k < ky n))) (u1 ky x k) a := by
  intro a ha
  obtain ⟨w1, w2, nx⟩ := hang_ws hw κ0 hx x0 hs
  have up : ∀ j b, T b ≠ 0 → upI (hang P n x (decide (k < ky n))) j b = upI P j b := fun j b hb => upI_fr j b (fun i _ hi => hang_u P _ (fun q => by
    have := (upI_z hw i b hb hi).2
    rw [q, hx] at this
    exact hb this.symm)) (hw.n0 hb)
  have old : ∀ b j, T b ≠ 0 → upI P (j + 1) b ≠ 0 → ((hang P n x (decide (k < ky n))).1 (upI P (j + 1) b) = upI P j b → P.1 (upI P (j + 1) b) = upI P j b) ∧ ((hang P n x (decide (k < ky n))).2.1 (upI P (j + 1) b) = upI P j b → P.2.1 (upI P (j + 1) b) = upI P j b) ∧ upI P (j + 1) b ≠ x := by
    intro b j hb hj
    have t1 := (upI_z hw (j + 1) b hb hj).2
    have t0 : upI P j b ≠ 0 := by
      intro q
      apply hj
      have : ∀ (j x : Nat), x ≠ 0 → upI P j x = 0 → upI P (j + 1) x = 0 := by
        intro j
        induction j with
        | zero => intro x x0 h; exact absurd h x0
        | succ j ih2 =>
          intro x x0 h
          by_cases u : P.2.2 x = 0
          · exact upI_N P (j + 1) x u
          · rw [upI_S P j x u] at h
            rw [upI_S P (j + 1) x u]
            exact ih2 _ u h
      exact this j b (hw.n0 hb) q
    have t2 := (upI_z hw j b hb t0).2
    have nx1 : upI P (j + 1) b ≠ x := fun q => by rw [q, hx] at t1; exact hb t1.symm
    have nx2 : upI P j b ≠ x := fun q => by rw [q, hx] at t2; exact hb t2.symm
    by_cases q : upI P (j + 1) b = n
    · have n0 : n ≠ 0 := by rw [← q]; exact hj
      rw [q, (hang_n P _ nx n0).1, (hang_n P _ nx n0).2]
      by_cases g : k < ky n
      · rw [decide_eq_true g]
        exact ⟨fun h => absurd h.symm nx2, fun h => h, by rw [← q]; exact nx1⟩
      · rw [decide_eq_false g]
        exact ⟨fun h => h, fun h => absurd h.symm nx2, by rw [← q]; exact nx1⟩
    · rw [(hang_o P _ nx1 q).1, (hang_o P _ nx1 q).2]
      exact ⟨fun h => h, fun h => h, nx1⟩
  by_cases q : a = x
  · subst q
    by_cases n0 : n = 0
    · intro j hj
      exact absurd (upI_N _ j a (by rw [(hang_x P _ nx).2.2]; exact n0)) hj
    · have tn : T n = κ := (hs n0).1
      have tn0 : T n ≠ 0 := by rw [tn]; exact κ0
      have hu : (hang P n a (decide (k < ky n))).2.2 a ≠ 0 := by rw [(hang_x P _ nx).2.2]; exact n0
      intro j
      cases j with
      | zero =>
        rw [upI_S _ _ _ hu, (hang_x P _ nx).2.2]
        intro _
        show ((hang P n a _).1 n = a → u1 ky a k a < u1 ky a k n) ∧ ((hang P n a _).2.1 n = a → u1 ky a k n < u1 ky a k a)
        rw [u1_s, u1_o _ _ nx, (hang_n P _ nx n0).1, (hang_n P _ nx n0).2]
        have nb := hw.ws.nb tn0 hx x0
        by_cases g : k < ky n
        · rw [decide_eq_true g]
          exact ⟨fun _ => g, fun h => absurd h nb.2.1⟩
        · rw [decide_eq_false g]
          exact ⟨fun h => absurd h nb.1, fun _ => i64_tri (fun q => hk n0 q.symm) g⟩
      | succ j =>
        rw [upI_S _ (j + 1) a hu, upI_S _ j a hu, (hang_x P _ nx).2.2, up (j + 1) n tn0, up j n tn0]
        intro hj
        obtain ⟨o1, o2, o3⟩ := old n j tn0 hj
        rw [u1_s, u1_o _ _ o3]
        exact ⟨fun h => (hd n0 j hj).1 (o1 h), fun h => (hd n0 j hj).2 (o2 h)⟩
  · rw [u1_o _ _ q] at ha
    have ta : T a ≠ 0 := by rw [ha]; exact κ0
    intro j
    rw [up (j + 1) a ta, up j a ta]
    intro hj
    obtain ⟨o1, o2, o3⟩ := old a j ta hj
    rw [u1_o _ _ q, u1_o _ _ o3]
    exact ⟨fun h => (hO a ha j hj).1 (o1 h), fun h => (hO a ha j hj).2 (o2 h)⟩
